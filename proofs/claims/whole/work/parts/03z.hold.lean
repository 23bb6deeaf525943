theorem all_split {l : List mRow} {a k : Nat} (h1 : ((l.drop a).take k).all okRow = true) (h2 : (l.drop (a + k)).all okRow = true) : (l.drop a).all okRow = true := by
  rw [← List.take_append_drop k (l.drop a), List.all_append, h1, List.drop_drop]
  rw [h2]
  rfl
abbrev gTbl0 : List Cond := lw_tbl.filter goodWord
set_option maxRecDepth 100000 in
theorem ok_228 : rows_228.all okRow = true := (all_split (a := 0) (k := 80) ok_228_0 (all_split (a := 80) (k := 80) ok_228_80 (all_split (a := 160) (k := 80) ok_228_160 (all_split (a := 240) (k := 80) ok_228_240 (all_split (a := 320) (k := 80) ok_228_320 (all_split (a := 400) (k := 80) ok_228_400 (all_split (a := 480) (k := 80) ok_228_480 (all_split (a := 560) (k := 80) ok_228_560 (all_split (a := 640) (k := 80) ok_228_640 (all_split (a := 720) (k := 80) ok_228_720 (all_split (a := 800) (k := 80) ok_228_800 (all_split (a := 880) (k := 80) ok_228_880 (all_split (a := 960) (k := 80) ok_228_960 (show (rows_228.drop 1040).all okRow = true by decide +kernel))))))))))))))
theorem gC_1 {w : Cond} (h : w ∈ tables_1_1) (hg : goodWord w = true) : w ∈ gTbl0 := List.mem_filter.mpr ⟨List.mem_append_right _ (List.mem_append_left _ h), hg⟩
theorem gC_2 {w : Cond} (h : w ∈ tables_1_2) (hg : goodWord w = true) : w ∈ gTbl0 := List.mem_filter.mpr ⟨List.mem_append_right _ (List.mem_append_right _ (List.mem_append_left _ h)), hg⟩
theorem gC_3 {w : Cond} (h : w ∈ tables_1_3) (hg : goodWord w = true) : w ∈ gTbl0 := List.mem_filter.mpr ⟨List.mem_append_right _ (List.mem_append_right _ (List.mem_append_right _ (List.mem_append_left _ h))), hg⟩
theorem gC_4 {w : Cond} (h : w ∈ tables_1_4) (hg : goodWord w = true) : w ∈ gTbl0 := List.mem_filter.mpr ⟨List.mem_append_right _ (List.mem_append_right _ (List.mem_append_right _ (List.mem_append_right _ (List.mem_append_left _ h)))), hg⟩
theorem gC_5 {w : Cond} (h : w ∈ tables_1_5) (hg : goodWord w = true) : w ∈ gTbl0 := List.mem_filter.mpr ⟨List.mem_append_right _ (List.mem_append_right _ (List.mem_append_right _ (List.mem_append_right _ (List.mem_append_right _ (List.mem_append_left _ h))))), hg⟩
theorem gC_6 {w : Cond} (h : w ∈ tables_1_6) (hg : goodWord w = true) : w ∈ gTbl0 := List.mem_filter.mpr ⟨List.mem_append_right _ (List.mem_append_right _ (List.mem_append_right _ (List.mem_append_right _ (List.mem_append_right _ (List.mem_append_right _ (List.mem_append_left _ h)))))), hg⟩
theorem gC_7 {w : Cond} (h : w ∈ tables_1_7) (hg : goodWord w = true) : w ∈ gTbl0 := List.mem_filter.mpr ⟨List.mem_append_right _ (List.mem_append_right _ (List.mem_append_right _ (List.mem_append_right _ (List.mem_append_right _ (List.mem_append_right _ (List.mem_append_right _ (h))))))), hg⟩
set_option maxRecDepth 20000 in
theorem cw_0 : Cond.code (mNm 0) (mBytes 0) (mMax 0) (mRet 0) ∈ gTbl0 := gC_1 (List.mem_of_getElem? (i := 237) rfl) rfl
set_option maxRecDepth 20000 in
theorem cw_1 : Cond.code (mNm 1) (mBytes 1) (mMax 1) (mRet 1) ∈ gTbl0 := gC_4 (List.mem_of_getElem? (i := 38) rfl) rfl
set_option maxRecDepth 20000 in
theorem cw_2 : Cond.code (mNm 2) (mBytes 2) (mMax 2) (mRet 2) ∈ gTbl0 := gC_4 (List.mem_of_getElem? (i := 42) rfl) rfl
set_option maxRecDepth 20000 in
theorem cw_3 : Cond.code (mNm 3) (mBytes 3) (mMax 3) (mRet 3) ∈ gTbl0 := gC_4 (List.mem_of_getElem? (i := 46) rfl) rfl
set_option maxRecDepth 20000 in
theorem cw_4 : Cond.code (mNm 4) (mBytes 4) (mMax 4) (mRet 4) ∈ gTbl0 := gC_4 (List.mem_of_getElem? (i := 52) rfl) rfl
set_option maxRecDepth 20000 in
theorem cw_5 : Cond.code (mNm 5) (mBytes 5) (mMax 5) (mRet 5) ∈ gTbl0 := gC_1 (List.mem_of_getElem? (i := 208) rfl) rfl
set_option maxRecDepth 20000 in
theorem cw_6 : Cond.code (mNm 6) (mBytes 6) (mMax 6) (mRet 6) ∈ gTbl0 := gC_3 (List.mem_of_getElem? (i := 71) rfl) rfl
set_option maxRecDepth 20000 in
theorem cw_7 : Cond.code (mNm 7) (mBytes 7) (mMax 7) (mRet 7) ∈ gTbl0 := gC_3 (List.mem_of_getElem? (i := 94) rfl) rfl
set_option maxRecDepth 20000 in
theorem cw_8 : Cond.code (mNm 8) (mBytes 8) (mMax 8) (mRet 8) ∈ gTbl0 := gC_3 (List.mem_of_getElem? (i := 99) rfl) rfl
set_option maxRecDepth 20000 in
theorem cw_9 : Cond.code (mNm 9) (mBytes 9) (mMax 9) (mRet 9) ∈ gTbl0 := gC_3 (List.mem_of_getElem? (i := 107) rfl) rfl
set_option maxRecDepth 20000 in
theorem cw_10 : Cond.code (mNm 10) (mBytes 10) (mMax 10) (mRet 10) ∈ gTbl0 := gC_3 (List.mem_of_getElem? (i := 115) rfl) rfl
set_option maxRecDepth 20000 in
theorem cw_11 : Cond.code (mNm 11) (mBytes 11) (mMax 11) (mRet 11) ∈ gTbl0 := gC_3 (List.mem_of_getElem? (i := 111) rfl) rfl
set_option maxRecDepth 20000 in
theorem cw_12 : Cond.code (mNm 12) (mBytes 12) (mMax 12) (mRet 12) ∈ gTbl0 := gC_3 (List.mem_of_getElem? (i := 121) rfl) rfl
set_option maxRecDepth 20000 in
theorem cw_13 : Cond.code (mNm 13) (mBytes 13) (mMax 13) (mRet 13) ∈ gTbl0 := gC_3 (List.mem_of_getElem? (i := 129) rfl) rfl
set_option maxRecDepth 20000 in
theorem cw_14 : Cond.code (mNm 14) (mBytes 14) (mMax 14) (mRet 14) ∈ gTbl0 := gC_3 (List.mem_of_getElem? (i := 134) rfl) rfl
set_option maxRecDepth 20000 in
theorem cw_15 : Cond.code (mNm 15) (mBytes 15) (mMax 15) (mRet 15) ∈ gTbl0 := gC_3 (List.mem_of_getElem? (i := 167) rfl) rfl
set_option maxRecDepth 20000 in
theorem cw_16 : Cond.code (mNm 16) (mBytes 16) (mMax 16) (mRet 16) ∈ gTbl0 := gC_3 (List.mem_of_getElem? (i := 142) rfl) rfl
set_option maxRecDepth 20000 in
theorem cw_17 : Cond.code (mNm 17) (mBytes 17) (mMax 17) (mRet 17) ∈ gTbl0 := gC_3 (List.mem_of_getElem? (i := 146) rfl) rfl
set_option maxRecDepth 20000 in
theorem cw_18 : Cond.code (mNm 18) (mBytes 18) (mMax 18) (mRet 18) ∈ gTbl0 := gC_3 (List.mem_of_getElem? (i := 154) rfl) rfl
set_option maxRecDepth 20000 in
theorem cw_19 : Cond.code (mNm 19) (mBytes 19) (mMax 19) (mRet 19) ∈ gTbl0 := gC_3 (List.mem_of_getElem? (i := 150) rfl) rfl
set_option maxRecDepth 20000 in
theorem cw_20 : Cond.code (mNm 20) (mBytes 20) (mMax 20) (mRet 20) ∈ gTbl0 := gC_3 (List.mem_of_getElem? (i := 159) rfl) rfl
set_option maxRecDepth 20000 in
theorem cw_21 : Cond.code (mNm 21) (mBytes 21) (mMax 21) (mRet 21) ∈ gTbl0 := gC_3 (List.mem_of_getElem? (i := 187) rfl) rfl
set_option maxRecDepth 20000 in
theorem cw_22 : Cond.code (mNm 22) (mBytes 22) (mMax 22) (mRet 22) ∈ gTbl0 := gC_3 (List.mem_of_getElem? (i := 196) rfl) rfl
set_option maxRecDepth 20000 in
theorem cw_23 : Cond.code (mNm 23) (mBytes 23) (mMax 23) (mRet 23) ∈ gTbl0 := gC_3 (List.mem_of_getElem? (i := 204) rfl) rfl
set_option maxRecDepth 20000 in
theorem cw_24 : Cond.code (mNm 24) (mBytes 24) (mMax 24) (mRet 24) ∈ gTbl0 := gC_3 (List.mem_of_getElem? (i := 234) rfl) rfl
set_option maxRecDepth 20000 in
theorem cw_25 : Cond.code (mNm 25) (mBytes 25) (mMax 25) (mRet 25) ∈ gTbl0 := gC_1 (List.mem_of_getElem? (i := 141) rfl) rfl
set_option maxRecDepth 20000 in
theorem cw_26 : Cond.code (mNm 26) (mBytes 26) (mMax 26) (mRet 26) ∈ gTbl0 := gC_2 (List.mem_of_getElem? (i := 175) rfl) rfl
set_option maxRecDepth 20000 in
theorem cw_27 : Cond.code (mNm 27) (mBytes 27) (mMax 27) (mRet 27) ∈ gTbl0 := gC_3 (List.mem_of_getElem? (i := 34) rfl) rfl
set_option maxRecDepth 20000 in
theorem cw_28 : Cond.code (mNm 28) (mBytes 28) (mMax 28) (mRet 28) ∈ gTbl0 := gC_3 (List.mem_of_getElem? (i := 38) rfl) rfl
set_option maxRecDepth 20000 in
theorem cw_29 : Cond.code (mNm 29) (mBytes 29) (mMax 29) (mRet 29) ∈ gTbl0 := gC_2 (List.mem_of_getElem? (i := 104) rfl) rfl
set_option maxRecDepth 20000 in
theorem cw_30 : Cond.code (mNm 30) (mBytes 30) (mMax 30) (mRet 30) ∈ gTbl0 := gC_2 (List.mem_of_getElem? (i := 86) rfl) rfl
set_option maxRecDepth 20000 in
theorem cw_31 : Cond.code (mNm 31) (mBytes 31) (mMax 31) (mRet 31) ∈ gTbl0 := gC_2 (List.mem_of_getElem? (i := 113) rfl) rfl
set_option maxRecDepth 20000 in
theorem cw_32 : Cond.code (mNm 32) (mBytes 32) (mMax 32) (mRet 32) ∈ gTbl0 := gC_2 (List.mem_of_getElem? (i := 116) rfl) rfl
set_option maxRecDepth 20000 in
theorem cw_33 : Cond.code (mNm 33) (mBytes 33) (mMax 33) (mRet 33) ∈ gTbl0 := gC_2 (List.mem_of_getElem? (i := 90) rfl) rfl
set_option maxRecDepth 20000 in
theorem cw_34 : Cond.code (mNm 34) (mBytes 34) (mMax 34) (mRet 34) ∈ gTbl0 := gC_2 (List.mem_of_getElem? (i := 94) rfl) rfl
set_option maxRecDepth 20000 in
theorem cw_35 : Cond.code (mNm 35) (mBytes 35) (mMax 35) (mRet 35) ∈ gTbl0 := gC_2 (List.mem_of_getElem? (i := 100) rfl) rfl
set_option maxRecDepth 20000 in
theorem cw_36 : Cond.code (mNm 36) (mBytes 36) (mMax 36) (mRet 36) ∈ gTbl0 := gC_2 (List.mem_of_getElem? (i := 121) rfl) rfl
set_option maxRecDepth 20000 in
theorem cw_37 : Cond.code (mNm 37) (mBytes 37) (mMax 37) (mRet 37) ∈ gTbl0 := gC_2 (List.mem_of_getElem? (i := 125) rfl) rfl
set_option maxRecDepth 20000 in
theorem cw_38 : Cond.code (mNm 38) (mBytes 38) (mMax 38) (mRet 38) ∈ gTbl0 := gC_2 (List.mem_of_getElem? (i := 137) rfl) rfl
set_option maxRecDepth 20000 in
theorem cw_39 : Cond.code (mNm 39) (mBytes 39) (mMax 39) (mRet 39) ∈ gTbl0 := gC_1 (List.mem_of_getElem? (i := 57) rfl) rfl
set_option maxRecDepth 20000 in
theorem cw_40 : Cond.code (mNm 40) (mBytes 40) (mMax 40) (mRet 40) ∈ gTbl0 := gC_2 (List.mem_of_getElem? (i := 67) rfl) rfl
set_option maxRecDepth 20000 in
theorem cw_41 : Cond.code (mNm 41) (mBytes 41) (mMax 41) (mRet 41) ∈ gTbl0 := gC_3 (List.mem_of_getElem? (i := 75) rfl) rfl
set_option maxRecDepth 20000 in
theorem cw_42 : Cond.code (mNm 42) (mBytes 42) (mMax 42) (mRet 42) ∈ gTbl0 := gC_3 (List.mem_of_getElem? (i := 63) rfl) rfl
set_option maxRecDepth 20000 in
theorem cw_43 : Cond.code (mNm 43) (mBytes 43) (mMax 43) (mRet 43) ∈ gTbl0 := gC_1 (List.mem_of_getElem? (i := 181) rfl) rfl
set_option maxRecDepth 20000 in
theorem cw_44 : Cond.code (mNm 44) (mBytes 44) (mMax 44) (mRet 44) ∈ gTbl0 := gC_3 (List.mem_of_getElem? (i := 42) rfl) rfl
set_option maxRecDepth 20000 in
theorem cw_45 : Cond.code (mNm 45) (mBytes 45) (mMax 45) (mRet 45) ∈ gTbl0 := gC_2 (List.mem_of_getElem? (i := 171) rfl) rfl
set_option maxRecDepth 20000 in
theorem cw_46 : Cond.code (mNm 46) (mBytes 46) (mMax 46) (mRet 46) ∈ gTbl0 := gC_2 (List.mem_of_getElem? (i := 179) rfl) rfl
set_option maxRecDepth 20000 in
theorem cw_47 : Cond.code (mNm 47) (mBytes 47) (mMax 47) (mRet 47) ∈ gTbl0 := gC_2 (List.mem_of_getElem? (i := 183) rfl) rfl
set_option maxRecDepth 20000 in
theorem cw_48 : Cond.code (mNm 48) (mBytes 48) (mMax 48) (mRet 48) ∈ gTbl0 := gC_2 (List.mem_of_getElem? (i := 196) rfl) rfl
set_option maxRecDepth 20000 in
theorem cw_49 : Cond.code (mNm 49) (mBytes 49) (mMax 49) (mRet 49) ∈ gTbl0 := gC_2 (List.mem_of_getElem? (i := 187) rfl) rfl
set_option maxRecDepth 20000 in
theorem cw_50 : Cond.code (mNm 50) (mBytes 50) (mMax 50) (mRet 50) ∈ gTbl0 := gC_2 (List.mem_of_getElem? (i := 191) rfl) rfl
set_option maxRecDepth 20000 in
theorem cw_51 : Cond.code (mNm 51) (mBytes 51) (mMax 51) (mRet 51) ∈ gTbl0 := gC_3 (List.mem_of_getElem? (i := 13) rfl) rfl
set_option maxRecDepth 20000 in
theorem cw_52 : Cond.code (mNm 52) (mBytes 52) (mMax 52) (mRet 52) ∈ gTbl0 := gC_3 (List.mem_of_getElem? (i := 18) rfl) rfl
set_option maxRecDepth 20000 in
theorem cw_53 : Cond.code (mNm 53) (mBytes 53) (mMax 53) (mRet 53) ∈ gTbl0 := gC_3 (List.mem_of_getElem? (i := 22) rfl) rfl
set_option maxRecDepth 20000 in
theorem cw_54 : Cond.code (mNm 54) (mBytes 54) (mMax 54) (mRet 54) ∈ gTbl0 := gC_3 (List.mem_of_getElem? (i := 26) rfl) rfl
set_option maxRecDepth 20000 in
theorem cw_55 : Cond.code (mNm 55) (mBytes 55) (mMax 55) (mRet 55) ∈ gTbl0 := gC_3 (List.mem_of_getElem? (i := 30) rfl) rfl
set_option maxRecDepth 20000 in
theorem cw_56 : Cond.code (mNm 56) (mBytes 56) (mMax 56) (mRet 56) ∈ gTbl0 := gC_1 (List.mem_of_getElem? (i := 39) rfl) rfl
set_option maxRecDepth 20000 in
theorem cw_57 : Cond.code (mNm 57) (mBytes 57) (mMax 57) (mRet 57) ∈ gTbl0 := gC_3 (List.mem_of_getElem? (i := 175) rfl) rfl
set_option maxRecDepth 20000 in
theorem cw_58 : Cond.code (mNm 58) (mBytes 58) (mMax 58) (mRet 58) ∈ gTbl0 := gC_3 (List.mem_of_getElem? (i := 179) rfl) rfl
set_option maxRecDepth 20000 in
theorem cw_59 : Cond.code (mNm 59) (mBytes 59) (mMax 59) (mRet 59) ∈ gTbl0 := gC_3 (List.mem_of_getElem? (i := 191) rfl) rfl
set_option maxRecDepth 20000 in
theorem cw_60 : Cond.code (mNm 60) (mBytes 60) (mMax 60) (mRet 60) ∈ gTbl0 := gC_4 (List.mem_of_getElem? (i := 24) rfl) rfl
set_option maxRecDepth 20000 in
theorem cw_61 : Cond.code (mNm 61) (mBytes 61) (mMax 61) (mRet 61) ∈ gTbl0 := gC_2 (List.mem_of_getElem? (i := 13) rfl) rfl
set_option maxRecDepth 20000 in
theorem cw_62 : Cond.code (mNm 62) (mBytes 62) (mMax 62) (mRet 62) ∈ gTbl0 := gC_4 (List.mem_of_getElem? (i := 78) rfl) rfl
set_option maxRecDepth 20000 in
theorem cw_63 : Cond.code (mNm 63) (mBytes 63) (mMax 63) (mRet 63) ∈ gTbl0 := gC_4 (List.mem_of_getElem? (i := 91) rfl) rfl
set_option maxRecDepth 20000 in
theorem cw_64 : Cond.code (mNm 64) (mBytes 64) (mMax 64) (mRet 64) ∈ gTbl0 := gC_1 (List.mem_of_getElem? (i := 31) rfl) rfl
set_option maxRecDepth 20000 in
theorem cw_65 : Cond.code (mNm 65) (mBytes 65) (mMax 65) (mRet 65) ∈ gTbl0 := gC_4 (List.mem_of_getElem? (i := 19) rfl) rfl
set_option maxRecDepth 20000 in
theorem cw_66 : Cond.code (mNm 66) (mBytes 66) (mMax 66) (mRet 66) ∈ gTbl0 := gC_1 (List.mem_of_getElem? (i := 23) rfl) rfl
set_option maxRecDepth 20000 in
theorem cw_67 : Cond.code (mNm 67) (mBytes 67) (mMax 67) (mRet 67) ∈ gTbl0 := gC_2 (List.mem_of_getElem? (i := 63) rfl) rfl
set_option maxRecDepth 20000 in
theorem cw_68 : Cond.code (mNm 68) (mBytes 68) (mMax 68) (mRet 68) ∈ gTbl0 := gC_2 (List.mem_of_getElem? (i := 74) rfl) rfl
set_option maxRecDepth 20000 in
theorem cw_69 : Cond.code (mNm 69) (mBytes 69) (mMax 69) (mRet 69) ∈ gTbl0 := gC_2 (List.mem_of_getElem? (i := 141) rfl) rfl
set_option maxRecDepth 20000 in
theorem cw_70 : Cond.code (mNm 70) (mBytes 70) (mMax 70) (mRet 70) ∈ gTbl0 := gC_2 (List.mem_of_getElem? (i := 148) rfl) rfl
set_option maxRecDepth 20000 in
theorem cw_71 : Cond.code (mNm 71) (mBytes 71) (mMax 71) (mRet 71) ∈ gTbl0 := gC_2 (List.mem_of_getElem? (i := 152) rfl) rfl
set_option maxRecDepth 20000 in
theorem cw_72 : Cond.code (mNm 72) (mBytes 72) (mMax 72) (mRet 72) ∈ gTbl0 := gC_2 (List.mem_of_getElem? (i := 156) rfl) rfl
set_option maxRecDepth 20000 in
theorem cw_73 : Cond.code (mNm 73) (mBytes 73) (mMax 73) (mRet 73) ∈ gTbl0 := gC_2 (List.mem_of_getElem? (i := 163) rfl) rfl
set_option maxRecDepth 20000 in
theorem cw_74 : Cond.code (mNm 74) (mBytes 74) (mMax 74) (mRet 74) ∈ gTbl0 := gC_2 (List.mem_of_getElem? (i := 167) rfl) rfl
set_option maxRecDepth 20000 in
theorem cw_75 : Cond.code (mNm 75) (mBytes 75) (mMax 75) (mRet 75) ∈ gTbl0 := gC_3 (List.mem_of_getElem? (i := 47) rfl) rfl
set_option maxRecDepth 20000 in
theorem cw_76 : Cond.code (mNm 76) (mBytes 76) (mMax 76) (mRet 76) ∈ gTbl0 := gC_3 (List.mem_of_getElem? (i := 56) rfl) rfl
set_option maxRecDepth 20000 in
theorem cw_77 : Cond.code (mNm 77) (mBytes 77) (mMax 77) (mRet 77) ∈ gTbl0 := gC_3 (List.mem_of_getElem? (i := 67) rfl) rfl
set_option maxRecDepth 20000 in
theorem cw_78 : Cond.code (mNm 78) (mBytes 78) (mMax 78) (mRet 78) ∈ gTbl0 := gC_3 (List.mem_of_getElem? (i := 83) rfl) rfl
set_option maxRecDepth 20000 in
theorem cw_79 : Cond.code (mNm 79) (mBytes 79) (mMax 79) (mRet 79) ∈ gTbl0 := gC_3 (List.mem_of_getElem? (i := 87) rfl) rfl
set_option maxRecDepth 20000 in
theorem cw_80 : Cond.code (mNm 80) (mBytes 80) (mMax 80) (mRet 80) ∈ gTbl0 := gC_3 (List.mem_of_getElem? (i := 103) rfl) rfl
set_option maxRecDepth 20000 in
theorem cw_81 : Cond.code (mNm 81) (mBytes 81) (mMax 81) (mRet 81) ∈ gTbl0 := gC_3 (List.mem_of_getElem? (i := 125) rfl) rfl
set_option maxRecDepth 20000 in
theorem cw_82 : Cond.code (mNm 82) (mBytes 82) (mMax 82) (mRet 82) ∈ gTbl0 := gC_3 (List.mem_of_getElem? (i := 138) rfl) rfl
set_option maxRecDepth 20000 in
theorem cw_83 : Cond.code (mNm 83) (mBytes 83) (mMax 83) (mRet 83) ∈ gTbl0 := gC_3 (List.mem_of_getElem? (i := 163) rfl) rfl
set_option maxRecDepth 20000 in
theorem cw_84 : Cond.code (mNm 84) (mBytes 84) (mMax 84) (mRet 84) ∈ gTbl0 := gC_3 (List.mem_of_getElem? (i := 171) rfl) rfl
set_option maxRecDepth 20000 in
theorem cw_85 : Cond.code (mNm 85) (mBytes 85) (mMax 85) (mRet 85) ∈ gTbl0 := gC_3 (List.mem_of_getElem? (i := 183) rfl) rfl
set_option maxRecDepth 20000 in
theorem cw_86 : Cond.code (mNm 86) (mBytes 86) (mMax 86) (mRet 86) ∈ gTbl0 := gC_3 (List.mem_of_getElem? (i := 200) rfl) rfl
set_option maxRecDepth 20000 in
theorem cw_87 : Cond.code (mNm 87) (mBytes 87) (mMax 87) (mRet 87) ∈ gTbl0 := gC_3 (List.mem_of_getElem? (i := 210) rfl) rfl
set_option maxRecDepth 20000 in
theorem cw_88 : Cond.code (mNm 88) (mBytes 88) (mMax 88) (mRet 88) ∈ gTbl0 := gC_3 (List.mem_of_getElem? (i := 214) rfl) rfl
set_option maxRecDepth 20000 in
theorem cw_89 : Cond.code (mNm 89) (mBytes 89) (mMax 89) (mRet 89) ∈ gTbl0 := gC_3 (List.mem_of_getElem? (i := 222) rfl) rfl
set_option maxRecDepth 20000 in
theorem cw_90 : Cond.code (mNm 90) (mBytes 90) (mMax 90) (mRet 90) ∈ gTbl0 := gC_3 (List.mem_of_getElem? (i := 226) rfl) rfl
set_option maxRecDepth 20000 in
theorem cw_91 : Cond.code (mNm 91) (mBytes 91) (mMax 91) (mRet 91) ∈ gTbl0 := gC_3 (List.mem_of_getElem? (i := 230) rfl) rfl
set_option maxRecDepth 20000 in
theorem cw_92 : Cond.code (mNm 92) (mBytes 92) (mMax 92) (mRet 92) ∈ gTbl0 := gC_3 (List.mem_of_getElem? (i := 239) rfl) rfl
set_option maxRecDepth 20000 in
theorem cw_93 : Cond.code (mNm 93) (mBytes 93) (mMax 93) (mRet 93) ∈ gTbl0 := gC_4 (List.mem_of_getElem? (i := 3) rfl) rfl
set_option maxRecDepth 20000 in
theorem cw_94 : Cond.code (mNm 94) (mBytes 94) (mMax 94) (mRet 94) ∈ gTbl0 := gC_4 (List.mem_of_getElem? (i := 8) rfl) rfl
set_option maxRecDepth 20000 in
theorem cw_95 : Cond.code (mNm 95) (mBytes 95) (mMax 95) (mRet 95) ∈ gTbl0 := gC_4 (List.mem_of_getElem? (i := 15) rfl) rfl
set_option maxRecDepth 20000 in
theorem cw_96 : Cond.code (mNm 96) (mBytes 96) (mMax 96) (mRet 96) ∈ gTbl0 := gC_4 (List.mem_of_getElem? (i := 30) rfl) rfl
set_option maxRecDepth 20000 in
theorem cw_97 : Cond.code (mNm 97) (mBytes 97) (mMax 97) (mRet 97) ∈ gTbl0 := gC_4 (List.mem_of_getElem? (i := 34) rfl) rfl
set_option maxRecDepth 20000 in
theorem cw_98 : Cond.code (mNm 98) (mBytes 98) (mMax 98) (mRet 98) ∈ gTbl0 := gC_4 (List.mem_of_getElem? (i := 58) rfl) rfl
set_option maxRecDepth 20000 in
theorem cw_99 : Cond.code (mNm 99) (mBytes 99) (mMax 99) (mRet 99) ∈ gTbl0 := gC_4 (List.mem_of_getElem? (i := 62) rfl) rfl
set_option maxRecDepth 20000 in
theorem cw_100 : Cond.code (mNm 100) (mBytes 100) (mMax 100) (mRet 100) ∈ gTbl0 := gC_4 (List.mem_of_getElem? (i := 70) rfl) rfl
set_option maxRecDepth 20000 in
theorem cw_101 : Cond.code (mNm 101) (mBytes 101) (mMax 101) (mRet 101) ∈ gTbl0 := gC_4 (List.mem_of_getElem? (i := 74) rfl) rfl
set_option maxRecDepth 20000 in
theorem cw_102 : Cond.code (mNm 102) (mBytes 102) (mMax 102) (mRet 102) ∈ gTbl0 := gC_4 (List.mem_of_getElem? (i := 87) rfl) rfl
set_option maxRecDepth 20000 in
theorem cw_103 : Cond.code (mNm 103) (mBytes 103) (mMax 103) (mRet 103) ∈ gTbl0 := gC_4 (List.mem_of_getElem? (i := 95) rfl) rfl
set_option maxRecDepth 20000 in
theorem cw_104 : Cond.code (mNm 104) (mBytes 104) (mMax 104) (mRet 104) ∈ gTbl0 := gC_4 (List.mem_of_getElem? (i := 99) rfl) rfl
set_option maxRecDepth 20000 in
theorem cw_105 : Cond.code (mNm 105) (mBytes 105) (mMax 105) (mRet 105) ∈ gTbl0 := gC_2 (List.mem_of_getElem? (i := 78) rfl) rfl
set_option maxRecDepth 20000 in
theorem cw_106 : Cond.code (mNm 106) (mBytes 106) (mMax 106) (mRet 106) ∈ gTbl0 := gC_2 (List.mem_of_getElem? (i := 144) rfl) rfl
set_option maxRecDepth 20000 in
theorem cw_107 : Cond.code (mNm 107) (mBytes 107) (mMax 107) (mRet 107) ∈ gTbl0 := gC_2 (List.mem_of_getElem? (i := 159) rfl) rfl
set_option maxRecDepth 20000 in
theorem cw_108 : Cond.code (mNm 108) (mBytes 108) (mMax 108) (mRet 108) ∈ gTbl0 := gC_3 (List.mem_of_getElem? (i := 59) rfl) rfl
set_option maxRecDepth 20000 in
theorem cw_109 : Cond.code (mNm 109) (mBytes 109) (mMax 109) (mRet 109) ∈ gTbl0 := gC_4 (List.mem_of_getElem? (i := 11) rfl) rfl
set_option maxRecDepth 20000 in
theorem cw_110 : Cond.code (mNm 110) (mBytes 110) (mMax 110) (mRet 110) ∈ gTbl0 := gC_3 (List.mem_of_getElem? (i := 90) rfl) rfl
set_option maxRecDepth 20000 in
theorem cw_111 : Cond.code (mNm 111) (mBytes 111) (mMax 111) (mRet 111) ∈ gTbl0 := gC_4 (List.mem_of_getElem? (i := 65) rfl) rfl
set_option maxRecDepth 20000 in
theorem cw_112 : Cond.code (mNm 112) (mBytes 112) (mMax 112) (mRet 112) ∈ gTbl0 := gC_2 (List.mem_of_getElem? (i := 82) rfl) rfl
set_option maxRecDepth 20000 in
theorem cw_113 : Cond.code (mNm 113) (mBytes 113) (mMax 113) (mRet 113) ∈ gTbl0 := gC_3 (List.mem_of_getElem? (i := 52) rfl) rfl
set_option maxRecDepth 20000 in
theorem cw_114 : Cond.code (mNm 114) (mBytes 114) (mMax 114) (mRet 114) ∈ gTbl0 := gC_3 (List.mem_of_getElem? (i := 218) rfl) rfl
set_option maxRecDepth 20000 in
theorem cw_115 : Cond.code (mNm 115) (mBytes 115) (mMax 115) (mRet 115) ∈ gTbl0 := gC_4 (List.mem_of_getElem? (i := 105) rfl) rfl
set_option maxRecDepth 20000 in
theorem cw_116 : Cond.code (mNm 116) (mBytes 116) (mMax 116) (mRet 116) ∈ gTbl0 := gC_5 (List.mem_of_getElem? (i := 116) rfl) rfl
set_option maxRecDepth 20000 in
theorem cw_117 : Cond.code (mNm 117) (mBytes 117) (mMax 117) (mRet 117) ∈ gTbl0 := gC_5 (List.mem_of_getElem? (i := 136) rfl) rfl
set_option maxRecDepth 20000 in
theorem cw_118 : Cond.code (mNm 118) (mBytes 118) (mMax 118) (mRet 118) ∈ gTbl0 := gC_6 (List.mem_of_getElem? (i := 20) rfl) rfl
set_option maxRecDepth 20000 in
theorem cw_119 : Cond.code (mNm 119) (mBytes 119) (mMax 119) (mRet 119) ∈ gTbl0 := gC_5 (List.mem_of_getElem? (i := 124) rfl) rfl
set_option maxRecDepth 20000 in
theorem cw_120 : Cond.code (mNm 120) (mBytes 120) (mMax 120) (mRet 120) ∈ gTbl0 := gC_5 (List.mem_of_getElem? (i := 128) rfl) rfl
set_option maxRecDepth 20000 in
theorem cw_121 : Cond.code (mNm 121) (mBytes 121) (mMax 121) (mRet 121) ∈ gTbl0 := gC_5 (List.mem_of_getElem? (i := 152) rfl) rfl
set_option maxRecDepth 20000 in
theorem cw_122 : Cond.code (mNm 122) (mBytes 122) (mMax 122) (mRet 122) ∈ gTbl0 := gC_6 (List.mem_of_getElem? (i := 64) rfl) rfl
set_option maxRecDepth 20000 in
theorem cw_123 : Cond.code (mNm 123) (mBytes 123) (mMax 123) (mRet 123) ∈ gTbl0 := gC_5 (List.mem_of_getElem? (i := 112) rfl) rfl
set_option maxRecDepth 20000 in
theorem cw_124 : Cond.code (mNm 124) (mBytes 124) (mMax 124) (mRet 124) ∈ gTbl0 := gC_5 (List.mem_of_getElem? (i := 120) rfl) rfl
set_option maxRecDepth 20000 in
theorem cw_125 : Cond.code (mNm 125) (mBytes 125) (mMax 125) (mRet 125) ∈ gTbl0 := gC_5 (List.mem_of_getElem? (i := 140) rfl) rfl
set_option maxRecDepth 20000 in
theorem cw_126 : Cond.code (mNm 126) (mBytes 126) (mMax 126) (mRet 126) ∈ gTbl0 := gC_5 (List.mem_of_getElem? (i := 132) rfl) rfl
set_option maxRecDepth 20000 in
theorem cw_127 : Cond.code (mNm 127) (mBytes 127) (mMax 127) (mRet 127) ∈ gTbl0 := gC_5 (List.mem_of_getElem? (i := 144) rfl) rfl
set_option maxRecDepth 20000 in
theorem cw_128 : Cond.code (mNm 128) (mBytes 128) (mMax 128) (mRet 128) ∈ gTbl0 := gC_5 (List.mem_of_getElem? (i := 148) rfl) rfl
set_option maxRecDepth 20000 in
theorem cw_129 : Cond.code (mNm 129) (mBytes 129) (mMax 129) (mRet 129) ∈ gTbl0 := gC_5 (List.mem_of_getElem? (i := 156) rfl) rfl
set_option maxRecDepth 20000 in
theorem cw_130 : Cond.code (mNm 130) (mBytes 130) (mMax 130) (mRet 130) ∈ gTbl0 := gC_5 (List.mem_of_getElem? (i := 176) rfl) rfl
set_option maxRecDepth 20000 in
theorem cw_131 : Cond.code (mNm 131) (mBytes 131) (mMax 131) (mRet 131) ∈ gTbl0 := gC_5 (List.mem_of_getElem? (i := 184) rfl) rfl
set_option maxRecDepth 20000 in
theorem cw_132 : Cond.code (mNm 132) (mBytes 132) (mMax 132) (mRet 132) ∈ gTbl0 := gC_5 (List.mem_of_getElem? (i := 180) rfl) rfl
set_option maxRecDepth 20000 in
theorem cw_133 : Cond.code (mNm 133) (mBytes 133) (mMax 133) (mRet 133) ∈ gTbl0 := gC_5 (List.mem_of_getElem? (i := 192) rfl) rfl
set_option maxRecDepth 20000 in
theorem cw_134 : Cond.code (mNm 134) (mBytes 134) (mMax 134) (mRet 134) ∈ gTbl0 := gC_5 (List.mem_of_getElem? (i := 188) rfl) rfl
set_option maxRecDepth 20000 in
theorem cw_135 : Cond.code (mNm 135) (mBytes 135) (mMax 135) (mRet 135) ∈ gTbl0 := gC_5 (List.mem_of_getElem? (i := 208) rfl) rfl
set_option maxRecDepth 20000 in
theorem cw_136 : Cond.code (mNm 136) (mBytes 136) (mMax 136) (mRet 136) ∈ gTbl0 := gC_5 (List.mem_of_getElem? (i := 212) rfl) rfl
set_option maxRecDepth 20000 in
theorem cw_137 : Cond.code (mNm 137) (mBytes 137) (mMax 137) (mRet 137) ∈ gTbl0 := gC_5 (List.mem_of_getElem? (i := 216) rfl) rfl
set_option maxRecDepth 20000 in
theorem cw_138 : Cond.code (mNm 138) (mBytes 138) (mMax 138) (mRet 138) ∈ gTbl0 := gC_5 (List.mem_of_getElem? (i := 204) rfl) rfl
set_option maxRecDepth 20000 in
theorem cw_139 : Cond.code (mNm 139) (mBytes 139) (mMax 139) (mRet 139) ∈ gTbl0 := gC_5 (List.mem_of_getElem? (i := 200) rfl) rfl
set_option maxRecDepth 20000 in
theorem cw_140 : Cond.code (mNm 140) (mBytes 140) (mMax 140) (mRet 140) ∈ gTbl0 := gC_5 (List.mem_of_getElem? (i := 196) rfl) rfl
set_option maxRecDepth 20000 in
theorem cw_141 : Cond.code (mNm 141) (mBytes 141) (mMax 141) (mRet 141) ∈ gTbl0 := gC_5 (List.mem_of_getElem? (i := 172) rfl) rfl
set_option maxRecDepth 20000 in
theorem cw_142 : Cond.code (mNm 142) (mBytes 142) (mMax 142) (mRet 142) ∈ gTbl0 := gC_5 (List.mem_of_getElem? (i := 168) rfl) rfl
set_option maxRecDepth 20000 in
theorem cw_143 : Cond.code (mNm 143) (mBytes 143) (mMax 143) (mRet 143) ∈ gTbl0 := gC_5 (List.mem_of_getElem? (i := 164) rfl) rfl
set_option maxRecDepth 20000 in
theorem cw_144 : Cond.code (mNm 144) (mBytes 144) (mMax 144) (mRet 144) ∈ gTbl0 := gC_5 (List.mem_of_getElem? (i := 160) rfl) rfl
set_option maxRecDepth 20000 in
theorem cw_145 : Cond.code (mNm 145) (mBytes 145) (mMax 145) (mRet 145) ∈ gTbl0 := gC_5 (List.mem_of_getElem? (i := 232) rfl) rfl
set_option maxRecDepth 20000 in
theorem cw_146 : Cond.code (mNm 146) (mBytes 146) (mMax 146) (mRet 146) ∈ gTbl0 := gC_5 (List.mem_of_getElem? (i := 236) rfl) rfl
set_option maxRecDepth 20000 in
theorem cw_147 : Cond.code (mNm 147) (mBytes 147) (mMax 147) (mRet 147) ∈ gTbl0 := gC_6 (List.mem_of_getElem? (i := 16) rfl) rfl
set_option maxRecDepth 20000 in
theorem cw_148 : Cond.code (mNm 148) (mBytes 148) (mMax 148) (mRet 148) ∈ gTbl0 := gC_6 (List.mem_of_getElem? (i := 40) rfl) rfl
set_option maxRecDepth 20000 in
theorem cw_149 : Cond.code (mNm 149) (mBytes 149) (mMax 149) (mRet 149) ∈ gTbl0 := gC_6 (List.mem_of_getElem? (i := 12) rfl) rfl
set_option maxRecDepth 20000 in
theorem cw_150 : Cond.code (mNm 150) (mBytes 150) (mMax 150) (mRet 150) ∈ gTbl0 := gC_6 (List.mem_of_getElem? (i := 28) rfl) rfl
set_option maxRecDepth 20000 in
theorem cw_151 : Cond.code (mNm 151) (mBytes 151) (mMax 151) (mRet 151) ∈ gTbl0 := gC_6 (List.mem_of_getElem? (i := 4) rfl) rfl
set_option maxRecDepth 20000 in
theorem cw_152 : Cond.code (mNm 152) (mBytes 152) (mMax 152) (mRet 152) ∈ gTbl0 := gC_6 (List.mem_of_getElem? (i := 0) rfl) rfl
set_option maxRecDepth 20000 in
theorem cw_153 : Cond.code (mNm 153) (mBytes 153) (mMax 153) (mRet 153) ∈ gTbl0 := gC_5 (List.mem_of_getElem? (i := 228) rfl) rfl
set_option maxRecDepth 20000 in
theorem cw_154 : Cond.code (mNm 154) (mBytes 154) (mMax 154) (mRet 154) ∈ gTbl0 := gC_6 (List.mem_of_getElem? (i := 8) rfl) rfl
set_option maxRecDepth 20000 in
theorem cw_155 : Cond.code (mNm 155) (mBytes 155) (mMax 155) (mRet 155) ∈ gTbl0 := gC_5 (List.mem_of_getElem? (i := 224) rfl) rfl
set_option maxRecDepth 20000 in
theorem cw_156 : Cond.code (mNm 156) (mBytes 156) (mMax 156) (mRet 156) ∈ gTbl0 := gC_6 (List.mem_of_getElem? (i := 36) rfl) rfl
set_option maxRecDepth 20000 in
theorem cw_157 : Cond.code (mNm 157) (mBytes 157) (mMax 157) (mRet 157) ∈ gTbl0 := gC_6 (List.mem_of_getElem? (i := 44) rfl) rfl
set_option maxRecDepth 20000 in
theorem cw_158 : Cond.code (mNm 158) (mBytes 158) (mMax 158) (mRet 158) ∈ gTbl0 := gC_6 (List.mem_of_getElem? (i := 32) rfl) rfl
set_option maxRecDepth 20000 in
theorem cw_159 : Cond.code (mNm 159) (mBytes 159) (mMax 159) (mRet 159) ∈ gTbl0 := gC_6 (List.mem_of_getElem? (i := 24) rfl) rfl
set_option maxRecDepth 20000 in
theorem cw_160 : Cond.code (mNm 160) (mBytes 160) (mMax 160) (mRet 160) ∈ gTbl0 := gC_6 (List.mem_of_getElem? (i := 56) rfl) rfl
set_option maxRecDepth 20000 in
theorem cw_161 : Cond.code (mNm 161) (mBytes 161) (mMax 161) (mRet 161) ∈ gTbl0 := gC_6 (List.mem_of_getElem? (i := 48) rfl) rfl
set_option maxRecDepth 20000 in
theorem cw_162 : Cond.code (mNm 162) (mBytes 162) (mMax 162) (mRet 162) ∈ gTbl0 := gC_5 (List.mem_of_getElem? (i := 220) rfl) rfl
set_option maxRecDepth 20000 in
theorem cw_163 : Cond.code (mNm 163) (mBytes 163) (mMax 163) (mRet 163) ∈ gTbl0 := gC_6 (List.mem_of_getElem? (i := 52) rfl) rfl
set_option maxRecDepth 20000 in
theorem cw_164 : Cond.code (mNm 164) (mBytes 164) (mMax 164) (mRet 164) ∈ gTbl0 := gC_6 (List.mem_of_getElem? (i := 72) rfl) rfl
set_option maxRecDepth 20000 in
theorem cw_165 : Cond.code (mNm 165) (mBytes 165) (mMax 165) (mRet 165) ∈ gTbl0 := gC_6 (List.mem_of_getElem? (i := 68) rfl) rfl
set_option maxRecDepth 20000 in
theorem cw_166 : Cond.code (mNm 166) (mBytes 166) (mMax 166) (mRet 166) ∈ gTbl0 := gC_6 (List.mem_of_getElem? (i := 60) rfl) rfl
set_option maxRecDepth 20000 in
theorem cw_167 : Cond.code (mNm 167) (mBytes 167) (mMax 167) (mRet 167) ∈ gTbl0 := gC_6 (List.mem_of_getElem? (i := 80) rfl) rfl
set_option maxRecDepth 20000 in
theorem cw_168 : Cond.code (mNm 168) (mBytes 168) (mMax 168) (mRet 168) ∈ gTbl0 := gC_6 (List.mem_of_getElem? (i := 84) rfl) rfl
set_option maxRecDepth 20000 in
theorem cw_169 : Cond.code (mNm 169) (mBytes 169) (mMax 169) (mRet 169) ∈ gTbl0 := gC_6 (List.mem_of_getElem? (i := 76) rfl) rfl
set_option maxRecDepth 20000 in
theorem cw_170 : Cond.code (mNm 170) (mBytes 170) (mMax 170) (mRet 170) ∈ gTbl0 := gC_6 (List.mem_of_getElem? (i := 92) rfl) rfl
set_option maxRecDepth 20000 in
theorem cw_171 : Cond.code (mNm 171) (mBytes 171) (mMax 171) (mRet 171) ∈ gTbl0 := gC_6 (List.mem_of_getElem? (i := 88) rfl) rfl
set_option maxRecDepth 20000 in
theorem cw_172 : Cond.code (mNm 172) (mBytes 172) (mMax 172) (mRet 172) ∈ gTbl0 := gC_6 (List.mem_of_getElem? (i := 100) rfl) rfl
set_option maxRecDepth 20000 in
theorem cw_173 : Cond.code (mNm 173) (mBytes 173) (mMax 173) (mRet 173) ∈ gTbl0 := gC_6 (List.mem_of_getElem? (i := 104) rfl) rfl
set_option maxRecDepth 20000 in
theorem cw_174 : Cond.code (mNm 174) (mBytes 174) (mMax 174) (mRet 174) ∈ gTbl0 := gC_6 (List.mem_of_getElem? (i := 96) rfl) rfl
set_option maxRecDepth 20000 in
theorem cw_175 : Cond.code (mNm 175) (mBytes 175) (mMax 175) (mRet 175) ∈ gTbl0 := gC_6 (List.mem_of_getElem? (i := 112) rfl) rfl
set_option maxRecDepth 20000 in
theorem cw_176 : Cond.code (mNm 176) (mBytes 176) (mMax 176) (mRet 176) ∈ gTbl0 := gC_6 (List.mem_of_getElem? (i := 116) rfl) rfl
set_option maxRecDepth 20000 in
theorem cw_177 : Cond.code (mNm 177) (mBytes 177) (mMax 177) (mRet 177) ∈ gTbl0 := gC_6 (List.mem_of_getElem? (i := 108) rfl) rfl
set_option maxRecDepth 20000 in
theorem cw_178 : Cond.code (mNm 178) (mBytes 178) (mMax 178) (mRet 178) ∈ gTbl0 := gC_6 (List.mem_of_getElem? (i := 124) rfl) rfl
set_option maxRecDepth 20000 in
theorem cw_179 : Cond.code (mNm 179) (mBytes 179) (mMax 179) (mRet 179) ∈ gTbl0 := gC_6 (List.mem_of_getElem? (i := 120) rfl) rfl
set_option maxRecDepth 20000 in
theorem cw_180 : Cond.code (mNm 180) (mBytes 180) (mMax 180) (mRet 180) ∈ gTbl0 := gC_6 (List.mem_of_getElem? (i := 132) rfl) rfl
set_option maxRecDepth 20000 in
theorem cw_181 : Cond.code (mNm 181) (mBytes 181) (mMax 181) (mRet 181) ∈ gTbl0 := gC_6 (List.mem_of_getElem? (i := 136) rfl) rfl
set_option maxRecDepth 20000 in
theorem cw_182 : Cond.code (mNm 182) (mBytes 182) (mMax 182) (mRet 182) ∈ gTbl0 := gC_6 (List.mem_of_getElem? (i := 140) rfl) rfl
set_option maxRecDepth 20000 in
theorem cw_183 : Cond.code (mNm 183) (mBytes 183) (mMax 183) (mRet 183) ∈ gTbl0 := gC_6 (List.mem_of_getElem? (i := 144) rfl) rfl
set_option maxRecDepth 20000 in
theorem cw_184 : Cond.code (mNm 184) (mBytes 184) (mMax 184) (mRet 184) ∈ gTbl0 := gC_6 (List.mem_of_getElem? (i := 128) rfl) rfl
set_option maxRecDepth 20000 in
theorem cw_185 : Cond.code (mNm 185) (mBytes 185) (mMax 185) (mRet 185) ∈ gTbl0 := gC_6 (List.mem_of_getElem? (i := 148) rfl) rfl
set_option maxRecDepth 20000 in
theorem cw_186 : Cond.code (mNm 186) (mBytes 186) (mMax 186) (mRet 186) ∈ gTbl0 := gC_6 (List.mem_of_getElem? (i := 152) rfl) rfl
set_option maxRecDepth 20000 in
theorem cw_187 : Cond.code (mNm 187) (mBytes 187) (mMax 187) (mRet 187) ∈ gTbl0 := gC_6 (List.mem_of_getElem? (i := 160) rfl) rfl
set_option maxRecDepth 20000 in
theorem cw_188 : Cond.code (mNm 188) (mBytes 188) (mMax 188) (mRet 188) ∈ gTbl0 := gC_6 (List.mem_of_getElem? (i := 156) rfl) rfl
set_option maxRecDepth 20000 in
theorem cw_189 : Cond.code (mNm 189) (mBytes 189) (mMax 189) (mRet 189) ∈ gTbl0 := gC_6 (List.mem_of_getElem? (i := 164) rfl) rfl
set_option maxRecDepth 20000 in
theorem cw_190 : Cond.code (mNm 190) (mBytes 190) (mMax 190) (mRet 190) ∈ gTbl0 := gC_6 (List.mem_of_getElem? (i := 168) rfl) rfl
set_option maxRecDepth 20000 in
theorem cw_191 : Cond.code (mNm 191) (mBytes 191) (mMax 191) (mRet 191) ∈ gTbl0 := gC_6 (List.mem_of_getElem? (i := 181) rfl) rfl
set_option maxRecDepth 20000 in
theorem cw_192 : Cond.code (mNm 192) (mBytes 192) (mMax 192) (mRet 192) ∈ gTbl0 := gC_6 (List.mem_of_getElem? (i := 177) rfl) rfl
set_option maxRecDepth 20000 in
theorem cw_193 : Cond.code (mNm 193) (mBytes 193) (mMax 193) (mRet 193) ∈ gTbl0 := gC_6 (List.mem_of_getElem? (i := 172) rfl) rfl
set_option maxRecDepth 20000 in
theorem cw_194 : Cond.code (mNm 194) (mBytes 194) (mMax 194) (mRet 194) ∈ gTbl0 := gC_6 (List.mem_of_getElem? (i := 185) rfl) rfl
set_option maxRecDepth 20000 in
theorem cw_195 : Cond.code (mNm 195) (mBytes 195) (mMax 195) (mRet 195) ∈ gTbl0 := gC_6 (List.mem_of_getElem? (i := 189) rfl) rfl
set_option maxRecDepth 20000 in
theorem cw_196 : Cond.code (mNm 196) (mBytes 196) (mMax 196) (mRet 196) ∈ gTbl0 := gC_6 (List.mem_of_getElem? (i := 193) rfl) rfl
set_option maxRecDepth 20000 in
theorem cw_197 : Cond.code (mNm 197) (mBytes 197) (mMax 197) (mRet 197) ∈ gTbl0 := gC_6 (List.mem_of_getElem? (i := 197) rfl) rfl
set_option maxRecDepth 20000 in
theorem cw_198 : Cond.code (mNm 198) (mBytes 198) (mMax 198) (mRet 198) ∈ gTbl0 := gC_6 (List.mem_of_getElem? (i := 201) rfl) rfl
set_option maxRecDepth 20000 in
theorem cw_199 : Cond.code (mNm 199) (mBytes 199) (mMax 199) (mRet 199) ∈ gTbl0 := gC_6 (List.mem_of_getElem? (i := 205) rfl) rfl
set_option maxRecDepth 20000 in
theorem cw_200 : Cond.code (mNm 200) (mBytes 200) (mMax 200) (mRet 200) ∈ gTbl0 := gC_6 (List.mem_of_getElem? (i := 213) rfl) rfl
set_option maxRecDepth 20000 in
theorem cw_201 : Cond.code (mNm 201) (mBytes 201) (mMax 201) (mRet 201) ∈ gTbl0 := gC_6 (List.mem_of_getElem? (i := 217) rfl) rfl
set_option maxRecDepth 20000 in
theorem cw_202 : Cond.code (mNm 202) (mBytes 202) (mMax 202) (mRet 202) ∈ gTbl0 := gC_6 (List.mem_of_getElem? (i := 229) rfl) rfl
set_option maxRecDepth 20000 in
theorem cw_203 : Cond.code (mNm 203) (mBytes 203) (mMax 203) (mRet 203) ∈ gTbl0 := gC_6 (List.mem_of_getElem? (i := 233) rfl) rfl
set_option maxRecDepth 20000 in
theorem cw_204 : Cond.code (mNm 204) (mBytes 204) (mMax 204) (mRet 204) ∈ gTbl0 := gC_6 (List.mem_of_getElem? (i := 225) rfl) rfl
set_option maxRecDepth 20000 in
theorem cw_205 : Cond.code (mNm 205) (mBytes 205) (mMax 205) (mRet 205) ∈ gTbl0 := gC_7 (List.mem_of_getElem? (i := 5) rfl) rfl
set_option maxRecDepth 20000 in
theorem cw_206 : Cond.code (mNm 206) (mBytes 206) (mMax 206) (mRet 206) ∈ gTbl0 := gC_7 (List.mem_of_getElem? (i := 1) rfl) rfl
set_option maxRecDepth 20000 in
theorem cw_207 : Cond.code (mNm 207) (mBytes 207) (mMax 207) (mRet 207) ∈ gTbl0 := gC_6 (List.mem_of_getElem? (i := 237) rfl) rfl
set_option maxRecDepth 20000 in
theorem cw_208 : Cond.code (mNm 208) (mBytes 208) (mMax 208) (mRet 208) ∈ gTbl0 := gC_7 (List.mem_of_getElem? (i := 13) rfl) rfl
set_option maxRecDepth 20000 in
theorem cw_209 : Cond.code (mNm 209) (mBytes 209) (mMax 209) (mRet 209) ∈ gTbl0 := gC_7 (List.mem_of_getElem? (i := 9) rfl) rfl
set_option maxRecDepth 20000 in
theorem cw_210 : Cond.code (mNm 210) (mBytes 210) (mMax 210) (mRet 210) ∈ gTbl0 := gC_6 (List.mem_of_getElem? (i := 221) rfl) rfl
set_option maxRecDepth 20000 in
theorem cw_211 : Cond.code (mNm 211) (mBytes 211) (mMax 211) (mRet 211) ∈ gTbl0 := gC_7 (List.mem_of_getElem? (i := 17) rfl) rfl
set_option maxRecDepth 20000 in
theorem cw_212 : Cond.code (mNm 212) (mBytes 212) (mMax 212) (mRet 212) ∈ gTbl0 := gC_7 (List.mem_of_getElem? (i := 21) rfl) rfl
set_option maxRecDepth 20000 in
theorem cw_213 : Cond.code (mNm 213) (mBytes 213) (mMax 213) (mRet 213) ∈ gTbl0 := gC_7 (List.mem_of_getElem? (i := 25) rfl) rfl
set_option maxRecDepth 20000 in
theorem cw_214 : Cond.code (mNm 214) (mBytes 214) (mMax 214) (mRet 214) ∈ gTbl0 := gC_6 (List.mem_of_getElem? (i := 209) rfl) rfl
set_option maxRecDepth 20000 in
theorem cw_215 : Cond.code (mNm 215) (mBytes 215) (mMax 215) (mRet 215) ∈ gTbl0 := gC_7 (List.mem_of_getElem? (i := 29) rfl) rfl
set_option maxRecDepth 20000 in
theorem cw_216 : Cond.code (mNm 216) (mBytes 216) (mMax 216) (mRet 216) ∈ gTbl0 := gC_7 (List.mem_of_getElem? (i := 37) rfl) rfl
set_option maxRecDepth 20000 in
theorem cw_217 : Cond.code (mNm 217) (mBytes 217) (mMax 217) (mRet 217) ∈ gTbl0 := gC_7 (List.mem_of_getElem? (i := 33) rfl) rfl
set_option maxRecDepth 20000 in
theorem cw_218 : Cond.code (mNm 218) (mBytes 218) (mMax 218) (mRet 218) ∈ gTbl0 := gC_7 (List.mem_of_getElem? (i := 41) rfl) rfl
set_option maxRecDepth 20000 in
theorem cw_219 : Cond.code (mNm 219) (mBytes 219) (mMax 219) (mRet 219) ∈ gTbl0 := gC_7 (List.mem_of_getElem? (i := 45) rfl) rfl
set_option maxRecDepth 20000 in
theorem cw_220 : Cond.code (mNm 220) (mBytes 220) (mMax 220) (mRet 220) ∈ gTbl0 := gC_2 (List.mem_of_getElem? (i := 129) rfl) rfl
set_option maxRecDepth 20000 in
theorem cw_221 : Cond.code (mNm 221) (mBytes 221) (mMax 221) (mRet 221) ∈ gTbl0 := gC_2 (List.mem_of_getElem? (i := 200) rfl) rfl
set_option maxRecDepth 20000 in
theorem cw_222 : Cond.code (mNm 222) (mBytes 222) (mMax 222) (mRet 222) ∈ gTbl0 := gC_2 (List.mem_of_getElem? (i := 210) rfl) rfl
set_option maxRecDepth 20000 in
theorem cw_223 : Cond.code (mNm 223) (mBytes 223) (mMax 223) (mRet 223) ∈ gTbl0 := gC_2 (List.mem_of_getElem? (i := 204) rfl) rfl
set_option maxRecDepth 20000 in
theorem cw_224 : Cond.code (mNm 224) (mBytes 224) (mMax 224) (mRet 224) ∈ gTbl0 := gC_2 (List.mem_of_getElem? (i := 214) rfl) rfl
set_option maxRecDepth 20000 in
theorem cw_225 : Cond.code (mNm 225) (mBytes 225) (mMax 225) (mRet 225) ∈ gTbl0 := gC_2 (List.mem_of_getElem? (i := 217) rfl) rfl
set_option maxRecDepth 20000 in
theorem cw_226 : Cond.code (mNm 226) (mBytes 226) (mMax 226) (mRet 226) ∈ gTbl0 := gC_4 (List.mem_of_getElem? (i := 83) rfl) rfl
set_option maxRecDepth 20000 in
theorem cw_227 : Cond.code (mNm 227) (mBytes 227) (mMax 227) (mRet 227) ∈ gTbl0 := gC_2 (List.mem_of_getElem? (i := 70) rfl) rfl
theorem nat_sp {P : Nat → Prop} {m : Nat} (h : ∀ t, t < m → P t) (hm : P m) : ∀ t, t < m + 1 → P t := fun t ht => by
  rcases Nat.lt_succ_iff_lt_or_eq.mp ht with q | q
  · exact h t q
  · rw [q]; exact hm
theorem cws_19 : ∀ t, t < 19 → Cond.code (mNm t) (mBytes t) (mMax t) (mRet t) ∈ gTbl0 := (nat_sp (nat_sp (nat_sp (nat_sp (nat_sp (nat_sp (nat_sp (nat_sp (nat_sp (nat_sp (nat_sp (nat_sp (nat_sp (nat_sp (nat_sp (nat_sp (nat_sp (nat_sp (nat_sp (fun t (ht : t < 0) => absurd ht (Nat.not_lt_zero t)) cw_0) cw_1) cw_2) cw_3) cw_4) cw_5) cw_6) cw_7) cw_8) cw_9) cw_10) cw_11) cw_12) cw_13) cw_14) cw_15) cw_16) cw_17) cw_18)
theorem cws_38 : ∀ t, t < 38 → Cond.code (mNm t) (mBytes t) (mMax t) (mRet t) ∈ gTbl0 := (nat_sp (nat_sp (nat_sp (nat_sp (nat_sp (nat_sp (nat_sp (nat_sp (nat_sp (nat_sp (nat_sp (nat_sp (nat_sp (nat_sp (nat_sp (nat_sp (nat_sp (nat_sp (nat_sp cws_19 cw_19) cw_20) cw_21) cw_22) cw_23) cw_24) cw_25) cw_26) cw_27) cw_28) cw_29) cw_30) cw_31) cw_32) cw_33) cw_34) cw_35) cw_36) cw_37)
theorem cws_57 : ∀ t, t < 57 → Cond.code (mNm t) (mBytes t) (mMax t) (mRet t) ∈ gTbl0 := (nat_sp (nat_sp (nat_sp (nat_sp (nat_sp (nat_sp (nat_sp (nat_sp (nat_sp (nat_sp (nat_sp (nat_sp (nat_sp (nat_sp (nat_sp (nat_sp (nat_sp (nat_sp (nat_sp cws_38 cw_38) cw_39) cw_40) cw_41) cw_42) cw_43) cw_44) cw_45) cw_46) cw_47) cw_48) cw_49) cw_50) cw_51) cw_52) cw_53) cw_54) cw_55) cw_56)
theorem cws_76 : ∀ t, t < 76 → Cond.code (mNm t) (mBytes t) (mMax t) (mRet t) ∈ gTbl0 := (nat_sp (nat_sp (nat_sp (nat_sp (nat_sp (nat_sp (nat_sp (nat_sp (nat_sp (nat_sp (nat_sp (nat_sp (nat_sp (nat_sp (nat_sp (nat_sp (nat_sp (nat_sp (nat_sp cws_57 cw_57) cw_58) cw_59) cw_60) cw_61) cw_62) cw_63) cw_64) cw_65) cw_66) cw_67) cw_68) cw_69) cw_70) cw_71) cw_72) cw_73) cw_74) cw_75)
theorem cws_95 : ∀ t, t < 95 → Cond.code (mNm t) (mBytes t) (mMax t) (mRet t) ∈ gTbl0 := (nat_sp (nat_sp (nat_sp (nat_sp (nat_sp (nat_sp (nat_sp (nat_sp (nat_sp (nat_sp (nat_sp (nat_sp (nat_sp (nat_sp (nat_sp (nat_sp (nat_sp (nat_sp (nat_sp cws_76 cw_76) cw_77) cw_78) cw_79) cw_80) cw_81) cw_82) cw_83) cw_84) cw_85) cw_86) cw_87) cw_88) cw_89) cw_90) cw_91) cw_92) cw_93) cw_94)
theorem cws_114 : ∀ t, t < 114 → Cond.code (mNm t) (mBytes t) (mMax t) (mRet t) ∈ gTbl0 := (nat_sp (nat_sp (nat_sp (nat_sp (nat_sp (nat_sp (nat_sp (nat_sp (nat_sp (nat_sp (nat_sp (nat_sp (nat_sp (nat_sp (nat_sp (nat_sp (nat_sp (nat_sp (nat_sp cws_95 cw_95) cw_96) cw_97) cw_98) cw_99) cw_100) cw_101) cw_102) cw_103) cw_104) cw_105) cw_106) cw_107) cw_108) cw_109) cw_110) cw_111) cw_112) cw_113)
theorem cws_133 : ∀ t, t < 133 → Cond.code (mNm t) (mBytes t) (mMax t) (mRet t) ∈ gTbl0 := (nat_sp (nat_sp (nat_sp (nat_sp (nat_sp (nat_sp (nat_sp (nat_sp (nat_sp (nat_sp (nat_sp (nat_sp (nat_sp (nat_sp (nat_sp (nat_sp (nat_sp (nat_sp (nat_sp cws_114 cw_114) cw_115) cw_116) cw_117) cw_118) cw_119) cw_120) cw_121) cw_122) cw_123) cw_124) cw_125) cw_126) cw_127) cw_128) cw_129) cw_130) cw_131) cw_132)
theorem cws_152 : ∀ t, t < 152 → Cond.code (mNm t) (mBytes t) (mMax t) (mRet t) ∈ gTbl0 := (nat_sp (nat_sp (nat_sp (nat_sp (nat_sp (nat_sp (nat_sp (nat_sp (nat_sp (nat_sp (nat_sp (nat_sp (nat_sp (nat_sp (nat_sp (nat_sp (nat_sp (nat_sp (nat_sp cws_133 cw_133) cw_134) cw_135) cw_136) cw_137) cw_138) cw_139) cw_140) cw_141) cw_142) cw_143) cw_144) cw_145) cw_146) cw_147) cw_148) cw_149) cw_150) cw_151)
theorem cws_171 : ∀ t, t < 171 → Cond.code (mNm t) (mBytes t) (mMax t) (mRet t) ∈ gTbl0 := (nat_sp (nat_sp (nat_sp (nat_sp (nat_sp (nat_sp (nat_sp (nat_sp (nat_sp (nat_sp (nat_sp (nat_sp (nat_sp (nat_sp (nat_sp (nat_sp (nat_sp (nat_sp (nat_sp cws_152 cw_152) cw_153) cw_154) cw_155) cw_156) cw_157) cw_158) cw_159) cw_160) cw_161) cw_162) cw_163) cw_164) cw_165) cw_166) cw_167) cw_168) cw_169) cw_170)
theorem cws_190 : ∀ t, t < 190 → Cond.code (mNm t) (mBytes t) (mMax t) (mRet t) ∈ gTbl0 := (nat_sp (nat_sp (nat_sp (nat_sp (nat_sp (nat_sp (nat_sp (nat_sp (nat_sp (nat_sp (nat_sp (nat_sp (nat_sp (nat_sp (nat_sp (nat_sp (nat_sp (nat_sp (nat_sp cws_171 cw_171) cw_172) cw_173) cw_174) cw_175) cw_176) cw_177) cw_178) cw_179) cw_180) cw_181) cw_182) cw_183) cw_184) cw_185) cw_186) cw_187) cw_188) cw_189)
theorem cws_209 : ∀ t, t < 209 → Cond.code (mNm t) (mBytes t) (mMax t) (mRet t) ∈ gTbl0 := (nat_sp (nat_sp (nat_sp (nat_sp (nat_sp (nat_sp (nat_sp (nat_sp (nat_sp (nat_sp (nat_sp (nat_sp (nat_sp (nat_sp (nat_sp (nat_sp (nat_sp (nat_sp (nat_sp cws_190 cw_190) cw_191) cw_192) cw_193) cw_194) cw_195) cw_196) cw_197) cw_198) cw_199) cw_200) cw_201) cw_202) cw_203) cw_204) cw_205) cw_206) cw_207) cw_208)
theorem cws_228 : ∀ t, t < 228 → Cond.code (mNm t) (mBytes t) (mMax t) (mRet t) ∈ gTbl0 := (nat_sp (nat_sp (nat_sp (nat_sp (nat_sp (nat_sp (nat_sp (nat_sp (nat_sp (nat_sp (nat_sp (nat_sp (nat_sp (nat_sp (nat_sp (nat_sp (nat_sp (nat_sp (nat_sp cws_209 cw_209) cw_210) cw_211) cw_212) cw_213) cw_214) cw_215) cw_216) cw_217) cw_218) cw_219) cw_220) cw_221) cw_222) cw_223) cw_224) cw_225) cw_226) cw_227)
set_option maxRecDepth 100000 in
set_option maxHeartbeats 0 in
theorem okMeths : (List.range 228).all okMeth = true := by decide +kernel
theorem okMs : ∀ t, t < 228 → okM t := fun t h => ⟨List.all_eq_true.mp okMeths t (List.mem_range.mpr h), cws_228 t h⟩
theorem c_tr (b : Bool) {r t : List mRow} (h1 : r.all okRow = true) (h2 : t.all okRow = true) : (bif b then r else t).all okRow = true := by cases b <;> assumption
theorem mCode_ok (y : Nat) : ∀ w ∈ mCode y, okRow w = true := List.all_eq_true.mp (c_tr (Nat.blt y 114) (c_tr (Nat.blt y 57) (c_tr (Nat.blt y 28) (c_tr (Nat.blt y 14) (c_tr (Nat.blt y 7) (c_tr (Nat.blt y 3) (c_tr (Nat.blt y 1) ok_0 (c_tr (Nat.blt y 2) ok_1 ok_2)) (c_tr (Nat.blt y 5) (c_tr (Nat.blt y 4) ok_3 ok_4) (c_tr (Nat.blt y 6) ok_5 ok_6))) (c_tr (Nat.blt y 10) (c_tr (Nat.blt y 8) ok_7 (c_tr (Nat.blt y 9) ok_8 ok_9)) (c_tr (Nat.blt y 12) (c_tr (Nat.blt y 11) ok_10 ok_11) (c_tr (Nat.blt y 13) ok_12 ok_13)))) (c_tr (Nat.blt y 21) (c_tr (Nat.blt y 17) (c_tr (Nat.blt y 15) ok_14 (c_tr (Nat.blt y 16) ok_15 ok_16)) (c_tr (Nat.blt y 19) (c_tr (Nat.blt y 18) ok_17 ok_18) (c_tr (Nat.blt y 20) ok_19 ok_20))) (c_tr (Nat.blt y 24) (c_tr (Nat.blt y 22) ok_21 (c_tr (Nat.blt y 23) ok_22 ok_23)) (c_tr (Nat.blt y 26) (c_tr (Nat.blt y 25) ok_24 ok_25) (c_tr (Nat.blt y 27) ok_26 ok_27))))) (c_tr (Nat.blt y 42) (c_tr (Nat.blt y 35) (c_tr (Nat.blt y 31) (c_tr (Nat.blt y 29) ok_28 (c_tr (Nat.blt y 30) ok_29 ok_30)) (c_tr (Nat.blt y 33) (c_tr (Nat.blt y 32) ok_31 ok_32) (c_tr (Nat.blt y 34) ok_33 ok_34))) (c_tr (Nat.blt y 38) (c_tr (Nat.blt y 36) ok_35 (c_tr (Nat.blt y 37) ok_36 ok_37)) (c_tr (Nat.blt y 40) (c_tr (Nat.blt y 39) ok_38 ok_39) (c_tr (Nat.blt y 41) ok_40 ok_41)))) (c_tr (Nat.blt y 49) (c_tr (Nat.blt y 45) (c_tr (Nat.blt y 43) ok_42 (c_tr (Nat.blt y 44) ok_43 ok_44)) (c_tr (Nat.blt y 47) (c_tr (Nat.blt y 46) ok_45 ok_46) (c_tr (Nat.blt y 48) ok_47 ok_48))) (c_tr (Nat.blt y 53) (c_tr (Nat.blt y 51) (c_tr (Nat.blt y 50) ok_49 ok_50) (c_tr (Nat.blt y 52) ok_51 ok_52)) (c_tr (Nat.blt y 55) (c_tr (Nat.blt y 54) ok_53 ok_54) (c_tr (Nat.blt y 56) ok_55 ok_56)))))) (c_tr (Nat.blt y 85) (c_tr (Nat.blt y 71) (c_tr (Nat.blt y 64) (c_tr (Nat.blt y 60) (c_tr (Nat.blt y 58) ok_57 (c_tr (Nat.blt y 59) ok_58 ok_59)) (c_tr (Nat.blt y 62) (c_tr (Nat.blt y 61) ok_60 ok_61) (c_tr (Nat.blt y 63) ok_62 ok_63))) (c_tr (Nat.blt y 67) (c_tr (Nat.blt y 65) ok_64 (c_tr (Nat.blt y 66) ok_65 ok_66)) (c_tr (Nat.blt y 69) (c_tr (Nat.blt y 68) ok_67 ok_68) (c_tr (Nat.blt y 70) ok_69 ok_70)))) (c_tr (Nat.blt y 78) (c_tr (Nat.blt y 74) (c_tr (Nat.blt y 72) ok_71 (c_tr (Nat.blt y 73) ok_72 ok_73)) (c_tr (Nat.blt y 76) (c_tr (Nat.blt y 75) ok_74 ok_75) (c_tr (Nat.blt y 77) ok_76 ok_77))) (c_tr (Nat.blt y 81) (c_tr (Nat.blt y 79) ok_78 (c_tr (Nat.blt y 80) ok_79 ok_80)) (c_tr (Nat.blt y 83) (c_tr (Nat.blt y 82) ok_81 ok_82) (c_tr (Nat.blt y 84) ok_83 ok_84))))) (c_tr (Nat.blt y 99) (c_tr (Nat.blt y 92) (c_tr (Nat.blt y 88) (c_tr (Nat.blt y 86) ok_85 (c_tr (Nat.blt y 87) ok_86 ok_87)) (c_tr (Nat.blt y 90) (c_tr (Nat.blt y 89) ok_88 ok_89) (c_tr (Nat.blt y 91) ok_90 ok_91))) (c_tr (Nat.blt y 95) (c_tr (Nat.blt y 93) ok_92 (c_tr (Nat.blt y 94) ok_93 ok_94)) (c_tr (Nat.blt y 97) (c_tr (Nat.blt y 96) ok_95 ok_96) (c_tr (Nat.blt y 98) ok_97 ok_98)))) (c_tr (Nat.blt y 106) (c_tr (Nat.blt y 102) (c_tr (Nat.blt y 100) ok_99 (c_tr (Nat.blt y 101) ok_100 ok_101)) (c_tr (Nat.blt y 104) (c_tr (Nat.blt y 103) ok_102 ok_103) (c_tr (Nat.blt y 105) ok_104 ok_105))) (c_tr (Nat.blt y 110) (c_tr (Nat.blt y 108) (c_tr (Nat.blt y 107) ok_106 ok_107) (c_tr (Nat.blt y 109) ok_108 ok_109)) (c_tr (Nat.blt y 112) (c_tr (Nat.blt y 111) ok_110 ok_111) (c_tr (Nat.blt y 113) ok_112 ok_113))))))) (c_tr (Nat.blt y 171) (c_tr (Nat.blt y 142) (c_tr (Nat.blt y 128) (c_tr (Nat.blt y 121) (c_tr (Nat.blt y 117) (c_tr (Nat.blt y 115) ok_114 (c_tr (Nat.blt y 116) ok_115 ok_116)) (c_tr (Nat.blt y 119) (c_tr (Nat.blt y 118) ok_117 ok_118) (c_tr (Nat.blt y 120) ok_119 ok_120))) (c_tr (Nat.blt y 124) (c_tr (Nat.blt y 122) ok_121 (c_tr (Nat.blt y 123) ok_122 ok_123)) (c_tr (Nat.blt y 126) (c_tr (Nat.blt y 125) ok_124 ok_125) (c_tr (Nat.blt y 127) ok_126 ok_127)))) (c_tr (Nat.blt y 135) (c_tr (Nat.blt y 131) (c_tr (Nat.blt y 129) ok_128 (c_tr (Nat.blt y 130) ok_129 ok_130)) (c_tr (Nat.blt y 133) (c_tr (Nat.blt y 132) ok_131 ok_132) (c_tr (Nat.blt y 134) ok_133 ok_134))) (c_tr (Nat.blt y 138) (c_tr (Nat.blt y 136) ok_135 (c_tr (Nat.blt y 137) ok_136 ok_137)) (c_tr (Nat.blt y 140) (c_tr (Nat.blt y 139) ok_138 ok_139) (c_tr (Nat.blt y 141) ok_140 ok_141))))) (c_tr (Nat.blt y 156) (c_tr (Nat.blt y 149) (c_tr (Nat.blt y 145) (c_tr (Nat.blt y 143) ok_142 (c_tr (Nat.blt y 144) ok_143 ok_144)) (c_tr (Nat.blt y 147) (c_tr (Nat.blt y 146) ok_145 ok_146) (c_tr (Nat.blt y 148) ok_147 ok_148))) (c_tr (Nat.blt y 152) (c_tr (Nat.blt y 150) ok_149 (c_tr (Nat.blt y 151) ok_150 ok_151)) (c_tr (Nat.blt y 154) (c_tr (Nat.blt y 153) ok_152 ok_153) (c_tr (Nat.blt y 155) ok_154 ok_155)))) (c_tr (Nat.blt y 163) (c_tr (Nat.blt y 159) (c_tr (Nat.blt y 157) ok_156 (c_tr (Nat.blt y 158) ok_157 ok_158)) (c_tr (Nat.blt y 161) (c_tr (Nat.blt y 160) ok_159 ok_160) (c_tr (Nat.blt y 162) ok_161 ok_162))) (c_tr (Nat.blt y 167) (c_tr (Nat.blt y 165) (c_tr (Nat.blt y 164) ok_163 ok_164) (c_tr (Nat.blt y 166) ok_165 ok_166)) (c_tr (Nat.blt y 169) (c_tr (Nat.blt y 168) ok_167 ok_168) (c_tr (Nat.blt y 170) ok_169 ok_170)))))) (c_tr (Nat.blt y 200) (c_tr (Nat.blt y 185) (c_tr (Nat.blt y 178) (c_tr (Nat.blt y 174) (c_tr (Nat.blt y 172) ok_171 (c_tr (Nat.blt y 173) ok_172 ok_173)) (c_tr (Nat.blt y 176) (c_tr (Nat.blt y 175) ok_174 ok_175) (c_tr (Nat.blt y 177) ok_176 ok_177))) (c_tr (Nat.blt y 181) (c_tr (Nat.blt y 179) ok_178 (c_tr (Nat.blt y 180) ok_179 ok_180)) (c_tr (Nat.blt y 183) (c_tr (Nat.blt y 182) ok_181 ok_182) (c_tr (Nat.blt y 184) ok_183 ok_184)))) (c_tr (Nat.blt y 192) (c_tr (Nat.blt y 188) (c_tr (Nat.blt y 186) ok_185 (c_tr (Nat.blt y 187) ok_186 ok_187)) (c_tr (Nat.blt y 190) (c_tr (Nat.blt y 189) ok_188 ok_189) (c_tr (Nat.blt y 191) ok_190 ok_191))) (c_tr (Nat.blt y 196) (c_tr (Nat.blt y 194) (c_tr (Nat.blt y 193) ok_192 ok_193) (c_tr (Nat.blt y 195) ok_194 ok_195)) (c_tr (Nat.blt y 198) (c_tr (Nat.blt y 197) ok_196 ok_197) (c_tr (Nat.blt y 199) ok_198 ok_199))))) (c_tr (Nat.blt y 214) (c_tr (Nat.blt y 207) (c_tr (Nat.blt y 203) (c_tr (Nat.blt y 201) ok_200 (c_tr (Nat.blt y 202) ok_201 ok_202)) (c_tr (Nat.blt y 205) (c_tr (Nat.blt y 204) ok_203 ok_204) (c_tr (Nat.blt y 206) ok_205 ok_206))) (c_tr (Nat.blt y 210) (c_tr (Nat.blt y 208) ok_207 (c_tr (Nat.blt y 209) ok_208 ok_209)) (c_tr (Nat.blt y 212) (c_tr (Nat.blt y 211) ok_210 ok_211) (c_tr (Nat.blt y 213) ok_212 ok_213)))) (c_tr (Nat.blt y 221) (c_tr (Nat.blt y 217) (c_tr (Nat.blt y 215) ok_214 (c_tr (Nat.blt y 216) ok_215 ok_216)) (c_tr (Nat.blt y 219) (c_tr (Nat.blt y 218) ok_217 ok_218) (c_tr (Nat.blt y 220) ok_219 ok_220))) (c_tr (Nat.blt y 225) (c_tr (Nat.blt y 223) (c_tr (Nat.blt y 222) ok_221 ok_222) (c_tr (Nat.blt y 224) ok_223 ok_224)) (c_tr (Nat.blt y 227) (c_tr (Nat.blt y 226) ok_225 ok_226) (c_tr (Nat.blt y 228) ok_227 ok_228))))))))

theorem w_0 : Cond.selects "DearLetters" ⟨"DearLetters", "refuseNumber", "(I)I"⟩ ⟨"DearLetters", "refuseNumber", "(I)I"⟩ ∈ z_tbl := z_tbl_in (List.mem_of_getElem? (i := 0) (by decide +kernel)) rfl
theorem w_1 : Cond.selects "DearLetters" ⟨"DearLetters", "refuse", "(I)Z"⟩ ⟨"DearLetters", "refuse", "(I)Z"⟩ ∈ z_tbl := z_tbl_in (List.mem_of_getElem? (i := 1) (by decide +kernel)) rfl
theorem w_2 : Cond.selects "DearLetters$Text" ⟨"DearLetters$Text", "readWord", "()V"⟩ ⟨"DearLetters$Text", "readWord", "()V"⟩ ∈ z_tbl := z_tbl_in (List.mem_of_getElem? (i := 2) (by decide +kernel)) rfl
theorem w_3 : Cond.selects "DearLetters$Text" ⟨"DearLetters$Text", "readDigits", "()V"⟩ ⟨"DearLetters$Text", "readDigits", "()V"⟩ ∈ z_tbl := z_tbl_in (List.mem_of_getElem? (i := 3) (by decide +kernel)) rfl
theorem w_4 : Cond.selects "DearLetters$HeapReader" ⟨"DearLetters$HeapReader", "statement", "()Z"⟩ ⟨"DearLetters$HeapReader", "statement", "()Z"⟩ ∈ z_tbl := z_tbl_in (List.mem_of_getElem? (i := 4) (by decide +kernel)) rfl
theorem w_5 : Cond.selects "DearLetters$Text" ⟨"DearLetters$Text", "failAt", "(II)Z"⟩ ⟨"DearLetters$Text", "failAt", "(II)Z"⟩ ∈ z_tbl := z_tbl_in (List.mem_of_getElem? (i := 5) (by decide +kernel)) rfl
theorem w_6 : Cond.selects "DearLetters$HeapReader" ⟨"DearLetters$HeapReader", "letterContent", "()Z"⟩ ⟨"DearLetters$HeapReader", "letterContent", "()Z"⟩ ∈ z_tbl := z_tbl_in (List.mem_of_getElem? (i := 6) (by decide +kernel)) rfl
theorem w_7 : Cond.selects "DearLetters$HeapReader" ⟨"DearLetters$HeapReader", "newName", "(I)Z"⟩ ⟨"DearLetters$HeapReader", "newName", "(I)Z"⟩ ∈ z_tbl := z_tbl_in (List.mem_of_getElem? (i := 7) (by decide +kernel)) rfl
theorem w_8 : Cond.selects "DearLetters$HeapReader" ⟨"DearLetters$HeapReader", "measure", "(III[II)Z"⟩ ⟨"DearLetters$HeapReader", "measure", "(III[II)Z"⟩ ∈ z_tbl := z_tbl_in (List.mem_of_getElem? (i := 8) (by decide +kernel)) rfl
theorem w_9 : Cond.selects "DearLetters$HeapReader" ⟨"DearLetters$HeapReader", "giftContent", "()Z"⟩ ⟨"DearLetters$HeapReader", "giftContent", "()Z"⟩ ∈ z_tbl := z_tbl_in (List.mem_of_getElem? (i := 9) (by decide +kernel)) rfl
theorem w_10 : Cond.selects "DearLetters$HeapReader" ⟨"DearLetters$HeapReader", "helperContent", "()Z"⟩ ⟨"DearLetters$HeapReader", "helperContent", "()Z"⟩ ∈ z_tbl := z_tbl_in (List.mem_of_getElem? (i := 10) (by decide +kernel)) rfl
theorem w_11 : Cond.selects "DearLetters$HeapReader" ⟨"DearLetters$HeapReader", "nearContent", "()Z"⟩ ⟨"DearLetters$HeapReader", "nearContent", "()Z"⟩ ∈ z_tbl := z_tbl_in (List.mem_of_getElem? (i := 11) (by decide +kernel)) rfl
theorem w_12 : Cond.selects "DearLetters$HeapReader" ⟨"DearLetters$HeapReader", "takeName", "(I)I"⟩ ⟨"DearLetters$HeapReader", "takeName", "(I)I"⟩ ∈ z_tbl := z_tbl_in (List.mem_of_getElem? (i := 12) (by decide +kernel)) rfl
theorem w_13 : Cond.selects "DearLetters$HeapReader" ⟨"DearLetters$HeapReader", "knownHere", "(I)I"⟩ ⟨"DearLetters$HeapReader", "knownHere", "(I)I"⟩ ∈ z_tbl := z_tbl_in (List.mem_of_getElem? (i := 13) (by decide +kernel)) rfl
theorem w_14 : Cond.selects "DearLetters$HeapReader" ⟨"DearLetters$HeapReader", "likeContent", "()Z"⟩ ⟨"DearLetters$HeapReader", "likeContent", "()Z"⟩ ∈ z_tbl := z_tbl_in (List.mem_of_getElem? (i := 14) (by decide +kernel)) rfl
theorem w_15 : Cond.selects "DearLetters$Sums" ⟨"DearLetters$Sums", "sum", "(I)Z"⟩ ⟨"DearLetters$Sums", "sum", "(I)Z"⟩ ∈ z_tbl := z_tbl_in (List.mem_of_getElem? (i := 15) (by decide +kernel)) rfl
theorem w_16 : Cond.selects "DearLetters$Sums" ⟨"DearLetters$Sums", "product", "(I)Z"⟩ ⟨"DearLetters$Sums", "product", "(I)Z"⟩ ∈ z_tbl := z_tbl_in (List.mem_of_getElem? (i := 16) (by decide +kernel)) rfl
theorem w_17 : Cond.selects "DearLetters$Sums" ⟨"DearLetters$Sums", "part", "(I)Z"⟩ ⟨"DearLetters$Sums", "part", "(I)Z"⟩ ∈ z_tbl := z_tbl_in (List.mem_of_getElem? (i := 17) (by decide +kernel)) rfl
theorem w_18 : Cond.selects "DearLetters$Sums" ⟨"DearLetters$Sums", "opens", "(I)Z"⟩ ⟨"DearLetters$Sums", "opens", "(I)Z"⟩ ∈ z_tbl := z_tbl_in (List.mem_of_getElem? (i := 18) (by decide +kernel)) rfl
theorem w_19 : Cond.selects "DearLetters$Sums" ⟨"DearLetters$Sums", "choice", "(I)Z"⟩ ⟨"DearLetters$Sums", "choice", "(I)Z"⟩ ∈ z_tbl := z_tbl_in (List.mem_of_getElem? (i := 19) (by decide +kernel)) rfl
theorem w_20 : Cond.selects "DearLetters$HeapReader" ⟨"DearLetters$HeapReader", "wishContent", "()Z"⟩ ⟨"DearLetters$HeapReader", "wishContent", "()Z"⟩ ∈ z_tbl := z_tbl_in (List.mem_of_getElem? (i := 20) (by decide +kernel)) rfl
theorem w_21 : Cond.selects "DearLetters" ⟨"DearLetters", "isLetter", "(I)Z"⟩ ⟨"DearLetters", "isLetter", "(I)Z"⟩ ∈ z_tbl := z_tbl_in (List.mem_of_getElem? (i := 21) (by decide +kernel)) rfl
theorem w_22 : Cond.selects "DearLetters" ⟨"DearLetters", "isGift", "(I)Z"⟩ ⟨"DearLetters", "isGift", "(I)Z"⟩ ∈ z_tbl := z_tbl_in (List.mem_of_getElem? (i := 22) (by decide +kernel)) rfl
theorem w_23 : Cond.selects "DearLetters" ⟨"DearLetters", "isHelper", "(I)Z"⟩ ⟨"DearLetters", "isHelper", "(I)Z"⟩ ∈ z_tbl := z_tbl_in (List.mem_of_getElem? (i := 23) (by decide +kernel)) rfl
theorem w_24 : Cond.selects "DearLetters$Machine" ⟨"DearLetters$Machine", "lookAt", "(LDearLetters$Heap;LDearLetters$State;I)V"⟩ ⟨"DearLetters$Machine", "lookAt", "(LDearLetters$Heap;LDearLetters$State;I)V"⟩ ∈ z_tbl := z_tbl_in (List.mem_of_getElem? (i := 24) (by decide +kernel)) rfl
theorem w_25 : Cond.selects "DearLetters$Machine" ⟨"DearLetters$Machine", "run", "(LDearLetters$Code;II)I"⟩ ⟨"DearLetters$Machine", "run", "(LDearLetters$Code;II)I"⟩ ∈ z_tbl := z_tbl_in (List.mem_of_getElem? (i := 25) (by decide +kernel)) rfl
theorem w_26 : Cond.selects "DearLetters$Machine" ⟨"DearLetters$Machine", "push", "(I)V"⟩ ⟨"DearLetters$Machine", "push", "(I)V"⟩ ∈ z_tbl := z_tbl_in (List.mem_of_getElem? (i := 26) (by decide +kernel)) rfl
theorem w_27 : Cond.selects "DearLetters$Machine" ⟨"DearLetters$Machine", "pop", "()I"⟩ ⟨"DearLetters$Machine", "pop", "()I"⟩ ∈ z_tbl := z_tbl_in (List.mem_of_getElem? (i := 27) (by decide +kernel)) rfl
theorem w_28 : Cond.selects "DearLetters$Machine" ⟨"DearLetters$Machine", "wishOf", "(I)I"⟩ ⟨"DearLetters$Machine", "wishOf", "(I)I"⟩ ∈ z_tbl := z_tbl_in (List.mem_of_getElem? (i := 28) (by decide +kernel)) rfl
theorem w_29 : Cond.selects "DearLetters$Evening" ⟨"DearLetters$Evening", "weigh", "(LDearLetters$Heap;LDearLetters$State;II)Z"⟩ ⟨"DearLetters$Evening", "weigh", "(LDearLetters$Heap;LDearLetters$State;II)Z"⟩ ∈ z_tbl := z_tbl_in (List.mem_of_getElem? (i := 29) (by decide +kernel)) rfl
theorem w_30 : Cond.selects "DearLetters$Evening" ⟨"DearLetters$Evening", "price", "(III)V"⟩ ⟨"DearLetters$Evening", "price", "(III)V"⟩ ∈ z_tbl := z_tbl_in (List.mem_of_getElem? (i := 30) (by decide +kernel)) rfl
theorem w_31 : Cond.selects "DearLetters$Evening" ⟨"DearLetters$Evening", "spread", "(I)V"⟩ ⟨"DearLetters$Evening", "spread", "(I)V"⟩ ∈ z_tbl := z_tbl_in (List.mem_of_getElem? (i := 31) (by decide +kernel)) rfl
theorem w_32 : Cond.selects "DearLetters$Evening" ⟨"DearLetters$Evening", "readOff", "(J)V"⟩ ⟨"DearLetters$Evening", "readOff", "(J)V"⟩ ∈ z_tbl := z_tbl_in (List.mem_of_getElem? (i := 32) (by decide +kernel)) rfl
theorem w_33 : Cond.selects "DearLetters$Sorting" ⟨"DearLetters$Sorting", "paint", "(LDearLetters$Heap;III)Z"⟩ ⟨"DearLetters$Sorting", "paint", "(LDearLetters$Heap;III)Z"⟩ ∈ z_tbl := z_tbl_in (List.mem_of_getElem? (i := 33) (by decide +kernel)) rfl
theorem w_34 : Cond.selects "DearLetters$Sorting" ⟨"DearLetters$Sorting", "isFree", "(LDearLetters$Heap;II)Z"⟩ ⟨"DearLetters$Sorting", "isFree", "(LDearLetters$Heap;II)Z"⟩ ∈ z_tbl := z_tbl_in (List.mem_of_getElem? (i := 34) (by decide +kernel)) rfl
theorem w_35 : Cond.selects "DearLetters$Sharing" ⟨"DearLetters$Sharing", "mostFrom", "(LDearLetters$Heap;II)I"⟩ ⟨"DearLetters$Sharing", "mostFrom", "(LDearLetters$Heap;II)I"⟩ ∈ z_tbl := z_tbl_in (List.mem_of_getElem? (i := 35) (by decide +kernel)) rfl
theorem w_36 : Cond.selects "DearLetters$Sharing" ⟨"DearLetters$Sharing", "mostBy", "(LDearLetters$Heap;III)I"⟩ ⟨"DearLetters$Sharing", "mostBy", "(LDearLetters$Heap;III)I"⟩ ∈ z_tbl := z_tbl_in (List.mem_of_getElem? (i := 36) (by decide +kernel)) rfl
theorem w_37 : Cond.selects "DearLetters$Sharing" ⟨"DearLetters$Sharing", "choose", "(LDearLetters$Heap;II)V"⟩ ⟨"DearLetters$Sharing", "choose", "(LDearLetters$Heap;II)V"⟩ ∈ z_tbl := z_tbl_in (List.mem_of_getElem? (i := 37) (by decide +kernel)) rfl
theorem w_38 : Cond.selects "DearLetters$Sorting" ⟨"DearLetters$Sorting", "bestOdds", "(LDearLetters$Heap;I)J"⟩ ⟨"DearLetters$Sorting", "bestOdds", "(LDearLetters$Heap;I)J"⟩ ∈ z_tbl := z_tbl_in (List.mem_of_getElem? (i := 38) (by decide +kernel)) rfl
theorem w_39 : Cond.selects "DearLetters$Sorting" ⟨"DearLetters$Sorting", "place", "(LDearLetters$Heap;IIJ)V"⟩ ⟨"DearLetters$Sorting", "place", "(LDearLetters$Heap;IIJ)V"⟩ ∈ z_tbl := z_tbl_in (List.mem_of_getElem? (i := 39) (by decide +kernel)) rfl
theorem w_40 : Cond.selects "DearLetters$Sorting" ⟨"DearLetters$Sorting", "oddsOf", "(LDearLetters$Heap;I)J"⟩ ⟨"DearLetters$Sorting", "oddsOf", "(LDearLetters$Heap;I)J"⟩ ∈ z_tbl := z_tbl_in (List.mem_of_getElem? (i := 40) (by decide +kernel)) rfl
theorem w_41 : Cond.selects "DearLetters" ⟨"DearLetters", "tellsLetters", "(I)Z"⟩ ⟨"DearLetters", "tellsLetters", "(I)Z"⟩ ∈ z_tbl := z_tbl_in (List.mem_of_getElem? (i := 41) (by decide +kernel)) rfl
theorem w_42 : Cond.selects "DearLetters" ⟨"DearLetters", "fitsSeen", "(I)Z"⟩ ⟨"DearLetters", "fitsSeen", "(I)Z"⟩ ∈ z_tbl := z_tbl_in (List.mem_of_getElem? (i := 42) (by decide +kernel)) rfl
theorem w_43 : Cond.selects "DearLetters" ⟨"DearLetters", "mostAlike", "(II)I"⟩ ⟨"DearLetters", "mostAlike", "(II)I"⟩ ∈ z_tbl := z_tbl_in (List.mem_of_getElem? (i := 43) (by decide +kernel)) rfl
theorem w_44 : Cond.selects "DearLetters" ⟨"DearLetters", "alike", "(III)I"⟩ ⟨"DearLetters", "alike", "(III)I"⟩ ∈ z_tbl := z_tbl_in (List.mem_of_getElem? (i := 44) (by decide +kernel)) rfl
theorem w_45 : Cond.selects "DearLetters" ⟨"DearLetters", "remember", "()V"⟩ ⟨"DearLetters", "remember", "()V"⟩ ∈ z_tbl := z_tbl_in (List.mem_of_getElem? (i := 45) (by decide +kernel)) rfl
theorem w_46 : Cond.selects "DearLetters" ⟨"DearLetters", "canGoBy", "(I)Z"⟩ ⟨"DearLetters", "canGoBy", "(I)Z"⟩ ∈ z_tbl := z_tbl_in (List.mem_of_getElem? (i := 46) (by decide +kernel)) rfl
theorem w_47 : Cond.selects "DearLetters" ⟨"DearLetters", "catchColds", "()I"⟩ ⟨"DearLetters", "catchColds", "()I"⟩ ∈ z_tbl := z_tbl_in (List.mem_of_getElem? (i := 47) (by decide +kernel)) rfl
theorem w_48 : Cond.selects "DearLetters" ⟨"DearLetters", "drawOfHundred", "()I"⟩ ⟨"DearLetters", "drawOfHundred", "()I"⟩ ∈ z_tbl := z_tbl_in (List.mem_of_getElem? (i := 48) (by decide +kernel)) rfl
theorem w_49 : Cond.selects "DearLetters$Sums" ⟨"DearLetters$Sums", "test", "(I)Z"⟩ ⟨"DearLetters$Sums", "test", "(I)Z"⟩ ∈ z_tbl := z_tbl_in (List.mem_of_getElem? (i := 49) (by decide +kernel)) rfl
theorem w_50 : Cond.selects "DearLetters$Sums" ⟨"DearLetters$Sums", "both", "(I)Z"⟩ ⟨"DearLetters$Sums", "both", "(I)Z"⟩ ∈ z_tbl := z_tbl_in (List.mem_of_getElem? (i := 50) (by decide +kernel)) rfl
theorem w_51 : Cond.selects "DearLetters$Sums" ⟨"DearLetters$Sums", "fact", "(I)Z"⟩ ⟨"DearLetters$Sums", "fact", "(I)Z"⟩ ∈ z_tbl := z_tbl_in (List.mem_of_getElem? (i := 51) (by decide +kernel)) rfl
theorem w_52 : Cond.selects "DearLetters$Question" ⟨"DearLetters$Question", "with", "(JII)J"⟩ ⟨"DearLetters$Question", "with", "(JII)J"⟩ ∈ z_tbl := z_tbl_in (List.mem_of_getElem? (i := 52) (by decide +kernel)) rfl
theorem w_53 : Cond.selects "DearLetters" ⟨"DearLetters", "loadScratch", "()V"⟩ ⟨"DearLetters", "loadScratch", "()V"⟩ ∈ z_tbl := z_tbl_in (List.mem_of_getElem? (i := 53) (by decide +kernel)) rfl
theorem w_54 : Cond.selects "DearLetters$State" ⟨"DearLetters$State", "letterCanBe", "(LDearLetters$Heap;I)Z"⟩ ⟨"DearLetters$State", "letterCanBe", "(LDearLetters$Heap;I)Z"⟩ ∈ z_tbl := z_tbl_in (List.mem_of_getElem? (i := 54) (by decide +kernel)) rfl
theorem w_55 : Cond.selects "DearLettersModel" ⟨"DearLettersModel", "look", "()I"⟩ ⟨"DearLettersModel", "look", "()I"⟩ ∈ z_tbl := z_tbl_in (List.mem_of_getElem? (i := 55) (by decide +kernel)) rfl
theorem w_56 : Cond.selects "DearLettersModel" ⟨"DearLettersModel", "statementTold", "()V"⟩ ⟨"DearLettersModel", "statementTold", "()V"⟩ ∈ z_tbl := z_tbl_in (List.mem_of_getElem? (i := 56) (by decide +kernel)) rfl
theorem w_57 : Cond.selects "DearLettersModel" ⟨"DearLettersModel", "fail", "(II)V"⟩ ⟨"DearLettersModel", "fail", "(II)V"⟩ ∈ z_tbl := z_tbl_in (List.mem_of_getElem? (i := 57) (by decide +kernel)) rfl
theorem w_58 : Cond.selects "DearLettersModel" ⟨"DearLettersModel", "eats", "([C)Z"⟩ ⟨"DearLettersModel", "eats", "([C)Z"⟩ ∈ z_tbl := z_tbl_in (List.mem_of_getElem? (i := 58) (by decide +kernel)) rfl
theorem w_59 : Cond.selects "DearLettersModel" ⟨"DearLettersModel", "isHere", "([C)Z"⟩ ⟨"DearLettersModel", "isHere", "([C)Z"⟩ ∈ z_tbl := z_tbl_in (List.mem_of_getElem? (i := 59) (by decide +kernel)) rfl
theorem w_60 : Cond.selects "DearLettersModel" ⟨"DearLettersModel", "letterTold", "(I)V"⟩ ⟨"DearLettersModel", "letterTold", "(I)V"⟩ ∈ z_tbl := z_tbl_in (List.mem_of_getElem? (i := 60) (by decide +kernel)) rfl
theorem w_61 : Cond.selects "DearLettersModel" ⟨"DearLettersModel", "isFull", "(III)Z"⟩ ⟨"DearLettersModel", "isFull", "(III)Z"⟩ ∈ z_tbl := z_tbl_in (List.mem_of_getElem? (i := 61) (by decide +kernel)) rfl
theorem w_62 : Cond.selects "DearLettersModel" ⟨"DearLettersModel", "newName", "()J"⟩ ⟨"DearLettersModel", "newName", "()J"⟩ ∈ z_tbl := z_tbl_in (List.mem_of_getElem? (i := 62) (by decide +kernel)) rfl
theorem w_63 : Cond.selects "DearLettersModel" ⟨"DearLettersModel", "name", "()J"⟩ ⟨"DearLettersModel", "name", "()J"⟩ ∈ z_tbl := z_tbl_in (List.mem_of_getElem? (i := 63) (by decide +kernel)) rfl
theorem w_64 : Cond.selects "DearLettersModel" ⟨"DearLettersModel", "isOwnHere", "()Z"⟩ ⟨"DearLettersModel", "isOwnHere", "()Z"⟩ ∈ z_tbl := z_tbl_in (List.mem_of_getElem? (i := 64) (by decide +kernel)) rfl
theorem w_65 : Cond.selects "DearLettersModel" ⟨"DearLettersModel", "nameOf", "(IJ)I"⟩ ⟨"DearLettersModel", "nameOf", "(IJ)I"⟩ ∈ z_tbl := z_tbl_in (List.mem_of_getElem? (i := 65) (by decide +kernel)) rfl
theorem w_66 : Cond.selects "DearLettersModel" ⟨"DearLettersModel", "asks", "([C)V"⟩ ⟨"DearLettersModel", "asks", "([C)V"⟩ ∈ z_tbl := z_tbl_in (List.mem_of_getElem? (i := 66) (by decide +kernel)) rfl
theorem w_67 : Cond.selects "DearLettersModel" ⟨"DearLettersModel", "number", "(II)I"⟩ ⟨"DearLettersModel", "number", "(II)I"⟩ ∈ z_tbl := z_tbl_in (List.mem_of_getElem? (i := 67) (by decide +kernel)) rfl
theorem w_68 : Cond.selects "DearLettersModel" ⟨"DearLettersModel", "adds", "(IJ)I"⟩ ⟨"DearLettersModel", "adds", "(IJ)I"⟩ ∈ z_tbl := z_tbl_in (List.mem_of_getElem? (i := 68) (by decide +kernel)) rfl
theorem w_69 : Cond.selects "DearLettersModel" ⟨"DearLettersModel", "giftTold", "(I)V"⟩ ⟨"DearLettersModel", "giftTold", "(I)V"⟩ ∈ z_tbl := z_tbl_in (List.mem_of_getElem? (i := 69) (by decide +kernel)) rfl
theorem w_70 : Cond.selects "DearLettersModel" ⟨"DearLettersModel", "wishTold", "()V"⟩ ⟨"DearLettersModel", "wishTold", "()V"⟩ ∈ z_tbl := z_tbl_in (List.mem_of_getElem? (i := 70) (by decide +kernel)) rfl
theorem w_71 : Cond.selects "DearLettersModel" ⟨"DearLettersModel", "oneOf", "(I)I"⟩ ⟨"DearLettersModel", "oneOf", "(I)I"⟩ ∈ z_tbl := z_tbl_in (List.mem_of_getElem? (i := 71) (by decide +kernel)) rfl
theorem w_72 : Cond.selects "DearLettersModel" ⟨"DearLettersModel", "nearTold", "(I)V"⟩ ⟨"DearLettersModel", "nearTold", "(I)V"⟩ ∈ z_tbl := z_tbl_in (List.mem_of_getElem? (i := 72) (by decide +kernel)) rfl
theorem w_73 : Cond.selects "DearLettersModel" ⟨"DearLettersModel", "likeTold", "(I)V"⟩ ⟨"DearLettersModel", "likeTold", "(I)V"⟩ ∈ z_tbl := z_tbl_in (List.mem_of_getElem? (i := 73) (by decide +kernel)) rfl
theorem w_74 : Cond.selects "DearLettersModel" ⟨"DearLettersModel", "helperTold", "(I)V"⟩ ⟨"DearLettersModel", "helperTold", "(I)V"⟩ ∈ z_tbl := z_tbl_in (List.mem_of_getElem? (i := 74) (by decide +kernel)) rfl
theorem w_75 : Cond.selects "DearLettersModel" ⟨"DearLettersModel", "codesTold", "(II)V"⟩ ⟨"DearLettersModel", "codesTold", "(II)V"⟩ ∈ z_tbl := z_tbl_in (List.mem_of_getElem? (i := 75) (by decide +kernel)) rfl
theorem w_76 : Cond.selects "DearLettersModel" ⟨"DearLettersModel", "qSums", "()V"⟩ ⟨"DearLettersModel", "qSums", "()V"⟩ ∈ z_tbl := z_tbl_in (List.mem_of_getElem? (i := 76) (by decide +kernel)) rfl
theorem w_77 : Cond.selects "DearLettersModel" ⟨"DearLettersModel", "qPartTold", "()V"⟩ ⟨"DearLettersModel", "qPartTold", "()V"⟩ ∈ z_tbl := z_tbl_in (List.mem_of_getElem? (i := 77) (by decide +kernel)) rfl
theorem w_78 : Cond.selects "DearLettersModel" ⟨"DearLettersModel", "qWordOf", "(II)I"⟩ ⟨"DearLettersModel", "qWordOf", "(II)I"⟩ ∈ z_tbl := z_tbl_in (List.mem_of_getElem? (i := 78) (by decide +kernel)) rfl
theorem w_79 : Cond.selects "DearLettersModel" ⟨"DearLettersModel", "qWordHere", "()I"⟩ ⟨"DearLettersModel", "qWordHere", "()I"⟩ ∈ z_tbl := z_tbl_in (List.mem_of_getElem? (i := 79) (by decide +kernel)) rfl
theorem w_80 : Cond.selects "DearLettersModel" ⟨"DearLettersModel", "isAllowed", "(I)Z"⟩ ⟨"DearLettersModel", "isAllowed", "(I)Z"⟩ ∈ z_tbl := z_tbl_in (List.mem_of_getElem? (i := 80) (by decide +kernel)) rfl
theorem w_81 : Cond.selects "DearLettersModel" ⟨"DearLettersModel", "qOpens", "(II)V"⟩ ⟨"DearLettersModel", "qOpens", "(II)V"⟩ ∈ z_tbl := z_tbl_in (List.mem_of_getElem? (i := 81) (by decide +kernel)) rfl
theorem w_82 : Cond.selects "DearLettersModel" ⟨"DearLettersModel", "asksSign", "(I)V"⟩ ⟨"DearLettersModel", "asksSign", "(I)V"⟩ ∈ z_tbl := z_tbl_in (List.mem_of_getElem? (i := 82) (by decide +kernel)) rfl
theorem w_83 : Cond.selects "DearLettersModel" ⟨"DearLettersModel", "takesSign", "(I)Z"⟩ ⟨"DearLettersModel", "takesSign", "(I)Z"⟩ ∈ z_tbl := z_tbl_in (List.mem_of_getElem? (i := 83) (by decide +kernel)) rfl
theorem w_84 : Cond.selects "DearLettersModel" ⟨"DearLettersModel", "qAsksWord", "(I)V"⟩ ⟨"DearLettersModel", "qAsksWord", "(I)V"⟩ ∈ z_tbl := z_tbl_in (List.mem_of_getElem? (i := 84) (by decide +kernel)) rfl
theorem w_85 : Cond.selects "DearLettersModel" ⟨"DearLettersModel", "qCode", "(I)V"⟩ ⟨"DearLettersModel", "qCode", "(I)V"⟩ ∈ z_tbl := z_tbl_in (List.mem_of_getElem? (i := 85) (by decide +kernel)) rfl
theorem w_86 : Cond.selects "DearLettersModel" ⟨"DearLettersModel", "qEndsPart", "()V"⟩ ⟨"DearLettersModel", "qEndsPart", "()V"⟩ ∈ z_tbl := z_tbl_in (List.mem_of_getElem? (i := 86) (by decide +kernel)) rfl
theorem w_87 : Cond.selects "DearLettersModel" ⟨"DearLettersModel", "qDrops", "()V"⟩ ⟨"DearLettersModel", "qDrops", "()V"⟩ ∈ z_tbl := z_tbl_in (List.mem_of_getElem? (i := 87) (by decide +kernel)) rfl
theorem w_88 : Cond.selects "DearLettersModel" ⟨"DearLettersModel", "qGoesOn", "()Z"⟩ ⟨"DearLettersModel", "qGoesOn", "()Z"⟩ ∈ z_tbl := z_tbl_in (List.mem_of_getElem? (i := 88) (by decide +kernel)) rfl
theorem w_89 : Cond.selects "DearLettersModel" ⟨"DearLettersModel", "qBracket", "()I"⟩ ⟨"DearLettersModel", "qBracket", "()I"⟩ ∈ z_tbl := z_tbl_in (List.mem_of_getElem? (i := 89) (by decide +kernel)) rfl
theorem w_90 : Cond.selects "DearLettersModel" ⟨"DearLettersModel", "qDropsToBracket", "()V"⟩ ⟨"DearLettersModel", "qDropsToBracket", "()V"⟩ ∈ z_tbl := z_tbl_in (List.mem_of_getElem? (i := 90) (by decide +kernel)) rfl
theorem w_91 : Cond.selects "DearLettersModel" ⟨"DearLettersModel", "qIsOn", "(I)Z"⟩ ⟨"DearLettersModel", "qIsOn", "(I)Z"⟩ ∈ z_tbl := z_tbl_in (List.mem_of_getElem? (i := 91) (by decide +kernel)) rfl
theorem w_92 : Cond.selects "DearLettersModel" ⟨"DearLettersModel", "stands", "()V"⟩ ⟨"DearLettersModel", "stands", "()V"⟩ ∈ z_tbl := z_tbl_in (List.mem_of_getElem? (i := 92) (by decide +kernel)) rfl
theorem w_93 : Cond.selects "DearLettersModel" ⟨"DearLettersModel", "leftAnew", "()V"⟩ ⟨"DearLettersModel", "leftAnew", "()V"⟩ ∈ z_tbl := z_tbl_in (List.mem_of_getElem? (i := 93) (by decide +kernel)) rfl
theorem w_94 : Cond.selects "DearLettersModel" ⟨"DearLettersModel", "helperMany", "()I"⟩ ⟨"DearLettersModel", "helperMany", "()I"⟩ ∈ z_tbl := z_tbl_in (List.mem_of_getElem? (i := 94) (by decide +kernel)) rfl
theorem w_95 : Cond.selects "DearLettersModel" ⟨"DearLettersModel", "giftMany", "()I"⟩ ⟨"DearLettersModel", "giftMany", "()I"⟩ ∈ z_tbl := z_tbl_in (List.mem_of_getElem? (i := 95) (by decide +kernel)) rfl
theorem w_96 : Cond.selects "DearLettersModel" ⟨"DearLettersModel", "manyWith", "(I)I"⟩ ⟨"DearLettersModel", "manyWith", "(I)I"⟩ ∈ z_tbl := z_tbl_in (List.mem_of_getElem? (i := 96) (by decide +kernel)) rfl
theorem w_97 : Cond.selects "DearLettersModel" ⟨"DearLettersModel", "letterMany", "()I"⟩ ⟨"DearLettersModel", "letterMany", "()I"⟩ ∈ z_tbl := z_tbl_in (List.mem_of_getElem? (i := 97) (by decide +kernel)) rfl
theorem w_98 : Cond.selects "DearLettersModel" ⟨"DearLettersModel", "leftAll", "()I"⟩ ⟨"DearLettersModel", "leftAll", "()I"⟩ ∈ z_tbl := z_tbl_in (List.mem_of_getElem? (i := 98) (by decide +kernel)) rfl
theorem w_99 : Cond.selects "DearLettersModel" ⟨"DearLettersModel", "leftOf", "(I)I"⟩ ⟨"DearLettersModel", "leftOf", "(I)I"⟩ ∈ z_tbl := z_tbl_in (List.mem_of_getElem? (i := 99) (by decide +kernel)) rfl
theorem w_100 : Cond.selects "DearLettersModel" ⟨"DearLettersModel", "isMail", "(I)Z"⟩ ⟨"DearLettersModel", "isMail", "(I)Z"⟩ ∈ z_tbl := z_tbl_in (List.mem_of_getElem? (i := 100) (by decide +kernel)) rfl
theorem w_101 : Cond.selects "DearLettersModel" ⟨"DearLettersModel", "doneOf", "(I)I"⟩ ⟨"DearLettersModel", "doneOf", "(I)I"⟩ ∈ z_tbl := z_tbl_in (List.mem_of_getElem? (i := 101) (by decide +kernel)) rfl
theorem w_102 : Cond.selects "DearLettersModel" ⟨"DearLettersModel", "sheetOf", "(I)I"⟩ ⟨"DearLettersModel", "sheetOf", "(I)I"⟩ ∈ z_tbl := z_tbl_in (List.mem_of_getElem? (i := 102) (by decide +kernel)) rfl
theorem w_103 : Cond.selects "DearLettersModel" ⟨"DearLettersModel", "giftOf", "(I)I"⟩ ⟨"DearLettersModel", "giftOf", "(I)I"⟩ ∈ z_tbl := z_tbl_in (List.mem_of_getElem? (i := 103) (by decide +kernel)) rfl
theorem w_104 : Cond.selects "DearLettersModel" ⟨"DearLettersModel", "wishesOf", "(I)I"⟩ ⟨"DearLettersModel", "wishesOf", "(I)I"⟩ ∈ z_tbl := z_tbl_in (List.mem_of_getElem? (i := 104) (by decide +kernel)) rfl
theorem w_105 : Cond.selects "DearLettersModel" ⟨"DearLettersModel", "wishOf", "(II)I"⟩ ⟨"DearLettersModel", "wishOf", "(II)I"⟩ ∈ z_tbl := z_tbl_in (List.mem_of_getElem? (i := 105) (by decide +kernel)) rfl
theorem w_106 : Cond.selects "DearLettersModel" ⟨"DearLettersModel", "isGift", "(I)Z"⟩ ⟨"DearLettersModel", "isGift", "(I)Z"⟩ ∈ z_tbl := z_tbl_in (List.mem_of_getElem? (i := 106) (by decide +kernel)) rfl
theorem w_107 : Cond.selects "DearLettersModel" ⟨"DearLettersModel", "isHelper", "(I)Z"⟩ ⟨"DearLettersModel", "isHelper", "(I)Z"⟩ ∈ z_tbl := z_tbl_in (List.mem_of_getElem? (i := 107) (by decide +kernel)) rfl
theorem w_108 : Cond.selects "DearLettersModel" ⟨"DearLettersModel", "timeOf", "(II)I"⟩ ⟨"DearLettersModel", "timeOf", "(II)I"⟩ ∈ z_tbl := z_tbl_in (List.mem_of_getElem? (i := 108) (by decide +kernel)) rfl
theorem w_109 : Cond.selects "DearLettersModel" ⟨"DearLettersModel", "codesTell", "(III)J"⟩ ⟨"DearLettersModel", "codesTell", "(III)J"⟩ ∈ z_tbl := z_tbl_in (List.mem_of_getElem? (i := 109) (by decide +kernel)) rfl
theorem w_110 : Cond.selects "DearLettersModel" ⟨"DearLettersModel", "qPuts", "(J)V"⟩ ⟨"DearLettersModel", "qPuts", "(J)V"⟩ ∈ z_tbl := z_tbl_in (List.mem_of_getElem? (i := 110) (by decide +kernel)) rfl
theorem w_111 : Cond.selects "DearLettersModel" ⟨"DearLettersModel", "qPartOf", "(II)J"⟩ ⟨"DearLettersModel", "qPartOf", "(II)J"⟩ ∈ z_tbl := z_tbl_in (List.mem_of_getElem? (i := 111) (by decide +kernel)) rfl
theorem w_112 : Cond.selects "DearLettersModel" ⟨"DearLettersModel", "qJoins", "(I)V"⟩ ⟨"DearLettersModel", "qJoins", "(I)V"⟩ ∈ z_tbl := z_tbl_in (List.mem_of_getElem? (i := 112) (by decide +kernel)) rfl
theorem w_113 : Cond.selects "DearLettersModel" ⟨"DearLettersModel", "warmOf", "(II)J"⟩ ⟨"DearLettersModel", "warmOf", "(II)J"⟩ ∈ z_tbl := z_tbl_in (List.mem_of_getElem? (i := 113) (by decide +kernel)) rfl
theorem w_114 : Cond.selects "DearLettersModel" ⟨"DearLettersModel", "canAnswer", "(II)Z"⟩ ⟨"DearLettersModel", "canAnswer", "(II)Z"⟩ ∈ z_tbl := z_tbl_in (List.mem_of_getElem? (i := 114) (by decide +kernel)) rfl
theorem w_115 : Cond.selects "DearLettersModel" ⟨"DearLettersModel", "doesBear", "(II)Z"⟩ ⟨"DearLettersModel", "doesBear", "(II)Z"⟩ ∈ z_tbl := z_tbl_in (List.mem_of_getElem? (i := 115) (by decide +kernel)) rfl
theorem w_116 : Cond.selects "DearLettersModel" ⟨"DearLettersModel", "laysWarmest", "()I"⟩ ⟨"DearLettersModel", "laysWarmest", "()I"⟩ ∈ z_tbl := z_tbl_in (List.mem_of_getElem? (i := 116) (by decide +kernel)) rfl
theorem w_117 : Cond.selects "DearLettersModel" ⟨"DearLettersModel", "laysTimes", "()V"⟩ ⟨"DearLettersModel", "laysTimes", "()V"⟩ ∈ z_tbl := z_tbl_in (List.mem_of_getElem? (i := 117) (by decide +kernel)) rfl
theorem w_118 : Cond.selects "DearLettersModel" ⟨"DearLettersModel", "isNextRow", "()Z"⟩ ⟨"DearLettersModel", "isNextRow", "()Z"⟩ ∈ z_tbl := z_tbl_in (List.mem_of_getElem? (i := 118) (by decide +kernel)) rfl
theorem w_119 : Cond.selects "DearLettersModel" ⟨"DearLettersModel", "answeredIn", "()I"⟩ ⟨"DearLettersModel", "answeredIn", "()I"⟩ ∈ z_tbl := z_tbl_in (List.mem_of_getElem? (i := 119) (by decide +kernel)) rfl
theorem w_120 : Cond.selects "DearLettersModel" ⟨"DearLettersModel", "canRow", "()Z"⟩ ⟨"DearLettersModel", "canRow", "()Z"⟩ ∈ z_tbl := z_tbl_in (List.mem_of_getElem? (i := 120) (by decide +kernel)) rfl
theorem w_121 : Cond.selects "DearLettersModel" ⟨"DearLettersModel", "warmIn", "()J"⟩ ⟨"DearLettersModel", "warmIn", "()J"⟩ ∈ z_tbl := z_tbl_in (List.mem_of_getElem? (i := 121) (by decide +kernel)) rfl
theorem w_122 : Cond.selects "DearLettersModel" ⟨"DearLettersModel", "isAhead", "(III)Z"⟩ ⟨"DearLettersModel", "isAhead", "(III)Z"⟩ ∈ z_tbl := z_tbl_in (List.mem_of_getElem? (i := 122) (by decide +kernel)) rfl
theorem w_123 : Cond.selects "DearLettersModel" ⟨"DearLettersModel", "putsAside", "()V"⟩ ⟨"DearLettersModel", "putsAside", "()V"⟩ ∈ z_tbl := z_tbl_in (List.mem_of_getElem? (i := 123) (by decide +kernel)) rfl
theorem w_124 : Cond.selects "DearLettersModel" ⟨"DearLettersModel", "eveningGoes", "()I"⟩ ⟨"DearLettersModel", "eveningGoes", "()I"⟩ ∈ z_tbl := z_tbl_in (List.mem_of_getElem? (i := 124) (by decide +kernel)) rfl
theorem w_125 : Cond.selects "DearLettersModel" ⟨"DearLettersModel", "isAnswered", "(II)V"⟩ ⟨"DearLettersModel", "isAnswered", "(II)V"⟩ ∈ z_tbl := z_tbl_in (List.mem_of_getElem? (i := 125) (by decide +kernel)) rfl
theorem w_126 : Cond.selects "DearLettersModel" ⟨"DearLettersModel", "answeredMany", "()I"⟩ ⟨"DearLettersModel", "answeredMany", "()I"⟩ ∈ z_tbl := z_tbl_in (List.mem_of_getElem? (i := 126) (by decide +kernel)) rfl
theorem w_127 : Cond.selects "DearLettersModel" ⟨"DearLettersModel", "takesBack", "()V"⟩ ⟨"DearLettersModel", "takesBack", "()V"⟩ ∈ z_tbl := z_tbl_in (List.mem_of_getElem? (i := 127) (by decide +kernel)) rfl
theorem w_128 : Cond.selects "DearLettersModel" ⟨"DearLettersModel", "laysSheets", "(I)Z"⟩ ⟨"DearLettersModel", "laysSheets", "(I)Z"⟩ ∈ z_tbl := z_tbl_in (List.mem_of_getElem? (i := 128) (by decide +kernel)) rfl
theorem w_129 : Cond.selects "DearLettersModel" ⟨"DearLettersModel", "isApart", "(I)Z"⟩ ⟨"DearLettersModel", "isApart", "(I)Z"⟩ ∈ z_tbl := z_tbl_in (List.mem_of_getElem? (i := 129) (by decide +kernel)) rfl
theorem w_130 : Cond.selects "DearLettersModel" ⟨"DearLettersModel", "sharedIn", "()I"⟩ ⟨"DearLettersModel", "sharedIn", "()I"⟩ ∈ z_tbl := z_tbl_in (List.mem_of_getElem? (i := 130) (by decide +kernel)) rfl
theorem w_131 : Cond.selects "DearLettersModel" ⟨"DearLettersModel", "canGive", "()Z"⟩ ⟨"DearLettersModel", "canGive", "()Z"⟩ ∈ z_tbl := z_tbl_in (List.mem_of_getElem? (i := 131) (by decide +kernel)) rfl
theorem w_132 : Cond.selects "DearLettersModel" ⟨"DearLettersModel", "lostBy", "(I)I"⟩ ⟨"DearLettersModel", "lostBy", "(I)I"⟩ ∈ z_tbl := z_tbl_in (List.mem_of_getElem? (i := 132) (by decide +kernel)) rfl
theorem w_133 : Cond.selects "DearLettersModel" ⟨"DearLettersModel", "oddsIn", "()J"⟩ ⟨"DearLettersModel", "oddsIn", "()J"⟩ ∈ z_tbl := z_tbl_in (List.mem_of_getElem? (i := 133) (by decide +kernel)) rfl
theorem w_134 : Cond.selects "DearLettersModel" ⟨"DearLettersModel", "isNextGroups", "()Z"⟩ ⟨"DearLettersModel", "isNextGroups", "()Z"⟩ ∈ z_tbl := z_tbl_in (List.mem_of_getElem? (i := 134) (by decide +kernel)) rfl
theorem w_135 : Cond.selects "DearLettersModel" ⟨"DearLettersModel", "refuses", "(I)I"⟩ ⟨"DearLettersModel", "refuses", "(I)I"⟩ ∈ z_tbl := z_tbl_in (List.mem_of_getElem? (i := 135) (by decide +kernel)) rfl
theorem w_136 : Cond.selects "DearLettersModel" ⟨"DearLettersModel", "isAsTold", "(I)Z"⟩ ⟨"DearLettersModel", "isAsTold", "(I)Z"⟩ ∈ z_tbl := z_tbl_in (List.mem_of_getElem? (i := 136) (by decide +kernel)) rfl
theorem w_137 : Cond.selects "DearLettersModel" ⟨"DearLettersModel", "mostAlike", "(II)I"⟩ ⟨"DearLettersModel", "mostAlike", "(II)I"⟩ ∈ z_tbl := z_tbl_in (List.mem_of_getElem? (i := 137) (by decide +kernel)) rfl
theorem w_138 : Cond.selects "DearLettersModel" ⟨"DearLettersModel", "keeps", "()V"⟩ ⟨"DearLettersModel", "keeps", "()V"⟩ ∈ z_tbl := z_tbl_in (List.mem_of_getElem? (i := 138) (by decide +kernel)) rfl
theorem w_139 : Cond.selects "DearLettersModel" ⟨"DearLettersModel", "isSheetNear", "(II)Z"⟩ ⟨"DearLettersModel", "isSheetNear", "(II)Z"⟩ ∈ z_tbl := z_tbl_in (List.mem_of_getElem? (i := 139) (by decide +kernel)) rfl
theorem w_140 : Cond.selects "DearLettersModel" ⟨"DearLettersModel", "drawOf", "(I)I"⟩ ⟨"DearLettersModel", "drawOf", "(I)I"⟩ ∈ z_tbl := z_tbl_in (List.mem_of_getElem? (i := 140) (by decide +kernel)) rfl
theorem w_141 : Cond.selects "DearLettersModel" ⟨"DearLettersModel", "qKind", "()I"⟩ ⟨"DearLettersModel", "qKind", "()I"⟩ ∈ z_tbl := z_tbl_in (List.mem_of_getElem? (i := 141) (by decide +kernel)) rfl
theorem w_142 : Cond.selects "DearLettersModel" ⟨"DearLettersModel", "qTest", "()V"⟩ ⟨"DearLettersModel", "qTest", "()V"⟩ ∈ z_tbl := z_tbl_in (List.mem_of_getElem? (i := 142) (by decide +kernel)) rfl
theorem w_143 : Cond.selects "DearLettersModel" ⟨"DearLettersModel", "qFact", "()V"⟩ ⟨"DearLettersModel", "qFact", "()V"⟩ ∈ z_tbl := z_tbl_in (List.mem_of_getElem? (i := 143) (by decide +kernel)) rfl
theorem w_144 : Cond.selects "DearLettersModel" ⟨"DearLettersModel", "qDropsNots", "()V"⟩ ⟨"DearLettersModel", "qDropsNots", "()V"⟩ ∈ z_tbl := z_tbl_in (List.mem_of_getElem? (i := 144) (by decide +kernel)) rfl
theorem w_145 : Cond.selects "DearLettersModel" ⟨"DearLettersModel", "qGoesOnTest", "()Z"⟩ ⟨"DearLettersModel", "qGoesOnTest", "()Z"⟩ ∈ z_tbl := z_tbl_in (List.mem_of_getElem? (i := 145) (by decide +kernel)) rfl
theorem w_146 : Cond.selects "DearLettersModel" ⟨"DearLettersModel", "qHasSquare", "()Z"⟩ ⟨"DearLettersModel", "qHasSquare", "()Z"⟩ ∈ z_tbl := z_tbl_in (List.mem_of_getElem? (i := 146) (by decide +kernel)) rfl
theorem w_147 : Cond.selects "DearLettersModel" ⟨"DearLettersModel", "qTold", "(I)J"⟩ ⟨"DearLettersModel", "qTold", "(I)J"⟩ ∈ z_tbl := z_tbl_in (List.mem_of_getElem? (i := 147) (by decide +kernel)) rfl
theorem w_148 : Cond.selects "DearLettersModel" ⟨"DearLettersModel", "qOf", "(IJI)J"⟩ ⟨"DearLettersModel", "qOf", "(IJI)J"⟩ ∈ z_tbl := z_tbl_in (List.mem_of_getElem? (i := 148) (by decide +kernel)) rfl
theorem w_149 : Cond.selects "DearLettersModel" ⟨"DearLettersModel", "qTakes", "(IJI)V"⟩ ⟨"DearLettersModel", "qTakes", "(IJI)V"⟩ ∈ z_tbl := z_tbl_in (List.mem_of_getElem? (i := 149) (by decide +kernel)) rfl
theorem w_150 : Cond.selects "DearLettersModel" ⟨"DearLettersModel", "writes", "(I)V"⟩ ⟨"DearLettersModel", "writes", "(I)V"⟩ ∈ z_tbl := z_tbl_in (List.mem_of_getElem? (i := 150) (by decide +kernel)) rfl
theorem w_151 : Cond.selects "DearLettersModel" ⟨"DearLettersModel", "isImage", "(I)Z"⟩ ⟨"DearLettersModel", "isImage", "(I)Z"⟩ ∈ z_tbl := z_tbl_in (List.mem_of_getElem? (i := 151) (by decide +kernel)) rfl
theorem w_152 : Cond.selects "DearLettersModel" ⟨"DearLettersModel", "areLettersTold", "(I)Z"⟩ ⟨"DearLettersModel", "areLettersTold", "(I)Z"⟩ ∈ z_tbl := z_tbl_in (List.mem_of_getElem? (i := 152) (by decide +kernel)) rfl
theorem w_154 : Cond.initialized "DearLetters" ∈ z_tbl := z_tbl_in (List.mem_of_getElem? (i := 154) (by decide +kernel)) rfl
theorem w_155 : Cond.initialized "DearLetters$Text" ∈ z_tbl := z_tbl_in (List.mem_of_getElem? (i := 155) (by decide +kernel)) rfl
theorem w_160 : Cond.initialized "DearLetters$Machine" ∈ z_tbl := z_tbl_in (List.mem_of_getElem? (i := 160) (by decide +kernel)) rfl
theorem w_161 : Cond.initialized "DearLetters$Evening" ∈ z_tbl := z_tbl_in (List.mem_of_getElem? (i := 161) (by decide +kernel)) rfl
theorem w_162 : Cond.initialized "DearLetters$Sharing" ∈ z_tbl := z_tbl_in (List.mem_of_getElem? (i := 162) (by decide +kernel)) rfl
theorem w_163 : Cond.initialized "DearLetters$Sorting" ∈ z_tbl := z_tbl_in (List.mem_of_getElem? (i := 163) (by decide +kernel)) rfl
theorem w_164 : Cond.initialized "DearLetters$State" ∈ z_tbl := z_tbl_in (List.mem_of_getElem? (i := 164) (by decide +kernel)) rfl
theorem w_165 : Cond.initialized "java/util/Arrays" ∈ z_tbl := z_tbl_in (List.mem_of_getElem? (i := 165) (by decide +kernel)) rfl
theorem w_166 : Cond.initialized "DearLetters$Heap" ∈ z_tbl := z_tbl_in (List.mem_of_getElem? (i := 166) (by decide +kernel)) rfl
theorem w_167 : Cond.initialized "DearLetters$Code" ∈ z_tbl := z_tbl_in (List.mem_of_getElem? (i := 167) (by decide +kernel)) rfl
theorem w_168 : Cond.initialized "DearLetters$Sums" ∈ z_tbl := z_tbl_in (List.mem_of_getElem? (i := 168) (by decide +kernel)) rfl
theorem w_169 : Cond.initialized "DearLetters$HeapReader" ∈ z_tbl := z_tbl_in (List.mem_of_getElem? (i := 169) (by decide +kernel)) rfl
theorem w_170 : Cond.initialized "DearLetters$Question" ∈ z_tbl := z_tbl_in (List.mem_of_getElem? (i := 170) (by decide +kernel)) rfl
theorem w_171 : Cond.initialized "DearLettersModel" ∈ z_tbl := z_tbl_in (List.mem_of_getElem? (i := 171) (by decide +kernel)) rfl
theorem w_172 : Cond.initialized "java/lang/System" ∈ z_tbl := z_tbl_in (List.mem_of_getElem? (i := 172) (by decide +kernel)) rfl
theorem w_173 : Cond.initialized "java/lang/Math" ∈ z_tbl := z_tbl_in (List.mem_of_getElem? (i := 173) (by decide +kernel)) rfl
theorem w_240 : Cond.fieldLink "DearLetters$Text" 9 "DearLetters$Text" "bytes" "[I" ∈ z_tbl := z_tbl_in (List.mem_of_getElem? (i := 240) (by decide +kernel)) rfl
theorem w_241 : Cond.fieldLink "DearLetters" 292 "DearLetters$Text" "bytes" "[I" ∈ z_tbl := z_tbl_in (List.mem_of_getElem? (i := 241) (by decide +kernel)) rfl
theorem w_242 : Cond.fieldLink "DearLetters" 105 "DearLetters$Text" "size" "I" ∈ z_tbl := z_tbl_in (List.mem_of_getElem? (i := 242) (by decide +kernel)) rfl
theorem w_243 : Cond.fieldLink "DearLetters$Text" 38 "DearLetters$Text" "size" "I" ∈ z_tbl := z_tbl_in (List.mem_of_getElem? (i := 243) (by decide +kernel)) rfl
theorem w_244 : Cond.fieldLink "DearLetters$Text" 41 "DearLetters$Text" "fault" "I" ∈ z_tbl := z_tbl_in (List.mem_of_getElem? (i := 244) (by decide +kernel)) rfl
theorem w_245 : Cond.fieldLink "DearLetters" 140 "DearLetters$Text" "fault" "I" ∈ z_tbl := z_tbl_in (List.mem_of_getElem? (i := 245) (by decide +kernel)) rfl
theorem w_246 : Cond.fieldLink "DearLetters$Sums" 86 "DearLetters$Text" "fault" "I" ∈ z_tbl := z_tbl_in (List.mem_of_getElem? (i := 246) (by decide +kernel)) rfl
theorem w_247 : Cond.fieldLink "DearLetters$Text" 15 "DearLetters$Text" "place" "I" ∈ z_tbl := z_tbl_in (List.mem_of_getElem? (i := 247) (by decide +kernel)) rfl
theorem w_248 : Cond.fieldLink "DearLetters" 143 "DearLetters$Text" "place" "I" ∈ z_tbl := z_tbl_in (List.mem_of_getElem? (i := 248) (by decide +kernel)) rfl
theorem w_249 : Cond.fieldLink "DearLetters$HeapReader" 38 "DearLetters$Text" "kind" "I" ∈ z_tbl := z_tbl_in (List.mem_of_getElem? (i := 249) (by decide +kernel)) rfl
theorem w_250 : Cond.fieldLink "DearLetters$Question" 47 "DearLetters$Text" "kind" "I" ∈ z_tbl := z_tbl_in (List.mem_of_getElem? (i := 250) (by decide +kernel)) rfl
theorem w_251 : Cond.fieldLink "DearLetters$Text" 44 "DearLetters$Text" "kind" "I" ∈ z_tbl := z_tbl_in (List.mem_of_getElem? (i := 251) (by decide +kernel)) rfl
theorem w_252 : Cond.fieldLink "DearLetters$Sums" 79 "DearLetters$Text" "kind" "I" ∈ z_tbl := z_tbl_in (List.mem_of_getElem? (i := 252) (by decide +kernel)) rfl
theorem w_253 : Cond.fieldLink "DearLetters$Text" 53 "DearLetters$Text" "tokenAt" "I" ∈ z_tbl := z_tbl_in (List.mem_of_getElem? (i := 253) (by decide +kernel)) rfl
theorem w_254 : Cond.fieldLink "DearLetters$Text" 56 "DearLetters$Text" "sign" "I" ∈ z_tbl := z_tbl_in (List.mem_of_getElem? (i := 254) (by decide +kernel)) rfl
theorem w_255 : Cond.fieldLink "DearLetters$Sums" 61 "DearLetters$Text" "sign" "I" ∈ z_tbl := z_tbl_in (List.mem_of_getElem? (i := 255) (by decide +kernel)) rfl
theorem w_256 : Cond.fieldLink "DearLetters$Question" 24 "DearLetters$Text" "word" "I" ∈ z_tbl := z_tbl_in (List.mem_of_getElem? (i := 256) (by decide +kernel)) rfl
theorem w_257 : Cond.fieldLink "DearLetters$HeapReader" 52 "DearLetters$Text" "word" "I" ∈ z_tbl := z_tbl_in (List.mem_of_getElem? (i := 257) (by decide +kernel)) rfl
theorem w_258 : Cond.fieldLink "DearLetters$Sums" 46 "DearLetters$Text" "word" "I" ∈ z_tbl := z_tbl_in (List.mem_of_getElem? (i := 258) (by decide +kernel)) rfl
theorem w_259 : Cond.fieldLink "DearLetters$Text" 59 "DearLetters$Text" "word" "I" ∈ z_tbl := z_tbl_in (List.mem_of_getElem? (i := 259) (by decide +kernel)) rfl
theorem w_260 : Cond.fieldLink "DearLetters$Text" 68 "DearLetters$Text" "value" "I" ∈ z_tbl := z_tbl_in (List.mem_of_getElem? (i := 260) (by decide +kernel)) rfl
theorem w_261 : Cond.fieldLink "DearLetters$Text" 47 "DearLetters$Text" "tokenEnd" "I" ∈ z_tbl := z_tbl_in (List.mem_of_getElem? (i := 261) (by decide +kernel)) rfl
theorem w_262 : Cond.fieldLink "DearLetters$Text" 19 "DearLetters$Text" "words" "[I" ∈ z_tbl := z_tbl_in (List.mem_of_getElem? (i := 262) (by decide +kernel)) rfl
theorem w_294 : Cond.fieldLink "DearLetters$Machine" 9 "DearLetters$Machine" "values" "[I" ∈ z_tbl := z_tbl_in (List.mem_of_getElem? (i := 294) (by decide +kernel)) rfl
theorem w_295 : Cond.fieldLink "DearLetters$Machine" 15 "DearLetters$Machine" "wishes" "[I" ∈ z_tbl := z_tbl_in (List.mem_of_getElem? (i := 295) (by decide +kernel)) rfl
theorem w_296 : Cond.fieldLink "DearLetters$Machine" 18 "DearLetters$Machine" "stack" "[I" ∈ z_tbl := z_tbl_in (List.mem_of_getElem? (i := 296) (by decide +kernel)) rfl
theorem w_297 : Cond.fieldLink "DearLetters$Machine" 106 "DearLetters$Machine" "top" "I" ∈ z_tbl := z_tbl_in (List.mem_of_getElem? (i := 297) (by decide +kernel)) rfl
theorem w_317 : Cond.fieldLink "DearLetters$Evening" 35 "DearLetters$Evening" "machine" "LDearLetters$Machine;" ∈ z_tbl := z_tbl_in (List.mem_of_getElem? (i := 317) (by decide +kernel)) rfl
theorem w_318 : Cond.fieldLink "DearLetters$Evening" 9 "DearLetters$Evening" "helperFor" "[I" ∈ z_tbl := z_tbl_in (List.mem_of_getElem? (i := 318) (by decide +kernel)) rfl
theorem w_319 : Cond.fieldLink "DearLetters" 242 "DearLetters$Evening" "helperFor" "[I" ∈ z_tbl := z_tbl_in (List.mem_of_getElem? (i := 319) (by decide +kernel)) rfl
theorem w_320 : Cond.fieldLink "DearLetters$Evening" 107 "DearLetters$Evening" "answers" "I" ∈ z_tbl := z_tbl_in (List.mem_of_getElem? (i := 320) (by decide +kernel)) rfl
theorem w_321 : Cond.fieldLink "DearLetters" 239 "DearLetters$Evening" "answers" "I" ∈ z_tbl := z_tbl_in (List.mem_of_getElem? (i := 321) (by decide +kernel)) rfl
theorem w_322 : Cond.fieldLink "DearLetters$Evening" 110 "DearLetters$Evening" "together" "J" ∈ z_tbl := z_tbl_in (List.mem_of_getElem? (i := 322) (by decide +kernel)) rfl
theorem w_323 : Cond.fieldLink "DearLetters" 245 "DearLetters$Evening" "together" "J" ∈ z_tbl := z_tbl_in (List.mem_of_getElem? (i := 323) (by decide +kernel)) rfl
theorem w_324 : Cond.fieldLink "DearLetters$Evening" 17 "DearLetters$Evening" "times" "[[I" ∈ z_tbl := z_tbl_in (List.mem_of_getElem? (i := 324) (by decide +kernel)) rfl
theorem w_325 : Cond.fieldLink "DearLetters$Evening" 22 "DearLetters$Evening" "worth" "[[J" ∈ z_tbl := z_tbl_in (List.mem_of_getElem? (i := 325) (by decide +kernel)) rfl
theorem w_326 : Cond.fieldLink "DearLetters$Evening" 25 "DearLetters$Evening" "spent" "[I" ∈ z_tbl := z_tbl_in (List.mem_of_getElem? (i := 326) (by decide +kernel)) rfl
theorem w_327 : Cond.fieldLink "DearLetters$Evening" 28 "DearLetters$Evening" "gain" "[J" ∈ z_tbl := z_tbl_in (List.mem_of_getElem? (i := 327) (by decide +kernel)) rfl
theorem w_328 : Cond.fieldLink "DearLetters$Evening" 32 "DearLetters$Evening" "best" "[J" ∈ z_tbl := z_tbl_in (List.mem_of_getElem? (i := 328) (by decide +kernel)) rfl
theorem w_356 : Cond.fieldLink "DearLetters$Sharing" 9 "DearLetters$Sharing" "giftFor" "[I" ∈ z_tbl := z_tbl_in (List.mem_of_getElem? (i := 356) (by decide +kernel)) rfl
theorem w_357 : Cond.fieldLink "DearLetters" 274 "DearLetters$Sharing" "giftFor" "[I" ∈ z_tbl := z_tbl_in (List.mem_of_getElem? (i := 357) (by decide +kernel)) rfl
theorem w_358 : Cond.fieldLink "DearLetters$Sharing" 57 "DearLetters$Sharing" "together" "I" ∈ z_tbl := z_tbl_in (List.mem_of_getElem? (i := 358) (by decide +kernel)) rfl
theorem w_359 : Cond.fieldLink "DearLetters" 272 "DearLetters$Sharing" "together" "I" ∈ z_tbl := z_tbl_in (List.mem_of_getElem? (i := 359) (by decide +kernel)) rfl
theorem w_360 : Cond.fieldLink "DearLetters$Sharing" 15 "DearLetters$Sharing" "takers" "[I" ∈ z_tbl := z_tbl_in (List.mem_of_getElem? (i := 360) (by decide +kernel)) rfl
theorem w_361 : Cond.fieldLink "DearLetters$Sharing" 20 "DearLetters$Sharing" "best" "[[I" ∈ z_tbl := z_tbl_in (List.mem_of_getElem? (i := 361) (by decide +kernel)) rfl
theorem w_377 : Cond.fieldLink "DearLetters$Sorting" 9 "DearLetters$Sorting" "kindFor" "[I" ∈ z_tbl := z_tbl_in (List.mem_of_getElem? (i := 377) (by decide +kernel)) rfl
theorem w_378 : Cond.fieldLink "DearLetters" 268 "DearLetters$Sorting" "kindFor" "[I" ∈ z_tbl := z_tbl_in (List.mem_of_getElem? (i := 378) (by decide +kernel)) rfl
theorem w_379 : Cond.fieldLink "DearLetters$Sorting" 15 "DearLetters$Sorting" "groupFor" "[I" ∈ z_tbl := z_tbl_in (List.mem_of_getElem? (i := 379) (by decide +kernel)) rfl
theorem w_380 : Cond.fieldLink "DearLetters" 286 "DearLetters$Sorting" "groupFor" "[I" ∈ z_tbl := z_tbl_in (List.mem_of_getElem? (i := 380) (by decide +kernel)) rfl
theorem w_381 : Cond.fieldLink "DearLetters$Sorting" 25 "DearLetters$Sorting" "kinds" "I" ∈ z_tbl := z_tbl_in (List.mem_of_getElem? (i := 381) (by decide +kernel)) rfl
theorem w_382 : Cond.fieldLink "DearLetters" 265 "DearLetters$Sorting" "kinds" "I" ∈ z_tbl := z_tbl_in (List.mem_of_getElem? (i := 382) (by decide +kernel)) rfl
theorem w_383 : Cond.fieldLink "DearLetters$Sorting" 62 "DearLetters$Sorting" "groups" "I" ∈ z_tbl := z_tbl_in (List.mem_of_getElem? (i := 383) (by decide +kernel)) rfl
theorem w_384 : Cond.fieldLink "DearLetters" 283 "DearLetters$Sorting" "groups" "I" ∈ z_tbl := z_tbl_in (List.mem_of_getElem? (i := 384) (by decide +kernel)) rfl
theorem w_385 : Cond.fieldLink "DearLetters$Sorting" 18 "DearLetters$Sorting" "row" "[I" ∈ z_tbl := z_tbl_in (List.mem_of_getElem? (i := 385) (by decide +kernel)) rfl
theorem w_386 : Cond.fieldLink "DearLetters$Sorting" 21 "DearLetters$Sorting" "hope" "[J" ∈ z_tbl := z_tbl_in (List.mem_of_getElem? (i := 386) (by decide +kernel)) rfl
theorem w_387 : Cond.fieldLink "DearLetters$Sorting" 58 "DearLetters$Sorting" "best" "J" ∈ z_tbl := z_tbl_in (List.mem_of_getElem? (i := 387) (by decide +kernel)) rfl
theorem w_409 : Cond.methodLink "DearLetters$State" 27 ⟨"java/util/Arrays", "fill", "([II)V"⟩ ∈ z_tbl := z_tbl_in (List.mem_of_getElem? (i := 409) (by decide +kernel)) rfl
theorem w_410 : Cond.static ⟨"java/util/Arrays", "fill", "([II)V"⟩ ∈ z_tbl := z_tbl_in (List.mem_of_getElem? (i := 410) (by decide +kernel)) rfl
theorem w_411 : Cond.code ⟨"java/util/Arrays", "fill", "([II)V"⟩ prog_20_method_103_code 4 none ∈ z_tbl := z_tbl_in (List.mem_of_getElem? (i := 411) (by decide +kernel)) rfl
theorem w_412 : Cond.fieldLink "DearLetters$State" 33 "DearLetters$State" "day" "I" ∈ z_tbl := z_tbl_in (List.mem_of_getElem? (i := 412) (by decide +kernel)) rfl
theorem w_413 : Cond.fieldLink "DearLetters$Evening" 82 "DearLetters$State" "day" "I" ∈ z_tbl := z_tbl_in (List.mem_of_getElem? (i := 413) (by decide +kernel)) rfl
theorem w_414 : Cond.fieldLink "DearLetters$Machine" 97 "DearLetters$State" "day" "I" ∈ z_tbl := z_tbl_in (List.mem_of_getElem? (i := 414) (by decide +kernel)) rfl
theorem w_415 : Cond.fieldLink "DearLetters" 149 "DearLetters$State" "day" "I" ∈ z_tbl := z_tbl_in (List.mem_of_getElem? (i := 415) (by decide +kernel)) rfl
theorem w_416 : Cond.fieldLink "DearLetters$State" 9 "DearLetters$State" "left" "[I" ∈ z_tbl := z_tbl_in (List.mem_of_getElem? (i := 416) (by decide +kernel)) rfl
theorem w_417 : Cond.fieldLink "DearLetters$Evening" 56 "DearLetters$State" "left" "[I" ∈ z_tbl := z_tbl_in (List.mem_of_getElem? (i := 417) (by decide +kernel)) rfl
theorem w_418 : Cond.fieldLink "DearLetters$Machine" 64 "DearLetters$State" "left" "[I" ∈ z_tbl := z_tbl_in (List.mem_of_getElem? (i := 418) (by decide +kernel)) rfl
theorem w_419 : Cond.fieldLink "DearLetters" 217 "DearLetters$State" "left" "[I" ∈ z_tbl := z_tbl_in (List.mem_of_getElem? (i := 419) (by decide +kernel)) rfl
theorem w_420 : Cond.fieldLink "DearLetters$State" 15 "DearLetters$State" "stock" "[I" ∈ z_tbl := z_tbl_in (List.mem_of_getElem? (i := 420) (by decide +kernel)) rfl
theorem w_421 : Cond.fieldLink "DearLetters$Sharing" 40 "DearLetters$State" "stock" "[I" ∈ z_tbl := z_tbl_in (List.mem_of_getElem? (i := 421) (by decide +kernel)) rfl
theorem w_422 : Cond.fieldLink "DearLetters" 199 "DearLetters$State" "stock" "[I" ∈ z_tbl := z_tbl_in (List.mem_of_getElem? (i := 422) (by decide +kernel)) rfl
theorem w_423 : Cond.fieldLink "DearLetters$State" 18 "DearLetters$State" "doneBy" "[I" ∈ z_tbl := z_tbl_in (List.mem_of_getElem? (i := 423) (by decide +kernel)) rfl
theorem w_424 : Cond.fieldLink "DearLetters$Evening" 79 "DearLetters$State" "doneBy" "[I" ∈ z_tbl := z_tbl_in (List.mem_of_getElem? (i := 424) (by decide +kernel)) rfl
theorem w_425 : Cond.fieldLink "DearLetters$Machine" 53 "DearLetters$State" "doneBy" "[I" ∈ z_tbl := z_tbl_in (List.mem_of_getElem? (i := 425) (by decide +kernel)) rfl
theorem w_426 : Cond.fieldLink "DearLetters" 181 "DearLetters$State" "doneBy" "[I" ∈ z_tbl := z_tbl_in (List.mem_of_getElem? (i := 426) (by decide +kernel)) rfl
theorem w_427 : Cond.fieldLink "DearLetters$State" 21 "DearLetters$State" "sheetOf" "[I" ∈ z_tbl := z_tbl_in (List.mem_of_getElem? (i := 427) (by decide +kernel)) rfl
theorem w_428 : Cond.fieldLink "DearLetters$Machine" 100 "DearLetters$State" "sheetOf" "[I" ∈ z_tbl := z_tbl_in (List.mem_of_getElem? (i := 428) (by decide +kernel)) rfl
theorem w_429 : Cond.fieldLink "DearLetters" 184 "DearLetters$State" "sheetOf" "[I" ∈ z_tbl := z_tbl_in (List.mem_of_getElem? (i := 429) (by decide +kernel)) rfl
theorem w_430 : Cond.fieldLink "DearLetters$State" 24 "DearLetters$State" "giftOf" "[I" ∈ z_tbl := z_tbl_in (List.mem_of_getElem? (i := 430) (by decide +kernel)) rfl
theorem w_431 : Cond.fieldLink "DearLetters$Sharing" 28 "DearLetters$State" "giftOf" "[I" ∈ z_tbl := z_tbl_in (List.mem_of_getElem? (i := 431) (by decide +kernel)) rfl
theorem w_432 : Cond.fieldLink "DearLetters$Machine" 103 "DearLetters$State" "giftOf" "[I" ∈ z_tbl := z_tbl_in (List.mem_of_getElem? (i := 432) (by decide +kernel)) rfl
theorem w_433 : Cond.fieldLink "DearLetters" 187 "DearLetters$State" "giftOf" "[I" ∈ z_tbl := z_tbl_in (List.mem_of_getElem? (i := 433) (by decide +kernel)) rfl
theorem w_463 : Cond.fieldLink "DearLetters$Code" 9 "DearLetters$Code" "steps" "[I" ∈ z_tbl := z_tbl_in (List.mem_of_getElem? (i := 463) (by decide +kernel)) rfl
theorem w_464 : Cond.fieldLink "DearLetters$Machine" 109 "DearLetters$Code" "steps" "[I" ∈ z_tbl := z_tbl_in (List.mem_of_getElem? (i := 464) (by decide +kernel)) rfl
theorem w_465 : Cond.fieldLink "DearLetters$Code" 15 "DearLetters$Code" "size" "I" ∈ z_tbl := z_tbl_in (List.mem_of_getElem? (i := 465) (by decide +kernel)) rfl
theorem w_466 : Cond.fieldLink "DearLetters$Sums" 22 "DearLetters$Code" "size" "I" ∈ z_tbl := z_tbl_in (List.mem_of_getElem? (i := 466) (by decide +kernel)) rfl
theorem w_467 : Cond.fieldLink "DearLetters$Heap" 82 "DearLetters$Code" "size" "I" ∈ z_tbl := z_tbl_in (List.mem_of_getElem? (i := 467) (by decide +kernel)) rfl
theorem w_468 : Cond.fieldLink "DearLetters$Machine" 71 "DearLetters$Code" "size" "I" ∈ z_tbl := z_tbl_in (List.mem_of_getElem? (i := 468) (by decide +kernel)) rfl
theorem w_475 : Cond.instanceMethod ⟨"DearLetters$Heap", "clear", "()V"⟩ ∈ z_tbl := z_tbl_in (List.mem_of_getElem? (i := 475) (by decide +kernel)) rfl
theorem w_476 : Cond.selects "DearLetters$Heap" ⟨"DearLetters$Heap", "clear", "()V"⟩ ⟨"DearLetters$Heap", "clear", "()V"⟩ ∈ z_tbl := z_tbl_in (List.mem_of_getElem? (i := 476) (by decide +kernel)) rfl
theorem w_477 : Cond.code ⟨"DearLetters$Heap", "clear", "()V"⟩ prog_4_method_2_code 2 none ∈ z_tbl := z_tbl_in (List.mem_of_getElem? (i := 477) (by decide +kernel)) rfl
theorem w_478 : Cond.methodLink "DearLetters$Heap" 69 ⟨"java/util/Arrays", "fill", "([II)V"⟩ ∈ z_tbl := z_tbl_in (List.mem_of_getElem? (i := 478) (by decide +kernel)) rfl
theorem w_479 : Cond.methodLink "DearLetters$Heap" 85 ⟨"DearLetters$Code", "add", "(I)V"⟩ ∈ z_tbl := z_tbl_in (List.mem_of_getElem? (i := 479) (by decide +kernel)) rfl
theorem w_480 : Cond.instanceMethod ⟨"DearLetters$Code", "add", "(I)V"⟩ ∈ z_tbl := z_tbl_in (List.mem_of_getElem? (i := 480) (by decide +kernel)) rfl
theorem w_481 : Cond.selects "DearLetters$Code" ⟨"DearLetters$Code", "add", "(I)V"⟩ ⟨"DearLetters$Code", "add", "(I)V"⟩ ∈ z_tbl := z_tbl_in (List.mem_of_getElem? (i := 481) (by decide +kernel)) rfl
theorem w_482 : Cond.code ⟨"DearLetters$Code", "add", "(I)V"⟩ prog_2_method_2_code 2 none ∈ z_tbl := z_tbl_in (List.mem_of_getElem? (i := 482) (by decide +kernel)) rfl
theorem w_483 : Cond.fieldLink "DearLetters$Heap" 13 "DearLetters$Heap" "count" "[I" ∈ z_tbl := z_tbl_in (List.mem_of_getElem? (i := 483) (by decide +kernel)) rfl
theorem w_484 : Cond.fieldLink "DearLetters$Evening" 39 "DearLetters$Heap" "count" "[I" ∈ z_tbl := z_tbl_in (List.mem_of_getElem? (i := 484) (by decide +kernel)) rfl
theorem w_485 : Cond.fieldLink "DearLetters$Sharing" 23 "DearLetters$Heap" "count" "[I" ∈ z_tbl := z_tbl_in (List.mem_of_getElem? (i := 485) (by decide +kernel)) rfl
theorem w_486 : Cond.fieldLink "DearLetters$State" 40 "DearLetters$Heap" "count" "[I" ∈ z_tbl := z_tbl_in (List.mem_of_getElem? (i := 486) (by decide +kernel)) rfl
theorem w_487 : Cond.fieldLink "DearLetters$Sorting" 33 "DearLetters$Heap" "count" "[I" ∈ z_tbl := z_tbl_in (List.mem_of_getElem? (i := 487) (by decide +kernel)) rfl
theorem w_488 : Cond.fieldLink "DearLetters$HeapReader" 59 "DearLetters$Heap" "count" "[I" ∈ z_tbl := z_tbl_in (List.mem_of_getElem? (i := 488) (by decide +kernel)) rfl
theorem w_489 : Cond.fieldLink "DearLetters$Question" 52 "DearLetters$Heap" "count" "[I" ∈ z_tbl := z_tbl_in (List.mem_of_getElem? (i := 489) (by decide +kernel)) rfl
theorem w_490 : Cond.fieldLink "DearLetters" 146 "DearLetters$Heap" "count" "[I" ∈ z_tbl := z_tbl_in (List.mem_of_getElem? (i := 490) (by decide +kernel)) rfl
theorem w_491 : Cond.fieldLink "DearLetters$Heap" 20 "DearLetters$Heap" "names" "[[I" ∈ z_tbl := z_tbl_in (List.mem_of_getElem? (i := 491) (by decide +kernel)) rfl
theorem w_492 : Cond.fieldLink "DearLetters" 165 "DearLetters$Heap" "names" "[[I" ∈ z_tbl := z_tbl_in (List.mem_of_getElem? (i := 492) (by decide +kernel)) rfl
theorem w_493 : Cond.fieldLink "DearLetters$HeapReader" 158 "DearLetters$Heap" "names" "[[I" ∈ z_tbl := z_tbl_in (List.mem_of_getElem? (i := 493) (by decide +kernel)) rfl
theorem w_495 : Cond.fieldLink "DearLetters$HeapReader" 106 "DearLetters$Heap" "age" "[I" ∈ z_tbl := z_tbl_in (List.mem_of_getElem? (i := 495) (by decide +kernel)) rfl
theorem w_496 : Cond.fieldLink "DearLetters$Machine" 87 "DearLetters$Heap" "age" "[I" ∈ z_tbl := z_tbl_in (List.mem_of_getElem? (i := 496) (by decide +kernel)) rfl
theorem w_497 : Cond.fieldLink "DearLetters" 172 "DearLetters$Heap" "age" "[I" ∈ z_tbl := z_tbl_in (List.mem_of_getElem? (i := 497) (by decide +kernel)) rfl
theorem w_499 : Cond.fieldLink "DearLetters$Sharing" 33 "DearLetters$Heap" "need" "[I" ∈ z_tbl := z_tbl_in (List.mem_of_getElem? (i := 499) (by decide +kernel)) rfl
theorem w_500 : Cond.fieldLink "DearLetters$HeapReader" 113 "DearLetters$Heap" "need" "[I" ∈ z_tbl := z_tbl_in (List.mem_of_getElem? (i := 500) (by decide +kernel)) rfl
theorem w_501 : Cond.fieldLink "DearLetters$Machine" 90 "DearLetters$Heap" "need" "[I" ∈ z_tbl := z_tbl_in (List.mem_of_getElem? (i := 501) (by decide +kernel)) rfl
theorem w_502 : Cond.fieldLink "DearLetters" 175 "DearLetters$Heap" "need" "[I" ∈ z_tbl := z_tbl_in (List.mem_of_getElem? (i := 502) (by decide +kernel)) rfl
theorem w_503 : Cond.fieldLink "DearLetters$Heap" 29 "DearLetters$Heap" "grave" "[I" ∈ z_tbl := z_tbl_in (List.mem_of_getElem? (i := 503) (by decide +kernel)) rfl
theorem w_504 : Cond.fieldLink "DearLetters$Machine" 61 "DearLetters$Heap" "grave" "[I" ∈ z_tbl := z_tbl_in (List.mem_of_getElem? (i := 504) (by decide +kernel)) rfl
theorem w_505 : Cond.fieldLink "DearLetters$HeapReader" 116 "DearLetters$Heap" "grave" "[I" ∈ z_tbl := z_tbl_in (List.mem_of_getElem? (i := 505) (by decide +kernel)) rfl
theorem w_506 : Cond.fieldLink "DearLetters" 178 "DearLetters$Heap" "grave" "[I" ∈ z_tbl := z_tbl_in (List.mem_of_getElem? (i := 506) (by decide +kernel)) rfl
theorem w_507 : Cond.fieldLink "DearLetters$Heap" 32 "DearLetters$Heap" "near" "[I" ∈ z_tbl := z_tbl_in (List.mem_of_getElem? (i := 507) (by decide +kernel)) rfl
theorem w_508 : Cond.fieldLink "DearLetters$HeapReader" 141 "DearLetters$Heap" "near" "[I" ∈ z_tbl := z_tbl_in (List.mem_of_getElem? (i := 508) (by decide +kernel)) rfl
theorem w_509 : Cond.fieldLink "DearLetters" 193 "DearLetters$Heap" "near" "[I" ∈ z_tbl := z_tbl_in (List.mem_of_getElem? (i := 509) (by decide +kernel)) rfl
theorem w_510 : Cond.fieldLink "DearLetters$Heap" 35 "DearLetters$Heap" "wish" "[[I" ∈ z_tbl := z_tbl_in (List.mem_of_getElem? (i := 510) (by decide +kernel)) rfl
theorem w_511 : Cond.fieldLink "DearLetters$Sharing" 75 "DearLetters$Heap" "wish" "[[I" ∈ z_tbl := z_tbl_in (List.mem_of_getElem? (i := 511) (by decide +kernel)) rfl
theorem w_512 : Cond.fieldLink "DearLetters$Machine" 77 "DearLetters$Heap" "wish" "[[I" ∈ z_tbl := z_tbl_in (List.mem_of_getElem? (i := 512) (by decide +kernel)) rfl
theorem w_513 : Cond.fieldLink "DearLetters" 202 "DearLetters$Heap" "wish" "[[I" ∈ z_tbl := z_tbl_in (List.mem_of_getElem? (i := 513) (by decide +kernel)) rfl
theorem w_514 : Cond.fieldLink "DearLetters$HeapReader" 148 "DearLetters$Heap" "wish" "[[I" ∈ z_tbl := z_tbl_in (List.mem_of_getElem? (i := 514) (by decide +kernel)) rfl
theorem w_515 : Cond.fieldLink "DearLetters$Heap" 38 "DearLetters$Heap" "odds" "[[I" ∈ z_tbl := z_tbl_in (List.mem_of_getElem? (i := 515) (by decide +kernel)) rfl
theorem w_516 : Cond.fieldLink "DearLetters$Sorting" 69 "DearLetters$Heap" "odds" "[[I" ∈ z_tbl := z_tbl_in (List.mem_of_getElem? (i := 516) (by decide +kernel)) rfl
theorem w_517 : Cond.fieldLink "DearLetters$HeapReader" 144 "DearLetters$Heap" "odds" "[[I" ∈ z_tbl := z_tbl_in (List.mem_of_getElem? (i := 517) (by decide +kernel)) rfl
theorem w_519 : Cond.fieldLink "DearLetters$State" 37 "DearLetters$Heap" "stock" "[I" ∈ z_tbl := z_tbl_in (List.mem_of_getElem? (i := 519) (by decide +kernel)) rfl
theorem w_520 : Cond.fieldLink "DearLetters$HeapReader" 119 "DearLetters$Heap" "stock" "[I" ∈ z_tbl := z_tbl_in (List.mem_of_getElem? (i := 520) (by decide +kernel)) rfl
theorem w_522 : Cond.fieldLink "DearLetters$State" 53 "DearLetters$Heap" "minutes" "[I" ∈ z_tbl := z_tbl_in (List.mem_of_getElem? (i := 522) (by decide +kernel)) rfl
theorem w_523 : Cond.fieldLink "DearLetters$HeapReader" 122 "DearLetters$Heap" "minutes" "[I" ∈ z_tbl := z_tbl_in (List.mem_of_getElem? (i := 523) (by decide +kernel)) rfl
theorem w_524 : Cond.fieldLink "DearLetters" 208 "DearLetters$Heap" "minutes" "[I" ∈ z_tbl := z_tbl_in (List.mem_of_getElem? (i := 524) (by decide +kernel)) rfl
theorem w_526 : Cond.fieldLink "DearLetters$Machine" 25 "DearLetters$Heap" "hand" "[I" ∈ z_tbl := z_tbl_in (List.mem_of_getElem? (i := 526) (by decide +kernel)) rfl
theorem w_527 : Cond.fieldLink "DearLetters$HeapReader" 125 "DearLetters$Heap" "hand" "[I" ∈ z_tbl := z_tbl_in (List.mem_of_getElem? (i := 527) (by decide +kernel)) rfl
theorem w_528 : Cond.fieldLink "DearLetters" 211 "DearLetters$Heap" "hand" "[I" ∈ z_tbl := z_tbl_in (List.mem_of_getElem? (i := 528) (by decide +kernel)) rfl
theorem w_530 : Cond.fieldLink "DearLetters$Machine" 58 "DearLetters$Heap" "bears" "[I" ∈ z_tbl := z_tbl_in (List.mem_of_getElem? (i := 530) (by decide +kernel)) rfl
theorem w_531 : Cond.fieldLink "DearLetters$HeapReader" 128 "DearLetters$Heap" "bears" "[I" ∈ z_tbl := z_tbl_in (List.mem_of_getElem? (i := 531) (by decide +kernel)) rfl
theorem w_532 : Cond.fieldLink "DearLetters" 214 "DearLetters$Heap" "bears" "[I" ∈ z_tbl := z_tbl_in (List.mem_of_getElem? (i := 532) (by decide +kernel)) rfl
theorem w_533 : Cond.fieldLink "DearLetters$Heap" 56 "DearLetters$Heap" "code" "LDearLetters$Code;" ∈ z_tbl := z_tbl_in (List.mem_of_getElem? (i := 533) (by decide +kernel)) rfl
theorem w_534 : Cond.fieldLink "DearLetters$Machine" 30 "DearLetters$Heap" "code" "LDearLetters$Code;" ∈ z_tbl := z_tbl_in (List.mem_of_getElem? (i := 534) (by decide +kernel)) rfl
theorem w_535 : Cond.fieldLink "DearLetters$Heap" 60 "DearLetters$Heap" "from" "[I" ∈ z_tbl := z_tbl_in (List.mem_of_getElem? (i := 535) (by decide +kernel)) rfl
theorem w_536 : Cond.fieldLink "DearLetters$Machine" 34 "DearLetters$Heap" "from" "[I" ∈ z_tbl := z_tbl_in (List.mem_of_getElem? (i := 536) (by decide +kernel)) rfl
theorem w_537 : Cond.fieldLink "DearLetters$Heap" 63 "DearLetters$Heap" "to" "[I" ∈ z_tbl := z_tbl_in (List.mem_of_getElem? (i := 537) (by decide +kernel)) rfl
theorem w_538 : Cond.fieldLink "DearLetters$Machine" 37 "DearLetters$Heap" "to" "[I" ∈ z_tbl := z_tbl_in (List.mem_of_getElem? (i := 538) (by decide +kernel)) rfl
theorem w_539 : Cond.fieldLink "DearLetters$Heap" 75 "DearLetters$Heap" "missed" "I" ∈ z_tbl := z_tbl_in (List.mem_of_getElem? (i := 539) (by decide +kernel)) rfl
theorem w_540 : Cond.fieldLink "DearLetters$HeapReader" 97 "DearLetters$Heap" "missed" "I" ∈ z_tbl := z_tbl_in (List.mem_of_getElem? (i := 540) (by decide +kernel)) rfl
theorem w_541 : Cond.fieldLink "DearLetters$Heap" 79 "DearLetters$Heap" "cold" "I" ∈ z_tbl := z_tbl_in (List.mem_of_getElem? (i := 541) (by decide +kernel)) rfl
theorem w_542 : Cond.fieldLink "DearLetters$HeapReader" 100 "DearLetters$Heap" "cold" "I" ∈ z_tbl := z_tbl_in (List.mem_of_getElem? (i := 542) (by decide +kernel)) rfl
theorem w_543 : Cond.fieldLink "DearLetters" 352 "DearLetters$Heap" "cold" "I" ∈ z_tbl := z_tbl_in (List.mem_of_getElem? (i := 543) (by decide +kernel)) rfl
theorem w_587 : Cond.fieldLink "DearLetters$Sums" 12 "DearLetters$Sums" "code" "LDearLetters$Code;" ∈ z_tbl := z_tbl_in (List.mem_of_getElem? (i := 587) (by decide +kernel)) rfl
theorem w_588 : Cond.fieldLink "DearLetters$Question" 58 "DearLetters$Sums" "code" "LDearLetters$Code;" ∈ z_tbl := z_tbl_in (List.mem_of_getElem? (i := 588) (by decide +kernel)) rfl
theorem w_589 : Cond.fieldLink "DearLetters$Sums" 18 "DearLetters$Sums" "text" "LDearLetters$Text;" ∈ z_tbl := z_tbl_in (List.mem_of_getElem? (i := 589) (by decide +kernel)) rfl
theorem w_590 : Cond.fieldLink "DearLetters$Sums" 26 "DearLetters$Sums" "asking" "Z" ∈ z_tbl := z_tbl_in (List.mem_of_getElem? (i := 590) (by decide +kernel)) rfl
theorem w_606 : Cond.fieldLink "DearLetters$HeapReader" 18 "DearLetters$HeapReader" "text" "LDearLetters$Text;" ∈ z_tbl := z_tbl_in (List.mem_of_getElem? (i := 606) (by decide +kernel)) rfl
theorem w_607 : Cond.fieldLink "DearLetters$HeapReader" 22 "DearLetters$HeapReader" "sums" "LDearLetters$Sums;" ∈ z_tbl := z_tbl_in (List.mem_of_getElem? (i := 607) (by decide +kernel)) rfl
theorem w_608 : Cond.fieldLink "DearLetters$HeapReader" 12 "DearLetters$HeapReader" "heap" "LDearLetters$Heap;" ∈ z_tbl := z_tbl_in (List.mem_of_getElem? (i := 608) (by decide +kernel)) rfl
theorem w_609 : Cond.fieldLink "DearLetters" 124 "DearLetters$HeapReader" "heap" "LDearLetters$Heap;" ∈ z_tbl := z_tbl_in (List.mem_of_getElem? (i := 609) (by decide +kernel)) rfl
theorem w_610 : Cond.fieldLink "DearLetters$HeapReader" 34 "DearLetters$HeapReader" "statements" "I" ∈ z_tbl := z_tbl_in (List.mem_of_getElem? (i := 610) (by decide +kernel)) rfl
theorem w_611 : Cond.fieldLink "DearLetters" 137 "DearLetters$HeapReader" "statements" "I" ∈ z_tbl := z_tbl_in (List.mem_of_getElem? (i := 611) (by decide +kernel)) rfl
theorem w_627 : Cond.fieldLink "DearLetters$Question" 9 "DearLetters$Question" "text" "LDearLetters$Text;" ∈ z_tbl := z_tbl_in (List.mem_of_getElem? (i := 627) (by decide +kernel)) rfl
theorem w_628 : Cond.fieldLink "DearLetters$Question" 15 "DearLetters$Question" "sums" "LDearLetters$Sums;" ∈ z_tbl := z_tbl_in (List.mem_of_getElem? (i := 628) (by decide +kernel)) rfl
theorem w_629 : Cond.fieldLink "DearLetters$Question" 28 "DearLetters$Question" "form" "I" ∈ z_tbl := z_tbl_in (List.mem_of_getElem? (i := 629) (by decide +kernel)) rfl
theorem w_637 : Cond.fieldLink "DearLetters" 12 "DearLetters" "text" "LDearLetters$Text;" ∈ z_tbl := z_tbl_in (List.mem_of_getElem? (i := 637) (by decide +kernel)) rfl
theorem w_638 : Cond.fieldLink "DearLetters" 94 "DearLetters" "reader" "LDearLetters$HeapReader;" ∈ z_tbl := z_tbl_in (List.mem_of_getElem? (i := 638) (by decide +kernel)) rfl
theorem w_639 : Cond.fieldLink "DearLetters" 101 "DearLetters" "question" "LDearLetters$Question;" ∈ z_tbl := z_tbl_in (List.mem_of_getElem? (i := 639) (by decide +kernel)) rfl
theorem w_640 : Cond.fieldLink "DearLetters" 19 "DearLetters" "machine" "LDearLetters$Machine;" ∈ z_tbl := z_tbl_in (List.mem_of_getElem? (i := 640) (by decide +kernel)) rfl
theorem w_641 : Cond.fieldLink "DearLetters" 28 "DearLetters" "evening" "LDearLetters$Evening;" ∈ z_tbl := z_tbl_in (List.mem_of_getElem? (i := 641) (by decide +kernel)) rfl
theorem w_642 : Cond.fieldLink "DearLetters" 35 "DearLetters" "sharing" "LDearLetters$Sharing;" ∈ z_tbl := z_tbl_in (List.mem_of_getElem? (i := 642) (by decide +kernel)) rfl
theorem w_643 : Cond.fieldLink "DearLetters" 42 "DearLetters" "sorting" "LDearLetters$Sorting;" ∈ z_tbl := z_tbl_in (List.mem_of_getElem? (i := 643) (by decide +kernel)) rfl
theorem w_644 : Cond.fieldLink "DearLetters" 49 "DearLetters" "now" "LDearLetters$State;" ∈ z_tbl := z_tbl_in (List.mem_of_getElem? (i := 644) (by decide +kernel)) rfl
theorem w_645 : Cond.fieldLink "DearLetters" 53 "DearLetters" "scratch" "LDearLetters$State;" ∈ z_tbl := z_tbl_in (List.mem_of_getElem? (i := 645) (by decide +kernel)) rfl
theorem w_646 : Cond.fieldLink "DearLetters" 56 "DearLetters" "past" "[LDearLetters$State;" ∈ z_tbl := z_tbl_in (List.mem_of_getElem? (i := 646) (by decide +kernel)) rfl
theorem w_647 : Cond.fieldLink "DearLetters" 60 "DearLetters" "seenLetter" "[I" ∈ z_tbl := z_tbl_in (List.mem_of_getElem? (i := 647) (by decide +kernel)) rfl
theorem w_648 : Cond.fieldLink "DearLetters" 64 "DearLetters" "seenMinutes" "[I" ∈ z_tbl := z_tbl_in (List.mem_of_getElem? (i := 648) (by decide +kernel)) rfl
theorem w_649 : Cond.fieldLink "DearLetters" 67 "DearLetters" "written" "[I" ∈ z_tbl := z_tbl_in (List.mem_of_getElem? (i := 649) (by decide +kernel)) rfl
theorem w_650 : Cond.fieldLink "DearLetters" 70 "DearLetters" "refused" "[I" ∈ z_tbl := z_tbl_in (List.mem_of_getElem? (i := 650) (by decide +kernel)) rfl
theorem w_651 : Cond.fieldLink "DearLetters" 76 "DearLetters" "current" "LDearLetters$Heap;" ∈ z_tbl := z_tbl_in (List.mem_of_getElem? (i := 651) (by decide +kernel)) rfl
theorem w_652 : Cond.fieldLink "DearLetters" 134 "DearLetters" "seenRows" "I" ∈ z_tbl := z_tbl_in (List.mem_of_getElem? (i := 652) (by decide +kernel)) rfl
theorem w_653 : Cond.fieldLink "DearLetters" 332 "DearLetters" "writtenBytes" "I" ∈ z_tbl := z_tbl_in (List.mem_of_getElem? (i := 653) (by decide +kernel)) rfl
theorem w_654 : Cond.fieldLink "DearLetters" 131 "DearLetters" "acts" "I" ∈ z_tbl := z_tbl_in (List.mem_of_getElem? (i := 654) (by decide +kernel)) rfl
theorem w_655 : Cond.fieldLink "DearLetters" 320 "DearLetters" "oldestAct" "I" ∈ z_tbl := z_tbl_in (List.mem_of_getElem? (i := 655) (by decide +kernel)) rfl
theorem w_656 : Cond.fieldLink "DearLetters" 80 "DearLetters" "draw" "I" ∈ z_tbl := z_tbl_in (List.mem_of_getElem? (i := 656) (by decide +kernel)) rfl
theorem w_702 : Cond.methodLink "DearLetters" 108 ⟨"DearLetters", "refuseNumber", "(I)I"⟩ ∈ z_tbl := z_tbl_in (List.mem_of_getElem? (i := 702) (by decide +kernel)) rfl
theorem w_704 : Cond.instanceMethod ⟨"DearLetters", "refuseNumber", "(I)I"⟩ ∈ z_tbl := z_tbl_in (List.mem_of_getElem? (i := 704) (by decide +kernel)) rfl
theorem w_705 : Cond.code ⟨"DearLetters", "refuseNumber", "(I)I"⟩ prog_1_method_38_code 2 (Option.some FieldType.int) ∈ z_tbl := z_tbl_in (List.mem_of_getElem? (i := 705) (by decide +kernel)) rfl
theorem w_706 : Cond.methodLink "DearLetters" 112 ⟨"DearLetters$Text", "append", "(I)V"⟩ ∈ z_tbl := z_tbl_in (List.mem_of_getElem? (i := 706) (by decide +kernel)) rfl
theorem w_707 : Cond.instanceMethod ⟨"DearLetters$Text", "append", "(I)V"⟩ ∈ z_tbl := z_tbl_in (List.mem_of_getElem? (i := 707) (by decide +kernel)) rfl
theorem w_708 : Cond.selects "DearLetters$Text" ⟨"DearLetters$Text", "append", "(I)V"⟩ ⟨"DearLetters$Text", "append", "(I)V"⟩ ∈ z_tbl := z_tbl_in (List.mem_of_getElem? (i := 708) (by decide +kernel)) rfl
theorem w_709 : Cond.code ⟨"DearLetters$Text", "append", "(I)V"⟩ prog_12_method_3_code 3 none ∈ z_tbl := z_tbl_in (List.mem_of_getElem? (i := 709) (by decide +kernel)) rfl
theorem w_714 : Cond.methodLink "DearLetters" 116 ⟨"DearLetters", "refuse", "(I)Z"⟩ ∈ z_tbl := z_tbl_in (List.mem_of_getElem? (i := 714) (by decide +kernel)) rfl
theorem w_716 : Cond.instanceMethod ⟨"DearLetters", "refuse", "(I)Z"⟩ ∈ z_tbl := z_tbl_in (List.mem_of_getElem? (i := 716) (by decide +kernel)) rfl
theorem w_717 : Cond.code ⟨"DearLetters", "refuse", "(I)Z"⟩ prog_1_method_37_code 2 (Option.some FieldType.boolean) ∈ z_tbl := z_tbl_in (List.mem_of_getElem? (i := 717) (by decide +kernel)) rfl
theorem w_722 : Cond.methodLink "DearLetters" 120 ⟨"DearLetters$HeapReader", "read", "()Z"⟩ ∈ z_tbl := z_tbl_in (List.mem_of_getElem? (i := 722) (by decide +kernel)) rfl
theorem w_723 : Cond.instanceMethod ⟨"DearLetters$HeapReader", "read", "()Z"⟩ ∈ z_tbl := z_tbl_in (List.mem_of_getElem? (i := 723) (by decide +kernel)) rfl
theorem w_724 : Cond.selects "DearLetters$HeapReader" ⟨"DearLetters$HeapReader", "read", "()Z"⟩ ⟨"DearLetters$HeapReader", "read", "()Z"⟩ ∈ z_tbl := z_tbl_in (List.mem_of_getElem? (i := 724) (by decide +kernel)) rfl
theorem w_725 : Cond.code ⟨"DearLetters$HeapReader", "read", "()Z"⟩ prog_5_method_2_code 1 (Option.some FieldType.boolean) ∈ z_tbl := z_tbl_in (List.mem_of_getElem? (i := 725) (by decide +kernel)) rfl
theorem w_726 : Cond.methodLink "DearLetters$HeapReader" 26 ⟨"DearLetters$Heap", "clear", "()V"⟩ ∈ z_tbl := z_tbl_in (List.mem_of_getElem? (i := 726) (by decide +kernel)) rfl
theorem w_727 : Cond.methodLink "DearLetters$HeapReader" 29 ⟨"DearLetters$Text", "open", "()V"⟩ ∈ z_tbl := z_tbl_in (List.mem_of_getElem? (i := 727) (by decide +kernel)) rfl
theorem w_728 : Cond.instanceMethod ⟨"DearLetters$Text", "open", "()V"⟩ ∈ z_tbl := z_tbl_in (List.mem_of_getElem? (i := 728) (by decide +kernel)) rfl
theorem w_729 : Cond.selects "DearLetters$Text" ⟨"DearLetters$Text", "open", "()V"⟩ ⟨"DearLetters$Text", "open", "()V"⟩ ∈ z_tbl := z_tbl_in (List.mem_of_getElem? (i := 729) (by decide +kernel)) rfl
theorem w_730 : Cond.code ⟨"DearLetters$Text", "open", "()V"⟩ prog_12_method_5_code 1 none ∈ z_tbl := z_tbl_in (List.mem_of_getElem? (i := 730) (by decide +kernel)) rfl
theorem w_731 : Cond.methodLink "DearLetters$Text" 50 ⟨"DearLetters$Text", "next", "()V"⟩ ∈ z_tbl := z_tbl_in (List.mem_of_getElem? (i := 731) (by decide +kernel)) rfl
theorem w_732 : Cond.instanceMethod ⟨"DearLetters$Text", "next", "()V"⟩ ∈ z_tbl := z_tbl_in (List.mem_of_getElem? (i := 732) (by decide +kernel)) rfl
theorem w_733 : Cond.selects "DearLetters$Text" ⟨"DearLetters$Text", "next", "()V"⟩ ⟨"DearLetters$Text", "next", "()V"⟩ ∈ z_tbl := z_tbl_in (List.mem_of_getElem? (i := 733) (by decide +kernel)) rfl
theorem w_734 : Cond.code ⟨"DearLetters$Text", "next", "()V"⟩ prog_12_method_6_code 4 none ∈ z_tbl := z_tbl_in (List.mem_of_getElem? (i := 734) (by decide +kernel)) rfl
theorem w_735 : Cond.methodLink "DearLetters$Text" 62 ⟨"DearLetters$Text", "readWord", "()V"⟩ ∈ z_tbl := z_tbl_in (List.mem_of_getElem? (i := 735) (by decide +kernel)) rfl
theorem w_737 : Cond.instanceMethod ⟨"DearLetters$Text", "readWord", "()V"⟩ ∈ z_tbl := z_tbl_in (List.mem_of_getElem? (i := 737) (by decide +kernel)) rfl
theorem w_738 : Cond.code ⟨"DearLetters$Text", "readWord", "()V"⟩ prog_12_method_7_code 3 none ∈ z_tbl := z_tbl_in (List.mem_of_getElem? (i := 738) (by decide +kernel)) rfl
theorem w_739 : Cond.methodLink "DearLetters$Text" 65 ⟨"DearLetters$Text", "readDigits", "()V"⟩ ∈ z_tbl := z_tbl_in (List.mem_of_getElem? (i := 739) (by decide +kernel)) rfl
theorem w_741 : Cond.instanceMethod ⟨"DearLetters$Text", "readDigits", "()V"⟩ ∈ z_tbl := z_tbl_in (List.mem_of_getElem? (i := 741) (by decide +kernel)) rfl
theorem w_742 : Cond.code ⟨"DearLetters$Text", "readDigits", "()V"⟩ prog_12_method_8_code 1 none ∈ z_tbl := z_tbl_in (List.mem_of_getElem? (i := 742) (by decide +kernel)) rfl
theorem w_743 : Cond.methodLink "DearLetters$HeapReader" 41 ⟨"DearLetters$HeapReader", "statement", "()Z"⟩ ∈ z_tbl := z_tbl_in (List.mem_of_getElem? (i := 743) (by decide +kernel)) rfl
theorem w_745 : Cond.instanceMethod ⟨"DearLetters$HeapReader", "statement", "()Z"⟩ ∈ z_tbl := z_tbl_in (List.mem_of_getElem? (i := 745) (by decide +kernel)) rfl
theorem w_746 : Cond.code ⟨"DearLetters$HeapReader", "statement", "()Z"⟩ prog_5_method_3_code 3 (Option.some FieldType.boolean) ∈ z_tbl := z_tbl_in (List.mem_of_getElem? (i := 746) (by decide +kernel)) rfl
theorem w_747 : Cond.methodLink "DearLetters$HeapReader" 55 ⟨"DearLetters$HeapReader", "kindOf", "(I)I"⟩ ∈ z_tbl := z_tbl_in (List.mem_of_getElem? (i := 747) (by decide +kernel)) rfl
theorem w_748 : Cond.static ⟨"DearLetters$HeapReader", "kindOf", "(I)I"⟩ ∈ z_tbl := z_tbl_in (List.mem_of_getElem? (i := 748) (by decide +kernel)) rfl
theorem w_749 : Cond.code ⟨"DearLetters$HeapReader", "kindOf", "(I)I"⟩ prog_5_method_4_code 1 (Option.some FieldType.int) ∈ z_tbl := z_tbl_in (List.mem_of_getElem? (i := 749) (by decide +kernel)) rfl
theorem w_750 : Cond.methodLink "DearLetters$HeapReader" 49 ⟨"DearLetters$Text", "fail", "(I)Z"⟩ ∈ z_tbl := z_tbl_in (List.mem_of_getElem? (i := 750) (by decide +kernel)) rfl
theorem w_751 : Cond.instanceMethod ⟨"DearLetters$Text", "fail", "(I)Z"⟩ ∈ z_tbl := z_tbl_in (List.mem_of_getElem? (i := 751) (by decide +kernel)) rfl
theorem w_752 : Cond.selects "DearLetters$Text" ⟨"DearLetters$Text", "fail", "(I)Z"⟩ ⟨"DearLetters$Text", "fail", "(I)Z"⟩ ∈ z_tbl := z_tbl_in (List.mem_of_getElem? (i := 752) (by decide +kernel)) rfl
theorem w_753 : Cond.code ⟨"DearLetters$Text", "fail", "(I)Z"⟩ prog_12_method_9_code 2 (Option.some FieldType.boolean) ∈ z_tbl := z_tbl_in (List.mem_of_getElem? (i := 753) (by decide +kernel)) rfl
theorem w_754 : Cond.methodLink "DearLetters$Text" 71 ⟨"DearLetters$Text", "failAt", "(II)Z"⟩ ∈ z_tbl := z_tbl_in (List.mem_of_getElem? (i := 754) (by decide +kernel)) rfl
theorem w_756 : Cond.instanceMethod ⟨"DearLetters$Text", "failAt", "(II)Z"⟩ ∈ z_tbl := z_tbl_in (List.mem_of_getElem? (i := 756) (by decide +kernel)) rfl
theorem w_757 : Cond.code ⟨"DearLetters$Text", "failAt", "(II)Z"⟩ prog_12_method_10_code 3 (Option.some FieldType.boolean) ∈ z_tbl := z_tbl_in (List.mem_of_getElem? (i := 757) (by decide +kernel)) rfl
theorem w_759 : Cond.methodLink "DearLetters$HeapReader" 66 ⟨"DearLetters$Text", "next", "()V"⟩ ∈ z_tbl := z_tbl_in (List.mem_of_getElem? (i := 759) (by decide +kernel)) rfl
theorem w_760 : Cond.methodLink "DearLetters$HeapReader" 69 ⟨"DearLetters$HeapReader", "letterContent", "()Z"⟩ ∈ z_tbl := z_tbl_in (List.mem_of_getElem? (i := 760) (by decide +kernel)) rfl
theorem w_762 : Cond.instanceMethod ⟨"DearLetters$HeapReader", "letterContent", "()Z"⟩ ∈ z_tbl := z_tbl_in (List.mem_of_getElem? (i := 762) (by decide +kernel)) rfl
theorem w_763 : Cond.code ⟨"DearLetters$HeapReader", "letterContent", "()Z"⟩ prog_5_method_5_code 2 (Option.some FieldType.boolean) ∈ z_tbl := z_tbl_in (List.mem_of_getElem? (i := 763) (by decide +kernel)) rfl
theorem w_764 : Cond.methodLink "DearLetters$HeapReader" 103 ⟨"DearLetters$HeapReader", "newName", "(I)Z"⟩ ∈ z_tbl := z_tbl_in (List.mem_of_getElem? (i := 764) (by decide +kernel)) rfl
theorem w_766 : Cond.instanceMethod ⟨"DearLetters$HeapReader", "newName", "(I)Z"⟩ ∈ z_tbl := z_tbl_in (List.mem_of_getElem? (i := 766) (by decide +kernel)) rfl

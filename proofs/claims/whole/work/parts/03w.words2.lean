theorem w_1345 : Cond.fieldLink "DearLettersModel" 66 "DearLettersModel" "missedWord" "[C" ∈ z_tbl := z_tbl_in (List.mem_of_getElem? (i := 1345) (by decide +kernel)) rfl
theorem w_1346 : Cond.fieldLink "DearLettersModel" 69 "DearLettersModel" "coldWord" "[C" ∈ z_tbl := z_tbl_in (List.mem_of_getElem? (i := 1346) (by decide +kernel)) rfl
theorem w_1347 : Cond.fieldLink "DearLettersModel" 72 "DearLettersModel" "wishesWord" "[C" ∈ z_tbl := z_tbl_in (List.mem_of_getElem? (i := 1347) (by decide +kernel)) rfl
theorem w_1348 : Cond.fieldLink "DearLettersModel" 75 "DearLettersModel" "dayWord" "[C" ∈ z_tbl := z_tbl_in (List.mem_of_getElem? (i := 1348) (by decide +kernel)) rfl
theorem w_1349 : Cond.fieldLink "DearLettersModel" 78 "DearLettersModel" "numberWord" "[C" ∈ z_tbl := z_tbl_in (List.mem_of_getElem? (i := 1349) (by decide +kernel)) rfl
theorem w_1350 : Cond.fieldLink "DearLettersModel" 81 "DearLettersModel" "sheetWord" "[C" ∈ z_tbl := z_tbl_in (List.mem_of_getElem? (i := 1350) (by decide +kernel)) rfl
theorem w_1351 : Cond.fieldLink "DearLettersModel" 84 "DearLettersModel" "doneWord" "[C" ∈ z_tbl := z_tbl_in (List.mem_of_getElem? (i := 1351) (by decide +kernel)) rfl
theorem w_1352 : Cond.fieldLink "DearLettersModel" 87 "DearLettersModel" "orWord" "[C" ∈ z_tbl := z_tbl_in (List.mem_of_getElem? (i := 1352) (by decide +kernel)) rfl
theorem w_1353 : Cond.fieldLink "DearLettersModel" 90 "DearLettersModel" "andWord" "[C" ∈ z_tbl := z_tbl_in (List.mem_of_getElem? (i := 1353) (by decide +kernel)) rfl
theorem w_1354 : Cond.fieldLink "DearLettersModel" 93 "DearLettersModel" "notWord" "[C" ∈ z_tbl := z_tbl_in (List.mem_of_getElem? (i := 1354) (by decide +kernel)) rfl
theorem w_1355 : Cond.fieldLink "DearLettersModel" 96 "DearLettersModel" "allWord" "[C" ∈ z_tbl := z_tbl_in (List.mem_of_getElem? (i := 1355) (by decide +kernel)) rfl
theorem w_1356 : Cond.fieldLink "DearLettersModel" 99 "DearLettersModel" "minWord" "[C" ∈ z_tbl := z_tbl_in (List.mem_of_getElem? (i := 1356) (by decide +kernel)) rfl
theorem w_1357 : Cond.fieldLink "DearLettersModel" 102 "DearLettersModel" "maxWord" "[C" ∈ z_tbl := z_tbl_in (List.mem_of_getElem? (i := 1357) (by decide +kernel)) rfl
theorem w_1358 : Cond.fieldLink "DearLettersModel" 311 "DearLettersModel" "namePlace" "I" ∈ z_tbl := z_tbl_in (List.mem_of_getElem? (i := 1358) (by decide +kernel)) rfl
theorem w_1359 : Cond.fieldLink "DearLettersModel" 105 "DearLettersModel" "many" "[I" ∈ z_tbl := z_tbl_in (List.mem_of_getElem? (i := 1359) (by decide +kernel)) rfl
theorem w_1360 : Cond.fieldLink "DearLettersModel" 108 "DearLettersModel" "names" "[J" ∈ z_tbl := z_tbl_in (List.mem_of_getElem? (i := 1360) (by decide +kernel)) rfl
theorem w_1361 : Cond.fieldLink "DearLettersModel" 112 "DearLettersModel" "letters" "[I" ∈ z_tbl := z_tbl_in (List.mem_of_getElem? (i := 1361) (by decide +kernel)) rfl
theorem w_1362 : Cond.fieldLink "DearLettersModel" 115 "DearLettersModel" "stocks" "[I" ∈ z_tbl := z_tbl_in (List.mem_of_getElem? (i := 1362) (by decide +kernel)) rfl
theorem w_1363 : Cond.fieldLink "DearLettersModel" 118 "DearLettersModel" "wishes0" "[I" ∈ z_tbl := z_tbl_in (List.mem_of_getElem? (i := 1363) (by decide +kernel)) rfl
theorem w_1364 : Cond.fieldLink "DearLettersModel" 121 "DearLettersModel" "nears" "[I" ∈ z_tbl := z_tbl_in (List.mem_of_getElem? (i := 1364) (by decide +kernel)) rfl
theorem w_1365 : Cond.fieldLink "DearLettersModel" 124 "DearLettersModel" "likes" "[I" ∈ z_tbl := z_tbl_in (List.mem_of_getElem? (i := 1365) (by decide +kernel)) rfl
theorem w_1366 : Cond.fieldLink "DearLettersModel" 127 "DearLettersModel" "helpers" "[I" ∈ z_tbl := z_tbl_in (List.mem_of_getElem? (i := 1366) (by decide +kernel)) rfl
theorem w_1367 : Cond.fieldLink "DearLettersModel" 130 "DearLettersModel" "settings" "[I" ∈ z_tbl := z_tbl_in (List.mem_of_getElem? (i := 1367) (by decide +kernel)) rfl
theorem w_1368 : Cond.fieldLink "DearLettersModel" 133 "DearLettersModel" "codeFrom" "[I" ∈ z_tbl := z_tbl_in (List.mem_of_getElem? (i := 1368) (by decide +kernel)) rfl
theorem w_1369 : Cond.fieldLink "DearLettersModel" 136 "DearLettersModel" "codeEnd" "[I" ∈ z_tbl := z_tbl_in (List.mem_of_getElem? (i := 1369) (by decide +kernel)) rfl
theorem w_1370 : Cond.fieldLink "DearLettersModel" 139 "DearLettersModel" "codes" "[I" ∈ z_tbl := z_tbl_in (List.mem_of_getElem? (i := 1370) (by decide +kernel)) rfl
theorem w_1371 : Cond.fieldLink "DearLettersModel" 367 "DearLettersModel" "coded" "I" ∈ z_tbl := z_tbl_in (List.mem_of_getElem? (i := 1371) (by decide +kernel)) rfl
theorem w_1372 : Cond.fieldLink "DearLettersModel" 370 "DearLettersModel" "statements" "I" ∈ z_tbl := z_tbl_in (List.mem_of_getElem? (i := 1372) (by decide +kernel)) rfl
theorem w_1373 : Cond.fieldLink "DearLettersModel" 318 "DearLettersModel" "inLaw" "Z" ∈ z_tbl := z_tbl_in (List.mem_of_getElem? (i := 1373) (by decide +kernel)) rfl
theorem w_1374 : Cond.fieldLink "DearLettersModel" 142 "DearLettersModel" "now" "[I" ∈ z_tbl := z_tbl_in (List.mem_of_getElem? (i := 1374) (by decide +kernel)) rfl
theorem w_1375 : Cond.fieldLink "DearLettersModel" 145 "DearLettersModel" "aside" "[I" ∈ z_tbl := z_tbl_in (List.mem_of_getElem? (i := 1375) (by decide +kernel)) rfl
theorem w_1376 : Cond.fieldLink "DearLettersModel" 428 "DearLettersModel" "askHand" "I" ∈ z_tbl := z_tbl_in (List.mem_of_getElem? (i := 1376) (by decide +kernel)) rfl
theorem w_1377 : Cond.fieldLink "DearLettersModel" 148 "DearLettersModel" "row" "[I" ∈ z_tbl := z_tbl_in (List.mem_of_getElem? (i := 1377) (by decide +kernel)) rfl
theorem w_1378 : Cond.fieldLink "DearLettersModel" 151 "DearLettersModel" "figures" "[I" ∈ z_tbl := z_tbl_in (List.mem_of_getElem? (i := 1378) (by decide +kernel)) rfl
theorem w_1379 : Cond.fieldLink "DearLettersModel" 154 "DearLettersModel" "best" "[I" ∈ z_tbl := z_tbl_in (List.mem_of_getElem? (i := 1379) (by decide +kernel)) rfl
theorem w_1380 : Cond.fieldLink "DearLettersModel" 157 "DearLettersModel" "times" "[I" ∈ z_tbl := z_tbl_in (List.mem_of_getElem? (i := 1380) (by decide +kernel)) rfl
theorem w_1381 : Cond.fieldLink "DearLettersModel" 160 "DearLettersModel" "warmths" "[J" ∈ z_tbl := z_tbl_in (List.mem_of_getElem? (i := 1381) (by decide +kernel)) rfl
theorem w_1382 : Cond.fieldLink "DearLettersModel" 163 "DearLettersModel" "minutes" "[I" ∈ z_tbl := z_tbl_in (List.mem_of_getElem? (i := 1382) (by decide +kernel)) rfl
theorem w_1383 : Cond.fieldLink "DearLettersModel" 470 "DearLettersModel" "bestWarm" "J" ∈ z_tbl := z_tbl_in (List.mem_of_getElem? (i := 1383) (by decide +kernel)) rfl
theorem w_1384 : Cond.fieldLink "DearLettersModel" 166 "DearLettersModel" "given" "[I" ∈ z_tbl := z_tbl_in (List.mem_of_getElem? (i := 1384) (by decide +kernel)) rfl
theorem w_1385 : Cond.fieldLink "DearLettersModel" 416 "DearLettersModel" "rowMany" "I" ∈ z_tbl := z_tbl_in (List.mem_of_getElem? (i := 1385) (by decide +kernel)) rfl
theorem w_1386 : Cond.fieldLink "DearLettersModel" 169 "DearLettersModel" "rows" "[I" ∈ z_tbl := z_tbl_in (List.mem_of_getElem? (i := 1386) (by decide +kernel)) rfl
theorem w_1387 : Cond.fieldLink "DearLettersModel" 172 "DearLettersModel" "kept0" "[I" ∈ z_tbl := z_tbl_in (List.mem_of_getElem? (i := 1387) (by decide +kernel)) rfl
theorem w_1388 : Cond.fieldLink "DearLettersModel" 413 "DearLettersModel" "undoable" "I" ∈ z_tbl := z_tbl_in (List.mem_of_getElem? (i := 1388) (by decide +kernel)) rfl
theorem w_1389 : Cond.fieldLink "DearLettersModel" 572 "DearLettersModel" "newest" "I" ∈ z_tbl := z_tbl_in (List.mem_of_getElem? (i := 1389) (by decide +kernel)) rfl
theorem w_1390 : Cond.fieldLink "DearLettersModel" 175 "DearLettersModel" "seeded" "J" ∈ z_tbl := z_tbl_in (List.mem_of_getElem? (i := 1390) (by decide +kernel)) rfl
theorem w_1391 : Cond.fieldLink "DearLettersModel" 179 "DearLettersModel" "firstAsked" "[C" ∈ z_tbl := z_tbl_in (List.mem_of_getElem? (i := 1391) (by decide +kernel)) rfl
theorem w_1392 : Cond.fieldLink "DearLettersModel" 182 "DearLettersModel" "lastAsked" "[C" ∈ z_tbl := z_tbl_in (List.mem_of_getElem? (i := 1392) (by decide +kernel)) rfl
theorem w_1393 : Cond.fieldLink "DearLettersModel" 185 "DearLettersModel" "oftenAsked" "[C" ∈ z_tbl := z_tbl_in (List.mem_of_getElem? (i := 1393) (by decide +kernel)) rfl
theorem w_1394 : Cond.fieldLink "DearLettersModel" 188 "DearLettersModel" "totalAsked" "[C" ∈ z_tbl := z_tbl_in (List.mem_of_getElem? (i := 1394) (by decide +kernel)) rfl
theorem w_1395 : Cond.fieldLink "DearLettersModel" 191 "DearLettersModel" "mostAsked" "[C" ∈ z_tbl := z_tbl_in (List.mem_of_getElem? (i := 1395) (by decide +kernel)) rfl
theorem w_1396 : Cond.fieldLink "DearLettersModel" 194 "DearLettersModel" "leastAsked" "[C" ∈ z_tbl := z_tbl_in (List.mem_of_getElem? (i := 1396) (by decide +kernel)) rfl
theorem w_1397 : Cond.fieldLink "DearLettersModel" 197 "DearLettersModel" "notAsked" "[C" ∈ z_tbl := z_tbl_in (List.mem_of_getElem? (i := 1397) (by decide +kernel)) rfl
theorem w_1398 : Cond.fieldLink "DearLettersModel" 200 "DearLettersModel" "andAsked" "[C" ∈ z_tbl := z_tbl_in (List.mem_of_getElem? (i := 1398) (by decide +kernel)) rfl
theorem w_1399 : Cond.fieldLink "DearLettersModel" 203 "DearLettersModel" "orAsked" "[C" ∈ z_tbl := z_tbl_in (List.mem_of_getElem? (i := 1399) (by decide +kernel)) rfl
theorem w_1400 : Cond.fieldLink "DearLettersModel" 206 "DearLettersModel" "allAsked" "[C" ∈ z_tbl := z_tbl_in (List.mem_of_getElem? (i := 1400) (by decide +kernel)) rfl
theorem w_1401 : Cond.fieldLink "DearLettersModel" 209 "DearLettersModel" "minAsked" "[C" ∈ z_tbl := z_tbl_in (List.mem_of_getElem? (i := 1401) (by decide +kernel)) rfl
theorem w_1402 : Cond.fieldLink "DearLettersModel" 212 "DearLettersModel" "maxAsked" "[C" ∈ z_tbl := z_tbl_in (List.mem_of_getElem? (i := 1402) (by decide +kernel)) rfl
theorem w_1403 : Cond.fieldLink "DearLettersModel" 215 "DearLettersModel" "ageAsked" "[C" ∈ z_tbl := z_tbl_in (List.mem_of_getElem? (i := 1403) (by decide +kernel)) rfl
theorem w_1404 : Cond.fieldLink "DearLettersModel" 218 "DearLettersModel" "needAsked" "[C" ∈ z_tbl := z_tbl_in (List.mem_of_getElem? (i := 1404) (by decide +kernel)) rfl
theorem w_1405 : Cond.fieldLink "DearLettersModel" 221 "DearLettersModel" "graveAsked" "[C" ∈ z_tbl := z_tbl_in (List.mem_of_getElem? (i := 1405) (by decide +kernel)) rfl
theorem w_1406 : Cond.fieldLink "DearLettersModel" 224 "DearLettersModel" "handAsked" "[C" ∈ z_tbl := z_tbl_in (List.mem_of_getElem? (i := 1406) (by decide +kernel)) rfl
theorem w_1407 : Cond.fieldLink "DearLettersModel" 227 "DearLettersModel" "wishesAsked" "[C" ∈ z_tbl := z_tbl_in (List.mem_of_getElem? (i := 1407) (by decide +kernel)) rfl
theorem w_1408 : Cond.fieldLink "DearLettersModel" 230 "DearLettersModel" "dayAsked" "[C" ∈ z_tbl := z_tbl_in (List.mem_of_getElem? (i := 1408) (by decide +kernel)) rfl
theorem w_1409 : Cond.fieldLink "DearLettersModel" 233 "DearLettersModel" "numberAsked" "[C" ∈ z_tbl := z_tbl_in (List.mem_of_getElem? (i := 1409) (by decide +kernel)) rfl
theorem w_1410 : Cond.fieldLink "DearLettersModel" 236 "DearLettersModel" "sheetAsked" "[C" ∈ z_tbl := z_tbl_in (List.mem_of_getElem? (i := 1410) (by decide +kernel)) rfl
theorem w_1411 : Cond.fieldLink "DearLettersModel" 239 "DearLettersModel" "doneAsked" "[C" ∈ z_tbl := z_tbl_in (List.mem_of_getElem? (i := 1411) (by decide +kernel)) rfl
theorem w_1412 : Cond.fieldLink "DearLettersModel" 242 "DearLettersModel" "giftAsked" "[C" ∈ z_tbl := z_tbl_in (List.mem_of_getElem? (i := 1412) (by decide +kernel)) rfl
theorem w_1413 : Cond.fieldLink "DearLettersModel" 245 "DearLettersModel" "wishAsked" "[C" ∈ z_tbl := z_tbl_in (List.mem_of_getElem? (i := 1413) (by decide +kernel)) rfl
theorem w_1414 : Cond.fieldLink "DearLettersModel" 248 "DearLettersModel" "qCodes" "[I" ∈ z_tbl := z_tbl_in (List.mem_of_getElem? (i := 1414) (by decide +kernel)) rfl
theorem w_1415 : Cond.fieldLink "DearLettersModel" 352 "DearLettersModel" "qCoded" "I" ∈ z_tbl := z_tbl_in (List.mem_of_getElem? (i := 1415) (by decide +kernel)) rfl
theorem w_1416 : Cond.fieldLink "DearLettersModel" 251 "DearLettersModel" "qWait" "[I" ∈ z_tbl := z_tbl_in (List.mem_of_getElem? (i := 1416) (by decide +kernel)) rfl
theorem w_1417 : Cond.fieldLink "DearLettersModel" 355 "DearLettersModel" "qWaits" "I" ∈ z_tbl := z_tbl_in (List.mem_of_getElem? (i := 1417) (by decide +kernel)) rfl
theorem w_1418 : Cond.fieldLink "DearLettersModel" 358 "DearLettersModel" "qOpened" "I" ∈ z_tbl := z_tbl_in (List.mem_of_getElem? (i := 1418) (by decide +kernel)) rfl
theorem w_1419 : Cond.fieldLink "DearLettersModel" 361 "DearLettersModel" "qBase" "I" ∈ z_tbl := z_tbl_in (List.mem_of_getElem? (i := 1419) (by decide +kernel)) rfl
theorem w_1420 : Cond.fieldLink "DearLettersModel" 254 "DearLettersModel" "qPile" "[J" ∈ z_tbl := z_tbl_in (List.mem_of_getElem? (i := 1420) (by decide +kernel)) rfl
theorem w_1421 : Cond.fieldLink "DearLettersModel" 431 "DearLettersModel" "qPiled" "I" ∈ z_tbl := z_tbl_in (List.mem_of_getElem? (i := 1421) (by decide +kernel)) rfl
theorem w_1422 : Cond.fieldLink "DearLettersModel" 664 "DearLettersModel" "qAnswer" "J" ∈ z_tbl := z_tbl_in (List.mem_of_getElem? (i := 1422) (by decide +kernel)) rfl
theorem w_1423 : Cond.fieldLink "DearLettersModel" 669 "DearLettersModel" "qIsNew" "Z" ∈ z_tbl := z_tbl_in (List.mem_of_getElem? (i := 1423) (by decide +kernel)) rfl
theorem w_1424 : Cond.fieldLink "DearLettersModel" 257 "DearLettersModel" "octet" "[I" ∈ z_tbl := z_tbl_in (List.mem_of_getElem? (i := 1424) (by decide +kernel)) rfl
theorem w_1425 : Cond.fieldLink "DearLettersModel" 686 "DearLettersModel" "octets" "I" ∈ z_tbl := z_tbl_in (List.mem_of_getElem? (i := 1425) (by decide +kernel)) rfl
theorem w_1652 : Cond.methodLink "DearLettersModel" 275 ⟨"DearLettersModel", "look", "()I"⟩ ∈ z_tbl := z_tbl_in (List.mem_of_getElem? (i := 1652) (by decide +kernel)) rfl
theorem w_1654 : Cond.instanceMethod ⟨"DearLettersModel", "look", "()I"⟩ ∈ z_tbl := z_tbl_in (List.mem_of_getElem? (i := 1654) (by decide +kernel)) rfl
theorem w_1655 : Cond.code ⟨"DearLettersModel", "look", "()I"⟩ prog_14_method_8_code 1 (Option.some FieldType.int) ∈ z_tbl := z_tbl_in (List.mem_of_getElem? (i := 1655) (by decide +kernel)) rfl
theorem w_1656 : Cond.methodLink "DearLettersModel" 398 ⟨"DearLettersModel", "statementTold", "()V"⟩ ∈ z_tbl := z_tbl_in (List.mem_of_getElem? (i := 1656) (by decide +kernel)) rfl
theorem w_1658 : Cond.instanceMethod ⟨"DearLettersModel", "statementTold", "()V"⟩ ∈ z_tbl := z_tbl_in (List.mem_of_getElem? (i := 1658) (by decide +kernel)) rfl
theorem w_1659 : Cond.code ⟨"DearLettersModel", "statementTold", "()V"⟩ prog_14_method_30_code 2 none ∈ z_tbl := z_tbl_in (List.mem_of_getElem? (i := 1659) (by decide +kernel)) rfl
theorem w_1660 : Cond.methodLink "DearLettersModel" 293 ⟨"DearLettersModel", "fail", "(II)V"⟩ ∈ z_tbl := z_tbl_in (List.mem_of_getElem? (i := 1660) (by decide +kernel)) rfl
theorem w_1662 : Cond.instanceMethod ⟨"DearLettersModel", "fail", "(II)V"⟩ ∈ z_tbl := z_tbl_in (List.mem_of_getElem? (i := 1662) (by decide +kernel)) rfl
theorem w_1663 : Cond.code ⟨"DearLettersModel", "fail", "(II)V"⟩ prog_14_method_5_code 3 none ∈ z_tbl := z_tbl_in (List.mem_of_getElem? (i := 1663) (by decide +kernel)) rfl
theorem w_1664 : Cond.methodLink "DearLettersModel" 290 ⟨"DearLettersModel", "eats", "([C)Z"⟩ ∈ z_tbl := z_tbl_in (List.mem_of_getElem? (i := 1664) (by decide +kernel)) rfl
theorem w_1666 : Cond.instanceMethod ⟨"DearLettersModel", "eats", "([C)Z"⟩ ∈ z_tbl := z_tbl_in (List.mem_of_getElem? (i := 1666) (by decide +kernel)) rfl
theorem w_1667 : Cond.code ⟨"DearLettersModel", "eats", "([C)Z"⟩ prog_14_method_10_code 2 (Option.some FieldType.boolean) ∈ z_tbl := z_tbl_in (List.mem_of_getElem? (i := 1667) (by decide +kernel)) rfl
theorem w_1668 : Cond.methodLink "DearLettersModel" 286 ⟨"DearLettersModel", "isHere", "([C)Z"⟩ ∈ z_tbl := z_tbl_in (List.mem_of_getElem? (i := 1668) (by decide +kernel)) rfl
theorem w_1670 : Cond.instanceMethod ⟨"DearLettersModel", "isHere", "([C)Z"⟩ ∈ z_tbl := z_tbl_in (List.mem_of_getElem? (i := 1670) (by decide +kernel)) rfl
theorem w_1671 : Cond.code ⟨"DearLettersModel", "isHere", "([C)Z"⟩ prog_14_method_9_code 4 (Option.some FieldType.boolean) ∈ z_tbl := z_tbl_in (List.mem_of_getElem? (i := 1671) (by decide +kernel)) rfl
theorem w_1672 : Cond.methodLink "DearLettersModel" 279 ⟨"DearLettersModel", "isLetter", "(I)Z"⟩ ∈ z_tbl := z_tbl_in (List.mem_of_getElem? (i := 1672) (by decide +kernel)) rfl
theorem w_1673 : Cond.static ⟨"DearLettersModel", "isLetter", "(I)Z"⟩ ∈ z_tbl := z_tbl_in (List.mem_of_getElem? (i := 1673) (by decide +kernel)) rfl
theorem w_1674 : Cond.code ⟨"DearLettersModel", "isLetter", "(I)Z"⟩ prog_14_method_6_code 1 (Option.some FieldType.boolean) ∈ z_tbl := z_tbl_in (List.mem_of_getElem? (i := 1674) (by decide +kernel)) rfl
theorem w_1675 : Cond.methodLink "DearLettersModel" 373 ⟨"DearLettersModel", "letterTold", "(I)V"⟩ ∈ z_tbl := z_tbl_in (List.mem_of_getElem? (i := 1675) (by decide +kernel)) rfl
theorem w_1677 : Cond.instanceMethod ⟨"DearLettersModel", "letterTold", "(I)V"⟩ ∈ z_tbl := z_tbl_in (List.mem_of_getElem? (i := 1677) (by decide +kernel)) rfl
theorem w_1678 : Cond.code ⟨"DearLettersModel", "letterTold", "(I)V"⟩ prog_14_method_23_code 8 none ∈ z_tbl := z_tbl_in (List.mem_of_getElem? (i := 1678) (by decide +kernel)) rfl
theorem w_1679 : Cond.methodLink "DearLettersModel" 330 ⟨"DearLettersModel", "isFull", "(III)Z"⟩ ∈ z_tbl := z_tbl_in (List.mem_of_getElem? (i := 1679) (by decide +kernel)) rfl
theorem w_1681 : Cond.instanceMethod ⟨"DearLettersModel", "isFull", "(III)Z"⟩ ∈ z_tbl := z_tbl_in (List.mem_of_getElem? (i := 1681) (by decide +kernel)) rfl
theorem w_1682 : Cond.code ⟨"DearLettersModel", "isFull", "(III)Z"⟩ prog_14_method_18_code 4 (Option.some FieldType.boolean) ∈ z_tbl := z_tbl_in (List.mem_of_getElem? (i := 1682) (by decide +kernel)) rfl
theorem w_1683 : Cond.methodLink "DearLettersModel" 334 ⟨"DearLettersModel", "newName", "()J"⟩ ∈ z_tbl := z_tbl_in (List.mem_of_getElem? (i := 1683) (by decide +kernel)) rfl
theorem w_1685 : Cond.instanceMethod ⟨"DearLettersModel", "newName", "()J"⟩ ∈ z_tbl := z_tbl_in (List.mem_of_getElem? (i := 1685) (by decide +kernel)) rfl
theorem w_1686 : Cond.code ⟨"DearLettersModel", "newName", "()J"⟩ prog_14_method_20_code 4 (Option.some FieldType.long) ∈ z_tbl := z_tbl_in (List.mem_of_getElem? (i := 1686) (by decide +kernel)) rfl
theorem w_1687 : Cond.methodLink "DearLettersModel" 322 ⟨"DearLettersModel", "name", "()J"⟩ ∈ z_tbl := z_tbl_in (List.mem_of_getElem? (i := 1687) (by decide +kernel)) rfl
theorem w_1689 : Cond.instanceMethod ⟨"DearLettersModel", "name", "()J"⟩ ∈ z_tbl := z_tbl_in (List.mem_of_getElem? (i := 1689) (by decide +kernel)) rfl
theorem w_1690 : Cond.code ⟨"DearLettersModel", "name", "()J"⟩ prog_14_method_16_code 3 (Option.some FieldType.long) ∈ z_tbl := z_tbl_in (List.mem_of_getElem? (i := 1690) (by decide +kernel)) rfl
theorem w_1691 : Cond.methodLink "DearLettersModel" 307 ⟨"DearLettersModel", "isOwnHere", "()Z"⟩ ∈ z_tbl := z_tbl_in (List.mem_of_getElem? (i := 1691) (by decide +kernel)) rfl
theorem w_1693 : Cond.instanceMethod ⟨"DearLettersModel", "isOwnHere", "()Z"⟩ ∈ z_tbl := z_tbl_in (List.mem_of_getElem? (i := 1693) (by decide +kernel)) rfl
theorem w_1694 : Cond.code ⟨"DearLettersModel", "isOwnHere", "()Z"⟩ prog_14_method_15_code 2 (Option.some FieldType.boolean) ∈ z_tbl := z_tbl_in (List.mem_of_getElem? (i := 1694) (by decide +kernel)) rfl
theorem w_1695 : Cond.constantLong "DearLettersModel" 314 (27) ∈ z_tbl := z_tbl_in (List.mem_of_getElem? (i := 1695) (by decide +kernel)) rfl
theorem w_1696 : Cond.constantLong "DearLettersModel" 316 (97) ∈ z_tbl := z_tbl_in (List.mem_of_getElem? (i := 1696) (by decide +kernel)) rfl
theorem w_1697 : Cond.methodLink "DearLettersModel" 326 ⟨"DearLettersModel", "nameOf", "(IJ)I"⟩ ∈ z_tbl := z_tbl_in (List.mem_of_getElem? (i := 1697) (by decide +kernel)) rfl
theorem w_1699 : Cond.instanceMethod ⟨"DearLettersModel", "nameOf", "(IJ)I"⟩ ∈ z_tbl := z_tbl_in (List.mem_of_getElem? (i := 1699) (by decide +kernel)) rfl
theorem w_1700 : Cond.code ⟨"DearLettersModel", "nameOf", "(IJ)I"⟩ prog_14_method_19_code 5 (Option.some FieldType.int) ∈ z_tbl := z_tbl_in (List.mem_of_getElem? (i := 1700) (by decide +kernel)) rfl
theorem w_1701 : Cond.methodLink "DearLettersModel" 337 ⟨"DearLettersModel", "asks", "([C)V"⟩ ∈ z_tbl := z_tbl_in (List.mem_of_getElem? (i := 1701) (by decide +kernel)) rfl
theorem w_1703 : Cond.instanceMethod ⟨"DearLettersModel", "asks", "([C)V"⟩ ∈ z_tbl := z_tbl_in (List.mem_of_getElem? (i := 1703) (by decide +kernel)) rfl
theorem w_1704 : Cond.code ⟨"DearLettersModel", "asks", "([C)V"⟩ prog_14_method_11_code 2 none ∈ z_tbl := z_tbl_in (List.mem_of_getElem? (i := 1704) (by decide +kernel)) rfl
theorem w_1705 : Cond.methodLink "DearLettersModel" 341 ⟨"DearLettersModel", "number", "(II)I"⟩ ∈ z_tbl := z_tbl_in (List.mem_of_getElem? (i := 1705) (by decide +kernel)) rfl
theorem w_1707 : Cond.instanceMethod ⟨"DearLettersModel", "number", "(II)I"⟩ ∈ z_tbl := z_tbl_in (List.mem_of_getElem? (i := 1707) (by decide +kernel)) rfl
theorem w_1708 : Cond.code ⟨"DearLettersModel", "number", "(II)I"⟩ prog_14_method_14_code 5 (Option.some FieldType.int) ∈ z_tbl := z_tbl_in (List.mem_of_getElem? (i := 1708) (by decide +kernel)) rfl
theorem w_1709 : Cond.methodLink "DearLettersModel" 300 ⟨"DearLettersModel", "isDigit", "(I)Z"⟩ ∈ z_tbl := z_tbl_in (List.mem_of_getElem? (i := 1709) (by decide +kernel)) rfl
theorem w_1710 : Cond.static ⟨"DearLettersModel", "isDigit", "(I)Z"⟩ ∈ z_tbl := z_tbl_in (List.mem_of_getElem? (i := 1710) (by decide +kernel)) rfl
theorem w_1711 : Cond.code ⟨"DearLettersModel", "isDigit", "(I)Z"⟩ prog_14_method_7_code 1 (Option.some FieldType.boolean) ∈ z_tbl := z_tbl_in (List.mem_of_getElem? (i := 1711) (by decide +kernel)) rfl
theorem w_1712 : Cond.methodLink "DearLettersModel" 303 ⟨"DearLettersModel", "isIn", "(JJJ)Z"⟩ ∈ z_tbl := z_tbl_in (List.mem_of_getElem? (i := 1712) (by decide +kernel)) rfl
theorem w_1713 : Cond.static ⟨"DearLettersModel", "isIn", "(JJJ)Z"⟩ ∈ z_tbl := z_tbl_in (List.mem_of_getElem? (i := 1713) (by decide +kernel)) rfl
theorem w_1714 : Cond.code ⟨"DearLettersModel", "isIn", "(JJJ)Z"⟩ prog_14_method_2_code 6 (Option.some FieldType.boolean) ∈ z_tbl := z_tbl_in (List.mem_of_getElem? (i := 1714) (by decide +kernel)) rfl
theorem w_1715 : Cond.methodLink "DearLettersModel" 345 ⟨"DearLettersModel", "adds", "(IJ)I"⟩ ∈ z_tbl := z_tbl_in (List.mem_of_getElem? (i := 1715) (by decide +kernel)) rfl
theorem w_1717 : Cond.instanceMethod ⟨"DearLettersModel", "adds", "(IJ)I"⟩ ∈ z_tbl := z_tbl_in (List.mem_of_getElem? (i := 1717) (by decide +kernel)) rfl
theorem w_1718 : Cond.code ⟨"DearLettersModel", "adds", "(IJ)I"⟩ prog_14_method_22_code 4 (Option.some FieldType.int) ∈ z_tbl := z_tbl_in (List.mem_of_getElem? (i := 1718) (by decide +kernel)) rfl
theorem w_1719 : Cond.methodLink "DearLettersModel" 377 ⟨"DearLettersModel", "giftTold", "(I)V"⟩ ∈ z_tbl := z_tbl_in (List.mem_of_getElem? (i := 1719) (by decide +kernel)) rfl
theorem w_1721 : Cond.instanceMethod ⟨"DearLettersModel", "giftTold", "(I)V"⟩ ∈ z_tbl := z_tbl_in (List.mem_of_getElem? (i := 1721) (by decide +kernel)) rfl
theorem w_1722 : Cond.code ⟨"DearLettersModel", "giftTold", "(I)V"⟩ prog_14_method_24_code 5 none ∈ z_tbl := z_tbl_in (List.mem_of_getElem? (i := 1722) (by decide +kernel)) rfl
theorem w_1723 : Cond.methodLink "DearLettersModel" 380 ⟨"DearLettersModel", "wishTold", "()V"⟩ ∈ z_tbl := z_tbl_in (List.mem_of_getElem? (i := 1723) (by decide +kernel)) rfl
theorem w_1725 : Cond.instanceMethod ⟨"DearLettersModel", "wishTold", "()V"⟩ ∈ z_tbl := z_tbl_in (List.mem_of_getElem? (i := 1725) (by decide +kernel)) rfl
theorem w_1726 : Cond.code ⟨"DearLettersModel", "wishTold", "()V"⟩ prog_14_method_25_code 4 none ∈ z_tbl := z_tbl_in (List.mem_of_getElem? (i := 1726) (by decide +kernel)) rfl
theorem w_1727 : Cond.methodLink "DearLettersModel" 348 ⟨"DearLettersModel", "oneOf", "(I)I"⟩ ∈ z_tbl := z_tbl_in (List.mem_of_getElem? (i := 1727) (by decide +kernel)) rfl
theorem w_1729 : Cond.instanceMethod ⟨"DearLettersModel", "oneOf", "(I)I"⟩ ∈ z_tbl := z_tbl_in (List.mem_of_getElem? (i := 1729) (by decide +kernel)) rfl
theorem w_1730 : Cond.code ⟨"DearLettersModel", "oneOf", "(I)I"⟩ prog_14_method_21_code 5 (Option.some FieldType.int) ∈ z_tbl := z_tbl_in (List.mem_of_getElem? (i := 1730) (by decide +kernel)) rfl
theorem w_1731 : Cond.methodLink "DearLettersModel" 383 ⟨"DearLettersModel", "nearTold", "(I)V"⟩ ∈ z_tbl := z_tbl_in (List.mem_of_getElem? (i := 1731) (by decide +kernel)) rfl
theorem w_1733 : Cond.instanceMethod ⟨"DearLettersModel", "nearTold", "(I)V"⟩ ∈ z_tbl := z_tbl_in (List.mem_of_getElem? (i := 1733) (by decide +kernel)) rfl
theorem w_1734 : Cond.code ⟨"DearLettersModel", "nearTold", "(I)V"⟩ prog_14_method_26_code 4 none ∈ z_tbl := z_tbl_in (List.mem_of_getElem? (i := 1734) (by decide +kernel)) rfl
theorem w_1735 : Cond.methodLink "DearLettersModel" 386 ⟨"DearLettersModel", "likeTold", "(I)V"⟩ ∈ z_tbl := z_tbl_in (List.mem_of_getElem? (i := 1735) (by decide +kernel)) rfl
theorem w_1737 : Cond.instanceMethod ⟨"DearLettersModel", "likeTold", "(I)V"⟩ ∈ z_tbl := z_tbl_in (List.mem_of_getElem? (i := 1737) (by decide +kernel)) rfl
theorem w_1738 : Cond.code ⟨"DearLettersModel", "likeTold", "(I)V"⟩ prog_14_method_27_code 5 none ∈ z_tbl := z_tbl_in (List.mem_of_getElem? (i := 1738) (by decide +kernel)) rfl
theorem w_1739 : Cond.methodLink "DearLettersModel" 389 ⟨"DearLettersModel", "helperTold", "(I)V"⟩ ∈ z_tbl := z_tbl_in (List.mem_of_getElem? (i := 1739) (by decide +kernel)) rfl
theorem w_1741 : Cond.instanceMethod ⟨"DearLettersModel", "helperTold", "(I)V"⟩ ∈ z_tbl := z_tbl_in (List.mem_of_getElem? (i := 1741) (by decide +kernel)) rfl
theorem w_1742 : Cond.code ⟨"DearLettersModel", "helperTold", "(I)V"⟩ prog_14_method_28_code 8 none ∈ z_tbl := z_tbl_in (List.mem_of_getElem? (i := 1742) (by decide +kernel)) rfl
theorem w_1743 : Cond.methodLink "DearLettersModel" 392 ⟨"DearLettersModel", "codesTold", "(II)V"⟩ ∈ z_tbl := z_tbl_in (List.mem_of_getElem? (i := 1743) (by decide +kernel)) rfl
theorem w_1745 : Cond.instanceMethod ⟨"DearLettersModel", "codesTold", "(II)V"⟩ ∈ z_tbl := z_tbl_in (List.mem_of_getElem? (i := 1745) (by decide +kernel)) rfl
theorem w_1746 : Cond.code ⟨"DearLettersModel", "codesTold", "(II)V"⟩ prog_14_method_29_code 4 none ∈ z_tbl := z_tbl_in (List.mem_of_getElem? (i := 1746) (by decide +kernel)) rfl
theorem w_1747 : Cond.methodLink "DearLettersModel" 364 ⟨"DearLettersModel", "qSums", "()V"⟩ ∈ z_tbl := z_tbl_in (List.mem_of_getElem? (i := 1747) (by decide +kernel)) rfl
theorem w_1749 : Cond.instanceMethod ⟨"DearLettersModel", "qSums", "()V"⟩ ∈ z_tbl := z_tbl_in (List.mem_of_getElem? (i := 1749) (by decide +kernel)) rfl
theorem w_1750 : Cond.code ⟨"DearLettersModel", "qSums", "()V"⟩ prog_14_method_118_code 3 none ∈ z_tbl := z_tbl_in (List.mem_of_getElem? (i := 1750) (by decide +kernel)) rfl
theorem w_1751 : Cond.methodLink "DearLettersModel" 630 ⟨"DearLettersModel", "qPartTold", "()V"⟩ ∈ z_tbl := z_tbl_in (List.mem_of_getElem? (i := 1751) (by decide +kernel)) rfl
theorem w_1753 : Cond.instanceMethod ⟨"DearLettersModel", "qPartTold", "()V"⟩ ∈ z_tbl := z_tbl_in (List.mem_of_getElem? (i := 1753) (by decide +kernel)) rfl
theorem w_1754 : Cond.code ⟨"DearLettersModel", "qPartTold", "()V"⟩ prog_14_method_116_code 6 none ∈ z_tbl := z_tbl_in (List.mem_of_getElem? (i := 1754) (by decide +kernel)) rfl
theorem w_1755 : Cond.methodLink "DearLettersModel" 609 ⟨"DearLettersModel", "qWordOf", "(II)I"⟩ ∈ z_tbl := z_tbl_in (List.mem_of_getElem? (i := 1755) (by decide +kernel)) rfl
theorem w_1757 : Cond.instanceMethod ⟨"DearLettersModel", "qWordOf", "(II)I"⟩ ∈ z_tbl := z_tbl_in (List.mem_of_getElem? (i := 1757) (by decide +kernel)) rfl
theorem w_1758 : Cond.code ⟨"DearLettersModel", "qWordOf", "(II)I"⟩ prog_14_method_113_code 4 (Option.some FieldType.int) ∈ z_tbl := z_tbl_in (List.mem_of_getElem? (i := 1758) (by decide +kernel)) rfl
theorem w_1759 : Cond.methodLink "DearLettersModel" 603 ⟨"DearLettersModel", "qWordHere", "()I"⟩ ∈ z_tbl := z_tbl_in (List.mem_of_getElem? (i := 1759) (by decide +kernel)) rfl
theorem w_1761 : Cond.instanceMethod ⟨"DearLettersModel", "qWordHere", "()I"⟩ ∈ z_tbl := z_tbl_in (List.mem_of_getElem? (i := 1761) (by decide +kernel)) rfl
theorem w_1762 : Cond.code ⟨"DearLettersModel", "qWordHere", "()I"⟩ prog_14_method_112_code 1 (Option.some FieldType.int) ∈ z_tbl := z_tbl_in (List.mem_of_getElem? (i := 1762) (by decide +kernel)) rfl
theorem w_1763 : Cond.methodLink "DearLettersModel" 606 ⟨"DearLettersModel", "isAllowed", "(I)Z"⟩ ∈ z_tbl := z_tbl_in (List.mem_of_getElem? (i := 1763) (by decide +kernel)) rfl
theorem w_1765 : Cond.instanceMethod ⟨"DearLettersModel", "isAllowed", "(I)Z"⟩ ∈ z_tbl := z_tbl_in (List.mem_of_getElem? (i := 1765) (by decide +kernel)) rfl
theorem w_1766 : Cond.code ⟨"DearLettersModel", "isAllowed", "(I)Z"⟩ prog_14_method_17_code 2 (Option.some FieldType.boolean) ∈ z_tbl := z_tbl_in (List.mem_of_getElem? (i := 1766) (by decide +kernel)) rfl
theorem w_1767 : Cond.methodLink "DearLettersModel" 612 ⟨"DearLettersModel", "qOpens", "(II)V"⟩ ∈ z_tbl := z_tbl_in (List.mem_of_getElem? (i := 1767) (by decide +kernel)) rfl
theorem w_1769 : Cond.instanceMethod ⟨"DearLettersModel", "qOpens", "(II)V"⟩ ∈ z_tbl := z_tbl_in (List.mem_of_getElem? (i := 1769) (by decide +kernel)) rfl
theorem w_1770 : Cond.code ⟨"DearLettersModel", "qOpens", "(II)V"⟩ prog_14_method_106_code 3 none ∈ z_tbl := z_tbl_in (List.mem_of_getElem? (i := 1770) (by decide +kernel)) rfl
theorem w_1771 : Cond.methodLink "DearLettersModel" 395 ⟨"DearLettersModel", "asksSign", "(I)V"⟩ ∈ z_tbl := z_tbl_in (List.mem_of_getElem? (i := 1771) (by decide +kernel)) rfl
theorem w_1773 : Cond.instanceMethod ⟨"DearLettersModel", "asksSign", "(I)V"⟩ ∈ z_tbl := z_tbl_in (List.mem_of_getElem? (i := 1773) (by decide +kernel)) rfl
theorem w_1774 : Cond.code ⟨"DearLettersModel", "asksSign", "(I)V"⟩ prog_14_method_13_code 2 none ∈ z_tbl := z_tbl_in (List.mem_of_getElem? (i := 1774) (by decide +kernel)) rfl
theorem w_1775 : Cond.methodLink "DearLettersModel" 297 ⟨"DearLettersModel", "takesSign", "(I)Z"⟩ ∈ z_tbl := z_tbl_in (List.mem_of_getElem? (i := 1775) (by decide +kernel)) rfl
theorem w_1777 : Cond.instanceMethod ⟨"DearLettersModel", "takesSign", "(I)Z"⟩ ∈ z_tbl := z_tbl_in (List.mem_of_getElem? (i := 1777) (by decide +kernel)) rfl
theorem w_1778 : Cond.code ⟨"DearLettersModel", "takesSign", "(I)Z"⟩ prog_14_method_12_code 2 (Option.some FieldType.boolean) ∈ z_tbl := z_tbl_in (List.mem_of_getElem? (i := 1778) (by decide +kernel)) rfl
theorem w_1779 : Cond.methodLink "DearLettersModel" 615 ⟨"DearLettersModel", "qAsksWord", "(I)V"⟩ ∈ z_tbl := z_tbl_in (List.mem_of_getElem? (i := 1779) (by decide +kernel)) rfl
theorem w_1781 : Cond.instanceMethod ⟨"DearLettersModel", "qAsksWord", "(I)V"⟩ ∈ z_tbl := z_tbl_in (List.mem_of_getElem? (i := 1781) (by decide +kernel)) rfl
theorem w_1782 : Cond.code ⟨"DearLettersModel", "qAsksWord", "(I)V"⟩ prog_14_method_114_code 2 none ∈ z_tbl := z_tbl_in (List.mem_of_getElem? (i := 1782) (by decide +kernel)) rfl
theorem w_1783 : Cond.methodLink "DearLettersModel" 594 ⟨"DearLettersModel", "qCode", "(I)V"⟩ ∈ z_tbl := z_tbl_in (List.mem_of_getElem? (i := 1783) (by decide +kernel)) rfl
theorem w_1785 : Cond.instanceMethod ⟨"DearLettersModel", "qCode", "(I)V"⟩ ∈ z_tbl := z_tbl_in (List.mem_of_getElem? (i := 1785) (by decide +kernel)) rfl
theorem w_1786 : Cond.code ⟨"DearLettersModel", "qCode", "(I)V"⟩ prog_14_method_105_code 2 none ∈ z_tbl := z_tbl_in (List.mem_of_getElem? (i := 1786) (by decide +kernel)) rfl
theorem w_1787 : Cond.methodLink "DearLettersModel" 618 ⟨"DearLettersModel", "qEndsPart", "()V"⟩ ∈ z_tbl := z_tbl_in (List.mem_of_getElem? (i := 1787) (by decide +kernel)) rfl
theorem w_1789 : Cond.instanceMethod ⟨"DearLettersModel", "qEndsPart", "()V"⟩ ∈ z_tbl := z_tbl_in (List.mem_of_getElem? (i := 1789) (by decide +kernel)) rfl
theorem w_1790 : Cond.code ⟨"DearLettersModel", "qEndsPart", "()V"⟩ prog_14_method_115_code 1 none ∈ z_tbl := z_tbl_in (List.mem_of_getElem? (i := 1790) (by decide +kernel)) rfl
theorem w_1791 : Cond.methodLink "DearLettersModel" 600 ⟨"DearLettersModel", "qDrops", "()V"⟩ ∈ z_tbl := z_tbl_in (List.mem_of_getElem? (i := 1791) (by decide +kernel)) rfl
theorem w_1793 : Cond.instanceMethod ⟨"DearLettersModel", "qDrops", "()V"⟩ ∈ z_tbl := z_tbl_in (List.mem_of_getElem? (i := 1793) (by decide +kernel)) rfl
theorem w_1794 : Cond.code ⟨"DearLettersModel", "qDrops", "()V"⟩ prog_14_method_108_code 1 none ∈ z_tbl := z_tbl_in (List.mem_of_getElem? (i := 1794) (by decide +kernel)) rfl
theorem w_1795 : Cond.methodLink "DearLettersModel" 633 ⟨"DearLettersModel", "qGoesOn", "()Z"⟩ ∈ z_tbl := z_tbl_in (List.mem_of_getElem? (i := 1795) (by decide +kernel)) rfl
theorem w_1797 : Cond.instanceMethod ⟨"DearLettersModel", "qGoesOn", "()Z"⟩ ∈ z_tbl := z_tbl_in (List.mem_of_getElem? (i := 1797) (by decide +kernel)) rfl
theorem w_1798 : Cond.code ⟨"DearLettersModel", "qGoesOn", "()Z"⟩ prog_14_method_117_code 2 (Option.some FieldType.boolean) ∈ z_tbl := z_tbl_in (List.mem_of_getElem? (i := 1798) (by decide +kernel)) rfl
theorem w_1799 : Cond.methodLink "DearLettersModel" 621 ⟨"DearLettersModel", "qBracket", "()I"⟩ ∈ z_tbl := z_tbl_in (List.mem_of_getElem? (i := 1799) (by decide +kernel)) rfl
theorem w_1801 : Cond.instanceMethod ⟨"DearLettersModel", "qBracket", "()I"⟩ ∈ z_tbl := z_tbl_in (List.mem_of_getElem? (i := 1801) (by decide +kernel)) rfl
theorem w_1802 : Cond.code ⟨"DearLettersModel", "qBracket", "()I"⟩ prog_14_method_110_code 2 (Option.some FieldType.int) ∈ z_tbl := z_tbl_in (List.mem_of_getElem? (i := 1802) (by decide +kernel)) rfl
theorem w_1803 : Cond.methodLink "DearLettersModel" 597 ⟨"DearLettersModel", "qIsBracket", "(I)Z"⟩ ∈ z_tbl := z_tbl_in (List.mem_of_getElem? (i := 1803) (by decide +kernel)) rfl
theorem w_1804 : Cond.static ⟨"DearLettersModel", "qIsBracket", "(I)Z"⟩ ∈ z_tbl := z_tbl_in (List.mem_of_getElem? (i := 1804) (by decide +kernel)) rfl
theorem w_1805 : Cond.code ⟨"DearLettersModel", "qIsBracket", "(I)Z"⟩ prog_14_method_109_code 1 (Option.some FieldType.boolean) ∈ z_tbl := z_tbl_in (List.mem_of_getElem? (i := 1805) (by decide +kernel)) rfl
theorem w_1806 : Cond.methodLink "DearLettersModel" 624 ⟨"DearLettersModel", "qDropsToBracket", "()V"⟩ ∈ z_tbl := z_tbl_in (List.mem_of_getElem? (i := 1806) (by decide +kernel)) rfl
theorem w_1808 : Cond.instanceMethod ⟨"DearLettersModel", "qDropsToBracket", "()V"⟩ ∈ z_tbl := z_tbl_in (List.mem_of_getElem? (i := 1808) (by decide +kernel)) rfl
theorem w_1809 : Cond.code ⟨"DearLettersModel", "qDropsToBracket", "()V"⟩ prog_14_method_111_code 1 none ∈ z_tbl := z_tbl_in (List.mem_of_getElem? (i := 1809) (by decide +kernel)) rfl
theorem w_1810 : Cond.methodLink "DearLettersModel" 627 ⟨"DearLettersModel", "qIsOn", "(I)Z"⟩ ∈ z_tbl := z_tbl_in (List.mem_of_getElem? (i := 1810) (by decide +kernel)) rfl
theorem w_1812 : Cond.instanceMethod ⟨"DearLettersModel", "qIsOn", "(I)Z"⟩ ∈ z_tbl := z_tbl_in (List.mem_of_getElem? (i := 1812) (by decide +kernel)) rfl
theorem w_1813 : Cond.code ⟨"DearLettersModel", "qIsOn", "(I)Z"⟩ prog_14_method_107_code 2 (Option.some FieldType.boolean) ∈ z_tbl := z_tbl_in (List.mem_of_getElem? (i := 1813) (by decide +kernel)) rfl
theorem w_1814 : Cond.methodLink "DearLettersModel" 404 ⟨"DearLettersModel", "stands", "()V"⟩ ∈ z_tbl := z_tbl_in (List.mem_of_getElem? (i := 1814) (by decide +kernel)) rfl
theorem w_1816 : Cond.instanceMethod ⟨"DearLettersModel", "stands", "()V"⟩ ∈ z_tbl := z_tbl_in (List.mem_of_getElem? (i := 1816) (by decide +kernel)) rfl
theorem w_1817 : Cond.code ⟨"DearLettersModel", "stands", "()V"⟩ prog_14_method_32_code 2 none ∈ z_tbl := z_tbl_in (List.mem_of_getElem? (i := 1817) (by decide +kernel)) rfl
theorem w_1818 : Cond.methodLink "DearLettersModel" 407 ⟨"DearLettersModel", "leftAnew", "()V"⟩ ∈ z_tbl := z_tbl_in (List.mem_of_getElem? (i := 1818) (by decide +kernel)) rfl
theorem w_1820 : Cond.instanceMethod ⟨"DearLettersModel", "leftAnew", "()V"⟩ ∈ z_tbl := z_tbl_in (List.mem_of_getElem? (i := 1820) (by decide +kernel)) rfl
theorem w_1821 : Cond.code ⟨"DearLettersModel", "leftAnew", "()V"⟩ prog_14_method_46_code 2 none ∈ z_tbl := z_tbl_in (List.mem_of_getElem? (i := 1821) (by decide +kernel)) rfl
theorem w_1822 : Cond.methodLink "DearLettersModel" 422 ⟨"DearLettersModel", "helperMany", "()I"⟩ ∈ z_tbl := z_tbl_in (List.mem_of_getElem? (i := 1822) (by decide +kernel)) rfl
theorem w_1824 : Cond.instanceMethod ⟨"DearLettersModel", "helperMany", "()I"⟩ ∈ z_tbl := z_tbl_in (List.mem_of_getElem? (i := 1824) (by decide +kernel)) rfl
theorem w_1825 : Cond.code ⟨"DearLettersModel", "helperMany", "()I"⟩ prog_14_method_36_code 1 (Option.some FieldType.int) ∈ z_tbl := z_tbl_in (List.mem_of_getElem? (i := 1825) (by decide +kernel)) rfl
theorem w_1826 : Cond.methodLink "DearLettersModel" 410 ⟨"DearLettersModel", "giftMany", "()I"⟩ ∈ z_tbl := z_tbl_in (List.mem_of_getElem? (i := 1826) (by decide +kernel)) rfl
theorem w_1828 : Cond.instanceMethod ⟨"DearLettersModel", "giftMany", "()I"⟩ ∈ z_tbl := z_tbl_in (List.mem_of_getElem? (i := 1828) (by decide +kernel)) rfl
theorem w_1829 : Cond.code ⟨"DearLettersModel", "giftMany", "()I"⟩ prog_14_method_35_code 1 (Option.some FieldType.int) ∈ z_tbl := z_tbl_in (List.mem_of_getElem? (i := 1829) (by decide +kernel)) rfl
theorem w_1838 : Cond.methodLink "DearLettersModel" 491 ⟨"DearLettersModel", "manyWith", "(I)I"⟩ ∈ z_tbl := z_tbl_in (List.mem_of_getElem? (i := 1838) (by decide +kernel)) rfl
theorem w_1840 : Cond.instanceMethod ⟨"DearLettersModel", "manyWith", "(I)I"⟩ ∈ z_tbl := z_tbl_in (List.mem_of_getElem? (i := 1840) (by decide +kernel)) rfl
theorem w_1841 : Cond.code ⟨"DearLettersModel", "manyWith", "(I)I"⟩ prog_14_method_64_code 4 (Option.some FieldType.int) ∈ z_tbl := z_tbl_in (List.mem_of_getElem? (i := 1841) (by decide +kernel)) rfl
theorem w_1842 : Cond.methodLink "DearLettersModel" 419 ⟨"DearLettersModel", "letterMany", "()I"⟩ ∈ z_tbl := z_tbl_in (List.mem_of_getElem? (i := 1842) (by decide +kernel)) rfl
theorem w_1844 : Cond.instanceMethod ⟨"DearLettersModel", "letterMany", "()I"⟩ ∈ z_tbl := z_tbl_in (List.mem_of_getElem? (i := 1844) (by decide +kernel)) rfl
theorem w_1845 : Cond.code ⟨"DearLettersModel", "letterMany", "()I"⟩ prog_14_method_34_code 1 (Option.some FieldType.int) ∈ z_tbl := z_tbl_in (List.mem_of_getElem? (i := 1845) (by decide +kernel)) rfl
theorem w_1846 : Cond.methodLink "DearLettersModel" 494 ⟨"DearLettersModel", "leftAll", "()I"⟩ ∈ z_tbl := z_tbl_in (List.mem_of_getElem? (i := 1846) (by decide +kernel)) rfl
theorem w_1848 : Cond.instanceMethod ⟨"DearLettersModel", "leftAll", "()I"⟩ ∈ z_tbl := z_tbl_in (List.mem_of_getElem? (i := 1848) (by decide +kernel)) rfl
theorem w_1849 : Cond.code ⟨"DearLettersModel", "leftAll", "()I"⟩ prog_14_method_65_code 3 (Option.some FieldType.int) ∈ z_tbl := z_tbl_in (List.mem_of_getElem? (i := 1849) (by decide +kernel)) rfl
theorem w_1850 : Cond.methodLink "DearLettersModel" 458 ⟨"DearLettersModel", "leftOf", "(I)I"⟩ ∈ z_tbl := z_tbl_in (List.mem_of_getElem? (i := 1850) (by decide +kernel)) rfl
theorem w_1852 : Cond.instanceMethod ⟨"DearLettersModel", "leftOf", "(I)I"⟩ ∈ z_tbl := z_tbl_in (List.mem_of_getElem? (i := 1852) (by decide +kernel)) rfl
theorem w_1853 : Cond.code ⟨"DearLettersModel", "leftOf", "(I)I"⟩ prog_14_method_43_code 2 (Option.some FieldType.int) ∈ z_tbl := z_tbl_in (List.mem_of_getElem? (i := 1853) (by decide +kernel)) rfl
theorem w_1858 : Cond.constantLong "DearLettersModel" 497 (2) ∈ z_tbl := z_tbl_in (List.mem_of_getElem? (i := 1858) (by decide +kernel)) rfl
theorem w_1859 : Cond.constantLong "DearLettersModel" 499 (5) ∈ z_tbl := z_tbl_in (List.mem_of_getElem? (i := 1859) (by decide +kernel)) rfl
theorem w_1864 : Cond.methodLink "DearLettersModel" 501 ⟨"DearLettersModel", "isMail", "(I)Z"⟩ ∈ z_tbl := z_tbl_in (List.mem_of_getElem? (i := 1864) (by decide +kernel)) rfl
theorem w_1866 : Cond.instanceMethod ⟨"DearLettersModel", "isMail", "(I)Z"⟩ ∈ z_tbl := z_tbl_in (List.mem_of_getElem? (i := 1866) (by decide +kernel)) rfl
theorem w_1867 : Cond.code ⟨"DearLettersModel", "isMail", "(I)Z"⟩ prog_14_method_37_code 2 (Option.some FieldType.boolean) ∈ z_tbl := z_tbl_in (List.mem_of_getElem? (i := 1867) (by decide +kernel)) rfl
theorem w_1868 : Cond.methodLink "DearLettersModel" 451 ⟨"DearLettersModel", "doneOf", "(I)I"⟩ ∈ z_tbl := z_tbl_in (List.mem_of_getElem? (i := 1868) (by decide +kernel)) rfl
theorem w_1870 : Cond.instanceMethod ⟨"DearLettersModel", "doneOf", "(I)I"⟩ ∈ z_tbl := z_tbl_in (List.mem_of_getElem? (i := 1870) (by decide +kernel)) rfl
theorem w_1871 : Cond.code ⟨"DearLettersModel", "doneOf", "(I)I"⟩ prog_14_method_40_code 2 (Option.some FieldType.int) ∈ z_tbl := z_tbl_in (List.mem_of_getElem? (i := 1871) (by decide +kernel)) rfl
theorem w_1872 : Cond.methodLink "DearLettersModel" 504 ⟨"DearLettersModel", "sheetOf", "(I)I"⟩ ∈ z_tbl := z_tbl_in (List.mem_of_getElem? (i := 1872) (by decide +kernel)) rfl
theorem w_1874 : Cond.instanceMethod ⟨"DearLettersModel", "sheetOf", "(I)I"⟩ ∈ z_tbl := z_tbl_in (List.mem_of_getElem? (i := 1874) (by decide +kernel)) rfl
theorem w_1875 : Cond.code ⟨"DearLettersModel", "sheetOf", "(I)I"⟩ prog_14_method_41_code 2 (Option.some FieldType.int) ∈ z_tbl := z_tbl_in (List.mem_of_getElem? (i := 1875) (by decide +kernel)) rfl
theorem w_1876 : Cond.methodLink "DearLettersModel" 507 ⟨"DearLettersModel", "giftOf", "(I)I"⟩ ∈ z_tbl := z_tbl_in (List.mem_of_getElem? (i := 1876) (by decide +kernel)) rfl
theorem w_1878 : Cond.instanceMethod ⟨"DearLettersModel", "giftOf", "(I)I"⟩ ∈ z_tbl := z_tbl_in (List.mem_of_getElem? (i := 1878) (by decide +kernel)) rfl
theorem w_1879 : Cond.code ⟨"DearLettersModel", "giftOf", "(I)I"⟩ prog_14_method_42_code 2 (Option.some FieldType.int) ∈ z_tbl := z_tbl_in (List.mem_of_getElem? (i := 1879) (by decide +kernel)) rfl
theorem w_1880 : Cond.methodLink "DearLettersModel" 510 ⟨"DearLettersModel", "wishesOf", "(I)I"⟩ ∈ z_tbl := z_tbl_in (List.mem_of_getElem? (i := 1880) (by decide +kernel)) rfl
theorem w_1882 : Cond.instanceMethod ⟨"DearLettersModel", "wishesOf", "(I)I"⟩ ∈ z_tbl := z_tbl_in (List.mem_of_getElem? (i := 1882) (by decide +kernel)) rfl
theorem w_1883 : Cond.code ⟨"DearLettersModel", "wishesOf", "(I)I"⟩ prog_14_method_45_code 4 (Option.some FieldType.int) ∈ z_tbl := z_tbl_in (List.mem_of_getElem? (i := 1883) (by decide +kernel)) rfl
theorem w_1884 : Cond.methodLink "DearLettersModel" 425 ⟨"DearLettersModel", "wishOf", "(II)I"⟩ ∈ z_tbl := z_tbl_in (List.mem_of_getElem? (i := 1884) (by decide +kernel)) rfl
theorem w_1886 : Cond.instanceMethod ⟨"DearLettersModel", "wishOf", "(II)I"⟩ ∈ z_tbl := z_tbl_in (List.mem_of_getElem? (i := 1886) (by decide +kernel)) rfl
theorem w_1887 : Cond.code ⟨"DearLettersModel", "wishOf", "(II)I"⟩ prog_14_method_44_code 3 (Option.some FieldType.int) ∈ z_tbl := z_tbl_in (List.mem_of_getElem? (i := 1887) (by decide +kernel)) rfl
theorem w_1892 : Cond.methodLink "DearLettersModel" 513 ⟨"DearLettersModel", "isGift", "(I)Z"⟩ ∈ z_tbl := z_tbl_in (List.mem_of_getElem? (i := 1892) (by decide +kernel)) rfl
theorem w_1894 : Cond.instanceMethod ⟨"DearLettersModel", "isGift", "(I)Z"⟩ ∈ z_tbl := z_tbl_in (List.mem_of_getElem? (i := 1894) (by decide +kernel)) rfl
theorem w_1895 : Cond.code ⟨"DearLettersModel", "isGift", "(I)Z"⟩ prog_14_method_38_code 2 (Option.some FieldType.boolean) ∈ z_tbl := z_tbl_in (List.mem_of_getElem? (i := 1895) (by decide +kernel)) rfl
theorem w_1900 : Cond.methodLink "DearLettersModel" 516 ⟨"DearLettersModel", "isHelper", "(I)Z"⟩ ∈ z_tbl := z_tbl_in (List.mem_of_getElem? (i := 1900) (by decide +kernel)) rfl
theorem w_1902 : Cond.instanceMethod ⟨"DearLettersModel", "isHelper", "(I)Z"⟩ ∈ z_tbl := z_tbl_in (List.mem_of_getElem? (i := 1902) (by decide +kernel)) rfl
theorem w_1903 : Cond.code ⟨"DearLettersModel", "isHelper", "(I)Z"⟩ prog_14_method_39_code 2 (Option.some FieldType.boolean) ∈ z_tbl := z_tbl_in (List.mem_of_getElem? (i := 1903) (by decide +kernel)) rfl
theorem w_1908 : Cond.methodLink "DearLettersModel" 461 ⟨"DearLettersModel", "timeOf", "(II)I"⟩ ∈ z_tbl := z_tbl_in (List.mem_of_getElem? (i := 1908) (by decide +kernel)) rfl
theorem w_1910 : Cond.instanceMethod ⟨"DearLettersModel", "timeOf", "(II)I"⟩ ∈ z_tbl := z_tbl_in (List.mem_of_getElem? (i := 1910) (by decide +kernel)) rfl
theorem w_1911 : Cond.code ⟨"DearLettersModel", "timeOf", "(II)I"⟩ prog_14_method_48_code 5 (Option.some FieldType.int) ∈ z_tbl := z_tbl_in (List.mem_of_getElem? (i := 1911) (by decide +kernel)) rfl
theorem w_1912 : Cond.methodLink "DearLettersModel" 445 ⟨"DearLettersModel", "codesTell", "(III)J"⟩ ∈ z_tbl := z_tbl_in (List.mem_of_getElem? (i := 1912) (by decide +kernel)) rfl
theorem w_1914 : Cond.instanceMethod ⟨"DearLettersModel", "codesTell", "(III)J"⟩ ∈ z_tbl := z_tbl_in (List.mem_of_getElem? (i := 1914) (by decide +kernel)) rfl
theorem w_1915 : Cond.code ⟨"DearLettersModel", "codesTell", "(III)J"⟩ prog_14_method_47_code 6 (Option.some FieldType.long) ∈ z_tbl := z_tbl_in (List.mem_of_getElem? (i := 1915) (by decide +kernel)) rfl
theorem w_1916 : Cond.methodLink "DearLettersModel" 434 ⟨"DearLettersModel", "qPuts", "(J)V"⟩ ∈ z_tbl := z_tbl_in (List.mem_of_getElem? (i := 1916) (by decide +kernel)) rfl
theorem w_1918 : Cond.instanceMethod ⟨"DearLettersModel", "qPuts", "(J)V"⟩ ∈ z_tbl := z_tbl_in (List.mem_of_getElem? (i := 1918) (by decide +kernel)) rfl
theorem w_1919 : Cond.code ⟨"DearLettersModel", "qPuts", "(J)V"⟩ prog_14_method_126_code 3 none ∈ z_tbl := z_tbl_in (List.mem_of_getElem? (i := 1919) (by decide +kernel)) rfl
theorem w_1920 : Cond.methodLink "DearLettersModel" 438 ⟨"DearLettersModel", "qPartOf", "(II)J"⟩ ∈ z_tbl := z_tbl_in (List.mem_of_getElem? (i := 1920) (by decide +kernel)) rfl
theorem w_1922 : Cond.instanceMethod ⟨"DearLettersModel", "qPartOf", "(II)J"⟩ ∈ z_tbl := z_tbl_in (List.mem_of_getElem? (i := 1922) (by decide +kernel)) rfl
theorem w_1923 : Cond.code ⟨"DearLettersModel", "qPartOf", "(II)J"⟩ prog_14_method_128_code 3 (Option.some FieldType.long) ∈ z_tbl := z_tbl_in (List.mem_of_getElem? (i := 1923) (by decide +kernel)) rfl
theorem w_1924 : Cond.methodLink "DearLettersModel" 442 ⟨"DearLettersModel", "qJoins", "(I)V"⟩ ∈ z_tbl := z_tbl_in (List.mem_of_getElem? (i := 1924) (by decide +kernel)) rfl
theorem w_1926 : Cond.instanceMethod ⟨"DearLettersModel", "qJoins", "(I)V"⟩ ∈ z_tbl := z_tbl_in (List.mem_of_getElem? (i := 1926) (by decide +kernel)) rfl
theorem w_1927 : Cond.code ⟨"DearLettersModel", "qJoins", "(I)V"⟩ prog_14_method_127_code 6 none ∈ z_tbl := z_tbl_in (List.mem_of_getElem? (i := 1927) (by decide +kernel)) rfl
theorem w_1928 : Cond.methodLink "DearLettersModel" 652 ⟨"DearLettersModel", "qClip", "(J)J"⟩ ∈ z_tbl := z_tbl_in (List.mem_of_getElem? (i := 1928) (by decide +kernel)) rfl
theorem w_1929 : Cond.static ⟨"DearLettersModel", "qClip", "(J)J"⟩ ∈ z_tbl := z_tbl_in (List.mem_of_getElem? (i := 1929) (by decide +kernel)) rfl
theorem w_1930 : Cond.code ⟨"DearLettersModel", "qClip", "(J)J"⟩ prog_14_method_124_code 2 (Option.some FieldType.long) ∈ z_tbl := z_tbl_in (List.mem_of_getElem? (i := 1930) (by decide +kernel)) rfl
theorem w_1931 : Cond.constantLong "DearLettersModel" 648 (1000000) ∈ z_tbl := z_tbl_in (List.mem_of_getElem? (i := 1931) (by decide +kernel)) rfl
theorem w_1932 : Cond.constantLong "DearLettersModel" 650 (-1000000) ∈ z_tbl := z_tbl_in (List.mem_of_getElem? (i := 1932) (by decide +kernel)) rfl
theorem w_1933 : Cond.methodLink "DearLettersModel" 656 ⟨"DearLettersModel", "qFloor", "(JJ)J"⟩ ∈ z_tbl := z_tbl_in (List.mem_of_getElem? (i := 1933) (by decide +kernel)) rfl
theorem w_1934 : Cond.static ⟨"DearLettersModel", "qFloor", "(JJ)J"⟩ ∈ z_tbl := z_tbl_in (List.mem_of_getElem? (i := 1934) (by decide +kernel)) rfl
theorem w_1935 : Cond.code ⟨"DearLettersModel", "qFloor", "(JJ)J"⟩ prog_14_method_125_code 6 (Option.some FieldType.long) ∈ z_tbl := z_tbl_in (List.mem_of_getElem? (i := 1935) (by decide +kernel)) rfl
theorem w_1936 : Cond.constantLong "DearLettersModel" 449 (999) ∈ z_tbl := z_tbl_in (List.mem_of_getElem? (i := 1936) (by decide +kernel)) rfl
theorem w_1941 : Cond.methodLink "DearLettersModel" 464 ⟨"DearLettersModel", "warmOf", "(II)J"⟩ ∈ z_tbl := z_tbl_in (List.mem_of_getElem? (i := 1941) (by decide +kernel)) rfl
theorem w_1943 : Cond.instanceMethod ⟨"DearLettersModel", "warmOf", "(II)J"⟩ ∈ z_tbl := z_tbl_in (List.mem_of_getElem? (i := 1943) (by decide +kernel)) rfl
theorem w_1944 : Cond.code ⟨"DearLettersModel", "warmOf", "(II)J"⟩ prog_14_method_49_code 3 (Option.some FieldType.long) ∈ z_tbl := z_tbl_in (List.mem_of_getElem? (i := 1944) (by decide +kernel)) rfl
theorem w_1945 : Cond.constantLong "DearLettersModel" 519 (-1000000000000000) ∈ z_tbl := z_tbl_in (List.mem_of_getElem? (i := 1945) (by decide +kernel)) rfl
theorem w_1950 : Cond.methodLink "DearLettersModel" 521 ⟨"DearLettersModel", "canAnswer", "(II)Z"⟩ ∈ z_tbl := z_tbl_in (List.mem_of_getElem? (i := 1950) (by decide +kernel)) rfl
theorem w_1952 : Cond.instanceMethod ⟨"DearLettersModel", "canAnswer", "(II)Z"⟩ ∈ z_tbl := z_tbl_in (List.mem_of_getElem? (i := 1952) (by decide +kernel)) rfl
theorem w_1953 : Cond.code ⟨"DearLettersModel", "canAnswer", "(II)Z"⟩ prog_14_method_51_code 3 (Option.some FieldType.boolean) ∈ z_tbl := z_tbl_in (List.mem_of_getElem? (i := 1953) (by decide +kernel)) rfl
theorem w_1954 : Cond.methodLink "DearLettersModel" 454 ⟨"DearLettersModel", "doesBear", "(II)Z"⟩ ∈ z_tbl := z_tbl_in (List.mem_of_getElem? (i := 1954) (by decide +kernel)) rfl
theorem w_1956 : Cond.instanceMethod ⟨"DearLettersModel", "doesBear", "(II)Z"⟩ ∈ z_tbl := z_tbl_in (List.mem_of_getElem? (i := 1956) (by decide +kernel)) rfl
theorem w_1957 : Cond.code ⟨"DearLettersModel", "doesBear", "(II)Z"⟩ prog_14_method_50_code 3 (Option.some FieldType.boolean) ∈ z_tbl := z_tbl_in (List.mem_of_getElem? (i := 1957) (by decide +kernel)) rfl
theorem w_1962 : Cond.methodLink "DearLettersModel" 485 ⟨"DearLettersModel", "laysWarmest", "()I"⟩ ∈ z_tbl := z_tbl_in (List.mem_of_getElem? (i := 1962) (by decide +kernel)) rfl
theorem w_1964 : Cond.instanceMethod ⟨"DearLettersModel", "laysWarmest", "()I"⟩ ∈ z_tbl := z_tbl_in (List.mem_of_getElem? (i := 1964) (by decide +kernel)) rfl
theorem w_1965 : Cond.code ⟨"DearLettersModel", "laysWarmest", "()I"⟩ prog_14_method_58_code 6 (Option.some FieldType.int) ∈ z_tbl := z_tbl_in (List.mem_of_getElem? (i := 1965) (by decide +kernel)) rfl
theorem w_1966 : Cond.methodLink "DearLettersModel" 467 ⟨"DearLettersModel", "laysTimes", "()V"⟩ ∈ z_tbl := z_tbl_in (List.mem_of_getElem? (i := 1966) (by decide +kernel)) rfl
theorem w_1968 : Cond.instanceMethod ⟨"DearLettersModel", "laysTimes", "()V"⟩ ∈ z_tbl := z_tbl_in (List.mem_of_getElem? (i := 1968) (by decide +kernel)) rfl
theorem w_1969 : Cond.code ⟨"DearLettersModel", "laysTimes", "()V"⟩ prog_14_method_56_code 3 none ∈ z_tbl := z_tbl_in (List.mem_of_getElem? (i := 1969) (by decide +kernel)) rfl
theorem w_1970 : Cond.methodLink "DearLettersModel" 473 ⟨"DearLettersModel", "isNextRow", "()Z"⟩ ∈ z_tbl := z_tbl_in (List.mem_of_getElem? (i := 1970) (by decide +kernel)) rfl
theorem w_1972 : Cond.instanceMethod ⟨"DearLettersModel", "isNextRow", "()Z"⟩ ∈ z_tbl := z_tbl_in (List.mem_of_getElem? (i := 1972) (by decide +kernel)) rfl
theorem w_1973 : Cond.code ⟨"DearLettersModel", "isNextRow", "()Z"⟩ prog_14_method_53_code 2 (Option.some FieldType.boolean) ∈ z_tbl := z_tbl_in (List.mem_of_getElem? (i := 1973) (by decide +kernel)) rfl
theorem w_1974 : Cond.methodLink "DearLettersModel" 476 ⟨"DearLettersModel", "answeredIn", "()I"⟩ ∈ z_tbl := z_tbl_in (List.mem_of_getElem? (i := 1974) (by decide +kernel)) rfl
theorem w_1976 : Cond.instanceMethod ⟨"DearLettersModel", "answeredIn", "()I"⟩ ∈ z_tbl := z_tbl_in (List.mem_of_getElem? (i := 1976) (by decide +kernel)) rfl
theorem w_1977 : Cond.code ⟨"DearLettersModel", "answeredIn", "()I"⟩ prog_14_method_54_code 3 (Option.some FieldType.int) ∈ z_tbl := z_tbl_in (List.mem_of_getElem? (i := 1977) (by decide +kernel)) rfl
theorem w_1978 : Cond.methodLink "DearLettersModel" 479 ⟨"DearLettersModel", "canRow", "()Z"⟩ ∈ z_tbl := z_tbl_in (List.mem_of_getElem? (i := 1978) (by decide +kernel)) rfl
theorem w_1980 : Cond.instanceMethod ⟨"DearLettersModel", "canRow", "()Z"⟩ ∈ z_tbl := z_tbl_in (List.mem_of_getElem? (i := 1980) (by decide +kernel)) rfl
theorem w_1981 : Cond.code ⟨"DearLettersModel", "canRow", "()Z"⟩ prog_14_method_55_code 3 (Option.some FieldType.boolean) ∈ z_tbl := z_tbl_in (List.mem_of_getElem? (i := 1981) (by decide +kernel)) rfl
theorem w_1982 : Cond.methodLink "DearLettersModel" 482 ⟨"DearLettersModel", "warmIn", "()J"⟩ ∈ z_tbl := z_tbl_in (List.mem_of_getElem? (i := 1982) (by decide +kernel)) rfl
theorem w_1984 : Cond.instanceMethod ⟨"DearLettersModel", "warmIn", "()J"⟩ ∈ z_tbl := z_tbl_in (List.mem_of_getElem? (i := 1984) (by decide +kernel)) rfl
theorem w_1985 : Cond.code ⟨"DearLettersModel", "warmIn", "()J"⟩ prog_14_method_57_code 4 (Option.some FieldType.long) ∈ z_tbl := z_tbl_in (List.mem_of_getElem? (i := 1985) (by decide +kernel)) rfl
theorem w_1994 : Cond.methodLink "DearLettersModel" 524 ⟨"DearLettersModel", "isAhead", "(III)Z"⟩ ∈ z_tbl := z_tbl_in (List.mem_of_getElem? (i := 1994) (by decide +kernel)) rfl
theorem w_1996 : Cond.instanceMethod ⟨"DearLettersModel", "isAhead", "(III)Z"⟩ ∈ z_tbl := z_tbl_in (List.mem_of_getElem? (i := 1996) (by decide +kernel)) rfl
theorem w_1997 : Cond.code ⟨"DearLettersModel", "isAhead", "(III)Z"⟩ prog_14_method_62_code 4 (Option.some FieldType.boolean) ∈ z_tbl := z_tbl_in (List.mem_of_getElem? (i := 1997) (by decide +kernel)) rfl
theorem w_1998 : Cond.methodLink "DearLettersModel" 527 ⟨"DearLettersModel", "putsAside", "()V"⟩ ∈ z_tbl := z_tbl_in (List.mem_of_getElem? (i := 1998) (by decide +kernel)) rfl
theorem w_2000 : Cond.instanceMethod ⟨"DearLettersModel", "putsAside", "()V"⟩ ∈ z_tbl := z_tbl_in (List.mem_of_getElem? (i := 2000) (by decide +kernel)) rfl
theorem w_2001 : Cond.code ⟨"DearLettersModel", "putsAside", "()V"⟩ prog_14_method_60_code 2 none ∈ z_tbl := z_tbl_in (List.mem_of_getElem? (i := 2001) (by decide +kernel)) rfl
theorem w_2002 : Cond.methodLink "DearLettersModel" 530 ⟨"DearLettersModel", "eveningGoes", "()I"⟩ ∈ z_tbl := z_tbl_in (List.mem_of_getElem? (i := 2002) (by decide +kernel)) rfl
theorem w_2004 : Cond.instanceMethod ⟨"DearLettersModel", "eveningGoes", "()I"⟩ ∈ z_tbl := z_tbl_in (List.mem_of_getElem? (i := 2004) (by decide +kernel)) rfl
theorem w_2005 : Cond.code ⟨"DearLettersModel", "eveningGoes", "()I"⟩ prog_14_method_59_code 3 (Option.some FieldType.int) ∈ z_tbl := z_tbl_in (List.mem_of_getElem? (i := 2005) (by decide +kernel)) rfl
theorem w_2006 : Cond.methodLink "DearLettersModel" 488 ⟨"DearLettersModel", "isAnswered", "(II)V"⟩ ∈ z_tbl := z_tbl_in (List.mem_of_getElem? (i := 2006) (by decide +kernel)) rfl
theorem w_2008 : Cond.instanceMethod ⟨"DearLettersModel", "isAnswered", "(II)V"⟩ ∈ z_tbl := z_tbl_in (List.mem_of_getElem? (i := 2008) (by decide +kernel)) rfl
theorem w_2009 : Cond.code ⟨"DearLettersModel", "isAnswered", "(II)V"⟩ prog_14_method_52_code 3 none ∈ z_tbl := z_tbl_in (List.mem_of_getElem? (i := 2009) (by decide +kernel)) rfl
theorem w_2010 : Cond.methodLink "DearLettersModel" 533 ⟨"DearLettersModel", "answeredMany", "()I"⟩ ∈ z_tbl := z_tbl_in (List.mem_of_getElem? (i := 2010) (by decide +kernel)) rfl
theorem w_2012 : Cond.instanceMethod ⟨"DearLettersModel", "answeredMany", "()I"⟩ ∈ z_tbl := z_tbl_in (List.mem_of_getElem? (i := 2012) (by decide +kernel)) rfl
theorem w_2013 : Cond.code ⟨"DearLettersModel", "answeredMany", "()I"⟩ prog_14_method_63_code 3 (Option.some FieldType.int) ∈ z_tbl := z_tbl_in (List.mem_of_getElem? (i := 2013) (by decide +kernel)) rfl
theorem w_2014 : Cond.methodLink "DearLettersModel" 536 ⟨"DearLettersModel", "takesBack", "()V"⟩ ∈ z_tbl := z_tbl_in (List.mem_of_getElem? (i := 2014) (by decide +kernel)) rfl
theorem w_2016 : Cond.instanceMethod ⟨"DearLettersModel", "takesBack", "()V"⟩ ∈ z_tbl := z_tbl_in (List.mem_of_getElem? (i := 2016) (by decide +kernel)) rfl
theorem w_2017 : Cond.code ⟨"DearLettersModel", "takesBack", "()V"⟩ prog_14_method_61_code 2 none ∈ z_tbl := z_tbl_in (List.mem_of_getElem? (i := 2017) (by decide +kernel)) rfl
theorem w_2026 : Cond.methodLink "DearLettersModel" 542 ⟨"DearLettersModel", "laysSheets", "(I)Z"⟩ ∈ z_tbl := z_tbl_in (List.mem_of_getElem? (i := 2026) (by decide +kernel)) rfl
theorem w_2028 : Cond.instanceMethod ⟨"DearLettersModel", "laysSheets", "(I)Z"⟩ ∈ z_tbl := z_tbl_in (List.mem_of_getElem? (i := 2028) (by decide +kernel)) rfl
theorem w_2029 : Cond.code ⟨"DearLettersModel", "laysSheets", "(I)Z"⟩ prog_14_method_79_code 3 (Option.some FieldType.boolean) ∈ z_tbl := z_tbl_in (List.mem_of_getElem? (i := 2029) (by decide +kernel)) rfl
theorem w_2030 : Cond.methodLink "DearLettersModel" 539 ⟨"DearLettersModel", "isApart", "(I)Z"⟩ ∈ z_tbl := z_tbl_in (List.mem_of_getElem? (i := 2030) (by decide +kernel)) rfl
theorem w_2032 : Cond.instanceMethod ⟨"DearLettersModel", "isApart", "(I)Z"⟩ ∈ z_tbl := z_tbl_in (List.mem_of_getElem? (i := 2032) (by decide +kernel)) rfl
theorem w_2033 : Cond.code ⟨"DearLettersModel", "isApart", "(I)Z"⟩ prog_14_method_78_code 3 (Option.some FieldType.boolean) ∈ z_tbl := z_tbl_in (List.mem_of_getElem? (i := 2033) (by decide +kernel)) rfl
theorem w_2038 : Cond.methodLink "DearLettersModel" 545 ⟨"DearLettersModel", "sharedIn", "()I"⟩ ∈ z_tbl := z_tbl_in (List.mem_of_getElem? (i := 2038) (by decide +kernel)) rfl
theorem w_2040 : Cond.instanceMethod ⟨"DearLettersModel", "sharedIn", "()I"⟩ ∈ z_tbl := z_tbl_in (List.mem_of_getElem? (i := 2040) (by decide +kernel)) rfl
theorem w_2041 : Cond.code ⟨"DearLettersModel", "sharedIn", "()I"⟩ prog_14_method_82_code 3 (Option.some FieldType.int) ∈ z_tbl := z_tbl_in (List.mem_of_getElem? (i := 2041) (by decide +kernel)) rfl
theorem w_2042 : Cond.methodLink "DearLettersModel" 548 ⟨"DearLettersModel", "canGive", "()Z"⟩ ∈ z_tbl := z_tbl_in (List.mem_of_getElem? (i := 2042) (by decide +kernel)) rfl
theorem w_2044 : Cond.instanceMethod ⟨"DearLettersModel", "canGive", "()Z"⟩ ∈ z_tbl := z_tbl_in (List.mem_of_getElem? (i := 2044) (by decide +kernel)) rfl
theorem w_2045 : Cond.code ⟨"DearLettersModel", "canGive", "()Z"⟩ prog_14_method_81_code 2 (Option.some FieldType.boolean) ∈ z_tbl := z_tbl_in (List.mem_of_getElem? (i := 2045) (by decide +kernel)) rfl
theorem w_2050 : Cond.methodLink "DearLettersModel" 551 ⟨"DearLettersModel", "lostBy", "(I)I"⟩ ∈ z_tbl := z_tbl_in (List.mem_of_getElem? (i := 2050) (by decide +kernel)) rfl
theorem w_2052 : Cond.instanceMethod ⟨"DearLettersModel", "lostBy", "(I)I"⟩ ∈ z_tbl := z_tbl_in (List.mem_of_getElem? (i := 2052) (by decide +kernel)) rfl
theorem w_2053 : Cond.code ⟨"DearLettersModel", "lostBy", "(I)I"⟩ prog_14_method_84_code 5 (Option.some FieldType.int) ∈ z_tbl := z_tbl_in (List.mem_of_getElem? (i := 2053) (by decide +kernel)) rfl
theorem w_2058 : Cond.methodLink "DearLettersModel" 554 ⟨"DearLettersModel", "oddsIn", "()J"⟩ ∈ z_tbl := z_tbl_in (List.mem_of_getElem? (i := 2058) (by decide +kernel)) rfl
theorem w_2060 : Cond.instanceMethod ⟨"DearLettersModel", "oddsIn", "()J"⟩ ∈ z_tbl := z_tbl_in (List.mem_of_getElem? (i := 2060) (by decide +kernel)) rfl
theorem w_2061 : Cond.code ⟨"DearLettersModel", "oddsIn", "()J"⟩ prog_14_method_87_code 6 (Option.some FieldType.long) ∈ z_tbl := z_tbl_in (List.mem_of_getElem? (i := 2061) (by decide +kernel)) rfl
theorem w_2062 : Cond.methodLink "DearLettersModel" 557 ⟨"DearLettersModel", "isNextGroups", "()Z"⟩ ∈ z_tbl := z_tbl_in (List.mem_of_getElem? (i := 2062) (by decide +kernel)) rfl
theorem w_2064 : Cond.instanceMethod ⟨"DearLettersModel", "isNextGroups", "()Z"⟩ ∈ z_tbl := z_tbl_in (List.mem_of_getElem? (i := 2064) (by decide +kernel)) rfl
theorem w_2065 : Cond.code ⟨"DearLettersModel", "isNextGroups", "()Z"⟩ prog_14_method_86_code 4 (Option.some FieldType.boolean) ∈ z_tbl := z_tbl_in (List.mem_of_getElem? (i := 2065) (by decide +kernel)) rfl
theorem w_2070 : Cond.methodLink "DearLettersModel" 560 ⟨"DearLettersModel", "refuses", "(I)I"⟩ ∈ z_tbl := z_tbl_in (List.mem_of_getElem? (i := 2070) (by decide +kernel)) rfl
theorem w_2072 : Cond.instanceMethod ⟨"DearLettersModel", "refuses", "(I)I"⟩ ∈ z_tbl := z_tbl_in (List.mem_of_getElem? (i := 2072) (by decide +kernel)) rfl
theorem w_2073 : Cond.code ⟨"DearLettersModel", "refuses", "(I)I"⟩ prog_14_method_89_code 2 (Option.some FieldType.int) ∈ z_tbl := z_tbl_in (List.mem_of_getElem? (i := 2073) (by decide +kernel)) rfl
theorem w_2075 : Cond.instanceMethod ⟨"DearLettersModel", "whose", "()I"⟩ ∈ z_tbl := z_tbl_in (List.mem_of_getElem? (i := 2075) (by decide +kernel)) rfl
theorem w_2076 : Cond.selects "DearLettersModel" ⟨"DearLettersModel", "whose", "()I"⟩ ⟨"DearLettersModel", "whose", "()I"⟩ ∈ z_tbl := z_tbl_in (List.mem_of_getElem? (i := 2076) (by decide +kernel)) rfl
theorem w_2077 : Cond.code ⟨"DearLettersModel", "whose", "()I"⟩ prog_14_method_92_code 3 (Option.some FieldType.int) ∈ z_tbl := z_tbl_in (List.mem_of_getElem? (i := 2077) (by decide +kernel)) rfl
theorem w_2078 : Cond.methodLink "DearLettersModel" 563 ⟨"DearLettersModel", "isAsTold", "(I)Z"⟩ ∈ z_tbl := z_tbl_in (List.mem_of_getElem? (i := 2078) (by decide +kernel)) rfl
theorem w_2080 : Cond.instanceMethod ⟨"DearLettersModel", "isAsTold", "(I)Z"⟩ ∈ z_tbl := z_tbl_in (List.mem_of_getElem? (i := 2080) (by decide +kernel)) rfl
theorem w_2081 : Cond.code ⟨"DearLettersModel", "isAsTold", "(I)Z"⟩ prog_14_method_91_code 3 (Option.some FieldType.boolean) ∈ z_tbl := z_tbl_in (List.mem_of_getElem? (i := 2081) (by decide +kernel)) rfl
theorem w_2086 : Cond.methodLink "DearLettersModel" 566 ⟨"DearLettersModel", "whose", "()I"⟩ ∈ z_tbl := z_tbl_in (List.mem_of_getElem? (i := 2086) (by decide +kernel)) rfl
theorem w_2087 : Cond.methodLink "DearLettersModel" 569 ⟨"DearLettersModel", "mostAlike", "(II)I"⟩ ∈ z_tbl := z_tbl_in (List.mem_of_getElem? (i := 2087) (by decide +kernel)) rfl
theorem w_2089 : Cond.instanceMethod ⟨"DearLettersModel", "mostAlike", "(II)I"⟩ ∈ z_tbl := z_tbl_in (List.mem_of_getElem? (i := 2089) (by decide +kernel)) rfl
theorem w_2090 : Cond.code ⟨"DearLettersModel", "mostAlike", "(II)I"⟩ prog_14_method_93_code 7 (Option.some FieldType.int) ∈ z_tbl := z_tbl_in (List.mem_of_getElem? (i := 2090) (by decide +kernel)) rfl
theorem w_2099 : Cond.methodLink "DearLettersModel" 575 ⟨"DearLettersModel", "keeps", "()V"⟩ ∈ z_tbl := z_tbl_in (List.mem_of_getElem? (i := 2099) (by decide +kernel)) rfl
theorem w_2101 : Cond.instanceMethod ⟨"DearLettersModel", "keeps", "()V"⟩ ∈ z_tbl := z_tbl_in (List.mem_of_getElem? (i := 2101) (by decide +kernel)) rfl
theorem w_2102 : Cond.code ⟨"DearLettersModel", "keeps", "()V"⟩ prog_14_method_95_code 2 none ∈ z_tbl := z_tbl_in (List.mem_of_getElem? (i := 2102) (by decide +kernel)) rfl
theorem w_2107 : Cond.constantLong "DearLettersModel" 578 (4) ∈ z_tbl := z_tbl_in (List.mem_of_getElem? (i := 2107) (by decide +kernel)) rfl
theorem w_2108 : Cond.methodLink "DearLettersModel" 580 ⟨"DearLettersModel", "isSheetNear", "(II)Z"⟩ ∈ z_tbl := z_tbl_in (List.mem_of_getElem? (i := 2108) (by decide +kernel)) rfl
theorem w_2110 : Cond.instanceMethod ⟨"DearLettersModel", "isSheetNear", "(II)Z"⟩ ∈ z_tbl := z_tbl_in (List.mem_of_getElem? (i := 2110) (by decide +kernel)) rfl
theorem w_2111 : Cond.code ⟨"DearLettersModel", "isSheetNear", "(II)Z"⟩ prog_14_method_98_code 4 (Option.some FieldType.boolean) ∈ z_tbl := z_tbl_in (List.mem_of_getElem? (i := 2111) (by decide +kernel)) rfl
theorem w_2128 : Cond.methodLink "DearLettersModel" 591 ⟨"DearLettersModel", "drawOf", "(I)I"⟩ ∈ z_tbl := z_tbl_in (List.mem_of_getElem? (i := 2128) (by decide +kernel)) rfl
theorem w_2130 : Cond.instanceMethod ⟨"DearLettersModel", "drawOf", "(I)I"⟩ ∈ z_tbl := z_tbl_in (List.mem_of_getElem? (i := 2130) (by decide +kernel)) rfl
theorem w_2131 : Cond.code ⟨"DearLettersModel", "drawOf", "(I)I"⟩ prog_14_method_103_code 2 (Option.some FieldType.int) ∈ z_tbl := z_tbl_in (List.mem_of_getElem? (i := 2131) (by decide +kernel)) rfl
theorem w_2132 : Cond.constantLong "DearLettersModel" 583 (1103515245) ∈ z_tbl := z_tbl_in (List.mem_of_getElem? (i := 2132) (by decide +kernel)) rfl
theorem w_2133 : Cond.constantLong "DearLettersModel" 585 (12345) ∈ z_tbl := z_tbl_in (List.mem_of_getElem? (i := 2133) (by decide +kernel)) rfl
theorem w_2134 : Cond.constantLong "DearLettersModel" 587 (2147483648) ∈ z_tbl := z_tbl_in (List.mem_of_getElem? (i := 2134) (by decide +kernel)) rfl
theorem w_2135 : Cond.constantLong "DearLettersModel" 589 (64) ∈ z_tbl := z_tbl_in (List.mem_of_getElem? (i := 2135) (by decide +kernel)) rfl
theorem w_2140 : Cond.methodLink "DearLettersModel" 672 ⟨"DearLettersModel", "qKind", "()I"⟩ ∈ z_tbl := z_tbl_in (List.mem_of_getElem? (i := 2140) (by decide +kernel)) rfl
theorem w_2142 : Cond.instanceMethod ⟨"DearLettersModel", "qKind", "()I"⟩ ∈ z_tbl := z_tbl_in (List.mem_of_getElem? (i := 2142) (by decide +kernel)) rfl
theorem w_2143 : Cond.code ⟨"DearLettersModel", "qKind", "()I"⟩ prog_14_method_131_code 2 (Option.some FieldType.int) ∈ z_tbl := z_tbl_in (List.mem_of_getElem? (i := 2143) (by decide +kernel)) rfl
theorem w_2144 : Cond.methodLink "DearLettersModel" 675 ⟨"DearLettersModel", "qTest", "()V"⟩ ∈ z_tbl := z_tbl_in (List.mem_of_getElem? (i := 2144) (by decide +kernel)) rfl
theorem w_2146 : Cond.instanceMethod ⟨"DearLettersModel", "qTest", "()V"⟩ ∈ z_tbl := z_tbl_in (List.mem_of_getElem? (i := 2146) (by decide +kernel)) rfl
theorem w_2147 : Cond.code ⟨"DearLettersModel", "qTest", "()V"⟩ prog_14_method_122_code 3 none ∈ z_tbl := z_tbl_in (List.mem_of_getElem? (i := 2147) (by decide +kernel)) rfl
theorem w_2148 : Cond.methodLink "DearLettersModel" 636 ⟨"DearLettersModel", "qFact", "()V"⟩ ∈ z_tbl := z_tbl_in (List.mem_of_getElem? (i := 2148) (by decide +kernel)) rfl
theorem w_2150 : Cond.instanceMethod ⟨"DearLettersModel", "qFact", "()V"⟩ ∈ z_tbl := z_tbl_in (List.mem_of_getElem? (i := 2150) (by decide +kernel)) rfl
theorem w_2151 : Cond.code ⟨"DearLettersModel", "qFact", "()V"⟩ prog_14_method_119_code 2 none ∈ z_tbl := z_tbl_in (List.mem_of_getElem? (i := 2151) (by decide +kernel)) rfl
theorem w_2152 : Cond.methodLink "DearLettersModel" 639 ⟨"DearLettersModel", "qDropsNots", "()V"⟩ ∈ z_tbl := z_tbl_in (List.mem_of_getElem? (i := 2152) (by decide +kernel)) rfl
theorem w_2154 : Cond.instanceMethod ⟨"DearLettersModel", "qDropsNots", "()V"⟩ ∈ z_tbl := z_tbl_in (List.mem_of_getElem? (i := 2154) (by decide +kernel)) rfl
theorem w_2155 : Cond.code ⟨"DearLettersModel", "qDropsNots", "()V"⟩ prog_14_method_121_code 1 none ∈ z_tbl := z_tbl_in (List.mem_of_getElem? (i := 2155) (by decide +kernel)) rfl
theorem w_2156 : Cond.methodLink "DearLettersModel" 642 ⟨"DearLettersModel", "qGoesOnTest", "()Z"⟩ ∈ z_tbl := z_tbl_in (List.mem_of_getElem? (i := 2156) (by decide +kernel)) rfl
theorem w_2158 : Cond.instanceMethod ⟨"DearLettersModel", "qGoesOnTest", "()Z"⟩ ∈ z_tbl := z_tbl_in (List.mem_of_getElem? (i := 2158) (by decide +kernel)) rfl
theorem w_2159 : Cond.code ⟨"DearLettersModel", "qGoesOnTest", "()Z"⟩ prog_14_method_123_code 1 (Option.some FieldType.boolean) ∈ z_tbl := z_tbl_in (List.mem_of_getElem? (i := 2159) (by decide +kernel)) rfl
theorem w_2160 : Cond.methodLink "DearLettersModel" 645 ⟨"DearLettersModel", "qHasSquare", "()Z"⟩ ∈ z_tbl := z_tbl_in (List.mem_of_getElem? (i := 2160) (by decide +kernel)) rfl
theorem w_2162 : Cond.instanceMethod ⟨"DearLettersModel", "qHasSquare", "()Z"⟩ ∈ z_tbl := z_tbl_in (List.mem_of_getElem? (i := 2162) (by decide +kernel)) rfl
theorem w_2163 : Cond.code ⟨"DearLettersModel", "qHasSquare", "()Z"⟩ prog_14_method_120_code 2 (Option.some FieldType.boolean) ∈ z_tbl := z_tbl_in (List.mem_of_getElem? (i := 2163) (by decide +kernel)) rfl
theorem w_2164 : Cond.constantLong "DearLettersModel" 667 (-1) ∈ z_tbl := z_tbl_in (List.mem_of_getElem? (i := 2164) (by decide +kernel)) rfl
theorem w_2165 : Cond.methodLink "DearLettersModel" 678 ⟨"DearLettersModel", "qTold", "(I)J"⟩ ∈ z_tbl := z_tbl_in (List.mem_of_getElem? (i := 2165) (by decide +kernel)) rfl
theorem w_2167 : Cond.instanceMethod ⟨"DearLettersModel", "qTold", "(I)J"⟩ ∈ z_tbl := z_tbl_in (List.mem_of_getElem? (i := 2167) (by decide +kernel)) rfl
theorem w_2168 : Cond.code ⟨"DearLettersModel", "qTold", "(I)J"⟩ prog_14_method_130_code 4 (Option.some FieldType.long) ∈ z_tbl := z_tbl_in (List.mem_of_getElem? (i := 2168) (by decide +kernel)) rfl
theorem w_2169 : Cond.methodLink "DearLettersModel" 660 ⟨"DearLettersModel", "qOf", "(IJI)J"⟩ ∈ z_tbl := z_tbl_in (List.mem_of_getElem? (i := 2169) (by decide +kernel)) rfl
theorem w_2171 : Cond.instanceMethod ⟨"DearLettersModel", "qOf", "(IJI)J"⟩ ∈ z_tbl := z_tbl_in (List.mem_of_getElem? (i := 2171) (by decide +kernel)) rfl
theorem w_2172 : Cond.code ⟨"DearLettersModel", "qOf", "(IJI)J"⟩ prog_14_method_129_code 5 (Option.some FieldType.long) ∈ z_tbl := z_tbl_in (List.mem_of_getElem? (i := 2172) (by decide +kernel)) rfl
theorem w_2173 : Cond.methodLink "DearLettersModel" 682 ⟨"DearLettersModel", "qTakes", "(IJI)V"⟩ ∈ z_tbl := z_tbl_in (List.mem_of_getElem? (i := 2173) (by decide +kernel)) rfl

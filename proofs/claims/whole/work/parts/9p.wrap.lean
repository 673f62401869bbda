theorem tw1299 : (Jvm.Cond.classLink "GranaryWatchLaw" (13 : Nat) "java/lang/IndexOutOfBoundsException") ∈ TBG := tb_t 1299 (by decide +kernel) (by decide +kernel)
theorem tw1300 : (Jvm.Cond.methodLink "GranaryWatchLaw" (7 : Nat) ({ cls := "GranaryWatch", name := "catNameByte", desc := "(II)I" } : Jvm.MethodName)) ∈ TBG := tb_t 1300 (by decide +kernel) (by decide +kernel)
theorem tw1301 : (Jvm.Cond.instanceMethod ({ cls := "GranaryWatch", name := "catNameByte", desc := "(II)I" } : Jvm.MethodName)) ∈ TBG := tb_t 1301 (by decide +kernel) (by decide +kernel)
theorem tw1302 : (Jvm.Cond.selects "GranaryWatch" ({ cls := "GranaryWatch", name := "catNameByte", desc := "(II)I" } : Jvm.MethodName) ({ cls := "GranaryWatch", name := "catNameByte", desc := "(II)I" } : Jvm.MethodName)) ∈ TBG := tb_t 1302 (by decide +kernel) (by decide +kernel)
theorem tw1303 : (Jvm.Cond.code ({ cls := "GranaryWatch", name := "catNameByte", desc := "(II)I" } : Jvm.MethodName) prog_1_method_13_code (3 : Nat) (Option.some Jvm.ClassFile.FieldType.int)) ∈ TBG := tb_t 1303 (by decide +kernel) (by decide +kernel)
theorem tw1329 : (Jvm.Cond.methodLink "GranaryWatchLaw" (15 : Nat) ({ cls := "GranaryWatch", name := "sackNameByte", desc := "(II)I" } : Jvm.MethodName)) ∈ TBG := tb_t 1329 (by decide +kernel) (by decide +kernel)
theorem tw1330 : (Jvm.Cond.instanceMethod ({ cls := "GranaryWatch", name := "sackNameByte", desc := "(II)I" } : Jvm.MethodName)) ∈ TBG := tb_t 1330 (by decide +kernel) (by decide +kernel)
theorem tw1331 : (Jvm.Cond.selects "GranaryWatch" ({ cls := "GranaryWatch", name := "sackNameByte", desc := "(II)I" } : Jvm.MethodName) ({ cls := "GranaryWatch", name := "sackNameByte", desc := "(II)I" } : Jvm.MethodName)) ∈ TBG := tb_t 1331 (by decide +kernel) (by decide +kernel)
theorem tw1332 : (Jvm.Cond.code ({ cls := "GranaryWatch", name := "sackNameByte", desc := "(II)I" } : Jvm.MethodName) prog_1_method_14_code (3 : Nat) (Option.some Jvm.ClassFile.FieldType.int)) ∈ TBG := tb_t 1332 (by decide +kernel) (by decide +kernel)
theorem tw1341 : (Jvm.Cond.methodLink "GranaryWatchLaw" (18 : Nat) ({ cls := "GranaryWatch", name := "speedOf", desc := "(I)I" } : Jvm.MethodName)) ∈ TBG := tb_t 1341 (by decide +kernel) (by decide +kernel)
theorem tw1342 : (Jvm.Cond.instanceMethod ({ cls := "GranaryWatch", name := "speedOf", desc := "(I)I" } : Jvm.MethodName)) ∈ TBG := tb_t 1342 (by decide +kernel) (by decide +kernel)
theorem tw1343 : (Jvm.Cond.selects "GranaryWatch" ({ cls := "GranaryWatch", name := "speedOf", desc := "(I)I" } : Jvm.MethodName) ({ cls := "GranaryWatch", name := "speedOf", desc := "(I)I" } : Jvm.MethodName)) ∈ TBG := tb_t 1343 (by decide +kernel) (by decide +kernel)
theorem tw1344 : (Jvm.Cond.code ({ cls := "GranaryWatch", name := "speedOf", desc := "(I)I" } : Jvm.MethodName) prog_1_method_15_code (2 : Nat) (Option.some Jvm.ClassFile.FieldType.int)) ∈ TBG := tb_t 1344 (by decide +kernel) (by decide +kernel)
theorem tw1348 : (Jvm.Cond.methodLink "GranaryWatchLaw" (22 : Nat) ({ cls := "GranaryWatch", name := "isLeftPawed", desc := "(I)Z" } : Jvm.MethodName)) ∈ TBG := tb_t 1348 (by decide +kernel) (by decide +kernel)
theorem tw1349 : (Jvm.Cond.instanceMethod ({ cls := "GranaryWatch", name := "isLeftPawed", desc := "(I)Z" } : Jvm.MethodName)) ∈ TBG := tb_t 1349 (by decide +kernel) (by decide +kernel)
theorem tw1350 : (Jvm.Cond.selects "GranaryWatch" ({ cls := "GranaryWatch", name := "isLeftPawed", desc := "(I)Z" } : Jvm.MethodName) ({ cls := "GranaryWatch", name := "isLeftPawed", desc := "(I)Z" } : Jvm.MethodName)) ∈ TBG := tb_t 1350 (by decide +kernel) (by decide +kernel)
theorem tw1351 : (Jvm.Cond.code ({ cls := "GranaryWatch", name := "isLeftPawed", desc := "(I)Z" } : Jvm.MethodName) prog_1_method_16_code (2 : Nat) (Option.some Jvm.ClassFile.FieldType.boolean)) ∈ TBG := tb_t 1351 (by decide +kernel) (by decide +kernel)
theorem tw1355 : (Jvm.Cond.methodLink "GranaryWatchLaw" (26 : Nat) ({ cls := "GranaryWatch", name := "tirednessOf", desc := "(I)I" } : Jvm.MethodName)) ∈ TBG := tb_t 1355 (by decide +kernel) (by decide +kernel)
theorem tw1356 : (Jvm.Cond.instanceMethod ({ cls := "GranaryWatch", name := "tirednessOf", desc := "(I)I" } : Jvm.MethodName)) ∈ TBG := tb_t 1356 (by decide +kernel) (by decide +kernel)
theorem tw1357 : (Jvm.Cond.selects "GranaryWatch" ({ cls := "GranaryWatch", name := "tirednessOf", desc := "(I)I" } : Jvm.MethodName) ({ cls := "GranaryWatch", name := "tirednessOf", desc := "(I)I" } : Jvm.MethodName)) ∈ TBG := tb_t 1357 (by decide +kernel) (by decide +kernel)
theorem tw1358 : (Jvm.Cond.code ({ cls := "GranaryWatch", name := "tirednessOf", desc := "(I)I" } : Jvm.MethodName) prog_1_method_17_code (2 : Nat) (Option.some Jvm.ClassFile.FieldType.int)) ∈ TBG := tb_t 1358 (by decide +kernel) (by decide +kernel)
theorem tw1362 : (Jvm.Cond.methodLink "GranaryWatchLaw" (29 : Nat) ({ cls := "GranaryWatch", name := "strengthOf", desc := "(I)I" } : Jvm.MethodName)) ∈ TBG := tb_t 1362 (by decide +kernel) (by decide +kernel)
theorem tw1363 : (Jvm.Cond.instanceMethod ({ cls := "GranaryWatch", name := "strengthOf", desc := "(I)I" } : Jvm.MethodName)) ∈ TBG := tb_t 1363 (by decide +kernel) (by decide +kernel)
theorem tw1364 : (Jvm.Cond.selects "GranaryWatch" ({ cls := "GranaryWatch", name := "strengthOf", desc := "(I)I" } : Jvm.MethodName) ({ cls := "GranaryWatch", name := "strengthOf", desc := "(I)I" } : Jvm.MethodName)) ∈ TBG := tb_t 1364 (by decide +kernel) (by decide +kernel)
theorem tw1365 : (Jvm.Cond.code ({ cls := "GranaryWatch", name := "strengthOf", desc := "(I)I" } : Jvm.MethodName) prog_1_method_18_code (2 : Nat) (Option.some Jvm.ClassFile.FieldType.int)) ∈ TBG := tb_t 1365 (by decide +kernel) (by decide +kernel)
theorem tw1370 : (Jvm.Cond.methodLink "GranaryWatchLaw" (32 : Nat) ({ cls := "GranaryWatch", name := "caughtBy", desc := "(I)I" } : Jvm.MethodName)) ∈ TBG := tb_t 1370 (by decide +kernel) (by decide +kernel)
theorem tw1371 : (Jvm.Cond.instanceMethod ({ cls := "GranaryWatch", name := "caughtBy", desc := "(I)I" } : Jvm.MethodName)) ∈ TBG := tb_t 1371 (by decide +kernel) (by decide +kernel)
theorem tw1372 : (Jvm.Cond.selects "GranaryWatch" ({ cls := "GranaryWatch", name := "caughtBy", desc := "(I)I" } : Jvm.MethodName) ({ cls := "GranaryWatch", name := "caughtBy", desc := "(I)I" } : Jvm.MethodName)) ∈ TBG := tb_t 1372 (by decide +kernel) (by decide +kernel)
theorem tw1373 : (Jvm.Cond.code ({ cls := "GranaryWatch", name := "caughtBy", desc := "(I)I" } : Jvm.MethodName) prog_1_method_19_code (2 : Nat) (Option.some Jvm.ClassFile.FieldType.int)) ∈ TBG := tb_t 1373 (by decide +kernel) (by decide +kernel)
theorem tw1377 : (Jvm.Cond.methodLink "GranaryWatchLaw" (35 : Nat) ({ cls := "GranaryWatch", name := "oathsOf", desc := "(I)I" } : Jvm.MethodName)) ∈ TBG := tb_t 1377 (by decide +kernel) (by decide +kernel)
theorem tw1378 : (Jvm.Cond.instanceMethod ({ cls := "GranaryWatch", name := "oathsOf", desc := "(I)I" } : Jvm.MethodName)) ∈ TBG := tb_t 1378 (by decide +kernel) (by decide +kernel)
theorem tw1379 : (Jvm.Cond.selects "GranaryWatch" ({ cls := "GranaryWatch", name := "oathsOf", desc := "(I)I" } : Jvm.MethodName) ({ cls := "GranaryWatch", name := "oathsOf", desc := "(I)I" } : Jvm.MethodName)) ∈ TBG := tb_t 1379 (by decide +kernel) (by decide +kernel)
theorem tw1380 : (Jvm.Cond.code ({ cls := "GranaryWatch", name := "oathsOf", desc := "(I)I" } : Jvm.MethodName) prog_1_method_20_code (2 : Nat) (Option.some Jvm.ClassFile.FieldType.int)) ∈ TBG := tb_t 1380 (by decide +kernel) (by decide +kernel)
theorem tw1384 : (Jvm.Cond.methodLink "GranaryWatchLaw" (38 : Nat) ({ cls := "GranaryWatch", name := "grainIn", desc := "(I)I" } : Jvm.MethodName)) ∈ TBG := tb_t 1384 (by decide +kernel) (by decide +kernel)
theorem tw1385 : (Jvm.Cond.instanceMethod ({ cls := "GranaryWatch", name := "grainIn", desc := "(I)I" } : Jvm.MethodName)) ∈ TBG := tb_t 1385 (by decide +kernel) (by decide +kernel)
theorem tw1386 : (Jvm.Cond.selects "GranaryWatch" ({ cls := "GranaryWatch", name := "grainIn", desc := "(I)I" } : Jvm.MethodName) ({ cls := "GranaryWatch", name := "grainIn", desc := "(I)I" } : Jvm.MethodName)) ∈ TBG := tb_t 1386 (by decide +kernel) (by decide +kernel)
theorem tw1387 : (Jvm.Cond.code ({ cls := "GranaryWatch", name := "grainIn", desc := "(I)I" } : Jvm.MethodName) prog_1_method_21_code (2 : Nat) (Option.some Jvm.ClassFile.FieldType.int)) ∈ TBG := tb_t 1387 (by decide +kernel) (by decide +kernel)
theorem tw1391 : (Jvm.Cond.methodLink "GranaryWatchLaw" (41 : Nat) ({ cls := "GranaryWatch", name := "miceIn", desc := "(I)I" } : Jvm.MethodName)) ∈ TBG := tb_t 1391 (by decide +kernel) (by decide +kernel)
theorem tw1392 : (Jvm.Cond.instanceMethod ({ cls := "GranaryWatch", name := "miceIn", desc := "(I)I" } : Jvm.MethodName)) ∈ TBG := tb_t 1392 (by decide +kernel) (by decide +kernel)
theorem tw1393 : (Jvm.Cond.selects "GranaryWatch" ({ cls := "GranaryWatch", name := "miceIn", desc := "(I)I" } : Jvm.MethodName) ({ cls := "GranaryWatch", name := "miceIn", desc := "(I)I" } : Jvm.MethodName)) ∈ TBG := tb_t 1393 (by decide +kernel) (by decide +kernel)
theorem tw1394 : (Jvm.Cond.code ({ cls := "GranaryWatch", name := "miceIn", desc := "(I)I" } : Jvm.MethodName) prog_1_method_22_code (2 : Nat) (Option.some Jvm.ClassFile.FieldType.int)) ∈ TBG := tb_t 1394 (by decide +kernel) (by decide +kernel)
theorem tw1398 : (Jvm.Cond.methodLink "GranaryWatchLaw" (44 : Nat) ({ cls := "GranaryWatch", name := "isOpen", desc := "(I)Z" } : Jvm.MethodName)) ∈ TBG := tb_t 1398 (by decide +kernel) (by decide +kernel)
theorem tw1399 : (Jvm.Cond.instanceMethod ({ cls := "GranaryWatch", name := "isOpen", desc := "(I)Z" } : Jvm.MethodName)) ∈ TBG := tb_t 1399 (by decide +kernel) (by decide +kernel)
theorem tw1400 : (Jvm.Cond.selects "GranaryWatch" ({ cls := "GranaryWatch", name := "isOpen", desc := "(I)Z" } : Jvm.MethodName) ({ cls := "GranaryWatch", name := "isOpen", desc := "(I)Z" } : Jvm.MethodName)) ∈ TBG := tb_t 1400 (by decide +kernel) (by decide +kernel)
theorem tw1401 : (Jvm.Cond.code ({ cls := "GranaryWatch", name := "isOpen", desc := "(I)Z" } : Jvm.MethodName) prog_1_method_23_code (2 : Nat) (Option.some Jvm.ClassFile.FieldType.boolean)) ∈ TBG := tb_t 1401 (by decide +kernel) (by decide +kernel)
theorem tw1405 : (Jvm.Cond.methodLink "GranaryWatchLaw" (47 : Nat) ({ cls := "GranaryWatch", name := "eatenFrom", desc := "(I)I" } : Jvm.MethodName)) ∈ TBG := tb_t 1405 (by decide +kernel) (by decide +kernel)
theorem tw1406 : (Jvm.Cond.instanceMethod ({ cls := "GranaryWatch", name := "eatenFrom", desc := "(I)I" } : Jvm.MethodName)) ∈ TBG := tb_t 1406 (by decide +kernel) (by decide +kernel)
theorem tw1407 : (Jvm.Cond.selects "GranaryWatch" ({ cls := "GranaryWatch", name := "eatenFrom", desc := "(I)I" } : Jvm.MethodName) ({ cls := "GranaryWatch", name := "eatenFrom", desc := "(I)I" } : Jvm.MethodName)) ∈ TBG := tb_t 1407 (by decide +kernel) (by decide +kernel)
theorem tw1408 : (Jvm.Cond.code ({ cls := "GranaryWatch", name := "eatenFrom", desc := "(I)I" } : Jvm.MethodName) prog_1_method_24_code (2 : Nat) (Option.some Jvm.ClassFile.FieldType.int)) ∈ TBG := tb_t 1408 (by decide +kernel) (by decide +kernel)
theorem tw1412 : (Jvm.Cond.methodLink "GranaryWatchLaw" (50 : Nat) ({ cls := "GranaryWatch", name := "catOfShift", desc := "(I)I" } : Jvm.MethodName)) ∈ TBG := tb_t 1412 (by decide +kernel) (by decide +kernel)
theorem tw1413 : (Jvm.Cond.instanceMethod ({ cls := "GranaryWatch", name := "catOfShift", desc := "(I)I" } : Jvm.MethodName)) ∈ TBG := tb_t 1413 (by decide +kernel) (by decide +kernel)
theorem tw1414 : (Jvm.Cond.selects "GranaryWatch" ({ cls := "GranaryWatch", name := "catOfShift", desc := "(I)I" } : Jvm.MethodName) ({ cls := "GranaryWatch", name := "catOfShift", desc := "(I)I" } : Jvm.MethodName)) ∈ TBG := tb_t 1414 (by decide +kernel) (by decide +kernel)
theorem tw1415 : (Jvm.Cond.code ({ cls := "GranaryWatch", name := "catOfShift", desc := "(I)I" } : Jvm.MethodName) prog_1_method_28_code (2 : Nat) (Option.some Jvm.ClassFile.FieldType.int)) ∈ TBG := tb_t 1415 (by decide +kernel) (by decide +kernel)
theorem tw1424 : (Jvm.Cond.methodLink "GranaryWatchLaw" (53 : Nat) ({ cls := "GranaryWatch", name := "hoursOfShift", desc := "(I)I" } : Jvm.MethodName)) ∈ TBG := tb_t 1424 (by decide +kernel) (by decide +kernel)
theorem tw1425 : (Jvm.Cond.instanceMethod ({ cls := "GranaryWatch", name := "hoursOfShift", desc := "(I)I" } : Jvm.MethodName)) ∈ TBG := tb_t 1425 (by decide +kernel) (by decide +kernel)
theorem tw1426 : (Jvm.Cond.selects "GranaryWatch" ({ cls := "GranaryWatch", name := "hoursOfShift", desc := "(I)I" } : Jvm.MethodName) ({ cls := "GranaryWatch", name := "hoursOfShift", desc := "(I)I" } : Jvm.MethodName)) ∈ TBG := tb_t 1426 (by decide +kernel) (by decide +kernel)
theorem tw1427 : (Jvm.Cond.code ({ cls := "GranaryWatch", name := "hoursOfShift", desc := "(I)I" } : Jvm.MethodName) prog_1_method_29_code (2 : Nat) (Option.some Jvm.ClassFile.FieldType.int)) ∈ TBG := tb_t 1427 (by decide +kernel) (by decide +kernel)
theorem tw1431 : (Jvm.Cond.methodLink "GranaryWatchLaw" (56 : Nat) ({ cls := "GranaryWatch", name := "oathReason", desc := "(I)I" } : Jvm.MethodName)) ∈ TBG := tb_t 1431 (by decide +kernel) (by decide +kernel)
theorem tw1432 : (Jvm.Cond.instanceMethod ({ cls := "GranaryWatch", name := "oathReason", desc := "(I)I" } : Jvm.MethodName)) ∈ TBG := tb_t 1432 (by decide +kernel) (by decide +kernel)
theorem tw1433 : (Jvm.Cond.selects "GranaryWatch" ({ cls := "GranaryWatch", name := "oathReason", desc := "(I)I" } : Jvm.MethodName) ({ cls := "GranaryWatch", name := "oathReason", desc := "(I)I" } : Jvm.MethodName)) ∈ TBG := tb_t 1433 (by decide +kernel) (by decide +kernel)
theorem tw1434 : (Jvm.Cond.code ({ cls := "GranaryWatch", name := "oathReason", desc := "(I)I" } : Jvm.MethodName) prog_1_method_30_code (2 : Nat) (Option.some Jvm.ClassFile.FieldType.int)) ∈ TBG := tb_t 1434 (by decide +kernel) (by decide +kernel)
theorem tw1439 : (Jvm.Cond.classLink "GranaryWatchLaw" (62 : Nat) "java/lang/IllegalArgumentException") ∈ TBG := tb_t 1439 (by decide +kernel) (by decide +kernel)
theorem tw1440 : (Jvm.Cond.methodLink "GranaryWatchLaw" (59 : Nat) ({ cls := "GranaryWatch", name := "miceAfter", desc := "(II)I" } : Jvm.MethodName)) ∈ TBG := tb_t 1440 (by decide +kernel) (by decide +kernel)
theorem tw1441 : (Jvm.Cond.instanceMethod ({ cls := "GranaryWatch", name := "miceAfter", desc := "(II)I" } : Jvm.MethodName)) ∈ TBG := tb_t 1441 (by decide +kernel) (by decide +kernel)
theorem tw1442 : (Jvm.Cond.selects "GranaryWatch" ({ cls := "GranaryWatch", name := "miceAfter", desc := "(II)I" } : Jvm.MethodName) ({ cls := "GranaryWatch", name := "miceAfter", desc := "(II)I" } : Jvm.MethodName)) ∈ TBG := tb_t 1442 (by decide +kernel) (by decide +kernel)
theorem tw1443 : (Jvm.Cond.code ({ cls := "GranaryWatch", name := "miceAfter", desc := "(II)I" } : Jvm.MethodName) prog_1_method_37_code (3 : Nat) (Option.some Jvm.ClassFile.FieldType.int)) ∈ TBG := tb_t 1443 (by decide +kernel) (by decide +kernel)
theorem tw1458 : (Jvm.Cond.methodLink "GranaryWatchLaw" (64 : Nat) ({ cls := "GranaryWatch", name := "grainAfter", desc := "(II)I" } : Jvm.MethodName)) ∈ TBG := tb_t 1458 (by decide +kernel) (by decide +kernel)
theorem tw1459 : (Jvm.Cond.instanceMethod ({ cls := "GranaryWatch", name := "grainAfter", desc := "(II)I" } : Jvm.MethodName)) ∈ TBG := tb_t 1459 (by decide +kernel) (by decide +kernel)
theorem tw1460 : (Jvm.Cond.selects "GranaryWatch" ({ cls := "GranaryWatch", name := "grainAfter", desc := "(II)I" } : Jvm.MethodName) ({ cls := "GranaryWatch", name := "grainAfter", desc := "(II)I" } : Jvm.MethodName)) ∈ TBG := tb_t 1460 (by decide +kernel) (by decide +kernel)
theorem tw1461 : (Jvm.Cond.code ({ cls := "GranaryWatch", name := "grainAfter", desc := "(II)I" } : Jvm.MethodName) prog_1_method_38_code (3 : Nat) (Option.some Jvm.ClassFile.FieldType.int)) ∈ TBG := tb_t 1461 (by decide +kernel) (by decide +kernel)
theorem tw1465 : (Jvm.Cond.methodLink "GranaryWatchLaw" (67 : Nat) ({ cls := "GranaryWatch", name := "swornAfter", desc := "(I)I" } : Jvm.MethodName)) ∈ TBG := tb_t 1465 (by decide +kernel) (by decide +kernel)
theorem tw1466 : (Jvm.Cond.instanceMethod ({ cls := "GranaryWatch", name := "swornAfter", desc := "(I)I" } : Jvm.MethodName)) ∈ TBG := tb_t 1466 (by decide +kernel) (by decide +kernel)
theorem tw1467 : (Jvm.Cond.selects "GranaryWatch" ({ cls := "GranaryWatch", name := "swornAfter", desc := "(I)I" } : Jvm.MethodName) ({ cls := "GranaryWatch", name := "swornAfter", desc := "(I)I" } : Jvm.MethodName)) ∈ TBG := tb_t 1467 (by decide +kernel) (by decide +kernel)
theorem tw1468 : (Jvm.Cond.code ({ cls := "GranaryWatch", name := "swornAfter", desc := "(I)I" } : Jvm.MethodName) prog_1_method_39_code (2 : Nat) (Option.some Jvm.ClassFile.FieldType.int)) ∈ TBG := tb_t 1468 (by decide +kernel) (by decide +kernel)
theorem tw1472 : (Jvm.Cond.methodLink "GranaryWatchLaw" (70 : Nat) ({ cls := "GranaryWatch", name := "hoursUntilEmpty", desc := "(I)I" } : Jvm.MethodName)) ∈ TBG := tb_t 1472 (by decide +kernel) (by decide +kernel)
theorem tw1473 : (Jvm.Cond.instanceMethod ({ cls := "GranaryWatch", name := "hoursUntilEmpty", desc := "(I)I" } : Jvm.MethodName)) ∈ TBG := tb_t 1473 (by decide +kernel) (by decide +kernel)
theorem tw1474 : (Jvm.Cond.selects "GranaryWatch" ({ cls := "GranaryWatch", name := "hoursUntilEmpty", desc := "(I)I" } : Jvm.MethodName) ({ cls := "GranaryWatch", name := "hoursUntilEmpty", desc := "(I)I" } : Jvm.MethodName)) ∈ TBG := tb_t 1474 (by decide +kernel) (by decide +kernel)
theorem tw1475 : (Jvm.Cond.code ({ cls := "GranaryWatch", name := "hoursUntilEmpty", desc := "(I)I" } : Jvm.MethodName) prog_1_method_41_code (3 : Nat) (Option.some Jvm.ClassFile.FieldType.int)) ∈ TBG := tb_t 1475 (by decide +kernel) (by decide +kernel)
theorem tw1479 : (Jvm.Cond.methodLink "GranaryWatchLaw" (73 : Nat) ({ cls := "GranaryWatch", name := "caughtWithin", desc := "(I)I" } : Jvm.MethodName)) ∈ TBG := tb_t 1479 (by decide +kernel) (by decide +kernel)
theorem tw1480 : (Jvm.Cond.instanceMethod ({ cls := "GranaryWatch", name := "caughtWithin", desc := "(I)I" } : Jvm.MethodName)) ∈ TBG := tb_t 1480 (by decide +kernel) (by decide +kernel)
theorem tw1481 : (Jvm.Cond.selects "GranaryWatch" ({ cls := "GranaryWatch", name := "caughtWithin", desc := "(I)I" } : Jvm.MethodName) ({ cls := "GranaryWatch", name := "caughtWithin", desc := "(I)I" } : Jvm.MethodName)) ∈ TBG := tb_t 1481 (by decide +kernel) (by decide +kernel)
theorem tw1482 : (Jvm.Cond.code ({ cls := "GranaryWatch", name := "caughtWithin", desc := "(I)I" } : Jvm.MethodName) prog_1_method_42_code (2 : Nat) (Option.some Jvm.ClassFile.FieldType.int)) ∈ TBG := tb_t 1482 (by decide +kernel) (by decide +kernel)
theorem tw1486 : (Jvm.Cond.methodLink "GranaryWatchLaw" (76 : Nat) ({ cls := "GranaryWatch", name := "bestFlapToChange", desc := "(I)I" } : Jvm.MethodName)) ∈ TBG := tb_t 1486 (by decide +kernel) (by decide +kernel)
theorem tw1487 : (Jvm.Cond.instanceMethod ({ cls := "GranaryWatch", name := "bestFlapToChange", desc := "(I)I" } : Jvm.MethodName)) ∈ TBG := tb_t 1487 (by decide +kernel) (by decide +kernel)
theorem tw1488 : (Jvm.Cond.selects "GranaryWatch" ({ cls := "GranaryWatch", name := "bestFlapToChange", desc := "(I)I" } : Jvm.MethodName) ({ cls := "GranaryWatch", name := "bestFlapToChange", desc := "(I)I" } : Jvm.MethodName)) ∈ TBG := tb_t 1488 (by decide +kernel) (by decide +kernel)
theorem tw1489 : (Jvm.Cond.code ({ cls := "GranaryWatch", name := "bestFlapToChange", desc := "(I)I" } : Jvm.MethodName) prog_1_method_43_code (6 : Nat) (Option.some Jvm.ClassFile.FieldType.int)) ∈ TBG := tb_t 1489 (by decide +kernel) (by decide +kernel)
theorem tw1498 : (Jvm.Cond.methodLink "GranaryWatchLaw" (79 : Nat) ({ cls := "GranaryWatch", name := "shareOf", desc := "(I)F" } : Jvm.MethodName)) ∈ TBG := tb_t 1498 (by decide +kernel) (by decide +kernel)
theorem tw1499 : (Jvm.Cond.instanceMethod ({ cls := "GranaryWatch", name := "shareOf", desc := "(I)F" } : Jvm.MethodName)) ∈ TBG := tb_t 1499 (by decide +kernel) (by decide +kernel)
theorem tw1500 : (Jvm.Cond.selects "GranaryWatch" ({ cls := "GranaryWatch", name := "shareOf", desc := "(I)F" } : Jvm.MethodName) ({ cls := "GranaryWatch", name := "shareOf", desc := "(I)F" } : Jvm.MethodName)) ∈ TBG := tb_t 1500 (by decide +kernel) (by decide +kernel)
theorem tw1501 : (Jvm.Cond.code ({ cls := "GranaryWatch", name := "shareOf", desc := "(I)F" } : Jvm.MethodName) prog_1_method_52_code (3 : Nat) (Option.some Jvm.ClassFile.FieldType.float)) ∈ TBG := tb_t 1501 (by decide +kernel) (by decide +kernel)
theorem tw1505 : (Jvm.Cond.classLink "GranaryWatchLaw" (86 : Nat) "java/lang/IllegalStateException") ∈ TBG := tb_t 1505 (by decide +kernel) (by decide +kernel)
theorem tw1506 : (Jvm.Cond.methodLink "GranaryWatchLaw" (83 : Nat) ({ cls := "GranaryWatch", name := "letPass", desc := "(I)I" } : Jvm.MethodName)) ∈ TBG := tb_t 1506 (by decide +kernel) (by decide +kernel)
theorem tw1507 : (Jvm.Cond.instanceMethod ({ cls := "GranaryWatch", name := "letPass", desc := "(I)I" } : Jvm.MethodName)) ∈ TBG := tb_t 1507 (by decide +kernel) (by decide +kernel)
theorem tw1508 : (Jvm.Cond.selects "GranaryWatch" ({ cls := "GranaryWatch", name := "letPass", desc := "(I)I" } : Jvm.MethodName) ({ cls := "GranaryWatch", name := "letPass", desc := "(I)I" } : Jvm.MethodName)) ∈ TBG := tb_t 1508 (by decide +kernel) (by decide +kernel)
theorem tw1509 : (Jvm.Cond.code ({ cls := "GranaryWatch", name := "letPass", desc := "(I)I" } : Jvm.MethodName) prog_1_method_53_code (2 : Nat) (Option.some Jvm.ClassFile.FieldType.int)) ∈ TBG := tb_t 1509 (by decide +kernel) (by decide +kernel)
theorem tw1535 : (Jvm.Cond.methodLink "GranaryWatchLaw" (88 : Nat) ({ cls := "GranaryWatch", name := "openFlap", desc := "(I)I" } : Jvm.MethodName)) ∈ TBG := tb_t 1535 (by decide +kernel) (by decide +kernel)
theorem tw1536 : (Jvm.Cond.instanceMethod ({ cls := "GranaryWatch", name := "openFlap", desc := "(I)I" } : Jvm.MethodName)) ∈ TBG := tb_t 1536 (by decide +kernel) (by decide +kernel)
theorem tw1537 : (Jvm.Cond.selects "GranaryWatch" ({ cls := "GranaryWatch", name := "openFlap", desc := "(I)I" } : Jvm.MethodName) ({ cls := "GranaryWatch", name := "openFlap", desc := "(I)I" } : Jvm.MethodName)) ∈ TBG := tb_t 1537 (by decide +kernel) (by decide +kernel)
theorem tw1538 : (Jvm.Cond.code ({ cls := "GranaryWatch", name := "openFlap", desc := "(I)I" } : Jvm.MethodName) prog_1_method_54_code (2 : Nat) (Option.some Jvm.ClassFile.FieldType.int)) ∈ TBG := tb_t 1538 (by decide +kernel) (by decide +kernel)
theorem tw1542 : (Jvm.Cond.methodLink "GranaryWatchLaw" (91 : Nat) ({ cls := "GranaryWatch", name := "shutFlap", desc := "(I)I" } : Jvm.MethodName)) ∈ TBG := tb_t 1542 (by decide +kernel) (by decide +kernel)
theorem tw1543 : (Jvm.Cond.instanceMethod ({ cls := "GranaryWatch", name := "shutFlap", desc := "(I)I" } : Jvm.MethodName)) ∈ TBG := tb_t 1543 (by decide +kernel) (by decide +kernel)
theorem tw1544 : (Jvm.Cond.selects "GranaryWatch" ({ cls := "GranaryWatch", name := "shutFlap", desc := "(I)I" } : Jvm.MethodName) ({ cls := "GranaryWatch", name := "shutFlap", desc := "(I)I" } : Jvm.MethodName)) ∈ TBG := tb_t 1544 (by decide +kernel) (by decide +kernel)
theorem tw1545 : (Jvm.Cond.code ({ cls := "GranaryWatch", name := "shutFlap", desc := "(I)I" } : Jvm.MethodName) prog_1_method_55_code (2 : Nat) (Option.some Jvm.ClassFile.FieldType.int)) ∈ TBG := tb_t 1545 (by decide +kernel) (by decide +kernel)
theorem tw1549 : (Jvm.Cond.methodLink "GranaryWatchLaw" (94 : Nat) ({ cls := "GranaryWatch", name := "addMice", desc := "(II)I" } : Jvm.MethodName)) ∈ TBG := tb_t 1549 (by decide +kernel) (by decide +kernel)
theorem tw1550 : (Jvm.Cond.instanceMethod ({ cls := "GranaryWatch", name := "addMice", desc := "(II)I" } : Jvm.MethodName)) ∈ TBG := tb_t 1550 (by decide +kernel) (by decide +kernel)
theorem tw1551 : (Jvm.Cond.selects "GranaryWatch" ({ cls := "GranaryWatch", name := "addMice", desc := "(II)I" } : Jvm.MethodName) ({ cls := "GranaryWatch", name := "addMice", desc := "(II)I" } : Jvm.MethodName)) ∈ TBG := tb_t 1551 (by decide +kernel) (by decide +kernel)
theorem tw1552 : (Jvm.Cond.code ({ cls := "GranaryWatch", name := "addMice", desc := "(II)I" } : Jvm.MethodName) prog_1_method_56_code (3 : Nat) (Option.some Jvm.ClassFile.FieldType.int)) ∈ TBG := tb_t 1552 (by decide +kernel) (by decide +kernel)
theorem tw1556 : (Jvm.Cond.methodLink "GranaryWatchLaw" (97 : Nat) ({ cls := "GranaryWatch", name := "addGrain", desc := "(II)I" } : Jvm.MethodName)) ∈ TBG := tb_t 1556 (by decide +kernel) (by decide +kernel)
theorem tw1557 : (Jvm.Cond.instanceMethod ({ cls := "GranaryWatch", name := "addGrain", desc := "(II)I" } : Jvm.MethodName)) ∈ TBG := tb_t 1557 (by decide +kernel) (by decide +kernel)
theorem tw1558 : (Jvm.Cond.selects "GranaryWatch" ({ cls := "GranaryWatch", name := "addGrain", desc := "(II)I" } : Jvm.MethodName) ({ cls := "GranaryWatch", name := "addGrain", desc := "(II)I" } : Jvm.MethodName)) ∈ TBG := tb_t 1558 (by decide +kernel) (by decide +kernel)
theorem tw1559 : (Jvm.Cond.code ({ cls := "GranaryWatch", name := "addGrain", desc := "(II)I" } : Jvm.MethodName) prog_1_method_57_code (3 : Nat) (Option.some Jvm.ClassFile.FieldType.int)) ∈ TBG := tb_t 1559 (by decide +kernel) (by decide +kernel)
theorem tw1563 : (Jvm.Cond.methodLink "GranaryWatchLaw" (100 : Nat) ({ cls := "GranaryWatch", name := "dismiss", desc := "()I" } : Jvm.MethodName)) ∈ TBG := tb_t 1563 (by decide +kernel) (by decide +kernel)
theorem tw1564 : (Jvm.Cond.instanceMethod ({ cls := "GranaryWatch", name := "dismiss", desc := "()I" } : Jvm.MethodName)) ∈ TBG := tb_t 1564 (by decide +kernel) (by decide +kernel)
theorem tw1565 : (Jvm.Cond.selects "GranaryWatch" ({ cls := "GranaryWatch", name := "dismiss", desc := "()I" } : Jvm.MethodName) ({ cls := "GranaryWatch", name := "dismiss", desc := "()I" } : Jvm.MethodName)) ∈ TBG := tb_t 1565 (by decide +kernel) (by decide +kernel)
theorem tw1566 : (Jvm.Cond.code ({ cls := "GranaryWatch", name := "dismiss", desc := "()I" } : Jvm.MethodName) prog_1_method_58_code (1 : Nat) (Option.some Jvm.ClassFile.FieldType.int)) ∈ TBG := tb_t 1566 (by decide +kernel) (by decide +kernel)
theorem tw1570 : (Jvm.Cond.methodLink "GranaryWatchLaw" (104 : Nat) ({ cls := "GranaryWatch", name := "setMilk", desc := "(I)I" } : Jvm.MethodName)) ∈ TBG := tb_t 1570 (by decide +kernel) (by decide +kernel)
theorem tw1571 : (Jvm.Cond.instanceMethod ({ cls := "GranaryWatch", name := "setMilk", desc := "(I)I" } : Jvm.MethodName)) ∈ TBG := tb_t 1571 (by decide +kernel) (by decide +kernel)
theorem tw1572 : (Jvm.Cond.selects "GranaryWatch" ({ cls := "GranaryWatch", name := "setMilk", desc := "(I)I" } : Jvm.MethodName) ({ cls := "GranaryWatch", name := "setMilk", desc := "(I)I" } : Jvm.MethodName)) ∈ TBG := tb_t 1572 (by decide +kernel) (by decide +kernel)
theorem tw1573 : (Jvm.Cond.code ({ cls := "GranaryWatch", name := "setMilk", desc := "(I)I" } : Jvm.MethodName) prog_1_method_59_code (2 : Nat) (Option.some Jvm.ClassFile.FieldType.int)) ∈ TBG := tb_t 1573 (by decide +kernel) (by decide +kernel)
theorem tw1577 : (Jvm.Cond.classLink "GranaryWatchLaw" (110 : Nat) "java/util/NoSuchElementException") ∈ TBG := tb_t 1577 (by decide +kernel) (by decide +kernel)
theorem tw1578 : (Jvm.Cond.methodLink "GranaryWatchLaw" (107 : Nat) ({ cls := "GranaryWatch", name := "undo", desc := "()I" } : Jvm.MethodName)) ∈ TBG := tb_t 1578 (by decide +kernel) (by decide +kernel)
theorem tw1579 : (Jvm.Cond.instanceMethod ({ cls := "GranaryWatch", name := "undo", desc := "()I" } : Jvm.MethodName)) ∈ TBG := tb_t 1579 (by decide +kernel) (by decide +kernel)
theorem tw1580 : (Jvm.Cond.selects "GranaryWatch" ({ cls := "GranaryWatch", name := "undo", desc := "()I" } : Jvm.MethodName) ({ cls := "GranaryWatch", name := "undo", desc := "()I" } : Jvm.MethodName)) ∈ TBG := tb_t 1580 (by decide +kernel) (by decide +kernel)
theorem tw1581 : (Jvm.Cond.code ({ cls := "GranaryWatch", name := "undo", desc := "()I" } : Jvm.MethodName) prog_1_method_60_code (1 : Nat) (Option.some Jvm.ClassFile.FieldType.int)) ∈ TBG := tb_t 1581 (by decide +kernel) (by decide +kernel)
theorem tw1602 : (Jvm.Cond.methodLink "GranaryWatchLaw" (112 : Nat) ({ cls := "GranaryWatch", name := "restoreState", desc := "()I" } : Jvm.MethodName)) ∈ TBG := tb_t 1602 (by decide +kernel) (by decide +kernel)
theorem tw1603 : (Jvm.Cond.instanceMethod ({ cls := "GranaryWatch", name := "restoreState", desc := "()I" } : Jvm.MethodName)) ∈ TBG := tb_t 1603 (by decide +kernel) (by decide +kernel)
theorem tw1604 : (Jvm.Cond.selects "GranaryWatch" ({ cls := "GranaryWatch", name := "restoreState", desc := "()I" } : Jvm.MethodName) ({ cls := "GranaryWatch", name := "restoreState", desc := "()I" } : Jvm.MethodName)) ∈ TBG := tb_t 1604 (by decide +kernel) (by decide +kernel)
theorem tw1605 : (Jvm.Cond.code ({ cls := "GranaryWatch", name := "restoreState", desc := "()I" } : Jvm.MethodName) prog_1_method_64_code (1 : Nat) (Option.some Jvm.ClassFile.FieldType.int)) ∈ TBG := tb_t 1605 (by decide +kernel) (by decide +kernel)
/-! the law's methods that catch -/
theorem gMetR_IA {X : Type} {P : X → State → Heap → Prop} {KS : State → Prop} {l : Launch} {y : MethodName} {c : ByteArray} {n : Nat} {ret : Option FieldType} {lev : Nat} {av : List Value} {S : X} {r : Int32} {Ω : Nat → Prop} (hO : gOK P KS) (h : gMetR l y c n ret lev (gB P KS S) av r) : gMetIA l y c n ret lev 0 0 Ω P KS av S r S := fun sz => fun p e ha h1 h2 s m args below hf hs hP hK => by
  obtain ⟨q0, q1, q2, q3⟩ := hP
  obtain ⟨n, o, a, b, c, d1, L, d2, d3⟩ := h p e ha h1 h2 s m args below hf hs ⟨q0, q2, q3⟩ hK
  obtain ⟨r', z1, z2, z3⟩ := d1
  have hW := d2.2.1
  exact ⟨n, o, a, b, c, ⟨⟨r', S, z1, ⟨z2, rfl⟩, (show P S _ _ from by rw [z3]; exact hO.1 _ _ _ _ hW.alike q2)⟩, by rw [z3]; exact Nat.le_refl _, fun q _ _ => by rw [z3]⟩, L, d2, fun q hq => (d3 q hq).elim⟩
theorem bq_01 {o : Option Int32} {r : Int32} (h : bq o = some r) : r = 0 ∨ r = 1 := by
  obtain ⟨q, h1, h2⟩ := bd h
  split at h2
  · rename_i h3
    cases h2
    exact h3
  · cases h2
theorem xc13 : Cond.castable "java/lang/IndexOutOfBoundsException" "java/lang/IndexOutOfBoundsException" ∈ xws := List.mem_filter.mpr ⟨by decide +kernel, rfl⟩
theorem xc62 : Cond.castable "java/lang/IllegalArgumentException" "java/lang/IllegalArgumentException" ∈ xws := List.mem_filter.mpr ⟨by decide +kernel, rfl⟩
theorem xc86 : Cond.castable "java/lang/IllegalStateException" "java/lang/IllegalStateException" ∈ xws := List.mem_filter.mpr ⟨by decide +kernel, rfl⟩
theorem xc110 : Cond.castable "java/util/NoSuchElementException" "java/util/NoSuchElementException" ∈ xws := List.mem_filter.mpr ⟨by decide +kernel, rfl⟩
section WRAP
variable {dC : Nat → ClassId} {dI : Nat → Nat → Nat} {cg : Nat → ClassId} {kA : String → Nat → Nat} {b1 b2 o1 o2 : Nat} {cL cD : ClassId} {S S1 : CS} {M : MS} {x : Int64} {d : UInt64} {l : Launch}
theorem jA {s : State} {H : Heap} (h : s.heap.size ≤ H.size) : ∀ q, Fr (cΩ (caOf b1)) H.size q → Fr (jΩ b1 b2 o1 o2) s.heap.size q := fun q z => z.elim (fun z => Or.inl (Or.inl z)) (fun z => Or.inr (Nat.le_trans h z))
theorem xo_catNameByte {a : Int32} {b : Int32} {y : Int32} (hap : APJ b1 b2 o1 o2) (hM : gMetIA l yX10_catNameByte cX10_catNameByte 3 (some .int) 6 0 0 (cΩ (caOf b1)) (cP dC dI cg kA (caOf b1)) (kR kTab kA) [.ref (caOf b1 0), .int a, .int b] S y S1) : gMetX l yL_catNameByte cL_catNameByte 5 [(0, 10, 13, 13)] 26 1 6 (jΩ b1 b2 o1 o2) (jP dC dI cg kA b1 b2 o1 o2 cL cD) (kR kTab kA) [.ref (caOf b1 0), .int a, .int b, .ref o1] (S, M, x, d) 0 (S1, M, y.toInt64, d) := gEntryX (by decide) jOK (Nat.le_of_ble_eq_true rfl) (fun p e s m args below meth c Q ls X hT hP hS hret hl => by
  have hx := X.hx
  have hb := X.hb
  refine lv_aload_n hx hb dL_catNameByte_0 rfl (lv_at hl 3 rfl) ?_
  refine lv_iconst (v := 0) hx hb dL_catNameByte_1 (by decide) ?_
  refine lv_aload_n hx hb dL_catNameByte_2 rfl (lv_at hl 0 rfl) ?_
  refine lv_iload_n hx hb dL_catNameByte_3 rfl (lv_at hl 1 rfl) ?_
  refine lv_iload_n hx hb dL_catNameByte_4 rfl (lv_at hl 2 rfl) ?_
  refine gCallWI X (gF_ok cOK (fsC hap)) (hM.lift (fsC hap)) (cw_V 2 X (gT_V tw1300 tw1301 tw1302 tw1 tw1303) ⟨rfl, by decide, by decide, by decide +kernel⟩ ⟨by decide, by decide⟩) rfl hP hS (jA hS.1) (cr_rec hP.1 (rfl : kc 0 = 0) rfl cw0 rfl) hl.1 (Nat.le_of_ble_eq_true rfl) ⟨Nat.le_of_ble_eq_true rfl, Nat.le_of_ble_eq_true rfl⟩ dL_catNameByte_5 (As := [.int a, .int b]) (rest := [.int 0, .ref o1]) rfl (fun H locs hP hS => ?_)
  refine lv_i2l hx hb dL_catNameByte_8 rfl ?_
  refine j_last (S := S1) (M := M) (x := x) (d := d) X hap hP hS (Or.inl (Or.inr (Or.inr (Or.inl rfl)))) dL_catNameByte_9 (fun H locs hP hS => ?_)
  refine lv_goto (tgt := 17) hx hb dL_catNameByte_10 (by decide) ?_
  refine lv_iconst (v := 0) hx hb dL_catNameByte_17 (by decide) ?_
  exact hret _ _ _ _ _ _ dL_catNameByte_18 hP hS (Nat.le_of_ble_eq_true rfl) (Nat.le_of_ble_eq_true rfl))
theorem xt1_catNameByte {a : Int32} {b : Int32} (hap : APJ b1 b2 o1 o2) (hM : gThr l yX10_catNameByte cX10_catNameByte 3 (some .int) 6 (cΩ (caOf b1)) (cP dC dI cg kA (caOf b1)) (kR kTab kA) [.ref (caOf b1 0), .int a, .int b] S "java/lang/IndexOutOfBoundsException" S1) : gMetX l yL_catNameByte cL_catNameByte 5 [(0, 10, 13, 13)] 26 1 6 (jΩ b1 b2 o1 o2) (jP dC dI cg kA b1 b2 o1 o2 cL cD) (kR kTab kA) [.ref (caOf b1 0), .int a, .int b, .ref o1] (S, M, x, d) 1 (S1, M, x, d) := gEntryX (by decide) jOK (Nat.le_of_ble_eq_true rfl) (fun p e s m args below meth c Q ls X hT hP hS hret hl => by
  have hx := X.hx
  have hb := X.hb
  refine lv_aload_n hx hb dL_catNameByte_0 rfl (lv_at hl 3 rfl) ?_
  refine lv_iconst (v := 0) hx hb dL_catNameByte_1 (by decide) ?_
  refine lv_aload_n hx hb dL_catNameByte_2 rfl (lv_at hl 0 rfl) ?_
  refine lv_iload_n hx hb dL_catNameByte_3 rfl (lv_at hl 1 rfl) ?_
  refine lv_iload_n hx hb dL_catNameByte_4 rfl (lv_at hl 2 rfl) ?_
  refine gCallWT X (gF_ok cOK (fsC hap)) (hM.lift (fsC hap)) (cw_V 2 X (gT_V tw1300 tw1301 tw1302 tw1 tw1303) ⟨rfl, by decide, by decide, by decide +kernel⟩ ⟨by decide, by decide⟩) rfl hP hS (jA hS.1) (cr_rec hP.1 (rfl : kc 0 = 0) rfl cw0 rfl) hl.1 (Nat.le_of_ble_eq_true rfl) ⟨Nat.le_of_ble_eq_true rfl, Nat.le_of_ble_eq_true rfl⟩ dL_catNameByte_5 (As := [.int a, .int b]) (rest := [.int 0, .ref o1]) rfl (fun H locs q9 ce hP hS hce hcv hcl => ?_)
  refine vx_catch (own := "GranaryWatchLaw") (name := "java/lang/IndexOutOfBoundsException") (E := "java/lang/IndexOutOfBoundsException") X.hown [] ⟨0, 10, 13, 13⟩ [] (hT.trans rfl) (fun z hz => nomatch hz) (by decide) (by decide) (X.hts _ tw1299) (xw_use rfl (X.ks.2.1 _ xc13)) hce hcv hcl ?_
  refine W.eq (g2 := F0 m 13 ls [.ref q9]) rfl ?_
  refine lv_astore (lv' := [(4, .ref q9), (0, .ref (caOf b1 0)), (1, .int a), (2, .int b), (3, .ref o1)]) hx hb dL_catNameByte_13 hl (by decide) rfl (fun ls hl => ?_)
  refine lv_iconst (v := 1) hx hb dL_catNameByte_15 (by decide) ?_
  exact hret _ _ _ _ _ _ dL_catNameByte_16 hP hS (Nat.le_of_ble_eq_true rfl) (Nat.le_of_ble_eq_true rfl))
theorem xo_sackNameByte {a : Int32} {b : Int32} {y : Int32} (hap : APJ b1 b2 o1 o2) (hM : gMetIA l yX10_sackNameByte cX10_sackNameByte 3 (some .int) 6 0 0 (cΩ (caOf b1)) (cP dC dI cg kA (caOf b1)) (kR kTab kA) [.ref (caOf b1 0), .int a, .int b] S y S1) : gMetX l yL_sackNameByte cL_sackNameByte 5 [(0, 10, 13, 13)] 26 1 6 (jΩ b1 b2 o1 o2) (jP dC dI cg kA b1 b2 o1 o2 cL cD) (kR kTab kA) [.ref (caOf b1 0), .int a, .int b, .ref o1] (S, M, x, d) 0 (S1, M, y.toInt64, d) := gEntryX (by decide) jOK (Nat.le_of_ble_eq_true rfl) (fun p e s m args below meth c Q ls X hT hP hS hret hl => by
  have hx := X.hx
  have hb := X.hb
  refine lv_aload_n hx hb dL_sackNameByte_0 rfl (lv_at hl 3 rfl) ?_
  refine lv_iconst (v := 0) hx hb dL_sackNameByte_1 (by decide) ?_
  refine lv_aload_n hx hb dL_sackNameByte_2 rfl (lv_at hl 0 rfl) ?_
  refine lv_iload_n hx hb dL_sackNameByte_3 rfl (lv_at hl 1 rfl) ?_
  refine lv_iload_n hx hb dL_sackNameByte_4 rfl (lv_at hl 2 rfl) ?_
  refine gCallWI X (gF_ok cOK (fsC hap)) (hM.lift (fsC hap)) (cw_V 2 X (gT_V tw1329 tw1330 tw1331 tw1 tw1332) ⟨rfl, by decide, by decide, by decide +kernel⟩ ⟨by decide, by decide⟩) rfl hP hS (jA hS.1) (cr_rec hP.1 (rfl : kc 0 = 0) rfl cw0 rfl) hl.1 (Nat.le_of_ble_eq_true rfl) ⟨Nat.le_of_ble_eq_true rfl, Nat.le_of_ble_eq_true rfl⟩ dL_sackNameByte_5 (As := [.int a, .int b]) (rest := [.int 0, .ref o1]) rfl (fun H locs hP hS => ?_)
  refine lv_i2l hx hb dL_sackNameByte_8 rfl ?_
  refine j_last (S := S1) (M := M) (x := x) (d := d) X hap hP hS (Or.inl (Or.inr (Or.inr (Or.inl rfl)))) dL_sackNameByte_9 (fun H locs hP hS => ?_)
  refine lv_goto (tgt := 17) hx hb dL_sackNameByte_10 (by decide) ?_
  refine lv_iconst (v := 0) hx hb dL_sackNameByte_17 (by decide) ?_
  exact hret _ _ _ _ _ _ dL_sackNameByte_18 hP hS (Nat.le_of_ble_eq_true rfl) (Nat.le_of_ble_eq_true rfl))
theorem xt1_sackNameByte {a : Int32} {b : Int32} (hap : APJ b1 b2 o1 o2) (hM : gThr l yX10_sackNameByte cX10_sackNameByte 3 (some .int) 6 (cΩ (caOf b1)) (cP dC dI cg kA (caOf b1)) (kR kTab kA) [.ref (caOf b1 0), .int a, .int b] S "java/lang/IndexOutOfBoundsException" S1) : gMetX l yL_sackNameByte cL_sackNameByte 5 [(0, 10, 13, 13)] 26 1 6 (jΩ b1 b2 o1 o2) (jP dC dI cg kA b1 b2 o1 o2 cL cD) (kR kTab kA) [.ref (caOf b1 0), .int a, .int b, .ref o1] (S, M, x, d) 1 (S1, M, x, d) := gEntryX (by decide) jOK (Nat.le_of_ble_eq_true rfl) (fun p e s m args below meth c Q ls X hT hP hS hret hl => by
  have hx := X.hx
  have hb := X.hb
  refine lv_aload_n hx hb dL_sackNameByte_0 rfl (lv_at hl 3 rfl) ?_
  refine lv_iconst (v := 0) hx hb dL_sackNameByte_1 (by decide) ?_
  refine lv_aload_n hx hb dL_sackNameByte_2 rfl (lv_at hl 0 rfl) ?_
  refine lv_iload_n hx hb dL_sackNameByte_3 rfl (lv_at hl 1 rfl) ?_
  refine lv_iload_n hx hb dL_sackNameByte_4 rfl (lv_at hl 2 rfl) ?_
  refine gCallWT X (gF_ok cOK (fsC hap)) (hM.lift (fsC hap)) (cw_V 2 X (gT_V tw1329 tw1330 tw1331 tw1 tw1332) ⟨rfl, by decide, by decide, by decide +kernel⟩ ⟨by decide, by decide⟩) rfl hP hS (jA hS.1) (cr_rec hP.1 (rfl : kc 0 = 0) rfl cw0 rfl) hl.1 (Nat.le_of_ble_eq_true rfl) ⟨Nat.le_of_ble_eq_true rfl, Nat.le_of_ble_eq_true rfl⟩ dL_sackNameByte_5 (As := [.int a, .int b]) (rest := [.int 0, .ref o1]) rfl (fun H locs q9 ce hP hS hce hcv hcl => ?_)
  refine vx_catch (own := "GranaryWatchLaw") (name := "java/lang/IndexOutOfBoundsException") (E := "java/lang/IndexOutOfBoundsException") X.hown [] ⟨0, 10, 13, 13⟩ [] (hT.trans rfl) (fun z hz => nomatch hz) (by decide) (by decide) (X.hts _ tw1299) (xw_use rfl (X.ks.2.1 _ xc13)) hce hcv hcl ?_
  refine W.eq (g2 := F0 m 13 ls [.ref q9]) rfl ?_
  refine lv_astore (lv' := [(4, .ref q9), (0, .ref (caOf b1 0)), (1, .int a), (2, .int b), (3, .ref o1)]) hx hb dL_sackNameByte_13 hl (by decide) rfl (fun ls hl => ?_)
  refine lv_iconst (v := 1) hx hb dL_sackNameByte_15 (by decide) ?_
  exact hret _ _ _ _ _ _ dL_sackNameByte_16 hP hS (Nat.le_of_ble_eq_true rfl) (Nat.le_of_ble_eq_true rfl))
theorem xo_speedOf {a : Int32} {y : Int32} (hap : APJ b1 b2 o1 o2) (hM : gMetIA l yX10_speedOf cX10_speedOf 2 (some .int) 2 0 0 (cΩ (caOf b1)) (cP dC dI cg kA (caOf b1)) (kR kTab kA) [.ref (caOf b1 0), .int a] S y S1) : gMetX l yL_speedOf cL_speedOf 4 [(0, 9, 12, 13)] 26 1 6 (jΩ b1 b2 o1 o2) (jP dC dI cg kA b1 b2 o1 o2 cL cD) (kR kTab kA) [.ref (caOf b1 0), .int a, .ref o1] (S, M, x, d) 0 (S1, M, y.toInt64, d) := gEntryX (by decide) jOK (Nat.le_of_ble_eq_true rfl) (fun p e s m args below meth c Q ls X hT hP hS hret hl => by
  have hx := X.hx
  have hb := X.hb
  refine lv_aload_n hx hb dL_speedOf_0 rfl (lv_at hl 2 rfl) ?_
  refine lv_iconst (v := 0) hx hb dL_speedOf_1 (by decide) ?_
  refine lv_aload_n hx hb dL_speedOf_2 rfl (lv_at hl 0 rfl) ?_
  refine lv_iload_n hx hb dL_speedOf_3 rfl (lv_at hl 1 rfl) ?_
  refine gCallWI X (gF_ok cOK (fsC hap)) (hM.lift (fsC hap)) (cw_V 1 X (gT_V tw1341 tw1342 tw1343 tw1 tw1344) ⟨rfl, by decide, by decide, by decide +kernel⟩ ⟨by decide, by decide⟩) rfl hP hS (jA hS.1) (cr_rec hP.1 (rfl : kc 0 = 0) rfl cw0 rfl) hl.1 (Nat.le_of_ble_eq_true rfl) ⟨Nat.le_of_ble_eq_true rfl, Nat.le_of_ble_eq_true rfl⟩ dL_speedOf_4 (As := [.int a]) (rest := [.int 0, .ref o1]) rfl (fun H locs hP hS => ?_)
  refine lv_i2l hx hb dL_speedOf_7 rfl ?_
  refine j_last (S := S1) (M := M) (x := x) (d := d) X hap hP hS (Or.inl (Or.inr (Or.inr (Or.inl rfl)))) dL_speedOf_8 (fun H locs hP hS => ?_)
  refine lv_goto (tgt := 15) hx hb dL_speedOf_9 (by decide) ?_
  refine lv_iconst (v := 0) hx hb dL_speedOf_15 (by decide) ?_
  exact hret _ _ _ _ _ _ dL_speedOf_16 hP hS (Nat.le_of_ble_eq_true rfl) (Nat.le_of_ble_eq_true rfl))
theorem xt1_speedOf {a : Int32} (hap : APJ b1 b2 o1 o2) (hM : gThr l yX10_speedOf cX10_speedOf 2 (some .int) 4 (cΩ (caOf b1)) (cP dC dI cg kA (caOf b1)) (kR kTab kA) [.ref (caOf b1 0), .int a] S "java/lang/IndexOutOfBoundsException" S1) : gMetX l yL_speedOf cL_speedOf 4 [(0, 9, 12, 13)] 26 1 6 (jΩ b1 b2 o1 o2) (jP dC dI cg kA b1 b2 o1 o2 cL cD) (kR kTab kA) [.ref (caOf b1 0), .int a, .ref o1] (S, M, x, d) 1 (S1, M, x, d) := gEntryX (by decide) jOK (Nat.le_of_ble_eq_true rfl) (fun p e s m args below meth c Q ls X hT hP hS hret hl => by
  have hx := X.hx
  have hb := X.hb
  refine lv_aload_n hx hb dL_speedOf_0 rfl (lv_at hl 2 rfl) ?_
  refine lv_iconst (v := 0) hx hb dL_speedOf_1 (by decide) ?_
  refine lv_aload_n hx hb dL_speedOf_2 rfl (lv_at hl 0 rfl) ?_
  refine lv_iload_n hx hb dL_speedOf_3 rfl (lv_at hl 1 rfl) ?_
  refine gCallWT X (gF_ok cOK (fsC hap)) (hM.lift (fsC hap)) (cw_V 1 X (gT_V tw1341 tw1342 tw1343 tw1 tw1344) ⟨rfl, by decide, by decide, by decide +kernel⟩ ⟨by decide, by decide⟩) rfl hP hS (jA hS.1) (cr_rec hP.1 (rfl : kc 0 = 0) rfl cw0 rfl) hl.1 (Nat.le_of_ble_eq_true rfl) ⟨Nat.le_of_ble_eq_true rfl, Nat.le_of_ble_eq_true rfl⟩ dL_speedOf_4 (As := [.int a]) (rest := [.int 0, .ref o1]) rfl (fun H locs q9 ce hP hS hce hcv hcl => ?_)
  refine vx_catch (own := "GranaryWatchLaw") (name := "java/lang/IndexOutOfBoundsException") (E := "java/lang/IndexOutOfBoundsException") X.hown [] ⟨0, 9, 12, 13⟩ [] (hT.trans rfl) (fun z hz => nomatch hz) (by decide) (by decide) (X.hts _ tw1299) (xw_use rfl (X.ks.2.1 _ xc13)) hce hcv hcl ?_
  refine W.eq (g2 := F0 m 12 ls [.ref q9]) rfl ?_
  refine lv_astore_n (lv' := [(3, .ref q9), (0, .ref (caOf b1 0)), (1, .int a), (2, .ref o1)]) hx hb dL_speedOf_12 rfl hl (by decide) rfl (fun ls hl => ?_)
  refine lv_iconst (v := 1) hx hb dL_speedOf_13 (by decide) ?_
  exact hret _ _ _ _ _ _ dL_speedOf_14 hP hS (Nat.le_of_ble_eq_true rfl) (Nat.le_of_ble_eq_true rfl))
theorem xo_isLeftPawed {a : Int32} {y : Int32} (hap : APJ b1 b2 o1 o2) (hM : gMetIA l yX10_isLeftPawed cX10_isLeftPawed 2 (some .boolean) 2 0 0 (cΩ (caOf b1)) (cP dC dI cg kA (caOf b1)) (kR kTab kA) [.ref (caOf b1 0), .int a] S y S1) : gMetX l yL_isLeftPawed cL_isLeftPawed 4 [(0, 16, 19, 13)] 26 1 6 (jΩ b1 b2 o1 o2) (jP dC dI cg kA b1 b2 o1 o2 cL cD) (kR kTab kA) [.ref (caOf b1 0), .int a, .ref o1] (S, M, x, d) 0 (S1, M, (if y = 0 then 0 else 1), d) := gEntryX (by decide) jOK (Nat.le_of_ble_eq_true rfl) (fun p e s m args below meth c Q ls X hT hP hS hret hl => by
  have hx := X.hx
  have hb := X.hb
  refine lv_aload_n hx hb dL_isLeftPawed_0 rfl (lv_at hl 2 rfl) ?_
  refine lv_iconst (v := 0) hx hb dL_isLeftPawed_1 (by decide) ?_
  refine lv_aload_n hx hb dL_isLeftPawed_2 rfl (lv_at hl 0 rfl) ?_
  refine lv_iload_n hx hb dL_isLeftPawed_3 rfl (lv_at hl 1 rfl) ?_
  refine gCallWI X (gF_ok cOK (fsC hap)) (hM.lift (fsC hap)) (cw_V 1 X (gT_V tw1348 tw1349 tw1350 tw1 tw1351) ⟨rfl, by decide, by decide, by decide +kernel⟩ ⟨by decide, by decide⟩) rfl hP hS (jA hS.1) (cr_rec hP.1 (rfl : kc 0 = 0) rfl cw0 rfl) hl.1 (Nat.le_of_ble_eq_true rfl) ⟨Nat.le_of_ble_eq_true rfl, Nat.le_of_ble_eq_true rfl⟩ dL_isLeftPawed_4 (As := [.int a]) (rest := [.int 0, .ref o1]) rfl (fun H locs hP hS => ?_)
  refine lv_if_eq (tgt := 14) hx hb dL_isLeftPawed_7 (by decide) (fun hy => ?_) (fun hy => ?_)
  · refine lv_lconst (v := 0) hx hb dL_isLeftPawed_14 (by decide) ?_
    refine j_last (S := S1) (M := M) (x := x) (d := d) X hap hP hS (Or.inl (Or.inr (Or.inr (Or.inl rfl)))) dL_isLeftPawed_15 (fun H locs hP hS => ?_)
    refine lv_goto (tgt := 22) hx hb dL_isLeftPawed_16 (by decide) ?_
    refine lv_iconst (v := 0) hx hb dL_isLeftPawed_22 (by decide) ?_
    exact hret _ _ _ _ _ _ dL_isLeftPawed_23 (by rw [if_pos hy]; exact hP) hS (Nat.le_of_ble_eq_true rfl) (Nat.le_of_ble_eq_true rfl)
  · refine lv_lconst (v := 1) hx hb dL_isLeftPawed_10 (by decide) ?_
    refine lv_goto (tgt := 15) hx hb dL_isLeftPawed_11 (by decide) ?_
    refine j_last (S := S1) (M := M) (x := x) (d := d) X hap hP hS (Or.inl (Or.inr (Or.inr (Or.inl rfl)))) dL_isLeftPawed_15 (fun H locs hP hS => ?_)
    refine lv_goto (tgt := 22) hx hb dL_isLeftPawed_16 (by decide) ?_
    refine lv_iconst (v := 0) hx hb dL_isLeftPawed_22 (by decide) ?_
    exact hret _ _ _ _ _ _ dL_isLeftPawed_23 (by rw [if_neg hy]; exact hP) hS (Nat.le_of_ble_eq_true rfl) (Nat.le_of_ble_eq_true rfl))
theorem xt1_isLeftPawed {a : Int32} (hap : APJ b1 b2 o1 o2) (hM : gThr l yX10_isLeftPawed cX10_isLeftPawed 2 (some .boolean) 4 (cΩ (caOf b1)) (cP dC dI cg kA (caOf b1)) (kR kTab kA) [.ref (caOf b1 0), .int a] S "java/lang/IndexOutOfBoundsException" S1) : gMetX l yL_isLeftPawed cL_isLeftPawed 4 [(0, 16, 19, 13)] 26 1 6 (jΩ b1 b2 o1 o2) (jP dC dI cg kA b1 b2 o1 o2 cL cD) (kR kTab kA) [.ref (caOf b1 0), .int a, .ref o1] (S, M, x, d) 1 (S1, M, x, d) := gEntryX (by decide) jOK (Nat.le_of_ble_eq_true rfl) (fun p e s m args below meth c Q ls X hT hP hS hret hl => by
  have hx := X.hx
  have hb := X.hb
  refine lv_aload_n hx hb dL_isLeftPawed_0 rfl (lv_at hl 2 rfl) ?_
  refine lv_iconst (v := 0) hx hb dL_isLeftPawed_1 (by decide) ?_
  refine lv_aload_n hx hb dL_isLeftPawed_2 rfl (lv_at hl 0 rfl) ?_
  refine lv_iload_n hx hb dL_isLeftPawed_3 rfl (lv_at hl 1 rfl) ?_
  refine gCallWT X (gF_ok cOK (fsC hap)) (hM.lift (fsC hap)) (cw_V 1 X (gT_V tw1348 tw1349 tw1350 tw1 tw1351) ⟨rfl, by decide, by decide, by decide +kernel⟩ ⟨by decide, by decide⟩) rfl hP hS (jA hS.1) (cr_rec hP.1 (rfl : kc 0 = 0) rfl cw0 rfl) hl.1 (Nat.le_of_ble_eq_true rfl) ⟨Nat.le_of_ble_eq_true rfl, Nat.le_of_ble_eq_true rfl⟩ dL_isLeftPawed_4 (As := [.int a]) (rest := [.int 0, .ref o1]) rfl (fun H locs q9 ce hP hS hce hcv hcl => ?_)
  refine vx_catch (own := "GranaryWatchLaw") (name := "java/lang/IndexOutOfBoundsException") (E := "java/lang/IndexOutOfBoundsException") X.hown [] ⟨0, 16, 19, 13⟩ [] (hT.trans rfl) (fun z hz => nomatch hz) (by decide) (by decide) (X.hts _ tw1299) (xw_use rfl (X.ks.2.1 _ xc13)) hce hcv hcl ?_
  refine W.eq (g2 := F0 m 19 ls [.ref q9]) rfl ?_
  refine lv_astore_n (lv' := [(3, .ref q9), (0, .ref (caOf b1 0)), (1, .int a), (2, .ref o1)]) hx hb dL_isLeftPawed_19 rfl hl (by decide) rfl (fun ls hl => ?_)
  refine lv_iconst (v := 1) hx hb dL_isLeftPawed_20 (by decide) ?_
  exact hret _ _ _ _ _ _ dL_isLeftPawed_21 hP hS (Nat.le_of_ble_eq_true rfl) (Nat.le_of_ble_eq_true rfl))
theorem xo_tirednessOf {a : Int32} {y : Int32} (hap : APJ b1 b2 o1 o2) (hM : gMetIA l yX10_tirednessOf cX10_tirednessOf 2 (some .int) 2 0 0 (cΩ (caOf b1)) (cP dC dI cg kA (caOf b1)) (kR kTab kA) [.ref (caOf b1 0), .int a] S y S1) : gMetX l yL_tirednessOf cL_tirednessOf 4 [(0, 9, 12, 13)] 26 1 6 (jΩ b1 b2 o1 o2) (jP dC dI cg kA b1 b2 o1 o2 cL cD) (kR kTab kA) [.ref (caOf b1 0), .int a, .ref o1] (S, M, x, d) 0 (S1, M, y.toInt64, d) := gEntryX (by decide) jOK (Nat.le_of_ble_eq_true rfl) (fun p e s m args below meth c Q ls X hT hP hS hret hl => by
  have hx := X.hx
  have hb := X.hb
  refine lv_aload_n hx hb dL_tirednessOf_0 rfl (lv_at hl 2 rfl) ?_
  refine lv_iconst (v := 0) hx hb dL_tirednessOf_1 (by decide) ?_
  refine lv_aload_n hx hb dL_tirednessOf_2 rfl (lv_at hl 0 rfl) ?_
  refine lv_iload_n hx hb dL_tirednessOf_3 rfl (lv_at hl 1 rfl) ?_
  refine gCallWI X (gF_ok cOK (fsC hap)) (hM.lift (fsC hap)) (cw_V 1 X (gT_V tw1355 tw1356 tw1357 tw1 tw1358) ⟨rfl, by decide, by decide, by decide +kernel⟩ ⟨by decide, by decide⟩) rfl hP hS (jA hS.1) (cr_rec hP.1 (rfl : kc 0 = 0) rfl cw0 rfl) hl.1 (Nat.le_of_ble_eq_true rfl) ⟨Nat.le_of_ble_eq_true rfl, Nat.le_of_ble_eq_true rfl⟩ dL_tirednessOf_4 (As := [.int a]) (rest := [.int 0, .ref o1]) rfl (fun H locs hP hS => ?_)
  refine lv_i2l hx hb dL_tirednessOf_7 rfl ?_
  refine j_last (S := S1) (M := M) (x := x) (d := d) X hap hP hS (Or.inl (Or.inr (Or.inr (Or.inl rfl)))) dL_tirednessOf_8 (fun H locs hP hS => ?_)
  refine lv_goto (tgt := 15) hx hb dL_tirednessOf_9 (by decide) ?_
  refine lv_iconst (v := 0) hx hb dL_tirednessOf_15 (by decide) ?_
  exact hret _ _ _ _ _ _ dL_tirednessOf_16 hP hS (Nat.le_of_ble_eq_true rfl) (Nat.le_of_ble_eq_true rfl))
theorem xt1_tirednessOf {a : Int32} (hap : APJ b1 b2 o1 o2) (hM : gThr l yX10_tirednessOf cX10_tirednessOf 2 (some .int) 4 (cΩ (caOf b1)) (cP dC dI cg kA (caOf b1)) (kR kTab kA) [.ref (caOf b1 0), .int a] S "java/lang/IndexOutOfBoundsException" S1) : gMetX l yL_tirednessOf cL_tirednessOf 4 [(0, 9, 12, 13)] 26 1 6 (jΩ b1 b2 o1 o2) (jP dC dI cg kA b1 b2 o1 o2 cL cD) (kR kTab kA) [.ref (caOf b1 0), .int a, .ref o1] (S, M, x, d) 1 (S1, M, x, d) := gEntryX (by decide) jOK (Nat.le_of_ble_eq_true rfl) (fun p e s m args below meth c Q ls X hT hP hS hret hl => by
  have hx := X.hx
  have hb := X.hb
  refine lv_aload_n hx hb dL_tirednessOf_0 rfl (lv_at hl 2 rfl) ?_
  refine lv_iconst (v := 0) hx hb dL_tirednessOf_1 (by decide) ?_
  refine lv_aload_n hx hb dL_tirednessOf_2 rfl (lv_at hl 0 rfl) ?_
  refine lv_iload_n hx hb dL_tirednessOf_3 rfl (lv_at hl 1 rfl) ?_
  refine gCallWT X (gF_ok cOK (fsC hap)) (hM.lift (fsC hap)) (cw_V 1 X (gT_V tw1355 tw1356 tw1357 tw1 tw1358) ⟨rfl, by decide, by decide, by decide +kernel⟩ ⟨by decide, by decide⟩) rfl hP hS (jA hS.1) (cr_rec hP.1 (rfl : kc 0 = 0) rfl cw0 rfl) hl.1 (Nat.le_of_ble_eq_true rfl) ⟨Nat.le_of_ble_eq_true rfl, Nat.le_of_ble_eq_true rfl⟩ dL_tirednessOf_4 (As := [.int a]) (rest := [.int 0, .ref o1]) rfl (fun H locs q9 ce hP hS hce hcv hcl => ?_)
  refine vx_catch (own := "GranaryWatchLaw") (name := "java/lang/IndexOutOfBoundsException") (E := "java/lang/IndexOutOfBoundsException") X.hown [] ⟨0, 9, 12, 13⟩ [] (hT.trans rfl) (fun z hz => nomatch hz) (by decide) (by decide) (X.hts _ tw1299) (xw_use rfl (X.ks.2.1 _ xc13)) hce hcv hcl ?_
  refine W.eq (g2 := F0 m 12 ls [.ref q9]) rfl ?_
  refine lv_astore_n (lv' := [(3, .ref q9), (0, .ref (caOf b1 0)), (1, .int a), (2, .ref o1)]) hx hb dL_tirednessOf_12 rfl hl (by decide) rfl (fun ls hl => ?_)
  refine lv_iconst (v := 1) hx hb dL_tirednessOf_13 (by decide) ?_
  exact hret _ _ _ _ _ _ dL_tirednessOf_14 hP hS (Nat.le_of_ble_eq_true rfl) (Nat.le_of_ble_eq_true rfl))
theorem xo_strengthOf {a : Int32} {y : Int32} (hap : APJ b1 b2 o1 o2) (hM : gMetIA l yX10_strengthOf cX10_strengthOf 2 (some .int) 3 0 0 (cΩ (caOf b1)) (cP dC dI cg kA (caOf b1)) (kR kTab kA) [.ref (caOf b1 0), .int a] S y S1) : gMetX l yL_strengthOf cL_strengthOf 4 [(0, 9, 12, 13)] 26 1 6 (jΩ b1 b2 o1 o2) (jP dC dI cg kA b1 b2 o1 o2 cL cD) (kR kTab kA) [.ref (caOf b1 0), .int a, .ref o1] (S, M, x, d) 0 (S1, M, y.toInt64, d) := gEntryX (by decide) jOK (Nat.le_of_ble_eq_true rfl) (fun p e s m args below meth c Q ls X hT hP hS hret hl => by
  have hx := X.hx
  have hb := X.hb
  refine lv_aload_n hx hb dL_strengthOf_0 rfl (lv_at hl 2 rfl) ?_
  refine lv_iconst (v := 0) hx hb dL_strengthOf_1 (by decide) ?_
  refine lv_aload_n hx hb dL_strengthOf_2 rfl (lv_at hl 0 rfl) ?_
  refine lv_iload_n hx hb dL_strengthOf_3 rfl (lv_at hl 1 rfl) ?_
  refine gCallWI X (gF_ok cOK (fsC hap)) (hM.lift (fsC hap)) (cw_V 1 X (gT_V tw1362 tw1363 tw1364 tw1 tw1365) ⟨rfl, by decide, by decide, by decide +kernel⟩ ⟨by decide, by decide⟩) rfl hP hS (jA hS.1) (cr_rec hP.1 (rfl : kc 0 = 0) rfl cw0 rfl) hl.1 (Nat.le_of_ble_eq_true rfl) ⟨Nat.le_of_ble_eq_true rfl, Nat.le_of_ble_eq_true rfl⟩ dL_strengthOf_4 (As := [.int a]) (rest := [.int 0, .ref o1]) rfl (fun H locs hP hS => ?_)
  refine lv_i2l hx hb dL_strengthOf_7 rfl ?_
  refine j_last (S := S1) (M := M) (x := x) (d := d) X hap hP hS (Or.inl (Or.inr (Or.inr (Or.inl rfl)))) dL_strengthOf_8 (fun H locs hP hS => ?_)
  refine lv_goto (tgt := 15) hx hb dL_strengthOf_9 (by decide) ?_
  refine lv_iconst (v := 0) hx hb dL_strengthOf_15 (by decide) ?_
  exact hret _ _ _ _ _ _ dL_strengthOf_16 hP hS (Nat.le_of_ble_eq_true rfl) (Nat.le_of_ble_eq_true rfl))
theorem xt1_strengthOf {a : Int32} (hap : APJ b1 b2 o1 o2) (hM : gThr l yX10_strengthOf cX10_strengthOf 2 (some .int) 4 (cΩ (caOf b1)) (cP dC dI cg kA (caOf b1)) (kR kTab kA) [.ref (caOf b1 0), .int a] S "java/lang/IndexOutOfBoundsException" S1) : gMetX l yL_strengthOf cL_strengthOf 4 [(0, 9, 12, 13)] 26 1 6 (jΩ b1 b2 o1 o2) (jP dC dI cg kA b1 b2 o1 o2 cL cD) (kR kTab kA) [.ref (caOf b1 0), .int a, .ref o1] (S, M, x, d) 1 (S1, M, x, d) := gEntryX (by decide) jOK (Nat.le_of_ble_eq_true rfl) (fun p e s m args below meth c Q ls X hT hP hS hret hl => by
  have hx := X.hx
  have hb := X.hb
  refine lv_aload_n hx hb dL_strengthOf_0 rfl (lv_at hl 2 rfl) ?_
  refine lv_iconst (v := 0) hx hb dL_strengthOf_1 (by decide) ?_
  refine lv_aload_n hx hb dL_strengthOf_2 rfl (lv_at hl 0 rfl) ?_
  refine lv_iload_n hx hb dL_strengthOf_3 rfl (lv_at hl 1 rfl) ?_
  refine gCallWT X (gF_ok cOK (fsC hap)) (hM.lift (fsC hap)) (cw_V 1 X (gT_V tw1362 tw1363 tw1364 tw1 tw1365) ⟨rfl, by decide, by decide, by decide +kernel⟩ ⟨by decide, by decide⟩) rfl hP hS (jA hS.1) (cr_rec hP.1 (rfl : kc 0 = 0) rfl cw0 rfl) hl.1 (Nat.le_of_ble_eq_true rfl) ⟨Nat.le_of_ble_eq_true rfl, Nat.le_of_ble_eq_true rfl⟩ dL_strengthOf_4 (As := [.int a]) (rest := [.int 0, .ref o1]) rfl (fun H locs q9 ce hP hS hce hcv hcl => ?_)
  refine vx_catch (own := "GranaryWatchLaw") (name := "java/lang/IndexOutOfBoundsException") (E := "java/lang/IndexOutOfBoundsException") X.hown [] ⟨0, 9, 12, 13⟩ [] (hT.trans rfl) (fun z hz => nomatch hz) (by decide) (by decide) (X.hts _ tw1299) (xw_use rfl (X.ks.2.1 _ xc13)) hce hcv hcl ?_
  refine W.eq (g2 := F0 m 12 ls [.ref q9]) rfl ?_
  refine lv_astore_n (lv' := [(3, .ref q9), (0, .ref (caOf b1 0)), (1, .int a), (2, .ref o1)]) hx hb dL_strengthOf_12 rfl hl (by decide) rfl (fun ls hl => ?_)
  refine lv_iconst (v := 1) hx hb dL_strengthOf_13 (by decide) ?_
  exact hret _ _ _ _ _ _ dL_strengthOf_14 hP hS (Nat.le_of_ble_eq_true rfl) (Nat.le_of_ble_eq_true rfl))
theorem xo_caughtBy {a : Int32} {y : Int32} (hap : APJ b1 b2 o1 o2) (hM : gMetIA l yX10_caughtBy cX10_caughtBy 2 (some .int) 2 0 0 (cΩ (caOf b1)) (cP dC dI cg kA (caOf b1)) (kR kTab kA) [.ref (caOf b1 0), .int a] S y S1) : gMetX l yL_caughtBy cL_caughtBy 4 [(0, 9, 12, 13)] 26 1 6 (jΩ b1 b2 o1 o2) (jP dC dI cg kA b1 b2 o1 o2 cL cD) (kR kTab kA) [.ref (caOf b1 0), .int a, .ref o1] (S, M, x, d) 0 (S1, M, y.toInt64, d) := gEntryX (by decide) jOK (Nat.le_of_ble_eq_true rfl) (fun p e s m args below meth c Q ls X hT hP hS hret hl => by
  have hx := X.hx
  have hb := X.hb
  refine lv_aload_n hx hb dL_caughtBy_0 rfl (lv_at hl 2 rfl) ?_
  refine lv_iconst (v := 0) hx hb dL_caughtBy_1 (by decide) ?_
  refine lv_aload_n hx hb dL_caughtBy_2 rfl (lv_at hl 0 rfl) ?_
  refine lv_iload_n hx hb dL_caughtBy_3 rfl (lv_at hl 1 rfl) ?_
  refine gCallWI X (gF_ok cOK (fsC hap)) (hM.lift (fsC hap)) (cw_V 1 X (gT_V tw1370 tw1371 tw1372 tw1 tw1373) ⟨rfl, by decide, by decide, by decide +kernel⟩ ⟨by decide, by decide⟩) rfl hP hS (jA hS.1) (cr_rec hP.1 (rfl : kc 0 = 0) rfl cw0 rfl) hl.1 (Nat.le_of_ble_eq_true rfl) ⟨Nat.le_of_ble_eq_true rfl, Nat.le_of_ble_eq_true rfl⟩ dL_caughtBy_4 (As := [.int a]) (rest := [.int 0, .ref o1]) rfl (fun H locs hP hS => ?_)
  refine lv_i2l hx hb dL_caughtBy_7 rfl ?_
  refine j_last (S := S1) (M := M) (x := x) (d := d) X hap hP hS (Or.inl (Or.inr (Or.inr (Or.inl rfl)))) dL_caughtBy_8 (fun H locs hP hS => ?_)
  refine lv_goto (tgt := 15) hx hb dL_caughtBy_9 (by decide) ?_
  refine lv_iconst (v := 0) hx hb dL_caughtBy_15 (by decide) ?_
  exact hret _ _ _ _ _ _ dL_caughtBy_16 hP hS (Nat.le_of_ble_eq_true rfl) (Nat.le_of_ble_eq_true rfl))
theorem xt1_caughtBy {a : Int32} (hap : APJ b1 b2 o1 o2) (hM : gThr l yX10_caughtBy cX10_caughtBy 2 (some .int) 4 (cΩ (caOf b1)) (cP dC dI cg kA (caOf b1)) (kR kTab kA) [.ref (caOf b1 0), .int a] S "java/lang/IndexOutOfBoundsException" S1) : gMetX l yL_caughtBy cL_caughtBy 4 [(0, 9, 12, 13)] 26 1 6 (jΩ b1 b2 o1 o2) (jP dC dI cg kA b1 b2 o1 o2 cL cD) (kR kTab kA) [.ref (caOf b1 0), .int a, .ref o1] (S, M, x, d) 1 (S1, M, x, d) := gEntryX (by decide) jOK (Nat.le_of_ble_eq_true rfl) (fun p e s m args below meth c Q ls X hT hP hS hret hl => by
  have hx := X.hx
  have hb := X.hb
  refine lv_aload_n hx hb dL_caughtBy_0 rfl (lv_at hl 2 rfl) ?_
  refine lv_iconst (v := 0) hx hb dL_caughtBy_1 (by decide) ?_
  refine lv_aload_n hx hb dL_caughtBy_2 rfl (lv_at hl 0 rfl) ?_
  refine lv_iload_n hx hb dL_caughtBy_3 rfl (lv_at hl 1 rfl) ?_
  refine gCallWT X (gF_ok cOK (fsC hap)) (hM.lift (fsC hap)) (cw_V 1 X (gT_V tw1370 tw1371 tw1372 tw1 tw1373) ⟨rfl, by decide, by decide, by decide +kernel⟩ ⟨by decide, by decide⟩) rfl hP hS (jA hS.1) (cr_rec hP.1 (rfl : kc 0 = 0) rfl cw0 rfl) hl.1 (Nat.le_of_ble_eq_true rfl) ⟨Nat.le_of_ble_eq_true rfl, Nat.le_of_ble_eq_true rfl⟩ dL_caughtBy_4 (As := [.int a]) (rest := [.int 0, .ref o1]) rfl (fun H locs q9 ce hP hS hce hcv hcl => ?_)
  refine vx_catch (own := "GranaryWatchLaw") (name := "java/lang/IndexOutOfBoundsException") (E := "java/lang/IndexOutOfBoundsException") X.hown [] ⟨0, 9, 12, 13⟩ [] (hT.trans rfl) (fun z hz => nomatch hz) (by decide) (by decide) (X.hts _ tw1299) (xw_use rfl (X.ks.2.1 _ xc13)) hce hcv hcl ?_
  refine W.eq (g2 := F0 m 12 ls [.ref q9]) rfl ?_
  refine lv_astore_n (lv' := [(3, .ref q9), (0, .ref (caOf b1 0)), (1, .int a), (2, .ref o1)]) hx hb dL_caughtBy_12 rfl hl (by decide) rfl (fun ls hl => ?_)
  refine lv_iconst (v := 1) hx hb dL_caughtBy_13 (by decide) ?_
  exact hret _ _ _ _ _ _ dL_caughtBy_14 hP hS (Nat.le_of_ble_eq_true rfl) (Nat.le_of_ble_eq_true rfl))
theorem xo_oathsOf {a : Int32} {y : Int32} (hap : APJ b1 b2 o1 o2) (hM : gMetIA l yX10_oathsOf cX10_oathsOf 2 (some .int) 2 0 0 (cΩ (caOf b1)) (cP dC dI cg kA (caOf b1)) (kR kTab kA) [.ref (caOf b1 0), .int a] S y S1) : gMetX l yL_oathsOf cL_oathsOf 4 [(0, 9, 12, 13)] 26 1 6 (jΩ b1 b2 o1 o2) (jP dC dI cg kA b1 b2 o1 o2 cL cD) (kR kTab kA) [.ref (caOf b1 0), .int a, .ref o1] (S, M, x, d) 0 (S1, M, y.toInt64, d) := gEntryX (by decide) jOK (Nat.le_of_ble_eq_true rfl) (fun p e s m args below meth c Q ls X hT hP hS hret hl => by
  have hx := X.hx
  have hb := X.hb
  refine lv_aload_n hx hb dL_oathsOf_0 rfl (lv_at hl 2 rfl) ?_
  refine lv_iconst (v := 0) hx hb dL_oathsOf_1 (by decide) ?_
  refine lv_aload_n hx hb dL_oathsOf_2 rfl (lv_at hl 0 rfl) ?_
  refine lv_iload_n hx hb dL_oathsOf_3 rfl (lv_at hl 1 rfl) ?_
  refine gCallWI X (gF_ok cOK (fsC hap)) (hM.lift (fsC hap)) (cw_V 1 X (gT_V tw1377 tw1378 tw1379 tw1 tw1380) ⟨rfl, by decide, by decide, by decide +kernel⟩ ⟨by decide, by decide⟩) rfl hP hS (jA hS.1) (cr_rec hP.1 (rfl : kc 0 = 0) rfl cw0 rfl) hl.1 (Nat.le_of_ble_eq_true rfl) ⟨Nat.le_of_ble_eq_true rfl, Nat.le_of_ble_eq_true rfl⟩ dL_oathsOf_4 (As := [.int a]) (rest := [.int 0, .ref o1]) rfl (fun H locs hP hS => ?_)
  refine lv_i2l hx hb dL_oathsOf_7 rfl ?_
  refine j_last (S := S1) (M := M) (x := x) (d := d) X hap hP hS (Or.inl (Or.inr (Or.inr (Or.inl rfl)))) dL_oathsOf_8 (fun H locs hP hS => ?_)
  refine lv_goto (tgt := 15) hx hb dL_oathsOf_9 (by decide) ?_
  refine lv_iconst (v := 0) hx hb dL_oathsOf_15 (by decide) ?_
  exact hret _ _ _ _ _ _ dL_oathsOf_16 hP hS (Nat.le_of_ble_eq_true rfl) (Nat.le_of_ble_eq_true rfl))
theorem xt1_oathsOf {a : Int32} (hap : APJ b1 b2 o1 o2) (hM : gThr l yX10_oathsOf cX10_oathsOf 2 (some .int) 4 (cΩ (caOf b1)) (cP dC dI cg kA (caOf b1)) (kR kTab kA) [.ref (caOf b1 0), .int a] S "java/lang/IndexOutOfBoundsException" S1) : gMetX l yL_oathsOf cL_oathsOf 4 [(0, 9, 12, 13)] 26 1 6 (jΩ b1 b2 o1 o2) (jP dC dI cg kA b1 b2 o1 o2 cL cD) (kR kTab kA) [.ref (caOf b1 0), .int a, .ref o1] (S, M, x, d) 1 (S1, M, x, d) := gEntryX (by decide) jOK (Nat.le_of_ble_eq_true rfl) (fun p e s m args below meth c Q ls X hT hP hS hret hl => by
  have hx := X.hx
  have hb := X.hb
  refine lv_aload_n hx hb dL_oathsOf_0 rfl (lv_at hl 2 rfl) ?_
  refine lv_iconst (v := 0) hx hb dL_oathsOf_1 (by decide) ?_
  refine lv_aload_n hx hb dL_oathsOf_2 rfl (lv_at hl 0 rfl) ?_
  refine lv_iload_n hx hb dL_oathsOf_3 rfl (lv_at hl 1 rfl) ?_
  refine gCallWT X (gF_ok cOK (fsC hap)) (hM.lift (fsC hap)) (cw_V 1 X (gT_V tw1377 tw1378 tw1379 tw1 tw1380) ⟨rfl, by decide, by decide, by decide +kernel⟩ ⟨by decide, by decide⟩) rfl hP hS (jA hS.1) (cr_rec hP.1 (rfl : kc 0 = 0) rfl cw0 rfl) hl.1 (Nat.le_of_ble_eq_true rfl) ⟨Nat.le_of_ble_eq_true rfl, Nat.le_of_ble_eq_true rfl⟩ dL_oathsOf_4 (As := [.int a]) (rest := [.int 0, .ref o1]) rfl (fun H locs q9 ce hP hS hce hcv hcl => ?_)
  refine vx_catch (own := "GranaryWatchLaw") (name := "java/lang/IndexOutOfBoundsException") (E := "java/lang/IndexOutOfBoundsException") X.hown [] ⟨0, 9, 12, 13⟩ [] (hT.trans rfl) (fun z hz => nomatch hz) (by decide) (by decide) (X.hts _ tw1299) (xw_use rfl (X.ks.2.1 _ xc13)) hce hcv hcl ?_
  refine W.eq (g2 := F0 m 12 ls [.ref q9]) rfl ?_
  refine lv_astore_n (lv' := [(3, .ref q9), (0, .ref (caOf b1 0)), (1, .int a), (2, .ref o1)]) hx hb dL_oathsOf_12 rfl hl (by decide) rfl (fun ls hl => ?_)
  refine lv_iconst (v := 1) hx hb dL_oathsOf_13 (by decide) ?_
  exact hret _ _ _ _ _ _ dL_oathsOf_14 hP hS (Nat.le_of_ble_eq_true rfl) (Nat.le_of_ble_eq_true rfl))
theorem xo_grainIn {a : Int32} {y : Int32} (hap : APJ b1 b2 o1 o2) (hM : gMetIA l yX10_grainIn cX10_grainIn 2 (some .int) 2 0 0 (cΩ (caOf b1)) (cP dC dI cg kA (caOf b1)) (kR kTab kA) [.ref (caOf b1 0), .int a] S y S1) : gMetX l yL_grainIn cL_grainIn 4 [(0, 9, 12, 13)] 26 1 6 (jΩ b1 b2 o1 o2) (jP dC dI cg kA b1 b2 o1 o2 cL cD) (kR kTab kA) [.ref (caOf b1 0), .int a, .ref o1] (S, M, x, d) 0 (S1, M, y.toInt64, d) := gEntryX (by decide) jOK (Nat.le_of_ble_eq_true rfl) (fun p e s m args below meth c Q ls X hT hP hS hret hl => by
  have hx := X.hx
  have hb := X.hb
  refine lv_aload_n hx hb dL_grainIn_0 rfl (lv_at hl 2 rfl) ?_
  refine lv_iconst (v := 0) hx hb dL_grainIn_1 (by decide) ?_
  refine lv_aload_n hx hb dL_grainIn_2 rfl (lv_at hl 0 rfl) ?_
  refine lv_iload_n hx hb dL_grainIn_3 rfl (lv_at hl 1 rfl) ?_
  refine gCallWI X (gF_ok cOK (fsC hap)) (hM.lift (fsC hap)) (cw_V 1 X (gT_V tw1384 tw1385 tw1386 tw1 tw1387) ⟨rfl, by decide, by decide, by decide +kernel⟩ ⟨by decide, by decide⟩) rfl hP hS (jA hS.1) (cr_rec hP.1 (rfl : kc 0 = 0) rfl cw0 rfl) hl.1 (Nat.le_of_ble_eq_true rfl) ⟨Nat.le_of_ble_eq_true rfl, Nat.le_of_ble_eq_true rfl⟩ dL_grainIn_4 (As := [.int a]) (rest := [.int 0, .ref o1]) rfl (fun H locs hP hS => ?_)
  refine lv_i2l hx hb dL_grainIn_7 rfl ?_
  refine j_last (S := S1) (M := M) (x := x) (d := d) X hap hP hS (Or.inl (Or.inr (Or.inr (Or.inl rfl)))) dL_grainIn_8 (fun H locs hP hS => ?_)
  refine lv_goto (tgt := 15) hx hb dL_grainIn_9 (by decide) ?_
  refine lv_iconst (v := 0) hx hb dL_grainIn_15 (by decide) ?_
  exact hret _ _ _ _ _ _ dL_grainIn_16 hP hS (Nat.le_of_ble_eq_true rfl) (Nat.le_of_ble_eq_true rfl))
theorem xt1_grainIn {a : Int32} (hap : APJ b1 b2 o1 o2) (hM : gThr l yX10_grainIn cX10_grainIn 2 (some .int) 4 (cΩ (caOf b1)) (cP dC dI cg kA (caOf b1)) (kR kTab kA) [.ref (caOf b1 0), .int a] S "java/lang/IndexOutOfBoundsException" S1) : gMetX l yL_grainIn cL_grainIn 4 [(0, 9, 12, 13)] 26 1 6 (jΩ b1 b2 o1 o2) (jP dC dI cg kA b1 b2 o1 o2 cL cD) (kR kTab kA) [.ref (caOf b1 0), .int a, .ref o1] (S, M, x, d) 1 (S1, M, x, d) := gEntryX (by decide) jOK (Nat.le_of_ble_eq_true rfl) (fun p e s m args below meth c Q ls X hT hP hS hret hl => by
  have hx := X.hx
  have hb := X.hb
  refine lv_aload_n hx hb dL_grainIn_0 rfl (lv_at hl 2 rfl) ?_
  refine lv_iconst (v := 0) hx hb dL_grainIn_1 (by decide) ?_
  refine lv_aload_n hx hb dL_grainIn_2 rfl (lv_at hl 0 rfl) ?_
  refine lv_iload_n hx hb dL_grainIn_3 rfl (lv_at hl 1 rfl) ?_
  refine gCallWT X (gF_ok cOK (fsC hap)) (hM.lift (fsC hap)) (cw_V 1 X (gT_V tw1384 tw1385 tw1386 tw1 tw1387) ⟨rfl, by decide, by decide, by decide +kernel⟩ ⟨by decide, by decide⟩) rfl hP hS (jA hS.1) (cr_rec hP.1 (rfl : kc 0 = 0) rfl cw0 rfl) hl.1 (Nat.le_of_ble_eq_true rfl) ⟨Nat.le_of_ble_eq_true rfl, Nat.le_of_ble_eq_true rfl⟩ dL_grainIn_4 (As := [.int a]) (rest := [.int 0, .ref o1]) rfl (fun H locs q9 ce hP hS hce hcv hcl => ?_)
  refine vx_catch (own := "GranaryWatchLaw") (name := "java/lang/IndexOutOfBoundsException") (E := "java/lang/IndexOutOfBoundsException") X.hown [] ⟨0, 9, 12, 13⟩ [] (hT.trans rfl) (fun z hz => nomatch hz) (by decide) (by decide) (X.hts _ tw1299) (xw_use rfl (X.ks.2.1 _ xc13)) hce hcv hcl ?_
  refine W.eq (g2 := F0 m 12 ls [.ref q9]) rfl ?_
  refine lv_astore_n (lv' := [(3, .ref q9), (0, .ref (caOf b1 0)), (1, .int a), (2, .ref o1)]) hx hb dL_grainIn_12 rfl hl (by decide) rfl (fun ls hl => ?_)
  refine lv_iconst (v := 1) hx hb dL_grainIn_13 (by decide) ?_
  exact hret _ _ _ _ _ _ dL_grainIn_14 hP hS (Nat.le_of_ble_eq_true rfl) (Nat.le_of_ble_eq_true rfl))
theorem xo_miceIn {a : Int32} {y : Int32} (hap : APJ b1 b2 o1 o2) (hM : gMetIA l yX10_miceIn cX10_miceIn 2 (some .int) 2 0 0 (cΩ (caOf b1)) (cP dC dI cg kA (caOf b1)) (kR kTab kA) [.ref (caOf b1 0), .int a] S y S1) : gMetX l yL_miceIn cL_miceIn 4 [(0, 9, 12, 13)] 26 1 6 (jΩ b1 b2 o1 o2) (jP dC dI cg kA b1 b2 o1 o2 cL cD) (kR kTab kA) [.ref (caOf b1 0), .int a, .ref o1] (S, M, x, d) 0 (S1, M, y.toInt64, d) := gEntryX (by decide) jOK (Nat.le_of_ble_eq_true rfl) (fun p e s m args below meth c Q ls X hT hP hS hret hl => by
  have hx := X.hx
  have hb := X.hb
  refine lv_aload_n hx hb dL_miceIn_0 rfl (lv_at hl 2 rfl) ?_
  refine lv_iconst (v := 0) hx hb dL_miceIn_1 (by decide) ?_
  refine lv_aload_n hx hb dL_miceIn_2 rfl (lv_at hl 0 rfl) ?_
  refine lv_iload_n hx hb dL_miceIn_3 rfl (lv_at hl 1 rfl) ?_
  refine gCallWI X (gF_ok cOK (fsC hap)) (hM.lift (fsC hap)) (cw_V 1 X (gT_V tw1391 tw1392 tw1393 tw1 tw1394) ⟨rfl, by decide, by decide, by decide +kernel⟩ ⟨by decide, by decide⟩) rfl hP hS (jA hS.1) (cr_rec hP.1 (rfl : kc 0 = 0) rfl cw0 rfl) hl.1 (Nat.le_of_ble_eq_true rfl) ⟨Nat.le_of_ble_eq_true rfl, Nat.le_of_ble_eq_true rfl⟩ dL_miceIn_4 (As := [.int a]) (rest := [.int 0, .ref o1]) rfl (fun H locs hP hS => ?_)
  refine lv_i2l hx hb dL_miceIn_7 rfl ?_
  refine j_last (S := S1) (M := M) (x := x) (d := d) X hap hP hS (Or.inl (Or.inr (Or.inr (Or.inl rfl)))) dL_miceIn_8 (fun H locs hP hS => ?_)
  refine lv_goto (tgt := 15) hx hb dL_miceIn_9 (by decide) ?_
  refine lv_iconst (v := 0) hx hb dL_miceIn_15 (by decide) ?_
  exact hret _ _ _ _ _ _ dL_miceIn_16 hP hS (Nat.le_of_ble_eq_true rfl) (Nat.le_of_ble_eq_true rfl))
theorem xt1_miceIn {a : Int32} (hap : APJ b1 b2 o1 o2) (hM : gThr l yX10_miceIn cX10_miceIn 2 (some .int) 4 (cΩ (caOf b1)) (cP dC dI cg kA (caOf b1)) (kR kTab kA) [.ref (caOf b1 0), .int a] S "java/lang/IndexOutOfBoundsException" S1) : gMetX l yL_miceIn cL_miceIn 4 [(0, 9, 12, 13)] 26 1 6 (jΩ b1 b2 o1 o2) (jP dC dI cg kA b1 b2 o1 o2 cL cD) (kR kTab kA) [.ref (caOf b1 0), .int a, .ref o1] (S, M, x, d) 1 (S1, M, x, d) := gEntryX (by decide) jOK (Nat.le_of_ble_eq_true rfl) (fun p e s m args below meth c Q ls X hT hP hS hret hl => by
  have hx := X.hx
  have hb := X.hb
  refine lv_aload_n hx hb dL_miceIn_0 rfl (lv_at hl 2 rfl) ?_
  refine lv_iconst (v := 0) hx hb dL_miceIn_1 (by decide) ?_
  refine lv_aload_n hx hb dL_miceIn_2 rfl (lv_at hl 0 rfl) ?_
  refine lv_iload_n hx hb dL_miceIn_3 rfl (lv_at hl 1 rfl) ?_
  refine gCallWT X (gF_ok cOK (fsC hap)) (hM.lift (fsC hap)) (cw_V 1 X (gT_V tw1391 tw1392 tw1393 tw1 tw1394) ⟨rfl, by decide, by decide, by decide +kernel⟩ ⟨by decide, by decide⟩) rfl hP hS (jA hS.1) (cr_rec hP.1 (rfl : kc 0 = 0) rfl cw0 rfl) hl.1 (Nat.le_of_ble_eq_true rfl) ⟨Nat.le_of_ble_eq_true rfl, Nat.le_of_ble_eq_true rfl⟩ dL_miceIn_4 (As := [.int a]) (rest := [.int 0, .ref o1]) rfl (fun H locs q9 ce hP hS hce hcv hcl => ?_)
  refine vx_catch (own := "GranaryWatchLaw") (name := "java/lang/IndexOutOfBoundsException") (E := "java/lang/IndexOutOfBoundsException") X.hown [] ⟨0, 9, 12, 13⟩ [] (hT.trans rfl) (fun z hz => nomatch hz) (by decide) (by decide) (X.hts _ tw1299) (xw_use rfl (X.ks.2.1 _ xc13)) hce hcv hcl ?_
  refine W.eq (g2 := F0 m 12 ls [.ref q9]) rfl ?_
  refine lv_astore_n (lv' := [(3, .ref q9), (0, .ref (caOf b1 0)), (1, .int a), (2, .ref o1)]) hx hb dL_miceIn_12 rfl hl (by decide) rfl (fun ls hl => ?_)
  refine lv_iconst (v := 1) hx hb dL_miceIn_13 (by decide) ?_
  exact hret _ _ _ _ _ _ dL_miceIn_14 hP hS (Nat.le_of_ble_eq_true rfl) (Nat.le_of_ble_eq_true rfl))
theorem xo_isOpen {a : Int32} {y : Int32} (hap : APJ b1 b2 o1 o2) (hM : gMetIA l yX10_isOpen cX10_isOpen 2 (some .boolean) 2 0 0 (cΩ (caOf b1)) (cP dC dI cg kA (caOf b1)) (kR kTab kA) [.ref (caOf b1 0), .int a] S y S1) : gMetX l yL_isOpen cL_isOpen 4 [(0, 16, 19, 13)] 26 1 6 (jΩ b1 b2 o1 o2) (jP dC dI cg kA b1 b2 o1 o2 cL cD) (kR kTab kA) [.ref (caOf b1 0), .int a, .ref o1] (S, M, x, d) 0 (S1, M, (if y = 0 then 0 else 1), d) := gEntryX (by decide) jOK (Nat.le_of_ble_eq_true rfl) (fun p e s m args below meth c Q ls X hT hP hS hret hl => by
  have hx := X.hx
  have hb := X.hb
  refine lv_aload_n hx hb dL_isOpen_0 rfl (lv_at hl 2 rfl) ?_
  refine lv_iconst (v := 0) hx hb dL_isOpen_1 (by decide) ?_
  refine lv_aload_n hx hb dL_isOpen_2 rfl (lv_at hl 0 rfl) ?_
  refine lv_iload_n hx hb dL_isOpen_3 rfl (lv_at hl 1 rfl) ?_
  refine gCallWI X (gF_ok cOK (fsC hap)) (hM.lift (fsC hap)) (cw_V 1 X (gT_V tw1398 tw1399 tw1400 tw1 tw1401) ⟨rfl, by decide, by decide, by decide +kernel⟩ ⟨by decide, by decide⟩) rfl hP hS (jA hS.1) (cr_rec hP.1 (rfl : kc 0 = 0) rfl cw0 rfl) hl.1 (Nat.le_of_ble_eq_true rfl) ⟨Nat.le_of_ble_eq_true rfl, Nat.le_of_ble_eq_true rfl⟩ dL_isOpen_4 (As := [.int a]) (rest := [.int 0, .ref o1]) rfl (fun H locs hP hS => ?_)
  refine lv_if_eq (tgt := 14) hx hb dL_isOpen_7 (by decide) (fun hy => ?_) (fun hy => ?_)
  · refine lv_lconst (v := 0) hx hb dL_isOpen_14 (by decide) ?_
    refine j_last (S := S1) (M := M) (x := x) (d := d) X hap hP hS (Or.inl (Or.inr (Or.inr (Or.inl rfl)))) dL_isOpen_15 (fun H locs hP hS => ?_)
    refine lv_goto (tgt := 22) hx hb dL_isOpen_16 (by decide) ?_
    refine lv_iconst (v := 0) hx hb dL_isOpen_22 (by decide) ?_
    exact hret _ _ _ _ _ _ dL_isOpen_23 (by rw [if_pos hy]; exact hP) hS (Nat.le_of_ble_eq_true rfl) (Nat.le_of_ble_eq_true rfl)
  · refine lv_lconst (v := 1) hx hb dL_isOpen_10 (by decide) ?_
    refine lv_goto (tgt := 15) hx hb dL_isOpen_11 (by decide) ?_
    refine j_last (S := S1) (M := M) (x := x) (d := d) X hap hP hS (Or.inl (Or.inr (Or.inr (Or.inl rfl)))) dL_isOpen_15 (fun H locs hP hS => ?_)
    refine lv_goto (tgt := 22) hx hb dL_isOpen_16 (by decide) ?_
    refine lv_iconst (v := 0) hx hb dL_isOpen_22 (by decide) ?_
    exact hret _ _ _ _ _ _ dL_isOpen_23 (by rw [if_neg hy]; exact hP) hS (Nat.le_of_ble_eq_true rfl) (Nat.le_of_ble_eq_true rfl))
theorem xt1_isOpen {a : Int32} (hap : APJ b1 b2 o1 o2) (hM : gThr l yX10_isOpen cX10_isOpen 2 (some .boolean) 4 (cΩ (caOf b1)) (cP dC dI cg kA (caOf b1)) (kR kTab kA) [.ref (caOf b1 0), .int a] S "java/lang/IndexOutOfBoundsException" S1) : gMetX l yL_isOpen cL_isOpen 4 [(0, 16, 19, 13)] 26 1 6 (jΩ b1 b2 o1 o2) (jP dC dI cg kA b1 b2 o1 o2 cL cD) (kR kTab kA) [.ref (caOf b1 0), .int a, .ref o1] (S, M, x, d) 1 (S1, M, x, d) := gEntryX (by decide) jOK (Nat.le_of_ble_eq_true rfl) (fun p e s m args below meth c Q ls X hT hP hS hret hl => by
  have hx := X.hx
  have hb := X.hb
  refine lv_aload_n hx hb dL_isOpen_0 rfl (lv_at hl 2 rfl) ?_
  refine lv_iconst (v := 0) hx hb dL_isOpen_1 (by decide) ?_
  refine lv_aload_n hx hb dL_isOpen_2 rfl (lv_at hl 0 rfl) ?_
  refine lv_iload_n hx hb dL_isOpen_3 rfl (lv_at hl 1 rfl) ?_
  refine gCallWT X (gF_ok cOK (fsC hap)) (hM.lift (fsC hap)) (cw_V 1 X (gT_V tw1398 tw1399 tw1400 tw1 tw1401) ⟨rfl, by decide, by decide, by decide +kernel⟩ ⟨by decide, by decide⟩) rfl hP hS (jA hS.1) (cr_rec hP.1 (rfl : kc 0 = 0) rfl cw0 rfl) hl.1 (Nat.le_of_ble_eq_true rfl) ⟨Nat.le_of_ble_eq_true rfl, Nat.le_of_ble_eq_true rfl⟩ dL_isOpen_4 (As := [.int a]) (rest := [.int 0, .ref o1]) rfl (fun H locs q9 ce hP hS hce hcv hcl => ?_)
  refine vx_catch (own := "GranaryWatchLaw") (name := "java/lang/IndexOutOfBoundsException") (E := "java/lang/IndexOutOfBoundsException") X.hown [] ⟨0, 16, 19, 13⟩ [] (hT.trans rfl) (fun z hz => nomatch hz) (by decide) (by decide) (X.hts _ tw1299) (xw_use rfl (X.ks.2.1 _ xc13)) hce hcv hcl ?_
  refine W.eq (g2 := F0 m 19 ls [.ref q9]) rfl ?_
  refine lv_astore_n (lv' := [(3, .ref q9), (0, .ref (caOf b1 0)), (1, .int a), (2, .ref o1)]) hx hb dL_isOpen_19 rfl hl (by decide) rfl (fun ls hl => ?_)
  refine lv_iconst (v := 1) hx hb dL_isOpen_20 (by decide) ?_
  exact hret _ _ _ _ _ _ dL_isOpen_21 hP hS (Nat.le_of_ble_eq_true rfl) (Nat.le_of_ble_eq_true rfl))
theorem xo_eatenFrom {a : Int32} {y : Int32} (hap : APJ b1 b2 o1 o2) (hM : gMetIA l yX10_eatenFrom cX10_eatenFrom 2 (some .int) 2 0 0 (cΩ (caOf b1)) (cP dC dI cg kA (caOf b1)) (kR kTab kA) [.ref (caOf b1 0), .int a] S y S1) : gMetX l yL_eatenFrom cL_eatenFrom 4 [(0, 9, 12, 13)] 26 1 6 (jΩ b1 b2 o1 o2) (jP dC dI cg kA b1 b2 o1 o2 cL cD) (kR kTab kA) [.ref (caOf b1 0), .int a, .ref o1] (S, M, x, d) 0 (S1, M, y.toInt64, d) := gEntryX (by decide) jOK (Nat.le_of_ble_eq_true rfl) (fun p e s m args below meth c Q ls X hT hP hS hret hl => by
  have hx := X.hx
  have hb := X.hb
  refine lv_aload_n hx hb dL_eatenFrom_0 rfl (lv_at hl 2 rfl) ?_
  refine lv_iconst (v := 0) hx hb dL_eatenFrom_1 (by decide) ?_
  refine lv_aload_n hx hb dL_eatenFrom_2 rfl (lv_at hl 0 rfl) ?_
  refine lv_iload_n hx hb dL_eatenFrom_3 rfl (lv_at hl 1 rfl) ?_
  refine gCallWI X (gF_ok cOK (fsC hap)) (hM.lift (fsC hap)) (cw_V 1 X (gT_V tw1405 tw1406 tw1407 tw1 tw1408) ⟨rfl, by decide, by decide, by decide +kernel⟩ ⟨by decide, by decide⟩) rfl hP hS (jA hS.1) (cr_rec hP.1 (rfl : kc 0 = 0) rfl cw0 rfl) hl.1 (Nat.le_of_ble_eq_true rfl) ⟨Nat.le_of_ble_eq_true rfl, Nat.le_of_ble_eq_true rfl⟩ dL_eatenFrom_4 (As := [.int a]) (rest := [.int 0, .ref o1]) rfl (fun H locs hP hS => ?_)
  refine lv_i2l hx hb dL_eatenFrom_7 rfl ?_
  refine j_last (S := S1) (M := M) (x := x) (d := d) X hap hP hS (Or.inl (Or.inr (Or.inr (Or.inl rfl)))) dL_eatenFrom_8 (fun H locs hP hS => ?_)
  refine lv_goto (tgt := 15) hx hb dL_eatenFrom_9 (by decide) ?_
  refine lv_iconst (v := 0) hx hb dL_eatenFrom_15 (by decide) ?_
  exact hret _ _ _ _ _ _ dL_eatenFrom_16 hP hS (Nat.le_of_ble_eq_true rfl) (Nat.le_of_ble_eq_true rfl))
theorem xt1_eatenFrom {a : Int32} (hap : APJ b1 b2 o1 o2) (hM : gThr l yX10_eatenFrom cX10_eatenFrom 2 (some .int) 4 (cΩ (caOf b1)) (cP dC dI cg kA (caOf b1)) (kR kTab kA) [.ref (caOf b1 0), .int a] S "java/lang/IndexOutOfBoundsException" S1) : gMetX l yL_eatenFrom cL_eatenFrom 4 [(0, 9, 12, 13)] 26 1 6 (jΩ b1 b2 o1 o2) (jP dC dI cg kA b1 b2 o1 o2 cL cD) (kR kTab kA) [.ref (caOf b1 0), .int a, .ref o1] (S, M, x, d) 1 (S1, M, x, d) := gEntryX (by decide) jOK (Nat.le_of_ble_eq_true rfl) (fun p e s m args below meth c Q ls X hT hP hS hret hl => by
  have hx := X.hx
  have hb := X.hb
  refine lv_aload_n hx hb dL_eatenFrom_0 rfl (lv_at hl 2 rfl) ?_
  refine lv_iconst (v := 0) hx hb dL_eatenFrom_1 (by decide) ?_
  refine lv_aload_n hx hb dL_eatenFrom_2 rfl (lv_at hl 0 rfl) ?_
  refine lv_iload_n hx hb dL_eatenFrom_3 rfl (lv_at hl 1 rfl) ?_
  refine gCallWT X (gF_ok cOK (fsC hap)) (hM.lift (fsC hap)) (cw_V 1 X (gT_V tw1405 tw1406 tw1407 tw1 tw1408) ⟨rfl, by decide, by decide, by decide +kernel⟩ ⟨by decide, by decide⟩) rfl hP hS (jA hS.1) (cr_rec hP.1 (rfl : kc 0 = 0) rfl cw0 rfl) hl.1 (Nat.le_of_ble_eq_true rfl) ⟨Nat.le_of_ble_eq_true rfl, Nat.le_of_ble_eq_true rfl⟩ dL_eatenFrom_4 (As := [.int a]) (rest := [.int 0, .ref o1]) rfl (fun H locs q9 ce hP hS hce hcv hcl => ?_)
  refine vx_catch (own := "GranaryWatchLaw") (name := "java/lang/IndexOutOfBoundsException") (E := "java/lang/IndexOutOfBoundsException") X.hown [] ⟨0, 9, 12, 13⟩ [] (hT.trans rfl) (fun z hz => nomatch hz) (by decide) (by decide) (X.hts _ tw1299) (xw_use rfl (X.ks.2.1 _ xc13)) hce hcv hcl ?_
  refine W.eq (g2 := F0 m 12 ls [.ref q9]) rfl ?_
  refine lv_astore_n (lv' := [(3, .ref q9), (0, .ref (caOf b1 0)), (1, .int a), (2, .ref o1)]) hx hb dL_eatenFrom_12 rfl hl (by decide) rfl (fun ls hl => ?_)
  refine lv_iconst (v := 1) hx hb dL_eatenFrom_13 (by decide) ?_
  exact hret _ _ _ _ _ _ dL_eatenFrom_14 hP hS (Nat.le_of_ble_eq_true rfl) (Nat.le_of_ble_eq_true rfl))
theorem xo_catOfShift {a : Int32} {y : Int32} (hap : APJ b1 b2 o1 o2) (hM : gMetIA l yX10_catOfShift cX10_catOfShift 2 (some .int) 2 0 0 (cΩ (caOf b1)) (cP dC dI cg kA (caOf b1)) (kR kTab kA) [.ref (caOf b1 0), .int a] S y S1) : gMetX l yL_catOfShift cL_catOfShift 4 [(0, 9, 12, 13)] 26 1 6 (jΩ b1 b2 o1 o2) (jP dC dI cg kA b1 b2 o1 o2 cL cD) (kR kTab kA) [.ref (caOf b1 0), .int a, .ref o1] (S, M, x, d) 0 (S1, M, y.toInt64, d) := gEntryX (by decide) jOK (Nat.le_of_ble_eq_true rfl) (fun p e s m args below meth c Q ls X hT hP hS hret hl => by
  have hx := X.hx
  have hb := X.hb
  refine lv_aload_n hx hb dL_catOfShift_0 rfl (lv_at hl 2 rfl) ?_
  refine lv_iconst (v := 0) hx hb dL_catOfShift_1 (by decide) ?_
  refine lv_aload_n hx hb dL_catOfShift_2 rfl (lv_at hl 0 rfl) ?_
  refine lv_iload_n hx hb dL_catOfShift_3 rfl (lv_at hl 1 rfl) ?_
  refine gCallWI X (gF_ok cOK (fsC hap)) (hM.lift (fsC hap)) (cw_V 1 X (gT_V tw1412 tw1413 tw1414 tw1 tw1415) ⟨rfl, by decide, by decide, by decide +kernel⟩ ⟨by decide, by decide⟩) rfl hP hS (jA hS.1) (cr_rec hP.1 (rfl : kc 0 = 0) rfl cw0 rfl) hl.1 (Nat.le_of_ble_eq_true rfl) ⟨Nat.le_of_ble_eq_true rfl, Nat.le_of_ble_eq_true rfl⟩ dL_catOfShift_4 (As := [.int a]) (rest := [.int 0, .ref o1]) rfl (fun H locs hP hS => ?_)
  refine lv_i2l hx hb dL_catOfShift_7 rfl ?_
  refine j_last (S := S1) (M := M) (x := x) (d := d) X hap hP hS (Or.inl (Or.inr (Or.inr (Or.inl rfl)))) dL_catOfShift_8 (fun H locs hP hS => ?_)
  refine lv_goto (tgt := 15) hx hb dL_catOfShift_9 (by decide) ?_
  refine lv_iconst (v := 0) hx hb dL_catOfShift_15 (by decide) ?_
  exact hret _ _ _ _ _ _ dL_catOfShift_16 hP hS (Nat.le_of_ble_eq_true rfl) (Nat.le_of_ble_eq_true rfl))
theorem xt1_catOfShift {a : Int32} (hap : APJ b1 b2 o1 o2) (hM : gThr l yX10_catOfShift cX10_catOfShift 2 (some .int) 4 (cΩ (caOf b1)) (cP dC dI cg kA (caOf b1)) (kR kTab kA) [.ref (caOf b1 0), .int a] S "java/lang/IndexOutOfBoundsException" S1) : gMetX l yL_catOfShift cL_catOfShift 4 [(0, 9, 12, 13)] 26 1 6 (jΩ b1 b2 o1 o2) (jP dC dI cg kA b1 b2 o1 o2 cL cD) (kR kTab kA) [.ref (caOf b1 0), .int a, .ref o1] (S, M, x, d) 1 (S1, M, x, d) := gEntryX (by decide) jOK (Nat.le_of_ble_eq_true rfl) (fun p e s m args below meth c Q ls X hT hP hS hret hl => by
  have hx := X.hx
  have hb := X.hb
  refine lv_aload_n hx hb dL_catOfShift_0 rfl (lv_at hl 2 rfl) ?_
  refine lv_iconst (v := 0) hx hb dL_catOfShift_1 (by decide) ?_
  refine lv_aload_n hx hb dL_catOfShift_2 rfl (lv_at hl 0 rfl) ?_
  refine lv_iload_n hx hb dL_catOfShift_3 rfl (lv_at hl 1 rfl) ?_
  refine gCallWT X (gF_ok cOK (fsC hap)) (hM.lift (fsC hap)) (cw_V 1 X (gT_V tw1412 tw1413 tw1414 tw1 tw1415) ⟨rfl, by decide, by decide, by decide +kernel⟩ ⟨by decide, by decide⟩) rfl hP hS (jA hS.1) (cr_rec hP.1 (rfl : kc 0 = 0) rfl cw0 rfl) hl.1 (Nat.le_of_ble_eq_true rfl) ⟨Nat.le_of_ble_eq_true rfl, Nat.le_of_ble_eq_true rfl⟩ dL_catOfShift_4 (As := [.int a]) (rest := [.int 0, .ref o1]) rfl (fun H locs q9 ce hP hS hce hcv hcl => ?_)
  refine vx_catch (own := "GranaryWatchLaw") (name := "java/lang/IndexOutOfBoundsException") (E := "java/lang/IndexOutOfBoundsException") X.hown [] ⟨0, 9, 12, 13⟩ [] (hT.trans rfl) (fun z hz => nomatch hz) (by decide) (by decide) (X.hts _ tw1299) (xw_use rfl (X.ks.2.1 _ xc13)) hce hcv hcl ?_
  refine W.eq (g2 := F0 m 12 ls [.ref q9]) rfl ?_
  refine lv_astore_n (lv' := [(3, .ref q9), (0, .ref (caOf b1 0)), (1, .int a), (2, .ref o1)]) hx hb dL_catOfShift_12 rfl hl (by decide) rfl (fun ls hl => ?_)
  refine lv_iconst (v := 1) hx hb dL_catOfShift_13 (by decide) ?_
  exact hret _ _ _ _ _ _ dL_catOfShift_14 hP hS (Nat.le_of_ble_eq_true rfl) (Nat.le_of_ble_eq_true rfl))
theorem xo_hoursOfShift {a : Int32} {y : Int32} (hap : APJ b1 b2 o1 o2) (hM : gMetIA l yX10_hoursOfShift cX10_hoursOfShift 2 (some .int) 2 0 0 (cΩ (caOf b1)) (cP dC dI cg kA (caOf b1)) (kR kTab kA) [.ref (caOf b1 0), .int a] S y S1) : gMetX l yL_hoursOfShift cL_hoursOfShift 4 [(0, 9, 12, 13)] 26 1 6 (jΩ b1 b2 o1 o2) (jP dC dI cg kA b1 b2 o1 o2 cL cD) (kR kTab kA) [.ref (caOf b1 0), .int a, .ref o1] (S, M, x, d) 0 (S1, M, y.toInt64, d) := gEntryX (by decide) jOK (Nat.le_of_ble_eq_true rfl) (fun p e s m args below meth c Q ls X hT hP hS hret hl => by
  have hx := X.hx
  have hb := X.hb
  refine lv_aload_n hx hb dL_hoursOfShift_0 rfl (lv_at hl 2 rfl) ?_
  refine lv_iconst (v := 0) hx hb dL_hoursOfShift_1 (by decide) ?_
  refine lv_aload_n hx hb dL_hoursOfShift_2 rfl (lv_at hl 0 rfl) ?_
  refine lv_iload_n hx hb dL_hoursOfShift_3 rfl (lv_at hl 1 rfl) ?_
  refine gCallWI X (gF_ok cOK (fsC hap)) (hM.lift (fsC hap)) (cw_V 1 X (gT_V tw1424 tw1425 tw1426 tw1 tw1427) ⟨rfl, by decide, by decide, by decide +kernel⟩ ⟨by decide, by decide⟩) rfl hP hS (jA hS.1) (cr_rec hP.1 (rfl : kc 0 = 0) rfl cw0 rfl) hl.1 (Nat.le_of_ble_eq_true rfl) ⟨Nat.le_of_ble_eq_true rfl, Nat.le_of_ble_eq_true rfl⟩ dL_hoursOfShift_4 (As := [.int a]) (rest := [.int 0, .ref o1]) rfl (fun H locs hP hS => ?_)
  refine lv_i2l hx hb dL_hoursOfShift_7 rfl ?_
  refine j_last (S := S1) (M := M) (x := x) (d := d) X hap hP hS (Or.inl (Or.inr (Or.inr (Or.inl rfl)))) dL_hoursOfShift_8 (fun H locs hP hS => ?_)
  refine lv_goto (tgt := 15) hx hb dL_hoursOfShift_9 (by decide) ?_
  refine lv_iconst (v := 0) hx hb dL_hoursOfShift_15 (by decide) ?_
  exact hret _ _ _ _ _ _ dL_hoursOfShift_16 hP hS (Nat.le_of_ble_eq_true rfl) (Nat.le_of_ble_eq_true rfl))
theorem xt1_hoursOfShift {a : Int32} (hap : APJ b1 b2 o1 o2) (hM : gThr l yX10_hoursOfShift cX10_hoursOfShift 2 (some .int) 4 (cΩ (caOf b1)) (cP dC dI cg kA (caOf b1)) (kR kTab kA) [.ref (caOf b1 0), .int a] S "java/lang/IndexOutOfBoundsException" S1) : gMetX l yL_hoursOfShift cL_hoursOfShift 4 [(0, 9, 12, 13)] 26 1 6 (jΩ b1 b2 o1 o2) (jP dC dI cg kA b1 b2 o1 o2 cL cD) (kR kTab kA) [.ref (caOf b1 0), .int a, .ref o1] (S, M, x, d) 1 (S1, M, x, d) := gEntryX (by decide) jOK (Nat.le_of_ble_eq_true rfl) (fun p e s m args below meth c Q ls X hT hP hS hret hl => by
  have hx := X.hx
  have hb := X.hb
  refine lv_aload_n hx hb dL_hoursOfShift_0 rfl (lv_at hl 2 rfl) ?_
  refine lv_iconst (v := 0) hx hb dL_hoursOfShift_1 (by decide) ?_
  refine lv_aload_n hx hb dL_hoursOfShift_2 rfl (lv_at hl 0 rfl) ?_
  refine lv_iload_n hx hb dL_hoursOfShift_3 rfl (lv_at hl 1 rfl) ?_
  refine gCallWT X (gF_ok cOK (fsC hap)) (hM.lift (fsC hap)) (cw_V 1 X (gT_V tw1424 tw1425 tw1426 tw1 tw1427) ⟨rfl, by decide, by decide, by decide +kernel⟩ ⟨by decide, by decide⟩) rfl hP hS (jA hS.1) (cr_rec hP.1 (rfl : kc 0 = 0) rfl cw0 rfl) hl.1 (Nat.le_of_ble_eq_true rfl) ⟨Nat.le_of_ble_eq_true rfl, Nat.le_of_ble_eq_true rfl⟩ dL_hoursOfShift_4 (As := [.int a]) (rest := [.int 0, .ref o1]) rfl (fun H locs q9 ce hP hS hce hcv hcl => ?_)
  refine vx_catch (own := "GranaryWatchLaw") (name := "java/lang/IndexOutOfBoundsException") (E := "java/lang/IndexOutOfBoundsException") X.hown [] ⟨0, 9, 12, 13⟩ [] (hT.trans rfl) (fun z hz => nomatch hz) (by decide) (by decide) (X.hts _ tw1299) (xw_use rfl (X.ks.2.1 _ xc13)) hce hcv hcl ?_
  refine W.eq (g2 := F0 m 12 ls [.ref q9]) rfl ?_
  refine lv_astore_n (lv' := [(3, .ref q9), (0, .ref (caOf b1 0)), (1, .int a), (2, .ref o1)]) hx hb dL_hoursOfShift_12 rfl hl (by decide) rfl (fun ls hl => ?_)
  refine lv_iconst (v := 1) hx hb dL_hoursOfShift_13 (by decide) ?_
  exact hret _ _ _ _ _ _ dL_hoursOfShift_14 hP hS (Nat.le_of_ble_eq_true rfl) (Nat.le_of_ble_eq_true rfl))
theorem xo_oathReason {a : Int32} {y : Int32} (hap : APJ b1 b2 o1 o2) (hM : gMetIA l yX10_oathReason cX10_oathReason 2 (some .int) 2 0 0 (cΩ (caOf b1)) (cP dC dI cg kA (caOf b1)) (kR kTab kA) [.ref (caOf b1 0), .int a] S y S1) : gMetX l yL_oathReason cL_oathReason 4 [(0, 9, 12, 13)] 26 1 6 (jΩ b1 b2 o1 o2) (jP dC dI cg kA b1 b2 o1 o2 cL cD) (kR kTab kA) [.ref (caOf b1 0), .int a, .ref o1] (S, M, x, d) 0 (S1, M, y.toInt64, d) := gEntryX (by decide) jOK (Nat.le_of_ble_eq_true rfl) (fun p e s m args below meth c Q ls X hT hP hS hret hl => by
  have hx := X.hx
  have hb := X.hb
  refine lv_aload_n hx hb dL_oathReason_0 rfl (lv_at hl 2 rfl) ?_
  refine lv_iconst (v := 0) hx hb dL_oathReason_1 (by decide) ?_
  refine lv_aload_n hx hb dL_oathReason_2 rfl (lv_at hl 0 rfl) ?_
  refine lv_iload_n hx hb dL_oathReason_3 rfl (lv_at hl 1 rfl) ?_
  refine gCallWI X (gF_ok cOK (fsC hap)) (hM.lift (fsC hap)) (cw_V 1 X (gT_V tw1431 tw1432 tw1433 tw1 tw1434) ⟨rfl, by decide, by decide, by decide +kernel⟩ ⟨by decide, by decide⟩) rfl hP hS (jA hS.1) (cr_rec hP.1 (rfl : kc 0 = 0) rfl cw0 rfl) hl.1 (Nat.le_of_ble_eq_true rfl) ⟨Nat.le_of_ble_eq_true rfl, Nat.le_of_ble_eq_true rfl⟩ dL_oathReason_4 (As := [.int a]) (rest := [.int 0, .ref o1]) rfl (fun H locs hP hS => ?_)
  refine lv_i2l hx hb dL_oathReason_7 rfl ?_
  refine j_last (S := S1) (M := M) (x := x) (d := d) X hap hP hS (Or.inl (Or.inr (Or.inr (Or.inl rfl)))) dL_oathReason_8 (fun H locs hP hS => ?_)
  refine lv_goto (tgt := 15) hx hb dL_oathReason_9 (by decide) ?_
  refine lv_iconst (v := 0) hx hb dL_oathReason_15 (by decide) ?_
  exact hret _ _ _ _ _ _ dL_oathReason_16 hP hS (Nat.le_of_ble_eq_true rfl) (Nat.le_of_ble_eq_true rfl))
theorem xt1_oathReason {a : Int32} (hap : APJ b1 b2 o1 o2) (hM : gThr l yX10_oathReason cX10_oathReason 2 (some .int) 4 (cΩ (caOf b1)) (cP dC dI cg kA (caOf b1)) (kR kTab kA) [.ref (caOf b1 0), .int a] S "java/lang/IndexOutOfBoundsException" S1) : gMetX l yL_oathReason cL_oathReason 4 [(0, 9, 12, 13)] 26 1 6 (jΩ b1 b2 o1 o2) (jP dC dI cg kA b1 b2 o1 o2 cL cD) (kR kTab kA) [.ref (caOf b1 0), .int a, .ref o1] (S, M, x, d) 1 (S1, M, x, d) := gEntryX (by decide) jOK (Nat.le_of_ble_eq_true rfl) (fun p e s m args below meth c Q ls X hT hP hS hret hl => by
  have hx := X.hx
  have hb := X.hb
  refine lv_aload_n hx hb dL_oathReason_0 rfl (lv_at hl 2 rfl) ?_
  refine lv_iconst (v := 0) hx hb dL_oathReason_1 (by decide) ?_
  refine lv_aload_n hx hb dL_oathReason_2 rfl (lv_at hl 0 rfl) ?_
  refine lv_iload_n hx hb dL_oathReason_3 rfl (lv_at hl 1 rfl) ?_
  refine gCallWT X (gF_ok cOK (fsC hap)) (hM.lift (fsC hap)) (cw_V 1 X (gT_V tw1431 tw1432 tw1433 tw1 tw1434) ⟨rfl, by decide, by decide, by decide +kernel⟩ ⟨by decide, by decide⟩) rfl hP hS (jA hS.1) (cr_rec hP.1 (rfl : kc 0 = 0) rfl cw0 rfl) hl.1 (Nat.le_of_ble_eq_true rfl) ⟨Nat.le_of_ble_eq_true rfl, Nat.le_of_ble_eq_true rfl⟩ dL_oathReason_4 (As := [.int a]) (rest := [.int 0, .ref o1]) rfl (fun H locs q9 ce hP hS hce hcv hcl => ?_)
  refine vx_catch (own := "GranaryWatchLaw") (name := "java/lang/IndexOutOfBoundsException") (E := "java/lang/IndexOutOfBoundsException") X.hown [] ⟨0, 9, 12, 13⟩ [] (hT.trans rfl) (fun z hz => nomatch hz) (by decide) (by decide) (X.hts _ tw1299) (xw_use rfl (X.ks.2.1 _ xc13)) hce hcv hcl ?_
  refine W.eq (g2 := F0 m 12 ls [.ref q9]) rfl ?_
  refine lv_astore_n (lv' := [(3, .ref q9), (0, .ref (caOf b1 0)), (1, .int a), (2, .ref o1)]) hx hb dL_oathReason_12 rfl hl (by decide) rfl (fun ls hl => ?_)
  refine lv_iconst (v := 1) hx hb dL_oathReason_13 (by decide) ?_
  exact hret _ _ _ _ _ _ dL_oathReason_14 hP hS (Nat.le_of_ble_eq_true rfl) (Nat.le_of_ble_eq_true rfl))
theorem xo_miceAfter {a : Int32} {b : Int32} {y : Int32} (hap : APJ b1 b2 o1 o2) (hM : gMetIA l yX10_miceAfter cX10_miceAfter 3 (some .int) 7 0 0 (cΩ (caOf b1)) (cP dC dI cg kA (caOf b1)) (kR kTab kA) [.ref (caOf b1 0), .int a, .int b] S y S1) : gMetX l yL_miceAfter cL_miceAfter 5 [(0, 10, 13, 13), (0, 10, 17, 62)] 26 1 6 (jΩ b1 b2 o1 o2) (jP dC dI cg kA b1 b2 o1 o2 cL cD) (kR kTab kA) [.ref (caOf b1 0), .int a, .int b, .ref o1] (S, M, x, d) 0 (S1, M, y.toInt64, d) := gEntryX (by decide) jOK (Nat.le_of_ble_eq_true rfl) (fun p e s m args below meth c Q ls X hT hP hS hret hl => by
  have hx := X.hx
  have hb := X.hb
  refine lv_aload_n hx hb dL_miceAfter_0 rfl (lv_at hl 3 rfl) ?_
  refine lv_iconst (v := 0) hx hb dL_miceAfter_1 (by decide) ?_
  refine lv_aload_n hx hb dL_miceAfter_2 rfl (lv_at hl 0 rfl) ?_
  refine lv_iload_n hx hb dL_miceAfter_3 rfl (lv_at hl 1 rfl) ?_
  refine lv_iload_n hx hb dL_miceAfter_4 rfl (lv_at hl 2 rfl) ?_
  refine gCallWI X (gF_ok cOK (fsC hap)) (hM.lift (fsC hap)) (cw_V 2 X (gT_V tw1440 tw1441 tw1442 tw1 tw1443) ⟨rfl, by decide, by decide, by decide +kernel⟩ ⟨by decide, by decide⟩) rfl hP hS (jA hS.1) (cr_rec hP.1 (rfl : kc 0 = 0) rfl cw0 rfl) hl.1 (Nat.le_of_ble_eq_true rfl) ⟨Nat.le_of_ble_eq_true rfl, Nat.le_of_ble_eq_true rfl⟩ dL_miceAfter_5 (As := [.int a, .int b]) (rest := [.int 0, .ref o1]) rfl (fun H locs hP hS => ?_)
  refine lv_i2l hx hb dL_miceAfter_8 rfl ?_
  refine j_last (S := S1) (M := M) (x := x) (d := d) X hap hP hS (Or.inl (Or.inr (Or.inr (Or.inl rfl)))) dL_miceAfter_9 (fun H locs hP hS => ?_)
  refine lv_goto (tgt := 21) hx hb dL_miceAfter_10 (by decide) ?_
  refine lv_iconst (v := 0) hx hb dL_miceAfter_21 (by decide) ?_
  exact hret _ _ _ _ _ _ dL_miceAfter_22 hP hS (Nat.le_of_ble_eq_true rfl) (Nat.le_of_ble_eq_true rfl))
theorem xt1_miceAfter {a : Int32} {b : Int32} (hap : APJ b1 b2 o1 o2) (hM : gThr l yX10_miceAfter cX10_miceAfter 3 (some .int) 7 (cΩ (caOf b1)) (cP dC dI cg kA (caOf b1)) (kR kTab kA) [.ref (caOf b1 0), .int a, .int b] S "java/lang/IndexOutOfBoundsException" S1) : gMetX l yL_miceAfter cL_miceAfter 5 [(0, 10, 13, 13), (0, 10, 17, 62)] 26 1 6 (jΩ b1 b2 o1 o2) (jP dC dI cg kA b1 b2 o1 o2 cL cD) (kR kTab kA) [.ref (caOf b1 0), .int a, .int b, .ref o1] (S, M, x, d) 1 (S1, M, x, d) := gEntryX (by decide) jOK (Nat.le_of_ble_eq_true rfl) (fun p e s m args below meth c Q ls X hT hP hS hret hl => by
  have hx := X.hx
  have hb := X.hb
  refine lv_aload_n hx hb dL_miceAfter_0 rfl (lv_at hl 3 rfl) ?_
  refine lv_iconst (v := 0) hx hb dL_miceAfter_1 (by decide) ?_
  refine lv_aload_n hx hb dL_miceAfter_2 rfl (lv_at hl 0 rfl) ?_
  refine lv_iload_n hx hb dL_miceAfter_3 rfl (lv_at hl 1 rfl) ?_
  refine lv_iload_n hx hb dL_miceAfter_4 rfl (lv_at hl 2 rfl) ?_
  refine gCallWT X (gF_ok cOK (fsC hap)) (hM.lift (fsC hap)) (cw_V 2 X (gT_V tw1440 tw1441 tw1442 tw1 tw1443) ⟨rfl, by decide, by decide, by decide +kernel⟩ ⟨by decide, by decide⟩) rfl hP hS (jA hS.1) (cr_rec hP.1 (rfl : kc 0 = 0) rfl cw0 rfl) hl.1 (Nat.le_of_ble_eq_true rfl) ⟨Nat.le_of_ble_eq_true rfl, Nat.le_of_ble_eq_true rfl⟩ dL_miceAfter_5 (As := [.int a, .int b]) (rest := [.int 0, .ref o1]) rfl (fun H locs q9 ce hP hS hce hcv hcl => ?_)
  refine vx_catch (own := "GranaryWatchLaw") (name := "java/lang/IndexOutOfBoundsException") (E := "java/lang/IndexOutOfBoundsException") X.hown [] ⟨0, 10, 13, 13⟩ [⟨0, 10, 17, 62⟩] (hT.trans rfl) (fun z hz => nomatch hz) (by decide) (by decide) (X.hts _ tw1299) (xw_use rfl (X.ks.2.1 _ xc13)) hce hcv hcl ?_
  refine W.eq (g2 := F0 m 13 ls [.ref q9]) rfl ?_
  refine lv_astore (lv' := [(4, .ref q9), (0, .ref (caOf b1 0)), (1, .int a), (2, .int b), (3, .ref o1)]) hx hb dL_miceAfter_13 hl (by decide) rfl (fun ls hl => ?_)
  refine lv_iconst (v := 1) hx hb dL_miceAfter_15 (by decide) ?_
  exact hret _ _ _ _ _ _ dL_miceAfter_16 hP hS (Nat.le_of_ble_eq_true rfl) (Nat.le_of_ble_eq_true rfl))
theorem xt2_miceAfter {a : Int32} {b : Int32} (hap : APJ b1 b2 o1 o2) (hM : gThr l yX10_miceAfter cX10_miceAfter 3 (some .int) 7 (cΩ (caOf b1)) (cP dC dI cg kA (caOf b1)) (kR kTab kA) [.ref (caOf b1 0), .int a, .int b] S "java/lang/IllegalArgumentException" S1) : gMetX l yL_miceAfter cL_miceAfter 5 [(0, 10, 13, 13), (0, 10, 17, 62)] 26 1 6 (jΩ b1 b2 o1 o2) (jP dC dI cg kA b1 b2 o1 o2 cL cD) (kR kTab kA) [.ref (caOf b1 0), .int a, .int b, .ref o1] (S, M, x, d) 2 (S1, M, x, d) := gEntryX (by decide) jOK (Nat.le_of_ble_eq_true rfl) (fun p e s m args below meth c Q ls X hT hP hS hret hl => by
  have hx := X.hx
  have hb := X.hb
  refine lv_aload_n hx hb dL_miceAfter_0 rfl (lv_at hl 3 rfl) ?_
  refine lv_iconst (v := 0) hx hb dL_miceAfter_1 (by decide) ?_
  refine lv_aload_n hx hb dL_miceAfter_2 rfl (lv_at hl 0 rfl) ?_
  refine lv_iload_n hx hb dL_miceAfter_3 rfl (lv_at hl 1 rfl) ?_
  refine lv_iload_n hx hb dL_miceAfter_4 rfl (lv_at hl 2 rfl) ?_
  refine gCallWT X (gF_ok cOK (fsC hap)) (hM.lift (fsC hap)) (cw_V 2 X (gT_V tw1440 tw1441 tw1442 tw1 tw1443) ⟨rfl, by decide, by decide, by decide +kernel⟩ ⟨by decide, by decide⟩) rfl hP hS (jA hS.1) (cr_rec hP.1 (rfl : kc 0 = 0) rfl cw0 rfl) hl.1 (Nat.le_of_ble_eq_true rfl) ⟨Nat.le_of_ble_eq_true rfl, Nat.le_of_ble_eq_true rfl⟩ dL_miceAfter_5 (As := [.int a, .int b]) (rest := [.int 0, .ref o1]) rfl (fun H locs q9 ce hP hS hce hcv hcl => ?_)
  refine vx_catch (own := "GranaryWatchLaw") (name := "java/lang/IllegalArgumentException") (E := "java/lang/IllegalArgumentException") X.hown [⟨0, 10, 13, 13⟩] ⟨0, 10, 17, 62⟩ [] (hT.trans rfl) (fun z hz => ((fun e => by rw [e]; exact Or.inr ⟨by decide, _, X.hts _ tw1299, X.ks.2.2.1⟩)) (List.mem_singleton.mp hz)) (by decide) (by decide) (X.hts _ tw1439) (xw_use rfl (X.ks.2.1 _ xc62)) hce hcv hcl ?_
  refine W.eq (g2 := F0 m 17 ls [.ref q9]) rfl ?_
  refine lv_astore (lv' := [(4, .ref q9), (0, .ref (caOf b1 0)), (1, .int a), (2, .int b), (3, .ref o1)]) hx hb dL_miceAfter_17 hl (by decide) rfl (fun ls hl => ?_)
  refine lv_iconst (v := 2) hx hb dL_miceAfter_19 (by decide) ?_
  exact hret _ _ _ _ _ _ dL_miceAfter_20 hP hS (Nat.le_of_ble_eq_true rfl) (Nat.le_of_ble_eq_true rfl))
theorem xo_grainAfter {a : Int32} {b : Int32} {y : Int32} (hap : APJ b1 b2 o1 o2) (hM : gMetIA l yX10_grainAfter cX10_grainAfter 3 (some .int) 7 0 0 (cΩ (caOf b1)) (cP dC dI cg kA (caOf b1)) (kR kTab kA) [.ref (caOf b1 0), .int a, .int b] S y S1) : gMetX l yL_grainAfter cL_grainAfter 5 [(0, 10, 13, 13), (0, 10, 17, 62)] 26 1 6 (jΩ b1 b2 o1 o2) (jP dC dI cg kA b1 b2 o1 o2 cL cD) (kR kTab kA) [.ref (caOf b1 0), .int a, .int b, .ref o1] (S, M, x, d) 0 (S1, M, y.toInt64, d) := gEntryX (by decide) jOK (Nat.le_of_ble_eq_true rfl) (fun p e s m args below meth c Q ls X hT hP hS hret hl => by
  have hx := X.hx
  have hb := X.hb
  refine lv_aload_n hx hb dL_grainAfter_0 rfl (lv_at hl 3 rfl) ?_
  refine lv_iconst (v := 0) hx hb dL_grainAfter_1 (by decide) ?_
  refine lv_aload_n hx hb dL_grainAfter_2 rfl (lv_at hl 0 rfl) ?_
  refine lv_iload_n hx hb dL_grainAfter_3 rfl (lv_at hl 1 rfl) ?_
  refine lv_iload_n hx hb dL_grainAfter_4 rfl (lv_at hl 2 rfl) ?_
  refine gCallWI X (gF_ok cOK (fsC hap)) (hM.lift (fsC hap)) (cw_V 2 X (gT_V tw1458 tw1459 tw1460 tw1 tw1461) ⟨rfl, by decide, by decide, by decide +kernel⟩ ⟨by decide, by decide⟩) rfl hP hS (jA hS.1) (cr_rec hP.1 (rfl : kc 0 = 0) rfl cw0 rfl) hl.1 (Nat.le_of_ble_eq_true rfl) ⟨Nat.le_of_ble_eq_true rfl, Nat.le_of_ble_eq_true rfl⟩ dL_grainAfter_5 (As := [.int a, .int b]) (rest := [.int 0, .ref o1]) rfl (fun H locs hP hS => ?_)
  refine lv_i2l hx hb dL_grainAfter_8 rfl ?_
  refine j_last (S := S1) (M := M) (x := x) (d := d) X hap hP hS (Or.inl (Or.inr (Or.inr (Or.inl rfl)))) dL_grainAfter_9 (fun H locs hP hS => ?_)
  refine lv_goto (tgt := 21) hx hb dL_grainAfter_10 (by decide) ?_
  refine lv_iconst (v := 0) hx hb dL_grainAfter_21 (by decide) ?_
  exact hret _ _ _ _ _ _ dL_grainAfter_22 hP hS (Nat.le_of_ble_eq_true rfl) (Nat.le_of_ble_eq_true rfl))
theorem xt1_grainAfter {a : Int32} {b : Int32} (hap : APJ b1 b2 o1 o2) (hM : gThr l yX10_grainAfter cX10_grainAfter 3 (some .int) 7 (cΩ (caOf b1)) (cP dC dI cg kA (caOf b1)) (kR kTab kA) [.ref (caOf b1 0), .int a, .int b] S "java/lang/IndexOutOfBoundsException" S1) : gMetX l yL_grainAfter cL_grainAfter 5 [(0, 10, 13, 13), (0, 10, 17, 62)] 26 1 6 (jΩ b1 b2 o1 o2) (jP dC dI cg kA b1 b2 o1 o2 cL cD) (kR kTab kA) [.ref (caOf b1 0), .int a, .int b, .ref o1] (S, M, x, d) 1 (S1, M, x, d) := gEntryX (by decide) jOK (Nat.le_of_ble_eq_true rfl) (fun p e s m args below meth c Q ls X hT hP hS hret hl => by
  have hx := X.hx
  have hb := X.hb
  refine lv_aload_n hx hb dL_grainAfter_0 rfl (lv_at hl 3 rfl) ?_
  refine lv_iconst (v := 0) hx hb dL_grainAfter_1 (by decide) ?_
  refine lv_aload_n hx hb dL_grainAfter_2 rfl (lv_at hl 0 rfl) ?_
  refine lv_iload_n hx hb dL_grainAfter_3 rfl (lv_at hl 1 rfl) ?_
  refine lv_iload_n hx hb dL_grainAfter_4 rfl (lv_at hl 2 rfl) ?_
  refine gCallWT X (gF_ok cOK (fsC hap)) (hM.lift (fsC hap)) (cw_V 2 X (gT_V tw1458 tw1459 tw1460 tw1 tw1461) ⟨rfl, by decide, by decide, by decide +kernel⟩ ⟨by decide, by decide⟩) rfl hP hS (jA hS.1) (cr_rec hP.1 (rfl : kc 0 = 0) rfl cw0 rfl) hl.1 (Nat.le_of_ble_eq_true rfl) ⟨Nat.le_of_ble_eq_true rfl, Nat.le_of_ble_eq_true rfl⟩ dL_grainAfter_5 (As := [.int a, .int b]) (rest := [.int 0, .ref o1]) rfl (fun H locs q9 ce hP hS hce hcv hcl => ?_)
  refine vx_catch (own := "GranaryWatchLaw") (name := "java/lang/IndexOutOfBoundsException") (E := "java/lang/IndexOutOfBoundsException") X.hown [] ⟨0, 10, 13, 13⟩ [⟨0, 10, 17, 62⟩] (hT.trans rfl) (fun z hz => nomatch hz) (by decide) (by decide) (X.hts _ tw1299) (xw_use rfl (X.ks.2.1 _ xc13)) hce hcv hcl ?_
  refine W.eq (g2 := F0 m 13 ls [.ref q9]) rfl ?_
  refine lv_astore (lv' := [(4, .ref q9), (0, .ref (caOf b1 0)), (1, .int a), (2, .int b), (3, .ref o1)]) hx hb dL_grainAfter_13 hl (by decide) rfl (fun ls hl => ?_)
  refine lv_iconst (v := 1) hx hb dL_grainAfter_15 (by decide) ?_
  exact hret _ _ _ _ _ _ dL_grainAfter_16 hP hS (Nat.le_of_ble_eq_true rfl) (Nat.le_of_ble_eq_true rfl))
theorem xt2_grainAfter {a : Int32} {b : Int32} (hap : APJ b1 b2 o1 o2) (hM : gThr l yX10_grainAfter cX10_grainAfter 3 (some .int) 7 (cΩ (caOf b1)) (cP dC dI cg kA (caOf b1)) (kR kTab kA) [.ref (caOf b1 0), .int a, .int b] S "java/lang/IllegalArgumentException" S1) : gMetX l yL_grainAfter cL_grainAfter 5 [(0, 10, 13, 13), (0, 10, 17, 62)] 26 1 6 (jΩ b1 b2 o1 o2) (jP dC dI cg kA b1 b2 o1 o2 cL cD) (kR kTab kA) [.ref (caOf b1 0), .int a, .int b, .ref o1] (S, M, x, d) 2 (S1, M, x, d) := gEntryX (by decide) jOK (Nat.le_of_ble_eq_true rfl) (fun p e s m args below meth c Q ls X hT hP hS hret hl => by
  have hx := X.hx
  have hb := X.hb
  refine lv_aload_n hx hb dL_grainAfter_0 rfl (lv_at hl 3 rfl) ?_
  refine lv_iconst (v := 0) hx hb dL_grainAfter_1 (by decide) ?_
  refine lv_aload_n hx hb dL_grainAfter_2 rfl (lv_at hl 0 rfl) ?_
  refine lv_iload_n hx hb dL_grainAfter_3 rfl (lv_at hl 1 rfl) ?_
  refine lv_iload_n hx hb dL_grainAfter_4 rfl (lv_at hl 2 rfl) ?_
  refine gCallWT X (gF_ok cOK (fsC hap)) (hM.lift (fsC hap)) (cw_V 2 X (gT_V tw1458 tw1459 tw1460 tw1 tw1461) ⟨rfl, by decide, by decide, by decide +kernel⟩ ⟨by decide, by decide⟩) rfl hP hS (jA hS.1) (cr_rec hP.1 (rfl : kc 0 = 0) rfl cw0 rfl) hl.1 (Nat.le_of_ble_eq_true rfl) ⟨Nat.le_of_ble_eq_true rfl, Nat.le_of_ble_eq_true rfl⟩ dL_grainAfter_5 (As := [.int a, .int b]) (rest := [.int 0, .ref o1]) rfl (fun H locs q9 ce hP hS hce hcv hcl => ?_)
  refine vx_catch (own := "GranaryWatchLaw") (name := "java/lang/IllegalArgumentException") (E := "java/lang/IllegalArgumentException") X.hown [⟨0, 10, 13, 13⟩] ⟨0, 10, 17, 62⟩ [] (hT.trans rfl) (fun z hz => ((fun e => by rw [e]; exact Or.inr ⟨by decide, _, X.hts _ tw1299, X.ks.2.2.1⟩)) (List.mem_singleton.mp hz)) (by decide) (by decide) (X.hts _ tw1439) (xw_use rfl (X.ks.2.1 _ xc62)) hce hcv hcl ?_
  refine W.eq (g2 := F0 m 17 ls [.ref q9]) rfl ?_
  refine lv_astore (lv' := [(4, .ref q9), (0, .ref (caOf b1 0)), (1, .int a), (2, .int b), (3, .ref o1)]) hx hb dL_grainAfter_17 hl (by decide) rfl (fun ls hl => ?_)
  refine lv_iconst (v := 2) hx hb dL_grainAfter_19 (by decide) ?_
  exact hret _ _ _ _ _ _ dL_grainAfter_20 hP hS (Nat.le_of_ble_eq_true rfl) (Nat.le_of_ble_eq_true rfl))
theorem xo_swornAfter {a : Int32} {y : Int32} (hap : APJ b1 b2 o1 o2) (hM : gMetIA l yX10_swornAfter cX10_swornAfter 2 (some .int) 7 0 0 (cΩ (caOf b1)) (cP dC dI cg kA (caOf b1)) (kR kTab kA) [.ref (caOf b1 0), .int a] S y S1) : gMetX l yL_swornAfter cL_swornAfter 4 [(0, 9, 12, 62)] 26 1 6 (jΩ b1 b2 o1 o2) (jP dC dI cg kA b1 b2 o1 o2 cL cD) (kR kTab kA) [.ref (caOf b1 0), .int a, .ref o1] (S, M, x, d) 0 (S1, M, y.toInt64, d) := gEntryX (by decide) jOK (Nat.le_of_ble_eq_true rfl) (fun p e s m args below meth c Q ls X hT hP hS hret hl => by
  have hx := X.hx
  have hb := X.hb
  refine lv_aload_n hx hb dL_swornAfter_0 rfl (lv_at hl 2 rfl) ?_
  refine lv_iconst (v := 0) hx hb dL_swornAfter_1 (by decide) ?_
  refine lv_aload_n hx hb dL_swornAfter_2 rfl (lv_at hl 0 rfl) ?_
  refine lv_iload_n hx hb dL_swornAfter_3 rfl (lv_at hl 1 rfl) ?_
  refine gCallWI X (gF_ok cOK (fsC hap)) (hM.lift (fsC hap)) (cw_V 1 X (gT_V tw1465 tw1466 tw1467 tw1 tw1468) ⟨rfl, by decide, by decide, by decide +kernel⟩ ⟨by decide, by decide⟩) rfl hP hS (jA hS.1) (cr_rec hP.1 (rfl : kc 0 = 0) rfl cw0 rfl) hl.1 (Nat.le_of_ble_eq_true rfl) ⟨Nat.le_of_ble_eq_true rfl, Nat.le_of_ble_eq_true rfl⟩ dL_swornAfter_4 (As := [.int a]) (rest := [.int 0, .ref o1]) rfl (fun H locs hP hS => ?_)
  refine lv_i2l hx hb dL_swornAfter_7 rfl ?_
  refine j_last (S := S1) (M := M) (x := x) (d := d) X hap hP hS (Or.inl (Or.inr (Or.inr (Or.inl rfl)))) dL_swornAfter_8 (fun H locs hP hS => ?_)
  refine lv_goto (tgt := 15) hx hb dL_swornAfter_9 (by decide) ?_
  refine lv_iconst (v := 0) hx hb dL_swornAfter_15 (by decide) ?_
  exact hret _ _ _ _ _ _ dL_swornAfter_16 hP hS (Nat.le_of_ble_eq_true rfl) (Nat.le_of_ble_eq_true rfl))
theorem xt1_swornAfter {a : Int32} (hap : APJ b1 b2 o1 o2) (hM : gThr l yX10_swornAfter cX10_swornAfter 2 (some .int) 7 (cΩ (caOf b1)) (cP dC dI cg kA (caOf b1)) (kR kTab kA) [.ref (caOf b1 0), .int a] S "java/lang/IllegalArgumentException" S1) : gMetX l yL_swornAfter cL_swornAfter 4 [(0, 9, 12, 62)] 26 1 6 (jΩ b1 b2 o1 o2) (jP dC dI cg kA b1 b2 o1 o2 cL cD) (kR kTab kA) [.ref (caOf b1 0), .int a, .ref o1] (S, M, x, d) 1 (S1, M, x, d) := gEntryX (by decide) jOK (Nat.le_of_ble_eq_true rfl) (fun p e s m args below meth c Q ls X hT hP hS hret hl => by
  have hx := X.hx
  have hb := X.hb
  refine lv_aload_n hx hb dL_swornAfter_0 rfl (lv_at hl 2 rfl) ?_
  refine lv_iconst (v := 0) hx hb dL_swornAfter_1 (by decide) ?_
  refine lv_aload_n hx hb dL_swornAfter_2 rfl (lv_at hl 0 rfl) ?_
  refine lv_iload_n hx hb dL_swornAfter_3 rfl (lv_at hl 1 rfl) ?_
  refine gCallWT X (gF_ok cOK (fsC hap)) (hM.lift (fsC hap)) (cw_V 1 X (gT_V tw1465 tw1466 tw1467 tw1 tw1468) ⟨rfl, by decide, by decide, by decide +kernel⟩ ⟨by decide, by decide⟩) rfl hP hS (jA hS.1) (cr_rec hP.1 (rfl : kc 0 = 0) rfl cw0 rfl) hl.1 (Nat.le_of_ble_eq_true rfl) ⟨Nat.le_of_ble_eq_true rfl, Nat.le_of_ble_eq_true rfl⟩ dL_swornAfter_4 (As := [.int a]) (rest := [.int 0, .ref o1]) rfl (fun H locs q9 ce hP hS hce hcv hcl => ?_)
  refine vx_catch (own := "GranaryWatchLaw") (name := "java/lang/IllegalArgumentException") (E := "java/lang/IllegalArgumentException") X.hown [] ⟨0, 9, 12, 62⟩ [] (hT.trans rfl) (fun z hz => nomatch hz) (by decide) (by decide) (X.hts _ tw1439) (xw_use rfl (X.ks.2.1 _ xc62)) hce hcv hcl ?_
  refine W.eq (g2 := F0 m 12 ls [.ref q9]) rfl ?_
  refine lv_astore_n (lv' := [(3, .ref q9), (0, .ref (caOf b1 0)), (1, .int a), (2, .ref o1)]) hx hb dL_swornAfter_12 rfl hl (by decide) rfl (fun ls hl => ?_)
  refine lv_iconst (v := 1) hx hb dL_swornAfter_13 (by decide) ?_
  exact hret _ _ _ _ _ _ dL_swornAfter_14 hP hS (Nat.le_of_ble_eq_true rfl) (Nat.le_of_ble_eq_true rfl))
theorem xo_hoursUntilEmpty {a : Int32} {y : Int32} (hap : APJ b1 b2 o1 o2) (hM : gMetIA l yX10_hoursUntilEmpty cX10_hoursUntilEmpty 3 (some .int) 5 0 0 (cΩ (caOf b1)) (cP dC dI cg kA (caOf b1)) (kR kTab kA) [.ref (caOf b1 0), .int a] S y S1) : gMetX l yL_hoursUntilEmpty cL_hoursUntilEmpty 4 [(0, 9, 12, 13)] 26 1 6 (jΩ b1 b2 o1 o2) (jP dC dI cg kA b1 b2 o1 o2 cL cD) (kR kTab kA) [.ref (caOf b1 0), .int a, .ref o1] (S, M, x, d) 0 (S1, M, y.toInt64, d) := gEntryX (by decide) jOK (Nat.le_of_ble_eq_true rfl) (fun p e s m args below meth c Q ls X hT hP hS hret hl => by
  have hx := X.hx
  have hb := X.hb
  refine lv_aload_n hx hb dL_hoursUntilEmpty_0 rfl (lv_at hl 2 rfl) ?_
  refine lv_iconst (v := 0) hx hb dL_hoursUntilEmpty_1 (by decide) ?_
  refine lv_aload_n hx hb dL_hoursUntilEmpty_2 rfl (lv_at hl 0 rfl) ?_
  refine lv_iload_n hx hb dL_hoursUntilEmpty_3 rfl (lv_at hl 1 rfl) ?_
  refine gCallWI X (gF_ok cOK (fsC hap)) (hM.lift (fsC hap)) (cw_V 1 X (gT_V tw1472 tw1473 tw1474 tw1 tw1475) ⟨rfl, by decide, by decide, by decide +kernel⟩ ⟨by decide, by decide⟩) rfl hP hS (jA hS.1) (cr_rec hP.1 (rfl : kc 0 = 0) rfl cw0 rfl) hl.1 (Nat.le_of_ble_eq_true rfl) ⟨Nat.le_of_ble_eq_true rfl, Nat.le_of_ble_eq_true rfl⟩ dL_hoursUntilEmpty_4 (As := [.int a]) (rest := [.int 0, .ref o1]) rfl (fun H locs hP hS => ?_)
  refine lv_i2l hx hb dL_hoursUntilEmpty_7 rfl ?_
  refine j_last (S := S1) (M := M) (x := x) (d := d) X hap hP hS (Or.inl (Or.inr (Or.inr (Or.inl rfl)))) dL_hoursUntilEmpty_8 (fun H locs hP hS => ?_)
  refine lv_goto (tgt := 15) hx hb dL_hoursUntilEmpty_9 (by decide) ?_
  refine lv_iconst (v := 0) hx hb dL_hoursUntilEmpty_15 (by decide) ?_
  exact hret _ _ _ _ _ _ dL_hoursUntilEmpty_16 hP hS (Nat.le_of_ble_eq_true rfl) (Nat.le_of_ble_eq_true rfl))
theorem xt1_hoursUntilEmpty {a : Int32} (hap : APJ b1 b2 o1 o2) (hM : gThr l yX10_hoursUntilEmpty cX10_hoursUntilEmpty 3 (some .int) 5 (cΩ (caOf b1)) (cP dC dI cg kA (caOf b1)) (kR kTab kA) [.ref (caOf b1 0), .int a] S "java/lang/IndexOutOfBoundsException" S1) : gMetX l yL_hoursUntilEmpty cL_hoursUntilEmpty 4 [(0, 9, 12, 13)] 26 1 6 (jΩ b1 b2 o1 o2) (jP dC dI cg kA b1 b2 o1 o2 cL cD) (kR kTab kA) [.ref (caOf b1 0), .int a, .ref o1] (S, M, x, d) 1 (S1, M, x, d) := gEntryX (by decide) jOK (Nat.le_of_ble_eq_true rfl) (fun p e s m args below meth c Q ls X hT hP hS hret hl => by
  have hx := X.hx
  have hb := X.hb
  refine lv_aload_n hx hb dL_hoursUntilEmpty_0 rfl (lv_at hl 2 rfl) ?_
  refine lv_iconst (v := 0) hx hb dL_hoursUntilEmpty_1 (by decide) ?_
  refine lv_aload_n hx hb dL_hoursUntilEmpty_2 rfl (lv_at hl 0 rfl) ?_
  refine lv_iload_n hx hb dL_hoursUntilEmpty_3 rfl (lv_at hl 1 rfl) ?_
  refine gCallWT X (gF_ok cOK (fsC hap)) (hM.lift (fsC hap)) (cw_V 1 X (gT_V tw1472 tw1473 tw1474 tw1 tw1475) ⟨rfl, by decide, by decide, by decide +kernel⟩ ⟨by decide, by decide⟩) rfl hP hS (jA hS.1) (cr_rec hP.1 (rfl : kc 0 = 0) rfl cw0 rfl) hl.1 (Nat.le_of_ble_eq_true rfl) ⟨Nat.le_of_ble_eq_true rfl, Nat.le_of_ble_eq_true rfl⟩ dL_hoursUntilEmpty_4 (As := [.int a]) (rest := [.int 0, .ref o1]) rfl (fun H locs q9 ce hP hS hce hcv hcl => ?_)
  refine vx_catch (own := "GranaryWatchLaw") (name := "java/lang/IndexOutOfBoundsException") (E := "java/lang/IndexOutOfBoundsException") X.hown [] ⟨0, 9, 12, 13⟩ [] (hT.trans rfl) (fun z hz => nomatch hz) (by decide) (by decide) (X.hts _ tw1299) (xw_use rfl (X.ks.2.1 _ xc13)) hce hcv hcl ?_
  refine W.eq (g2 := F0 m 12 ls [.ref q9]) rfl ?_
  refine lv_astore_n (lv' := [(3, .ref q9), (0, .ref (caOf b1 0)), (1, .int a), (2, .ref o1)]) hx hb dL_hoursUntilEmpty_12 rfl hl (by decide) rfl (fun ls hl => ?_)
  refine lv_iconst (v := 1) hx hb dL_hoursUntilEmpty_13 (by decide) ?_
  exact hret _ _ _ _ _ _ dL_hoursUntilEmpty_14 hP hS (Nat.le_of_ble_eq_true rfl) (Nat.le_of_ble_eq_true rfl))
theorem xo_caughtWithin {a : Int32} {y : Int32} (hap : APJ b1 b2 o1 o2) (hM : gMetIA l yX10_caughtWithin cX10_caughtWithin 2 (some .int) 7 0 0 (cΩ (caOf b1)) (cP dC dI cg kA (caOf b1)) (kR kTab kA) [.ref (caOf b1 0), .int a] S y S1) : gMetX l yL_caughtWithin cL_caughtWithin 4 [(0, 9, 12, 62)] 26 1 6 (jΩ b1 b2 o1 o2) (jP dC dI cg kA b1 b2 o1 o2 cL cD) (kR kTab kA) [.ref (caOf b1 0), .int a, .ref o1] (S, M, x, d) 0 (S1, M, y.toInt64, d) := gEntryX (by decide) jOK (Nat.le_of_ble_eq_true rfl) (fun p e s m args below meth c Q ls X hT hP hS hret hl => by
  have hx := X.hx
  have hb := X.hb
  refine lv_aload_n hx hb dL_caughtWithin_0 rfl (lv_at hl 2 rfl) ?_
  refine lv_iconst (v := 0) hx hb dL_caughtWithin_1 (by decide) ?_
  refine lv_aload_n hx hb dL_caughtWithin_2 rfl (lv_at hl 0 rfl) ?_
  refine lv_iload_n hx hb dL_caughtWithin_3 rfl (lv_at hl 1 rfl) ?_
  refine gCallWI X (gF_ok cOK (fsC hap)) (hM.lift (fsC hap)) (cw_V 1 X (gT_V tw1479 tw1480 tw1481 tw1 tw1482) ⟨rfl, by decide, by decide, by decide +kernel⟩ ⟨by decide, by decide⟩) rfl hP hS (jA hS.1) (cr_rec hP.1 (rfl : kc 0 = 0) rfl cw0 rfl) hl.1 (Nat.le_of_ble_eq_true rfl) ⟨Nat.le_of_ble_eq_true rfl, Nat.le_of_ble_eq_true rfl⟩ dL_caughtWithin_4 (As := [.int a]) (rest := [.int 0, .ref o1]) rfl (fun H locs hP hS => ?_)
  refine lv_i2l hx hb dL_caughtWithin_7 rfl ?_
  refine j_last (S := S1) (M := M) (x := x) (d := d) X hap hP hS (Or.inl (Or.inr (Or.inr (Or.inl rfl)))) dL_caughtWithin_8 (fun H locs hP hS => ?_)
  refine lv_goto (tgt := 15) hx hb dL_caughtWithin_9 (by decide) ?_
  refine lv_iconst (v := 0) hx hb dL_caughtWithin_15 (by decide) ?_
  exact hret _ _ _ _ _ _ dL_caughtWithin_16 hP hS (Nat.le_of_ble_eq_true rfl) (Nat.le_of_ble_eq_true rfl))
theorem xt1_caughtWithin {a : Int32} (hap : APJ b1 b2 o1 o2) (hM : gThr l yX10_caughtWithin cX10_caughtWithin 2 (some .int) 7 (cΩ (caOf b1)) (cP dC dI cg kA (caOf b1)) (kR kTab kA) [.ref (caOf b1 0), .int a] S "java/lang/IllegalArgumentException" S1) : gMetX l yL_caughtWithin cL_caughtWithin 4 [(0, 9, 12, 62)] 26 1 6 (jΩ b1 b2 o1 o2) (jP dC dI cg kA b1 b2 o1 o2 cL cD) (kR kTab kA) [.ref (caOf b1 0), .int a, .ref o1] (S, M, x, d) 1 (S1, M, x, d) := gEntryX (by decide) jOK (Nat.le_of_ble_eq_true rfl) (fun p e s m args below meth c Q ls X hT hP hS hret hl => by
  have hx := X.hx
  have hb := X.hb
  refine lv_aload_n hx hb dL_caughtWithin_0 rfl (lv_at hl 2 rfl) ?_
  refine lv_iconst (v := 0) hx hb dL_caughtWithin_1 (by decide) ?_
  refine lv_aload_n hx hb dL_caughtWithin_2 rfl (lv_at hl 0 rfl) ?_
  refine lv_iload_n hx hb dL_caughtWithin_3 rfl (lv_at hl 1 rfl) ?_
  refine gCallWT X (gF_ok cOK (fsC hap)) (hM.lift (fsC hap)) (cw_V 1 X (gT_V tw1479 tw1480 tw1481 tw1 tw1482) ⟨rfl, by decide, by decide, by decide +kernel⟩ ⟨by decide, by decide⟩) rfl hP hS (jA hS.1) (cr_rec hP.1 (rfl : kc 0 = 0) rfl cw0 rfl) hl.1 (Nat.le_of_ble_eq_true rfl) ⟨Nat.le_of_ble_eq_true rfl, Nat.le_of_ble_eq_true rfl⟩ dL_caughtWithin_4 (As := [.int a]) (rest := [.int 0, .ref o1]) rfl (fun H locs q9 ce hP hS hce hcv hcl => ?_)
  refine vx_catch (own := "GranaryWatchLaw") (name := "java/lang/IllegalArgumentException") (E := "java/lang/IllegalArgumentException") X.hown [] ⟨0, 9, 12, 62⟩ [] (hT.trans rfl) (fun z hz => nomatch hz) (by decide) (by decide) (X.hts _ tw1439) (xw_use rfl (X.ks.2.1 _ xc62)) hce hcv hcl ?_
  refine W.eq (g2 := F0 m 12 ls [.ref q9]) rfl ?_
  refine lv_astore_n (lv' := [(3, .ref q9), (0, .ref (caOf b1 0)), (1, .int a), (2, .ref o1)]) hx hb dL_caughtWithin_12 rfl hl (by decide) rfl (fun ls hl => ?_)
  refine lv_iconst (v := 1) hx hb dL_caughtWithin_13 (by decide) ?_
  exact hret _ _ _ _ _ _ dL_caughtWithin_14 hP hS (Nat.le_of_ble_eq_true rfl) (Nat.le_of_ble_eq_true rfl))
theorem xo_bestFlapToChange {a : Int32} {y : Int32} (hap : APJ b1 b2 o1 o2) (hM : gMetIA l yX10_bestFlapToChange cX10_bestFlapToChange 6 (some .int) 7 0 0 (cΩ (caOf b1)) (cP dC dI cg kA (caOf b1)) (kR kTab kA) [.ref (caOf b1 0), .int a] S y S1) : gMetX l yL_bestFlapToChange cL_bestFlapToChange 4 [(0, 9, 12, 62)] 26 1 6 (jΩ b1 b2 o1 o2) (jP dC dI cg kA b1 b2 o1 o2 cL cD) (kR kTab kA) [.ref (caOf b1 0), .int a, .ref o1] (S, M, x, d) 0 (S1, M, y.toInt64, d) := gEntryX (by decide) jOK (Nat.le_of_ble_eq_true rfl) (fun p e s m args below meth c Q ls X hT hP hS hret hl => by
  have hx := X.hx
  have hb := X.hb
  refine lv_aload_n hx hb dL_bestFlapToChange_0 rfl (lv_at hl 2 rfl) ?_
  refine lv_iconst (v := 0) hx hb dL_bestFlapToChange_1 (by decide) ?_
  refine lv_aload_n hx hb dL_bestFlapToChange_2 rfl (lv_at hl 0 rfl) ?_
  refine lv_iload_n hx hb dL_bestFlapToChange_3 rfl (lv_at hl 1 rfl) ?_
  refine gCallWI X (gF_ok cOK (fsC hap)) (hM.lift (fsC hap)) (cw_V 1 X (gT_V tw1486 tw1487 tw1488 tw1 tw1489) ⟨rfl, by decide, by decide, by decide +kernel⟩ ⟨by decide, by decide⟩) rfl hP hS (jA hS.1) (cr_rec hP.1 (rfl : kc 0 = 0) rfl cw0 rfl) hl.1 (Nat.le_of_ble_eq_true rfl) ⟨Nat.le_of_ble_eq_true rfl, Nat.le_of_ble_eq_true rfl⟩ dL_bestFlapToChange_4 (As := [.int a]) (rest := [.int 0, .ref o1]) rfl (fun H locs hP hS => ?_)
  refine lv_i2l hx hb dL_bestFlapToChange_7 rfl ?_
  refine j_last (S := S1) (M := M) (x := x) (d := d) X hap hP hS (Or.inl (Or.inr (Or.inr (Or.inl rfl)))) dL_bestFlapToChange_8 (fun H locs hP hS => ?_)
  refine lv_goto (tgt := 15) hx hb dL_bestFlapToChange_9 (by decide) ?_
  refine lv_iconst (v := 0) hx hb dL_bestFlapToChange_15 (by decide) ?_
  exact hret _ _ _ _ _ _ dL_bestFlapToChange_16 hP hS (Nat.le_of_ble_eq_true rfl) (Nat.le_of_ble_eq_true rfl))
theorem xt1_bestFlapToChange {a : Int32} (hap : APJ b1 b2 o1 o2) (hM : gThr l yX10_bestFlapToChange cX10_bestFlapToChange 6 (some .int) 7 (cΩ (caOf b1)) (cP dC dI cg kA (caOf b1)) (kR kTab kA) [.ref (caOf b1 0), .int a] S "java/lang/IllegalArgumentException" S1) : gMetX l yL_bestFlapToChange cL_bestFlapToChange 4 [(0, 9, 12, 62)] 26 1 6 (jΩ b1 b2 o1 o2) (jP dC dI cg kA b1 b2 o1 o2 cL cD) (kR kTab kA) [.ref (caOf b1 0), .int a, .ref o1] (S, M, x, d) 1 (S1, M, x, d) := gEntryX (by decide) jOK (Nat.le_of_ble_eq_true rfl) (fun p e s m args below meth c Q ls X hT hP hS hret hl => by
  have hx := X.hx
  have hb := X.hb
  refine lv_aload_n hx hb dL_bestFlapToChange_0 rfl (lv_at hl 2 rfl) ?_
  refine lv_iconst (v := 0) hx hb dL_bestFlapToChange_1 (by decide) ?_
  refine lv_aload_n hx hb dL_bestFlapToChange_2 rfl (lv_at hl 0 rfl) ?_
  refine lv_iload_n hx hb dL_bestFlapToChange_3 rfl (lv_at hl 1 rfl) ?_
  refine gCallWT X (gF_ok cOK (fsC hap)) (hM.lift (fsC hap)) (cw_V 1 X (gT_V tw1486 tw1487 tw1488 tw1 tw1489) ⟨rfl, by decide, by decide, by decide +kernel⟩ ⟨by decide, by decide⟩) rfl hP hS (jA hS.1) (cr_rec hP.1 (rfl : kc 0 = 0) rfl cw0 rfl) hl.1 (Nat.le_of_ble_eq_true rfl) ⟨Nat.le_of_ble_eq_true rfl, Nat.le_of_ble_eq_true rfl⟩ dL_bestFlapToChange_4 (As := [.int a]) (rest := [.int 0, .ref o1]) rfl (fun H locs q9 ce hP hS hce hcv hcl => ?_)
  refine vx_catch (own := "GranaryWatchLaw") (name := "java/lang/IllegalArgumentException") (E := "java/lang/IllegalArgumentException") X.hown [] ⟨0, 9, 12, 62⟩ [] (hT.trans rfl) (fun z hz => nomatch hz) (by decide) (by decide) (X.hts _ tw1439) (xw_use rfl (X.ks.2.1 _ xc62)) hce hcv hcl ?_
  refine W.eq (g2 := F0 m 12 ls [.ref q9]) rfl ?_
  refine lv_astore_n (lv' := [(3, .ref q9), (0, .ref (caOf b1 0)), (1, .int a), (2, .ref o1)]) hx hb dL_bestFlapToChange_12 rfl hl (by decide) rfl (fun ls hl => ?_)
  refine lv_iconst (v := 1) hx hb dL_bestFlapToChange_13 (by decide) ?_
  exact hret _ _ _ _ _ _ dL_bestFlapToChange_14 hP hS (Nat.le_of_ble_eq_true rfl) (Nat.le_of_ble_eq_true rfl))
theorem xo_shareOf {a : Int32} {y : UInt32} (hap : APJ b1 b2 o1 o2) (hn2 : vf_n64 (FP.f2d y)) (hM : gMetF l yX10_shareOf cX10_shareOf 3 2 (cΩ (caOf b1)) (cP dC dI cg kA (caOf b1)) (kR kTab kA) [.ref (caOf b1 0), .int a] S y S1) : gMetX l yL_shareOf cL_shareOf 4 [(0, 9, 12, 13)] 26 1 6 (jΩ b1 b2 o1 o2) (jP dC dI cg kA b1 b2 o1 o2 cL cD) (kR kTab kA) [.ref (caOf b1 0), .int a, .ref o2] (S, M, x, d) 0 (S1, M, x, FP.f2d y) := gEntryX (by decide) jOK (Nat.le_of_ble_eq_true rfl) (fun p e s m args below meth c Q ls X hT hP hS hret hl => by
  have hx := X.hx
  have hb := X.hb
  refine lv_aload_n hx hb dL_shareOf_0 rfl (lv_at hl 2 rfl) ?_
  refine lv_iconst (v := 0) hx hb dL_shareOf_1 (by decide) ?_
  refine lv_aload_n hx hb dL_shareOf_2 rfl (lv_at hl 0 rfl) ?_
  refine lv_iload_n hx hb dL_shareOf_3 rfl (lv_at hl 1 rfl) ?_
  refine gCallWF X (gF_ok cOK (fsC hap)) (hM.lift (fsC hap)) (cw_V 1 X (gT_V tw1498 tw1499 tw1500 tw1 tw1501) ⟨rfl, by decide, by decide, by decide +kernel⟩ ⟨by decide, by decide⟩) rfl hP hS (jA hS.1) (cr_rec hP.1 (rfl : kc 0 = 0) rfl cw0 rfl) hl.1 (Nat.le_of_ble_eq_true rfl) ⟨Nat.le_of_ble_eq_true rfl, Nat.le_of_ble_eq_true rfl⟩ dL_shareOf_4 (As := [.int a]) (rest := [.int 0, .ref o2]) rfl (fun H locs hP hS => ?_)
  refine lv_f2d hx hb dL_shareOf_7 hn2 ?_
  refine j_dast (S := S1) (M := M) (x := x) (d := d) X hap hP hS (Or.inl (Or.inr (Or.inr (Or.inr rfl)))) dL_shareOf_8 (fun H locs hP hS => ?_)
  refine lv_goto (tgt := 15) hx hb dL_shareOf_9 (by decide) ?_
  refine lv_iconst (v := 0) hx hb dL_shareOf_15 (by decide) ?_
  exact hret _ _ _ _ _ _ dL_shareOf_16 hP hS (Nat.le_of_ble_eq_true rfl) (Nat.le_of_ble_eq_true rfl))
theorem xt1_shareOf {a : Int32} (hap : APJ b1 b2 o1 o2) (hM : gThr l yX10_shareOf cX10_shareOf 3 (some .float) 4 (cΩ (caOf b1)) (cP dC dI cg kA (caOf b1)) (kR kTab kA) [.ref (caOf b1 0), .int a] S "java/lang/IndexOutOfBoundsException" S1) : gMetX l yL_shareOf cL_shareOf 4 [(0, 9, 12, 13)] 26 1 6 (jΩ b1 b2 o1 o2) (jP dC dI cg kA b1 b2 o1 o2 cL cD) (kR kTab kA) [.ref (caOf b1 0), .int a, .ref o2] (S, M, x, d) 1 (S1, M, x, d) := gEntryX (by decide) jOK (Nat.le_of_ble_eq_true rfl) (fun p e s m args below meth c Q ls X hT hP hS hret hl => by
  have hx := X.hx
  have hb := X.hb
  refine lv_aload_n hx hb dL_shareOf_0 rfl (lv_at hl 2 rfl) ?_
  refine lv_iconst (v := 0) hx hb dL_shareOf_1 (by decide) ?_
  refine lv_aload_n hx hb dL_shareOf_2 rfl (lv_at hl 0 rfl) ?_
  refine lv_iload_n hx hb dL_shareOf_3 rfl (lv_at hl 1 rfl) ?_
  refine gCallWT X (gF_ok cOK (fsC hap)) (hM.lift (fsC hap)) (cw_V 1 X (gT_V tw1498 tw1499 tw1500 tw1 tw1501) ⟨rfl, by decide, by decide, by decide +kernel⟩ ⟨by decide, by decide⟩) rfl hP hS (jA hS.1) (cr_rec hP.1 (rfl : kc 0 = 0) rfl cw0 rfl) hl.1 (Nat.le_of_ble_eq_true rfl) ⟨Nat.le_of_ble_eq_true rfl, Nat.le_of_ble_eq_true rfl⟩ dL_shareOf_4 (As := [.int a]) (rest := [.int 0, .ref o2]) rfl (fun H locs q9 ce hP hS hce hcv hcl => ?_)
  refine vx_catch (own := "GranaryWatchLaw") (name := "java/lang/IndexOutOfBoundsException") (E := "java/lang/IndexOutOfBoundsException") X.hown [] ⟨0, 9, 12, 13⟩ [] (hT.trans rfl) (fun z hz => nomatch hz) (by decide) (by decide) (X.hts _ tw1299) (xw_use rfl (X.ks.2.1 _ xc13)) hce hcv hcl ?_
  refine W.eq (g2 := F0 m 12 ls [.ref q9]) rfl ?_
  refine lv_astore_n (lv' := [(3, .ref q9), (0, .ref (caOf b1 0)), (1, .int a), (2, .ref o2)]) hx hb dL_shareOf_12 rfl hl (by decide) rfl (fun ls hl => ?_)
  refine lv_iconst (v := 1) hx hb dL_shareOf_13 (by decide) ?_
  exact hret _ _ _ _ _ _ dL_shareOf_14 hP hS (Nat.le_of_ble_eq_true rfl) (Nat.le_of_ble_eq_true rfl))
theorem xo_letPass {a : Int32} {y : Int32} (hap : APJ b1 b2 o1 o2) (hM : gMetIA l yX10_letPass cX10_letPass 2 (some .int) 8 0 0 (cΩ (caOf b1)) (cP dC dI cg kA (caOf b1)) (kR kTab kA) [.ref (caOf b1 0), .int a] S y S1) : gMetX l yL_letPass cL_letPass 4 [(0, 9, 12, 62), (0, 9, 15, 86)] 26 1 6 (jΩ b1 b2 o1 o2) (jP dC dI cg kA b1 b2 o1 o2 cL cD) (kR kTab kA) [.ref (caOf b1 0), .int a, .ref o1] (S, M, x, d) 0 (S1, M, y.toInt64, d) := gEntryX (by decide) jOK (Nat.le_of_ble_eq_true rfl) (fun p e s m args below meth c Q ls X hT hP hS hret hl => by
  have hx := X.hx
  have hb := X.hb
  refine lv_aload_n hx hb dL_letPass_0 rfl (lv_at hl 2 rfl) ?_
  refine lv_iconst (v := 0) hx hb dL_letPass_1 (by decide) ?_
  refine lv_aload_n hx hb dL_letPass_2 rfl (lv_at hl 0 rfl) ?_
  refine lv_iload_n hx hb dL_letPass_3 rfl (lv_at hl 1 rfl) ?_
  refine gCallWI X (gF_ok cOK (fsC hap)) (hM.lift (fsC hap)) (cw_V 1 X (gT_V tw1506 tw1507 tw1508 tw1 tw1509) ⟨rfl, by decide, by decide, by decide +kernel⟩ ⟨by decide, by decide⟩) rfl hP hS (jA hS.1) (cr_rec hP.1 (rfl : kc 0 = 0) rfl cw0 rfl) hl.1 (Nat.le_of_ble_eq_true rfl) ⟨Nat.le_of_ble_eq_true rfl, Nat.le_of_ble_eq_true rfl⟩ dL_letPass_4 (As := [.int a]) (rest := [.int 0, .ref o1]) rfl (fun H locs hP hS => ?_)
  refine lv_i2l hx hb dL_letPass_7 rfl ?_
  refine j_last (S := S1) (M := M) (x := x) (d := d) X hap hP hS (Or.inl (Or.inr (Or.inr (Or.inl rfl)))) dL_letPass_8 (fun H locs hP hS => ?_)
  refine lv_goto (tgt := 18) hx hb dL_letPass_9 (by decide) ?_
  refine lv_iconst (v := 0) hx hb dL_letPass_18 (by decide) ?_
  exact hret _ _ _ _ _ _ dL_letPass_19 hP hS (Nat.le_of_ble_eq_true rfl) (Nat.le_of_ble_eq_true rfl))
theorem xt1_letPass {a : Int32} (hap : APJ b1 b2 o1 o2) (hM : gThr l yX10_letPass cX10_letPass 2 (some .int) 8 (cΩ (caOf b1)) (cP dC dI cg kA (caOf b1)) (kR kTab kA) [.ref (caOf b1 0), .int a] S "java/lang/IllegalArgumentException" S1) : gMetX l yL_letPass cL_letPass 4 [(0, 9, 12, 62), (0, 9, 15, 86)] 26 1 6 (jΩ b1 b2 o1 o2) (jP dC dI cg kA b1 b2 o1 o2 cL cD) (kR kTab kA) [.ref (caOf b1 0), .int a, .ref o1] (S, M, x, d) 1 (S1, M, x, d) := gEntryX (by decide) jOK (Nat.le_of_ble_eq_true rfl) (fun p e s m args below meth c Q ls X hT hP hS hret hl => by
  have hx := X.hx
  have hb := X.hb
  refine lv_aload_n hx hb dL_letPass_0 rfl (lv_at hl 2 rfl) ?_
  refine lv_iconst (v := 0) hx hb dL_letPass_1 (by decide) ?_
  refine lv_aload_n hx hb dL_letPass_2 rfl (lv_at hl 0 rfl) ?_
  refine lv_iload_n hx hb dL_letPass_3 rfl (lv_at hl 1 rfl) ?_
  refine gCallWT X (gF_ok cOK (fsC hap)) (hM.lift (fsC hap)) (cw_V 1 X (gT_V tw1506 tw1507 tw1508 tw1 tw1509) ⟨rfl, by decide, by decide, by decide +kernel⟩ ⟨by decide, by decide⟩) rfl hP hS (jA hS.1) (cr_rec hP.1 (rfl : kc 0 = 0) rfl cw0 rfl) hl.1 (Nat.le_of_ble_eq_true rfl) ⟨Nat.le_of_ble_eq_true rfl, Nat.le_of_ble_eq_true rfl⟩ dL_letPass_4 (As := [.int a]) (rest := [.int 0, .ref o1]) rfl (fun H locs q9 ce hP hS hce hcv hcl => ?_)
  refine vx_catch (own := "GranaryWatchLaw") (name := "java/lang/IllegalArgumentException") (E := "java/lang/IllegalArgumentException") X.hown [] ⟨0, 9, 12, 62⟩ [⟨0, 9, 15, 86⟩] (hT.trans rfl) (fun z hz => nomatch hz) (by decide) (by decide) (X.hts _ tw1439) (xw_use rfl (X.ks.2.1 _ xc62)) hce hcv hcl ?_
  refine W.eq (g2 := F0 m 12 ls [.ref q9]) rfl ?_
  refine lv_astore_n (lv' := [(3, .ref q9), (0, .ref (caOf b1 0)), (1, .int a), (2, .ref o1)]) hx hb dL_letPass_12 rfl hl (by decide) rfl (fun ls hl => ?_)
  refine lv_iconst (v := 1) hx hb dL_letPass_13 (by decide) ?_
  exact hret _ _ _ _ _ _ dL_letPass_14 hP hS (Nat.le_of_ble_eq_true rfl) (Nat.le_of_ble_eq_true rfl))
theorem xt2_letPass {a : Int32} (hap : APJ b1 b2 o1 o2) (hM : gThr l yX10_letPass cX10_letPass 2 (some .int) 8 (cΩ (caOf b1)) (cP dC dI cg kA (caOf b1)) (kR kTab kA) [.ref (caOf b1 0), .int a] S "java/lang/IllegalStateException" S1) : gMetX l yL_letPass cL_letPass 4 [(0, 9, 12, 62), (0, 9, 15, 86)] 26 1 6 (jΩ b1 b2 o1 o2) (jP dC dI cg kA b1 b2 o1 o2 cL cD) (kR kTab kA) [.ref (caOf b1 0), .int a, .ref o1] (S, M, x, d) 2 (S1, M, x, d) := gEntryX (by decide) jOK (Nat.le_of_ble_eq_true rfl) (fun p e s m args below meth c Q ls X hT hP hS hret hl => by
  have hx := X.hx
  have hb := X.hb
  refine lv_aload_n hx hb dL_letPass_0 rfl (lv_at hl 2 rfl) ?_
  refine lv_iconst (v := 0) hx hb dL_letPass_1 (by decide) ?_
  refine lv_aload_n hx hb dL_letPass_2 rfl (lv_at hl 0 rfl) ?_
  refine lv_iload_n hx hb dL_letPass_3 rfl (lv_at hl 1 rfl) ?_
  refine gCallWT X (gF_ok cOK (fsC hap)) (hM.lift (fsC hap)) (cw_V 1 X (gT_V tw1506 tw1507 tw1508 tw1 tw1509) ⟨rfl, by decide, by decide, by decide +kernel⟩ ⟨by decide, by decide⟩) rfl hP hS (jA hS.1) (cr_rec hP.1 (rfl : kc 0 = 0) rfl cw0 rfl) hl.1 (Nat.le_of_ble_eq_true rfl) ⟨Nat.le_of_ble_eq_true rfl, Nat.le_of_ble_eq_true rfl⟩ dL_letPass_4 (As := [.int a]) (rest := [.int 0, .ref o1]) rfl (fun H locs q9 ce hP hS hce hcv hcl => ?_)
  refine vx_catch (own := "GranaryWatchLaw") (name := "java/lang/IllegalStateException") (E := "java/lang/IllegalStateException") X.hown [⟨0, 9, 12, 62⟩] ⟨0, 9, 15, 86⟩ [] (hT.trans rfl) (fun z hz => ((fun e => by rw [e]; exact Or.inr ⟨by decide, _, X.hts _ tw1439, X.ks.2.2.2.2.1⟩)) (List.mem_singleton.mp hz)) (by decide) (by decide) (X.hts _ tw1505) (xw_use rfl (X.ks.2.1 _ xc86)) hce hcv hcl ?_
  refine W.eq (g2 := F0 m 15 ls [.ref q9]) rfl ?_
  refine lv_astore_n (lv' := [(3, .ref q9), (0, .ref (caOf b1 0)), (1, .int a), (2, .ref o1)]) hx hb dL_letPass_15 rfl hl (by decide) rfl (fun ls hl => ?_)
  refine lv_iconst (v := 2) hx hb dL_letPass_16 (by decide) ?_
  exact hret _ _ _ _ _ _ dL_letPass_17 hP hS (Nat.le_of_ble_eq_true rfl) (Nat.le_of_ble_eq_true rfl))
theorem xo_openFlap {a : Int32} {y : Int32} (hap : APJ b1 b2 o1 o2) (hM : gMetIA l yX10_openFlap cX10_openFlap 2 (some .int) 8 0 0 (cΩ (caOf b1)) (cP dC dI cg kA (caOf b1)) (kR kTab kA) [.ref (caOf b1 0), .int a] S y S1) : gMetX l yL_openFlap cL_openFlap 4 [(0, 9, 12, 13), (0, 9, 15, 86)] 26 1 6 (jΩ b1 b2 o1 o2) (jP dC dI cg kA b1 b2 o1 o2 cL cD) (kR kTab kA) [.ref (caOf b1 0), .int a, .ref o1] (S, M, x, d) 0 (S1, M, y.toInt64, d) := gEntryX (by decide) jOK (Nat.le_of_ble_eq_true rfl) (fun p e s m args below meth c Q ls X hT hP hS hret hl => by
  have hx := X.hx
  have hb := X.hb
  refine lv_aload_n hx hb dL_openFlap_0 rfl (lv_at hl 2 rfl) ?_
  refine lv_iconst (v := 0) hx hb dL_openFlap_1 (by decide) ?_
  refine lv_aload_n hx hb dL_openFlap_2 rfl (lv_at hl 0 rfl) ?_
  refine lv_iload_n hx hb dL_openFlap_3 rfl (lv_at hl 1 rfl) ?_
  refine gCallWI X (gF_ok cOK (fsC hap)) (hM.lift (fsC hap)) (cw_V 1 X (gT_V tw1535 tw1536 tw1537 tw1 tw1538) ⟨rfl, by decide, by decide, by decide +kernel⟩ ⟨by decide, by decide⟩) rfl hP hS (jA hS.1) (cr_rec hP.1 (rfl : kc 0 = 0) rfl cw0 rfl) hl.1 (Nat.le_of_ble_eq_true rfl) ⟨Nat.le_of_ble_eq_true rfl, Nat.le_of_ble_eq_true rfl⟩ dL_openFlap_4 (As := [.int a]) (rest := [.int 0, .ref o1]) rfl (fun H locs hP hS => ?_)
  refine lv_i2l hx hb dL_openFlap_7 rfl ?_
  refine j_last (S := S1) (M := M) (x := x) (d := d) X hap hP hS (Or.inl (Or.inr (Or.inr (Or.inl rfl)))) dL_openFlap_8 (fun H locs hP hS => ?_)
  refine lv_goto (tgt := 18) hx hb dL_openFlap_9 (by decide) ?_
  refine lv_iconst (v := 0) hx hb dL_openFlap_18 (by decide) ?_
  exact hret _ _ _ _ _ _ dL_openFlap_19 hP hS (Nat.le_of_ble_eq_true rfl) (Nat.le_of_ble_eq_true rfl))
theorem xt1_openFlap {a : Int32} (hap : APJ b1 b2 o1 o2) (hM : gThr l yX10_openFlap cX10_openFlap 2 (some .int) 8 (cΩ (caOf b1)) (cP dC dI cg kA (caOf b1)) (kR kTab kA) [.ref (caOf b1 0), .int a] S "java/lang/IndexOutOfBoundsException" S1) : gMetX l yL_openFlap cL_openFlap 4 [(0, 9, 12, 13), (0, 9, 15, 86)] 26 1 6 (jΩ b1 b2 o1 o2) (jP dC dI cg kA b1 b2 o1 o2 cL cD) (kR kTab kA) [.ref (caOf b1 0), .int a, .ref o1] (S, M, x, d) 1 (S1, M, x, d) := gEntryX (by decide) jOK (Nat.le_of_ble_eq_true rfl) (fun p e s m args below meth c Q ls X hT hP hS hret hl => by
  have hx := X.hx
  have hb := X.hb
  refine lv_aload_n hx hb dL_openFlap_0 rfl (lv_at hl 2 rfl) ?_
  refine lv_iconst (v := 0) hx hb dL_openFlap_1 (by decide) ?_
  refine lv_aload_n hx hb dL_openFlap_2 rfl (lv_at hl 0 rfl) ?_
  refine lv_iload_n hx hb dL_openFlap_3 rfl (lv_at hl 1 rfl) ?_
  refine gCallWT X (gF_ok cOK (fsC hap)) (hM.lift (fsC hap)) (cw_V 1 X (gT_V tw1535 tw1536 tw1537 tw1 tw1538) ⟨rfl, by decide, by decide, by decide +kernel⟩ ⟨by decide, by decide⟩) rfl hP hS (jA hS.1) (cr_rec hP.1 (rfl : kc 0 = 0) rfl cw0 rfl) hl.1 (Nat.le_of_ble_eq_true rfl) ⟨Nat.le_of_ble_eq_true rfl, Nat.le_of_ble_eq_true rfl⟩ dL_openFlap_4 (As := [.int a]) (rest := [.int 0, .ref o1]) rfl (fun H locs q9 ce hP hS hce hcv hcl => ?_)
  refine vx_catch (own := "GranaryWatchLaw") (name := "java/lang/IndexOutOfBoundsException") (E := "java/lang/IndexOutOfBoundsException") X.hown [] ⟨0, 9, 12, 13⟩ [⟨0, 9, 15, 86⟩] (hT.trans rfl) (fun z hz => nomatch hz) (by decide) (by decide) (X.hts _ tw1299) (xw_use rfl (X.ks.2.1 _ xc13)) hce hcv hcl ?_
  refine W.eq (g2 := F0 m 12 ls [.ref q9]) rfl ?_
  refine lv_astore_n (lv' := [(3, .ref q9), (0, .ref (caOf b1 0)), (1, .int a), (2, .ref o1)]) hx hb dL_openFlap_12 rfl hl (by decide) rfl (fun ls hl => ?_)
  refine lv_iconst (v := 1) hx hb dL_openFlap_13 (by decide) ?_
  exact hret _ _ _ _ _ _ dL_openFlap_14 hP hS (Nat.le_of_ble_eq_true rfl) (Nat.le_of_ble_eq_true rfl))
theorem xt2_openFlap {a : Int32} (hap : APJ b1 b2 o1 o2) (hM : gThr l yX10_openFlap cX10_openFlap 2 (some .int) 8 (cΩ (caOf b1)) (cP dC dI cg kA (caOf b1)) (kR kTab kA) [.ref (caOf b1 0), .int a] S "java/lang/IllegalStateException" S1) : gMetX l yL_openFlap cL_openFlap 4 [(0, 9, 12, 13), (0, 9, 15, 86)] 26 1 6 (jΩ b1 b2 o1 o2) (jP dC dI cg kA b1 b2 o1 o2 cL cD) (kR kTab kA) [.ref (caOf b1 0), .int a, .ref o1] (S, M, x, d) 2 (S1, M, x, d) := gEntryX (by decide) jOK (Nat.le_of_ble_eq_true rfl) (fun p e s m args below meth c Q ls X hT hP hS hret hl => by
  have hx := X.hx
  have hb := X.hb
  refine lv_aload_n hx hb dL_openFlap_0 rfl (lv_at hl 2 rfl) ?_
  refine lv_iconst (v := 0) hx hb dL_openFlap_1 (by decide) ?_
  refine lv_aload_n hx hb dL_openFlap_2 rfl (lv_at hl 0 rfl) ?_
  refine lv_iload_n hx hb dL_openFlap_3 rfl (lv_at hl 1 rfl) ?_
  refine gCallWT X (gF_ok cOK (fsC hap)) (hM.lift (fsC hap)) (cw_V 1 X (gT_V tw1535 tw1536 tw1537 tw1 tw1538) ⟨rfl, by decide, by decide, by decide +kernel⟩ ⟨by decide, by decide⟩) rfl hP hS (jA hS.1) (cr_rec hP.1 (rfl : kc 0 = 0) rfl cw0 rfl) hl.1 (Nat.le_of_ble_eq_true rfl) ⟨Nat.le_of_ble_eq_true rfl, Nat.le_of_ble_eq_true rfl⟩ dL_openFlap_4 (As := [.int a]) (rest := [.int 0, .ref o1]) rfl (fun H locs q9 ce hP hS hce hcv hcl => ?_)
  refine vx_catch (own := "GranaryWatchLaw") (name := "java/lang/IllegalStateException") (E := "java/lang/IllegalStateException") X.hown [⟨0, 9, 12, 13⟩] ⟨0, 9, 15, 86⟩ [] (hT.trans rfl) (fun z hz => ((fun e => by rw [e]; exact Or.inr ⟨by decide, _, X.hts _ tw1299, X.ks.2.2.2.1⟩)) (List.mem_singleton.mp hz)) (by decide) (by decide) (X.hts _ tw1505) (xw_use rfl (X.ks.2.1 _ xc86)) hce hcv hcl ?_
  refine W.eq (g2 := F0 m 15 ls [.ref q9]) rfl ?_
  refine lv_astore_n (lv' := [(3, .ref q9), (0, .ref (caOf b1 0)), (1, .int a), (2, .ref o1)]) hx hb dL_openFlap_15 rfl hl (by decide) rfl (fun ls hl => ?_)
  refine lv_iconst (v := 2) hx hb dL_openFlap_16 (by decide) ?_
  exact hret _ _ _ _ _ _ dL_openFlap_17 hP hS (Nat.le_of_ble_eq_true rfl) (Nat.le_of_ble_eq_true rfl))
theorem xo_shutFlap {a : Int32} {y : Int32} (hap : APJ b1 b2 o1 o2) (hM : gMetIA l yX10_shutFlap cX10_shutFlap 2 (some .int) 8 0 0 (cΩ (caOf b1)) (cP dC dI cg kA (caOf b1)) (kR kTab kA) [.ref (caOf b1 0), .int a] S y S1) : gMetX l yL_shutFlap cL_shutFlap 4 [(0, 9, 12, 13), (0, 9, 15, 86)] 26 1 6 (jΩ b1 b2 o1 o2) (jP dC dI cg kA b1 b2 o1 o2 cL cD) (kR kTab kA) [.ref (caOf b1 0), .int a, .ref o1] (S, M, x, d) 0 (S1, M, y.toInt64, d) := gEntryX (by decide) jOK (Nat.le_of_ble_eq_true rfl) (fun p e s m args below meth c Q ls X hT hP hS hret hl => by
  have hx := X.hx
  have hb := X.hb
  refine lv_aload_n hx hb dL_shutFlap_0 rfl (lv_at hl 2 rfl) ?_
  refine lv_iconst (v := 0) hx hb dL_shutFlap_1 (by decide) ?_
  refine lv_aload_n hx hb dL_shutFlap_2 rfl (lv_at hl 0 rfl) ?_
  refine lv_iload_n hx hb dL_shutFlap_3 rfl (lv_at hl 1 rfl) ?_
  refine gCallWI X (gF_ok cOK (fsC hap)) (hM.lift (fsC hap)) (cw_V 1 X (gT_V tw1542 tw1543 tw1544 tw1 tw1545) ⟨rfl, by decide, by decide, by decide +kernel⟩ ⟨by decide, by decide⟩) rfl hP hS (jA hS.1) (cr_rec hP.1 (rfl : kc 0 = 0) rfl cw0 rfl) hl.1 (Nat.le_of_ble_eq_true rfl) ⟨Nat.le_of_ble_eq_true rfl, Nat.le_of_ble_eq_true rfl⟩ dL_shutFlap_4 (As := [.int a]) (rest := [.int 0, .ref o1]) rfl (fun H locs hP hS => ?_)
  refine lv_i2l hx hb dL_shutFlap_7 rfl ?_
  refine j_last (S := S1) (M := M) (x := x) (d := d) X hap hP hS (Or.inl (Or.inr (Or.inr (Or.inl rfl)))) dL_shutFlap_8 (fun H locs hP hS => ?_)
  refine lv_goto (tgt := 18) hx hb dL_shutFlap_9 (by decide) ?_
  refine lv_iconst (v := 0) hx hb dL_shutFlap_18 (by decide) ?_
  exact hret _ _ _ _ _ _ dL_shutFlap_19 hP hS (Nat.le_of_ble_eq_true rfl) (Nat.le_of_ble_eq_true rfl))
theorem xt1_shutFlap {a : Int32} (hap : APJ b1 b2 o1 o2) (hM : gThr l yX10_shutFlap cX10_shutFlap 2 (some .int) 8 (cΩ (caOf b1)) (cP dC dI cg kA (caOf b1)) (kR kTab kA) [.ref (caOf b1 0), .int a] S "java/lang/IndexOutOfBoundsException" S1) : gMetX l yL_shutFlap cL_shutFlap 4 [(0, 9, 12, 13), (0, 9, 15, 86)] 26 1 6 (jΩ b1 b2 o1 o2) (jP dC dI cg kA b1 b2 o1 o2 cL cD) (kR kTab kA) [.ref (caOf b1 0), .int a, .ref o1] (S, M, x, d) 1 (S1, M, x, d) := gEntryX (by decide) jOK (Nat.le_of_ble_eq_true rfl) (fun p e s m args below meth c Q ls X hT hP hS hret hl => by
  have hx := X.hx
  have hb := X.hb
  refine lv_aload_n hx hb dL_shutFlap_0 rfl (lv_at hl 2 rfl) ?_
  refine lv_iconst (v := 0) hx hb dL_shutFlap_1 (by decide) ?_
  refine lv_aload_n hx hb dL_shutFlap_2 rfl (lv_at hl 0 rfl) ?_
  refine lv_iload_n hx hb dL_shutFlap_3 rfl (lv_at hl 1 rfl) ?_
  refine gCallWT X (gF_ok cOK (fsC hap)) (hM.lift (fsC hap)) (cw_V 1 X (gT_V tw1542 tw1543 tw1544 tw1 tw1545) ⟨rfl, by decide, by decide, by decide +kernel⟩ ⟨by decide, by decide⟩) rfl hP hS (jA hS.1) (cr_rec hP.1 (rfl : kc 0 = 0) rfl cw0 rfl) hl.1 (Nat.le_of_ble_eq_true rfl) ⟨Nat.le_of_ble_eq_true rfl, Nat.le_of_ble_eq_true rfl⟩ dL_shutFlap_4 (As := [.int a]) (rest := [.int 0, .ref o1]) rfl (fun H locs q9 ce hP hS hce hcv hcl => ?_)
  refine vx_catch (own := "GranaryWatchLaw") (name := "java/lang/IndexOutOfBoundsException") (E := "java/lang/IndexOutOfBoundsException") X.hown [] ⟨0, 9, 12, 13⟩ [⟨0, 9, 15, 86⟩] (hT.trans rfl) (fun z hz => nomatch hz) (by decide) (by decide) (X.hts _ tw1299) (xw_use rfl (X.ks.2.1 _ xc13)) hce hcv hcl ?_
  refine W.eq (g2 := F0 m 12 ls [.ref q9]) rfl ?_
  refine lv_astore_n (lv' := [(3, .ref q9), (0, .ref (caOf b1 0)), (1, .int a), (2, .ref o1)]) hx hb dL_shutFlap_12 rfl hl (by decide) rfl (fun ls hl => ?_)
  refine lv_iconst (v := 1) hx hb dL_shutFlap_13 (by decide) ?_
  exact hret _ _ _ _ _ _ dL_shutFlap_14 hP hS (Nat.le_of_ble_eq_true rfl) (Nat.le_of_ble_eq_true rfl))
theorem xt2_shutFlap {a : Int32} (hap : APJ b1 b2 o1 o2) (hM : gThr l yX10_shutFlap cX10_shutFlap 2 (some .int) 8 (cΩ (caOf b1)) (cP dC dI cg kA (caOf b1)) (kR kTab kA) [.ref (caOf b1 0), .int a] S "java/lang/IllegalStateException" S1) : gMetX l yL_shutFlap cL_shutFlap 4 [(0, 9, 12, 13), (0, 9, 15, 86)] 26 1 6 (jΩ b1 b2 o1 o2) (jP dC dI cg kA b1 b2 o1 o2 cL cD) (kR kTab kA) [.ref (caOf b1 0), .int a, .ref o1] (S, M, x, d) 2 (S1, M, x, d) := gEntryX (by decide) jOK (Nat.le_of_ble_eq_true rfl) (fun p e s m args below meth c Q ls X hT hP hS hret hl => by
  have hx := X.hx
  have hb := X.hb
  refine lv_aload_n hx hb dL_shutFlap_0 rfl (lv_at hl 2 rfl) ?_
  refine lv_iconst (v := 0) hx hb dL_shutFlap_1 (by decide) ?_
  refine lv_aload_n hx hb dL_shutFlap_2 rfl (lv_at hl 0 rfl) ?_
  refine lv_iload_n hx hb dL_shutFlap_3 rfl (lv_at hl 1 rfl) ?_
  refine gCallWT X (gF_ok cOK (fsC hap)) (hM.lift (fsC hap)) (cw_V 1 X (gT_V tw1542 tw1543 tw1544 tw1 tw1545) ⟨rfl, by decide, by decide, by decide +kernel⟩ ⟨by decide, by decide⟩) rfl hP hS (jA hS.1) (cr_rec hP.1 (rfl : kc 0 = 0) rfl cw0 rfl) hl.1 (Nat.le_of_ble_eq_true rfl) ⟨Nat.le_of_ble_eq_true rfl, Nat.le_of_ble_eq_true rfl⟩ dL_shutFlap_4 (As := [.int a]) (rest := [.int 0, .ref o1]) rfl (fun H locs q9 ce hP hS hce hcv hcl => ?_)
  refine vx_catch (own := "GranaryWatchLaw") (name := "java/lang/IllegalStateException") (E := "java/lang/IllegalStateException") X.hown [⟨0, 9, 12, 13⟩] ⟨0, 9, 15, 86⟩ [] (hT.trans rfl) (fun z hz => ((fun e => by rw [e]; exact Or.inr ⟨by decide, _, X.hts _ tw1299, X.ks.2.2.2.1⟩)) (List.mem_singleton.mp hz)) (by decide) (by decide) (X.hts _ tw1505) (xw_use rfl (X.ks.2.1 _ xc86)) hce hcv hcl ?_
  refine W.eq (g2 := F0 m 15 ls [.ref q9]) rfl ?_
  refine lv_astore_n (lv' := [(3, .ref q9), (0, .ref (caOf b1 0)), (1, .int a), (2, .ref o1)]) hx hb dL_shutFlap_15 rfl hl (by decide) rfl (fun ls hl => ?_)
  refine lv_iconst (v := 2) hx hb dL_shutFlap_16 (by decide) ?_
  exact hret _ _ _ _ _ _ dL_shutFlap_17 hP hS (Nat.le_of_ble_eq_true rfl) (Nat.le_of_ble_eq_true rfl))
theorem xo_addMice {a : Int32} {b : Int32} {y : Int32} (hap : APJ b1 b2 o1 o2) (hM : gMetIA l yX10_addMice cX10_addMice 3 (some .int) 8 0 0 (cΩ (caOf b1)) (cP dC dI cg kA (caOf b1)) (kR kTab kA) [.ref (caOf b1 0), .int a, .int b] S y S1) : gMetX l yL_addMice cL_addMice 5 [(0, 10, 13, 13), (0, 10, 17, 62), (0, 10, 21, 86)] 26 1 6 (jΩ b1 b2 o1 o2) (jP dC dI cg kA b1 b2 o1 o2 cL cD) (kR kTab kA) [.ref (caOf b1 0), .int a, .int b, .ref o1] (S, M, x, d) 0 (S1, M, y.toInt64, d) := gEntryX (by decide) jOK (Nat.le_of_ble_eq_true rfl) (fun p e s m args below meth c Q ls X hT hP hS hret hl => by
  have hx := X.hx
  have hb := X.hb
  refine lv_aload_n hx hb dL_addMice_0 rfl (lv_at hl 3 rfl) ?_
  refine lv_iconst (v := 0) hx hb dL_addMice_1 (by decide) ?_
  refine lv_aload_n hx hb dL_addMice_2 rfl (lv_at hl 0 rfl) ?_
  refine lv_iload_n hx hb dL_addMice_3 rfl (lv_at hl 1 rfl) ?_
  refine lv_iload_n hx hb dL_addMice_4 rfl (lv_at hl 2 rfl) ?_
  refine gCallWI X (gF_ok cOK (fsC hap)) (hM.lift (fsC hap)) (cw_V 2 X (gT_V tw1549 tw1550 tw1551 tw1 tw1552) ⟨rfl, by decide, by decide, by decide +kernel⟩ ⟨by decide, by decide⟩) rfl hP hS (jA hS.1) (cr_rec hP.1 (rfl : kc 0 = 0) rfl cw0 rfl) hl.1 (Nat.le_of_ble_eq_true rfl) ⟨Nat.le_of_ble_eq_true rfl, Nat.le_of_ble_eq_true rfl⟩ dL_addMice_5 (As := [.int a, .int b]) (rest := [.int 0, .ref o1]) rfl (fun H locs hP hS => ?_)
  refine lv_i2l hx hb dL_addMice_8 rfl ?_
  refine j_last (S := S1) (M := M) (x := x) (d := d) X hap hP hS (Or.inl (Or.inr (Or.inr (Or.inl rfl)))) dL_addMice_9 (fun H locs hP hS => ?_)
  refine lv_goto (tgt := 25) hx hb dL_addMice_10 (by decide) ?_
  refine lv_iconst (v := 0) hx hb dL_addMice_25 (by decide) ?_
  exact hret _ _ _ _ _ _ dL_addMice_26 hP hS (Nat.le_of_ble_eq_true rfl) (Nat.le_of_ble_eq_true rfl))
theorem xt1_addMice {a : Int32} {b : Int32} (hap : APJ b1 b2 o1 o2) (hM : gThr l yX10_addMice cX10_addMice 3 (some .int) 8 (cΩ (caOf b1)) (cP dC dI cg kA (caOf b1)) (kR kTab kA) [.ref (caOf b1 0), .int a, .int b] S "java/lang/IndexOutOfBoundsException" S1) : gMetX l yL_addMice cL_addMice 5 [(0, 10, 13, 13), (0, 10, 17, 62), (0, 10, 21, 86)] 26 1 6 (jΩ b1 b2 o1 o2) (jP dC dI cg kA b1 b2 o1 o2 cL cD) (kR kTab kA) [.ref (caOf b1 0), .int a, .int b, .ref o1] (S, M, x, d) 1 (S1, M, x, d) := gEntryX (by decide) jOK (Nat.le_of_ble_eq_true rfl) (fun p e s m args below meth c Q ls X hT hP hS hret hl => by
  have hx := X.hx
  have hb := X.hb
  refine lv_aload_n hx hb dL_addMice_0 rfl (lv_at hl 3 rfl) ?_
  refine lv_iconst (v := 0) hx hb dL_addMice_1 (by decide) ?_
  refine lv_aload_n hx hb dL_addMice_2 rfl (lv_at hl 0 rfl) ?_
  refine lv_iload_n hx hb dL_addMice_3 rfl (lv_at hl 1 rfl) ?_
  refine lv_iload_n hx hb dL_addMice_4 rfl (lv_at hl 2 rfl) ?_
  refine gCallWT X (gF_ok cOK (fsC hap)) (hM.lift (fsC hap)) (cw_V 2 X (gT_V tw1549 tw1550 tw1551 tw1 tw1552) ⟨rfl, by decide, by decide, by decide +kernel⟩ ⟨by decide, by decide⟩) rfl hP hS (jA hS.1) (cr_rec hP.1 (rfl : kc 0 = 0) rfl cw0 rfl) hl.1 (Nat.le_of_ble_eq_true rfl) ⟨Nat.le_of_ble_eq_true rfl, Nat.le_of_ble_eq_true rfl⟩ dL_addMice_5 (As := [.int a, .int b]) (rest := [.int 0, .ref o1]) rfl (fun H locs q9 ce hP hS hce hcv hcl => ?_)
  refine vx_catch (own := "GranaryWatchLaw") (name := "java/lang/IndexOutOfBoundsException") (E := "java/lang/IndexOutOfBoundsException") X.hown [] ⟨0, 10, 13, 13⟩ [⟨0, 10, 17, 62⟩, ⟨0, 10, 21, 86⟩] (hT.trans rfl) (fun z hz => nomatch hz) (by decide) (by decide) (X.hts _ tw1299) (xw_use rfl (X.ks.2.1 _ xc13)) hce hcv hcl ?_
  refine W.eq (g2 := F0 m 13 ls [.ref q9]) rfl ?_
  refine lv_astore (lv' := [(4, .ref q9), (0, .ref (caOf b1 0)), (1, .int a), (2, .int b), (3, .ref o1)]) hx hb dL_addMice_13 hl (by decide) rfl (fun ls hl => ?_)
  refine lv_iconst (v := 1) hx hb dL_addMice_15 (by decide) ?_
  exact hret _ _ _ _ _ _ dL_addMice_16 hP hS (Nat.le_of_ble_eq_true rfl) (Nat.le_of_ble_eq_true rfl))
theorem xt2_addMice {a : Int32} {b : Int32} (hap : APJ b1 b2 o1 o2) (hM : gThr l yX10_addMice cX10_addMice 3 (some .int) 8 (cΩ (caOf b1)) (cP dC dI cg kA (caOf b1)) (kR kTab kA) [.ref (caOf b1 0), .int a, .int b] S "java/lang/IllegalArgumentException" S1) : gMetX l yL_addMice cL_addMice 5 [(0, 10, 13, 13), (0, 10, 17, 62), (0, 10, 21, 86)] 26 1 6 (jΩ b1 b2 o1 o2) (jP dC dI cg kA b1 b2 o1 o2 cL cD) (kR kTab kA) [.ref (caOf b1 0), .int a, .int b, .ref o1] (S, M, x, d) 2 (S1, M, x, d) := gEntryX (by decide) jOK (Nat.le_of_ble_eq_true rfl) (fun p e s m args below meth c Q ls X hT hP hS hret hl => by
  have hx := X.hx
  have hb := X.hb
  refine lv_aload_n hx hb dL_addMice_0 rfl (lv_at hl 3 rfl) ?_
  refine lv_iconst (v := 0) hx hb dL_addMice_1 (by decide) ?_
  refine lv_aload_n hx hb dL_addMice_2 rfl (lv_at hl 0 rfl) ?_
  refine lv_iload_n hx hb dL_addMice_3 rfl (lv_at hl 1 rfl) ?_
  refine lv_iload_n hx hb dL_addMice_4 rfl (lv_at hl 2 rfl) ?_
  refine gCallWT X (gF_ok cOK (fsC hap)) (hM.lift (fsC hap)) (cw_V 2 X (gT_V tw1549 tw1550 tw1551 tw1 tw1552) ⟨rfl, by decide, by decide, by decide +kernel⟩ ⟨by decide, by decide⟩) rfl hP hS (jA hS.1) (cr_rec hP.1 (rfl : kc 0 = 0) rfl cw0 rfl) hl.1 (Nat.le_of_ble_eq_true rfl) ⟨Nat.le_of_ble_eq_true rfl, Nat.le_of_ble_eq_true rfl⟩ dL_addMice_5 (As := [.int a, .int b]) (rest := [.int 0, .ref o1]) rfl (fun H locs q9 ce hP hS hce hcv hcl => ?_)
  refine vx_catch (own := "GranaryWatchLaw") (name := "java/lang/IllegalArgumentException") (E := "java/lang/IllegalArgumentException") X.hown [⟨0, 10, 13, 13⟩] ⟨0, 10, 17, 62⟩ [⟨0, 10, 21, 86⟩] (hT.trans rfl) (fun z hz => ((fun e => by rw [e]; exact Or.inr ⟨by decide, _, X.hts _ tw1299, X.ks.2.2.1⟩)) (List.mem_singleton.mp hz)) (by decide) (by decide) (X.hts _ tw1439) (xw_use rfl (X.ks.2.1 _ xc62)) hce hcv hcl ?_
  refine W.eq (g2 := F0 m 17 ls [.ref q9]) rfl ?_
  refine lv_astore (lv' := [(4, .ref q9), (0, .ref (caOf b1 0)), (1, .int a), (2, .int b), (3, .ref o1)]) hx hb dL_addMice_17 hl (by decide) rfl (fun ls hl => ?_)
  refine lv_iconst (v := 2) hx hb dL_addMice_19 (by decide) ?_
  exact hret _ _ _ _ _ _ dL_addMice_20 hP hS (Nat.le_of_ble_eq_true rfl) (Nat.le_of_ble_eq_true rfl))
theorem xt3_addMice {a : Int32} {b : Int32} (hap : APJ b1 b2 o1 o2) (hM : gThr l yX10_addMice cX10_addMice 3 (some .int) 8 (cΩ (caOf b1)) (cP dC dI cg kA (caOf b1)) (kR kTab kA) [.ref (caOf b1 0), .int a, .int b] S "java/lang/IllegalStateException" S1) : gMetX l yL_addMice cL_addMice 5 [(0, 10, 13, 13), (0, 10, 17, 62), (0, 10, 21, 86)] 26 1 6 (jΩ b1 b2 o1 o2) (jP dC dI cg kA b1 b2 o1 o2 cL cD) (kR kTab kA) [.ref (caOf b1 0), .int a, .int b, .ref o1] (S, M, x, d) 3 (S1, M, x, d) := gEntryX (by decide) jOK (Nat.le_of_ble_eq_true rfl) (fun p e s m args below meth c Q ls X hT hP hS hret hl => by
  have hx := X.hx
  have hb := X.hb
  refine lv_aload_n hx hb dL_addMice_0 rfl (lv_at hl 3 rfl) ?_
  refine lv_iconst (v := 0) hx hb dL_addMice_1 (by decide) ?_
  refine lv_aload_n hx hb dL_addMice_2 rfl (lv_at hl 0 rfl) ?_
  refine lv_iload_n hx hb dL_addMice_3 rfl (lv_at hl 1 rfl) ?_
  refine lv_iload_n hx hb dL_addMice_4 rfl (lv_at hl 2 rfl) ?_
  refine gCallWT X (gF_ok cOK (fsC hap)) (hM.lift (fsC hap)) (cw_V 2 X (gT_V tw1549 tw1550 tw1551 tw1 tw1552) ⟨rfl, by decide, by decide, by decide +kernel⟩ ⟨by decide, by decide⟩) rfl hP hS (jA hS.1) (cr_rec hP.1 (rfl : kc 0 = 0) rfl cw0 rfl) hl.1 (Nat.le_of_ble_eq_true rfl) ⟨Nat.le_of_ble_eq_true rfl, Nat.le_of_ble_eq_true rfl⟩ dL_addMice_5 (As := [.int a, .int b]) (rest := [.int 0, .ref o1]) rfl (fun H locs q9 ce hP hS hce hcv hcl => ?_)
  refine vx_catch (own := "GranaryWatchLaw") (name := "java/lang/IllegalStateException") (E := "java/lang/IllegalStateException") X.hown [⟨0, 10, 13, 13⟩, ⟨0, 10, 17, 62⟩] ⟨0, 10, 21, 86⟩ [] (hT.trans rfl) (fun z hz => (List.mem_cons.mp hz).elim (fun e => by rw [e]; exact Or.inr ⟨by decide, _, X.hts _ tw1299, X.ks.2.2.2.1⟩) (fun hz => ((fun e => by rw [e]; exact Or.inr ⟨by decide, _, X.hts _ tw1439, X.ks.2.2.2.2.1⟩)) (List.mem_singleton.mp hz))) (by decide) (by decide) (X.hts _ tw1505) (xw_use rfl (X.ks.2.1 _ xc86)) hce hcv hcl ?_
  refine W.eq (g2 := F0 m 21 ls [.ref q9]) rfl ?_
  refine lv_astore (lv' := [(4, .ref q9), (0, .ref (caOf b1 0)), (1, .int a), (2, .int b), (3, .ref o1)]) hx hb dL_addMice_21 hl (by decide) rfl (fun ls hl => ?_)
  refine lv_iconst (v := 3) hx hb dL_addMice_23 (by decide) ?_
  exact hret _ _ _ _ _ _ dL_addMice_24 hP hS (Nat.le_of_ble_eq_true rfl) (Nat.le_of_ble_eq_true rfl))
theorem xo_addGrain {a : Int32} {b : Int32} {y : Int32} (hap : APJ b1 b2 o1 o2) (hM : gMetIA l yX10_addGrain cX10_addGrain 3 (some .int) 8 0 0 (cΩ (caOf b1)) (cP dC dI cg kA (caOf b1)) (kR kTab kA) [.ref (caOf b1 0), .int a, .int b] S y S1) : gMetX l yL_addGrain cL_addGrain 5 [(0, 10, 13, 13), (0, 10, 17, 62), (0, 10, 21, 86)] 26 1 6 (jΩ b1 b2 o1 o2) (jP dC dI cg kA b1 b2 o1 o2 cL cD) (kR kTab kA) [.ref (caOf b1 0), .int a, .int b, .ref o1] (S, M, x, d) 0 (S1, M, y.toInt64, d) := gEntryX (by decide) jOK (Nat.le_of_ble_eq_true rfl) (fun p e s m args below meth c Q ls X hT hP hS hret hl => by
  have hx := X.hx
  have hb := X.hb
  refine lv_aload_n hx hb dL_addGrain_0 rfl (lv_at hl 3 rfl) ?_
  refine lv_iconst (v := 0) hx hb dL_addGrain_1 (by decide) ?_
  refine lv_aload_n hx hb dL_addGrain_2 rfl (lv_at hl 0 rfl) ?_
  refine lv_iload_n hx hb dL_addGrain_3 rfl (lv_at hl 1 rfl) ?_
  refine lv_iload_n hx hb dL_addGrain_4 rfl (lv_at hl 2 rfl) ?_
  refine gCallWI X (gF_ok cOK (fsC hap)) (hM.lift (fsC hap)) (cw_V 2 X (gT_V tw1556 tw1557 tw1558 tw1 tw1559) ⟨rfl, by decide, by decide, by decide +kernel⟩ ⟨by decide, by decide⟩) rfl hP hS (jA hS.1) (cr_rec hP.1 (rfl : kc 0 = 0) rfl cw0 rfl) hl.1 (Nat.le_of_ble_eq_true rfl) ⟨Nat.le_of_ble_eq_true rfl, Nat.le_of_ble_eq_true rfl⟩ dL_addGrain_5 (As := [.int a, .int b]) (rest := [.int 0, .ref o1]) rfl (fun H locs hP hS => ?_)
  refine lv_i2l hx hb dL_addGrain_8 rfl ?_
  refine j_last (S := S1) (M := M) (x := x) (d := d) X hap hP hS (Or.inl (Or.inr (Or.inr (Or.inl rfl)))) dL_addGrain_9 (fun H locs hP hS => ?_)
  refine lv_goto (tgt := 25) hx hb dL_addGrain_10 (by decide) ?_
  refine lv_iconst (v := 0) hx hb dL_addGrain_25 (by decide) ?_
  exact hret _ _ _ _ _ _ dL_addGrain_26 hP hS (Nat.le_of_ble_eq_true rfl) (Nat.le_of_ble_eq_true rfl))
theorem xt1_addGrain {a : Int32} {b : Int32} (hap : APJ b1 b2 o1 o2) (hM : gThr l yX10_addGrain cX10_addGrain 3 (some .int) 8 (cΩ (caOf b1)) (cP dC dI cg kA (caOf b1)) (kR kTab kA) [.ref (caOf b1 0), .int a, .int b] S "java/lang/IndexOutOfBoundsException" S1) : gMetX l yL_addGrain cL_addGrain 5 [(0, 10, 13, 13), (0, 10, 17, 62), (0, 10, 21, 86)] 26 1 6 (jΩ b1 b2 o1 o2) (jP dC dI cg kA b1 b2 o1 o2 cL cD) (kR kTab kA) [.ref (caOf b1 0), .int a, .int b, .ref o1] (S, M, x, d) 1 (S1, M, x, d) := gEntryX (by decide) jOK (Nat.le_of_ble_eq_true rfl) (fun p e s m args below meth c Q ls X hT hP hS hret hl => by
  have hx := X.hx
  have hb := X.hb
  refine lv_aload_n hx hb dL_addGrain_0 rfl (lv_at hl 3 rfl) ?_
  refine lv_iconst (v := 0) hx hb dL_addGrain_1 (by decide) ?_
  refine lv_aload_n hx hb dL_addGrain_2 rfl (lv_at hl 0 rfl) ?_
  refine lv_iload_n hx hb dL_addGrain_3 rfl (lv_at hl 1 rfl) ?_
  refine lv_iload_n hx hb dL_addGrain_4 rfl (lv_at hl 2 rfl) ?_
  refine gCallWT X (gF_ok cOK (fsC hap)) (hM.lift (fsC hap)) (cw_V 2 X (gT_V tw1556 tw1557 tw1558 tw1 tw1559) ⟨rfl, by decide, by decide, by decide +kernel⟩ ⟨by decide, by decide⟩) rfl hP hS (jA hS.1) (cr_rec hP.1 (rfl : kc 0 = 0) rfl cw0 rfl) hl.1 (Nat.le_of_ble_eq_true rfl) ⟨Nat.le_of_ble_eq_true rfl, Nat.le_of_ble_eq_true rfl⟩ dL_addGrain_5 (As := [.int a, .int b]) (rest := [.int 0, .ref o1]) rfl (fun H locs q9 ce hP hS hce hcv hcl => ?_)
  refine vx_catch (own := "GranaryWatchLaw") (name := "java/lang/IndexOutOfBoundsException") (E := "java/lang/IndexOutOfBoundsException") X.hown [] ⟨0, 10, 13, 13⟩ [⟨0, 10, 17, 62⟩, ⟨0, 10, 21, 86⟩] (hT.trans rfl) (fun z hz => nomatch hz) (by decide) (by decide) (X.hts _ tw1299) (xw_use rfl (X.ks.2.1 _ xc13)) hce hcv hcl ?_
  refine W.eq (g2 := F0 m 13 ls [.ref q9]) rfl ?_
  refine lv_astore (lv' := [(4, .ref q9), (0, .ref (caOf b1 0)), (1, .int a), (2, .int b), (3, .ref o1)]) hx hb dL_addGrain_13 hl (by decide) rfl (fun ls hl => ?_)
  refine lv_iconst (v := 1) hx hb dL_addGrain_15 (by decide) ?_
  exact hret _ _ _ _ _ _ dL_addGrain_16 hP hS (Nat.le_of_ble_eq_true rfl) (Nat.le_of_ble_eq_true rfl))
theorem xt2_addGrain {a : Int32} {b : Int32} (hap : APJ b1 b2 o1 o2) (hM : gThr l yX10_addGrain cX10_addGrain 3 (some .int) 8 (cΩ (caOf b1)) (cP dC dI cg kA (caOf b1)) (kR kTab kA) [.ref (caOf b1 0), .int a, .int b] S "java/lang/IllegalArgumentException" S1) : gMetX l yL_addGrain cL_addGrain 5 [(0, 10, 13, 13), (0, 10, 17, 62), (0, 10, 21, 86)] 26 1 6 (jΩ b1 b2 o1 o2) (jP dC dI cg kA b1 b2 o1 o2 cL cD) (kR kTab kA) [.ref (caOf b1 0), .int a, .int b, .ref o1] (S, M, x, d) 2 (S1, M, x, d) := gEntryX (by decide) jOK (Nat.le_of_ble_eq_true rfl) (fun p e s m args below meth c Q ls X hT hP hS hret hl => by
  have hx := X.hx
  have hb := X.hb
  refine lv_aload_n hx hb dL_addGrain_0 rfl (lv_at hl 3 rfl) ?_
  refine lv_iconst (v := 0) hx hb dL_addGrain_1 (by decide) ?_
  refine lv_aload_n hx hb dL_addGrain_2 rfl (lv_at hl 0 rfl) ?_
  refine lv_iload_n hx hb dL_addGrain_3 rfl (lv_at hl 1 rfl) ?_
  refine lv_iload_n hx hb dL_addGrain_4 rfl (lv_at hl 2 rfl) ?_
  refine gCallWT X (gF_ok cOK (fsC hap)) (hM.lift (fsC hap)) (cw_V 2 X (gT_V tw1556 tw1557 tw1558 tw1 tw1559) ⟨rfl, by decide, by decide, by decide +kernel⟩ ⟨by decide, by decide⟩) rfl hP hS (jA hS.1) (cr_rec hP.1 (rfl : kc 0 = 0) rfl cw0 rfl) hl.1 (Nat.le_of_ble_eq_true rfl) ⟨Nat.le_of_ble_eq_true rfl, Nat.le_of_ble_eq_true rfl⟩ dL_addGrain_5 (As := [.int a, .int b]) (rest := [.int 0, .ref o1]) rfl (fun H locs q9 ce hP hS hce hcv hcl => ?_)
  refine vx_catch (own := "GranaryWatchLaw") (name := "java/lang/IllegalArgumentException") (E := "java/lang/IllegalArgumentException") X.hown [⟨0, 10, 13, 13⟩] ⟨0, 10, 17, 62⟩ [⟨0, 10, 21, 86⟩] (hT.trans rfl) (fun z hz => ((fun e => by rw [e]; exact Or.inr ⟨by decide, _, X.hts _ tw1299, X.ks.2.2.1⟩)) (List.mem_singleton.mp hz)) (by decide) (by decide) (X.hts _ tw1439) (xw_use rfl (X.ks.2.1 _ xc62)) hce hcv hcl ?_
  refine W.eq (g2 := F0 m 17 ls [.ref q9]) rfl ?_
  refine lv_astore (lv' := [(4, .ref q9), (0, .ref (caOf b1 0)), (1, .int a), (2, .int b), (3, .ref o1)]) hx hb dL_addGrain_17 hl (by decide) rfl (fun ls hl => ?_)
  refine lv_iconst (v := 2) hx hb dL_addGrain_19 (by decide) ?_
  exact hret _ _ _ _ _ _ dL_addGrain_20 hP hS (Nat.le_of_ble_eq_true rfl) (Nat.le_of_ble_eq_true rfl))
theorem xt3_addGrain {a : Int32} {b : Int32} (hap : APJ b1 b2 o1 o2) (hM : gThr l yX10_addGrain cX10_addGrain 3 (some .int) 8 (cΩ (caOf b1)) (cP dC dI cg kA (caOf b1)) (kR kTab kA) [.ref (caOf b1 0), .int a, .int b] S "java/lang/IllegalStateException" S1) : gMetX l yL_addGrain cL_addGrain 5 [(0, 10, 13, 13), (0, 10, 17, 62), (0, 10, 21, 86)] 26 1 6 (jΩ b1 b2 o1 o2) (jP dC dI cg kA b1 b2 o1 o2 cL cD) (kR kTab kA) [.ref (caOf b1 0), .int a, .int b, .ref o1] (S, M, x, d) 3 (S1, M, x, d) := gEntryX (by decide) jOK (Nat.le_of_ble_eq_true rfl) (fun p e s m args below meth c Q ls X hT hP hS hret hl => by
  have hx := X.hx
  have hb := X.hb
  refine lv_aload_n hx hb dL_addGrain_0 rfl (lv_at hl 3 rfl) ?_
  refine lv_iconst (v := 0) hx hb dL_addGrain_1 (by decide) ?_
  refine lv_aload_n hx hb dL_addGrain_2 rfl (lv_at hl 0 rfl) ?_
  refine lv_iload_n hx hb dL_addGrain_3 rfl (lv_at hl 1 rfl) ?_
  refine lv_iload_n hx hb dL_addGrain_4 rfl (lv_at hl 2 rfl) ?_
  refine gCallWT X (gF_ok cOK (fsC hap)) (hM.lift (fsC hap)) (cw_V 2 X (gT_V tw1556 tw1557 tw1558 tw1 tw1559) ⟨rfl, by decide, by decide, by decide +kernel⟩ ⟨by decide, by decide⟩) rfl hP hS (jA hS.1) (cr_rec hP.1 (rfl : kc 0 = 0) rfl cw0 rfl) hl.1 (Nat.le_of_ble_eq_true rfl) ⟨Nat.le_of_ble_eq_true rfl, Nat.le_of_ble_eq_true rfl⟩ dL_addGrain_5 (As := [.int a, .int b]) (rest := [.int 0, .ref o1]) rfl (fun H locs q9 ce hP hS hce hcv hcl => ?_)
  refine vx_catch (own := "GranaryWatchLaw") (name := "java/lang/IllegalStateException") (E := "java/lang/IllegalStateException") X.hown [⟨0, 10, 13, 13⟩, ⟨0, 10, 17, 62⟩] ⟨0, 10, 21, 86⟩ [] (hT.trans rfl) (fun z hz => (List.mem_cons.mp hz).elim (fun e => by rw [e]; exact Or.inr ⟨by decide, _, X.hts _ tw1299, X.ks.2.2.2.1⟩) (fun hz => ((fun e => by rw [e]; exact Or.inr ⟨by decide, _, X.hts _ tw1439, X.ks.2.2.2.2.1⟩)) (List.mem_singleton.mp hz))) (by decide) (by decide) (X.hts _ tw1505) (xw_use rfl (X.ks.2.1 _ xc86)) hce hcv hcl ?_
  refine W.eq (g2 := F0 m 21 ls [.ref q9]) rfl ?_
  refine lv_astore (lv' := [(4, .ref q9), (0, .ref (caOf b1 0)), (1, .int a), (2, .int b), (3, .ref o1)]) hx hb dL_addGrain_21 hl (by decide) rfl (fun ls hl => ?_)
  refine lv_iconst (v := 3) hx hb dL_addGrain_23 (by decide) ?_
  exact hret _ _ _ _ _ _ dL_addGrain_24 hP hS (Nat.le_of_ble_eq_true rfl) (Nat.le_of_ble_eq_true rfl))
theorem xo_dismiss {y : Int32} (hap : APJ b1 b2 o1 o2) (hM : gMetIA l yX10_dismiss cX10_dismiss 1 (some .int) 8 0 0 (cΩ (caOf b1)) (cP dC dI cg kA (caOf b1)) (kR kTab kA) [.ref (caOf b1 0)] S y S1) : gMetX l yL_dismiss cL_dismiss 3 [(0, 8, 11, 86)] 26 1 6 (jΩ b1 b2 o1 o2) (jP dC dI cg kA b1 b2 o1 o2 cL cD) (kR kTab kA) [.ref (caOf b1 0), .ref o1] (S, M, x, d) 0 (S1, M, y.toInt64, d) := gEntryX (by decide) jOK (Nat.le_of_ble_eq_true rfl) (fun p e s m args below meth c Q ls X hT hP hS hret hl => by
  have hx := X.hx
  have hb := X.hb
  refine lv_aload_n hx hb dL_dismiss_0 rfl (lv_at hl 1 rfl) ?_
  refine lv_iconst (v := 0) hx hb dL_dismiss_1 (by decide) ?_
  refine lv_aload_n hx hb dL_dismiss_2 rfl (lv_at hl 0 rfl) ?_
  refine gCallWI X (gF_ok cOK (fsC hap)) (hM.lift (fsC hap)) (cw_V 0 X (gT_V tw1563 tw1564 tw1565 tw1 tw1566) ⟨rfl, by decide, by decide, by decide +kernel⟩ ⟨by decide, by decide⟩) rfl hP hS (jA hS.1) (cr_rec hP.1 (rfl : kc 0 = 0) rfl cw0 rfl) hl.1 (Nat.le_of_ble_eq_true rfl) ⟨Nat.le_of_ble_eq_true rfl, Nat.le_of_ble_eq_true rfl⟩ dL_dismiss_3 (As := []) (rest := [.int 0, .ref o1]) rfl (fun H locs hP hS => ?_)
  refine lv_i2l hx hb dL_dismiss_6 rfl ?_
  refine j_last (S := S1) (M := M) (x := x) (d := d) X hap hP hS (Or.inl (Or.inr (Or.inr (Or.inl rfl)))) dL_dismiss_7 (fun H locs hP hS => ?_)
  refine lv_goto (tgt := 14) hx hb dL_dismiss_8 (by decide) ?_
  refine lv_iconst (v := 0) hx hb dL_dismiss_14 (by decide) ?_
  exact hret _ _ _ _ _ _ dL_dismiss_15 hP hS (Nat.le_of_ble_eq_true rfl) (Nat.le_of_ble_eq_true rfl))
theorem xt1_dismiss (hap : APJ b1 b2 o1 o2) (hM : gThr l yX10_dismiss cX10_dismiss 1 (some .int) 8 (cΩ (caOf b1)) (cP dC dI cg kA (caOf b1)) (kR kTab kA) [.ref (caOf b1 0)] S "java/lang/IllegalStateException" S1) : gMetX l yL_dismiss cL_dismiss 3 [(0, 8, 11, 86)] 26 1 6 (jΩ b1 b2 o1 o2) (jP dC dI cg kA b1 b2 o1 o2 cL cD) (kR kTab kA) [.ref (caOf b1 0), .ref o1] (S, M, x, d) 1 (S1, M, x, d) := gEntryX (by decide) jOK (Nat.le_of_ble_eq_true rfl) (fun p e s m args below meth c Q ls X hT hP hS hret hl => by
  have hx := X.hx
  have hb := X.hb
  refine lv_aload_n hx hb dL_dismiss_0 rfl (lv_at hl 1 rfl) ?_
  refine lv_iconst (v := 0) hx hb dL_dismiss_1 (by decide) ?_
  refine lv_aload_n hx hb dL_dismiss_2 rfl (lv_at hl 0 rfl) ?_
  refine gCallWT X (gF_ok cOK (fsC hap)) (hM.lift (fsC hap)) (cw_V 0 X (gT_V tw1563 tw1564 tw1565 tw1 tw1566) ⟨rfl, by decide, by decide, by decide +kernel⟩ ⟨by decide, by decide⟩) rfl hP hS (jA hS.1) (cr_rec hP.1 (rfl : kc 0 = 0) rfl cw0 rfl) hl.1 (Nat.le_of_ble_eq_true rfl) ⟨Nat.le_of_ble_eq_true rfl, Nat.le_of_ble_eq_true rfl⟩ dL_dismiss_3 (As := []) (rest := [.int 0, .ref o1]) rfl (fun H locs q9 ce hP hS hce hcv hcl => ?_)
  refine vx_catch (own := "GranaryWatchLaw") (name := "java/lang/IllegalStateException") (E := "java/lang/IllegalStateException") X.hown [] ⟨0, 8, 11, 86⟩ [] (hT.trans rfl) (fun z hz => nomatch hz) (by decide) (by decide) (X.hts _ tw1505) (xw_use rfl (X.ks.2.1 _ xc86)) hce hcv hcl ?_
  refine W.eq (g2 := F0 m 11 ls [.ref q9]) rfl ?_
  refine lv_astore_n (lv' := [(2, .ref q9), (0, .ref (caOf b1 0)), (1, .ref o1)]) hx hb dL_dismiss_11 rfl hl (by decide) rfl (fun ls hl => ?_)
  refine lv_iconst (v := 1) hx hb dL_dismiss_12 (by decide) ?_
  exact hret _ _ _ _ _ _ dL_dismiss_13 hP hS (Nat.le_of_ble_eq_true rfl) (Nat.le_of_ble_eq_true rfl))
theorem xo_setMilk {a : Int32} {y : Int32} (hap : APJ b1 b2 o1 o2) (hM : gMetIA l yX10_setMilk cX10_setMilk 2 (some .int) 8 0 0 (cΩ (caOf b1)) (cP dC dI cg kA (caOf b1)) (kR kTab kA) [.ref (caOf b1 0), .int a] S y S1) : gMetX l yL_setMilk cL_setMilk 4 [(0, 9, 12, 62)] 26 1 6 (jΩ b1 b2 o1 o2) (jP dC dI cg kA b1 b2 o1 o2 cL cD) (kR kTab kA) [.ref (caOf b1 0), .int a, .ref o1] (S, M, x, d) 0 (S1, M, y.toInt64, d) := gEntryX (by decide) jOK (Nat.le_of_ble_eq_true rfl) (fun p e s m args below meth c Q ls X hT hP hS hret hl => by
  have hx := X.hx
  have hb := X.hb
  refine lv_aload_n hx hb dL_setMilk_0 rfl (lv_at hl 2 rfl) ?_
  refine lv_iconst (v := 0) hx hb dL_setMilk_1 (by decide) ?_
  refine lv_aload_n hx hb dL_setMilk_2 rfl (lv_at hl 0 rfl) ?_
  refine lv_iload_n hx hb dL_setMilk_3 rfl (lv_at hl 1 rfl) ?_
  refine gCallWI X (gF_ok cOK (fsC hap)) (hM.lift (fsC hap)) (cw_V 1 X (gT_V tw1570 tw1571 tw1572 tw1 tw1573) ⟨rfl, by decide, by decide, by decide +kernel⟩ ⟨by decide, by decide⟩) rfl hP hS (jA hS.1) (cr_rec hP.1 (rfl : kc 0 = 0) rfl cw0 rfl) hl.1 (Nat.le_of_ble_eq_true rfl) ⟨Nat.le_of_ble_eq_true rfl, Nat.le_of_ble_eq_true rfl⟩ dL_setMilk_4 (As := [.int a]) (rest := [.int 0, .ref o1]) rfl (fun H locs hP hS => ?_)
  refine lv_i2l hx hb dL_setMilk_7 rfl ?_
  refine j_last (S := S1) (M := M) (x := x) (d := d) X hap hP hS (Or.inl (Or.inr (Or.inr (Or.inl rfl)))) dL_setMilk_8 (fun H locs hP hS => ?_)
  refine lv_goto (tgt := 15) hx hb dL_setMilk_9 (by decide) ?_
  refine lv_iconst (v := 0) hx hb dL_setMilk_15 (by decide) ?_
  exact hret _ _ _ _ _ _ dL_setMilk_16 hP hS (Nat.le_of_ble_eq_true rfl) (Nat.le_of_ble_eq_true rfl))
theorem xt1_setMilk {a : Int32} (hap : APJ b1 b2 o1 o2) (hM : gThr l yX10_setMilk cX10_setMilk 2 (some .int) 8 (cΩ (caOf b1)) (cP dC dI cg kA (caOf b1)) (kR kTab kA) [.ref (caOf b1 0), .int a] S "java/lang/IllegalArgumentException" S1) : gMetX l yL_setMilk cL_setMilk 4 [(0, 9, 12, 62)] 26 1 6 (jΩ b1 b2 o1 o2) (jP dC dI cg kA b1 b2 o1 o2 cL cD) (kR kTab kA) [.ref (caOf b1 0), .int a, .ref o1] (S, M, x, d) 1 (S1, M, x, d) := gEntryX (by decide) jOK (Nat.le_of_ble_eq_true rfl) (fun p e s m args below meth c Q ls X hT hP hS hret hl => by
  have hx := X.hx
  have hb := X.hb
  refine lv_aload_n hx hb dL_setMilk_0 rfl (lv_at hl 2 rfl) ?_
  refine lv_iconst (v := 0) hx hb dL_setMilk_1 (by decide) ?_
  refine lv_aload_n hx hb dL_setMilk_2 rfl (lv_at hl 0 rfl) ?_
  refine lv_iload_n hx hb dL_setMilk_3 rfl (lv_at hl 1 rfl) ?_
  refine gCallWT X (gF_ok cOK (fsC hap)) (hM.lift (fsC hap)) (cw_V 1 X (gT_V tw1570 tw1571 tw1572 tw1 tw1573) ⟨rfl, by decide, by decide, by decide +kernel⟩ ⟨by decide, by decide⟩) rfl hP hS (jA hS.1) (cr_rec hP.1 (rfl : kc 0 = 0) rfl cw0 rfl) hl.1 (Nat.le_of_ble_eq_true rfl) ⟨Nat.le_of_ble_eq_true rfl, Nat.le_of_ble_eq_true rfl⟩ dL_setMilk_4 (As := [.int a]) (rest := [.int 0, .ref o1]) rfl (fun H locs q9 ce hP hS hce hcv hcl => ?_)
  refine vx_catch (own := "GranaryWatchLaw") (name := "java/lang/IllegalArgumentException") (E := "java/lang/IllegalArgumentException") X.hown [] ⟨0, 9, 12, 62⟩ [] (hT.trans rfl) (fun z hz => nomatch hz) (by decide) (by decide) (X.hts _ tw1439) (xw_use rfl (X.ks.2.1 _ xc62)) hce hcv hcl ?_
  refine W.eq (g2 := F0 m 12 ls [.ref q9]) rfl ?_
  refine lv_astore_n (lv' := [(3, .ref q9), (0, .ref (caOf b1 0)), (1, .int a), (2, .ref o1)]) hx hb dL_setMilk_12 rfl hl (by decide) rfl (fun ls hl => ?_)
  refine lv_iconst (v := 1) hx hb dL_setMilk_13 (by decide) ?_
  exact hret _ _ _ _ _ _ dL_setMilk_14 hP hS (Nat.le_of_ble_eq_true rfl) (Nat.le_of_ble_eq_true rfl))
theorem xo_undo {y : Int32} (hap : APJ b1 b2 o1 o2) (hM : gMetIA l yX10_undo cX10_undo 1 (some .int) 4 0 0 (cΩ (caOf b1)) (cP dC dI cg kA (caOf b1)) (kR kTab kA) [.ref (caOf b1 0)] S y S1) : gMetX l yL_undo cL_undo 3 [(0, 8, 11, 110)] 26 1 6 (jΩ b1 b2 o1 o2) (jP dC dI cg kA b1 b2 o1 o2 cL cD) (kR kTab kA) [.ref (caOf b1 0), .ref o1] (S, M, x, d) 0 (S1, M, y.toInt64, d) := gEntryX (by decide) jOK (Nat.le_of_ble_eq_true rfl) (fun p e s m args below meth c Q ls X hT hP hS hret hl => by
  have hx := X.hx
  have hb := X.hb
  refine lv_aload_n hx hb dL_undo_0 rfl (lv_at hl 1 rfl) ?_
  refine lv_iconst (v := 0) hx hb dL_undo_1 (by decide) ?_
  refine lv_aload_n hx hb dL_undo_2 rfl (lv_at hl 0 rfl) ?_
  refine gCallWI X (gF_ok cOK (fsC hap)) (hM.lift (fsC hap)) (cw_V 0 X (gT_V tw1578 tw1579 tw1580 tw1 tw1581) ⟨rfl, by decide, by decide, by decide +kernel⟩ ⟨by decide, by decide⟩) rfl hP hS (jA hS.1) (cr_rec hP.1 (rfl : kc 0 = 0) rfl cw0 rfl) hl.1 (Nat.le_of_ble_eq_true rfl) ⟨Nat.le_of_ble_eq_true rfl, Nat.le_of_ble_eq_true rfl⟩ dL_undo_3 (As := []) (rest := [.int 0, .ref o1]) rfl (fun H locs hP hS => ?_)
  refine lv_i2l hx hb dL_undo_6 rfl ?_
  refine j_last (S := S1) (M := M) (x := x) (d := d) X hap hP hS (Or.inl (Or.inr (Or.inr (Or.inl rfl)))) dL_undo_7 (fun H locs hP hS => ?_)
  refine lv_goto (tgt := 14) hx hb dL_undo_8 (by decide) ?_
  refine lv_iconst (v := 0) hx hb dL_undo_14 (by decide) ?_
  exact hret _ _ _ _ _ _ dL_undo_15 hP hS (Nat.le_of_ble_eq_true rfl) (Nat.le_of_ble_eq_true rfl))
theorem xt1_undo (hap : APJ b1 b2 o1 o2) (hM : gThr l yX10_undo cX10_undo 1 (some .int) 4 (cΩ (caOf b1)) (cP dC dI cg kA (caOf b1)) (kR kTab kA) [.ref (caOf b1 0)] S "java/util/NoSuchElementException" S1) : gMetX l yL_undo cL_undo 3 [(0, 8, 11, 110)] 26 1 6 (jΩ b1 b2 o1 o2) (jP dC dI cg kA b1 b2 o1 o2 cL cD) (kR kTab kA) [.ref (caOf b1 0), .ref o1] (S, M, x, d) 1 (S1, M, x, d) := gEntryX (by decide) jOK (Nat.le_of_ble_eq_true rfl) (fun p e s m args below meth c Q ls X hT hP hS hret hl => by
  have hx := X.hx
  have hb := X.hb
  refine lv_aload_n hx hb dL_undo_0 rfl (lv_at hl 1 rfl) ?_
  refine lv_iconst (v := 0) hx hb dL_undo_1 (by decide) ?_
  refine lv_aload_n hx hb dL_undo_2 rfl (lv_at hl 0 rfl) ?_
  refine gCallWT X (gF_ok cOK (fsC hap)) (hM.lift (fsC hap)) (cw_V 0 X (gT_V tw1578 tw1579 tw1580 tw1 tw1581) ⟨rfl, by decide, by decide, by decide +kernel⟩ ⟨by decide, by decide⟩) rfl hP hS (jA hS.1) (cr_rec hP.1 (rfl : kc 0 = 0) rfl cw0 rfl) hl.1 (Nat.le_of_ble_eq_true rfl) ⟨Nat.le_of_ble_eq_true rfl, Nat.le_of_ble_eq_true rfl⟩ dL_undo_3 (As := []) (rest := [.int 0, .ref o1]) rfl (fun H locs q9 ce hP hS hce hcv hcl => ?_)
  refine vx_catch (own := "GranaryWatchLaw") (name := "java/util/NoSuchElementException") (E := "java/util/NoSuchElementException") X.hown [] ⟨0, 8, 11, 110⟩ [] (hT.trans rfl) (fun z hz => nomatch hz) (by decide) (by decide) (X.hts _ tw1577) (xw_use rfl (X.ks.2.1 _ xc110)) hce hcv hcl ?_
  refine W.eq (g2 := F0 m 11 ls [.ref q9]) rfl ?_
  refine lv_astore_n (lv' := [(2, .ref q9), (0, .ref (caOf b1 0)), (1, .ref o1)]) hx hb dL_undo_11 rfl hl (by decide) rfl (fun ls hl => ?_)
  refine lv_iconst (v := 1) hx hb dL_undo_12 (by decide) ?_
  exact hret _ _ _ _ _ _ dL_undo_13 hP hS (Nat.le_of_ble_eq_true rfl) (Nat.le_of_ble_eq_true rfl))
theorem xo_restoreState {y : Int32} (hap : APJ b1 b2 o1 o2) (hM : gMetIA l yX10_restoreState cX10_restoreState 1 (some .int) 4 0 0 (cΩ (caOf b1)) (cP dC dI cg kA (caOf b1)) (kR kTab kA) [.ref (caOf b1 0)] S y S1) : gMetX l yL_restoreState cL_restoreState 3 [(0, 8, 11, 110)] 26 1 6 (jΩ b1 b2 o1 o2) (jP dC dI cg kA b1 b2 o1 o2 cL cD) (kR kTab kA) [.ref (caOf b1 0), .ref o1] (S, M, x, d) 0 (S1, M, y.toInt64, d) := gEntryX (by decide) jOK (Nat.le_of_ble_eq_true rfl) (fun p e s m args below meth c Q ls X hT hP hS hret hl => by
  have hx := X.hx
  have hb := X.hb
  refine lv_aload_n hx hb dL_restoreState_0 rfl (lv_at hl 1 rfl) ?_
  refine lv_iconst (v := 0) hx hb dL_restoreState_1 (by decide) ?_
  refine lv_aload_n hx hb dL_restoreState_2 rfl (lv_at hl 0 rfl) ?_
  refine gCallWI X (gF_ok cOK (fsC hap)) (hM.lift (fsC hap)) (cw_V 0 X (gT_V tw1602 tw1603 tw1604 tw1 tw1605) ⟨rfl, by decide, by decide, by decide +kernel⟩ ⟨by decide, by decide⟩) rfl hP hS (jA hS.1) (cr_rec hP.1 (rfl : kc 0 = 0) rfl cw0 rfl) hl.1 (Nat.le_of_ble_eq_true rfl) ⟨Nat.le_of_ble_eq_true rfl, Nat.le_of_ble_eq_true rfl⟩ dL_restoreState_3 (As := []) (rest := [.int 0, .ref o1]) rfl (fun H locs hP hS => ?_)
  refine lv_i2l hx hb dL_restoreState_6 rfl ?_
  refine j_last (S := S1) (M := M) (x := x) (d := d) X hap hP hS (Or.inl (Or.inr (Or.inr (Or.inl rfl)))) dL_restoreState_7 (fun H locs hP hS => ?_)
  refine lv_goto (tgt := 14) hx hb dL_restoreState_8 (by decide) ?_
  refine lv_iconst (v := 0) hx hb dL_restoreState_14 (by decide) ?_
  exact hret _ _ _ _ _ _ dL_restoreState_15 hP hS (Nat.le_of_ble_eq_true rfl) (Nat.le_of_ble_eq_true rfl))
theorem xt1_restoreState (hap : APJ b1 b2 o1 o2) (hM : gThr l yX10_restoreState cX10_restoreState 1 (some .int) 4 (cΩ (caOf b1)) (cP dC dI cg kA (caOf b1)) (kR kTab kA) [.ref (caOf b1 0)] S "java/util/NoSuchElementException" S1) : gMetX l yL_restoreState cL_restoreState 3 [(0, 8, 11, 110)] 26 1 6 (jΩ b1 b2 o1 o2) (jP dC dI cg kA b1 b2 o1 o2 cL cD) (kR kTab kA) [.ref (caOf b1 0), .ref o1] (S, M, x, d) 1 (S1, M, x, d) := gEntryX (by decide) jOK (Nat.le_of_ble_eq_true rfl) (fun p e s m args below meth c Q ls X hT hP hS hret hl => by
  have hx := X.hx
  have hb := X.hb
  refine lv_aload_n hx hb dL_restoreState_0 rfl (lv_at hl 1 rfl) ?_
  refine lv_iconst (v := 0) hx hb dL_restoreState_1 (by decide) ?_
  refine lv_aload_n hx hb dL_restoreState_2 rfl (lv_at hl 0 rfl) ?_
  refine gCallWT X (gF_ok cOK (fsC hap)) (hM.lift (fsC hap)) (cw_V 0 X (gT_V tw1602 tw1603 tw1604 tw1 tw1605) ⟨rfl, by decide, by decide, by decide +kernel⟩ ⟨by decide, by decide⟩) rfl hP hS (jA hS.1) (cr_rec hP.1 (rfl : kc 0 = 0) rfl cw0 rfl) hl.1 (Nat.le_of_ble_eq_true rfl) ⟨Nat.le_of_ble_eq_true rfl, Nat.le_of_ble_eq_true rfl⟩ dL_restoreState_3 (As := []) (rest := [.int 0, .ref o1]) rfl (fun H locs q9 ce hP hS hce hcv hcl => ?_)
  refine vx_catch (own := "GranaryWatchLaw") (name := "java/util/NoSuchElementException") (E := "java/util/NoSuchElementException") X.hown [] ⟨0, 8, 11, 110⟩ [] (hT.trans rfl) (fun z hz => nomatch hz) (by decide) (by decide) (X.hts _ tw1577) (xw_use rfl (X.ks.2.1 _ xc110)) hce hcv hcl ?_
  refine W.eq (g2 := F0 m 11 ls [.ref q9]) rfl ?_
  refine lv_astore_n (lv' := [(2, .ref q9), (0, .ref (caOf b1 0)), (1, .ref o1)]) hx hb dL_restoreState_11 rfl hl (by decide) rfl (fun ls hl => ?_)
  refine lv_iconst (v := 1) hx hb dL_restoreState_12 (by decide) ?_
  exact hret _ _ _ _ _ _ dL_restoreState_13 hP hS (Nat.le_of_ble_eq_true rfl) (Nat.le_of_ble_eq_true rfl))
end WRAP

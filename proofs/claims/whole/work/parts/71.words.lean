/-! words of the tables by their places; what a call, a field, an array needs -/
theorem q1480 : Cond.methodLink RX9 3 objectInit ∈ TG := tg_of (tI1 (List.mem_of_getElem? (i := 32) (by decide +kernel))) (by decide +kernel)
theorem q1481 : Cond.instanceMethod objectInit ∈ TG := tg_of (tI1 (List.mem_of_getElem? (i := 25) (by decide +kernel))) (by decide +kernel)
theorem q1482 : Cond.code objectInit ⟨#[0xb1]⟩ 1 none ∈ TG := tg_of (tI1 (List.mem_of_getElem? (i := 26) (by decide +kernel))) (by decide +kernel)
theorem q1483 : Cond.arrayClass .long ∈ TG := tg_of (tI1 (List.mem_of_getElem? (i := 45) (by decide +kernel))) (by decide +kernel)
theorem q1484 : Cond.methodLink RX4 3 objectInit ∈ TG := tg_of (tI1 (List.mem_of_getElem? (i := 51) (by decide +kernel))) (by decide +kernel)
theorem q1485 : Cond.classLink RX4 9 "[[I" ∈ TG := tg_of (tI1 (List.mem_of_getElem? (i := 52) (by decide +kernel))) (by decide +kernel)
theorem q1486 : Cond.arrayClass .int ∈ TG := tg_of (tI1 (List.mem_of_getElem? (i := 44) (by decide +kernel))) (by decide +kernel)
theorem q1487 : Cond.methodLink RX5 3 objectInit ∈ TG := tg_of (tI1 (List.mem_of_getElem? (i := 119) (by decide +kernel))) (by decide +kernel)
theorem q1488 : Cond.methodLink RX6 3 objectInit ∈ TG := tg_of (tI1 (List.mem_of_getElem? (i := 164) (by decide +kernel))) (by decide +kernel)
theorem q1489 : Cond.arrayClass .boolean ∈ TG := tg_of (tI1 (List.mem_of_getElem? (i := 225) (by decide +kernel))) (by decide +kernel)
theorem q1490 : Cond.classLink RX6 45 "[[I" ∈ TG := tg_of (tI1 (List.mem_of_getElem? (i := 165) (by decide +kernel))) (by decide +kernel)
theorem q1491 : Cond.methodLink RX1 3 objectInit ∈ TG := tg_of (tI1 (List.mem_of_getElem? (i := 231) (by decide +kernel))) (by decide +kernel)
theorem q1492 : Cond.methodLink RX7 3 objectInit ∈ TG := tg_of (tI2 (List.mem_of_getElem? (i := 13) (by decide +kernel))) (by decide +kernel)
theorem q1493 : Cond.classLink RX7 9 RX6 ∈ TG := tg_of (tI2 (List.mem_of_getElem? (i := 14) (by decide +kernel))) (by decide +kernel)
theorem q1494 : Cond.instantiable RX6 12 ∈ TG := tg_of (tI1 (List.mem_of_getElem? (i := 160) (by decide +kernel))) (by decide +kernel)
theorem q1495 : Cond.methodLink RX3 3 objectInit ∈ TG := tg_of (tI2 (List.mem_of_getElem? (i := 45) (by decide +kernel))) (by decide +kernel)
theorem q1496 : Cond.methodLink RX8 3 objectInit ∈ TG := tg_of (tI2 (List.mem_of_getElem? (i := 69) (by decide +kernel))) (by decide +kernel)
theorem q1497 : Cond.methodLink RX0 3 objectInit ∈ TG := tg_of (tI2 (List.mem_of_getElem? (i := 101) (by decide +kernel))) (by decide +kernel)
theorem q1498 : Cond.methodLink RX2 3 objectInit ∈ TG := tg_of (tI2 (List.mem_of_getElem? (i := 94) (by decide +kernel))) (by decide +kernel)
theorem q1499 : Cond.classLink RX2 9 RX0 ∈ TG := tg_of (tI2 (List.mem_of_getElem? (i := 95) (by decide +kernel))) (by decide +kernel)
theorem q1500 : Cond.instantiable RX0 17 ∈ TG := tg_of (tI2 (List.mem_of_getElem? (i := 97) (by decide +kernel))) (by decide +kernel)
theorem q1501 : Cond.methodLink RX10 3 objectInit ∈ TG := tg_of (tI1 (List.mem_of_getElem? (i := 24) (by decide +kernel))) (by decide +kernel)
theorem q1502 : Cond.classLink RX10 26 RX9 ∈ TG := tg_of (tI1 (List.mem_of_getElem? (i := 27) (by decide +kernel))) (by decide +kernel)
theorem q1503 : Cond.instantiable RX9 2 ∈ TG := tg_of (tI1 (List.mem_of_getElem? (i := 28) (by decide +kernel))) (by decide +kernel)
theorem q1504 : Cond.classLink RX10 33 RX4 ∈ TG := tg_of (tI1 (List.mem_of_getElem? (i := 46) (by decide +kernel))) (by decide +kernel)
theorem q1505 : Cond.instantiable RX4 13 ∈ TG := tg_of (tI1 (List.mem_of_getElem? (i := 47) (by decide +kernel))) (by decide +kernel)
theorem q1506 : Cond.classLink RX10 42 RX5 ∈ TG := tg_of (tI1 (List.mem_of_getElem? (i := 114) (by decide +kernel))) (by decide +kernel)
theorem q1507 : Cond.instantiable RX5 9 ∈ TG := tg_of (tI1 (List.mem_of_getElem? (i := 115) (by decide +kernel))) (by decide +kernel)
theorem q1508 : Cond.classLink RX10 51 RX6 ∈ TG := tg_of (tI1 (List.mem_of_getElem? (i := 159) (by decide +kernel))) (by decide +kernel)
theorem q1509 : Cond.classLink RX10 58 RX1 ∈ TG := tg_of (tI1 (List.mem_of_getElem? (i := 226) (by decide +kernel))) (by decide +kernel)
theorem q1510 : Cond.instantiable RX1 4 ∈ TG := tg_of (tI1 (List.mem_of_getElem? (i := 227) (by decide +kernel))) (by decide +kernel)
theorem q1511 : Cond.classLink RX10 65 RX7 ∈ TG := tg_of (tI2 (List.mem_of_getElem? (i := 8) (by decide +kernel))) (by decide +kernel)
theorem q1512 : Cond.instantiable RX7 7 ∈ TG := tg_of (tI2 (List.mem_of_getElem? (i := 9) (by decide +kernel))) (by decide +kernel)
theorem q1513 : Cond.classLink RX10 72 RX3 ∈ TG := tg_of (tI2 (List.mem_of_getElem? (i := 40) (by decide +kernel))) (by decide +kernel)
theorem q1514 : Cond.instantiable RX3 5 ∈ TG := tg_of (tI2 (List.mem_of_getElem? (i := 41) (by decide +kernel))) (by decide +kernel)
theorem q1515 : Cond.classLink RX10 81 RX8 ∈ TG := tg_of (tI2 (List.mem_of_getElem? (i := 64) (by decide +kernel))) (by decide +kernel)
theorem q1516 : Cond.instantiable RX8 5 ∈ TG := tg_of (tI2 (List.mem_of_getElem? (i := 65) (by decide +kernel))) (by decide +kernel)
theorem q1517 : Cond.classLink RX10 93 RX2 ∈ TG := tg_of (tI2 (List.mem_of_getElem? (i := 89) (by decide +kernel))) (by decide +kernel)
theorem q1518 : Cond.instantiable RX2 14 ∈ TG := tg_of (tI2 (List.mem_of_getElem? (i := 90) (by decide +kernel))) (by decide +kernel)
theorem q1519 : Cond.methodLink RX11 1 objectInit ∈ TG := tg_of (tI6 (List.mem_of_getElem? (i := 142) (by decide +kernel))) (by decide +kernel)
theorem q1520 : Cond.classLink RX11 23 "[[I" ∈ TG := tg_of (tI6 (List.mem_of_getElem? (i := 143) (by decide +kernel))) (by decide +kernel)
theorem q1521 : Cond.methodLink RX7 11 yX6_init ∈ TG := tg_of (tI2 (List.mem_of_getElem? (i := 15) (by decide +kernel))) (by decide +kernel)
theorem q1522 : Cond.instanceMethod yX6_init ∈ TG := tg_of (tI1 (List.mem_of_getElem? (i := 162) (by decide +kernel))) (by decide +kernel)
theorem q1523 : Cond.code yX6_init cX6_init 1 none ∈ TG := tg_of (tI1 (List.mem_of_getElem? (i := 163) (by decide +kernel))) (by decide +kernel)
theorem q1524 : Cond.methodLink RX2 60 yX0_init ∈ TG := tg_of (tI2 (List.mem_of_getElem? (i := 98) (by decide +kernel))) (by decide +kernel)
theorem q1525 : Cond.instanceMethod yX0_init ∈ TG := tg_of (tI2 (List.mem_of_getElem? (i := 99) (by decide +kernel))) (by decide +kernel)
theorem q1526 : Cond.code yX0_init cX0_init 3 none ∈ TG := tg_of (tI2 (List.mem_of_getElem? (i := 100) (by decide +kernel))) (by decide +kernel)
theorem q1527 : Cond.methodLink RX10 28 yX9_init ∈ TG := tg_of (tI1 (List.mem_of_getElem? (i := 29) (by decide +kernel))) (by decide +kernel)
theorem q1528 : Cond.instanceMethod yX9_init ∈ TG := tg_of (tI1 (List.mem_of_getElem? (i := 30) (by decide +kernel))) (by decide +kernel)
theorem q1529 : Cond.code yX9_init cX9_init 1 none ∈ TG := tg_of (tI1 (List.mem_of_getElem? (i := 31) (by decide +kernel))) (by decide +kernel)
theorem q1530 : Cond.methodLink RX10 35 yX4_init ∈ TG := tg_of (tI1 (List.mem_of_getElem? (i := 48) (by decide +kernel))) (by decide +kernel)
theorem q1531 : Cond.instanceMethod yX4_init ∈ TG := tg_of (tI1 (List.mem_of_getElem? (i := 49) (by decide +kernel))) (by decide +kernel)
theorem q1532 : Cond.code yX4_init cX4_init 2 none ∈ TG := tg_of (tI1 (List.mem_of_getElem? (i := 50) (by decide +kernel))) (by decide +kernel)
theorem q1533 : Cond.methodLink RX10 44 yX5_init ∈ TG := tg_of (tI1 (List.mem_of_getElem? (i := 116) (by decide +kernel))) (by decide +kernel)
theorem q1534 : Cond.instanceMethod yX5_init ∈ TG := tg_of (tI1 (List.mem_of_getElem? (i := 117) (by decide +kernel))) (by decide +kernel)
theorem q1535 : Cond.code yX5_init cX5_init 2 none ∈ TG := tg_of (tI1 (List.mem_of_getElem? (i := 118) (by decide +kernel))) (by decide +kernel)
theorem q1536 : Cond.methodLink RX10 53 yX6_init ∈ TG := tg_of (tI1 (List.mem_of_getElem? (i := 161) (by decide +kernel))) (by decide +kernel)
theorem q1537 : Cond.methodLink RX10 60 yX1_init ∈ TG := tg_of (tI1 (List.mem_of_getElem? (i := 228) (by decide +kernel))) (by decide +kernel)
theorem q1538 : Cond.instanceMethod yX1_init ∈ TG := tg_of (tI1 (List.mem_of_getElem? (i := 229) (by decide +kernel))) (by decide +kernel)
theorem q1539 : Cond.code yX1_init cX1_init 2 none ∈ TG := tg_of (tI1 (List.mem_of_getElem? (i := 230) (by decide +kernel))) (by decide +kernel)
theorem q1540 : Cond.methodLink RX10 67 yX7_init ∈ TG := tg_of (tI2 (List.mem_of_getElem? (i := 10) (by decide +kernel))) (by decide +kernel)
theorem q1541 : Cond.instanceMethod yX7_init ∈ TG := tg_of (tI2 (List.mem_of_getElem? (i := 11) (by decide +kernel))) (by decide +kernel)
theorem q1542 : Cond.code yX7_init cX7_init 2 none ∈ TG := tg_of (tI2 (List.mem_of_getElem? (i := 12) (by decide +kernel))) (by decide +kernel)
theorem q1543 : Cond.methodLink RX10 74 yX3_init ∈ TG := tg_of (tI2 (List.mem_of_getElem? (i := 42) (by decide +kernel))) (by decide +kernel)
theorem q1544 : Cond.instanceMethod yX3_init ∈ TG := tg_of (tI2 (List.mem_of_getElem? (i := 43) (by decide +kernel))) (by decide +kernel)
theorem q1545 : Cond.code yX3_init cX3_init 3 none ∈ TG := tg_of (tI2 (List.mem_of_getElem? (i := 44) (by decide +kernel))) (by decide +kernel)
theorem q1546 : Cond.methodLink RX10 83 yX8_init ∈ TG := tg_of (tI2 (List.mem_of_getElem? (i := 66) (by decide +kernel))) (by decide +kernel)
theorem q1547 : Cond.instanceMethod yX8_init ∈ TG := tg_of (tI2 (List.mem_of_getElem? (i := 67) (by decide +kernel))) (by decide +kernel)
theorem q1548 : Cond.code yX8_init cX8_init 3 none ∈ TG := tg_of (tI2 (List.mem_of_getElem? (i := 68) (by decide +kernel))) (by decide +kernel)
theorem q1549 : Cond.methodLink RX10 95 yX2_init ∈ TG := tg_of (tI2 (List.mem_of_getElem? (i := 91) (by decide +kernel))) (by decide +kernel)
theorem q1550 : Cond.instanceMethod yX2_init ∈ TG := tg_of (tI2 (List.mem_of_getElem? (i := 92) (by decide +kernel))) (by decide +kernel)
theorem q1551 : Cond.code yX2_init cX2_init 6 none ∈ TG := tg_of (tI2 (List.mem_of_getElem? (i := 93) (by decide +kernel))) (by decide +kernel)
theorem q1552 : Cond.methodLink RL 124 yX10_init ∈ TG := tg_of (tI1 (List.mem_of_getElem? (i := 21) (by decide +kernel))) (by decide +kernel)
theorem q1553 : Cond.instanceMethod yX10_init ∈ TG := tg_of (tI1 (List.mem_of_getElem? (i := 22) (by decide +kernel))) (by decide +kernel)
theorem q1554 : Cond.code yX10_init cX10_init 1 none ∈ TG := tg_of (tI1 (List.mem_of_getElem? (i := 23) (by decide +kernel))) (by decide +kernel)
theorem q1555 : Cond.methodLink RL 127 yX11_init ∈ TG := tg_of (tI6 (List.mem_of_getElem? (i := 139) (by decide +kernel))) (by decide +kernel)
theorem q1556 : Cond.instanceMethod yX11_init ∈ TG := tg_of (tI6 (List.mem_of_getElem? (i := 140) (by decide +kernel))) (by decide +kernel)
theorem q1557 : Cond.code yX11_init cX11_init 1 none ∈ TG := tg_of (tI6 (List.mem_of_getElem? (i := 141) (by decide +kernel))) (by decide +kernel)
theorem q1558 : Cond.classLink RL 8 RX10 ∈ TG := tg_of (tI1 (List.mem_of_getElem? (i := 19) (by decide +kernel))) (by decide +kernel)
theorem q1559 : Cond.instantiable RX10 15 ∈ TG := tg_of (tI1 (List.mem_of_getElem? (i := 20) (by decide +kernel))) (by decide +kernel)
theorem q1560 : Cond.classLink RL 125 RX11 ∈ TG := tg_of (tI6 (List.mem_of_getElem? (i := 137) (by decide +kernel))) (by decide +kernel)
theorem q1561 : Cond.instantiable RX11 65 ∈ TG := tg_of (tI6 (List.mem_of_getElem? (i := 138) (by decide +kernel))) (by decide +kernel)
theorem nX0 : ∀ j, j < 17 → defaultValue (tyX0 j) = vp_V [.null, .null, .null, .null, .null, .null, .int 0, .int 0, .int 0, .int 0, .int 0, .int 0, .int 0, .int 0, .int 0, .int 0, .int 0] j := by decide +kernel
theorem nX1 : ∀ j, j < 4 → defaultValue (tyX1 j) = vp_V [.null, .null, .int 0, .int 0] j := by decide +kernel
theorem nX2 : ∀ j, j < 14 → defaultValue (tyX2 j) = vp_V [.null, .null, .null, .null, .int 0, .int 0, .int 0, .null, .null, .int 0, .int 0, .int 0, .int 0, .int 0] j := by decide +kernel
theorem nX3 : ∀ j, j < 5 → defaultValue (tyX3 j) = vp_V [.null, .null, .null, .int 0, .int 0] j := by decide +kernel
theorem nX4 : ∀ j, j < 13 → defaultValue (tyX4 j) = vp_V [.null, .null, .null, .null, .int 0, .int 0, .int 0, .int 0, .null, .null, .null, .null, .null] j := by decide +kernel
theorem nX5 : ∀ j, j < 9 → defaultValue (tyX5 j) = vp_V [.null, .int 0, .int 0, .int 0, .int 0, .int 0, .int 0, .int 0, .int 0] j := by decide +kernel
theorem nX6 : ∀ j, j < 12 → defaultValue (tyX6 j) = vp_V [.int 0, .int 0, .null, .null, .null, .int 0, .int 0, .null, .int 0, .null, .null, .int 0] j := by decide +kernel
theorem nX7 : ∀ j, j < 7 → defaultValue (tyX7 j) = vp_V [.null, .null, .int 0, .int 0, .int 0, .int 0, .long 0] j := by decide +kernel
theorem nX8 : ∀ j, j < 5 → defaultValue (tyX8 j) = vp_V [.null, .null, .null, .null, .int 0] j := by decide +kernel
theorem nX9 : ∀ j, j < 2 → defaultValue (tyX9 j) = vp_V [.null, .int 0] j := by decide +kernel
theorem nX10 : ∀ j, j < 15 → defaultValue (tyX10 j) = vp_V [.null, .int 0, .int 0, .int 0, .int 0, .null, .null, .null, .null, .null, .null, .null, .null, .null, .null] j := by decide +kernel
theorem nX11 : ∀ j, j < 65 → defaultValue (tyX11 j) = vp_V [.int 0, .null, .int 0, .int 0, .int 0, .int 0, .int 0, .int 0, .null, .int 0, .int 0, .int 0, .null, .null, .null, .null, .null, .null, .int 0, .int 0, .int 0, .int 0, .int 0, .int 0, .int 0, .null, .null, .null, .null, .null, .null, .long 0, .int 0, .int 0, .int 0, .int 0, .null, .int 0, .null, .int 0, .int 0, .null, .null, .null, .null, .null, .null, .null, .null, .null, .null, .null, .null, .null, .null, .null, .int 0, .int 0, .int 0, .int 0, .int 0, .int 0, .int 0, .int 0, .int 0] j := by decide +kernel
theorem si_X7_11 : SI RX7 11 yX6_init cX6_init 1 0 := ⟨q1521, q1522, q289, q1523, rfl, by decide +kernel, by decide +kernel, by decide +kernel⟩
theorem si_X2_60 : SI RX2 60 yX0_init cX0_init 3 2 := ⟨q1524, q1525, q244, q1526, rfl, by decide +kernel, by decide +kernel, by decide +kernel⟩
theorem si_X10_28 : SI RX10 28 yX9_init cX9_init 1 0 := ⟨q1527, q1528, q262, q1529, rfl, by decide +kernel, by decide +kernel, by decide +kernel⟩
theorem si_X10_35 : SI RX10 35 yX4_init cX4_init 2 1 := ⟨q1530, q1531, q226, q1532, rfl, by decide +kernel, by decide +kernel, by decide +kernel⟩
theorem si_X10_44 : SI RX10 44 yX5_init cX5_init 2 1 := ⟨q1533, q1534, q220, q1535, rfl, by decide +kernel, by decide +kernel, by decide +kernel⟩
theorem si_X10_53 : SI RX10 53 yX6_init cX6_init 1 0 := ⟨q1536, q1522, q289, q1523, rfl, by decide +kernel, by decide +kernel, by decide +kernel⟩
theorem si_X10_60 : SI RX10 60 yX1_init cX1_init 2 1 := ⟨q1537, q1538, q271, q1539, rfl, by decide +kernel, by decide +kernel, by decide +kernel⟩
theorem si_X10_67 : SI RX10 67 yX7_init cX7_init 2 1 := ⟨q1540, q1541, q448, q1542, rfl, by decide +kernel, by decide +kernel, by decide +kernel⟩
theorem si_X10_74 : SI RX10 74 yX3_init cX3_init 3 2 := ⟨q1543, q1544, q313, q1545, rfl, by decide +kernel, by decide +kernel, by decide +kernel⟩
theorem si_X10_83 : SI RX10 83 yX8_init cX8_init 3 2 := ⟨q1546, q1547, q516, q1548, rfl, by decide +kernel, by decide +kernel, by decide +kernel⟩
theorem si_X10_95 : SI RX10 95 yX2_init cX2_init 6 4 := ⟨q1549, q1550, q294, q1551, rfl, by decide +kernel, by decide +kernel, by decide +kernel⟩
theorem si_L_124 : SI RL 124 yX10_init cX10_init 1 0 := ⟨q1552, q1553, q274, q1554, rfl, by decide +kernel, by decide +kernel, by decide +kernel⟩
theorem si_L_127 : SI RL 127 yX11_init cX11_init 1 0 := ⟨q1555, q1556, q553, q1557, rfl, by decide +kernel, by decide +kernel, by decide +kernel⟩

theorem dL_law_1484 : decode cL_law 1484 = .ok (.iload 5, 2) := by decide +kernel
theorem dL_law_1486 : decode cL_law 1486 = .ok (.ifCond .ne 15, 3) := by decide +kernel
theorem dL_law_1489 : decode cL_law 1489 = .ok (.aload_n 3, 1) := by decide +kernel
theorem dL_law_1490 : decode cL_law 1490 = .ok (.iconst 0, 1) := by decide +kernel
theorem dL_law_1491 : decode cL_law 1491 = .ok (.laload, 1) := by decide +kernel
theorem dL_law_1492 : decode cL_law 1492 = .ok (.iload 6, 2) := by decide +kernel
theorem dL_law_1494 : decode cL_law 1494 = .ok (.i2l, 1) := by decide +kernel
theorem dL_law_1495 : decode cL_law 1495 = .ok (.lcmp, 1) := by decide +kernel
theorem dL_law_1496 : decode cL_law 1496 = .ok (.ifCond .eq 5, 3) := by decide +kernel
theorem dL_law_1499 : decode cL_law 1499 = .ok (.iconst 0, 1) := by decide +kernel
theorem dL_law_1500 : decode cL_law 1500 = .ok (.ireturn, 1) := by decide +kernel
theorem dL_law_1501 : decode cL_law 1501 = .ok (.goto 3, 3) := by decide +kernel
theorem dL_law_1504 : decode cL_law 1504 = .ok (.iinc 4 6, 3) := by decide +kernel
theorem dL_law_1507 : decode cL_law 1507 = .ok (.goto (-1484), 3) := by decide +kernel
theorem dL_law_1510 : decode cL_law 1510 = .ok (.iconst 1, 1) := by decide +kernel
theorem dL_law_1511 : decode cL_law 1511 = .ok (.ireturn, 1) := by decide +kernel

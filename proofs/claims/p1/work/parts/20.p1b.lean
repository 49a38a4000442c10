/-! one call on a fresh object, case by case -/
theorem z_c0 : z_all5 (z_go 168) z_ct z_ct z_ct z_ct z_ct = true := by decide +kernel
theorem z_c1 : z_all5 (z_go 241) (z_cs 1) z_ct z_ct z_ct z_ct = true := by decide +kernel
theorem z_c2 : z_all5 (z_go 266) z_ct z_ct z_ct z_ct z_ct = true := by decide +kernel
theorem z_c3 : z_all5 (z_go 310) z_ct z_ct z_ct z_ct z_ct = true := by decide +kernel
theorem z_c4 : z_all5 (z_go 323) (z_cs 2) (z_cs 2) z_ct z_ct z_ct = true := by decide +kernel
theorem z_c5 : z_all5 (z_go 391) (z_cs 2) (z_cs 7) z_ct z_ct z_ct = true := by decide +kernel
theorem z_c6 : z_all5 (z_go 459) (z_cs 2) (z_cs 2) (z_cs 1) z_ct z_ct = true := by decide +kernel
theorem z_c7 : z_all5 (z_go 555) (z_cs 2) (z_cs 2) (z_cs 1) (z_cs 2) z_ct = true := by decide +kernel
theorem z_c8 : z_all5 (z_go 663) (z_cs 2) (z_cs 2) z_ct z_ct z_ct = true := by decide +kernel
theorem z_c9 : z_all5 (z_go 731) (z_cs 2) (z_cs 2) (z_cs 2) z_ct z_ct = true := by decide +kernel
theorem z_c10 : z_all5 (z_go 811) z_ct z_ct z_ct z_ct z_ct = true := by decide +kernel
theorem z_c11 : z_all5 (z_go 824) z_ct z_ct z_ct z_ct z_ct = true := by decide +kernel
theorem z_c12 : z_all5 (z_go 837) z_ct z_ct z_ct z_ct z_ct = true := by decide +kernel
theorem z_c13 : z_all5 (z_go 893) z_ct z_ct z_ct z_ct z_ct = true := by decide +kernel
theorem z_c14 : z_all5 (z_go 907) z_ct z_ct z_ct z_ct z_ct = true := by decide +kernel
theorem z_c15 : z_all5 (z_go 920) z_ct z_ct z_ct z_ct z_ct = true := by decide +kernel
theorem z_c16 : z_all5 (z_go 971) z_ct z_ct z_ct z_ct z_ct = true := by decide +kernel
theorem z_c17 : z_all5 (z_go 985) z_ct z_ct z_ct z_ct z_ct = true := by decide +kernel
theorem z_c18 : z_all5 (z_go 1028) (z_cs 10) z_ct z_ct z_ct z_ct = true := by decide +kernel
theorem z_c19 : z_all5 (z_go 1054) [(0, 2147483646), (2147483647, 2147483647), (2147483648, 2147483648), (2147483649, 2147483649), (2147483650, 4294967295)] z_ct z_ct z_ct z_ct = true := by decide +kernel
theorem z_c20 : z_all5 (z_go 1109) (z_cs 1) z_ct z_ct z_ct z_ct = true := by decide +kernel
theorem z_c22 : z_all5 (z_go 1229) (z_cs 2) z_ct z_ct z_ct z_ct = true := by decide +kernel
theorem z_c23 : z_all5 (z_go 1285) z_ct z_ct z_ct z_ct z_ct = true := by decide +kernel
theorem z_c24 : z_all5 (z_go 1328) z_ct z_ct z_ct z_ct z_ct = true := by decide +kernel
theorem z_c25 : z_all5 (z_go 1383) z_ct z_ct z_ct z_ct z_ct = true := by decide +kernel
theorem z_c26 : z_all5 (z_go 1394) z_ct z_ct z_ct z_ct z_ct = true := by decide +kernel
theorem z_c27 : z_all5 (z_go 1407) (z_cs 13) z_ct z_ct z_ct z_ct = true := by decide +kernel
theorem z_c28 : z_all5 (z_go 1432) z_ct z_ct z_ct z_ct z_ct = true := by decide +kernel

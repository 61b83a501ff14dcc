theorem kb_m3 : (Int8.ofInt (-3)).toInt32 = (-3) := by decide
theorem kb_m2 : (Int8.ofInt (-2)).toInt32 = (-2) := by decide
theorem kb_6 : (Int8.ofInt 6).toInt32 = 6 := by decide
theorem kb_7 : (Int8.ofInt 7).toInt32 = 7 := by decide
theorem kb_8 : (Int8.ofInt 8).toInt32 = 8 := by decide
theorem kb_9 : (Int8.ofInt 9).toInt32 = 9 := by decide
theorem kb_10 : (Int8.ofInt 10).toInt32 = 10 := by decide
theorem kb_11 : (Int8.ofInt 11).toInt32 = 11 := by decide
theorem kb_12 : (Int8.ofInt 12).toInt32 = 12 := by decide
theorem kb_13 : (Int8.ofInt 13).toInt32 = 13 := by decide
theorem kb_14 : (Int8.ofInt 14).toInt32 = 14 := by decide
theorem kb_15 : (Int8.ofInt 15).toInt32 = 15 := by decide
theorem kb_16 : (Int8.ofInt 16).toInt32 = 16 := by decide
theorem kb_17 : (Int8.ofInt 17).toInt32 = 17 := by decide
theorem kb_18 : (Int8.ofInt 18).toInt32 = 18 := by decide
theorem kb_19 : (Int8.ofInt 19).toInt32 = 19 := by decide
theorem kb_20 : (Int8.ofInt 20).toInt32 = 20 := by decide
theorem kb_21 : (Int8.ofInt 21).toInt32 = 21 := by decide
theorem kb_22 : (Int8.ofInt 22).toInt32 = 22 := by decide
theorem kb_23 : (Int8.ofInt 23).toInt32 = 23 := by decide
theorem kb_24 : (Int8.ofInt 24).toInt32 = 24 := by decide
theorem kb_25 : (Int8.ofInt 25).toInt32 = 25 := by decide
theorem kb_26 : (Int8.ofInt 26).toInt32 = 26 := by decide
theorem kb_27 : (Int8.ofInt 27).toInt32 = 27 := by decide
theorem kb_28 : (Int8.ofInt 28).toInt32 = 28 := by decide
theorem kb_29 : (Int8.ofInt 29).toInt32 = 29 := by decide
theorem kb_30 : (Int8.ofInt 30).toInt32 = 30 := by decide
theorem kb_31 : (Int8.ofInt 31).toInt32 = 31 := by decide
theorem kb_32 : (Int8.ofInt 32).toInt32 = 32 := by decide
theorem kb_33 : (Int8.ofInt 33).toInt32 = 33 := by decide
theorem kb_34 : (Int8.ofInt 34).toInt32 = 34 := by decide
theorem kb_35 : (Int8.ofInt 35).toInt32 = 35 := by decide
theorem kb_36 : (Int8.ofInt 36).toInt32 = 36 := by decide
theorem kb_37 : (Int8.ofInt 37).toInt32 = 37 := by decide
theorem kb_38 : (Int8.ofInt 38).toInt32 = 38 := by decide
theorem kb_39 : (Int8.ofInt 39).toInt32 = 39 := by decide
theorem kb_40 : (Int8.ofInt 40).toInt32 = 40 := by decide
theorem kb_41 : (Int8.ofInt 41).toInt32 = 41 := by decide
theorem kb_42 : (Int8.ofInt 42).toInt32 = 42 := by decide
theorem kb_43 : (Int8.ofInt 43).toInt32 = 43 := by decide
theorem kb_44 : (Int8.ofInt 44).toInt32 = 44 := by decide
theorem kb_45 : (Int8.ofInt 45).toInt32 = 45 := by decide
theorem kb_46 : (Int8.ofInt 46).toInt32 = 46 := by decide
theorem kb_47 : (Int8.ofInt 47).toInt32 = 47 := by decide
theorem kb_48 : (Int8.ofInt 48).toInt32 = 48 := by decide
theorem kb_49 : (Int8.ofInt 49).toInt32 = 49 := by decide
theorem kb_50 : (Int8.ofInt 50).toInt32 = 50 := by decide
theorem kb_51 : (Int8.ofInt 51).toInt32 = 51 := by decide
theorem kb_52 : (Int8.ofInt 52).toInt32 = 52 := by decide
theorem kb_53 : (Int8.ofInt 53).toInt32 = 53 := by decide
theorem kb_54 : (Int8.ofInt 54).toInt32 = 54 := by decide
theorem kb_55 : (Int8.ofInt 55).toInt32 = 55 := by decide
theorem kb_56 : (Int8.ofInt 56).toInt32 = 56 := by decide
theorem kb_57 : (Int8.ofInt 57).toInt32 = 57 := by decide
theorem kb_58 : (Int8.ofInt 58).toInt32 = 58 := by decide
theorem kb_59 : (Int8.ofInt 59).toInt32 = 59 := by decide
theorem kb_60 : (Int8.ofInt 60).toInt32 = 60 := by decide
theorem kb_61 : (Int8.ofInt 61).toInt32 = 61 := by decide
theorem kb_62 : (Int8.ofInt 62).toInt32 = 62 := by decide
theorem kb_63 : (Int8.ofInt 63).toInt32 = 63 := by decide
theorem kb_64 : (Int8.ofInt 64).toInt32 = 64 := by decide
theorem kb_65 : (Int8.ofInt 65).toInt32 = 65 := by decide
theorem kb_66 : (Int8.ofInt 66).toInt32 = 66 := by decide
theorem kb_67 : (Int8.ofInt 67).toInt32 = 67 := by decide
theorem kb_68 : (Int8.ofInt 68).toInt32 = 68 := by decide
theorem kb_96 : (Int8.ofInt 96).toInt32 = 96 := by decide
theorem kb_97 : (Int8.ofInt 97).toInt32 = 97 := by decide
theorem kb_98 : (Int8.ofInt 98).toInt32 = 98 := by decide
theorem kb_100 : (Int8.ofInt 100).toInt32 = 100 := by decide
theorem kb_101 : (Int8.ofInt 101).toInt32 = 101 := by decide
theorem kb_104 : (Int8.ofInt 104).toInt32 = 104 := by decide
theorem kb_105 : (Int8.ofInt 105).toInt32 = 105 := by decide
theorem kb_108 : (Int8.ofInt 108).toInt32 = 108 := by decide
theorem kb_109 : (Int8.ofInt 109).toInt32 = 109 := by decide
theorem kb_110 : (Int8.ofInt 110).toInt32 = 110 := by decide
theorem kb_111 : (Int8.ofInt 111).toInt32 = 111 := by decide
theorem kb_112 : (Int8.ofInt 112).toInt32 = 112 := by decide
theorem kb_114 : (Int8.ofInt 114).toInt32 = 114 := by decide
theorem kb_115 : (Int8.ofInt 115).toInt32 = 115 := by decide
theorem kb_116 : (Int8.ofInt 116).toInt32 = 116 := by decide
theorem kb_117 : (Int8.ofInt 117).toInt32 = 117 := by decide
theorem kb_119 : (Int8.ofInt 119).toInt32 = 119 := by decide
theorem kb_121 : (Int8.ofInt 121).toInt32 = 121 := by decide
theorem kb_122 : (Int8.ofInt 122).toInt32 = 122 := by decide
theorem kc_m1 : Int32.ofInt (-1) = (-1) := by decide
theorem kc_0 : Int32.ofInt 0 = 0 := by decide
theorem kc_1 : Int32.ofInt 1 = 1 := by decide
theorem kc_2 : Int32.ofInt 2 = 2 := by decide
theorem kc_3 : Int32.ofInt 3 = 3 := by decide
theorem kc_4 : Int32.ofInt 4 = 4 := by decide
theorem kc_5 : Int32.ofInt 5 = 5 := by decide
theorem ks_200 : (Int16.ofInt 200).toInt32 = 200 := by decide
theorem ks_255 : (Int16.ofInt 255).toInt32 = 255 := by decide
theorem ks_256 : (Int16.ofInt 256).toInt32 = 256 := by decide
theorem ks_320 : (Int16.ofInt 320).toInt32 = 320 := by decide
theorem ks_700 : (Int16.ofInt 700).toInt32 = 700 := by decide
theorem ks_999 : (Int16.ofInt 999).toInt32 = 999 := by decide
theorem ks_1000 : (Int16.ofInt 1000).toInt32 = 1000 := by decide
theorem ks_1280 : (Int16.ofInt 1280).toInt32 = 1280 := by decide
theorem ks_1281 : (Int16.ofInt 1281).toInt32 = 1281 := by decide
theorem ks_1289 : (Int16.ofInt 1289).toInt32 = 1289 := by decide
theorem ks_1545 : (Int16.ofInt 1545).toInt32 = 1545 := by decide
theorem ks_1801 : (Int16.ofInt 1801).toInt32 = 1801 := by decide
theorem ks_1865 : (Int16.ofInt 1865).toInt32 = 1865 := by decide
theorem ks_1866 : (Int16.ofInt 1866).toInt32 = 1866 := by decide
theorem ks_1867 : (Int16.ofInt 1867).toInt32 = 1867 := by decide
theorem ks_1868 : (Int16.ofInt 1868).toInt32 = 1868 := by decide
theorem ks_1869 : (Int16.ofInt 1869).toInt32 = 1869 := by decide
theorem ks_1870 : (Int16.ofInt 1870).toInt32 = 1870 := by decide
theorem ks_1871 : (Int16.ofInt 1871).toInt32 = 1871 := by decide
theorem ks_1872 : (Int16.ofInt 1872).toInt32 = 1872 := by decide
theorem ks_2068 : (Int16.ofInt 2068).toInt32 = 2068 := by decide
theorem ks_2084 : (Int16.ofInt 2084).toInt32 = 2084 := by decide
theorem ks_2468 : (Int16.ofInt 2468).toInt32 = 2468 := by decide
theorem ks_9999 : (Int16.ofInt 9999).toInt32 = 9999 := by decide
theorem ks_10000 : (Int16.ofInt 10000).toInt32 = 10000 := by decide
theorem nx_35 : Cond.methodLinkNest RX9 15 yX5_init RX9 ∈ nestW := by decide +kernel
theorem nx_97 : Cond.methodLinkNest RX9 22 yX7_init RX9 ∈ nestW := by decide +kernel
theorem nx_189 : Cond.methodLinkNest RX9 29 yX3_init RX9 ∈ nestW := by decide +kernel
theorem nx_194 : Cond.methodLinkNest RX3 11 yX7_init RX9 ∈ nestW := by decide +kernel
theorem nx_204 : Cond.methodLinkNest RX2 42 yX1_init RX9 ∈ nestW := by decide +kernel
theorem nx_351 : Cond.methodLinkNest RX3 27 yX6_init RX9 ∈ nestW := by decide +kernel
theorem nx_403 : Cond.methodLinkNest RX9 39 yX4_init RX9 ∈ nestW := by decide +kernel
theorem nx_582 : Cond.methodLinkNest RX5 225 yX9_isIn RX9 ∈ nestW := by decide +kernel
theorem nx_652 : Cond.methodLinkNest RX5 218 yX9_isIntervals RX9 ∈ nestW := by decide +kernel
theorem nx_670 : Cond.methodLinkNest RX3 40 yX9_copyRow RX9 ∈ nestW := by decide +kernel
theorem nx_734 : Cond.methodLinkNest RX2 57 yX9_copyRow RX9 ∈ nestW := by decide +kernel
theorem nx_739 : Cond.methodLinkNest RX1 71 yX9_copyRow RX9 ∈ nestW := by decide +kernel
theorem nx_829 : Cond.methodLinkNest RX6 35 yX9_cut RX9 ∈ nestW := by decide +kernel
theorem nx_894 : Cond.methodLinkNest RX3 258 yX9_cut RX9 ∈ nestW := by decide +kernel

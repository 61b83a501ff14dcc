theorem dX1_init_0 : decode cX1_init 0 = .ok (.aload_n 0, 1) := by decide +kernel
theorem dX1_init_1 : decode cX1_init 1 = .ok (.invokespecial 3, 3) := by decide +kernel
theorem dX1_init_4 : decode cX1_init 4 = .ok (.aload_n 0, 1) := by decide +kernel
theorem dX1_init_5 : decode cX1_init 5 = .ok (.iconst 4, 1) := by decide +kernel
theorem dX1_init_6 : decode cX1_init 6 = .ok (.newarray .int, 2) := by decide +kernel
theorem dX1_init_8 : decode cX1_init 8 = .ok (.putfield 9, 3) := by decide +kernel
theorem dX1_init_11 : decode cX1_init 11 = .ok (.aload_n 0, 1) := by decide +kernel
theorem dX1_init_12 : decode cX1_init 12 = .ok (.bipush 10, 2) := by decide +kernel
theorem dX1_init_14 : decode cX1_init 14 = .ok (.newarray .int, 2) := by decide +kernel
theorem dX1_init_16 : decode cX1_init 16 = .ok (.putfield 15, 3) := by decide +kernel
theorem dX1_init_19 : decode cX1_init 19 = .ok (.aload_n 0, 1) := by decide +kernel
theorem dX1_init_20 : decode cX1_init 20 = .ok (.bipush 10, 2) := by decide +kernel
theorem dX1_init_22 : decode cX1_init 22 = .ok (.newarray .int, 2) := by decide +kernel
theorem dX1_init_24 : decode cX1_init 24 = .ok (.putfield 18, 3) := by decide +kernel
theorem dX1_init_27 : decode cX1_init 27 = .ok (.aload_n 0, 1) := by decide +kernel
theorem dX1_init_28 : decode cX1_init 28 = .ok (.bipush 10, 2) := by decide +kernel
theorem dX1_init_30 : decode cX1_init 30 = .ok (.newarray .int, 2) := by decide +kernel
theorem dX1_init_32 : decode cX1_init 32 = .ok (.putfield 21, 3) := by decide +kernel
theorem dX1_init_35 : decode cX1_init 35 = .ok (.return_, 1) := by decide +kernel
theorem dX1_begin_0 : decode cX1_begin 0 = .ok (.aload_n 0, 1) := by decide +kernel
theorem dX1_begin_1 : decode cX1_begin 1 = .ok (.iload_n 1, 1) := by decide +kernel
theorem dX1_begin_2 : decode cX1_begin 2 = .ok (.putfield 24, 3) := by decide +kernel
theorem dX1_begin_5 : decode cX1_begin 5 = .ok (.aload_n 0, 1) := by decide +kernel
theorem dX1_begin_6 : decode cX1_begin 6 = .ok (.iload_n 1, 1) := by decide +kernel
theorem dX1_begin_7 : decode cX1_begin 7 = .ok (.putfield 28, 3) := by decide +kernel
theorem dX1_begin_10 : decode cX1_begin 10 = .ok (.aload_n 0, 1) := by decide +kernel
theorem dX1_begin_11 : decode cX1_begin 11 = .ok (.iload_n 2, 1) := by decide +kernel
theorem dX1_begin_12 : decode cX1_begin 12 = .ok (.putfield 31, 3) := by decide +kernel
theorem dX1_begin_15 : decode cX1_begin 15 = .ok (.aload_n 0, 1) := by decide +kernel
theorem dX1_begin_16 : decode cX1_begin 16 = .ok (.iload_n 3, 1) := by decide +kernel
theorem dX1_begin_17 : decode cX1_begin 17 = .ok (.putfield 34, 3) := by decide +kernel
theorem dX1_begin_20 : decode cX1_begin 20 = .ok (.aload_n 0, 1) := by decide +kernel
theorem dX1_begin_21 : decode cX1_begin 21 = .ok (.iload 4, 2) := by decide +kernel
theorem dX1_begin_23 : decode cX1_begin 23 = .ok (.putfield 37, 3) := by decide +kernel
theorem dX1_begin_26 : decode cX1_begin 26 = .ok (.aload_n 0, 1) := by decide +kernel
theorem dX1_begin_27 : decode cX1_begin 27 = .ok (.iload 5, 2) := by decide +kernel
theorem dX1_begin_29 : decode cX1_begin 29 = .ok (.putfield 40, 3) := by decide +kernel
theorem dX1_begin_32 : decode cX1_begin 32 = .ok (.aload_n 0, 1) := by decide +kernel
theorem dX1_begin_33 : decode cX1_begin 33 = .ok (.bipush (-2), 2) := by decide +kernel
theorem dX1_begin_35 : decode cX1_begin 35 = .ok (.putfield 43, 3) := by decide +kernel
theorem dX1_begin_38 : decode cX1_begin 38 = .ok (.aload_n 0, 1) := by decide +kernel
theorem dX1_begin_39 : decode cX1_begin 39 = .ok (.iconst (-1), 1) := by decide +kernel
theorem dX1_begin_40 : decode cX1_begin 40 = .ok (.putfield 46, 3) := by decide +kernel
theorem dX1_begin_43 : decode cX1_begin 43 = .ok (.aload_n 0, 1) := by decide +kernel
theorem dX1_begin_44 : decode cX1_begin 44 = .ok (.iconst 0, 1) := by decide +kernel
theorem dX1_begin_45 : decode cX1_begin 45 = .ok (.putfield 49, 3) := by decide +kernel
theorem dX1_begin_48 : decode cX1_begin 48 = .ok (.aload_n 0, 1) := by decide +kernel
theorem dX1_begin_49 : decode cX1_begin 49 = .ok (.iconst 0, 1) := by decide +kernel
theorem dX1_begin_50 : decode cX1_begin 50 = .ok (.putfield 53, 3) := by decide +kernel
theorem dX1_begin_53 : decode cX1_begin 53 = .ok (.aload_n 0, 1) := by decide +kernel
theorem dX1_begin_54 : decode cX1_begin 54 = .ok (.iconst 0, 1) := by decide +kernel
theorem dX1_begin_55 : decode cX1_begin 55 = .ok (.putfield 56, 3) := by decide +kernel
theorem dX1_begin_58 : decode cX1_begin 58 = .ok (.aload_n 0, 1) := by decide +kernel
theorem dX1_begin_59 : decode cX1_begin 59 = .ok (.iconst 0, 1) := by decide +kernel
theorem dX1_begin_60 : decode cX1_begin 60 = .ok (.putfield 59, 3) := by decide +kernel
theorem dX1_begin_63 : decode cX1_begin 63 = .ok (.aload_n 0, 1) := by decide +kernel
theorem dX1_begin_64 : decode cX1_begin 64 = .ok (.iconst 0, 1) := by decide +kernel
theorem dX1_begin_65 : decode cX1_begin 65 = .ok (.putfield 62, 3) := by decide +kernel
theorem dX1_begin_68 : decode cX1_begin 68 = .ok (.aload_n 0, 1) := by decide +kernel
theorem dX1_begin_69 : decode cX1_begin 69 = .ok (.iconst 0, 1) := by decide +kernel
theorem dX1_begin_70 : decode cX1_begin 70 = .ok (.putfield 65, 3) := by decide +kernel
theorem dX1_begin_73 : decode cX1_begin 73 = .ok (.aload_n 0, 1) := by decide +kernel
theorem dX1_begin_74 : decode cX1_begin 74 = .ok (.iconst 0, 1) := by decide +kernel
theorem dX1_begin_75 : decode cX1_begin 75 = .ok (.putfield 68, 3) := by decide +kernel
theorem dX1_begin_78 : decode cX1_begin 78 = .ok (.return_, 1) := by decide +kernel
theorem dX1_copyFrom_0 : decode cX1_copyFrom 0 = .ok (.aload_n 0, 1) := by decide +kernel
theorem dX1_copyFrom_1 : decode cX1_copyFrom 1 = .ok (.aload_n 1, 1) := by decide +kernel
theorem dX1_copyFrom_2 : decode cX1_copyFrom 2 = .ok (.getfield 24, 3) := by decide +kernel
theorem dX1_copyFrom_5 : decode cX1_copyFrom 5 = .ok (.putfield 24, 3) := by decide +kernel
theorem dX1_copyFrom_8 : decode cX1_copyFrom 8 = .ok (.aload_n 0, 1) := by decide +kernel
theorem dX1_copyFrom_9 : decode cX1_copyFrom 9 = .ok (.aload_n 1, 1) := by decide +kernel
theorem dX1_copyFrom_10 : decode cX1_copyFrom 10 = .ok (.getfield 28, 3) := by decide +kernel
theorem dX1_copyFrom_13 : decode cX1_copyFrom 13 = .ok (.putfield 28, 3) := by decide +kernel
theorem dX1_copyFrom_16 : decode cX1_copyFrom 16 = .ok (.aload_n 0, 1) := by decide +kernel
theorem dX1_copyFrom_17 : decode cX1_copyFrom 17 = .ok (.aload_n 1, 1) := by decide +kernel
theorem dX1_copyFrom_18 : decode cX1_copyFrom 18 = .ok (.getfield 31, 3) := by decide +kernel
theorem dX1_copyFrom_21 : decode cX1_copyFrom 21 = .ok (.putfield 31, 3) := by decide +kernel
theorem dX1_copyFrom_24 : decode cX1_copyFrom 24 = .ok (.aload_n 0, 1) := by decide +kernel
theorem dX1_copyFrom_25 : decode cX1_copyFrom 25 = .ok (.aload_n 1, 1) := by decide +kernel
theorem dX1_copyFrom_26 : decode cX1_copyFrom 26 = .ok (.getfield 34, 3) := by decide +kernel
theorem dX1_copyFrom_29 : decode cX1_copyFrom 29 = .ok (.putfield 34, 3) := by decide +kernel
theorem dX1_copyFrom_32 : decode cX1_copyFrom 32 = .ok (.aload_n 0, 1) := by decide +kernel
theorem dX1_copyFrom_33 : decode cX1_copyFrom 33 = .ok (.aload_n 1, 1) := by decide +kernel
theorem dX1_copyFrom_34 : decode cX1_copyFrom 34 = .ok (.getfield 37, 3) := by decide +kernel
theorem dX1_copyFrom_37 : decode cX1_copyFrom 37 = .ok (.putfield 37, 3) := by decide +kernel
theorem dX1_copyFrom_40 : decode cX1_copyFrom 40 = .ok (.aload_n 0, 1) := by decide +kernel
theorem dX1_copyFrom_41 : decode cX1_copyFrom 41 = .ok (.aload_n 1, 1) := by decide +kernel
theorem dX1_copyFrom_42 : decode cX1_copyFrom 42 = .ok (.getfield 40, 3) := by decide +kernel
theorem dX1_copyFrom_45 : decode cX1_copyFrom 45 = .ok (.putfield 40, 3) := by decide +kernel
theorem dX1_copyFrom_48 : decode cX1_copyFrom 48 = .ok (.aload_n 0, 1) := by decide +kernel
theorem dX1_copyFrom_49 : decode cX1_copyFrom 49 = .ok (.aload_n 1, 1) := by decide +kernel
theorem dX1_copyFrom_50 : decode cX1_copyFrom 50 = .ok (.getfield 43, 3) := by decide +kernel
theorem dX1_copyFrom_53 : decode cX1_copyFrom 53 = .ok (.putfield 43, 3) := by decide +kernel
theorem dX1_copyFrom_56 : decode cX1_copyFrom 56 = .ok (.aload_n 0, 1) := by decide +kernel
theorem dX1_copyFrom_57 : decode cX1_copyFrom 57 = .ok (.aload_n 1, 1) := by decide +kernel
theorem dX1_copyFrom_58 : decode cX1_copyFrom 58 = .ok (.getfield 46, 3) := by decide +kernel
theorem dX1_copyFrom_61 : decode cX1_copyFrom 61 = .ok (.putfield 46, 3) := by decide +kernel
theorem dX1_copyFrom_64 : decode cX1_copyFrom 64 = .ok (.aload_n 0, 1) := by decide +kernel
theorem dX1_copyFrom_65 : decode cX1_copyFrom 65 = .ok (.aload_n 1, 1) := by decide +kernel
theorem dX1_copyFrom_66 : decode cX1_copyFrom 66 = .ok (.getfield 49, 3) := by decide +kernel
theorem dX1_copyFrom_69 : decode cX1_copyFrom 69 = .ok (.putfield 49, 3) := by decide +kernel
theorem dX1_copyFrom_72 : decode cX1_copyFrom 72 = .ok (.aload_n 0, 1) := by decide +kernel
theorem dX1_copyFrom_73 : decode cX1_copyFrom 73 = .ok (.aload_n 1, 1) := by decide +kernel
theorem dX1_copyFrom_74 : decode cX1_copyFrom 74 = .ok (.getfield 53, 3) := by decide +kernel
theorem dX1_copyFrom_77 : decode cX1_copyFrom 77 = .ok (.putfield 53, 3) := by decide +kernel
theorem dX1_copyFrom_80 : decode cX1_copyFrom 80 = .ok (.aload_n 0, 1) := by decide +kernel
theorem dX1_copyFrom_81 : decode cX1_copyFrom 81 = .ok (.aload_n 1, 1) := by decide +kernel
theorem dX1_copyFrom_82 : decode cX1_copyFrom 82 = .ok (.getfield 56, 3) := by decide +kernel
theorem dX1_copyFrom_85 : decode cX1_copyFrom 85 = .ok (.putfield 56, 3) := by decide +kernel
theorem dX1_copyFrom_88 : decode cX1_copyFrom 88 = .ok (.aload_n 0, 1) := by decide +kernel
theorem dX1_copyFrom_89 : decode cX1_copyFrom 89 = .ok (.aload_n 1, 1) := by decide +kernel
theorem dX1_copyFrom_90 : decode cX1_copyFrom 90 = .ok (.getfield 59, 3) := by decide +kernel
theorem dX1_copyFrom_93 : decode cX1_copyFrom 93 = .ok (.putfield 59, 3) := by decide +kernel
theorem dX1_copyFrom_96 : decode cX1_copyFrom 96 = .ok (.aload_n 0, 1) := by decide +kernel
theorem dX1_copyFrom_97 : decode cX1_copyFrom 97 = .ok (.aload_n 1, 1) := by decide +kernel
theorem dX1_copyFrom_98 : decode cX1_copyFrom 98 = .ok (.getfield 62, 3) := by decide +kernel
theorem dX1_copyFrom_101 : decode cX1_copyFrom 101 = .ok (.putfield 62, 3) := by decide +kernel
theorem dX1_copyFrom_104 : decode cX1_copyFrom 104 = .ok (.aload_n 0, 1) := by decide +kernel
theorem dX1_copyFrom_105 : decode cX1_copyFrom 105 = .ok (.aload_n 1, 1) := by decide +kernel
theorem dX1_copyFrom_106 : decode cX1_copyFrom 106 = .ok (.getfield 65, 3) := by decide +kernel
theorem dX1_copyFrom_109 : decode cX1_copyFrom 109 = .ok (.putfield 65, 3) := by decide +kernel
theorem dX1_copyFrom_112 : decode cX1_copyFrom 112 = .ok (.aload_n 0, 1) := by decide +kernel
theorem dX1_copyFrom_113 : decode cX1_copyFrom 113 = .ok (.aload_n 1, 1) := by decide +kernel
theorem dX1_copyFrom_114 : decode cX1_copyFrom 114 = .ok (.getfield 68, 3) := by decide +kernel
theorem dX1_copyFrom_117 : decode cX1_copyFrom 117 = .ok (.putfield 68, 3) := by decide +kernel
theorem dX1_copyFrom_120 : decode cX1_copyFrom 120 = .ok (.aload_n 1, 1) := by decide +kernel
theorem dX1_copyFrom_121 : decode cX1_copyFrom 121 = .ok (.getfield 9, 3) := by decide +kernel
theorem dX1_copyFrom_124 : decode cX1_copyFrom 124 = .ok (.aload_n 0, 1) := by decide +kernel
theorem dX1_copyFrom_125 : decode cX1_copyFrom 125 = .ok (.getfield 9, 3) := by decide +kernel
theorem dX1_copyFrom_128 : decode cX1_copyFrom 128 = .ok (.invokestatic 71, 3) := by decide +kernel
theorem dX1_copyFrom_131 : decode cX1_copyFrom 131 = .ok (.aload_n 1, 1) := by decide +kernel
theorem dX1_copyFrom_132 : decode cX1_copyFrom 132 = .ok (.getfield 15, 3) := by decide +kernel
theorem dX1_copyFrom_135 : decode cX1_copyFrom 135 = .ok (.aload_n 0, 1) := by decide +kernel
theorem dX1_copyFrom_136 : decode cX1_copyFrom 136 = .ok (.getfield 15, 3) := by decide +kernel
theorem dX1_copyFrom_139 : decode cX1_copyFrom 139 = .ok (.invokestatic 71, 3) := by decide +kernel
theorem dX1_copyFrom_142 : decode cX1_copyFrom 142 = .ok (.aload_n 1, 1) := by decide +kernel
theorem dX1_copyFrom_143 : decode cX1_copyFrom 143 = .ok (.getfield 18, 3) := by decide +kernel
theorem dX1_copyFrom_146 : decode cX1_copyFrom 146 = .ok (.aload_n 0, 1) := by decide +kernel
theorem dX1_copyFrom_147 : decode cX1_copyFrom 147 = .ok (.getfield 18, 3) := by decide +kernel
theorem dX1_copyFrom_150 : decode cX1_copyFrom 150 = .ok (.invokestatic 71, 3) := by decide +kernel
theorem dX1_copyFrom_153 : decode cX1_copyFrom 153 = .ok (.aload_n 1, 1) := by decide +kernel
theorem dX1_copyFrom_154 : decode cX1_copyFrom 154 = .ok (.getfield 21, 3) := by decide +kernel
theorem dX1_copyFrom_157 : decode cX1_copyFrom 157 = .ok (.aload_n 0, 1) := by decide +kernel
theorem dX1_copyFrom_158 : decode cX1_copyFrom 158 = .ok (.getfield 21, 3) := by decide +kernel
theorem dX1_copyFrom_161 : decode cX1_copyFrom 161 = .ok (.invokestatic 71, 3) := by decide +kernel
theorem dX1_copyFrom_164 : decode cX1_copyFrom 164 = .ok (.return_, 1) := by decide +kernel
theorem dX1_isFree_0 : decode cX1_isFree 0 = .ok (.aload_n 0, 1) := by decide +kernel
theorem dX1_isFree_1 : decode cX1_isFree 1 = .ok (.getfield 49, 3) := by decide +kernel
theorem dX1_isFree_4 : decode cX1_isFree 4 = .ok (.ifCond .ne 16, 3) := by decide +kernel
theorem dX1_isFree_7 : decode cX1_isFree 7 = .ok (.aload_n 0, 1) := by decide +kernel
theorem dX1_isFree_8 : decode cX1_isFree 8 = .ok (.getfield 43, 3) := by decide +kernel
theorem dX1_isFree_11 : decode cX1_isFree 11 = .ok (.bipush (-2), 2) := by decide +kernel
theorem dX1_isFree_13 : decode cX1_isFree 13 = .ok (.if_icmp .ne 7, 3) := by decide +kernel
theorem dX1_isFree_16 : decode cX1_isFree 16 = .ok (.iconst 1, 1) := by decide +kernel
theorem dX1_isFree_17 : decode cX1_isFree 17 = .ok (.goto 4, 3) := by decide +kernel
theorem dX1_isFree_20 : decode cX1_isFree 20 = .ok (.iconst 0, 1) := by decide +kernel
theorem dX1_isFree_21 : decode cX1_isFree 21 = .ok (.ireturn, 1) := by decide +kernel
theorem dX1_usesMayChange_0 : decode cX1_usesMayChange 0 = .ok (.aload_n 0, 1) := by decide +kernel
theorem dX1_usesMayChange_1 : decode cX1_usesMayChange 1 = .ok (.invokevirtual 75, 3) := by decide +kernel
theorem dX1_usesMayChange_4 : decode cX1_usesMayChange 4 = .ok (.ifCond .eq 14, 3) := by decide +kernel
theorem dX1_usesMayChange_7 : decode cX1_usesMayChange 7 = .ok (.aload_n 0, 1) := by decide +kernel
theorem dX1_usesMayChange_8 : decode cX1_usesMayChange 8 = .ok (.getfield 68, 3) := by decide +kernel
theorem dX1_usesMayChange_11 : decode cX1_usesMayChange 11 = .ok (.ifCond .le 7, 3) := by decide +kernel
theorem dX1_usesMayChange_14 : decode cX1_usesMayChange 14 = .ok (.iconst 1, 1) := by decide +kernel
theorem dX1_usesMayChange_15 : decode cX1_usesMayChange 15 = .ok (.goto 4, 3) := by decide +kernel
theorem dX1_usesMayChange_18 : decode cX1_usesMayChange 18 = .ok (.iconst 0, 1) := by decide +kernel
theorem dX1_usesMayChange_19 : decode cX1_usesMayChange 19 = .ok (.ireturn, 1) := by decide +kernel
theorem dX1_intervalsBehind_0 : decode cX1_intervalsBehind 0 = .ok (.aload_n 0, 1) := by decide +kernel
theorem dX1_intervalsBehind_1 : decode cX1_intervalsBehind 1 = .ok (.getfield 37, 3) := by decide +kernel
theorem dX1_intervalsBehind_4 : decode cX1_intervalsBehind 4 = .ok (.iconst 1, 1) := by decide +kernel
theorem dX1_intervalsBehind_5 : decode cX1_intervalsBehind 5 = .ok (.isub, 1) := by decide +kernel
theorem dX1_intervalsBehind_6 : decode cX1_intervalsBehind 6 = .ok (.aload_n 0, 1) := by decide +kernel
theorem dX1_intervalsBehind_7 : decode cX1_intervalsBehind 7 = .ok (.getfield 68, 3) := by decide +kernel
theorem dX1_intervalsBehind_10 : decode cX1_intervalsBehind 10 = .ok (.isub, 1) := by decide +kernel
theorem dX1_intervalsBehind_11 : decode cX1_intervalsBehind 11 = .ok (.ireturn, 1) := by decide +kernel
theorem dX1_endInterval_0 : decode cX1_endInterval 0 = .ok (.aload_n 0, 1) := by decide +kernel
theorem dX1_endInterval_1 : decode cX1_endInterval 1 = .ok (.getfield 68, 3) := by decide +kernel
theorem dX1_endInterval_4 : decode cX1_endInterval 4 = .ok (.ifCond .lt 12, 3) := by decide +kernel
theorem dX1_endInterval_7 : decode cX1_endInterval 7 = .ok (.aload_n 0, 1) := by decide +kernel
theorem dX1_endInterval_8 : decode cX1_endInterval 8 = .ok (.getfield 68, 3) := by decide +kernel
theorem dX1_endInterval_11 : decode cX1_endInterval 11 = .ok (.bipush 10, 2) := by decide +kernel
theorem dX1_endInterval_13 : decode cX1_endInterval 13 = .ok (.if_icmp .lt 4, 3) := by decide +kernel
theorem dX1_endInterval_16 : decode cX1_endInterval 16 = .ok (.return_, 1) := by decide +kernel
theorem dX1_endInterval_17 : decode cX1_endInterval 17 = .ok (.aload_n 0, 1) := by decide +kernel
theorem dX1_endInterval_18 : decode cX1_endInterval 18 = .ok (.getfield 15, 3) := by decide +kernel
theorem dX1_endInterval_21 : decode cX1_endInterval 21 = .ok (.aload_n 0, 1) := by decide +kernel
theorem dX1_endInterval_22 : decode cX1_endInterval 22 = .ok (.getfield 68, 3) := by decide +kernel
theorem dX1_endInterval_25 : decode cX1_endInterval 25 = .ok (.iload_n 1, 1) := by decide +kernel
theorem dX1_endInterval_26 : decode cX1_endInterval 26 = .ok (.iastore, 1) := by decide +kernel
theorem dX1_endInterval_27 : decode cX1_endInterval 27 = .ok (.aload_n 0, 1) := by decide +kernel
theorem dX1_endInterval_28 : decode cX1_endInterval 28 = .ok (.getfield 18, 3) := by decide +kernel
theorem dX1_endInterval_31 : decode cX1_endInterval 31 = .ok (.aload_n 0, 1) := by decide +kernel
theorem dX1_endInterval_32 : decode cX1_endInterval 32 = .ok (.getfield 68, 3) := by decide +kernel
theorem dX1_endInterval_35 : decode cX1_endInterval 35 = .ok (.iload_n 2, 1) := by decide +kernel
theorem dX1_endInterval_36 : decode cX1_endInterval 36 = .ok (.iastore, 1) := by decide +kernel
theorem dX1_endInterval_37 : decode cX1_endInterval 37 = .ok (.aload_n 0, 1) := by decide +kernel
theorem dX1_endInterval_38 : decode cX1_endInterval 38 = .ok (.getfield 21, 3) := by decide +kernel
theorem dX1_endInterval_41 : decode cX1_endInterval 41 = .ok (.aload_n 0, 1) := by decide +kernel
theorem dX1_endInterval_42 : decode cX1_endInterval 42 = .ok (.getfield 68, 3) := by decide +kernel
theorem dX1_endInterval_45 : decode cX1_endInterval 45 = .ok (.aload_n 0, 1) := by decide +kernel
theorem dX1_endInterval_46 : decode cX1_endInterval 46 = .ok (.getfield 24, 3) := by decide +kernel
theorem dX1_endInterval_49 : decode cX1_endInterval 49 = .ok (.iastore, 1) := by decide +kernel
theorem dX1_endInterval_50 : decode cX1_endInterval 50 = .ok (.aload_n 0, 1) := by decide +kernel
theorem dX1_endInterval_51 : decode cX1_endInterval 51 = .ok (.dup, 1) := by decide +kernel
theorem dX1_endInterval_52 : decode cX1_endInterval 52 = .ok (.getfield 59, 3) := by decide +kernel
theorem dX1_endInterval_55 : decode cX1_endInterval 55 = .ok (.iload_n 2, 1) := by decide +kernel
theorem dX1_endInterval_56 : decode cX1_endInterval 56 = .ok (.iadd, 1) := by decide +kernel
theorem dX1_endInterval_57 : decode cX1_endInterval 57 = .ok (.putfield 59, 3) := by decide +kernel
theorem dX1_endInterval_60 : decode cX1_endInterval 60 = .ok (.aload_n 0, 1) := by decide +kernel
theorem dX1_endInterval_61 : decode cX1_endInterval 61 = .ok (.dup, 1) := by decide +kernel
theorem dX1_endInterval_62 : decode cX1_endInterval 62 = .ok (.getfield 68, 3) := by decide +kernel
theorem dX1_endInterval_65 : decode cX1_endInterval 65 = .ok (.iconst 1, 1) := by decide +kernel
theorem dX1_endInterval_66 : decode cX1_endInterval 66 = .ok (.iadd, 1) := by decide +kernel
theorem dX1_endInterval_67 : decode cX1_endInterval 67 = .ok (.putfield 68, 3) := by decide +kernel
theorem dX1_endInterval_70 : decode cX1_endInterval 70 = .ok (.return_, 1) := by decide +kernel
theorem dX2_init_0 : decode cX2_init 0 = .ok (.aload_n 0, 1) := by decide +kernel
theorem dX2_init_1 : decode cX2_init 1 = .ok (.invokespecial 3, 3) := by decide +kernel
theorem dX2_init_4 : decode cX2_init 4 = .ok (.aload_n 0, 1) := by decide +kernel
theorem dX2_init_5 : decode cX2_init 5 = .ok (.iconst 4, 1) := by decide +kernel
theorem dX2_init_6 : decode cX2_init 6 = .ok (.newarray .int, 2) := by decide +kernel
theorem dX2_init_8 : decode cX2_init 8 = .ok (.putfield 9, 3) := by decide +kernel
theorem dX2_init_11 : decode cX2_init 11 = .ok (.aload_n 0, 1) := by decide +kernel
theorem dX2_init_12 : decode cX2_init 12 = .ok (.iconst 4, 1) := by decide +kernel
theorem dX2_init_13 : decode cX2_init 13 = .ok (.newarray .int, 2) := by decide +kernel
theorem dX2_init_15 : decode cX2_init 15 = .ok (.putfield 15, 3) := by decide +kernel
theorem dX2_init_18 : decode cX2_init 18 = .ok (.aload_n 0, 1) := by decide +kernel
theorem dX2_init_19 : decode cX2_init 19 = .ok (.bipush 8, 2) := by decide +kernel
theorem dX2_init_21 : decode cX2_init 21 = .ok (.anewarray 18, 3) := by decide +kernel
theorem dX2_init_24 : decode cX2_init 24 = .ok (.putfield 20, 3) := by decide +kernel
theorem dX2_init_27 : decode cX2_init 27 = .ok (.aload_n 0, 1) := by decide +kernel
theorem dX2_init_28 : decode cX2_init 28 = .ok (.sipush 1280, 3) := by decide +kernel
theorem dX2_init_31 : decode cX2_init 31 = .ok (.newarray .int, 2) := by decide +kernel
theorem dX2_init_33 : decode cX2_init 33 = .ok (.putfield 24, 3) := by decide +kernel
theorem dX2_init_36 : decode cX2_init 36 = .ok (.aload_n 0, 1) := by decide +kernel
theorem dX2_init_37 : decode cX2_init 37 = .ok (.sipush 256, 3) := by decide +kernel
theorem dX2_init_40 : decode cX2_init 40 = .ok (.newarray .int, 2) := by decide +kernel
theorem dX2_init_42 : decode cX2_init 42 = .ok (.putfield 27, 3) := by decide +kernel
theorem dX2_init_45 : decode cX2_init 45 = .ok (.aload_n 0, 1) := by decide +kernel
theorem dX2_init_46 : decode cX2_init 46 = .ok (.bipush 64, 2) := by decide +kernel
theorem dX2_init_48 : decode cX2_init 48 = .ok (.newarray .int, 2) := by decide +kernel
theorem dX2_init_50 : decode cX2_init 50 = .ok (.putfield 30, 3) := by decide +kernel
theorem dX2_init_53 : decode cX2_init 53 = .ok (.aload_n 0, 1) := by decide +kernel
theorem dX2_init_54 : decode cX2_init 54 = .ok (.sipush 256, 3) := by decide +kernel
theorem dX2_init_57 : decode cX2_init 57 = .ok (.newarray .int, 2) := by decide +kernel
theorem dX2_init_59 : decode cX2_init 59 = .ok (.putfield 33, 3) := by decide +kernel
theorem dX2_init_62 : decode cX2_init 62 = .ok (.aload_n 0, 1) := by decide +kernel
theorem dX2_init_63 : decode cX2_init 63 = .ok (.bipush 16, 2) := by decide +kernel
theorem dX2_init_65 : decode cX2_init 65 = .ok (.newarray .int, 2) := by decide +kernel
theorem dX2_init_67 : decode cX2_init 67 = .ok (.putfield 36, 3) := by decide +kernel
theorem dX2_init_70 : decode cX2_init 70 = .ok (.aload_n 0, 1) := by decide +kernel
theorem dX2_init_71 : decode cX2_init 71 = .ok (.sipush 200, 3) := by decide +kernel
theorem dX2_init_74 : decode cX2_init 74 = .ok (.newarray .int, 2) := by decide +kernel
theorem dX2_init_76 : decode cX2_init 76 = .ok (.putfield 39, 3) := by decide +kernel
theorem dX2_init_79 : decode cX2_init 79 = .ok (.iconst 0, 1) := by decide +kernel
theorem dX2_init_80 : decode cX2_init 80 = .ok (.istore_n 1, 1) := by decide +kernel
theorem dX2_init_81 : decode cX2_init 81 = .ok (.iload_n 1, 1) := by decide +kernel
theorem dX2_init_82 : decode cX2_init 82 = .ok (.bipush 8, 2) := by decide +kernel
theorem dX2_init_84 : decode cX2_init 84 = .ok (.if_icmp .ge 22, 3) := by decide +kernel
theorem dX2_init_87 : decode cX2_init 87 = .ok (.aload_n 0, 1) := by decide +kernel
theorem dX2_init_88 : decode cX2_init 88 = .ok (.getfield 20, 3) := by decide +kernel
theorem dX2_init_91 : decode cX2_init 91 = .ok (.iload_n 1, 1) := by decide +kernel
theorem dX2_init_92 : decode cX2_init 92 = .ok (.new 18, 3) := by decide +kernel
theorem dX2_init_95 : decode cX2_init 95 = .ok (.dup, 1) := by decide +kernel
theorem dX2_init_96 : decode cX2_init 96 = .ok (.invokespecial 42, 3) := by decide +kernel
theorem dX2_init_99 : decode cX2_init 99 = .ok (.aastore, 1) := by decide +kernel
theorem dX2_init_100 : decode cX2_init 100 = .ok (.iinc 1 1, 3) := by decide +kernel
theorem dX2_init_103 : decode cX2_init 103 = .ok (.goto (-22), 3) := by decide +kernel
theorem dX2_init_106 : decode cX2_init 106 = .ok (.return_, 1) := by decide +kernel
theorem dX2_clear_0 : decode cX2_clear 0 = .ok (.aload_n 0, 1) := by decide +kernel
theorem dX2_clear_1 : decode cX2_clear 1 = .ok (.iconst 0, 1) := by decide +kernel
theorem dX2_clear_2 : decode cX2_clear 2 = .ok (.putfield 43, 3) := by decide +kernel
theorem dX2_clear_5 : decode cX2_clear 5 = .ok (.aload_n 0, 1) := by decide +kernel
theorem dX2_clear_6 : decode cX2_clear 6 = .ok (.iconst 0, 1) := by decide +kernel
theorem dX2_clear_7 : decode cX2_clear 7 = .ok (.putfield 47, 3) := by decide +kernel
theorem dX2_clear_10 : decode cX2_clear 10 = .ok (.aload_n 0, 1) := by decide +kernel
theorem dX2_clear_11 : decode cX2_clear 11 = .ok (.iconst 0, 1) := by decide +kernel
theorem dX2_clear_12 : decode cX2_clear 12 = .ok (.putfield 50, 3) := by decide +kernel
theorem dX2_clear_15 : decode cX2_clear 15 = .ok (.aload_n 0, 1) := by decide +kernel
theorem dX2_clear_16 : decode cX2_clear 16 = .ok (.getfield 24, 3) := by decide +kernel
theorem dX2_clear_19 : decode cX2_clear 19 = .ok (.invokestatic 53, 3) := by decide +kernel
theorem dX2_clear_22 : decode cX2_clear 22 = .ok (.aload_n 0, 1) := by decide +kernel
theorem dX2_clear_23 : decode cX2_clear 23 = .ok (.getfield 27, 3) := by decide +kernel
theorem dX2_clear_26 : decode cX2_clear 26 = .ok (.invokestatic 53, 3) := by decide +kernel
theorem dX2_clear_29 : decode cX2_clear 29 = .ok (.aload_n 0, 1) := by decide +kernel
theorem dX2_clear_30 : decode cX2_clear 30 = .ok (.getfield 30, 3) := by decide +kernel
theorem dX2_clear_33 : decode cX2_clear 33 = .ok (.invokestatic 53, 3) := by decide +kernel
theorem dX2_clear_36 : decode cX2_clear 36 = .ok (.aload_n 0, 1) := by decide +kernel
theorem dX2_clear_37 : decode cX2_clear 37 = .ok (.getfield 33, 3) := by decide +kernel
theorem dX2_clear_40 : decode cX2_clear 40 = .ok (.invokestatic 53, 3) := by decide +kernel
theorem dX2_clear_43 : decode cX2_clear 43 = .ok (.aload_n 0, 1) := by decide +kernel
theorem dX2_clear_44 : decode cX2_clear 44 = .ok (.getfield 36, 3) := by decide +kernel
theorem dX2_clear_47 : decode cX2_clear 47 = .ok (.invokestatic 53, 3) := by decide +kernel
theorem dX2_clear_50 : decode cX2_clear 50 = .ok (.return_, 1) := by decide +kernel
theorem dX2_clearRow_0 : decode cX2_clearRow 0 = .ok (.iconst 0, 1) := by decide +kernel
theorem dX2_clearRow_1 : decode cX2_clearRow 1 = .ok (.istore_n 1, 1) := by decide +kernel
theorem dX2_clearRow_2 : decode cX2_clearRow 2 = .ok (.iload_n 1, 1) := by decide +kernel
theorem dX2_clearRow_3 : decode cX2_clearRow 3 = .ok (.aload_n 0, 1) := by decide +kernel
theorem dX2_clearRow_4 : decode cX2_clearRow 4 = .ok (.arraylength, 1) := by decide +kernel
theorem dX2_clearRow_5 : decode cX2_clearRow 5 = .ok (.if_icmp .ge 13, 3) := by decide +kernel
theorem dX2_clearRow_8 : decode cX2_clearRow 8 = .ok (.aload_n 0, 1) := by decide +kernel
theorem dX2_clearRow_9 : decode cX2_clearRow 9 = .ok (.iload_n 1, 1) := by decide +kernel
theorem dX2_clearRow_10 : decode cX2_clearRow 10 = .ok (.iconst 0, 1) := by decide +kernel
theorem dX2_clearRow_11 : decode cX2_clearRow 11 = .ok (.iastore, 1) := by decide +kernel
theorem dX2_clearRow_12 : decode cX2_clearRow 12 = .ok (.iinc 1 1, 3) := by decide +kernel
theorem dX2_clearRow_15 : decode cX2_clearRow 15 = .ok (.goto (-13), 3) := by decide +kernel
theorem dX2_clearRow_18 : decode cX2_clearRow 18 = .ok (.return_, 1) := by decide +kernel
theorem dX2_copyFrom_0 : decode cX2_copyFrom 0 = .ok (.aload_n 0, 1) := by decide +kernel
theorem dX2_copyFrom_1 : decode cX2_copyFrom 1 = .ok (.aload_n 1, 1) := by decide +kernel
theorem dX2_copyFrom_2 : decode cX2_copyFrom 2 = .ok (.getfield 43, 3) := by decide +kernel
theorem dX2_copyFrom_5 : decode cX2_copyFrom 5 = .ok (.putfield 43, 3) := by decide +kernel
theorem dX2_copyFrom_8 : decode cX2_copyFrom 8 = .ok (.aload_n 0, 1) := by decide +kernel
theorem dX2_copyFrom_9 : decode cX2_copyFrom 9 = .ok (.aload_n 1, 1) := by decide +kernel
theorem dX2_copyFrom_10 : decode cX2_copyFrom 10 = .ok (.getfield 47, 3) := by decide +kernel
theorem dX2_copyFrom_13 : decode cX2_copyFrom 13 = .ok (.putfield 47, 3) := by decide +kernel
theorem dX2_copyFrom_16 : decode cX2_copyFrom 16 = .ok (.aload_n 0, 1) := by decide +kernel
theorem dX2_copyFrom_17 : decode cX2_copyFrom 17 = .ok (.aload_n 1, 1) := by decide +kernel
theorem dX2_copyFrom_18 : decode cX2_copyFrom 18 = .ok (.getfield 50, 3) := by decide +kernel
theorem dX2_copyFrom_21 : decode cX2_copyFrom 21 = .ok (.putfield 50, 3) := by decide +kernel
theorem dX2_copyFrom_24 : decode cX2_copyFrom 24 = .ok (.aload_n 1, 1) := by decide +kernel
theorem dX2_copyFrom_25 : decode cX2_copyFrom 25 = .ok (.getfield 9, 3) := by decide +kernel
theorem dX2_copyFrom_28 : decode cX2_copyFrom 28 = .ok (.aload_n 0, 1) := by decide +kernel
theorem dX2_copyFrom_29 : decode cX2_copyFrom 29 = .ok (.getfield 9, 3) := by decide +kernel
theorem dX2_copyFrom_32 : decode cX2_copyFrom 32 = .ok (.invokestatic 57, 3) := by decide +kernel
theorem dX2_copyFrom_35 : decode cX2_copyFrom 35 = .ok (.aload_n 1, 1) := by decide +kernel
theorem dX2_copyFrom_36 : decode cX2_copyFrom 36 = .ok (.getfield 15, 3) := by decide +kernel
theorem dX2_copyFrom_39 : decode cX2_copyFrom 39 = .ok (.aload_n 0, 1) := by decide +kernel
theorem dX2_copyFrom_40 : decode cX2_copyFrom 40 = .ok (.getfield 15, 3) := by decide +kernel
theorem dX2_copyFrom_43 : decode cX2_copyFrom 43 = .ok (.invokestatic 57, 3) := by decide +kernel
theorem dX2_copyFrom_46 : decode cX2_copyFrom 46 = .ok (.aload_n 1, 1) := by decide +kernel
theorem dX2_copyFrom_47 : decode cX2_copyFrom 47 = .ok (.getfield 24, 3) := by decide +kernel
theorem dX2_copyFrom_50 : decode cX2_copyFrom 50 = .ok (.aload_n 0, 1) := by decide +kernel
theorem dX2_copyFrom_51 : decode cX2_copyFrom 51 = .ok (.getfield 24, 3) := by decide +kernel
theorem dX2_copyFrom_54 : decode cX2_copyFrom 54 = .ok (.invokestatic 57, 3) := by decide +kernel
theorem dX2_copyFrom_57 : decode cX2_copyFrom 57 = .ok (.aload_n 1, 1) := by decide +kernel
theorem dX2_copyFrom_58 : decode cX2_copyFrom 58 = .ok (.getfield 27, 3) := by decide +kernel
theorem dX2_copyFrom_61 : decode cX2_copyFrom 61 = .ok (.aload_n 0, 1) := by decide +kernel
theorem dX2_copyFrom_62 : decode cX2_copyFrom 62 = .ok (.getfield 27, 3) := by decide +kernel
theorem dX2_copyFrom_65 : decode cX2_copyFrom 65 = .ok (.invokestatic 57, 3) := by decide +kernel
theorem dX2_copyFrom_68 : decode cX2_copyFrom 68 = .ok (.aload_n 1, 1) := by decide +kernel
theorem dX2_copyFrom_69 : decode cX2_copyFrom 69 = .ok (.getfield 30, 3) := by decide +kernel
theorem dX2_copyFrom_72 : decode cX2_copyFrom 72 = .ok (.aload_n 0, 1) := by decide +kernel
theorem dX2_copyFrom_73 : decode cX2_copyFrom 73 = .ok (.getfield 30, 3) := by decide +kernel
theorem dX2_copyFrom_76 : decode cX2_copyFrom 76 = .ok (.invokestatic 57, 3) := by decide +kernel
theorem dX2_copyFrom_79 : decode cX2_copyFrom 79 = .ok (.aload_n 1, 1) := by decide +kernel
theorem dX2_copyFrom_80 : decode cX2_copyFrom 80 = .ok (.getfield 33, 3) := by decide +kernel
theorem dX2_copyFrom_83 : decode cX2_copyFrom 83 = .ok (.aload_n 0, 1) := by decide +kernel
theorem dX2_copyFrom_84 : decode cX2_copyFrom 84 = .ok (.getfield 33, 3) := by decide +kernel
theorem dX2_copyFrom_87 : decode cX2_copyFrom 87 = .ok (.invokestatic 57, 3) := by decide +kernel
theorem dX2_copyFrom_90 : decode cX2_copyFrom 90 = .ok (.aload_n 1, 1) := by decide +kernel
theorem dX2_copyFrom_91 : decode cX2_copyFrom 91 = .ok (.getfield 36, 3) := by decide +kernel
theorem dX2_copyFrom_94 : decode cX2_copyFrom 94 = .ok (.aload_n 0, 1) := by decide +kernel
theorem dX2_copyFrom_95 : decode cX2_copyFrom 95 = .ok (.getfield 36, 3) := by decide +kernel
theorem dX2_copyFrom_98 : decode cX2_copyFrom 98 = .ok (.invokestatic 57, 3) := by decide +kernel
theorem dX2_copyFrom_101 : decode cX2_copyFrom 101 = .ok (.aload_n 1, 1) := by decide +kernel
theorem dX2_copyFrom_102 : decode cX2_copyFrom 102 = .ok (.getfield 39, 3) := by decide +kernel
theorem dX2_copyFrom_105 : decode cX2_copyFrom 105 = .ok (.aload_n 0, 1) := by decide +kernel
theorem dX2_copyFrom_106 : decode cX2_copyFrom 106 = .ok (.getfield 39, 3) := by decide +kernel
theorem dX2_copyFrom_109 : decode cX2_copyFrom 109 = .ok (.invokestatic 57, 3) := by decide +kernel
theorem dX2_copyFrom_112 : decode cX2_copyFrom 112 = .ok (.iconst 0, 1) := by decide +kernel
theorem dX2_copyFrom_113 : decode cX2_copyFrom 113 = .ok (.istore_n 2, 1) := by decide +kernel
theorem dX2_copyFrom_114 : decode cX2_copyFrom 114 = .ok (.iload_n 2, 1) := by decide +kernel
theorem dX2_copyFrom_115 : decode cX2_copyFrom 115 = .ok (.aload_n 0, 1) := by decide +kernel
theorem dX2_copyFrom_116 : decode cX2_copyFrom 116 = .ok (.getfield 47, 3) := by decide +kernel
theorem dX2_copyFrom_119 : decode cX2_copyFrom 119 = .ok (.if_icmp .ge 30, 3) := by decide +kernel
theorem dX2_copyFrom_122 : decode cX2_copyFrom 122 = .ok (.iload_n 2, 1) := by decide +kernel
theorem dX2_copyFrom_123 : decode cX2_copyFrom 123 = .ok (.bipush 8, 2) := by decide +kernel
theorem dX2_copyFrom_125 : decode cX2_copyFrom 125 = .ok (.if_icmp .ge 24, 3) := by decide +kernel
theorem dX2_copyFrom_128 : decode cX2_copyFrom 128 = .ok (.aload_n 0, 1) := by decide +kernel
theorem dX2_copyFrom_129 : decode cX2_copyFrom 129 = .ok (.getfield 20, 3) := by decide +kernel
theorem dX2_copyFrom_132 : decode cX2_copyFrom 132 = .ok (.iload_n 2, 1) := by decide +kernel
theorem dX2_copyFrom_133 : decode cX2_copyFrom 133 = .ok (.aaload, 1) := by decide +kernel
theorem dX2_copyFrom_134 : decode cX2_copyFrom 134 = .ok (.aload_n 1, 1) := by decide +kernel
theorem dX2_copyFrom_135 : decode cX2_copyFrom 135 = .ok (.getfield 20, 3) := by decide +kernel
theorem dX2_copyFrom_138 : decode cX2_copyFrom 138 = .ok (.iload_n 2, 1) := by decide +kernel
theorem dX2_copyFrom_139 : decode cX2_copyFrom 139 = .ok (.aaload, 1) := by decide +kernel
theorem dX2_copyFrom_140 : decode cX2_copyFrom 140 = .ok (.invokevirtual 61, 3) := by decide +kernel
theorem dX2_copyFrom_143 : decode cX2_copyFrom 143 = .ok (.iinc 2 1, 3) := by decide +kernel
theorem dX2_copyFrom_146 : decode cX2_copyFrom 146 = .ok (.goto (-32), 3) := by decide +kernel
theorem dX2_copyFrom_149 : decode cX2_copyFrom 149 = .ok (.return_, 1) := by decide +kernel
theorem dX2_sumOf_0 : decode cX2_sumOf 0 = .ok (.aload_n 0, 1) := by decide +kernel
theorem dX2_sumOf_1 : decode cX2_sumOf 1 = .ok (.getfield 24, 3) := by decide +kernel
theorem dX2_sumOf_4 : decode cX2_sumOf 4 = .ok (.iload_n 1, 1) := by decide +kernel
theorem dX2_sumOf_5 : decode cX2_sumOf 5 = .ok (.bipush 64, 2) := by decide +kernel
theorem dX2_sumOf_7 : decode cX2_sumOf 7 = .ok (.imul, 1) := by decide +kernel
theorem dX2_sumOf_8 : decode cX2_sumOf 8 = .ok (.iload_n 2, 1) := by decide +kernel
theorem dX2_sumOf_9 : decode cX2_sumOf 9 = .ok (.iadd, 1) := by decide +kernel
theorem dX2_sumOf_10 : decode cX2_sumOf 10 = .ok (.iconst 5, 1) := by decide +kernel
theorem dX2_sumOf_11 : decode cX2_sumOf 11 = .ok (.imul, 1) := by decide +kernel
theorem dX2_sumOf_12 : decode cX2_sumOf 12 = .ok (.iload_n 3, 1) := by decide +kernel
theorem dX2_sumOf_13 : decode cX2_sumOf 13 = .ok (.iadd, 1) := by decide +kernel
theorem dX2_sumOf_14 : decode cX2_sumOf 14 = .ok (.iaload, 1) := by decide +kernel
theorem dX2_sumOf_15 : decode cX2_sumOf 15 = .ok (.ireturn, 1) := by decide +kernel
theorem dX2_addToSum_0 : decode cX2_addToSum 0 = .ok (.iload_n 1, 1) := by decide +kernel
theorem dX2_addToSum_1 : decode cX2_addToSum 1 = .ok (.bipush 64, 2) := by decide +kernel
theorem dX2_addToSum_3 : decode cX2_addToSum 3 = .ok (.imul, 1) := by decide +kernel
theorem dX2_addToSum_4 : decode cX2_addToSum 4 = .ok (.iload_n 2, 1) := by decide +kernel
theorem dX2_addToSum_5 : decode cX2_addToSum 5 = .ok (.iadd, 1) := by decide +kernel
theorem dX2_addToSum_6 : decode cX2_addToSum 6 = .ok (.iconst 5, 1) := by decide +kernel
theorem dX2_addToSum_7 : decode cX2_addToSum 7 = .ok (.imul, 1) := by decide +kernel
theorem dX2_addToSum_8 : decode cX2_addToSum 8 = .ok (.iload_n 3, 1) := by decide +kernel
theorem dX2_addToSum_9 : decode cX2_addToSum 9 = .ok (.iadd, 1) := by decide +kernel
theorem dX2_addToSum_10 : decode cX2_addToSum 10 = .ok (.istore 5, 2) := by decide +kernel
theorem dX2_addToSum_12 : decode cX2_addToSum 12 = .ok (.aload_n 0, 1) := by decide +kernel
theorem dX2_addToSum_13 : decode cX2_addToSum 13 = .ok (.getfield 24, 3) := by decide +kernel
theorem dX2_addToSum_16 : decode cX2_addToSum 16 = .ok (.iload 5, 2) := by decide +kernel
theorem dX2_addToSum_18 : decode cX2_addToSum 18 = .ok (.dup2, 1) := by decide +kernel
theorem dX2_addToSum_19 : decode cX2_addToSum 19 = .ok (.iaload, 1) := by decide +kernel
theorem dX2_addToSum_20 : decode cX2_addToSum 20 = .ok (.iload 4, 2) := by decide +kernel
theorem dX2_addToSum_22 : decode cX2_addToSum 22 = .ok (.iadd, 1) := by decide +kernel
theorem dX2_addToSum_23 : decode cX2_addToSum 23 = .ok (.iastore, 1) := by decide +kernel
theorem dX2_addToSum_24 : decode cX2_addToSum 24 = .ok (.aload_n 0, 1) := by decide +kernel
theorem dX2_addToSum_25 : decode cX2_addToSum 25 = .ok (.getfield 24, 3) := by decide +kernel
theorem dX2_addToSum_28 : decode cX2_addToSum 28 = .ok (.iload 5, 2) := by decide +kernel
theorem dX2_addToSum_30 : decode cX2_addToSum 30 = .ok (.iaload, 1) := by decide +kernel
theorem dX2_addToSum_31 : decode cX2_addToSum 31 = .ok (.ireturn, 1) := by decide +kernel
theorem dX2_recoveredIn_0 : decode cX2_recoveredIn 0 = .ok (.aload_n 0, 1) := by decide +kernel
theorem dX2_recoveredIn_1 : decode cX2_recoveredIn 1 = .ok (.getfield 33, 3) := by decide +kernel
theorem dX2_recoveredIn_4 : decode cX2_recoveredIn 4 = .ok (.iload_n 1, 1) := by decide +kernel
theorem dX2_recoveredIn_5 : decode cX2_recoveredIn 5 = .ok (.bipush 64, 2) := by decide +kernel
theorem dX2_recoveredIn_7 : decode cX2_recoveredIn 7 = .ok (.imul, 1) := by decide +kernel
theorem dX2_recoveredIn_8 : decode cX2_recoveredIn 8 = .ok (.iload_n 2, 1) := by decide +kernel
theorem dX2_recoveredIn_9 : decode cX2_recoveredIn 9 = .ok (.iadd, 1) := by decide +kernel
theorem dX2_recoveredIn_10 : decode cX2_recoveredIn 10 = .ok (.iaload, 1) := by decide +kernel
theorem dX2_recoveredIn_11 : decode cX2_recoveredIn 11 = .ok (.ireturn, 1) := by decide +kernel
theorem dX2_recoveredInYear_0 : decode cX2_recoveredInYear 0 = .ok (.iconst 0, 1) := by decide +kernel
theorem dX2_recoveredInYear_1 : decode cX2_recoveredInYear 1 = .ok (.istore_n 3, 1) := by decide +kernel
theorem dX2_recoveredInYear_2 : decode cX2_recoveredInYear 2 = .ok (.iconst 0, 1) := by decide +kernel
theorem dX2_recoveredInYear_3 : decode cX2_recoveredInYear 3 = .ok (.istore 4, 2) := by decide +kernel
theorem dX2_recoveredInYear_5 : decode cX2_recoveredInYear 5 = .ok (.iload 4, 2) := by decide +kernel
theorem dX2_recoveredInYear_7 : decode cX2_recoveredInYear 7 = .ok (.iconst 4, 1) := by decide +kernel
theorem dX2_recoveredInYear_8 : decode cX2_recoveredInYear 8 = .ok (.if_icmp .ge 28, 3) := by decide +kernel
theorem dX2_recoveredInYear_11 : decode cX2_recoveredInYear 11 = .ok (.iload_n 3, 1) := by decide +kernel
theorem dX2_recoveredInYear_12 : decode cX2_recoveredInYear 12 = .ok (.aload_n 0, 1) := by decide +kernel
theorem dX2_recoveredInYear_13 : decode cX2_recoveredInYear 13 = .ok (.getfield 33, 3) := by decide +kernel
theorem dX2_recoveredInYear_16 : decode cX2_recoveredInYear 16 = .ok (.iload_n 1, 1) := by decide +kernel
theorem dX2_recoveredInYear_17 : decode cX2_recoveredInYear 17 = .ok (.bipush 64, 2) := by decide +kernel
theorem dX2_recoveredInYear_19 : decode cX2_recoveredInYear 19 = .ok (.imul, 1) := by decide +kernel
theorem dX2_recoveredInYear_20 : decode cX2_recoveredInYear 20 = .ok (.iload_n 2, 1) := by decide +kernel
theorem dX2_recoveredInYear_21 : decode cX2_recoveredInYear 21 = .ok (.iconst 4, 1) := by decide +kernel
theorem dX2_recoveredInYear_22 : decode cX2_recoveredInYear 22 = .ok (.imul, 1) := by decide +kernel
theorem dX2_recoveredInYear_23 : decode cX2_recoveredInYear 23 = .ok (.iadd, 1) := by decide +kernel
theorem dX2_recoveredInYear_24 : decode cX2_recoveredInYear 24 = .ok (.iload 4, 2) := by decide +kernel
theorem dX2_recoveredInYear_26 : decode cX2_recoveredInYear 26 = .ok (.iadd, 1) := by decide +kernel
theorem dX2_recoveredInYear_27 : decode cX2_recoveredInYear 27 = .ok (.iaload, 1) := by decide +kernel
theorem dX2_recoveredInYear_28 : decode cX2_recoveredInYear 28 = .ok (.iadd, 1) := by decide +kernel
theorem dX2_recoveredInYear_29 : decode cX2_recoveredInYear 29 = .ok (.istore_n 3, 1) := by decide +kernel
theorem dX2_recoveredInYear_30 : decode cX2_recoveredInYear 30 = .ok (.iinc 4 1, 3) := by decide +kernel
theorem dX2_recoveredInYear_33 : decode cX2_recoveredInYear 33 = .ok (.goto (-28), 3) := by decide +kernel
theorem dX2_recoveredInYear_36 : decode cX2_recoveredInYear 36 = .ok (.iload_n 3, 1) := by decide +kernel
theorem dX2_recoveredInYear_37 : decode cX2_recoveredInYear 37 = .ok (.ireturn, 1) := by decide +kernel
theorem dX2_keptProvisional_0 : decode cX2_keptProvisional 0 = .ok (.aload_n 0, 1) := by decide +kernel
theorem dX2_keptProvisional_1 : decode cX2_keptProvisional 1 = .ok (.getfield 27, 3) := by decide +kernel
theorem dX2_keptProvisional_4 : decode cX2_keptProvisional 4 = .ok (.iload_n 1, 1) := by decide +kernel
theorem dX2_keptProvisional_5 : decode cX2_keptProvisional 5 = .ok (.bipush 64, 2) := by decide +kernel
theorem dX2_keptProvisional_7 : decode cX2_keptProvisional 7 = .ok (.imul, 1) := by decide +kernel
theorem dX2_keptProvisional_8 : decode cX2_keptProvisional 8 = .ok (.iload_n 2, 1) := by decide +kernel
theorem dX2_keptProvisional_9 : decode cX2_keptProvisional 9 = .ok (.iadd, 1) := by decide +kernel
theorem dX2_keptProvisional_10 : decode cX2_keptProvisional 10 = .ok (.iaload, 1) := by decide +kernel
theorem dX2_keptProvisional_11 : decode cX2_keptProvisional 11 = .ok (.ireturn, 1) := by decide +kernel
theorem dX2_keepProvisional_0 : decode cX2_keepProvisional 0 = .ok (.aload_n 0, 1) := by decide +kernel
theorem dX2_keepProvisional_1 : decode cX2_keepProvisional 1 = .ok (.getfield 27, 3) := by decide +kernel
theorem dX2_keepProvisional_4 : decode cX2_keepProvisional 4 = .ok (.iload_n 1, 1) := by decide +kernel
theorem dX2_keepProvisional_5 : decode cX2_keepProvisional 5 = .ok (.bipush 64, 2) := by decide +kernel
theorem dX2_keepProvisional_7 : decode cX2_keepProvisional 7 = .ok (.imul, 1) := by decide +kernel
theorem dX2_keepProvisional_8 : decode cX2_keepProvisional 8 = .ok (.aload_n 0, 1) := by decide +kernel
theorem dX2_keepProvisional_9 : decode cX2_keepProvisional 9 = .ok (.getfield 43, 3) := by decide +kernel
theorem dX2_keepProvisional_12 : decode cX2_keepProvisional 12 = .ok (.iadd, 1) := by decide +kernel
theorem dX2_keepProvisional_13 : decode cX2_keepProvisional 13 = .ok (.iload_n 2, 1) := by decide +kernel
theorem dX2_keepProvisional_14 : decode cX2_keepProvisional 14 = .ok (.iastore, 1) := by decide +kernel
theorem dX2_keepProvisional_15 : decode cX2_keepProvisional 15 = .ok (.aload_n 0, 1) := by decide +kernel
theorem dX2_keepProvisional_16 : decode cX2_keepProvisional 16 = .ok (.getfield 33, 3) := by decide +kernel
theorem dX2_keepProvisional_19 : decode cX2_keepProvisional 19 = .ok (.iload_n 1, 1) := by decide +kernel
theorem dX2_keepProvisional_20 : decode cX2_keepProvisional 20 = .ok (.bipush 64, 2) := by decide +kernel
theorem dX2_keepProvisional_22 : decode cX2_keepProvisional 22 = .ok (.imul, 1) := by decide +kernel
theorem dX2_keepProvisional_23 : decode cX2_keepProvisional 23 = .ok (.aload_n 0, 1) := by decide +kernel
theorem dX2_keepProvisional_24 : decode cX2_keepProvisional 24 = .ok (.getfield 43, 3) := by decide +kernel
theorem dX2_keepProvisional_27 : decode cX2_keepProvisional 27 = .ok (.iadd, 1) := by decide +kernel
theorem dX2_keepProvisional_28 : decode cX2_keepProvisional 28 = .ok (.iload_n 3, 1) := by decide +kernel
theorem dX2_keepProvisional_29 : decode cX2_keepProvisional 29 = .ok (.iastore, 1) := by decide +kernel
theorem dX2_keepProvisional_30 : decode cX2_keepProvisional 30 = .ok (.return_, 1) := by decide +kernel
theorem dX2_keptAnnual_0 : decode cX2_keptAnnual 0 = .ok (.aload_n 0, 1) := by decide +kernel
theorem dX2_keptAnnual_1 : decode cX2_keptAnnual 1 = .ok (.getfield 30, 3) := by decide +kernel
theorem dX2_keptAnnual_4 : decode cX2_keptAnnual 4 = .ok (.iload_n 1, 1) := by decide +kernel
theorem dX2_keptAnnual_5 : decode cX2_keptAnnual 5 = .ok (.bipush 16, 2) := by decide +kernel
theorem dX2_keptAnnual_7 : decode cX2_keptAnnual 7 = .ok (.imul, 1) := by decide +kernel
theorem dX2_keptAnnual_8 : decode cX2_keptAnnual 8 = .ok (.iload_n 2, 1) := by decide +kernel
theorem dX2_keptAnnual_9 : decode cX2_keptAnnual 9 = .ok (.iadd, 1) := by decide +kernel
theorem dX2_keptAnnual_10 : decode cX2_keptAnnual 10 = .ok (.iaload, 1) := by decide +kernel
theorem dX2_keptAnnual_11 : decode cX2_keptAnnual 11 = .ok (.ireturn, 1) := by decide +kernel
theorem dX2_keepAnnual_0 : decode cX2_keepAnnual 0 = .ok (.aload_n 0, 1) := by decide +kernel
theorem dX2_keepAnnual_1 : decode cX2_keepAnnual 1 = .ok (.getfield 30, 3) := by decide +kernel
theorem dX2_keepAnnual_4 : decode cX2_keepAnnual 4 = .ok (.iload_n 1, 1) := by decide +kernel
theorem dX2_keepAnnual_5 : decode cX2_keepAnnual 5 = .ok (.bipush 16, 2) := by decide +kernel
theorem dX2_keepAnnual_7 : decode cX2_keepAnnual 7 = .ok (.imul, 1) := by decide +kernel
theorem dX2_keepAnnual_8 : decode cX2_keepAnnual 8 = .ok (.iload_n 2, 1) := by decide +kernel
theorem dX2_keepAnnual_9 : decode cX2_keepAnnual 9 = .ok (.iadd, 1) := by decide +kernel
theorem dX2_keepAnnual_10 : decode cX2_keepAnnual 10 = .ok (.iload_n 3, 1) := by decide +kernel
theorem dX2_keepAnnual_11 : decode cX2_keepAnnual 11 = .ok (.iastore, 1) := by decide +kernel
theorem dX2_keepAnnual_12 : decode cX2_keepAnnual 12 = .ok (.return_, 1) := by decide +kernel
theorem dX2_totalOf_0 : decode cX2_totalOf 0 = .ok (.aload_n 0, 1) := by decide +kernel
theorem dX2_totalOf_1 : decode cX2_totalOf 1 = .ok (.getfield 36, 3) := by decide +kernel
theorem dX2_totalOf_4 : decode cX2_totalOf 4 = .ok (.iload_n 1, 1) := by decide +kernel
theorem dX2_totalOf_5 : decode cX2_totalOf 5 = .ok (.iconst 4, 1) := by decide +kernel
theorem dX2_totalOf_6 : decode cX2_totalOf 6 = .ok (.imul, 1) := by decide +kernel
theorem dX2_totalOf_7 : decode cX2_totalOf 7 = .ok (.iload_n 2, 1) := by decide +kernel
theorem dX2_totalOf_8 : decode cX2_totalOf 8 = .ok (.iadd, 1) := by decide +kernel
theorem dX2_totalOf_9 : decode cX2_totalOf 9 = .ok (.iaload, 1) := by decide +kernel
theorem dX2_totalOf_10 : decode cX2_totalOf 10 = .ok (.ireturn, 1) := by decide +kernel
theorem dX2_enter_0 : decode cX2_enter 0 = .ok (.aload_n 0, 1) := by decide +kernel
theorem dX2_enter_1 : decode cX2_enter 1 = .ok (.getfield 50, 3) := by decide +kernel
theorem dX2_enter_4 : decode cX2_enter 4 = .ok (.bipush 40, 2) := by decide +kernel
theorem dX2_enter_6 : decode cX2_enter 6 = .ok (.irem, 1) := by decide +kernel
theorem dX2_enter_7 : decode cX2_enter 7 = .ok (.iconst 5, 1) := by decide +kernel
theorem dX2_enter_8 : decode cX2_enter 8 = .ok (.imul, 1) := by decide +kernel
theorem dX2_enter_9 : decode cX2_enter 9 = .ok (.istore 5, 2) := by decide +kernel
theorem dX2_enter_11 : decode cX2_enter 11 = .ok (.aload_n 0, 1) := by decide +kernel
theorem dX2_enter_12 : decode cX2_enter 12 = .ok (.getfield 39, 3) := by decide +kernel
theorem dX2_enter_15 : decode cX2_enter 15 = .ok (.iload 5, 2) := by decide +kernel
theorem dX2_enter_17 : decode cX2_enter 17 = .ok (.aload_n 0, 1) := by decide +kernel
theorem dX2_enter_18 : decode cX2_enter 18 = .ok (.getfield 43, 3) := by decide +kernel
theorem dX2_enter_21 : decode cX2_enter 21 = .ok (.iastore, 1) := by decide +kernel
theorem dX2_enter_22 : decode cX2_enter 22 = .ok (.aload_n 0, 1) := by decide +kernel
theorem dX2_enter_23 : decode cX2_enter 23 = .ok (.getfield 39, 3) := by decide +kernel
theorem dX2_enter_26 : decode cX2_enter 26 = .ok (.iload 5, 2) := by decide +kernel
theorem dX2_enter_28 : decode cX2_enter 28 = .ok (.iconst 1, 1) := by decide +kernel
theorem dX2_enter_29 : decode cX2_enter 29 = .ok (.iadd, 1) := by decide +kernel
theorem dX2_enter_30 : decode cX2_enter 30 = .ok (.iload_n 1, 1) := by decide +kernel
theorem dX2_enter_31 : decode cX2_enter 31 = .ok (.iastore, 1) := by decide +kernel
theorem dX2_enter_32 : decode cX2_enter 32 = .ok (.aload_n 0, 1) := by decide +kernel
theorem dX2_enter_33 : decode cX2_enter 33 = .ok (.getfield 39, 3) := by decide +kernel
theorem dX2_enter_36 : decode cX2_enter 36 = .ok (.iload 5, 2) := by decide +kernel
theorem dX2_enter_38 : decode cX2_enter 38 = .ok (.iconst 2, 1) := by decide +kernel
theorem dX2_enter_39 : decode cX2_enter 39 = .ok (.iadd, 1) := by decide +kernel
theorem dX2_enter_40 : decode cX2_enter 40 = .ok (.iload_n 2, 1) := by decide +kernel
theorem dX2_enter_41 : decode cX2_enter 41 = .ok (.iastore, 1) := by decide +kernel
theorem dX2_enter_42 : decode cX2_enter 42 = .ok (.aload_n 0, 1) := by decide +kernel
theorem dX2_enter_43 : decode cX2_enter 43 = .ok (.getfield 39, 3) := by decide +kernel
theorem dX2_enter_46 : decode cX2_enter 46 = .ok (.iload 5, 2) := by decide +kernel
theorem dX2_enter_48 : decode cX2_enter 48 = .ok (.iconst 3, 1) := by decide +kernel
theorem dX2_enter_49 : decode cX2_enter 49 = .ok (.iadd, 1) := by decide +kernel
theorem dX2_enter_50 : decode cX2_enter 50 = .ok (.iload_n 3, 1) := by decide +kernel
theorem dX2_enter_51 : decode cX2_enter 51 = .ok (.iastore, 1) := by decide +kernel
theorem dX2_enter_52 : decode cX2_enter 52 = .ok (.aload_n 0, 1) := by decide +kernel
theorem dX2_enter_53 : decode cX2_enter 53 = .ok (.getfield 39, 3) := by decide +kernel
theorem dX2_enter_56 : decode cX2_enter 56 = .ok (.iload 5, 2) := by decide +kernel
theorem dX2_enter_58 : decode cX2_enter 58 = .ok (.iconst 4, 1) := by decide +kernel
theorem dX2_enter_59 : decode cX2_enter 59 = .ok (.iadd, 1) := by decide +kernel
theorem dX2_enter_60 : decode cX2_enter 60 = .ok (.iload 4, 2) := by decide +kernel
theorem dX2_enter_62 : decode cX2_enter 62 = .ok (.iastore, 1) := by decide +kernel
theorem dX2_enter_63 : decode cX2_enter 63 = .ok (.aload_n 0, 1) := by decide +kernel
theorem dX2_enter_64 : decode cX2_enter 64 = .ok (.dup, 1) := by decide +kernel
theorem dX2_enter_65 : decode cX2_enter 65 = .ok (.getfield 50, 3) := by decide +kernel
theorem dX2_enter_68 : decode cX2_enter 68 = .ok (.iconst 1, 1) := by decide +kernel
theorem dX2_enter_69 : decode cX2_enter 69 = .ok (.iadd, 1) := by decide +kernel
theorem dX2_enter_70 : decode cX2_enter 70 = .ok (.putfield 50, 3) := by decide +kernel
theorem dX2_enter_73 : decode cX2_enter 73 = .ok (.aload_n 0, 1) := by decide +kernel
theorem dX2_enter_74 : decode cX2_enter 74 = .ok (.getfield 36, 3) := by decide +kernel
theorem dX2_enter_77 : decode cX2_enter 77 = .ok (.iload_n 1, 1) := by decide +kernel
theorem dX2_enter_78 : decode cX2_enter 78 = .ok (.iconst 4, 1) := by decide +kernel
theorem dX2_enter_79 : decode cX2_enter 79 = .ok (.imul, 1) := by decide +kernel
theorem dX2_enter_80 : decode cX2_enter 80 = .ok (.iload_n 2, 1) := by decide +kernel
theorem dX2_enter_81 : decode cX2_enter 81 = .ok (.iadd, 1) := by decide +kernel
theorem dX2_enter_82 : decode cX2_enter 82 = .ok (.dup2, 1) := by decide +kernel
theorem dX2_enter_83 : decode cX2_enter 83 = .ok (.iaload, 1) := by decide +kernel
theorem dX2_enter_84 : decode cX2_enter 84 = .ok (.iload_n 3, 1) := by decide +kernel
theorem dX2_enter_85 : decode cX2_enter 85 = .ok (.iadd, 1) := by decide +kernel
theorem dX2_enter_86 : decode cX2_enter 86 = .ok (.iastore, 1) := by decide +kernel
theorem dX2_enter_87 : decode cX2_enter 87 = .ok (.return_, 1) := by decide +kernel
theorem dX2_entryPart_0 : decode cX2_entryPart 0 = .ok (.aload_n 0, 1) := by decide +kernel
theorem dX2_entryPart_1 : decode cX2_entryPart 1 = .ok (.getfield 39, 3) := by decide +kernel
theorem dX2_entryPart_4 : decode cX2_entryPart 4 = .ok (.aload_n 0, 1) := by decide +kernel
theorem dX2_entryPart_5 : decode cX2_entryPart 5 = .ok (.getfield 50, 3) := by decide +kernel
theorem dX2_entryPart_8 : decode cX2_entryPart 8 = .ok (.iconst 1, 1) := by decide +kernel
theorem dX2_entryPart_9 : decode cX2_entryPart 9 = .ok (.isub, 1) := by decide +kernel
theorem dX2_entryPart_10 : decode cX2_entryPart 10 = .ok (.iload_n 1, 1) := by decide +kernel
theorem dX2_entryPart_11 : decode cX2_entryPart 11 = .ok (.isub, 1) := by decide +kernel
theorem dX2_entryPart_12 : decode cX2_entryPart 12 = .ok (.bipush 40, 2) := by decide +kernel
theorem dX2_entryPart_14 : decode cX2_entryPart 14 = .ok (.irem, 1) := by decide +kernel
theorem dX2_entryPart_15 : decode cX2_entryPart 15 = .ok (.iconst 5, 1) := by decide +kernel
theorem dX2_entryPart_16 : decode cX2_entryPart 16 = .ok (.imul, 1) := by decide +kernel
theorem dX2_entryPart_17 : decode cX2_entryPart 17 = .ok (.iload_n 2, 1) := by decide +kernel
theorem dX2_entryPart_18 : decode cX2_entryPart 18 = .ok (.iadd, 1) := by decide +kernel
theorem dX2_entryPart_19 : decode cX2_entryPart 19 = .ok (.iaload, 1) := by decide +kernel
theorem dX2_entryPart_20 : decode cX2_entryPart 20 = .ok (.ireturn, 1) := by decide +kernel
theorem dX2_addAsset_0 : decode cX2_addAsset 0 = .ok (.aload_n 0, 1) := by decide +kernel
theorem dX2_addAsset_1 : decode cX2_addAsset 1 = .ok (.getfield 47, 3) := by decide +kernel
theorem dX2_addAsset_4 : decode cX2_addAsset 4 = .ok (.bipush 8, 2) := by decide +kernel
theorem dX2_addAsset_6 : decode cX2_addAsset 6 = .ok (.if_icmp .lt 6, 3) := by decide +kernel
theorem dX2_addAsset_9 : decode cX2_addAsset 9 = .ok (.bipush (-2), 2) := by decide +kernel
theorem dX2_addAsset_11 : decode cX2_addAsset 11 = .ok (.ireturn, 1) := by decide +kernel
theorem dX2_addAsset_12 : decode cX2_addAsset 12 = .ok (.aload_n 0, 1) := by decide +kernel
theorem dX2_addAsset_13 : decode cX2_addAsset 13 = .ok (.getfield 20, 3) := by decide +kernel
theorem dX2_addAsset_16 : decode cX2_addAsset 16 = .ok (.aload_n 0, 1) := by decide +kernel
theorem dX2_addAsset_17 : decode cX2_addAsset 17 = .ok (.getfield 47, 3) := by decide +kernel
theorem dX2_addAsset_20 : decode cX2_addAsset 20 = .ok (.aaload, 1) := by decide +kernel
theorem dX2_addAsset_21 : decode cX2_addAsset 21 = .ok (.iload_n 1, 1) := by decide +kernel
theorem dX2_addAsset_22 : decode cX2_addAsset 22 = .ok (.iload_n 2, 1) := by decide +kernel
theorem dX2_addAsset_23 : decode cX2_addAsset 23 = .ok (.iload_n 3, 1) := by decide +kernel
theorem dX2_addAsset_24 : decode cX2_addAsset 24 = .ok (.iload 4, 2) := by decide +kernel
theorem dX2_addAsset_26 : decode cX2_addAsset 26 = .ok (.aload_n 0, 1) := by decide +kernel
theorem dX2_addAsset_27 : decode cX2_addAsset 27 = .ok (.getfield 43, 3) := by decide +kernel
theorem dX2_addAsset_30 : decode cX2_addAsset 30 = .ok (.invokevirtual 65, 3) := by decide +kernel
theorem dX2_addAsset_33 : decode cX2_addAsset 33 = .ok (.aload_n 0, 1) := by decide +kernel
theorem dX2_addAsset_34 : decode cX2_addAsset 34 = .ok (.iload_n 1, 1) := by decide +kernel
theorem dX2_addAsset_35 : decode cX2_addAsset 35 = .ok (.aload_n 0, 1) := by decide +kernel
theorem dX2_addAsset_36 : decode cX2_addAsset 36 = .ok (.getfield 43, 3) := by decide +kernel
theorem dX2_addAsset_39 : decode cX2_addAsset 39 = .ok (.iconst 2, 1) := by decide +kernel
theorem dX2_addAsset_40 : decode cX2_addAsset 40 = .ok (.iload_n 2, 1) := by decide +kernel
theorem dX2_addAsset_41 : decode cX2_addAsset 41 = .ok (.iadd, 1) := by decide +kernel
theorem dX2_addAsset_42 : decode cX2_addAsset 42 = .ok (.iload_n 3, 1) := by decide +kernel
theorem dX2_addAsset_43 : decode cX2_addAsset 43 = .ok (.invokevirtual 69, 3) := by decide +kernel
theorem dX2_addAsset_46 : decode cX2_addAsset 46 = .ok (.pop, 1) := by decide +kernel
theorem dX2_addAsset_47 : decode cX2_addAsset 47 = .ok (.aload_n 0, 1) := by decide +kernel
theorem dX2_addAsset_48 : decode cX2_addAsset 48 = .ok (.dup, 1) := by decide +kernel
theorem dX2_addAsset_49 : decode cX2_addAsset 49 = .ok (.getfield 47, 3) := by decide +kernel
theorem dX2_addAsset_52 : decode cX2_addAsset 52 = .ok (.iconst 1, 1) := by decide +kernel
theorem dX2_addAsset_53 : decode cX2_addAsset 53 = .ok (.iadd, 1) := by decide +kernel
theorem dX2_addAsset_54 : decode cX2_addAsset 54 = .ok (.putfield 47, 3) := by decide +kernel
theorem dX2_addAsset_57 : decode cX2_addAsset 57 = .ok (.aload_n 0, 1) := by decide +kernel
theorem dX2_addAsset_58 : decode cX2_addAsset 58 = .ok (.getfield 47, 3) := by decide +kernel
theorem dX2_addAsset_61 : decode cX2_addAsset 61 = .ok (.iconst 1, 1) := by decide +kernel
theorem dX2_addAsset_62 : decode cX2_addAsset 62 = .ok (.isub, 1) := by decide +kernel
theorem dX2_addAsset_63 : decode cX2_addAsset 63 = .ok (.ireturn, 1) := by decide +kernel
theorem dX2_openAssetsOf_0 : decode cX2_openAssetsOf 0 = .ok (.iconst 0, 1) := by decide +kernel
theorem dX2_openAssetsOf_1 : decode cX2_openAssetsOf 1 = .ok (.istore_n 2, 1) := by decide +kernel
theorem dX2_openAssetsOf_2 : decode cX2_openAssetsOf 2 = .ok (.iconst 0, 1) := by decide +kernel
theorem dX2_openAssetsOf_3 : decode cX2_openAssetsOf 3 = .ok (.istore_n 3, 1) := by decide +kernel
theorem dX2_openAssetsOf_4 : decode cX2_openAssetsOf 4 = .ok (.iload_n 3, 1) := by decide +kernel
theorem dX2_openAssetsOf_5 : decode cX2_openAssetsOf 5 = .ok (.aload_n 0, 1) := by decide +kernel
theorem dX2_openAssetsOf_6 : decode cX2_openAssetsOf 6 = .ok (.getfield 47, 3) := by decide +kernel
theorem dX2_openAssetsOf_9 : decode cX2_openAssetsOf 9 = .ok (.if_icmp .ge 46, 3) := by decide +kernel
theorem dX2_openAssetsOf_12 : decode cX2_openAssetsOf 12 = .ok (.iload_n 3, 1) := by decide +kernel
theorem dX2_openAssetsOf_13 : decode cX2_openAssetsOf 13 = .ok (.bipush 8, 2) := by decide +kernel
theorem dX2_openAssetsOf_15 : decode cX2_openAssetsOf 15 = .ok (.if_icmp .ge 40, 3) := by decide +kernel
theorem dX2_openAssetsOf_18 : decode cX2_openAssetsOf 18 = .ok (.aload_n 0, 1) := by decide +kernel
theorem dX2_openAssetsOf_19 : decode cX2_openAssetsOf 19 = .ok (.getfield 20, 3) := by decide +kernel
theorem dX2_openAssetsOf_22 : decode cX2_openAssetsOf 22 = .ok (.iload_n 3, 1) := by decide +kernel
theorem dX2_openAssetsOf_23 : decode cX2_openAssetsOf 23 = .ok (.aaload, 1) := by decide +kernel
theorem dX2_openAssetsOf_24 : decode cX2_openAssetsOf 24 = .ok (.getfield 73, 3) := by decide +kernel
theorem dX2_openAssetsOf_27 : decode cX2_openAssetsOf 27 = .ok (.ifCond .ne 22, 3) := by decide +kernel
theorem dX2_openAssetsOf_30 : decode cX2_openAssetsOf 30 = .ok (.aload_n 0, 1) := by decide +kernel
theorem dX2_openAssetsOf_31 : decode cX2_openAssetsOf 31 = .ok (.getfield 20, 3) := by decide +kernel
theorem dX2_openAssetsOf_34 : decode cX2_openAssetsOf 34 = .ok (.iload_n 3, 1) := by decide +kernel
theorem dX2_openAssetsOf_35 : decode cX2_openAssetsOf 35 = .ok (.aaload, 1) := by decide +kernel
theorem dX2_openAssetsOf_36 : decode cX2_openAssetsOf 36 = .ok (.getfield 77, 3) := by decide +kernel
theorem dX2_openAssetsOf_39 : decode cX2_openAssetsOf 39 = .ok (.iload_n 1, 1) := by decide +kernel
theorem dX2_openAssetsOf_40 : decode cX2_openAssetsOf 40 = .ok (.if_icmp .ne 9, 3) := by decide +kernel
theorem dX2_openAssetsOf_43 : decode cX2_openAssetsOf 43 = .ok (.iload_n 2, 1) := by decide +kernel
theorem dX2_openAssetsOf_44 : decode cX2_openAssetsOf 44 = .ok (.iconst 1, 1) := by decide +kernel
theorem dX2_openAssetsOf_45 : decode cX2_openAssetsOf 45 = .ok (.iload_n 3, 1) := by decide +kernel
theorem dX2_openAssetsOf_46 : decode cX2_openAssetsOf 46 = .ok (.ishl, 1) := by decide +kernel
theorem dX2_openAssetsOf_47 : decode cX2_openAssetsOf 47 = .ok (.ior, 1) := by decide +kernel
theorem dX2_openAssetsOf_48 : decode cX2_openAssetsOf 48 = .ok (.istore_n 2, 1) := by decide +kernel
theorem dX2_openAssetsOf_49 : decode cX2_openAssetsOf 49 = .ok (.iinc 3 1, 3) := by decide +kernel
theorem dX2_openAssetsOf_52 : decode cX2_openAssetsOf 52 = .ok (.goto (-48), 3) := by decide +kernel
theorem dX2_openAssetsOf_55 : decode cX2_openAssetsOf 55 = .ok (.iload_n 2, 1) := by decide +kernel
theorem dX2_openAssetsOf_56 : decode cX2_openAssetsOf 56 = .ok (.ireturn, 1) := by decide +kernel
theorem dX2_shutAssets_0 : decode cX2_shutAssets 0 = .ok (.iconst 0, 1) := by decide +kernel
theorem dX2_shutAssets_1 : decode cX2_shutAssets 1 = .ok (.istore_n 1, 1) := by decide +kernel
theorem dX2_shutAssets_2 : decode cX2_shutAssets 2 = .ok (.iconst 0, 1) := by decide +kernel
theorem dX2_shutAssets_3 : decode cX2_shutAssets 3 = .ok (.istore_n 2, 1) := by decide +kernel
theorem dX2_shutAssets_4 : decode cX2_shutAssets 4 = .ok (.iload_n 2, 1) := by decide +kernel
theorem dX2_shutAssets_5 : decode cX2_shutAssets 5 = .ok (.aload_n 0, 1) := by decide +kernel
theorem dX2_shutAssets_6 : decode cX2_shutAssets 6 = .ok (.getfield 47, 3) := by decide +kernel
theorem dX2_shutAssets_9 : decode cX2_shutAssets 9 = .ok (.if_icmp .ge 30, 3) := by decide +kernel
theorem dX2_shutAssets_12 : decode cX2_shutAssets 12 = .ok (.iload_n 2, 1) := by decide +kernel
theorem dX2_shutAssets_13 : decode cX2_shutAssets 13 = .ok (.bipush 8, 2) := by decide +kernel
theorem dX2_shutAssets_15 : decode cX2_shutAssets 15 = .ok (.if_icmp .ge 24, 3) := by decide +kernel
theorem dX2_shutAssets_18 : decode cX2_shutAssets 18 = .ok (.aload_n 0, 1) := by decide +kernel
theorem dX2_shutAssets_19 : decode cX2_shutAssets 19 = .ok (.getfield 20, 3) := by decide +kernel
theorem dX2_shutAssets_22 : decode cX2_shutAssets 22 = .ok (.iload_n 2, 1) := by decide +kernel
theorem dX2_shutAssets_23 : decode cX2_shutAssets 23 = .ok (.aaload, 1) := by decide +kernel
theorem dX2_shutAssets_24 : decode cX2_shutAssets 24 = .ok (.getfield 73, 3) := by decide +kernel
theorem dX2_shutAssets_27 : decode cX2_shutAssets 27 = .ok (.ifCond .eq 6, 3) := by decide +kernel
theorem dX2_shutAssets_30 : decode cX2_shutAssets 30 = .ok (.iinc 1 1, 3) := by decide +kernel
theorem dX2_shutAssets_33 : decode cX2_shutAssets 33 = .ok (.iinc 2 1, 3) := by decide +kernel
theorem dX2_shutAssets_36 : decode cX2_shutAssets 36 = .ok (.goto (-32), 3) := by decide +kernel
theorem dX2_shutAssets_39 : decode cX2_shutAssets 39 = .ok (.iload_n 1, 1) := by decide +kernel
theorem dX2_shutAssets_40 : decode cX2_shutAssets 40 = .ok (.ireturn, 1) := by decide +kernel
theorem dX3_init_0 : decode cX3_init 0 = .ok (.aload_n 0, 1) := by decide +kernel
theorem dX3_init_1 : decode cX3_init 1 = .ok (.invokespecial 3, 3) := by decide +kernel
theorem dX3_init_4 : decode cX3_init 4 = .ok (.aload_n 0, 1) := by decide +kernel
theorem dX3_init_5 : decode cX3_init 5 = .ok (.new 9, 3) := by decide +kernel
theorem dX3_init_8 : decode cX3_init 8 = .ok (.dup, 1) := by decide +kernel
theorem dX3_init_9 : decode cX3_init 9 = .ok (.invokespecial 11, 3) := by decide +kernel
theorem dX3_init_12 : decode cX3_init 12 = .ok (.putfield 12, 3) := by decide +kernel
theorem dX3_init_15 : decode cX3_init 15 = .ok (.aload_n 0, 1) := by decide +kernel
theorem dX3_init_16 : decode cX3_init 16 = .ok (.new 18, 3) := by decide +kernel
theorem dX3_init_19 : decode cX3_init 19 = .ok (.dup, 1) := by decide +kernel
theorem dX3_init_20 : decode cX3_init 20 = .ok (.invokespecial 20, 3) := by decide +kernel
theorem dX3_init_23 : decode cX3_init 23 = .ok (.putfield 21, 3) := by decide +kernel
theorem dX3_init_26 : decode cX3_init 26 = .ok (.aload_n 0, 1) := by decide +kernel
theorem dX3_init_27 : decode cX3_init 27 = .ok (.new 25, 3) := by decide +kernel
theorem dX3_init_30 : decode cX3_init 30 = .ok (.dup, 1) := by decide +kernel
theorem dX3_init_31 : decode cX3_init 31 = .ok (.invokespecial 27, 3) := by decide +kernel
theorem dX3_init_34 : decode cX3_init 34 = .ok (.putfield 28, 3) := by decide +kernel
theorem dX3_init_37 : decode cX3_init 37 = .ok (.return_, 1) := by decide +kernel
theorem dX3_open_0 : decode cX3_open 0 = .ok (.aload_n 0, 1) := by decide +kernel
theorem dX3_open_1 : decode cX3_open 1 = .ok (.aload_n 1, 1) := by decide +kernel
theorem dX3_open_2 : decode cX3_open 2 = .ok (.putfield 12, 3) := by decide +kernel
theorem dX3_open_5 : decode cX3_open 5 = .ok (.aload_n 0, 1) := by decide +kernel
theorem dX3_open_6 : decode cX3_open 6 = .ok (.getfield 21, 3) := by decide +kernel
theorem dX3_open_9 : decode cX3_open 9 = .ok (.invokevirtual 32, 3) := by decide +kernel
theorem dX3_open_12 : decode cX3_open 12 = .ok (.aload_n 1, 1) := by decide +kernel
theorem dX3_open_13 : decode cX3_open 13 = .ok (.getfield 35, 3) := by decide +kernel
theorem dX3_open_16 : decode cX3_open 16 = .ok (.aload_n 0, 1) := by decide +kernel
theorem dX3_open_17 : decode cX3_open 17 = .ok (.getfield 21, 3) := by decide +kernel
theorem dX3_open_20 : decode cX3_open 20 = .ok (.getfield 39, 3) := by decide +kernel
theorem dX3_open_23 : decode cX3_open 23 = .ok (.invokestatic 40, 3) := by decide +kernel
theorem dX3_open_26 : decode cX3_open 26 = .ok (.aload_n 1, 1) := by decide +kernel
theorem dX3_open_27 : decode cX3_open 27 = .ok (.getfield 44, 3) := by decide +kernel
theorem dX3_open_30 : decode cX3_open 30 = .ok (.aload_n 0, 1) := by decide +kernel
theorem dX3_open_31 : decode cX3_open 31 = .ok (.getfield 21, 3) := by decide +kernel
theorem dX3_open_34 : decode cX3_open 34 = .ok (.getfield 47, 3) := by decide +kernel
theorem dX3_open_37 : decode cX3_open 37 = .ok (.invokestatic 40, 3) := by decide +kernel
theorem dX3_open_40 : decode cX3_open 40 = .ok (.aload_n 0, 1) := by decide +kernel
theorem dX3_open_41 : decode cX3_open 41 = .ok (.invokevirtual 48, 3) := by decide +kernel
theorem dX3_open_44 : decode cX3_open 44 = .ok (.return_, 1) := by decide +kernel
theorem dX3_imitate_0 : decode cX3_imitate 0 = .ok (.aload_n 0, 1) := by decide +kernel
theorem dX3_imitate_1 : decode cX3_imitate 1 = .ok (.aload_n 1, 1) := by decide +kernel
theorem dX3_imitate_2 : decode cX3_imitate 2 = .ok (.getfield 12, 3) := by decide +kernel
theorem dX3_imitate_5 : decode cX3_imitate 5 = .ok (.putfield 12, 3) := by decide +kernel
theorem dX3_imitate_8 : decode cX3_imitate 8 = .ok (.aload_n 0, 1) := by decide +kernel
theorem dX3_imitate_9 : decode cX3_imitate 9 = .ok (.getfield 21, 3) := by decide +kernel
theorem dX3_imitate_12 : decode cX3_imitate 12 = .ok (.aload_n 1, 1) := by decide +kernel
theorem dX3_imitate_13 : decode cX3_imitate 13 = .ok (.getfield 21, 3) := by decide +kernel
theorem dX3_imitate_16 : decode cX3_imitate 16 = .ok (.invokevirtual 51, 3) := by decide +kernel
theorem dX3_imitate_19 : decode cX3_imitate 19 = .ok (.return_, 1) := by decide +kernel
theorem dX3_thisYear_0 : decode cX3_thisYear 0 = .ok (.aload_n 0, 1) := by decide +kernel
theorem dX3_thisYear_1 : decode cX3_thisYear 1 = .ok (.getfield 21, 3) := by decide +kernel
theorem dX3_thisYear_4 : decode cX3_thisYear 4 = .ok (.getfield 55, 3) := by decide +kernel
theorem dX3_thisYear_7 : decode cX3_thisYear 7 = .ok (.iconst 4, 1) := by decide +kernel
theorem dX3_thisYear_8 : decode cX3_thisYear 8 = .ok (.idiv, 1) := by decide +kernel
theorem dX3_thisYear_9 : decode cX3_thisYear 9 = .ok (.ireturn, 1) := by decide +kernel
theorem dX3_bringTold_0 : decode cX3_bringTold 0 = .ok (.iconst 0, 1) := by decide +kernel
theorem dX3_bringTold_1 : decode cX3_bringTold 1 = .ok (.istore_n 1, 1) := by decide +kernel
theorem dX3_bringTold_2 : decode cX3_bringTold 2 = .ok (.iload_n 1, 1) := by decide +kernel
theorem dX3_bringTold_3 : decode cX3_bringTold 3 = .ok (.aload_n 0, 1) := by decide +kernel
theorem dX3_bringTold_4 : decode cX3_bringTold 4 = .ok (.getfield 12, 3) := by decide +kernel
theorem dX3_bringTold_7 : decode cX3_bringTold 7 = .ok (.getfield 59, 3) := by decide +kernel
theorem dX3_bringTold_10 : decode cX3_bringTold 10 = .ok (.aload_n 0, 1) := by decide +kernel
theorem dX3_bringTold_11 : decode cX3_bringTold 11 = .ok (.getfield 12, 3) := by decide +kernel
theorem dX3_bringTold_14 : decode cX3_bringTold 14 = .ok (.getfield 62, 3) := by decide +kernel
theorem dX3_bringTold_17 : decode cX3_bringTold 17 = .ok (.iadd, 1) := by decide +kernel
theorem dX3_bringTold_18 : decode cX3_bringTold 18 = .ok (.if_icmp .ge 80, 3) := by decide +kernel
theorem dX3_bringTold_21 : decode cX3_bringTold 21 = .ok (.iload_n 1, 1) := by decide +kernel
theorem dX3_bringTold_22 : decode cX3_bringTold 22 = .ok (.iconst 4, 1) := by decide +kernel
theorem dX3_bringTold_23 : decode cX3_bringTold 23 = .ok (.imul, 1) := by decide +kernel
theorem dX3_bringTold_24 : decode cX3_bringTold 24 = .ok (.istore_n 2, 1) := by decide +kernel
theorem dX3_bringTold_25 : decode cX3_bringTold 25 = .ok (.aload_n 0, 1) := by decide +kernel
theorem dX3_bringTold_26 : decode cX3_bringTold 26 = .ok (.getfield 12, 3) := by decide +kernel
theorem dX3_bringTold_29 : decode cX3_bringTold 29 = .ok (.getfield 65, 3) := by decide +kernel
theorem dX3_bringTold_32 : decode cX3_bringTold 32 = .ok (.iload_n 2, 1) := by decide +kernel
theorem dX3_bringTold_33 : decode cX3_bringTold 33 = .ok (.iconst 1, 1) := by decide +kernel
theorem dX3_bringTold_34 : decode cX3_bringTold 34 = .ok (.iadd, 1) := by decide +kernel
theorem dX3_bringTold_35 : decode cX3_bringTold 35 = .ok (.iaload, 1) := by decide +kernel
theorem dX3_bringTold_36 : decode cX3_bringTold 36 = .ok (.aload_n 0, 1) := by decide +kernel
theorem dX3_bringTold_37 : decode cX3_bringTold 37 = .ok (.getfield 21, 3) := by decide +kernel
theorem dX3_bringTold_40 : decode cX3_bringTold 40 = .ok (.getfield 55, 3) := by decide +kernel
theorem dX3_bringTold_43 : decode cX3_bringTold 43 = .ok (.if_icmp .ne 49, 3) := by decide +kernel
theorem dX3_bringTold_46 : decode cX3_bringTold 46 = .ok (.aload_n 0, 1) := by decide +kernel
theorem dX3_bringTold_47 : decode cX3_bringTold 47 = .ok (.getfield 21, 3) := by decide +kernel
theorem dX3_bringTold_50 : decode cX3_bringTold 50 = .ok (.aload_n 0, 1) := by decide +kernel
theorem dX3_bringTold_51 : decode cX3_bringTold 51 = .ok (.getfield 12, 3) := by decide +kernel
theorem dX3_bringTold_54 : decode cX3_bringTold 54 = .ok (.getfield 65, 3) := by decide +kernel
theorem dX3_bringTold_57 : decode cX3_bringTold 57 = .ok (.iload_n 2, 1) := by decide +kernel
theorem dX3_bringTold_58 : decode cX3_bringTold 58 = .ok (.iaload, 1) := by decide +kernel
theorem dX3_bringTold_59 : decode cX3_bringTold 59 = .ok (.aload_n 0, 1) := by decide +kernel
theorem dX3_bringTold_60 : decode cX3_bringTold 60 = .ok (.getfield 21, 3) := by decide +kernel
theorem dX3_bringTold_63 : decode cX3_bringTold 63 = .ok (.getfield 55, 3) := by decide +kernel
theorem dX3_bringTold_66 : decode cX3_bringTold 66 = .ok (.aload_n 0, 1) := by decide +kernel
theorem dX3_bringTold_67 : decode cX3_bringTold 67 = .ok (.getfield 12, 3) := by decide +kernel
theorem dX3_bringTold_70 : decode cX3_bringTold 70 = .ok (.getfield 65, 3) := by decide +kernel
theorem dX3_bringTold_73 : decode cX3_bringTold 73 = .ok (.iload_n 2, 1) := by decide +kernel
theorem dX3_bringTold_74 : decode cX3_bringTold 74 = .ok (.iconst 2, 1) := by decide +kernel
theorem dX3_bringTold_75 : decode cX3_bringTold 75 = .ok (.iadd, 1) := by decide +kernel
theorem dX3_bringTold_76 : decode cX3_bringTold 76 = .ok (.iaload, 1) := by decide +kernel
theorem dX3_bringTold_77 : decode cX3_bringTold 77 = .ok (.aload_n 0, 1) := by decide +kernel
theorem dX3_bringTold_78 : decode cX3_bringTold 78 = .ok (.getfield 12, 3) := by decide +kernel
theorem dX3_bringTold_81 : decode cX3_bringTold 81 = .ok (.getfield 65, 3) := by decide +kernel
theorem dX3_bringTold_84 : decode cX3_bringTold 84 = .ok (.iload_n 2, 1) := by decide +kernel
theorem dX3_bringTold_85 : decode cX3_bringTold 85 = .ok (.iconst 3, 1) := by decide +kernel
theorem dX3_bringTold_86 : decode cX3_bringTold 86 = .ok (.iadd, 1) := by decide +kernel
theorem dX3_bringTold_87 : decode cX3_bringTold 87 = .ok (.iaload, 1) := by decide +kernel
theorem dX3_bringTold_88 : decode cX3_bringTold 88 = .ok (.invokevirtual 68, 3) := by decide +kernel
theorem dX3_bringTold_91 : decode cX3_bringTold 91 = .ok (.pop, 1) := by decide +kernel
theorem dX3_bringTold_92 : decode cX3_bringTold 92 = .ok (.iinc 1 1, 3) := by decide +kernel
theorem dX3_bringTold_95 : decode cX3_bringTold 95 = .ok (.goto (-93), 3) := by decide +kernel
theorem dX3_bringTold_98 : decode cX3_bringTold 98 = .ok (.iconst 0, 1) := by decide +kernel
theorem dX3_bringTold_99 : decode cX3_bringTold 99 = .ok (.istore_n 1, 1) := by decide +kernel
theorem dX3_bringTold_100 : decode cX3_bringTold 100 = .ok (.iload_n 1, 1) := by decide +kernel
theorem dX3_bringTold_101 : decode cX3_bringTold 101 = .ok (.aload_n 0, 1) := by decide +kernel
theorem dX3_bringTold_102 : decode cX3_bringTold 102 = .ok (.getfield 12, 3) := by decide +kernel
theorem dX3_bringTold_105 : decode cX3_bringTold 105 = .ok (.getfield 72, 3) := by decide +kernel
theorem dX3_bringTold_108 : decode cX3_bringTold 108 = .ok (.if_icmp .ge 84, 3) := by decide +kernel
theorem dX3_bringTold_111 : decode cX3_bringTold 111 = .ok (.iload_n 1, 1) := by decide +kernel
theorem dX3_bringTold_112 : decode cX3_bringTold 112 = .ok (.iconst 5, 1) := by decide +kernel
theorem dX3_bringTold_113 : decode cX3_bringTold 113 = .ok (.imul, 1) := by decide +kernel
theorem dX3_bringTold_114 : decode cX3_bringTold 114 = .ok (.istore_n 2, 1) := by decide +kernel
theorem dX3_bringTold_115 : decode cX3_bringTold 115 = .ok (.aload_n 0, 1) := by decide +kernel
theorem dX3_bringTold_116 : decode cX3_bringTold 116 = .ok (.getfield 12, 3) := by decide +kernel
theorem dX3_bringTold_119 : decode cX3_bringTold 119 = .ok (.getfield 75, 3) := by decide +kernel
theorem dX3_bringTold_122 : decode cX3_bringTold 122 = .ok (.iload_n 2, 1) := by decide +kernel
theorem dX3_bringTold_123 : decode cX3_bringTold 123 = .ok (.iconst 1, 1) := by decide +kernel
theorem dX3_bringTold_124 : decode cX3_bringTold 124 = .ok (.iadd, 1) := by decide +kernel
theorem dX3_bringTold_125 : decode cX3_bringTold 125 = .ok (.iaload, 1) := by decide +kernel
theorem dX3_bringTold_126 : decode cX3_bringTold 126 = .ok (.aload_n 0, 1) := by decide +kernel
theorem dX3_bringTold_127 : decode cX3_bringTold 127 = .ok (.getfield 21, 3) := by decide +kernel
theorem dX3_bringTold_130 : decode cX3_bringTold 130 = .ok (.getfield 55, 3) := by decide +kernel
theorem dX3_bringTold_133 : decode cX3_bringTold 133 = .ok (.if_icmp .ne 53, 3) := by decide +kernel
theorem dX3_bringTold_136 : decode cX3_bringTold 136 = .ok (.aload_n 0, 1) := by decide +kernel
theorem dX3_bringTold_137 : decode cX3_bringTold 137 = .ok (.getfield 21, 3) := by decide +kernel
theorem dX3_bringTold_140 : decode cX3_bringTold 140 = .ok (.aload_n 0, 1) := by decide +kernel
theorem dX3_bringTold_141 : decode cX3_bringTold 141 = .ok (.getfield 12, 3) := by decide +kernel
theorem dX3_bringTold_144 : decode cX3_bringTold 144 = .ok (.getfield 75, 3) := by decide +kernel
theorem dX3_bringTold_147 : decode cX3_bringTold 147 = .ok (.iload_n 2, 1) := by decide +kernel
theorem dX3_bringTold_148 : decode cX3_bringTold 148 = .ok (.iaload, 1) := by decide +kernel
theorem dX3_bringTold_149 : decode cX3_bringTold 149 = .ok (.aload_n 0, 1) := by decide +kernel
theorem dX3_bringTold_150 : decode cX3_bringTold 150 = .ok (.getfield 12, 3) := by decide +kernel
theorem dX3_bringTold_153 : decode cX3_bringTold 153 = .ok (.getfield 75, 3) := by decide +kernel
theorem dX3_bringTold_156 : decode cX3_bringTold 156 = .ok (.iload_n 2, 1) := by decide +kernel
theorem dX3_bringTold_157 : decode cX3_bringTold 157 = .ok (.iconst 2, 1) := by decide +kernel
theorem dX3_bringTold_158 : decode cX3_bringTold 158 = .ok (.iadd, 1) := by decide +kernel
theorem dX3_bringTold_159 : decode cX3_bringTold 159 = .ok (.iaload, 1) := by decide +kernel
theorem dX3_bringTold_160 : decode cX3_bringTold 160 = .ok (.aload_n 0, 1) := by decide +kernel
theorem dX3_bringTold_161 : decode cX3_bringTold 161 = .ok (.getfield 12, 3) := by decide +kernel
theorem dX3_bringTold_164 : decode cX3_bringTold 164 = .ok (.getfield 75, 3) := by decide +kernel
theorem dX3_bringTold_167 : decode cX3_bringTold 167 = .ok (.iload_n 2, 1) := by decide +kernel
theorem dX3_bringTold_168 : decode cX3_bringTold 168 = .ok (.iconst 3, 1) := by decide +kernel
theorem dX3_bringTold_169 : decode cX3_bringTold 169 = .ok (.iadd, 1) := by decide +kernel
theorem dX3_bringTold_170 : decode cX3_bringTold 170 = .ok (.iaload, 1) := by decide +kernel
theorem dX3_bringTold_171 : decode cX3_bringTold 171 = .ok (.aload_n 0, 1) := by decide +kernel
theorem dX3_bringTold_172 : decode cX3_bringTold 172 = .ok (.getfield 12, 3) := by decide +kernel
theorem dX3_bringTold_175 : decode cX3_bringTold 175 = .ok (.getfield 75, 3) := by decide +kernel
theorem dX3_bringTold_178 : decode cX3_bringTold 178 = .ok (.iload_n 2, 1) := by decide +kernel
theorem dX3_bringTold_179 : decode cX3_bringTold 179 = .ok (.iconst 4, 1) := by decide +kernel
theorem dX3_bringTold_180 : decode cX3_bringTold 180 = .ok (.iadd, 1) := by decide +kernel
theorem dX3_bringTold_181 : decode cX3_bringTold 181 = .ok (.iaload, 1) := by decide +kernel
theorem dX3_bringTold_182 : decode cX3_bringTold 182 = .ok (.invokevirtual 78, 3) := by decide +kernel
theorem dX3_bringTold_185 : decode cX3_bringTold 185 = .ok (.pop, 1) := by decide +kernel
theorem dX3_bringTold_186 : decode cX3_bringTold 186 = .ok (.iinc 1 1, 3) := by decide +kernel
theorem dX3_bringTold_189 : decode cX3_bringTold 189 = .ok (.goto (-89), 3) := by decide +kernel
theorem dX3_bringTold_192 : decode cX3_bringTold 192 = .ok (.return_, 1) := by decide +kernel
theorem dX3_beginReckoning_0 : decode cX3_beginReckoning 0 = .ok (.aload_n 0, 1) := by decide +kernel
theorem dX3_beginReckoning_1 : decode cX3_beginReckoning 1 = .ok (.getfield 28, 3) := by decide +kernel
theorem dX3_beginReckoning_4 : decode cX3_beginReckoning 4 = .ok (.aload_n 0, 1) := by decide +kernel
theorem dX3_beginReckoning_5 : decode cX3_beginReckoning 5 = .ok (.getfield 12, 3) := by decide +kernel
theorem dX3_beginReckoning_8 : decode cX3_beginReckoning 8 = .ok (.getfield 81, 3) := by decide +kernel
theorem dX3_beginReckoning_11 : decode cX3_beginReckoning 11 = .ok (.putfield 84, 3) := by decide +kernel
theorem dX3_beginReckoning_14 : decode cX3_beginReckoning 14 = .ok (.aload_n 0, 1) := by decide +kernel
theorem dX3_beginReckoning_15 : decode cX3_beginReckoning 15 = .ok (.getfield 28, 3) := by decide +kernel
theorem dX3_beginReckoning_18 : decode cX3_beginReckoning 18 = .ok (.aload_n 0, 1) := by decide +kernel
theorem dX3_beginReckoning_19 : decode cX3_beginReckoning 19 = .ok (.getfield 12, 3) := by decide +kernel
theorem dX3_beginReckoning_22 : decode cX3_beginReckoning 22 = .ok (.getfield 85, 3) := by decide +kernel
theorem dX3_beginReckoning_25 : decode cX3_beginReckoning 25 = .ok (.iload_n 1, 1) := by decide +kernel
theorem dX3_beginReckoning_26 : decode cX3_beginReckoning 26 = .ok (.iaload, 1) := by decide +kernel
theorem dX3_beginReckoning_27 : decode cX3_beginReckoning 27 = .ok (.putfield 88, 3) := by decide +kernel
theorem dX3_beginReckoning_30 : decode cX3_beginReckoning 30 = .ok (.aload_n 0, 1) := by decide +kernel
theorem dX3_beginReckoning_31 : decode cX3_beginReckoning 31 = .ok (.getfield 28, 3) := by decide +kernel
theorem dX3_beginReckoning_34 : decode cX3_beginReckoning 34 = .ok (.aload_n 0, 1) := by decide +kernel
theorem dX3_beginReckoning_35 : decode cX3_beginReckoning 35 = .ok (.getfield 12, 3) := by decide +kernel
theorem dX3_beginReckoning_38 : decode cX3_beginReckoning 38 = .ok (.getfield 91, 3) := by decide +kernel
theorem dX3_beginReckoning_41 : decode cX3_beginReckoning 41 = .ok (.putfield 94, 3) := by decide +kernel
theorem dX3_beginReckoning_44 : decode cX3_beginReckoning 44 = .ok (.aload_n 0, 1) := by decide +kernel
theorem dX3_beginReckoning_45 : decode cX3_beginReckoning 45 = .ok (.getfield 28, 3) := by decide +kernel
theorem dX3_beginReckoning_48 : decode cX3_beginReckoning 48 = .ok (.aload_n 0, 1) := by decide +kernel
theorem dX3_beginReckoning_49 : decode cX3_beginReckoning 49 = .ok (.getfield 12, 3) := by decide +kernel
theorem dX3_beginReckoning_52 : decode cX3_beginReckoning 52 = .ok (.getfield 95, 3) := by decide +kernel
theorem dX3_beginReckoning_55 : decode cX3_beginReckoning 55 = .ok (.putfield 98, 3) := by decide +kernel
theorem dX3_beginReckoning_58 : decode cX3_beginReckoning 58 = .ok (.aload_n 0, 1) := by decide +kernel
theorem dX3_beginReckoning_59 : decode cX3_beginReckoning 59 = .ok (.getfield 28, 3) := by decide +kernel
theorem dX3_beginReckoning_62 : decode cX3_beginReckoning 62 = .ok (.aload_n 0, 1) := by decide +kernel
theorem dX3_beginReckoning_63 : decode cX3_beginReckoning 63 = .ok (.getfield 21, 3) := by decide +kernel
theorem dX3_beginReckoning_66 : decode cX3_beginReckoning 66 = .ok (.getfield 39, 3) := by decide +kernel
theorem dX3_beginReckoning_69 : decode cX3_beginReckoning 69 = .ok (.iload_n 1, 1) := by decide +kernel
theorem dX3_beginReckoning_70 : decode cX3_beginReckoning 70 = .ok (.iaload, 1) := by decide +kernel
theorem dX3_beginReckoning_71 : decode cX3_beginReckoning 71 = .ok (.putfield 99, 3) := by decide +kernel
theorem dX3_beginReckoning_74 : decode cX3_beginReckoning 74 = .ok (.aload_n 0, 1) := by decide +kernel
theorem dX3_beginReckoning_75 : decode cX3_beginReckoning 75 = .ok (.getfield 28, 3) := by decide +kernel
theorem dX3_beginReckoning_78 : decode cX3_beginReckoning 78 = .ok (.aload_n 0, 1) := by decide +kernel
theorem dX3_beginReckoning_79 : decode cX3_beginReckoning 79 = .ok (.getfield 21, 3) := by decide +kernel
theorem dX3_beginReckoning_82 : decode cX3_beginReckoning 82 = .ok (.getfield 47, 3) := by decide +kernel
theorem dX3_beginReckoning_85 : decode cX3_beginReckoning 85 = .ok (.iload_n 1, 1) := by decide +kernel
theorem dX3_beginReckoning_86 : decode cX3_beginReckoning 86 = .ok (.iaload, 1) := by decide +kernel
theorem dX3_beginReckoning_87 : decode cX3_beginReckoning 87 = .ok (.putfield 101, 3) := by decide +kernel
theorem dX3_beginReckoning_90 : decode cX3_beginReckoning 90 = .ok (.iconst 0, 1) := by decide +kernel
theorem dX3_beginReckoning_91 : decode cX3_beginReckoning 91 = .ok (.istore_n 2, 1) := by decide +kernel
theorem dX3_beginReckoning_92 : decode cX3_beginReckoning 92 = .ok (.iload_n 2, 1) := by decide +kernel
theorem dX3_beginReckoning_93 : decode cX3_beginReckoning 93 = .ok (.iconst 5, 1) := by decide +kernel
theorem dX3_beginReckoning_94 : decode cX3_beginReckoning 94 = .ok (.if_icmp .ge 19, 3) := by decide +kernel
theorem dX3_beginReckoning_97 : decode cX3_beginReckoning 97 = .ok (.aload_n 0, 1) := by decide +kernel
theorem dX3_beginReckoning_98 : decode cX3_beginReckoning 98 = .ok (.getfield 28, 3) := by decide +kernel
theorem dX3_beginReckoning_101 : decode cX3_beginReckoning 101 = .ok (.getfield 103, 3) := by decide +kernel
theorem dX3_beginReckoning_104 : decode cX3_beginReckoning 104 = .ok (.iload_n 2, 1) := by decide +kernel
theorem dX3_beginReckoning_105 : decode cX3_beginReckoning 105 = .ok (.lconst 0, 1) := by decide +kernel
theorem dX3_beginReckoning_106 : decode cX3_beginReckoning 106 = .ok (.lastore, 1) := by decide +kernel
theorem dX3_beginReckoning_107 : decode cX3_beginReckoning 107 = .ok (.iinc 2 1, 3) := by decide +kernel
theorem dX3_beginReckoning_110 : decode cX3_beginReckoning 110 = .ok (.goto (-18), 3) := by decide +kernel
theorem dX3_beginReckoning_113 : decode cX3_beginReckoning 113 = .ok (.return_, 1) := by decide +kernel
theorem dX3_addQuarters_0 : decode cX3_addQuarters 0 = .ok (.iload_n 2, 1) := by decide +kernel
theorem dX3_addQuarters_1 : decode cX3_addQuarters 1 = .ok (.istore 4, 2) := by decide +kernel
theorem dX3_addQuarters_3 : decode cX3_addQuarters 3 = .ok (.iload 4, 2) := by decide +kernel
theorem dX3_addQuarters_5 : decode cX3_addQuarters 5 = .ok (.iload_n 2, 1) := by decide +kernel
theorem dX3_addQuarters_6 : decode cX3_addQuarters 6 = .ok (.iload_n 3, 1) := by decide +kernel
theorem dX3_addQuarters_7 : decode cX3_addQuarters 7 = .ok (.iadd, 1) := by decide +kernel
theorem dX3_addQuarters_8 : decode cX3_addQuarters 8 = .ok (.if_icmp .ge 50, 3) := by decide +kernel
theorem dX3_addQuarters_11 : decode cX3_addQuarters 11 = .ok (.iconst 0, 1) := by decide +kernel
theorem dX3_addQuarters_12 : decode cX3_addQuarters 12 = .ok (.istore 5, 2) := by decide +kernel
theorem dX3_addQuarters_14 : decode cX3_addQuarters 14 = .ok (.iload 5, 2) := by decide +kernel
theorem dX3_addQuarters_16 : decode cX3_addQuarters 16 = .ok (.iconst 5, 1) := by decide +kernel
theorem dX3_addQuarters_17 : decode cX3_addQuarters 17 = .ok (.if_icmp .ge 35, 3) := by decide +kernel
theorem dX3_addQuarters_20 : decode cX3_addQuarters 20 = .ok (.aload_n 0, 1) := by decide +kernel
theorem dX3_addQuarters_21 : decode cX3_addQuarters 21 = .ok (.getfield 28, 3) := by decide +kernel
theorem dX3_addQuarters_24 : decode cX3_addQuarters 24 = .ok (.getfield 103, 3) := by decide +kernel
theorem dX3_addQuarters_27 : decode cX3_addQuarters 27 = .ok (.iload 5, 2) := by decide +kernel
theorem dX3_addQuarters_29 : decode cX3_addQuarters 29 = .ok (.dup2, 1) := by decide +kernel
theorem dX3_addQuarters_30 : decode cX3_addQuarters 30 = .ok (.laload, 1) := by decide +kernel
theorem dX3_addQuarters_31 : decode cX3_addQuarters 31 = .ok (.aload_n 0, 1) := by decide +kernel
theorem dX3_addQuarters_32 : decode cX3_addQuarters 32 = .ok (.getfield 21, 3) := by decide +kernel
theorem dX3_addQuarters_35 : decode cX3_addQuarters 35 = .ok (.iload_n 1, 1) := by decide +kernel
theorem dX3_addQuarters_36 : decode cX3_addQuarters 36 = .ok (.iload 4, 2) := by decide +kernel
theorem dX3_addQuarters_38 : decode cX3_addQuarters 38 = .ok (.iload 5, 2) := by decide +kernel
theorem dX3_addQuarters_40 : decode cX3_addQuarters 40 = .ok (.invokevirtual 107, 3) := by decide +kernel
theorem dX3_addQuarters_43 : decode cX3_addQuarters 43 = .ok (.i2l, 1) := by decide +kernel
theorem dX3_addQuarters_44 : decode cX3_addQuarters 44 = .ok (.ladd, 1) := by decide +kernel
theorem dX3_addQuarters_45 : decode cX3_addQuarters 45 = .ok (.lastore, 1) := by decide +kernel
theorem dX3_addQuarters_46 : decode cX3_addQuarters 46 = .ok (.iinc 5 1, 3) := by decide +kernel
theorem dX3_addQuarters_49 : decode cX3_addQuarters 49 = .ok (.goto (-35), 3) := by decide +kernel
theorem dX3_addQuarters_52 : decode cX3_addQuarters 52 = .ok (.iinc 4 1, 3) := by decide +kernel
theorem dX3_addQuarters_55 : decode cX3_addQuarters 55 = .ok (.goto (-52), 3) := by decide +kernel
theorem dX3_addQuarters_58 : decode cX3_addQuarters 58 = .ok (.return_, 1) := by decide +kernel
theorem dX3_ofQuarter_0 : decode cX3_ofQuarter 0 = .ok (.aload_n 0, 1) := by decide +kernel
theorem dX3_ofQuarter_1 : decode cX3_ofQuarter 1 = .ok (.iload_n 1, 1) := by decide +kernel
theorem dX3_ofQuarter_2 : decode cX3_ofQuarter 2 = .ok (.invokevirtual 111, 3) := by decide +kernel
theorem dX3_ofQuarter_5 : decode cX3_ofQuarter 5 = .ok (.aload_n 0, 1) := by decide +kernel
theorem dX3_ofQuarter_6 : decode cX3_ofQuarter 6 = .ok (.iload_n 1, 1) := by decide +kernel
theorem dX3_ofQuarter_7 : decode cX3_ofQuarter 7 = .ok (.iload_n 2, 1) := by decide +kernel
theorem dX3_ofQuarter_8 : decode cX3_ofQuarter 8 = .ok (.iconst 1, 1) := by decide +kernel
theorem dX3_ofQuarter_9 : decode cX3_ofQuarter 9 = .ok (.invokevirtual 115, 3) := by decide +kernel
theorem dX3_ofQuarter_12 : decode cX3_ofQuarter 12 = .ok (.aload_n 0, 1) := by decide +kernel
theorem dX3_ofQuarter_13 : decode cX3_ofQuarter 13 = .ok (.getfield 28, 3) := by decide +kernel
theorem dX3_ofQuarter_16 : decode cX3_ofQuarter 16 = .ok (.aload_n 0, 1) := by decide +kernel
theorem dX3_ofQuarter_17 : decode cX3_ofQuarter 17 = .ok (.getfield 12, 3) := by decide +kernel
theorem dX3_ofQuarter_20 : decode cX3_ofQuarter 20 = .ok (.getfield 95, 3) := by decide +kernel
theorem dX3_ofQuarter_23 : decode cX3_ofQuarter 23 = .ok (.iconst 4, 1) := by decide +kernel
theorem dX3_ofQuarter_24 : decode cX3_ofQuarter 24 = .ok (.idiv, 1) := by decide +kernel
theorem dX3_ofQuarter_25 : decode cX3_ofQuarter 25 = .ok (.putfield 98, 3) := by decide +kernel
theorem dX3_ofQuarter_28 : decode cX3_ofQuarter 28 = .ok (.aload_n 0, 1) := by decide +kernel
theorem dX3_ofQuarter_29 : decode cX3_ofQuarter 29 = .ok (.getfield 28, 3) := by decide +kernel
theorem dX3_ofQuarter_32 : decode cX3_ofQuarter 32 = .ok (.areturn, 1) := by decide +kernel
theorem dX3_ofYear_0 : decode cX3_ofYear 0 = .ok (.aload_n 0, 1) := by decide +kernel
theorem dX3_ofYear_1 : decode cX3_ofYear 1 = .ok (.iload_n 1, 1) := by decide +kernel
theorem dX3_ofYear_2 : decode cX3_ofYear 2 = .ok (.invokevirtual 111, 3) := by decide +kernel
theorem dX3_ofYear_5 : decode cX3_ofYear 5 = .ok (.aload_n 0, 1) := by decide +kernel
theorem dX3_ofYear_6 : decode cX3_ofYear 6 = .ok (.iload_n 1, 1) := by decide +kernel
theorem dX3_ofYear_7 : decode cX3_ofYear 7 = .ok (.iload_n 2, 1) := by decide +kernel
theorem dX3_ofYear_8 : decode cX3_ofYear 8 = .ok (.iconst 4, 1) := by decide +kernel
theorem dX3_ofYear_9 : decode cX3_ofYear 9 = .ok (.imul, 1) := by decide +kernel
theorem dX3_ofYear_10 : decode cX3_ofYear 10 = .ok (.iconst 4, 1) := by decide +kernel
theorem dX3_ofYear_11 : decode cX3_ofYear 11 = .ok (.invokevirtual 115, 3) := by decide +kernel
theorem dX3_ofYear_14 : decode cX3_ofYear 14 = .ok (.aload_n 0, 1) := by decide +kernel
theorem dX3_ofYear_15 : decode cX3_ofYear 15 = .ok (.getfield 28, 3) := by decide +kernel
theorem dX3_ofYear_18 : decode cX3_ofYear 18 = .ok (.areturn, 1) := by decide +kernel
theorem dX3_joinYear_0 : decode cX3_joinYear 0 = .ok (.aload_n 0, 1) := by decide +kernel
theorem dX3_joinYear_1 : decode cX3_joinYear 1 = .ok (.iload_n 1, 1) := by decide +kernel
theorem dX3_joinYear_2 : decode cX3_joinYear 2 = .ok (.iload_n 2, 1) := by decide +kernel
theorem dX3_joinYear_3 : decode cX3_joinYear 3 = .ok (.iconst 4, 1) := by decide +kernel
theorem dX3_joinYear_4 : decode cX3_joinYear 4 = .ok (.imul, 1) := by decide +kernel
theorem dX3_joinYear_5 : decode cX3_joinYear 5 = .ok (.iconst 4, 1) := by decide +kernel
theorem dX3_joinYear_6 : decode cX3_joinYear 6 = .ok (.invokevirtual 115, 3) := by decide +kernel
theorem dX3_joinYear_9 : decode cX3_joinYear 9 = .ok (.aload_n 0, 1) := by decide +kernel
theorem dX3_joinYear_10 : decode cX3_joinYear 10 = .ok (.getfield 28, 3) := by decide +kernel
theorem dX3_joinYear_13 : decode cX3_joinYear 13 = .ok (.dup, 1) := by decide +kernel
theorem dX3_joinYear_14 : decode cX3_joinYear 14 = .ok (.getfield 99, 3) := by decide +kernel
theorem dX3_joinYear_17 : decode cX3_joinYear 17 = .ok (.aload_n 0, 1) := by decide +kernel
theorem dX3_joinYear_18 : decode cX3_joinYear 18 = .ok (.getfield 21, 3) := by decide +kernel
theorem dX3_joinYear_21 : decode cX3_joinYear 21 = .ok (.getfield 39, 3) := by decide +kernel
theorem dX3_joinYear_24 : decode cX3_joinYear 24 = .ok (.iload_n 1, 1) := by decide +kernel
theorem dX3_joinYear_25 : decode cX3_joinYear 25 = .ok (.iaload, 1) := by decide +kernel
theorem dX3_joinYear_26 : decode cX3_joinYear 26 = .ok (.iadd, 1) := by decide +kernel
theorem dX3_joinYear_27 : decode cX3_joinYear 27 = .ok (.putfield 99, 3) := by decide +kernel
theorem dX3_joinYear_30 : decode cX3_joinYear 30 = .ok (.aload_n 0, 1) := by decide +kernel
theorem dX3_joinYear_31 : decode cX3_joinYear 31 = .ok (.getfield 28, 3) := by decide +kernel
theorem dX3_joinYear_34 : decode cX3_joinYear 34 = .ok (.dup, 1) := by decide +kernel
theorem dX3_joinYear_35 : decode cX3_joinYear 35 = .ok (.getfield 101, 3) := by decide +kernel
theorem dX3_joinYear_38 : decode cX3_joinYear 38 = .ok (.aload_n 0, 1) := by decide +kernel
theorem dX3_joinYear_39 : decode cX3_joinYear 39 = .ok (.getfield 21, 3) := by decide +kernel
theorem dX3_joinYear_42 : decode cX3_joinYear 42 = .ok (.getfield 47, 3) := by decide +kernel
theorem dX3_joinYear_45 : decode cX3_joinYear 45 = .ok (.iload_n 1, 1) := by decide +kernel
theorem dX3_joinYear_46 : decode cX3_joinYear 46 = .ok (.iaload, 1) := by decide +kernel
theorem dX3_joinYear_47 : decode cX3_joinYear 47 = .ok (.iadd, 1) := by decide +kernel
theorem dX3_joinYear_48 : decode cX3_joinYear 48 = .ok (.putfield 101, 3) := by decide +kernel
theorem dX3_joinYear_51 : decode cX3_joinYear 51 = .ok (.return_, 1) := by decide +kernel
theorem dX3_annualFraction_0 : decode cX3_annualFraction 0 = .ok (.iload_n 2, 1) := by decide +kernel
theorem dX3_annualFraction_1 : decode cX3_annualFraction 1 = .ok (.aload_n 0, 1) := by decide +kernel
theorem dX3_annualFraction_2 : decode cX3_annualFraction 2 = .ok (.invokevirtual 119, 3) := by decide +kernel
theorem dX3_annualFraction_5 : decode cX3_annualFraction 5 = .ok (.if_icmp .ge 13, 3) := by decide +kernel
theorem dX3_annualFraction_8 : decode cX3_annualFraction 8 = .ok (.aload_n 0, 1) := by decide +kernel
theorem dX3_annualFraction_9 : decode cX3_annualFraction 9 = .ok (.getfield 21, 3) := by decide +kernel
theorem dX3_annualFraction_12 : decode cX3_annualFraction 12 = .ok (.iload_n 1, 1) := by decide +kernel
theorem dX3_annualFraction_13 : decode cX3_annualFraction 13 = .ok (.iload_n 2, 1) := by decide +kernel
theorem dX3_annualFraction_14 : decode cX3_annualFraction 14 = .ok (.invokevirtual 123, 3) := by decide +kernel
theorem dX3_annualFraction_17 : decode cX3_annualFraction 17 = .ok (.ireturn, 1) := by decide +kernel
theorem dX3_annualFraction_18 : decode cX3_annualFraction 18 = .ok (.aload_n 0, 1) := by decide +kernel
theorem dX3_annualFraction_19 : decode cX3_annualFraction 19 = .ok (.iload_n 1, 1) := by decide +kernel
theorem dX3_annualFraction_20 : decode cX3_annualFraction 20 = .ok (.iload_n 2, 1) := by decide +kernel
theorem dX3_annualFraction_21 : decode cX3_annualFraction 21 = .ok (.invokevirtual 127, 3) := by decide +kernel
theorem dX3_annualFraction_24 : decode cX3_annualFraction 24 = .ok (.invokevirtual 131, 3) := by decide +kernel
theorem dX3_annualFraction_27 : decode cX3_annualFraction 27 = .ok (.ireturn, 1) := by decide +kernel
theorem dX3_yearBack_0 : decode cX3_yearBack 0 = .ok (.aload_n 0, 1) := by decide +kernel
theorem dX3_yearBack_1 : decode cX3_yearBack 1 = .ok (.iload_n 1, 1) := by decide +kernel
theorem dX3_yearBack_2 : decode cX3_yearBack 2 = .ok (.iload_n 2, 1) := by decide +kernel
theorem dX3_yearBack_3 : decode cX3_yearBack 3 = .ok (.invokevirtual 134, 3) := by decide +kernel
theorem dX3_yearBack_6 : decode cX3_yearBack 6 = .ok (.istore_n 3, 1) := by decide +kernel
theorem dX3_yearBack_7 : decode cX3_yearBack 7 = .ok (.aload_n 0, 1) := by decide +kernel
theorem dX3_yearBack_8 : decode cX3_yearBack 8 = .ok (.iload_n 1, 1) := by decide +kernel
theorem dX3_yearBack_9 : decode cX3_yearBack 9 = .ok (.iload_n 2, 1) := by decide +kernel
theorem dX3_yearBack_10 : decode cX3_yearBack 10 = .ok (.invokevirtual 127, 3) := by decide +kernel
theorem dX3_yearBack_13 : decode cX3_yearBack 13 = .ok (.iload_n 3, 1) := by decide +kernel
theorem dX3_yearBack_14 : decode cX3_yearBack 14 = .ok (.invokevirtual 137, 3) := by decide +kernel
theorem dX3_yearBack_17 : decode cX3_yearBack 17 = .ok (.ireturn, 1) := by decide +kernel
theorem dX3_trued_0 : decode cX3_trued 0 = .ok (.aload_n 0, 1) := by decide +kernel
theorem dX3_trued_1 : decode cX3_trued 1 = .ok (.iload_n 1, 1) := by decide +kernel
theorem dX3_trued_2 : decode cX3_trued 2 = .ok (.iload_n 2, 1) := by decide +kernel
theorem dX3_trued_3 : decode cX3_trued 3 = .ok (.invokevirtual 141, 3) := by decide +kernel
theorem dX3_trued_6 : decode cX3_trued 6 = .ok (.aload_n 0, 1) := by decide +kernel
theorem dX3_trued_7 : decode cX3_trued 7 = .ok (.getfield 21, 3) := by decide +kernel
theorem dX3_trued_10 : decode cX3_trued 10 = .ok (.iload_n 1, 1) := by decide +kernel
theorem dX3_trued_11 : decode cX3_trued 11 = .ok (.iload_n 2, 1) := by decide +kernel
theorem dX3_trued_12 : decode cX3_trued 12 = .ok (.invokevirtual 144, 3) := by decide +kernel
theorem dX3_trued_15 : decode cX3_trued 15 = .ok (.isub, 1) := by decide +kernel
theorem dX3_trued_16 : decode cX3_trued 16 = .ok (.ireturn, 1) := by decide +kernel
theorem dX3_fractionByBasis_0 : decode cX3_fractionByBasis 0 = .ok (.iload_n 2, 1) := by decide +kernel
theorem dX3_fractionByBasis_1 : decode cX3_fractionByBasis 1 = .ok (.iconst 4, 1) := by decide +kernel
theorem dX3_fractionByBasis_2 : decode cX3_fractionByBasis 2 = .ok (.idiv, 1) := by decide +kernel
theorem dX3_fractionByBasis_3 : decode cX3_fractionByBasis 3 = .ok (.istore 4, 2) := by decide +kernel
theorem dX3_fractionByBasis_5 : decode cX3_fractionByBasis 5 = .ok (.iload_n 3, 1) := by decide +kernel
theorem dX3_fractionByBasis_6 : decode cX3_fractionByBasis 6 = .ok (.iconst 1, 1) := by decide +kernel
theorem dX3_fractionByBasis_7 : decode cX3_fractionByBasis 7 = .ok (.if_icmp .ne 21, 3) := by decide +kernel
theorem dX3_fractionByBasis_10 : decode cX3_fractionByBasis 10 = .ok (.iload 4, 2) := by decide +kernel
theorem dX3_fractionByBasis_12 : decode cX3_fractionByBasis 12 = .ok (.ifCond .le 16, 3) := by decide +kernel
theorem dX3_fractionByBasis_15 : decode cX3_fractionByBasis 15 = .ok (.aload_n 0, 1) := by decide +kernel
theorem dX3_fractionByBasis_16 : decode cX3_fractionByBasis 16 = .ok (.getfield 21, 3) := by decide +kernel
theorem dX3_fractionByBasis_19 : decode cX3_fractionByBasis 19 = .ok (.iload_n 1, 1) := by decide +kernel
theorem dX3_fractionByBasis_20 : decode cX3_fractionByBasis 20 = .ok (.iload 4, 2) := by decide +kernel
theorem dX3_fractionByBasis_22 : decode cX3_fractionByBasis 22 = .ok (.iconst 1, 1) := by decide +kernel
theorem dX3_fractionByBasis_23 : decode cX3_fractionByBasis 23 = .ok (.isub, 1) := by decide +kernel
theorem dX3_fractionByBasis_24 : decode cX3_fractionByBasis 24 = .ok (.invokevirtual 123, 3) := by decide +kernel
theorem dX3_fractionByBasis_27 : decode cX3_fractionByBasis 27 = .ok (.ireturn, 1) := by decide +kernel
theorem dX3_fractionByBasis_28 : decode cX3_fractionByBasis 28 = .ok (.iload_n 3, 1) := by decide +kernel
theorem dX3_fractionByBasis_29 : decode cX3_fractionByBasis 29 = .ok (.iconst 1, 1) := by decide +kernel
theorem dX3_fractionByBasis_30 : decode cX3_fractionByBasis 30 = .ok (.if_icmp .ne 37, 3) := by decide +kernel
theorem dX3_fractionByBasis_33 : decode cX3_fractionByBasis 33 = .ok (.aload_n 0, 1) := by decide +kernel
theorem dX3_fractionByBasis_34 : decode cX3_fractionByBasis 34 = .ok (.getfield 12, 3) := by decide +kernel
theorem dX3_fractionByBasis_37 : decode cX3_fractionByBasis 37 = .ok (.getfield 147, 3) := by decide +kernel
theorem dX3_fractionByBasis_40 : decode cX3_fractionByBasis 40 = .ok (.iload_n 1, 1) := by decide +kernel
theorem dX3_fractionByBasis_41 : decode cX3_fractionByBasis 41 = .ok (.iaload, 1) := by decide +kernel
theorem dX3_fractionByBasis_42 : decode cX3_fractionByBasis 42 = .ok (.bipush (-2), 2) := by decide +kernel
theorem dX3_fractionByBasis_44 : decode cX3_fractionByBasis 44 = .ok (.if_icmp .eq 23, 3) := by decide +kernel
theorem dX3_fractionByBasis_47 : decode cX3_fractionByBasis 47 = .ok (.aload_n 0, 1) := by decide +kernel
theorem dX3_fractionByBasis_48 : decode cX3_fractionByBasis 48 = .ok (.getfield 12, 3) := by decide +kernel
theorem dX3_fractionByBasis_51 : decode cX3_fractionByBasis 51 = .ok (.getfield 147, 3) := by decide +kernel
theorem dX3_fractionByBasis_54 : decode cX3_fractionByBasis 54 = .ok (.iload_n 1, 1) := by decide +kernel
theorem dX3_fractionByBasis_55 : decode cX3_fractionByBasis 55 = .ok (.iaload, 1) := by decide +kernel
theorem dX3_fractionByBasis_56 : decode cX3_fractionByBasis 56 = .ok (.aload_n 0, 1) := by decide +kernel
theorem dX3_fractionByBasis_57 : decode cX3_fractionByBasis 57 = .ok (.getfield 12, 3) := by decide +kernel
theorem dX3_fractionByBasis_60 : decode cX3_fractionByBasis 60 = .ok (.getfield 91, 3) := by decide +kernel
theorem dX3_fractionByBasis_63 : decode cX3_fractionByBasis 63 = .ok (.invokestatic 150, 3) := by decide +kernel
theorem dX3_fractionByBasis_66 : decode cX3_fractionByBasis 66 = .ok (.ireturn, 1) := by decide +kernel
theorem dX3_fractionByBasis_67 : decode cX3_fractionByBasis 67 = .ok (.aload_n 0, 1) := by decide +kernel
theorem dX3_fractionByBasis_68 : decode cX3_fractionByBasis 68 = .ok (.iload_n 1, 1) := by decide +kernel
theorem dX3_fractionByBasis_69 : decode cX3_fractionByBasis 69 = .ok (.iload_n 2, 1) := by decide +kernel
theorem dX3_fractionByBasis_70 : decode cX3_fractionByBasis 70 = .ok (.invokevirtual 155, 3) := by decide +kernel
theorem dX3_fractionByBasis_73 : decode cX3_fractionByBasis 73 = .ok (.invokevirtual 131, 3) := by decide +kernel
theorem dX3_fractionByBasis_76 : decode cX3_fractionByBasis 76 = .ok (.ireturn, 1) := by decide +kernel
theorem dX3_endQuarter_0 : decode cX3_endQuarter 0 = .ok (.aload_n 0, 1) := by decide +kernel
theorem dX3_endQuarter_1 : decode cX3_endQuarter 1 = .ok (.getfield 21, 3) := by decide +kernel
theorem dX3_endQuarter_4 : decode cX3_endQuarter 4 = .ok (.getfield 55, 3) := by decide +kernel
theorem dX3_endQuarter_7 : decode cX3_endQuarter 7 = .ok (.bipush 63, 2) := by decide +kernel
theorem dX3_endQuarter_9 : decode cX3_endQuarter 9 = .ok (.if_icmp .lt 4, 3) := by decide +kernel
theorem dX3_endQuarter_12 : decode cX3_endQuarter 12 = .ok (.return_, 1) := by decide +kernel
theorem dX3_endQuarter_13 : decode cX3_endQuarter 13 = .ok (.iconst 0, 1) := by decide +kernel
theorem dX3_endQuarter_14 : decode cX3_endQuarter 14 = .ok (.istore_n 1, 1) := by decide +kernel
theorem dX3_endQuarter_15 : decode cX3_endQuarter 15 = .ok (.iload_n 1, 1) := by decide +kernel
theorem dX3_endQuarter_16 : decode cX3_endQuarter 16 = .ok (.aload_n 0, 1) := by decide +kernel
theorem dX3_endQuarter_17 : decode cX3_endQuarter 17 = .ok (.getfield 12, 3) := by decide +kernel
theorem dX3_endQuarter_20 : decode cX3_endQuarter 20 = .ok (.getfield 158, 3) := by decide +kernel
theorem dX3_endQuarter_23 : decode cX3_endQuarter 23 = .ok (.if_icmp .ge 70, 3) := by decide +kernel
theorem dX3_endQuarter_26 : decode cX3_endQuarter 26 = .ok (.aload_n 0, 1) := by decide +kernel
theorem dX3_endQuarter_27 : decode cX3_endQuarter 27 = .ok (.iload_n 1, 1) := by decide +kernel
theorem dX3_endQuarter_28 : decode cX3_endQuarter 28 = .ok (.aload_n 0, 1) := by decide +kernel
theorem dX3_endQuarter_29 : decode cX3_endQuarter 29 = .ok (.getfield 21, 3) := by decide +kernel
theorem dX3_endQuarter_32 : decode cX3_endQuarter 32 = .ok (.getfield 55, 3) := by decide +kernel
theorem dX3_endQuarter_35 : decode cX3_endQuarter 35 = .ok (.aload_n 0, 1) := by decide +kernel
theorem dX3_endQuarter_36 : decode cX3_endQuarter 36 = .ok (.getfield 12, 3) := by decide +kernel
theorem dX3_endQuarter_39 : decode cX3_endQuarter 39 = .ok (.getfield 161, 3) := by decide +kernel
theorem dX3_endQuarter_42 : decode cX3_endQuarter 42 = .ok (.iload_n 1, 1) := by decide +kernel
theorem dX3_endQuarter_43 : decode cX3_endQuarter 43 = .ok (.iaload, 1) := by decide +kernel
theorem dX3_endQuarter_44 : decode cX3_endQuarter 44 = .ok (.invokevirtual 164, 3) := by decide +kernel
theorem dX3_endQuarter_47 : decode cX3_endQuarter 47 = .ok (.istore_n 2, 1) := by decide +kernel
theorem dX3_endQuarter_48 : decode cX3_endQuarter 48 = .ok (.aload_n 0, 1) := by decide +kernel
theorem dX3_endQuarter_49 : decode cX3_endQuarter 49 = .ok (.iload_n 1, 1) := by decide +kernel
theorem dX3_endQuarter_50 : decode cX3_endQuarter 50 = .ok (.aload_n 0, 1) := by decide +kernel
theorem dX3_endQuarter_51 : decode cX3_endQuarter 51 = .ok (.getfield 21, 3) := by decide +kernel
theorem dX3_endQuarter_54 : decode cX3_endQuarter 54 = .ok (.getfield 55, 3) := by decide +kernel
theorem dX3_endQuarter_57 : decode cX3_endQuarter 57 = .ok (.invokevirtual 155, 3) := by decide +kernel
theorem dX3_endQuarter_60 : decode cX3_endQuarter 60 = .ok (.iload_n 2, 1) := by decide +kernel
theorem dX3_endQuarter_61 : decode cX3_endQuarter 61 = .ok (.invokevirtual 137, 3) := by decide +kernel
theorem dX3_endQuarter_64 : decode cX3_endQuarter 64 = .ok (.istore_n 3, 1) := by decide +kernel
theorem dX3_endQuarter_65 : decode cX3_endQuarter 65 = .ok (.aload_n 0, 1) := by decide +kernel
theorem dX3_endQuarter_66 : decode cX3_endQuarter 66 = .ok (.getfield 21, 3) := by decide +kernel
theorem dX3_endQuarter_69 : decode cX3_endQuarter 69 = .ok (.iload_n 1, 1) := by decide +kernel
theorem dX3_endQuarter_70 : decode cX3_endQuarter 70 = .ok (.iload_n 2, 1) := by decide +kernel
theorem dX3_endQuarter_71 : decode cX3_endQuarter 71 = .ok (.iload_n 3, 1) := by decide +kernel
theorem dX3_endQuarter_72 : decode cX3_endQuarter 72 = .ok (.invokevirtual 167, 3) := by decide +kernel
theorem dX3_endQuarter_75 : decode cX3_endQuarter 75 = .ok (.aload_n 0, 1) := by decide +kernel
theorem dX3_endQuarter_76 : decode cX3_endQuarter 76 = .ok (.getfield 21, 3) := by decide +kernel
theorem dX3_endQuarter_79 : decode cX3_endQuarter 79 = .ok (.iload_n 1, 1) := by decide +kernel
theorem dX3_endQuarter_80 : decode cX3_endQuarter 80 = .ok (.iconst 0, 1) := by decide +kernel
theorem dX3_endQuarter_81 : decode cX3_endQuarter 81 = .ok (.iload_n 3, 1) := by decide +kernel
theorem dX3_endQuarter_82 : decode cX3_endQuarter 82 = .ok (.bipush (-2), 2) := by decide +kernel
theorem dX3_endQuarter_84 : decode cX3_endQuarter 84 = .ok (.invokevirtual 170, 3) := by decide +kernel
theorem dX3_endQuarter_87 : decode cX3_endQuarter 87 = .ok (.iinc 1 1, 3) := by decide +kernel
theorem dX3_endQuarter_90 : decode cX3_endQuarter 90 = .ok (.goto (-75), 3) := by decide +kernel
theorem dX3_endQuarter_93 : decode cX3_endQuarter 93 = .ok (.aload_n 0, 1) := by decide +kernel
theorem dX3_endQuarter_94 : decode cX3_endQuarter 94 = .ok (.getfield 21, 3) := by decide +kernel
theorem dX3_endQuarter_97 : decode cX3_endQuarter 97 = .ok (.getfield 55, 3) := by decide +kernel
theorem dX3_endQuarter_100 : decode cX3_endQuarter 100 = .ok (.iconst 4, 1) := by decide +kernel
theorem dX3_endQuarter_101 : decode cX3_endQuarter 101 = .ok (.irem, 1) := by decide +kernel
theorem dX3_endQuarter_102 : decode cX3_endQuarter 102 = .ok (.istore_n 1, 1) := by decide +kernel
theorem dX3_endQuarter_103 : decode cX3_endQuarter 103 = .ok (.iconst 0, 1) := by decide +kernel
theorem dX3_endQuarter_104 : decode cX3_endQuarter 104 = .ok (.istore_n 2, 1) := by decide +kernel
theorem dX3_endQuarter_105 : decode cX3_endQuarter 105 = .ok (.iload_n 2, 1) := by decide +kernel
theorem dX3_endQuarter_106 : decode cX3_endQuarter 106 = .ok (.aload_n 0, 1) := by decide +kernel
theorem dX3_endQuarter_107 : decode cX3_endQuarter 107 = .ok (.getfield 21, 3) := by decide +kernel
theorem dX3_endQuarter_110 : decode cX3_endQuarter 110 = .ok (.getfield 174, 3) := by decide +kernel
theorem dX3_endQuarter_113 : decode cX3_endQuarter 113 = .ok (.if_icmp .ge 35, 3) := by decide +kernel
theorem dX3_endQuarter_116 : decode cX3_endQuarter 116 = .ok (.aload_n 0, 1) := by decide +kernel
theorem dX3_endQuarter_117 : decode cX3_endQuarter 117 = .ok (.getfield 21, 3) := by decide +kernel
theorem dX3_endQuarter_120 : decode cX3_endQuarter 120 = .ok (.getfield 175, 3) := by decide +kernel
theorem dX3_endQuarter_123 : decode cX3_endQuarter 123 = .ok (.iload_n 2, 1) := by decide +kernel
theorem dX3_endQuarter_124 : decode cX3_endQuarter 124 = .ok (.aaload, 1) := by decide +kernel
theorem dX3_endQuarter_125 : decode cX3_endQuarter 125 = .ok (.getfield 178, 3) := by decide +kernel
theorem dX3_endQuarter_128 : decode cX3_endQuarter 128 = .ok (.iload_n 1, 1) := by decide +kernel
theorem dX3_endQuarter_129 : decode cX3_endQuarter 129 = .ok (.aload_n 0, 1) := by decide +kernel
theorem dX3_endQuarter_130 : decode cX3_endQuarter 130 = .ok (.getfield 21, 3) := by decide +kernel
theorem dX3_endQuarter_133 : decode cX3_endQuarter 133 = .ok (.getfield 175, 3) := by decide +kernel
theorem dX3_endQuarter_136 : decode cX3_endQuarter 136 = .ok (.iload_n 2, 1) := by decide +kernel
theorem dX3_endQuarter_137 : decode cX3_endQuarter 137 = .ok (.aaload, 1) := by decide +kernel
theorem dX3_endQuarter_138 : decode cX3_endQuarter 138 = .ok (.getfield 183, 3) := by decide +kernel
theorem dX3_endQuarter_141 : decode cX3_endQuarter 141 = .ok (.iastore, 1) := by decide +kernel
theorem dX3_endQuarter_142 : decode cX3_endQuarter 142 = .ok (.iinc 2 1, 3) := by decide +kernel
theorem dX3_endQuarter_145 : decode cX3_endQuarter 145 = .ok (.goto (-40), 3) := by decide +kernel
theorem dX3_endQuarter_148 : decode cX3_endQuarter 148 = .ok (.iload_n 1, 1) := by decide +kernel
theorem dX3_endQuarter_149 : decode cX3_endQuarter 149 = .ok (.iconst 3, 1) := by decide +kernel
theorem dX3_endQuarter_150 : decode cX3_endQuarter 150 = .ok (.if_icmp .ne 7, 3) := by decide +kernel
theorem dX3_endQuarter_153 : decode cX3_endQuarter 153 = .ok (.aload_n 0, 1) := by decide +kernel
theorem dX3_endQuarter_154 : decode cX3_endQuarter 154 = .ok (.invokevirtual 186, 3) := by decide +kernel
theorem dX3_endQuarter_157 : decode cX3_endQuarter 157 = .ok (.aload_n 0, 1) := by decide +kernel
theorem dX3_endQuarter_158 : decode cX3_endQuarter 158 = .ok (.getfield 21, 3) := by decide +kernel
theorem dX3_endQuarter_161 : decode cX3_endQuarter 161 = .ok (.dup, 1) := by decide +kernel
theorem dX3_endQuarter_162 : decode cX3_endQuarter 162 = .ok (.getfield 55, 3) := by decide +kernel
theorem dX3_endQuarter_165 : decode cX3_endQuarter 165 = .ok (.iconst 1, 1) := by decide +kernel
theorem dX3_endQuarter_166 : decode cX3_endQuarter 166 = .ok (.iadd, 1) := by decide +kernel
theorem dX3_endQuarter_167 : decode cX3_endQuarter 167 = .ok (.putfield 55, 3) := by decide +kernel
theorem dX3_endQuarter_170 : decode cX3_endQuarter 170 = .ok (.aload_n 0, 1) := by decide +kernel
theorem dX3_endQuarter_171 : decode cX3_endQuarter 171 = .ok (.invokevirtual 48, 3) := by decide +kernel
theorem dX3_endQuarter_174 : decode cX3_endQuarter 174 = .ok (.return_, 1) := by decide +kernel
theorem dX3_endYear_0 : decode cX3_endYear 0 = .ok (.aload_n 0, 1) := by decide +kernel
theorem dX3_endYear_1 : decode cX3_endYear 1 = .ok (.invokevirtual 119, 3) := by decide +kernel
theorem dX3_endYear_4 : decode cX3_endYear 4 = .ok (.istore_n 1, 1) := by decide +kernel
theorem dX3_endYear_5 : decode cX3_endYear 5 = .ok (.iconst 0, 1) := by decide +kernel
theorem dX3_endYear_6 : decode cX3_endYear 6 = .ok (.istore_n 2, 1) := by decide +kernel
theorem dX3_endYear_7 : decode cX3_endYear 7 = .ok (.iload_n 2, 1) := by decide +kernel
theorem dX3_endYear_8 : decode cX3_endYear 8 = .ok (.aload_n 0, 1) := by decide +kernel
theorem dX3_endYear_9 : decode cX3_endYear 9 = .ok (.getfield 12, 3) := by decide +kernel
theorem dX3_endYear_12 : decode cX3_endYear 12 = .ok (.getfield 158, 3) := by decide +kernel
theorem dX3_endYear_15 : decode cX3_endYear 15 = .ok (.if_icmp .ge 64, 3) := by decide +kernel
theorem dX3_endYear_18 : decode cX3_endYear 18 = .ok (.aload_n 0, 1) := by decide +kernel
theorem dX3_endYear_19 : decode cX3_endYear 19 = .ok (.iload_n 2, 1) := by decide +kernel
theorem dX3_endYear_20 : decode cX3_endYear 20 = .ok (.iload_n 1, 1) := by decide +kernel
theorem dX3_endYear_21 : decode cX3_endYear 21 = .ok (.invokevirtual 127, 3) := by decide +kernel
theorem dX3_endYear_24 : decode cX3_endYear 24 = .ok (.astore_n 3, 1) := by decide +kernel
theorem dX3_endYear_25 : decode cX3_endYear 25 = .ok (.aload_n 3, 1) := by decide +kernel
theorem dX3_endYear_26 : decode cX3_endYear 26 = .ok (.invokevirtual 131, 3) := by decide +kernel
theorem dX3_endYear_29 : decode cX3_endYear 29 = .ok (.istore 4, 2) := by decide +kernel
theorem dX3_endYear_31 : decode cX3_endYear 31 = .ok (.aload_n 3, 1) := by decide +kernel
theorem dX3_endYear_32 : decode cX3_endYear 32 = .ok (.iload 4, 2) := by decide +kernel
theorem dX3_endYear_34 : decode cX3_endYear 34 = .ok (.invokevirtual 137, 3) := by decide +kernel
theorem dX3_endYear_37 : decode cX3_endYear 37 = .ok (.istore 5, 2) := by decide +kernel
theorem dX3_endYear_39 : decode cX3_endYear 39 = .ok (.aload_n 0, 1) := by decide +kernel
theorem dX3_endYear_40 : decode cX3_endYear 40 = .ok (.getfield 21, 3) := by decide +kernel
theorem dX3_endYear_43 : decode cX3_endYear 43 = .ok (.iload_n 2, 1) := by decide +kernel
theorem dX3_endYear_44 : decode cX3_endYear 44 = .ok (.iload_n 1, 1) := by decide +kernel
theorem dX3_endYear_45 : decode cX3_endYear 45 = .ok (.iload 4, 2) := by decide +kernel
theorem dX3_endYear_47 : decode cX3_endYear 47 = .ok (.invokevirtual 189, 3) := by decide +kernel
theorem dX3_endYear_50 : decode cX3_endYear 50 = .ok (.aload_n 0, 1) := by decide +kernel
theorem dX3_endYear_51 : decode cX3_endYear 51 = .ok (.getfield 21, 3) := by decide +kernel
theorem dX3_endYear_54 : decode cX3_endYear 54 = .ok (.iload_n 2, 1) := by decide +kernel
theorem dX3_endYear_55 : decode cX3_endYear 55 = .ok (.iconst 1, 1) := by decide +kernel
theorem dX3_endYear_56 : decode cX3_endYear 56 = .ok (.iload 5, 2) := by decide +kernel
theorem dX3_endYear_58 : decode cX3_endYear 58 = .ok (.aload_n 0, 1) := by decide +kernel
theorem dX3_endYear_59 : decode cX3_endYear 59 = .ok (.getfield 21, 3) := by decide +kernel
theorem dX3_endYear_62 : decode cX3_endYear 62 = .ok (.iload_n 2, 1) := by decide +kernel
theorem dX3_endYear_63 : decode cX3_endYear 63 = .ok (.iload_n 1, 1) := by decide +kernel
theorem dX3_endYear_64 : decode cX3_endYear 64 = .ok (.invokevirtual 144, 3) := by decide +kernel
theorem dX3_endYear_67 : decode cX3_endYear 67 = .ok (.isub, 1) := by decide +kernel
theorem dX3_endYear_68 : decode cX3_endYear 68 = .ok (.bipush (-2), 2) := by decide +kernel
theorem dX3_endYear_70 : decode cX3_endYear 70 = .ok (.invokevirtual 170, 3) := by decide +kernel
theorem dX3_endYear_73 : decode cX3_endYear 73 = .ok (.iinc 2 1, 3) := by decide +kernel
theorem dX3_endYear_76 : decode cX3_endYear 76 = .ok (.goto (-69), 3) := by decide +kernel
theorem dX3_endYear_79 : decode cX3_endYear 79 = .ok (.iconst 0, 1) := by decide +kernel
theorem dX3_endYear_80 : decode cX3_endYear 80 = .ok (.istore_n 2, 1) := by decide +kernel
theorem dX3_endYear_81 : decode cX3_endYear 81 = .ok (.iload_n 2, 1) := by decide +kernel
theorem dX3_endYear_82 : decode cX3_endYear 82 = .ok (.aload_n 0, 1) := by decide +kernel
theorem dX3_endYear_83 : decode cX3_endYear 83 = .ok (.getfield 21, 3) := by decide +kernel
theorem dX3_endYear_86 : decode cX3_endYear 86 = .ok (.getfield 174, 3) := by decide +kernel
theorem dX3_endYear_89 : decode cX3_endYear 89 = .ok (.if_icmp .ge 30, 3) := by decide +kernel
theorem dX3_endYear_92 : decode cX3_endYear 92 = .ok (.aload_n 0, 1) := by decide +kernel
theorem dX3_endYear_93 : decode cX3_endYear 93 = .ok (.getfield 21, 3) := by decide +kernel
theorem dX3_endYear_96 : decode cX3_endYear 96 = .ok (.getfield 175, 3) := by decide +kernel
theorem dX3_endYear_99 : decode cX3_endYear 99 = .ok (.iload_n 2, 1) := by decide +kernel
theorem dX3_endYear_100 : decode cX3_endYear 100 = .ok (.aaload, 1) := by decide +kernel
theorem dX3_endYear_101 : decode cX3_endYear 101 = .ok (.getfield 192, 3) := by decide +kernel
theorem dX3_endYear_104 : decode cX3_endYear 104 = .ok (.ifCond .ne 9, 3) := by decide +kernel
theorem dX3_endYear_107 : decode cX3_endYear 107 = .ok (.aload_n 0, 1) := by decide +kernel
theorem dX3_endYear_108 : decode cX3_endYear 108 = .ok (.iload_n 2, 1) := by decide +kernel
theorem dX3_endYear_109 : decode cX3_endYear 109 = .ok (.iload_n 1, 1) := by decide +kernel
theorem dX3_endYear_110 : decode cX3_endYear 110 = .ok (.invokevirtual 196, 3) := by decide +kernel
theorem dX3_endYear_113 : decode cX3_endYear 113 = .ok (.iinc 2 1, 3) := by decide +kernel
theorem dX3_endYear_116 : decode cX3_endYear 116 = .ok (.goto (-35), 3) := by decide +kernel
theorem dX3_endYear_119 : decode cX3_endYear 119 = .ok (.return_, 1) := by decide +kernel
theorem dX3_endInterval_0 : decode cX3_endInterval 0 = .ok (.aload_n 0, 1) := by decide +kernel
theorem dX3_endInterval_1 : decode cX3_endInterval 1 = .ok (.getfield 21, 3) := by decide +kernel
theorem dX3_endInterval_4 : decode cX3_endInterval 4 = .ok (.getfield 175, 3) := by decide +kernel
theorem dX3_endInterval_7 : decode cX3_endInterval 7 = .ok (.iload_n 1, 1) := by decide +kernel
theorem dX3_endInterval_8 : decode cX3_endInterval 8 = .ok (.aaload, 1) := by decide +kernel
theorem dX3_endInterval_9 : decode cX3_endInterval 9 = .ok (.astore_n 3, 1) := by decide +kernel
theorem dX3_endInterval_10 : decode cX3_endInterval 10 = .ok (.aload_n 0, 1) := by decide +kernel
theorem dX3_endInterval_11 : decode cX3_endInterval 11 = .ok (.aload_n 3, 1) := by decide +kernel
theorem dX3_endInterval_12 : decode cX3_endInterval 12 = .ok (.aload_n 3, 1) := by decide +kernel
theorem dX3_endInterval_13 : decode cX3_endInterval 13 = .ok (.getfield 183, 3) := by decide +kernel
theorem dX3_endInterval_16 : decode cX3_endInterval 16 = .ok (.aload_n 0, 1) := by decide +kernel
theorem dX3_endInterval_17 : decode cX3_endInterval 17 = .ok (.getfield 21, 3) := by decide +kernel
theorem dX3_endInterval_20 : decode cX3_endInterval 20 = .ok (.aload_n 3, 1) := by decide +kernel
theorem dX3_endInterval_21 : decode cX3_endInterval 21 = .ok (.getfield 200, 3) := by decide +kernel
theorem dX3_endInterval_24 : decode cX3_endInterval 24 = .ok (.iload_n 2, 1) := by decide +kernel
theorem dX3_endInterval_25 : decode cX3_endInterval 25 = .ok (.invokevirtual 123, 3) := by decide +kernel
theorem dX3_endInterval_28 : decode cX3_endInterval 28 = .ok (.invokevirtual 203, 3) := by decide +kernel
theorem dX3_endInterval_31 : decode cX3_endInterval 31 = .ok (.istore 4, 2) := by decide +kernel
theorem dX3_endInterval_33 : decode cX3_endInterval 33 = .ok (.aload_n 3, 1) := by decide +kernel
theorem dX3_endInterval_34 : decode cX3_endInterval 34 = .ok (.getfield 207, 3) := by decide +kernel
theorem dX3_endInterval_37 : decode cX3_endInterval 37 = .ok (.ifCond .ne 38, 3) := by decide +kernel
theorem dX3_endInterval_40 : decode cX3_endInterval 40 = .ok (.aload_n 3, 1) := by decide +kernel
theorem dX3_endInterval_41 : decode cX3_endInterval 41 = .ok (.iload 4, 2) := by decide +kernel
theorem dX3_endInterval_43 : decode cX3_endInterval 43 = .ok (.putfield 210, 3) := by decide +kernel
theorem dX3_endInterval_46 : decode cX3_endInterval 46 = .ok (.aload_n 3, 1) := by decide +kernel
theorem dX3_endInterval_47 : decode cX3_endInterval 47 = .ok (.aload_n 0, 1) := by decide +kernel
theorem dX3_endInterval_48 : decode cX3_endInterval 48 = .ok (.aload_n 3, 1) := by decide +kernel
theorem dX3_endInterval_49 : decode cX3_endInterval 49 = .ok (.iload 4, 2) := by decide +kernel
theorem dX3_endInterval_51 : decode cX3_endInterval 51 = .ok (.invokevirtual 213, 3) := by decide +kernel
theorem dX3_endInterval_54 : decode cX3_endInterval 54 = .ok (.putfield 217, 3) := by decide +kernel
theorem dX3_endInterval_57 : decode cX3_endInterval 57 = .ok (.aload_n 3, 1) := by decide +kernel
theorem dX3_endInterval_58 : decode cX3_endInterval 58 = .ok (.aload_n 3, 1) := by decide +kernel
theorem dX3_endInterval_59 : decode cX3_endInterval 59 = .ok (.getfield 217, 3) := by decide +kernel
theorem dX3_endInterval_62 : decode cX3_endInterval 62 = .ok (.putfield 220, 3) := by decide +kernel
theorem dX3_endInterval_65 : decode cX3_endInterval 65 = .ok (.aload_n 3, 1) := by decide +kernel
theorem dX3_endInterval_66 : decode cX3_endInterval 66 = .ok (.iload 4, 2) := by decide +kernel
theorem dX3_endInterval_68 : decode cX3_endInterval 68 = .ok (.iconst 0, 1) := by decide +kernel
theorem dX3_endInterval_69 : decode cX3_endInterval 69 = .ok (.invokevirtual 223, 3) := by decide +kernel
theorem dX3_endInterval_72 : decode cX3_endInterval 72 = .ok (.goto 39, 3) := by decide +kernel
theorem dX3_endInterval_75 : decode cX3_endInterval 75 = .ok (.aload_n 0, 1) := by decide +kernel
theorem dX3_endInterval_76 : decode cX3_endInterval 76 = .ok (.aload_n 3, 1) := by decide +kernel
theorem dX3_endInterval_77 : decode cX3_endInterval 77 = .ok (.iload 4, 2) := by decide +kernel
theorem dX3_endInterval_79 : decode cX3_endInterval 79 = .ok (.aload_n 3, 1) := by decide +kernel
theorem dX3_endInterval_80 : decode cX3_endInterval 80 = .ok (.getfield 210, 3) := by decide +kernel
theorem dX3_endInterval_83 : decode cX3_endInterval 83 = .ok (.invokevirtual 224, 3) := by decide +kernel
theorem dX3_endInterval_86 : decode cX3_endInterval 86 = .ok (.istore 5, 2) := by decide +kernel
theorem dX3_endInterval_88 : decode cX3_endInterval 88 = .ok (.aload_n 0, 1) := by decide +kernel
theorem dX3_endInterval_89 : decode cX3_endInterval 89 = .ok (.getfield 21, 3) := by decide +kernel
theorem dX3_endInterval_92 : decode cX3_endInterval 92 = .ok (.aload_n 3, 1) := by decide +kernel
theorem dX3_endInterval_93 : decode cX3_endInterval 93 = .ok (.getfield 200, 3) := by decide +kernel
theorem dX3_endInterval_96 : decode cX3_endInterval 96 = .ok (.iconst 2, 1) := by decide +kernel
theorem dX3_endInterval_97 : decode cX3_endInterval 97 = .ok (.iload 5, 2) := by decide +kernel
theorem dX3_endInterval_99 : decode cX3_endInterval 99 = .ok (.iload_n 1, 1) := by decide +kernel
theorem dX3_endInterval_100 : decode cX3_endInterval 100 = .ok (.invokevirtual 170, 3) := by decide +kernel
theorem dX3_endInterval_103 : decode cX3_endInterval 103 = .ok (.aload_n 3, 1) := by decide +kernel
theorem dX3_endInterval_104 : decode cX3_endInterval 104 = .ok (.iload 4, 2) := by decide +kernel
theorem dX3_endInterval_106 : decode cX3_endInterval 106 = .ok (.iload 5, 2) := by decide +kernel
theorem dX3_endInterval_108 : decode cX3_endInterval 108 = .ok (.invokevirtual 223, 3) := by decide +kernel
theorem dX3_endInterval_111 : decode cX3_endInterval 111 = .ok (.aload_n 3, 1) := by decide +kernel
theorem dX3_endInterval_112 : decode cX3_endInterval 112 = .ok (.getfield 227, 3) := by decide +kernel
theorem dX3_endInterval_115 : decode cX3_endInterval 115 = .ok (.ifCond .eq 11, 3) := by decide +kernel
theorem dX3_endInterval_118 : decode cX3_endInterval 118 = .ok (.aload_n 3, 1) := by decide +kernel
theorem dX3_endInterval_119 : decode cX3_endInterval 119 = .ok (.getfield 227, 3) := by decide +kernel
theorem dX3_endInterval_122 : decode cX3_endInterval 122 = .ok (.iconst 1, 1) := by decide +kernel
theorem dX3_endInterval_123 : decode cX3_endInterval 123 = .ok (.if_icmp .ne 9, 3) := by decide +kernel
theorem dX3_endInterval_126 : decode cX3_endInterval 126 = .ok (.aload_n 0, 1) := by decide +kernel
theorem dX3_endInterval_127 : decode cX3_endInterval 127 = .ok (.aload_n 3, 1) := by decide +kernel
theorem dX3_endInterval_128 : decode cX3_endInterval 128 = .ok (.iload_n 1, 1) := by decide +kernel
theorem dX3_endInterval_129 : decode cX3_endInterval 129 = .ok (.invokevirtual 230, 3) := by decide +kernel
theorem dX3_endInterval_132 : decode cX3_endInterval 132 = .ok (.aload_n 3, 1) := by decide +kernel
theorem dX3_endInterval_133 : decode cX3_endInterval 133 = .ok (.aload_n 3, 1) := by decide +kernel
theorem dX3_endInterval_134 : decode cX3_endInterval 134 = .ok (.getfield 227, 3) := by decide +kernel
theorem dX3_endInterval_137 : decode cX3_endInterval 137 = .ok (.bipush (-2), 2) := by decide +kernel
theorem dX3_endInterval_139 : decode cX3_endInterval 139 = .ok (.if_icmp .ne 14, 3) := by decide +kernel
theorem dX3_endInterval_142 : decode cX3_endInterval 142 = .ok (.aload_n 3, 1) := by decide +kernel
theorem dX3_endInterval_143 : decode cX3_endInterval 143 = .ok (.getfield 207, 3) := by decide +kernel
theorem dX3_endInterval_146 : decode cX3_endInterval 146 = .ok (.aload_n 3, 1) := by decide +kernel
theorem dX3_endInterval_147 : decode cX3_endInterval 147 = .ok (.getfield 234, 3) := by decide +kernel
theorem dX3_endInterval_150 : decode cX3_endInterval 150 = .ok (.if_icmp .ne 7, 3) := by decide +kernel
theorem dX3_endInterval_153 : decode cX3_endInterval 153 = .ok (.iconst 1, 1) := by decide +kernel
theorem dX3_endInterval_154 : decode cX3_endInterval 154 = .ok (.goto 4, 3) := by decide +kernel
theorem dX3_endInterval_157 : decode cX3_endInterval 157 = .ok (.iconst 0, 1) := by decide +kernel
theorem dX3_endInterval_158 : decode cX3_endInterval 158 = .ok (.putfield 192, 3) := by decide +kernel
theorem dX3_endInterval_161 : decode cX3_endInterval 161 = .ok (.aload_n 3, 1) := by decide +kernel
theorem dX3_endInterval_162 : decode cX3_endInterval 162 = .ok (.aload_n 3, 1) := by decide +kernel
theorem dX3_endInterval_163 : decode cX3_endInterval 163 = .ok (.getfield 237, 3) := by decide +kernel
theorem dX3_endInterval_166 : decode cX3_endInterval 166 = .ok (.putfield 200, 3) := by decide +kernel
theorem dX3_endInterval_169 : decode cX3_endInterval 169 = .ok (.return_, 1) := by decide +kernel
theorem dX3_bookFinal_0 : decode cX3_bookFinal 0 = .ok (.aload_n 0, 1) := by decide +kernel
theorem dX3_bookFinal_1 : decode cX3_bookFinal 1 = .ok (.aload_n 1, 1) := by decide +kernel
theorem dX3_bookFinal_2 : decode cX3_bookFinal 2 = .ok (.aload_n 1, 1) := by decide +kernel
theorem dX3_bookFinal_3 : decode cX3_bookFinal 3 = .ok (.getfield 227, 3) := by decide +kernel
theorem dX3_bookFinal_6 : decode cX3_bookFinal 6 = .ok (.aload_n 1, 1) := by decide +kernel
theorem dX3_bookFinal_7 : decode cX3_bookFinal 7 = .ok (.getfield 234, 3) := by decide +kernel
theorem dX3_bookFinal_10 : decode cX3_bookFinal 10 = .ok (.aload_n 1, 1) := by decide +kernel
theorem dX3_bookFinal_11 : decode cX3_bookFinal 11 = .ok (.getfield 207, 3) := by decide +kernel
theorem dX3_bookFinal_14 : decode cX3_bookFinal 14 = .ok (.isub, 1) := by decide +kernel
theorem dX3_bookFinal_15 : decode cX3_bookFinal 15 = .ok (.aload_n 1, 1) := by decide +kernel
theorem dX3_bookFinal_16 : decode cX3_bookFinal 16 = .ok (.getfield 210, 3) := by decide +kernel
theorem dX3_bookFinal_19 : decode cX3_bookFinal 19 = .ok (.invokevirtual 240, 3) := by decide +kernel
theorem dX3_bookFinal_22 : decode cX3_bookFinal 22 = .ok (.istore_n 3, 1) := by decide +kernel
theorem dX3_bookFinal_23 : decode cX3_bookFinal 23 = .ok (.aload_n 1, 1) := by decide +kernel
theorem dX3_bookFinal_24 : decode cX3_bookFinal 24 = .ok (.getfield 244, 3) := by decide +kernel
theorem dX3_bookFinal_27 : decode cX3_bookFinal 27 = .ok (.iconst (-1), 1) := by decide +kernel
theorem dX3_bookFinal_28 : decode cX3_bookFinal 28 = .ok (.if_icmp .eq 12, 3) := by decide +kernel
theorem dX3_bookFinal_31 : decode cX3_bookFinal 31 = .ok (.iload_n 3, 1) := by decide +kernel
theorem dX3_bookFinal_32 : decode cX3_bookFinal 32 = .ok (.aload_n 1, 1) := by decide +kernel
theorem dX3_bookFinal_33 : decode cX3_bookFinal 33 = .ok (.getfield 244, 3) := by decide +kernel
theorem dX3_bookFinal_36 : decode cX3_bookFinal 36 = .ok (.invokestatic 150, 3) := by decide +kernel
theorem dX3_bookFinal_39 : decode cX3_bookFinal 39 = .ok (.istore_n 3, 1) := by decide +kernel
theorem dX3_bookFinal_40 : decode cX3_bookFinal 40 = .ok (.aload_n 1, 1) := by decide +kernel
theorem dX3_bookFinal_41 : decode cX3_bookFinal 41 = .ok (.iconst 1, 1) := by decide +kernel
theorem dX3_bookFinal_42 : decode cX3_bookFinal 42 = .ok (.putfield 247, 3) := by decide +kernel
theorem dX3_bookFinal_45 : decode cX3_bookFinal 45 = .ok (.aload_n 1, 1) := by decide +kernel
theorem dX3_bookFinal_46 : decode cX3_bookFinal 46 = .ok (.iload_n 3, 1) := by decide +kernel
theorem dX3_bookFinal_47 : decode cX3_bookFinal 47 = .ok (.putfield 250, 3) := by decide +kernel
theorem dX3_bookFinal_50 : decode cX3_bookFinal 50 = .ok (.aload_n 1, 1) := by decide +kernel
theorem dX3_bookFinal_51 : decode cX3_bookFinal 51 = .ok (.dup, 1) := by decide +kernel
theorem dX3_bookFinal_52 : decode cX3_bookFinal 52 = .ok (.getfield 220, 3) := by decide +kernel
theorem dX3_bookFinal_55 : decode cX3_bookFinal 55 = .ok (.iload_n 3, 1) := by decide +kernel
theorem dX3_bookFinal_56 : decode cX3_bookFinal 56 = .ok (.iadd, 1) := by decide +kernel
theorem dX3_bookFinal_57 : decode cX3_bookFinal 57 = .ok (.putfield 220, 3) := by decide +kernel
theorem dX3_bookFinal_60 : decode cX3_bookFinal 60 = .ok (.aload_n 0, 1) := by decide +kernel
theorem dX3_bookFinal_61 : decode cX3_bookFinal 61 = .ok (.getfield 21, 3) := by decide +kernel
theorem dX3_bookFinal_64 : decode cX3_bookFinal 64 = .ok (.aload_n 1, 1) := by decide +kernel
theorem dX3_bookFinal_65 : decode cX3_bookFinal 65 = .ok (.getfield 200, 3) := by decide +kernel
theorem dX3_bookFinal_68 : decode cX3_bookFinal 68 = .ok (.iconst 3, 1) := by decide +kernel
theorem dX3_bookFinal_69 : decode cX3_bookFinal 69 = .ok (.iload_n 3, 1) := by decide +kernel
theorem dX3_bookFinal_70 : decode cX3_bookFinal 70 = .ok (.iload_n 2, 1) := by decide +kernel
theorem dX3_bookFinal_71 : decode cX3_bookFinal 71 = .ok (.invokevirtual 170, 3) := by decide +kernel
theorem dX3_bookFinal_74 : decode cX3_bookFinal 74 = .ok (.return_, 1) := by decide +kernel
theorem dX3_worthNow_0 : decode cX3_worthNow 0 = .ok (.aload_n 0, 1) := by decide +kernel
theorem dX3_worthNow_1 : decode cX3_worthNow 1 = .ok (.aload_n 1, 1) := by decide +kernel
theorem dX3_worthNow_2 : decode cX3_worthNow 2 = .ok (.iload_n 2, 1) := by decide +kernel
theorem dX3_worthNow_3 : decode cX3_worthNow 3 = .ok (.aload_n 0, 1) := by decide +kernel
theorem dX3_worthNow_4 : decode cX3_worthNow 4 = .ok (.aload_n 1, 1) := by decide +kernel
theorem dX3_worthNow_5 : decode cX3_worthNow 5 = .ok (.getfield 200, 3) := by decide +kernel
theorem dX3_worthNow_8 : decode cX3_worthNow 8 = .ok (.aload_n 0, 1) := by decide +kernel
theorem dX3_worthNow_9 : decode cX3_worthNow 9 = .ok (.invokevirtual 119, 3) := by decide +kernel
theorem dX3_worthNow_12 : decode cX3_worthNow 12 = .ok (.invokevirtual 134, 3) := by decide +kernel
theorem dX3_worthNow_15 : decode cX3_worthNow 15 = .ok (.invokevirtual 203, 3) := by decide +kernel
theorem dX3_worthNow_18 : decode cX3_worthNow 18 = .ok (.ireturn, 1) := by decide +kernel
theorem dX3_worthBy_0 : decode cX3_worthBy 0 = .ok (.aload_n 1, 1) := by decide +kernel
theorem dX3_worthBy_1 : decode cX3_worthBy 1 = .ok (.getfield 207, 3) := by decide +kernel
theorem dX3_worthBy_4 : decode cX3_worthBy 4 = .ok (.ifCond .ne 10, 3) := by decide +kernel
theorem dX3_worthBy_7 : decode cX3_worthBy 7 = .ok (.aload_n 0, 1) := by decide +kernel
theorem dX3_worthBy_8 : decode cX3_worthBy 8 = .ok (.iload_n 2, 1) := by decide +kernel
theorem dX3_worthBy_9 : decode cX3_worthBy 9 = .ok (.iload_n 3, 1) := by decide +kernel
theorem dX3_worthBy_10 : decode cX3_worthBy 10 = .ok (.invokevirtual 253, 3) := by decide +kernel
theorem dX3_worthBy_13 : decode cX3_worthBy 13 = .ok (.ireturn, 1) := by decide +kernel
theorem dX3_worthBy_14 : decode cX3_worthBy 14 = .ok (.iconst 0, 1) := by decide +kernel
theorem dX3_worthBy_15 : decode cX3_worthBy 15 = .ok (.istore 4, 2) := by decide +kernel
theorem dX3_worthBy_17 : decode cX3_worthBy 17 = .ok (.iconst 0, 1) := by decide +kernel
theorem dX3_worthBy_18 : decode cX3_worthBy 18 = .ok (.istore 5, 2) := by decide +kernel
theorem dX3_worthBy_20 : decode cX3_worthBy 20 = .ok (.iload 5, 2) := by decide +kernel
theorem dX3_worthBy_22 : decode cX3_worthBy 22 = .ok (.iconst 4, 1) := by decide +kernel
theorem dX3_worthBy_23 : decode cX3_worthBy 23 = .ok (.if_icmp .ge 56, 3) := by decide +kernel
theorem dX3_worthBy_26 : decode cX3_worthBy 26 = .ok (.iload 5, 2) := by decide +kernel
theorem dX3_worthBy_28 : decode cX3_worthBy 28 = .ok (.aload_n 0, 1) := by decide +kernel
theorem dX3_worthBy_29 : decode cX3_worthBy 29 = .ok (.getfield 21, 3) := by decide +kernel
theorem dX3_worthBy_32 : decode cX3_worthBy 32 = .ok (.getfield 55, 3) := by decide +kernel
theorem dX3_worthBy_35 : decode cX3_worthBy 35 = .ok (.iconst 4, 1) := by decide +kernel
theorem dX3_worthBy_36 : decode cX3_worthBy 36 = .ok (.irem, 1) := by decide +kernel
theorem dX3_worthBy_37 : decode cX3_worthBy 37 = .ok (.if_icmp .ge 7, 3) := by decide +kernel
theorem dX3_worthBy_40 : decode cX3_worthBy 40 = .ok (.iconst 1, 1) := by decide +kernel
theorem dX3_worthBy_41 : decode cX3_worthBy 41 = .ok (.goto 4, 3) := by decide +kernel
theorem dX3_worthBy_44 : decode cX3_worthBy 44 = .ok (.iconst 0, 1) := by decide +kernel
theorem dX3_worthBy_45 : decode cX3_worthBy 45 = .ok (.istore 6, 2) := by decide +kernel
theorem dX3_worthBy_47 : decode cX3_worthBy 47 = .ok (.iload 4, 2) := by decide +kernel
theorem dX3_worthBy_49 : decode cX3_worthBy 49 = .ok (.aload_n 0, 1) := by decide +kernel
theorem dX3_worthBy_50 : decode cX3_worthBy 50 = .ok (.iload 6, 2) := by decide +kernel
theorem dX3_worthBy_52 : decode cX3_worthBy 52 = .ok (.ifCond .eq 13, 3) := by decide +kernel
theorem dX3_worthBy_55 : decode cX3_worthBy 55 = .ok (.aload_n 1, 1) := by decide +kernel
theorem dX3_worthBy_56 : decode cX3_worthBy 56 = .ok (.getfield 178, 3) := by decide +kernel
theorem dX3_worthBy_59 : decode cX3_worthBy 59 = .ok (.iload 5, 2) := by decide +kernel
theorem dX3_worthBy_61 : decode cX3_worthBy 61 = .ok (.iaload, 1) := by decide +kernel
theorem dX3_worthBy_62 : decode cX3_worthBy 62 = .ok (.goto 4, 3) := by decide +kernel
theorem dX3_worthBy_65 : decode cX3_worthBy 65 = .ok (.iload_n 2, 1) := by decide +kernel
theorem dX3_worthBy_66 : decode cX3_worthBy 66 = .ok (.iload_n 3, 1) := by decide +kernel
theorem dX3_worthBy_67 : decode cX3_worthBy 67 = .ok (.invokevirtual 253, 3) := by decide +kernel
theorem dX3_worthBy_70 : decode cX3_worthBy 70 = .ok (.iadd, 1) := by decide +kernel
theorem dX3_worthBy_71 : decode cX3_worthBy 71 = .ok (.istore 4, 2) := by decide +kernel
theorem dX3_worthBy_73 : decode cX3_worthBy 73 = .ok (.iinc 5 1, 3) := by decide +kernel
theorem dX3_worthBy_76 : decode cX3_worthBy 76 = .ok (.goto (-56), 3) := by decide +kernel
theorem dX3_worthBy_79 : decode cX3_worthBy 79 = .ok (.iload 4, 2) := by decide +kernel
theorem dX3_worthBy_81 : decode cX3_worthBy 81 = .ok (.i2l, 1) := by decide +kernel
theorem dX3_worthBy_82 : decode cX3_worthBy 82 = .ok (.ldc2_w 256, 3) := by decide +kernel
theorem dX3_worthBy_85 : decode cX3_worthBy 85 = .ok (.aload_n 0, 1) := by decide +kernel
theorem dX3_worthBy_86 : decode cX3_worthBy 86 = .ok (.getfield 12, 3) := by decide +kernel
theorem dX3_worthBy_89 : decode cX3_worthBy 89 = .ok (.getfield 81, 3) := by decide +kernel
theorem dX3_worthBy_92 : decode cX3_worthBy 92 = .ok (.invokestatic 258, 3) := by decide +kernel
theorem dX3_worthBy_95 : decode cX3_worthBy 95 = .ok (.l2i, 1) := by decide +kernel
theorem dX3_worthBy_96 : decode cX3_worthBy 96 = .ok (.ireturn, 1) := by decide +kernel
theorem dX3_quarterWorth_0 : decode cX3_quarterWorth 0 = .ok (.iload_n 1, 1) := by decide +kernel
theorem dX3_quarterWorth_1 : decode cX3_quarterWorth 1 = .ok (.ifCond .ne 11, 3) := by decide +kernel
theorem dX3_quarterWorth_4 : decode cX3_quarterWorth 4 = .ok (.aload_n 0, 1) := by decide +kernel
theorem dX3_quarterWorth_5 : decode cX3_quarterWorth 5 = .ok (.getfield 12, 3) := by decide +kernel
theorem dX3_quarterWorth_8 : decode cX3_quarterWorth 8 = .ok (.getfield 91, 3) := by decide +kernel
theorem dX3_quarterWorth_11 : decode cX3_quarterWorth 11 = .ok (.ireturn, 1) := by decide +kernel
theorem dX3_quarterWorth_12 : decode cX3_quarterWorth 12 = .ok (.iload_n 1, 1) := by decide +kernel
theorem dX3_quarterWorth_13 : decode cX3_quarterWorth 13 = .ok (.iconst 1, 1) := by decide +kernel
theorem dX3_quarterWorth_14 : decode cX3_quarterWorth 14 = .ok (.if_icmp .ne 7, 3) := by decide +kernel
theorem dX3_quarterWorth_17 : decode cX3_quarterWorth 17 = .ok (.iconst 0, 1) := by decide +kernel
theorem dX3_quarterWorth_18 : decode cX3_quarterWorth 18 = .ok (.goto 4, 3) := by decide +kernel
theorem dX3_quarterWorth_21 : decode cX3_quarterWorth 21 = .ok (.iload_n 2, 1) := by decide +kernel
theorem dX3_quarterWorth_22 : decode cX3_quarterWorth 22 = .ok (.ireturn, 1) := by decide +kernel
theorem dX3_baseNow_0 : decode cX3_baseNow 0 = .ok (.aload_n 1, 1) := by decide +kernel
theorem dX3_baseNow_1 : decode cX3_baseNow 1 = .ok (.getfield 207, 3) := by decide +kernel
theorem dX3_baseNow_4 : decode cX3_baseNow 4 = .ok (.ifCond .le 10, 3) := by decide +kernel
theorem dX3_baseNow_7 : decode cX3_baseNow 7 = .ok (.aload_n 1, 1) := by decide +kernel
theorem dX3_baseNow_8 : decode cX3_baseNow 8 = .ok (.getfield 210, 3) := by decide +kernel
theorem dX3_baseNow_11 : decode cX3_baseNow 11 = .ok (.goto 12, 3) := by decide +kernel
theorem dX3_baseNow_14 : decode cX3_baseNow 14 = .ok (.aload_n 0, 1) := by decide +kernel
theorem dX3_baseNow_15 : decode cX3_baseNow 15 = .ok (.aload_n 1, 1) := by decide +kernel
theorem dX3_baseNow_16 : decode cX3_baseNow 16 = .ok (.aload_n 1, 1) := by decide +kernel
theorem dX3_baseNow_17 : decode cX3_baseNow 17 = .ok (.getfield 183, 3) := by decide +kernel
theorem dX3_baseNow_20 : decode cX3_baseNow 20 = .ok (.invokevirtual 262, 3) := by decide +kernel
theorem dX3_baseNow_23 : decode cX3_baseNow 23 = .ok (.ireturn, 1) := by decide +kernel
theorem dX3_firstBy_0 : decode cX3_firstBy 0 = .ok (.aload_n 1, 1) := by decide +kernel
theorem dX3_firstBy_1 : decode cX3_firstBy 1 = .ok (.getfield 265, 3) := by decide +kernel
theorem dX3_firstBy_4 : decode cX3_firstBy 4 = .ok (.i2l, 1) := by decide +kernel
theorem dX3_firstBy_5 : decode cX3_firstBy 5 = .ok (.iload_n 2, 1) := by decide +kernel
theorem dX3_firstBy_6 : decode cX3_firstBy 6 = .ok (.i2l, 1) := by decide +kernel
theorem dX3_firstBy_7 : decode cX3_firstBy 7 = .ok (.lmul, 1) := by decide +kernel
theorem dX3_firstBy_8 : decode cX3_firstBy 8 = .ok (.aload_n 0, 1) := by decide +kernel
theorem dX3_firstBy_9 : decode cX3_firstBy 9 = .ok (.getfield 12, 3) := by decide +kernel
theorem dX3_firstBy_12 : decode cX3_firstBy 12 = .ok (.getfield 91, 3) := by decide +kernel
theorem dX3_firstBy_15 : decode cX3_firstBy 15 = .ok (.i2l, 1) := by decide +kernel
theorem dX3_firstBy_16 : decode cX3_firstBy 16 = .ok (.aload_n 0, 1) := by decide +kernel
theorem dX3_firstBy_17 : decode cX3_firstBy 17 = .ok (.getfield 12, 3) := by decide +kernel
theorem dX3_firstBy_20 : decode cX3_firstBy 20 = .ok (.getfield 81, 3) := by decide +kernel
theorem dX3_firstBy_23 : decode cX3_firstBy 23 = .ok (.invokestatic 258, 3) := by decide +kernel
theorem dX3_firstBy_26 : decode cX3_firstBy 26 = .ok (.l2i, 1) := by decide +kernel
theorem dX3_firstBy_27 : decode cX3_firstBy 27 = .ok (.ireturn, 1) := by decide +kernel
theorem dX3_adjustedBy_0 : decode cX3_adjustedBy 0 = .ok (.aload_n 1, 1) := by decide +kernel
theorem dX3_adjustedBy_1 : decode cX3_adjustedBy 1 = .ok (.getfield 265, 3) := by decide +kernel
theorem dX3_adjustedBy_4 : decode cX3_adjustedBy 4 = .ok (.i2l, 1) := by decide +kernel
theorem dX3_adjustedBy_5 : decode cX3_adjustedBy 5 = .ok (.iload_n 2, 1) := by decide +kernel
theorem dX3_adjustedBy_6 : decode cX3_adjustedBy 6 = .ok (.iload_n 3, 1) := by decide +kernel
theorem dX3_adjustedBy_7 : decode cX3_adjustedBy 7 = .ok (.isub, 1) := by decide +kernel
theorem dX3_adjustedBy_8 : decode cX3_adjustedBy 8 = .ok (.i2l, 1) := by decide +kernel
theorem dX3_adjustedBy_9 : decode cX3_adjustedBy 9 = .ok (.lmul, 1) := by decide +kernel
theorem dX3_adjustedBy_10 : decode cX3_adjustedBy 10 = .ok (.aload_n 1, 1) := by decide +kernel
theorem dX3_adjustedBy_11 : decode cX3_adjustedBy 11 = .ok (.getfield 234, 3) := by decide +kernel
theorem dX3_adjustedBy_14 : decode cX3_adjustedBy 14 = .ok (.i2l, 1) := by decide +kernel
theorem dX3_adjustedBy_15 : decode cX3_adjustedBy 15 = .ok (.aload_n 0, 1) := by decide +kernel
theorem dX3_adjustedBy_16 : decode cX3_adjustedBy 16 = .ok (.getfield 12, 3) := by decide +kernel
theorem dX3_adjustedBy_19 : decode cX3_adjustedBy 19 = .ok (.getfield 91, 3) := by decide +kernel
theorem dX3_adjustedBy_22 : decode cX3_adjustedBy 22 = .ok (.i2l, 1) := by decide +kernel
theorem dX3_adjustedBy_23 : decode cX3_adjustedBy 23 = .ok (.lmul, 1) := by decide +kernel
theorem dX3_adjustedBy_24 : decode cX3_adjustedBy 24 = .ok (.aload_n 0, 1) := by decide +kernel
theorem dX3_adjustedBy_25 : decode cX3_adjustedBy 25 = .ok (.getfield 12, 3) := by decide +kernel
theorem dX3_adjustedBy_28 : decode cX3_adjustedBy 28 = .ok (.getfield 81, 3) := by decide +kernel
theorem dX3_adjustedBy_31 : decode cX3_adjustedBy 31 = .ok (.invokestatic 258, 3) := by decide +kernel
theorem dX3_adjustedBy_34 : decode cX3_adjustedBy 34 = .ok (.l2i, 1) := by decide +kernel
theorem dX3_adjustedBy_35 : decode cX3_adjustedBy 35 = .ok (.ireturn, 1) := by decide +kernel
theorem dX3_finalFor_0 : decode cX3_finalFor 0 = .ok (.iload_n 2, 1) := by decide +kernel
theorem dX3_finalFor_1 : decode cX3_finalFor 1 = .ok (.ifCond .ne 13, 3) := by decide +kernel
theorem dX3_finalFor_4 : decode cX3_finalFor 4 = .ok (.aload_n 0, 1) := by decide +kernel
theorem dX3_finalFor_5 : decode cX3_finalFor 5 = .ok (.getfield 12, 3) := by decide +kernel
theorem dX3_finalFor_8 : decode cX3_finalFor 8 = .ok (.getfield 91, 3) := by decide +kernel
theorem dX3_finalFor_11 : decode cX3_finalFor 11 = .ok (.goto 4, 3) := by decide +kernel
theorem dX3_finalFor_14 : decode cX3_finalFor 14 = .ok (.iconst 0, 1) := by decide +kernel
theorem dX3_finalFor_15 : decode cX3_finalFor 15 = .ok (.istore 5, 2) := by decide +kernel
theorem dX3_finalFor_17 : decode cX3_finalFor 17 = .ok (.aload_n 1, 1) := by decide +kernel
theorem dX3_finalFor_18 : decode cX3_finalFor 18 = .ok (.getfield 265, 3) := by decide +kernel
theorem dX3_finalFor_21 : decode cX3_finalFor 21 = .ok (.i2l, 1) := by decide +kernel
theorem dX3_finalFor_22 : decode cX3_finalFor 22 = .ok (.iload_n 3, 1) := by decide +kernel
theorem dX3_finalFor_23 : decode cX3_finalFor 23 = .ok (.i2l, 1) := by decide +kernel
theorem dX3_finalFor_24 : decode cX3_finalFor 24 = .ok (.lmul, 1) := by decide +kernel
theorem dX3_finalFor_25 : decode cX3_finalFor 25 = .ok (.iload 5, 2) := by decide +kernel
theorem dX3_finalFor_27 : decode cX3_finalFor 27 = .ok (.iload 4, 2) := by decide +kernel
theorem dX3_finalFor_29 : decode cX3_finalFor 29 = .ok (.isub, 1) := by decide +kernel
theorem dX3_finalFor_30 : decode cX3_finalFor 30 = .ok (.i2l, 1) := by decide +kernel
theorem dX3_finalFor_31 : decode cX3_finalFor 31 = .ok (.lmul, 1) := by decide +kernel
theorem dX3_finalFor_32 : decode cX3_finalFor 32 = .ok (.aload_n 1, 1) := by decide +kernel
theorem dX3_finalFor_33 : decode cX3_finalFor 33 = .ok (.getfield 234, 3) := by decide +kernel
theorem dX3_finalFor_36 : decode cX3_finalFor 36 = .ok (.i2l, 1) := by decide +kernel
theorem dX3_finalFor_37 : decode cX3_finalFor 37 = .ok (.aload_n 0, 1) := by decide +kernel
theorem dX3_finalFor_38 : decode cX3_finalFor 38 = .ok (.getfield 12, 3) := by decide +kernel
theorem dX3_finalFor_41 : decode cX3_finalFor 41 = .ok (.getfield 91, 3) := by decide +kernel
theorem dX3_finalFor_44 : decode cX3_finalFor 44 = .ok (.i2l, 1) := by decide +kernel
theorem dX3_finalFor_45 : decode cX3_finalFor 45 = .ok (.lmul, 1) := by decide +kernel
theorem dX3_finalFor_46 : decode cX3_finalFor 46 = .ok (.aload_n 0, 1) := by decide +kernel
theorem dX3_finalFor_47 : decode cX3_finalFor 47 = .ok (.getfield 12, 3) := by decide +kernel
theorem dX3_finalFor_50 : decode cX3_finalFor 50 = .ok (.getfield 81, 3) := by decide +kernel
theorem dX3_finalFor_53 : decode cX3_finalFor 53 = .ok (.invokestatic 258, 3) := by decide +kernel
theorem dX3_finalFor_56 : decode cX3_finalFor 56 = .ok (.l2i, 1) := by decide +kernel
theorem dX3_finalFor_57 : decode cX3_finalFor 57 = .ok (.ireturn, 1) := by decide +kernel
theorem dX4_init_0 : decode cX4_init 0 = .ok (.aload_n 0, 1) := by decide +kernel
theorem dX4_init_1 : decode cX4_init 1 = .ok (.invokespecial 3, 3) := by decide +kernel
theorem dX4_init_4 : decode cX4_init 4 = .ok (.aload_n 0, 1) := by decide +kernel
theorem dX4_init_5 : decode cX4_init 5 = .ok (.bipush 20, 2) := by decide +kernel
theorem dX4_init_7 : decode cX4_init 7 = .ok (.anewarray 9, 3) := by decide +kernel
theorem dX4_init_10 : decode cX4_init 10 = .ok (.putfield 11, 3) := by decide +kernel
theorem dX4_init_13 : decode cX4_init 13 = .ok (.return_, 1) := by decide +kernel
theorem dX4_clear_0 : decode cX4_clear 0 = .ok (.aload_n 0, 1) := by decide +kernel
theorem dX4_clear_1 : decode cX4_clear 1 = .ok (.iconst 0, 1) := by decide +kernel
theorem dX4_clear_2 : decode cX4_clear 2 = .ok (.putfield 17, 3) := by decide +kernel
theorem dX4_clear_5 : decode cX4_clear 5 = .ok (.return_, 1) := by decide +kernel
theorem dX4_add_0 : decode cX4_add 0 = .ok (.aload_n 0, 1) := by decide +kernel
theorem dX4_add_1 : decode cX4_add 1 = .ok (.getfield 21, 3) := by decide +kernel
theorem dX4_add_4 : decode cX4_add 4 = .ok (.aload_n 0, 1) := by decide +kernel
theorem dX4_add_5 : decode cX4_add 5 = .ok (.getfield 17, 3) := by decide +kernel
theorem dX4_add_8 : decode cX4_add 8 = .ok (.iadd, 1) := by decide +kernel
theorem dX4_add_9 : decode cX4_add 9 = .ok (.bipush 20, 2) := by decide +kernel
theorem dX4_add_11 : decode cX4_add 11 = .ok (.irem, 1) := by decide +kernel
theorem dX4_add_12 : decode cX4_add 12 = .ok (.istore_n 2, 1) := by decide +kernel
theorem dX4_add_13 : decode cX4_add 13 = .ok (.aload_n 0, 1) := by decide +kernel
theorem dX4_add_14 : decode cX4_add 14 = .ok (.getfield 11, 3) := by decide +kernel
theorem dX4_add_17 : decode cX4_add 17 = .ok (.iload_n 2, 1) := by decide +kernel
theorem dX4_add_18 : decode cX4_add 18 = .ok (.aaload, 1) := by decide +kernel
theorem dX4_add_19 : decode cX4_add 19 = .ok (.ifnonnull 16, 3) := by decide +kernel
theorem dX4_add_22 : decode cX4_add 22 = .ok (.aload_n 0, 1) := by decide +kernel
theorem dX4_add_23 : decode cX4_add 23 = .ok (.getfield 11, 3) := by decide +kernel
theorem dX4_add_26 : decode cX4_add 26 = .ok (.iload_n 2, 1) := by decide +kernel
theorem dX4_add_27 : decode cX4_add 27 = .ok (.new 9, 3) := by decide +kernel
theorem dX4_add_30 : decode cX4_add 30 = .ok (.dup, 1) := by decide +kernel
theorem dX4_add_31 : decode cX4_add 31 = .ok (.invokespecial 24, 3) := by decide +kernel
theorem dX4_add_34 : decode cX4_add 34 = .ok (.aastore, 1) := by decide +kernel
theorem dX4_add_35 : decode cX4_add 35 = .ok (.aload_n 0, 1) := by decide +kernel
theorem dX4_add_36 : decode cX4_add 36 = .ok (.getfield 11, 3) := by decide +kernel
theorem dX4_add_39 : decode cX4_add 39 = .ok (.iload_n 2, 1) := by decide +kernel
theorem dX4_add_40 : decode cX4_add 40 = .ok (.aaload, 1) := by decide +kernel
theorem dX4_add_41 : decode cX4_add 41 = .ok (.aload_n 1, 1) := by decide +kernel
theorem dX4_add_42 : decode cX4_add 42 = .ok (.invokevirtual 25, 3) := by decide +kernel
theorem dX4_add_45 : decode cX4_add 45 = .ok (.aload_n 0, 1) := by decide +kernel
theorem dX4_add_46 : decode cX4_add 46 = .ok (.getfield 17, 3) := by decide +kernel
theorem dX4_add_49 : decode cX4_add 49 = .ok (.bipush 20, 2) := by decide +kernel
theorem dX4_add_51 : decode cX4_add 51 = .ok (.if_icmp .ge 16, 3) := by decide +kernel
theorem dX4_add_54 : decode cX4_add 54 = .ok (.aload_n 0, 1) := by decide +kernel
theorem dX4_add_55 : decode cX4_add 55 = .ok (.dup, 1) := by decide +kernel
theorem dX4_add_56 : decode cX4_add 56 = .ok (.getfield 17, 3) := by decide +kernel
theorem dX4_add_59 : decode cX4_add 59 = .ok (.iconst 1, 1) := by decide +kernel
theorem dX4_add_60 : decode cX4_add 60 = .ok (.iadd, 1) := by decide +kernel
theorem dX4_add_61 : decode cX4_add 61 = .ok (.putfield 17, 3) := by decide +kernel
theorem dX4_add_64 : decode cX4_add 64 = .ok (.goto 16, 3) := by decide +kernel
theorem dX4_add_67 : decode cX4_add 67 = .ok (.aload_n 0, 1) := by decide +kernel
theorem dX4_add_68 : decode cX4_add 68 = .ok (.aload_n 0, 1) := by decide +kernel
theorem dX4_add_69 : decode cX4_add 69 = .ok (.getfield 21, 3) := by decide +kernel
theorem dX4_add_72 : decode cX4_add 72 = .ok (.iconst 1, 1) := by decide +kernel
theorem dX4_add_73 : decode cX4_add 73 = .ok (.iadd, 1) := by decide +kernel
theorem dX4_add_74 : decode cX4_add 74 = .ok (.bipush 20, 2) := by decide +kernel
theorem dX4_add_76 : decode cX4_add 76 = .ok (.irem, 1) := by decide +kernel
theorem dX4_add_77 : decode cX4_add 77 = .ok (.putfield 21, 3) := by decide +kernel
theorem dX4_add_80 : decode cX4_add 80 = .ok (.return_, 1) := by decide +kernel
theorem dX4_bringBack_0 : decode cX4_bringBack 0 = .ok (.aload_n 0, 1) := by decide +kernel
theorem dX4_bringBack_1 : decode cX4_bringBack 1 = .ok (.getfield 17, 3) := by decide +kernel
theorem dX4_bringBack_4 : decode cX4_bringBack 4 = .ok (.ifCond .ne 5, 3) := by decide +kernel
theorem dX4_bringBack_7 : decode cX4_bringBack 7 = .ok (.iconst 0, 1) := by decide +kernel
theorem dX4_bringBack_8 : decode cX4_bringBack 8 = .ok (.ireturn, 1) := by decide +kernel
theorem dX4_bringBack_9 : decode cX4_bringBack 9 = .ok (.aload_n 0, 1) := by decide +kernel
theorem dX4_bringBack_10 : decode cX4_bringBack 10 = .ok (.getfield 21, 3) := by decide +kernel
theorem dX4_bringBack_13 : decode cX4_bringBack 13 = .ok (.aload_n 0, 1) := by decide +kernel
theorem dX4_bringBack_14 : decode cX4_bringBack 14 = .ok (.getfield 17, 3) := by decide +kernel
theorem dX4_bringBack_17 : decode cX4_bringBack 17 = .ok (.iadd, 1) := by decide +kernel
theorem dX4_bringBack_18 : decode cX4_bringBack 18 = .ok (.iconst 1, 1) := by decide +kernel
theorem dX4_bringBack_19 : decode cX4_bringBack 19 = .ok (.isub, 1) := by decide +kernel
theorem dX4_bringBack_20 : decode cX4_bringBack 20 = .ok (.bipush 20, 2) := by decide +kernel
theorem dX4_bringBack_22 : decode cX4_bringBack 22 = .ok (.irem, 1) := by decide +kernel
theorem dX4_bringBack_23 : decode cX4_bringBack 23 = .ok (.istore_n 2, 1) := by decide +kernel
theorem dX4_bringBack_24 : decode cX4_bringBack 24 = .ok (.aload_n 0, 1) := by decide +kernel
theorem dX4_bringBack_25 : decode cX4_bringBack 25 = .ok (.getfield 11, 3) := by decide +kernel
theorem dX4_bringBack_28 : decode cX4_bringBack 28 = .ok (.iload_n 2, 1) := by decide +kernel
theorem dX4_bringBack_29 : decode cX4_bringBack 29 = .ok (.aaload, 1) := by decide +kernel
theorem dX4_bringBack_30 : decode cX4_bringBack 30 = .ok (.ifnonnull 5, 3) := by decide +kernel
theorem dX4_bringBack_33 : decode cX4_bringBack 33 = .ok (.iconst 0, 1) := by decide +kernel
theorem dX4_bringBack_34 : decode cX4_bringBack 34 = .ok (.ireturn, 1) := by decide +kernel
theorem dX4_bringBack_35 : decode cX4_bringBack 35 = .ok (.aload_n 1, 1) := by decide +kernel
theorem dX4_bringBack_36 : decode cX4_bringBack 36 = .ok (.aload_n 0, 1) := by decide +kernel
theorem dX4_bringBack_37 : decode cX4_bringBack 37 = .ok (.getfield 11, 3) := by decide +kernel
theorem dX4_bringBack_40 : decode cX4_bringBack 40 = .ok (.iload_n 2, 1) := by decide +kernel
theorem dX4_bringBack_41 : decode cX4_bringBack 41 = .ok (.aaload, 1) := by decide +kernel
theorem dX4_bringBack_42 : decode cX4_bringBack 42 = .ok (.invokevirtual 25, 3) := by decide +kernel
theorem dX4_bringBack_45 : decode cX4_bringBack 45 = .ok (.aload_n 0, 1) := by decide +kernel
theorem dX4_bringBack_46 : decode cX4_bringBack 46 = .ok (.dup, 1) := by decide +kernel
theorem dX4_bringBack_47 : decode cX4_bringBack 47 = .ok (.getfield 17, 3) := by decide +kernel
theorem dX4_bringBack_50 : decode cX4_bringBack 50 = .ok (.iconst 1, 1) := by decide +kernel
theorem dX4_bringBack_51 : decode cX4_bringBack 51 = .ok (.isub, 1) := by decide +kernel
theorem dX4_bringBack_52 : decode cX4_bringBack 52 = .ok (.putfield 17, 3) := by decide +kernel
theorem dX4_bringBack_55 : decode cX4_bringBack 55 = .ok (.iconst 1, 1) := by decide +kernel
theorem dX4_bringBack_56 : decode cX4_bringBack 56 = .ok (.ireturn, 1) := by decide +kernel
theorem dX5_init_0 : decode cX5_init 0 = .ok (.aload_n 0, 1) := by decide +kernel
theorem dX5_init_1 : decode cX5_init 1 = .ok (.invokespecial 3, 3) := by decide +kernel
theorem dX5_init_4 : decode cX5_init 4 = .ok (.aload_n 0, 1) := by decide +kernel
theorem dX5_init_5 : decode cX5_init 5 = .ok (.iconst (-1), 1) := by decide +kernel
theorem dX5_init_6 : decode cX5_init 6 = .ok (.putfield 9, 3) := by decide +kernel
theorem dX5_init_9 : decode cX5_init 9 = .ok (.aload_n 0, 1) := by decide +kernel
theorem dX5_init_10 : decode cX5_init 10 = .ok (.iconst 4, 1) := by decide +kernel
theorem dX5_init_11 : decode cX5_init 11 = .ok (.newarray .boolean, 2) := by decide +kernel
theorem dX5_init_13 : decode cX5_init 13 = .ok (.putfield 15, 3) := by decide +kernel
theorem dX5_init_16 : decode cX5_init 16 = .ok (.return_, 1) := by decide +kernel
theorem dX5_read_0 : decode cX5_read 0 = .ok (.aload_n 0, 1) := by decide +kernel
theorem dX5_read_1 : decode cX5_read 1 = .ok (.aload_n 1, 1) := by decide +kernel
theorem dX5_read_2 : decode cX5_read 2 = .ok (.iload_n 2, 1) := by decide +kernel
theorem dX5_read_3 : decode cX5_read 3 = .ok (.aload_n 3, 1) := by decide +kernel
theorem dX5_read_4 : decode cX5_read 4 = .ok (.invokevirtual 19, 3) := by decide +kernel
theorem dX5_read_7 : decode cX5_read 7 = .ok (.iconst 0, 1) := by decide +kernel
theorem dX5_read_8 : decode cX5_read 8 = .ok (.istore 4, 2) := by decide +kernel
theorem dX5_read_10 : decode cX5_read 10 = .ok (.iload 4, 2) := by decide +kernel
theorem dX5_read_12 : decode cX5_read 12 = .ok (.sipush 700, 3) := by decide +kernel
theorem dX5_read_15 : decode cX5_read 15 = .ok (.if_icmp .gt 32, 3) := by decide +kernel
theorem dX5_read_18 : decode cX5_read 18 = .ok (.aload_n 0, 1) := by decide +kernel
theorem dX5_read_19 : decode cX5_read 19 = .ok (.invokevirtual 23, 3) := by decide +kernel
theorem dX5_read_22 : decode cX5_read 22 = .ok (.aload_n 0, 1) := by decide +kernel
theorem dX5_read_23 : decode cX5_read 23 = .ok (.getfield 26, 3) := by decide +kernel
theorem dX5_read_26 : decode cX5_read 26 = .ok (.ifCond .ne 6, 3) := by decide +kernel
theorem dX5_read_29 : decode cX5_read 29 = .ok (.iload 4, 2) := by decide +kernel
theorem dX5_read_31 : decode cX5_read 31 = .ok (.ireturn, 1) := by decide +kernel
theorem dX5_read_32 : decode cX5_read 32 = .ok (.aload_n 0, 1) := by decide +kernel
theorem dX5_read_33 : decode cX5_read 33 = .ok (.invokevirtual 29, 3) := by decide +kernel
theorem dX5_read_36 : decode cX5_read 36 = .ok (.ifCond .ne 5, 3) := by decide +kernel
theorem dX5_read_39 : decode cX5_read 39 = .ok (.iconst (-1), 1) := by decide +kernel
theorem dX5_read_40 : decode cX5_read 40 = .ok (.ireturn, 1) := by decide +kernel
theorem dX5_read_41 : decode cX5_read 41 = .ok (.iinc 4 1, 3) := by decide +kernel
theorem dX5_read_44 : decode cX5_read 44 = .ok (.goto (-34), 3) := by decide +kernel
theorem dX5_read_47 : decode cX5_read 47 = .ok (.iconst (-1), 1) := by decide +kernel
theorem dX5_read_48 : decode cX5_read 48 = .ok (.ireturn, 1) := by decide +kernel
theorem dX5_begin_0 : decode cX5_begin 0 = .ok (.aload_n 0, 1) := by decide +kernel
theorem dX5_begin_1 : decode cX5_begin 1 = .ok (.aload_n 1, 1) := by decide +kernel
theorem dX5_begin_2 : decode cX5_begin 2 = .ok (.putfield 33, 3) := by decide +kernel
theorem dX5_begin_5 : decode cX5_begin 5 = .ok (.aload_n 0, 1) := by decide +kernel
theorem dX5_begin_6 : decode cX5_begin 6 = .ok (.iload_n 2, 1) := by decide +kernel
theorem dX5_begin_7 : decode cX5_begin 7 = .ok (.aload_n 1, 1) := by decide +kernel
theorem dX5_begin_8 : decode cX5_begin 8 = .ok (.arraylength, 1) := by decide +kernel
theorem dX5_begin_9 : decode cX5_begin 9 = .ok (.invokestatic 37, 3) := by decide +kernel
theorem dX5_begin_12 : decode cX5_begin 12 = .ok (.putfield 43, 3) := by decide +kernel
theorem dX5_begin_15 : decode cX5_begin 15 = .ok (.aload_n 0, 1) := by decide +kernel
theorem dX5_begin_16 : decode cX5_begin 16 = .ok (.aload_n 3, 1) := by decide +kernel
theorem dX5_begin_17 : decode cX5_begin 17 = .ok (.putfield 46, 3) := by decide +kernel
theorem dX5_begin_20 : decode cX5_begin 20 = .ok (.aload_n 0, 1) := by decide +kernel
theorem dX5_begin_21 : decode cX5_begin 21 = .ok (.getfield 46, 3) := by decide +kernel
theorem dX5_begin_24 : decode cX5_begin 24 = .ok (.invokevirtual 50, 3) := by decide +kernel
theorem dX5_begin_27 : decode cX5_begin 27 = .ok (.aload_n 0, 1) := by decide +kernel
theorem dX5_begin_28 : decode cX5_begin 28 = .ok (.iconst 0, 1) := by decide +kernel
theorem dX5_begin_29 : decode cX5_begin 29 = .ok (.putfield 55, 3) := by decide +kernel
theorem dX5_begin_32 : decode cX5_begin 32 = .ok (.aload_n 0, 1) := by decide +kernel
theorem dX5_begin_33 : decode cX5_begin 33 = .ok (.iconst 0, 1) := by decide +kernel
theorem dX5_begin_34 : decode cX5_begin 34 = .ok (.putfield 58, 3) := by decide +kernel
theorem dX5_begin_37 : decode cX5_begin 37 = .ok (.aload_n 0, 1) := by decide +kernel
theorem dX5_begin_38 : decode cX5_begin 38 = .ok (.iconst (-1), 1) := by decide +kernel
theorem dX5_begin_39 : decode cX5_begin 39 = .ok (.putfield 9, 3) := by decide +kernel
theorem dX5_begin_42 : decode cX5_begin 42 = .ok (.aload_n 0, 1) := by decide +kernel
theorem dX5_begin_43 : decode cX5_begin 43 = .ok (.iconst 0, 1) := by decide +kernel
theorem dX5_begin_44 : decode cX5_begin 44 = .ok (.putfield 61, 3) := by decide +kernel
theorem dX5_begin_47 : decode cX5_begin 47 = .ok (.aload_n 0, 1) := by decide +kernel
theorem dX5_begin_48 : decode cX5_begin 48 = .ok (.iconst 0, 1) := by decide +kernel
theorem dX5_begin_49 : decode cX5_begin 49 = .ok (.putfield 65, 3) := by decide +kernel
theorem dX5_begin_52 : decode cX5_begin 52 = .ok (.aload_n 0, 1) := by decide +kernel
theorem dX5_begin_53 : decode cX5_begin 53 = .ok (.iconst 0, 1) := by decide +kernel
theorem dX5_begin_54 : decode cX5_begin 54 = .ok (.putfield 68, 3) := by decide +kernel
theorem dX5_begin_57 : decode cX5_begin 57 = .ok (.aload_n 0, 1) := by decide +kernel
theorem dX5_begin_58 : decode cX5_begin 58 = .ok (.iconst 0, 1) := by decide +kernel
theorem dX5_begin_59 : decode cX5_begin 59 = .ok (.putfield 71, 3) := by decide +kernel
theorem dX5_begin_62 : decode cX5_begin 62 = .ok (.return_, 1) := by decide +kernel
theorem dX5_fail_0 : decode cX5_fail 0 = .ok (.aload_n 0, 1) := by decide +kernel
theorem dX5_fail_1 : decode cX5_fail 1 = .ok (.iload_n 1, 1) := by decide +kernel
theorem dX5_fail_2 : decode cX5_fail 2 = .ok (.putfield 58, 3) := by decide +kernel
theorem dX5_fail_5 : decode cX5_fail 5 = .ok (.aload_n 0, 1) := by decide +kernel
theorem dX5_fail_6 : decode cX5_fail 6 = .ok (.iload_n 2, 1) := by decide +kernel
theorem dX5_fail_7 : decode cX5_fail 7 = .ok (.putfield 9, 3) := by decide +kernel
theorem dX5_fail_10 : decode cX5_fail 10 = .ok (.iconst 0, 1) := by decide +kernel
theorem dX5_fail_11 : decode cX5_fail 11 = .ok (.ireturn, 1) := by decide +kernel
theorem dX5_readLine_0 : decode cX5_readLine 0 = .ok (.aload_n 0, 1) := by decide +kernel
theorem dX5_readLine_1 : decode cX5_readLine 1 = .ok (.getfield 26, 3) := by decide +kernel
theorem dX5_readLine_4 : decode cX5_readLine 4 = .ok (.iconst 1, 1) := by decide +kernel
theorem dX5_readLine_5 : decode cX5_readLine 5 = .ok (.if_icmp .ne 21, 3) := by decide +kernel
theorem dX5_readLine_8 : decode cX5_readLine 8 = .ok (.aload_n 0, 1) := by decide +kernel
theorem dX5_readLine_9 : decode cX5_readLine 9 = .ok (.getfield 33, 3) := by decide +kernel
theorem dX5_readLine_12 : decode cX5_readLine 12 = .ok (.aload_n 0, 1) := by decide +kernel
theorem dX5_readLine_13 : decode cX5_readLine 13 = .ok (.getfield 74, 3) := by decide +kernel
theorem dX5_readLine_16 : decode cX5_readLine 16 = .ok (.aload_n 0, 1) := by decide +kernel
theorem dX5_readLine_17 : decode cX5_readLine 17 = .ok (.getfield 55, 3) := by decide +kernel
theorem dX5_readLine_20 : decode cX5_readLine 20 = .ok (.invokestatic 77, 3) := by decide +kernel
theorem dX5_readLine_23 : decode cX5_readLine 23 = .ok (.goto 4, 3) := by decide +kernel
theorem dX5_readLine_26 : decode cX5_readLine 26 = .ok (.aconst_null, 1) := by decide +kernel
theorem dX5_readLine_27 : decode cX5_readLine 27 = .ok (.astore_n 1, 1) := by decide +kernel
theorem dX5_readLine_28 : decode cX5_readLine 28 = .ok (.aload_n 1, 1) := by decide +kernel
theorem dX5_readLine_29 : decode cX5_readLine 29 = .ok (.ifnonnull 13, 3) := by decide +kernel
theorem dX5_readLine_32 : decode cX5_readLine 32 = .ok (.aload_n 0, 1) := by decide +kernel
theorem dX5_readLine_33 : decode cX5_readLine 33 = .ok (.iconst 1, 1) := by decide +kernel
theorem dX5_readLine_34 : decode cX5_readLine 34 = .ok (.aload_n 0, 1) := by decide +kernel
theorem dX5_readLine_35 : decode cX5_readLine 35 = .ok (.getfield 74, 3) := by decide +kernel
theorem dX5_readLine_38 : decode cX5_readLine 38 = .ok (.invokevirtual 83, 3) := by decide +kernel
theorem dX5_readLine_41 : decode cX5_readLine 41 = .ok (.ireturn, 1) := by decide +kernel
theorem dX5_readLine_42 : decode cX5_readLine 42 = .ok (.getstatic 87, 3) := by decide +kernel
theorem dX5_readLine_45 : decode cX5_readLine 45 = .ok (.aload_n 1, 1) := by decide +kernel
theorem dX5_readLine_46 : decode cX5_readLine 46 = .ok (.invokevirtual 93, 3) := by decide +kernel
theorem dX5_readLine_49 : decode cX5_readLine 49 = .ok (.iaload, 1) := by decide +kernel
theorem dX5_readLine_50 : decode cX5_readLine 50 = .ok (.tableswitch 229 1 10 #[54, 62, 70, 78, 86, 94, 102, 110, 150, 190], 54) := by decide +kernel
theorem dX5_readLine_104 : decode cX5_readLine 104 = .ok (.aload_n 0, 1) := by decide +kernel
theorem dX5_readLine_105 : decode cX5_readLine 105 = .ok (.invokevirtual 97, 3) := by decide +kernel
theorem dX5_readLine_108 : decode cX5_readLine 108 = .ok (.istore_n 2, 1) := by decide +kernel
theorem dX5_readLine_109 : decode cX5_readLine 109 = .ok (.goto 180, 3) := by decide +kernel
theorem dX5_readLine_112 : decode cX5_readLine 112 = .ok (.aload_n 0, 1) := by decide +kernel
theorem dX5_readLine_113 : decode cX5_readLine 113 = .ok (.invokevirtual 100, 3) := by decide +kernel
theorem dX5_readLine_116 : decode cX5_readLine 116 = .ok (.istore_n 2, 1) := by decide +kernel
theorem dX5_readLine_117 : decode cX5_readLine 117 = .ok (.goto 172, 3) := by decide +kernel
theorem dX5_readLine_120 : decode cX5_readLine 120 = .ok (.aload_n 0, 1) := by decide +kernel
theorem dX5_readLine_121 : decode cX5_readLine 121 = .ok (.invokevirtual 103, 3) := by decide +kernel
theorem dX5_readLine_124 : decode cX5_readLine 124 = .ok (.istore_n 2, 1) := by decide +kernel
theorem dX5_readLine_125 : decode cX5_readLine 125 = .ok (.goto 164, 3) := by decide +kernel
theorem dX5_readLine_128 : decode cX5_readLine 128 = .ok (.aload_n 0, 1) := by decide +kernel
theorem dX5_readLine_129 : decode cX5_readLine 129 = .ok (.invokevirtual 106, 3) := by decide +kernel
theorem dX5_readLine_132 : decode cX5_readLine 132 = .ok (.istore_n 2, 1) := by decide +kernel
theorem dX5_readLine_133 : decode cX5_readLine 133 = .ok (.goto 156, 3) := by decide +kernel
theorem dX5_readLine_136 : decode cX5_readLine 136 = .ok (.aload_n 0, 1) := by decide +kernel
theorem dX5_readLine_137 : decode cX5_readLine 137 = .ok (.invokevirtual 109, 3) := by decide +kernel
theorem dX5_readLine_140 : decode cX5_readLine 140 = .ok (.istore_n 2, 1) := by decide +kernel
theorem dX5_readLine_141 : decode cX5_readLine 141 = .ok (.goto 148, 3) := by decide +kernel
theorem dX5_readLine_144 : decode cX5_readLine 144 = .ok (.aload_n 0, 1) := by decide +kernel
theorem dX5_readLine_145 : decode cX5_readLine 145 = .ok (.invokevirtual 112, 3) := by decide +kernel
theorem dX5_readLine_148 : decode cX5_readLine 148 = .ok (.istore_n 2, 1) := by decide +kernel
theorem dX5_readLine_149 : decode cX5_readLine 149 = .ok (.goto 140, 3) := by decide +kernel
theorem dX5_readLine_152 : decode cX5_readLine 152 = .ok (.aload_n 0, 1) := by decide +kernel
theorem dX5_readLine_153 : decode cX5_readLine 153 = .ok (.invokevirtual 115, 3) := by decide +kernel
theorem dX5_readLine_156 : decode cX5_readLine 156 = .ok (.istore_n 2, 1) := by decide +kernel
theorem dX5_readLine_157 : decode cX5_readLine 157 = .ok (.goto 132, 3) := by decide +kernel
theorem dX5_readLine_160 : decode cX5_readLine 160 = .ok (.aload_n 0, 1) := by decide +kernel
theorem dX5_readLine_161 : decode cX5_readLine 161 = .ok (.aload_n 0, 1) := by decide +kernel
theorem dX5_readLine_162 : decode cX5_readLine 162 = .ok (.getfield 46, 3) := by decide +kernel
theorem dX5_readLine_165 : decode cX5_readLine 165 = .ok (.getfield 118, 3) := by decide +kernel
theorem dX5_readLine_168 : decode cX5_readLine 168 = .ok (.bipush 12, 2) := by decide +kernel
theorem dX5_readLine_170 : decode cX5_readLine 170 = .ok (.invokevirtual 121, 3) := by decide +kernel
theorem dX5_readLine_173 : decode cX5_readLine 173 = .ok (.ifCond .eq 22, 3) := by decide +kernel
theorem dX5_readLine_176 : decode cX5_readLine 176 = .ok (.aload_n 0, 1) := by decide +kernel
theorem dX5_readLine_177 : decode cX5_readLine 177 = .ok (.iconst 2, 1) := by decide +kernel
theorem dX5_readLine_178 : decode cX5_readLine 178 = .ok (.invokevirtual 124, 3) := by decide +kernel
theorem dX5_readLine_181 : decode cX5_readLine 181 = .ok (.ifCond .eq 14, 3) := by decide +kernel
theorem dX5_readLine_184 : decode cX5_readLine 184 = .ok (.aload_n 0, 1) := by decide +kernel
theorem dX5_readLine_185 : decode cX5_readLine 185 = .ok (.invokevirtual 128, 3) := by decide +kernel
theorem dX5_readLine_188 : decode cX5_readLine 188 = .ok (.ifCond .eq 7, 3) := by decide +kernel
theorem dX5_readLine_191 : decode cX5_readLine 191 = .ok (.iconst 1, 1) := by decide +kernel
theorem dX5_readLine_192 : decode cX5_readLine 192 = .ok (.goto 4, 3) := by decide +kernel
theorem dX5_readLine_195 : decode cX5_readLine 195 = .ok (.iconst 0, 1) := by decide +kernel
theorem dX5_readLine_196 : decode cX5_readLine 196 = .ok (.istore_n 2, 1) := by decide +kernel
theorem dX5_readLine_197 : decode cX5_readLine 197 = .ok (.goto 92, 3) := by decide +kernel
theorem dX5_readLine_200 : decode cX5_readLine 200 = .ok (.aload_n 0, 1) := by decide +kernel
theorem dX5_readLine_201 : decode cX5_readLine 201 = .ok (.aload_n 0, 1) := by decide +kernel
theorem dX5_readLine_202 : decode cX5_readLine 202 = .ok (.getfield 46, 3) := by decide +kernel
theorem dX5_readLine_205 : decode cX5_readLine 205 = .ok (.getfield 131, 3) := by decide +kernel
theorem dX5_readLine_208 : decode cX5_readLine 208 = .ok (.bipush 12, 2) := by decide +kernel
theorem dX5_readLine_210 : decode cX5_readLine 210 = .ok (.invokevirtual 121, 3) := by decide +kernel
theorem dX5_readLine_213 : decode cX5_readLine 213 = .ok (.ifCond .eq 22, 3) := by decide +kernel
theorem dX5_readLine_216 : decode cX5_readLine 216 = .ok (.aload_n 0, 1) := by decide +kernel
theorem dX5_readLine_217 : decode cX5_readLine 217 = .ok (.iconst 3, 1) := by decide +kernel
theorem dX5_readLine_218 : decode cX5_readLine 218 = .ok (.invokevirtual 124, 3) := by decide +kernel
theorem dX5_readLine_221 : decode cX5_readLine 221 = .ok (.ifCond .eq 14, 3) := by decide +kernel
theorem dX5_readLine_224 : decode cX5_readLine 224 = .ok (.aload_n 0, 1) := by decide +kernel
theorem dX5_readLine_225 : decode cX5_readLine 225 = .ok (.invokevirtual 134, 3) := by decide +kernel
theorem dX5_readLine_228 : decode cX5_readLine 228 = .ok (.ifCond .eq 7, 3) := by decide +kernel
theorem dX5_readLine_231 : decode cX5_readLine 231 = .ok (.iconst 1, 1) := by decide +kernel
theorem dX5_readLine_232 : decode cX5_readLine 232 = .ok (.goto 4, 3) := by decide +kernel
theorem dX5_readLine_235 : decode cX5_readLine 235 = .ok (.iconst 0, 1) := by decide +kernel
theorem dX5_readLine_236 : decode cX5_readLine 236 = .ok (.istore_n 2, 1) := by decide +kernel
theorem dX5_readLine_237 : decode cX5_readLine 237 = .ok (.goto 52, 3) := by decide +kernel
theorem dX5_readLine_240 : decode cX5_readLine 240 = .ok (.aload_n 0, 1) := by decide +kernel
theorem dX5_readLine_241 : decode cX5_readLine 241 = .ok (.aload_n 0, 1) := by decide +kernel
theorem dX5_readLine_242 : decode cX5_readLine 242 = .ok (.getfield 46, 3) := by decide +kernel
theorem dX5_readLine_245 : decode cX5_readLine 245 = .ok (.getfield 137, 3) := by decide +kernel
theorem dX5_readLine_248 : decode cX5_readLine 248 = .ok (.iconst 4, 1) := by decide +kernel
theorem dX5_readLine_249 : decode cX5_readLine 249 = .ok (.invokevirtual 121, 3) := by decide +kernel
theorem dX5_readLine_252 : decode cX5_readLine 252 = .ok (.ifCond .eq 22, 3) := by decide +kernel
theorem dX5_readLine_255 : decode cX5_readLine 255 = .ok (.aload_n 0, 1) := by decide +kernel
theorem dX5_readLine_256 : decode cX5_readLine 256 = .ok (.iconst 3, 1) := by decide +kernel
theorem dX5_readLine_257 : decode cX5_readLine 257 = .ok (.invokevirtual 124, 3) := by decide +kernel
theorem dX5_readLine_260 : decode cX5_readLine 260 = .ok (.ifCond .eq 14, 3) := by decide +kernel
theorem dX5_readLine_263 : decode cX5_readLine 263 = .ok (.aload_n 0, 1) := by decide +kernel
theorem dX5_readLine_264 : decode cX5_readLine 264 = .ok (.invokevirtual 140, 3) := by decide +kernel
theorem dX5_readLine_267 : decode cX5_readLine 267 = .ok (.ifCond .eq 7, 3) := by decide +kernel
theorem dX5_readLine_270 : decode cX5_readLine 270 = .ok (.iconst 1, 1) := by decide +kernel
theorem dX5_readLine_271 : decode cX5_readLine 271 = .ok (.goto 4, 3) := by decide +kernel
theorem dX5_readLine_274 : decode cX5_readLine 274 = .ok (.iconst 0, 1) := by decide +kernel
theorem dX5_readLine_275 : decode cX5_readLine 275 = .ok (.istore_n 2, 1) := by decide +kernel
theorem dX5_readLine_276 : decode cX5_readLine 276 = .ok (.goto 13, 3) := by decide +kernel
theorem dX5_readLine_279 : decode cX5_readLine 279 = .ok (.aload_n 0, 1) := by decide +kernel
theorem dX5_readLine_280 : decode cX5_readLine 280 = .ok (.iconst 1, 1) := by decide +kernel
theorem dX5_readLine_281 : decode cX5_readLine 281 = .ok (.aload_n 0, 1) := by decide +kernel
theorem dX5_readLine_282 : decode cX5_readLine 282 = .ok (.getfield 74, 3) := by decide +kernel
theorem dX5_readLine_285 : decode cX5_readLine 285 = .ok (.invokevirtual 83, 3) := by decide +kernel
theorem dX5_readLine_288 : decode cX5_readLine 288 = .ok (.istore_n 2, 1) := by decide +kernel
theorem dX5_readLine_289 : decode cX5_readLine 289 = .ok (.iload_n 2, 1) := by decide +kernel
theorem dX5_readLine_290 : decode cX5_readLine 290 = .ok (.ifCond .ne 5, 3) := by decide +kernel
theorem dX5_readLine_293 : decode cX5_readLine 293 = .ok (.iconst 0, 1) := by decide +kernel
theorem dX5_readLine_294 : decode cX5_readLine 294 = .ok (.ireturn, 1) := by decide +kernel
theorem dX5_readLine_295 : decode cX5_readLine 295 = .ok (.aload_n 0, 1) := by decide +kernel
theorem dX5_readLine_296 : decode cX5_readLine 296 = .ok (.invokevirtual 23, 3) := by decide +kernel
theorem dX5_readLine_299 : decode cX5_readLine 299 = .ok (.aload_n 0, 1) := by decide +kernel
theorem dX5_readLine_300 : decode cX5_readLine 300 = .ok (.getfield 26, 3) := by decide +kernel
theorem dX5_readLine_303 : decode cX5_readLine 303 = .ok (.iconst 3, 1) := by decide +kernel
theorem dX5_readLine_304 : decode cX5_readLine 304 = .ok (.if_icmp .eq 15, 3) := by decide +kernel
theorem dX5_readLine_307 : decode cX5_readLine 307 = .ok (.aload_n 0, 1) := by decide +kernel
theorem dX5_readLine_308 : decode cX5_readLine 308 = .ok (.iconst 1, 1) := by decide +kernel
theorem dX5_readLine_309 : decode cX5_readLine 309 = .ok (.aload_n 0, 1) := by decide +kernel
theorem dX5_readLine_310 : decode cX5_readLine 310 = .ok (.getfield 74, 3) := by decide +kernel
theorem dX5_readLine_313 : decode cX5_readLine 313 = .ok (.invokevirtual 83, 3) := by decide +kernel
theorem dX5_readLine_316 : decode cX5_readLine 316 = .ok (.ifCond .eq 7, 3) := by decide +kernel
theorem dX5_readLine_319 : decode cX5_readLine 319 = .ok (.iconst 1, 1) := by decide +kernel
theorem dX5_readLine_320 : decode cX5_readLine 320 = .ok (.goto 4, 3) := by decide +kernel
theorem dX5_readLine_323 : decode cX5_readLine 323 = .ok (.iconst 0, 1) := by decide +kernel
theorem dX5_readLine_324 : decode cX5_readLine 324 = .ok (.ireturn, 1) := by decide +kernel
theorem dX5_readTrader_0 : decode cX5_readTrader 0 = .ok (.aload_n 0, 1) := by decide +kernel
theorem dX5_readTrader_1 : decode cX5_readTrader 1 = .ok (.aload_n 0, 1) := by decide +kernel
theorem dX5_readTrader_2 : decode cX5_readTrader 2 = .ok (.getfield 46, 3) := by decide +kernel
theorem dX5_readTrader_5 : decode cX5_readTrader 5 = .ok (.getfield 143, 3) := by decide +kernel
theorem dX5_readTrader_8 : decode cX5_readTrader 8 = .ok (.iconst 4, 1) := by decide +kernel
theorem dX5_readTrader_9 : decode cX5_readTrader 9 = .ok (.invokevirtual 121, 3) := by decide +kernel
theorem dX5_readTrader_12 : decode cX5_readTrader 12 = .ok (.ifCond .eq 10, 3) := by decide +kernel
theorem dX5_readTrader_15 : decode cX5_readTrader 15 = .ok (.aload_n 0, 1) := by decide +kernel
theorem dX5_readTrader_16 : decode cX5_readTrader 16 = .ok (.invokevirtual 146, 3) := by decide +kernel
theorem dX5_readTrader_19 : decode cX5_readTrader 19 = .ok (.ifCond .ne 5, 3) := by decide +kernel
theorem dX5_readTrader_22 : decode cX5_readTrader 22 = .ok (.iconst 0, 1) := by decide +kernel
theorem dX5_readTrader_23 : decode cX5_readTrader 23 = .ok (.ireturn, 1) := by decide +kernel
theorem dX5_readTrader_24 : decode cX5_readTrader 24 = .ok (.aload_n 0, 1) := by decide +kernel
theorem dX5_readTrader_25 : decode cX5_readTrader 25 = .ok (.getfield 149, 3) := by decide +kernel
theorem dX5_readTrader_28 : decode cX5_readTrader 28 = .ok (.istore_n 1, 1) := by decide +kernel
theorem dX5_readTrader_29 : decode cX5_readTrader 29 = .ok (.aload_n 0, 1) := by decide +kernel
theorem dX5_readTrader_30 : decode cX5_readTrader 30 = .ok (.aload_n 0, 1) := by decide +kernel
theorem dX5_readTrader_31 : decode cX5_readTrader 31 = .ok (.getfield 46, 3) := by decide +kernel
theorem dX5_readTrader_34 : decode cX5_readTrader 34 = .ok (.iload_n 1, 1) := by decide +kernel
theorem dX5_readTrader_35 : decode cX5_readTrader 35 = .ok (.invokevirtual 152, 3) := by decide +kernel
theorem dX5_readTrader_38 : decode cX5_readTrader 38 = .ok (.iconst (-1), 1) := by decide +kernel
theorem dX5_readTrader_39 : decode cX5_readTrader 39 = .ok (.if_icmp .ne 7, 3) := by decide +kernel
theorem dX5_readTrader_42 : decode cX5_readTrader 42 = .ok (.iconst 1, 1) := by decide +kernel
theorem dX5_readTrader_43 : decode cX5_readTrader 43 = .ok (.goto 4, 3) := by decide +kernel
theorem dX5_readTrader_46 : decode cX5_readTrader 46 = .ok (.iconst 0, 1) := by decide +kernel
theorem dX5_readTrader_47 : decode cX5_readTrader 47 = .ok (.invokevirtual 156, 3) := by decide +kernel
theorem dX5_readTrader_50 : decode cX5_readTrader 50 = .ok (.ifCond .eq 12, 3) := by decide +kernel
theorem dX5_readTrader_53 : decode cX5_readTrader 53 = .ok (.aload_n 0, 1) := by decide +kernel
theorem dX5_readTrader_54 : decode cX5_readTrader 54 = .ok (.iconst 0, 1) := by decide +kernel
theorem dX5_readTrader_55 : decode cX5_readTrader 55 = .ok (.iconst 2, 1) := by decide +kernel
theorem dX5_readTrader_56 : decode cX5_readTrader 56 = .ok (.invokevirtual 160, 3) := by decide +kernel
theorem dX5_readTrader_59 : decode cX5_readTrader 59 = .ok (.ifCond .ne 5, 3) := by decide +kernel
theorem dX5_readTrader_62 : decode cX5_readTrader 62 = .ok (.iconst 0, 1) := by decide +kernel
theorem dX5_readTrader_63 : decode cX5_readTrader 63 = .ok (.ireturn, 1) := by decide +kernel
theorem dX5_readTrader_64 : decode cX5_readTrader 64 = .ok (.aload_n 0, 1) := by decide +kernel
theorem dX5_readTrader_65 : decode cX5_readTrader 65 = .ok (.getfield 149, 3) := by decide +kernel
theorem dX5_readTrader_68 : decode cX5_readTrader 68 = .ok (.istore_n 2, 1) := by decide +kernel
theorem dX5_readTrader_69 : decode cX5_readTrader 69 = .ok (.aload_n 0, 1) := by decide +kernel
theorem dX5_readTrader_70 : decode cX5_readTrader 70 = .ok (.iconst 0, 1) := by decide +kernel
theorem dX5_readTrader_71 : decode cX5_readTrader 71 = .ok (.iconst 1, 1) := by decide +kernel
theorem dX5_readTrader_72 : decode cX5_readTrader 72 = .ok (.invokevirtual 160, 3) := by decide +kernel
theorem dX5_readTrader_75 : decode cX5_readTrader 75 = .ok (.ifCond .ne 5, 3) := by decide +kernel
theorem dX5_readTrader_78 : decode cX5_readTrader 78 = .ok (.iconst 0, 1) := by decide +kernel
theorem dX5_readTrader_79 : decode cX5_readTrader 79 = .ok (.ireturn, 1) := by decide +kernel
theorem dX5_readTrader_80 : decode cX5_readTrader 80 = .ok (.aload_n 0, 1) := by decide +kernel
theorem dX5_readTrader_81 : decode cX5_readTrader 81 = .ok (.getfield 15, 3) := by decide +kernel
theorem dX5_readTrader_84 : decode cX5_readTrader 84 = .ok (.aload_n 0, 1) := by decide +kernel
theorem dX5_readTrader_85 : decode cX5_readTrader 85 = .ok (.getfield 46, 3) := by decide +kernel
theorem dX5_readTrader_88 : decode cX5_readTrader 88 = .ok (.getfield 143, 3) := by decide +kernel
theorem dX5_readTrader_91 : decode cX5_readTrader 91 = .ok (.iconst 0, 1) := by decide +kernel
theorem dX5_readTrader_92 : decode cX5_readTrader 92 = .ok (.bastore, 1) := by decide +kernel
theorem dX5_readTrader_93 : decode cX5_readTrader 93 = .ok (.aload_n 0, 1) := by decide +kernel
theorem dX5_readTrader_94 : decode cX5_readTrader 94 = .ok (.getfield 46, 3) := by decide +kernel
theorem dX5_readTrader_97 : decode cX5_readTrader 97 = .ok (.iload_n 1, 1) := by decide +kernel
theorem dX5_readTrader_98 : decode cX5_readTrader 98 = .ok (.iload_n 2, 1) := by decide +kernel
theorem dX5_readTrader_99 : decode cX5_readTrader 99 = .ok (.aload_n 0, 1) := by decide +kernel
theorem dX5_readTrader_100 : decode cX5_readTrader 100 = .ok (.getfield 149, 3) := by decide +kernel
theorem dX5_readTrader_103 : decode cX5_readTrader 103 = .ok (.invokevirtual 163, 3) := by decide +kernel
theorem dX5_readTrader_106 : decode cX5_readTrader 106 = .ok (.iconst 1, 1) := by decide +kernel
theorem dX5_readTrader_107 : decode cX5_readTrader 107 = .ok (.ireturn, 1) := by decide +kernel
theorem dX5_readHead_0 : decode cX5_readHead 0 = .ok (.aload_n 0, 1) := by decide +kernel
theorem dX5_readHead_1 : decode cX5_readHead 1 = .ok (.invokevirtual 167, 3) := by decide +kernel
theorem dX5_readHead_4 : decode cX5_readHead 4 = .ok (.ifCond .eq 38, 3) := by decide +kernel
theorem dX5_readHead_7 : decode cX5_readHead 7 = .ok (.aload_n 0, 1) := by decide +kernel
theorem dX5_readHead_8 : decode cX5_readHead 8 = .ok (.aload_n 0, 1) := by decide +kernel
theorem dX5_readHead_9 : decode cX5_readHead 9 = .ok (.getfield 15, 3) := by decide +kernel
theorem dX5_readHead_12 : decode cX5_readHead 12 = .ok (.aload_n 0, 1) := by decide +kernel
theorem dX5_readHead_13 : decode cX5_readHead 13 = .ok (.getfield 170, 3) := by decide +kernel
theorem dX5_readHead_16 : decode cX5_readHead 16 = .ok (.baload, 1) := by decide +kernel
theorem dX5_readHead_17 : decode cX5_readHead 17 = .ok (.ifCond .ne 7, 3) := by decide +kernel
theorem dX5_readHead_20 : decode cX5_readHead 20 = .ok (.iconst 1, 1) := by decide +kernel
theorem dX5_readHead_21 : decode cX5_readHead 21 = .ok (.goto 4, 3) := by decide +kernel
theorem dX5_readHead_24 : decode cX5_readHead 24 = .ok (.iconst 0, 1) := by decide +kernel
theorem dX5_readHead_25 : decode cX5_readHead 25 = .ok (.invokevirtual 156, 3) := by decide +kernel
theorem dX5_readHead_28 : decode cX5_readHead 28 = .ok (.ifCond .eq 14, 3) := by decide +kernel
theorem dX5_readHead_31 : decode cX5_readHead 31 = .ok (.aload_n 0, 1) := by decide +kernel
theorem dX5_readHead_32 : decode cX5_readHead 32 = .ok (.iconst 0, 1) := by decide +kernel
theorem dX5_readHead_33 : decode cX5_readHead 33 = .ok (.sipush 999, 3) := by decide +kernel
theorem dX5_readHead_36 : decode cX5_readHead 36 = .ok (.invokevirtual 160, 3) := by decide +kernel
theorem dX5_readHead_39 : decode cX5_readHead 39 = .ok (.ifCond .ne 5, 3) := by decide +kernel
theorem dX5_readHead_42 : decode cX5_readHead 42 = .ok (.iconst 0, 1) := by decide +kernel
theorem dX5_readHead_43 : decode cX5_readHead 43 = .ok (.ireturn, 1) := by decide +kernel
theorem dX5_readHead_44 : decode cX5_readHead 44 = .ok (.aload_n 0, 1) := by decide +kernel
theorem dX5_readHead_45 : decode cX5_readHead 45 = .ok (.getfield 149, 3) := by decide +kernel
theorem dX5_readHead_48 : decode cX5_readHead 48 = .ok (.istore_n 1, 1) := by decide +kernel
theorem dX5_readHead_49 : decode cX5_readHead 49 = .ok (.aload_n 0, 1) := by decide +kernel
theorem dX5_readHead_50 : decode cX5_readHead 50 = .ok (.iload_n 1, 1) := by decide +kernel
theorem dX5_readHead_51 : decode cX5_readHead 51 = .ok (.sipush 999, 3) := by decide +kernel
theorem dX5_readHead_54 : decode cX5_readHead 54 = .ok (.invokevirtual 160, 3) := by decide +kernel
theorem dX5_readHead_57 : decode cX5_readHead 57 = .ok (.ifCond .ne 5, 3) := by decide +kernel
theorem dX5_readHead_60 : decode cX5_readHead 60 = .ok (.iconst 0, 1) := by decide +kernel
theorem dX5_readHead_61 : decode cX5_readHead 61 = .ok (.ireturn, 1) := by decide +kernel
theorem dX5_readHead_62 : decode cX5_readHead 62 = .ok (.aload_n 0, 1) := by decide +kernel
theorem dX5_readHead_63 : decode cX5_readHead 63 = .ok (.getfield 46, 3) := by decide +kernel
theorem dX5_readHead_66 : decode cX5_readHead 66 = .ok (.getfield 173, 3) := by decide +kernel
theorem dX5_readHead_69 : decode cX5_readHead 69 = .ok (.aload_n 0, 1) := by decide +kernel
theorem dX5_readHead_70 : decode cX5_readHead 70 = .ok (.getfield 170, 3) := by decide +kernel
theorem dX5_readHead_73 : decode cX5_readHead 73 = .ok (.iload_n 1, 1) := by decide +kernel
theorem dX5_readHead_74 : decode cX5_readHead 74 = .ok (.iastore, 1) := by decide +kernel
theorem dX5_readHead_75 : decode cX5_readHead 75 = .ok (.aload_n 0, 1) := by decide +kernel
theorem dX5_readHead_76 : decode cX5_readHead 76 = .ok (.getfield 46, 3) := by decide +kernel
theorem dX5_readHead_79 : decode cX5_readHead 79 = .ok (.getfield 176, 3) := by decide +kernel
theorem dX5_readHead_82 : decode cX5_readHead 82 = .ok (.aload_n 0, 1) := by decide +kernel
theorem dX5_readHead_83 : decode cX5_readHead 83 = .ok (.getfield 170, 3) := by decide +kernel
theorem dX5_readHead_86 : decode cX5_readHead 86 = .ok (.aload_n 0, 1) := by decide +kernel
theorem dX5_readHead_87 : decode cX5_readHead 87 = .ok (.getfield 149, 3) := by decide +kernel
theorem dX5_readHead_90 : decode cX5_readHead 90 = .ok (.iastore, 1) := by decide +kernel
theorem dX5_readHead_91 : decode cX5_readHead 91 = .ok (.aload_n 0, 1) := by decide +kernel
theorem dX5_readHead_92 : decode cX5_readHead 92 = .ok (.getfield 15, 3) := by decide +kernel
theorem dX5_readHead_95 : decode cX5_readHead 95 = .ok (.aload_n 0, 1) := by decide +kernel
theorem dX5_readHead_96 : decode cX5_readHead 96 = .ok (.getfield 170, 3) := by decide +kernel
theorem dX5_readHead_99 : decode cX5_readHead 99 = .ok (.iconst 1, 1) := by decide +kernel
theorem dX5_readHead_100 : decode cX5_readHead 100 = .ok (.bastore, 1) := by decide +kernel
theorem dX5_readHead_101 : decode cX5_readHead 101 = .ok (.iconst 1, 1) := by decide +kernel
theorem dX5_readHead_102 : decode cX5_readHead 102 = .ok (.ireturn, 1) := by decide +kernel
theorem dX5_readStart_0 : decode cX5_readStart 0 = .ok (.aload_n 0, 1) := by decide +kernel
theorem dX5_readStart_1 : decode cX5_readStart 1 = .ok (.invokevirtual 167, 3) := by decide +kernel
theorem dX5_readStart_4 : decode cX5_readStart 4 = .ok (.ifCond .eq 43, 3) := by decide +kernel
theorem dX5_readStart_7 : decode cX5_readStart 7 = .ok (.aload_n 0, 1) := by decide +kernel
theorem dX5_readStart_8 : decode cX5_readStart 8 = .ok (.aload_n 0, 1) := by decide +kernel
theorem dX5_readStart_9 : decode cX5_readStart 9 = .ok (.getfield 46, 3) := by decide +kernel
theorem dX5_readStart_12 : decode cX5_readStart 12 = .ok (.getfield 179, 3) := by decide +kernel
theorem dX5_readStart_15 : decode cX5_readStart 15 = .ok (.aload_n 0, 1) := by decide +kernel
theorem dX5_readStart_16 : decode cX5_readStart 16 = .ok (.getfield 170, 3) := by decide +kernel
theorem dX5_readStart_19 : decode cX5_readStart 19 = .ok (.iaload, 1) := by decide +kernel
theorem dX5_readStart_20 : decode cX5_readStart 20 = .ok (.bipush (-2), 2) := by decide +kernel
theorem dX5_readStart_22 : decode cX5_readStart 22 = .ok (.if_icmp .ne 7, 3) := by decide +kernel
theorem dX5_readStart_25 : decode cX5_readStart 25 = .ok (.iconst 1, 1) := by decide +kernel
theorem dX5_readStart_26 : decode cX5_readStart 26 = .ok (.goto 4, 3) := by decide +kernel
theorem dX5_readStart_29 : decode cX5_readStart 29 = .ok (.iconst 0, 1) := by decide +kernel
theorem dX5_readStart_30 : decode cX5_readStart 30 = .ok (.invokevirtual 156, 3) := by decide +kernel
theorem dX5_readStart_33 : decode cX5_readStart 33 = .ok (.ifCond .eq 14, 3) := by decide +kernel
theorem dX5_readStart_36 : decode cX5_readStart 36 = .ok (.aload_n 0, 1) := by decide +kernel
theorem dX5_readStart_37 : decode cX5_readStart 37 = .ok (.iconst 0, 1) := by decide +kernel
theorem dX5_readStart_38 : decode cX5_readStart 38 = .ok (.sipush 1000, 3) := by decide +kernel
theorem dX5_readStart_41 : decode cX5_readStart 41 = .ok (.invokevirtual 160, 3) := by decide +kernel
theorem dX5_readStart_44 : decode cX5_readStart 44 = .ok (.ifCond .ne 5, 3) := by decide +kernel
theorem dX5_readStart_47 : decode cX5_readStart 47 = .ok (.iconst 0, 1) := by decide +kernel
theorem dX5_readStart_48 : decode cX5_readStart 48 = .ok (.ireturn, 1) := by decide +kernel
theorem dX5_readStart_49 : decode cX5_readStart 49 = .ok (.aload_n 0, 1) := by decide +kernel
theorem dX5_readStart_50 : decode cX5_readStart 50 = .ok (.getfield 46, 3) := by decide +kernel
theorem dX5_readStart_53 : decode cX5_readStart 53 = .ok (.getfield 179, 3) := by decide +kernel
theorem dX5_readStart_56 : decode cX5_readStart 56 = .ok (.aload_n 0, 1) := by decide +kernel
theorem dX5_readStart_57 : decode cX5_readStart 57 = .ok (.getfield 170, 3) := by decide +kernel
theorem dX5_readStart_60 : decode cX5_readStart 60 = .ok (.aload_n 0, 1) := by decide +kernel
theorem dX5_readStart_61 : decode cX5_readStart 61 = .ok (.getfield 149, 3) := by decide +kernel
theorem dX5_readStart_64 : decode cX5_readStart 64 = .ok (.iastore, 1) := by decide +kernel
theorem dX5_readStart_65 : decode cX5_readStart 65 = .ok (.iconst 1, 1) := by decide +kernel
theorem dX5_readStart_66 : decode cX5_readStart 66 = .ok (.ireturn, 1) := by decide +kernel
theorem dX5_readRound_0 : decode cX5_readRound 0 = .ok (.aload_n 0, 1) := by decide +kernel
theorem dX5_readRound_1 : decode cX5_readRound 1 = .ok (.aload_n 0, 1) := by decide +kernel
theorem dX5_readRound_2 : decode cX5_readRound 2 = .ok (.getfield 61, 3) := by decide +kernel
theorem dX5_readRound_5 : decode cX5_readRound 5 = .ok (.ifCond .ne 7, 3) := by decide +kernel
theorem dX5_readRound_8 : decode cX5_readRound 8 = .ok (.iconst 1, 1) := by decide +kernel
theorem dX5_readRound_9 : decode cX5_readRound 9 = .ok (.goto 4, 3) := by decide +kernel
theorem dX5_readRound_12 : decode cX5_readRound 12 = .ok (.iconst 0, 1) := by decide +kernel
theorem dX5_readRound_13 : decode cX5_readRound 13 = .ok (.invokevirtual 156, 3) := by decide +kernel
theorem dX5_readRound_16 : decode cX5_readRound 16 = .ok (.ifCond .ne 5, 3) := by decide +kernel
theorem dX5_readRound_19 : decode cX5_readRound 19 = .ok (.iconst 0, 1) := by decide +kernel
theorem dX5_readRound_20 : decode cX5_readRound 20 = .ok (.ireturn, 1) := by decide +kernel
theorem dX5_readRound_21 : decode cX5_readRound 21 = .ok (.aload_n 0, 1) := by decide +kernel
theorem dX5_readRound_22 : decode cX5_readRound 22 = .ok (.invokevirtual 23, 3) := by decide +kernel
theorem dX5_readRound_25 : decode cX5_readRound 25 = .ok (.aload_n 0, 1) := by decide +kernel
theorem dX5_readRound_26 : decode cX5_readRound 26 = .ok (.getfield 26, 3) := by decide +kernel
theorem dX5_readRound_29 : decode cX5_readRound 29 = .ok (.iconst 1, 1) := by decide +kernel
theorem dX5_readRound_30 : decode cX5_readRound 30 = .ok (.if_icmp .ne 21, 3) := by decide +kernel
theorem dX5_readRound_33 : decode cX5_readRound 33 = .ok (.aload_n 0, 1) := by decide +kernel
theorem dX5_readRound_34 : decode cX5_readRound 34 = .ok (.getfield 33, 3) := by decide +kernel
theorem dX5_readRound_37 : decode cX5_readRound 37 = .ok (.aload_n 0, 1) := by decide +kernel
theorem dX5_readRound_38 : decode cX5_readRound 38 = .ok (.getfield 74, 3) := by decide +kernel
theorem dX5_readRound_41 : decode cX5_readRound 41 = .ok (.aload_n 0, 1) := by decide +kernel
theorem dX5_readRound_42 : decode cX5_readRound 42 = .ok (.getfield 55, 3) := by decide +kernel
theorem dX5_readRound_45 : decode cX5_readRound 45 = .ok (.invokestatic 77, 3) := by decide +kernel
theorem dX5_readRound_48 : decode cX5_readRound 48 = .ok (.goto 4, 3) := by decide +kernel
theorem dX5_readRound_51 : decode cX5_readRound 51 = .ok (.aconst_null, 1) := by decide +kernel
theorem dX5_readRound_52 : decode cX5_readRound 52 = .ok (.astore_n 1, 1) := by decide +kernel
theorem dX5_readRound_53 : decode cX5_readRound 53 = .ok (.aload_n 1, 1) := by decide +kernel
theorem dX5_readRound_54 : decode cX5_readRound 54 = .ok (.getstatic 182, 3) := by decide +kernel
theorem dX5_readRound_57 : decode cX5_readRound 57 = .ok (.if_acmp .ne 14, 3) := by decide +kernel
theorem dX5_readRound_60 : decode cX5_readRound 60 = .ok (.aload_n 0, 1) := by decide +kernel
theorem dX5_readRound_61 : decode cX5_readRound 61 = .ok (.getfield 46, 3) := by decide +kernel
theorem dX5_readRound_64 : decode cX5_readRound 64 = .ok (.iconst 0, 1) := by decide +kernel
theorem dX5_readRound_65 : decode cX5_readRound 65 = .ok (.putfield 186, 3) := by decide +kernel
theorem dX5_readRound_68 : decode cX5_readRound 68 = .ok (.goto 49, 3) := by decide +kernel
theorem dX5_readRound_71 : decode cX5_readRound 71 = .ok (.aload_n 1, 1) := by decide +kernel
theorem dX5_readRound_72 : decode cX5_readRound 72 = .ok (.getstatic 189, 3) := by decide +kernel
theorem dX5_readRound_75 : decode cX5_readRound 75 = .ok (.if_acmp .ne 14, 3) := by decide +kernel
theorem dX5_readRound_78 : decode cX5_readRound 78 = .ok (.aload_n 0, 1) := by decide +kernel
theorem dX5_readRound_79 : decode cX5_readRound 79 = .ok (.getfield 46, 3) := by decide +kernel
theorem dX5_readRound_82 : decode cX5_readRound 82 = .ok (.iconst 1, 1) := by decide +kernel
theorem dX5_readRound_83 : decode cX5_readRound 83 = .ok (.putfield 186, 3) := by decide +kernel
theorem dX5_readRound_86 : decode cX5_readRound 86 = .ok (.goto 31, 3) := by decide +kernel
theorem dX5_readRound_89 : decode cX5_readRound 89 = .ok (.aload_n 1, 1) := by decide +kernel
theorem dX5_readRound_90 : decode cX5_readRound 90 = .ok (.getstatic 192, 3) := by decide +kernel
theorem dX5_readRound_93 : decode cX5_readRound 93 = .ok (.if_acmp .ne 14, 3) := by decide +kernel
theorem dX5_readRound_96 : decode cX5_readRound 96 = .ok (.aload_n 0, 1) := by decide +kernel
theorem dX5_readRound_97 : decode cX5_readRound 97 = .ok (.getfield 46, 3) := by decide +kernel
theorem dX5_readRound_100 : decode cX5_readRound 100 = .ok (.iconst 2, 1) := by decide +kernel
theorem dX5_readRound_101 : decode cX5_readRound 101 = .ok (.putfield 186, 3) := by decide +kernel
theorem dX5_readRound_104 : decode cX5_readRound 104 = .ok (.goto 13, 3) := by decide +kernel
theorem dX5_readRound_107 : decode cX5_readRound 107 = .ok (.aload_n 0, 1) := by decide +kernel
theorem dX5_readRound_108 : decode cX5_readRound 108 = .ok (.iconst 1, 1) := by decide +kernel
theorem dX5_readRound_109 : decode cX5_readRound 109 = .ok (.aload_n 0, 1) := by decide +kernel
theorem dX5_readRound_110 : decode cX5_readRound 110 = .ok (.getfield 74, 3) := by decide +kernel
theorem dX5_readRound_113 : decode cX5_readRound 113 = .ok (.invokevirtual 83, 3) := by decide +kernel
theorem dX5_readRound_116 : decode cX5_readRound 116 = .ok (.ireturn, 1) := by decide +kernel
theorem dX5_readRound_117 : decode cX5_readRound 117 = .ok (.aload_n 0, 1) := by decide +kernel
theorem dX5_readRound_118 : decode cX5_readRound 118 = .ok (.iconst 1, 1) := by decide +kernel
theorem dX5_readRound_119 : decode cX5_readRound 119 = .ok (.putfield 61, 3) := by decide +kernel
theorem dX5_readRound_122 : decode cX5_readRound 122 = .ok (.iconst 1, 1) := by decide +kernel
theorem dX5_readRound_123 : decode cX5_readRound 123 = .ok (.ireturn, 1) := by decide +kernel
theorem dX5_readStep_0 : decode cX5_readStep 0 = .ok (.aload_n 0, 1) := by decide +kernel
theorem dX5_readStep_1 : decode cX5_readStep 1 = .ok (.aload_n 0, 1) := by decide +kernel
theorem dX5_readStep_2 : decode cX5_readStep 2 = .ok (.getfield 65, 3) := by decide +kernel
theorem dX5_readStep_5 : decode cX5_readStep 5 = .ok (.ifCond .ne 7, 3) := by decide +kernel
theorem dX5_readStep_8 : decode cX5_readStep 8 = .ok (.iconst 1, 1) := by decide +kernel
theorem dX5_readStep_9 : decode cX5_readStep 9 = .ok (.goto 4, 3) := by decide +kernel
theorem dX5_readStep_12 : decode cX5_readStep 12 = .ok (.iconst 0, 1) := by decide +kernel
theorem dX5_readStep_13 : decode cX5_readStep 13 = .ok (.invokevirtual 156, 3) := by decide +kernel
theorem dX5_readStep_16 : decode cX5_readStep 16 = .ok (.ifCond .eq 15, 3) := by decide +kernel
theorem dX5_readStep_19 : decode cX5_readStep 19 = .ok (.aload_n 0, 1) := by decide +kernel
theorem dX5_readStep_20 : decode cX5_readStep 20 = .ok (.bipush 10, 2) := by decide +kernel
theorem dX5_readStep_22 : decode cX5_readStep 22 = .ok (.sipush 1000, 3) := by decide +kernel
theorem dX5_readStep_25 : decode cX5_readStep 25 = .ok (.invokevirtual 160, 3) := by decide +kernel
theorem dX5_readStep_28 : decode cX5_readStep 28 = .ok (.ifCond .ne 5, 3) := by decide +kernel
theorem dX5_readStep_31 : decode cX5_readStep 31 = .ok (.iconst 0, 1) := by decide +kernel
theorem dX5_readStep_32 : decode cX5_readStep 32 = .ok (.ireturn, 1) := by decide +kernel
theorem dX5_readStep_33 : decode cX5_readStep 33 = .ok (.aload_n 0, 1) := by decide +kernel
theorem dX5_readStep_34 : decode cX5_readStep 34 = .ok (.getfield 46, 3) := by decide +kernel
theorem dX5_readStep_37 : decode cX5_readStep 37 = .ok (.aload_n 0, 1) := by decide +kernel
theorem dX5_readStep_38 : decode cX5_readStep 38 = .ok (.getfield 149, 3) := by decide +kernel
theorem dX5_readStep_41 : decode cX5_readStep 41 = .ok (.putfield 195, 3) := by decide +kernel
theorem dX5_readStep_44 : decode cX5_readStep 44 = .ok (.aload_n 0, 1) := by decide +kernel
theorem dX5_readStep_45 : decode cX5_readStep 45 = .ok (.iconst 1, 1) := by decide +kernel
theorem dX5_readStep_46 : decode cX5_readStep 46 = .ok (.putfield 65, 3) := by decide +kernel
theorem dX5_readStep_49 : decode cX5_readStep 49 = .ok (.iconst 1, 1) := by decide +kernel
theorem dX5_readStep_50 : decode cX5_readStep 50 = .ok (.ireturn, 1) := by decide +kernel
theorem dX5_readLimit_0 : decode cX5_readLimit 0 = .ok (.aload_n 0, 1) := by decide +kernel
theorem dX5_readLimit_1 : decode cX5_readLimit 1 = .ok (.aload_n 0, 1) := by decide +kernel
theorem dX5_readLimit_2 : decode cX5_readLimit 2 = .ok (.getfield 68, 3) := by decide +kernel
theorem dX5_readLimit_5 : decode cX5_readLimit 5 = .ok (.ifCond .ne 7, 3) := by decide +kernel
theorem dX5_readLimit_8 : decode cX5_readLimit 8 = .ok (.iconst 1, 1) := by decide +kernel
theorem dX5_readLimit_9 : decode cX5_readLimit 9 = .ok (.goto 4, 3) := by decide +kernel
theorem dX5_readLimit_12 : decode cX5_readLimit 12 = .ok (.iconst 0, 1) := by decide +kernel
theorem dX5_readLimit_13 : decode cX5_readLimit 13 = .ok (.invokevirtual 156, 3) := by decide +kernel
theorem dX5_readLimit_16 : decode cX5_readLimit 16 = .ok (.ifCond .eq 14, 3) := by decide +kernel
theorem dX5_readLimit_19 : decode cX5_readLimit 19 = .ok (.aload_n 0, 1) := by decide +kernel
theorem dX5_readLimit_20 : decode cX5_readLimit 20 = .ok (.iconst 0, 1) := by decide +kernel
theorem dX5_readLimit_21 : decode cX5_readLimit 21 = .ok (.sipush 9999, 3) := by decide +kernel
theorem dX5_readLimit_24 : decode cX5_readLimit 24 = .ok (.invokevirtual 160, 3) := by decide +kernel
theorem dX5_readLimit_27 : decode cX5_readLimit 27 = .ok (.ifCond .ne 5, 3) := by decide +kernel
theorem dX5_readLimit_30 : decode cX5_readLimit 30 = .ok (.iconst 0, 1) := by decide +kernel
theorem dX5_readLimit_31 : decode cX5_readLimit 31 = .ok (.ireturn, 1) := by decide +kernel
theorem dX5_readLimit_32 : decode cX5_readLimit 32 = .ok (.aload_n 0, 1) := by decide +kernel
theorem dX5_readLimit_33 : decode cX5_readLimit 33 = .ok (.getfield 46, 3) := by decide +kernel
theorem dX5_readLimit_36 : decode cX5_readLimit 36 = .ok (.aload_n 0, 1) := by decide +kernel
theorem dX5_readLimit_37 : decode cX5_readLimit 37 = .ok (.getfield 149, 3) := by decide +kernel
theorem dX5_readLimit_40 : decode cX5_readLimit 40 = .ok (.putfield 198, 3) := by decide +kernel
theorem dX5_readLimit_43 : decode cX5_readLimit 43 = .ok (.aload_n 0, 1) := by decide +kernel
theorem dX5_readLimit_44 : decode cX5_readLimit 44 = .ok (.iconst 1, 1) := by decide +kernel
theorem dX5_readLimit_45 : decode cX5_readLimit 45 = .ok (.putfield 68, 3) := by decide +kernel
theorem dX5_readLimit_48 : decode cX5_readLimit 48 = .ok (.iconst 1, 1) := by decide +kernel
theorem dX5_readLimit_49 : decode cX5_readLimit 49 = .ok (.ireturn, 1) := by decide +kernel
theorem dX5_readSeed_0 : decode cX5_readSeed 0 = .ok (.aload_n 0, 1) := by decide +kernel
theorem dX5_readSeed_1 : decode cX5_readSeed 1 = .ok (.aload_n 0, 1) := by decide +kernel
theorem dX5_readSeed_2 : decode cX5_readSeed 2 = .ok (.getfield 71, 3) := by decide +kernel
theorem dX5_readSeed_5 : decode cX5_readSeed 5 = .ok (.ifCond .ne 7, 3) := by decide +kernel
theorem dX5_readSeed_8 : decode cX5_readSeed 8 = .ok (.iconst 1, 1) := by decide +kernel
theorem dX5_readSeed_9 : decode cX5_readSeed 9 = .ok (.goto 4, 3) := by decide +kernel
theorem dX5_readSeed_12 : decode cX5_readSeed 12 = .ok (.iconst 0, 1) := by decide +kernel
theorem dX5_readSeed_13 : decode cX5_readSeed 13 = .ok (.invokevirtual 156, 3) := by decide +kernel
theorem dX5_readSeed_16 : decode cX5_readSeed 16 = .ok (.ifCond .eq 13, 3) := by decide +kernel
theorem dX5_readSeed_19 : decode cX5_readSeed 19 = .ok (.aload_n 0, 1) := by decide +kernel
theorem dX5_readSeed_20 : decode cX5_readSeed 20 = .ok (.iconst 0, 1) := by decide +kernel
theorem dX5_readSeed_21 : decode cX5_readSeed 21 = .ok (.ldc 201, 2) := by decide +kernel
theorem dX5_readSeed_23 : decode cX5_readSeed 23 = .ok (.invokevirtual 160, 3) := by decide +kernel
theorem dX5_readSeed_26 : decode cX5_readSeed 26 = .ok (.ifCond .ne 5, 3) := by decide +kernel
theorem dX5_readSeed_29 : decode cX5_readSeed 29 = .ok (.iconst 0, 1) := by decide +kernel
theorem dX5_readSeed_30 : decode cX5_readSeed 30 = .ok (.ireturn, 1) := by decide +kernel
theorem dX5_readSeed_31 : decode cX5_readSeed 31 = .ok (.aload_n 0, 1) := by decide +kernel
theorem dX5_readSeed_32 : decode cX5_readSeed 32 = .ok (.getfield 46, 3) := by decide +kernel
theorem dX5_readSeed_35 : decode cX5_readSeed 35 = .ok (.aload_n 0, 1) := by decide +kernel
theorem dX5_readSeed_36 : decode cX5_readSeed 36 = .ok (.getfield 149, 3) := by decide +kernel
theorem dX5_readSeed_39 : decode cX5_readSeed 39 = .ok (.putfield 202, 3) := by decide +kernel
theorem dX5_readSeed_42 : decode cX5_readSeed 42 = .ok (.aload_n 0, 1) := by decide +kernel
theorem dX5_readSeed_43 : decode cX5_readSeed 43 = .ok (.iconst 1, 1) := by decide +kernel
theorem dX5_readSeed_44 : decode cX5_readSeed 44 = .ok (.putfield 71, 3) := by decide +kernel
theorem dX5_readSeed_47 : decode cX5_readSeed 47 = .ok (.iconst 1, 1) := by decide +kernel
theorem dX5_readSeed_48 : decode cX5_readSeed 48 = .ok (.ireturn, 1) := by decide +kernel
theorem dX5_takeDeal_0 : decode cX5_takeDeal 0 = .ok (.aload_n 0, 1) := by decide +kernel
theorem dX5_takeDeal_1 : decode cX5_takeDeal 1 = .ok (.invokevirtual 167, 3) := by decide +kernel
theorem dX5_takeDeal_4 : decode cX5_takeDeal 4 = .ok (.ifCond .eq 13, 3) := by decide +kernel
theorem dX5_takeDeal_7 : decode cX5_takeDeal 7 = .ok (.aload_n 0, 1) := by decide +kernel
theorem dX5_takeDeal_8 : decode cX5_takeDeal 8 = .ok (.iconst 0, 1) := by decide +kernel
theorem dX5_takeDeal_9 : decode cX5_takeDeal 9 = .ok (.bipush 63, 2) := by decide +kernel
theorem dX5_takeDeal_11 : decode cX5_takeDeal 11 = .ok (.invokevirtual 160, 3) := by decide +kernel
theorem dX5_takeDeal_14 : decode cX5_takeDeal 14 = .ok (.ifCond .ne 5, 3) := by decide +kernel
theorem dX5_takeDeal_17 : decode cX5_takeDeal 17 = .ok (.iconst 0, 1) := by decide +kernel
theorem dX5_takeDeal_18 : decode cX5_takeDeal 18 = .ok (.ireturn, 1) := by decide +kernel
theorem dX5_takeDeal_19 : decode cX5_takeDeal 19 = .ok (.aload_n 0, 1) := by decide +kernel
theorem dX5_takeDeal_20 : decode cX5_takeDeal 20 = .ok (.aload_n 0, 1) := by decide +kernel
theorem dX5_takeDeal_21 : decode cX5_takeDeal 21 = .ok (.getfield 149, 3) := by decide +kernel
theorem dX5_takeDeal_24 : decode cX5_takeDeal 24 = .ok (.putfield 205, 3) := by decide +kernel
theorem dX5_takeDeal_27 : decode cX5_takeDeal 27 = .ok (.aload_n 0, 1) := by decide +kernel
theorem dX5_takeDeal_28 : decode cX5_takeDeal 28 = .ok (.iconst 0, 1) := by decide +kernel
theorem dX5_takeDeal_29 : decode cX5_takeDeal 29 = .ok (.iload_n 1, 1) := by decide +kernel
theorem dX5_takeDeal_30 : decode cX5_takeDeal 30 = .ok (.iconst 1, 1) := by decide +kernel
theorem dX5_takeDeal_31 : decode cX5_takeDeal 31 = .ok (.isub, 1) := by decide +kernel
theorem dX5_takeDeal_32 : decode cX5_takeDeal 32 = .ok (.invokevirtual 160, 3) := by decide +kernel
theorem dX5_takeDeal_35 : decode cX5_takeDeal 35 = .ok (.ifCond .ne 5, 3) := by decide +kernel
theorem dX5_takeDeal_38 : decode cX5_takeDeal 38 = .ok (.iconst 0, 1) := by decide +kernel
theorem dX5_takeDeal_39 : decode cX5_takeDeal 39 = .ok (.ireturn, 1) := by decide +kernel
theorem dX5_takeDeal_40 : decode cX5_takeDeal 40 = .ok (.aload_n 0, 1) := by decide +kernel
theorem dX5_takeDeal_41 : decode cX5_takeDeal 41 = .ok (.aload_n 0, 1) := by decide +kernel
theorem dX5_takeDeal_42 : decode cX5_takeDeal 42 = .ok (.getfield 149, 3) := by decide +kernel
theorem dX5_takeDeal_45 : decode cX5_takeDeal 45 = .ok (.putfield 208, 3) := by decide +kernel
theorem dX5_takeDeal_48 : decode cX5_takeDeal 48 = .ok (.iconst 1, 1) := by decide +kernel
theorem dX5_takeDeal_49 : decode cX5_takeDeal 49 = .ok (.ireturn, 1) := by decide +kernel
theorem dX5_endSale_0 : decode cX5_endSale 0 = .ok (.aload_n 0, 1) := by decide +kernel
theorem dX5_endSale_1 : decode cX5_endSale 1 = .ok (.iconst 1, 1) := by decide +kernel
theorem dX5_endSale_2 : decode cX5_endSale 2 = .ok (.ldc 201, 2) := by decide +kernel
theorem dX5_endSale_4 : decode cX5_endSale 4 = .ok (.invokevirtual 160, 3) := by decide +kernel
theorem dX5_endSale_7 : decode cX5_endSale 7 = .ok (.ifCond .ne 5, 3) := by decide +kernel
theorem dX5_endSale_10 : decode cX5_endSale 10 = .ok (.iconst 0, 1) := by decide +kernel
theorem dX5_endSale_11 : decode cX5_endSale 11 = .ok (.ireturn, 1) := by decide +kernel
theorem dX5_endSale_12 : decode cX5_endSale 12 = .ok (.aload_n 0, 1) := by decide +kernel
theorem dX5_endSale_13 : decode cX5_endSale 13 = .ok (.getfield 46, 3) := by decide +kernel
theorem dX5_endSale_16 : decode cX5_endSale 16 = .ok (.aload_n 0, 1) := by decide +kernel
theorem dX5_endSale_17 : decode cX5_endSale 17 = .ok (.getfield 170, 3) := by decide +kernel
theorem dX5_endSale_20 : decode cX5_endSale 20 = .ok (.aload_n 0, 1) := by decide +kernel
theorem dX5_endSale_21 : decode cX5_endSale 21 = .ok (.getfield 205, 3) := by decide +kernel
theorem dX5_endSale_24 : decode cX5_endSale 24 = .ok (.aload_n 0, 1) := by decide +kernel
theorem dX5_endSale_25 : decode cX5_endSale 25 = .ok (.getfield 208, 3) := by decide +kernel
theorem dX5_endSale_28 : decode cX5_endSale 28 = .ok (.aload_n 0, 1) := by decide +kernel
theorem dX5_endSale_29 : decode cX5_endSale 29 = .ok (.getfield 149, 3) := by decide +kernel
theorem dX5_endSale_32 : decode cX5_endSale 32 = .ok (.invokevirtual 211, 3) := by decide +kernel
theorem dX5_endSale_35 : decode cX5_endSale 35 = .ok (.iconst 1, 1) := by decide +kernel
theorem dX5_endSale_36 : decode cX5_endSale 36 = .ok (.ireturn, 1) := by decide +kernel
theorem dX5_endBuy_0 : decode cX5_endBuy 0 = .ok (.aload_n 0, 1) := by decide +kernel
theorem dX5_endBuy_1 : decode cX5_endBuy 1 = .ok (.iconst 1, 1) := by decide +kernel
theorem dX5_endBuy_2 : decode cX5_endBuy 2 = .ok (.sipush 9999, 3) := by decide +kernel
theorem dX5_endBuy_5 : decode cX5_endBuy 5 = .ok (.invokevirtual 160, 3) := by decide +kernel
theorem dX5_endBuy_8 : decode cX5_endBuy 8 = .ok (.ifCond .ne 5, 3) := by decide +kernel
theorem dX5_endBuy_11 : decode cX5_endBuy 11 = .ok (.iconst 0, 1) := by decide +kernel
theorem dX5_endBuy_12 : decode cX5_endBuy 12 = .ok (.ireturn, 1) := by decide +kernel
theorem dX5_endBuy_13 : decode cX5_endBuy 13 = .ok (.aload_n 0, 1) := by decide +kernel
theorem dX5_endBuy_14 : decode cX5_endBuy 14 = .ok (.getfield 46, 3) := by decide +kernel
theorem dX5_endBuy_17 : decode cX5_endBuy 17 = .ok (.aload_n 0, 1) := by decide +kernel
theorem dX5_endBuy_18 : decode cX5_endBuy 18 = .ok (.getfield 170, 3) := by decide +kernel
theorem dX5_endBuy_21 : decode cX5_endBuy 21 = .ok (.aload_n 0, 1) := by decide +kernel
theorem dX5_endBuy_22 : decode cX5_endBuy 22 = .ok (.getfield 205, 3) := by decide +kernel
theorem dX5_endBuy_25 : decode cX5_endBuy 25 = .ok (.aload_n 0, 1) := by decide +kernel
theorem dX5_endBuy_26 : decode cX5_endBuy 26 = .ok (.getfield 208, 3) := by decide +kernel
theorem dX5_endBuy_29 : decode cX5_endBuy 29 = .ok (.aload_n 0, 1) := by decide +kernel
theorem dX5_endBuy_30 : decode cX5_endBuy 30 = .ok (.getfield 149, 3) := by decide +kernel
theorem dX5_endBuy_33 : decode cX5_endBuy 33 = .ok (.invokevirtual 215, 3) := by decide +kernel
theorem dX5_endBuy_36 : decode cX5_endBuy 36 = .ok (.iconst 1, 1) := by decide +kernel
theorem dX5_endBuy_37 : decode cX5_endBuy 37 = .ok (.ireturn, 1) := by decide +kernel
theorem dX5_endAsset_0 : decode cX5_endAsset 0 = .ok (.aload_n 0, 1) := by decide +kernel
theorem dX5_endAsset_1 : decode cX5_endAsset 1 = .ok (.iconst 1, 1) := by decide +kernel
theorem dX5_endAsset_2 : decode cX5_endAsset 2 = .ok (.sipush 9999, 3) := by decide +kernel
theorem dX5_endAsset_5 : decode cX5_endAsset 5 = .ok (.invokevirtual 160, 3) := by decide +kernel
theorem dX5_endAsset_8 : decode cX5_endAsset 8 = .ok (.ifCond .ne 5, 3) := by decide +kernel
theorem dX5_endAsset_11 : decode cX5_endAsset 11 = .ok (.iconst 0, 1) := by decide +kernel
theorem dX5_endAsset_12 : decode cX5_endAsset 12 = .ok (.ireturn, 1) := by decide +kernel
theorem dX5_endAsset_13 : decode cX5_endAsset 13 = .ok (.aload_n 0, 1) := by decide +kernel
theorem dX5_endAsset_14 : decode cX5_endAsset 14 = .ok (.getfield 149, 3) := by decide +kernel
theorem dX5_endAsset_17 : decode cX5_endAsset 17 = .ok (.istore_n 1, 1) := by decide +kernel
theorem dX5_endAsset_18 : decode cX5_endAsset 18 = .ok (.aload_n 0, 1) := by decide +kernel
theorem dX5_endAsset_19 : decode cX5_endAsset 19 = .ok (.iconst 0, 1) := by decide +kernel
theorem dX5_endAsset_20 : decode cX5_endAsset 20 = .ok (.bipush 10, 2) := by decide +kernel
theorem dX5_endAsset_22 : decode cX5_endAsset 22 = .ok (.invokevirtual 160, 3) := by decide +kernel
theorem dX5_endAsset_25 : decode cX5_endAsset 25 = .ok (.ifCond .ne 5, 3) := by decide +kernel
theorem dX5_endAsset_28 : decode cX5_endAsset 28 = .ok (.iconst 0, 1) := by decide +kernel
theorem dX5_endAsset_29 : decode cX5_endAsset 29 = .ok (.ireturn, 1) := by decide +kernel
theorem dX5_endAsset_30 : decode cX5_endAsset 30 = .ok (.aload_n 0, 1) := by decide +kernel
theorem dX5_endAsset_31 : decode cX5_endAsset 31 = .ok (.getfield 149, 3) := by decide +kernel
theorem dX5_endAsset_34 : decode cX5_endAsset 34 = .ok (.invokestatic 218, 3) := by decide +kernel
theorem dX5_endAsset_37 : decode cX5_endAsset 37 = .ok (.ifCond .ne 13, 3) := by decide +kernel
theorem dX5_endAsset_40 : decode cX5_endAsset 40 = .ok (.aload_n 0, 1) := by decide +kernel
theorem dX5_endAsset_41 : decode cX5_endAsset 41 = .ok (.iconst 2, 1) := by decide +kernel
theorem dX5_endAsset_42 : decode cX5_endAsset 42 = .ok (.aload_n 0, 1) := by decide +kernel
theorem dX5_endAsset_43 : decode cX5_endAsset 43 = .ok (.getfield 74, 3) := by decide +kernel
theorem dX5_endAsset_46 : decode cX5_endAsset 46 = .ok (.invokevirtual 83, 3) := by decide +kernel
theorem dX5_endAsset_49 : decode cX5_endAsset 49 = .ok (.ireturn, 1) := by decide +kernel
theorem dX5_endAsset_50 : decode cX5_endAsset 50 = .ok (.aload_n 0, 1) := by decide +kernel
theorem dX5_endAsset_51 : decode cX5_endAsset 51 = .ok (.getfield 46, 3) := by decide +kernel
theorem dX5_endAsset_54 : decode cX5_endAsset 54 = .ok (.aload_n 0, 1) := by decide +kernel
theorem dX5_endAsset_55 : decode cX5_endAsset 55 = .ok (.getfield 170, 3) := by decide +kernel
theorem dX5_endAsset_58 : decode cX5_endAsset 58 = .ok (.aload_n 0, 1) := by decide +kernel
theorem dX5_endAsset_59 : decode cX5_endAsset 59 = .ok (.getfield 205, 3) := by decide +kernel
theorem dX5_endAsset_62 : decode cX5_endAsset 62 = .ok (.aload_n 0, 1) := by decide +kernel
theorem dX5_endAsset_63 : decode cX5_endAsset 63 = .ok (.getfield 208, 3) := by decide +kernel
theorem dX5_endAsset_66 : decode cX5_endAsset 66 = .ok (.iload_n 1, 1) := by decide +kernel
theorem dX5_endAsset_67 : decode cX5_endAsset 67 = .ok (.aload_n 0, 1) := by decide +kernel
theorem dX5_endAsset_68 : decode cX5_endAsset 68 = .ok (.getfield 149, 3) := by decide +kernel
theorem dX5_endAsset_71 : decode cX5_endAsset 71 = .ok (.invokevirtual 221, 3) := by decide +kernel
theorem dX5_endAsset_74 : decode cX5_endAsset 74 = .ok (.iconst 1, 1) := by decide +kernel
theorem dX5_endAsset_75 : decode cX5_endAsset 75 = .ok (.ireturn, 1) := by decide +kernel
theorem dX5_isRoom_0 : decode cX5_isRoom 0 = .ok (.iload_n 1, 1) := by decide +kernel
theorem dX5_isRoom_1 : decode cX5_isRoom 1 = .ok (.iload_n 2, 1) := by decide +kernel
theorem dX5_isRoom_2 : decode cX5_isRoom 2 = .ok (.if_icmp .lt 15, 3) := by decide +kernel
theorem dX5_isRoom_5 : decode cX5_isRoom 5 = .ok (.aload_n 0, 1) := by decide +kernel
theorem dX5_isRoom_6 : decode cX5_isRoom 6 = .ok (.iconst 2, 1) := by decide +kernel
theorem dX5_isRoom_7 : decode cX5_isRoom 7 = .ok (.aload_n 0, 1) := by decide +kernel
theorem dX5_isRoom_8 : decode cX5_isRoom 8 = .ok (.getfield 74, 3) := by decide +kernel
theorem dX5_isRoom_11 : decode cX5_isRoom 11 = .ok (.invokevirtual 83, 3) := by decide +kernel
theorem dX5_isRoom_14 : decode cX5_isRoom 14 = .ok (.ifCond .eq 7, 3) := by decide +kernel
theorem dX5_isRoom_17 : decode cX5_isRoom 17 = .ok (.iconst 1, 1) := by decide +kernel
theorem dX5_isRoom_18 : decode cX5_isRoom 18 = .ok (.goto 4, 3) := by decide +kernel
theorem dX5_isRoom_21 : decode cX5_isRoom 21 = .ok (.iconst 0, 1) := by decide +kernel
theorem dX5_isRoom_22 : decode cX5_isRoom 22 = .ok (.ireturn, 1) := by decide +kernel
theorem dX5_isNew_0 : decode cX5_isNew 0 = .ok (.iload_n 1, 1) := by decide +kernel
theorem dX5_isNew_1 : decode cX5_isNew 1 = .ok (.ifCond .ne 15, 3) := by decide +kernel
theorem dX5_isNew_4 : decode cX5_isNew 4 = .ok (.aload_n 0, 1) := by decide +kernel
theorem dX5_isNew_5 : decode cX5_isNew 5 = .ok (.iconst 3, 1) := by decide +kernel
theorem dX5_isNew_6 : decode cX5_isNew 6 = .ok (.aload_n 0, 1) := by decide +kernel
theorem dX5_isNew_7 : decode cX5_isNew 7 = .ok (.getfield 74, 3) := by decide +kernel
theorem dX5_isNew_10 : decode cX5_isNew 10 = .ok (.invokevirtual 83, 3) := by decide +kernel
theorem dX5_isNew_13 : decode cX5_isNew 13 = .ok (.ifCond .eq 7, 3) := by decide +kernel
theorem dX5_isNew_16 : decode cX5_isNew 16 = .ok (.iconst 1, 1) := by decide +kernel
theorem dX5_isNew_17 : decode cX5_isNew 17 = .ok (.goto 4, 3) := by decide +kernel
theorem dX5_isNew_20 : decode cX5_isNew 20 = .ok (.iconst 0, 1) := by decide +kernel
theorem dX5_isNew_21 : decode cX5_isNew 21 = .ok (.ireturn, 1) := by decide +kernel
theorem dX5_takeName_0 : decode cX5_takeName 0 = .ok (.aload_n 0, 1) := by decide +kernel
theorem dX5_takeName_1 : decode cX5_takeName 1 = .ok (.invokevirtual 23, 3) := by decide +kernel
theorem dX5_takeName_4 : decode cX5_takeName 4 = .ok (.aload_n 0, 1) := by decide +kernel
theorem dX5_takeName_5 : decode cX5_takeName 5 = .ok (.getfield 26, 3) := by decide +kernel
theorem dX5_takeName_8 : decode cX5_takeName 8 = .ok (.iconst 1, 1) := by decide +kernel
theorem dX5_takeName_9 : decode cX5_takeName 9 = .ok (.if_icmp .ne 35, 3) := by decide +kernel
theorem dX5_takeName_12 : decode cX5_takeName 12 = .ok (.aload_n 0, 1) := by decide +kernel
theorem dX5_takeName_13 : decode cX5_takeName 13 = .ok (.getfield 55, 3) := by decide +kernel
theorem dX5_takeName_16 : decode cX5_takeName 16 = .ok (.aload_n 0, 1) := by decide +kernel
theorem dX5_takeName_17 : decode cX5_takeName 17 = .ok (.getfield 74, 3) := by decide +kernel
theorem dX5_takeName_20 : decode cX5_takeName 20 = .ok (.isub, 1) := by decide +kernel
theorem dX5_takeName_21 : decode cX5_takeName 21 = .ok (.bipush 6, 2) := by decide +kernel
theorem dX5_takeName_23 : decode cX5_takeName 23 = .ok (.if_icmp .gt 21, 3) := by decide +kernel
theorem dX5_takeName_26 : decode cX5_takeName 26 = .ok (.aload_n 0, 1) := by decide +kernel
theorem dX5_takeName_27 : decode cX5_takeName 27 = .ok (.getfield 33, 3) := by decide +kernel
theorem dX5_takeName_30 : decode cX5_takeName 30 = .ok (.aload_n 0, 1) := by decide +kernel
theorem dX5_takeName_31 : decode cX5_takeName 31 = .ok (.getfield 74, 3) := by decide +kernel
theorem dX5_takeName_34 : decode cX5_takeName 34 = .ok (.aload_n 0, 1) := by decide +kernel
theorem dX5_takeName_35 : decode cX5_takeName 35 = .ok (.getfield 55, 3) := by decide +kernel
theorem dX5_takeName_38 : decode cX5_takeName 38 = .ok (.invokestatic 77, 3) := by decide +kernel
theorem dX5_takeName_41 : decode cX5_takeName 41 = .ok (.ifnull 13, 3) := by decide +kernel
theorem dX5_takeName_44 : decode cX5_takeName 44 = .ok (.aload_n 0, 1) := by decide +kernel
theorem dX5_takeName_45 : decode cX5_takeName 45 = .ok (.iconst 1, 1) := by decide +kernel
theorem dX5_takeName_46 : decode cX5_takeName 46 = .ok (.aload_n 0, 1) := by decide +kernel
theorem dX5_takeName_47 : decode cX5_takeName 47 = .ok (.getfield 74, 3) := by decide +kernel
theorem dX5_takeName_50 : decode cX5_takeName 50 = .ok (.invokevirtual 83, 3) := by decide +kernel
theorem dX5_takeName_53 : decode cX5_takeName 53 = .ok (.ireturn, 1) := by decide +kernel
theorem dX5_takeName_54 : decode cX5_takeName 54 = .ok (.iconst 1, 1) := by decide +kernel
theorem dX5_takeName_55 : decode cX5_takeName 55 = .ok (.ireturn, 1) := by decide +kernel
theorem dX5_takeTrader_0 : decode cX5_takeTrader 0 = .ok (.aload_n 0, 1) := by decide +kernel
theorem dX5_takeTrader_1 : decode cX5_takeTrader 1 = .ok (.invokevirtual 146, 3) := by decide +kernel
theorem dX5_takeTrader_4 : decode cX5_takeTrader 4 = .ok (.ifCond .ne 5, 3) := by decide +kernel
theorem dX5_takeTrader_7 : decode cX5_takeTrader 7 = .ok (.iconst 0, 1) := by decide +kernel
theorem dX5_takeTrader_8 : decode cX5_takeTrader 8 = .ok (.ireturn, 1) := by decide +kernel
theorem dX5_takeTrader_9 : decode cX5_takeTrader 9 = .ok (.aload_n 0, 1) := by decide +kernel
theorem dX5_takeTrader_10 : decode cX5_takeTrader 10 = .ok (.aload_n 0, 1) := by decide +kernel
theorem dX5_takeTrader_11 : decode cX5_takeTrader 11 = .ok (.getfield 46, 3) := by decide +kernel
theorem dX5_takeTrader_14 : decode cX5_takeTrader 14 = .ok (.aload_n 0, 1) := by decide +kernel
theorem dX5_takeTrader_15 : decode cX5_takeTrader 15 = .ok (.getfield 149, 3) := by decide +kernel
theorem dX5_takeTrader_18 : decode cX5_takeTrader 18 = .ok (.invokevirtual 152, 3) := by decide +kernel
theorem dX5_takeTrader_21 : decode cX5_takeTrader 21 = .ok (.putfield 170, 3) := by decide +kernel
theorem dX5_takeTrader_24 : decode cX5_takeTrader 24 = .ok (.aload_n 0, 1) := by decide +kernel
theorem dX5_takeTrader_25 : decode cX5_takeTrader 25 = .ok (.getfield 170, 3) := by decide +kernel
theorem dX5_takeTrader_28 : decode cX5_takeTrader 28 = .ok (.iconst (-1), 1) := by decide +kernel
theorem dX5_takeTrader_29 : decode cX5_takeTrader 29 = .ok (.if_icmp .ne 15, 3) := by decide +kernel
theorem dX5_takeTrader_32 : decode cX5_takeTrader 32 = .ok (.aload_n 0, 1) := by decide +kernel
theorem dX5_takeTrader_33 : decode cX5_takeTrader 33 = .ok (.iconst 4, 1) := by decide +kernel
theorem dX5_takeTrader_34 : decode cX5_takeTrader 34 = .ok (.aload_n 0, 1) := by decide +kernel
theorem dX5_takeTrader_35 : decode cX5_takeTrader 35 = .ok (.getfield 74, 3) := by decide +kernel
theorem dX5_takeTrader_38 : decode cX5_takeTrader 38 = .ok (.invokevirtual 83, 3) := by decide +kernel
theorem dX5_takeTrader_41 : decode cX5_takeTrader 41 = .ok (.ifCond .eq 7, 3) := by decide +kernel
theorem dX5_takeTrader_44 : decode cX5_takeTrader 44 = .ok (.iconst 1, 1) := by decide +kernel
theorem dX5_takeTrader_45 : decode cX5_takeTrader 45 = .ok (.goto 4, 3) := by decide +kernel
theorem dX5_takeTrader_48 : decode cX5_takeTrader 48 = .ok (.iconst 0, 1) := by decide +kernel
theorem dX5_takeTrader_49 : decode cX5_takeTrader 49 = .ok (.ireturn, 1) := by decide +kernel
theorem dX5_takeNumber_0 : decode cX5_takeNumber 0 = .ok (.aload_n 0, 1) := by decide +kernel
theorem dX5_takeNumber_1 : decode cX5_takeNumber 1 = .ok (.invokevirtual 23, 3) := by decide +kernel
theorem dX5_takeNumber_4 : decode cX5_takeNumber 4 = .ok (.aload_n 0, 1) := by decide +kernel
theorem dX5_takeNumber_5 : decode cX5_takeNumber 5 = .ok (.getfield 26, 3) := by decide +kernel
theorem dX5_takeNumber_8 : decode cX5_takeNumber 8 = .ok (.iconst 2, 1) := by decide +kernel
theorem dX5_takeNumber_9 : decode cX5_takeNumber 9 = .ok (.if_icmp .eq 13, 3) := by decide +kernel
theorem dX5_takeNumber_12 : decode cX5_takeNumber 12 = .ok (.aload_n 0, 1) := by decide +kernel
theorem dX5_takeNumber_13 : decode cX5_takeNumber 13 = .ok (.iconst 1, 1) := by decide +kernel
theorem dX5_takeNumber_14 : decode cX5_takeNumber 14 = .ok (.aload_n 0, 1) := by decide +kernel
theorem dX5_takeNumber_15 : decode cX5_takeNumber 15 = .ok (.getfield 74, 3) := by decide +kernel
theorem dX5_takeNumber_18 : decode cX5_takeNumber 18 = .ok (.invokevirtual 83, 3) := by decide +kernel
theorem dX5_takeNumber_21 : decode cX5_takeNumber 21 = .ok (.ireturn, 1) := by decide +kernel
theorem dX5_takeNumber_22 : decode cX5_takeNumber 22 = .ok (.aload_n 0, 1) := by decide +kernel
theorem dX5_takeNumber_23 : decode cX5_takeNumber 23 = .ok (.getfield 149, 3) := by decide +kernel
theorem dX5_takeNumber_26 : decode cX5_takeNumber 26 = .ok (.iload_n 1, 1) := by decide +kernel
theorem dX5_takeNumber_27 : decode cX5_takeNumber 27 = .ok (.iload_n 2, 1) := by decide +kernel
theorem dX5_takeNumber_28 : decode cX5_takeNumber 28 = .ok (.invokestatic 225, 3) := by decide +kernel
theorem dX5_takeNumber_31 : decode cX5_takeNumber 31 = .ok (.ifCond .ne 15, 3) := by decide +kernel
theorem dX5_takeNumber_34 : decode cX5_takeNumber 34 = .ok (.aload_n 0, 1) := by decide +kernel
theorem dX5_takeNumber_35 : decode cX5_takeNumber 35 = .ok (.iconst 2, 1) := by decide +kernel
theorem dX5_takeNumber_36 : decode cX5_takeNumber 36 = .ok (.aload_n 0, 1) := by decide +kernel
theorem dX5_takeNumber_37 : decode cX5_takeNumber 37 = .ok (.getfield 74, 3) := by decide +kernel
theorem dX5_takeNumber_40 : decode cX5_takeNumber 40 = .ok (.invokevirtual 83, 3) := by decide +kernel
theorem dX5_takeNumber_43 : decode cX5_takeNumber 43 = .ok (.ifCond .eq 7, 3) := by decide +kernel
theorem dX5_takeNumber_46 : decode cX5_takeNumber 46 = .ok (.iconst 1, 1) := by decide +kernel
theorem dX5_takeNumber_47 : decode cX5_takeNumber 47 = .ok (.goto 4, 3) := by decide +kernel
theorem dX5_takeNumber_50 : decode cX5_takeNumber 50 = .ok (.iconst 0, 1) := by decide +kernel
theorem dX5_takeNumber_51 : decode cX5_takeNumber 51 = .ok (.ireturn, 1) := by decide +kernel
theorem dX5_takeToken_0 : decode cX5_takeToken 0 = .ok (.aload_n 0, 1) := by decide +kernel
theorem dX5_takeToken_1 : decode cX5_takeToken 1 = .ok (.aload_n 0, 1) := by decide +kernel
theorem dX5_takeToken_2 : decode cX5_takeToken 2 = .ok (.getfield 55, 3) := by decide +kernel
theorem dX5_takeToken_5 : decode cX5_takeToken 5 = .ok (.putfield 74, 3) := by decide +kernel
theorem dX5_takeToken_8 : decode cX5_takeToken 8 = .ok (.aload_n 0, 1) := by decide +kernel
theorem dX5_takeToken_9 : decode cX5_takeToken 9 = .ok (.getfield 74, 3) := by decide +kernel
theorem dX5_takeToken_12 : decode cX5_takeToken 12 = .ok (.aload_n 0, 1) := by decide +kernel
theorem dX5_takeToken_13 : decode cX5_takeToken 13 = .ok (.getfield 43, 3) := by decide +kernel
theorem dX5_takeToken_16 : decode cX5_takeToken 16 = .ok (.if_icmp .ge 31, 3) := by decide +kernel
theorem dX5_takeToken_19 : decode cX5_takeToken 19 = .ok (.aload_n 0, 1) := by decide +kernel
theorem dX5_takeToken_20 : decode cX5_takeToken 20 = .ok (.getfield 33, 3) := by decide +kernel
theorem dX5_takeToken_23 : decode cX5_takeToken 23 = .ok (.aload_n 0, 1) := by decide +kernel
theorem dX5_takeToken_24 : decode cX5_takeToken 24 = .ok (.getfield 74, 3) := by decide +kernel
theorem dX5_takeToken_27 : decode cX5_takeToken 27 = .ok (.baload, 1) := by decide +kernel
theorem dX5_takeToken_28 : decode cX5_takeToken 28 = .ok (.invokestatic 229, 3) := by decide +kernel
theorem dX5_takeToken_31 : decode cX5_takeToken 31 = .ok (.ifCond .eq 16, 3) := by decide +kernel
theorem dX5_takeToken_34 : decode cX5_takeToken 34 = .ok (.aload_n 0, 1) := by decide +kernel
theorem dX5_takeToken_35 : decode cX5_takeToken 35 = .ok (.dup, 1) := by decide +kernel
theorem dX5_takeToken_36 : decode cX5_takeToken 36 = .ok (.getfield 74, 3) := by decide +kernel
theorem dX5_takeToken_39 : decode cX5_takeToken 39 = .ok (.iconst 1, 1) := by decide +kernel
theorem dX5_takeToken_40 : decode cX5_takeToken 40 = .ok (.iadd, 1) := by decide +kernel
theorem dX5_takeToken_41 : decode cX5_takeToken 41 = .ok (.putfield 74, 3) := by decide +kernel
theorem dX5_takeToken_44 : decode cX5_takeToken 44 = .ok (.goto (-36), 3) := by decide +kernel
theorem dX5_takeToken_47 : decode cX5_takeToken 47 = .ok (.aload_n 0, 1) := by decide +kernel
theorem dX5_takeToken_48 : decode cX5_takeToken 48 = .ok (.aload_n 0, 1) := by decide +kernel
theorem dX5_takeToken_49 : decode cX5_takeToken 49 = .ok (.getfield 74, 3) := by decide +kernel
theorem dX5_takeToken_52 : decode cX5_takeToken 52 = .ok (.putfield 55, 3) := by decide +kernel
theorem dX5_takeToken_55 : decode cX5_takeToken 55 = .ok (.aload_n 0, 1) := by decide +kernel
theorem dX5_takeToken_56 : decode cX5_takeToken 56 = .ok (.iconst 0, 1) := by decide +kernel
theorem dX5_takeToken_57 : decode cX5_takeToken 57 = .ok (.putfield 149, 3) := by decide +kernel
theorem dX5_takeToken_60 : decode cX5_takeToken 60 = .ok (.aload_n 0, 1) := by decide +kernel
theorem dX5_takeToken_61 : decode cX5_takeToken 61 = .ok (.getfield 74, 3) := by decide +kernel
theorem dX5_takeToken_64 : decode cX5_takeToken 64 = .ok (.aload_n 0, 1) := by decide +kernel
theorem dX5_takeToken_65 : decode cX5_takeToken 65 = .ok (.getfield 43, 3) := by decide +kernel
theorem dX5_takeToken_68 : decode cX5_takeToken 68 = .ok (.if_icmp .lt 11, 3) := by decide +kernel
theorem dX5_takeToken_71 : decode cX5_takeToken 71 = .ok (.aload_n 0, 1) := by decide +kernel
theorem dX5_takeToken_72 : decode cX5_takeToken 72 = .ok (.iconst 0, 1) := by decide +kernel
theorem dX5_takeToken_73 : decode cX5_takeToken 73 = .ok (.putfield 26, 3) := by decide +kernel
theorem dX5_takeToken_76 : decode cX5_takeToken 76 = .ok (.goto 225, 3) := by decide +kernel
theorem dX5_takeToken_79 : decode cX5_takeToken 79 = .ok (.aload_n 0, 1) := by decide +kernel
theorem dX5_takeToken_80 : decode cX5_takeToken 80 = .ok (.getfield 33, 3) := by decide +kernel
theorem dX5_takeToken_83 : decode cX5_takeToken 83 = .ok (.aload_n 0, 1) := by decide +kernel
theorem dX5_takeToken_84 : decode cX5_takeToken 84 = .ok (.getfield 74, 3) := by decide +kernel
theorem dX5_takeToken_87 : decode cX5_takeToken 87 = .ok (.baload, 1) := by decide +kernel
theorem dX5_takeToken_88 : decode cX5_takeToken 88 = .ok (.invokestatic 233, 3) := by decide +kernel
theorem dX5_takeToken_91 : decode cX5_takeToken 91 = .ok (.ifCond .eq 89, 3) := by decide +kernel
theorem dX5_takeToken_94 : decode cX5_takeToken 94 = .ok (.aload_n 0, 1) := by decide +kernel
theorem dX5_takeToken_95 : decode cX5_takeToken 95 = .ok (.iconst 1, 1) := by decide +kernel
theorem dX5_takeToken_96 : decode cX5_takeToken 96 = .ok (.putfield 26, 3) := by decide +kernel
theorem dX5_takeToken_99 : decode cX5_takeToken 99 = .ok (.bipush 25, 2) := by decide +kernel
theorem dX5_takeToken_101 : decode cX5_takeToken 101 = .ok (.istore_n 1, 1) := by decide +kernel
theorem dX5_takeToken_102 : decode cX5_takeToken 102 = .ok (.aload_n 0, 1) := by decide +kernel
theorem dX5_takeToken_103 : decode cX5_takeToken 103 = .ok (.getfield 55, 3) := by decide +kernel
theorem dX5_takeToken_106 : decode cX5_takeToken 106 = .ok (.aload_n 0, 1) := by decide +kernel
theorem dX5_takeToken_107 : decode cX5_takeToken 107 = .ok (.getfield 43, 3) := by decide +kernel
theorem dX5_takeToken_110 : decode cX5_takeToken 110 = .ok (.if_icmp .ge 67, 3) := by decide +kernel
theorem dX5_takeToken_113 : decode cX5_takeToken 113 = .ok (.aload_n 0, 1) := by decide +kernel
theorem dX5_takeToken_114 : decode cX5_takeToken 114 = .ok (.getfield 33, 3) := by decide +kernel
theorem dX5_takeToken_117 : decode cX5_takeToken 117 = .ok (.aload_n 0, 1) := by decide +kernel
theorem dX5_takeToken_118 : decode cX5_takeToken 118 = .ok (.getfield 55, 3) := by decide +kernel
theorem dX5_takeToken_121 : decode cX5_takeToken 121 = .ok (.baload, 1) := by decide +kernel
theorem dX5_takeToken_122 : decode cX5_takeToken 122 = .ok (.invokestatic 233, 3) := by decide +kernel
theorem dX5_takeToken_125 : decode cX5_takeToken 125 = .ok (.ifCond .eq 52, 3) := by decide +kernel
theorem dX5_takeToken_128 : decode cX5_takeToken 128 = .ok (.aload_n 0, 1) := by decide +kernel
theorem dX5_takeToken_129 : decode cX5_takeToken 129 = .ok (.dup, 1) := by decide +kernel
theorem dX5_takeToken_130 : decode cX5_takeToken 130 = .ok (.getfield 149, 3) := by decide +kernel
theorem dX5_takeToken_133 : decode cX5_takeToken 133 = .ok (.iload_n 1, 1) := by decide +kernel
theorem dX5_takeToken_134 : decode cX5_takeToken 134 = .ok (.ifCond .lt 22, 3) := by decide +kernel
theorem dX5_takeToken_137 : decode cX5_takeToken 137 = .ok (.aload_n 0, 1) := by decide +kernel
theorem dX5_takeToken_138 : decode cX5_takeToken 138 = .ok (.getfield 33, 3) := by decide +kernel
theorem dX5_takeToken_141 : decode cX5_takeToken 141 = .ok (.aload_n 0, 1) := by decide +kernel
theorem dX5_takeToken_142 : decode cX5_takeToken 142 = .ok (.getfield 55, 3) := by decide +kernel
theorem dX5_takeToken_145 : decode cX5_takeToken 145 = .ok (.baload, 1) := by decide +kernel
theorem dX5_takeToken_146 : decode cX5_takeToken 146 = .ok (.bipush 97, 2) := by decide +kernel
theorem dX5_takeToken_148 : decode cX5_takeToken 148 = .ok (.isub, 1) := by decide +kernel
theorem dX5_takeToken_149 : decode cX5_takeToken 149 = .ok (.iconst 1, 1) := by decide +kernel
theorem dX5_takeToken_150 : decode cX5_takeToken 150 = .ok (.iadd, 1) := by decide +kernel
theorem dX5_takeToken_151 : decode cX5_takeToken 151 = .ok (.iload_n 1, 1) := by decide +kernel
theorem dX5_takeToken_152 : decode cX5_takeToken 152 = .ok (.ishl, 1) := by decide +kernel
theorem dX5_takeToken_153 : decode cX5_takeToken 153 = .ok (.goto 4, 3) := by decide +kernel
theorem dX5_takeToken_156 : decode cX5_takeToken 156 = .ok (.iconst 0, 1) := by decide +kernel
theorem dX5_takeToken_157 : decode cX5_takeToken 157 = .ok (.ior, 1) := by decide +kernel
theorem dX5_takeToken_158 : decode cX5_takeToken 158 = .ok (.putfield 149, 3) := by decide +kernel
theorem dX5_takeToken_161 : decode cX5_takeToken 161 = .ok (.aload_n 0, 1) := by decide +kernel
theorem dX5_takeToken_162 : decode cX5_takeToken 162 = .ok (.dup, 1) := by decide +kernel
theorem dX5_takeToken_163 : decode cX5_takeToken 163 = .ok (.getfield 55, 3) := by decide +kernel
theorem dX5_takeToken_166 : decode cX5_takeToken 166 = .ok (.iconst 1, 1) := by decide +kernel
theorem dX5_takeToken_167 : decode cX5_takeToken 167 = .ok (.iadd, 1) := by decide +kernel
theorem dX5_takeToken_168 : decode cX5_takeToken 168 = .ok (.putfield 55, 3) := by decide +kernel
theorem dX5_takeToken_171 : decode cX5_takeToken 171 = .ok (.iinc 1 (-5), 3) := by decide +kernel
theorem dX5_takeToken_174 : decode cX5_takeToken 174 = .ok (.goto (-72), 3) := by decide +kernel
theorem dX5_takeToken_177 : decode cX5_takeToken 177 = .ok (.goto 124, 3) := by decide +kernel
theorem dX5_takeToken_180 : decode cX5_takeToken 180 = .ok (.aload_n 0, 1) := by decide +kernel
theorem dX5_takeToken_181 : decode cX5_takeToken 181 = .ok (.getfield 33, 3) := by decide +kernel
theorem dX5_takeToken_184 : decode cX5_takeToken 184 = .ok (.aload_n 0, 1) := by decide +kernel
theorem dX5_takeToken_185 : decode cX5_takeToken 185 = .ok (.getfield 74, 3) := by decide +kernel
theorem dX5_takeToken_188 : decode cX5_takeToken 188 = .ok (.baload, 1) := by decide +kernel
theorem dX5_takeToken_189 : decode cX5_takeToken 189 = .ok (.invokestatic 236, 3) := by decide +kernel
theorem dX5_takeToken_192 : decode cX5_takeToken 192 = .ok (.ifCond .eq 76, 3) := by decide +kernel
theorem dX5_takeToken_195 : decode cX5_takeToken 195 = .ok (.aload_n 0, 1) := by decide +kernel
theorem dX5_takeToken_196 : decode cX5_takeToken 196 = .ok (.iconst 2, 1) := by decide +kernel
theorem dX5_takeToken_197 : decode cX5_takeToken 197 = .ok (.putfield 26, 3) := by decide +kernel
theorem dX5_takeToken_200 : decode cX5_takeToken 200 = .ok (.aload_n 0, 1) := by decide +kernel
theorem dX5_takeToken_201 : decode cX5_takeToken 201 = .ok (.getfield 55, 3) := by decide +kernel
theorem dX5_takeToken_204 : decode cX5_takeToken 204 = .ok (.aload_n 0, 1) := by decide +kernel
theorem dX5_takeToken_205 : decode cX5_takeToken 205 = .ok (.getfield 43, 3) := by decide +kernel
theorem dX5_takeToken_208 : decode cX5_takeToken 208 = .ok (.if_icmp .ge 93, 3) := by decide +kernel
theorem dX5_takeToken_211 : decode cX5_takeToken 211 = .ok (.aload_n 0, 1) := by decide +kernel
theorem dX5_takeToken_212 : decode cX5_takeToken 212 = .ok (.getfield 33, 3) := by decide +kernel
theorem dX5_takeToken_215 : decode cX5_takeToken 215 = .ok (.aload_n 0, 1) := by decide +kernel
theorem dX5_takeToken_216 : decode cX5_takeToken 216 = .ok (.getfield 55, 3) := by decide +kernel
theorem dX5_takeToken_219 : decode cX5_takeToken 219 = .ok (.baload, 1) := by decide +kernel
theorem dX5_takeToken_220 : decode cX5_takeToken 220 = .ok (.invokestatic 236, 3) := by decide +kernel
theorem dX5_takeToken_223 : decode cX5_takeToken 223 = .ok (.ifCond .eq 78, 3) := by decide +kernel
theorem dX5_takeToken_226 : decode cX5_takeToken 226 = .ok (.aload_n 0, 1) := by decide +kernel
theorem dX5_takeToken_227 : decode cX5_takeToken 227 = .ok (.ldc 239, 2) := by decide +kernel
theorem dX5_takeToken_229 : decode cX5_takeToken 229 = .ok (.aload_n 0, 1) := by decide +kernel
theorem dX5_takeToken_230 : decode cX5_takeToken 230 = .ok (.getfield 149, 3) := by decide +kernel
theorem dX5_takeToken_233 : decode cX5_takeToken 233 = .ok (.bipush 10, 2) := by decide +kernel
theorem dX5_takeToken_235 : decode cX5_takeToken 235 = .ok (.imul, 1) := by decide +kernel
theorem dX5_takeToken_236 : decode cX5_takeToken 236 = .ok (.aload_n 0, 1) := by decide +kernel
theorem dX5_takeToken_237 : decode cX5_takeToken 237 = .ok (.getfield 33, 3) := by decide +kernel
theorem dX5_takeToken_240 : decode cX5_takeToken 240 = .ok (.aload_n 0, 1) := by decide +kernel
theorem dX5_takeToken_241 : decode cX5_takeToken 241 = .ok (.getfield 55, 3) := by decide +kernel
theorem dX5_takeToken_244 : decode cX5_takeToken 244 = .ok (.baload, 1) := by decide +kernel
theorem dX5_takeToken_245 : decode cX5_takeToken 245 = .ok (.bipush 48, 2) := by decide +kernel
theorem dX5_takeToken_247 : decode cX5_takeToken 247 = .ok (.isub, 1) := by decide +kernel
theorem dX5_takeToken_248 : decode cX5_takeToken 248 = .ok (.iadd, 1) := by decide +kernel
theorem dX5_takeToken_249 : decode cX5_takeToken 249 = .ok (.invokestatic 37, 3) := by decide +kernel
theorem dX5_takeToken_252 : decode cX5_takeToken 252 = .ok (.putfield 149, 3) := by decide +kernel
theorem dX5_takeToken_255 : decode cX5_takeToken 255 = .ok (.aload_n 0, 1) := by decide +kernel
theorem dX5_takeToken_256 : decode cX5_takeToken 256 = .ok (.dup, 1) := by decide +kernel
theorem dX5_takeToken_257 : decode cX5_takeToken 257 = .ok (.getfield 55, 3) := by decide +kernel
theorem dX5_takeToken_260 : decode cX5_takeToken 260 = .ok (.iconst 1, 1) := by decide +kernel
theorem dX5_takeToken_261 : decode cX5_takeToken 261 = .ok (.iadd, 1) := by decide +kernel
theorem dX5_takeToken_262 : decode cX5_takeToken 262 = .ok (.putfield 55, 3) := by decide +kernel
theorem dX5_takeToken_265 : decode cX5_takeToken 265 = .ok (.goto (-65), 3) := by decide +kernel
theorem dX5_takeToken_268 : decode cX5_takeToken 268 = .ok (.aload_n 0, 1) := by decide +kernel
theorem dX5_takeToken_269 : decode cX5_takeToken 269 = .ok (.aload_n 0, 1) := by decide +kernel
theorem dX5_takeToken_270 : decode cX5_takeToken 270 = .ok (.getfield 33, 3) := by decide +kernel
theorem dX5_takeToken_273 : decode cX5_takeToken 273 = .ok (.aload_n 0, 1) := by decide +kernel
theorem dX5_takeToken_274 : decode cX5_takeToken 274 = .ok (.getfield 74, 3) := by decide +kernel
theorem dX5_takeToken_277 : decode cX5_takeToken 277 = .ok (.baload, 1) := by decide +kernel
theorem dX5_takeToken_278 : decode cX5_takeToken 278 = .ok (.bipush 59, 2) := by decide +kernel
theorem dX5_takeToken_280 : decode cX5_takeToken 280 = .ok (.if_icmp .ne 7, 3) := by decide +kernel
theorem dX5_takeToken_283 : decode cX5_takeToken 283 = .ok (.iconst 3, 1) := by decide +kernel
theorem dX5_takeToken_284 : decode cX5_takeToken 284 = .ok (.goto 4, 3) := by decide +kernel
theorem dX5_takeToken_287 : decode cX5_takeToken 287 = .ok (.iconst 4, 1) := by decide +kernel
theorem dX5_takeToken_288 : decode cX5_takeToken 288 = .ok (.putfield 26, 3) := by decide +kernel
theorem dX5_takeToken_291 : decode cX5_takeToken 291 = .ok (.aload_n 0, 1) := by decide +kernel
theorem dX5_takeToken_292 : decode cX5_takeToken 292 = .ok (.dup, 1) := by decide +kernel
theorem dX5_takeToken_293 : decode cX5_takeToken 293 = .ok (.getfield 55, 3) := by decide +kernel
theorem dX5_takeToken_296 : decode cX5_takeToken 296 = .ok (.iconst 1, 1) := by decide +kernel
theorem dX5_takeToken_297 : decode cX5_takeToken 297 = .ok (.iadd, 1) := by decide +kernel
theorem dX5_takeToken_298 : decode cX5_takeToken 298 = .ok (.putfield 55, 3) := by decide +kernel
theorem dX5_takeToken_301 : decode cX5_takeToken 301 = .ok (.return_, 1) := by decide +kernel
theorem dX5_isBlank_0 : decode cX5_isBlank 0 = .ok (.iload_n 0, 1) := by decide +kernel
theorem dX5_isBlank_1 : decode cX5_isBlank 1 = .ok (.bipush 10, 2) := by decide +kernel
theorem dX5_isBlank_3 : decode cX5_isBlank 3 = .ok (.if_icmp .eq 9, 3) := by decide +kernel
theorem dX5_isBlank_6 : decode cX5_isBlank 6 = .ok (.iload_n 0, 1) := by decide +kernel
theorem dX5_isBlank_7 : decode cX5_isBlank 7 = .ok (.bipush 32, 2) := by decide +kernel
theorem dX5_isBlank_9 : decode cX5_isBlank 9 = .ok (.if_icmp .ne 7, 3) := by decide +kernel
theorem dX5_isBlank_12 : decode cX5_isBlank 12 = .ok (.iconst 1, 1) := by decide +kernel
theorem dX5_isBlank_13 : decode cX5_isBlank 13 = .ok (.goto 4, 3) := by decide +kernel
theorem dX5_isBlank_16 : decode cX5_isBlank 16 = .ok (.iconst 0, 1) := by decide +kernel
theorem dX5_isBlank_17 : decode cX5_isBlank 17 = .ok (.ireturn, 1) := by decide +kernel
theorem dX5_isLetter_0 : decode cX5_isLetter 0 = .ok (.iload_n 0, 1) := by decide +kernel
theorem dX5_isLetter_1 : decode cX5_isLetter 1 = .ok (.bipush 97, 2) := by decide +kernel
theorem dX5_isLetter_3 : decode cX5_isLetter 3 = .ok (.if_icmp .lt 13, 3) := by decide +kernel
theorem dX5_isLetter_6 : decode cX5_isLetter 6 = .ok (.iload_n 0, 1) := by decide +kernel
theorem dX5_isLetter_7 : decode cX5_isLetter 7 = .ok (.bipush 122, 2) := by decide +kernel
theorem dX5_isLetter_9 : decode cX5_isLetter 9 = .ok (.if_icmp .gt 7, 3) := by decide +kernel
theorem dX5_isLetter_12 : decode cX5_isLetter 12 = .ok (.iconst 1, 1) := by decide +kernel
theorem dX5_isLetter_13 : decode cX5_isLetter 13 = .ok (.goto 4, 3) := by decide +kernel
theorem dX5_isLetter_16 : decode cX5_isLetter 16 = .ok (.iconst 0, 1) := by decide +kernel
theorem dX5_isLetter_17 : decode cX5_isLetter 17 = .ok (.ireturn, 1) := by decide +kernel
theorem dX5_isDigit_0 : decode cX5_isDigit 0 = .ok (.iload_n 0, 1) := by decide +kernel
theorem dX5_isDigit_1 : decode cX5_isDigit 1 = .ok (.bipush 48, 2) := by decide +kernel
theorem dX5_isDigit_3 : decode cX5_isDigit 3 = .ok (.if_icmp .lt 13, 3) := by decide +kernel
theorem dX5_isDigit_6 : decode cX5_isDigit 6 = .ok (.iload_n 0, 1) := by decide +kernel
theorem dX5_isDigit_7 : decode cX5_isDigit 7 = .ok (.bipush 57, 2) := by decide +kernel
theorem dX5_isDigit_9 : decode cX5_isDigit 9 = .ok (.if_icmp .gt 7, 3) := by decide +kernel
theorem dX5_isDigit_12 : decode cX5_isDigit 12 = .ok (.iconst 1, 1) := by decide +kernel
theorem dX5_isDigit_13 : decode cX5_isDigit 13 = .ok (.goto 4, 3) := by decide +kernel
theorem dX5_isDigit_16 : decode cX5_isDigit 16 = .ok (.iconst 0, 1) := by decide +kernel
theorem dX5_isDigit_17 : decode cX5_isDigit 17 = .ok (.ireturn, 1) := by decide +kernel
theorem dX6_init_0 : decode cX6_init 0 = .ok (.aload_n 0, 1) := by decide +kernel
theorem dX6_init_1 : decode cX6_init 1 = .ok (.invokespecial 3, 3) := by decide +kernel
theorem dX6_init_4 : decode cX6_init 4 = .ok (.aload_n 0, 1) := by decide +kernel
theorem dX6_init_5 : decode cX6_init 5 = .ok (.iconst 5, 1) := by decide +kernel
theorem dX6_init_6 : decode cX6_init 6 = .ok (.newarray .long, 2) := by decide +kernel
theorem dX6_init_8 : decode cX6_init 8 = .ok (.putfield 9, 3) := by decide +kernel
theorem dX6_init_11 : decode cX6_init 11 = .ok (.return_, 1) := by decide +kernel
theorem dX6_fraction_0 : decode cX6_fraction 0 = .ok (.aload_n 0, 1) := by decide +kernel
theorem dX6_fraction_1 : decode cX6_fraction 1 = .ok (.getfield 15, 3) := by decide +kernel
theorem dX6_fraction_4 : decode cX6_fraction 4 = .ok (.ifCond .ne 27, 3) := by decide +kernel
theorem dX6_fraction_7 : decode cX6_fraction 7 = .ok (.aload_n 0, 1) := by decide +kernel
theorem dX6_fraction_8 : decode cX6_fraction 8 = .ok (.aload_n 0, 1) := by decide +kernel
theorem dX6_fraction_9 : decode cX6_fraction 9 = .ok (.getfield 9, 3) := by decide +kernel
theorem dX6_fraction_12 : decode cX6_fraction 12 = .ok (.iconst 0, 1) := by decide +kernel
theorem dX6_fraction_13 : decode cX6_fraction 13 = .ok (.laload, 1) := by decide +kernel
theorem dX6_fraction_14 : decode cX6_fraction 14 = .ok (.aload_n 0, 1) := by decide +kernel
theorem dX6_fraction_15 : decode cX6_fraction 15 = .ok (.getfield 9, 3) := by decide +kernel
theorem dX6_fraction_18 : decode cX6_fraction 18 = .ok (.iconst 0, 1) := by decide +kernel
theorem dX6_fraction_19 : decode cX6_fraction 19 = .ok (.laload, 1) := by decide +kernel
theorem dX6_fraction_20 : decode cX6_fraction 20 = .ok (.aload_n 0, 1) := by decide +kernel
theorem dX6_fraction_21 : decode cX6_fraction 21 = .ok (.getfield 9, 3) := by decide +kernel
theorem dX6_fraction_24 : decode cX6_fraction 24 = .ok (.iconst 1, 1) := by decide +kernel
theorem dX6_fraction_25 : decode cX6_fraction 25 = .ok (.laload, 1) := by decide +kernel
theorem dX6_fraction_26 : decode cX6_fraction 26 = .ok (.ladd, 1) := by decide +kernel
theorem dX6_fraction_27 : decode cX6_fraction 27 = .ok (.invokevirtual 19, 3) := by decide +kernel
theorem dX6_fraction_30 : decode cX6_fraction 30 = .ok (.ireturn, 1) := by decide +kernel
theorem dX6_fraction_31 : decode cX6_fraction 31 = .ok (.aload_n 0, 1) := by decide +kernel
theorem dX6_fraction_32 : decode cX6_fraction 32 = .ok (.getfield 15, 3) := by decide +kernel
theorem dX6_fraction_35 : decode cX6_fraction 35 = .ok (.iconst 1, 1) := by decide +kernel
theorem dX6_fraction_36 : decode cX6_fraction 36 = .ok (.if_icmp .ne 27, 3) := by decide +kernel
theorem dX6_fraction_39 : decode cX6_fraction 39 = .ok (.aload_n 0, 1) := by decide +kernel
theorem dX6_fraction_40 : decode cX6_fraction 40 = .ok (.aload_n 0, 1) := by decide +kernel
theorem dX6_fraction_41 : decode cX6_fraction 41 = .ok (.getfield 9, 3) := by decide +kernel
theorem dX6_fraction_44 : decode cX6_fraction 44 = .ok (.iconst 2, 1) := by decide +kernel
theorem dX6_fraction_45 : decode cX6_fraction 45 = .ok (.laload, 1) := by decide +kernel
theorem dX6_fraction_46 : decode cX6_fraction 46 = .ok (.aload_n 0, 1) := by decide +kernel
theorem dX6_fraction_47 : decode cX6_fraction 47 = .ok (.getfield 9, 3) := by decide +kernel
theorem dX6_fraction_50 : decode cX6_fraction 50 = .ok (.iconst 2, 1) := by decide +kernel
theorem dX6_fraction_51 : decode cX6_fraction 51 = .ok (.laload, 1) := by decide +kernel
theorem dX6_fraction_52 : decode cX6_fraction 52 = .ok (.aload_n 0, 1) := by decide +kernel
theorem dX6_fraction_53 : decode cX6_fraction 53 = .ok (.getfield 9, 3) := by decide +kernel
theorem dX6_fraction_56 : decode cX6_fraction 56 = .ok (.iconst 3, 1) := by decide +kernel
theorem dX6_fraction_57 : decode cX6_fraction 57 = .ok (.laload, 1) := by decide +kernel
theorem dX6_fraction_58 : decode cX6_fraction 58 = .ok (.ladd, 1) := by decide +kernel
theorem dX6_fraction_59 : decode cX6_fraction 59 = .ok (.invokevirtual 19, 3) := by decide +kernel
theorem dX6_fraction_62 : decode cX6_fraction 62 = .ok (.ireturn, 1) := by decide +kernel
theorem dX6_fraction_63 : decode cX6_fraction 63 = .ok (.aload_n 0, 1) := by decide +kernel
theorem dX6_fraction_64 : decode cX6_fraction 64 = .ok (.aload_n 0, 1) := by decide +kernel
theorem dX6_fraction_65 : decode cX6_fraction 65 = .ok (.getfield 23, 3) := by decide +kernel
theorem dX6_fraction_68 : decode cX6_fraction 68 = .ok (.i2l, 1) := by decide +kernel
theorem dX6_fraction_69 : decode cX6_fraction 69 = .ok (.aload_n 0, 1) := by decide +kernel
theorem dX6_fraction_70 : decode cX6_fraction 70 = .ok (.getfield 26, 3) := by decide +kernel
theorem dX6_fraction_73 : decode cX6_fraction 73 = .ok (.i2l, 1) := by decide +kernel
theorem dX6_fraction_74 : decode cX6_fraction 74 = .ok (.invokevirtual 19, 3) := by decide +kernel
theorem dX6_fraction_77 : decode cX6_fraction 77 = .ok (.ireturn, 1) := by decide +kernel
theorem dX6_fractionWithSales_0 : decode cX6_fractionWithSales 0 = .ok (.aload_n 0, 1) := by decide +kernel
theorem dX6_fractionWithSales_1 : decode cX6_fractionWithSales 1 = .ok (.aload_n 0, 1) := by decide +kernel
theorem dX6_fractionWithSales_2 : decode cX6_fractionWithSales 2 = .ok (.getfield 9, 3) := by decide +kernel
theorem dX6_fractionWithSales_5 : decode cX6_fractionWithSales 5 = .ok (.iconst 0, 1) := by decide +kernel
theorem dX6_fractionWithSales_6 : decode cX6_fractionWithSales 6 = .ok (.laload, 1) := by decide +kernel
theorem dX6_fractionWithSales_7 : decode cX6_fractionWithSales 7 = .ok (.iload_n 1, 1) := by decide +kernel
theorem dX6_fractionWithSales_8 : decode cX6_fractionWithSales 8 = .ok (.i2l, 1) := by decide +kernel
theorem dX6_fractionWithSales_9 : decode cX6_fractionWithSales 9 = .ok (.ladd, 1) := by decide +kernel
theorem dX6_fractionWithSales_10 : decode cX6_fractionWithSales 10 = .ok (.aload_n 0, 1) := by decide +kernel
theorem dX6_fractionWithSales_11 : decode cX6_fractionWithSales 11 = .ok (.getfield 9, 3) := by decide +kernel
theorem dX6_fractionWithSales_14 : decode cX6_fractionWithSales 14 = .ok (.iconst 0, 1) := by decide +kernel
theorem dX6_fractionWithSales_15 : decode cX6_fractionWithSales 15 = .ok (.laload, 1) := by decide +kernel
theorem dX6_fractionWithSales_16 : decode cX6_fractionWithSales 16 = .ok (.iload_n 1, 1) := by decide +kernel
theorem dX6_fractionWithSales_17 : decode cX6_fractionWithSales 17 = .ok (.i2l, 1) := by decide +kernel
theorem dX6_fractionWithSales_18 : decode cX6_fractionWithSales 18 = .ok (.ladd, 1) := by decide +kernel
theorem dX6_fractionWithSales_19 : decode cX6_fractionWithSales 19 = .ok (.aload_n 0, 1) := by decide +kernel
theorem dX6_fractionWithSales_20 : decode cX6_fractionWithSales 20 = .ok (.getfield 9, 3) := by decide +kernel
theorem dX6_fractionWithSales_23 : decode cX6_fractionWithSales 23 = .ok (.iconst 1, 1) := by decide +kernel
theorem dX6_fractionWithSales_24 : decode cX6_fractionWithSales 24 = .ok (.laload, 1) := by decide +kernel
theorem dX6_fractionWithSales_25 : decode cX6_fractionWithSales 25 = .ok (.ladd, 1) := by decide +kernel
theorem dX6_fractionWithSales_26 : decode cX6_fractionWithSales 26 = .ok (.invokevirtual 19, 3) := by decide +kernel
theorem dX6_fractionWithSales_29 : decode cX6_fractionWithSales 29 = .ok (.ireturn, 1) := by decide +kernel
theorem dX6_fractionOf_0 : decode cX6_fractionOf 0 = .ok (.lload_n 3, 1) := by decide +kernel
theorem dX6_fractionOf_1 : decode cX6_fractionOf 1 = .ok (.lconst 0, 1) := by decide +kernel
theorem dX6_fractionOf_2 : decode cX6_fractionOf 2 = .ok (.lcmp, 1) := by decide +kernel
theorem dX6_fractionOf_3 : decode cX6_fractionOf 3 = .ok (.ifCond .ne 10, 3) := by decide +kernel
theorem dX6_fractionOf_6 : decode cX6_fractionOf 6 = .ok (.aload_n 0, 1) := by decide +kernel
theorem dX6_fractionOf_7 : decode cX6_fractionOf 7 = .ok (.getfield 29, 3) := by decide +kernel
theorem dX6_fractionOf_10 : decode cX6_fractionOf 10 = .ok (.goto 19, 3) := by decide +kernel
theorem dX6_fractionOf_13 : decode cX6_fractionOf 13 = .ok (.aload_n 0, 1) := by decide +kernel
theorem dX6_fractionOf_14 : decode cX6_fractionOf 14 = .ok (.getfield 29, 3) := by decide +kernel
theorem dX6_fractionOf_17 : decode cX6_fractionOf 17 = .ok (.i2l, 1) := by decide +kernel
theorem dX6_fractionOf_18 : decode cX6_fractionOf 18 = .ok (.lload_n 1, 1) := by decide +kernel
theorem dX6_fractionOf_19 : decode cX6_fractionOf 19 = .ok (.lmul, 1) := by decide +kernel
theorem dX6_fractionOf_20 : decode cX6_fractionOf 20 = .ok (.lload_n 3, 1) := by decide +kernel
theorem dX6_fractionOf_21 : decode cX6_fractionOf 21 = .ok (.aload_n 0, 1) := by decide +kernel
theorem dX6_fractionOf_22 : decode cX6_fractionOf 22 = .ok (.getfield 32, 3) := by decide +kernel
theorem dX6_fractionOf_25 : decode cX6_fractionOf 25 = .ok (.invokestatic 35, 3) := by decide +kernel
theorem dX6_fractionOf_28 : decode cX6_fractionOf 28 = .ok (.l2i, 1) := by decide +kernel
theorem dX6_fractionOf_29 : decode cX6_fractionOf 29 = .ok (.ireturn, 1) := by decide +kernel
theorem dX6_allTax_0 : decode cX6_allTax 0 = .ok (.aload_n 0, 1) := by decide +kernel
theorem dX6_allTax_1 : decode cX6_allTax 1 = .ok (.getfield 9, 3) := by decide +kernel
theorem dX6_allTax_4 : decode cX6_allTax 4 = .ok (.iconst 2, 1) := by decide +kernel
theorem dX6_allTax_5 : decode cX6_allTax 5 = .ok (.laload, 1) := by decide +kernel
theorem dX6_allTax_6 : decode cX6_allTax 6 = .ok (.aload_n 0, 1) := by decide +kernel
theorem dX6_allTax_7 : decode cX6_allTax 7 = .ok (.getfield 9, 3) := by decide +kernel
theorem dX6_allTax_10 : decode cX6_allTax 10 = .ok (.iconst 3, 1) := by decide +kernel
theorem dX6_allTax_11 : decode cX6_allTax 11 = .ok (.laload, 1) := by decide +kernel
theorem dX6_allTax_12 : decode cX6_allTax 12 = .ok (.ladd, 1) := by decide +kernel
theorem dX6_allTax_13 : decode cX6_allTax 13 = .ok (.aload_n 0, 1) := by decide +kernel
theorem dX6_allTax_14 : decode cX6_allTax 14 = .ok (.getfield 9, 3) := by decide +kernel
theorem dX6_allTax_17 : decode cX6_allTax 17 = .ok (.iconst 4, 1) := by decide +kernel
theorem dX6_allTax_18 : decode cX6_allTax 18 = .ok (.laload, 1) := by decide +kernel
theorem dX6_allTax_19 : decode cX6_allTax 19 = .ok (.ladd, 1) := by decide +kernel
theorem dX6_allTax_20 : decode cX6_allTax 20 = .ok (.lreturn, 1) := by decide +kernel
theorem dX6_leftBy_0 : decode cX6_leftBy 0 = .ok (.aload_n 0, 1) := by decide +kernel
theorem dX6_leftBy_1 : decode cX6_leftBy 1 = .ok (.getfield 9, 3) := by decide +kernel
theorem dX6_leftBy_4 : decode cX6_leftBy 4 = .ok (.iconst 4, 1) := by decide +kernel
theorem dX6_leftBy_5 : decode cX6_leftBy 5 = .ok (.laload, 1) := by decide +kernel
theorem dX6_leftBy_6 : decode cX6_leftBy 6 = .ok (.lstore_n 2, 1) := by decide +kernel
theorem dX6_leftBy_7 : decode cX6_leftBy 7 = .ok (.aload_n 0, 1) := by decide +kernel
theorem dX6_leftBy_8 : decode cX6_leftBy 8 = .ok (.getfield 9, 3) := by decide +kernel
theorem dX6_leftBy_11 : decode cX6_leftBy 11 = .ok (.iconst 3, 1) := by decide +kernel
theorem dX6_leftBy_12 : decode cX6_leftBy 12 = .ok (.laload, 1) := by decide +kernel
theorem dX6_leftBy_13 : decode cX6_leftBy 13 = .ok (.lload_n 2, 1) := by decide +kernel
theorem dX6_leftBy_14 : decode cX6_leftBy 14 = .ok (.ladd, 1) := by decide +kernel
theorem dX6_leftBy_15 : decode cX6_leftBy 15 = .ok (.lload_n 2, 1) := by decide +kernel
theorem dX6_leftBy_16 : decode cX6_leftBy 16 = .ok (.iload_n 1, 1) := by decide +kernel
theorem dX6_leftBy_17 : decode cX6_leftBy 17 = .ok (.i2l, 1) := by decide +kernel
theorem dX6_leftBy_18 : decode cX6_leftBy 18 = .ok (.lmul, 1) := by decide +kernel
theorem dX6_leftBy_19 : decode cX6_leftBy 19 = .ok (.aload_n 0, 1) := by decide +kernel
theorem dX6_leftBy_20 : decode cX6_leftBy 20 = .ok (.getfield 29, 3) := by decide +kernel
theorem dX6_leftBy_23 : decode cX6_leftBy 23 = .ok (.i2l, 1) := by decide +kernel
theorem dX6_leftBy_24 : decode cX6_leftBy 24 = .ok (.aload_n 0, 1) := by decide +kernel
theorem dX6_leftBy_25 : decode cX6_leftBy 25 = .ok (.getfield 32, 3) := by decide +kernel
theorem dX6_leftBy_28 : decode cX6_leftBy 28 = .ok (.invokestatic 35, 3) := by decide +kernel
theorem dX6_leftBy_31 : decode cX6_leftBy 31 = .ok (.lsub, 1) := by decide +kernel
theorem dX6_leftBy_32 : decode cX6_leftBy 32 = .ok (.lreturn, 1) := by decide +kernel
theorem dX6_isSmallLeft_0 : decode cX6_isSmallLeft 0 = .ok (.lload_n 1, 1) := by decide +kernel
theorem dX6_isSmallLeft_1 : decode cX6_isSmallLeft 1 = .ok (.aload_n 0, 1) := by decide +kernel
theorem dX6_isSmallLeft_2 : decode cX6_isSmallLeft 2 = .ok (.getfield 39, 3) := by decide +kernel
theorem dX6_isSmallLeft_5 : decode cX6_isSmallLeft 5 = .ok (.i2l, 1) := by decide +kernel
theorem dX6_isSmallLeft_6 : decode cX6_isSmallLeft 6 = .ok (.lcmp, 1) := by decide +kernel
theorem dX6_isSmallLeft_7 : decode cX6_isSmallLeft 7 = .ok (.ifCond .gt 20, 3) := by decide +kernel
theorem dX6_isSmallLeft_10 : decode cX6_isSmallLeft 10 = .ok (.ldc2_w 42, 3) := by decide +kernel
theorem dX6_isSmallLeft_13 : decode cX6_isSmallLeft 13 = .ok (.lload_n 1, 1) := by decide +kernel
theorem dX6_isSmallLeft_14 : decode cX6_isSmallLeft 14 = .ok (.lmul, 1) := by decide +kernel
theorem dX6_isSmallLeft_15 : decode cX6_isSmallLeft 15 = .ok (.aload_n 0, 1) := by decide +kernel
theorem dX6_isSmallLeft_16 : decode cX6_isSmallLeft 16 = .ok (.invokevirtual 44, 3) := by decide +kernel
theorem dX6_isSmallLeft_19 : decode cX6_isSmallLeft 19 = .ok (.lcmp, 1) := by decide +kernel
theorem dX6_isSmallLeft_20 : decode cX6_isSmallLeft 20 = .ok (.ifCond .gt 7, 3) := by decide +kernel
theorem dX6_isSmallLeft_23 : decode cX6_isSmallLeft 23 = .ok (.iconst 1, 1) := by decide +kernel
theorem dX6_isSmallLeft_24 : decode cX6_isSmallLeft 24 = .ok (.goto 4, 3) := by decide +kernel
theorem dX6_isSmallLeft_27 : decode cX6_isSmallLeft 27 = .ok (.iconst 0, 1) := by decide +kernel
theorem dX6_isSmallLeft_28 : decode cX6_isSmallLeft 28 = .ok (.ireturn, 1) := by decide +kernel
theorem dX6_isSmall_0 : decode cX6_isSmall 0 = .ok (.aload_n 0, 1) := by decide +kernel
theorem dX6_isSmall_1 : decode cX6_isSmall 1 = .ok (.aload_n 0, 1) := by decide +kernel
theorem dX6_isSmall_2 : decode cX6_isSmall 2 = .ok (.iload_n 1, 1) := by decide +kernel
theorem dX6_isSmall_3 : decode cX6_isSmall 3 = .ok (.invokevirtual 48, 3) := by decide +kernel
theorem dX6_isSmall_6 : decode cX6_isSmall 6 = .ok (.invokevirtual 52, 3) := by decide +kernel
theorem dX6_isSmall_9 : decode cX6_isSmall 9 = .ok (.ireturn, 1) := by decide +kernel
theorem dX6_backBy_0 : decode cX6_backBy 0 = .ok (.aload_n 0, 1) := by decide +kernel
theorem dX6_backBy_1 : decode cX6_backBy 1 = .ok (.iload_n 1, 1) := by decide +kernel
theorem dX6_backBy_2 : decode cX6_backBy 2 = .ok (.invokevirtual 48, 3) := by decide +kernel
theorem dX6_backBy_5 : decode cX6_backBy 5 = .ok (.lstore_n 2, 1) := by decide +kernel
theorem dX6_backBy_6 : decode cX6_backBy 6 = .ok (.aload_n 0, 1) := by decide +kernel
theorem dX6_backBy_7 : decode cX6_backBy 7 = .ok (.lload_n 2, 1) := by decide +kernel
theorem dX6_backBy_8 : decode cX6_backBy 8 = .ok (.invokevirtual 52, 3) := by decide +kernel
theorem dX6_backBy_11 : decode cX6_backBy 11 = .ok (.ifCond .eq 10, 3) := by decide +kernel
theorem dX6_backBy_14 : decode cX6_backBy 14 = .ok (.aload_n 0, 1) := by decide +kernel
theorem dX6_backBy_15 : decode cX6_backBy 15 = .ok (.invokevirtual 44, 3) := by decide +kernel
theorem dX6_backBy_18 : decode cX6_backBy 18 = .ok (.goto 9, 3) := by decide +kernel
theorem dX6_backBy_21 : decode cX6_backBy 21 = .ok (.aload_n 0, 1) := by decide +kernel
theorem dX6_backBy_22 : decode cX6_backBy 22 = .ok (.invokevirtual 44, 3) := by decide +kernel
theorem dX6_backBy_25 : decode cX6_backBy 25 = .ok (.lload_n 2, 1) := by decide +kernel
theorem dX6_backBy_26 : decode cX6_backBy 26 = .ok (.lsub, 1) := by decide +kernel
theorem dX6_backBy_27 : decode cX6_backBy 27 = .ok (.l2i, 1) := by decide +kernel
theorem dX6_backBy_28 : decode cX6_backBy 28 = .ok (.ireturn, 1) := by decide +kernel
theorem dX6_leastLimit_0 : decode cX6_leastLimit 0 = .ok (.aload_n 0, 1) := by decide +kernel
theorem dX6_leastLimit_1 : decode cX6_leastLimit 1 = .ok (.iload_n 1, 1) := by decide +kernel
theorem dX6_leastLimit_2 : decode cX6_leastLimit 2 = .ok (.invokevirtual 48, 3) := by decide +kernel
theorem dX6_leastLimit_5 : decode cX6_leastLimit 5 = .ok (.lstore_n 2, 1) := by decide +kernel
theorem dX6_leastLimit_6 : decode cX6_leastLimit 6 = .ok (.ldc2_w 42, 3) := by decide +kernel
theorem dX6_leastLimit_9 : decode cX6_leastLimit 9 = .ok (.lload_n 2, 1) := by decide +kernel
theorem dX6_leastLimit_10 : decode cX6_leastLimit 10 = .ok (.lmul, 1) := by decide +kernel
theorem dX6_leastLimit_11 : decode cX6_leastLimit 11 = .ok (.aload_n 0, 1) := by decide +kernel
theorem dX6_leastLimit_12 : decode cX6_leastLimit 12 = .ok (.invokevirtual 44, 3) := by decide +kernel
theorem dX6_leastLimit_15 : decode cX6_leastLimit 15 = .ok (.lcmp, 1) := by decide +kernel
theorem dX6_leastLimit_16 : decode cX6_leastLimit 16 = .ok (.ifCond .gt 8, 3) := by decide +kernel
theorem dX6_leastLimit_19 : decode cX6_leastLimit 19 = .ok (.lload_n 2, 1) := by decide +kernel
theorem dX6_leastLimit_20 : decode cX6_leastLimit 20 = .ok (.l2i, 1) := by decide +kernel
theorem dX6_leastLimit_21 : decode cX6_leastLimit 21 = .ok (.goto 5, 3) := by decide +kernel
theorem dX6_leastLimit_24 : decode cX6_leastLimit 24 = .ok (.bipush (-2), 2) := by decide +kernel
theorem dX6_leastLimit_26 : decode cX6_leastLimit 26 = .ok (.ireturn, 1) := by decide +kernel
theorem dX7_init_0 : decode cX7_init 0 = .ok (.aload_n 0, 1) := by decide +kernel
theorem dX7_init_1 : decode cX7_init 1 = .ok (.invokespecial 3, 3) := by decide +kernel
theorem dX7_init_4 : decode cX7_init 4 = .ok (.aload_n 0, 1) := by decide +kernel
theorem dX7_init_5 : decode cX7_init 5 = .ok (.iconst 4, 1) := by decide +kernel
theorem dX7_init_6 : decode cX7_init 6 = .ok (.newarray .int, 2) := by decide +kernel
theorem dX7_init_8 : decode cX7_init 8 = .ok (.putfield 9, 3) := by decide +kernel
theorem dX7_init_11 : decode cX7_init 11 = .ok (.aload_n 0, 1) := by decide +kernel
theorem dX7_init_12 : decode cX7_init 12 = .ok (.iconst 4, 1) := by decide +kernel
theorem dX7_init_13 : decode cX7_init 13 = .ok (.newarray .int, 2) := by decide +kernel
theorem dX7_init_15 : decode cX7_init 15 = .ok (.putfield 15, 3) := by decide +kernel
theorem dX7_init_18 : decode cX7_init 18 = .ok (.aload_n 0, 1) := by decide +kernel
theorem dX7_init_19 : decode cX7_init 19 = .ok (.iconst 4, 1) := by decide +kernel
theorem dX7_init_20 : decode cX7_init 20 = .ok (.newarray .int, 2) := by decide +kernel
theorem dX7_init_22 : decode cX7_init 22 = .ok (.putfield 18, 3) := by decide +kernel
theorem dX7_init_25 : decode cX7_init 25 = .ok (.aload_n 0, 1) := by decide +kernel
theorem dX7_init_26 : decode cX7_init 26 = .ok (.iconst 4, 1) := by decide +kernel
theorem dX7_init_27 : decode cX7_init 27 = .ok (.newarray .int, 2) := by decide +kernel
theorem dX7_init_29 : decode cX7_init 29 = .ok (.putfield 21, 3) := by decide +kernel
theorem dX7_init_32 : decode cX7_init 32 = .ok (.aload_n 0, 1) := by decide +kernel
theorem dX7_init_33 : decode cX7_init 33 = .ok (.iconst 4, 1) := by decide +kernel
theorem dX7_init_34 : decode cX7_init 34 = .ok (.newarray .int, 2) := by decide +kernel
theorem dX7_init_36 : decode cX7_init 36 = .ok (.putfield 24, 3) := by decide +kernel
theorem dX7_init_39 : decode cX7_init 39 = .ok (.aload_n 0, 1) := by decide +kernel
theorem dX7_init_40 : decode cX7_init 40 = .ok (.iconst 4, 1) := by decide +kernel
theorem dX7_init_41 : decode cX7_init 41 = .ok (.newarray .int, 2) := by decide +kernel
theorem dX7_init_43 : decode cX7_init 43 = .ok (.putfield 27, 3) := by decide +kernel
theorem dX7_init_46 : decode cX7_init 46 = .ok (.aload_n 0, 1) := by decide +kernel
theorem dX7_init_47 : decode cX7_init 47 = .ok (.iconst 0, 1) := by decide +kernel
theorem dX7_init_48 : decode cX7_init 48 = .ok (.putfield 30, 3) := by decide +kernel
theorem dX7_init_51 : decode cX7_init 51 = .ok (.aload_n 0, 1) := by decide +kernel
theorem dX7_init_52 : decode cX7_init 52 = .ok (.bipush 100, 2) := by decide +kernel
theorem dX7_init_54 : decode cX7_init 54 = .ok (.putfield 34, 3) := by decide +kernel
theorem dX7_init_57 : decode cX7_init 57 = .ok (.aload_n 0, 1) := by decide +kernel
theorem dX7_init_58 : decode cX7_init 58 = .ok (.bipush 96, 2) := by decide +kernel
theorem dX7_init_60 : decode cX7_init 60 = .ok (.newarray .int, 2) := by decide +kernel
theorem dX7_init_62 : decode cX7_init 62 = .ok (.putfield 37, 3) := by decide +kernel
theorem dX7_init_65 : decode cX7_init 65 = .ok (.aload_n 0, 1) := by decide +kernel
theorem dX7_init_66 : decode cX7_init 66 = .ok (.bipush 20, 2) := by decide +kernel
theorem dX7_init_68 : decode cX7_init 68 = .ok (.newarray .int, 2) := by decide +kernel
theorem dX7_init_70 : decode cX7_init 70 = .ok (.putfield 40, 3) := by decide +kernel
theorem dX7_init_73 : decode cX7_init 73 = .ok (.return_, 1) := by decide +kernel
theorem dX7_clear_0 : decode cX7_clear 0 = .ok (.aload_n 0, 1) := by decide +kernel
theorem dX7_clear_1 : decode cX7_clear 1 = .ok (.iconst 0, 1) := by decide +kernel
theorem dX7_clear_2 : decode cX7_clear 2 = .ok (.putfield 43, 3) := by decide +kernel
theorem dX7_clear_5 : decode cX7_clear 5 = .ok (.aload_n 0, 1) := by decide +kernel
theorem dX7_clear_6 : decode cX7_clear 6 = .ok (.iconst 0, 1) := by decide +kernel
theorem dX7_clear_7 : decode cX7_clear 7 = .ok (.putfield 30, 3) := by decide +kernel
theorem dX7_clear_10 : decode cX7_clear 10 = .ok (.aload_n 0, 1) := by decide +kernel
theorem dX7_clear_11 : decode cX7_clear 11 = .ok (.bipush 100, 2) := by decide +kernel
theorem dX7_clear_13 : decode cX7_clear 13 = .ok (.putfield 34, 3) := by decide +kernel
theorem dX7_clear_16 : decode cX7_clear 16 = .ok (.aload_n 0, 1) := by decide +kernel
theorem dX7_clear_17 : decode cX7_clear 17 = .ok (.iconst 0, 1) := by decide +kernel
theorem dX7_clear_18 : decode cX7_clear 18 = .ok (.putfield 46, 3) := by decide +kernel
theorem dX7_clear_21 : decode cX7_clear 21 = .ok (.aload_n 0, 1) := by decide +kernel
theorem dX7_clear_22 : decode cX7_clear 22 = .ok (.iconst 0, 1) := by decide +kernel
theorem dX7_clear_23 : decode cX7_clear 23 = .ok (.putfield 49, 3) := by decide +kernel
theorem dX7_clear_26 : decode cX7_clear 26 = .ok (.aload_n 0, 1) := by decide +kernel
theorem dX7_clear_27 : decode cX7_clear 27 = .ok (.iconst 0, 1) := by decide +kernel
theorem dX7_clear_28 : decode cX7_clear 28 = .ok (.putfield 52, 3) := by decide +kernel
theorem dX7_clear_31 : decode cX7_clear 31 = .ok (.aload_n 0, 1) := by decide +kernel
theorem dX7_clear_32 : decode cX7_clear 32 = .ok (.iconst 0, 1) := by decide +kernel
theorem dX7_clear_33 : decode cX7_clear 33 = .ok (.putfield 55, 3) := by decide +kernel
theorem dX7_clear_36 : decode cX7_clear 36 = .ok (.aload_n 0, 1) := by decide +kernel
theorem dX7_clear_37 : decode cX7_clear 37 = .ok (.iconst 0, 1) := by decide +kernel
theorem dX7_clear_38 : decode cX7_clear 38 = .ok (.putfield 58, 3) := by decide +kernel
theorem dX7_clear_41 : decode cX7_clear 41 = .ok (.return_, 1) := by decide +kernel
theorem dX7_traderNamed_0 : decode cX7_traderNamed 0 = .ok (.iconst 0, 1) := by decide +kernel
theorem dX7_traderNamed_1 : decode cX7_traderNamed 1 = .ok (.istore_n 2, 1) := by decide +kernel
theorem dX7_traderNamed_2 : decode cX7_traderNamed 2 = .ok (.iload_n 2, 1) := by decide +kernel
theorem dX7_traderNamed_3 : decode cX7_traderNamed 3 = .ok (.aload_n 0, 1) := by decide +kernel
theorem dX7_traderNamed_4 : decode cX7_traderNamed 4 = .ok (.getfield 43, 3) := by decide +kernel
theorem dX7_traderNamed_7 : decode cX7_traderNamed 7 = .ok (.if_icmp .ge 21, 3) := by decide +kernel
theorem dX7_traderNamed_10 : decode cX7_traderNamed 10 = .ok (.aload_n 0, 1) := by decide +kernel
theorem dX7_traderNamed_11 : decode cX7_traderNamed 11 = .ok (.getfield 9, 3) := by decide +kernel
theorem dX7_traderNamed_14 : decode cX7_traderNamed 14 = .ok (.iload_n 2, 1) := by decide +kernel
theorem dX7_traderNamed_15 : decode cX7_traderNamed 15 = .ok (.iaload, 1) := by decide +kernel
theorem dX7_traderNamed_16 : decode cX7_traderNamed 16 = .ok (.iload_n 1, 1) := by decide +kernel
theorem dX7_traderNamed_17 : decode cX7_traderNamed 17 = .ok (.if_icmp .ne 5, 3) := by decide +kernel
theorem dX7_traderNamed_20 : decode cX7_traderNamed 20 = .ok (.iload_n 2, 1) := by decide +kernel
theorem dX7_traderNamed_21 : decode cX7_traderNamed 21 = .ok (.ireturn, 1) := by decide +kernel
theorem dX7_traderNamed_22 : decode cX7_traderNamed 22 = .ok (.iinc 2 1, 3) := by decide +kernel
theorem dX7_traderNamed_25 : decode cX7_traderNamed 25 = .ok (.goto (-23), 3) := by decide +kernel
theorem dX7_traderNamed_28 : decode cX7_traderNamed 28 = .ok (.iconst (-1), 1) := by decide +kernel
theorem dX7_traderNamed_29 : decode cX7_traderNamed 29 = .ok (.ireturn, 1) := by decide +kernel
theorem dX7_addTrader_0 : decode cX7_addTrader 0 = .ok (.aload_n 0, 1) := by decide +kernel
theorem dX7_addTrader_1 : decode cX7_addTrader 1 = .ok (.getfield 43, 3) := by decide +kernel
theorem dX7_addTrader_4 : decode cX7_addTrader 4 = .ok (.iconst 4, 1) := by decide +kernel
theorem dX7_addTrader_5 : decode cX7_addTrader 5 = .ok (.if_icmp .lt 4, 3) := by decide +kernel
theorem dX7_addTrader_8 : decode cX7_addTrader 8 = .ok (.return_, 1) := by decide +kernel
theorem dX7_addTrader_9 : decode cX7_addTrader 9 = .ok (.aload_n 0, 1) := by decide +kernel
theorem dX7_addTrader_10 : decode cX7_addTrader 10 = .ok (.getfield 9, 3) := by decide +kernel
theorem dX7_addTrader_13 : decode cX7_addTrader 13 = .ok (.aload_n 0, 1) := by decide +kernel
theorem dX7_addTrader_14 : decode cX7_addTrader 14 = .ok (.getfield 43, 3) := by decide +kernel
theorem dX7_addTrader_17 : decode cX7_addTrader 17 = .ok (.iload_n 1, 1) := by decide +kernel
theorem dX7_addTrader_18 : decode cX7_addTrader 18 = .ok (.iastore, 1) := by decide +kernel
theorem dX7_addTrader_19 : decode cX7_addTrader 19 = .ok (.aload_n 0, 1) := by decide +kernel
theorem dX7_addTrader_20 : decode cX7_addTrader 20 = .ok (.getfield 15, 3) := by decide +kernel
theorem dX7_addTrader_23 : decode cX7_addTrader 23 = .ok (.aload_n 0, 1) := by decide +kernel
theorem dX7_addTrader_24 : decode cX7_addTrader 24 = .ok (.getfield 43, 3) := by decide +kernel
theorem dX7_addTrader_27 : decode cX7_addTrader 27 = .ok (.iload_n 2, 1) := by decide +kernel
theorem dX7_addTrader_28 : decode cX7_addTrader 28 = .ok (.iastore, 1) := by decide +kernel
theorem dX7_addTrader_29 : decode cX7_addTrader 29 = .ok (.aload_n 0, 1) := by decide +kernel
theorem dX7_addTrader_30 : decode cX7_addTrader 30 = .ok (.getfield 18, 3) := by decide +kernel
theorem dX7_addTrader_33 : decode cX7_addTrader 33 = .ok (.aload_n 0, 1) := by decide +kernel
theorem dX7_addTrader_34 : decode cX7_addTrader 34 = .ok (.getfield 43, 3) := by decide +kernel
theorem dX7_addTrader_37 : decode cX7_addTrader 37 = .ok (.iload_n 3, 1) := by decide +kernel
theorem dX7_addTrader_38 : decode cX7_addTrader 38 = .ok (.iastore, 1) := by decide +kernel
theorem dX7_addTrader_39 : decode cX7_addTrader 39 = .ok (.aload_n 0, 1) := by decide +kernel
theorem dX7_addTrader_40 : decode cX7_addTrader 40 = .ok (.getfield 21, 3) := by decide +kernel
theorem dX7_addTrader_43 : decode cX7_addTrader 43 = .ok (.aload_n 0, 1) := by decide +kernel
theorem dX7_addTrader_44 : decode cX7_addTrader 44 = .ok (.getfield 43, 3) := by decide +kernel
theorem dX7_addTrader_47 : decode cX7_addTrader 47 = .ok (.bipush (-2), 2) := by decide +kernel
theorem dX7_addTrader_49 : decode cX7_addTrader 49 = .ok (.iastore, 1) := by decide +kernel
theorem dX7_addTrader_50 : decode cX7_addTrader 50 = .ok (.aload_n 0, 1) := by decide +kernel
theorem dX7_addTrader_51 : decode cX7_addTrader 51 = .ok (.getfield 24, 3) := by decide +kernel
theorem dX7_addTrader_54 : decode cX7_addTrader 54 = .ok (.aload_n 0, 1) := by decide +kernel
theorem dX7_addTrader_55 : decode cX7_addTrader 55 = .ok (.getfield 43, 3) := by decide +kernel
theorem dX7_addTrader_58 : decode cX7_addTrader 58 = .ok (.iconst 0, 1) := by decide +kernel
theorem dX7_addTrader_59 : decode cX7_addTrader 59 = .ok (.iastore, 1) := by decide +kernel
theorem dX7_addTrader_60 : decode cX7_addTrader 60 = .ok (.aload_n 0, 1) := by decide +kernel
theorem dX7_addTrader_61 : decode cX7_addTrader 61 = .ok (.getfield 27, 3) := by decide +kernel
theorem dX7_addTrader_64 : decode cX7_addTrader 64 = .ok (.aload_n 0, 1) := by decide +kernel
theorem dX7_addTrader_65 : decode cX7_addTrader 65 = .ok (.getfield 43, 3) := by decide +kernel
theorem dX7_addTrader_68 : decode cX7_addTrader 68 = .ok (.iconst 0, 1) := by decide +kernel
theorem dX7_addTrader_69 : decode cX7_addTrader 69 = .ok (.iastore, 1) := by decide +kernel
theorem dX7_addTrader_70 : decode cX7_addTrader 70 = .ok (.aload_n 0, 1) := by decide +kernel
theorem dX7_addTrader_71 : decode cX7_addTrader 71 = .ok (.dup, 1) := by decide +kernel
theorem dX7_addTrader_72 : decode cX7_addTrader 72 = .ok (.getfield 43, 3) := by decide +kernel
theorem dX7_addTrader_75 : decode cX7_addTrader 75 = .ok (.iconst 1, 1) := by decide +kernel
theorem dX7_addTrader_76 : decode cX7_addTrader 76 = .ok (.iadd, 1) := by decide +kernel
theorem dX7_addTrader_77 : decode cX7_addTrader 77 = .ok (.putfield 43, 3) := by decide +kernel
theorem dX7_addTrader_80 : decode cX7_addTrader 80 = .ok (.return_, 1) := by decide +kernel
theorem dX7_addSale_0 : decode cX7_addSale 0 = .ok (.aload_n 0, 1) := by decide +kernel
theorem dX7_addSale_1 : decode cX7_addSale 1 = .ok (.iload_n 1, 1) := by decide +kernel
theorem dX7_addSale_2 : decode cX7_addSale 2 = .ok (.iload_n 2, 1) := by decide +kernel
theorem dX7_addSale_3 : decode cX7_addSale 3 = .ok (.iload_n 3, 1) := by decide +kernel
theorem dX7_addSale_4 : decode cX7_addSale 4 = .ok (.iload 4, 2) := by decide +kernel
theorem dX7_addSale_6 : decode cX7_addSale 6 = .ok (.invokevirtual 61, 3) := by decide +kernel
theorem dX7_addSale_9 : decode cX7_addSale 9 = .ok (.aload_n 0, 1) := by decide +kernel
theorem dX7_addSale_10 : decode cX7_addSale 10 = .ok (.dup, 1) := by decide +kernel
theorem dX7_addSale_11 : decode cX7_addSale 11 = .ok (.getfield 52, 3) := by decide +kernel
theorem dX7_addSale_14 : decode cX7_addSale 14 = .ok (.iconst 1, 1) := by decide +kernel
theorem dX7_addSale_15 : decode cX7_addSale 15 = .ok (.iadd, 1) := by decide +kernel
theorem dX7_addSale_16 : decode cX7_addSale 16 = .ok (.putfield 52, 3) := by decide +kernel
theorem dX7_addSale_19 : decode cX7_addSale 19 = .ok (.return_, 1) := by decide +kernel
theorem dX7_addBuy_0 : decode cX7_addBuy 0 = .ok (.aload_n 0, 1) := by decide +kernel
theorem dX7_addBuy_1 : decode cX7_addBuy 1 = .ok (.iload_n 1, 1) := by decide +kernel
theorem dX7_addBuy_2 : decode cX7_addBuy 2 = .ok (.iload_n 2, 1) := by decide +kernel
theorem dX7_addBuy_3 : decode cX7_addBuy 3 = .ok (.iconst 2, 1) := by decide +kernel
theorem dX7_addBuy_4 : decode cX7_addBuy 4 = .ok (.iload_n 3, 1) := by decide +kernel
theorem dX7_addBuy_5 : decode cX7_addBuy 5 = .ok (.iadd, 1) := by decide +kernel
theorem dX7_addBuy_6 : decode cX7_addBuy 6 = .ok (.iload 4, 2) := by decide +kernel
theorem dX7_addBuy_8 : decode cX7_addBuy 8 = .ok (.invokevirtual 61, 3) := by decide +kernel
theorem dX7_addBuy_11 : decode cX7_addBuy 11 = .ok (.aload_n 0, 1) := by decide +kernel
theorem dX7_addBuy_12 : decode cX7_addBuy 12 = .ok (.dup, 1) := by decide +kernel
theorem dX7_addBuy_13 : decode cX7_addBuy 13 = .ok (.getfield 55, 3) := by decide +kernel
theorem dX7_addBuy_16 : decode cX7_addBuy 16 = .ok (.iconst 1, 1) := by decide +kernel
theorem dX7_addBuy_17 : decode cX7_addBuy 17 = .ok (.iadd, 1) := by decide +kernel
theorem dX7_addBuy_18 : decode cX7_addBuy 18 = .ok (.putfield 55, 3) := by decide +kernel
theorem dX7_addBuy_21 : decode cX7_addBuy 21 = .ok (.return_, 1) := by decide +kernel
theorem dX7_addMove_0 : decode cX7_addMove 0 = .ok (.aload_n 0, 1) := by decide +kernel
theorem dX7_addMove_1 : decode cX7_addMove 1 = .ok (.getfield 52, 3) := by decide +kernel
theorem dX7_addMove_4 : decode cX7_addMove 4 = .ok (.aload_n 0, 1) := by decide +kernel
theorem dX7_addMove_5 : decode cX7_addMove 5 = .ok (.getfield 55, 3) := by decide +kernel
theorem dX7_addMove_8 : decode cX7_addMove 8 = .ok (.iadd, 1) := by decide +kernel
theorem dX7_addMove_9 : decode cX7_addMove 9 = .ok (.iconst 4, 1) := by decide +kernel
theorem dX7_addMove_10 : decode cX7_addMove 10 = .ok (.imul, 1) := by decide +kernel
theorem dX7_addMove_11 : decode cX7_addMove 11 = .ok (.istore 5, 2) := by decide +kernel
theorem dX7_addMove_13 : decode cX7_addMove 13 = .ok (.iload 5, 2) := by decide +kernel
theorem dX7_addMove_15 : decode cX7_addMove 15 = .ok (.iconst 4, 1) := by decide +kernel
theorem dX7_addMove_16 : decode cX7_addMove 16 = .ok (.iadd, 1) := by decide +kernel
theorem dX7_addMove_17 : decode cX7_addMove 17 = .ok (.aload_n 0, 1) := by decide +kernel
theorem dX7_addMove_18 : decode cX7_addMove 18 = .ok (.getfield 37, 3) := by decide +kernel
theorem dX7_addMove_21 : decode cX7_addMove 21 = .ok (.arraylength, 1) := by decide +kernel
theorem dX7_addMove_22 : decode cX7_addMove 22 = .ok (.if_icmp .le 4, 3) := by decide +kernel
theorem dX7_addMove_25 : decode cX7_addMove 25 = .ok (.return_, 1) := by decide +kernel
theorem dX7_addMove_26 : decode cX7_addMove 26 = .ok (.aload_n 0, 1) := by decide +kernel
theorem dX7_addMove_27 : decode cX7_addMove 27 = .ok (.getfield 37, 3) := by decide +kernel
theorem dX7_addMove_30 : decode cX7_addMove 30 = .ok (.iload 5, 2) := by decide +kernel
theorem dX7_addMove_32 : decode cX7_addMove 32 = .ok (.iload_n 1, 1) := by decide +kernel
theorem dX7_addMove_33 : decode cX7_addMove 33 = .ok (.iastore, 1) := by decide +kernel
theorem dX7_addMove_34 : decode cX7_addMove 34 = .ok (.aload_n 0, 1) := by decide +kernel
theorem dX7_addMove_35 : decode cX7_addMove 35 = .ok (.getfield 37, 3) := by decide +kernel
theorem dX7_addMove_38 : decode cX7_addMove 38 = .ok (.iload 5, 2) := by decide +kernel
theorem dX7_addMove_40 : decode cX7_addMove 40 = .ok (.iconst 1, 1) := by decide +kernel
theorem dX7_addMove_41 : decode cX7_addMove 41 = .ok (.iadd, 1) := by decide +kernel
theorem dX7_addMove_42 : decode cX7_addMove 42 = .ok (.iload_n 2, 1) := by decide +kernel
theorem dX7_addMove_43 : decode cX7_addMove 43 = .ok (.iastore, 1) := by decide +kernel
theorem dX7_addMove_44 : decode cX7_addMove 44 = .ok (.aload_n 0, 1) := by decide +kernel
theorem dX7_addMove_45 : decode cX7_addMove 45 = .ok (.getfield 37, 3) := by decide +kernel
theorem dX7_addMove_48 : decode cX7_addMove 48 = .ok (.iload 5, 2) := by decide +kernel
theorem dX7_addMove_50 : decode cX7_addMove 50 = .ok (.iconst 2, 1) := by decide +kernel
theorem dX7_addMove_51 : decode cX7_addMove 51 = .ok (.iadd, 1) := by decide +kernel
theorem dX7_addMove_52 : decode cX7_addMove 52 = .ok (.iload_n 3, 1) := by decide +kernel
theorem dX7_addMove_53 : decode cX7_addMove 53 = .ok (.iastore, 1) := by decide +kernel
theorem dX7_addMove_54 : decode cX7_addMove 54 = .ok (.aload_n 0, 1) := by decide +kernel
theorem dX7_addMove_55 : decode cX7_addMove 55 = .ok (.getfield 37, 3) := by decide +kernel
theorem dX7_addMove_58 : decode cX7_addMove 58 = .ok (.iload 5, 2) := by decide +kernel
theorem dX7_addMove_60 : decode cX7_addMove 60 = .ok (.iconst 3, 1) := by decide +kernel
theorem dX7_addMove_61 : decode cX7_addMove 61 = .ok (.iadd, 1) := by decide +kernel
theorem dX7_addMove_62 : decode cX7_addMove 62 = .ok (.iload 4, 2) := by decide +kernel
theorem dX7_addMove_64 : decode cX7_addMove 64 = .ok (.iastore, 1) := by decide +kernel
theorem dX7_addMove_65 : decode cX7_addMove 65 = .ok (.return_, 1) := by decide +kernel
theorem dX7_addAsset_0 : decode cX7_addAsset 0 = .ok (.aload_n 0, 1) := by decide +kernel
theorem dX7_addAsset_1 : decode cX7_addAsset 1 = .ok (.getfield 58, 3) := by decide +kernel
theorem dX7_addAsset_4 : decode cX7_addAsset 4 = .ok (.iconst 5, 1) := by decide +kernel
theorem dX7_addAsset_5 : decode cX7_addAsset 5 = .ok (.imul, 1) := by decide +kernel
theorem dX7_addAsset_6 : decode cX7_addAsset 6 = .ok (.istore 6, 2) := by decide +kernel
theorem dX7_addAsset_8 : decode cX7_addAsset 8 = .ok (.iload 6, 2) := by decide +kernel
theorem dX7_addAsset_10 : decode cX7_addAsset 10 = .ok (.iconst 5, 1) := by decide +kernel
theorem dX7_addAsset_11 : decode cX7_addAsset 11 = .ok (.iadd, 1) := by decide +kernel
theorem dX7_addAsset_12 : decode cX7_addAsset 12 = .ok (.aload_n 0, 1) := by decide +kernel
theorem dX7_addAsset_13 : decode cX7_addAsset 13 = .ok (.getfield 40, 3) := by decide +kernel
theorem dX7_addAsset_16 : decode cX7_addAsset 16 = .ok (.arraylength, 1) := by decide +kernel
theorem dX7_addAsset_17 : decode cX7_addAsset 17 = .ok (.if_icmp .le 4, 3) := by decide +kernel
theorem dX7_addAsset_20 : decode cX7_addAsset 20 = .ok (.return_, 1) := by decide +kernel
theorem dX7_addAsset_21 : decode cX7_addAsset 21 = .ok (.aload_n 0, 1) := by decide +kernel
theorem dX7_addAsset_22 : decode cX7_addAsset 22 = .ok (.getfield 40, 3) := by decide +kernel
theorem dX7_addAsset_25 : decode cX7_addAsset 25 = .ok (.iload 6, 2) := by decide +kernel
theorem dX7_addAsset_27 : decode cX7_addAsset 27 = .ok (.iload_n 1, 1) := by decide +kernel
theorem dX7_addAsset_28 : decode cX7_addAsset 28 = .ok (.iastore, 1) := by decide +kernel
theorem dX7_addAsset_29 : decode cX7_addAsset 29 = .ok (.aload_n 0, 1) := by decide +kernel
theorem dX7_addAsset_30 : decode cX7_addAsset 30 = .ok (.getfield 40, 3) := by decide +kernel
theorem dX7_addAsset_33 : decode cX7_addAsset 33 = .ok (.iload 6, 2) := by decide +kernel
theorem dX7_addAsset_35 : decode cX7_addAsset 35 = .ok (.iconst 1, 1) := by decide +kernel
theorem dX7_addAsset_36 : decode cX7_addAsset 36 = .ok (.iadd, 1) := by decide +kernel
theorem dX7_addAsset_37 : decode cX7_addAsset 37 = .ok (.iload_n 2, 1) := by decide +kernel
theorem dX7_addAsset_38 : decode cX7_addAsset 38 = .ok (.iastore, 1) := by decide +kernel
theorem dX7_addAsset_39 : decode cX7_addAsset 39 = .ok (.aload_n 0, 1) := by decide +kernel
theorem dX7_addAsset_40 : decode cX7_addAsset 40 = .ok (.getfield 40, 3) := by decide +kernel
theorem dX7_addAsset_43 : decode cX7_addAsset 43 = .ok (.iload 6, 2) := by decide +kernel
theorem dX7_addAsset_45 : decode cX7_addAsset 45 = .ok (.iconst 2, 1) := by decide +kernel
theorem dX7_addAsset_46 : decode cX7_addAsset 46 = .ok (.iadd, 1) := by decide +kernel
theorem dX7_addAsset_47 : decode cX7_addAsset 47 = .ok (.iload_n 3, 1) := by decide +kernel
theorem dX7_addAsset_48 : decode cX7_addAsset 48 = .ok (.iastore, 1) := by decide +kernel
theorem dX7_addAsset_49 : decode cX7_addAsset 49 = .ok (.aload_n 0, 1) := by decide +kernel
theorem dX7_addAsset_50 : decode cX7_addAsset 50 = .ok (.getfield 40, 3) := by decide +kernel
theorem dX7_addAsset_53 : decode cX7_addAsset 53 = .ok (.iload 6, 2) := by decide +kernel
theorem dX7_addAsset_55 : decode cX7_addAsset 55 = .ok (.iconst 3, 1) := by decide +kernel
theorem dX7_addAsset_56 : decode cX7_addAsset 56 = .ok (.iadd, 1) := by decide +kernel
theorem dX7_addAsset_57 : decode cX7_addAsset 57 = .ok (.iload 4, 2) := by decide +kernel
theorem dX7_addAsset_59 : decode cX7_addAsset 59 = .ok (.iastore, 1) := by decide +kernel
theorem dX7_addAsset_60 : decode cX7_addAsset 60 = .ok (.aload_n 0, 1) := by decide +kernel
theorem dX7_addAsset_61 : decode cX7_addAsset 61 = .ok (.getfield 40, 3) := by decide +kernel
theorem dX7_addAsset_64 : decode cX7_addAsset 64 = .ok (.iload 6, 2) := by decide +kernel
theorem dX7_addAsset_66 : decode cX7_addAsset 66 = .ok (.iconst 4, 1) := by decide +kernel
theorem dX7_addAsset_67 : decode cX7_addAsset 67 = .ok (.iadd, 1) := by decide +kernel
theorem dX7_addAsset_68 : decode cX7_addAsset 68 = .ok (.iload 5, 2) := by decide +kernel
theorem dX7_addAsset_70 : decode cX7_addAsset 70 = .ok (.iastore, 1) := by decide +kernel
theorem dX7_addAsset_71 : decode cX7_addAsset 71 = .ok (.aload_n 0, 1) := by decide +kernel
theorem dX7_addAsset_72 : decode cX7_addAsset 72 = .ok (.dup, 1) := by decide +kernel
theorem dX7_addAsset_73 : decode cX7_addAsset 73 = .ok (.getfield 58, 3) := by decide +kernel
theorem dX7_addAsset_76 : decode cX7_addAsset 76 = .ok (.iconst 1, 1) := by decide +kernel
theorem dX7_addAsset_77 : decode cX7_addAsset 77 = .ok (.iadd, 1) := by decide +kernel
theorem dX7_addAsset_78 : decode cX7_addAsset 78 = .ok (.putfield 58, 3) := by decide +kernel
theorem dX7_addAsset_81 : decode cX7_addAsset 81 = .ok (.return_, 1) := by decide +kernel
theorem dX8_at_0 : decode cX8_at 0 = .ok (.iload_n 1, 1) := by decide +kernel
theorem dX8_at_1 : decode cX8_at 1 = .ok (.ifCond .lt 9, 3) := by decide +kernel
theorem dX8_at_4 : decode cX8_at 4 = .ok (.iload_n 2, 1) := by decide +kernel
theorem dX8_at_5 : decode cX8_at 5 = .ok (.aload_n 0, 1) := by decide +kernel
theorem dX8_at_6 : decode cX8_at 6 = .ok (.arraylength, 1) := by decide +kernel
theorem dX8_at_7 : decode cX8_at 7 = .ok (.if_icmp .le 5, 3) := by decide +kernel
theorem dX8_at_10 : decode cX8_at 10 = .ok (.aconst_null, 1) := by decide +kernel
theorem dX8_at_11 : decode cX8_at 11 = .ok (.areturn, 1) := by decide +kernel
theorem dX8_at_12 : decode cX8_at 12 = .ok (.getstatic 66, 3) := by decide +kernel
theorem dX8_at_15 : decode cX8_at 15 = .ok (.astore_n 3, 1) := by decide +kernel
theorem dX8_at_16 : decode cX8_at 16 = .ok (.aload_n 3, 1) := by decide +kernel
theorem dX8_at_17 : decode cX8_at 17 = .ok (.arraylength, 1) := by decide +kernel
theorem dX8_at_18 : decode cX8_at 18 = .ok (.istore 4, 2) := by decide +kernel
theorem dX8_at_20 : decode cX8_at 20 = .ok (.iconst 0, 1) := by decide +kernel
theorem dX8_at_21 : decode cX8_at 21 = .ok (.istore 5, 2) := by decide +kernel
theorem dX8_at_23 : decode cX8_at 23 = .ok (.iload 5, 2) := by decide +kernel
theorem dX8_at_25 : decode cX8_at 25 = .ok (.iload 4, 2) := by decide +kernel
theorem dX8_at_27 : decode cX8_at 27 = .ok (.if_icmp .ge 97, 3) := by decide +kernel
theorem dX8_at_30 : decode cX8_at 30 = .ok (.aload_n 3, 1) := by decide +kernel
theorem dX8_at_31 : decode cX8_at 31 = .ok (.iload 5, 2) := by decide +kernel
theorem dX8_at_33 : decode cX8_at 33 = .ok (.aaload, 1) := by decide +kernel
theorem dX8_at_34 : decode cX8_at 34 = .ok (.astore 6, 2) := by decide +kernel
theorem dX8_at_36 : decode cX8_at 36 = .ok (.aload 6, 2) := by decide +kernel
theorem dX8_at_38 : decode cX8_at 38 = .ok (.getfield 62, 3) := by decide +kernel
theorem dX8_at_41 : decode cX8_at 41 = .ok (.invokevirtual 69, 3) := by decide +kernel
theorem dX8_at_44 : decode cX8_at 44 = .ok (.iload_n 2, 1) := by decide +kernel
theorem dX8_at_45 : decode cX8_at 45 = .ok (.iload_n 1, 1) := by decide +kernel
theorem dX8_at_46 : decode cX8_at 46 = .ok (.isub, 1) := by decide +kernel
theorem dX8_at_47 : decode cX8_at 47 = .ok (.if_icmp .ne 7, 3) := by decide +kernel
theorem dX8_at_50 : decode cX8_at 50 = .ok (.iconst 1, 1) := by decide +kernel
theorem dX8_at_51 : decode cX8_at 51 = .ok (.goto 4, 3) := by decide +kernel
theorem dX8_at_54 : decode cX8_at 54 = .ok (.iconst 0, 1) := by decide +kernel
theorem dX8_at_55 : decode cX8_at 55 = .ok (.istore 7, 2) := by decide +kernel
theorem dX8_at_57 : decode cX8_at 57 = .ok (.iconst 0, 1) := by decide +kernel
theorem dX8_at_58 : decode cX8_at 58 = .ok (.istore 8, 2) := by decide +kernel
theorem dX8_at_60 : decode cX8_at 60 = .ok (.iload 7, 2) := by decide +kernel
theorem dX8_at_62 : decode cX8_at 62 = .ok (.ifCond .eq 48, 3) := by decide +kernel
theorem dX8_at_65 : decode cX8_at 65 = .ok (.iload 8, 2) := by decide +kernel
theorem dX8_at_67 : decode cX8_at 67 = .ok (.aload 6, 2) := by decide +kernel
theorem dX8_at_69 : decode cX8_at 69 = .ok (.getfield 62, 3) := by decide +kernel
theorem dX8_at_72 : decode cX8_at 72 = .ok (.invokevirtual 69, 3) := by decide +kernel
theorem dX8_at_75 : decode cX8_at 75 = .ok (.if_icmp .ge 35, 3) := by decide +kernel
theorem dX8_at_78 : decode cX8_at 78 = .ok (.aload_n 0, 1) := by decide +kernel
theorem dX8_at_79 : decode cX8_at 79 = .ok (.iload_n 1, 1) := by decide +kernel
theorem dX8_at_80 : decode cX8_at 80 = .ok (.iload 8, 2) := by decide +kernel
theorem dX8_at_82 : decode cX8_at 82 = .ok (.iadd, 1) := by decide +kernel
theorem dX8_at_83 : decode cX8_at 83 = .ok (.baload, 1) := by decide +kernel
theorem dX8_at_84 : decode cX8_at 84 = .ok (.aload 6, 2) := by decide +kernel
theorem dX8_at_86 : decode cX8_at 86 = .ok (.getfield 62, 3) := by decide +kernel
theorem dX8_at_89 : decode cX8_at 89 = .ok (.iload 8, 2) := by decide +kernel
theorem dX8_at_91 : decode cX8_at 91 = .ok (.invokevirtual 75, 3) := by decide +kernel
theorem dX8_at_94 : decode cX8_at 94 = .ok (.if_icmp .ne 7, 3) := by decide +kernel
theorem dX8_at_97 : decode cX8_at 97 = .ok (.iconst 1, 1) := by decide +kernel
theorem dX8_at_98 : decode cX8_at 98 = .ok (.goto 4, 3) := by decide +kernel
theorem dX8_at_101 : decode cX8_at 101 = .ok (.iconst 0, 1) := by decide +kernel
theorem dX8_at_102 : decode cX8_at 102 = .ok (.istore 7, 2) := by decide +kernel
theorem dX8_at_104 : decode cX8_at 104 = .ok (.iinc 8 1, 3) := by decide +kernel
theorem dX8_at_107 : decode cX8_at 107 = .ok (.goto (-47), 3) := by decide +kernel
theorem dX8_at_110 : decode cX8_at 110 = .ok (.iload 7, 2) := by decide +kernel
theorem dX8_at_112 : decode cX8_at 112 = .ok (.ifCond .eq 6, 3) := by decide +kernel
theorem dX8_at_115 : decode cX8_at 115 = .ok (.aload 6, 2) := by decide +kernel
theorem dX8_at_117 : decode cX8_at 117 = .ok (.areturn, 1) := by decide +kernel
theorem dX8_at_118 : decode cX8_at 118 = .ok (.iinc 5 1, 3) := by decide +kernel
theorem dX8_at_121 : decode cX8_at 121 = .ok (.goto (-98), 3) := by decide +kernel
theorem dX8_at_124 : decode cX8_at 124 = .ok (.aconst_null, 1) := by decide +kernel
theorem dX8_at_125 : decode cX8_at 125 = .ok (.areturn, 1) := by decide +kernel
theorem dX9_init_0 : decode cX9_init 0 = .ok (.aload_n 0, 1) := by decide +kernel
theorem dX9_init_1 : decode cX9_init 1 = .ok (.invokespecial 1, 3) := by decide +kernel
theorem dX9_init_4 : decode cX9_init 4 = .ok (.aload_n 0, 1) := by decide +kernel
theorem dX9_init_5 : decode cX9_init 5 = .ok (.sipush 700, 3) := by decide +kernel
theorem dX9_init_8 : decode cX9_init 8 = .ok (.newarray .byte, 2) := by decide +kernel
theorem dX9_init_10 : decode cX9_init 10 = .ok (.putfield 9, 3) := by decide +kernel
theorem dX9_init_13 : decode cX9_init 13 = .ok (.aload_n 0, 1) := by decide +kernel
theorem dX9_init_14 : decode cX9_init 14 = .ok (.new 13, 3) := by decide +kernel
theorem dX9_init_17 : decode cX9_init 17 = .ok (.dup, 1) := by decide +kernel
theorem dX9_init_18 : decode cX9_init 18 = .ok (.invokespecial 15, 3) := by decide +kernel
theorem dX9_init_21 : decode cX9_init 21 = .ok (.putfield 16, 3) := by decide +kernel
theorem dX9_init_24 : decode cX9_init 24 = .ok (.aload_n 0, 1) := by decide +kernel
theorem dX9_init_25 : decode cX9_init 25 = .ok (.new 20, 3) := by decide +kernel
theorem dX9_init_28 : decode cX9_init 28 = .ok (.dup, 1) := by decide +kernel
theorem dX9_init_29 : decode cX9_init 29 = .ok (.invokespecial 22, 3) := by decide +kernel
theorem dX9_init_32 : decode cX9_init 32 = .ok (.putfield 23, 3) := by decide +kernel
theorem dX9_init_35 : decode cX9_init 35 = .ok (.aload_n 0, 1) := by decide +kernel
theorem dX9_init_36 : decode cX9_init 36 = .ok (.new 27, 3) := by decide +kernel
theorem dX9_init_39 : decode cX9_init 39 = .ok (.dup, 1) := by decide +kernel
theorem dX9_init_40 : decode cX9_init 40 = .ok (.invokespecial 29, 3) := by decide +kernel
theorem dX9_init_43 : decode cX9_init 43 = .ok (.putfield 30, 3) := by decide +kernel
theorem dX9_init_46 : decode cX9_init 46 = .ok (.aload_n 0, 1) := by decide +kernel
theorem dX9_init_47 : decode cX9_init 47 = .ok (.new 27, 3) := by decide +kernel
theorem dX9_init_50 : decode cX9_init 50 = .ok (.dup, 1) := by decide +kernel
theorem dX9_init_51 : decode cX9_init 51 = .ok (.invokespecial 29, 3) := by decide +kernel
theorem dX9_init_54 : decode cX9_init 54 = .ok (.putfield 34, 3) := by decide +kernel
theorem dX9_init_57 : decode cX9_init 57 = .ok (.aload_n 0, 1) := by decide +kernel
theorem dX9_init_58 : decode cX9_init 58 = .ok (.new 37, 3) := by decide +kernel
theorem dX9_init_61 : decode cX9_init 61 = .ok (.dup, 1) := by decide +kernel
theorem dX9_init_62 : decode cX9_init 62 = .ok (.invokespecial 39, 3) := by decide +kernel
theorem dX9_init_65 : decode cX9_init 65 = .ok (.putfield 40, 3) := by decide +kernel
theorem dX9_init_68 : decode cX9_init 68 = .ok (.return_, 1) := by decide +kernel
theorem dX9_feed_0 : decode cX9_feed 0 = .ok (.aload_n 0, 1) := by decide +kernel
theorem dX9_feed_1 : decode cX9_feed 1 = .ok (.getfield 44, 3) := by decide +kernel
theorem dX9_feed_4 : decode cX9_feed 4 = .ok (.bipush 20, 2) := by decide +kernel
theorem dX9_feed_6 : decode cX9_feed 6 = .ok (.iadd, 1) := by decide +kernel
theorem dX9_feed_7 : decode cX9_feed 7 = .ok (.sipush 700, 3) := by decide +kernel
theorem dX9_feed_10 : decode cX9_feed 10 = .ok (.if_icmp .le 5, 3) := by decide +kernel
theorem dX9_feed_13 : decode cX9_feed 13 = .ok (.iconst (-1), 1) := by decide +kernel
theorem dX9_feed_14 : decode cX9_feed 14 = .ok (.ireturn, 1) := by decide +kernel
theorem dX9_feed_15 : decode cX9_feed 15 = .ok (.aload_n 0, 1) := by decide +kernel
theorem dX9_feed_16 : decode cX9_feed 16 = .ok (.iload_n 1, 1) := by decide +kernel
theorem dX9_feed_17 : decode cX9_feed 17 = .ok (.invokevirtual 48, 3) := by decide +kernel
theorem dX9_feed_20 : decode cX9_feed 20 = .ok (.aload_n 0, 1) := by decide +kernel
theorem dX9_feed_21 : decode cX9_feed 21 = .ok (.iload_n 2, 1) := by decide +kernel
theorem dX9_feed_22 : decode cX9_feed 22 = .ok (.invokevirtual 48, 3) := by decide +kernel
theorem dX9_feed_25 : decode cX9_feed 25 = .ok (.aload_n 0, 1) := by decide +kernel
theorem dX9_feed_26 : decode cX9_feed 26 = .ok (.iload_n 3, 1) := by decide +kernel
theorem dX9_feed_27 : decode cX9_feed 27 = .ok (.invokevirtual 48, 3) := by decide +kernel
theorem dX9_feed_30 : decode cX9_feed 30 = .ok (.aload_n 0, 1) := by decide +kernel
theorem dX9_feed_31 : decode cX9_feed 31 = .ok (.iload 4, 2) := by decide +kernel
theorem dX9_feed_33 : decode cX9_feed 33 = .ok (.invokevirtual 48, 3) := by decide +kernel
theorem dX9_feed_36 : decode cX9_feed 36 = .ok (.aload_n 0, 1) := by decide +kernel
theorem dX9_feed_37 : decode cX9_feed 37 = .ok (.iload 5, 2) := by decide +kernel
theorem dX9_feed_39 : decode cX9_feed 39 = .ok (.invokevirtual 48, 3) := by decide +kernel
theorem dX9_feed_42 : decode cX9_feed 42 = .ok (.aload_n 0, 1) := by decide +kernel
theorem dX9_feed_43 : decode cX9_feed 43 = .ok (.getfield 44, 3) := by decide +kernel
theorem dX9_feed_46 : decode cX9_feed 46 = .ok (.ireturn, 1) := by decide +kernel
theorem dX9_addFourBytes_0 : decode cX9_addFourBytes 0 = .ok (.bipush 24, 2) := by decide +kernel
theorem dX9_addFourBytes_2 : decode cX9_addFourBytes 2 = .ok (.istore_n 2, 1) := by decide +kernel
theorem dX9_addFourBytes_3 : decode cX9_addFourBytes 3 = .ok (.iload_n 2, 1) := by decide +kernel
theorem dX9_addFourBytes_4 : decode cX9_addFourBytes 4 = .ok (.ifCond .lt 44, 3) := by decide +kernel
theorem dX9_addFourBytes_7 : decode cX9_addFourBytes 7 = .ok (.aload_n 0, 1) := by decide +kernel
theorem dX9_addFourBytes_8 : decode cX9_addFourBytes 8 = .ok (.getfield 44, 3) := by decide +kernel
theorem dX9_addFourBytes_11 : decode cX9_addFourBytes 11 = .ok (.aload_n 0, 1) := by decide +kernel
theorem dX9_addFourBytes_12 : decode cX9_addFourBytes 12 = .ok (.getfield 9, 3) := by decide +kernel
theorem dX9_addFourBytes_15 : decode cX9_addFourBytes 15 = .ok (.arraylength, 1) := by decide +kernel
theorem dX9_addFourBytes_16 : decode cX9_addFourBytes 16 = .ok (.if_icmp .ge 26, 3) := by decide +kernel
theorem dX9_addFourBytes_19 : decode cX9_addFourBytes 19 = .ok (.aload_n 0, 1) := by decide +kernel
theorem dX9_addFourBytes_20 : decode cX9_addFourBytes 20 = .ok (.getfield 9, 3) := by decide +kernel
theorem dX9_addFourBytes_23 : decode cX9_addFourBytes 23 = .ok (.aload_n 0, 1) := by decide +kernel
theorem dX9_addFourBytes_24 : decode cX9_addFourBytes 24 = .ok (.getfield 44, 3) := by decide +kernel
theorem dX9_addFourBytes_27 : decode cX9_addFourBytes 27 = .ok (.iload_n 1, 1) := by decide +kernel
theorem dX9_addFourBytes_28 : decode cX9_addFourBytes 28 = .ok (.iload_n 2, 1) := by decide +kernel
theorem dX9_addFourBytes_29 : decode cX9_addFourBytes 29 = .ok (.ishr, 1) := by decide +kernel
theorem dX9_addFourBytes_30 : decode cX9_addFourBytes 30 = .ok (.i2b, 1) := by decide +kernel
theorem dX9_addFourBytes_31 : decode cX9_addFourBytes 31 = .ok (.bastore, 1) := by decide +kernel
theorem dX9_addFourBytes_32 : decode cX9_addFourBytes 32 = .ok (.aload_n 0, 1) := by decide +kernel
theorem dX9_addFourBytes_33 : decode cX9_addFourBytes 33 = .ok (.dup, 1) := by decide +kernel
theorem dX9_addFourBytes_34 : decode cX9_addFourBytes 34 = .ok (.getfield 44, 3) := by decide +kernel
theorem dX9_addFourBytes_37 : decode cX9_addFourBytes 37 = .ok (.iconst 1, 1) := by decide +kernel
theorem dX9_addFourBytes_38 : decode cX9_addFourBytes 38 = .ok (.iadd, 1) := by decide +kernel
theorem dX9_addFourBytes_39 : decode cX9_addFourBytes 39 = .ok (.putfield 44, 3) := by decide +kernel
theorem dX9_addFourBytes_42 : decode cX9_addFourBytes 42 = .ok (.iinc 2 (-8), 3) := by decide +kernel
theorem dX9_addFourBytes_45 : decode cX9_addFourBytes 45 = .ok (.goto (-42), 3) := by decide +kernel
theorem dX9_addFourBytes_48 : decode cX9_addFourBytes 48 = .ok (.return_, 1) := by decide +kernel
theorem dX9_text_0 : decode cX9_text 0 = .ok (.iload_n 1, 1) := by decide +kernel
theorem dX9_text_1 : decode cX9_text 1 = .ok (.ifCond .lt 11, 3) := by decide +kernel
theorem dX9_text_4 : decode cX9_text 4 = .ok (.iload_n 1, 1) := by decide +kernel
theorem dX9_text_5 : decode cX9_text 5 = .ok (.aload_n 0, 1) := by decide +kernel
theorem dX9_text_6 : decode cX9_text 6 = .ok (.getfield 44, 3) := by decide +kernel
theorem dX9_text_9 : decode cX9_text 9 = .ok (.if_icmp .le 6, 3) := by decide +kernel
theorem dX9_text_12 : decode cX9_text 12 = .ok (.bipush (-2), 2) := by decide +kernel
theorem dX9_text_14 : decode cX9_text 14 = .ok (.ireturn, 1) := by decide +kernel
theorem dX9_text_15 : decode cX9_text 15 = .ok (.aload_n 0, 1) := by decide +kernel
theorem dX9_text_16 : decode cX9_text 16 = .ok (.iconst 0, 1) := by decide +kernel
theorem dX9_text_17 : decode cX9_text 17 = .ok (.putfield 44, 3) := by decide +kernel
theorem dX9_text_20 : decode cX9_text 20 = .ok (.aload_n 0, 1) := by decide +kernel
theorem dX9_text_21 : decode cX9_text 21 = .ok (.getfield 16, 3) := by decide +kernel
theorem dX9_text_24 : decode cX9_text 24 = .ok (.aload_n 0, 1) := by decide +kernel
theorem dX9_text_25 : decode cX9_text 25 = .ok (.getfield 9, 3) := by decide +kernel
theorem dX9_text_28 : decode cX9_text 28 = .ok (.iload_n 1, 1) := by decide +kernel
theorem dX9_text_29 : decode cX9_text 29 = .ok (.aload_n 0, 1) := by decide +kernel
theorem dX9_text_30 : decode cX9_text 30 = .ok (.getfield 23, 3) := by decide +kernel
theorem dX9_text_33 : decode cX9_text 33 = .ok (.invokevirtual 52, 3) := by decide +kernel
theorem dX9_text_36 : decode cX9_text 36 = .ok (.istore_n 2, 1) := by decide +kernel
theorem dX9_text_37 : decode cX9_text 37 = .ok (.iload_n 2, 1) := by decide +kernel
theorem dX9_text_38 : decode cX9_text 38 = .ok (.iconst (-1), 1) := by decide +kernel
theorem dX9_text_39 : decode cX9_text 39 = .ok (.if_icmp .eq 39, 3) := by decide +kernel
theorem dX9_text_42 : decode cX9_text 42 = .ok (.aload_n 0, 1) := by decide +kernel
theorem dX9_text_43 : decode cX9_text 43 = .ok (.getfield 23, 3) := by decide +kernel
theorem dX9_text_46 : decode cX9_text 46 = .ok (.astore_n 3, 1) := by decide +kernel
theorem dX9_text_47 : decode cX9_text 47 = .ok (.aload_n 0, 1) := by decide +kernel
theorem dX9_text_48 : decode cX9_text 48 = .ok (.aload_n 0, 1) := by decide +kernel
theorem dX9_text_49 : decode cX9_text 49 = .ok (.getfield 30, 3) := by decide +kernel
theorem dX9_text_52 : decode cX9_text 52 = .ok (.getfield 56, 3) := by decide +kernel
theorem dX9_text_55 : decode cX9_text 55 = .ok (.putfield 23, 3) := by decide +kernel
theorem dX9_text_58 : decode cX9_text 58 = .ok (.aload_n 0, 1) := by decide +kernel
theorem dX9_text_59 : decode cX9_text 59 = .ok (.getfield 30, 3) := by decide +kernel
theorem dX9_text_62 : decode cX9_text 62 = .ok (.aload_n 3, 1) := by decide +kernel
theorem dX9_text_63 : decode cX9_text 63 = .ok (.invokevirtual 59, 3) := by decide +kernel
theorem dX9_text_66 : decode cX9_text 66 = .ok (.aload_n 0, 1) := by decide +kernel
theorem dX9_text_67 : decode cX9_text 67 = .ok (.getfield 40, 3) := by decide +kernel
theorem dX9_text_70 : decode cX9_text 70 = .ok (.invokevirtual 63, 3) := by decide +kernel
theorem dX9_text_73 : decode cX9_text 73 = .ok (.aload_n 0, 1) := by decide +kernel
theorem dX9_text_74 : decode cX9_text 74 = .ok (.iconst 0, 1) := by decide +kernel
theorem dX9_text_75 : decode cX9_text 75 = .ok (.putfield 66, 3) := by decide +kernel
theorem dX9_text_78 : decode cX9_text 78 = .ok (.iload_n 2, 1) := by decide +kernel
theorem dX9_text_79 : decode cX9_text 79 = .ok (.ireturn, 1) := by decide +kernel
theorem dX9_fault_0 : decode cX9_fault 0 = .ok (.iload_n 1, 1) := by decide +kernel
theorem dX9_fault_1 : decode cX9_fault 1 = .ok (.lookupswitch 43 #[(0, 27), (1, 35)], 27) := by decide +kernel
theorem dX9_fault_28 : decode cX9_fault 28 = .ok (.aload_n 0, 1) := by decide +kernel
theorem dX9_fault_29 : decode cX9_fault 29 = .ok (.getfield 16, 3) := by decide +kernel
theorem dX9_fault_32 : decode cX9_fault 32 = .ok (.getfield 70, 3) := by decide +kernel
theorem dX9_fault_35 : decode cX9_fault 35 = .ok (.ireturn, 1) := by decide +kernel
theorem dX9_fault_36 : decode cX9_fault 36 = .ok (.aload_n 0, 1) := by decide +kernel
theorem dX9_fault_37 : decode cX9_fault 37 = .ok (.getfield 16, 3) := by decide +kernel
theorem dX9_fault_40 : decode cX9_fault 40 = .ok (.getfield 73, 3) := by decide +kernel
theorem dX9_fault_43 : decode cX9_fault 43 = .ok (.ireturn, 1) := by decide +kernel
theorem dX9_fault_44 : decode cX9_fault 44 = .ok (.iconst (-1), 1) := by decide +kernel
theorem dX9_fault_45 : decode cX9_fault 45 = .ok (.ireturn, 1) := by decide +kernel
theorem dX9_named_0 : decode cX9_named 0 = .ok (.aload_n 0, 1) := by decide +kernel
theorem dX9_named_1 : decode cX9_named 1 = .ok (.getfield 30, 3) := by decide +kernel
theorem dX9_named_4 : decode cX9_named 4 = .ok (.getfield 56, 3) := by decide +kernel
theorem dX9_named_7 : decode cX9_named 7 = .ok (.iload_n 1, 1) := by decide +kernel
theorem dX9_named_8 : decode cX9_named 8 = .ok (.invokevirtual 76, 3) := by decide +kernel
theorem dX9_named_11 : decode cX9_named 11 = .ok (.ireturn, 1) := by decide +kernel
theorem dX9_trader_0 : decode cX9_trader 0 = .ok (.aload_n 0, 1) := by decide +kernel
theorem dX9_trader_1 : decode cX9_trader 1 = .ok (.iload_n 1, 1) := by decide +kernel
theorem dX9_trader_2 : decode cX9_trader 2 = .ok (.invokevirtual 80, 3) := by decide +kernel
theorem dX9_trader_5 : decode cX9_trader 5 = .ok (.ifCond .ne 13, 3) := by decide +kernel
theorem dX9_trader_8 : decode cX9_trader 8 = .ok (.new 84, 3) := by decide +kernel
theorem dX9_trader_11 : decode cX9_trader 11 = .ok (.dup, 1) := by decide +kernel
theorem dX9_trader_12 : decode cX9_trader 12 = .ok (.ldc 86, 2) := by decide +kernel
theorem dX9_trader_14 : decode cX9_trader 14 = .ok (.invokespecial 88, 3) := by decide +kernel
theorem dX9_trader_17 : decode cX9_trader 17 = .ok (.athrow, 1) := by decide +kernel
theorem dX9_trader_18 : decode cX9_trader 18 = .ok (.iload_n 2, 1) := by decide +kernel
theorem dX9_trader_19 : decode cX9_trader 19 = .ok (.tableswitch 114 0 5 #[37, 50, 63, 76, 89, 102], 37) := by decide +kernel
theorem dX9_trader_56 : decode cX9_trader 56 = .ok (.aload_n 0, 1) := by decide +kernel
theorem dX9_trader_57 : decode cX9_trader 57 = .ok (.getfield 30, 3) := by decide +kernel
theorem dX9_trader_60 : decode cX9_trader 60 = .ok (.getfield 56, 3) := by decide +kernel
theorem dX9_trader_63 : decode cX9_trader 63 = .ok (.getfield 91, 3) := by decide +kernel
theorem dX9_trader_66 : decode cX9_trader 66 = .ok (.iload_n 1, 1) := by decide +kernel
theorem dX9_trader_67 : decode cX9_trader 67 = .ok (.iaload, 1) := by decide +kernel
theorem dX9_trader_68 : decode cX9_trader 68 = .ok (.ireturn, 1) := by decide +kernel
theorem dX9_trader_69 : decode cX9_trader 69 = .ok (.aload_n 0, 1) := by decide +kernel
theorem dX9_trader_70 : decode cX9_trader 70 = .ok (.getfield 30, 3) := by decide +kernel
theorem dX9_trader_73 : decode cX9_trader 73 = .ok (.getfield 56, 3) := by decide +kernel
theorem dX9_trader_76 : decode cX9_trader 76 = .ok (.getfield 95, 3) := by decide +kernel
theorem dX9_trader_79 : decode cX9_trader 79 = .ok (.iload_n 1, 1) := by decide +kernel
theorem dX9_trader_80 : decode cX9_trader 80 = .ok (.iaload, 1) := by decide +kernel
theorem dX9_trader_81 : decode cX9_trader 81 = .ok (.ireturn, 1) := by decide +kernel
theorem dX9_trader_82 : decode cX9_trader 82 = .ok (.aload_n 0, 1) := by decide +kernel
theorem dX9_trader_83 : decode cX9_trader 83 = .ok (.getfield 30, 3) := by decide +kernel
theorem dX9_trader_86 : decode cX9_trader 86 = .ok (.getfield 98, 3) := by decide +kernel
theorem dX9_trader_89 : decode cX9_trader 89 = .ok (.getfield 102, 3) := by decide +kernel
theorem dX9_trader_92 : decode cX9_trader 92 = .ok (.iload_n 1, 1) := by decide +kernel
theorem dX9_trader_93 : decode cX9_trader 93 = .ok (.iaload, 1) := by decide +kernel
theorem dX9_trader_94 : decode cX9_trader 94 = .ok (.ireturn, 1) := by decide +kernel
theorem dX9_trader_95 : decode cX9_trader 95 = .ok (.aload_n 0, 1) := by decide +kernel
theorem dX9_trader_96 : decode cX9_trader 96 = .ok (.getfield 30, 3) := by decide +kernel
theorem dX9_trader_99 : decode cX9_trader 99 = .ok (.getfield 98, 3) := by decide +kernel
theorem dX9_trader_102 : decode cX9_trader 102 = .ok (.getfield 107, 3) := by decide +kernel
theorem dX9_trader_105 : decode cX9_trader 105 = .ok (.iload_n 1, 1) := by decide +kernel
theorem dX9_trader_106 : decode cX9_trader 106 = .ok (.iaload, 1) := by decide +kernel
theorem dX9_trader_107 : decode cX9_trader 107 = .ok (.ireturn, 1) := by decide +kernel
theorem dX9_trader_108 : decode cX9_trader 108 = .ok (.aload_n 0, 1) := by decide +kernel
theorem dX9_trader_109 : decode cX9_trader 109 = .ok (.getfield 30, 3) := by decide +kernel
theorem dX9_trader_112 : decode cX9_trader 112 = .ok (.getfield 56, 3) := by decide +kernel
theorem dX9_trader_115 : decode cX9_trader 115 = .ok (.getfield 110, 3) := by decide +kernel
theorem dX9_trader_118 : decode cX9_trader 118 = .ok (.iload_n 1, 1) := by decide +kernel
theorem dX9_trader_119 : decode cX9_trader 119 = .ok (.iaload, 1) := by decide +kernel
theorem dX9_trader_120 : decode cX9_trader 120 = .ok (.ireturn, 1) := by decide +kernel
theorem dX9_trader_121 : decode cX9_trader 121 = .ok (.aload_n 0, 1) := by decide +kernel
theorem dX9_trader_122 : decode cX9_trader 122 = .ok (.getfield 30, 3) := by decide +kernel
theorem dX9_trader_125 : decode cX9_trader 125 = .ok (.getfield 98, 3) := by decide +kernel
theorem dX9_trader_128 : decode cX9_trader 128 = .ok (.iload_n 1, 1) := by decide +kernel
theorem dX9_trader_129 : decode cX9_trader 129 = .ok (.invokevirtual 113, 3) := by decide +kernel
theorem dX9_trader_132 : decode cX9_trader 132 = .ok (.ireturn, 1) := by decide +kernel
theorem dX9_trader_133 : decode cX9_trader 133 = .ok (.new 116, 3) := by decide +kernel
theorem dX9_trader_136 : decode cX9_trader 136 = .ok (.dup, 1) := by decide +kernel
theorem dX9_trader_137 : decode cX9_trader 137 = .ok (.ldc 118, 2) := by decide +kernel
theorem dX9_trader_139 : decode cX9_trader 139 = .ok (.invokespecial 120, 3) := by decide +kernel
theorem dX9_trader_142 : decode cX9_trader 142 = .ok (.athrow, 1) := by decide +kernel
theorem dX9_asset_0 : decode cX9_asset 0 = .ok (.aload_n 0, 1) := by decide +kernel
theorem dX9_asset_1 : decode cX9_asset 1 = .ok (.iload_n 1, 1) := by decide +kernel
theorem dX9_asset_2 : decode cX9_asset 2 = .ok (.invokevirtual 121, 3) := by decide +kernel
theorem dX9_asset_5 : decode cX9_asset 5 = .ok (.ifCond .ne 5, 3) := by decide +kernel
theorem dX9_asset_8 : decode cX9_asset 8 = .ok (.iconst (-1), 1) := by decide +kernel
theorem dX9_asset_9 : decode cX9_asset 9 = .ok (.ireturn, 1) := by decide +kernel
theorem dX9_asset_10 : decode cX9_asset 10 = .ok (.aload_n 0, 1) := by decide +kernel
theorem dX9_asset_11 : decode cX9_asset 11 = .ok (.getfield 30, 3) := by decide +kernel
theorem dX9_asset_14 : decode cX9_asset 14 = .ok (.getfield 98, 3) := by decide +kernel
theorem dX9_asset_17 : decode cX9_asset 17 = .ok (.getfield 124, 3) := by decide +kernel
theorem dX9_asset_20 : decode cX9_asset 20 = .ok (.iload_n 1, 1) := by decide +kernel
theorem dX9_asset_21 : decode cX9_asset 21 = .ok (.aaload, 1) := by decide +kernel
theorem dX9_asset_22 : decode cX9_asset 22 = .ok (.astore_n 3, 1) := by decide +kernel
theorem dX9_asset_23 : decode cX9_asset 23 = .ok (.iload_n 2, 1) := by decide +kernel
theorem dX9_asset_24 : decode cX9_asset 24 = .ok (.tableswitch 138 0 9 #[56, 61, 66, 71, 76, 81, 98, 103, 116, 121], 56) := by decide +kernel
theorem dX9_asset_80 : decode cX9_asset 80 = .ok (.aload_n 3, 1) := by decide +kernel
theorem dX9_asset_81 : decode cX9_asset 81 = .ok (.getfield 128, 3) := by decide +kernel
theorem dX9_asset_84 : decode cX9_asset 84 = .ok (.ireturn, 1) := by decide +kernel
theorem dX9_asset_85 : decode cX9_asset 85 = .ok (.aload_n 3, 1) := by decide +kernel
theorem dX9_asset_86 : decode cX9_asset 86 = .ok (.getfield 133, 3) := by decide +kernel
theorem dX9_asset_89 : decode cX9_asset 89 = .ok (.ireturn, 1) := by decide +kernel
theorem dX9_asset_90 : decode cX9_asset 90 = .ok (.aload_n 3, 1) := by decide +kernel
theorem dX9_asset_91 : decode cX9_asset 91 = .ok (.getfield 136, 3) := by decide +kernel
theorem dX9_asset_94 : decode cX9_asset 94 = .ok (.ireturn, 1) := by decide +kernel
theorem dX9_asset_95 : decode cX9_asset 95 = .ok (.aload_n 3, 1) := by decide +kernel
theorem dX9_asset_96 : decode cX9_asset 96 = .ok (.getfield 139, 3) := by decide +kernel
theorem dX9_asset_99 : decode cX9_asset 99 = .ok (.ireturn, 1) := by decide +kernel
theorem dX9_asset_100 : decode cX9_asset 100 = .ok (.aload_n 3, 1) := by decide +kernel
theorem dX9_asset_101 : decode cX9_asset 101 = .ok (.getfield 142, 3) := by decide +kernel
theorem dX9_asset_104 : decode cX9_asset 104 = .ok (.ireturn, 1) := by decide +kernel
theorem dX9_asset_105 : decode cX9_asset 105 = .ok (.aload_n 3, 1) := by decide +kernel
theorem dX9_asset_106 : decode cX9_asset 106 = .ok (.getfield 145, 3) := by decide +kernel
theorem dX9_asset_109 : decode cX9_asset 109 = .ok (.ifCond .le 10, 3) := by decide +kernel
theorem dX9_asset_112 : decode cX9_asset 112 = .ok (.aload_n 3, 1) := by decide +kernel
theorem dX9_asset_113 : decode cX9_asset 113 = .ok (.getfield 148, 3) := by decide +kernel
theorem dX9_asset_116 : decode cX9_asset 116 = .ok (.goto 5, 3) := by decide +kernel
theorem dX9_asset_119 : decode cX9_asset 119 = .ok (.bipush (-2), 2) := by decide +kernel
theorem dX9_asset_121 : decode cX9_asset 121 = .ok (.ireturn, 1) := by decide +kernel
theorem dX9_asset_122 : decode cX9_asset 122 = .ok (.aload_n 3, 1) := by decide +kernel
theorem dX9_asset_123 : decode cX9_asset 123 = .ok (.getfield 151, 3) := by decide +kernel
theorem dX9_asset_126 : decode cX9_asset 126 = .ok (.ireturn, 1) := by decide +kernel
theorem dX9_asset_127 : decode cX9_asset 127 = .ok (.aload_n 3, 1) := by decide +kernel
theorem dX9_asset_128 : decode cX9_asset 128 = .ok (.getfield 154, 3) := by decide +kernel
theorem dX9_asset_131 : decode cX9_asset 131 = .ok (.ifCond .eq 7, 3) := by decide +kernel
theorem dX9_asset_134 : decode cX9_asset 134 = .ok (.iconst 1, 1) := by decide +kernel
theorem dX9_asset_135 : decode cX9_asset 135 = .ok (.goto 4, 3) := by decide +kernel
theorem dX9_asset_138 : decode cX9_asset 138 = .ok (.iconst 0, 1) := by decide +kernel
theorem dX9_asset_139 : decode cX9_asset 139 = .ok (.ireturn, 1) := by decide +kernel
theorem dX9_asset_140 : decode cX9_asset 140 = .ok (.aload_n 3, 1) := by decide +kernel
theorem dX9_asset_141 : decode cX9_asset 141 = .ok (.getfield 157, 3) := by decide +kernel
theorem dX9_asset_144 : decode cX9_asset 144 = .ok (.ireturn, 1) := by decide +kernel
theorem dX9_asset_145 : decode cX9_asset 145 = .ok (.aload_n 3, 1) := by decide +kernel
theorem dX9_asset_146 : decode cX9_asset 146 = .ok (.getfield 145, 3) := by decide +kernel
theorem dX9_asset_149 : decode cX9_asset 149 = .ok (.ifCond .le 10, 3) := by decide +kernel
theorem dX9_asset_152 : decode cX9_asset 152 = .ok (.aload_n 3, 1) := by decide +kernel
theorem dX9_asset_153 : decode cX9_asset 153 = .ok (.getfield 160, 3) := by decide +kernel
theorem dX9_asset_156 : decode cX9_asset 156 = .ok (.goto 5, 3) := by decide +kernel
theorem dX9_asset_159 : decode cX9_asset 159 = .ok (.bipush (-2), 2) := by decide +kernel
theorem dX9_asset_161 : decode cX9_asset 161 = .ok (.ireturn, 1) := by decide +kernel
theorem dX9_asset_162 : decode cX9_asset 162 = .ok (.iconst (-1), 1) := by decide +kernel
theorem dX9_asset_163 : decode cX9_asset 163 = .ok (.ireturn, 1) := by decide +kernel
theorem dX9_sale_0 : decode cX9_sale 0 = .ok (.aload_n 0, 1) := by decide +kernel
theorem dX9_sale_1 : decode cX9_sale 1 = .ok (.iload_n 1, 1) := by decide +kernel
theorem dX9_sale_2 : decode cX9_sale 2 = .ok (.invokevirtual 80, 3) := by decide +kernel
theorem dX9_sale_5 : decode cX9_sale 5 = .ok (.ifCond .eq 22, 3) := by decide +kernel
theorem dX9_sale_8 : decode cX9_sale 8 = .ok (.iload_n 2, 1) := by decide +kernel
theorem dX9_sale_9 : decode cX9_sale 9 = .ok (.iconst 0, 1) := by decide +kernel
theorem dX9_sale_10 : decode cX9_sale 10 = .ok (.iconst 1, 1) := by decide +kernel
theorem dX9_sale_11 : decode cX9_sale 11 = .ok (.invokestatic 163, 3) := by decide +kernel
theorem dX9_sale_14 : decode cX9_sale 14 = .ok (.ifCond .eq 13, 3) := by decide +kernel
theorem dX9_sale_17 : decode cX9_sale 17 = .ok (.iload_n 3, 1) := by decide +kernel
theorem dX9_sale_18 : decode cX9_sale 18 = .ok (.iconst 1, 1) := by decide +kernel
theorem dX9_sale_19 : decode cX9_sale 19 = .ok (.ldc 167, 2) := by decide +kernel
theorem dX9_sale_21 : decode cX9_sale 21 = .ok (.invokestatic 163, 3) := by decide +kernel
theorem dX9_sale_24 : decode cX9_sale 24 = .ok (.ifCond .ne 5, 3) := by decide +kernel
theorem dX9_sale_27 : decode cX9_sale 27 = .ok (.iconst (-1), 1) := by decide +kernel
theorem dX9_sale_28 : decode cX9_sale 28 = .ok (.ireturn, 1) := by decide +kernel
theorem dX9_sale_29 : decode cX9_sale 29 = .ok (.aload_n 0, 1) := by decide +kernel
theorem dX9_sale_30 : decode cX9_sale 30 = .ok (.getfield 40, 3) := by decide +kernel
theorem dX9_sale_33 : decode cX9_sale 33 = .ok (.aload_n 0, 1) := by decide +kernel
theorem dX9_sale_34 : decode cX9_sale 34 = .ok (.getfield 30, 3) := by decide +kernel
theorem dX9_sale_37 : decode cX9_sale 37 = .ok (.getfield 98, 3) := by decide +kernel
theorem dX9_sale_40 : decode cX9_sale 40 = .ok (.invokevirtual 168, 3) := by decide +kernel
theorem dX9_sale_43 : decode cX9_sale 43 = .ok (.aload_n 0, 1) := by decide +kernel
theorem dX9_sale_44 : decode cX9_sale 44 = .ok (.getfield 30, 3) := by decide +kernel
theorem dX9_sale_47 : decode cX9_sale 47 = .ok (.getfield 98, 3) := by decide +kernel
theorem dX9_sale_50 : decode cX9_sale 50 = .ok (.iload_n 1, 1) := by decide +kernel
theorem dX9_sale_51 : decode cX9_sale 51 = .ok (.aload_n 0, 1) := by decide +kernel
theorem dX9_sale_52 : decode cX9_sale 52 = .ok (.getfield 30, 3) := by decide +kernel
theorem dX9_sale_55 : decode cX9_sale 55 = .ok (.getfield 98, 3) := by decide +kernel
theorem dX9_sale_58 : decode cX9_sale 58 = .ok (.getfield 172, 3) := by decide +kernel
theorem dX9_sale_61 : decode cX9_sale 61 = .ok (.iload_n 2, 1) := by decide +kernel
theorem dX9_sale_62 : decode cX9_sale 62 = .ok (.iload_n 3, 1) := by decide +kernel
theorem dX9_sale_63 : decode cX9_sale 63 = .ok (.invokevirtual 175, 3) := by decide +kernel
theorem dX9_sale_66 : decode cX9_sale 66 = .ok (.ireturn, 1) := by decide +kernel
theorem dX9_buy_0 : decode cX9_buy 0 = .ok (.aload_n 0, 1) := by decide +kernel
theorem dX9_buy_1 : decode cX9_buy 1 = .ok (.iload_n 1, 1) := by decide +kernel
theorem dX9_buy_2 : decode cX9_buy 2 = .ok (.invokevirtual 80, 3) := by decide +kernel
theorem dX9_buy_5 : decode cX9_buy 5 = .ok (.ifCond .eq 23, 3) := by decide +kernel
theorem dX9_buy_8 : decode cX9_buy 8 = .ok (.iload_n 2, 1) := by decide +kernel
theorem dX9_buy_9 : decode cX9_buy 9 = .ok (.iconst 0, 1) := by decide +kernel
theorem dX9_buy_10 : decode cX9_buy 10 = .ok (.iconst 2, 1) := by decide +kernel
theorem dX9_buy_11 : decode cX9_buy 11 = .ok (.invokestatic 163, 3) := by decide +kernel
theorem dX9_buy_14 : decode cX9_buy 14 = .ok (.ifCond .eq 14, 3) := by decide +kernel
theorem dX9_buy_17 : decode cX9_buy 17 = .ok (.iload_n 3, 1) := by decide +kernel
theorem dX9_buy_18 : decode cX9_buy 18 = .ok (.iconst 1, 1) := by decide +kernel
theorem dX9_buy_19 : decode cX9_buy 19 = .ok (.sipush 9999, 3) := by decide +kernel
theorem dX9_buy_22 : decode cX9_buy 22 = .ok (.invokestatic 163, 3) := by decide +kernel
theorem dX9_buy_25 : decode cX9_buy 25 = .ok (.ifCond .ne 5, 3) := by decide +kernel
theorem dX9_buy_28 : decode cX9_buy 28 = .ok (.iconst (-1), 1) := by decide +kernel
theorem dX9_buy_29 : decode cX9_buy 29 = .ok (.ireturn, 1) := by decide +kernel
theorem dX9_buy_30 : decode cX9_buy 30 = .ok (.aload_n 0, 1) := by decide +kernel
theorem dX9_buy_31 : decode cX9_buy 31 = .ok (.getfield 40, 3) := by decide +kernel
theorem dX9_buy_34 : decode cX9_buy 34 = .ok (.aload_n 0, 1) := by decide +kernel
theorem dX9_buy_35 : decode cX9_buy 35 = .ok (.getfield 30, 3) := by decide +kernel
theorem dX9_buy_38 : decode cX9_buy 38 = .ok (.getfield 98, 3) := by decide +kernel
theorem dX9_buy_41 : decode cX9_buy 41 = .ok (.invokevirtual 168, 3) := by decide +kernel
theorem dX9_buy_44 : decode cX9_buy 44 = .ok (.aload_n 0, 1) := by decide +kernel
theorem dX9_buy_45 : decode cX9_buy 45 = .ok (.getfield 30, 3) := by decide +kernel
theorem dX9_buy_48 : decode cX9_buy 48 = .ok (.getfield 98, 3) := by decide +kernel
theorem dX9_buy_51 : decode cX9_buy 51 = .ok (.iload_n 1, 1) := by decide +kernel
theorem dX9_buy_52 : decode cX9_buy 52 = .ok (.aload_n 0, 1) := by decide +kernel
theorem dX9_buy_53 : decode cX9_buy 53 = .ok (.getfield 30, 3) := by decide +kernel
theorem dX9_buy_56 : decode cX9_buy 56 = .ok (.getfield 98, 3) := by decide +kernel
theorem dX9_buy_59 : decode cX9_buy 59 = .ok (.getfield 172, 3) := by decide +kernel
theorem dX9_buy_62 : decode cX9_buy 62 = .ok (.iconst 2, 1) := by decide +kernel
theorem dX9_buy_63 : decode cX9_buy 63 = .ok (.iload_n 2, 1) := by decide +kernel
theorem dX9_buy_64 : decode cX9_buy 64 = .ok (.iadd, 1) := by decide +kernel
theorem dX9_buy_65 : decode cX9_buy 65 = .ok (.iload_n 3, 1) := by decide +kernel
theorem dX9_buy_66 : decode cX9_buy 66 = .ok (.invokevirtual 175, 3) := by decide +kernel
theorem dX9_buy_69 : decode cX9_buy 69 = .ok (.ireturn, 1) := by decide +kernel
theorem dX9_late_0 : decode cX9_late 0 = .ok (.aload_n 0, 1) := by decide +kernel
theorem dX9_late_1 : decode cX9_late 1 = .ok (.getfield 30, 3) := by decide +kernel
theorem dX9_late_4 : decode cX9_late 4 = .ok (.getfield 98, 3) := by decide +kernel
theorem dX9_late_7 : decode cX9_late 7 = .ok (.getfield 172, 3) := by decide +kernel
theorem dX9_late_10 : decode cX9_late 10 = .ok (.iconst 4, 1) := by decide +kernel
theorem dX9_late_11 : decode cX9_late 11 = .ok (.idiv, 1) := by decide +kernel
theorem dX9_late_12 : decode cX9_late 12 = .ok (.iconst 4, 1) := by decide +kernel
theorem dX9_late_13 : decode cX9_late 13 = .ok (.imul, 1) := by decide +kernel
theorem dX9_late_14 : decode cX9_late 14 = .ok (.istore 5, 2) := by decide +kernel
theorem dX9_late_16 : decode cX9_late 16 = .ok (.aload_n 0, 1) := by decide +kernel
theorem dX9_late_17 : decode cX9_late 17 = .ok (.iload_n 1, 1) := by decide +kernel
theorem dX9_late_18 : decode cX9_late 18 = .ok (.invokevirtual 80, 3) := by decide +kernel
theorem dX9_late_21 : decode cX9_late 21 = .ok (.ifCond .eq 45, 3) := by decide +kernel
theorem dX9_late_24 : decode cX9_late 24 = .ok (.iload_n 2, 1) := by decide +kernel
theorem dX9_late_25 : decode cX9_late 25 = .ok (.iload 5, 2) := by decide +kernel
theorem dX9_late_27 : decode cX9_late 27 = .ok (.aload_n 0, 1) := by decide +kernel
theorem dX9_late_28 : decode cX9_late 28 = .ok (.getfield 30, 3) := by decide +kernel
theorem dX9_late_31 : decode cX9_late 31 = .ok (.getfield 98, 3) := by decide +kernel
theorem dX9_late_34 : decode cX9_late 34 = .ok (.getfield 172, 3) := by decide +kernel
theorem dX9_late_37 : decode cX9_late 37 = .ok (.iconst 1, 1) := by decide +kernel
theorem dX9_late_38 : decode cX9_late 38 = .ok (.isub, 1) := by decide +kernel
theorem dX9_late_39 : decode cX9_late 39 = .ok (.invokestatic 163, 3) := by decide +kernel
theorem dX9_late_42 : decode cX9_late 42 = .ok (.ifCond .eq 24, 3) := by decide +kernel
theorem dX9_late_45 : decode cX9_late 45 = .ok (.iload_n 3, 1) := by decide +kernel
theorem dX9_late_46 : decode cX9_late 46 = .ok (.iconst 0, 1) := by decide +kernel
theorem dX9_late_47 : decode cX9_late 47 = .ok (.iconst 4, 1) := by decide +kernel
theorem dX9_late_48 : decode cX9_late 48 = .ok (.invokestatic 163, 3) := by decide +kernel
theorem dX9_late_51 : decode cX9_late 51 = .ok (.ifCond .eq 15, 3) := by decide +kernel
theorem dX9_late_54 : decode cX9_late 54 = .ok (.iload 4, 2) := by decide +kernel
theorem dX9_late_56 : decode cX9_late 56 = .ok (.iconst 1, 1) := by decide +kernel
theorem dX9_late_57 : decode cX9_late 57 = .ok (.sipush 9999, 3) := by decide +kernel
theorem dX9_late_60 : decode cX9_late 60 = .ok (.invokestatic 163, 3) := by decide +kernel
theorem dX9_late_63 : decode cX9_late 63 = .ok (.ifCond .ne 5, 3) := by decide +kernel
theorem dX9_late_66 : decode cX9_late 66 = .ok (.iconst (-1), 1) := by decide +kernel
theorem dX9_late_67 : decode cX9_late 67 = .ok (.ireturn, 1) := by decide +kernel
theorem dX9_late_68 : decode cX9_late 68 = .ok (.aload_n 0, 1) := by decide +kernel
theorem dX9_late_69 : decode cX9_late 69 = .ok (.getfield 40, 3) := by decide +kernel
theorem dX9_late_72 : decode cX9_late 72 = .ok (.aload_n 0, 1) := by decide +kernel
theorem dX9_late_73 : decode cX9_late 73 = .ok (.getfield 30, 3) := by decide +kernel
theorem dX9_late_76 : decode cX9_late 76 = .ok (.getfield 98, 3) := by decide +kernel
theorem dX9_late_79 : decode cX9_late 79 = .ok (.invokevirtual 168, 3) := by decide +kernel
theorem dX9_late_82 : decode cX9_late 82 = .ok (.aload_n 0, 1) := by decide +kernel
theorem dX9_late_83 : decode cX9_late 83 = .ok (.getfield 30, 3) := by decide +kernel
theorem dX9_late_86 : decode cX9_late 86 = .ok (.getfield 98, 3) := by decide +kernel
theorem dX9_late_89 : decode cX9_late 89 = .ok (.iload_n 1, 1) := by decide +kernel
theorem dX9_late_90 : decode cX9_late 90 = .ok (.iload_n 2, 1) := by decide +kernel
theorem dX9_late_91 : decode cX9_late 91 = .ok (.iload_n 3, 1) := by decide +kernel
theorem dX9_late_92 : decode cX9_late 92 = .ok (.iload 4, 2) := by decide +kernel
theorem dX9_late_94 : decode cX9_late 94 = .ok (.invokevirtual 175, 3) := by decide +kernel
theorem dX9_late_97 : decode cX9_late 97 = .ok (.ireturn, 1) := by decide +kernel
theorem dX9_heads_0 : decode cX9_heads 0 = .ok (.aload_n 0, 1) := by decide +kernel
theorem dX9_heads_1 : decode cX9_heads 1 = .ok (.iload_n 1, 1) := by decide +kernel
theorem dX9_heads_2 : decode cX9_heads 2 = .ok (.invokevirtual 80, 3) := by decide +kernel
theorem dX9_heads_5 : decode cX9_heads 5 = .ok (.ifCond .eq 23, 3) := by decide +kernel
theorem dX9_heads_8 : decode cX9_heads 8 = .ok (.iload_n 3, 1) := by decide +kernel
theorem dX9_heads_9 : decode cX9_heads 9 = .ok (.iconst 0, 1) := by decide +kernel
theorem dX9_heads_10 : decode cX9_heads 10 = .ok (.sipush 999, 3) := by decide +kernel
theorem dX9_heads_13 : decode cX9_heads 13 = .ok (.invokestatic 163, 3) := by decide +kernel
theorem dX9_heads_16 : decode cX9_heads 16 = .ok (.ifCond .eq 12, 3) := by decide +kernel
theorem dX9_heads_19 : decode cX9_heads 19 = .ok (.iload_n 2, 1) := by decide +kernel
theorem dX9_heads_20 : decode cX9_heads 20 = .ok (.iconst 0, 1) := by decide +kernel
theorem dX9_heads_21 : decode cX9_heads 21 = .ok (.iload_n 3, 1) := by decide +kernel
theorem dX9_heads_22 : decode cX9_heads 22 = .ok (.invokestatic 163, 3) := by decide +kernel
theorem dX9_heads_25 : decode cX9_heads 25 = .ok (.ifCond .ne 5, 3) := by decide +kernel
theorem dX9_heads_28 : decode cX9_heads 28 = .ok (.iconst 0, 1) := by decide +kernel
theorem dX9_heads_29 : decode cX9_heads 29 = .ok (.ireturn, 1) := by decide +kernel
theorem dX9_heads_30 : decode cX9_heads 30 = .ok (.aload_n 0, 1) := by decide +kernel
theorem dX9_heads_31 : decode cX9_heads 31 = .ok (.getfield 40, 3) := by decide +kernel
theorem dX9_heads_34 : decode cX9_heads 34 = .ok (.aload_n 0, 1) := by decide +kernel
theorem dX9_heads_35 : decode cX9_heads 35 = .ok (.getfield 30, 3) := by decide +kernel
theorem dX9_heads_38 : decode cX9_heads 38 = .ok (.getfield 98, 3) := by decide +kernel
theorem dX9_heads_41 : decode cX9_heads 41 = .ok (.invokevirtual 168, 3) := by decide +kernel
theorem dX9_heads_44 : decode cX9_heads 44 = .ok (.aload_n 0, 1) := by decide +kernel
theorem dX9_heads_45 : decode cX9_heads 45 = .ok (.getfield 30, 3) := by decide +kernel
theorem dX9_heads_48 : decode cX9_heads 48 = .ok (.getfield 98, 3) := by decide +kernel
theorem dX9_heads_51 : decode cX9_heads 51 = .ok (.getfield 102, 3) := by decide +kernel
theorem dX9_heads_54 : decode cX9_heads 54 = .ok (.iload_n 1, 1) := by decide +kernel
theorem dX9_heads_55 : decode cX9_heads 55 = .ok (.iload_n 2, 1) := by decide +kernel
theorem dX9_heads_56 : decode cX9_heads 56 = .ok (.iastore, 1) := by decide +kernel
theorem dX9_heads_57 : decode cX9_heads 57 = .ok (.aload_n 0, 1) := by decide +kernel
theorem dX9_heads_58 : decode cX9_heads 58 = .ok (.getfield 30, 3) := by decide +kernel
theorem dX9_heads_61 : decode cX9_heads 61 = .ok (.getfield 98, 3) := by decide +kernel
theorem dX9_heads_64 : decode cX9_heads 64 = .ok (.getfield 107, 3) := by decide +kernel
theorem dX9_heads_67 : decode cX9_heads 67 = .ok (.iload_n 1, 1) := by decide +kernel
theorem dX9_heads_68 : decode cX9_heads 68 = .ok (.iload_n 3, 1) := by decide +kernel
theorem dX9_heads_69 : decode cX9_heads 69 = .ok (.iastore, 1) := by decide +kernel
theorem dX9_heads_70 : decode cX9_heads 70 = .ok (.iconst 1, 1) := by decide +kernel
theorem dX9_heads_71 : decode cX9_heads 71 = .ok (.ireturn, 1) := by decide +kernel
theorem dX9_acquire_0 : decode cX9_acquire 0 = .ok (.aload_n 0, 1) := by decide +kernel
theorem dX9_acquire_1 : decode cX9_acquire 1 = .ok (.iload_n 1, 1) := by decide +kernel
theorem dX9_acquire_2 : decode cX9_acquire 2 = .ok (.invokevirtual 80, 3) := by decide +kernel
theorem dX9_acquire_5 : decode cX9_acquire 5 = .ok (.ifCond .eq 30, 3) := by decide +kernel
theorem dX9_acquire_8 : decode cX9_acquire 8 = .ok (.iload_n 2, 1) := by decide +kernel
theorem dX9_acquire_9 : decode cX9_acquire 9 = .ok (.iconst 0, 1) := by decide +kernel
theorem dX9_acquire_10 : decode cX9_acquire 10 = .ok (.iconst 2, 1) := by decide +kernel
theorem dX9_acquire_11 : decode cX9_acquire 11 = .ok (.invokestatic 163, 3) := by decide +kernel
theorem dX9_acquire_14 : decode cX9_acquire 14 = .ok (.ifCond .eq 21, 3) := by decide +kernel
theorem dX9_acquire_17 : decode cX9_acquire 17 = .ok (.iload_n 3, 1) := by decide +kernel
theorem dX9_acquire_18 : decode cX9_acquire 18 = .ok (.iconst 1, 1) := by decide +kernel
theorem dX9_acquire_19 : decode cX9_acquire 19 = .ok (.ldc 167, 2) := by decide +kernel
theorem dX9_acquire_21 : decode cX9_acquire 21 = .ok (.invokestatic 163, 3) := by decide +kernel
theorem dX9_acquire_24 : decode cX9_acquire 24 = .ok (.ifCond .eq 11, 3) := by decide +kernel
theorem dX9_acquire_27 : decode cX9_acquire 27 = .ok (.iload 4, 2) := by decide +kernel
theorem dX9_acquire_29 : decode cX9_acquire 29 = .ok (.invokestatic 179, 3) := by decide +kernel
theorem dX9_acquire_32 : decode cX9_acquire 32 = .ok (.ifCond .ne 5, 3) := by decide +kernel
theorem dX9_acquire_35 : decode cX9_acquire 35 = .ok (.iconst (-1), 1) := by decide +kernel
theorem dX9_acquire_36 : decode cX9_acquire 36 = .ok (.ireturn, 1) := by decide +kernel
theorem dX9_acquire_37 : decode cX9_acquire 37 = .ok (.aload_n 0, 1) := by decide +kernel
theorem dX9_acquire_38 : decode cX9_acquire 38 = .ok (.getfield 30, 3) := by decide +kernel
theorem dX9_acquire_41 : decode cX9_acquire 41 = .ok (.getfield 98, 3) := by decide +kernel
theorem dX9_acquire_44 : decode cX9_acquire 44 = .ok (.getfield 182, 3) := by decide +kernel
theorem dX9_acquire_47 : decode cX9_acquire 47 = .ok (.bipush 8, 2) := by decide +kernel
theorem dX9_acquire_49 : decode cX9_acquire 49 = .ok (.if_icmp .lt 6, 3) := by decide +kernel
theorem dX9_acquire_52 : decode cX9_acquire 52 = .ok (.bipush (-2), 2) := by decide +kernel
theorem dX9_acquire_54 : decode cX9_acquire 54 = .ok (.ireturn, 1) := by decide +kernel
theorem dX9_acquire_55 : decode cX9_acquire 55 = .ok (.aload_n 0, 1) := by decide +kernel
theorem dX9_acquire_56 : decode cX9_acquire 56 = .ok (.getfield 40, 3) := by decide +kernel
theorem dX9_acquire_59 : decode cX9_acquire 59 = .ok (.aload_n 0, 1) := by decide +kernel
theorem dX9_acquire_60 : decode cX9_acquire 60 = .ok (.getfield 30, 3) := by decide +kernel
theorem dX9_acquire_63 : decode cX9_acquire 63 = .ok (.getfield 98, 3) := by decide +kernel
theorem dX9_acquire_66 : decode cX9_acquire 66 = .ok (.invokevirtual 168, 3) := by decide +kernel
theorem dX9_acquire_69 : decode cX9_acquire 69 = .ok (.aload_n 0, 1) := by decide +kernel
theorem dX9_acquire_70 : decode cX9_acquire 70 = .ok (.getfield 30, 3) := by decide +kernel
theorem dX9_acquire_73 : decode cX9_acquire 73 = .ok (.getfield 98, 3) := by decide +kernel
theorem dX9_acquire_76 : decode cX9_acquire 76 = .ok (.iload_n 1, 1) := by decide +kernel
theorem dX9_acquire_77 : decode cX9_acquire 77 = .ok (.iload_n 2, 1) := by decide +kernel
theorem dX9_acquire_78 : decode cX9_acquire 78 = .ok (.iload_n 3, 1) := by decide +kernel
theorem dX9_acquire_79 : decode cX9_acquire 79 = .ok (.iload 4, 2) := by decide +kernel
theorem dX9_acquire_81 : decode cX9_acquire 81 = .ok (.invokevirtual 185, 3) := by decide +kernel
theorem dX9_acquire_84 : decode cX9_acquire 84 = .ok (.ireturn, 1) := by decide +kernel
theorem dX9_use_0 : decode cX9_use 0 = .ok (.aload_n 0, 1) := by decide +kernel
theorem dX9_use_1 : decode cX9_use 1 = .ok (.iload_n 1, 1) := by decide +kernel
theorem dX9_use_2 : decode cX9_use 2 = .ok (.invokevirtual 121, 3) := by decide +kernel
theorem dX9_use_5 : decode cX9_use 5 = .ok (.ifCond .eq 30, 3) := by decide +kernel
theorem dX9_use_8 : decode cX9_use 8 = .ok (.iload_n 2, 1) := by decide +kernel
theorem dX9_use_9 : decode cX9_use 9 = .ok (.iconst 0, 1) := by decide +kernel
theorem dX9_use_10 : decode cX9_use 10 = .ok (.iconst 2, 1) := by decide +kernel
theorem dX9_use_11 : decode cX9_use 11 = .ok (.invokestatic 163, 3) := by decide +kernel
theorem dX9_use_14 : decode cX9_use 14 = .ok (.ifCond .eq 21, 3) := by decide +kernel
theorem dX9_use_17 : decode cX9_use 17 = .ok (.aload_n 0, 1) := by decide +kernel
theorem dX9_use_18 : decode cX9_use 18 = .ok (.getfield 30, 3) := by decide +kernel
theorem dX9_use_21 : decode cX9_use 21 = .ok (.getfield 98, 3) := by decide +kernel
theorem dX9_use_24 : decode cX9_use 24 = .ok (.getfield 124, 3) := by decide +kernel
theorem dX9_use_27 : decode cX9_use 27 = .ok (.iload_n 1, 1) := by decide +kernel
theorem dX9_use_28 : decode cX9_use 28 = .ok (.aaload, 1) := by decide +kernel
theorem dX9_use_29 : decode cX9_use 29 = .ok (.invokevirtual 188, 3) := by decide +kernel
theorem dX9_use_32 : decode cX9_use 32 = .ok (.ifCond .ne 5, 3) := by decide +kernel
theorem dX9_use_35 : decode cX9_use 35 = .ok (.iconst 0, 1) := by decide +kernel
theorem dX9_use_36 : decode cX9_use 36 = .ok (.ireturn, 1) := by decide +kernel
theorem dX9_use_37 : decode cX9_use 37 = .ok (.aload_n 0, 1) := by decide +kernel
theorem dX9_use_38 : decode cX9_use 38 = .ok (.getfield 40, 3) := by decide +kernel
theorem dX9_use_41 : decode cX9_use 41 = .ok (.aload_n 0, 1) := by decide +kernel
theorem dX9_use_42 : decode cX9_use 42 = .ok (.getfield 30, 3) := by decide +kernel
theorem dX9_use_45 : decode cX9_use 45 = .ok (.getfield 98, 3) := by decide +kernel
theorem dX9_use_48 : decode cX9_use 48 = .ok (.invokevirtual 168, 3) := by decide +kernel
theorem dX9_use_51 : decode cX9_use 51 = .ok (.aload_n 0, 1) := by decide +kernel
theorem dX9_use_52 : decode cX9_use 52 = .ok (.getfield 30, 3) := by decide +kernel
theorem dX9_use_55 : decode cX9_use 55 = .ok (.getfield 98, 3) := by decide +kernel
theorem dX9_use_58 : decode cX9_use 58 = .ok (.getfield 124, 3) := by decide +kernel
theorem dX9_use_61 : decode cX9_use 61 = .ok (.iload_n 1, 1) := by decide +kernel
theorem dX9_use_62 : decode cX9_use 62 = .ok (.aaload, 1) := by decide +kernel
theorem dX9_use_63 : decode cX9_use 63 = .ok (.iload_n 2, 1) := by decide +kernel
theorem dX9_use_64 : decode cX9_use 64 = .ok (.putfield 133, 3) := by decide +kernel
theorem dX9_use_67 : decode cX9_use 67 = .ok (.iconst 1, 1) := by decide +kernel
theorem dX9_use_68 : decode cX9_use 68 = .ok (.ireturn, 1) := by decide +kernel
theorem dX9_sell_0 : decode cX9_sell 0 = .ok (.aload_n 0, 1) := by decide +kernel
theorem dX9_sell_1 : decode cX9_sell 1 = .ok (.iload_n 1, 1) := by decide +kernel
theorem dX9_sell_2 : decode cX9_sell 2 = .ok (.invokevirtual 121, 3) := by decide +kernel
theorem dX9_sell_5 : decode cX9_sell 5 = .ok (.ifCond .eq 31, 3) := by decide +kernel
theorem dX9_sell_8 : decode cX9_sell 8 = .ok (.iload_n 2, 1) := by decide +kernel
theorem dX9_sell_9 : decode cX9_sell 9 = .ok (.iconst 0, 1) := by decide +kernel
theorem dX9_sell_10 : decode cX9_sell 10 = .ok (.iconst 2, 1) := by decide +kernel
theorem dX9_sell_11 : decode cX9_sell 11 = .ok (.invokestatic 163, 3) := by decide +kernel
theorem dX9_sell_14 : decode cX9_sell 14 = .ok (.ifCond .eq 22, 3) := by decide +kernel
theorem dX9_sell_17 : decode cX9_sell 17 = .ok (.iload_n 3, 1) := by decide +kernel
theorem dX9_sell_18 : decode cX9_sell 18 = .ok (.iconst (-1), 1) := by decide +kernel
theorem dX9_sell_19 : decode cX9_sell 19 = .ok (.iload_n 2, 1) := by decide +kernel
theorem dX9_sell_20 : decode cX9_sell 20 = .ok (.iconst 2, 1) := by decide +kernel
theorem dX9_sell_21 : decode cX9_sell 21 = .ok (.if_icmp .ne 7, 3) := by decide +kernel
theorem dX9_sell_24 : decode cX9_sell 24 = .ok (.iconst (-1), 1) := by decide +kernel
theorem dX9_sell_25 : decode cX9_sell 25 = .ok (.goto 5, 3) := by decide +kernel
theorem dX9_sell_28 : decode cX9_sell 28 = .ok (.ldc 167, 2) := by decide +kernel
theorem dX9_sell_30 : decode cX9_sell 30 = .ok (.invokestatic 163, 3) := by decide +kernel
theorem dX9_sell_33 : decode cX9_sell 33 = .ok (.ifCond .ne 5, 3) := by decide +kernel
theorem dX9_sell_36 : decode cX9_sell 36 = .ok (.iconst (-1), 1) := by decide +kernel
theorem dX9_sell_37 : decode cX9_sell 37 = .ok (.ireturn, 1) := by decide +kernel
theorem dX9_sell_38 : decode cX9_sell 38 = .ok (.aload_n 0, 1) := by decide +kernel
theorem dX9_sell_39 : decode cX9_sell 39 = .ok (.getfield 30, 3) := by decide +kernel
theorem dX9_sell_42 : decode cX9_sell 42 = .ok (.getfield 98, 3) := by decide +kernel
theorem dX9_sell_45 : decode cX9_sell 45 = .ok (.getfield 124, 3) := by decide +kernel
theorem dX9_sell_48 : decode cX9_sell 48 = .ok (.iload_n 1, 1) := by decide +kernel
theorem dX9_sell_49 : decode cX9_sell 49 = .ok (.aaload, 1) := by decide +kernel
theorem dX9_sell_50 : decode cX9_sell 50 = .ok (.astore 4, 2) := by decide +kernel
theorem dX9_sell_52 : decode cX9_sell 52 = .ok (.aload 4, 2) := by decide +kernel
theorem dX9_sell_54 : decode cX9_sell 54 = .ok (.invokevirtual 192, 3) := by decide +kernel
theorem dX9_sell_57 : decode cX9_sell 57 = .ok (.ifCond .ne 6, 3) := by decide +kernel
theorem dX9_sell_60 : decode cX9_sell 60 = .ok (.bipush (-2), 2) := by decide +kernel
theorem dX9_sell_62 : decode cX9_sell 62 = .ok (.ireturn, 1) := by decide +kernel
theorem dX9_sell_63 : decode cX9_sell 63 = .ok (.aload_n 0, 1) := by decide +kernel
theorem dX9_sell_64 : decode cX9_sell 64 = .ok (.getfield 40, 3) := by decide +kernel
theorem dX9_sell_67 : decode cX9_sell 67 = .ok (.aload_n 0, 1) := by decide +kernel
theorem dX9_sell_68 : decode cX9_sell 68 = .ok (.getfield 30, 3) := by decide +kernel
theorem dX9_sell_71 : decode cX9_sell 71 = .ok (.getfield 98, 3) := by decide +kernel
theorem dX9_sell_74 : decode cX9_sell 74 = .ok (.invokevirtual 168, 3) := by decide +kernel
theorem dX9_sell_77 : decode cX9_sell 77 = .ok (.aload 4, 2) := by decide +kernel
theorem dX9_sell_79 : decode cX9_sell 79 = .ok (.iload_n 2, 1) := by decide +kernel
theorem dX9_sell_80 : decode cX9_sell 80 = .ok (.putfield 151, 3) := by decide +kernel
theorem dX9_sell_83 : decode cX9_sell 83 = .ok (.aload 4, 2) := by decide +kernel
theorem dX9_sell_85 : decode cX9_sell 85 = .ok (.iload_n 3, 1) := by decide +kernel
theorem dX9_sell_86 : decode cX9_sell 86 = .ok (.putfield 195, 3) := by decide +kernel
theorem dX9_sell_89 : decode cX9_sell 89 = .ok (.aload 4, 2) := by decide +kernel
theorem dX9_sell_91 : decode cX9_sell 91 = .ok (.invokevirtual 198, 3) := by decide +kernel
theorem dX9_sell_94 : decode cX9_sell 94 = .ok (.ireturn, 1) := by decide +kernel
theorem dX9_hand_0 : decode cX9_hand 0 = .ok (.aload_n 0, 1) := by decide +kernel
theorem dX9_hand_1 : decode cX9_hand 1 = .ok (.iload_n 1, 1) := by decide +kernel
theorem dX9_hand_2 : decode cX9_hand 2 = .ok (.invokevirtual 121, 3) := by decide +kernel
theorem dX9_hand_5 : decode cX9_hand 5 = .ok (.ifCond .eq 11, 3) := by decide +kernel
theorem dX9_hand_8 : decode cX9_hand 8 = .ok (.aload_n 0, 1) := by decide +kernel
theorem dX9_hand_9 : decode cX9_hand 9 = .ok (.iload_n 2, 1) := by decide +kernel
theorem dX9_hand_10 : decode cX9_hand 10 = .ok (.invokevirtual 80, 3) := by decide +kernel
theorem dX9_hand_13 : decode cX9_hand 13 = .ok (.ifCond .ne 5, 3) := by decide +kernel
theorem dX9_hand_16 : decode cX9_hand 16 = .ok (.iconst (-1), 1) := by decide +kernel
theorem dX9_hand_17 : decode cX9_hand 17 = .ok (.ireturn, 1) := by decide +kernel
theorem dX9_hand_18 : decode cX9_hand 18 = .ok (.aload_n 0, 1) := by decide +kernel
theorem dX9_hand_19 : decode cX9_hand 19 = .ok (.getfield 30, 3) := by decide +kernel
theorem dX9_hand_22 : decode cX9_hand 22 = .ok (.getfield 98, 3) := by decide +kernel
theorem dX9_hand_25 : decode cX9_hand 25 = .ok (.getfield 124, 3) := by decide +kernel
theorem dX9_hand_28 : decode cX9_hand 28 = .ok (.iload_n 1, 1) := by decide +kernel
theorem dX9_hand_29 : decode cX9_hand 29 = .ok (.aaload, 1) := by decide +kernel
theorem dX9_hand_30 : decode cX9_hand 30 = .ok (.astore_n 3, 1) := by decide +kernel
theorem dX9_hand_31 : decode cX9_hand 31 = .ok (.aload_n 3, 1) := by decide +kernel
theorem dX9_hand_32 : decode cX9_hand 32 = .ok (.invokevirtual 192, 3) := by decide +kernel
theorem dX9_hand_35 : decode cX9_hand 35 = .ok (.ifCond .ne 6, 3) := by decide +kernel
theorem dX9_hand_38 : decode cX9_hand 38 = .ok (.bipush (-2), 2) := by decide +kernel
theorem dX9_hand_40 : decode cX9_hand 40 = .ok (.ireturn, 1) := by decide +kernel
theorem dX9_hand_41 : decode cX9_hand 41 = .ok (.aload_n 0, 1) := by decide +kernel
theorem dX9_hand_42 : decode cX9_hand 42 = .ok (.getfield 40, 3) := by decide +kernel
theorem dX9_hand_45 : decode cX9_hand 45 = .ok (.aload_n 0, 1) := by decide +kernel
theorem dX9_hand_46 : decode cX9_hand 46 = .ok (.getfield 30, 3) := by decide +kernel
theorem dX9_hand_49 : decode cX9_hand 49 = .ok (.getfield 98, 3) := by decide +kernel
theorem dX9_hand_52 : decode cX9_hand 52 = .ok (.invokevirtual 168, 3) := by decide +kernel
theorem dX9_hand_55 : decode cX9_hand 55 = .ok (.aload_n 3, 1) := by decide +kernel
theorem dX9_hand_56 : decode cX9_hand 56 = .ok (.getfield 157, 3) := by decide +kernel
theorem dX9_hand_59 : decode cX9_hand 59 = .ok (.istore 4, 2) := by decide +kernel
theorem dX9_hand_61 : decode cX9_hand 61 = .ok (.aload_n 3, 1) := by decide +kernel
theorem dX9_hand_62 : decode cX9_hand 62 = .ok (.iload_n 2, 1) := by decide +kernel
theorem dX9_hand_63 : decode cX9_hand 63 = .ok (.putfield 157, 3) := by decide +kernel
theorem dX9_hand_66 : decode cX9_hand 66 = .ok (.iload 4, 2) := by decide +kernel
theorem dX9_hand_68 : decode cX9_hand 68 = .ok (.ireturn, 1) := by decide +kernel
theorem dX9_close_0 : decode cX9_close 0 = .ok (.iload_n 1, 1) := by decide +kernel
theorem dX9_close_1 : decode cX9_close 1 = .ok (.iconst 1, 1) := by decide +kernel
theorem dX9_close_2 : decode cX9_close 2 = .ok (.bipush 16, 2) := by decide +kernel
theorem dX9_close_4 : decode cX9_close 4 = .ok (.invokestatic 163, 3) := by decide +kernel
theorem dX9_close_7 : decode cX9_close 7 = .ok (.ifCond .ne 5, 3) := by decide +kernel
theorem dX9_close_10 : decode cX9_close 10 = .ok (.iconst (-1), 1) := by decide +kernel
theorem dX9_close_11 : decode cX9_close 11 = .ok (.ireturn, 1) := by decide +kernel
theorem dX9_close_12 : decode cX9_close 12 = .ok (.aload_n 0, 1) := by decide +kernel
theorem dX9_close_13 : decode cX9_close 13 = .ok (.iload_n 1, 1) := by decide +kernel
theorem dX9_close_14 : decode cX9_close 14 = .ok (.invokevirtual 202, 3) := by decide +kernel
theorem dX9_close_17 : decode cX9_close 17 = .ok (.ifCond .ne 6, 3) := by decide +kernel
theorem dX9_close_20 : decode cX9_close 20 = .ok (.bipush (-2), 2) := by decide +kernel
theorem dX9_close_22 : decode cX9_close 22 = .ok (.ireturn, 1) := by decide +kernel
theorem dX9_close_23 : decode cX9_close 23 = .ok (.aload_n 0, 1) := by decide +kernel
theorem dX9_close_24 : decode cX9_close 24 = .ok (.getfield 40, 3) := by decide +kernel
theorem dX9_close_27 : decode cX9_close 27 = .ok (.aload_n 0, 1) := by decide +kernel
theorem dX9_close_28 : decode cX9_close 28 = .ok (.getfield 30, 3) := by decide +kernel
theorem dX9_close_31 : decode cX9_close 31 = .ok (.getfield 98, 3) := by decide +kernel
theorem dX9_close_34 : decode cX9_close 34 = .ok (.invokevirtual 168, 3) := by decide +kernel
theorem dX9_close_37 : decode cX9_close 37 = .ok (.aload_n 0, 1) := by decide +kernel
theorem dX9_close_38 : decode cX9_close 38 = .ok (.getfield 30, 3) := by decide +kernel
theorem dX9_close_41 : decode cX9_close 41 = .ok (.getfield 98, 3) := by decide +kernel
theorem dX9_close_44 : decode cX9_close 44 = .ok (.getfield 205, 3) := by decide +kernel
theorem dX9_close_47 : decode cX9_close 47 = .ok (.istore_n 2, 1) := by decide +kernel
theorem dX9_close_48 : decode cX9_close 48 = .ok (.iconst 0, 1) := by decide +kernel
theorem dX9_close_49 : decode cX9_close 49 = .ok (.istore_n 3, 1) := by decide +kernel
theorem dX9_close_50 : decode cX9_close 50 = .ok (.iload_n 3, 1) := by decide +kernel
theorem dX9_close_51 : decode cX9_close 51 = .ok (.iload_n 1, 1) := by decide +kernel
theorem dX9_close_52 : decode cX9_close 52 = .ok (.if_icmp .ge 16, 3) := by decide +kernel
theorem dX9_close_55 : decode cX9_close 55 = .ok (.aload_n 0, 1) := by decide +kernel
theorem dX9_close_56 : decode cX9_close 56 = .ok (.getfield 30, 3) := by decide +kernel
theorem dX9_close_59 : decode cX9_close 59 = .ok (.invokevirtual 208, 3) := by decide +kernel
theorem dX9_close_62 : decode cX9_close 62 = .ok (.iinc 3 1, 3) := by decide +kernel
theorem dX9_close_65 : decode cX9_close 65 = .ok (.goto (-15), 3) := by decide +kernel
theorem dX9_close_68 : decode cX9_close 68 = .ok (.aload_n 0, 1) := by decide +kernel
theorem dX9_close_69 : decode cX9_close 69 = .ok (.getfield 30, 3) := by decide +kernel
theorem dX9_close_72 : decode cX9_close 72 = .ok (.getfield 98, 3) := by decide +kernel
theorem dX9_close_75 : decode cX9_close 75 = .ok (.getfield 205, 3) := by decide +kernel
theorem dX9_close_78 : decode cX9_close 78 = .ok (.iload_n 2, 1) := by decide +kernel
theorem dX9_close_79 : decode cX9_close 79 = .ok (.isub, 1) := by decide +kernel
theorem dX9_close_80 : decode cX9_close 80 = .ok (.ireturn, 1) := by decide +kernel
theorem dX9_sum_0 : decode cX9_sum 0 = .ok (.aload_n 0, 1) := by decide +kernel
theorem dX9_sum_1 : decode cX9_sum 1 = .ok (.iload_n 1, 1) := by decide +kernel
theorem dX9_sum_2 : decode cX9_sum 2 = .ok (.invokevirtual 80, 3) := by decide +kernel
theorem dX9_sum_5 : decode cX9_sum 5 = .ok (.ifCond .eq 22, 3) := by decide +kernel
theorem dX9_sum_8 : decode cX9_sum 8 = .ok (.iload_n 2, 1) := by decide +kernel
theorem dX9_sum_9 : decode cX9_sum 9 = .ok (.iconst 0, 1) := by decide +kernel
theorem dX9_sum_10 : decode cX9_sum 10 = .ok (.bipush 63, 2) := by decide +kernel
theorem dX9_sum_12 : decode cX9_sum 12 = .ok (.invokestatic 163, 3) := by decide +kernel
theorem dX9_sum_15 : decode cX9_sum 15 = .ok (.ifCond .eq 12, 3) := by decide +kernel
theorem dX9_sum_18 : decode cX9_sum 18 = .ok (.iload_n 3, 1) := by decide +kernel
theorem dX9_sum_19 : decode cX9_sum 19 = .ok (.iconst 0, 1) := by decide +kernel
theorem dX9_sum_20 : decode cX9_sum 20 = .ok (.iconst 4, 1) := by decide +kernel
theorem dX9_sum_21 : decode cX9_sum 21 = .ok (.invokestatic 163, 3) := by decide +kernel
theorem dX9_sum_24 : decode cX9_sum 24 = .ok (.ifCond .ne 5, 3) := by decide +kernel
theorem dX9_sum_27 : decode cX9_sum 27 = .ok (.iconst (-1), 1) := by decide +kernel
theorem dX9_sum_28 : decode cX9_sum 28 = .ok (.ireturn, 1) := by decide +kernel
theorem dX9_sum_29 : decode cX9_sum 29 = .ok (.aload_n 0, 1) := by decide +kernel
theorem dX9_sum_30 : decode cX9_sum 30 = .ok (.getfield 30, 3) := by decide +kernel
theorem dX9_sum_33 : decode cX9_sum 33 = .ok (.getfield 98, 3) := by decide +kernel
theorem dX9_sum_36 : decode cX9_sum 36 = .ok (.iload_n 1, 1) := by decide +kernel
theorem dX9_sum_37 : decode cX9_sum 37 = .ok (.iload_n 2, 1) := by decide +kernel
theorem dX9_sum_38 : decode cX9_sum 38 = .ok (.iload_n 3, 1) := by decide +kernel
theorem dX9_sum_39 : decode cX9_sum 39 = .ok (.invokevirtual 211, 3) := by decide +kernel
theorem dX9_sum_42 : decode cX9_sum 42 = .ok (.ireturn, 1) := by decide +kernel
theorem dX9_provisional_0 : decode cX9_provisional 0 = .ok (.aload_n 0, 1) := by decide +kernel
theorem dX9_provisional_1 : decode cX9_provisional 1 = .ok (.iload_n 1, 1) := by decide +kernel
theorem dX9_provisional_2 : decode cX9_provisional 2 = .ok (.invokevirtual 80, 3) := by decide +kernel
theorem dX9_provisional_5 : decode cX9_provisional 5 = .ok (.ifCond .eq 13, 3) := by decide +kernel
theorem dX9_provisional_8 : decode cX9_provisional 8 = .ok (.iload_n 2, 1) := by decide +kernel
theorem dX9_provisional_9 : decode cX9_provisional 9 = .ok (.iconst 0, 1) := by decide +kernel
theorem dX9_provisional_10 : decode cX9_provisional 10 = .ok (.bipush 63, 2) := by decide +kernel
theorem dX9_provisional_12 : decode cX9_provisional 12 = .ok (.invokestatic 163, 3) := by decide +kernel
theorem dX9_provisional_15 : decode cX9_provisional 15 = .ok (.ifCond .ne 5, 3) := by decide +kernel
theorem dX9_provisional_18 : decode cX9_provisional 18 = .ok (.iconst (-1), 1) := by decide +kernel
theorem dX9_provisional_19 : decode cX9_provisional 19 = .ok (.ireturn, 1) := by decide +kernel
theorem dX9_provisional_20 : decode cX9_provisional 20 = .ok (.iload_n 2, 1) := by decide +kernel
theorem dX9_provisional_21 : decode cX9_provisional 21 = .ok (.aload_n 0, 1) := by decide +kernel
theorem dX9_provisional_22 : decode cX9_provisional 22 = .ok (.getfield 30, 3) := by decide +kernel
theorem dX9_provisional_25 : decode cX9_provisional 25 = .ok (.getfield 98, 3) := by decide +kernel
theorem dX9_provisional_28 : decode cX9_provisional 28 = .ok (.getfield 172, 3) := by decide +kernel
theorem dX9_provisional_31 : decode cX9_provisional 31 = .ok (.if_icmp .le 6, 3) := by decide +kernel
theorem dX9_provisional_34 : decode cX9_provisional 34 = .ok (.bipush (-2), 2) := by decide +kernel
theorem dX9_provisional_36 : decode cX9_provisional 36 = .ok (.ireturn, 1) := by decide +kernel
theorem dX9_provisional_37 : decode cX9_provisional 37 = .ok (.iload_n 2, 1) := by decide +kernel
theorem dX9_provisional_38 : decode cX9_provisional 38 = .ok (.aload_n 0, 1) := by decide +kernel
theorem dX9_provisional_39 : decode cX9_provisional 39 = .ok (.getfield 30, 3) := by decide +kernel
theorem dX9_provisional_42 : decode cX9_provisional 42 = .ok (.getfield 98, 3) := by decide +kernel
theorem dX9_provisional_45 : decode cX9_provisional 45 = .ok (.getfield 172, 3) := by decide +kernel
theorem dX9_provisional_48 : decode cX9_provisional 48 = .ok (.if_icmp .ge 16, 3) := by decide +kernel
theorem dX9_provisional_51 : decode cX9_provisional 51 = .ok (.aload_n 0, 1) := by decide +kernel
theorem dX9_provisional_52 : decode cX9_provisional 52 = .ok (.getfield 30, 3) := by decide +kernel
theorem dX9_provisional_55 : decode cX9_provisional 55 = .ok (.getfield 98, 3) := by decide +kernel
theorem dX9_provisional_58 : decode cX9_provisional 58 = .ok (.iload_n 1, 1) := by decide +kernel
theorem dX9_provisional_59 : decode cX9_provisional 59 = .ok (.iload_n 2, 1) := by decide +kernel
theorem dX9_provisional_60 : decode cX9_provisional 60 = .ok (.invokevirtual 215, 3) := by decide +kernel
theorem dX9_provisional_63 : decode cX9_provisional 63 = .ok (.ireturn, 1) := by decide +kernel
theorem dX9_provisional_64 : decode cX9_provisional 64 = .ok (.aload_n 0, 1) := by decide +kernel
theorem dX9_provisional_65 : decode cX9_provisional 65 = .ok (.getfield 30, 3) := by decide +kernel
theorem dX9_provisional_68 : decode cX9_provisional 68 = .ok (.iload_n 1, 1) := by decide +kernel
theorem dX9_provisional_69 : decode cX9_provisional 69 = .ok (.iload_n 2, 1) := by decide +kernel
theorem dX9_provisional_70 : decode cX9_provisional 70 = .ok (.aload_n 0, 1) := by decide +kernel
theorem dX9_provisional_71 : decode cX9_provisional 71 = .ok (.getfield 30, 3) := by decide +kernel
theorem dX9_provisional_74 : decode cX9_provisional 74 = .ok (.getfield 56, 3) := by decide +kernel
theorem dX9_provisional_77 : decode cX9_provisional 77 = .ok (.getfield 95, 3) := by decide +kernel
theorem dX9_provisional_80 : decode cX9_provisional 80 = .ok (.iload_n 1, 1) := by decide +kernel
theorem dX9_provisional_81 : decode cX9_provisional 81 = .ok (.iaload, 1) := by decide +kernel
theorem dX9_provisional_82 : decode cX9_provisional 82 = .ok (.invokevirtual 219, 3) := by decide +kernel
theorem dX9_provisional_85 : decode cX9_provisional 85 = .ok (.ireturn, 1) := by decide +kernel
theorem dX9_recovered_0 : decode cX9_recovered 0 = .ok (.aload_n 0, 1) := by decide +kernel
theorem dX9_recovered_1 : decode cX9_recovered 1 = .ok (.iload_n 1, 1) := by decide +kernel
theorem dX9_recovered_2 : decode cX9_recovered 2 = .ok (.invokevirtual 80, 3) := by decide +kernel
theorem dX9_recovered_5 : decode cX9_recovered 5 = .ok (.ifCond .eq 13, 3) := by decide +kernel
theorem dX9_recovered_8 : decode cX9_recovered 8 = .ok (.iload_n 2, 1) := by decide +kernel
theorem dX9_recovered_9 : decode cX9_recovered 9 = .ok (.iconst 0, 1) := by decide +kernel
theorem dX9_recovered_10 : decode cX9_recovered 10 = .ok (.bipush 63, 2) := by decide +kernel
theorem dX9_recovered_12 : decode cX9_recovered 12 = .ok (.invokestatic 163, 3) := by decide +kernel
theorem dX9_recovered_15 : decode cX9_recovered 15 = .ok (.ifCond .ne 5, 3) := by decide +kernel
theorem dX9_recovered_18 : decode cX9_recovered 18 = .ok (.iconst (-1), 1) := by decide +kernel
theorem dX9_recovered_19 : decode cX9_recovered 19 = .ok (.ireturn, 1) := by decide +kernel
theorem dX9_recovered_20 : decode cX9_recovered 20 = .ok (.iload_n 2, 1) := by decide +kernel
theorem dX9_recovered_21 : decode cX9_recovered 21 = .ok (.aload_n 0, 1) := by decide +kernel
theorem dX9_recovered_22 : decode cX9_recovered 22 = .ok (.getfield 30, 3) := by decide +kernel
theorem dX9_recovered_25 : decode cX9_recovered 25 = .ok (.getfield 98, 3) := by decide +kernel
theorem dX9_recovered_28 : decode cX9_recovered 28 = .ok (.getfield 172, 3) := by decide +kernel
theorem dX9_recovered_31 : decode cX9_recovered 31 = .ok (.if_icmp .ge 18, 3) := by decide +kernel
theorem dX9_recovered_34 : decode cX9_recovered 34 = .ok (.aload_n 0, 1) := by decide +kernel
theorem dX9_recovered_35 : decode cX9_recovered 35 = .ok (.getfield 30, 3) := by decide +kernel
theorem dX9_recovered_38 : decode cX9_recovered 38 = .ok (.getfield 98, 3) := by decide +kernel
theorem dX9_recovered_41 : decode cX9_recovered 41 = .ok (.iload_n 1, 1) := by decide +kernel
theorem dX9_recovered_42 : decode cX9_recovered 42 = .ok (.iload_n 2, 1) := by decide +kernel
theorem dX9_recovered_43 : decode cX9_recovered 43 = .ok (.invokevirtual 222, 3) := by decide +kernel
theorem dX9_recovered_46 : decode cX9_recovered 46 = .ok (.goto 5, 3) := by decide +kernel
theorem dX9_recovered_49 : decode cX9_recovered 49 = .ok (.bipush (-2), 2) := by decide +kernel
theorem dX9_recovered_51 : decode cX9_recovered 51 = .ok (.ireturn, 1) := by decide +kernel
theorem dX9_annual_0 : decode cX9_annual 0 = .ok (.aload_n 0, 1) := by decide +kernel
theorem dX9_annual_1 : decode cX9_annual 1 = .ok (.iload_n 1, 1) := by decide +kernel
theorem dX9_annual_2 : decode cX9_annual 2 = .ok (.invokevirtual 80, 3) := by decide +kernel
theorem dX9_annual_5 : decode cX9_annual 5 = .ok (.ifCond .eq 11, 3) := by decide +kernel
theorem dX9_annual_8 : decode cX9_annual 8 = .ok (.aload_n 0, 1) := by decide +kernel
theorem dX9_annual_9 : decode cX9_annual 9 = .ok (.iload_n 2, 1) := by decide +kernel
theorem dX9_annual_10 : decode cX9_annual 10 = .ok (.invokevirtual 225, 3) := by decide +kernel
theorem dX9_annual_13 : decode cX9_annual 13 = .ok (.ifCond .ne 6, 3) := by decide +kernel
theorem dX9_annual_16 : decode cX9_annual 16 = .ok (.ldc 228, 2) := by decide +kernel
theorem dX9_annual_18 : decode cX9_annual 18 = .ok (.ireturn, 1) := by decide +kernel
theorem dX9_annual_19 : decode cX9_annual 19 = .ok (.aload_n 0, 1) := by decide +kernel
theorem dX9_annual_20 : decode cX9_annual 20 = .ok (.getfield 30, 3) := by decide +kernel
theorem dX9_annual_23 : decode cX9_annual 23 = .ok (.iload_n 1, 1) := by decide +kernel
theorem dX9_annual_24 : decode cX9_annual 24 = .ok (.iload_n 2, 1) := by decide +kernel
theorem dX9_annual_25 : decode cX9_annual 25 = .ok (.invokevirtual 229, 3) := by decide +kernel
theorem dX9_annual_28 : decode cX9_annual 28 = .ok (.istore 4, 2) := by decide +kernel
theorem dX9_annual_30 : decode cX9_annual 30 = .ok (.iload_n 3, 1) := by decide +kernel
theorem dX9_annual_31 : decode cX9_annual 31 = .ok (.tableswitch 80 0 3 #[29, 32, 47, 70], 29) := by decide +kernel
theorem dX9_annual_60 : decode cX9_annual 60 = .ok (.iload 4, 2) := by decide +kernel
theorem dX9_annual_62 : decode cX9_annual 62 = .ok (.ireturn, 1) := by decide +kernel
theorem dX9_annual_63 : decode cX9_annual 63 = .ok (.aload_n 0, 1) := by decide +kernel
theorem dX9_annual_64 : decode cX9_annual 64 = .ok (.getfield 30, 3) := by decide +kernel
theorem dX9_annual_67 : decode cX9_annual 67 = .ok (.iload_n 1, 1) := by decide +kernel
theorem dX9_annual_68 : decode cX9_annual 68 = .ok (.iload_n 2, 1) := by decide +kernel
theorem dX9_annual_69 : decode cX9_annual 69 = .ok (.invokevirtual 232, 3) := by decide +kernel
theorem dX9_annual_72 : decode cX9_annual 72 = .ok (.iload 4, 2) := by decide +kernel
theorem dX9_annual_74 : decode cX9_annual 74 = .ok (.invokevirtual 236, 3) := by decide +kernel
theorem dX9_annual_77 : decode cX9_annual 77 = .ok (.ireturn, 1) := by decide +kernel
theorem dX9_annual_78 : decode cX9_annual 78 = .ok (.aload_n 0, 1) := by decide +kernel
theorem dX9_annual_79 : decode cX9_annual 79 = .ok (.getfield 30, 3) := by decide +kernel
theorem dX9_annual_82 : decode cX9_annual 82 = .ok (.iload_n 1, 1) := by decide +kernel
theorem dX9_annual_83 : decode cX9_annual 83 = .ok (.iload_n 2, 1) := by decide +kernel
theorem dX9_annual_84 : decode cX9_annual 84 = .ok (.invokevirtual 232, 3) := by decide +kernel
theorem dX9_annual_87 : decode cX9_annual 87 = .ok (.iload 4, 2) := by decide +kernel
theorem dX9_annual_89 : decode cX9_annual 89 = .ok (.invokevirtual 241, 3) := by decide +kernel
theorem dX9_annual_92 : decode cX9_annual 92 = .ok (.ifCond .eq 7, 3) := by decide +kernel
theorem dX9_annual_95 : decode cX9_annual 95 = .ok (.iconst 1, 1) := by decide +kernel
theorem dX9_annual_96 : decode cX9_annual 96 = .ok (.goto 4, 3) := by decide +kernel
theorem dX9_annual_99 : decode cX9_annual 99 = .ok (.iconst 0, 1) := by decide +kernel
theorem dX9_annual_100 : decode cX9_annual 100 = .ok (.ireturn, 1) := by decide +kernel
theorem dX9_annual_101 : decode cX9_annual 101 = .ok (.aload_n 0, 1) := by decide +kernel
theorem dX9_annual_102 : decode cX9_annual 102 = .ok (.getfield 30, 3) := by decide +kernel
theorem dX9_annual_105 : decode cX9_annual 105 = .ok (.iload_n 1, 1) := by decide +kernel
theorem dX9_annual_106 : decode cX9_annual 106 = .ok (.iload_n 2, 1) := by decide +kernel
theorem dX9_annual_107 : decode cX9_annual 107 = .ok (.invokevirtual 244, 3) := by decide +kernel
theorem dX9_annual_110 : decode cX9_annual 110 = .ok (.ireturn, 1) := by decide +kernel
theorem dX9_annual_111 : decode cX9_annual 111 = .ok (.ldc 228, 2) := by decide +kernel
theorem dX9_annual_113 : decode cX9_annual 113 = .ok (.ireturn, 1) := by decide +kernel
theorem dX9_interval_0 : decode cX9_interval 0 = .ok (.aload_n 0, 1) := by decide +kernel
theorem dX9_interval_1 : decode cX9_interval 1 = .ok (.iload_n 1, 1) := by decide +kernel
theorem dX9_interval_2 : decode cX9_interval 2 = .ok (.invokevirtual 121, 3) := by decide +kernel
theorem dX9_interval_5 : decode cX9_interval 5 = .ok (.ifCond .eq 28, 3) := by decide +kernel
theorem dX9_interval_8 : decode cX9_interval 8 = .ok (.iload_n 2, 1) := by decide +kernel
theorem dX9_interval_9 : decode cX9_interval 9 = .ok (.iconst 0, 1) := by decide +kernel
theorem dX9_interval_10 : decode cX9_interval 10 = .ok (.aload_n 0, 1) := by decide +kernel
theorem dX9_interval_11 : decode cX9_interval 11 = .ok (.getfield 30, 3) := by decide +kernel
theorem dX9_interval_14 : decode cX9_interval 14 = .ok (.getfield 98, 3) := by decide +kernel
theorem dX9_interval_17 : decode cX9_interval 17 = .ok (.getfield 124, 3) := by decide +kernel
theorem dX9_interval_20 : decode cX9_interval 20 = .ok (.iload_n 1, 1) := by decide +kernel
theorem dX9_interval_21 : decode cX9_interval 21 = .ok (.aaload, 1) := by decide +kernel
theorem dX9_interval_22 : decode cX9_interval 22 = .ok (.getfield 145, 3) := by decide +kernel
theorem dX9_interval_25 : decode cX9_interval 25 = .ok (.iconst 1, 1) := by decide +kernel
theorem dX9_interval_26 : decode cX9_interval 26 = .ok (.isub, 1) := by decide +kernel
theorem dX9_interval_27 : decode cX9_interval 27 = .ok (.invokestatic 163, 3) := by decide +kernel
theorem dX9_interval_30 : decode cX9_interval 30 = .ok (.ifCond .ne 6, 3) := by decide +kernel
theorem dX9_interval_33 : decode cX9_interval 33 = .ok (.ldc 228, 2) := by decide +kernel
theorem dX9_interval_35 : decode cX9_interval 35 = .ok (.ireturn, 1) := by decide +kernel
theorem dX9_interval_36 : decode cX9_interval 36 = .ok (.aload_n 0, 1) := by decide +kernel
theorem dX9_interval_37 : decode cX9_interval 37 = .ok (.getfield 30, 3) := by decide +kernel
theorem dX9_interval_40 : decode cX9_interval 40 = .ok (.getfield 98, 3) := by decide +kernel
theorem dX9_interval_43 : decode cX9_interval 43 = .ok (.getfield 124, 3) := by decide +kernel
theorem dX9_interval_46 : decode cX9_interval 46 = .ok (.iload_n 1, 1) := by decide +kernel
theorem dX9_interval_47 : decode cX9_interval 47 = .ok (.aaload, 1) := by decide +kernel
theorem dX9_interval_48 : decode cX9_interval 48 = .ok (.astore 4, 2) := by decide +kernel
theorem dX9_interval_50 : decode cX9_interval 50 = .ok (.iload_n 3, 1) := by decide +kernel
theorem dX9_interval_51 : decode cX9_interval 51 = .ok (.tableswitch 63 0 3 #[29, 39, 47, 55], 29) := by decide +kernel
theorem dX9_interval_80 : decode cX9_interval 80 = .ok (.aload 4, 2) := by decide +kernel
theorem dX9_interval_82 : decode cX9_interval 82 = .ok (.getfield 142, 3) := by decide +kernel
theorem dX9_interval_85 : decode cX9_interval 85 = .ok (.iconst 4, 1) := by decide +kernel
theorem dX9_interval_86 : decode cX9_interval 86 = .ok (.idiv, 1) := by decide +kernel
theorem dX9_interval_87 : decode cX9_interval 87 = .ok (.iload_n 2, 1) := by decide +kernel
theorem dX9_interval_88 : decode cX9_interval 88 = .ok (.iadd, 1) := by decide +kernel
theorem dX9_interval_89 : decode cX9_interval 89 = .ok (.ireturn, 1) := by decide +kernel
theorem dX9_interval_90 : decode cX9_interval 90 = .ok (.aload 4, 2) := by decide +kernel
theorem dX9_interval_92 : decode cX9_interval 92 = .ok (.getfield 247, 3) := by decide +kernel
theorem dX9_interval_95 : decode cX9_interval 95 = .ok (.iload_n 2, 1) := by decide +kernel
theorem dX9_interval_96 : decode cX9_interval 96 = .ok (.iaload, 1) := by decide +kernel
theorem dX9_interval_97 : decode cX9_interval 97 = .ok (.ireturn, 1) := by decide +kernel
theorem dX9_interval_98 : decode cX9_interval 98 = .ok (.aload 4, 2) := by decide +kernel
theorem dX9_interval_100 : decode cX9_interval 100 = .ok (.getfield 250, 3) := by decide +kernel
theorem dX9_interval_103 : decode cX9_interval 103 = .ok (.iload_n 2, 1) := by decide +kernel
theorem dX9_interval_104 : decode cX9_interval 104 = .ok (.iaload, 1) := by decide +kernel
theorem dX9_interval_105 : decode cX9_interval 105 = .ok (.ireturn, 1) := by decide +kernel
theorem dX9_interval_106 : decode cX9_interval 106 = .ok (.aload 4, 2) := by decide +kernel
theorem dX9_interval_108 : decode cX9_interval 108 = .ok (.getfield 253, 3) := by decide +kernel
theorem dX9_interval_111 : decode cX9_interval 111 = .ok (.iload_n 2, 1) := by decide +kernel
theorem dX9_interval_112 : decode cX9_interval 112 = .ok (.iaload, 1) := by decide +kernel
theorem dX9_interval_113 : decode cX9_interval 113 = .ok (.ireturn, 1) := by decide +kernel
theorem dX9_interval_114 : decode cX9_interval 114 = .ok (.ldc 228, 2) := by decide +kernel
theorem dX9_interval_116 : decode cX9_interval 116 = .ok (.ireturn, 1) := by decide +kernel
theorem dX9_taken_0 : decode cX9_taken 0 = .ok (.aload_n 0, 1) := by decide +kernel
theorem dX9_taken_1 : decode cX9_taken 1 = .ok (.iload_n 1, 1) := by decide +kernel
theorem dX9_taken_2 : decode cX9_taken 2 = .ok (.invokevirtual 121, 3) := by decide +kernel
theorem dX9_taken_5 : decode cX9_taken 5 = .ok (.ifCond .eq 21, 3) := by decide +kernel
theorem dX9_taken_8 : decode cX9_taken 8 = .ok (.aload_n 0, 1) := by decide +kernel
theorem dX9_taken_9 : decode cX9_taken 9 = .ok (.getfield 30, 3) := by decide +kernel
theorem dX9_taken_12 : decode cX9_taken 12 = .ok (.getfield 98, 3) := by decide +kernel
theorem dX9_taken_15 : decode cX9_taken 15 = .ok (.getfield 124, 3) := by decide +kernel
theorem dX9_taken_18 : decode cX9_taken 18 = .ok (.iload_n 1, 1) := by decide +kernel
theorem dX9_taken_19 : decode cX9_taken 19 = .ok (.aaload, 1) := by decide +kernel
theorem dX9_taken_20 : decode cX9_taken 20 = .ok (.getfield 256, 3) := by decide +kernel
theorem dX9_taken_23 : decode cX9_taken 23 = .ok (.goto 5, 3) := by decide +kernel
theorem dX9_taken_26 : decode cX9_taken 26 = .ok (.ldc 228, 2) := by decide +kernel
theorem dX9_taken_28 : decode cX9_taken 28 = .ok (.ireturn, 1) := by decide +kernel
theorem dX9_last_0 : decode cX9_last 0 = .ok (.aload_n 0, 1) := by decide +kernel
theorem dX9_last_1 : decode cX9_last 1 = .ok (.iload_n 1, 1) := by decide +kernel
theorem dX9_last_2 : decode cX9_last 2 = .ok (.invokevirtual 121, 3) := by decide +kernel
theorem dX9_last_5 : decode cX9_last 5 = .ok (.ifCond .eq 21, 3) := by decide +kernel
theorem dX9_last_8 : decode cX9_last 8 = .ok (.aload_n 0, 1) := by decide +kernel
theorem dX9_last_9 : decode cX9_last 9 = .ok (.getfield 30, 3) := by decide +kernel
theorem dX9_last_12 : decode cX9_last 12 = .ok (.getfield 98, 3) := by decide +kernel
theorem dX9_last_15 : decode cX9_last 15 = .ok (.getfield 124, 3) := by decide +kernel
theorem dX9_last_18 : decode cX9_last 18 = .ok (.iload_n 1, 1) := by decide +kernel
theorem dX9_last_19 : decode cX9_last 19 = .ok (.aaload, 1) := by decide +kernel
theorem dX9_last_20 : decode cX9_last 20 = .ok (.getfield 259, 3) := by decide +kernel
theorem dX9_last_23 : decode cX9_last 23 = .ok (.ifCond .ne 6, 3) := by decide +kernel
theorem dX9_last_26 : decode cX9_last 26 = .ok (.ldc 228, 2) := by decide +kernel
theorem dX9_last_28 : decode cX9_last 28 = .ok (.ireturn, 1) := by decide +kernel
theorem dX9_last_29 : decode cX9_last 29 = .ok (.aload_n 0, 1) := by decide +kernel
theorem dX9_last_30 : decode cX9_last 30 = .ok (.getfield 30, 3) := by decide +kernel
theorem dX9_last_33 : decode cX9_last 33 = .ok (.getfield 98, 3) := by decide +kernel
theorem dX9_last_36 : decode cX9_last 36 = .ok (.getfield 124, 3) := by decide +kernel
theorem dX9_last_39 : decode cX9_last 39 = .ok (.iload_n 1, 1) := by decide +kernel
theorem dX9_last_40 : decode cX9_last 40 = .ok (.aaload, 1) := by decide +kernel
theorem dX9_last_41 : decode cX9_last 41 = .ok (.getfield 262, 3) := by decide +kernel
theorem dX9_last_44 : decode cX9_last 44 = .ok (.ireturn, 1) := by decide +kernel
theorem dX9_booked_0 : decode cX9_booked 0 = .ok (.aload_n 0, 1) := by decide +kernel
theorem dX9_booked_1 : decode cX9_booked 1 = .ok (.getfield 30, 3) := by decide +kernel
theorem dX9_booked_4 : decode cX9_booked 4 = .ok (.getfield 98, 3) := by decide +kernel
theorem dX9_booked_7 : decode cX9_booked 7 = .ok (.getfield 205, 3) := by decide +kernel
theorem dX9_booked_10 : decode cX9_booked 10 = .ok (.bipush 40, 2) := by decide +kernel
theorem dX9_booked_12 : decode cX9_booked 12 = .ok (.invokestatic 265, 3) := by decide +kernel
theorem dX9_booked_15 : decode cX9_booked 15 = .ok (.istore_n 3, 1) := by decide +kernel
theorem dX9_booked_16 : decode cX9_booked 16 = .ok (.iload_n 1, 1) := by decide +kernel
theorem dX9_booked_17 : decode cX9_booked 17 = .ok (.iconst 0, 1) := by decide +kernel
theorem dX9_booked_18 : decode cX9_booked 18 = .ok (.iload_n 3, 1) := by decide +kernel
theorem dX9_booked_19 : decode cX9_booked 19 = .ok (.iconst 1, 1) := by decide +kernel
theorem dX9_booked_20 : decode cX9_booked 20 = .ok (.isub, 1) := by decide +kernel
theorem dX9_booked_21 : decode cX9_booked 21 = .ok (.invokestatic 163, 3) := by decide +kernel
theorem dX9_booked_24 : decode cX9_booked 24 = .ok (.ifCond .eq 12, 3) := by decide +kernel
theorem dX9_booked_27 : decode cX9_booked 27 = .ok (.iload_n 2, 1) := by decide +kernel
theorem dX9_booked_28 : decode cX9_booked 28 = .ok (.iconst 0, 1) := by decide +kernel
theorem dX9_booked_29 : decode cX9_booked 29 = .ok (.iconst 4, 1) := by decide +kernel
theorem dX9_booked_30 : decode cX9_booked 30 = .ok (.invokestatic 163, 3) := by decide +kernel
theorem dX9_booked_33 : decode cX9_booked 33 = .ok (.ifCond .ne 6, 3) := by decide +kernel
theorem dX9_booked_36 : decode cX9_booked 36 = .ok (.ldc 228, 2) := by decide +kernel
theorem dX9_booked_38 : decode cX9_booked 38 = .ok (.ireturn, 1) := by decide +kernel
theorem dX9_booked_39 : decode cX9_booked 39 = .ok (.aload_n 0, 1) := by decide +kernel
theorem dX9_booked_40 : decode cX9_booked 40 = .ok (.getfield 30, 3) := by decide +kernel
theorem dX9_booked_43 : decode cX9_booked 43 = .ok (.getfield 98, 3) := by decide +kernel
theorem dX9_booked_46 : decode cX9_booked 46 = .ok (.iload_n 1, 1) := by decide +kernel
theorem dX9_booked_47 : decode cX9_booked 47 = .ok (.iload_n 2, 1) := by decide +kernel
theorem dX9_booked_48 : decode cX9_booked 48 = .ok (.invokevirtual 270, 3) := by decide +kernel
theorem dX9_booked_51 : decode cX9_booked 51 = .ok (.ireturn, 1) := by decide +kernel
theorem dX9_total_0 : decode cX9_total 0 = .ok (.aload_n 0, 1) := by decide +kernel
theorem dX9_total_1 : decode cX9_total 1 = .ok (.iload_n 1, 1) := by decide +kernel
theorem dX9_total_2 : decode cX9_total 2 = .ok (.invokevirtual 80, 3) := by decide +kernel
theorem dX9_total_5 : decode cX9_total 5 = .ok (.ifCond .eq 12, 3) := by decide +kernel
theorem dX9_total_8 : decode cX9_total 8 = .ok (.iload_n 2, 1) := by decide +kernel
theorem dX9_total_9 : decode cX9_total 9 = .ok (.iconst 0, 1) := by decide +kernel
theorem dX9_total_10 : decode cX9_total 10 = .ok (.iconst 3, 1) := by decide +kernel
theorem dX9_total_11 : decode cX9_total 11 = .ok (.invokestatic 163, 3) := by decide +kernel
theorem dX9_total_14 : decode cX9_total 14 = .ok (.ifCond .ne 6, 3) := by decide +kernel
theorem dX9_total_17 : decode cX9_total 17 = .ok (.ldc 228, 2) := by decide +kernel
theorem dX9_total_19 : decode cX9_total 19 = .ok (.ireturn, 1) := by decide +kernel
theorem dX9_total_20 : decode cX9_total 20 = .ok (.aload_n 0, 1) := by decide +kernel
theorem dX9_total_21 : decode cX9_total 21 = .ok (.getfield 30, 3) := by decide +kernel
theorem dX9_total_24 : decode cX9_total 24 = .ok (.getfield 98, 3) := by decide +kernel
theorem dX9_total_27 : decode cX9_total 27 = .ok (.iload_n 1, 1) := by decide +kernel
theorem dX9_total_28 : decode cX9_total 28 = .ok (.iload_n 2, 1) := by decide +kernel
theorem dX9_total_29 : decode cX9_total 29 = .ok (.invokevirtual 273, 3) := by decide +kernel
theorem dX9_total_32 : decode cX9_total 32 = .ok (.ireturn, 1) := by decide +kernel
theorem dX9_by_0 : decode cX9_by 0 = .ok (.aload_n 0, 1) := by decide +kernel
theorem dX9_by_1 : decode cX9_by 1 = .ok (.iload_n 1, 1) := by decide +kernel
theorem dX9_by_2 : decode cX9_by 2 = .ok (.invokevirtual 80, 3) := by decide +kernel
theorem dX9_by_5 : decode cX9_by 5 = .ok (.ifCond .eq 43, 3) := by decide +kernel
theorem dX9_by_8 : decode cX9_by 8 = .ok (.aload_n 0, 1) := by decide +kernel
theorem dX9_by_9 : decode cX9_by 9 = .ok (.iload_n 2, 1) := by decide +kernel
theorem dX9_by_10 : decode cX9_by 10 = .ok (.invokevirtual 225, 3) := by decide +kernel
theorem dX9_by_13 : decode cX9_by 13 = .ok (.ifCond .eq 35, 3) := by decide +kernel
theorem dX9_by_16 : decode cX9_by 16 = .ok (.iload_n 3, 1) := by decide +kernel
theorem dX9_by_17 : decode cX9_by 17 = .ok (.iconst 0, 1) := by decide +kernel
theorem dX9_by_18 : decode cX9_by 18 = .ok (.iconst 2, 1) := by decide +kernel
theorem dX9_by_19 : decode cX9_by 19 = .ok (.invokestatic 163, 3) := by decide +kernel
theorem dX9_by_22 : decode cX9_by 22 = .ok (.ifCond .eq 26, 3) := by decide +kernel
theorem dX9_by_25 : decode cX9_by 25 = .ok (.iload 4, 2) := by decide +kernel
theorem dX9_by_27 : decode cX9_by 27 = .ok (.iconst 0, 1) := by decide +kernel
theorem dX9_by_28 : decode cX9_by 28 = .ok (.iconst 2, 1) := by decide +kernel
theorem dX9_by_29 : decode cX9_by 29 = .ok (.invokestatic 163, 3) := by decide +kernel
theorem dX9_by_32 : decode cX9_by 32 = .ok (.ifCond .eq 16, 3) := by decide +kernel
theorem dX9_by_35 : decode cX9_by 35 = .ok (.iload 5, 2) := by decide +kernel
theorem dX9_by_37 : decode cX9_by 37 = .ok (.bipush 10, 2) := by decide +kernel
theorem dX9_by_39 : decode cX9_by 39 = .ok (.sipush 1000, 3) := by decide +kernel
theorem dX9_by_42 : decode cX9_by 42 = .ok (.invokestatic 163, 3) := by decide +kernel
theorem dX9_by_45 : decode cX9_by 45 = .ok (.ifCond .ne 6, 3) := by decide +kernel
theorem dX9_by_48 : decode cX9_by 48 = .ok (.ldc 228, 2) := by decide +kernel
theorem dX9_by_50 : decode cX9_by 50 = .ok (.ireturn, 1) := by decide +kernel
theorem dX9_by_51 : decode cX9_by 51 = .ok (.aload_n 0, 1) := by decide +kernel
theorem dX9_by_52 : decode cX9_by 52 = .ok (.getfield 30, 3) := by decide +kernel
theorem dX9_by_55 : decode cX9_by 55 = .ok (.iload_n 1, 1) := by decide +kernel
theorem dX9_by_56 : decode cX9_by 56 = .ok (.iload_n 2, 1) := by decide +kernel
theorem dX9_by_57 : decode cX9_by 57 = .ok (.invokevirtual 232, 3) := by decide +kernel
theorem dX9_by_60 : decode cX9_by 60 = .ok (.astore 6, 2) := by decide +kernel
theorem dX9_by_62 : decode cX9_by 62 = .ok (.aload 6, 2) := by decide +kernel
theorem dX9_by_64 : decode cX9_by 64 = .ok (.iload_n 3, 1) := by decide +kernel
theorem dX9_by_65 : decode cX9_by 65 = .ok (.putfield 276, 3) := by decide +kernel
theorem dX9_by_68 : decode cX9_by 68 = .ok (.aload 6, 2) := by decide +kernel
theorem dX9_by_70 : decode cX9_by 70 = .ok (.iload 4, 2) := by decide +kernel
theorem dX9_by_72 : decode cX9_by 72 = .ok (.putfield 279, 3) := by decide +kernel
theorem dX9_by_75 : decode cX9_by 75 = .ok (.aload 6, 2) := by decide +kernel
theorem dX9_by_77 : decode cX9_by 77 = .ok (.iload 5, 2) := by decide +kernel
theorem dX9_by_79 : decode cX9_by 79 = .ok (.putfield 282, 3) := by decide +kernel
theorem dX9_by_82 : decode cX9_by 82 = .ok (.aload 6, 2) := by decide +kernel
theorem dX9_by_84 : decode cX9_by 84 = .ok (.aload 6, 2) := by decide +kernel
theorem dX9_by_86 : decode cX9_by 86 = .ok (.invokevirtual 285, 3) := by decide +kernel
theorem dX9_by_89 : decode cX9_by 89 = .ok (.invokevirtual 236, 3) := by decide +kernel
theorem dX9_by_92 : decode cX9_by 92 = .ok (.ireturn, 1) := by decide +kernel
theorem dX9_bestMethod_0 : decode cX9_bestMethod 0 = .ok (.aload_n 0, 1) := by decide +kernel
theorem dX9_bestMethod_1 : decode cX9_bestMethod 1 = .ok (.iload_n 1, 1) := by decide +kernel
theorem dX9_bestMethod_2 : decode cX9_bestMethod 2 = .ok (.invokevirtual 80, 3) := by decide +kernel
theorem dX9_bestMethod_5 : decode cX9_bestMethod 5 = .ok (.ifCond .eq 10, 3) := by decide +kernel
theorem dX9_bestMethod_8 : decode cX9_bestMethod 8 = .ok (.iload_n 2, 1) := by decide +kernel
theorem dX9_bestMethod_9 : decode cX9_bestMethod 9 = .ok (.invokestatic 288, 3) := by decide +kernel
theorem dX9_bestMethod_12 : decode cX9_bestMethod 12 = .ok (.ifCond .ne 5, 3) := by decide +kernel
theorem dX9_bestMethod_15 : decode cX9_bestMethod 15 = .ok (.iconst (-1), 1) := by decide +kernel
theorem dX9_bestMethod_16 : decode cX9_bestMethod 16 = .ok (.ireturn, 1) := by decide +kernel
theorem dX9_bestMethod_17 : decode cX9_bestMethod 17 = .ok (.aload_n 0, 1) := by decide +kernel
theorem dX9_bestMethod_18 : decode cX9_bestMethod 18 = .ok (.iload_n 2, 1) := by decide +kernel
theorem dX9_bestMethod_19 : decode cX9_bestMethod 19 = .ok (.invokevirtual 225, 3) := by decide +kernel
theorem dX9_bestMethod_22 : decode cX9_bestMethod 22 = .ok (.ifCond .ne 6, 3) := by decide +kernel
theorem dX9_bestMethod_25 : decode cX9_bestMethod 25 = .ok (.bipush (-2), 2) := by decide +kernel
theorem dX9_bestMethod_27 : decode cX9_bestMethod 27 = .ok (.ireturn, 1) := by decide +kernel
theorem dX9_bestMethod_28 : decode cX9_bestMethod 28 = .ok (.aload_n 0, 1) := by decide +kernel
theorem dX9_bestMethod_29 : decode cX9_bestMethod 29 = .ok (.getfield 30, 3) := by decide +kernel

theorem dX9_bestMethod_32 : decode cX9_bestMethod 32 = .ok (.iload_n 1, 1) := by decide +kernel
theorem dX9_bestMethod_33 : decode cX9_bestMethod 33 = .ok (.iload_n 2, 1) := by decide +kernel
theorem dX9_bestMethod_34 : decode cX9_bestMethod 34 = .ok (.invokevirtual 232, 3) := by decide +kernel
theorem dX9_bestMethod_37 : decode cX9_bestMethod 37 = .ok (.astore_n 3, 1) := by decide +kernel
theorem dX9_bestMethod_38 : decode cX9_bestMethod 38 = .ok (.iconst 0, 1) := by decide +kernel
theorem dX9_bestMethod_39 : decode cX9_bestMethod 39 = .ok (.istore 4, 2) := by decide +kernel
theorem dX9_bestMethod_41 : decode cX9_bestMethod 41 = .ok (.iconst (-1), 1) := by decide +kernel
theorem dX9_bestMethod_42 : decode cX9_bestMethod 42 = .ok (.istore 5, 2) := by decide +kernel
theorem dX9_bestMethod_44 : decode cX9_bestMethod 44 = .ok (.iconst 0, 1) := by decide +kernel
theorem dX9_bestMethod_45 : decode cX9_bestMethod 45 = .ok (.istore 6, 2) := by decide +kernel
theorem dX9_bestMethod_47 : decode cX9_bestMethod 47 = .ok (.iload 6, 2) := by decide +kernel
theorem dX9_bestMethod_49 : decode cX9_bestMethod 49 = .ok (.iconst 3, 1) := by decide +kernel
theorem dX9_bestMethod_50 : decode cX9_bestMethod 50 = .ok (.if_icmp .ge 40, 3) := by decide +kernel
theorem dX9_bestMethod_53 : decode cX9_bestMethod 53 = .ok (.aload_n 3, 1) := by decide +kernel
theorem dX9_bestMethod_54 : decode cX9_bestMethod 54 = .ok (.iload 6, 2) := by decide +kernel
theorem dX9_bestMethod_56 : decode cX9_bestMethod 56 = .ok (.putfield 279, 3) := by decide +kernel
theorem dX9_bestMethod_59 : decode cX9_bestMethod 59 = .ok (.aload_n 3, 1) := by decide +kernel
theorem dX9_bestMethod_60 : decode cX9_bestMethod 60 = .ok (.aload_n 3, 1) := by decide +kernel
theorem dX9_bestMethod_61 : decode cX9_bestMethod 61 = .ok (.invokevirtual 285, 3) := by decide +kernel
theorem dX9_bestMethod_64 : decode cX9_bestMethod 64 = .ok (.invokevirtual 236, 3) := by decide +kernel
theorem dX9_bestMethod_67 : decode cX9_bestMethod 67 = .ok (.istore 7, 2) := by decide +kernel
theorem dX9_bestMethod_69 : decode cX9_bestMethod 69 = .ok (.iload 7, 2) := by decide +kernel
theorem dX9_bestMethod_71 : decode cX9_bestMethod 71 = .ok (.iload 5, 2) := by decide +kernel
theorem dX9_bestMethod_73 : decode cX9_bestMethod 73 = .ok (.if_icmp .le 11, 3) := by decide +kernel
theorem dX9_bestMethod_76 : decode cX9_bestMethod 76 = .ok (.iload 7, 2) := by decide +kernel
theorem dX9_bestMethod_78 : decode cX9_bestMethod 78 = .ok (.istore 5, 2) := by decide +kernel
theorem dX9_bestMethod_80 : decode cX9_bestMethod 80 = .ok (.iload 6, 2) := by decide +kernel
theorem dX9_bestMethod_82 : decode cX9_bestMethod 82 = .ok (.istore 4, 2) := by decide +kernel
theorem dX9_bestMethod_84 : decode cX9_bestMethod 84 = .ok (.iinc 6 1, 3) := by decide +kernel
theorem dX9_bestMethod_87 : decode cX9_bestMethod 87 = .ok (.goto (-40), 3) := by decide +kernel
theorem dX9_bestMethod_90 : decode cX9_bestMethod 90 = .ok (.iload 4, 2) := by decide +kernel
theorem dX9_bestMethod_92 : decode cX9_bestMethod 92 = .ok (.ireturn, 1) := by decide +kernel
theorem dX9_bestStep_0 : decode cX9_bestStep 0 = .ok (.aload_n 0, 1) := by decide +kernel
theorem dX9_bestStep_1 : decode cX9_bestStep 1 = .ok (.iload_n 1, 1) := by decide +kernel
theorem dX9_bestStep_2 : decode cX9_bestStep 2 = .ok (.invokevirtual 80, 3) := by decide +kernel
theorem dX9_bestStep_5 : decode cX9_bestStep 5 = .ok (.ifCond .eq 10, 3) := by decide +kernel
theorem dX9_bestStep_8 : decode cX9_bestStep 8 = .ok (.iload_n 2, 1) := by decide +kernel
theorem dX9_bestStep_9 : decode cX9_bestStep 9 = .ok (.invokestatic 288, 3) := by decide +kernel
theorem dX9_bestStep_12 : decode cX9_bestStep 12 = .ok (.ifCond .ne 5, 3) := by decide +kernel
theorem dX9_bestStep_15 : decode cX9_bestStep 15 = .ok (.iconst (-1), 1) := by decide +kernel
theorem dX9_bestStep_16 : decode cX9_bestStep 16 = .ok (.ireturn, 1) := by decide +kernel
theorem dX9_bestStep_17 : decode cX9_bestStep 17 = .ok (.aload_n 0, 1) := by decide +kernel
theorem dX9_bestStep_18 : decode cX9_bestStep 18 = .ok (.iload_n 2, 1) := by decide +kernel
theorem dX9_bestStep_19 : decode cX9_bestStep 19 = .ok (.invokevirtual 225, 3) := by decide +kernel
theorem dX9_bestStep_22 : decode cX9_bestStep 22 = .ok (.ifCond .ne 6, 3) := by decide +kernel
theorem dX9_bestStep_25 : decode cX9_bestStep 25 = .ok (.bipush (-2), 2) := by decide +kernel
theorem dX9_bestStep_27 : decode cX9_bestStep 27 = .ok (.ireturn, 1) := by decide +kernel
theorem dX9_bestStep_28 : decode cX9_bestStep 28 = .ok (.aload_n 0, 1) := by decide +kernel
theorem dX9_bestStep_29 : decode cX9_bestStep 29 = .ok (.getfield 30, 3) := by decide +kernel
theorem dX9_bestStep_32 : decode cX9_bestStep 32 = .ok (.iload_n 1, 1) := by decide +kernel
theorem dX9_bestStep_33 : decode cX9_bestStep 33 = .ok (.iload_n 2, 1) := by decide +kernel
theorem dX9_bestStep_34 : decode cX9_bestStep 34 = .ok (.invokevirtual 232, 3) := by decide +kernel
theorem dX9_bestStep_37 : decode cX9_bestStep 37 = .ok (.astore_n 3, 1) := by decide +kernel
theorem dX9_bestStep_38 : decode cX9_bestStep 38 = .ok (.bipush 10, 2) := by decide +kernel
theorem dX9_bestStep_40 : decode cX9_bestStep 40 = .ok (.istore 4, 2) := by decide +kernel
theorem dX9_bestStep_42 : decode cX9_bestStep 42 = .ok (.iconst (-1), 1) := by decide +kernel
theorem dX9_bestStep_43 : decode cX9_bestStep 43 = .ok (.istore 5, 2) := by decide +kernel
theorem dX9_bestStep_45 : decode cX9_bestStep 45 = .ok (.bipush 10, 2) := by decide +kernel
theorem dX9_bestStep_47 : decode cX9_bestStep 47 = .ok (.istore 6, 2) := by decide +kernel
theorem dX9_bestStep_49 : decode cX9_bestStep 49 = .ok (.iload 6, 2) := by decide +kernel
theorem dX9_bestStep_51 : decode cX9_bestStep 51 = .ok (.sipush 1000, 3) := by decide +kernel
theorem dX9_bestStep_54 : decode cX9_bestStep 54 = .ok (.if_icmp .gt 40, 3) := by decide +kernel
theorem dX9_bestStep_57 : decode cX9_bestStep 57 = .ok (.aload_n 3, 1) := by decide +kernel
theorem dX9_bestStep_58 : decode cX9_bestStep 58 = .ok (.iload 6, 2) := by decide +kernel
theorem dX9_bestStep_60 : decode cX9_bestStep 60 = .ok (.putfield 282, 3) := by decide +kernel
theorem dX9_bestStep_63 : decode cX9_bestStep 63 = .ok (.aload_n 3, 1) := by decide +kernel
theorem dX9_bestStep_64 : decode cX9_bestStep 64 = .ok (.aload_n 3, 1) := by decide +kernel
theorem dX9_bestStep_65 : decode cX9_bestStep 65 = .ok (.invokevirtual 285, 3) := by decide +kernel
theorem dX9_bestStep_68 : decode cX9_bestStep 68 = .ok (.invokevirtual 236, 3) := by decide +kernel
theorem dX9_bestStep_71 : decode cX9_bestStep 71 = .ok (.istore 7, 2) := by decide +kernel
theorem dX9_bestStep_73 : decode cX9_bestStep 73 = .ok (.iload 7, 2) := by decide +kernel
theorem dX9_bestStep_75 : decode cX9_bestStep 75 = .ok (.iload 5, 2) := by decide +kernel
theorem dX9_bestStep_77 : decode cX9_bestStep 77 = .ok (.if_icmp .le 11, 3) := by decide +kernel
theorem dX9_bestStep_80 : decode cX9_bestStep 80 = .ok (.iload 7, 2) := by decide +kernel
theorem dX9_bestStep_82 : decode cX9_bestStep 82 = .ok (.istore 5, 2) := by decide +kernel
theorem dX9_bestStep_84 : decode cX9_bestStep 84 = .ok (.iload 6, 2) := by decide +kernel
theorem dX9_bestStep_86 : decode cX9_bestStep 86 = .ok (.istore 4, 2) := by decide +kernel
theorem dX9_bestStep_88 : decode cX9_bestStep 88 = .ok (.iinc 6 1, 3) := by decide +kernel
theorem dX9_bestStep_91 : decode cX9_bestStep 91 = .ok (.goto (-42), 3) := by decide +kernel
theorem dX9_bestStep_94 : decode cX9_bestStep 94 = .ok (.iload 4, 2) := by decide +kernel
theorem dX9_bestStep_96 : decode cX9_bestStep 96 = .ok (.ireturn, 1) := by decide +kernel
theorem dX9_joint_0 : decode cX9_joint 0 = .ok (.aload_n 0, 1) := by decide +kernel
theorem dX9_joint_1 : decode cX9_joint 1 = .ok (.iload_n 1, 1) := by decide +kernel
theorem dX9_joint_2 : decode cX9_joint 2 = .ok (.invokevirtual 80, 3) := by decide +kernel
theorem dX9_joint_5 : decode cX9_joint 5 = .ok (.ifCond .eq 24, 3) := by decide +kernel
theorem dX9_joint_8 : decode cX9_joint 8 = .ok (.aload_n 0, 1) := by decide +kernel
theorem dX9_joint_9 : decode cX9_joint 9 = .ok (.iload_n 2, 1) := by decide +kernel
theorem dX9_joint_10 : decode cX9_joint 10 = .ok (.invokevirtual 80, 3) := by decide +kernel
theorem dX9_joint_13 : decode cX9_joint 13 = .ok (.ifCond .eq 16, 3) := by decide +kernel
theorem dX9_joint_16 : decode cX9_joint 16 = .ok (.iload_n 1, 1) := by decide +kernel
theorem dX9_joint_17 : decode cX9_joint 17 = .ok (.iload_n 2, 1) := by decide +kernel
theorem dX9_joint_18 : decode cX9_joint 18 = .ok (.if_icmp .eq 11, 3) := by decide +kernel
theorem dX9_joint_21 : decode cX9_joint 21 = .ok (.aload_n 0, 1) := by decide +kernel
theorem dX9_joint_22 : decode cX9_joint 22 = .ok (.iload_n 3, 1) := by decide +kernel
theorem dX9_joint_23 : decode cX9_joint 23 = .ok (.invokevirtual 225, 3) := by decide +kernel
theorem dX9_joint_26 : decode cX9_joint 26 = .ok (.ifCond .ne 6, 3) := by decide +kernel
theorem dX9_joint_29 : decode cX9_joint 29 = .ok (.ldc 228, 2) := by decide +kernel
theorem dX9_joint_31 : decode cX9_joint 31 = .ok (.ireturn, 1) := by decide +kernel
theorem dX9_joint_32 : decode cX9_joint 32 = .ok (.aload_n 0, 1) := by decide +kernel
theorem dX9_joint_33 : decode cX9_joint 33 = .ok (.getfield 30, 3) := by decide +kernel
theorem dX9_joint_36 : decode cX9_joint 36 = .ok (.iload_n 1, 1) := by decide +kernel
theorem dX9_joint_37 : decode cX9_joint 37 = .ok (.iload_n 3, 1) := by decide +kernel
theorem dX9_joint_38 : decode cX9_joint 38 = .ok (.invokevirtual 232, 3) := by decide +kernel
theorem dX9_joint_41 : decode cX9_joint 41 = .ok (.astore 4, 2) := by decide +kernel
theorem dX9_joint_43 : decode cX9_joint 43 = .ok (.aload_n 0, 1) := by decide +kernel
theorem dX9_joint_44 : decode cX9_joint 44 = .ok (.getfield 30, 3) := by decide +kernel
theorem dX9_joint_47 : decode cX9_joint 47 = .ok (.iload_n 2, 1) := by decide +kernel
theorem dX9_joint_48 : decode cX9_joint 48 = .ok (.iload_n 3, 1) := by decide +kernel
theorem dX9_joint_49 : decode cX9_joint 49 = .ok (.invokevirtual 291, 3) := by decide +kernel
theorem dX9_joint_52 : decode cX9_joint 52 = .ok (.aload 4, 2) := by decide +kernel
theorem dX9_joint_54 : decode cX9_joint 54 = .ok (.aload 4, 2) := by decide +kernel
theorem dX9_joint_56 : decode cX9_joint 56 = .ok (.invokevirtual 285, 3) := by decide +kernel
theorem dX9_joint_59 : decode cX9_joint 59 = .ok (.invokevirtual 236, 3) := by decide +kernel
theorem dX9_joint_62 : decode cX9_joint 62 = .ok (.ireturn, 1) := by decide +kernel
theorem dX9_limitFor_0 : decode cX9_limitFor 0 = .ok (.aload_n 0, 1) := by decide +kernel
theorem dX9_limitFor_1 : decode cX9_limitFor 1 = .ok (.iload_n 1, 1) := by decide +kernel
theorem dX9_limitFor_2 : decode cX9_limitFor 2 = .ok (.invokevirtual 80, 3) := by decide +kernel
theorem dX9_limitFor_5 : decode cX9_limitFor 5 = .ok (.ifCond .eq 10, 3) := by decide +kernel
theorem dX9_limitFor_8 : decode cX9_limitFor 8 = .ok (.iload_n 2, 1) := by decide +kernel
theorem dX9_limitFor_9 : decode cX9_limitFor 9 = .ok (.invokestatic 288, 3) := by decide +kernel
theorem dX9_limitFor_12 : decode cX9_limitFor 12 = .ok (.ifCond .ne 5, 3) := by decide +kernel
theorem dX9_limitFor_15 : decode cX9_limitFor 15 = .ok (.iconst (-1), 1) := by decide +kernel
theorem dX9_limitFor_16 : decode cX9_limitFor 16 = .ok (.ireturn, 1) := by decide +kernel
theorem dX9_limitFor_17 : decode cX9_limitFor 17 = .ok (.aload_n 0, 1) := by decide +kernel
theorem dX9_limitFor_18 : decode cX9_limitFor 18 = .ok (.iload_n 2, 1) := by decide +kernel
theorem dX9_limitFor_19 : decode cX9_limitFor 19 = .ok (.invokevirtual 225, 3) := by decide +kernel
theorem dX9_limitFor_22 : decode cX9_limitFor 22 = .ok (.ifCond .ne 6, 3) := by decide +kernel
theorem dX9_limitFor_25 : decode cX9_limitFor 25 = .ok (.bipush (-2), 2) := by decide +kernel
theorem dX9_limitFor_27 : decode cX9_limitFor 27 = .ok (.ireturn, 1) := by decide +kernel
theorem dX9_limitFor_28 : decode cX9_limitFor 28 = .ok (.aload_n 0, 1) := by decide +kernel
theorem dX9_limitFor_29 : decode cX9_limitFor 29 = .ok (.getfield 30, 3) := by decide +kernel
theorem dX9_limitFor_32 : decode cX9_limitFor 32 = .ok (.iload_n 1, 1) := by decide +kernel
theorem dX9_limitFor_33 : decode cX9_limitFor 33 = .ok (.iload_n 2, 1) := by decide +kernel
theorem dX9_limitFor_34 : decode cX9_limitFor 34 = .ok (.invokevirtual 229, 3) := by decide +kernel
theorem dX9_limitFor_37 : decode cX9_limitFor 37 = .ok (.istore_n 3, 1) := by decide +kernel
theorem dX9_limitFor_38 : decode cX9_limitFor 38 = .ok (.aload_n 0, 1) := by decide +kernel
theorem dX9_limitFor_39 : decode cX9_limitFor 39 = .ok (.getfield 30, 3) := by decide +kernel
theorem dX9_limitFor_42 : decode cX9_limitFor 42 = .ok (.iload_n 1, 1) := by decide +kernel
theorem dX9_limitFor_43 : decode cX9_limitFor 43 = .ok (.iload_n 2, 1) := by decide +kernel
theorem dX9_limitFor_44 : decode cX9_limitFor 44 = .ok (.invokevirtual 232, 3) := by decide +kernel
theorem dX9_limitFor_47 : decode cX9_limitFor 47 = .ok (.iload_n 3, 1) := by decide +kernel
theorem dX9_limitFor_48 : decode cX9_limitFor 48 = .ok (.invokevirtual 295, 3) := by decide +kernel
theorem dX9_limitFor_51 : decode cX9_limitFor 51 = .ok (.ireturn, 1) := by decide +kernel
theorem dX9_byBasis_0 : decode cX9_byBasis 0 = .ok (.aload_n 0, 1) := by decide +kernel
theorem dX9_byBasis_1 : decode cX9_byBasis 1 = .ok (.iload_n 1, 1) := by decide +kernel
theorem dX9_byBasis_2 : decode cX9_byBasis 2 = .ok (.invokevirtual 80, 3) := by decide +kernel
theorem dX9_byBasis_5 : decode cX9_byBasis 5 = .ok (.ifCond .eq 32, 3) := by decide +kernel
theorem dX9_byBasis_8 : decode cX9_byBasis 8 = .ok (.iload_n 2, 1) := by decide +kernel
theorem dX9_byBasis_9 : decode cX9_byBasis 9 = .ok (.iconst 0, 1) := by decide +kernel
theorem dX9_byBasis_10 : decode cX9_byBasis 10 = .ok (.aload_n 0, 1) := by decide +kernel
theorem dX9_byBasis_11 : decode cX9_byBasis 11 = .ok (.getfield 30, 3) := by decide +kernel
theorem dX9_byBasis_14 : decode cX9_byBasis 14 = .ok (.getfield 98, 3) := by decide +kernel
theorem dX9_byBasis_17 : decode cX9_byBasis 17 = .ok (.getfield 172, 3) := by decide +kernel
theorem dX9_byBasis_20 : decode cX9_byBasis 20 = .ok (.iconst 1, 1) := by decide +kernel
theorem dX9_byBasis_21 : decode cX9_byBasis 21 = .ok (.isub, 1) := by decide +kernel
theorem dX9_byBasis_22 : decode cX9_byBasis 22 = .ok (.invokestatic 163, 3) := by decide +kernel
theorem dX9_byBasis_25 : decode cX9_byBasis 25 = .ok (.ifCond .eq 12, 3) := by decide +kernel
theorem dX9_byBasis_28 : decode cX9_byBasis 28 = .ok (.iload_n 3, 1) := by decide +kernel
theorem dX9_byBasis_29 : decode cX9_byBasis 29 = .ok (.iconst 0, 1) := by decide +kernel
theorem dX9_byBasis_30 : decode cX9_byBasis 30 = .ok (.iconst 1, 1) := by decide +kernel
theorem dX9_byBasis_31 : decode cX9_byBasis 31 = .ok (.invokestatic 163, 3) := by decide +kernel
theorem dX9_byBasis_34 : decode cX9_byBasis 34 = .ok (.ifCond .ne 6, 3) := by decide +kernel
theorem dX9_byBasis_37 : decode cX9_byBasis 37 = .ok (.ldc 228, 2) := by decide +kernel
theorem dX9_byBasis_39 : decode cX9_byBasis 39 = .ok (.ireturn, 1) := by decide +kernel
theorem dX9_byBasis_40 : decode cX9_byBasis 40 = .ok (.aload_n 0, 1) := by decide +kernel
theorem dX9_byBasis_41 : decode cX9_byBasis 41 = .ok (.getfield 30, 3) := by decide +kernel
theorem dX9_byBasis_44 : decode cX9_byBasis 44 = .ok (.iload_n 1, 1) := by decide +kernel
theorem dX9_byBasis_45 : decode cX9_byBasis 45 = .ok (.iload_n 2, 1) := by decide +kernel
theorem dX9_byBasis_46 : decode cX9_byBasis 46 = .ok (.iload_n 3, 1) := by decide +kernel
theorem dX9_byBasis_47 : decode cX9_byBasis 47 = .ok (.invokevirtual 219, 3) := by decide +kernel
theorem dX9_byBasis_50 : decode cX9_byBasis 50 = .ok (.istore 4, 2) := by decide +kernel
theorem dX9_byBasis_52 : decode cX9_byBasis 52 = .ok (.aload_n 0, 1) := by decide +kernel
theorem dX9_byBasis_53 : decode cX9_byBasis 53 = .ok (.getfield 30, 3) := by decide +kernel
theorem dX9_byBasis_56 : decode cX9_byBasis 56 = .ok (.iload_n 1, 1) := by decide +kernel
theorem dX9_byBasis_57 : decode cX9_byBasis 57 = .ok (.iload_n 2, 1) := by decide +kernel
theorem dX9_byBasis_58 : decode cX9_byBasis 58 = .ok (.invokevirtual 298, 3) := by decide +kernel
theorem dX9_byBasis_61 : decode cX9_byBasis 61 = .ok (.iload 4, 2) := by decide +kernel
theorem dX9_byBasis_63 : decode cX9_byBasis 63 = .ok (.invokevirtual 236, 3) := by decide +kernel
theorem dX9_byBasis_66 : decode cX9_byBasis 66 = .ok (.ireturn, 1) := by decide +kernel
theorem dX9_leader_0 : decode cX9_leader 0 = .ok (.iload_n 1, 1) := by decide +kernel
theorem dX9_leader_1 : decode cX9_leader 1 = .ok (.invokestatic 288, 3) := by decide +kernel
theorem dX9_leader_4 : decode cX9_leader 4 = .ok (.ifCond .ne 5, 3) := by decide +kernel
theorem dX9_leader_7 : decode cX9_leader 7 = .ok (.iconst (-1), 1) := by decide +kernel
theorem dX9_leader_8 : decode cX9_leader 8 = .ok (.ireturn, 1) := by decide +kernel
theorem dX9_leader_9 : decode cX9_leader 9 = .ok (.aload_n 0, 1) := by decide +kernel
theorem dX9_leader_10 : decode cX9_leader 10 = .ok (.iload_n 1, 1) := by decide +kernel
theorem dX9_leader_11 : decode cX9_leader 11 = .ok (.invokevirtual 225, 3) := by decide +kernel
theorem dX9_leader_14 : decode cX9_leader 14 = .ok (.ifCond .ne 6, 3) := by decide +kernel
theorem dX9_leader_17 : decode cX9_leader 17 = .ok (.bipush (-2), 2) := by decide +kernel
theorem dX9_leader_19 : decode cX9_leader 19 = .ok (.ireturn, 1) := by decide +kernel
theorem dX9_leader_20 : decode cX9_leader 20 = .ok (.bipush (-2), 2) := by decide +kernel
theorem dX9_leader_22 : decode cX9_leader 22 = .ok (.istore_n 2, 1) := by decide +kernel
theorem dX9_leader_23 : decode cX9_leader 23 = .ok (.iconst (-1), 1) := by decide +kernel
theorem dX9_leader_24 : decode cX9_leader 24 = .ok (.istore_n 3, 1) := by decide +kernel
theorem dX9_leader_25 : decode cX9_leader 25 = .ok (.iconst 0, 1) := by decide +kernel
theorem dX9_leader_26 : decode cX9_leader 26 = .ok (.istore 4, 2) := by decide +kernel
theorem dX9_leader_28 : decode cX9_leader 28 = .ok (.iload 4, 2) := by decide +kernel
theorem dX9_leader_30 : decode cX9_leader 30 = .ok (.aload_n 0, 1) := by decide +kernel
theorem dX9_leader_31 : decode cX9_leader 31 = .ok (.getfield 30, 3) := by decide +kernel
theorem dX9_leader_34 : decode cX9_leader 34 = .ok (.getfield 56, 3) := by decide +kernel
theorem dX9_leader_37 : decode cX9_leader 37 = .ok (.getfield 301, 3) := by decide +kernel
theorem dX9_leader_40 : decode cX9_leader 40 = .ok (.if_icmp .ge 33, 3) := by decide +kernel
theorem dX9_leader_43 : decode cX9_leader 43 = .ok (.aload_n 0, 1) := by decide +kernel
theorem dX9_leader_44 : decode cX9_leader 44 = .ok (.getfield 30, 3) := by decide +kernel
theorem dX9_leader_47 : decode cX9_leader 47 = .ok (.iload 4, 2) := by decide +kernel
theorem dX9_leader_49 : decode cX9_leader 49 = .ok (.iload_n 1, 1) := by decide +kernel
theorem dX9_leader_50 : decode cX9_leader 50 = .ok (.invokevirtual 304, 3) := by decide +kernel
theorem dX9_leader_53 : decode cX9_leader 53 = .ok (.istore 5, 2) := by decide +kernel
theorem dX9_leader_55 : decode cX9_leader 55 = .ok (.iload 5, 2) := by decide +kernel
theorem dX9_leader_57 : decode cX9_leader 57 = .ok (.iload_n 3, 1) := by decide +kernel
theorem dX9_leader_58 : decode cX9_leader 58 = .ok (.if_icmp .le 9, 3) := by decide +kernel
theorem dX9_leader_61 : decode cX9_leader 61 = .ok (.iload 5, 2) := by decide +kernel
theorem dX9_leader_63 : decode cX9_leader 63 = .ok (.istore_n 3, 1) := by decide +kernel
theorem dX9_leader_64 : decode cX9_leader 64 = .ok (.iload 4, 2) := by decide +kernel
theorem dX9_leader_66 : decode cX9_leader 66 = .ok (.istore_n 2, 1) := by decide +kernel
theorem dX9_leader_67 : decode cX9_leader 67 = .ok (.iinc 4 1, 3) := by decide +kernel
theorem dX9_leader_70 : decode cX9_leader 70 = .ok (.goto (-42), 3) := by decide +kernel
theorem dX9_leader_73 : decode cX9_leader 73 = .ok (.iload_n 2, 1) := by decide +kernel
theorem dX9_leader_74 : decode cX9_leader 74 = .ok (.ireturn, 1) := by decide +kernel
theorem dX9_rise_0 : decode cX9_rise 0 = .ok (.aload_n 0, 1) := by decide +kernel
theorem dX9_rise_1 : decode cX9_rise 1 = .ok (.iload_n 1, 1) := by decide +kernel
theorem dX9_rise_2 : decode cX9_rise 2 = .ok (.invokevirtual 80, 3) := by decide +kernel
theorem dX9_rise_5 : decode cX9_rise 5 = .ok (.ifCond .ne 5, 3) := by decide +kernel
theorem dX9_rise_8 : decode cX9_rise 8 = .ok (.iconst (-1), 1) := by decide +kernel
theorem dX9_rise_9 : decode cX9_rise 9 = .ok (.ireturn, 1) := by decide +kernel
theorem dX9_rise_10 : decode cX9_rise 10 = .ok (.iconst 0, 1) := by decide +kernel
theorem dX9_rise_11 : decode cX9_rise 11 = .ok (.istore_n 2, 1) := by decide +kernel
theorem dX9_rise_12 : decode cX9_rise 12 = .ok (.iconst 0, 1) := by decide +kernel
theorem dX9_rise_13 : decode cX9_rise 13 = .ok (.istore_n 3, 1) := by decide +kernel
theorem dX9_rise_14 : decode cX9_rise 14 = .ok (.iconst (-1), 1) := by decide +kernel
theorem dX9_rise_15 : decode cX9_rise 15 = .ok (.istore 4, 2) := by decide +kernel
theorem dX9_rise_17 : decode cX9_rise 17 = .ok (.iconst 0, 1) := by decide +kernel
theorem dX9_rise_18 : decode cX9_rise 18 = .ok (.istore 5, 2) := by decide +kernel
theorem dX9_rise_20 : decode cX9_rise 20 = .ok (.iload 5, 2) := by decide +kernel
theorem dX9_rise_22 : decode cX9_rise 22 = .ok (.aload_n 0, 1) := by decide +kernel
theorem dX9_rise_23 : decode cX9_rise 23 = .ok (.getfield 30, 3) := by decide +kernel
theorem dX9_rise_26 : decode cX9_rise 26 = .ok (.getfield 98, 3) := by decide +kernel
theorem dX9_rise_29 : decode cX9_rise 29 = .ok (.getfield 172, 3) := by decide +kernel
theorem dX9_rise_32 : decode cX9_rise 32 = .ok (.if_icmp .ge 49, 3) := by decide +kernel
theorem dX9_rise_35 : decode cX9_rise 35 = .ok (.aload_n 0, 1) := by decide +kernel
theorem dX9_rise_36 : decode cX9_rise 36 = .ok (.getfield 30, 3) := by decide +kernel
theorem dX9_rise_39 : decode cX9_rise 39 = .ok (.getfield 98, 3) := by decide +kernel
theorem dX9_rise_42 : decode cX9_rise 42 = .ok (.iload_n 1, 1) := by decide +kernel
theorem dX9_rise_43 : decode cX9_rise 43 = .ok (.iload 5, 2) := by decide +kernel
theorem dX9_rise_45 : decode cX9_rise 45 = .ok (.invokevirtual 222, 3) := by decide +kernel
theorem dX9_rise_48 : decode cX9_rise 48 = .ok (.istore 6, 2) := by decide +kernel
theorem dX9_rise_50 : decode cX9_rise 50 = .ok (.iload 6, 2) := by decide +kernel
theorem dX9_rise_52 : decode cX9_rise 52 = .ok (.iload 4, 2) := by decide +kernel
theorem dX9_rise_54 : decode cX9_rise 54 = .ok (.if_icmp .le 9, 3) := by decide +kernel
theorem dX9_rise_57 : decode cX9_rise 57 = .ok (.iload_n 3, 1) := by decide +kernel
theorem dX9_rise_58 : decode cX9_rise 58 = .ok (.iconst 1, 1) := by decide +kernel
theorem dX9_rise_59 : decode cX9_rise 59 = .ok (.iadd, 1) := by decide +kernel
theorem dX9_rise_60 : decode cX9_rise 60 = .ok (.goto 4, 3) := by decide +kernel
theorem dX9_rise_63 : decode cX9_rise 63 = .ok (.iconst 1, 1) := by decide +kernel
theorem dX9_rise_64 : decode cX9_rise 64 = .ok (.istore_n 3, 1) := by decide +kernel
theorem dX9_rise_65 : decode cX9_rise 65 = .ok (.iload 6, 2) := by decide +kernel
theorem dX9_rise_67 : decode cX9_rise 67 = .ok (.istore 4, 2) := by decide +kernel
theorem dX9_rise_69 : decode cX9_rise 69 = .ok (.iload_n 2, 1) := by decide +kernel
theorem dX9_rise_70 : decode cX9_rise 70 = .ok (.iload_n 3, 1) := by decide +kernel
theorem dX9_rise_71 : decode cX9_rise 71 = .ok (.invokestatic 307, 3) := by decide +kernel
theorem dX9_rise_74 : decode cX9_rise 74 = .ok (.istore_n 2, 1) := by decide +kernel
theorem dX9_rise_75 : decode cX9_rise 75 = .ok (.iinc 5 1, 3) := by decide +kernel
theorem dX9_rise_78 : decode cX9_rise 78 = .ok (.goto (-58), 3) := by decide +kernel
theorem dX9_rise_81 : decode cX9_rise 81 = .ok (.iload_n 2, 1) := by decide +kernel
theorem dX9_rise_82 : decode cX9_rise 82 = .ok (.ireturn, 1) := by decide +kernel
theorem dX9_need_0 : decode cX9_need 0 = .ok (.aload_n 0, 1) := by decide +kernel
theorem dX9_need_1 : decode cX9_need 1 = .ok (.iload_n 1, 1) := by decide +kernel
theorem dX9_need_2 : decode cX9_need 2 = .ok (.invokevirtual 80, 3) := by decide +kernel
theorem dX9_need_5 : decode cX9_need 5 = .ok (.ifCond .eq 21, 3) := by decide +kernel
theorem dX9_need_8 : decode cX9_need 8 = .ok (.iload_n 2, 1) := by decide +kernel
theorem dX9_need_9 : decode cX9_need 9 = .ok (.iconst 0, 1) := by decide +kernel
theorem dX9_need_10 : decode cX9_need 10 = .ok (.aload_n 0, 1) := by decide +kernel
theorem dX9_need_11 : decode cX9_need 11 = .ok (.getfield 30, 3) := by decide +kernel
theorem dX9_need_14 : decode cX9_need 14 = .ok (.getfield 56, 3) := by decide +kernel
theorem dX9_need_17 : decode cX9_need 17 = .ok (.getfield 310, 3) := by decide +kernel
theorem dX9_need_20 : decode cX9_need 20 = .ok (.invokestatic 163, 3) := by decide +kernel
theorem dX9_need_23 : decode cX9_need 23 = .ok (.ifCond .ne 5, 3) := by decide +kernel
theorem dX9_need_26 : decode cX9_need 26 = .ok (.iconst (-1), 1) := by decide +kernel
theorem dX9_need_27 : decode cX9_need 27 = .ok (.ireturn, 1) := by decide +kernel
theorem dX9_need_28 : decode cX9_need 28 = .ok (.aload_n 0, 1) := by decide +kernel
theorem dX9_need_29 : decode cX9_need 29 = .ok (.getfield 30, 3) := by decide +kernel
theorem dX9_need_32 : decode cX9_need 32 = .ok (.getfield 56, 3) := by decide +kernel
theorem dX9_need_35 : decode cX9_need 35 = .ok (.getfield 91, 3) := by decide +kernel
theorem dX9_need_38 : decode cX9_need 38 = .ok (.iload_n 1, 1) := by decide +kernel
theorem dX9_need_39 : decode cX9_need 39 = .ok (.iaload, 1) := by decide +kernel
theorem dX9_need_40 : decode cX9_need 40 = .ok (.ifCond .eq 6, 3) := by decide +kernel
theorem dX9_need_43 : decode cX9_need 43 = .ok (.bipush (-2), 2) := by decide +kernel
theorem dX9_need_45 : decode cX9_need 45 = .ok (.ireturn, 1) := by decide +kernel
theorem dX9_need_46 : decode cX9_need 46 = .ok (.aload_n 0, 1) := by decide +kernel
theorem dX9_need_47 : decode cX9_need 47 = .ok (.getfield 30, 3) := by decide +kernel
theorem dX9_need_50 : decode cX9_need 50 = .ok (.iload_n 1, 1) := by decide +kernel
theorem dX9_need_51 : decode cX9_need 51 = .ok (.aload_n 0, 1) := by decide +kernel
theorem dX9_need_52 : decode cX9_need 52 = .ok (.getfield 30, 3) := by decide +kernel
theorem dX9_need_55 : decode cX9_need 55 = .ok (.invokevirtual 311, 3) := by decide +kernel
theorem dX9_need_58 : decode cX9_need 58 = .ok (.invokevirtual 232, 3) := by decide +kernel
theorem dX9_need_61 : decode cX9_need 61 = .ok (.astore_n 3, 1) := by decide +kernel
theorem dX9_need_62 : decode cX9_need 62 = .ok (.aload_n 3, 1) := by decide +kernel
theorem dX9_need_63 : decode cX9_need 63 = .ok (.ldc_w 314, 3) := by decide +kernel
theorem dX9_need_66 : decode cX9_need 66 = .ok (.invokevirtual 315, 3) := by decide +kernel
theorem dX9_need_69 : decode cX9_need 69 = .ok (.iload_n 2, 1) := by decide +kernel
theorem dX9_need_70 : decode cX9_need 70 = .ok (.if_icmp .ge 6, 3) := by decide +kernel
theorem dX9_need_73 : decode cX9_need 73 = .ok (.bipush (-2), 2) := by decide +kernel
theorem dX9_need_75 : decode cX9_need 75 = .ok (.ireturn, 1) := by decide +kernel
theorem dX9_need_76 : decode cX9_need 76 = .ok (.iconst 0, 1) := by decide +kernel
theorem dX9_need_77 : decode cX9_need 77 = .ok (.istore 4, 2) := by decide +kernel
theorem dX9_need_79 : decode cX9_need 79 = .ok (.ldc_w 314, 3) := by decide +kernel
theorem dX9_need_82 : decode cX9_need 82 = .ok (.istore 5, 2) := by decide +kernel
theorem dX9_need_84 : decode cX9_need 84 = .ok (.iconst 0, 1) := by decide +kernel
theorem dX9_need_85 : decode cX9_need 85 = .ok (.istore 6, 2) := by decide +kernel
theorem dX9_need_87 : decode cX9_need 87 = .ok (.iload 6, 2) := by decide +kernel
theorem dX9_need_89 : decode cX9_need 89 = .ok (.bipush 32, 2) := by decide +kernel
theorem dX9_need_91 : decode cX9_need 91 = .ok (.if_icmp .ge 48, 3) := by decide +kernel
theorem dX9_need_94 : decode cX9_need 94 = .ok (.iload 4, 2) := by decide +kernel
theorem dX9_need_96 : decode cX9_need 96 = .ok (.iload 5, 2) := by decide +kernel
theorem dX9_need_98 : decode cX9_need 98 = .ok (.if_icmp .ge 41, 3) := by decide +kernel
theorem dX9_need_101 : decode cX9_need 101 = .ok (.iload 4, 2) := by decide +kernel
theorem dX9_need_103 : decode cX9_need 103 = .ok (.iload 5, 2) := by decide +kernel
theorem dX9_need_105 : decode cX9_need 105 = .ok (.iadd, 1) := by decide +kernel
theorem dX9_need_106 : decode cX9_need 106 = .ok (.iconst 2, 1) := by decide +kernel
theorem dX9_need_107 : decode cX9_need 107 = .ok (.idiv, 1) := by decide +kernel
theorem dX9_need_108 : decode cX9_need 108 = .ok (.istore 7, 2) := by decide +kernel
theorem dX9_need_110 : decode cX9_need 110 = .ok (.aload_n 3, 1) := by decide +kernel
theorem dX9_need_111 : decode cX9_need 111 = .ok (.iload 7, 2) := by decide +kernel
theorem dX9_need_113 : decode cX9_need 113 = .ok (.invokevirtual 315, 3) := by decide +kernel
theorem dX9_need_116 : decode cX9_need 116 = .ok (.iload_n 2, 1) := by decide +kernel
theorem dX9_need_117 : decode cX9_need 117 = .ok (.if_icmp .lt 10, 3) := by decide +kernel
theorem dX9_need_120 : decode cX9_need 120 = .ok (.iload 7, 2) := by decide +kernel
theorem dX9_need_122 : decode cX9_need 122 = .ok (.istore 5, 2) := by decide +kernel
theorem dX9_need_124 : decode cX9_need 124 = .ok (.goto 9, 3) := by decide +kernel
theorem dX9_need_127 : decode cX9_need 127 = .ok (.iload 7, 2) := by decide +kernel
theorem dX9_need_129 : decode cX9_need 129 = .ok (.iconst 1, 1) := by decide +kernel
theorem dX9_need_130 : decode cX9_need 130 = .ok (.iadd, 1) := by decide +kernel
theorem dX9_need_131 : decode cX9_need 131 = .ok (.istore 4, 2) := by decide +kernel
theorem dX9_need_133 : decode cX9_need 133 = .ok (.iinc 6 1, 3) := by decide +kernel
theorem dX9_need_136 : decode cX9_need 136 = .ok (.goto (-49), 3) := by decide +kernel
theorem dX9_need_139 : decode cX9_need 139 = .ok (.iload 4, 2) := by decide +kernel
theorem dX9_need_141 : decode cX9_need 141 = .ok (.ireturn, 1) := by decide +kernel
theorem dX9_room_0 : decode cX9_room 0 = .ok (.aload_n 0, 1) := by decide +kernel
theorem dX9_room_1 : decode cX9_room 1 = .ok (.iload_n 1, 1) := by decide +kernel
theorem dX9_room_2 : decode cX9_room 2 = .ok (.invokevirtual 80, 3) := by decide +kernel
theorem dX9_room_5 : decode cX9_room 5 = .ok (.ifCond .eq 12, 3) := by decide +kernel
theorem dX9_room_8 : decode cX9_room 8 = .ok (.iload_n 2, 1) := by decide +kernel
theorem dX9_room_9 : decode cX9_room 9 = .ok (.iconst 0, 1) := by decide +kernel
theorem dX9_room_10 : decode cX9_room 10 = .ok (.iconst 2, 1) := by decide +kernel
theorem dX9_room_11 : decode cX9_room 11 = .ok (.invokestatic 163, 3) := by decide +kernel
theorem dX9_room_14 : decode cX9_room 14 = .ok (.ifCond .ne 5, 3) := by decide +kernel
theorem dX9_room_17 : decode cX9_room 17 = .ok (.iconst (-1), 1) := by decide +kernel
theorem dX9_room_18 : decode cX9_room 18 = .ok (.ireturn, 1) := by decide +kernel
theorem dX9_room_19 : decode cX9_room 19 = .ok (.aload_n 0, 1) := by decide +kernel
theorem dX9_room_20 : decode cX9_room 20 = .ok (.getfield 30, 3) := by decide +kernel
theorem dX9_room_23 : decode cX9_room 23 = .ok (.iload_n 1, 1) := by decide +kernel
theorem dX9_room_24 : decode cX9_room 24 = .ok (.aload_n 0, 1) := by decide +kernel
theorem dX9_room_25 : decode cX9_room 25 = .ok (.getfield 30, 3) := by decide +kernel
theorem dX9_room_28 : decode cX9_room 28 = .ok (.invokevirtual 311, 3) := by decide +kernel
theorem dX9_room_31 : decode cX9_room 31 = .ok (.invokevirtual 232, 3) := by decide +kernel
theorem dX9_room_34 : decode cX9_room 34 = .ok (.astore_n 3, 1) := by decide +kernel
theorem dX9_room_35 : decode cX9_room 35 = .ok (.aload_n 3, 1) := by decide +kernel
theorem dX9_room_36 : decode cX9_room 36 = .ok (.aload_n 3, 1) := by decide +kernel
theorem dX9_room_37 : decode cX9_room 37 = .ok (.invokevirtual 285, 3) := by decide +kernel
theorem dX9_room_40 : decode cX9_room 40 = .ok (.invokevirtual 241, 3) := by decide +kernel
theorem dX9_room_43 : decode cX9_room 43 = .ok (.ifCond .ne 6, 3) := by decide +kernel
theorem dX9_room_46 : decode cX9_room 46 = .ok (.bipush (-2), 2) := by decide +kernel
theorem dX9_room_48 : decode cX9_room 48 = .ok (.ireturn, 1) := by decide +kernel
theorem dX9_room_49 : decode cX9_room 49 = .ok (.iconst 1, 1) := by decide +kernel
theorem dX9_room_50 : decode cX9_room 50 = .ok (.istore 4, 2) := by decide +kernel
theorem dX9_room_52 : decode cX9_room 52 = .ok (.iload 4, 2) := by decide +kernel
theorem dX9_room_54 : decode cX9_room 54 = .ok (.sipush 9999, 3) := by decide +kernel
theorem dX9_room_57 : decode cX9_room 57 = .ok (.if_icmp .gt 37, 3) := by decide +kernel
theorem dX9_room_60 : decode cX9_room 60 = .ok (.aload_n 3, 1) := by decide +kernel
theorem dX9_room_61 : decode cX9_room 61 = .ok (.getfield 318, 3) := by decide +kernel
theorem dX9_room_64 : decode cX9_room 64 = .ok (.iconst 2, 1) := by decide +kernel
theorem dX9_room_65 : decode cX9_room 65 = .ok (.iload_n 2, 1) := by decide +kernel
theorem dX9_room_66 : decode cX9_room 66 = .ok (.iadd, 1) := by decide +kernel
theorem dX9_room_67 : decode cX9_room 67 = .ok (.dup2, 1) := by decide +kernel
theorem dX9_room_68 : decode cX9_room 68 = .ok (.laload, 1) := by decide +kernel
theorem dX9_room_69 : decode cX9_room 69 = .ok (.lconst 1, 1) := by decide +kernel
theorem dX9_room_70 : decode cX9_room 70 = .ok (.ladd, 1) := by decide +kernel
theorem dX9_room_71 : decode cX9_room 71 = .ok (.lastore, 1) := by decide +kernel
theorem dX9_room_72 : decode cX9_room 72 = .ok (.aload_n 3, 1) := by decide +kernel
theorem dX9_room_73 : decode cX9_room 73 = .ok (.aload_n 3, 1) := by decide +kernel
theorem dX9_room_74 : decode cX9_room 74 = .ok (.invokevirtual 285, 3) := by decide +kernel
theorem dX9_room_77 : decode cX9_room 77 = .ok (.invokevirtual 241, 3) := by decide +kernel
theorem dX9_room_80 : decode cX9_room 80 = .ok (.ifCond .ne 8, 3) := by decide +kernel
theorem dX9_room_83 : decode cX9_room 83 = .ok (.iload 4, 2) := by decide +kernel
theorem dX9_room_85 : decode cX9_room 85 = .ok (.iconst 1, 1) := by decide +kernel
theorem dX9_room_86 : decode cX9_room 86 = .ok (.isub, 1) := by decide +kernel
theorem dX9_room_87 : decode cX9_room 87 = .ok (.ireturn, 1) := by decide +kernel
theorem dX9_room_88 : decode cX9_room 88 = .ok (.iinc 4 1, 3) := by decide +kernel
theorem dX9_room_91 : decode cX9_room 91 = .ok (.goto (-39), 3) := by decide +kernel
theorem dX9_room_94 : decode cX9_room 94 = .ok (.sipush 9999, 3) := by decide +kernel
theorem dX9_room_97 : decode cX9_room 97 = .ok (.ireturn, 1) := by decide +kernel
theorem dX9_would_0 : decode cX9_would 0 = .ok (.aload_n 0, 1) := by decide +kernel
theorem dX9_would_1 : decode cX9_would 1 = .ok (.iload_n 1, 1) := by decide +kernel
theorem dX9_would_2 : decode cX9_would 2 = .ok (.invokevirtual 322, 3) := by decide +kernel
theorem dX9_would_5 : decode cX9_would 5 = .ok (.ifCond .eq 12, 3) := by decide +kernel
theorem dX9_would_8 : decode cX9_would 8 = .ok (.iload_n 2, 1) := by decide +kernel
theorem dX9_would_9 : decode cX9_would 9 = .ok (.iconst 0, 1) := by decide +kernel
theorem dX9_would_10 : decode cX9_would 10 = .ok (.iconst 1, 1) := by decide +kernel
theorem dX9_would_11 : decode cX9_would 11 = .ok (.invokestatic 163, 3) := by decide +kernel
theorem dX9_would_14 : decode cX9_would 14 = .ok (.ifCond .ne 6, 3) := by decide +kernel
theorem dX9_would_17 : decode cX9_would 17 = .ok (.ldc 228, 2) := by decide +kernel
theorem dX9_would_19 : decode cX9_would 19 = .ok (.ireturn, 1) := by decide +kernel
theorem dX9_would_20 : decode cX9_would 20 = .ok (.aload_n 0, 1) := by decide +kernel
theorem dX9_would_21 : decode cX9_would 21 = .ok (.getfield 30, 3) := by decide +kernel
theorem dX9_would_24 : decode cX9_would 24 = .ok (.getfield 98, 3) := by decide +kernel
theorem dX9_would_27 : decode cX9_would 27 = .ok (.getfield 124, 3) := by decide +kernel
theorem dX9_would_30 : decode cX9_would 30 = .ok (.iload_n 1, 1) := by decide +kernel
theorem dX9_would_31 : decode cX9_would 31 = .ok (.aaload, 1) := by decide +kernel
theorem dX9_would_32 : decode cX9_would 32 = .ok (.astore_n 3, 1) := by decide +kernel
theorem dX9_would_33 : decode cX9_would 33 = .ok (.aload_n 0, 1) := by decide +kernel
theorem dX9_would_34 : decode cX9_would 34 = .ok (.getfield 30, 3) := by decide +kernel
theorem dX9_would_37 : decode cX9_would 37 = .ok (.aload_n 3, 1) := by decide +kernel
theorem dX9_would_38 : decode cX9_would 38 = .ok (.iload_n 2, 1) := by decide +kernel
theorem dX9_would_39 : decode cX9_would 39 = .ok (.aload_n 3, 1) := by decide +kernel
theorem dX9_would_40 : decode cX9_would 40 = .ok (.invokevirtual 198, 3) := by decide +kernel
theorem dX9_would_43 : decode cX9_would 43 = .ok (.aload_n 0, 1) := by decide +kernel
theorem dX9_would_44 : decode cX9_would 44 = .ok (.getfield 30, 3) := by decide +kernel
theorem dX9_would_47 : decode cX9_would 47 = .ok (.aload_n 3, 1) := by decide +kernel
theorem dX9_would_48 : decode cX9_would 48 = .ok (.invokevirtual 325, 3) := by decide +kernel
theorem dX9_would_51 : decode cX9_would 51 = .ok (.invokevirtual 329, 3) := by decide +kernel
theorem dX9_would_54 : decode cX9_would 54 = .ok (.ireturn, 1) := by decide +kernel
theorem dX9_bestWait_0 : decode cX9_bestWait 0 = .ok (.aload_n 0, 1) := by decide +kernel
theorem dX9_bestWait_1 : decode cX9_bestWait 1 = .ok (.iload_n 1, 1) := by decide +kernel
theorem dX9_bestWait_2 : decode cX9_bestWait 2 = .ok (.invokevirtual 121, 3) := by decide +kernel
theorem dX9_bestWait_5 : decode cX9_bestWait 5 = .ok (.ifCond .eq 12, 3) := by decide +kernel
theorem dX9_bestWait_8 : decode cX9_bestWait 8 = .ok (.iload_n 2, 1) := by decide +kernel
theorem dX9_bestWait_9 : decode cX9_bestWait 9 = .ok (.iconst 0, 1) := by decide +kernel
theorem dX9_bestWait_10 : decode cX9_bestWait 10 = .ok (.iconst 1, 1) := by decide +kernel
theorem dX9_bestWait_11 : decode cX9_bestWait 11 = .ok (.invokestatic 163, 3) := by decide +kernel
theorem dX9_bestWait_14 : decode cX9_bestWait 14 = .ok (.ifCond .ne 5, 3) := by decide +kernel
theorem dX9_bestWait_17 : decode cX9_bestWait 17 = .ok (.iconst (-1), 1) := by decide +kernel
theorem dX9_bestWait_18 : decode cX9_bestWait 18 = .ok (.ireturn, 1) := by decide +kernel
theorem dX9_bestWait_19 : decode cX9_bestWait 19 = .ok (.aload_n 0, 1) := by decide +kernel
theorem dX9_bestWait_20 : decode cX9_bestWait 20 = .ok (.iload_n 1, 1) := by decide +kernel
theorem dX9_bestWait_21 : decode cX9_bestWait 21 = .ok (.invokevirtual 322, 3) := by decide +kernel
theorem dX9_bestWait_24 : decode cX9_bestWait 24 = .ok (.ifCond .ne 6, 3) := by decide +kernel
theorem dX9_bestWait_27 : decode cX9_bestWait 27 = .ok (.bipush (-2), 2) := by decide +kernel
theorem dX9_bestWait_29 : decode cX9_bestWait 29 = .ok (.ireturn, 1) := by decide +kernel
theorem dX9_bestWait_30 : decode cX9_bestWait 30 = .ok (.aload_n 0, 1) := by decide +kernel
theorem dX9_bestWait_31 : decode cX9_bestWait 31 = .ok (.getfield 30, 3) := by decide +kernel
theorem dX9_bestWait_34 : decode cX9_bestWait 34 = .ok (.getfield 98, 3) := by decide +kernel
theorem dX9_bestWait_37 : decode cX9_bestWait 37 = .ok (.getfield 124, 3) := by decide +kernel
theorem dX9_bestWait_40 : decode cX9_bestWait 40 = .ok (.iload_n 1, 1) := by decide +kernel
theorem dX9_bestWait_41 : decode cX9_bestWait 41 = .ok (.aaload, 1) := by decide +kernel
theorem dX9_bestWait_42 : decode cX9_bestWait 42 = .ok (.astore_n 3, 1) := by decide +kernel
theorem dX9_bestWait_43 : decode cX9_bestWait 43 = .ok (.aload_n 0, 1) := by decide +kernel
theorem dX9_bestWait_44 : decode cX9_bestWait 44 = .ok (.getfield 30, 3) := by decide +kernel
theorem dX9_bestWait_47 : decode cX9_bestWait 47 = .ok (.aload_n 3, 1) := by decide +kernel
theorem dX9_bestWait_48 : decode cX9_bestWait 48 = .ok (.invokevirtual 325, 3) := by decide +kernel
theorem dX9_bestWait_51 : decode cX9_bestWait 51 = .ok (.istore 4, 2) := by decide +kernel
theorem dX9_bestWait_53 : decode cX9_bestWait 53 = .ok (.aload_n 0, 1) := by decide +kernel
theorem dX9_bestWait_54 : decode cX9_bestWait 54 = .ok (.getfield 30, 3) := by decide +kernel
theorem dX9_bestWait_57 : decode cX9_bestWait 57 = .ok (.aload_n 3, 1) := by decide +kernel
theorem dX9_bestWait_58 : decode cX9_bestWait 58 = .ok (.aload_n 0, 1) := by decide +kernel
theorem dX9_bestWait_59 : decode cX9_bestWait 59 = .ok (.getfield 30, 3) := by decide +kernel
theorem dX9_bestWait_62 : decode cX9_bestWait 62 = .ok (.aload_n 3, 1) := by decide +kernel
theorem dX9_bestWait_63 : decode cX9_bestWait 63 = .ok (.aload_n 3, 1) := by decide +kernel
theorem dX9_bestWait_64 : decode cX9_bestWait 64 = .ok (.getfield 133, 3) := by decide +kernel
theorem dX9_bestWait_67 : decode cX9_bestWait 67 = .ok (.invokevirtual 333, 3) := by decide +kernel
theorem dX9_bestWait_70 : decode cX9_bestWait 70 = .ok (.iload 4, 2) := by decide +kernel
theorem dX9_bestWait_72 : decode cX9_bestWait 72 = .ok (.invokevirtual 337, 3) := by decide +kernel
theorem dX9_bestWait_75 : decode cX9_bestWait 75 = .ok (.istore 5, 2) := by decide +kernel
theorem dX9_bestWait_77 : decode cX9_bestWait 77 = .ok (.iconst 0, 1) := by decide +kernel
theorem dX9_bestWait_78 : decode cX9_bestWait 78 = .ok (.istore 6, 2) := by decide +kernel
theorem dX9_bestWait_80 : decode cX9_bestWait 80 = .ok (.iconst 0, 1) := by decide +kernel
theorem dX9_bestWait_81 : decode cX9_bestWait 81 = .ok (.istore 7, 2) := by decide +kernel
theorem dX9_bestWait_83 : decode cX9_bestWait 83 = .ok (.iconst 0, 1) := by decide +kernel
theorem dX9_bestWait_84 : decode cX9_bestWait 84 = .ok (.istore 8, 2) := by decide +kernel
theorem dX9_bestWait_86 : decode cX9_bestWait 86 = .ok (.iload 8, 2) := by decide +kernel
theorem dX9_bestWait_88 : decode cX9_bestWait 88 = .ok (.aload_n 3, 1) := by decide +kernel
theorem dX9_bestWait_89 : decode cX9_bestWait 89 = .ok (.invokevirtual 198, 3) := by decide +kernel
theorem dX9_bestWait_92 : decode cX9_bestWait 92 = .ok (.if_icmp .gt 55, 3) := by decide +kernel
theorem dX9_bestWait_95 : decode cX9_bestWait 95 = .ok (.iload 5, 2) := by decide +kernel
theorem dX9_bestWait_97 : decode cX9_bestWait 97 = .ok (.iload 8, 2) := by decide +kernel
theorem dX9_bestWait_99 : decode cX9_bestWait 99 = .ok (.imul, 1) := by decide +kernel
theorem dX9_bestWait_100 : decode cX9_bestWait 100 = .ok (.aload_n 0, 1) := by decide +kernel
theorem dX9_bestWait_101 : decode cX9_bestWait 101 = .ok (.getfield 30, 3) := by decide +kernel
theorem dX9_bestWait_104 : decode cX9_bestWait 104 = .ok (.aload_n 3, 1) := by decide +kernel
theorem dX9_bestWait_105 : decode cX9_bestWait 105 = .ok (.iload_n 2, 1) := by decide +kernel
theorem dX9_bestWait_106 : decode cX9_bestWait 106 = .ok (.aload_n 3, 1) := by decide +kernel
theorem dX9_bestWait_107 : decode cX9_bestWait 107 = .ok (.invokevirtual 198, 3) := by decide +kernel
theorem dX9_bestWait_110 : decode cX9_bestWait 110 = .ok (.iload 8, 2) := by decide +kernel
theorem dX9_bestWait_112 : decode cX9_bestWait 112 = .ok (.isub, 1) := by decide +kernel
theorem dX9_bestWait_113 : decode cX9_bestWait 113 = .ok (.iload 4, 2) := by decide +kernel
theorem dX9_bestWait_115 : decode cX9_bestWait 115 = .ok (.invokevirtual 329, 3) := by decide +kernel
theorem dX9_bestWait_118 : decode cX9_bestWait 118 = .ok (.iadd, 1) := by decide +kernel
theorem dX9_bestWait_119 : decode cX9_bestWait 119 = .ok (.istore 9, 2) := by decide +kernel
theorem dX9_bestWait_121 : decode cX9_bestWait 121 = .ok (.iload 8, 2) := by decide +kernel
theorem dX9_bestWait_123 : decode cX9_bestWait 123 = .ok (.ifCond .eq 10, 3) := by decide +kernel
theorem dX9_bestWait_126 : decode cX9_bestWait 126 = .ok (.iload 9, 2) := by decide +kernel
theorem dX9_bestWait_128 : decode cX9_bestWait 128 = .ok (.iload 7, 2) := by decide +kernel
theorem dX9_bestWait_130 : decode cX9_bestWait 130 = .ok (.if_icmp .le 11, 3) := by decide +kernel
theorem dX9_bestWait_133 : decode cX9_bestWait 133 = .ok (.iload 9, 2) := by decide +kernel
theorem dX9_bestWait_135 : decode cX9_bestWait 135 = .ok (.istore 7, 2) := by decide +kernel
theorem dX9_bestWait_137 : decode cX9_bestWait 137 = .ok (.iload 8, 2) := by decide +kernel
theorem dX9_bestWait_139 : decode cX9_bestWait 139 = .ok (.istore 6, 2) := by decide +kernel
theorem dX9_bestWait_141 : decode cX9_bestWait 141 = .ok (.iinc 8 1, 3) := by decide +kernel
theorem dX9_bestWait_144 : decode cX9_bestWait 144 = .ok (.goto (-58), 3) := by decide +kernel
theorem dX9_bestWait_147 : decode cX9_bestWait 147 = .ok (.iload 6, 2) := by decide +kernel
theorem dX9_bestWait_149 : decode cX9_bestWait 149 = .ok (.ireturn, 1) := by decide +kernel
theorem dX9_project_0 : decode cX9_project 0 = .ok (.aload_n 0, 1) := by decide +kernel
theorem dX9_project_1 : decode cX9_project 1 = .ok (.iload_n 1, 1) := by decide +kernel
theorem dX9_project_2 : decode cX9_project 2 = .ok (.invokevirtual 322, 3) := by decide +kernel
theorem dX9_project_5 : decode cX9_project 5 = .ok (.ifCond .eq 28, 3) := by decide +kernel
theorem dX9_project_8 : decode cX9_project 8 = .ok (.iload_n 2, 1) := by decide +kernel
theorem dX9_project_9 : decode cX9_project 9 = .ok (.iconst 1, 1) := by decide +kernel
theorem dX9_project_10 : decode cX9_project 10 = .ok (.aload_n 0, 1) := by decide +kernel
theorem dX9_project_11 : decode cX9_project 11 = .ok (.getfield 30, 3) := by decide +kernel
theorem dX9_project_14 : decode cX9_project 14 = .ok (.getfield 98, 3) := by decide +kernel
theorem dX9_project_17 : decode cX9_project 17 = .ok (.getfield 124, 3) := by decide +kernel
theorem dX9_project_20 : decode cX9_project 20 = .ok (.iload_n 1, 1) := by decide +kernel
theorem dX9_project_21 : decode cX9_project 21 = .ok (.aaload, 1) := by decide +kernel
theorem dX9_project_22 : decode cX9_project 22 = .ok (.invokevirtual 198, 3) := by decide +kernel
theorem dX9_project_25 : decode cX9_project 25 = .ok (.iconst 1, 1) := by decide +kernel
theorem dX9_project_26 : decode cX9_project 26 = .ok (.iadd, 1) := by decide +kernel
theorem dX9_project_27 : decode cX9_project 27 = .ok (.invokestatic 163, 3) := by decide +kernel
theorem dX9_project_30 : decode cX9_project 30 = .ok (.ifCond .ne 6, 3) := by decide +kernel
theorem dX9_project_33 : decode cX9_project 33 = .ok (.ldc 228, 2) := by decide +kernel
theorem dX9_project_35 : decode cX9_project 35 = .ok (.ireturn, 1) := by decide +kernel
theorem dX9_project_36 : decode cX9_project 36 = .ok (.aload_n 0, 1) := by decide +kernel
theorem dX9_project_37 : decode cX9_project 37 = .ok (.getfield 30, 3) := by decide +kernel
theorem dX9_project_40 : decode cX9_project 40 = .ok (.getfield 98, 3) := by decide +kernel
theorem dX9_project_43 : decode cX9_project 43 = .ok (.getfield 124, 3) := by decide +kernel
theorem dX9_project_46 : decode cX9_project 46 = .ok (.iload_n 1, 1) := by decide +kernel
theorem dX9_project_47 : decode cX9_project 47 = .ok (.aaload, 1) := by decide +kernel
theorem dX9_project_48 : decode cX9_project 48 = .ok (.astore_n 3, 1) := by decide +kernel
theorem dX9_project_49 : decode cX9_project 49 = .ok (.aload_n 0, 1) := by decide +kernel
theorem dX9_project_50 : decode cX9_project 50 = .ok (.getfield 30, 3) := by decide +kernel
theorem dX9_project_53 : decode cX9_project 53 = .ok (.aload_n 3, 1) := by decide +kernel
theorem dX9_project_54 : decode cX9_project 54 = .ok (.aload_n 3, 1) := by decide +kernel
theorem dX9_project_55 : decode cX9_project 55 = .ok (.getfield 133, 3) := by decide +kernel
theorem dX9_project_58 : decode cX9_project 58 = .ok (.invokevirtual 333, 3) := by decide +kernel
theorem dX9_project_61 : decode cX9_project 61 = .ok (.istore 4, 2) := by decide +kernel
theorem dX9_project_63 : decode cX9_project 63 = .ok (.aload_n 3, 1) := by decide +kernel
theorem dX9_project_64 : decode cX9_project 64 = .ok (.getfield 145, 3) := by decide +kernel
theorem dX9_project_67 : decode cX9_project 67 = .ok (.ifCond .ne 14, 3) := by decide +kernel
theorem dX9_project_70 : decode cX9_project 70 = .ok (.aload_n 0, 1) := by decide +kernel
theorem dX9_project_71 : decode cX9_project 71 = .ok (.getfield 30, 3) := by decide +kernel
theorem dX9_project_74 : decode cX9_project 74 = .ok (.aload_n 3, 1) := by decide +kernel
theorem dX9_project_75 : decode cX9_project 75 = .ok (.iload 4, 2) := by decide +kernel
theorem dX9_project_77 : decode cX9_project 77 = .ok (.invokevirtual 341, 3) := by decide +kernel
theorem dX9_project_80 : decode cX9_project 80 = .ok (.ireturn, 1) := by decide +kernel
theorem dX9_project_81 : decode cX9_project 81 = .ok (.aload_n 3, 1) := by decide +kernel
theorem dX9_project_82 : decode cX9_project 82 = .ok (.getfield 256, 3) := by decide +kernel
theorem dX9_project_85 : decode cX9_project 85 = .ok (.aload_n 0, 1) := by decide +kernel
theorem dX9_project_86 : decode cX9_project 86 = .ok (.getfield 30, 3) := by decide +kernel
theorem dX9_project_89 : decode cX9_project 89 = .ok (.aload_n 3, 1) := by decide +kernel
theorem dX9_project_90 : decode cX9_project 90 = .ok (.iload 4, 2) := by decide +kernel
theorem dX9_project_92 : decode cX9_project 92 = .ok (.aload_n 3, 1) := by decide +kernel
theorem dX9_project_93 : decode cX9_project 93 = .ok (.getfield 148, 3) := by decide +kernel
theorem dX9_project_96 : decode cX9_project 96 = .ok (.invokevirtual 337, 3) := by decide +kernel
theorem dX9_project_99 : decode cX9_project 99 = .ok (.iload_n 2, 1) := by decide +kernel
theorem dX9_project_100 : decode cX9_project 100 = .ok (.imul, 1) := by decide +kernel
theorem dX9_project_101 : decode cX9_project 101 = .ok (.iadd, 1) := by decide +kernel
theorem dX9_project_102 : decode cX9_project 102 = .ok (.ireturn, 1) := by decide +kernel
theorem dX9_ifUse_0 : decode cX9_ifUse 0 = .ok (.aload_n 0, 1) := by decide +kernel
theorem dX9_ifUse_1 : decode cX9_ifUse 1 = .ok (.iload_n 1, 1) := by decide +kernel
theorem dX9_ifUse_2 : decode cX9_ifUse 2 = .ok (.invokevirtual 121, 3) := by decide +kernel
theorem dX9_ifUse_5 : decode cX9_ifUse 5 = .ok (.ifCond .eq 30, 3) := by decide +kernel
theorem dX9_ifUse_8 : decode cX9_ifUse 8 = .ok (.iload_n 2, 1) := by decide +kernel
theorem dX9_ifUse_9 : decode cX9_ifUse 9 = .ok (.iconst 0, 1) := by decide +kernel
theorem dX9_ifUse_10 : decode cX9_ifUse 10 = .ok (.iconst 2, 1) := by decide +kernel
theorem dX9_ifUse_11 : decode cX9_ifUse 11 = .ok (.invokestatic 163, 3) := by decide +kernel
theorem dX9_ifUse_14 : decode cX9_ifUse 14 = .ok (.ifCond .eq 21, 3) := by decide +kernel
theorem dX9_ifUse_17 : decode cX9_ifUse 17 = .ok (.aload_n 0, 1) := by decide +kernel
theorem dX9_ifUse_18 : decode cX9_ifUse 18 = .ok (.getfield 30, 3) := by decide +kernel
theorem dX9_ifUse_21 : decode cX9_ifUse 21 = .ok (.getfield 98, 3) := by decide +kernel
theorem dX9_ifUse_24 : decode cX9_ifUse 24 = .ok (.getfield 124, 3) := by decide +kernel
theorem dX9_ifUse_27 : decode cX9_ifUse 27 = .ok (.iload_n 1, 1) := by decide +kernel
theorem dX9_ifUse_28 : decode cX9_ifUse 28 = .ok (.aaload, 1) := by decide +kernel
theorem dX9_ifUse_29 : decode cX9_ifUse 29 = .ok (.invokevirtual 188, 3) := by decide +kernel
theorem dX9_ifUse_32 : decode cX9_ifUse 32 = .ok (.ifCond .ne 6, 3) := by decide +kernel
theorem dX9_ifUse_35 : decode cX9_ifUse 35 = .ok (.ldc 228, 2) := by decide +kernel
theorem dX9_ifUse_37 : decode cX9_ifUse 37 = .ok (.ireturn, 1) := by decide +kernel
theorem dX9_ifUse_38 : decode cX9_ifUse 38 = .ok (.aload_n 0, 1) := by decide +kernel
theorem dX9_ifUse_39 : decode cX9_ifUse 39 = .ok (.getfield 30, 3) := by decide +kernel
theorem dX9_ifUse_42 : decode cX9_ifUse 42 = .ok (.aload_n 0, 1) := by decide +kernel
theorem dX9_ifUse_43 : decode cX9_ifUse 43 = .ok (.getfield 30, 3) := by decide +kernel
theorem dX9_ifUse_46 : decode cX9_ifUse 46 = .ok (.getfield 98, 3) := by decide +kernel
theorem dX9_ifUse_49 : decode cX9_ifUse 49 = .ok (.getfield 124, 3) := by decide +kernel
theorem dX9_ifUse_52 : decode cX9_ifUse 52 = .ok (.iload_n 1, 1) := by decide +kernel
theorem dX9_ifUse_53 : decode cX9_ifUse 53 = .ok (.aaload, 1) := by decide +kernel
theorem dX9_ifUse_54 : decode cX9_ifUse 54 = .ok (.iload_n 2, 1) := by decide +kernel
theorem dX9_ifUse_55 : decode cX9_ifUse 55 = .ok (.invokevirtual 333, 3) := by decide +kernel
theorem dX9_ifUse_58 : decode cX9_ifUse 58 = .ok (.ireturn, 1) := by decide +kernel
theorem dX9_owners_0 : decode cX9_owners 0 = .ok (.aload_n 0, 1) := by decide +kernel
theorem dX9_owners_1 : decode cX9_owners 1 = .ok (.iload_n 1, 1) := by decide +kernel
theorem dX9_owners_2 : decode cX9_owners 2 = .ok (.invokevirtual 121, 3) := by decide +kernel
theorem dX9_owners_5 : decode cX9_owners 5 = .ok (.ifCond .ne 5, 3) := by decide +kernel
theorem dX9_owners_8 : decode cX9_owners 8 = .ok (.iconst (-1), 1) := by decide +kernel
theorem dX9_owners_9 : decode cX9_owners 9 = .ok (.ireturn, 1) := by decide +kernel
theorem dX9_owners_10 : decode cX9_owners 10 = .ok (.aload_n 0, 1) := by decide +kernel
theorem dX9_owners_11 : decode cX9_owners 11 = .ok (.getfield 30, 3) := by decide +kernel
theorem dX9_owners_14 : decode cX9_owners 14 = .ok (.getfield 98, 3) := by decide +kernel
theorem dX9_owners_17 : decode cX9_owners 17 = .ok (.getfield 124, 3) := by decide +kernel
theorem dX9_owners_20 : decode cX9_owners 20 = .ok (.iload_n 1, 1) := by decide +kernel
theorem dX9_owners_21 : decode cX9_owners 21 = .ok (.aaload, 1) := by decide +kernel
theorem dX9_owners_22 : decode cX9_owners 22 = .ok (.astore_n 2, 1) := by decide +kernel
theorem dX9_owners_23 : decode cX9_owners 23 = .ok (.aload_n 2, 1) := by decide +kernel
theorem dX9_owners_24 : decode cX9_owners 24 = .ok (.getfield 154, 3) := by decide +kernel
theorem dX9_owners_27 : decode cX9_owners 27 = .ok (.ifCond .eq 7, 3) := by decide +kernel
theorem dX9_owners_30 : decode cX9_owners 30 = .ok (.iconst 0, 1) := by decide +kernel
theorem dX9_owners_31 : decode cX9_owners 31 = .ok (.goto 9, 3) := by decide +kernel
theorem dX9_owners_34 : decode cX9_owners 34 = .ok (.iconst 1, 1) := by decide +kernel
theorem dX9_owners_35 : decode cX9_owners 35 = .ok (.aload_n 2, 1) := by decide +kernel
theorem dX9_owners_36 : decode cX9_owners 36 = .ok (.getfield 128, 3) := by decide +kernel
theorem dX9_owners_39 : decode cX9_owners 39 = .ok (.ishl, 1) := by decide +kernel
theorem dX9_owners_40 : decode cX9_owners 40 = .ok (.istore_n 3, 1) := by decide +kernel
theorem dX9_owners_41 : decode cX9_owners 41 = .ok (.iconst 0, 1) := by decide +kernel
theorem dX9_owners_42 : decode cX9_owners 42 = .ok (.istore 4, 2) := by decide +kernel
theorem dX9_owners_44 : decode cX9_owners 44 = .ok (.iload 4, 2) := by decide +kernel
theorem dX9_owners_46 : decode cX9_owners 46 = .ok (.aload_n 2, 1) := by decide +kernel
theorem dX9_owners_47 : decode cX9_owners 47 = .ok (.getfield 145, 3) := by decide +kernel
theorem dX9_owners_50 : decode cX9_owners 50 = .ok (.if_icmp .ge 31, 3) := by decide +kernel
theorem dX9_owners_53 : decode cX9_owners 53 = .ok (.iload 4, 2) := by decide +kernel
theorem dX9_owners_55 : decode cX9_owners 55 = .ok (.aload_n 2, 1) := by decide +kernel
theorem dX9_owners_56 : decode cX9_owners 56 = .ok (.getfield 253, 3) := by decide +kernel
theorem dX9_owners_59 : decode cX9_owners 59 = .ok (.arraylength, 1) := by decide +kernel
theorem dX9_owners_60 : decode cX9_owners 60 = .ok (.if_icmp .ge 21, 3) := by decide +kernel
theorem dX9_owners_63 : decode cX9_owners 63 = .ok (.iload_n 3, 1) := by decide +kernel
theorem dX9_owners_64 : decode cX9_owners 64 = .ok (.iconst 1, 1) := by decide +kernel
theorem dX9_owners_65 : decode cX9_owners 65 = .ok (.aload_n 2, 1) := by decide +kernel
theorem dX9_owners_66 : decode cX9_owners 66 = .ok (.getfield 253, 3) := by decide +kernel
theorem dX9_owners_69 : decode cX9_owners 69 = .ok (.iload 4, 2) := by decide +kernel
theorem dX9_owners_71 : decode cX9_owners 71 = .ok (.iaload, 1) := by decide +kernel
theorem dX9_owners_72 : decode cX9_owners 72 = .ok (.ishl, 1) := by decide +kernel
theorem dX9_owners_73 : decode cX9_owners 73 = .ok (.ior, 1) := by decide +kernel
theorem dX9_owners_74 : decode cX9_owners 74 = .ok (.istore_n 3, 1) := by decide +kernel
theorem dX9_owners_75 : decode cX9_owners 75 = .ok (.iinc 4 1, 3) := by decide +kernel
theorem dX9_owners_78 : decode cX9_owners 78 = .ok (.goto (-34), 3) := by decide +kernel
theorem dX9_owners_81 : decode cX9_owners 81 = .ok (.iload_n 3, 1) := by decide +kernel
theorem dX9_owners_82 : decode cX9_owners 82 = .ok (.invokestatic 344, 3) := by decide +kernel
theorem dX9_owners_85 : decode cX9_owners 85 = .ok (.ireturn, 1) := by decide +kernel
theorem dX9_even_0 : decode cX9_even 0 = .ok (.aload_n 0, 1) := by decide +kernel
theorem dX9_even_1 : decode cX9_even 1 = .ok (.iload_n 1, 1) := by decide +kernel
theorem dX9_even_2 : decode cX9_even 2 = .ok (.invokevirtual 121, 3) := by decide +kernel
theorem dX9_even_5 : decode cX9_even 5 = .ok (.ifCond .eq 15, 3) := by decide +kernel
theorem dX9_even_8 : decode cX9_even 8 = .ok (.iload_n 2, 1) := by decide +kernel
theorem dX9_even_9 : decode cX9_even 9 = .ok (.ldc_w 349, 3) := by decide +kernel
theorem dX9_even_12 : decode cX9_even 12 = .ok (.ldc 167, 2) := by decide +kernel
theorem dX9_even_14 : decode cX9_even 14 = .ok (.invokestatic 163, 3) := by decide +kernel
theorem dX9_even_17 : decode cX9_even 17 = .ok (.ifCond .ne 5, 3) := by decide +kernel
theorem dX9_even_20 : decode cX9_even 20 = .ok (.iconst (-1), 1) := by decide +kernel
theorem dX9_even_21 : decode cX9_even 21 = .ok (.ireturn, 1) := by decide +kernel
theorem dX9_even_22 : decode cX9_even 22 = .ok (.aload_n 0, 1) := by decide +kernel
theorem dX9_even_23 : decode cX9_even 23 = .ok (.getfield 30, 3) := by decide +kernel
theorem dX9_even_26 : decode cX9_even 26 = .ok (.getfield 98, 3) := by decide +kernel
theorem dX9_even_29 : decode cX9_even 29 = .ok (.getfield 124, 3) := by decide +kernel
theorem dX9_even_32 : decode cX9_even 32 = .ok (.iload_n 1, 1) := by decide +kernel
theorem dX9_even_33 : decode cX9_even 33 = .ok (.aaload, 1) := by decide +kernel
theorem dX9_even_34 : decode cX9_even 34 = .ok (.astore_n 3, 1) := by decide +kernel
theorem dX9_even_35 : decode cX9_even 35 = .ok (.aload_n 3, 1) := by decide +kernel
theorem dX9_even_36 : decode cX9_even 36 = .ok (.getfield 145, 3) := by decide +kernel
theorem dX9_even_39 : decode cX9_even 39 = .ok (.ifCond .ne 6, 3) := by decide +kernel
theorem dX9_even_42 : decode cX9_even 42 = .ok (.bipush (-3), 2) := by decide +kernel
theorem dX9_even_44 : decode cX9_even 44 = .ok (.ireturn, 1) := by decide +kernel
theorem dX9_even_45 : decode cX9_even 45 = .ok (.iconst 0, 1) := by decide +kernel
theorem dX9_even_46 : decode cX9_even 46 = .ok (.istore 4, 2) := by decide +kernel
theorem dX9_even_48 : decode cX9_even 48 = .ok (.iload 4, 2) := by decide +kernel
theorem dX9_even_50 : decode cX9_even 50 = .ok (.aload_n 0, 1) := by decide +kernel
theorem dX9_even_51 : decode cX9_even 51 = .ok (.getfield 30, 3) := by decide +kernel
theorem dX9_even_54 : decode cX9_even 54 = .ok (.getfield 56, 3) := by decide +kernel
theorem dX9_even_57 : decode cX9_even 57 = .ok (.getfield 310, 3) := by decide +kernel
theorem dX9_even_60 : decode cX9_even 60 = .ok (.if_icmp .gt 30, 3) := by decide +kernel
theorem dX9_even_63 : decode cX9_even 63 = .ok (.aload_n 0, 1) := by decide +kernel
theorem dX9_even_64 : decode cX9_even 64 = .ok (.getfield 30, 3) := by decide +kernel
theorem dX9_even_67 : decode cX9_even 67 = .ok (.aload_n 3, 1) := by decide +kernel
theorem dX9_even_68 : decode cX9_even 68 = .ok (.iload 4, 2) := by decide +kernel
theorem dX9_even_70 : decode cX9_even 70 = .ok (.aload_n 3, 1) := by decide +kernel
theorem dX9_even_71 : decode cX9_even 71 = .ok (.getfield 148, 3) := by decide +kernel
theorem dX9_even_74 : decode cX9_even 74 = .ok (.invokevirtual 337, 3) := by decide +kernel
theorem dX9_even_77 : decode cX9_even 77 = .ok (.iload_n 2, 1) := by decide +kernel
theorem dX9_even_78 : decode cX9_even 78 = .ok (.if_icmp .lt 6, 3) := by decide +kernel
theorem dX9_even_81 : decode cX9_even 81 = .ok (.iload 4, 2) := by decide +kernel
theorem dX9_even_83 : decode cX9_even 83 = .ok (.ireturn, 1) := by decide +kernel
theorem dX9_even_84 : decode cX9_even 84 = .ok (.iinc 4 1, 3) := by decide +kernel
theorem dX9_even_87 : decode cX9_even 87 = .ok (.goto (-39), 3) := by decide +kernel
theorem dX9_even_90 : decode cX9_even 90 = .ok (.bipush (-2), 2) := by decide +kernel
theorem dX9_even_92 : decode cX9_even 92 = .ok (.ireturn, 1) := by decide +kernel
theorem dX9_worth_0 : decode cX9_worth 0 = .ok (.aload_n 0, 1) := by decide +kernel
theorem dX9_worth_1 : decode cX9_worth 1 = .ok (.iload_n 1, 1) := by decide +kernel
theorem dX9_worth_2 : decode cX9_worth 2 = .ok (.invokevirtual 121, 3) := by decide +kernel
theorem dX9_worth_5 : decode cX9_worth 5 = .ok (.ifCond .ne 5, 3) := by decide +kernel
theorem dX9_worth_8 : decode cX9_worth 8 = .ok (.iconst (-1), 1) := by decide +kernel
theorem dX9_worth_9 : decode cX9_worth 9 = .ok (.ireturn, 1) := by decide +kernel
theorem dX9_worth_10 : decode cX9_worth 10 = .ok (.aload_n 0, 1) := by decide +kernel
theorem dX9_worth_11 : decode cX9_worth 11 = .ok (.getfield 30, 3) := by decide +kernel
theorem dX9_worth_14 : decode cX9_worth 14 = .ok (.getfield 98, 3) := by decide +kernel
theorem dX9_worth_17 : decode cX9_worth 17 = .ok (.getfield 124, 3) := by decide +kernel
theorem dX9_worth_20 : decode cX9_worth 20 = .ok (.iload_n 1, 1) := by decide +kernel
theorem dX9_worth_21 : decode cX9_worth 21 = .ok (.aaload, 1) := by decide +kernel
theorem dX9_worth_22 : decode cX9_worth 22 = .ok (.astore_n 2, 1) := by decide +kernel
theorem dX9_worth_23 : decode cX9_worth 23 = .ok (.aload_n 2, 1) := by decide +kernel
theorem dX9_worth_24 : decode cX9_worth 24 = .ok (.getfield 154, 3) := by decide +kernel
theorem dX9_worth_27 : decode cX9_worth 27 = .ok (.ifCond .eq 8, 3) := by decide +kernel
theorem dX9_worth_30 : decode cX9_worth 30 = .ok (.bipush (-2), 2) := by decide +kernel
theorem dX9_worth_32 : decode cX9_worth 32 = .ok (.goto 15, 3) := by decide +kernel
theorem dX9_worth_35 : decode cX9_worth 35 = .ok (.aload_n 0, 1) := by decide +kernel
theorem dX9_worth_36 : decode cX9_worth 36 = .ok (.getfield 30, 3) := by decide +kernel
theorem dX9_worth_39 : decode cX9_worth 39 = .ok (.aload_n 2, 1) := by decide +kernel
theorem dX9_worth_40 : decode cX9_worth 40 = .ok (.aload_n 2, 1) := by decide +kernel
theorem dX9_worth_41 : decode cX9_worth 41 = .ok (.getfield 133, 3) := by decide +kernel
theorem dX9_worth_44 : decode cX9_worth 44 = .ok (.invokevirtual 333, 3) := by decide +kernel
theorem dX9_worth_47 : decode cX9_worth 47 = .ok (.ireturn, 1) := by decide +kernel
theorem dX9_tried_0 : decode cX9_tried 0 = .ok (.iload_n 1, 1) := by decide +kernel
theorem dX9_tried_1 : decode cX9_tried 1 = .ok (.iconst 1, 1) := by decide +kernel
theorem dX9_tried_2 : decode cX9_tried 2 = .ok (.bipush 16, 2) := by decide +kernel
theorem dX9_tried_4 : decode cX9_tried 4 = .ok (.invokestatic 163, 3) := by decide +kernel
theorem dX9_tried_7 : decode cX9_tried 7 = .ok (.ifCond .eq 28, 3) := by decide +kernel
theorem dX9_tried_10 : decode cX9_tried 10 = .ok (.aload_n 0, 1) := by decide +kernel
theorem dX9_tried_11 : decode cX9_tried 11 = .ok (.iload_n 1, 1) := by decide +kernel
theorem dX9_tried_12 : decode cX9_tried 12 = .ok (.invokevirtual 202, 3) := by decide +kernel
theorem dX9_tried_15 : decode cX9_tried 15 = .ok (.ifCond .eq 20, 3) := by decide +kernel
theorem dX9_tried_18 : decode cX9_tried 18 = .ok (.aload_n 0, 1) := by decide +kernel
theorem dX9_tried_19 : decode cX9_tried 19 = .ok (.iload_n 2, 1) := by decide +kernel
theorem dX9_tried_20 : decode cX9_tried 20 = .ok (.invokevirtual 80, 3) := by decide +kernel
theorem dX9_tried_23 : decode cX9_tried 23 = .ok (.ifCond .eq 12, 3) := by decide +kernel
theorem dX9_tried_26 : decode cX9_tried 26 = .ok (.iload_n 3, 1) := by decide +kernel
theorem dX9_tried_27 : decode cX9_tried 27 = .ok (.iconst 0, 1) := by decide +kernel
theorem dX9_tried_28 : decode cX9_tried 28 = .ok (.iconst 3, 1) := by decide +kernel
theorem dX9_tried_29 : decode cX9_tried 29 = .ok (.invokestatic 163, 3) := by decide +kernel
theorem dX9_tried_32 : decode cX9_tried 32 = .ok (.ifCond .ne 6, 3) := by decide +kernel
theorem dX9_tried_35 : decode cX9_tried 35 = .ok (.ldc 228, 2) := by decide +kernel
theorem dX9_tried_37 : decode cX9_tried 37 = .ok (.ireturn, 1) := by decide +kernel
theorem dX9_tried_38 : decode cX9_tried 38 = .ok (.aload_n 0, 1) := by decide +kernel
theorem dX9_tried_39 : decode cX9_tried 39 = .ok (.getfield 34, 3) := by decide +kernel
theorem dX9_tried_42 : decode cX9_tried 42 = .ok (.aload_n 0, 1) := by decide +kernel
theorem dX9_tried_43 : decode cX9_tried 43 = .ok (.getfield 30, 3) := by decide +kernel
theorem dX9_tried_46 : decode cX9_tried 46 = .ok (.invokevirtual 350, 3) := by decide +kernel
theorem dX9_tried_49 : decode cX9_tried 49 = .ok (.iconst 0, 1) := by decide +kernel
theorem dX9_tried_50 : decode cX9_tried 50 = .ok (.istore 4, 2) := by decide +kernel
theorem dX9_tried_52 : decode cX9_tried 52 = .ok (.iload 4, 2) := by decide +kernel
theorem dX9_tried_54 : decode cX9_tried 54 = .ok (.iload_n 1, 1) := by decide +kernel
theorem dX9_tried_55 : decode cX9_tried 55 = .ok (.if_icmp .ge 16, 3) := by decide +kernel
theorem dX9_tried_58 : decode cX9_tried 58 = .ok (.aload_n 0, 1) := by decide +kernel
theorem dX9_tried_59 : decode cX9_tried 59 = .ok (.getfield 34, 3) := by decide +kernel
theorem dX9_tried_62 : decode cX9_tried 62 = .ok (.invokevirtual 208, 3) := by decide +kernel
theorem dX9_tried_65 : decode cX9_tried 65 = .ok (.iinc 4 1, 3) := by decide +kernel
theorem dX9_tried_68 : decode cX9_tried 68 = .ok (.goto (-16), 3) := by decide +kernel
theorem dX9_tried_71 : decode cX9_tried 71 = .ok (.aload_n 0, 1) := by decide +kernel
theorem dX9_tried_72 : decode cX9_tried 72 = .ok (.getfield 34, 3) := by decide +kernel
theorem dX9_tried_75 : decode cX9_tried 75 = .ok (.getfield 98, 3) := by decide +kernel
theorem dX9_tried_78 : decode cX9_tried 78 = .ok (.iload_n 2, 1) := by decide +kernel
theorem dX9_tried_79 : decode cX9_tried 79 = .ok (.iload_n 3, 1) := by decide +kernel
theorem dX9_tried_80 : decode cX9_tried 80 = .ok (.invokevirtual 273, 3) := by decide +kernel
theorem dX9_tried_83 : decode cX9_tried 83 = .ok (.aload_n 0, 1) := by decide +kernel
theorem dX9_tried_84 : decode cX9_tried 84 = .ok (.getfield 30, 3) := by decide +kernel
theorem dX9_tried_87 : decode cX9_tried 87 = .ok (.getfield 98, 3) := by decide +kernel
theorem dX9_tried_90 : decode cX9_tried 90 = .ok (.iload_n 2, 1) := by decide +kernel
theorem dX9_tried_91 : decode cX9_tried 91 = .ok (.iload_n 3, 1) := by decide +kernel
theorem dX9_tried_92 : decode cX9_tried 92 = .ok (.invokevirtual 273, 3) := by decide +kernel
theorem dX9_tried_95 : decode cX9_tried 95 = .ok (.isub, 1) := by decide +kernel
theorem dX9_tried_96 : decode cX9_tried 96 = .ok (.ireturn, 1) := by decide +kernel
theorem dX9_chance_0 : decode cX9_chance 0 = .ok (.iload_n 1, 1) := by decide +kernel
theorem dX9_chance_1 : decode cX9_chance 1 = .ok (.iconst (-1), 1) := by decide +kernel
theorem dX9_chance_2 : decode cX9_chance 2 = .ok (.if_icmp .lt 29, 3) := by decide +kernel
theorem dX9_chance_5 : decode cX9_chance 5 = .ok (.iload_n 2, 1) := by decide +kernel
theorem dX9_chance_6 : decode cX9_chance 6 = .ok (.iconst 1, 1) := by decide +kernel
theorem dX9_chance_7 : decode cX9_chance 7 = .ok (.bipush 8, 2) := by decide +kernel
theorem dX9_chance_9 : decode cX9_chance 9 = .ok (.invokestatic 163, 3) := by decide +kernel
theorem dX9_chance_12 : decode cX9_chance 12 = .ok (.ifCond .eq 19, 3) := by decide +kernel
theorem dX9_chance_15 : decode cX9_chance 15 = .ok (.aload_n 0, 1) := by decide +kernel
theorem dX9_chance_16 : decode cX9_chance 16 = .ok (.iload_n 2, 1) := by decide +kernel
theorem dX9_chance_17 : decode cX9_chance 17 = .ok (.invokevirtual 202, 3) := by decide +kernel
theorem dX9_chance_20 : decode cX9_chance 20 = .ok (.ifCond .eq 11, 3) := by decide +kernel
theorem dX9_chance_23 : decode cX9_chance 23 = .ok (.aload_n 0, 1) := by decide +kernel
theorem dX9_chance_24 : decode cX9_chance 24 = .ok (.iload_n 3, 1) := by decide +kernel
theorem dX9_chance_25 : decode cX9_chance 25 = .ok (.invokevirtual 80, 3) := by decide +kernel
theorem dX9_chance_28 : decode cX9_chance 28 = .ok (.ifCond .ne 6, 3) := by decide +kernel
theorem dX9_chance_31 : decode cX9_chance 31 = .ok (.ldc 228, 2) := by decide +kernel
theorem dX9_chance_33 : decode cX9_chance 33 = .ok (.ireturn, 1) := by decide +kernel
theorem dX9_chance_34 : decode cX9_chance 34 = .ok (.aload_n 0, 1) := by decide +kernel
theorem dX9_chance_35 : decode cX9_chance 35 = .ok (.getfield 34, 3) := by decide +kernel
theorem dX9_chance_38 : decode cX9_chance 38 = .ok (.aload_n 0, 1) := by decide +kernel
theorem dX9_chance_39 : decode cX9_chance 39 = .ok (.getfield 30, 3) := by decide +kernel
theorem dX9_chance_42 : decode cX9_chance 42 = .ok (.invokevirtual 350, 3) := by decide +kernel
theorem dX9_chance_45 : decode cX9_chance 45 = .ok (.iload_n 1, 1) := by decide +kernel
theorem dX9_chance_46 : decode cX9_chance 46 = .ok (.iconst (-1), 1) := by decide +kernel
theorem dX9_chance_47 : decode cX9_chance 47 = .ok (.if_icmp .ne 17, 3) := by decide +kernel
theorem dX9_chance_50 : decode cX9_chance 50 = .ok (.aload_n 0, 1) := by decide +kernel
theorem dX9_chance_51 : decode cX9_chance 51 = .ok (.getfield 30, 3) := by decide +kernel
theorem dX9_chance_54 : decode cX9_chance 54 = .ok (.getfield 56, 3) := by decide +kernel
theorem dX9_chance_57 : decode cX9_chance 57 = .ok (.getfield 354, 3) := by decide +kernel
theorem dX9_chance_60 : decode cX9_chance 60 = .ok (.i2l, 1) := by decide +kernel
theorem dX9_chance_61 : decode cX9_chance 61 = .ok (.goto 5, 3) := by decide +kernel
theorem dX9_chance_64 : decode cX9_chance 64 = .ok (.iload_n 1, 1) := by decide +kernel
theorem dX9_chance_65 : decode cX9_chance 65 = .ok (.i2l, 1) := by decide +kernel
theorem dX9_chance_66 : decode cX9_chance 66 = .ok (.lstore 4, 2) := by decide +kernel
theorem dX9_chance_68 : decode cX9_chance 68 = .ok (.iconst 0, 1) := by decide +kernel
theorem dX9_chance_69 : decode cX9_chance 69 = .ok (.istore 6, 2) := by decide +kernel
theorem dX9_chance_71 : decode cX9_chance 71 = .ok (.iload 6, 2) := by decide +kernel
theorem dX9_chance_73 : decode cX9_chance 73 = .ok (.iload_n 2, 1) := by decide +kernel
theorem dX9_chance_74 : decode cX9_chance 74 = .ok (.if_icmp .ge 72, 3) := by decide +kernel
theorem dX9_chance_77 : decode cX9_chance 77 = .ok (.iconst 0, 1) := by decide +kernel
theorem dX9_chance_78 : decode cX9_chance 78 = .ok (.istore 7, 2) := by decide +kernel
theorem dX9_chance_80 : decode cX9_chance 80 = .ok (.iload 7, 2) := by decide +kernel
theorem dX9_chance_82 : decode cX9_chance 82 = .ok (.iconst 2, 1) := by decide +kernel
theorem dX9_chance_83 : decode cX9_chance 83 = .ok (.if_icmp .ge 50, 3) := by decide +kernel
theorem dX9_chance_86 : decode cX9_chance 86 = .ok (.lload 4, 2) := by decide +kernel
theorem dX9_chance_88 : decode cX9_chance 88 = .ok (.invokestatic 357, 3) := by decide +kernel
theorem dX9_chance_91 : decode cX9_chance 91 = .ok (.lstore 4, 2) := by decide +kernel
theorem dX9_chance_93 : decode cX9_chance 93 = .ok (.aload_n 0, 1) := by decide +kernel
theorem dX9_chance_94 : decode cX9_chance 94 = .ok (.getfield 34, 3) := by decide +kernel
theorem dX9_chance_97 : decode cX9_chance 97 = .ok (.getfield 98, 3) := by decide +kernel
theorem dX9_chance_100 : decode cX9_chance 100 = .ok (.iload_n 3, 1) := by decide +kernel
theorem dX9_chance_101 : decode cX9_chance 101 = .ok (.aload_n 0, 1) := by decide +kernel
theorem dX9_chance_102 : decode cX9_chance 102 = .ok (.getfield 34, 3) := by decide +kernel
theorem dX9_chance_105 : decode cX9_chance 105 = .ok (.getfield 98, 3) := by decide +kernel
theorem dX9_chance_108 : decode cX9_chance 108 = .ok (.getfield 172, 3) := by decide +kernel
theorem dX9_chance_111 : decode cX9_chance 111 = .ok (.iload 7, 2) := by decide +kernel
theorem dX9_chance_113 : decode cX9_chance 113 = .ok (.lload 4, 2) := by decide +kernel
theorem dX9_chance_115 : decode cX9_chance 115 = .ok (.bipush 16, 2) := by decide +kernel
theorem dX9_chance_117 : decode cX9_chance 117 = .ok (.lshr, 1) := by decide +kernel
theorem dX9_chance_118 : decode cX9_chance 118 = .ok (.ldc2_w 361, 3) := by decide +kernel
theorem dX9_chance_121 : decode cX9_chance 121 = .ok (.lrem, 1) := by decide +kernel
theorem dX9_chance_122 : decode cX9_chance 122 = .ok (.l2i, 1) := by decide +kernel
theorem dX9_chance_123 : decode cX9_chance 123 = .ok (.invokevirtual 175, 3) := by decide +kernel
theorem dX9_chance_126 : decode cX9_chance 126 = .ok (.pop, 1) := by decide +kernel
theorem dX9_chance_127 : decode cX9_chance 127 = .ok (.iinc 7 1, 3) := by decide +kernel
theorem dX9_chance_130 : decode cX9_chance 130 = .ok (.goto (-50), 3) := by decide +kernel
theorem dX9_chance_133 : decode cX9_chance 133 = .ok (.aload_n 0, 1) := by decide +kernel
theorem dX9_chance_134 : decode cX9_chance 134 = .ok (.getfield 34, 3) := by decide +kernel
theorem dX9_chance_137 : decode cX9_chance 137 = .ok (.invokevirtual 208, 3) := by decide +kernel
theorem dX9_chance_140 : decode cX9_chance 140 = .ok (.iinc 6 1, 3) := by decide +kernel
theorem dX9_chance_143 : decode cX9_chance 143 = .ok (.goto (-72), 3) := by decide +kernel
theorem dX9_chance_146 : decode cX9_chance 146 = .ok (.iconst 0, 1) := by decide +kernel
theorem dX9_chance_147 : decode cX9_chance 147 = .ok (.istore 6, 2) := by decide +kernel
theorem dX9_chance_149 : decode cX9_chance 149 = .ok (.iconst 0, 1) := by decide +kernel
theorem dX9_chance_150 : decode cX9_chance 150 = .ok (.istore 7, 2) := by decide +kernel
theorem dX9_chance_152 : decode cX9_chance 152 = .ok (.iload 7, 2) := by decide +kernel
theorem dX9_chance_154 : decode cX9_chance 154 = .ok (.iconst 4, 1) := by decide +kernel
theorem dX9_chance_155 : decode cX9_chance 155 = .ok (.if_icmp .ge 41, 3) := by decide +kernel
theorem dX9_chance_158 : decode cX9_chance 158 = .ok (.iload 6, 2) := by decide +kernel
theorem dX9_chance_160 : decode cX9_chance 160 = .ok (.aload_n 0, 1) := by decide +kernel
theorem dX9_chance_161 : decode cX9_chance 161 = .ok (.getfield 34, 3) := by decide +kernel
theorem dX9_chance_164 : decode cX9_chance 164 = .ok (.getfield 98, 3) := by decide +kernel
theorem dX9_chance_167 : decode cX9_chance 167 = .ok (.iload_n 3, 1) := by decide +kernel
theorem dX9_chance_168 : decode cX9_chance 168 = .ok (.iload 7, 2) := by decide +kernel
theorem dX9_chance_170 : decode cX9_chance 170 = .ok (.invokevirtual 273, 3) := by decide +kernel
theorem dX9_chance_173 : decode cX9_chance 173 = .ok (.aload_n 0, 1) := by decide +kernel
theorem dX9_chance_174 : decode cX9_chance 174 = .ok (.getfield 30, 3) := by decide +kernel
theorem dX9_chance_177 : decode cX9_chance 177 = .ok (.getfield 98, 3) := by decide +kernel
theorem dX9_chance_180 : decode cX9_chance 180 = .ok (.iload_n 3, 1) := by decide +kernel
theorem dX9_chance_181 : decode cX9_chance 181 = .ok (.iload 7, 2) := by decide +kernel
theorem dX9_chance_183 : decode cX9_chance 183 = .ok (.invokevirtual 273, 3) := by decide +kernel
theorem dX9_chance_186 : decode cX9_chance 186 = .ok (.isub, 1) := by decide +kernel
theorem dX9_chance_187 : decode cX9_chance 187 = .ok (.iadd, 1) := by decide +kernel
theorem dX9_chance_188 : decode cX9_chance 188 = .ok (.istore 6, 2) := by decide +kernel
theorem dX9_chance_190 : decode cX9_chance 190 = .ok (.iinc 7 1, 3) := by decide +kernel
theorem dX9_chance_193 : decode cX9_chance 193 = .ok (.goto (-41), 3) := by decide +kernel
theorem dX9_chance_196 : decode cX9_chance 196 = .ok (.iload 6, 2) := by decide +kernel
theorem dX9_chance_198 : decode cX9_chance 198 = .ok (.ireturn, 1) := by decide +kernel
theorem dX9_farthest_0 : decode cX9_farthest 0 = .ok (.aload_n 0, 1) := by decide +kernel
theorem dX9_farthest_1 : decode cX9_farthest 1 = .ok (.iload_n 1, 1) := by decide +kernel
theorem dX9_farthest_2 : decode cX9_farthest 2 = .ok (.invokevirtual 80, 3) := by decide +kernel
theorem dX9_farthest_5 : decode cX9_farthest 5 = .ok (.ifCond .ne 5, 3) := by decide +kernel
theorem dX9_farthest_8 : decode cX9_farthest 8 = .ok (.iconst (-1), 1) := by decide +kernel
theorem dX9_farthest_9 : decode cX9_farthest 9 = .ok (.ireturn, 1) := by decide +kernel
theorem dX9_farthest_10 : decode cX9_farthest 10 = .ok (.bipush (-2), 2) := by decide +kernel
theorem dX9_farthest_12 : decode cX9_farthest 12 = .ok (.istore_n 2, 1) := by decide +kernel
theorem dX9_farthest_13 : decode cX9_farthest 13 = .ok (.iconst (-1), 1) := by decide +kernel
theorem dX9_farthest_14 : decode cX9_farthest 14 = .ok (.istore_n 3, 1) := by decide +kernel
theorem dX9_farthest_15 : decode cX9_farthest 15 = .ok (.iconst 0, 1) := by decide +kernel
theorem dX9_farthest_16 : decode cX9_farthest 16 = .ok (.istore 4, 2) := by decide +kernel
theorem dX9_farthest_18 : decode cX9_farthest 18 = .ok (.iload 4, 2) := by decide +kernel
theorem dX9_farthest_20 : decode cX9_farthest 20 = .ok (.aload_n 0, 1) := by decide +kernel
theorem dX9_farthest_21 : decode cX9_farthest 21 = .ok (.getfield 30, 3) := by decide +kernel
theorem dX9_farthest_24 : decode cX9_farthest 24 = .ok (.invokevirtual 311, 3) := by decide +kernel
theorem dX9_farthest_27 : decode cX9_farthest 27 = .ok (.if_icmp .ge 36, 3) := by decide +kernel
theorem dX9_farthest_30 : decode cX9_farthest 30 = .ok (.aload_n 0, 1) := by decide +kernel
theorem dX9_farthest_31 : decode cX9_farthest 31 = .ok (.getfield 30, 3) := by decide +kernel
theorem dX9_farthest_34 : decode cX9_farthest 34 = .ok (.iload_n 1, 1) := by decide +kernel
theorem dX9_farthest_35 : decode cX9_farthest 35 = .ok (.iload 4, 2) := by decide +kernel
theorem dX9_farthest_37 : decode cX9_farthest 37 = .ok (.invokevirtual 244, 3) := by decide +kernel
theorem dX9_farthest_40 : decode cX9_farthest 40 = .ok (.invokestatic 363, 3) := by decide +kernel
theorem dX9_farthest_43 : decode cX9_farthest 43 = .ok (.istore 5, 2) := by decide +kernel
theorem dX9_farthest_45 : decode cX9_farthest 45 = .ok (.iload 5, 2) := by decide +kernel
theorem dX9_farthest_47 : decode cX9_farthest 47 = .ok (.iload_n 3, 1) := by decide +kernel
theorem dX9_farthest_48 : decode cX9_farthest 48 = .ok (.if_icmp .le 9, 3) := by decide +kernel
theorem dX9_farthest_51 : decode cX9_farthest 51 = .ok (.iload 5, 2) := by decide +kernel
theorem dX9_farthest_53 : decode cX9_farthest 53 = .ok (.istore_n 3, 1) := by decide +kernel
theorem dX9_farthest_54 : decode cX9_farthest 54 = .ok (.iload 4, 2) := by decide +kernel
theorem dX9_farthest_56 : decode cX9_farthest 56 = .ok (.istore_n 2, 1) := by decide +kernel
theorem dX9_farthest_57 : decode cX9_farthest 57 = .ok (.iinc 4 1, 3) := by decide +kernel
theorem dX9_farthest_60 : decode cX9_farthest 60 = .ok (.goto (-42), 3) := by decide +kernel
theorem dX9_farthest_63 : decode cX9_farthest 63 = .ok (.iload_n 2, 1) := by decide +kernel
theorem dX9_farthest_64 : decode cX9_farthest 64 = .ok (.ireturn, 1) := by decide +kernel
theorem dX9_undo_0 : decode cX9_undo 0 = .ok (.aload_n 0, 1) := by decide +kernel
theorem dX9_undo_1 : decode cX9_undo 1 = .ok (.getfield 40, 3) := by decide +kernel
theorem dX9_undo_4 : decode cX9_undo 4 = .ok (.aload_n 0, 1) := by decide +kernel
theorem dX9_undo_5 : decode cX9_undo 5 = .ok (.getfield 30, 3) := by decide +kernel
theorem dX9_undo_8 : decode cX9_undo 8 = .ok (.getfield 98, 3) := by decide +kernel
theorem dX9_undo_11 : decode cX9_undo 11 = .ok (.invokevirtual 366, 3) := by decide +kernel
theorem dX9_undo_14 : decode cX9_undo 14 = .ok (.ifCond .eq 13, 3) := by decide +kernel
theorem dX9_undo_17 : decode cX9_undo 17 = .ok (.aload_n 0, 1) := by decide +kernel
theorem dX9_undo_18 : decode cX9_undo 18 = .ok (.getfield 40, 3) := by decide +kernel
theorem dX9_undo_21 : decode cX9_undo 21 = .ok (.getfield 370, 3) := by decide +kernel
theorem dX9_undo_24 : decode cX9_undo 24 = .ok (.goto 4, 3) := by decide +kernel
theorem dX9_undo_27 : decode cX9_undo 27 = .ok (.iconst (-1), 1) := by decide +kernel
theorem dX9_undo_28 : decode cX9_undo 28 = .ok (.ireturn, 1) := by decide +kernel
theorem dX9_keep_0 : decode cX9_keep 0 = .ok (.aload_n 0, 1) := by decide +kernel
theorem dX9_keep_1 : decode cX9_keep 1 = .ok (.getfield 373, 3) := by decide +kernel
theorem dX9_keep_4 : decode cX9_keep 4 = .ok (.ifnonnull 14, 3) := by decide +kernel
theorem dX9_keep_7 : decode cX9_keep 7 = .ok (.aload_n 0, 1) := by decide +kernel
theorem dX9_keep_8 : decode cX9_keep 8 = .ok (.new 103, 3) := by decide +kernel
theorem dX9_keep_11 : decode cX9_keep 11 = .ok (.dup, 1) := by decide +kernel
theorem dX9_keep_12 : decode cX9_keep 12 = .ok (.invokespecial 376, 3) := by decide +kernel
theorem dX9_keep_15 : decode cX9_keep 15 = .ok (.putfield 373, 3) := by decide +kernel
theorem dX9_keep_18 : decode cX9_keep 18 = .ok (.aload_n 0, 1) := by decide +kernel
theorem dX9_keep_19 : decode cX9_keep 19 = .ok (.getfield 373, 3) := by decide +kernel
theorem dX9_keep_22 : decode cX9_keep 22 = .ok (.aload_n 0, 1) := by decide +kernel
theorem dX9_keep_23 : decode cX9_keep 23 = .ok (.getfield 30, 3) := by decide +kernel
theorem dX9_keep_26 : decode cX9_keep 26 = .ok (.getfield 98, 3) := by decide +kernel
theorem dX9_keep_29 : decode cX9_keep 29 = .ok (.invokevirtual 377, 3) := by decide +kernel
theorem dX9_keep_32 : decode cX9_keep 32 = .ok (.aload_n 0, 1) := by decide +kernel
theorem dX9_keep_33 : decode cX9_keep 33 = .ok (.iconst 1, 1) := by decide +kernel
theorem dX9_keep_34 : decode cX9_keep 34 = .ok (.putfield 66, 3) := by decide +kernel
theorem dX9_keep_37 : decode cX9_keep 37 = .ok (.aload_n 0, 1) := by decide +kernel
theorem dX9_keep_38 : decode cX9_keep 38 = .ok (.getfield 30, 3) := by decide +kernel
theorem dX9_keep_41 : decode cX9_keep 41 = .ok (.getfield 98, 3) := by decide +kernel
theorem dX9_keep_44 : decode cX9_keep 44 = .ok (.getfield 172, 3) := by decide +kernel
theorem dX9_keep_47 : decode cX9_keep 47 = .ok (.ireturn, 1) := by decide +kernel
theorem dX9_back_0 : decode cX9_back 0 = .ok (.aload_n 0, 1) := by decide +kernel
theorem dX9_back_1 : decode cX9_back 1 = .ok (.getfield 66, 3) := by decide +kernel
theorem dX9_back_4 : decode cX9_back 4 = .ok (.ifCond .eq 10, 3) := by decide +kernel
theorem dX9_back_7 : decode cX9_back 7 = .ok (.aload_n 0, 1) := by decide +kernel
theorem dX9_back_8 : decode cX9_back 8 = .ok (.getfield 373, 3) := by decide +kernel
theorem dX9_back_11 : decode cX9_back 11 = .ok (.ifnonnull 5, 3) := by decide +kernel
theorem dX9_back_14 : decode cX9_back 14 = .ok (.iconst (-1), 1) := by decide +kernel
theorem dX9_back_15 : decode cX9_back 15 = .ok (.ireturn, 1) := by decide +kernel
theorem dX9_back_16 : decode cX9_back 16 = .ok (.aload_n 0, 1) := by decide +kernel
theorem dX9_back_17 : decode cX9_back 17 = .ok (.getfield 30, 3) := by decide +kernel
theorem dX9_back_20 : decode cX9_back 20 = .ok (.getfield 98, 3) := by decide +kernel
theorem dX9_back_23 : decode cX9_back 23 = .ok (.aload_n 0, 1) := by decide +kernel
theorem dX9_back_24 : decode cX9_back 24 = .ok (.getfield 373, 3) := by decide +kernel
theorem dX9_back_27 : decode cX9_back 27 = .ok (.invokevirtual 377, 3) := by decide +kernel
theorem dX9_back_30 : decode cX9_back 30 = .ok (.aload_n 0, 1) := by decide +kernel
theorem dX9_back_31 : decode cX9_back 31 = .ok (.getfield 40, 3) := by decide +kernel
theorem dX9_back_34 : decode cX9_back 34 = .ok (.invokevirtual 63, 3) := by decide +kernel
theorem dX9_back_37 : decode cX9_back 37 = .ok (.aload_n 0, 1) := by decide +kernel
theorem dX9_back_38 : decode cX9_back 38 = .ok (.getfield 30, 3) := by decide +kernel
theorem dX9_back_41 : decode cX9_back 41 = .ok (.getfield 98, 3) := by decide +kernel
theorem dX9_back_44 : decode cX9_back 44 = .ok (.getfield 172, 3) := by decide +kernel
theorem dX9_back_47 : decode cX9_back 47 = .ok (.ireturn, 1) := by decide +kernel
theorem dX9_count_0 : decode cX9_count 0 = .ok (.iload_n 1, 1) := by decide +kernel
theorem dX9_count_1 : decode cX9_count 1 = .ok (.tableswitch 201 0 12 #[67, 78, 89, 100, 111, 122, 133, 144, 155, 166, 177, 185, 190], 67) := by decide +kernel
theorem dX9_count_68 : decode cX9_count 68 = .ok (.aload_n 0, 1) := by decide +kernel
theorem dX9_count_69 : decode cX9_count 69 = .ok (.getfield 30, 3) := by decide +kernel
theorem dX9_count_72 : decode cX9_count 72 = .ok (.getfield 56, 3) := by decide +kernel
theorem dX9_count_75 : decode cX9_count 75 = .ok (.getfield 301, 3) := by decide +kernel
theorem dX9_count_78 : decode cX9_count 78 = .ok (.ireturn, 1) := by decide +kernel
theorem dX9_count_79 : decode cX9_count 79 = .ok (.aload_n 0, 1) := by decide +kernel
theorem dX9_count_80 : decode cX9_count 80 = .ok (.getfield 30, 3) := by decide +kernel
theorem dX9_count_83 : decode cX9_count 83 = .ok (.getfield 98, 3) := by decide +kernel
theorem dX9_count_86 : decode cX9_count 86 = .ok (.getfield 172, 3) := by decide +kernel
theorem dX9_count_89 : decode cX9_count 89 = .ok (.ireturn, 1) := by decide +kernel
theorem dX9_count_90 : decode cX9_count 90 = .ok (.aload_n 0, 1) := by decide +kernel
theorem dX9_count_91 : decode cX9_count 91 = .ok (.getfield 30, 3) := by decide +kernel
theorem dX9_count_94 : decode cX9_count 94 = .ok (.getfield 98, 3) := by decide +kernel
theorem dX9_count_97 : decode cX9_count 97 = .ok (.getfield 182, 3) := by decide +kernel
theorem dX9_count_100 : decode cX9_count 100 = .ok (.ireturn, 1) := by decide +kernel
theorem dX9_count_101 : decode cX9_count 101 = .ok (.aload_n 0, 1) := by decide +kernel
theorem dX9_count_102 : decode cX9_count 102 = .ok (.getfield 30, 3) := by decide +kernel
theorem dX9_count_105 : decode cX9_count 105 = .ok (.getfield 98, 3) := by decide +kernel
theorem dX9_count_108 : decode cX9_count 108 = .ok (.invokevirtual 380, 3) := by decide +kernel
theorem dX9_count_111 : decode cX9_count 111 = .ok (.ireturn, 1) := by decide +kernel
theorem dX9_count_112 : decode cX9_count 112 = .ok (.aload_n 0, 1) := by decide +kernel
theorem dX9_count_113 : decode cX9_count 113 = .ok (.getfield 30, 3) := by decide +kernel
theorem dX9_count_116 : decode cX9_count 116 = .ok (.getfield 98, 3) := by decide +kernel
theorem dX9_count_119 : decode cX9_count 119 = .ok (.getfield 205, 3) := by decide +kernel
theorem dX9_count_122 : decode cX9_count 122 = .ok (.ireturn, 1) := by decide +kernel
theorem dX9_count_123 : decode cX9_count 123 = .ok (.aload_n 0, 1) := by decide +kernel
theorem dX9_count_124 : decode cX9_count 124 = .ok (.getfield 30, 3) := by decide +kernel
theorem dX9_count_127 : decode cX9_count 127 = .ok (.getfield 56, 3) := by decide +kernel
theorem dX9_count_130 : decode cX9_count 130 = .ok (.getfield 310, 3) := by decide +kernel
theorem dX9_count_133 : decode cX9_count 133 = .ok (.ireturn, 1) := by decide +kernel
theorem dX9_count_134 : decode cX9_count 134 = .ok (.aload_n 0, 1) := by decide +kernel
theorem dX9_count_135 : decode cX9_count 135 = .ok (.getfield 30, 3) := by decide +kernel
theorem dX9_count_138 : decode cX9_count 138 = .ok (.getfield 56, 3) := by decide +kernel
theorem dX9_count_141 : decode cX9_count 141 = .ok (.getfield 383, 3) := by decide +kernel
theorem dX9_count_144 : decode cX9_count 144 = .ok (.ireturn, 1) := by decide +kernel
theorem dX9_count_145 : decode cX9_count 145 = .ok (.aload_n 0, 1) := by decide +kernel
theorem dX9_count_146 : decode cX9_count 146 = .ok (.getfield 30, 3) := by decide +kernel
theorem dX9_count_149 : decode cX9_count 149 = .ok (.getfield 56, 3) := by decide +kernel
theorem dX9_count_152 : decode cX9_count 152 = .ok (.getfield 384, 3) := by decide +kernel
theorem dX9_count_155 : decode cX9_count 155 = .ok (.ireturn, 1) := by decide +kernel
theorem dX9_count_156 : decode cX9_count 156 = .ok (.aload_n 0, 1) := by decide +kernel
theorem dX9_count_157 : decode cX9_count 157 = .ok (.getfield 30, 3) := by decide +kernel
theorem dX9_count_160 : decode cX9_count 160 = .ok (.getfield 56, 3) := by decide +kernel
theorem dX9_count_163 : decode cX9_count 163 = .ok (.getfield 387, 3) := by decide +kernel
theorem dX9_count_166 : decode cX9_count 166 = .ok (.ireturn, 1) := by decide +kernel
theorem dX9_count_167 : decode cX9_count 167 = .ok (.aload_n 0, 1) := by decide +kernel
theorem dX9_count_168 : decode cX9_count 168 = .ok (.getfield 30, 3) := by decide +kernel
theorem dX9_count_171 : decode cX9_count 171 = .ok (.getfield 56, 3) := by decide +kernel
theorem dX9_count_174 : decode cX9_count 174 = .ok (.getfield 390, 3) := by decide +kernel
theorem dX9_count_177 : decode cX9_count 177 = .ok (.ireturn, 1) := by decide +kernel
theorem dX9_count_178 : decode cX9_count 178 = .ok (.aload_n 0, 1) := by decide +kernel
theorem dX9_count_179 : decode cX9_count 179 = .ok (.getfield 40, 3) := by decide +kernel
theorem dX9_count_182 : decode cX9_count 182 = .ok (.getfield 370, 3) := by decide +kernel
theorem dX9_count_185 : decode cX9_count 185 = .ok (.ireturn, 1) := by decide +kernel
theorem dX9_count_186 : decode cX9_count 186 = .ok (.aload_n 0, 1) := by decide +kernel
theorem dX9_count_187 : decode cX9_count 187 = .ok (.getfield 44, 3) := by decide +kernel
theorem dX9_count_190 : decode cX9_count 190 = .ok (.ireturn, 1) := by decide +kernel
theorem dX9_count_191 : decode cX9_count 191 = .ok (.aload_n 0, 1) := by decide +kernel
theorem dX9_count_192 : decode cX9_count 192 = .ok (.getfield 30, 3) := by decide +kernel
theorem dX9_count_195 : decode cX9_count 195 = .ok (.getfield 56, 3) := by decide +kernel
theorem dX9_count_198 : decode cX9_count 198 = .ok (.getfield 393, 3) := by decide +kernel
theorem dX9_count_201 : decode cX9_count 201 = .ok (.ireturn, 1) := by decide +kernel
theorem dX9_count_202 : decode cX9_count 202 = .ok (.iconst (-1), 1) := by decide +kernel
theorem dX9_count_203 : decode cX9_count 203 = .ok (.ireturn, 1) := by decide +kernel
theorem dX9_isTrader_0 : decode cX9_isTrader 0 = .ok (.iload_n 1, 1) := by decide +kernel
theorem dX9_isTrader_1 : decode cX9_isTrader 1 = .ok (.iconst 0, 1) := by decide +kernel
theorem dX9_isTrader_2 : decode cX9_isTrader 2 = .ok (.aload_n 0, 1) := by decide +kernel
theorem dX9_isTrader_3 : decode cX9_isTrader 3 = .ok (.getfield 30, 3) := by decide +kernel
theorem dX9_isTrader_6 : decode cX9_isTrader 6 = .ok (.getfield 56, 3) := by decide +kernel
theorem dX9_isTrader_9 : decode cX9_isTrader 9 = .ok (.getfield 301, 3) := by decide +kernel
theorem dX9_isTrader_12 : decode cX9_isTrader 12 = .ok (.iconst 1, 1) := by decide +kernel
theorem dX9_isTrader_13 : decode cX9_isTrader 13 = .ok (.isub, 1) := by decide +kernel
theorem dX9_isTrader_14 : decode cX9_isTrader 14 = .ok (.invokestatic 163, 3) := by decide +kernel
theorem dX9_isTrader_17 : decode cX9_isTrader 17 = .ok (.ireturn, 1) := by decide +kernel
theorem dX9_isAsset_0 : decode cX9_isAsset 0 = .ok (.iload_n 1, 1) := by decide +kernel
theorem dX9_isAsset_1 : decode cX9_isAsset 1 = .ok (.iconst 0, 1) := by decide +kernel
theorem dX9_isAsset_2 : decode cX9_isAsset 2 = .ok (.aload_n 0, 1) := by decide +kernel
theorem dX9_isAsset_3 : decode cX9_isAsset 3 = .ok (.getfield 30, 3) := by decide +kernel
theorem dX9_isAsset_6 : decode cX9_isAsset 6 = .ok (.getfield 98, 3) := by decide +kernel
theorem dX9_isAsset_9 : decode cX9_isAsset 9 = .ok (.getfield 182, 3) := by decide +kernel
theorem dX9_isAsset_12 : decode cX9_isAsset 12 = .ok (.iconst 1, 1) := by decide +kernel
theorem dX9_isAsset_13 : decode cX9_isAsset 13 = .ok (.isub, 1) := by decide +kernel
theorem dX9_isAsset_14 : decode cX9_isAsset 14 = .ok (.invokestatic 163, 3) := by decide +kernel
theorem dX9_isAsset_17 : decode cX9_isAsset 17 = .ok (.ireturn, 1) := by decide +kernel
theorem dX9_isFreeAsset_0 : decode cX9_isFreeAsset 0 = .ok (.aload_n 0, 1) := by decide +kernel
theorem dX9_isFreeAsset_1 : decode cX9_isFreeAsset 1 = .ok (.iload_n 1, 1) := by decide +kernel
theorem dX9_isFreeAsset_2 : decode cX9_isFreeAsset 2 = .ok (.invokevirtual 121, 3) := by decide +kernel
theorem dX9_isFreeAsset_5 : decode cX9_isFreeAsset 5 = .ok (.ifCond .eq 25, 3) := by decide +kernel
theorem dX9_isFreeAsset_8 : decode cX9_isFreeAsset 8 = .ok (.aload_n 0, 1) := by decide +kernel
theorem dX9_isFreeAsset_9 : decode cX9_isFreeAsset 9 = .ok (.getfield 30, 3) := by decide +kernel
theorem dX9_isFreeAsset_12 : decode cX9_isFreeAsset 12 = .ok (.getfield 98, 3) := by decide +kernel
theorem dX9_isFreeAsset_15 : decode cX9_isFreeAsset 15 = .ok (.getfield 124, 3) := by decide +kernel
theorem dX9_isFreeAsset_18 : decode cX9_isFreeAsset 18 = .ok (.iload_n 1, 1) := by decide +kernel
theorem dX9_isFreeAsset_19 : decode cX9_isFreeAsset 19 = .ok (.aaload, 1) := by decide +kernel
theorem dX9_isFreeAsset_20 : decode cX9_isFreeAsset 20 = .ok (.invokevirtual 192, 3) := by decide +kernel
theorem dX9_isFreeAsset_23 : decode cX9_isFreeAsset 23 = .ok (.ifCond .eq 7, 3) := by decide +kernel
theorem dX9_isFreeAsset_26 : decode cX9_isFreeAsset 26 = .ok (.iconst 1, 1) := by decide +kernel
theorem dX9_isFreeAsset_27 : decode cX9_isFreeAsset 27 = .ok (.goto 4, 3) := by decide +kernel
theorem dX9_isFreeAsset_30 : decode cX9_isFreeAsset 30 = .ok (.iconst 0, 1) := by decide +kernel
theorem dX9_isFreeAsset_31 : decode cX9_isFreeAsset 31 = .ok (.ireturn, 1) := by decide +kernel
theorem dX9_isYear_0 : decode cX9_isYear 0 = .ok (.iload_n 0, 1) := by decide +kernel
theorem dX9_isYear_1 : decode cX9_isYear 1 = .ok (.iconst 0, 1) := by decide +kernel
theorem dX9_isYear_2 : decode cX9_isYear 2 = .ok (.bipush 15, 2) := by decide +kernel
theorem dX9_isYear_4 : decode cX9_isYear 4 = .ok (.invokestatic 163, 3) := by decide +kernel
theorem dX9_isYear_7 : decode cX9_isYear 7 = .ok (.ireturn, 1) := by decide +kernel
theorem dX9_isBegun_0 : decode cX9_isBegun 0 = .ok (.iload_n 1, 1) := by decide +kernel
theorem dX9_isBegun_1 : decode cX9_isBegun 1 = .ok (.iconst 0, 1) := by decide +kernel
theorem dX9_isBegun_2 : decode cX9_isBegun 2 = .ok (.aload_n 0, 1) := by decide +kernel
theorem dX9_isBegun_3 : decode cX9_isBegun 3 = .ok (.getfield 30, 3) := by decide +kernel
theorem dX9_isBegun_6 : decode cX9_isBegun 6 = .ok (.invokevirtual 311, 3) := by decide +kernel
theorem dX9_isBegun_9 : decode cX9_isBegun 9 = .ok (.invokestatic 163, 3) := by decide +kernel
theorem dX9_isBegun_12 : decode cX9_isBegun 12 = .ok (.ireturn, 1) := by decide +kernel
theorem dX9_mayEnd_0 : decode cX9_mayEnd 0 = .ok (.aload_n 0, 1) := by decide +kernel
theorem dX9_mayEnd_1 : decode cX9_mayEnd 1 = .ok (.getfield 30, 3) := by decide +kernel
theorem dX9_mayEnd_4 : decode cX9_mayEnd 4 = .ok (.getfield 98, 3) := by decide +kernel
theorem dX9_mayEnd_7 : decode cX9_mayEnd 7 = .ok (.getfield 172, 3) := by decide +kernel
theorem dX9_mayEnd_10 : decode cX9_mayEnd 10 = .ok (.iload_n 1, 1) := by decide +kernel
theorem dX9_mayEnd_11 : decode cX9_mayEnd 11 = .ok (.iadd, 1) := by decide +kernel
theorem dX9_mayEnd_12 : decode cX9_mayEnd 12 = .ok (.bipush 64, 2) := by decide +kernel
theorem dX9_mayEnd_14 : decode cX9_mayEnd 14 = .ok (.if_icmp .ge 7, 3) := by decide +kernel
theorem dX9_mayEnd_17 : decode cX9_mayEnd 17 = .ok (.iconst 1, 1) := by decide +kernel
theorem dX9_mayEnd_18 : decode cX9_mayEnd 18 = .ok (.goto 4, 3) := by decide +kernel
theorem dX9_mayEnd_21 : decode cX9_mayEnd 21 = .ok (.iconst 0, 1) := by decide +kernel
theorem dX9_mayEnd_22 : decode cX9_mayEnd 22 = .ok (.ireturn, 1) := by decide +kernel
theorem dX9_isIn_0 : decode cX9_isIn 0 = .ok (.iload_n 0, 1) := by decide +kernel
theorem dX9_isIn_1 : decode cX9_isIn 1 = .ok (.iload_n 1, 1) := by decide +kernel
theorem dX9_isIn_2 : decode cX9_isIn 2 = .ok (.if_icmp .lt 12, 3) := by decide +kernel
theorem dX9_isIn_5 : decode cX9_isIn 5 = .ok (.iload_n 0, 1) := by decide +kernel
theorem dX9_isIn_6 : decode cX9_isIn 6 = .ok (.iload_n 2, 1) := by decide +kernel
theorem dX9_isIn_7 : decode cX9_isIn 7 = .ok (.if_icmp .gt 7, 3) := by decide +kernel
theorem dX9_isIn_10 : decode cX9_isIn 10 = .ok (.iconst 1, 1) := by decide +kernel
theorem dX9_isIn_11 : decode cX9_isIn 11 = .ok (.goto 4, 3) := by decide +kernel
theorem dX9_isIn_14 : decode cX9_isIn 14 = .ok (.iconst 0, 1) := by decide +kernel
theorem dX9_isIn_15 : decode cX9_isIn 15 = .ok (.ireturn, 1) := by decide +kernel
theorem dX9_isIntervals_0 : decode cX9_isIntervals 0 = .ok (.iload_n 0, 1) := by decide +kernel
theorem dX9_isIntervals_1 : decode cX9_isIntervals 1 = .ok (.iconst 5, 1) := by decide +kernel
theorem dX9_isIntervals_2 : decode cX9_isIntervals 2 = .ok (.if_icmp .eq 9, 3) := by decide +kernel
theorem dX9_isIntervals_5 : decode cX9_isIntervals 5 = .ok (.iload_n 0, 1) := by decide +kernel
theorem dX9_isIntervals_6 : decode cX9_isIntervals 6 = .ok (.bipush 10, 2) := by decide +kernel
theorem dX9_isIntervals_8 : decode cX9_isIntervals 8 = .ok (.if_icmp .ne 7, 3) := by decide +kernel
theorem dX9_isIntervals_11 : decode cX9_isIntervals 11 = .ok (.iconst 1, 1) := by decide +kernel
theorem dX9_isIntervals_12 : decode cX9_isIntervals 12 = .ok (.goto 4, 3) := by decide +kernel
theorem dX9_isIntervals_15 : decode cX9_isIntervals 15 = .ok (.iconst 0, 1) := by decide +kernel
theorem dX9_isIntervals_16 : decode cX9_isIntervals 16 = .ok (.ireturn, 1) := by decide +kernel
theorem dX9_cut_0 : decode cX9_cut 0 = .ok (.lload_n 2, 1) := by decide +kernel
theorem dX9_cut_1 : decode cX9_cut 1 = .ok (.lconst 0, 1) := by decide +kernel
theorem dX9_cut_2 : decode cX9_cut 2 = .ok (.lcmp, 1) := by decide +kernel
theorem dX9_cut_3 : decode cX9_cut 3 = .ok (.ifCond .gt 5, 3) := by decide +kernel
theorem dX9_cut_6 : decode cX9_cut 6 = .ok (.lconst 0, 1) := by decide +kernel
theorem dX9_cut_7 : decode cX9_cut 7 = .ok (.lreturn, 1) := by decide +kernel
theorem dX9_cut_8 : decode cX9_cut 8 = .ok (.iload 4, 2) := by decide +kernel
theorem dX9_cut_10 : decode cX9_cut 10 = .ok (.ifCond .ne 9, 3) := by decide +kernel
theorem dX9_cut_13 : decode cX9_cut 13 = .ok (.lload_n 0, 1) := by decide +kernel
theorem dX9_cut_14 : decode cX9_cut 14 = .ok (.lload_n 2, 1) := by decide +kernel
theorem dX9_cut_15 : decode cX9_cut 15 = .ok (.invokestatic 394, 3) := by decide +kernel
theorem dX9_cut_18 : decode cX9_cut 18 = .ok (.lreturn, 1) := by decide +kernel
theorem dX9_cut_19 : decode cX9_cut 19 = .ok (.iload 4, 2) := by decide +kernel
theorem dX9_cut_21 : decode cX9_cut 21 = .ok (.iconst 1, 1) := by decide +kernel
theorem dX9_cut_22 : decode cX9_cut 22 = .ok (.if_icmp .ne 11, 3) := by decide +kernel
theorem dX9_cut_25 : decode cX9_cut 25 = .ok (.lload_n 0, 1) := by decide +kernel
theorem dX9_cut_26 : decode cX9_cut 26 = .ok (.lneg, 1) := by decide +kernel
theorem dX9_cut_27 : decode cX9_cut 27 = .ok (.lload_n 2, 1) := by decide +kernel
theorem dX9_cut_28 : decode cX9_cut 28 = .ok (.invokestatic 394, 3) := by decide +kernel
theorem dX9_cut_31 : decode cX9_cut 31 = .ok (.lneg, 1) := by decide +kernel
theorem dX9_cut_32 : decode cX9_cut 32 = .ok (.lreturn, 1) := by decide +kernel
theorem dX9_cut_33 : decode cX9_cut 33 = .ok (.ldc2_w 398, 3) := by decide +kernel
theorem dX9_cut_36 : decode cX9_cut 36 = .ok (.lload_n 0, 1) := by decide +kernel
theorem dX9_cut_37 : decode cX9_cut 37 = .ok (.lmul, 1) := by decide +kernel
theorem dX9_cut_38 : decode cX9_cut 38 = .ok (.lload_n 2, 1) := by decide +kernel
theorem dX9_cut_39 : decode cX9_cut 39 = .ok (.ladd, 1) := by decide +kernel
theorem dX9_cut_40 : decode cX9_cut 40 = .ok (.ldc2_w 398, 3) := by decide +kernel
theorem dX9_cut_43 : decode cX9_cut 43 = .ok (.lload_n 2, 1) := by decide +kernel
theorem dX9_cut_44 : decode cX9_cut 44 = .ok (.lmul, 1) := by decide +kernel
theorem dX9_cut_45 : decode cX9_cut 45 = .ok (.invokestatic 394, 3) := by decide +kernel
theorem dX9_cut_48 : decode cX9_cut 48 = .ok (.lreturn, 1) := by decide +kernel
theorem dX9_numberBehind_0 : decode cX9_numberBehind 0 = .ok (.lload_n 0, 1) := by decide +kernel
theorem dX9_numberBehind_1 : decode cX9_numberBehind 1 = .ok (.ldc2_w 400, 3) := by decide +kernel
theorem dX9_numberBehind_4 : decode cX9_numberBehind 4 = .ok (.lmul, 1) := by decide +kernel
theorem dX9_numberBehind_5 : decode cX9_numberBehind 5 = .ok (.ldc2_w 402, 3) := by decide +kernel
theorem dX9_numberBehind_8 : decode cX9_numberBehind 8 = .ok (.ladd, 1) := by decide +kernel
theorem dX9_numberBehind_9 : decode cX9_numberBehind 9 = .ok (.ldc2_w 404, 3) := by decide +kernel
theorem dX9_numberBehind_12 : decode cX9_numberBehind 12 = .ok (.land, 1) := by decide +kernel
theorem dX9_numberBehind_13 : decode cX9_numberBehind 13 = .ok (.lreturn, 1) := by decide +kernel
theorem dX9_copyRow_0 : decode cX9_copyRow 0 = .ok (.aload_n 0, 1) := by decide +kernel
theorem dX9_copyRow_1 : decode cX9_copyRow 1 = .ok (.iconst 0, 1) := by decide +kernel
theorem dX9_copyRow_2 : decode cX9_copyRow 2 = .ok (.aload_n 1, 1) := by decide +kernel
theorem dX9_copyRow_3 : decode cX9_copyRow 3 = .ok (.iconst 0, 1) := by decide +kernel
theorem dX9_copyRow_4 : decode cX9_copyRow 4 = .ok (.aload_n 0, 1) := by decide +kernel
theorem dX9_copyRow_5 : decode cX9_copyRow 5 = .ok (.arraylength, 1) := by decide +kernel
theorem dX9_copyRow_6 : decode cX9_copyRow 6 = .ok (.aload_n 1, 1) := by decide +kernel
theorem dX9_copyRow_7 : decode cX9_copyRow 7 = .ok (.arraylength, 1) := by decide +kernel
theorem dX9_copyRow_8 : decode cX9_copyRow 8 = .ok (.invokestatic 265, 3) := by decide +kernel
theorem dX9_copyRow_11 : decode cX9_copyRow 11 = .ok (.invokestatic 406, 3) := by decide +kernel
theorem dX9_copyRow_14 : decode cX9_copyRow 14 = .ok (.return_, 1) := by decide +kernel
theorem dX10_init_0 : decode cX10_init 0 = .ok (.aload_n 0, 1) := by decide +kernel
theorem dX10_init_1 : decode cX10_init 1 = .ok (.invokespecial 1, 3) := by decide +kernel
theorem dX10_init_4 : decode cX10_init 4 = .ok (.aload_n 0, 1) := by decide +kernel
theorem dX10_init_5 : decode cX10_init 5 = .ok (.sipush 700, 3) := by decide +kernel
theorem dX10_init_8 : decode cX10_init 8 = .ok (.newarray .int, 2) := by decide +kernel
theorem dX10_init_10 : decode cX10_init 10 = .ok (.putfield 7, 3) := by decide +kernel
theorem dX10_init_13 : decode cX10_init 13 = .ok (.aload_n 0, 1) := by decide +kernel
theorem dX10_init_14 : decode cX10_init 14 = .ok (.bipush 68, 2) := by decide +kernel
theorem dX10_init_16 : decode cX10_init 16 = .ok (.newarray .int, 2) := by decide +kernel
theorem dX10_init_18 : decode cX10_init 18 = .ok (.dup, 1) := by decide +kernel
theorem dX10_init_19 : decode cX10_init 19 = .ok (.iconst 0, 1) := by decide +kernel
theorem dX10_init_20 : decode cX10_init 20 = .ok (.bipush 116, 2) := by decide +kernel
theorem dX10_init_22 : decode cX10_init 22 = .ok (.iastore, 1) := by decide +kernel
theorem dX10_init_23 : decode cX10_init 23 = .ok (.dup, 1) := by decide +kernel
theorem dX10_init_24 : decode cX10_init 24 = .ok (.iconst 1, 1) := by decide +kernel
theorem dX10_init_25 : decode cX10_init 25 = .ok (.bipush 114, 2) := by decide +kernel
theorem dX10_init_27 : decode cX10_init 27 = .ok (.iastore, 1) := by decide +kernel
theorem dX10_init_28 : decode cX10_init 28 = .ok (.dup, 1) := by decide +kernel
theorem dX10_init_29 : decode cX10_init 29 = .ok (.iconst 2, 1) := by decide +kernel
theorem dX10_init_30 : decode cX10_init 30 = .ok (.bipush 97, 2) := by decide +kernel
theorem dX10_init_32 : decode cX10_init 32 = .ok (.iastore, 1) := by decide +kernel
theorem dX10_init_33 : decode cX10_init 33 = .ok (.dup, 1) := by decide +kernel
theorem dX10_init_34 : decode cX10_init 34 = .ok (.iconst 3, 1) := by decide +kernel
theorem dX10_init_35 : decode cX10_init 35 = .ok (.bipush 100, 2) := by decide +kernel
theorem dX10_init_37 : decode cX10_init 37 = .ok (.iastore, 1) := by decide +kernel
theorem dX10_init_38 : decode cX10_init 38 = .ok (.dup, 1) := by decide +kernel
theorem dX10_init_39 : decode cX10_init 39 = .ok (.iconst 4, 1) := by decide +kernel
theorem dX10_init_40 : decode cX10_init 40 = .ok (.bipush 101, 2) := by decide +kernel
theorem dX10_init_42 : decode cX10_init 42 = .ok (.iastore, 1) := by decide +kernel
theorem dX10_init_43 : decode cX10_init 43 = .ok (.dup, 1) := by decide +kernel
theorem dX10_init_44 : decode cX10_init 44 = .ok (.iconst 5, 1) := by decide +kernel
theorem dX10_init_45 : decode cX10_init 45 = .ok (.bipush 114, 2) := by decide +kernel
theorem dX10_init_47 : decode cX10_init 47 = .ok (.iastore, 1) := by decide +kernel
theorem dX10_init_48 : decode cX10_init 48 = .ok (.dup, 1) := by decide +kernel
theorem dX10_init_49 : decode cX10_init 49 = .ok (.bipush 6, 2) := by decide +kernel
theorem dX10_init_51 : decode cX10_init 51 = .ok (.bipush 32, 2) := by decide +kernel
theorem dX10_init_53 : decode cX10_init 53 = .ok (.iastore, 1) := by decide +kernel
theorem dX10_init_54 : decode cX10_init 54 = .ok (.dup, 1) := by decide +kernel
theorem dX10_init_55 : decode cX10_init 55 = .ok (.bipush 7, 2) := by decide +kernel
theorem dX10_init_57 : decode cX10_init 57 = .ok (.bipush 104, 2) := by decide +kernel
theorem dX10_init_59 : decode cX10_init 59 = .ok (.iastore, 1) := by decide +kernel
theorem dX10_init_60 : decode cX10_init 60 = .ok (.dup, 1) := by decide +kernel
theorem dX10_init_61 : decode cX10_init 61 = .ok (.bipush 8, 2) := by decide +kernel
theorem dX10_init_63 : decode cX10_init 63 = .ok (.bipush 101, 2) := by decide +kernel
theorem dX10_init_65 : decode cX10_init 65 = .ok (.iastore, 1) := by decide +kernel
theorem dX10_init_66 : decode cX10_init 66 = .ok (.dup, 1) := by decide +kernel
theorem dX10_init_67 : decode cX10_init 67 = .ok (.bipush 9, 2) := by decide +kernel
theorem dX10_init_69 : decode cX10_init 69 = .ok (.bipush 97, 2) := by decide +kernel
theorem dX10_init_71 : decode cX10_init 71 = .ok (.iastore, 1) := by decide +kernel
theorem dX10_init_72 : decode cX10_init 72 = .ok (.dup, 1) := by decide +kernel
theorem dX10_init_73 : decode cX10_init 73 = .ok (.bipush 10, 2) := by decide +kernel
theorem dX10_init_75 : decode cX10_init 75 = .ok (.bipush 100, 2) := by decide +kernel
theorem dX10_init_77 : decode cX10_init 77 = .ok (.iastore, 1) := by decide +kernel
theorem dX10_init_78 : decode cX10_init 78 = .ok (.dup, 1) := by decide +kernel
theorem dX10_init_79 : decode cX10_init 79 = .ok (.bipush 11, 2) := by decide +kernel
theorem dX10_init_81 : decode cX10_init 81 = .ok (.bipush 32, 2) := by decide +kernel
theorem dX10_init_83 : decode cX10_init 83 = .ok (.iastore, 1) := by decide +kernel
theorem dX10_init_84 : decode cX10_init 84 = .ok (.dup, 1) := by decide +kernel
theorem dX10_init_85 : decode cX10_init 85 = .ok (.bipush 12, 2) := by decide +kernel
theorem dX10_init_87 : decode cX10_init 87 = .ok (.bipush 115, 2) := by decide +kernel
theorem dX10_init_89 : decode cX10_init 89 = .ok (.iastore, 1) := by decide +kernel
theorem dX10_init_90 : decode cX10_init 90 = .ok (.dup, 1) := by decide +kernel
theorem dX10_init_91 : decode cX10_init 91 = .ok (.bipush 13, 2) := by decide +kernel
theorem dX10_init_93 : decode cX10_init 93 = .ok (.bipush 116, 2) := by decide +kernel
theorem dX10_init_95 : decode cX10_init 95 = .ok (.iastore, 1) := by decide +kernel
theorem dX10_init_96 : decode cX10_init 96 = .ok (.dup, 1) := by decide +kernel
theorem dX10_init_97 : decode cX10_init 97 = .ok (.bipush 14, 2) := by decide +kernel
theorem dX10_init_99 : decode cX10_init 99 = .ok (.bipush 97, 2) := by decide +kernel
theorem dX10_init_101 : decode cX10_init 101 = .ok (.iastore, 1) := by decide +kernel
theorem dX10_init_102 : decode cX10_init 102 = .ok (.dup, 1) := by decide +kernel
theorem dX10_init_103 : decode cX10_init 103 = .ok (.bipush 15, 2) := by decide +kernel
theorem dX10_init_105 : decode cX10_init 105 = .ok (.bipush 114, 2) := by decide +kernel
theorem dX10_init_107 : decode cX10_init 107 = .ok (.iastore, 1) := by decide +kernel
theorem dX10_init_108 : decode cX10_init 108 = .ok (.dup, 1) := by decide +kernel
theorem dX10_init_109 : decode cX10_init 109 = .ok (.bipush 16, 2) := by decide +kernel
theorem dX10_init_111 : decode cX10_init 111 = .ok (.bipush 116, 2) := by decide +kernel
theorem dX10_init_113 : decode cX10_init 113 = .ok (.iastore, 1) := by decide +kernel
theorem dX10_init_114 : decode cX10_init 114 = .ok (.dup, 1) := by decide +kernel
theorem dX10_init_115 : decode cX10_init 115 = .ok (.bipush 17, 2) := by decide +kernel
theorem dX10_init_117 : decode cX10_init 117 = .ok (.bipush 32, 2) := by decide +kernel
theorem dX10_init_119 : decode cX10_init 119 = .ok (.iastore, 1) := by decide +kernel
theorem dX10_init_120 : decode cX10_init 120 = .ok (.dup, 1) := by decide +kernel
theorem dX10_init_121 : decode cX10_init 121 = .ok (.bipush 18, 2) := by decide +kernel
theorem dX10_init_123 : decode cX10_init 123 = .ok (.bipush 114, 2) := by decide +kernel
theorem dX10_init_125 : decode cX10_init 125 = .ok (.iastore, 1) := by decide +kernel
theorem dX10_init_126 : decode cX10_init 126 = .ok (.dup, 1) := by decide +kernel
theorem dX10_init_127 : decode cX10_init 127 = .ok (.bipush 19, 2) := by decide +kernel
theorem dX10_init_129 : decode cX10_init 129 = .ok (.bipush 111, 2) := by decide +kernel
theorem dX10_init_131 : decode cX10_init 131 = .ok (.iastore, 1) := by decide +kernel
theorem dX10_init_132 : decode cX10_init 132 = .ok (.dup, 1) := by decide +kernel
theorem dX10_init_133 : decode cX10_init 133 = .ok (.bipush 20, 2) := by decide +kernel
theorem dX10_init_135 : decode cX10_init 135 = .ok (.bipush 117, 2) := by decide +kernel
theorem dX10_init_137 : decode cX10_init 137 = .ok (.iastore, 1) := by decide +kernel
theorem dX10_init_138 : decode cX10_init 138 = .ok (.dup, 1) := by decide +kernel
theorem dX10_init_139 : decode cX10_init 139 = .ok (.bipush 21, 2) := by decide +kernel
theorem dX10_init_141 : decode cX10_init 141 = .ok (.bipush 110, 2) := by decide +kernel
theorem dX10_init_143 : decode cX10_init 143 = .ok (.iastore, 1) := by decide +kernel
theorem dX10_init_144 : decode cX10_init 144 = .ok (.dup, 1) := by decide +kernel
theorem dX10_init_145 : decode cX10_init 145 = .ok (.bipush 22, 2) := by decide +kernel
theorem dX10_init_147 : decode cX10_init 147 = .ok (.bipush 100, 2) := by decide +kernel
theorem dX10_init_149 : decode cX10_init 149 = .ok (.iastore, 1) := by decide +kernel
theorem dX10_init_150 : decode cX10_init 150 = .ok (.dup, 1) := by decide +kernel
theorem dX10_init_151 : decode cX10_init 151 = .ok (.bipush 23, 2) := by decide +kernel
theorem dX10_init_153 : decode cX10_init 153 = .ok (.bipush 32, 2) := by decide +kernel
theorem dX10_init_155 : decode cX10_init 155 = .ok (.iastore, 1) := by decide +kernel
theorem dX10_init_156 : decode cX10_init 156 = .ok (.dup, 1) := by decide +kernel
theorem dX10_init_157 : decode cX10_init 157 = .ok (.bipush 24, 2) := by decide +kernel
theorem dX10_init_159 : decode cX10_init 159 = .ok (.bipush 115, 2) := by decide +kernel
theorem dX10_init_161 : decode cX10_init 161 = .ok (.iastore, 1) := by decide +kernel
theorem dX10_init_162 : decode cX10_init 162 = .ok (.dup, 1) := by decide +kernel
theorem dX10_init_163 : decode cX10_init 163 = .ok (.bipush 25, 2) := by decide +kernel
theorem dX10_init_165 : decode cX10_init 165 = .ok (.bipush 116, 2) := by decide +kernel
theorem dX10_init_167 : decode cX10_init 167 = .ok (.iastore, 1) := by decide +kernel
theorem dX10_init_168 : decode cX10_init 168 = .ok (.dup, 1) := by decide +kernel
theorem dX10_init_169 : decode cX10_init 169 = .ok (.bipush 26, 2) := by decide +kernel
theorem dX10_init_171 : decode cX10_init 171 = .ok (.bipush 101, 2) := by decide +kernel
theorem dX10_init_173 : decode cX10_init 173 = .ok (.iastore, 1) := by decide +kernel
theorem dX10_init_174 : decode cX10_init 174 = .ok (.dup, 1) := by decide +kernel
theorem dX10_init_175 : decode cX10_init 175 = .ok (.bipush 27, 2) := by decide +kernel
theorem dX10_init_177 : decode cX10_init 177 = .ok (.bipush 112, 2) := by decide +kernel
theorem dX10_init_179 : decode cX10_init 179 = .ok (.iastore, 1) := by decide +kernel
theorem dX10_init_180 : decode cX10_init 180 = .ok (.dup, 1) := by decide +kernel
theorem dX10_init_181 : decode cX10_init 181 = .ok (.bipush 28, 2) := by decide +kernel
theorem dX10_init_183 : decode cX10_init 183 = .ok (.bipush 32, 2) := by decide +kernel
theorem dX10_init_185 : decode cX10_init 185 = .ok (.iastore, 1) := by decide +kernel
theorem dX10_init_186 : decode cX10_init 186 = .ok (.dup, 1) := by decide +kernel
theorem dX10_init_187 : decode cX10_init 187 = .ok (.bipush 29, 2) := by decide +kernel
theorem dX10_init_189 : decode cX10_init 189 = .ok (.bipush 108, 2) := by decide +kernel
theorem dX10_init_191 : decode cX10_init 191 = .ok (.iastore, 1) := by decide +kernel
theorem dX10_init_192 : decode cX10_init 192 = .ok (.dup, 1) := by decide +kernel
theorem dX10_init_193 : decode cX10_init 193 = .ok (.bipush 30, 2) := by decide +kernel
theorem dX10_init_195 : decode cX10_init 195 = .ok (.bipush 105, 2) := by decide +kernel
theorem dX10_init_197 : decode cX10_init 197 = .ok (.iastore, 1) := by decide +kernel
theorem dX10_init_198 : decode cX10_init 198 = .ok (.dup, 1) := by decide +kernel
theorem dX10_init_199 : decode cX10_init 199 = .ok (.bipush 31, 2) := by decide +kernel
theorem dX10_init_201 : decode cX10_init 201 = .ok (.bipush 109, 2) := by decide +kernel
theorem dX10_init_203 : decode cX10_init 203 = .ok (.iastore, 1) := by decide +kernel
theorem dX10_init_204 : decode cX10_init 204 = .ok (.dup, 1) := by decide +kernel
theorem dX10_init_205 : decode cX10_init 205 = .ok (.bipush 32, 2) := by decide +kernel
theorem dX10_init_207 : decode cX10_init 207 = .ok (.bipush 105, 2) := by decide +kernel
theorem dX10_init_209 : decode cX10_init 209 = .ok (.iastore, 1) := by decide +kernel
theorem dX10_init_210 : decode cX10_init 210 = .ok (.dup, 1) := by decide +kernel
theorem dX10_init_211 : decode cX10_init 211 = .ok (.bipush 33, 2) := by decide +kernel
theorem dX10_init_213 : decode cX10_init 213 = .ok (.bipush 116, 2) := by decide +kernel
theorem dX10_init_215 : decode cX10_init 215 = .ok (.iastore, 1) := by decide +kernel
theorem dX10_init_216 : decode cX10_init 216 = .ok (.dup, 1) := by decide +kernel
theorem dX10_init_217 : decode cX10_init 217 = .ok (.bipush 34, 2) := by decide +kernel
theorem dX10_init_219 : decode cX10_init 219 = .ok (.bipush 32, 2) := by decide +kernel
theorem dX10_init_221 : decode cX10_init 221 = .ok (.iastore, 1) := by decide +kernel
theorem dX10_init_222 : decode cX10_init 222 = .ok (.dup, 1) := by decide +kernel
theorem dX10_init_223 : decode cX10_init 223 = .ok (.bipush 35, 2) := by decide +kernel
theorem dX10_init_225 : decode cX10_init 225 = .ok (.bipush 115, 2) := by decide +kernel
theorem dX10_init_227 : decode cX10_init 227 = .ok (.iastore, 1) := by decide +kernel
theorem dX10_init_228 : decode cX10_init 228 = .ok (.dup, 1) := by decide +kernel
theorem dX10_init_229 : decode cX10_init 229 = .ok (.bipush 36, 2) := by decide +kernel
theorem dX10_init_231 : decode cX10_init 231 = .ok (.bipush 101, 2) := by decide +kernel
theorem dX10_init_233 : decode cX10_init 233 = .ok (.iastore, 1) := by decide +kernel
theorem dX10_init_234 : decode cX10_init 234 = .ok (.dup, 1) := by decide +kernel
theorem dX10_init_235 : decode cX10_init 235 = .ok (.bipush 37, 2) := by decide +kernel
theorem dX10_init_237 : decode cX10_init 237 = .ok (.bipush 101, 2) := by decide +kernel
theorem dX10_init_239 : decode cX10_init 239 = .ok (.iastore, 1) := by decide +kernel
theorem dX10_init_240 : decode cX10_init 240 = .ok (.dup, 1) := by decide +kernel
theorem dX10_init_241 : decode cX10_init 241 = .ok (.bipush 38, 2) := by decide +kernel
theorem dX10_init_243 : decode cX10_init 243 = .ok (.bipush 100, 2) := by decide +kernel
theorem dX10_init_245 : decode cX10_init 245 = .ok (.iastore, 1) := by decide +kernel
theorem dX10_init_246 : decode cX10_init 246 = .ok (.dup, 1) := by decide +kernel
theorem dX10_init_247 : decode cX10_init 247 = .ok (.bipush 39, 2) := by decide +kernel
theorem dX10_init_249 : decode cX10_init 249 = .ok (.bipush 32, 2) := by decide +kernel
theorem dX10_init_251 : decode cX10_init 251 = .ok (.iastore, 1) := by decide +kernel
theorem dX10_init_252 : decode cX10_init 252 = .ok (.dup, 1) := by decide +kernel
theorem dX10_init_253 : decode cX10_init 253 = .ok (.bipush 40, 2) := by decide +kernel
theorem dX10_init_255 : decode cX10_init 255 = .ok (.bipush 115, 2) := by decide +kernel
theorem dX10_init_257 : decode cX10_init 257 = .ok (.iastore, 1) := by decide +kernel
theorem dX10_init_258 : decode cX10_init 258 = .ok (.dup, 1) := by decide +kernel
theorem dX10_init_259 : decode cX10_init 259 = .ok (.bipush 41, 2) := by decide +kernel
theorem dX10_init_261 : decode cX10_init 261 = .ok (.bipush 97, 2) := by decide +kernel
theorem dX10_init_263 : decode cX10_init 263 = .ok (.iastore, 1) := by decide +kernel
theorem dX10_init_264 : decode cX10_init 264 = .ok (.dup, 1) := by decide +kernel
theorem dX10_init_265 : decode cX10_init 265 = .ok (.bipush 42, 2) := by decide +kernel
theorem dX10_init_267 : decode cX10_init 267 = .ok (.bipush 108, 2) := by decide +kernel
theorem dX10_init_269 : decode cX10_init 269 = .ok (.iastore, 1) := by decide +kernel
theorem dX10_init_270 : decode cX10_init 270 = .ok (.dup, 1) := by decide +kernel
theorem dX10_init_271 : decode cX10_init 271 = .ok (.bipush 43, 2) := by decide +kernel
theorem dX10_init_273 : decode cX10_init 273 = .ok (.bipush 101, 2) := by decide +kernel
theorem dX10_init_275 : decode cX10_init 275 = .ok (.iastore, 1) := by decide +kernel
theorem dX10_init_276 : decode cX10_init 276 = .ok (.dup, 1) := by decide +kernel
theorem dX10_init_277 : decode cX10_init 277 = .ok (.bipush 44, 2) := by decide +kernel
theorem dX10_init_279 : decode cX10_init 279 = .ok (.bipush 32, 2) := by decide +kernel
theorem dX10_init_281 : decode cX10_init 281 = .ok (.iastore, 1) := by decide +kernel
theorem dX10_init_282 : decode cX10_init 282 = .ok (.dup, 1) := by decide +kernel
theorem dX10_init_283 : decode cX10_init 283 = .ok (.bipush 45, 2) := by decide +kernel
theorem dX10_init_285 : decode cX10_init 285 = .ok (.bipush 98, 2) := by decide +kernel
theorem dX10_init_287 : decode cX10_init 287 = .ok (.iastore, 1) := by decide +kernel
theorem dX10_init_288 : decode cX10_init 288 = .ok (.dup, 1) := by decide +kernel
theorem dX10_init_289 : decode cX10_init 289 = .ok (.bipush 46, 2) := by decide +kernel
theorem dX10_init_291 : decode cX10_init 291 = .ok (.bipush 117, 2) := by decide +kernel
theorem dX10_init_293 : decode cX10_init 293 = .ok (.iastore, 1) := by decide +kernel
theorem dX10_init_294 : decode cX10_init 294 = .ok (.dup, 1) := by decide +kernel
theorem dX10_init_295 : decode cX10_init 295 = .ok (.bipush 47, 2) := by decide +kernel
theorem dX10_init_297 : decode cX10_init 297 = .ok (.bipush 121, 2) := by decide +kernel
theorem dX10_init_299 : decode cX10_init 299 = .ok (.iastore, 1) := by decide +kernel
theorem dX10_init_300 : decode cX10_init 300 = .ok (.dup, 1) := by decide +kernel
theorem dX10_init_301 : decode cX10_init 301 = .ok (.bipush 48, 2) := by decide +kernel
theorem dX10_init_303 : decode cX10_init 303 = .ok (.bipush 32, 2) := by decide +kernel
theorem dX10_init_305 : decode cX10_init 305 = .ok (.iastore, 1) := by decide +kernel
theorem dX10_init_306 : decode cX10_init 306 = .ok (.dup, 1) := by decide +kernel
theorem dX10_init_307 : decode cX10_init 307 = .ok (.bipush 49, 2) := by decide +kernel
theorem dX10_init_309 : decode cX10_init 309 = .ok (.bipush 97, 2) := by decide +kernel
theorem dX10_init_311 : decode cX10_init 311 = .ok (.iastore, 1) := by decide +kernel
theorem dX10_init_312 : decode cX10_init 312 = .ok (.dup, 1) := by decide +kernel
theorem dX10_init_313 : decode cX10_init 313 = .ok (.bipush 50, 2) := by decide +kernel
theorem dX10_init_315 : decode cX10_init 315 = .ok (.bipush 115, 2) := by decide +kernel
theorem dX10_init_317 : decode cX10_init 317 = .ok (.iastore, 1) := by decide +kernel
theorem dX10_init_318 : decode cX10_init 318 = .ok (.dup, 1) := by decide +kernel
theorem dX10_init_319 : decode cX10_init 319 = .ok (.bipush 51, 2) := by decide +kernel
theorem dX10_init_321 : decode cX10_init 321 = .ok (.bipush 115, 2) := by decide +kernel
theorem dX10_init_323 : decode cX10_init 323 = .ok (.iastore, 1) := by decide +kernel
theorem dX10_init_324 : decode cX10_init 324 = .ok (.dup, 1) := by decide +kernel
theorem dX10_init_325 : decode cX10_init 325 = .ok (.bipush 52, 2) := by decide +kernel
theorem dX10_init_327 : decode cX10_init 327 = .ok (.bipush 101, 2) := by decide +kernel
theorem dX10_init_329 : decode cX10_init 329 = .ok (.iastore, 1) := by decide +kernel
theorem dX10_init_330 : decode cX10_init 330 = .ok (.dup, 1) := by decide +kernel
theorem dX10_init_331 : decode cX10_init 331 = .ok (.bipush 53, 2) := by decide +kernel
theorem dX10_init_333 : decode cX10_init 333 = .ok (.bipush 116, 2) := by decide +kernel
theorem dX10_init_335 : decode cX10_init 335 = .ok (.iastore, 1) := by decide +kernel
theorem dX10_init_336 : decode cX10_init 336 = .ok (.dup, 1) := by decide +kernel
theorem dX10_init_337 : decode cX10_init 337 = .ok (.bipush 54, 2) := by decide +kernel
theorem dX10_init_339 : decode cX10_init 339 = .ok (.bipush 32, 2) := by decide +kernel
theorem dX10_init_341 : decode cX10_init 341 = .ok (.iastore, 1) := by decide +kernel
theorem dX10_init_342 : decode cX10_init 342 = .ok (.dup, 1) := by decide +kernel
theorem dX10_init_343 : decode cX10_init 343 = .ok (.bipush 55, 2) := by decide +kernel
theorem dX10_init_345 : decode cX10_init 345 = .ok (.bipush 117, 2) := by decide +kernel
theorem dX10_init_347 : decode cX10_init 347 = .ok (.iastore, 1) := by decide +kernel
theorem dX10_init_348 : decode cX10_init 348 = .ok (.dup, 1) := by decide +kernel
theorem dX10_init_349 : decode cX10_init 349 = .ok (.bipush 56, 2) := by decide +kernel
theorem dX10_init_351 : decode cX10_init 351 = .ok (.bipush 112, 2) := by decide +kernel
theorem dX10_init_353 : decode cX10_init 353 = .ok (.iastore, 1) := by decide +kernel
theorem dX10_init_354 : decode cX10_init 354 = .ok (.dup, 1) := by decide +kernel
theorem dX10_init_355 : decode cX10_init 355 = .ok (.bipush 57, 2) := by decide +kernel
theorem dX10_init_357 : decode cX10_init 357 = .ok (.bipush 32, 2) := by decide +kernel
theorem dX10_init_359 : decode cX10_init 359 = .ok (.iastore, 1) := by decide +kernel
theorem dX10_init_360 : decode cX10_init 360 = .ok (.dup, 1) := by decide +kernel
theorem dX10_init_361 : decode cX10_init 361 = .ok (.bipush 58, 2) := by decide +kernel
theorem dX10_init_363 : decode cX10_init 363 = .ok (.bipush 100, 2) := by decide +kernel
theorem dX10_init_365 : decode cX10_init 365 = .ok (.iastore, 1) := by decide +kernel
theorem dX10_init_366 : decode cX10_init 366 = .ok (.dup, 1) := by decide +kernel
theorem dX10_init_367 : decode cX10_init 367 = .ok (.bipush 59, 2) := by decide +kernel
theorem dX10_init_369 : decode cX10_init 369 = .ok (.bipush 111, 2) := by decide +kernel
theorem dX10_init_371 : decode cX10_init 371 = .ok (.iastore, 1) := by decide +kernel
theorem dX10_init_372 : decode cX10_init 372 = .ok (.dup, 1) := by decide +kernel
theorem dX10_init_373 : decode cX10_init 373 = .ok (.bipush 60, 2) := by decide +kernel
theorem dX10_init_375 : decode cX10_init 375 = .ok (.bipush 119, 2) := by decide +kernel
theorem dX10_init_377 : decode cX10_init 377 = .ok (.iastore, 1) := by decide +kernel
theorem dX10_init_378 : decode cX10_init 378 = .ok (.dup, 1) := by decide +kernel
theorem dX10_init_379 : decode cX10_init 379 = .ok (.bipush 61, 2) := by decide +kernel
theorem dX10_init_381 : decode cX10_init 381 = .ok (.bipush 110, 2) := by decide +kernel
theorem dX10_init_383 : decode cX10_init 383 = .ok (.iastore, 1) := by decide +kernel
theorem dX10_init_384 : decode cX10_init 384 = .ok (.dup, 1) := by decide +kernel
theorem dX10_init_385 : decode cX10_init 385 = .ok (.bipush 62, 2) := by decide +kernel
theorem dX10_init_387 : decode cX10_init 387 = .ok (.bipush 32, 2) := by decide +kernel
theorem dX10_init_389 : decode cX10_init 389 = .ok (.iastore, 1) := by decide +kernel
theorem dX10_init_390 : decode cX10_init 390 = .ok (.dup, 1) := by decide +kernel
theorem dX10_init_391 : decode cX10_init 391 = .ok (.bipush 63, 2) := by decide +kernel
theorem dX10_init_393 : decode cX10_init 393 = .ok (.bipush 110, 2) := by decide +kernel
theorem dX10_init_395 : decode cX10_init 395 = .ok (.iastore, 1) := by decide +kernel
theorem dX10_init_396 : decode cX10_init 396 = .ok (.dup, 1) := by decide +kernel
theorem dX10_init_397 : decode cX10_init 397 = .ok (.bipush 64, 2) := by decide +kernel
theorem dX10_init_399 : decode cX10_init 399 = .ok (.bipush 101, 2) := by decide +kernel
theorem dX10_init_401 : decode cX10_init 401 = .ok (.iastore, 1) := by decide +kernel
theorem dX10_init_402 : decode cX10_init 402 = .ok (.dup, 1) := by decide +kernel
theorem dX10_init_403 : decode cX10_init 403 = .ok (.bipush 65, 2) := by decide +kernel
theorem dX10_init_405 : decode cX10_init 405 = .ok (.bipush 97, 2) := by decide +kernel
theorem dX10_init_407 : decode cX10_init 407 = .ok (.iastore, 1) := by decide +kernel
theorem dX10_init_408 : decode cX10_init 408 = .ok (.dup, 1) := by decide +kernel
theorem dX10_init_409 : decode cX10_init 409 = .ok (.bipush 66, 2) := by decide +kernel
theorem dX10_init_411 : decode cX10_init 411 = .ok (.bipush 114, 2) := by decide +kernel
theorem dX10_init_413 : decode cX10_init 413 = .ok (.iastore, 1) := by decide +kernel
theorem dX10_init_414 : decode cX10_init 414 = .ok (.dup, 1) := by decide +kernel
theorem dX10_init_415 : decode cX10_init 415 = .ok (.bipush 67, 2) := by decide +kernel
theorem dX10_init_417 : decode cX10_init 417 = .ok (.bipush 32, 2) := by decide +kernel
theorem dX10_init_419 : decode cX10_init 419 = .ok (.iastore, 1) := by decide +kernel
theorem dX10_init_420 : decode cX10_init 420 = .ok (.putfield 13, 3) := by decide +kernel
theorem dX10_init_423 : decode cX10_init 423 = .ok (.aload_n 0, 1) := by decide +kernel
theorem dX10_init_424 : decode cX10_init 424 = .ok (.iconst (-1), 1) := by decide +kernel
theorem dX10_init_425 : decode cX10_init 425 = .ok (.putfield 16, 3) := by decide +kernel
theorem dX10_init_428 : decode cX10_init 428 = .ok (.aload_n 0, 1) := by decide +kernel
theorem dX10_init_429 : decode cX10_init 429 = .ok (.bipush 64, 2) := by decide +kernel
theorem dX10_init_431 : decode cX10_init 431 = .ok (.newarray .int, 2) := by decide +kernel
theorem dX10_init_433 : decode cX10_init 433 = .ok (.putfield 20, 3) := by decide +kernel
theorem dX10_init_436 : decode cX10_init 436 = .ok (.aload_n 0, 1) := by decide +kernel
theorem dX10_init_437 : decode cX10_init 437 = .ok (.bipush 96, 2) := by decide +kernel
theorem dX10_init_439 : decode cX10_init 439 = .ok (.newarray .int, 2) := by decide +kernel
theorem dX10_init_441 : decode cX10_init 441 = .ok (.putfield 23, 3) := by decide +kernel
theorem dX10_init_444 : decode cX10_init 444 = .ok (.aload_n 0, 1) := by decide +kernel
theorem dX10_init_445 : decode cX10_init 445 = .ok (.bipush 96, 2) := by decide +kernel
theorem dX10_init_447 : decode cX10_init 447 = .ok (.newarray .int, 2) := by decide +kernel
theorem dX10_init_449 : decode cX10_init 449 = .ok (.putfield 26, 3) := by decide +kernel
theorem dX10_init_452 : decode cX10_init 452 = .ok (.aload_n 0, 1) := by decide +kernel
theorem dX10_init_453 : decode cX10_init 453 = .ok (.bipush 40, 2) := by decide +kernel
theorem dX10_init_455 : decode cX10_init 455 = .ok (.newarray .int, 2) := by decide +kernel
theorem dX10_init_457 : decode cX10_init 457 = .ok (.putfield 29, 3) := by decide +kernel
theorem dX10_init_460 : decode cX10_init 460 = .ok (.aload_n 0, 1) := by decide +kernel
theorem dX10_init_461 : decode cX10_init 461 = .ok (.bipush 14, 2) := by decide +kernel
theorem dX10_init_463 : decode cX10_init 463 = .ok (.newarray .int, 2) := by decide +kernel
theorem dX10_init_465 : decode cX10_init 465 = .ok (.putfield 32, 3) := by decide +kernel
theorem dX10_init_468 : decode cX10_init 468 = .ok (.aload_n 0, 1) := by decide +kernel
theorem dX10_init_469 : decode cX10_init 469 = .ok (.ldc 35, 2) := by decide +kernel
theorem dX10_init_471 : decode cX10_init 471 = .ok (.newarray .int, 2) := by decide +kernel
theorem dX10_init_473 : decode cX10_init 473 = .ok (.putfield 36, 3) := by decide +kernel
theorem dX10_init_476 : decode cX10_init 476 = .ok (.aload_n 0, 1) := by decide +kernel
theorem dX10_init_477 : decode cX10_init 477 = .ok (.iconst 5, 1) := by decide +kernel
theorem dX10_init_478 : decode cX10_init 478 = .ok (.newarray .long, 2) := by decide +kernel
theorem dX10_init_480 : decode cX10_init 480 = .ok (.putfield 39, 3) := by decide +kernel
theorem dX10_init_483 : decode cX10_init 483 = .ok (.aload_n 0, 1) := by decide +kernel
theorem dX10_init_484 : decode cX10_init 484 = .ok (.invokevirtual 43, 3) := by decide +kernel
theorem dX10_init_487 : decode cX10_init 487 = .ok (.aload_n 0, 1) := by decide +kernel
theorem dX10_init_488 : decode cX10_init 488 = .ok (.invokevirtual 46, 3) := by decide +kernel
theorem dX10_init_491 : decode cX10_init 491 = .ok (.return_, 1) := by decide +kernel
theorem dX10_thrown_0 : decode cX10_thrown 0 = .ok (.aload_n 0, 1) := by decide +kernel
theorem dX10_thrown_1 : decode cX10_thrown 1 = .ok (.getfield 49, 3) := by decide +kernel
theorem dX10_thrown_4 : decode cX10_thrown 4 = .ok (.ireturn, 1) := by decide +kernel
theorem dX10_feed_0 : decode cX10_feed 0 = .ok (.aload_n 0, 1) := by decide +kernel
theorem dX10_feed_1 : decode cX10_feed 1 = .ok (.iconst 0, 1) := by decide +kernel
theorem dX10_feed_2 : decode cX10_feed 2 = .ok (.putfield 49, 3) := by decide +kernel
theorem dX10_feed_5 : decode cX10_feed 5 = .ok (.aload_n 0, 1) := by decide +kernel
theorem dX10_feed_6 : decode cX10_feed 6 = .ok (.getfield 52, 3) := by decide +kernel
theorem dX10_feed_9 : decode cX10_feed 9 = .ok (.bipush 20, 2) := by decide +kernel
theorem dX10_feed_11 : decode cX10_feed 11 = .ok (.iadd, 1) := by decide +kernel
theorem dX10_feed_12 : decode cX10_feed 12 = .ok (.sipush 700, 3) := by decide +kernel
theorem dX10_feed_15 : decode cX10_feed 15 = .ok (.if_icmp .le 5, 3) := by decide +kernel
theorem dX10_feed_18 : decode cX10_feed 18 = .ok (.iconst (-1), 1) := by decide +kernel
theorem dX10_feed_19 : decode cX10_feed 19 = .ok (.ireturn, 1) := by decide +kernel
theorem dX10_feed_20 : decode cX10_feed 20 = .ok (.iconst 0, 1) := by decide +kernel
theorem dX10_feed_21 : decode cX10_feed 21 = .ok (.istore 6, 2) := by decide +kernel
theorem dX10_feed_23 : decode cX10_feed 23 = .ok (.iload 6, 2) := by decide +kernel
theorem dX10_feed_25 : decode cX10_feed 25 = .ok (.bipush 20, 2) := by decide +kernel
theorem dX10_feed_27 : decode cX10_feed 27 = .ok (.if_icmp .ge 86, 3) := by decide +kernel
theorem dX10_feed_30 : decode cX10_feed 30 = .ok (.iload 6, 2) := by decide +kernel
theorem dX10_feed_32 : decode cX10_feed 32 = .ok (.iconst 4, 1) := by decide +kernel
theorem dX10_feed_33 : decode cX10_feed 33 = .ok (.if_icmp .ge 7, 3) := by decide +kernel
theorem dX10_feed_36 : decode cX10_feed 36 = .ok (.iload_n 1, 1) := by decide +kernel
theorem dX10_feed_37 : decode cX10_feed 37 = .ok (.goto 39, 3) := by decide +kernel
theorem dX10_feed_40 : decode cX10_feed 40 = .ok (.iload 6, 2) := by decide +kernel
theorem dX10_feed_42 : decode cX10_feed 42 = .ok (.bipush 8, 2) := by decide +kernel
theorem dX10_feed_44 : decode cX10_feed 44 = .ok (.if_icmp .ge 7, 3) := by decide +kernel
theorem dX10_feed_47 : decode cX10_feed 47 = .ok (.iload_n 2, 1) := by decide +kernel
theorem dX10_feed_48 : decode cX10_feed 48 = .ok (.goto 28, 3) := by decide +kernel
theorem dX10_feed_51 : decode cX10_feed 51 = .ok (.iload 6, 2) := by decide +kernel
theorem dX10_feed_53 : decode cX10_feed 53 = .ok (.bipush 12, 2) := by decide +kernel
theorem dX10_feed_55 : decode cX10_feed 55 = .ok (.if_icmp .ge 7, 3) := by decide +kernel
theorem dX10_feed_58 : decode cX10_feed 58 = .ok (.iload_n 3, 1) := by decide +kernel
theorem dX10_feed_59 : decode cX10_feed 59 = .ok (.goto 17, 3) := by decide +kernel
theorem dX10_feed_62 : decode cX10_feed 62 = .ok (.iload 6, 2) := by decide +kernel
theorem dX10_feed_64 : decode cX10_feed 64 = .ok (.bipush 16, 2) := by decide +kernel
theorem dX10_feed_66 : decode cX10_feed 66 = .ok (.if_icmp .ge 8, 3) := by decide +kernel
theorem dX10_feed_69 : decode cX10_feed 69 = .ok (.iload 4, 2) := by decide +kernel
theorem dX10_feed_71 : decode cX10_feed 71 = .ok (.goto 5, 3) := by decide +kernel
theorem dX10_feed_74 : decode cX10_feed 74 = .ok (.iload 5, 2) := by decide +kernel
theorem dX10_feed_76 : decode cX10_feed 76 = .ok (.istore 7, 2) := by decide +kernel
theorem dX10_feed_78 : decode cX10_feed 78 = .ok (.aload_n 0, 1) := by decide +kernel
theorem dX10_feed_79 : decode cX10_feed 79 = .ok (.getfield 7, 3) := by decide +kernel
theorem dX10_feed_82 : decode cX10_feed 82 = .ok (.aload_n 0, 1) := by decide +kernel
theorem dX10_feed_83 : decode cX10_feed 83 = .ok (.getfield 52, 3) := by decide +kernel
theorem dX10_feed_86 : decode cX10_feed 86 = .ok (.iload 6, 2) := by decide +kernel
theorem dX10_feed_88 : decode cX10_feed 88 = .ok (.iadd, 1) := by decide +kernel
theorem dX10_feed_89 : decode cX10_feed 89 = .ok (.iload 7, 2) := by decide +kernel
theorem dX10_feed_91 : decode cX10_feed 91 = .ok (.bipush 24, 2) := by decide +kernel
theorem dX10_feed_93 : decode cX10_feed 93 = .ok (.bipush 8, 2) := by decide +kernel
theorem dX10_feed_95 : decode cX10_feed 95 = .ok (.iload 6, 2) := by decide +kernel
theorem dX10_feed_97 : decode cX10_feed 97 = .ok (.iconst 4, 1) := by decide +kernel
theorem dX10_feed_98 : decode cX10_feed 98 = .ok (.irem, 1) := by decide +kernel
theorem dX10_feed_99 : decode cX10_feed 99 = .ok (.imul, 1) := by decide +kernel
theorem dX10_feed_100 : decode cX10_feed 100 = .ok (.isub, 1) := by decide +kernel
theorem dX10_feed_101 : decode cX10_feed 101 = .ok (.ishr, 1) := by decide +kernel
theorem dX10_feed_102 : decode cX10_feed 102 = .ok (.sipush 255, 3) := by decide +kernel
theorem dX10_feed_105 : decode cX10_feed 105 = .ok (.iand, 1) := by decide +kernel
theorem dX10_feed_106 : decode cX10_feed 106 = .ok (.iastore, 1) := by decide +kernel
theorem dX10_feed_107 : decode cX10_feed 107 = .ok (.iinc 6 1, 3) := by decide +kernel
theorem dX10_feed_110 : decode cX10_feed 110 = .ok (.goto (-87), 3) := by decide +kernel
theorem dX10_feed_113 : decode cX10_feed 113 = .ok (.aload_n 0, 1) := by decide +kernel
theorem dX10_feed_114 : decode cX10_feed 114 = .ok (.dup, 1) := by decide +kernel
theorem dX10_feed_115 : decode cX10_feed 115 = .ok (.getfield 52, 3) := by decide +kernel
theorem dX10_feed_118 : decode cX10_feed 118 = .ok (.bipush 20, 2) := by decide +kernel
theorem dX10_feed_120 : decode cX10_feed 120 = .ok (.iadd, 1) := by decide +kernel
theorem dX10_feed_121 : decode cX10_feed 121 = .ok (.putfield 52, 3) := by decide +kernel
theorem dX10_feed_124 : decode cX10_feed 124 = .ok (.aload_n 0, 1) := by decide +kernel
theorem dX10_feed_125 : decode cX10_feed 125 = .ok (.getfield 52, 3) := by decide +kernel
theorem dX10_feed_128 : decode cX10_feed 128 = .ok (.ireturn, 1) := by decide +kernel
theorem dX10_isIn_0 : decode cX10_isIn 0 = .ok (.iload_n 0, 1) := by decide +kernel
theorem dX10_isIn_1 : decode cX10_isIn 1 = .ok (.iload_n 1, 1) := by decide +kernel
theorem dX10_isIn_2 : decode cX10_isIn 2 = .ok (.if_icmp .lt 12, 3) := by decide +kernel
theorem dX10_isIn_5 : decode cX10_isIn 5 = .ok (.iload_n 0, 1) := by decide +kernel
theorem dX10_isIn_6 : decode cX10_isIn 6 = .ok (.iload_n 2, 1) := by decide +kernel
theorem dX10_isIn_7 : decode cX10_isIn 7 = .ok (.if_icmp .gt 7, 3) := by decide +kernel
theorem dX10_isIn_10 : decode cX10_isIn 10 = .ok (.iconst 1, 1) := by decide +kernel
theorem dX10_isIn_11 : decode cX10_isIn 11 = .ok (.goto 4, 3) := by decide +kernel
theorem dX10_isIn_14 : decode cX10_isIn 14 = .ok (.iconst 0, 1) := by decide +kernel
theorem dX10_isIn_15 : decode cX10_isIn 15 = .ok (.ireturn, 1) := by decide +kernel
theorem dX10_wrong_0 : decode cX10_wrong 0 = .ok (.aload_n 0, 1) := by decide +kernel
theorem dX10_wrong_1 : decode cX10_wrong 1 = .ok (.iload_n 1, 1) := by decide +kernel
theorem dX10_wrong_2 : decode cX10_wrong 2 = .ok (.putfield 55, 3) := by decide +kernel
theorem dX10_wrong_5 : decode cX10_wrong 5 = .ok (.aload_n 0, 1) := by decide +kernel
theorem dX10_wrong_6 : decode cX10_wrong 6 = .ok (.aload_n 0, 1) := by decide +kernel
theorem dX10_wrong_7 : decode cX10_wrong 7 = .ok (.getfield 58, 3) := by decide +kernel
theorem dX10_wrong_10 : decode cX10_wrong 10 = .ok (.putfield 16, 3) := by decide +kernel
theorem dX10_wrong_13 : decode cX10_wrong 13 = .ok (.iconst 0, 1) := by decide +kernel
theorem dX10_wrong_14 : decode cX10_wrong 14 = .ok (.ireturn, 1) := by decide +kernel
theorem dX10_wordAt_0 : decode cX10_wordAt 0 = .ok (.iconst 0, 1) := by decide +kernel
theorem dX10_wordAt_1 : decode cX10_wordAt 1 = .ok (.istore_n 3, 1) := by decide +kernel
theorem dX10_wordAt_2 : decode cX10_wordAt 2 = .ok (.iconst 0, 1) := by decide +kernel
theorem dX10_wordAt_3 : decode cX10_wordAt 3 = .ok (.istore 4, 2) := by decide +kernel
theorem dX10_wordAt_5 : decode cX10_wordAt 5 = .ok (.iload 4, 2) := by decide +kernel
theorem dX10_wordAt_7 : decode cX10_wordAt 7 = .ok (.aload_n 0, 1) := by decide +kernel
theorem dX10_wordAt_8 : decode cX10_wordAt 8 = .ok (.getfield 13, 3) := by decide +kernel
theorem dX10_wordAt_11 : decode cX10_wordAt 11 = .ok (.arraylength, 1) := by decide +kernel
theorem dX10_wordAt_12 : decode cX10_wordAt 12 = .ok (.if_icmp .ge 114, 3) := by decide +kernel
theorem dX10_wordAt_15 : decode cX10_wordAt 15 = .ok (.iconst 0, 1) := by decide +kernel
theorem dX10_wordAt_16 : decode cX10_wordAt 16 = .ok (.istore 5, 2) := by decide +kernel
theorem dX10_wordAt_18 : decode cX10_wordAt 18 = .ok (.aload_n 0, 1) := by decide +kernel
theorem dX10_wordAt_19 : decode cX10_wordAt 19 = .ok (.getfield 13, 3) := by decide +kernel
theorem dX10_wordAt_22 : decode cX10_wordAt 22 = .ok (.iload 4, 2) := by decide +kernel
theorem dX10_wordAt_24 : decode cX10_wordAt 24 = .ok (.iload 5, 2) := by decide +kernel
theorem dX10_wordAt_26 : decode cX10_wordAt 26 = .ok (.iadd, 1) := by decide +kernel
theorem dX10_wordAt_27 : decode cX10_wordAt 27 = .ok (.iaload, 1) := by decide +kernel
theorem dX10_wordAt_28 : decode cX10_wordAt 28 = .ok (.bipush 32, 2) := by decide +kernel
theorem dX10_wordAt_30 : decode cX10_wordAt 30 = .ok (.if_icmp .eq 9, 3) := by decide +kernel
theorem dX10_wordAt_33 : decode cX10_wordAt 33 = .ok (.iinc 5 1, 3) := by decide +kernel
theorem dX10_wordAt_36 : decode cX10_wordAt 36 = .ok (.goto (-18), 3) := by decide +kernel
theorem dX10_wordAt_39 : decode cX10_wordAt 39 = .ok (.iload 5, 2) := by decide +kernel
theorem dX10_wordAt_41 : decode cX10_wordAt 41 = .ok (.iload_n 2, 1) := by decide +kernel
theorem dX10_wordAt_42 : decode cX10_wordAt 42 = .ok (.iload_n 1, 1) := by decide +kernel
theorem dX10_wordAt_43 : decode cX10_wordAt 43 = .ok (.isub, 1) := by decide +kernel
theorem dX10_wordAt_44 : decode cX10_wordAt 44 = .ok (.if_icmp .ne 7, 3) := by decide +kernel
theorem dX10_wordAt_47 : decode cX10_wordAt 47 = .ok (.iconst 1, 1) := by decide +kernel
theorem dX10_wordAt_48 : decode cX10_wordAt 48 = .ok (.goto 4, 3) := by decide +kernel
theorem dX10_wordAt_51 : decode cX10_wordAt 51 = .ok (.iconst 0, 1) := by decide +kernel
theorem dX10_wordAt_52 : decode cX10_wordAt 52 = .ok (.istore 6, 2) := by decide +kernel
theorem dX10_wordAt_54 : decode cX10_wordAt 54 = .ok (.iconst 0, 1) := by decide +kernel
theorem dX10_wordAt_55 : decode cX10_wordAt 55 = .ok (.istore 7, 2) := by decide +kernel
theorem dX10_wordAt_57 : decode cX10_wordAt 57 = .ok (.iload 7, 2) := by decide +kernel
theorem dX10_wordAt_59 : decode cX10_wordAt 59 = .ok (.iload 5, 2) := by decide +kernel
theorem dX10_wordAt_61 : decode cX10_wordAt 61 = .ok (.if_icmp .ge 43, 3) := by decide +kernel
theorem dX10_wordAt_64 : decode cX10_wordAt 64 = .ok (.iload 6, 2) := by decide +kernel
theorem dX10_wordAt_66 : decode cX10_wordAt 66 = .ok (.ifCond .eq 38, 3) := by decide +kernel
theorem dX10_wordAt_69 : decode cX10_wordAt 69 = .ok (.aload_n 0, 1) := by decide +kernel
theorem dX10_wordAt_70 : decode cX10_wordAt 70 = .ok (.getfield 13, 3) := by decide +kernel
theorem dX10_wordAt_73 : decode cX10_wordAt 73 = .ok (.iload 4, 2) := by decide +kernel
theorem dX10_wordAt_75 : decode cX10_wordAt 75 = .ok (.iload 7, 2) := by decide +kernel
theorem dX10_wordAt_77 : decode cX10_wordAt 77 = .ok (.iadd, 1) := by decide +kernel
theorem dX10_wordAt_78 : decode cX10_wordAt 78 = .ok (.iaload, 1) := by decide +kernel
theorem dX10_wordAt_79 : decode cX10_wordAt 79 = .ok (.aload_n 0, 1) := by decide +kernel
theorem dX10_wordAt_80 : decode cX10_wordAt 80 = .ok (.getfield 7, 3) := by decide +kernel
theorem dX10_wordAt_83 : decode cX10_wordAt 83 = .ok (.iload_n 1, 1) := by decide +kernel
theorem dX10_wordAt_84 : decode cX10_wordAt 84 = .ok (.iload 7, 2) := by decide +kernel
theorem dX10_wordAt_86 : decode cX10_wordAt 86 = .ok (.iadd, 1) := by decide +kernel
theorem dX10_wordAt_87 : decode cX10_wordAt 87 = .ok (.iaload, 1) := by decide +kernel
theorem dX10_wordAt_88 : decode cX10_wordAt 88 = .ok (.if_icmp .ne 7, 3) := by decide +kernel
theorem dX10_wordAt_91 : decode cX10_wordAt 91 = .ok (.iconst 1, 1) := by decide +kernel
theorem dX10_wordAt_92 : decode cX10_wordAt 92 = .ok (.goto 4, 3) := by decide +kernel
theorem dX10_wordAt_95 : decode cX10_wordAt 95 = .ok (.iconst 0, 1) := by decide +kernel
theorem dX10_wordAt_96 : decode cX10_wordAt 96 = .ok (.istore 6, 2) := by decide +kernel
theorem dX10_wordAt_98 : decode cX10_wordAt 98 = .ok (.iinc 7 1, 3) := by decide +kernel
theorem dX10_wordAt_101 : decode cX10_wordAt 101 = .ok (.goto (-44), 3) := by decide +kernel
theorem dX10_wordAt_104 : decode cX10_wordAt 104 = .ok (.iload 6, 2) := by decide +kernel
theorem dX10_wordAt_106 : decode cX10_wordAt 106 = .ok (.ifCond .eq 5, 3) := by decide +kernel
theorem dX10_wordAt_109 : decode cX10_wordAt 109 = .ok (.iload_n 3, 1) := by decide +kernel
theorem dX10_wordAt_110 : decode cX10_wordAt 110 = .ok (.ireturn, 1) := by decide +kernel
theorem dX10_wordAt_111 : decode cX10_wordAt 111 = .ok (.iload 4, 2) := by decide +kernel
theorem dX10_wordAt_113 : decode cX10_wordAt 113 = .ok (.iload 5, 2) := by decide +kernel
theorem dX10_wordAt_115 : decode cX10_wordAt 115 = .ok (.iconst 1, 1) := by decide +kernel
theorem dX10_wordAt_116 : decode cX10_wordAt 116 = .ok (.iadd, 1) := by decide +kernel
theorem dX10_wordAt_117 : decode cX10_wordAt 117 = .ok (.iadd, 1) := by decide +kernel
theorem dX10_wordAt_118 : decode cX10_wordAt 118 = .ok (.istore 4, 2) := by decide +kernel
theorem dX10_wordAt_120 : decode cX10_wordAt 120 = .ok (.iinc 3 1, 3) := by decide +kernel
theorem dX10_wordAt_123 : decode cX10_wordAt 123 = .ok (.goto (-118), 3) := by decide +kernel
theorem dX10_wordAt_126 : decode cX10_wordAt 126 = .ok (.iconst (-1), 1) := by decide +kernel
theorem dX10_wordAt_127 : decode cX10_wordAt 127 = .ok (.ireturn, 1) := by decide +kernel
theorem dX10_isSmall_0 : decode cX10_isSmall 0 = .ok (.iload_n 1, 1) := by decide +kernel
theorem dX10_isSmall_1 : decode cX10_isSmall 1 = .ok (.aload_n 0, 1) := by decide +kernel
theorem dX10_isSmall_2 : decode cX10_isSmall 2 = .ok (.getfield 61, 3) := by decide +kernel
theorem dX10_isSmall_5 : decode cX10_isSmall 5 = .ok (.if_icmp .ge 29, 3) := by decide +kernel
theorem dX10_isSmall_8 : decode cX10_isSmall 8 = .ok (.aload_n 0, 1) := by decide +kernel
theorem dX10_isSmall_9 : decode cX10_isSmall 9 = .ok (.getfield 7, 3) := by decide +kernel
theorem dX10_isSmall_12 : decode cX10_isSmall 12 = .ok (.iload_n 1, 1) := by decide +kernel
theorem dX10_isSmall_13 : decode cX10_isSmall 13 = .ok (.iaload, 1) := by decide +kernel
theorem dX10_isSmall_14 : decode cX10_isSmall 14 = .ok (.bipush 97, 2) := by decide +kernel
theorem dX10_isSmall_16 : decode cX10_isSmall 16 = .ok (.if_icmp .lt 18, 3) := by decide +kernel
theorem dX10_isSmall_19 : decode cX10_isSmall 19 = .ok (.aload_n 0, 1) := by decide +kernel
theorem dX10_isSmall_20 : decode cX10_isSmall 20 = .ok (.getfield 7, 3) := by decide +kernel
theorem dX10_isSmall_23 : decode cX10_isSmall 23 = .ok (.iload_n 1, 1) := by decide +kernel
theorem dX10_isSmall_24 : decode cX10_isSmall 24 = .ok (.iaload, 1) := by decide +kernel
theorem dX10_isSmall_25 : decode cX10_isSmall 25 = .ok (.bipush 122, 2) := by decide +kernel
theorem dX10_isSmall_27 : decode cX10_isSmall 27 = .ok (.if_icmp .gt 7, 3) := by decide +kernel
theorem dX10_isSmall_30 : decode cX10_isSmall 30 = .ok (.iconst 1, 1) := by decide +kernel
theorem dX10_isSmall_31 : decode cX10_isSmall 31 = .ok (.goto 4, 3) := by decide +kernel
theorem dX10_isSmall_34 : decode cX10_isSmall 34 = .ok (.iconst 0, 1) := by decide +kernel
theorem dX10_isSmall_35 : decode cX10_isSmall 35 = .ok (.ireturn, 1) := by decide +kernel
theorem dX10_isDigit_0 : decode cX10_isDigit 0 = .ok (.iload_n 1, 1) := by decide +kernel
theorem dX10_isDigit_1 : decode cX10_isDigit 1 = .ok (.aload_n 0, 1) := by decide +kernel
theorem dX10_isDigit_2 : decode cX10_isDigit 2 = .ok (.getfield 61, 3) := by decide +kernel
theorem dX10_isDigit_5 : decode cX10_isDigit 5 = .ok (.if_icmp .ge 29, 3) := by decide +kernel
theorem dX10_isDigit_8 : decode cX10_isDigit 8 = .ok (.aload_n 0, 1) := by decide +kernel
theorem dX10_isDigit_9 : decode cX10_isDigit 9 = .ok (.getfield 7, 3) := by decide +kernel
theorem dX10_isDigit_12 : decode cX10_isDigit 12 = .ok (.iload_n 1, 1) := by decide +kernel
theorem dX10_isDigit_13 : decode cX10_isDigit 13 = .ok (.iaload, 1) := by decide +kernel
theorem dX10_isDigit_14 : decode cX10_isDigit 14 = .ok (.bipush 48, 2) := by decide +kernel
theorem dX10_isDigit_16 : decode cX10_isDigit 16 = .ok (.if_icmp .lt 18, 3) := by decide +kernel
theorem dX10_isDigit_19 : decode cX10_isDigit 19 = .ok (.aload_n 0, 1) := by decide +kernel
theorem dX10_isDigit_20 : decode cX10_isDigit 20 = .ok (.getfield 7, 3) := by decide +kernel
theorem dX10_isDigit_23 : decode cX10_isDigit 23 = .ok (.iload_n 1, 1) := by decide +kernel
theorem dX10_isDigit_24 : decode cX10_isDigit 24 = .ok (.iaload, 1) := by decide +kernel
theorem dX10_isDigit_25 : decode cX10_isDigit 25 = .ok (.bipush 57, 2) := by decide +kernel
theorem dX10_isDigit_27 : decode cX10_isDigit 27 = .ok (.if_icmp .gt 7, 3) := by decide +kernel
theorem dX10_isDigit_30 : decode cX10_isDigit 30 = .ok (.iconst 1, 1) := by decide +kernel
theorem dX10_isDigit_31 : decode cX10_isDigit 31 = .ok (.goto 4, 3) := by decide +kernel
theorem dX10_isDigit_34 : decode cX10_isDigit 34 = .ok (.iconst 0, 1) := by decide +kernel
theorem dX10_isDigit_35 : decode cX10_isDigit 35 = .ok (.ireturn, 1) := by decide +kernel
theorem dX10_token_0 : decode cX10_token 0 = .ok (.aload_n 0, 1) := by decide +kernel
theorem dX10_token_1 : decode cX10_token 1 = .ok (.getfield 64, 3) := by decide +kernel
theorem dX10_token_4 : decode cX10_token 4 = .ok (.aload_n 0, 1) := by decide +kernel
theorem dX10_token_5 : decode cX10_token 5 = .ok (.getfield 61, 3) := by decide +kernel
theorem dX10_token_8 : decode cX10_token 8 = .ok (.if_icmp .ge 44, 3) := by decide +kernel
theorem dX10_token_11 : decode cX10_token 11 = .ok (.aload_n 0, 1) := by decide +kernel
theorem dX10_token_12 : decode cX10_token 12 = .ok (.getfield 7, 3) := by decide +kernel
theorem dX10_token_15 : decode cX10_token 15 = .ok (.aload_n 0, 1) := by decide +kernel
theorem dX10_token_16 : decode cX10_token 16 = .ok (.getfield 64, 3) := by decide +kernel
theorem dX10_token_19 : decode cX10_token 19 = .ok (.iaload, 1) := by decide +kernel
theorem dX10_token_20 : decode cX10_token 20 = .ok (.bipush 10, 2) := by decide +kernel
theorem dX10_token_22 : decode cX10_token 22 = .ok (.if_icmp .eq 17, 3) := by decide +kernel
theorem dX10_token_25 : decode cX10_token 25 = .ok (.aload_n 0, 1) := by decide +kernel
theorem dX10_token_26 : decode cX10_token 26 = .ok (.getfield 7, 3) := by decide +kernel
theorem dX10_token_29 : decode cX10_token 29 = .ok (.aload_n 0, 1) := by decide +kernel
theorem dX10_token_30 : decode cX10_token 30 = .ok (.getfield 64, 3) := by decide +kernel
theorem dX10_token_33 : decode cX10_token 33 = .ok (.iaload, 1) := by decide +kernel
theorem dX10_token_34 : decode cX10_token 34 = .ok (.bipush 32, 2) := by decide +kernel
theorem dX10_token_36 : decode cX10_token 36 = .ok (.if_icmp .ne 16, 3) := by decide +kernel
theorem dX10_token_39 : decode cX10_token 39 = .ok (.aload_n 0, 1) := by decide +kernel
theorem dX10_token_40 : decode cX10_token 40 = .ok (.dup, 1) := by decide +kernel
theorem dX10_token_41 : decode cX10_token 41 = .ok (.getfield 64, 3) := by decide +kernel
theorem dX10_token_44 : decode cX10_token 44 = .ok (.iconst 1, 1) := by decide +kernel
theorem dX10_token_45 : decode cX10_token 45 = .ok (.iadd, 1) := by decide +kernel
theorem dX10_token_46 : decode cX10_token 46 = .ok (.putfield 64, 3) := by decide +kernel
theorem dX10_token_49 : decode cX10_token 49 = .ok (.goto (-49), 3) := by decide +kernel
theorem dX10_token_52 : decode cX10_token 52 = .ok (.aload_n 0, 1) := by decide +kernel
theorem dX10_token_53 : decode cX10_token 53 = .ok (.aload_n 0, 1) := by decide +kernel
theorem dX10_token_54 : decode cX10_token 54 = .ok (.getfield 64, 3) := by decide +kernel
theorem dX10_token_57 : decode cX10_token 57 = .ok (.putfield 58, 3) := by decide +kernel
theorem dX10_token_60 : decode cX10_token 60 = .ok (.aload_n 0, 1) := by decide +kernel
theorem dX10_token_61 : decode cX10_token 61 = .ok (.getfield 64, 3) := by decide +kernel
theorem dX10_token_64 : decode cX10_token 64 = .ok (.aload_n 0, 1) := by decide +kernel
theorem dX10_token_65 : decode cX10_token 65 = .ok (.getfield 61, 3) := by decide +kernel
theorem dX10_token_68 : decode cX10_token 68 = .ok (.if_icmp .ne 11, 3) := by decide +kernel
theorem dX10_token_71 : decode cX10_token 71 = .ok (.aload_n 0, 1) := by decide +kernel
theorem dX10_token_72 : decode cX10_token 72 = .ok (.iconst 0, 1) := by decide +kernel
theorem dX10_token_73 : decode cX10_token 73 = .ok (.putfield 67, 3) := by decide +kernel
theorem dX10_token_76 : decode cX10_token 76 = .ok (.goto 233, 3) := by decide +kernel
theorem dX10_token_79 : decode cX10_token 79 = .ok (.aload_n 0, 1) := by decide +kernel
theorem dX10_token_80 : decode cX10_token 80 = .ok (.aload_n 0, 1) := by decide +kernel
theorem dX10_token_81 : decode cX10_token 81 = .ok (.getfield 64, 3) := by decide +kernel
theorem dX10_token_84 : decode cX10_token 84 = .ok (.invokevirtual 70, 3) := by decide +kernel
theorem dX10_token_87 : decode cX10_token 87 = .ok (.ifCond .eq 104, 3) := by decide +kernel
theorem dX10_token_90 : decode cX10_token 90 = .ok (.aload_n 0, 1) := by decide +kernel
theorem dX10_token_91 : decode cX10_token 91 = .ok (.aload_n 0, 1) := by decide +kernel
theorem dX10_token_92 : decode cX10_token 92 = .ok (.getfield 64, 3) := by decide +kernel
theorem dX10_token_95 : decode cX10_token 95 = .ok (.invokevirtual 70, 3) := by decide +kernel
theorem dX10_token_98 : decode cX10_token 98 = .ok (.ifCond .eq 16, 3) := by decide +kernel
theorem dX10_token_101 : decode cX10_token 101 = .ok (.aload_n 0, 1) := by decide +kernel
theorem dX10_token_102 : decode cX10_token 102 = .ok (.dup, 1) := by decide +kernel
theorem dX10_token_103 : decode cX10_token 103 = .ok (.getfield 64, 3) := by decide +kernel
theorem dX10_token_106 : decode cX10_token 106 = .ok (.iconst 1, 1) := by decide +kernel
theorem dX10_token_107 : decode cX10_token 107 = .ok (.iadd, 1) := by decide +kernel
theorem dX10_token_108 : decode cX10_token 108 = .ok (.putfield 64, 3) := by decide +kernel
theorem dX10_token_111 : decode cX10_token 111 = .ok (.goto (-21), 3) := by decide +kernel
theorem dX10_token_114 : decode cX10_token 114 = .ok (.aload_n 0, 1) := by decide +kernel
theorem dX10_token_115 : decode cX10_token 115 = .ok (.aload_n 0, 1) := by decide +kernel
theorem dX10_token_116 : decode cX10_token 116 = .ok (.aload_n 0, 1) := by decide +kernel
theorem dX10_token_117 : decode cX10_token 117 = .ok (.getfield 58, 3) := by decide +kernel
theorem dX10_token_120 : decode cX10_token 120 = .ok (.aload_n 0, 1) := by decide +kernel
theorem dX10_token_121 : decode cX10_token 121 = .ok (.getfield 64, 3) := by decide +kernel
theorem dX10_token_124 : decode cX10_token 124 = .ok (.invokevirtual 74, 3) := by decide +kernel
theorem dX10_token_127 : decode cX10_token 127 = .ok (.putfield 78, 3) := by decide +kernel
theorem dX10_token_130 : decode cX10_token 130 = .ok (.aload_n 0, 1) := by decide +kernel
theorem dX10_token_131 : decode cX10_token 131 = .ok (.aload_n 0, 1) := by decide +kernel
theorem dX10_token_132 : decode cX10_token 132 = .ok (.getfield 78, 3) := by decide +kernel
theorem dX10_token_135 : decode cX10_token 135 = .ok (.ifCond .lt 7, 3) := by decide +kernel
theorem dX10_token_138 : decode cX10_token 138 = .ok (.iconst 1, 1) := by decide +kernel
theorem dX10_token_139 : decode cX10_token 139 = .ok (.goto 22, 3) := by decide +kernel
theorem dX10_token_142 : decode cX10_token 142 = .ok (.aload_n 0, 1) := by decide +kernel
theorem dX10_token_143 : decode cX10_token 143 = .ok (.getfield 64, 3) := by decide +kernel
theorem dX10_token_146 : decode cX10_token 146 = .ok (.aload_n 0, 1) := by decide +kernel
theorem dX10_token_147 : decode cX10_token 147 = .ok (.getfield 58, 3) := by decide +kernel
theorem dX10_token_150 : decode cX10_token 150 = .ok (.isub, 1) := by decide +kernel
theorem dX10_token_151 : decode cX10_token 151 = .ok (.bipush 6, 2) := by decide +kernel
theorem dX10_token_153 : decode cX10_token 153 = .ok (.if_icmp .le 7, 3) := by decide +kernel
theorem dX10_token_156 : decode cX10_token 156 = .ok (.iconst 5, 1) := by decide +kernel
theorem dX10_token_157 : decode cX10_token 157 = .ok (.goto 4, 3) := by decide +kernel
theorem dX10_token_160 : decode cX10_token 160 = .ok (.iconst 2, 1) := by decide +kernel
theorem dX10_token_161 : decode cX10_token 161 = .ok (.putfield 67, 3) := by decide +kernel
theorem dX10_token_164 : decode cX10_token 164 = .ok (.aload_n 0, 1) := by decide +kernel
theorem dX10_token_165 : decode cX10_token 165 = .ok (.getfield 67, 3) := by decide +kernel
theorem dX10_token_168 : decode cX10_token 168 = .ok (.iconst 2, 1) := by decide +kernel
theorem dX10_token_169 : decode cX10_token 169 = .ok (.if_icmp .ne 140, 3) := by decide +kernel
theorem dX10_token_172 : decode cX10_token 172 = .ok (.aload_n 0, 1) := by decide +kernel
theorem dX10_token_173 : decode cX10_token 173 = .ok (.aload_n 0, 1) := by decide +kernel
theorem dX10_token_174 : decode cX10_token 174 = .ok (.aload_n 0, 1) := by decide +kernel
theorem dX10_token_175 : decode cX10_token 175 = .ok (.getfield 58, 3) := by decide +kernel
theorem dX10_token_178 : decode cX10_token 178 = .ok (.aload_n 0, 1) := by decide +kernel
theorem dX10_token_179 : decode cX10_token 179 = .ok (.getfield 64, 3) := by decide +kernel
theorem dX10_token_182 : decode cX10_token 182 = .ok (.invokevirtual 81, 3) := by decide +kernel
theorem dX10_token_185 : decode cX10_token 185 = .ok (.putfield 78, 3) := by decide +kernel
theorem dX10_token_188 : decode cX10_token 188 = .ok (.goto 121, 3) := by decide +kernel
theorem dX10_token_191 : decode cX10_token 191 = .ok (.aload_n 0, 1) := by decide +kernel
theorem dX10_token_192 : decode cX10_token 192 = .ok (.aload_n 0, 1) := by decide +kernel
theorem dX10_token_193 : decode cX10_token 193 = .ok (.getfield 64, 3) := by decide +kernel
theorem dX10_token_196 : decode cX10_token 196 = .ok (.invokevirtual 84, 3) := by decide +kernel
theorem dX10_token_199 : decode cX10_token 199 = .ok (.ifCond .eq 77, 3) := by decide +kernel
theorem dX10_token_202 : decode cX10_token 202 = .ok (.aload_n 0, 1) := by decide +kernel
theorem dX10_token_203 : decode cX10_token 203 = .ok (.iconst 3, 1) := by decide +kernel
theorem dX10_token_204 : decode cX10_token 204 = .ok (.putfield 67, 3) := by decide +kernel
theorem dX10_token_207 : decode cX10_token 207 = .ok (.aload_n 0, 1) := by decide +kernel
theorem dX10_token_208 : decode cX10_token 208 = .ok (.iconst 0, 1) := by decide +kernel
theorem dX10_token_209 : decode cX10_token 209 = .ok (.putfield 78, 3) := by decide +kernel
theorem dX10_token_212 : decode cX10_token 212 = .ok (.aload_n 0, 1) := by decide +kernel
theorem dX10_token_213 : decode cX10_token 213 = .ok (.aload_n 0, 1) := by decide +kernel
theorem dX10_token_214 : decode cX10_token 214 = .ok (.getfield 64, 3) := by decide +kernel
theorem dX10_token_217 : decode cX10_token 217 = .ok (.invokevirtual 84, 3) := by decide +kernel
theorem dX10_token_220 : decode cX10_token 220 = .ok (.ifCond .eq 89, 3) := by decide +kernel
theorem dX10_token_223 : decode cX10_token 223 = .ok (.aload_n 0, 1) := by decide +kernel
theorem dX10_token_224 : decode cX10_token 224 = .ok (.aload_n 0, 1) := by decide +kernel
theorem dX10_token_225 : decode cX10_token 225 = .ok (.getfield 78, 3) := by decide +kernel
theorem dX10_token_228 : decode cX10_token 228 = .ok (.ldc 87, 2) := by decide +kernel
theorem dX10_token_230 : decode cX10_token 230 = .ok (.if_icmp .le 10, 3) := by decide +kernel
theorem dX10_token_233 : decode cX10_token 233 = .ok (.aload_n 0, 1) := by decide +kernel
theorem dX10_token_234 : decode cX10_token 234 = .ok (.getfield 78, 3) := by decide +kernel
theorem dX10_token_237 : decode cX10_token 237 = .ok (.goto 23, 3) := by decide +kernel
theorem dX10_token_240 : decode cX10_token 240 = .ok (.bipush 10, 2) := by decide +kernel
theorem dX10_token_242 : decode cX10_token 242 = .ok (.aload_n 0, 1) := by decide +kernel
theorem dX10_token_243 : decode cX10_token 243 = .ok (.getfield 78, 3) := by decide +kernel
theorem dX10_token_246 : decode cX10_token 246 = .ok (.imul, 1) := by decide +kernel
theorem dX10_token_247 : decode cX10_token 247 = .ok (.aload_n 0, 1) := by decide +kernel
theorem dX10_token_248 : decode cX10_token 248 = .ok (.getfield 7, 3) := by decide +kernel
theorem dX10_token_251 : decode cX10_token 251 = .ok (.aload_n 0, 1) := by decide +kernel
theorem dX10_token_252 : decode cX10_token 252 = .ok (.getfield 64, 3) := by decide +kernel
theorem dX10_token_255 : decode cX10_token 255 = .ok (.iaload, 1) := by decide +kernel
theorem dX10_token_256 : decode cX10_token 256 = .ok (.iadd, 1) := by decide +kernel
theorem dX10_token_257 : decode cX10_token 257 = .ok (.bipush 48, 2) := by decide +kernel
theorem dX10_token_259 : decode cX10_token 259 = .ok (.isub, 1) := by decide +kernel
theorem dX10_token_260 : decode cX10_token 260 = .ok (.putfield 78, 3) := by decide +kernel
theorem dX10_token_263 : decode cX10_token 263 = .ok (.aload_n 0, 1) := by decide +kernel
theorem dX10_token_264 : decode cX10_token 264 = .ok (.dup, 1) := by decide +kernel
theorem dX10_token_265 : decode cX10_token 265 = .ok (.getfield 64, 3) := by decide +kernel
theorem dX10_token_268 : decode cX10_token 268 = .ok (.iconst 1, 1) := by decide +kernel
theorem dX10_token_269 : decode cX10_token 269 = .ok (.iadd, 1) := by decide +kernel
theorem dX10_token_270 : decode cX10_token 270 = .ok (.putfield 64, 3) := by decide +kernel
theorem dX10_token_273 : decode cX10_token 273 = .ok (.goto (-61), 3) := by decide +kernel
theorem dX10_token_276 : decode cX10_token 276 = .ok (.aload_n 0, 1) := by decide +kernel
theorem dX10_token_277 : decode cX10_token 277 = .ok (.aload_n 0, 1) := by decide +kernel
theorem dX10_token_278 : decode cX10_token 278 = .ok (.getfield 7, 3) := by decide +kernel
theorem dX10_token_281 : decode cX10_token 281 = .ok (.aload_n 0, 1) := by decide +kernel
theorem dX10_token_282 : decode cX10_token 282 = .ok (.getfield 64, 3) := by decide +kernel
theorem dX10_token_285 : decode cX10_token 285 = .ok (.iaload, 1) := by decide +kernel
theorem dX10_token_286 : decode cX10_token 286 = .ok (.bipush 59, 2) := by decide +kernel
theorem dX10_token_288 : decode cX10_token 288 = .ok (.if_icmp .ne 7, 3) := by decide +kernel
theorem dX10_token_291 : decode cX10_token 291 = .ok (.iconst 4, 1) := by decide +kernel
theorem dX10_token_292 : decode cX10_token 292 = .ok (.goto 4, 3) := by decide +kernel
theorem dX10_token_295 : decode cX10_token 295 = .ok (.iconst 5, 1) := by decide +kernel
theorem dX10_token_296 : decode cX10_token 296 = .ok (.putfield 67, 3) := by decide +kernel
theorem dX10_token_299 : decode cX10_token 299 = .ok (.aload_n 0, 1) := by decide +kernel
theorem dX10_token_300 : decode cX10_token 300 = .ok (.dup, 1) := by decide +kernel
theorem dX10_token_301 : decode cX10_token 301 = .ok (.getfield 64, 3) := by decide +kernel
theorem dX10_token_304 : decode cX10_token 304 = .ok (.iconst 1, 1) := by decide +kernel
theorem dX10_token_305 : decode cX10_token 305 = .ok (.iadd, 1) := by decide +kernel
theorem dX10_token_306 : decode cX10_token 306 = .ok (.putfield 64, 3) := by decide +kernel
theorem dX10_token_309 : decode cX10_token 309 = .ok (.return_, 1) := by decide +kernel
theorem dX10_packed_0 : decode cX10_packed 0 = .ok (.iconst 0, 1) := by decide +kernel
theorem dX10_packed_1 : decode cX10_packed 1 = .ok (.istore_n 3, 1) := by decide +kernel
theorem dX10_packed_2 : decode cX10_packed 2 = .ok (.iload_n 1, 1) := by decide +kernel
theorem dX10_packed_3 : decode cX10_packed 3 = .ok (.istore 4, 2) := by decide +kernel
theorem dX10_packed_5 : decode cX10_packed 5 = .ok (.iload 4, 2) := by decide +kernel
theorem dX10_packed_7 : decode cX10_packed 7 = .ok (.iload_n 1, 1) := by decide +kernel
theorem dX10_packed_8 : decode cX10_packed 8 = .ok (.bipush 6, 2) := by decide +kernel
theorem dX10_packed_10 : decode cX10_packed 10 = .ok (.iadd, 1) := by decide +kernel
theorem dX10_packed_11 : decode cX10_packed 11 = .ok (.if_icmp .ge 34, 3) := by decide +kernel
theorem dX10_packed_14 : decode cX10_packed 14 = .ok (.iload_n 3, 1) := by decide +kernel
theorem dX10_packed_15 : decode cX10_packed 15 = .ok (.iconst 5, 1) := by decide +kernel
theorem dX10_packed_16 : decode cX10_packed 16 = .ok (.ishl, 1) := by decide +kernel
theorem dX10_packed_17 : decode cX10_packed 17 = .ok (.iload 4, 2) := by decide +kernel
theorem dX10_packed_19 : decode cX10_packed 19 = .ok (.iload_n 2, 1) := by decide +kernel
theorem dX10_packed_20 : decode cX10_packed 20 = .ok (.if_icmp .ge 16, 3) := by decide +kernel
theorem dX10_packed_23 : decode cX10_packed 23 = .ok (.aload_n 0, 1) := by decide +kernel
theorem dX10_packed_24 : decode cX10_packed 24 = .ok (.getfield 7, 3) := by decide +kernel
theorem dX10_packed_27 : decode cX10_packed 27 = .ok (.iload 4, 2) := by decide +kernel
theorem dX10_packed_29 : decode cX10_packed 29 = .ok (.iaload, 1) := by decide +kernel
theorem dX10_packed_30 : decode cX10_packed 30 = .ok (.bipush 96, 2) := by decide +kernel
theorem dX10_packed_32 : decode cX10_packed 32 = .ok (.isub, 1) := by decide +kernel
theorem dX10_packed_33 : decode cX10_packed 33 = .ok (.goto 4, 3) := by decide +kernel
theorem dX10_packed_36 : decode cX10_packed 36 = .ok (.iconst 0, 1) := by decide +kernel
theorem dX10_packed_37 : decode cX10_packed 37 = .ok (.ior, 1) := by decide +kernel
theorem dX10_packed_38 : decode cX10_packed 38 = .ok (.istore_n 3, 1) := by decide +kernel
theorem dX10_packed_39 : decode cX10_packed 39 = .ok (.iinc 4 1, 3) := by decide +kernel
theorem dX10_packed_42 : decode cX10_packed 42 = .ok (.goto (-37), 3) := by decide +kernel
theorem dX10_packed_45 : decode cX10_packed 45 = .ok (.iload_n 3, 1) := by decide +kernel
theorem dX10_packed_46 : decode cX10_packed 46 = .ok (.ireturn, 1) := by decide +kernel
theorem dX10_plain_0 : decode cX10_plain 0 = .ok (.aload_n 0, 1) := by decide +kernel
theorem dX10_plain_1 : decode cX10_plain 1 = .ok (.iconst 0, 1) := by decide +kernel
theorem dX10_plain_2 : decode cX10_plain 2 = .ok (.putfield 88, 3) := by decide +kernel
theorem dX10_plain_5 : decode cX10_plain 5 = .ok (.bipush 7, 2) := by decide +kernel
theorem dX10_plain_7 : decode cX10_plain 7 = .ok (.istore_n 1, 1) := by decide +kernel
theorem dX10_plain_8 : decode cX10_plain 8 = .ok (.iload_n 1, 1) := by decide +kernel
theorem dX10_plain_9 : decode cX10_plain 9 = .ok (.bipush 14, 2) := by decide +kernel
theorem dX10_plain_11 : decode cX10_plain 11 = .ok (.if_icmp .ge 16, 3) := by decide +kernel
theorem dX10_plain_14 : decode cX10_plain 14 = .ok (.aload_n 0, 1) := by decide +kernel
theorem dX10_plain_15 : decode cX10_plain 15 = .ok (.getfield 32, 3) := by decide +kernel
theorem dX10_plain_18 : decode cX10_plain 18 = .ok (.iload_n 1, 1) := by decide +kernel
theorem dX10_plain_19 : decode cX10_plain 19 = .ok (.iconst 0, 1) := by decide +kernel
theorem dX10_plain_20 : decode cX10_plain 20 = .ok (.iastore, 1) := by decide +kernel
theorem dX10_plain_21 : decode cX10_plain 21 = .ok (.iinc 1 1, 3) := by decide +kernel
theorem dX10_plain_24 : decode cX10_plain 24 = .ok (.goto (-16), 3) := by decide +kernel
theorem dX10_plain_27 : decode cX10_plain 27 = .ok (.aload_n 0, 1) := by decide +kernel
theorem dX10_plain_28 : decode cX10_plain 28 = .ok (.getfield 32, 3) := by decide +kernel
theorem dX10_plain_31 : decode cX10_plain 31 = .ok (.bipush 8, 2) := by decide +kernel
theorem dX10_plain_33 : decode cX10_plain 33 = .ok (.bipush 100, 2) := by decide +kernel
theorem dX10_plain_35 : decode cX10_plain 35 = .ok (.iastore, 1) := by decide +kernel
theorem dX10_plain_36 : decode cX10_plain 36 = .ok (.aload_n 0, 1) := by decide +kernel
theorem dX10_plain_37 : decode cX10_plain 37 = .ok (.iconst 0, 1) := by decide +kernel
theorem dX10_plain_38 : decode cX10_plain 38 = .ok (.putfield 91, 3) := by decide +kernel
theorem dX10_plain_41 : decode cX10_plain 41 = .ok (.return_, 1) := by decide +kernel
theorem dX10_copies_0 : decode cX10_copies 0 = .ok (.iconst 0, 1) := by decide +kernel
theorem dX10_copies_1 : decode cX10_copies 1 = .ok (.istore_n 2, 1) := by decide +kernel
theorem dX10_copies_2 : decode cX10_copies 2 = .ok (.iload_n 2, 1) := by decide +kernel
theorem dX10_copies_3 : decode cX10_copies 3 = .ok (.iload_n 1, 1) := by decide +kernel
theorem dX10_copies_4 : decode cX10_copies 4 = .ok (.if_icmp .ge 17, 3) := by decide +kernel
theorem dX10_copies_7 : decode cX10_copies 7 = .ok (.aload_n 0, 1) := by decide +kernel
theorem dX10_copies_8 : decode cX10_copies 8 = .ok (.iload_n 2, 1) := by decide +kernel
theorem dX10_copies_9 : decode cX10_copies 9 = .ok (.aload_n 0, 1) := by decide +kernel
theorem dX10_copies_10 : decode cX10_copies 10 = .ok (.iload_n 1, 1) := by decide +kernel
theorem dX10_copies_11 : decode cX10_copies 11 = .ok (.iload_n 2, 1) := by decide +kernel
theorem dX10_copies_12 : decode cX10_copies 12 = .ok (.iadd, 1) := by decide +kernel
theorem dX10_copies_13 : decode cX10_copies 13 = .ok (.iaload, 1) := by decide +kernel
theorem dX10_copies_14 : decode cX10_copies 14 = .ok (.iastore, 1) := by decide +kernel
theorem dX10_copies_15 : decode cX10_copies 15 = .ok (.iinc 2 1, 3) := by decide +kernel
theorem dX10_copies_18 : decode cX10_copies 18 = .ok (.goto (-16), 3) := by decide +kernel
theorem dX10_copies_21 : decode cX10_copies 21 = .ok (.return_, 1) := by decide +kernel
theorem dX10_keepText_0 : decode cX10_keepText 0 = .ok (.aload_n 0, 1) := by decide +kernel
theorem dX10_keepText_1 : decode cX10_keepText 1 = .ok (.aload_n 0, 1) := by decide +kernel
theorem dX10_keepText_2 : decode cX10_keepText 2 = .ok (.getfield 88, 3) := by decide +kernel
theorem dX10_keepText_5 : decode cX10_keepText 5 = .ok (.putfield 94, 3) := by decide +kernel
theorem dX10_keepText_8 : decode cX10_keepText 8 = .ok (.aload_n 0, 1) := by decide +kernel
theorem dX10_keepText_9 : decode cX10_keepText 9 = .ok (.getfield 20, 3) := by decide +kernel
theorem dX10_keepText_12 : decode cX10_keepText 12 = .ok (.bipush 32, 2) := by decide +kernel
theorem dX10_keepText_14 : decode cX10_keepText 14 = .ok (.invokestatic 97, 3) := by decide +kernel
theorem dX10_keepText_17 : decode cX10_keepText 17 = .ok (.aload_n 0, 1) := by decide +kernel
theorem dX10_keepText_18 : decode cX10_keepText 18 = .ok (.getfield 23, 3) := by decide +kernel
theorem dX10_keepText_21 : decode cX10_keepText 21 = .ok (.bipush 48, 2) := by decide +kernel
theorem dX10_keepText_23 : decode cX10_keepText 23 = .ok (.invokestatic 97, 3) := by decide +kernel
theorem dX10_keepText_26 : decode cX10_keepText 26 = .ok (.aload_n 0, 1) := by decide +kernel
theorem dX10_keepText_27 : decode cX10_keepText 27 = .ok (.getfield 26, 3) := by decide +kernel
theorem dX10_keepText_30 : decode cX10_keepText 30 = .ok (.bipush 48, 2) := by decide +kernel
theorem dX10_keepText_32 : decode cX10_keepText 32 = .ok (.invokestatic 97, 3) := by decide +kernel
theorem dX10_keepText_35 : decode cX10_keepText 35 = .ok (.aload_n 0, 1) := by decide +kernel
theorem dX10_keepText_36 : decode cX10_keepText 36 = .ok (.getfield 29, 3) := by decide +kernel
theorem dX10_keepText_39 : decode cX10_keepText 39 = .ok (.bipush 20, 2) := by decide +kernel
theorem dX10_keepText_41 : decode cX10_keepText 41 = .ok (.invokestatic 97, 3) := by decide +kernel
theorem dX10_keepText_44 : decode cX10_keepText 44 = .ok (.aload_n 0, 1) := by decide +kernel
theorem dX10_keepText_45 : decode cX10_keepText 45 = .ok (.getfield 32, 3) := by decide +kernel
theorem dX10_keepText_48 : decode cX10_keepText 48 = .ok (.bipush 7, 2) := by decide +kernel
theorem dX10_keepText_50 : decode cX10_keepText 50 = .ok (.invokestatic 97, 3) := by decide +kernel
theorem dX10_keepText_53 : decode cX10_keepText 53 = .ok (.aload_n 0, 1) := by decide +kernel
theorem dX10_keepText_54 : decode cX10_keepText 54 = .ok (.iconst 0, 1) := by decide +kernel
theorem dX10_keepText_55 : decode cX10_keepText 55 = .ok (.putfield 101, 3) := by decide +kernel
theorem dX10_keepText_58 : decode cX10_keepText 58 = .ok (.aload_n 0, 1) := by decide +kernel
theorem dX10_keepText_59 : decode cX10_keepText 59 = .ok (.iconst 0, 1) := by decide +kernel
theorem dX10_keepText_60 : decode cX10_keepText 60 = .ok (.putfield 104, 3) := by decide +kernel
theorem dX10_keepText_63 : decode cX10_keepText 63 = .ok (.aload_n 0, 1) := by decide +kernel
theorem dX10_keepText_64 : decode cX10_keepText 64 = .ok (.iconst 0, 1) := by decide +kernel
theorem dX10_keepText_65 : decode cX10_keepText 65 = .ok (.putfield 107, 3) := by decide +kernel
theorem dX10_keepText_68 : decode cX10_keepText 68 = .ok (.iconst 0, 1) := by decide +kernel
theorem dX10_keepText_69 : decode cX10_keepText 69 = .ok (.istore_n 1, 1) := by decide +kernel
theorem dX10_keepText_70 : decode cX10_keepText 70 = .ok (.iload_n 1, 1) := by decide +kernel
theorem dX10_keepText_71 : decode cX10_keepText 71 = .ok (.sipush 2468, 3) := by decide +kernel
theorem dX10_keepText_74 : decode cX10_keepText 74 = .ok (.if_icmp .ge 15, 3) := by decide +kernel
theorem dX10_keepText_77 : decode cX10_keepText 77 = .ok (.aload_n 0, 1) := by decide +kernel
theorem dX10_keepText_78 : decode cX10_keepText 78 = .ok (.iload_n 1, 1) := by decide +kernel
theorem dX10_keepText_79 : decode cX10_keepText 79 = .ok (.iconst 0, 1) := by decide +kernel
theorem dX10_keepText_80 : decode cX10_keepText 80 = .ok (.invokevirtual 111, 3) := by decide +kernel
theorem dX10_keepText_83 : decode cX10_keepText 83 = .ok (.iinc 1 1, 3) := by decide +kernel
theorem dX10_keepText_86 : decode cX10_keepText 86 = .ok (.goto (-16), 3) := by decide +kernel
theorem dX10_keepText_89 : decode cX10_keepText 89 = .ok (.iconst 0, 1) := by decide +kernel
theorem dX10_keepText_90 : decode cX10_keepText 90 = .ok (.istore_n 1, 1) := by decide +kernel
theorem dX10_keepText_91 : decode cX10_keepText 91 = .ok (.iload_n 1, 1) := by decide +kernel
theorem dX10_keepText_92 : decode cX10_keepText 92 = .ok (.aload_n 0, 1) := by decide +kernel
theorem dX10_keepText_93 : decode cX10_keepText 93 = .ok (.getfield 94, 3) := by decide +kernel
theorem dX10_keepText_96 : decode cX10_keepText 96 = .ok (.if_icmp .ge 45, 3) := by decide +kernel
theorem dX10_keepText_99 : decode cX10_keepText 99 = .ok (.aload_n 0, 1) := by decide +kernel
theorem dX10_keepText_100 : decode cX10_keepText 100 = .ok (.sipush 1281, 3) := by decide +kernel
theorem dX10_keepText_103 : decode cX10_keepText 103 = .ok (.iconst 2, 1) := by decide +kernel
theorem dX10_keepText_104 : decode cX10_keepText 104 = .ok (.iload_n 1, 1) := by decide +kernel
theorem dX10_keepText_105 : decode cX10_keepText 105 = .ok (.imul, 1) := by decide +kernel
theorem dX10_keepText_106 : decode cX10_keepText 106 = .ok (.iadd, 1) := by decide +kernel
theorem dX10_keepText_107 : decode cX10_keepText 107 = .ok (.aload_n 0, 1) := by decide +kernel
theorem dX10_keepText_108 : decode cX10_keepText 108 = .ok (.iload_n 1, 1) := by decide +kernel
theorem dX10_keepText_109 : decode cX10_keepText 109 = .ok (.iconst 4, 1) := by decide +kernel
theorem dX10_keepText_110 : decode cX10_keepText 110 = .ok (.invokevirtual 115, 3) := by decide +kernel
theorem dX10_keepText_113 : decode cX10_keepText 113 = .ok (.invokevirtual 111, 3) := by decide +kernel
theorem dX10_keepText_116 : decode cX10_keepText 116 = .ok (.aload_n 0, 1) := by decide +kernel
theorem dX10_keepText_117 : decode cX10_keepText 117 = .ok (.sipush 1281, 3) := by decide +kernel
theorem dX10_keepText_120 : decode cX10_keepText 120 = .ok (.iconst 2, 1) := by decide +kernel
theorem dX10_keepText_121 : decode cX10_keepText 121 = .ok (.iload_n 1, 1) := by decide +kernel
theorem dX10_keepText_122 : decode cX10_keepText 122 = .ok (.imul, 1) := by decide +kernel
theorem dX10_keepText_123 : decode cX10_keepText 123 = .ok (.iadd, 1) := by decide +kernel
theorem dX10_keepText_124 : decode cX10_keepText 124 = .ok (.iconst 1, 1) := by decide +kernel
theorem dX10_keepText_125 : decode cX10_keepText 125 = .ok (.iadd, 1) := by decide +kernel
theorem dX10_keepText_126 : decode cX10_keepText 126 = .ok (.aload_n 0, 1) := by decide +kernel
theorem dX10_keepText_127 : decode cX10_keepText 127 = .ok (.iload_n 1, 1) := by decide +kernel
theorem dX10_keepText_128 : decode cX10_keepText 128 = .ok (.iconst 5, 1) := by decide +kernel
theorem dX10_keepText_129 : decode cX10_keepText 129 = .ok (.invokevirtual 115, 3) := by decide +kernel
theorem dX10_keepText_132 : decode cX10_keepText 132 = .ok (.invokevirtual 111, 3) := by decide +kernel
theorem dX10_keepText_135 : decode cX10_keepText 135 = .ok (.iinc 1 1, 3) := by decide +kernel
theorem dX10_keepText_138 : decode cX10_keepText 138 = .ok (.goto (-47), 3) := by decide +kernel
theorem dX10_keepText_141 : decode cX10_keepText 141 = .ok (.aload_n 0, 1) := by decide +kernel
theorem dX10_keepText_142 : decode cX10_keepText 142 = .ok (.invokevirtual 118, 3) := by decide +kernel
theorem dX10_keepText_145 : decode cX10_keepText 145 = .ok (.return_, 1) := by decide +kernel
theorem dX10_told1_0 : decode cX10_told1 0 = .ok (.aload_n 0, 1) := by decide +kernel
theorem dX10_told1_1 : decode cX10_told1 1 = .ok (.getfield 20, 3) := by decide +kernel
theorem dX10_told1_4 : decode cX10_told1 4 = .ok (.bipush 8, 2) := by decide +kernel
theorem dX10_told1_6 : decode cX10_told1 6 = .ok (.iload_n 1, 1) := by decide +kernel
theorem dX10_told1_7 : decode cX10_told1 7 = .ok (.imul, 1) := by decide +kernel
theorem dX10_told1_8 : decode cX10_told1 8 = .ok (.iload_n 2, 1) := by decide +kernel
theorem dX10_told1_9 : decode cX10_told1 9 = .ok (.iadd, 1) := by decide +kernel
theorem dX10_told1_10 : decode cX10_told1 10 = .ok (.iaload, 1) := by decide +kernel
theorem dX10_told1_11 : decode cX10_told1 11 = .ok (.ireturn, 1) := by decide +kernel
theorem dX10_nameAt_0 : decode cX10_nameAt 0 = .ok (.iconst 0, 1) := by decide +kernel
theorem dX10_nameAt_1 : decode cX10_nameAt 1 = .ok (.istore 4, 2) := by decide +kernel
theorem dX10_nameAt_3 : decode cX10_nameAt 3 = .ok (.iload 4, 2) := by decide +kernel
theorem dX10_nameAt_5 : decode cX10_nameAt 5 = .ok (.iload_n 3, 1) := by decide +kernel
theorem dX10_nameAt_6 : decode cX10_nameAt 6 = .ok (.if_icmp .ge 28, 3) := by decide +kernel
theorem dX10_nameAt_9 : decode cX10_nameAt 9 = .ok (.aload_n 0, 1) := by decide +kernel
theorem dX10_nameAt_10 : decode cX10_nameAt 10 = .ok (.getfield 20, 3) := by decide +kernel
theorem dX10_nameAt_13 : decode cX10_nameAt 13 = .ok (.iload_n 2, 1) := by decide +kernel
theorem dX10_nameAt_14 : decode cX10_nameAt 14 = .ok (.bipush 8, 2) := by decide +kernel
theorem dX10_nameAt_16 : decode cX10_nameAt 16 = .ok (.iload 4, 2) := by decide +kernel
theorem dX10_nameAt_18 : decode cX10_nameAt 18 = .ok (.imul, 1) := by decide +kernel
theorem dX10_nameAt_19 : decode cX10_nameAt 19 = .ok (.iadd, 1) := by decide +kernel
theorem dX10_nameAt_20 : decode cX10_nameAt 20 = .ok (.iaload, 1) := by decide +kernel
theorem dX10_nameAt_21 : decode cX10_nameAt 21 = .ok (.iload_n 1, 1) := by decide +kernel
theorem dX10_nameAt_22 : decode cX10_nameAt 22 = .ok (.if_icmp .ne 6, 3) := by decide +kernel
theorem dX10_nameAt_25 : decode cX10_nameAt 25 = .ok (.iload 4, 2) := by decide +kernel
theorem dX10_nameAt_27 : decode cX10_nameAt 27 = .ok (.ireturn, 1) := by decide +kernel
theorem dX10_nameAt_28 : decode cX10_nameAt 28 = .ok (.iinc 4 1, 3) := by decide +kernel
theorem dX10_nameAt_31 : decode cX10_nameAt 31 = .ok (.goto (-28), 3) := by decide +kernel
theorem dX10_nameAt_34 : decode cX10_nameAt 34 = .ok (.iconst (-1), 1) := by decide +kernel
theorem dX10_nameAt_35 : decode cX10_nameAt 35 = .ok (.ireturn, 1) := by decide +kernel
theorem dX10_number_0 : decode cX10_number 0 = .ok (.aload_n 0, 1) := by decide +kernel
theorem dX10_number_1 : decode cX10_number 1 = .ok (.getfield 67, 3) := by decide +kernel
theorem dX10_number_4 : decode cX10_number 4 = .ok (.iconst 3, 1) := by decide +kernel
theorem dX10_number_5 : decode cX10_number 5 = .ok (.if_icmp .eq 9, 3) := by decide +kernel
theorem dX10_number_8 : decode cX10_number 8 = .ok (.aload_n 0, 1) := by decide +kernel
theorem dX10_number_9 : decode cX10_number 9 = .ok (.iconst 1, 1) := by decide +kernel
theorem dX10_number_10 : decode cX10_number 10 = .ok (.invokevirtual 121, 3) := by decide +kernel
theorem dX10_number_13 : decode cX10_number 13 = .ok (.ireturn, 1) := by decide +kernel
theorem dX10_number_14 : decode cX10_number 14 = .ok (.aload_n 0, 1) := by decide +kernel
theorem dX10_number_15 : decode cX10_number 15 = .ok (.getfield 78, 3) := by decide +kernel
theorem dX10_number_18 : decode cX10_number 18 = .ok (.iload_n 1, 1) := by decide +kernel
theorem dX10_number_19 : decode cX10_number 19 = .ok (.iload_n 2, 1) := by decide +kernel
theorem dX10_number_20 : decode cX10_number 20 = .ok (.invokestatic 124, 3) := by decide +kernel
theorem dX10_number_23 : decode cX10_number 23 = .ok (.ifCond .ne 9, 3) := by decide +kernel
theorem dX10_number_26 : decode cX10_number 26 = .ok (.aload_n 0, 1) := by decide +kernel
theorem dX10_number_27 : decode cX10_number 27 = .ok (.iconst 2, 1) := by decide +kernel
theorem dX10_number_28 : decode cX10_number 28 = .ok (.invokevirtual 121, 3) := by decide +kernel
theorem dX10_number_31 : decode cX10_number 31 = .ok (.ireturn, 1) := by decide +kernel
theorem dX10_number_32 : decode cX10_number 32 = .ok (.aload_n 0, 1) := by decide +kernel
theorem dX10_number_33 : decode cX10_number 33 = .ok (.aload_n 0, 1) := by decide +kernel
theorem dX10_number_34 : decode cX10_number 34 = .ok (.getfield 78, 3) := by decide +kernel
theorem dX10_number_37 : decode cX10_number 37 = .ok (.putfield 128, 3) := by decide +kernel
theorem dX10_number_40 : decode cX10_number 40 = .ok (.aload_n 0, 1) := by decide +kernel
theorem dX10_number_41 : decode cX10_number 41 = .ok (.invokevirtual 131, 3) := by decide +kernel
theorem dX10_number_44 : decode cX10_number 44 = .ok (.iconst 1, 1) := by decide +kernel
theorem dX10_number_45 : decode cX10_number 45 = .ok (.ireturn, 1) := by decide +kernel
theorem dX10_traderRead_0 : decode cX10_traderRead 0 = .ok (.aload_n 0, 1) := by decide +kernel
theorem dX10_traderRead_1 : decode cX10_traderRead 1 = .ok (.invokevirtual 131, 3) := by decide +kernel
theorem dX10_traderRead_4 : decode cX10_traderRead 4 = .ok (.aload_n 0, 1) := by decide +kernel
theorem dX10_traderRead_5 : decode cX10_traderRead 5 = .ok (.getfield 67, 3) := by decide +kernel
theorem dX10_traderRead_8 : decode cX10_traderRead 8 = .ok (.iconst 2, 1) := by decide +kernel
theorem dX10_traderRead_9 : decode cX10_traderRead 9 = .ok (.if_icmp .eq 9, 3) := by decide +kernel
theorem dX10_traderRead_12 : decode cX10_traderRead 12 = .ok (.aload_n 0, 1) := by decide +kernel
theorem dX10_traderRead_13 : decode cX10_traderRead 13 = .ok (.iconst 1, 1) := by decide +kernel
theorem dX10_traderRead_14 : decode cX10_traderRead 14 = .ok (.invokevirtual 121, 3) := by decide +kernel
theorem dX10_traderRead_17 : decode cX10_traderRead 17 = .ok (.ireturn, 1) := by decide +kernel
theorem dX10_traderRead_18 : decode cX10_traderRead 18 = .ok (.aload_n 0, 1) := by decide +kernel
theorem dX10_traderRead_19 : decode cX10_traderRead 19 = .ok (.aload_n 0, 1) := by decide +kernel
theorem dX10_traderRead_20 : decode cX10_traderRead 20 = .ok (.aload_n 0, 1) := by decide +kernel
theorem dX10_traderRead_21 : decode cX10_traderRead 21 = .ok (.getfield 78, 3) := by decide +kernel
theorem dX10_traderRead_24 : decode cX10_traderRead 24 = .ok (.bipush 32, 2) := by decide +kernel
theorem dX10_traderRead_26 : decode cX10_traderRead 26 = .ok (.aload_n 0, 1) := by decide +kernel
theorem dX10_traderRead_27 : decode cX10_traderRead 27 = .ok (.getfield 88, 3) := by decide +kernel
theorem dX10_traderRead_30 : decode cX10_traderRead 30 = .ok (.invokevirtual 134, 3) := by decide +kernel
theorem dX10_traderRead_33 : decode cX10_traderRead 33 = .ok (.putfield 128, 3) := by decide +kernel
theorem dX10_traderRead_36 : decode cX10_traderRead 36 = .ok (.aload_n 0, 1) := by decide +kernel
theorem dX10_traderRead_37 : decode cX10_traderRead 37 = .ok (.getfield 128, 3) := by decide +kernel
theorem dX10_traderRead_40 : decode cX10_traderRead 40 = .ok (.ifCond .ge 11, 3) := by decide +kernel
theorem dX10_traderRead_43 : decode cX10_traderRead 43 = .ok (.aload_n 0, 1) := by decide +kernel
theorem dX10_traderRead_44 : decode cX10_traderRead 44 = .ok (.iconst 4, 1) := by decide +kernel
theorem dX10_traderRead_45 : decode cX10_traderRead 45 = .ok (.invokevirtual 121, 3) := by decide +kernel
theorem dX10_traderRead_48 : decode cX10_traderRead 48 = .ok (.ifCond .eq 7, 3) := by decide +kernel
theorem dX10_traderRead_51 : decode cX10_traderRead 51 = .ok (.iconst 1, 1) := by decide +kernel
theorem dX10_traderRead_52 : decode cX10_traderRead 52 = .ok (.goto 4, 3) := by decide +kernel
theorem dX10_traderRead_55 : decode cX10_traderRead 55 = .ok (.iconst 0, 1) := by decide +kernel
theorem dX10_traderRead_56 : decode cX10_traderRead 56 = .ok (.ireturn, 1) := by decide +kernel
theorem dX10_traderLine_0 : decode cX10_traderLine 0 = .ok (.aload_n 0, 1) := by decide +kernel
theorem dX10_traderLine_1 : decode cX10_traderLine 1 = .ok (.getfield 88, 3) := by decide +kernel
theorem dX10_traderLine_4 : decode cX10_traderLine 4 = .ok (.iconst 4, 1) := by decide +kernel
theorem dX10_traderLine_5 : decode cX10_traderLine 5 = .ok (.if_icmp .ne 9, 3) := by decide +kernel
theorem dX10_traderLine_8 : decode cX10_traderLine 8 = .ok (.aload_n 0, 1) := by decide +kernel
theorem dX10_traderLine_9 : decode cX10_traderLine 9 = .ok (.iconst 2, 1) := by decide +kernel
theorem dX10_traderLine_10 : decode cX10_traderLine 10 = .ok (.invokevirtual 121, 3) := by decide +kernel
theorem dX10_traderLine_13 : decode cX10_traderLine 13 = .ok (.ireturn, 1) := by decide +kernel
theorem dX10_traderLine_14 : decode cX10_traderLine 14 = .ok (.aload_n 0, 1) := by decide +kernel
theorem dX10_traderLine_15 : decode cX10_traderLine 15 = .ok (.invokevirtual 131, 3) := by decide +kernel
theorem dX10_traderLine_18 : decode cX10_traderLine 18 = .ok (.aload_n 0, 1) := by decide +kernel
theorem dX10_traderLine_19 : decode cX10_traderLine 19 = .ok (.getfield 67, 3) := by decide +kernel
theorem dX10_traderLine_22 : decode cX10_traderLine 22 = .ok (.iconst 2, 1) := by decide +kernel
theorem dX10_traderLine_23 : decode cX10_traderLine 23 = .ok (.if_icmp .eq 9, 3) := by decide +kernel
theorem dX10_traderLine_26 : decode cX10_traderLine 26 = .ok (.aload_n 0, 1) := by decide +kernel
theorem dX10_traderLine_27 : decode cX10_traderLine 27 = .ok (.iconst 1, 1) := by decide +kernel
theorem dX10_traderLine_28 : decode cX10_traderLine 28 = .ok (.invokevirtual 121, 3) := by decide +kernel
theorem dX10_traderLine_31 : decode cX10_traderLine 31 = .ok (.ireturn, 1) := by decide +kernel
theorem dX10_traderLine_32 : decode cX10_traderLine 32 = .ok (.aload_n 0, 1) := by decide +kernel
theorem dX10_traderLine_33 : decode cX10_traderLine 33 = .ok (.aload_n 0, 1) := by decide +kernel
theorem dX10_traderLine_34 : decode cX10_traderLine 34 = .ok (.getfield 78, 3) := by decide +kernel
theorem dX10_traderLine_37 : decode cX10_traderLine 37 = .ok (.bipush 32, 2) := by decide +kernel
theorem dX10_traderLine_39 : decode cX10_traderLine 39 = .ok (.aload_n 0, 1) := by decide +kernel
theorem dX10_traderLine_40 : decode cX10_traderLine 40 = .ok (.getfield 88, 3) := by decide +kernel
theorem dX10_traderLine_43 : decode cX10_traderLine 43 = .ok (.invokevirtual 134, 3) := by decide +kernel
theorem dX10_traderLine_46 : decode cX10_traderLine 46 = .ok (.ifCond .lt 9, 3) := by decide +kernel
theorem dX10_traderLine_49 : decode cX10_traderLine 49 = .ok (.aload_n 0, 1) := by decide +kernel
theorem dX10_traderLine_50 : decode cX10_traderLine 50 = .ok (.iconst 3, 1) := by decide +kernel
theorem dX10_traderLine_51 : decode cX10_traderLine 51 = .ok (.invokevirtual 121, 3) := by decide +kernel
theorem dX10_traderLine_54 : decode cX10_traderLine 54 = .ok (.ireturn, 1) := by decide +kernel
theorem dX10_traderLine_55 : decode cX10_traderLine 55 = .ok (.bipush 32, 2) := by decide +kernel
theorem dX10_traderLine_57 : decode cX10_traderLine 57 = .ok (.bipush 8, 2) := by decide +kernel
theorem dX10_traderLine_59 : decode cX10_traderLine 59 = .ok (.aload_n 0, 1) := by decide +kernel
theorem dX10_traderLine_60 : decode cX10_traderLine 60 = .ok (.getfield 88, 3) := by decide +kernel
theorem dX10_traderLine_63 : decode cX10_traderLine 63 = .ok (.imul, 1) := by decide +kernel
theorem dX10_traderLine_64 : decode cX10_traderLine 64 = .ok (.iadd, 1) := by decide +kernel
theorem dX10_traderLine_65 : decode cX10_traderLine 65 = .ok (.istore_n 1, 1) := by decide +kernel
theorem dX10_traderLine_66 : decode cX10_traderLine 66 = .ok (.iconst 0, 1) := by decide +kernel
theorem dX10_traderLine_67 : decode cX10_traderLine 67 = .ok (.istore_n 2, 1) := by decide +kernel
theorem dX10_traderLine_68 : decode cX10_traderLine 68 = .ok (.iload_n 2, 1) := by decide +kernel
theorem dX10_traderLine_69 : decode cX10_traderLine 69 = .ok (.bipush 8, 2) := by decide +kernel
theorem dX10_traderLine_71 : decode cX10_traderLine 71 = .ok (.if_icmp .ge 18, 3) := by decide +kernel
theorem dX10_traderLine_74 : decode cX10_traderLine 74 = .ok (.aload_n 0, 1) := by decide +kernel
theorem dX10_traderLine_75 : decode cX10_traderLine 75 = .ok (.getfield 20, 3) := by decide +kernel
theorem dX10_traderLine_78 : decode cX10_traderLine 78 = .ok (.iload_n 1, 1) := by decide +kernel
theorem dX10_traderLine_79 : decode cX10_traderLine 79 = .ok (.iload_n 2, 1) := by decide +kernel
theorem dX10_traderLine_80 : decode cX10_traderLine 80 = .ok (.iadd, 1) := by decide +kernel
theorem dX10_traderLine_81 : decode cX10_traderLine 81 = .ok (.iconst 0, 1) := by decide +kernel
theorem dX10_traderLine_82 : decode cX10_traderLine 82 = .ok (.iastore, 1) := by decide +kernel
theorem dX10_traderLine_83 : decode cX10_traderLine 83 = .ok (.iinc 2 1, 3) := by decide +kernel
theorem dX10_traderLine_86 : decode cX10_traderLine 86 = .ok (.goto (-18), 3) := by decide +kernel
theorem dX10_traderLine_89 : decode cX10_traderLine 89 = .ok (.aload_n 0, 1) := by decide +kernel
theorem dX10_traderLine_90 : decode cX10_traderLine 90 = .ok (.getfield 20, 3) := by decide +kernel
theorem dX10_traderLine_93 : decode cX10_traderLine 93 = .ok (.iload_n 1, 1) := by decide +kernel
theorem dX10_traderLine_94 : decode cX10_traderLine 94 = .ok (.aload_n 0, 1) := by decide +kernel
theorem dX10_traderLine_95 : decode cX10_traderLine 95 = .ok (.getfield 78, 3) := by decide +kernel
theorem dX10_traderLine_98 : decode cX10_traderLine 98 = .ok (.iastore, 1) := by decide +kernel
theorem dX10_traderLine_99 : decode cX10_traderLine 99 = .ok (.aload_n 0, 1) := by decide +kernel
theorem dX10_traderLine_100 : decode cX10_traderLine 100 = .ok (.invokevirtual 131, 3) := by decide +kernel
theorem dX10_traderLine_103 : decode cX10_traderLine 103 = .ok (.aload_n 0, 1) := by decide +kernel
theorem dX10_traderLine_104 : decode cX10_traderLine 104 = .ok (.iconst 0, 1) := by decide +kernel
theorem dX10_traderLine_105 : decode cX10_traderLine 105 = .ok (.iconst 2, 1) := by decide +kernel
theorem dX10_traderLine_106 : decode cX10_traderLine 106 = .ok (.invokevirtual 138, 3) := by decide +kernel
theorem dX10_traderLine_109 : decode cX10_traderLine 109 = .ok (.ifCond .ne 5, 3) := by decide +kernel
theorem dX10_traderLine_112 : decode cX10_traderLine 112 = .ok (.iconst 0, 1) := by decide +kernel
theorem dX10_traderLine_113 : decode cX10_traderLine 113 = .ok (.ireturn, 1) := by decide +kernel
theorem dX10_traderLine_114 : decode cX10_traderLine 114 = .ok (.aload_n 0, 1) := by decide +kernel
theorem dX10_traderLine_115 : decode cX10_traderLine 115 = .ok (.getfield 20, 3) := by decide +kernel
theorem dX10_traderLine_118 : decode cX10_traderLine 118 = .ok (.iload_n 1, 1) := by decide +kernel
theorem dX10_traderLine_119 : decode cX10_traderLine 119 = .ok (.iconst 1, 1) := by decide +kernel
theorem dX10_traderLine_120 : decode cX10_traderLine 120 = .ok (.iadd, 1) := by decide +kernel
theorem dX10_traderLine_121 : decode cX10_traderLine 121 = .ok (.aload_n 0, 1) := by decide +kernel
theorem dX10_traderLine_122 : decode cX10_traderLine 122 = .ok (.getfield 128, 3) := by decide +kernel
theorem dX10_traderLine_125 : decode cX10_traderLine 125 = .ok (.iastore, 1) := by decide +kernel
theorem dX10_traderLine_126 : decode cX10_traderLine 126 = .ok (.aload_n 0, 1) := by decide +kernel
theorem dX10_traderLine_127 : decode cX10_traderLine 127 = .ok (.iconst 0, 1) := by decide +kernel
theorem dX10_traderLine_128 : decode cX10_traderLine 128 = .ok (.iconst 1, 1) := by decide +kernel
theorem dX10_traderLine_129 : decode cX10_traderLine 129 = .ok (.invokevirtual 138, 3) := by decide +kernel
theorem dX10_traderLine_132 : decode cX10_traderLine 132 = .ok (.ifCond .ne 5, 3) := by decide +kernel
theorem dX10_traderLine_135 : decode cX10_traderLine 135 = .ok (.iconst 0, 1) := by decide +kernel
theorem dX10_traderLine_136 : decode cX10_traderLine 136 = .ok (.ireturn, 1) := by decide +kernel
theorem dX10_traderLine_137 : decode cX10_traderLine 137 = .ok (.aload_n 0, 1) := by decide +kernel
theorem dX10_traderLine_138 : decode cX10_traderLine 138 = .ok (.getfield 20, 3) := by decide +kernel
theorem dX10_traderLine_141 : decode cX10_traderLine 141 = .ok (.iload_n 1, 1) := by decide +kernel
theorem dX10_traderLine_142 : decode cX10_traderLine 142 = .ok (.iconst 2, 1) := by decide +kernel
theorem dX10_traderLine_143 : decode cX10_traderLine 143 = .ok (.iadd, 1) := by decide +kernel
theorem dX10_traderLine_144 : decode cX10_traderLine 144 = .ok (.aload_n 0, 1) := by decide +kernel
theorem dX10_traderLine_145 : decode cX10_traderLine 145 = .ok (.getfield 128, 3) := by decide +kernel
theorem dX10_traderLine_148 : decode cX10_traderLine 148 = .ok (.iastore, 1) := by decide +kernel
theorem dX10_traderLine_149 : decode cX10_traderLine 149 = .ok (.aload_n 0, 1) := by decide +kernel
theorem dX10_traderLine_150 : decode cX10_traderLine 150 = .ok (.dup, 1) := by decide +kernel
theorem dX10_traderLine_151 : decode cX10_traderLine 151 = .ok (.getfield 88, 3) := by decide +kernel
theorem dX10_traderLine_154 : decode cX10_traderLine 154 = .ok (.iconst 1, 1) := by decide +kernel
theorem dX10_traderLine_155 : decode cX10_traderLine 155 = .ok (.iadd, 1) := by decide +kernel
theorem dX10_traderLine_156 : decode cX10_traderLine 156 = .ok (.putfield 88, 3) := by decide +kernel
theorem dX10_traderLine_159 : decode cX10_traderLine 159 = .ok (.iconst 1, 1) := by decide +kernel
theorem dX10_traderLine_160 : decode cX10_traderLine 160 = .ok (.ireturn, 1) := by decide +kernel
theorem dX10_headLine_0 : decode cX10_headLine 0 = .ok (.aload_n 0, 1) := by decide +kernel
theorem dX10_headLine_1 : decode cX10_headLine 1 = .ok (.invokevirtual 142, 3) := by decide +kernel
theorem dX10_headLine_4 : decode cX10_headLine 4 = .ok (.ifCond .ne 5, 3) := by decide +kernel
theorem dX10_headLine_7 : decode cX10_headLine 7 = .ok (.iconst 0, 1) := by decide +kernel
theorem dX10_headLine_8 : decode cX10_headLine 8 = .ok (.ireturn, 1) := by decide +kernel
theorem dX10_headLine_9 : decode cX10_headLine 9 = .ok (.bipush 32, 2) := by decide +kernel
theorem dX10_headLine_11 : decode cX10_headLine 11 = .ok (.bipush 8, 2) := by decide +kernel
theorem dX10_headLine_13 : decode cX10_headLine 13 = .ok (.aload_n 0, 1) := by decide +kernel
theorem dX10_headLine_14 : decode cX10_headLine 14 = .ok (.getfield 128, 3) := by decide +kernel
theorem dX10_headLine_17 : decode cX10_headLine 17 = .ok (.imul, 1) := by decide +kernel
theorem dX10_headLine_18 : decode cX10_headLine 18 = .ok (.iadd, 1) := by decide +kernel
theorem dX10_headLine_19 : decode cX10_headLine 19 = .ok (.istore_n 1, 1) := by decide +kernel
theorem dX10_headLine_20 : decode cX10_headLine 20 = .ok (.aload_n 0, 1) := by decide +kernel
theorem dX10_headLine_21 : decode cX10_headLine 21 = .ok (.getfield 20, 3) := by decide +kernel
theorem dX10_headLine_24 : decode cX10_headLine 24 = .ok (.iload_n 1, 1) := by decide +kernel
theorem dX10_headLine_25 : decode cX10_headLine 25 = .ok (.iconst 3, 1) := by decide +kernel
theorem dX10_headLine_26 : decode cX10_headLine 26 = .ok (.iadd, 1) := by decide +kernel
theorem dX10_headLine_27 : decode cX10_headLine 27 = .ok (.iaload, 1) := by decide +kernel
theorem dX10_headLine_28 : decode cX10_headLine 28 = .ok (.iconst 1, 1) := by decide +kernel
theorem dX10_headLine_29 : decode cX10_headLine 29 = .ok (.if_icmp .ne 9, 3) := by decide +kernel
theorem dX10_headLine_32 : decode cX10_headLine 32 = .ok (.aload_n 0, 1) := by decide +kernel
theorem dX10_headLine_33 : decode cX10_headLine 33 = .ok (.iconst 3, 1) := by decide +kernel
theorem dX10_headLine_34 : decode cX10_headLine 34 = .ok (.invokevirtual 121, 3) := by decide +kernel
theorem dX10_headLine_37 : decode cX10_headLine 37 = .ok (.ireturn, 1) := by decide +kernel
theorem dX10_headLine_38 : decode cX10_headLine 38 = .ok (.aload_n 0, 1) := by decide +kernel
theorem dX10_headLine_39 : decode cX10_headLine 39 = .ok (.getfield 20, 3) := by decide +kernel
theorem dX10_headLine_42 : decode cX10_headLine 42 = .ok (.iload_n 1, 1) := by decide +kernel
theorem dX10_headLine_43 : decode cX10_headLine 43 = .ok (.iconst 3, 1) := by decide +kernel
theorem dX10_headLine_44 : decode cX10_headLine 44 = .ok (.iadd, 1) := by decide +kernel
theorem dX10_headLine_45 : decode cX10_headLine 45 = .ok (.iconst 1, 1) := by decide +kernel
theorem dX10_headLine_46 : decode cX10_headLine 46 = .ok (.iastore, 1) := by decide +kernel
theorem dX10_headLine_47 : decode cX10_headLine 47 = .ok (.aload_n 0, 1) := by decide +kernel
theorem dX10_headLine_48 : decode cX10_headLine 48 = .ok (.invokevirtual 131, 3) := by decide +kernel
theorem dX10_headLine_51 : decode cX10_headLine 51 = .ok (.aload_n 0, 1) := by decide +kernel
theorem dX10_headLine_52 : decode cX10_headLine 52 = .ok (.getfield 67, 3) := by decide +kernel
theorem dX10_headLine_55 : decode cX10_headLine 55 = .ok (.iconst 3, 1) := by decide +kernel
theorem dX10_headLine_56 : decode cX10_headLine 56 = .ok (.if_icmp .eq 9, 3) := by decide +kernel
theorem dX10_headLine_59 : decode cX10_headLine 59 = .ok (.aload_n 0, 1) := by decide +kernel
theorem dX10_headLine_60 : decode cX10_headLine 60 = .ok (.iconst 1, 1) := by decide +kernel
theorem dX10_headLine_61 : decode cX10_headLine 61 = .ok (.invokevirtual 121, 3) := by decide +kernel
theorem dX10_headLine_64 : decode cX10_headLine 64 = .ok (.ireturn, 1) := by decide +kernel
theorem dX10_headLine_65 : decode cX10_headLine 65 = .ok (.aload_n 0, 1) := by decide +kernel
theorem dX10_headLine_66 : decode cX10_headLine 66 = .ok (.getfield 78, 3) := by decide +kernel
theorem dX10_headLine_69 : decode cX10_headLine 69 = .ok (.sipush 999, 3) := by decide +kernel
theorem dX10_headLine_72 : decode cX10_headLine 72 = .ok (.if_icmp .le 9, 3) := by decide +kernel
theorem dX10_headLine_75 : decode cX10_headLine 75 = .ok (.aload_n 0, 1) := by decide +kernel
theorem dX10_headLine_76 : decode cX10_headLine 76 = .ok (.iconst 2, 1) := by decide +kernel
theorem dX10_headLine_77 : decode cX10_headLine 77 = .ok (.invokevirtual 121, 3) := by decide +kernel
theorem dX10_headLine_80 : decode cX10_headLine 80 = .ok (.ireturn, 1) := by decide +kernel
theorem dX10_headLine_81 : decode cX10_headLine 81 = .ok (.aload_n 0, 1) := by decide +kernel
theorem dX10_headLine_82 : decode cX10_headLine 82 = .ok (.getfield 78, 3) := by decide +kernel
theorem dX10_headLine_85 : decode cX10_headLine 85 = .ok (.istore_n 2, 1) := by decide +kernel
theorem dX10_headLine_86 : decode cX10_headLine 86 = .ok (.aload_n 0, 1) := by decide +kernel
theorem dX10_headLine_87 : decode cX10_headLine 87 = .ok (.invokevirtual 131, 3) := by decide +kernel
theorem dX10_headLine_90 : decode cX10_headLine 90 = .ok (.aload_n 0, 1) := by decide +kernel
theorem dX10_headLine_91 : decode cX10_headLine 91 = .ok (.iload_n 2, 1) := by decide +kernel
theorem dX10_headLine_92 : decode cX10_headLine 92 = .ok (.sipush 999, 3) := by decide +kernel
theorem dX10_headLine_95 : decode cX10_headLine 95 = .ok (.invokevirtual 138, 3) := by decide +kernel
theorem dX10_headLine_98 : decode cX10_headLine 98 = .ok (.ifCond .ne 5, 3) := by decide +kernel
theorem dX10_headLine_101 : decode cX10_headLine 101 = .ok (.iconst 0, 1) := by decide +kernel
theorem dX10_headLine_102 : decode cX10_headLine 102 = .ok (.ireturn, 1) := by decide +kernel
theorem dX10_headLine_103 : decode cX10_headLine 103 = .ok (.aload_n 0, 1) := by decide +kernel
theorem dX10_headLine_104 : decode cX10_headLine 104 = .ok (.getfield 20, 3) := by decide +kernel
theorem dX10_headLine_107 : decode cX10_headLine 107 = .ok (.iload_n 1, 1) := by decide +kernel
theorem dX10_headLine_108 : decode cX10_headLine 108 = .ok (.iconst 4, 1) := by decide +kernel
theorem dX10_headLine_109 : decode cX10_headLine 109 = .ok (.iadd, 1) := by decide +kernel
theorem dX10_headLine_110 : decode cX10_headLine 110 = .ok (.iload_n 2, 1) := by decide +kernel
theorem dX10_headLine_111 : decode cX10_headLine 111 = .ok (.iastore, 1) := by decide +kernel
theorem dX10_headLine_112 : decode cX10_headLine 112 = .ok (.aload_n 0, 1) := by decide +kernel
theorem dX10_headLine_113 : decode cX10_headLine 113 = .ok (.getfield 20, 3) := by decide +kernel
theorem dX10_headLine_116 : decode cX10_headLine 116 = .ok (.iload_n 1, 1) := by decide +kernel
theorem dX10_headLine_117 : decode cX10_headLine 117 = .ok (.iconst 4, 1) := by decide +kernel
theorem dX10_headLine_118 : decode cX10_headLine 118 = .ok (.iadd, 1) := by decide +kernel
theorem dX10_headLine_119 : decode cX10_headLine 119 = .ok (.iconst 1, 1) := by decide +kernel
theorem dX10_headLine_120 : decode cX10_headLine 120 = .ok (.iadd, 1) := by decide +kernel
theorem dX10_headLine_121 : decode cX10_headLine 121 = .ok (.aload_n 0, 1) := by decide +kernel
theorem dX10_headLine_122 : decode cX10_headLine 122 = .ok (.getfield 128, 3) := by decide +kernel
theorem dX10_headLine_125 : decode cX10_headLine 125 = .ok (.iastore, 1) := by decide +kernel
theorem dX10_headLine_126 : decode cX10_headLine 126 = .ok (.iconst 1, 1) := by decide +kernel
theorem dX10_headLine_127 : decode cX10_headLine 127 = .ok (.ireturn, 1) := by decide +kernel
theorem dX10_startLine_0 : decode cX10_startLine 0 = .ok (.aload_n 0, 1) := by decide +kernel
theorem dX10_startLine_1 : decode cX10_startLine 1 = .ok (.invokevirtual 142, 3) := by decide +kernel
theorem dX10_startLine_4 : decode cX10_startLine 4 = .ok (.ifCond .ne 5, 3) := by decide +kernel
theorem dX10_startLine_7 : decode cX10_startLine 7 = .ok (.iconst 0, 1) := by decide +kernel
theorem dX10_startLine_8 : decode cX10_startLine 8 = .ok (.ireturn, 1) := by decide +kernel
theorem dX10_startLine_9 : decode cX10_startLine 9 = .ok (.bipush 32, 2) := by decide +kernel
theorem dX10_startLine_11 : decode cX10_startLine 11 = .ok (.bipush 8, 2) := by decide +kernel
theorem dX10_startLine_13 : decode cX10_startLine 13 = .ok (.aload_n 0, 1) := by decide +kernel
theorem dX10_startLine_14 : decode cX10_startLine 14 = .ok (.getfield 128, 3) := by decide +kernel
theorem dX10_startLine_17 : decode cX10_startLine 17 = .ok (.imul, 1) := by decide +kernel
theorem dX10_startLine_18 : decode cX10_startLine 18 = .ok (.iadd, 1) := by decide +kernel
theorem dX10_startLine_19 : decode cX10_startLine 19 = .ok (.istore_n 1, 1) := by decide +kernel
theorem dX10_startLine_20 : decode cX10_startLine 20 = .ok (.aload_n 0, 1) := by decide +kernel
theorem dX10_startLine_21 : decode cX10_startLine 21 = .ok (.getfield 20, 3) := by decide +kernel
theorem dX10_startLine_24 : decode cX10_startLine 24 = .ok (.iload_n 1, 1) := by decide +kernel
theorem dX10_startLine_25 : decode cX10_startLine 25 = .ok (.bipush 6, 2) := by decide +kernel
theorem dX10_startLine_27 : decode cX10_startLine 27 = .ok (.iadd, 1) := by decide +kernel
theorem dX10_startLine_28 : decode cX10_startLine 28 = .ok (.iaload, 1) := by decide +kernel
theorem dX10_startLine_29 : decode cX10_startLine 29 = .ok (.iconst 1, 1) := by decide +kernel
theorem dX10_startLine_30 : decode cX10_startLine 30 = .ok (.if_icmp .ne 9, 3) := by decide +kernel
theorem dX10_startLine_33 : decode cX10_startLine 33 = .ok (.aload_n 0, 1) := by decide +kernel
theorem dX10_startLine_34 : decode cX10_startLine 34 = .ok (.iconst 3, 1) := by decide +kernel
theorem dX10_startLine_35 : decode cX10_startLine 35 = .ok (.invokevirtual 121, 3) := by decide +kernel
theorem dX10_startLine_38 : decode cX10_startLine 38 = .ok (.ireturn, 1) := by decide +kernel
theorem dX10_startLine_39 : decode cX10_startLine 39 = .ok (.aload_n 0, 1) := by decide +kernel
theorem dX10_startLine_40 : decode cX10_startLine 40 = .ok (.getfield 20, 3) := by decide +kernel
theorem dX10_startLine_43 : decode cX10_startLine 43 = .ok (.iload_n 1, 1) := by decide +kernel
theorem dX10_startLine_44 : decode cX10_startLine 44 = .ok (.bipush 6, 2) := by decide +kernel
theorem dX10_startLine_46 : decode cX10_startLine 46 = .ok (.iadd, 1) := by decide +kernel
theorem dX10_startLine_47 : decode cX10_startLine 47 = .ok (.iconst 1, 1) := by decide +kernel
theorem dX10_startLine_48 : decode cX10_startLine 48 = .ok (.iastore, 1) := by decide +kernel
theorem dX10_startLine_49 : decode cX10_startLine 49 = .ok (.aload_n 0, 1) := by decide +kernel
theorem dX10_startLine_50 : decode cX10_startLine 50 = .ok (.invokevirtual 131, 3) := by decide +kernel
theorem dX10_startLine_53 : decode cX10_startLine 53 = .ok (.aload_n 0, 1) := by decide +kernel
theorem dX10_startLine_54 : decode cX10_startLine 54 = .ok (.iconst 0, 1) := by decide +kernel
theorem dX10_startLine_55 : decode cX10_startLine 55 = .ok (.sipush 1000, 3) := by decide +kernel
theorem dX10_startLine_58 : decode cX10_startLine 58 = .ok (.invokevirtual 138, 3) := by decide +kernel
theorem dX10_startLine_61 : decode cX10_startLine 61 = .ok (.ifCond .ne 5, 3) := by decide +kernel
theorem dX10_startLine_64 : decode cX10_startLine 64 = .ok (.iconst 0, 1) := by decide +kernel
theorem dX10_startLine_65 : decode cX10_startLine 65 = .ok (.ireturn, 1) := by decide +kernel
theorem dX10_startLine_66 : decode cX10_startLine 66 = .ok (.aload_n 0, 1) := by decide +kernel
theorem dX10_startLine_67 : decode cX10_startLine 67 = .ok (.getfield 20, 3) := by decide +kernel
theorem dX10_startLine_70 : decode cX10_startLine 70 = .ok (.iload_n 1, 1) := by decide +kernel
theorem dX10_startLine_71 : decode cX10_startLine 71 = .ok (.bipush 7, 2) := by decide +kernel
theorem dX10_startLine_73 : decode cX10_startLine 73 = .ok (.iadd, 1) := by decide +kernel
theorem dX10_startLine_74 : decode cX10_startLine 74 = .ok (.aload_n 0, 1) := by decide +kernel
theorem dX10_startLine_75 : decode cX10_startLine 75 = .ok (.getfield 128, 3) := by decide +kernel
theorem dX10_startLine_78 : decode cX10_startLine 78 = .ok (.iastore, 1) := by decide +kernel
theorem dX10_startLine_79 : decode cX10_startLine 79 = .ok (.iconst 1, 1) := by decide +kernel
theorem dX10_startLine_80 : decode cX10_startLine 80 = .ok (.ireturn, 1) := by decide +kernel
theorem dX10_rowLine_0 : decode cX10_rowLine 0 = .ok (.aload_n 0, 1) := by decide +kernel
theorem dX10_rowLine_1 : decode cX10_rowLine 1 = .ok (.invokevirtual 142, 3) := by decide +kernel
theorem dX10_rowLine_4 : decode cX10_rowLine 4 = .ok (.ifCond .ne 5, 3) := by decide +kernel
theorem dX10_rowLine_7 : decode cX10_rowLine 7 = .ok (.iconst 0, 1) := by decide +kernel
theorem dX10_rowLine_8 : decode cX10_rowLine 8 = .ok (.ireturn, 1) := by decide +kernel
theorem dX10_rowLine_9 : decode cX10_rowLine 9 = .ok (.aload_n 1, 1) := by decide +kernel
theorem dX10_rowLine_10 : decode cX10_rowLine 10 = .ok (.iload_n 2, 1) := by decide +kernel
theorem dX10_rowLine_11 : decode cX10_rowLine 11 = .ok (.aload_n 0, 1) := by decide +kernel
theorem dX10_rowLine_12 : decode cX10_rowLine 12 = .ok (.getfield 128, 3) := by decide +kernel
theorem dX10_rowLine_15 : decode cX10_rowLine 15 = .ok (.iastore, 1) := by decide +kernel
theorem dX10_rowLine_16 : decode cX10_rowLine 16 = .ok (.aload_n 0, 1) := by decide +kernel
theorem dX10_rowLine_17 : decode cX10_rowLine 17 = .ok (.invokevirtual 131, 3) := by decide +kernel
theorem dX10_rowLine_20 : decode cX10_rowLine 20 = .ok (.aload_n 0, 1) := by decide +kernel
theorem dX10_rowLine_21 : decode cX10_rowLine 21 = .ok (.iconst 0, 1) := by decide +kernel
theorem dX10_rowLine_22 : decode cX10_rowLine 22 = .ok (.bipush 63, 2) := by decide +kernel
theorem dX10_rowLine_24 : decode cX10_rowLine 24 = .ok (.invokevirtual 138, 3) := by decide +kernel
theorem dX10_rowLine_27 : decode cX10_rowLine 27 = .ok (.ifCond .ne 5, 3) := by decide +kernel
theorem dX10_rowLine_30 : decode cX10_rowLine 30 = .ok (.iconst 0, 1) := by decide +kernel
theorem dX10_rowLine_31 : decode cX10_rowLine 31 = .ok (.ireturn, 1) := by decide +kernel
theorem dX10_rowLine_32 : decode cX10_rowLine 32 = .ok (.aload_n 1, 1) := by decide +kernel
theorem dX10_rowLine_33 : decode cX10_rowLine 33 = .ok (.iload_n 2, 1) := by decide +kernel
theorem dX10_rowLine_34 : decode cX10_rowLine 34 = .ok (.iconst 1, 1) := by decide +kernel
theorem dX10_rowLine_35 : decode cX10_rowLine 35 = .ok (.iadd, 1) := by decide +kernel
theorem dX10_rowLine_36 : decode cX10_rowLine 36 = .ok (.aload_n 0, 1) := by decide +kernel
theorem dX10_rowLine_37 : decode cX10_rowLine 37 = .ok (.getfield 128, 3) := by decide +kernel
theorem dX10_rowLine_40 : decode cX10_rowLine 40 = .ok (.iastore, 1) := by decide +kernel
theorem dX10_rowLine_41 : decode cX10_rowLine 41 = .ok (.aload_n 0, 1) := by decide +kernel
theorem dX10_rowLine_42 : decode cX10_rowLine 42 = .ok (.iconst 0, 1) := by decide +kernel
theorem dX10_rowLine_43 : decode cX10_rowLine 43 = .ok (.iload 4, 2) := by decide +kernel
theorem dX10_rowLine_45 : decode cX10_rowLine 45 = .ok (.invokevirtual 138, 3) := by decide +kernel
theorem dX10_rowLine_48 : decode cX10_rowLine 48 = .ok (.ifCond .ne 5, 3) := by decide +kernel
theorem dX10_rowLine_51 : decode cX10_rowLine 51 = .ok (.iconst 0, 1) := by decide +kernel
theorem dX10_rowLine_52 : decode cX10_rowLine 52 = .ok (.ireturn, 1) := by decide +kernel
theorem dX10_rowLine_53 : decode cX10_rowLine 53 = .ok (.aload_n 1, 1) := by decide +kernel
theorem dX10_rowLine_54 : decode cX10_rowLine 54 = .ok (.iload_n 2, 1) := by decide +kernel
theorem dX10_rowLine_55 : decode cX10_rowLine 55 = .ok (.iconst 2, 1) := by decide +kernel
theorem dX10_rowLine_56 : decode cX10_rowLine 56 = .ok (.iadd, 1) := by decide +kernel
theorem dX10_rowLine_57 : decode cX10_rowLine 57 = .ok (.aload_n 0, 1) := by decide +kernel
theorem dX10_rowLine_58 : decode cX10_rowLine 58 = .ok (.getfield 128, 3) := by decide +kernel
theorem dX10_rowLine_61 : decode cX10_rowLine 61 = .ok (.iastore, 1) := by decide +kernel
theorem dX10_rowLine_62 : decode cX10_rowLine 62 = .ok (.aload_n 0, 1) := by decide +kernel
theorem dX10_rowLine_63 : decode cX10_rowLine 63 = .ok (.iload 6, 2) := by decide +kernel
theorem dX10_rowLine_65 : decode cX10_rowLine 65 = .ok (.iload 5, 2) := by decide +kernel
theorem dX10_rowLine_67 : decode cX10_rowLine 67 = .ok (.invokevirtual 138, 3) := by decide +kernel
theorem dX10_rowLine_70 : decode cX10_rowLine 70 = .ok (.ifCond .ne 5, 3) := by decide +kernel
theorem dX10_rowLine_73 : decode cX10_rowLine 73 = .ok (.iconst 0, 1) := by decide +kernel
theorem dX10_rowLine_74 : decode cX10_rowLine 74 = .ok (.ireturn, 1) := by decide +kernel
theorem dX10_rowLine_75 : decode cX10_rowLine 75 = .ok (.aload_n 1, 1) := by decide +kernel
theorem dX10_rowLine_76 : decode cX10_rowLine 76 = .ok (.iload_n 2, 1) := by decide +kernel
theorem dX10_rowLine_77 : decode cX10_rowLine 77 = .ok (.iconst 3, 1) := by decide +kernel
theorem dX10_rowLine_78 : decode cX10_rowLine 78 = .ok (.iadd, 1) := by decide +kernel
theorem dX10_rowLine_79 : decode cX10_rowLine 79 = .ok (.aload_n 0, 1) := by decide +kernel
theorem dX10_rowLine_80 : decode cX10_rowLine 80 = .ok (.getfield 128, 3) := by decide +kernel
theorem dX10_rowLine_83 : decode cX10_rowLine 83 = .ok (.iastore, 1) := by decide +kernel
theorem dX10_rowLine_84 : decode cX10_rowLine 84 = .ok (.iload_n 3, 1) := by decide +kernel
theorem dX10_rowLine_85 : decode cX10_rowLine 85 = .ok (.iconst 5, 1) := by decide +kernel
theorem dX10_rowLine_86 : decode cX10_rowLine 86 = .ok (.if_icmp .ge 5, 3) := by decide +kernel
theorem dX10_rowLine_89 : decode cX10_rowLine 89 = .ok (.iconst 1, 1) := by decide +kernel
theorem dX10_rowLine_90 : decode cX10_rowLine 90 = .ok (.ireturn, 1) := by decide +kernel
theorem dX10_rowLine_91 : decode cX10_rowLine 91 = .ok (.aload_n 0, 1) := by decide +kernel
theorem dX10_rowLine_92 : decode cX10_rowLine 92 = .ok (.getfield 67, 3) := by decide +kernel
theorem dX10_rowLine_95 : decode cX10_rowLine 95 = .ok (.iconst 3, 1) := by decide +kernel
theorem dX10_rowLine_96 : decode cX10_rowLine 96 = .ok (.if_icmp .eq 9, 3) := by decide +kernel
theorem dX10_rowLine_99 : decode cX10_rowLine 99 = .ok (.aload_n 0, 1) := by decide +kernel
theorem dX10_rowLine_100 : decode cX10_rowLine 100 = .ok (.iconst 1, 1) := by decide +kernel
theorem dX10_rowLine_101 : decode cX10_rowLine 101 = .ok (.invokevirtual 121, 3) := by decide +kernel
theorem dX10_rowLine_104 : decode cX10_rowLine 104 = .ok (.ireturn, 1) := by decide +kernel
theorem dX10_rowLine_105 : decode cX10_rowLine 105 = .ok (.aload_n 0, 1) := by decide +kernel
theorem dX10_rowLine_106 : decode cX10_rowLine 106 = .ok (.getfield 78, 3) := by decide +kernel
theorem dX10_rowLine_109 : decode cX10_rowLine 109 = .ok (.iconst 5, 1) := by decide +kernel
theorem dX10_rowLine_110 : decode cX10_rowLine 110 = .ok (.if_icmp .eq 18, 3) := by decide +kernel
theorem dX10_rowLine_113 : decode cX10_rowLine 113 = .ok (.aload_n 0, 1) := by decide +kernel
theorem dX10_rowLine_114 : decode cX10_rowLine 114 = .ok (.getfield 78, 3) := by decide +kernel
theorem dX10_rowLine_117 : decode cX10_rowLine 117 = .ok (.bipush 10, 2) := by decide +kernel
theorem dX10_rowLine_119 : decode cX10_rowLine 119 = .ok (.if_icmp .eq 9, 3) := by decide +kernel
theorem dX10_rowLine_122 : decode cX10_rowLine 122 = .ok (.aload_n 0, 1) := by decide +kernel
theorem dX10_rowLine_123 : decode cX10_rowLine 123 = .ok (.iconst 2, 1) := by decide +kernel
theorem dX10_rowLine_124 : decode cX10_rowLine 124 = .ok (.invokevirtual 121, 3) := by decide +kernel
theorem dX10_rowLine_127 : decode cX10_rowLine 127 = .ok (.ireturn, 1) := by decide +kernel
theorem dX10_rowLine_128 : decode cX10_rowLine 128 = .ok (.aload_n 1, 1) := by decide +kernel
theorem dX10_rowLine_129 : decode cX10_rowLine 129 = .ok (.iload_n 2, 1) := by decide +kernel
theorem dX10_rowLine_130 : decode cX10_rowLine 130 = .ok (.iconst 4, 1) := by decide +kernel
theorem dX10_rowLine_131 : decode cX10_rowLine 131 = .ok (.iadd, 1) := by decide +kernel
theorem dX10_rowLine_132 : decode cX10_rowLine 132 = .ok (.aload_n 0, 1) := by decide +kernel
theorem dX10_rowLine_133 : decode cX10_rowLine 133 = .ok (.getfield 78, 3) := by decide +kernel
theorem dX10_rowLine_136 : decode cX10_rowLine 136 = .ok (.iastore, 1) := by decide +kernel
theorem dX10_rowLine_137 : decode cX10_rowLine 137 = .ok (.aload_n 0, 1) := by decide +kernel
theorem dX10_rowLine_138 : decode cX10_rowLine 138 = .ok (.invokevirtual 131, 3) := by decide +kernel
theorem dX10_rowLine_141 : decode cX10_rowLine 141 = .ok (.iconst 1, 1) := by decide +kernel
theorem dX10_rowLine_142 : decode cX10_rowLine 142 = .ok (.ireturn, 1) := by decide +kernel
theorem dX10_saleLine_0 : decode cX10_saleLine 0 = .ok (.aload_n 0, 1) := by decide +kernel
theorem dX10_saleLine_1 : decode cX10_saleLine 1 = .ok (.getfield 32, 3) := by decide +kernel
theorem dX10_saleLine_4 : decode cX10_saleLine 4 = .ok (.bipush 11, 2) := by decide +kernel
theorem dX10_saleLine_6 : decode cX10_saleLine 6 = .ok (.iaload, 1) := by decide +kernel
theorem dX10_saleLine_7 : decode cX10_saleLine 7 = .ok (.bipush 12, 2) := by decide +kernel
theorem dX10_saleLine_9 : decode cX10_saleLine 9 = .ok (.if_icmp .ne 9, 3) := by decide +kernel
theorem dX10_saleLine_12 : decode cX10_saleLine 12 = .ok (.aload_n 0, 1) := by decide +kernel
theorem dX10_saleLine_13 : decode cX10_saleLine 13 = .ok (.iconst 2, 1) := by decide +kernel
theorem dX10_saleLine_14 : decode cX10_saleLine 14 = .ok (.invokevirtual 121, 3) := by decide +kernel
theorem dX10_saleLine_17 : decode cX10_saleLine 17 = .ok (.ireturn, 1) := by decide +kernel
theorem dX10_saleLine_18 : decode cX10_saleLine 18 = .ok (.aload_n 0, 1) := by decide +kernel
theorem dX10_saleLine_19 : decode cX10_saleLine 19 = .ok (.aload_n 0, 1) := by decide +kernel
theorem dX10_saleLine_20 : decode cX10_saleLine 20 = .ok (.getfield 23, 3) := by decide +kernel
theorem dX10_saleLine_23 : decode cX10_saleLine 23 = .ok (.bipush 48, 2) := by decide +kernel
theorem dX10_saleLine_25 : decode cX10_saleLine 25 = .ok (.iconst 4, 1) := by decide +kernel
theorem dX10_saleLine_26 : decode cX10_saleLine 26 = .ok (.aload_n 0, 1) := by decide +kernel
theorem dX10_saleLine_27 : decode cX10_saleLine 27 = .ok (.getfield 32, 3) := by decide +kernel
theorem dX10_saleLine_30 : decode cX10_saleLine 30 = .ok (.bipush 11, 2) := by decide +kernel
theorem dX10_saleLine_32 : decode cX10_saleLine 32 = .ok (.iaload, 1) := by decide +kernel
theorem dX10_saleLine_33 : decode cX10_saleLine 33 = .ok (.imul, 1) := by decide +kernel
theorem dX10_saleLine_34 : decode cX10_saleLine 34 = .ok (.iadd, 1) := by decide +kernel
theorem dX10_saleLine_35 : decode cX10_saleLine 35 = .ok (.iconst 4, 1) := by decide +kernel
theorem dX10_saleLine_36 : decode cX10_saleLine 36 = .ok (.iconst 1, 1) := by decide +kernel
theorem dX10_saleLine_37 : decode cX10_saleLine 37 = .ok (.ldc 87, 2) := by decide +kernel
theorem dX10_saleLine_39 : decode cX10_saleLine 39 = .ok (.iconst 1, 1) := by decide +kernel
theorem dX10_saleLine_40 : decode cX10_saleLine 40 = .ok (.invokevirtual 146, 3) := by decide +kernel
theorem dX10_saleLine_43 : decode cX10_saleLine 43 = .ok (.ifCond .ne 5, 3) := by decide +kernel
theorem dX10_saleLine_46 : decode cX10_saleLine 46 = .ok (.iconst 0, 1) := by decide +kernel
theorem dX10_saleLine_47 : decode cX10_saleLine 47 = .ok (.ireturn, 1) := by decide +kernel
theorem dX10_saleLine_48 : decode cX10_saleLine 48 = .ok (.aload_n 0, 1) := by decide +kernel
theorem dX10_saleLine_49 : decode cX10_saleLine 49 = .ok (.getfield 32, 3) := by decide +kernel
theorem dX10_saleLine_52 : decode cX10_saleLine 52 = .ok (.bipush 11, 2) := by decide +kernel
theorem dX10_saleLine_54 : decode cX10_saleLine 54 = .ok (.dup2, 1) := by decide +kernel
theorem dX10_saleLine_55 : decode cX10_saleLine 55 = .ok (.iaload, 1) := by decide +kernel
theorem dX10_saleLine_56 : decode cX10_saleLine 56 = .ok (.iconst 1, 1) := by decide +kernel
theorem dX10_saleLine_57 : decode cX10_saleLine 57 = .ok (.iadd, 1) := by decide +kernel
theorem dX10_saleLine_58 : decode cX10_saleLine 58 = .ok (.iastore, 1) := by decide +kernel
theorem dX10_saleLine_59 : decode cX10_saleLine 59 = .ok (.iconst 1, 1) := by decide +kernel
theorem dX10_saleLine_60 : decode cX10_saleLine 60 = .ok (.ireturn, 1) := by decide +kernel
theorem dX10_buyLine_0 : decode cX10_buyLine 0 = .ok (.aload_n 0, 1) := by decide +kernel
theorem dX10_buyLine_1 : decode cX10_buyLine 1 = .ok (.getfield 32, 3) := by decide +kernel
theorem dX10_buyLine_4 : decode cX10_buyLine 4 = .ok (.bipush 12, 2) := by decide +kernel
theorem dX10_buyLine_6 : decode cX10_buyLine 6 = .ok (.iaload, 1) := by decide +kernel
theorem dX10_buyLine_7 : decode cX10_buyLine 7 = .ok (.bipush 12, 2) := by decide +kernel
theorem dX10_buyLine_9 : decode cX10_buyLine 9 = .ok (.if_icmp .ne 9, 3) := by decide +kernel
theorem dX10_buyLine_12 : decode cX10_buyLine 12 = .ok (.aload_n 0, 1) := by decide +kernel
theorem dX10_buyLine_13 : decode cX10_buyLine 13 = .ok (.iconst 2, 1) := by decide +kernel
theorem dX10_buyLine_14 : decode cX10_buyLine 14 = .ok (.invokevirtual 121, 3) := by decide +kernel
theorem dX10_buyLine_17 : decode cX10_buyLine 17 = .ok (.ireturn, 1) := by decide +kernel
theorem dX10_buyLine_18 : decode cX10_buyLine 18 = .ok (.aload_n 0, 1) := by decide +kernel
theorem dX10_buyLine_19 : decode cX10_buyLine 19 = .ok (.aload_n 0, 1) := by decide +kernel
theorem dX10_buyLine_20 : decode cX10_buyLine 20 = .ok (.getfield 26, 3) := by decide +kernel
theorem dX10_buyLine_23 : decode cX10_buyLine 23 = .ok (.bipush 48, 2) := by decide +kernel
theorem dX10_buyLine_25 : decode cX10_buyLine 25 = .ok (.iconst 4, 1) := by decide +kernel
theorem dX10_buyLine_26 : decode cX10_buyLine 26 = .ok (.aload_n 0, 1) := by decide +kernel
theorem dX10_buyLine_27 : decode cX10_buyLine 27 = .ok (.getfield 32, 3) := by decide +kernel
theorem dX10_buyLine_30 : decode cX10_buyLine 30 = .ok (.bipush 12, 2) := by decide +kernel
theorem dX10_buyLine_32 : decode cX10_buyLine 32 = .ok (.iaload, 1) := by decide +kernel
theorem dX10_buyLine_33 : decode cX10_buyLine 33 = .ok (.imul, 1) := by decide +kernel
theorem dX10_buyLine_34 : decode cX10_buyLine 34 = .ok (.iadd, 1) := by decide +kernel
theorem dX10_buyLine_35 : decode cX10_buyLine 35 = .ok (.iconst 4, 1) := by decide +kernel
theorem dX10_buyLine_36 : decode cX10_buyLine 36 = .ok (.iconst 2, 1) := by decide +kernel
theorem dX10_buyLine_37 : decode cX10_buyLine 37 = .ok (.sipush 9999, 3) := by decide +kernel
theorem dX10_buyLine_40 : decode cX10_buyLine 40 = .ok (.iconst 1, 1) := by decide +kernel
theorem dX10_buyLine_41 : decode cX10_buyLine 41 = .ok (.invokevirtual 146, 3) := by decide +kernel
theorem dX10_buyLine_44 : decode cX10_buyLine 44 = .ok (.ifCond .ne 5, 3) := by decide +kernel
theorem dX10_buyLine_47 : decode cX10_buyLine 47 = .ok (.iconst 0, 1) := by decide +kernel
theorem dX10_buyLine_48 : decode cX10_buyLine 48 = .ok (.ireturn, 1) := by decide +kernel
theorem dX10_buyLine_49 : decode cX10_buyLine 49 = .ok (.aload_n 0, 1) := by decide +kernel
theorem dX10_buyLine_50 : decode cX10_buyLine 50 = .ok (.getfield 32, 3) := by decide +kernel
theorem dX10_buyLine_53 : decode cX10_buyLine 53 = .ok (.bipush 12, 2) := by decide +kernel
theorem dX10_buyLine_55 : decode cX10_buyLine 55 = .ok (.dup2, 1) := by decide +kernel
theorem dX10_buyLine_56 : decode cX10_buyLine 56 = .ok (.iaload, 1) := by decide +kernel
theorem dX10_buyLine_57 : decode cX10_buyLine 57 = .ok (.iconst 1, 1) := by decide +kernel
theorem dX10_buyLine_58 : decode cX10_buyLine 58 = .ok (.iadd, 1) := by decide +kernel
theorem dX10_buyLine_59 : decode cX10_buyLine 59 = .ok (.iastore, 1) := by decide +kernel
theorem dX10_buyLine_60 : decode cX10_buyLine 60 = .ok (.iconst 1, 1) := by decide +kernel
theorem dX10_buyLine_61 : decode cX10_buyLine 61 = .ok (.ireturn, 1) := by decide +kernel
theorem dX10_assetLine_0 : decode cX10_assetLine 0 = .ok (.aload_n 0, 1) := by decide +kernel
theorem dX10_assetLine_1 : decode cX10_assetLine 1 = .ok (.getfield 32, 3) := by decide +kernel
theorem dX10_assetLine_4 : decode cX10_assetLine 4 = .ok (.bipush 13, 2) := by decide +kernel
theorem dX10_assetLine_6 : decode cX10_assetLine 6 = .ok (.iaload, 1) := by decide +kernel
theorem dX10_assetLine_7 : decode cX10_assetLine 7 = .ok (.iconst 4, 1) := by decide +kernel
theorem dX10_assetLine_8 : decode cX10_assetLine 8 = .ok (.if_icmp .ne 9, 3) := by decide +kernel
theorem dX10_assetLine_11 : decode cX10_assetLine 11 = .ok (.aload_n 0, 1) := by decide +kernel
theorem dX10_assetLine_12 : decode cX10_assetLine 12 = .ok (.iconst 2, 1) := by decide +kernel
theorem dX10_assetLine_13 : decode cX10_assetLine 13 = .ok (.invokevirtual 121, 3) := by decide +kernel
theorem dX10_assetLine_16 : decode cX10_assetLine 16 = .ok (.ireturn, 1) := by decide +kernel
theorem dX10_assetLine_17 : decode cX10_assetLine 17 = .ok (.aload_n 0, 1) := by decide +kernel
theorem dX10_assetLine_18 : decode cX10_assetLine 18 = .ok (.aload_n 0, 1) := by decide +kernel
theorem dX10_assetLine_19 : decode cX10_assetLine 19 = .ok (.getfield 29, 3) := by decide +kernel
theorem dX10_assetLine_22 : decode cX10_assetLine 22 = .ok (.bipush 20, 2) := by decide +kernel
theorem dX10_assetLine_24 : decode cX10_assetLine 24 = .ok (.iconst 5, 1) := by decide +kernel
theorem dX10_assetLine_25 : decode cX10_assetLine 25 = .ok (.aload_n 0, 1) := by decide +kernel
theorem dX10_assetLine_26 : decode cX10_assetLine 26 = .ok (.getfield 32, 3) := by decide +kernel
theorem dX10_assetLine_29 : decode cX10_assetLine 29 = .ok (.bipush 13, 2) := by decide +kernel
theorem dX10_assetLine_31 : decode cX10_assetLine 31 = .ok (.iaload, 1) := by decide +kernel
theorem dX10_assetLine_32 : decode cX10_assetLine 32 = .ok (.imul, 1) := by decide +kernel
theorem dX10_assetLine_33 : decode cX10_assetLine 33 = .ok (.iadd, 1) := by decide +kernel
theorem dX10_assetLine_34 : decode cX10_assetLine 34 = .ok (.iconst 5, 1) := by decide +kernel
theorem dX10_assetLine_35 : decode cX10_assetLine 35 = .ok (.iconst 2, 1) := by decide +kernel
theorem dX10_assetLine_36 : decode cX10_assetLine 36 = .ok (.sipush 9999, 3) := by decide +kernel
theorem dX10_assetLine_39 : decode cX10_assetLine 39 = .ok (.iconst 1, 1) := by decide +kernel
theorem dX10_assetLine_40 : decode cX10_assetLine 40 = .ok (.invokevirtual 146, 3) := by decide +kernel
theorem dX10_assetLine_43 : decode cX10_assetLine 43 = .ok (.ifCond .ne 5, 3) := by decide +kernel
theorem dX10_assetLine_46 : decode cX10_assetLine 46 = .ok (.iconst 0, 1) := by decide +kernel
theorem dX10_assetLine_47 : decode cX10_assetLine 47 = .ok (.ireturn, 1) := by decide +kernel
theorem dX10_assetLine_48 : decode cX10_assetLine 48 = .ok (.aload_n 0, 1) := by decide +kernel
theorem dX10_assetLine_49 : decode cX10_assetLine 49 = .ok (.getfield 32, 3) := by decide +kernel
theorem dX10_assetLine_52 : decode cX10_assetLine 52 = .ok (.bipush 13, 2) := by decide +kernel
theorem dX10_assetLine_54 : decode cX10_assetLine 54 = .ok (.dup2, 1) := by decide +kernel
theorem dX10_assetLine_55 : decode cX10_assetLine 55 = .ok (.iaload, 1) := by decide +kernel
theorem dX10_assetLine_56 : decode cX10_assetLine 56 = .ok (.iconst 1, 1) := by decide +kernel
theorem dX10_assetLine_57 : decode cX10_assetLine 57 = .ok (.iadd, 1) := by decide +kernel
theorem dX10_assetLine_58 : decode cX10_assetLine 58 = .ok (.iastore, 1) := by decide +kernel
theorem dX10_assetLine_59 : decode cX10_assetLine 59 = .ok (.iconst 1, 1) := by decide +kernel
theorem dX10_assetLine_60 : decode cX10_assetLine 60 = .ok (.ireturn, 1) := by decide +kernel
theorem dX10_wordLine_0 : decode cX10_wordLine 0 = .ok (.aload_n 0, 1) := by decide +kernel
theorem dX10_wordLine_1 : decode cX10_wordLine 1 = .ok (.getfield 78, 3) := by decide +kernel
theorem dX10_wordLine_4 : decode cX10_wordLine 4 = .ok (.istore_n 1, 1) := by decide +kernel
theorem dX10_wordLine_5 : decode cX10_wordLine 5 = .ok (.aload_n 0, 1) := by decide +kernel
theorem dX10_wordLine_6 : decode cX10_wordLine 6 = .ok (.getfield 91, 3) := by decide +kernel
theorem dX10_wordLine_9 : decode cX10_wordLine 9 = .ok (.iload_n 1, 1) := by decide +kernel
theorem dX10_wordLine_10 : decode cX10_wordLine 10 = .ok (.ishr, 1) := by decide +kernel
theorem dX10_wordLine_11 : decode cX10_wordLine 11 = .ok (.iconst 1, 1) := by decide +kernel
theorem dX10_wordLine_12 : decode cX10_wordLine 12 = .ok (.iand, 1) := by decide +kernel
theorem dX10_wordLine_13 : decode cX10_wordLine 13 = .ok (.iconst 1, 1) := by decide +kernel
theorem dX10_wordLine_14 : decode cX10_wordLine 14 = .ok (.if_icmp .ne 9, 3) := by decide +kernel
theorem dX10_wordLine_17 : decode cX10_wordLine 17 = .ok (.aload_n 0, 1) := by decide +kernel
theorem dX10_wordLine_18 : decode cX10_wordLine 18 = .ok (.iconst 3, 1) := by decide +kernel
theorem dX10_wordLine_19 : decode cX10_wordLine 19 = .ok (.invokevirtual 121, 3) := by decide +kernel
theorem dX10_wordLine_22 : decode cX10_wordLine 22 = .ok (.ireturn, 1) := by decide +kernel
theorem dX10_wordLine_23 : decode cX10_wordLine 23 = .ok (.aload_n 0, 1) := by decide +kernel
theorem dX10_wordLine_24 : decode cX10_wordLine 24 = .ok (.dup, 1) := by decide +kernel
theorem dX10_wordLine_25 : decode cX10_wordLine 25 = .ok (.getfield 91, 3) := by decide +kernel
theorem dX10_wordLine_28 : decode cX10_wordLine 28 = .ok (.iconst 1, 1) := by decide +kernel
theorem dX10_wordLine_29 : decode cX10_wordLine 29 = .ok (.iload_n 1, 1) := by decide +kernel
theorem dX10_wordLine_30 : decode cX10_wordLine 30 = .ok (.ishl, 1) := by decide +kernel
theorem dX10_wordLine_31 : decode cX10_wordLine 31 = .ok (.ior, 1) := by decide +kernel
theorem dX10_wordLine_32 : decode cX10_wordLine 32 = .ok (.putfield 91, 3) := by decide +kernel
theorem dX10_wordLine_35 : decode cX10_wordLine 35 = .ok (.aload_n 0, 1) := by decide +kernel
theorem dX10_wordLine_36 : decode cX10_wordLine 36 = .ok (.invokevirtual 131, 3) := by decide +kernel
theorem dX10_wordLine_39 : decode cX10_wordLine 39 = .ok (.iload_n 1, 1) := by decide +kernel
theorem dX10_wordLine_40 : decode cX10_wordLine 40 = .ok (.iconst 3, 1) := by decide +kernel
theorem dX10_wordLine_41 : decode cX10_wordLine 41 = .ok (.if_icmp .ne 66, 3) := by decide +kernel
theorem dX10_wordLine_44 : decode cX10_wordLine 44 = .ok (.aload_n 0, 1) := by decide +kernel
theorem dX10_wordLine_45 : decode cX10_wordLine 45 = .ok (.getfield 67, 3) := by decide +kernel
theorem dX10_wordLine_48 : decode cX10_wordLine 48 = .ok (.iconst 1, 1) := by decide +kernel
theorem dX10_wordLine_49 : decode cX10_wordLine 49 = .ok (.if_icmp .ne 12, 3) := by decide +kernel
theorem dX10_wordLine_52 : decode cX10_wordLine 52 = .ok (.aload_n 0, 1) := by decide +kernel
theorem dX10_wordLine_53 : decode cX10_wordLine 53 = .ok (.getfield 78, 3) := by decide +kernel
theorem dX10_wordLine_56 : decode cX10_wordLine 56 = .ok (.bipush 10, 2) := by decide +kernel
theorem dX10_wordLine_58 : decode cX10_wordLine 58 = .ok (.if_icmp .ge 9, 3) := by decide +kernel
theorem dX10_wordLine_61 : decode cX10_wordLine 61 = .ok (.aload_n 0, 1) := by decide +kernel
theorem dX10_wordLine_62 : decode cX10_wordLine 62 = .ok (.iconst 1, 1) := by decide +kernel
theorem dX10_wordLine_63 : decode cX10_wordLine 63 = .ok (.invokevirtual 121, 3) := by decide +kernel
theorem dX10_wordLine_66 : decode cX10_wordLine 66 = .ok (.ireturn, 1) := by decide +kernel
theorem dX10_wordLine_67 : decode cX10_wordLine 67 = .ok (.aload_n 0, 1) := by decide +kernel
theorem dX10_wordLine_68 : decode cX10_wordLine 68 = .ok (.getfield 32, 3) := by decide +kernel
theorem dX10_wordLine_71 : decode cX10_wordLine 71 = .ok (.bipush 7, 2) := by decide +kernel
theorem dX10_wordLine_73 : decode cX10_wordLine 73 = .ok (.aload_n 0, 1) := by decide +kernel
theorem dX10_wordLine_74 : decode cX10_wordLine 74 = .ok (.getfield 78, 3) := by decide +kernel
theorem dX10_wordLine_77 : decode cX10_wordLine 77 = .ok (.bipush 11, 2) := by decide +kernel
theorem dX10_wordLine_79 : decode cX10_wordLine 79 = .ok (.if_icmp .ne 7, 3) := by decide +kernel
theorem dX10_wordLine_82 : decode cX10_wordLine 82 = .ok (.iconst 0, 1) := by decide +kernel
theorem dX10_wordLine_83 : decode cX10_wordLine 83 = .ok (.goto 17, 3) := by decide +kernel
theorem dX10_wordLine_86 : decode cX10_wordLine 86 = .ok (.aload_n 0, 1) := by decide +kernel
theorem dX10_wordLine_87 : decode cX10_wordLine 87 = .ok (.getfield 78, 3) := by decide +kernel
theorem dX10_wordLine_90 : decode cX10_wordLine 90 = .ok (.bipush 10, 2) := by decide +kernel
theorem dX10_wordLine_92 : decode cX10_wordLine 92 = .ok (.if_icmp .ne 7, 3) := by decide +kernel
theorem dX10_wordLine_95 : decode cX10_wordLine 95 = .ok (.iconst 1, 1) := by decide +kernel
theorem dX10_wordLine_96 : decode cX10_wordLine 96 = .ok (.goto 4, 3) := by decide +kernel
theorem dX10_wordLine_99 : decode cX10_wordLine 99 = .ok (.iconst 2, 1) := by decide +kernel
theorem dX10_wordLine_100 : decode cX10_wordLine 100 = .ok (.iastore, 1) := by decide +kernel
theorem dX10_wordLine_101 : decode cX10_wordLine 101 = .ok (.aload_n 0, 1) := by decide +kernel
theorem dX10_wordLine_102 : decode cX10_wordLine 102 = .ok (.invokevirtual 131, 3) := by decide +kernel
theorem dX10_wordLine_105 : decode cX10_wordLine 105 = .ok (.iconst 1, 1) := by decide +kernel
theorem dX10_wordLine_106 : decode cX10_wordLine 106 = .ok (.ireturn, 1) := by decide +kernel
theorem dX10_wordLine_107 : decode cX10_wordLine 107 = .ok (.iload_n 1, 1) := by decide +kernel
theorem dX10_wordLine_108 : decode cX10_wordLine 108 = .ok (.iconst 4, 1) := by decide +kernel
theorem dX10_wordLine_109 : decode cX10_wordLine 109 = .ok (.if_icmp .ne 18, 3) := by decide +kernel
theorem dX10_wordLine_112 : decode cX10_wordLine 112 = .ok (.aload_n 0, 1) := by decide +kernel
theorem dX10_wordLine_113 : decode cX10_wordLine 113 = .ok (.bipush 10, 2) := by decide +kernel
theorem dX10_wordLine_115 : decode cX10_wordLine 115 = .ok (.sipush 1000, 3) := by decide +kernel
theorem dX10_wordLine_118 : decode cX10_wordLine 118 = .ok (.invokevirtual 138, 3) := by decide +kernel
theorem dX10_wordLine_121 : decode cX10_wordLine 121 = .ok (.ifCond .eq 35, 3) := by decide +kernel
theorem dX10_wordLine_124 : decode cX10_wordLine 124 = .ok (.goto 34, 3) := by decide +kernel
theorem dX10_wordLine_127 : decode cX10_wordLine 127 = .ok (.iload_n 1, 1) := by decide +kernel
theorem dX10_wordLine_128 : decode cX10_wordLine 128 = .ok (.iconst 5, 1) := by decide +kernel
theorem dX10_wordLine_129 : decode cX10_wordLine 129 = .ok (.if_icmp .ne 17, 3) := by decide +kernel
theorem dX10_wordLine_132 : decode cX10_wordLine 132 = .ok (.aload_n 0, 1) := by decide +kernel
theorem dX10_wordLine_133 : decode cX10_wordLine 133 = .ok (.iconst 0, 1) := by decide +kernel
theorem dX10_wordLine_134 : decode cX10_wordLine 134 = .ok (.sipush 9999, 3) := by decide +kernel
theorem dX10_wordLine_137 : decode cX10_wordLine 137 = .ok (.invokevirtual 138, 3) := by decide +kernel
theorem dX10_wordLine_140 : decode cX10_wordLine 140 = .ok (.ifCond .eq 16, 3) := by decide +kernel
theorem dX10_wordLine_143 : decode cX10_wordLine 143 = .ok (.goto 15, 3) := by decide +kernel
theorem dX10_wordLine_146 : decode cX10_wordLine 146 = .ok (.aload_n 0, 1) := by decide +kernel
theorem dX10_wordLine_147 : decode cX10_wordLine 147 = .ok (.iconst 0, 1) := by decide +kernel
theorem dX10_wordLine_148 : decode cX10_wordLine 148 = .ok (.ldc 87, 2) := by decide +kernel
theorem dX10_wordLine_150 : decode cX10_wordLine 150 = .ok (.invokevirtual 138, 3) := by decide +kernel
theorem dX10_wordLine_153 : decode cX10_wordLine 153 = .ok (.ifCond .ne 5, 3) := by decide +kernel
theorem dX10_wordLine_156 : decode cX10_wordLine 156 = .ok (.iconst 0, 1) := by decide +kernel
theorem dX10_wordLine_157 : decode cX10_wordLine 157 = .ok (.ireturn, 1) := by decide +kernel
theorem dX10_wordLine_158 : decode cX10_wordLine 158 = .ok (.aload_n 0, 1) := by decide +kernel
theorem dX10_wordLine_159 : decode cX10_wordLine 159 = .ok (.getfield 32, 3) := by decide +kernel
theorem dX10_wordLine_162 : decode cX10_wordLine 162 = .ok (.iload_n 1, 1) := by decide +kernel
theorem dX10_wordLine_163 : decode cX10_wordLine 163 = .ok (.iconst 4, 1) := by decide +kernel
theorem dX10_wordLine_164 : decode cX10_wordLine 164 = .ok (.if_icmp .ne 8, 3) := by decide +kernel
theorem dX10_wordLine_167 : decode cX10_wordLine 167 = .ok (.bipush 8, 2) := by decide +kernel
theorem dX10_wordLine_169 : decode cX10_wordLine 169 = .ok (.goto 15, 3) := by decide +kernel
theorem dX10_wordLine_172 : decode cX10_wordLine 172 = .ok (.iload_n 1, 1) := by decide +kernel
theorem dX10_wordLine_173 : decode cX10_wordLine 173 = .ok (.iconst 5, 1) := by decide +kernel
theorem dX10_wordLine_174 : decode cX10_wordLine 174 = .ok (.if_icmp .ne 8, 3) := by decide +kernel
theorem dX10_wordLine_177 : decode cX10_wordLine 177 = .ok (.bipush 9, 2) := by decide +kernel
theorem dX10_wordLine_179 : decode cX10_wordLine 179 = .ok (.goto 5, 3) := by decide +kernel
theorem dX10_wordLine_182 : decode cX10_wordLine 182 = .ok (.bipush 10, 2) := by decide +kernel
theorem dX10_wordLine_184 : decode cX10_wordLine 184 = .ok (.aload_n 0, 1) := by decide +kernel
theorem dX10_wordLine_185 : decode cX10_wordLine 185 = .ok (.getfield 128, 3) := by decide +kernel
theorem dX10_wordLine_188 : decode cX10_wordLine 188 = .ok (.iastore, 1) := by decide +kernel
theorem dX10_wordLine_189 : decode cX10_wordLine 189 = .ok (.iconst 1, 1) := by decide +kernel
theorem dX10_wordLine_190 : decode cX10_wordLine 190 = .ok (.ireturn, 1) := by decide +kernel
theorem dX10_lineRead_0 : decode cX10_lineRead 0 = .ok (.aload_n 0, 1) := by decide +kernel
theorem dX10_lineRead_1 : decode cX10_lineRead 1 = .ok (.getfield 67, 3) := by decide +kernel
theorem dX10_lineRead_4 : decode cX10_lineRead 4 = .ok (.iconst 1, 1) := by decide +kernel
theorem dX10_lineRead_5 : decode cX10_lineRead 5 = .ok (.if_icmp .eq 9, 3) := by decide +kernel
theorem dX10_lineRead_8 : decode cX10_lineRead 8 = .ok (.aload_n 0, 1) := by decide +kernel
theorem dX10_lineRead_9 : decode cX10_lineRead 9 = .ok (.iconst 1, 1) := by decide +kernel
theorem dX10_lineRead_10 : decode cX10_lineRead 10 = .ok (.invokevirtual 121, 3) := by decide +kernel
theorem dX10_lineRead_13 : decode cX10_lineRead 13 = .ok (.ireturn, 1) := by decide +kernel
theorem dX10_lineRead_14 : decode cX10_lineRead 14 = .ok (.aload_n 0, 1) := by decide +kernel
theorem dX10_lineRead_15 : decode cX10_lineRead 15 = .ok (.getfield 78, 3) := by decide +kernel
theorem dX10_lineRead_18 : decode cX10_lineRead 18 = .ok (.tableswitch 110 0 9 #[54, 62, 70, 102, 102, 102, 102, 78, 86, 94], 54) := by decide +kernel
theorem dX10_lineRead_72 : decode cX10_lineRead 72 = .ok (.aload_n 0, 1) := by decide +kernel
theorem dX10_lineRead_73 : decode cX10_lineRead 73 = .ok (.invokevirtual 150, 3) := by decide +kernel
theorem dX10_lineRead_76 : decode cX10_lineRead 76 = .ok (.istore_n 1, 1) := by decide +kernel
theorem dX10_lineRead_77 : decode cX10_lineRead 77 = .ok (.goto 57, 3) := by decide +kernel
theorem dX10_lineRead_80 : decode cX10_lineRead 80 = .ok (.aload_n 0, 1) := by decide +kernel
theorem dX10_lineRead_81 : decode cX10_lineRead 81 = .ok (.invokevirtual 153, 3) := by decide +kernel
theorem dX10_lineRead_84 : decode cX10_lineRead 84 = .ok (.istore_n 1, 1) := by decide +kernel
theorem dX10_lineRead_85 : decode cX10_lineRead 85 = .ok (.goto 49, 3) := by decide +kernel
theorem dX10_lineRead_88 : decode cX10_lineRead 88 = .ok (.aload_n 0, 1) := by decide +kernel
theorem dX10_lineRead_89 : decode cX10_lineRead 89 = .ok (.invokevirtual 156, 3) := by decide +kernel
theorem dX10_lineRead_92 : decode cX10_lineRead 92 = .ok (.istore_n 1, 1) := by decide +kernel
theorem dX10_lineRead_93 : decode cX10_lineRead 93 = .ok (.goto 41, 3) := by decide +kernel
theorem dX10_lineRead_96 : decode cX10_lineRead 96 = .ok (.aload_n 0, 1) := by decide +kernel
theorem dX10_lineRead_97 : decode cX10_lineRead 97 = .ok (.invokevirtual 159, 3) := by decide +kernel
theorem dX10_lineRead_100 : decode cX10_lineRead 100 = .ok (.istore_n 1, 1) := by decide +kernel
theorem dX10_lineRead_101 : decode cX10_lineRead 101 = .ok (.goto 33, 3) := by decide +kernel
theorem dX10_lineRead_104 : decode cX10_lineRead 104 = .ok (.aload_n 0, 1) := by decide +kernel
theorem dX10_lineRead_105 : decode cX10_lineRead 105 = .ok (.invokevirtual 162, 3) := by decide +kernel
theorem dX10_lineRead_108 : decode cX10_lineRead 108 = .ok (.istore_n 1, 1) := by decide +kernel
theorem dX10_lineRead_109 : decode cX10_lineRead 109 = .ok (.goto 25, 3) := by decide +kernel
theorem dX10_lineRead_112 : decode cX10_lineRead 112 = .ok (.aload_n 0, 1) := by decide +kernel
theorem dX10_lineRead_113 : decode cX10_lineRead 113 = .ok (.invokevirtual 165, 3) := by decide +kernel
theorem dX10_lineRead_116 : decode cX10_lineRead 116 = .ok (.istore_n 1, 1) := by decide +kernel
theorem dX10_lineRead_117 : decode cX10_lineRead 117 = .ok (.goto 17, 3) := by decide +kernel
theorem dX10_lineRead_120 : decode cX10_lineRead 120 = .ok (.aload_n 0, 1) := by decide +kernel
theorem dX10_lineRead_121 : decode cX10_lineRead 121 = .ok (.invokevirtual 168, 3) := by decide +kernel
theorem dX10_lineRead_124 : decode cX10_lineRead 124 = .ok (.istore_n 1, 1) := by decide +kernel
theorem dX10_lineRead_125 : decode cX10_lineRead 125 = .ok (.goto 9, 3) := by decide +kernel
theorem dX10_lineRead_128 : decode cX10_lineRead 128 = .ok (.aload_n 0, 1) := by decide +kernel
theorem dX10_lineRead_129 : decode cX10_lineRead 129 = .ok (.iconst 1, 1) := by decide +kernel
theorem dX10_lineRead_130 : decode cX10_lineRead 130 = .ok (.invokevirtual 121, 3) := by decide +kernel
theorem dX10_lineRead_133 : decode cX10_lineRead 133 = .ok (.ireturn, 1) := by decide +kernel
theorem dX10_lineRead_134 : decode cX10_lineRead 134 = .ok (.iload_n 1, 1) := by decide +kernel
theorem dX10_lineRead_135 : decode cX10_lineRead 135 = .ok (.ifCond .ne 5, 3) := by decide +kernel
theorem dX10_lineRead_138 : decode cX10_lineRead 138 = .ok (.iconst 0, 1) := by decide +kernel
theorem dX10_lineRead_139 : decode cX10_lineRead 139 = .ok (.ireturn, 1) := by decide +kernel
theorem dX10_lineRead_140 : decode cX10_lineRead 140 = .ok (.aload_n 0, 1) := by decide +kernel
theorem dX10_lineRead_141 : decode cX10_lineRead 141 = .ok (.getfield 67, 3) := by decide +kernel
theorem dX10_lineRead_144 : decode cX10_lineRead 144 = .ok (.iconst 4, 1) := by decide +kernel
theorem dX10_lineRead_145 : decode cX10_lineRead 145 = .ok (.if_icmp .eq 9, 3) := by decide +kernel
theorem dX10_lineRead_148 : decode cX10_lineRead 148 = .ok (.aload_n 0, 1) := by decide +kernel
theorem dX10_lineRead_149 : decode cX10_lineRead 149 = .ok (.iconst 1, 1) := by decide +kernel
theorem dX10_lineRead_150 : decode cX10_lineRead 150 = .ok (.invokevirtual 121, 3) := by decide +kernel
theorem dX10_lineRead_153 : decode cX10_lineRead 153 = .ok (.ireturn, 1) := by decide +kernel
theorem dX10_lineRead_154 : decode cX10_lineRead 154 = .ok (.aload_n 0, 1) := by decide +kernel
theorem dX10_lineRead_155 : decode cX10_lineRead 155 = .ok (.invokevirtual 131, 3) := by decide +kernel
theorem dX10_lineRead_158 : decode cX10_lineRead 158 = .ok (.iconst 1, 1) := by decide +kernel
theorem dX10_lineRead_159 : decode cX10_lineRead 159 = .ok (.ireturn, 1) := by decide +kernel
theorem dX10_text_0 : decode cX10_text 0 = .ok (.aload_n 0, 1) := by decide +kernel
theorem dX10_text_1 : decode cX10_text 1 = .ok (.iconst 0, 1) := by decide +kernel
theorem dX10_text_2 : decode cX10_text 2 = .ok (.putfield 49, 3) := by decide +kernel
theorem dX10_text_5 : decode cX10_text 5 = .ok (.iload_n 1, 1) := by decide +kernel
theorem dX10_text_6 : decode cX10_text 6 = .ok (.ifCond .lt 11, 3) := by decide +kernel
theorem dX10_text_9 : decode cX10_text 9 = .ok (.iload_n 1, 1) := by decide +kernel
theorem dX10_text_10 : decode cX10_text 10 = .ok (.aload_n 0, 1) := by decide +kernel
theorem dX10_text_11 : decode cX10_text 11 = .ok (.getfield 52, 3) := by decide +kernel
theorem dX10_text_14 : decode cX10_text 14 = .ok (.if_icmp .le 6, 3) := by decide +kernel
theorem dX10_text_17 : decode cX10_text 17 = .ok (.bipush (-2), 2) := by decide +kernel
theorem dX10_text_19 : decode cX10_text 19 = .ok (.ireturn, 1) := by decide +kernel
theorem dX10_text_20 : decode cX10_text 20 = .ok (.aload_n 0, 1) := by decide +kernel
theorem dX10_text_21 : decode cX10_text 21 = .ok (.iload_n 1, 1) := by decide +kernel
theorem dX10_text_22 : decode cX10_text 22 = .ok (.putfield 61, 3) := by decide +kernel
theorem dX10_text_25 : decode cX10_text 25 = .ok (.aload_n 0, 1) := by decide +kernel
theorem dX10_text_26 : decode cX10_text 26 = .ok (.iconst 0, 1) := by decide +kernel
theorem dX10_text_27 : decode cX10_text 27 = .ok (.putfield 52, 3) := by decide +kernel
theorem dX10_text_30 : decode cX10_text 30 = .ok (.aload_n 0, 1) := by decide +kernel
theorem dX10_text_31 : decode cX10_text 31 = .ok (.iconst 0, 1) := by decide +kernel
theorem dX10_text_32 : decode cX10_text 32 = .ok (.putfield 55, 3) := by decide +kernel
theorem dX10_text_35 : decode cX10_text 35 = .ok (.aload_n 0, 1) := by decide +kernel
theorem dX10_text_36 : decode cX10_text 36 = .ok (.iconst (-1), 1) := by decide +kernel
theorem dX10_text_37 : decode cX10_text 37 = .ok (.putfield 16, 3) := by decide +kernel
theorem dX10_text_40 : decode cX10_text 40 = .ok (.aload_n 0, 1) := by decide +kernel
theorem dX10_text_41 : decode cX10_text 41 = .ok (.iconst 0, 1) := by decide +kernel
theorem dX10_text_42 : decode cX10_text 42 = .ok (.putfield 64, 3) := by decide +kernel
theorem dX10_text_45 : decode cX10_text 45 = .ok (.aload_n 0, 1) := by decide +kernel
theorem dX10_text_46 : decode cX10_text 46 = .ok (.invokevirtual 43, 3) := by decide +kernel
theorem dX10_text_49 : decode cX10_text 49 = .ok (.aload_n 0, 1) := by decide +kernel
theorem dX10_text_50 : decode cX10_text 50 = .ok (.invokevirtual 131, 3) := by decide +kernel
theorem dX10_text_53 : decode cX10_text 53 = .ok (.iconst 0, 1) := by decide +kernel
theorem dX10_text_54 : decode cX10_text 54 = .ok (.istore_n 2, 1) := by decide +kernel
theorem dX10_text_55 : decode cX10_text 55 = .ok (.aload_n 0, 1) := by decide +kernel
theorem dX10_text_56 : decode cX10_text 56 = .ok (.getfield 67, 3) := by decide +kernel
theorem dX10_text_59 : decode cX10_text 59 = .ok (.ifCond .eq 18, 3) := by decide +kernel
theorem dX10_text_62 : decode cX10_text 62 = .ok (.aload_n 0, 1) := by decide +kernel
theorem dX10_text_63 : decode cX10_text 63 = .ok (.invokevirtual 171, 3) := by decide +kernel
theorem dX10_text_66 : decode cX10_text 66 = .ok (.ifCond .ne 5, 3) := by decide +kernel
theorem dX10_text_69 : decode cX10_text 69 = .ok (.iconst (-1), 1) := by decide +kernel
theorem dX10_text_70 : decode cX10_text 70 = .ok (.ireturn, 1) := by decide +kernel
theorem dX10_text_71 : decode cX10_text 71 = .ok (.iinc 2 1, 3) := by decide +kernel
theorem dX10_text_74 : decode cX10_text 74 = .ok (.goto (-19), 3) := by decide +kernel
theorem dX10_text_77 : decode cX10_text 77 = .ok (.aload_n 0, 1) := by decide +kernel
theorem dX10_text_78 : decode cX10_text 78 = .ok (.invokevirtual 46, 3) := by decide +kernel
theorem dX10_text_81 : decode cX10_text 81 = .ok (.iload_n 2, 1) := by decide +kernel
theorem dX10_text_82 : decode cX10_text 82 = .ok (.ireturn, 1) := by decide +kernel
theorem dX10_fault_0 : decode cX10_fault 0 = .ok (.aload_n 0, 1) := by decide +kernel
theorem dX10_fault_1 : decode cX10_fault 1 = .ok (.iconst 0, 1) := by decide +kernel
theorem dX10_fault_2 : decode cX10_fault 2 = .ok (.putfield 49, 3) := by decide +kernel
theorem dX10_fault_5 : decode cX10_fault 5 = .ok (.iload_n 1, 1) := by decide +kernel
theorem dX10_fault_6 : decode cX10_fault 6 = .ok (.ifCond .ne 10, 3) := by decide +kernel
theorem dX10_fault_9 : decode cX10_fault 9 = .ok (.aload_n 0, 1) := by decide +kernel
theorem dX10_fault_10 : decode cX10_fault 10 = .ok (.getfield 55, 3) := by decide +kernel
theorem dX10_fault_13 : decode cX10_fault 13 = .ok (.goto 16, 3) := by decide +kernel
theorem dX10_fault_16 : decode cX10_fault 16 = .ok (.iload_n 1, 1) := by decide +kernel
theorem dX10_fault_17 : decode cX10_fault 17 = .ok (.iconst 1, 1) := by decide +kernel
theorem dX10_fault_18 : decode cX10_fault 18 = .ok (.if_icmp .ne 10, 3) := by decide +kernel
theorem dX10_fault_21 : decode cX10_fault 21 = .ok (.aload_n 0, 1) := by decide +kernel
theorem dX10_fault_22 : decode cX10_fault 22 = .ok (.getfield 16, 3) := by decide +kernel
theorem dX10_fault_25 : decode cX10_fault 25 = .ok (.goto 4, 3) := by decide +kernel
theorem dX10_fault_28 : decode cX10_fault 28 = .ok (.iconst (-1), 1) := by decide +kernel
theorem dX10_fault_29 : decode cX10_fault 29 = .ok (.ireturn, 1) := by decide +kernel
theorem dX10_named_0 : decode cX10_named 0 = .ok (.aload_n 0, 1) := by decide +kernel
theorem dX10_named_1 : decode cX10_named 1 = .ok (.iconst 0, 1) := by decide +kernel
theorem dX10_named_2 : decode cX10_named 2 = .ok (.putfield 49, 3) := by decide +kernel
theorem dX10_named_5 : decode cX10_named 5 = .ok (.aload_n 0, 1) := by decide +kernel
theorem dX10_named_6 : decode cX10_named 6 = .ok (.iload_n 1, 1) := by decide +kernel
theorem dX10_named_7 : decode cX10_named 7 = .ok (.iconst 0, 1) := by decide +kernel
theorem dX10_named_8 : decode cX10_named 8 = .ok (.aload_n 0, 1) := by decide +kernel
theorem dX10_named_9 : decode cX10_named 9 = .ok (.getfield 94, 3) := by decide +kernel
theorem dX10_named_12 : decode cX10_named 12 = .ok (.invokevirtual 134, 3) := by decide +kernel
theorem dX10_named_15 : decode cX10_named 15 = .ok (.ireturn, 1) := by decide +kernel
theorem dX10_isTrader_0 : decode cX10_isTrader 0 = .ok (.iload_n 1, 1) := by decide +kernel
theorem dX10_isTrader_1 : decode cX10_isTrader 1 = .ok (.ifCond .lt 15, 3) := by decide +kernel
theorem dX10_isTrader_4 : decode cX10_isTrader 4 = .ok (.iload_n 1, 1) := by decide +kernel
theorem dX10_isTrader_5 : decode cX10_isTrader 5 = .ok (.aload_n 0, 1) := by decide +kernel
theorem dX10_isTrader_6 : decode cX10_isTrader 6 = .ok (.getfield 94, 3) := by decide +kernel
theorem dX10_isTrader_9 : decode cX10_isTrader 9 = .ok (.if_icmp .ge 7, 3) := by decide +kernel
theorem dX10_isTrader_12 : decode cX10_isTrader 12 = .ok (.iconst 1, 1) := by decide +kernel
theorem dX10_isTrader_13 : decode cX10_isTrader 13 = .ok (.goto 4, 3) := by decide +kernel
theorem dX10_isTrader_16 : decode cX10_isTrader 16 = .ok (.iconst 0, 1) := by decide +kernel
theorem dX10_isTrader_17 : decode cX10_isTrader 17 = .ok (.ireturn, 1) := by decide +kernel
theorem dX10_of_0 : decode cX10_of 0 = .ok (.aload_n 0, 1) := by decide +kernel
theorem dX10_of_1 : decode cX10_of 1 = .ok (.getfield 36, 3) := by decide +kernel
theorem dX10_of_4 : decode cX10_of 4 = .ok (.sipush 2468, 3) := by decide +kernel
theorem dX10_of_7 : decode cX10_of 7 = .ok (.aload_n 0, 1) := by decide +kernel
theorem dX10_of_8 : decode cX10_of 8 = .ok (.getfield 101, 3) := by decide +kernel
theorem dX10_of_11 : decode cX10_of 11 = .ok (.imul, 1) := by decide +kernel
theorem dX10_of_12 : decode cX10_of 12 = .ok (.iload_n 1, 1) := by decide +kernel
theorem dX10_of_13 : decode cX10_of 13 = .ok (.iadd, 1) := by decide +kernel
theorem dX10_of_14 : decode cX10_of 14 = .ok (.iaload, 1) := by decide +kernel
theorem dX10_of_15 : decode cX10_of 15 = .ok (.ireturn, 1) := by decide +kernel
theorem dX10_lay_0 : decode cX10_lay 0 = .ok (.aload_n 0, 1) := by decide +kernel
theorem dX10_lay_1 : decode cX10_lay 1 = .ok (.getfield 36, 3) := by decide +kernel
theorem dX10_lay_4 : decode cX10_lay 4 = .ok (.sipush 2468, 3) := by decide +kernel
theorem dX10_lay_7 : decode cX10_lay 7 = .ok (.aload_n 0, 1) := by decide +kernel
theorem dX10_lay_8 : decode cX10_lay 8 = .ok (.getfield 101, 3) := by decide +kernel
theorem dX10_lay_11 : decode cX10_lay 11 = .ok (.imul, 1) := by decide +kernel
theorem dX10_lay_12 : decode cX10_lay 12 = .ok (.iload_n 1, 1) := by decide +kernel
theorem dX10_lay_13 : decode cX10_lay 13 = .ok (.iadd, 1) := by decide +kernel
theorem dX10_lay_14 : decode cX10_lay 14 = .ok (.iload_n 2, 1) := by decide +kernel
theorem dX10_lay_15 : decode cX10_lay 15 = .ok (.iastore, 1) := by decide +kernel
theorem dX10_lay_16 : decode cX10_lay 16 = .ok (.return_, 1) := by decide +kernel
theorem dX10_add_0 : decode cX10_add 0 = .ok (.aload_n 0, 1) := by decide +kernel
theorem dX10_add_1 : decode cX10_add 1 = .ok (.iload_n 1, 1) := by decide +kernel
theorem dX10_add_2 : decode cX10_add 2 = .ok (.aload_n 0, 1) := by decide +kernel
theorem dX10_add_3 : decode cX10_add 3 = .ok (.iload_n 1, 1) := by decide +kernel
theorem dX10_add_4 : decode cX10_add 4 = .ok (.invokevirtual 174, 3) := by decide +kernel
theorem dX10_add_7 : decode cX10_add 7 = .ok (.iload_n 2, 1) := by decide +kernel
theorem dX10_add_8 : decode cX10_add 8 = .ok (.iadd, 1) := by decide +kernel
theorem dX10_add_9 : decode cX10_add 9 = .ok (.invokevirtual 111, 3) := by decide +kernel
theorem dX10_add_12 : decode cX10_add 12 = .ok (.return_, 1) := by decide +kernel
theorem dX10_at_0 : decode cX10_at 0 = .ok (.aload_n 0, 1) := by decide +kernel
theorem dX10_at_1 : decode cX10_at 1 = .ok (.sipush 2084, 3) := by decide +kernel
theorem dX10_at_4 : decode cX10_at 4 = .ok (.bipush 48, 2) := by decide +kernel
theorem dX10_at_6 : decode cX10_at 6 = .ok (.iload_n 1, 1) := by decide +kernel
theorem dX10_at_7 : decode cX10_at 7 = .ok (.imul, 1) := by decide +kernel
theorem dX10_at_8 : decode cX10_at 8 = .ok (.iadd, 1) := by decide +kernel
theorem dX10_at_9 : decode cX10_at 9 = .ok (.iload_n 2, 1) := by decide +kernel
theorem dX10_at_10 : decode cX10_at 10 = .ok (.iadd, 1) := by decide +kernel
theorem dX10_at_11 : decode cX10_at 11 = .ok (.invokevirtual 174, 3) := by decide +kernel
theorem dX10_at_14 : decode cX10_at 14 = .ok (.ireturn, 1) := by decide +kernel
theorem dX10_put_0 : decode cX10_put 0 = .ok (.aload_n 0, 1) := by decide +kernel
theorem dX10_put_1 : decode cX10_put 1 = .ok (.sipush 2084, 3) := by decide +kernel
theorem dX10_put_4 : decode cX10_put 4 = .ok (.bipush 48, 2) := by decide +kernel
theorem dX10_put_6 : decode cX10_put 6 = .ok (.iload_n 1, 1) := by decide +kernel
theorem dX10_put_7 : decode cX10_put 7 = .ok (.imul, 1) := by decide +kernel
theorem dX10_put_8 : decode cX10_put 8 = .ok (.iadd, 1) := by decide +kernel
theorem dX10_put_9 : decode cX10_put 9 = .ok (.iload_n 2, 1) := by decide +kernel
theorem dX10_put_10 : decode cX10_put 10 = .ok (.iadd, 1) := by decide +kernel
theorem dX10_put_11 : decode cX10_put 11 = .ok (.iload_n 3, 1) := by decide +kernel
theorem dX10_put_12 : decode cX10_put 12 = .ok (.invokevirtual 111, 3) := by decide +kernel
theorem dX10_put_15 : decode cX10_put 15 = .ok (.return_, 1) := by decide +kernel
theorem dX10_copyBank_0 : decode cX10_copyBank 0 = .ok (.iconst 0, 1) := by decide +kernel
theorem dX10_copyBank_1 : decode cX10_copyBank 1 = .ok (.istore_n 3, 1) := by decide +kernel
theorem dX10_copyBank_2 : decode cX10_copyBank 2 = .ok (.iload_n 3, 1) := by decide +kernel
theorem dX10_copyBank_3 : decode cX10_copyBank 3 = .ok (.sipush 2468, 3) := by decide +kernel
theorem dX10_copyBank_6 : decode cX10_copyBank 6 = .ok (.if_icmp .ge 33, 3) := by decide +kernel
theorem dX10_copyBank_9 : decode cX10_copyBank 9 = .ok (.aload_n 0, 1) := by decide +kernel
theorem dX10_copyBank_10 : decode cX10_copyBank 10 = .ok (.getfield 36, 3) := by decide +kernel
theorem dX10_copyBank_13 : decode cX10_copyBank 13 = .ok (.sipush 2468, 3) := by decide +kernel
theorem dX10_copyBank_16 : decode cX10_copyBank 16 = .ok (.iload_n 2, 1) := by decide +kernel
theorem dX10_copyBank_17 : decode cX10_copyBank 17 = .ok (.imul, 1) := by decide +kernel
theorem dX10_copyBank_18 : decode cX10_copyBank 18 = .ok (.iload_n 3, 1) := by decide +kernel
theorem dX10_copyBank_19 : decode cX10_copyBank 19 = .ok (.iadd, 1) := by decide +kernel
theorem dX10_copyBank_20 : decode cX10_copyBank 20 = .ok (.aload_n 0, 1) := by decide +kernel
theorem dX10_copyBank_21 : decode cX10_copyBank 21 = .ok (.getfield 36, 3) := by decide +kernel
theorem dX10_copyBank_24 : decode cX10_copyBank 24 = .ok (.sipush 2468, 3) := by decide +kernel
theorem dX10_copyBank_27 : decode cX10_copyBank 27 = .ok (.iload_n 1, 1) := by decide +kernel
theorem dX10_copyBank_28 : decode cX10_copyBank 28 = .ok (.imul, 1) := by decide +kernel
theorem dX10_copyBank_29 : decode cX10_copyBank 29 = .ok (.iload_n 3, 1) := by decide +kernel
theorem dX10_copyBank_30 : decode cX10_copyBank 30 = .ok (.iadd, 1) := by decide +kernel
theorem dX10_copyBank_31 : decode cX10_copyBank 31 = .ok (.iaload, 1) := by decide +kernel
theorem dX10_copyBank_32 : decode cX10_copyBank 32 = .ok (.iastore, 1) := by decide +kernel
theorem dX10_copyBank_33 : decode cX10_copyBank 33 = .ok (.iinc 3 1, 3) := by decide +kernel
theorem dX10_copyBank_36 : decode cX10_copyBank 36 = .ok (.goto (-34), 3) := by decide +kernel
theorem dX10_copyBank_39 : decode cX10_copyBank 39 = .ok (.return_, 1) := by decide +kernel
theorem dX10_canUndo_0 : decode cX10_canUndo 0 = .ok (.aload_n 0, 1) := by decide +kernel
theorem dX10_canUndo_1 : decode cX10_canUndo 1 = .ok (.getfield 104, 3) := by decide +kernel
theorem dX10_canUndo_4 : decode cX10_canUndo 4 = .ok (.bipush 20, 2) := by decide +kernel
theorem dX10_canUndo_6 : decode cX10_canUndo 6 = .ok (.if_icmp .ne 33, 3) := by decide +kernel
theorem dX10_canUndo_9 : decode cX10_canUndo 9 = .ok (.iconst 1, 1) := by decide +kernel
theorem dX10_canUndo_10 : decode cX10_canUndo 10 = .ok (.istore_n 1, 1) := by decide +kernel
theorem dX10_canUndo_11 : decode cX10_canUndo 11 = .ok (.iload_n 1, 1) := by decide +kernel
theorem dX10_canUndo_12 : decode cX10_canUndo 12 = .ok (.bipush 20, 2) := by decide +kernel
theorem dX10_canUndo_14 : decode cX10_canUndo 14 = .ok (.if_icmp .ge 19, 3) := by decide +kernel
theorem dX10_canUndo_17 : decode cX10_canUndo 17 = .ok (.aload_n 0, 1) := by decide +kernel
theorem dX10_canUndo_18 : decode cX10_canUndo 18 = .ok (.iconst 3, 1) := by decide +kernel
theorem dX10_canUndo_19 : decode cX10_canUndo 19 = .ok (.iload_n 1, 1) := by decide +kernel
theorem dX10_canUndo_20 : decode cX10_canUndo 20 = .ok (.iadd, 1) := by decide +kernel
theorem dX10_canUndo_21 : decode cX10_canUndo 21 = .ok (.iconst 2, 1) := by decide +kernel
theorem dX10_canUndo_22 : decode cX10_canUndo 22 = .ok (.iload_n 1, 1) := by decide +kernel
theorem dX10_canUndo_23 : decode cX10_canUndo 23 = .ok (.iadd, 1) := by decide +kernel
theorem dX10_canUndo_24 : decode cX10_canUndo 24 = .ok (.invokevirtual 178, 3) := by decide +kernel
theorem dX10_canUndo_27 : decode cX10_canUndo 27 = .ok (.iinc 1 1, 3) := by decide +kernel
theorem dX10_canUndo_30 : decode cX10_canUndo 30 = .ok (.goto (-19), 3) := by decide +kernel
theorem dX10_canUndo_33 : decode cX10_canUndo 33 = .ok (.aload_n 0, 1) := by decide +kernel
theorem dX10_canUndo_34 : decode cX10_canUndo 34 = .ok (.bipush 19, 2) := by decide +kernel
theorem dX10_canUndo_36 : decode cX10_canUndo 36 = .ok (.putfield 104, 3) := by decide +kernel
theorem dX10_canUndo_39 : decode cX10_canUndo 39 = .ok (.aload_n 0, 1) := by decide +kernel
theorem dX10_canUndo_40 : decode cX10_canUndo 40 = .ok (.iconst 0, 1) := by decide +kernel
theorem dX10_canUndo_41 : decode cX10_canUndo 41 = .ok (.iconst 3, 1) := by decide +kernel
theorem dX10_canUndo_42 : decode cX10_canUndo 42 = .ok (.aload_n 0, 1) := by decide +kernel
theorem dX10_canUndo_43 : decode cX10_canUndo 43 = .ok (.getfield 104, 3) := by decide +kernel
theorem dX10_canUndo_46 : decode cX10_canUndo 46 = .ok (.iadd, 1) := by decide +kernel
theorem dX10_canUndo_47 : decode cX10_canUndo 47 = .ok (.invokevirtual 178, 3) := by decide +kernel
theorem dX10_canUndo_50 : decode cX10_canUndo 50 = .ok (.aload_n 0, 1) := by decide +kernel
theorem dX10_canUndo_51 : decode cX10_canUndo 51 = .ok (.dup, 1) := by decide +kernel
theorem dX10_canUndo_52 : decode cX10_canUndo 52 = .ok (.getfield 104, 3) := by decide +kernel
theorem dX10_canUndo_55 : decode cX10_canUndo 55 = .ok (.iconst 1, 1) := by decide +kernel
theorem dX10_canUndo_56 : decode cX10_canUndo 56 = .ok (.iadd, 1) := by decide +kernel
theorem dX10_canUndo_57 : decode cX10_canUndo 57 = .ok (.putfield 104, 3) := by decide +kernel
theorem dX10_canUndo_60 : decode cX10_canUndo 60 = .ok (.return_, 1) := by decide +kernel
theorem dX10_undo_0 : decode cX10_undo 0 = .ok (.aload_n 0, 1) := by decide +kernel
theorem dX10_undo_1 : decode cX10_undo 1 = .ok (.iconst 0, 1) := by decide +kernel
theorem dX10_undo_2 : decode cX10_undo 2 = .ok (.putfield 49, 3) := by decide +kernel
theorem dX10_undo_5 : decode cX10_undo 5 = .ok (.aload_n 0, 1) := by decide +kernel
theorem dX10_undo_6 : decode cX10_undo 6 = .ok (.getfield 104, 3) := by decide +kernel
theorem dX10_undo_9 : decode cX10_undo 9 = .ok (.ifCond .ne 5, 3) := by decide +kernel
theorem dX10_undo_12 : decode cX10_undo 12 = .ok (.iconst (-1), 1) := by decide +kernel
theorem dX10_undo_13 : decode cX10_undo 13 = .ok (.ireturn, 1) := by decide +kernel
theorem dX10_undo_14 : decode cX10_undo 14 = .ok (.aload_n 0, 1) := by decide +kernel
theorem dX10_undo_15 : decode cX10_undo 15 = .ok (.dup, 1) := by decide +kernel
theorem dX10_undo_16 : decode cX10_undo 16 = .ok (.getfield 104, 3) := by decide +kernel
theorem dX10_undo_19 : decode cX10_undo 19 = .ok (.iconst 1, 1) := by decide +kernel
theorem dX10_undo_20 : decode cX10_undo 20 = .ok (.isub, 1) := by decide +kernel
theorem dX10_undo_21 : decode cX10_undo 21 = .ok (.putfield 104, 3) := by decide +kernel
theorem dX10_undo_24 : decode cX10_undo 24 = .ok (.aload_n 0, 1) := by decide +kernel
theorem dX10_undo_25 : decode cX10_undo 25 = .ok (.iconst 3, 1) := by decide +kernel
theorem dX10_undo_26 : decode cX10_undo 26 = .ok (.aload_n 0, 1) := by decide +kernel
theorem dX10_undo_27 : decode cX10_undo 27 = .ok (.getfield 104, 3) := by decide +kernel
theorem dX10_undo_30 : decode cX10_undo 30 = .ok (.iadd, 1) := by decide +kernel
theorem dX10_undo_31 : decode cX10_undo 31 = .ok (.iconst 0, 1) := by decide +kernel
theorem dX10_undo_32 : decode cX10_undo 32 = .ok (.invokevirtual 178, 3) := by decide +kernel
theorem dX10_undo_35 : decode cX10_undo 35 = .ok (.aload_n 0, 1) := by decide +kernel
theorem dX10_undo_36 : decode cX10_undo 36 = .ok (.getfield 104, 3) := by decide +kernel
theorem dX10_undo_39 : decode cX10_undo 39 = .ok (.ireturn, 1) := by decide +kernel
theorem dX10_keep_0 : decode cX10_keep 0 = .ok (.aload_n 0, 1) := by decide +kernel
theorem dX10_keep_1 : decode cX10_keep 1 = .ok (.iconst 0, 1) := by decide +kernel
theorem dX10_keep_2 : decode cX10_keep 2 = .ok (.putfield 49, 3) := by decide +kernel
theorem dX10_keep_5 : decode cX10_keep 5 = .ok (.aload_n 0, 1) := by decide +kernel
theorem dX10_keep_6 : decode cX10_keep 6 = .ok (.iconst 0, 1) := by decide +kernel
theorem dX10_keep_7 : decode cX10_keep 7 = .ok (.iconst 2, 1) := by decide +kernel
theorem dX10_keep_8 : decode cX10_keep 8 = .ok (.invokevirtual 178, 3) := by decide +kernel
theorem dX10_keep_11 : decode cX10_keep 11 = .ok (.aload_n 0, 1) := by decide +kernel
theorem dX10_keep_12 : decode cX10_keep 12 = .ok (.iconst 1, 1) := by decide +kernel
theorem dX10_keep_13 : decode cX10_keep 13 = .ok (.putfield 107, 3) := by decide +kernel
theorem dX10_keep_16 : decode cX10_keep 16 = .ok (.aload_n 0, 1) := by decide +kernel
theorem dX10_keep_17 : decode cX10_keep 17 = .ok (.iconst 0, 1) := by decide +kernel
theorem dX10_keep_18 : decode cX10_keep 18 = .ok (.invokevirtual 174, 3) := by decide +kernel
theorem dX10_keep_21 : decode cX10_keep 21 = .ok (.ireturn, 1) := by decide +kernel
theorem dX10_back_0 : decode cX10_back 0 = .ok (.aload_n 0, 1) := by decide +kernel
theorem dX10_back_1 : decode cX10_back 1 = .ok (.iconst 0, 1) := by decide +kernel
theorem dX10_back_2 : decode cX10_back 2 = .ok (.putfield 49, 3) := by decide +kernel
theorem dX10_back_5 : decode cX10_back 5 = .ok (.aload_n 0, 1) := by decide +kernel
theorem dX10_back_6 : decode cX10_back 6 = .ok (.getfield 107, 3) := by decide +kernel
theorem dX10_back_9 : decode cX10_back 9 = .ok (.ifCond .ne 5, 3) := by decide +kernel
theorem dX10_back_12 : decode cX10_back 12 = .ok (.iconst (-1), 1) := by decide +kernel
theorem dX10_back_13 : decode cX10_back 13 = .ok (.ireturn, 1) := by decide +kernel
theorem dX10_back_14 : decode cX10_back 14 = .ok (.aload_n 0, 1) := by decide +kernel
theorem dX10_back_15 : decode cX10_back 15 = .ok (.iconst 2, 1) := by decide +kernel
theorem dX10_back_16 : decode cX10_back 16 = .ok (.iconst 0, 1) := by decide +kernel
theorem dX10_back_17 : decode cX10_back 17 = .ok (.invokevirtual 178, 3) := by decide +kernel
theorem dX10_back_20 : decode cX10_back 20 = .ok (.aload_n 0, 1) := by decide +kernel
theorem dX10_back_21 : decode cX10_back 21 = .ok (.iconst 0, 1) := by decide +kernel
theorem dX10_back_22 : decode cX10_back 22 = .ok (.putfield 104, 3) := by decide +kernel
theorem dX10_back_25 : decode cX10_back 25 = .ok (.aload_n 0, 1) := by decide +kernel
theorem dX10_back_26 : decode cX10_back 26 = .ok (.iconst 0, 1) := by decide +kernel
theorem dX10_back_27 : decode cX10_back 27 = .ok (.invokevirtual 174, 3) := by decide +kernel
theorem dX10_back_30 : decode cX10_back 30 = .ok (.ireturn, 1) := by decide +kernel
theorem dX10_year_0 : decode cX10_year 0 = .ok (.aload_n 0, 1) := by decide +kernel
theorem dX10_year_1 : decode cX10_year 1 = .ok (.iconst 0, 1) := by decide +kernel
theorem dX10_year_2 : decode cX10_year 2 = .ok (.invokevirtual 174, 3) := by decide +kernel
theorem dX10_year_5 : decode cX10_year 5 = .ok (.iconst 4, 1) := by decide +kernel
theorem dX10_year_6 : decode cX10_year 6 = .ok (.idiv, 1) := by decide +kernel
theorem dX10_year_7 : decode cX10_year 7 = .ok (.ireturn, 1) := by decide +kernel
theorem dX10_sumAt_0 : decode cX10_sumAt 0 = .ok (.iconst 1, 1) := by decide +kernel
theorem dX10_sumAt_1 : decode cX10_sumAt 1 = .ok (.sipush 320, 3) := by decide +kernel
theorem dX10_sumAt_4 : decode cX10_sumAt 4 = .ok (.iload_n 1, 1) := by decide +kernel
theorem dX10_sumAt_5 : decode cX10_sumAt 5 = .ok (.imul, 1) := by decide +kernel
theorem dX10_sumAt_6 : decode cX10_sumAt 6 = .ok (.iadd, 1) := by decide +kernel
theorem dX10_sumAt_7 : decode cX10_sumAt 7 = .ok (.iconst 5, 1) := by decide +kernel
theorem dX10_sumAt_8 : decode cX10_sumAt 8 = .ok (.iload_n 2, 1) := by decide +kernel
theorem dX10_sumAt_9 : decode cX10_sumAt 9 = .ok (.imul, 1) := by decide +kernel
theorem dX10_sumAt_10 : decode cX10_sumAt 10 = .ok (.iadd, 1) := by decide +kernel
theorem dX10_sumAt_11 : decode cX10_sumAt 11 = .ok (.iload_n 3, 1) := by decide +kernel
theorem dX10_sumAt_12 : decode cX10_sumAt 12 = .ok (.iadd, 1) := by decide +kernel
theorem dX10_sumAt_13 : decode cX10_sumAt 13 = .ok (.ireturn, 1) := by decide +kernel
theorem dX10_comesNow_0 : decode cX10_comesNow 0 = .ok (.aload_n 0, 1) := by decide +kernel
theorem dX10_comesNow_1 : decode cX10_comesNow 1 = .ok (.iconst 0, 1) := by decide +kernel
theorem dX10_comesNow_2 : decode cX10_comesNow 2 = .ok (.invokevirtual 174, 3) := by decide +kernel
theorem dX10_comesNow_5 : decode cX10_comesNow 5 = .ok (.istore_n 1, 1) := by decide +kernel
theorem dX10_comesNow_6 : decode cX10_comesNow 6 = .ok (.iconst 0, 1) := by decide +kernel
theorem dX10_comesNow_7 : decode cX10_comesNow 7 = .ok (.istore_n 2, 1) := by decide +kernel
theorem dX10_comesNow_8 : decode cX10_comesNow 8 = .ok (.iload_n 2, 1) := by decide +kernel
theorem dX10_comesNow_9 : decode cX10_comesNow 9 = .ok (.aload_n 0, 1) := by decide +kernel
theorem dX10_comesNow_10 : decode cX10_comesNow 10 = .ok (.getfield 32, 3) := by decide +kernel
theorem dX10_comesNow_13 : decode cX10_comesNow 13 = .ok (.iconst 4, 1) := by decide +kernel
theorem dX10_comesNow_14 : decode cX10_comesNow 14 = .ok (.iaload, 1) := by decide +kernel
theorem dX10_comesNow_15 : decode cX10_comesNow 15 = .ok (.if_icmp .ge 60, 3) := by decide +kernel
theorem dX10_comesNow_18 : decode cX10_comesNow 18 = .ok (.aload_n 0, 1) := by decide +kernel
theorem dX10_comesNow_19 : decode cX10_comesNow 19 = .ok (.getfield 23, 3) := by decide +kernel
theorem dX10_comesNow_22 : decode cX10_comesNow 22 = .ok (.iconst 4, 1) := by decide +kernel
theorem dX10_comesNow_23 : decode cX10_comesNow 23 = .ok (.iload_n 2, 1) := by decide +kernel
theorem dX10_comesNow_24 : decode cX10_comesNow 24 = .ok (.imul, 1) := by decide +kernel
theorem dX10_comesNow_25 : decode cX10_comesNow 25 = .ok (.iconst 1, 1) := by decide +kernel
theorem dX10_comesNow_26 : decode cX10_comesNow 26 = .ok (.iadd, 1) := by decide +kernel
theorem dX10_comesNow_27 : decode cX10_comesNow 27 = .ok (.iaload, 1) := by decide +kernel
theorem dX10_comesNow_28 : decode cX10_comesNow 28 = .ok (.iload_n 1, 1) := by decide +kernel
theorem dX10_comesNow_29 : decode cX10_comesNow 29 = .ok (.if_icmp .ne 40, 3) := by decide +kernel
theorem dX10_comesNow_32 : decode cX10_comesNow 32 = .ok (.aload_n 0, 1) := by decide +kernel
theorem dX10_comesNow_33 : decode cX10_comesNow 33 = .ok (.aload_n 0, 1) := by decide +kernel
theorem dX10_comesNow_34 : decode cX10_comesNow 34 = .ok (.aload_n 0, 1) := by decide +kernel
theorem dX10_comesNow_35 : decode cX10_comesNow 35 = .ok (.getfield 23, 3) := by decide +kernel
theorem dX10_comesNow_38 : decode cX10_comesNow 38 = .ok (.iconst 4, 1) := by decide +kernel
theorem dX10_comesNow_39 : decode cX10_comesNow 39 = .ok (.iload_n 2, 1) := by decide +kernel
theorem dX10_comesNow_40 : decode cX10_comesNow 40 = .ok (.imul, 1) := by decide +kernel
theorem dX10_comesNow_41 : decode cX10_comesNow 41 = .ok (.iaload, 1) := by decide +kernel
theorem dX10_comesNow_42 : decode cX10_comesNow 42 = .ok (.iload_n 1, 1) := by decide +kernel
theorem dX10_comesNow_43 : decode cX10_comesNow 43 = .ok (.aload_n 0, 1) := by decide +kernel
theorem dX10_comesNow_44 : decode cX10_comesNow 44 = .ok (.getfield 23, 3) := by decide +kernel
theorem dX10_comesNow_47 : decode cX10_comesNow 47 = .ok (.iconst 4, 1) := by decide +kernel
theorem dX10_comesNow_48 : decode cX10_comesNow 48 = .ok (.iload_n 2, 1) := by decide +kernel
theorem dX10_comesNow_49 : decode cX10_comesNow 49 = .ok (.imul, 1) := by decide +kernel
theorem dX10_comesNow_50 : decode cX10_comesNow 50 = .ok (.iconst 2, 1) := by decide +kernel
theorem dX10_comesNow_51 : decode cX10_comesNow 51 = .ok (.iadd, 1) := by decide +kernel
theorem dX10_comesNow_52 : decode cX10_comesNow 52 = .ok (.iaload, 1) := by decide +kernel
theorem dX10_comesNow_53 : decode cX10_comesNow 53 = .ok (.invokevirtual 181, 3) := by decide +kernel
theorem dX10_comesNow_56 : decode cX10_comesNow 56 = .ok (.aload_n 0, 1) := by decide +kernel
theorem dX10_comesNow_57 : decode cX10_comesNow 57 = .ok (.getfield 23, 3) := by decide +kernel
theorem dX10_comesNow_60 : decode cX10_comesNow 60 = .ok (.iconst 4, 1) := by decide +kernel
theorem dX10_comesNow_61 : decode cX10_comesNow 61 = .ok (.iload_n 2, 1) := by decide +kernel
theorem dX10_comesNow_62 : decode cX10_comesNow 62 = .ok (.imul, 1) := by decide +kernel
theorem dX10_comesNow_63 : decode cX10_comesNow 63 = .ok (.iconst 3, 1) := by decide +kernel
theorem dX10_comesNow_64 : decode cX10_comesNow 64 = .ok (.iadd, 1) := by decide +kernel
theorem dX10_comesNow_65 : decode cX10_comesNow 65 = .ok (.iaload, 1) := by decide +kernel
theorem dX10_comesNow_66 : decode cX10_comesNow 66 = .ok (.invokevirtual 184, 3) := by decide +kernel
theorem dX10_comesNow_69 : decode cX10_comesNow 69 = .ok (.iinc 2 1, 3) := by decide +kernel
theorem dX10_comesNow_72 : decode cX10_comesNow 72 = .ok (.goto (-64), 3) := by decide +kernel
theorem dX10_comesNow_75 : decode cX10_comesNow 75 = .ok (.iconst 0, 1) := by decide +kernel
theorem dX10_comesNow_76 : decode cX10_comesNow 76 = .ok (.istore_n 2, 1) := by decide +kernel
theorem dX10_comesNow_77 : decode cX10_comesNow 77 = .ok (.iload_n 2, 1) := by decide +kernel
theorem dX10_comesNow_78 : decode cX10_comesNow 78 = .ok (.aload_n 0, 1) := by decide +kernel
theorem dX10_comesNow_79 : decode cX10_comesNow 79 = .ok (.getfield 32, 3) := by decide +kernel
theorem dX10_comesNow_82 : decode cX10_comesNow 82 = .ok (.iconst 5, 1) := by decide +kernel
theorem dX10_comesNow_83 : decode cX10_comesNow 83 = .ok (.iaload, 1) := by decide +kernel
theorem dX10_comesNow_84 : decode cX10_comesNow 84 = .ok (.if_icmp .ge 62, 3) := by decide +kernel
theorem dX10_comesNow_87 : decode cX10_comesNow 87 = .ok (.aload_n 0, 1) := by decide +kernel
theorem dX10_comesNow_88 : decode cX10_comesNow 88 = .ok (.getfield 26, 3) := by decide +kernel
theorem dX10_comesNow_91 : decode cX10_comesNow 91 = .ok (.iconst 4, 1) := by decide +kernel
theorem dX10_comesNow_92 : decode cX10_comesNow 92 = .ok (.iload_n 2, 1) := by decide +kernel
theorem dX10_comesNow_93 : decode cX10_comesNow 93 = .ok (.imul, 1) := by decide +kernel
theorem dX10_comesNow_94 : decode cX10_comesNow 94 = .ok (.iconst 1, 1) := by decide +kernel
theorem dX10_comesNow_95 : decode cX10_comesNow 95 = .ok (.iadd, 1) := by decide +kernel
theorem dX10_comesNow_96 : decode cX10_comesNow 96 = .ok (.iaload, 1) := by decide +kernel
theorem dX10_comesNow_97 : decode cX10_comesNow 97 = .ok (.iload_n 1, 1) := by decide +kernel
theorem dX10_comesNow_98 : decode cX10_comesNow 98 = .ok (.if_icmp .ne 42, 3) := by decide +kernel
theorem dX10_comesNow_101 : decode cX10_comesNow 101 = .ok (.aload_n 0, 1) := by decide +kernel
theorem dX10_comesNow_102 : decode cX10_comesNow 102 = .ok (.aload_n 0, 1) := by decide +kernel
theorem dX10_comesNow_103 : decode cX10_comesNow 103 = .ok (.aload_n 0, 1) := by decide +kernel
theorem dX10_comesNow_104 : decode cX10_comesNow 104 = .ok (.getfield 26, 3) := by decide +kernel
theorem dX10_comesNow_107 : decode cX10_comesNow 107 = .ok (.iconst 4, 1) := by decide +kernel
theorem dX10_comesNow_108 : decode cX10_comesNow 108 = .ok (.iload_n 2, 1) := by decide +kernel
theorem dX10_comesNow_109 : decode cX10_comesNow 109 = .ok (.imul, 1) := by decide +kernel
theorem dX10_comesNow_110 : decode cX10_comesNow 110 = .ok (.iaload, 1) := by decide +kernel
theorem dX10_comesNow_111 : decode cX10_comesNow 111 = .ok (.iload_n 1, 1) := by decide +kernel
theorem dX10_comesNow_112 : decode cX10_comesNow 112 = .ok (.iconst 2, 1) := by decide +kernel
theorem dX10_comesNow_113 : decode cX10_comesNow 113 = .ok (.aload_n 0, 1) := by decide +kernel
theorem dX10_comesNow_114 : decode cX10_comesNow 114 = .ok (.getfield 26, 3) := by decide +kernel
theorem dX10_comesNow_117 : decode cX10_comesNow 117 = .ok (.iconst 4, 1) := by decide +kernel
theorem dX10_comesNow_118 : decode cX10_comesNow 118 = .ok (.iload_n 2, 1) := by decide +kernel
theorem dX10_comesNow_119 : decode cX10_comesNow 119 = .ok (.imul, 1) := by decide +kernel
theorem dX10_comesNow_120 : decode cX10_comesNow 120 = .ok (.iconst 2, 1) := by decide +kernel
theorem dX10_comesNow_121 : decode cX10_comesNow 121 = .ok (.iadd, 1) := by decide +kernel
theorem dX10_comesNow_122 : decode cX10_comesNow 122 = .ok (.iaload, 1) := by decide +kernel
theorem dX10_comesNow_123 : decode cX10_comesNow 123 = .ok (.iadd, 1) := by decide +kernel
theorem dX10_comesNow_124 : decode cX10_comesNow 124 = .ok (.invokevirtual 181, 3) := by decide +kernel
theorem dX10_comesNow_127 : decode cX10_comesNow 127 = .ok (.aload_n 0, 1) := by decide +kernel
theorem dX10_comesNow_128 : decode cX10_comesNow 128 = .ok (.getfield 26, 3) := by decide +kernel
theorem dX10_comesNow_131 : decode cX10_comesNow 131 = .ok (.iconst 4, 1) := by decide +kernel
theorem dX10_comesNow_132 : decode cX10_comesNow 132 = .ok (.iload_n 2, 1) := by decide +kernel
theorem dX10_comesNow_133 : decode cX10_comesNow 133 = .ok (.imul, 1) := by decide +kernel
theorem dX10_comesNow_134 : decode cX10_comesNow 134 = .ok (.iconst 3, 1) := by decide +kernel
theorem dX10_comesNow_135 : decode cX10_comesNow 135 = .ok (.iadd, 1) := by decide +kernel
theorem dX10_comesNow_136 : decode cX10_comesNow 136 = .ok (.iaload, 1) := by decide +kernel
theorem dX10_comesNow_137 : decode cX10_comesNow 137 = .ok (.invokevirtual 184, 3) := by decide +kernel
theorem dX10_comesNow_140 : decode cX10_comesNow 140 = .ok (.iinc 2 1, 3) := by decide +kernel
theorem dX10_comesNow_143 : decode cX10_comesNow 143 = .ok (.goto (-66), 3) := by decide +kernel
theorem dX10_comesNow_146 : decode cX10_comesNow 146 = .ok (.iconst 0, 1) := by decide +kernel
theorem dX10_comesNow_147 : decode cX10_comesNow 147 = .ok (.istore_n 2, 1) := by decide +kernel
theorem dX10_comesNow_148 : decode cX10_comesNow 148 = .ok (.iload_n 2, 1) := by decide +kernel
theorem dX10_comesNow_149 : decode cX10_comesNow 149 = .ok (.aload_n 0, 1) := by decide +kernel
theorem dX10_comesNow_150 : decode cX10_comesNow 150 = .ok (.getfield 32, 3) := by decide +kernel
theorem dX10_comesNow_153 : decode cX10_comesNow 153 = .ok (.bipush 6, 2) := by decide +kernel
theorem dX10_comesNow_155 : decode cX10_comesNow 155 = .ok (.iaload, 1) := by decide +kernel
theorem dX10_comesNow_156 : decode cX10_comesNow 156 = .ok (.if_icmp .ge 78, 3) := by decide +kernel
theorem dX10_comesNow_159 : decode cX10_comesNow 159 = .ok (.aload_n 0, 1) := by decide +kernel
theorem dX10_comesNow_160 : decode cX10_comesNow 160 = .ok (.getfield 29, 3) := by decide +kernel
theorem dX10_comesNow_163 : decode cX10_comesNow 163 = .ok (.iconst 5, 1) := by decide +kernel
theorem dX10_comesNow_164 : decode cX10_comesNow 164 = .ok (.iload_n 2, 1) := by decide +kernel
theorem dX10_comesNow_165 : decode cX10_comesNow 165 = .ok (.imul, 1) := by decide +kernel
theorem dX10_comesNow_166 : decode cX10_comesNow 166 = .ok (.iconst 1, 1) := by decide +kernel
theorem dX10_comesNow_167 : decode cX10_comesNow 167 = .ok (.iadd, 1) := by decide +kernel
theorem dX10_comesNow_168 : decode cX10_comesNow 168 = .ok (.iaload, 1) := by decide +kernel
theorem dX10_comesNow_169 : decode cX10_comesNow 169 = .ok (.iload_n 1, 1) := by decide +kernel
theorem dX10_comesNow_170 : decode cX10_comesNow 170 = .ok (.if_icmp .ne 58, 3) := by decide +kernel
theorem dX10_comesNow_173 : decode cX10_comesNow 173 = .ok (.aload_n 0, 1) := by decide +kernel
theorem dX10_comesNow_174 : decode cX10_comesNow 174 = .ok (.sipush 1865, 3) := by decide +kernel
theorem dX10_comesNow_177 : decode cX10_comesNow 177 = .ok (.invokevirtual 174, 3) := by decide +kernel
theorem dX10_comesNow_180 : decode cX10_comesNow 180 = .ok (.bipush 8, 2) := by decide +kernel
theorem dX10_comesNow_182 : decode cX10_comesNow 182 = .ok (.if_icmp .ge 46, 3) := by decide +kernel
theorem dX10_comesNow_185 : decode cX10_comesNow 185 = .ok (.aload_n 0, 1) := by decide +kernel
theorem dX10_comesNow_186 : decode cX10_comesNow 186 = .ok (.aload_n 0, 1) := by decide +kernel
theorem dX10_comesNow_187 : decode cX10_comesNow 187 = .ok (.getfield 29, 3) := by decide +kernel
theorem dX10_comesNow_190 : decode cX10_comesNow 190 = .ok (.iconst 5, 1) := by decide +kernel
theorem dX10_comesNow_191 : decode cX10_comesNow 191 = .ok (.iload_n 2, 1) := by decide +kernel
theorem dX10_comesNow_192 : decode cX10_comesNow 192 = .ok (.imul, 1) := by decide +kernel
theorem dX10_comesNow_193 : decode cX10_comesNow 193 = .ok (.iaload, 1) := by decide +kernel
theorem dX10_comesNow_194 : decode cX10_comesNow 194 = .ok (.aload_n 0, 1) := by decide +kernel
theorem dX10_comesNow_195 : decode cX10_comesNow 195 = .ok (.getfield 29, 3) := by decide +kernel
theorem dX10_comesNow_198 : decode cX10_comesNow 198 = .ok (.iconst 5, 1) := by decide +kernel
theorem dX10_comesNow_199 : decode cX10_comesNow 199 = .ok (.iload_n 2, 1) := by decide +kernel
theorem dX10_comesNow_200 : decode cX10_comesNow 200 = .ok (.imul, 1) := by decide +kernel
theorem dX10_comesNow_201 : decode cX10_comesNow 201 = .ok (.iconst 2, 1) := by decide +kernel
theorem dX10_comesNow_202 : decode cX10_comesNow 202 = .ok (.iadd, 1) := by decide +kernel
theorem dX10_comesNow_203 : decode cX10_comesNow 203 = .ok (.iaload, 1) := by decide +kernel
theorem dX10_comesNow_204 : decode cX10_comesNow 204 = .ok (.aload_n 0, 1) := by decide +kernel
theorem dX10_comesNow_205 : decode cX10_comesNow 205 = .ok (.getfield 29, 3) := by decide +kernel
theorem dX10_comesNow_208 : decode cX10_comesNow 208 = .ok (.iconst 5, 1) := by decide +kernel
theorem dX10_comesNow_209 : decode cX10_comesNow 209 = .ok (.iload_n 2, 1) := by decide +kernel
theorem dX10_comesNow_210 : decode cX10_comesNow 210 = .ok (.imul, 1) := by decide +kernel
theorem dX10_comesNow_211 : decode cX10_comesNow 211 = .ok (.iconst 3, 1) := by decide +kernel
theorem dX10_comesNow_212 : decode cX10_comesNow 212 = .ok (.iadd, 1) := by decide +kernel
theorem dX10_comesNow_213 : decode cX10_comesNow 213 = .ok (.iaload, 1) := by decide +kernel
theorem dX10_comesNow_214 : decode cX10_comesNow 214 = .ok (.aload_n 0, 1) := by decide +kernel
theorem dX10_comesNow_215 : decode cX10_comesNow 215 = .ok (.getfield 29, 3) := by decide +kernel
theorem dX10_comesNow_218 : decode cX10_comesNow 218 = .ok (.iconst 5, 1) := by decide +kernel
theorem dX10_comesNow_219 : decode cX10_comesNow 219 = .ok (.iload_n 2, 1) := by decide +kernel
theorem dX10_comesNow_220 : decode cX10_comesNow 220 = .ok (.imul, 1) := by decide +kernel
theorem dX10_comesNow_221 : decode cX10_comesNow 221 = .ok (.iconst 4, 1) := by decide +kernel
theorem dX10_comesNow_222 : decode cX10_comesNow 222 = .ok (.iadd, 1) := by decide +kernel
theorem dX10_comesNow_223 : decode cX10_comesNow 223 = .ok (.iaload, 1) := by decide +kernel
theorem dX10_comesNow_224 : decode cX10_comesNow 224 = .ok (.invokevirtual 187, 3) := by decide +kernel
theorem dX10_comesNow_227 : decode cX10_comesNow 227 = .ok (.pop, 1) := by decide +kernel
theorem dX10_comesNow_228 : decode cX10_comesNow 228 = .ok (.iinc 2 1, 3) := by decide +kernel
theorem dX10_comesNow_231 : decode cX10_comesNow 231 = .ok (.goto (-83), 3) := by decide +kernel
theorem dX10_comesNow_234 : decode cX10_comesNow 234 = .ok (.return_, 1) := by decide +kernel
theorem dX10_acquires_0 : decode cX10_acquires 0 = .ok (.aload_n 0, 1) := by decide +kernel
theorem dX10_acquires_1 : decode cX10_acquires 1 = .ok (.sipush 1865, 3) := by decide +kernel
theorem dX10_acquires_4 : decode cX10_acquires 4 = .ok (.invokevirtual 174, 3) := by decide +kernel
theorem dX10_acquires_7 : decode cX10_acquires 7 = .ok (.istore 5, 2) := by decide +kernel
theorem dX10_acquires_9 : decode cX10_acquires 9 = .ok (.iconst 0, 1) := by decide +kernel
theorem dX10_acquires_10 : decode cX10_acquires 10 = .ok (.istore 6, 2) := by decide +kernel
theorem dX10_acquires_12 : decode cX10_acquires 12 = .ok (.iload 6, 2) := by decide +kernel
theorem dX10_acquires_14 : decode cX10_acquires 14 = .ok (.bipush 48, 2) := by decide +kernel
theorem dX10_acquires_16 : decode cX10_acquires 16 = .ok (.if_icmp .ge 18, 3) := by decide +kernel
theorem dX10_acquires_19 : decode cX10_acquires 19 = .ok (.aload_n 0, 1) := by decide +kernel
theorem dX10_acquires_20 : decode cX10_acquires 20 = .ok (.iload 5, 2) := by decide +kernel
theorem dX10_acquires_22 : decode cX10_acquires 22 = .ok (.iload 6, 2) := by decide +kernel
theorem dX10_acquires_24 : decode cX10_acquires 24 = .ok (.iconst 0, 1) := by decide +kernel
theorem dX10_acquires_25 : decode cX10_acquires 25 = .ok (.invokevirtual 191, 3) := by decide +kernel
theorem dX10_acquires_28 : decode cX10_acquires 28 = .ok (.iinc 6 1, 3) := by decide +kernel
theorem dX10_acquires_31 : decode cX10_acquires 31 = .ok (.goto (-19), 3) := by decide +kernel
theorem dX10_acquires_34 : decode cX10_acquires 34 = .ok (.aload_n 0, 1) := by decide +kernel
theorem dX10_acquires_35 : decode cX10_acquires 35 = .ok (.iload 5, 2) := by decide +kernel
theorem dX10_acquires_37 : decode cX10_acquires 37 = .ok (.iconst 0, 1) := by decide +kernel
theorem dX10_acquires_38 : decode cX10_acquires 38 = .ok (.iload_n 1, 1) := by decide +kernel
theorem dX10_acquires_39 : decode cX10_acquires 39 = .ok (.invokevirtual 191, 3) := by decide +kernel
theorem dX10_acquires_42 : decode cX10_acquires 42 = .ok (.aload_n 0, 1) := by decide +kernel
theorem dX10_acquires_43 : decode cX10_acquires 43 = .ok (.iload 5, 2) := by decide +kernel
theorem dX10_acquires_45 : decode cX10_acquires 45 = .ok (.iconst 1, 1) := by decide +kernel
theorem dX10_acquires_46 : decode cX10_acquires 46 = .ok (.iload_n 1, 1) := by decide +kernel
theorem dX10_acquires_47 : decode cX10_acquires 47 = .ok (.invokevirtual 191, 3) := by decide +kernel
theorem dX10_acquires_50 : decode cX10_acquires 50 = .ok (.aload_n 0, 1) := by decide +kernel
theorem dX10_acquires_51 : decode cX10_acquires 51 = .ok (.iload 5, 2) := by decide +kernel
theorem dX10_acquires_53 : decode cX10_acquires 53 = .ok (.iconst 2, 1) := by decide +kernel
theorem dX10_acquires_54 : decode cX10_acquires 54 = .ok (.iload_n 2, 1) := by decide +kernel
theorem dX10_acquires_55 : decode cX10_acquires 55 = .ok (.invokevirtual 191, 3) := by decide +kernel
theorem dX10_acquires_58 : decode cX10_acquires 58 = .ok (.aload_n 0, 1) := by decide +kernel
theorem dX10_acquires_59 : decode cX10_acquires 59 = .ok (.iload 5, 2) := by decide +kernel
theorem dX10_acquires_61 : decode cX10_acquires 61 = .ok (.iconst 3, 1) := by decide +kernel
theorem dX10_acquires_62 : decode cX10_acquires 62 = .ok (.iload_n 3, 1) := by decide +kernel
theorem dX10_acquires_63 : decode cX10_acquires 63 = .ok (.invokevirtual 191, 3) := by decide +kernel
theorem dX10_acquires_66 : decode cX10_acquires 66 = .ok (.aload_n 0, 1) := by decide +kernel
theorem dX10_acquires_67 : decode cX10_acquires 67 = .ok (.iload 5, 2) := by decide +kernel
theorem dX10_acquires_69 : decode cX10_acquires 69 = .ok (.iconst 4, 1) := by decide +kernel
theorem dX10_acquires_70 : decode cX10_acquires 70 = .ok (.iload 4, 2) := by decide +kernel
theorem dX10_acquires_72 : decode cX10_acquires 72 = .ok (.invokevirtual 191, 3) := by decide +kernel
theorem dX10_acquires_75 : decode cX10_acquires 75 = .ok (.aload_n 0, 1) := by decide +kernel
theorem dX10_acquires_76 : decode cX10_acquires 76 = .ok (.iload 5, 2) := by decide +kernel
theorem dX10_acquires_78 : decode cX10_acquires 78 = .ok (.iconst 5, 1) := by decide +kernel
theorem dX10_acquires_79 : decode cX10_acquires 79 = .ok (.aload_n 0, 1) := by decide +kernel
theorem dX10_acquires_80 : decode cX10_acquires 80 = .ok (.iconst 0, 1) := by decide +kernel
theorem dX10_acquires_81 : decode cX10_acquires 81 = .ok (.invokevirtual 174, 3) := by decide +kernel
theorem dX10_acquires_84 : decode cX10_acquires 84 = .ok (.invokevirtual 191, 3) := by decide +kernel
theorem dX10_acquires_87 : decode cX10_acquires 87 = .ok (.aload_n 0, 1) := by decide +kernel
theorem dX10_acquires_88 : decode cX10_acquires 88 = .ok (.aload_n 0, 1) := by decide +kernel
theorem dX10_acquires_89 : decode cX10_acquires 89 = .ok (.iload_n 1, 1) := by decide +kernel
theorem dX10_acquires_90 : decode cX10_acquires 90 = .ok (.aload_n 0, 1) := by decide +kernel
theorem dX10_acquires_91 : decode cX10_acquires 91 = .ok (.iconst 0, 1) := by decide +kernel
theorem dX10_acquires_92 : decode cX10_acquires 92 = .ok (.invokevirtual 174, 3) := by decide +kernel
theorem dX10_acquires_95 : decode cX10_acquires 95 = .ok (.iconst 2, 1) := by decide +kernel
theorem dX10_acquires_96 : decode cX10_acquires 96 = .ok (.iload_n 2, 1) := by decide +kernel
theorem dX10_acquires_97 : decode cX10_acquires 97 = .ok (.iadd, 1) := by decide +kernel
theorem dX10_acquires_98 : decode cX10_acquires 98 = .ok (.invokevirtual 181, 3) := by decide +kernel
theorem dX10_acquires_101 : decode cX10_acquires 101 = .ok (.iload_n 3, 1) := by decide +kernel
theorem dX10_acquires_102 : decode cX10_acquires 102 = .ok (.invokevirtual 184, 3) := by decide +kernel
theorem dX10_acquires_105 : decode cX10_acquires 105 = .ok (.aload_n 0, 1) := by decide +kernel
theorem dX10_acquires_106 : decode cX10_acquires 106 = .ok (.sipush 1865, 3) := by decide +kernel
theorem dX10_acquires_109 : decode cX10_acquires 109 = .ok (.iload 5, 2) := by decide +kernel
theorem dX10_acquires_111 : decode cX10_acquires 111 = .ok (.iconst 1, 1) := by decide +kernel
theorem dX10_acquires_112 : decode cX10_acquires 112 = .ok (.iadd, 1) := by decide +kernel
theorem dX10_acquires_113 : decode cX10_acquires 113 = .ok (.invokevirtual 111, 3) := by decide +kernel
theorem dX10_acquires_116 : decode cX10_acquires 116 = .ok (.iload 5, 2) := by decide +kernel
theorem dX10_acquires_118 : decode cX10_acquires 118 = .ok (.ireturn, 1) := by decide +kernel
theorem dX10_quotient_0 : decode cX10_quotient 0 = .ok (.lload_n 0, 1) := by decide +kernel
theorem dX10_quotient_1 : decode cX10_quotient 1 = .ok (.lload_n 2, 1) := by decide +kernel
theorem dX10_quotient_2 : decode cX10_quotient 2 = .ok (.ldiv, 1) := by decide +kernel
theorem dX10_quotient_3 : decode cX10_quotient 3 = .ok (.lstore 4, 2) := by decide +kernel
theorem dX10_quotient_5 : decode cX10_quotient 5 = .ok (.lload_n 0, 1) := by decide +kernel
theorem dX10_quotient_6 : decode cX10_quotient 6 = .ok (.lload_n 2, 1) := by decide +kernel
theorem dX10_quotient_7 : decode cX10_quotient 7 = .ok (.lrem, 1) := by decide +kernel
theorem dX10_quotient_8 : decode cX10_quotient 8 = .ok (.lconst 0, 1) := by decide +kernel
theorem dX10_quotient_9 : decode cX10_quotient 9 = .ok (.lcmp, 1) := by decide +kernel
theorem dX10_quotient_10 : decode cX10_quotient 10 = .ok (.ifCond .ge 10, 3) := by decide +kernel
theorem dX10_quotient_13 : decode cX10_quotient 13 = .ok (.lload 4, 2) := by decide +kernel
theorem dX10_quotient_15 : decode cX10_quotient 15 = .ok (.lconst 1, 1) := by decide +kernel
theorem dX10_quotient_16 : decode cX10_quotient 16 = .ok (.lsub, 1) := by decide +kernel
theorem dX10_quotient_17 : decode cX10_quotient 17 = .ok (.goto 5, 3) := by decide +kernel
theorem dX10_quotient_20 : decode cX10_quotient 20 = .ok (.lload 4, 2) := by decide +kernel
theorem dX10_quotient_22 : decode cX10_quotient 22 = .ok (.lreturn, 1) := by decide +kernel
theorem dX10_cutBy_0 : decode cX10_cutBy 0 = .ok (.iload_n 0, 1) := by decide +kernel
theorem dX10_cutBy_1 : decode cX10_cutBy 1 = .ok (.ifCond .ne 11, 3) := by decide +kernel
theorem dX10_cutBy_4 : decode cX10_cutBy 4 = .ok (.lload_n 1, 1) := by decide +kernel
theorem dX10_cutBy_5 : decode cX10_cutBy 5 = .ok (.lload_n 3, 1) := by decide +kernel
theorem dX10_cutBy_6 : decode cX10_cutBy 6 = .ok (.invokestatic 195, 3) := by decide +kernel
theorem dX10_cutBy_9 : decode cX10_cutBy 9 = .ok (.goto 33, 3) := by decide +kernel
theorem dX10_cutBy_12 : decode cX10_cutBy 12 = .ok (.iload_n 0, 1) := by decide +kernel
theorem dX10_cutBy_13 : decode cX10_cutBy 13 = .ok (.iconst 1, 1) := by decide +kernel
theorem dX10_cutBy_14 : decode cX10_cutBy 14 = .ok (.if_icmp .ne 13, 3) := by decide +kernel
theorem dX10_cutBy_17 : decode cX10_cutBy 17 = .ok (.lload_n 1, 1) := by decide +kernel
theorem dX10_cutBy_18 : decode cX10_cutBy 18 = .ok (.lneg, 1) := by decide +kernel
theorem dX10_cutBy_19 : decode cX10_cutBy 19 = .ok (.lload_n 3, 1) := by decide +kernel
theorem dX10_cutBy_20 : decode cX10_cutBy 20 = .ok (.invokestatic 195, 3) := by decide +kernel
theorem dX10_cutBy_23 : decode cX10_cutBy 23 = .ok (.lneg, 1) := by decide +kernel
theorem dX10_cutBy_24 : decode cX10_cutBy 24 = .ok (.goto 18, 3) := by decide +kernel
theorem dX10_cutBy_27 : decode cX10_cutBy 27 = .ok (.ldc2_w 199, 3) := by decide +kernel
theorem dX10_cutBy_30 : decode cX10_cutBy 30 = .ok (.lload_n 1, 1) := by decide +kernel
theorem dX10_cutBy_31 : decode cX10_cutBy 31 = .ok (.lmul, 1) := by decide +kernel
theorem dX10_cutBy_32 : decode cX10_cutBy 32 = .ok (.lload_n 3, 1) := by decide +kernel
theorem dX10_cutBy_33 : decode cX10_cutBy 33 = .ok (.ladd, 1) := by decide +kernel
theorem dX10_cutBy_34 : decode cX10_cutBy 34 = .ok (.ldc2_w 199, 3) := by decide +kernel
theorem dX10_cutBy_37 : decode cX10_cutBy 37 = .ok (.lload_n 3, 1) := by decide +kernel
theorem dX10_cutBy_38 : decode cX10_cutBy 38 = .ok (.lmul, 1) := by decide +kernel
theorem dX10_cutBy_39 : decode cX10_cutBy 39 = .ok (.invokestatic 195, 3) := by decide +kernel
theorem dX10_cutBy_42 : decode cX10_cutBy 42 = .ok (.lreturn, 1) := by decide +kernel
theorem dX10_cut_0 : decode cX10_cut 0 = .ok (.aload_n 0, 1) := by decide +kernel
theorem dX10_cut_1 : decode cX10_cut 1 = .ok (.getfield 32, 3) := by decide +kernel
theorem dX10_cut_4 : decode cX10_cut 4 = .ok (.iconst 0, 1) := by decide +kernel
theorem dX10_cut_5 : decode cX10_cut 5 = .ok (.iaload, 1) := by decide +kernel
theorem dX10_cut_6 : decode cX10_cut 6 = .ok (.lload_n 1, 1) := by decide +kernel
theorem dX10_cut_7 : decode cX10_cut 7 = .ok (.lload_n 3, 1) := by decide +kernel
theorem dX10_cut_8 : decode cX10_cut 8 = .ok (.invokestatic 201, 3) := by decide +kernel
theorem dX10_cut_11 : decode cX10_cut 11 = .ok (.lreturn, 1) := by decide +kernel
theorem dX10_layNone_0 : decode cX10_layNone 0 = .ok (.iconst 0, 1) := by decide +kernel
theorem dX10_layNone_1 : decode cX10_layNone 1 = .ok (.istore_n 1, 1) := by decide +kernel
theorem dX10_layNone_2 : decode cX10_layNone 2 = .ok (.iload_n 1, 1) := by decide +kernel
theorem dX10_layNone_3 : decode cX10_layNone 3 = .ok (.iconst 5, 1) := by decide +kernel
theorem dX10_layNone_4 : decode cX10_layNone 4 = .ok (.if_icmp .ge 16, 3) := by decide +kernel
theorem dX10_layNone_7 : decode cX10_layNone 7 = .ok (.aload_n 0, 1) := by decide +kernel
theorem dX10_layNone_8 : decode cX10_layNone 8 = .ok (.getfield 39, 3) := by decide +kernel
theorem dX10_layNone_11 : decode cX10_layNone 11 = .ok (.iload_n 1, 1) := by decide +kernel
theorem dX10_layNone_12 : decode cX10_layNone 12 = .ok (.lconst 0, 1) := by decide +kernel
theorem dX10_layNone_13 : decode cX10_layNone 13 = .ok (.lastore, 1) := by decide +kernel
theorem dX10_layNone_14 : decode cX10_layNone 14 = .ok (.iinc 1 1, 3) := by decide +kernel
theorem dX10_layNone_17 : decode cX10_layNone 17 = .ok (.goto (-15), 3) := by decide +kernel
theorem dX10_layNone_20 : decode cX10_layNone 20 = .ok (.aload_n 0, 1) := by decide +kernel
theorem dX10_layNone_21 : decode cX10_layNone 21 = .ok (.lconst 0, 1) := by decide +kernel
theorem dX10_layNone_22 : decode cX10_layNone 22 = .ok (.putfield 205, 3) := by decide +kernel
theorem dX10_layNone_25 : decode cX10_layNone 25 = .ok (.aload_n 0, 1) := by decide +kernel
theorem dX10_layNone_26 : decode cX10_layNone 26 = .ok (.lconst 0, 1) := by decide +kernel
theorem dX10_layNone_27 : decode cX10_layNone 27 = .ok (.putfield 209, 3) := by decide +kernel
theorem dX10_layNone_30 : decode cX10_layNone 30 = .ok (.return_, 1) := by decide +kernel
theorem dX10_addQuarter_0 : decode cX10_addQuarter 0 = .ok (.iconst 0, 1) := by decide +kernel
theorem dX10_addQuarter_1 : decode cX10_addQuarter 1 = .ok (.istore_n 3, 1) := by decide +kernel
theorem dX10_addQuarter_2 : decode cX10_addQuarter 2 = .ok (.iload_n 3, 1) := by decide +kernel
theorem dX10_addQuarter_3 : decode cX10_addQuarter 3 = .ok (.iconst 5, 1) := by decide +kernel
theorem dX10_addQuarter_4 : decode cX10_addQuarter 4 = .ok (.if_icmp .ge 30, 3) := by decide +kernel
theorem dX10_addQuarter_7 : decode cX10_addQuarter 7 = .ok (.aload_n 0, 1) := by decide +kernel
theorem dX10_addQuarter_8 : decode cX10_addQuarter 8 = .ok (.getfield 39, 3) := by decide +kernel
theorem dX10_addQuarter_11 : decode cX10_addQuarter 11 = .ok (.iload_n 3, 1) := by decide +kernel
theorem dX10_addQuarter_12 : decode cX10_addQuarter 12 = .ok (.dup2, 1) := by decide +kernel
theorem dX10_addQuarter_13 : decode cX10_addQuarter 13 = .ok (.laload, 1) := by decide +kernel
theorem dX10_addQuarter_14 : decode cX10_addQuarter 14 = .ok (.aload_n 0, 1) := by decide +kernel
theorem dX10_addQuarter_15 : decode cX10_addQuarter 15 = .ok (.aload_n 0, 1) := by decide +kernel
theorem dX10_addQuarter_16 : decode cX10_addQuarter 16 = .ok (.iload_n 1, 1) := by decide +kernel
theorem dX10_addQuarter_17 : decode cX10_addQuarter 17 = .ok (.iload_n 2, 1) := by decide +kernel
theorem dX10_addQuarter_18 : decode cX10_addQuarter 18 = .ok (.iload_n 3, 1) := by decide +kernel
theorem dX10_addQuarter_19 : decode cX10_addQuarter 19 = .ok (.invokevirtual 181, 3) := by decide +kernel
theorem dX10_addQuarter_22 : decode cX10_addQuarter 22 = .ok (.invokevirtual 174, 3) := by decide +kernel
theorem dX10_addQuarter_25 : decode cX10_addQuarter 25 = .ok (.i2l, 1) := by decide +kernel
theorem dX10_addQuarter_26 : decode cX10_addQuarter 26 = .ok (.ladd, 1) := by decide +kernel
theorem dX10_addQuarter_27 : decode cX10_addQuarter 27 = .ok (.lastore, 1) := by decide +kernel
theorem dX10_addQuarter_28 : decode cX10_addQuarter 28 = .ok (.iinc 3 1, 3) := by decide +kernel
theorem dX10_addQuarter_31 : decode cX10_addQuarter 31 = .ok (.goto (-29), 3) := by decide +kernel
theorem dX10_addQuarter_34 : decode cX10_addQuarter 34 = .ok (.return_, 1) := by decide +kernel
theorem dX10_addHeads_0 : decode cX10_addHeads 0 = .ok (.aload_n 0, 1) := by decide +kernel
theorem dX10_addHeads_1 : decode cX10_addHeads 1 = .ok (.dup, 1) := by decide +kernel
theorem dX10_addHeads_2 : decode cX10_addHeads 2 = .ok (.getfield 205, 3) := by decide +kernel
theorem dX10_addHeads_5 : decode cX10_addHeads 5 = .ok (.aload_n 0, 1) := by decide +kernel
theorem dX10_addHeads_6 : decode cX10_addHeads 6 = .ok (.sipush 1281, 3) := by decide +kernel
theorem dX10_addHeads_9 : decode cX10_addHeads 9 = .ok (.iconst 2, 1) := by decide +kernel
theorem dX10_addHeads_10 : decode cX10_addHeads 10 = .ok (.iload_n 1, 1) := by decide +kernel
theorem dX10_addHeads_11 : decode cX10_addHeads 11 = .ok (.imul, 1) := by decide +kernel
theorem dX10_addHeads_12 : decode cX10_addHeads 12 = .ok (.iadd, 1) := by decide +kernel
theorem dX10_addHeads_13 : decode cX10_addHeads 13 = .ok (.invokevirtual 174, 3) := by decide +kernel
theorem dX10_addHeads_16 : decode cX10_addHeads 16 = .ok (.i2l, 1) := by decide +kernel
theorem dX10_addHeads_17 : decode cX10_addHeads 17 = .ok (.ladd, 1) := by decide +kernel
theorem dX10_addHeads_18 : decode cX10_addHeads 18 = .ok (.putfield 205, 3) := by decide +kernel
theorem dX10_addHeads_21 : decode cX10_addHeads 21 = .ok (.aload_n 0, 1) := by decide +kernel
theorem dX10_addHeads_22 : decode cX10_addHeads 22 = .ok (.dup, 1) := by decide +kernel
theorem dX10_addHeads_23 : decode cX10_addHeads 23 = .ok (.getfield 209, 3) := by decide +kernel
theorem dX10_addHeads_26 : decode cX10_addHeads 26 = .ok (.aload_n 0, 1) := by decide +kernel
theorem dX10_addHeads_27 : decode cX10_addHeads 27 = .ok (.sipush 1281, 3) := by decide +kernel
theorem dX10_addHeads_30 : decode cX10_addHeads 30 = .ok (.iconst 2, 1) := by decide +kernel
theorem dX10_addHeads_31 : decode cX10_addHeads 31 = .ok (.iload_n 1, 1) := by decide +kernel
theorem dX10_addHeads_32 : decode cX10_addHeads 32 = .ok (.imul, 1) := by decide +kernel
theorem dX10_addHeads_33 : decode cX10_addHeads 33 = .ok (.iadd, 1) := by decide +kernel
theorem dX10_addHeads_34 : decode cX10_addHeads 34 = .ok (.iconst 1, 1) := by decide +kernel
theorem dX10_addHeads_35 : decode cX10_addHeads 35 = .ok (.iadd, 1) := by decide +kernel
theorem dX10_addHeads_36 : decode cX10_addHeads 36 = .ok (.invokevirtual 174, 3) := by decide +kernel
theorem dX10_addHeads_39 : decode cX10_addHeads 39 = .ok (.i2l, 1) := by decide +kernel
theorem dX10_addHeads_40 : decode cX10_addHeads 40 = .ok (.ladd, 1) := by decide +kernel
theorem dX10_addHeads_41 : decode cX10_addHeads 41 = .ok (.putfield 209, 3) := by decide +kernel
theorem dX10_addHeads_44 : decode cX10_addHeads 44 = .ok (.return_, 1) := by decide +kernel
theorem dX10_layQuarter_0 : decode cX10_layQuarter 0 = .ok (.aload_n 0, 1) := by decide +kernel
theorem dX10_layQuarter_1 : decode cX10_layQuarter 1 = .ok (.invokevirtual 212, 3) := by decide +kernel
theorem dX10_layQuarter_4 : decode cX10_layQuarter 4 = .ok (.aload_n 0, 1) := by decide +kernel
theorem dX10_layQuarter_5 : decode cX10_layQuarter 5 = .ok (.iload_n 1, 1) := by decide +kernel
theorem dX10_layQuarter_6 : decode cX10_layQuarter 6 = .ok (.iload_n 2, 1) := by decide +kernel
theorem dX10_layQuarter_7 : decode cX10_layQuarter 7 = .ok (.invokevirtual 215, 3) := by decide +kernel
theorem dX10_layQuarter_10 : decode cX10_layQuarter 10 = .ok (.aload_n 0, 1) := by decide +kernel
theorem dX10_layQuarter_11 : decode cX10_layQuarter 11 = .ok (.iload_n 1, 1) := by decide +kernel
theorem dX10_layQuarter_12 : decode cX10_layQuarter 12 = .ok (.invokevirtual 218, 3) := by decide +kernel
theorem dX10_layQuarter_15 : decode cX10_layQuarter 15 = .ok (.return_, 1) := by decide +kernel
theorem dX10_layYear_0 : decode cX10_layYear 0 = .ok (.aload_n 0, 1) := by decide +kernel
theorem dX10_layYear_1 : decode cX10_layYear 1 = .ok (.invokevirtual 212, 3) := by decide +kernel
theorem dX10_layYear_4 : decode cX10_layYear 4 = .ok (.iconst 4, 1) := by decide +kernel
theorem dX10_layYear_5 : decode cX10_layYear 5 = .ok (.iload_n 2, 1) := by decide +kernel
theorem dX10_layYear_6 : decode cX10_layYear 6 = .ok (.imul, 1) := by decide +kernel
theorem dX10_layYear_7 : decode cX10_layYear 7 = .ok (.istore_n 3, 1) := by decide +kernel
theorem dX10_layYear_8 : decode cX10_layYear 8 = .ok (.iload_n 3, 1) := by decide +kernel
theorem dX10_layYear_9 : decode cX10_layYear 9 = .ok (.iconst 4, 1) := by decide +kernel
theorem dX10_layYear_10 : decode cX10_layYear 10 = .ok (.iload_n 2, 1) := by decide +kernel
theorem dX10_layYear_11 : decode cX10_layYear 11 = .ok (.imul, 1) := by decide +kernel
theorem dX10_layYear_12 : decode cX10_layYear 12 = .ok (.iconst 4, 1) := by decide +kernel
theorem dX10_layYear_13 : decode cX10_layYear 13 = .ok (.iadd, 1) := by decide +kernel
theorem dX10_layYear_14 : decode cX10_layYear 14 = .ok (.if_icmp .ge 15, 3) := by decide +kernel
theorem dX10_layYear_17 : decode cX10_layYear 17 = .ok (.aload_n 0, 1) := by decide +kernel
theorem dX10_layYear_18 : decode cX10_layYear 18 = .ok (.iload_n 1, 1) := by decide +kernel
theorem dX10_layYear_19 : decode cX10_layYear 19 = .ok (.iload_n 3, 1) := by decide +kernel
theorem dX10_layYear_20 : decode cX10_layYear 20 = .ok (.invokevirtual 215, 3) := by decide +kernel
theorem dX10_layYear_23 : decode cX10_layYear 23 = .ok (.iinc 3 1, 3) := by decide +kernel
theorem dX10_layYear_26 : decode cX10_layYear 26 = .ok (.goto (-18), 3) := by decide +kernel
theorem dX10_layYear_29 : decode cX10_layYear 29 = .ok (.aload_n 0, 1) := by decide +kernel
theorem dX10_layYear_30 : decode cX10_layYear 30 = .ok (.iload_n 1, 1) := by decide +kernel
theorem dX10_layYear_31 : decode cX10_layYear 31 = .ok (.invokevirtual 218, 3) := by decide +kernel
theorem dX10_layYear_34 : decode cX10_layYear 34 = .ok (.return_, 1) := by decide +kernel
theorem dX10_fractionBy_0 : decode cX10_fractionBy 0 = .ok (.iload_n 1, 1) := by decide +kernel
theorem dX10_fractionBy_1 : decode cX10_fractionBy 1 = .ok (.ifCond .ne 12, 3) := by decide +kernel
theorem dX10_fractionBy_4 : decode cX10_fractionBy 4 = .ok (.aload_n 0, 1) := by decide +kernel
theorem dX10_fractionBy_5 : decode cX10_fractionBy 5 = .ok (.getfield 39, 3) := by decide +kernel
theorem dX10_fractionBy_8 : decode cX10_fractionBy 8 = .ok (.iconst 0, 1) := by decide +kernel
theorem dX10_fractionBy_9 : decode cX10_fractionBy 9 = .ok (.laload, 1) := by decide +kernel
theorem dX10_fractionBy_10 : decode cX10_fractionBy 10 = .ok (.goto 21, 3) := by decide +kernel
theorem dX10_fractionBy_13 : decode cX10_fractionBy 13 = .ok (.iload_n 1, 1) := by decide +kernel
theorem dX10_fractionBy_14 : decode cX10_fractionBy 14 = .ok (.iconst 1, 1) := by decide +kernel
theorem dX10_fractionBy_15 : decode cX10_fractionBy 15 = .ok (.if_icmp .ne 12, 3) := by decide +kernel
theorem dX10_fractionBy_18 : decode cX10_fractionBy 18 = .ok (.aload_n 0, 1) := by decide +kernel
theorem dX10_fractionBy_19 : decode cX10_fractionBy 19 = .ok (.getfield 39, 3) := by decide +kernel
theorem dX10_fractionBy_22 : decode cX10_fractionBy 22 = .ok (.iconst 2, 1) := by decide +kernel
theorem dX10_fractionBy_23 : decode cX10_fractionBy 23 = .ok (.laload, 1) := by decide +kernel
theorem dX10_fractionBy_24 : decode cX10_fractionBy 24 = .ok (.goto 7, 3) := by decide +kernel
theorem dX10_fractionBy_27 : decode cX10_fractionBy 27 = .ok (.aload_n 0, 1) := by decide +kernel
theorem dX10_fractionBy_28 : decode cX10_fractionBy 28 = .ok (.getfield 205, 3) := by decide +kernel
theorem dX10_fractionBy_31 : decode cX10_fractionBy 31 = .ok (.lstore 4, 2) := by decide +kernel
theorem dX10_fractionBy_33 : decode cX10_fractionBy 33 = .ok (.iload_n 1, 1) := by decide +kernel
theorem dX10_fractionBy_34 : decode cX10_fractionBy 34 = .ok (.ifCond .ne 19, 3) := by decide +kernel
theorem dX10_fractionBy_37 : decode cX10_fractionBy 37 = .ok (.aload_n 0, 1) := by decide +kernel
theorem dX10_fractionBy_38 : decode cX10_fractionBy 38 = .ok (.getfield 39, 3) := by decide +kernel
theorem dX10_fractionBy_41 : decode cX10_fractionBy 41 = .ok (.iconst 0, 1) := by decide +kernel
theorem dX10_fractionBy_42 : decode cX10_fractionBy 42 = .ok (.laload, 1) := by decide +kernel
theorem dX10_fractionBy_43 : decode cX10_fractionBy 43 = .ok (.aload_n 0, 1) := by decide +kernel
theorem dX10_fractionBy_44 : decode cX10_fractionBy 44 = .ok (.getfield 39, 3) := by decide +kernel
theorem dX10_fractionBy_47 : decode cX10_fractionBy 47 = .ok (.iconst 1, 1) := by decide +kernel
theorem dX10_fractionBy_48 : decode cX10_fractionBy 48 = .ok (.laload, 1) := by decide +kernel
theorem dX10_fractionBy_49 : decode cX10_fractionBy 49 = .ok (.ladd, 1) := by decide +kernel
theorem dX10_fractionBy_50 : decode cX10_fractionBy 50 = .ok (.goto 28, 3) := by decide +kernel
theorem dX10_fractionBy_53 : decode cX10_fractionBy 53 = .ok (.iload_n 1, 1) := by decide +kernel
theorem dX10_fractionBy_54 : decode cX10_fractionBy 54 = .ok (.iconst 1, 1) := by decide +kernel
theorem dX10_fractionBy_55 : decode cX10_fractionBy 55 = .ok (.if_icmp .ne 19, 3) := by decide +kernel
theorem dX10_fractionBy_58 : decode cX10_fractionBy 58 = .ok (.aload_n 0, 1) := by decide +kernel
theorem dX10_fractionBy_59 : decode cX10_fractionBy 59 = .ok (.getfield 39, 3) := by decide +kernel
theorem dX10_fractionBy_62 : decode cX10_fractionBy 62 = .ok (.iconst 2, 1) := by decide +kernel
theorem dX10_fractionBy_63 : decode cX10_fractionBy 63 = .ok (.laload, 1) := by decide +kernel
theorem dX10_fractionBy_64 : decode cX10_fractionBy 64 = .ok (.aload_n 0, 1) := by decide +kernel
theorem dX10_fractionBy_65 : decode cX10_fractionBy 65 = .ok (.getfield 39, 3) := by decide +kernel
theorem dX10_fractionBy_68 : decode cX10_fractionBy 68 = .ok (.iconst 3, 1) := by decide +kernel
theorem dX10_fractionBy_69 : decode cX10_fractionBy 69 = .ok (.laload, 1) := by decide +kernel
theorem dX10_fractionBy_70 : decode cX10_fractionBy 70 = .ok (.ladd, 1) := by decide +kernel
theorem dX10_fractionBy_71 : decode cX10_fractionBy 71 = .ok (.goto 7, 3) := by decide +kernel
theorem dX10_fractionBy_74 : decode cX10_fractionBy 74 = .ok (.aload_n 0, 1) := by decide +kernel
theorem dX10_fractionBy_75 : decode cX10_fractionBy 75 = .ok (.getfield 209, 3) := by decide +kernel
theorem dX10_fractionBy_78 : decode cX10_fractionBy 78 = .ok (.lstore 6, 2) := by decide +kernel
theorem dX10_fractionBy_80 : decode cX10_fractionBy 80 = .ok (.lload 6, 2) := by decide +kernel
theorem dX10_fractionBy_82 : decode cX10_fractionBy 82 = .ok (.lconst 0, 1) := by decide +kernel
theorem dX10_fractionBy_83 : decode cX10_fractionBy 83 = .ok (.lcmp, 1) := by decide +kernel
theorem dX10_fractionBy_84 : decode cX10_fractionBy 84 = .ok (.ifCond .ne 7, 3) := by decide +kernel
theorem dX10_fractionBy_87 : decode cX10_fractionBy 87 = .ok (.iload_n 3, 1) := by decide +kernel
theorem dX10_fractionBy_88 : decode cX10_fractionBy 88 = .ok (.goto 15, 3) := by decide +kernel
theorem dX10_fractionBy_91 : decode cX10_fractionBy 91 = .ok (.iload_n 2, 1) := by decide +kernel
theorem dX10_fractionBy_92 : decode cX10_fractionBy 92 = .ok (.iload_n 3, 1) := by decide +kernel
theorem dX10_fractionBy_93 : decode cX10_fractionBy 93 = .ok (.i2l, 1) := by decide +kernel
theorem dX10_fractionBy_94 : decode cX10_fractionBy 94 = .ok (.lload 4, 2) := by decide +kernel
theorem dX10_fractionBy_96 : decode cX10_fractionBy 96 = .ok (.lmul, 1) := by decide +kernel
theorem dX10_fractionBy_97 : decode cX10_fractionBy 97 = .ok (.lload 6, 2) := by decide +kernel
theorem dX10_fractionBy_99 : decode cX10_fractionBy 99 = .ok (.invokestatic 201, 3) := by decide +kernel
theorem dX10_fractionBy_102 : decode cX10_fractionBy 102 = .ok (.l2i, 1) := by decide +kernel
theorem dX10_fractionBy_103 : decode cX10_fractionBy 103 = .ok (.ireturn, 1) := by decide +kernel
theorem dX10_fraction_0 : decode cX10_fraction 0 = .ok (.aload_n 0, 1) := by decide +kernel
theorem dX10_fraction_1 : decode cX10_fraction 1 = .ok (.aload_n 0, 1) := by decide +kernel
theorem dX10_fraction_2 : decode cX10_fraction 2 = .ok (.iload_n 1, 1) := by decide +kernel
theorem dX10_fraction_3 : decode cX10_fraction 3 = .ok (.iconst 1, 1) := by decide +kernel
theorem dX10_fraction_4 : decode cX10_fraction 4 = .ok (.invokevirtual 115, 3) := by decide +kernel
theorem dX10_fraction_7 : decode cX10_fraction 7 = .ok (.aload_n 0, 1) := by decide +kernel
theorem dX10_fraction_8 : decode cX10_fraction 8 = .ok (.getfield 32, 3) := by decide +kernel
theorem dX10_fraction_11 : decode cX10_fraction 11 = .ok (.iconst 0, 1) := by decide +kernel
theorem dX10_fraction_12 : decode cX10_fraction 12 = .ok (.iaload, 1) := by decide +kernel
theorem dX10_fraction_13 : decode cX10_fraction 13 = .ok (.aload_n 0, 1) := by decide +kernel
theorem dX10_fraction_14 : decode cX10_fraction 14 = .ok (.getfield 32, 3) := by decide +kernel
theorem dX10_fraction_17 : decode cX10_fraction 17 = .ok (.iconst 1, 1) := by decide +kernel
theorem dX10_fraction_18 : decode cX10_fraction 18 = .ok (.iaload, 1) := by decide +kernel
theorem dX10_fraction_19 : decode cX10_fraction 19 = .ok (.invokevirtual 222, 3) := by decide +kernel
theorem dX10_fraction_22 : decode cX10_fraction 22 = .ok (.ireturn, 1) := by decide +kernel
theorem dX10_backBy_0 : decode cX10_backBy 0 = .ok (.aload_n 0, 1) := by decide +kernel
theorem dX10_backBy_1 : decode cX10_backBy 1 = .ok (.getfield 39, 3) := by decide +kernel
theorem dX10_backBy_4 : decode cX10_backBy 4 = .ok (.iconst 2, 1) := by decide +kernel
theorem dX10_backBy_5 : decode cX10_backBy 5 = .ok (.laload, 1) := by decide +kernel
theorem dX10_backBy_6 : decode cX10_backBy 6 = .ok (.iload_n 2, 1) := by decide +kernel
theorem dX10_backBy_7 : decode cX10_backBy 7 = .ok (.aload_n 0, 1) := by decide +kernel
theorem dX10_backBy_8 : decode cX10_backBy 8 = .ok (.getfield 39, 3) := by decide +kernel
theorem dX10_backBy_11 : decode cX10_backBy 11 = .ok (.iconst 4, 1) := by decide +kernel
theorem dX10_backBy_12 : decode cX10_backBy 12 = .ok (.laload, 1) := by decide +kernel
theorem dX10_backBy_13 : decode cX10_backBy 13 = .ok (.iload_n 1, 1) := by decide +kernel
theorem dX10_backBy_14 : decode cX10_backBy 14 = .ok (.i2l, 1) := by decide +kernel
theorem dX10_backBy_15 : decode cX10_backBy 15 = .ok (.lmul, 1) := by decide +kernel
theorem dX10_backBy_16 : decode cX10_backBy 16 = .ok (.iload_n 3, 1) := by decide +kernel
theorem dX10_backBy_17 : decode cX10_backBy 17 = .ok (.i2l, 1) := by decide +kernel
theorem dX10_backBy_18 : decode cX10_backBy 18 = .ok (.invokestatic 201, 3) := by decide +kernel
theorem dX10_backBy_21 : decode cX10_backBy 21 = .ok (.ladd, 1) := by decide +kernel
theorem dX10_backBy_22 : decode cX10_backBy 22 = .ok (.lstore 5, 2) := by decide +kernel
theorem dX10_backBy_24 : decode cX10_backBy 24 = .ok (.aload_n 0, 1) := by decide +kernel
theorem dX10_backBy_25 : decode cX10_backBy 25 = .ok (.getfield 39, 3) := by decide +kernel
theorem dX10_backBy_28 : decode cX10_backBy 28 = .ok (.iconst 2, 1) := by decide +kernel
theorem dX10_backBy_29 : decode cX10_backBy 29 = .ok (.laload, 1) := by decide +kernel
theorem dX10_backBy_30 : decode cX10_backBy 30 = .ok (.aload_n 0, 1) := by decide +kernel
theorem dX10_backBy_31 : decode cX10_backBy 31 = .ok (.getfield 39, 3) := by decide +kernel
theorem dX10_backBy_34 : decode cX10_backBy 34 = .ok (.iconst 3, 1) := by decide +kernel
theorem dX10_backBy_35 : decode cX10_backBy 35 = .ok (.laload, 1) := by decide +kernel
theorem dX10_backBy_36 : decode cX10_backBy 36 = .ok (.ladd, 1) := by decide +kernel
theorem dX10_backBy_37 : decode cX10_backBy 37 = .ok (.aload_n 0, 1) := by decide +kernel
theorem dX10_backBy_38 : decode cX10_backBy 38 = .ok (.getfield 39, 3) := by decide +kernel
theorem dX10_backBy_41 : decode cX10_backBy 41 = .ok (.iconst 4, 1) := by decide +kernel
theorem dX10_backBy_42 : decode cX10_backBy 42 = .ok (.laload, 1) := by decide +kernel
theorem dX10_backBy_43 : decode cX10_backBy 43 = .ok (.ladd, 1) := by decide +kernel
theorem dX10_backBy_44 : decode cX10_backBy 44 = .ok (.lstore 7, 2) := by decide +kernel
theorem dX10_backBy_46 : decode cX10_backBy 46 = .ok (.lload 7, 2) := by decide +kernel
theorem dX10_backBy_48 : decode cX10_backBy 48 = .ok (.lload 5, 2) := by decide +kernel
theorem dX10_backBy_50 : decode cX10_backBy 50 = .ok (.lsub, 1) := by decide +kernel
theorem dX10_backBy_51 : decode cX10_backBy 51 = .ok (.lstore 9, 2) := by decide +kernel
theorem dX10_backBy_53 : decode cX10_backBy 53 = .ok (.aload_n 0, 1) := by decide +kernel
theorem dX10_backBy_54 : decode cX10_backBy 54 = .ok (.lload 9, 2) := by decide +kernel
theorem dX10_backBy_56 : decode cX10_backBy 56 = .ok (.iload 4, 2) := by decide +kernel
theorem dX10_backBy_58 : decode cX10_backBy 58 = .ok (.i2l, 1) := by decide +kernel
theorem dX10_backBy_59 : decode cX10_backBy 59 = .ok (.lcmp, 1) := by decide +kernel
theorem dX10_backBy_60 : decode cX10_backBy 60 = .ok (.ifCond .gt 19, 3) := by decide +kernel
theorem dX10_backBy_63 : decode cX10_backBy 63 = .ok (.ldc2_w 199, 3) := by decide +kernel
theorem dX10_backBy_66 : decode cX10_backBy 66 = .ok (.lload 9, 2) := by decide +kernel
theorem dX10_backBy_68 : decode cX10_backBy 68 = .ok (.lmul, 1) := by decide +kernel
theorem dX10_backBy_69 : decode cX10_backBy 69 = .ok (.lload 7, 2) := by decide +kernel
theorem dX10_backBy_71 : decode cX10_backBy 71 = .ok (.lcmp, 1) := by decide +kernel
theorem dX10_backBy_72 : decode cX10_backBy 72 = .ok (.ifCond .gt 7, 3) := by decide +kernel
theorem dX10_backBy_75 : decode cX10_backBy 75 = .ok (.iconst 1, 1) := by decide +kernel
theorem dX10_backBy_76 : decode cX10_backBy 76 = .ok (.goto 4, 3) := by decide +kernel
theorem dX10_backBy_79 : decode cX10_backBy 79 = .ok (.iconst 0, 1) := by decide +kernel
theorem dX10_backBy_80 : decode cX10_backBy 80 = .ok (.putfield 225, 3) := by decide +kernel
theorem dX10_backBy_83 : decode cX10_backBy 83 = .ok (.aload_n 0, 1) := by decide +kernel
theorem dX10_backBy_84 : decode cX10_backBy 84 = .ok (.getfield 225, 3) := by decide +kernel
theorem dX10_backBy_87 : decode cX10_backBy 87 = .ok (.ifCond .eq 8, 3) := by decide +kernel
theorem dX10_backBy_90 : decode cX10_backBy 90 = .ok (.lload 7, 2) := by decide +kernel
theorem dX10_backBy_92 : decode cX10_backBy 92 = .ok (.goto 5, 3) := by decide +kernel
theorem dX10_backBy_95 : decode cX10_backBy 95 = .ok (.lload 5, 2) := by decide +kernel
theorem dX10_backBy_97 : decode cX10_backBy 97 = .ok (.l2i, 1) := by decide +kernel
theorem dX10_backBy_98 : decode cX10_backBy 98 = .ok (.ireturn, 1) := by decide +kernel
theorem dX10_back1_0 : decode cX10_back1 0 = .ok (.aload_n 0, 1) := by decide +kernel
theorem dX10_back1_1 : decode cX10_back1 1 = .ok (.iload_n 1, 1) := by decide +kernel
theorem dX10_back1_2 : decode cX10_back1 2 = .ok (.aload_n 0, 1) := by decide +kernel
theorem dX10_back1_3 : decode cX10_back1 3 = .ok (.getfield 32, 3) := by decide +kernel
theorem dX10_back1_6 : decode cX10_back1 6 = .ok (.iconst 0, 1) := by decide +kernel
theorem dX10_back1_7 : decode cX10_back1 7 = .ok (.iaload, 1) := by decide +kernel
theorem dX10_back1_8 : decode cX10_back1 8 = .ok (.aload_n 0, 1) := by decide +kernel
theorem dX10_back1_9 : decode cX10_back1 9 = .ok (.getfield 32, 3) := by decide +kernel
theorem dX10_back1_12 : decode cX10_back1 12 = .ok (.iconst 1, 1) := by decide +kernel
theorem dX10_back1_13 : decode cX10_back1 13 = .ok (.iaload, 1) := by decide +kernel
theorem dX10_back1_14 : decode cX10_back1 14 = .ok (.iload_n 2, 1) := by decide +kernel
theorem dX10_back1_15 : decode cX10_back1 15 = .ok (.invokevirtual 227, 3) := by decide +kernel
theorem dX10_back1_18 : decode cX10_back1 18 = .ok (.ireturn, 1) := by decide +kernel
theorem dX10_annualOf_0 : decode cX10_annualOf 0 = .ok (.aload_n 0, 1) := by decide +kernel
theorem dX10_annualOf_1 : decode cX10_annualOf 1 = .ok (.iload_n 1, 1) := by decide +kernel
theorem dX10_annualOf_2 : decode cX10_annualOf 2 = .ok (.iload_n 2, 1) := by decide +kernel
theorem dX10_annualOf_3 : decode cX10_annualOf 3 = .ok (.invokevirtual 230, 3) := by decide +kernel
theorem dX10_annualOf_6 : decode cX10_annualOf 6 = .ok (.iload_n 2, 1) := by decide +kernel
theorem dX10_annualOf_7 : decode cX10_annualOf 7 = .ok (.aload_n 0, 1) := by decide +kernel
theorem dX10_annualOf_8 : decode cX10_annualOf 8 = .ok (.invokevirtual 233, 3) := by decide +kernel
theorem dX10_annualOf_11 : decode cX10_annualOf 11 = .ok (.if_icmp .ge 20, 3) := by decide +kernel
theorem dX10_annualOf_14 : decode cX10_annualOf 14 = .ok (.aload_n 0, 1) := by decide +kernel
theorem dX10_annualOf_15 : decode cX10_annualOf 15 = .ok (.sipush 1801, 3) := by decide +kernel
theorem dX10_annualOf_18 : decode cX10_annualOf 18 = .ok (.bipush 16, 2) := by decide +kernel
theorem dX10_annualOf_20 : decode cX10_annualOf 20 = .ok (.iload_n 1, 1) := by decide +kernel
theorem dX10_annualOf_21 : decode cX10_annualOf 21 = .ok (.imul, 1) := by decide +kernel
theorem dX10_annualOf_22 : decode cX10_annualOf 22 = .ok (.iadd, 1) := by decide +kernel
theorem dX10_annualOf_23 : decode cX10_annualOf 23 = .ok (.iload_n 2, 1) := by decide +kernel
theorem dX10_annualOf_24 : decode cX10_annualOf 24 = .ok (.iadd, 1) := by decide +kernel
theorem dX10_annualOf_25 : decode cX10_annualOf 25 = .ok (.invokevirtual 174, 3) := by decide +kernel
theorem dX10_annualOf_28 : decode cX10_annualOf 28 = .ok (.goto 8, 3) := by decide +kernel
theorem dX10_annualOf_31 : decode cX10_annualOf 31 = .ok (.aload_n 0, 1) := by decide +kernel
theorem dX10_annualOf_32 : decode cX10_annualOf 32 = .ok (.iload_n 1, 1) := by decide +kernel
theorem dX10_annualOf_33 : decode cX10_annualOf 33 = .ok (.invokevirtual 237, 3) := by decide +kernel
theorem dX10_annualOf_36 : decode cX10_annualOf 36 = .ok (.ireturn, 1) := by decide +kernel
theorem dX10_firstOf_0 : decode cX10_firstOf 0 = .ok (.aload_n 0, 1) := by decide +kernel
theorem dX10_firstOf_1 : decode cX10_firstOf 1 = .ok (.iload_n 1, 1) := by decide +kernel
theorem dX10_firstOf_2 : decode cX10_firstOf 2 = .ok (.bipush 7, 2) := by decide +kernel
theorem dX10_firstOf_4 : decode cX10_firstOf 4 = .ok (.invokevirtual 115, 3) := by decide +kernel
theorem dX10_firstOf_7 : decode cX10_firstOf 7 = .ok (.aload_n 0, 1) := by decide +kernel
theorem dX10_firstOf_8 : decode cX10_firstOf 8 = .ok (.getfield 32, 3) := by decide +kernel
theorem dX10_firstOf_11 : decode cX10_firstOf 11 = .ok (.iconst 1, 1) := by decide +kernel
theorem dX10_firstOf_12 : decode cX10_firstOf 12 = .ok (.iaload, 1) := by decide +kernel
theorem dX10_firstOf_13 : decode cX10_firstOf 13 = .ok (.if_icmp .ge 13, 3) := by decide +kernel
theorem dX10_firstOf_16 : decode cX10_firstOf 16 = .ok (.aload_n 0, 1) := by decide +kernel
theorem dX10_firstOf_17 : decode cX10_firstOf 17 = .ok (.iload_n 1, 1) := by decide +kernel
theorem dX10_firstOf_18 : decode cX10_firstOf 18 = .ok (.bipush 7, 2) := by decide +kernel
theorem dX10_firstOf_20 : decode cX10_firstOf 20 = .ok (.invokevirtual 115, 3) := by decide +kernel
theorem dX10_firstOf_23 : decode cX10_firstOf 23 = .ok (.goto 9, 3) := by decide +kernel
theorem dX10_firstOf_26 : decode cX10_firstOf 26 = .ok (.aload_n 0, 1) := by decide +kernel
theorem dX10_firstOf_27 : decode cX10_firstOf 27 = .ok (.getfield 32, 3) := by decide +kernel
theorem dX10_firstOf_30 : decode cX10_firstOf 30 = .ok (.iconst 1, 1) := by decide +kernel
theorem dX10_firstOf_31 : decode cX10_firstOf 31 = .ok (.iaload, 1) := by decide +kernel
theorem dX10_firstOf_32 : decode cX10_firstOf 32 = .ok (.ireturn, 1) := by decide +kernel
theorem dX10_provisionalBy_0 : decode cX10_provisionalBy 0 = .ok (.iload_n 3, 1) := by decide +kernel
theorem dX10_provisionalBy_1 : decode cX10_provisionalBy 1 = .ok (.iconst 1, 1) := by decide +kernel
theorem dX10_provisionalBy_2 : decode cX10_provisionalBy 2 = .ok (.if_icmp .ne 29, 3) := by decide +kernel
theorem dX10_provisionalBy_5 : decode cX10_provisionalBy 5 = .ok (.iload_n 2, 1) := by decide +kernel
theorem dX10_provisionalBy_6 : decode cX10_provisionalBy 6 = .ok (.iconst 4, 1) := by decide +kernel
theorem dX10_provisionalBy_7 : decode cX10_provisionalBy 7 = .ok (.if_icmp .lt 24, 3) := by decide +kernel
theorem dX10_provisionalBy_10 : decode cX10_provisionalBy 10 = .ok (.aload_n 0, 1) := by decide +kernel
theorem dX10_provisionalBy_11 : decode cX10_provisionalBy 11 = .ok (.sipush 1801, 3) := by decide +kernel
theorem dX10_provisionalBy_14 : decode cX10_provisionalBy 14 = .ok (.bipush 16, 2) := by decide +kernel
theorem dX10_provisionalBy_16 : decode cX10_provisionalBy 16 = .ok (.iload_n 1, 1) := by decide +kernel
theorem dX10_provisionalBy_17 : decode cX10_provisionalBy 17 = .ok (.imul, 1) := by decide +kernel
theorem dX10_provisionalBy_18 : decode cX10_provisionalBy 18 = .ok (.iadd, 1) := by decide +kernel
theorem dX10_provisionalBy_19 : decode cX10_provisionalBy 19 = .ok (.iload_n 2, 1) := by decide +kernel
theorem dX10_provisionalBy_20 : decode cX10_provisionalBy 20 = .ok (.iconst 4, 1) := by decide +kernel
theorem dX10_provisionalBy_21 : decode cX10_provisionalBy 21 = .ok (.idiv, 1) := by decide +kernel
theorem dX10_provisionalBy_22 : decode cX10_provisionalBy 22 = .ok (.iadd, 1) := by decide +kernel
theorem dX10_provisionalBy_23 : decode cX10_provisionalBy 23 = .ok (.iconst 1, 1) := by decide +kernel
theorem dX10_provisionalBy_24 : decode cX10_provisionalBy 24 = .ok (.isub, 1) := by decide +kernel
theorem dX10_provisionalBy_25 : decode cX10_provisionalBy 25 = .ok (.invokevirtual 174, 3) := by decide +kernel
theorem dX10_provisionalBy_28 : decode cX10_provisionalBy 28 = .ok (.goto 4, 3) := by decide +kernel
theorem dX10_provisionalBy_31 : decode cX10_provisionalBy 31 = .ok (.iconst 0, 1) := by decide +kernel
theorem dX10_provisionalBy_32 : decode cX10_provisionalBy 32 = .ok (.istore 4, 2) := by decide +kernel
theorem dX10_provisionalBy_34 : decode cX10_provisionalBy 34 = .ok (.aload_n 0, 1) := by decide +kernel
theorem dX10_provisionalBy_35 : decode cX10_provisionalBy 35 = .ok (.iload_n 1, 1) := by decide +kernel
theorem dX10_provisionalBy_36 : decode cX10_provisionalBy 36 = .ok (.iload_n 2, 1) := by decide +kernel
theorem dX10_provisionalBy_37 : decode cX10_provisionalBy 37 = .ok (.invokevirtual 240, 3) := by decide +kernel
theorem dX10_provisionalBy_40 : decode cX10_provisionalBy 40 = .ok (.iload_n 3, 1) := by decide +kernel
theorem dX10_provisionalBy_41 : decode cX10_provisionalBy 41 = .ok (.ifCond .ne 9, 3) := by decide +kernel
theorem dX10_provisionalBy_44 : decode cX10_provisionalBy 44 = .ok (.aload_n 0, 1) := by decide +kernel
theorem dX10_provisionalBy_45 : decode cX10_provisionalBy 45 = .ok (.iload_n 1, 1) := by decide +kernel
theorem dX10_provisionalBy_46 : decode cX10_provisionalBy 46 = .ok (.invokevirtual 237, 3) := by decide +kernel
theorem dX10_provisionalBy_49 : decode cX10_provisionalBy 49 = .ok (.ireturn, 1) := by decide +kernel
theorem dX10_provisionalBy_50 : decode cX10_provisionalBy 50 = .ok (.iload_n 2, 1) := by decide +kernel
theorem dX10_provisionalBy_51 : decode cX10_provisionalBy 51 = .ok (.iconst 4, 1) := by decide +kernel
theorem dX10_provisionalBy_52 : decode cX10_provisionalBy 52 = .ok (.if_icmp .lt 6, 3) := by decide +kernel
theorem dX10_provisionalBy_55 : decode cX10_provisionalBy 55 = .ok (.iload 4, 2) := by decide +kernel
theorem dX10_provisionalBy_57 : decode cX10_provisionalBy 57 = .ok (.ireturn, 1) := by decide +kernel
theorem dX10_provisionalBy_58 : decode cX10_provisionalBy 58 = .ok (.aload_n 0, 1) := by decide +kernel
theorem dX10_provisionalBy_59 : decode cX10_provisionalBy 59 = .ok (.iload_n 1, 1) := by decide +kernel
theorem dX10_provisionalBy_60 : decode cX10_provisionalBy 60 = .ok (.bipush 6, 2) := by decide +kernel
theorem dX10_provisionalBy_62 : decode cX10_provisionalBy 62 = .ok (.invokevirtual 115, 3) := by decide +kernel
theorem dX10_provisionalBy_65 : decode cX10_provisionalBy 65 = .ok (.iconst 1, 1) := by decide +kernel
theorem dX10_provisionalBy_66 : decode cX10_provisionalBy 66 = .ok (.if_icmp .ne 11, 3) := by decide +kernel
theorem dX10_provisionalBy_69 : decode cX10_provisionalBy 69 = .ok (.aload_n 0, 1) := by decide +kernel
theorem dX10_provisionalBy_70 : decode cX10_provisionalBy 70 = .ok (.iload_n 1, 1) := by decide +kernel
theorem dX10_provisionalBy_71 : decode cX10_provisionalBy 71 = .ok (.invokevirtual 243, 3) := by decide +kernel
theorem dX10_provisionalBy_74 : decode cX10_provisionalBy 74 = .ok (.goto 8, 3) := by decide +kernel
theorem dX10_provisionalBy_77 : decode cX10_provisionalBy 77 = .ok (.aload_n 0, 1) := by decide +kernel
theorem dX10_provisionalBy_78 : decode cX10_provisionalBy 78 = .ok (.iload_n 1, 1) := by decide +kernel
theorem dX10_provisionalBy_79 : decode cX10_provisionalBy 79 = .ok (.invokevirtual 237, 3) := by decide +kernel
theorem dX10_provisionalBy_82 : decode cX10_provisionalBy 82 = .ok (.ireturn, 1) := by decide +kernel
theorem dX10_books_0 : decode cX10_books 0 = .ok (.aload_n 0, 1) := by decide +kernel
theorem dX10_books_1 : decode cX10_books 1 = .ok (.sipush 1867, 3) := by decide +kernel
theorem dX10_books_4 : decode cX10_books 4 = .ok (.invokevirtual 174, 3) := by decide +kernel
theorem dX10_books_7 : decode cX10_books 7 = .ok (.bipush 40, 2) := by decide +kernel
theorem dX10_books_9 : decode cX10_books 9 = .ok (.if_icmp .ge 13, 3) := by decide +kernel
theorem dX10_books_12 : decode cX10_books 12 = .ok (.aload_n 0, 1) := by decide +kernel
theorem dX10_books_13 : decode cX10_books 13 = .ok (.sipush 1867, 3) := by decide +kernel
theorem dX10_books_16 : decode cX10_books 16 = .ok (.invokevirtual 174, 3) := by decide +kernel
theorem dX10_books_19 : decode cX10_books 19 = .ok (.goto 5, 3) := by decide +kernel
theorem dX10_books_22 : decode cX10_books 22 = .ok (.bipush 39, 2) := by decide +kernel
theorem dX10_books_24 : decode cX10_books 24 = .ok (.istore 5, 2) := by decide +kernel
theorem dX10_books_26 : decode cX10_books 26 = .ok (.iconst 5, 1) := by decide +kernel
theorem dX10_books_27 : decode cX10_books 27 = .ok (.iload 5, 2) := by decide +kernel
theorem dX10_books_29 : decode cX10_books 29 = .ok (.imul, 1) := by decide +kernel
theorem dX10_books_30 : decode cX10_books 30 = .ok (.iconst 1, 1) := by decide +kernel
theorem dX10_books_31 : decode cX10_books 31 = .ok (.isub, 1) := by decide +kernel
theorem dX10_books_32 : decode cX10_books 32 = .ok (.istore 6, 2) := by decide +kernel
theorem dX10_books_34 : decode cX10_books 34 = .ok (.iload 6, 2) := by decide +kernel
theorem dX10_books_36 : decode cX10_books 36 = .ok (.ifCond .lt 31, 3) := by decide +kernel
theorem dX10_books_39 : decode cX10_books 39 = .ok (.aload_n 0, 1) := by decide +kernel
theorem dX10_books_40 : decode cX10_books 40 = .ok (.sipush 1868, 3) := by decide +kernel
theorem dX10_books_43 : decode cX10_books 43 = .ok (.iload 6, 2) := by decide +kernel
theorem dX10_books_45 : decode cX10_books 45 = .ok (.iadd, 1) := by decide +kernel
theorem dX10_books_46 : decode cX10_books 46 = .ok (.iconst 5, 1) := by decide +kernel
theorem dX10_books_47 : decode cX10_books 47 = .ok (.iadd, 1) := by decide +kernel
theorem dX10_books_48 : decode cX10_books 48 = .ok (.aload_n 0, 1) := by decide +kernel
theorem dX10_books_49 : decode cX10_books 49 = .ok (.sipush 1868, 3) := by decide +kernel
theorem dX10_books_52 : decode cX10_books 52 = .ok (.iload 6, 2) := by decide +kernel
theorem dX10_books_54 : decode cX10_books 54 = .ok (.iadd, 1) := by decide +kernel
theorem dX10_books_55 : decode cX10_books 55 = .ok (.invokevirtual 174, 3) := by decide +kernel
theorem dX10_books_58 : decode cX10_books 58 = .ok (.invokevirtual 111, 3) := by decide +kernel
theorem dX10_books_61 : decode cX10_books 61 = .ok (.iinc 6 (-1), 3) := by decide +kernel
theorem dX10_books_64 : decode cX10_books 64 = .ok (.goto (-30), 3) := by decide +kernel
theorem dX10_books_67 : decode cX10_books 67 = .ok (.aload_n 0, 1) := by decide +kernel
theorem dX10_books_68 : decode cX10_books 68 = .ok (.sipush 1868, 3) := by decide +kernel
theorem dX10_books_71 : decode cX10_books 71 = .ok (.aload_n 0, 1) := by decide +kernel
theorem dX10_books_72 : decode cX10_books 72 = .ok (.iconst 0, 1) := by decide +kernel
theorem dX10_books_73 : decode cX10_books 73 = .ok (.invokevirtual 174, 3) := by decide +kernel
theorem dX10_books_76 : decode cX10_books 76 = .ok (.invokevirtual 111, 3) := by decide +kernel
theorem dX10_books_79 : decode cX10_books 79 = .ok (.aload_n 0, 1) := by decide +kernel
theorem dX10_books_80 : decode cX10_books 80 = .ok (.sipush 1869, 3) := by decide +kernel
theorem dX10_books_83 : decode cX10_books 83 = .ok (.iload_n 1, 1) := by decide +kernel
theorem dX10_books_84 : decode cX10_books 84 = .ok (.invokevirtual 111, 3) := by decide +kernel
theorem dX10_books_87 : decode cX10_books 87 = .ok (.aload_n 0, 1) := by decide +kernel
theorem dX10_books_88 : decode cX10_books 88 = .ok (.sipush 1870, 3) := by decide +kernel
theorem dX10_books_91 : decode cX10_books 91 = .ok (.iload_n 2, 1) := by decide +kernel
theorem dX10_books_92 : decode cX10_books 92 = .ok (.invokevirtual 111, 3) := by decide +kernel
theorem dX10_books_95 : decode cX10_books 95 = .ok (.aload_n 0, 1) := by decide +kernel
theorem dX10_books_96 : decode cX10_books 96 = .ok (.sipush 1871, 3) := by decide +kernel
theorem dX10_books_99 : decode cX10_books 99 = .ok (.iload_n 3, 1) := by decide +kernel
theorem dX10_books_100 : decode cX10_books 100 = .ok (.invokevirtual 111, 3) := by decide +kernel
theorem dX10_books_103 : decode cX10_books 103 = .ok (.aload_n 0, 1) := by decide +kernel
theorem dX10_books_104 : decode cX10_books 104 = .ok (.sipush 1872, 3) := by decide +kernel
theorem dX10_books_107 : decode cX10_books 107 = .ok (.iload 4, 2) := by decide +kernel
theorem dX10_books_109 : decode cX10_books 109 = .ok (.invokevirtual 111, 3) := by decide +kernel
theorem dX10_books_112 : decode cX10_books 112 = .ok (.aload_n 0, 1) := by decide +kernel
theorem dX10_books_113 : decode cX10_books 113 = .ok (.sipush 1867, 3) := by decide +kernel
theorem dX10_books_116 : decode cX10_books 116 = .ok (.iload 5, 2) := by decide +kernel
theorem dX10_books_118 : decode cX10_books 118 = .ok (.iconst 1, 1) := by decide +kernel
theorem dX10_books_119 : decode cX10_books 119 = .ok (.iadd, 1) := by decide +kernel
theorem dX10_books_120 : decode cX10_books 120 = .ok (.invokevirtual 111, 3) := by decide +kernel
theorem dX10_books_123 : decode cX10_books 123 = .ok (.aload_n 0, 1) := by decide +kernel
theorem dX10_books_124 : decode cX10_books 124 = .ok (.sipush 1866, 3) := by decide +kernel
theorem dX10_books_127 : decode cX10_books 127 = .ok (.iconst 1, 1) := by decide +kernel
theorem dX10_books_128 : decode cX10_books 128 = .ok (.invokevirtual 184, 3) := by decide +kernel
theorem dX10_books_131 : decode cX10_books 131 = .ok (.aload_n 0, 1) := by decide +kernel
theorem dX10_books_132 : decode cX10_books 132 = .ok (.sipush 2068, 3) := by decide +kernel
theorem dX10_books_135 : decode cX10_books 135 = .ok (.iconst 4, 1) := by decide +kernel
theorem dX10_books_136 : decode cX10_books 136 = .ok (.iload_n 1, 1) := by decide +kernel
theorem dX10_books_137 : decode cX10_books 137 = .ok (.imul, 1) := by decide +kernel
theorem dX10_books_138 : decode cX10_books 138 = .ok (.iadd, 1) := by decide +kernel
theorem dX10_books_139 : decode cX10_books 139 = .ok (.iload_n 2, 1) := by decide +kernel
theorem dX10_books_140 : decode cX10_books 140 = .ok (.iadd, 1) := by decide +kernel
theorem dX10_books_141 : decode cX10_books 141 = .ok (.iload_n 3, 1) := by decide +kernel
theorem dX10_books_142 : decode cX10_books 142 = .ok (.invokevirtual 184, 3) := by decide +kernel
theorem dX10_books_145 : decode cX10_books 145 = .ok (.return_, 1) := by decide +kernel
theorem dX10_closesQuarter_0 : decode cX10_closesQuarter 0 = .ok (.aload_n 0, 1) := by decide +kernel
theorem dX10_closesQuarter_1 : decode cX10_closesQuarter 1 = .ok (.iconst 0, 1) := by decide +kernel
theorem dX10_closesQuarter_2 : decode cX10_closesQuarter 2 = .ok (.invokevirtual 174, 3) := by decide +kernel
theorem dX10_closesQuarter_5 : decode cX10_closesQuarter 5 = .ok (.istore_n 1, 1) := by decide +kernel
theorem dX10_closesQuarter_6 : decode cX10_closesQuarter 6 = .ok (.iconst 0, 1) := by decide +kernel
theorem dX10_closesQuarter_7 : decode cX10_closesQuarter 7 = .ok (.istore_n 2, 1) := by decide +kernel
theorem dX10_closesQuarter_8 : decode cX10_closesQuarter 8 = .ok (.iload_n 2, 1) := by decide +kernel
theorem dX10_closesQuarter_9 : decode cX10_closesQuarter 9 = .ok (.aload_n 0, 1) := by decide +kernel
theorem dX10_closesQuarter_10 : decode cX10_closesQuarter 10 = .ok (.getfield 94, 3) := by decide +kernel
theorem dX10_closesQuarter_13 : decode cX10_closesQuarter 13 = .ok (.if_icmp .ge 78, 3) := by decide +kernel
theorem dX10_closesQuarter_16 : decode cX10_closesQuarter 16 = .ok (.aload_n 0, 1) := by decide +kernel
theorem dX10_closesQuarter_17 : decode cX10_closesQuarter 17 = .ok (.iload_n 2, 1) := by decide +kernel
theorem dX10_closesQuarter_18 : decode cX10_closesQuarter 18 = .ok (.iload_n 1, 1) := by decide +kernel
theorem dX10_closesQuarter_19 : decode cX10_closesQuarter 19 = .ok (.aload_n 0, 1) := by decide +kernel
theorem dX10_closesQuarter_20 : decode cX10_closesQuarter 20 = .ok (.iload_n 2, 1) := by decide +kernel
theorem dX10_closesQuarter_21 : decode cX10_closesQuarter 21 = .ok (.iconst 2, 1) := by decide +kernel
theorem dX10_closesQuarter_22 : decode cX10_closesQuarter 22 = .ok (.invokevirtual 115, 3) := by decide +kernel
theorem dX10_closesQuarter_25 : decode cX10_closesQuarter 25 = .ok (.invokevirtual 246, 3) := by decide +kernel
theorem dX10_closesQuarter_28 : decode cX10_closesQuarter 28 = .ok (.istore_n 3, 1) := by decide +kernel
theorem dX10_closesQuarter_29 : decode cX10_closesQuarter 29 = .ok (.aload_n 0, 1) := by decide +kernel
theorem dX10_closesQuarter_30 : decode cX10_closesQuarter 30 = .ok (.iload_n 3, 1) := by decide +kernel
theorem dX10_closesQuarter_31 : decode cX10_closesQuarter 31 = .ok (.aload_n 0, 1) := by decide +kernel
theorem dX10_closesQuarter_32 : decode cX10_closesQuarter 32 = .ok (.getfield 32, 3) := by decide +kernel
theorem dX10_closesQuarter_35 : decode cX10_closesQuarter 35 = .ok (.iconst 2, 1) := by decide +kernel
theorem dX10_closesQuarter_36 : decode cX10_closesQuarter 36 = .ok (.iaload, 1) := by decide +kernel
theorem dX10_closesQuarter_37 : decode cX10_closesQuarter 37 = .ok (.iconst 4, 1) := by decide +kernel
theorem dX10_closesQuarter_38 : decode cX10_closesQuarter 38 = .ok (.idiv, 1) := by decide +kernel
theorem dX10_closesQuarter_39 : decode cX10_closesQuarter 39 = .ok (.invokevirtual 249, 3) := by decide +kernel
theorem dX10_closesQuarter_42 : decode cX10_closesQuarter 42 = .ok (.istore 4, 2) := by decide +kernel
theorem dX10_closesQuarter_44 : decode cX10_closesQuarter 44 = .ok (.aload_n 0, 1) := by decide +kernel
theorem dX10_closesQuarter_45 : decode cX10_closesQuarter 45 = .ok (.sipush 1289, 3) := by decide +kernel
theorem dX10_closesQuarter_48 : decode cX10_closesQuarter 48 = .ok (.bipush 64, 2) := by decide +kernel
theorem dX10_closesQuarter_50 : decode cX10_closesQuarter 50 = .ok (.iload_n 2, 1) := by decide +kernel
theorem dX10_closesQuarter_51 : decode cX10_closesQuarter 51 = .ok (.imul, 1) := by decide +kernel
theorem dX10_closesQuarter_52 : decode cX10_closesQuarter 52 = .ok (.iadd, 1) := by decide +kernel
theorem dX10_closesQuarter_53 : decode cX10_closesQuarter 53 = .ok (.iload_n 1, 1) := by decide +kernel
theorem dX10_closesQuarter_54 : decode cX10_closesQuarter 54 = .ok (.iadd, 1) := by decide +kernel
theorem dX10_closesQuarter_55 : decode cX10_closesQuarter 55 = .ok (.iload_n 3, 1) := by decide +kernel
theorem dX10_closesQuarter_56 : decode cX10_closesQuarter 56 = .ok (.invokevirtual 111, 3) := by decide +kernel
theorem dX10_closesQuarter_59 : decode cX10_closesQuarter 59 = .ok (.aload_n 0, 1) := by decide +kernel
theorem dX10_closesQuarter_60 : decode cX10_closesQuarter 60 = .ok (.sipush 1545, 3) := by decide +kernel
theorem dX10_closesQuarter_63 : decode cX10_closesQuarter 63 = .ok (.bipush 64, 2) := by decide +kernel
theorem dX10_closesQuarter_65 : decode cX10_closesQuarter 65 = .ok (.iload_n 2, 1) := by decide +kernel
theorem dX10_closesQuarter_66 : decode cX10_closesQuarter 66 = .ok (.imul, 1) := by decide +kernel
theorem dX10_closesQuarter_67 : decode cX10_closesQuarter 67 = .ok (.iadd, 1) := by decide +kernel
theorem dX10_closesQuarter_68 : decode cX10_closesQuarter 68 = .ok (.iload_n 1, 1) := by decide +kernel
theorem dX10_closesQuarter_69 : decode cX10_closesQuarter 69 = .ok (.iadd, 1) := by decide +kernel
theorem dX10_closesQuarter_70 : decode cX10_closesQuarter 70 = .ok (.iload 4, 2) := by decide +kernel
theorem dX10_closesQuarter_72 : decode cX10_closesQuarter 72 = .ok (.invokevirtual 111, 3) := by decide +kernel
theorem dX10_closesQuarter_75 : decode cX10_closesQuarter 75 = .ok (.aload_n 0, 1) := by decide +kernel
theorem dX10_closesQuarter_76 : decode cX10_closesQuarter 76 = .ok (.iload_n 2, 1) := by decide +kernel
theorem dX10_closesQuarter_77 : decode cX10_closesQuarter 77 = .ok (.iconst 0, 1) := by decide +kernel
theorem dX10_closesQuarter_78 : decode cX10_closesQuarter 78 = .ok (.iload 4, 2) := by decide +kernel
theorem dX10_closesQuarter_80 : decode cX10_closesQuarter 80 = .ok (.bipush (-2), 2) := by decide +kernel
theorem dX10_closesQuarter_82 : decode cX10_closesQuarter 82 = .ok (.invokevirtual 252, 3) := by decide +kernel
theorem dX10_closesQuarter_85 : decode cX10_closesQuarter 85 = .ok (.iinc 2 1, 3) := by decide +kernel
theorem dX10_closesQuarter_88 : decode cX10_closesQuarter 88 = .ok (.goto (-80), 3) := by decide +kernel
theorem dX10_closesQuarter_91 : decode cX10_closesQuarter 91 = .ok (.iconst 0, 1) := by decide +kernel
theorem dX10_closesQuarter_92 : decode cX10_closesQuarter 92 = .ok (.istore_n 2, 1) := by decide +kernel
theorem dX10_closesQuarter_93 : decode cX10_closesQuarter 93 = .ok (.iload_n 2, 1) := by decide +kernel
theorem dX10_closesQuarter_94 : decode cX10_closesQuarter 94 = .ok (.aload_n 0, 1) := by decide +kernel
theorem dX10_closesQuarter_95 : decode cX10_closesQuarter 95 = .ok (.sipush 1865, 3) := by decide +kernel
theorem dX10_closesQuarter_98 : decode cX10_closesQuarter 98 = .ok (.invokevirtual 174, 3) := by decide +kernel
theorem dX10_closesQuarter_101 : decode cX10_closesQuarter 101 = .ok (.if_icmp .ge 26, 3) := by decide +kernel
theorem dX10_closesQuarter_104 : decode cX10_closesQuarter 104 = .ok (.aload_n 0, 1) := by decide +kernel
theorem dX10_closesQuarter_105 : decode cX10_closesQuarter 105 = .ok (.iload_n 2, 1) := by decide +kernel
theorem dX10_closesQuarter_106 : decode cX10_closesQuarter 106 = .ok (.bipush 13, 2) := by decide +kernel
theorem dX10_closesQuarter_108 : decode cX10_closesQuarter 108 = .ok (.iload_n 1, 1) := by decide +kernel
theorem dX10_closesQuarter_109 : decode cX10_closesQuarter 109 = .ok (.iconst 4, 1) := by decide +kernel
theorem dX10_closesQuarter_110 : decode cX10_closesQuarter 110 = .ok (.irem, 1) := by decide +kernel
theorem dX10_closesQuarter_111 : decode cX10_closesQuarter 111 = .ok (.iadd, 1) := by decide +kernel
theorem dX10_closesQuarter_112 : decode cX10_closesQuarter 112 = .ok (.aload_n 0, 1) := by decide +kernel
theorem dX10_closesQuarter_113 : decode cX10_closesQuarter 113 = .ok (.iload_n 2, 1) := by decide +kernel
theorem dX10_closesQuarter_114 : decode cX10_closesQuarter 114 = .ok (.iconst 2, 1) := by decide +kernel
theorem dX10_closesQuarter_115 : decode cX10_closesQuarter 115 = .ok (.invokevirtual 256, 3) := by decide +kernel
theorem dX10_closesQuarter_118 : decode cX10_closesQuarter 118 = .ok (.invokevirtual 191, 3) := by decide +kernel
theorem dX10_closesQuarter_121 : decode cX10_closesQuarter 121 = .ok (.iinc 2 1, 3) := by decide +kernel
theorem dX10_closesQuarter_124 : decode cX10_closesQuarter 124 = .ok (.goto (-31), 3) := by decide +kernel
theorem dX10_closesQuarter_127 : decode cX10_closesQuarter 127 = .ok (.iload_n 1, 1) := by decide +kernel
theorem dX10_closesQuarter_128 : decode cX10_closesQuarter 128 = .ok (.iconst 4, 1) := by decide +kernel
theorem dX10_closesQuarter_129 : decode cX10_closesQuarter 129 = .ok (.irem, 1) := by decide +kernel
theorem dX10_closesQuarter_130 : decode cX10_closesQuarter 130 = .ok (.iconst 3, 1) := by decide +kernel
theorem dX10_closesQuarter_131 : decode cX10_closesQuarter 131 = .ok (.if_icmp .ne 7, 3) := by decide +kernel
theorem dX10_closesQuarter_134 : decode cX10_closesQuarter 134 = .ok (.aload_n 0, 1) := by decide +kernel
theorem dX10_closesQuarter_135 : decode cX10_closesQuarter 135 = .ok (.invokevirtual 258, 3) := by decide +kernel
theorem dX10_closesQuarter_138 : decode cX10_closesQuarter 138 = .ok (.aload_n 0, 1) := by decide +kernel
theorem dX10_closesQuarter_139 : decode cX10_closesQuarter 139 = .ok (.iconst 0, 1) := by decide +kernel
theorem dX10_closesQuarter_140 : decode cX10_closesQuarter 140 = .ok (.iload_n 1, 1) := by decide +kernel
theorem dX10_closesQuarter_141 : decode cX10_closesQuarter 141 = .ok (.iconst 1, 1) := by decide +kernel
theorem dX10_closesQuarter_142 : decode cX10_closesQuarter 142 = .ok (.iadd, 1) := by decide +kernel
theorem dX10_closesQuarter_143 : decode cX10_closesQuarter 143 = .ok (.invokevirtual 111, 3) := by decide +kernel
theorem dX10_closesQuarter_146 : decode cX10_closesQuarter 146 = .ok (.aload_n 0, 1) := by decide +kernel
theorem dX10_closesQuarter_147 : decode cX10_closesQuarter 147 = .ok (.invokevirtual 118, 3) := by decide +kernel
theorem dX10_closesQuarter_150 : decode cX10_closesQuarter 150 = .ok (.return_, 1) := by decide +kernel
theorem dX10_bookedIn_0 : decode cX10_bookedIn 0 = .ok (.iconst 0, 1) := by decide +kernel
theorem dX10_bookedIn_1 : decode cX10_bookedIn 1 = .ok (.istore_n 3, 1) := by decide +kernel
theorem dX10_bookedIn_2 : decode cX10_bookedIn 2 = .ok (.iconst 4, 1) := by decide +kernel
theorem dX10_bookedIn_3 : decode cX10_bookedIn 3 = .ok (.iload_n 2, 1) := by decide +kernel
theorem dX10_bookedIn_4 : decode cX10_bookedIn 4 = .ok (.imul, 1) := by decide +kernel
theorem dX10_bookedIn_5 : decode cX10_bookedIn 5 = .ok (.istore 4, 2) := by decide +kernel
theorem dX10_bookedIn_7 : decode cX10_bookedIn 7 = .ok (.iload 4, 2) := by decide +kernel
theorem dX10_bookedIn_9 : decode cX10_bookedIn 9 = .ok (.iconst 4, 1) := by decide +kernel
theorem dX10_bookedIn_10 : decode cX10_bookedIn 10 = .ok (.iload_n 2, 1) := by decide +kernel
theorem dX10_bookedIn_11 : decode cX10_bookedIn 11 = .ok (.imul, 1) := by decide +kernel
theorem dX10_bookedIn_12 : decode cX10_bookedIn 12 = .ok (.iconst 4, 1) := by decide +kernel
theorem dX10_bookedIn_13 : decode cX10_bookedIn 13 = .ok (.iadd, 1) := by decide +kernel
theorem dX10_bookedIn_14 : decode cX10_bookedIn 14 = .ok (.if_icmp .ge 27, 3) := by decide +kernel
theorem dX10_bookedIn_17 : decode cX10_bookedIn 17 = .ok (.iload_n 3, 1) := by decide +kernel
theorem dX10_bookedIn_18 : decode cX10_bookedIn 18 = .ok (.aload_n 0, 1) := by decide +kernel
theorem dX10_bookedIn_19 : decode cX10_bookedIn 19 = .ok (.sipush 1545, 3) := by decide +kernel
theorem dX10_bookedIn_22 : decode cX10_bookedIn 22 = .ok (.bipush 64, 2) := by decide +kernel
theorem dX10_bookedIn_24 : decode cX10_bookedIn 24 = .ok (.iload_n 1, 1) := by decide +kernel
theorem dX10_bookedIn_25 : decode cX10_bookedIn 25 = .ok (.imul, 1) := by decide +kernel
theorem dX10_bookedIn_26 : decode cX10_bookedIn 26 = .ok (.iadd, 1) := by decide +kernel
theorem dX10_bookedIn_27 : decode cX10_bookedIn 27 = .ok (.iload 4, 2) := by decide +kernel
theorem dX10_bookedIn_29 : decode cX10_bookedIn 29 = .ok (.iadd, 1) := by decide +kernel
theorem dX10_bookedIn_30 : decode cX10_bookedIn 30 = .ok (.invokevirtual 174, 3) := by decide +kernel
theorem dX10_bookedIn_33 : decode cX10_bookedIn 33 = .ok (.iadd, 1) := by decide +kernel
theorem dX10_bookedIn_34 : decode cX10_bookedIn 34 = .ok (.istore_n 3, 1) := by decide +kernel
theorem dX10_bookedIn_35 : decode cX10_bookedIn 35 = .ok (.iinc 4 1, 3) := by decide +kernel
theorem dX10_bookedIn_38 : decode cX10_bookedIn 38 = .ok (.goto (-31), 3) := by decide +kernel
theorem dX10_bookedIn_41 : decode cX10_bookedIn 41 = .ok (.iload_n 3, 1) := by decide +kernel
theorem dX10_bookedIn_42 : decode cX10_bookedIn 42 = .ok (.ireturn, 1) := by decide +kernel
theorem dX10_closesYear_0 : decode cX10_closesYear 0 = .ok (.aload_n 0, 1) := by decide +kernel
theorem dX10_closesYear_1 : decode cX10_closesYear 1 = .ok (.invokevirtual 233, 3) := by decide +kernel
theorem dX10_closesYear_4 : decode cX10_closesYear 4 = .ok (.istore_n 1, 1) := by decide +kernel
theorem dX10_closesYear_5 : decode cX10_closesYear 5 = .ok (.iconst 0, 1) := by decide +kernel
theorem dX10_closesYear_6 : decode cX10_closesYear 6 = .ok (.istore_n 2, 1) := by decide +kernel
theorem dX10_closesYear_7 : decode cX10_closesYear 7 = .ok (.iload_n 2, 1) := by decide +kernel
theorem dX10_closesYear_8 : decode cX10_closesYear 8 = .ok (.aload_n 0, 1) := by decide +kernel
theorem dX10_closesYear_9 : decode cX10_closesYear 9 = .ok (.getfield 94, 3) := by decide +kernel
theorem dX10_closesYear_12 : decode cX10_closesYear 12 = .ok (.if_icmp .ge 62, 3) := by decide +kernel
theorem dX10_closesYear_15 : decode cX10_closesYear 15 = .ok (.aload_n 0, 1) := by decide +kernel
theorem dX10_closesYear_16 : decode cX10_closesYear 16 = .ok (.iload_n 2, 1) := by decide +kernel
theorem dX10_closesYear_17 : decode cX10_closesYear 17 = .ok (.iload_n 1, 1) := by decide +kernel
theorem dX10_closesYear_18 : decode cX10_closesYear 18 = .ok (.invokevirtual 230, 3) := by decide +kernel
theorem dX10_closesYear_21 : decode cX10_closesYear 21 = .ok (.aload_n 0, 1) := by decide +kernel
theorem dX10_closesYear_22 : decode cX10_closesYear 22 = .ok (.iload_n 2, 1) := by decide +kernel
theorem dX10_closesYear_23 : decode cX10_closesYear 23 = .ok (.invokevirtual 237, 3) := by decide +kernel
theorem dX10_closesYear_26 : decode cX10_closesYear 26 = .ok (.istore_n 3, 1) := by decide +kernel
theorem dX10_closesYear_27 : decode cX10_closesYear 27 = .ok (.aload_n 0, 1) := by decide +kernel
theorem dX10_closesYear_28 : decode cX10_closesYear 28 = .ok (.sipush 1801, 3) := by decide +kernel
theorem dX10_closesYear_31 : decode cX10_closesYear 31 = .ok (.bipush 16, 2) := by decide +kernel
theorem dX10_closesYear_33 : decode cX10_closesYear 33 = .ok (.iload_n 2, 1) := by decide +kernel
theorem dX10_closesYear_34 : decode cX10_closesYear 34 = .ok (.imul, 1) := by decide +kernel
theorem dX10_closesYear_35 : decode cX10_closesYear 35 = .ok (.iadd, 1) := by decide +kernel
theorem dX10_closesYear_36 : decode cX10_closesYear 36 = .ok (.iload_n 1, 1) := by decide +kernel
theorem dX10_closesYear_37 : decode cX10_closesYear 37 = .ok (.iadd, 1) := by decide +kernel
theorem dX10_closesYear_38 : decode cX10_closesYear 38 = .ok (.iload_n 3, 1) := by decide +kernel
theorem dX10_closesYear_39 : decode cX10_closesYear 39 = .ok (.invokevirtual 111, 3) := by decide +kernel
theorem dX10_closesYear_42 : decode cX10_closesYear 42 = .ok (.aload_n 0, 1) := by decide +kernel
theorem dX10_closesYear_43 : decode cX10_closesYear 43 = .ok (.iload_n 2, 1) := by decide +kernel
theorem dX10_closesYear_44 : decode cX10_closesYear 44 = .ok (.iconst 1, 1) := by decide +kernel
theorem dX10_closesYear_45 : decode cX10_closesYear 45 = .ok (.aload_n 0, 1) := by decide +kernel
theorem dX10_closesYear_46 : decode cX10_closesYear 46 = .ok (.iload_n 3, 1) := by decide +kernel
theorem dX10_closesYear_47 : decode cX10_closesYear 47 = .ok (.aload_n 0, 1) := by decide +kernel
theorem dX10_closesYear_48 : decode cX10_closesYear 48 = .ok (.getfield 32, 3) := by decide +kernel
theorem dX10_closesYear_51 : decode cX10_closesYear 51 = .ok (.iconst 2, 1) := by decide +kernel
theorem dX10_closesYear_52 : decode cX10_closesYear 52 = .ok (.iaload, 1) := by decide +kernel
theorem dX10_closesYear_53 : decode cX10_closesYear 53 = .ok (.invokevirtual 249, 3) := by decide +kernel
theorem dX10_closesYear_56 : decode cX10_closesYear 56 = .ok (.aload_n 0, 1) := by decide +kernel
theorem dX10_closesYear_57 : decode cX10_closesYear 57 = .ok (.iload_n 2, 1) := by decide +kernel
theorem dX10_closesYear_58 : decode cX10_closesYear 58 = .ok (.iload_n 1, 1) := by decide +kernel
theorem dX10_closesYear_59 : decode cX10_closesYear 59 = .ok (.invokevirtual 261, 3) := by decide +kernel
theorem dX10_closesYear_62 : decode cX10_closesYear 62 = .ok (.isub, 1) := by decide +kernel
theorem dX10_closesYear_63 : decode cX10_closesYear 63 = .ok (.bipush (-2), 2) := by decide +kernel
theorem dX10_closesYear_65 : decode cX10_closesYear 65 = .ok (.invokevirtual 252, 3) := by decide +kernel
theorem dX10_closesYear_68 : decode cX10_closesYear 68 = .ok (.iinc 2 1, 3) := by decide +kernel
theorem dX10_closesYear_71 : decode cX10_closesYear 71 = .ok (.goto (-64), 3) := by decide +kernel
theorem dX10_closesYear_74 : decode cX10_closesYear 74 = .ok (.iconst 0, 1) := by decide +kernel
theorem dX10_closesYear_75 : decode cX10_closesYear 75 = .ok (.istore_n 2, 1) := by decide +kernel
theorem dX10_closesYear_76 : decode cX10_closesYear 76 = .ok (.iload_n 2, 1) := by decide +kernel
theorem dX10_closesYear_77 : decode cX10_closesYear 77 = .ok (.aload_n 0, 1) := by decide +kernel
theorem dX10_closesYear_78 : decode cX10_closesYear 78 = .ok (.sipush 1865, 3) := by decide +kernel
theorem dX10_closesYear_81 : decode cX10_closesYear 81 = .ok (.invokevirtual 174, 3) := by decide +kernel
theorem dX10_closesYear_84 : decode cX10_closesYear 84 = .ok (.if_icmp .ge 15, 3) := by decide +kernel
theorem dX10_closesYear_87 : decode cX10_closesYear 87 = .ok (.aload_n 0, 1) := by decide +kernel
theorem dX10_closesYear_88 : decode cX10_closesYear 88 = .ok (.iload_n 2, 1) := by decide +kernel
theorem dX10_closesYear_89 : decode cX10_closesYear 89 = .ok (.iload_n 1, 1) := by decide +kernel
theorem dX10_closesYear_90 : decode cX10_closesYear 90 = .ok (.invokevirtual 264, 3) := by decide +kernel
theorem dX10_closesYear_93 : decode cX10_closesYear 93 = .ok (.iinc 2 1, 3) := by decide +kernel
theorem dX10_closesYear_96 : decode cX10_closesYear 96 = .ok (.goto (-20), 3) := by decide +kernel
theorem dX10_closesYear_99 : decode cX10_closesYear 99 = .ok (.return_, 1) := by decide +kernel
theorem dX10_intervalOf_0 : decode cX10_intervalOf 0 = .ok (.iload_n 2, 1) := by decide +kernel
theorem dX10_intervalOf_1 : decode cX10_intervalOf 1 = .ok (.aload_n 0, 1) := by decide +kernel
theorem dX10_intervalOf_2 : decode cX10_intervalOf 2 = .ok (.iload_n 1, 1) := by decide +kernel
theorem dX10_intervalOf_3 : decode cX10_intervalOf 3 = .ok (.iconst 5, 1) := by decide +kernel
theorem dX10_intervalOf_4 : decode cX10_intervalOf 4 = .ok (.invokevirtual 256, 3) := by decide +kernel
theorem dX10_intervalOf_7 : decode cX10_intervalOf 7 = .ok (.iconst 4, 1) := by decide +kernel
theorem dX10_intervalOf_8 : decode cX10_intervalOf 8 = .ok (.idiv, 1) := by decide +kernel
theorem dX10_intervalOf_9 : decode cX10_intervalOf 9 = .ok (.isub, 1) := by decide +kernel
theorem dX10_intervalOf_10 : decode cX10_intervalOf 10 = .ok (.ireturn, 1) := by decide +kernel
theorem dX10_adjustedBy_0 : decode cX10_adjustedBy 0 = .ok (.aload_n 0, 1) := by decide +kernel
theorem dX10_adjustedBy_1 : decode cX10_adjustedBy 1 = .ok (.aload_n 0, 1) := by decide +kernel
theorem dX10_adjustedBy_2 : decode cX10_adjustedBy 2 = .ok (.iload_n 1, 1) := by decide +kernel
theorem dX10_adjustedBy_3 : decode cX10_adjustedBy 3 = .ok (.iconst 3, 1) := by decide +kernel
theorem dX10_adjustedBy_4 : decode cX10_adjustedBy 4 = .ok (.invokevirtual 256, 3) := by decide +kernel
theorem dX10_adjustedBy_7 : decode cX10_adjustedBy 7 = .ok (.i2l, 1) := by decide +kernel
theorem dX10_adjustedBy_8 : decode cX10_adjustedBy 8 = .ok (.iload_n 2, 1) := by decide +kernel
theorem dX10_adjustedBy_9 : decode cX10_adjustedBy 9 = .ok (.iload_n 3, 1) := by decide +kernel
theorem dX10_adjustedBy_10 : decode cX10_adjustedBy 10 = .ok (.isub, 1) := by decide +kernel
theorem dX10_adjustedBy_11 : decode cX10_adjustedBy 11 = .ok (.i2l, 1) := by decide +kernel
theorem dX10_adjustedBy_12 : decode cX10_adjustedBy 12 = .ok (.lmul, 1) := by decide +kernel
theorem dX10_adjustedBy_13 : decode cX10_adjustedBy 13 = .ok (.aload_n 0, 1) := by decide +kernel
theorem dX10_adjustedBy_14 : decode cX10_adjustedBy 14 = .ok (.iload_n 1, 1) := by decide +kernel
theorem dX10_adjustedBy_15 : decode cX10_adjustedBy 15 = .ok (.iconst 4, 1) := by decide +kernel
theorem dX10_adjustedBy_16 : decode cX10_adjustedBy 16 = .ok (.invokevirtual 256, 3) := by decide +kernel
theorem dX10_adjustedBy_19 : decode cX10_adjustedBy 19 = .ok (.i2l, 1) := by decide +kernel
theorem dX10_adjustedBy_20 : decode cX10_adjustedBy 20 = .ok (.aload_n 0, 1) := by decide +kernel
theorem dX10_adjustedBy_21 : decode cX10_adjustedBy 21 = .ok (.getfield 32, 3) := by decide +kernel
theorem dX10_adjustedBy_24 : decode cX10_adjustedBy 24 = .ok (.iconst 1, 1) := by decide +kernel
theorem dX10_adjustedBy_25 : decode cX10_adjustedBy 25 = .ok (.iaload, 1) := by decide +kernel
theorem dX10_adjustedBy_26 : decode cX10_adjustedBy 26 = .ok (.i2l, 1) := by decide +kernel
theorem dX10_adjustedBy_27 : decode cX10_adjustedBy 27 = .ok (.lmul, 1) := by decide +kernel
theorem dX10_adjustedBy_28 : decode cX10_adjustedBy 28 = .ok (.invokevirtual 267, 3) := by decide +kernel
theorem dX10_adjustedBy_31 : decode cX10_adjustedBy 31 = .ok (.lreturn, 1) := by decide +kernel
theorem dX10_lastBy_0 : decode cX10_lastBy 0 = .ok (.aload_n 0, 1) := by decide +kernel
theorem dX10_lastBy_1 : decode cX10_lastBy 1 = .ok (.aload_n 0, 1) := by decide +kernel
theorem dX10_lastBy_2 : decode cX10_lastBy 2 = .ok (.iload_n 1, 1) := by decide +kernel
theorem dX10_lastBy_3 : decode cX10_lastBy 3 = .ok (.iconst 3, 1) := by decide +kernel
theorem dX10_lastBy_4 : decode cX10_lastBy 4 = .ok (.invokevirtual 256, 3) := by decide +kernel
theorem dX10_lastBy_7 : decode cX10_lastBy 7 = .ok (.i2l, 1) := by decide +kernel
theorem dX10_lastBy_8 : decode cX10_lastBy 8 = .ok (.iload_n 2, 1) := by decide +kernel
theorem dX10_lastBy_9 : decode cX10_lastBy 9 = .ok (.i2l, 1) := by decide +kernel
theorem dX10_lastBy_10 : decode cX10_lastBy 10 = .ok (.lmul, 1) := by decide +kernel
theorem dX10_lastBy_11 : decode cX10_lastBy 11 = .ok (.iload_n 3, 1) := by decide +kernel
theorem dX10_lastBy_12 : decode cX10_lastBy 12 = .ok (.ifCond .ne 12, 3) := by decide +kernel
theorem dX10_lastBy_15 : decode cX10_lastBy 15 = .ok (.aload_n 0, 1) := by decide +kernel
theorem dX10_lastBy_16 : decode cX10_lastBy 16 = .ok (.getfield 32, 3) := by decide +kernel
theorem dX10_lastBy_19 : decode cX10_lastBy 19 = .ok (.iconst 1, 1) := by decide +kernel
theorem dX10_lastBy_20 : decode cX10_lastBy 20 = .ok (.iaload, 1) := by decide +kernel
theorem dX10_lastBy_21 : decode cX10_lastBy 21 = .ok (.goto 4, 3) := by decide +kernel
theorem dX10_lastBy_24 : decode cX10_lastBy 24 = .ok (.iconst 0, 1) := by decide +kernel
theorem dX10_lastBy_25 : decode cX10_lastBy 25 = .ok (.iload 4, 2) := by decide +kernel
theorem dX10_lastBy_27 : decode cX10_lastBy 27 = .ok (.isub, 1) := by decide +kernel
theorem dX10_lastBy_28 : decode cX10_lastBy 28 = .ok (.i2l, 1) := by decide +kernel
theorem dX10_lastBy_29 : decode cX10_lastBy 29 = .ok (.lmul, 1) := by decide +kernel
theorem dX10_lastBy_30 : decode cX10_lastBy 30 = .ok (.aload_n 0, 1) := by decide +kernel
theorem dX10_lastBy_31 : decode cX10_lastBy 31 = .ok (.iload_n 1, 1) := by decide +kernel
theorem dX10_lastBy_32 : decode cX10_lastBy 32 = .ok (.iconst 4, 1) := by decide +kernel
theorem dX10_lastBy_33 : decode cX10_lastBy 33 = .ok (.invokevirtual 256, 3) := by decide +kernel
theorem dX10_lastBy_36 : decode cX10_lastBy 36 = .ok (.i2l, 1) := by decide +kernel
theorem dX10_lastBy_37 : decode cX10_lastBy 37 = .ok (.aload_n 0, 1) := by decide +kernel
theorem dX10_lastBy_38 : decode cX10_lastBy 38 = .ok (.getfield 32, 3) := by decide +kernel
theorem dX10_lastBy_41 : decode cX10_lastBy 41 = .ok (.iconst 1, 1) := by decide +kernel
theorem dX10_lastBy_42 : decode cX10_lastBy 42 = .ok (.iaload, 1) := by decide +kernel
theorem dX10_lastBy_43 : decode cX10_lastBy 43 = .ok (.i2l, 1) := by decide +kernel
theorem dX10_lastBy_44 : decode cX10_lastBy 44 = .ok (.lmul, 1) := by decide +kernel
theorem dX10_lastBy_45 : decode cX10_lastBy 45 = .ok (.invokevirtual 267, 3) := by decide +kernel
theorem dX10_lastBy_48 : decode cX10_lastBy 48 = .ok (.lreturn, 1) := by decide +kernel
theorem dX10_firstTaken_0 : decode cX10_firstTaken 0 = .ok (.aload_n 0, 1) := by decide +kernel
theorem dX10_firstTaken_1 : decode cX10_firstTaken 1 = .ok (.aload_n 0, 1) := by decide +kernel
theorem dX10_firstTaken_2 : decode cX10_firstTaken 2 = .ok (.iload_n 1, 1) := by decide +kernel
theorem dX10_firstTaken_3 : decode cX10_firstTaken 3 = .ok (.iconst 3, 1) := by decide +kernel
theorem dX10_firstTaken_4 : decode cX10_firstTaken 4 = .ok (.invokevirtual 256, 3) := by decide +kernel
theorem dX10_firstTaken_7 : decode cX10_firstTaken 7 = .ok (.i2l, 1) := by decide +kernel
theorem dX10_firstTaken_8 : decode cX10_firstTaken 8 = .ok (.iload_n 2, 1) := by decide +kernel
theorem dX10_firstTaken_9 : decode cX10_firstTaken 9 = .ok (.i2l, 1) := by decide +kernel
theorem dX10_firstTaken_10 : decode cX10_firstTaken 10 = .ok (.lmul, 1) := by decide +kernel
theorem dX10_firstTaken_11 : decode cX10_firstTaken 11 = .ok (.aload_n 0, 1) := by decide +kernel
theorem dX10_firstTaken_12 : decode cX10_firstTaken 12 = .ok (.getfield 32, 3) := by decide +kernel
theorem dX10_firstTaken_15 : decode cX10_firstTaken 15 = .ok (.iconst 1, 1) := by decide +kernel
theorem dX10_firstTaken_16 : decode cX10_firstTaken 16 = .ok (.iaload, 1) := by decide +kernel
theorem dX10_firstTaken_17 : decode cX10_firstTaken 17 = .ok (.i2l, 1) := by decide +kernel
theorem dX10_firstTaken_18 : decode cX10_firstTaken 18 = .ok (.invokevirtual 267, 3) := by decide +kernel
theorem dX10_firstTaken_21 : decode cX10_firstTaken 21 = .ok (.lreturn, 1) := by decide +kernel
theorem dX10_closesAsset_0 : decode cX10_closesAsset 0 = .ok (.aload_n 0, 1) := by decide +kernel
theorem dX10_closesAsset_1 : decode cX10_closesAsset 1 = .ok (.iload_n 1, 1) := by decide +kernel
theorem dX10_closesAsset_2 : decode cX10_closesAsset 2 = .ok (.bipush 9, 2) := by decide +kernel
theorem dX10_closesAsset_4 : decode cX10_closesAsset 4 = .ok (.invokevirtual 256, 3) := by decide +kernel
theorem dX10_closesAsset_7 : decode cX10_closesAsset 7 = .ok (.iconst 1, 1) := by decide +kernel
theorem dX10_closesAsset_8 : decode cX10_closesAsset 8 = .ok (.if_icmp .ne 4, 3) := by decide +kernel
theorem dX10_closesAsset_11 : decode cX10_closesAsset 11 = .ok (.return_, 1) := by decide +kernel
theorem dX10_closesAsset_12 : decode cX10_closesAsset 12 = .ok (.aload_n 0, 1) := by decide +kernel
theorem dX10_closesAsset_13 : decode cX10_closesAsset 13 = .ok (.iload_n 1, 1) := by decide +kernel
theorem dX10_closesAsset_14 : decode cX10_closesAsset 14 = .ok (.iload_n 2, 1) := by decide +kernel
theorem dX10_closesAsset_15 : decode cX10_closesAsset 15 = .ok (.invokevirtual 270, 3) := by decide +kernel
theorem dX10_closesAsset_18 : decode cX10_closesAsset 18 = .ok (.istore_n 3, 1) := by decide +kernel
theorem dX10_closesAsset_19 : decode cX10_closesAsset 19 = .ok (.aload_n 0, 1) := by decide +kernel
theorem dX10_closesAsset_20 : decode cX10_closesAsset 20 = .ok (.iload_n 1, 1) := by decide +kernel
theorem dX10_closesAsset_21 : decode cX10_closesAsset 21 = .ok (.aload_n 0, 1) := by decide +kernel
theorem dX10_closesAsset_22 : decode cX10_closesAsset 22 = .ok (.iload_n 1, 1) := by decide +kernel
theorem dX10_closesAsset_23 : decode cX10_closesAsset 23 = .ok (.iconst 2, 1) := by decide +kernel
theorem dX10_closesAsset_24 : decode cX10_closesAsset 24 = .ok (.invokevirtual 256, 3) := by decide +kernel
theorem dX10_closesAsset_27 : decode cX10_closesAsset 27 = .ok (.invokevirtual 273, 3) := by decide +kernel
theorem dX10_closesAsset_30 : decode cX10_closesAsset 30 = .ok (.istore 4, 2) := by decide +kernel
theorem dX10_closesAsset_32 : decode cX10_closesAsset 32 = .ok (.aload_n 0, 1) := by decide +kernel
theorem dX10_closesAsset_33 : decode cX10_closesAsset 33 = .ok (.iload_n 1, 1) := by decide +kernel
theorem dX10_closesAsset_34 : decode cX10_closesAsset 34 = .ok (.bipush 17, 2) := by decide +kernel
theorem dX10_closesAsset_36 : decode cX10_closesAsset 36 = .ok (.iload_n 3, 1) := by decide +kernel
theorem dX10_closesAsset_37 : decode cX10_closesAsset 37 = .ok (.iadd, 1) := by decide +kernel
theorem dX10_closesAsset_38 : decode cX10_closesAsset 38 = .ok (.iload 4, 2) := by decide +kernel
theorem dX10_closesAsset_40 : decode cX10_closesAsset 40 = .ok (.invokevirtual 191, 3) := by decide +kernel
theorem dX10_closesAsset_43 : decode cX10_closesAsset 43 = .ok (.aload_n 0, 1) := by decide +kernel
theorem dX10_closesAsset_44 : decode cX10_closesAsset 44 = .ok (.iload_n 1, 1) := by decide +kernel
theorem dX10_closesAsset_45 : decode cX10_closesAsset 45 = .ok (.bipush 37, 2) := by decide +kernel
theorem dX10_closesAsset_47 : decode cX10_closesAsset 47 = .ok (.iload_n 3, 1) := by decide +kernel
theorem dX10_closesAsset_48 : decode cX10_closesAsset 48 = .ok (.iadd, 1) := by decide +kernel
theorem dX10_closesAsset_49 : decode cX10_closesAsset 49 = .ok (.aload_n 0, 1) := by decide +kernel
theorem dX10_closesAsset_50 : decode cX10_closesAsset 50 = .ok (.iload_n 1, 1) := by decide +kernel
theorem dX10_closesAsset_51 : decode cX10_closesAsset 51 = .ok (.iconst 0, 1) := by decide +kernel
theorem dX10_closesAsset_52 : decode cX10_closesAsset 52 = .ok (.invokevirtual 256, 3) := by decide +kernel
theorem dX10_closesAsset_55 : decode cX10_closesAsset 55 = .ok (.invokevirtual 191, 3) := by decide +kernel
theorem dX10_closesAsset_58 : decode cX10_closesAsset 58 = .ok (.aload_n 0, 1) := by decide +kernel
theorem dX10_closesAsset_59 : decode cX10_closesAsset 59 = .ok (.iload_n 1, 1) := by decide +kernel
theorem dX10_closesAsset_60 : decode cX10_closesAsset 60 = .ok (.bipush 47, 2) := by decide +kernel
theorem dX10_closesAsset_62 : decode cX10_closesAsset 62 = .ok (.iload_n 3, 1) := by decide +kernel
theorem dX10_closesAsset_63 : decode cX10_closesAsset 63 = .ok (.iconst 1, 1) := by decide +kernel
theorem dX10_closesAsset_64 : decode cX10_closesAsset 64 = .ok (.iadd, 1) := by decide +kernel
theorem dX10_closesAsset_65 : decode cX10_closesAsset 65 = .ok (.invokevirtual 191, 3) := by decide +kernel
theorem dX10_closesAsset_68 : decode cX10_closesAsset 68 = .ok (.iload_n 3, 1) := by decide +kernel
theorem dX10_closesAsset_69 : decode cX10_closesAsset 69 = .ok (.ifCond .ne 30, 3) := by decide +kernel
theorem dX10_closesAsset_72 : decode cX10_closesAsset 72 = .ok (.aload_n 0, 1) := by decide +kernel
theorem dX10_closesAsset_73 : decode cX10_closesAsset 73 = .ok (.iload_n 1, 1) := by decide +kernel
theorem dX10_closesAsset_74 : decode cX10_closesAsset 74 = .ok (.bipush 6, 2) := by decide +kernel
theorem dX10_closesAsset_76 : decode cX10_closesAsset 76 = .ok (.iload 4, 2) := by decide +kernel
theorem dX10_closesAsset_78 : decode cX10_closesAsset 78 = .ok (.invokevirtual 191, 3) := by decide +kernel
theorem dX10_closesAsset_81 : decode cX10_closesAsset 81 = .ok (.aload_n 0, 1) := by decide +kernel
theorem dX10_closesAsset_82 : decode cX10_closesAsset 82 = .ok (.iload_n 1, 1) := by decide +kernel
theorem dX10_closesAsset_83 : decode cX10_closesAsset 83 = .ok (.bipush 10, 2) := by decide +kernel
theorem dX10_closesAsset_85 : decode cX10_closesAsset 85 = .ok (.aload_n 0, 1) := by decide +kernel
theorem dX10_closesAsset_86 : decode cX10_closesAsset 86 = .ok (.iload_n 1, 1) := by decide +kernel
theorem dX10_closesAsset_87 : decode cX10_closesAsset 87 = .ok (.iload 4, 2) := by decide +kernel
theorem dX10_closesAsset_89 : decode cX10_closesAsset 89 = .ok (.invokevirtual 276, 3) := by decide +kernel
theorem dX10_closesAsset_92 : decode cX10_closesAsset 92 = .ok (.l2i, 1) := by decide +kernel
theorem dX10_closesAsset_93 : decode cX10_closesAsset 93 = .ok (.invokevirtual 191, 3) := by decide +kernel
theorem dX10_closesAsset_96 : decode cX10_closesAsset 96 = .ok (.goto 39, 3) := by decide +kernel
theorem dX10_closesAsset_99 : decode cX10_closesAsset 99 = .ok (.aload_n 0, 1) := by decide +kernel
theorem dX10_closesAsset_100 : decode cX10_closesAsset 100 = .ok (.iload_n 1, 1) := by decide +kernel
theorem dX10_closesAsset_101 : decode cX10_closesAsset 101 = .ok (.iload 4, 2) := by decide +kernel
theorem dX10_closesAsset_103 : decode cX10_closesAsset 103 = .ok (.aload_n 0, 1) := by decide +kernel
theorem dX10_closesAsset_104 : decode cX10_closesAsset 104 = .ok (.iload_n 1, 1) := by decide +kernel
theorem dX10_closesAsset_105 : decode cX10_closesAsset 105 = .ok (.bipush 6, 2) := by decide +kernel
theorem dX10_closesAsset_107 : decode cX10_closesAsset 107 = .ok (.invokevirtual 256, 3) := by decide +kernel
theorem dX10_closesAsset_110 : decode cX10_closesAsset 110 = .ok (.invokevirtual 280, 3) := by decide +kernel
theorem dX10_closesAsset_113 : decode cX10_closesAsset 113 = .ok (.l2i, 1) := by decide +kernel
theorem dX10_closesAsset_114 : decode cX10_closesAsset 114 = .ok (.istore 5, 2) := by decide +kernel
theorem dX10_closesAsset_116 : decode cX10_closesAsset 116 = .ok (.aload_n 0, 1) := by decide +kernel
theorem dX10_closesAsset_117 : decode cX10_closesAsset 117 = .ok (.iload_n 1, 1) := by decide +kernel
theorem dX10_closesAsset_118 : decode cX10_closesAsset 118 = .ok (.bipush 27, 2) := by decide +kernel
theorem dX10_closesAsset_120 : decode cX10_closesAsset 120 = .ok (.iload_n 3, 1) := by decide +kernel
theorem dX10_closesAsset_121 : decode cX10_closesAsset 121 = .ok (.iadd, 1) := by decide +kernel
theorem dX10_closesAsset_122 : decode cX10_closesAsset 122 = .ok (.iload 5, 2) := by decide +kernel
theorem dX10_closesAsset_124 : decode cX10_closesAsset 124 = .ok (.invokevirtual 191, 3) := by decide +kernel
theorem dX10_closesAsset_127 : decode cX10_closesAsset 127 = .ok (.aload_n 0, 1) := by decide +kernel
theorem dX10_closesAsset_128 : decode cX10_closesAsset 128 = .ok (.iload_n 1, 1) := by decide +kernel
theorem dX10_closesAsset_129 : decode cX10_closesAsset 129 = .ok (.iconst 2, 1) := by decide +kernel
theorem dX10_closesAsset_130 : decode cX10_closesAsset 130 = .ok (.iload 5, 2) := by decide +kernel
theorem dX10_closesAsset_132 : decode cX10_closesAsset 132 = .ok (.invokevirtual 284, 3) := by decide +kernel
theorem dX10_closesAsset_135 : decode cX10_closesAsset 135 = .ok (.aload_n 0, 1) := by decide +kernel
theorem dX10_closesAsset_136 : decode cX10_closesAsset 136 = .ok (.iload_n 1, 1) := by decide +kernel
theorem dX10_closesAsset_137 : decode cX10_closesAsset 137 = .ok (.iconst 4, 1) := by decide +kernel
theorem dX10_closesAsset_138 : decode cX10_closesAsset 138 = .ok (.invokevirtual 256, 3) := by decide +kernel
theorem dX10_closesAsset_141 : decode cX10_closesAsset 141 = .ok (.iconst 1, 1) := by decide +kernel
theorem dX10_closesAsset_142 : decode cX10_closesAsset 142 = .ok (.isub, 1) := by decide +kernel
theorem dX10_closesAsset_143 : decode cX10_closesAsset 143 = .ok (.iload_n 3, 1) := by decide +kernel
theorem dX10_closesAsset_144 : decode cX10_closesAsset 144 = .ok (.isub, 1) := by decide +kernel
theorem dX10_closesAsset_145 : decode cX10_closesAsset 145 = .ok (.istore 5, 2) := by decide +kernel
theorem dX10_closesAsset_147 : decode cX10_closesAsset 147 = .ok (.aload_n 0, 1) := by decide +kernel
theorem dX10_closesAsset_148 : decode cX10_closesAsset 148 = .ok (.iload_n 1, 1) := by decide +kernel
theorem dX10_closesAsset_149 : decode cX10_closesAsset 149 = .ok (.bipush 7, 2) := by decide +kernel
theorem dX10_closesAsset_151 : decode cX10_closesAsset 151 = .ok (.invokevirtual 256, 3) := by decide +kernel
theorem dX10_closesAsset_154 : decode cX10_closesAsset 154 = .ok (.iconst 1, 1) := by decide +kernel
theorem dX10_closesAsset_155 : decode cX10_closesAsset 155 = .ok (.isub, 1) := by decide +kernel
theorem dX10_closesAsset_156 : decode cX10_closesAsset 156 = .ok (.istore 6, 2) := by decide +kernel
theorem dX10_closesAsset_158 : decode cX10_closesAsset 158 = .ok (.iload 6, 2) := by decide +kernel
theorem dX10_closesAsset_160 : decode cX10_closesAsset 160 = .ok (.ifCond .eq 9, 3) := by decide +kernel
theorem dX10_closesAsset_163 : decode cX10_closesAsset 163 = .ok (.iload 6, 2) := by decide +kernel
theorem dX10_closesAsset_165 : decode cX10_closesAsset 165 = .ok (.iconst 1, 1) := by decide +kernel
theorem dX10_closesAsset_166 : decode cX10_closesAsset 166 = .ok (.if_icmp .ne 86, 3) := by decide +kernel
theorem dX10_closesAsset_169 : decode cX10_closesAsset 169 = .ok (.aload_n 0, 1) := by decide +kernel
theorem dX10_closesAsset_170 : decode cX10_closesAsset 170 = .ok (.iload_n 1, 1) := by decide +kernel
theorem dX10_closesAsset_171 : decode cX10_closesAsset 171 = .ok (.iload 5, 2) := by decide +kernel
theorem dX10_closesAsset_173 : decode cX10_closesAsset 173 = .ok (.iload 6, 2) := by decide +kernel
theorem dX10_closesAsset_175 : decode cX10_closesAsset 175 = .ok (.aload_n 0, 1) := by decide +kernel
theorem dX10_closesAsset_176 : decode cX10_closesAsset 176 = .ok (.iload_n 1, 1) := by decide +kernel
theorem dX10_closesAsset_177 : decode cX10_closesAsset 177 = .ok (.bipush 6, 2) := by decide +kernel
theorem dX10_closesAsset_179 : decode cX10_closesAsset 179 = .ok (.invokevirtual 256, 3) := by decide +kernel
theorem dX10_closesAsset_182 : decode cX10_closesAsset 182 = .ok (.invokevirtual 287, 3) := by decide +kernel
theorem dX10_closesAsset_185 : decode cX10_closesAsset 185 = .ok (.lstore 7, 2) := by decide +kernel
theorem dX10_closesAsset_187 : decode cX10_closesAsset 187 = .ok (.aload_n 0, 1) := by decide +kernel
theorem dX10_closesAsset_188 : decode cX10_closesAsset 188 = .ok (.iload_n 1, 1) := by decide +kernel
theorem dX10_closesAsset_189 : decode cX10_closesAsset 189 = .ok (.bipush 8, 2) := by decide +kernel
theorem dX10_closesAsset_191 : decode cX10_closesAsset 191 = .ok (.invokevirtual 256, 3) := by decide +kernel
theorem dX10_closesAsset_194 : decode cX10_closesAsset 194 = .ok (.ifCond .lt 28, 3) := by decide +kernel
theorem dX10_closesAsset_197 : decode cX10_closesAsset 197 = .ok (.lload 7, 2) := by decide +kernel
theorem dX10_closesAsset_199 : decode cX10_closesAsset 199 = .ok (.aload_n 0, 1) := by decide +kernel
theorem dX10_closesAsset_200 : decode cX10_closesAsset 200 = .ok (.iload_n 1, 1) := by decide +kernel
theorem dX10_closesAsset_201 : decode cX10_closesAsset 201 = .ok (.bipush 8, 2) := by decide +kernel
theorem dX10_closesAsset_203 : decode cX10_closesAsset 203 = .ok (.invokevirtual 256, 3) := by decide +kernel

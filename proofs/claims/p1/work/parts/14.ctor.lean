theorem d_H_init_0 : decode m_H_init.2.1 0 = .ok (.aload_n 0, 1) := by decide +kernel
theorem d_H_init_1 : decode m_H_init.2.1 1 = .ok (.invokespecial 1, 3) := by decide +kernel
theorem d_H_init_4 : decode m_H_init.2.1 4 = .ok (.aload_n 0, 1) := by decide +kernel
theorem d_H_init_5 : decode m_H_init.2.1 5 = .ok (.new 7, 3) := by decide +kernel
theorem d_H_init_8 : decode m_H_init.2.1 8 = .ok (.dup, 1) := by decide +kernel
theorem d_H_init_9 : decode m_H_init.2.1 9 = .ok (.invokespecial 9, 3) := by decide +kernel
theorem d_H_init_12 : decode m_H_init.2.1 12 = .ok (.putfield 10, 3) := by decide +kernel
theorem d_H_init_15 : decode m_H_init.2.1 15 = .ok (.aload_n 0, 1) := by decide +kernel
theorem d_H_init_16 : decode m_H_init.2.1 16 = .ok (.new 16, 3) := by decide +kernel
theorem d_H_init_19 : decode m_H_init.2.1 19 = .ok (.dup, 1) := by decide +kernel
theorem d_H_init_20 : decode m_H_init.2.1 20 = .ok (.invokespecial 18, 3) := by decide +kernel
theorem d_H_init_23 : decode m_H_init.2.1 23 = .ok (.putfield 19, 3) := by decide +kernel
theorem d_H_init_26 : decode m_H_init.2.1 26 = .ok (.aload_n 0, 1) := by decide +kernel
theorem d_H_init_27 : decode m_H_init.2.1 27 = .ok (.new 23, 3) := by decide +kernel
theorem d_H_init_30 : decode m_H_init.2.1 30 = .ok (.dup, 1) := by decide +kernel
theorem d_H_init_31 : decode m_H_init.2.1 31 = .ok (.invokespecial 25, 3) := by decide +kernel
theorem d_H_init_34 : decode m_H_init.2.1 34 = .ok (.putfield 26, 3) := by decide +kernel
theorem d_H_init_37 : decode m_H_init.2.1 37 = .ok (.aload_n 0, 1) := by decide +kernel
theorem d_H_init_38 : decode m_H_init.2.1 38 = .ok (.new 23, 3) := by decide +kernel
theorem d_H_init_41 : decode m_H_init.2.1 41 = .ok (.dup, 1) := by decide +kernel
theorem d_H_init_42 : decode m_H_init.2.1 42 = .ok (.invokespecial 25, 3) := by decide +kernel
theorem d_H_init_45 : decode m_H_init.2.1 45 = .ok (.putfield 30, 3) := by decide +kernel
theorem d_H_init_48 : decode m_H_init.2.1 48 = .ok (.aload_n 0, 1) := by decide +kernel
theorem d_H_init_49 : decode m_H_init.2.1 49 = .ok (.iconst (-1), 1) := by decide +kernel
theorem d_H_init_50 : decode m_H_init.2.1 50 = .ok (.putfield 33, 3) := by decide +kernel
theorem d_H_init_53 : decode m_H_init.2.1 53 = .ok (.aload_n 0, 1) := by decide +kernel
theorem d_H_init_54 : decode m_H_init.2.1 54 = .ok (.bipush 12, 2) := by decide +kernel
theorem d_H_init_56 : decode m_H_init.2.1 56 = .ok (.newarray .int, 2) := by decide +kernel
theorem d_H_init_58 : decode m_H_init.2.1 58 = .ok (.putfield 37, 3) := by decide +kernel
theorem d_H_init_61 : decode m_H_init.2.1 61 = .ok (.aload_n 0, 1) := by decide +kernel
theorem d_H_init_62 : decode m_H_init.2.1 62 = .ok (.new 41, 3) := by decide +kernel
theorem d_H_init_65 : decode m_H_init.2.1 65 = .ok (.dup, 1) := by decide +kernel
theorem d_H_init_66 : decode m_H_init.2.1 66 = .ok (.invokespecial 43, 3) := by decide +kernel
theorem d_H_init_69 : decode m_H_init.2.1 69 = .ok (.putfield 44, 3) := by decide +kernel
theorem d_H_init_72 : decode m_H_init.2.1 72 = .ok (.aload_n 0, 1) := by decide +kernel
theorem d_H_init_73 : decode m_H_init.2.1 73 = .ok (.new 48, 3) := by decide +kernel
theorem d_H_init_76 : decode m_H_init.2.1 76 = .ok (.dup, 1) := by decide +kernel
theorem d_H_init_77 : decode m_H_init.2.1 77 = .ok (.invokespecial 50, 3) := by decide +kernel
theorem d_H_init_80 : decode m_H_init.2.1 80 = .ok (.putfield 51, 3) := by decide +kernel
theorem d_H_init_83 : decode m_H_init.2.1 83 = .ok (.return_, 1) := by decide +kernel
theorem d_Pa_init_0 : decode m_Pa_init.2.1 0 = .ok (.aload_n 0, 1) := by decide +kernel
theorem d_Pa_init_1 : decode m_Pa_init.2.1 1 = .ok (.invokespecial 3, 3) := by decide +kernel
theorem d_Pa_init_4 : decode m_Pa_init.2.1 4 = .ok (.aload_n 0, 1) := by decide +kernel
theorem d_Pa_init_5 : decode m_Pa_init.2.1 5 = .ok (.bipush 32, 2) := by decide +kernel
theorem d_Pa_init_7 : decode m_Pa_init.2.1 7 = .ok (.newarray .int, 2) := by decide +kernel
theorem d_Pa_init_9 : decode m_Pa_init.2.1 9 = .ok (.putfield 9, 3) := by decide +kernel
theorem d_Pa_init_12 : decode m_Pa_init.2.1 12 = .ok (.aload_n 0, 1) := by decide +kernel
theorem d_Pa_init_13 : decode m_Pa_init.2.1 13 = .ok (.bipush 32, 2) := by decide +kernel
theorem d_Pa_init_15 : decode m_Pa_init.2.1 15 = .ok (.newarray .int, 2) := by decide +kernel
theorem d_Pa_init_17 : decode m_Pa_init.2.1 17 = .ok (.putfield 15, 3) := by decide +kernel
theorem d_Pa_init_20 : decode m_Pa_init.2.1 20 = .ok (.aload_n 0, 1) := by decide +kernel
theorem d_Pa_init_21 : decode m_Pa_init.2.1 21 = .ok (.bipush 32, 2) := by decide +kernel
theorem d_Pa_init_23 : decode m_Pa_init.2.1 23 = .ok (.newarray .int, 2) := by decide +kernel
theorem d_Pa_init_25 : decode m_Pa_init.2.1 25 = .ok (.putfield 18, 3) := by decide +kernel
theorem d_Pa_init_28 : decode m_Pa_init.2.1 28 = .ok (.aload_n 0, 1) := by decide +kernel
theorem d_Pa_init_29 : decode m_Pa_init.2.1 29 = .ok (.bipush 32, 2) := by decide +kernel
theorem d_Pa_init_31 : decode m_Pa_init.2.1 31 = .ok (.newarray .int, 2) := by decide +kernel
theorem d_Pa_init_33 : decode m_Pa_init.2.1 33 = .ok (.putfield 21, 3) := by decide +kernel
theorem d_Pa_init_36 : decode m_Pa_init.2.1 36 = .ok (.aload_n 0, 1) := by decide +kernel
theorem d_Pa_init_37 : decode m_Pa_init.2.1 37 = .ok (.bipush 32, 2) := by decide +kernel
theorem d_Pa_init_39 : decode m_Pa_init.2.1 39 = .ok (.newarray .int, 2) := by decide +kernel
theorem d_Pa_init_41 : decode m_Pa_init.2.1 41 = .ok (.putfield 24, 3) := by decide +kernel
theorem d_Pa_init_44 : decode m_Pa_init.2.1 44 = .ok (.aload_n 0, 1) := by decide +kernel
theorem d_Pa_init_45 : decode m_Pa_init.2.1 45 = .ok (.sipush 400, 3) := by decide +kernel
theorem d_Pa_init_48 : decode m_Pa_init.2.1 48 = .ok (.newarray .int, 2) := by decide +kernel
theorem d_Pa_init_50 : decode m_Pa_init.2.1 50 = .ok (.putfield 27, 3) := by decide +kernel
theorem d_Pa_init_53 : decode m_Pa_init.2.1 53 = .ok (.aload_n 0, 1) := by decide +kernel
theorem d_Pa_init_54 : decode m_Pa_init.2.1 54 = .ok (.sipush 400, 3) := by decide +kernel
theorem d_Pa_init_57 : decode m_Pa_init.2.1 57 = .ok (.newarray .int, 2) := by decide +kernel
theorem d_Pa_init_59 : decode m_Pa_init.2.1 59 = .ok (.putfield 30, 3) := by decide +kernel
theorem d_Pa_init_62 : decode m_Pa_init.2.1 62 = .ok (.return_, 1) := by decide +kernel
theorem d_Pr_init_0 : decode m_Pr_init.2.1 0 = .ok (.aload_n 0, 1) := by decide +kernel
theorem d_Pr_init_1 : decode m_Pr_init.2.1 1 = .ok (.invokespecial 3, 3) := by decide +kernel
theorem d_Pr_init_4 : decode m_Pr_init.2.1 4 = .ok (.aload_n 0, 1) := by decide +kernel
theorem d_Pr_init_5 : decode m_Pr_init.2.1 5 = .ok (.bipush 12, 2) := by decide +kernel
theorem d_Pr_init_7 : decode m_Pr_init.2.1 7 = .ok (.newarray .int, 2) := by decide +kernel
theorem d_Pr_init_9 : decode m_Pr_init.2.1 9 = .ok (.putfield 9, 3) := by decide +kernel
theorem d_Pr_init_12 : decode m_Pr_init.2.1 12 = .ok (.aload_n 0, 1) := by decide +kernel
theorem d_Pr_init_13 : decode m_Pr_init.2.1 13 = .ok (.bipush 12, 2) := by decide +kernel
theorem d_Pr_init_15 : decode m_Pr_init.2.1 15 = .ok (.newarray .long, 2) := by decide +kernel
theorem d_Pr_init_17 : decode m_Pr_init.2.1 17 = .ok (.putfield 15, 3) := by decide +kernel
theorem d_Pr_init_20 : decode m_Pr_init.2.1 20 = .ok (.aload_n 0, 1) := by decide +kernel
theorem d_Pr_init_21 : decode m_Pr_init.2.1 21 = .ok (.bipush 12, 2) := by decide +kernel
theorem d_Pr_init_23 : decode m_Pr_init.2.1 23 = .ok (.newarray .int, 2) := by decide +kernel
theorem d_Pr_init_25 : decode m_Pr_init.2.1 25 = .ok (.putfield 19, 3) := by decide +kernel
theorem d_Pr_init_28 : decode m_Pr_init.2.1 28 = .ok (.aload_n 0, 1) := by decide +kernel
theorem d_Pr_init_29 : decode m_Pr_init.2.1 29 = .ok (.bipush 12, 2) := by decide +kernel
theorem d_Pr_init_31 : decode m_Pr_init.2.1 31 = .ok (.newarray .long, 2) := by decide +kernel
theorem d_Pr_init_33 : decode m_Pr_init.2.1 33 = .ok (.putfield 22, 3) := by decide +kernel
theorem d_Pr_init_36 : decode m_Pr_init.2.1 36 = .ok (.aload_n 0, 1) := by decide +kernel
theorem d_Pr_init_37 : decode m_Pr_init.2.1 37 = .ok (.sipush 2048, 3) := by decide +kernel
theorem d_Pr_init_40 : decode m_Pr_init.2.1 40 = .ok (.newarray .int, 2) := by decide +kernel
theorem d_Pr_init_42 : decode m_Pr_init.2.1 42 = .ok (.putfield 25, 3) := by decide +kernel
theorem d_Pr_init_45 : decode m_Pr_init.2.1 45 = .ok (.aload_n 0, 1) := by decide +kernel
theorem d_Pr_init_46 : decode m_Pr_init.2.1 46 = .ok (.sipush 2048, 3) := by decide +kernel
theorem d_Pr_init_49 : decode m_Pr_init.2.1 49 = .ok (.newarray .int, 2) := by decide +kernel
theorem d_Pr_init_51 : decode m_Pr_init.2.1 51 = .ok (.putfield 28, 3) := by decide +kernel
theorem d_Pr_init_54 : decode m_Pr_init.2.1 54 = .ok (.aload_n 0, 1) := by decide +kernel
theorem d_Pr_init_55 : decode m_Pr_init.2.1 55 = .ok (.sipush 2048, 3) := by decide +kernel
theorem d_Pr_init_58 : decode m_Pr_init.2.1 58 = .ok (.newarray .int, 2) := by decide +kernel
theorem d_Pr_init_60 : decode m_Pr_init.2.1 60 = .ok (.putfield 31, 3) := by decide +kernel
theorem d_Pr_init_63 : decode m_Pr_init.2.1 63 = .ok (.aload_n 0, 1) := by decide +kernel
theorem d_Pr_init_64 : decode m_Pr_init.2.1 64 = .ok (.sipush 2048, 3) := by decide +kernel
theorem d_Pr_init_67 : decode m_Pr_init.2.1 67 = .ok (.newarray .int, 2) := by decide +kernel
theorem d_Pr_init_69 : decode m_Pr_init.2.1 69 = .ok (.putfield 34, 3) := by decide +kernel
theorem d_Pr_init_72 : decode m_Pr_init.2.1 72 = .ok (.aload_n 0, 1) := by decide +kernel
theorem d_Pr_init_73 : decode m_Pr_init.2.1 73 = .ok (.sipush 2048, 3) := by decide +kernel
theorem d_Pr_init_76 : decode m_Pr_init.2.1 76 = .ok (.newarray .int, 2) := by decide +kernel
theorem d_Pr_init_78 : decode m_Pr_init.2.1 78 = .ok (.putfield 37, 3) := by decide +kernel
theorem d_Pr_init_81 : decode m_Pr_init.2.1 81 = .ok (.aload_n 0, 1) := by decide +kernel
theorem d_Pr_init_82 : decode m_Pr_init.2.1 82 = .ok (.sipush 4096, 3) := by decide +kernel
theorem d_Pr_init_85 : decode m_Pr_init.2.1 85 = .ok (.newarray .int, 2) := by decide +kernel
theorem d_Pr_init_87 : decode m_Pr_init.2.1 87 = .ok (.putfield 40, 3) := by decide +kernel
theorem d_Pr_init_90 : decode m_Pr_init.2.1 90 = .ok (.aload_n 0, 1) := by decide +kernel
theorem d_Pr_init_91 : decode m_Pr_init.2.1 91 = .ok (.sipush 4096, 3) := by decide +kernel
theorem d_Pr_init_94 : decode m_Pr_init.2.1 94 = .ok (.newarray .int, 2) := by decide +kernel
theorem d_Pr_init_96 : decode m_Pr_init.2.1 96 = .ok (.putfield 43, 3) := by decide +kernel
theorem d_Pr_init_99 : decode m_Pr_init.2.1 99 = .ok (.aload_n 0, 1) := by decide +kernel
theorem d_Pr_init_100 : decode m_Pr_init.2.1 100 = .ok (.sipush 4096, 3) := by decide +kernel
theorem d_Pr_init_103 : decode m_Pr_init.2.1 103 = .ok (.newarray .int, 2) := by decide +kernel
theorem d_Pr_init_105 : decode m_Pr_init.2.1 105 = .ok (.putfield 46, 3) := by decide +kernel
theorem d_Pr_init_108 : decode m_Pr_init.2.1 108 = .ok (.return_, 1) := by decide +kernel
theorem d_Ma_init_0 : decode m_Ma_init.2.1 0 = .ok (.aload_n 0, 1) := by decide +kernel
theorem d_Ma_init_1 : decode m_Ma_init.2.1 1 = .ok (.invokespecial 3, 3) := by decide +kernel
theorem d_Ma_init_4 : decode m_Ma_init.2.1 4 = .ok (.aload_n 0, 1) := by decide +kernel
theorem d_Ma_init_5 : decode m_Ma_init.2.1 5 = .ok (.iconst (-1), 1) := by decide +kernel
theorem d_Ma_init_6 : decode m_Ma_init.2.1 6 = .ok (.putfield 9, 3) := by decide +kernel
theorem d_Ma_init_9 : decode m_Ma_init.2.1 9 = .ok (.aload_n 0, 1) := by decide +kernel
theorem d_Ma_init_10 : decode m_Ma_init.2.1 10 = .ok (.bipush 12, 2) := by decide +kernel
theorem d_Ma_init_12 : decode m_Ma_init.2.1 12 = .ok (.newarray .int, 2) := by decide +kernel
theorem d_Ma_init_14 : decode m_Ma_init.2.1 14 = .ok (.putfield 15, 3) := by decide +kernel
theorem d_Ma_init_17 : decode m_Ma_init.2.1 17 = .ok (.aload_n 0, 1) := by decide +kernel
theorem d_Ma_init_18 : decode m_Ma_init.2.1 18 = .ok (.bipush 32, 2) := by decide +kernel
theorem d_Ma_init_20 : decode m_Ma_init.2.1 20 = .ok (.newarray .int, 2) := by decide +kernel
theorem d_Ma_init_22 : decode m_Ma_init.2.1 22 = .ok (.putfield 19, 3) := by decide +kernel
theorem d_Ma_init_25 : decode m_Ma_init.2.1 25 = .ok (.aload_n 0, 1) := by decide +kernel
theorem d_Ma_init_26 : decode m_Ma_init.2.1 26 = .ok (.sipush 400, 3) := by decide +kernel
theorem d_Ma_init_29 : decode m_Ma_init.2.1 29 = .ok (.newarray .int, 2) := by decide +kernel
theorem d_Ma_init_31 : decode m_Ma_init.2.1 31 = .ok (.putfield 22, 3) := by decide +kernel
theorem d_Ma_init_34 : decode m_Ma_init.2.1 34 = .ok (.return_, 1) := by decide +kernel
theorem d_In_init_0 : decode m_In_init.2.1 0 = .ok (.aload_n 0, 1) := by decide +kernel
theorem d_In_init_1 : decode m_In_init.2.1 1 = .ok (.invokespecial 3, 3) := by decide +kernel
theorem d_In_init_4 : decode m_In_init.2.1 4 = .ok (.aload_n 0, 1) := by decide +kernel
theorem d_In_init_5 : decode m_In_init.2.1 5 = .ok (.new 9, 3) := by decide +kernel
theorem d_In_init_8 : decode m_In_init.2.1 8 = .ok (.dup, 1) := by decide +kernel
theorem d_In_init_9 : decode m_In_init.2.1 9 = .ok (.invokespecial 11, 3) := by decide +kernel
theorem d_In_init_12 : decode m_In_init.2.1 12 = .ok (.putfield 12, 3) := by decide +kernel
theorem d_In_init_15 : decode m_In_init.2.1 15 = .ok (.aload_n 0, 1) := by decide +kernel
theorem d_In_init_16 : decode m_In_init.2.1 16 = .ok (.new 18, 3) := by decide +kernel
theorem d_In_init_19 : decode m_In_init.2.1 19 = .ok (.dup, 1) := by decide +kernel
theorem d_In_init_20 : decode m_In_init.2.1 20 = .ok (.invokespecial 20, 3) := by decide +kernel
theorem d_In_init_23 : decode m_In_init.2.1 23 = .ok (.putfield 21, 3) := by decide +kernel
theorem d_In_init_26 : decode m_In_init.2.1 26 = .ok (.aload_n 0, 1) := by decide +kernel
theorem d_In_init_27 : decode m_In_init.2.1 27 = .ok (.new 25, 3) := by decide +kernel
theorem d_In_init_30 : decode m_In_init.2.1 30 = .ok (.dup, 1) := by decide +kernel
theorem d_In_init_31 : decode m_In_init.2.1 31 = .ok (.invokespecial 27, 3) := by decide +kernel
theorem d_In_init_34 : decode m_In_init.2.1 34 = .ok (.putfield 28, 3) := by decide +kernel
theorem d_In_init_37 : decode m_In_init.2.1 37 = .ok (.aload_n 0, 1) := by decide +kernel
theorem d_In_init_38 : decode m_In_init.2.1 38 = .ok (.bipush 12, 2) := by decide +kernel
theorem d_In_init_40 : decode m_In_init.2.1 40 = .ok (.newarray .int, 2) := by decide +kernel
theorem d_In_init_42 : decode m_In_init.2.1 42 = .ok (.putfield 32, 3) := by decide +kernel
theorem d_In_init_45 : decode m_In_init.2.1 45 = .ok (.aload_n 0, 1) := by decide +kernel
theorem d_In_init_46 : decode m_In_init.2.1 46 = .ok (.bipush 16, 2) := by decide +kernel
theorem d_In_init_48 : decode m_In_init.2.1 48 = .ok (.newarray .int, 2) := by decide +kernel
theorem d_In_init_50 : decode m_In_init.2.1 50 = .ok (.putfield 36, 3) := by decide +kernel
theorem d_In_init_53 : decode m_In_init.2.1 53 = .ok (.aload_n 0, 1) := by decide +kernel
theorem d_In_init_54 : decode m_In_init.2.1 54 = .ok (.bipush 12, 2) := by decide +kernel
theorem d_In_init_56 : decode m_In_init.2.1 56 = .ok (.newarray .int, 2) := by decide +kernel
theorem d_In_init_58 : decode m_In_init.2.1 58 = .ok (.putfield 39, 3) := by decide +kernel
theorem d_In_init_61 : decode m_In_init.2.1 61 = .ok (.return_, 1) := by decide +kernel
theorem d_En_init_0 : decode m_En_init.2.1 0 = .ok (.aload_n 0, 1) := by decide +kernel
theorem d_En_init_1 : decode m_En_init.2.1 1 = .ok (.invokespecial 3, 3) := by decide +kernel
theorem d_En_init_4 : decode m_En_init.2.1 4 = .ok (.aload_n 0, 1) := by decide +kernel
theorem d_En_init_5 : decode m_En_init.2.1 5 = .ok (.new 9, 3) := by decide +kernel
theorem d_En_init_8 : decode m_En_init.2.1 8 = .ok (.dup, 1) := by decide +kernel
theorem d_En_init_9 : decode m_En_init.2.1 9 = .ok (.invokespecial 11, 3) := by decide +kernel
theorem d_En_init_12 : decode m_En_init.2.1 12 = .ok (.putfield 12, 3) := by decide +kernel
theorem d_En_init_15 : decode m_En_init.2.1 15 = .ok (.aload_n 0, 1) := by decide +kernel
theorem d_En_init_16 : decode m_En_init.2.1 16 = .ok (.bipush 96, 2) := by decide +kernel
theorem d_En_init_18 : decode m_En_init.2.1 18 = .ok (.newarray .int, 2) := by decide +kernel
theorem d_En_init_20 : decode m_En_init.2.1 20 = .ok (.putfield 18, 3) := by decide +kernel
theorem d_En_init_23 : decode m_En_init.2.1 23 = .ok (.aload_n 0, 1) := by decide +kernel
theorem d_En_init_24 : decode m_En_init.2.1 24 = .ok (.bipush 96, 2) := by decide +kernel
theorem d_En_init_26 : decode m_En_init.2.1 26 = .ok (.newarray .int, 2) := by decide +kernel
theorem d_En_init_28 : decode m_En_init.2.1 28 = .ok (.putfield 22, 3) := by decide +kernel
theorem d_En_init_31 : decode m_En_init.2.1 31 = .ok (.aload_n 0, 1) := by decide +kernel
theorem d_En_init_32 : decode m_En_init.2.1 32 = .ok (.sipush 512, 3) := by decide +kernel
theorem d_En_init_35 : decode m_En_init.2.1 35 = .ok (.newarray .int, 2) := by decide +kernel
theorem d_En_init_37 : decode m_En_init.2.1 37 = .ok (.putfield 25, 3) := by decide +kernel
theorem d_En_init_40 : decode m_En_init.2.1 40 = .ok (.aload_n 0, 1) := by decide +kernel
theorem d_En_init_41 : decode m_En_init.2.1 41 = .ok (.sipush 3072, 3) := by decide +kernel
theorem d_En_init_44 : decode m_En_init.2.1 44 = .ok (.newarray .int, 2) := by decide +kernel
theorem d_En_init_46 : decode m_En_init.2.1 46 = .ok (.putfield 28, 3) := by decide +kernel
theorem d_En_init_49 : decode m_En_init.2.1 49 = .ok (.aload_n 0, 1) := by decide +kernel
theorem d_En_init_50 : decode m_En_init.2.1 50 = .ok (.bipush 32, 2) := by decide +kernel
theorem d_En_init_52 : decode m_En_init.2.1 52 = .ok (.newarray .int, 2) := by decide +kernel
theorem d_En_init_54 : decode m_En_init.2.1 54 = .ok (.putfield 31, 3) := by decide +kernel
theorem d_En_init_57 : decode m_En_init.2.1 57 = .ok (.aload_n 0, 1) := by decide +kernel
theorem d_En_init_58 : decode m_En_init.2.1 58 = .ok (.bipush 32, 2) := by decide +kernel
theorem d_En_init_60 : decode m_En_init.2.1 60 = .ok (.newarray .int, 2) := by decide +kernel
theorem d_En_init_62 : decode m_En_init.2.1 62 = .ok (.putfield 34, 3) := by decide +kernel
theorem d_En_init_65 : decode m_En_init.2.1 65 = .ok (.aload_n 0, 1) := by decide +kernel
theorem d_En_init_66 : decode m_En_init.2.1 66 = .ok (.bipush 32, 2) := by decide +kernel
theorem d_En_init_68 : decode m_En_init.2.1 68 = .ok (.newarray .int, 2) := by decide +kernel
theorem d_En_init_70 : decode m_En_init.2.1 70 = .ok (.putfield 37, 3) := by decide +kernel
theorem d_En_init_73 : decode m_En_init.2.1 73 = .ok (.aload_n 0, 1) := by decide +kernel
theorem d_En_init_74 : decode m_En_init.2.1 74 = .ok (.bipush 32, 2) := by decide +kernel
theorem d_En_init_76 : decode m_En_init.2.1 76 = .ok (.newarray .int, 2) := by decide +kernel
theorem d_En_init_78 : decode m_En_init.2.1 78 = .ok (.putfield 40, 3) := by decide +kernel
theorem d_En_init_81 : decode m_En_init.2.1 81 = .ok (.aload_n 0, 1) := by decide +kernel
theorem d_En_init_82 : decode m_En_init.2.1 82 = .ok (.bipush 32, 2) := by decide +kernel
theorem d_En_init_84 : decode m_En_init.2.1 84 = .ok (.newarray .int, 2) := by decide +kernel
theorem d_En_init_86 : decode m_En_init.2.1 86 = .ok (.putfield 43, 3) := by decide +kernel
theorem d_En_init_89 : decode m_En_init.2.1 89 = .ok (.return_, 1) := by decide +kernel
theorem d_Wo_init_0 : decode m_Wo_init.2.1 0 = .ok (.aload_n 0, 1) := by decide +kernel
theorem d_Wo_init_1 : decode m_Wo_init.2.1 1 = .ok (.invokespecial 3, 3) := by decide +kernel
theorem d_Wo_init_4 : decode m_Wo_init.2.1 4 = .ok (.aload_n 0, 1) := by decide +kernel
theorem d_Wo_init_5 : decode m_Wo_init.2.1 5 = .ok (.new 9, 3) := by decide +kernel
theorem d_Wo_init_8 : decode m_Wo_init.2.1 8 = .ok (.dup, 1) := by decide +kernel
theorem d_Wo_init_9 : decode m_Wo_init.2.1 9 = .ok (.invokespecial 11, 3) := by decide +kernel
theorem d_Wo_init_12 : decode m_Wo_init.2.1 12 = .ok (.putfield 12, 3) := by decide +kernel
theorem d_Wo_init_15 : decode m_Wo_init.2.1 15 = .ok (.aload_n 0, 1) := by decide +kernel
theorem d_Wo_init_16 : decode m_Wo_init.2.1 16 = .ok (.sipush 3200, 3) := by decide +kernel
theorem d_Wo_init_19 : decode m_Wo_init.2.1 19 = .ok (.newarray .int, 2) := by decide +kernel
theorem d_Wo_init_21 : decode m_Wo_init.2.1 21 = .ok (.putfield 18, 3) := by decide +kernel
theorem d_Wo_init_24 : decode m_Wo_init.2.1 24 = .ok (.aload_n 0, 1) := by decide +kernel
theorem d_Wo_init_25 : decode m_Wo_init.2.1 25 = .ok (.bipush 8, 2) := by decide +kernel
theorem d_Wo_init_27 : decode m_Wo_init.2.1 27 = .ok (.newarray .int, 2) := by decide +kernel
theorem d_Wo_init_29 : decode m_Wo_init.2.1 29 = .ok (.putfield 22, 3) := by decide +kernel
theorem d_Wo_init_32 : decode m_Wo_init.2.1 32 = .ok (.aload_n 0, 1) := by decide +kernel
theorem d_Wo_init_33 : decode m_Wo_init.2.1 33 = .ok (.bipush 8, 2) := by decide +kernel
theorem d_Wo_init_35 : decode m_Wo_init.2.1 35 = .ok (.newarray .int, 2) := by decide +kernel
theorem d_Wo_init_37 : decode m_Wo_init.2.1 37 = .ok (.putfield 25, 3) := by decide +kernel
theorem d_Wo_init_40 : decode m_Wo_init.2.1 40 = .ok (.return_, 1) := by decide +kernel
theorem d_Ci_init_0 : decode m_Ci_init.2.1 0 = .ok (.aload_n 0, 1) := by decide +kernel
theorem d_Ci_init_1 : decode m_Ci_init.2.1 1 = .ok (.invokespecial 3, 3) := by decide +kernel
theorem d_Ci_init_4 : decode m_Ci_init.2.1 4 = .ok (.aload_n 0, 1) := by decide +kernel
theorem d_Ci_init_5 : decode m_Ci_init.2.1 5 = .ok (.sipush 10240, 3) := by decide +kernel
theorem d_Ci_init_8 : decode m_Ci_init.2.1 8 = .ok (.newarray .int, 2) := by decide +kernel
theorem d_Ci_init_10 : decode m_Ci_init.2.1 10 = .ok (.putfield 11, 3) := by decide +kernel
theorem d_Ci_init_13 : decode m_Ci_init.2.1 13 = .ok (.aload_n 0, 1) := by decide +kernel
theorem d_Ci_init_14 : decode m_Ci_init.2.1 14 = .ok (.sipush 10240, 3) := by decide +kernel
theorem d_Ci_init_17 : decode m_Ci_init.2.1 17 = .ok (.newarray .int, 2) := by decide +kernel
theorem d_Ci_init_19 : decode m_Ci_init.2.1 19 = .ok (.putfield 15, 3) := by decide +kernel
theorem d_Ci_init_22 : decode m_Ci_init.2.1 22 = .ok (.aload_n 0, 1) := by decide +kernel
theorem d_Ci_init_23 : decode m_Ci_init.2.1 23 = .ok (.sipush 10240, 3) := by decide +kernel
theorem d_Ci_init_26 : decode m_Ci_init.2.1 26 = .ok (.newarray .int, 2) := by decide +kernel
theorem d_Ci_init_28 : decode m_Ci_init.2.1 28 = .ok (.putfield 18, 3) := by decide +kernel
theorem d_Ci_init_31 : decode m_Ci_init.2.1 31 = .ok (.aload_n 0, 1) := by decide +kernel
theorem d_Ci_init_32 : decode m_Ci_init.2.1 32 = .ok (.sipush 10240, 3) := by decide +kernel
theorem d_Ci_init_35 : decode m_Ci_init.2.1 35 = .ok (.newarray .int, 2) := by decide +kernel
theorem d_Ci_init_37 : decode m_Ci_init.2.1 37 = .ok (.putfield 21, 3) := by decide +kernel
theorem d_Ci_init_40 : decode m_Ci_init.2.1 40 = .ok (.aload_n 0, 1) := by decide +kernel
theorem d_Ci_init_41 : decode m_Ci_init.2.1 41 = .ok (.sipush 10240, 3) := by decide +kernel
theorem d_Ci_init_44 : decode m_Ci_init.2.1 44 = .ok (.newarray .int, 2) := by decide +kernel
theorem d_Ci_init_46 : decode m_Ci_init.2.1 46 = .ok (.putfield 24, 3) := by decide +kernel
theorem d_Ci_init_49 : decode m_Ci_init.2.1 49 = .ok (.aload_n 0, 1) := by decide +kernel
theorem d_Ci_init_50 : decode m_Ci_init.2.1 50 = .ok (.sipush 10240, 3) := by decide +kernel
theorem d_Ci_init_53 : decode m_Ci_init.2.1 53 = .ok (.newarray .int, 2) := by decide +kernel
theorem d_Ci_init_55 : decode m_Ci_init.2.1 55 = .ok (.putfield 27, 3) := by decide +kernel
theorem d_Ci_init_58 : decode m_Ci_init.2.1 58 = .ok (.aload_n 0, 1) := by decide +kernel
theorem d_Ci_init_59 : decode m_Ci_init.2.1 59 = .ok (.sipush 8192, 3) := by decide +kernel
theorem d_Ci_init_62 : decode m_Ci_init.2.1 62 = .ok (.newarray .int, 2) := by decide +kernel
theorem d_Ci_init_64 : decode m_Ci_init.2.1 64 = .ok (.putfield 30, 3) := by decide +kernel
theorem d_Ci_init_67 : decode m_Ci_init.2.1 67 = .ok (.aload_n 0, 1) := by decide +kernel
theorem d_Ci_init_68 : decode m_Ci_init.2.1 68 = .ok (.iconst 1, 1) := by decide +kernel
theorem d_Ci_init_69 : decode m_Ci_init.2.1 69 = .ok (.putfield 33, 3) := by decide +kernel
theorem d_Ci_init_72 : decode m_Ci_init.2.1 72 = .ok (.return_, 1) := by decide +kernel
theorem d_So_init_0 : decode m_So_init.2.1 0 = .ok (.aload_n 0, 1) := by decide +kernel
theorem d_So_init_1 : decode m_So_init.2.1 1 = .ok (.invokespecial 5, 3) := by decide +kernel
theorem d_So_init_4 : decode m_So_init.2.1 4 = .ok (.aload_n 0, 1) := by decide +kernel
theorem d_So_init_5 : decode m_So_init.2.1 5 = .ok (.new 1, 3) := by decide +kernel
theorem d_So_init_8 : decode m_So_init.2.1 8 = .ok (.dup, 1) := by decide +kernel
theorem d_So_init_9 : decode m_So_init.2.1 9 = .ok (.invokespecial 11, 3) := by decide +kernel
theorem d_So_init_12 : decode m_So_init.2.1 12 = .ok (.putfield 12, 3) := by decide +kernel
theorem d_So_init_15 : decode m_So_init.2.1 15 = .ok (.aload_n 0, 1) := by decide +kernel
theorem d_So_init_16 : decode m_So_init.2.1 16 = .ok (.new 18, 3) := by decide +kernel
theorem d_So_init_19 : decode m_So_init.2.1 19 = .ok (.dup, 1) := by decide +kernel
theorem d_So_init_20 : decode m_So_init.2.1 20 = .ok (.invokespecial 20, 3) := by decide +kernel
theorem d_So_init_23 : decode m_So_init.2.1 23 = .ok (.putfield 21, 3) := by decide +kernel
theorem d_So_init_26 : decode m_So_init.2.1 26 = .ok (.aload_n 0, 1) := by decide +kernel
theorem d_So_init_27 : decode m_So_init.2.1 27 = .ok (.sipush 20480, 3) := by decide +kernel
theorem d_So_init_30 : decode m_So_init.2.1 30 = .ok (.newarray .int, 2) := by decide +kernel
theorem d_So_init_32 : decode m_So_init.2.1 32 = .ok (.putfield 27, 3) := by decide +kernel
theorem d_So_init_35 : decode m_So_init.2.1 35 = .ok (.aload_n 0, 1) := by decide +kernel
theorem d_So_init_36 : decode m_So_init.2.1 36 = .ok (.sipush 10240, 3) := by decide +kernel
theorem d_So_init_39 : decode m_So_init.2.1 39 = .ok (.newarray .int, 2) := by decide +kernel
theorem d_So_init_41 : decode m_So_init.2.1 41 = .ok (.putfield 31, 3) := by decide +kernel
theorem d_So_init_44 : decode m_So_init.2.1 44 = .ok (.aload_n 0, 1) := by decide +kernel
theorem d_So_init_45 : decode m_So_init.2.1 45 = .ok (.sipush 10240, 3) := by decide +kernel
theorem d_So_init_48 : decode m_So_init.2.1 48 = .ok (.newarray .int, 2) := by decide +kernel
theorem d_So_init_50 : decode m_So_init.2.1 50 = .ok (.putfield 34, 3) := by decide +kernel
theorem d_So_init_53 : decode m_So_init.2.1 53 = .ok (.aload_n 0, 1) := by decide +kernel
theorem d_So_init_54 : decode m_So_init.2.1 54 = .ok (.sipush 10240, 3) := by decide +kernel
theorem d_So_init_57 : decode m_So_init.2.1 57 = .ok (.newarray .int, 2) := by decide +kernel
theorem d_So_init_59 : decode m_So_init.2.1 59 = .ok (.putfield 37, 3) := by decide +kernel
theorem d_So_init_62 : decode m_So_init.2.1 62 = .ok (.aload_n 0, 1) := by decide +kernel
theorem d_So_init_63 : decode m_So_init.2.1 63 = .ok (.bipush 14, 2) := by decide +kernel
theorem d_So_init_65 : decode m_So_init.2.1 65 = .ok (.newarray .int, 2) := by decide +kernel
theorem d_So_init_67 : decode m_So_init.2.1 67 = .ok (.putfield 40, 3) := by decide +kernel
theorem d_So_init_70 : decode m_So_init.2.1 70 = .ok (.aload_n 0, 1) := by decide +kernel
theorem d_So_init_71 : decode m_So_init.2.1 71 = .ok (.bipush 12, 2) := by decide +kernel
theorem d_So_init_73 : decode m_So_init.2.1 73 = .ok (.newarray .int, 2) := by decide +kernel
theorem d_So_init_75 : decode m_So_init.2.1 75 = .ok (.putfield 43, 3) := by decide +kernel
theorem d_So_init_78 : decode m_So_init.2.1 78 = .ok (.aload_n 0, 1) := by decide +kernel
theorem d_So_init_79 : decode m_So_init.2.1 79 = .ok (.sipush 10240, 3) := by decide +kernel
theorem d_So_init_82 : decode m_So_init.2.1 82 = .ok (.newarray .int, 2) := by decide +kernel
theorem d_So_init_84 : decode m_So_init.2.1 84 = .ok (.putfield 46, 3) := by decide +kernel
theorem d_So_init_87 : decode m_So_init.2.1 87 = .ok (.aload_n 0, 1) := by decide +kernel
theorem d_So_init_88 : decode m_So_init.2.1 88 = .ok (.sipush 10240, 3) := by decide +kernel
theorem d_So_init_91 : decode m_So_init.2.1 91 = .ok (.newarray .int, 2) := by decide +kernel
theorem d_So_init_93 : decode m_So_init.2.1 93 = .ok (.putfield 49, 3) := by decide +kernel
theorem d_So_init_96 : decode m_So_init.2.1 96 = .ok (.aload_n 0, 1) := by decide +kernel
theorem d_So_init_97 : decode m_So_init.2.1 97 = .ok (.sipush 10240, 3) := by decide +kernel
theorem d_So_init_100 : decode m_So_init.2.1 100 = .ok (.newarray .int, 2) := by decide +kernel
theorem d_So_init_102 : decode m_So_init.2.1 102 = .ok (.putfield 52, 3) := by decide +kernel
theorem d_So_init_105 : decode m_So_init.2.1 105 = .ok (.return_, 1) := by decide +kernel
theorem d_Cl_init_0 : decode m_Cl_init.2.1 0 = .ok (.aload_n 0, 1) := by decide +kernel
theorem d_Cl_init_1 : decode m_Cl_init.2.1 1 = .ok (.invokespecial 1, 3) := by decide +kernel
theorem d_Cl_init_4 : decode m_Cl_init.2.1 4 = .ok (.aload_n 0, 1) := by decide +kernel
theorem d_Cl_init_5 : decode m_Cl_init.2.1 5 = .ok (.ldc 9, 2) := by decide +kernel
theorem d_Cl_init_7 : decode m_Cl_init.2.1 7 = .ok (.newarray .int, 2) := by decide +kernel
theorem d_Cl_init_9 : decode m_Cl_init.2.1 9 = .ok (.putfield 10, 3) := by decide +kernel
theorem d_Cl_init_12 : decode m_Cl_init.2.1 12 = .ok (.aload_n 0, 1) := by decide +kernel
theorem d_Cl_init_13 : decode m_Cl_init.2.1 13 = .ok (.sipush 20480, 3) := by decide +kernel
theorem d_Cl_init_16 : decode m_Cl_init.2.1 16 = .ok (.newarray .int, 2) := by decide +kernel
theorem d_Cl_init_18 : decode m_Cl_init.2.1 18 = .ok (.putfield 16, 3) := by decide +kernel
theorem d_Cl_init_21 : decode m_Cl_init.2.1 21 = .ok (.aload_n 0, 1) := by decide +kernel
theorem d_Cl_init_22 : decode m_Cl_init.2.1 22 = .ok (.sipush 10240, 3) := by decide +kernel
theorem d_Cl_init_25 : decode m_Cl_init.2.1 25 = .ok (.newarray .int, 2) := by decide +kernel
theorem d_Cl_init_27 : decode m_Cl_init.2.1 27 = .ok (.putfield 19, 3) := by decide +kernel
theorem d_Cl_init_30 : decode m_Cl_init.2.1 30 = .ok (.return_, 1) := by decide +kernel
theorem d_Ch_init_0 : decode m_Ch_init.2.1 0 = .ok (.aload_n 0, 1) := by decide +kernel
theorem d_Ch_init_1 : decode m_Ch_init.2.1 1 = .ok (.invokespecial 3, 3) := by decide +kernel
theorem d_Ch_init_4 : decode m_Ch_init.2.1 4 = .ok (.aload_n 0, 1) := by decide +kernel
theorem d_Ch_init_5 : decode m_Ch_init.2.1 5 = .ok (.sipush 20480, 3) := by decide +kernel
theorem d_Ch_init_8 : decode m_Ch_init.2.1 8 = .ok (.newarray .int, 2) := by decide +kernel
theorem d_Ch_init_10 : decode m_Ch_init.2.1 10 = .ok (.putfield 11, 3) := by decide +kernel
theorem d_Ch_init_13 : decode m_Ch_init.2.1 13 = .ok (.aload_n 0, 1) := by decide +kernel
theorem d_Ch_init_14 : decode m_Ch_init.2.1 14 = .ok (.sipush 20480, 3) := by decide +kernel
theorem d_Ch_init_17 : decode m_Ch_init.2.1 17 = .ok (.newarray .int, 2) := by decide +kernel
theorem d_Ch_init_19 : decode m_Ch_init.2.1 19 = .ok (.putfield 17, 3) := by decide +kernel
theorem d_Ch_init_22 : decode m_Ch_init.2.1 22 = .ok (.return_, 1) := by decide +kernel
theorem oi_H_1 : q_OI "ProofHall" 1 := List.mem_of_getElem? (i := 36) (by decide +kernel)
theorem n_H_7 : q_N "ProofHall" 7 1 9 := ⟨_, _, rfl, List.mem_of_getElem? (i := 39) (by decide +kernel), List.mem_of_getElem? (i := 40) (by decide +kernel), List.mem_of_getElem? (i := 2) (by decide +kernel)⟩
theorem cd_Sc_init : q_cd m_Sc_init := ⟨by decide +kernel, List.mem_of_getElem? (i := 2) (by decide +kernel), Or.inl ⟨rfl, List.mem_of_getElem? (i := 43) (by decide +kernel)⟩⟩
theorem cI_H_9 : q_CI "ProofHall" 9 m_Sc_init 0 := ⟨⟨cd_Sc_init, by decide, by decide, by decide, by decide +kernel⟩, Or.inl (List.mem_of_getElem? (i := 41) (by decide +kernel)), List.mem_of_getElem? (i := 42) (by decide +kernel), rfl, List.mem_of_getElem? (i := 43) (by decide +kernel)⟩
theorem g_H_10_i : q_GR "ProofHall" 10 0 0 "<init>" := ⟨"LProofHall$Scanner;", by decide, ⟨_, _, _, rfl, by decide, rfl, List.mem_of_getElem? (i := 619) (by decide +kernel), Or.inr ⟨rfl, rfl, rfl⟩⟩⟩
theorem n_H_16 : q_N "ProofHall" 16 3 15 := ⟨_, _, rfl, List.mem_of_getElem? (i := 137) (by decide +kernel), List.mem_of_getElem? (i := 138) (by decide +kernel), List.mem_of_getElem? (i := 7) (by decide +kernel)⟩
theorem oi_Pa_3 : q_OI "ProofHall$Parser" 3 := List.mem_of_getElem? (i := 142) (by decide +kernel)
theorem g_Pa_9_i : q_GR "ProofHall$Parser" 9 3 2 "<init>" := ⟨"[I", by decide, ⟨_, _, _, rfl, by decide, rfl, List.mem_of_getElem? (i := 145) (by decide +kernel), Or.inr ⟨rfl, rfl, rfl⟩⟩⟩
theorem g_Pa_15_i : q_GR "ProofHall$Parser" 15 3 3 "<init>" := ⟨"[I", by decide, ⟨_, _, _, rfl, by decide, rfl, List.mem_of_getElem? (i := 146) (by decide +kernel), Or.inr ⟨rfl, rfl, rfl⟩⟩⟩
theorem g_Pa_18_i : q_GR "ProofHall$Parser" 18 3 4 "<init>" := ⟨"[I", by decide, ⟨_, _, _, rfl, by decide, rfl, List.mem_of_getElem? (i := 147) (by decide +kernel), Or.inr ⟨rfl, rfl, rfl⟩⟩⟩
theorem g_Pa_21_i : q_GR "ProofHall$Parser" 21 3 5 "<init>" := ⟨"[I", by decide, ⟨_, _, _, rfl, by decide, rfl, List.mem_of_getElem? (i := 148) (by decide +kernel), Or.inr ⟨rfl, rfl, rfl⟩⟩⟩
theorem g_Pa_24_i : q_GR "ProofHall$Parser" 24 3 6 "<init>" := ⟨"[I", by decide, ⟨_, _, _, rfl, by decide, rfl, List.mem_of_getElem? (i := 149) (by decide +kernel), Or.inr ⟨rfl, rfl, rfl⟩⟩⟩
theorem g_Pa_27_i : q_GR "ProofHall$Parser" 27 3 9 "<init>" := ⟨"[I", by decide, ⟨_, _, _, rfl, by decide, rfl, List.mem_of_getElem? (i := 152) (by decide +kernel), Or.inr ⟨rfl, rfl, rfl⟩⟩⟩
theorem g_Pa_30_i : q_GR "ProofHall$Parser" 30 3 11 "<init>" := ⟨"[I", by decide, ⟨_, _, _, rfl, by decide, rfl, List.mem_of_getElem? (i := 154) (by decide +kernel), Or.inr ⟨rfl, rfl, rfl⟩⟩⟩
theorem cd_Pa_init : q_cd m_Pa_init := ⟨by decide +kernel, List.mem_of_getElem? (i := 7) (by decide +kernel), Or.inl ⟨rfl, List.mem_of_getElem? (i := 141) (by decide +kernel)⟩⟩
theorem cI_H_18 : q_CI "ProofHall" 18 m_Pa_init 0 := ⟨⟨cd_Pa_init, by decide, by decide, by decide, by decide +kernel⟩, Or.inr ⟨"ProofHall", List.mem_of_getElem? (i := 139) (by decide +kernel)⟩, List.mem_of_getElem? (i := 140) (by decide +kernel), rfl, List.mem_of_getElem? (i := 141) (by decide +kernel)⟩
theorem g_H_19_i : q_GR "ProofHall" 19 0 1 "<init>" := ⟨"LProofHall$Parser;", by decide, ⟨_, _, _, rfl, by decide, rfl, List.mem_of_getElem? (i := 620) (by decide +kernel), Or.inr ⟨rfl, rfl, rfl⟩⟩⟩
theorem n_H_23 : q_N "ProofHall" 23 2 21 := ⟨_, _, rfl, List.mem_of_getElem? (i := 189) (by decide +kernel), List.mem_of_getElem? (i := 190) (by decide +kernel), List.mem_of_getElem? (i := 8) (by decide +kernel)⟩
theorem oi_Pr_3 : q_OI "ProofHall$Program" 3 := List.mem_of_getElem? (i := 194) (by decide +kernel)
theorem g_Pr_9_i : q_GR "ProofHall$Program" 9 2 2 "<init>" := ⟨"[I", by decide, ⟨_, _, _, rfl, by decide, rfl, List.mem_of_getElem? (i := 200) (by decide +kernel), Or.inr ⟨rfl, rfl, rfl⟩⟩⟩
theorem g_Pr_15_i : q_GR "ProofHall$Program" 15 2 3 "<init>" := ⟨"[J", by decide, ⟨_, _, _, rfl, by decide, rfl, List.mem_of_getElem? (i := 205) (by decide +kernel), Or.inr ⟨rfl, rfl, rfl⟩⟩⟩
theorem g_Pr_19_i : q_GR "ProofHall$Program" 19 2 5 "<init>" := ⟨"[I", by decide, ⟨_, _, _, rfl, by decide, rfl, List.mem_of_getElem? (i := 210) (by decide +kernel), Or.inr ⟨rfl, rfl, rfl⟩⟩⟩
theorem g_Pr_22_i : q_GR "ProofHall$Program" 22 2 6 "<init>" := ⟨"[J", by decide, ⟨_, _, _, rfl, by decide, rfl, List.mem_of_getElem? (i := 215) (by decide +kernel), Or.inr ⟨rfl, rfl, rfl⟩⟩⟩
theorem g_Pr_25_i : q_GR "ProofHall$Program" 25 2 12 "<init>" := ⟨"[I", by decide, ⟨_, _, _, rfl, by decide, rfl, List.mem_of_getElem? (i := 233) (by decide +kernel), Or.inr ⟨rfl, rfl, rfl⟩⟩⟩
theorem g_Pr_28_i : q_GR "ProofHall$Program" 28 2 13 "<init>" := ⟨"[I", by decide, ⟨_, _, _, rfl, by decide, rfl, List.mem_of_getElem? (i := 236) (by decide +kernel), Or.inr ⟨rfl, rfl, rfl⟩⟩⟩
theorem g_Pr_31_i : q_GR "ProofHall$Program" 31 2 14 "<init>" := ⟨"[I", by decide, ⟨_, _, _, rfl, by decide, rfl, List.mem_of_getElem? (i := 239) (by decide +kernel), Or.inr ⟨rfl, rfl, rfl⟩⟩⟩
theorem g_Pr_34_i : q_GR "ProofHall$Program" 34 2 15 "<init>" := ⟨"[I", by decide, ⟨_, _, _, rfl, by decide, rfl, List.mem_of_getElem? (i := 242) (by decide +kernel), Or.inr ⟨rfl, rfl, rfl⟩⟩⟩
theorem g_Pr_37_i : q_GR "ProofHall$Program" 37 2 16 "<init>" := ⟨"[I", by decide, ⟨_, _, _, rfl, by decide, rfl, List.mem_of_getElem? (i := 245) (by decide +kernel), Or.inr ⟨rfl, rfl, rfl⟩⟩⟩
theorem g_Pr_40_i : q_GR "ProofHall$Program" 40 2 18 "<init>" := ⟨"[I", by decide, ⟨_, _, _, rfl, by decide, rfl, List.mem_of_getElem? (i := 251) (by decide +kernel), Or.inr ⟨rfl, rfl, rfl⟩⟩⟩
theorem g_Pr_43_i : q_GR "ProofHall$Program" 43 2 19 "<init>" := ⟨"[I", by decide, ⟨_, _, _, rfl, by decide, rfl, List.mem_of_getElem? (i := 255) (by decide +kernel), Or.inr ⟨rfl, rfl, rfl⟩⟩⟩
theorem g_Pr_46_i : q_GR "ProofHall$Program" 46 2 20 "<init>" := ⟨"[I", by decide, ⟨_, _, _, rfl, by decide, rfl, List.mem_of_getElem? (i := 259) (by decide +kernel), Or.inr ⟨rfl, rfl, rfl⟩⟩⟩
theorem cd_Pr_init : q_cd m_Pr_init := ⟨by decide +kernel, List.mem_of_getElem? (i := 8) (by decide +kernel), Or.inl ⟨rfl, List.mem_of_getElem? (i := 193) (by decide +kernel)⟩⟩
theorem cI_H_25 : q_CI "ProofHall" 25 m_Pr_init 0 := ⟨⟨cd_Pr_init, by decide, by decide, by decide, by decide +kernel⟩, Or.inr ⟨"ProofHall", List.mem_of_getElem? (i := 191) (by decide +kernel)⟩, List.mem_of_getElem? (i := 192) (by decide +kernel), rfl, List.mem_of_getElem? (i := 193) (by decide +kernel)⟩
theorem g_H_26_i : q_GR "ProofHall" 26 0 2 "<init>" := ⟨"LProofHall$Program;", by decide, ⟨_, _, _, rfl, by decide, rfl, List.mem_of_getElem? (i := 621) (by decide +kernel), Or.inl rfl⟩⟩
theorem g_H_30_i : q_GR "ProofHall" 30 0 3 "<init>" := ⟨"LProofHall$Program;", by decide, ⟨_, _, _, rfl, by decide, rfl, List.mem_of_getElem? (i := 622) (by decide +kernel), Or.inl rfl⟩⟩
theorem g_H_33_i : q_G "ProofHall" 33 0 6 "I" "<init>" := ⟨_, _, _, rfl, by decide, rfl, List.mem_of_getElem? (i := 625) (by decide +kernel), Or.inl rfl⟩
theorem g_H_37_i : q_GR "ProofHall" 37 0 7 "<init>" := ⟨"[I", by decide, ⟨_, _, _, rfl, by decide, rfl, List.mem_of_getElem? (i := 626) (by decide +kernel), Or.inr ⟨rfl, rfl, rfl⟩⟩⟩
theorem n_H_41 : q_N "ProofHall" 41 4 7 := ⟨_, _, rfl, List.mem_of_getElem? (i := 306) (by decide +kernel), List.mem_of_getElem? (i := 307) (by decide +kernel), List.mem_of_getElem? (i := 9) (by decide +kernel)⟩
theorem oi_Ma_3 : q_OI "ProofHall$Machine" 3 := List.mem_of_getElem? (i := 311) (by decide +kernel)
theorem g_Ma_9_i : q_G "ProofHall$Machine" 9 4 1 "I" "<init>" := ⟨_, _, _, rfl, by decide, rfl, List.mem_of_getElem? (i := 315) (by decide +kernel), Or.inl rfl⟩
theorem g_Ma_15_i : q_GR "ProofHall$Machine" 15 4 2 "<init>" := ⟨"[I", by decide, ⟨_, _, _, rfl, by decide, rfl, List.mem_of_getElem? (i := 317) (by decide +kernel), Or.inr ⟨rfl, rfl, rfl⟩⟩⟩
theorem g_Ma_19_i : q_GR "ProofHall$Machine" 19 4 3 "<init>" := ⟨"[I", by decide, ⟨_, _, _, rfl, by decide, rfl, List.mem_of_getElem? (i := 320) (by decide +kernel), Or.inr ⟨rfl, rfl, rfl⟩⟩⟩
theorem g_Ma_22_i : q_GR "ProofHall$Machine" 22 4 4 "<init>" := ⟨"[I", by decide, ⟨_, _, _, rfl, by decide, rfl, List.mem_of_getElem? (i := 321) (by decide +kernel), Or.inr ⟨rfl, rfl, rfl⟩⟩⟩
theorem cd_Ma_init : q_cd m_Ma_init := ⟨by decide +kernel, List.mem_of_getElem? (i := 9) (by decide +kernel), Or.inl ⟨rfl, List.mem_of_getElem? (i := 310) (by decide +kernel)⟩⟩
theorem cI_H_43 : q_CI "ProofHall" 43 m_Ma_init 0 := ⟨⟨cd_Ma_init, by decide, by decide, by decide, by decide +kernel⟩, Or.inr ⟨"ProofHall", List.mem_of_getElem? (i := 308) (by decide +kernel)⟩, List.mem_of_getElem? (i := 309) (by decide +kernel), rfl, List.mem_of_getElem? (i := 310) (by decide +kernel)⟩
theorem g_H_44_i : q_GR "ProofHall" 44 0 8 "<init>" := ⟨"LProofHall$Machine;", by decide, ⟨_, _, _, rfl, by decide, rfl, List.mem_of_getElem? (i := 627) (by decide +kernel), Or.inr ⟨rfl, rfl, rfl⟩⟩⟩
theorem n_H_48 : q_N "ProofHall" 48 8 11 := ⟨_, _, rfl, List.mem_of_getElem? (i := 339) (by decide +kernel), List.mem_of_getElem? (i := 340) (by decide +kernel), List.mem_of_getElem? (i := 10) (by decide +kernel)⟩
theorem oi_In_3 : q_OI "ProofHall$Inquiry" 3 := List.mem_of_getElem? (i := 344) (by decide +kernel)
theorem n_In_9 : q_N "ProofHall$Inquiry" 9 7 16 := ⟨_, _, rfl, List.mem_of_getElem? (i := 345) (by decide +kernel), List.mem_of_getElem? (i := 346) (by decide +kernel), List.mem_of_getElem? (i := 11) (by decide +kernel)⟩
theorem oi_En_3 : q_OI "ProofHall$Encoder" 3 := List.mem_of_getElem? (i := 350) (by decide +kernel)
theorem n_En_9 : q_N "ProofHall$Encoder" 9 6 4 := ⟨_, _, rfl, List.mem_of_getElem? (i := 351) (by decide +kernel), List.mem_of_getElem? (i := 352) (by decide +kernel), List.mem_of_getElem? (i := 12) (by decide +kernel)⟩
theorem oi_Wo_3 : q_OI "ProofHall$Words" 3 := List.mem_of_getElem? (i := 356) (by decide +kernel)
theorem n_Wo_9 : q_N "ProofHall$Words" 9 5 9 := ⟨_, _, rfl, List.mem_of_getElem? (i := 357) (by decide +kernel), List.mem_of_getElem? (i := 358) (by decide +kernel), List.mem_of_getElem? (i := 13) (by decide +kernel)⟩
theorem oi_Ci_3 : q_OI "ProofHall$Circuit" 3 := List.mem_of_getElem? (i := 362) (by decide +kernel)
theorem g_Ci_11_i : q_GR "ProofHall$Circuit" 11 5 0 "<init>" := ⟨"[I", by decide, ⟨_, _, _, rfl, by decide, rfl, List.mem_of_getElem? (i := 363) (by decide +kernel), Or.inr ⟨rfl, rfl, rfl⟩⟩⟩
theorem g_Ci_15_i : q_GR "ProofHall$Circuit" 15 5 1 "<init>" := ⟨"[I", by decide, ⟨_, _, _, rfl, by decide, rfl, List.mem_of_getElem? (i := 365) (by decide +kernel), Or.inr ⟨rfl, rfl, rfl⟩⟩⟩
theorem g_Ci_18_i : q_GR "ProofHall$Circuit" 18 5 2 "<init>" := ⟨"[I", by decide, ⟨_, _, _, rfl, by decide, rfl, List.mem_of_getElem? (i := 367) (by decide +kernel), Or.inr ⟨rfl, rfl, rfl⟩⟩⟩
theorem g_Ci_21_i : q_GR "ProofHall$Circuit" 21 5 3 "<init>" := ⟨"[I", by decide, ⟨_, _, _, rfl, by decide, rfl, List.mem_of_getElem? (i := 369) (by decide +kernel), Or.inr ⟨rfl, rfl, rfl⟩⟩⟩
theorem g_Ci_24_i : q_GR "ProofHall$Circuit" 24 5 4 "<init>" := ⟨"[I", by decide, ⟨_, _, _, rfl, by decide, rfl, List.mem_of_getElem? (i := 371) (by decide +kernel), Or.inr ⟨rfl, rfl, rfl⟩⟩⟩
theorem g_Ci_27_i : q_GR "ProofHall$Circuit" 27 5 5 "<init>" := ⟨"[I", by decide, ⟨_, _, _, rfl, by decide, rfl, List.mem_of_getElem? (i := 372) (by decide +kernel), Or.inr ⟨rfl, rfl, rfl⟩⟩⟩
theorem g_Ci_30_i : q_GR "ProofHall$Circuit" 30 5 6 "<init>" := ⟨"[I", by decide, ⟨_, _, _, rfl, by decide, rfl, List.mem_of_getElem? (i := 373) (by decide +kernel), Or.inr ⟨rfl, rfl, rfl⟩⟩⟩
theorem g_Ci_33_i : q_G "ProofHall$Circuit" 33 5 7 "I" "<init>" := ⟨_, _, _, rfl, by decide, rfl, List.mem_of_getElem? (i := 374) (by decide +kernel), Or.inl rfl⟩
theorem cd_Ci_init : q_cd m_Ci_init := ⟨by decide +kernel, List.mem_of_getElem? (i := 13) (by decide +kernel), Or.inl ⟨rfl, List.mem_of_getElem? (i := 361) (by decide +kernel)⟩⟩
theorem cI_Wo_11 : q_CI "ProofHall$Words" 11 m_Ci_init 0 := ⟨⟨cd_Ci_init, by decide, by decide, by decide, by decide +kernel⟩, Or.inr ⟨"ProofHall", List.mem_of_getElem? (i := 359) (by decide +kernel)⟩, List.mem_of_getElem? (i := 360) (by decide +kernel), rfl, List.mem_of_getElem? (i := 361) (by decide +kernel)⟩
theorem g_Wo_12_i : q_GR "ProofHall$Words" 12 6 0 "<init>" := ⟨"LProofHall$Circuit;", by decide, ⟨_, _, _, rfl, by decide, rfl, List.mem_of_getElem? (i := 399) (by decide +kernel), Or.inr ⟨rfl, rfl, rfl⟩⟩⟩
theorem g_Wo_18_i : q_GR "ProofHall$Words" 18 6 1 "<init>" := ⟨"[I", by decide, ⟨_, _, _, rfl, by decide, rfl, List.mem_of_getElem? (i := 401) (by decide +kernel), Or.inr ⟨rfl, rfl, rfl⟩⟩⟩
theorem g_Wo_22_i : q_GR "ProofHall$Words" 22 6 2 "<init>" := ⟨"[I", by decide, ⟨_, _, _, rfl, by decide, rfl, List.mem_of_getElem? (i := 403) (by decide +kernel), Or.inr ⟨rfl, rfl, rfl⟩⟩⟩
theorem g_Wo_25_i : q_GR "ProofHall$Words" 25 6 3 "<init>" := ⟨"[I", by decide, ⟨_, _, _, rfl, by decide, rfl, List.mem_of_getElem? (i := 404) (by decide +kernel), Or.inr ⟨rfl, rfl, rfl⟩⟩⟩
theorem cd_Wo_init : q_cd m_Wo_init := ⟨by decide +kernel, List.mem_of_getElem? (i := 12) (by decide +kernel), Or.inl ⟨rfl, List.mem_of_getElem? (i := 355) (by decide +kernel)⟩⟩
theorem cI_En_11 : q_CI "ProofHall$Encoder" 11 m_Wo_init 0 := ⟨⟨cd_Wo_init, by decide, by decide, by decide, by decide +kernel⟩, Or.inr ⟨"ProofHall", List.mem_of_getElem? (i := 353) (by decide +kernel)⟩, List.mem_of_getElem? (i := 354) (by decide +kernel), rfl, List.mem_of_getElem? (i := 355) (by decide +kernel)⟩
theorem g_En_12_i : q_GR "ProofHall$Encoder" 12 7 0 "<init>" := ⟨"LProofHall$Words;", by decide, ⟨_, _, _, rfl, by decide, rfl, List.mem_of_getElem? (i := 414) (by decide +kernel), Or.inr ⟨rfl, rfl, rfl⟩⟩⟩
theorem g_En_18_i : q_GR "ProofHall$Encoder" 18 7 2 "<init>" := ⟨"[I", by decide, ⟨_, _, _, rfl, by decide, rfl, List.mem_of_getElem? (i := 416) (by decide +kernel), Or.inr ⟨rfl, rfl, rfl⟩⟩⟩
theorem g_En_22_i : q_GR "ProofHall$Encoder" 22 7 3 "<init>" := ⟨"[I", by decide, ⟨_, _, _, rfl, by decide, rfl, List.mem_of_getElem? (i := 418) (by decide +kernel), Or.inr ⟨rfl, rfl, rfl⟩⟩⟩
theorem g_En_25_i : q_GR "ProofHall$Encoder" 25 7 5 "<init>" := ⟨"[I", by decide, ⟨_, _, _, rfl, by decide, rfl, List.mem_of_getElem? (i := 423) (by decide +kernel), Or.inr ⟨rfl, rfl, rfl⟩⟩⟩
theorem g_En_28_i : q_GR "ProofHall$Encoder" 28 7 8 "<init>" := ⟨"[I", by decide, ⟨_, _, _, rfl, by decide, rfl, List.mem_of_getElem? (i := 428) (by decide +kernel), Or.inr ⟨rfl, rfl, rfl⟩⟩⟩
theorem g_En_31_i : q_GR "ProofHall$Encoder" 31 7 9 "<init>" := ⟨"[I", by decide, ⟨_, _, _, rfl, by decide, rfl, List.mem_of_getElem? (i := 429) (by decide +kernel), Or.inr ⟨rfl, rfl, rfl⟩⟩⟩
theorem g_En_34_i : q_GR "ProofHall$Encoder" 34 7 10 "<init>" := ⟨"[I", by decide, ⟨_, _, _, rfl, by decide, rfl, List.mem_of_getElem? (i := 430) (by decide +kernel), Or.inr ⟨rfl, rfl, rfl⟩⟩⟩
theorem g_En_37_i : q_GR "ProofHall$Encoder" 37 7 11 "<init>" := ⟨"[I", by decide, ⟨_, _, _, rfl, by decide, rfl, List.mem_of_getElem? (i := 431) (by decide +kernel), Or.inr ⟨rfl, rfl, rfl⟩⟩⟩
theorem g_En_40_i : q_GR "ProofHall$Encoder" 40 7 13 "<init>" := ⟨"[I", by decide, ⟨_, _, _, rfl, by decide, rfl, List.mem_of_getElem? (i := 433) (by decide +kernel), Or.inr ⟨rfl, rfl, rfl⟩⟩⟩
theorem g_En_43_i : q_GR "ProofHall$Encoder" 43 7 14 "<init>" := ⟨"[I", by decide, ⟨_, _, _, rfl, by decide, rfl, List.mem_of_getElem? (i := 434) (by decide +kernel), Or.inr ⟨rfl, rfl, rfl⟩⟩⟩
theorem cd_En_init : q_cd m_En_init := ⟨by decide +kernel, List.mem_of_getElem? (i := 11) (by decide +kernel), Or.inl ⟨rfl, List.mem_of_getElem? (i := 349) (by decide +kernel)⟩⟩
theorem cI_In_11 : q_CI "ProofHall$Inquiry" 11 m_En_init 0 := ⟨⟨cd_En_init, by decide, by decide, by decide, by decide +kernel⟩, Or.inr ⟨"ProofHall", List.mem_of_getElem? (i := 347) (by decide +kernel)⟩, List.mem_of_getElem? (i := 348) (by decide +kernel), rfl, List.mem_of_getElem? (i := 349) (by decide +kernel)⟩
theorem g_In_12_i : q_GR "ProofHall$Inquiry" 12 8 0 "<init>" := ⟨"LProofHall$Encoder;", by decide, ⟨_, _, _, rfl, by decide, rfl, List.mem_of_getElem? (i := 581) (by decide +kernel), Or.inr ⟨rfl, rfl, rfl⟩⟩⟩
theorem n_In_18 : q_N "ProofHall$Inquiry" 18 11 19 := ⟨_, _, rfl, List.mem_of_getElem? (i := 469) (by decide +kernel), List.mem_of_getElem? (i := 470) (by decide +kernel), List.mem_of_getElem? (i := 14) (by decide +kernel)⟩
theorem oi_So_5 : q_OI "ProofHall$Solver" 5 := List.mem_of_getElem? (i := 474) (by decide +kernel)
theorem n_So_1 : q_N "ProofHall$Solver" 1 9 5 := ⟨_, _, rfl, List.mem_of_getElem? (i := 475) (by decide +kernel), List.mem_of_getElem? (i := 476) (by decide +kernel), List.mem_of_getElem? (i := 15) (by decide +kernel)⟩
theorem oi_Cl_1 : q_OI "ProofHall$Clauses" 1 := List.mem_of_getElem? (i := 480) (by decide +kernel)
theorem k_Cl_9 : Cond.constant "ProofHall$Clauses" 9 360000 ∈ tables_1 := List.mem_of_getElem? (i := 481) (by decide +kernel)
theorem g_Cl_10_i : q_GR "ProofHall$Clauses" 10 9 0 "<init>" := ⟨"[I", by decide, ⟨_, _, _, rfl, by decide, rfl, List.mem_of_getElem? (i := 482) (by decide +kernel), Or.inr ⟨rfl, rfl, rfl⟩⟩⟩
theorem g_Cl_16_i : q_GR "ProofHall$Clauses" 16 9 1 "<init>" := ⟨"[I", by decide, ⟨_, _, _, rfl, by decide, rfl, List.mem_of_getElem? (i := 484) (by decide +kernel), Or.inr ⟨rfl, rfl, rfl⟩⟩⟩
theorem g_Cl_19_i : q_GR "ProofHall$Clauses" 19 9 2 "<init>" := ⟨"[I", by decide, ⟨_, _, _, rfl, by decide, rfl, List.mem_of_getElem? (i := 486) (by decide +kernel), Or.inr ⟨rfl, rfl, rfl⟩⟩⟩
theorem cd_Cl_init : q_cd m_Cl_init := ⟨by decide +kernel, List.mem_of_getElem? (i := 15) (by decide +kernel), Or.inl ⟨rfl, List.mem_of_getElem? (i := 479) (by decide +kernel)⟩⟩
theorem cI_So_11 : q_CI "ProofHall$Solver" 11 m_Cl_init 0 := ⟨⟨cd_Cl_init, by decide, by decide, by decide, by decide +kernel⟩, Or.inr ⟨"ProofHall", List.mem_of_getElem? (i := 477) (by decide +kernel)⟩, List.mem_of_getElem? (i := 478) (by decide +kernel), rfl, List.mem_of_getElem? (i := 479) (by decide +kernel)⟩
theorem g_So_12_i : q_GR "ProofHall$Solver" 12 11 0 "<init>" := ⟨"LProofHall$Clauses;", by decide, ⟨_, _, _, rfl, by decide, rfl, List.mem_of_getElem? (i := 521) (by decide +kernel), Or.inr ⟨rfl, rfl, rfl⟩⟩⟩
theorem n_So_18 : q_N "ProofHall$Solver" 18 10 4 := ⟨_, _, rfl, List.mem_of_getElem? (i := 501) (by decide +kernel), List.mem_of_getElem? (i := 502) (by decide +kernel), List.mem_of_getElem? (i := 16) (by decide +kernel)⟩
theorem oi_Ch_3 : q_OI "ProofHall$Checker" 3 := List.mem_of_getElem? (i := 506) (by decide +kernel)
theorem g_Ch_11_i : q_GR "ProofHall$Checker" 11 10 0 "<init>" := ⟨"[I", by decide, ⟨_, _, _, rfl, by decide, rfl, List.mem_of_getElem? (i := 507) (by decide +kernel), Or.inr ⟨rfl, rfl, rfl⟩⟩⟩
theorem g_Ch_17_i : q_GR "ProofHall$Checker" 17 10 1 "<init>" := ⟨"[I", by decide, ⟨_, _, _, rfl, by decide, rfl, List.mem_of_getElem? (i := 508) (by decide +kernel), Or.inr ⟨rfl, rfl, rfl⟩⟩⟩
theorem cd_Ch_init : q_cd m_Ch_init := ⟨by decide +kernel, List.mem_of_getElem? (i := 16) (by decide +kernel), Or.inl ⟨rfl, List.mem_of_getElem? (i := 505) (by decide +kernel)⟩⟩
theorem cI_So_20 : q_CI "ProofHall$Solver" 20 m_Ch_init 0 := ⟨⟨cd_Ch_init, by decide, by decide, by decide, by decide +kernel⟩, Or.inr ⟨"ProofHall", List.mem_of_getElem? (i := 503) (by decide +kernel)⟩, List.mem_of_getElem? (i := 504) (by decide +kernel), rfl, List.mem_of_getElem? (i := 505) (by decide +kernel)⟩
theorem g_So_21_i : q_GR "ProofHall$Solver" 21 11 1 "<init>" := ⟨"LProofHall$Checker;", by decide, ⟨_, _, _, rfl, by decide, rfl, List.mem_of_getElem? (i := 522) (by decide +kernel), Or.inr ⟨rfl, rfl, rfl⟩⟩⟩
theorem g_So_27_i : q_GR "ProofHall$Solver" 27 11 2 "<init>" := ⟨"[I", by decide, ⟨_, _, _, rfl, by decide, rfl, List.mem_of_getElem? (i := 523) (by decide +kernel), Or.inr ⟨rfl, rfl, rfl⟩⟩⟩
theorem g_So_31_i : q_GR "ProofHall$Solver" 31 11 3 "<init>" := ⟨"[I", by decide, ⟨_, _, _, rfl, by decide, rfl, List.mem_of_getElem? (i := 524) (by decide +kernel), Or.inr ⟨rfl, rfl, rfl⟩⟩⟩
theorem g_So_34_i : q_GR "ProofHall$Solver" 34 11 4 "<init>" := ⟨"[I", by decide, ⟨_, _, _, rfl, by decide, rfl, List.mem_of_getElem? (i := 525) (by decide +kernel), Or.inr ⟨rfl, rfl, rfl⟩⟩⟩
theorem g_So_37_i : q_GR "ProofHall$Solver" 37 11 5 "<init>" := ⟨"[I", by decide, ⟨_, _, _, rfl, by decide, rfl, List.mem_of_getElem? (i := 526) (by decide +kernel), Or.inr ⟨rfl, rfl, rfl⟩⟩⟩
theorem g_So_40_i : q_GR "ProofHall$Solver" 40 11 9 "<init>" := ⟨"[I", by decide, ⟨_, _, _, rfl, by decide, rfl, List.mem_of_getElem? (i := 530) (by decide +kernel), Or.inr ⟨rfl, rfl, rfl⟩⟩⟩
theorem g_So_43_i : q_GR "ProofHall$Solver" 43 11 11 "<init>" := ⟨"[I", by decide, ⟨_, _, _, rfl, by decide, rfl, List.mem_of_getElem? (i := 532) (by decide +kernel), Or.inr ⟨rfl, rfl, rfl⟩⟩⟩
theorem g_So_46_i : q_GR "ProofHall$Solver" 46 11 14 "<init>" := ⟨"[I", by decide, ⟨_, _, _, rfl, by decide, rfl, List.mem_of_getElem? (i := 535) (by decide +kernel), Or.inr ⟨rfl, rfl, rfl⟩⟩⟩
theorem g_So_49_i : q_GR "ProofHall$Solver" 49 11 15 "<init>" := ⟨"[I", by decide, ⟨_, _, _, rfl, by decide, rfl, List.mem_of_getElem? (i := 536) (by decide +kernel), Or.inr ⟨rfl, rfl, rfl⟩⟩⟩
theorem g_So_52_i : q_GR "ProofHall$Solver" 52 11 17 "<init>" := ⟨"[I", by decide, ⟨_, _, _, rfl, by decide, rfl, List.mem_of_getElem? (i := 538) (by decide +kernel), Or.inr ⟨rfl, rfl, rfl⟩⟩⟩
theorem cd_So_init : q_cd m_So_init := ⟨by decide +kernel, List.mem_of_getElem? (i := 14) (by decide +kernel), Or.inl ⟨rfl, List.mem_of_getElem? (i := 473) (by decide +kernel)⟩⟩
theorem cI_In_20 : q_CI "ProofHall$Inquiry" 20 m_So_init 0 := ⟨⟨cd_So_init, by decide, by decide, by decide, by decide +kernel⟩, Or.inr ⟨"ProofHall", List.mem_of_getElem? (i := 471) (by decide +kernel)⟩, List.mem_of_getElem? (i := 472) (by decide +kernel), rfl, List.mem_of_getElem? (i := 473) (by decide +kernel)⟩
theorem g_In_21_i : q_GR "ProofHall$Inquiry" 21 8 1 "<init>" := ⟨"LProofHall$Solver;", by decide, ⟨_, _, _, rfl, by decide, rfl, List.mem_of_getElem? (i := 583) (by decide +kernel), Or.inr ⟨rfl, rfl, rfl⟩⟩⟩
theorem n_In_25 : q_N "ProofHall$Inquiry" 25 4 7 := ⟨_, _, rfl, List.mem_of_getElem? (i := 579) (by decide +kernel), List.mem_of_getElem? (i := 307) (by decide +kernel), List.mem_of_getElem? (i := 9) (by decide +kernel)⟩
theorem cI_In_27 : q_CI "ProofHall$Inquiry" 27 m_Ma_init 0 := ⟨⟨cd_Ma_init, by decide, by decide, by decide, by decide +kernel⟩, Or.inr ⟨"ProofHall", List.mem_of_getElem? (i := 580) (by decide +kernel)⟩, List.mem_of_getElem? (i := 309) (by decide +kernel), rfl, List.mem_of_getElem? (i := 310) (by decide +kernel)⟩
theorem g_In_28_i : q_GR "ProofHall$Inquiry" 28 8 3 "<init>" := ⟨"LProofHall$Machine;", by decide, ⟨_, _, _, rfl, by decide, rfl, List.mem_of_getElem? (i := 585) (by decide +kernel), Or.inr ⟨rfl, rfl, rfl⟩⟩⟩
theorem g_In_32_i : q_GR "ProofHall$Inquiry" 32 8 4 "<init>" := ⟨"[I", by decide, ⟨_, _, _, rfl, by decide, rfl, List.mem_of_getElem? (i := 587) (by decide +kernel), Or.inr ⟨rfl, rfl, rfl⟩⟩⟩
theorem g_In_36_i : q_GR "ProofHall$Inquiry" 36 8 6 "<init>" := ⟨"[I", by decide, ⟨_, _, _, rfl, by decide, rfl, List.mem_of_getElem? (i := 591) (by decide +kernel), Or.inr ⟨rfl, rfl, rfl⟩⟩⟩
theorem g_In_39_i : q_GR "ProofHall$Inquiry" 39 8 9 "<init>" := ⟨"[I", by decide, ⟨_, _, _, rfl, by decide, rfl, List.mem_of_getElem? (i := 594) (by decide +kernel), Or.inr ⟨rfl, rfl, rfl⟩⟩⟩
theorem cd_In_init : q_cd m_In_init := ⟨by decide +kernel, List.mem_of_getElem? (i := 10) (by decide +kernel), Or.inl ⟨rfl, List.mem_of_getElem? (i := 343) (by decide +kernel)⟩⟩
theorem cI_H_50 : q_CI "ProofHall" 50 m_In_init 0 := ⟨⟨cd_In_init, by decide, by decide, by decide, by decide +kernel⟩, Or.inr ⟨"ProofHall", List.mem_of_getElem? (i := 341) (by decide +kernel)⟩, List.mem_of_getElem? (i := 342) (by decide +kernel), rfl, List.mem_of_getElem? (i := 343) (by decide +kernel)⟩
theorem g_H_51_i : q_GR "ProofHall" 51 0 9 "<init>" := ⟨"LProofHall$Inquiry;", by decide, ⟨_, _, _, rfl, by decide, rfl, List.mem_of_getElem? (i := 628) (by decide +kernel), Or.inr ⟨rfl, rfl, rfl⟩⟩⟩
def s_Pa_init_8 (σ : q_H) : q_H := (q_setr (q_addAt (q_setr (q_addAt (q_setr (q_addAt (q_setr (q_addAt (q_setr (q_addAt (q_setr (q_addAt (q_setr (q_addAt σ 9 (2, 32)) 8 2 9) 10 (2, 32)) 8 3 10) 11 (2, 32)) 8 4 11) 12 (2, 32)) 8 5 12) 13 (2, 32)) 8 6 13) 14 (2, 400)) 8 9 14) 15 (2, 400)) 8 11 15)
set_option maxHeartbeats 4000000 in
set_option maxRecDepth 100000 in
theorem c_Pa_init_8 {ω : q_W} (σ : q_H) (hn : q_n σ = 8) (ht : q_t σ 8 = (1, 3)) : J ω m_Pa_init 1 7 960 0 0 0 [(0, .ref 8)] [] σ (fun r τ => r = .inl none ∧ τ = s_Pa_init_8 σ) := by
  refine j_aload_n d_Pa_init_0 0 rfl ?_
  refine j_objInit oi_Pa_3 d_Pa_init_1 (by decide) (by decide) ?_
  refine j_aload_n d_Pa_init_4 0 rfl ?_
  refine j_bipush (v := nI 32) d_Pa_init_5 (by decide) ?_
  refine k_newI 32 9 d_Pa_init_7 rfl (by decide) (by decide) (by decide) (show q_n σ + 1 = 9 by rw [hn]) (by decide) ?_
  refine j_putR g_Pa_9_i d_Pa_init_9 ht (q_okW (N := 9) (Nat.le_of_ble_eq_true rfl) (by decide)) (by decide) ?_
  refine j_aload_n d_Pa_init_12 0 rfl ?_
  refine j_bipush (v := nI 32) d_Pa_init_13 (by decide) ?_
  refine k_newI 32 10 d_Pa_init_15 rfl (by decide) (by decide) (by decide) rfl (by decide) ?_
  refine j_putR g_Pa_15_i d_Pa_init_17 ht (q_okW (N := 10) (Nat.le_of_ble_eq_true rfl) (by decide)) (by decide) ?_
  refine j_aload_n d_Pa_init_20 0 rfl ?_
  refine j_bipush (v := nI 32) d_Pa_init_21 (by decide) ?_
  refine k_newI 32 11 d_Pa_init_23 rfl (by decide) (by decide) (by decide) rfl (by decide) ?_
  refine j_putR g_Pa_18_i d_Pa_init_25 ht (q_okW (N := 11) (Nat.le_of_ble_eq_true rfl) (by decide)) (by decide) ?_
  refine j_aload_n d_Pa_init_28 0 rfl ?_
  refine j_bipush (v := nI 32) d_Pa_init_29 (by decide) ?_
  refine k_newI 32 12 d_Pa_init_31 rfl (by decide) (by decide) (by decide) rfl (by decide) ?_
  refine j_putR g_Pa_21_i d_Pa_init_33 ht (q_okW (N := 12) (Nat.le_of_ble_eq_true rfl) (by decide)) (by decide) ?_
  refine j_aload_n d_Pa_init_36 0 rfl ?_
  refine j_bipush (v := nI 32) d_Pa_init_37 (by decide) ?_
  refine k_newI 32 13 d_Pa_init_39 rfl (by decide) (by decide) (by decide) rfl (by decide) ?_
  refine j_putR g_Pa_24_i d_Pa_init_41 ht (q_okW (N := 13) (Nat.le_of_ble_eq_true rfl) (by decide)) (by decide) ?_
  refine j_aload_n d_Pa_init_44 0 rfl ?_
  refine j_sipush (v := nI 400) d_Pa_init_45 (by decide) ?_
  refine k_newI 400 14 d_Pa_init_48 rfl (by decide) (by decide) (by decide) rfl (by decide) ?_
  refine j_putR g_Pa_27_i d_Pa_init_50 ht (q_okW (N := 14) (Nat.le_of_ble_eq_true rfl) (by decide)) (by decide) ?_
  refine j_aload_n d_Pa_init_53 0 rfl ?_
  refine j_sipush (v := nI 400) d_Pa_init_54 (by decide) ?_
  refine k_newI 400 15 d_Pa_init_57 rfl (by decide) (by decide) (by decide) rfl (by decide) ?_
  refine j_putR g_Pa_30_i d_Pa_init_59 ht (q_okW (N := 15) (Nat.le_of_ble_eq_true rfl) (by decide)) (by decide) ?_
  exact j_vret d_Pa_init_62 rfl (by decide) (by decide) ⟨rfl, rfl⟩
def s_Pr_init_16 (σ : q_H) : q_H := (q_setr (q_addAt (q_setr (q_addAt (q_setr (q_addAt (q_setr (q_addAt (q_setr (q_addAt (q_setr (q_addAt (q_setr (q_addAt (q_setr (q_addAt (q_setr (q_addAt (q_setr (q_addAt (q_setr (q_addAt (q_setr (q_addAt σ 17 (2, 12)) 16 2 17) 18 (4, 12)) 16 3 18) 19 (2, 12)) 16 5 19) 20 (4, 12)) 16 6 20) 21 (2, 2048)) 16 12 21) 22 (2, 2048)) 16 13 22) 23 (2, 2048)) 16 14 23) 24 (2, 2048)) 16 15 24) 25 (2, 2048)) 16 16 25) 26 (2, 4096)) 16 18 26) 27 (2, 4096)) 16 19 27) 28 (2, 4096)) 16 20 28)
set_option maxHeartbeats 4000000 in
set_option maxRecDepth 100000 in
theorem c_Pr_init_16 {ω : q_W} (σ : q_H) (hn : q_n σ = 16) (ht : q_t σ 16 = (1, 2)) : J ω m_Pr_init 1 12 22576 0 0 0 [(0, .ref 16)] [] σ (fun r τ => r = .inl none ∧ τ = s_Pr_init_16 σ) := by
  refine j_aload_n d_Pr_init_0 0 rfl ?_
  refine j_objInit oi_Pr_3 d_Pr_init_1 (by decide) (by decide) ?_
  refine j_aload_n d_Pr_init_4 0 rfl ?_
  refine j_bipush (v := nI 12) d_Pr_init_5 (by decide) ?_
  refine k_newI 12 17 d_Pr_init_7 rfl (by decide) (by decide) (by decide) (show q_n σ + 1 = 17 by rw [hn]) (by decide) ?_
  refine j_putR g_Pr_9_i d_Pr_init_9 ht (q_okW (N := 17) (Nat.le_of_ble_eq_true rfl) (by decide)) (by decide) ?_
  refine j_aload_n d_Pr_init_12 0 rfl ?_
  refine j_bipush (v := nI 12) d_Pr_init_13 (by decide) ?_
  refine k_newL 12 18 d_Pr_init_15 rfl (by decide) (by decide) (by decide) rfl (by decide) ?_
  refine j_putR g_Pr_15_i d_Pr_init_17 ht (q_okW (N := 18) (Nat.le_of_ble_eq_true rfl) (by decide)) (by decide) ?_
  refine j_aload_n d_Pr_init_20 0 rfl ?_
  refine j_bipush (v := nI 12) d_Pr_init_21 (by decide) ?_
  refine k_newI 12 19 d_Pr_init_23 rfl (by decide) (by decide) (by decide) rfl (by decide) ?_
  refine j_putR g_Pr_19_i d_Pr_init_25 ht (q_okW (N := 19) (Nat.le_of_ble_eq_true rfl) (by decide)) (by decide) ?_
  refine j_aload_n d_Pr_init_28 0 rfl ?_
  refine j_bipush (v := nI 12) d_Pr_init_29 (by decide) ?_
  refine k_newL 12 20 d_Pr_init_31 rfl (by decide) (by decide) (by decide) rfl (by decide) ?_
  refine j_putR g_Pr_22_i d_Pr_init_33 ht (q_okW (N := 20) (Nat.le_of_ble_eq_true rfl) (by decide)) (by decide) ?_
  refine j_aload_n d_Pr_init_36 0 rfl ?_
  refine j_sipush (v := nI 2048) d_Pr_init_37 (by decide) ?_
  refine k_newI 2048 21 d_Pr_init_40 rfl (by decide) (by decide) (by decide) rfl (by decide) ?_
  refine j_putR g_Pr_25_i d_Pr_init_42 ht (q_okW (N := 21) (Nat.le_of_ble_eq_true rfl) (by decide)) (by decide) ?_
  refine j_aload_n d_Pr_init_45 0 rfl ?_
  refine j_sipush (v := nI 2048) d_Pr_init_46 (by decide) ?_
  refine k_newI 2048 22 d_Pr_init_49 rfl (by decide) (by decide) (by decide) rfl (by decide) ?_
  refine j_putR g_Pr_28_i d_Pr_init_51 ht (q_okW (N := 22) (Nat.le_of_ble_eq_true rfl) (by decide)) (by decide) ?_
  refine j_aload_n d_Pr_init_54 0 rfl ?_
  refine j_sipush (v := nI 2048) d_Pr_init_55 (by decide) ?_
  refine k_newI 2048 23 d_Pr_init_58 rfl (by decide) (by decide) (by decide) rfl (by decide) ?_
  refine j_putR g_Pr_31_i d_Pr_init_60 ht (q_okW (N := 23) (Nat.le_of_ble_eq_true rfl) (by decide)) (by decide) ?_
  refine j_aload_n d_Pr_init_63 0 rfl ?_
  refine j_sipush (v := nI 2048) d_Pr_init_64 (by decide) ?_
  refine k_newI 2048 24 d_Pr_init_67 rfl (by decide) (by decide) (by decide) rfl (by decide) ?_
  refine j_putR g_Pr_34_i d_Pr_init_69 ht (q_okW (N := 24) (Nat.le_of_ble_eq_true rfl) (by decide)) (by decide) ?_
  refine j_aload_n d_Pr_init_72 0 rfl ?_
  refine j_sipush (v := nI 2048) d_Pr_init_73 (by decide) ?_
  refine k_newI 2048 25 d_Pr_init_76 rfl (by decide) (by decide) (by decide) rfl (by decide) ?_
  refine j_putR g_Pr_37_i d_Pr_init_78 ht (q_okW (N := 25) (Nat.le_of_ble_eq_true rfl) (by decide)) (by decide) ?_
  refine j_aload_n d_Pr_init_81 0 rfl ?_
  refine j_sipush (v := nI 4096) d_Pr_init_82 (by decide) ?_
  refine k_newI 4096 26 d_Pr_init_85 rfl (by decide) (by decide) (by decide) rfl (by decide) ?_
  refine j_putR g_Pr_40_i d_Pr_init_87 ht (q_okW (N := 26) (Nat.le_of_ble_eq_true rfl) (by decide)) (by decide) ?_
  refine j_aload_n d_Pr_init_90 0 rfl ?_
  refine j_sipush (v := nI 4096) d_Pr_init_91 (by decide) ?_
  refine k_newI 4096 27 d_Pr_init_94 rfl (by decide) (by decide) (by decide) rfl (by decide) ?_
  refine j_putR g_Pr_43_i d_Pr_init_96 ht (q_okW (N := 27) (Nat.le_of_ble_eq_true rfl) (by decide)) (by decide) ?_
  refine j_aload_n d_Pr_init_99 0 rfl ?_
  refine j_sipush (v := nI 4096) d_Pr_init_100 (by decide) ?_
  refine k_newI 4096 28 d_Pr_init_103 rfl (by decide) (by decide) (by decide) rfl (by decide) ?_
  refine j_putR g_Pr_46_i d_Pr_init_105 ht (q_okW (N := 28) (Nat.le_of_ble_eq_true rfl) (by decide)) (by decide) ?_
  exact j_vret d_Pr_init_108 rfl (by decide) (by decide) ⟨rfl, rfl⟩
def s_Pr_init_29 (σ : q_H) : q_H := (q_setr (q_addAt (q_setr (q_addAt (q_setr (q_addAt (q_setr (q_addAt (q_setr (q_addAt (q_setr (q_addAt (q_setr (q_addAt (q_setr (q_addAt (q_setr (q_addAt (q_setr (q_addAt (q_setr (q_addAt (q_setr (q_addAt σ 30 (2, 12)) 29 2 30) 31 (4, 12)) 29 3 31) 32 (2, 12)) 29 5 32) 33 (4, 12)) 29 6 33) 34 (2, 2048)) 29 12 34) 35 (2, 2048)) 29 13 35) 36 (2, 2048)) 29 14 36) 37 (2, 2048)) 29 15 37) 38 (2, 2048)) 29 16 38) 39 (2, 4096)) 29 18 39) 40 (2, 4096)) 29 19 40) 41 (2, 4096)) 29 20 41)
set_option maxHeartbeats 4000000 in
set_option maxRecDepth 100000 in
theorem c_Pr_init_29 {ω : q_W} (σ : q_H) (hn : q_n σ = 29) (ht : q_t σ 29 = (1, 2)) : J ω m_Pr_init 1 12 22576 0 0 0 [(0, .ref 29)] [] σ (fun r τ => r = .inl none ∧ τ = s_Pr_init_29 σ) := by
  refine j_aload_n d_Pr_init_0 0 rfl ?_
  refine j_objInit oi_Pr_3 d_Pr_init_1 (by decide) (by decide) ?_
  refine j_aload_n d_Pr_init_4 0 rfl ?_
  refine j_bipush (v := nI 12) d_Pr_init_5 (by decide) ?_
  refine k_newI 12 30 d_Pr_init_7 rfl (by decide) (by decide) (by decide) (show q_n σ + 1 = 30 by rw [hn]) (by decide) ?_
  refine j_putR g_Pr_9_i d_Pr_init_9 ht (q_okW (N := 30) (Nat.le_of_ble_eq_true rfl) (by decide)) (by decide) ?_
  refine j_aload_n d_Pr_init_12 0 rfl ?_
  refine j_bipush (v := nI 12) d_Pr_init_13 (by decide) ?_
  refine k_newL 12 31 d_Pr_init_15 rfl (by decide) (by decide) (by decide) rfl (by decide) ?_
  refine j_putR g_Pr_15_i d_Pr_init_17 ht (q_okW (N := 31) (Nat.le_of_ble_eq_true rfl) (by decide)) (by decide) ?_
  refine j_aload_n d_Pr_init_20 0 rfl ?_
  refine j_bipush (v := nI 12) d_Pr_init_21 (by decide) ?_
  refine k_newI 12 32 d_Pr_init_23 rfl (by decide) (by decide) (by decide) rfl (by decide) ?_
  refine j_putR g_Pr_19_i d_Pr_init_25 ht (q_okW (N := 32) (Nat.le_of_ble_eq_true rfl) (by decide)) (by decide) ?_
  refine j_aload_n d_Pr_init_28 0 rfl ?_
  refine j_bipush (v := nI 12) d_Pr_init_29 (by decide) ?_
  refine k_newL 12 33 d_Pr_init_31 rfl (by decide) (by decide) (by decide) rfl (by decide) ?_
  refine j_putR g_Pr_22_i d_Pr_init_33 ht (q_okW (N := 33) (Nat.le_of_ble_eq_true rfl) (by decide)) (by decide) ?_
  refine j_aload_n d_Pr_init_36 0 rfl ?_
  refine j_sipush (v := nI 2048) d_Pr_init_37 (by decide) ?_
  refine k_newI 2048 34 d_Pr_init_40 rfl (by decide) (by decide) (by decide) rfl (by decide) ?_
  refine j_putR g_Pr_25_i d_Pr_init_42 ht (q_okW (N := 34) (Nat.le_of_ble_eq_true rfl) (by decide)) (by decide) ?_
  refine j_aload_n d_Pr_init_45 0 rfl ?_
  refine j_sipush (v := nI 2048) d_Pr_init_46 (by decide) ?_
  refine k_newI 2048 35 d_Pr_init_49 rfl (by decide) (by decide) (by decide) rfl (by decide) ?_
  refine j_putR g_Pr_28_i d_Pr_init_51 ht (q_okW (N := 35) (Nat.le_of_ble_eq_true rfl) (by decide)) (by decide) ?_
  refine j_aload_n d_Pr_init_54 0 rfl ?_
  refine j_sipush (v := nI 2048) d_Pr_init_55 (by decide) ?_
  refine k_newI 2048 36 d_Pr_init_58 rfl (by decide) (by decide) (by decide) rfl (by decide) ?_
  refine j_putR g_Pr_31_i d_Pr_init_60 ht (q_okW (N := 36) (Nat.le_of_ble_eq_true rfl) (by decide)) (by decide) ?_
  refine j_aload_n d_Pr_init_63 0 rfl ?_
  refine j_sipush (v := nI 2048) d_Pr_init_64 (by decide) ?_
  refine k_newI 2048 37 d_Pr_init_67 rfl (by decide) (by decide) (by decide) rfl (by decide) ?_
  refine j_putR g_Pr_34_i d_Pr_init_69 ht (q_okW (N := 37) (Nat.le_of_ble_eq_true rfl) (by decide)) (by decide) ?_
  refine j_aload_n d_Pr_init_72 0 rfl ?_
  refine j_sipush (v := nI 2048) d_Pr_init_73 (by decide) ?_
  refine k_newI 2048 38 d_Pr_init_76 rfl (by decide) (by decide) (by decide) rfl (by decide) ?_
  refine j_putR g_Pr_37_i d_Pr_init_78 ht (q_okW (N := 38) (Nat.le_of_ble_eq_true rfl) (by decide)) (by decide) ?_
  refine j_aload_n d_Pr_init_81 0 rfl ?_
  refine j_sipush (v := nI 4096) d_Pr_init_82 (by decide) ?_
  refine k_newI 4096 39 d_Pr_init_85 rfl (by decide) (by decide) (by decide) rfl (by decide) ?_
  refine j_putR g_Pr_40_i d_Pr_init_87 ht (q_okW (N := 39) (Nat.le_of_ble_eq_true rfl) (by decide)) (by decide) ?_
  refine j_aload_n d_Pr_init_90 0 rfl ?_
  refine j_sipush (v := nI 4096) d_Pr_init_91 (by decide) ?_
  refine k_newI 4096 40 d_Pr_init_94 rfl (by decide) (by decide) (by decide) rfl (by decide) ?_
  refine j_putR g_Pr_43_i d_Pr_init_96 ht (q_okW (N := 40) (Nat.le_of_ble_eq_true rfl) (by decide)) (by decide) ?_
  refine j_aload_n d_Pr_init_99 0 rfl ?_
  refine j_sipush (v := nI 4096) d_Pr_init_100 (by decide) ?_
  refine k_newI 4096 41 d_Pr_init_103 rfl (by decide) (by decide) (by decide) rfl (by decide) ?_
  refine j_putR g_Pr_46_i d_Pr_init_105 ht (q_okW (N := 41) (Nat.le_of_ble_eq_true rfl) (by decide)) (by decide) ?_
  exact j_vret d_Pr_init_108 rfl (by decide) (by decide) ⟨rfl, rfl⟩
def s_Ma_init_43 (σ : q_H) : q_H := (q_setr (q_addAt (q_setr (q_addAt (q_setr (q_addAt (q_seti σ 43 1 (-1)) 44 (2, 12)) 43 2 44) 45 (2, 32)) 43 3 45) 46 (2, 400)) 43 4 46)
set_option maxHeartbeats 4000000 in
set_option maxRecDepth 100000 in
theorem c_Ma_init_43 {ω : q_W} (σ : q_H) (hn : q_n σ = 43) (ht : q_t σ 43 = (1, 4)) : J ω m_Ma_init 1 3 444 0 0 0 [(0, .ref 43)] [] σ (fun r τ => r = .inl none ∧ τ = s_Ma_init_43 σ) := by
  refine j_aload_n d_Ma_init_0 0 rfl ?_
  refine j_objInit oi_Ma_3 d_Ma_init_1 (by decide) (by decide) ?_
  refine j_aload_n d_Ma_init_4 0 rfl ?_
  refine j_iconst (v := (-1)) d_Ma_init_5 (by decide) ?_
  refine j_putI g_Ma_9_i d_Ma_init_6 ht (q_okW (Nat.le_of_eq hn.symm) (by decide)) ?_
  refine j_aload_n d_Ma_init_9 0 rfl ?_
  refine j_bipush (v := nI 12) d_Ma_init_10 (by decide) ?_
  refine k_newI 12 44 d_Ma_init_12 rfl (by decide) (by decide) (by decide) (show q_n σ + 1 = 44 by rw [hn]) (by decide) ?_
  refine j_putR g_Ma_15_i d_Ma_init_14 ht (q_okW (N := 44) (Nat.le_of_ble_eq_true rfl) (by decide)) (by decide) ?_
  refine j_aload_n d_Ma_init_17 0 rfl ?_
  refine j_bipush (v := nI 32) d_Ma_init_18 (by decide) ?_
  refine k_newI 32 45 d_Ma_init_20 rfl (by decide) (by decide) (by decide) rfl (by decide) ?_
  refine j_putR g_Ma_19_i d_Ma_init_22 ht (q_okW (N := 45) (Nat.le_of_ble_eq_true rfl) (by decide)) (by decide) ?_
  refine j_aload_n d_Ma_init_25 0 rfl ?_
  refine j_sipush (v := nI 400) d_Ma_init_26 (by decide) ?_
  refine k_newI 400 46 d_Ma_init_29 rfl (by decide) (by decide) (by decide) rfl (by decide) ?_
  refine j_putR g_Ma_22_i d_Ma_init_31 ht (q_okW (N := 46) (Nat.le_of_ble_eq_true rfl) (by decide)) (by decide) ?_
  exact j_vret d_Ma_init_34 rfl (by decide) (by decide) ⟨rfl, rfl⟩
def s_Ci_init_50 (σ : q_H) : q_H := (q_seti (q_setr (q_addAt (q_setr (q_addAt (q_setr (q_addAt (q_setr (q_addAt (q_setr (q_addAt (q_setr (q_addAt (q_setr (q_addAt σ 51 (2, 10240)) 50 0 51) 52 (2, 10240)) 50 1 52) 53 (2, 10240)) 50 2 53) 54 (2, 10240)) 50 3 54) 55 (2, 10240)) 50 4 55) 56 (2, 10240)) 50 5 56) 57 (2, 8192)) 50 6 57) 50 7 (nI 1))
set_option maxHeartbeats 4000000 in
set_option maxRecDepth 100000 in
theorem c_Ci_init_50 {ω : q_W} (σ : q_H) (hn : q_n σ = 50) (ht : q_t σ 50 = (1, 5)) : J ω m_Ci_init 1 7 69632 0 0 0 [(0, .ref 50)] [] σ (fun r τ => r = .inl none ∧ τ = s_Ci_init_50 σ) := by
  refine j_aload_n d_Ci_init_0 0 rfl ?_
  refine j_objInit oi_Ci_3 d_Ci_init_1 (by decide) (by decide) ?_
  refine j_aload_n d_Ci_init_4 0 rfl ?_
  refine j_sipush (v := nI 10240) d_Ci_init_5 (by decide) ?_
  refine k_newI 10240 51 d_Ci_init_8 rfl (by decide) (by decide) (by decide) (show q_n σ + 1 = 51 by rw [hn]) (by decide) ?_
  refine j_putR g_Ci_11_i d_Ci_init_10 ht (q_okW (N := 51) (Nat.le_of_ble_eq_true rfl) (by decide)) (by decide) ?_
  refine j_aload_n d_Ci_init_13 0 rfl ?_
  refine j_sipush (v := nI 10240) d_Ci_init_14 (by decide) ?_
  refine k_newI 10240 52 d_Ci_init_17 rfl (by decide) (by decide) (by decide) rfl (by decide) ?_
  refine j_putR g_Ci_15_i d_Ci_init_19 ht (q_okW (N := 52) (Nat.le_of_ble_eq_true rfl) (by decide)) (by decide) ?_
  refine j_aload_n d_Ci_init_22 0 rfl ?_
  refine j_sipush (v := nI 10240) d_Ci_init_23 (by decide) ?_
  refine k_newI 10240 53 d_Ci_init_26 rfl (by decide) (by decide) (by decide) rfl (by decide) ?_
  refine j_putR g_Ci_18_i d_Ci_init_28 ht (q_okW (N := 53) (Nat.le_of_ble_eq_true rfl) (by decide)) (by decide) ?_
  refine j_aload_n d_Ci_init_31 0 rfl ?_
  refine j_sipush (v := nI 10240) d_Ci_init_32 (by decide) ?_
  refine k_newI 10240 54 d_Ci_init_35 rfl (by decide) (by decide) (by decide) rfl (by decide) ?_
  refine j_putR g_Ci_21_i d_Ci_init_37 ht (q_okW (N := 54) (Nat.le_of_ble_eq_true rfl) (by decide)) (by decide) ?_
  refine j_aload_n d_Ci_init_40 0 rfl ?_
  refine j_sipush (v := nI 10240) d_Ci_init_41 (by decide) ?_
  refine k_newI 10240 55 d_Ci_init_44 rfl (by decide) (by decide) (by decide) rfl (by decide) ?_
  refine j_putR g_Ci_24_i d_Ci_init_46 ht (q_okW (N := 55) (Nat.le_of_ble_eq_true rfl) (by decide)) (by decide) ?_
  refine j_aload_n d_Ci_init_49 0 rfl ?_
  refine j_sipush (v := nI 10240) d_Ci_init_50 (by decide) ?_
  refine k_newI 10240 56 d_Ci_init_53 rfl (by decide) (by decide) (by decide) rfl (by decide) ?_
  refine j_putR g_Ci_27_i d_Ci_init_55 ht (q_okW (N := 56) (Nat.le_of_ble_eq_true rfl) (by decide)) (by decide) ?_
  refine j_aload_n d_Ci_init_58 0 rfl ?_
  refine j_sipush (v := nI 8192) d_Ci_init_59 (by decide) ?_
  refine k_newI 8192 57 d_Ci_init_62 rfl (by decide) (by decide) (by decide) rfl (by decide) ?_
  refine j_putR g_Ci_30_i d_Ci_init_64 ht (q_okW (N := 57) (Nat.le_of_ble_eq_true rfl) (by decide)) (by decide) ?_
  refine j_aload_n d_Ci_init_67 0 rfl ?_
  refine j_iconst (v := nI 1) d_Ci_init_68 (by decide) ?_
  refine j_putI g_Ci_33_i d_Ci_init_69 ht (q_okW (N := 57) (Nat.le_of_ble_eq_true rfl) (by decide)) ?_
  exact j_vret d_Ci_init_72 rfl (by decide) (by decide) ⟨rfl, rfl⟩
def s_Wo_init_49 (σ : q_H) : q_H := (q_setr (q_addAt (q_setr (q_addAt (q_setr (q_addAt (q_setr (s_Ci_init_50 (q_addAt σ 50 (1, 5))) 49 0 50) 58 (2, 3200)) 49 1 58) 59 (2, 8)) 49 2 59) 60 (2, 8)) 49 3 60)
set_option maxHeartbeats 4000000 in
set_option maxRecDepth 100000 in
theorem c_Wo_init_49 {ω : q_W} (σ : q_H) (hn : q_n σ = 49) (ht : q_t σ 49 = (1, 6)) : J ω m_Wo_init 2 11 72857 0 0 0 [(0, .ref 49)] [] σ (fun r τ => r = .inl none ∧ τ = s_Wo_init_49 σ) := by
  refine j_aload_n d_Wo_init_0 0 rfl ?_
  refine j_objInit oi_Wo_3 d_Wo_init_1 (by decide) (by decide) ?_
  refine j_aload_n d_Wo_init_4 0 rfl ?_
  refine k_new 50 n_Wo_9 d_Wo_init_5 (by decide) (by decide) (show q_n σ + 1 = 50 by rw [hn]) (by decide) ?_
  refine j_dup d_Wo_init_8 rfl ?_
  refine j_callI m_Ci_init [] [.ref 50, .ref 49] 1 7 69632 cI_Wo_11 d_Wo_init_9 rfl rfl (by decide) (by decide) (by decide) (by decide) (by decide) (c_Ci_init_50 _ rfl rfl) (fun v τ h => ?_) (fun x τ h => absurd h.1 (by simp))
  obtain ⟨h1, rfl⟩ := h
  cases h1
  refine j_putR g_Wo_12_i d_Wo_init_12 ht (q_okW (N := 57) (Nat.le_of_ble_eq_true rfl) (by decide)) (by decide) ?_
  refine j_aload_n d_Wo_init_15 0 rfl ?_
  refine j_sipush (v := nI 3200) d_Wo_init_16 (by decide) ?_
  refine k_newI 3200 58 d_Wo_init_19 rfl (by decide) (by decide) (by decide) rfl (by decide) ?_
  refine j_putR g_Wo_18_i d_Wo_init_21 ht (q_okW (N := 58) (Nat.le_of_ble_eq_true rfl) (by decide)) (by decide) ?_
  refine j_aload_n d_Wo_init_24 0 rfl ?_
  refine j_bipush (v := nI 8) d_Wo_init_25 (by decide) ?_
  refine k_newI 8 59 d_Wo_init_27 rfl (by decide) (by decide) (by decide) rfl (by decide) ?_
  refine j_putR g_Wo_22_i d_Wo_init_29 ht (q_okW (N := 59) (Nat.le_of_ble_eq_true rfl) (by decide)) (by decide) ?_
  refine j_aload_n d_Wo_init_32 0 rfl ?_
  refine j_bipush (v := nI 8) d_Wo_init_33 (by decide) ?_
  refine k_newI 8 60 d_Wo_init_35 rfl (by decide) (by decide) (by decide) rfl (by decide) ?_
  refine j_putR g_Wo_25_i d_Wo_init_37 ht (q_okW (N := 60) (Nat.le_of_ble_eq_true rfl) (by decide)) (by decide) ?_
  exact j_vret d_Wo_init_40 rfl (by decide) (by decide) ⟨rfl, rfl⟩
def s_En_init_48 (σ : q_H) : q_H := (q_setr (q_addAt (q_setr (q_addAt (q_setr (q_addAt (q_setr (q_addAt (q_setr (q_addAt (q_setr (q_addAt (q_setr (q_addAt (q_setr (q_addAt (q_setr (q_addAt (q_setr (s_Wo_init_49 (q_addAt σ 49 (1, 6))) 48 0 49) 61 (2, 96)) 48 2 61) 62 (2, 96)) 48 3 62) 63 (2, 512)) 48 5 63) 64 (2, 3072)) 48 8 64) 65 (2, 32)) 48 9 65) 66 (2, 32)) 48 10 66) 67 (2, 32)) 48 11 67) 68 (2, 32)) 48 13 68) 69 (2, 32)) 48 14 69)
set_option maxHeartbeats 4000000 in
set_option maxRecDepth 100000 in
theorem c_En_init_48 {ω : q_W} (σ : q_H) (hn : q_n σ = 48) (ht : q_t σ 48 = (1, 7)) : J ω m_En_init 3 21 76797 0 0 0 [(0, .ref 48)] [] σ (fun r τ => r = .inl none ∧ τ = s_En_init_48 σ) := by
  refine j_aload_n d_En_init_0 0 rfl ?_
  refine j_objInit oi_En_3 d_En_init_1 (by decide) (by decide) ?_
  refine j_aload_n d_En_init_4 0 rfl ?_
  refine k_new 49 n_En_9 d_En_init_5 (by decide) (by decide) (show q_n σ + 1 = 49 by rw [hn]) (by decide) ?_
  refine j_dup d_En_init_8 rfl ?_
  refine j_callI m_Wo_init [] [.ref 49, .ref 48] 2 11 72857 cI_En_11 d_En_init_9 rfl rfl (by decide) (by decide) (by decide) (by decide) (by decide) (c_Wo_init_49 _ rfl rfl) (fun v τ h => ?_) (fun x τ h => absurd h.1 (by simp))
  obtain ⟨h1, rfl⟩ := h
  cases h1
  refine j_putR g_En_12_i d_En_init_12 ht (q_okW (N := 60) (Nat.le_of_ble_eq_true rfl) (by decide)) (by decide) ?_
  refine j_aload_n d_En_init_15 0 rfl ?_
  refine j_bipush (v := nI 96) d_En_init_16 (by decide) ?_
  refine k_newI 96 61 d_En_init_18 rfl (by decide) (by decide) (by decide) rfl (by decide) ?_
  refine j_putR g_En_18_i d_En_init_20 ht (q_okW (N := 61) (Nat.le_of_ble_eq_true rfl) (by decide)) (by decide) ?_
  refine j_aload_n d_En_init_23 0 rfl ?_
  refine j_bipush (v := nI 96) d_En_init_24 (by decide) ?_
  refine k_newI 96 62 d_En_init_26 rfl (by decide) (by decide) (by decide) rfl (by decide) ?_
  refine j_putR g_En_22_i d_En_init_28 ht (q_okW (N := 62) (Nat.le_of_ble_eq_true rfl) (by decide)) (by decide) ?_
  refine j_aload_n d_En_init_31 0 rfl ?_
  refine j_sipush (v := nI 512) d_En_init_32 (by decide) ?_
  refine k_newI 512 63 d_En_init_35 rfl (by decide) (by decide) (by decide) rfl (by decide) ?_
  refine j_putR g_En_25_i d_En_init_37 ht (q_okW (N := 63) (Nat.le_of_ble_eq_true rfl) (by decide)) (by decide) ?_
  refine j_aload_n d_En_init_40 0 rfl ?_
  refine j_sipush (v := nI 3072) d_En_init_41 (by decide) ?_
  refine k_newI 3072 64 d_En_init_44 rfl (by decide) (by decide) (by decide) rfl (by decide) ?_
  refine j_putR g_En_28_i d_En_init_46 ht (q_okW (N := 64) (Nat.le_of_ble_eq_true rfl) (by decide)) (by decide) ?_
  refine j_aload_n d_En_init_49 0 rfl ?_
  refine j_bipush (v := nI 32) d_En_init_50 (by decide) ?_
  refine k_newI 32 65 d_En_init_52 rfl (by decide) (by decide) (by decide) rfl (by decide) ?_
  refine j_putR g_En_31_i d_En_init_54 ht (q_okW (N := 65) (Nat.le_of_ble_eq_true rfl) (by decide)) (by decide) ?_
  refine j_aload_n d_En_init_57 0 rfl ?_
  refine j_bipush (v := nI 32) d_En_init_58 (by decide) ?_
  refine k_newI 32 66 d_En_init_60 rfl (by decide) (by decide) (by decide) rfl (by decide) ?_
  refine j_putR g_En_34_i d_En_init_62 ht (q_okW (N := 66) (Nat.le_of_ble_eq_true rfl) (by decide)) (by decide) ?_
  refine j_aload_n d_En_init_65 0 rfl ?_
  refine j_bipush (v := nI 32) d_En_init_66 (by decide) ?_
  refine k_newI 32 67 d_En_init_68 rfl (by decide) (by decide) (by decide) rfl (by decide) ?_
  refine j_putR g_En_37_i d_En_init_70 ht (q_okW (N := 67) (Nat.le_of_ble_eq_true rfl) (by decide)) (by decide) ?_
  refine j_aload_n d_En_init_73 0 rfl ?_
  refine j_bipush (v := nI 32) d_En_init_74 (by decide) ?_
  refine k_newI 32 68 d_En_init_76 rfl (by decide) (by decide) (by decide) rfl (by decide) ?_
  refine j_putR g_En_40_i d_En_init_78 ht (q_okW (N := 68) (Nat.le_of_ble_eq_true rfl) (by decide)) (by decide) ?_
  refine j_aload_n d_En_init_81 0 rfl ?_
  refine j_bipush (v := nI 32) d_En_init_82 (by decide) ?_
  refine k_newI 32 69 d_En_init_84 rfl (by decide) (by decide) (by decide) rfl (by decide) ?_
  refine j_putR g_En_43_i d_En_init_86 ht (q_okW (N := 69) (Nat.le_of_ble_eq_true rfl) (by decide)) (by decide) ?_
  exact j_vret d_En_init_89 rfl (by decide) (by decide) ⟨rfl, rfl⟩
def s_Cl_init_71 (σ : q_H) : q_H := (q_setr (q_addAt (q_setr (q_addAt (q_setr (q_addAt σ 72 (2, 360000)) 71 0 72) 73 (2, 20480)) 71 1 73) 74 (2, 10240)) 71 2 74)
set_option maxHeartbeats 4000000 in
set_option maxRecDepth 100000 in
theorem c_Cl_init_71 {ω : q_W} (σ : q_H) (hn : q_n σ = 71) (ht : q_t σ 71 = (1, 9)) : J ω m_Cl_init 1 3 390720 0 0 0 [(0, .ref 71)] [] σ (fun r τ => r = .inl none ∧ τ = s_Cl_init_71 σ) := by
  refine j_aload_n d_Cl_init_0 0 rfl ?_
  refine j_objInit oi_Cl_1 d_Cl_init_1 (by decide) (by decide) ?_
  refine j_aload_n d_Cl_init_4 0 rfl ?_
  refine j_ldc (v := nI 360000) k_Cl_9 d_Cl_init_5 ?_
  refine k_newI 360000 72 d_Cl_init_7 rfl (by decide) (by decide) (by decide) (show q_n σ + 1 = 72 by rw [hn]) (by decide) ?_
  refine j_putR g_Cl_10_i d_Cl_init_9 ht (q_okW (N := 72) (Nat.le_of_ble_eq_true rfl) (by decide)) (by decide) ?_
  refine j_aload_n d_Cl_init_12 0 rfl ?_
  refine j_sipush (v := nI 20480) d_Cl_init_13 (by decide) ?_
  refine k_newI 20480 73 d_Cl_init_16 rfl (by decide) (by decide) (by decide) rfl (by decide) ?_
  refine j_putR g_Cl_16_i d_Cl_init_18 ht (q_okW (N := 73) (Nat.le_of_ble_eq_true rfl) (by decide)) (by decide) ?_
  refine j_aload_n d_Cl_init_21 0 rfl ?_
  refine j_sipush (v := nI 10240) d_Cl_init_22 (by decide) ?_
  refine k_newI 10240 74 d_Cl_init_25 rfl (by decide) (by decide) (by decide) rfl (by decide) ?_
  refine j_putR g_Cl_19_i d_Cl_init_27 ht (q_okW (N := 74) (Nat.le_of_ble_eq_true rfl) (by decide)) (by decide) ?_
  exact j_vret d_Cl_init_30 rfl (by decide) (by decide) ⟨rfl, rfl⟩
def s_Ch_init_75 (σ : q_H) : q_H := (q_setr (q_addAt (q_setr (q_addAt σ 76 (2, 20480)) 75 0 76) 77 (2, 20480)) 75 1 77)
set_option maxHeartbeats 4000000 in
set_option maxRecDepth 100000 in
theorem c_Ch_init_75 {ω : q_W} (σ : q_H) (hn : q_n σ = 75) (ht : q_t σ 75 = (1, 10)) : J ω m_Ch_init 1 2 40960 0 0 0 [(0, .ref 75)] [] σ (fun r τ => r = .inl none ∧ τ = s_Ch_init_75 σ) := by
  refine j_aload_n d_Ch_init_0 0 rfl ?_
  refine j_objInit oi_Ch_3 d_Ch_init_1 (by decide) (by decide) ?_
  refine j_aload_n d_Ch_init_4 0 rfl ?_
  refine j_sipush (v := nI 20480) d_Ch_init_5 (by decide) ?_
  refine k_newI 20480 76 d_Ch_init_8 rfl (by decide) (by decide) (by decide) (show q_n σ + 1 = 76 by rw [hn]) (by decide) ?_
  refine j_putR g_Ch_11_i d_Ch_init_10 ht (q_okW (N := 76) (Nat.le_of_ble_eq_true rfl) (by decide)) (by decide) ?_
  refine j_aload_n d_Ch_init_13 0 rfl ?_
  refine j_sipush (v := nI 20480) d_Ch_init_14 (by decide) ?_
  refine k_newI 20480 77 d_Ch_init_17 rfl (by decide) (by decide) (by decide) rfl (by decide) ?_
  refine j_putR g_Ch_17_i d_Ch_init_19 ht (q_okW (N := 77) (Nat.le_of_ble_eq_true rfl) (by decide)) (by decide) ?_
  exact j_vret d_Ch_init_22 rfl (by decide) (by decide) ⟨rfl, rfl⟩
def s_So_init_70 (σ : q_H) : q_H := (q_setr (q_addAt (q_setr (q_addAt (q_setr (q_addAt (q_setr (q_addAt (q_setr (q_addAt (q_setr (q_addAt (q_setr (q_addAt (q_setr (q_addAt (q_setr (q_addAt (q_setr (s_Ch_init_75 (q_addAt (q_setr (s_Cl_init_71 (q_addAt σ 71 (1, 9))) 70 0 71) 75 (1, 10))) 70 1 75) 78 (2, 20480)) 70 2 78) 79 (2, 10240)) 70 3 79) 80 (2, 10240)) 70 4 80) 81 (2, 10240)) 70 5 81) 82 (2, 14)) 70 9 82) 83 (2, 12)) 70 11 83) 84 (2, 10240)) 70 14 84) 85 (2, 10240)) 70 15 85) 86 (2, 10240)) 70 17 86)
set_option maxHeartbeats 4000000 in
set_option maxRecDepth 100000 in
theorem c_So_init_70 {ω : q_W} (σ : q_H) (hn : q_n σ = 70) (ht : q_t σ 70 = (1, 11)) : J ω m_So_init 2 16 513635 0 0 0 [(0, .ref 70)] [] σ (fun r τ => r = .inl none ∧ τ = s_So_init_70 σ) := by
  refine j_aload_n d_So_init_0 0 rfl ?_
  refine j_objInit oi_So_5 d_So_init_1 (by decide) (by decide) ?_
  refine j_aload_n d_So_init_4 0 rfl ?_
  refine k_new 71 n_So_1 d_So_init_5 (by decide) (by decide) (show q_n σ + 1 = 71 by rw [hn]) (by decide) ?_
  refine j_dup d_So_init_8 rfl ?_
  refine j_callI m_Cl_init [] [.ref 71, .ref 70] 1 3 390720 cI_So_11 d_So_init_9 rfl rfl (by decide) (by decide) (by decide) (by decide) (by decide) (c_Cl_init_71 _ rfl rfl) (fun v τ h => ?_) (fun x τ h => absurd h.1 (by simp))
  obtain ⟨h1, rfl⟩ := h
  cases h1
  refine j_putR g_So_12_i d_So_init_12 ht (q_okW (N := 74) (Nat.le_of_ble_eq_true rfl) (by decide)) (by decide) ?_
  refine j_aload_n d_So_init_15 0 rfl ?_
  refine k_new 75 n_So_18 d_So_init_16 (by decide) (by decide) rfl (by decide) ?_
  refine j_dup d_So_init_19 rfl ?_
  refine j_callI m_Ch_init [] [.ref 75, .ref 70] 1 2 40960 cI_So_20 d_So_init_20 rfl rfl (by decide) (by decide) (by decide) (by decide) (by decide) (c_Ch_init_75 _ rfl rfl) (fun v τ h => ?_) (fun x τ h => absurd h.1 (by simp))
  obtain ⟨h1, rfl⟩ := h
  cases h1
  refine j_putR g_So_21_i d_So_init_23 ht (q_okW (N := 77) (Nat.le_of_ble_eq_true rfl) (by decide)) (by decide) ?_
  refine j_aload_n d_So_init_26 0 rfl ?_
  refine j_sipush (v := nI 20480) d_So_init_27 (by decide) ?_
  refine k_newI 20480 78 d_So_init_30 rfl (by decide) (by decide) (by decide) rfl (by decide) ?_
  refine j_putR g_So_27_i d_So_init_32 ht (q_okW (N := 78) (Nat.le_of_ble_eq_true rfl) (by decide)) (by decide) ?_
  refine j_aload_n d_So_init_35 0 rfl ?_
  refine j_sipush (v := nI 10240) d_So_init_36 (by decide) ?_
  refine k_newI 10240 79 d_So_init_39 rfl (by decide) (by decide) (by decide) rfl (by decide) ?_
  refine j_putR g_So_31_i d_So_init_41 ht (q_okW (N := 79) (Nat.le_of_ble_eq_true rfl) (by decide)) (by decide) ?_
  refine j_aload_n d_So_init_44 0 rfl ?_
  refine j_sipush (v := nI 10240) d_So_init_45 (by decide) ?_
  refine k_newI 10240 80 d_So_init_48 rfl (by decide) (by decide) (by decide) rfl (by decide) ?_
  refine j_putR g_So_34_i d_So_init_50 ht (q_okW (N := 80) (Nat.le_of_ble_eq_true rfl) (by decide)) (by decide) ?_
  refine j_aload_n d_So_init_53 0 rfl ?_
  refine j_sipush (v := nI 10240) d_So_init_54 (by decide) ?_
  refine k_newI 10240 81 d_So_init_57 rfl (by decide) (by decide) (by decide) rfl (by decide) ?_
  refine j_putR g_So_37_i d_So_init_59 ht (q_okW (N := 81) (Nat.le_of_ble_eq_true rfl) (by decide)) (by decide) ?_
  refine j_aload_n d_So_init_62 0 rfl ?_
  refine j_bipush (v := nI 14) d_So_init_63 (by decide) ?_
  refine k_newI 14 82 d_So_init_65 rfl (by decide) (by decide) (by decide) rfl (by decide) ?_
  refine j_putR g_So_40_i d_So_init_67 ht (q_okW (N := 82) (Nat.le_of_ble_eq_true rfl) (by decide)) (by decide) ?_
  refine j_aload_n d_So_init_70 0 rfl ?_
  refine j_bipush (v := nI 12) d_So_init_71 (by decide) ?_
  refine k_newI 12 83 d_So_init_73 rfl (by decide) (by decide) (by decide) rfl (by decide) ?_
  refine j_putR g_So_43_i d_So_init_75 ht (q_okW (N := 83) (Nat.le_of_ble_eq_true rfl) (by decide)) (by decide) ?_
  refine j_aload_n d_So_init_78 0 rfl ?_
  refine j_sipush (v := nI 10240) d_So_init_79 (by decide) ?_
  refine k_newI 10240 84 d_So_init_82 rfl (by decide) (by decide) (by decide) rfl (by decide) ?_
  refine j_putR g_So_46_i d_So_init_84 ht (q_okW (N := 84) (Nat.le_of_ble_eq_true rfl) (by decide)) (by decide) ?_
  refine j_aload_n d_So_init_87 0 rfl ?_
  refine j_sipush (v := nI 10240) d_So_init_88 (by decide) ?_
  refine k_newI 10240 85 d_So_init_91 rfl (by decide) (by decide) (by decide) rfl (by decide) ?_
  refine j_putR g_So_49_i d_So_init_93 ht (q_okW (N := 85) (Nat.le_of_ble_eq_true rfl) (by decide)) (by decide) ?_
  refine j_aload_n d_So_init_96 0 rfl ?_
  refine j_sipush (v := nI 10240) d_So_init_97 (by decide) ?_
  refine k_newI 10240 86 d_So_init_100 rfl (by decide) (by decide) (by decide) rfl (by decide) ?_
  refine j_putR g_So_52_i d_So_init_102 ht (q_okW (N := 86) (Nat.le_of_ble_eq_true rfl) (by decide)) (by decide) ?_
  exact j_vret d_So_init_105 rfl (by decide) (by decide) ⟨rfl, rfl⟩
def s_Ma_init_87 (σ : q_H) : q_H := (q_setr (q_addAt (q_setr (q_addAt (q_setr (q_addAt (q_seti σ 87 1 (-1)) 88 (2, 12)) 87 2 88) 89 (2, 32)) 87 3 89) 90 (2, 400)) 87 4 90)
set_option maxHeartbeats 4000000 in
set_option maxRecDepth 100000 in
theorem c_Ma_init_87 {ω : q_W} (σ : q_H) (hn : q_n σ = 87) (ht : q_t σ 87 = (1, 4)) : J ω m_Ma_init 1 3 444 0 0 0 [(0, .ref 87)] [] σ (fun r τ => r = .inl none ∧ τ = s_Ma_init_87 σ) := by
  refine j_aload_n d_Ma_init_0 0 rfl ?_
  refine j_objInit oi_Ma_3 d_Ma_init_1 (by decide) (by decide) ?_
  refine j_aload_n d_Ma_init_4 0 rfl ?_
  refine j_iconst (v := (-1)) d_Ma_init_5 (by decide) ?_
  refine j_putI g_Ma_9_i d_Ma_init_6 ht (q_okW (Nat.le_of_eq hn.symm) (by decide)) ?_
  refine j_aload_n d_Ma_init_9 0 rfl ?_
  refine j_bipush (v := nI 12) d_Ma_init_10 (by decide) ?_
  refine k_newI 12 88 d_Ma_init_12 rfl (by decide) (by decide) (by decide) (show q_n σ + 1 = 88 by rw [hn]) (by decide) ?_
  refine j_putR g_Ma_15_i d_Ma_init_14 ht (q_okW (N := 88) (Nat.le_of_ble_eq_true rfl) (by decide)) (by decide) ?_
  refine j_aload_n d_Ma_init_17 0 rfl ?_
  refine j_bipush (v := nI 32) d_Ma_init_18 (by decide) ?_
  refine k_newI 32 89 d_Ma_init_20 rfl (by decide) (by decide) (by decide) rfl (by decide) ?_
  refine j_putR g_Ma_19_i d_Ma_init_22 ht (q_okW (N := 89) (Nat.le_of_ble_eq_true rfl) (by decide)) (by decide) ?_
  refine j_aload_n d_Ma_init_25 0 rfl ?_
  refine j_sipush (v := nI 400) d_Ma_init_26 (by decide) ?_
  refine k_newI 400 90 d_Ma_init_29 rfl (by decide) (by decide) (by decide) rfl (by decide) ?_
  refine j_putR g_Ma_22_i d_Ma_init_31 ht (q_okW (N := 90) (Nat.le_of_ble_eq_true rfl) (by decide)) (by decide) ?_
  exact j_vret d_Ma_init_34 rfl (by decide) (by decide) ⟨rfl, rfl⟩
def s_In_init_47 (σ : q_H) : q_H := (q_setr (q_addAt (q_setr (q_addAt (q_setr (q_addAt (q_setr (s_Ma_init_87 (q_addAt (q_setr (s_So_init_70 (q_addAt (q_setr (s_En_init_48 (q_addAt σ 48 (1, 7))) 47 0 48) 70 (1, 11))) 47 1 70) 87 (1, 4))) 47 3 87) 91 (2, 12)) 47 4 91) 92 (2, 16)) 47 6 92) 93 (2, 12)) 47 9 93)
set_option maxHeartbeats 4000000 in
set_option maxRecDepth 100000 in
theorem c_In_init_47 {ω : q_W} (σ : q_H) (hn : q_n σ = 47) (ht : q_t σ 47 = (1, 8)) : J ω m_In_init 4 46 590958 0 0 0 [(0, .ref 47)] [] σ (fun r τ => r = .inl none ∧ τ = s_In_init_47 σ) := by
  refine j_aload_n d_In_init_0 0 rfl ?_
  refine j_objInit oi_In_3 d_In_init_1 (by decide) (by decide) ?_
  refine j_aload_n d_In_init_4 0 rfl ?_
  refine k_new 48 n_In_9 d_In_init_5 (by decide) (by decide) (show q_n σ + 1 = 48 by rw [hn]) (by decide) ?_
  refine j_dup d_In_init_8 rfl ?_
  refine j_callI m_En_init [] [.ref 48, .ref 47] 3 21 76797 cI_In_11 d_In_init_9 rfl rfl (by decide) (by decide) (by decide) (by decide) (by decide) (c_En_init_48 _ rfl rfl) (fun v τ h => ?_) (fun x τ h => absurd h.1 (by simp))
  obtain ⟨h1, rfl⟩ := h
  cases h1
  refine j_putR g_In_12_i d_In_init_12 ht (q_okW (N := 69) (Nat.le_of_ble_eq_true rfl) (by decide)) (by decide) ?_
  refine j_aload_n d_In_init_15 0 rfl ?_
  refine k_new 70 n_In_18 d_In_init_16 (by decide) (by decide) rfl (by decide) ?_
  refine j_dup d_In_init_19 rfl ?_
  refine j_callI m_So_init [] [.ref 70, .ref 47] 2 16 513635 cI_In_20 d_In_init_20 rfl rfl (by decide) (by decide) (by decide) (by decide) (by decide) (c_So_init_70 _ rfl rfl) (fun v τ h => ?_) (fun x τ h => absurd h.1 (by simp))
  obtain ⟨h1, rfl⟩ := h
  cases h1
  refine j_putR g_In_21_i d_In_init_23 ht (q_okW (N := 86) (Nat.le_of_ble_eq_true rfl) (by decide)) (by decide) ?_
  refine j_aload_n d_In_init_26 0 rfl ?_
  refine k_new 87 n_In_25 d_In_init_27 (by decide) (by decide) rfl (by decide) ?_
  refine j_dup d_In_init_30 rfl ?_
  refine j_callI m_Ma_init [] [.ref 87, .ref 47] 1 3 444 cI_In_27 d_In_init_31 rfl rfl (by decide) (by decide) (by decide) (by decide) (by decide) (c_Ma_init_87 _ rfl rfl) (fun v τ h => ?_) (fun x τ h => absurd h.1 (by simp))
  obtain ⟨h1, rfl⟩ := h
  cases h1
  refine j_putR g_In_28_i d_In_init_34 ht (q_okW (N := 90) (Nat.le_of_ble_eq_true rfl) (by decide)) (by decide) ?_
  refine j_aload_n d_In_init_37 0 rfl ?_
  refine j_bipush (v := nI 12) d_In_init_38 (by decide) ?_
  refine k_newI 12 91 d_In_init_40 rfl (by decide) (by decide) (by decide) rfl (by decide) ?_
  refine j_putR g_In_32_i d_In_init_42 ht (q_okW (N := 91) (Nat.le_of_ble_eq_true rfl) (by decide)) (by decide) ?_
  refine j_aload_n d_In_init_45 0 rfl ?_
  refine j_bipush (v := nI 16) d_In_init_46 (by decide) ?_
  refine k_newI 16 92 d_In_init_48 rfl (by decide) (by decide) (by decide) rfl (by decide) ?_
  refine j_putR g_In_36_i d_In_init_50 ht (q_okW (N := 92) (Nat.le_of_ble_eq_true rfl) (by decide)) (by decide) ?_
  refine j_aload_n d_In_init_53 0 rfl ?_
  refine j_bipush (v := nI 12) d_In_init_54 (by decide) ?_
  refine k_newI 12 93 d_In_init_56 rfl (by decide) (by decide) (by decide) rfl (by decide) ?_
  refine j_putR g_In_39_i d_In_init_58 ht (q_okW (N := 93) (Nat.le_of_ble_eq_true rfl) (by decide)) (by decide) ?_
  exact j_vret d_In_init_61 rfl (by decide) (by decide) ⟨rfl, rfl⟩
def s_H_init_1 (σ : q_H) : q_H := (q_setr (s_In_init_47 (q_addAt (q_setr (s_Ma_init_43 (q_addAt (q_setr (q_addAt (q_seti (q_setr (s_Pr_init_29 (q_addAt (q_setr (s_Pr_init_16 (q_addAt (q_setr (s_Pa_init_8 (q_addAt (q_setr (s_Sc_init_2 (q_addAt σ 2 (1, 1))) 1 0 2) 8 (1, 3))) 1 1 8) 16 (1, 2))) 1 2 16) 29 (1, 2))) 1 3 29) 1 6 (-1)) 42 (2, 12)) 1 7 42) 43 (1, 4))) 1 8 43) 47 (1, 8))) 1 9 47)
set_option maxHeartbeats 4000000 in
set_option maxRecDepth 100000 in
theorem c_H_init_1 {ω : q_W} (σ : q_H) (hn : q_n σ = 1) (ht : q_t σ 1 = (1, 0)) : J ω m_H_init 10 92 654004 0 0 0 [(0, .ref 1)] [] σ (fun r τ => r = .inl none ∧ τ = s_H_init_1 σ) := by
  refine j_aload_n d_H_init_0 0 rfl ?_
  refine j_objInit oi_H_1 d_H_init_1 (by decide) (by decide) ?_
  refine j_aload_n d_H_init_4 0 rfl ?_
  refine k_new 2 n_H_7 d_H_init_5 (by decide) (by decide) (show q_n σ + 1 = 2 by rw [hn]) (by decide) ?_
  refine j_dup d_H_init_8 rfl ?_
  refine j_callI m_Sc_init [] [.ref 2, .ref 1] 9 5 16394 cI_H_9 d_H_init_9 rfl rfl (by decide) (by decide) (by decide) (by decide) (by decide) (c_Sc_init_2 _ rfl rfl) (fun v τ h => ?_) (fun x τ h => absurd h.1 (by simp))
  obtain ⟨h1, rfl⟩ := h
  cases h1
  refine j_putR g_H_10_i d_H_init_12 ht (q_okW (N := 7) (Nat.le_of_ble_eq_true rfl) (by decide)) (by decide) ?_
  refine j_aload_n d_H_init_15 0 rfl ?_
  refine k_new 8 n_H_16 d_H_init_16 (by decide) (by decide) rfl (by decide) ?_
  refine j_dup d_H_init_19 rfl ?_
  refine j_callI m_Pa_init [] [.ref 8, .ref 1] 1 7 960 cI_H_18 d_H_init_20 rfl rfl (by decide) (by decide) (by decide) (by decide) (by decide) (c_Pa_init_8 _ rfl rfl) (fun v τ h => ?_) (fun x τ h => absurd h.1 (by simp))
  obtain ⟨h1, rfl⟩ := h
  cases h1
  refine j_putR g_H_19_i d_H_init_23 ht (q_okW (N := 15) (Nat.le_of_ble_eq_true rfl) (by decide)) (by decide) ?_
  refine j_aload_n d_H_init_26 0 rfl ?_
  refine k_new 16 n_H_23 d_H_init_27 (by decide) (by decide) rfl (by decide) ?_
  refine j_dup d_H_init_30 rfl ?_
  refine j_callI m_Pr_init [] [.ref 16, .ref 1] 1 12 22576 cI_H_25 d_H_init_31 rfl rfl (by decide) (by decide) (by decide) (by decide) (by decide) (c_Pr_init_16 _ rfl rfl) (fun v τ h => ?_) (fun x τ h => absurd h.1 (by simp))
  obtain ⟨h1, rfl⟩ := h
  cases h1
  refine j_putR g_H_26_i d_H_init_34 ht (q_okW (N := 28) (Nat.le_of_ble_eq_true rfl) (by decide)) (by decide) ?_
  refine j_aload_n d_H_init_37 0 rfl ?_
  refine k_new 29 n_H_23 d_H_init_38 (by decide) (by decide) rfl (by decide) ?_
  refine j_dup d_H_init_41 rfl ?_
  refine j_callI m_Pr_init [] [.ref 29, .ref 1] 1 12 22576 cI_H_25 d_H_init_42 rfl rfl (by decide) (by decide) (by decide) (by decide) (by decide) (c_Pr_init_29 _ rfl rfl) (fun v τ h => ?_) (fun x τ h => absurd h.1 (by simp))
  obtain ⟨h1, rfl⟩ := h
  cases h1
  refine j_putR g_H_30_i d_H_init_45 ht (q_okW (N := 41) (Nat.le_of_ble_eq_true rfl) (by decide)) (by decide) ?_
  refine j_aload_n d_H_init_48 0 rfl ?_
  refine j_iconst (v := (-1)) d_H_init_49 (by decide) ?_
  refine j_putI g_H_33_i d_H_init_50 ht (q_okW (N := 41) (Nat.le_of_ble_eq_true rfl) (by decide)) ?_
  refine j_aload_n d_H_init_53 0 rfl ?_
  refine j_bipush (v := nI 12) d_H_init_54 (by decide) ?_
  refine k_newI 12 42 d_H_init_56 rfl (by decide) (by decide) (by decide) rfl (by decide) ?_
  refine j_putR g_H_37_i d_H_init_58 ht (q_okW (N := 42) (Nat.le_of_ble_eq_true rfl) (by decide)) (by decide) ?_
  refine j_aload_n d_H_init_61 0 rfl ?_
  refine k_new 43 n_H_41 d_H_init_62 (by decide) (by decide) rfl (by decide) ?_
  refine j_dup d_H_init_65 rfl ?_
  refine j_callI m_Ma_init [] [.ref 43, .ref 1] 1 3 444 cI_H_43 d_H_init_66 rfl rfl (by decide) (by decide) (by decide) (by decide) (by decide) (c_Ma_init_43 _ rfl rfl) (fun v τ h => ?_) (fun x τ h => absurd h.1 (by simp))
  obtain ⟨h1, rfl⟩ := h
  cases h1
  refine j_putR g_H_44_i d_H_init_69 ht (q_okW (N := 46) (Nat.le_of_ble_eq_true rfl) (by decide)) (by decide) ?_
  refine j_aload_n d_H_init_72 0 rfl ?_
  refine k_new 47 n_H_48 d_H_init_73 (by decide) (by decide) rfl (by decide) ?_
  refine j_dup d_H_init_76 rfl ?_
  refine j_callI m_In_init [] [.ref 47, .ref 1] 4 46 590958 cI_H_50 d_H_init_77 rfl rfl (by decide) (by decide) (by decide) (by decide) (by decide) (c_In_init_47 _ rfl rfl) (fun v τ h => ?_) (fun x τ h => absurd h.1 (by simp))
  obtain ⟨h1, rfl⟩ := h
  cases h1
  refine j_putR g_H_51_i d_H_init_80 ht (q_okW (N := 93) (Nat.le_of_ble_eq_true rfl) (by decide)) (by decide) ?_
  exact j_vret d_H_init_83 rfl (by decide) (by decide) ⟨rfl, rfl⟩

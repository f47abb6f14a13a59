theorem dX9_goOver_193 : decode cX9_goOver 193 = .ok (.iconst 2, 1) := by decide +kernel
theorem dX9_goOver_194 : decode cX9_goOver 194 = .ok (.if_icmp .ge 36, 3) := by decide +kernel
theorem dX9_goOver_197 : decode cX9_goOver 197 = .ok (.lload 6, 2) := by decide +kernel
theorem dX9_goOver_199 : decode cX9_goOver 199 = .ok (.lconst 0, 1) := by decide +kernel
theorem dX9_goOver_200 : decode cX9_goOver 200 = .ok (.lcmp, 1) := by decide +kernel
theorem dX9_goOver_201 : decode cX9_goOver 201 = .ok (.ifCond .eq 29, 3) := by decide +kernel
theorem dX9_goOver_204 : decode cX9_goOver 204 = .ok (.aload_n 0, 1) := by decide +kernel
theorem dX9_goOver_205 : decode cX9_goOver 205 = .ok (.lload 6, 2) := by decide +kernel
theorem dX9_goOver_207 : decode cX9_goOver 207 = .ok (.invokestatic 144, 3) := by decide +kernel
theorem dX9_goOver_210 : decode cX9_goOver 210 = .ok (.iload 5, 2) := by decide +kernel
theorem dX9_goOver_212 : decode cX9_goOver 212 = .ok (.invokevirtual 188, 3) := by decide +kernel
theorem dX9_goOver_215 : decode cX9_goOver 215 = .ok (.lload 6, 2) := by decide +kernel
theorem dX9_goOver_217 : decode cX9_goOver 217 = .ok (.lload 6, 2) := by decide +kernel
theorem dX9_goOver_219 : decode cX9_goOver 219 = .ok (.lconst 1, 1) := by decide +kernel
theorem dX9_goOver_220 : decode cX9_goOver 220 = .ok (.lsub, 1) := by decide +kernel
theorem dX9_goOver_221 : decode cX9_goOver 221 = .ok (.land, 1) := by decide +kernel
theorem dX9_goOver_222 : decode cX9_goOver 222 = .ok (.lstore 6, 2) := by decide +kernel
theorem dX9_goOver_224 : decode cX9_goOver 224 = .ok (.iinc 8 1, 3) := by decide +kernel
theorem dX9_goOver_227 : decode cX9_goOver 227 = .ok (.goto (-36), 3) := by decide +kernel
theorem dX9_goOver_230 : decode cX9_goOver 230 = .ok (.return_, 1) := by decide +kernel
theorem dX9_shadeTaken_0 : decode cX9_shadeTaken 0 = .ok (.iconst 0, 1) := by decide +kernel
theorem dX9_shadeTaken_1 : decode cX9_shadeTaken 1 = .ok (.istore_n 2, 1) := by decide +kernel
theorem dX9_shadeTaken_2 : decode cX9_shadeTaken 2 = .ok (.iconst 1, 1) := by decide +kernel
theorem dX9_shadeTaken_3 : decode cX9_shadeTaken 3 = .ok (.istore_n 3, 1) := by decide +kernel
theorem dX9_shadeTaken_4 : decode cX9_shadeTaken 4 = .ok (.iload_n 3, 1) := by decide +kernel
theorem dX9_shadeTaken_5 : decode cX9_shadeTaken 5 = .ok (.aload_n 0, 1) := by decide +kernel
theorem dX9_shadeTaken_6 : decode cX9_shadeTaken 6 = .ok (.getfield 83, 3) := by decide +kernel
theorem dX9_shadeTaken_9 : decode cX9_shadeTaken 9 = .ok (.iload_n 1, 1) := by decide +kernel
theorem dX9_shadeTaken_10 : decode cX9_shadeTaken 10 = .ok (.invokevirtual 150, 3) := by decide +kernel
theorem dX9_shadeTaken_13 : decode cX9_shadeTaken 13 = .ok (.if_icmp .gt 28, 3) := by decide +kernel
theorem dX9_shadeTaken_16 : decode cX9_shadeTaken 16 = .ok (.iload_n 2, 1) := by decide +kernel
theorem dX9_shadeTaken_17 : decode cX9_shadeTaken 17 = .ok (.aload_n 0, 1) := by decide +kernel
theorem dX9_shadeTaken_18 : decode cX9_shadeTaken 18 = .ok (.iload_n 1, 1) := by decide +kernel
theorem dX9_shadeTaken_19 : decode cX9_shadeTaken 19 = .ok (.bipush 26, 2) := by decide +kernel
theorem dX9_shadeTaken_21 : decode cX9_shadeTaken 21 = .ok (.aload_n 0, 1) := by decide +kernel
theorem dX9_shadeTaken_22 : decode cX9_shadeTaken 22 = .ok (.getfield 18, 3) := by decide +kernel
theorem dX9_shadeTaken_25 : decode cX9_shadeTaken 25 = .ok (.iload_n 1, 1) := by decide +kernel
theorem dX9_shadeTaken_26 : decode cX9_shadeTaken 26 = .ok (.iaload, 1) := by decide +kernel
theorem dX9_shadeTaken_27 : decode cX9_shadeTaken 27 = .ok (.iadd, 1) := by decide +kernel
theorem dX9_shadeTaken_28 : decode cX9_shadeTaken 28 = .ok (.iload_n 3, 1) := by decide +kernel
theorem dX9_shadeTaken_29 : decode cX9_shadeTaken 29 = .ok (.isub, 1) := by decide +kernel
theorem dX9_shadeTaken_30 : decode cX9_shadeTaken 30 = .ok (.invokevirtual 74, 3) := by decide +kernel
theorem dX9_shadeTaken_33 : decode cX9_shadeTaken 33 = .ok (.ior, 1) := by decide +kernel
theorem dX9_shadeTaken_34 : decode cX9_shadeTaken 34 = .ok (.istore_n 2, 1) := by decide +kernel
theorem dX9_shadeTaken_35 : decode cX9_shadeTaken 35 = .ok (.iinc 3 1, 3) := by decide +kernel
theorem dX9_shadeTaken_38 : decode cX9_shadeTaken 38 = .ok (.goto (-34), 3) := by decide +kernel
theorem dX9_shadeTaken_41 : decode cX9_shadeTaken 41 = .ok (.iload_n 2, 1) := by decide +kernel
theorem dX9_shadeTaken_42 : decode cX9_shadeTaken 42 = .ok (.ireturn, 1) := by decide +kernel
theorem dX9_shadeOfSource_0 : decode cX9_shadeOfSource 0 = .ok (.aload_n 0, 1) := by decide +kernel
theorem dX9_shadeOfSource_1 : decode cX9_shadeOfSource 1 = .ok (.getfield 83, 3) := by decide +kernel
theorem dX9_shadeOfSource_4 : decode cX9_shadeOfSource 4 = .ok (.iload_n 2, 1) := by decide +kernel
theorem dX9_shadeOfSource_5 : decode cX9_shadeOfSource 5 = .ok (.invokevirtual 119, 3) := by decide +kernel
theorem dX9_shadeOfSource_8 : decode cX9_shadeOfSource 8 = .ok (.istore_n 3, 1) := by decide +kernel
theorem dX9_shadeOfSource_9 : decode cX9_shadeOfSource 9 = .ok (.iload_n 1, 1) := by decide +kernel
theorem dX9_shadeOfSource_10 : decode cX9_shadeOfSource 10 = .ok (.lookupswitch 63 #[(1, 34), (3, 41), (13, 54)], 34) := by decide +kernel
theorem dX9_shadeOfSource_44 : decode cX9_shadeOfSource 44 = .ok (.aload_n 0, 1) := by decide +kernel
theorem dX9_shadeOfSource_45 : decode cX9_shadeOfSource 45 = .ok (.iload_n 2, 1) := by decide +kernel
theorem dX9_shadeOfSource_46 : decode cX9_shadeOfSource 46 = .ok (.iload_n 3, 1) := by decide +kernel
theorem dX9_shadeOfSource_47 : decode cX9_shadeOfSource 47 = .ok (.invokevirtual 74, 3) := by decide +kernel
theorem dX9_shadeOfSource_50 : decode cX9_shadeOfSource 50 = .ok (.ireturn, 1) := by decide +kernel
theorem dX9_shadeOfSource_51 : decode cX9_shadeOfSource 51 = .ok (.aload_n 0, 1) := by decide +kernel
theorem dX9_shadeOfSource_52 : decode cX9_shadeOfSource 52 = .ok (.getfield 33, 3) := by decide +kernel
theorem dX9_shadeOfSource_55 : decode cX9_shadeOfSource 55 = .ok (.aload_n 0, 1) := by decide +kernel
theorem dX9_shadeOfSource_56 : decode cX9_shadeOfSource 56 = .ok (.iload_n 3, 1) := by decide +kernel
theorem dX9_shadeOfSource_57 : decode cX9_shadeOfSource 57 = .ok (.invokevirtual 191, 3) := by decide +kernel
theorem dX9_shadeOfSource_60 : decode cX9_shadeOfSource 60 = .ok (.invokevirtual 162, 3) := by decide +kernel
theorem dX9_shadeOfSource_63 : decode cX9_shadeOfSource 63 = .ok (.ireturn, 1) := by decide +kernel
theorem dX9_shadeOfSource_64 : decode cX9_shadeOfSource 64 = .ok (.aload_n 0, 1) := by decide +kernel
theorem dX9_shadeOfSource_65 : decode cX9_shadeOfSource 65 = .ok (.getfield 33, 3) := by decide +kernel
theorem dX9_shadeOfSource_68 : decode cX9_shadeOfSource 68 = .ok (.iload_n 3, 1) := by decide +kernel
theorem dX9_shadeOfSource_69 : decode cX9_shadeOfSource 69 = .ok (.invokevirtual 162, 3) := by decide +kernel
theorem dX9_shadeOfSource_72 : decode cX9_shadeOfSource 72 = .ok (.ireturn, 1) := by decide +kernel
theorem dX9_shadeOfSource_73 : decode cX9_shadeOfSource 73 = .ok (.iconst 0, 1) := by decide +kernel
theorem dX9_shadeOfSource_74 : decode cX9_shadeOfSource 74 = .ok (.ireturn, 1) := by decide +kernel
theorem dX9_rowMark_0 : decode cX9_rowMark 0 = .ok (.iload_n 1, 1) := by decide +kernel
theorem dX9_rowMark_1 : decode cX9_rowMark 1 = .ok (.ifCond .lt 21, 3) := by decide +kernel
theorem dX9_rowMark_4 : decode cX9_rowMark 4 = .ok (.iload_n 1, 1) := by decide +kernel
theorem dX9_rowMark_5 : decode cX9_rowMark 5 = .ok (.bipush 26, 2) := by decide +kernel
theorem dX9_rowMark_7 : decode cX9_rowMark 7 = .ok (.if_icmp .ge 15, 3) := by decide +kernel
theorem dX9_rowMark_10 : decode cX9_rowMark 10 = .ok (.aload_n 0, 1) := by decide +kernel
theorem dX9_rowMark_11 : decode cX9_rowMark 11 = .ok (.getfield 87, 3) := by decide +kernel
theorem dX9_rowMark_14 : decode cX9_rowMark 14 = .ok (.bipush 26, 2) := by decide +kernel
theorem dX9_rowMark_16 : decode cX9_rowMark 16 = .ok (.iload_n 1, 1) := by decide +kernel
theorem dX9_rowMark_17 : decode cX9_rowMark 17 = .ok (.iadd, 1) := by decide +kernel
theorem dX9_rowMark_18 : decode cX9_rowMark 18 = .ok (.iaload, 1) := by decide +kernel
theorem dX9_rowMark_19 : decode cX9_rowMark 19 = .ok (.goto 4, 3) := by decide +kernel
theorem dX9_rowMark_22 : decode cX9_rowMark 22 = .ok (.iconst (-1), 1) := by decide +kernel
theorem dX9_rowMark_23 : decode cX9_rowMark 23 = .ok (.ireturn, 1) := by decide +kernel
theorem dX9_raiseLevels_0 : decode cX9_raiseLevels 0 = .ok (.iconst 0, 1) := by decide +kernel
theorem dX9_raiseLevels_1 : decode cX9_raiseLevels 1 = .ok (.istore_n 3, 1) := by decide +kernel
theorem dX9_raiseLevels_2 : decode cX9_raiseLevels 2 = .ok (.iload_n 3, 1) := by decide +kernel
theorem dX9_raiseLevels_3 : decode cX9_raiseLevels 3 = .ok (.aload_n 0, 1) := by decide +kernel
theorem dX9_raiseLevels_4 : decode cX9_raiseLevels 4 = .ok (.getfield 83, 3) := by decide +kernel
theorem dX9_raiseLevels_7 : decode cX9_raiseLevels 7 = .ok (.invokevirtual 110, 3) := by decide +kernel
theorem dX9_raiseLevels_10 : decode cX9_raiseLevels 10 = .ok (.if_icmp .ge 63, 3) := by decide +kernel
theorem dX9_raiseLevels_13 : decode cX9_raiseLevels 13 = .ok (.aload_n 0, 1) := by decide +kernel
theorem dX9_raiseLevels_14 : decode cX9_raiseLevels 14 = .ok (.getfield 22, 3) := by decide +kernel
theorem dX9_raiseLevels_17 : decode cX9_raiseLevels 17 = .ok (.iload_n 3, 1) := by decide +kernel
theorem dX9_raiseLevels_18 : decode cX9_raiseLevels 18 = .ok (.iaload, 1) := by decide +kernel
theorem dX9_raiseLevels_19 : decode cX9_raiseLevels 19 = .ok (.iload_n 2, 1) := by decide +kernel
theorem dX9_raiseLevels_20 : decode cX9_raiseLevels 20 = .ok (.ior, 1) := by decide +kernel
theorem dX9_raiseLevels_21 : decode cX9_raiseLevels 21 = .ok (.istore 4, 2) := by decide +kernel
theorem dX9_raiseLevels_23 : decode cX9_raiseLevels 23 = .ok (.aload_n 0, 1) := by decide +kernel
theorem dX9_raiseLevels_24 : decode cX9_raiseLevels 24 = .ok (.getfield 14, 3) := by decide +kernel
theorem dX9_raiseLevels_27 : decode cX9_raiseLevels 27 = .ok (.iload_n 1, 1) := by decide +kernel
theorem dX9_raiseLevels_28 : decode cX9_raiseLevels 28 = .ok (.iload_n 3, 1) := by decide +kernel
theorem dX9_raiseLevels_29 : decode cX9_raiseLevels 29 = .ok (.invokevirtual 66, 3) := by decide +kernel
theorem dX9_raiseLevels_32 : decode cX9_raiseLevels 32 = .ok (.ifCond .eq 35, 3) := by decide +kernel
theorem dX9_raiseLevels_35 : decode cX9_raiseLevels 35 = .ok (.iload 4, 2) := by decide +kernel
theorem dX9_raiseLevels_37 : decode cX9_raiseLevels 37 = .ok (.aload_n 0, 1) := by decide +kernel
theorem dX9_raiseLevels_38 : decode cX9_raiseLevels 38 = .ok (.getfield 22, 3) := by decide +kernel
theorem dX9_raiseLevels_41 : decode cX9_raiseLevels 41 = .ok (.iload_n 3, 1) := by decide +kernel
theorem dX9_raiseLevels_42 : decode cX9_raiseLevels 42 = .ok (.iaload, 1) := by decide +kernel
theorem dX9_raiseLevels_43 : decode cX9_raiseLevels 43 = .ok (.if_icmp .eq 24, 3) := by decide +kernel
theorem dX9_raiseLevels_46 : decode cX9_raiseLevels 46 = .ok (.aload_n 0, 1) := by decide +kernel
theorem dX9_raiseLevels_47 : decode cX9_raiseLevels 47 = .ok (.getfield 22, 3) := by decide +kernel
theorem dX9_raiseLevels_50 : decode cX9_raiseLevels 50 = .ok (.iload_n 3, 1) := by decide +kernel
theorem dX9_raiseLevels_51 : decode cX9_raiseLevels 51 = .ok (.iload 4, 2) := by decide +kernel
theorem dX9_raiseLevels_53 : decode cX9_raiseLevels 53 = .ok (.iastore, 1) := by decide +kernel
theorem dX9_raiseLevels_54 : decode cX9_raiseLevels 54 = .ok (.aload_n 0, 1) := by decide +kernel
theorem dX9_raiseLevels_55 : decode cX9_raiseLevels 55 = .ok (.dup, 1) := by decide +kernel
theorem dX9_raiseLevels_56 : decode cX9_raiseLevels 56 = .ok (.getfield 165, 3) := by decide +kernel
theorem dX9_raiseLevels_59 : decode cX9_raiseLevels 59 = .ok (.iload_n 3, 1) := by decide +kernel
theorem dX9_raiseLevels_60 : decode cX9_raiseLevels 60 = .ok (.invokestatic 138, 3) := by decide +kernel
theorem dX9_raiseLevels_63 : decode cX9_raiseLevels 63 = .ok (.lor, 1) := by decide +kernel
theorem dX9_raiseLevels_64 : decode cX9_raiseLevels 64 = .ok (.putfield 165, 3) := by decide +kernel
theorem dX9_raiseLevels_67 : decode cX9_raiseLevels 67 = .ok (.iinc 3 1, 3) := by decide +kernel
theorem dX9_raiseLevels_70 : decode cX9_raiseLevels 70 = .ok (.goto (-68), 3) := by decide +kernel
theorem dX9_raiseLevels_73 : decode cX9_raiseLevels 73 = .ok (.return_, 1) := by decide +kernel
theorem dX9_raiseHeld_0 : decode cX9_raiseHeld 0 = .ok (.aload_n 0, 1) := by decide +kernel
theorem dX9_raiseHeld_1 : decode cX9_raiseHeld 1 = .ok (.getfield 27, 3) := by decide +kernel
theorem dX9_raiseHeld_4 : decode cX9_raiseHeld 4 = .ok (.iload_n 1, 1) := by decide +kernel
theorem dX9_raiseHeld_5 : decode cX9_raiseHeld 5 = .ok (.aaload, 1) := by decide +kernel
theorem dX9_raiseHeld_6 : decode cX9_raiseHeld 6 = .ok (.astore_n 3, 1) := by decide +kernel
theorem dX9_raiseHeld_7 : decode cX9_raiseHeld 7 = .ok (.iconst 0, 1) := by decide +kernel
theorem dX9_raiseHeld_8 : decode cX9_raiseHeld 8 = .ok (.istore 4, 2) := by decide +kernel
theorem dX9_raiseHeld_10 : decode cX9_raiseHeld 10 = .ok (.iload 4, 2) := by decide +kernel
theorem dX9_raiseHeld_12 : decode cX9_raiseHeld 12 = .ok (.iload_n 2, 1) := by decide +kernel
theorem dX9_raiseHeld_13 : decode cX9_raiseHeld 13 = .ok (.if_icmp .ge 58, 3) := by decide +kernel
theorem dX9_raiseHeld_16 : decode cX9_raiseHeld 16 = .ok (.iload 4, 2) := by decide +kernel
theorem dX9_raiseHeld_18 : decode cX9_raiseHeld 18 = .ok (.bipush 56, 2) := by decide +kernel
theorem dX9_raiseHeld_20 : decode cX9_raiseHeld 20 = .ok (.if_icmp .ge 51, 3) := by decide +kernel
theorem dX9_raiseHeld_23 : decode cX9_raiseHeld 23 = .ok (.aload_n 3, 1) := by decide +kernel
theorem dX9_raiseHeld_24 : decode cX9_raiseHeld 24 = .ok (.iload 4, 2) := by decide +kernel
theorem dX9_raiseHeld_26 : decode cX9_raiseHeld 26 = .ok (.iaload, 1) := by decide +kernel
theorem dX9_raiseHeld_27 : decode cX9_raiseHeld 27 = .ok (.aload_n 0, 1) := by decide +kernel
theorem dX9_raiseHeld_28 : decode cX9_raiseHeld 28 = .ok (.getfield 30, 3) := by decide +kernel
theorem dX9_raiseHeld_31 : decode cX9_raiseHeld 31 = .ok (.iload 4, 2) := by decide +kernel
theorem dX9_raiseHeld_33 : decode cX9_raiseHeld 33 = .ok (.iaload, 1) := by decide +kernel
theorem dX9_raiseHeld_34 : decode cX9_raiseHeld 34 = .ok (.ior, 1) := by decide +kernel
theorem dX9_raiseHeld_35 : decode cX9_raiseHeld 35 = .ok (.istore 5, 2) := by decide +kernel
theorem dX9_raiseHeld_37 : decode cX9_raiseHeld 37 = .ok (.iload 5, 2) := by decide +kernel
theorem dX9_raiseHeld_39 : decode cX9_raiseHeld 39 = .ok (.aload_n 3, 1) := by decide +kernel
theorem dX9_raiseHeld_40 : decode cX9_raiseHeld 40 = .ok (.iload 4, 2) := by decide +kernel
theorem dX9_raiseHeld_42 : decode cX9_raiseHeld 42 = .ok (.iaload, 1) := by decide +kernel
theorem dX9_raiseHeld_43 : decode cX9_raiseHeld 43 = .ok (.if_icmp .eq 22, 3) := by decide +kernel
theorem dX9_raiseHeld_46 : decode cX9_raiseHeld 46 = .ok (.aload_n 3, 1) := by decide +kernel
theorem dX9_raiseHeld_47 : decode cX9_raiseHeld 47 = .ok (.iload 4, 2) := by decide +kernel
theorem dX9_raiseHeld_49 : decode cX9_raiseHeld 49 = .ok (.iload 5, 2) := by decide +kernel
theorem dX9_raiseHeld_51 : decode cX9_raiseHeld 51 = .ok (.iastore, 1) := by decide +kernel
theorem dX9_raiseHeld_52 : decode cX9_raiseHeld 52 = .ok (.aload_n 0, 1) := by decide +kernel
theorem dX9_raiseHeld_53 : decode cX9_raiseHeld 53 = .ok (.dup, 1) := by decide +kernel
theorem dX9_raiseHeld_54 : decode cX9_raiseHeld 54 = .ok (.getfield 165, 3) := by decide +kernel
theorem dX9_raiseHeld_57 : decode cX9_raiseHeld 57 = .ok (.iload_n 1, 1) := by decide +kernel
theorem dX9_raiseHeld_58 : decode cX9_raiseHeld 58 = .ok (.invokestatic 138, 3) := by decide +kernel
theorem dX9_raiseHeld_61 : decode cX9_raiseHeld 61 = .ok (.lor, 1) := by decide +kernel
theorem dX9_raiseHeld_62 : decode cX9_raiseHeld 62 = .ok (.putfield 165, 3) := by decide +kernel
theorem dX9_raiseHeld_65 : decode cX9_raiseHeld 65 = .ok (.iinc 4 1, 3) := by decide +kernel
theorem dX9_raiseHeld_68 : decode cX9_raiseHeld 68 = .ok (.goto (-58), 3) := by decide +kernel
theorem dX9_raiseHeld_71 : decode cX9_raiseHeld 71 = .ok (.return_, 1) := by decide +kernel
theorem dX9_flowsFit_0 : decode cX9_flowsFit 0 = .ok (.iconst 0, 1) := by decide +kernel
theorem dX9_flowsFit_1 : decode cX9_flowsFit 1 = .ok (.istore_n 1, 1) := by decide +kernel
theorem dX9_flowsFit_2 : decode cX9_flowsFit 2 = .ok (.iload_n 1, 1) := by decide +kernel
theorem dX9_flowsFit_3 : decode cX9_flowsFit 3 = .ok (.aload_n 0, 1) := by decide +kernel
theorem dX9_flowsFit_4 : decode cX9_flowsFit 4 = .ok (.getfield 83, 3) := by decide +kernel
theorem dX9_flowsFit_7 : decode cX9_flowsFit 7 = .ok (.invokevirtual 110, 3) := by decide +kernel
theorem dX9_flowsFit_10 : decode cX9_flowsFit 10 = .ok (.if_icmp .ge 33, 3) := by decide +kernel
theorem dX9_flowsFit_13 : decode cX9_flowsFit 13 = .ok (.aload_n 0, 1) := by decide +kernel
theorem dX9_flowsFit_14 : decode cX9_flowsFit 14 = .ok (.iload_n 1, 1) := by decide +kernel
theorem dX9_flowsFit_15 : decode cX9_flowsFit 15 = .ok (.invokevirtual 70, 3) := by decide +kernel
theorem dX9_flowsFit_18 : decode cX9_flowsFit 18 = .ok (.ifCond .eq 19, 3) := by decide +kernel
theorem dX9_flowsFit_21 : decode cX9_flowsFit 21 = .ok (.aload_n 0, 1) := by decide +kernel
theorem dX9_flowsFit_22 : decode cX9_flowsFit 22 = .ok (.iload_n 1, 1) := by decide +kernel
theorem dX9_flowsFit_23 : decode cX9_flowsFit 23 = .ok (.invokevirtual 194, 3) := by decide +kernel
theorem dX9_flowsFit_26 : decode cX9_flowsFit 26 = .ok (.ifCond .ne 11, 3) := by decide +kernel
theorem dX9_flowsFit_29 : decode cX9_flowsFit 29 = .ok (.aload_n 0, 1) := by decide +kernel
theorem dX9_flowsFit_30 : decode cX9_flowsFit 30 = .ok (.iload_n 1, 1) := by decide +kernel
theorem dX9_flowsFit_31 : decode cX9_flowsFit 31 = .ok (.bipush 6, 2) := by decide +kernel
theorem dX9_flowsFit_33 : decode cX9_flowsFit 33 = .ok (.invokevirtual 125, 3) := by decide +kernel
theorem dX9_flowsFit_36 : decode cX9_flowsFit 36 = .ok (.ireturn, 1) := by decide +kernel
theorem dX9_flowsFit_37 : decode cX9_flowsFit 37 = .ok (.iinc 1 1, 3) := by decide +kernel
theorem dX9_flowsFit_40 : decode cX9_flowsFit 40 = .ok (.goto (-38), 3) := by decide +kernel
theorem dX9_flowsFit_43 : decode cX9_flowsFit 43 = .ok (.iconst 1, 1) := by decide +kernel
theorem dX9_flowsFit_44 : decode cX9_flowsFit 44 = .ok (.ireturn, 1) := by decide +kernel
theorem dX9_flowFits_0 : decode cX9_flowFits 0 = .ok (.aload_n 0, 1) := by decide +kernel
theorem dX9_flowFits_1 : decode cX9_flowFits 1 = .ok (.getfield 83, 3) := by decide +kernel
theorem dX9_flowFits_4 : decode cX9_flowFits 4 = .ok (.iload_n 1, 1) := by decide +kernel
theorem dX9_flowFits_5 : decode cX9_flowFits 5 = .ok (.invokevirtual 119, 3) := by decide +kernel
theorem dX9_flowFits_8 : decode cX9_flowFits 8 = .ok (.istore_n 2, 1) := by decide +kernel
theorem dX9_flowFits_9 : decode cX9_flowFits 9 = .ok (.aload_n 0, 1) := by decide +kernel
theorem dX9_flowFits_10 : decode cX9_flowFits 10 = .ok (.getfield 22, 3) := by decide +kernel
theorem dX9_flowFits_13 : decode cX9_flowFits 13 = .ok (.iload_n 1, 1) := by decide +kernel
theorem dX9_flowFits_14 : decode cX9_flowFits 14 = .ok (.iaload, 1) := by decide +kernel
theorem dX9_flowFits_15 : decode cX9_flowFits 15 = .ok (.aload_n 0, 1) := by decide +kernel
theorem dX9_flowFits_16 : decode cX9_flowFits 16 = .ok (.iload_n 1, 1) := by decide +kernel
theorem dX9_flowFits_17 : decode cX9_flowFits 17 = .ok (.invokevirtual 178, 3) := by decide +kernel
theorem dX9_flowFits_20 : decode cX9_flowFits 20 = .ok (.ior, 1) := by decide +kernel
theorem dX9_flowFits_21 : decode cX9_flowFits 21 = .ok (.istore_n 3, 1) := by decide +kernel
theorem dX9_flowFits_22 : decode cX9_flowFits 22 = .ok (.aload_n 0, 1) := by decide +kernel
theorem dX9_flowFits_23 : decode cX9_flowFits 23 = .ok (.getfield 83, 3) := by decide +kernel
theorem dX9_flowFits_26 : decode cX9_flowFits 26 = .ok (.iload_n 1, 1) := by decide +kernel
theorem dX9_flowFits_27 : decode cX9_flowFits 27 = .ok (.invokevirtual 116, 3) := by decide +kernel
theorem dX9_flowFits_30 : decode cX9_flowFits 30 = .ok (.lookupswitch 109 #[(2, 42), (4, 85), (13, 99), (14, 99)], 42) := by decide +kernel
theorem dX9_flowFits_72 : decode cX9_flowFits 72 = .ok (.iload_n 2, 1) := by decide +kernel
theorem dX9_flowFits_73 : decode cX9_flowFits 73 = .ok (.ifCond .lt 36, 3) := by decide +kernel
theorem dX9_flowFits_76 : decode cX9_flowFits 76 = .ok (.iload_n 2, 1) := by decide +kernel
theorem dX9_flowFits_77 : decode cX9_flowFits 77 = .ok (.bipush 26, 2) := by decide +kernel
theorem dX9_flowFits_79 : decode cX9_flowFits 79 = .ok (.if_icmp .ge 30, 3) := by decide +kernel
theorem dX9_flowFits_82 : decode cX9_flowFits 82 = .ok (.aload_n 0, 1) := by decide +kernel
theorem dX9_flowFits_83 : decode cX9_flowFits 83 = .ok (.getfield 87, 3) := by decide +kernel
theorem dX9_flowFits_86 : decode cX9_flowFits 86 = .ok (.iload_n 2, 1) := by decide +kernel
theorem dX9_flowFits_87 : decode cX9_flowFits 87 = .ok (.iaload, 1) := by decide +kernel
theorem dX9_flowFits_88 : decode cX9_flowFits 88 = .ok (.iconst (-1), 1) := by decide +kernel
theorem dX9_flowFits_89 : decode cX9_flowFits 89 = .ok (.if_icmp .eq 20, 3) := by decide +kernel
theorem dX9_flowFits_92 : decode cX9_flowFits 92 = .ok (.aload_n 0, 1) := by decide +kernel
theorem dX9_flowFits_93 : decode cX9_flowFits 93 = .ok (.getfield 33, 3) := by decide +kernel
theorem dX9_flowFits_96 : decode cX9_flowFits 96 = .ok (.iload_n 3, 1) := by decide +kernel
theorem dX9_flowFits_97 : decode cX9_flowFits 97 = .ok (.aload_n 0, 1) := by decide +kernel
theorem dX9_flowFits_98 : decode cX9_flowFits 98 = .ok (.getfield 87, 3) := by decide +kernel
theorem dX9_flowFits_101 : decode cX9_flowFits 101 = .ok (.iload_n 2, 1) := by decide +kernel
theorem dX9_flowFits_102 : decode cX9_flowFits 102 = .ok (.iaload, 1) := by decide +kernel
theorem dX9_flowFits_103 : decode cX9_flowFits 103 = .ok (.invokevirtual 197, 3) := by decide +kernel
theorem dX9_flowFits_106 : decode cX9_flowFits 106 = .ok (.ifCond .eq 7, 3) := by decide +kernel
theorem dX9_flowFits_109 : decode cX9_flowFits 109 = .ok (.iconst 1, 1) := by decide +kernel
theorem dX9_flowFits_110 : decode cX9_flowFits 110 = .ok (.goto 4, 3) := by decide +kernel
theorem dX9_flowFits_113 : decode cX9_flowFits 113 = .ok (.iconst 0, 1) := by decide +kernel
theorem dX9_flowFits_114 : decode cX9_flowFits 114 = .ok (.ireturn, 1) := by decide +kernel
theorem dX9_flowFits_115 : decode cX9_flowFits 115 = .ok (.aload_n 0, 1) := by decide +kernel
theorem dX9_flowFits_116 : decode cX9_flowFits 116 = .ok (.getfield 33, 3) := by decide +kernel
theorem dX9_flowFits_119 : decode cX9_flowFits 119 = .ok (.iload_n 3, 1) := by decide +kernel
theorem dX9_flowFits_120 : decode cX9_flowFits 120 = .ok (.aload_n 0, 1) := by decide +kernel
theorem dX9_flowFits_121 : decode cX9_flowFits 121 = .ok (.iload_n 2, 1) := by decide +kernel
theorem dX9_flowFits_122 : decode cX9_flowFits 122 = .ok (.invokevirtual 191, 3) := by decide +kernel
theorem dX9_flowFits_125 : decode cX9_flowFits 125 = .ok (.invokevirtual 197, 3) := by decide +kernel
theorem dX9_flowFits_128 : decode cX9_flowFits 128 = .ok (.ireturn, 1) := by decide +kernel
theorem dX9_flowFits_129 : decode cX9_flowFits 129 = .ok (.aload_n 0, 1) := by decide +kernel
theorem dX9_flowFits_130 : decode cX9_flowFits 130 = .ok (.getfield 33, 3) := by decide +kernel
theorem dX9_flowFits_133 : decode cX9_flowFits 133 = .ok (.iload_n 3, 1) := by decide +kernel
theorem dX9_flowFits_134 : decode cX9_flowFits 134 = .ok (.iload_n 2, 1) := by decide +kernel
theorem dX9_flowFits_135 : decode cX9_flowFits 135 = .ok (.invokevirtual 197, 3) := by decide +kernel
theorem dX9_flowFits_138 : decode cX9_flowFits 138 = .ok (.ireturn, 1) := by decide +kernel
theorem dX9_flowFits_139 : decode cX9_flowFits 139 = .ok (.iconst 1, 1) := by decide +kernel
theorem dX9_flowFits_140 : decode cX9_flowFits 140 = .ok (.ireturn, 1) := by decide +kernel
theorem dX10_init_0 : decode cX10_init 0 = .ok (.aload_n 0, 1) := by decide +kernel
theorem dX10_init_1 : decode cX10_init 1 = .ok (.invokespecial 3, 3) := by decide +kernel
theorem dX10_init_4 : decode cX10_init 4 = .ok (.aload_n 0, 1) := by decide +kernel
theorem dX10_init_5 : decode cX10_init 5 = .ok (.aload_n 1, 1) := by decide +kernel
theorem dX10_init_6 : decode cX10_init 6 = .ok (.putfield 9, 3) := by decide +kernel
theorem dX10_init_9 : decode cX10_init 9 = .ok (.return_, 1) := by decide +kernel
theorem dX10_goOver_0 : decode cX10_goOver 0 = .ok (.aload_n 0, 1) := by decide +kernel
theorem dX10_goOver_1 : decode cX10_goOver 1 = .ok (.aload_n 1, 1) := by decide +kernel
theorem dX10_goOver_2 : decode cX10_goOver 2 = .ok (.putfield 15, 3) := by decide +kernel
theorem dX10_goOver_5 : decode cX10_goOver 5 = .ok (.aload_n 0, 1) := by decide +kernel
theorem dX10_goOver_6 : decode cX10_goOver 6 = .ok (.aload_n 0, 1) := by decide +kernel
theorem dX10_goOver_7 : decode cX10_goOver 7 = .ok (.getfield 15, 3) := by decide +kernel
theorem dX10_goOver_10 : decode cX10_goOver 10 = .ok (.getfield 19, 3) := by decide +kernel
theorem dX10_goOver_13 : decode cX10_goOver 13 = .ok (.iconst 0, 1) := by decide +kernel
theorem dX10_goOver_14 : decode cX10_goOver 14 = .ok (.invokevirtual 25, 3) := by decide +kernel
theorem dX10_goOver_17 : decode cX10_goOver 17 = .ok (.aload_n 0, 1) := by decide +kernel
theorem dX10_goOver_18 : decode cX10_goOver 18 = .ok (.getfield 9, 3) := by decide +kernel
theorem dX10_goOver_21 : decode cX10_goOver 21 = .ok (.invokevirtual 29, 3) := by decide +kernel
theorem dX10_goOver_24 : decode cX10_goOver 24 = .ok (.return_, 1) := by decide +kernel
theorem dX10_goThrough_0 : decode cX10_goThrough 0 = .ok (.iload_n 2, 1) := by decide +kernel
theorem dX10_goThrough_1 : decode cX10_goThrough 1 = .ok (.bipush 48, 2) := by decide +kernel
theorem dX10_goThrough_3 : decode cX10_goThrough 3 = .ok (.if_icmp .lt 4, 3) := by decide +kernel
theorem dX10_goThrough_6 : decode cX10_goThrough 6 = .ok (.return_, 1) := by decide +kernel
theorem dX10_goThrough_7 : decode cX10_goThrough 7 = .ok (.aload_n 1, 1) := by decide +kernel
theorem dX10_goThrough_8 : decode cX10_goThrough 8 = .ok (.astore_n 3, 1) := by decide +kernel
theorem dX10_goThrough_9 : decode cX10_goThrough 9 = .ok (.aload_n 3, 1) := by decide +kernel
theorem dX10_goThrough_10 : decode cX10_goThrough 10 = .ok (.ifnull 106, 3) := by decide +kernel
theorem dX10_goThrough_13 : decode cX10_goThrough 13 = .ok (.aload_n 0, 1) := by decide +kernel
theorem dX10_goThrough_14 : decode cX10_goThrough 14 = .ok (.getfield 9, 3) := by decide +kernel
theorem dX10_goThrough_17 : decode cX10_goThrough 17 = .ok (.invokevirtual 34, 3) := by decide +kernel
theorem dX10_goThrough_20 : decode cX10_goThrough 20 = .ok (.ifCond .eq 96, 3) := by decide +kernel
theorem dX10_goThrough_23 : decode cX10_goThrough 23 = .ok (.aload_n 0, 1) := by decide +kernel
theorem dX10_goThrough_24 : decode cX10_goThrough 24 = .ok (.getfield 9, 3) := by decide +kernel
theorem dX10_goThrough_27 : decode cX10_goThrough 27 = .ok (.invokevirtual 38, 3) := by decide +kernel
theorem dX10_goThrough_30 : decode cX10_goThrough 30 = .ok (.ifCond .eq 86, 3) := by decide +kernel
theorem dX10_goThrough_33 : decode cX10_goThrough 33 = .ok (.aload_n 3, 1) := by decide +kernel
theorem dX10_goThrough_34 : decode cX10_goThrough 34 = .ok (.getfield 41, 3) := by decide +kernel
theorem dX10_goThrough_37 : decode cX10_goThrough 37 = .ok (.tableswitch 66 16 18 #[27, 36, 45], 27) := by decide +kernel
theorem dX10_goThrough_64 : decode cX10_goThrough 64 = .ok (.aload_n 0, 1) := by decide +kernel
theorem dX10_goThrough_65 : decode cX10_goThrough 65 = .ok (.aload_n 3, 1) := by decide +kernel
theorem dX10_goThrough_66 : decode cX10_goThrough 66 = .ok (.iload_n 2, 1) := by decide +kernel
theorem dX10_goThrough_67 : decode cX10_goThrough 67 = .ok (.invokevirtual 47, 3) := by decide +kernel
theorem dX10_goThrough_70 : decode cX10_goThrough 70 = .ok (.goto 38, 3) := by decide +kernel
theorem dX10_goThrough_73 : decode cX10_goThrough 73 = .ok (.aload_n 0, 1) := by decide +kernel
theorem dX10_goThrough_74 : decode cX10_goThrough 74 = .ok (.aload_n 3, 1) := by decide +kernel
theorem dX10_goThrough_75 : decode cX10_goThrough 75 = .ok (.iload_n 2, 1) := by decide +kernel
theorem dX10_goThrough_76 : decode cX10_goThrough 76 = .ok (.invokevirtual 50, 3) := by decide +kernel
theorem dX10_goThrough_79 : decode cX10_goThrough 79 = .ok (.goto 29, 3) := by decide +kernel
theorem dX10_goThrough_82 : decode cX10_goThrough 82 = .ok (.aload_n 0, 1) := by decide +kernel
theorem dX10_goThrough_83 : decode cX10_goThrough 83 = .ok (.aload_n 0, 1) := by decide +kernel
theorem dX10_goThrough_84 : decode cX10_goThrough 84 = .ok (.getfield 15, 3) := by decide +kernel
theorem dX10_goThrough_87 : decode cX10_goThrough 87 = .ok (.aload_n 3, 1) := by decide +kernel
theorem dX10_goThrough_88 : decode cX10_goThrough 88 = .ok (.getfield 53, 3) := by decide +kernel
theorem dX10_goThrough_91 : decode cX10_goThrough 91 = .ok (.invokevirtual 56, 3) := by decide +kernel
theorem dX10_goThrough_94 : decode cX10_goThrough 94 = .ok (.iload_n 2, 1) := by decide +kernel
theorem dX10_goThrough_95 : decode cX10_goThrough 95 = .ok (.iconst 1, 1) := by decide +kernel
theorem dX10_goThrough_96 : decode cX10_goThrough 96 = .ok (.iadd, 1) := by decide +kernel
theorem dX10_goThrough_97 : decode cX10_goThrough 97 = .ok (.invokevirtual 25, 3) := by decide +kernel
theorem dX10_goThrough_100 : decode cX10_goThrough 100 = .ok (.goto 8, 3) := by decide +kernel
theorem dX10_goThrough_103 : decode cX10_goThrough 103 = .ok (.aload_n 0, 1) := by decide +kernel
theorem dX10_goThrough_104 : decode cX10_goThrough 104 = .ok (.aload_n 3, 1) := by decide +kernel
theorem dX10_goThrough_105 : decode cX10_goThrough 105 = .ok (.invokevirtual 60, 3) := by decide +kernel
theorem dX10_goThrough_108 : decode cX10_goThrough 108 = .ok (.aload_n 3, 1) := by decide +kernel
theorem dX10_goThrough_109 : decode cX10_goThrough 109 = .ok (.getfield 64, 3) := by decide +kernel
theorem dX10_goThrough_112 : decode cX10_goThrough 112 = .ok (.astore_n 3, 1) := by decide +kernel
theorem dX10_goThrough_113 : decode cX10_goThrough 113 = .ok (.goto (-104), 3) := by decide +kernel
theorem dX10_goThrough_116 : decode cX10_goThrough 116 = .ok (.return_, 1) := by decide +kernel
theorem dX10_goOverPlain_0 : decode cX10_goOverPlain 0 = .ok (.aload_n 0, 1) := by decide +kernel
theorem dX10_goOverPlain_1 : decode cX10_goOverPlain 1 = .ok (.aload_n 1, 1) := by decide +kernel
theorem dX10_goOverPlain_2 : decode cX10_goOverPlain 2 = .ok (.invokevirtual 67, 3) := by decide +kernel
theorem dX10_goOverPlain_5 : decode cX10_goOverPlain 5 = .ok (.aload_n 0, 1) := by decide +kernel
theorem dX10_goOverPlain_6 : decode cX10_goOverPlain 6 = .ok (.getfield 9, 3) := by decide +kernel
theorem dX10_goOverPlain_9 : decode cX10_goOverPlain 9 = .ok (.invokevirtual 34, 3) := by decide +kernel
theorem dX10_goOverPlain_12 : decode cX10_goOverPlain 12 = .ok (.ifCond .ne 4, 3) := by decide +kernel
theorem dX10_goOverPlain_15 : decode cX10_goOverPlain 15 = .ok (.return_, 1) := by decide +kernel
theorem dX10_goOverPlain_16 : decode cX10_goOverPlain 16 = .ok (.aload_n 1, 1) := by decide +kernel
theorem dX10_goOverPlain_17 : decode cX10_goOverPlain 17 = .ok (.getfield 41, 3) := by decide +kernel
theorem dX10_goOverPlain_20 : decode cX10_goOverPlain 20 = .ok (.bipush 13, 2) := by decide +kernel
theorem dX10_goOverPlain_22 : decode cX10_goOverPlain 22 = .ok (.if_icmp .ne 31, 3) := by decide +kernel
theorem dX10_goOverPlain_25 : decode cX10_goOverPlain 25 = .ok (.aload_n 0, 1) := by decide +kernel
theorem dX10_goOverPlain_26 : decode cX10_goOverPlain 26 = .ok (.getfield 9, 3) := by decide +kernel
theorem dX10_goOverPlain_29 : decode cX10_goOverPlain 29 = .ok (.bipush 13, 2) := by decide +kernel
theorem dX10_goOverPlain_31 : decode cX10_goOverPlain 31 = .ok (.aload_n 1, 1) := by decide +kernel
theorem dX10_goOverPlain_32 : decode cX10_goOverPlain 32 = .ok (.getfield 70, 3) := by decide +kernel
theorem dX10_goOverPlain_35 : decode cX10_goOverPlain 35 = .ok (.invokevirtual 73, 3) := by decide +kernel
theorem dX10_goOverPlain_38 : decode cX10_goOverPlain 38 = .ok (.aload_n 0, 1) := by decide +kernel
theorem dX10_goOverPlain_39 : decode cX10_goOverPlain 39 = .ok (.getfield 9, 3) := by decide +kernel
theorem dX10_goOverPlain_42 : decode cX10_goOverPlain 42 = .ok (.iconst 2, 1) := by decide +kernel
theorem dX10_goOverPlain_43 : decode cX10_goOverPlain 43 = .ok (.aload_n 1, 1) := by decide +kernel
theorem dX10_goOverPlain_44 : decode cX10_goOverPlain 44 = .ok (.getfield 53, 3) := by decide +kernel
theorem dX10_goOverPlain_47 : decode cX10_goOverPlain 47 = .ok (.invokevirtual 73, 3) := by decide +kernel
theorem dX10_goOverPlain_50 : decode cX10_goOverPlain 50 = .ok (.goto 34, 3) := by decide +kernel
theorem dX10_goOverPlain_53 : decode cX10_goOverPlain 53 = .ok (.aload_n 0, 1) := by decide +kernel
theorem dX10_goOverPlain_54 : decode cX10_goOverPlain 54 = .ok (.getfield 9, 3) := by decide +kernel
theorem dX10_goOverPlain_57 : decode cX10_goOverPlain 57 = .ok (.aload_n 1, 1) := by decide +kernel
theorem dX10_goOverPlain_58 : decode cX10_goOverPlain 58 = .ok (.getfield 41, 3) := by decide +kernel
theorem dX10_goOverPlain_61 : decode cX10_goOverPlain 61 = .ok (.aload_n 1, 1) := by decide +kernel
theorem dX10_goOverPlain_62 : decode cX10_goOverPlain 62 = .ok (.getfield 41, 3) := by decide +kernel
theorem dX10_goOverPlain_65 : decode cX10_goOverPlain 65 = .ok (.bipush 14, 2) := by decide +kernel
theorem dX10_goOverPlain_67 : decode cX10_goOverPlain 67 = .ok (.if_icmp .ne 10, 3) := by decide +kernel
theorem dX10_goOverPlain_70 : decode cX10_goOverPlain 70 = .ok (.aload_n 1, 1) := by decide +kernel
theorem dX10_goOverPlain_71 : decode cX10_goOverPlain 71 = .ok (.getfield 70, 3) := by decide +kernel
theorem dX10_goOverPlain_74 : decode cX10_goOverPlain 74 = .ok (.goto 7, 3) := by decide +kernel
theorem dX10_goOverPlain_77 : decode cX10_goOverPlain 77 = .ok (.aload_n 1, 1) := by decide +kernel
theorem dX10_goOverPlain_78 : decode cX10_goOverPlain 78 = .ok (.getfield 53, 3) := by decide +kernel
theorem dX10_goOverPlain_81 : decode cX10_goOverPlain 81 = .ok (.invokevirtual 73, 3) := by decide +kernel
theorem dX10_goOverPlain_84 : decode cX10_goOverPlain 84 = .ok (.return_, 1) := by decide +kernel
theorem dX10_goOverIf_0 : decode cX10_goOverIf 0 = .ok (.aload_n 0, 1) := by decide +kernel
theorem dX10_goOverIf_1 : decode cX10_goOverIf 1 = .ok (.aload_n 1, 1) := by decide +kernel
theorem dX10_goOverIf_2 : decode cX10_goOverIf 2 = .ok (.invokevirtual 67, 3) := by decide +kernel
theorem dX10_goOverIf_5 : decode cX10_goOverIf 5 = .ok (.aload_n 0, 1) := by decide +kernel
theorem dX10_goOverIf_6 : decode cX10_goOverIf 6 = .ok (.getfield 9, 3) := by decide +kernel
theorem dX10_goOverIf_9 : decode cX10_goOverIf 9 = .ok (.invokevirtual 34, 3) := by decide +kernel
theorem dX10_goOverIf_12 : decode cX10_goOverIf 12 = .ok (.ifCond .eq 31, 3) := by decide +kernel
theorem dX10_goOverIf_15 : decode cX10_goOverIf 15 = .ok (.aload_n 0, 1) := by decide +kernel
theorem dX10_goOverIf_16 : decode cX10_goOverIf 16 = .ok (.aload_n 0, 1) := by decide +kernel
theorem dX10_goOverIf_17 : decode cX10_goOverIf 17 = .ok (.getfield 9, 3) := by decide +kernel
theorem dX10_goOverIf_20 : decode cX10_goOverIf 20 = .ok (.invokevirtual 77, 3) := by decide +kernel
theorem dX10_goOverIf_23 : decode cX10_goOverIf 23 = .ok (.ifCond .eq 10, 3) := by decide +kernel
theorem dX10_goOverIf_26 : decode cX10_goOverIf 26 = .ok (.aload_n 1, 1) := by decide +kernel
theorem dX10_goOverIf_27 : decode cX10_goOverIf 27 = .ok (.getfield 81, 3) := by decide +kernel
theorem dX10_goOverIf_30 : decode cX10_goOverIf 30 = .ok (.goto 7, 3) := by decide +kernel
theorem dX10_goOverIf_33 : decode cX10_goOverIf 33 = .ok (.aload_n 1, 1) := by decide +kernel
theorem dX10_goOverIf_34 : decode cX10_goOverIf 34 = .ok (.getfield 84, 3) := by decide +kernel
theorem dX10_goOverIf_37 : decode cX10_goOverIf 37 = .ok (.iload_n 2, 1) := by decide +kernel
theorem dX10_goOverIf_38 : decode cX10_goOverIf 38 = .ok (.iconst 1, 1) := by decide +kernel
theorem dX10_goOverIf_39 : decode cX10_goOverIf 39 = .ok (.iadd, 1) := by decide +kernel
theorem dX10_goOverIf_40 : decode cX10_goOverIf 40 = .ok (.invokevirtual 25, 3) := by decide +kernel
theorem dX10_goOverIf_43 : decode cX10_goOverIf 43 = .ok (.return_, 1) := by decide +kernel
theorem dX10_goOverWhile_0 : decode cX10_goOverWhile 0 = .ok (.iconst 0, 1) := by decide +kernel
theorem dX10_goOverWhile_1 : decode cX10_goOverWhile 1 = .ok (.istore_n 3, 1) := by decide +kernel
theorem dX10_goOverWhile_2 : decode cX10_goOverWhile 2 = .ok (.iload_n 3, 1) := by decide +kernel
theorem dX10_goOverWhile_3 : decode cX10_goOverWhile 3 = .ok (.sipush 600, 3) := by decide +kernel
theorem dX10_goOverWhile_6 : decode cX10_goOverWhile 6 = .ok (.if_icmp .gt 49, 3) := by decide +kernel
theorem dX10_goOverWhile_9 : decode cX10_goOverWhile 9 = .ok (.aload_n 0, 1) := by decide +kernel
theorem dX10_goOverWhile_10 : decode cX10_goOverWhile 10 = .ok (.aload_n 1, 1) := by decide +kernel
theorem dX10_goOverWhile_11 : decode cX10_goOverWhile 11 = .ok (.invokevirtual 87, 3) := by decide +kernel
theorem dX10_goOverWhile_14 : decode cX10_goOverWhile 14 = .ok (.ifCond .eq 41, 3) := by decide +kernel
theorem dX10_goOverWhile_17 : decode cX10_goOverWhile 17 = .ok (.aload_n 0, 1) := by decide +kernel
theorem dX10_goOverWhile_18 : decode cX10_goOverWhile 18 = .ok (.aload_n 1, 1) := by decide +kernel
theorem dX10_goOverWhile_19 : decode cX10_goOverWhile 19 = .ok (.getfield 81, 3) := by decide +kernel
theorem dX10_goOverWhile_22 : decode cX10_goOverWhile 22 = .ok (.iload_n 2, 1) := by decide +kernel
theorem dX10_goOverWhile_23 : decode cX10_goOverWhile 23 = .ok (.iconst 1, 1) := by decide +kernel
theorem dX10_goOverWhile_24 : decode cX10_goOverWhile 24 = .ok (.iadd, 1) := by decide +kernel
theorem dX10_goOverWhile_25 : decode cX10_goOverWhile 25 = .ok (.invokevirtual 25, 3) := by decide +kernel
theorem dX10_goOverWhile_28 : decode cX10_goOverWhile 28 = .ok (.aload_n 0, 1) := by decide +kernel
theorem dX10_goOverWhile_29 : decode cX10_goOverWhile 29 = .ok (.getfield 9, 3) := by decide +kernel
theorem dX10_goOverWhile_32 : decode cX10_goOverWhile 32 = .ok (.invokevirtual 34, 3) := by decide +kernel
theorem dX10_goOverWhile_35 : decode cX10_goOverWhile 35 = .ok (.ifCond .eq 13, 3) := by decide +kernel
theorem dX10_goOverWhile_38 : decode cX10_goOverWhile 38 = .ok (.aload_n 0, 1) := by decide +kernel
theorem dX10_goOverWhile_39 : decode cX10_goOverWhile 39 = .ok (.getfield 9, 3) := by decide +kernel
theorem dX10_goOverWhile_42 : decode cX10_goOverWhile 42 = .ok (.invokevirtual 38, 3) := by decide +kernel
theorem dX10_goOverWhile_45 : decode cX10_goOverWhile 45 = .ok (.ifCond .ne 4, 3) := by decide +kernel
theorem dX10_goOverWhile_48 : decode cX10_goOverWhile 48 = .ok (.return_, 1) := by decide +kernel
theorem dX10_goOverWhile_49 : decode cX10_goOverWhile 49 = .ok (.iinc 3 1, 3) := by decide +kernel
theorem dX10_goOverWhile_52 : decode cX10_goOverWhile 52 = .ok (.goto (-50), 3) := by decide +kernel
theorem dX10_goOverWhile_55 : decode cX10_goOverWhile 55 = .ok (.return_, 1) := by decide +kernel
theorem dX10_isTrue_0 : decode cX10_isTrue 0 = .ok (.aload_n 0, 1) := by decide +kernel
theorem dX10_isTrue_1 : decode cX10_isTrue 1 = .ok (.aload_n 1, 1) := by decide +kernel
theorem dX10_isTrue_2 : decode cX10_isTrue 2 = .ok (.invokevirtual 67, 3) := by decide +kernel
theorem dX10_isTrue_5 : decode cX10_isTrue 5 = .ok (.aload_n 0, 1) := by decide +kernel
theorem dX10_isTrue_6 : decode cX10_isTrue 6 = .ok (.getfield 9, 3) := by decide +kernel
theorem dX10_isTrue_9 : decode cX10_isTrue 9 = .ok (.invokevirtual 34, 3) := by decide +kernel
theorem dX10_isTrue_12 : decode cX10_isTrue 12 = .ok (.ifCond .eq 17, 3) := by decide +kernel
theorem dX10_isTrue_15 : decode cX10_isTrue 15 = .ok (.aload_n 0, 1) := by decide +kernel
theorem dX10_isTrue_16 : decode cX10_isTrue 16 = .ok (.getfield 9, 3) := by decide +kernel
theorem dX10_isTrue_19 : decode cX10_isTrue 19 = .ok (.invokevirtual 77, 3) := by decide +kernel
theorem dX10_isTrue_22 : decode cX10_isTrue 22 = .ok (.ifCond .eq 7, 3) := by decide +kernel
theorem dX10_isTrue_25 : decode cX10_isTrue 25 = .ok (.iconst 1, 1) := by decide +kernel
theorem dX10_isTrue_26 : decode cX10_isTrue 26 = .ok (.goto 4, 3) := by decide +kernel
theorem dX10_isTrue_29 : decode cX10_isTrue 29 = .ok (.iconst 0, 1) := by decide +kernel
theorem dX10_isTrue_30 : decode cX10_isTrue 30 = .ok (.ireturn, 1) := by decide +kernel
theorem dX10_reckon_0 : decode cX10_reckon 0 = .ok (.aload_n 1, 1) := by decide +kernel
theorem dX10_reckon_1 : decode cX10_reckon 1 = .ok (.getfield 91, 3) := by decide +kernel
theorem dX10_reckon_4 : decode cX10_reckon 4 = .ok (.istore_n 2, 1) := by decide +kernel
theorem dX10_reckon_5 : decode cX10_reckon 5 = .ok (.iload_n 2, 1) := by decide +kernel
theorem dX10_reckon_6 : decode cX10_reckon 6 = .ok (.aload_n 1, 1) := by decide +kernel
theorem dX10_reckon_7 : decode cX10_reckon 7 = .ok (.getfield 94, 3) := by decide +kernel
theorem dX10_reckon_10 : decode cX10_reckon 10 = .ok (.if_icmp .ge 42, 3) := by decide +kernel
theorem dX10_reckon_13 : decode cX10_reckon 13 = .ok (.aload_n 0, 1) := by decide +kernel
theorem dX10_reckon_14 : decode cX10_reckon 14 = .ok (.getfield 9, 3) := by decide +kernel
theorem dX10_reckon_17 : decode cX10_reckon 17 = .ok (.invokevirtual 34, 3) := by decide +kernel
theorem dX10_reckon_20 : decode cX10_reckon 20 = .ok (.ifCond .eq 32, 3) := by decide +kernel
theorem dX10_reckon_23 : decode cX10_reckon 23 = .ok (.aload_n 0, 1) := by decide +kernel
theorem dX10_reckon_24 : decode cX10_reckon 24 = .ok (.getfield 9, 3) := by decide +kernel
theorem dX10_reckon_27 : decode cX10_reckon 27 = .ok (.aload_n 0, 1) := by decide +kernel
theorem dX10_reckon_28 : decode cX10_reckon 28 = .ok (.getfield 15, 3) := by decide +kernel
theorem dX10_reckon_31 : decode cX10_reckon 31 = .ok (.iload_n 2, 1) := by decide +kernel
theorem dX10_reckon_32 : decode cX10_reckon 32 = .ok (.invokevirtual 97, 3) := by decide +kernel
theorem dX10_reckon_35 : decode cX10_reckon 35 = .ok (.aload_n 0, 1) := by decide +kernel
theorem dX10_reckon_36 : decode cX10_reckon 36 = .ok (.getfield 15, 3) := by decide +kernel
theorem dX10_reckon_39 : decode cX10_reckon 39 = .ok (.iload_n 2, 1) := by decide +kernel
theorem dX10_reckon_40 : decode cX10_reckon 40 = .ok (.invokevirtual 101, 3) := by decide +kernel
theorem dX10_reckon_43 : decode cX10_reckon 43 = .ok (.invokevirtual 73, 3) := by decide +kernel
theorem dX10_reckon_46 : decode cX10_reckon 46 = .ok (.iinc 2 1, 3) := by decide +kernel
theorem dX10_reckon_49 : decode cX10_reckon 49 = .ok (.goto (-44), 3) := by decide +kernel
theorem dX10_reckon_52 : decode cX10_reckon 52 = .ok (.return_, 1) := by decide +kernel
theorem dX11_init_0 : decode cX11_init 0 = .ok (.aload_n 0, 1) := by decide +kernel
theorem dX11_init_1 : decode cX11_init 1 = .ok (.invokespecial 1, 3) := by decide +kernel
theorem dX11_init_4 : decode cX11_init 4 = .ok (.aload_n 0, 1) := by decide +kernel
theorem dX11_init_5 : decode cX11_init 5 = .ok (.new 7, 3) := by decide +kernel
theorem dX11_init_8 : decode cX11_init 8 = .ok (.dup, 1) := by decide +kernel
theorem dX11_init_9 : decode cX11_init 9 = .ok (.iconst 1, 1) := by decide +kernel
theorem dX11_init_10 : decode cX11_init 10 = .ok (.iload_n 1, 1) := by decide +kernel
theorem dX11_init_11 : decode cX11_init 11 = .ok (.bipush 6, 2) := by decide +kernel
theorem dX11_init_13 : decode cX11_init 13 = .ok (.invokestatic 11, 3) := by decide +kernel
theorem dX11_init_16 : decode cX11_init 16 = .ok (.invokestatic 17, 3) := by decide +kernel
theorem dX11_init_19 : decode cX11_init 19 = .ok (.invokespecial 20, 3) := by decide +kernel
theorem dX11_init_22 : decode cX11_init 22 = .ok (.putfield 23, 3) := by decide +kernel
theorem dX11_init_25 : decode cX11_init 25 = .ok (.aload_n 0, 1) := by decide +kernel
theorem dX11_init_26 : decode cX11_init 26 = .ok (.new 27, 3) := by decide +kernel
theorem dX11_init_29 : decode cX11_init 29 = .ok (.dup, 1) := by decide +kernel
theorem dX11_init_30 : decode cX11_init 30 = .ok (.aload_n 0, 1) := by decide +kernel
theorem dX11_init_31 : decode cX11_init 31 = .ok (.getfield 23, 3) := by decide +kernel
theorem dX11_init_34 : decode cX11_init 34 = .ok (.invokespecial 29, 3) := by decide +kernel
theorem dX11_init_37 : decode cX11_init 37 = .ok (.putfield 32, 3) := by decide +kernel
theorem dX11_init_40 : decode cX11_init 40 = .ok (.aload_n 0, 1) := by decide +kernel
theorem dX11_init_41 : decode cX11_init 41 = .ok (.new 36, 3) := by decide +kernel
theorem dX11_init_44 : decode cX11_init 44 = .ok (.dup, 1) := by decide +kernel
theorem dX11_init_45 : decode cX11_init 45 = .ok (.aload_n 0, 1) := by decide +kernel
theorem dX11_init_46 : decode cX11_init 46 = .ok (.getfield 23, 3) := by decide +kernel
theorem dX11_init_49 : decode cX11_init 49 = .ok (.invokespecial 38, 3) := by decide +kernel
theorem dX11_init_52 : decode cX11_init 52 = .ok (.putfield 39, 3) := by decide +kernel
theorem dX11_init_55 : decode cX11_init 55 = .ok (.aload_n 0, 1) := by decide +kernel
theorem dX11_init_56 : decode cX11_init 56 = .ok (.new 43, 3) := by decide +kernel
theorem dX11_init_59 : decode cX11_init 59 = .ok (.dup, 1) := by decide +kernel
theorem dX11_init_60 : decode cX11_init 60 = .ok (.invokespecial 45, 3) := by decide +kernel
theorem dX11_init_63 : decode cX11_init 63 = .ok (.putfield 46, 3) := by decide +kernel
theorem dX11_init_66 : decode cX11_init 66 = .ok (.aload_n 0, 1) := by decide +kernel
theorem dX11_init_67 : decode cX11_init 67 = .ok (.new 50, 3) := by decide +kernel
theorem dX11_init_70 : decode cX11_init 70 = .ok (.dup, 1) := by decide +kernel
theorem dX11_init_71 : decode cX11_init 71 = .ok (.aload_n 0, 1) := by decide +kernel
theorem dX11_init_72 : decode cX11_init 72 = .ok (.getfield 23, 3) := by decide +kernel
theorem dX11_init_75 : decode cX11_init 75 = .ok (.invokespecial 52, 3) := by decide +kernel
theorem dX11_init_78 : decode cX11_init 78 = .ok (.putfield 53, 3) := by decide +kernel
theorem dX11_init_81 : decode cX11_init 81 = .ok (.aload_n 0, 1) := by decide +kernel
theorem dX11_init_82 : decode cX11_init 82 = .ok (.new 57, 3) := by decide +kernel
theorem dX11_init_85 : decode cX11_init 85 = .ok (.dup, 1) := by decide +kernel
theorem dX11_init_86 : decode cX11_init 86 = .ok (.invokespecial 59, 3) := by decide +kernel
theorem dX11_init_89 : decode cX11_init 89 = .ok (.putfield 60, 3) := by decide +kernel
theorem dX11_init_92 : decode cX11_init 92 = .ok (.aload_n 0, 1) := by decide +kernel
theorem dX11_init_93 : decode cX11_init 93 = .ok (.new 64, 3) := by decide +kernel
theorem dX11_init_96 : decode cX11_init 96 = .ok (.dup, 1) := by decide +kernel
theorem dX11_init_97 : decode cX11_init 97 = .ok (.aload_n 0, 1) := by decide +kernel
theorem dX11_init_98 : decode cX11_init 98 = .ok (.getfield 60, 3) := by decide +kernel
theorem dX11_init_101 : decode cX11_init 101 = .ok (.invokespecial 66, 3) := by decide +kernel
theorem dX11_init_104 : decode cX11_init 104 = .ok (.putfield 69, 3) := by decide +kernel
theorem dX11_init_107 : decode cX11_init 107 = .ok (.aload_n 0, 1) := by decide +kernel
theorem dX11_init_108 : decode cX11_init 108 = .ok (.bipush 52, 2) := by decide +kernel
theorem dX11_init_110 : decode cX11_init 110 = .ok (.newarray .int, 2) := by decide +kernel
theorem dX11_init_112 : decode cX11_init 112 = .ok (.putfield 73, 3) := by decide +kernel
theorem dX11_init_115 : decode cX11_init 115 = .ok (.aload_n 0, 1) := by decide +kernel
theorem dX11_init_116 : decode cX11_init 116 = .ok (.getfield 73, 3) := by decide +kernel
theorem dX11_init_119 : decode cX11_init 119 = .ok (.iconst (-1), 1) := by decide +kernel
theorem dX11_init_120 : decode cX11_init 120 = .ok (.invokestatic 77, 3) := by decide +kernel
theorem dX11_init_123 : decode cX11_init 123 = .ok (.aload_n 0, 1) := by decide +kernel
theorem dX11_init_124 : decode cX11_init 124 = .ok (.new 83, 3) := by decide +kernel
theorem dX11_init_127 : decode cX11_init 127 = .ok (.dup, 1) := by decide +kernel
theorem dX11_init_128 : decode cX11_init 128 = .ok (.invokespecial 85, 3) := by decide +kernel
theorem dX11_init_131 : decode cX11_init 131 = .ok (.putfield 86, 3) := by decide +kernel
theorem dX11_init_134 : decode cX11_init 134 = .ok (.aload_n 0, 1) := by decide +kernel
theorem dX11_init_135 : decode cX11_init 135 = .ok (.new 83, 3) := by decide +kernel
theorem dX11_init_138 : decode cX11_init 138 = .ok (.dup, 1) := by decide +kernel
theorem dX11_init_139 : decode cX11_init 139 = .ok (.invokespecial 85, 3) := by decide +kernel
theorem dX11_init_142 : decode cX11_init 142 = .ok (.putfield 90, 3) := by decide +kernel
theorem dX11_init_145 : decode cX11_init 145 = .ok (.aload_n 0, 1) := by decide +kernel
theorem dX11_init_146 : decode cX11_init 146 = .ok (.new 93, 3) := by decide +kernel
theorem dX11_init_149 : decode cX11_init 149 = .ok (.dup, 1) := by decide +kernel
theorem dX11_init_150 : decode cX11_init 150 = .ok (.invokespecial 95, 3) := by decide +kernel
theorem dX11_init_153 : decode cX11_init 153 = .ok (.putfield 96, 3) := by decide +kernel
theorem dX11_init_156 : decode cX11_init 156 = .ok (.aload_n 0, 1) := by decide +kernel
theorem dX11_init_157 : decode cX11_init 157 = .ok (.new 93, 3) := by decide +kernel
theorem dX11_init_160 : decode cX11_init 160 = .ok (.dup, 1) := by decide +kernel
theorem dX11_init_161 : decode cX11_init 161 = .ok (.invokespecial 95, 3) := by decide +kernel
theorem dX11_init_164 : decode cX11_init 164 = .ok (.putfield 100, 3) := by decide +kernel
theorem dX11_init_167 : decode cX11_init 167 = .ok (.aload_n 0, 1) := by decide +kernel
theorem dX11_init_168 : decode cX11_init 168 = .ok (.iconst (-1), 1) := by decide +kernel
theorem dX11_init_169 : decode cX11_init 169 = .ok (.putfield 103, 3) := by decide +kernel
theorem dX11_init_172 : decode cX11_init 172 = .ok (.aload_n 0, 1) := by decide +kernel
theorem dX11_init_173 : decode cX11_init 173 = .ok (.iconst (-1), 1) := by decide +kernel
theorem dX11_init_174 : decode cX11_init 174 = .ok (.putfield 107, 3) := by decide +kernel
theorem dX11_init_177 : decode cX11_init 177 = .ok (.return_, 1) := by decide +kernel
theorem dX11_below_0 : decode cX11_below 0 = .ok (.aload_n 0, 1) := by decide +kernel
theorem dX11_below_1 : decode cX11_below 1 = .ok (.getfield 23, 3) := by decide +kernel
theorem dX11_below_4 : decode cX11_below 4 = .ok (.iload_n 1, 1) := by decide +kernel
theorem dX11_below_5 : decode cX11_below 5 = .ok (.invokevirtual 110, 3) := by decide +kernel
theorem dX11_below_8 : decode cX11_below 8 = .ok (.ifCond .eq 14, 3) := by decide +kernel
theorem dX11_below_11 : decode cX11_below 11 = .ok (.aload_n 0, 1) := by decide +kernel
theorem dX11_below_12 : decode cX11_below 12 = .ok (.getfield 23, 3) := by decide +kernel
theorem dX11_below_15 : decode cX11_below 15 = .ok (.iload_n 2, 1) := by decide +kernel
theorem dX11_below_16 : decode cX11_below 16 = .ok (.invokevirtual 110, 3) := by decide +kernel
theorem dX11_below_19 : decode cX11_below 19 = .ok (.ifCond .ne 11, 3) := by decide +kernel
theorem dX11_below_22 : decode cX11_below 22 = .ok (.new 114, 3) := by decide +kernel
theorem dX11_below_25 : decode cX11_below 25 = .ok (.dup, 1) := by decide +kernel
theorem dX11_below_26 : decode cX11_below 26 = .ok (.invokespecial 116, 3) := by decide +kernel
theorem dX11_below_29 : decode cX11_below 29 = .ok (.athrow, 1) := by decide +kernel
theorem dX11_below_30 : decode cX11_below 30 = .ok (.aload_n 0, 1) := by decide +kernel
theorem dX11_below_31 : decode cX11_below 31 = .ok (.getfield 23, 3) := by decide +kernel
theorem dX11_below_34 : decode cX11_below 34 = .ok (.invokevirtual 117, 3) := by decide +kernel
theorem dX11_below_37 : decode cX11_below 37 = .ok (.ifCond .eq 11, 3) := by decide +kernel
theorem dX11_below_40 : decode cX11_below 40 = .ok (.new 121, 3) := by decide +kernel
theorem dX11_below_43 : decode cX11_below 43 = .ok (.dup, 1) := by decide +kernel
theorem dX11_below_44 : decode cX11_below 44 = .ok (.invokespecial 123, 3) := by decide +kernel
theorem dX11_below_47 : decode cX11_below 47 = .ok (.athrow, 1) := by decide +kernel
theorem dX11_below_48 : decode cX11_below 48 = .ok (.aload_n 0, 1) := by decide +kernel
theorem dX11_below_49 : decode cX11_below 49 = .ok (.getfield 23, 3) := by decide +kernel
theorem dX11_below_52 : decode cX11_below 52 = .ok (.iload_n 1, 1) := by decide +kernel
theorem dX11_below_53 : decode cX11_below 53 = .ok (.iload_n 2, 1) := by decide +kernel
theorem dX11_below_54 : decode cX11_below 54 = .ok (.invokevirtual 124, 3) := by decide +kernel
theorem dX11_below_57 : decode cX11_below 57 = .ok (.aload_n 0, 1) := by decide +kernel
theorem dX11_below_58 : decode cX11_below 58 = .ok (.getfield 23, 3) := by decide +kernel
theorem dX11_below_61 : decode cX11_below 61 = .ok (.invokevirtual 128, 3) := by decide +kernel
theorem dX11_below_64 : decode cX11_below 64 = .ok (.ireturn, 1) := by decide +kernel
theorem dX11_seal_0 : decode cX11_seal 0 = .ok (.aload_n 0, 1) := by decide +kernel
theorem dX11_seal_1 : decode cX11_seal 1 = .ok (.getfield 23, 3) := by decide +kernel
theorem dX11_seal_4 : decode cX11_seal 4 = .ok (.invokevirtual 117, 3) := by decide +kernel
theorem dX11_seal_7 : decode cX11_seal 7 = .ok (.ifCond .eq 11, 3) := by decide +kernel
theorem dX11_seal_10 : decode cX11_seal 10 = .ok (.new 121, 3) := by decide +kernel
theorem dX11_seal_13 : decode cX11_seal 13 = .ok (.dup, 1) := by decide +kernel
theorem dX11_seal_14 : decode cX11_seal 14 = .ok (.invokespecial 123, 3) := by decide +kernel
theorem dX11_seal_17 : decode cX11_seal 17 = .ok (.athrow, 1) := by decide +kernel
theorem dX11_seal_18 : decode cX11_seal 18 = .ok (.aload_n 0, 1) := by decide +kernel
theorem dX11_seal_19 : decode cX11_seal 19 = .ok (.getfield 23, 3) := by decide +kernel
theorem dX11_seal_22 : decode cX11_seal 22 = .ok (.invokevirtual 132, 3) := by decide +kernel
theorem dX11_seal_25 : decode cX11_seal 25 = .ok (.istore_n 1, 1) := by decide +kernel
theorem dX11_seal_26 : decode cX11_seal 26 = .ok (.iload_n 1, 1) := by decide +kernel
theorem dX11_seal_27 : decode cX11_seal 27 = .ok (.iconst (-1), 1) := by decide +kernel
theorem dX11_seal_28 : decode cX11_seal 28 = .ok (.if_icmp .eq 18, 3) := by decide +kernel
theorem dX11_seal_31 : decode cX11_seal 31 = .ok (.aload_n 0, 1) := by decide +kernel
theorem dX11_seal_32 : decode cX11_seal 32 = .ok (.iload_n 1, 1) := by decide +kernel
theorem dX11_seal_33 : decode cX11_seal 33 = .ok (.bipush 7, 2) := by decide +kernel
theorem dX11_seal_35 : decode cX11_seal 35 = .ok (.invokevirtual 135, 3) := by decide +kernel
theorem dX11_seal_38 : decode cX11_seal 38 = .ok (.new 138, 3) := by decide +kernel
theorem dX11_seal_41 : decode cX11_seal 41 = .ok (.dup, 1) := by decide +kernel
theorem dX11_seal_42 : decode cX11_seal 42 = .ok (.invokespecial 140, 3) := by decide +kernel
theorem dX11_seal_45 : decode cX11_seal 45 = .ok (.athrow, 1) := by decide +kernel
theorem dX11_seal_46 : decode cX11_seal 46 = .ok (.aload_n 0, 1) := by decide +kernel
theorem dX11_seal_47 : decode cX11_seal 47 = .ok (.iconst (-1), 1) := by decide +kernel
theorem dX11_seal_48 : decode cX11_seal 48 = .ok (.iconst (-1), 1) := by decide +kernel
theorem dX11_seal_49 : decode cX11_seal 49 = .ok (.invokevirtual 135, 3) := by decide +kernel
theorem dX11_seal_52 : decode cX11_seal 52 = .ok (.aload_n 0, 1) := by decide +kernel
theorem dX11_seal_53 : decode cX11_seal 53 = .ok (.getfield 23, 3) := by decide +kernel
theorem dX11_seal_56 : decode cX11_seal 56 = .ok (.invokevirtual 141, 3) := by decide +kernel
theorem dX11_seal_59 : decode cX11_seal 59 = .ok (.aload_n 0, 1) := by decide +kernel
theorem dX11_seal_60 : decode cX11_seal 60 = .ok (.getfield 23, 3) := by decide +kernel
theorem dX11_seal_63 : decode cX11_seal 63 = .ok (.invokevirtual 144, 3) := by decide +kernel
theorem dX11_seal_66 : decode cX11_seal 66 = .ok (.ireturn, 1) := by decide +kernel
theorem dX11_label_0 : decode cX11_label 0 = .ok (.iload_n 1, 1) := by decide +kernel
theorem dX11_label_1 : decode cX11_label 1 = .ok (.ifCond .lt 30, 3) := by decide +kernel
theorem dX11_label_4 : decode cX11_label 4 = .ok (.iload_n 1, 1) := by decide +kernel
theorem dX11_label_5 : decode cX11_label 5 = .ok (.iconst 2, 1) := by decide +kernel
theorem dX11_label_6 : decode cX11_label 6 = .ok (.if_icmp .gt 25, 3) := by decide +kernel
theorem dX11_label_9 : decode cX11_label 9 = .ok (.aload_n 0, 1) := by decide +kernel
theorem dX11_label_10 : decode cX11_label 10 = .ok (.getfield 23, 3) := by decide +kernel
theorem dX11_label_13 : decode cX11_label 13 = .ok (.iload_n 2, 1) := by decide +kernel
theorem dX11_label_14 : decode cX11_label 14 = .ok (.invokevirtual 110, 3) := by decide +kernel
theorem dX11_label_17 : decode cX11_label 17 = .ok (.ifCond .eq 14, 3) := by decide +kernel
theorem dX11_label_20 : decode cX11_label 20 = .ok (.aload_n 0, 1) := by decide +kernel
theorem dX11_label_21 : decode cX11_label 21 = .ok (.getfield 23, 3) := by decide +kernel
theorem dX11_label_24 : decode cX11_label 24 = .ok (.iload_n 3, 1) := by decide +kernel
theorem dX11_label_25 : decode cX11_label 25 = .ok (.invokevirtual 110, 3) := by decide +kernel
theorem dX11_label_28 : decode cX11_label 28 = .ok (.ifCond .ne 11, 3) := by decide +kernel
theorem dX11_label_31 : decode cX11_label 31 = .ok (.new 114, 3) := by decide +kernel
theorem dX11_label_34 : decode cX11_label 34 = .ok (.dup, 1) := by decide +kernel
theorem dX11_label_35 : decode cX11_label 35 = .ok (.invokespecial 116, 3) := by decide +kernel
theorem dX11_label_38 : decode cX11_label 38 = .ok (.athrow, 1) := by decide +kernel
theorem dX11_label_39 : decode cX11_label 39 = .ok (.iload_n 1, 1) := by decide +kernel
theorem dX11_label_40 : decode cX11_label 40 = .ok (.ifCond .ne 16, 3) := by decide +kernel
theorem dX11_label_43 : decode cX11_label 43 = .ok (.aload_n 0, 1) := by decide +kernel
theorem dX11_label_44 : decode cX11_label 44 = .ok (.getfield 23, 3) := by decide +kernel
theorem dX11_label_47 : decode cX11_label 47 = .ok (.iload_n 2, 1) := by decide +kernel
theorem dX11_label_48 : decode cX11_label 48 = .ok (.iload_n 3, 1) := by decide +kernel
theorem dX11_label_49 : decode cX11_label 49 = .ok (.invokevirtual 147, 3) := by decide +kernel
theorem dX11_label_52 : decode cX11_label 52 = .ok (.invokestatic 151, 3) := by decide +kernel
theorem dX11_label_55 : decode cX11_label 55 = .ok (.ireturn, 1) := by decide +kernel
theorem dX11_label_56 : decode cX11_label 56 = .ok (.aload_n 0, 1) := by decide +kernel
theorem dX11_label_57 : decode cX11_label 57 = .ok (.getfield 23, 3) := by decide +kernel
theorem dX11_label_60 : decode cX11_label 60 = .ok (.invokevirtual 117, 3) := by decide +kernel
theorem dX11_label_63 : decode cX11_label 63 = .ok (.ifCond .ne 11, 3) := by decide +kernel
theorem dX11_label_66 : decode cX11_label 66 = .ok (.new 121, 3) := by decide +kernel
theorem dX11_label_69 : decode cX11_label 69 = .ok (.dup, 1) := by decide +kernel
theorem dX11_label_70 : decode cX11_label 70 = .ok (.invokespecial 123, 3) := by decide +kernel
theorem dX11_label_73 : decode cX11_label 73 = .ok (.athrow, 1) := by decide +kernel
theorem dX11_label_74 : decode cX11_label 74 = .ok (.iload_n 1, 1) := by decide +kernel
theorem dX11_label_75 : decode cX11_label 75 = .ok (.iconst 1, 1) := by decide +kernel
theorem dX11_label_76 : decode cX11_label 76 = .ok (.if_icmp .ne 15, 3) := by decide +kernel
theorem dX11_label_79 : decode cX11_label 79 = .ok (.aload_n 0, 1) := by decide +kernel
theorem dX11_label_80 : decode cX11_label 80 = .ok (.getfield 23, 3) := by decide +kernel
theorem dX11_label_83 : decode cX11_label 83 = .ok (.iload_n 2, 1) := by decide +kernel
theorem dX11_label_84 : decode cX11_label 84 = .ok (.iload_n 3, 1) := by decide +kernel
theorem dX11_label_85 : decode cX11_label 85 = .ok (.invokevirtual 155, 3) := by decide +kernel
theorem dX11_label_88 : decode cX11_label 88 = .ok (.goto 12, 3) := by decide +kernel
theorem dX11_label_91 : decode cX11_label 91 = .ok (.aload_n 0, 1) := by decide +kernel
theorem dX11_label_92 : decode cX11_label 92 = .ok (.getfield 23, 3) := by decide +kernel
theorem dX11_label_95 : decode cX11_label 95 = .ok (.iload_n 2, 1) := by decide +kernel
theorem dX11_label_96 : decode cX11_label 96 = .ok (.iload_n 3, 1) := by decide +kernel
theorem dX11_label_97 : decode cX11_label 97 = .ok (.invokevirtual 158, 3) := by decide +kernel
theorem dX11_label_100 : decode cX11_label 100 = .ok (.ireturn, 1) := by decide +kernel
theorem dX11_append_0 : decode cX11_append 0 = .ok (.iload_n 3, 1) := by decide +kernel
theorem dX11_append_1 : decode cX11_append 1 = .ok (.iconst 1, 1) := by decide +kernel
theorem dX11_append_2 : decode cX11_append 2 = .ok (.if_icmp .lt 17, 3) := by decide +kernel
theorem dX11_append_5 : decode cX11_append 5 = .ok (.iload_n 3, 1) := by decide +kernel
theorem dX11_append_6 : decode cX11_append 6 = .ok (.bipush 8, 2) := by decide +kernel
theorem dX11_append_8 : decode cX11_append 8 = .ok (.if_icmp .gt 11, 3) := by decide +kernel
theorem dX11_append_11 : decode cX11_append 11 = .ok (.lload_n 1, 1) := by decide +kernel
theorem dX11_append_12 : decode cX11_append 12 = .ok (.iload_n 3, 1) := by decide +kernel
theorem dX11_append_13 : decode cX11_append 13 = .ok (.invokestatic 161, 3) := by decide +kernel
theorem dX11_append_16 : decode cX11_append 16 = .ok (.ifCond .ne 11, 3) := by decide +kernel
theorem dX11_append_19 : decode cX11_append 19 = .ok (.new 114, 3) := by decide +kernel
theorem dX11_append_22 : decode cX11_append 22 = .ok (.dup, 1) := by decide +kernel
theorem dX11_append_23 : decode cX11_append 23 = .ok (.invokespecial 116, 3) := by decide +kernel
theorem dX11_append_26 : decode cX11_append 26 = .ok (.athrow, 1) := by decide +kernel
theorem dX11_append_27 : decode cX11_append 27 = .ok (.aload_n 0, 1) := by decide +kernel
theorem dX11_append_28 : decode cX11_append 28 = .ok (.getfield 32, 3) := by decide +kernel
theorem dX11_append_31 : decode cX11_append 31 = .ok (.invokevirtual 165, 3) := by decide +kernel
theorem dX11_append_34 : decode cX11_append 34 = .ok (.iload_n 3, 1) := by decide +kernel
theorem dX11_append_35 : decode cX11_append 35 = .ok (.iadd, 1) := by decide +kernel
theorem dX11_append_36 : decode cX11_append 36 = .ok (.sipush 240, 3) := by decide +kernel
theorem dX11_append_39 : decode cX11_append 39 = .ok (.if_icmp .le 11, 3) := by decide +kernel
theorem dX11_append_42 : decode cX11_append 42 = .ok (.new 168, 3) := by decide +kernel
theorem dX11_append_45 : decode cX11_append 45 = .ok (.dup, 1) := by decide +kernel
theorem dX11_append_46 : decode cX11_append 46 = .ok (.invokespecial 170, 3) := by decide +kernel
theorem dX11_append_49 : decode cX11_append 49 = .ok (.athrow, 1) := by decide +kernel
theorem dX11_append_50 : decode cX11_append 50 = .ok (.aload_n 0, 1) := by decide +kernel
theorem dX11_append_51 : decode cX11_append 51 = .ok (.getfield 32, 3) := by decide +kernel
theorem dX11_append_54 : decode cX11_append 54 = .ok (.lload_n 1, 1) := by decide +kernel
theorem dX11_append_55 : decode cX11_append 55 = .ok (.iload_n 3, 1) := by decide +kernel
theorem dX11_append_56 : decode cX11_append 56 = .ok (.invokevirtual 171, 3) := by decide +kernel
theorem dX11_append_59 : decode cX11_append 59 = .ok (.aload_n 0, 1) := by decide +kernel
theorem dX11_append_60 : decode cX11_append 60 = .ok (.getfield 32, 3) := by decide +kernel
theorem dX11_append_63 : decode cX11_append 63 = .ok (.invokevirtual 165, 3) := by decide +kernel
theorem dX11_append_66 : decode cX11_append 66 = .ok (.ireturn, 1) := by decide +kernel
theorem dX11_compile_0 : decode cX11_compile 0 = .ok (.aload_n 0, 1) := by decide +kernel
theorem dX11_compile_1 : decode cX11_compile 1 = .ok (.getfield 23, 3) := by decide +kernel
theorem dX11_compile_4 : decode cX11_compile 4 = .ok (.invokevirtual 117, 3) := by decide +kernel
theorem dX11_compile_7 : decode cX11_compile 7 = .ok (.ifCond .ne 11, 3) := by decide +kernel
theorem dX11_compile_10 : decode cX11_compile 10 = .ok (.new 121, 3) := by decide +kernel
theorem dX11_compile_13 : decode cX11_compile 13 = .ok (.dup, 1) := by decide +kernel
theorem dX11_compile_14 : decode cX11_compile 14 = .ok (.invokespecial 123, 3) := by decide +kernel
theorem dX11_compile_17 : decode cX11_compile 17 = .ok (.athrow, 1) := by decide +kernel
theorem dX11_compile_18 : decode cX11_compile 18 = .ok (.aload_n 0, 1) := by decide +kernel
theorem dX11_compile_19 : decode cX11_compile 19 = .ok (.invokevirtual 175, 3) := by decide +kernel
theorem dX11_compile_22 : decode cX11_compile 22 = .ok (.istore_n 1, 1) := by decide +kernel
theorem dX11_compile_23 : decode cX11_compile 23 = .ok (.aload_n 0, 1) := by decide +kernel
theorem dX11_compile_24 : decode cX11_compile 24 = .ok (.getfield 32, 3) := by decide +kernel
theorem dX11_compile_27 : decode cX11_compile 27 = .ok (.invokevirtual 178, 3) := by decide +kernel
theorem dX11_compile_30 : decode cX11_compile 30 = .ok (.iload_n 1, 1) := by decide +kernel
theorem dX11_compile_31 : decode cX11_compile 31 = .ok (.ifCond .ne 24, 3) := by decide +kernel
theorem dX11_compile_34 : decode cX11_compile 34 = .ok (.aload_n 0, 1) := by decide +kernel
theorem dX11_compile_35 : decode cX11_compile 35 = .ok (.aload_n 0, 1) := by decide +kernel
theorem dX11_compile_36 : decode cX11_compile 36 = .ok (.getfield 32, 3) := by decide +kernel
theorem dX11_compile_39 : decode cX11_compile 39 = .ok (.invokevirtual 181, 3) := by decide +kernel
theorem dX11_compile_42 : decode cX11_compile 42 = .ok (.bipush 8, 2) := by decide +kernel
theorem dX11_compile_44 : decode cX11_compile 44 = .ok (.invokevirtual 135, 3) := by decide +kernel
theorem dX11_compile_47 : decode cX11_compile 47 = .ok (.new 183, 3) := by decide +kernel
theorem dX11_compile_50 : decode cX11_compile 50 = .ok (.dup, 1) := by decide +kernel
theorem dX11_compile_51 : decode cX11_compile 51 = .ok (.invokespecial 185, 3) := by decide +kernel
theorem dX11_compile_54 : decode cX11_compile 54 = .ok (.athrow, 1) := by decide +kernel
theorem dX11_compile_55 : decode cX11_compile 55 = .ok (.aload_n 0, 1) := by decide +kernel
theorem dX11_compile_56 : decode cX11_compile 56 = .ok (.invokevirtual 186, 3) := by decide +kernel
theorem dX11_compile_59 : decode cX11_compile 59 = .ok (.ifCond .ne 24, 3) := by decide +kernel
theorem dX11_compile_62 : decode cX11_compile 62 = .ok (.aload_n 0, 1) := by decide +kernel
theorem dX11_compile_63 : decode cX11_compile 63 = .ok (.aload_n 0, 1) := by decide +kernel
theorem dX11_compile_64 : decode cX11_compile 64 = .ok (.getfield 39, 3) := by decide +kernel
theorem dX11_compile_67 : decode cX11_compile 67 = .ok (.invokevirtual 189, 3) := by decide +kernel
theorem dX11_compile_70 : decode cX11_compile 70 = .ok (.bipush 9, 2) := by decide +kernel
theorem dX11_compile_72 : decode cX11_compile 72 = .ok (.invokevirtual 135, 3) := by decide +kernel
theorem dX11_compile_75 : decode cX11_compile 75 = .ok (.new 138, 3) := by decide +kernel
theorem dX11_compile_78 : decode cX11_compile 78 = .ok (.dup, 1) := by decide +kernel
theorem dX11_compile_79 : decode cX11_compile 79 = .ok (.invokespecial 140, 3) := by decide +kernel
theorem dX11_compile_82 : decode cX11_compile 82 = .ok (.athrow, 1) := by decide +kernel
theorem dX11_compile_83 : decode cX11_compile 83 = .ok (.aload_n 0, 1) := by decide +kernel
theorem dX11_compile_84 : decode cX11_compile 84 = .ok (.getfield 46, 3) := by decide +kernel
theorem dX11_compile_87 : decode cX11_compile 87 = .ok (.aload_n 0, 1) := by decide +kernel
theorem dX11_compile_88 : decode cX11_compile 88 = .ok (.getfield 90, 3) := by decide +kernel
theorem dX11_compile_91 : decode cX11_compile 91 = .ok (.aload_n 0, 1) := by decide +kernel
theorem dX11_compile_92 : decode cX11_compile 92 = .ok (.getfield 100, 3) := by decide +kernel
theorem dX11_compile_95 : decode cX11_compile 95 = .ok (.invokevirtual 190, 3) := by decide +kernel
theorem dX11_compile_98 : decode cX11_compile 98 = .ok (.ifCond .ne 19, 3) := by decide +kernel
theorem dX11_compile_101 : decode cX11_compile 101 = .ok (.aload_n 0, 1) := by decide +kernel
theorem dX11_compile_102 : decode cX11_compile 102 = .ok (.bipush 64, 2) := by decide +kernel
theorem dX11_compile_104 : decode cX11_compile 104 = .ok (.bipush 10, 2) := by decide +kernel
theorem dX11_compile_106 : decode cX11_compile 106 = .ok (.invokevirtual 135, 3) := by decide +kernel
theorem dX11_compile_109 : decode cX11_compile 109 = .ok (.new 168, 3) := by decide +kernel
theorem dX11_compile_112 : decode cX11_compile 112 = .ok (.dup, 1) := by decide +kernel
theorem dX11_compile_113 : decode cX11_compile 113 = .ok (.invokespecial 170, 3) := by decide +kernel
theorem dX11_compile_116 : decode cX11_compile 116 = .ok (.athrow, 1) := by decide +kernel
theorem dX11_compile_117 : decode cX11_compile 117 = .ok (.aload_n 0, 1) := by decide +kernel
theorem dX11_compile_118 : decode cX11_compile 118 = .ok (.iconst (-1), 1) := by decide +kernel
theorem dX11_compile_119 : decode cX11_compile 119 = .ok (.iconst (-1), 1) := by decide +kernel
theorem dX11_compile_120 : decode cX11_compile 120 = .ok (.invokevirtual 135, 3) := by decide +kernel
theorem dX11_compile_123 : decode cX11_compile 123 = .ok (.aload_n 0, 1) := by decide +kernel
theorem dX11_compile_124 : decode cX11_compile 124 = .ok (.invokevirtual 194, 3) := by decide +kernel
theorem dX11_compile_127 : decode cX11_compile 127 = .ok (.aload_n 0, 1) := by decide +kernel
theorem dX11_compile_128 : decode cX11_compile 128 = .ok (.getfield 96, 3) := by decide +kernel
theorem dX11_compile_131 : decode cX11_compile 131 = .ok (.invokevirtual 197, 3) := by decide +kernel
theorem dX11_compile_134 : decode cX11_compile 134 = .ok (.ireturn, 1) := by decide +kernel
theorem dX11_code_0 : decode cX11_code 0 = .ok (.iload_n 1, 1) := by decide +kernel
theorem dX11_code_1 : decode cX11_code 1 = .ok (.ifCond .lt 9, 3) := by decide +kernel
theorem dX11_code_4 : decode cX11_code 4 = .ok (.iload_n 1, 1) := by decide +kernel
theorem dX11_code_5 : decode cX11_code 5 = .ok (.bipush 15, 2) := by decide +kernel
theorem dX11_code_7 : decode cX11_code 7 = .ok (.if_icmp .le 11, 3) := by decide +kernel
theorem dX11_code_10 : decode cX11_code 10 = .ok (.new 114, 3) := by decide +kernel
theorem dX11_code_13 : decode cX11_code 13 = .ok (.dup, 1) := by decide +kernel
theorem dX11_code_14 : decode cX11_code 14 = .ok (.invokespecial 116, 3) := by decide +kernel
theorem dX11_code_17 : decode cX11_code 17 = .ok (.athrow, 1) := by decide +kernel
theorem dX11_code_18 : decode cX11_code 18 = .ok (.aload_n 0, 1) := by decide +kernel
theorem dX11_code_19 : decode cX11_code 19 = .ok (.getfield 96, 3) := by decide +kernel
theorem dX11_code_22 : decode cX11_code 22 = .ok (.invokevirtual 197, 3) := by decide +kernel
theorem dX11_code_25 : decode cX11_code 25 = .ok (.bipush 64, 2) := by decide +kernel
theorem dX11_code_27 : decode cX11_code 27 = .ok (.if_icmp .lt 11, 3) := by decide +kernel
theorem dX11_code_30 : decode cX11_code 30 = .ok (.new 121, 3) := by decide +kernel
theorem dX11_code_33 : decode cX11_code 33 = .ok (.dup, 1) := by decide +kernel
theorem dX11_code_34 : decode cX11_code 34 = .ok (.invokespecial 123, 3) := by decide +kernel
theorem dX11_code_37 : decode cX11_code 37 = .ok (.athrow, 1) := by decide +kernel
theorem dX11_code_38 : decode cX11_code 38 = .ok (.aload_n 0, 1) := by decide +kernel
theorem dX11_code_39 : decode cX11_code 39 = .ok (.invokevirtual 200, 3) := by decide +kernel
theorem dX11_code_42 : decode cX11_code 42 = .ok (.aload_n 0, 1) := by decide +kernel
theorem dX11_code_43 : decode cX11_code 43 = .ok (.getfield 96, 3) := by decide +kernel
theorem dX11_code_46 : decode cX11_code 46 = .ok (.iload_n 1, 1) := by decide +kernel
theorem dX11_code_47 : decode cX11_code 47 = .ok (.iload_n 2, 1) := by decide +kernel
theorem dX11_code_48 : decode cX11_code 48 = .ok (.invokevirtual 203, 3) := by decide +kernel
theorem dX11_code_51 : decode cX11_code 51 = .ok (.aload_n 0, 1) := by decide +kernel
theorem dX11_code_52 : decode cX11_code 52 = .ok (.getfield 96, 3) := by decide +kernel
theorem dX11_code_55 : decode cX11_code 55 = .ok (.invokevirtual 197, 3) := by decide +kernel
theorem dX11_code_58 : decode cX11_code 58 = .ok (.iconst 1, 1) := by decide +kernel
theorem dX11_code_59 : decode cX11_code 59 = .ok (.isub, 1) := by decide +kernel
theorem dX11_code_60 : decode cX11_code 60 = .ok (.ireturn, 1) := by decide +kernel
theorem dX11_fix_0 : decode cX11_fix 0 = .ok (.iload_n 1, 1) := by decide +kernel
theorem dX11_fix_1 : decode cX11_fix 1 = .ok (.ifCond .lt 25, 3) := by decide +kernel
theorem dX11_fix_4 : decode cX11_fix 4 = .ok (.iload_n 1, 1) := by decide +kernel
theorem dX11_fix_5 : decode cX11_fix 5 = .ok (.bipush 26, 2) := by decide +kernel
theorem dX11_fix_7 : decode cX11_fix 7 = .ok (.if_icmp .ge 19, 3) := by decide +kernel
theorem dX11_fix_10 : decode cX11_fix 10 = .ok (.iload_n 3, 1) := by decide +kernel
theorem dX11_fix_11 : decode cX11_fix 11 = .ok (.iconst (-1), 1) := by decide +kernel
theorem dX11_fix_12 : decode cX11_fix 12 = .ok (.if_icmp .eq 22, 3) := by decide +kernel
theorem dX11_fix_15 : decode cX11_fix 15 = .ok (.aload_n 0, 1) := by decide +kernel
theorem dX11_fix_16 : decode cX11_fix 16 = .ok (.getfield 23, 3) := by decide +kernel
theorem dX11_fix_19 : decode cX11_fix 19 = .ok (.iload_n 3, 1) := by decide +kernel
theorem dX11_fix_20 : decode cX11_fix 20 = .ok (.invokevirtual 110, 3) := by decide +kernel
theorem dX11_fix_23 : decode cX11_fix 23 = .ok (.ifCond .ne 11, 3) := by decide +kernel
theorem dX11_fix_26 : decode cX11_fix 26 = .ok (.new 114, 3) := by decide +kernel
theorem dX11_fix_29 : decode cX11_fix 29 = .ok (.dup, 1) := by decide +kernel
theorem dX11_fix_30 : decode cX11_fix 30 = .ok (.invokespecial 116, 3) := by decide +kernel
theorem dX11_fix_33 : decode cX11_fix 33 = .ok (.athrow, 1) := by decide +kernel
theorem dX11_fix_34 : decode cX11_fix 34 = .ok (.iload_n 2, 1) := by decide +kernel
theorem dX11_fix_35 : decode cX11_fix 35 = .ok (.ifCond .eq 10, 3) := by decide +kernel
theorem dX11_fix_38 : decode cX11_fix 38 = .ok (.bipush 26, 2) := by decide +kernel
theorem dX11_fix_40 : decode cX11_fix 40 = .ok (.iload_n 1, 1) := by decide +kernel
theorem dX11_fix_41 : decode cX11_fix 41 = .ok (.iadd, 1) := by decide +kernel
theorem dX11_fix_42 : decode cX11_fix 42 = .ok (.goto 4, 3) := by decide +kernel
theorem dX11_fix_45 : decode cX11_fix 45 = .ok (.iload_n 1, 1) := by decide +kernel
theorem dX11_fix_46 : decode cX11_fix 46 = .ok (.istore 4, 2) := by decide +kernel
theorem dX11_fix_48 : decode cX11_fix 48 = .ok (.aload_n 0, 1) := by decide +kernel
theorem dX11_fix_49 : decode cX11_fix 49 = .ok (.getfield 73, 3) := by decide +kernel
theorem dX11_fix_52 : decode cX11_fix 52 = .ok (.iload 4, 2) := by decide +kernel
theorem dX11_fix_54 : decode cX11_fix 54 = .ok (.iaload, 1) := by decide +kernel
theorem dX11_fix_55 : decode cX11_fix 55 = .ok (.istore 5, 2) := by decide +kernel
theorem dX11_fix_57 : decode cX11_fix 57 = .ok (.aload_n 0, 1) := by decide +kernel
theorem dX11_fix_58 : decode cX11_fix 58 = .ok (.getfield 73, 3) := by decide +kernel
theorem dX11_fix_61 : decode cX11_fix 61 = .ok (.iload 4, 2) := by decide +kernel
theorem dX11_fix_63 : decode cX11_fix 63 = .ok (.iload_n 3, 1) := by decide +kernel
theorem dX11_fix_64 : decode cX11_fix 64 = .ok (.iastore, 1) := by decide +kernel
theorem dX11_fix_65 : decode cX11_fix 65 = .ok (.aload_n 0, 1) := by decide +kernel
theorem dX11_fix_66 : decode cX11_fix 66 = .ok (.invokevirtual 200, 3) := by decide +kernel
theorem dX11_fix_69 : decode cX11_fix 69 = .ok (.iload 5, 2) := by decide +kernel
theorem dX11_fix_71 : decode cX11_fix 71 = .ok (.ireturn, 1) := by decide +kernel
theorem dX11_clear_0 : decode cX11_clear 0 = .ok (.aload_n 0, 1) := by decide +kernel
theorem dX11_clear_1 : decode cX11_clear 1 = .ok (.getfield 96, 3) := by decide +kernel
theorem dX11_clear_4 : decode cX11_clear 4 = .ok (.invokevirtual 197, 3) := by decide +kernel
theorem dX11_clear_7 : decode cX11_clear 7 = .ok (.istore_n 1, 1) := by decide +kernel
theorem dX11_clear_8 : decode cX11_clear 8 = .ok (.aload_n 0, 1) := by decide +kernel
theorem dX11_clear_9 : decode cX11_clear 9 = .ok (.getfield 96, 3) := by decide +kernel
theorem dX11_clear_12 : decode cX11_clear 12 = .ok (.invokevirtual 206, 3) := by decide +kernel
theorem dX11_clear_15 : decode cX11_clear 15 = .ok (.aload_n 0, 1) := by decide +kernel
theorem dX11_clear_16 : decode cX11_clear 16 = .ok (.getfield 73, 3) := by decide +kernel
theorem dX11_clear_19 : decode cX11_clear 19 = .ok (.iconst (-1), 1) := by decide +kernel
theorem dX11_clear_20 : decode cX11_clear 20 = .ok (.invokestatic 77, 3) := by decide +kernel
theorem dX11_clear_23 : decode cX11_clear 23 = .ok (.aload_n 0, 1) := by decide +kernel
theorem dX11_clear_24 : decode cX11_clear 24 = .ok (.invokevirtual 200, 3) := by decide +kernel
theorem dX11_clear_27 : decode cX11_clear 27 = .ok (.iload_n 1, 1) := by decide +kernel
theorem dX11_clear_28 : decode cX11_clear 28 = .ok (.ireturn, 1) := by decide +kernel
theorem dX11_verify_0 : decode cX11_verify 0 = .ok (.aload_n 0, 1) := by decide +kernel
theorem dX11_verify_1 : decode cX11_verify 1 = .ok (.getfield 23, 3) := by decide +kernel
theorem dX11_verify_4 : decode cX11_verify 4 = .ok (.invokevirtual 117, 3) := by decide +kernel
theorem dX11_verify_7 : decode cX11_verify 7 = .ok (.ifCond .eq 13, 3) := by decide +kernel
theorem dX11_verify_10 : decode cX11_verify 10 = .ok (.aload_n 0, 1) := by decide +kernel
theorem dX11_verify_11 : decode cX11_verify 11 = .ok (.getfield 96, 3) := by decide +kernel
theorem dX11_verify_14 : decode cX11_verify 14 = .ok (.invokevirtual 197, 3) := by decide +kernel
theorem dX11_verify_17 : decode cX11_verify 17 = .ok (.ifCond .ne 11, 3) := by decide +kernel
theorem dX11_verify_20 : decode cX11_verify 20 = .ok (.new 121, 3) := by decide +kernel
theorem dX11_verify_23 : decode cX11_verify 23 = .ok (.dup, 1) := by decide +kernel
theorem dX11_verify_24 : decode cX11_verify 24 = .ok (.invokespecial 123, 3) := by decide +kernel
theorem dX11_verify_27 : decode cX11_verify 27 = .ok (.athrow, 1) := by decide +kernel
theorem dX11_verify_28 : decode cX11_verify 28 = .ok (.aload_n 0, 1) := by decide +kernel
theorem dX11_verify_29 : decode cX11_verify 29 = .ok (.aload_n 0, 1) := by decide +kernel
theorem dX11_verify_30 : decode cX11_verify 30 = .ok (.getfield 53, 3) := by decide +kernel
theorem dX11_verify_33 : decode cX11_verify 33 = .ok (.aload_n 0, 1) := by decide +kernel
theorem dX11_verify_34 : decode cX11_verify 34 = .ok (.getfield 96, 3) := by decide +kernel
theorem dX11_verify_37 : decode cX11_verify 37 = .ok (.aload_n 0, 1) := by decide +kernel
theorem dX11_verify_38 : decode cX11_verify 38 = .ok (.getfield 73, 3) := by decide +kernel
theorem dX11_verify_41 : decode cX11_verify 41 = .ok (.invokevirtual 209, 3) := by decide +kernel
theorem dX11_verify_44 : decode cX11_verify 44 = .ok (.putfield 213, 3) := by decide +kernel
theorem dX11_verify_47 : decode cX11_verify 47 = .ok (.aload_n 0, 1) := by decide +kernel
theorem dX11_verify_48 : decode cX11_verify 48 = .ok (.getfield 213, 3) := by decide +kernel
theorem dX11_verify_51 : decode cX11_verify 51 = .ok (.ifCond .ne 29, 3) := by decide +kernel
theorem dX11_verify_54 : decode cX11_verify 54 = .ok (.aload_n 0, 1) := by decide +kernel
theorem dX11_verify_55 : decode cX11_verify 55 = .ok (.aload_n 0, 1) := by decide +kernel
theorem dX11_verify_56 : decode cX11_verify 56 = .ok (.getfield 53, 3) := by decide +kernel
theorem dX11_verify_59 : decode cX11_verify 59 = .ok (.invokevirtual 217, 3) := by decide +kernel
theorem dX11_verify_62 : decode cX11_verify 62 = .ok (.aload_n 0, 1) := by decide +kernel
theorem dX11_verify_63 : decode cX11_verify 63 = .ok (.getfield 53, 3) := by decide +kernel
theorem dX11_verify_66 : decode cX11_verify 66 = .ok (.invokevirtual 218, 3) := by decide +kernel
theorem dX11_verify_69 : decode cX11_verify 69 = .ok (.invokevirtual 135, 3) := by decide +kernel
theorem dX11_verify_72 : decode cX11_verify 72 = .ok (.new 138, 3) := by decide +kernel
theorem dX11_verify_75 : decode cX11_verify 75 = .ok (.dup, 1) := by decide +kernel
theorem dX11_verify_76 : decode cX11_verify 76 = .ok (.invokespecial 140, 3) := by decide +kernel
theorem dX11_verify_79 : decode cX11_verify 79 = .ok (.athrow, 1) := by decide +kernel
theorem dX11_verify_80 : decode cX11_verify 80 = .ok (.aload_n 0, 1) := by decide +kernel
theorem dX11_verify_81 : decode cX11_verify 81 = .ok (.iconst (-1), 1) := by decide +kernel
theorem dX11_verify_82 : decode cX11_verify 82 = .ok (.iconst (-1), 1) := by decide +kernel
theorem dX11_verify_83 : decode cX11_verify 83 = .ok (.invokevirtual 135, 3) := by decide +kernel
theorem dX11_verify_86 : decode cX11_verify 86 = .ok (.aload_n 0, 1) := by decide +kernel
theorem dX11_verify_87 : decode cX11_verify 87 = .ok (.getfield 53, 3) := by decide +kernel
theorem dX11_verify_90 : decode cX11_verify 90 = .ok (.invokevirtual 220, 3) := by decide +kernel
theorem dX11_verify_93 : decode cX11_verify 93 = .ok (.ireturn, 1) := by decide +kernel
theorem dX11_map_0 : decode cX11_map 0 = .ok (.iload_n 2, 1) := by decide +kernel
theorem dX11_map_1 : decode cX11_map 1 = .ok (.ifCond .lt 9, 3) := by decide +kernel
theorem dX11_map_4 : decode cX11_map 4 = .ok (.iload_n 2, 1) := by decide +kernel
theorem dX11_map_5 : decode cX11_map 5 = .ok (.bipush 58, 2) := by decide +kernel
theorem dX11_map_7 : decode cX11_map 7 = .ok (.if_icmp .lt 11, 3) := by decide +kernel
theorem dX11_map_10 : decode cX11_map 10 = .ok (.new 114, 3) := by decide +kernel
theorem dX11_map_13 : decode cX11_map 13 = .ok (.dup, 1) := by decide +kernel
theorem dX11_map_14 : decode cX11_map 14 = .ok (.invokespecial 116, 3) := by decide +kernel
theorem dX11_map_17 : decode cX11_map 17 = .ok (.athrow, 1) := by decide +kernel
theorem dX11_map_18 : decode cX11_map 18 = .ok (.aload_n 0, 1) := by decide +kernel
theorem dX11_map_19 : decode cX11_map 19 = .ok (.getfield 53, 3) := by decide +kernel
theorem dX11_map_22 : decode cX11_map 22 = .ok (.invokevirtual 223, 3) := by decide +kernel
theorem dX11_map_25 : decode cX11_map 25 = .ok (.ifCond .ne 11, 3) := by decide +kernel
theorem dX11_map_28 : decode cX11_map 28 = .ok (.new 121, 3) := by decide +kernel
theorem dX11_map_31 : decode cX11_map 31 = .ok (.dup, 1) := by decide +kernel
theorem dX11_map_32 : decode cX11_map 32 = .ok (.invokespecial 123, 3) := by decide +kernel
theorem dX11_map_35 : decode cX11_map 35 = .ok (.athrow, 1) := by decide +kernel
theorem dX11_map_36 : decode cX11_map 36 = .ok (.aload_n 0, 1) := by decide +kernel
theorem dX11_map_37 : decode cX11_map 37 = .ok (.getfield 96, 3) := by decide +kernel
theorem dX11_map_40 : decode cX11_map 40 = .ok (.iload_n 1, 1) := by decide +kernel
theorem dX11_map_41 : decode cX11_map 41 = .ok (.invokevirtual 226, 3) := by decide +kernel
theorem dX11_map_44 : decode cX11_map 44 = .ok (.ifCond .ne 11, 3) := by decide +kernel
theorem dX11_map_47 : decode cX11_map 47 = .ok (.new 183, 3) := by decide +kernel
theorem dX11_map_50 : decode cX11_map 50 = .ok (.dup, 1) := by decide +kernel
theorem dX11_map_51 : decode cX11_map 51 = .ok (.invokespecial 185, 3) := by decide +kernel
theorem dX11_map_54 : decode cX11_map 54 = .ok (.athrow, 1) := by decide +kernel
theorem dX11_map_55 : decode cX11_map 55 = .ok (.aload_n 0, 1) := by decide +kernel
theorem dX11_map_56 : decode cX11_map 56 = .ok (.getfield 53, 3) := by decide +kernel
theorem dX11_map_59 : decode cX11_map 59 = .ok (.iload_n 1, 1) := by decide +kernel
theorem dX11_map_60 : decode cX11_map 60 = .ok (.iload_n 2, 1) := by decide +kernel
theorem dX11_map_61 : decode cX11_map 61 = .ok (.invokevirtual 227, 3) := by decide +kernel
theorem dX11_map_64 : decode cX11_map 64 = .ok (.ireturn, 1) := by decide +kernel
theorem dX11_region_0 : decode cX11_region 0 = .ok (.iload_n 2, 1) := by decide +kernel
theorem dX11_region_1 : decode cX11_region 1 = .ok (.iconst (-1), 1) := by decide +kernel
theorem dX11_region_2 : decode cX11_region 2 = .ok (.if_icmp .lt 9, 3) := by decide +kernel
theorem dX11_region_5 : decode cX11_region 5 = .ok (.iload_n 2, 1) := by decide +kernel
theorem dX11_region_6 : decode cX11_region 6 = .ok (.bipush 64, 2) := by decide +kernel
theorem dX11_region_8 : decode cX11_region 8 = .ok (.if_icmp .lt 11, 3) := by decide +kernel
theorem dX11_region_11 : decode cX11_region 11 = .ok (.new 114, 3) := by decide +kernel
theorem dX11_region_14 : decode cX11_region 14 = .ok (.dup, 1) := by decide +kernel
theorem dX11_region_15 : decode cX11_region 15 = .ok (.invokespecial 116, 3) := by decide +kernel
theorem dX11_region_18 : decode cX11_region 18 = .ok (.athrow, 1) := by decide +kernel
theorem dX11_region_19 : decode cX11_region 19 = .ok (.aload_n 0, 1) := by decide +kernel
theorem dX11_region_20 : decode cX11_region 20 = .ok (.getfield 53, 3) := by decide +kernel
theorem dX11_region_23 : decode cX11_region 23 = .ok (.invokevirtual 223, 3) := by decide +kernel
theorem dX11_region_26 : decode cX11_region 26 = .ok (.ifCond .ne 11, 3) := by decide +kernel
theorem dX11_region_29 : decode cX11_region 29 = .ok (.new 121, 3) := by decide +kernel
theorem dX11_region_32 : decode cX11_region 32 = .ok (.dup, 1) := by decide +kernel
theorem dX11_region_33 : decode cX11_region 33 = .ok (.invokespecial 123, 3) := by decide +kernel
theorem dX11_region_36 : decode cX11_region 36 = .ok (.athrow, 1) := by decide +kernel
theorem dX11_region_37 : decode cX11_region 37 = .ok (.aload_n 0, 1) := by decide +kernel
theorem dX11_region_38 : decode cX11_region 38 = .ok (.getfield 96, 3) := by decide +kernel
theorem dX11_region_41 : decode cX11_region 41 = .ok (.iload_n 1, 1) := by decide +kernel
theorem dX11_region_42 : decode cX11_region 42 = .ok (.invokevirtual 226, 3) := by decide +kernel
theorem dX11_region_45 : decode cX11_region 45 = .ok (.ifCond .eq 18, 3) := by decide +kernel
theorem dX11_region_48 : decode cX11_region 48 = .ok (.iload_n 2, 1) := by decide +kernel
theorem dX11_region_49 : decode cX11_region 49 = .ok (.ifCond .le 22, 3) := by decide +kernel
theorem dX11_region_52 : decode cX11_region 52 = .ok (.aload_n 0, 1) := by decide +kernel
theorem dX11_region_53 : decode cX11_region 53 = .ok (.getfield 96, 3) := by decide +kernel
theorem dX11_region_56 : decode cX11_region 56 = .ok (.iload_n 2, 1) := by decide +kernel
theorem dX11_region_57 : decode cX11_region 57 = .ok (.invokevirtual 226, 3) := by decide +kernel
theorem dX11_region_60 : decode cX11_region 60 = .ok (.ifCond .ne 11, 3) := by decide +kernel
theorem dX11_region_63 : decode cX11_region 63 = .ok (.new 183, 3) := by decide +kernel
theorem dX11_region_66 : decode cX11_region 66 = .ok (.dup, 1) := by decide +kernel
theorem dX11_region_67 : decode cX11_region 67 = .ok (.invokespecial 185, 3) := by decide +kernel
theorem dX11_region_70 : decode cX11_region 70 = .ok (.athrow, 1) := by decide +kernel
theorem dX11_region_71 : decode cX11_region 71 = .ok (.aload_n 0, 1) := by decide +kernel
theorem dX11_region_72 : decode cX11_region 72 = .ok (.getfield 96, 3) := by decide +kernel
theorem dX11_region_75 : decode cX11_region 75 = .ok (.iload_n 1, 1) := by decide +kernel
theorem dX11_region_76 : decode cX11_region 76 = .ok (.invokevirtual 230, 3) := by decide +kernel
theorem dX11_region_79 : decode cX11_region 79 = .ok (.bipush 11, 2) := by decide +kernel
theorem dX11_region_81 : decode cX11_region 81 = .ok (.if_icmp .ne 14, 3) := by decide +kernel
theorem dX11_region_84 : decode cX11_region 84 = .ok (.aload_n 0, 1) := by decide +kernel
theorem dX11_region_85 : decode cX11_region 85 = .ok (.getfield 53, 3) := by decide +kernel
theorem dX11_region_88 : decode cX11_region 88 = .ok (.iload_n 1, 1) := by decide +kernel
theorem dX11_region_89 : decode cX11_region 89 = .ok (.invokevirtual 234, 3) := by decide +kernel
theorem dX11_region_92 : decode cX11_region 92 = .ok (.ifCond .ne 11, 3) := by decide +kernel
theorem dX11_region_95 : decode cX11_region 95 = .ok (.new 138, 3) := by decide +kernel
theorem dX11_region_98 : decode cX11_region 98 = .ok (.dup, 1) := by decide +kernel
theorem dX11_region_99 : decode cX11_region 99 = .ok (.invokespecial 140, 3) := by decide +kernel
theorem dX11_region_102 : decode cX11_region 102 = .ok (.athrow, 1) := by decide +kernel
theorem dX11_region_103 : decode cX11_region 103 = .ok (.iload_n 2, 1) := by decide +kernel
theorem dX11_region_104 : decode cX11_region 104 = .ok (.iconst (-1), 1) := by decide +kernel
theorem dX11_region_105 : decode cX11_region 105 = .ok (.if_icmp .ne 14, 3) := by decide +kernel
theorem dX11_region_108 : decode cX11_region 108 = .ok (.aload_n 0, 1) := by decide +kernel
theorem dX11_region_109 : decode cX11_region 109 = .ok (.getfield 53, 3) := by decide +kernel
theorem dX11_region_112 : decode cX11_region 112 = .ok (.iload_n 1, 1) := by decide +kernel
theorem dX11_region_113 : decode cX11_region 113 = .ok (.invokevirtual 237, 3) := by decide +kernel
theorem dX11_region_116 : decode cX11_region 116 = .ok (.goto 15, 3) := by decide +kernel
theorem dX11_region_119 : decode cX11_region 119 = .ok (.aload_n 0, 1) := by decide +kernel
theorem dX11_region_120 : decode cX11_region 120 = .ok (.getfield 53, 3) := by decide +kernel
theorem dX11_region_123 : decode cX11_region 123 = .ok (.iload_n 1, 1) := by decide +kernel
theorem dX11_region_124 : decode cX11_region 124 = .ok (.iload_n 2, 1) := by decide +kernel
theorem dX11_region_125 : decode cX11_region 125 = .ok (.invokevirtual 240, 3) := by decide +kernel
theorem dX11_region_128 : decode cX11_region 128 = .ok (.invokestatic 151, 3) := by decide +kernel
theorem dX11_region_131 : decode cX11_region 131 = .ok (.ireturn, 1) := by decide +kernel
theorem dX11_feed_0 : decode cX11_feed 0 = .ok (.aload_n 0, 1) := by decide +kernel
theorem dX11_feed_1 : decode cX11_feed 1 = .ok (.getfield 23, 3) := by decide +kernel
theorem dX11_feed_4 : decode cX11_feed 4 = .ok (.iload_n 1, 1) := by decide +kernel
theorem dX11_feed_5 : decode cX11_feed 5 = .ok (.invokevirtual 110, 3) := by decide +kernel
theorem dX11_feed_8 : decode cX11_feed 8 = .ok (.ifCond .ne 11, 3) := by decide +kernel
theorem dX11_feed_11 : decode cX11_feed 11 = .ok (.new 114, 3) := by decide +kernel
theorem dX11_feed_14 : decode cX11_feed 14 = .ok (.dup, 1) := by decide +kernel
theorem dX11_feed_15 : decode cX11_feed 15 = .ok (.invokespecial 116, 3) := by decide +kernel
theorem dX11_feed_18 : decode cX11_feed 18 = .ok (.athrow, 1) := by decide +kernel
theorem dX11_feed_19 : decode cX11_feed 19 = .ok (.aload_n 0, 1) := by decide +kernel
theorem dX11_feed_20 : decode cX11_feed 20 = .ok (.getfield 60, 3) := by decide +kernel
theorem dX11_feed_23 : decode cX11_feed 23 = .ok (.iload_n 1, 1) := by decide +kernel
theorem dX11_feed_24 : decode cX11_feed 24 = .ok (.invokevirtual 243, 3) := by decide +kernel
theorem dX11_feed_27 : decode cX11_feed 27 = .ok (.bipush 20, 2) := by decide +kernel
theorem dX11_feed_29 : decode cX11_feed 29 = .ok (.if_icmp .lt 11, 3) := by decide +kernel
theorem dX11_feed_32 : decode cX11_feed 32 = .ok (.new 121, 3) := by decide +kernel
theorem dX11_feed_35 : decode cX11_feed 35 = .ok (.dup, 1) := by decide +kernel
theorem dX11_feed_36 : decode cX11_feed 36 = .ok (.invokespecial 123, 3) := by decide +kernel
theorem dX11_feed_39 : decode cX11_feed 39 = .ok (.athrow, 1) := by decide +kernel
theorem dX11_feed_40 : decode cX11_feed 40 = .ok (.aload_n 0, 1) := by decide +kernel
theorem dX11_feed_41 : decode cX11_feed 41 = .ok (.getfield 60, 3) := by decide +kernel
theorem dX11_feed_44 : decode cX11_feed 44 = .ok (.iload_n 1, 1) := by decide +kernel
theorem dX11_feed_45 : decode cX11_feed 45 = .ok (.iload_n 2, 1) := by decide +kernel
theorem dX11_feed_46 : decode cX11_feed 46 = .ok (.invokevirtual 246, 3) := by decide +kernel
theorem dX11_feed_49 : decode cX11_feed 49 = .ok (.aload_n 0, 1) := by decide +kernel
theorem dX11_feed_50 : decode cX11_feed 50 = .ok (.getfield 60, 3) := by decide +kernel
theorem dX11_feed_53 : decode cX11_feed 53 = .ok (.iload_n 1, 1) := by decide +kernel
theorem dX11_feed_54 : decode cX11_feed 54 = .ok (.invokevirtual 243, 3) := by decide +kernel
theorem dX11_feed_57 : decode cX11_feed 57 = .ok (.ireturn, 1) := by decide +kernel
theorem dX11_drain_0 : decode cX11_drain 0 = .ok (.aload_n 0, 1) := by decide +kernel
theorem dX11_drain_1 : decode cX11_drain 1 = .ok (.getfield 23, 3) := by decide +kernel
theorem dX11_drain_4 : decode cX11_drain 4 = .ok (.iload_n 1, 1) := by decide +kernel
theorem dX11_drain_5 : decode cX11_drain 5 = .ok (.invokevirtual 110, 3) := by decide +kernel
theorem dX11_drain_8 : decode cX11_drain 8 = .ok (.ifCond .ne 11, 3) := by decide +kernel
theorem dX11_drain_11 : decode cX11_drain 11 = .ok (.new 114, 3) := by decide +kernel
theorem dX11_drain_14 : decode cX11_drain 14 = .ok (.dup, 1) := by decide +kernel
theorem dX11_drain_15 : decode cX11_drain 15 = .ok (.invokespecial 116, 3) := by decide +kernel
theorem dX11_drain_18 : decode cX11_drain 18 = .ok (.athrow, 1) := by decide +kernel
theorem dX11_drain_19 : decode cX11_drain 19 = .ok (.aload_n 0, 1) := by decide +kernel
theorem dX11_drain_20 : decode cX11_drain 20 = .ok (.getfield 60, 3) := by decide +kernel
theorem dX11_drain_23 : decode cX11_drain 23 = .ok (.iload_n 1, 1) := by decide +kernel
theorem dX11_drain_24 : decode cX11_drain 24 = .ok (.invokevirtual 243, 3) := by decide +kernel
theorem dX11_drain_27 : decode cX11_drain 27 = .ok (.istore_n 2, 1) := by decide +kernel
theorem dX11_drain_28 : decode cX11_drain 28 = .ok (.aload_n 0, 1) := by decide +kernel
theorem dX11_drain_29 : decode cX11_drain 29 = .ok (.getfield 60, 3) := by decide +kernel
theorem dX11_drain_32 : decode cX11_drain 32 = .ok (.iload_n 1, 1) := by decide +kernel
theorem dX11_drain_33 : decode cX11_drain 33 = .ok (.invokevirtual 249, 3) := by decide +kernel
theorem dX11_drain_36 : decode cX11_drain 36 = .ok (.iload_n 2, 1) := by decide +kernel
theorem dX11_drain_37 : decode cX11_drain 37 = .ok (.ireturn, 1) := by decide +kernel
theorem dX11_run_0 : decode cX11_run 0 = .ok (.iload_n 1, 1) := by decide +kernel
theorem dX11_run_1 : decode cX11_run 1 = .ok (.iconst 1, 1) := by decide +kernel
theorem dX11_run_2 : decode cX11_run 2 = .ok (.if_icmp .lt 10, 3) := by decide +kernel
theorem dX11_run_5 : decode cX11_run 5 = .ok (.iload_n 1, 1) := by decide +kernel
theorem dX11_run_6 : decode cX11_run 6 = .ok (.sipush 600, 3) := by decide +kernel
theorem dX11_run_9 : decode cX11_run 9 = .ok (.if_icmp .le 11, 3) := by decide +kernel
theorem dX11_run_12 : decode cX11_run 12 = .ok (.new 114, 3) := by decide +kernel
theorem dX11_run_15 : decode cX11_run 15 = .ok (.dup, 1) := by decide +kernel
theorem dX11_run_16 : decode cX11_run 16 = .ok (.invokespecial 116, 3) := by decide +kernel
theorem dX11_run_19 : decode cX11_run 19 = .ok (.athrow, 1) := by decide +kernel
theorem dX11_run_20 : decode cX11_run 20 = .ok (.aload_n 0, 1) := by decide +kernel
theorem dX11_run_21 : decode cX11_run 21 = .ok (.getfield 213, 3) := by decide +kernel
theorem dX11_run_24 : decode cX11_run 24 = .ok (.ifCond .ne 11, 3) := by decide +kernel
theorem dX11_run_27 : decode cX11_run 27 = .ok (.new 138, 3) := by decide +kernel
theorem dX11_run_30 : decode cX11_run 30 = .ok (.dup, 1) := by decide +kernel
theorem dX11_run_31 : decode cX11_run 31 = .ok (.invokespecial 140, 3) := by decide +kernel
theorem dX11_run_34 : decode cX11_run 34 = .ok (.athrow, 1) := by decide +kernel
theorem dX11_run_35 : decode cX11_run 35 = .ok (.aload_n 0, 1) := by decide +kernel
theorem dX11_run_36 : decode cX11_run 36 = .ok (.getfield 60, 3) := by decide +kernel
theorem dX11_run_39 : decode cX11_run 39 = .ok (.iload_n 1, 1) := by decide +kernel
theorem dX11_run_40 : decode cX11_run 40 = .ok (.invokevirtual 252, 3) := by decide +kernel
theorem dX11_run_43 : decode cX11_run 43 = .ok (.aload_n 0, 1) := by decide +kernel
theorem dX11_run_44 : decode cX11_run 44 = .ok (.getfield 60, 3) := by decide +kernel
theorem dX11_run_47 : decode cX11_run 47 = .ok (.aload_n 0, 1) := by decide +kernel
theorem dX11_run_48 : decode cX11_run 48 = .ok (.getfield 96, 3) := by decide +kernel
theorem dX11_run_51 : decode cX11_run 51 = .ok (.invokevirtual 255, 3) := by decide +kernel
theorem dX11_run_54 : decode cX11_run 54 = .ok (.aload_n 0, 1) := by decide +kernel
theorem dX11_run_55 : decode cX11_run 55 = .ok (.getfield 60, 3) := by decide +kernel
theorem dX11_run_58 : decode cX11_run 58 = .ok (.invokevirtual 259, 3) := by decide +kernel
theorem dX11_run_61 : decode cX11_run 61 = .ok (.ireturn, 1) := by decide +kernel
theorem dX11_walk_0 : decode cX11_walk 0 = .ok (.iload_n 1, 1) := by decide +kernel
theorem dX11_walk_1 : decode cX11_walk 1 = .ok (.iconst 1, 1) := by decide +kernel
theorem dX11_walk_2 : decode cX11_walk 2 = .ok (.if_icmp .lt 10, 3) := by decide +kernel
theorem dX11_walk_5 : decode cX11_walk 5 = .ok (.iload_n 1, 1) := by decide +kernel
theorem dX11_walk_6 : decode cX11_walk 6 = .ok (.sipush 600, 3) := by decide +kernel
theorem dX11_walk_9 : decode cX11_walk 9 = .ok (.if_icmp .le 11, 3) := by decide +kernel
theorem dX11_walk_12 : decode cX11_walk 12 = .ok (.new 114, 3) := by decide +kernel
theorem dX11_walk_15 : decode cX11_walk 15 = .ok (.dup, 1) := by decide +kernel
theorem dX11_walk_16 : decode cX11_walk 16 = .ok (.invokespecial 116, 3) := by decide +kernel
theorem dX11_walk_19 : decode cX11_walk 19 = .ok (.athrow, 1) := by decide +kernel
theorem dX11_walk_20 : decode cX11_walk 20 = .ok (.aload_n 0, 1) := by decide +kernel
theorem dX11_walk_21 : decode cX11_walk 21 = .ok (.getfield 262, 3) := by decide +kernel
theorem dX11_walk_24 : decode cX11_walk 24 = .ok (.ifCond .ne 11, 3) := by decide +kernel
theorem dX11_walk_27 : decode cX11_walk 27 = .ok (.new 138, 3) := by decide +kernel
theorem dX11_walk_30 : decode cX11_walk 30 = .ok (.dup, 1) := by decide +kernel
theorem dX11_walk_31 : decode cX11_walk 31 = .ok (.invokespecial 140, 3) := by decide +kernel
theorem dX11_walk_34 : decode cX11_walk 34 = .ok (.athrow, 1) := by decide +kernel
theorem dX11_walk_35 : decode cX11_walk 35 = .ok (.aload_n 0, 1) := by decide +kernel
theorem dX11_walk_36 : decode cX11_walk 36 = .ok (.getfield 60, 3) := by decide +kernel
theorem dX11_walk_39 : decode cX11_walk 39 = .ok (.iload_n 1, 1) := by decide +kernel
theorem dX11_walk_40 : decode cX11_walk 40 = .ok (.invokevirtual 252, 3) := by decide +kernel
theorem dX11_walk_43 : decode cX11_walk 43 = .ok (.aload_n 0, 1) := by decide +kernel
theorem dX11_walk_44 : decode cX11_walk 44 = .ok (.getfield 69, 3) := by decide +kernel
theorem dX11_walk_47 : decode cX11_walk 47 = .ok (.aload_n 0, 1) := by decide +kernel
theorem dX11_walk_48 : decode cX11_walk 48 = .ok (.getfield 86, 3) := by decide +kernel
theorem dX11_walk_51 : decode cX11_walk 51 = .ok (.invokevirtual 265, 3) := by decide +kernel
theorem dX11_walk_54 : decode cX11_walk 54 = .ok (.aload_n 0, 1) := by decide +kernel
theorem dX11_walk_55 : decode cX11_walk 55 = .ok (.getfield 60, 3) := by decide +kernel
theorem dX11_walk_58 : decode cX11_walk 58 = .ok (.invokevirtual 259, 3) := by decide +kernel
theorem dX11_walk_61 : decode cX11_walk 61 = .ok (.ireturn, 1) := by decide +kernel
theorem dX11_output_0 : decode cX11_output 0 = .ok (.aload_n 0, 1) := by decide +kernel
theorem dX11_output_1 : decode cX11_output 1 = .ok (.getfield 23, 3) := by decide +kernel
theorem dX11_output_4 : decode cX11_output 4 = .ok (.iload_n 1, 1) := by decide +kernel
theorem dX11_output_5 : decode cX11_output 5 = .ok (.invokevirtual 110, 3) := by decide +kernel
theorem dX11_output_8 : decode cX11_output 8 = .ok (.ifCond .eq 7, 3) := by decide +kernel
theorem dX11_output_11 : decode cX11_output 11 = .ok (.iload_n 2, 1) := by decide +kernel
theorem dX11_output_12 : decode cX11_output 12 = .ok (.ifCond .ge 11, 3) := by decide +kernel
theorem dX11_output_15 : decode cX11_output 15 = .ok (.new 114, 3) := by decide +kernel
theorem dX11_output_18 : decode cX11_output 18 = .ok (.dup, 1) := by decide +kernel
theorem dX11_output_19 : decode cX11_output 19 = .ok (.invokespecial 116, 3) := by decide +kernel
theorem dX11_output_22 : decode cX11_output 22 = .ok (.athrow, 1) := by decide +kernel
theorem dX11_output_23 : decode cX11_output 23 = .ok (.iload_n 2, 1) := by decide +kernel
theorem dX11_output_24 : decode cX11_output 24 = .ok (.aload_n 0, 1) := by decide +kernel
theorem dX11_output_25 : decode cX11_output 25 = .ok (.getfield 60, 3) := by decide +kernel
theorem dX11_output_28 : decode cX11_output 28 = .ok (.iload_n 1, 1) := by decide +kernel
theorem dX11_output_29 : decode cX11_output 29 = .ok (.invokevirtual 268, 3) := by decide +kernel
theorem dX11_output_32 : decode cX11_output 32 = .ok (.if_icmp .lt 11, 3) := by decide +kernel
theorem dX11_output_35 : decode cX11_output 35 = .ok (.new 183, 3) := by decide +kernel
theorem dX11_output_38 : decode cX11_output 38 = .ok (.dup, 1) := by decide +kernel
theorem dX11_output_39 : decode cX11_output 39 = .ok (.invokespecial 185, 3) := by decide +kernel
theorem dX11_output_42 : decode cX11_output 42 = .ok (.athrow, 1) := by decide +kernel
theorem dX11_output_43 : decode cX11_output 43 = .ok (.aload_n 0, 1) := by decide +kernel
theorem dX11_output_44 : decode cX11_output 44 = .ok (.getfield 60, 3) := by decide +kernel
theorem dX11_output_47 : decode cX11_output 47 = .ok (.iload_n 1, 1) := by decide +kernel
theorem dX11_output_48 : decode cX11_output 48 = .ok (.iload_n 2, 1) := by decide +kernel
theorem dX11_output_49 : decode cX11_output 49 = .ok (.invokevirtual 271, 3) := by decide +kernel
theorem dX11_output_52 : decode cX11_output 52 = .ok (.ireturn, 1) := by decide +kernel
theorem dX11_value_0 : decode cX11_value 0 = .ok (.iload_n 1, 1) := by decide +kernel
theorem dX11_value_1 : decode cX11_value 1 = .ok (.invokestatic 274, 3) := by decide +kernel
theorem dX11_value_4 : decode cX11_value 4 = .ok (.ifCond .ne 11, 3) := by decide +kernel
theorem dX11_value_7 : decode cX11_value 7 = .ok (.new 114, 3) := by decide +kernel
theorem dX11_value_10 : decode cX11_value 10 = .ok (.dup, 1) := by decide +kernel
theorem dX11_value_11 : decode cX11_value 11 = .ok (.invokespecial 116, 3) := by decide +kernel
theorem dX11_value_14 : decode cX11_value 14 = .ok (.athrow, 1) := by decide +kernel
theorem dX11_value_15 : decode cX11_value 15 = .ok (.aload_n 0, 1) := by decide +kernel
theorem dX11_value_16 : decode cX11_value 16 = .ok (.getfield 60, 3) := by decide +kernel
theorem dX11_value_19 : decode cX11_value 19 = .ok (.iload_n 1, 1) := by decide +kernel
theorem dX11_value_20 : decode cX11_value 20 = .ok (.invokevirtual 277, 3) := by decide +kernel
theorem dX11_value_23 : decode cX11_value 23 = .ok (.ireturn, 1) := by decide +kernel
theorem dX11_instruction_0 : decode cX11_instruction 0 = .ok (.aload_n 0, 1) := by decide +kernel
theorem dX11_instruction_1 : decode cX11_instruction 1 = .ok (.getfield 96, 3) := by decide +kernel
theorem dX11_instruction_4 : decode cX11_instruction 4 = .ok (.iload_n 1, 1) := by decide +kernel
theorem dX11_instruction_5 : decode cX11_instruction 5 = .ok (.invokevirtual 226, 3) := by decide +kernel
theorem dX11_instruction_8 : decode cX11_instruction 8 = .ok (.ifCond .ne 11, 3) := by decide +kernel
theorem dX11_instruction_11 : decode cX11_instruction 11 = .ok (.new 183, 3) := by decide +kernel
theorem dX11_instruction_14 : decode cX11_instruction 14 = .ok (.dup, 1) := by decide +kernel
theorem dX11_instruction_15 : decode cX11_instruction 15 = .ok (.invokespecial 185, 3) := by decide +kernel
theorem dX11_instruction_18 : decode cX11_instruction 18 = .ok (.athrow, 1) := by decide +kernel
theorem dX11_instruction_19 : decode cX11_instruction 19 = .ok (.iload_n 2, 1) := by decide +kernel
theorem dX11_instruction_20 : decode cX11_instruction 20 = .ok (.ifCond .eq 14, 3) := by decide +kernel
theorem dX11_instruction_23 : decode cX11_instruction 23 = .ok (.aload_n 0, 1) := by decide +kernel
theorem dX11_instruction_24 : decode cX11_instruction 24 = .ok (.getfield 96, 3) := by decide +kernel
theorem dX11_instruction_27 : decode cX11_instruction 27 = .ok (.iload_n 1, 1) := by decide +kernel
theorem dX11_instruction_28 : decode cX11_instruction 28 = .ok (.invokevirtual 280, 3) := by decide +kernel
theorem dX11_instruction_31 : decode cX11_instruction 31 = .ok (.goto 11, 3) := by decide +kernel
theorem dX11_instruction_34 : decode cX11_instruction 34 = .ok (.aload_n 0, 1) := by decide +kernel
theorem dX11_instruction_35 : decode cX11_instruction 35 = .ok (.getfield 96, 3) := by decide +kernel
theorem dX11_instruction_38 : decode cX11_instruction 38 = .ok (.iload_n 1, 1) := by decide +kernel
theorem dX11_instruction_39 : decode cX11_instruction 39 = .ok (.invokevirtual 230, 3) := by decide +kernel
theorem dX11_instruction_42 : decode cX11_instruction 42 = .ok (.ireturn, 1) := by decide +kernel
theorem dX11_count_0 : decode cX11_count 0 = .ok (.iload_n 1, 1) := by decide +kernel
theorem dX11_count_1 : decode cX11_count 1 = .ok (.tableswitch 120 0 8 #[51, 59, 70, 78, 86, 94, 102, 110, 115], 51) := by decide +kernel
theorem dX11_count_52 : decode cX11_count 52 = .ok (.aload_n 0, 1) := by decide +kernel
theorem dX11_count_53 : decode cX11_count 53 = .ok (.getfield 23, 3) := by decide +kernel
theorem dX11_count_56 : decode cX11_count 56 = .ok (.invokevirtual 283, 3) := by decide +kernel
theorem dX11_count_59 : decode cX11_count 59 = .ok (.ireturn, 1) := by decide +kernel
theorem dX11_count_60 : decode cX11_count 60 = .ok (.aload_n 0, 1) := by decide +kernel
theorem dX11_count_61 : decode cX11_count 61 = .ok (.getfield 23, 3) := by decide +kernel
theorem dX11_count_64 : decode cX11_count 64 = .ok (.invokevirtual 117, 3) := by decide +kernel
theorem dX11_count_67 : decode cX11_count 67 = .ok (.invokestatic 151, 3) := by decide +kernel
theorem dX11_count_70 : decode cX11_count 70 = .ok (.ireturn, 1) := by decide +kernel
theorem dX11_count_71 : decode cX11_count 71 = .ok (.aload_n 0, 1) := by decide +kernel
theorem dX11_count_72 : decode cX11_count 72 = .ok (.getfield 32, 3) := by decide +kernel
theorem dX11_count_75 : decode cX11_count 75 = .ok (.invokevirtual 165, 3) := by decide +kernel
theorem dX11_count_78 : decode cX11_count 78 = .ok (.ireturn, 1) := by decide +kernel
theorem dX11_count_79 : decode cX11_count 79 = .ok (.aload_n 0, 1) := by decide +kernel
theorem dX11_count_80 : decode cX11_count 80 = .ok (.getfield 96, 3) := by decide +kernel
theorem dX11_count_83 : decode cX11_count 83 = .ok (.invokevirtual 197, 3) := by decide +kernel
theorem dX11_count_86 : decode cX11_count 86 = .ok (.ireturn, 1) := by decide +kernel
theorem dX11_count_87 : decode cX11_count 87 = .ok (.aload_n 0, 1) := by decide +kernel
theorem dX11_count_88 : decode cX11_count 88 = .ok (.getfield 213, 3) := by decide +kernel
theorem dX11_count_91 : decode cX11_count 91 = .ok (.invokestatic 151, 3) := by decide +kernel
theorem dX11_count_94 : decode cX11_count 94 = .ok (.ireturn, 1) := by decide +kernel
theorem dX11_count_95 : decode cX11_count 95 = .ok (.aload_n 0, 1) := by decide +kernel
theorem dX11_count_96 : decode cX11_count 96 = .ok (.getfield 262, 3) := by decide +kernel
theorem dX11_count_99 : decode cX11_count 99 = .ok (.invokestatic 151, 3) := by decide +kernel
theorem dX11_count_102 : decode cX11_count 102 = .ok (.ireturn, 1) := by decide +kernel
theorem dX11_count_103 : decode cX11_count 103 = .ok (.aload_n 0, 1) := by decide +kernel
theorem dX11_count_104 : decode cX11_count 104 = .ok (.getfield 60, 3) := by decide +kernel
theorem dX11_count_107 : decode cX11_count 107 = .ok (.invokevirtual 284, 3) := by decide +kernel
theorem dX11_count_110 : decode cX11_count 110 = .ok (.ireturn, 1) := by decide +kernel
theorem dX11_count_111 : decode cX11_count 111 = .ok (.aload_n 0, 1) := by decide +kernel
theorem dX11_count_112 : decode cX11_count 112 = .ok (.getfield 103, 3) := by decide +kernel
theorem dX11_count_115 : decode cX11_count 115 = .ok (.ireturn, 1) := by decide +kernel
theorem dX11_count_116 : decode cX11_count 116 = .ok (.aload_n 0, 1) := by decide +kernel
theorem dX11_count_117 : decode cX11_count 117 = .ok (.getfield 107, 3) := by decide +kernel
theorem dX11_count_120 : decode cX11_count 120 = .ok (.ireturn, 1) := by decide +kernel
theorem dX11_count_121 : decode cX11_count 121 = .ok (.new 114, 3) := by decide +kernel
theorem dX11_count_124 : decode cX11_count 124 = .ok (.dup, 1) := by decide +kernel
theorem dX11_count_125 : decode cX11_count 125 = .ok (.invokespecial 116, 3) := by decide +kernel
theorem dX11_count_128 : decode cX11_count 128 = .ok (.athrow, 1) := by decide +kernel
theorem dX11_asNumber_0 : decode cX11_asNumber 0 = .ok (.iload_n 0, 1) := by decide +kernel
theorem dX11_asNumber_1 : decode cX11_asNumber 1 = .ok (.ifCond .eq 7, 3) := by decide +kernel
theorem dX11_asNumber_4 : decode cX11_asNumber 4 = .ok (.iconst 1, 1) := by decide +kernel
theorem dX11_asNumber_5 : decode cX11_asNumber 5 = .ok (.goto 4, 3) := by decide +kernel
theorem dX11_asNumber_8 : decode cX11_asNumber 8 = .ok (.iconst 0, 1) := by decide +kernel
theorem dX11_asNumber_9 : decode cX11_asNumber 9 = .ok (.ireturn, 1) := by decide +kernel
theorem dX11_tell_0 : decode cX11_tell 0 = .ok (.aload_n 0, 1) := by decide +kernel
theorem dX11_tell_1 : decode cX11_tell 1 = .ok (.iload_n 1, 1) := by decide +kernel
theorem dX11_tell_2 : decode cX11_tell 2 = .ok (.putfield 103, 3) := by decide +kernel
theorem dX11_tell_5 : decode cX11_tell 5 = .ok (.aload_n 0, 1) := by decide +kernel
theorem dX11_tell_6 : decode cX11_tell 6 = .ok (.iload_n 2, 1) := by decide +kernel
theorem dX11_tell_7 : decode cX11_tell 7 = .ok (.putfield 107, 3) := by decide +kernel
theorem dX11_tell_10 : decode cX11_tell 10 = .ok (.return_, 1) := by decide +kernel
theorem dX11_canRead_0 : decode cX11_canRead 0 = .ok (.aload_n 0, 1) := by decide +kernel
theorem dX11_canRead_1 : decode cX11_canRead 1 = .ok (.getfield 32, 3) := by decide +kernel
theorem dX11_canRead_4 : decode cX11_canRead 4 = .ok (.aload_n 0, 1) := by decide +kernel
theorem dX11_canRead_5 : decode cX11_canRead 5 = .ok (.getfield 90, 3) := by decide +kernel
theorem dX11_canRead_8 : decode cX11_canRead 8 = .ok (.invokevirtual 287, 3) := by decide +kernel
theorem dX11_canRead_11 : decode cX11_canRead 11 = .ok (.iconst 1, 1) := by decide +kernel
theorem dX11_canRead_12 : decode cX11_canRead 12 = .ok (.ireturn, 1) := by decide +kernel
theorem dX11_canRead_13 : decode cX11_canRead 13 = .ok (.astore_n 1, 1) := by decide +kernel
theorem dX11_canRead_14 : decode cX11_canRead 14 = .ok (.iconst 0, 1) := by decide +kernel
theorem dX11_canRead_15 : decode cX11_canRead 15 = .ok (.ireturn, 1) := by decide +kernel
theorem dX11_canFlow_0 : decode cX11_canFlow 0 = .ok (.aload_n 0, 1) := by decide +kernel
theorem dX11_canFlow_1 : decode cX11_canFlow 1 = .ok (.getfield 39, 3) := by decide +kernel
theorem dX11_canFlow_4 : decode cX11_canFlow 4 = .ok (.aload_n 0, 1) := by decide +kernel
theorem dX11_canFlow_5 : decode cX11_canFlow 5 = .ok (.getfield 90, 3) := by decide +kernel
theorem dX11_canFlow_8 : decode cX11_canFlow 8 = .ok (.invokevirtual 290, 3) := by decide +kernel
theorem dX11_canFlow_11 : decode cX11_canFlow 11 = .ok (.iconst 1, 1) := by decide +kernel
theorem dX11_canFlow_12 : decode cX11_canFlow 12 = .ok (.ireturn, 1) := by decide +kernel
theorem dX11_canFlow_13 : decode cX11_canFlow 13 = .ok (.astore_n 1, 1) := by decide +kernel
theorem dX11_canFlow_14 : decode cX11_canFlow 14 = .ok (.iconst 0, 1) := by decide +kernel
theorem dX11_canFlow_15 : decode cX11_canFlow 15 = .ok (.ireturn, 1) := by decide +kernel
theorem dX11_takeSpare_0 : decode cX11_takeSpare 0 = .ok (.aload_n 0, 1) := by decide +kernel
theorem dX11_takeSpare_1 : decode cX11_takeSpare 1 = .ok (.getfield 86, 3) := by decide +kernel
theorem dX11_takeSpare_4 : decode cX11_takeSpare 4 = .ok (.astore_n 1, 1) := by decide +kernel
theorem dX11_takeSpare_5 : decode cX11_takeSpare 5 = .ok (.aload_n 0, 1) := by decide +kernel
theorem dX11_takeSpare_6 : decode cX11_takeSpare 6 = .ok (.aload_n 0, 1) := by decide +kernel
theorem dX11_takeSpare_7 : decode cX11_takeSpare 7 = .ok (.getfield 90, 3) := by decide +kernel
theorem dX11_takeSpare_10 : decode cX11_takeSpare 10 = .ok (.putfield 86, 3) := by decide +kernel
theorem dX11_takeSpare_13 : decode cX11_takeSpare 13 = .ok (.aload_n 0, 1) := by decide +kernel
theorem dX11_takeSpare_14 : decode cX11_takeSpare 14 = .ok (.aload_n 1, 1) := by decide +kernel
theorem dX11_takeSpare_15 : decode cX11_takeSpare 15 = .ok (.putfield 90, 3) := by decide +kernel
theorem dX11_takeSpare_18 : decode cX11_takeSpare 18 = .ok (.aload_n 0, 1) := by decide +kernel
theorem dX11_takeSpare_19 : decode cX11_takeSpare 19 = .ok (.getfield 96, 3) := by decide +kernel
theorem dX11_takeSpare_22 : decode cX11_takeSpare 22 = .ok (.astore_n 2, 1) := by decide +kernel
theorem dX11_takeSpare_23 : decode cX11_takeSpare 23 = .ok (.aload_n 0, 1) := by decide +kernel
theorem dX11_takeSpare_24 : decode cX11_takeSpare 24 = .ok (.aload_n 0, 1) := by decide +kernel
theorem dX11_takeSpare_25 : decode cX11_takeSpare 25 = .ok (.getfield 100, 3) := by decide +kernel
theorem dX11_takeSpare_28 : decode cX11_takeSpare 28 = .ok (.putfield 96, 3) := by decide +kernel
theorem dX11_takeSpare_31 : decode cX11_takeSpare 31 = .ok (.aload_n 0, 1) := by decide +kernel
theorem dX11_takeSpare_32 : decode cX11_takeSpare 32 = .ok (.aload_n 2, 1) := by decide +kernel
theorem dX11_takeSpare_33 : decode cX11_takeSpare 33 = .ok (.putfield 100, 3) := by decide +kernel
theorem dX11_takeSpare_36 : decode cX11_takeSpare 36 = .ok (.aload_n 0, 1) := by decide +kernel
theorem dX11_takeSpare_37 : decode cX11_takeSpare 37 = .ok (.getfield 86, 3) := by decide +kernel
theorem dX11_takeSpare_40 : decode cX11_takeSpare 40 = .ok (.aload_n 0, 1) := by decide +kernel
theorem dX11_takeSpare_41 : decode cX11_takeSpare 41 = .ok (.getfield 73, 3) := by decide +kernel
theorem dX11_takeSpare_44 : decode cX11_takeSpare 44 = .ok (.invokevirtual 293, 3) := by decide +kernel
theorem dX11_takeSpare_47 : decode cX11_takeSpare 47 = .ok (.aload_n 0, 1) := by decide +kernel
theorem dX11_takeSpare_48 : decode cX11_takeSpare 48 = .ok (.invokevirtual 200, 3) := by decide +kernel
theorem dX11_takeSpare_51 : decode cX11_takeSpare 51 = .ok (.aload_n 0, 1) := by decide +kernel
theorem dX11_takeSpare_52 : decode cX11_takeSpare 52 = .ok (.iconst 1, 1) := by decide +kernel
theorem dX11_takeSpare_53 : decode cX11_takeSpare 53 = .ok (.putfield 262, 3) := by decide +kernel
theorem dX11_takeSpare_56 : decode cX11_takeSpare 56 = .ok (.return_, 1) := by decide +kernel
theorem dX11_forgetFindings_0 : decode cX11_forgetFindings 0 = .ok (.aload_n 0, 1) := by decide +kernel
theorem dX11_forgetFindings_1 : decode cX11_forgetFindings 1 = .ok (.iconst 0, 1) := by decide +kernel
theorem dX11_forgetFindings_2 : decode cX11_forgetFindings 2 = .ok (.putfield 262, 3) := by decide +kernel
theorem dX11_forgetFindings_5 : decode cX11_forgetFindings 5 = .ok (.aload_n 0, 1) := by decide +kernel
theorem dX11_forgetFindings_6 : decode cX11_forgetFindings 6 = .ok (.iconst 0, 1) := by decide +kernel
theorem dX11_forgetFindings_7 : decode cX11_forgetFindings 7 = .ok (.putfield 213, 3) := by decide +kernel
theorem dX11_forgetFindings_10 : decode cX11_forgetFindings 10 = .ok (.aload_n 0, 1) := by decide +kernel
theorem dX11_forgetFindings_11 : decode cX11_forgetFindings 11 = .ok (.getfield 53, 3) := by decide +kernel
theorem dX11_forgetFindings_14 : decode cX11_forgetFindings 14 = .ok (.invokevirtual 297, 3) := by decide +kernel
theorem dX11_forgetFindings_17 : decode cX11_forgetFindings 17 = .ok (.return_, 1) := by decide +kernel
theorem dX11_bit_0 : decode cX11_bit 0 = .ok (.lconst 1, 1) := by decide +kernel
theorem dX11_bit_1 : decode cX11_bit 1 = .ok (.iload_n 0, 1) := by decide +kernel
theorem dX11_bit_2 : decode cX11_bit 2 = .ok (.lshl, 1) := by decide +kernel
theorem dX11_bit_3 : decode cX11_bit 3 = .ok (.lreturn, 1) := by decide +kernel
theorem dX11_holds_0 : decode cX11_holds 0 = .ok (.iload_n 2, 1) := by decide +kernel
theorem dX11_holds_1 : decode cX11_holds 1 = .ok (.ifCond .lt 23, 3) := by decide +kernel
theorem dX11_holds_4 : decode cX11_holds 4 = .ok (.iload_n 2, 1) := by decide +kernel
theorem dX11_holds_5 : decode cX11_holds 5 = .ok (.bipush 64, 2) := by decide +kernel
theorem dX11_holds_7 : decode cX11_holds 7 = .ok (.if_icmp .ge 17, 3) := by decide +kernel
theorem dX11_holds_10 : decode cX11_holds 10 = .ok (.lload_n 0, 1) := by decide +kernel
theorem dX11_holds_11 : decode cX11_holds 11 = .ok (.iload_n 2, 1) := by decide +kernel
theorem dX11_holds_12 : decode cX11_holds 12 = .ok (.lshr, 1) := by decide +kernel
theorem dX11_holds_13 : decode cX11_holds 13 = .ok (.lconst 1, 1) := by decide +kernel
theorem dX11_holds_14 : decode cX11_holds 14 = .ok (.land, 1) := by decide +kernel
theorem dX11_holds_15 : decode cX11_holds 15 = .ok (.lconst 1, 1) := by decide +kernel
theorem dX11_holds_16 : decode cX11_holds 16 = .ok (.lcmp, 1) := by decide +kernel
theorem dX11_holds_17 : decode cX11_holds 17 = .ok (.ifCond .ne 7, 3) := by decide +kernel
theorem dX11_holds_20 : decode cX11_holds 20 = .ok (.iconst 1, 1) := by decide +kernel
theorem dX11_holds_21 : decode cX11_holds 21 = .ok (.goto 4, 3) := by decide +kernel
theorem dX11_holds_24 : decode cX11_holds 24 = .ok (.iconst 0, 1) := by decide +kernel
theorem dX11_holds_25 : decode cX11_holds 25 = .ok (.ireturn, 1) := by decide +kernel
theorem dX11_least_0 : decode cX11_least 0 = .ok (.lload_n 0, 1) := by decide +kernel
theorem dX11_least_1 : decode cX11_least 1 = .ok (.lload_n 0, 1) := by decide +kernel
theorem dX11_least_2 : decode cX11_least 2 = .ok (.lneg, 1) := by decide +kernel
theorem dX11_least_3 : decode cX11_least 3 = .ok (.land, 1) := by decide +kernel
theorem dX11_least_4 : decode cX11_least 4 = .ok (.lconst 1, 1) := by decide +kernel
theorem dX11_least_5 : decode cX11_least 5 = .ok (.lsub, 1) := by decide +kernel
theorem dX11_least_6 : decode cX11_least 6 = .ok (.invokestatic 298, 3) := by decide +kernel
theorem dX11_least_9 : decode cX11_least 9 = .ok (.ireturn, 1) := by decide +kernel
theorem dX12_init_0 : decode cX12_init 0 = .ok (.aload_n 0, 1) := by decide +kernel
theorem dX12_init_1 : decode cX12_init 1 = .ok (.invokespecial 1, 3) := by decide +kernel
theorem dX12_init_4 : decode cX12_init 4 = .ok (.aload_n 0, 1) := by decide +kernel
theorem dX12_init_5 : decode cX12_init 5 = .ok (.bipush 36, 2) := by decide +kernel
theorem dX12_init_7 : decode cX12_init 7 = .ok (.newarray .boolean, 2) := by decide +kernel
theorem dX12_init_9 : decode cX12_init 9 = .ok (.putfield 7, 3) := by decide +kernel
theorem dX12_init_12 : decode cX12_init 12 = .ok (.aload_n 0, 1) := by decide +kernel
theorem dX12_init_13 : decode cX12_init 13 = .ok (.bipush 36, 2) := by decide +kernel
theorem dX12_init_15 : decode cX12_init 15 = .ok (.newarray .int, 2) := by decide +kernel
theorem dX12_init_17 : decode cX12_init 17 = .ok (.putfield 13, 3) := by decide +kernel
theorem dX12_init_20 : decode cX12_init 20 = .ok (.aload_n 0, 1) := by decide +kernel
theorem dX12_init_21 : decode cX12_init 21 = .ok (.bipush 36, 2) := by decide +kernel
theorem dX12_init_23 : decode cX12_init 23 = .ok (.newarray .int, 2) := by decide +kernel
theorem dX12_init_25 : decode cX12_init 25 = .ok (.putfield 17, 3) := by decide +kernel
theorem dX12_init_28 : decode cX12_init 28 = .ok (.aload_n 0, 1) := by decide +kernel
theorem dX12_init_29 : decode cX12_init 29 = .ok (.iconst (-1), 1) := by decide +kernel
theorem dX12_init_30 : decode cX12_init 30 = .ok (.putfield 20, 3) := by decide +kernel
theorem dX12_init_33 : decode cX12_init 33 = .ok (.aload_n 0, 1) := by decide +kernel
theorem dX12_init_34 : decode cX12_init 34 = .ok (.iconst (-1), 1) := by decide +kernel
theorem dX12_init_35 : decode cX12_init 35 = .ok (.putfield 24, 3) := by decide +kernel
theorem dX12_init_38 : decode cX12_init 38 = .ok (.aload_n 0, 1) := by decide +kernel
theorem dX12_init_39 : decode cX12_init 39 = .ok (.sipush 240, 3) := by decide +kernel
theorem dX12_init_42 : decode cX12_init 42 = .ok (.newarray .int, 2) := by decide +kernel
theorem dX12_init_44 : decode cX12_init 44 = .ok (.putfield 27, 3) := by decide +kernel
theorem dX12_init_47 : decode cX12_init 47 = .ok (.aload_n 0, 1) := by decide +kernel
theorem dX12_init_48 : decode cX12_init 48 = .ok (.bipush 64, 2) := by decide +kernel
theorem dX12_init_50 : decode cX12_init 50 = .ok (.newarray .int, 2) := by decide +kernel
theorem dX12_init_52 : decode cX12_init 52 = .ok (.putfield 30, 3) := by decide +kernel
theorem dX12_init_55 : decode cX12_init 55 = .ok (.aload_n 0, 1) := by decide +kernel
theorem dX12_init_56 : decode cX12_init 56 = .ok (.bipush 64, 2) := by decide +kernel
theorem dX12_init_58 : decode cX12_init 58 = .ok (.newarray .int, 2) := by decide +kernel
theorem dX12_init_60 : decode cX12_init 60 = .ok (.putfield 33, 3) := by decide +kernel
theorem dX12_init_63 : decode cX12_init 63 = .ok (.aload_n 0, 1) := by decide +kernel
theorem dX12_init_64 : decode cX12_init 64 = .ok (.bipush 26, 2) := by decide +kernel
theorem dX12_init_66 : decode cX12_init 66 = .ok (.newarray .int, 2) := by decide +kernel
theorem dX12_init_68 : decode cX12_init 68 = .ok (.putfield 36, 3) := by decide +kernel
theorem dX12_init_71 : decode cX12_init 71 = .ok (.aload_n 0, 1) := by decide +kernel
theorem dX12_init_72 : decode cX12_init 72 = .ok (.bipush 26, 2) := by decide +kernel
theorem dX12_init_74 : decode cX12_init 74 = .ok (.newarray .int, 2) := by decide +kernel
theorem dX12_init_76 : decode cX12_init 76 = .ok (.putfield 39, 3) := by decide +kernel
theorem dX12_init_79 : decode cX12_init 79 = .ok (.aload_n 0, 1) := by decide +kernel
theorem dX12_init_80 : decode cX12_init 80 = .ok (.sipush 128, 3) := by decide +kernel
theorem dX12_init_83 : decode cX12_init 83 = .ok (.newarray .int, 2) := by decide +kernel
theorem dX12_init_85 : decode cX12_init 85 = .ok (.putfield 42, 3) := by decide +kernel
theorem dX12_init_88 : decode cX12_init 88 = .ok (.aload_n 0, 1) := by decide +kernel
theorem dX12_init_89 : decode cX12_init 89 = .ok (.sipush 128, 3) := by decide +kernel
theorem dX12_init_92 : decode cX12_init 92 = .ok (.newarray .int, 2) := by decide +kernel
theorem dX12_init_94 : decode cX12_init 94 = .ok (.putfield 45, 3) := by decide +kernel
theorem dX12_init_97 : decode cX12_init 97 = .ok (.aload_n 0, 1) := by decide +kernel
theorem dX12_init_98 : decode cX12_init 98 = .ok (.sipush 128, 3) := by decide +kernel
theorem dX12_init_101 : decode cX12_init 101 = .ok (.newarray .int, 2) := by decide +kernel
theorem dX12_init_103 : decode cX12_init 103 = .ok (.putfield 48, 3) := by decide +kernel
theorem dX12_init_106 : decode cX12_init 106 = .ok (.aload_n 0, 1) := by decide +kernel
theorem dX12_init_107 : decode cX12_init 107 = .ok (.sipush 128, 3) := by decide +kernel
theorem dX12_init_110 : decode cX12_init 110 = .ok (.newarray .int, 2) := by decide +kernel
theorem dX12_init_112 : decode cX12_init 112 = .ok (.putfield 51, 3) := by decide +kernel
theorem dX12_init_115 : decode cX12_init 115 = .ok (.aload_n 0, 1) := by decide +kernel
theorem dX12_init_116 : decode cX12_init 116 = .ok (.sipush 128, 3) := by decide +kernel
theorem dX12_init_119 : decode cX12_init 119 = .ok (.newarray .int, 2) := by decide +kernel
theorem dX12_init_121 : decode cX12_init 121 = .ok (.putfield 54, 3) := by decide +kernel
theorem dX12_init_124 : decode cX12_init 124 = .ok (.aload_n 0, 1) := by decide +kernel
theorem dX12_init_125 : decode cX12_init 125 = .ok (.sipush 128, 3) := by decide +kernel
theorem dX12_init_128 : decode cX12_init 128 = .ok (.newarray .int, 2) := by decide +kernel
theorem dX12_init_130 : decode cX12_init 130 = .ok (.putfield 57, 3) := by decide +kernel
theorem dX12_init_133 : decode cX12_init 133 = .ok (.aload_n 0, 1) := by decide +kernel
theorem dX12_init_134 : decode cX12_init 134 = .ok (.sipush 128, 3) := by decide +kernel
theorem dX12_init_137 : decode cX12_init 137 = .ok (.newarray .int, 2) := by decide +kernel
theorem dX12_init_139 : decode cX12_init 139 = .ok (.putfield 60, 3) := by decide +kernel
theorem dX12_init_142 : decode cX12_init 142 = .ok (.aload_n 0, 1) := by decide +kernel
theorem dX12_init_143 : decode cX12_init 143 = .ok (.sipush 128, 3) := by decide +kernel
theorem dX12_init_146 : decode cX12_init 146 = .ok (.newarray .int, 2) := by decide +kernel
theorem dX12_init_148 : decode cX12_init 148 = .ok (.putfield 63, 3) := by decide +kernel
theorem dX12_init_151 : decode cX12_init 151 = .ok (.aload_n 0, 1) := by decide +kernel
theorem dX12_init_152 : decode cX12_init 152 = .ok (.sipush 128, 3) := by decide +kernel
theorem dX12_init_155 : decode cX12_init 155 = .ok (.newarray .int, 2) := by decide +kernel
theorem dX12_init_157 : decode cX12_init 157 = .ok (.putfield 66, 3) := by decide +kernel
theorem dX12_init_160 : decode cX12_init 160 = .ok (.aload_n 0, 1) := by decide +kernel
theorem dX12_init_161 : decode cX12_init 161 = .ok (.sipush 520, 3) := by decide +kernel
theorem dX12_init_164 : decode cX12_init 164 = .ok (.newarray .int, 2) := by decide +kernel
theorem dX12_init_166 : decode cX12_init 166 = .ok (.putfield 69, 3) := by decide +kernel
theorem dX12_init_169 : decode cX12_init 169 = .ok (.aload_n 0, 1) := by decide +kernel
theorem dX12_init_170 : decode cX12_init 170 = .ok (.sipush 520, 3) := by decide +kernel
theorem dX12_init_173 : decode cX12_init 173 = .ok (.newarray .int, 2) := by decide +kernel
theorem dX12_init_175 : decode cX12_init 175 = .ok (.putfield 72, 3) := by decide +kernel
theorem dX12_init_178 : decode cX12_init 178 = .ok (.aload_n 0, 1) := by decide +kernel
theorem dX12_init_179 : decode cX12_init 179 = .ok (.bipush 52, 2) := by decide +kernel
theorem dX12_init_181 : decode cX12_init 181 = .ok (.newarray .int, 2) := by decide +kernel
theorem dX12_init_183 : decode cX12_init 183 = .ok (.putfield 75, 3) := by decide +kernel
theorem dX12_init_186 : decode cX12_init 186 = .ok (.aload_n 0, 1) := by decide +kernel
theorem dX12_init_187 : decode cX12_init 187 = .ok (.iconst 2, 1) := by decide +kernel
theorem dX12_init_188 : decode cX12_init 188 = .ok (.newarray .int, 2) := by decide +kernel
theorem dX12_init_190 : decode cX12_init 190 = .ok (.putfield 78, 3) := by decide +kernel
theorem dX12_init_193 : decode cX12_init 193 = .ok (.aload_n 0, 1) := by decide +kernel
theorem dX12_init_194 : decode cX12_init 194 = .ok (.bipush 26, 2) := by decide +kernel
theorem dX12_init_196 : decode cX12_init 196 = .ok (.newarray .int, 2) := by decide +kernel
theorem dX12_init_198 : decode cX12_init 198 = .ok (.putfield 81, 3) := by decide +kernel
theorem dX12_init_201 : decode cX12_init 201 = .ok (.aload_n 0, 1) := by decide +kernel
theorem dX12_init_202 : decode cX12_init 202 = .ok (.bipush 26, 2) := by decide +kernel
theorem dX12_init_204 : decode cX12_init 204 = .ok (.newarray .int, 2) := by decide +kernel
theorem dX12_init_206 : decode cX12_init 206 = .ok (.putfield 84, 3) := by decide +kernel
theorem dX12_init_209 : decode cX12_init 209 = .ok (.aload_n 0, 1) := by decide +kernel
theorem dX12_init_210 : decode cX12_init 210 = .ok (.bipush 10, 2) := by decide +kernel
theorem dX12_init_212 : decode cX12_init 212 = .ok (.newarray .int, 2) := by decide +kernel
theorem dX12_init_214 : decode cX12_init 214 = .ok (.putfield 87, 3) := by decide +kernel
theorem dX12_init_217 : decode cX12_init 217 = .ok (.aload_n 0, 1) := by decide +kernel
theorem dX12_init_218 : decode cX12_init 218 = .ok (.bipush 10, 2) := by decide +kernel
theorem dX12_init_220 : decode cX12_init 220 = .ok (.newarray .int, 2) := by decide +kernel
theorem dX12_init_222 : decode cX12_init 222 = .ok (.putfield 90, 3) := by decide +kernel
theorem dX12_init_225 : decode cX12_init 225 = .ok (.aload_n 0, 1) := by decide +kernel
theorem dX12_init_226 : decode cX12_init 226 = .ok (.bipush 10, 2) := by decide +kernel
theorem dX12_init_228 : decode cX12_init 228 = .ok (.newarray .int, 2) := by decide +kernel
theorem dX12_init_230 : decode cX12_init 230 = .ok (.putfield 93, 3) := by decide +kernel
theorem dX12_init_233 : decode cX12_init 233 = .ok (.aload_n 0, 1) := by decide +kernel
theorem dX12_init_234 : decode cX12_init 234 = .ok (.bipush 64, 2) := by decide +kernel
theorem dX12_init_236 : decode cX12_init 236 = .ok (.newarray .int, 2) := by decide +kernel
theorem dX12_init_238 : decode cX12_init 238 = .ok (.putfield 96, 3) := by decide +kernel
theorem dX12_init_241 : decode cX12_init 241 = .ok (.aload_n 0, 1) := by decide +kernel
theorem dX12_init_242 : decode cX12_init 242 = .ok (.bipush 64, 2) := by decide +kernel
theorem dX12_init_244 : decode cX12_init 244 = .ok (.newarray .int, 2) := by decide +kernel
theorem dX12_init_246 : decode cX12_init 246 = .ok (.putfield 99, 3) := by decide +kernel
theorem dX12_init_249 : decode cX12_init 249 = .ok (.aload_n 0, 1) := by decide +kernel
theorem dX12_init_250 : decode cX12_init 250 = .ok (.bipush 10, 2) := by decide +kernel
theorem dX12_init_252 : decode cX12_init 252 = .ok (.newarray .boolean, 2) := by decide +kernel
theorem dX12_init_254 : decode cX12_init 254 = .ok (.putfield 102, 3) := by decide +kernel
theorem dX12_init_257 : decode cX12_init 257 = .ok (.aload_n 0, 1) := by decide +kernel
theorem dX12_init_258 : decode cX12_init 258 = .ok (.bipush 26, 2) := by decide +kernel
theorem dX12_init_260 : decode cX12_init 260 = .ok (.newarray .int, 2) := by decide +kernel
theorem dX12_init_262 : decode cX12_init 262 = .ok (.putfield 105, 3) := by decide +kernel
theorem dX12_init_265 : decode cX12_init 265 = .ok (.aload_n 0, 1) := by decide +kernel
theorem dX12_init_266 : decode cX12_init 266 = .ok (.sipush 300, 3) := by decide +kernel
theorem dX12_init_269 : decode cX12_init 269 = .ok (.newarray .int, 2) := by decide +kernel
theorem dX12_init_271 : decode cX12_init 271 = .ok (.putfield 108, 3) := by decide +kernel
theorem dX12_init_274 : decode cX12_init 274 = .ok (.aload_n 0, 1) := by decide +kernel
theorem dX12_init_275 : decode cX12_init 275 = .ok (.sipush 300, 3) := by decide +kernel
theorem dX12_init_278 : decode cX12_init 278 = .ok (.newarray .int, 2) := by decide +kernel
theorem dX12_init_280 : decode cX12_init 280 = .ok (.putfield 111, 3) := by decide +kernel
theorem dX12_init_283 : decode cX12_init 283 = .ok (.aload_n 0, 1) := by decide +kernel
theorem dX12_init_284 : decode cX12_init 284 = .ok (.sipush 300, 3) := by decide +kernel
theorem dX12_init_287 : decode cX12_init 287 = .ok (.newarray .int, 2) := by decide +kernel
theorem dX12_init_289 : decode cX12_init 289 = .ok (.putfield 114, 3) := by decide +kernel
theorem dX12_init_292 : decode cX12_init 292 = .ok (.aload_n 0, 1) := by decide +kernel
theorem dX12_init_293 : decode cX12_init 293 = .ok (.sipush 2600, 3) := by decide +kernel
theorem dX12_init_296 : decode cX12_init 296 = .ok (.newarray .int, 2) := by decide +kernel
theorem dX12_init_298 : decode cX12_init 298 = .ok (.putfield 117, 3) := by decide +kernel
theorem dX12_init_301 : decode cX12_init 301 = .ok (.aload_n 0, 1) := by decide +kernel
theorem dX12_init_302 : decode cX12_init 302 = .ok (.bipush 65, 2) := by decide +kernel
theorem dX12_init_304 : decode cX12_init 304 = .ok (.newarray .int, 2) := by decide +kernel
theorem dX12_init_306 : decode cX12_init 306 = .ok (.putfield 120, 3) := by decide +kernel
theorem dX12_init_309 : decode cX12_init 309 = .ok (.aload_n 0, 1) := by decide +kernel
theorem dX12_init_310 : decode cX12_init 310 = .ok (.bipush 65, 2) := by decide +kernel
theorem dX12_init_312 : decode cX12_init 312 = .ok (.newarray .int, 2) := by decide +kernel
theorem dX12_init_314 : decode cX12_init 314 = .ok (.putfield 123, 3) := by decide +kernel
theorem dX12_init_317 : decode cX12_init 317 = .ok (.aload_n 0, 1) := by decide +kernel
theorem dX12_init_318 : decode cX12_init 318 = .ok (.sipush 300, 3) := by decide +kernel
theorem dX12_init_321 : decode cX12_init 321 = .ok (.newarray .int, 2) := by decide +kernel
theorem dX12_init_323 : decode cX12_init 323 = .ok (.putfield 126, 3) := by decide +kernel
theorem dX12_init_326 : decode cX12_init 326 = .ok (.aload_n 0, 1) := by decide +kernel
theorem dX12_init_327 : decode cX12_init 327 = .ok (.bipush 64, 2) := by decide +kernel
theorem dX12_init_329 : decode cX12_init 329 = .ok (.newarray .int, 2) := by decide +kernel
theorem dX12_init_331 : decode cX12_init 331 = .ok (.putfield 129, 3) := by decide +kernel
theorem dX12_init_334 : decode cX12_init 334 = .ok (.aload_n 0, 1) := by decide +kernel
theorem dX12_init_335 : decode cX12_init 335 = .ok (.bipush 64, 2) := by decide +kernel
theorem dX12_init_337 : decode cX12_init 337 = .ok (.newarray .boolean, 2) := by decide +kernel
theorem dX12_init_339 : decode cX12_init 339 = .ok (.putfield 132, 3) := by decide +kernel
theorem dX12_init_342 : decode cX12_init 342 = .ok (.aload_n 0, 1) := by decide +kernel
theorem dX12_init_343 : decode cX12_init 343 = .ok (.bipush 64, 2) := by decide +kernel
theorem dX12_init_345 : decode cX12_init 345 = .ok (.newarray .int, 2) := by decide +kernel
theorem dX12_init_347 : decode cX12_init 347 = .ok (.putfield 135, 3) := by decide +kernel
theorem dX12_init_350 : decode cX12_init 350 = .ok (.aload_n 0, 1) := by decide +kernel
theorem dX12_init_351 : decode cX12_init 351 = .ok (.sipush 4096, 3) := by decide +kernel
theorem dX12_init_354 : decode cX12_init 354 = .ok (.newarray .boolean, 2) := by decide +kernel
theorem dX12_init_356 : decode cX12_init 356 = .ok (.putfield 138, 3) := by decide +kernel
theorem dX12_init_359 : decode cX12_init 359 = .ok (.aload_n 0, 1) := by decide +kernel
theorem dX12_init_360 : decode cX12_init 360 = .ok (.bipush 64, 2) := by decide +kernel
theorem dX12_init_362 : decode cX12_init 362 = .ok (.newarray .int, 2) := by decide +kernel
theorem dX12_init_364 : decode cX12_init 364 = .ok (.putfield 141, 3) := by decide +kernel
theorem dX12_init_367 : decode cX12_init 367 = .ok (.aload_n 0, 1) := by decide +kernel
theorem dX12_init_368 : decode cX12_init 368 = .ok (.sipush 3584, 3) := by decide +kernel
theorem dX12_init_371 : decode cX12_init 371 = .ok (.newarray .int, 2) := by decide +kernel
theorem dX12_init_373 : decode cX12_init 373 = .ok (.putfield 144, 3) := by decide +kernel
theorem dX12_init_376 : decode cX12_init 376 = .ok (.aload_n 0, 1) := by decide +kernel
theorem dX12_init_377 : decode cX12_init 377 = .ok (.bipush 56, 2) := by decide +kernel
theorem dX12_init_379 : decode cX12_init 379 = .ok (.newarray .int, 2) := by decide +kernel
theorem dX12_init_381 : decode cX12_init 381 = .ok (.putfield 147, 3) := by decide +kernel
theorem dX12_init_384 : decode cX12_init 384 = .ok (.aload_n 0, 1) := by decide +kernel
theorem dX12_init_385 : decode cX12_init 385 = .ok (.bipush 64, 2) := by decide +kernel
theorem dX12_init_387 : decode cX12_init 387 = .ok (.newarray .boolean, 2) := by decide +kernel
theorem dX12_init_389 : decode cX12_init 389 = .ok (.putfield 150, 3) := by decide +kernel
theorem dX12_init_392 : decode cX12_init 392 = .ok (.aload_n 0, 1) := by decide +kernel
theorem dX12_init_393 : decode cX12_init 393 = .ok (.bipush 64, 2) := by decide +kernel
theorem dX12_init_395 : decode cX12_init 395 = .ok (.newarray .boolean, 2) := by decide +kernel
theorem dX12_init_397 : decode cX12_init 397 = .ok (.putfield 153, 3) := by decide +kernel
theorem dX12_init_400 : decode cX12_init 400 = .ok (.aload_n 0, 1) := by decide +kernel
theorem dX12_init_401 : decode cX12_init 401 = .ok (.bipush 120, 2) := by decide +kernel
theorem dX12_init_403 : decode cX12_init 403 = .ok (.newarray .int, 2) := by decide +kernel
theorem dX12_init_405 : decode cX12_init 405 = .ok (.putfield 156, 3) := by decide +kernel
theorem dX12_init_408 : decode cX12_init 408 = .ok (.aload_n 0, 1) := by decide +kernel
theorem dX12_init_409 : decode cX12_init 409 = .ok (.bipush 6, 2) := by decide +kernel
theorem dX12_init_411 : decode cX12_init 411 = .ok (.newarray .int, 2) := by decide +kernel
theorem dX12_init_413 : decode cX12_init 413 = .ok (.putfield 159, 3) := by decide +kernel
theorem dX12_init_416 : decode cX12_init 416 = .ok (.aload_n 0, 1) := by decide +kernel
theorem dX12_init_417 : decode cX12_init 417 = .ok (.bipush 6, 2) := by decide +kernel
theorem dX12_init_419 : decode cX12_init 419 = .ok (.newarray .int, 2) := by decide +kernel
theorem dX12_init_421 : decode cX12_init 421 = .ok (.putfield 162, 3) := by decide +kernel
theorem dX12_init_424 : decode cX12_init 424 = .ok (.aload_n 0, 1) := by decide +kernel
theorem dX12_init_425 : decode cX12_init 425 = .ok (.bipush 120, 2) := by decide +kernel
theorem dX12_init_427 : decode cX12_init 427 = .ok (.newarray .int, 2) := by decide +kernel
theorem dX12_init_429 : decode cX12_init 429 = .ok (.putfield 165, 3) := by decide +kernel
theorem dX12_init_432 : decode cX12_init 432 = .ok (.aload_n 0, 1) := by decide +kernel
theorem dX12_init_433 : decode cX12_init 433 = .ok (.bipush 6, 2) := by decide +kernel
theorem dX12_init_435 : decode cX12_init 435 = .ok (.newarray .int, 2) := by decide +kernel
theorem dX12_init_437 : decode cX12_init 437 = .ok (.putfield 168, 3) := by decide +kernel
theorem dX12_init_440 : decode cX12_init 440 = .ok (.aload_n 0, 1) := by decide +kernel
theorem dX12_init_441 : decode cX12_init 441 = .ok (.bipush 26, 2) := by decide +kernel
theorem dX12_init_443 : decode cX12_init 443 = .ok (.newarray .int, 2) := by decide +kernel
theorem dX12_init_445 : decode cX12_init 445 = .ok (.putfield 171, 3) := by decide +kernel
theorem dX12_init_448 : decode cX12_init 448 = .ok (.aload_n 0, 1) := by decide +kernel
theorem dX12_init_449 : decode cX12_init 449 = .ok (.sipush 208, 3) := by decide +kernel
theorem dX12_init_452 : decode cX12_init 452 = .ok (.newarray .int, 2) := by decide +kernel
theorem dX12_init_454 : decode cX12_init 454 = .ok (.putfield 174, 3) := by decide +kernel
theorem dX12_init_457 : decode cX12_init 457 = .ok (.aload_n 0, 1) := by decide +kernel
theorem dX12_init_458 : decode cX12_init 458 = .ok (.sipush 260, 3) := by decide +kernel
theorem dX12_init_461 : decode cX12_init 461 = .ok (.newarray .int, 2) := by decide +kernel
theorem dX12_init_463 : decode cX12_init 463 = .ok (.putfield 177, 3) := by decide +kernel
theorem dX12_init_466 : decode cX12_init 466 = .ok (.aload_n 0, 1) := by decide +kernel
theorem dX12_init_467 : decode cX12_init 467 = .ok (.iload_n 1, 1) := by decide +kernel
theorem dX12_init_468 : decode cX12_init 468 = .ok (.iconst 1, 1) := by decide +kernel
theorem dX12_init_469 : decode cX12_init 469 = .ok (.if_icmp .ge 7, 3) := by decide +kernel
theorem dX12_init_472 : decode cX12_init 472 = .ok (.iconst 1, 1) := by decide +kernel
theorem dX12_init_473 : decode cX12_init 473 = .ok (.goto 15, 3) := by decide +kernel
theorem dX12_init_476 : decode cX12_init 476 = .ok (.iload_n 1, 1) := by decide +kernel
theorem dX12_init_477 : decode cX12_init 477 = .ok (.bipush 6, 2) := by decide +kernel
theorem dX12_init_479 : decode cX12_init 479 = .ok (.if_icmp .le 8, 3) := by decide +kernel
theorem dX12_init_482 : decode cX12_init 482 = .ok (.bipush 6, 2) := by decide +kernel
theorem dX12_init_484 : decode cX12_init 484 = .ok (.goto 4, 3) := by decide +kernel
theorem dX12_init_487 : decode cX12_init 487 = .ok (.iload_n 1, 1) := by decide +kernel
theorem dX12_init_488 : decode cX12_init 488 = .ok (.putfield 180, 3) := by decide +kernel
theorem dX12_init_491 : decode cX12_init 491 = .ok (.iconst 0, 1) := by decide +kernel
theorem dX12_init_492 : decode cX12_init 492 = .ok (.istore_n 2, 1) := by decide +kernel
theorem dX12_init_493 : decode cX12_init 493 = .ok (.iload_n 2, 1) := by decide +kernel
theorem dX12_init_494 : decode cX12_init 494 = .ok (.bipush 6, 2) := by decide +kernel
theorem dX12_init_496 : decode cX12_init 496 = .ok (.if_icmp .ge 19, 3) := by decide +kernel
theorem dX12_init_499 : decode cX12_init 499 = .ok (.aload_n 0, 1) := by decide +kernel
theorem dX12_init_500 : decode cX12_init 500 = .ok (.getfield 7, 3) := by decide +kernel
theorem dX12_init_503 : decode cX12_init 503 = .ok (.bipush 7, 2) := by decide +kernel
theorem dX12_init_505 : decode cX12_init 505 = .ok (.iload_n 2, 1) := by decide +kernel
theorem dX12_init_506 : decode cX12_init 506 = .ok (.imul, 1) := by decide +kernel
theorem dX12_init_507 : decode cX12_init 507 = .ok (.iconst 1, 1) := by decide +kernel
theorem dX12_init_508 : decode cX12_init 508 = .ok (.bastore, 1) := by decide +kernel
theorem dX12_init_509 : decode cX12_init 509 = .ok (.iinc 2 1, 3) := by decide +kernel
theorem dX12_init_512 : decode cX12_init 512 = .ok (.goto (-19), 3) := by decide +kernel
theorem dX12_init_515 : decode cX12_init 515 = .ok (.iconst 0, 1) := by decide +kernel
theorem dX12_init_516 : decode cX12_init 516 = .ok (.istore_n 2, 1) := by decide +kernel
theorem dX12_init_517 : decode cX12_init 517 = .ok (.iload_n 2, 1) := by decide +kernel
theorem dX12_init_518 : decode cX12_init 518 = .ok (.bipush 26, 2) := by decide +kernel
theorem dX12_init_520 : decode cX12_init 520 = .ok (.if_icmp .ge 23, 3) := by decide +kernel
theorem dX12_init_523 : decode cX12_init 523 = .ok (.aload_n 0, 1) := by decide +kernel
theorem dX12_init_524 : decode cX12_init 524 = .ok (.getfield 36, 3) := by decide +kernel
theorem dX12_init_527 : decode cX12_init 527 = .ok (.iload_n 2, 1) := by decide +kernel
theorem dX12_init_528 : decode cX12_init 528 = .ok (.iconst (-1), 1) := by decide +kernel
theorem dX12_init_529 : decode cX12_init 529 = .ok (.iastore, 1) := by decide +kernel
theorem dX12_init_530 : decode cX12_init 530 = .ok (.aload_n 0, 1) := by decide +kernel
theorem dX12_init_531 : decode cX12_init 531 = .ok (.getfield 39, 3) := by decide +kernel
theorem dX12_init_534 : decode cX12_init 534 = .ok (.iload_n 2, 1) := by decide +kernel
theorem dX12_init_535 : decode cX12_init 535 = .ok (.iconst (-1), 1) := by decide +kernel
theorem dX12_init_536 : decode cX12_init 536 = .ok (.iastore, 1) := by decide +kernel
theorem dX12_init_537 : decode cX12_init 537 = .ok (.iinc 2 1, 3) := by decide +kernel
theorem dX12_init_540 : decode cX12_init 540 = .ok (.goto (-23), 3) := by decide +kernel
theorem dX12_init_543 : decode cX12_init 543 = .ok (.return_, 1) := by decide +kernel
theorem dX12_thrown_0 : decode cX12_thrown 0 = .ok (.aload_n 0, 1) := by decide +kernel
theorem dX12_thrown_1 : decode cX12_thrown 1 = .ok (.getfield 183, 3) := by decide +kernel
theorem dX12_thrown_4 : decode cX12_thrown 4 = .ok (.ireturn, 1) := by decide +kernel
theorem dX12_fail_0 : decode cX12_fail 0 = .ok (.aload_n 0, 1) := by decide +kernel
theorem dX12_fail_1 : decode cX12_fail 1 = .ok (.iload_n 1, 1) := by decide +kernel
theorem dX12_fail_2 : decode cX12_fail 2 = .ok (.putfield 183, 3) := by decide +kernel
theorem dX12_fail_5 : decode cX12_fail 5 = .ok (.iconst 0, 1) := by decide +kernel
theorem dX12_fail_6 : decode cX12_fail 6 = .ok (.ireturn, 1) := by decide +kernel
theorem dX12_out_0 : decode cX12_out 0 = .ok (.iload_n 1, 1) := by decide +kernel
theorem dX12_out_1 : decode cX12_out 1 = .ok (.ifCond .lt 8, 3) := by decide +kernel
theorem dX12_out_4 : decode cX12_out 4 = .ok (.iload_n 1, 1) := by decide +kernel
theorem dX12_out_5 : decode cX12_out 5 = .ok (.iload_n 2, 1) := by decide +kernel
theorem dX12_out_6 : decode cX12_out 6 = .ok (.if_icmp .lt 7, 3) := by decide +kernel
theorem dX12_out_9 : decode cX12_out 9 = .ok (.iconst 1, 1) := by decide +kernel
theorem dX12_out_10 : decode cX12_out 10 = .ok (.goto 4, 3) := by decide +kernel
theorem dX12_out_13 : decode cX12_out 13 = .ok (.iconst 0, 1) := by decide +kernel
theorem dX12_out_14 : decode cX12_out 14 = .ok (.ireturn, 1) := by decide +kernel
theorem dX12_below_0 : decode cX12_below 0 = .ok (.aload_n 0, 1) := by decide +kernel
theorem dX12_below_1 : decode cX12_below 1 = .ok (.iconst 0, 1) := by decide +kernel
theorem dX12_below_2 : decode cX12_below 2 = .ok (.putfield 183, 3) := by decide +kernel
theorem dX12_below_5 : decode cX12_below 5 = .ok (.aload_n 0, 1) := by decide +kernel
theorem dX12_below_6 : decode cX12_below 6 = .ok (.iload_n 1, 1) := by decide +kernel
theorem dX12_below_7 : decode cX12_below 7 = .ok (.aload_n 0, 1) := by decide +kernel
theorem dX12_below_8 : decode cX12_below 8 = .ok (.getfield 180, 3) := by decide +kernel
theorem dX12_below_11 : decode cX12_below 11 = .ok (.invokevirtual 186, 3) := by decide +kernel
theorem dX12_below_14 : decode cX12_below 14 = .ok (.ifCond .ne 15, 3) := by decide +kernel
theorem dX12_below_17 : decode cX12_below 17 = .ok (.aload_n 0, 1) := by decide +kernel
theorem dX12_below_18 : decode cX12_below 18 = .ok (.iload_n 2, 1) := by decide +kernel
theorem dX12_below_19 : decode cX12_below 19 = .ok (.aload_n 0, 1) := by decide +kernel
theorem dX12_below_20 : decode cX12_below 20 = .ok (.getfield 180, 3) := by decide +kernel
theorem dX12_below_23 : decode cX12_below 23 = .ok (.invokevirtual 186, 3) := by decide +kernel
theorem dX12_below_26 : decode cX12_below 26 = .ok (.ifCond .eq 9, 3) := by decide +kernel
theorem dX12_below_29 : decode cX12_below 29 = .ok (.aload_n 0, 1) := by decide +kernel
theorem dX12_below_30 : decode cX12_below 30 = .ok (.iconst 1, 1) := by decide +kernel
theorem dX12_below_31 : decode cX12_below 31 = .ok (.invokevirtual 190, 3) := by decide +kernel
theorem dX12_below_34 : decode cX12_below 34 = .ok (.ireturn, 1) := by decide +kernel
theorem dX12_below_35 : decode cX12_below 35 = .ok (.aload_n 0, 1) := by decide +kernel
theorem dX12_below_36 : decode cX12_below 36 = .ok (.getfield 194, 3) := by decide +kernel
theorem dX12_below_39 : decode cX12_below 39 = .ok (.ifCond .eq 9, 3) := by decide +kernel
theorem dX12_below_42 : decode cX12_below 42 = .ok (.aload_n 0, 1) := by decide +kernel
theorem dX12_below_43 : decode cX12_below 43 = .ok (.iconst 2, 1) := by decide +kernel
theorem dX12_below_44 : decode cX12_below 44 = .ok (.invokevirtual 190, 3) := by decide +kernel
theorem dX12_below_47 : decode cX12_below 47 = .ok (.ireturn, 1) := by decide +kernel
theorem dX12_below_48 : decode cX12_below 48 = .ok (.iconst 0, 1) := by decide +kernel
theorem dX12_below_49 : decode cX12_below 49 = .ok (.istore_n 3, 1) := by decide +kernel
theorem dX12_below_50 : decode cX12_below 50 = .ok (.iload_n 3, 1) := by decide +kernel
theorem dX12_below_51 : decode cX12_below 51 = .ok (.aload_n 0, 1) := by decide +kernel
theorem dX12_below_52 : decode cX12_below 52 = .ok (.getfield 180, 3) := by decide +kernel
theorem dX12_below_55 : decode cX12_below 55 = .ok (.if_icmp .ge 69, 3) := by decide +kernel
theorem dX12_below_58 : decode cX12_below 58 = .ok (.iconst 0, 1) := by decide +kernel
theorem dX12_below_59 : decode cX12_below 59 = .ok (.istore 4, 2) := by decide +kernel
theorem dX12_below_61 : decode cX12_below 61 = .ok (.iload 4, 2) := by decide +kernel
theorem dX12_below_63 : decode cX12_below 63 = .ok (.aload_n 0, 1) := by decide +kernel
theorem dX12_below_64 : decode cX12_below 64 = .ok (.getfield 180, 3) := by decide +kernel
theorem dX12_below_67 : decode cX12_below 67 = .ok (.if_icmp .ge 51, 3) := by decide +kernel
theorem dX12_below_70 : decode cX12_below 70 = .ok (.aload_n 0, 1) := by decide +kernel
theorem dX12_below_71 : decode cX12_below 71 = .ok (.getfield 7, 3) := by decide +kernel
theorem dX12_below_74 : decode cX12_below 74 = .ok (.bipush 6, 2) := by decide +kernel
theorem dX12_below_76 : decode cX12_below 76 = .ok (.iload_n 3, 1) := by decide +kernel
theorem dX12_below_77 : decode cX12_below 77 = .ok (.imul, 1) := by decide +kernel
theorem dX12_below_78 : decode cX12_below 78 = .ok (.iload_n 1, 1) := by decide +kernel
theorem dX12_below_79 : decode cX12_below 79 = .ok (.iadd, 1) := by decide +kernel
theorem dX12_below_80 : decode cX12_below 80 = .ok (.baload, 1) := by decide +kernel
theorem dX12_below_81 : decode cX12_below 81 = .ok (.ifCond .eq 31, 3) := by decide +kernel
theorem dX12_below_84 : decode cX12_below 84 = .ok (.aload_n 0, 1) := by decide +kernel
theorem dX12_below_85 : decode cX12_below 85 = .ok (.getfield 7, 3) := by decide +kernel
theorem dX12_below_88 : decode cX12_below 88 = .ok (.bipush 6, 2) := by decide +kernel
theorem dX12_below_90 : decode cX12_below 90 = .ok (.iload_n 2, 1) := by decide +kernel
theorem dX12_below_91 : decode cX12_below 91 = .ok (.imul, 1) := by decide +kernel
theorem dX12_below_92 : decode cX12_below 92 = .ok (.iload 4, 2) := by decide +kernel
theorem dX12_below_94 : decode cX12_below 94 = .ok (.iadd, 1) := by decide +kernel
theorem dX12_below_95 : decode cX12_below 95 = .ok (.baload, 1) := by decide +kernel
theorem dX12_below_96 : decode cX12_below 96 = .ok (.ifCond .eq 16, 3) := by decide +kernel
theorem dX12_below_99 : decode cX12_below 99 = .ok (.aload_n 0, 1) := by decide +kernel
theorem dX12_below_100 : decode cX12_below 100 = .ok (.getfield 7, 3) := by decide +kernel
theorem dX12_below_103 : decode cX12_below 103 = .ok (.bipush 6, 2) := by decide +kernel
theorem dX12_below_105 : decode cX12_below 105 = .ok (.iload_n 3, 1) := by decide +kernel
theorem dX12_below_106 : decode cX12_below 106 = .ok (.imul, 1) := by decide +kernel
theorem dX12_below_107 : decode cX12_below 107 = .ok (.iload 4, 2) := by decide +kernel
theorem dX12_below_109 : decode cX12_below 109 = .ok (.iadd, 1) := by decide +kernel
theorem dX12_below_110 : decode cX12_below 110 = .ok (.iconst 1, 1) := by decide +kernel
theorem dX12_below_111 : decode cX12_below 111 = .ok (.bastore, 1) := by decide +kernel
theorem dX12_below_112 : decode cX12_below 112 = .ok (.iinc 4 1, 3) := by decide +kernel
theorem dX12_below_115 : decode cX12_below 115 = .ok (.goto (-54), 3) := by decide +kernel
theorem dX12_below_118 : decode cX12_below 118 = .ok (.iinc 3 1, 3) := by decide +kernel
theorem dX12_below_121 : decode cX12_below 121 = .ok (.goto (-71), 3) := by decide +kernel
theorem dX12_below_124 : decode cX12_below 124 = .ok (.iconst 0, 1) := by decide +kernel
theorem dX12_below_125 : decode cX12_below 125 = .ok (.istore_n 3, 1) := by decide +kernel
theorem dX12_below_126 : decode cX12_below 126 = .ok (.iconst 0, 1) := by decide +kernel
theorem dX12_below_127 : decode cX12_below 127 = .ok (.istore 4, 2) := by decide +kernel
theorem dX12_below_129 : decode cX12_below 129 = .ok (.iload 4, 2) := by decide +kernel
theorem dX12_below_131 : decode cX12_below 131 = .ok (.aload_n 0, 1) := by decide +kernel
theorem dX12_below_132 : decode cX12_below 132 = .ok (.getfield 180, 3) := by decide +kernel
theorem dX12_below_135 : decode cX12_below 135 = .ok (.if_icmp .ge 51, 3) := by decide +kernel
theorem dX12_below_138 : decode cX12_below 138 = .ok (.iconst 0, 1) := by decide +kernel
theorem dX12_below_139 : decode cX12_below 139 = .ok (.istore 5, 2) := by decide +kernel
theorem dX12_below_141 : decode cX12_below 141 = .ok (.iload 5, 2) := by decide +kernel
theorem dX12_below_143 : decode cX12_below 143 = .ok (.aload_n 0, 1) := by decide +kernel
theorem dX12_below_144 : decode cX12_below 144 = .ok (.getfield 180, 3) := by decide +kernel
theorem dX12_below_147 : decode cX12_below 147 = .ok (.if_icmp .ge 33, 3) := by decide +kernel
theorem dX12_below_150 : decode cX12_below 150 = .ok (.iload_n 3, 1) := by decide +kernel
theorem dX12_below_151 : decode cX12_below 151 = .ok (.aload_n 0, 1) := by decide +kernel
theorem dX12_below_152 : decode cX12_below 152 = .ok (.getfield 7, 3) := by decide +kernel
theorem dX12_below_155 : decode cX12_below 155 = .ok (.bipush 6, 2) := by decide +kernel
theorem dX12_below_157 : decode cX12_below 157 = .ok (.iload 4, 2) := by decide +kernel
theorem dX12_below_159 : decode cX12_below 159 = .ok (.imul, 1) := by decide +kernel
theorem dX12_below_160 : decode cX12_below 160 = .ok (.iload 5, 2) := by decide +kernel
theorem dX12_below_162 : decode cX12_below 162 = .ok (.iadd, 1) := by decide +kernel
theorem dX12_below_163 : decode cX12_below 163 = .ok (.baload, 1) := by decide +kernel
theorem dX12_below_164 : decode cX12_below 164 = .ok (.ifCond .eq 7, 3) := by decide +kernel
theorem dX12_below_167 : decode cX12_below 167 = .ok (.iconst 1, 1) := by decide +kernel
theorem dX12_below_168 : decode cX12_below 168 = .ok (.goto 4, 3) := by decide +kernel
theorem dX12_below_171 : decode cX12_below 171 = .ok (.iconst 0, 1) := by decide +kernel
theorem dX12_below_172 : decode cX12_below 172 = .ok (.iadd, 1) := by decide +kernel
theorem dX12_below_173 : decode cX12_below 173 = .ok (.istore_n 3, 1) := by decide +kernel
theorem dX12_below_174 : decode cX12_below 174 = .ok (.iinc 5 1, 3) := by decide +kernel
theorem dX12_below_177 : decode cX12_below 177 = .ok (.goto (-36), 3) := by decide +kernel
theorem dX12_below_180 : decode cX12_below 180 = .ok (.iinc 4 1, 3) := by decide +kernel
theorem dX12_below_183 : decode cX12_below 183 = .ok (.goto (-54), 3) := by decide +kernel
theorem dX12_below_186 : decode cX12_below 186 = .ok (.iload_n 3, 1) := by decide +kernel
theorem dX12_below_187 : decode cX12_below 187 = .ok (.ireturn, 1) := by decide +kernel
theorem dX12_bound_0 : decode cX12_bound 0 = .ok (.iload 4, 2) := by decide +kernel
theorem dX12_bound_2 : decode cX12_bound 2 = .ok (.ifCond .eq 39, 3) := by decide +kernel
theorem dX12_bound_5 : decode cX12_bound 5 = .ok (.aload_n 0, 1) := by decide +kernel
theorem dX12_bound_6 : decode cX12_bound 6 = .ok (.getfield 7, 3) := by decide +kernel
theorem dX12_bound_9 : decode cX12_bound 9 = .ok (.bipush 6, 2) := by decide +kernel
theorem dX12_bound_11 : decode cX12_bound 11 = .ok (.iload_n 1, 1) := by decide +kernel
theorem dX12_bound_12 : decode cX12_bound 12 = .ok (.imul, 1) := by decide +kernel
theorem dX12_bound_13 : decode cX12_bound 13 = .ok (.iload_n 3, 1) := by decide +kernel
theorem dX12_bound_14 : decode cX12_bound 14 = .ok (.iadd, 1) := by decide +kernel
theorem dX12_bound_15 : decode cX12_bound 15 = .ok (.baload, 1) := by decide +kernel
theorem dX12_bound_16 : decode cX12_bound 16 = .ok (.ifCond .eq 21, 3) := by decide +kernel
theorem dX12_bound_19 : decode cX12_bound 19 = .ok (.aload_n 0, 1) := by decide +kernel
theorem dX12_bound_20 : decode cX12_bound 20 = .ok (.getfield 7, 3) := by decide +kernel
theorem dX12_bound_23 : decode cX12_bound 23 = .ok (.bipush 6, 2) := by decide +kernel
theorem dX12_bound_25 : decode cX12_bound 25 = .ok (.iload_n 2, 1) := by decide +kernel
theorem dX12_bound_26 : decode cX12_bound 26 = .ok (.imul, 1) := by decide +kernel
theorem dX12_bound_27 : decode cX12_bound 27 = .ok (.iload_n 3, 1) := by decide +kernel
theorem dX12_bound_28 : decode cX12_bound 28 = .ok (.iadd, 1) := by decide +kernel
theorem dX12_bound_29 : decode cX12_bound 29 = .ok (.baload, 1) := by decide +kernel
theorem dX12_bound_30 : decode cX12_bound 30 = .ok (.ifCond .eq 7, 3) := by decide +kernel
theorem dX12_bound_33 : decode cX12_bound 33 = .ok (.iconst 1, 1) := by decide +kernel
theorem dX12_bound_34 : decode cX12_bound 34 = .ok (.goto 40, 3) := by decide +kernel
theorem dX12_bound_37 : decode cX12_bound 37 = .ok (.iconst 0, 1) := by decide +kernel
theorem dX12_bound_38 : decode cX12_bound 38 = .ok (.goto 36, 3) := by decide +kernel
theorem dX12_bound_41 : decode cX12_bound 41 = .ok (.aload_n 0, 1) := by decide +kernel
theorem dX12_bound_42 : decode cX12_bound 42 = .ok (.getfield 7, 3) := by decide +kernel
theorem dX12_bound_45 : decode cX12_bound 45 = .ok (.bipush 6, 2) := by decide +kernel
theorem dX12_bound_47 : decode cX12_bound 47 = .ok (.iload_n 3, 1) := by decide +kernel
theorem dX12_bound_48 : decode cX12_bound 48 = .ok (.imul, 1) := by decide +kernel
theorem dX12_bound_49 : decode cX12_bound 49 = .ok (.iload_n 1, 1) := by decide +kernel
theorem dX12_bound_50 : decode cX12_bound 50 = .ok (.iadd, 1) := by decide +kernel
theorem dX12_bound_51 : decode cX12_bound 51 = .ok (.baload, 1) := by decide +kernel
theorem dX12_bound_52 : decode cX12_bound 52 = .ok (.ifCond .eq 21, 3) := by decide +kernel
theorem dX12_bound_55 : decode cX12_bound 55 = .ok (.aload_n 0, 1) := by decide +kernel
theorem dX12_bound_56 : decode cX12_bound 56 = .ok (.getfield 7, 3) := by decide +kernel
theorem dX12_bound_59 : decode cX12_bound 59 = .ok (.bipush 6, 2) := by decide +kernel
theorem dX12_bound_61 : decode cX12_bound 61 = .ok (.iload_n 3, 1) := by decide +kernel
theorem dX12_bound_62 : decode cX12_bound 62 = .ok (.imul, 1) := by decide +kernel
theorem dX12_bound_63 : decode cX12_bound 63 = .ok (.iload_n 2, 1) := by decide +kernel
theorem dX12_bound_64 : decode cX12_bound 64 = .ok (.iadd, 1) := by decide +kernel
theorem dX12_bound_65 : decode cX12_bound 65 = .ok (.baload, 1) := by decide +kernel
theorem dX12_bound_66 : decode cX12_bound 66 = .ok (.ifCond .eq 7, 3) := by decide +kernel
theorem dX12_bound_69 : decode cX12_bound 69 = .ok (.iconst 1, 1) := by decide +kernel
theorem dX12_bound_70 : decode cX12_bound 70 = .ok (.goto 4, 3) := by decide +kernel
theorem dX12_bound_73 : decode cX12_bound 73 = .ok (.iconst 0, 1) := by decide +kernel
theorem dX12_bound_74 : decode cX12_bound 74 = .ok (.ireturn, 1) := by decide +kernel
theorem dX12_nearest_0 : decode cX12_nearest 0 = .ok (.iconst 0, 1) := by decide +kernel
theorem dX12_nearest_1 : decode cX12_nearest 1 = .ok (.istore 4, 2) := by decide +kernel
theorem dX12_nearest_3 : decode cX12_nearest 3 = .ok (.iload 4, 2) := by decide +kernel
theorem dX12_nearest_5 : decode cX12_nearest 5 = .ok (.aload_n 0, 1) := by decide +kernel
theorem dX12_nearest_6 : decode cX12_nearest 6 = .ok (.getfield 180, 3) := by decide +kernel
theorem dX12_nearest_9 : decode cX12_nearest 9 = .ok (.if_icmp .ge 107, 3) := by decide +kernel
theorem dX12_nearest_12 : decode cX12_nearest 12 = .ok (.aload_n 0, 1) := by decide +kernel
theorem dX12_nearest_13 : decode cX12_nearest 13 = .ok (.iload_n 1, 1) := by decide +kernel
theorem dX12_nearest_14 : decode cX12_nearest 14 = .ok (.iload_n 2, 1) := by decide +kernel
theorem dX12_nearest_15 : decode cX12_nearest 15 = .ok (.iload 4, 2) := by decide +kernel
theorem dX12_nearest_17 : decode cX12_nearest 17 = .ok (.iload_n 3, 1) := by decide +kernel
theorem dX12_nearest_18 : decode cX12_nearest 18 = .ok (.invokevirtual 198, 3) := by decide +kernel
theorem dX12_nearest_21 : decode cX12_nearest 21 = .ok (.ifCond .ne 6, 3) := by decide +kernel
theorem dX12_nearest_24 : decode cX12_nearest 24 = .ok (.goto 86, 3) := by decide +kernel
theorem dX12_nearest_27 : decode cX12_nearest 27 = .ok (.iconst 1, 1) := by decide +kernel
theorem dX12_nearest_28 : decode cX12_nearest 28 = .ok (.istore 5, 2) := by decide +kernel
theorem dX12_nearest_30 : decode cX12_nearest 30 = .ok (.iconst 0, 1) := by decide +kernel
theorem dX12_nearest_31 : decode cX12_nearest 31 = .ok (.istore 6, 2) := by decide +kernel
theorem dX12_nearest_33 : decode cX12_nearest 33 = .ok (.iload 6, 2) := by decide +kernel
theorem dX12_nearest_35 : decode cX12_nearest 35 = .ok (.aload_n 0, 1) := by decide +kernel
theorem dX12_nearest_36 : decode cX12_nearest 36 = .ok (.getfield 180, 3) := by decide +kernel
theorem dX12_nearest_39 : decode cX12_nearest 39 = .ok (.if_icmp .ge 63, 3) := by decide +kernel
theorem dX12_nearest_42 : decode cX12_nearest 42 = .ok (.aload_n 0, 1) := by decide +kernel
theorem dX12_nearest_43 : decode cX12_nearest 43 = .ok (.iload_n 1, 1) := by decide +kernel
theorem dX12_nearest_44 : decode cX12_nearest 44 = .ok (.iload_n 2, 1) := by decide +kernel
theorem dX12_nearest_45 : decode cX12_nearest 45 = .ok (.iload 6, 2) := by decide +kernel
theorem dX12_nearest_47 : decode cX12_nearest 47 = .ok (.iload_n 3, 1) := by decide +kernel
theorem dX12_nearest_48 : decode cX12_nearest 48 = .ok (.invokevirtual 198, 3) := by decide +kernel
theorem dX12_nearest_51 : decode cX12_nearest 51 = .ok (.ifCond .eq 45, 3) := by decide +kernel
theorem dX12_nearest_54 : decode cX12_nearest 54 = .ok (.iload_n 3, 1) := by decide +kernel
theorem dX12_nearest_55 : decode cX12_nearest 55 = .ok (.ifCond .eq 22, 3) := by decide +kernel
theorem dX12_nearest_58 : decode cX12_nearest 58 = .ok (.aload_n 0, 1) := by decide +kernel
theorem dX12_nearest_59 : decode cX12_nearest 59 = .ok (.getfield 7, 3) := by decide +kernel
theorem dX12_nearest_62 : decode cX12_nearest 62 = .ok (.bipush 6, 2) := by decide +kernel
theorem dX12_nearest_64 : decode cX12_nearest 64 = .ok (.iload 4, 2) := by decide +kernel
theorem dX12_nearest_66 : decode cX12_nearest 66 = .ok (.imul, 1) := by decide +kernel
theorem dX12_nearest_67 : decode cX12_nearest 67 = .ok (.iload 6, 2) := by decide +kernel
theorem dX12_nearest_69 : decode cX12_nearest 69 = .ok (.iadd, 1) := by decide +kernel
theorem dX12_nearest_70 : decode cX12_nearest 70 = .ok (.baload, 1) := by decide +kernel
theorem dX12_nearest_71 : decode cX12_nearest 71 = .ok (.ifCond .eq 22, 3) := by decide +kernel
theorem dX12_nearest_74 : decode cX12_nearest 74 = .ok (.goto 22, 3) := by decide +kernel
theorem dX12_nearest_77 : decode cX12_nearest 77 = .ok (.aload_n 0, 1) := by decide +kernel
theorem dX12_nearest_78 : decode cX12_nearest 78 = .ok (.getfield 7, 3) := by decide +kernel
theorem dX12_nearest_81 : decode cX12_nearest 81 = .ok (.bipush 6, 2) := by decide +kernel
theorem dX12_nearest_83 : decode cX12_nearest 83 = .ok (.iload 6, 2) := by decide +kernel
theorem dX12_nearest_85 : decode cX12_nearest 85 = .ok (.imul, 1) := by decide +kernel
theorem dX12_nearest_86 : decode cX12_nearest 86 = .ok (.iload 4, 2) := by decide +kernel
theorem dX12_nearest_88 : decode cX12_nearest 88 = .ok (.iadd, 1) := by decide +kernel
theorem dX12_nearest_89 : decode cX12_nearest 89 = .ok (.baload, 1) := by decide +kernel
theorem dX12_nearest_90 : decode cX12_nearest 90 = .ok (.ifCond .ne 6, 3) := by decide +kernel
theorem dX12_nearest_93 : decode cX12_nearest 93 = .ok (.iconst 0, 1) := by decide +kernel
theorem dX12_nearest_94 : decode cX12_nearest 94 = .ok (.istore 5, 2) := by decide +kernel
theorem dX12_nearest_96 : decode cX12_nearest 96 = .ok (.iinc 6 1, 3) := by decide +kernel
theorem dX12_nearest_99 : decode cX12_nearest 99 = .ok (.goto (-66), 3) := by decide +kernel
theorem dX12_nearest_102 : decode cX12_nearest 102 = .ok (.iload 5, 2) := by decide +kernel
theorem dX12_nearest_104 : decode cX12_nearest 104 = .ok (.ifCond .eq 6, 3) := by decide +kernel
theorem dX12_nearest_107 : decode cX12_nearest 107 = .ok (.iload 4, 2) := by decide +kernel
theorem dX12_nearest_109 : decode cX12_nearest 109 = .ok (.ireturn, 1) := by decide +kernel
theorem dX12_nearest_110 : decode cX12_nearest 110 = .ok (.iinc 4 1, 3) := by decide +kernel
theorem dX12_nearest_113 : decode cX12_nearest 113 = .ok (.goto (-110), 3) := by decide +kernel
theorem dX12_nearest_116 : decode cX12_nearest 116 = .ok (.iconst (-1), 1) := by decide +kernel
theorem dX12_nearest_117 : decode cX12_nearest 117 = .ok (.ireturn, 1) := by decide +kernel
theorem dX12_refuse_0 : decode cX12_refuse 0 = .ok (.aload_n 0, 1) := by decide +kernel
theorem dX12_refuse_1 : decode cX12_refuse 1 = .ok (.iload_n 1, 1) := by decide +kernel
theorem dX12_refuse_2 : decode cX12_refuse 2 = .ok (.putfield 20, 3) := by decide +kernel
theorem dX12_refuse_5 : decode cX12_refuse 5 = .ok (.aload_n 0, 1) := by decide +kernel
theorem dX12_refuse_6 : decode cX12_refuse 6 = .ok (.iload_n 2, 1) := by decide +kernel
theorem dX12_refuse_7 : decode cX12_refuse 7 = .ok (.putfield 24, 3) := by decide +kernel
theorem dX12_refuse_10 : decode cX12_refuse 10 = .ok (.aload_n 0, 1) := by decide +kernel
theorem dX12_refuse_11 : decode cX12_refuse 11 = .ok (.iload_n 3, 1) := by decide +kernel
theorem dX12_refuse_12 : decode cX12_refuse 12 = .ok (.invokevirtual 190, 3) := by decide +kernel
theorem dX12_refuse_15 : decode cX12_refuse 15 = .ok (.ireturn, 1) := by decide +kernel
theorem dX12_seal_0 : decode cX12_seal 0 = .ok (.aload_n 0, 1) := by decide +kernel
theorem dX12_seal_1 : decode cX12_seal 1 = .ok (.iconst 0, 1) := by decide +kernel
theorem dX12_seal_2 : decode cX12_seal 2 = .ok (.putfield 183, 3) := by decide +kernel
theorem dX12_seal_5 : decode cX12_seal 5 = .ok (.aload_n 0, 1) := by decide +kernel
theorem dX12_seal_6 : decode cX12_seal 6 = .ok (.getfield 194, 3) := by decide +kernel
theorem dX12_seal_9 : decode cX12_seal 9 = .ok (.ifCond .eq 9, 3) := by decide +kernel
theorem dX12_seal_12 : decode cX12_seal 12 = .ok (.aload_n 0, 1) := by decide +kernel
theorem dX12_seal_13 : decode cX12_seal 13 = .ok (.iconst 1, 1) := by decide +kernel
theorem dX12_seal_14 : decode cX12_seal 14 = .ok (.invokevirtual 190, 3) := by decide +kernel
theorem dX12_seal_17 : decode cX12_seal 17 = .ok (.ireturn, 1) := by decide +kernel
theorem dX12_seal_18 : decode cX12_seal 18 = .ok (.iconst 0, 1) := by decide +kernel
theorem dX12_seal_19 : decode cX12_seal 19 = .ok (.istore_n 1, 1) := by decide +kernel
theorem dX12_seal_20 : decode cX12_seal 20 = .ok (.iload_n 1, 1) := by decide +kernel
theorem dX12_seal_21 : decode cX12_seal 21 = .ok (.iconst 2, 1) := by decide +kernel
theorem dX12_seal_22 : decode cX12_seal 22 = .ok (.if_icmp .ge 129, 3) := by decide +kernel
theorem dX12_seal_25 : decode cX12_seal 25 = .ok (.iconst 0, 1) := by decide +kernel
theorem dX12_seal_26 : decode cX12_seal 26 = .ok (.istore_n 2, 1) := by decide +kernel
theorem dX12_seal_27 : decode cX12_seal 27 = .ok (.iload_n 2, 1) := by decide +kernel
theorem dX12_seal_28 : decode cX12_seal 28 = .ok (.aload_n 0, 1) := by decide +kernel
theorem dX12_seal_29 : decode cX12_seal 29 = .ok (.getfield 180, 3) := by decide +kernel
theorem dX12_seal_32 : decode cX12_seal 32 = .ok (.if_icmp .ge 113, 3) := by decide +kernel
theorem dX12_seal_35 : decode cX12_seal 35 = .ok (.iload_n 2, 1) := by decide +kernel
theorem dX12_seal_36 : decode cX12_seal 36 = .ok (.iconst 1, 1) := by decide +kernel
theorem dX12_seal_37 : decode cX12_seal 37 = .ok (.iadd, 1) := by decide +kernel
theorem dX12_seal_38 : decode cX12_seal 38 = .ok (.istore_n 3, 1) := by decide +kernel
theorem dX12_seal_39 : decode cX12_seal 39 = .ok (.iload_n 3, 1) := by decide +kernel
theorem dX12_seal_40 : decode cX12_seal 40 = .ok (.aload_n 0, 1) := by decide +kernel
theorem dX12_seal_41 : decode cX12_seal 41 = .ok (.getfield 180, 3) := by decide +kernel
theorem dX12_seal_44 : decode cX12_seal 44 = .ok (.if_icmp .ge 95, 3) := by decide +kernel
theorem dX12_seal_47 : decode cX12_seal 47 = .ok (.iload_n 1, 1) := by decide +kernel
theorem dX12_seal_48 : decode cX12_seal 48 = .ok (.ifCond .ne 39, 3) := by decide +kernel
theorem dX12_seal_51 : decode cX12_seal 51 = .ok (.aload_n 0, 1) := by decide +kernel
theorem dX12_seal_52 : decode cX12_seal 52 = .ok (.getfield 7, 3) := by decide +kernel
theorem dX12_seal_55 : decode cX12_seal 55 = .ok (.bipush 6, 2) := by decide +kernel
theorem dX12_seal_57 : decode cX12_seal 57 = .ok (.iload_n 2, 1) := by decide +kernel
theorem dX12_seal_58 : decode cX12_seal 58 = .ok (.imul, 1) := by decide +kernel
theorem dX12_seal_59 : decode cX12_seal 59 = .ok (.iload_n 3, 1) := by decide +kernel
theorem dX12_seal_60 : decode cX12_seal 60 = .ok (.iadd, 1) := by decide +kernel
theorem dX12_seal_61 : decode cX12_seal 61 = .ok (.baload, 1) := by decide +kernel
theorem dX12_seal_62 : decode cX12_seal 62 = .ok (.ifCond .eq 21, 3) := by decide +kernel
theorem dX12_seal_65 : decode cX12_seal 65 = .ok (.aload_n 0, 1) := by decide +kernel
theorem dX12_seal_66 : decode cX12_seal 66 = .ok (.getfield 7, 3) := by decide +kernel
theorem dX12_seal_69 : decode cX12_seal 69 = .ok (.bipush 6, 2) := by decide +kernel
theorem dX12_seal_71 : decode cX12_seal 71 = .ok (.iload_n 3, 1) := by decide +kernel
theorem dX12_seal_72 : decode cX12_seal 72 = .ok (.imul, 1) := by decide +kernel
theorem dX12_seal_73 : decode cX12_seal 73 = .ok (.iload_n 2, 1) := by decide +kernel
theorem dX12_seal_74 : decode cX12_seal 74 = .ok (.iadd, 1) := by decide +kernel
theorem dX12_seal_75 : decode cX12_seal 75 = .ok (.baload, 1) := by decide +kernel
theorem dX12_seal_76 : decode cX12_seal 76 = .ok (.ifCond .eq 7, 3) := by decide +kernel
theorem dX12_seal_79 : decode cX12_seal 79 = .ok (.iconst 1, 1) := by decide +kernel
theorem dX12_seal_80 : decode cX12_seal 80 = .ok (.goto 32, 3) := by decide +kernel
theorem dX12_seal_83 : decode cX12_seal 83 = .ok (.iconst 0, 1) := by decide +kernel
theorem dX12_seal_84 : decode cX12_seal 84 = .ok (.goto 28, 3) := by decide +kernel
theorem dX12_seal_87 : decode cX12_seal 87 = .ok (.aload_n 0, 1) := by decide +kernel
theorem dX12_seal_88 : decode cX12_seal 88 = .ok (.iload_n 2, 1) := by decide +kernel
theorem dX12_seal_89 : decode cX12_seal 89 = .ok (.iload_n 3, 1) := by decide +kernel
theorem dX12_seal_90 : decode cX12_seal 90 = .ok (.iconst 1, 1) := by decide +kernel
theorem dX12_seal_91 : decode cX12_seal 91 = .ok (.invokevirtual 202, 3) := by decide +kernel
theorem dX12_seal_94 : decode cX12_seal 94 = .ok (.ifCond .lt 13, 3) := by decide +kernel
theorem dX12_seal_97 : decode cX12_seal 97 = .ok (.aload_n 0, 1) := by decide +kernel
theorem dX12_seal_98 : decode cX12_seal 98 = .ok (.iload_n 2, 1) := by decide +kernel
theorem dX12_seal_99 : decode cX12_seal 99 = .ok (.iload_n 3, 1) := by decide +kernel
theorem dX12_seal_100 : decode cX12_seal 100 = .ok (.iconst 0, 1) := by decide +kernel
theorem dX12_seal_101 : decode cX12_seal 101 = .ok (.invokevirtual 202, 3) := by decide +kernel
theorem dX12_seal_104 : decode cX12_seal 104 = .ok (.ifCond .ge 7, 3) := by decide +kernel
theorem dX12_seal_107 : decode cX12_seal 107 = .ok (.iconst 1, 1) := by decide +kernel
theorem dX12_seal_108 : decode cX12_seal 108 = .ok (.goto 4, 3) := by decide +kernel
theorem dX12_seal_111 : decode cX12_seal 111 = .ok (.iconst 0, 1) := by decide +kernel
theorem dX12_seal_112 : decode cX12_seal 112 = .ok (.istore 4, 2) := by decide +kernel
theorem dX12_seal_114 : decode cX12_seal 114 = .ok (.iload 4, 2) := by decide +kernel
theorem dX12_seal_116 : decode cX12_seal 116 = .ok (.ifCond .eq 17, 3) := by decide +kernel
theorem dX12_seal_119 : decode cX12_seal 119 = .ok (.aload_n 0, 1) := by decide +kernel
theorem dX12_seal_120 : decode cX12_seal 120 = .ok (.bipush 10, 2) := by decide +kernel
theorem dX12_seal_122 : decode cX12_seal 122 = .ok (.iload_n 2, 1) := by decide +kernel
theorem dX12_seal_123 : decode cX12_seal 123 = .ok (.imul, 1) := by decide +kernel
theorem dX12_seal_124 : decode cX12_seal 124 = .ok (.iload_n 3, 1) := by decide +kernel
theorem dX12_seal_125 : decode cX12_seal 125 = .ok (.iadd, 1) := by decide +kernel
theorem dX12_seal_126 : decode cX12_seal 126 = .ok (.bipush 7, 2) := by decide +kernel
theorem dX12_seal_128 : decode cX12_seal 128 = .ok (.iconst 2, 1) := by decide +kernel
theorem dX12_seal_129 : decode cX12_seal 129 = .ok (.invokevirtual 206, 3) := by decide +kernel
theorem dX12_seal_132 : decode cX12_seal 132 = .ok (.ireturn, 1) := by decide +kernel
theorem dX12_seal_133 : decode cX12_seal 133 = .ok (.iinc 3 1, 3) := by decide +kernel
theorem dX12_seal_136 : decode cX12_seal 136 = .ok (.goto (-97), 3) := by decide +kernel
theorem dX12_seal_139 : decode cX12_seal 139 = .ok (.iinc 2 1, 3) := by decide +kernel
theorem dX12_seal_142 : decode cX12_seal 142 = .ok (.goto (-115), 3) := by decide +kernel
theorem dX12_seal_145 : decode cX12_seal 145 = .ok (.iinc 1 1, 3) := by decide +kernel
theorem dX12_seal_148 : decode cX12_seal 148 = .ok (.goto (-128), 3) := by decide +kernel
theorem dX12_seal_151 : decode cX12_seal 151 = .ok (.iconst 0, 1) := by decide +kernel
theorem dX12_seal_152 : decode cX12_seal 152 = .ok (.istore_n 1, 1) := by decide +kernel
theorem dX12_seal_153 : decode cX12_seal 153 = .ok (.iload_n 1, 1) := by decide +kernel
theorem dX12_seal_154 : decode cX12_seal 154 = .ok (.bipush 36, 2) := by decide +kernel
theorem dX12_seal_156 : decode cX12_seal 156 = .ok (.if_icmp .ge 47, 3) := by decide +kernel
theorem dX12_seal_159 : decode cX12_seal 159 = .ok (.aload_n 0, 1) := by decide +kernel
theorem dX12_seal_160 : decode cX12_seal 160 = .ok (.getfield 13, 3) := by decide +kernel
theorem dX12_seal_163 : decode cX12_seal 163 = .ok (.iload_n 1, 1) := by decide +kernel
theorem dX12_seal_164 : decode cX12_seal 164 = .ok (.aload_n 0, 1) := by decide +kernel
theorem dX12_seal_165 : decode cX12_seal 165 = .ok (.iload_n 1, 1) := by decide +kernel
theorem dX12_seal_166 : decode cX12_seal 166 = .ok (.bipush 6, 2) := by decide +kernel
theorem dX12_seal_168 : decode cX12_seal 168 = .ok (.idiv, 1) := by decide +kernel
theorem dX12_seal_169 : decode cX12_seal 169 = .ok (.iload_n 1, 1) := by decide +kernel
theorem dX12_seal_170 : decode cX12_seal 170 = .ok (.bipush 6, 2) := by decide +kernel
theorem dX12_seal_172 : decode cX12_seal 172 = .ok (.irem, 1) := by decide +kernel
theorem dX12_seal_173 : decode cX12_seal 173 = .ok (.iconst 1, 1) := by decide +kernel
theorem dX12_seal_174 : decode cX12_seal 174 = .ok (.invokevirtual 202, 3) := by decide +kernel
theorem dX12_seal_177 : decode cX12_seal 177 = .ok (.iastore, 1) := by decide +kernel
theorem dX12_seal_178 : decode cX12_seal 178 = .ok (.aload_n 0, 1) := by decide +kernel
theorem dX12_seal_179 : decode cX12_seal 179 = .ok (.getfield 17, 3) := by decide +kernel
theorem dX12_seal_182 : decode cX12_seal 182 = .ok (.iload_n 1, 1) := by decide +kernel
theorem dX12_seal_183 : decode cX12_seal 183 = .ok (.aload_n 0, 1) := by decide +kernel
theorem dX12_seal_184 : decode cX12_seal 184 = .ok (.iload_n 1, 1) := by decide +kernel
theorem dX12_seal_185 : decode cX12_seal 185 = .ok (.bipush 6, 2) := by decide +kernel
theorem dX12_seal_187 : decode cX12_seal 187 = .ok (.idiv, 1) := by decide +kernel
theorem dX12_seal_188 : decode cX12_seal 188 = .ok (.iload_n 1, 1) := by decide +kernel
theorem dX12_seal_189 : decode cX12_seal 189 = .ok (.bipush 6, 2) := by decide +kernel
theorem dX12_seal_191 : decode cX12_seal 191 = .ok (.irem, 1) := by decide +kernel
theorem dX12_seal_192 : decode cX12_seal 192 = .ok (.iconst 0, 1) := by decide +kernel
theorem dX12_seal_193 : decode cX12_seal 193 = .ok (.invokevirtual 202, 3) := by decide +kernel
theorem dX12_seal_196 : decode cX12_seal 196 = .ok (.iastore, 1) := by decide +kernel
theorem dX12_seal_197 : decode cX12_seal 197 = .ok (.iinc 1 1, 3) := by decide +kernel
theorem dX12_seal_200 : decode cX12_seal 200 = .ok (.goto (-47), 3) := by decide +kernel
theorem dX12_seal_203 : decode cX12_seal 203 = .ok (.aload_n 0, 1) := by decide +kernel
theorem dX12_seal_204 : decode cX12_seal 204 = .ok (.iconst 0, 1) := by decide +kernel
theorem dX12_seal_205 : decode cX12_seal 205 = .ok (.putfield 210, 3) := by decide +kernel
theorem dX12_seal_208 : decode cX12_seal 208 = .ok (.iconst 0, 1) := by decide +kernel
theorem dX12_seal_209 : decode cX12_seal 209 = .ok (.istore_n 1, 1) := by decide +kernel
theorem dX12_seal_210 : decode cX12_seal 210 = .ok (.iload_n 1, 1) := by decide +kernel
theorem dX12_seal_211 : decode cX12_seal 211 = .ok (.aload_n 0, 1) := by decide +kernel
theorem dX12_seal_212 : decode cX12_seal 212 = .ok (.getfield 180, 3) := by decide +kernel
theorem dX12_seal_215 : decode cX12_seal 215 = .ok (.if_icmp .ge 27, 3) := by decide +kernel
theorem dX12_seal_218 : decode cX12_seal 218 = .ok (.aload_n 0, 1) := by decide +kernel
theorem dX12_seal_219 : decode cX12_seal 219 = .ok (.aload_n 0, 1) := by decide +kernel
theorem dX12_seal_220 : decode cX12_seal 220 = .ok (.getfield 17, 3) := by decide +kernel
theorem dX12_seal_223 : decode cX12_seal 223 = .ok (.bipush 6, 2) := by decide +kernel
theorem dX12_seal_225 : decode cX12_seal 225 = .ok (.aload_n 0, 1) := by decide +kernel
theorem dX12_seal_226 : decode cX12_seal 226 = .ok (.getfield 210, 3) := by decide +kernel
theorem dX12_seal_229 : decode cX12_seal 229 = .ok (.imul, 1) := by decide +kernel
theorem dX12_seal_230 : decode cX12_seal 230 = .ok (.iload_n 1, 1) := by decide +kernel
theorem dX12_seal_231 : decode cX12_seal 231 = .ok (.iadd, 1) := by decide +kernel
theorem dX12_seal_232 : decode cX12_seal 232 = .ok (.iaload, 1) := by decide +kernel
theorem dX12_seal_233 : decode cX12_seal 233 = .ok (.putfield 210, 3) := by decide +kernel
theorem dX12_seal_236 : decode cX12_seal 236 = .ok (.iinc 1 1, 3) := by decide +kernel
theorem dX12_seal_239 : decode cX12_seal 239 = .ok (.goto (-29), 3) := by decide +kernel
theorem dX12_seal_242 : decode cX12_seal 242 = .ok (.aload_n 0, 1) := by decide +kernel
theorem dX12_seal_243 : decode cX12_seal 243 = .ok (.iconst 1, 1) := by decide +kernel
theorem dX12_seal_244 : decode cX12_seal 244 = .ok (.putfield 194, 3) := by decide +kernel
theorem dX12_seal_247 : decode cX12_seal 247 = .ok (.aload_n 0, 1) := by decide +kernel
theorem dX12_seal_248 : decode cX12_seal 248 = .ok (.iconst (-1), 1) := by decide +kernel
theorem dX12_seal_249 : decode cX12_seal 249 = .ok (.putfield 20, 3) := by decide +kernel
theorem dX12_seal_252 : decode cX12_seal 252 = .ok (.aload_n 0, 1) := by decide +kernel
theorem dX12_seal_253 : decode cX12_seal 253 = .ok (.iconst (-1), 1) := by decide +kernel
theorem dX12_seal_254 : decode cX12_seal 254 = .ok (.putfield 24, 3) := by decide +kernel
theorem dX12_seal_257 : decode cX12_seal 257 = .ok (.aload_n 0, 1) := by decide +kernel
theorem dX12_seal_258 : decode cX12_seal 258 = .ok (.getfield 210, 3) := by decide +kernel
theorem dX12_seal_261 : decode cX12_seal 261 = .ok (.ireturn, 1) := by decide +kernel
theorem dX12_label_0 : decode cX12_label 0 = .ok (.aload_n 0, 1) := by decide +kernel
theorem dX12_label_1 : decode cX12_label 1 = .ok (.iconst 0, 1) := by decide +kernel
theorem dX12_label_2 : decode cX12_label 2 = .ok (.putfield 183, 3) := by decide +kernel
theorem dX12_label_5 : decode cX12_label 5 = .ok (.aload_n 0, 1) := by decide +kernel
theorem dX12_label_6 : decode cX12_label 6 = .ok (.iload_n 1, 1) := by decide +kernel
theorem dX12_label_7 : decode cX12_label 7 = .ok (.iconst 3, 1) := by decide +kernel
theorem dX12_label_8 : decode cX12_label 8 = .ok (.invokevirtual 186, 3) := by decide +kernel
theorem dX12_label_11 : decode cX12_label 11 = .ok (.ifCond .ne 27, 3) := by decide +kernel
theorem dX12_label_14 : decode cX12_label 14 = .ok (.aload_n 0, 1) := by decide +kernel
theorem dX12_label_15 : decode cX12_label 15 = .ok (.iload_n 2, 1) := by decide +kernel
theorem dX12_label_16 : decode cX12_label 16 = .ok (.aload_n 0, 1) := by decide +kernel
theorem dX12_label_17 : decode cX12_label 17 = .ok (.getfield 180, 3) := by decide +kernel
theorem dX12_label_20 : decode cX12_label 20 = .ok (.invokevirtual 186, 3) := by decide +kernel
theorem dX12_label_23 : decode cX12_label 23 = .ok (.ifCond .ne 15, 3) := by decide +kernel
theorem dX12_label_26 : decode cX12_label 26 = .ok (.aload_n 0, 1) := by decide +kernel
theorem dX12_label_27 : decode cX12_label 27 = .ok (.iload_n 3, 1) := by decide +kernel
theorem dX12_label_28 : decode cX12_label 28 = .ok (.aload_n 0, 1) := by decide +kernel
theorem dX12_label_29 : decode cX12_label 29 = .ok (.getfield 180, 3) := by decide +kernel
theorem dX12_label_32 : decode cX12_label 32 = .ok (.invokevirtual 186, 3) := by decide +kernel
theorem dX12_label_35 : decode cX12_label 35 = .ok (.ifCond .eq 9, 3) := by decide +kernel
theorem dX12_label_38 : decode cX12_label 38 = .ok (.aload_n 0, 1) := by decide +kernel
theorem dX12_label_39 : decode cX12_label 39 = .ok (.iconst 1, 1) := by decide +kernel
theorem dX12_label_40 : decode cX12_label 40 = .ok (.invokevirtual 190, 3) := by decide +kernel
theorem dX12_label_43 : decode cX12_label 43 = .ok (.ireturn, 1) := by decide +kernel
theorem dX12_label_44 : decode cX12_label 44 = .ok (.iload_n 1, 1) := by decide +kernel
theorem dX12_label_45 : decode cX12_label 45 = .ok (.ifCond .ne 23, 3) := by decide +kernel
theorem dX12_label_48 : decode cX12_label 48 = .ok (.aload_n 0, 1) := by decide +kernel
theorem dX12_label_49 : decode cX12_label 49 = .ok (.getfield 7, 3) := by decide +kernel
theorem dX12_label_52 : decode cX12_label 52 = .ok (.bipush 6, 2) := by decide +kernel
theorem dX12_label_54 : decode cX12_label 54 = .ok (.iload_n 2, 1) := by decide +kernel
theorem dX12_label_55 : decode cX12_label 55 = .ok (.imul, 1) := by decide +kernel
theorem dX12_label_56 : decode cX12_label 56 = .ok (.iload_n 3, 1) := by decide +kernel
theorem dX12_label_57 : decode cX12_label 57 = .ok (.iadd, 1) := by decide +kernel
theorem dX12_label_58 : decode cX12_label 58 = .ok (.baload, 1) := by decide +kernel
theorem dX12_label_59 : decode cX12_label 59 = .ok (.ifCond .eq 7, 3) := by decide +kernel
theorem dX12_label_62 : decode cX12_label 62 = .ok (.iconst 1, 1) := by decide +kernel
theorem dX12_label_63 : decode cX12_label 63 = .ok (.goto 4, 3) := by decide +kernel
theorem dX12_label_66 : decode cX12_label 66 = .ok (.iconst 0, 1) := by decide +kernel
theorem dX12_label_67 : decode cX12_label 67 = .ok (.ireturn, 1) := by decide +kernel
theorem dX12_label_68 : decode cX12_label 68 = .ok (.aload_n 0, 1) := by decide +kernel
theorem dX12_label_69 : decode cX12_label 69 = .ok (.getfield 194, 3) := by decide +kernel
theorem dX12_label_72 : decode cX12_label 72 = .ok (.ifCond .ne 9, 3) := by decide +kernel
theorem dX12_label_75 : decode cX12_label 75 = .ok (.aload_n 0, 1) := by decide +kernel
theorem dX12_label_76 : decode cX12_label 76 = .ok (.iconst 2, 1) := by decide +kernel
theorem dX12_label_77 : decode cX12_label 77 = .ok (.invokevirtual 190, 3) := by decide +kernel
theorem dX12_label_80 : decode cX12_label 80 = .ok (.ireturn, 1) := by decide +kernel
theorem dX12_label_81 : decode cX12_label 81 = .ok (.iload_n 1, 1) := by decide +kernel
theorem dX12_label_82 : decode cX12_label 82 = .ok (.iconst 1, 1) := by decide +kernel
theorem dX12_label_83 : decode cX12_label 83 = .ok (.if_icmp .ne 17, 3) := by decide +kernel
theorem dX12_label_86 : decode cX12_label 86 = .ok (.aload_n 0, 1) := by decide +kernel
theorem dX12_label_87 : decode cX12_label 87 = .ok (.getfield 13, 3) := by decide +kernel
theorem dX12_label_90 : decode cX12_label 90 = .ok (.bipush 6, 2) := by decide +kernel
theorem dX12_label_92 : decode cX12_label 92 = .ok (.iload_n 2, 1) := by decide +kernel
theorem dX12_label_93 : decode cX12_label 93 = .ok (.imul, 1) := by decide +kernel
theorem dX12_label_94 : decode cX12_label 94 = .ok (.iload_n 3, 1) := by decide +kernel
theorem dX12_label_95 : decode cX12_label 95 = .ok (.iadd, 1) := by decide +kernel
theorem dX12_label_96 : decode cX12_label 96 = .ok (.iaload, 1) := by decide +kernel
theorem dX12_label_97 : decode cX12_label 97 = .ok (.goto 14, 3) := by decide +kernel
theorem dX12_label_100 : decode cX12_label 100 = .ok (.aload_n 0, 1) := by decide +kernel
theorem dX12_label_101 : decode cX12_label 101 = .ok (.getfield 17, 3) := by decide +kernel
theorem dX12_label_104 : decode cX12_label 104 = .ok (.bipush 6, 2) := by decide +kernel
theorem dX12_label_106 : decode cX12_label 106 = .ok (.iload_n 2, 1) := by decide +kernel
theorem dX12_label_107 : decode cX12_label 107 = .ok (.imul, 1) := by decide +kernel
theorem dX12_label_108 : decode cX12_label 108 = .ok (.iload_n 3, 1) := by decide +kernel
theorem dX12_label_109 : decode cX12_label 109 = .ok (.iadd, 1) := by decide +kernel
theorem dX12_label_110 : decode cX12_label 110 = .ok (.iaload, 1) := by decide +kernel
theorem dX12_label_111 : decode cX12_label 111 = .ok (.ireturn, 1) := by decide +kernel
theorem dX12_append_0 : decode cX12_append 0 = .ok (.aload_n 0, 1) := by decide +kernel
theorem dX12_append_1 : decode cX12_append 1 = .ok (.iconst 0, 1) := by decide +kernel
theorem dX12_append_2 : decode cX12_append 2 = .ok (.putfield 183, 3) := by decide +kernel
theorem dX12_append_5 : decode cX12_append 5 = .ok (.iload_n 3, 1) := by decide +kernel
theorem dX12_append_6 : decode cX12_append 6 = .ok (.iconst 1, 1) := by decide +kernel
theorem dX12_append_7 : decode cX12_append 7 = .ok (.if_icmp .lt 9, 3) := by decide +kernel
theorem dX12_append_10 : decode cX12_append 10 = .ok (.iload_n 3, 1) := by decide +kernel
theorem dX12_append_11 : decode cX12_append 11 = .ok (.bipush 8, 2) := by decide +kernel
theorem dX12_append_13 : decode cX12_append 13 = .ok (.if_icmp .le 9, 3) := by decide +kernel
theorem dX12_append_16 : decode cX12_append 16 = .ok (.aload_n 0, 1) := by decide +kernel
theorem dX12_append_17 : decode cX12_append 17 = .ok (.iconst 1, 1) := by decide +kernel
theorem dX12_append_18 : decode cX12_append 18 = .ok (.invokevirtual 190, 3) := by decide +kernel
theorem dX12_append_21 : decode cX12_append 21 = .ok (.ireturn, 1) := by decide +kernel
theorem dX12_append_22 : decode cX12_append 22 = .ok (.iconst 0, 1) := by decide +kernel
theorem dX12_append_23 : decode cX12_append 23 = .ok (.istore 4, 2) := by decide +kernel
theorem dX12_append_25 : decode cX12_append 25 = .ok (.iload 4, 2) := by decide +kernel
theorem dX12_append_27 : decode cX12_append 27 = .ok (.iload_n 3, 1) := by decide +kernel
theorem dX12_append_28 : decode cX12_append 28 = .ok (.if_icmp .ge 46, 3) := by decide +kernel
theorem dX12_append_31 : decode cX12_append 31 = .ok (.lload_n 1, 1) := by decide +kernel
theorem dX12_append_32 : decode cX12_append 32 = .ok (.bipush 8, 2) := by decide +kernel
theorem dX12_append_34 : decode cX12_append 34 = .ok (.iload 4, 2) := by decide +kernel
theorem dX12_append_36 : decode cX12_append 36 = .ok (.imul, 1) := by decide +kernel
theorem dX12_append_37 : decode cX12_append 37 = .ok (.lshr, 1) := by decide +kernel
theorem dX12_append_38 : decode cX12_append 38 = .ok (.ldc2_w 213, 3) := by decide +kernel
theorem dX12_append_41 : decode cX12_append 41 = .ok (.land, 1) := by decide +kernel
theorem dX12_append_42 : decode cX12_append 42 = .ok (.lstore 5, 2) := by decide +kernel
theorem dX12_append_44 : decode cX12_append 44 = .ok (.lload 5, 2) := by decide +kernel
theorem dX12_append_46 : decode cX12_append 46 = .ok (.ldc2_w 215, 3) := by decide +kernel
theorem dX12_append_49 : decode cX12_append 49 = .ok (.lcmp, 1) := by decide +kernel
theorem dX12_append_50 : decode cX12_append 50 = .ok (.ifCond .lt 12, 3) := by decide +kernel
theorem dX12_append_53 : decode cX12_append 53 = .ok (.lload 5, 2) := by decide +kernel
theorem dX12_append_55 : decode cX12_append 55 = .ok (.ldc2_w 217, 3) := by decide +kernel
theorem dX12_append_58 : decode cX12_append 58 = .ok (.lcmp, 1) := by decide +kernel
theorem dX12_append_59 : decode cX12_append 59 = .ok (.ifCond .le 9, 3) := by decide +kernel
theorem dX12_append_62 : decode cX12_append 62 = .ok (.aload_n 0, 1) := by decide +kernel
theorem dX12_append_63 : decode cX12_append 63 = .ok (.iconst 1, 1) := by decide +kernel
theorem dX12_append_64 : decode cX12_append 64 = .ok (.invokevirtual 190, 3) := by decide +kernel
theorem dX12_append_67 : decode cX12_append 67 = .ok (.ireturn, 1) := by decide +kernel
theorem dX12_append_68 : decode cX12_append 68 = .ok (.iinc 4 1, 3) := by decide +kernel
theorem dX12_append_71 : decode cX12_append 71 = .ok (.goto (-46), 3) := by decide +kernel
theorem dX12_append_74 : decode cX12_append 74 = .ok (.aload_n 0, 1) := by decide +kernel
theorem dX12_append_75 : decode cX12_append 75 = .ok (.getfield 219, 3) := by decide +kernel
theorem dX12_append_78 : decode cX12_append 78 = .ok (.iload_n 3, 1) := by decide +kernel
theorem dX12_append_79 : decode cX12_append 79 = .ok (.iadd, 1) := by decide +kernel
theorem dX12_append_80 : decode cX12_append 80 = .ok (.sipush 240, 3) := by decide +kernel
theorem dX12_append_83 : decode cX12_append 83 = .ok (.if_icmp .le 9, 3) := by decide +kernel
theorem dX12_append_86 : decode cX12_append 86 = .ok (.aload_n 0, 1) := by decide +kernel
theorem dX12_append_87 : decode cX12_append 87 = .ok (.iconst 2, 1) := by decide +kernel
theorem dX12_append_88 : decode cX12_append 88 = .ok (.invokevirtual 190, 3) := by decide +kernel
theorem dX12_append_91 : decode cX12_append 91 = .ok (.ireturn, 1) := by decide +kernel
theorem dX12_append_92 : decode cX12_append 92 = .ok (.iload_n 3, 1) := by decide +kernel
theorem dX12_append_93 : decode cX12_append 93 = .ok (.iconst 1, 1) := by decide +kernel
theorem dX12_append_94 : decode cX12_append 94 = .ok (.isub, 1) := by decide +kernel
theorem dX12_append_95 : decode cX12_append 95 = .ok (.istore 4, 2) := by decide +kernel
theorem dX12_append_97 : decode cX12_append 97 = .ok (.iload 4, 2) := by decide +kernel
theorem dX12_append_99 : decode cX12_append 99 = .ok (.ifCond .lt 40, 3) := by decide +kernel
theorem dX12_append_102 : decode cX12_append 102 = .ok (.aload_n 0, 1) := by decide +kernel
theorem dX12_append_103 : decode cX12_append 103 = .ok (.getfield 27, 3) := by decide +kernel
theorem dX12_append_106 : decode cX12_append 106 = .ok (.aload_n 0, 1) := by decide +kernel
theorem dX12_append_107 : decode cX12_append 107 = .ok (.getfield 219, 3) := by decide +kernel
theorem dX12_append_110 : decode cX12_append 110 = .ok (.lload_n 1, 1) := by decide +kernel
theorem dX12_append_111 : decode cX12_append 111 = .ok (.bipush 8, 2) := by decide +kernel
theorem dX12_append_113 : decode cX12_append 113 = .ok (.iload 4, 2) := by decide +kernel
theorem dX12_append_115 : decode cX12_append 115 = .ok (.imul, 1) := by decide +kernel
theorem dX12_append_116 : decode cX12_append 116 = .ok (.lshr, 1) := by decide +kernel
theorem dX12_append_117 : decode cX12_append 117 = .ok (.ldc2_w 213, 3) := by decide +kernel
theorem dX12_append_120 : decode cX12_append 120 = .ok (.land, 1) := by decide +kernel
theorem dX12_append_121 : decode cX12_append 121 = .ok (.l2i, 1) := by decide +kernel
theorem dX12_append_122 : decode cX12_append 122 = .ok (.iastore, 1) := by decide +kernel
theorem dX12_append_123 : decode cX12_append 123 = .ok (.aload_n 0, 1) := by decide +kernel
theorem dX12_append_124 : decode cX12_append 124 = .ok (.dup, 1) := by decide +kernel
theorem dX12_append_125 : decode cX12_append 125 = .ok (.getfield 219, 3) := by decide +kernel
theorem dX12_append_128 : decode cX12_append 128 = .ok (.iconst 1, 1) := by decide +kernel
theorem dX12_append_129 : decode cX12_append 129 = .ok (.iadd, 1) := by decide +kernel
theorem dX12_append_130 : decode cX12_append 130 = .ok (.putfield 219, 3) := by decide +kernel
theorem dX12_append_133 : decode cX12_append 133 = .ok (.iinc 4 (-1), 3) := by decide +kernel
theorem dX12_append_136 : decode cX12_append 136 = .ok (.goto (-39), 3) := by decide +kernel
theorem dX12_append_139 : decode cX12_append 139 = .ok (.aload_n 0, 1) := by decide +kernel
theorem dX12_append_140 : decode cX12_append 140 = .ok (.getfield 219, 3) := by decide +kernel
theorem dX12_append_143 : decode cX12_append 143 = .ok (.ireturn, 1) := by decide +kernel
theorem dX12_keyword_0 : decode cX12_keyword 0 = .ok (.iload_n 1, 1) := by decide +kernel
theorem dX12_keyword_1 : decode cX12_keyword 1 = .ok (.lookupswitch 105 #[(143, 102), (294, 89), (302, 96), (16052, 99), (18935, 85), (22578, 83), (176741, 91), (543203, 87), (24388997, 93)], 83) := by decide +kernel
theorem dX12_keyword_84 : decode cX12_keyword 84 = .ok (.iconst 1, 1) := by decide +kernel
theorem dX12_keyword_85 : decode cX12_keyword 85 = .ok (.ireturn, 1) := by decide +kernel
theorem dX12_keyword_86 : decode cX12_keyword 86 = .ok (.iconst 2, 1) := by decide +kernel
theorem dX12_keyword_87 : decode cX12_keyword 87 = .ok (.ireturn, 1) := by decide +kernel
theorem dX12_keyword_88 : decode cX12_keyword 88 = .ok (.iconst 3, 1) := by decide +kernel
theorem dX12_keyword_89 : decode cX12_keyword 89 = .ok (.ireturn, 1) := by decide +kernel
theorem dX12_keyword_90 : decode cX12_keyword 90 = .ok (.iconst 4, 1) := by decide +kernel
theorem dX12_keyword_91 : decode cX12_keyword 91 = .ok (.ireturn, 1) := by decide +kernel
theorem dX12_keyword_92 : decode cX12_keyword 92 = .ok (.iconst 5, 1) := by decide +kernel
theorem dX12_keyword_93 : decode cX12_keyword 93 = .ok (.ireturn, 1) := by decide +kernel
theorem dX12_keyword_94 : decode cX12_keyword 94 = .ok (.bipush 6, 2) := by decide +kernel
theorem dX12_keyword_96 : decode cX12_keyword 96 = .ok (.ireturn, 1) := by decide +kernel
theorem dX12_keyword_97 : decode cX12_keyword 97 = .ok (.bipush 7, 2) := by decide +kernel
theorem dX12_keyword_99 : decode cX12_keyword 99 = .ok (.ireturn, 1) := by decide +kernel
theorem dX12_keyword_100 : decode cX12_keyword 100 = .ok (.bipush 8, 2) := by decide +kernel
theorem dX12_keyword_102 : decode cX12_keyword 102 = .ok (.ireturn, 1) := by decide +kernel
theorem dX12_keyword_103 : decode cX12_keyword 103 = .ok (.bipush 9, 2) := by decide +kernel
theorem dX12_keyword_105 : decode cX12_keyword 105 = .ok (.ireturn, 1) := by decide +kernel
theorem dX12_keyword_106 : decode cX12_keyword 106 = .ok (.iconst 0, 1) := by decide +kernel
theorem dX12_keyword_107 : decode cX12_keyword 107 = .ok (.ireturn, 1) := by decide +kernel
theorem dX12_letter_0 : decode cX12_letter 0 = .ok (.iload_n 1, 1) := by decide +kernel
theorem dX12_letter_1 : decode cX12_letter 1 = .ok (.aload_n 0, 1) := by decide +kernel
theorem dX12_letter_2 : decode cX12_letter 2 = .ok (.getfield 219, 3) := by decide +kernel
theorem dX12_letter_5 : decode cX12_letter 5 = .ok (.if_icmp .ge 29, 3) := by decide +kernel
theorem dX12_letter_8 : decode cX12_letter 8 = .ok (.aload_n 0, 1) := by decide +kernel
theorem dX12_letter_9 : decode cX12_letter 9 = .ok (.getfield 27, 3) := by decide +kernel
theorem dX12_letter_12 : decode cX12_letter 12 = .ok (.iload_n 1, 1) := by decide +kernel
theorem dX12_letter_13 : decode cX12_letter 13 = .ok (.iaload, 1) := by decide +kernel
theorem dX12_letter_14 : decode cX12_letter 14 = .ok (.bipush 97, 2) := by decide +kernel
theorem dX12_letter_16 : decode cX12_letter 16 = .ok (.if_icmp .lt 18, 3) := by decide +kernel
theorem dX12_letter_19 : decode cX12_letter 19 = .ok (.aload_n 0, 1) := by decide +kernel
theorem dX12_letter_20 : decode cX12_letter 20 = .ok (.getfield 27, 3) := by decide +kernel
theorem dX12_letter_23 : decode cX12_letter 23 = .ok (.iload_n 1, 1) := by decide +kernel
theorem dX12_letter_24 : decode cX12_letter 24 = .ok (.iaload, 1) := by decide +kernel
theorem dX12_letter_25 : decode cX12_letter 25 = .ok (.bipush 122, 2) := by decide +kernel
theorem dX12_letter_27 : decode cX12_letter 27 = .ok (.if_icmp .gt 7, 3) := by decide +kernel
theorem dX12_letter_30 : decode cX12_letter 30 = .ok (.iconst 1, 1) := by decide +kernel
theorem dX12_letter_31 : decode cX12_letter 31 = .ok (.goto 4, 3) := by decide +kernel
theorem dX12_letter_34 : decode cX12_letter 34 = .ok (.iconst 0, 1) := by decide +kernel
theorem dX12_letter_35 : decode cX12_letter 35 = .ok (.ireturn, 1) := by decide +kernel
theorem dX12_digit_0 : decode cX12_digit 0 = .ok (.iload_n 1, 1) := by decide +kernel
theorem dX12_digit_1 : decode cX12_digit 1 = .ok (.aload_n 0, 1) := by decide +kernel
theorem dX12_digit_2 : decode cX12_digit 2 = .ok (.getfield 219, 3) := by decide +kernel
theorem dX12_digit_5 : decode cX12_digit 5 = .ok (.if_icmp .ge 29, 3) := by decide +kernel
theorem dX12_digit_8 : decode cX12_digit 8 = .ok (.aload_n 0, 1) := by decide +kernel
theorem dX12_digit_9 : decode cX12_digit 9 = .ok (.getfield 27, 3) := by decide +kernel
theorem dX12_digit_12 : decode cX12_digit 12 = .ok (.iload_n 1, 1) := by decide +kernel
theorem dX12_digit_13 : decode cX12_digit 13 = .ok (.iaload, 1) := by decide +kernel
theorem dX12_digit_14 : decode cX12_digit 14 = .ok (.bipush 48, 2) := by decide +kernel
theorem dX12_digit_16 : decode cX12_digit 16 = .ok (.if_icmp .lt 18, 3) := by decide +kernel
theorem dX12_digit_19 : decode cX12_digit 19 = .ok (.aload_n 0, 1) := by decide +kernel
theorem dX12_digit_20 : decode cX12_digit 20 = .ok (.getfield 27, 3) := by decide +kernel
theorem dX12_digit_23 : decode cX12_digit 23 = .ok (.iload_n 1, 1) := by decide +kernel
theorem dX12_digit_24 : decode cX12_digit 24 = .ok (.iaload, 1) := by decide +kernel
theorem dX12_digit_25 : decode cX12_digit 25 = .ok (.bipush 57, 2) := by decide +kernel
theorem dX12_digit_27 : decode cX12_digit 27 = .ok (.if_icmp .gt 7, 3) := by decide +kernel
theorem dX12_digit_30 : decode cX12_digit 30 = .ok (.iconst 1, 1) := by decide +kernel
theorem dX12_digit_31 : decode cX12_digit 31 = .ok (.goto 4, 3) := by decide +kernel
theorem dX12_digit_34 : decode cX12_digit 34 = .ok (.iconst 0, 1) := by decide +kernel
theorem dX12_digit_35 : decode cX12_digit 35 = .ok (.ireturn, 1) := by decide +kernel
theorem dX12_word_0 : decode cX12_word 0 = .ok (.iconst 0, 1) := by decide +kernel
theorem dX12_word_1 : decode cX12_word 1 = .ok (.istore_n 1, 1) := by decide +kernel
theorem dX12_word_2 : decode cX12_word 2 = .ok (.aload_n 0, 1) := by decide +kernel
theorem dX12_word_3 : decode cX12_word 3 = .ok (.getfield 222, 3) := by decide +kernel
theorem dX12_word_6 : decode cX12_word 6 = .ok (.istore_n 2, 1) := by decide +kernel
theorem dX12_word_7 : decode cX12_word 7 = .ok (.aload_n 0, 1) := by decide +kernel
theorem dX12_word_8 : decode cX12_word 8 = .ok (.aload_n 0, 1) := by decide +kernel
theorem dX12_word_9 : decode cX12_word 9 = .ok (.getfield 222, 3) := by decide +kernel
theorem dX12_word_12 : decode cX12_word 12 = .ok (.invokevirtual 225, 3) := by decide +kernel
theorem dX12_word_15 : decode cX12_word 15 = .ok (.ifCond .eq 44, 3) := by decide +kernel
theorem dX12_word_18 : decode cX12_word 18 = .ok (.aload_n 0, 1) := by decide +kernel
theorem dX12_word_19 : decode cX12_word 19 = .ok (.getfield 222, 3) := by decide +kernel
theorem dX12_word_22 : decode cX12_word 22 = .ok (.iload_n 2, 1) := by decide +kernel
theorem dX12_word_23 : decode cX12_word 23 = .ok (.isub, 1) := by decide +kernel
theorem dX12_word_24 : decode cX12_word 24 = .ok (.iconst 5, 1) := by decide +kernel
theorem dX12_word_25 : decode cX12_word 25 = .ok (.if_icmp .ge 21, 3) := by decide +kernel
theorem dX12_word_28 : decode cX12_word 28 = .ok (.bipush 32, 2) := by decide +kernel
theorem dX12_word_30 : decode cX12_word 30 = .ok (.iload_n 1, 1) := by decide +kernel
theorem dX12_word_31 : decode cX12_word 31 = .ok (.imul, 1) := by decide +kernel
theorem dX12_word_32 : decode cX12_word 32 = .ok (.aload_n 0, 1) := by decide +kernel
theorem dX12_word_33 : decode cX12_word 33 = .ok (.getfield 27, 3) := by decide +kernel
theorem dX12_word_36 : decode cX12_word 36 = .ok (.aload_n 0, 1) := by decide +kernel
theorem dX12_word_37 : decode cX12_word 37 = .ok (.getfield 222, 3) := by decide +kernel
theorem dX12_word_40 : decode cX12_word 40 = .ok (.iaload, 1) := by decide +kernel
theorem dX12_word_41 : decode cX12_word 41 = .ok (.iadd, 1) := by decide +kernel
theorem dX12_word_42 : decode cX12_word 42 = .ok (.bipush 96, 2) := by decide +kernel
theorem dX12_word_44 : decode cX12_word 44 = .ok (.isub, 1) := by decide +kernel
theorem dX12_word_45 : decode cX12_word 45 = .ok (.istore_n 1, 1) := by decide +kernel
theorem dX12_word_46 : decode cX12_word 46 = .ok (.aload_n 0, 1) := by decide +kernel
theorem dX12_word_47 : decode cX12_word 47 = .ok (.dup, 1) := by decide +kernel
theorem dX12_word_48 : decode cX12_word 48 = .ok (.getfield 222, 3) := by decide +kernel
theorem dX12_word_51 : decode cX12_word 51 = .ok (.iconst 1, 1) := by decide +kernel
theorem dX12_word_52 : decode cX12_word 52 = .ok (.iadd, 1) := by decide +kernel
theorem dX12_word_53 : decode cX12_word 53 = .ok (.putfield 222, 3) := by decide +kernel
theorem dX12_word_56 : decode cX12_word 56 = .ok (.goto (-49), 3) := by decide +kernel
theorem dX12_word_59 : decode cX12_word 59 = .ok (.aload_n 0, 1) := by decide +kernel
theorem dX12_word_60 : decode cX12_word 60 = .ok (.aload_n 0, 1) := by decide +kernel
theorem dX12_word_61 : decode cX12_word 61 = .ok (.getfield 222, 3) := by decide +kernel
theorem dX12_word_64 : decode cX12_word 64 = .ok (.iload_n 2, 1) := by decide +kernel
theorem dX12_word_65 : decode cX12_word 65 = .ok (.isub, 1) := by decide +kernel
theorem dX12_word_66 : decode cX12_word 66 = .ok (.iconst 1, 1) := by decide +kernel
theorem dX12_word_67 : decode cX12_word 67 = .ok (.if_icmp .ne 8, 3) := by decide +kernel
theorem dX12_word_70 : decode cX12_word 70 = .ok (.bipush 110, 2) := by decide +kernel
theorem dX12_word_72 : decode cX12_word 72 = .ok (.goto 5, 3) := by decide +kernel
theorem dX12_word_75 : decode cX12_word 75 = .ok (.bipush 107, 2) := by decide +kernel
theorem dX12_word_77 : decode cX12_word 77 = .ok (.putfield 229, 3) := by decide +kernel
theorem dX12_word_80 : decode cX12_word 80 = .ok (.aload_n 0, 1) := by decide +kernel
theorem dX12_word_81 : decode cX12_word 81 = .ok (.aload_n 0, 1) := by decide +kernel
theorem dX12_word_82 : decode cX12_word 82 = .ok (.getfield 222, 3) := by decide +kernel
theorem dX12_word_85 : decode cX12_word 85 = .ok (.iload_n 2, 1) := by decide +kernel
theorem dX12_word_86 : decode cX12_word 86 = .ok (.isub, 1) := by decide +kernel
theorem dX12_word_87 : decode cX12_word 87 = .ok (.iconst 1, 1) := by decide +kernel
theorem dX12_word_88 : decode cX12_word 88 = .ok (.if_icmp .ne 15, 3) := by decide +kernel
theorem dX12_word_91 : decode cX12_word 91 = .ok (.aload_n 0, 1) := by decide +kernel
theorem dX12_word_92 : decode cX12_word 92 = .ok (.getfield 27, 3) := by decide +kernel
theorem dX12_word_95 : decode cX12_word 95 = .ok (.iload_n 2, 1) := by decide +kernel
theorem dX12_word_96 : decode cX12_word 96 = .ok (.iaload, 1) := by decide +kernel
theorem dX12_word_97 : decode cX12_word 97 = .ok (.bipush 97, 2) := by decide +kernel
theorem dX12_word_99 : decode cX12_word 99 = .ok (.isub, 1) := by decide +kernel
theorem dX12_word_100 : decode cX12_word 100 = .ok (.goto 22, 3) := by decide +kernel
theorem dX12_word_103 : decode cX12_word 103 = .ok (.aload_n 0, 1) := by decide +kernel
theorem dX12_word_104 : decode cX12_word 104 = .ok (.getfield 222, 3) := by decide +kernel
theorem dX12_word_107 : decode cX12_word 107 = .ok (.iload_n 2, 1) := by decide +kernel
theorem dX12_word_108 : decode cX12_word 108 = .ok (.isub, 1) := by decide +kernel
theorem dX12_word_109 : decode cX12_word 109 = .ok (.iconst 5, 1) := by decide +kernel
theorem dX12_word_110 : decode cX12_word 110 = .ok (.if_icmp .le 7, 3) := by decide +kernel
theorem dX12_word_113 : decode cX12_word 113 = .ok (.iconst 0, 1) := by decide +kernel
theorem dX12_word_114 : decode cX12_word 114 = .ok (.goto 8, 3) := by decide +kernel
theorem dX12_word_117 : decode cX12_word 117 = .ok (.aload_n 0, 1) := by decide +kernel
theorem dX12_word_118 : decode cX12_word 118 = .ok (.iload_n 1, 1) := by decide +kernel
theorem dX12_word_119 : decode cX12_word 119 = .ok (.invokevirtual 232, 3) := by decide +kernel
theorem dX12_word_122 : decode cX12_word 122 = .ok (.putfield 235, 3) := by decide +kernel
theorem dX12_word_125 : decode cX12_word 125 = .ok (.return_, 1) := by decide +kernel
theorem dX12_number_0 : decode cX12_number 0 = .ok (.aload_n 0, 1) := by decide +kernel
theorem dX12_number_1 : decode cX12_number 1 = .ok (.getfield 222, 3) := by decide +kernel
theorem dX12_number_4 : decode cX12_number 4 = .ok (.istore_n 1, 1) := by decide +kernel
theorem dX12_number_5 : decode cX12_number 5 = .ok (.aload_n 0, 1) := by decide +kernel
theorem dX12_number_6 : decode cX12_number 6 = .ok (.iconst 0, 1) := by decide +kernel
theorem dX12_number_7 : decode cX12_number 7 = .ok (.putfield 235, 3) := by decide +kernel
theorem dX12_number_10 : decode cX12_number 10 = .ok (.aload_n 0, 1) := by decide +kernel
theorem dX12_number_11 : decode cX12_number 11 = .ok (.aload_n 0, 1) := by decide +kernel
theorem dX12_number_12 : decode cX12_number 12 = .ok (.getfield 222, 3) := by decide +kernel
theorem dX12_number_15 : decode cX12_number 15 = .ok (.invokevirtual 238, 3) := by decide +kernel
theorem dX12_number_18 : decode cX12_number 18 = .ok (.ifCond .eq 51, 3) := by decide +kernel
theorem dX12_number_21 : decode cX12_number 21 = .ok (.aload_n 0, 1) := by decide +kernel
theorem dX12_number_22 : decode cX12_number 22 = .ok (.getfield 222, 3) := by decide +kernel
theorem dX12_number_25 : decode cX12_number 25 = .ok (.iload_n 1, 1) := by decide +kernel
theorem dX12_number_26 : decode cX12_number 26 = .ok (.isub, 1) := by decide +kernel
theorem dX12_number_27 : decode cX12_number 27 = .ok (.bipush 9, 2) := by decide +kernel
theorem dX12_number_29 : decode cX12_number 29 = .ok (.if_icmp .ge 27, 3) := by decide +kernel
theorem dX12_number_32 : decode cX12_number 32 = .ok (.aload_n 0, 1) := by decide +kernel
theorem dX12_number_33 : decode cX12_number 33 = .ok (.bipush 10, 2) := by decide +kernel
theorem dX12_number_35 : decode cX12_number 35 = .ok (.aload_n 0, 1) := by decide +kernel
theorem dX12_number_36 : decode cX12_number 36 = .ok (.getfield 235, 3) := by decide +kernel
theorem dX12_number_39 : decode cX12_number 39 = .ok (.imul, 1) := by decide +kernel
theorem dX12_number_40 : decode cX12_number 40 = .ok (.aload_n 0, 1) := by decide +kernel
theorem dX12_number_41 : decode cX12_number 41 = .ok (.getfield 27, 3) := by decide +kernel
theorem dX12_number_44 : decode cX12_number 44 = .ok (.aload_n 0, 1) := by decide +kernel
theorem dX12_number_45 : decode cX12_number 45 = .ok (.getfield 222, 3) := by decide +kernel
theorem dX12_number_48 : decode cX12_number 48 = .ok (.iaload, 1) := by decide +kernel
theorem dX12_number_49 : decode cX12_number 49 = .ok (.iadd, 1) := by decide +kernel
theorem dX12_number_50 : decode cX12_number 50 = .ok (.bipush 48, 2) := by decide +kernel
theorem dX12_number_52 : decode cX12_number 52 = .ok (.isub, 1) := by decide +kernel
theorem dX12_number_53 : decode cX12_number 53 = .ok (.putfield 235, 3) := by decide +kernel
theorem dX12_number_56 : decode cX12_number 56 = .ok (.aload_n 0, 1) := by decide +kernel
theorem dX12_number_57 : decode cX12_number 57 = .ok (.dup, 1) := by decide +kernel
theorem dX12_number_58 : decode cX12_number 58 = .ok (.getfield 222, 3) := by decide +kernel
theorem dX12_number_61 : decode cX12_number 61 = .ok (.iconst 1, 1) := by decide +kernel
theorem dX12_number_62 : decode cX12_number 62 = .ok (.iadd, 1) := by decide +kernel
theorem dX12_number_63 : decode cX12_number 63 = .ok (.putfield 222, 3) := by decide +kernel
theorem dX12_number_66 : decode cX12_number 66 = .ok (.goto (-56), 3) := by decide +kernel
theorem dX12_number_69 : decode cX12_number 69 = .ok (.aload_n 0, 1) := by decide +kernel
theorem dX12_number_70 : decode cX12_number 70 = .ok (.aload_n 0, 1) := by decide +kernel
theorem dX12_number_71 : decode cX12_number 71 = .ok (.getfield 222, 3) := by decide +kernel
theorem dX12_number_74 : decode cX12_number 74 = .ok (.iload_n 1, 1) := by decide +kernel
theorem dX12_number_75 : decode cX12_number 75 = .ok (.isub, 1) := by decide +kernel
theorem dX12_number_76 : decode cX12_number 76 = .ok (.bipush 9, 2) := by decide +kernel
theorem dX12_number_78 : decode cX12_number 78 = .ok (.if_icmp .le 7, 3) := by decide +kernel
theorem dX12_number_81 : decode cX12_number 81 = .ok (.iconst 1, 1) := by decide +kernel
theorem dX12_number_82 : decode cX12_number 82 = .ok (.goto 5, 3) := by decide +kernel
theorem dX12_number_85 : decode cX12_number 85 = .ok (.bipush 35, 2) := by decide +kernel
theorem dX12_number_87 : decode cX12_number 87 = .ok (.putfield 229, 3) := by decide +kernel
theorem dX12_number_90 : decode cX12_number 90 = .ok (.return_, 1) := by decide +kernel
theorem dX12_sign_0 : decode cX12_sign 0 = .ok (.iload_n 1, 1) := by decide +kernel
theorem dX12_sign_1 : decode cX12_sign 1 = .ok (.lookupswitch 125 #[(40, 123), (41, 123), (42, 123), (43, 123), (45, 123), (47, 123), (58, 123), (59, 123), (60, 123), (61, 123), (91, 123), (93, 123), (123, 123), (125, 123)], 123) := by decide +kernel
theorem dX12_sign_124 : decode cX12_sign 124 = .ok (.iconst 1, 1) := by decide +kernel
theorem dX12_sign_125 : decode cX12_sign 125 = .ok (.ireturn, 1) := by decide +kernel
theorem dX12_sign_126 : decode cX12_sign 126 = .ok (.iconst 0, 1) := by decide +kernel
theorem dX12_sign_127 : decode cX12_sign 127 = .ok (.ireturn, 1) := by decide +kernel
theorem dX12_next_0 : decode cX12_next 0 = .ok (.aload_n 0, 1) := by decide +kernel
theorem dX12_next_1 : decode cX12_next 1 = .ok (.getfield 222, 3) := by decide +kernel
theorem dX12_next_4 : decode cX12_next 4 = .ok (.aload_n 0, 1) := by decide +kernel
theorem dX12_next_5 : decode cX12_next 5 = .ok (.getfield 219, 3) := by decide +kernel
theorem dX12_next_8 : decode cX12_next 8 = .ok (.if_icmp .ge 30, 3) := by decide +kernel
theorem dX12_next_11 : decode cX12_next 11 = .ok (.aload_n 0, 1) := by decide +kernel
theorem dX12_next_12 : decode cX12_next 12 = .ok (.getfield 27, 3) := by decide +kernel
theorem dX12_next_15 : decode cX12_next 15 = .ok (.aload_n 0, 1) := by decide +kernel
theorem dX12_next_16 : decode cX12_next 16 = .ok (.getfield 222, 3) := by decide +kernel
theorem dX12_next_19 : decode cX12_next 19 = .ok (.iaload, 1) := by decide +kernel
theorem dX12_next_20 : decode cX12_next 20 = .ok (.bipush 32, 2) := by decide +kernel
theorem dX12_next_22 : decode cX12_next 22 = .ok (.if_icmp .ne 16, 3) := by decide +kernel
theorem dX12_next_25 : decode cX12_next 25 = .ok (.aload_n 0, 1) := by decide +kernel
theorem dX12_next_26 : decode cX12_next 26 = .ok (.dup, 1) := by decide +kernel
theorem dX12_next_27 : decode cX12_next 27 = .ok (.getfield 222, 3) := by decide +kernel
theorem dX12_next_30 : decode cX12_next 30 = .ok (.iconst 1, 1) := by decide +kernel
theorem dX12_next_31 : decode cX12_next 31 = .ok (.iadd, 1) := by decide +kernel
theorem dX12_next_32 : decode cX12_next 32 = .ok (.putfield 222, 3) := by decide +kernel
theorem dX12_next_35 : decode cX12_next 35 = .ok (.goto (-35), 3) := by decide +kernel
theorem dX12_next_38 : decode cX12_next 38 = .ok (.aload_n 0, 1) := by decide +kernel
theorem dX12_next_39 : decode cX12_next 39 = .ok (.aload_n 0, 1) := by decide +kernel
theorem dX12_next_40 : decode cX12_next 40 = .ok (.getfield 222, 3) := by decide +kernel
theorem dX12_next_43 : decode cX12_next 43 = .ok (.putfield 241, 3) := by decide +kernel
theorem dX12_next_46 : decode cX12_next 46 = .ok (.aload_n 0, 1) := by decide +kernel
theorem dX12_next_47 : decode cX12_next 47 = .ok (.iconst 0, 1) := by decide +kernel
theorem dX12_next_48 : decode cX12_next 48 = .ok (.putfield 229, 3) := by decide +kernel
theorem dX12_next_51 : decode cX12_next 51 = .ok (.aload_n 0, 1) := by decide +kernel
theorem dX12_next_52 : decode cX12_next 52 = .ok (.getfield 222, 3) := by decide +kernel
theorem dX12_next_55 : decode cX12_next 55 = .ok (.aload_n 0, 1) := by decide +kernel
theorem dX12_next_56 : decode cX12_next 56 = .ok (.getfield 219, 3) := by decide +kernel
theorem dX12_next_59 : decode cX12_next 59 = .ok (.if_icmp .ne 4, 3) := by decide +kernel
theorem dX12_next_62 : decode cX12_next 62 = .ok (.return_, 1) := by decide +kernel
theorem dX12_next_63 : decode cX12_next 63 = .ok (.aload_n 0, 1) := by decide +kernel
theorem dX12_next_64 : decode cX12_next 64 = .ok (.aload_n 0, 1) := by decide +kernel
theorem dX12_next_65 : decode cX12_next 65 = .ok (.getfield 222, 3) := by decide +kernel
theorem dX12_next_68 : decode cX12_next 68 = .ok (.invokevirtual 225, 3) := by decide +kernel
theorem dX12_next_71 : decode cX12_next 71 = .ok (.ifCond .eq 10, 3) := by decide +kernel
theorem dX12_next_74 : decode cX12_next 74 = .ok (.aload_n 0, 1) := by decide +kernel
theorem dX12_next_75 : decode cX12_next 75 = .ok (.invokevirtual 244, 3) := by decide +kernel
theorem dX12_next_78 : decode cX12_next 78 = .ok (.goto 64, 3) := by decide +kernel
theorem dX12_next_81 : decode cX12_next 81 = .ok (.aload_n 0, 1) := by decide +kernel
theorem dX12_next_82 : decode cX12_next 82 = .ok (.aload_n 0, 1) := by decide +kernel
theorem dX12_next_83 : decode cX12_next 83 = .ok (.getfield 222, 3) := by decide +kernel
theorem dX12_next_86 : decode cX12_next 86 = .ok (.invokevirtual 238, 3) := by decide +kernel
theorem dX12_next_89 : decode cX12_next 89 = .ok (.ifCond .eq 10, 3) := by decide +kernel
theorem dX12_next_92 : decode cX12_next 92 = .ok (.aload_n 0, 1) := by decide +kernel
theorem dX12_next_93 : decode cX12_next 93 = .ok (.invokevirtual 247, 3) := by decide +kernel
theorem dX12_next_96 : decode cX12_next 96 = .ok (.goto 46, 3) := by decide +kernel
theorem dX12_next_99 : decode cX12_next 99 = .ok (.aload_n 0, 1) := by decide +kernel
theorem dX12_next_100 : decode cX12_next 100 = .ok (.aload_n 0, 1) := by decide +kernel
theorem dX12_next_101 : decode cX12_next 101 = .ok (.aload_n 0, 1) := by decide +kernel
theorem dX12_next_102 : decode cX12_next 102 = .ok (.getfield 27, 3) := by decide +kernel
theorem dX12_next_105 : decode cX12_next 105 = .ok (.aload_n 0, 1) := by decide +kernel
theorem dX12_next_106 : decode cX12_next 106 = .ok (.getfield 222, 3) := by decide +kernel
theorem dX12_next_109 : decode cX12_next 109 = .ok (.iaload, 1) := by decide +kernel
theorem dX12_next_110 : decode cX12_next 110 = .ok (.invokevirtual 250, 3) := by decide +kernel
theorem dX12_next_113 : decode cX12_next 113 = .ok (.ifCond .eq 15, 3) := by decide +kernel
theorem dX12_next_116 : decode cX12_next 116 = .ok (.aload_n 0, 1) := by decide +kernel
theorem dX12_next_117 : decode cX12_next 117 = .ok (.getfield 27, 3) := by decide +kernel
theorem dX12_next_120 : decode cX12_next 120 = .ok (.aload_n 0, 1) := by decide +kernel
theorem dX12_next_121 : decode cX12_next 121 = .ok (.getfield 222, 3) := by decide +kernel
theorem dX12_next_124 : decode cX12_next 124 = .ok (.iaload, 1) := by decide +kernel
theorem dX12_next_125 : decode cX12_next 125 = .ok (.goto 4, 3) := by decide +kernel
theorem dX12_next_128 : decode cX12_next 128 = .ok (.iconst 1, 1) := by decide +kernel
theorem dX12_next_129 : decode cX12_next 129 = .ok (.putfield 229, 3) := by decide +kernel
theorem dX12_next_132 : decode cX12_next 132 = .ok (.aload_n 0, 1) := by decide +kernel
theorem dX12_next_133 : decode cX12_next 133 = .ok (.dup, 1) := by decide +kernel
theorem dX12_next_134 : decode cX12_next 134 = .ok (.getfield 222, 3) := by decide +kernel
theorem dX12_next_137 : decode cX12_next 137 = .ok (.iconst 1, 1) := by decide +kernel
theorem dX12_next_138 : decode cX12_next 138 = .ok (.iadd, 1) := by decide +kernel
theorem dX12_next_139 : decode cX12_next 139 = .ok (.putfield 222, 3) := by decide +kernel
theorem dX12_next_142 : decode cX12_next 142 = .ok (.return_, 1) := by decide +kernel
theorem dX12_wrong_0 : decode cX12_wrong 0 = .ok (.aload_n 0, 1) := by decide +kernel
theorem dX12_wrong_1 : decode cX12_wrong 1 = .ok (.getfield 253, 3) := by decide +kernel
theorem dX12_wrong_4 : decode cX12_wrong 4 = .ok (.ifCond .ge 11, 3) := by decide +kernel
theorem dX12_wrong_7 : decode cX12_wrong 7 = .ok (.aload_n 0, 1) := by decide +kernel
theorem dX12_wrong_8 : decode cX12_wrong 8 = .ok (.aload_n 0, 1) := by decide +kernel
theorem dX12_wrong_9 : decode cX12_wrong 9 = .ok (.getfield 241, 3) := by decide +kernel
theorem dX12_wrong_12 : decode cX12_wrong 12 = .ok (.putfield 253, 3) := by decide +kernel
theorem dX12_wrong_15 : decode cX12_wrong 15 = .ok (.return_, 1) := by decide +kernel
theorem dX12_expect_0 : decode cX12_expect 0 = .ok (.aload_n 0, 1) := by decide +kernel
theorem dX12_expect_1 : decode cX12_expect 1 = .ok (.getfield 253, 3) := by decide +kernel
theorem dX12_expect_4 : decode cX12_expect 4 = .ok (.ifCond .lt 4, 3) := by decide +kernel
theorem dX12_expect_7 : decode cX12_expect 7 = .ok (.return_, 1) := by decide +kernel
theorem dX12_expect_8 : decode cX12_expect 8 = .ok (.aload_n 0, 1) := by decide +kernel
theorem dX12_expect_9 : decode cX12_expect 9 = .ok (.getfield 229, 3) := by decide +kernel
theorem dX12_expect_12 : decode cX12_expect 12 = .ok (.iload_n 1, 1) := by decide +kernel
theorem dX12_expect_13 : decode cX12_expect 13 = .ok (.if_icmp .ne 10, 3) := by decide +kernel
theorem dX12_expect_16 : decode cX12_expect 16 = .ok (.aload_n 0, 1) := by decide +kernel
theorem dX12_expect_17 : decode cX12_expect 17 = .ok (.invokevirtual 256, 3) := by decide +kernel
theorem dX12_expect_20 : decode cX12_expect 20 = .ok (.goto 7, 3) := by decide +kernel
theorem dX12_expect_23 : decode cX12_expect 23 = .ok (.aload_n 0, 1) := by decide +kernel
theorem dX12_expect_24 : decode cX12_expect 24 = .ok (.invokevirtual 259, 3) := by decide +kernel
theorem dX12_expect_27 : decode cX12_expect 27 = .ok (.return_, 1) := by decide +kernel
theorem dX12_opening_0 : decode cX12_opening 0 = .ok (.aload_n 0, 1) := by decide +kernel
theorem dX12_opening_1 : decode cX12_opening 1 = .ok (.getfield 253, 3) := by decide +kernel
theorem dX12_opening_4 : decode cX12_opening 4 = .ok (.ifCond .lt 4, 3) := by decide +kernel
theorem dX12_opening_7 : decode cX12_opening 7 = .ok (.return_, 1) := by decide +kernel
theorem dX12_opening_8 : decode cX12_opening 8 = .ok (.aload_n 0, 1) := by decide +kernel
theorem dX12_opening_9 : decode cX12_opening 9 = .ok (.getfield 229, 3) := by decide +kernel
theorem dX12_opening_12 : decode cX12_opening 12 = .ok (.iload_n 1, 1) := by decide +kernel
theorem dX12_opening_13 : decode cX12_opening 13 = .ok (.if_icmp .ne 12, 3) := by decide +kernel
theorem dX12_opening_16 : decode cX12_opening 16 = .ok (.aload_n 0, 1) := by decide +kernel
theorem dX12_opening_17 : decode cX12_opening 17 = .ok (.getfield 262, 3) := by decide +kernel
theorem dX12_opening_20 : decode cX12_opening 20 = .ok (.bipush 8, 2) := by decide +kernel
theorem dX12_opening_22 : decode cX12_opening 22 = .ok (.if_icmp .ne 10, 3) := by decide +kernel
theorem dX12_opening_25 : decode cX12_opening 25 = .ok (.aload_n 0, 1) := by decide +kernel
theorem dX12_opening_26 : decode cX12_opening 26 = .ok (.invokevirtual 259, 3) := by decide +kernel
theorem dX12_opening_29 : decode cX12_opening 29 = .ok (.goto 17, 3) := by decide +kernel
theorem dX12_opening_32 : decode cX12_opening 32 = .ok (.aload_n 0, 1) := by decide +kernel
theorem dX12_opening_33 : decode cX12_opening 33 = .ok (.dup, 1) := by decide +kernel
theorem dX12_opening_34 : decode cX12_opening 34 = .ok (.getfield 262, 3) := by decide +kernel
theorem dX12_opening_37 : decode cX12_opening 37 = .ok (.iconst 1, 1) := by decide +kernel
theorem dX12_opening_38 : decode cX12_opening 38 = .ok (.iadd, 1) := by decide +kernel
theorem dX12_opening_39 : decode cX12_opening 39 = .ok (.putfield 262, 3) := by decide +kernel
theorem dX12_opening_42 : decode cX12_opening 42 = .ok (.aload_n 0, 1) := by decide +kernel
theorem dX12_opening_43 : decode cX12_opening 43 = .ok (.invokevirtual 256, 3) := by decide +kernel
theorem dX12_opening_46 : decode cX12_opening 46 = .ok (.return_, 1) := by decide +kernel
theorem dX12_labelToken_0 : decode cX12_labelToken 0 = .ok (.aload_n 0, 1) := by decide +kernel
theorem dX12_labelToken_1 : decode cX12_labelToken 1 = .ok (.getfield 253, 3) := by decide +kernel
theorem dX12_labelToken_4 : decode cX12_labelToken 4 = .ok (.ifCond .lt 5, 3) := by decide +kernel
theorem dX12_labelToken_7 : decode cX12_labelToken 7 = .ok (.iconst 0, 1) := by decide +kernel
theorem dX12_labelToken_8 : decode cX12_labelToken 8 = .ok (.ireturn, 1) := by decide +kernel
theorem dX12_labelToken_9 : decode cX12_labelToken 9 = .ok (.aload_n 0, 1) := by decide +kernel
theorem dX12_labelToken_10 : decode cX12_labelToken 10 = .ok (.getfield 235, 3) := by decide +kernel
theorem dX12_labelToken_13 : decode cX12_labelToken 13 = .ok (.istore_n 1, 1) := by decide +kernel
theorem dX12_labelToken_14 : decode cX12_labelToken 14 = .ok (.aload_n 0, 1) := by decide +kernel
theorem dX12_labelToken_15 : decode cX12_labelToken 15 = .ok (.getfield 229, 3) := by decide +kernel
theorem dX12_labelToken_18 : decode cX12_labelToken 18 = .ok (.bipush 35, 2) := by decide +kernel
theorem dX12_labelToken_20 : decode cX12_labelToken 20 = .ok (.if_icmp .ne 11, 3) := by decide +kernel
theorem dX12_labelToken_23 : decode cX12_labelToken 23 = .ok (.iload_n 1, 1) := by decide +kernel
theorem dX12_labelToken_24 : decode cX12_labelToken 24 = .ok (.aload_n 0, 1) := by decide +kernel
theorem dX12_labelToken_25 : decode cX12_labelToken 25 = .ok (.getfield 180, 3) := by decide +kernel
theorem dX12_labelToken_28 : decode cX12_labelToken 28 = .ok (.if_icmp .lt 10, 3) := by decide +kernel
theorem dX12_labelToken_31 : decode cX12_labelToken 31 = .ok (.aload_n 0, 1) := by decide +kernel
theorem dX12_labelToken_32 : decode cX12_labelToken 32 = .ok (.invokevirtual 259, 3) := by decide +kernel
theorem dX12_labelToken_35 : decode cX12_labelToken 35 = .ok (.goto 7, 3) := by decide +kernel
theorem dX12_labelToken_38 : decode cX12_labelToken 38 = .ok (.aload_n 0, 1) := by decide +kernel
theorem dX12_labelToken_39 : decode cX12_labelToken 39 = .ok (.invokevirtual 256, 3) := by decide +kernel
theorem dX12_labelToken_42 : decode cX12_labelToken 42 = .ok (.aload_n 0, 1) := by decide +kernel
theorem dX12_labelToken_43 : decode cX12_labelToken 43 = .ok (.getfield 253, 3) := by decide +kernel
theorem dX12_labelToken_46 : decode cX12_labelToken 46 = .ok (.ifCond .ge 7, 3) := by decide +kernel
theorem dX12_labelToken_49 : decode cX12_labelToken 49 = .ok (.iload_n 1, 1) := by decide +kernel
theorem dX12_labelToken_50 : decode cX12_labelToken 50 = .ok (.goto 4, 3) := by decide +kernel
theorem dX12_labelToken_53 : decode cX12_labelToken 53 = .ok (.iconst 0, 1) := by decide +kernel
theorem dX12_labelToken_54 : decode cX12_labelToken 54 = .ok (.ireturn, 1) := by decide +kernel
theorem dX12_emit_0 : decode cX12_emit 0 = .ok (.aload_n 0, 1) := by decide +kernel
theorem dX12_emit_1 : decode cX12_emit 1 = .ok (.getfield 69, 3) := by decide +kernel
theorem dX12_emit_4 : decode cX12_emit 4 = .ok (.aload_n 0, 1) := by decide +kernel
theorem dX12_emit_5 : decode cX12_emit 5 = .ok (.getfield 265, 3) := by decide +kernel
theorem dX12_emit_8 : decode cX12_emit 8 = .ok (.iload_n 1, 1) := by decide +kernel
theorem dX12_emit_9 : decode cX12_emit 9 = .ok (.iastore, 1) := by decide +kernel
theorem dX12_emit_10 : decode cX12_emit 10 = .ok (.aload_n 0, 1) := by decide +kernel
theorem dX12_emit_11 : decode cX12_emit 11 = .ok (.getfield 72, 3) := by decide +kernel
theorem dX12_emit_14 : decode cX12_emit 14 = .ok (.aload_n 0, 1) := by decide +kernel
theorem dX12_emit_15 : decode cX12_emit 15 = .ok (.getfield 265, 3) := by decide +kernel
theorem dX12_emit_18 : decode cX12_emit 18 = .ok (.iload_n 2, 1) := by decide +kernel
theorem dX12_emit_19 : decode cX12_emit 19 = .ok (.iastore, 1) := by decide +kernel
theorem dX12_emit_20 : decode cX12_emit 20 = .ok (.aload_n 0, 1) := by decide +kernel
theorem dX12_emit_21 : decode cX12_emit 21 = .ok (.dup, 1) := by decide +kernel
theorem dX12_emit_22 : decode cX12_emit 22 = .ok (.getfield 265, 3) := by decide +kernel
theorem dX12_emit_25 : decode cX12_emit 25 = .ok (.iconst 1, 1) := by decide +kernel
theorem dX12_emit_26 : decode cX12_emit 26 = .ok (.iadd, 1) := by decide +kernel
theorem dX12_emit_27 : decode cX12_emit 27 = .ok (.putfield 265, 3) := by decide +kernel
theorem dX12_emit_30 : decode cX12_emit 30 = .ok (.return_, 1) := by decide +kernel
theorem dX12_rank_0 : decode cX12_rank 0 = .ok (.iload_n 1, 1) := by decide +kernel
theorem dX12_rank_1 : decode cX12_rank 1 = .ok (.bipush 42, 2) := by decide +kernel
theorem dX12_rank_3 : decode cX12_rank 3 = .ok (.if_icmp .eq 9, 3) := by decide +kernel
theorem dX12_rank_6 : decode cX12_rank 6 = .ok (.iload_n 1, 1) := by decide +kernel
theorem dX12_rank_7 : decode cX12_rank 7 = .ok (.bipush 47, 2) := by decide +kernel
theorem dX12_rank_9 : decode cX12_rank 9 = .ok (.if_icmp .ne 7, 3) := by decide +kernel
theorem dX12_rank_12 : decode cX12_rank 12 = .ok (.iconst 3, 1) := by decide +kernel
theorem dX12_rank_13 : decode cX12_rank 13 = .ok (.goto 36, 3) := by decide +kernel
theorem dX12_rank_16 : decode cX12_rank 16 = .ok (.iload_n 1, 1) := by decide +kernel
theorem dX12_rank_17 : decode cX12_rank 17 = .ok (.bipush 43, 2) := by decide +kernel
theorem dX12_rank_19 : decode cX12_rank 19 = .ok (.if_icmp .eq 9, 3) := by decide +kernel
theorem dX12_rank_22 : decode cX12_rank 22 = .ok (.iload_n 1, 1) := by decide +kernel
theorem dX12_rank_23 : decode cX12_rank 23 = .ok (.bipush 45, 2) := by decide +kernel
theorem dX12_rank_25 : decode cX12_rank 25 = .ok (.if_icmp .ne 7, 3) := by decide +kernel
theorem dX12_rank_28 : decode cX12_rank 28 = .ok (.iconst 2, 1) := by decide +kernel
theorem dX12_rank_29 : decode cX12_rank 29 = .ok (.goto 20, 3) := by decide +kernel
theorem dX12_rank_32 : decode cX12_rank 32 = .ok (.iload_n 1, 1) := by decide +kernel
theorem dX12_rank_33 : decode cX12_rank 33 = .ok (.bipush 60, 2) := by decide +kernel
theorem dX12_rank_35 : decode cX12_rank 35 = .ok (.if_icmp .eq 9, 3) := by decide +kernel
theorem dX12_rank_38 : decode cX12_rank 38 = .ok (.iload_n 1, 1) := by decide +kernel
theorem dX12_rank_39 : decode cX12_rank 39 = .ok (.bipush 61, 2) := by decide +kernel
theorem dX12_rank_41 : decode cX12_rank 41 = .ok (.if_icmp .ne 7, 3) := by decide +kernel
theorem dX12_rank_44 : decode cX12_rank 44 = .ok (.iconst 1, 1) := by decide +kernel
theorem dX12_rank_45 : decode cX12_rank 45 = .ok (.goto 4, 3) := by decide +kernel
theorem dX12_rank_48 : decode cX12_rank 48 = .ok (.iconst 0, 1) := by decide +kernel
theorem dX12_rank_49 : decode cX12_rank 49 = .ok (.ireturn, 1) := by decide +kernel
theorem dX12_operation_0 : decode cX12_operation 0 = .ok (.iload_n 1, 1) := by decide +kernel
theorem dX12_operation_1 : decode cX12_operation 1 = .ok (.lookupswitch 65 #[(42, 56), (43, 51), (45, 53), (47, 59), (60, 62)], 51) := by decide +kernel
theorem dX12_operation_52 : decode cX12_operation 52 = .ok (.iconst 5, 1) := by decide +kernel
theorem dX12_operation_53 : decode cX12_operation 53 = .ok (.ireturn, 1) := by decide +kernel
theorem dX12_operation_54 : decode cX12_operation 54 = .ok (.bipush 6, 2) := by decide +kernel
theorem dX12_operation_56 : decode cX12_operation 56 = .ok (.ireturn, 1) := by decide +kernel
theorem dX12_operation_57 : decode cX12_operation 57 = .ok (.bipush 7, 2) := by decide +kernel
theorem dX12_operation_59 : decode cX12_operation 59 = .ok (.ireturn, 1) := by decide +kernel
theorem dX12_operation_60 : decode cX12_operation 60 = .ok (.bipush 8, 2) := by decide +kernel
theorem dX12_operation_62 : decode cX12_operation 62 = .ok (.ireturn, 1) := by decide +kernel
theorem dX12_operation_63 : decode cX12_operation 63 = .ok (.bipush 9, 2) := by decide +kernel
theorem dX12_operation_65 : decode cX12_operation 65 = .ok (.ireturn, 1) := by decide +kernel
theorem dX12_operation_66 : decode cX12_operation 66 = .ok (.bipush 10, 2) := by decide +kernel
theorem dX12_operation_68 : decode cX12_operation 68 = .ok (.ireturn, 1) := by decide +kernel
theorem dX12_flush_0 : decode cX12_flush 0 = .ok (.aload_n 0, 1) := by decide +kernel
theorem dX12_flush_1 : decode cX12_flush 1 = .ok (.getfield 268, 3) := by decide +kernel
theorem dX12_flush_4 : decode cX12_flush 4 = .ok (.ifCond .le 53, 3) := by decide +kernel
theorem dX12_flush_7 : decode cX12_flush 7 = .ok (.aload_n 0, 1) := by decide +kernel
theorem dX12_flush_8 : decode cX12_flush 8 = .ok (.aload_n 0, 1) := by decide +kernel
theorem dX12_flush_9 : decode cX12_flush 9 = .ok (.getfield 96, 3) := by decide +kernel
theorem dX12_flush_12 : decode cX12_flush 12 = .ok (.aload_n 0, 1) := by decide +kernel
theorem dX12_flush_13 : decode cX12_flush 13 = .ok (.getfield 268, 3) := by decide +kernel
theorem dX12_flush_16 : decode cX12_flush 16 = .ok (.iconst 1, 1) := by decide +kernel
theorem dX12_flush_17 : decode cX12_flush 17 = .ok (.isub, 1) := by decide +kernel
theorem dX12_flush_18 : decode cX12_flush 18 = .ok (.iaload, 1) := by decide +kernel
theorem dX12_flush_19 : decode cX12_flush 19 = .ok (.invokevirtual 271, 3) := by decide +kernel
theorem dX12_flush_22 : decode cX12_flush 22 = .ok (.iload_n 1, 1) := by decide +kernel
theorem dX12_flush_23 : decode cX12_flush 23 = .ok (.if_icmp .lt 34, 3) := by decide +kernel
theorem dX12_flush_26 : decode cX12_flush 26 = .ok (.aload_n 0, 1) := by decide +kernel
theorem dX12_flush_27 : decode cX12_flush 27 = .ok (.dup, 1) := by decide +kernel
theorem dX12_flush_28 : decode cX12_flush 28 = .ok (.getfield 268, 3) := by decide +kernel
theorem dX12_flush_31 : decode cX12_flush 31 = .ok (.iconst 1, 1) := by decide +kernel
theorem dX12_flush_32 : decode cX12_flush 32 = .ok (.isub, 1) := by decide +kernel
theorem dX12_flush_33 : decode cX12_flush 33 = .ok (.putfield 268, 3) := by decide +kernel
theorem dX12_flush_36 : decode cX12_flush 36 = .ok (.aload_n 0, 1) := by decide +kernel
theorem dX12_flush_37 : decode cX12_flush 37 = .ok (.aload_n 0, 1) := by decide +kernel
theorem dX12_flush_38 : decode cX12_flush 38 = .ok (.aload_n 0, 1) := by decide +kernel
theorem dX12_flush_39 : decode cX12_flush 39 = .ok (.getfield 96, 3) := by decide +kernel
theorem dX12_flush_42 : decode cX12_flush 42 = .ok (.aload_n 0, 1) := by decide +kernel
theorem dX12_flush_43 : decode cX12_flush 43 = .ok (.getfield 268, 3) := by decide +kernel
theorem dX12_flush_46 : decode cX12_flush 46 = .ok (.iaload, 1) := by decide +kernel
theorem dX12_flush_47 : decode cX12_flush 47 = .ok (.invokevirtual 274, 3) := by decide +kernel
theorem dX12_flush_50 : decode cX12_flush 50 = .ok (.iconst 0, 1) := by decide +kernel
theorem dX12_flush_51 : decode cX12_flush 51 = .ok (.invokevirtual 277, 3) := by decide +kernel
theorem dX12_flush_54 : decode cX12_flush 54 = .ok (.goto (-54), 3) := by decide +kernel
theorem dX12_flush_57 : decode cX12_flush 57 = .ok (.return_, 1) := by decide +kernel
theorem dX12_enter_0 : decode cX12_enter 0 = .ok (.aload_n 0, 1) := by decide +kernel
theorem dX12_enter_1 : decode cX12_enter 1 = .ok (.iload_n 1, 1) := by decide +kernel
theorem dX12_enter_2 : decode cX12_enter 2 = .ok (.invokevirtual 281, 3) := by decide +kernel
theorem dX12_enter_5 : decode cX12_enter 5 = .ok (.aload_n 0, 1) := by decide +kernel
theorem dX12_enter_6 : decode cX12_enter 6 = .ok (.getfield 96, 3) := by decide +kernel
theorem dX12_enter_9 : decode cX12_enter 9 = .ok (.aload_n 0, 1) := by decide +kernel
theorem dX12_enter_10 : decode cX12_enter 10 = .ok (.getfield 268, 3) := by decide +kernel
theorem dX12_enter_13 : decode cX12_enter 13 = .ok (.iload_n 1, 1) := by decide +kernel
theorem dX12_enter_14 : decode cX12_enter 14 = .ok (.iastore, 1) := by decide +kernel
theorem dX12_enter_15 : decode cX12_enter 15 = .ok (.aload_n 0, 1) := by decide +kernel
theorem dX12_enter_16 : decode cX12_enter 16 = .ok (.getfield 99, 3) := by decide +kernel
theorem dX12_enter_19 : decode cX12_enter 19 = .ok (.aload_n 0, 1) := by decide +kernel
theorem dX12_enter_20 : decode cX12_enter 20 = .ok (.getfield 268, 3) := by decide +kernel
theorem dX12_enter_23 : decode cX12_enter 23 = .ok (.iload_n 2, 1) := by decide +kernel
theorem dX12_enter_24 : decode cX12_enter 24 = .ok (.iastore, 1) := by decide +kernel
theorem dX12_enter_25 : decode cX12_enter 25 = .ok (.aload_n 0, 1) := by decide +kernel
theorem dX12_enter_26 : decode cX12_enter 26 = .ok (.dup, 1) := by decide +kernel
theorem dX12_enter_27 : decode cX12_enter 27 = .ok (.getfield 268, 3) := by decide +kernel
theorem dX12_enter_30 : decode cX12_enter 30 = .ok (.iconst 1, 1) := by decide +kernel
theorem dX12_enter_31 : decode cX12_enter 31 = .ok (.iadd, 1) := by decide +kernel
theorem dX12_enter_32 : decode cX12_enter 32 = .ok (.putfield 268, 3) := by decide +kernel
theorem dX12_enter_35 : decode cX12_enter 35 = .ok (.aload_n 0, 1) := by decide +kernel
theorem dX12_enter_36 : decode cX12_enter 36 = .ok (.dup, 1) := by decide +kernel
theorem dX12_enter_37 : decode cX12_enter 37 = .ok (.getfield 285, 3) := by decide +kernel
theorem dX12_enter_40 : decode cX12_enter 40 = .ok (.iconst 1, 1) := by decide +kernel
theorem dX12_enter_41 : decode cX12_enter 41 = .ok (.iadd, 1) := by decide +kernel
theorem dX12_enter_42 : decode cX12_enter 42 = .ok (.putfield 285, 3) := by decide +kernel
theorem dX12_enter_45 : decode cX12_enter 45 = .ok (.aload_n 0, 1) := by decide +kernel
theorem dX12_enter_46 : decode cX12_enter 46 = .ok (.getfield 102, 3) := by decide +kernel
theorem dX12_enter_49 : decode cX12_enter 49 = .ok (.aload_n 0, 1) := by decide +kernel
theorem dX12_enter_50 : decode cX12_enter 50 = .ok (.getfield 285, 3) := by decide +kernel
theorem dX12_enter_53 : decode cX12_enter 53 = .ok (.iconst 0, 1) := by decide +kernel
theorem dX12_enter_54 : decode cX12_enter 54 = .ok (.bastore, 1) := by decide +kernel
theorem dX12_enter_55 : decode cX12_enter 55 = .ok (.return_, 1) := by decide +kernel
theorem dX12_operand_0 : decode cX12_operand 0 = .ok (.aload_n 0, 1) := by decide +kernel
theorem dX12_operand_1 : decode cX12_operand 1 = .ok (.getfield 229, 3) := by decide +kernel
theorem dX12_operand_4 : decode cX12_operand 4 = .ok (.bipush 35, 2) := by decide +kernel
theorem dX12_operand_6 : decode cX12_operand 6 = .ok (.if_icmp .ne 18, 3) := by decide +kernel
theorem dX12_operand_9 : decode cX12_operand 9 = .ok (.aload_n 0, 1) := by decide +kernel
theorem dX12_operand_10 : decode cX12_operand 10 = .ok (.iconst 0, 1) := by decide +kernel
theorem dX12_operand_11 : decode cX12_operand 11 = .ok (.aload_n 0, 1) := by decide +kernel
theorem dX12_operand_12 : decode cX12_operand 12 = .ok (.getfield 235, 3) := by decide +kernel
theorem dX12_operand_15 : decode cX12_operand 15 = .ok (.invokevirtual 277, 3) := by decide +kernel
theorem dX12_operand_18 : decode cX12_operand 18 = .ok (.aload_n 0, 1) := by decide +kernel
theorem dX12_operand_19 : decode cX12_operand 19 = .ok (.invokevirtual 256, 3) := by decide +kernel
theorem dX12_operand_22 : decode cX12_operand 22 = .ok (.iconst 1, 1) := by decide +kernel
theorem dX12_operand_23 : decode cX12_operand 23 = .ok (.ireturn, 1) := by decide +kernel
theorem dX12_operand_24 : decode cX12_operand 24 = .ok (.aload_n 0, 1) := by decide +kernel
theorem dX12_operand_25 : decode cX12_operand 25 = .ok (.getfield 229, 3) := by decide +kernel
theorem dX12_operand_28 : decode cX12_operand 28 = .ok (.bipush 40, 2) := by decide +kernel
theorem dX12_operand_30 : decode cX12_operand 30 = .ok (.if_icmp .ne 12, 3) := by decide +kernel
theorem dX12_operand_33 : decode cX12_operand 33 = .ok (.aload_n 0, 1) := by decide +kernel
theorem dX12_operand_34 : decode cX12_operand 34 = .ok (.bipush 40, 2) := by decide +kernel
theorem dX12_operand_36 : decode cX12_operand 36 = .ok (.iconst 0, 1) := by decide +kernel
theorem dX12_operand_37 : decode cX12_operand 37 = .ok (.invokevirtual 288, 3) := by decide +kernel
theorem dX12_operand_40 : decode cX12_operand 40 = .ok (.iconst 0, 1) := by decide +kernel
theorem dX12_operand_41 : decode cX12_operand 41 = .ok (.ireturn, 1) := by decide +kernel
theorem dX12_operand_42 : decode cX12_operand 42 = .ok (.aload_n 0, 1) := by decide +kernel
theorem dX12_operand_43 : decode cX12_operand 43 = .ok (.getfield 229, 3) := by decide +kernel
theorem dX12_operand_46 : decode cX12_operand 46 = .ok (.bipush 110, 2) := by decide +kernel
theorem dX12_operand_48 : decode cX12_operand 48 = .ok (.if_icmp .ne 16, 3) := by decide +kernel
theorem dX12_operand_51 : decode cX12_operand 51 = .ok (.aload_n 0, 1) := by decide +kernel
theorem dX12_operand_52 : decode cX12_operand 52 = .ok (.getfield 81, 3) := by decide +kernel
theorem dX12_operand_55 : decode cX12_operand 55 = .ok (.aload_n 0, 1) := by decide +kernel
theorem dX12_operand_56 : decode cX12_operand 56 = .ok (.getfield 235, 3) := by decide +kernel
theorem dX12_operand_59 : decode cX12_operand 59 = .ok (.iaload, 1) := by decide +kernel
theorem dX12_operand_60 : decode cX12_operand 60 = .ok (.iconst 3, 1) := by decide +kernel
theorem dX12_operand_61 : decode cX12_operand 61 = .ok (.if_icmp .le 9, 3) := by decide +kernel
theorem dX12_operand_64 : decode cX12_operand 64 = .ok (.aload_n 0, 1) := by decide +kernel
theorem dX12_operand_65 : decode cX12_operand 65 = .ok (.invokevirtual 259, 3) := by decide +kernel
theorem dX12_operand_68 : decode cX12_operand 68 = .ok (.iconst 0, 1) := by decide +kernel
theorem dX12_operand_69 : decode cX12_operand 69 = .ok (.ireturn, 1) := by decide +kernel
theorem dX12_operand_70 : decode cX12_operand 70 = .ok (.aload_n 0, 1) := by decide +kernel
theorem dX12_operand_71 : decode cX12_operand 71 = .ok (.getfield 235, 3) := by decide +kernel
theorem dX12_operand_74 : decode cX12_operand 74 = .ok (.istore_n 1, 1) := by decide +kernel
theorem dX12_operand_75 : decode cX12_operand 75 = .ok (.aload_n 0, 1) := by decide +kernel
theorem dX12_operand_76 : decode cX12_operand 76 = .ok (.invokevirtual 256, 3) := by decide +kernel
theorem dX12_operand_79 : decode cX12_operand 79 = .ok (.aload_n 0, 1) := by decide +kernel
theorem dX12_operand_80 : decode cX12_operand 80 = .ok (.getfield 81, 3) := by decide +kernel
theorem dX12_operand_83 : decode cX12_operand 83 = .ok (.iload_n 1, 1) := by decide +kernel
theorem dX12_operand_84 : decode cX12_operand 84 = .ok (.iaload, 1) := by decide +kernel
theorem dX12_operand_85 : decode cX12_operand 85 = .ok (.iconst 3, 1) := by decide +kernel
theorem dX12_operand_86 : decode cX12_operand 86 = .ok (.if_icmp .ne 12, 3) := by decide +kernel
theorem dX12_operand_89 : decode cX12_operand 89 = .ok (.aload_n 0, 1) := by decide +kernel
theorem dX12_operand_90 : decode cX12_operand 90 = .ok (.bipush 91, 2) := by decide +kernel
theorem dX12_operand_92 : decode cX12_operand 92 = .ok (.iload_n 1, 1) := by decide +kernel
theorem dX12_operand_93 : decode cX12_operand 93 = .ok (.invokevirtual 288, 3) := by decide +kernel
theorem dX12_operand_96 : decode cX12_operand 96 = .ok (.iconst 0, 1) := by decide +kernel
theorem dX12_operand_97 : decode cX12_operand 97 = .ok (.ireturn, 1) := by decide +kernel
theorem dX12_operand_98 : decode cX12_operand 98 = .ok (.aload_n 0, 1) := by decide +kernel
theorem dX12_operand_99 : decode cX12_operand 99 = .ok (.getfield 81, 3) := by decide +kernel
theorem dX12_operand_102 : decode cX12_operand 102 = .ok (.iload_n 1, 1) := by decide +kernel
theorem dX12_operand_103 : decode cX12_operand 103 = .ok (.iaload, 1) := by decide +kernel
theorem dX12_operand_104 : decode cX12_operand 104 = .ok (.ifCond .ne 10, 3) := by decide +kernel
theorem dX12_operand_107 : decode cX12_operand 107 = .ok (.aload_n 0, 1) := by decide +kernel
theorem dX12_operand_108 : decode cX12_operand 108 = .ok (.getfield 81, 3) := by decide +kernel
theorem dX12_operand_111 : decode cX12_operand 111 = .ok (.iload_n 1, 1) := by decide +kernel
theorem dX12_operand_112 : decode cX12_operand 112 = .ok (.iconst 1, 1) := by decide +kernel
theorem dX12_operand_113 : decode cX12_operand 113 = .ok (.iastore, 1) := by decide +kernel
theorem dX12_operand_114 : decode cX12_operand 114 = .ok (.aload_n 0, 1) := by decide +kernel
theorem dX12_operand_115 : decode cX12_operand 115 = .ok (.iconst 1, 1) := by decide +kernel
theorem dX12_operand_116 : decode cX12_operand 116 = .ok (.iload_n 1, 1) := by decide +kernel
theorem dX12_operand_117 : decode cX12_operand 117 = .ok (.invokevirtual 277, 3) := by decide +kernel
theorem dX12_operand_120 : decode cX12_operand 120 = .ok (.iconst 1, 1) := by decide +kernel
theorem dX12_operand_121 : decode cX12_operand 121 = .ok (.ireturn, 1) := by decide +kernel
theorem dX12_behind_0 : decode cX12_behind 0 = .ok (.aload_n 0, 1) := by decide +kernel
theorem dX12_behind_1 : decode cX12_behind 1 = .ok (.aload_n 0, 1) := by decide +kernel
theorem dX12_behind_2 : decode cX12_behind 2 = .ok (.getfield 229, 3) := by decide +kernel
theorem dX12_behind_5 : decode cX12_behind 5 = .ok (.invokevirtual 271, 3) := by decide +kernel
theorem dX12_behind_8 : decode cX12_behind 8 = .ok (.istore_n 1, 1) := by decide +kernel
theorem dX12_behind_9 : decode cX12_behind 9 = .ok (.iload_n 1, 1) := by decide +kernel
theorem dX12_behind_10 : decode cX12_behind 10 = .ok (.iconst 1, 1) := by decide +kernel
theorem dX12_behind_11 : decode cX12_behind 11 = .ok (.if_icmp .gt 20, 3) := by decide +kernel
theorem dX12_behind_14 : decode cX12_behind 14 = .ok (.iload_n 1, 1) := by decide +kernel
theorem dX12_behind_15 : decode cX12_behind 15 = .ok (.iconst 1, 1) := by decide +kernel
theorem dX12_behind_16 : decode cX12_behind 16 = .ok (.if_icmp .ne 64, 3) := by decide +kernel
theorem dX12_behind_19 : decode cX12_behind 19 = .ok (.aload_n 0, 1) := by decide +kernel
theorem dX12_behind_20 : decode cX12_behind 20 = .ok (.getfield 102, 3) := by decide +kernel
theorem dX12_behind_23 : decode cX12_behind 23 = .ok (.aload_n 0, 1) := by decide +kernel
theorem dX12_behind_24 : decode cX12_behind 24 = .ok (.getfield 285, 3) := by decide +kernel
theorem dX12_behind_27 : decode cX12_behind 27 = .ok (.baload, 1) := by decide +kernel
theorem dX12_behind_28 : decode cX12_behind 28 = .ok (.ifCond .ne 52, 3) := by decide +kernel
theorem dX12_behind_31 : decode cX12_behind 31 = .ok (.aload_n 0, 1) := by decide +kernel
theorem dX12_behind_32 : decode cX12_behind 32 = .ok (.iload_n 1, 1) := by decide +kernel
theorem dX12_behind_33 : decode cX12_behind 33 = .ok (.invokevirtual 291, 3) := by decide +kernel
theorem dX12_behind_36 : decode cX12_behind 36 = .ok (.iload_n 1, 1) := by decide +kernel
theorem dX12_behind_37 : decode cX12_behind 37 = .ok (.iconst 1, 1) := by decide +kernel
theorem dX12_behind_38 : decode cX12_behind 38 = .ok (.if_icmp .ne 13, 3) := by decide +kernel
theorem dX12_behind_41 : decode cX12_behind 41 = .ok (.aload_n 0, 1) := by decide +kernel
theorem dX12_behind_42 : decode cX12_behind 42 = .ok (.getfield 102, 3) := by decide +kernel
theorem dX12_behind_45 : decode cX12_behind 45 = .ok (.aload_n 0, 1) := by decide +kernel
theorem dX12_behind_46 : decode cX12_behind 46 = .ok (.getfield 285, 3) := by decide +kernel
theorem dX12_behind_49 : decode cX12_behind 49 = .ok (.iconst 1, 1) := by decide +kernel
theorem dX12_behind_50 : decode cX12_behind 50 = .ok (.bastore, 1) := by decide +kernel
theorem dX12_behind_51 : decode cX12_behind 51 = .ok (.aload_n 0, 1) := by decide +kernel
theorem dX12_behind_52 : decode cX12_behind 52 = .ok (.getfield 96, 3) := by decide +kernel
theorem dX12_behind_55 : decode cX12_behind 55 = .ok (.aload_n 0, 1) := by decide +kernel
theorem dX12_behind_56 : decode cX12_behind 56 = .ok (.getfield 268, 3) := by decide +kernel
theorem dX12_behind_59 : decode cX12_behind 59 = .ok (.aload_n 0, 1) := by decide +kernel
theorem dX12_behind_60 : decode cX12_behind 60 = .ok (.getfield 229, 3) := by decide +kernel
theorem dX12_behind_63 : decode cX12_behind 63 = .ok (.iastore, 1) := by decide +kernel
theorem dX12_behind_64 : decode cX12_behind 64 = .ok (.aload_n 0, 1) := by decide +kernel
theorem dX12_behind_65 : decode cX12_behind 65 = .ok (.dup, 1) := by decide +kernel
theorem dX12_behind_66 : decode cX12_behind 66 = .ok (.getfield 268, 3) := by decide +kernel
theorem dX12_behind_69 : decode cX12_behind 69 = .ok (.iconst 1, 1) := by decide +kernel
theorem dX12_behind_70 : decode cX12_behind 70 = .ok (.iadd, 1) := by decide +kernel
theorem dX12_behind_71 : decode cX12_behind 71 = .ok (.putfield 268, 3) := by decide +kernel
theorem dX12_behind_74 : decode cX12_behind 74 = .ok (.aload_n 0, 1) := by decide +kernel
theorem dX12_behind_75 : decode cX12_behind 75 = .ok (.invokevirtual 256, 3) := by decide +kernel
theorem dX12_behind_78 : decode cX12_behind 78 = .ok (.iconst 1, 1) := by decide +kernel
theorem dX12_behind_79 : decode cX12_behind 79 = .ok (.ireturn, 1) := by decide +kernel
theorem dX12_behind_80 : decode cX12_behind 80 = .ok (.aload_n 0, 1) := by decide +kernel
theorem dX12_behind_81 : decode cX12_behind 81 = .ok (.getfield 285, 3) := by decide +kernel
theorem dX12_behind_84 : decode cX12_behind 84 = .ok (.ifCond .ne 16, 3) := by decide +kernel
theorem dX12_behind_87 : decode cX12_behind 87 = .ok (.aload_n 0, 1) := by decide +kernel
theorem dX12_behind_88 : decode cX12_behind 88 = .ok (.iconst 1, 1) := by decide +kernel
theorem dX12_behind_89 : decode cX12_behind 89 = .ok (.invokevirtual 291, 3) := by decide +kernel
theorem dX12_behind_92 : decode cX12_behind 92 = .ok (.aload_n 0, 1) := by decide +kernel
theorem dX12_behind_93 : decode cX12_behind 93 = .ok (.iconst (-1), 1) := by decide +kernel
theorem dX12_behind_94 : decode cX12_behind 94 = .ok (.iconst 0, 1) := by decide +kernel
theorem dX12_behind_95 : decode cX12_behind 95 = .ok (.invokevirtual 277, 3) := by decide +kernel
theorem dX12_behind_98 : decode cX12_behind 98 = .ok (.iconst 0, 1) := by decide +kernel
theorem dX12_behind_99 : decode cX12_behind 99 = .ok (.ireturn, 1) := by decide +kernel
theorem dX12_behind_100 : decode cX12_behind 100 = .ok (.aload_n 0, 1) := by decide +kernel
theorem dX12_behind_101 : decode cX12_behind 101 = .ok (.iconst 1, 1) := by decide +kernel
theorem dX12_behind_102 : decode cX12_behind 102 = .ok (.invokevirtual 291, 3) := by decide +kernel
theorem dX12_behind_105 : decode cX12_behind 105 = .ok (.aload_n 0, 1) := by decide +kernel
theorem dX12_behind_106 : decode cX12_behind 106 = .ok (.getfield 96, 3) := by decide +kernel
theorem dX12_behind_109 : decode cX12_behind 109 = .ok (.aload_n 0, 1) := by decide +kernel
theorem dX12_behind_110 : decode cX12_behind 110 = .ok (.getfield 268, 3) := by decide +kernel
theorem dX12_behind_113 : decode cX12_behind 113 = .ok (.iconst 1, 1) := by decide +kernel
theorem dX12_behind_114 : decode cX12_behind 114 = .ok (.isub, 1) := by decide +kernel
theorem dX12_behind_115 : decode cX12_behind 115 = .ok (.iaload, 1) := by decide +kernel
theorem dX12_behind_116 : decode cX12_behind 116 = .ok (.istore_n 2, 1) := by decide +kernel
theorem dX12_behind_117 : decode cX12_behind 117 = .ok (.aload_n 0, 1) := by decide +kernel
theorem dX12_behind_118 : decode cX12_behind 118 = .ok (.getfield 229, 3) := by decide +kernel
theorem dX12_behind_121 : decode cX12_behind 121 = .ok (.iload_n 2, 1) := by decide +kernel
theorem dX12_behind_122 : decode cX12_behind 122 = .ok (.bipush 40, 2) := by decide +kernel
theorem dX12_behind_124 : decode cX12_behind 124 = .ok (.if_icmp .ne 8, 3) := by decide +kernel
theorem dX12_behind_127 : decode cX12_behind 127 = .ok (.bipush 41, 2) := by decide +kernel
theorem dX12_behind_129 : decode cX12_behind 129 = .ok (.goto 5, 3) := by decide +kernel
theorem dX12_behind_132 : decode cX12_behind 132 = .ok (.bipush 93, 2) := by decide +kernel
theorem dX12_behind_134 : decode cX12_behind 134 = .ok (.if_icmp .eq 9, 3) := by decide +kernel
theorem dX12_behind_137 : decode cX12_behind 137 = .ok (.aload_n 0, 1) := by decide +kernel
theorem dX12_behind_138 : decode cX12_behind 138 = .ok (.invokevirtual 259, 3) := by decide +kernel
theorem dX12_behind_141 : decode cX12_behind 141 = .ok (.iconst 0, 1) := by decide +kernel
theorem dX12_behind_142 : decode cX12_behind 142 = .ok (.ireturn, 1) := by decide +kernel
theorem dX12_behind_143 : decode cX12_behind 143 = .ok (.aload_n 0, 1) := by decide +kernel
theorem dX12_behind_144 : decode cX12_behind 144 = .ok (.invokevirtual 256, 3) := by decide +kernel
theorem dX12_behind_147 : decode cX12_behind 147 = .ok (.aload_n 0, 1) := by decide +kernel
theorem dX12_behind_148 : decode cX12_behind 148 = .ok (.dup, 1) := by decide +kernel
theorem dX12_behind_149 : decode cX12_behind 149 = .ok (.getfield 268, 3) := by decide +kernel
theorem dX12_behind_152 : decode cX12_behind 152 = .ok (.iconst 1, 1) := by decide +kernel
theorem dX12_behind_153 : decode cX12_behind 153 = .ok (.isub, 1) := by decide +kernel
theorem dX12_behind_154 : decode cX12_behind 154 = .ok (.putfield 268, 3) := by decide +kernel
theorem dX12_behind_157 : decode cX12_behind 157 = .ok (.aload_n 0, 1) := by decide +kernel
theorem dX12_behind_158 : decode cX12_behind 158 = .ok (.dup, 1) := by decide +kernel
theorem dX12_behind_159 : decode cX12_behind 159 = .ok (.getfield 285, 3) := by decide +kernel
theorem dX12_behind_162 : decode cX12_behind 162 = .ok (.iconst 1, 1) := by decide +kernel
theorem dX12_behind_163 : decode cX12_behind 163 = .ok (.isub, 1) := by decide +kernel
theorem dX12_behind_164 : decode cX12_behind 164 = .ok (.putfield 285, 3) := by decide +kernel
theorem dX12_behind_167 : decode cX12_behind 167 = .ok (.aload_n 0, 1) := by decide +kernel
theorem dX12_behind_168 : decode cX12_behind 168 = .ok (.dup, 1) := by decide +kernel
theorem dX12_behind_169 : decode cX12_behind 169 = .ok (.getfield 262, 3) := by decide +kernel
theorem dX12_behind_172 : decode cX12_behind 172 = .ok (.iconst 1, 1) := by decide +kernel
theorem dX12_behind_173 : decode cX12_behind 173 = .ok (.isub, 1) := by decide +kernel
theorem dX12_behind_174 : decode cX12_behind 174 = .ok (.putfield 262, 3) := by decide +kernel
theorem dX12_behind_177 : decode cX12_behind 177 = .ok (.iload_n 2, 1) := by decide +kernel
theorem dX12_behind_178 : decode cX12_behind 178 = .ok (.bipush 91, 2) := by decide +kernel
theorem dX12_behind_180 : decode cX12_behind 180 = .ok (.if_icmp .ne 17, 3) := by decide +kernel
theorem dX12_behind_183 : decode cX12_behind 183 = .ok (.aload_n 0, 1) := by decide +kernel
theorem dX12_behind_184 : decode cX12_behind 184 = .ok (.iconst 3, 1) := by decide +kernel
theorem dX12_behind_185 : decode cX12_behind 185 = .ok (.aload_n 0, 1) := by decide +kernel
theorem dX12_behind_186 : decode cX12_behind 186 = .ok (.getfield 99, 3) := by decide +kernel
theorem dX12_behind_189 : decode cX12_behind 189 = .ok (.aload_n 0, 1) := by decide +kernel
theorem dX12_behind_190 : decode cX12_behind 190 = .ok (.getfield 268, 3) := by decide +kernel
theorem dX12_behind_193 : decode cX12_behind 193 = .ok (.iaload, 1) := by decide +kernel
theorem dX12_behind_194 : decode cX12_behind 194 = .ok (.invokevirtual 277, 3) := by decide +kernel
theorem dX12_behind_197 : decode cX12_behind 197 = .ok (.iconst 2, 1) := by decide +kernel
theorem dX12_behind_198 : decode cX12_behind 198 = .ok (.ireturn, 1) := by decide +kernel
theorem dX12_expression_0 : decode cX12_expression 0 = .ok (.aload_n 0, 1) := by decide +kernel
theorem dX12_expression_1 : decode cX12_expression 1 = .ok (.getfield 265, 3) := by decide +kernel
theorem dX12_expression_4 : decode cX12_expression 4 = .ok (.istore_n 1, 1) := by decide +kernel
theorem dX12_expression_5 : decode cX12_expression 5 = .ok (.aload_n 0, 1) := by decide +kernel
theorem dX12_expression_6 : decode cX12_expression 6 = .ok (.iconst 0, 1) := by decide +kernel
theorem dX12_expression_7 : decode cX12_expression 7 = .ok (.putfield 268, 3) := by decide +kernel
theorem dX12_expression_10 : decode cX12_expression 10 = .ok (.aload_n 0, 1) := by decide +kernel
theorem dX12_expression_11 : decode cX12_expression 11 = .ok (.iconst 0, 1) := by decide +kernel
theorem dX12_expression_12 : decode cX12_expression 12 = .ok (.putfield 285, 3) := by decide +kernel
theorem dX12_expression_15 : decode cX12_expression 15 = .ok (.aload_n 0, 1) := by decide +kernel
theorem dX12_expression_16 : decode cX12_expression 16 = .ok (.getfield 102, 3) := by decide +kernel
theorem dX12_expression_19 : decode cX12_expression 19 = .ok (.iconst 0, 1) := by decide +kernel
theorem dX12_expression_20 : decode cX12_expression 20 = .ok (.iconst 0, 1) := by decide +kernel
theorem dX12_expression_21 : decode cX12_expression 21 = .ok (.bastore, 1) := by decide +kernel
theorem dX12_expression_22 : decode cX12_expression 22 = .ok (.iconst 1, 1) := by decide +kernel
theorem dX12_expression_23 : decode cX12_expression 23 = .ok (.istore_n 2, 1) := by decide +kernel
theorem dX12_expression_24 : decode cX12_expression 24 = .ok (.aload_n 0, 1) := by decide +kernel
theorem dX12_expression_25 : decode cX12_expression 25 = .ok (.getfield 253, 3) := by decide +kernel
theorem dX12_expression_28 : decode cX12_expression 28 = .ok (.ifCond .ge 36, 3) := by decide +kernel
theorem dX12_expression_31 : decode cX12_expression 31 = .ok (.iload_n 2, 1) := by decide +kernel
theorem dX12_expression_32 : decode cX12_expression 32 = .ok (.ifCond .eq 32, 3) := by decide +kernel
theorem dX12_expression_35 : decode cX12_expression 35 = .ok (.iload_n 2, 1) := by decide +kernel
theorem dX12_expression_36 : decode cX12_expression 36 = .ok (.iconst 1, 1) := by decide +kernel
theorem dX12_expression_37 : decode cX12_expression 37 = .ok (.if_icmp .ne 19, 3) := by decide +kernel
theorem dX12_expression_40 : decode cX12_expression 40 = .ok (.aload_n 0, 1) := by decide +kernel
theorem dX12_expression_41 : decode cX12_expression 41 = .ok (.invokevirtual 294, 3) := by decide +kernel
theorem dX12_expression_44 : decode cX12_expression 44 = .ok (.ifCond .eq 7, 3) := by decide +kernel
theorem dX12_expression_47 : decode cX12_expression 47 = .ok (.iconst 2, 1) := by decide +kernel
theorem dX12_expression_48 : decode cX12_expression 48 = .ok (.goto 4, 3) := by decide +kernel
theorem dX12_expression_51 : decode cX12_expression 51 = .ok (.iconst 1, 1) := by decide +kernel
theorem dX12_expression_52 : decode cX12_expression 52 = .ok (.istore_n 2, 1) := by decide +kernel
theorem dX12_expression_53 : decode cX12_expression 53 = .ok (.goto (-29), 3) := by decide +kernel
theorem dX12_expression_56 : decode cX12_expression 56 = .ok (.aload_n 0, 1) := by decide +kernel
theorem dX12_expression_57 : decode cX12_expression 57 = .ok (.invokevirtual 298, 3) := by decide +kernel
theorem dX12_expression_60 : decode cX12_expression 60 = .ok (.istore_n 2, 1) := by decide +kernel
theorem dX12_expression_61 : decode cX12_expression 61 = .ok (.goto (-37), 3) := by decide +kernel
theorem dX12_expression_64 : decode cX12_expression 64 = .ok (.iload_n 1, 1) := by decide +kernel
theorem dX12_expression_65 : decode cX12_expression 65 = .ok (.ireturn, 1) := by decide +kernel
theorem dX12_block_0 : decode cX12_block 0 = .ok (.aload_n 0, 1) := by decide +kernel
theorem dX12_block_1 : decode cX12_block 1 = .ok (.bipush 123, 2) := by decide +kernel
theorem dX12_block_3 : decode cX12_block 3 = .ok (.invokevirtual 281, 3) := by decide +kernel
theorem dX12_block_6 : decode cX12_block 6 = .ok (.aload_n 0, 1) := by decide +kernel
theorem dX12_block_7 : decode cX12_block 7 = .ok (.getfield 253, 3) := by decide +kernel
theorem dX12_block_10 : decode cX12_block 10 = .ok (.ifCond .lt 4, 3) := by decide +kernel
theorem dX12_block_13 : decode cX12_block 13 = .ok (.return_, 1) := by decide +kernel
theorem dX12_block_14 : decode cX12_block 14 = .ok (.aload_n 0, 1) := by decide +kernel
theorem dX12_block_15 : decode cX12_block 15 = .ok (.getfield 87, 3) := by decide +kernel
theorem dX12_block_18 : decode cX12_block 18 = .ok (.aload_n 0, 1) := by decide +kernel
theorem dX12_block_19 : decode cX12_block 19 = .ok (.getfield 302, 3) := by decide +kernel
theorem dX12_block_22 : decode cX12_block 22 = .ok (.iload_n 1, 1) := by decide +kernel
theorem dX12_block_23 : decode cX12_block 23 = .ok (.iastore, 1) := by decide +kernel
theorem dX12_block_24 : decode cX12_block 24 = .ok (.aload_n 0, 1) := by decide +kernel
theorem dX12_block_25 : decode cX12_block 25 = .ok (.getfield 90, 3) := by decide +kernel
theorem dX12_block_28 : decode cX12_block 28 = .ok (.aload_n 0, 1) := by decide +kernel
theorem dX12_block_29 : decode cX12_block 29 = .ok (.getfield 302, 3) := by decide +kernel
theorem dX12_block_32 : decode cX12_block 32 = .ok (.iload_n 2, 1) := by decide +kernel
theorem dX12_block_33 : decode cX12_block 33 = .ok (.iastore, 1) := by decide +kernel
theorem dX12_block_34 : decode cX12_block 34 = .ok (.aload_n 0, 1) := by decide +kernel
theorem dX12_block_35 : decode cX12_block 35 = .ok (.getfield 93, 3) := by decide +kernel
theorem dX12_block_38 : decode cX12_block 38 = .ok (.aload_n 0, 1) := by decide +kernel
theorem dX12_block_39 : decode cX12_block 39 = .ok (.getfield 302, 3) := by decide +kernel
theorem dX12_block_42 : decode cX12_block 42 = .ok (.iconst (-1), 1) := by decide +kernel
theorem dX12_block_43 : decode cX12_block 43 = .ok (.iastore, 1) := by decide +kernel
theorem dX12_block_44 : decode cX12_block 44 = .ok (.aload_n 0, 1) := by decide +kernel
theorem dX12_block_45 : decode cX12_block 45 = .ok (.dup, 1) := by decide +kernel
theorem dX12_block_46 : decode cX12_block 46 = .ok (.getfield 302, 3) := by decide +kernel
theorem dX12_block_49 : decode cX12_block 49 = .ok (.iconst 1, 1) := by decide +kernel
theorem dX12_block_50 : decode cX12_block 50 = .ok (.iadd, 1) := by decide +kernel
theorem dX12_block_51 : decode cX12_block 51 = .ok (.putfield 302, 3) := by decide +kernel
theorem dX12_block_54 : decode cX12_block 54 = .ok (.return_, 1) := by decide +kernel
theorem dX12_statementAt_0 : decode cX12_statementAt 0 = .ok (.aload_n 0, 1) := by decide +kernel
theorem dX12_statementAt_1 : decode cX12_statementAt 1 = .ok (.getfield 305, 3) := by decide +kernel
theorem dX12_statementAt_4 : decode cX12_statementAt 4 = .ok (.istore_n 2, 1) := by decide +kernel
theorem dX12_statementAt_5 : decode cX12_statementAt 5 = .ok (.aload_n 0, 1) := by decide +kernel
theorem dX12_statementAt_6 : decode cX12_statementAt 6 = .ok (.dup, 1) := by decide +kernel
theorem dX12_statementAt_7 : decode cX12_statementAt 7 = .ok (.getfield 305, 3) := by decide +kernel
theorem dX12_statementAt_10 : decode cX12_statementAt 10 = .ok (.iconst 1, 1) := by decide +kernel
theorem dX12_statementAt_11 : decode cX12_statementAt 11 = .ok (.iadd, 1) := by decide +kernel
theorem dX12_statementAt_12 : decode cX12_statementAt 12 = .ok (.putfield 305, 3) := by decide +kernel
theorem dX12_statementAt_15 : decode cX12_statementAt 15 = .ok (.aload_n 0, 1) := by decide +kernel
theorem dX12_statementAt_16 : decode cX12_statementAt 16 = .ok (.getfield 45, 3) := by decide +kernel
theorem dX12_statementAt_19 : decode cX12_statementAt 19 = .ok (.iload_n 2, 1) := by decide +kernel
theorem dX12_statementAt_20 : decode cX12_statementAt 20 = .ok (.iload_n 1, 1) := by decide +kernel
theorem dX12_statementAt_21 : decode cX12_statementAt 21 = .ok (.iastore, 1) := by decide +kernel
theorem dX12_statementAt_22 : decode cX12_statementAt 22 = .ok (.aload_n 0, 1) := by decide +kernel
theorem dX12_statementAt_23 : decode cX12_statementAt 23 = .ok (.getfield 66, 3) := by decide +kernel
theorem dX12_statementAt_26 : decode cX12_statementAt 26 = .ok (.iload_n 2, 1) := by decide +kernel
theorem dX12_statementAt_27 : decode cX12_statementAt 27 = .ok (.iconst (-1), 1) := by decide +kernel
theorem dX12_statementAt_28 : decode cX12_statementAt 28 = .ok (.iastore, 1) := by decide +kernel
theorem dX12_statementAt_29 : decode cX12_statementAt 29 = .ok (.aload_n 0, 1) := by decide +kernel
theorem dX12_statementAt_30 : decode cX12_statementAt 30 = .ok (.getfield 60, 3) := by decide +kernel
theorem dX12_statementAt_33 : decode cX12_statementAt 33 = .ok (.iload_n 2, 1) := by decide +kernel
theorem dX12_statementAt_34 : decode cX12_statementAt 34 = .ok (.iconst (-1), 1) := by decide +kernel
theorem dX12_statementAt_35 : decode cX12_statementAt 35 = .ok (.iastore, 1) := by decide +kernel
theorem dX12_statementAt_36 : decode cX12_statementAt 36 = .ok (.aload_n 0, 1) := by decide +kernel
theorem dX12_statementAt_37 : decode cX12_statementAt 37 = .ok (.getfield 63, 3) := by decide +kernel
theorem dX12_statementAt_40 : decode cX12_statementAt 40 = .ok (.iload_n 2, 1) := by decide +kernel
theorem dX12_statementAt_41 : decode cX12_statementAt 41 = .ok (.iconst (-1), 1) := by decide +kernel
theorem dX12_statementAt_42 : decode cX12_statementAt 42 = .ok (.iastore, 1) := by decide +kernel
theorem dX12_statementAt_43 : decode cX12_statementAt 43 = .ok (.aload_n 0, 1) := by decide +kernel
theorem dX12_statementAt_44 : decode cX12_statementAt 44 = .ok (.getfield 51, 3) := by decide +kernel
theorem dX12_statementAt_47 : decode cX12_statementAt 47 = .ok (.iload_n 2, 1) := by decide +kernel
theorem dX12_statementAt_48 : decode cX12_statementAt 48 = .ok (.iconst 0, 1) := by decide +kernel
theorem dX12_statementAt_49 : decode cX12_statementAt 49 = .ok (.iastore, 1) := by decide +kernel
theorem dX12_statementAt_50 : decode cX12_statementAt 50 = .ok (.aload_n 0, 1) := by decide +kernel
theorem dX12_statementAt_51 : decode cX12_statementAt 51 = .ok (.getfield 302, 3) := by decide +kernel
theorem dX12_statementAt_54 : decode cX12_statementAt 54 = .ok (.iconst 1, 1) := by decide +kernel
theorem dX12_statementAt_55 : decode cX12_statementAt 55 = .ok (.isub, 1) := by decide +kernel
theorem dX12_statementAt_56 : decode cX12_statementAt 56 = .ok (.istore_n 3, 1) := by decide +kernel
theorem dX12_statementAt_57 : decode cX12_statementAt 57 = .ok (.aload_n 0, 1) := by decide +kernel
theorem dX12_statementAt_58 : decode cX12_statementAt 58 = .ok (.getfield 93, 3) := by decide +kernel
theorem dX12_statementAt_61 : decode cX12_statementAt 61 = .ok (.iload_n 3, 1) := by decide +kernel
theorem dX12_statementAt_62 : decode cX12_statementAt 62 = .ok (.iaload, 1) := by decide +kernel
theorem dX12_statementAt_63 : decode cX12_statementAt 63 = .ok (.ifCond .lt 18, 3) := by decide +kernel
theorem dX12_statementAt_66 : decode cX12_statementAt 66 = .ok (.aload_n 0, 1) := by decide +kernel
theorem dX12_statementAt_67 : decode cX12_statementAt 67 = .ok (.getfield 66, 3) := by decide +kernel
theorem dX12_statementAt_70 : decode cX12_statementAt 70 = .ok (.aload_n 0, 1) := by decide +kernel
theorem dX12_statementAt_71 : decode cX12_statementAt 71 = .ok (.getfield 93, 3) := by decide +kernel
theorem dX12_statementAt_74 : decode cX12_statementAt 74 = .ok (.iload_n 3, 1) := by decide +kernel
theorem dX12_statementAt_75 : decode cX12_statementAt 75 = .ok (.iaload, 1) := by decide +kernel
theorem dX12_statementAt_76 : decode cX12_statementAt 76 = .ok (.iload_n 2, 1) := by decide +kernel
theorem dX12_statementAt_77 : decode cX12_statementAt 77 = .ok (.iastore, 1) := by decide +kernel
theorem dX12_statementAt_78 : decode cX12_statementAt 78 = .ok (.goto 95, 3) := by decide +kernel
theorem dX12_statementAt_81 : decode cX12_statementAt 81 = .ok (.aload_n 0, 1) := by decide +kernel
theorem dX12_statementAt_82 : decode cX12_statementAt 82 = .ok (.getfield 87, 3) := by decide +kernel
theorem dX12_statementAt_85 : decode cX12_statementAt 85 = .ok (.iload_n 3, 1) := by decide +kernel
theorem dX12_statementAt_86 : decode cX12_statementAt 86 = .ok (.iaload, 1) := by decide +kernel
theorem dX12_statementAt_87 : decode cX12_statementAt 87 = .ok (.ifCond .ne 16, 3) := by decide +kernel
theorem dX12_statementAt_90 : decode cX12_statementAt 90 = .ok (.aload_n 0, 1) := by decide +kernel
theorem dX12_statementAt_91 : decode cX12_statementAt 91 = .ok (.getfield 78, 3) := by decide +kernel
theorem dX12_statementAt_94 : decode cX12_statementAt 94 = .ok (.aload_n 0, 1) := by decide +kernel
theorem dX12_statementAt_95 : decode cX12_statementAt 95 = .ok (.getfield 308, 3) := by decide +kernel
theorem dX12_statementAt_98 : decode cX12_statementAt 98 = .ok (.iload_n 2, 1) := by decide +kernel
theorem dX12_statementAt_99 : decode cX12_statementAt 99 = .ok (.iastore, 1) := by decide +kernel
theorem dX12_statementAt_100 : decode cX12_statementAt 100 = .ok (.goto 73, 3) := by decide +kernel
theorem dX12_statementAt_103 : decode cX12_statementAt 103 = .ok (.aload_n 0, 1) := by decide +kernel
theorem dX12_statementAt_104 : decode cX12_statementAt 104 = .ok (.getfield 87, 3) := by decide +kernel
theorem dX12_statementAt_107 : decode cX12_statementAt 107 = .ok (.iload_n 3, 1) := by decide +kernel
theorem dX12_statementAt_108 : decode cX12_statementAt 108 = .ok (.iaload, 1) := by decide +kernel
theorem dX12_statementAt_109 : decode cX12_statementAt 109 = .ok (.iconst 1, 1) := by decide +kernel
theorem dX12_statementAt_110 : decode cX12_statementAt 110 = .ok (.if_icmp .ne 26, 3) := by decide +kernel
theorem dX12_statementAt_113 : decode cX12_statementAt 113 = .ok (.aload_n 0, 1) := by decide +kernel
theorem dX12_statementAt_114 : decode cX12_statementAt 114 = .ok (.getfield 75, 3) := by decide +kernel
theorem dX12_statementAt_117 : decode cX12_statementAt 117 = .ok (.bipush 26, 2) := by decide +kernel
theorem dX12_statementAt_119 : decode cX12_statementAt 119 = .ok (.aload_n 0, 1) := by decide +kernel
theorem dX12_statementAt_120 : decode cX12_statementAt 120 = .ok (.getfield 308, 3) := by decide +kernel
theorem dX12_statementAt_123 : decode cX12_statementAt 123 = .ok (.imul, 1) := by decide +kernel
theorem dX12_statementAt_124 : decode cX12_statementAt 124 = .ok (.aload_n 0, 1) := by decide +kernel
theorem dX12_statementAt_125 : decode cX12_statementAt 125 = .ok (.getfield 90, 3) := by decide +kernel
theorem dX12_statementAt_128 : decode cX12_statementAt 128 = .ok (.iload_n 3, 1) := by decide +kernel
theorem dX12_statementAt_129 : decode cX12_statementAt 129 = .ok (.iaload, 1) := by decide +kernel
theorem dX12_statementAt_130 : decode cX12_statementAt 130 = .ok (.iadd, 1) := by decide +kernel
theorem dX12_statementAt_131 : decode cX12_statementAt 131 = .ok (.iload_n 2, 1) := by decide +kernel
theorem dX12_statementAt_132 : decode cX12_statementAt 132 = .ok (.iastore, 1) := by decide +kernel
theorem dX12_statementAt_133 : decode cX12_statementAt 133 = .ok (.goto 40, 3) := by decide +kernel
theorem dX12_statementAt_136 : decode cX12_statementAt 136 = .ok (.aload_n 0, 1) := by decide +kernel
theorem dX12_statementAt_137 : decode cX12_statementAt 137 = .ok (.getfield 87, 3) := by decide +kernel
theorem dX12_statementAt_140 : decode cX12_statementAt 140 = .ok (.iload_n 3, 1) := by decide +kernel
theorem dX12_statementAt_141 : decode cX12_statementAt 141 = .ok (.iaload, 1) := by decide +kernel
theorem dX12_statementAt_142 : decode cX12_statementAt 142 = .ok (.iconst 2, 1) := by decide +kernel
theorem dX12_statementAt_143 : decode cX12_statementAt 143 = .ok (.if_icmp .ne 18, 3) := by decide +kernel
theorem dX12_statementAt_146 : decode cX12_statementAt 146 = .ok (.aload_n 0, 1) := by decide +kernel
theorem dX12_statementAt_147 : decode cX12_statementAt 147 = .ok (.getfield 60, 3) := by decide +kernel
theorem dX12_statementAt_150 : decode cX12_statementAt 150 = .ok (.aload_n 0, 1) := by decide +kernel
theorem dX12_statementAt_151 : decode cX12_statementAt 151 = .ok (.getfield 90, 3) := by decide +kernel
theorem dX12_statementAt_154 : decode cX12_statementAt 154 = .ok (.iload_n 3, 1) := by decide +kernel
theorem dX12_statementAt_155 : decode cX12_statementAt 155 = .ok (.iaload, 1) := by decide +kernel
theorem dX12_statementAt_156 : decode cX12_statementAt 156 = .ok (.iload_n 2, 1) := by decide +kernel
theorem dX12_statementAt_157 : decode cX12_statementAt 157 = .ok (.iastore, 1) := by decide +kernel
theorem dX12_statementAt_158 : decode cX12_statementAt 158 = .ok (.goto 15, 3) := by decide +kernel
theorem dX12_statementAt_161 : decode cX12_statementAt 161 = .ok (.aload_n 0, 1) := by decide +kernel
theorem dX12_statementAt_162 : decode cX12_statementAt 162 = .ok (.getfield 63, 3) := by decide +kernel
theorem dX12_statementAt_165 : decode cX12_statementAt 165 = .ok (.aload_n 0, 1) := by decide +kernel
theorem dX12_statementAt_166 : decode cX12_statementAt 166 = .ok (.getfield 90, 3) := by decide +kernel
theorem dX12_statementAt_169 : decode cX12_statementAt 169 = .ok (.iload_n 3, 1) := by decide +kernel
theorem dX12_statementAt_170 : decode cX12_statementAt 170 = .ok (.iaload, 1) := by decide +kernel
theorem dX12_statementAt_171 : decode cX12_statementAt 171 = .ok (.iload_n 2, 1) := by decide +kernel
theorem dX12_statementAt_172 : decode cX12_statementAt 172 = .ok (.iastore, 1) := by decide +kernel
theorem dX12_statementAt_173 : decode cX12_statementAt 173 = .ok (.aload_n 0, 1) := by decide +kernel
theorem dX12_statementAt_174 : decode cX12_statementAt 174 = .ok (.getfield 93, 3) := by decide +kernel
theorem dX12_statementAt_177 : decode cX12_statementAt 177 = .ok (.iload_n 3, 1) := by decide +kernel
theorem dX12_statementAt_178 : decode cX12_statementAt 178 = .ok (.iload_n 2, 1) := by decide +kernel
theorem dX12_statementAt_179 : decode cX12_statementAt 179 = .ok (.iastore, 1) := by decide +kernel
theorem dX12_statementAt_180 : decode cX12_statementAt 180 = .ok (.iload_n 2, 1) := by decide +kernel
theorem dX12_statementAt_181 : decode cX12_statementAt 181 = .ok (.ireturn, 1) := by decide +kernel
theorem dX12_named_0 : decode cX12_named 0 = .ok (.aload_n 0, 1) := by decide +kernel
theorem dX12_named_1 : decode cX12_named 1 = .ok (.getfield 235, 3) := by decide +kernel
theorem dX12_named_4 : decode cX12_named 4 = .ok (.istore_n 2, 1) := by decide +kernel
theorem dX12_named_5 : decode cX12_named 5 = .ok (.aload_n 0, 1) := by decide +kernel
theorem dX12_named_6 : decode cX12_named 6 = .ok (.getfield 81, 3) := by decide +kernel
theorem dX12_named_9 : decode cX12_named 9 = .ok (.iload_n 2, 1) := by decide +kernel
theorem dX12_named_10 : decode cX12_named 10 = .ok (.iaload, 1) := by decide +kernel
theorem dX12_named_11 : decode cX12_named 11 = .ok (.iconst 3, 1) := by decide +kernel
theorem dX12_named_12 : decode cX12_named 12 = .ok (.if_icmp .le 8, 3) := by decide +kernel
theorem dX12_named_15 : decode cX12_named 15 = .ok (.aload_n 0, 1) := by decide +kernel
theorem dX12_named_16 : decode cX12_named 16 = .ok (.invokevirtual 259, 3) := by decide +kernel
theorem dX12_named_19 : decode cX12_named 19 = .ok (.return_, 1) := by decide +kernel
theorem dX12_named_20 : decode cX12_named 20 = .ok (.aload_n 0, 1) := by decide +kernel
theorem dX12_named_21 : decode cX12_named 21 = .ok (.invokevirtual 256, 3) := by decide +kernel
theorem dX12_named_24 : decode cX12_named 24 = .ok (.aload_n 0, 1) := by decide +kernel
theorem dX12_named_25 : decode cX12_named 25 = .ok (.getfield 48, 3) := by decide +kernel
theorem dX12_named_28 : decode cX12_named 28 = .ok (.iload_n 1, 1) := by decide +kernel
theorem dX12_named_29 : decode cX12_named 29 = .ok (.iload_n 2, 1) := by decide +kernel
theorem dX12_named_30 : decode cX12_named 30 = .ok (.iastore, 1) := by decide +kernel
theorem dX12_named_31 : decode cX12_named 31 = .ok (.aload_n 0, 1) := by decide +kernel
theorem dX12_named_32 : decode cX12_named 32 = .ok (.getfield 42, 3) := by decide +kernel
theorem dX12_named_35 : decode cX12_named 35 = .ok (.iload_n 1, 1) := by decide +kernel
theorem dX12_named_36 : decode cX12_named 36 = .ok (.aload_n 0, 1) := by decide +kernel
theorem dX12_named_37 : decode cX12_named 37 = .ok (.getfield 81, 3) := by decide +kernel
theorem dX12_named_40 : decode cX12_named 40 = .ok (.iload_n 2, 1) := by decide +kernel
theorem dX12_named_41 : decode cX12_named 41 = .ok (.iaload, 1) := by decide +kernel
theorem dX12_named_42 : decode cX12_named 42 = .ok (.iconst 3, 1) := by decide +kernel
theorem dX12_named_43 : decode cX12_named 43 = .ok (.if_icmp .ne 7, 3) := by decide +kernel
theorem dX12_named_46 : decode cX12_named 46 = .ok (.iconst 2, 1) := by decide +kernel
theorem dX12_named_47 : decode cX12_named 47 = .ok (.goto 4, 3) := by decide +kernel
theorem dX12_named_50 : decode cX12_named 50 = .ok (.iconst 1, 1) := by decide +kernel
theorem dX12_named_51 : decode cX12_named 51 = .ok (.iastore, 1) := by decide +kernel
theorem dX12_named_52 : decode cX12_named 52 = .ok (.aload_n 0, 1) := by decide +kernel
theorem dX12_named_53 : decode cX12_named 53 = .ok (.getfield 81, 3) := by decide +kernel
theorem dX12_named_56 : decode cX12_named 56 = .ok (.iload_n 2, 1) := by decide +kernel
theorem dX12_named_57 : decode cX12_named 57 = .ok (.iaload, 1) := by decide +kernel
theorem dX12_named_58 : decode cX12_named 58 = .ok (.iconst 3, 1) := by decide +kernel
theorem dX12_named_59 : decode cX12_named 59 = .ok (.if_icmp .ne 45, 3) := by decide +kernel
theorem dX12_named_62 : decode cX12_named 62 = .ok (.aload_n 0, 1) := by decide +kernel
theorem dX12_named_63 : decode cX12_named 63 = .ok (.bipush 91, 2) := by decide +kernel
theorem dX12_named_65 : decode cX12_named 65 = .ok (.invokevirtual 281, 3) := by decide +kernel
theorem dX12_named_68 : decode cX12_named 68 = .ok (.aload_n 0, 1) := by decide +kernel
theorem dX12_named_69 : decode cX12_named 69 = .ok (.getfield 253, 3) := by decide +kernel
theorem dX12_named_72 : decode cX12_named 72 = .ok (.ifCond .ge 13, 3) := by decide +kernel
theorem dX12_named_75 : decode cX12_named 75 = .ok (.aload_n 0, 1) := by decide +kernel
theorem dX12_named_76 : decode cX12_named 76 = .ok (.getfield 54, 3) := by decide +kernel
theorem dX12_named_79 : decode cX12_named 79 = .ok (.iload_n 1, 1) := by decide +kernel
theorem dX12_named_80 : decode cX12_named 80 = .ok (.aload_n 0, 1) := by decide +kernel
theorem dX12_named_81 : decode cX12_named 81 = .ok (.invokevirtual 311, 3) := by decide +kernel
theorem dX12_named_84 : decode cX12_named 84 = .ok (.iastore, 1) := by decide +kernel
theorem dX12_named_85 : decode cX12_named 85 = .ok (.aload_n 0, 1) := by decide +kernel
theorem dX12_named_86 : decode cX12_named 86 = .ok (.bipush 93, 2) := by decide +kernel
theorem dX12_named_88 : decode cX12_named 88 = .ok (.invokevirtual 314, 3) := by decide +kernel
theorem dX12_named_91 : decode cX12_named 91 = .ok (.aload_n 0, 1) := by decide +kernel
theorem dX12_named_92 : decode cX12_named 92 = .ok (.dup, 1) := by decide +kernel
theorem dX12_named_93 : decode cX12_named 93 = .ok (.getfield 262, 3) := by decide +kernel
theorem dX12_named_96 : decode cX12_named 96 = .ok (.iconst 1, 1) := by decide +kernel
theorem dX12_named_97 : decode cX12_named 97 = .ok (.isub, 1) := by decide +kernel
theorem dX12_named_98 : decode cX12_named 98 = .ok (.putfield 262, 3) := by decide +kernel
theorem dX12_named_101 : decode cX12_named 101 = .ok (.goto 19, 3) := by decide +kernel
theorem dX12_named_104 : decode cX12_named 104 = .ok (.aload_n 0, 1) := by decide +kernel
theorem dX12_named_105 : decode cX12_named 105 = .ok (.getfield 81, 3) := by decide +kernel
theorem dX12_named_108 : decode cX12_named 108 = .ok (.iload_n 2, 1) := by decide +kernel
theorem dX12_named_109 : decode cX12_named 109 = .ok (.iaload, 1) := by decide +kernel
theorem dX12_named_110 : decode cX12_named 110 = .ok (.ifCond .ne 10, 3) := by decide +kernel
theorem dX12_named_113 : decode cX12_named 113 = .ok (.aload_n 0, 1) := by decide +kernel
theorem dX12_named_114 : decode cX12_named 114 = .ok (.getfield 81, 3) := by decide +kernel
theorem dX12_named_117 : decode cX12_named 117 = .ok (.iload_n 2, 1) := by decide +kernel
theorem dX12_named_118 : decode cX12_named 118 = .ok (.iconst 1, 1) := by decide +kernel
theorem dX12_named_119 : decode cX12_named 119 = .ok (.iastore, 1) := by decide +kernel
theorem dX12_named_120 : decode cX12_named 120 = .ok (.aload_n 0, 1) := by decide +kernel
theorem dX12_named_121 : decode cX12_named 121 = .ok (.bipush 61, 2) := by decide +kernel
theorem dX12_named_123 : decode cX12_named 123 = .ok (.invokevirtual 314, 3) := by decide +kernel
theorem dX12_named_126 : decode cX12_named 126 = .ok (.aload_n 0, 1) := by decide +kernel
theorem dX12_named_127 : decode cX12_named 127 = .ok (.getfield 253, 3) := by decide +kernel
theorem dX12_named_130 : decode cX12_named 130 = .ok (.ifCond .ge 13, 3) := by decide +kernel
theorem dX12_named_133 : decode cX12_named 133 = .ok (.aload_n 0, 1) := by decide +kernel
theorem dX12_named_134 : decode cX12_named 134 = .ok (.getfield 57, 3) := by decide +kernel
theorem dX12_named_137 : decode cX12_named 137 = .ok (.iload_n 1, 1) := by decide +kernel
theorem dX12_named_138 : decode cX12_named 138 = .ok (.aload_n 0, 1) := by decide +kernel
theorem dX12_named_139 : decode cX12_named 139 = .ok (.invokevirtual 311, 3) := by decide +kernel
theorem dX12_named_142 : decode cX12_named 142 = .ok (.iastore, 1) := by decide +kernel
theorem dX12_named_143 : decode cX12_named 143 = .ok (.aload_n 0, 1) := by decide +kernel
theorem dX12_named_144 : decode cX12_named 144 = .ok (.bipush 59, 2) := by decide +kernel
theorem dX12_named_146 : decode cX12_named 146 = .ok (.invokevirtual 314, 3) := by decide +kernel
theorem dX12_named_149 : decode cX12_named 149 = .ok (.return_, 1) := by decide +kernel
theorem dX12_moving_0 : decode cX12_moving 0 = .ok (.aload_n 0, 1) := by decide +kernel
theorem dX12_moving_1 : decode cX12_moving 1 = .ok (.getfield 42, 3) := by decide +kernel
theorem dX12_moving_4 : decode cX12_moving 4 = .ok (.iload_n 1, 1) := by decide +kernel
theorem dX12_moving_5 : decode cX12_moving 5 = .ok (.iload_n 2, 1) := by decide +kernel
theorem dX12_moving_6 : decode cX12_moving 6 = .ok (.bipush 7, 2) := by decide +kernel
theorem dX12_moving_8 : decode cX12_moving 8 = .ok (.if_icmp .ne 7, 3) := by decide +kernel
theorem dX12_moving_11 : decode cX12_moving 11 = .ok (.iconst 5, 1) := by decide +kernel
theorem dX12_moving_12 : decode cX12_moving 12 = .ok (.goto 5, 3) := by decide +kernel
theorem dX12_moving_15 : decode cX12_moving 15 = .ok (.bipush 6, 2) := by decide +kernel
theorem dX12_moving_17 : decode cX12_moving 17 = .ok (.iastore, 1) := by decide +kernel
theorem dX12_moving_18 : decode cX12_moving 18 = .ok (.iload_n 2, 1) := by decide +kernel
theorem dX12_moving_19 : decode cX12_moving 19 = .ok (.bipush 7, 2) := by decide +kernel
theorem dX12_moving_21 : decode cX12_moving 21 = .ok (.if_icmp .ne 69, 3) := by decide +kernel
theorem dX12_moving_24 : decode cX12_moving 24 = .ok (.aload_n 0, 1) := by decide +kernel
theorem dX12_moving_25 : decode cX12_moving 25 = .ok (.getfield 229, 3) := by decide +kernel
theorem dX12_moving_28 : decode cX12_moving 28 = .ok (.bipush 110, 2) := by decide +kernel
theorem dX12_moving_30 : decode cX12_moving 30 = .ok (.if_icmp .ne 16, 3) := by decide +kernel
theorem dX12_moving_33 : decode cX12_moving 33 = .ok (.aload_n 0, 1) := by decide +kernel
theorem dX12_moving_34 : decode cX12_moving 34 = .ok (.getfield 81, 3) := by decide +kernel
theorem dX12_moving_37 : decode cX12_moving 37 = .ok (.aload_n 0, 1) := by decide +kernel
theorem dX12_moving_38 : decode cX12_moving 38 = .ok (.getfield 235, 3) := by decide +kernel
theorem dX12_moving_41 : decode cX12_moving 41 = .ok (.iaload, 1) := by decide +kernel
theorem dX12_moving_42 : decode cX12_moving 42 = .ok (.iconst 2, 1) := by decide +kernel
theorem dX12_moving_43 : decode cX12_moving 43 = .ok (.if_icmp .le 8, 3) := by decide +kernel
theorem dX12_moving_46 : decode cX12_moving 46 = .ok (.aload_n 0, 1) := by decide +kernel
theorem dX12_moving_47 : decode cX12_moving 47 = .ok (.invokevirtual 259, 3) := by decide +kernel
theorem dX12_moving_50 : decode cX12_moving 50 = .ok (.return_, 1) := by decide +kernel
theorem dX12_moving_51 : decode cX12_moving 51 = .ok (.aload_n 0, 1) := by decide +kernel
theorem dX12_moving_52 : decode cX12_moving 52 = .ok (.getfield 48, 3) := by decide +kernel
theorem dX12_moving_55 : decode cX12_moving 55 = .ok (.iload_n 1, 1) := by decide +kernel
theorem dX12_moving_56 : decode cX12_moving 56 = .ok (.aload_n 0, 1) := by decide +kernel
theorem dX12_moving_57 : decode cX12_moving 57 = .ok (.getfield 235, 3) := by decide +kernel
theorem dX12_moving_60 : decode cX12_moving 60 = .ok (.iastore, 1) := by decide +kernel
theorem dX12_moving_61 : decode cX12_moving 61 = .ok (.aload_n 0, 1) := by decide +kernel
theorem dX12_moving_62 : decode cX12_moving 62 = .ok (.getfield 81, 3) := by decide +kernel
theorem dX12_moving_65 : decode cX12_moving 65 = .ok (.aload_n 0, 1) := by decide +kernel
theorem dX12_moving_66 : decode cX12_moving 66 = .ok (.getfield 235, 3) := by decide +kernel
theorem dX12_moving_69 : decode cX12_moving 69 = .ok (.iaload, 1) := by decide +kernel
theorem dX12_moving_70 : decode cX12_moving 70 = .ok (.ifCond .ne 13, 3) := by decide +kernel
theorem dX12_moving_73 : decode cX12_moving 73 = .ok (.aload_n 0, 1) := by decide +kernel
theorem dX12_moving_74 : decode cX12_moving 74 = .ok (.getfield 81, 3) := by decide +kernel
theorem dX12_moving_77 : decode cX12_moving 77 = .ok (.aload_n 0, 1) := by decide +kernel
theorem dX12_moving_78 : decode cX12_moving 78 = .ok (.getfield 235, 3) := by decide +kernel
theorem dX12_moving_81 : decode cX12_moving 81 = .ok (.iconst 1, 1) := by decide +kernel
theorem dX12_moving_82 : decode cX12_moving 82 = .ok (.iastore, 1) := by decide +kernel
theorem dX12_moving_83 : decode cX12_moving 83 = .ok (.aload_n 0, 1) := by decide +kernel
theorem dX12_moving_84 : decode cX12_moving 84 = .ok (.invokevirtual 256, 3) := by decide +kernel
theorem dX12_moving_87 : decode cX12_moving 87 = .ok (.goto 13, 3) := by decide +kernel
theorem dX12_moving_90 : decode cX12_moving 90 = .ok (.aload_n 0, 1) := by decide +kernel
theorem dX12_moving_91 : decode cX12_moving 91 = .ok (.getfield 54, 3) := by decide +kernel
theorem dX12_moving_94 : decode cX12_moving 94 = .ok (.iload_n 1, 1) := by decide +kernel
theorem dX12_moving_95 : decode cX12_moving 95 = .ok (.aload_n 0, 1) := by decide +kernel
theorem dX12_moving_96 : decode cX12_moving 96 = .ok (.invokevirtual 311, 3) := by decide +kernel
theorem dX12_moving_99 : decode cX12_moving 99 = .ok (.iastore, 1) := by decide +kernel
theorem dX12_moving_100 : decode cX12_moving 100 = .ok (.aload_n 0, 1) := by decide +kernel
theorem dX12_moving_101 : decode cX12_moving 101 = .ok (.bipush 58, 2) := by decide +kernel
theorem dX12_moving_103 : decode cX12_moving 103 = .ok (.invokevirtual 314, 3) := by decide +kernel
theorem dX12_moving_106 : decode cX12_moving 106 = .ok (.aload_n 0, 1) := by decide +kernel
theorem dX12_moving_107 : decode cX12_moving 107 = .ok (.getfield 51, 3) := by decide +kernel
theorem dX12_moving_110 : decode cX12_moving 110 = .ok (.iload_n 1, 1) := by decide +kernel
theorem dX12_moving_111 : decode cX12_moving 111 = .ok (.aload_n 0, 1) := by decide +kernel
theorem dX12_moving_112 : decode cX12_moving 112 = .ok (.invokevirtual 317, 3) := by decide +kernel
theorem dX12_moving_115 : decode cX12_moving 115 = .ok (.iastore, 1) := by decide +kernel
theorem dX12_moving_116 : decode cX12_moving 116 = .ok (.aload_n 0, 1) := by decide +kernel
theorem dX12_moving_117 : decode cX12_moving 117 = .ok (.bipush 59, 2) := by decide +kernel
theorem dX12_moving_119 : decode cX12_moving 119 = .ok (.invokevirtual 314, 3) := by decide +kernel
theorem dX12_moving_122 : decode cX12_moving 122 = .ok (.return_, 1) := by decide +kernel
theorem dX12_statement_0 : decode cX12_statement 0 = .ok (.aload_n 0, 1) := by decide +kernel
theorem dX12_statement_1 : decode cX12_statement 1 = .ok (.getfield 241, 3) := by decide +kernel
theorem dX12_statement_4 : decode cX12_statement 4 = .ok (.istore_n 1, 1) := by decide +kernel
theorem dX12_statement_5 : decode cX12_statement 5 = .ok (.aload_n 0, 1) := by decide +kernel
theorem dX12_statement_6 : decode cX12_statement 6 = .ok (.getfield 229, 3) := by decide +kernel
theorem dX12_statement_9 : decode cX12_statement 9 = .ok (.bipush 110, 2) := by decide +kernel
theorem dX12_statement_11 : decode cX12_statement 11 = .ok (.if_icmp .ne 13, 3) := by decide +kernel
theorem dX12_statement_14 : decode cX12_statement 14 = .ok (.aload_n 0, 1) := by decide +kernel
theorem dX12_statement_15 : decode cX12_statement 15 = .ok (.aload_n 0, 1) := by decide +kernel
theorem dX12_statement_16 : decode cX12_statement 16 = .ok (.iload_n 1, 1) := by decide +kernel
theorem dX12_statement_17 : decode cX12_statement 17 = .ok (.invokevirtual 320, 3) := by decide +kernel
theorem dX12_statement_20 : decode cX12_statement 20 = .ok (.invokevirtual 323, 3) := by decide +kernel
theorem dX12_statement_23 : decode cX12_statement 23 = .ok (.return_, 1) := by decide +kernel
theorem dX12_statement_24 : decode cX12_statement 24 = .ok (.aload_n 0, 1) := by decide +kernel
theorem dX12_statement_25 : decode cX12_statement 25 = .ok (.getfield 229, 3) := by decide +kernel
theorem dX12_statement_28 : decode cX12_statement 28 = .ok (.bipush 107, 2) := by decide +kernel
theorem dX12_statement_30 : decode cX12_statement 30 = .ok (.if_icmp .ne 10, 3) := by decide +kernel
theorem dX12_statement_33 : decode cX12_statement 33 = .ok (.aload_n 0, 1) := by decide +kernel
theorem dX12_statement_34 : decode cX12_statement 34 = .ok (.getfield 235, 3) := by decide +kernel
theorem dX12_statement_37 : decode cX12_statement 37 = .ok (.goto 4, 3) := by decide +kernel
theorem dX12_statement_40 : decode cX12_statement 40 = .ok (.iconst 0, 1) := by decide +kernel
theorem dX12_statement_41 : decode cX12_statement 41 = .ok (.istore_n 2, 1) := by decide +kernel
theorem dX12_statement_42 : decode cX12_statement 42 = .ok (.iload_n 2, 1) := by decide +kernel
theorem dX12_statement_43 : decode cX12_statement 43 = .ok (.iconst 4, 1) := by decide +kernel
theorem dX12_statement_44 : decode cX12_statement 44 = .ok (.if_icmp .lt 8, 3) := by decide +kernel
theorem dX12_statement_47 : decode cX12_statement 47 = .ok (.iload_n 2, 1) := by decide +kernel
theorem dX12_statement_48 : decode cX12_statement 48 = .ok (.iconst 5, 1) := by decide +kernel
theorem dX12_statement_49 : decode cX12_statement 49 = .ok (.if_icmp .ne 8, 3) := by decide +kernel
theorem dX12_statement_52 : decode cX12_statement 52 = .ok (.aload_n 0, 1) := by decide +kernel
theorem dX12_statement_53 : decode cX12_statement 53 = .ok (.invokevirtual 259, 3) := by decide +kernel
theorem dX12_statement_56 : decode cX12_statement 56 = .ok (.return_, 1) := by decide +kernel
theorem dX12_statement_57 : decode cX12_statement 57 = .ok (.aload_n 0, 1) := by decide +kernel
theorem dX12_statement_58 : decode cX12_statement 58 = .ok (.iload_n 1, 1) := by decide +kernel
theorem dX12_statement_59 : decode cX12_statement 59 = .ok (.invokevirtual 320, 3) := by decide +kernel
theorem dX12_statement_62 : decode cX12_statement 62 = .ok (.istore_n 3, 1) := by decide +kernel
theorem dX12_statement_63 : decode cX12_statement 63 = .ok (.aload_n 0, 1) := by decide +kernel
theorem dX12_statement_64 : decode cX12_statement 64 = .ok (.invokevirtual 256, 3) := by decide +kernel
theorem dX12_statement_67 : decode cX12_statement 67 = .ok (.iload_n 2, 1) := by decide +kernel
theorem dX12_statement_68 : decode cX12_statement 68 = .ok (.iconst 4, 1) := by decide +kernel
theorem dX12_statement_69 : decode cX12_statement 69 = .ok (.if_icmp .eq 9, 3) := by decide +kernel
theorem dX12_statement_72 : decode cX12_statement 72 = .ok (.iload_n 2, 1) := by decide +kernel
theorem dX12_statement_73 : decode cX12_statement 73 = .ok (.bipush 6, 2) := by decide +kernel
theorem dX12_statement_75 : decode cX12_statement 75 = .ok (.if_icmp .ne 45, 3) := by decide +kernel
theorem dX12_statement_78 : decode cX12_statement 78 = .ok (.aload_n 0, 1) := by decide +kernel
theorem dX12_statement_79 : decode cX12_statement 79 = .ok (.getfield 42, 3) := by decide +kernel
theorem dX12_statement_82 : decode cX12_statement 82 = .ok (.iload_n 3, 1) := by decide +kernel
theorem dX12_statement_83 : decode cX12_statement 83 = .ok (.iload_n 2, 1) := by decide +kernel
theorem dX12_statement_84 : decode cX12_statement 84 = .ok (.iconst 4, 1) := by decide +kernel
theorem dX12_statement_85 : decode cX12_statement 85 = .ok (.if_icmp .ne 7, 3) := by decide +kernel
theorem dX12_statement_88 : decode cX12_statement 88 = .ok (.iconst 3, 1) := by decide +kernel
theorem dX12_statement_89 : decode cX12_statement 89 = .ok (.goto 4, 3) := by decide +kernel
theorem dX12_statement_92 : decode cX12_statement 92 = .ok (.iconst 4, 1) := by decide +kernel
theorem dX12_statement_93 : decode cX12_statement 93 = .ok (.iastore, 1) := by decide +kernel
theorem dX12_statement_94 : decode cX12_statement 94 = .ok (.aload_n 0, 1) := by decide +kernel
theorem dX12_statement_95 : decode cX12_statement 95 = .ok (.getfield 54, 3) := by decide +kernel
theorem dX12_statement_98 : decode cX12_statement 98 = .ok (.iload_n 3, 1) := by decide +kernel
theorem dX12_statement_99 : decode cX12_statement 99 = .ok (.aload_n 0, 1) := by decide +kernel
theorem dX12_statement_100 : decode cX12_statement 100 = .ok (.invokevirtual 311, 3) := by decide +kernel
theorem dX12_statement_103 : decode cX12_statement 103 = .ok (.iastore, 1) := by decide +kernel
theorem dX12_statement_104 : decode cX12_statement 104 = .ok (.aload_n 0, 1) := by decide +kernel
theorem dX12_statement_105 : decode cX12_statement 105 = .ok (.getfield 253, 3) := by decide +kernel
theorem dX12_statement_108 : decode cX12_statement 108 = .ok (.ifCond .ge 84, 3) := by decide +kernel
theorem dX12_statement_111 : decode cX12_statement 111 = .ok (.aload_n 0, 1) := by decide +kernel
theorem dX12_statement_112 : decode cX12_statement 112 = .ok (.iconst 2, 1) := by decide +kernel
theorem dX12_statement_113 : decode cX12_statement 113 = .ok (.iload_n 3, 1) := by decide +kernel
theorem dX12_statement_114 : decode cX12_statement 114 = .ok (.invokevirtual 326, 3) := by decide +kernel
theorem dX12_statement_117 : decode cX12_statement 117 = .ok (.goto 75, 3) := by decide +kernel
theorem dX12_statement_120 : decode cX12_statement 120 = .ok (.iload_n 2, 1) := by decide +kernel
theorem dX12_statement_121 : decode cX12_statement 121 = .ok (.bipush 9, 2) := by decide +kernel
theorem dX12_statement_123 : decode cX12_statement 123 = .ok (.if_icmp .ne 63, 3) := by decide +kernel
theorem dX12_statement_126 : decode cX12_statement 126 = .ok (.aload_n 0, 1) := by decide +kernel
theorem dX12_statement_127 : decode cX12_statement 127 = .ok (.getfield 42, 3) := by decide +kernel
theorem dX12_statement_130 : decode cX12_statement 130 = .ok (.iload_n 3, 1) := by decide +kernel
theorem dX12_statement_131 : decode cX12_statement 131 = .ok (.bipush 7, 2) := by decide +kernel
theorem dX12_statement_133 : decode cX12_statement 133 = .ok (.iastore, 1) := by decide +kernel
theorem dX12_statement_134 : decode cX12_statement 134 = .ok (.aload_n 0, 1) := by decide +kernel
theorem dX12_statement_135 : decode cX12_statement 135 = .ok (.getfield 48, 3) := by decide +kernel
theorem dX12_statement_138 : decode cX12_statement 138 = .ok (.iload_n 3, 1) := by decide +kernel
theorem dX12_statement_139 : decode cX12_statement 139 = .ok (.aload_n 0, 1) := by decide +kernel
theorem dX12_statement_140 : decode cX12_statement 140 = .ok (.getfield 235, 3) := by decide +kernel
theorem dX12_statement_143 : decode cX12_statement 143 = .ok (.iastore, 1) := by decide +kernel
theorem dX12_statement_144 : decode cX12_statement 144 = .ok (.aload_n 0, 1) := by decide +kernel
theorem dX12_statement_145 : decode cX12_statement 145 = .ok (.getfield 229, 3) := by decide +kernel
theorem dX12_statement_148 : decode cX12_statement 148 = .ok (.bipush 110, 2) := by decide +kernel
theorem dX12_statement_150 : decode cX12_statement 150 = .ok (.if_icmp .ne 16, 3) := by decide +kernel
theorem dX12_statement_153 : decode cX12_statement 153 = .ok (.aload_n 0, 1) := by decide +kernel
theorem dX12_statement_154 : decode cX12_statement 154 = .ok (.getfield 81, 3) := by decide +kernel
theorem dX12_statement_157 : decode cX12_statement 157 = .ok (.aload_n 0, 1) := by decide +kernel
theorem dX12_statement_158 : decode cX12_statement 158 = .ok (.getfield 235, 3) := by decide +kernel
theorem dX12_statement_161 : decode cX12_statement 161 = .ok (.iaload, 1) := by decide +kernel
theorem dX12_statement_162 : decode cX12_statement 162 = .ok (.iconst 5, 1) := by decide +kernel
theorem dX12_statement_163 : decode cX12_statement 163 = .ok (.if_icmp .eq 10, 3) := by decide +kernel
theorem dX12_statement_166 : decode cX12_statement 166 = .ok (.aload_n 0, 1) := by decide +kernel
theorem dX12_statement_167 : decode cX12_statement 167 = .ok (.invokevirtual 259, 3) := by decide +kernel
theorem dX12_statement_170 : decode cX12_statement 170 = .ok (.goto 7, 3) := by decide +kernel
theorem dX12_statement_173 : decode cX12_statement 173 = .ok (.aload_n 0, 1) := by decide +kernel
theorem dX12_statement_174 : decode cX12_statement 174 = .ok (.invokevirtual 256, 3) := by decide +kernel
theorem dX12_statement_177 : decode cX12_statement 177 = .ok (.aload_n 0, 1) := by decide +kernel
theorem dX12_statement_178 : decode cX12_statement 178 = .ok (.bipush 59, 2) := by decide +kernel
theorem dX12_statement_180 : decode cX12_statement 180 = .ok (.invokevirtual 314, 3) := by decide +kernel
theorem dX12_statement_183 : decode cX12_statement 183 = .ok (.goto 9, 3) := by decide +kernel
theorem dX12_statement_186 : decode cX12_statement 186 = .ok (.aload_n 0, 1) := by decide +kernel
theorem dX12_statement_187 : decode cX12_statement 187 = .ok (.iload_n 3, 1) := by decide +kernel
theorem dX12_statement_188 : decode cX12_statement 188 = .ok (.iload_n 2, 1) := by decide +kernel
theorem dX12_statement_189 : decode cX12_statement 189 = .ok (.invokevirtual 329, 3) := by decide +kernel
theorem dX12_statement_192 : decode cX12_statement 192 = .ok (.return_, 1) := by decide +kernel
theorem dX12_close_0 : decode cX12_close 0 = .ok (.aload_n 0, 1) := by decide +kernel
theorem dX12_close_1 : decode cX12_close 1 = .ok (.dup, 1) := by decide +kernel
theorem dX12_close_2 : decode cX12_close 2 = .ok (.getfield 302, 3) := by decide +kernel
theorem dX12_close_5 : decode cX12_close 5 = .ok (.iconst 1, 1) := by decide +kernel
theorem dX12_close_6 : decode cX12_close 6 = .ok (.isub, 1) := by decide +kernel
theorem dX12_close_7 : decode cX12_close 7 = .ok (.putfield 302, 3) := by decide +kernel
theorem dX12_close_10 : decode cX12_close 10 = .ok (.aload_n 0, 1) := by decide +kernel
theorem dX12_close_11 : decode cX12_close 11 = .ok (.dup, 1) := by decide +kernel
theorem dX12_close_12 : decode cX12_close 12 = .ok (.getfield 262, 3) := by decide +kernel
theorem dX12_close_15 : decode cX12_close 15 = .ok (.iconst 1, 1) := by decide +kernel
theorem dX12_close_16 : decode cX12_close 16 = .ok (.isub, 1) := by decide +kernel
theorem dX12_close_17 : decode cX12_close 17 = .ok (.putfield 262, 3) := by decide +kernel
theorem dX12_close_20 : decode cX12_close 20 = .ok (.aload_n 0, 1) := by decide +kernel
theorem dX12_close_21 : decode cX12_close 21 = .ok (.invokevirtual 256, 3) := by decide +kernel
theorem dX12_close_24 : decode cX12_close 24 = .ok (.aload_n 0, 1) := by decide +kernel
theorem dX12_close_25 : decode cX12_close 25 = .ok (.getfield 90, 3) := by decide +kernel
theorem dX12_close_28 : decode cX12_close 28 = .ok (.aload_n 0, 1) := by decide +kernel
theorem dX12_close_29 : decode cX12_close 29 = .ok (.getfield 302, 3) := by decide +kernel
theorem dX12_close_32 : decode cX12_close 32 = .ok (.iaload, 1) := by decide +kernel
theorem dX12_close_33 : decode cX12_close 33 = .ok (.istore_n 1, 1) := by decide +kernel
theorem dX12_close_34 : decode cX12_close 34 = .ok (.aload_n 0, 1) := by decide +kernel
theorem dX12_close_35 : decode cX12_close 35 = .ok (.getfield 87, 3) := by decide +kernel
theorem dX12_close_38 : decode cX12_close 38 = .ok (.aload_n 0, 1) := by decide +kernel
theorem dX12_close_39 : decode cX12_close 39 = .ok (.getfield 302, 3) := by decide +kernel
theorem dX12_close_42 : decode cX12_close 42 = .ok (.iaload, 1) := by decide +kernel
theorem dX12_close_43 : decode cX12_close 43 = .ok (.iconst 1, 1) := by decide +kernel
theorem dX12_close_44 : decode cX12_close 44 = .ok (.if_icmp .ne 10, 3) := by decide +kernel
theorem dX12_close_47 : decode cX12_close 47 = .ok (.aload_n 0, 1) := by decide +kernel
theorem dX12_close_48 : decode cX12_close 48 = .ok (.getfield 81, 3) := by decide +kernel
theorem dX12_close_51 : decode cX12_close 51 = .ok (.iload_n 1, 1) := by decide +kernel
theorem dX12_close_52 : decode cX12_close 52 = .ok (.iconst 5, 1) := by decide +kernel
theorem dX12_close_53 : decode cX12_close 53 = .ok (.iastore, 1) := by decide +kernel
theorem dX12_close_54 : decode cX12_close 54 = .ok (.aload_n 0, 1) := by decide +kernel
theorem dX12_close_55 : decode cX12_close 55 = .ok (.getfield 87, 3) := by decide +kernel
theorem dX12_close_58 : decode cX12_close 58 = .ok (.aload_n 0, 1) := by decide +kernel
theorem dX12_close_59 : decode cX12_close 59 = .ok (.getfield 302, 3) := by decide +kernel
theorem dX12_close_62 : decode cX12_close 62 = .ok (.iaload, 1) := by decide +kernel
theorem dX12_close_63 : decode cX12_close 63 = .ok (.iconst 2, 1) := by decide +kernel
theorem dX12_close_64 : decode cX12_close 64 = .ok (.if_icmp .ne 47, 3) := by decide +kernel
theorem dX12_close_67 : decode cX12_close 67 = .ok (.aload_n 0, 1) := by decide +kernel
theorem dX12_close_68 : decode cX12_close 68 = .ok (.getfield 42, 3) := by decide +kernel
theorem dX12_close_71 : decode cX12_close 71 = .ok (.iload_n 1, 1) := by decide +kernel
theorem dX12_close_72 : decode cX12_close 72 = .ok (.iaload, 1) := by decide +kernel
theorem dX12_close_73 : decode cX12_close 73 = .ok (.iconst 3, 1) := by decide +kernel
theorem dX12_close_74 : decode cX12_close 74 = .ok (.if_icmp .ne 37, 3) := by decide +kernel
theorem dX12_close_77 : decode cX12_close 77 = .ok (.aload_n 0, 1) := by decide +kernel
theorem dX12_close_78 : decode cX12_close 78 = .ok (.getfield 229, 3) := by decide +kernel
theorem dX12_close_81 : decode cX12_close 81 = .ok (.bipush 107, 2) := by decide +kernel
theorem dX12_close_83 : decode cX12_close 83 = .ok (.if_icmp .ne 28, 3) := by decide +kernel
theorem dX12_close_86 : decode cX12_close 86 = .ok (.aload_n 0, 1) := by decide +kernel
theorem dX12_close_87 : decode cX12_close 87 = .ok (.getfield 235, 3) := by decide +kernel
theorem dX12_close_90 : decode cX12_close 90 = .ok (.iconst 5, 1) := by decide +kernel
theorem dX12_close_91 : decode cX12_close 91 = .ok (.if_icmp .ne 20, 3) := by decide +kernel
theorem dX12_close_94 : decode cX12_close 94 = .ok (.aload_n 0, 1) := by decide +kernel
theorem dX12_close_95 : decode cX12_close 95 = .ok (.invokevirtual 256, 3) := by decide +kernel
theorem dX12_close_98 : decode cX12_close 98 = .ok (.aload_n 0, 1) := by decide +kernel
theorem dX12_close_99 : decode cX12_close 99 = .ok (.getfield 51, 3) := by decide +kernel
theorem dX12_close_102 : decode cX12_close 102 = .ok (.iload_n 1, 1) := by decide +kernel
theorem dX12_close_103 : decode cX12_close 103 = .ok (.iconst 1, 1) := by decide +kernel
theorem dX12_close_104 : decode cX12_close 104 = .ok (.iastore, 1) := by decide +kernel
theorem dX12_close_105 : decode cX12_close 105 = .ok (.aload_n 0, 1) := by decide +kernel
theorem dX12_close_106 : decode cX12_close 106 = .ok (.iconst 3, 1) := by decide +kernel
theorem dX12_close_107 : decode cX12_close 107 = .ok (.iload_n 1, 1) := by decide +kernel
theorem dX12_close_108 : decode cX12_close 108 = .ok (.invokevirtual 326, 3) := by decide +kernel
theorem dX12_close_111 : decode cX12_close 111 = .ok (.return_, 1) := by decide +kernel
theorem dX12_declare_0 : decode cX12_declare 0 = .ok (.aload_n 0, 1) := by decide +kernel
theorem dX12_declare_1 : decode cX12_declare 1 = .ok (.getfield 235, 3) := by decide +kernel
theorem dX12_declare_4 : decode cX12_declare 4 = .ok (.istore_n 1, 1) := by decide +kernel
theorem dX12_declare_5 : decode cX12_declare 5 = .ok (.aload_n 0, 1) := by decide +kernel
theorem dX12_declare_6 : decode cX12_declare 6 = .ok (.invokevirtual 256, 3) := by decide +kernel
theorem dX12_declare_9 : decode cX12_declare 9 = .ok (.aload_n 0, 1) := by decide +kernel
theorem dX12_declare_10 : decode cX12_declare 10 = .ok (.getfield 229, 3) := by decide +kernel
theorem dX12_declare_13 : decode cX12_declare 13 = .ok (.bipush 110, 2) := by decide +kernel
theorem dX12_declare_15 : decode cX12_declare 15 = .ok (.if_icmp .ne 15, 3) := by decide +kernel
theorem dX12_declare_18 : decode cX12_declare 18 = .ok (.aload_n 0, 1) := by decide +kernel
theorem dX12_declare_19 : decode cX12_declare 19 = .ok (.getfield 81, 3) := by decide +kernel
theorem dX12_declare_22 : decode cX12_declare 22 = .ok (.aload_n 0, 1) := by decide +kernel
theorem dX12_declare_23 : decode cX12_declare 23 = .ok (.getfield 235, 3) := by decide +kernel
theorem dX12_declare_26 : decode cX12_declare 26 = .ok (.iaload, 1) := by decide +kernel
theorem dX12_declare_27 : decode cX12_declare 27 = .ok (.ifCond .eq 8, 3) := by decide +kernel
theorem dX12_declare_30 : decode cX12_declare 30 = .ok (.aload_n 0, 1) := by decide +kernel
theorem dX12_declare_31 : decode cX12_declare 31 = .ok (.invokevirtual 259, 3) := by decide +kernel
theorem dX12_declare_34 : decode cX12_declare 34 = .ok (.return_, 1) := by decide +kernel
theorem dX12_declare_35 : decode cX12_declare 35 = .ok (.aload_n 0, 1) := by decide +kernel
theorem dX12_declare_36 : decode cX12_declare 36 = .ok (.getfield 235, 3) := by decide +kernel
theorem dX12_declare_39 : decode cX12_declare 39 = .ok (.istore_n 2, 1) := by decide +kernel
theorem dX12_declare_40 : decode cX12_declare 40 = .ok (.aload_n 0, 1) := by decide +kernel
theorem dX12_declare_41 : decode cX12_declare 41 = .ok (.getfield 81, 3) := by decide +kernel
theorem dX12_declare_44 : decode cX12_declare 44 = .ok (.iload_n 2, 1) := by decide +kernel
theorem dX12_declare_45 : decode cX12_declare 45 = .ok (.iload_n 1, 1) := by decide +kernel
theorem dX12_declare_46 : decode cX12_declare 46 = .ok (.iconst 1, 1) := by decide +kernel
theorem dX12_declare_47 : decode cX12_declare 47 = .ok (.iadd, 1) := by decide +kernel
theorem dX12_declare_48 : decode cX12_declare 48 = .ok (.iastore, 1) := by decide +kernel
theorem dX12_declare_49 : decode cX12_declare 49 = .ok (.aload_n 0, 1) := by decide +kernel
theorem dX12_declare_50 : decode cX12_declare 50 = .ok (.invokevirtual 256, 3) := by decide +kernel
theorem dX12_declare_53 : decode cX12_declare 53 = .ok (.iload_n 1, 1) := by decide +kernel
theorem dX12_declare_54 : decode cX12_declare 54 = .ok (.iconst 3, 1) := by decide +kernel
theorem dX12_declare_55 : decode cX12_declare 55 = .ok (.if_icmp .ne 25, 3) := by decide +kernel
theorem dX12_declare_58 : decode cX12_declare 58 = .ok (.aload_n 0, 1) := by decide +kernel
theorem dX12_declare_59 : decode cX12_declare 59 = .ok (.getfield 75, 3) := by decide +kernel
theorem dX12_declare_62 : decode cX12_declare 62 = .ok (.bipush 26, 2) := by decide +kernel
theorem dX12_declare_64 : decode cX12_declare 64 = .ok (.aload_n 0, 1) := by decide +kernel
theorem dX12_declare_65 : decode cX12_declare 65 = .ok (.getfield 308, 3) := by decide +kernel
theorem dX12_declare_68 : decode cX12_declare 68 = .ok (.imul, 1) := by decide +kernel
theorem dX12_declare_69 : decode cX12_declare 69 = .ok (.iload_n 2, 1) := by decide +kernel
theorem dX12_declare_70 : decode cX12_declare 70 = .ok (.iadd, 1) := by decide +kernel
theorem dX12_declare_71 : decode cX12_declare 71 = .ok (.iconst (-1), 1) := by decide +kernel
theorem dX12_declare_72 : decode cX12_declare 72 = .ok (.iastore, 1) := by decide +kernel
theorem dX12_declare_73 : decode cX12_declare 73 = .ok (.aload_n 0, 1) := by decide +kernel
theorem dX12_declare_74 : decode cX12_declare 74 = .ok (.iconst 1, 1) := by decide +kernel
theorem dX12_declare_75 : decode cX12_declare 75 = .ok (.iload_n 2, 1) := by decide +kernel
theorem dX12_declare_76 : decode cX12_declare 76 = .ok (.invokevirtual 326, 3) := by decide +kernel
theorem dX12_declare_79 : decode cX12_declare 79 = .ok (.return_, 1) := by decide +kernel
theorem dX12_declare_80 : decode cX12_declare 80 = .ok (.aload_n 0, 1) := by decide +kernel
theorem dX12_declare_81 : decode cX12_declare 81 = .ok (.bipush 58, 2) := by decide +kernel
theorem dX12_declare_83 : decode cX12_declare 83 = .ok (.invokevirtual 314, 3) := by decide +kernel
theorem dX12_declare_86 : decode cX12_declare 86 = .ok (.aload_n 0, 1) := by decide +kernel
theorem dX12_declare_87 : decode cX12_declare 87 = .ok (.getfield 84, 3) := by decide +kernel
theorem dX12_declare_90 : decode cX12_declare 90 = .ok (.iload_n 2, 1) := by decide +kernel
theorem dX12_declare_91 : decode cX12_declare 91 = .ok (.aload_n 0, 1) := by decide +kernel
theorem dX12_declare_92 : decode cX12_declare 92 = .ok (.invokevirtual 317, 3) := by decide +kernel
theorem dX12_declare_95 : decode cX12_declare 95 = .ok (.iastore, 1) := by decide +kernel
theorem dX12_declare_96 : decode cX12_declare 96 = .ok (.aload_n 0, 1) := by decide +kernel
theorem dX12_declare_97 : decode cX12_declare 97 = .ok (.bipush 59, 2) := by decide +kernel
theorem dX12_declare_99 : decode cX12_declare 99 = .ok (.invokevirtual 314, 3) := by decide +kernel
theorem dX12_declare_102 : decode cX12_declare 102 = .ok (.return_, 1) := by decide +kernel
theorem dX12_parse_0 : decode cX12_parse 0 = .ok (.aload_n 0, 1) := by decide +kernel
theorem dX12_parse_1 : decode cX12_parse 1 = .ok (.aload_n 0, 1) := by decide +kernel
theorem dX12_parse_2 : decode cX12_parse 2 = .ok (.getfield 332, 3) := by decide +kernel
theorem dX12_parse_5 : decode cX12_parse 5 = .ok (.ifCond .eq 12, 3) := by decide +kernel
theorem dX12_parse_8 : decode cX12_parse 8 = .ok (.iconst 1, 1) := by decide +kernel
theorem dX12_parse_9 : decode cX12_parse 9 = .ok (.aload_n 0, 1) := by decide +kernel
theorem dX12_parse_10 : decode cX12_parse 10 = .ok (.getfield 335, 3) := by decide +kernel
theorem dX12_parse_13 : decode cX12_parse 13 = .ok (.isub, 1) := by decide +kernel
theorem dX12_parse_14 : decode cX12_parse 14 = .ok (.goto 7, 3) := by decide +kernel
theorem dX12_parse_17 : decode cX12_parse 17 = .ok (.aload_n 0, 1) := by decide +kernel
theorem dX12_parse_18 : decode cX12_parse 18 = .ok (.getfield 335, 3) := by decide +kernel
theorem dX12_parse_21 : decode cX12_parse 21 = .ok (.putfield 308, 3) := by decide +kernel
theorem dX12_parse_24 : decode cX12_parse 24 = .ok (.aload_n 0, 1) := by decide +kernel
theorem dX12_parse_25 : decode cX12_parse 25 = .ok (.bipush 64, 2) := by decide +kernel
theorem dX12_parse_27 : decode cX12_parse 27 = .ok (.aload_n 0, 1) := by decide +kernel
theorem dX12_parse_28 : decode cX12_parse 28 = .ok (.getfield 308, 3) := by decide +kernel
theorem dX12_parse_31 : decode cX12_parse 31 = .ok (.imul, 1) := by decide +kernel
theorem dX12_parse_32 : decode cX12_parse 32 = .ok (.putfield 305, 3) := by decide +kernel
theorem dX12_parse_35 : decode cX12_parse 35 = .ok (.aload_n 0, 1) := by decide +kernel
theorem dX12_parse_36 : decode cX12_parse 36 = .ok (.sipush 260, 3) := by decide +kernel
theorem dX12_parse_39 : decode cX12_parse 39 = .ok (.aload_n 0, 1) := by decide +kernel
theorem dX12_parse_40 : decode cX12_parse 40 = .ok (.getfield 308, 3) := by decide +kernel
theorem dX12_parse_43 : decode cX12_parse 43 = .ok (.imul, 1) := by decide +kernel
theorem dX12_parse_44 : decode cX12_parse 44 = .ok (.putfield 265, 3) := by decide +kernel
theorem dX12_parse_47 : decode cX12_parse 47 = .ok (.aload_n 0, 1) := by decide +kernel
theorem dX12_parse_48 : decode cX12_parse 48 = .ok (.getfield 78, 3) := by decide +kernel
theorem dX12_parse_51 : decode cX12_parse 51 = .ok (.aload_n 0, 1) := by decide +kernel
theorem dX12_parse_52 : decode cX12_parse 52 = .ok (.getfield 308, 3) := by decide +kernel
theorem dX12_parse_55 : decode cX12_parse 55 = .ok (.iconst (-1), 1) := by decide +kernel
theorem dX12_parse_56 : decode cX12_parse 56 = .ok (.iastore, 1) := by decide +kernel
theorem dX12_parse_57 : decode cX12_parse 57 = .ok (.aload_n 0, 1) := by decide +kernel
theorem dX12_parse_58 : decode cX12_parse 58 = .ok (.iconst 0, 1) := by decide +kernel
theorem dX12_parse_59 : decode cX12_parse 59 = .ok (.putfield 222, 3) := by decide +kernel
theorem dX12_parse_62 : decode cX12_parse 62 = .ok (.aload_n 0, 1) := by decide +kernel
theorem dX12_parse_63 : decode cX12_parse 63 = .ok (.iconst (-1), 1) := by decide +kernel
theorem dX12_parse_64 : decode cX12_parse 64 = .ok (.putfield 253, 3) := by decide +kernel
theorem dX12_parse_67 : decode cX12_parse 67 = .ok (.aload_n 0, 1) := by decide +kernel
theorem dX12_parse_68 : decode cX12_parse 68 = .ok (.iconst 0, 1) := by decide +kernel
theorem dX12_parse_69 : decode cX12_parse 69 = .ok (.putfield 262, 3) := by decide +kernel
theorem dX12_parse_72 : decode cX12_parse 72 = .ok (.iconst 0, 1) := by decide +kernel
theorem dX12_parse_73 : decode cX12_parse 73 = .ok (.istore_n 1, 1) := by decide +kernel
theorem dX12_parse_74 : decode cX12_parse 74 = .ok (.iload_n 1, 1) := by decide +kernel
theorem dX12_parse_75 : decode cX12_parse 75 = .ok (.bipush 26, 2) := by decide +kernel
theorem dX12_parse_77 : decode cX12_parse 77 = .ok (.if_icmp .ge 16, 3) := by decide +kernel
theorem dX12_parse_80 : decode cX12_parse 80 = .ok (.aload_n 0, 1) := by decide +kernel
theorem dX12_parse_81 : decode cX12_parse 81 = .ok (.getfield 81, 3) := by decide +kernel
theorem dX12_parse_84 : decode cX12_parse 84 = .ok (.iload_n 1, 1) := by decide +kernel
theorem dX12_parse_85 : decode cX12_parse 85 = .ok (.iconst 0, 1) := by decide +kernel
theorem dX12_parse_86 : decode cX12_parse 86 = .ok (.iastore, 1) := by decide +kernel
theorem dX12_parse_87 : decode cX12_parse 87 = .ok (.iinc 1 1, 3) := by decide +kernel
theorem dX12_parse_90 : decode cX12_parse 90 = .ok (.goto (-16), 3) := by decide +kernel
theorem dX12_parse_93 : decode cX12_parse 93 = .ok (.aload_n 0, 1) := by decide +kernel
theorem dX12_parse_94 : decode cX12_parse 94 = .ok (.iconst 1, 1) := by decide +kernel
theorem dX12_parse_95 : decode cX12_parse 95 = .ok (.putfield 302, 3) := by decide +kernel
theorem dX12_parse_98 : decode cX12_parse 98 = .ok (.aload_n 0, 1) := by decide +kernel
theorem dX12_parse_99 : decode cX12_parse 99 = .ok (.getfield 87, 3) := by decide +kernel
theorem dX12_parse_102 : decode cX12_parse 102 = .ok (.iconst 0, 1) := by decide +kernel
theorem dX12_parse_103 : decode cX12_parse 103 = .ok (.iconst 0, 1) := by decide +kernel
theorem dX12_parse_104 : decode cX12_parse 104 = .ok (.iastore, 1) := by decide +kernel
theorem dX12_parse_105 : decode cX12_parse 105 = .ok (.aload_n 0, 1) := by decide +kernel
theorem dX12_parse_106 : decode cX12_parse 106 = .ok (.getfield 93, 3) := by decide +kernel
theorem dX12_parse_109 : decode cX12_parse 109 = .ok (.iconst 0, 1) := by decide +kernel
theorem dX12_parse_110 : decode cX12_parse 110 = .ok (.iconst (-1), 1) := by decide +kernel
theorem dX12_parse_111 : decode cX12_parse 111 = .ok (.iastore, 1) := by decide +kernel
theorem dX12_parse_112 : decode cX12_parse 112 = .ok (.iconst 0, 1) := by decide +kernel
theorem dX12_parse_113 : decode cX12_parse 113 = .ok (.istore_n 1, 1) := by decide +kernel
theorem dX12_parse_114 : decode cX12_parse 114 = .ok (.aload_n 0, 1) := by decide +kernel
theorem dX12_parse_115 : decode cX12_parse 115 = .ok (.invokevirtual 256, 3) := by decide +kernel
theorem dX12_parse_118 : decode cX12_parse 118 = .ok (.aload_n 0, 1) := by decide +kernel
theorem dX12_parse_119 : decode cX12_parse 119 = .ok (.getfield 253, 3) := by decide +kernel
theorem dX12_parse_122 : decode cX12_parse 122 = .ok (.ifCond .ge 103, 3) := by decide +kernel
theorem dX12_parse_125 : decode cX12_parse 125 = .ok (.aload_n 0, 1) := by decide +kernel
theorem dX12_parse_126 : decode cX12_parse 126 = .ok (.getfield 302, 3) := by decide +kernel
theorem dX12_parse_129 : decode cX12_parse 129 = .ok (.iconst 1, 1) := by decide +kernel
theorem dX12_parse_130 : decode cX12_parse 130 = .ok (.if_icmp .gt 10, 3) := by decide +kernel
theorem dX12_parse_133 : decode cX12_parse 133 = .ok (.aload_n 0, 1) := by decide +kernel
theorem dX12_parse_134 : decode cX12_parse 134 = .ok (.getfield 229, 3) := by decide +kernel
theorem dX12_parse_137 : decode cX12_parse 137 = .ok (.ifCond .eq 88, 3) := by decide +kernel
theorem dX12_parse_140 : decode cX12_parse 140 = .ok (.aload_n 0, 1) := by decide +kernel
theorem dX12_parse_141 : decode cX12_parse 141 = .ok (.getfield 302, 3) := by decide +kernel
theorem dX12_parse_144 : decode cX12_parse 144 = .ok (.iconst 1, 1) := by decide +kernel
theorem dX12_parse_145 : decode cX12_parse 145 = .ok (.if_icmp .le 19, 3) := by decide +kernel
theorem dX12_parse_148 : decode cX12_parse 148 = .ok (.aload_n 0, 1) := by decide +kernel
theorem dX12_parse_149 : decode cX12_parse 149 = .ok (.getfield 229, 3) := by decide +kernel
theorem dX12_parse_152 : decode cX12_parse 152 = .ok (.bipush 125, 2) := by decide +kernel
theorem dX12_parse_154 : decode cX12_parse 154 = .ok (.if_icmp .ne 10, 3) := by decide +kernel
theorem dX12_parse_157 : decode cX12_parse 157 = .ok (.aload_n 0, 1) := by decide +kernel
theorem dX12_parse_158 : decode cX12_parse 158 = .ok (.invokevirtual 338, 3) := by decide +kernel
theorem dX12_parse_161 : decode cX12_parse 161 = .ok (.goto (-43), 3) := by decide +kernel
theorem dX12_parse_164 : decode cX12_parse 164 = .ok (.aload_n 0, 1) := by decide +kernel
theorem dX12_parse_165 : decode cX12_parse 165 = .ok (.getfield 302, 3) := by decide +kernel
theorem dX12_parse_168 : decode cX12_parse 168 = .ok (.iconst 1, 1) := by decide +kernel
theorem dX12_parse_169 : decode cX12_parse 169 = .ok (.if_icmp .ne 39, 3) := by decide +kernel
theorem dX12_parse_172 : decode cX12_parse 172 = .ok (.iload_n 1, 1) := by decide +kernel
theorem dX12_parse_173 : decode cX12_parse 173 = .ok (.ifCond .ne 35, 3) := by decide +kernel
theorem dX12_parse_176 : decode cX12_parse 176 = .ok (.aload_n 0, 1) := by decide +kernel
theorem dX12_parse_177 : decode cX12_parse 177 = .ok (.getfield 229, 3) := by decide +kernel
theorem dX12_parse_180 : decode cX12_parse 180 = .ok (.bipush 107, 2) := by decide +kernel
theorem dX12_parse_182 : decode cX12_parse 182 = .ok (.if_icmp .ne 26, 3) := by decide +kernel
theorem dX12_parse_185 : decode cX12_parse 185 = .ok (.aload_n 0, 1) := by decide +kernel
theorem dX12_parse_186 : decode cX12_parse 186 = .ok (.getfield 235, 3) := by decide +kernel
theorem dX12_parse_189 : decode cX12_parse 189 = .ok (.iconst 1, 1) := by decide +kernel
theorem dX12_parse_190 : decode cX12_parse 190 = .ok (.if_icmp .lt 18, 3) := by decide +kernel
theorem dX12_parse_193 : decode cX12_parse 193 = .ok (.aload_n 0, 1) := by decide +kernel
theorem dX12_parse_194 : decode cX12_parse 194 = .ok (.getfield 235, 3) := by decide +kernel
theorem dX12_parse_197 : decode cX12_parse 197 = .ok (.iconst 3, 1) := by decide +kernel
theorem dX12_parse_198 : decode cX12_parse 198 = .ok (.if_icmp .gt 10, 3) := by decide +kernel
theorem dX12_parse_201 : decode cX12_parse 201 = .ok (.aload_n 0, 1) := by decide +kernel
theorem dX12_parse_202 : decode cX12_parse 202 = .ok (.invokevirtual 341, 3) := by decide +kernel
theorem dX12_parse_205 : decode cX12_parse 205 = .ok (.goto (-87), 3) := by decide +kernel
theorem dX12_parse_208 : decode cX12_parse 208 = .ok (.aload_n 0, 1) := by decide +kernel
theorem dX12_parse_209 : decode cX12_parse 209 = .ok (.getfield 302, 3) := by decide +kernel
theorem dX12_parse_212 : decode cX12_parse 212 = .ok (.iconst 1, 1) := by decide +kernel
theorem dX12_parse_213 : decode cX12_parse 213 = .ok (.if_icmp .ne 5, 3) := by decide +kernel
theorem dX12_parse_216 : decode cX12_parse 216 = .ok (.iconst 1, 1) := by decide +kernel
theorem dX12_parse_217 : decode cX12_parse 217 = .ok (.istore_n 1, 1) := by decide +kernel
theorem dX12_parse_218 : decode cX12_parse 218 = .ok (.aload_n 0, 1) := by decide +kernel
theorem dX12_parse_219 : decode cX12_parse 219 = .ok (.invokevirtual 344, 3) := by decide +kernel
theorem dX12_parse_222 : decode cX12_parse 222 = .ok (.goto (-104), 3) := by decide +kernel
theorem dX12_parse_225 : decode cX12_parse 225 = .ok (.return_, 1) := by decide +kernel
theorem dX12_join_0 : decode cX12_join 0 = .ok (.aload_n 0, 1) := by decide +kernel
theorem dX12_join_1 : decode cX12_join 1 = .ok (.getfield 13, 3) := by decide +kernel
theorem dX12_join_4 : decode cX12_join 4 = .ok (.bipush 6, 2) := by decide +kernel
theorem dX12_join_6 : decode cX12_join 6 = .ok (.iload_n 1, 1) := by decide +kernel
theorem dX12_join_7 : decode cX12_join 7 = .ok (.imul, 1) := by decide +kernel
theorem dX12_join_8 : decode cX12_join 8 = .ok (.iload_n 2, 1) := by decide +kernel
theorem dX12_join_9 : decode cX12_join 9 = .ok (.iadd, 1) := by decide +kernel
theorem dX12_join_10 : decode cX12_join 10 = .ok (.iaload, 1) := by decide +kernel
theorem dX12_join_11 : decode cX12_join 11 = .ok (.ireturn, 1) := by decide +kernel
theorem dX12_itemsLabel_0 : decode cX12_itemsLabel 0 = .ok (.aload_n 0, 1) := by decide +kernel
theorem dX12_itemsLabel_1 : decode cX12_itemsLabel 1 = .ok (.getfield 210, 3) := by decide +kernel
theorem dX12_itemsLabel_4 : decode cX12_itemsLabel 4 = .ok (.istore_n 2, 1) := by decide +kernel
theorem dX12_itemsLabel_5 : decode cX12_itemsLabel 5 = .ok (.iload_n 1, 1) := by decide +kernel
theorem dX12_itemsLabel_6 : decode cX12_itemsLabel 6 = .ok (.istore_n 3, 1) := by decide +kernel
theorem dX12_itemsLabel_7 : decode cX12_itemsLabel 7 = .ok (.aload_n 0, 1) := by decide +kernel
theorem dX12_itemsLabel_8 : decode cX12_itemsLabel 8 = .ok (.getfield 69, 3) := by decide +kernel
theorem dX12_itemsLabel_11 : decode cX12_itemsLabel 11 = .ok (.iload_n 3, 1) := by decide +kernel
theorem dX12_itemsLabel_12 : decode cX12_itemsLabel 12 = .ok (.iaload, 1) := by decide +kernel
theorem dX12_itemsLabel_13 : decode cX12_itemsLabel 13 = .ok (.ifCond .lt 63, 3) := by decide +kernel
theorem dX12_itemsLabel_16 : decode cX12_itemsLabel 16 = .ok (.aload_n 0, 1) := by decide +kernel
theorem dX12_itemsLabel_17 : decode cX12_itemsLabel 17 = .ok (.getfield 69, 3) := by decide +kernel
theorem dX12_itemsLabel_20 : decode cX12_itemsLabel 20 = .ok (.iload_n 3, 1) := by decide +kernel
theorem dX12_itemsLabel_21 : decode cX12_itemsLabel 21 = .ok (.iaload, 1) := by decide +kernel
theorem dX12_itemsLabel_22 : decode cX12_itemsLabel 22 = .ok (.iconst 1, 1) := by decide +kernel
theorem dX12_itemsLabel_23 : decode cX12_itemsLabel 23 = .ok (.if_icmp .ne 20, 3) := by decide +kernel
theorem dX12_itemsLabel_26 : decode cX12_itemsLabel 26 = .ok (.aload_n 0, 1) := by decide +kernel
theorem dX12_itemsLabel_27 : decode cX12_itemsLabel 27 = .ok (.iload_n 2, 1) := by decide +kernel
theorem dX12_itemsLabel_28 : decode cX12_itemsLabel 28 = .ok (.aload_n 0, 1) := by decide +kernel
theorem dX12_itemsLabel_29 : decode cX12_itemsLabel 29 = .ok (.getfield 105, 3) := by decide +kernel
theorem dX12_itemsLabel_32 : decode cX12_itemsLabel 32 = .ok (.aload_n 0, 1) := by decide +kernel
theorem dX12_itemsLabel_33 : decode cX12_itemsLabel 33 = .ok (.getfield 72, 3) := by decide +kernel
theorem dX12_itemsLabel_36 : decode cX12_itemsLabel 36 = .ok (.iload_n 3, 1) := by decide +kernel
theorem dX12_itemsLabel_37 : decode cX12_itemsLabel 37 = .ok (.iaload, 1) := by decide +kernel
theorem dX12_itemsLabel_38 : decode cX12_itemsLabel 38 = .ok (.iaload, 1) := by decide +kernel
theorem dX12_itemsLabel_39 : decode cX12_itemsLabel 39 = .ok (.invokevirtual 347, 3) := by decide +kernel
theorem dX12_itemsLabel_42 : decode cX12_itemsLabel 42 = .ok (.istore_n 2, 1) := by decide +kernel
theorem dX12_itemsLabel_43 : decode cX12_itemsLabel 43 = .ok (.aload_n 0, 1) := by decide +kernel
theorem dX12_itemsLabel_44 : decode cX12_itemsLabel 44 = .ok (.getfield 69, 3) := by decide +kernel
theorem dX12_itemsLabel_47 : decode cX12_itemsLabel 47 = .ok (.iload_n 3, 1) := by decide +kernel
theorem dX12_itemsLabel_48 : decode cX12_itemsLabel 48 = .ok (.iaload, 1) := by decide +kernel
theorem dX12_itemsLabel_49 : decode cX12_itemsLabel 49 = .ok (.iconst 3, 1) := by decide +kernel
theorem dX12_itemsLabel_50 : decode cX12_itemsLabel 50 = .ok (.if_icmp .ne 20, 3) := by decide +kernel
theorem dX12_itemsLabel_53 : decode cX12_itemsLabel 53 = .ok (.aload_n 0, 1) := by decide +kernel
theorem dX12_itemsLabel_54 : decode cX12_itemsLabel 54 = .ok (.iload_n 2, 1) := by decide +kernel
theorem dX12_itemsLabel_55 : decode cX12_itemsLabel 55 = .ok (.aload_n 0, 1) := by decide +kernel
theorem dX12_itemsLabel_56 : decode cX12_itemsLabel 56 = .ok (.getfield 84, 3) := by decide +kernel
theorem dX12_itemsLabel_59 : decode cX12_itemsLabel 59 = .ok (.aload_n 0, 1) := by decide +kernel
theorem dX12_itemsLabel_60 : decode cX12_itemsLabel 60 = .ok (.getfield 72, 3) := by decide +kernel
theorem dX12_itemsLabel_63 : decode cX12_itemsLabel 63 = .ok (.iload_n 3, 1) := by decide +kernel
theorem dX12_itemsLabel_64 : decode cX12_itemsLabel 64 = .ok (.iaload, 1) := by decide +kernel
theorem dX12_itemsLabel_65 : decode cX12_itemsLabel 65 = .ok (.iaload, 1) := by decide +kernel
theorem dX12_itemsLabel_66 : decode cX12_itemsLabel 66 = .ok (.invokevirtual 347, 3) := by decide +kernel
theorem dX12_itemsLabel_69 : decode cX12_itemsLabel 69 = .ok (.istore_n 2, 1) := by decide +kernel
theorem dX12_itemsLabel_70 : decode cX12_itemsLabel 70 = .ok (.iinc 3 1, 3) := by decide +kernel
theorem dX12_itemsLabel_73 : decode cX12_itemsLabel 73 = .ok (.goto (-66), 3) := by decide +kernel
theorem dX12_itemsLabel_76 : decode cX12_itemsLabel 76 = .ok (.iload_n 2, 1) := by decide +kernel
theorem dX12_itemsLabel_77 : decode cX12_itemsLabel 77 = .ok (.ireturn, 1) := by decide +kernel
theorem dX12_push_0 : decode cX12_push 0 = .ok (.aload_n 0, 1) := by decide +kernel
theorem dX12_push_1 : decode cX12_push 1 = .ok (.getfield 108, 3) := by decide +kernel
theorem dX12_push_4 : decode cX12_push 4 = .ok (.aload_n 0, 1) := by decide +kernel
theorem dX12_push_5 : decode cX12_push 5 = .ok (.getfield 351, 3) := by decide +kernel
theorem dX12_push_8 : decode cX12_push 8 = .ok (.iload_n 1, 1) := by decide +kernel
theorem dX12_push_9 : decode cX12_push 9 = .ok (.iastore, 1) := by decide +kernel
theorem dX12_push_10 : decode cX12_push 10 = .ok (.aload_n 0, 1) := by decide +kernel
theorem dX12_push_11 : decode cX12_push 11 = .ok (.getfield 111, 3) := by decide +kernel
theorem dX12_push_14 : decode cX12_push 14 = .ok (.aload_n 0, 1) := by decide +kernel
theorem dX12_push_15 : decode cX12_push 15 = .ok (.getfield 351, 3) := by decide +kernel
theorem dX12_push_18 : decode cX12_push 18 = .ok (.iload_n 2, 1) := by decide +kernel
theorem dX12_push_19 : decode cX12_push 19 = .ok (.iastore, 1) := by decide +kernel
theorem dX12_push_20 : decode cX12_push 20 = .ok (.aload_n 0, 1) := by decide +kernel
theorem dX12_push_21 : decode cX12_push 21 = .ok (.getfield 114, 3) := by decide +kernel
theorem dX12_push_24 : decode cX12_push 24 = .ok (.aload_n 0, 1) := by decide +kernel
theorem dX12_push_25 : decode cX12_push 25 = .ok (.getfield 351, 3) := by decide +kernel
theorem dX12_push_28 : decode cX12_push 28 = .ok (.aload_n 0, 1) := by decide +kernel
theorem dX12_push_29 : decode cX12_push 29 = .ok (.getfield 354, 3) := by decide +kernel
theorem dX12_push_32 : decode cX12_push 32 = .ok (.iastore, 1) := by decide +kernel
theorem dX12_push_33 : decode cX12_push 33 = .ok (.aload_n 0, 1) := by decide +kernel
theorem dX12_push_34 : decode cX12_push 34 = .ok (.dup, 1) := by decide +kernel
theorem dX12_push_35 : decode cX12_push 35 = .ok (.getfield 351, 3) := by decide +kernel
theorem dX12_push_38 : decode cX12_push 38 = .ok (.iconst 1, 1) := by decide +kernel
theorem dX12_push_39 : decode cX12_push 39 = .ok (.iadd, 1) := by decide +kernel
theorem dX12_push_40 : decode cX12_push 40 = .ok (.putfield 351, 3) := by decide +kernel
theorem dX12_push_43 : decode cX12_push 43 = .ok (.return_, 1) := by decide +kernel
theorem dX12_must_0 : decode cX12_must 0 = .ok (.aload_n 0, 1) := by decide +kernel
theorem dX12_must_1 : decode cX12_must 1 = .ok (.getfield 7, 3) := by decide +kernel
theorem dX12_must_4 : decode cX12_must 4 = .ok (.bipush 6, 2) := by decide +kernel
theorem dX12_must_6 : decode cX12_must 6 = .ok (.iload_n 1, 1) := by decide +kernel
theorem dX12_must_7 : decode cX12_must 7 = .ok (.imul, 1) := by decide +kernel
theorem dX12_must_8 : decode cX12_must 8 = .ok (.iload_n 2, 1) := by decide +kernel
theorem dX12_must_9 : decode cX12_must 9 = .ok (.iadd, 1) := by decide +kernel
theorem dX12_must_10 : decode cX12_must 10 = .ok (.baload, 1) := by decide +kernel
theorem dX12_must_11 : decode cX12_must 11 = .ok (.ifCond .ne 13, 3) := by decide +kernel
theorem dX12_must_14 : decode cX12_must 14 = .ok (.aload_n 0, 1) := by decide +kernel
theorem dX12_must_15 : decode cX12_must 15 = .ok (.aload_n 0, 1) := by decide +kernel
theorem dX12_must_16 : decode cX12_must 16 = .ok (.getfield 45, 3) := by decide +kernel
theorem dX12_must_19 : decode cX12_must 19 = .ok (.iload_n 3, 1) := by decide +kernel
theorem dX12_must_20 : decode cX12_must 20 = .ok (.iaload, 1) := by decide +kernel
theorem dX12_must_21 : decode cX12_must 21 = .ok (.putfield 253, 3) := by decide +kernel
theorem dX12_must_24 : decode cX12_must 24 = .ok (.return_, 1) := by decide +kernel
theorem dX12_gets_0 : decode cX12_gets 0 = .ok (.aload_n 0, 1) := by decide +kernel
theorem dX12_gets_1 : decode cX12_gets 1 = .ok (.getfield 81, 3) := by decide +kernel
theorem dX12_gets_4 : decode cX12_gets 4 = .ok (.iload_n 1, 1) := by decide +kernel
theorem dX12_gets_5 : decode cX12_gets 5 = .ok (.iaload, 1) := by decide +kernel
theorem dX12_gets_6 : decode cX12_gets 6 = .ok (.iconst 2, 1) := by decide +kernel
theorem dX12_gets_7 : decode cX12_gets 7 = .ok (.if_icmp .ne 18, 3) := by decide +kernel
theorem dX12_gets_10 : decode cX12_gets 10 = .ok (.aload_n 0, 1) := by decide +kernel
theorem dX12_gets_11 : decode cX12_gets 11 = .ok (.iload_n 2, 1) := by decide +kernel
theorem dX12_gets_12 : decode cX12_gets 12 = .ok (.aload_n 0, 1) := by decide +kernel
theorem dX12_gets_13 : decode cX12_gets 13 = .ok (.getfield 84, 3) := by decide +kernel
theorem dX12_gets_16 : decode cX12_gets 16 = .ok (.iload_n 1, 1) := by decide +kernel
theorem dX12_gets_17 : decode cX12_gets 17 = .ok (.iaload, 1) := by decide +kernel
theorem dX12_gets_18 : decode cX12_gets 18 = .ok (.iload_n 3, 1) := by decide +kernel
theorem dX12_gets_19 : decode cX12_gets 19 = .ok (.invokevirtual 357, 3) := by decide +kernel
theorem dX12_gets_22 : decode cX12_gets 22 = .ok (.goto 10, 3) := by decide +kernel
theorem dX12_gets_25 : decode cX12_gets 25 = .ok (.aload_n 0, 1) := by decide +kernel
theorem dX12_gets_26 : decode cX12_gets 26 = .ok (.getfield 105, 3) := by decide +kernel
theorem dX12_gets_29 : decode cX12_gets 29 = .ok (.iload_n 1, 1) := by decide +kernel
theorem dX12_gets_30 : decode cX12_gets 30 = .ok (.iload_n 2, 1) := by decide +kernel
theorem dX12_gets_31 : decode cX12_gets 31 = .ok (.iastore, 1) := by decide +kernel
theorem dX12_gets_32 : decode cX12_gets 32 = .ok (.return_, 1) := by decide +kernel
theorem dX12_flowThrough_0 : decode cX12_flowThrough 0 = .ok (.aload_n 0, 1) := by decide +kernel
theorem dX12_flowThrough_1 : decode cX12_flowThrough 1 = .ok (.getfield 42, 3) := by decide +kernel
theorem dX12_flowThrough_4 : decode cX12_flowThrough 4 = .ok (.iload_n 1, 1) := by decide +kernel
theorem dX12_flowThrough_5 : decode cX12_flowThrough 5 = .ok (.iaload, 1) := by decide +kernel
theorem dX12_flowThrough_6 : decode cX12_flowThrough 6 = .ok (.tableswitch 228 1 7 #[42, 74, 228, 228, 127, 169, 201], 42) := by decide +kernel
theorem dX12_flowThrough_48 : decode cX12_flowThrough 48 = .ok (.aload_n 0, 1) := by decide +kernel
theorem dX12_flowThrough_49 : decode cX12_flowThrough 49 = .ok (.aload_n 0, 1) := by decide +kernel
theorem dX12_flowThrough_50 : decode cX12_flowThrough 50 = .ok (.getfield 48, 3) := by decide +kernel
theorem dX12_flowThrough_53 : decode cX12_flowThrough 53 = .ok (.iload_n 1, 1) := by decide +kernel
theorem dX12_flowThrough_54 : decode cX12_flowThrough 54 = .ok (.iaload, 1) := by decide +kernel
theorem dX12_flowThrough_55 : decode cX12_flowThrough 55 = .ok (.aload_n 0, 1) := by decide +kernel
theorem dX12_flowThrough_56 : decode cX12_flowThrough 56 = .ok (.aload_n 0, 1) := by decide +kernel
theorem dX12_flowThrough_57 : decode cX12_flowThrough 57 = .ok (.getfield 354, 3) := by decide +kernel
theorem dX12_flowThrough_60 : decode cX12_flowThrough 60 = .ok (.aload_n 0, 1) := by decide +kernel
theorem dX12_flowThrough_61 : decode cX12_flowThrough 61 = .ok (.aload_n 0, 1) := by decide +kernel
theorem dX12_flowThrough_62 : decode cX12_flowThrough 62 = .ok (.getfield 57, 3) := by decide +kernel
theorem dX12_flowThrough_65 : decode cX12_flowThrough 65 = .ok (.iload_n 1, 1) := by decide +kernel
theorem dX12_flowThrough_66 : decode cX12_flowThrough 66 = .ok (.iaload, 1) := by decide +kernel
theorem dX12_flowThrough_67 : decode cX12_flowThrough 67 = .ok (.invokevirtual 361, 3) := by decide +kernel
theorem dX12_flowThrough_70 : decode cX12_flowThrough 70 = .ok (.invokevirtual 347, 3) := by decide +kernel
theorem dX12_flowThrough_73 : decode cX12_flowThrough 73 = .ok (.iload_n 1, 1) := by decide +kernel
theorem dX12_flowThrough_74 : decode cX12_flowThrough 74 = .ok (.invokevirtual 364, 3) := by decide +kernel
theorem dX12_flowThrough_77 : decode cX12_flowThrough 77 = .ok (.goto 241, 3) := by decide +kernel
theorem dX12_flowThrough_80 : decode cX12_flowThrough 80 = .ok (.aload_n 0, 1) := by decide +kernel
theorem dX12_flowThrough_81 : decode cX12_flowThrough 81 = .ok (.aload_n 0, 1) := by decide +kernel
theorem dX12_flowThrough_82 : decode cX12_flowThrough 82 = .ok (.aload_n 0, 1) := by decide +kernel
theorem dX12_flowThrough_83 : decode cX12_flowThrough 83 = .ok (.getfield 54, 3) := by decide +kernel
theorem dX12_flowThrough_86 : decode cX12_flowThrough 86 = .ok (.iload_n 1, 1) := by decide +kernel
theorem dX12_flowThrough_87 : decode cX12_flowThrough 87 = .ok (.iaload, 1) := by decide +kernel
theorem dX12_flowThrough_88 : decode cX12_flowThrough 88 = .ok (.invokevirtual 361, 3) := by decide +kernel
theorem dX12_flowThrough_91 : decode cX12_flowThrough 91 = .ok (.aload_n 0, 1) := by decide +kernel
theorem dX12_flowThrough_92 : decode cX12_flowThrough 92 = .ok (.aload_n 0, 1) := by decide +kernel
theorem dX12_flowThrough_93 : decode cX12_flowThrough 93 = .ok (.getfield 57, 3) := by decide +kernel
theorem dX12_flowThrough_96 : decode cX12_flowThrough 96 = .ok (.iload_n 1, 1) := by decide +kernel
theorem dX12_flowThrough_97 : decode cX12_flowThrough 97 = .ok (.iaload, 1) := by decide +kernel
theorem dX12_flowThrough_98 : decode cX12_flowThrough 98 = .ok (.invokevirtual 361, 3) := by decide +kernel
theorem dX12_flowThrough_101 : decode cX12_flowThrough 101 = .ok (.invokevirtual 347, 3) := by decide +kernel
theorem dX12_flowThrough_104 : decode cX12_flowThrough 104 = .ok (.istore_n 2, 1) := by decide +kernel
theorem dX12_flowThrough_105 : decode cX12_flowThrough 105 = .ok (.aload_n 0, 1) := by decide +kernel
theorem dX12_flowThrough_106 : decode cX12_flowThrough 106 = .ok (.aload_n 0, 1) := by decide +kernel
theorem dX12_flowThrough_107 : decode cX12_flowThrough 107 = .ok (.aload_n 0, 1) := by decide +kernel
theorem dX12_flowThrough_108 : decode cX12_flowThrough 108 = .ok (.getfield 354, 3) := by decide +kernel
theorem dX12_flowThrough_111 : decode cX12_flowThrough 111 = .ok (.iload_n 2, 1) := by decide +kernel
theorem dX12_flowThrough_112 : decode cX12_flowThrough 112 = .ok (.invokevirtual 347, 3) := by decide +kernel
theorem dX12_flowThrough_115 : decode cX12_flowThrough 115 = .ok (.aload_n 0, 1) := by decide +kernel
theorem dX12_flowThrough_116 : decode cX12_flowThrough 116 = .ok (.getfield 84, 3) := by decide +kernel
theorem dX12_flowThrough_119 : decode cX12_flowThrough 119 = .ok (.aload_n 0, 1) := by decide +kernel
theorem dX12_flowThrough_120 : decode cX12_flowThrough 120 = .ok (.getfield 48, 3) := by decide +kernel
theorem dX12_flowThrough_123 : decode cX12_flowThrough 123 = .ok (.iload_n 1, 1) := by decide +kernel
theorem dX12_flowThrough_124 : decode cX12_flowThrough 124 = .ok (.iaload, 1) := by decide +kernel
theorem dX12_flowThrough_125 : decode cX12_flowThrough 125 = .ok (.iaload, 1) := by decide +kernel
theorem dX12_flowThrough_126 : decode cX12_flowThrough 126 = .ok (.iload_n 1, 1) := by decide +kernel
theorem dX12_flowThrough_127 : decode cX12_flowThrough 127 = .ok (.invokevirtual 357, 3) := by decide +kernel
theorem dX12_flowThrough_130 : decode cX12_flowThrough 130 = .ok (.goto 188, 3) := by decide +kernel
theorem dX12_flowThrough_133 : decode cX12_flowThrough 133 = .ok (.aload_n 0, 1) := by decide +kernel
theorem dX12_flowThrough_134 : decode cX12_flowThrough 134 = .ok (.aload_n 0, 1) := by decide +kernel
theorem dX12_flowThrough_135 : decode cX12_flowThrough 135 = .ok (.getfield 354, 3) := by decide +kernel
theorem dX12_flowThrough_138 : decode cX12_flowThrough 138 = .ok (.aload_n 0, 1) := by decide +kernel
theorem dX12_flowThrough_139 : decode cX12_flowThrough 139 = .ok (.getfield 51, 3) := by decide +kernel
theorem dX12_flowThrough_142 : decode cX12_flowThrough 142 = .ok (.iload_n 1, 1) := by decide +kernel
theorem dX12_flowThrough_143 : decode cX12_flowThrough 143 = .ok (.iaload, 1) := by decide +kernel
theorem dX12_flowThrough_144 : decode cX12_flowThrough 144 = .ok (.iload_n 1, 1) := by decide +kernel
theorem dX12_flowThrough_145 : decode cX12_flowThrough 145 = .ok (.invokevirtual 357, 3) := by decide +kernel
theorem dX12_flowThrough_148 : decode cX12_flowThrough 148 = .ok (.aload_n 0, 1) := by decide +kernel
theorem dX12_flowThrough_149 : decode cX12_flowThrough 149 = .ok (.getfield 253, 3) := by decide +kernel
theorem dX12_flowThrough_152 : decode cX12_flowThrough 152 = .ok (.ifCond .ge 166, 3) := by decide +kernel
theorem dX12_flowThrough_155 : decode cX12_flowThrough 155 = .ok (.aload_n 0, 1) := by decide +kernel
theorem dX12_flowThrough_156 : decode cX12_flowThrough 156 = .ok (.aload_n 0, 1) := by decide +kernel
theorem dX12_flowThrough_157 : decode cX12_flowThrough 157 = .ok (.getfield 48, 3) := by decide +kernel
theorem dX12_flowThrough_160 : decode cX12_flowThrough 160 = .ok (.iload_n 1, 1) := by decide +kernel
theorem dX12_flowThrough_161 : decode cX12_flowThrough 161 = .ok (.iaload, 1) := by decide +kernel
theorem dX12_flowThrough_162 : decode cX12_flowThrough 162 = .ok (.aload_n 0, 1) := by decide +kernel
theorem dX12_flowThrough_163 : decode cX12_flowThrough 163 = .ok (.getfield 51, 3) := by decide +kernel
theorem dX12_flowThrough_166 : decode cX12_flowThrough 166 = .ok (.iload_n 1, 1) := by decide +kernel
theorem dX12_flowThrough_167 : decode cX12_flowThrough 167 = .ok (.iaload, 1) := by decide +kernel
theorem dX12_flowThrough_168 : decode cX12_flowThrough 168 = .ok (.iload_n 1, 1) := by decide +kernel
theorem dX12_flowThrough_169 : decode cX12_flowThrough 169 = .ok (.invokevirtual 364, 3) := by decide +kernel
theorem dX12_flowThrough_172 : decode cX12_flowThrough 172 = .ok (.goto 146, 3) := by decide +kernel
theorem dX12_flowThrough_175 : decode cX12_flowThrough 175 = .ok (.aload_n 0, 1) := by decide +kernel
theorem dX12_flowThrough_176 : decode cX12_flowThrough 176 = .ok (.aload_n 0, 1) := by decide +kernel
theorem dX12_flowThrough_177 : decode cX12_flowThrough 177 = .ok (.aload_n 0, 1) := by decide +kernel
theorem dX12_flowThrough_178 : decode cX12_flowThrough 178 = .ok (.getfield 354, 3) := by decide +kernel
theorem dX12_flowThrough_181 : decode cX12_flowThrough 181 = .ok (.aload_n 0, 1) := by decide +kernel
theorem dX12_flowThrough_182 : decode cX12_flowThrough 182 = .ok (.aload_n 0, 1) := by decide +kernel
theorem dX12_flowThrough_183 : decode cX12_flowThrough 183 = .ok (.getfield 54, 3) := by decide +kernel
theorem dX12_flowThrough_186 : decode cX12_flowThrough 186 = .ok (.iload_n 1, 1) := by decide +kernel
theorem dX12_flowThrough_187 : decode cX12_flowThrough 187 = .ok (.iaload, 1) := by decide +kernel
theorem dX12_flowThrough_188 : decode cX12_flowThrough 188 = .ok (.invokevirtual 361, 3) := by decide +kernel
theorem dX12_flowThrough_191 : decode cX12_flowThrough 191 = .ok (.invokevirtual 347, 3) := by decide +kernel
theorem dX12_flowThrough_194 : decode cX12_flowThrough 194 = .ok (.aload_n 0, 1) := by decide +kernel
theorem dX12_flowThrough_195 : decode cX12_flowThrough 195 = .ok (.getfield 51, 3) := by decide +kernel
theorem dX12_flowThrough_198 : decode cX12_flowThrough 198 = .ok (.iload_n 1, 1) := by decide +kernel
theorem dX12_flowThrough_199 : decode cX12_flowThrough 199 = .ok (.iaload, 1) := by decide +kernel
theorem dX12_flowThrough_200 : decode cX12_flowThrough 200 = .ok (.iload_n 1, 1) := by decide +kernel
theorem dX12_flowThrough_201 : decode cX12_flowThrough 201 = .ok (.invokevirtual 357, 3) := by decide +kernel
theorem dX12_flowThrough_204 : decode cX12_flowThrough 204 = .ok (.goto 114, 3) := by decide +kernel
theorem dX12_flowThrough_207 : decode cX12_flowThrough 207 = .ok (.aload_n 0, 1) := by decide +kernel
theorem dX12_flowThrough_208 : decode cX12_flowThrough 208 = .ok (.bipush 7, 2) := by decide +kernel
theorem dX12_flowThrough_210 : decode cX12_flowThrough 210 = .ok (.iload_n 1, 1) := by decide +kernel
theorem dX12_flowThrough_211 : decode cX12_flowThrough 211 = .ok (.invokevirtual 367, 3) := by decide +kernel
theorem dX12_flowThrough_214 : decode cX12_flowThrough 214 = .ok (.aload_n 0, 1) := by decide +kernel
theorem dX12_flowThrough_215 : decode cX12_flowThrough 215 = .ok (.getfield 75, 3) := by decide +kernel
theorem dX12_flowThrough_218 : decode cX12_flowThrough 218 = .ok (.bipush 26, 2) := by decide +kernel
theorem dX12_flowThrough_220 : decode cX12_flowThrough 220 = .ok (.aload_n 0, 1) := by decide +kernel
theorem dX12_flowThrough_221 : decode cX12_flowThrough 221 = .ok (.getfield 308, 3) := by decide +kernel
theorem dX12_flowThrough_224 : decode cX12_flowThrough 224 = .ok (.imul, 1) := by decide +kernel
theorem dX12_flowThrough_225 : decode cX12_flowThrough 225 = .ok (.aload_n 0, 1) := by decide +kernel
theorem dX12_flowThrough_226 : decode cX12_flowThrough 226 = .ok (.getfield 48, 3) := by decide +kernel
theorem dX12_flowThrough_229 : decode cX12_flowThrough 229 = .ok (.iload_n 1, 1) := by decide +kernel
theorem dX12_flowThrough_230 : decode cX12_flowThrough 230 = .ok (.iaload, 1) := by decide +kernel
theorem dX12_flowThrough_231 : decode cX12_flowThrough 231 = .ok (.iadd, 1) := by decide +kernel
theorem dX12_flowThrough_232 : decode cX12_flowThrough 232 = .ok (.iaload, 1) := by decide +kernel
theorem dX12_flowThrough_233 : decode cX12_flowThrough 233 = .ok (.ireturn, 1) := by decide +kernel
theorem dX12_flowThrough_234 : decode cX12_flowThrough 234 = .ok (.aload_n 0, 1) := by decide +kernel
theorem dX12_flowThrough_235 : decode cX12_flowThrough 235 = .ok (.aload_n 0, 1) := by decide +kernel
theorem dX12_flowThrough_236 : decode cX12_flowThrough 236 = .ok (.getfield 42, 3) := by decide +kernel
theorem dX12_flowThrough_239 : decode cX12_flowThrough 239 = .ok (.iload_n 1, 1) := by decide +kernel
theorem dX12_flowThrough_240 : decode cX12_flowThrough 240 = .ok (.iaload, 1) := by decide +kernel
theorem dX12_flowThrough_241 : decode cX12_flowThrough 241 = .ok (.iload_n 1, 1) := by decide +kernel
theorem dX12_flowThrough_242 : decode cX12_flowThrough 242 = .ok (.invokevirtual 367, 3) := by decide +kernel
theorem dX12_flowThrough_245 : decode cX12_flowThrough 245 = .ok (.iconst 0, 1) := by decide +kernel
theorem dX12_flowThrough_246 : decode cX12_flowThrough 246 = .ok (.istore_n 3, 1) := by decide +kernel
theorem dX12_flowThrough_247 : decode cX12_flowThrough 247 = .ok (.iload_n 3, 1) := by decide +kernel
theorem dX12_flowThrough_248 : decode cX12_flowThrough 248 = .ok (.bipush 26, 2) := by decide +kernel
theorem dX12_flowThrough_250 : decode cX12_flowThrough 250 = .ok (.if_icmp .ge 29, 3) := by decide +kernel
theorem dX12_flowThrough_253 : decode cX12_flowThrough 253 = .ok (.aload_n 0, 1) := by decide +kernel
theorem dX12_flowThrough_254 : decode cX12_flowThrough 254 = .ok (.getfield 117, 3) := by decide +kernel
theorem dX12_flowThrough_257 : decode cX12_flowThrough 257 = .ok (.bipush 52, 2) := by decide +kernel
theorem dX12_flowThrough_259 : decode cX12_flowThrough 259 = .ok (.aload_n 0, 1) := by decide +kernel
theorem dX12_flowThrough_260 : decode cX12_flowThrough 260 = .ok (.getfield 370, 3) := by decide +kernel
theorem dX12_flowThrough_263 : decode cX12_flowThrough 263 = .ok (.imul, 1) := by decide +kernel
theorem dX12_flowThrough_264 : decode cX12_flowThrough 264 = .ok (.iload_n 3, 1) := by decide +kernel
theorem dX12_flowThrough_265 : decode cX12_flowThrough 265 = .ok (.iadd, 1) := by decide +kernel
theorem dX12_flowThrough_266 : decode cX12_flowThrough 266 = .ok (.aload_n 0, 1) := by decide +kernel
theorem dX12_flowThrough_267 : decode cX12_flowThrough 267 = .ok (.getfield 105, 3) := by decide +kernel
theorem dX12_flowThrough_270 : decode cX12_flowThrough 270 = .ok (.iload_n 3, 1) := by decide +kernel
theorem dX12_flowThrough_271 : decode cX12_flowThrough 271 = .ok (.iaload, 1) := by decide +kernel
theorem dX12_flowThrough_272 : decode cX12_flowThrough 272 = .ok (.iastore, 1) := by decide +kernel
theorem dX12_flowThrough_273 : decode cX12_flowThrough 273 = .ok (.iinc 3 1, 3) := by decide +kernel
theorem dX12_flowThrough_276 : decode cX12_flowThrough 276 = .ok (.goto (-29), 3) := by decide +kernel
theorem dX12_flowThrough_279 : decode cX12_flowThrough 279 = .ok (.aload_n 0, 1) := by decide +kernel
theorem dX12_flowThrough_280 : decode cX12_flowThrough 280 = .ok (.dup, 1) := by decide +kernel
theorem dX12_flowThrough_281 : decode cX12_flowThrough 281 = .ok (.getfield 370, 3) := by decide +kernel
theorem dX12_flowThrough_284 : decode cX12_flowThrough 284 = .ok (.iconst 1, 1) := by decide +kernel
theorem dX12_flowThrough_285 : decode cX12_flowThrough 285 = .ok (.iadd, 1) := by decide +kernel
theorem dX12_flowThrough_286 : decode cX12_flowThrough 286 = .ok (.putfield 370, 3) := by decide +kernel
theorem dX12_flowThrough_289 : decode cX12_flowThrough 289 = .ok (.aload_n 0, 1) := by decide +kernel
theorem dX12_flowThrough_290 : decode cX12_flowThrough 290 = .ok (.aload_n 0, 1) := by decide +kernel
theorem dX12_flowThrough_291 : decode cX12_flowThrough 291 = .ok (.aload_n 0, 1) := by decide +kernel
theorem dX12_flowThrough_292 : decode cX12_flowThrough 292 = .ok (.getfield 354, 3) := by decide +kernel
theorem dX12_flowThrough_295 : decode cX12_flowThrough 295 = .ok (.aload_n 0, 1) := by decide +kernel
theorem dX12_flowThrough_296 : decode cX12_flowThrough 296 = .ok (.aload_n 0, 1) := by decide +kernel
theorem dX12_flowThrough_297 : decode cX12_flowThrough 297 = .ok (.getfield 54, 3) := by decide +kernel
theorem dX12_flowThrough_300 : decode cX12_flowThrough 300 = .ok (.iload_n 1, 1) := by decide +kernel
theorem dX12_flowThrough_301 : decode cX12_flowThrough 301 = .ok (.iaload, 1) := by decide +kernel
theorem dX12_flowThrough_302 : decode cX12_flowThrough 302 = .ok (.invokevirtual 361, 3) := by decide +kernel
theorem dX12_flowThrough_305 : decode cX12_flowThrough 305 = .ok (.invokevirtual 347, 3) := by decide +kernel
theorem dX12_flowThrough_308 : decode cX12_flowThrough 308 = .ok (.putfield 354, 3) := by decide +kernel
theorem dX12_flowThrough_311 : decode cX12_flowThrough 311 = .ok (.aload_n 0, 1) := by decide +kernel
theorem dX12_flowThrough_312 : decode cX12_flowThrough 312 = .ok (.getfield 60, 3) := by decide +kernel
theorem dX12_flowThrough_315 : decode cX12_flowThrough 315 = .ok (.iload_n 1, 1) := by decide +kernel
theorem dX12_flowThrough_316 : decode cX12_flowThrough 316 = .ok (.iaload, 1) := by decide +kernel
theorem dX12_flowThrough_317 : decode cX12_flowThrough 317 = .ok (.ireturn, 1) := by decide +kernel
theorem dX12_flowThrough_318 : decode cX12_flowThrough 318 = .ok (.aload_n 0, 1) := by decide +kernel
theorem dX12_flowThrough_319 : decode cX12_flowThrough 319 = .ok (.getfield 66, 3) := by decide +kernel
theorem dX12_flowThrough_322 : decode cX12_flowThrough 322 = .ok (.iload_n 1, 1) := by decide +kernel
theorem dX12_flowThrough_323 : decode cX12_flowThrough 323 = .ok (.iaload, 1) := by decide +kernel
theorem dX12_flowThrough_324 : decode cX12_flowThrough 324 = .ok (.ireturn, 1) := by decide +kernel
theorem dX12_leave_0 : decode cX12_leave 0 = .ok (.aload_n 0, 1) := by decide +kernel
theorem dX12_leave_1 : decode cX12_leave 1 = .ok (.dup, 1) := by decide +kernel
theorem dX12_leave_2 : decode cX12_leave 2 = .ok (.getfield 351, 3) := by decide +kernel
theorem dX12_leave_5 : decode cX12_leave 5 = .ok (.iconst 1, 1) := by decide +kernel
theorem dX12_leave_6 : decode cX12_leave 6 = .ok (.isub, 1) := by decide +kernel
theorem dX12_leave_7 : decode cX12_leave 7 = .ok (.putfield 351, 3) := by decide +kernel
theorem dX12_leave_10 : decode cX12_leave 10 = .ok (.aload_n 0, 1) := by decide +kernel
theorem dX12_leave_11 : decode cX12_leave 11 = .ok (.dup, 1) := by decide +kernel
theorem dX12_leave_12 : decode cX12_leave 12 = .ok (.getfield 370, 3) := by decide +kernel
theorem dX12_leave_15 : decode cX12_leave 15 = .ok (.iconst 1, 1) := by decide +kernel
theorem dX12_leave_16 : decode cX12_leave 16 = .ok (.isub, 1) := by decide +kernel
theorem dX12_leave_17 : decode cX12_leave 17 = .ok (.putfield 370, 3) := by decide +kernel
theorem dX12_leave_20 : decode cX12_leave 20 = .ok (.aload_n 0, 1) := by decide +kernel
theorem dX12_leave_21 : decode cX12_leave 21 = .ok (.aload_n 0, 1) := by decide +kernel
theorem dX12_leave_22 : decode cX12_leave 22 = .ok (.getfield 114, 3) := by decide +kernel
theorem dX12_leave_25 : decode cX12_leave 25 = .ok (.aload_n 0, 1) := by decide +kernel
theorem dX12_leave_26 : decode cX12_leave 26 = .ok (.getfield 351, 3) := by decide +kernel
theorem dX12_leave_29 : decode cX12_leave 29 = .ok (.iaload, 1) := by decide +kernel
theorem dX12_leave_30 : decode cX12_leave 30 = .ok (.putfield 354, 3) := by decide +kernel
theorem dX12_leave_33 : decode cX12_leave 33 = .ok (.aload_n 0, 1) := by decide +kernel
theorem dX12_leave_34 : decode cX12_leave 34 = .ok (.getfield 66, 3) := by decide +kernel
theorem dX12_leave_37 : decode cX12_leave 37 = .ok (.iload_n 1, 1) := by decide +kernel
theorem dX12_leave_38 : decode cX12_leave 38 = .ok (.iaload, 1) := by decide +kernel
theorem dX12_leave_39 : decode cX12_leave 39 = .ok (.ireturn, 1) := by decide +kernel
theorem dX12_flowBack_0 : decode cX12_flowBack 0 = .ok (.aload_n 0, 1) := by decide +kernel
theorem dX12_flowBack_1 : decode cX12_flowBack 1 = .ok (.getfield 108, 3) := by decide +kernel
theorem dX12_flowBack_4 : decode cX12_flowBack 4 = .ok (.aload_n 0, 1) := by decide +kernel
theorem dX12_flowBack_5 : decode cX12_flowBack 5 = .ok (.getfield 351, 3) := by decide +kernel
theorem dX12_flowBack_8 : decode cX12_flowBack 8 = .ok (.iconst 1, 1) := by decide +kernel
theorem dX12_flowBack_9 : decode cX12_flowBack 9 = .ok (.isub, 1) := by decide +kernel
theorem dX12_flowBack_10 : decode cX12_flowBack 10 = .ok (.iaload, 1) := by decide +kernel
theorem dX12_flowBack_11 : decode cX12_flowBack 11 = .ok (.istore_n 1, 1) := by decide +kernel
theorem dX12_flowBack_12 : decode cX12_flowBack 12 = .ok (.aload_n 0, 1) := by decide +kernel
theorem dX12_flowBack_13 : decode cX12_flowBack 13 = .ok (.getfield 111, 3) := by decide +kernel
theorem dX12_flowBack_16 : decode cX12_flowBack 16 = .ok (.aload_n 0, 1) := by decide +kernel
theorem dX12_flowBack_17 : decode cX12_flowBack 17 = .ok (.getfield 351, 3) := by decide +kernel
theorem dX12_flowBack_20 : decode cX12_flowBack 20 = .ok (.iconst 1, 1) := by decide +kernel
theorem dX12_flowBack_21 : decode cX12_flowBack 21 = .ok (.isub, 1) := by decide +kernel
theorem dX12_flowBack_22 : decode cX12_flowBack 22 = .ok (.iaload, 1) := by decide +kernel
theorem dX12_flowBack_23 : decode cX12_flowBack 23 = .ok (.istore_n 2, 1) := by decide +kernel
theorem dX12_flowBack_24 : decode cX12_flowBack 24 = .ok (.iload_n 1, 1) := by decide +kernel
theorem dX12_flowBack_25 : decode cX12_flowBack 25 = .ok (.bipush 7, 2) := by decide +kernel
theorem dX12_flowBack_27 : decode cX12_flowBack 27 = .ok (.if_icmp .ne 20, 3) := by decide +kernel
theorem dX12_flowBack_30 : decode cX12_flowBack 30 = .ok (.aload_n 0, 1) := by decide +kernel
theorem dX12_flowBack_31 : decode cX12_flowBack 31 = .ok (.dup, 1) := by decide +kernel
theorem dX12_flowBack_32 : decode cX12_flowBack 32 = .ok (.getfield 351, 3) := by decide +kernel
theorem dX12_flowBack_35 : decode cX12_flowBack 35 = .ok (.iconst 1, 1) := by decide +kernel
theorem dX12_flowBack_36 : decode cX12_flowBack 36 = .ok (.isub, 1) := by decide +kernel
theorem dX12_flowBack_37 : decode cX12_flowBack 37 = .ok (.putfield 351, 3) := by decide +kernel
theorem dX12_flowBack_40 : decode cX12_flowBack 40 = .ok (.aload_n 0, 1) := by decide +kernel
theorem dX12_flowBack_41 : decode cX12_flowBack 41 = .ok (.getfield 66, 3) := by decide +kernel
theorem dX12_flowBack_44 : decode cX12_flowBack 44 = .ok (.iload_n 2, 1) := by decide +kernel
theorem dX12_flowBack_45 : decode cX12_flowBack 45 = .ok (.iaload, 1) := by decide +kernel
theorem dX12_flowBack_46 : decode cX12_flowBack 46 = .ok (.ireturn, 1) := by decide +kernel
theorem dX12_flowBack_47 : decode cX12_flowBack 47 = .ok (.bipush 52, 2) := by decide +kernel
theorem dX12_flowBack_49 : decode cX12_flowBack 49 = .ok (.aload_n 0, 1) := by decide +kernel
theorem dX12_flowBack_50 : decode cX12_flowBack 50 = .ok (.getfield 370, 3) := by decide +kernel
theorem dX12_flowBack_53 : decode cX12_flowBack 53 = .ok (.imul, 1) := by decide +kernel
theorem dX12_flowBack_54 : decode cX12_flowBack 54 = .ok (.bipush 52, 2) := by decide +kernel
theorem dX12_flowBack_56 : decode cX12_flowBack 56 = .ok (.isub, 1) := by decide +kernel
theorem dX12_flowBack_57 : decode cX12_flowBack 57 = .ok (.istore_n 3, 1) := by decide +kernel
theorem dX12_flowBack_58 : decode cX12_flowBack 58 = .ok (.iload_n 1, 1) := by decide +kernel
theorem dX12_flowBack_59 : decode cX12_flowBack 59 = .ok (.iconst 3, 1) := by decide +kernel
theorem dX12_flowBack_60 : decode cX12_flowBack 60 = .ok (.if_icmp .ne 84, 3) := by decide +kernel
theorem dX12_flowBack_63 : decode cX12_flowBack 63 = .ok (.aload_n 0, 1) := by decide +kernel
theorem dX12_flowBack_64 : decode cX12_flowBack 64 = .ok (.getfield 51, 3) := by decide +kernel
theorem dX12_flowBack_67 : decode cX12_flowBack 67 = .ok (.iload_n 2, 1) := by decide +kernel
theorem dX12_flowBack_68 : decode cX12_flowBack 68 = .ok (.iaload, 1) := by decide +kernel
theorem dX12_flowBack_69 : decode cX12_flowBack 69 = .ok (.iconst 1, 1) := by decide +kernel
theorem dX12_flowBack_70 : decode cX12_flowBack 70 = .ok (.if_icmp .ne 74, 3) := by decide +kernel
theorem dX12_flowBack_73 : decode cX12_flowBack 73 = .ok (.iconst 0, 1) := by decide +kernel
theorem dX12_flowBack_74 : decode cX12_flowBack 74 = .ok (.istore 4, 2) := by decide +kernel
theorem dX12_flowBack_76 : decode cX12_flowBack 76 = .ok (.iload 4, 2) := by decide +kernel
theorem dX12_flowBack_78 : decode cX12_flowBack 78 = .ok (.bipush 26, 2) := by decide +kernel
theorem dX12_flowBack_80 : decode cX12_flowBack 80 = .ok (.if_icmp .ge 44, 3) := by decide +kernel
theorem dX12_flowBack_83 : decode cX12_flowBack 83 = .ok (.aload_n 0, 1) := by decide +kernel
theorem dX12_flowBack_84 : decode cX12_flowBack 84 = .ok (.getfield 117, 3) := by decide +kernel
theorem dX12_flowBack_87 : decode cX12_flowBack 87 = .ok (.iload_n 3, 1) := by decide +kernel
theorem dX12_flowBack_88 : decode cX12_flowBack 88 = .ok (.bipush 26, 2) := by decide +kernel
theorem dX12_flowBack_90 : decode cX12_flowBack 90 = .ok (.iadd, 1) := by decide +kernel
theorem dX12_flowBack_91 : decode cX12_flowBack 91 = .ok (.iload 4, 2) := by decide +kernel
theorem dX12_flowBack_93 : decode cX12_flowBack 93 = .ok (.iadd, 1) := by decide +kernel
theorem dX12_flowBack_94 : decode cX12_flowBack 94 = .ok (.aload_n 0, 1) := by decide +kernel
theorem dX12_flowBack_95 : decode cX12_flowBack 95 = .ok (.getfield 105, 3) := by decide +kernel
theorem dX12_flowBack_98 : decode cX12_flowBack 98 = .ok (.iload 4, 2) := by decide +kernel
theorem dX12_flowBack_100 : decode cX12_flowBack 100 = .ok (.iaload, 1) := by decide +kernel
theorem dX12_flowBack_101 : decode cX12_flowBack 101 = .ok (.iastore, 1) := by decide +kernel
theorem dX12_flowBack_102 : decode cX12_flowBack 102 = .ok (.aload_n 0, 1) := by decide +kernel
theorem dX12_flowBack_103 : decode cX12_flowBack 103 = .ok (.getfield 105, 3) := by decide +kernel
theorem dX12_flowBack_106 : decode cX12_flowBack 106 = .ok (.iload 4, 2) := by decide +kernel
theorem dX12_flowBack_108 : decode cX12_flowBack 108 = .ok (.aload_n 0, 1) := by decide +kernel
theorem dX12_flowBack_109 : decode cX12_flowBack 109 = .ok (.getfield 117, 3) := by decide +kernel
theorem dX12_flowBack_112 : decode cX12_flowBack 112 = .ok (.iload_n 3, 1) := by decide +kernel
theorem dX12_flowBack_113 : decode cX12_flowBack 113 = .ok (.iload 4, 2) := by decide +kernel
theorem dX12_flowBack_115 : decode cX12_flowBack 115 = .ok (.iadd, 1) := by decide +kernel
theorem dX12_flowBack_116 : decode cX12_flowBack 116 = .ok (.iaload, 1) := by decide +kernel
theorem dX12_flowBack_117 : decode cX12_flowBack 117 = .ok (.iastore, 1) := by decide +kernel
theorem dX12_flowBack_118 : decode cX12_flowBack 118 = .ok (.iinc 4 1, 3) := by decide +kernel
theorem dX12_flowBack_121 : decode cX12_flowBack 121 = .ok (.goto (-45), 3) := by decide +kernel
theorem dX12_flowBack_124 : decode cX12_flowBack 124 = .ok (.aload_n 0, 1) := by decide +kernel
theorem dX12_flowBack_125 : decode cX12_flowBack 125 = .ok (.getfield 108, 3) := by decide +kernel
theorem dX12_flowBack_128 : decode cX12_flowBack 128 = .ok (.aload_n 0, 1) := by decide +kernel
theorem dX12_flowBack_129 : decode cX12_flowBack 129 = .ok (.getfield 351, 3) := by decide +kernel
theorem dX12_flowBack_132 : decode cX12_flowBack 132 = .ok (.iconst 1, 1) := by decide +kernel
theorem dX12_flowBack_133 : decode cX12_flowBack 133 = .ok (.isub, 1) := by decide +kernel
theorem dX12_flowBack_134 : decode cX12_flowBack 134 = .ok (.bipush 8, 2) := by decide +kernel
theorem dX12_flowBack_136 : decode cX12_flowBack 136 = .ok (.iastore, 1) := by decide +kernel
theorem dX12_flowBack_137 : decode cX12_flowBack 137 = .ok (.aload_n 0, 1) := by decide +kernel
theorem dX12_flowBack_138 : decode cX12_flowBack 138 = .ok (.getfield 63, 3) := by decide +kernel
theorem dX12_flowBack_141 : decode cX12_flowBack 141 = .ok (.iload_n 2, 1) := by decide +kernel
theorem dX12_flowBack_142 : decode cX12_flowBack 142 = .ok (.iaload, 1) := by decide +kernel
theorem dX12_flowBack_143 : decode cX12_flowBack 143 = .ok (.ireturn, 1) := by decide +kernel
theorem dX12_flowBack_144 : decode cX12_flowBack 144 = .ok (.iconst 0, 1) := by decide +kernel
theorem dX12_flowBack_145 : decode cX12_flowBack 145 = .ok (.istore 4, 2) := by decide +kernel
theorem dX12_flowBack_147 : decode cX12_flowBack 147 = .ok (.iconst 0, 1) := by decide +kernel
theorem dX12_flowBack_148 : decode cX12_flowBack 148 = .ok (.istore 5, 2) := by decide +kernel
theorem dX12_flowBack_150 : decode cX12_flowBack 150 = .ok (.iload 5, 2) := by decide +kernel
theorem dX12_flowBack_152 : decode cX12_flowBack 152 = .ok (.bipush 26, 2) := by decide +kernel
theorem dX12_flowBack_154 : decode cX12_flowBack 154 = .ok (.if_icmp .ge 76, 3) := by decide +kernel
theorem dX12_flowBack_157 : decode cX12_flowBack 157 = .ok (.iload_n 1, 1) := by decide +kernel
theorem dX12_flowBack_158 : decode cX12_flowBack 158 = .ok (.bipush 8, 2) := by decide +kernel
theorem dX12_flowBack_160 : decode cX12_flowBack 160 = .ok (.if_icmp .ne 18, 3) := by decide +kernel
theorem dX12_flowBack_163 : decode cX12_flowBack 163 = .ok (.aload_n 0, 1) := by decide +kernel
theorem dX12_flowBack_164 : decode cX12_flowBack 164 = .ok (.getfield 117, 3) := by decide +kernel
theorem dX12_flowBack_167 : decode cX12_flowBack 167 = .ok (.iload_n 3, 1) := by decide +kernel
theorem dX12_flowBack_168 : decode cX12_flowBack 168 = .ok (.bipush 26, 2) := by decide +kernel
theorem dX12_flowBack_170 : decode cX12_flowBack 170 = .ok (.iadd, 1) := by decide +kernel
theorem dX12_flowBack_171 : decode cX12_flowBack 171 = .ok (.iload 5, 2) := by decide +kernel
theorem dX12_flowBack_173 : decode cX12_flowBack 173 = .ok (.iadd, 1) := by decide +kernel
theorem dX12_flowBack_174 : decode cX12_flowBack 174 = .ok (.iaload, 1) := by decide +kernel
theorem dX12_flowBack_175 : decode cX12_flowBack 175 = .ok (.goto 12, 3) := by decide +kernel
theorem dX12_flowBack_178 : decode cX12_flowBack 178 = .ok (.aload_n 0, 1) := by decide +kernel
theorem dX12_flowBack_179 : decode cX12_flowBack 179 = .ok (.getfield 117, 3) := by decide +kernel
theorem dX12_flowBack_182 : decode cX12_flowBack 182 = .ok (.iload_n 3, 1) := by decide +kernel
theorem dX12_flowBack_183 : decode cX12_flowBack 183 = .ok (.iload 5, 2) := by decide +kernel
theorem dX12_flowBack_185 : decode cX12_flowBack 185 = .ok (.iadd, 1) := by decide +kernel
theorem dX12_flowBack_186 : decode cX12_flowBack 186 = .ok (.iaload, 1) := by decide +kernel
theorem dX12_flowBack_187 : decode cX12_flowBack 187 = .ok (.istore 6, 2) := by decide +kernel
theorem dX12_flowBack_189 : decode cX12_flowBack 189 = .ok (.aload_n 0, 1) := by decide +kernel
theorem dX12_flowBack_190 : decode cX12_flowBack 190 = .ok (.getfield 105, 3) := by decide +kernel
theorem dX12_flowBack_193 : decode cX12_flowBack 193 = .ok (.iload 5, 2) := by decide +kernel
theorem dX12_flowBack_195 : decode cX12_flowBack 195 = .ok (.aload_n 0, 1) := by decide +kernel
theorem dX12_flowBack_196 : decode cX12_flowBack 196 = .ok (.iload 6, 2) := by decide +kernel
theorem dX12_flowBack_198 : decode cX12_flowBack 198 = .ok (.aload_n 0, 1) := by decide +kernel
theorem dX12_flowBack_199 : decode cX12_flowBack 199 = .ok (.getfield 105, 3) := by decide +kernel
theorem dX12_flowBack_202 : decode cX12_flowBack 202 = .ok (.iload 5, 2) := by decide +kernel
theorem dX12_flowBack_204 : decode cX12_flowBack 204 = .ok (.iaload, 1) := by decide +kernel
theorem dX12_flowBack_205 : decode cX12_flowBack 205 = .ok (.invokevirtual 347, 3) := by decide +kernel
theorem dX12_flowBack_208 : decode cX12_flowBack 208 = .ok (.iastore, 1) := by decide +kernel
theorem dX12_flowBack_209 : decode cX12_flowBack 209 = .ok (.aload_n 0, 1) := by decide +kernel
theorem dX12_flowBack_210 : decode cX12_flowBack 210 = .ok (.getfield 105, 3) := by decide +kernel
theorem dX12_flowBack_213 : decode cX12_flowBack 213 = .ok (.iload 5, 2) := by decide +kernel
theorem dX12_flowBack_215 : decode cX12_flowBack 215 = .ok (.iaload, 1) := by decide +kernel
theorem dX12_flowBack_216 : decode cX12_flowBack 216 = .ok (.iload 6, 2) := by decide +kernel
theorem dX12_flowBack_218 : decode cX12_flowBack 218 = .ok (.if_icmp .eq 6, 3) := by decide +kernel
theorem dX12_flowBack_221 : decode cX12_flowBack 221 = .ok (.iconst 1, 1) := by decide +kernel
theorem dX12_flowBack_222 : decode cX12_flowBack 222 = .ok (.istore 4, 2) := by decide +kernel
theorem dX12_flowBack_224 : decode cX12_flowBack 224 = .ok (.iinc 5 1, 3) := by decide +kernel
theorem dX12_flowBack_227 : decode cX12_flowBack 227 = .ok (.goto (-77), 3) := by decide +kernel
theorem dX12_flowBack_230 : decode cX12_flowBack 230 = .ok (.iload_n 1, 1) := by decide +kernel
theorem dX12_flowBack_231 : decode cX12_flowBack 231 = .ok (.iconst 4, 1) := by decide +kernel
theorem dX12_flowBack_232 : decode cX12_flowBack 232 = .ok (.if_icmp .ne 8, 3) := by decide +kernel
theorem dX12_flowBack_235 : decode cX12_flowBack 235 = .ok (.iload 4, 2) := by decide +kernel
theorem dX12_flowBack_237 : decode cX12_flowBack 237 = .ok (.ifCond .ne 9, 3) := by decide +kernel
theorem dX12_flowBack_240 : decode cX12_flowBack 240 = .ok (.aload_n 0, 1) := by decide +kernel
theorem dX12_flowBack_241 : decode cX12_flowBack 241 = .ok (.iload_n 2, 1) := by decide +kernel
theorem dX12_flowBack_242 : decode cX12_flowBack 242 = .ok (.invokevirtual 373, 3) := by decide +kernel
theorem dX12_flowBack_245 : decode cX12_flowBack 245 = .ok (.ireturn, 1) := by decide +kernel
theorem dX12_flowBack_246 : decode cX12_flowBack 246 = .ok (.iconst 0, 1) := by decide +kernel
theorem dX12_flowBack_247 : decode cX12_flowBack 247 = .ok (.istore 5, 2) := by decide +kernel
theorem dX12_flowBack_249 : decode cX12_flowBack 249 = .ok (.iload 5, 2) := by decide +kernel
theorem dX12_flowBack_251 : decode cX12_flowBack 251 = .ok (.bipush 26, 2) := by decide +kernel
theorem dX12_flowBack_253 : decode cX12_flowBack 253 = .ok (.if_icmp .ge 25, 3) := by decide +kernel
theorem dX12_flowBack_256 : decode cX12_flowBack 256 = .ok (.aload_n 0, 1) := by decide +kernel
theorem dX12_flowBack_257 : decode cX12_flowBack 257 = .ok (.getfield 117, 3) := by decide +kernel
theorem dX12_flowBack_260 : decode cX12_flowBack 260 = .ok (.iload_n 3, 1) := by decide +kernel
theorem dX12_flowBack_261 : decode cX12_flowBack 261 = .ok (.iload 5, 2) := by decide +kernel
theorem dX12_flowBack_263 : decode cX12_flowBack 263 = .ok (.iadd, 1) := by decide +kernel
theorem dX12_flowBack_264 : decode cX12_flowBack 264 = .ok (.aload_n 0, 1) := by decide +kernel
theorem dX12_flowBack_265 : decode cX12_flowBack 265 = .ok (.getfield 105, 3) := by decide +kernel
theorem dX12_flowBack_268 : decode cX12_flowBack 268 = .ok (.iload 5, 2) := by decide +kernel
theorem dX12_flowBack_270 : decode cX12_flowBack 270 = .ok (.iaload, 1) := by decide +kernel
theorem dX12_flowBack_271 : decode cX12_flowBack 271 = .ok (.iastore, 1) := by decide +kernel
theorem dX12_flowBack_272 : decode cX12_flowBack 272 = .ok (.iinc 5 1, 3) := by decide +kernel
theorem dX12_flowBack_275 : decode cX12_flowBack 275 = .ok (.goto (-26), 3) := by decide +kernel
theorem dX12_flowBack_278 : decode cX12_flowBack 278 = .ok (.aload_n 0, 1) := by decide +kernel
theorem dX12_flowBack_279 : decode cX12_flowBack 279 = .ok (.aload_n 0, 1) := by decide +kernel
theorem dX12_flowBack_280 : decode cX12_flowBack 280 = .ok (.aload_n 0, 1) := by decide +kernel
theorem dX12_flowBack_281 : decode cX12_flowBack 281 = .ok (.getfield 114, 3) := by decide +kernel
theorem dX12_flowBack_284 : decode cX12_flowBack 284 = .ok (.aload_n 0, 1) := by decide +kernel
theorem dX12_flowBack_285 : decode cX12_flowBack 285 = .ok (.getfield 351, 3) := by decide +kernel
theorem dX12_flowBack_288 : decode cX12_flowBack 288 = .ok (.iconst 1, 1) := by decide +kernel
theorem dX12_flowBack_289 : decode cX12_flowBack 289 = .ok (.isub, 1) := by decide +kernel
theorem dX12_flowBack_290 : decode cX12_flowBack 290 = .ok (.iaload, 1) := by decide +kernel
theorem dX12_flowBack_291 : decode cX12_flowBack 291 = .ok (.aload_n 0, 1) := by decide +kernel
theorem dX12_flowBack_292 : decode cX12_flowBack 292 = .ok (.aload_n 0, 1) := by decide +kernel
theorem dX12_flowBack_293 : decode cX12_flowBack 293 = .ok (.getfield 54, 3) := by decide +kernel
theorem dX12_flowBack_296 : decode cX12_flowBack 296 = .ok (.iload_n 2, 1) := by decide +kernel
theorem dX12_flowBack_297 : decode cX12_flowBack 297 = .ok (.iaload, 1) := by decide +kernel
theorem dX12_flowBack_298 : decode cX12_flowBack 298 = .ok (.invokevirtual 361, 3) := by decide +kernel
theorem dX12_flowBack_301 : decode cX12_flowBack 301 = .ok (.invokevirtual 347, 3) := by decide +kernel
theorem dX12_flowBack_304 : decode cX12_flowBack 304 = .ok (.putfield 354, 3) := by decide +kernel
theorem dX12_flowBack_307 : decode cX12_flowBack 307 = .ok (.aload_n 0, 1) := by decide +kernel
theorem dX12_flowBack_308 : decode cX12_flowBack 308 = .ok (.getfield 60, 3) := by decide +kernel
theorem dX12_flowBack_311 : decode cX12_flowBack 311 = .ok (.iload_n 2, 1) := by decide +kernel
theorem dX12_flowBack_312 : decode cX12_flowBack 312 = .ok (.iaload, 1) := by decide +kernel
theorem dX12_flowBack_313 : decode cX12_flowBack 313 = .ok (.ireturn, 1) := by decide +kernel
theorem dX12_flow_0 : decode cX12_flow 0 = .ok (.iconst 0, 1) := by decide +kernel
theorem dX12_flow_1 : decode cX12_flow 1 = .ok (.istore_n 1, 1) := by decide +kernel
theorem dX12_flow_2 : decode cX12_flow 2 = .ok (.iload_n 1, 1) := by decide +kernel
theorem dX12_flow_3 : decode cX12_flow 3 = .ok (.bipush 26, 2) := by decide +kernel
theorem dX12_flow_5 : decode cX12_flow 5 = .ok (.if_icmp .ge 38, 3) := by decide +kernel
theorem dX12_flow_8 : decode cX12_flow 8 = .ok (.aload_n 0, 1) := by decide +kernel
theorem dX12_flow_9 : decode cX12_flow 9 = .ok (.getfield 105, 3) := by decide +kernel
theorem dX12_flow_12 : decode cX12_flow 12 = .ok (.iload_n 1, 1) := by decide +kernel
theorem dX12_flow_13 : decode cX12_flow 13 = .ok (.aload_n 0, 1) := by decide +kernel
theorem dX12_flow_14 : decode cX12_flow 14 = .ok (.getfield 81, 3) := by decide +kernel
theorem dX12_flow_17 : decode cX12_flow 17 = .ok (.iload_n 1, 1) := by decide +kernel
theorem dX12_flow_18 : decode cX12_flow 18 = .ok (.iaload, 1) := by decide +kernel
theorem dX12_flow_19 : decode cX12_flow 19 = .ok (.iconst 2, 1) := by decide +kernel
theorem dX12_flow_20 : decode cX12_flow 20 = .ok (.if_icmp .ne 12, 3) := by decide +kernel
theorem dX12_flow_23 : decode cX12_flow 23 = .ok (.aload_n 0, 1) := by decide +kernel
theorem dX12_flow_24 : decode cX12_flow 24 = .ok (.getfield 84, 3) := by decide +kernel
theorem dX12_flow_27 : decode cX12_flow 27 = .ok (.iload_n 1, 1) := by decide +kernel
theorem dX12_flow_28 : decode cX12_flow 28 = .ok (.iaload, 1) := by decide +kernel
theorem dX12_flow_29 : decode cX12_flow 29 = .ok (.goto 7, 3) := by decide +kernel
theorem dX12_flow_32 : decode cX12_flow 32 = .ok (.aload_n 0, 1) := by decide +kernel
theorem dX12_flow_33 : decode cX12_flow 33 = .ok (.getfield 210, 3) := by decide +kernel
theorem dX12_flow_36 : decode cX12_flow 36 = .ok (.iastore, 1) := by decide +kernel
theorem dX12_flow_37 : decode cX12_flow 37 = .ok (.iinc 1 1, 3) := by decide +kernel
theorem dX12_flow_40 : decode cX12_flow 40 = .ok (.goto (-38), 3) := by decide +kernel
theorem dX12_flow_43 : decode cX12_flow 43 = .ok (.aload_n 0, 1) := by decide +kernel
theorem dX12_flow_44 : decode cX12_flow 44 = .ok (.aload_n 0, 1) := by decide +kernel
theorem dX12_flow_45 : decode cX12_flow 45 = .ok (.getfield 210, 3) := by decide +kernel
theorem dX12_flow_48 : decode cX12_flow 48 = .ok (.putfield 354, 3) := by decide +kernel
theorem dX12_flow_51 : decode cX12_flow 51 = .ok (.aload_n 0, 1) := by decide +kernel
theorem dX12_flow_52 : decode cX12_flow 52 = .ok (.iconst 0, 1) := by decide +kernel
theorem dX12_flow_53 : decode cX12_flow 53 = .ok (.putfield 351, 3) := by decide +kernel
theorem dX12_flow_56 : decode cX12_flow 56 = .ok (.aload_n 0, 1) := by decide +kernel
theorem dX12_flow_57 : decode cX12_flow 57 = .ok (.iconst 0, 1) := by decide +kernel
theorem dX12_flow_58 : decode cX12_flow 58 = .ok (.putfield 370, 3) := by decide +kernel
theorem dX12_flow_61 : decode cX12_flow 61 = .ok (.aload_n 0, 1) := by decide +kernel
theorem dX12_flow_62 : decode cX12_flow 62 = .ok (.getfield 78, 3) := by decide +kernel
theorem dX12_flow_65 : decode cX12_flow 65 = .ok (.aload_n 0, 1) := by decide +kernel
theorem dX12_flow_66 : decode cX12_flow 66 = .ok (.getfield 308, 3) := by decide +kernel
theorem dX12_flow_69 : decode cX12_flow 69 = .ok (.iaload, 1) := by decide +kernel
theorem dX12_flow_70 : decode cX12_flow 70 = .ok (.istore_n 1, 1) := by decide +kernel
theorem dX12_flow_71 : decode cX12_flow 71 = .ok (.aload_n 0, 1) := by decide +kernel
theorem dX12_flow_72 : decode cX12_flow 72 = .ok (.getfield 253, 3) := by decide +kernel
theorem dX12_flow_75 : decode cX12_flow 75 = .ok (.ifCond .ge 34, 3) := by decide +kernel
theorem dX12_flow_78 : decode cX12_flow 78 = .ok (.iload_n 1, 1) := by decide +kernel
theorem dX12_flow_79 : decode cX12_flow 79 = .ok (.ifCond .ge 10, 3) := by decide +kernel
theorem dX12_flow_82 : decode cX12_flow 82 = .ok (.aload_n 0, 1) := by decide +kernel
theorem dX12_flow_83 : decode cX12_flow 83 = .ok (.getfield 351, 3) := by decide +kernel
theorem dX12_flow_86 : decode cX12_flow 86 = .ok (.ifCond .le 23, 3) := by decide +kernel
theorem dX12_flow_89 : decode cX12_flow 89 = .ok (.iload_n 1, 1) := by decide +kernel
theorem dX12_flow_90 : decode cX12_flow 90 = .ok (.ifCond .lt 11, 3) := by decide +kernel
theorem dX12_flow_93 : decode cX12_flow 93 = .ok (.aload_n 0, 1) := by decide +kernel
theorem dX12_flow_94 : decode cX12_flow 94 = .ok (.iload_n 1, 1) := by decide +kernel
theorem dX12_flow_95 : decode cX12_flow 95 = .ok (.invokevirtual 376, 3) := by decide +kernel
theorem dX12_flow_98 : decode cX12_flow 98 = .ok (.goto 7, 3) := by decide +kernel
theorem dX12_flow_101 : decode cX12_flow 101 = .ok (.aload_n 0, 1) := by decide +kernel
theorem dX12_flow_102 : decode cX12_flow 102 = .ok (.invokevirtual 379, 3) := by decide +kernel
theorem dX12_flow_105 : decode cX12_flow 105 = .ok (.istore_n 1, 1) := by decide +kernel
theorem dX12_flow_106 : decode cX12_flow 106 = .ok (.goto (-35), 3) := by decide +kernel
theorem dX12_flow_109 : decode cX12_flow 109 = .ok (.return_, 1) := by decide +kernel
theorem dX12_put_0 : decode cX12_put 0 = .ok (.aload_n 0, 1) := by decide +kernel
theorem dX12_put_1 : decode cX12_put 1 = .ok (.getfield 382, 3) := by decide +kernel
theorem dX12_put_4 : decode cX12_put 4 = .ok (.bipush 65, 2) := by decide +kernel
theorem dX12_put_6 : decode cX12_put 6 = .ok (.if_icmp .ge 33, 3) := by decide +kernel
theorem dX12_put_9 : decode cX12_put 9 = .ok (.aload_n 0, 1) := by decide +kernel
theorem dX12_put_10 : decode cX12_put 10 = .ok (.getfield 120, 3) := by decide +kernel
theorem dX12_put_13 : decode cX12_put 13 = .ok (.aload_n 0, 1) := by decide +kernel
theorem dX12_put_14 : decode cX12_put 14 = .ok (.getfield 382, 3) := by decide +kernel
theorem dX12_put_17 : decode cX12_put 17 = .ok (.iload_n 1, 1) := by decide +kernel
theorem dX12_put_18 : decode cX12_put 18 = .ok (.iastore, 1) := by decide +kernel
theorem dX12_put_19 : decode cX12_put 19 = .ok (.aload_n 0, 1) := by decide +kernel

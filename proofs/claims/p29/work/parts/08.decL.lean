theorem dL_holds_0 : decode cL_holds 0 = .ok (.aload_n 0, 1) := by decide +kernel
theorem dL_holds_1 : decode cL_holds 1 = .ok (.iload_n 1, 1) := by decide +kernel
theorem dL_holds_2 : decode cL_holds 2 = .ok (.iload_n 2, 1) := by decide +kernel
theorem dL_holds_3 : decode cL_holds 3 = .ok (.invokevirtual 7, 3) := by decide +kernel
theorem dL_holds_6 : decode cL_holds 6 = .ok (.ireturn, 1) := by decide +kernel
theorem dL_holds_7 : decode cL_holds 7 = .ok (.astore_n 3, 1) := by decide +kernel
theorem dL_holds_8 : decode cL_holds 8 = .ok (.ldc 15, 2) := by decide +kernel
theorem dL_holds_10 : decode cL_holds 10 = .ok (.ireturn, 1) := by decide +kernel
theorem dL_doScript_0 : decode cL_doScript 0 = .ok (.aload_n 0, 1) := by decide +kernel
theorem dL_doScript_1 : decode cL_doScript 1 = .ok (.iload_n 1, 1) := by decide +kernel
theorem dL_doScript_2 : decode cL_doScript 2 = .ok (.lload_n 2, 1) := by decide +kernel
theorem dL_doScript_3 : decode cL_doScript 3 = .ok (.invokevirtual 16, 3) := by decide +kernel
theorem dL_doScript_6 : decode cL_doScript 6 = .ok (.ireturn, 1) := by decide +kernel
theorem dL_doScript_7 : decode cL_doScript 7 = .ok (.astore 4, 2) := by decide +kernel
theorem dL_doScript_9 : decode cL_doScript 9 = .ok (.ldc 22, 2) := by decide +kernel
theorem dL_doScript_11 : decode cL_doScript 11 = .ok (.ireturn, 1) := by decide +kernel
theorem dL_doSimulate_0 : decode cL_doSimulate 0 = .ok (.aload_n 0, 1) := by decide +kernel
theorem dL_doSimulate_1 : decode cL_doSimulate 1 = .ok (.lload_n 1, 1) := by decide +kernel
theorem dL_doSimulate_2 : decode cL_doSimulate 2 = .ok (.iload_n 3, 1) := by decide +kernel
theorem dL_doSimulate_3 : decode cL_doSimulate 3 = .ok (.invokevirtual 23, 3) := by decide +kernel
theorem dL_doSimulate_6 : decode cL_doSimulate 6 = .ok (.ireturn, 1) := by decide +kernel
theorem dL_doSimulate_7 : decode cL_doSimulate 7 = .ok (.astore 4, 2) := by decide +kernel
theorem dL_doSimulate_9 : decode cL_doSimulate 9 = .ok (.ldc 22, 2) := by decide +kernel
theorem dL_doSimulate_11 : decode cL_doSimulate 11 = .ok (.ireturn, 1) := by decide +kernel
theorem dL_tryAppend_0 : decode cL_tryAppend 0 = .ok (.aload_n 0, 1) := by decide +kernel
theorem dL_tryAppend_1 : decode cL_tryAppend 1 = .ok (.iload_n 1, 1) := by decide +kernel
theorem dL_tryAppend_2 : decode cL_tryAppend 2 = .ok (.invokevirtual 27, 3) := by decide +kernel
theorem dL_tryAppend_5 : decode cL_tryAppend 5 = .ok (.ireturn, 1) := by decide +kernel
theorem dL_tryAppend_6 : decode cL_tryAppend 6 = .ok (.astore_n 2, 1) := by decide +kernel
theorem dL_tryAppend_7 : decode cL_tryAppend 7 = .ok (.ldc 22, 2) := by decide +kernel
theorem dL_tryAppend_9 : decode cL_tryAppend 9 = .ok (.ireturn, 1) := by decide +kernel
theorem dL_tryAppend_10 : decode cL_tryAppend 10 = .ok (.astore_n 2, 1) := by decide +kernel
theorem dL_tryAppend_11 : decode cL_tryAppend 11 = .ok (.ldc 33, 2) := by decide +kernel
theorem dL_tryAppend_13 : decode cL_tryAppend 13 = .ok (.ireturn, 1) := by decide +kernel
theorem dL_tryLoad_0 : decode cL_tryLoad 0 = .ok (.aload_n 0, 1) := by decide +kernel
theorem dL_tryLoad_1 : decode cL_tryLoad 1 = .ok (.invokevirtual 34, 3) := by decide +kernel
theorem dL_tryLoad_4 : decode cL_tryLoad 4 = .ok (.ireturn, 1) := by decide +kernel
theorem dL_tryLoad_5 : decode cL_tryLoad 5 = .ok (.astore_n 1, 1) := by decide +kernel
theorem dL_tryLoad_6 : decode cL_tryLoad 6 = .ok (.ldc 33, 2) := by decide +kernel
theorem dL_tryLoad_8 : decode cL_tryLoad 8 = .ok (.ireturn, 1) := by decide +kernel
theorem dL_tryAbout_0 : decode cL_tryAbout 0 = .ok (.aload_n 0, 1) := by decide +kernel
theorem dL_tryAbout_1 : decode cL_tryAbout 1 = .ok (.iload_n 1, 1) := by decide +kernel
theorem dL_tryAbout_2 : decode cL_tryAbout 2 = .ok (.invokevirtual 38, 3) := by decide +kernel
theorem dL_tryAbout_5 : decode cL_tryAbout 5 = .ok (.ireturn, 1) := by decide +kernel
theorem dL_tryAbout_6 : decode cL_tryAbout 6 = .ok (.astore_n 2, 1) := by decide +kernel
theorem dL_tryAbout_7 : decode cL_tryAbout 7 = .ok (.ldc 22, 2) := by decide +kernel
theorem dL_tryAbout_9 : decode cL_tryAbout 9 = .ok (.ireturn, 1) := by decide +kernel
theorem dL_tryWriter_0 : decode cL_tryWriter 0 = .ok (.aload_n 0, 1) := by decide +kernel
theorem dL_tryWriter_1 : decode cL_tryWriter 1 = .ok (.iload_n 1, 1) := by decide +kernel
theorem dL_tryWriter_2 : decode cL_tryWriter 2 = .ok (.iload_n 2, 1) := by decide +kernel
theorem dL_tryWriter_3 : decode cL_tryWriter 3 = .ok (.invokevirtual 41, 3) := by decide +kernel
theorem dL_tryWriter_6 : decode cL_tryWriter 6 = .ok (.ireturn, 1) := by decide +kernel
theorem dL_tryWriter_7 : decode cL_tryWriter 7 = .ok (.astore_n 3, 1) := by decide +kernel
theorem dL_tryWriter_8 : decode cL_tryWriter 8 = .ok (.ldc 15, 2) := by decide +kernel
theorem dL_tryWriter_10 : decode cL_tryWriter 10 = .ok (.ireturn, 1) := by decide +kernel
theorem dL_tryWriter_11 : decode cL_tryWriter 11 = .ok (.astore_n 3, 1) := by decide +kernel
theorem dL_tryWriter_12 : decode cL_tryWriter 12 = .ok (.ldc 22, 2) := by decide +kernel
theorem dL_tryWriter_14 : decode cL_tryWriter 14 = .ok (.ireturn, 1) := by decide +kernel
theorem dL_tryDesk_0 : decode cL_tryDesk 0 = .ok (.aload_n 0, 1) := by decide +kernel
theorem dL_tryDesk_1 : decode cL_tryDesk 1 = .ok (.iload_n 1, 1) := by decide +kernel
theorem dL_tryDesk_2 : decode cL_tryDesk 2 = .ok (.iload_n 2, 1) := by decide +kernel
theorem dL_tryDesk_3 : decode cL_tryDesk 3 = .ok (.invokevirtual 45, 3) := by decide +kernel
theorem dL_tryDesk_6 : decode cL_tryDesk 6 = .ok (.ireturn, 1) := by decide +kernel
theorem dL_tryDesk_7 : decode cL_tryDesk 7 = .ok (.astore_n 3, 1) := by decide +kernel
theorem dL_tryDesk_8 : decode cL_tryDesk 8 = .ok (.ldc 15, 2) := by decide +kernel
theorem dL_tryDesk_10 : decode cL_tryDesk 10 = .ok (.ireturn, 1) := by decide +kernel
theorem dL_tryDesk_11 : decode cL_tryDesk 11 = .ok (.astore_n 3, 1) := by decide +kernel
theorem dL_tryDesk_12 : decode cL_tryDesk 12 = .ok (.ldc 22, 2) := by decide +kernel
theorem dL_tryDesk_14 : decode cL_tryDesk 14 = .ok (.ireturn, 1) := by decide +kernel
theorem dL_tryLetter_0 : decode cL_tryLetter 0 = .ok (.aload_n 0, 1) := by decide +kernel
theorem dL_tryLetter_1 : decode cL_tryLetter 1 = .ok (.iload_n 1, 1) := by decide +kernel
theorem dL_tryLetter_2 : decode cL_tryLetter 2 = .ok (.iload_n 2, 1) := by decide +kernel
theorem dL_tryLetter_3 : decode cL_tryLetter 3 = .ok (.iload_n 3, 1) := by decide +kernel
theorem dL_tryLetter_4 : decode cL_tryLetter 4 = .ok (.invokevirtual 48, 3) := by decide +kernel
theorem dL_tryLetter_7 : decode cL_tryLetter 7 = .ok (.ireturn, 1) := by decide +kernel
theorem dL_tryLetter_8 : decode cL_tryLetter 8 = .ok (.astore 4, 2) := by decide +kernel
theorem dL_tryLetter_10 : decode cL_tryLetter 10 = .ok (.ldc 15, 2) := by decide +kernel
theorem dL_tryLetter_12 : decode cL_tryLetter 12 = .ok (.ireturn, 1) := by decide +kernel
theorem dL_tryLetter_13 : decode cL_tryLetter 13 = .ok (.astore 4, 2) := by decide +kernel
theorem dL_tryLetter_15 : decode cL_tryLetter 15 = .ok (.ldc 22, 2) := by decide +kernel
theorem dL_tryLetter_17 : decode cL_tryLetter 17 = .ok (.ireturn, 1) := by decide +kernel
theorem dL_tryPlanned_0 : decode cL_tryPlanned 0 = .ok (.aload_n 0, 1) := by decide +kernel
theorem dL_tryPlanned_1 : decode cL_tryPlanned 1 = .ok (.iload_n 1, 1) := by decide +kernel
theorem dL_tryPlanned_2 : decode cL_tryPlanned 2 = .ok (.iload_n 2, 1) := by decide +kernel
theorem dL_tryPlanned_3 : decode cL_tryPlanned 3 = .ok (.invokevirtual 52, 3) := by decide +kernel
theorem dL_tryPlanned_6 : decode cL_tryPlanned 6 = .ok (.ireturn, 1) := by decide +kernel
theorem dL_tryPlanned_7 : decode cL_tryPlanned 7 = .ok (.astore_n 3, 1) := by decide +kernel
theorem dL_tryPlanned_8 : decode cL_tryPlanned 8 = .ok (.ldc 15, 2) := by decide +kernel
theorem dL_tryPlanned_10 : decode cL_tryPlanned 10 = .ok (.ireturn, 1) := by decide +kernel
theorem dL_tryPlanned_11 : decode cL_tryPlanned 11 = .ok (.astore_n 3, 1) := by decide +kernel
theorem dL_tryPlanned_12 : decode cL_tryPlanned 12 = .ok (.ldc 22, 2) := by decide +kernel
theorem dL_tryPlanned_14 : decode cL_tryPlanned 14 = .ok (.ireturn, 1) := by decide +kernel
theorem dL_trySetting_0 : decode cL_trySetting 0 = .ok (.aload_n 0, 1) := by decide +kernel
theorem dL_trySetting_1 : decode cL_trySetting 1 = .ok (.iload_n 1, 1) := by decide +kernel
theorem dL_trySetting_2 : decode cL_trySetting 2 = .ok (.invokevirtual 55, 3) := by decide +kernel
theorem dL_trySetting_5 : decode cL_trySetting 5 = .ok (.ireturn, 1) := by decide +kernel
theorem dL_trySetting_6 : decode cL_trySetting 6 = .ok (.astore_n 2, 1) := by decide +kernel
theorem dL_trySetting_7 : decode cL_trySetting 7 = .ok (.ldc 22, 2) := by decide +kernel
theorem dL_trySetting_9 : decode cL_trySetting 9 = .ok (.ireturn, 1) := by decide +kernel
theorem dL_tryPost_0 : decode cL_tryPost 0 = .ok (.aload_n 0, 1) := by decide +kernel
theorem dL_tryPost_1 : decode cL_tryPost 1 = .ok (.iload_n 1, 1) := by decide +kernel
theorem dL_tryPost_2 : decode cL_tryPost 2 = .ok (.invokevirtual 58, 3) := by decide +kernel
theorem dL_tryPost_5 : decode cL_tryPost 5 = .ok (.ireturn, 1) := by decide +kernel
theorem dL_tryPost_6 : decode cL_tryPost 6 = .ok (.astore_n 2, 1) := by decide +kernel
theorem dL_tryPost_7 : decode cL_tryPost 7 = .ok (.ldc 22, 2) := by decide +kernel
theorem dL_tryPost_9 : decode cL_tryPost 9 = .ok (.ireturn, 1) := by decide +kernel
theorem dL_tryWrite_0 : decode cL_tryWrite 0 = .ok (.aload_n 0, 1) := by decide +kernel
theorem dL_tryWrite_1 : decode cL_tryWrite 1 = .ok (.iload_n 1, 1) := by decide +kernel
theorem dL_tryWrite_2 : decode cL_tryWrite 2 = .ok (.iload_n 2, 1) := by decide +kernel
theorem dL_tryWrite_3 : decode cL_tryWrite 3 = .ok (.invokevirtual 61, 3) := by decide +kernel
theorem dL_tryWrite_6 : decode cL_tryWrite 6 = .ok (.ireturn, 1) := by decide +kernel
theorem dL_tryWrite_7 : decode cL_tryWrite 7 = .ok (.astore_n 3, 1) := by decide +kernel
theorem dL_tryWrite_8 : decode cL_tryWrite 8 = .ok (.ldc 15, 2) := by decide +kernel
theorem dL_tryWrite_10 : decode cL_tryWrite 10 = .ok (.ireturn, 1) := by decide +kernel
theorem dL_tryWrite_11 : decode cL_tryWrite 11 = .ok (.astore_n 3, 1) := by decide +kernel
theorem dL_tryWrite_12 : decode cL_tryWrite 12 = .ok (.ldc 22, 2) := by decide +kernel
theorem dL_tryWrite_14 : decode cL_tryWrite 14 = .ok (.ireturn, 1) := by decide +kernel
theorem dL_tryWrite_15 : decode cL_tryWrite 15 = .ok (.astore_n 3, 1) := by decide +kernel
theorem dL_tryWrite_16 : decode cL_tryWrite 16 = .ok (.ldc 33, 2) := by decide +kernel
theorem dL_tryWrite_18 : decode cL_tryWrite 18 = .ok (.ireturn, 1) := by decide +kernel
theorem dL_tryPlan_0 : decode cL_tryPlan 0 = .ok (.aload_n 0, 1) := by decide +kernel
theorem dL_tryPlan_1 : decode cL_tryPlan 1 = .ok (.iload_n 1, 1) := by decide +kernel
theorem dL_tryPlan_2 : decode cL_tryPlan 2 = .ok (.iload_n 2, 1) := by decide +kernel
theorem dL_tryPlan_3 : decode cL_tryPlan 3 = .ok (.iload_n 3, 1) := by decide +kernel
theorem dL_tryPlan_4 : decode cL_tryPlan 4 = .ok (.invokevirtual 64, 3) := by decide +kernel
theorem dL_tryPlan_7 : decode cL_tryPlan 7 = .ok (.ireturn, 1) := by decide +kernel
theorem dL_tryPlan_8 : decode cL_tryPlan 8 = .ok (.astore 4, 2) := by decide +kernel
theorem dL_tryPlan_10 : decode cL_tryPlan 10 = .ok (.ldc 15, 2) := by decide +kernel
theorem dL_tryPlan_12 : decode cL_tryPlan 12 = .ok (.ireturn, 1) := by decide +kernel
theorem dL_tryPlan_13 : decode cL_tryPlan 13 = .ok (.astore 4, 2) := by decide +kernel
theorem dL_tryPlan_15 : decode cL_tryPlan 15 = .ok (.ldc 22, 2) := by decide +kernel
theorem dL_tryPlan_17 : decode cL_tryPlan 17 = .ok (.ireturn, 1) := by decide +kernel
theorem dL_tryPlan_18 : decode cL_tryPlan 18 = .ok (.astore 4, 2) := by decide +kernel
theorem dL_tryPlan_20 : decode cL_tryPlan 20 = .ok (.ldc 33, 2) := by decide +kernel
theorem dL_tryPlan_22 : decode cL_tryPlan 22 = .ok (.ireturn, 1) := by decide +kernel
theorem dL_tryFlush_0 : decode cL_tryFlush 0 = .ok (.aload_n 0, 1) := by decide +kernel
theorem dL_tryFlush_1 : decode cL_tryFlush 1 = .ok (.iload_n 1, 1) := by decide +kernel
theorem dL_tryFlush_2 : decode cL_tryFlush 2 = .ok (.invokevirtual 67, 3) := by decide +kernel
theorem dL_tryFlush_5 : decode cL_tryFlush 5 = .ok (.ireturn, 1) := by decide +kernel
theorem dL_tryFlush_6 : decode cL_tryFlush 6 = .ok (.astore_n 2, 1) := by decide +kernel
theorem dL_tryFlush_7 : decode cL_tryFlush 7 = .ok (.ldc 15, 2) := by decide +kernel
theorem dL_tryFlush_9 : decode cL_tryFlush 9 = .ok (.ireturn, 1) := by decide +kernel
theorem dL_tryTicks_0 : decode cL_tryTicks 0 = .ok (.aload_n 0, 1) := by decide +kernel
theorem dL_tryTicks_1 : decode cL_tryTicks 1 = .ok (.iload_n 1, 1) := by decide +kernel
theorem dL_tryTicks_2 : decode cL_tryTicks 2 = .ok (.invokevirtual 70, 3) := by decide +kernel
theorem dL_tryTicks_5 : decode cL_tryTicks 5 = .ok (.ireturn, 1) := by decide +kernel
theorem dL_tryTicks_6 : decode cL_tryTicks 6 = .ok (.astore_n 2, 1) := by decide +kernel
theorem dL_tryTicks_7 : decode cL_tryTicks 7 = .ok (.ldc 22, 2) := by decide +kernel
theorem dL_tryTicks_9 : decode cL_tryTicks 9 = .ok (.ireturn, 1) := by decide +kernel
theorem dL_tryTicks_10 : decode cL_tryTicks 10 = .ok (.astore_n 2, 1) := by decide +kernel
theorem dL_tryTicks_11 : decode cL_tryTicks 11 = .ok (.ldc 33, 2) := by decide +kernel
theorem dL_tryTicks_13 : decode cL_tryTicks 13 = .ok (.ireturn, 1) := by decide +kernel
theorem dL_tryLay_0 : decode cL_tryLay 0 = .ok (.aload_n 0, 1) := by decide +kernel
theorem dL_tryLay_1 : decode cL_tryLay 1 = .ok (.iload_n 1, 1) := by decide +kernel
theorem dL_tryLay_2 : decode cL_tryLay 2 = .ok (.iload_n 2, 1) := by decide +kernel
theorem dL_tryLay_3 : decode cL_tryLay 3 = .ok (.invokevirtual 73, 3) := by decide +kernel
theorem dL_tryLay_6 : decode cL_tryLay 6 = .ok (.ireturn, 1) := by decide +kernel
theorem dL_tryLay_7 : decode cL_tryLay 7 = .ok (.astore_n 3, 1) := by decide +kernel
theorem dL_tryLay_8 : decode cL_tryLay 8 = .ok (.ldc 22, 2) := by decide +kernel
theorem dL_tryLay_10 : decode cL_tryLay 10 = .ok (.ireturn, 1) := by decide +kernel
theorem dL_tryUndo_0 : decode cL_tryUndo 0 = .ok (.aload_n 0, 1) := by decide +kernel
theorem dL_tryUndo_1 : decode cL_tryUndo 1 = .ok (.invokevirtual 76, 3) := by decide +kernel
theorem dL_tryUndo_4 : decode cL_tryUndo 4 = .ok (.ireturn, 1) := by decide +kernel
theorem dL_tryUndo_5 : decode cL_tryUndo 5 = .ok (.astore_n 1, 1) := by decide +kernel
theorem dL_tryUndo_6 : decode cL_tryUndo 6 = .ok (.ldc 33, 2) := by decide +kernel
theorem dL_tryUndo_8 : decode cL_tryUndo 8 = .ok (.ireturn, 1) := by decide +kernel
theorem dL_tryDone_0 : decode cL_tryDone 0 = .ok (.aload_n 0, 1) := by decide +kernel
theorem dL_tryDone_1 : decode cL_tryDone 1 = .ok (.iload_n 1, 1) := by decide +kernel
theorem dL_tryDone_2 : decode cL_tryDone 2 = .ok (.invokevirtual 79, 3) := by decide +kernel
theorem dL_tryDone_5 : decode cL_tryDone 5 = .ok (.ireturn, 1) := by decide +kernel
theorem dL_tryDone_6 : decode cL_tryDone 6 = .ok (.astore_n 2, 1) := by decide +kernel
theorem dL_tryDone_7 : decode cL_tryDone 7 = .ok (.ldc 15, 2) := by decide +kernel
theorem dL_tryDone_9 : decode cL_tryDone 9 = .ok (.ireturn, 1) := by decide +kernel
theorem dL_tryThere_0 : decode cL_tryThere 0 = .ok (.aload_n 0, 1) := by decide +kernel
theorem dL_tryThere_1 : decode cL_tryThere 1 = .ok (.iload_n 1, 1) := by decide +kernel
theorem dL_tryThere_2 : decode cL_tryThere 2 = .ok (.iload_n 2, 1) := by decide +kernel
theorem dL_tryThere_3 : decode cL_tryThere 3 = .ok (.invokevirtual 82, 3) := by decide +kernel
theorem dL_tryThere_6 : decode cL_tryThere 6 = .ok (.ireturn, 1) := by decide +kernel
theorem dL_tryThere_7 : decode cL_tryThere 7 = .ok (.astore_n 3, 1) := by decide +kernel
theorem dL_tryThere_8 : decode cL_tryThere 8 = .ok (.ldc 15, 2) := by decide +kernel
theorem dL_tryThere_10 : decode cL_tryThere 10 = .ok (.ireturn, 1) := by decide +kernel
theorem dL_tryThere_11 : decode cL_tryThere 11 = .ok (.astore_n 3, 1) := by decide +kernel
theorem dL_tryThere_12 : decode cL_tryThere 12 = .ok (.ldc 22, 2) := by decide +kernel
theorem dL_tryThere_14 : decode cL_tryThere 14 = .ok (.ireturn, 1) := by decide +kernel
theorem dL_tryIf_0 : decode cL_tryIf 0 = .ok (.aload_n 0, 1) := by decide +kernel
theorem dL_tryIf_1 : decode cL_tryIf 1 = .ok (.iload_n 1, 1) := by decide +kernel
theorem dL_tryIf_2 : decode cL_tryIf 2 = .ok (.iload_n 2, 1) := by decide +kernel
theorem dL_tryIf_3 : decode cL_tryIf 3 = .ok (.invokevirtual 85, 3) := by decide +kernel
theorem dL_tryIf_6 : decode cL_tryIf 6 = .ok (.ireturn, 1) := by decide +kernel
theorem dL_tryIf_7 : decode cL_tryIf 7 = .ok (.astore_n 3, 1) := by decide +kernel
theorem dL_tryIf_8 : decode cL_tryIf 8 = .ok (.ldc 15, 2) := by decide +kernel
theorem dL_tryIf_10 : decode cL_tryIf 10 = .ok (.ireturn, 1) := by decide +kernel
theorem dL_tryIf_11 : decode cL_tryIf 11 = .ok (.astore_n 3, 1) := by decide +kernel
theorem dL_tryIf_12 : decode cL_tryIf 12 = .ok (.ldc 22, 2) := by decide +kernel
theorem dL_tryIf_14 : decode cL_tryIf 14 = .ok (.ireturn, 1) := by decide +kernel
theorem dL_tryBest_0 : decode cL_tryBest 0 = .ok (.aload_n 0, 1) := by decide +kernel
theorem dL_tryBest_1 : decode cL_tryBest 1 = .ok (.iload_n 1, 1) := by decide +kernel
theorem dL_tryBest_2 : decode cL_tryBest 2 = .ok (.iload_n 2, 1) := by decide +kernel
theorem dL_tryBest_3 : decode cL_tryBest 3 = .ok (.invokevirtual 88, 3) := by decide +kernel
theorem dL_tryBest_6 : decode cL_tryBest 6 = .ok (.ireturn, 1) := by decide +kernel
theorem dL_tryBest_7 : decode cL_tryBest 7 = .ok (.astore_n 3, 1) := by decide +kernel
theorem dL_tryBest_8 : decode cL_tryBest 8 = .ok (.ldc 15, 2) := by decide +kernel
theorem dL_tryBest_10 : decode cL_tryBest 10 = .ok (.ireturn, 1) := by decide +kernel
theorem dL_tryBest_11 : decode cL_tryBest 11 = .ok (.astore_n 3, 1) := by decide +kernel
theorem dL_tryBest_12 : decode cL_tryBest 12 = .ok (.ldc 22, 2) := by decide +kernel
theorem dL_tryBest_14 : decode cL_tryBest 14 = .ok (.ireturn, 1) := by decide +kernel
theorem dL_tryKeep_0 : decode cL_tryKeep 0 = .ok (.aload_n 0, 1) := by decide +kernel
theorem dL_tryKeep_1 : decode cL_tryKeep 1 = .ok (.iload_n 1, 1) := by decide +kernel
theorem dL_tryKeep_2 : decode cL_tryKeep 2 = .ok (.invokevirtual 91, 3) := by decide +kernel
theorem dL_tryKeep_5 : decode cL_tryKeep 5 = .ok (.ireturn, 1) := by decide +kernel
theorem dL_tryKeep_6 : decode cL_tryKeep 6 = .ok (.astore_n 2, 1) := by decide +kernel
theorem dL_tryKeep_7 : decode cL_tryKeep 7 = .ok (.ldc 15, 2) := by decide +kernel
theorem dL_tryKeep_9 : decode cL_tryKeep 9 = .ok (.ireturn, 1) := by decide +kernel
theorem dL_tryBack_0 : decode cL_tryBack 0 = .ok (.aload_n 0, 1) := by decide +kernel
theorem dL_tryBack_1 : decode cL_tryBack 1 = .ok (.iload_n 1, 1) := by decide +kernel
theorem dL_tryBack_2 : decode cL_tryBack 2 = .ok (.invokevirtual 94, 3) := by decide +kernel
theorem dL_tryBack_5 : decode cL_tryBack 5 = .ok (.ireturn, 1) := by decide +kernel
theorem dL_tryBack_6 : decode cL_tryBack 6 = .ok (.astore_n 2, 1) := by decide +kernel
theorem dL_tryBack_7 : decode cL_tryBack 7 = .ok (.ldc 15, 2) := by decide +kernel
theorem dL_tryBack_9 : decode cL_tryBack 9 = .ok (.ireturn, 1) := by decide +kernel
theorem dL_tryBack_10 : decode cL_tryBack 10 = .ok (.astore_n 2, 1) := by decide +kernel
theorem dL_tryBack_11 : decode cL_tryBack 11 = .ok (.ldc 33, 2) := by decide +kernel
theorem dL_tryBack_13 : decode cL_tryBack 13 = .ok (.ireturn, 1) := by decide +kernel
theorem dL_call_0 : decode cL_call 0 = .ok (.iload_n 1, 1) := by decide +kernel
theorem dL_call_1 : decode cL_call 1 = .ok (.tableswitch 227 0 19 #[95, 101, 106, 112, 119, 126, 135, 142, 148, 154, 161, 170, 176, 182, 189, 194, 200, 207, 214, 221], 95) := by decide +kernel
theorem dL_call_96 : decode cL_call 96 = .ok (.aload_n 0, 1) := by decide +kernel
theorem dL_call_97 : decode cL_call 97 = .ok (.iload_n 2, 1) := by decide +kernel
theorem dL_call_98 : decode cL_call 98 = .ok (.invokestatic 97, 3) := by decide +kernel
theorem dL_call_101 : decode cL_call 101 = .ok (.ireturn, 1) := by decide +kernel
theorem dL_call_102 : decode cL_call 102 = .ok (.aload_n 0, 1) := by decide +kernel
theorem dL_call_103 : decode cL_call 103 = .ok (.invokestatic 103, 3) := by decide +kernel
theorem dL_call_106 : decode cL_call 106 = .ok (.ireturn, 1) := by decide +kernel
theorem dL_call_107 : decode cL_call 107 = .ok (.aload_n 0, 1) := by decide +kernel
theorem dL_call_108 : decode cL_call 108 = .ok (.iload_n 2, 1) := by decide +kernel
theorem dL_call_109 : decode cL_call 109 = .ok (.invokestatic 107, 3) := by decide +kernel
theorem dL_call_112 : decode cL_call 112 = .ok (.ireturn, 1) := by decide +kernel
theorem dL_call_113 : decode cL_call 113 = .ok (.aload_n 0, 1) := by decide +kernel
theorem dL_call_114 : decode cL_call 114 = .ok (.iload_n 2, 1) := by decide +kernel
theorem dL_call_115 : decode cL_call 115 = .ok (.iload_n 3, 1) := by decide +kernel
theorem dL_call_116 : decode cL_call 116 = .ok (.invokestatic 110, 3) := by decide +kernel
theorem dL_call_119 : decode cL_call 119 = .ok (.ireturn, 1) := by decide +kernel
theorem dL_call_120 : decode cL_call 120 = .ok (.aload_n 0, 1) := by decide +kernel
theorem dL_call_121 : decode cL_call 121 = .ok (.iload_n 2, 1) := by decide +kernel
theorem dL_call_122 : decode cL_call 122 = .ok (.iload_n 3, 1) := by decide +kernel
theorem dL_call_123 : decode cL_call 123 = .ok (.invokestatic 114, 3) := by decide +kernel
theorem dL_call_126 : decode cL_call 126 = .ok (.ireturn, 1) := by decide +kernel
theorem dL_call_127 : decode cL_call 127 = .ok (.aload_n 0, 1) := by decide +kernel
theorem dL_call_128 : decode cL_call 128 = .ok (.iload_n 2, 1) := by decide +kernel
theorem dL_call_129 : decode cL_call 129 = .ok (.iload_n 3, 1) := by decide +kernel
theorem dL_call_130 : decode cL_call 130 = .ok (.iload 4, 2) := by decide +kernel
theorem dL_call_132 : decode cL_call 132 = .ok (.invokestatic 117, 3) := by decide +kernel
theorem dL_call_135 : decode cL_call 135 = .ok (.ireturn, 1) := by decide +kernel
theorem dL_call_136 : decode cL_call 136 = .ok (.aload_n 0, 1) := by decide +kernel
theorem dL_call_137 : decode cL_call 137 = .ok (.iload_n 2, 1) := by decide +kernel
theorem dL_call_138 : decode cL_call 138 = .ok (.iload_n 3, 1) := by decide +kernel
theorem dL_call_139 : decode cL_call 139 = .ok (.invokestatic 121, 3) := by decide +kernel
theorem dL_call_142 : decode cL_call 142 = .ok (.ireturn, 1) := by decide +kernel
theorem dL_call_143 : decode cL_call 143 = .ok (.aload_n 0, 1) := by decide +kernel
theorem dL_call_144 : decode cL_call 144 = .ok (.iload_n 2, 1) := by decide +kernel
theorem dL_call_145 : decode cL_call 145 = .ok (.invokestatic 124, 3) := by decide +kernel
theorem dL_call_148 : decode cL_call 148 = .ok (.ireturn, 1) := by decide +kernel
theorem dL_call_149 : decode cL_call 149 = .ok (.aload_n 0, 1) := by decide +kernel
theorem dL_call_150 : decode cL_call 150 = .ok (.iload_n 2, 1) := by decide +kernel
theorem dL_call_151 : decode cL_call 151 = .ok (.invokestatic 127, 3) := by decide +kernel
theorem dL_call_154 : decode cL_call 154 = .ok (.ireturn, 1) := by decide +kernel
theorem dL_call_155 : decode cL_call 155 = .ok (.aload_n 0, 1) := by decide +kernel
theorem dL_call_156 : decode cL_call 156 = .ok (.iload_n 2, 1) := by decide +kernel
theorem dL_call_157 : decode cL_call 157 = .ok (.iload_n 3, 1) := by decide +kernel
theorem dL_call_158 : decode cL_call 158 = .ok (.invokestatic 130, 3) := by decide +kernel
theorem dL_call_161 : decode cL_call 161 = .ok (.ireturn, 1) := by decide +kernel
theorem dL_call_162 : decode cL_call 162 = .ok (.aload_n 0, 1) := by decide +kernel
theorem dL_call_163 : decode cL_call 163 = .ok (.iload_n 2, 1) := by decide +kernel
theorem dL_call_164 : decode cL_call 164 = .ok (.iload_n 3, 1) := by decide +kernel
theorem dL_call_165 : decode cL_call 165 = .ok (.iload 4, 2) := by decide +kernel
theorem dL_call_167 : decode cL_call 167 = .ok (.invokestatic 133, 3) := by decide +kernel
theorem dL_call_170 : decode cL_call 170 = .ok (.ireturn, 1) := by decide +kernel
theorem dL_call_171 : decode cL_call 171 = .ok (.aload_n 0, 1) := by decide +kernel
theorem dL_call_172 : decode cL_call 172 = .ok (.iload_n 2, 1) := by decide +kernel
theorem dL_call_173 : decode cL_call 173 = .ok (.invokestatic 136, 3) := by decide +kernel
theorem dL_call_176 : decode cL_call 176 = .ok (.ireturn, 1) := by decide +kernel
theorem dL_call_177 : decode cL_call 177 = .ok (.aload_n 0, 1) := by decide +kernel
theorem dL_call_178 : decode cL_call 178 = .ok (.iload_n 2, 1) := by decide +kernel
theorem dL_call_179 : decode cL_call 179 = .ok (.invokestatic 139, 3) := by decide +kernel
theorem dL_call_182 : decode cL_call 182 = .ok (.ireturn, 1) := by decide +kernel
theorem dL_call_183 : decode cL_call 183 = .ok (.aload_n 0, 1) := by decide +kernel
theorem dL_call_184 : decode cL_call 184 = .ok (.iload_n 2, 1) := by decide +kernel
theorem dL_call_185 : decode cL_call 185 = .ok (.iload_n 3, 1) := by decide +kernel
theorem dL_call_186 : decode cL_call 186 = .ok (.invokestatic 142, 3) := by decide +kernel
theorem dL_call_189 : decode cL_call 189 = .ok (.ireturn, 1) := by decide +kernel
theorem dL_call_190 : decode cL_call 190 = .ok (.aload_n 0, 1) := by decide +kernel
theorem dL_call_191 : decode cL_call 191 = .ok (.invokestatic 145, 3) := by decide +kernel
theorem dL_call_194 : decode cL_call 194 = .ok (.ireturn, 1) := by decide +kernel
theorem dL_call_195 : decode cL_call 195 = .ok (.aload_n 0, 1) := by decide +kernel
theorem dL_call_196 : decode cL_call 196 = .ok (.iload_n 2, 1) := by decide +kernel
theorem dL_call_197 : decode cL_call 197 = .ok (.invokestatic 148, 3) := by decide +kernel
theorem dL_call_200 : decode cL_call 200 = .ok (.ireturn, 1) := by decide +kernel
theorem dL_call_201 : decode cL_call 201 = .ok (.aload_n 0, 1) := by decide +kernel
theorem dL_call_202 : decode cL_call 202 = .ok (.iload_n 2, 1) := by decide +kernel
theorem dL_call_203 : decode cL_call 203 = .ok (.iload_n 3, 1) := by decide +kernel
theorem dL_call_204 : decode cL_call 204 = .ok (.invokestatic 151, 3) := by decide +kernel
theorem dL_call_207 : decode cL_call 207 = .ok (.ireturn, 1) := by decide +kernel
theorem dL_call_208 : decode cL_call 208 = .ok (.aload_n 0, 1) := by decide +kernel
theorem dL_call_209 : decode cL_call 209 = .ok (.iload_n 2, 1) := by decide +kernel
theorem dL_call_210 : decode cL_call 210 = .ok (.iload_n 3, 1) := by decide +kernel
theorem dL_call_211 : decode cL_call 211 = .ok (.invokestatic 154, 3) := by decide +kernel
theorem dL_call_214 : decode cL_call 214 = .ok (.ireturn, 1) := by decide +kernel
theorem dL_call_215 : decode cL_call 215 = .ok (.aload_n 0, 1) := by decide +kernel
theorem dL_call_216 : decode cL_call 216 = .ok (.iload_n 2, 1) := by decide +kernel
theorem dL_call_217 : decode cL_call 217 = .ok (.iload_n 3, 1) := by decide +kernel
theorem dL_call_218 : decode cL_call 218 = .ok (.invokestatic 157, 3) := by decide +kernel
theorem dL_call_221 : decode cL_call 221 = .ok (.ireturn, 1) := by decide +kernel
theorem dL_call_222 : decode cL_call 222 = .ok (.aload_n 0, 1) := by decide +kernel
theorem dL_call_223 : decode cL_call 223 = .ok (.iload_n 2, 1) := by decide +kernel
theorem dL_call_224 : decode cL_call 224 = .ok (.invokestatic 160, 3) := by decide +kernel
theorem dL_call_227 : decode cL_call 227 = .ok (.ireturn, 1) := by decide +kernel
theorem dL_call_228 : decode cL_call 228 = .ok (.aload_n 0, 1) := by decide +kernel
theorem dL_call_229 : decode cL_call 229 = .ok (.iload_n 2, 1) := by decide +kernel
theorem dL_call_230 : decode cL_call 230 = .ok (.invokestatic 163, 3) := by decide +kernel
theorem dL_call_233 : decode cL_call 233 = .ok (.ireturn, 1) := by decide +kernel
theorem dL_cell_0 : decode cL_cell 0 = .ok (.iload_n 1, 1) := by decide +kernel
theorem dL_cell_1 : decode cL_cell 1 = .ok (.aload_n 0, 1) := by decide +kernel
theorem dL_cell_2 : decode cL_cell 2 = .ok (.arraylength, 1) := by decide +kernel
theorem dL_cell_3 : decode cL_cell 3 = .ok (.if_icmp .ge 9, 3) := by decide +kernel
theorem dL_cell_6 : decode cL_cell 6 = .ok (.aload_n 0, 1) := by decide +kernel
theorem dL_cell_7 : decode cL_cell 7 = .ok (.iload_n 1, 1) := by decide +kernel
theorem dL_cell_8 : decode cL_cell 8 = .ok (.iaload, 1) := by decide +kernel
theorem dL_cell_9 : decode cL_cell 9 = .ok (.goto 13, 3) := by decide +kernel
theorem dL_cell_12 : decode cL_cell 12 = .ok (.ldc 166, 2) := by decide +kernel
theorem dL_cell_14 : decode cL_cell 14 = .ok (.iload_n 1, 1) := by decide +kernel
theorem dL_cell_15 : decode cL_cell 15 = .ok (.iconst 3, 1) := by decide +kernel
theorem dL_cell_16 : decode cL_cell 16 = .ok (.iadd, 1) := by decide +kernel
theorem dL_cell_17 : decode cL_cell 17 = .ok (.imul, 1) := by decide +kernel
theorem dL_cell_18 : decode cL_cell 18 = .ok (.sipush 11471, 3) := by decide +kernel
theorem dL_cell_21 : decode cL_cell 21 = .ok (.iadd, 1) := by decide +kernel
theorem dL_cell_22 : decode cL_cell 22 = .ok (.ldc 167, 2) := by decide +kernel
theorem dL_cell_24 : decode cL_cell 24 = .ok (.iand, 1) := by decide +kernel
theorem dL_cell_25 : decode cL_cell 25 = .ok (.ireturn, 1) := by decide +kernel
theorem dL_thrown_0 : decode cL_thrown 0 = .ok (.iload_n 0, 1) := by decide +kernel
theorem dL_thrown_1 : decode cL_thrown 1 = .ok (.ldc 15, 2) := by decide +kernel
theorem dL_thrown_3 : decode cL_thrown 3 = .ok (.if_icmp .eq 15, 3) := by decide +kernel
theorem dL_thrown_6 : decode cL_thrown 6 = .ok (.iload_n 0, 1) := by decide +kernel
theorem dL_thrown_7 : decode cL_thrown 7 = .ok (.ldc 22, 2) := by decide +kernel
theorem dL_thrown_9 : decode cL_thrown 9 = .ok (.if_icmp .eq 9, 3) := by decide +kernel
theorem dL_thrown_12 : decode cL_thrown 12 = .ok (.iload_n 0, 1) := by decide +kernel
theorem dL_thrown_13 : decode cL_thrown 13 = .ok (.ldc 33, 2) := by decide +kernel
theorem dL_thrown_15 : decode cL_thrown 15 = .ok (.if_icmp .ne 7, 3) := by decide +kernel
theorem dL_thrown_18 : decode cL_thrown 18 = .ok (.iconst 1, 1) := by decide +kernel
theorem dL_thrown_19 : decode cL_thrown 19 = .ok (.goto 4, 3) := by decide +kernel
theorem dL_thrown_22 : decode cL_thrown 22 = .ok (.iconst 0, 1) := by decide +kernel
theorem dL_thrown_23 : decode cL_thrown 23 = .ok (.ireturn, 1) := by decide +kernel
theorem dL_refuses_0 : decode cL_refuses 0 = .ok (.aload_n 0, 1) := by decide +kernel
theorem dL_refuses_1 : decode cL_refuses 1 = .ok (.iconst 2, 1) := by decide +kernel
theorem dL_refuses_2 : decode cL_refuses 2 = .ok (.iconst 0, 1) := by decide +kernel
theorem dL_refuses_3 : decode cL_refuses 3 = .ok (.iconst 0, 1) := by decide +kernel
theorem dL_refuses_4 : decode cL_refuses 4 = .ok (.iconst 0, 1) := by decide +kernel
theorem dL_refuses_5 : decode cL_refuses 5 = .ok (.invokestatic 168, 3) := by decide +kernel
theorem dL_refuses_8 : decode cL_refuses 8 = .ok (.istore_n 2, 1) := by decide +kernel
theorem dL_refuses_9 : decode cL_refuses 9 = .ok (.iload_n 1, 1) := by decide +kernel
theorem dL_refuses_10 : decode cL_refuses 10 = .ok (.iconst 2, 1) := by decide +kernel
theorem dL_refuses_11 : decode cL_refuses 11 = .ok (.irem, 1) := by decide +kernel
theorem dL_refuses_12 : decode cL_refuses 12 = .ok (.ifCond .ne 12, 3) := by decide +kernel
theorem dL_refuses_15 : decode cL_refuses 15 = .ok (.iconst (-1), 1) := by decide +kernel
theorem dL_refuses_16 : decode cL_refuses 16 = .ok (.iload_n 1, 1) := by decide +kernel
theorem dL_refuses_17 : decode cL_refuses 17 = .ok (.bipush 99, 2) := by decide +kernel
theorem dL_refuses_19 : decode cL_refuses 19 = .ok (.irem, 1) := by decide +kernel
theorem dL_refuses_20 : decode cL_refuses 20 = .ok (.isub, 1) := by decide +kernel
theorem dL_refuses_21 : decode cL_refuses 21 = .ok (.goto 9, 3) := by decide +kernel
theorem dL_refuses_24 : decode cL_refuses 24 = .ok (.iload_n 2, 1) := by decide +kernel
theorem dL_refuses_25 : decode cL_refuses 25 = .ok (.iload_n 1, 1) := by decide +kernel
theorem dL_refuses_26 : decode cL_refuses 26 = .ok (.bipush 99, 2) := by decide +kernel
theorem dL_refuses_28 : decode cL_refuses 28 = .ok (.irem, 1) := by decide +kernel
theorem dL_refuses_29 : decode cL_refuses 29 = .ok (.iadd, 1) := by decide +kernel
theorem dL_refuses_30 : decode cL_refuses 30 = .ok (.istore_n 3, 1) := by decide +kernel
theorem dL_refuses_31 : decode cL_refuses 31 = .ok (.iload_n 1, 1) := by decide +kernel
theorem dL_refuses_32 : decode cL_refuses 32 = .ok (.iconst 2, 1) := by decide +kernel
theorem dL_refuses_33 : decode cL_refuses 33 = .ok (.irem, 1) := by decide +kernel
theorem dL_refuses_34 : decode cL_refuses 34 = .ok (.ifCond .ne 11, 3) := by decide +kernel
theorem dL_refuses_37 : decode cL_refuses 37 = .ok (.iload_n 1, 1) := by decide +kernel
theorem dL_refuses_38 : decode cL_refuses 38 = .ok (.bipush 99, 2) := by decide +kernel
theorem dL_refuses_40 : decode cL_refuses 40 = .ok (.irem, 1) := by decide +kernel
theorem dL_refuses_41 : decode cL_refuses 41 = .ok (.ineg, 1) := by decide +kernel
theorem dL_refuses_42 : decode cL_refuses 42 = .ok (.goto 11, 3) := by decide +kernel
theorem dL_refuses_45 : decode cL_refuses 45 = .ok (.sipush 501, 3) := by decide +kernel
theorem dL_refuses_48 : decode cL_refuses 48 = .ok (.iload_n 1, 1) := by decide +kernel
theorem dL_refuses_49 : decode cL_refuses 49 = .ok (.bipush 99, 2) := by decide +kernel
theorem dL_refuses_51 : decode cL_refuses 51 = .ok (.irem, 1) := by decide +kernel
theorem dL_refuses_52 : decode cL_refuses 52 = .ok (.iadd, 1) := by decide +kernel
theorem dL_refuses_53 : decode cL_refuses 53 = .ok (.istore 4, 2) := by decide +kernel
theorem dL_refuses_55 : decode cL_refuses 55 = .ok (.aload_n 0, 1) := by decide +kernel
theorem dL_refuses_56 : decode cL_refuses 56 = .ok (.iconst 0, 1) := by decide +kernel
theorem dL_refuses_57 : decode cL_refuses 57 = .ok (.iload_n 1, 1) := by decide +kernel
theorem dL_refuses_58 : decode cL_refuses 58 = .ok (.iconst 2, 1) := by decide +kernel
theorem dL_refuses_59 : decode cL_refuses 59 = .ok (.irem, 1) := by decide +kernel
theorem dL_refuses_60 : decode cL_refuses 60 = .ok (.ifCond .ne 12, 3) := by decide +kernel
theorem dL_refuses_63 : decode cL_refuses 63 = .ok (.iconst (-1), 1) := by decide +kernel
theorem dL_refuses_64 : decode cL_refuses 64 = .ok (.iload_n 1, 1) := by decide +kernel
theorem dL_refuses_65 : decode cL_refuses 65 = .ok (.bipush 9, 2) := by decide +kernel
theorem dL_refuses_67 : decode cL_refuses 67 = .ok (.irem, 1) := by decide +kernel
theorem dL_refuses_68 : decode cL_refuses 68 = .ok (.isub, 1) := by decide +kernel
theorem dL_refuses_69 : decode cL_refuses 69 = .ok (.goto 11, 3) := by decide +kernel
theorem dL_refuses_72 : decode cL_refuses 72 = .ok (.sipush 256, 3) := by decide +kernel
theorem dL_refuses_75 : decode cL_refuses 75 = .ok (.iload_n 1, 1) := by decide +kernel
theorem dL_refuses_76 : decode cL_refuses 76 = .ok (.bipush 9, 2) := by decide +kernel
theorem dL_refuses_78 : decode cL_refuses 78 = .ok (.irem, 1) := by decide +kernel
theorem dL_refuses_79 : decode cL_refuses 79 = .ok (.iadd, 1) := by decide +kernel
theorem dL_refuses_80 : decode cL_refuses 80 = .ok (.iconst 0, 1) := by decide +kernel
theorem dL_refuses_81 : decode cL_refuses 81 = .ok (.iconst 0, 1) := by decide +kernel
theorem dL_refuses_82 : decode cL_refuses 82 = .ok (.invokestatic 168, 3) := by decide +kernel
theorem dL_refuses_85 : decode cL_refuses 85 = .ok (.ldc 22, 2) := by decide +kernel
theorem dL_refuses_87 : decode cL_refuses 87 = .ok (.if_icmp .ne 699, 3) := by decide +kernel
theorem dL_refuses_90 : decode cL_refuses 90 = .ok (.aload_n 0, 1) := by decide +kernel
theorem dL_refuses_91 : decode cL_refuses 91 = .ok (.iconst 2, 1) := by decide +kernel
theorem dL_refuses_92 : decode cL_refuses 92 = .ok (.bipush 9, 2) := by decide +kernel
theorem dL_refuses_94 : decode cL_refuses 94 = .ok (.iload_n 1, 1) := by decide +kernel
theorem dL_refuses_95 : decode cL_refuses 95 = .ok (.bipush 50, 2) := by decide +kernel
theorem dL_refuses_97 : decode cL_refuses 97 = .ok (.irem, 1) := by decide +kernel
theorem dL_refuses_98 : decode cL_refuses 98 = .ok (.iadd, 1) := by decide +kernel
theorem dL_refuses_99 : decode cL_refuses 99 = .ok (.iconst 0, 1) := by decide +kernel
theorem dL_refuses_100 : decode cL_refuses 100 = .ok (.iconst 0, 1) := by decide +kernel
theorem dL_refuses_101 : decode cL_refuses 101 = .ok (.invokestatic 168, 3) := by decide +kernel
theorem dL_refuses_104 : decode cL_refuses 104 = .ok (.ldc 22, 2) := by decide +kernel
theorem dL_refuses_106 : decode cL_refuses 106 = .ok (.if_icmp .ne 680, 3) := by decide +kernel
theorem dL_refuses_109 : decode cL_refuses 109 = .ok (.aload_n 0, 1) := by decide +kernel
theorem dL_refuses_110 : decode cL_refuses 110 = .ok (.iconst 3, 1) := by decide +kernel
theorem dL_refuses_111 : decode cL_refuses 111 = .ok (.iload_n 3, 1) := by decide +kernel
theorem dL_refuses_112 : decode cL_refuses 112 = .ok (.bipush 9, 2) := by decide +kernel
theorem dL_refuses_114 : decode cL_refuses 114 = .ok (.iconst 0, 1) := by decide +kernel
theorem dL_refuses_115 : decode cL_refuses 115 = .ok (.invokestatic 168, 3) := by decide +kernel
theorem dL_refuses_118 : decode cL_refuses 118 = .ok (.ldc 15, 2) := by decide +kernel
theorem dL_refuses_120 : decode cL_refuses 120 = .ok (.if_icmp .ne 666, 3) := by decide +kernel
theorem dL_refuses_123 : decode cL_refuses 123 = .ok (.aload_n 0, 1) := by decide +kernel
theorem dL_refuses_124 : decode cL_refuses 124 = .ok (.iconst 3, 1) := by decide +kernel
theorem dL_refuses_125 : decode cL_refuses 125 = .ok (.iload_n 1, 1) := by decide +kernel
theorem dL_refuses_126 : decode cL_refuses 126 = .ok (.iload_n 2, 1) := by decide +kernel
theorem dL_refuses_127 : decode cL_refuses 127 = .ok (.irem, 1) := by decide +kernel
theorem dL_refuses_128 : decode cL_refuses 128 = .ok (.bipush 7, 2) := by decide +kernel
theorem dL_refuses_130 : decode cL_refuses 130 = .ok (.iload_n 1, 1) := by decide +kernel
theorem dL_refuses_131 : decode cL_refuses 131 = .ok (.bipush 9, 2) := by decide +kernel
theorem dL_refuses_133 : decode cL_refuses 133 = .ok (.irem, 1) := by decide +kernel
theorem dL_refuses_134 : decode cL_refuses 134 = .ok (.iadd, 1) := by decide +kernel
theorem dL_refuses_135 : decode cL_refuses 135 = .ok (.iconst 0, 1) := by decide +kernel
theorem dL_refuses_136 : decode cL_refuses 136 = .ok (.invokestatic 168, 3) := by decide +kernel
theorem dL_refuses_139 : decode cL_refuses 139 = .ok (.ldc 22, 2) := by decide +kernel
theorem dL_refuses_141 : decode cL_refuses 141 = .ok (.if_icmp .ne 645, 3) := by decide +kernel
theorem dL_refuses_144 : decode cL_refuses 144 = .ok (.aload_n 0, 1) := by decide +kernel
theorem dL_refuses_145 : decode cL_refuses 145 = .ok (.iconst 4, 1) := by decide +kernel
theorem dL_refuses_146 : decode cL_refuses 146 = .ok (.iload_n 3, 1) := by decide +kernel
theorem dL_refuses_147 : decode cL_refuses 147 = .ok (.bipush 9, 2) := by decide +kernel
theorem dL_refuses_149 : decode cL_refuses 149 = .ok (.iconst 0, 1) := by decide +kernel
theorem dL_refuses_150 : decode cL_refuses 150 = .ok (.invokestatic 168, 3) := by decide +kernel
theorem dL_refuses_153 : decode cL_refuses 153 = .ok (.ldc 15, 2) := by decide +kernel
theorem dL_refuses_155 : decode cL_refuses 155 = .ok (.if_icmp .ne 631, 3) := by decide +kernel
theorem dL_refuses_158 : decode cL_refuses 158 = .ok (.aload_n 0, 1) := by decide +kernel
theorem dL_refuses_159 : decode cL_refuses 159 = .ok (.iconst 4, 1) := by decide +kernel
theorem dL_refuses_160 : decode cL_refuses 160 = .ok (.iload_n 1, 1) := by decide +kernel
theorem dL_refuses_161 : decode cL_refuses 161 = .ok (.iload_n 2, 1) := by decide +kernel
theorem dL_refuses_162 : decode cL_refuses 162 = .ok (.irem, 1) := by decide +kernel
theorem dL_refuses_163 : decode cL_refuses 163 = .ok (.bipush 6, 2) := by decide +kernel
theorem dL_refuses_165 : decode cL_refuses 165 = .ok (.iload_n 1, 1) := by decide +kernel
theorem dL_refuses_166 : decode cL_refuses 166 = .ok (.bipush 9, 2) := by decide +kernel
theorem dL_refuses_168 : decode cL_refuses 168 = .ok (.irem, 1) := by decide +kernel
theorem dL_refuses_169 : decode cL_refuses 169 = .ok (.iadd, 1) := by decide +kernel
theorem dL_refuses_170 : decode cL_refuses 170 = .ok (.iconst 0, 1) := by decide +kernel
theorem dL_refuses_171 : decode cL_refuses 171 = .ok (.invokestatic 168, 3) := by decide +kernel
theorem dL_refuses_174 : decode cL_refuses 174 = .ok (.ldc 22, 2) := by decide +kernel
theorem dL_refuses_176 : decode cL_refuses 176 = .ok (.if_icmp .ne 610, 3) := by decide +kernel
theorem dL_refuses_179 : decode cL_refuses 179 = .ok (.aload_n 0, 1) := by decide +kernel
theorem dL_refuses_180 : decode cL_refuses 180 = .ok (.iconst 5, 1) := by decide +kernel
theorem dL_refuses_181 : decode cL_refuses 181 = .ok (.iload_n 3, 1) := by decide +kernel
theorem dL_refuses_182 : decode cL_refuses 182 = .ok (.iconst 0, 1) := by decide +kernel
theorem dL_refuses_183 : decode cL_refuses 183 = .ok (.bipush 9, 2) := by decide +kernel
theorem dL_refuses_185 : decode cL_refuses 185 = .ok (.invokestatic 168, 3) := by decide +kernel
theorem dL_refuses_188 : decode cL_refuses 188 = .ok (.ldc 15, 2) := by decide +kernel
theorem dL_refuses_190 : decode cL_refuses 190 = .ok (.if_icmp .ne 596, 3) := by decide +kernel
theorem dL_refuses_193 : decode cL_refuses 193 = .ok (.aload_n 0, 1) := by decide +kernel
theorem dL_refuses_194 : decode cL_refuses 194 = .ok (.iconst 5, 1) := by decide +kernel
theorem dL_refuses_195 : decode cL_refuses 195 = .ok (.iconst 0, 1) := by decide +kernel
theorem dL_refuses_196 : decode cL_refuses 196 = .ok (.aload_n 0, 1) := by decide +kernel
theorem dL_refuses_197 : decode cL_refuses 197 = .ok (.iconst 3, 1) := by decide +kernel
theorem dL_refuses_198 : decode cL_refuses 198 = .ok (.iconst 0, 1) := by decide +kernel
theorem dL_refuses_199 : decode cL_refuses 199 = .ok (.iconst 1, 1) := by decide +kernel
theorem dL_refuses_200 : decode cL_refuses 200 = .ok (.iconst 0, 1) := by decide +kernel
theorem dL_refuses_201 : decode cL_refuses 201 = .ok (.invokestatic 168, 3) := by decide +kernel
theorem dL_refuses_204 : decode cL_refuses 204 = .ok (.iload_n 1, 1) := by decide +kernel
theorem dL_refuses_205 : decode cL_refuses 205 = .ok (.bipush 9, 2) := by decide +kernel
theorem dL_refuses_207 : decode cL_refuses 207 = .ok (.irem, 1) := by decide +kernel
theorem dL_refuses_208 : decode cL_refuses 208 = .ok (.iadd, 1) := by decide +kernel
theorem dL_refuses_209 : decode cL_refuses 209 = .ok (.bipush 9, 2) := by decide +kernel
theorem dL_refuses_211 : decode cL_refuses 211 = .ok (.invokestatic 168, 3) := by decide +kernel
theorem dL_refuses_214 : decode cL_refuses 214 = .ok (.ldc 15, 2) := by decide +kernel
theorem dL_refuses_216 : decode cL_refuses 216 = .ok (.if_icmp .ne 570, 3) := by decide +kernel
theorem dL_refuses_219 : decode cL_refuses 219 = .ok (.aload_n 0, 1) := by decide +kernel
theorem dL_refuses_220 : decode cL_refuses 220 = .ok (.bipush 6, 2) := by decide +kernel
theorem dL_refuses_222 : decode cL_refuses 222 = .ok (.aload_n 0, 1) := by decide +kernel
theorem dL_refuses_223 : decode cL_refuses 223 = .ok (.iconst 2, 1) := by decide +kernel
theorem dL_refuses_224 : decode cL_refuses 224 = .ok (.iconst 2, 1) := by decide +kernel
theorem dL_refuses_225 : decode cL_refuses 225 = .ok (.iconst 0, 1) := by decide +kernel
theorem dL_refuses_226 : decode cL_refuses 226 = .ok (.iconst 0, 1) := by decide +kernel
theorem dL_refuses_227 : decode cL_refuses 227 = .ok (.invokestatic 168, 3) := by decide +kernel
theorem dL_refuses_230 : decode cL_refuses 230 = .ok (.iload_n 1, 1) := by decide +kernel
theorem dL_refuses_231 : decode cL_refuses 231 = .ok (.bipush 9, 2) := by decide +kernel
theorem dL_refuses_233 : decode cL_refuses 233 = .ok (.irem, 1) := by decide +kernel
theorem dL_refuses_234 : decode cL_refuses 234 = .ok (.iadd, 1) := by decide +kernel
theorem dL_refuses_235 : decode cL_refuses 235 = .ok (.bipush 9, 2) := by decide +kernel
theorem dL_refuses_237 : decode cL_refuses 237 = .ok (.iconst 0, 1) := by decide +kernel
theorem dL_refuses_238 : decode cL_refuses 238 = .ok (.invokestatic 168, 3) := by decide +kernel
theorem dL_refuses_241 : decode cL_refuses 241 = .ok (.ldc 15, 2) := by decide +kernel
theorem dL_refuses_243 : decode cL_refuses 243 = .ok (.if_icmp .ne 543, 3) := by decide +kernel
theorem dL_refuses_246 : decode cL_refuses 246 = .ok (.aload_n 0, 1) := by decide +kernel
theorem dL_refuses_247 : decode cL_refuses 247 = .ok (.bipush 7, 2) := by decide +kernel
theorem dL_refuses_249 : decode cL_refuses 249 = .ok (.iconst 4, 1) := by decide +kernel
theorem dL_refuses_250 : decode cL_refuses 250 = .ok (.iload_n 1, 1) := by decide +kernel
theorem dL_refuses_251 : decode cL_refuses 251 = .ok (.bipush 9, 2) := by decide +kernel
theorem dL_refuses_253 : decode cL_refuses 253 = .ok (.irem, 1) := by decide +kernel
theorem dL_refuses_254 : decode cL_refuses 254 = .ok (.iadd, 1) := by decide +kernel
theorem dL_refuses_255 : decode cL_refuses 255 = .ok (.iconst 0, 1) := by decide +kernel
theorem dL_refuses_256 : decode cL_refuses 256 = .ok (.iconst 0, 1) := by decide +kernel
theorem dL_refuses_257 : decode cL_refuses 257 = .ok (.invokestatic 168, 3) := by decide +kernel
theorem dL_refuses_260 : decode cL_refuses 260 = .ok (.ldc 22, 2) := by decide +kernel
theorem dL_refuses_262 : decode cL_refuses 262 = .ok (.if_icmp .ne 524, 3) := by decide +kernel
theorem dL_refuses_265 : decode cL_refuses 265 = .ok (.aload_n 0, 1) := by decide +kernel
theorem dL_refuses_266 : decode cL_refuses 266 = .ok (.bipush 8, 2) := by decide +kernel
theorem dL_refuses_268 : decode cL_refuses 268 = .ok (.iload_n 1, 1) := by decide +kernel
theorem dL_refuses_269 : decode cL_refuses 269 = .ok (.iconst 2, 1) := by decide +kernel
theorem dL_refuses_270 : decode cL_refuses 270 = .ok (.irem, 1) := by decide +kernel
theorem dL_refuses_271 : decode cL_refuses 271 = .ok (.ifCond .ne 11, 3) := by decide +kernel
theorem dL_refuses_274 : decode cL_refuses 274 = .ok (.iload_n 1, 1) := by decide +kernel
theorem dL_refuses_275 : decode cL_refuses 275 = .ok (.bipush 9, 2) := by decide +kernel
theorem dL_refuses_277 : decode cL_refuses 277 = .ok (.irem, 1) := by decide +kernel
theorem dL_refuses_278 : decode cL_refuses 278 = .ok (.ineg, 1) := by decide +kernel
theorem dL_refuses_279 : decode cL_refuses 279 = .ok (.goto 9, 3) := by decide +kernel
theorem dL_refuses_282 : decode cL_refuses 282 = .ok (.iconst 5, 1) := by decide +kernel
theorem dL_refuses_283 : decode cL_refuses 283 = .ok (.iload_n 1, 1) := by decide +kernel
theorem dL_refuses_284 : decode cL_refuses 284 = .ok (.bipush 9, 2) := by decide +kernel
theorem dL_refuses_286 : decode cL_refuses 286 = .ok (.irem, 1) := by decide +kernel
theorem dL_refuses_287 : decode cL_refuses 287 = .ok (.iadd, 1) := by decide +kernel
theorem dL_refuses_288 : decode cL_refuses 288 = .ok (.iconst 0, 1) := by decide +kernel
theorem dL_refuses_289 : decode cL_refuses 289 = .ok (.iconst 0, 1) := by decide +kernel
theorem dL_refuses_290 : decode cL_refuses 290 = .ok (.invokestatic 168, 3) := by decide +kernel
theorem dL_refuses_293 : decode cL_refuses 293 = .ok (.ldc 22, 2) := by decide +kernel
theorem dL_refuses_295 : decode cL_refuses 295 = .ok (.if_icmp .ne 491, 3) := by decide +kernel
theorem dL_refuses_298 : decode cL_refuses 298 = .ok (.aload_n 0, 1) := by decide +kernel
theorem dL_refuses_299 : decode cL_refuses 299 = .ok (.bipush 9, 2) := by decide +kernel
theorem dL_refuses_301 : decode cL_refuses 301 = .ok (.iload_n 3, 1) := by decide +kernel
theorem dL_refuses_302 : decode cL_refuses 302 = .ok (.iload 4, 2) := by decide +kernel
theorem dL_refuses_304 : decode cL_refuses 304 = .ok (.iconst 0, 1) := by decide +kernel
theorem dL_refuses_305 : decode cL_refuses 305 = .ok (.invokestatic 168, 3) := by decide +kernel
theorem dL_refuses_308 : decode cL_refuses 308 = .ok (.ldc 15, 2) := by decide +kernel
theorem dL_refuses_310 : decode cL_refuses 310 = .ok (.if_icmp .ne 476, 3) := by decide +kernel
theorem dL_refuses_313 : decode cL_refuses 313 = .ok (.aload_n 0, 1) := by decide +kernel
theorem dL_refuses_314 : decode cL_refuses 314 = .ok (.bipush 9, 2) := by decide +kernel
theorem dL_refuses_316 : decode cL_refuses 316 = .ok (.iload_n 1, 1) := by decide +kernel
theorem dL_refuses_317 : decode cL_refuses 317 = .ok (.iload_n 2, 1) := by decide +kernel
theorem dL_refuses_318 : decode cL_refuses 318 = .ok (.irem, 1) := by decide +kernel
theorem dL_refuses_319 : decode cL_refuses 319 = .ok (.iload 4, 2) := by decide +kernel
theorem dL_refuses_321 : decode cL_refuses 321 = .ok (.iconst 0, 1) := by decide +kernel
theorem dL_refuses_322 : decode cL_refuses 322 = .ok (.invokestatic 168, 3) := by decide +kernel
theorem dL_refuses_325 : decode cL_refuses 325 = .ok (.ldc 22, 2) := by decide +kernel
theorem dL_refuses_327 : decode cL_refuses 327 = .ok (.if_icmp .ne 459, 3) := by decide +kernel
theorem dL_refuses_330 : decode cL_refuses 330 = .ok (.aload_n 0, 1) := by decide +kernel
theorem dL_refuses_331 : decode cL_refuses 331 = .ok (.bipush 10, 2) := by decide +kernel
theorem dL_refuses_333 : decode cL_refuses 333 = .ok (.iconst 0, 1) := by decide +kernel
theorem dL_refuses_334 : decode cL_refuses 334 = .ok (.iload_n 3, 1) := by decide +kernel
theorem dL_refuses_335 : decode cL_refuses 335 = .ok (.iconst 5, 1) := by decide +kernel
theorem dL_refuses_336 : decode cL_refuses 336 = .ok (.invokestatic 168, 3) := by decide +kernel
theorem dL_refuses_339 : decode cL_refuses 339 = .ok (.ldc 15, 2) := by decide +kernel
theorem dL_refuses_341 : decode cL_refuses 341 = .ok (.if_icmp .ne 445, 3) := by decide +kernel
theorem dL_refuses_344 : decode cL_refuses 344 = .ok (.aload_n 0, 1) := by decide +kernel
theorem dL_refuses_345 : decode cL_refuses 345 = .ok (.bipush 10, 2) := by decide +kernel
theorem dL_refuses_347 : decode cL_refuses 347 = .ok (.iload_n 1, 1) := by decide +kernel
theorem dL_refuses_348 : decode cL_refuses 348 = .ok (.iconst 2, 1) := by decide +kernel
theorem dL_refuses_349 : decode cL_refuses 349 = .ok (.irem, 1) := by decide +kernel
theorem dL_refuses_350 : decode cL_refuses 350 = .ok (.ifCond .ne 7, 3) := by decide +kernel
theorem dL_refuses_353 : decode cL_refuses 353 = .ok (.iconst 0, 1) := by decide +kernel
theorem dL_refuses_354 : decode cL_refuses 354 = .ok (.goto 10, 3) := by decide +kernel
theorem dL_refuses_357 : decode cL_refuses 357 = .ok (.bipush 100, 2) := by decide +kernel
theorem dL_refuses_359 : decode cL_refuses 359 = .ok (.iload_n 1, 1) := by decide +kernel
theorem dL_refuses_360 : decode cL_refuses 360 = .ok (.bipush 9, 2) := by decide +kernel
theorem dL_refuses_362 : decode cL_refuses 362 = .ok (.irem, 1) := by decide +kernel
theorem dL_refuses_363 : decode cL_refuses 363 = .ok (.iadd, 1) := by decide +kernel
theorem dL_refuses_364 : decode cL_refuses 364 = .ok (.iconst 0, 1) := by decide +kernel
theorem dL_refuses_365 : decode cL_refuses 365 = .ok (.iconst 5, 1) := by decide +kernel
theorem dL_refuses_366 : decode cL_refuses 366 = .ok (.invokestatic 168, 3) := by decide +kernel
theorem dL_refuses_369 : decode cL_refuses 369 = .ok (.ldc 22, 2) := by decide +kernel
theorem dL_refuses_371 : decode cL_refuses 371 = .ok (.if_icmp .ne 415, 3) := by decide +kernel
theorem dL_refuses_374 : decode cL_refuses 374 = .ok (.aload_n 0, 1) := by decide +kernel
theorem dL_refuses_375 : decode cL_refuses 375 = .ok (.bipush 10, 2) := by decide +kernel
theorem dL_refuses_377 : decode cL_refuses 377 = .ok (.iconst 5, 1) := by decide +kernel
theorem dL_refuses_378 : decode cL_refuses 378 = .ok (.iconst 0, 1) := by decide +kernel
theorem dL_refuses_379 : decode cL_refuses 379 = .ok (.iload 4, 2) := by decide +kernel
theorem dL_refuses_381 : decode cL_refuses 381 = .ok (.invokestatic 168, 3) := by decide +kernel
theorem dL_refuses_384 : decode cL_refuses 384 = .ok (.ldc 22, 2) := by decide +kernel
theorem dL_refuses_386 : decode cL_refuses 386 = .ok (.if_icmp .ne 400, 3) := by decide +kernel
theorem dL_refuses_389 : decode cL_refuses 389 = .ok (.aload_n 0, 1) := by decide +kernel
theorem dL_refuses_390 : decode cL_refuses 390 = .ok (.iload_n 3, 1) := by decide +kernel
theorem dL_refuses_391 : decode cL_refuses 391 = .ok (.iconst 1, 1) := by decide +kernel
theorem dL_refuses_392 : decode cL_refuses 392 = .ok (.invokestatic 172, 3) := by decide +kernel
theorem dL_refuses_395 : decode cL_refuses 395 = .ok (.ldc 15, 2) := by decide +kernel
theorem dL_refuses_397 : decode cL_refuses 397 = .ok (.if_icmp .ne 389, 3) := by decide +kernel
theorem dL_refuses_400 : decode cL_refuses 400 = .ok (.aload_n 0, 1) := by decide +kernel
theorem dL_refuses_401 : decode cL_refuses 401 = .ok (.bipush 11, 2) := by decide +kernel
theorem dL_refuses_403 : decode cL_refuses 403 = .ok (.iload_n 3, 1) := by decide +kernel
theorem dL_refuses_404 : decode cL_refuses 404 = .ok (.iconst 0, 1) := by decide +kernel
theorem dL_refuses_405 : decode cL_refuses 405 = .ok (.iconst 0, 1) := by decide +kernel
theorem dL_refuses_406 : decode cL_refuses 406 = .ok (.invokestatic 168, 3) := by decide +kernel
theorem dL_refuses_409 : decode cL_refuses 409 = .ok (.ldc 15, 2) := by decide +kernel
theorem dL_refuses_411 : decode cL_refuses 411 = .ok (.if_icmp .ne 375, 3) := by decide +kernel
theorem dL_refuses_414 : decode cL_refuses 414 = .ok (.aload_n 0, 1) := by decide +kernel
theorem dL_refuses_415 : decode cL_refuses 415 = .ok (.bipush 12, 2) := by decide +kernel
theorem dL_refuses_417 : decode cL_refuses 417 = .ok (.iload_n 1, 1) := by decide +kernel
theorem dL_refuses_418 : decode cL_refuses 418 = .ok (.iconst 2, 1) := by decide +kernel
theorem dL_refuses_419 : decode cL_refuses 419 = .ok (.irem, 1) := by decide +kernel
theorem dL_refuses_420 : decode cL_refuses 420 = .ok (.ifCond .ne 7, 3) := by decide +kernel
theorem dL_refuses_423 : decode cL_refuses 423 = .ok (.iconst 0, 1) := by decide +kernel
theorem dL_refuses_424 : decode cL_refuses 424 = .ok (.goto 10, 3) := by decide +kernel
theorem dL_refuses_427 : decode cL_refuses 427 = .ok (.bipush 100, 2) := by decide +kernel
theorem dL_refuses_429 : decode cL_refuses 429 = .ok (.iload_n 1, 1) := by decide +kernel
theorem dL_refuses_430 : decode cL_refuses 430 = .ok (.bipush 9, 2) := by decide +kernel
theorem dL_refuses_432 : decode cL_refuses 432 = .ok (.irem, 1) := by decide +kernel
theorem dL_refuses_433 : decode cL_refuses 433 = .ok (.iadd, 1) := by decide +kernel
theorem dL_refuses_434 : decode cL_refuses 434 = .ok (.iconst 0, 1) := by decide +kernel
theorem dL_refuses_435 : decode cL_refuses 435 = .ok (.iconst 0, 1) := by decide +kernel
theorem dL_refuses_436 : decode cL_refuses 436 = .ok (.invokestatic 168, 3) := by decide +kernel
theorem dL_refuses_439 : decode cL_refuses 439 = .ok (.ldc 22, 2) := by decide +kernel
theorem dL_refuses_441 : decode cL_refuses 441 = .ok (.if_icmp .ne 345, 3) := by decide +kernel
theorem dL_refuses_444 : decode cL_refuses 444 = .ok (.aload_n 0, 1) := by decide +kernel
theorem dL_refuses_445 : decode cL_refuses 445 = .ok (.bipush 13, 2) := by decide +kernel
theorem dL_refuses_447 : decode cL_refuses 447 = .ok (.iconst 0, 1) := by decide +kernel
theorem dL_refuses_448 : decode cL_refuses 448 = .ok (.iload_n 1, 1) := by decide +kernel
theorem dL_refuses_449 : decode cL_refuses 449 = .ok (.iconst 2, 1) := by decide +kernel
theorem dL_refuses_450 : decode cL_refuses 450 = .ok (.irem, 1) := by decide +kernel
theorem dL_refuses_451 : decode cL_refuses 451 = .ok (.ifCond .ne 7, 3) := by decide +kernel
theorem dL_refuses_454 : decode cL_refuses 454 = .ok (.iconst 0, 1) := by decide +kernel
theorem dL_refuses_455 : decode cL_refuses 455 = .ok (.goto 10, 3) := by decide +kernel
theorem dL_refuses_458 : decode cL_refuses 458 = .ok (.bipush 10, 2) := by decide +kernel
theorem dL_refuses_460 : decode cL_refuses 460 = .ok (.iload_n 1, 1) := by decide +kernel
theorem dL_refuses_461 : decode cL_refuses 461 = .ok (.bipush 9, 2) := by decide +kernel
theorem dL_refuses_463 : decode cL_refuses 463 = .ok (.irem, 1) := by decide +kernel
theorem dL_refuses_464 : decode cL_refuses 464 = .ok (.iadd, 1) := by decide +kernel
theorem dL_refuses_465 : decode cL_refuses 465 = .ok (.iconst 0, 1) := by decide +kernel
theorem dL_refuses_466 : decode cL_refuses 466 = .ok (.invokestatic 168, 3) := by decide +kernel
theorem dL_refuses_469 : decode cL_refuses 469 = .ok (.ldc 22, 2) := by decide +kernel
theorem dL_refuses_471 : decode cL_refuses 471 = .ok (.if_icmp .ne 315, 3) := by decide +kernel
theorem dL_refuses_474 : decode cL_refuses 474 = .ok (.aload_n 0, 1) := by decide +kernel
theorem dL_refuses_475 : decode cL_refuses 475 = .ok (.bipush 13, 2) := by decide +kernel
theorem dL_refuses_477 : decode cL_refuses 477 = .ok (.iconst 1, 1) := by decide +kernel
theorem dL_refuses_478 : decode cL_refuses 478 = .ok (.bipush 21, 2) := by decide +kernel
theorem dL_refuses_480 : decode cL_refuses 480 = .ok (.iload_n 1, 1) := by decide +kernel
theorem dL_refuses_481 : decode cL_refuses 481 = .ok (.bipush 9, 2) := by decide +kernel
theorem dL_refuses_483 : decode cL_refuses 483 = .ok (.irem, 1) := by decide +kernel
theorem dL_refuses_484 : decode cL_refuses 484 = .ok (.iadd, 1) := by decide +kernel
theorem dL_refuses_485 : decode cL_refuses 485 = .ok (.iconst 0, 1) := by decide +kernel
theorem dL_refuses_486 : decode cL_refuses 486 = .ok (.invokestatic 168, 3) := by decide +kernel
theorem dL_refuses_489 : decode cL_refuses 489 = .ok (.ldc 22, 2) := by decide +kernel
theorem dL_refuses_491 : decode cL_refuses 491 = .ok (.if_icmp .ne 295, 3) := by decide +kernel
theorem dL_refuses_494 : decode cL_refuses 494 = .ok (.aload_n 0, 1) := by decide +kernel
theorem dL_refuses_495 : decode cL_refuses 495 = .ok (.bipush 13, 2) := by decide +kernel
theorem dL_refuses_497 : decode cL_refuses 497 = .ok (.iconst 2, 1) := by decide +kernel
theorem dL_refuses_498 : decode cL_refuses 498 = .ok (.iload_n 1, 1) := by decide +kernel
theorem dL_refuses_499 : decode cL_refuses 499 = .ok (.iconst 2, 1) := by decide +kernel
theorem dL_refuses_500 : decode cL_refuses 500 = .ok (.irem, 1) := by decide +kernel
theorem dL_refuses_501 : decode cL_refuses 501 = .ok (.ifCond .ne 9, 3) := by decide +kernel
theorem dL_refuses_504 : decode cL_refuses 504 = .ok (.iload_n 1, 1) := by decide +kernel
theorem dL_refuses_505 : decode cL_refuses 505 = .ok (.iconst 4, 1) := by decide +kernel
theorem dL_refuses_506 : decode cL_refuses 506 = .ok (.irem, 1) := by decide +kernel
theorem dL_refuses_507 : decode cL_refuses 507 = .ok (.goto 10, 3) := by decide +kernel
theorem dL_refuses_510 : decode cL_refuses 510 = .ok (.bipush 100, 2) := by decide +kernel
theorem dL_refuses_512 : decode cL_refuses 512 = .ok (.iload_n 1, 1) := by decide +kernel
theorem dL_refuses_513 : decode cL_refuses 513 = .ok (.bipush 9, 2) := by decide +kernel
theorem dL_refuses_515 : decode cL_refuses 515 = .ok (.irem, 1) := by decide +kernel
theorem dL_refuses_516 : decode cL_refuses 516 = .ok (.iadd, 1) := by decide +kernel
theorem dL_refuses_517 : decode cL_refuses 517 = .ok (.iconst 0, 1) := by decide +kernel
theorem dL_refuses_518 : decode cL_refuses 518 = .ok (.invokestatic 168, 3) := by decide +kernel
theorem dL_refuses_521 : decode cL_refuses 521 = .ok (.ldc 22, 2) := by decide +kernel
theorem dL_refuses_523 : decode cL_refuses 523 = .ok (.if_icmp .ne 263, 3) := by decide +kernel
theorem dL_refuses_526 : decode cL_refuses 526 = .ok (.aload_n 0, 1) := by decide +kernel
theorem dL_refuses_527 : decode cL_refuses 527 = .ok (.bipush 13, 2) := by decide +kernel
theorem dL_refuses_529 : decode cL_refuses 529 = .ok (.iconst 3, 1) := by decide +kernel
theorem dL_refuses_530 : decode cL_refuses 530 = .ok (.iload_n 1, 1) := by decide +kernel
theorem dL_refuses_531 : decode cL_refuses 531 = .ok (.iconst 2, 1) := by decide +kernel
theorem dL_refuses_532 : decode cL_refuses 532 = .ok (.irem, 1) := by decide +kernel
theorem dL_refuses_533 : decode cL_refuses 533 = .ok (.ifCond .ne 7, 3) := by decide +kernel
theorem dL_refuses_536 : decode cL_refuses 536 = .ok (.iconst 0, 1) := by decide +kernel
theorem dL_refuses_537 : decode cL_refuses 537 = .ok (.goto 10, 3) := by decide +kernel
theorem dL_refuses_540 : decode cL_refuses 540 = .ok (.bipush 7, 2) := by decide +kernel
theorem dL_refuses_542 : decode cL_refuses 542 = .ok (.iload_n 1, 1) := by decide +kernel
theorem dL_refuses_543 : decode cL_refuses 543 = .ok (.bipush 9, 2) := by decide +kernel
theorem dL_refuses_545 : decode cL_refuses 545 = .ok (.irem, 1) := by decide +kernel
theorem dL_refuses_546 : decode cL_refuses 546 = .ok (.iadd, 1) := by decide +kernel
theorem dL_refuses_547 : decode cL_refuses 547 = .ok (.iconst 0, 1) := by decide +kernel
theorem dL_refuses_548 : decode cL_refuses 548 = .ok (.invokestatic 168, 3) := by decide +kernel
theorem dL_refuses_551 : decode cL_refuses 551 = .ok (.ldc 22, 2) := by decide +kernel
theorem dL_refuses_553 : decode cL_refuses 553 = .ok (.if_icmp .ne 233, 3) := by decide +kernel
theorem dL_refuses_556 : decode cL_refuses 556 = .ok (.aload_n 0, 1) := by decide +kernel
theorem dL_refuses_557 : decode cL_refuses 557 = .ok (.bipush 13, 2) := by decide +kernel
theorem dL_refuses_559 : decode cL_refuses 559 = .ok (.iconst 4, 1) := by decide +kernel
theorem dL_refuses_560 : decode cL_refuses 560 = .ok (.iload_n 1, 1) := by decide +kernel
theorem dL_refuses_561 : decode cL_refuses 561 = .ok (.bipush 9, 2) := by decide +kernel
theorem dL_refuses_563 : decode cL_refuses 563 = .ok (.irem, 1) := by decide +kernel
theorem dL_refuses_564 : decode cL_refuses 564 = .ok (.iadd, 1) := by decide +kernel
theorem dL_refuses_565 : decode cL_refuses 565 = .ok (.iconst 5, 1) := by decide +kernel
theorem dL_refuses_566 : decode cL_refuses 566 = .ok (.iconst 0, 1) := by decide +kernel
theorem dL_refuses_567 : decode cL_refuses 567 = .ok (.invokestatic 168, 3) := by decide +kernel
theorem dL_refuses_570 : decode cL_refuses 570 = .ok (.ldc 22, 2) := by decide +kernel
theorem dL_refuses_572 : decode cL_refuses 572 = .ok (.if_icmp .ne 214, 3) := by decide +kernel
theorem dL_refuses_575 : decode cL_refuses 575 = .ok (.aload_n 0, 1) := by decide +kernel
theorem dL_refuses_576 : decode cL_refuses 576 = .ok (.bipush 15, 2) := by decide +kernel
theorem dL_refuses_578 : decode cL_refuses 578 = .ok (.iload_n 3, 1) := by decide +kernel
theorem dL_refuses_579 : decode cL_refuses 579 = .ok (.iconst 0, 1) := by decide +kernel
theorem dL_refuses_580 : decode cL_refuses 580 = .ok (.iconst 0, 1) := by decide +kernel
theorem dL_refuses_581 : decode cL_refuses 581 = .ok (.invokestatic 168, 3) := by decide +kernel
theorem dL_refuses_584 : decode cL_refuses 584 = .ok (.ldc 15, 2) := by decide +kernel
theorem dL_refuses_586 : decode cL_refuses 586 = .ok (.if_icmp .ne 200, 3) := by decide +kernel
theorem dL_refuses_589 : decode cL_refuses 589 = .ok (.aload_n 0, 1) := by decide +kernel
theorem dL_refuses_590 : decode cL_refuses 590 = .ok (.bipush 16, 2) := by decide +kernel
theorem dL_refuses_592 : decode cL_refuses 592 = .ok (.iload_n 3, 1) := by decide +kernel
theorem dL_refuses_593 : decode cL_refuses 593 = .ok (.iload 4, 2) := by decide +kernel
theorem dL_refuses_595 : decode cL_refuses 595 = .ok (.iconst 0, 1) := by decide +kernel
theorem dL_refuses_596 : decode cL_refuses 596 = .ok (.invokestatic 168, 3) := by decide +kernel
theorem dL_refuses_599 : decode cL_refuses 599 = .ok (.ldc 15, 2) := by decide +kernel
theorem dL_refuses_601 : decode cL_refuses 601 = .ok (.if_icmp .ne 185, 3) := by decide +kernel
theorem dL_refuses_604 : decode cL_refuses 604 = .ok (.aload_n 0, 1) := by decide +kernel
theorem dL_refuses_605 : decode cL_refuses 605 = .ok (.bipush 16, 2) := by decide +kernel
theorem dL_refuses_607 : decode cL_refuses 607 = .ok (.iload_n 1, 1) := by decide +kernel
theorem dL_refuses_608 : decode cL_refuses 608 = .ok (.iload_n 2, 1) := by decide +kernel
theorem dL_refuses_609 : decode cL_refuses 609 = .ok (.irem, 1) := by decide +kernel
theorem dL_refuses_610 : decode cL_refuses 610 = .ok (.iload 4, 2) := by decide +kernel
theorem dL_refuses_612 : decode cL_refuses 612 = .ok (.iconst 0, 1) := by decide +kernel
theorem dL_refuses_613 : decode cL_refuses 613 = .ok (.invokestatic 168, 3) := by decide +kernel
theorem dL_refuses_616 : decode cL_refuses 616 = .ok (.ldc 22, 2) := by decide +kernel
theorem dL_refuses_618 : decode cL_refuses 618 = .ok (.if_icmp .ne 168, 3) := by decide +kernel
theorem dL_refuses_621 : decode cL_refuses 621 = .ok (.aload_n 0, 1) := by decide +kernel
theorem dL_refuses_622 : decode cL_refuses 622 = .ok (.bipush 17, 2) := by decide +kernel
theorem dL_refuses_624 : decode cL_refuses 624 = .ok (.iload_n 3, 1) := by decide +kernel
theorem dL_refuses_625 : decode cL_refuses 625 = .ok (.bipush 9, 2) := by decide +kernel
theorem dL_refuses_627 : decode cL_refuses 627 = .ok (.iconst 0, 1) := by decide +kernel
theorem dL_refuses_628 : decode cL_refuses 628 = .ok (.invokestatic 168, 3) := by decide +kernel
theorem dL_refuses_631 : decode cL_refuses 631 = .ok (.ldc 15, 2) := by decide +kernel
theorem dL_refuses_633 : decode cL_refuses 633 = .ok (.if_icmp .ne 153, 3) := by decide +kernel
theorem dL_refuses_636 : decode cL_refuses 636 = .ok (.aload_n 0, 1) := by decide +kernel
theorem dL_refuses_637 : decode cL_refuses 637 = .ok (.bipush 17, 2) := by decide +kernel
theorem dL_refuses_639 : decode cL_refuses 639 = .ok (.iconst 0, 1) := by decide +kernel
theorem dL_refuses_640 : decode cL_refuses 640 = .ok (.iconst 4, 1) := by decide +kernel
theorem dL_refuses_641 : decode cL_refuses 641 = .ok (.iload_n 1, 1) := by decide +kernel
theorem dL_refuses_642 : decode cL_refuses 642 = .ok (.bipush 9, 2) := by decide +kernel
theorem dL_refuses_644 : decode cL_refuses 644 = .ok (.irem, 1) := by decide +kernel
theorem dL_refuses_645 : decode cL_refuses 645 = .ok (.iadd, 1) := by decide +kernel
theorem dL_refuses_646 : decode cL_refuses 646 = .ok (.iconst 0, 1) := by decide +kernel
theorem dL_refuses_647 : decode cL_refuses 647 = .ok (.invokestatic 168, 3) := by decide +kernel
theorem dL_refuses_650 : decode cL_refuses 650 = .ok (.ldc 22, 2) := by decide +kernel
theorem dL_refuses_652 : decode cL_refuses 652 = .ok (.if_icmp .ne 134, 3) := by decide +kernel
theorem dL_refuses_655 : decode cL_refuses 655 = .ok (.aload_n 0, 1) := by decide +kernel
theorem dL_refuses_656 : decode cL_refuses 656 = .ok (.bipush 18, 2) := by decide +kernel
theorem dL_refuses_658 : decode cL_refuses 658 = .ok (.bipush 9, 2) := by decide +kernel
theorem dL_refuses_660 : decode cL_refuses 660 = .ok (.iload_n 3, 1) := by decide +kernel
theorem dL_refuses_661 : decode cL_refuses 661 = .ok (.iconst 0, 1) := by decide +kernel
theorem dL_refuses_662 : decode cL_refuses 662 = .ok (.invokestatic 168, 3) := by decide +kernel
theorem dL_refuses_665 : decode cL_refuses 665 = .ok (.ldc 15, 2) := by decide +kernel
theorem dL_refuses_667 : decode cL_refuses 667 = .ok (.if_icmp .ne 119, 3) := by decide +kernel
theorem dL_refuses_670 : decode cL_refuses 670 = .ok (.aload_n 0, 1) := by decide +kernel
theorem dL_refuses_671 : decode cL_refuses 671 = .ok (.bipush 18, 2) := by decide +kernel
theorem dL_refuses_673 : decode cL_refuses 673 = .ok (.iload_n 1, 1) := by decide +kernel
theorem dL_refuses_674 : decode cL_refuses 674 = .ok (.iconst 2, 1) := by decide +kernel
theorem dL_refuses_675 : decode cL_refuses 675 = .ok (.irem, 1) := by decide +kernel
theorem dL_refuses_676 : decode cL_refuses 676 = .ok (.ifCond .ne 7, 3) := by decide +kernel
theorem dL_refuses_679 : decode cL_refuses 679 = .ok (.iconst 0, 1) := by decide +kernel
theorem dL_refuses_680 : decode cL_refuses 680 = .ok (.goto 9, 3) := by decide +kernel
theorem dL_refuses_683 : decode cL_refuses 683 = .ok (.iconst 3, 1) := by decide +kernel
theorem dL_refuses_684 : decode cL_refuses 684 = .ok (.iload_n 1, 1) := by decide +kernel
theorem dL_refuses_685 : decode cL_refuses 685 = .ok (.bipush 9, 2) := by decide +kernel
theorem dL_refuses_687 : decode cL_refuses 687 = .ok (.irem, 1) := by decide +kernel
theorem dL_refuses_688 : decode cL_refuses 688 = .ok (.iadd, 1) := by decide +kernel
theorem dL_refuses_689 : decode cL_refuses 689 = .ok (.iconst 0, 1) := by decide +kernel
theorem dL_refuses_690 : decode cL_refuses 690 = .ok (.iconst 0, 1) := by decide +kernel
theorem dL_refuses_691 : decode cL_refuses 691 = .ok (.invokestatic 168, 3) := by decide +kernel
theorem dL_refuses_694 : decode cL_refuses 694 = .ok (.ldc 22, 2) := by decide +kernel
theorem dL_refuses_696 : decode cL_refuses 696 = .ok (.if_icmp .ne 90, 3) := by decide +kernel
theorem dL_refuses_699 : decode cL_refuses 699 = .ok (.aload_n 0, 1) := by decide +kernel
theorem dL_refuses_700 : decode cL_refuses 700 = .ok (.bipush 19, 2) := by decide +kernel
theorem dL_refuses_702 : decode cL_refuses 702 = .ok (.iconst 2, 1) := by decide +kernel
theorem dL_refuses_703 : decode cL_refuses 703 = .ok (.iload_n 1, 1) := by decide +kernel
theorem dL_refuses_704 : decode cL_refuses 704 = .ok (.bipush 50, 2) := by decide +kernel
theorem dL_refuses_706 : decode cL_refuses 706 = .ok (.irem, 1) := by decide +kernel
theorem dL_refuses_707 : decode cL_refuses 707 = .ok (.iadd, 1) := by decide +kernel
theorem dL_refuses_708 : decode cL_refuses 708 = .ok (.iconst 0, 1) := by decide +kernel
theorem dL_refuses_709 : decode cL_refuses 709 = .ok (.iconst 0, 1) := by decide +kernel
theorem dL_refuses_710 : decode cL_refuses 710 = .ok (.invokestatic 168, 3) := by decide +kernel
theorem dL_refuses_713 : decode cL_refuses 713 = .ok (.ldc 15, 2) := by decide +kernel
theorem dL_refuses_715 : decode cL_refuses 715 = .ok (.if_icmp .ne 71, 3) := by decide +kernel
theorem dL_refuses_718 : decode cL_refuses 718 = .ok (.aload_n 0, 1) := by decide +kernel
theorem dL_refuses_719 : decode cL_refuses 719 = .ok (.bipush 20, 2) := by decide +kernel
theorem dL_refuses_721 : decode cL_refuses 721 = .ok (.iconst (-1), 1) := by decide +kernel
theorem dL_refuses_722 : decode cL_refuses 722 = .ok (.iload_n 1, 1) := by decide +kernel
theorem dL_refuses_723 : decode cL_refuses 723 = .ok (.bipush 9, 2) := by decide +kernel
theorem dL_refuses_725 : decode cL_refuses 725 = .ok (.irem, 1) := by decide +kernel
theorem dL_refuses_726 : decode cL_refuses 726 = .ok (.isub, 1) := by decide +kernel
theorem dL_refuses_727 : decode cL_refuses 727 = .ok (.iconst 0, 1) := by decide +kernel
theorem dL_refuses_728 : decode cL_refuses 728 = .ok (.iconst 0, 1) := by decide +kernel
theorem dL_refuses_729 : decode cL_refuses 729 = .ok (.invokestatic 168, 3) := by decide +kernel
theorem dL_refuses_732 : decode cL_refuses 732 = .ok (.ldc 15, 2) := by decide +kernel
theorem dL_refuses_734 : decode cL_refuses 734 = .ok (.if_icmp .ne 52, 3) := by decide +kernel
theorem dL_refuses_737 : decode cL_refuses 737 = .ok (.aload_n 0, 1) := by decide +kernel
theorem dL_refuses_738 : decode cL_refuses 738 = .ok (.iconst 0, 1) := by decide +kernel
theorem dL_refuses_739 : decode cL_refuses 739 = .ok (.lconst 0, 1) := by decide +kernel
theorem dL_refuses_740 : decode cL_refuses 740 = .ok (.invokestatic 176, 3) := by decide +kernel
theorem dL_refuses_743 : decode cL_refuses 743 = .ok (.ldc 22, 2) := by decide +kernel
theorem dL_refuses_745 : decode cL_refuses 745 = .ok (.if_icmp .ne 41, 3) := by decide +kernel
theorem dL_refuses_748 : decode cL_refuses 748 = .ok (.aload_n 0, 1) := by decide +kernel
theorem dL_refuses_749 : decode cL_refuses 749 = .ok (.iconst 1, 1) := by decide +kernel
theorem dL_refuses_750 : decode cL_refuses 750 = .ok (.ldc2_w 180, 3) := by decide +kernel
theorem dL_refuses_753 : decode cL_refuses 753 = .ok (.iload_n 1, 1) := by decide +kernel
theorem dL_refuses_754 : decode cL_refuses 754 = .ok (.i2l, 1) := by decide +kernel
theorem dL_refuses_755 : decode cL_refuses 755 = .ok (.ladd, 1) := by decide +kernel
theorem dL_refuses_756 : decode cL_refuses 756 = .ok (.invokestatic 176, 3) := by decide +kernel
theorem dL_refuses_759 : decode cL_refuses 759 = .ok (.ldc 22, 2) := by decide +kernel
theorem dL_refuses_761 : decode cL_refuses 761 = .ok (.if_icmp .ne 25, 3) := by decide +kernel
theorem dL_refuses_764 : decode cL_refuses 764 = .ok (.aload_n 0, 1) := by decide +kernel
theorem dL_refuses_765 : decode cL_refuses 765 = .ok (.iload_n 1, 1) := by decide +kernel
theorem dL_refuses_766 : decode cL_refuses 766 = .ok (.i2l, 1) := by decide +kernel
theorem dL_refuses_767 : decode cL_refuses 767 = .ok (.bipush 61, 2) := by decide +kernel
theorem dL_refuses_769 : decode cL_refuses 769 = .ok (.iload_n 1, 1) := by decide +kernel
theorem dL_refuses_770 : decode cL_refuses 770 = .ok (.bipush 9, 2) := by decide +kernel
theorem dL_refuses_772 : decode cL_refuses 772 = .ok (.irem, 1) := by decide +kernel
theorem dL_refuses_773 : decode cL_refuses 773 = .ok (.iadd, 1) := by decide +kernel
theorem dL_refuses_774 : decode cL_refuses 774 = .ok (.invokestatic 182, 3) := by decide +kernel
theorem dL_refuses_777 : decode cL_refuses 777 = .ok (.ldc 22, 2) := by decide +kernel
theorem dL_refuses_779 : decode cL_refuses 779 = .ok (.if_icmp .ne 7, 3) := by decide +kernel
theorem dL_refuses_782 : decode cL_refuses 782 = .ok (.iconst 1, 1) := by decide +kernel
theorem dL_refuses_783 : decode cL_refuses 783 = .ok (.goto 4, 3) := by decide +kernel
theorem dL_refuses_786 : decode cL_refuses 786 = .ok (.iconst 0, 1) := by decide +kernel
theorem dL_refuses_787 : decode cL_refuses 787 = .ok (.ireturn, 1) := by decide +kernel
theorem dL_sound_0 : decode cL_sound 0 = .ok (.aload_n 0, 1) := by decide +kernel
theorem dL_sound_1 : decode cL_sound 1 = .ok (.iconst 2, 1) := by decide +kernel
theorem dL_sound_2 : decode cL_sound 2 = .ok (.iconst 0, 1) := by decide +kernel
theorem dL_sound_3 : decode cL_sound 3 = .ok (.iconst 0, 1) := by decide +kernel
theorem dL_sound_4 : decode cL_sound 4 = .ok (.iconst 0, 1) := by decide +kernel
theorem dL_sound_5 : decode cL_sound 5 = .ok (.invokestatic 168, 3) := by decide +kernel
theorem dL_sound_8 : decode cL_sound 8 = .ok (.istore_n 1, 1) := by decide +kernel
theorem dL_sound_9 : decode cL_sound 9 = .ok (.aload_n 0, 1) := by decide +kernel
theorem dL_sound_10 : decode cL_sound 10 = .ok (.iconst 2, 1) := by decide +kernel
theorem dL_sound_11 : decode cL_sound 11 = .ok (.iconst 1, 1) := by decide +kernel
theorem dL_sound_12 : decode cL_sound 12 = .ok (.iconst 0, 1) := by decide +kernel
theorem dL_sound_13 : decode cL_sound 13 = .ok (.iconst 0, 1) := by decide +kernel
theorem dL_sound_14 : decode cL_sound 14 = .ok (.invokestatic 168, 3) := by decide +kernel
theorem dL_sound_17 : decode cL_sound 17 = .ok (.istore_n 2, 1) := by decide +kernel
theorem dL_sound_18 : decode cL_sound 18 = .ok (.iconst 0, 1) := by decide +kernel
theorem dL_sound_19 : decode cL_sound 19 = .ok (.istore_n 3, 1) := by decide +kernel
theorem dL_sound_20 : decode cL_sound 20 = .ok (.iconst 0, 1) := by decide +kernel
theorem dL_sound_21 : decode cL_sound 21 = .ok (.istore 4, 2) := by decide +kernel
theorem dL_sound_23 : decode cL_sound 23 = .ok (.iconst 0, 1) := by decide +kernel
theorem dL_sound_24 : decode cL_sound 24 = .ok (.istore 5, 2) := by decide +kernel
theorem dL_sound_26 : decode cL_sound 26 = .ok (.iconst 0, 1) := by decide +kernel
theorem dL_sound_27 : decode cL_sound 27 = .ok (.istore 6, 2) := by decide +kernel
theorem dL_sound_29 : decode cL_sound 29 = .ok (.aload_n 0, 1) := by decide +kernel
theorem dL_sound_30 : decode cL_sound 30 = .ok (.iconst 2, 1) := by decide +kernel
theorem dL_sound_31 : decode cL_sound 31 = .ok (.iconst 2, 1) := by decide +kernel
theorem dL_sound_32 : decode cL_sound 32 = .ok (.iconst 0, 1) := by decide +kernel
theorem dL_sound_33 : decode cL_sound 33 = .ok (.iconst 0, 1) := by decide +kernel
theorem dL_sound_34 : decode cL_sound 34 = .ok (.invokestatic 168, 3) := by decide +kernel
theorem dL_sound_37 : decode cL_sound 37 = .ok (.bipush 8, 2) := by decide +kernel
theorem dL_sound_39 : decode cL_sound 39 = .ok (.if_icmp .gt 7, 3) := by decide +kernel
theorem dL_sound_42 : decode cL_sound 42 = .ok (.iconst 1, 1) := by decide +kernel
theorem dL_sound_43 : decode cL_sound 43 = .ok (.goto 4, 3) := by decide +kernel
theorem dL_sound_46 : decode cL_sound 46 = .ok (.iconst 0, 1) := by decide +kernel
theorem dL_sound_47 : decode cL_sound 47 = .ok (.istore 7, 2) := by decide +kernel
theorem dL_sound_49 : decode cL_sound 49 = .ok (.iconst 0, 1) := by decide +kernel
theorem dL_sound_50 : decode cL_sound 50 = .ok (.istore 8, 2) := by decide +kernel
theorem dL_sound_52 : decode cL_sound 52 = .ok (.iload 8, 2) := by decide +kernel
theorem dL_sound_54 : decode cL_sound 54 = .ok (.iload_n 1, 1) := by decide +kernel
theorem dL_sound_55 : decode cL_sound 55 = .ok (.if_icmp .ge 473, 3) := by decide +kernel
theorem dL_sound_58 : decode cL_sound 58 = .ok (.iload 7, 2) := by decide +kernel
theorem dL_sound_60 : decode cL_sound 60 = .ok (.ifCond .eq 468, 3) := by decide +kernel
theorem dL_sound_63 : decode cL_sound 63 = .ok (.aload_n 0, 1) := by decide +kernel
theorem dL_sound_64 : decode cL_sound 64 = .ok (.iconst 3, 1) := by decide +kernel
theorem dL_sound_65 : decode cL_sound 65 = .ok (.iload 8, 2) := by decide +kernel
theorem dL_sound_67 : decode cL_sound 67 = .ok (.iconst 1, 1) := by decide +kernel
theorem dL_sound_68 : decode cL_sound 68 = .ok (.iconst 0, 1) := by decide +kernel
theorem dL_sound_69 : decode cL_sound 69 = .ok (.invokestatic 168, 3) := by decide +kernel
theorem dL_sound_72 : decode cL_sound 72 = .ok (.istore 9, 2) := by decide +kernel
theorem dL_sound_74 : decode cL_sound 74 = .ok (.iconst 0, 1) := by decide +kernel
theorem dL_sound_75 : decode cL_sound 75 = .ok (.istore 10, 2) := by decide +kernel
theorem dL_sound_77 : decode cL_sound 77 = .ok (.iconst 0, 1) := by decide +kernel
theorem dL_sound_78 : decode cL_sound 78 = .ok (.istore 11, 2) := by decide +kernel
theorem dL_sound_80 : decode cL_sound 80 = .ok (.iconst 0, 1) := by decide +kernel
theorem dL_sound_81 : decode cL_sound 81 = .ok (.istore 12, 2) := by decide +kernel
theorem dL_sound_83 : decode cL_sound 83 = .ok (.iconst 0, 1) := by decide +kernel
theorem dL_sound_84 : decode cL_sound 84 = .ok (.istore 13, 2) := by decide +kernel
theorem dL_sound_86 : decode cL_sound 86 = .ok (.iload 13, 2) := by decide +kernel
theorem dL_sound_88 : decode cL_sound 88 = .ok (.iload 9, 2) := by decide +kernel
theorem dL_sound_90 : decode cL_sound 90 = .ok (.if_icmp .ge 127, 3) := by decide +kernel
theorem dL_sound_93 : decode cL_sound 93 = .ok (.iload 7, 2) := by decide +kernel
theorem dL_sound_95 : decode cL_sound 95 = .ok (.ifCond .eq 122, 3) := by decide +kernel
theorem dL_sound_98 : decode cL_sound 98 = .ok (.aload_n 0, 1) := by decide +kernel
theorem dL_sound_99 : decode cL_sound 99 = .ok (.iconst 5, 1) := by decide +kernel
theorem dL_sound_100 : decode cL_sound 100 = .ok (.iload 8, 2) := by decide +kernel
theorem dL_sound_102 : decode cL_sound 102 = .ok (.iload 13, 2) := by decide +kernel
theorem dL_sound_104 : decode cL_sound 104 = .ok (.iconst 1, 1) := by decide +kernel
theorem dL_sound_105 : decode cL_sound 105 = .ok (.invokestatic 168, 3) := by decide +kernel
theorem dL_sound_108 : decode cL_sound 108 = .ok (.istore 14, 2) := by decide +kernel
theorem dL_sound_110 : decode cL_sound 110 = .ok (.iload 10, 2) := by decide +kernel
theorem dL_sound_112 : decode cL_sound 112 = .ok (.iload 14, 2) := by decide +kernel
theorem dL_sound_114 : decode cL_sound 114 = .ok (.iload_n 2, 1) := by decide +kernel
theorem dL_sound_115 : decode cL_sound 115 = .ok (.if_icmp .le 16, 3) := by decide +kernel
theorem dL_sound_118 : decode cL_sound 118 = .ok (.aload_n 0, 1) := by decide +kernel
theorem dL_sound_119 : decode cL_sound 119 = .ok (.iconst 5, 1) := by decide +kernel
theorem dL_sound_120 : decode cL_sound 120 = .ok (.iload 8, 2) := by decide +kernel
theorem dL_sound_122 : decode cL_sound 122 = .ok (.iload 13, 2) := by decide +kernel
theorem dL_sound_124 : decode cL_sound 124 = .ok (.iconst 0, 1) := by decide +kernel
theorem dL_sound_125 : decode cL_sound 125 = .ok (.invokestatic 168, 3) := by decide +kernel
theorem dL_sound_128 : decode cL_sound 128 = .ok (.goto 4, 3) := by decide +kernel
theorem dL_sound_131 : decode cL_sound 131 = .ok (.iconst 0, 1) := by decide +kernel
theorem dL_sound_132 : decode cL_sound 132 = .ok (.iadd, 1) := by decide +kernel
theorem dL_sound_133 : decode cL_sound 133 = .ok (.istore 10, 2) := by decide +kernel
theorem dL_sound_135 : decode cL_sound 135 = .ok (.iload 11, 2) := by decide +kernel
theorem dL_sound_137 : decode cL_sound 137 = .ok (.iload 14, 2) := by decide +kernel
theorem dL_sound_139 : decode cL_sound 139 = .ok (.iload_n 2, 1) := by decide +kernel
theorem dL_sound_140 : decode cL_sound 140 = .ok (.if_icmp .le 7, 3) := by decide +kernel
theorem dL_sound_143 : decode cL_sound 143 = .ok (.iconst 1, 1) := by decide +kernel
theorem dL_sound_144 : decode cL_sound 144 = .ok (.goto 4, 3) := by decide +kernel
theorem dL_sound_147 : decode cL_sound 147 = .ok (.iconst 0, 1) := by decide +kernel
theorem dL_sound_148 : decode cL_sound 148 = .ok (.iadd, 1) := by decide +kernel
theorem dL_sound_149 : decode cL_sound 149 = .ok (.istore 11, 2) := by decide +kernel
theorem dL_sound_151 : decode cL_sound 151 = .ok (.iload 14, 2) := by decide +kernel
theorem dL_sound_153 : decode cL_sound 153 = .ok (.iload 12, 2) := by decide +kernel
theorem dL_sound_155 : decode cL_sound 155 = .ok (.if_icmp .lt 49, 3) := by decide +kernel
theorem dL_sound_158 : decode cL_sound 158 = .ok (.aload_n 0, 1) := by decide +kernel
theorem dL_sound_159 : decode cL_sound 159 = .ok (.iconst 5, 1) := by decide +kernel
theorem dL_sound_160 : decode cL_sound 160 = .ok (.iload 8, 2) := by decide +kernel
theorem dL_sound_162 : decode cL_sound 162 = .ok (.iload 13, 2) := by decide +kernel
theorem dL_sound_164 : decode cL_sound 164 = .ok (.iconst 0, 1) := by decide +kernel
theorem dL_sound_165 : decode cL_sound 165 = .ok (.invokestatic 168, 3) := by decide +kernel
theorem dL_sound_168 : decode cL_sound 168 = .ok (.ifCond .le 36, 3) := by decide +kernel
theorem dL_sound_171 : decode cL_sound 171 = .ok (.aload_n 0, 1) := by decide +kernel
theorem dL_sound_172 : decode cL_sound 172 = .ok (.iconst 5, 1) := by decide +kernel
theorem dL_sound_173 : decode cL_sound 173 = .ok (.iload 8, 2) := by decide +kernel
theorem dL_sound_175 : decode cL_sound 175 = .ok (.iload 13, 2) := by decide +kernel
theorem dL_sound_177 : decode cL_sound 177 = .ok (.iconst 0, 1) := by decide +kernel
theorem dL_sound_178 : decode cL_sound 178 = .ok (.invokestatic 168, 3) := by decide +kernel
theorem dL_sound_181 : decode cL_sound 181 = .ok (.bipush 100, 2) := by decide +kernel
theorem dL_sound_183 : decode cL_sound 183 = .ok (.if_icmp .ge 21, 3) := by decide +kernel
theorem dL_sound_186 : decode cL_sound 186 = .ok (.iload 14, 2) := by decide +kernel
theorem dL_sound_188 : decode cL_sound 188 = .ok (.iload_n 2, 1) := by decide +kernel
theorem dL_sound_189 : decode cL_sound 189 = .ok (.bipush 9, 2) := by decide +kernel
theorem dL_sound_191 : decode cL_sound 191 = .ok (.iadd, 1) := by decide +kernel
theorem dL_sound_192 : decode cL_sound 192 = .ok (.if_icmp .gt 12, 3) := by decide +kernel
theorem dL_sound_195 : decode cL_sound 195 = .ok (.iload 14, 2) := by decide +kernel
theorem dL_sound_197 : decode cL_sound 197 = .ok (.ifCond .le 7, 3) := by decide +kernel
theorem dL_sound_200 : decode cL_sound 200 = .ok (.iconst 1, 1) := by decide +kernel
theorem dL_sound_201 : decode cL_sound 201 = .ok (.goto 4, 3) := by decide +kernel
theorem dL_sound_204 : decode cL_sound 204 = .ok (.iconst 0, 1) := by decide +kernel
theorem dL_sound_205 : decode cL_sound 205 = .ok (.istore 7, 2) := by decide +kernel
theorem dL_sound_207 : decode cL_sound 207 = .ok (.iload 14, 2) := by decide +kernel
theorem dL_sound_209 : decode cL_sound 209 = .ok (.istore 12, 2) := by decide +kernel
theorem dL_sound_211 : decode cL_sound 211 = .ok (.iinc 13 1, 3) := by decide +kernel
theorem dL_sound_214 : decode cL_sound 214 = .ok (.goto (-128), 3) := by decide +kernel
theorem dL_sound_217 : decode cL_sound 217 = .ok (.aload_n 0, 1) := by decide +kernel
theorem dL_sound_218 : decode cL_sound 218 = .ok (.iconst 4, 1) := by decide +kernel
theorem dL_sound_219 : decode cL_sound 219 = .ok (.iload 8, 2) := by decide +kernel
theorem dL_sound_221 : decode cL_sound 221 = .ok (.iconst 2, 1) := by decide +kernel
theorem dL_sound_222 : decode cL_sound 222 = .ok (.iconst 0, 1) := by decide +kernel
theorem dL_sound_223 : decode cL_sound 223 = .ok (.invokestatic 168, 3) := by decide +kernel
theorem dL_sound_226 : decode cL_sound 226 = .ok (.istore 13, 2) := by decide +kernel
theorem dL_sound_228 : decode cL_sound 228 = .ok (.aload_n 0, 1) := by decide +kernel
theorem dL_sound_229 : decode cL_sound 229 = .ok (.iconst 4, 1) := by decide +kernel
theorem dL_sound_230 : decode cL_sound 230 = .ok (.iload 8, 2) := by decide +kernel
theorem dL_sound_232 : decode cL_sound 232 = .ok (.iconst 3, 1) := by decide +kernel
theorem dL_sound_233 : decode cL_sound 233 = .ok (.iconst 0, 1) := by decide +kernel
theorem dL_sound_234 : decode cL_sound 234 = .ok (.invokestatic 168, 3) := by decide +kernel
theorem dL_sound_237 : decode cL_sound 237 = .ok (.istore 14, 2) := by decide +kernel
theorem dL_sound_239 : decode cL_sound 239 = .ok (.iload_n 3, 1) := by decide +kernel
theorem dL_sound_240 : decode cL_sound 240 = .ok (.aload_n 0, 1) := by decide +kernel
theorem dL_sound_241 : decode cL_sound 241 = .ok (.iconst 3, 1) := by decide +kernel
theorem dL_sound_242 : decode cL_sound 242 = .ok (.iload 8, 2) := by decide +kernel
theorem dL_sound_244 : decode cL_sound 244 = .ok (.iconst 0, 1) := by decide +kernel
theorem dL_sound_245 : decode cL_sound 245 = .ok (.iconst 0, 1) := by decide +kernel
theorem dL_sound_246 : decode cL_sound 246 = .ok (.invokestatic 168, 3) := by decide +kernel
theorem dL_sound_249 : decode cL_sound 249 = .ok (.iadd, 1) := by decide +kernel
theorem dL_sound_250 : decode cL_sound 250 = .ok (.istore_n 3, 1) := by decide +kernel
theorem dL_sound_251 : decode cL_sound 251 = .ok (.iload 4, 2) := by decide +kernel
theorem dL_sound_253 : decode cL_sound 253 = .ok (.iload 9, 2) := by decide +kernel
theorem dL_sound_255 : decode cL_sound 255 = .ok (.iadd, 1) := by decide +kernel
theorem dL_sound_256 : decode cL_sound 256 = .ok (.istore 4, 2) := by decide +kernel
theorem dL_sound_258 : decode cL_sound 258 = .ok (.iload 5, 2) := by decide +kernel
theorem dL_sound_260 : decode cL_sound 260 = .ok (.aload_n 0, 1) := by decide +kernel
theorem dL_sound_261 : decode cL_sound 261 = .ok (.iconst 3, 1) := by decide +kernel
theorem dL_sound_262 : decode cL_sound 262 = .ok (.iload 8, 2) := by decide +kernel
theorem dL_sound_264 : decode cL_sound 264 = .ok (.iconst 4, 1) := by decide +kernel
theorem dL_sound_265 : decode cL_sound 265 = .ok (.iconst 0, 1) := by decide +kernel
theorem dL_sound_266 : decode cL_sound 266 = .ok (.invokestatic 168, 3) := by decide +kernel
theorem dL_sound_269 : decode cL_sound 269 = .ok (.iadd, 1) := by decide +kernel
theorem dL_sound_270 : decode cL_sound 270 = .ok (.istore 5, 2) := by decide +kernel
theorem dL_sound_272 : decode cL_sound 272 = .ok (.iload 6, 2) := by decide +kernel
theorem dL_sound_274 : decode cL_sound 274 = .ok (.aload_n 0, 1) := by decide +kernel
theorem dL_sound_275 : decode cL_sound 275 = .ok (.iconst 4, 1) := by decide +kernel
theorem dL_sound_276 : decode cL_sound 276 = .ok (.iload 8, 2) := by decide +kernel
theorem dL_sound_278 : decode cL_sound 278 = .ok (.iconst 0, 1) := by decide +kernel
theorem dL_sound_279 : decode cL_sound 279 = .ok (.iconst 0, 1) := by decide +kernel
theorem dL_sound_280 : decode cL_sound 280 = .ok (.invokestatic 168, 3) := by decide +kernel
theorem dL_sound_283 : decode cL_sound 283 = .ok (.iadd, 1) := by decide +kernel
theorem dL_sound_284 : decode cL_sound 284 = .ok (.istore 6, 2) := by decide +kernel
theorem dL_sound_286 : decode cL_sound 286 = .ok (.iload 7, 2) := by decide +kernel
theorem dL_sound_288 : decode cL_sound 288 = .ok (.ifCond .eq 231, 3) := by decide +kernel
theorem dL_sound_291 : decode cL_sound 291 = .ok (.aload_n 0, 1) := by decide +kernel
theorem dL_sound_292 : decode cL_sound 292 = .ok (.iconst 3, 1) := by decide +kernel
theorem dL_sound_293 : decode cL_sound 293 = .ok (.iload 8, 2) := by decide +kernel
theorem dL_sound_295 : decode cL_sound 295 = .ok (.iconst 3, 1) := by decide +kernel
theorem dL_sound_296 : decode cL_sound 296 = .ok (.iconst 0, 1) := by decide +kernel
theorem dL_sound_297 : decode cL_sound 297 = .ok (.invokestatic 168, 3) := by decide +kernel
theorem dL_sound_300 : decode cL_sound 300 = .ok (.aload_n 0, 1) := by decide +kernel
theorem dL_sound_301 : decode cL_sound 301 = .ok (.iconst 3, 1) := by decide +kernel
theorem dL_sound_302 : decode cL_sound 302 = .ok (.iload 8, 2) := by decide +kernel
theorem dL_sound_304 : decode cL_sound 304 = .ok (.iconst 0, 1) := by decide +kernel
theorem dL_sound_305 : decode cL_sound 305 = .ok (.iconst 0, 1) := by decide +kernel
theorem dL_sound_306 : decode cL_sound 306 = .ok (.invokestatic 168, 3) := by decide +kernel
theorem dL_sound_309 : decode cL_sound 309 = .ok (.iload 10, 2) := by decide +kernel
theorem dL_sound_311 : decode cL_sound 311 = .ok (.iadd, 1) := by decide +kernel
theorem dL_sound_312 : decode cL_sound 312 = .ok (.aload_n 0, 1) := by decide +kernel
theorem dL_sound_313 : decode cL_sound 313 = .ok (.iconst 4, 1) := by decide +kernel
theorem dL_sound_314 : decode cL_sound 314 = .ok (.iload 8, 2) := by decide +kernel
theorem dL_sound_316 : decode cL_sound 316 = .ok (.iconst 0, 1) := by decide +kernel
theorem dL_sound_317 : decode cL_sound 317 = .ok (.iconst 0, 1) := by decide +kernel
theorem dL_sound_318 : decode cL_sound 318 = .ok (.invokestatic 168, 3) := by decide +kernel
theorem dL_sound_321 : decode cL_sound 321 = .ok (.iadd, 1) := by decide +kernel
theorem dL_sound_322 : decode cL_sound 322 = .ok (.if_icmp .ne 197, 3) := by decide +kernel
theorem dL_sound_325 : decode cL_sound 325 = .ok (.aload_n 0, 1) := by decide +kernel
theorem dL_sound_326 : decode cL_sound 326 = .ok (.iconst 3, 1) := by decide +kernel
theorem dL_sound_327 : decode cL_sound 327 = .ok (.iload 8, 2) := by decide +kernel
theorem dL_sound_329 : decode cL_sound 329 = .ok (.iconst 4, 1) := by decide +kernel
theorem dL_sound_330 : decode cL_sound 330 = .ok (.iconst 0, 1) := by decide +kernel
theorem dL_sound_331 : decode cL_sound 331 = .ok (.invokestatic 168, 3) := by decide +kernel
theorem dL_sound_334 : decode cL_sound 334 = .ok (.aload_n 0, 1) := by decide +kernel
theorem dL_sound_335 : decode cL_sound 335 = .ok (.iconst 3, 1) := by decide +kernel
theorem dL_sound_336 : decode cL_sound 336 = .ok (.iload 8, 2) := by decide +kernel
theorem dL_sound_338 : decode cL_sound 338 = .ok (.bipush 6, 2) := by decide +kernel
theorem dL_sound_340 : decode cL_sound 340 = .ok (.iconst 0, 1) := by decide +kernel
theorem dL_sound_341 : decode cL_sound 341 = .ok (.invokestatic 168, 3) := by decide +kernel
theorem dL_sound_344 : decode cL_sound 344 = .ok (.iload 9, 2) := by decide +kernel
theorem dL_sound_346 : decode cL_sound 346 = .ok (.iadd, 1) := by decide +kernel
theorem dL_sound_347 : decode cL_sound 347 = .ok (.if_icmp .ne 172, 3) := by decide +kernel
theorem dL_sound_350 : decode cL_sound 350 = .ok (.aload_n 0, 1) := by decide +kernel
theorem dL_sound_351 : decode cL_sound 351 = .ok (.iconst 3, 1) := by decide +kernel
theorem dL_sound_352 : decode cL_sound 352 = .ok (.iload 8, 2) := by decide +kernel
theorem dL_sound_354 : decode cL_sound 354 = .ok (.iconst 4, 1) := by decide +kernel
theorem dL_sound_355 : decode cL_sound 355 = .ok (.iconst 0, 1) := by decide +kernel
theorem dL_sound_356 : decode cL_sound 356 = .ok (.invokestatic 168, 3) := by decide +kernel
theorem dL_sound_359 : decode cL_sound 359 = .ok (.aload_n 0, 1) := by decide +kernel
theorem dL_sound_360 : decode cL_sound 360 = .ok (.iconst 4, 1) := by decide +kernel
theorem dL_sound_361 : decode cL_sound 361 = .ok (.iload 8, 2) := by decide +kernel
theorem dL_sound_363 : decode cL_sound 363 = .ok (.iconst 1, 1) := by decide +kernel
theorem dL_sound_364 : decode cL_sound 364 = .ok (.iconst 0, 1) := by decide +kernel
theorem dL_sound_365 : decode cL_sound 365 = .ok (.invokestatic 168, 3) := by decide +kernel
theorem dL_sound_368 : decode cL_sound 368 = .ok (.iload 11, 2) := by decide +kernel
theorem dL_sound_370 : decode cL_sound 370 = .ok (.iadd, 1) := by decide +kernel
theorem dL_sound_371 : decode cL_sound 371 = .ok (.if_icmp .ne 148, 3) := by decide +kernel
theorem dL_sound_374 : decode cL_sound 374 = .ok (.iload 13, 2) := by decide +kernel
theorem dL_sound_376 : decode cL_sound 376 = .ok (.ifCond .lt 143, 3) := by decide +kernel
theorem dL_sound_379 : decode cL_sound 379 = .ok (.iload 13, 2) := by decide +kernel
theorem dL_sound_381 : decode cL_sound 381 = .ok (.iconst 2, 1) := by decide +kernel
theorem dL_sound_382 : decode cL_sound 382 = .ok (.if_icmp .ge 137, 3) := by decide +kernel
theorem dL_sound_385 : decode cL_sound 385 = .ok (.iload 13, 2) := by decide +kernel
theorem dL_sound_387 : decode cL_sound 387 = .ok (.ifCond .ne 7, 3) := by decide +kernel
theorem dL_sound_390 : decode cL_sound 390 = .ok (.iconst 1, 1) := by decide +kernel
theorem dL_sound_391 : decode cL_sound 391 = .ok (.goto 4, 3) := by decide +kernel
theorem dL_sound_394 : decode cL_sound 394 = .ok (.iconst 0, 1) := by decide +kernel
theorem dL_sound_395 : decode cL_sound 395 = .ok (.iload 14, 2) := by decide +kernel
theorem dL_sound_397 : decode cL_sound 397 = .ok (.iconst (-1), 1) := by decide +kernel
theorem dL_sound_398 : decode cL_sound 398 = .ok (.if_icmp .ne 7, 3) := by decide +kernel
theorem dL_sound_401 : decode cL_sound 401 = .ok (.iconst 1, 1) := by decide +kernel
theorem dL_sound_402 : decode cL_sound 402 = .ok (.goto 4, 3) := by decide +kernel
theorem dL_sound_405 : decode cL_sound 405 = .ok (.iconst 0, 1) := by decide +kernel
theorem dL_sound_406 : decode cL_sound 406 = .ok (.if_icmp .ne 113, 3) := by decide +kernel
theorem dL_sound_409 : decode cL_sound 409 = .ok (.iload 14, 2) := by decide +kernel
theorem dL_sound_411 : decode cL_sound 411 = .ok (.iconst (-1), 1) := by decide +kernel
theorem dL_sound_412 : decode cL_sound 412 = .ok (.if_icmp .eq 18, 3) := by decide +kernel
theorem dL_sound_415 : decode cL_sound 415 = .ok (.iload 14, 2) := by decide +kernel
theorem dL_sound_417 : decode cL_sound 417 = .ok (.iload_n 2, 1) := by decide +kernel
theorem dL_sound_418 : decode cL_sound 418 = .ok (.if_icmp .le 101, 3) := by decide +kernel
theorem dL_sound_421 : decode cL_sound 421 = .ok (.iload 14, 2) := by decide +kernel
theorem dL_sound_423 : decode cL_sound 423 = .ok (.iload_n 2, 1) := by decide +kernel
theorem dL_sound_424 : decode cL_sound 424 = .ok (.bipush 20, 2) := by decide +kernel
theorem dL_sound_426 : decode cL_sound 426 = .ok (.iadd, 1) := by decide +kernel
theorem dL_sound_427 : decode cL_sound 427 = .ok (.if_icmp .gt 92, 3) := by decide +kernel
theorem dL_sound_430 : decode cL_sound 430 = .ok (.iload 9, 2) := by decide +kernel
theorem dL_sound_432 : decode cL_sound 432 = .ok (.bipush 6, 2) := by decide +kernel
theorem dL_sound_434 : decode cL_sound 434 = .ok (.if_icmp .gt 85, 3) := by decide +kernel
theorem dL_sound_437 : decode cL_sound 437 = .ok (.aload_n 0, 1) := by decide +kernel
theorem dL_sound_438 : decode cL_sound 438 = .ok (.iconst 4, 1) := by decide +kernel
theorem dL_sound_439 : decode cL_sound 439 = .ok (.iload 8, 2) := by decide +kernel
theorem dL_sound_441 : decode cL_sound 441 = .ok (.iconst 5, 1) := by decide +kernel
theorem dL_sound_442 : decode cL_sound 442 = .ok (.iconst 0, 1) := by decide +kernel
theorem dL_sound_443 : decode cL_sound 443 = .ok (.invokestatic 168, 3) := by decide +kernel
theorem dL_sound_446 : decode cL_sound 446 = .ok (.iload 9, 2) := by decide +kernel
theorem dL_sound_448 : decode cL_sound 448 = .ok (.if_icmp .gt 71, 3) := by decide +kernel
theorem dL_sound_451 : decode cL_sound 451 = .ok (.aload_n 0, 1) := by decide +kernel
theorem dL_sound_452 : decode cL_sound 452 = .ok (.iconst 4, 1) := by decide +kernel
theorem dL_sound_453 : decode cL_sound 453 = .ok (.iload 8, 2) := by decide +kernel
theorem dL_sound_455 : decode cL_sound 455 = .ok (.iconst 4, 1) := by decide +kernel
theorem dL_sound_456 : decode cL_sound 456 = .ok (.iconst 0, 1) := by decide +kernel
theorem dL_sound_457 : decode cL_sound 457 = .ok (.invokestatic 168, 3) := by decide +kernel
theorem dL_sound_460 : decode cL_sound 460 = .ok (.aload_n 0, 1) := by decide +kernel
theorem dL_sound_461 : decode cL_sound 461 = .ok (.iconst 4, 1) := by decide +kernel
theorem dL_sound_462 : decode cL_sound 462 = .ok (.iload 8, 2) := by decide +kernel
theorem dL_sound_464 : decode cL_sound 464 = .ok (.iconst 1, 1) := by decide +kernel
theorem dL_sound_465 : decode cL_sound 465 = .ok (.iconst 0, 1) := by decide +kernel
theorem dL_sound_466 : decode cL_sound 466 = .ok (.invokestatic 168, 3) := by decide +kernel
theorem dL_sound_469 : decode cL_sound 469 = .ok (.if_icmp .gt 50, 3) := by decide +kernel
theorem dL_sound_472 : decode cL_sound 472 = .ok (.aload_n 0, 1) := by decide +kernel
theorem dL_sound_473 : decode cL_sound 473 = .ok (.bipush 15, 2) := by decide +kernel
theorem dL_sound_475 : decode cL_sound 475 = .ok (.iload 8, 2) := by decide +kernel
theorem dL_sound_477 : decode cL_sound 477 = .ok (.iconst 0, 1) := by decide +kernel
theorem dL_sound_478 : decode cL_sound 478 = .ok (.iconst 0, 1) := by decide +kernel
theorem dL_sound_479 : decode cL_sound 479 = .ok (.invokestatic 168, 3) := by decide +kernel
theorem dL_sound_482 : decode cL_sound 482 = .ok (.ifCond .ne 20, 3) := by decide +kernel
theorem dL_sound_485 : decode cL_sound 485 = .ok (.iload 9, 2) := by decide +kernel
theorem dL_sound_487 : decode cL_sound 487 = .ok (.ifCond .ne 32, 3) := by decide +kernel
theorem dL_sound_490 : decode cL_sound 490 = .ok (.aload_n 0, 1) := by decide +kernel
theorem dL_sound_491 : decode cL_sound 491 = .ok (.iconst 3, 1) := by decide +kernel
theorem dL_sound_492 : decode cL_sound 492 = .ok (.iload 8, 2) := by decide +kernel
theorem dL_sound_494 : decode cL_sound 494 = .ok (.iconst 0, 1) := by decide +kernel
theorem dL_sound_495 : decode cL_sound 495 = .ok (.iconst 0, 1) := by decide +kernel
theorem dL_sound_496 : decode cL_sound 496 = .ok (.invokestatic 168, 3) := by decide +kernel
theorem dL_sound_499 : decode cL_sound 499 = .ok (.ifCond .ne 20, 3) := by decide +kernel
theorem dL_sound_502 : decode cL_sound 502 = .ok (.aload_n 0, 1) := by decide +kernel
theorem dL_sound_503 : decode cL_sound 503 = .ok (.iconst 3, 1) := by decide +kernel
theorem dL_sound_504 : decode cL_sound 504 = .ok (.iload 8, 2) := by decide +kernel
theorem dL_sound_506 : decode cL_sound 506 = .ok (.iconst 5, 1) := by decide +kernel
theorem dL_sound_507 : decode cL_sound 507 = .ok (.iconst 0, 1) := by decide +kernel
theorem dL_sound_508 : decode cL_sound 508 = .ok (.invokestatic 168, 3) := by decide +kernel
theorem dL_sound_511 : decode cL_sound 511 = .ok (.iload_n 2, 1) := by decide +kernel
theorem dL_sound_512 : decode cL_sound 512 = .ok (.if_icmp .gt 7, 3) := by decide +kernel
theorem dL_sound_515 : decode cL_sound 515 = .ok (.iconst 1, 1) := by decide +kernel
theorem dL_sound_516 : decode cL_sound 516 = .ok (.goto 4, 3) := by decide +kernel
theorem dL_sound_519 : decode cL_sound 519 = .ok (.iconst 0, 1) := by decide +kernel
theorem dL_sound_520 : decode cL_sound 520 = .ok (.istore 7, 2) := by decide +kernel
theorem dL_sound_522 : decode cL_sound 522 = .ok (.iinc 8 1, 3) := by decide +kernel
theorem dL_sound_525 : decode cL_sound 525 = .ok (.goto (-473), 3) := by decide +kernel
theorem dL_sound_528 : decode cL_sound 528 = .ok (.iload_n 2, 1) := by decide +kernel
theorem dL_sound_529 : decode cL_sound 529 = .ok (.istore 8, 2) := by decide +kernel
theorem dL_sound_531 : decode cL_sound 531 = .ok (.iconst 0, 1) := by decide +kernel
theorem dL_sound_532 : decode cL_sound 532 = .ok (.istore 9, 2) := by decide +kernel
theorem dL_sound_534 : decode cL_sound 534 = .ok (.iload 9, 2) := by decide +kernel
theorem dL_sound_536 : decode cL_sound 536 = .ok (.aload_n 0, 1) := by decide +kernel
theorem dL_sound_537 : decode cL_sound 537 = .ok (.iconst 2, 1) := by decide +kernel
theorem dL_sound_538 : decode cL_sound 538 = .ok (.iconst 2, 1) := by decide +kernel
theorem dL_sound_539 : decode cL_sound 539 = .ok (.iconst 0, 1) := by decide +kernel
theorem dL_sound_540 : decode cL_sound 540 = .ok (.iconst 0, 1) := by decide +kernel
theorem dL_sound_541 : decode cL_sound 541 = .ok (.invokestatic 168, 3) := by decide +kernel
theorem dL_sound_544 : decode cL_sound 544 = .ok (.if_icmp .ge 62, 3) := by decide +kernel
theorem dL_sound_547 : decode cL_sound 547 = .ok (.iload 7, 2) := by decide +kernel
theorem dL_sound_549 : decode cL_sound 549 = .ok (.ifCond .eq 57, 3) := by decide +kernel
theorem dL_sound_552 : decode cL_sound 552 = .ok (.aload_n 0, 1) := by decide +kernel
theorem dL_sound_553 : decode cL_sound 553 = .ok (.bipush 6, 2) := by decide +kernel
theorem dL_sound_555 : decode cL_sound 555 = .ok (.iload 9, 2) := by decide +kernel
theorem dL_sound_557 : decode cL_sound 557 = .ok (.iconst 0, 1) := by decide +kernel
theorem dL_sound_558 : decode cL_sound 558 = .ok (.iconst 0, 1) := by decide +kernel
theorem dL_sound_559 : decode cL_sound 559 = .ok (.invokestatic 168, 3) := by decide +kernel
theorem dL_sound_562 : decode cL_sound 562 = .ok (.istore 8, 2) := by decide +kernel
theorem dL_sound_564 : decode cL_sound 564 = .ok (.iload 8, 2) := by decide +kernel
theorem dL_sound_566 : decode cL_sound 566 = .ok (.iload_n 2, 1) := by decide +kernel
theorem dL_sound_567 : decode cL_sound 567 = .ok (.if_icmp .le 30, 3) := by decide +kernel
theorem dL_sound_570 : decode cL_sound 570 = .ok (.iload 8, 2) := by decide +kernel
theorem dL_sound_572 : decode cL_sound 572 = .ok (.iload_n 2, 1) := by decide +kernel
theorem dL_sound_573 : decode cL_sound 573 = .ok (.bipush 99, 2) := by decide +kernel
theorem dL_sound_575 : decode cL_sound 575 = .ok (.iadd, 1) := by decide +kernel
theorem dL_sound_576 : decode cL_sound 576 = .ok (.if_icmp .gt 21, 3) := by decide +kernel
theorem dL_sound_579 : decode cL_sound 579 = .ok (.aload_n 0, 1) := by decide +kernel
theorem dL_sound_580 : decode cL_sound 580 = .ok (.bipush 6, 2) := by decide +kernel
theorem dL_sound_582 : decode cL_sound 582 = .ok (.iload 9, 2) := by decide +kernel
theorem dL_sound_584 : decode cL_sound 584 = .ok (.iconst 1, 1) := by decide +kernel
theorem dL_sound_585 : decode cL_sound 585 = .ok (.iconst 0, 1) := by decide +kernel
theorem dL_sound_586 : decode cL_sound 586 = .ok (.invokestatic 168, 3) := by decide +kernel
theorem dL_sound_589 : decode cL_sound 589 = .ok (.iload_n 1, 1) := by decide +kernel
theorem dL_sound_590 : decode cL_sound 590 = .ok (.if_icmp .ge 7, 3) := by decide +kernel
theorem dL_sound_593 : decode cL_sound 593 = .ok (.iconst 1, 1) := by decide +kernel
theorem dL_sound_594 : decode cL_sound 594 = .ok (.goto 4, 3) := by decide +kernel
theorem dL_sound_597 : decode cL_sound 597 = .ok (.iconst 0, 1) := by decide +kernel
theorem dL_sound_598 : decode cL_sound 598 = .ok (.istore 7, 2) := by decide +kernel
theorem dL_sound_600 : decode cL_sound 600 = .ok (.iinc 9 1, 3) := by decide +kernel
theorem dL_sound_603 : decode cL_sound 603 = .ok (.goto (-69), 3) := by decide +kernel
theorem dL_sound_606 : decode cL_sound 606 = .ok (.iload 7, 2) := by decide +kernel
theorem dL_sound_608 : decode cL_sound 608 = .ok (.ifCond .eq 59, 3) := by decide +kernel
theorem dL_sound_611 : decode cL_sound 611 = .ok (.aload_n 0, 1) := by decide +kernel
theorem dL_sound_612 : decode cL_sound 612 = .ok (.iconst 2, 1) := by decide +kernel
theorem dL_sound_613 : decode cL_sound 613 = .ok (.iconst 3, 1) := by decide +kernel
theorem dL_sound_614 : decode cL_sound 614 = .ok (.iconst 0, 1) := by decide +kernel
theorem dL_sound_615 : decode cL_sound 615 = .ok (.iconst 0, 1) := by decide +kernel
theorem dL_sound_616 : decode cL_sound 616 = .ok (.invokestatic 168, 3) := by decide +kernel
theorem dL_sound_619 : decode cL_sound 619 = .ok (.iload_n 3, 1) := by decide +kernel
theorem dL_sound_620 : decode cL_sound 620 = .ok (.if_icmp .ne 47, 3) := by decide +kernel
theorem dL_sound_623 : decode cL_sound 623 = .ok (.aload_n 0, 1) := by decide +kernel
theorem dL_sound_624 : decode cL_sound 624 = .ok (.iconst 2, 1) := by decide +kernel
theorem dL_sound_625 : decode cL_sound 625 = .ok (.iconst 4, 1) := by decide +kernel
theorem dL_sound_626 : decode cL_sound 626 = .ok (.iconst 0, 1) := by decide +kernel
theorem dL_sound_627 : decode cL_sound 627 = .ok (.iconst 0, 1) := by decide +kernel
theorem dL_sound_628 : decode cL_sound 628 = .ok (.invokestatic 168, 3) := by decide +kernel
theorem dL_sound_631 : decode cL_sound 631 = .ok (.iload 4, 2) := by decide +kernel
theorem dL_sound_633 : decode cL_sound 633 = .ok (.if_icmp .ne 34, 3) := by decide +kernel
theorem dL_sound_636 : decode cL_sound 636 = .ok (.aload_n 0, 1) := by decide +kernel
theorem dL_sound_637 : decode cL_sound 637 = .ok (.iconst 2, 1) := by decide +kernel
theorem dL_sound_638 : decode cL_sound 638 = .ok (.iconst 5, 1) := by decide +kernel
theorem dL_sound_639 : decode cL_sound 639 = .ok (.iconst 0, 1) := by decide +kernel
theorem dL_sound_640 : decode cL_sound 640 = .ok (.iconst 0, 1) := by decide +kernel
theorem dL_sound_641 : decode cL_sound 641 = .ok (.invokestatic 168, 3) := by decide +kernel
theorem dL_sound_644 : decode cL_sound 644 = .ok (.iload 5, 2) := by decide +kernel
theorem dL_sound_646 : decode cL_sound 646 = .ok (.if_icmp .ne 21, 3) := by decide +kernel
theorem dL_sound_649 : decode cL_sound 649 = .ok (.aload_n 0, 1) := by decide +kernel
theorem dL_sound_650 : decode cL_sound 650 = .ok (.iconst 2, 1) := by decide +kernel
theorem dL_sound_651 : decode cL_sound 651 = .ok (.bipush 7, 2) := by decide +kernel
theorem dL_sound_653 : decode cL_sound 653 = .ok (.iconst 0, 1) := by decide +kernel
theorem dL_sound_654 : decode cL_sound 654 = .ok (.iconst 0, 1) := by decide +kernel
theorem dL_sound_655 : decode cL_sound 655 = .ok (.invokestatic 168, 3) := by decide +kernel
theorem dL_sound_658 : decode cL_sound 658 = .ok (.iload 6, 2) := by decide +kernel
theorem dL_sound_660 : decode cL_sound 660 = .ok (.if_icmp .ne 7, 3) := by decide +kernel
theorem dL_sound_663 : decode cL_sound 663 = .ok (.iconst 1, 1) := by decide +kernel
theorem dL_sound_664 : decode cL_sound 664 = .ok (.goto 4, 3) := by decide +kernel
theorem dL_sound_667 : decode cL_sound 667 = .ok (.iconst 0, 1) := by decide +kernel
theorem dL_sound_668 : decode cL_sound 668 = .ok (.ireturn, 1) := by decide +kernel
theorem dL_act_0 : decode cL_act 0 = .ok (.iload_n 1, 1) := by decide +kernel
theorem dL_act_1 : decode cL_act 1 = .ok (.bipush 16, 2) := by decide +kernel
theorem dL_act_3 : decode cL_act 3 = .ok (.idiv, 1) := by decide +kernel
theorem dL_act_4 : decode cL_act 4 = .ok (.istore_n 2, 1) := by decide +kernel
theorem dL_act_5 : decode cL_act 5 = .ok (.aload_n 0, 1) := by decide +kernel
theorem dL_act_6 : decode cL_act 6 = .ok (.iconst 2, 1) := by decide +kernel
theorem dL_act_7 : decode cL_act 7 = .ok (.iconst 0, 1) := by decide +kernel
theorem dL_act_8 : decode cL_act 8 = .ok (.iconst 0, 1) := by decide +kernel
theorem dL_act_9 : decode cL_act 9 = .ok (.iconst 0, 1) := by decide +kernel
theorem dL_act_10 : decode cL_act 10 = .ok (.invokestatic 168, 3) := by decide +kernel
theorem dL_act_13 : decode cL_act 13 = .ok (.istore_n 3, 1) := by decide +kernel
theorem dL_act_14 : decode cL_act 14 = .ok (.iload_n 2, 1) := by decide +kernel
theorem dL_act_15 : decode cL_act 15 = .ok (.iload_n 3, 1) := by decide +kernel
theorem dL_act_16 : decode cL_act 16 = .ok (.irem, 1) := by decide +kernel
theorem dL_act_17 : decode cL_act 17 = .ok (.istore 4, 2) := by decide +kernel
theorem dL_act_19 : decode cL_act 19 = .ok (.iload_n 1, 1) := by decide +kernel
theorem dL_act_20 : decode cL_act 20 = .ok (.bipush 16, 2) := by decide +kernel
theorem dL_act_22 : decode cL_act 22 = .ok (.irem, 1) := by decide +kernel
theorem dL_act_23 : decode cL_act 23 = .ok (.tableswitch 263 0 12 #[65, 108, 108, 108, 108, 126, 126, 152, 173, 184, 184, 201, 227], 65) := by decide +kernel
theorem dL_act_88 : decode cL_act 88 = .ok (.iload_n 2, 1) := by decide +kernel
theorem dL_act_89 : decode cL_act 89 = .ok (.iconst 5, 1) := by decide +kernel
theorem dL_act_90 : decode cL_act 90 = .ok (.irem, 1) := by decide +kernel
theorem dL_act_91 : decode cL_act 91 = .ok (.ifCond .ne 21, 3) := by decide +kernel
theorem dL_act_94 : decode cL_act 94 = .ok (.aload_n 0, 1) := by decide +kernel
theorem dL_act_95 : decode cL_act 95 = .ok (.bipush 8, 2) := by decide +kernel
theorem dL_act_97 : decode cL_act 97 = .ok (.iconst 1, 1) := by decide +kernel
theorem dL_act_98 : decode cL_act 98 = .ok (.iload_n 2, 1) := by decide +kernel
theorem dL_act_99 : decode cL_act 99 = .ok (.iconst 5, 1) := by decide +kernel
theorem dL_act_100 : decode cL_act 100 = .ok (.idiv, 1) := by decide +kernel
theorem dL_act_101 : decode cL_act 101 = .ok (.iconst 4, 1) := by decide +kernel
theorem dL_act_102 : decode cL_act 102 = .ok (.irem, 1) := by decide +kernel
theorem dL_act_103 : decode cL_act 103 = .ok (.iadd, 1) := by decide +kernel
theorem dL_act_104 : decode cL_act 104 = .ok (.iconst 0, 1) := by decide +kernel
theorem dL_act_105 : decode cL_act 105 = .ok (.iconst 0, 1) := by decide +kernel
theorem dL_act_106 : decode cL_act 106 = .ok (.invokestatic 168, 3) := by decide +kernel
theorem dL_act_109 : decode cL_act 109 = .ok (.goto 21, 3) := by decide +kernel
theorem dL_act_112 : decode cL_act 112 = .ok (.aload_n 0, 1) := by decide +kernel
theorem dL_act_113 : decode cL_act 113 = .ok (.bipush 9, 2) := by decide +kernel
theorem dL_act_115 : decode cL_act 115 = .ok (.iload 4, 2) := by decide +kernel
theorem dL_act_117 : decode cL_act 117 = .ok (.iconst 1, 1) := by decide +kernel
theorem dL_act_118 : decode cL_act 118 = .ok (.iload_n 2, 1) := by decide +kernel
theorem dL_act_119 : decode cL_act 119 = .ok (.iconst 4, 1) := by decide +kernel
theorem dL_act_120 : decode cL_act 120 = .ok (.idiv, 1) := by decide +kernel
theorem dL_act_121 : decode cL_act 121 = .ok (.sipush 300, 3) := by decide +kernel
theorem dL_act_124 : decode cL_act 124 = .ok (.irem, 1) := by decide +kernel
theorem dL_act_125 : decode cL_act 125 = .ok (.iadd, 1) := by decide +kernel
theorem dL_act_126 : decode cL_act 126 = .ok (.iconst 0, 1) := by decide +kernel
theorem dL_act_127 : decode cL_act 127 = .ok (.invokestatic 168, 3) := by decide +kernel
theorem dL_act_130 : decode cL_act 130 = .ok (.ireturn, 1) := by decide +kernel
theorem dL_act_131 : decode cL_act 131 = .ok (.aload_n 0, 1) := by decide +kernel
theorem dL_act_132 : decode cL_act 132 = .ok (.bipush 9, 2) := by decide +kernel
theorem dL_act_134 : decode cL_act 134 = .ok (.iload 4, 2) := by decide +kernel
theorem dL_act_136 : decode cL_act 136 = .ok (.iconst 1, 1) := by decide +kernel
theorem dL_act_137 : decode cL_act 137 = .ok (.iload_n 2, 1) := by decide +kernel
theorem dL_act_138 : decode cL_act 138 = .ok (.iconst 4, 1) := by decide +kernel
theorem dL_act_139 : decode cL_act 139 = .ok (.idiv, 1) := by decide +kernel
theorem dL_act_140 : decode cL_act 140 = .ok (.bipush 50, 2) := by decide +kernel
theorem dL_act_142 : decode cL_act 142 = .ok (.irem, 1) := by decide +kernel
theorem dL_act_143 : decode cL_act 143 = .ok (.iadd, 1) := by decide +kernel
theorem dL_act_144 : decode cL_act 144 = .ok (.iconst 0, 1) := by decide +kernel
theorem dL_act_145 : decode cL_act 145 = .ok (.invokestatic 168, 3) := by decide +kernel
theorem dL_act_148 : decode cL_act 148 = .ok (.ireturn, 1) := by decide +kernel
theorem dL_act_149 : decode cL_act 149 = .ok (.aload_n 0, 1) := by decide +kernel
theorem dL_act_150 : decode cL_act 150 = .ok (.bipush 10, 2) := by decide +kernel
theorem dL_act_152 : decode cL_act 152 = .ok (.iconst 1, 1) := by decide +kernel
theorem dL_act_153 : decode cL_act 153 = .ok (.iload_n 2, 1) := by decide +kernel
theorem dL_act_154 : decode cL_act 154 = .ok (.iconst 4, 1) := by decide +kernel
theorem dL_act_155 : decode cL_act 155 = .ok (.idiv, 1) := by decide +kernel
theorem dL_act_156 : decode cL_act 156 = .ok (.bipush 25, 2) := by decide +kernel
theorem dL_act_158 : decode cL_act 158 = .ok (.irem, 1) := by decide +kernel
theorem dL_act_159 : decode cL_act 159 = .ok (.iadd, 1) := by decide +kernel
theorem dL_act_160 : decode cL_act 160 = .ok (.iload 4, 2) := by decide +kernel
theorem dL_act_162 : decode cL_act 162 = .ok (.iconst 1, 1) := by decide +kernel
theorem dL_act_163 : decode cL_act 163 = .ok (.iload_n 2, 1) := by decide +kernel
theorem dL_act_164 : decode cL_act 164 = .ok (.bipush 100, 2) := by decide +kernel
theorem dL_act_166 : decode cL_act 166 = .ok (.idiv, 1) := by decide +kernel
theorem dL_act_167 : decode cL_act 167 = .ok (.bipush 60, 2) := by decide +kernel
theorem dL_act_169 : decode cL_act 169 = .ok (.irem, 1) := by decide +kernel
theorem dL_act_170 : decode cL_act 170 = .ok (.iadd, 1) := by decide +kernel
theorem dL_act_171 : decode cL_act 171 = .ok (.invokestatic 168, 3) := by decide +kernel
theorem dL_act_174 : decode cL_act 174 = .ok (.ireturn, 1) := by decide +kernel
theorem dL_act_175 : decode cL_act 175 = .ok (.aload_n 0, 1) := by decide +kernel
theorem dL_act_176 : decode cL_act 176 = .ok (.iload 4, 2) := by decide +kernel
theorem dL_act_178 : decode cL_act 178 = .ok (.iload_n 2, 1) := by decide +kernel
theorem dL_act_179 : decode cL_act 179 = .ok (.iconst 4, 1) := by decide +kernel
theorem dL_act_180 : decode cL_act 180 = .ok (.idiv, 1) := by decide +kernel
theorem dL_act_181 : decode cL_act 181 = .ok (.iconst 2, 1) := by decide +kernel
theorem dL_act_182 : decode cL_act 182 = .ok (.irem, 1) := by decide +kernel
theorem dL_act_183 : decode cL_act 183 = .ok (.iconst 1, 1) := by decide +kernel
theorem dL_act_184 : decode cL_act 184 = .ok (.if_icmp .ne 7, 3) := by decide +kernel
theorem dL_act_187 : decode cL_act 187 = .ok (.iconst 1, 1) := by decide +kernel
theorem dL_act_188 : decode cL_act 188 = .ok (.goto 4, 3) := by decide +kernel
theorem dL_act_191 : decode cL_act 191 = .ok (.iconst 0, 1) := by decide +kernel
theorem dL_act_192 : decode cL_act 192 = .ok (.invokestatic 172, 3) := by decide +kernel
theorem dL_act_195 : decode cL_act 195 = .ok (.ireturn, 1) := by decide +kernel
theorem dL_act_196 : decode cL_act 196 = .ok (.aload_n 0, 1) := by decide +kernel
theorem dL_act_197 : decode cL_act 197 = .ok (.bipush 11, 2) := by decide +kernel
theorem dL_act_199 : decode cL_act 199 = .ok (.iload 4, 2) := by decide +kernel
theorem dL_act_201 : decode cL_act 201 = .ok (.iconst 0, 1) := by decide +kernel
theorem dL_act_202 : decode cL_act 202 = .ok (.iconst 0, 1) := by decide +kernel
theorem dL_act_203 : decode cL_act 203 = .ok (.invokestatic 168, 3) := by decide +kernel
theorem dL_act_206 : decode cL_act 206 = .ok (.ireturn, 1) := by decide +kernel
theorem dL_act_207 : decode cL_act 207 = .ok (.aload_n 0, 1) := by decide +kernel
theorem dL_act_208 : decode cL_act 208 = .ok (.bipush 13, 2) := by decide +kernel
theorem dL_act_210 : decode cL_act 210 = .ok (.iload_n 2, 1) := by decide +kernel
theorem dL_act_211 : decode cL_act 211 = .ok (.iconst 4, 1) := by decide +kernel
theorem dL_act_212 : decode cL_act 212 = .ok (.irem, 1) := by decide +kernel
theorem dL_act_213 : decode cL_act 213 = .ok (.iload_n 2, 1) := by decide +kernel
theorem dL_act_214 : decode cL_act 214 = .ok (.iconst 4, 1) := by decide +kernel
theorem dL_act_215 : decode cL_act 215 = .ok (.idiv, 1) := by decide +kernel
theorem dL_act_216 : decode cL_act 216 = .ok (.bipush 22, 2) := by decide +kernel
theorem dL_act_218 : decode cL_act 218 = .ok (.irem, 1) := by decide +kernel
theorem dL_act_219 : decode cL_act 219 = .ok (.iconst 0, 1) := by decide +kernel
theorem dL_act_220 : decode cL_act 220 = .ok (.invokestatic 168, 3) := by decide +kernel
theorem dL_act_223 : decode cL_act 223 = .ok (.ireturn, 1) := by decide +kernel
theorem dL_act_224 : decode cL_act 224 = .ok (.aload_n 0, 1) := by decide +kernel
theorem dL_act_225 : decode cL_act 225 = .ok (.iconst 2, 1) := by decide +kernel
theorem dL_act_226 : decode cL_act 226 = .ok (.iconst 1, 1) := by decide +kernel
theorem dL_act_227 : decode cL_act 227 = .ok (.iconst 0, 1) := by decide +kernel
theorem dL_act_228 : decode cL_act 228 = .ok (.iconst 0, 1) := by decide +kernel
theorem dL_act_229 : decode cL_act 229 = .ok (.invokestatic 168, 3) := by decide +kernel
theorem dL_act_232 : decode cL_act 232 = .ok (.iconst 3, 1) := by decide +kernel
theorem dL_act_233 : decode cL_act 233 = .ok (.if_icmp .ge 7, 3) := by decide +kernel
theorem dL_act_236 : decode cL_act 236 = .ok (.iconst (-1), 1) := by decide +kernel
theorem dL_act_237 : decode cL_act 237 = .ok (.goto 12, 3) := by decide +kernel
theorem dL_act_240 : decode cL_act 240 = .ok (.aload_n 0, 1) := by decide +kernel
theorem dL_act_241 : decode cL_act 241 = .ok (.bipush 14, 2) := by decide +kernel
theorem dL_act_243 : decode cL_act 243 = .ok (.iconst 0, 1) := by decide +kernel
theorem dL_act_244 : decode cL_act 244 = .ok (.iconst 0, 1) := by decide +kernel
theorem dL_act_245 : decode cL_act 245 = .ok (.iconst 0, 1) := by decide +kernel
theorem dL_act_246 : decode cL_act 246 = .ok (.invokestatic 168, 3) := by decide +kernel
theorem dL_act_249 : decode cL_act 249 = .ok (.ireturn, 1) := by decide +kernel
theorem dL_act_250 : decode cL_act 250 = .ok (.iload_n 2, 1) := by decide +kernel
theorem dL_act_251 : decode cL_act 251 = .ok (.iconst 2, 1) := by decide +kernel
theorem dL_act_252 : decode cL_act 252 = .ok (.irem, 1) := by decide +kernel
theorem dL_act_253 : decode cL_act 253 = .ok (.ifCond .ne 19, 3) := by decide +kernel
theorem dL_act_256 : decode cL_act 256 = .ok (.aload_n 0, 1) := by decide +kernel
theorem dL_act_257 : decode cL_act 257 = .ok (.bipush 19, 2) := by decide +kernel
theorem dL_act_259 : decode cL_act 259 = .ok (.iload_n 2, 1) := by decide +kernel
theorem dL_act_260 : decode cL_act 260 = .ok (.iconst 2, 1) := by decide +kernel
theorem dL_act_261 : decode cL_act 261 = .ok (.idiv, 1) := by decide +kernel
theorem dL_act_262 : decode cL_act 262 = .ok (.iconst 2, 1) := by decide +kernel
theorem dL_act_263 : decode cL_act 263 = .ok (.irem, 1) := by decide +kernel
theorem dL_act_264 : decode cL_act 264 = .ok (.iconst 0, 1) := by decide +kernel
theorem dL_act_265 : decode cL_act 265 = .ok (.iconst 0, 1) := by decide +kernel
theorem dL_act_266 : decode cL_act 266 = .ok (.invokestatic 168, 3) := by decide +kernel
theorem dL_act_269 : decode cL_act 269 = .ok (.goto 16, 3) := by decide +kernel
theorem dL_act_272 : decode cL_act 272 = .ok (.aload_n 0, 1) := by decide +kernel
theorem dL_act_273 : decode cL_act 273 = .ok (.bipush 20, 2) := by decide +kernel
theorem dL_act_275 : decode cL_act 275 = .ok (.iload_n 2, 1) := by decide +kernel
theorem dL_act_276 : decode cL_act 276 = .ok (.iconst 2, 1) := by decide +kernel
theorem dL_act_277 : decode cL_act 277 = .ok (.idiv, 1) := by decide +kernel
theorem dL_act_278 : decode cL_act 278 = .ok (.iconst 2, 1) := by decide +kernel
theorem dL_act_279 : decode cL_act 279 = .ok (.irem, 1) := by decide +kernel
theorem dL_act_280 : decode cL_act 280 = .ok (.iconst 0, 1) := by decide +kernel
theorem dL_act_281 : decode cL_act 281 = .ok (.iconst 0, 1) := by decide +kernel
theorem dL_act_282 : decode cL_act 282 = .ok (.invokestatic 168, 3) := by decide +kernel
theorem dL_act_285 : decode cL_act 285 = .ok (.ireturn, 1) := by decide +kernel
theorem dL_act_286 : decode cL_act 286 = .ok (.aload_n 0, 1) := by decide +kernel
theorem dL_act_287 : decode cL_act 287 = .ok (.bipush 12, 2) := by decide +kernel
theorem dL_act_289 : decode cL_act 289 = .ok (.iconst 1, 1) := by decide +kernel
theorem dL_act_290 : decode cL_act 290 = .ok (.iload_n 2, 1) := by decide +kernel
theorem dL_act_291 : decode cL_act 291 = .ok (.bipush 12, 2) := by decide +kernel
theorem dL_act_293 : decode cL_act 293 = .ok (.irem, 1) := by decide +kernel
theorem dL_act_294 : decode cL_act 294 = .ok (.iadd, 1) := by decide +kernel
theorem dL_act_295 : decode cL_act 295 = .ok (.iconst 0, 1) := by decide +kernel
theorem dL_act_296 : decode cL_act 296 = .ok (.iconst 0, 1) := by decide +kernel
theorem dL_act_297 : decode cL_act 297 = .ok (.invokestatic 168, 3) := by decide +kernel
theorem dL_act_300 : decode cL_act 300 = .ok (.ireturn, 1) := by decide +kernel
theorem dL_alike_0 : decode cL_alike 0 = .ok (.aload_n 0, 1) := by decide +kernel
theorem dL_alike_1 : decode cL_alike 1 = .ok (.iload_n 2, 1) := by decide +kernel
theorem dL_alike_2 : decode cL_alike 2 = .ok (.i2l, 1) := by decide +kernel
theorem dL_alike_3 : decode cL_alike 3 = .ok (.iconst 1, 1) := by decide +kernel
theorem dL_alike_4 : decode cL_alike 4 = .ok (.iload_n 2, 1) := by decide +kernel
theorem dL_alike_5 : decode cL_alike 5 = .ok (.bipush 20, 2) := by decide +kernel
theorem dL_alike_7 : decode cL_alike 7 = .ok (.irem, 1) := by decide +kernel
theorem dL_alike_8 : decode cL_alike 8 = .ok (.iadd, 1) := by decide +kernel
theorem dL_alike_9 : decode cL_alike 9 = .ok (.invokestatic 182, 3) := by decide +kernel
theorem dL_alike_12 : decode cL_alike 12 = .ok (.aload_n 1, 1) := by decide +kernel
theorem dL_alike_13 : decode cL_alike 13 = .ok (.iload_n 2, 1) := by decide +kernel
theorem dL_alike_14 : decode cL_alike 14 = .ok (.i2l, 1) := by decide +kernel
theorem dL_alike_15 : decode cL_alike 15 = .ok (.iconst 1, 1) := by decide +kernel
theorem dL_alike_16 : decode cL_alike 16 = .ok (.iload_n 2, 1) := by decide +kernel
theorem dL_alike_17 : decode cL_alike 17 = .ok (.bipush 20, 2) := by decide +kernel
theorem dL_alike_19 : decode cL_alike 19 = .ok (.irem, 1) := by decide +kernel
theorem dL_alike_20 : decode cL_alike 20 = .ok (.iadd, 1) := by decide +kernel
theorem dL_alike_21 : decode cL_alike 21 = .ok (.invokestatic 182, 3) := by decide +kernel
theorem dL_alike_24 : decode cL_alike 24 = .ok (.if_icmp .ne 7, 3) := by decide +kernel
theorem dL_alike_27 : decode cL_alike 27 = .ok (.iconst 1, 1) := by decide +kernel
theorem dL_alike_28 : decode cL_alike 28 = .ok (.goto 4, 3) := by decide +kernel
theorem dL_alike_31 : decode cL_alike 31 = .ok (.iconst 0, 1) := by decide +kernel
theorem dL_alike_32 : decode cL_alike 32 = .ok (.istore_n 3, 1) := by decide +kernel
theorem dL_alike_33 : decode cL_alike 33 = .ok (.iconst 0, 1) := by decide +kernel
theorem dL_alike_34 : decode cL_alike 34 = .ok (.istore 4, 2) := by decide +kernel
theorem dL_alike_36 : decode cL_alike 36 = .ok (.iload 4, 2) := by decide +kernel
theorem dL_alike_38 : decode cL_alike 38 = .ok (.bipush 9, 2) := by decide +kernel
theorem dL_alike_40 : decode cL_alike 40 = .ok (.if_icmp .ge 181, 3) := by decide +kernel
theorem dL_alike_43 : decode cL_alike 43 = .ok (.iload_n 3, 1) := by decide +kernel
theorem dL_alike_44 : decode cL_alike 44 = .ok (.ifCond .eq 177, 3) := by decide +kernel
theorem dL_alike_47 : decode cL_alike 47 = .ok (.aload_n 0, 1) := by decide +kernel
theorem dL_alike_48 : decode cL_alike 48 = .ok (.iconst 2, 1) := by decide +kernel
theorem dL_alike_49 : decode cL_alike 49 = .ok (.iload 4, 2) := by decide +kernel
theorem dL_alike_51 : decode cL_alike 51 = .ok (.iconst 0, 1) := by decide +kernel
theorem dL_alike_52 : decode cL_alike 52 = .ok (.iconst 0, 1) := by decide +kernel
theorem dL_alike_53 : decode cL_alike 53 = .ok (.invokestatic 168, 3) := by decide +kernel
theorem dL_alike_56 : decode cL_alike 56 = .ok (.aload_n 1, 1) := by decide +kernel
theorem dL_alike_57 : decode cL_alike 57 = .ok (.iconst 2, 1) := by decide +kernel
theorem dL_alike_58 : decode cL_alike 58 = .ok (.iload 4, 2) := by decide +kernel
theorem dL_alike_60 : decode cL_alike 60 = .ok (.iconst 0, 1) := by decide +kernel
theorem dL_alike_61 : decode cL_alike 61 = .ok (.iconst 0, 1) := by decide +kernel
theorem dL_alike_62 : decode cL_alike 62 = .ok (.invokestatic 168, 3) := by decide +kernel
theorem dL_alike_65 : decode cL_alike 65 = .ok (.if_icmp .ne 148, 3) := by decide +kernel
theorem dL_alike_68 : decode cL_alike 68 = .ok (.aload_n 0, 1) := by decide +kernel
theorem dL_alike_69 : decode cL_alike 69 = .ok (.bipush 7, 2) := by decide +kernel
theorem dL_alike_71 : decode cL_alike 71 = .ok (.iload 4, 2) := by decide +kernel
theorem dL_alike_73 : decode cL_alike 73 = .ok (.iconst 0, 1) := by decide +kernel
theorem dL_alike_74 : decode cL_alike 74 = .ok (.iconst 0, 1) := by decide +kernel
theorem dL_alike_75 : decode cL_alike 75 = .ok (.invokestatic 168, 3) := by decide +kernel
theorem dL_alike_78 : decode cL_alike 78 = .ok (.aload_n 1, 1) := by decide +kernel
theorem dL_alike_79 : decode cL_alike 79 = .ok (.bipush 7, 2) := by decide +kernel
theorem dL_alike_81 : decode cL_alike 81 = .ok (.iload 4, 2) := by decide +kernel
theorem dL_alike_83 : decode cL_alike 83 = .ok (.iconst 0, 1) := by decide +kernel
theorem dL_alike_84 : decode cL_alike 84 = .ok (.iconst 0, 1) := by decide +kernel
theorem dL_alike_85 : decode cL_alike 85 = .ok (.invokestatic 168, 3) := by decide +kernel
theorem dL_alike_88 : decode cL_alike 88 = .ok (.if_icmp .ne 125, 3) := by decide +kernel
theorem dL_alike_91 : decode cL_alike 91 = .ok (.aload_n 0, 1) := by decide +kernel
theorem dL_alike_92 : decode cL_alike 92 = .ok (.iconst 3, 1) := by decide +kernel
theorem dL_alike_93 : decode cL_alike 93 = .ok (.iload 4, 2) := by decide +kernel
theorem dL_alike_95 : decode cL_alike 95 = .ok (.iconst 4, 1) := by decide +kernel
theorem dL_alike_96 : decode cL_alike 96 = .ok (.irem, 1) := by decide +kernel
theorem dL_alike_97 : decode cL_alike 97 = .ok (.iload_n 2, 1) := by decide +kernel
theorem dL_alike_98 : decode cL_alike 98 = .ok (.bipush 7, 2) := by decide +kernel
theorem dL_alike_100 : decode cL_alike 100 = .ok (.irem, 1) := by decide +kernel
theorem dL_alike_101 : decode cL_alike 101 = .ok (.iconst 0, 1) := by decide +kernel
theorem dL_alike_102 : decode cL_alike 102 = .ok (.invokestatic 168, 3) := by decide +kernel
theorem dL_alike_105 : decode cL_alike 105 = .ok (.aload_n 1, 1) := by decide +kernel
theorem dL_alike_106 : decode cL_alike 106 = .ok (.iconst 3, 1) := by decide +kernel
theorem dL_alike_107 : decode cL_alike 107 = .ok (.iload 4, 2) := by decide +kernel
theorem dL_alike_109 : decode cL_alike 109 = .ok (.iconst 4, 1) := by decide +kernel
theorem dL_alike_110 : decode cL_alike 110 = .ok (.irem, 1) := by decide +kernel
theorem dL_alike_111 : decode cL_alike 111 = .ok (.iload_n 2, 1) := by decide +kernel
theorem dL_alike_112 : decode cL_alike 112 = .ok (.bipush 7, 2) := by decide +kernel
theorem dL_alike_114 : decode cL_alike 114 = .ok (.irem, 1) := by decide +kernel
theorem dL_alike_115 : decode cL_alike 115 = .ok (.iconst 0, 1) := by decide +kernel
theorem dL_alike_116 : decode cL_alike 116 = .ok (.invokestatic 168, 3) := by decide +kernel
theorem dL_alike_119 : decode cL_alike 119 = .ok (.if_icmp .ne 94, 3) := by decide +kernel
theorem dL_alike_122 : decode cL_alike 122 = .ok (.aload_n 0, 1) := by decide +kernel
theorem dL_alike_123 : decode cL_alike 123 = .ok (.iconst 4, 1) := by decide +kernel
theorem dL_alike_124 : decode cL_alike 124 = .ok (.iload 4, 2) := by decide +kernel
theorem dL_alike_126 : decode cL_alike 126 = .ok (.iconst 4, 1) := by decide +kernel
theorem dL_alike_127 : decode cL_alike 127 = .ok (.irem, 1) := by decide +kernel
theorem dL_alike_128 : decode cL_alike 128 = .ok (.iload_n 2, 1) := by decide +kernel
theorem dL_alike_129 : decode cL_alike 129 = .ok (.bipush 6, 2) := by decide +kernel
theorem dL_alike_131 : decode cL_alike 131 = .ok (.irem, 1) := by decide +kernel
theorem dL_alike_132 : decode cL_alike 132 = .ok (.iconst 0, 1) := by decide +kernel
theorem dL_alike_133 : decode cL_alike 133 = .ok (.invokestatic 168, 3) := by decide +kernel
theorem dL_alike_136 : decode cL_alike 136 = .ok (.aload_n 1, 1) := by decide +kernel
theorem dL_alike_137 : decode cL_alike 137 = .ok (.iconst 4, 1) := by decide +kernel
theorem dL_alike_138 : decode cL_alike 138 = .ok (.iload 4, 2) := by decide +kernel
theorem dL_alike_140 : decode cL_alike 140 = .ok (.iconst 4, 1) := by decide +kernel
theorem dL_alike_141 : decode cL_alike 141 = .ok (.irem, 1) := by decide +kernel
theorem dL_alike_142 : decode cL_alike 142 = .ok (.iload_n 2, 1) := by decide +kernel
theorem dL_alike_143 : decode cL_alike 143 = .ok (.bipush 6, 2) := by decide +kernel
theorem dL_alike_145 : decode cL_alike 145 = .ok (.irem, 1) := by decide +kernel
theorem dL_alike_146 : decode cL_alike 146 = .ok (.iconst 0, 1) := by decide +kernel
theorem dL_alike_147 : decode cL_alike 147 = .ok (.invokestatic 168, 3) := by decide +kernel
theorem dL_alike_150 : decode cL_alike 150 = .ok (.if_icmp .ne 63, 3) := by decide +kernel
theorem dL_alike_153 : decode cL_alike 153 = .ok (.aload_n 0, 1) := by decide +kernel
theorem dL_alike_154 : decode cL_alike 154 = .ok (.iconst 5, 1) := by decide +kernel
theorem dL_alike_155 : decode cL_alike 155 = .ok (.iload_n 2, 1) := by decide +kernel
theorem dL_alike_156 : decode cL_alike 156 = .ok (.iconst 4, 1) := by decide +kernel
theorem dL_alike_157 : decode cL_alike 157 = .ok (.irem, 1) := by decide +kernel
theorem dL_alike_158 : decode cL_alike 158 = .ok (.iload 4, 2) := by decide +kernel
theorem dL_alike_160 : decode cL_alike 160 = .ok (.iload_n 2, 1) := by decide +kernel
theorem dL_alike_161 : decode cL_alike 161 = .ok (.iconst 2, 1) := by decide +kernel
theorem dL_alike_162 : decode cL_alike 162 = .ok (.irem, 1) := by decide +kernel
theorem dL_alike_163 : decode cL_alike 163 = .ok (.invokestatic 168, 3) := by decide +kernel
theorem dL_alike_166 : decode cL_alike 166 = .ok (.aload_n 1, 1) := by decide +kernel
theorem dL_alike_167 : decode cL_alike 167 = .ok (.iconst 5, 1) := by decide +kernel
theorem dL_alike_168 : decode cL_alike 168 = .ok (.iload_n 2, 1) := by decide +kernel
theorem dL_alike_169 : decode cL_alike 169 = .ok (.iconst 4, 1) := by decide +kernel
theorem dL_alike_170 : decode cL_alike 170 = .ok (.irem, 1) := by decide +kernel
theorem dL_alike_171 : decode cL_alike 171 = .ok (.iload 4, 2) := by decide +kernel
theorem dL_alike_173 : decode cL_alike 173 = .ok (.iload_n 2, 1) := by decide +kernel
theorem dL_alike_174 : decode cL_alike 174 = .ok (.iconst 2, 1) := by decide +kernel
theorem dL_alike_175 : decode cL_alike 175 = .ok (.irem, 1) := by decide +kernel
theorem dL_alike_176 : decode cL_alike 176 = .ok (.invokestatic 168, 3) := by decide +kernel
theorem dL_alike_179 : decode cL_alike 179 = .ok (.if_icmp .ne 34, 3) := by decide +kernel
theorem dL_alike_182 : decode cL_alike 182 = .ok (.aload_n 0, 1) := by decide +kernel
theorem dL_alike_183 : decode cL_alike 183 = .ok (.bipush 6, 2) := by decide +kernel
theorem dL_alike_185 : decode cL_alike 185 = .ok (.iload 4, 2) := by decide +kernel
theorem dL_alike_187 : decode cL_alike 187 = .ok (.iload_n 2, 1) := by decide +kernel
theorem dL_alike_188 : decode cL_alike 188 = .ok (.iconst 3, 1) := by decide +kernel
theorem dL_alike_189 : decode cL_alike 189 = .ok (.irem, 1) := by decide +kernel
theorem dL_alike_190 : decode cL_alike 190 = .ok (.iconst 0, 1) := by decide +kernel
theorem dL_alike_191 : decode cL_alike 191 = .ok (.invokestatic 168, 3) := by decide +kernel
theorem dL_alike_194 : decode cL_alike 194 = .ok (.aload_n 1, 1) := by decide +kernel
theorem dL_alike_195 : decode cL_alike 195 = .ok (.bipush 6, 2) := by decide +kernel
theorem dL_alike_197 : decode cL_alike 197 = .ok (.iload 4, 2) := by decide +kernel
theorem dL_alike_199 : decode cL_alike 199 = .ok (.iload_n 2, 1) := by decide +kernel
theorem dL_alike_200 : decode cL_alike 200 = .ok (.iconst 3, 1) := by decide +kernel
theorem dL_alike_201 : decode cL_alike 201 = .ok (.irem, 1) := by decide +kernel
theorem dL_alike_202 : decode cL_alike 202 = .ok (.iconst 0, 1) := by decide +kernel
theorem dL_alike_203 : decode cL_alike 203 = .ok (.invokestatic 168, 3) := by decide +kernel
theorem dL_alike_206 : decode cL_alike 206 = .ok (.if_icmp .ne 7, 3) := by decide +kernel
theorem dL_alike_209 : decode cL_alike 209 = .ok (.iconst 1, 1) := by decide +kernel
theorem dL_alike_210 : decode cL_alike 210 = .ok (.goto 4, 3) := by decide +kernel
theorem dL_alike_213 : decode cL_alike 213 = .ok (.iconst 0, 1) := by decide +kernel
theorem dL_alike_214 : decode cL_alike 214 = .ok (.istore_n 3, 1) := by decide +kernel
theorem dL_alike_215 : decode cL_alike 215 = .ok (.iinc 4 1, 3) := by decide +kernel
theorem dL_alike_218 : decode cL_alike 218 = .ok (.goto (-182), 3) := by decide +kernel
theorem dL_alike_221 : decode cL_alike 221 = .ok (.iload_n 3, 1) := by decide +kernel
theorem dL_alike_222 : decode cL_alike 222 = .ok (.ireturn, 1) := by decide +kernel
theorem dL_law_0 : decode cL_law 0 = .ok (.new 8, 3) := by decide +kernel
theorem dL_law_3 : decode cL_law 3 = .ok (.dup, 1) := by decide +kernel
theorem dL_law_4 : decode cL_law 4 = .ok (.invokespecial 186, 3) := by decide +kernel
theorem dL_law_7 : decode cL_law 7 = .ok (.astore_n 1, 1) := by decide +kernel
theorem dL_law_8 : decode cL_law 8 = .ok (.new 8, 3) := by decide +kernel
theorem dL_law_11 : decode cL_law 11 = .ok (.dup, 1) := by decide +kernel
theorem dL_law_12 : decode cL_law 12 = .ok (.invokespecial 186, 3) := by decide +kernel
theorem dL_law_15 : decode cL_law 15 = .ok (.astore_n 2, 1) := by decide +kernel
theorem dL_law_16 : decode cL_law 16 = .ok (.bipush 10, 2) := by decide +kernel
theorem dL_law_18 : decode cL_law 18 = .ok (.aload_n 0, 1) := by decide +kernel
theorem dL_law_19 : decode cL_law 19 = .ok (.iconst 0, 1) := by decide +kernel
theorem dL_law_20 : decode cL_law 20 = .ok (.invokestatic 187, 3) := by decide +kernel
theorem dL_law_23 : decode cL_law 23 = .ok (.bipush 21, 2) := by decide +kernel
theorem dL_law_25 : decode cL_law 25 = .ok (.irem, 1) := by decide +kernel
theorem dL_law_26 : decode cL_law 26 = .ok (.iadd, 1) := by decide +kernel
theorem dL_law_27 : decode cL_law 27 = .ok (.istore_n 3, 1) := by decide +kernel
theorem dL_law_28 : decode cL_law 28 = .ok (.iconst 1, 1) := by decide +kernel
theorem dL_law_29 : decode cL_law 29 = .ok (.istore 4, 2) := by decide +kernel
theorem dL_law_31 : decode cL_law 31 = .ok (.iconst 0, 1) := by decide +kernel
theorem dL_law_32 : decode cL_law 32 = .ok (.istore 5, 2) := by decide +kernel
theorem dL_law_34 : decode cL_law 34 = .ok (.iload 5, 2) := by decide +kernel
theorem dL_law_36 : decode cL_law 36 = .ok (.iload_n 3, 1) := by decide +kernel
theorem dL_law_37 : decode cL_law 37 = .ok (.if_icmp .ge 139, 3) := by decide +kernel
theorem dL_law_40 : decode cL_law 40 = .ok (.iload 4, 2) := by decide +kernel
theorem dL_law_42 : decode cL_law 42 = .ok (.ifCond .eq 134, 3) := by decide +kernel
theorem dL_law_45 : decode cL_law 45 = .ok (.aload_n 0, 1) := by decide +kernel
theorem dL_law_46 : decode cL_law 46 = .ok (.iconst 1, 1) := by decide +kernel
theorem dL_law_47 : decode cL_law 47 = .ok (.iload 5, 2) := by decide +kernel
theorem dL_law_49 : decode cL_law 49 = .ok (.iadd, 1) := by decide +kernel
theorem dL_law_50 : decode cL_law 50 = .ok (.invokestatic 187, 3) := by decide +kernel
theorem dL_law_53 : decode cL_law 53 = .ok (.istore 6, 2) := by decide +kernel
theorem dL_law_55 : decode cL_law 55 = .ok (.aload_n 1, 1) := by decide +kernel
theorem dL_law_56 : decode cL_law 56 = .ok (.iload 6, 2) := by decide +kernel
theorem dL_law_58 : decode cL_law 58 = .ok (.invokestatic 191, 3) := by decide +kernel
theorem dL_law_61 : decode cL_law 61 = .ok (.istore 7, 2) := by decide +kernel
theorem dL_law_63 : decode cL_law 63 = .ok (.aload_n 2, 1) := by decide +kernel
theorem dL_law_64 : decode cL_law 64 = .ok (.iload 6, 2) := by decide +kernel
theorem dL_law_66 : decode cL_law 66 = .ok (.ldc 194, 2) := by decide +kernel
theorem dL_law_68 : decode cL_law 68 = .ok (.irem, 1) := by decide +kernel
theorem dL_law_69 : decode cL_law 69 = .ok (.invokestatic 195, 3) := by decide +kernel
theorem dL_law_72 : decode cL_law 72 = .ok (.ifCond .eq 95, 3) := by decide +kernel
theorem dL_law_75 : decode cL_law 75 = .ok (.aload_n 2, 1) := by decide +kernel
theorem dL_law_76 : decode cL_law 76 = .ok (.iload 6, 2) := by decide +kernel
theorem dL_law_78 : decode cL_law 78 = .ok (.invokestatic 191, 3) := by decide +kernel
theorem dL_law_81 : decode cL_law 81 = .ok (.iload 7, 2) := by decide +kernel
theorem dL_law_83 : decode cL_law 83 = .ok (.if_icmp .ne 84, 3) := by decide +kernel
theorem dL_law_86 : decode cL_law 86 = .ok (.aload_n 2, 1) := by decide +kernel
theorem dL_law_87 : decode cL_law 87 = .ok (.iload 6, 2) := by decide +kernel
theorem dL_law_89 : decode cL_law 89 = .ok (.sipush 1000, 3) := by decide +kernel
theorem dL_law_92 : decode cL_law 92 = .ok (.irem, 1) := by decide +kernel
theorem dL_law_93 : decode cL_law 93 = .ok (.invokestatic 195, 3) := by decide +kernel
theorem dL_law_96 : decode cL_law 96 = .ok (.ifCond .eq 71, 3) := by decide +kernel
theorem dL_law_99 : decode cL_law 99 = .ok (.aload_n 1, 1) := by decide +kernel
theorem dL_law_100 : decode cL_law 100 = .ok (.aload_n 2, 1) := by decide +kernel
theorem dL_law_101 : decode cL_law 101 = .ok (.iload 6, 2) := by decide +kernel
theorem dL_law_103 : decode cL_law 103 = .ok (.sipush 5000, 3) := by decide +kernel
theorem dL_law_106 : decode cL_law 106 = .ok (.irem, 1) := by decide +kernel
theorem dL_law_107 : decode cL_law 107 = .ok (.invokestatic 199, 3) := by decide +kernel
theorem dL_law_110 : decode cL_law 110 = .ok (.ifCond .eq 57, 3) := by decide +kernel
theorem dL_law_113 : decode cL_law 113 = .ok (.iload 5, 2) := by decide +kernel
theorem dL_law_115 : decode cL_law 115 = .ok (.iconst 2, 1) := by decide +kernel
theorem dL_law_116 : decode cL_law 116 = .ok (.irem, 1) := by decide +kernel
theorem dL_law_117 : decode cL_law 117 = .ok (.ifCond .ne 13, 3) := by decide +kernel
theorem dL_law_120 : decode cL_law 120 = .ok (.aload_n 1, 1) := by decide +kernel
theorem dL_law_121 : decode cL_law 121 = .ok (.invokestatic 203, 3) := by decide +kernel
theorem dL_law_124 : decode cL_law 124 = .ok (.ifCond .eq 43, 3) := by decide +kernel
theorem dL_law_127 : decode cL_law 127 = .ok (.goto 10, 3) := by decide +kernel
theorem dL_law_130 : decode cL_law 130 = .ok (.aload_n 2, 1) := by decide +kernel
theorem dL_law_131 : decode cL_law 131 = .ok (.invokestatic 203, 3) := by decide +kernel
theorem dL_law_134 : decode cL_law 134 = .ok (.ifCond .eq 33, 3) := by decide +kernel
theorem dL_law_137 : decode cL_law 137 = .ok (.aload_n 1, 1) := by decide +kernel
theorem dL_law_138 : decode cL_law 138 = .ok (.aload_n 2, 1) := by decide +kernel
theorem dL_law_139 : decode cL_law 139 = .ok (.iload 6, 2) := by decide +kernel
theorem dL_law_141 : decode cL_law 141 = .ok (.bipush 7, 2) := by decide +kernel
theorem dL_law_143 : decode cL_law 143 = .ok (.idiv, 1) := by decide +kernel
theorem dL_law_144 : decode cL_law 144 = .ok (.invokestatic 207, 3) := by decide +kernel
theorem dL_law_147 : decode cL_law 147 = .ok (.ifCond .eq 20, 3) := by decide +kernel
theorem dL_law_150 : decode cL_law 150 = .ok (.aload_n 1, 1) := by decide +kernel
theorem dL_law_151 : decode cL_law 151 = .ok (.aload_n 2, 1) := by decide +kernel
theorem dL_law_152 : decode cL_law 152 = .ok (.iload 6, 2) := by decide +kernel
theorem dL_law_154 : decode cL_law 154 = .ok (.bipush 11, 2) := by decide +kernel
theorem dL_law_156 : decode cL_law 156 = .ok (.idiv, 1) := by decide +kernel
theorem dL_law_157 : decode cL_law 157 = .ok (.invokestatic 210, 3) := by decide +kernel
theorem dL_law_160 : decode cL_law 160 = .ok (.ifCond .eq 7, 3) := by decide +kernel
theorem dL_law_163 : decode cL_law 163 = .ok (.iconst 1, 1) := by decide +kernel
theorem dL_law_164 : decode cL_law 164 = .ok (.goto 4, 3) := by decide +kernel
theorem dL_law_167 : decode cL_law 167 = .ok (.iconst 0, 1) := by decide +kernel
theorem dL_law_168 : decode cL_law 168 = .ok (.istore 4, 2) := by decide +kernel
theorem dL_law_170 : decode cL_law 170 = .ok (.iinc 5 1, 3) := by decide +kernel
theorem dL_law_173 : decode cL_law 173 = .ok (.goto (-139), 3) := by decide +kernel
theorem dL_law_176 : decode cL_law 176 = .ok (.iload 4, 2) := by decide +kernel
theorem dL_law_178 : decode cL_law 178 = .ok (.ireturn, 1) := by decide +kernel
theorem dL_done_0 : decode cL_done 0 = .ok (.iload_n 2, 1) := by decide +kernel
theorem dL_done_1 : decode cL_done 1 = .ok (.aload_n 0, 1) := by decide +kernel
theorem dL_done_2 : decode cL_done 2 = .ok (.iconst 2, 1) := by decide +kernel
theorem dL_done_3 : decode cL_done 3 = .ok (.iconst 0, 1) := by decide +kernel
theorem dL_done_4 : decode cL_done 4 = .ok (.iconst 0, 1) := by decide +kernel
theorem dL_done_5 : decode cL_done 5 = .ok (.iconst 0, 1) := by decide +kernel
theorem dL_done_6 : decode cL_done 6 = .ok (.invokestatic 168, 3) := by decide +kernel
theorem dL_done_9 : decode cL_done 9 = .ok (.irem, 1) := by decide +kernel
theorem dL_done_10 : decode cL_done 10 = .ok (.istore_n 3, 1) := by decide +kernel
theorem dL_done_11 : decode cL_done 11 = .ok (.aload_n 0, 1) := by decide +kernel
theorem dL_done_12 : decode cL_done 12 = .ok (.bipush 15, 2) := by decide +kernel
theorem dL_done_14 : decode cL_done 14 = .ok (.iload_n 3, 1) := by decide +kernel
theorem dL_done_15 : decode cL_done 15 = .ok (.iconst 0, 1) := by decide +kernel
theorem dL_done_16 : decode cL_done 16 = .ok (.iconst 0, 1) := by decide +kernel
theorem dL_done_17 : decode cL_done 17 = .ok (.invokestatic 168, 3) := by decide +kernel
theorem dL_done_20 : decode cL_done 20 = .ok (.istore 4, 2) := by decide +kernel
theorem dL_done_22 : decode cL_done 22 = .ok (.aload_n 0, 1) := by decide +kernel
theorem dL_done_23 : decode cL_done 23 = .ok (.iconst 2, 1) := by decide +kernel
theorem dL_done_24 : decode cL_done 24 = .ok (.iconst 1, 1) := by decide +kernel
theorem dL_done_25 : decode cL_done 25 = .ok (.iconst 0, 1) := by decide +kernel
theorem dL_done_26 : decode cL_done 26 = .ok (.iconst 0, 1) := by decide +kernel
theorem dL_done_27 : decode cL_done 27 = .ok (.invokestatic 168, 3) := by decide +kernel
theorem dL_done_30 : decode cL_done 30 = .ok (.istore 5, 2) := by decide +kernel
theorem dL_done_32 : decode cL_done 32 = .ok (.aload_n 0, 1) := by decide +kernel
theorem dL_done_33 : decode cL_done 33 = .ok (.iconst 2, 1) := by decide +kernel
theorem dL_done_34 : decode cL_done 34 = .ok (.bipush 7, 2) := by decide +kernel
theorem dL_done_36 : decode cL_done 36 = .ok (.iconst 0, 1) := by decide +kernel
theorem dL_done_37 : decode cL_done 37 = .ok (.iconst 0, 1) := by decide +kernel
theorem dL_done_38 : decode cL_done 38 = .ok (.invokestatic 168, 3) := by decide +kernel
theorem dL_done_41 : decode cL_done 41 = .ok (.istore 6, 2) := by decide +kernel
theorem dL_done_43 : decode cL_done 43 = .ok (.iload 4, 2) := by decide +kernel
theorem dL_done_45 : decode cL_done 45 = .ok (.ifCond .le 23, 3) := by decide +kernel
theorem dL_done_48 : decode cL_done 48 = .ok (.iload 4, 2) := by decide +kernel
theorem dL_done_50 : decode cL_done 50 = .ok (.bipush 100, 2) := by decide +kernel
theorem dL_done_52 : decode cL_done 52 = .ok (.if_icmp .ge 16, 3) := by decide +kernel
theorem dL_done_55 : decode cL_done 55 = .ok (.iload_n 2, 1) := by decide +kernel
theorem dL_done_56 : decode cL_done 56 = .ok (.iconst 4, 1) := by decide +kernel
theorem dL_done_57 : decode cL_done 57 = .ok (.idiv, 1) := by decide +kernel
theorem dL_done_58 : decode cL_done 58 = .ok (.iconst 2, 1) := by decide +kernel
theorem dL_done_59 : decode cL_done 59 = .ok (.irem, 1) := by decide +kernel
theorem dL_done_60 : decode cL_done 60 = .ok (.ifCond .ne 8, 3) := by decide +kernel
theorem dL_done_63 : decode cL_done 63 = .ok (.iload 4, 2) := by decide +kernel
theorem dL_done_65 : decode cL_done 65 = .ok (.goto 12, 3) := by decide +kernel
theorem dL_done_68 : decode cL_done 68 = .ok (.iconst 1, 1) := by decide +kernel
theorem dL_done_69 : decode cL_done 69 = .ok (.iload_n 2, 1) := by decide +kernel
theorem dL_done_70 : decode cL_done 70 = .ok (.bipush 8, 2) := by decide +kernel
theorem dL_done_72 : decode cL_done 72 = .ok (.idiv, 1) := by decide +kernel
theorem dL_done_73 : decode cL_done 73 = .ok (.bipush 99, 2) := by decide +kernel
theorem dL_done_75 : decode cL_done 75 = .ok (.irem, 1) := by decide +kernel
theorem dL_done_76 : decode cL_done 76 = .ok (.iadd, 1) := by decide +kernel
theorem dL_done_77 : decode cL_done 77 = .ok (.istore 7, 2) := by decide +kernel
theorem dL_done_79 : decode cL_done 79 = .ok (.aload_n 0, 1) := by decide +kernel
theorem dL_done_80 : decode cL_done 80 = .ok (.bipush 12, 2) := by decide +kernel
theorem dL_done_82 : decode cL_done 82 = .ok (.iload 7, 2) := by decide +kernel
theorem dL_done_84 : decode cL_done 84 = .ok (.iconst 0, 1) := by decide +kernel
theorem dL_done_85 : decode cL_done 85 = .ok (.iconst 0, 1) := by decide +kernel
theorem dL_done_86 : decode cL_done 86 = .ok (.invokestatic 168, 3) := by decide +kernel
theorem dL_done_89 : decode cL_done 89 = .ok (.istore 8, 2) := by decide +kernel
theorem dL_done_91 : decode cL_done 91 = .ok (.aload_n 0, 1) := by decide +kernel
theorem dL_done_92 : decode cL_done 92 = .ok (.iconst 3, 1) := by decide +kernel
theorem dL_done_93 : decode cL_done 93 = .ok (.iload_n 3, 1) := by decide +kernel
theorem dL_done_94 : decode cL_done 94 = .ok (.iconst 0, 1) := by decide +kernel
theorem dL_done_95 : decode cL_done 95 = .ok (.iconst 0, 1) := by decide +kernel
theorem dL_done_96 : decode cL_done 96 = .ok (.invokestatic 168, 3) := by decide +kernel
theorem dL_done_99 : decode cL_done 99 = .ok (.ifCond .ne 18, 3) := by decide +kernel
theorem dL_done_102 : decode cL_done 102 = .ok (.aload_n 0, 1) := by decide +kernel
theorem dL_done_103 : decode cL_done 103 = .ok (.iconst 3, 1) := by decide +kernel
theorem dL_done_104 : decode cL_done 104 = .ok (.iload_n 3, 1) := by decide +kernel
theorem dL_done_105 : decode cL_done 105 = .ok (.iconst 1, 1) := by decide +kernel
theorem dL_done_106 : decode cL_done 106 = .ok (.iconst 0, 1) := by decide +kernel
theorem dL_done_107 : decode cL_done 107 = .ok (.invokestatic 168, 3) := by decide +kernel
theorem dL_done_110 : decode cL_done 110 = .ok (.ifCond .ne 7, 3) := by decide +kernel
theorem dL_done_113 : decode cL_done 113 = .ok (.iconst 1, 1) := by decide +kernel
theorem dL_done_114 : decode cL_done 114 = .ok (.goto 4, 3) := by decide +kernel
theorem dL_done_117 : decode cL_done 117 = .ok (.iconst 0, 1) := by decide +kernel
theorem dL_done_118 : decode cL_done 118 = .ok (.istore 9, 2) := by decide +kernel
theorem dL_done_120 : decode cL_done 120 = .ok (.aload_n 1, 1) := by decide +kernel
theorem dL_done_121 : decode cL_done 121 = .ok (.bipush 12, 2) := by decide +kernel
theorem dL_done_123 : decode cL_done 123 = .ok (.iload 7, 2) := by decide +kernel
theorem dL_done_125 : decode cL_done 125 = .ok (.iconst 0, 1) := by decide +kernel
theorem dL_done_126 : decode cL_done 126 = .ok (.iconst 0, 1) := by decide +kernel
theorem dL_done_127 : decode cL_done 127 = .ok (.invokestatic 168, 3) := by decide +kernel
theorem dL_done_130 : decode cL_done 130 = .ok (.iload 8, 2) := by decide +kernel
theorem dL_done_132 : decode cL_done 132 = .ok (.if_icmp .ne 100, 3) := by decide +kernel
theorem dL_done_135 : decode cL_done 135 = .ok (.aload_n 0, 1) := by decide +kernel
theorem dL_done_136 : decode cL_done 136 = .ok (.iconst 2, 1) := by decide +kernel
theorem dL_done_137 : decode cL_done 137 = .ok (.bipush 7, 2) := by decide +kernel
theorem dL_done_139 : decode cL_done 139 = .ok (.iconst 0, 1) := by decide +kernel
theorem dL_done_140 : decode cL_done 140 = .ok (.iconst 0, 1) := by decide +kernel
theorem dL_done_141 : decode cL_done 141 = .ok (.invokestatic 168, 3) := by decide +kernel
theorem dL_done_144 : decode cL_done 144 = .ok (.iload 6, 2) := by decide +kernel
theorem dL_done_146 : decode cL_done 146 = .ok (.iload 8, 2) := by decide +kernel
theorem dL_done_148 : decode cL_done 148 = .ok (.iadd, 1) := by decide +kernel
theorem dL_done_149 : decode cL_done 149 = .ok (.if_icmp .ne 83, 3) := by decide +kernel
theorem dL_done_152 : decode cL_done 152 = .ok (.aload_n 0, 1) := by decide +kernel
theorem dL_done_153 : decode cL_done 153 = .ok (.iconst 2, 1) := by decide +kernel
theorem dL_done_154 : decode cL_done 154 = .ok (.iconst 1, 1) := by decide +kernel
theorem dL_done_155 : decode cL_done 155 = .ok (.iconst 0, 1) := by decide +kernel
theorem dL_done_156 : decode cL_done 156 = .ok (.iconst 0, 1) := by decide +kernel
theorem dL_done_157 : decode cL_done 157 = .ok (.invokestatic 168, 3) := by decide +kernel
theorem dL_done_160 : decode cL_done 160 = .ok (.iload 5, 2) := by decide +kernel
theorem dL_done_162 : decode cL_done 162 = .ok (.iload 7, 2) := by decide +kernel
theorem dL_done_164 : decode cL_done 164 = .ok (.iadd, 1) := by decide +kernel
theorem dL_done_165 : decode cL_done 165 = .ok (.if_icmp .ne 67, 3) := by decide +kernel
theorem dL_done_168 : decode cL_done 168 = .ok (.iload 4, 2) := by decide +kernel
theorem dL_done_170 : decode cL_done 170 = .ok (.iconst (-1), 1) := by decide +kernel
theorem dL_done_171 : decode cL_done 171 = .ok (.if_icmp .eq 27, 3) := by decide +kernel
theorem dL_done_174 : decode cL_done 174 = .ok (.iload 7, 2) := by decide +kernel
theorem dL_done_176 : decode cL_done 176 = .ok (.iload 4, 2) := by decide +kernel
theorem dL_done_178 : decode cL_done 178 = .ok (.if_icmp .lt 20, 3) := by decide +kernel
theorem dL_done_181 : decode cL_done 181 = .ok (.iload 9, 2) := by decide +kernel
theorem dL_done_183 : decode cL_done 183 = .ok (.ifCond .eq 49, 3) := by decide +kernel
theorem dL_done_186 : decode cL_done 186 = .ok (.aload_n 0, 1) := by decide +kernel
theorem dL_done_187 : decode cL_done 187 = .ok (.bipush 15, 2) := by decide +kernel
theorem dL_done_189 : decode cL_done 189 = .ok (.iload_n 3, 1) := by decide +kernel
theorem dL_done_190 : decode cL_done 190 = .ok (.iconst 0, 1) := by decide +kernel
theorem dL_done_191 : decode cL_done 191 = .ok (.iconst 0, 1) := by decide +kernel
theorem dL_done_192 : decode cL_done 192 = .ok (.invokestatic 168, 3) := by decide +kernel
theorem dL_done_195 : decode cL_done 195 = .ok (.ifCond .ne 37, 3) := by decide +kernel
theorem dL_done_198 : decode cL_done 198 = .ok (.iload 4, 2) := by decide +kernel
theorem dL_done_200 : decode cL_done 200 = .ok (.iconst (-1), 1) := by decide +kernel
theorem dL_done_201 : decode cL_done 201 = .ok (.if_icmp .eq 27, 3) := by decide +kernel
theorem dL_done_204 : decode cL_done 204 = .ok (.iload 7, 2) := by decide +kernel
theorem dL_done_206 : decode cL_done 206 = .ok (.iload 4, 2) := by decide +kernel
theorem dL_done_208 : decode cL_done 208 = .ok (.if_icmp .ge 20, 3) := by decide +kernel
theorem dL_done_211 : decode cL_done 211 = .ok (.aload_n 0, 1) := by decide +kernel
theorem dL_done_212 : decode cL_done 212 = .ok (.bipush 15, 2) := by decide +kernel
theorem dL_done_214 : decode cL_done 214 = .ok (.iload_n 3, 1) := by decide +kernel
theorem dL_done_215 : decode cL_done 215 = .ok (.iconst 0, 1) := by decide +kernel
theorem dL_done_216 : decode cL_done 216 = .ok (.iconst 0, 1) := by decide +kernel
theorem dL_done_217 : decode cL_done 217 = .ok (.invokestatic 168, 3) := by decide +kernel
theorem dL_done_220 : decode cL_done 220 = .ok (.iload 4, 2) := by decide +kernel
theorem dL_done_222 : decode cL_done 222 = .ok (.iload 7, 2) := by decide +kernel
theorem dL_done_224 : decode cL_done 224 = .ok (.isub, 1) := by decide +kernel
theorem dL_done_225 : decode cL_done 225 = .ok (.if_icmp .ne 7, 3) := by decide +kernel
theorem dL_done_228 : decode cL_done 228 = .ok (.iconst 1, 1) := by decide +kernel
theorem dL_done_229 : decode cL_done 229 = .ok (.goto 4, 3) := by decide +kernel
theorem dL_done_232 : decode cL_done 232 = .ok (.iconst 0, 1) := by decide +kernel
theorem dL_done_233 : decode cL_done 233 = .ok (.istore 10, 2) := by decide +kernel
theorem dL_done_235 : decode cL_done 235 = .ok (.iload 10, 2) := by decide +kernel
theorem dL_done_237 : decode cL_done 237 = .ok (.ifCond .eq 65, 3) := by decide +kernel
theorem dL_done_240 : decode cL_done 240 = .ok (.aload_n 0, 1) := by decide +kernel
theorem dL_done_241 : decode cL_done 241 = .ok (.bipush 14, 2) := by decide +kernel
theorem dL_done_243 : decode cL_done 243 = .ok (.iconst 0, 1) := by decide +kernel
theorem dL_done_244 : decode cL_done 244 = .ok (.iconst 0, 1) := by decide +kernel
theorem dL_done_245 : decode cL_done 245 = .ok (.iconst 0, 1) := by decide +kernel
theorem dL_done_246 : decode cL_done 246 = .ok (.invokestatic 168, 3) := by decide +kernel
theorem dL_done_249 : decode cL_done 249 = .ok (.invokestatic 213, 3) := by decide +kernel
theorem dL_done_252 : decode cL_done 252 = .ok (.ifCond .ne 50, 3) := by decide +kernel
theorem dL_done_255 : decode cL_done 255 = .ok (.aload_n 1, 1) := by decide +kernel
theorem dL_done_256 : decode cL_done 256 = .ok (.bipush 14, 2) := by decide +kernel
theorem dL_done_258 : decode cL_done 258 = .ok (.iconst 0, 1) := by decide +kernel
theorem dL_done_259 : decode cL_done 259 = .ok (.iconst 0, 1) := by decide +kernel
theorem dL_done_260 : decode cL_done 260 = .ok (.iconst 0, 1) := by decide +kernel
theorem dL_done_261 : decode cL_done 261 = .ok (.invokestatic 168, 3) := by decide +kernel
theorem dL_done_264 : decode cL_done 264 = .ok (.invokestatic 213, 3) := by decide +kernel
theorem dL_done_267 : decode cL_done 267 = .ok (.ifCond .ne 35, 3) := by decide +kernel
theorem dL_done_270 : decode cL_done 270 = .ok (.aload_n 0, 1) := by decide +kernel
theorem dL_done_271 : decode cL_done 271 = .ok (.bipush 15, 2) := by decide +kernel
theorem dL_done_273 : decode cL_done 273 = .ok (.iload_n 3, 1) := by decide +kernel
theorem dL_done_274 : decode cL_done 274 = .ok (.iconst 0, 1) := by decide +kernel
theorem dL_done_275 : decode cL_done 275 = .ok (.iconst 0, 1) := by decide +kernel
theorem dL_done_276 : decode cL_done 276 = .ok (.invokestatic 168, 3) := by decide +kernel
theorem dL_done_279 : decode cL_done 279 = .ok (.iload 4, 2) := by decide +kernel
theorem dL_done_281 : decode cL_done 281 = .ok (.if_icmp .ne 21, 3) := by decide +kernel
theorem dL_done_284 : decode cL_done 284 = .ok (.aload_n 0, 1) := by decide +kernel
theorem dL_done_285 : decode cL_done 285 = .ok (.iconst 2, 1) := by decide +kernel
theorem dL_done_286 : decode cL_done 286 = .ok (.bipush 7, 2) := by decide +kernel
theorem dL_done_288 : decode cL_done 288 = .ok (.iconst 0, 1) := by decide +kernel
theorem dL_done_289 : decode cL_done 289 = .ok (.iconst 0, 1) := by decide +kernel
theorem dL_done_290 : decode cL_done 290 = .ok (.invokestatic 168, 3) := by decide +kernel
theorem dL_done_293 : decode cL_done 293 = .ok (.iload 6, 2) := by decide +kernel
theorem dL_done_295 : decode cL_done 295 = .ok (.if_icmp .ne 7, 3) := by decide +kernel
theorem dL_done_298 : decode cL_done 298 = .ok (.iconst 1, 1) := by decide +kernel
theorem dL_done_299 : decode cL_done 299 = .ok (.goto 4, 3) := by decide +kernel
theorem dL_done_302 : decode cL_done 302 = .ok (.iconst 0, 1) := by decide +kernel
theorem dL_done_303 : decode cL_done 303 = .ok (.ireturn, 1) := by decide +kernel
theorem dL_there_0 : decode cL_there 0 = .ok (.iload_n 2, 1) := by decide +kernel
theorem dL_there_1 : decode cL_there 1 = .ok (.aload_n 0, 1) := by decide +kernel
theorem dL_there_2 : decode cL_there 2 = .ok (.iconst 2, 1) := by decide +kernel
theorem dL_there_3 : decode cL_there 3 = .ok (.iconst 0, 1) := by decide +kernel
theorem dL_there_4 : decode cL_there 4 = .ok (.iconst 0, 1) := by decide +kernel
theorem dL_there_5 : decode cL_there 5 = .ok (.iconst 0, 1) := by decide +kernel
theorem dL_there_6 : decode cL_there 6 = .ok (.invokestatic 168, 3) := by decide +kernel
theorem dL_there_9 : decode cL_there 9 = .ok (.irem, 1) := by decide +kernel
theorem dL_there_10 : decode cL_there 10 = .ok (.istore_n 3, 1) := by decide +kernel
theorem dL_there_11 : decode cL_there 11 = .ok (.iconst 1, 1) := by decide +kernel
theorem dL_there_12 : decode cL_there 12 = .ok (.iload_n 2, 1) := by decide +kernel
theorem dL_there_13 : decode cL_there 13 = .ok (.iconst 4, 1) := by decide +kernel
theorem dL_there_14 : decode cL_there 14 = .ok (.idiv, 1) := by decide +kernel
theorem dL_there_15 : decode cL_there 15 = .ok (.bipush 80, 2) := by decide +kernel
theorem dL_there_17 : decode cL_there 17 = .ok (.irem, 1) := by decide +kernel
theorem dL_there_18 : decode cL_there 18 = .ok (.iadd, 1) := by decide +kernel
theorem dL_there_19 : decode cL_there 19 = .ok (.istore 4, 2) := by decide +kernel
theorem dL_there_21 : decode cL_there 21 = .ok (.aload_n 0, 1) := by decide +kernel
theorem dL_there_22 : decode cL_there 22 = .ok (.bipush 16, 2) := by decide +kernel
theorem dL_there_24 : decode cL_there 24 = .ok (.iload_n 3, 1) := by decide +kernel
theorem dL_there_25 : decode cL_there 25 = .ok (.iload 4, 2) := by decide +kernel
theorem dL_there_27 : decode cL_there 27 = .ok (.iconst 0, 1) := by decide +kernel
theorem dL_there_28 : decode cL_there 28 = .ok (.invokestatic 168, 3) := by decide +kernel
theorem dL_there_31 : decode cL_there 31 = .ok (.istore 5, 2) := by decide +kernel
theorem dL_there_33 : decode cL_there 33 = .ok (.aload_n 0, 1) := by decide +kernel
theorem dL_there_34 : decode cL_there 34 = .ok (.bipush 9, 2) := by decide +kernel
theorem dL_there_36 : decode cL_there 36 = .ok (.iload_n 3, 1) := by decide +kernel
theorem dL_there_37 : decode cL_there 37 = .ok (.iload 4, 2) := by decide +kernel
theorem dL_there_39 : decode cL_there 39 = .ok (.iconst 0, 1) := by decide +kernel
theorem dL_there_40 : decode cL_there 40 = .ok (.invokestatic 168, 3) := by decide +kernel
theorem dL_there_43 : decode cL_there 43 = .ok (.istore 6, 2) := by decide +kernel
theorem dL_there_45 : decode cL_there 45 = .ok (.aload_n 1, 1) := by decide +kernel
theorem dL_there_46 : decode cL_there 46 = .ok (.bipush 9, 2) := by decide +kernel
theorem dL_there_48 : decode cL_there 48 = .ok (.iload_n 3, 1) := by decide +kernel
theorem dL_there_49 : decode cL_there 49 = .ok (.iload 4, 2) := by decide +kernel
theorem dL_there_51 : decode cL_there 51 = .ok (.iconst 0, 1) := by decide +kernel
theorem dL_there_52 : decode cL_there 52 = .ok (.invokestatic 168, 3) := by decide +kernel
theorem dL_there_55 : decode cL_there 55 = .ok (.iload 6, 2) := by decide +kernel
theorem dL_there_57 : decode cL_there 57 = .ok (.if_icmp .ne 7, 3) := by decide +kernel
theorem dL_there_60 : decode cL_there 60 = .ok (.iconst 1, 1) := by decide +kernel
theorem dL_there_61 : decode cL_there 61 = .ok (.goto 4, 3) := by decide +kernel
theorem dL_there_64 : decode cL_there 64 = .ok (.iconst 0, 1) := by decide +kernel
theorem dL_there_65 : decode cL_there 65 = .ok (.istore 7, 2) := by decide +kernel
theorem dL_there_67 : decode cL_there 67 = .ok (.iload 6, 2) := by decide +kernel
theorem dL_there_69 : decode cL_there 69 = .ok (.ldc 33, 2) := by decide +kernel
theorem dL_there_71 : decode cL_there 71 = .ok (.if_icmp .ne 20, 3) := by decide +kernel
theorem dL_there_74 : decode cL_there 74 = .ok (.iload 7, 2) := by decide +kernel
theorem dL_there_76 : decode cL_there 76 = .ok (.ifCond .eq 13, 3) := by decide +kernel
theorem dL_there_79 : decode cL_there 79 = .ok (.iload 5, 2) := by decide +kernel
theorem dL_there_81 : decode cL_there 81 = .ok (.iconst (-1), 1) := by decide +kernel
theorem dL_there_82 : decode cL_there 82 = .ok (.if_icmp .ne 7, 3) := by decide +kernel
theorem dL_there_85 : decode cL_there 85 = .ok (.iconst 1, 1) := by decide +kernel
theorem dL_there_86 : decode cL_there 86 = .ok (.goto 4, 3) := by decide +kernel
theorem dL_there_89 : decode cL_there 89 = .ok (.iconst 0, 1) := by decide +kernel
theorem dL_there_90 : decode cL_there 90 = .ok (.ireturn, 1) := by decide +kernel
theorem dL_there_91 : decode cL_there 91 = .ok (.aload_n 0, 1) := by decide +kernel
theorem dL_there_92 : decode cL_there 92 = .ok (.iconst 3, 1) := by decide +kernel
theorem dL_there_93 : decode cL_there 93 = .ok (.iload_n 3, 1) := by decide +kernel
theorem dL_there_94 : decode cL_there 94 = .ok (.iconst 3, 1) := by decide +kernel
theorem dL_there_95 : decode cL_there 95 = .ok (.iconst 0, 1) := by decide +kernel
theorem dL_there_96 : decode cL_there 96 = .ok (.invokestatic 168, 3) := by decide +kernel
theorem dL_there_99 : decode cL_there 99 = .ok (.istore 8, 2) := by decide +kernel
theorem dL_there_101 : decode cL_there 101 = .ok (.iload 5, 2) := by decide +kernel
theorem dL_there_103 : decode cL_there 103 = .ok (.iconst (-1), 1) := by decide +kernel
theorem dL_there_104 : decode cL_there 104 = .ok (.if_icmp .eq 15, 3) := by decide +kernel
theorem dL_there_107 : decode cL_there 107 = .ok (.iload 5, 2) := by decide +kernel
theorem dL_there_109 : decode cL_there 109 = .ok (.bipush 100, 2) := by decide +kernel
theorem dL_there_111 : decode cL_there 111 = .ok (.if_icmp .ge 8, 3) := by decide +kernel
theorem dL_there_114 : decode cL_there 114 = .ok (.iload 5, 2) := by decide +kernel
theorem dL_there_116 : decode cL_there 116 = .ok (.goto 5, 3) := by decide +kernel
theorem dL_there_119 : decode cL_there 119 = .ok (.bipush 99, 2) := by decide +kernel
theorem dL_there_121 : decode cL_there 121 = .ok (.istore 9, 2) := by decide +kernel
theorem dL_there_123 : decode cL_there 123 = .ok (.iload 7, 2) := by decide +kernel
theorem dL_there_125 : decode cL_there 125 = .ok (.ifCond .eq 69, 3) := by decide +kernel
theorem dL_there_128 : decode cL_there 128 = .ok (.aload_n 0, 1) := by decide +kernel
theorem dL_there_129 : decode cL_there 129 = .ok (.bipush 12, 2) := by decide +kernel
theorem dL_there_131 : decode cL_there 131 = .ok (.iload 9, 2) := by decide +kernel
theorem dL_there_133 : decode cL_there 133 = .ok (.iconst 0, 1) := by decide +kernel
theorem dL_there_134 : decode cL_there 134 = .ok (.iconst 0, 1) := by decide +kernel
theorem dL_there_135 : decode cL_there 135 = .ok (.invokestatic 168, 3) := by decide +kernel
theorem dL_there_138 : decode cL_there 138 = .ok (.aload_n 1, 1) := by decide +kernel
theorem dL_there_139 : decode cL_there 139 = .ok (.bipush 12, 2) := by decide +kernel
theorem dL_there_141 : decode cL_there 141 = .ok (.iload 9, 2) := by decide +kernel
theorem dL_there_143 : decode cL_there 143 = .ok (.iconst 0, 1) := by decide +kernel
theorem dL_there_144 : decode cL_there 144 = .ok (.iconst 0, 1) := by decide +kernel
theorem dL_there_145 : decode cL_there 145 = .ok (.invokestatic 168, 3) := by decide +kernel
theorem dL_there_148 : decode cL_there 148 = .ok (.if_icmp .ne 46, 3) := by decide +kernel
theorem dL_there_151 : decode cL_there 151 = .ok (.aload_n 0, 1) := by decide +kernel
theorem dL_there_152 : decode cL_there 152 = .ok (.iconst 4, 1) := by decide +kernel
theorem dL_there_153 : decode cL_there 153 = .ok (.iload_n 3, 1) := by decide +kernel
theorem dL_there_154 : decode cL_there 154 = .ok (.iconst 0, 1) := by decide +kernel
theorem dL_there_155 : decode cL_there 155 = .ok (.iconst 0, 1) := by decide +kernel
theorem dL_there_156 : decode cL_there 156 = .ok (.invokestatic 168, 3) := by decide +kernel
theorem dL_there_159 : decode cL_there 159 = .ok (.iload 8, 2) := by decide +kernel
theorem dL_there_161 : decode cL_there 161 = .ok (.if_icmp .lt 7, 3) := by decide +kernel
theorem dL_there_164 : decode cL_there 164 = .ok (.iconst 1, 1) := by decide +kernel
theorem dL_there_165 : decode cL_there 165 = .ok (.goto 4, 3) := by decide +kernel
theorem dL_there_168 : decode cL_there 168 = .ok (.iconst 0, 1) := by decide +kernel
theorem dL_there_169 : decode cL_there 169 = .ok (.iload 5, 2) := by decide +kernel
theorem dL_there_171 : decode cL_there 171 = .ok (.iconst (-1), 1) := by decide +kernel
theorem dL_there_172 : decode cL_there 172 = .ok (.if_icmp .eq 14, 3) := by decide +kernel
theorem dL_there_175 : decode cL_there 175 = .ok (.iload 5, 2) := by decide +kernel
theorem dL_there_177 : decode cL_there 177 = .ok (.iload 9, 2) := by decide +kernel
theorem dL_there_179 : decode cL_there 179 = .ok (.if_icmp .gt 7, 3) := by decide +kernel
theorem dL_there_182 : decode cL_there 182 = .ok (.iconst 1, 1) := by decide +kernel
theorem dL_there_183 : decode cL_there 183 = .ok (.goto 4, 3) := by decide +kernel
theorem dL_there_186 : decode cL_there 186 = .ok (.iconst 0, 1) := by decide +kernel
theorem dL_there_187 : decode cL_there 187 = .ok (.if_icmp .ne 7, 3) := by decide +kernel
theorem dL_there_190 : decode cL_there 190 = .ok (.iconst 1, 1) := by decide +kernel
theorem dL_there_191 : decode cL_there 191 = .ok (.goto 4, 3) := by decide +kernel
theorem dL_there_194 : decode cL_there 194 = .ok (.iconst 0, 1) := by decide +kernel
theorem dL_there_195 : decode cL_there 195 = .ok (.istore 7, 2) := by decide +kernel
theorem dL_there_197 : decode cL_there 197 = .ok (.iload 7, 2) := by decide +kernel
theorem dL_there_199 : decode cL_there 199 = .ok (.ifCond .eq 96, 3) := by decide +kernel
theorem dL_there_202 : decode cL_there 202 = .ok (.iload 5, 2) := by decide +kernel
theorem dL_there_204 : decode cL_there 204 = .ok (.iload 9, 2) := by decide +kernel
theorem dL_there_206 : decode cL_there 206 = .ok (.if_icmp .ne 89, 3) := by decide +kernel
theorem dL_there_209 : decode cL_there 209 = .ok (.iload 5, 2) := by decide +kernel
theorem dL_there_211 : decode cL_there 211 = .ok (.iconst 1, 1) := by decide +kernel
theorem dL_there_212 : decode cL_there 212 = .ok (.if_icmp .le 83, 3) := by decide +kernel
theorem dL_there_215 : decode cL_there 215 = .ok (.aload_n 0, 1) := by decide +kernel
theorem dL_there_216 : decode cL_there 216 = .ok (.bipush 14, 2) := by decide +kernel
theorem dL_there_218 : decode cL_there 218 = .ok (.iconst 0, 1) := by decide +kernel
theorem dL_there_219 : decode cL_there 219 = .ok (.iconst 0, 1) := by decide +kernel
theorem dL_there_220 : decode cL_there 220 = .ok (.iconst 0, 1) := by decide +kernel
theorem dL_there_221 : decode cL_there 221 = .ok (.invokestatic 168, 3) := by decide +kernel
theorem dL_there_224 : decode cL_there 224 = .ok (.invokestatic 213, 3) := by decide +kernel
theorem dL_there_227 : decode cL_there 227 = .ok (.ifCond .ne 65, 3) := by decide +kernel
theorem dL_there_230 : decode cL_there 230 = .ok (.aload_n 1, 1) := by decide +kernel
theorem dL_there_231 : decode cL_there 231 = .ok (.bipush 14, 2) := by decide +kernel
theorem dL_there_233 : decode cL_there 233 = .ok (.iconst 0, 1) := by decide +kernel
theorem dL_there_234 : decode cL_there 234 = .ok (.iconst 0, 1) := by decide +kernel
theorem dL_there_235 : decode cL_there 235 = .ok (.iconst 0, 1) := by decide +kernel
theorem dL_there_236 : decode cL_there 236 = .ok (.invokestatic 168, 3) := by decide +kernel
theorem dL_there_239 : decode cL_there 239 = .ok (.invokestatic 213, 3) := by decide +kernel
theorem dL_there_242 : decode cL_there 242 = .ok (.ifCond .ne 50, 3) := by decide +kernel
theorem dL_there_245 : decode cL_there 245 = .ok (.aload_n 0, 1) := by decide +kernel
theorem dL_there_246 : decode cL_there 246 = .ok (.bipush 12, 2) := by decide +kernel
theorem dL_there_248 : decode cL_there 248 = .ok (.iload 9, 2) := by decide +kernel
theorem dL_there_250 : decode cL_there 250 = .ok (.iconst 1, 1) := by decide +kernel
theorem dL_there_251 : decode cL_there 251 = .ok (.isub, 1) := by decide +kernel
theorem dL_there_252 : decode cL_there 252 = .ok (.iconst 0, 1) := by decide +kernel
theorem dL_there_253 : decode cL_there 253 = .ok (.iconst 0, 1) := by decide +kernel
theorem dL_there_254 : decode cL_there 254 = .ok (.invokestatic 168, 3) := by decide +kernel
theorem dL_there_257 : decode cL_there 257 = .ok (.ifCond .lt 35, 3) := by decide +kernel
theorem dL_there_260 : decode cL_there 260 = .ok (.aload_n 1, 1) := by decide +kernel
theorem dL_there_261 : decode cL_there 261 = .ok (.bipush 12, 2) := by decide +kernel
theorem dL_there_263 : decode cL_there 263 = .ok (.iload 9, 2) := by decide +kernel
theorem dL_there_265 : decode cL_there 265 = .ok (.iconst 1, 1) := by decide +kernel
theorem dL_there_266 : decode cL_there 266 = .ok (.isub, 1) := by decide +kernel
theorem dL_there_267 : decode cL_there 267 = .ok (.iconst 0, 1) := by decide +kernel
theorem dL_there_268 : decode cL_there 268 = .ok (.iconst 0, 1) := by decide +kernel
theorem dL_there_269 : decode cL_there 269 = .ok (.invokestatic 168, 3) := by decide +kernel
theorem dL_there_272 : decode cL_there 272 = .ok (.ifCond .lt 20, 3) := by decide +kernel
theorem dL_there_275 : decode cL_there 275 = .ok (.aload_n 0, 1) := by decide +kernel
theorem dL_there_276 : decode cL_there 276 = .ok (.iconst 4, 1) := by decide +kernel
theorem dL_there_277 : decode cL_there 277 = .ok (.iload_n 3, 1) := by decide +kernel
theorem dL_there_278 : decode cL_there 278 = .ok (.iconst 0, 1) := by decide +kernel
theorem dL_there_279 : decode cL_there 279 = .ok (.iconst 0, 1) := by decide +kernel
theorem dL_there_280 : decode cL_there 280 = .ok (.invokestatic 168, 3) := by decide +kernel
theorem dL_there_283 : decode cL_there 283 = .ok (.iload 8, 2) := by decide +kernel
theorem dL_there_285 : decode cL_there 285 = .ok (.if_icmp .ge 7, 3) := by decide +kernel
theorem dL_there_288 : decode cL_there 288 = .ok (.iconst 1, 1) := by decide +kernel
theorem dL_there_289 : decode cL_there 289 = .ok (.goto 4, 3) := by decide +kernel
theorem dL_there_292 : decode cL_there 292 = .ok (.iconst 0, 1) := by decide +kernel
theorem dL_there_293 : decode cL_there 293 = .ok (.istore 7, 2) := by decide +kernel
theorem dL_there_295 : decode cL_there 295 = .ok (.iload 7, 2) := by decide +kernel
theorem dL_there_297 : decode cL_there 297 = .ok (.ifCond .eq 83, 3) := by decide +kernel
theorem dL_there_300 : decode cL_there 300 = .ok (.aload_n 0, 1) := by decide +kernel
theorem dL_there_301 : decode cL_there 301 = .ok (.bipush 14, 2) := by decide +kernel
theorem dL_there_303 : decode cL_there 303 = .ok (.iconst 0, 1) := by decide +kernel
theorem dL_there_304 : decode cL_there 304 = .ok (.iconst 0, 1) := by decide +kernel
theorem dL_there_305 : decode cL_there 305 = .ok (.iconst 0, 1) := by decide +kernel
theorem dL_there_306 : decode cL_there 306 = .ok (.invokestatic 168, 3) := by decide +kernel
theorem dL_there_309 : decode cL_there 309 = .ok (.invokestatic 213, 3) := by decide +kernel
theorem dL_there_312 : decode cL_there 312 = .ok (.ifCond .ne 68, 3) := by decide +kernel
theorem dL_there_315 : decode cL_there 315 = .ok (.aload_n 1, 1) := by decide +kernel
theorem dL_there_316 : decode cL_there 316 = .ok (.bipush 14, 2) := by decide +kernel
theorem dL_there_318 : decode cL_there 318 = .ok (.iconst 0, 1) := by decide +kernel
theorem dL_there_319 : decode cL_there 319 = .ok (.iconst 0, 1) := by decide +kernel
theorem dL_there_320 : decode cL_there 320 = .ok (.iconst 0, 1) := by decide +kernel
theorem dL_there_321 : decode cL_there 321 = .ok (.invokestatic 168, 3) := by decide +kernel
theorem dL_there_324 : decode cL_there 324 = .ok (.invokestatic 213, 3) := by decide +kernel
theorem dL_there_327 : decode cL_there 327 = .ok (.ifCond .ne 53, 3) := by decide +kernel
theorem dL_there_330 : decode cL_there 330 = .ok (.aload_n 0, 1) := by decide +kernel
theorem dL_there_331 : decode cL_there 331 = .ok (.bipush 14, 2) := by decide +kernel
theorem dL_there_333 : decode cL_there 333 = .ok (.iconst 0, 1) := by decide +kernel
theorem dL_there_334 : decode cL_there 334 = .ok (.iconst 0, 1) := by decide +kernel
theorem dL_there_335 : decode cL_there 335 = .ok (.iconst 0, 1) := by decide +kernel
theorem dL_there_336 : decode cL_there 336 = .ok (.invokestatic 168, 3) := by decide +kernel
theorem dL_there_339 : decode cL_there 339 = .ok (.invokestatic 213, 3) := by decide +kernel
theorem dL_there_342 : decode cL_there 342 = .ok (.ifCond .ne 38, 3) := by decide +kernel
theorem dL_there_345 : decode cL_there 345 = .ok (.aload_n 1, 1) := by decide +kernel
theorem dL_there_346 : decode cL_there 346 = .ok (.bipush 14, 2) := by decide +kernel
theorem dL_there_348 : decode cL_there 348 = .ok (.iconst 0, 1) := by decide +kernel
theorem dL_there_349 : decode cL_there 349 = .ok (.iconst 0, 1) := by decide +kernel
theorem dL_there_350 : decode cL_there 350 = .ok (.iconst 0, 1) := by decide +kernel
theorem dL_there_351 : decode cL_there 351 = .ok (.invokestatic 168, 3) := by decide +kernel
theorem dL_there_354 : decode cL_there 354 = .ok (.invokestatic 213, 3) := by decide +kernel
theorem dL_there_357 : decode cL_there 357 = .ok (.ifCond .ne 23, 3) := by decide +kernel
theorem dL_there_360 : decode cL_there 360 = .ok (.aload_n 0, 1) := by decide +kernel
theorem dL_there_361 : decode cL_there 361 = .ok (.iconst 3, 1) := by decide +kernel
theorem dL_there_362 : decode cL_there 362 = .ok (.iload_n 3, 1) := by decide +kernel
theorem dL_there_363 : decode cL_there 363 = .ok (.iconst 3, 1) := by decide +kernel
theorem dL_there_364 : decode cL_there 364 = .ok (.iconst 0, 1) := by decide +kernel
theorem dL_there_365 : decode cL_there 365 = .ok (.invokestatic 168, 3) := by decide +kernel
theorem dL_there_368 : decode cL_there 368 = .ok (.iload 8, 2) := by decide +kernel
theorem dL_there_370 : decode cL_there 370 = .ok (.iload 4, 2) := by decide +kernel
theorem dL_there_372 : decode cL_there 372 = .ok (.isub, 1) := by decide +kernel
theorem dL_there_373 : decode cL_there 373 = .ok (.if_icmp .ne 7, 3) := by decide +kernel
theorem dL_there_376 : decode cL_there 376 = .ok (.iconst 1, 1) := by decide +kernel
theorem dL_there_377 : decode cL_there 377 = .ok (.goto 4, 3) := by decide +kernel
theorem dL_there_380 : decode cL_there 380 = .ok (.iconst 0, 1) := by decide +kernel
theorem dL_there_381 : decode cL_there 381 = .ok (.ireturn, 1) := by decide +kernel

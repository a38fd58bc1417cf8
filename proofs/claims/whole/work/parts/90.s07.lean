/-! soundness -/
theorem d258_0 : decode (mC M258) 0 = .ok (.aload_n 0, 1) := by decide +kernel
theorem d258_1 : decode (mC M258) 1 = .ok (.aload_n 0, 1) := by decide +kernel
theorem d258_2 : decode (mC M258) 2 = .ok (.iload 4, 2) := by decide +kernel
theorem d258_4 : decode (mC M258) 4 = .ok (.invokevirtual 267, 3) := by decide +kernel
theorem d258_7 : decode (mC M258) 7 = .ok (.iload_n 1, 1) := by decide +kernel
theorem d258_8 : decode (mC M258) 8 = .ok (.iload_n 2, 1) := by decide +kernel
theorem d258_9 : decode (mC M258) 9 = .ok (.iload_n 3, 1) := by decide +kernel
theorem d258_10 : decode (mC M258) 10 = .ok (.invokevirtual 307, 3) := by decide +kernel
theorem d258_13 : decode (mC M258) 13 = .ok (.istore 7, 2) := by decide +kernel
theorem d258_15 : decode (mC M258) 15 = .ok (.iload 7, 2) := by decide +kernel
theorem d258_17 : decode (mC M258) 17 = .ok (.ifCond .ne 30, 3) := by decide +kernel
theorem d258_20 : decode (mC M258) 20 = .ok (.iload 5, 2) := by decide +kernel
theorem d258_22 : decode (mC M258) 22 = .ok (.iconst 1, 1) := by decide +kernel
theorem d258_23 : decode (mC M258) 23 = .ok (.bipush 99, 2) := by decide +kernel
theorem d258_25 : decode (mC M258) 25 = .ok (.invokestatic 95, 3) := by decide +kernel
theorem d258_28 : decode (mC M258) 28 = .ok (.ifCond .eq 15, 3) := by decide +kernel
theorem d258_31 : decode (mC M258) 31 = .ok (.iload 6, 2) := by decide +kernel
theorem d258_33 : decode (mC M258) 33 = .ok (.iconst 1, 1) := by decide +kernel
theorem d258_34 : decode (mC M258) 34 = .ok (.sipush 9999, 3) := by decide +kernel
theorem d258_37 : decode (mC M258) 37 = .ok (.invokestatic 95, 3) := by decide +kernel
theorem d258_40 : decode (mC M258) 40 = .ok (.ifCond .ne 7, 3) := by decide +kernel
theorem d258_43 : decode (mC M258) 43 = .ok (.iconst 2, 1) := by decide +kernel
theorem d258_44 : decode (mC M258) 44 = .ok (.goto 5, 3) := by decide +kernel
theorem d258_47 : decode (mC M258) 47 = .ok (.iload 7, 2) := by decide +kernel
theorem d258_49 : decode (mC M258) 49 = .ok (.ireturn, 1) := by decide +kernel
theorem sc258_0 : ∀ q ∈ tc258_0, Snd xtb M258 q.1 q.2 := List.forall_mem_cons.mpr ⟨snd_aload_n d258_0 rfl, List.forall_mem_cons.mpr ⟨snd_aload_n d258_1 rfl, List.forall_mem_cons.mpr ⟨snd_iload d258_2, List.forall_mem_cons.mpr ⟨snd_callV (by decide) rfl cn213 ⟨by decide +kernel, by decide +kernel⟩ cm213 (List.forall_mem_cons.mpr ⟨wd1642, cw213⟩) d258_4, List.forall_mem_cons.mpr ⟨snd_iload_n d258_7 rfl, List.forall_mem_cons.mpr ⟨snd_iload_n d258_8 rfl, List.forall_mem_cons.mpr ⟨snd_iload_n d258_9 rfl, List.forall_mem_cons.mpr ⟨snd_callV (by decide) rfl cn225 ⟨by decide +kernel, by decide +kernel⟩ cm225 (List.forall_mem_cons.mpr ⟨wd1702, cw225⟩) d258_10, List.forall_mem_cons.mpr ⟨snd_istore d258_13, List.forall_mem_cons.mpr ⟨snd_iload d258_15, List.forall_mem_cons.mpr ⟨snd_if_ne d258_17 (by decide), List.forall_mem_cons.mpr ⟨snd_iload d258_20, List.forall_mem_cons.mpr ⟨snd_iconst d258_22 (by decide +kernel), List.forall_mem_cons.mpr ⟨snd_bipush d258_23 (by decide +kernel), List.forall_mem_cons.mpr ⟨snd_callS cn175 ⟨by decide +kernel, by decide +kernel⟩ cm175 (List.forall_mem_cons.mpr ⟨wd1492, cw175⟩) d258_25, List.forall_mem_cons.mpr ⟨snd_if_eq d258_28 (by decide), List.forall_mem_cons.mpr ⟨snd_iload d258_31, List.forall_mem_cons.mpr ⟨snd_iconst d258_33 (by decide +kernel), List.forall_mem_cons.mpr ⟨snd_sipush d258_34 (by decide +kernel), List.forall_mem_cons.mpr ⟨snd_callS cn175 ⟨by decide +kernel, by decide +kernel⟩ cm175 (List.forall_mem_cons.mpr ⟨wd1492, cw175⟩) d258_37, List.forall_mem_cons.mpr ⟨snd_if_ne d258_40 (by decide), List.forall_mem_cons.mpr ⟨snd_iconst d258_43 (by decide +kernel), List.forall_mem_cons.mpr ⟨snd_goto d258_44 (by decide), List.forall_mem_cons.mpr ⟨snd_iload d258_47, List.forall_mem_cons.mpr ⟨snd_iret rfl d258_49, fun _ h => by cases h⟩⟩⟩⟩⟩⟩⟩⟩⟩⟩⟩⟩⟩⟩⟩⟩⟩⟩⟩⟩⟩⟩⟩⟩⟩
theorem d259_0 : decode (mC M259) 0 = .ok (.aload_n 0, 1) := by decide +kernel
theorem d259_1 : decode (mC M259) 1 = .ok (.iconst 0, 1) := by decide +kernel
theorem d259_2 : decode (mC M259) 2 = .ok (.putfield 64, 3) := by decide +kernel
theorem d259_5 : decode (mC M259) 5 = .ok (.aload_n 0, 1) := by decide +kernel
theorem d259_6 : decode (mC M259) 6 = .ok (.iload_n 1, 1) := by decide +kernel
theorem d259_7 : decode (mC M259) 7 = .ok (.iload_n 2, 1) := by decide +kernel
theorem d259_8 : decode (mC M259) 8 = .ok (.iload_n 3, 1) := by decide +kernel
theorem d259_9 : decode (mC M259) 9 = .ok (.iload 4, 2) := by decide +kernel
theorem d259_11 : decode (mC M259) 11 = .ok (.iload 5, 2) := by decide +kernel
theorem d259_13 : decode (mC M259) 13 = .ok (.iload 6, 2) := by decide +kernel
theorem d259_15 : decode (mC M259) 15 = .ok (.invokevirtual 356, 3) := by decide +kernel
theorem d259_18 : decode (mC M259) 18 = .ok (.istore 7, 2) := by decide +kernel
theorem d259_20 : decode (mC M259) 20 = .ok (.iload 7, 2) := by decide +kernel
theorem d259_22 : decode (mC M259) 22 = .ok (.ifCond .le 12, 3) := by decide +kernel
theorem d259_25 : decode (mC M259) 25 = .ok (.aload_n 0, 1) := by decide +kernel
theorem d259_26 : decode (mC M259) 26 = .ok (.iload 7, 2) := by decide +kernel
theorem d259_28 : decode (mC M259) 28 = .ok (.invokevirtual 70, 3) := by decide +kernel
theorem d259_31 : decode (mC M259) 31 = .ok (.goto 20, 3) := by decide +kernel
theorem d259_34 : decode (mC M259) 34 = .ok (.aload_n 0, 1) := by decide +kernel
theorem d259_35 : decode (mC M259) 35 = .ok (.aload_n 0, 1) := by decide +kernel
theorem d259_36 : decode (mC M259) 36 = .ok (.iload_n 1, 1) := by decide +kernel
theorem d259_37 : decode (mC M259) 37 = .ok (.iload_n 2, 1) := by decide +kernel
theorem d259_38 : decode (mC M259) 38 = .ok (.iload_n 3, 1) := by decide +kernel
theorem d259_39 : decode (mC M259) 39 = .ok (.iload 4, 2) := by decide +kernel
theorem d259_41 : decode (mC M259) 41 = .ok (.iload 5, 2) := by decide +kernel
theorem d259_43 : decode (mC M259) 43 = .ok (.iload 6, 2) := by decide +kernel
theorem d259_45 : decode (mC M259) 45 = .ok (.invokevirtual 360, 3) := by decide +kernel
theorem d259_48 : decode (mC M259) 48 = .ok (.invokevirtual 264, 3) := by decide +kernel
theorem d259_51 : decode (mC M259) 51 = .ok (.ireturn, 1) := by decide +kernel
theorem sc259_0 : ∀ q ∈ tc259_0, Snd xtb M259 q.1 q.2 := List.forall_mem_cons.mpr ⟨snd_aload_n d259_0 rfl, List.forall_mem_cons.mpr ⟨snd_iconst d259_1 (by decide +kernel), List.forall_mem_cons.mpr ⟨snd_putI (by decide) (by decide) rfl rfl wd1367 d259_2, List.forall_mem_cons.mpr ⟨snd_aload_n d259_5 rfl, List.forall_mem_cons.mpr ⟨snd_iload_n d259_6 rfl, List.forall_mem_cons.mpr ⟨snd_iload_n d259_7 rfl, List.forall_mem_cons.mpr ⟨snd_iload_n d259_8 rfl, List.forall_mem_cons.mpr ⟨snd_iload d259_9, List.forall_mem_cons.mpr ⟨snd_iload d259_11, List.forall_mem_cons.mpr ⟨snd_iload d259_13, List.forall_mem_cons.mpr ⟨snd_callV (by decide) rfl cn258 ⟨by decide +kernel, by decide +kernel⟩ cm258 (List.forall_mem_cons.mpr ⟨wd1813, cw258⟩) d259_15, List.forall_mem_cons.mpr ⟨snd_istore d259_18, List.forall_mem_cons.mpr ⟨snd_iload d259_20, List.forall_mem_cons.mpr ⟨snd_if_le d259_22 (by decide), List.forall_mem_cons.mpr ⟨snd_aload_n d259_25 rfl, List.forall_mem_cons.mpr ⟨snd_iload d259_26, List.forall_mem_cons.mpr ⟨snd_callV (by decide) rfl cn172 ⟨by decide +kernel, by decide +kernel⟩ cm172 (List.forall_mem_cons.mpr ⟨wd1476, cw172⟩) d259_28, List.forall_mem_cons.mpr ⟨snd_goto d259_31 (by decide), List.forall_mem_cons.mpr ⟨snd_aload_n d259_34 rfl, List.forall_mem_cons.mpr ⟨snd_aload_n d259_35 rfl, List.forall_mem_cons.mpr ⟨snd_iload_n d259_36 rfl, List.forall_mem_cons.mpr ⟨snd_iload_n d259_37 rfl, List.forall_mem_cons.mpr ⟨snd_iload_n d259_38 rfl, List.forall_mem_cons.mpr ⟨snd_iload d259_39, List.forall_mem_cons.mpr ⟨snd_iload d259_41, List.forall_mem_cons.mpr ⟨snd_iload d259_43, List.forall_mem_cons.mpr ⟨snd_callV (by decide) rfl cn257 ⟨by decide +kernel, by decide +kernel⟩ cm257 (List.forall_mem_cons.mpr ⟨wd1817, cw257⟩) d259_45, List.forall_mem_cons.mpr ⟨snd_callV (by decide) rfl cn174 ⟨by decide +kernel, by decide +kernel⟩ cm174 (List.forall_mem_cons.mpr ⟨wd1622, cw174⟩) d259_48, List.forall_mem_cons.mpr ⟨snd_iret rfl d259_51, fun _ h => by cases h⟩⟩⟩⟩⟩⟩⟩⟩⟩⟩⟩⟩⟩⟩⟩⟩⟩⟩⟩⟩⟩⟩⟩⟩⟩⟩⟩⟩⟩
theorem d260_0 : decode (mC M260) 0 = .ok (.aload_n 0, 1) := by decide +kernel
theorem d260_1 : decode (mC M260) 1 = .ok (.iconst 0, 1) := by decide +kernel
theorem d260_2 : decode (mC M260) 2 = .ok (.putfield 64, 3) := by decide +kernel
theorem d260_5 : decode (mC M260) 5 = .ok (.aload_n 0, 1) := by decide +kernel
theorem d260_6 : decode (mC M260) 6 = .ok (.iload_n 1, 1) := by decide +kernel
theorem d260_7 : decode (mC M260) 7 = .ok (.iload_n 3, 1) := by decide +kernel
theorem d260_8 : decode (mC M260) 8 = .ok (.iload 4, 2) := by decide +kernel
theorem d260_10 : decode (mC M260) 10 = .ok (.iload 5, 2) := by decide +kernel
theorem d260_12 : decode (mC M260) 12 = .ok (.iload 6, 2) := by decide +kernel
theorem d260_14 : decode (mC M260) 14 = .ok (.iload 7, 2) := by decide +kernel
theorem d260_16 : decode (mC M260) 16 = .ok (.invokevirtual 356, 3) := by decide +kernel
theorem d260_19 : decode (mC M260) 19 = .ok (.istore 8, 2) := by decide +kernel
theorem d260_21 : decode (mC M260) 21 = .ok (.iload 8, 2) := by decide +kernel
theorem d260_23 : decode (mC M260) 23 = .ok (.ifCond .ne 17, 3) := by decide +kernel
theorem d260_26 : decode (mC M260) 26 = .ok (.iload_n 2, 1) := by decide +kernel
theorem d260_27 : decode (mC M260) 27 = .ok (.iload_n 1, 1) := by decide +kernel
theorem d260_28 : decode (mC M260) 28 = .ok (.sipush 999, 3) := by decide +kernel
theorem d260_31 : decode (mC M260) 31 = .ok (.invokestatic 95, 3) := by decide +kernel
theorem d260_34 : decode (mC M260) 34 = .ok (.ifCond .ne 6, 3) := by decide +kernel
theorem d260_37 : decode (mC M260) 37 = .ok (.iconst 2, 1) := by decide +kernel
theorem d260_38 : decode (mC M260) 38 = .ok (.istore 8, 2) := by decide +kernel
theorem d260_40 : decode (mC M260) 40 = .ok (.iload 8, 2) := by decide +kernel
theorem d260_42 : decode (mC M260) 42 = .ok (.ifCond .le 10, 3) := by decide +kernel
theorem d260_45 : decode (mC M260) 45 = .ok (.aload_n 0, 1) := by decide +kernel
theorem d260_46 : decode (mC M260) 46 = .ok (.iload 8, 2) := by decide +kernel
theorem d260_48 : decode (mC M260) 48 = .ok (.invokevirtual 70, 3) := by decide +kernel
theorem d260_51 : decode (mC M260) 51 = .ok (.ireturn, 1) := by decide +kernel
theorem d260_52 : decode (mC M260) 52 = .ok (.iload_n 1, 1) := by decide +kernel
theorem d260_53 : decode (mC M260) 53 = .ok (.istore 9, 2) := by decide +kernel
theorem d260_55 : decode (mC M260) 55 = .ok (.aload_n 0, 1) := by decide +kernel
theorem d260_56 : decode (mC M260) 56 = .ok (.iload_n 1, 1) := by decide +kernel
theorem d260_57 : decode (mC M260) 57 = .ok (.iload_n 3, 1) := by decide +kernel
theorem d260_58 : decode (mC M260) 58 = .ok (.iload 4, 2) := by decide +kernel
theorem d260_60 : decode (mC M260) 60 = .ok (.iload 5, 2) := by decide +kernel
theorem d260_62 : decode (mC M260) 62 = .ok (.iload 6, 2) := by decide +kernel
theorem d260_64 : decode (mC M260) 64 = .ok (.iload 7, 2) := by decide +kernel
theorem d260_66 : decode (mC M260) 66 = .ok (.invokevirtual 360, 3) := by decide +kernel
theorem d260_69 : decode (mC M260) 69 = .ok (.istore 10, 2) := by decide +kernel
theorem d260_71 : decode (mC M260) 71 = .ok (.iload_n 1, 1) := by decide +kernel
theorem d260_72 : decode (mC M260) 72 = .ok (.iconst 1, 1) := by decide +kernel
theorem d260_73 : decode (mC M260) 73 = .ok (.iadd, 1) := by decide +kernel
theorem d260_74 : decode (mC M260) 74 = .ok (.istore 11, 2) := by decide +kernel
theorem d260_76 : decode (mC M260) 76 = .ok (.iload 11, 2) := by decide +kernel
theorem d260_78 : decode (mC M260) 78 = .ok (.iload_n 2, 1) := by decide +kernel
theorem d260_79 : decode (mC M260) 79 = .ok (.if_icmp .gt 44, 3) := by decide +kernel
theorem d260_82 : decode (mC M260) 82 = .ok (.aload_n 0, 1) := by decide +kernel
theorem d260_83 : decode (mC M260) 83 = .ok (.iload 11, 2) := by decide +kernel
theorem d260_85 : decode (mC M260) 85 = .ok (.iload_n 3, 1) := by decide +kernel
theorem d260_86 : decode (mC M260) 86 = .ok (.iload 4, 2) := by decide +kernel
theorem d260_88 : decode (mC M260) 88 = .ok (.iload 5, 2) := by decide +kernel
theorem d260_90 : decode (mC M260) 90 = .ok (.iload 6, 2) := by decide +kernel
theorem d260_92 : decode (mC M260) 92 = .ok (.iload 7, 2) := by decide +kernel
theorem d260_94 : decode (mC M260) 94 = .ok (.invokevirtual 360, 3) := by decide +kernel
theorem d260_97 : decode (mC M260) 97 = .ok (.istore 12, 2) := by decide +kernel
theorem d260_99 : decode (mC M260) 99 = .ok (.iload 12, 2) := by decide +kernel
theorem d260_101 : decode (mC M260) 101 = .ok (.iload 10, 2) := by decide +kernel
theorem d260_103 : decode (mC M260) 103 = .ok (.if_icmp .lt 6, 3) := by decide +kernel
theorem d260_106 : decode (mC M260) 106 = .ok (.goto 11, 3) := by decide +kernel
theorem d260_109 : decode (mC M260) 109 = .ok (.iload 12, 2) := by decide +kernel
theorem d260_111 : decode (mC M260) 111 = .ok (.istore 10, 2) := by decide +kernel
theorem d260_113 : decode (mC M260) 113 = .ok (.iload 11, 2) := by decide +kernel
theorem d260_115 : decode (mC M260) 115 = .ok (.istore 9, 2) := by decide +kernel
theorem d260_117 : decode (mC M260) 117 = .ok (.iinc 11 1, 3) := by decide +kernel
theorem d260_120 : decode (mC M260) 120 = .ok (.goto (-44), 3) := by decide +kernel
theorem d260_123 : decode (mC M260) 123 = .ok (.aload_n 0, 1) := by decide +kernel
theorem d260_124 : decode (mC M260) 124 = .ok (.iload 9, 2) := by decide +kernel
theorem d260_126 : decode (mC M260) 126 = .ok (.invokevirtual 264, 3) := by decide +kernel
theorem d260_129 : decode (mC M260) 129 = .ok (.ireturn, 1) := by decide +kernel
theorem sc260_0 : ∀ q ∈ tc260_0, Snd xtb M260 q.1 q.2 := List.forall_mem_cons.mpr ⟨snd_aload_n d260_0 rfl, List.forall_mem_cons.mpr ⟨snd_iconst d260_1 (by decide +kernel), List.forall_mem_cons.mpr ⟨snd_putI (by decide) (by decide) rfl rfl wd1367 d260_2, List.forall_mem_cons.mpr ⟨snd_aload_n d260_5 rfl, List.forall_mem_cons.mpr ⟨snd_iload_n d260_6 rfl, List.forall_mem_cons.mpr ⟨snd_iload_n d260_7 rfl, List.forall_mem_cons.mpr ⟨snd_iload d260_8, List.forall_mem_cons.mpr ⟨snd_iload d260_10, List.forall_mem_cons.mpr ⟨snd_iload d260_12, List.forall_mem_cons.mpr ⟨snd_iload d260_14, List.forall_mem_cons.mpr ⟨snd_callV (by decide) rfl cn258 ⟨by decide +kernel, by decide +kernel⟩ cm258 (List.forall_mem_cons.mpr ⟨wd1813, cw258⟩) d260_16, List.forall_mem_cons.mpr ⟨snd_istore d260_19, List.forall_mem_cons.mpr ⟨snd_iload d260_21, List.forall_mem_cons.mpr ⟨snd_if_ne d260_23 (by decide), List.forall_mem_cons.mpr ⟨snd_iload_n d260_26 rfl, List.forall_mem_cons.mpr ⟨snd_iload_n d260_27 rfl, List.forall_mem_cons.mpr ⟨snd_sipush d260_28 (by decide +kernel), List.forall_mem_cons.mpr ⟨snd_callS cn175 ⟨by decide +kernel, by decide +kernel⟩ cm175 (List.forall_mem_cons.mpr ⟨wd1492, cw175⟩) d260_31, List.forall_mem_cons.mpr ⟨snd_if_ne d260_34 (by decide), List.forall_mem_cons.mpr ⟨snd_iconst d260_37 (by decide +kernel), List.forall_mem_cons.mpr ⟨snd_istore d260_38, List.forall_mem_cons.mpr ⟨snd_iload d260_40, List.forall_mem_cons.mpr ⟨snd_if_le d260_42 (by decide), List.forall_mem_cons.mpr ⟨snd_aload_n d260_45 rfl, List.forall_mem_cons.mpr ⟨snd_iload d260_46, List.forall_mem_cons.mpr ⟨snd_callV (by decide) rfl cn172 ⟨by decide +kernel, by decide +kernel⟩ cm172 (List.forall_mem_cons.mpr ⟨wd1476, cw172⟩) d260_48, List.forall_mem_cons.mpr ⟨snd_iret rfl d260_51, List.forall_mem_cons.mpr ⟨snd_iload_n d260_52 rfl, List.forall_mem_cons.mpr ⟨snd_istore d260_53, List.forall_mem_cons.mpr ⟨snd_aload_n d260_55 rfl, fun _ h => by cases h⟩⟩⟩⟩⟩⟩⟩⟩⟩⟩⟩⟩⟩⟩⟩⟩⟩⟩⟩⟩⟩⟩⟩⟩⟩⟩⟩⟩⟩⟩
theorem sc260_1 : ∀ q ∈ tc260_1, Snd xtb M260 q.1 q.2 := List.forall_mem_cons.mpr ⟨snd_iload_n d260_56 rfl, List.forall_mem_cons.mpr ⟨snd_iload_n d260_57 rfl, List.forall_mem_cons.mpr ⟨snd_iload d260_58, List.forall_mem_cons.mpr ⟨snd_iload d260_60, List.forall_mem_cons.mpr ⟨snd_iload d260_62, List.forall_mem_cons.mpr ⟨snd_iload d260_64, List.forall_mem_cons.mpr ⟨snd_callV (by decide) rfl cn257 ⟨by decide +kernel, by decide +kernel⟩ cm257 (List.forall_mem_cons.mpr ⟨wd1817, cw257⟩) d260_66, List.forall_mem_cons.mpr ⟨snd_istore d260_69, List.forall_mem_cons.mpr ⟨snd_iload_n d260_71 rfl, List.forall_mem_cons.mpr ⟨snd_iconst d260_72 (by decide +kernel), List.forall_mem_cons.mpr ⟨snd_iadd d260_73, List.forall_mem_cons.mpr ⟨snd_istore d260_74, List.forall_mem_cons.mpr ⟨snd_iload d260_76, List.forall_mem_cons.mpr ⟨snd_iload_n d260_78 rfl, List.forall_mem_cons.mpr ⟨snd_cmp_gt d260_79 (by decide), List.forall_mem_cons.mpr ⟨snd_aload_n d260_82 rfl, List.forall_mem_cons.mpr ⟨snd_iload d260_83, List.forall_mem_cons.mpr ⟨snd_iload_n d260_85 rfl, List.forall_mem_cons.mpr ⟨snd_iload d260_86, List.forall_mem_cons.mpr ⟨snd_iload d260_88, List.forall_mem_cons.mpr ⟨snd_iload d260_90, List.forall_mem_cons.mpr ⟨snd_iload d260_92, List.forall_mem_cons.mpr ⟨snd_callV (by decide) rfl cn257 ⟨by decide +kernel, by decide +kernel⟩ cm257 (List.forall_mem_cons.mpr ⟨wd1817, cw257⟩) d260_94, List.forall_mem_cons.mpr ⟨snd_istore d260_97, List.forall_mem_cons.mpr ⟨snd_iload d260_99, List.forall_mem_cons.mpr ⟨snd_iload d260_101, List.forall_mem_cons.mpr ⟨snd_cmp_lt d260_103 (by decide), List.forall_mem_cons.mpr ⟨snd_goto d260_106 (by decide), List.forall_mem_cons.mpr ⟨snd_iload d260_109, List.forall_mem_cons.mpr ⟨snd_istore d260_111, fun _ h => by cases h⟩⟩⟩⟩⟩⟩⟩⟩⟩⟩⟩⟩⟩⟩⟩⟩⟩⟩⟩⟩⟩⟩⟩⟩⟩⟩⟩⟩⟩⟩
theorem sc260_2 : ∀ q ∈ tc260_2, Snd xtb M260 q.1 q.2 := List.forall_mem_cons.mpr ⟨snd_iload d260_113, List.forall_mem_cons.mpr ⟨snd_istore d260_115, List.forall_mem_cons.mpr ⟨snd_iinc d260_117 (by decide +kernel), List.forall_mem_cons.mpr ⟨snd_goto d260_120 (by decide), List.forall_mem_cons.mpr ⟨snd_aload_n d260_123 rfl, List.forall_mem_cons.mpr ⟨snd_iload d260_124, List.forall_mem_cons.mpr ⟨snd_callV (by decide) rfl cn174 ⟨by decide +kernel, by decide +kernel⟩ cm174 (List.forall_mem_cons.mpr ⟨wd1622, cw174⟩) d260_126, List.forall_mem_cons.mpr ⟨snd_iret rfl d260_129, fun _ h => by cases h⟩⟩⟩⟩⟩⟩⟩⟩
theorem d261_0 : decode (mC M261) 0 = .ok (.aload_n 0, 1) := by decide +kernel
theorem d261_1 : decode (mC M261) 1 = .ok (.getfield 251, 3) := by decide +kernel
theorem d261_4 : decode (mC M261) 4 = .ok (.ifCond .eq 21, 3) := by decide +kernel
theorem d261_7 : decode (mC M261) 7 = .ok (.iload_n 1, 1) := by decide +kernel
theorem d261_8 : decode (mC M261) 8 = .ok (.iconst 0, 1) := by decide +kernel
theorem d261_9 : decode (mC M261) 9 = .ok (.aload_n 0, 1) := by decide +kernel
theorem d261_10 : decode (mC M261) 10 = .ok (.getfield 255, 3) := by decide +kernel
theorem d261_13 : decode (mC M261) 13 = .ok (.iconst 1, 1) := by decide +kernel
theorem d261_14 : decode (mC M261) 14 = .ok (.isub, 1) := by decide +kernel
theorem d261_15 : decode (mC M261) 15 = .ok (.invokestatic 95, 3) := by decide +kernel
theorem d261_18 : decode (mC M261) 18 = .ok (.ifCond .eq 7, 3) := by decide +kernel
theorem d261_21 : decode (mC M261) 21 = .ok (.iconst 1, 1) := by decide +kernel
theorem d261_22 : decode (mC M261) 22 = .ok (.goto 4, 3) := by decide +kernel
theorem d261_25 : decode (mC M261) 25 = .ok (.iconst 0, 1) := by decide +kernel
theorem d261_26 : decode (mC M261) 26 = .ok (.ireturn, 1) := by decide +kernel
theorem sc261_0 : ∀ q ∈ tc261_0, Snd xtb M261 q.1 q.2 := List.forall_mem_cons.mpr ⟨snd_aload_n d261_0 rfl, List.forall_mem_cons.mpr ⟨snd_getI (by decide) (by decide) rfl wd1374 d261_1, List.forall_mem_cons.mpr ⟨snd_if_eq d261_4 (by decide), List.forall_mem_cons.mpr ⟨snd_iload_n d261_7 rfl, List.forall_mem_cons.mpr ⟨snd_iconst d261_8 (by decide +kernel), List.forall_mem_cons.mpr ⟨snd_aload_n d261_9 rfl, List.forall_mem_cons.mpr ⟨snd_getI (by decide) (by decide) rfl wd1387 d261_10, List.forall_mem_cons.mpr ⟨snd_iconst d261_13 (by decide +kernel), List.forall_mem_cons.mpr ⟨snd_isub d261_14, List.forall_mem_cons.mpr ⟨snd_callS cn175 ⟨by decide +kernel, by decide +kernel⟩ cm175 (List.forall_mem_cons.mpr ⟨wd1492, cw175⟩) d261_15, List.forall_mem_cons.mpr ⟨snd_if_eq d261_18 (by decide), List.forall_mem_cons.mpr ⟨snd_iconst d261_21 (by decide +kernel), List.forall_mem_cons.mpr ⟨snd_goto d261_22 (by decide), List.forall_mem_cons.mpr ⟨snd_iconst d261_25 (by decide +kernel), List.forall_mem_cons.mpr ⟨snd_zret rfl d261_26, fun _ h => by cases h⟩⟩⟩⟩⟩⟩⟩⟩⟩⟩⟩⟩⟩⟩⟩
theorem d262_0 : decode (mC M262) 0 = .ok (.aload_n 0, 1) := by decide +kernel
theorem d262_1 : decode (mC M262) 1 = .ok (.getfield 37, 3) := by decide +kernel
theorem d262_4 : decode (mC M262) 4 = .ok (.bipush 25, 2) := by decide +kernel
theorem d262_6 : decode (mC M262) 6 = .ok (.iload_n 1, 1) := by decide +kernel
theorem d262_7 : decode (mC M262) 7 = .ok (.imul, 1) := by decide +kernel
theorem d262_8 : decode (mC M262) 8 = .ok (.iload_n 2, 1) := by decide +kernel
theorem d262_9 : decode (mC M262) 9 = .ok (.iadd, 1) := by decide +kernel
theorem d262_10 : decode (mC M262) 10 = .ok (.iaload, 1) := by decide +kernel
theorem d262_11 : decode (mC M262) 11 = .ok (.ireturn, 1) := by decide +kernel
theorem sc262_0 : ∀ q ∈ tc262_0, Snd xtb M262 q.1 q.2 := List.forall_mem_cons.mpr ⟨snd_aload_n d262_0 rfl, List.forall_mem_cons.mpr ⟨snd_getR (by decide) (by decide) rfl wd1386 d262_1, List.forall_mem_cons.mpr ⟨snd_bipush d262_4 (by decide +kernel), List.forall_mem_cons.mpr ⟨snd_iload_n d262_6 rfl, List.forall_mem_cons.mpr ⟨snd_imul d262_7, List.forall_mem_cons.mpr ⟨snd_iload_n d262_8 rfl, List.forall_mem_cons.mpr ⟨snd_iadd d262_9, List.forall_mem_cons.mpr ⟨snd_iald d262_10, List.forall_mem_cons.mpr ⟨snd_iret rfl d262_11, fun _ h => by cases h⟩⟩⟩⟩⟩⟩⟩⟩⟩
theorem d263_0 : decode (mC M263) 0 = .ok (.aload_n 0, 1) := by decide +kernel
theorem d263_1 : decode (mC M263) 1 = .ok (.getfield 37, 3) := by decide +kernel
theorem d263_4 : decode (mC M263) 4 = .ok (.bipush 25, 2) := by decide +kernel
theorem d263_6 : decode (mC M263) 6 = .ok (.iload_n 1, 1) := by decide +kernel
theorem d263_7 : decode (mC M263) 7 = .ok (.imul, 1) := by decide +kernel
theorem d263_8 : decode (mC M263) 8 = .ok (.bipush 9, 2) := by decide +kernel
theorem d263_10 : decode (mC M263) 10 = .ok (.iadd, 1) := by decide +kernel
theorem d263_11 : decode (mC M263) 11 = .ok (.iconst 4, 1) := by decide +kernel
theorem d263_12 : decode (mC M263) 12 = .ok (.iload_n 2, 1) := by decide +kernel
theorem d263_13 : decode (mC M263) 13 = .ok (.imul, 1) := by decide +kernel
theorem d263_14 : decode (mC M263) 14 = .ok (.iadd, 1) := by decide +kernel
theorem d263_15 : decode (mC M263) 15 = .ok (.iload_n 3, 1) := by decide +kernel
theorem d263_16 : decode (mC M263) 16 = .ok (.iadd, 1) := by decide +kernel
theorem d263_17 : decode (mC M263) 17 = .ok (.iaload, 1) := by decide +kernel
theorem d263_18 : decode (mC M263) 18 = .ok (.ireturn, 1) := by decide +kernel
theorem sc263_0 : ∀ q ∈ tc263_0, Snd xtb M263 q.1 q.2 := List.forall_mem_cons.mpr ⟨snd_aload_n d263_0 rfl, List.forall_mem_cons.mpr ⟨snd_getR (by decide) (by decide) rfl wd1386 d263_1, List.forall_mem_cons.mpr ⟨snd_bipush d263_4 (by decide +kernel), List.forall_mem_cons.mpr ⟨snd_iload_n d263_6 rfl, List.forall_mem_cons.mpr ⟨snd_imul d263_7, List.forall_mem_cons.mpr ⟨snd_bipush d263_8 (by decide +kernel), List.forall_mem_cons.mpr ⟨snd_iadd d263_10, List.forall_mem_cons.mpr ⟨snd_iconst d263_11 (by decide +kernel), List.forall_mem_cons.mpr ⟨snd_iload_n d263_12 rfl, List.forall_mem_cons.mpr ⟨snd_imul d263_13, List.forall_mem_cons.mpr ⟨snd_iadd d263_14, List.forall_mem_cons.mpr ⟨snd_iload_n d263_15 rfl, List.forall_mem_cons.mpr ⟨snd_iadd d263_16, List.forall_mem_cons.mpr ⟨snd_iald d263_17, List.forall_mem_cons.mpr ⟨snd_iret rfl d263_18, fun _ h => by cases h⟩⟩⟩⟩⟩⟩⟩⟩⟩⟩⟩⟩⟩⟩⟩
theorem d264_0 : decode (mC M264) 0 = .ok (.aload_n 0, 1) := by decide +kernel
theorem d264_1 : decode (mC M264) 1 = .ok (.iload_n 1, 1) := by decide +kernel
theorem d264_2 : decode (mC M264) 2 = .ok (.bipush 6, 2) := by decide +kernel
theorem d264_4 : decode (mC M264) 4 = .ok (.invokevirtual 363, 3) := by decide +kernel
theorem d264_7 : decode (mC M264) 7 = .ok (.aload_n 0, 1) := by decide +kernel
theorem d264_8 : decode (mC M264) 8 = .ok (.iload_n 1, 1) := by decide +kernel
theorem d264_9 : decode (mC M264) 9 = .ok (.iconst 5, 1) := by decide +kernel
theorem d264_10 : decode (mC M264) 10 = .ok (.invokevirtual 363, 3) := by decide +kernel
theorem d264_13 : decode (mC M264) 13 = .ok (.aload_n 0, 1) := by decide +kernel
theorem d264_14 : decode (mC M264) 14 = .ok (.iload_n 1, 1) := by decide +kernel
theorem d264_15 : decode (mC M264) 15 = .ok (.iload_n 2, 1) := by decide +kernel
theorem d264_16 : decode (mC M264) 16 = .ok (.iconst 2, 1) := by decide +kernel
theorem d264_17 : decode (mC M264) 17 = .ok (.invokevirtual 366, 3) := by decide +kernel
theorem d264_20 : decode (mC M264) 20 = .ok (.aload_n 0, 1) := by decide +kernel
theorem d264_21 : decode (mC M264) 21 = .ok (.iload_n 1, 1) := by decide +kernel
theorem d264_22 : decode (mC M264) 22 = .ok (.iload_n 2, 1) := by decide +kernel
theorem d264_23 : decode (mC M264) 23 = .ok (.iconst 3, 1) := by decide +kernel
theorem d264_24 : decode (mC M264) 24 = .ok (.invokevirtual 366, 3) := by decide +kernel
theorem d264_27 : decode (mC M264) 27 = .ok (.iconst 1, 1) := by decide +kernel
theorem d264_28 : decode (mC M264) 28 = .ok (.if_icmp .ne 7, 3) := by decide +kernel
theorem d264_31 : decode (mC M264) 31 = .ok (.iconst 1, 1) := by decide +kernel
theorem d264_32 : decode (mC M264) 32 = .ok (.goto 4, 3) := by decide +kernel
theorem d264_35 : decode (mC M264) 35 = .ok (.iconst 0, 1) := by decide +kernel
theorem d264_36 : decode (mC M264) 36 = .ok (.invokestatic 349, 3) := by decide +kernel
theorem d264_39 : decode (mC M264) 39 = .ok (.ireturn, 1) := by decide +kernel
theorem sc264_0 : ∀ q ∈ tc264_0, Snd xtb M264 q.1 q.2 := List.forall_mem_cons.mpr ⟨snd_aload_n d264_0 rfl, List.forall_mem_cons.mpr ⟨snd_iload_n d264_1 rfl, List.forall_mem_cons.mpr ⟨snd_bipush d264_2 (by decide +kernel), List.forall_mem_cons.mpr ⟨snd_callV (by decide) rfl cn262 ⟨by decide +kernel, by decide +kernel⟩ cm262 (List.forall_mem_cons.mpr ⟨wd1845, cw262⟩) d264_4, List.forall_mem_cons.mpr ⟨snd_aload_n d264_7 rfl, List.forall_mem_cons.mpr ⟨snd_iload_n d264_8 rfl, List.forall_mem_cons.mpr ⟨snd_iconst d264_9 (by decide +kernel), List.forall_mem_cons.mpr ⟨snd_callV (by decide) rfl cn262 ⟨by decide +kernel, by decide +kernel⟩ cm262 (List.forall_mem_cons.mpr ⟨wd1845, cw262⟩) d264_10, List.forall_mem_cons.mpr ⟨snd_aload_n d264_13 rfl, List.forall_mem_cons.mpr ⟨snd_iload_n d264_14 rfl, List.forall_mem_cons.mpr ⟨snd_iload_n d264_15 rfl, List.forall_mem_cons.mpr ⟨snd_iconst d264_16 (by decide +kernel), List.forall_mem_cons.mpr ⟨snd_callV (by decide) rfl cn263 ⟨by decide +kernel, by decide +kernel⟩ cm263 (List.forall_mem_cons.mpr ⟨wd1857, cw263⟩) d264_17, List.forall_mem_cons.mpr ⟨snd_aload_n d264_20 rfl, List.forall_mem_cons.mpr ⟨snd_iload_n d264_21 rfl, List.forall_mem_cons.mpr ⟨snd_iload_n d264_22 rfl, List.forall_mem_cons.mpr ⟨snd_iconst d264_23 (by decide +kernel), List.forall_mem_cons.mpr ⟨snd_callV (by decide) rfl cn263 ⟨by decide +kernel, by decide +kernel⟩ cm263 (List.forall_mem_cons.mpr ⟨wd1857, cw263⟩) d264_24, List.forall_mem_cons.mpr ⟨snd_iconst d264_27 (by decide +kernel), List.forall_mem_cons.mpr ⟨snd_cmp_ne d264_28 (by decide), List.forall_mem_cons.mpr ⟨snd_iconst d264_31 (by decide +kernel), List.forall_mem_cons.mpr ⟨snd_goto d264_32 (by decide), List.forall_mem_cons.mpr ⟨snd_iconst d264_35 (by decide +kernel), List.forall_mem_cons.mpr ⟨snd_callS cn255 ⟨by decide +kernel, by decide +kernel⟩ cm255 (List.forall_mem_cons.mpr ⟨wd1821, cw255⟩) d264_36, List.forall_mem_cons.mpr ⟨snd_iret rfl d264_39, fun _ h => by cases h⟩⟩⟩⟩⟩⟩⟩⟩⟩⟩⟩⟩⟩⟩⟩⟩⟩⟩⟩⟩⟩⟩⟩⟩⟩
theorem d265_0 : decode (mC M265) 0 = .ok (.aload_n 0, 1) := by decide +kernel
theorem d265_1 : decode (mC M265) 1 = .ok (.iload_n 1, 1) := by decide +kernel
theorem d265_2 : decode (mC M265) 2 = .ok (.iload_n 2, 1) := by decide +kernel
theorem d265_3 : decode (mC M265) 3 = .ok (.invokevirtual 369, 3) := by decide +kernel
theorem d265_6 : decode (mC M265) 6 = .ok (.aload_n 0, 1) := by decide +kernel
theorem d265_7 : decode (mC M265) 7 = .ok (.iload_n 1, 1) := by decide +kernel
theorem d265_8 : decode (mC M265) 8 = .ok (.iload_n 2, 1) := by decide +kernel
theorem d265_9 : decode (mC M265) 9 = .ok (.iconst 1, 1) := by decide +kernel
theorem d265_10 : decode (mC M265) 10 = .ok (.invokevirtual 366, 3) := by decide +kernel
theorem d265_13 : decode (mC M265) 13 = .ok (.invokestatic 353, 3) := by decide +kernel
theorem d265_16 : decode (mC M265) 16 = .ok (.ireturn, 1) := by decide +kernel
theorem sc265_0 : ∀ q ∈ tc265_0, Snd xtb M265 q.1 q.2 := List.forall_mem_cons.mpr ⟨snd_aload_n d265_0 rfl, List.forall_mem_cons.mpr ⟨snd_iload_n d265_1 rfl, List.forall_mem_cons.mpr ⟨snd_iload_n d265_2 rfl, List.forall_mem_cons.mpr ⟨snd_callV (by decide) rfl cn264 ⟨by decide +kernel, by decide +kernel⟩ cm264 (List.forall_mem_cons.mpr ⟨wd1853, cw264⟩) d265_3, List.forall_mem_cons.mpr ⟨snd_aload_n d265_6 rfl, List.forall_mem_cons.mpr ⟨snd_iload_n d265_7 rfl, List.forall_mem_cons.mpr ⟨snd_iload_n d265_8 rfl, List.forall_mem_cons.mpr ⟨snd_iconst d265_9 (by decide +kernel), List.forall_mem_cons.mpr ⟨snd_callV (by decide) rfl cn263 ⟨by decide +kernel, by decide +kernel⟩ cm263 (List.forall_mem_cons.mpr ⟨wd1857, cw263⟩) d265_10, List.forall_mem_cons.mpr ⟨snd_callS cn256 ⟨by decide +kernel, by decide +kernel⟩ cm256 (List.forall_mem_cons.mpr ⟨wd1824, cw256⟩) d265_13, List.forall_mem_cons.mpr ⟨snd_iret rfl d265_16, fun _ h => by cases h⟩⟩⟩⟩⟩⟩⟩⟩⟩⟩⟩
theorem d266_0 : decode (mC M266) 0 = .ok (.iconst 0, 1) := by decide +kernel
theorem d266_1 : decode (mC M266) 1 = .ok (.istore_n 2, 1) := by decide +kernel
theorem d266_2 : decode (mC M266) 2 = .ok (.iconst 0, 1) := by decide +kernel
theorem d266_3 : decode (mC M266) 3 = .ok (.istore_n 3, 1) := by decide +kernel
theorem d266_4 : decode (mC M266) 4 = .ok (.iload_n 3, 1) := by decide +kernel
theorem d266_5 : decode (mC M266) 5 = .ok (.aload_n 0, 1) := by decide +kernel
theorem d266_6 : decode (mC M266) 6 = .ok (.iload_n 1, 1) := by decide +kernel
theorem d266_7 : decode (mC M266) 7 = .ok (.bipush 7, 2) := by decide +kernel
theorem d266_9 : decode (mC M266) 9 = .ok (.invokevirtual 363, 3) := by decide +kernel
theorem d266_12 : decode (mC M266) 12 = .ok (.if_icmp .ge 18, 3) := by decide +kernel
theorem d266_15 : decode (mC M266) 15 = .ok (.iload_n 2, 1) := by decide +kernel
theorem d266_16 : decode (mC M266) 16 = .ok (.aload_n 0, 1) := by decide +kernel
theorem d266_17 : decode (mC M266) 17 = .ok (.iload_n 1, 1) := by decide +kernel
theorem d266_18 : decode (mC M266) 18 = .ok (.iload_n 3, 1) := by decide +kernel
theorem d266_19 : decode (mC M266) 19 = .ok (.invokevirtual 372, 3) := by decide +kernel
theorem d266_22 : decode (mC M266) 22 = .ok (.iadd, 1) := by decide +kernel
theorem d266_23 : decode (mC M266) 23 = .ok (.istore_n 2, 1) := by decide +kernel
theorem d266_24 : decode (mC M266) 24 = .ok (.iinc 3 1, 3) := by decide +kernel
theorem d266_27 : decode (mC M266) 27 = .ok (.goto (-23), 3) := by decide +kernel
theorem d266_30 : decode (mC M266) 30 = .ok (.iload_n 2, 1) := by decide +kernel
theorem d266_31 : decode (mC M266) 31 = .ok (.ireturn, 1) := by decide +kernel
theorem sc266_0 : ∀ q ∈ tc266_0, Snd xtb M266 q.1 q.2 := List.forall_mem_cons.mpr ⟨snd_iconst d266_0 (by decide +kernel), List.forall_mem_cons.mpr ⟨snd_istore_n d266_1 rfl, List.forall_mem_cons.mpr ⟨snd_iconst d266_2 (by decide +kernel), List.forall_mem_cons.mpr ⟨snd_istore_n d266_3 rfl, List.forall_mem_cons.mpr ⟨snd_iload_n d266_4 rfl, List.forall_mem_cons.mpr ⟨snd_aload_n d266_5 rfl, List.forall_mem_cons.mpr ⟨snd_iload_n d266_6 rfl, List.forall_mem_cons.mpr ⟨snd_bipush d266_7 (by decide +kernel), List.forall_mem_cons.mpr ⟨snd_callV (by decide) rfl cn262 ⟨by decide +kernel, by decide +kernel⟩ cm262 (List.forall_mem_cons.mpr ⟨wd1845, cw262⟩) d266_9, List.forall_mem_cons.mpr ⟨snd_cmp_ge d266_12 (by decide), List.forall_mem_cons.mpr ⟨snd_iload_n d266_15 rfl, List.forall_mem_cons.mpr ⟨snd_aload_n d266_16 rfl, List.forall_mem_cons.mpr ⟨snd_iload_n d266_17 rfl, List.forall_mem_cons.mpr ⟨snd_iload_n d266_18 rfl, List.forall_mem_cons.mpr ⟨snd_callV (by decide) rfl cn265 ⟨by decide +kernel, by decide +kernel⟩ cm265 (List.forall_mem_cons.mpr ⟨wd1849, cw265⟩) d266_19, List.forall_mem_cons.mpr ⟨snd_iadd d266_22, List.forall_mem_cons.mpr ⟨snd_istore_n d266_23 rfl, List.forall_mem_cons.mpr ⟨snd_iinc d266_24 (by decide +kernel), List.forall_mem_cons.mpr ⟨snd_goto d266_27 (by decide), List.forall_mem_cons.mpr ⟨snd_iload_n d266_30 rfl, List.forall_mem_cons.mpr ⟨snd_iret rfl d266_31, fun _ h => by cases h⟩⟩⟩⟩⟩⟩⟩⟩⟩⟩⟩⟩⟩⟩⟩⟩⟩⟩⟩⟩⟩
theorem d267_0 : decode (mC M267) 0 = .ok (.aload_n 0, 1) := by decide +kernel
theorem d267_1 : decode (mC M267) 1 = .ok (.iconst 0, 1) := by decide +kernel
theorem d267_2 : decode (mC M267) 2 = .ok (.putfield 64, 3) := by decide +kernel
theorem d267_5 : decode (mC M267) 5 = .ok (.aload_n 0, 1) := by decide +kernel
theorem d267_6 : decode (mC M267) 6 = .ok (.iload_n 1, 1) := by decide +kernel
theorem d267_7 : decode (mC M267) 7 = .ok (.invokevirtual 375, 3) := by decide +kernel
theorem d267_10 : decode (mC M267) 10 = .ok (.ifCond .eq 13, 3) := by decide +kernel
theorem d267_13 : decode (mC M267) 13 = .ok (.iload_n 2, 1) := by decide +kernel
theorem d267_14 : decode (mC M267) 14 = .ok (.iconst 0, 1) := by decide +kernel
theorem d267_15 : decode (mC M267) 15 = .ok (.bipush 9, 2) := by decide +kernel
theorem d267_17 : decode (mC M267) 17 = .ok (.invokestatic 95, 3) := by decide +kernel
theorem d267_20 : decode (mC M267) 20 = .ok (.ifCond .ne 9, 3) := by decide +kernel
theorem d267_23 : decode (mC M267) 23 = .ok (.aload_n 0, 1) := by decide +kernel
theorem d267_24 : decode (mC M267) 24 = .ok (.iconst 1, 1) := by decide +kernel
theorem d267_25 : decode (mC M267) 25 = .ok (.invokevirtual 70, 3) := by decide +kernel
theorem d267_28 : decode (mC M267) 28 = .ok (.ireturn, 1) := by decide +kernel
theorem d267_29 : decode (mC M267) 29 = .ok (.aload_n 0, 1) := by decide +kernel
theorem d267_30 : decode (mC M267) 30 = .ok (.iload_n 2, 1) := by decide +kernel
theorem d267_31 : decode (mC M267) 31 = .ok (.bipush 8, 2) := by decide +kernel
theorem d267_33 : decode (mC M267) 33 = .ok (.if_icmp .ne 11, 3) := by decide +kernel
theorem d267_36 : decode (mC M267) 36 = .ok (.aload_n 0, 1) := by decide +kernel
theorem d267_37 : decode (mC M267) 37 = .ok (.iload_n 1, 1) := by decide +kernel
theorem d267_38 : decode (mC M267) 38 = .ok (.invokevirtual 378, 3) := by decide +kernel
theorem d267_41 : decode (mC M267) 41 = .ok (.goto 33, 3) := by decide +kernel
theorem d267_44 : decode (mC M267) 44 = .ok (.iload_n 2, 1) := by decide +kernel
theorem d267_45 : decode (mC M267) 45 = .ok (.bipush 9, 2) := by decide +kernel
theorem d267_47 : decode (mC M267) 47 = .ok (.if_icmp .ne 21, 3) := by decide +kernel
theorem d267_50 : decode (mC M267) 50 = .ok (.aload_n 0, 1) := by decide +kernel
theorem d267_51 : decode (mC M267) 51 = .ok (.iload_n 1, 1) := by decide +kernel
theorem d267_52 : decode (mC M267) 52 = .ok (.bipush 8, 2) := by decide +kernel
theorem d267_54 : decode (mC M267) 54 = .ok (.invokevirtual 363, 3) := by decide +kernel
theorem d267_57 : decode (mC M267) 57 = .ok (.ifCond .le 7, 3) := by decide +kernel
theorem d267_60 : decode (mC M267) 60 = .ok (.iconst 1, 1) := by decide +kernel
theorem d267_61 : decode (mC M267) 61 = .ok (.goto 13, 3) := by decide +kernel
theorem d267_64 : decode (mC M267) 64 = .ok (.iconst 0, 1) := by decide +kernel
theorem d267_65 : decode (mC M267) 65 = .ok (.goto 9, 3) := by decide +kernel
theorem d267_68 : decode (mC M267) 68 = .ok (.aload_n 0, 1) := by decide +kernel
theorem d267_69 : decode (mC M267) 69 = .ok (.iload_n 1, 1) := by decide +kernel
theorem d267_70 : decode (mC M267) 70 = .ok (.iload_n 2, 1) := by decide +kernel
theorem d267_71 : decode (mC M267) 71 = .ok (.invokevirtual 363, 3) := by decide +kernel
theorem d267_74 : decode (mC M267) 74 = .ok (.invokevirtual 264, 3) := by decide +kernel
theorem d267_77 : decode (mC M267) 77 = .ok (.ireturn, 1) := by decide +kernel
theorem sc267_0 : ∀ q ∈ tc267_0, Snd xtb M267 q.1 q.2 := List.forall_mem_cons.mpr ⟨snd_aload_n d267_0 rfl, List.forall_mem_cons.mpr ⟨snd_iconst d267_1 (by decide +kernel), List.forall_mem_cons.mpr ⟨snd_putI (by decide) (by decide) rfl rfl wd1367 d267_2, List.forall_mem_cons.mpr ⟨snd_aload_n d267_5 rfl, List.forall_mem_cons.mpr ⟨snd_iload_n d267_6 rfl, List.forall_mem_cons.mpr ⟨snd_callV (by decide) rfl cn261 ⟨by decide +kernel, by decide +kernel⟩ cm261 (List.forall_mem_cons.mpr ⟨wd1837, cw261⟩) d267_7, List.forall_mem_cons.mpr ⟨snd_if_eq d267_10 (by decide), List.forall_mem_cons.mpr ⟨snd_iload_n d267_13 rfl, List.forall_mem_cons.mpr ⟨snd_iconst d267_14 (by decide +kernel), List.forall_mem_cons.mpr ⟨snd_bipush d267_15 (by decide +kernel), List.forall_mem_cons.mpr ⟨snd_callS cn175 ⟨by decide +kernel, by decide +kernel⟩ cm175 (List.forall_mem_cons.mpr ⟨wd1492, cw175⟩) d267_17, List.forall_mem_cons.mpr ⟨snd_if_ne d267_20 (by decide), List.forall_mem_cons.mpr ⟨snd_aload_n d267_23 rfl, List.forall_mem_cons.mpr ⟨snd_iconst d267_24 (by decide +kernel), List.forall_mem_cons.mpr ⟨snd_callV (by decide) rfl cn172 ⟨by decide +kernel, by decide +kernel⟩ cm172 (List.forall_mem_cons.mpr ⟨wd1476, cw172⟩) d267_25, List.forall_mem_cons.mpr ⟨snd_iret rfl d267_28, List.forall_mem_cons.mpr ⟨snd_aload_n d267_29 rfl, List.forall_mem_cons.mpr ⟨snd_iload_n d267_30 rfl, List.forall_mem_cons.mpr ⟨snd_bipush d267_31 (by decide +kernel), List.forall_mem_cons.mpr ⟨snd_cmp_ne d267_33 (by decide), List.forall_mem_cons.mpr ⟨snd_aload_n d267_36 rfl, List.forall_mem_cons.mpr ⟨snd_iload_n d267_37 rfl, List.forall_mem_cons.mpr ⟨snd_callV (by decide) rfl cn266 ⟨by decide +kernel, by decide +kernel⟩ cm266 (List.forall_mem_cons.mpr ⟨wd1841, cw266⟩) d267_38, List.forall_mem_cons.mpr ⟨snd_goto d267_41 (by decide), List.forall_mem_cons.mpr ⟨snd_iload_n d267_44 rfl, List.forall_mem_cons.mpr ⟨snd_bipush d267_45 (by decide +kernel), List.forall_mem_cons.mpr ⟨snd_cmp_ne d267_47 (by decide), List.forall_mem_cons.mpr ⟨snd_aload_n d267_50 rfl, List.forall_mem_cons.mpr ⟨snd_iload_n d267_51 rfl, List.forall_mem_cons.mpr ⟨snd_bipush d267_52 (by decide +kernel), fun _ h => by cases h⟩⟩⟩⟩⟩⟩⟩⟩⟩⟩⟩⟩⟩⟩⟩⟩⟩⟩⟩⟩⟩⟩⟩⟩⟩⟩⟩⟩⟩⟩
theorem sc267_1 : ∀ q ∈ tc267_1, Snd xtb M267 q.1 q.2 := List.forall_mem_cons.mpr ⟨snd_callV (by decide) rfl cn262 ⟨by decide +kernel, by decide +kernel⟩ cm262 (List.forall_mem_cons.mpr ⟨wd1845, cw262⟩) d267_54, List.forall_mem_cons.mpr ⟨snd_if_le d267_57 (by decide), List.forall_mem_cons.mpr ⟨snd_iconst d267_60 (by decide +kernel), List.forall_mem_cons.mpr ⟨snd_goto d267_61 (by decide), List.forall_mem_cons.mpr ⟨snd_iconst d267_64 (by decide +kernel), List.forall_mem_cons.mpr ⟨snd_goto d267_65 (by decide), List.forall_mem_cons.mpr ⟨snd_aload_n d267_68 rfl, List.forall_mem_cons.mpr ⟨snd_iload_n d267_69 rfl, List.forall_mem_cons.mpr ⟨snd_iload_n d267_70 rfl, List.forall_mem_cons.mpr ⟨snd_callV (by decide) rfl cn262 ⟨by decide +kernel, by decide +kernel⟩ cm262 (List.forall_mem_cons.mpr ⟨wd1845, cw262⟩) d267_71, List.forall_mem_cons.mpr ⟨snd_callV (by decide) rfl cn174 ⟨by decide +kernel, by decide +kernel⟩ cm174 (List.forall_mem_cons.mpr ⟨wd1622, cw174⟩) d267_74, List.forall_mem_cons.mpr ⟨snd_iret rfl d267_77, fun _ h => by cases h⟩⟩⟩⟩⟩⟩⟩⟩⟩⟩⟩⟩
theorem d268_0 : decode (mC M268) 0 = .ok (.aload_n 0, 1) := by decide +kernel
theorem d268_1 : decode (mC M268) 1 = .ok (.iconst 0, 1) := by decide +kernel
theorem d268_2 : decode (mC M268) 2 = .ok (.putfield 64, 3) := by decide +kernel
theorem d268_5 : decode (mC M268) 5 = .ok (.aload_n 0, 1) := by decide +kernel
theorem d268_6 : decode (mC M268) 6 = .ok (.iload_n 1, 1) := by decide +kernel
theorem d268_7 : decode (mC M268) 7 = .ok (.invokevirtual 375, 3) := by decide +kernel
theorem d268_10 : decode (mC M268) 10 = .ok (.ifCond .eq 29, 3) := by decide +kernel
theorem d268_13 : decode (mC M268) 13 = .ok (.iload_n 2, 1) := by decide +kernel
theorem d268_14 : decode (mC M268) 14 = .ok (.iconst 0, 1) := by decide +kernel
theorem d268_15 : decode (mC M268) 15 = .ok (.aload_n 0, 1) := by decide +kernel
theorem d268_16 : decode (mC M268) 16 = .ok (.iload_n 1, 1) := by decide +kernel
theorem d268_17 : decode (mC M268) 17 = .ok (.bipush 7, 2) := by decide +kernel
theorem d268_19 : decode (mC M268) 19 = .ok (.invokevirtual 363, 3) := by decide +kernel
theorem d268_22 : decode (mC M268) 22 = .ok (.iconst 1, 1) := by decide +kernel
theorem d268_23 : decode (mC M268) 23 = .ok (.isub, 1) := by decide +kernel
theorem d268_24 : decode (mC M268) 24 = .ok (.invokestatic 95, 3) := by decide +kernel
theorem d268_27 : decode (mC M268) 27 = .ok (.ifCond .eq 12, 3) := by decide +kernel
theorem d268_30 : decode (mC M268) 30 = .ok (.iload_n 3, 1) := by decide +kernel
theorem d268_31 : decode (mC M268) 31 = .ok (.iconst 0, 1) := by decide +kernel
theorem d268_32 : decode (mC M268) 32 = .ok (.iconst 5, 1) := by decide +kernel
theorem d268_33 : decode (mC M268) 33 = .ok (.invokestatic 95, 3) := by decide +kernel
theorem d268_36 : decode (mC M268) 36 = .ok (.ifCond .ne 9, 3) := by decide +kernel
theorem d268_39 : decode (mC M268) 39 = .ok (.aload_n 0, 1) := by decide +kernel
theorem d268_40 : decode (mC M268) 40 = .ok (.iconst 1, 1) := by decide +kernel
theorem d268_41 : decode (mC M268) 41 = .ok (.invokevirtual 70, 3) := by decide +kernel
theorem d268_44 : decode (mC M268) 44 = .ok (.ireturn, 1) := by decide +kernel
theorem d268_45 : decode (mC M268) 45 = .ok (.aload_n 0, 1) := by decide +kernel
theorem d268_46 : decode (mC M268) 46 = .ok (.iload_n 3, 1) := by decide +kernel
theorem d268_47 : decode (mC M268) 47 = .ok (.iconst 4, 1) := by decide +kernel
theorem d268_48 : decode (mC M268) 48 = .ok (.if_icmp .ge 13, 3) := by decide +kernel
theorem d268_51 : decode (mC M268) 51 = .ok (.aload_n 0, 1) := by decide +kernel
theorem d268_52 : decode (mC M268) 52 = .ok (.iload_n 1, 1) := by decide +kernel
theorem d268_53 : decode (mC M268) 53 = .ok (.iload_n 2, 1) := by decide +kernel
theorem d268_54 : decode (mC M268) 54 = .ok (.iload_n 3, 1) := by decide +kernel
theorem d268_55 : decode (mC M268) 55 = .ok (.invokevirtual 366, 3) := by decide +kernel
theorem d268_58 : decode (mC M268) 58 = .ok (.goto 23, 3) := by decide +kernel
theorem d268_61 : decode (mC M268) 61 = .ok (.iload_n 3, 1) := by decide +kernel
theorem d268_62 : decode (mC M268) 62 = .ok (.iconst 4, 1) := by decide +kernel
theorem d268_63 : decode (mC M268) 63 = .ok (.if_icmp .ne 12, 3) := by decide +kernel
theorem d268_66 : decode (mC M268) 66 = .ok (.aload_n 0, 1) := by decide +kernel
theorem d268_67 : decode (mC M268) 67 = .ok (.iload_n 1, 1) := by decide +kernel
theorem d268_68 : decode (mC M268) 68 = .ok (.iload_n 2, 1) := by decide +kernel
theorem d268_69 : decode (mC M268) 69 = .ok (.invokevirtual 369, 3) := by decide +kernel
theorem d268_72 : decode (mC M268) 72 = .ok (.goto 9, 3) := by decide +kernel
theorem d268_75 : decode (mC M268) 75 = .ok (.aload_n 0, 1) := by decide +kernel
theorem d268_76 : decode (mC M268) 76 = .ok (.iload_n 1, 1) := by decide +kernel
theorem d268_77 : decode (mC M268) 77 = .ok (.iload_n 2, 1) := by decide +kernel
theorem d268_78 : decode (mC M268) 78 = .ok (.invokevirtual 372, 3) := by decide +kernel
theorem d268_81 : decode (mC M268) 81 = .ok (.invokevirtual 264, 3) := by decide +kernel
theorem d268_84 : decode (mC M268) 84 = .ok (.ireturn, 1) := by decide +kernel
theorem sc268_0 : ∀ q ∈ tc268_0, Snd xtb M268 q.1 q.2 := List.forall_mem_cons.mpr ⟨snd_aload_n d268_0 rfl, List.forall_mem_cons.mpr ⟨snd_iconst d268_1 (by decide +kernel), List.forall_mem_cons.mpr ⟨snd_putI (by decide) (by decide) rfl rfl wd1367 d268_2, List.forall_mem_cons.mpr ⟨snd_aload_n d268_5 rfl, List.forall_mem_cons.mpr ⟨snd_iload_n d268_6 rfl, List.forall_mem_cons.mpr ⟨snd_callV (by decide) rfl cn261 ⟨by decide +kernel, by decide +kernel⟩ cm261 (List.forall_mem_cons.mpr ⟨wd1837, cw261⟩) d268_7, List.forall_mem_cons.mpr ⟨snd_if_eq d268_10 (by decide), List.forall_mem_cons.mpr ⟨snd_iload_n d268_13 rfl, List.forall_mem_cons.mpr ⟨snd_iconst d268_14 (by decide +kernel), List.forall_mem_cons.mpr ⟨snd_aload_n d268_15 rfl, List.forall_mem_cons.mpr ⟨snd_iload_n d268_16 rfl, List.forall_mem_cons.mpr ⟨snd_bipush d268_17 (by decide +kernel), List.forall_mem_cons.mpr ⟨snd_callV (by decide) rfl cn262 ⟨by decide +kernel, by decide +kernel⟩ cm262 (List.forall_mem_cons.mpr ⟨wd1845, cw262⟩) d268_19, List.forall_mem_cons.mpr ⟨snd_iconst d268_22 (by decide +kernel), List.forall_mem_cons.mpr ⟨snd_isub d268_23, List.forall_mem_cons.mpr ⟨snd_callS cn175 ⟨by decide +kernel, by decide +kernel⟩ cm175 (List.forall_mem_cons.mpr ⟨wd1492, cw175⟩) d268_24, List.forall_mem_cons.mpr ⟨snd_if_eq d268_27 (by decide), List.forall_mem_cons.mpr ⟨snd_iload_n d268_30 rfl, List.forall_mem_cons.mpr ⟨snd_iconst d268_31 (by decide +kernel), List.forall_mem_cons.mpr ⟨snd_iconst d268_32 (by decide +kernel), List.forall_mem_cons.mpr ⟨snd_callS cn175 ⟨by decide +kernel, by decide +kernel⟩ cm175 (List.forall_mem_cons.mpr ⟨wd1492, cw175⟩) d268_33, List.forall_mem_cons.mpr ⟨snd_if_ne d268_36 (by decide), List.forall_mem_cons.mpr ⟨snd_aload_n d268_39 rfl, List.forall_mem_cons.mpr ⟨snd_iconst d268_40 (by decide +kernel), List.forall_mem_cons.mpr ⟨snd_callV (by decide) rfl cn172 ⟨by decide +kernel, by decide +kernel⟩ cm172 (List.forall_mem_cons.mpr ⟨wd1476, cw172⟩) d268_41, List.forall_mem_cons.mpr ⟨snd_iret rfl d268_44, List.forall_mem_cons.mpr ⟨snd_aload_n d268_45 rfl, List.forall_mem_cons.mpr ⟨snd_iload_n d268_46 rfl, List.forall_mem_cons.mpr ⟨snd_iconst d268_47 (by decide +kernel), List.forall_mem_cons.mpr ⟨snd_cmp_ge d268_48 (by decide), fun _ h => by cases h⟩⟩⟩⟩⟩⟩⟩⟩⟩⟩⟩⟩⟩⟩⟩⟩⟩⟩⟩⟩⟩⟩⟩⟩⟩⟩⟩⟩⟩⟩
theorem sc268_1 : ∀ q ∈ tc268_1, Snd xtb M268 q.1 q.2 := List.forall_mem_cons.mpr ⟨snd_aload_n d268_51 rfl, List.forall_mem_cons.mpr ⟨snd_iload_n d268_52 rfl, List.forall_mem_cons.mpr ⟨snd_iload_n d268_53 rfl, List.forall_mem_cons.mpr ⟨snd_iload_n d268_54 rfl, List.forall_mem_cons.mpr ⟨snd_callV (by decide) rfl cn263 ⟨by decide +kernel, by decide +kernel⟩ cm263 (List.forall_mem_cons.mpr ⟨wd1857, cw263⟩) d268_55, List.forall_mem_cons.mpr ⟨snd_goto d268_58 (by decide), List.forall_mem_cons.mpr ⟨snd_iload_n d268_61 rfl, List.forall_mem_cons.mpr ⟨snd_iconst d268_62 (by decide +kernel), List.forall_mem_cons.mpr ⟨snd_cmp_ne d268_63 (by decide), List.forall_mem_cons.mpr ⟨snd_aload_n d268_66 rfl, List.forall_mem_cons.mpr ⟨snd_iload_n d268_67 rfl, List.forall_mem_cons.mpr ⟨snd_iload_n d268_68 rfl, List.forall_mem_cons.mpr ⟨snd_callV (by decide) rfl cn264 ⟨by decide +kernel, by decide +kernel⟩ cm264 (List.forall_mem_cons.mpr ⟨wd1853, cw264⟩) d268_69, List.forall_mem_cons.mpr ⟨snd_goto d268_72 (by decide), List.forall_mem_cons.mpr ⟨snd_aload_n d268_75 rfl, List.forall_mem_cons.mpr ⟨snd_iload_n d268_76 rfl, List.forall_mem_cons.mpr ⟨snd_iload_n d268_77 rfl, List.forall_mem_cons.mpr ⟨snd_callV (by decide) rfl cn265 ⟨by decide +kernel, by decide +kernel⟩ cm265 (List.forall_mem_cons.mpr ⟨wd1849, cw265⟩) d268_78, List.forall_mem_cons.mpr ⟨snd_callV (by decide) rfl cn174 ⟨by decide +kernel, by decide +kernel⟩ cm174 (List.forall_mem_cons.mpr ⟨wd1622, cw174⟩) d268_81, List.forall_mem_cons.mpr ⟨snd_iret rfl d268_84, fun _ h => by cases h⟩⟩⟩⟩⟩⟩⟩⟩⟩⟩⟩⟩⟩⟩⟩⟩⟩⟩⟩⟩
theorem d269_0 : decode (mC M269) 0 = .ok (.iconst 0, 1) := by decide +kernel
theorem d269_1 : decode (mC M269) 1 = .ok (.istore_n 3, 1) := by decide +kernel
theorem d269_2 : decode (mC M269) 2 = .ok (.iload_n 3, 1) := by decide +kernel
theorem d269_3 : decode (mC M269) 3 = .ok (.aload_n 0, 1) := by decide +kernel
theorem d269_4 : decode (mC M269) 4 = .ok (.getfield 381, 3) := by decide +kernel
theorem d269_7 : decode (mC M269) 7 = .ok (.if_icmp .ge 31, 3) := by decide +kernel
theorem d269_10 : decode (mC M269) 10 = .ok (.aload_n 0, 1) := by decide +kernel
theorem d269_11 : decode (mC M269) 11 = .ok (.getfield 40, 3) := by decide +kernel
theorem d269_14 : decode (mC M269) 14 = .ok (.iload_n 3, 1) := by decide +kernel
theorem d269_15 : decode (mC M269) 15 = .ok (.iaload, 1) := by decide +kernel
theorem d269_16 : decode (mC M269) 16 = .ok (.iload_n 1, 1) := by decide +kernel
theorem d269_17 : decode (mC M269) 17 = .ok (.if_icmp .ne 15, 3) := by decide +kernel
theorem d269_20 : decode (mC M269) 20 = .ok (.aload_n 0, 1) := by decide +kernel
theorem d269_21 : decode (mC M269) 21 = .ok (.getfield 43, 3) := by decide +kernel
theorem d269_24 : decode (mC M269) 24 = .ok (.iload_n 3, 1) := by decide +kernel
theorem d269_25 : decode (mC M269) 25 = .ok (.iaload, 1) := by decide +kernel
theorem d269_26 : decode (mC M269) 26 = .ok (.iload_n 2, 1) := by decide +kernel
theorem d269_27 : decode (mC M269) 27 = .ok (.if_icmp .ne 5, 3) := by decide +kernel
theorem d269_30 : decode (mC M269) 30 = .ok (.iload_n 3, 1) := by decide +kernel
theorem d269_31 : decode (mC M269) 31 = .ok (.ireturn, 1) := by decide +kernel
theorem d269_32 : decode (mC M269) 32 = .ok (.iinc 3 1, 3) := by decide +kernel
theorem d269_35 : decode (mC M269) 35 = .ok (.goto (-33), 3) := by decide +kernel
theorem d269_38 : decode (mC M269) 38 = .ok (.aload_n 0, 1) := by decide +kernel
theorem d269_39 : decode (mC M269) 39 = .ok (.getfield 40, 3) := by decide +kernel
theorem d269_42 : decode (mC M269) 42 = .ok (.aload_n 0, 1) := by decide +kernel
theorem d269_43 : decode (mC M269) 43 = .ok (.getfield 381, 3) := by decide +kernel
theorem d269_46 : decode (mC M269) 46 = .ok (.iload_n 1, 1) := by decide +kernel
theorem d269_47 : decode (mC M269) 47 = .ok (.iastore, 1) := by decide +kernel
theorem d269_48 : decode (mC M269) 48 = .ok (.aload_n 0, 1) := by decide +kernel
theorem d269_49 : decode (mC M269) 49 = .ok (.getfield 43, 3) := by decide +kernel
theorem d269_52 : decode (mC M269) 52 = .ok (.aload_n 0, 1) := by decide +kernel
theorem d269_53 : decode (mC M269) 53 = .ok (.getfield 381, 3) := by decide +kernel
theorem d269_56 : decode (mC M269) 56 = .ok (.iload_n 2, 1) := by decide +kernel
theorem d269_57 : decode (mC M269) 57 = .ok (.iastore, 1) := by decide +kernel
theorem d269_58 : decode (mC M269) 58 = .ok (.aload_n 0, 1) := by decide +kernel
theorem d269_59 : decode (mC M269) 59 = .ok (.getfield 46, 3) := by decide +kernel
theorem d269_62 : decode (mC M269) 62 = .ok (.aload_n 0, 1) := by decide +kernel
theorem d269_63 : decode (mC M269) 63 = .ok (.getfield 381, 3) := by decide +kernel
theorem d269_66 : decode (mC M269) 66 = .ok (.iconst 0, 1) := by decide +kernel
theorem d269_67 : decode (mC M269) 67 = .ok (.iastore, 1) := by decide +kernel
theorem d269_68 : decode (mC M269) 68 = .ok (.aload_n 0, 1) := by decide +kernel
theorem d269_69 : decode (mC M269) 69 = .ok (.dup, 1) := by decide +kernel
theorem d269_70 : decode (mC M269) 70 = .ok (.getfield 381, 3) := by decide +kernel
theorem d269_73 : decode (mC M269) 73 = .ok (.iconst 1, 1) := by decide +kernel
theorem d269_74 : decode (mC M269) 74 = .ok (.iadd, 1) := by decide +kernel
theorem d269_75 : decode (mC M269) 75 = .ok (.putfield 381, 3) := by decide +kernel
theorem d269_78 : decode (mC M269) 78 = .ok (.aload_n 0, 1) := by decide +kernel
theorem d269_79 : decode (mC M269) 79 = .ok (.getfield 381, 3) := by decide +kernel
theorem d269_82 : decode (mC M269) 82 = .ok (.iconst 1, 1) := by decide +kernel
theorem d269_83 : decode (mC M269) 83 = .ok (.isub, 1) := by decide +kernel
theorem d269_84 : decode (mC M269) 84 = .ok (.ireturn, 1) := by decide +kernel
theorem sc269_0 : ∀ q ∈ tc269_0, Snd xtb M269 q.1 q.2 := List.forall_mem_cons.mpr ⟨snd_iconst d269_0 (by decide +kernel), List.forall_mem_cons.mpr ⟨snd_istore_n d269_1 rfl, List.forall_mem_cons.mpr ⟨snd_iload_n d269_2 rfl, List.forall_mem_cons.mpr ⟨snd_aload_n d269_3 rfl, List.forall_mem_cons.mpr ⟨snd_getI (by decide) (by decide) rfl wd1391 d269_4, List.forall_mem_cons.mpr ⟨snd_cmp_ge d269_7 (by decide), List.forall_mem_cons.mpr ⟨snd_aload_n d269_10 rfl, List.forall_mem_cons.mpr ⟨snd_getR (by decide) (by decide) rfl wd1388 d269_11, List.forall_mem_cons.mpr ⟨snd_iload_n d269_14 rfl, List.forall_mem_cons.mpr ⟨snd_iald d269_15, List.forall_mem_cons.mpr ⟨snd_iload_n d269_16 rfl, List.forall_mem_cons.mpr ⟨snd_cmp_ne d269_17 (by decide), List.forall_mem_cons.mpr ⟨snd_aload_n d269_20 rfl, List.forall_mem_cons.mpr ⟨snd_getR (by decide) (by decide) rfl wd1389 d269_21, List.forall_mem_cons.mpr ⟨snd_iload_n d269_24 rfl, List.forall_mem_cons.mpr ⟨snd_iald d269_25, List.forall_mem_cons.mpr ⟨snd_iload_n d269_26 rfl, List.forall_mem_cons.mpr ⟨snd_cmp_ne d269_27 (by decide), List.forall_mem_cons.mpr ⟨snd_iload_n d269_30 rfl, List.forall_mem_cons.mpr ⟨snd_iret rfl d269_31, List.forall_mem_cons.mpr ⟨snd_iinc d269_32 (by decide +kernel), List.forall_mem_cons.mpr ⟨snd_goto d269_35 (by decide), List.forall_mem_cons.mpr ⟨snd_aload_n d269_38 rfl, List.forall_mem_cons.mpr ⟨snd_getR (by decide) (by decide) rfl wd1388 d269_39, List.forall_mem_cons.mpr ⟨snd_aload_n d269_42 rfl, List.forall_mem_cons.mpr ⟨snd_getI (by decide) (by decide) rfl wd1391 d269_43, List.forall_mem_cons.mpr ⟨snd_iload_n d269_46 rfl, List.forall_mem_cons.mpr ⟨snd_iast d269_47, List.forall_mem_cons.mpr ⟨snd_aload_n d269_48 rfl, List.forall_mem_cons.mpr ⟨snd_getR (by decide) (by decide) rfl wd1389 d269_49, fun _ h => by cases h⟩⟩⟩⟩⟩⟩⟩⟩⟩⟩⟩⟩⟩⟩⟩⟩⟩⟩⟩⟩⟩⟩⟩⟩⟩⟩⟩⟩⟩⟩
theorem sc269_1 : ∀ q ∈ tc269_1, Snd xtb M269 q.1 q.2 := List.forall_mem_cons.mpr ⟨snd_aload_n d269_52 rfl, List.forall_mem_cons.mpr ⟨snd_getI (by decide) (by decide) rfl wd1391 d269_53, List.forall_mem_cons.mpr ⟨snd_iload_n d269_56 rfl, List.forall_mem_cons.mpr ⟨snd_iast d269_57, List.forall_mem_cons.mpr ⟨snd_aload_n d269_58 rfl, List.forall_mem_cons.mpr ⟨snd_getR (by decide) (by decide) rfl wd1390 d269_59, List.forall_mem_cons.mpr ⟨snd_aload_n d269_62 rfl, List.forall_mem_cons.mpr ⟨snd_getI (by decide) (by decide) rfl wd1391 d269_63, List.forall_mem_cons.mpr ⟨snd_iconst d269_66 (by decide +kernel), List.forall_mem_cons.mpr ⟨snd_iast d269_67, List.forall_mem_cons.mpr ⟨snd_aload_n d269_68 rfl, List.forall_mem_cons.mpr ⟨snd_dup d269_69, List.forall_mem_cons.mpr ⟨snd_getI (by decide) (by decide) rfl wd1391 d269_70, List.forall_mem_cons.mpr ⟨snd_iconst d269_73 (by decide +kernel), List.forall_mem_cons.mpr ⟨snd_iadd d269_74, List.forall_mem_cons.mpr ⟨snd_putI (by decide) (by decide) rfl rfl wd1391 d269_75, List.forall_mem_cons.mpr ⟨snd_aload_n d269_78 rfl, List.forall_mem_cons.mpr ⟨snd_getI (by decide) (by decide) rfl wd1391 d269_79, List.forall_mem_cons.mpr ⟨snd_iconst d269_82 (by decide +kernel), List.forall_mem_cons.mpr ⟨snd_isub d269_83, List.forall_mem_cons.mpr ⟨snd_iret rfl d269_84, fun _ h => by cases h⟩⟩⟩⟩⟩⟩⟩⟩⟩⟩⟩⟩⟩⟩⟩⟩⟩⟩⟩⟩⟩
theorem d270_0 : decode (mC M270) 0 = .ok (.aload_n 0, 1) := by decide +kernel
theorem d270_1 : decode (mC M270) 1 = .ok (.iconst 0, 1) := by decide +kernel
theorem d270_2 : decode (mC M270) 2 = .ok (.putfield 381, 3) := by decide +kernel
theorem d270_5 : decode (mC M270) 5 = .ok (.iconst 0, 1) := by decide +kernel
theorem d270_6 : decode (mC M270) 6 = .ok (.istore_n 1, 1) := by decide +kernel
theorem d270_7 : decode (mC M270) 7 = .ok (.iload_n 1, 1) := by decide +kernel
theorem d270_8 : decode (mC M270) 8 = .ok (.aload_n 0, 1) := by decide +kernel
theorem d270_9 : decode (mC M270) 9 = .ok (.getfield 255, 3) := by decide +kernel
theorem d270_12 : decode (mC M270) 12 = .ok (.if_icmp .ge 59, 3) := by decide +kernel
theorem d270_15 : decode (mC M270) 15 = .ok (.iconst 0, 1) := by decide +kernel
theorem d270_16 : decode (mC M270) 16 = .ok (.istore_n 2, 1) := by decide +kernel
theorem d270_17 : decode (mC M270) 17 = .ok (.iload_n 2, 1) := by decide +kernel
theorem d270_18 : decode (mC M270) 18 = .ok (.aload_n 0, 1) := by decide +kernel
theorem d270_19 : decode (mC M270) 19 = .ok (.iload_n 1, 1) := by decide +kernel
theorem d270_20 : decode (mC M270) 20 = .ok (.bipush 7, 2) := by decide +kernel
theorem d270_22 : decode (mC M270) 22 = .ok (.invokevirtual 363, 3) := by decide +kernel
theorem d270_25 : decode (mC M270) 25 = .ok (.if_icmp .ge 40, 3) := by decide +kernel
theorem d270_28 : decode (mC M270) 28 = .ok (.aload_n 0, 1) := by decide +kernel
theorem d270_29 : decode (mC M270) 29 = .ok (.getfield 46, 3) := by decide +kernel
theorem d270_32 : decode (mC M270) 32 = .ok (.aload_n 0, 1) := by decide +kernel
theorem d270_33 : decode (mC M270) 33 = .ok (.aload_n 0, 1) := by decide +kernel
theorem d270_34 : decode (mC M270) 34 = .ok (.iload_n 1, 1) := by decide +kernel
theorem d270_35 : decode (mC M270) 35 = .ok (.iload_n 2, 1) := by decide +kernel
theorem d270_36 : decode (mC M270) 36 = .ok (.iconst 0, 1) := by decide +kernel
theorem d270_37 : decode (mC M270) 37 = .ok (.invokevirtual 366, 3) := by decide +kernel
theorem d270_40 : decode (mC M270) 40 = .ok (.aload_n 0, 1) := by decide +kernel
theorem d270_41 : decode (mC M270) 41 = .ok (.iload_n 1, 1) := by decide +kernel
theorem d270_42 : decode (mC M270) 42 = .ok (.iconst 3, 1) := by decide +kernel
theorem d270_43 : decode (mC M270) 43 = .ok (.invokevirtual 363, 3) := by decide +kernel
theorem d270_46 : decode (mC M270) 46 = .ok (.invokevirtual 384, 3) := by decide +kernel
theorem d270_49 : decode (mC M270) 49 = .ok (.dup2, 1) := by decide +kernel
theorem d270_50 : decode (mC M270) 50 = .ok (.iaload, 1) := by decide +kernel
theorem d270_51 : decode (mC M270) 51 = .ok (.aload_n 0, 1) := by decide +kernel
theorem d270_52 : decode (mC M270) 52 = .ok (.iload_n 1, 1) := by decide +kernel
theorem d270_53 : decode (mC M270) 53 = .ok (.iload_n 2, 1) := by decide +kernel
theorem d270_54 : decode (mC M270) 54 = .ok (.invokevirtual 372, 3) := by decide +kernel
theorem d270_57 : decode (mC M270) 57 = .ok (.iadd, 1) := by decide +kernel
theorem d270_58 : decode (mC M270) 58 = .ok (.iastore, 1) := by decide +kernel
theorem d270_59 : decode (mC M270) 59 = .ok (.iinc 2 1, 3) := by decide +kernel
theorem d270_62 : decode (mC M270) 62 = .ok (.goto (-45), 3) := by decide +kernel
theorem d270_65 : decode (mC M270) 65 = .ok (.iinc 1 1, 3) := by decide +kernel
theorem d270_68 : decode (mC M270) 68 = .ok (.goto (-61), 3) := by decide +kernel
theorem d270_71 : decode (mC M270) 71 = .ok (.return_, 1) := by decide +kernel
theorem sc270_0 : ∀ q ∈ tc270_0, Snd xtb M270 q.1 q.2 := List.forall_mem_cons.mpr ⟨snd_aload_n d270_0 rfl, List.forall_mem_cons.mpr ⟨snd_iconst d270_1 (by decide +kernel), List.forall_mem_cons.mpr ⟨snd_putI (by decide) (by decide) rfl rfl wd1391 d270_2, List.forall_mem_cons.mpr ⟨snd_iconst d270_5 (by decide +kernel), List.forall_mem_cons.mpr ⟨snd_istore_n d270_6 rfl, List.forall_mem_cons.mpr ⟨snd_iload_n d270_7 rfl, List.forall_mem_cons.mpr ⟨snd_aload_n d270_8 rfl, List.forall_mem_cons.mpr ⟨snd_getI (by decide) (by decide) rfl wd1387 d270_9, List.forall_mem_cons.mpr ⟨snd_cmp_ge d270_12 (by decide), List.forall_mem_cons.mpr ⟨snd_iconst d270_15 (by decide +kernel), List.forall_mem_cons.mpr ⟨snd_istore_n d270_16 rfl, List.forall_mem_cons.mpr ⟨snd_iload_n d270_17 rfl, List.forall_mem_cons.mpr ⟨snd_aload_n d270_18 rfl, List.forall_mem_cons.mpr ⟨snd_iload_n d270_19 rfl, List.forall_mem_cons.mpr ⟨snd_bipush d270_20 (by decide +kernel), List.forall_mem_cons.mpr ⟨snd_callV (by decide) rfl cn262 ⟨by decide +kernel, by decide +kernel⟩ cm262 (List.forall_mem_cons.mpr ⟨wd1845, cw262⟩) d270_22, List.forall_mem_cons.mpr ⟨snd_cmp_ge d270_25 (by decide), List.forall_mem_cons.mpr ⟨snd_aload_n d270_28 rfl, List.forall_mem_cons.mpr ⟨snd_getR (by decide) (by decide) rfl wd1390 d270_29, List.forall_mem_cons.mpr ⟨snd_aload_n d270_32 rfl, List.forall_mem_cons.mpr ⟨snd_aload_n d270_33 rfl, List.forall_mem_cons.mpr ⟨snd_iload_n d270_34 rfl, List.forall_mem_cons.mpr ⟨snd_iload_n d270_35 rfl, List.forall_mem_cons.mpr ⟨snd_iconst d270_36 (by decide +kernel), List.forall_mem_cons.mpr ⟨snd_callV (by decide) rfl cn263 ⟨by decide +kernel, by decide +kernel⟩ cm263 (List.forall_mem_cons.mpr ⟨wd1857, cw263⟩) d270_37, List.forall_mem_cons.mpr ⟨snd_aload_n d270_40 rfl, List.forall_mem_cons.mpr ⟨snd_iload_n d270_41 rfl, List.forall_mem_cons.mpr ⟨snd_iconst d270_42 (by decide +kernel), List.forall_mem_cons.mpr ⟨snd_callV (by decide) rfl cn262 ⟨by decide +kernel, by decide +kernel⟩ cm262 (List.forall_mem_cons.mpr ⟨wd1845, cw262⟩) d270_43, List.forall_mem_cons.mpr ⟨snd_callV (by decide) rfl cn269 ⟨by decide +kernel, by decide +kernel⟩ cm269 (List.forall_mem_cons.mpr ⟨wd1873, cw269⟩) d270_46, fun _ h => by cases h⟩⟩⟩⟩⟩⟩⟩⟩⟩⟩⟩⟩⟩⟩⟩⟩⟩⟩⟩⟩⟩⟩⟩⟩⟩⟩⟩⟩⟩⟩
theorem sc270_1 : ∀ q ∈ tc270_1, Snd xtb M270 q.1 q.2 := List.forall_mem_cons.mpr ⟨snd_dup2 d270_49, List.forall_mem_cons.mpr ⟨snd_iald d270_50, List.forall_mem_cons.mpr ⟨snd_aload_n d270_51 rfl, List.forall_mem_cons.mpr ⟨snd_iload_n d270_52 rfl, List.forall_mem_cons.mpr ⟨snd_iload_n d270_53 rfl, List.forall_mem_cons.mpr ⟨snd_callV (by decide) rfl cn265 ⟨by decide +kernel, by decide +kernel⟩ cm265 (List.forall_mem_cons.mpr ⟨wd1849, cw265⟩) d270_54, List.forall_mem_cons.mpr ⟨snd_iadd d270_57, List.forall_mem_cons.mpr ⟨snd_iast d270_58, List.forall_mem_cons.mpr ⟨snd_iinc d270_59 (by decide +kernel), List.forall_mem_cons.mpr ⟨snd_goto d270_62 (by decide), List.forall_mem_cons.mpr ⟨snd_iinc d270_65 (by decide +kernel), List.forall_mem_cons.mpr ⟨snd_goto d270_68 (by decide), List.forall_mem_cons.mpr ⟨snd_vret rfl d270_71, fun _ h => by cases h⟩⟩⟩⟩⟩⟩⟩⟩⟩⟩⟩⟩⟩
theorem d271_0 : decode (mC M271) 0 = .ok (.aload_n 0, 1) := by decide +kernel
theorem d271_1 : decode (mC M271) 1 = .ok (.iconst 0, 1) := by decide +kernel
theorem d271_2 : decode (mC M271) 2 = .ok (.putfield 64, 3) := by decide +kernel
theorem d271_5 : decode (mC M271) 5 = .ok (.aload_n 0, 1) := by decide +kernel
theorem d271_6 : decode (mC M271) 6 = .ok (.getfield 251, 3) := by decide +kernel
theorem d271_9 : decode (mC M271) 9 = .ok (.ifCond .ne 9, 3) := by decide +kernel
theorem d271_12 : decode (mC M271) 12 = .ok (.aload_n 0, 1) := by decide +kernel
theorem d271_13 : decode (mC M271) 13 = .ok (.iconst 1, 1) := by decide +kernel
theorem d271_14 : decode (mC M271) 14 = .ok (.invokevirtual 70, 3) := by decide +kernel
theorem d271_17 : decode (mC M271) 17 = .ok (.ireturn, 1) := by decide +kernel
theorem d271_18 : decode (mC M271) 18 = .ok (.aload_n 0, 1) := by decide +kernel
theorem d271_19 : decode (mC M271) 19 = .ok (.invokevirtual 387, 3) := by decide +kernel
theorem d271_22 : decode (mC M271) 22 = .ok (.aload_n 0, 1) := by decide +kernel
theorem d271_23 : decode (mC M271) 23 = .ok (.aload_n 0, 1) := by decide +kernel
theorem d271_24 : decode (mC M271) 24 = .ok (.getfield 381, 3) := by decide +kernel
theorem d271_27 : decode (mC M271) 27 = .ok (.invokevirtual 264, 3) := by decide +kernel
theorem d271_30 : decode (mC M271) 30 = .ok (.ireturn, 1) := by decide +kernel
theorem sc271_0 : ∀ q ∈ tc271_0, Snd xtb M271 q.1 q.2 := List.forall_mem_cons.mpr ⟨snd_aload_n d271_0 rfl, List.forall_mem_cons.mpr ⟨snd_iconst d271_1 (by decide +kernel), List.forall_mem_cons.mpr ⟨snd_putI (by decide) (by decide) rfl rfl wd1367 d271_2, List.forall_mem_cons.mpr ⟨snd_aload_n d271_5 rfl, List.forall_mem_cons.mpr ⟨snd_getI (by decide) (by decide) rfl wd1374 d271_6, List.forall_mem_cons.mpr ⟨snd_if_ne d271_9 (by decide), List.forall_mem_cons.mpr ⟨snd_aload_n d271_12 rfl, List.forall_mem_cons.mpr ⟨snd_iconst d271_13 (by decide +kernel), List.forall_mem_cons.mpr ⟨snd_callV (by decide) rfl cn172 ⟨by decide +kernel, by decide +kernel⟩ cm172 (List.forall_mem_cons.mpr ⟨wd1476, cw172⟩) d271_14, List.forall_mem_cons.mpr ⟨snd_iret rfl d271_17, List.forall_mem_cons.mpr ⟨snd_aload_n d271_18 rfl, List.forall_mem_cons.mpr ⟨snd_callV (by decide) rfl cn270 ⟨by decide +kernel, by decide +kernel⟩ cm270 (List.forall_mem_cons.mpr ⟨wd1869, cw270⟩) d271_19, List.forall_mem_cons.mpr ⟨snd_aload_n d271_22 rfl, List.forall_mem_cons.mpr ⟨snd_aload_n d271_23 rfl, List.forall_mem_cons.mpr ⟨snd_getI (by decide) (by decide) rfl wd1391 d271_24, List.forall_mem_cons.mpr ⟨snd_callV (by decide) rfl cn174 ⟨by decide +kernel, by decide +kernel⟩ cm174 (List.forall_mem_cons.mpr ⟨wd1622, cw174⟩) d271_27, List.forall_mem_cons.mpr ⟨snd_iret rfl d271_30, fun _ h => by cases h⟩⟩⟩⟩⟩⟩⟩⟩⟩⟩⟩⟩⟩⟩⟩⟩⟩
theorem d272_0 : decode (mC M272) 0 = .ok (.aload_n 0, 1) := by decide +kernel
theorem d272_1 : decode (mC M272) 1 = .ok (.iconst 0, 1) := by decide +kernel
theorem d272_2 : decode (mC M272) 2 = .ok (.putfield 64, 3) := by decide +kernel
theorem d272_5 : decode (mC M272) 5 = .ok (.aload_n 0, 1) := by decide +kernel
theorem d272_6 : decode (mC M272) 6 = .ok (.getfield 251, 3) := by decide +kernel
theorem d272_9 : decode (mC M272) 9 = .ok (.ifCond .eq 12, 3) := by decide +kernel
theorem d272_12 : decode (mC M272) 12 = .ok (.iload_n 2, 1) := by decide +kernel
theorem d272_13 : decode (mC M272) 13 = .ok (.iconst 0, 1) := by decide +kernel
theorem d272_14 : decode (mC M272) 14 = .ok (.iconst 2, 1) := by decide +kernel
theorem d272_15 : decode (mC M272) 15 = .ok (.invokestatic 95, 3) := by decide +kernel
theorem d272_18 : decode (mC M272) 18 = .ok (.ifCond .ne 9, 3) := by decide +kernel
theorem d272_21 : decode (mC M272) 21 = .ok (.aload_n 0, 1) := by decide +kernel
theorem d272_22 : decode (mC M272) 22 = .ok (.iconst 1, 1) := by decide +kernel
theorem d272_23 : decode (mC M272) 23 = .ok (.invokevirtual 70, 3) := by decide +kernel
theorem d272_26 : decode (mC M272) 26 = .ok (.ireturn, 1) := by decide +kernel
theorem d272_27 : decode (mC M272) 27 = .ok (.aload_n 0, 1) := by decide +kernel
theorem d272_28 : decode (mC M272) 28 = .ok (.invokevirtual 387, 3) := by decide +kernel
theorem d272_31 : decode (mC M272) 31 = .ok (.iload_n 1, 1) := by decide +kernel
theorem d272_32 : decode (mC M272) 32 = .ok (.iconst 0, 1) := by decide +kernel
theorem d272_33 : decode (mC M272) 33 = .ok (.aload_n 0, 1) := by decide +kernel
theorem d272_34 : decode (mC M272) 34 = .ok (.getfield 381, 3) := by decide +kernel
theorem d272_37 : decode (mC M272) 37 = .ok (.iconst 1, 1) := by decide +kernel
theorem d272_38 : decode (mC M272) 38 = .ok (.isub, 1) := by decide +kernel
theorem d272_39 : decode (mC M272) 39 = .ok (.invokestatic 95, 3) := by decide +kernel
theorem d272_42 : decode (mC M272) 42 = .ok (.ifCond .ne 9, 3) := by decide +kernel
theorem d272_45 : decode (mC M272) 45 = .ok (.aload_n 0, 1) := by decide +kernel
theorem d272_46 : decode (mC M272) 46 = .ok (.iconst 1, 1) := by decide +kernel
theorem d272_47 : decode (mC M272) 47 = .ok (.invokevirtual 70, 3) := by decide +kernel
theorem d272_50 : decode (mC M272) 50 = .ok (.ireturn, 1) := by decide +kernel
theorem d272_51 : decode (mC M272) 51 = .ok (.aload_n 0, 1) := by decide +kernel
theorem d272_52 : decode (mC M272) 52 = .ok (.iload_n 2, 1) := by decide +kernel
theorem d272_53 : decode (mC M272) 53 = .ok (.ifCond .ne 12, 3) := by decide +kernel
theorem d272_56 : decode (mC M272) 56 = .ok (.aload_n 0, 1) := by decide +kernel
theorem d272_57 : decode (mC M272) 57 = .ok (.getfield 40, 3) := by decide +kernel
theorem d272_60 : decode (mC M272) 60 = .ok (.iload_n 1, 1) := by decide +kernel
theorem d272_61 : decode (mC M272) 61 = .ok (.iaload, 1) := by decide +kernel
theorem d272_62 : decode (mC M272) 62 = .ok (.goto 23, 3) := by decide +kernel
theorem d272_65 : decode (mC M272) 65 = .ok (.iload_n 2, 1) := by decide +kernel
theorem d272_66 : decode (mC M272) 66 = .ok (.iconst 1, 1) := by decide +kernel
theorem d272_67 : decode (mC M272) 67 = .ok (.if_icmp .ne 12, 3) := by decide +kernel
theorem d272_70 : decode (mC M272) 70 = .ok (.aload_n 0, 1) := by decide +kernel
theorem d272_71 : decode (mC M272) 71 = .ok (.getfield 43, 3) := by decide +kernel
theorem d272_74 : decode (mC M272) 74 = .ok (.iload_n 1, 1) := by decide +kernel
theorem d272_75 : decode (mC M272) 75 = .ok (.iaload, 1) := by decide +kernel
theorem d272_76 : decode (mC M272) 76 = .ok (.goto 9, 3) := by decide +kernel
theorem d272_79 : decode (mC M272) 79 = .ok (.aload_n 0, 1) := by decide +kernel
theorem d272_80 : decode (mC M272) 80 = .ok (.getfield 46, 3) := by decide +kernel
theorem d272_83 : decode (mC M272) 83 = .ok (.iload_n 1, 1) := by decide +kernel
theorem d272_84 : decode (mC M272) 84 = .ok (.iaload, 1) := by decide +kernel
theorem d272_85 : decode (mC M272) 85 = .ok (.invokevirtual 264, 3) := by decide +kernel
theorem d272_88 : decode (mC M272) 88 = .ok (.ireturn, 1) := by decide +kernel
theorem sc272_0 : ∀ q ∈ tc272_0, Snd xtb M272 q.1 q.2 := List.forall_mem_cons.mpr ⟨snd_aload_n d272_0 rfl, List.forall_mem_cons.mpr ⟨snd_iconst d272_1 (by decide +kernel), List.forall_mem_cons.mpr ⟨snd_putI (by decide) (by decide) rfl rfl wd1367 d272_2, List.forall_mem_cons.mpr ⟨snd_aload_n d272_5 rfl, List.forall_mem_cons.mpr ⟨snd_getI (by decide) (by decide) rfl wd1374 d272_6, List.forall_mem_cons.mpr ⟨snd_if_eq d272_9 (by decide), List.forall_mem_cons.mpr ⟨snd_iload_n d272_12 rfl, List.forall_mem_cons.mpr ⟨snd_iconst d272_13 (by decide +kernel), List.forall_mem_cons.mpr ⟨snd_iconst d272_14 (by decide +kernel), List.forall_mem_cons.mpr ⟨snd_callS cn175 ⟨by decide +kernel, by decide +kernel⟩ cm175 (List.forall_mem_cons.mpr ⟨wd1492, cw175⟩) d272_15, List.forall_mem_cons.mpr ⟨snd_if_ne d272_18 (by decide), List.forall_mem_cons.mpr ⟨snd_aload_n d272_21 rfl, List.forall_mem_cons.mpr ⟨snd_iconst d272_22 (by decide +kernel), List.forall_mem_cons.mpr ⟨snd_callV (by decide) rfl cn172 ⟨by decide +kernel, by decide +kernel⟩ cm172 (List.forall_mem_cons.mpr ⟨wd1476, cw172⟩) d272_23, List.forall_mem_cons.mpr ⟨snd_iret rfl d272_26, List.forall_mem_cons.mpr ⟨snd_aload_n d272_27 rfl, List.forall_mem_cons.mpr ⟨snd_callV (by decide) rfl cn270 ⟨by decide +kernel, by decide +kernel⟩ cm270 (List.forall_mem_cons.mpr ⟨wd1869, cw270⟩) d272_28, List.forall_mem_cons.mpr ⟨snd_iload_n d272_31 rfl, List.forall_mem_cons.mpr ⟨snd_iconst d272_32 (by decide +kernel), List.forall_mem_cons.mpr ⟨snd_aload_n d272_33 rfl, List.forall_mem_cons.mpr ⟨snd_getI (by decide) (by decide) rfl wd1391 d272_34, List.forall_mem_cons.mpr ⟨snd_iconst d272_37 (by decide +kernel), List.forall_mem_cons.mpr ⟨snd_isub d272_38, List.forall_mem_cons.mpr ⟨snd_callS cn175 ⟨by decide +kernel, by decide +kernel⟩ cm175 (List.forall_mem_cons.mpr ⟨wd1492, cw175⟩) d272_39, List.forall_mem_cons.mpr ⟨snd_if_ne d272_42 (by decide), List.forall_mem_cons.mpr ⟨snd_aload_n d272_45 rfl, List.forall_mem_cons.mpr ⟨snd_iconst d272_46 (by decide +kernel), List.forall_mem_cons.mpr ⟨snd_callV (by decide) rfl cn172 ⟨by decide +kernel, by decide +kernel⟩ cm172 (List.forall_mem_cons.mpr ⟨wd1476, cw172⟩) d272_47, List.forall_mem_cons.mpr ⟨snd_iret rfl d272_50, List.forall_mem_cons.mpr ⟨snd_aload_n d272_51 rfl, fun _ h => by cases h⟩⟩⟩⟩⟩⟩⟩⟩⟩⟩⟩⟩⟩⟩⟩⟩⟩⟩⟩⟩⟩⟩⟩⟩⟩⟩⟩⟩⟩⟩
theorem sc272_1 : ∀ q ∈ tc272_1, Snd xtb M272 q.1 q.2 := List.forall_mem_cons.mpr ⟨snd_iload_n d272_52 rfl, List.forall_mem_cons.mpr ⟨snd_if_ne d272_53 (by decide), List.forall_mem_cons.mpr ⟨snd_aload_n d272_56 rfl, List.forall_mem_cons.mpr ⟨snd_getR (by decide) (by decide) rfl wd1388 d272_57, List.forall_mem_cons.mpr ⟨snd_iload_n d272_60 rfl, List.forall_mem_cons.mpr ⟨snd_iald d272_61, List.forall_mem_cons.mpr ⟨snd_goto d272_62 (by decide), List.forall_mem_cons.mpr ⟨snd_iload_n d272_65 rfl, List.forall_mem_cons.mpr ⟨snd_iconst d272_66 (by decide +kernel), List.forall_mem_cons.mpr ⟨snd_cmp_ne d272_67 (by decide), List.forall_mem_cons.mpr ⟨snd_aload_n d272_70 rfl, List.forall_mem_cons.mpr ⟨snd_getR (by decide) (by decide) rfl wd1389 d272_71, List.forall_mem_cons.mpr ⟨snd_iload_n d272_74 rfl, List.forall_mem_cons.mpr ⟨snd_iald d272_75, List.forall_mem_cons.mpr ⟨snd_goto d272_76 (by decide), List.forall_mem_cons.mpr ⟨snd_aload_n d272_79 rfl, List.forall_mem_cons.mpr ⟨snd_getR (by decide) (by decide) rfl wd1390 d272_80, List.forall_mem_cons.mpr ⟨snd_iload_n d272_83 rfl, List.forall_mem_cons.mpr ⟨snd_iald d272_84, List.forall_mem_cons.mpr ⟨snd_callV (by decide) rfl cn174 ⟨by decide +kernel, by decide +kernel⟩ cm174 (List.forall_mem_cons.mpr ⟨wd1622, cw174⟩) d272_85, List.forall_mem_cons.mpr ⟨snd_iret rfl d272_88, fun _ h => by cases h⟩⟩⟩⟩⟩⟩⟩⟩⟩⟩⟩⟩⟩⟩⟩⟩⟩⟩⟩⟩⟩
theorem d273_0 : decode (mC M273) 0 = .ok (.aload_n 0, 1) := by decide +kernel
theorem d273_1 : decode (mC M273) 1 = .ok (.iconst 0, 1) := by decide +kernel
theorem d273_2 : decode (mC M273) 2 = .ok (.putfield 64, 3) := by decide +kernel
theorem d273_5 : decode (mC M273) 5 = .ok (.aload_n 0, 1) := by decide +kernel
theorem d273_6 : decode (mC M273) 6 = .ok (.getfield 251, 3) := by decide +kernel
theorem d273_9 : decode (mC M273) 9 = .ok (.ifCond .eq 29, 3) := by decide +kernel
theorem d273_12 : decode (mC M273) 12 = .ok (.iload_n 1, 1) := by decide +kernel
theorem d273_13 : decode (mC M273) 13 = .ok (.iconst (-1), 1) := by decide +kernel
theorem d273_14 : decode (mC M273) 14 = .ok (.if_icmp .eq 11, 3) := by decide +kernel
theorem d273_17 : decode (mC M273) 17 = .ok (.aload_n 0, 1) := by decide +kernel
theorem d273_18 : decode (mC M273) 18 = .ok (.iload_n 1, 1) := by decide +kernel
theorem d273_19 : decode (mC M273) 19 = .ok (.invokevirtual 271, 3) := by decide +kernel
theorem d273_22 : decode (mC M273) 22 = .ok (.ifCond .eq 16, 3) := by decide +kernel
theorem d273_25 : decode (mC M273) 25 = .ok (.iload_n 2, 1) := by decide +kernel
theorem d273_26 : decode (mC M273) 26 = .ok (.iconst (-1), 1) := by decide +kernel
theorem d273_27 : decode (mC M273) 27 = .ok (.if_icmp .eq 17, 3) := by decide +kernel
theorem d273_30 : decode (mC M273) 30 = .ok (.aload_n 0, 1) := by decide +kernel
theorem d273_31 : decode (mC M273) 31 = .ok (.iload_n 2, 1) := by decide +kernel
theorem d273_32 : decode (mC M273) 32 = .ok (.invokevirtual 267, 3) := by decide +kernel
theorem d273_35 : decode (mC M273) 35 = .ok (.ifCond .ne 9, 3) := by decide +kernel
theorem d273_38 : decode (mC M273) 38 = .ok (.aload_n 0, 1) := by decide +kernel
theorem d273_39 : decode (mC M273) 39 = .ok (.iconst 1, 1) := by decide +kernel
theorem d273_40 : decode (mC M273) 40 = .ok (.invokevirtual 70, 3) := by decide +kernel
theorem d273_43 : decode (mC M273) 43 = .ok (.ireturn, 1) := by decide +kernel
theorem d273_44 : decode (mC M273) 44 = .ok (.aload_n 0, 1) := by decide +kernel
theorem d273_45 : decode (mC M273) 45 = .ok (.invokevirtual 387, 3) := by decide +kernel
theorem d273_48 : decode (mC M273) 48 = .ok (.iconst 0, 1) := by decide +kernel
theorem d273_49 : decode (mC M273) 49 = .ok (.istore_n 3, 1) := by decide +kernel
theorem d273_50 : decode (mC M273) 50 = .ok (.iconst 0, 1) := by decide +kernel
theorem d273_51 : decode (mC M273) 51 = .ok (.istore 4, 2) := by decide +kernel
theorem d273_53 : decode (mC M273) 53 = .ok (.iload 4, 2) := by decide +kernel
theorem d273_55 : decode (mC M273) 55 = .ok (.aload_n 0, 1) := by decide +kernel
theorem d273_56 : decode (mC M273) 56 = .ok (.getfield 381, 3) := by decide +kernel
theorem d273_59 : decode (mC M273) 59 = .ok (.if_icmp .ge 55, 3) := by decide +kernel
theorem d273_62 : decode (mC M273) 62 = .ok (.iload_n 3, 1) := by decide +kernel
theorem d273_63 : decode (mC M273) 63 = .ok (.iload_n 1, 1) := by decide +kernel
theorem d273_64 : decode (mC M273) 64 = .ok (.iconst (-1), 1) := by decide +kernel
theorem d273_65 : decode (mC M273) 65 = .ok (.if_icmp .eq 14, 3) := by decide +kernel
theorem d273_68 : decode (mC M273) 68 = .ok (.aload_n 0, 1) := by decide +kernel
theorem d273_69 : decode (mC M273) 69 = .ok (.getfield 40, 3) := by decide +kernel
theorem d273_72 : decode (mC M273) 72 = .ok (.iload 4, 2) := by decide +kernel
theorem d273_74 : decode (mC M273) 74 = .ok (.iaload, 1) := by decide +kernel
theorem d273_75 : decode (mC M273) 75 = .ok (.iload_n 1, 1) := by decide +kernel
theorem d273_76 : decode (mC M273) 76 = .ok (.if_icmp .ne 29, 3) := by decide +kernel
theorem d273_79 : decode (mC M273) 79 = .ok (.iload_n 2, 1) := by decide +kernel
theorem d273_80 : decode (mC M273) 80 = .ok (.iconst (-1), 1) := by decide +kernel
theorem d273_81 : decode (mC M273) 81 = .ok (.if_icmp .eq 14, 3) := by decide +kernel
theorem d273_84 : decode (mC M273) 84 = .ok (.aload_n 0, 1) := by decide +kernel
theorem d273_85 : decode (mC M273) 85 = .ok (.getfield 43, 3) := by decide +kernel
theorem d273_88 : decode (mC M273) 88 = .ok (.iload 4, 2) := by decide +kernel
theorem d273_90 : decode (mC M273) 90 = .ok (.iaload, 1) := by decide +kernel
theorem d273_91 : decode (mC M273) 91 = .ok (.iload_n 2, 1) := by decide +kernel
theorem d273_92 : decode (mC M273) 92 = .ok (.if_icmp .ne 13, 3) := by decide +kernel
theorem d273_95 : decode (mC M273) 95 = .ok (.aload_n 0, 1) := by decide +kernel
theorem d273_96 : decode (mC M273) 96 = .ok (.getfield 46, 3) := by decide +kernel
theorem d273_99 : decode (mC M273) 99 = .ok (.iload 4, 2) := by decide +kernel
theorem d273_101 : decode (mC M273) 101 = .ok (.iaload, 1) := by decide +kernel
theorem d273_102 : decode (mC M273) 102 = .ok (.goto 4, 3) := by decide +kernel
theorem d273_105 : decode (mC M273) 105 = .ok (.iconst 0, 1) := by decide +kernel
theorem d273_106 : decode (mC M273) 106 = .ok (.iadd, 1) := by decide +kernel
theorem d273_107 : decode (mC M273) 107 = .ok (.istore_n 3, 1) := by decide +kernel
theorem d273_108 : decode (mC M273) 108 = .ok (.iinc 4 1, 3) := by decide +kernel
theorem d273_111 : decode (mC M273) 111 = .ok (.goto (-58), 3) := by decide +kernel
theorem d273_114 : decode (mC M273) 114 = .ok (.aload_n 0, 1) := by decide +kernel
theorem d273_115 : decode (mC M273) 115 = .ok (.iload_n 3, 1) := by decide +kernel
theorem d273_116 : decode (mC M273) 116 = .ok (.invokevirtual 264, 3) := by decide +kernel
theorem d273_119 : decode (mC M273) 119 = .ok (.ireturn, 1) := by decide +kernel
theorem sc273_0 : ∀ q ∈ tc273_0, Snd xtb M273 q.1 q.2 := List.forall_mem_cons.mpr ⟨snd_aload_n d273_0 rfl, List.forall_mem_cons.mpr ⟨snd_iconst d273_1 (by decide +kernel), List.forall_mem_cons.mpr ⟨snd_putI (by decide) (by decide) rfl rfl wd1367 d273_2, List.forall_mem_cons.mpr ⟨snd_aload_n d273_5 rfl, List.forall_mem_cons.mpr ⟨snd_getI (by decide) (by decide) rfl wd1374 d273_6, List.forall_mem_cons.mpr ⟨snd_if_eq d273_9 (by decide), List.forall_mem_cons.mpr ⟨snd_iload_n d273_12 rfl, List.forall_mem_cons.mpr ⟨snd_iconst d273_13 (by decide +kernel), List.forall_mem_cons.mpr ⟨snd_cmp_eq d273_14 (by decide), List.forall_mem_cons.mpr ⟨snd_aload_n d273_17 rfl, List.forall_mem_cons.mpr ⟨snd_iload_n d273_18 rfl, List.forall_mem_cons.mpr ⟨snd_callV (by decide) rfl cn214 ⟨by decide +kernel, by decide +kernel⟩ cm214 (List.forall_mem_cons.mpr ⟨wd1650, cw214⟩) d273_19, List.forall_mem_cons.mpr ⟨snd_if_eq d273_22 (by decide), List.forall_mem_cons.mpr ⟨snd_iload_n d273_25 rfl, List.forall_mem_cons.mpr ⟨snd_iconst d273_26 (by decide +kernel), List.forall_mem_cons.mpr ⟨snd_cmp_eq d273_27 (by decide), List.forall_mem_cons.mpr ⟨snd_aload_n d273_30 rfl, List.forall_mem_cons.mpr ⟨snd_iload_n d273_31 rfl, List.forall_mem_cons.mpr ⟨snd_callV (by decide) rfl cn213 ⟨by decide +kernel, by decide +kernel⟩ cm213 (List.forall_mem_cons.mpr ⟨wd1642, cw213⟩) d273_32, List.forall_mem_cons.mpr ⟨snd_if_ne d273_35 (by decide), List.forall_mem_cons.mpr ⟨snd_aload_n d273_38 rfl, List.forall_mem_cons.mpr ⟨snd_iconst d273_39 (by decide +kernel), List.forall_mem_cons.mpr ⟨snd_callV (by decide) rfl cn172 ⟨by decide +kernel, by decide +kernel⟩ cm172 (List.forall_mem_cons.mpr ⟨wd1476, cw172⟩) d273_40, List.forall_mem_cons.mpr ⟨snd_iret rfl d273_43, List.forall_mem_cons.mpr ⟨snd_aload_n d273_44 rfl, List.forall_mem_cons.mpr ⟨snd_callV (by decide) rfl cn270 ⟨by decide +kernel, by decide +kernel⟩ cm270 (List.forall_mem_cons.mpr ⟨wd1869, cw270⟩) d273_45, List.forall_mem_cons.mpr ⟨snd_iconst d273_48 (by decide +kernel), List.forall_mem_cons.mpr ⟨snd_istore_n d273_49 rfl, List.forall_mem_cons.mpr ⟨snd_iconst d273_50 (by decide +kernel), List.forall_mem_cons.mpr ⟨snd_istore d273_51, fun _ h => by cases h⟩⟩⟩⟩⟩⟩⟩⟩⟩⟩⟩⟩⟩⟩⟩⟩⟩⟩⟩⟩⟩⟩⟩⟩⟩⟩⟩⟩⟩⟩
theorem sc273_1 : ∀ q ∈ tc273_1, Snd xtb M273 q.1 q.2 := List.forall_mem_cons.mpr ⟨snd_iload d273_53, List.forall_mem_cons.mpr ⟨snd_aload_n d273_55 rfl, List.forall_mem_cons.mpr ⟨snd_getI (by decide) (by decide) rfl wd1391 d273_56, List.forall_mem_cons.mpr ⟨snd_cmp_ge d273_59 (by decide), List.forall_mem_cons.mpr ⟨snd_iload_n d273_62 rfl, List.forall_mem_cons.mpr ⟨snd_iload_n d273_63 rfl, List.forall_mem_cons.mpr ⟨snd_iconst d273_64 (by decide +kernel), List.forall_mem_cons.mpr ⟨snd_cmp_eq d273_65 (by decide), List.forall_mem_cons.mpr ⟨snd_aload_n d273_68 rfl, List.forall_mem_cons.mpr ⟨snd_getR (by decide) (by decide) rfl wd1388 d273_69, List.forall_mem_cons.mpr ⟨snd_iload d273_72, List.forall_mem_cons.mpr ⟨snd_iald d273_74, List.forall_mem_cons.mpr ⟨snd_iload_n d273_75 rfl, List.forall_mem_cons.mpr ⟨snd_cmp_ne d273_76 (by decide), List.forall_mem_cons.mpr ⟨snd_iload_n d273_79 rfl, List.forall_mem_cons.mpr ⟨snd_iconst d273_80 (by decide +kernel), List.forall_mem_cons.mpr ⟨snd_cmp_eq d273_81 (by decide), List.forall_mem_cons.mpr ⟨snd_aload_n d273_84 rfl, List.forall_mem_cons.mpr ⟨snd_getR (by decide) (by decide) rfl wd1389 d273_85, List.forall_mem_cons.mpr ⟨snd_iload d273_88, List.forall_mem_cons.mpr ⟨snd_iald d273_90, List.forall_mem_cons.mpr ⟨snd_iload_n d273_91 rfl, List.forall_mem_cons.mpr ⟨snd_cmp_ne d273_92 (by decide), List.forall_mem_cons.mpr ⟨snd_aload_n d273_95 rfl, List.forall_mem_cons.mpr ⟨snd_getR (by decide) (by decide) rfl wd1390 d273_96, List.forall_mem_cons.mpr ⟨snd_iload d273_99, List.forall_mem_cons.mpr ⟨snd_iald d273_101, List.forall_mem_cons.mpr ⟨snd_goto d273_102 (by decide), List.forall_mem_cons.mpr ⟨snd_iconst d273_105 (by decide +kernel), List.forall_mem_cons.mpr ⟨snd_iadd d273_106, fun _ h => by cases h⟩⟩⟩⟩⟩⟩⟩⟩⟩⟩⟩⟩⟩⟩⟩⟩⟩⟩⟩⟩⟩⟩⟩⟩⟩⟩⟩⟩⟩⟩
theorem sc273_2 : ∀ q ∈ tc273_2, Snd xtb M273 q.1 q.2 := List.forall_mem_cons.mpr ⟨snd_istore_n d273_107 rfl, List.forall_mem_cons.mpr ⟨snd_iinc d273_108 (by decide +kernel), List.forall_mem_cons.mpr ⟨snd_goto d273_111 (by decide), List.forall_mem_cons.mpr ⟨snd_aload_n d273_114 rfl, List.forall_mem_cons.mpr ⟨snd_iload_n d273_115 rfl, List.forall_mem_cons.mpr ⟨snd_callV (by decide) rfl cn174 ⟨by decide +kernel, by decide +kernel⟩ cm174 (List.forall_mem_cons.mpr ⟨wd1622, cw174⟩) d273_116, List.forall_mem_cons.mpr ⟨snd_iret rfl d273_119, fun _ h => by cases h⟩⟩⟩⟩⟩⟩⟩
theorem d274_0 : decode (mC M274) 0 = .ok (.aload_n 0, 1) := by decide +kernel
theorem d274_1 : decode (mC M274) 1 = .ok (.getfield 261, 3) := by decide +kernel
theorem d274_4 : decode (mC M274) 4 = .ok (.ifCond .ne 7, 3) := by decide +kernel
theorem d274_7 : decode (mC M274) 7 = .ok (.iconst (-1), 1) := by decide +kernel
theorem d274_8 : decode (mC M274) 8 = .ok (.goto 14, 3) := by decide +kernel
theorem d274_11 : decode (mC M274) 11 = .ok (.aload_n 0, 1) := by decide +kernel
theorem d274_12 : decode (mC M274) 12 = .ok (.getfield 49, 3) := by decide +kernel
theorem d274_15 : decode (mC M274) 15 = .ok (.aload_n 0, 1) := by decide +kernel
theorem d274_16 : decode (mC M274) 16 = .ok (.getfield 261, 3) := by decide +kernel
theorem d274_19 : decode (mC M274) 19 = .ok (.iconst 1, 1) := by decide +kernel
theorem d274_20 : decode (mC M274) 20 = .ok (.isub, 1) := by decide +kernel
theorem d274_21 : decode (mC M274) 21 = .ok (.iaload, 1) := by decide +kernel
theorem d274_22 : decode (mC M274) 22 = .ok (.ireturn, 1) := by decide +kernel
theorem sc274_0 : ∀ q ∈ tc274_0, Snd xtb M274 q.1 q.2 := List.forall_mem_cons.mpr ⟨snd_aload_n d274_0 rfl, List.forall_mem_cons.mpr ⟨snd_getI (by decide) (by decide) rfl wd1394 d274_1, List.forall_mem_cons.mpr ⟨snd_if_ne d274_4 (by decide), List.forall_mem_cons.mpr ⟨snd_iconst d274_7 (by decide +kernel), List.forall_mem_cons.mpr ⟨snd_goto d274_8 (by decide), List.forall_mem_cons.mpr ⟨snd_aload_n d274_11 rfl, List.forall_mem_cons.mpr ⟨snd_getR (by decide) (by decide) rfl wd1392 d274_12, List.forall_mem_cons.mpr ⟨snd_aload_n d274_15 rfl, List.forall_mem_cons.mpr ⟨snd_getI (by decide) (by decide) rfl wd1394 d274_16, List.forall_mem_cons.mpr ⟨snd_iconst d274_19 (by decide +kernel), List.forall_mem_cons.mpr ⟨snd_isub d274_20, List.forall_mem_cons.mpr ⟨snd_iald d274_21, List.forall_mem_cons.mpr ⟨snd_iret rfl d274_22, fun _ h => by cases h⟩⟩⟩⟩⟩⟩⟩⟩⟩⟩⟩⟩⟩
theorem d275_0 : decode (mC M275) 0 = .ok (.iconst 0, 1) := by decide +kernel
theorem d275_1 : decode (mC M275) 1 = .ok (.istore_n 3, 1) := by decide +kernel
theorem d275_2 : decode (mC M275) 2 = .ok (.iconst 0, 1) := by decide +kernel
theorem d275_3 : decode (mC M275) 3 = .ok (.istore 4, 2) := by decide +kernel
theorem d275_5 : decode (mC M275) 5 = .ok (.iload 4, 2) := by decide +kernel
theorem d275_7 : decode (mC M275) 7 = .ok (.aload_n 0, 1) := by decide +kernel
theorem d275_8 : decode (mC M275) 8 = .ok (.iload_n 1, 1) := by decide +kernel
theorem d275_9 : decode (mC M275) 9 = .ok (.bipush 7, 2) := by decide +kernel
theorem d275_11 : decode (mC M275) 11 = .ok (.invokevirtual 363, 3) := by decide +kernel
theorem d275_14 : decode (mC M275) 14 = .ok (.if_icmp .ge 35, 3) := by decide +kernel
theorem d275_17 : decode (mC M275) 17 = .ok (.iload_n 3, 1) := by decide +kernel
theorem d275_18 : decode (mC M275) 18 = .ok (.aload_n 0, 1) := by decide +kernel
theorem d275_19 : decode (mC M275) 19 = .ok (.iload_n 1, 1) := by decide +kernel
theorem d275_20 : decode (mC M275) 20 = .ok (.iload 4, 2) := by decide +kernel
theorem d275_22 : decode (mC M275) 22 = .ok (.iconst 0, 1) := by decide +kernel
theorem d275_23 : decode (mC M275) 23 = .ok (.invokevirtual 366, 3) := by decide +kernel
theorem d275_26 : decode (mC M275) 26 = .ok (.iload_n 2, 1) := by decide +kernel
theorem d275_27 : decode (mC M275) 27 = .ok (.if_icmp .ne 13, 3) := by decide +kernel
theorem d275_30 : decode (mC M275) 30 = .ok (.aload_n 0, 1) := by decide +kernel
theorem d275_31 : decode (mC M275) 31 = .ok (.iload_n 1, 1) := by decide +kernel
theorem d275_32 : decode (mC M275) 32 = .ok (.iload 4, 2) := by decide +kernel
theorem d275_34 : decode (mC M275) 34 = .ok (.invokevirtual 372, 3) := by decide +kernel
theorem d275_37 : decode (mC M275) 37 = .ok (.goto 4, 3) := by decide +kernel
theorem d275_40 : decode (mC M275) 40 = .ok (.iconst 0, 1) := by decide +kernel
theorem d275_41 : decode (mC M275) 41 = .ok (.iadd, 1) := by decide +kernel
theorem d275_42 : decode (mC M275) 42 = .ok (.istore_n 3, 1) := by decide +kernel
theorem d275_43 : decode (mC M275) 43 = .ok (.iinc 4 1, 3) := by decide +kernel
theorem d275_46 : decode (mC M275) 46 = .ok (.goto (-41), 3) := by decide +kernel
theorem d275_49 : decode (mC M275) 49 = .ok (.iload_n 3, 1) := by decide +kernel
theorem d275_50 : decode (mC M275) 50 = .ok (.ireturn, 1) := by decide +kernel
theorem sc275_0 : ∀ q ∈ tc275_0, Snd xtb M275 q.1 q.2 := List.forall_mem_cons.mpr ⟨snd_iconst d275_0 (by decide +kernel), List.forall_mem_cons.mpr ⟨snd_istore_n d275_1 rfl, List.forall_mem_cons.mpr ⟨snd_iconst d275_2 (by decide +kernel), List.forall_mem_cons.mpr ⟨snd_istore d275_3, List.forall_mem_cons.mpr ⟨snd_iload d275_5, List.forall_mem_cons.mpr ⟨snd_aload_n d275_7 rfl, List.forall_mem_cons.mpr ⟨snd_iload_n d275_8 rfl, List.forall_mem_cons.mpr ⟨snd_bipush d275_9 (by decide +kernel), List.forall_mem_cons.mpr ⟨snd_callV (by decide) rfl cn262 ⟨by decide +kernel, by decide +kernel⟩ cm262 (List.forall_mem_cons.mpr ⟨wd1845, cw262⟩) d275_11, List.forall_mem_cons.mpr ⟨snd_cmp_ge d275_14 (by decide), List.forall_mem_cons.mpr ⟨snd_iload_n d275_17 rfl, List.forall_mem_cons.mpr ⟨snd_aload_n d275_18 rfl, List.forall_mem_cons.mpr ⟨snd_iload_n d275_19 rfl, List.forall_mem_cons.mpr ⟨snd_iload d275_20, List.forall_mem_cons.mpr ⟨snd_iconst d275_22 (by decide +kernel), List.forall_mem_cons.mpr ⟨snd_callV (by decide) rfl cn263 ⟨by decide +kernel, by decide +kernel⟩ cm263 (List.forall_mem_cons.mpr ⟨wd1857, cw263⟩) d275_23, List.forall_mem_cons.mpr ⟨snd_iload_n d275_26 rfl, List.forall_mem_cons.mpr ⟨snd_cmp_ne d275_27 (by decide), List.forall_mem_cons.mpr ⟨snd_aload_n d275_30 rfl, List.forall_mem_cons.mpr ⟨snd_iload_n d275_31 rfl, List.forall_mem_cons.mpr ⟨snd_iload d275_32, List.forall_mem_cons.mpr ⟨snd_callV (by decide) rfl cn265 ⟨by decide +kernel, by decide +kernel⟩ cm265 (List.forall_mem_cons.mpr ⟨wd1849, cw265⟩) d275_34, List.forall_mem_cons.mpr ⟨snd_goto d275_37 (by decide), List.forall_mem_cons.mpr ⟨snd_iconst d275_40 (by decide +kernel), List.forall_mem_cons.mpr ⟨snd_iadd d275_41, List.forall_mem_cons.mpr ⟨snd_istore_n d275_42 rfl, List.forall_mem_cons.mpr ⟨snd_iinc d275_43 (by decide +kernel), List.forall_mem_cons.mpr ⟨snd_goto d275_46 (by decide), List.forall_mem_cons.mpr ⟨snd_iload_n d275_49 rfl, List.forall_mem_cons.mpr ⟨snd_iret rfl d275_50, fun _ h => by cases h⟩⟩⟩⟩⟩⟩⟩⟩⟩⟩⟩⟩⟩⟩⟩⟩⟩⟩⟩⟩⟩⟩⟩⟩⟩⟩⟩⟩⟩⟩
theorem d276_0 : decode (mC M276) 0 = .ok (.iconst 0, 1) := by decide +kernel
theorem d276_1 : decode (mC M276) 1 = .ok (.istore_n 3, 1) := by decide +kernel
theorem d276_2 : decode (mC M276) 2 = .ok (.iconst 0, 1) := by decide +kernel
theorem d276_3 : decode (mC M276) 3 = .ok (.istore 4, 2) := by decide +kernel
theorem d276_5 : decode (mC M276) 5 = .ok (.iload 4, 2) := by decide +kernel
theorem d276_7 : decode (mC M276) 7 = .ok (.aload_n 0, 1) := by decide +kernel
theorem d276_8 : decode (mC M276) 8 = .ok (.getfield 255, 3) := by decide +kernel
theorem d276_11 : decode (mC M276) 11 = .ok (.if_icmp .ge 45, 3) := by decide +kernel
theorem d276_14 : decode (mC M276) 14 = .ok (.iload_n 3, 1) := by decide +kernel
theorem d276_15 : decode (mC M276) 15 = .ok (.aload_n 0, 1) := by decide +kernel
theorem d276_16 : decode (mC M276) 16 = .ok (.iload 4, 2) := by decide +kernel
theorem d276_18 : decode (mC M276) 18 = .ok (.bipush 8, 2) := by decide +kernel
theorem d276_20 : decode (mC M276) 20 = .ok (.invokevirtual 363, 3) := by decide +kernel
theorem d276_23 : decode (mC M276) 23 = .ok (.ifCond .gt 14, 3) := by decide +kernel
theorem d276_26 : decode (mC M276) 26 = .ok (.aload_n 0, 1) := by decide +kernel
theorem d276_27 : decode (mC M276) 27 = .ok (.iload 4, 2) := by decide +kernel
theorem d276_29 : decode (mC M276) 29 = .ok (.iconst 0, 1) := by decide +kernel
theorem d276_30 : decode (mC M276) 30 = .ok (.invokevirtual 363, 3) := by decide +kernel
theorem d276_33 : decode (mC M276) 33 = .ok (.iload_n 1, 1) := by decide +kernel
theorem d276_34 : decode (mC M276) 34 = .ok (.if_icmp .gt 13, 3) := by decide +kernel
theorem d276_37 : decode (mC M276) 37 = .ok (.aload_n 0, 1) := by decide +kernel
theorem d276_38 : decode (mC M276) 38 = .ok (.iload 4, 2) := by decide +kernel
theorem d276_40 : decode (mC M276) 40 = .ok (.iload_n 2, 1) := by decide +kernel
theorem d276_41 : decode (mC M276) 41 = .ok (.invokevirtual 390, 3) := by decide +kernel
theorem d276_44 : decode (mC M276) 44 = .ok (.goto 4, 3) := by decide +kernel
theorem d276_47 : decode (mC M276) 47 = .ok (.iconst 0, 1) := by decide +kernel
theorem d276_48 : decode (mC M276) 48 = .ok (.iadd, 1) := by decide +kernel
theorem d276_49 : decode (mC M276) 49 = .ok (.istore_n 3, 1) := by decide +kernel
theorem d276_50 : decode (mC M276) 50 = .ok (.iinc 4 1, 3) := by decide +kernel
theorem d276_53 : decode (mC M276) 53 = .ok (.goto (-48), 3) := by decide +kernel
theorem d276_56 : decode (mC M276) 56 = .ok (.iconst 0, 1) := by decide +kernel
theorem d276_57 : decode (mC M276) 57 = .ok (.istore 4, 2) := by decide +kernel
theorem d276_59 : decode (mC M276) 59 = .ok (.iload 4, 2) := by decide +kernel
theorem d276_61 : decode (mC M276) 61 = .ok (.aload_n 0, 1) := by decide +kernel
theorem d276_62 : decode (mC M276) 62 = .ok (.getfield 261, 3) := by decide +kernel
theorem d276_65 : decode (mC M276) 65 = .ok (.if_icmp .ge 24, 3) := by decide +kernel
theorem d276_68 : decode (mC M276) 68 = .ok (.iload_n 3, 1) := by decide +kernel
theorem d276_69 : decode (mC M276) 69 = .ok (.aload_n 0, 1) := by decide +kernel
theorem d276_70 : decode (mC M276) 70 = .ok (.getfield 52, 3) := by decide +kernel
theorem d276_73 : decode (mC M276) 73 = .ok (.bipush 10, 2) := by decide +kernel
theorem d276_75 : decode (mC M276) 75 = .ok (.iload 4, 2) := by decide +kernel
theorem d276_77 : decode (mC M276) 77 = .ok (.imul, 1) := by decide +kernel
theorem d276_78 : decode (mC M276) 78 = .ok (.iload_n 2, 1) := by decide +kernel
theorem d276_79 : decode (mC M276) 79 = .ok (.iadd, 1) := by decide +kernel
theorem d276_80 : decode (mC M276) 80 = .ok (.iaload, 1) := by decide +kernel
theorem d276_81 : decode (mC M276) 81 = .ok (.isub, 1) := by decide +kernel
theorem d276_82 : decode (mC M276) 82 = .ok (.istore_n 3, 1) := by decide +kernel
theorem d276_83 : decode (mC M276) 83 = .ok (.iinc 4 1, 3) := by decide +kernel
theorem d276_86 : decode (mC M276) 86 = .ok (.goto (-27), 3) := by decide +kernel
theorem d276_89 : decode (mC M276) 89 = .ok (.iload_n 3, 1) := by decide +kernel
theorem d276_90 : decode (mC M276) 90 = .ok (.ireturn, 1) := by decide +kernel
theorem sc276_0 : ∀ q ∈ tc276_0, Snd xtb M276 q.1 q.2 := List.forall_mem_cons.mpr ⟨snd_iconst d276_0 (by decide +kernel), List.forall_mem_cons.mpr ⟨snd_istore_n d276_1 rfl, List.forall_mem_cons.mpr ⟨snd_iconst d276_2 (by decide +kernel), List.forall_mem_cons.mpr ⟨snd_istore d276_3, List.forall_mem_cons.mpr ⟨snd_iload d276_5, List.forall_mem_cons.mpr ⟨snd_aload_n d276_7 rfl, List.forall_mem_cons.mpr ⟨snd_getI (by decide) (by decide) rfl wd1387 d276_8, List.forall_mem_cons.mpr ⟨snd_cmp_ge d276_11 (by decide), List.forall_mem_cons.mpr ⟨snd_iload_n d276_14 rfl, List.forall_mem_cons.mpr ⟨snd_aload_n d276_15 rfl, List.forall_mem_cons.mpr ⟨snd_iload d276_16, List.forall_mem_cons.mpr ⟨snd_bipush d276_18 (by decide +kernel), List.forall_mem_cons.mpr ⟨snd_callV (by decide) rfl cn262 ⟨by decide +kernel, by decide +kernel⟩ cm262 (List.forall_mem_cons.mpr ⟨wd1845, cw262⟩) d276_20, List.forall_mem_cons.mpr ⟨snd_if_gt d276_23 (by decide), List.forall_mem_cons.mpr ⟨snd_aload_n d276_26 rfl, List.forall_mem_cons.mpr ⟨snd_iload d276_27, List.forall_mem_cons.mpr ⟨snd_iconst d276_29 (by decide +kernel), List.forall_mem_cons.mpr ⟨snd_callV (by decide) rfl cn262 ⟨by decide +kernel, by decide +kernel⟩ cm262 (List.forall_mem_cons.mpr ⟨wd1845, cw262⟩) d276_30, List.forall_mem_cons.mpr ⟨snd_iload_n d276_33 rfl, List.forall_mem_cons.mpr ⟨snd_cmp_gt d276_34 (by decide), List.forall_mem_cons.mpr ⟨snd_aload_n d276_37 rfl, List.forall_mem_cons.mpr ⟨snd_iload d276_38, List.forall_mem_cons.mpr ⟨snd_iload_n d276_40 rfl, List.forall_mem_cons.mpr ⟨snd_callV (by decide) rfl cn275 ⟨by decide +kernel, by decide +kernel⟩ cm275 (List.forall_mem_cons.mpr ⟨wd1921, cw275⟩) d276_41, List.forall_mem_cons.mpr ⟨snd_goto d276_44 (by decide), List.forall_mem_cons.mpr ⟨snd_iconst d276_47 (by decide +kernel), List.forall_mem_cons.mpr ⟨snd_iadd d276_48, List.forall_mem_cons.mpr ⟨snd_istore_n d276_49 rfl, List.forall_mem_cons.mpr ⟨snd_iinc d276_50 (by decide +kernel), List.forall_mem_cons.mpr ⟨snd_goto d276_53 (by decide), fun _ h => by cases h⟩⟩⟩⟩⟩⟩⟩⟩⟩⟩⟩⟩⟩⟩⟩⟩⟩⟩⟩⟩⟩⟩⟩⟩⟩⟩⟩⟩⟩⟩
theorem sc276_1 : ∀ q ∈ tc276_1, Snd xtb M276 q.1 q.2 := List.forall_mem_cons.mpr ⟨snd_iconst d276_56 (by decide +kernel), List.forall_mem_cons.mpr ⟨snd_istore d276_57, List.forall_mem_cons.mpr ⟨snd_iload d276_59, List.forall_mem_cons.mpr ⟨snd_aload_n d276_61 rfl, List.forall_mem_cons.mpr ⟨snd_getI (by decide) (by decide) rfl wd1394 d276_62, List.forall_mem_cons.mpr ⟨snd_cmp_ge d276_65 (by decide), List.forall_mem_cons.mpr ⟨snd_iload_n d276_68 rfl, List.forall_mem_cons.mpr ⟨snd_aload_n d276_69 rfl, List.forall_mem_cons.mpr ⟨snd_getR (by decide) (by decide) rfl wd1393 d276_70, List.forall_mem_cons.mpr ⟨snd_bipush d276_73 (by decide +kernel), List.forall_mem_cons.mpr ⟨snd_iload d276_75, List.forall_mem_cons.mpr ⟨snd_imul d276_77, List.forall_mem_cons.mpr ⟨snd_iload_n d276_78 rfl, List.forall_mem_cons.mpr ⟨snd_iadd d276_79, List.forall_mem_cons.mpr ⟨snd_iald d276_80, List.forall_mem_cons.mpr ⟨snd_isub d276_81, List.forall_mem_cons.mpr ⟨snd_istore_n d276_82 rfl, List.forall_mem_cons.mpr ⟨snd_iinc d276_83 (by decide +kernel), List.forall_mem_cons.mpr ⟨snd_goto d276_86 (by decide), List.forall_mem_cons.mpr ⟨snd_iload_n d276_89 rfl, List.forall_mem_cons.mpr ⟨snd_iret rfl d276_90, fun _ h => by cases h⟩⟩⟩⟩⟩⟩⟩⟩⟩⟩⟩⟩⟩⟩⟩⟩⟩⟩⟩⟩⟩
theorem d277_0 : decode (mC M277) 0 = .ok (.aload_n 0, 1) := by decide +kernel
theorem d277_1 : decode (mC M277) 1 = .ok (.getfield 251, 3) := by decide +kernel
theorem d277_4 : decode (mC M277) 4 = .ok (.ifCond .eq 21, 3) := by decide +kernel
theorem d277_7 : decode (mC M277) 7 = .ok (.iload_n 1, 1) := by decide +kernel
theorem d277_8 : decode (mC M277) 8 = .ok (.iconst 0, 1) := by decide +kernel
theorem d277_9 : decode (mC M277) 9 = .ok (.aload_n 0, 1) := by decide +kernel
theorem d277_10 : decode (mC M277) 10 = .ok (.getfield 261, 3) := by decide +kernel
theorem d277_13 : decode (mC M277) 13 = .ok (.iconst 1, 1) := by decide +kernel
theorem d277_14 : decode (mC M277) 14 = .ok (.isub, 1) := by decide +kernel
theorem d277_15 : decode (mC M277) 15 = .ok (.invokestatic 95, 3) := by decide +kernel
theorem d277_18 : decode (mC M277) 18 = .ok (.ifCond .eq 7, 3) := by decide +kernel
theorem d277_21 : decode (mC M277) 21 = .ok (.iconst 1, 1) := by decide +kernel
theorem d277_22 : decode (mC M277) 22 = .ok (.goto 4, 3) := by decide +kernel
theorem d277_25 : decode (mC M277) 25 = .ok (.iconst 0, 1) := by decide +kernel
theorem d277_26 : decode (mC M277) 26 = .ok (.ireturn, 1) := by decide +kernel
theorem sc277_0 : ∀ q ∈ tc277_0, Snd xtb M277 q.1 q.2 := List.forall_mem_cons.mpr ⟨snd_aload_n d277_0 rfl, List.forall_mem_cons.mpr ⟨snd_getI (by decide) (by decide) rfl wd1374 d277_1, List.forall_mem_cons.mpr ⟨snd_if_eq d277_4 (by decide), List.forall_mem_cons.mpr ⟨snd_iload_n d277_7 rfl, List.forall_mem_cons.mpr ⟨snd_iconst d277_8 (by decide +kernel), List.forall_mem_cons.mpr ⟨snd_aload_n d277_9 rfl, List.forall_mem_cons.mpr ⟨snd_getI (by decide) (by decide) rfl wd1394 d277_10, List.forall_mem_cons.mpr ⟨snd_iconst d277_13 (by decide +kernel), List.forall_mem_cons.mpr ⟨snd_isub d277_14, List.forall_mem_cons.mpr ⟨snd_callS cn175 ⟨by decide +kernel, by decide +kernel⟩ cm175 (List.forall_mem_cons.mpr ⟨wd1492, cw175⟩) d277_15, List.forall_mem_cons.mpr ⟨snd_if_eq d277_18 (by decide), List.forall_mem_cons.mpr ⟨snd_iconst d277_21 (by decide +kernel), List.forall_mem_cons.mpr ⟨snd_goto d277_22 (by decide), List.forall_mem_cons.mpr ⟨snd_iconst d277_25 (by decide +kernel), List.forall_mem_cons.mpr ⟨snd_zret rfl d277_26, fun _ h => by cases h⟩⟩⟩⟩⟩⟩⟩⟩⟩⟩⟩⟩⟩⟩⟩
theorem d278_0 : decode (mC M278) 0 = .ok (.iload_n 1, 1) := by decide +kernel
theorem d278_1 : decode (mC M278) 1 = .ok (.iconst (-1), 1) := by decide +kernel
theorem d278_2 : decode (mC M278) 2 = .ok (.if_icmp .eq 11, 3) := by decide +kernel
theorem d278_5 : decode (mC M278) 5 = .ok (.aload_n 0, 1) := by decide +kernel
theorem d278_6 : decode (mC M278) 6 = .ok (.iload_n 1, 1) := by decide +kernel
theorem d278_7 : decode (mC M278) 7 = .ok (.invokevirtual 271, 3) := by decide +kernel
theorem d278_10 : decode (mC M278) 10 = .ok (.ifCond .eq 7, 3) := by decide +kernel
theorem d278_13 : decode (mC M278) 13 = .ok (.iconst 1, 1) := by decide +kernel
theorem d278_14 : decode (mC M278) 14 = .ok (.goto 4, 3) := by decide +kernel
theorem d278_17 : decode (mC M278) 17 = .ok (.iconst 0, 1) := by decide +kernel
theorem d278_18 : decode (mC M278) 18 = .ok (.ireturn, 1) := by decide +kernel
theorem sc278_0 : ∀ q ∈ tc278_0, Snd xtb M278 q.1 q.2 := List.forall_mem_cons.mpr ⟨snd_iload_n d278_0 rfl, List.forall_mem_cons.mpr ⟨snd_iconst d278_1 (by decide +kernel), List.forall_mem_cons.mpr ⟨snd_cmp_eq d278_2 (by decide), List.forall_mem_cons.mpr ⟨snd_aload_n d278_5 rfl, List.forall_mem_cons.mpr ⟨snd_iload_n d278_6 rfl, List.forall_mem_cons.mpr ⟨snd_callV (by decide) rfl cn214 ⟨by decide +kernel, by decide +kernel⟩ cm214 (List.forall_mem_cons.mpr ⟨wd1650, cw214⟩) d278_7, List.forall_mem_cons.mpr ⟨snd_if_eq d278_10 (by decide), List.forall_mem_cons.mpr ⟨snd_iconst d278_13 (by decide +kernel), List.forall_mem_cons.mpr ⟨snd_goto d278_14 (by decide), List.forall_mem_cons.mpr ⟨snd_iconst d278_17 (by decide +kernel), List.forall_mem_cons.mpr ⟨snd_zret rfl d278_18, fun _ h => by cases h⟩⟩⟩⟩⟩⟩⟩⟩⟩⟩⟩
theorem d279_0 : decode (mC M279) 0 = .ok (.aload_n 0, 1) := by decide +kernel
theorem d279_1 : decode (mC M279) 1 = .ok (.iconst 0, 1) := by decide +kernel
theorem d279_2 : decode (mC M279) 2 = .ok (.putfield 64, 3) := by decide +kernel
theorem d279_5 : decode (mC M279) 5 = .ok (.aload_n 0, 1) := by decide +kernel
theorem d279_6 : decode (mC M279) 6 = .ok (.getfield 251, 3) := by decide +kernel
theorem d279_9 : decode (mC M279) 9 = .ok (.ifCond .eq 14, 3) := by decide +kernel
theorem d279_12 : decode (mC M279) 12 = .ok (.aload_n 0, 1) := by decide +kernel
theorem d279_13 : decode (mC M279) 13 = .ok (.aload_n 0, 1) := by decide +kernel
theorem d279_14 : decode (mC M279) 14 = .ok (.getfield 261, 3) := by decide +kernel
theorem d279_17 : decode (mC M279) 17 = .ok (.invokevirtual 264, 3) := by decide +kernel
theorem d279_20 : decode (mC M279) 20 = .ok (.goto 8, 3) := by decide +kernel
theorem d279_23 : decode (mC M279) 23 = .ok (.aload_n 0, 1) := by decide +kernel
theorem d279_24 : decode (mC M279) 24 = .ok (.iconst 1, 1) := by decide +kernel
theorem d279_25 : decode (mC M279) 25 = .ok (.invokevirtual 70, 3) := by decide +kernel
theorem d279_28 : decode (mC M279) 28 = .ok (.ireturn, 1) := by decide +kernel
theorem sc279_0 : ∀ q ∈ tc279_0, Snd xtb M279 q.1 q.2 := List.forall_mem_cons.mpr ⟨snd_aload_n d279_0 rfl, List.forall_mem_cons.mpr ⟨snd_iconst d279_1 (by decide +kernel), List.forall_mem_cons.mpr ⟨snd_putI (by decide) (by decide) rfl rfl wd1367 d279_2, List.forall_mem_cons.mpr ⟨snd_aload_n d279_5 rfl, List.forall_mem_cons.mpr ⟨snd_getI (by decide) (by decide) rfl wd1374 d279_6, List.forall_mem_cons.mpr ⟨snd_if_eq d279_9 (by decide), List.forall_mem_cons.mpr ⟨snd_aload_n d279_12 rfl, List.forall_mem_cons.mpr ⟨snd_aload_n d279_13 rfl, List.forall_mem_cons.mpr ⟨snd_getI (by decide) (by decide) rfl wd1394 d279_14, List.forall_mem_cons.mpr ⟨snd_callV (by decide) rfl cn174 ⟨by decide +kernel, by decide +kernel⟩ cm174 (List.forall_mem_cons.mpr ⟨wd1622, cw174⟩) d279_17, List.forall_mem_cons.mpr ⟨snd_goto d279_20 (by decide), List.forall_mem_cons.mpr ⟨snd_aload_n d279_23 rfl, List.forall_mem_cons.mpr ⟨snd_iconst d279_24 (by decide +kernel), List.forall_mem_cons.mpr ⟨snd_callV (by decide) rfl cn172 ⟨by decide +kernel, by decide +kernel⟩ cm172 (List.forall_mem_cons.mpr ⟨wd1476, cw172⟩) d279_25, List.forall_mem_cons.mpr ⟨snd_iret rfl d279_28, fun _ h => by cases h⟩⟩⟩⟩⟩⟩⟩⟩⟩⟩⟩⟩⟩⟩⟩
theorem d280_0 : decode (mC M280) 0 = .ok (.aload_n 0, 1) := by decide +kernel
theorem d280_1 : decode (mC M280) 1 = .ok (.iconst 0, 1) := by decide +kernel
theorem d280_2 : decode (mC M280) 2 = .ok (.putfield 64, 3) := by decide +kernel
theorem d280_5 : decode (mC M280) 5 = .ok (.aload_n 0, 1) := by decide +kernel
theorem d280_6 : decode (mC M280) 6 = .ok (.iload_n 1, 1) := by decide +kernel
theorem d280_7 : decode (mC M280) 7 = .ok (.invokevirtual 393, 3) := by decide +kernel
theorem d280_10 : decode (mC M280) 10 = .ok (.ifCond .eq 12, 3) := by decide +kernel
theorem d280_13 : decode (mC M280) 13 = .ok (.iload_n 2, 1) := by decide +kernel
theorem d280_14 : decode (mC M280) 14 = .ok (.iconst 0, 1) := by decide +kernel
theorem d280_15 : decode (mC M280) 15 = .ok (.iconst 1, 1) := by decide +kernel
theorem d280_16 : decode (mC M280) 16 = .ok (.invokestatic 95, 3) := by decide +kernel
theorem d280_19 : decode (mC M280) 19 = .ok (.ifCond .ne 9, 3) := by decide +kernel
theorem d280_22 : decode (mC M280) 22 = .ok (.aload_n 0, 1) := by decide +kernel
theorem d280_23 : decode (mC M280) 23 = .ok (.iconst 1, 1) := by decide +kernel
theorem d280_24 : decode (mC M280) 24 = .ok (.invokevirtual 70, 3) := by decide +kernel
theorem d280_27 : decode (mC M280) 27 = .ok (.ireturn, 1) := by decide +kernel
theorem d280_28 : decode (mC M280) 28 = .ok (.iload_n 2, 1) := by decide +kernel
theorem d280_29 : decode (mC M280) 29 = .ok (.ifCond .ne 14, 3) := by decide +kernel
theorem d280_32 : decode (mC M280) 32 = .ok (.aload_n 0, 1) := by decide +kernel
theorem d280_33 : decode (mC M280) 33 = .ok (.aload_n 0, 1) := by decide +kernel
theorem d280_34 : decode (mC M280) 34 = .ok (.getfield 49, 3) := by decide +kernel
theorem d280_37 : decode (mC M280) 37 = .ok (.iload_n 1, 1) := by decide +kernel
theorem d280_38 : decode (mC M280) 38 = .ok (.iaload, 1) := by decide +kernel
theorem d280_39 : decode (mC M280) 39 = .ok (.invokevirtual 264, 3) := by decide +kernel
theorem d280_42 : decode (mC M280) 42 = .ok (.ireturn, 1) := by decide +kernel
theorem d280_43 : decode (mC M280) 43 = .ok (.iconst 0, 1) := by decide +kernel
theorem d280_44 : decode (mC M280) 44 = .ok (.istore_n 3, 1) := by decide +kernel
theorem d280_45 : decode (mC M280) 45 = .ok (.iconst 0, 1) := by decide +kernel
theorem d280_46 : decode (mC M280) 46 = .ok (.istore 4, 2) := by decide +kernel
theorem d280_48 : decode (mC M280) 48 = .ok (.iload 4, 2) := by decide +kernel
theorem d280_50 : decode (mC M280) 50 = .ok (.aload_n 0, 1) := by decide +kernel
theorem d280_51 : decode (mC M280) 51 = .ok (.getfield 255, 3) := by decide +kernel
theorem d280_54 : decode (mC M280) 54 = .ok (.if_icmp .ge 31, 3) := by decide +kernel
theorem d280_57 : decode (mC M280) 57 = .ok (.iload_n 3, 1) := by decide +kernel
theorem d280_58 : decode (mC M280) 58 = .ok (.aload_n 0, 1) := by decide +kernel
theorem d280_59 : decode (mC M280) 59 = .ok (.iload 4, 2) := by decide +kernel
theorem d280_61 : decode (mC M280) 61 = .ok (.bipush 8, 2) := by decide +kernel
theorem d280_63 : decode (mC M280) 63 = .ok (.invokevirtual 363, 3) := by decide +kernel
theorem d280_66 : decode (mC M280) 66 = .ok (.iload_n 1, 1) := by decide +kernel
theorem d280_67 : decode (mC M280) 67 = .ok (.iconst 1, 1) := by decide +kernel
theorem d280_68 : decode (mC M280) 68 = .ok (.iadd, 1) := by decide +kernel
theorem d280_69 : decode (mC M280) 69 = .ok (.if_icmp .ne 7, 3) := by decide +kernel
theorem d280_72 : decode (mC M280) 72 = .ok (.iconst 1, 1) := by decide +kernel
theorem d280_73 : decode (mC M280) 73 = .ok (.goto 4, 3) := by decide +kernel
theorem d280_76 : decode (mC M280) 76 = .ok (.iconst 0, 1) := by decide +kernel
theorem d280_77 : decode (mC M280) 77 = .ok (.iadd, 1) := by decide +kernel
theorem d280_78 : decode (mC M280) 78 = .ok (.istore_n 3, 1) := by decide +kernel
theorem d280_79 : decode (mC M280) 79 = .ok (.iinc 4 1, 3) := by decide +kernel
theorem d280_82 : decode (mC M280) 82 = .ok (.goto (-34), 3) := by decide +kernel
theorem d280_85 : decode (mC M280) 85 = .ok (.aload_n 0, 1) := by decide +kernel
theorem d280_86 : decode (mC M280) 86 = .ok (.iload_n 3, 1) := by decide +kernel
theorem d280_87 : decode (mC M280) 87 = .ok (.invokevirtual 264, 3) := by decide +kernel
theorem d280_90 : decode (mC M280) 90 = .ok (.ireturn, 1) := by decide +kernel
theorem sc280_0 : ∀ q ∈ tc280_0, Snd xtb M280 q.1 q.2 := List.forall_mem_cons.mpr ⟨snd_aload_n d280_0 rfl, List.forall_mem_cons.mpr ⟨snd_iconst d280_1 (by decide +kernel), List.forall_mem_cons.mpr ⟨snd_putI (by decide) (by decide) rfl rfl wd1367 d280_2, List.forall_mem_cons.mpr ⟨snd_aload_n d280_5 rfl, List.forall_mem_cons.mpr ⟨snd_iload_n d280_6 rfl, List.forall_mem_cons.mpr ⟨snd_callV (by decide) rfl cn277 ⟨by decide +kernel, by decide +kernel⟩ cm277 (List.forall_mem_cons.mpr ⟨wd1893, cw277⟩) d280_7, List.forall_mem_cons.mpr ⟨snd_if_eq d280_10 (by decide), List.forall_mem_cons.mpr ⟨snd_iload_n d280_13 rfl, List.forall_mem_cons.mpr ⟨snd_iconst d280_14 (by decide +kernel), List.forall_mem_cons.mpr ⟨snd_iconst d280_15 (by decide +kernel), List.forall_mem_cons.mpr ⟨snd_callS cn175 ⟨by decide +kernel, by decide +kernel⟩ cm175 (List.forall_mem_cons.mpr ⟨wd1492, cw175⟩) d280_16, List.forall_mem_cons.mpr ⟨snd_if_ne d280_19 (by decide), List.forall_mem_cons.mpr ⟨snd_aload_n d280_22 rfl, List.forall_mem_cons.mpr ⟨snd_iconst d280_23 (by decide +kernel), List.forall_mem_cons.mpr ⟨snd_callV (by decide) rfl cn172 ⟨by decide +kernel, by decide +kernel⟩ cm172 (List.forall_mem_cons.mpr ⟨wd1476, cw172⟩) d280_24, List.forall_mem_cons.mpr ⟨snd_iret rfl d280_27, List.forall_mem_cons.mpr ⟨snd_iload_n d280_28 rfl, List.forall_mem_cons.mpr ⟨snd_if_ne d280_29 (by decide), List.forall_mem_cons.mpr ⟨snd_aload_n d280_32 rfl, List.forall_mem_cons.mpr ⟨snd_aload_n d280_33 rfl, List.forall_mem_cons.mpr ⟨snd_getR (by decide) (by decide) rfl wd1392 d280_34, List.forall_mem_cons.mpr ⟨snd_iload_n d280_37 rfl, List.forall_mem_cons.mpr ⟨snd_iald d280_38, List.forall_mem_cons.mpr ⟨snd_callV (by decide) rfl cn174 ⟨by decide +kernel, by decide +kernel⟩ cm174 (List.forall_mem_cons.mpr ⟨wd1622, cw174⟩) d280_39, List.forall_mem_cons.mpr ⟨snd_iret rfl d280_42, List.forall_mem_cons.mpr ⟨snd_iconst d280_43 (by decide +kernel), List.forall_mem_cons.mpr ⟨snd_istore_n d280_44 rfl, List.forall_mem_cons.mpr ⟨snd_iconst d280_45 (by decide +kernel), List.forall_mem_cons.mpr ⟨snd_istore d280_46, List.forall_mem_cons.mpr ⟨snd_iload d280_48, fun _ h => by cases h⟩⟩⟩⟩⟩⟩⟩⟩⟩⟩⟩⟩⟩⟩⟩⟩⟩⟩⟩⟩⟩⟩⟩⟩⟩⟩⟩⟩⟩⟩
theorem sc280_1 : ∀ q ∈ tc280_1, Snd xtb M280 q.1 q.2 := List.forall_mem_cons.mpr ⟨snd_aload_n d280_50 rfl, List.forall_mem_cons.mpr ⟨snd_getI (by decide) (by decide) rfl wd1387 d280_51, List.forall_mem_cons.mpr ⟨snd_cmp_ge d280_54 (by decide), List.forall_mem_cons.mpr ⟨snd_iload_n d280_57 rfl, List.forall_mem_cons.mpr ⟨snd_aload_n d280_58 rfl, List.forall_mem_cons.mpr ⟨snd_iload d280_59, List.forall_mem_cons.mpr ⟨snd_bipush d280_61 (by decide +kernel), List.forall_mem_cons.mpr ⟨snd_callV (by decide) rfl cn262 ⟨by decide +kernel, by decide +kernel⟩ cm262 (List.forall_mem_cons.mpr ⟨wd1845, cw262⟩) d280_63, List.forall_mem_cons.mpr ⟨snd_iload_n d280_66 rfl, List.forall_mem_cons.mpr ⟨snd_iconst d280_67 (by decide +kernel), List.forall_mem_cons.mpr ⟨snd_iadd d280_68, List.forall_mem_cons.mpr ⟨snd_cmp_ne d280_69 (by decide), List.forall_mem_cons.mpr ⟨snd_iconst d280_72 (by decide +kernel), List.forall_mem_cons.mpr ⟨snd_goto d280_73 (by decide), List.forall_mem_cons.mpr ⟨snd_iconst d280_76 (by decide +kernel), List.forall_mem_cons.mpr ⟨snd_iadd d280_77, List.forall_mem_cons.mpr ⟨snd_istore_n d280_78 rfl, List.forall_mem_cons.mpr ⟨snd_iinc d280_79 (by decide +kernel), List.forall_mem_cons.mpr ⟨snd_goto d280_82 (by decide), List.forall_mem_cons.mpr ⟨snd_aload_n d280_85 rfl, List.forall_mem_cons.mpr ⟨snd_iload_n d280_86 rfl, List.forall_mem_cons.mpr ⟨snd_callV (by decide) rfl cn174 ⟨by decide +kernel, by decide +kernel⟩ cm174 (List.forall_mem_cons.mpr ⟨wd1622, cw174⟩) d280_87, List.forall_mem_cons.mpr ⟨snd_iret rfl d280_90, fun _ h => by cases h⟩⟩⟩⟩⟩⟩⟩⟩⟩⟩⟩⟩⟩⟩⟩⟩⟩⟩⟩⟩⟩⟩⟩
theorem d281_0 : decode (mC M281) 0 = .ok (.aload_n 0, 1) := by decide +kernel
theorem d281_1 : decode (mC M281) 1 = .ok (.iconst 0, 1) := by decide +kernel
theorem d281_2 : decode (mC M281) 2 = .ok (.putfield 64, 3) := by decide +kernel
theorem d281_5 : decode (mC M281) 5 = .ok (.aload_n 0, 1) := by decide +kernel
theorem d281_6 : decode (mC M281) 6 = .ok (.iload_n 1, 1) := by decide +kernel
theorem d281_7 : decode (mC M281) 7 = .ok (.invokevirtual 393, 3) := by decide +kernel
theorem d281_10 : decode (mC M281) 10 = .ok (.ifCond .eq 11, 3) := by decide +kernel
theorem d281_13 : decode (mC M281) 13 = .ok (.aload_n 0, 1) := by decide +kernel
theorem d281_14 : decode (mC M281) 14 = .ok (.iload_n 2, 1) := by decide +kernel
theorem d281_15 : decode (mC M281) 15 = .ok (.invokevirtual 396, 3) := by decide +kernel
theorem d281_18 : decode (mC M281) 18 = .ok (.ifCond .ne 9, 3) := by decide +kernel
theorem d281_21 : decode (mC M281) 21 = .ok (.aload_n 0, 1) := by decide +kernel
theorem d281_22 : decode (mC M281) 22 = .ok (.iconst 1, 1) := by decide +kernel
theorem d281_23 : decode (mC M281) 23 = .ok (.invokevirtual 300, 3) := by decide +kernel
theorem d281_26 : decode (mC M281) 26 = .ok (.ireturn, 1) := by decide +kernel
theorem d281_27 : decode (mC M281) 27 = .ok (.iconst 0, 1) := by decide +kernel
theorem d281_28 : decode (mC M281) 28 = .ok (.istore_n 3, 1) := by decide +kernel
theorem d281_29 : decode (mC M281) 29 = .ok (.iconst 0, 1) := by decide +kernel
theorem d281_30 : decode (mC M281) 30 = .ok (.istore 4, 2) := by decide +kernel
theorem d281_32 : decode (mC M281) 32 = .ok (.iload 4, 2) := by decide +kernel
theorem d281_34 : decode (mC M281) 34 = .ok (.aload_n 0, 1) := by decide +kernel
theorem d281_35 : decode (mC M281) 35 = .ok (.getfield 13, 3) := by decide +kernel
theorem d281_38 : decode (mC M281) 38 = .ok (.iconst 3, 1) := by decide +kernel
theorem d281_39 : decode (mC M281) 39 = .ok (.iaload, 1) := by decide +kernel
theorem d281_40 : decode (mC M281) 40 = .ok (.if_icmp .ge 39, 3) := by decide +kernel
theorem d281_43 : decode (mC M281) 43 = .ok (.iload_n 3, 1) := by decide +kernel
theorem d281_44 : decode (mC M281) 44 = .ok (.iload_n 2, 1) := by decide +kernel
theorem d281_45 : decode (mC M281) 45 = .ok (.iconst (-1), 1) := by decide +kernel
theorem d281_46 : decode (mC M281) 46 = .ok (.if_icmp .eq 9, 3) := by decide +kernel
theorem d281_49 : decode (mC M281) 49 = .ok (.iload 4, 2) := by decide +kernel
theorem d281_51 : decode (mC M281) 51 = .ok (.iload_n 2, 1) := by decide +kernel
theorem d281_52 : decode (mC M281) 52 = .ok (.if_icmp .ne 18, 3) := by decide +kernel
theorem d281_55 : decode (mC M281) 55 = .ok (.aload_n 0, 1) := by decide +kernel
theorem d281_56 : decode (mC M281) 56 = .ok (.getfield 52, 3) := by decide +kernel
theorem d281_59 : decode (mC M281) 59 = .ok (.bipush 10, 2) := by decide +kernel
theorem d281_61 : decode (mC M281) 61 = .ok (.iload_n 1, 1) := by decide +kernel
theorem d281_62 : decode (mC M281) 62 = .ok (.imul, 1) := by decide +kernel
theorem d281_63 : decode (mC M281) 63 = .ok (.iload 4, 2) := by decide +kernel
theorem d281_65 : decode (mC M281) 65 = .ok (.iadd, 1) := by decide +kernel
theorem d281_66 : decode (mC M281) 66 = .ok (.iaload, 1) := by decide +kernel
theorem d281_67 : decode (mC M281) 67 = .ok (.goto 4, 3) := by decide +kernel
theorem d281_70 : decode (mC M281) 70 = .ok (.iconst 0, 1) := by decide +kernel
theorem d281_71 : decode (mC M281) 71 = .ok (.iadd, 1) := by decide +kernel
theorem d281_72 : decode (mC M281) 72 = .ok (.istore_n 3, 1) := by decide +kernel
theorem d281_73 : decode (mC M281) 73 = .ok (.iinc 4 1, 3) := by decide +kernel
theorem d281_76 : decode (mC M281) 76 = .ok (.goto (-44), 3) := by decide +kernel
theorem d281_79 : decode (mC M281) 79 = .ok (.aload_n 0, 1) := by decide +kernel
theorem d281_80 : decode (mC M281) 80 = .ok (.iload_n 3, 1) := by decide +kernel
theorem d281_81 : decode (mC M281) 81 = .ok (.invokevirtual 264, 3) := by decide +kernel
theorem d281_84 : decode (mC M281) 84 = .ok (.ireturn, 1) := by decide +kernel
theorem sc281_0 : ∀ q ∈ tc281_0, Snd xtb M281 q.1 q.2 := List.forall_mem_cons.mpr ⟨snd_aload_n d281_0 rfl, List.forall_mem_cons.mpr ⟨snd_iconst d281_1 (by decide +kernel), List.forall_mem_cons.mpr ⟨snd_putI (by decide) (by decide) rfl rfl wd1367 d281_2, List.forall_mem_cons.mpr ⟨snd_aload_n d281_5 rfl, List.forall_mem_cons.mpr ⟨snd_iload_n d281_6 rfl, List.forall_mem_cons.mpr ⟨snd_callV (by decide) rfl cn277 ⟨by decide +kernel, by decide +kernel⟩ cm277 (List.forall_mem_cons.mpr ⟨wd1893, cw277⟩) d281_7, List.forall_mem_cons.mpr ⟨snd_if_eq d281_10 (by decide), List.forall_mem_cons.mpr ⟨snd_aload_n d281_13 rfl, List.forall_mem_cons.mpr ⟨snd_iload_n d281_14 rfl, List.forall_mem_cons.mpr ⟨snd_callV (by decide) rfl cn278 ⟨by decide +kernel, by decide +kernel⟩ cm278 (List.forall_mem_cons.mpr ⟨wd1901, cw278⟩) d281_15, List.forall_mem_cons.mpr ⟨snd_if_ne d281_18 (by decide), List.forall_mem_cons.mpr ⟨snd_aload_n d281_21 rfl, List.forall_mem_cons.mpr ⟨snd_iconst d281_22 (by decide +kernel), List.forall_mem_cons.mpr ⟨snd_callV (by decide) rfl cn173 ⟨by decide +kernel, by decide +kernel⟩ cm173 (List.forall_mem_cons.mpr ⟨wd1693, cw173⟩) d281_23, List.forall_mem_cons.mpr ⟨snd_iret rfl d281_26, List.forall_mem_cons.mpr ⟨snd_iconst d281_27 (by decide +kernel), List.forall_mem_cons.mpr ⟨snd_istore_n d281_28 rfl, List.forall_mem_cons.mpr ⟨snd_iconst d281_29 (by decide +kernel), List.forall_mem_cons.mpr ⟨snd_istore d281_30, List.forall_mem_cons.mpr ⟨snd_iload d281_32, List.forall_mem_cons.mpr ⟨snd_aload_n d281_34 rfl, List.forall_mem_cons.mpr ⟨snd_getR (by decide) (by decide) rfl wd1370 d281_35, List.forall_mem_cons.mpr ⟨snd_iconst d281_38 (by decide +kernel), List.forall_mem_cons.mpr ⟨snd_iald d281_39, List.forall_mem_cons.mpr ⟨snd_cmp_ge d281_40 (by decide), List.forall_mem_cons.mpr ⟨snd_iload_n d281_43 rfl, List.forall_mem_cons.mpr ⟨snd_iload_n d281_44 rfl, List.forall_mem_cons.mpr ⟨snd_iconst d281_45 (by decide +kernel), List.forall_mem_cons.mpr ⟨snd_cmp_eq d281_46 (by decide), List.forall_mem_cons.mpr ⟨snd_iload d281_49, fun _ h => by cases h⟩⟩⟩⟩⟩⟩⟩⟩⟩⟩⟩⟩⟩⟩⟩⟩⟩⟩⟩⟩⟩⟩⟩⟩⟩⟩⟩⟩⟩⟩
theorem sc281_1 : ∀ q ∈ tc281_1, Snd xtb M281 q.1 q.2 := List.forall_mem_cons.mpr ⟨snd_iload_n d281_51 rfl, List.forall_mem_cons.mpr ⟨snd_cmp_ne d281_52 (by decide), List.forall_mem_cons.mpr ⟨snd_aload_n d281_55 rfl, List.forall_mem_cons.mpr ⟨snd_getR (by decide) (by decide) rfl wd1393 d281_56, List.forall_mem_cons.mpr ⟨snd_bipush d281_59 (by decide +kernel), List.forall_mem_cons.mpr ⟨snd_iload_n d281_61 rfl, List.forall_mem_cons.mpr ⟨snd_imul d281_62, List.forall_mem_cons.mpr ⟨snd_iload d281_63, List.forall_mem_cons.mpr ⟨snd_iadd d281_65, List.forall_mem_cons.mpr ⟨snd_iald d281_66, List.forall_mem_cons.mpr ⟨snd_goto d281_67 (by decide), List.forall_mem_cons.mpr ⟨snd_iconst d281_70 (by decide +kernel), List.forall_mem_cons.mpr ⟨snd_iadd d281_71, List.forall_mem_cons.mpr ⟨snd_istore_n d281_72 rfl, List.forall_mem_cons.mpr ⟨snd_iinc d281_73 (by decide +kernel), List.forall_mem_cons.mpr ⟨snd_goto d281_76 (by decide), List.forall_mem_cons.mpr ⟨snd_aload_n d281_79 rfl, List.forall_mem_cons.mpr ⟨snd_iload_n d281_80 rfl, List.forall_mem_cons.mpr ⟨snd_callV (by decide) rfl cn174 ⟨by decide +kernel, by decide +kernel⟩ cm174 (List.forall_mem_cons.mpr ⟨wd1622, cw174⟩) d281_81, List.forall_mem_cons.mpr ⟨snd_iret rfl d281_84, fun _ h => by cases h⟩⟩⟩⟩⟩⟩⟩⟩⟩⟩⟩⟩⟩⟩⟩⟩⟩⟩⟩⟩
theorem d282_0 : decode (mC M282) 0 = .ok (.iload_n 1, 1) := by decide +kernel
theorem d282_1 : decode (mC M282) 1 = .ok (.invokestatic 280, 3) := by decide +kernel
theorem d282_4 : decode (mC M282) 4 = .ok (.ifCond .eq 15, 3) := by decide +kernel
theorem d282_7 : decode (mC M282) 7 = .ok (.iload_n 1, 1) := by decide +kernel
theorem d282_8 : decode (mC M282) 8 = .ok (.aload_n 0, 1) := by decide +kernel
theorem d282_9 : decode (mC M282) 9 = .ok (.invokevirtual 399, 3) := by decide +kernel
theorem d282_12 : decode (mC M282) 12 = .ok (.if_icmp .le 7, 3) := by decide +kernel
theorem d282_15 : decode (mC M282) 15 = .ok (.iconst 1, 1) := by decide +kernel
theorem d282_16 : decode (mC M282) 16 = .ok (.goto 4, 3) := by decide +kernel
theorem d282_19 : decode (mC M282) 19 = .ok (.iconst 0, 1) := by decide +kernel
theorem d282_20 : decode (mC M282) 20 = .ok (.ireturn, 1) := by decide +kernel
theorem sc282_0 : ∀ q ∈ tc282_0, Snd xtb M282 q.1 q.2 := List.forall_mem_cons.mpr ⟨snd_iload_n d282_0 rfl, List.forall_mem_cons.mpr ⟨snd_callS cn222 ⟨by decide +kernel, by decide +kernel⟩ cm222 (List.forall_mem_cons.mpr ⟨wd1666, cw222⟩) d282_1, List.forall_mem_cons.mpr ⟨snd_if_eq d282_4 (by decide), List.forall_mem_cons.mpr ⟨snd_iload_n d282_7 rfl, List.forall_mem_cons.mpr ⟨snd_aload_n d282_8 rfl, List.forall_mem_cons.mpr ⟨snd_callV (by decide) rfl cn274 ⟨by decide +kernel, by decide +kernel⟩ cm274 (List.forall_mem_cons.mpr ⟨wd1913, cw274⟩) d282_9, List.forall_mem_cons.mpr ⟨snd_cmp_le d282_12 (by decide), List.forall_mem_cons.mpr ⟨snd_iconst d282_15 (by decide +kernel), List.forall_mem_cons.mpr ⟨snd_goto d282_16 (by decide), List.forall_mem_cons.mpr ⟨snd_iconst d282_19 (by decide +kernel), List.forall_mem_cons.mpr ⟨snd_zret rfl d282_20, fun _ h => by cases h⟩⟩⟩⟩⟩⟩⟩⟩⟩⟩⟩
theorem d283_0 : decode (mC M283) 0 = .ok (.aload_n 0, 1) := by decide +kernel
theorem d283_1 : decode (mC M283) 1 = .ok (.iconst 0, 1) := by decide +kernel
theorem d283_2 : decode (mC M283) 2 = .ok (.putfield 64, 3) := by decide +kernel
theorem d283_5 : decode (mC M283) 5 = .ok (.aload_n 0, 1) := by decide +kernel
theorem d283_6 : decode (mC M283) 6 = .ok (.getfield 251, 3) := by decide +kernel
theorem d283_9 : decode (mC M283) 9 = .ok (.ifCond .eq 11, 3) := by decide +kernel
theorem d283_12 : decode (mC M283) 12 = .ok (.aload_n 0, 1) := by decide +kernel
theorem d283_13 : decode (mC M283) 13 = .ok (.iload_n 2, 1) := by decide +kernel
theorem d283_14 : decode (mC M283) 14 = .ok (.invokevirtual 396, 3) := by decide +kernel
theorem d283_17 : decode (mC M283) 17 = .ok (.ifCond .ne 9, 3) := by decide +kernel
theorem d283_20 : decode (mC M283) 20 = .ok (.aload_n 0, 1) := by decide +kernel
theorem d283_21 : decode (mC M283) 21 = .ok (.iconst 1, 1) := by decide +kernel
theorem d283_22 : decode (mC M283) 22 = .ok (.invokevirtual 300, 3) := by decide +kernel
theorem d283_25 : decode (mC M283) 25 = .ok (.ireturn, 1) := by decide +kernel
theorem d283_26 : decode (mC M283) 26 = .ok (.aload_n 0, 1) := by decide +kernel
theorem d283_27 : decode (mC M283) 27 = .ok (.iload_n 1, 1) := by decide +kernel
theorem d283_28 : decode (mC M283) 28 = .ok (.invokevirtual 402, 3) := by decide +kernel
theorem d283_31 : decode (mC M283) 31 = .ok (.ifCond .ne 9, 3) := by decide +kernel
theorem d283_34 : decode (mC M283) 34 = .ok (.aload_n 0, 1) := by decide +kernel
theorem d283_35 : decode (mC M283) 35 = .ok (.iconst 2, 1) := by decide +kernel
theorem d283_36 : decode (mC M283) 36 = .ok (.invokevirtual 300, 3) := by decide +kernel
theorem d283_39 : decode (mC M283) 39 = .ok (.ireturn, 1) := by decide +kernel
theorem d283_40 : decode (mC M283) 40 = .ok (.iconst 0, 1) := by decide +kernel
theorem d283_41 : decode (mC M283) 41 = .ok (.istore_n 3, 1) := by decide +kernel
theorem d283_42 : decode (mC M283) 42 = .ok (.iconst 0, 1) := by decide +kernel
theorem d283_43 : decode (mC M283) 43 = .ok (.istore 4, 2) := by decide +kernel
theorem d283_45 : decode (mC M283) 45 = .ok (.iload 4, 2) := by decide +kernel
theorem d283_47 : decode (mC M283) 47 = .ok (.aload_n 0, 1) := by decide +kernel
theorem d283_48 : decode (mC M283) 48 = .ok (.getfield 13, 3) := by decide +kernel
theorem d283_51 : decode (mC M283) 51 = .ok (.iconst 3, 1) := by decide +kernel
theorem d283_52 : decode (mC M283) 52 = .ok (.iaload, 1) := by decide +kernel
theorem d283_53 : decode (mC M283) 53 = .ok (.if_icmp .ge 34, 3) := by decide +kernel
theorem d283_56 : decode (mC M283) 56 = .ok (.iload_n 3, 1) := by decide +kernel
theorem d283_57 : decode (mC M283) 57 = .ok (.iload_n 2, 1) := by decide +kernel
theorem d283_58 : decode (mC M283) 58 = .ok (.iconst (-1), 1) := by decide +kernel
theorem d283_59 : decode (mC M283) 59 = .ok (.if_icmp .eq 9, 3) := by decide +kernel
theorem d283_62 : decode (mC M283) 62 = .ok (.iload 4, 2) := by decide +kernel
theorem d283_64 : decode (mC M283) 64 = .ok (.iload_n 2, 1) := by decide +kernel
theorem d283_65 : decode (mC M283) 65 = .ok (.if_icmp .ne 13, 3) := by decide +kernel
theorem d283_68 : decode (mC M283) 68 = .ok (.aload_n 0, 1) := by decide +kernel
theorem d283_69 : decode (mC M283) 69 = .ok (.iload_n 1, 1) := by decide +kernel
theorem d283_70 : decode (mC M283) 70 = .ok (.iload 4, 2) := by decide +kernel
theorem d283_72 : decode (mC M283) 72 = .ok (.invokevirtual 405, 3) := by decide +kernel
theorem d283_75 : decode (mC M283) 75 = .ok (.goto 4, 3) := by decide +kernel
theorem d283_78 : decode (mC M283) 78 = .ok (.iconst 0, 1) := by decide +kernel
theorem d283_79 : decode (mC M283) 79 = .ok (.iadd, 1) := by decide +kernel
theorem d283_80 : decode (mC M283) 80 = .ok (.istore_n 3, 1) := by decide +kernel
theorem d283_81 : decode (mC M283) 81 = .ok (.iinc 4 1, 3) := by decide +kernel
theorem d283_84 : decode (mC M283) 84 = .ok (.goto (-39), 3) := by decide +kernel
theorem d283_87 : decode (mC M283) 87 = .ok (.aload_n 0, 1) := by decide +kernel
theorem d283_88 : decode (mC M283) 88 = .ok (.iload_n 3, 1) := by decide +kernel
theorem d283_89 : decode (mC M283) 89 = .ok (.invokevirtual 264, 3) := by decide +kernel
theorem d283_92 : decode (mC M283) 92 = .ok (.ireturn, 1) := by decide +kernel
theorem sc283_0 : ∀ q ∈ tc283_0, Snd xtb M283 q.1 q.2 := List.forall_mem_cons.mpr ⟨snd_aload_n d283_0 rfl, List.forall_mem_cons.mpr ⟨snd_iconst d283_1 (by decide +kernel), List.forall_mem_cons.mpr ⟨snd_putI (by decide) (by decide) rfl rfl wd1367 d283_2, List.forall_mem_cons.mpr ⟨snd_aload_n d283_5 rfl, List.forall_mem_cons.mpr ⟨snd_getI (by decide) (by decide) rfl wd1374 d283_6, List.forall_mem_cons.mpr ⟨snd_if_eq d283_9 (by decide), List.forall_mem_cons.mpr ⟨snd_aload_n d283_12 rfl, List.forall_mem_cons.mpr ⟨snd_iload_n d283_13 rfl, List.forall_mem_cons.mpr ⟨snd_callV (by decide) rfl cn278 ⟨by decide +kernel, by decide +kernel⟩ cm278 (List.forall_mem_cons.mpr ⟨wd1901, cw278⟩) d283_14, List.forall_mem_cons.mpr ⟨snd_if_ne d283_17 (by decide), List.forall_mem_cons.mpr ⟨snd_aload_n d283_20 rfl, List.forall_mem_cons.mpr ⟨snd_iconst d283_21 (by decide +kernel), List.forall_mem_cons.mpr ⟨snd_callV (by decide) rfl cn173 ⟨by decide +kernel, by decide +kernel⟩ cm173 (List.forall_mem_cons.mpr ⟨wd1693, cw173⟩) d283_22, List.forall_mem_cons.mpr ⟨snd_iret rfl d283_25, List.forall_mem_cons.mpr ⟨snd_aload_n d283_26 rfl, List.forall_mem_cons.mpr ⟨snd_iload_n d283_27 rfl, List.forall_mem_cons.mpr ⟨snd_callV (by decide) rfl cn282 ⟨by decide +kernel, by decide +kernel⟩ cm282 (List.forall_mem_cons.mpr ⟨wd1909, cw282⟩) d283_28, List.forall_mem_cons.mpr ⟨snd_if_ne d283_31 (by decide), List.forall_mem_cons.mpr ⟨snd_aload_n d283_34 rfl, List.forall_mem_cons.mpr ⟨snd_iconst d283_35 (by decide +kernel), List.forall_mem_cons.mpr ⟨snd_callV (by decide) rfl cn173 ⟨by decide +kernel, by decide +kernel⟩ cm173 (List.forall_mem_cons.mpr ⟨wd1693, cw173⟩) d283_36, List.forall_mem_cons.mpr ⟨snd_iret rfl d283_39, List.forall_mem_cons.mpr ⟨snd_iconst d283_40 (by decide +kernel), List.forall_mem_cons.mpr ⟨snd_istore_n d283_41 rfl, List.forall_mem_cons.mpr ⟨snd_iconst d283_42 (by decide +kernel), List.forall_mem_cons.mpr ⟨snd_istore d283_43, List.forall_mem_cons.mpr ⟨snd_iload d283_45, List.forall_mem_cons.mpr ⟨snd_aload_n d283_47 rfl, List.forall_mem_cons.mpr ⟨snd_getR (by decide) (by decide) rfl wd1370 d283_48, List.forall_mem_cons.mpr ⟨snd_iconst d283_51 (by decide +kernel), fun _ h => by cases h⟩⟩⟩⟩⟩⟩⟩⟩⟩⟩⟩⟩⟩⟩⟩⟩⟩⟩⟩⟩⟩⟩⟩⟩⟩⟩⟩⟩⟩⟩
theorem sc283_1 : ∀ q ∈ tc283_1, Snd xtb M283 q.1 q.2 := List.forall_mem_cons.mpr ⟨snd_iald d283_52, List.forall_mem_cons.mpr ⟨snd_cmp_ge d283_53 (by decide), List.forall_mem_cons.mpr ⟨snd_iload_n d283_56 rfl, List.forall_mem_cons.mpr ⟨snd_iload_n d283_57 rfl, List.forall_mem_cons.mpr ⟨snd_iconst d283_58 (by decide +kernel), List.forall_mem_cons.mpr ⟨snd_cmp_eq d283_59 (by decide), List.forall_mem_cons.mpr ⟨snd_iload d283_62, List.forall_mem_cons.mpr ⟨snd_iload_n d283_64 rfl, List.forall_mem_cons.mpr ⟨snd_cmp_ne d283_65 (by decide), List.forall_mem_cons.mpr ⟨snd_aload_n d283_68 rfl, List.forall_mem_cons.mpr ⟨snd_iload_n d283_69 rfl, List.forall_mem_cons.mpr ⟨snd_iload d283_70, List.forall_mem_cons.mpr ⟨snd_callV (by decide) rfl cn276 ⟨by decide +kernel, by decide +kernel⟩ cm276 (List.forall_mem_cons.mpr ⟨wd1917, cw276⟩) d283_72, List.forall_mem_cons.mpr ⟨snd_goto d283_75 (by decide), List.forall_mem_cons.mpr ⟨snd_iconst d283_78 (by decide +kernel), List.forall_mem_cons.mpr ⟨snd_iadd d283_79, List.forall_mem_cons.mpr ⟨snd_istore_n d283_80 rfl, List.forall_mem_cons.mpr ⟨snd_iinc d283_81 (by decide +kernel), List.forall_mem_cons.mpr ⟨snd_goto d283_84 (by decide), List.forall_mem_cons.mpr ⟨snd_aload_n d283_87 rfl, List.forall_mem_cons.mpr ⟨snd_iload_n d283_88 rfl, List.forall_mem_cons.mpr ⟨snd_callV (by decide) rfl cn174 ⟨by decide +kernel, by decide +kernel⟩ cm174 (List.forall_mem_cons.mpr ⟨wd1622, cw174⟩) d283_89, List.forall_mem_cons.mpr ⟨snd_iret rfl d283_92, fun _ h => by cases h⟩⟩⟩⟩⟩⟩⟩⟩⟩⟩⟩⟩⟩⟩⟩⟩⟩⟩⟩⟩⟩⟩⟩
theorem d284_0 : decode (mC M284) 0 = .ok (.aload_n 0, 1) := by decide +kernel
theorem d284_1 : decode (mC M284) 1 = .ok (.iconst 0, 1) := by decide +kernel
theorem d284_2 : decode (mC M284) 2 = .ok (.putfield 64, 3) := by decide +kernel
theorem d284_5 : decode (mC M284) 5 = .ok (.aload_n 0, 1) := by decide +kernel
theorem d284_6 : decode (mC M284) 6 = .ok (.getfield 251, 3) := by decide +kernel
theorem d284_9 : decode (mC M284) 9 = .ok (.ifCond .ne 9, 3) := by decide +kernel
theorem d284_12 : decode (mC M284) 12 = .ok (.aload_n 0, 1) := by decide +kernel
theorem d284_13 : decode (mC M284) 13 = .ok (.iconst 1, 1) := by decide +kernel
theorem d284_14 : decode (mC M284) 14 = .ok (.invokevirtual 300, 3) := by decide +kernel
theorem d284_17 : decode (mC M284) 17 = .ok (.ireturn, 1) := by decide +kernel
theorem d284_18 : decode (mC M284) 18 = .ok (.aload_n 0, 1) := by decide +kernel
theorem d284_19 : decode (mC M284) 19 = .ok (.iload_n 1, 1) := by decide +kernel
theorem d284_20 : decode (mC M284) 20 = .ok (.invokevirtual 402, 3) := by decide +kernel
theorem d284_23 : decode (mC M284) 23 = .ok (.ifCond .ne 9, 3) := by decide +kernel
theorem d284_26 : decode (mC M284) 26 = .ok (.aload_n 0, 1) := by decide +kernel
theorem d284_27 : decode (mC M284) 27 = .ok (.iconst 2, 1) := by decide +kernel
theorem d284_28 : decode (mC M284) 28 = .ok (.invokevirtual 300, 3) := by decide +kernel
theorem d284_31 : decode (mC M284) 31 = .ok (.ireturn, 1) := by decide +kernel
theorem d284_32 : decode (mC M284) 32 = .ok (.aload_n 0, 1) := by decide +kernel
theorem d284_33 : decode (mC M284) 33 = .ok (.getfield 261, 3) := by decide +kernel
theorem d284_36 : decode (mC M284) 36 = .ok (.bipush 12, 2) := by decide +kernel
theorem d284_38 : decode (mC M284) 38 = .ok (.if_icmp .ne 9, 3) := by decide +kernel
theorem d284_41 : decode (mC M284) 41 = .ok (.aload_n 0, 1) := by decide +kernel
theorem d284_42 : decode (mC M284) 42 = .ok (.iconst 3, 1) := by decide +kernel
theorem d284_43 : decode (mC M284) 43 = .ok (.invokevirtual 300, 3) := by decide +kernel
theorem d284_46 : decode (mC M284) 46 = .ok (.ireturn, 1) := by decide +kernel
theorem d284_47 : decode (mC M284) 47 = .ok (.iconst 0, 1) := by decide +kernel
theorem d284_48 : decode (mC M284) 48 = .ok (.istore_n 2, 1) := by decide +kernel
theorem d284_49 : decode (mC M284) 49 = .ok (.iconst 0, 1) := by decide +kernel
theorem d284_50 : decode (mC M284) 50 = .ok (.istore_n 3, 1) := by decide +kernel
theorem d284_51 : decode (mC M284) 51 = .ok (.iload_n 3, 1) := by decide +kernel
theorem d284_52 : decode (mC M284) 52 = .ok (.aload_n 0, 1) := by decide +kernel
theorem d284_53 : decode (mC M284) 53 = .ok (.getfield 13, 3) := by decide +kernel
theorem d284_56 : decode (mC M284) 56 = .ok (.iconst 3, 1) := by decide +kernel
theorem d284_57 : decode (mC M284) 57 = .ok (.iaload, 1) := by decide +kernel
theorem d284_58 : decode (mC M284) 58 = .ok (.if_icmp .ge 38, 3) := by decide +kernel
theorem d284_61 : decode (mC M284) 61 = .ok (.aload_n 0, 1) := by decide +kernel
theorem d284_62 : decode (mC M284) 62 = .ok (.iload_n 1, 1) := by decide +kernel
theorem d284_63 : decode (mC M284) 63 = .ok (.iload_n 3, 1) := by decide +kernel
theorem d284_64 : decode (mC M284) 64 = .ok (.invokevirtual 405, 3) := by decide +kernel
theorem d284_67 : decode (mC M284) 67 = .ok (.istore 4, 2) := by decide +kernel
theorem d284_69 : decode (mC M284) 69 = .ok (.aload_n 0, 1) := by decide +kernel
theorem d284_70 : decode (mC M284) 70 = .ok (.getfield 52, 3) := by decide +kernel
theorem d284_73 : decode (mC M284) 73 = .ok (.bipush 10, 2) := by decide +kernel
theorem d284_75 : decode (mC M284) 75 = .ok (.aload_n 0, 1) := by decide +kernel
theorem d284_76 : decode (mC M284) 76 = .ok (.getfield 261, 3) := by decide +kernel
theorem d284_79 : decode (mC M284) 79 = .ok (.imul, 1) := by decide +kernel
theorem d284_80 : decode (mC M284) 80 = .ok (.iload_n 3, 1) := by decide +kernel
theorem d284_81 : decode (mC M284) 81 = .ok (.iadd, 1) := by decide +kernel
theorem d284_82 : decode (mC M284) 82 = .ok (.iload 4, 2) := by decide +kernel
theorem d284_84 : decode (mC M284) 84 = .ok (.iastore, 1) := by decide +kernel
theorem d284_85 : decode (mC M284) 85 = .ok (.iload_n 2, 1) := by decide +kernel
theorem d284_86 : decode (mC M284) 86 = .ok (.iload 4, 2) := by decide +kernel
theorem d284_88 : decode (mC M284) 88 = .ok (.iadd, 1) := by decide +kernel
theorem d284_89 : decode (mC M284) 89 = .ok (.istore_n 2, 1) := by decide +kernel
theorem d284_90 : decode (mC M284) 90 = .ok (.iinc 3 1, 3) := by decide +kernel
theorem d284_93 : decode (mC M284) 93 = .ok (.goto (-42), 3) := by decide +kernel
theorem d284_96 : decode (mC M284) 96 = .ok (.aload_n 0, 1) := by decide +kernel
theorem d284_97 : decode (mC M284) 97 = .ok (.getfield 49, 3) := by decide +kernel
theorem d284_100 : decode (mC M284) 100 = .ok (.aload_n 0, 1) := by decide +kernel
theorem d284_101 : decode (mC M284) 101 = .ok (.getfield 261, 3) := by decide +kernel
theorem d284_104 : decode (mC M284) 104 = .ok (.iload_n 1, 1) := by decide +kernel
theorem d284_105 : decode (mC M284) 105 = .ok (.iastore, 1) := by decide +kernel
theorem d284_106 : decode (mC M284) 106 = .ok (.aload_n 0, 1) := by decide +kernel
theorem d284_107 : decode (mC M284) 107 = .ok (.dup, 1) := by decide +kernel
theorem d284_108 : decode (mC M284) 108 = .ok (.getfield 261, 3) := by decide +kernel
theorem d284_111 : decode (mC M284) 111 = .ok (.iconst 1, 1) := by decide +kernel
theorem d284_112 : decode (mC M284) 112 = .ok (.iadd, 1) := by decide +kernel
theorem d284_113 : decode (mC M284) 113 = .ok (.putfield 261, 3) := by decide +kernel
theorem d284_116 : decode (mC M284) 116 = .ok (.iconst 0, 1) := by decide +kernel
theorem d284_117 : decode (mC M284) 117 = .ok (.istore_n 3, 1) := by decide +kernel
theorem d284_118 : decode (mC M284) 118 = .ok (.iload_n 3, 1) := by decide +kernel
theorem d284_119 : decode (mC M284) 119 = .ok (.aload_n 0, 1) := by decide +kernel
theorem d284_120 : decode (mC M284) 120 = .ok (.getfield 255, 3) := by decide +kernel
theorem d284_123 : decode (mC M284) 123 = .ok (.if_icmp .ge 45, 3) := by decide +kernel
theorem d284_126 : decode (mC M284) 126 = .ok (.aload_n 0, 1) := by decide +kernel
theorem d284_127 : decode (mC M284) 127 = .ok (.iload_n 3, 1) := by decide +kernel
theorem d284_128 : decode (mC M284) 128 = .ok (.bipush 8, 2) := by decide +kernel
theorem d284_130 : decode (mC M284) 130 = .ok (.invokevirtual 363, 3) := by decide +kernel
theorem d284_133 : decode (mC M284) 133 = .ok (.ifCond .ne 29, 3) := by decide +kernel
theorem d284_136 : decode (mC M284) 136 = .ok (.aload_n 0, 1) := by decide +kernel
theorem d284_137 : decode (mC M284) 137 = .ok (.iload_n 3, 1) := by decide +kernel
theorem d284_138 : decode (mC M284) 138 = .ok (.iconst 0, 1) := by decide +kernel
theorem d284_139 : decode (mC M284) 139 = .ok (.invokevirtual 363, 3) := by decide +kernel
theorem d284_142 : decode (mC M284) 142 = .ok (.iload_n 1, 1) := by decide +kernel
theorem d284_143 : decode (mC M284) 143 = .ok (.if_icmp .gt 19, 3) := by decide +kernel
theorem d284_146 : decode (mC M284) 146 = .ok (.aload_n 0, 1) := by decide +kernel
theorem d284_147 : decode (mC M284) 147 = .ok (.getfield 37, 3) := by decide +kernel
theorem d284_150 : decode (mC M284) 150 = .ok (.bipush 25, 2) := by decide +kernel
theorem d284_152 : decode (mC M284) 152 = .ok (.iload_n 3, 1) := by decide +kernel
theorem d284_153 : decode (mC M284) 153 = .ok (.imul, 1) := by decide +kernel
theorem d284_154 : decode (mC M284) 154 = .ok (.bipush 8, 2) := by decide +kernel
theorem d284_156 : decode (mC M284) 156 = .ok (.iadd, 1) := by decide +kernel
theorem d284_157 : decode (mC M284) 157 = .ok (.aload_n 0, 1) := by decide +kernel
theorem d284_158 : decode (mC M284) 158 = .ok (.getfield 261, 3) := by decide +kernel
theorem d284_161 : decode (mC M284) 161 = .ok (.iastore, 1) := by decide +kernel
theorem d284_162 : decode (mC M284) 162 = .ok (.iinc 3 1, 3) := by decide +kernel
theorem d284_165 : decode (mC M284) 165 = .ok (.goto (-47), 3) := by decide +kernel
theorem d284_168 : decode (mC M284) 168 = .ok (.aload_n 0, 1) := by decide +kernel
theorem d284_169 : decode (mC M284) 169 = .ok (.iconst 4, 1) := by decide +kernel
theorem d284_170 : decode (mC M284) 170 = .ok (.iconst 0, 1) := by decide +kernel
theorem d284_171 : decode (mC M284) 171 = .ok (.iconst 0, 1) := by decide +kernel
theorem d284_172 : decode (mC M284) 172 = .ok (.invokevirtual 408, 3) := by decide +kernel
theorem d284_175 : decode (mC M284) 175 = .ok (.aload_n 0, 1) := by decide +kernel
theorem d284_176 : decode (mC M284) 176 = .ok (.iload_n 2, 1) := by decide +kernel
theorem d284_177 : decode (mC M284) 177 = .ok (.invokevirtual 264, 3) := by decide +kernel
theorem d284_180 : decode (mC M284) 180 = .ok (.ireturn, 1) := by decide +kernel
theorem sc284_0 : ∀ q ∈ tc284_0, Snd xtb M284 q.1 q.2 := List.forall_mem_cons.mpr ⟨snd_aload_n d284_0 rfl, List.forall_mem_cons.mpr ⟨snd_iconst d284_1 (by decide +kernel), List.forall_mem_cons.mpr ⟨snd_putI (by decide) (by decide) rfl rfl wd1367 d284_2, List.forall_mem_cons.mpr ⟨snd_aload_n d284_5 rfl, List.forall_mem_cons.mpr ⟨snd_getI (by decide) (by decide) rfl wd1374 d284_6, List.forall_mem_cons.mpr ⟨snd_if_ne d284_9 (by decide), List.forall_mem_cons.mpr ⟨snd_aload_n d284_12 rfl, List.forall_mem_cons.mpr ⟨snd_iconst d284_13 (by decide +kernel), List.forall_mem_cons.mpr ⟨snd_callV (by decide) rfl cn173 ⟨by decide +kernel, by decide +kernel⟩ cm173 (List.forall_mem_cons.mpr ⟨wd1693, cw173⟩) d284_14, List.forall_mem_cons.mpr ⟨snd_iret rfl d284_17, List.forall_mem_cons.mpr ⟨snd_aload_n d284_18 rfl, List.forall_mem_cons.mpr ⟨snd_iload_n d284_19 rfl, List.forall_mem_cons.mpr ⟨snd_callV (by decide) rfl cn282 ⟨by decide +kernel, by decide +kernel⟩ cm282 (List.forall_mem_cons.mpr ⟨wd1909, cw282⟩) d284_20, List.forall_mem_cons.mpr ⟨snd_if_ne d284_23 (by decide), List.forall_mem_cons.mpr ⟨snd_aload_n d284_26 rfl, List.forall_mem_cons.mpr ⟨snd_iconst d284_27 (by decide +kernel), List.forall_mem_cons.mpr ⟨snd_callV (by decide) rfl cn173 ⟨by decide +kernel, by decide +kernel⟩ cm173 (List.forall_mem_cons.mpr ⟨wd1693, cw173⟩) d284_28, List.forall_mem_cons.mpr ⟨snd_iret rfl d284_31, List.forall_mem_cons.mpr ⟨snd_aload_n d284_32 rfl, List.forall_mem_cons.mpr ⟨snd_getI (by decide) (by decide) rfl wd1394 d284_33, List.forall_mem_cons.mpr ⟨snd_bipush d284_36 (by decide +kernel), List.forall_mem_cons.mpr ⟨snd_cmp_ne d284_38 (by decide), List.forall_mem_cons.mpr ⟨snd_aload_n d284_41 rfl, List.forall_mem_cons.mpr ⟨snd_iconst d284_42 (by decide +kernel), List.forall_mem_cons.mpr ⟨snd_callV (by decide) rfl cn173 ⟨by decide +kernel, by decide +kernel⟩ cm173 (List.forall_mem_cons.mpr ⟨wd1693, cw173⟩) d284_43, List.forall_mem_cons.mpr ⟨snd_iret rfl d284_46, List.forall_mem_cons.mpr ⟨snd_iconst d284_47 (by decide +kernel), List.forall_mem_cons.mpr ⟨snd_istore_n d284_48 rfl, List.forall_mem_cons.mpr ⟨snd_iconst d284_49 (by decide +kernel), List.forall_mem_cons.mpr ⟨snd_istore_n d284_50 rfl, fun _ h => by cases h⟩⟩⟩⟩⟩⟩⟩⟩⟩⟩⟩⟩⟩⟩⟩⟩⟩⟩⟩⟩⟩⟩⟩⟩⟩⟩⟩⟩⟩⟩
theorem sc284_1 : ∀ q ∈ tc284_1, Snd xtb M284 q.1 q.2 := List.forall_mem_cons.mpr ⟨snd_iload_n d284_51 rfl, List.forall_mem_cons.mpr ⟨snd_aload_n d284_52 rfl, List.forall_mem_cons.mpr ⟨snd_getR (by decide) (by decide) rfl wd1370 d284_53, List.forall_mem_cons.mpr ⟨snd_iconst d284_56 (by decide +kernel), List.forall_mem_cons.mpr ⟨snd_iald d284_57, List.forall_mem_cons.mpr ⟨snd_cmp_ge d284_58 (by decide), List.forall_mem_cons.mpr ⟨snd_aload_n d284_61 rfl, List.forall_mem_cons.mpr ⟨snd_iload_n d284_62 rfl, List.forall_mem_cons.mpr ⟨snd_iload_n d284_63 rfl, List.forall_mem_cons.mpr ⟨snd_callV (by decide) rfl cn276 ⟨by decide +kernel, by decide +kernel⟩ cm276 (List.forall_mem_cons.mpr ⟨wd1917, cw276⟩) d284_64, List.forall_mem_cons.mpr ⟨snd_istore d284_67, List.forall_mem_cons.mpr ⟨snd_aload_n d284_69 rfl, List.forall_mem_cons.mpr ⟨snd_getR (by decide) (by decide) rfl wd1393 d284_70, List.forall_mem_cons.mpr ⟨snd_bipush d284_73 (by decide +kernel), List.forall_mem_cons.mpr ⟨snd_aload_n d284_75 rfl, List.forall_mem_cons.mpr ⟨snd_getI (by decide) (by decide) rfl wd1394 d284_76, List.forall_mem_cons.mpr ⟨snd_imul d284_79, List.forall_mem_cons.mpr ⟨snd_iload_n d284_80 rfl, List.forall_mem_cons.mpr ⟨snd_iadd d284_81, List.forall_mem_cons.mpr ⟨snd_iload d284_82, List.forall_mem_cons.mpr ⟨snd_iast d284_84, List.forall_mem_cons.mpr ⟨snd_iload_n d284_85 rfl, List.forall_mem_cons.mpr ⟨snd_iload d284_86, List.forall_mem_cons.mpr ⟨snd_iadd d284_88, List.forall_mem_cons.mpr ⟨snd_istore_n d284_89 rfl, List.forall_mem_cons.mpr ⟨snd_iinc d284_90 (by decide +kernel), List.forall_mem_cons.mpr ⟨snd_goto d284_93 (by decide), List.forall_mem_cons.mpr ⟨snd_aload_n d284_96 rfl, List.forall_mem_cons.mpr ⟨snd_getR (by decide) (by decide) rfl wd1392 d284_97, List.forall_mem_cons.mpr ⟨snd_aload_n d284_100 rfl, fun _ h => by cases h⟩⟩⟩⟩⟩⟩⟩⟩⟩⟩⟩⟩⟩⟩⟩⟩⟩⟩⟩⟩⟩⟩⟩⟩⟩⟩⟩⟩⟩⟩
theorem sc284_2 : ∀ q ∈ tc284_2, Snd xtb M284 q.1 q.2 := List.forall_mem_cons.mpr ⟨snd_getI (by decide) (by decide) rfl wd1394 d284_101, List.forall_mem_cons.mpr ⟨snd_iload_n d284_104 rfl, List.forall_mem_cons.mpr ⟨snd_iast d284_105, List.forall_mem_cons.mpr ⟨snd_aload_n d284_106 rfl, List.forall_mem_cons.mpr ⟨snd_dup d284_107, List.forall_mem_cons.mpr ⟨snd_getI (by decide) (by decide) rfl wd1394 d284_108, List.forall_mem_cons.mpr ⟨snd_iconst d284_111 (by decide +kernel), List.forall_mem_cons.mpr ⟨snd_iadd d284_112, List.forall_mem_cons.mpr ⟨snd_putI (by decide) (by decide) rfl rfl wd1394 d284_113, List.forall_mem_cons.mpr ⟨snd_iconst d284_116 (by decide +kernel), List.forall_mem_cons.mpr ⟨snd_istore_n d284_117 rfl, List.forall_mem_cons.mpr ⟨snd_iload_n d284_118 rfl, List.forall_mem_cons.mpr ⟨snd_aload_n d284_119 rfl, List.forall_mem_cons.mpr ⟨snd_getI (by decide) (by decide) rfl wd1387 d284_120, List.forall_mem_cons.mpr ⟨snd_cmp_ge d284_123 (by decide), List.forall_mem_cons.mpr ⟨snd_aload_n d284_126 rfl, List.forall_mem_cons.mpr ⟨snd_iload_n d284_127 rfl, List.forall_mem_cons.mpr ⟨snd_bipush d284_128 (by decide +kernel), List.forall_mem_cons.mpr ⟨snd_callV (by decide) rfl cn262 ⟨by decide +kernel, by decide +kernel⟩ cm262 (List.forall_mem_cons.mpr ⟨wd1845, cw262⟩) d284_130, List.forall_mem_cons.mpr ⟨snd_if_ne d284_133 (by decide), List.forall_mem_cons.mpr ⟨snd_aload_n d284_136 rfl, List.forall_mem_cons.mpr ⟨snd_iload_n d284_137 rfl, List.forall_mem_cons.mpr ⟨snd_iconst d284_138 (by decide +kernel), List.forall_mem_cons.mpr ⟨snd_callV (by decide) rfl cn262 ⟨by decide +kernel, by decide +kernel⟩ cm262 (List.forall_mem_cons.mpr ⟨wd1845, cw262⟩) d284_139, List.forall_mem_cons.mpr ⟨snd_iload_n d284_142 rfl, List.forall_mem_cons.mpr ⟨snd_cmp_gt d284_143 (by decide), List.forall_mem_cons.mpr ⟨snd_aload_n d284_146 rfl, List.forall_mem_cons.mpr ⟨snd_getR (by decide) (by decide) rfl wd1386 d284_147, List.forall_mem_cons.mpr ⟨snd_bipush d284_150 (by decide +kernel), List.forall_mem_cons.mpr ⟨snd_iload_n d284_152 rfl, fun _ h => by cases h⟩⟩⟩⟩⟩⟩⟩⟩⟩⟩⟩⟩⟩⟩⟩⟩⟩⟩⟩⟩⟩⟩⟩⟩⟩⟩⟩⟩⟩⟩
theorem sc284_3 : ∀ q ∈ tc284_3, Snd xtb M284 q.1 q.2 := List.forall_mem_cons.mpr ⟨snd_imul d284_153, List.forall_mem_cons.mpr ⟨snd_bipush d284_154 (by decide +kernel), List.forall_mem_cons.mpr ⟨snd_iadd d284_156, List.forall_mem_cons.mpr ⟨snd_aload_n d284_157 rfl, List.forall_mem_cons.mpr ⟨snd_getI (by decide) (by decide) rfl wd1394 d284_158, List.forall_mem_cons.mpr ⟨snd_iast d284_161, List.forall_mem_cons.mpr ⟨snd_iinc d284_162 (by decide +kernel), List.forall_mem_cons.mpr ⟨snd_goto d284_165 (by decide), List.forall_mem_cons.mpr ⟨snd_aload_n d284_168 rfl, List.forall_mem_cons.mpr ⟨snd_iconst d284_169 (by decide +kernel), List.forall_mem_cons.mpr ⟨snd_iconst d284_170 (by decide +kernel), List.forall_mem_cons.mpr ⟨snd_iconst d284_171 (by decide +kernel), List.forall_mem_cons.mpr ⟨snd_callV (by decide) rfl cn289 ⟨by decide +kernel, by decide +kernel⟩ cm289 (List.forall_mem_cons.mpr ⟨wd1929, cw289⟩) d284_172, List.forall_mem_cons.mpr ⟨snd_aload_n d284_175 rfl, List.forall_mem_cons.mpr ⟨snd_iload_n d284_176 rfl, List.forall_mem_cons.mpr ⟨snd_callV (by decide) rfl cn174 ⟨by decide +kernel, by decide +kernel⟩ cm174 (List.forall_mem_cons.mpr ⟨wd1622, cw174⟩) d284_177, List.forall_mem_cons.mpr ⟨snd_iret rfl d284_180, fun _ h => by cases h⟩⟩⟩⟩⟩⟩⟩⟩⟩⟩⟩⟩⟩⟩⟩⟩⟩
theorem d285_0 : decode (mC M285) 0 = .ok (.iconst 0, 1) := by decide +kernel
theorem d285_1 : decode (mC M285) 1 = .ok (.istore_n 1, 1) := by decide +kernel
theorem d285_2 : decode (mC M285) 2 = .ok (.iload_n 1, 1) := by decide +kernel
theorem d285_3 : decode (mC M285) 3 = .ok (.aload_n 0, 1) := by decide +kernel
theorem d285_4 : decode (mC M285) 4 = .ok (.getfield 255, 3) := by decide +kernel
theorem d285_7 : decode (mC M285) 7 = .ok (.if_icmp .ge 36, 3) := by decide +kernel
theorem d285_10 : decode (mC M285) 10 = .ok (.aload_n 0, 1) := by decide +kernel
theorem d285_11 : decode (mC M285) 11 = .ok (.iload_n 1, 1) := by decide +kernel
theorem d285_12 : decode (mC M285) 12 = .ok (.bipush 8, 2) := by decide +kernel
theorem d285_14 : decode (mC M285) 14 = .ok (.invokevirtual 363, 3) := by decide +kernel
theorem d285_17 : decode (mC M285) 17 = .ok (.aload_n 0, 1) := by decide +kernel
theorem d285_18 : decode (mC M285) 18 = .ok (.getfield 261, 3) := by decide +kernel
theorem d285_21 : decode (mC M285) 21 = .ok (.if_icmp .ne 16, 3) := by decide +kernel
theorem d285_24 : decode (mC M285) 24 = .ok (.aload_n 0, 1) := by decide +kernel
theorem d285_25 : decode (mC M285) 25 = .ok (.getfield 37, 3) := by decide +kernel
theorem d285_28 : decode (mC M285) 28 = .ok (.bipush 25, 2) := by decide +kernel
theorem d285_30 : decode (mC M285) 30 = .ok (.iload_n 1, 1) := by decide +kernel
theorem d285_31 : decode (mC M285) 31 = .ok (.imul, 1) := by decide +kernel
theorem d285_32 : decode (mC M285) 32 = .ok (.bipush 8, 2) := by decide +kernel
theorem d285_34 : decode (mC M285) 34 = .ok (.iadd, 1) := by decide +kernel
theorem d285_35 : decode (mC M285) 35 = .ok (.iconst 0, 1) := by decide +kernel
theorem d285_36 : decode (mC M285) 36 = .ok (.iastore, 1) := by decide +kernel
theorem d285_37 : decode (mC M285) 37 = .ok (.iinc 1 1, 3) := by decide +kernel
theorem d285_40 : decode (mC M285) 40 = .ok (.goto (-38), 3) := by decide +kernel
theorem d285_43 : decode (mC M285) 43 = .ok (.aload_n 0, 1) := by decide +kernel
theorem d285_44 : decode (mC M285) 44 = .ok (.dup, 1) := by decide +kernel
theorem d285_45 : decode (mC M285) 45 = .ok (.getfield 261, 3) := by decide +kernel
theorem d285_48 : decode (mC M285) 48 = .ok (.iconst 1, 1) := by decide +kernel
theorem d285_49 : decode (mC M285) 49 = .ok (.isub, 1) := by decide +kernel
theorem d285_50 : decode (mC M285) 50 = .ok (.putfield 261, 3) := by decide +kernel
theorem d285_53 : decode (mC M285) 53 = .ok (.return_, 1) := by decide +kernel
theorem sc285_0 : ∀ q ∈ tc285_0, Snd xtb M285 q.1 q.2 := List.forall_mem_cons.mpr ⟨snd_iconst d285_0 (by decide +kernel), List.forall_mem_cons.mpr ⟨snd_istore_n d285_1 rfl, List.forall_mem_cons.mpr ⟨snd_iload_n d285_2 rfl, List.forall_mem_cons.mpr ⟨snd_aload_n d285_3 rfl, List.forall_mem_cons.mpr ⟨snd_getI (by decide) (by decide) rfl wd1387 d285_4, List.forall_mem_cons.mpr ⟨snd_cmp_ge d285_7 (by decide), List.forall_mem_cons.mpr ⟨snd_aload_n d285_10 rfl, List.forall_mem_cons.mpr ⟨snd_iload_n d285_11 rfl, List.forall_mem_cons.mpr ⟨snd_bipush d285_12 (by decide +kernel), List.forall_mem_cons.mpr ⟨snd_callV (by decide) rfl cn262 ⟨by decide +kernel, by decide +kernel⟩ cm262 (List.forall_mem_cons.mpr ⟨wd1845, cw262⟩) d285_14, List.forall_mem_cons.mpr ⟨snd_aload_n d285_17 rfl, List.forall_mem_cons.mpr ⟨snd_getI (by decide) (by decide) rfl wd1394 d285_18, List.forall_mem_cons.mpr ⟨snd_cmp_ne d285_21 (by decide), List.forall_mem_cons.mpr ⟨snd_aload_n d285_24 rfl, List.forall_mem_cons.mpr ⟨snd_getR (by decide) (by decide) rfl wd1386 d285_25, List.forall_mem_cons.mpr ⟨snd_bipush d285_28 (by decide +kernel), List.forall_mem_cons.mpr ⟨snd_iload_n d285_30 rfl, List.forall_mem_cons.mpr ⟨snd_imul d285_31, List.forall_mem_cons.mpr ⟨snd_bipush d285_32 (by decide +kernel), List.forall_mem_cons.mpr ⟨snd_iadd d285_34, List.forall_mem_cons.mpr ⟨snd_iconst d285_35 (by decide +kernel), List.forall_mem_cons.mpr ⟨snd_iast d285_36, List.forall_mem_cons.mpr ⟨snd_iinc d285_37 (by decide +kernel), List.forall_mem_cons.mpr ⟨snd_goto d285_40 (by decide), List.forall_mem_cons.mpr ⟨snd_aload_n d285_43 rfl, List.forall_mem_cons.mpr ⟨snd_dup d285_44, List.forall_mem_cons.mpr ⟨snd_getI (by decide) (by decide) rfl wd1394 d285_45, List.forall_mem_cons.mpr ⟨snd_iconst d285_48 (by decide +kernel), List.forall_mem_cons.mpr ⟨snd_isub d285_49, List.forall_mem_cons.mpr ⟨snd_putI (by decide) (by decide) rfl rfl wd1394 d285_50, fun _ h => by cases h⟩⟩⟩⟩⟩⟩⟩⟩⟩⟩⟩⟩⟩⟩⟩⟩⟩⟩⟩⟩⟩⟩⟩⟩⟩⟩⟩⟩⟩⟩
theorem sc285_1 : ∀ q ∈ tc285_1, Snd xtb M285 q.1 q.2 := List.forall_mem_cons.mpr ⟨snd_vret rfl d285_53, fun _ h => by cases h⟩
theorem d286_0 : decode (mC M286) 0 = .ok (.aload_n 0, 1) := by decide +kernel
theorem d286_1 : decode (mC M286) 1 = .ok (.aload_n 0, 1) := by decide +kernel
theorem d286_2 : decode (mC M286) 2 = .ok (.iload_n 1, 1) := by decide +kernel
theorem d286_3 : decode (mC M286) 3 = .ok (.iconst 0, 1) := by decide +kernel
theorem d286_4 : decode (mC M286) 4 = .ok (.invokevirtual 363, 3) := by decide +kernel
theorem d286_7 : decode (mC M286) 7 = .ok (.aload_n 0, 1) := by decide +kernel
theorem d286_8 : decode (mC M286) 8 = .ok (.iload_n 1, 1) := by decide +kernel
theorem d286_9 : decode (mC M286) 9 = .ok (.iconst 1, 1) := by decide +kernel
theorem d286_10 : decode (mC M286) 10 = .ok (.invokevirtual 363, 3) := by decide +kernel
theorem d286_13 : decode (mC M286) 13 = .ok (.aload_n 0, 1) := by decide +kernel
theorem d286_14 : decode (mC M286) 14 = .ok (.iload_n 1, 1) := by decide +kernel
theorem d286_15 : decode (mC M286) 15 = .ok (.iconst 2, 1) := by decide +kernel
theorem d286_16 : decode (mC M286) 16 = .ok (.invokevirtual 363, 3) := by decide +kernel
theorem d286_19 : decode (mC M286) 19 = .ok (.aload_n 0, 1) := by decide +kernel
theorem d286_20 : decode (mC M286) 20 = .ok (.iload_n 1, 1) := by decide +kernel
theorem d286_21 : decode (mC M286) 21 = .ok (.iconst 3, 1) := by decide +kernel
theorem d286_22 : decode (mC M286) 22 = .ok (.invokevirtual 363, 3) := by decide +kernel
theorem d286_25 : decode (mC M286) 25 = .ok (.aload_n 0, 1) := by decide +kernel
theorem d286_26 : decode (mC M286) 26 = .ok (.iload_n 1, 1) := by decide +kernel
theorem d286_27 : decode (mC M286) 27 = .ok (.bipush 6, 2) := by decide +kernel
theorem d286_29 : decode (mC M286) 29 = .ok (.invokevirtual 363, 3) := by decide +kernel
theorem d286_32 : decode (mC M286) 32 = .ok (.aload_n 0, 1) := by decide +kernel
theorem d286_33 : decode (mC M286) 33 = .ok (.iload_n 1, 1) := by decide +kernel
theorem d286_34 : decode (mC M286) 34 = .ok (.iconst 5, 1) := by decide +kernel
theorem d286_35 : decode (mC M286) 35 = .ok (.invokevirtual 363, 3) := by decide +kernel
theorem d286_38 : decode (mC M286) 38 = .ok (.invokevirtual 360, 3) := by decide +kernel
theorem d286_41 : decode (mC M286) 41 = .ok (.ireturn, 1) := by decide +kernel
theorem sc286_0 : ∀ q ∈ tc286_0, Snd xtb M286 q.1 q.2 := List.forall_mem_cons.mpr ⟨snd_aload_n d286_0 rfl, List.forall_mem_cons.mpr ⟨snd_aload_n d286_1 rfl, List.forall_mem_cons.mpr ⟨snd_iload_n d286_2 rfl, List.forall_mem_cons.mpr ⟨snd_iconst d286_3 (by decide +kernel), List.forall_mem_cons.mpr ⟨snd_callV (by decide) rfl cn262 ⟨by decide +kernel, by decide +kernel⟩ cm262 (List.forall_mem_cons.mpr ⟨wd1845, cw262⟩) d286_4, List.forall_mem_cons.mpr ⟨snd_aload_n d286_7 rfl, List.forall_mem_cons.mpr ⟨snd_iload_n d286_8 rfl, List.forall_mem_cons.mpr ⟨snd_iconst d286_9 (by decide +kernel), List.forall_mem_cons.mpr ⟨snd_callV (by decide) rfl cn262 ⟨by decide +kernel, by decide +kernel⟩ cm262 (List.forall_mem_cons.mpr ⟨wd1845, cw262⟩) d286_10, List.forall_mem_cons.mpr ⟨snd_aload_n d286_13 rfl, List.forall_mem_cons.mpr ⟨snd_iload_n d286_14 rfl, List.forall_mem_cons.mpr ⟨snd_iconst d286_15 (by decide +kernel), List.forall_mem_cons.mpr ⟨snd_callV (by decide) rfl cn262 ⟨by decide +kernel, by decide +kernel⟩ cm262 (List.forall_mem_cons.mpr ⟨wd1845, cw262⟩) d286_16, List.forall_mem_cons.mpr ⟨snd_aload_n d286_19 rfl, List.forall_mem_cons.mpr ⟨snd_iload_n d286_20 rfl, List.forall_mem_cons.mpr ⟨snd_iconst d286_21 (by decide +kernel), List.forall_mem_cons.mpr ⟨snd_callV (by decide) rfl cn262 ⟨by decide +kernel, by decide +kernel⟩ cm262 (List.forall_mem_cons.mpr ⟨wd1845, cw262⟩) d286_22, List.forall_mem_cons.mpr ⟨snd_aload_n d286_25 rfl, List.forall_mem_cons.mpr ⟨snd_iload_n d286_26 rfl, List.forall_mem_cons.mpr ⟨snd_bipush d286_27 (by decide +kernel), List.forall_mem_cons.mpr ⟨snd_callV (by decide) rfl cn262 ⟨by decide +kernel, by decide +kernel⟩ cm262 (List.forall_mem_cons.mpr ⟨wd1845, cw262⟩) d286_29, List.forall_mem_cons.mpr ⟨snd_aload_n d286_32 rfl, List.forall_mem_cons.mpr ⟨snd_iload_n d286_33 rfl, List.forall_mem_cons.mpr ⟨snd_iconst d286_34 (by decide +kernel), List.forall_mem_cons.mpr ⟨snd_callV (by decide) rfl cn262 ⟨by decide +kernel, by decide +kernel⟩ cm262 (List.forall_mem_cons.mpr ⟨wd1845, cw262⟩) d286_35, List.forall_mem_cons.mpr ⟨snd_callV (by decide) rfl cn257 ⟨by decide +kernel, by decide +kernel⟩ cm257 (List.forall_mem_cons.mpr ⟨wd1817, cw257⟩) d286_38, List.forall_mem_cons.mpr ⟨snd_iret rfl d286_41, fun _ h => by cases h⟩⟩⟩⟩⟩⟩⟩⟩⟩⟩⟩⟩⟩⟩⟩⟩⟩⟩⟩⟩⟩⟩⟩⟩⟩⟩⟩
theorem d287_0 : decode (mC M287) 0 = .ok (.aload_n 0, 1) := by decide +kernel
theorem d287_1 : decode (mC M287) 1 = .ok (.iconst 0, 1) := by decide +kernel
theorem d287_2 : decode (mC M287) 2 = .ok (.putfield 64, 3) := by decide +kernel
theorem d287_5 : decode (mC M287) 5 = .ok (.aload_n 0, 1) := by decide +kernel
theorem d287_6 : decode (mC M287) 6 = .ok (.getfield 251, 3) := by decide +kernel
theorem d287_9 : decode (mC M287) 9 = .ok (.ifCond .ne 9, 3) := by decide +kernel
theorem d287_12 : decode (mC M287) 12 = .ok (.aload_n 0, 1) := by decide +kernel
theorem d287_13 : decode (mC M287) 13 = .ok (.iconst 1, 1) := by decide +kernel
theorem d287_14 : decode (mC M287) 14 = .ok (.invokevirtual 70, 3) := by decide +kernel
theorem d287_17 : decode (mC M287) 17 = .ok (.ireturn, 1) := by decide +kernel
theorem d287_18 : decode (mC M287) 18 = .ok (.iconst 0, 1) := by decide +kernel
theorem d287_19 : decode (mC M287) 19 = .ok (.istore_n 1, 1) := by decide +kernel
theorem d287_20 : decode (mC M287) 20 = .ok (.iconst 0, 1) := by decide +kernel
theorem d287_21 : decode (mC M287) 21 = .ok (.istore_n 2, 1) := by decide +kernel
theorem d287_22 : decode (mC M287) 22 = .ok (.iload_n 2, 1) := by decide +kernel
theorem d287_23 : decode (mC M287) 23 = .ok (.aload_n 0, 1) := by decide +kernel
theorem d287_24 : decode (mC M287) 24 = .ok (.getfield 255, 3) := by decide +kernel
theorem d287_27 : decode (mC M287) 27 = .ok (.if_icmp .ge 30, 3) := by decide +kernel
theorem d287_30 : decode (mC M287) 30 = .ok (.iload_n 1, 1) := by decide +kernel
theorem d287_31 : decode (mC M287) 31 = .ok (.aload_n 0, 1) := by decide +kernel
theorem d287_32 : decode (mC M287) 32 = .ok (.iload_n 2, 1) := by decide +kernel
theorem d287_33 : decode (mC M287) 33 = .ok (.invokevirtual 412, 3) := by decide +kernel
theorem d287_36 : decode (mC M287) 36 = .ok (.aload_n 0, 1) := by decide +kernel
theorem d287_37 : decode (mC M287) 37 = .ok (.iload_n 2, 1) := by decide +kernel
theorem d287_38 : decode (mC M287) 38 = .ok (.invokevirtual 378, 3) := by decide +kernel
theorem d287_41 : decode (mC M287) 41 = .ok (.if_icmp .ne 7, 3) := by decide +kernel
theorem d287_44 : decode (mC M287) 44 = .ok (.iconst 0, 1) := by decide +kernel
theorem d287_45 : decode (mC M287) 45 = .ok (.goto 4, 3) := by decide +kernel
theorem d287_48 : decode (mC M287) 48 = .ok (.iconst 1, 1) := by decide +kernel
theorem d287_49 : decode (mC M287) 49 = .ok (.iadd, 1) := by decide +kernel
theorem d287_50 : decode (mC M287) 50 = .ok (.istore_n 1, 1) := by decide +kernel
theorem d287_51 : decode (mC M287) 51 = .ok (.iinc 2 1, 3) := by decide +kernel
theorem d287_54 : decode (mC M287) 54 = .ok (.goto (-32), 3) := by decide +kernel
theorem d287_57 : decode (mC M287) 57 = .ok (.aload_n 0, 1) := by decide +kernel
theorem d287_58 : decode (mC M287) 58 = .ok (.iload_n 1, 1) := by decide +kernel
theorem d287_59 : decode (mC M287) 59 = .ok (.invokevirtual 264, 3) := by decide +kernel
theorem d287_62 : decode (mC M287) 62 = .ok (.ireturn, 1) := by decide +kernel
theorem sc287_0 : ∀ q ∈ tc287_0, Snd xtb M287 q.1 q.2 := List.forall_mem_cons.mpr ⟨snd_aload_n d287_0 rfl, List.forall_mem_cons.mpr ⟨snd_iconst d287_1 (by decide +kernel), List.forall_mem_cons.mpr ⟨snd_putI (by decide) (by decide) rfl rfl wd1367 d287_2, List.forall_mem_cons.mpr ⟨snd_aload_n d287_5 rfl, List.forall_mem_cons.mpr ⟨snd_getI (by decide) (by decide) rfl wd1374 d287_6, List.forall_mem_cons.mpr ⟨snd_if_ne d287_9 (by decide), List.forall_mem_cons.mpr ⟨snd_aload_n d287_12 rfl, List.forall_mem_cons.mpr ⟨snd_iconst d287_13 (by decide +kernel), List.forall_mem_cons.mpr ⟨snd_callV (by decide) rfl cn172 ⟨by decide +kernel, by decide +kernel⟩ cm172 (List.forall_mem_cons.mpr ⟨wd1476, cw172⟩) d287_14, List.forall_mem_cons.mpr ⟨snd_iret rfl d287_17, List.forall_mem_cons.mpr ⟨snd_iconst d287_18 (by decide +kernel), List.forall_mem_cons.mpr ⟨snd_istore_n d287_19 rfl, List.forall_mem_cons.mpr ⟨snd_iconst d287_20 (by decide +kernel), List.forall_mem_cons.mpr ⟨snd_istore_n d287_21 rfl, List.forall_mem_cons.mpr ⟨snd_iload_n d287_22 rfl, List.forall_mem_cons.mpr ⟨snd_aload_n d287_23 rfl, List.forall_mem_cons.mpr ⟨snd_getI (by decide) (by decide) rfl wd1387 d287_24, List.forall_mem_cons.mpr ⟨snd_cmp_ge d287_27 (by decide), List.forall_mem_cons.mpr ⟨snd_iload_n d287_30 rfl, List.forall_mem_cons.mpr ⟨snd_aload_n d287_31 rfl, List.forall_mem_cons.mpr ⟨snd_iload_n d287_32 rfl, List.forall_mem_cons.mpr ⟨snd_callV (by decide) rfl cn286 ⟨by decide +kernel, by decide +kernel⟩ cm286 (List.forall_mem_cons.mpr ⟨wd1937, cw286⟩) d287_33, List.forall_mem_cons.mpr ⟨snd_aload_n d287_36 rfl, List.forall_mem_cons.mpr ⟨snd_iload_n d287_37 rfl, List.forall_mem_cons.mpr ⟨snd_callV (by decide) rfl cn266 ⟨by decide +kernel, by decide +kernel⟩ cm266 (List.forall_mem_cons.mpr ⟨wd1841, cw266⟩) d287_38, List.forall_mem_cons.mpr ⟨snd_cmp_ne d287_41 (by decide), List.forall_mem_cons.mpr ⟨snd_iconst d287_44 (by decide +kernel), List.forall_mem_cons.mpr ⟨snd_goto d287_45 (by decide), List.forall_mem_cons.mpr ⟨snd_iconst d287_48 (by decide +kernel), List.forall_mem_cons.mpr ⟨snd_iadd d287_49, fun _ h => by cases h⟩⟩⟩⟩⟩⟩⟩⟩⟩⟩⟩⟩⟩⟩⟩⟩⟩⟩⟩⟩⟩⟩⟩⟩⟩⟩⟩⟩⟩⟩
theorem sc287_1 : ∀ q ∈ tc287_1, Snd xtb M287 q.1 q.2 := List.forall_mem_cons.mpr ⟨snd_istore_n d287_50 rfl, List.forall_mem_cons.mpr ⟨snd_iinc d287_51 (by decide +kernel), List.forall_mem_cons.mpr ⟨snd_goto d287_54 (by decide), List.forall_mem_cons.mpr ⟨snd_aload_n d287_57 rfl, List.forall_mem_cons.mpr ⟨snd_iload_n d287_58 rfl, List.forall_mem_cons.mpr ⟨snd_callV (by decide) rfl cn174 ⟨by decide +kernel, by decide +kernel⟩ cm174 (List.forall_mem_cons.mpr ⟨wd1622, cw174⟩) d287_59, List.forall_mem_cons.mpr ⟨snd_iret rfl d287_62, fun _ h => by cases h⟩⟩⟩⟩⟩⟩⟩
theorem d288_0 : decode (mC M288) 0 = .ok (.aload_n 0, 1) := by decide +kernel
theorem d288_1 : decode (mC M288) 1 = .ok (.iconst 0, 1) := by decide +kernel
theorem d288_2 : decode (mC M288) 2 = .ok (.putfield 64, 3) := by decide +kernel
theorem d288_5 : decode (mC M288) 5 = .ok (.aload_n 0, 1) := by decide +kernel
theorem d288_6 : decode (mC M288) 6 = .ok (.iload_n 1, 1) := by decide +kernel
theorem d288_7 : decode (mC M288) 7 = .ok (.invokevirtual 375, 3) := by decide +kernel
theorem d288_10 : decode (mC M288) 10 = .ok (.ifCond .eq 21, 3) := by decide +kernel
theorem d288_13 : decode (mC M288) 13 = .ok (.aload_n 0, 1) := by decide +kernel
theorem d288_14 : decode (mC M288) 14 = .ok (.aload_n 0, 1) := by decide +kernel
theorem d288_15 : decode (mC M288) 15 = .ok (.iload_n 1, 1) := by decide +kernel
theorem d288_16 : decode (mC M288) 16 = .ok (.invokevirtual 412, 3) := by decide +kernel
theorem d288_19 : decode (mC M288) 19 = .ok (.aload_n 0, 1) := by decide +kernel
theorem d288_20 : decode (mC M288) 20 = .ok (.iload_n 1, 1) := by decide +kernel
theorem d288_21 : decode (mC M288) 21 = .ok (.invokevirtual 378, 3) := by decide +kernel
theorem d288_24 : decode (mC M288) 24 = .ok (.isub, 1) := by decide +kernel
theorem d288_25 : decode (mC M288) 25 = .ok (.invokevirtual 264, 3) := by decide +kernel
theorem d288_28 : decode (mC M288) 28 = .ok (.goto 8, 3) := by decide +kernel
theorem d288_31 : decode (mC M288) 31 = .ok (.aload_n 0, 1) := by decide +kernel
theorem d288_32 : decode (mC M288) 32 = .ok (.iconst 1, 1) := by decide +kernel
theorem d288_33 : decode (mC M288) 33 = .ok (.invokevirtual 300, 3) := by decide +kernel
theorem d288_36 : decode (mC M288) 36 = .ok (.ireturn, 1) := by decide +kernel
theorem sc288_0 : ∀ q ∈ tc288_0, Snd xtb M288 q.1 q.2 := List.forall_mem_cons.mpr ⟨snd_aload_n d288_0 rfl, List.forall_mem_cons.mpr ⟨snd_iconst d288_1 (by decide +kernel), List.forall_mem_cons.mpr ⟨snd_putI (by decide) (by decide) rfl rfl wd1367 d288_2, List.forall_mem_cons.mpr ⟨snd_aload_n d288_5 rfl, List.forall_mem_cons.mpr ⟨snd_iload_n d288_6 rfl, List.forall_mem_cons.mpr ⟨snd_callV (by decide) rfl cn261 ⟨by decide +kernel, by decide +kernel⟩ cm261 (List.forall_mem_cons.mpr ⟨wd1837, cw261⟩) d288_7, List.forall_mem_cons.mpr ⟨snd_if_eq d288_10 (by decide), List.forall_mem_cons.mpr ⟨snd_aload_n d288_13 rfl, List.forall_mem_cons.mpr ⟨snd_aload_n d288_14 rfl, List.forall_mem_cons.mpr ⟨snd_iload_n d288_15 rfl, List.forall_mem_cons.mpr ⟨snd_callV (by decide) rfl cn286 ⟨by decide +kernel, by decide +kernel⟩ cm286 (List.forall_mem_cons.mpr ⟨wd1937, cw286⟩) d288_16, List.forall_mem_cons.mpr ⟨snd_aload_n d288_19 rfl, List.forall_mem_cons.mpr ⟨snd_iload_n d288_20 rfl, List.forall_mem_cons.mpr ⟨snd_callV (by decide) rfl cn266 ⟨by decide +kernel, by decide +kernel⟩ cm266 (List.forall_mem_cons.mpr ⟨wd1841, cw266⟩) d288_21, List.forall_mem_cons.mpr ⟨snd_isub d288_24, List.forall_mem_cons.mpr ⟨snd_callV (by decide) rfl cn174 ⟨by decide +kernel, by decide +kernel⟩ cm174 (List.forall_mem_cons.mpr ⟨wd1622, cw174⟩) d288_25, List.forall_mem_cons.mpr ⟨snd_goto d288_28 (by decide), List.forall_mem_cons.mpr ⟨snd_aload_n d288_31 rfl, List.forall_mem_cons.mpr ⟨snd_iconst d288_32 (by decide +kernel), List.forall_mem_cons.mpr ⟨snd_callV (by decide) rfl cn173 ⟨by decide +kernel, by decide +kernel⟩ cm173 (List.forall_mem_cons.mpr ⟨wd1693, cw173⟩) d288_33, List.forall_mem_cons.mpr ⟨snd_iret rfl d288_36, fun _ h => by cases h⟩⟩⟩⟩⟩⟩⟩⟩⟩⟩⟩⟩⟩⟩⟩⟩⟩⟩⟩⟩⟩
theorem d289_0 : decode (mC M289) 0 = .ok (.aload_n 0, 1) := by decide +kernel
theorem d289_1 : decode (mC M289) 1 = .ok (.getfield 258, 3) := by decide +kernel
theorem d289_4 : decode (mC M289) 4 = .ok (.bipush 8, 2) := by decide +kernel
theorem d289_6 : decode (mC M289) 6 = .ok (.if_icmp .ne 77, 3) := by decide +kernel
theorem d289_9 : decode (mC M289) 9 = .ok (.iconst 1, 1) := by decide +kernel
theorem d289_10 : decode (mC M289) 10 = .ok (.istore 4, 2) := by decide +kernel
theorem d289_12 : decode (mC M289) 12 = .ok (.iload 4, 2) := by decide +kernel
theorem d289_14 : decode (mC M289) 14 = .ok (.bipush 8, 2) := by decide +kernel
theorem d289_16 : decode (mC M289) 16 = .ok (.if_icmp .ge 57, 3) := by decide +kernel
theorem d289_19 : decode (mC M289) 19 = .ok (.aload_n 0, 1) := by decide +kernel
theorem d289_20 : decode (mC M289) 20 = .ok (.getfield 55, 3) := by decide +kernel
theorem d289_23 : decode (mC M289) 23 = .ok (.iload 4, 2) := by decide +kernel
theorem d289_25 : decode (mC M289) 25 = .ok (.iconst 1, 1) := by decide +kernel
theorem d289_26 : decode (mC M289) 26 = .ok (.isub, 1) := by decide +kernel
theorem d289_27 : decode (mC M289) 27 = .ok (.aload_n 0, 1) := by decide +kernel
theorem d289_28 : decode (mC M289) 28 = .ok (.getfield 55, 3) := by decide +kernel
theorem d289_31 : decode (mC M289) 31 = .ok (.iload 4, 2) := by decide +kernel
theorem d289_33 : decode (mC M289) 33 = .ok (.iaload, 1) := by decide +kernel
theorem d289_34 : decode (mC M289) 34 = .ok (.iastore, 1) := by decide +kernel
theorem d289_35 : decode (mC M289) 35 = .ok (.aload_n 0, 1) := by decide +kernel
theorem d289_36 : decode (mC M289) 36 = .ok (.getfield 58, 3) := by decide +kernel
theorem d289_39 : decode (mC M289) 39 = .ok (.iload 4, 2) := by decide +kernel
theorem d289_41 : decode (mC M289) 41 = .ok (.iconst 1, 1) := by decide +kernel
theorem d289_42 : decode (mC M289) 42 = .ok (.isub, 1) := by decide +kernel
theorem d289_43 : decode (mC M289) 43 = .ok (.aload_n 0, 1) := by decide +kernel
theorem d289_44 : decode (mC M289) 44 = .ok (.getfield 58, 3) := by decide +kernel
theorem d289_47 : decode (mC M289) 47 = .ok (.iload 4, 2) := by decide +kernel
theorem d289_49 : decode (mC M289) 49 = .ok (.iaload, 1) := by decide +kernel
theorem d289_50 : decode (mC M289) 50 = .ok (.iastore, 1) := by decide +kernel
theorem d289_51 : decode (mC M289) 51 = .ok (.aload_n 0, 1) := by decide +kernel
theorem d289_52 : decode (mC M289) 52 = .ok (.getfield 61, 3) := by decide +kernel
theorem d289_55 : decode (mC M289) 55 = .ok (.iload 4, 2) := by decide +kernel
theorem d289_57 : decode (mC M289) 57 = .ok (.iconst 1, 1) := by decide +kernel
theorem d289_58 : decode (mC M289) 58 = .ok (.isub, 1) := by decide +kernel
theorem d289_59 : decode (mC M289) 59 = .ok (.aload_n 0, 1) := by decide +kernel
theorem d289_60 : decode (mC M289) 60 = .ok (.getfield 61, 3) := by decide +kernel
theorem d289_63 : decode (mC M289) 63 = .ok (.iload 4, 2) := by decide +kernel
theorem d289_65 : decode (mC M289) 65 = .ok (.iaload, 1) := by decide +kernel
theorem d289_66 : decode (mC M289) 66 = .ok (.iastore, 1) := by decide +kernel
theorem d289_67 : decode (mC M289) 67 = .ok (.iinc 4 1, 3) := by decide +kernel
theorem d289_70 : decode (mC M289) 70 = .ok (.goto (-58), 3) := by decide +kernel
theorem d289_73 : decode (mC M289) 73 = .ok (.aload_n 0, 1) := by decide +kernel
theorem d289_74 : decode (mC M289) 74 = .ok (.dup, 1) := by decide +kernel
theorem d289_75 : decode (mC M289) 75 = .ok (.getfield 258, 3) := by decide +kernel
theorem d289_78 : decode (mC M289) 78 = .ok (.iconst 1, 1) := by decide +kernel
theorem d289_79 : decode (mC M289) 79 = .ok (.isub, 1) := by decide +kernel
theorem d289_80 : decode (mC M289) 80 = .ok (.putfield 258, 3) := by decide +kernel
theorem d289_83 : decode (mC M289) 83 = .ok (.aload_n 0, 1) := by decide +kernel
theorem d289_84 : decode (mC M289) 84 = .ok (.getfield 55, 3) := by decide +kernel
theorem d289_87 : decode (mC M289) 87 = .ok (.aload_n 0, 1) := by decide +kernel
theorem d289_88 : decode (mC M289) 88 = .ok (.getfield 258, 3) := by decide +kernel
theorem d289_91 : decode (mC M289) 91 = .ok (.iload_n 1, 1) := by decide +kernel
theorem d289_92 : decode (mC M289) 92 = .ok (.iastore, 1) := by decide +kernel
theorem d289_93 : decode (mC M289) 93 = .ok (.aload_n 0, 1) := by decide +kernel
theorem d289_94 : decode (mC M289) 94 = .ok (.getfield 58, 3) := by decide +kernel
theorem d289_97 : decode (mC M289) 97 = .ok (.aload_n 0, 1) := by decide +kernel
theorem d289_98 : decode (mC M289) 98 = .ok (.getfield 258, 3) := by decide +kernel
theorem d289_101 : decode (mC M289) 101 = .ok (.iload_n 2, 1) := by decide +kernel
theorem d289_102 : decode (mC M289) 102 = .ok (.iastore, 1) := by decide +kernel
theorem d289_103 : decode (mC M289) 103 = .ok (.aload_n 0, 1) := by decide +kernel
theorem d289_104 : decode (mC M289) 104 = .ok (.getfield 61, 3) := by decide +kernel
theorem d289_107 : decode (mC M289) 107 = .ok (.aload_n 0, 1) := by decide +kernel
theorem d289_108 : decode (mC M289) 108 = .ok (.getfield 258, 3) := by decide +kernel
theorem d289_111 : decode (mC M289) 111 = .ok (.iload_n 3, 1) := by decide +kernel
theorem d289_112 : decode (mC M289) 112 = .ok (.iastore, 1) := by decide +kernel
theorem d289_113 : decode (mC M289) 113 = .ok (.aload_n 0, 1) := by decide +kernel
theorem d289_114 : decode (mC M289) 114 = .ok (.dup, 1) := by decide +kernel
theorem d289_115 : decode (mC M289) 115 = .ok (.getfield 258, 3) := by decide +kernel
theorem d289_118 : decode (mC M289) 118 = .ok (.iconst 1, 1) := by decide +kernel
theorem d289_119 : decode (mC M289) 119 = .ok (.iadd, 1) := by decide +kernel
theorem d289_120 : decode (mC M289) 120 = .ok (.putfield 258, 3) := by decide +kernel
theorem d289_123 : decode (mC M289) 123 = .ok (.return_, 1) := by decide +kernel
theorem sc289_0 : ∀ q ∈ tc289_0, Snd xtb M289 q.1 q.2 := List.forall_mem_cons.mpr ⟨snd_aload_n d289_0 rfl, List.forall_mem_cons.mpr ⟨snd_getI (by decide) (by decide) rfl wd1398 d289_1, List.forall_mem_cons.mpr ⟨snd_bipush d289_4 (by decide +kernel), List.forall_mem_cons.mpr ⟨snd_cmp_ne d289_6 (by decide), List.forall_mem_cons.mpr ⟨snd_iconst d289_9 (by decide +kernel), List.forall_mem_cons.mpr ⟨snd_istore d289_10, List.forall_mem_cons.mpr ⟨snd_iload d289_12, List.forall_mem_cons.mpr ⟨snd_bipush d289_14 (by decide +kernel), List.forall_mem_cons.mpr ⟨snd_cmp_ge d289_16 (by decide), List.forall_mem_cons.mpr ⟨snd_aload_n d289_19 rfl, List.forall_mem_cons.mpr ⟨snd_getR (by decide) (by decide) rfl wd1395 d289_20, List.forall_mem_cons.mpr ⟨snd_iload d289_23, List.forall_mem_cons.mpr ⟨snd_iconst d289_25 (by decide +kernel), List.forall_mem_cons.mpr ⟨snd_isub d289_26, List.forall_mem_cons.mpr ⟨snd_aload_n d289_27 rfl, List.forall_mem_cons.mpr ⟨snd_getR (by decide) (by decide) rfl wd1395 d289_28, List.forall_mem_cons.mpr ⟨snd_iload d289_31, List.forall_mem_cons.mpr ⟨snd_iald d289_33, List.forall_mem_cons.mpr ⟨snd_iast d289_34, List.forall_mem_cons.mpr ⟨snd_aload_n d289_35 rfl, List.forall_mem_cons.mpr ⟨snd_getR (by decide) (by decide) rfl wd1396 d289_36, List.forall_mem_cons.mpr ⟨snd_iload d289_39, List.forall_mem_cons.mpr ⟨snd_iconst d289_41 (by decide +kernel), List.forall_mem_cons.mpr ⟨snd_isub d289_42, List.forall_mem_cons.mpr ⟨snd_aload_n d289_43 rfl, List.forall_mem_cons.mpr ⟨snd_getR (by decide) (by decide) rfl wd1396 d289_44, List.forall_mem_cons.mpr ⟨snd_iload d289_47, List.forall_mem_cons.mpr ⟨snd_iald d289_49, List.forall_mem_cons.mpr ⟨snd_iast d289_50, List.forall_mem_cons.mpr ⟨snd_aload_n d289_51 rfl, fun _ h => by cases h⟩⟩⟩⟩⟩⟩⟩⟩⟩⟩⟩⟩⟩⟩⟩⟩⟩⟩⟩⟩⟩⟩⟩⟩⟩⟩⟩⟩⟩⟩
theorem sc289_1 : ∀ q ∈ tc289_1, Snd xtb M289 q.1 q.2 := List.forall_mem_cons.mpr ⟨snd_getR (by decide) (by decide) rfl wd1397 d289_52, List.forall_mem_cons.mpr ⟨snd_iload d289_55, List.forall_mem_cons.mpr ⟨snd_iconst d289_57 (by decide +kernel), List.forall_mem_cons.mpr ⟨snd_isub d289_58, List.forall_mem_cons.mpr ⟨snd_aload_n d289_59 rfl, List.forall_mem_cons.mpr ⟨snd_getR (by decide) (by decide) rfl wd1397 d289_60, List.forall_mem_cons.mpr ⟨snd_iload d289_63, List.forall_mem_cons.mpr ⟨snd_iald d289_65, List.forall_mem_cons.mpr ⟨snd_iast d289_66, List.forall_mem_cons.mpr ⟨snd_iinc d289_67 (by decide +kernel), List.forall_mem_cons.mpr ⟨snd_goto d289_70 (by decide), List.forall_mem_cons.mpr ⟨snd_aload_n d289_73 rfl, List.forall_mem_cons.mpr ⟨snd_dup d289_74, List.forall_mem_cons.mpr ⟨snd_getI (by decide) (by decide) rfl wd1398 d289_75, List.forall_mem_cons.mpr ⟨snd_iconst d289_78 (by decide +kernel), List.forall_mem_cons.mpr ⟨snd_isub d289_79, List.forall_mem_cons.mpr ⟨snd_putI (by decide) (by decide) rfl rfl wd1398 d289_80, List.forall_mem_cons.mpr ⟨snd_aload_n d289_83 rfl, List.forall_mem_cons.mpr ⟨snd_getR (by decide) (by decide) rfl wd1395 d289_84, List.forall_mem_cons.mpr ⟨snd_aload_n d289_87 rfl, List.forall_mem_cons.mpr ⟨snd_getI (by decide) (by decide) rfl wd1398 d289_88, List.forall_mem_cons.mpr ⟨snd_iload_n d289_91 rfl, List.forall_mem_cons.mpr ⟨snd_iast d289_92, List.forall_mem_cons.mpr ⟨snd_aload_n d289_93 rfl, List.forall_mem_cons.mpr ⟨snd_getR (by decide) (by decide) rfl wd1396 d289_94, List.forall_mem_cons.mpr ⟨snd_aload_n d289_97 rfl, List.forall_mem_cons.mpr ⟨snd_getI (by decide) (by decide) rfl wd1398 d289_98, List.forall_mem_cons.mpr ⟨snd_iload_n d289_101 rfl, List.forall_mem_cons.mpr ⟨snd_iast d289_102, List.forall_mem_cons.mpr ⟨snd_aload_n d289_103 rfl, fun _ h => by cases h⟩⟩⟩⟩⟩⟩⟩⟩⟩⟩⟩⟩⟩⟩⟩⟩⟩⟩⟩⟩⟩⟩⟩⟩⟩⟩⟩⟩⟩⟩
theorem sc289_2 : ∀ q ∈ tc289_2, Snd xtb M289 q.1 q.2 := List.forall_mem_cons.mpr ⟨snd_getR (by decide) (by decide) rfl wd1397 d289_104, List.forall_mem_cons.mpr ⟨snd_aload_n d289_107 rfl, List.forall_mem_cons.mpr ⟨snd_getI (by decide) (by decide) rfl wd1398 d289_108, List.forall_mem_cons.mpr ⟨snd_iload_n d289_111 rfl, List.forall_mem_cons.mpr ⟨snd_iast d289_112, List.forall_mem_cons.mpr ⟨snd_aload_n d289_113 rfl, List.forall_mem_cons.mpr ⟨snd_dup d289_114, List.forall_mem_cons.mpr ⟨snd_getI (by decide) (by decide) rfl wd1398 d289_115, List.forall_mem_cons.mpr ⟨snd_iconst d289_118 (by decide +kernel), List.forall_mem_cons.mpr ⟨snd_iadd d289_119, List.forall_mem_cons.mpr ⟨snd_putI (by decide) (by decide) rfl rfl wd1398 d289_120, List.forall_mem_cons.mpr ⟨snd_vret rfl d289_123, fun _ h => by cases h⟩⟩⟩⟩⟩⟩⟩⟩⟩⟩⟩⟩
theorem d290_0 : decode (mC M290) 0 = .ok (.aload_n 0, 1) := by decide +kernel
theorem d290_1 : decode (mC M290) 1 = .ok (.iconst 0, 1) := by decide +kernel
theorem d290_2 : decode (mC M290) 2 = .ok (.putfield 64, 3) := by decide +kernel
theorem d290_5 : decode (mC M290) 5 = .ok (.aload_n 0, 1) := by decide +kernel
theorem d290_6 : decode (mC M290) 6 = .ok (.iload_n 1, 1) := by decide +kernel
theorem d290_7 : decode (mC M290) 7 = .ok (.iload_n 2, 1) := by decide +kernel
theorem d290_8 : decode (mC M290) 8 = .ok (.iload_n 3, 1) := by decide +kernel
theorem d290_9 : decode (mC M290) 9 = .ok (.iload 4, 2) := by decide +kernel
theorem d290_11 : decode (mC M290) 11 = .ok (.iload 5, 2) := by decide +kernel
theorem d290_13 : decode (mC M290) 13 = .ok (.iload 6, 2) := by decide +kernel
theorem d290_15 : decode (mC M290) 15 = .ok (.invokevirtual 356, 3) := by decide +kernel
theorem d290_18 : decode (mC M290) 18 = .ok (.istore 7, 2) := by decide +kernel
theorem d290_20 : decode (mC M290) 20 = .ok (.iload 7, 2) := by decide +kernel
theorem d290_22 : decode (mC M290) 22 = .ok (.ifCond .le 10, 3) := by decide +kernel
theorem d290_25 : decode (mC M290) 25 = .ok (.aload_n 0, 1) := by decide +kernel
theorem d290_26 : decode (mC M290) 26 = .ok (.iload 7, 2) := by decide +kernel
theorem d290_28 : decode (mC M290) 28 = .ok (.invokevirtual 70, 3) := by decide +kernel
theorem d290_31 : decode (mC M290) 31 = .ok (.ireturn, 1) := by decide +kernel
theorem d290_32 : decode (mC M290) 32 = .ok (.iload_n 1, 1) := by decide +kernel
theorem d290_33 : decode (mC M290) 33 = .ok (.aload_n 0, 1) := by decide +kernel
theorem d290_34 : decode (mC M290) 34 = .ok (.invokevirtual 399, 3) := by decide +kernel
theorem d290_37 : decode (mC M290) 37 = .ok (.if_icmp .gt 9, 3) := by decide +kernel
theorem d290_40 : decode (mC M290) 40 = .ok (.aload_n 0, 1) := by decide +kernel
theorem d290_41 : decode (mC M290) 41 = .ok (.iconst 5, 1) := by decide +kernel
theorem d290_42 : decode (mC M290) 42 = .ok (.invokevirtual 70, 3) := by decide +kernel
theorem d290_45 : decode (mC M290) 45 = .ok (.ireturn, 1) := by decide +kernel
theorem d290_46 : decode (mC M290) 46 = .ok (.aload_n 0, 1) := by decide +kernel
theorem d290_47 : decode (mC M290) 47 = .ok (.getfield 255, 3) := by decide +kernel
theorem d290_50 : decode (mC M290) 50 = .ok (.bipush 40, 2) := by decide +kernel
theorem d290_52 : decode (mC M290) 52 = .ok (.if_icmp .ne 9, 3) := by decide +kernel
theorem d290_55 : decode (mC M290) 55 = .ok (.aload_n 0, 1) := by decide +kernel
theorem d290_56 : decode (mC M290) 56 = .ok (.iconst 3, 1) := by decide +kernel
theorem d290_57 : decode (mC M290) 57 = .ok (.invokevirtual 70, 3) := by decide +kernel
theorem d290_60 : decode (mC M290) 60 = .ok (.ireturn, 1) := by decide +kernel
theorem d290_61 : decode (mC M290) 61 = .ok (.bipush 25, 2) := by decide +kernel
theorem d290_63 : decode (mC M290) 63 = .ok (.aload_n 0, 1) := by decide +kernel
theorem d290_64 : decode (mC M290) 64 = .ok (.getfield 255, 3) := by decide +kernel
theorem d290_67 : decode (mC M290) 67 = .ok (.imul, 1) := by decide +kernel
theorem d290_68 : decode (mC M290) 68 = .ok (.istore 8, 2) := by decide +kernel
theorem d290_70 : decode (mC M290) 70 = .ok (.aload_n 0, 1) := by decide +kernel
theorem d290_71 : decode (mC M290) 71 = .ok (.iload_n 1, 1) := by decide +kernel
theorem d290_72 : decode (mC M290) 72 = .ok (.iload_n 2, 1) := by decide +kernel
theorem d290_73 : decode (mC M290) 73 = .ok (.iload_n 3, 1) := by decide +kernel
theorem d290_74 : decode (mC M290) 74 = .ok (.aload_n 0, 1) := by decide +kernel
theorem d290_75 : decode (mC M290) 75 = .ok (.getfield 31, 3) := by decide +kernel
theorem d290_78 : decode (mC M290) 78 = .ok (.invokevirtual 322, 3) := by decide +kernel
theorem d290_81 : decode (mC M290) 81 = .ok (.istore 9, 2) := by decide +kernel
theorem d290_83 : decode (mC M290) 83 = .ok (.aload_n 0, 1) := by decide +kernel
theorem d290_84 : decode (mC M290) 84 = .ok (.getfield 37, 3) := by decide +kernel
theorem d290_87 : decode (mC M290) 87 = .ok (.iload 8, 2) := by decide +kernel
theorem d290_89 : decode (mC M290) 89 = .ok (.iconst 0, 1) := by decide +kernel
theorem d290_90 : decode (mC M290) 90 = .ok (.iadd, 1) := by decide +kernel
theorem d290_91 : decode (mC M290) 91 = .ok (.iload_n 1, 1) := by decide +kernel
theorem d290_92 : decode (mC M290) 92 = .ok (.iastore, 1) := by decide +kernel
theorem d290_93 : decode (mC M290) 93 = .ok (.aload_n 0, 1) := by decide +kernel
theorem d290_94 : decode (mC M290) 94 = .ok (.getfield 37, 3) := by decide +kernel
theorem d290_97 : decode (mC M290) 97 = .ok (.iload 8, 2) := by decide +kernel
theorem d290_99 : decode (mC M290) 99 = .ok (.iconst 1, 1) := by decide +kernel
theorem d290_100 : decode (mC M290) 100 = .ok (.iadd, 1) := by decide +kernel
theorem d290_101 : decode (mC M290) 101 = .ok (.iload_n 2, 1) := by decide +kernel
theorem d290_102 : decode (mC M290) 102 = .ok (.iastore, 1) := by decide +kernel
theorem d290_103 : decode (mC M290) 103 = .ok (.aload_n 0, 1) := by decide +kernel
theorem d290_104 : decode (mC M290) 104 = .ok (.getfield 37, 3) := by decide +kernel
theorem d290_107 : decode (mC M290) 107 = .ok (.iload 8, 2) := by decide +kernel
theorem d290_109 : decode (mC M290) 109 = .ok (.iconst 2, 1) := by decide +kernel
theorem d290_110 : decode (mC M290) 110 = .ok (.iadd, 1) := by decide +kernel
theorem d290_111 : decode (mC M290) 111 = .ok (.iload_n 3, 1) := by decide +kernel
theorem d290_112 : decode (mC M290) 112 = .ok (.iastore, 1) := by decide +kernel
theorem d290_113 : decode (mC M290) 113 = .ok (.aload_n 0, 1) := by decide +kernel
theorem d290_114 : decode (mC M290) 114 = .ok (.getfield 37, 3) := by decide +kernel
theorem d290_117 : decode (mC M290) 117 = .ok (.iload 8, 2) := by decide +kernel
theorem d290_119 : decode (mC M290) 119 = .ok (.iconst 3, 1) := by decide +kernel
theorem d290_120 : decode (mC M290) 120 = .ok (.iadd, 1) := by decide +kernel
theorem d290_121 : decode (mC M290) 121 = .ok (.iload 4, 2) := by decide +kernel
theorem d290_123 : decode (mC M290) 123 = .ok (.iastore, 1) := by decide +kernel
theorem d290_124 : decode (mC M290) 124 = .ok (.aload_n 0, 1) := by decide +kernel
theorem d290_125 : decode (mC M290) 125 = .ok (.getfield 37, 3) := by decide +kernel
theorem d290_128 : decode (mC M290) 128 = .ok (.iload 8, 2) := by decide +kernel
theorem d290_130 : decode (mC M290) 130 = .ok (.iconst 4, 1) := by decide +kernel
theorem d290_131 : decode (mC M290) 131 = .ok (.iadd, 1) := by decide +kernel
theorem d290_132 : decode (mC M290) 132 = .ok (.iload 5, 2) := by decide +kernel
theorem d290_134 : decode (mC M290) 134 = .ok (.iastore, 1) := by decide +kernel
theorem d290_135 : decode (mC M290) 135 = .ok (.aload_n 0, 1) := by decide +kernel
theorem d290_136 : decode (mC M290) 136 = .ok (.getfield 37, 3) := by decide +kernel
theorem d290_139 : decode (mC M290) 139 = .ok (.iload 8, 2) := by decide +kernel
theorem d290_141 : decode (mC M290) 141 = .ok (.iconst 5, 1) := by decide +kernel
theorem d290_142 : decode (mC M290) 142 = .ok (.iadd, 1) := by decide +kernel
theorem d290_143 : decode (mC M290) 143 = .ok (.iload 6, 2) := by decide +kernel
theorem d290_145 : decode (mC M290) 145 = .ok (.iastore, 1) := by decide +kernel
theorem d290_146 : decode (mC M290) 146 = .ok (.aload_n 0, 1) := by decide +kernel
theorem d290_147 : decode (mC M290) 147 = .ok (.getfield 37, 3) := by decide +kernel
theorem d290_150 : decode (mC M290) 150 = .ok (.iload 8, 2) := by decide +kernel
theorem d290_152 : decode (mC M290) 152 = .ok (.bipush 6, 2) := by decide +kernel
theorem d290_154 : decode (mC M290) 154 = .ok (.iadd, 1) := by decide +kernel
theorem d290_155 : decode (mC M290) 155 = .ok (.iload 5, 2) := by decide +kernel
theorem d290_157 : decode (mC M290) 157 = .ok (.iastore, 1) := by decide +kernel
theorem d290_158 : decode (mC M290) 158 = .ok (.aload_n 0, 1) := by decide +kernel
theorem d290_159 : decode (mC M290) 159 = .ok (.getfield 37, 3) := by decide +kernel
theorem d290_162 : decode (mC M290) 162 = .ok (.iload 8, 2) := by decide +kernel
theorem d290_164 : decode (mC M290) 164 = .ok (.bipush 7, 2) := by decide +kernel
theorem d290_166 : decode (mC M290) 166 = .ok (.iadd, 1) := by decide +kernel
theorem d290_167 : decode (mC M290) 167 = .ok (.iload 9, 2) := by decide +kernel
theorem d290_169 : decode (mC M290) 169 = .ok (.iastore, 1) := by decide +kernel
theorem d290_170 : decode (mC M290) 170 = .ok (.aload_n 0, 1) := by decide +kernel
theorem d290_171 : decode (mC M290) 171 = .ok (.getfield 37, 3) := by decide +kernel
theorem d290_174 : decode (mC M290) 174 = .ok (.iload 8, 2) := by decide +kernel
theorem d290_176 : decode (mC M290) 176 = .ok (.bipush 8, 2) := by decide +kernel
theorem d290_178 : decode (mC M290) 178 = .ok (.iadd, 1) := by decide +kernel
theorem d290_179 : decode (mC M290) 179 = .ok (.iconst 0, 1) := by decide +kernel
theorem d290_180 : decode (mC M290) 180 = .ok (.iastore, 1) := by decide +kernel
theorem d290_181 : decode (mC M290) 181 = .ok (.iconst 0, 1) := by decide +kernel
theorem d290_182 : decode (mC M290) 182 = .ok (.istore 10, 2) := by decide +kernel
theorem d290_184 : decode (mC M290) 184 = .ok (.iload 10, 2) := by decide +kernel
theorem d290_186 : decode (mC M290) 186 = .ok (.iload 9, 2) := by decide +kernel
theorem d290_188 : decode (mC M290) 188 = .ok (.if_icmp .ge 113, 3) := by decide +kernel
theorem d290_191 : decode (mC M290) 191 = .ok (.iload 8, 2) := by decide +kernel
theorem d290_193 : decode (mC M290) 193 = .ok (.bipush 9, 2) := by decide +kernel
theorem d290_195 : decode (mC M290) 195 = .ok (.iadd, 1) := by decide +kernel
theorem d290_196 : decode (mC M290) 196 = .ok (.iconst 4, 1) := by decide +kernel
theorem d290_197 : decode (mC M290) 197 = .ok (.iload 10, 2) := by decide +kernel
theorem d290_199 : decode (mC M290) 199 = .ok (.imul, 1) := by decide +kernel
theorem d290_200 : decode (mC M290) 200 = .ok (.iadd, 1) := by decide +kernel
theorem d290_201 : decode (mC M290) 201 = .ok (.istore 11, 2) := by decide +kernel
theorem d290_203 : decode (mC M290) 203 = .ok (.aload_n 0, 1) := by decide +kernel
theorem d290_204 : decode (mC M290) 204 = .ok (.getfield 37, 3) := by decide +kernel
theorem d290_207 : decode (mC M290) 207 = .ok (.iload 11, 2) := by decide +kernel
theorem d290_209 : decode (mC M290) 209 = .ok (.aload_n 0, 1) := by decide +kernel
theorem d290_210 : decode (mC M290) 210 = .ok (.getfield 31, 3) := by decide +kernel
theorem d290_213 : decode (mC M290) 213 = .ok (.iload 10, 2) := by decide +kernel
theorem d290_215 : decode (mC M290) 215 = .ok (.iaload, 1) := by decide +kernel
theorem d290_216 : decode (mC M290) 216 = .ok (.iastore, 1) := by decide +kernel
theorem d290_217 : decode (mC M290) 217 = .ok (.aload_n 0, 1) := by decide +kernel
theorem d290_218 : decode (mC M290) 218 = .ok (.getfield 37, 3) := by decide +kernel
theorem d290_221 : decode (mC M290) 221 = .ok (.iload 11, 2) := by decide +kernel
theorem d290_223 : decode (mC M290) 223 = .ok (.iconst 1, 1) := by decide +kernel
theorem d290_224 : decode (mC M290) 224 = .ok (.iadd, 1) := by decide +kernel
theorem d290_225 : decode (mC M290) 225 = .ok (.aload_n 0, 1) := by decide +kernel
theorem d290_226 : decode (mC M290) 226 = .ok (.aload_n 0, 1) := by decide +kernel
theorem d290_227 : decode (mC M290) 227 = .ok (.getfield 31, 3) := by decide +kernel
theorem d290_230 : decode (mC M290) 230 = .ok (.iload 10, 2) := by decide +kernel
theorem d290_232 : decode (mC M290) 232 = .ok (.iaload, 1) := by decide +kernel
theorem d290_233 : decode (mC M290) 233 = .ok (.iload 4, 2) := by decide +kernel
theorem d290_235 : decode (mC M290) 235 = .ok (.iload_n 1, 1) := by decide +kernel
theorem d290_236 : decode (mC M290) 236 = .ok (.invokevirtual 333, 3) := by decide +kernel
theorem d290_239 : decode (mC M290) 239 = .ok (.iastore, 1) := by decide +kernel
theorem d290_240 : decode (mC M290) 240 = .ok (.aload_n 0, 1) := by decide +kernel
theorem d290_241 : decode (mC M290) 241 = .ok (.getfield 37, 3) := by decide +kernel
theorem d290_244 : decode (mC M290) 244 = .ok (.iload 11, 2) := by decide +kernel
theorem d290_246 : decode (mC M290) 246 = .ok (.iconst 2, 1) := by decide +kernel
theorem d290_247 : decode (mC M290) 247 = .ok (.iadd, 1) := by decide +kernel
theorem d290_248 : decode (mC M290) 248 = .ok (.aload_n 0, 1) := by decide +kernel
theorem d290_249 : decode (mC M290) 249 = .ok (.aload_n 0, 1) := by decide +kernel
theorem d290_250 : decode (mC M290) 250 = .ok (.getfield 31, 3) := by decide +kernel
theorem d290_253 : decode (mC M290) 253 = .ok (.iload 10, 2) := by decide +kernel
theorem d290_255 : decode (mC M290) 255 = .ok (.iaload, 1) := by decide +kernel
theorem d290_256 : decode (mC M290) 256 = .ok (.iload 4, 2) := by decide +kernel
theorem d290_258 : decode (mC M290) 258 = .ok (.invokevirtual 339, 3) := by decide +kernel
theorem d290_261 : decode (mC M290) 261 = .ok (.iastore, 1) := by decide +kernel
theorem d290_262 : decode (mC M290) 262 = .ok (.aload_n 0, 1) := by decide +kernel
theorem d290_263 : decode (mC M290) 263 = .ok (.getfield 37, 3) := by decide +kernel
theorem d290_266 : decode (mC M290) 266 = .ok (.iload 11, 2) := by decide +kernel
theorem d290_268 : decode (mC M290) 268 = .ok (.iconst 3, 1) := by decide +kernel
theorem d290_269 : decode (mC M290) 269 = .ok (.iadd, 1) := by decide +kernel
theorem d290_270 : decode (mC M290) 270 = .ok (.aload_n 0, 1) := by decide +kernel
theorem d290_271 : decode (mC M290) 271 = .ok (.aload_n 0, 1) := by decide +kernel
theorem d290_272 : decode (mC M290) 272 = .ok (.getfield 31, 3) := by decide +kernel
theorem d290_275 : decode (mC M290) 275 = .ok (.iload 10, 2) := by decide +kernel
theorem d290_277 : decode (mC M290) 277 = .ok (.iaload, 1) := by decide +kernel
theorem d290_278 : decode (mC M290) 278 = .ok (.iload 4, 2) := by decide +kernel
theorem d290_280 : decode (mC M290) 280 = .ok (.iload_n 1, 1) := by decide +kernel
theorem d290_281 : decode (mC M290) 281 = .ok (.iload 6, 2) := by decide +kernel
theorem d290_283 : decode (mC M290) 283 = .ok (.invokevirtual 336, 3) := by decide +kernel
theorem d290_286 : decode (mC M290) 286 = .ok (.ifCond .eq 7, 3) := by decide +kernel
theorem d290_289 : decode (mC M290) 289 = .ok (.iconst 1, 1) := by decide +kernel
theorem d290_290 : decode (mC M290) 290 = .ok (.goto 4, 3) := by decide +kernel
theorem d290_293 : decode (mC M290) 293 = .ok (.iconst 0, 1) := by decide +kernel
theorem d290_294 : decode (mC M290) 294 = .ok (.iastore, 1) := by decide +kernel
theorem d290_295 : decode (mC M290) 295 = .ok (.iinc 10 1, 3) := by decide +kernel
theorem d290_298 : decode (mC M290) 298 = .ok (.goto (-114), 3) := by decide +kernel
theorem d290_301 : decode (mC M290) 301 = .ok (.aload_n 0, 1) := by decide +kernel
theorem d290_302 : decode (mC M290) 302 = .ok (.iconst 0, 1) := by decide +kernel
theorem d290_303 : decode (mC M290) 303 = .ok (.aload_n 0, 1) := by decide +kernel
theorem d290_304 : decode (mC M290) 304 = .ok (.getfield 255, 3) := by decide +kernel
theorem d290_307 : decode (mC M290) 307 = .ok (.iload 5, 2) := by decide +kernel
theorem d290_309 : decode (mC M290) 309 = .ok (.invokevirtual 408, 3) := by decide +kernel
theorem d290_312 : decode (mC M290) 312 = .ok (.aload_n 0, 1) := by decide +kernel
theorem d290_313 : decode (mC M290) 313 = .ok (.dup, 1) := by decide +kernel
theorem d290_314 : decode (mC M290) 314 = .ok (.getfield 255, 3) := by decide +kernel
theorem d290_317 : decode (mC M290) 317 = .ok (.iconst 1, 1) := by decide +kernel
theorem d290_318 : decode (mC M290) 318 = .ok (.iadd, 1) := by decide +kernel
theorem d290_319 : decode (mC M290) 319 = .ok (.putfield 255, 3) := by decide +kernel
theorem d290_322 : decode (mC M290) 322 = .ok (.aload_n 0, 1) := by decide +kernel
theorem d290_323 : decode (mC M290) 323 = .ok (.aload_n 0, 1) := by decide +kernel
theorem d290_324 : decode (mC M290) 324 = .ok (.getfield 255, 3) := by decide +kernel
theorem d290_327 : decode (mC M290) 327 = .ok (.iconst 1, 1) := by decide +kernel
theorem d290_328 : decode (mC M290) 328 = .ok (.isub, 1) := by decide +kernel
theorem d290_329 : decode (mC M290) 329 = .ok (.invokevirtual 264, 3) := by decide +kernel
theorem d290_332 : decode (mC M290) 332 = .ok (.ireturn, 1) := by decide +kernel
theorem sc290_0 : ∀ q ∈ tc290_0, Snd xtb M290 q.1 q.2 := List.forall_mem_cons.mpr ⟨snd_aload_n d290_0 rfl, List.forall_mem_cons.mpr ⟨snd_iconst d290_1 (by decide +kernel), List.forall_mem_cons.mpr ⟨snd_putI (by decide) (by decide) rfl rfl wd1367 d290_2, List.forall_mem_cons.mpr ⟨snd_aload_n d290_5 rfl, List.forall_mem_cons.mpr ⟨snd_iload_n d290_6 rfl, List.forall_mem_cons.mpr ⟨snd_iload_n d290_7 rfl, List.forall_mem_cons.mpr ⟨snd_iload_n d290_8 rfl, List.forall_mem_cons.mpr ⟨snd_iload d290_9, List.forall_mem_cons.mpr ⟨snd_iload d290_11, List.forall_mem_cons.mpr ⟨snd_iload d290_13, List.forall_mem_cons.mpr ⟨snd_callV (by decide) rfl cn258 ⟨by decide +kernel, by decide +kernel⟩ cm258 (List.forall_mem_cons.mpr ⟨wd1813, cw258⟩) d290_15, List.forall_mem_cons.mpr ⟨snd_istore d290_18, List.forall_mem_cons.mpr ⟨snd_iload d290_20, List.forall_mem_cons.mpr ⟨snd_if_le d290_22 (by decide), List.forall_mem_cons.mpr ⟨snd_aload_n d290_25 rfl, List.forall_mem_cons.mpr ⟨snd_iload d290_26, List.forall_mem_cons.mpr ⟨snd_callV (by decide) rfl cn172 ⟨by decide +kernel, by decide +kernel⟩ cm172 (List.forall_mem_cons.mpr ⟨wd1476, cw172⟩) d290_28, List.forall_mem_cons.mpr ⟨snd_iret rfl d290_31, List.forall_mem_cons.mpr ⟨snd_iload_n d290_32 rfl, List.forall_mem_cons.mpr ⟨snd_aload_n d290_33 rfl, List.forall_mem_cons.mpr ⟨snd_callV (by decide) rfl cn274 ⟨by decide +kernel, by decide +kernel⟩ cm274 (List.forall_mem_cons.mpr ⟨wd1913, cw274⟩) d290_34, List.forall_mem_cons.mpr ⟨snd_cmp_gt d290_37 (by decide), List.forall_mem_cons.mpr ⟨snd_aload_n d290_40 rfl, List.forall_mem_cons.mpr ⟨snd_iconst d290_41 (by decide +kernel), List.forall_mem_cons.mpr ⟨snd_callV (by decide) rfl cn172 ⟨by decide +kernel, by decide +kernel⟩ cm172 (List.forall_mem_cons.mpr ⟨wd1476, cw172⟩) d290_42, List.forall_mem_cons.mpr ⟨snd_iret rfl d290_45, List.forall_mem_cons.mpr ⟨snd_aload_n d290_46 rfl, List.forall_mem_cons.mpr ⟨snd_getI (by decide) (by decide) rfl wd1387 d290_47, List.forall_mem_cons.mpr ⟨snd_bipush d290_50 (by decide +kernel), List.forall_mem_cons.mpr ⟨snd_cmp_ne d290_52 (by decide), fun _ h => by cases h⟩⟩⟩⟩⟩⟩⟩⟩⟩⟩⟩⟩⟩⟩⟩⟩⟩⟩⟩⟩⟩⟩⟩⟩⟩⟩⟩⟩⟩⟩
theorem sc290_1 : ∀ q ∈ tc290_1, Snd xtb M290 q.1 q.2 := List.forall_mem_cons.mpr ⟨snd_aload_n d290_55 rfl, List.forall_mem_cons.mpr ⟨snd_iconst d290_56 (by decide +kernel), List.forall_mem_cons.mpr ⟨snd_callV (by decide) rfl cn172 ⟨by decide +kernel, by decide +kernel⟩ cm172 (List.forall_mem_cons.mpr ⟨wd1476, cw172⟩) d290_57, List.forall_mem_cons.mpr ⟨snd_iret rfl d290_60, List.forall_mem_cons.mpr ⟨snd_bipush d290_61 (by decide +kernel), List.forall_mem_cons.mpr ⟨snd_aload_n d290_63 rfl, List.forall_mem_cons.mpr ⟨snd_getI (by decide) (by decide) rfl wd1387 d290_64, List.forall_mem_cons.mpr ⟨snd_imul d290_67, List.forall_mem_cons.mpr ⟨snd_istore d290_68, List.forall_mem_cons.mpr ⟨snd_aload_n d290_70 rfl, List.forall_mem_cons.mpr ⟨snd_iload_n d290_71 rfl, List.forall_mem_cons.mpr ⟨snd_iload_n d290_72 rfl, List.forall_mem_cons.mpr ⟨snd_iload_n d290_73 rfl, List.forall_mem_cons.mpr ⟨snd_aload_n d290_74 rfl, List.forall_mem_cons.mpr ⟨snd_getR (by decide) (by decide) rfl wd1384 d290_75, List.forall_mem_cons.mpr ⟨snd_callV (by decide) rfl cn236 ⟨by decide +kernel, by decide +kernel⟩ cm236 (List.forall_mem_cons.mpr ⟨wd1741, cw236⟩) d290_78, List.forall_mem_cons.mpr ⟨snd_istore d290_81, List.forall_mem_cons.mpr ⟨snd_aload_n d290_83 rfl, List.forall_mem_cons.mpr ⟨snd_getR (by decide) (by decide) rfl wd1386 d290_84, List.forall_mem_cons.mpr ⟨snd_iload d290_87, List.forall_mem_cons.mpr ⟨snd_iconst d290_89 (by decide +kernel), List.forall_mem_cons.mpr ⟨snd_iadd d290_90, List.forall_mem_cons.mpr ⟨snd_iload_n d290_91 rfl, List.forall_mem_cons.mpr ⟨snd_iast d290_92, List.forall_mem_cons.mpr ⟨snd_aload_n d290_93 rfl, List.forall_mem_cons.mpr ⟨snd_getR (by decide) (by decide) rfl wd1386 d290_94, List.forall_mem_cons.mpr ⟨snd_iload d290_97, List.forall_mem_cons.mpr ⟨snd_iconst d290_99 (by decide +kernel), List.forall_mem_cons.mpr ⟨snd_iadd d290_100, List.forall_mem_cons.mpr ⟨snd_iload_n d290_101 rfl, fun _ h => by cases h⟩⟩⟩⟩⟩⟩⟩⟩⟩⟩⟩⟩⟩⟩⟩⟩⟩⟩⟩⟩⟩⟩⟩⟩⟩⟩⟩⟩⟩⟩
theorem sc290_2 : ∀ q ∈ tc290_2, Snd xtb M290 q.1 q.2 := List.forall_mem_cons.mpr ⟨snd_iast d290_102, List.forall_mem_cons.mpr ⟨snd_aload_n d290_103 rfl, List.forall_mem_cons.mpr ⟨snd_getR (by decide) (by decide) rfl wd1386 d290_104, List.forall_mem_cons.mpr ⟨snd_iload d290_107, List.forall_mem_cons.mpr ⟨snd_iconst d290_109 (by decide +kernel), List.forall_mem_cons.mpr ⟨snd_iadd d290_110, List.forall_mem_cons.mpr ⟨snd_iload_n d290_111 rfl, List.forall_mem_cons.mpr ⟨snd_iast d290_112, List.forall_mem_cons.mpr ⟨snd_aload_n d290_113 rfl, List.forall_mem_cons.mpr ⟨snd_getR (by decide) (by decide) rfl wd1386 d290_114, List.forall_mem_cons.mpr ⟨snd_iload d290_117, List.forall_mem_cons.mpr ⟨snd_iconst d290_119 (by decide +kernel), List.forall_mem_cons.mpr ⟨snd_iadd d290_120, List.forall_mem_cons.mpr ⟨snd_iload d290_121, List.forall_mem_cons.mpr ⟨snd_iast d290_123, List.forall_mem_cons.mpr ⟨snd_aload_n d290_124 rfl, List.forall_mem_cons.mpr ⟨snd_getR (by decide) (by decide) rfl wd1386 d290_125, List.forall_mem_cons.mpr ⟨snd_iload d290_128, List.forall_mem_cons.mpr ⟨snd_iconst d290_130 (by decide +kernel), List.forall_mem_cons.mpr ⟨snd_iadd d290_131, List.forall_mem_cons.mpr ⟨snd_iload d290_132, List.forall_mem_cons.mpr ⟨snd_iast d290_134, List.forall_mem_cons.mpr ⟨snd_aload_n d290_135 rfl, List.forall_mem_cons.mpr ⟨snd_getR (by decide) (by decide) rfl wd1386 d290_136, List.forall_mem_cons.mpr ⟨snd_iload d290_139, List.forall_mem_cons.mpr ⟨snd_iconst d290_141 (by decide +kernel), List.forall_mem_cons.mpr ⟨snd_iadd d290_142, List.forall_mem_cons.mpr ⟨snd_iload d290_143, List.forall_mem_cons.mpr ⟨snd_iast d290_145, List.forall_mem_cons.mpr ⟨snd_aload_n d290_146 rfl, fun _ h => by cases h⟩⟩⟩⟩⟩⟩⟩⟩⟩⟩⟩⟩⟩⟩⟩⟩⟩⟩⟩⟩⟩⟩⟩⟩⟩⟩⟩⟩⟩⟩
theorem sc290_3 : ∀ q ∈ tc290_3, Snd xtb M290 q.1 q.2 := List.forall_mem_cons.mpr ⟨snd_getR (by decide) (by decide) rfl wd1386 d290_147, List.forall_mem_cons.mpr ⟨snd_iload d290_150, List.forall_mem_cons.mpr ⟨snd_bipush d290_152 (by decide +kernel), List.forall_mem_cons.mpr ⟨snd_iadd d290_154, List.forall_mem_cons.mpr ⟨snd_iload d290_155, List.forall_mem_cons.mpr ⟨snd_iast d290_157, List.forall_mem_cons.mpr ⟨snd_aload_n d290_158 rfl, List.forall_mem_cons.mpr ⟨snd_getR (by decide) (by decide) rfl wd1386 d290_159, List.forall_mem_cons.mpr ⟨snd_iload d290_162, List.forall_mem_cons.mpr ⟨snd_bipush d290_164 (by decide +kernel), List.forall_mem_cons.mpr ⟨snd_iadd d290_166, List.forall_mem_cons.mpr ⟨snd_iload d290_167, List.forall_mem_cons.mpr ⟨snd_iast d290_169, List.forall_mem_cons.mpr ⟨snd_aload_n d290_170 rfl, List.forall_mem_cons.mpr ⟨snd_getR (by decide) (by decide) rfl wd1386 d290_171, List.forall_mem_cons.mpr ⟨snd_iload d290_174, List.forall_mem_cons.mpr ⟨snd_bipush d290_176 (by decide +kernel), List.forall_mem_cons.mpr ⟨snd_iadd d290_178, List.forall_mem_cons.mpr ⟨snd_iconst d290_179 (by decide +kernel), List.forall_mem_cons.mpr ⟨snd_iast d290_180, List.forall_mem_cons.mpr ⟨snd_iconst d290_181 (by decide +kernel), List.forall_mem_cons.mpr ⟨snd_istore d290_182, List.forall_mem_cons.mpr ⟨snd_iload d290_184, List.forall_mem_cons.mpr ⟨snd_iload d290_186, List.forall_mem_cons.mpr ⟨snd_cmp_ge d290_188 (by decide), List.forall_mem_cons.mpr ⟨snd_iload d290_191, List.forall_mem_cons.mpr ⟨snd_bipush d290_193 (by decide +kernel), List.forall_mem_cons.mpr ⟨snd_iadd d290_195, List.forall_mem_cons.mpr ⟨snd_iconst d290_196 (by decide +kernel), List.forall_mem_cons.mpr ⟨snd_iload d290_197, fun _ h => by cases h⟩⟩⟩⟩⟩⟩⟩⟩⟩⟩⟩⟩⟩⟩⟩⟩⟩⟩⟩⟩⟩⟩⟩⟩⟩⟩⟩⟩⟩⟩
theorem sc290_4 : ∀ q ∈ tc290_4, Snd xtb M290 q.1 q.2 := List.forall_mem_cons.mpr ⟨snd_imul d290_199, List.forall_mem_cons.mpr ⟨snd_iadd d290_200, List.forall_mem_cons.mpr ⟨snd_istore d290_201, List.forall_mem_cons.mpr ⟨snd_aload_n d290_203 rfl, List.forall_mem_cons.mpr ⟨snd_getR (by decide) (by decide) rfl wd1386 d290_204, List.forall_mem_cons.mpr ⟨snd_iload d290_207, List.forall_mem_cons.mpr ⟨snd_aload_n d290_209 rfl, List.forall_mem_cons.mpr ⟨snd_getR (by decide) (by decide) rfl wd1384 d290_210, List.forall_mem_cons.mpr ⟨snd_iload d290_213, List.forall_mem_cons.mpr ⟨snd_iald d290_215, List.forall_mem_cons.mpr ⟨snd_iast d290_216, List.forall_mem_cons.mpr ⟨snd_aload_n d290_217 rfl, List.forall_mem_cons.mpr ⟨snd_getR (by decide) (by decide) rfl wd1386 d290_218, List.forall_mem_cons.mpr ⟨snd_iload d290_221, List.forall_mem_cons.mpr ⟨snd_iconst d290_223 (by decide +kernel), List.forall_mem_cons.mpr ⟨snd_iadd d290_224, List.forall_mem_cons.mpr ⟨snd_aload_n d290_225 rfl, List.forall_mem_cons.mpr ⟨snd_aload_n d290_226 rfl, List.forall_mem_cons.mpr ⟨snd_getR (by decide) (by decide) rfl wd1384 d290_227, List.forall_mem_cons.mpr ⟨snd_iload d290_230, List.forall_mem_cons.mpr ⟨snd_iald d290_232, List.forall_mem_cons.mpr ⟨snd_iload d290_233, List.forall_mem_cons.mpr ⟨snd_iload_n d290_235 rfl, List.forall_mem_cons.mpr ⟨snd_callV (by decide) rfl cn245 ⟨by decide +kernel, by decide +kernel⟩ cm245 (List.forall_mem_cons.mpr ⟨wd1769, cw245⟩) d290_236, List.forall_mem_cons.mpr ⟨snd_iast d290_239, List.forall_mem_cons.mpr ⟨snd_aload_n d290_240 rfl, List.forall_mem_cons.mpr ⟨snd_getR (by decide) (by decide) rfl wd1386 d290_241, List.forall_mem_cons.mpr ⟨snd_iload d290_244, List.forall_mem_cons.mpr ⟨snd_iconst d290_246 (by decide +kernel), List.forall_mem_cons.mpr ⟨snd_iadd d290_247, fun _ h => by cases h⟩⟩⟩⟩⟩⟩⟩⟩⟩⟩⟩⟩⟩⟩⟩⟩⟩⟩⟩⟩⟩⟩⟩⟩⟩⟩⟩⟩⟩⟩
theorem sc290_5 : ∀ q ∈ tc290_5, Snd xtb M290 q.1 q.2 := List.forall_mem_cons.mpr ⟨snd_aload_n d290_248 rfl, List.forall_mem_cons.mpr ⟨snd_aload_n d290_249 rfl, List.forall_mem_cons.mpr ⟨snd_getR (by decide) (by decide) rfl wd1384 d290_250, List.forall_mem_cons.mpr ⟨snd_iload d290_253, List.forall_mem_cons.mpr ⟨snd_iald d290_255, List.forall_mem_cons.mpr ⟨snd_iload d290_256, List.forall_mem_cons.mpr ⟨snd_callV (by decide) rfl cn248 ⟨by decide +kernel, by decide +kernel⟩ cm248 (List.forall_mem_cons.mpr ⟨wd1793, cw248⟩) d290_258, List.forall_mem_cons.mpr ⟨snd_iast d290_261, List.forall_mem_cons.mpr ⟨snd_aload_n d290_262 rfl, List.forall_mem_cons.mpr ⟨snd_getR (by decide) (by decide) rfl wd1386 d290_263, List.forall_mem_cons.mpr ⟨snd_iload d290_266, List.forall_mem_cons.mpr ⟨snd_iconst d290_268 (by decide +kernel), List.forall_mem_cons.mpr ⟨snd_iadd d290_269, List.forall_mem_cons.mpr ⟨snd_aload_n d290_270 rfl, List.forall_mem_cons.mpr ⟨snd_aload_n d290_271 rfl, List.forall_mem_cons.mpr ⟨snd_getR (by decide) (by decide) rfl wd1384 d290_272, List.forall_mem_cons.mpr ⟨snd_iload d290_275, List.forall_mem_cons.mpr ⟨snd_iald d290_277, List.forall_mem_cons.mpr ⟨snd_iload d290_278, List.forall_mem_cons.mpr ⟨snd_iload_n d290_280 rfl, List.forall_mem_cons.mpr ⟨snd_iload d290_281, List.forall_mem_cons.mpr ⟨snd_callV (by decide) rfl cn247 ⟨by decide +kernel, by decide +kernel⟩ cm247 (List.forall_mem_cons.mpr ⟨wd1781, cw247⟩) d290_283, List.forall_mem_cons.mpr ⟨snd_if_eq d290_286 (by decide), List.forall_mem_cons.mpr ⟨snd_iconst d290_289 (by decide +kernel), List.forall_mem_cons.mpr ⟨snd_goto d290_290 (by decide), List.forall_mem_cons.mpr ⟨snd_iconst d290_293 (by decide +kernel), List.forall_mem_cons.mpr ⟨snd_iast d290_294, List.forall_mem_cons.mpr ⟨snd_iinc d290_295 (by decide +kernel), List.forall_mem_cons.mpr ⟨snd_goto d290_298 (by decide), List.forall_mem_cons.mpr ⟨snd_aload_n d290_301 rfl, fun _ h => by cases h⟩⟩⟩⟩⟩⟩⟩⟩⟩⟩⟩⟩⟩⟩⟩⟩⟩⟩⟩⟩⟩⟩⟩⟩⟩⟩⟩⟩⟩⟩
theorem sc290_6 : ∀ q ∈ tc290_6, Snd xtb M290 q.1 q.2 := List.forall_mem_cons.mpr ⟨snd_iconst d290_302 (by decide +kernel), List.forall_mem_cons.mpr ⟨snd_aload_n d290_303 rfl, List.forall_mem_cons.mpr ⟨snd_getI (by decide) (by decide) rfl wd1387 d290_304, List.forall_mem_cons.mpr ⟨snd_iload d290_307, List.forall_mem_cons.mpr ⟨snd_callV (by decide) rfl cn289 ⟨by decide +kernel, by decide +kernel⟩ cm289 (List.forall_mem_cons.mpr ⟨wd1929, cw289⟩) d290_309, List.forall_mem_cons.mpr ⟨snd_aload_n d290_312 rfl, List.forall_mem_cons.mpr ⟨snd_dup d290_313, List.forall_mem_cons.mpr ⟨snd_getI (by decide) (by decide) rfl wd1387 d290_314, List.forall_mem_cons.mpr ⟨snd_iconst d290_317 (by decide +kernel), List.forall_mem_cons.mpr ⟨snd_iadd d290_318, List.forall_mem_cons.mpr ⟨snd_putI (by decide) (by decide) rfl rfl wd1387 d290_319, List.forall_mem_cons.mpr ⟨snd_aload_n d290_322 rfl, List.forall_mem_cons.mpr ⟨snd_aload_n d290_323 rfl, List.forall_mem_cons.mpr ⟨snd_getI (by decide) (by decide) rfl wd1387 d290_324, List.forall_mem_cons.mpr ⟨snd_iconst d290_327 (by decide +kernel), List.forall_mem_cons.mpr ⟨snd_isub d290_328, List.forall_mem_cons.mpr ⟨snd_callV (by decide) rfl cn174 ⟨by decide +kernel, by decide +kernel⟩ cm174 (List.forall_mem_cons.mpr ⟨wd1622, cw174⟩) d290_329, List.forall_mem_cons.mpr ⟨snd_iret rfl d290_332, fun _ h => by cases h⟩⟩⟩⟩⟩⟩⟩⟩⟩⟩⟩⟩⟩⟩⟩⟩⟩⟩
theorem d291_0 : decode (mC M291) 0 = .ok (.aload_n 0, 1) := by decide +kernel
theorem d291_1 : decode (mC M291) 1 = .ok (.iconst 0, 1) := by decide +kernel
theorem d291_2 : decode (mC M291) 2 = .ok (.putfield 64, 3) := by decide +kernel
theorem d291_5 : decode (mC M291) 5 = .ok (.aload_n 0, 1) := by decide +kernel
theorem d291_6 : decode (mC M291) 6 = .ok (.iload_n 1, 1) := by decide +kernel
theorem d291_7 : decode (mC M291) 7 = .ok (.invokevirtual 375, 3) := by decide +kernel
theorem d291_10 : decode (mC M291) 10 = .ok (.ifCond .ne 9, 3) := by decide +kernel
theorem d291_13 : decode (mC M291) 13 = .ok (.aload_n 0, 1) := by decide +kernel
theorem d291_14 : decode (mC M291) 14 = .ok (.iconst 1, 1) := by decide +kernel
theorem d291_15 : decode (mC M291) 15 = .ok (.invokevirtual 70, 3) := by decide +kernel
theorem d291_18 : decode (mC M291) 18 = .ok (.ireturn, 1) := by decide +kernel
theorem d291_19 : decode (mC M291) 19 = .ok (.iload_n 2, 1) := by decide +kernel
theorem d291_20 : decode (mC M291) 20 = .ok (.iconst 1, 1) := by decide +kernel
theorem d291_21 : decode (mC M291) 21 = .ok (.aload_n 0, 1) := by decide +kernel
theorem d291_22 : decode (mC M291) 22 = .ok (.iload_n 1, 1) := by decide +kernel
theorem d291_23 : decode (mC M291) 23 = .ok (.bipush 6, 2) := by decide +kernel
theorem d291_25 : decode (mC M291) 25 = .ok (.invokevirtual 363, 3) := by decide +kernel
theorem d291_28 : decode (mC M291) 28 = .ok (.invokestatic 95, 3) := by decide +kernel
theorem d291_31 : decode (mC M291) 31 = .ok (.ifCond .ne 9, 3) := by decide +kernel
theorem d291_34 : decode (mC M291) 34 = .ok (.aload_n 0, 1) := by decide +kernel
theorem d291_35 : decode (mC M291) 35 = .ok (.iconst 2, 1) := by decide +kernel
theorem d291_36 : decode (mC M291) 36 = .ok (.invokevirtual 70, 3) := by decide +kernel
theorem d291_39 : decode (mC M291) 39 = .ok (.ireturn, 1) := by decide +kernel
theorem d291_40 : decode (mC M291) 40 = .ok (.aload_n 0, 1) := by decide +kernel
theorem d291_41 : decode (mC M291) 41 = .ok (.iload_n 1, 1) := by decide +kernel
theorem d291_42 : decode (mC M291) 42 = .ok (.invokevirtual 378, 3) := by decide +kernel
theorem d291_45 : decode (mC M291) 45 = .ok (.istore_n 3, 1) := by decide +kernel
theorem d291_46 : decode (mC M291) 46 = .ok (.aload_n 0, 1) := by decide +kernel
theorem d291_47 : decode (mC M291) 47 = .ok (.getfield 37, 3) := by decide +kernel
theorem d291_50 : decode (mC M291) 50 = .ok (.bipush 25, 2) := by decide +kernel
theorem d291_52 : decode (mC M291) 52 = .ok (.iload_n 1, 1) := by decide +kernel
theorem d291_53 : decode (mC M291) 53 = .ok (.imul, 1) := by decide +kernel
theorem d291_54 : decode (mC M291) 54 = .ok (.bipush 6, 2) := by decide +kernel
theorem d291_56 : decode (mC M291) 56 = .ok (.iadd, 1) := by decide +kernel
theorem d291_57 : decode (mC M291) 57 = .ok (.dup2, 1) := by decide +kernel
theorem d291_58 : decode (mC M291) 58 = .ok (.iaload, 1) := by decide +kernel
theorem d291_59 : decode (mC M291) 59 = .ok (.iload_n 2, 1) := by decide +kernel
theorem d291_60 : decode (mC M291) 60 = .ok (.isub, 1) := by decide +kernel
theorem d291_61 : decode (mC M291) 61 = .ok (.iastore, 1) := by decide +kernel
theorem d291_62 : decode (mC M291) 62 = .ok (.aload_n 0, 1) := by decide +kernel
theorem d291_63 : decode (mC M291) 63 = .ok (.iconst 1, 1) := by decide +kernel
theorem d291_64 : decode (mC M291) 64 = .ok (.iload_n 1, 1) := by decide +kernel
theorem d291_65 : decode (mC M291) 65 = .ok (.iload_n 2, 1) := by decide +kernel
theorem d291_66 : decode (mC M291) 66 = .ok (.invokevirtual 408, 3) := by decide +kernel
theorem d291_69 : decode (mC M291) 69 = .ok (.aload_n 0, 1) := by decide +kernel
theorem d291_70 : decode (mC M291) 70 = .ok (.iload_n 3, 1) := by decide +kernel
theorem d291_71 : decode (mC M291) 71 = .ok (.aload_n 0, 1) := by decide +kernel
theorem d291_72 : decode (mC M291) 72 = .ok (.iload_n 1, 1) := by decide +kernel
theorem d291_73 : decode (mC M291) 73 = .ok (.invokevirtual 378, 3) := by decide +kernel
theorem d291_76 : decode (mC M291) 76 = .ok (.isub, 1) := by decide +kernel
theorem d291_77 : decode (mC M291) 77 = .ok (.invokevirtual 264, 3) := by decide +kernel
theorem d291_80 : decode (mC M291) 80 = .ok (.ireturn, 1) := by decide +kernel
theorem sc291_0 : ∀ q ∈ tc291_0, Snd xtb M291 q.1 q.2 := List.forall_mem_cons.mpr ⟨snd_aload_n d291_0 rfl, List.forall_mem_cons.mpr ⟨snd_iconst d291_1 (by decide +kernel), List.forall_mem_cons.mpr ⟨snd_putI (by decide) (by decide) rfl rfl wd1367 d291_2, List.forall_mem_cons.mpr ⟨snd_aload_n d291_5 rfl, List.forall_mem_cons.mpr ⟨snd_iload_n d291_6 rfl, List.forall_mem_cons.mpr ⟨snd_callV (by decide) rfl cn261 ⟨by decide +kernel, by decide +kernel⟩ cm261 (List.forall_mem_cons.mpr ⟨wd1837, cw261⟩) d291_7, List.forall_mem_cons.mpr ⟨snd_if_ne d291_10 (by decide), List.forall_mem_cons.mpr ⟨snd_aload_n d291_13 rfl, List.forall_mem_cons.mpr ⟨snd_iconst d291_14 (by decide +kernel), List.forall_mem_cons.mpr ⟨snd_callV (by decide) rfl cn172 ⟨by decide +kernel, by decide +kernel⟩ cm172 (List.forall_mem_cons.mpr ⟨wd1476, cw172⟩) d291_15, List.forall_mem_cons.mpr ⟨snd_iret rfl d291_18, List.forall_mem_cons.mpr ⟨snd_iload_n d291_19 rfl, List.forall_mem_cons.mpr ⟨snd_iconst d291_20 (by decide +kernel), List.forall_mem_cons.mpr ⟨snd_aload_n d291_21 rfl, List.forall_mem_cons.mpr ⟨snd_iload_n d291_22 rfl, List.forall_mem_cons.mpr ⟨snd_bipush d291_23 (by decide +kernel), List.forall_mem_cons.mpr ⟨snd_callV (by decide) rfl cn262 ⟨by decide +kernel, by decide +kernel⟩ cm262 (List.forall_mem_cons.mpr ⟨wd1845, cw262⟩) d291_25, List.forall_mem_cons.mpr ⟨snd_callS cn175 ⟨by decide +kernel, by decide +kernel⟩ cm175 (List.forall_mem_cons.mpr ⟨wd1492, cw175⟩) d291_28, List.forall_mem_cons.mpr ⟨snd_if_ne d291_31 (by decide), List.forall_mem_cons.mpr ⟨snd_aload_n d291_34 rfl, List.forall_mem_cons.mpr ⟨snd_iconst d291_35 (by decide +kernel), List.forall_mem_cons.mpr ⟨snd_callV (by decide) rfl cn172 ⟨by decide +kernel, by decide +kernel⟩ cm172 (List.forall_mem_cons.mpr ⟨wd1476, cw172⟩) d291_36, List.forall_mem_cons.mpr ⟨snd_iret rfl d291_39, List.forall_mem_cons.mpr ⟨snd_aload_n d291_40 rfl, List.forall_mem_cons.mpr ⟨snd_iload_n d291_41 rfl, List.forall_mem_cons.mpr ⟨snd_callV (by decide) rfl cn266 ⟨by decide +kernel, by decide +kernel⟩ cm266 (List.forall_mem_cons.mpr ⟨wd1841, cw266⟩) d291_42, List.forall_mem_cons.mpr ⟨snd_istore_n d291_45 rfl, List.forall_mem_cons.mpr ⟨snd_aload_n d291_46 rfl, List.forall_mem_cons.mpr ⟨snd_getR (by decide) (by decide) rfl wd1386 d291_47, List.forall_mem_cons.mpr ⟨snd_bipush d291_50 (by decide +kernel), fun _ h => by cases h⟩⟩⟩⟩⟩⟩⟩⟩⟩⟩⟩⟩⟩⟩⟩⟩⟩⟩⟩⟩⟩⟩⟩⟩⟩⟩⟩⟩⟩⟩
theorem sc291_1 : ∀ q ∈ tc291_1, Snd xtb M291 q.1 q.2 := List.forall_mem_cons.mpr ⟨snd_iload_n d291_52 rfl, List.forall_mem_cons.mpr ⟨snd_imul d291_53, List.forall_mem_cons.mpr ⟨snd_bipush d291_54 (by decide +kernel), List.forall_mem_cons.mpr ⟨snd_iadd d291_56, List.forall_mem_cons.mpr ⟨snd_dup2 d291_57, List.forall_mem_cons.mpr ⟨snd_iald d291_58, List.forall_mem_cons.mpr ⟨snd_iload_n d291_59 rfl, List.forall_mem_cons.mpr ⟨snd_isub d291_60, List.forall_mem_cons.mpr ⟨snd_iast d291_61, List.forall_mem_cons.mpr ⟨snd_aload_n d291_62 rfl, List.forall_mem_cons.mpr ⟨snd_iconst d291_63 (by decide +kernel), List.forall_mem_cons.mpr ⟨snd_iload_n d291_64 rfl, List.forall_mem_cons.mpr ⟨snd_iload_n d291_65 rfl, List.forall_mem_cons.mpr ⟨snd_callV (by decide) rfl cn289 ⟨by decide +kernel, by decide +kernel⟩ cm289 (List.forall_mem_cons.mpr ⟨wd1929, cw289⟩) d291_66, List.forall_mem_cons.mpr ⟨snd_aload_n d291_69 rfl, List.forall_mem_cons.mpr ⟨snd_iload_n d291_70 rfl, List.forall_mem_cons.mpr ⟨snd_aload_n d291_71 rfl, List.forall_mem_cons.mpr ⟨snd_iload_n d291_72 rfl, List.forall_mem_cons.mpr ⟨snd_callV (by decide) rfl cn266 ⟨by decide +kernel, by decide +kernel⟩ cm266 (List.forall_mem_cons.mpr ⟨wd1841, cw266⟩) d291_73, List.forall_mem_cons.mpr ⟨snd_isub d291_76, List.forall_mem_cons.mpr ⟨snd_callV (by decide) rfl cn174 ⟨by decide +kernel, by decide +kernel⟩ cm174 (List.forall_mem_cons.mpr ⟨wd1622, cw174⟩) d291_77, List.forall_mem_cons.mpr ⟨snd_iret rfl d291_80, fun _ h => by cases h⟩⟩⟩⟩⟩⟩⟩⟩⟩⟩⟩⟩⟩⟩⟩⟩⟩⟩⟩⟩⟩⟩
theorem d292_0 : decode (mC M292) 0 = .ok (.iconst 0, 1) := by decide +kernel
theorem d292_1 : decode (mC M292) 1 = .ok (.istore 4, 2) := by decide +kernel
theorem d292_3 : decode (mC M292) 3 = .ok (.iload 4, 2) := by decide +kernel
theorem d292_5 : decode (mC M292) 5 = .ok (.aload_n 0, 1) := by decide +kernel
theorem d292_6 : decode (mC M292) 6 = .ok (.getfield 13, 3) := by decide +kernel
theorem d292_9 : decode (mC M292) 9 = .ok (.iload_n 1, 1) := by decide +kernel
theorem d292_10 : decode (mC M292) 10 = .ok (.invokestatic 225, 3) := by decide +kernel
theorem d292_13 : decode (mC M292) 13 = .ok (.iconst 2, 1) := by decide +kernel
theorem d292_14 : decode (mC M292) 14 = .ok (.iadd, 1) := by decide +kernel
theorem d292_15 : decode (mC M292) 15 = .ok (.iaload, 1) := by decide +kernel
theorem d292_16 : decode (mC M292) 16 = .ok (.if_icmp .ge 36, 3) := by decide +kernel
theorem d292_19 : decode (mC M292) 19 = .ok (.aload_n 0, 1) := by decide +kernel
theorem d292_20 : decode (mC M292) 20 = .ok (.aload_n 0, 1) := by decide +kernel
theorem d292_21 : decode (mC M292) 21 = .ok (.iload_n 1, 1) := by decide +kernel
theorem d292_22 : decode (mC M292) 22 = .ok (.iload 4, 2) := by decide +kernel
theorem d292_24 : decode (mC M292) 24 = .ok (.invokevirtual 294, 3) := by decide +kernel
theorem d292_27 : decode (mC M292) 27 = .ok (.iload_n 2, 1) := by decide +kernel
theorem d292_28 : decode (mC M292) 28 = .ok (.iadd, 1) := by decide +kernel
theorem d292_29 : decode (mC M292) 29 = .ok (.aload_n 0, 1) := by decide +kernel
theorem d292_30 : decode (mC M292) 30 = .ok (.iload_n 1, 1) := by decide +kernel
theorem d292_31 : decode (mC M292) 31 = .ok (.iload 4, 2) := by decide +kernel
theorem d292_33 : decode (mC M292) 33 = .ok (.invokevirtual 297, 3) := by decide +kernel
theorem d292_36 : decode (mC M292) 36 = .ok (.iload_n 3, 1) := by decide +kernel
theorem d292_37 : decode (mC M292) 37 = .ok (.iadd, 1) := by decide +kernel
theorem d292_38 : decode (mC M292) 38 = .ok (.invokevirtual 287, 3) := by decide +kernel
theorem d292_41 : decode (mC M292) 41 = .ok (.ifCond .ne 5, 3) := by decide +kernel
theorem d292_44 : decode (mC M292) 44 = .ok (.iconst 0, 1) := by decide +kernel
theorem d292_45 : decode (mC M292) 45 = .ok (.ireturn, 1) := by decide +kernel
theorem d292_46 : decode (mC M292) 46 = .ok (.iinc 4 1, 3) := by decide +kernel
theorem d292_49 : decode (mC M292) 49 = .ok (.goto (-46), 3) := by decide +kernel
theorem d292_52 : decode (mC M292) 52 = .ok (.iconst 1, 1) := by decide +kernel
theorem d292_53 : decode (mC M292) 53 = .ok (.ireturn, 1) := by decide +kernel
theorem sc292_0 : ∀ q ∈ tc292_0, Snd xtb M292 q.1 q.2 := List.forall_mem_cons.mpr ⟨snd_iconst d292_0 (by decide +kernel), List.forall_mem_cons.mpr ⟨snd_istore d292_1, List.forall_mem_cons.mpr ⟨snd_iload d292_3, List.forall_mem_cons.mpr ⟨snd_aload_n d292_5 rfl, List.forall_mem_cons.mpr ⟨snd_getR (by decide) (by decide) rfl wd1370 d292_6, List.forall_mem_cons.mpr ⟨snd_iload_n d292_9 rfl, List.forall_mem_cons.mpr ⟨snd_callS cn199 ⟨by decide +kernel, by decide +kernel⟩ cm199 (List.forall_mem_cons.mpr ⟨wd1597, cw199⟩) d292_10, List.forall_mem_cons.mpr ⟨snd_iconst d292_13 (by decide +kernel), List.forall_mem_cons.mpr ⟨snd_iadd d292_14, List.forall_mem_cons.mpr ⟨snd_iald d292_15, List.forall_mem_cons.mpr ⟨snd_cmp_ge d292_16 (by decide), List.forall_mem_cons.mpr ⟨snd_aload_n d292_19 rfl, List.forall_mem_cons.mpr ⟨snd_aload_n d292_20 rfl, List.forall_mem_cons.mpr ⟨snd_iload_n d292_21 rfl, List.forall_mem_cons.mpr ⟨snd_iload d292_22, List.forall_mem_cons.mpr ⟨snd_callV (by decide) rfl cn220 ⟨by decide +kernel, by decide +kernel⟩ cm220 (List.forall_mem_cons.mpr ⟨wd1681, cw220⟩) d292_24, List.forall_mem_cons.mpr ⟨snd_iload_n d292_27 rfl, List.forall_mem_cons.mpr ⟨snd_iadd d292_28, List.forall_mem_cons.mpr ⟨snd_aload_n d292_29 rfl, List.forall_mem_cons.mpr ⟨snd_iload_n d292_30 rfl, List.forall_mem_cons.mpr ⟨snd_iload d292_31, List.forall_mem_cons.mpr ⟨snd_callV (by decide) rfl cn221 ⟨by decide +kernel, by decide +kernel⟩ cm221 (List.forall_mem_cons.mpr ⟨wd1685, cw221⟩) d292_33, List.forall_mem_cons.mpr ⟨snd_iload_n d292_36 rfl, List.forall_mem_cons.mpr ⟨snd_iadd d292_37, List.forall_mem_cons.mpr ⟨snd_callV (by decide) rfl cn223 ⟨by decide +kernel, by decide +kernel⟩ cm223 (List.forall_mem_cons.mpr ⟨wd1706, cw223⟩) d292_38, List.forall_mem_cons.mpr ⟨snd_if_ne d292_41 (by decide), List.forall_mem_cons.mpr ⟨snd_iconst d292_44 (by decide +kernel), List.forall_mem_cons.mpr ⟨snd_zret rfl d292_45, List.forall_mem_cons.mpr ⟨snd_iinc d292_46 (by decide +kernel), List.forall_mem_cons.mpr ⟨snd_goto d292_49 (by decide), fun _ h => by cases h⟩⟩⟩⟩⟩⟩⟩⟩⟩⟩⟩⟩⟩⟩⟩⟩⟩⟩⟩⟩⟩⟩⟩⟩⟩⟩⟩⟩⟩⟩
theorem sc292_1 : ∀ q ∈ tc292_1, Snd xtb M292 q.1 q.2 := List.forall_mem_cons.mpr ⟨snd_iconst d292_52 (by decide +kernel), List.forall_mem_cons.mpr ⟨snd_zret rfl d292_53, fun _ h => by cases h⟩⟩

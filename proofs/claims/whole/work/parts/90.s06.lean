/-! soundness -/
theorem d225_0 : decode (mC M225) 0 = .ok (.aload_n 0, 1) := by decide +kernel
theorem d225_1 : decode (mC M225) 1 = .ok (.iload_n 1, 1) := by decide +kernel
theorem d225_2 : decode (mC M225) 2 = .ok (.iload_n 2, 1) := by decide +kernel
theorem d225_3 : decode (mC M225) 3 = .ok (.invokevirtual 283, 3) := by decide +kernel
theorem d225_6 : decode (mC M225) 6 = .ok (.istore 5, 2) := by decide +kernel
theorem d225_8 : decode (mC M225) 8 = .ok (.iload 5, 2) := by decide +kernel
theorem d225_10 : decode (mC M225) 10 = .ok (.ifCond .ne 17, 3) := by decide +kernel
theorem d225_13 : decode (mC M225) 13 = .ok (.aload_n 0, 1) := by decide +kernel
theorem d225_14 : decode (mC M225) 14 = .ok (.iload_n 3, 1) := by decide +kernel
theorem d225_15 : decode (mC M225) 15 = .ok (.iload 4, 2) := by decide +kernel
theorem d225_17 : decode (mC M225) 17 = .ok (.invokevirtual 287, 3) := by decide +kernel
theorem d225_20 : decode (mC M225) 20 = .ok (.ifCond .ne 7, 3) := by decide +kernel
theorem d225_23 : decode (mC M225) 23 = .ok (.iconst 2, 1) := by decide +kernel
theorem d225_24 : decode (mC M225) 24 = .ok (.goto 5, 3) := by decide +kernel
theorem d225_27 : decode (mC M225) 27 = .ok (.iload 5, 2) := by decide +kernel
theorem d225_29 : decode (mC M225) 29 = .ok (.ireturn, 1) := by decide +kernel
theorem sc225_0 : ∀ q ∈ tc225_0, Snd xtb M225 q.1 q.2 := List.forall_mem_cons.mpr ⟨snd_aload_n d225_0 rfl, List.forall_mem_cons.mpr ⟨snd_iload_n d225_1 rfl, List.forall_mem_cons.mpr ⟨snd_iload_n d225_2 rfl, List.forall_mem_cons.mpr ⟨snd_callV (by decide) rfl cn224 ⟨by decide +kernel, by decide +kernel⟩ cm224 (List.forall_mem_cons.mpr ⟨wd1662, cw224⟩) d225_3, List.forall_mem_cons.mpr ⟨snd_istore d225_6, List.forall_mem_cons.mpr ⟨snd_iload d225_8, List.forall_mem_cons.mpr ⟨snd_if_ne d225_10 (by decide), List.forall_mem_cons.mpr ⟨snd_aload_n d225_13 rfl, List.forall_mem_cons.mpr ⟨snd_iload_n d225_14 rfl, List.forall_mem_cons.mpr ⟨snd_iload d225_15, List.forall_mem_cons.mpr ⟨snd_callV (by decide) rfl cn223 ⟨by decide +kernel, by decide +kernel⟩ cm223 (List.forall_mem_cons.mpr ⟨wd1706, cw223⟩) d225_17, List.forall_mem_cons.mpr ⟨snd_if_ne d225_20 (by decide), List.forall_mem_cons.mpr ⟨snd_iconst d225_23 (by decide +kernel), List.forall_mem_cons.mpr ⟨snd_goto d225_24 (by decide), List.forall_mem_cons.mpr ⟨snd_iload d225_27, List.forall_mem_cons.mpr ⟨snd_iret rfl d225_29, fun _ h => by cases h⟩⟩⟩⟩⟩⟩⟩⟩⟩⟩⟩⟩⟩⟩⟩⟩
theorem d226_0 : decode (mC M226) 0 = .ok (.aload_n 0, 1) := by decide +kernel
theorem d226_1 : decode (mC M226) 1 = .ok (.iconst 0, 1) := by decide +kernel
theorem d226_2 : decode (mC M226) 2 = .ok (.putfield 64, 3) := by decide +kernel
theorem d226_5 : decode (mC M226) 5 = .ok (.aload_n 0, 1) := by decide +kernel
theorem d226_6 : decode (mC M226) 6 = .ok (.aload_n 0, 1) := by decide +kernel
theorem d226_7 : decode (mC M226) 7 = .ok (.iload_n 1, 1) := by decide +kernel
theorem d226_8 : decode (mC M226) 8 = .ok (.invokevirtual 271, 3) := by decide +kernel
theorem d226_11 : decode (mC M226) 11 = .ok (.iload_n 2, 1) := by decide +kernel
theorem d226_12 : decode (mC M226) 12 = .ok (.invokevirtual 283, 3) := by decide +kernel
theorem d226_15 : decode (mC M226) 15 = .ok (.istore_n 3, 1) := by decide +kernel
theorem d226_16 : decode (mC M226) 16 = .ok (.iload_n 3, 1) := by decide +kernel
theorem d226_17 : decode (mC M226) 17 = .ok (.ifCond .le 11, 3) := by decide +kernel
theorem d226_20 : decode (mC M226) 20 = .ok (.aload_n 0, 1) := by decide +kernel
theorem d226_21 : decode (mC M226) 21 = .ok (.iload_n 3, 1) := by decide +kernel
theorem d226_22 : decode (mC M226) 22 = .ok (.invokevirtual 70, 3) := by decide +kernel
theorem d226_25 : decode (mC M226) 25 = .ok (.goto 13, 3) := by decide +kernel
theorem d226_28 : decode (mC M226) 28 = .ok (.aload_n 0, 1) := by decide +kernel
theorem d226_29 : decode (mC M226) 29 = .ok (.aload_n 0, 1) := by decide +kernel
theorem d226_30 : decode (mC M226) 30 = .ok (.iload_n 1, 1) := by decide +kernel
theorem d226_31 : decode (mC M226) 31 = .ok (.iload_n 2, 1) := by decide +kernel
theorem d226_32 : decode (mC M226) 32 = .ok (.invokevirtual 291, 3) := by decide +kernel
theorem d226_35 : decode (mC M226) 35 = .ok (.invokevirtual 264, 3) := by decide +kernel
theorem d226_38 : decode (mC M226) 38 = .ok (.ireturn, 1) := by decide +kernel
theorem sc226_0 : ∀ q ∈ tc226_0, Snd xtb M226 q.1 q.2 := List.forall_mem_cons.mpr ⟨snd_aload_n d226_0 rfl, List.forall_mem_cons.mpr ⟨snd_iconst d226_1 (by decide +kernel), List.forall_mem_cons.mpr ⟨snd_putI (by decide) (by decide) rfl rfl wd1367 d226_2, List.forall_mem_cons.mpr ⟨snd_aload_n d226_5 rfl, List.forall_mem_cons.mpr ⟨snd_aload_n d226_6 rfl, List.forall_mem_cons.mpr ⟨snd_iload_n d226_7 rfl, List.forall_mem_cons.mpr ⟨snd_callV (by decide) rfl cn214 ⟨by decide +kernel, by decide +kernel⟩ cm214 (List.forall_mem_cons.mpr ⟨wd1650, cw214⟩) d226_8, List.forall_mem_cons.mpr ⟨snd_iload_n d226_11 rfl, List.forall_mem_cons.mpr ⟨snd_callV (by decide) rfl cn224 ⟨by decide +kernel, by decide +kernel⟩ cm224 (List.forall_mem_cons.mpr ⟨wd1662, cw224⟩) d226_12, List.forall_mem_cons.mpr ⟨snd_istore_n d226_15 rfl, List.forall_mem_cons.mpr ⟨snd_iload_n d226_16 rfl, List.forall_mem_cons.mpr ⟨snd_if_le d226_17 (by decide), List.forall_mem_cons.mpr ⟨snd_aload_n d226_20 rfl, List.forall_mem_cons.mpr ⟨snd_iload_n d226_21 rfl, List.forall_mem_cons.mpr ⟨snd_callV (by decide) rfl cn172 ⟨by decide +kernel, by decide +kernel⟩ cm172 (List.forall_mem_cons.mpr ⟨wd1476, cw172⟩) d226_22, List.forall_mem_cons.mpr ⟨snd_goto d226_25 (by decide), List.forall_mem_cons.mpr ⟨snd_aload_n d226_28 rfl, List.forall_mem_cons.mpr ⟨snd_aload_n d226_29 rfl, List.forall_mem_cons.mpr ⟨snd_iload_n d226_30 rfl, List.forall_mem_cons.mpr ⟨snd_iload_n d226_31 rfl, List.forall_mem_cons.mpr ⟨snd_callV (by decide) rfl cn219 ⟨by decide +kernel, by decide +kernel⟩ cm219 (List.forall_mem_cons.mpr ⟨wd1669, cw219⟩) d226_32, List.forall_mem_cons.mpr ⟨snd_callV (by decide) rfl cn174 ⟨by decide +kernel, by decide +kernel⟩ cm174 (List.forall_mem_cons.mpr ⟨wd1622, cw174⟩) d226_35, List.forall_mem_cons.mpr ⟨snd_iret rfl d226_38, fun _ h => by cases h⟩⟩⟩⟩⟩⟩⟩⟩⟩⟩⟩⟩⟩⟩⟩⟩⟩⟩⟩⟩⟩⟩⟩
theorem d227_0 : decode (mC M227) 0 = .ok (.aload_n 0, 1) := by decide +kernel
theorem d227_1 : decode (mC M227) 1 = .ok (.iconst 0, 1) := by decide +kernel
theorem d227_2 : decode (mC M227) 2 = .ok (.putfield 64, 3) := by decide +kernel
theorem d227_5 : decode (mC M227) 5 = .ok (.aload_n 0, 1) := by decide +kernel
theorem d227_6 : decode (mC M227) 6 = .ok (.aload_n 0, 1) := by decide +kernel
theorem d227_7 : decode (mC M227) 7 = .ok (.iload_n 1, 1) := by decide +kernel
theorem d227_8 : decode (mC M227) 8 = .ok (.invokevirtual 271, 3) := by decide +kernel
theorem d227_11 : decode (mC M227) 11 = .ok (.ifCond .eq 17, 3) := by decide +kernel
theorem d227_14 : decode (mC M227) 14 = .ok (.iload 4, 2) := by decide +kernel
theorem d227_16 : decode (mC M227) 16 = .ok (.iconst 0, 1) := by decide +kernel
theorem d227_17 : decode (mC M227) 17 = .ok (.iconst 1, 1) := by decide +kernel
theorem d227_18 : decode (mC M227) 18 = .ok (.invokestatic 95, 3) := by decide +kernel
theorem d227_21 : decode (mC M227) 21 = .ok (.ifCond .eq 7, 3) := by decide +kernel
theorem d227_24 : decode (mC M227) 24 = .ok (.iconst 1, 1) := by decide +kernel
theorem d227_25 : decode (mC M227) 25 = .ok (.goto 4, 3) := by decide +kernel
theorem d227_28 : decode (mC M227) 28 = .ok (.iconst 0, 1) := by decide +kernel
theorem d227_29 : decode (mC M227) 29 = .ok (.iload_n 2, 1) := by decide +kernel
theorem d227_30 : decode (mC M227) 30 = .ok (.invokevirtual 283, 3) := by decide +kernel
theorem d227_33 : decode (mC M227) 33 = .ok (.istore 5, 2) := by decide +kernel
theorem d227_35 : decode (mC M227) 35 = .ok (.iload 5, 2) := by decide +kernel
theorem d227_37 : decode (mC M227) 37 = .ok (.ifCond .le 10, 3) := by decide +kernel
theorem d227_40 : decode (mC M227) 40 = .ok (.aload_n 0, 1) := by decide +kernel
theorem d227_41 : decode (mC M227) 41 = .ok (.iload 5, 2) := by decide +kernel
theorem d227_43 : decode (mC M227) 43 = .ok (.invokevirtual 70, 3) := by decide +kernel
theorem d227_46 : decode (mC M227) 46 = .ok (.ireturn, 1) := by decide +kernel
theorem d227_47 : decode (mC M227) 47 = .ok (.iload_n 3, 1) := by decide +kernel
theorem d227_48 : decode (mC M227) 48 = .ok (.iconst 0, 1) := by decide +kernel
theorem d227_49 : decode (mC M227) 49 = .ok (.aload_n 0, 1) := by decide +kernel
theorem d227_50 : decode (mC M227) 50 = .ok (.iload_n 1, 1) := by decide +kernel
theorem d227_51 : decode (mC M227) 51 = .ok (.iload_n 2, 1) := by decide +kernel
theorem d227_52 : decode (mC M227) 52 = .ok (.invokevirtual 291, 3) := by decide +kernel
theorem d227_55 : decode (mC M227) 55 = .ok (.iconst 1, 1) := by decide +kernel
theorem d227_56 : decode (mC M227) 56 = .ok (.isub, 1) := by decide +kernel
theorem d227_57 : decode (mC M227) 57 = .ok (.invokestatic 95, 3) := by decide +kernel
theorem d227_60 : decode (mC M227) 60 = .ok (.ifCond .ne 9, 3) := by decide +kernel
theorem d227_63 : decode (mC M227) 63 = .ok (.aload_n 0, 1) := by decide +kernel
theorem d227_64 : decode (mC M227) 64 = .ok (.iconst 1, 1) := by decide +kernel
theorem d227_65 : decode (mC M227) 65 = .ok (.invokevirtual 70, 3) := by decide +kernel
theorem d227_68 : decode (mC M227) 68 = .ok (.ireturn, 1) := by decide +kernel
theorem d227_69 : decode (mC M227) 69 = .ok (.aload_n 0, 1) := by decide +kernel
theorem d227_70 : decode (mC M227) 70 = .ok (.iload_n 1, 1) := by decide +kernel
theorem d227_71 : decode (mC M227) 71 = .ok (.iload_n 2, 1) := by decide +kernel
theorem d227_72 : decode (mC M227) 72 = .ok (.invokevirtual 277, 3) := by decide +kernel
theorem d227_75 : decode (mC M227) 75 = .ok (.istore 6, 2) := by decide +kernel
theorem d227_77 : decode (mC M227) 77 = .ok (.aload_n 0, 1) := by decide +kernel
theorem d227_78 : decode (mC M227) 78 = .ok (.iload 4, 2) := by decide +kernel
theorem d227_80 : decode (mC M227) 80 = .ok (.ifCond .ne 13, 3) := by decide +kernel
theorem d227_83 : decode (mC M227) 83 = .ok (.aload_n 0, 1) := by decide +kernel
theorem d227_84 : decode (mC M227) 84 = .ok (.iload 6, 2) := by decide +kernel
theorem d227_86 : decode (mC M227) 86 = .ok (.iload_n 3, 1) := by decide +kernel
theorem d227_87 : decode (mC M227) 87 = .ok (.invokevirtual 294, 3) := by decide +kernel
theorem d227_90 : decode (mC M227) 90 = .ok (.goto 10, 3) := by decide +kernel
theorem d227_93 : decode (mC M227) 93 = .ok (.aload_n 0, 1) := by decide +kernel
theorem d227_94 : decode (mC M227) 94 = .ok (.iload 6, 2) := by decide +kernel
theorem d227_96 : decode (mC M227) 96 = .ok (.iload_n 3, 1) := by decide +kernel
theorem d227_97 : decode (mC M227) 97 = .ok (.invokevirtual 297, 3) := by decide +kernel
theorem d227_100 : decode (mC M227) 100 = .ok (.invokevirtual 264, 3) := by decide +kernel
theorem d227_103 : decode (mC M227) 103 = .ok (.ireturn, 1) := by decide +kernel
theorem sc227_0 : ∀ q ∈ tc227_0, Snd xtb M227 q.1 q.2 := List.forall_mem_cons.mpr ⟨snd_aload_n d227_0 rfl, List.forall_mem_cons.mpr ⟨snd_iconst d227_1 (by decide +kernel), List.forall_mem_cons.mpr ⟨snd_putI (by decide) (by decide) rfl rfl wd1367 d227_2, List.forall_mem_cons.mpr ⟨snd_aload_n d227_5 rfl, List.forall_mem_cons.mpr ⟨snd_aload_n d227_6 rfl, List.forall_mem_cons.mpr ⟨snd_iload_n d227_7 rfl, List.forall_mem_cons.mpr ⟨snd_callV (by decide) rfl cn214 ⟨by decide +kernel, by decide +kernel⟩ cm214 (List.forall_mem_cons.mpr ⟨wd1650, cw214⟩) d227_8, List.forall_mem_cons.mpr ⟨snd_if_eq d227_11 (by decide), List.forall_mem_cons.mpr ⟨snd_iload d227_14, List.forall_mem_cons.mpr ⟨snd_iconst d227_16 (by decide +kernel), List.forall_mem_cons.mpr ⟨snd_iconst d227_17 (by decide +kernel), List.forall_mem_cons.mpr ⟨snd_callS cn175 ⟨by decide +kernel, by decide +kernel⟩ cm175 (List.forall_mem_cons.mpr ⟨wd1492, cw175⟩) d227_18, List.forall_mem_cons.mpr ⟨snd_if_eq d227_21 (by decide), List.forall_mem_cons.mpr ⟨snd_iconst d227_24 (by decide +kernel), List.forall_mem_cons.mpr ⟨snd_goto d227_25 (by decide), List.forall_mem_cons.mpr ⟨snd_iconst d227_28 (by decide +kernel), List.forall_mem_cons.mpr ⟨snd_iload_n d227_29 rfl, List.forall_mem_cons.mpr ⟨snd_callV (by decide) rfl cn224 ⟨by decide +kernel, by decide +kernel⟩ cm224 (List.forall_mem_cons.mpr ⟨wd1662, cw224⟩) d227_30, List.forall_mem_cons.mpr ⟨snd_istore d227_33, List.forall_mem_cons.mpr ⟨snd_iload d227_35, List.forall_mem_cons.mpr ⟨snd_if_le d227_37 (by decide), List.forall_mem_cons.mpr ⟨snd_aload_n d227_40 rfl, List.forall_mem_cons.mpr ⟨snd_iload d227_41, List.forall_mem_cons.mpr ⟨snd_callV (by decide) rfl cn172 ⟨by decide +kernel, by decide +kernel⟩ cm172 (List.forall_mem_cons.mpr ⟨wd1476, cw172⟩) d227_43, List.forall_mem_cons.mpr ⟨snd_iret rfl d227_46, List.forall_mem_cons.mpr ⟨snd_iload_n d227_47 rfl, List.forall_mem_cons.mpr ⟨snd_iconst d227_48 (by decide +kernel), List.forall_mem_cons.mpr ⟨snd_aload_n d227_49 rfl, List.forall_mem_cons.mpr ⟨snd_iload_n d227_50 rfl, List.forall_mem_cons.mpr ⟨snd_iload_n d227_51 rfl, fun _ h => by cases h⟩⟩⟩⟩⟩⟩⟩⟩⟩⟩⟩⟩⟩⟩⟩⟩⟩⟩⟩⟩⟩⟩⟩⟩⟩⟩⟩⟩⟩⟩
theorem sc227_1 : ∀ q ∈ tc227_1, Snd xtb M227 q.1 q.2 := List.forall_mem_cons.mpr ⟨snd_callV (by decide) rfl cn219 ⟨by decide +kernel, by decide +kernel⟩ cm219 (List.forall_mem_cons.mpr ⟨wd1669, cw219⟩) d227_52, List.forall_mem_cons.mpr ⟨snd_iconst d227_55 (by decide +kernel), List.forall_mem_cons.mpr ⟨snd_isub d227_56, List.forall_mem_cons.mpr ⟨snd_callS cn175 ⟨by decide +kernel, by decide +kernel⟩ cm175 (List.forall_mem_cons.mpr ⟨wd1492, cw175⟩) d227_57, List.forall_mem_cons.mpr ⟨snd_if_ne d227_60 (by decide), List.forall_mem_cons.mpr ⟨snd_aload_n d227_63 rfl, List.forall_mem_cons.mpr ⟨snd_iconst d227_64 (by decide +kernel), List.forall_mem_cons.mpr ⟨snd_callV (by decide) rfl cn172 ⟨by decide +kernel, by decide +kernel⟩ cm172 (List.forall_mem_cons.mpr ⟨wd1476, cw172⟩) d227_65, List.forall_mem_cons.mpr ⟨snd_iret rfl d227_68, List.forall_mem_cons.mpr ⟨snd_aload_n d227_69 rfl, List.forall_mem_cons.mpr ⟨snd_iload_n d227_70 rfl, List.forall_mem_cons.mpr ⟨snd_iload_n d227_71 rfl, List.forall_mem_cons.mpr ⟨snd_callV (by decide) rfl cn218 ⟨by decide +kernel, by decide +kernel⟩ cm218 (List.forall_mem_cons.mpr ⟨wd1673, cw218⟩) d227_72, List.forall_mem_cons.mpr ⟨snd_istore d227_75, List.forall_mem_cons.mpr ⟨snd_aload_n d227_77 rfl, List.forall_mem_cons.mpr ⟨snd_iload d227_78, List.forall_mem_cons.mpr ⟨snd_if_ne d227_80 (by decide), List.forall_mem_cons.mpr ⟨snd_aload_n d227_83 rfl, List.forall_mem_cons.mpr ⟨snd_iload d227_84, List.forall_mem_cons.mpr ⟨snd_iload_n d227_86 rfl, List.forall_mem_cons.mpr ⟨snd_callV (by decide) rfl cn220 ⟨by decide +kernel, by decide +kernel⟩ cm220 (List.forall_mem_cons.mpr ⟨wd1681, cw220⟩) d227_87, List.forall_mem_cons.mpr ⟨snd_goto d227_90 (by decide), List.forall_mem_cons.mpr ⟨snd_aload_n d227_93 rfl, List.forall_mem_cons.mpr ⟨snd_iload d227_94, List.forall_mem_cons.mpr ⟨snd_iload_n d227_96 rfl, List.forall_mem_cons.mpr ⟨snd_callV (by decide) rfl cn221 ⟨by decide +kernel, by decide +kernel⟩ cm221 (List.forall_mem_cons.mpr ⟨wd1685, cw221⟩) d227_97, List.forall_mem_cons.mpr ⟨snd_callV (by decide) rfl cn174 ⟨by decide +kernel, by decide +kernel⟩ cm174 (List.forall_mem_cons.mpr ⟨wd1622, cw174⟩) d227_100, List.forall_mem_cons.mpr ⟨snd_iret rfl d227_103, fun _ h => by cases h⟩⟩⟩⟩⟩⟩⟩⟩⟩⟩⟩⟩⟩⟩⟩⟩⟩⟩⟩⟩⟩⟩⟩⟩⟩⟩⟩⟩
theorem d228_0 : decode (mC M228) 0 = .ok (.aload_n 0, 1) := by decide +kernel
theorem d228_1 : decode (mC M228) 1 = .ok (.iconst 0, 1) := by decide +kernel
theorem d228_2 : decode (mC M228) 2 = .ok (.putfield 64, 3) := by decide +kernel
theorem d228_5 : decode (mC M228) 5 = .ok (.aload_n 0, 1) := by decide +kernel
theorem d228_6 : decode (mC M228) 6 = .ok (.aload_n 0, 1) := by decide +kernel
theorem d228_7 : decode (mC M228) 7 = .ok (.iload_n 1, 1) := by decide +kernel
theorem d228_8 : decode (mC M228) 8 = .ok (.invokevirtual 271, 3) := by decide +kernel
theorem d228_11 : decode (mC M228) 11 = .ok (.iload_n 2, 1) := by decide +kernel
theorem d228_12 : decode (mC M228) 12 = .ok (.invokevirtual 283, 3) := by decide +kernel
theorem d228_15 : decode (mC M228) 15 = .ok (.istore_n 3, 1) := by decide +kernel
theorem d228_16 : decode (mC M228) 16 = .ok (.iload_n 3, 1) := by decide +kernel
theorem d228_17 : decode (mC M228) 17 = .ok (.ifCond .le 9, 3) := by decide +kernel
theorem d228_20 : decode (mC M228) 20 = .ok (.aload_n 0, 1) := by decide +kernel
theorem d228_21 : decode (mC M228) 21 = .ok (.iload_n 3, 1) := by decide +kernel
theorem d228_22 : decode (mC M228) 22 = .ok (.invokevirtual 300, 3) := by decide +kernel
theorem d228_25 : decode (mC M228) 25 = .ok (.ireturn, 1) := by decide +kernel
theorem d228_26 : decode (mC M228) 26 = .ok (.aload_n 0, 1) := by decide +kernel
theorem d228_27 : decode (mC M228) 27 = .ok (.iload_n 1, 1) := by decide +kernel
theorem d228_28 : decode (mC M228) 28 = .ok (.iload_n 2, 1) := by decide +kernel
theorem d228_29 : decode (mC M228) 29 = .ok (.invokevirtual 277, 3) := by decide +kernel
theorem d228_32 : decode (mC M228) 32 = .ok (.istore 4, 2) := by decide +kernel
theorem d228_34 : decode (mC M228) 34 = .ok (.aload_n 0, 1) := by decide +kernel
theorem d228_35 : decode (mC M228) 35 = .ok (.iload_n 1, 1) := by decide +kernel
theorem d228_36 : decode (mC M228) 36 = .ok (.iload_n 2, 1) := by decide +kernel
theorem d228_37 : decode (mC M228) 37 = .ok (.invokevirtual 291, 3) := by decide +kernel
theorem d228_40 : decode (mC M228) 40 = .ok (.istore 5, 2) := by decide +kernel
theorem d228_42 : decode (mC M228) 42 = .ok (.iconst 0, 1) := by decide +kernel
theorem d228_43 : decode (mC M228) 43 = .ok (.istore 6, 2) := by decide +kernel
theorem d228_45 : decode (mC M228) 45 = .ok (.iconst 0, 1) := by decide +kernel
theorem d228_46 : decode (mC M228) 46 = .ok (.istore 7, 2) := by decide +kernel
theorem d228_48 : decode (mC M228) 48 = .ok (.iload 7, 2) := by decide +kernel
theorem d228_50 : decode (mC M228) 50 = .ok (.iload 5, 2) := by decide +kernel
theorem d228_52 : decode (mC M228) 52 = .ok (.if_icmp .ge 58, 3) := by decide +kernel
theorem d228_55 : decode (mC M228) 55 = .ok (.iload 7, 2) := by decide +kernel
theorem d228_57 : decode (mC M228) 57 = .ok (.iconst 1, 1) := by decide +kernel
theorem d228_58 : decode (mC M228) 58 = .ok (.iadd, 1) := by decide +kernel
theorem d228_59 : decode (mC M228) 59 = .ok (.iload 5, 2) := by decide +kernel
theorem d228_61 : decode (mC M228) 61 = .ok (.irem, 1) := by decide +kernel
theorem d228_62 : decode (mC M228) 62 = .ok (.istore 8, 2) := by decide +kernel
theorem d228_64 : decode (mC M228) 64 = .ok (.iload 6, 2) := by decide +kernel
theorem d228_66 : decode (mC M228) 66 = .ok (.aload_n 0, 1) := by decide +kernel
theorem d228_67 : decode (mC M228) 67 = .ok (.iload 4, 2) := by decide +kernel
theorem d228_69 : decode (mC M228) 69 = .ok (.iload 7, 2) := by decide +kernel
theorem d228_71 : decode (mC M228) 71 = .ok (.invokevirtual 294, 3) := by decide +kernel
theorem d228_74 : decode (mC M228) 74 = .ok (.aload_n 0, 1) := by decide +kernel
theorem d228_75 : decode (mC M228) 75 = .ok (.iload 4, 2) := by decide +kernel
theorem d228_77 : decode (mC M228) 77 = .ok (.iload 8, 2) := by decide +kernel
theorem d228_79 : decode (mC M228) 79 = .ok (.invokevirtual 297, 3) := by decide +kernel
theorem d228_82 : decode (mC M228) 82 = .ok (.imul, 1) := by decide +kernel
theorem d228_83 : decode (mC M228) 83 = .ok (.aload_n 0, 1) := by decide +kernel
theorem d228_84 : decode (mC M228) 84 = .ok (.iload 4, 2) := by decide +kernel
theorem d228_86 : decode (mC M228) 86 = .ok (.iload 8, 2) := by decide +kernel
theorem d228_88 : decode (mC M228) 88 = .ok (.invokevirtual 294, 3) := by decide +kernel
theorem d228_91 : decode (mC M228) 91 = .ok (.aload_n 0, 1) := by decide +kernel
theorem d228_92 : decode (mC M228) 92 = .ok (.iload 4, 2) := by decide +kernel
theorem d228_94 : decode (mC M228) 94 = .ok (.iload 7, 2) := by decide +kernel
theorem d228_96 : decode (mC M228) 96 = .ok (.invokevirtual 297, 3) := by decide +kernel
theorem d228_99 : decode (mC M228) 99 = .ok (.imul, 1) := by decide +kernel
theorem d228_100 : decode (mC M228) 100 = .ok (.isub, 1) := by decide +kernel
theorem d228_101 : decode (mC M228) 101 = .ok (.iadd, 1) := by decide +kernel
theorem d228_102 : decode (mC M228) 102 = .ok (.istore 6, 2) := by decide +kernel
theorem d228_104 : decode (mC M228) 104 = .ok (.iinc 7 1, 3) := by decide +kernel
theorem d228_107 : decode (mC M228) 107 = .ok (.goto (-59), 3) := by decide +kernel
theorem d228_110 : decode (mC M228) 110 = .ok (.aload_n 0, 1) := by decide +kernel
theorem d228_111 : decode (mC M228) 111 = .ok (.iload 6, 2) := by decide +kernel
theorem d228_113 : decode (mC M228) 113 = .ok (.invokevirtual 264, 3) := by decide +kernel
theorem d228_116 : decode (mC M228) 116 = .ok (.ireturn, 1) := by decide +kernel
theorem sc228_0 : ∀ q ∈ tc228_0, Snd xtb M228 q.1 q.2 := List.forall_mem_cons.mpr ⟨snd_aload_n d228_0 rfl, List.forall_mem_cons.mpr ⟨snd_iconst d228_1 (by decide +kernel), List.forall_mem_cons.mpr ⟨snd_putI (by decide) (by decide) rfl rfl wd1367 d228_2, List.forall_mem_cons.mpr ⟨snd_aload_n d228_5 rfl, List.forall_mem_cons.mpr ⟨snd_aload_n d228_6 rfl, List.forall_mem_cons.mpr ⟨snd_iload_n d228_7 rfl, List.forall_mem_cons.mpr ⟨snd_callV (by decide) rfl cn214 ⟨by decide +kernel, by decide +kernel⟩ cm214 (List.forall_mem_cons.mpr ⟨wd1650, cw214⟩) d228_8, List.forall_mem_cons.mpr ⟨snd_iload_n d228_11 rfl, List.forall_mem_cons.mpr ⟨snd_callV (by decide) rfl cn224 ⟨by decide +kernel, by decide +kernel⟩ cm224 (List.forall_mem_cons.mpr ⟨wd1662, cw224⟩) d228_12, List.forall_mem_cons.mpr ⟨snd_istore_n d228_15 rfl, List.forall_mem_cons.mpr ⟨snd_iload_n d228_16 rfl, List.forall_mem_cons.mpr ⟨snd_if_le d228_17 (by decide), List.forall_mem_cons.mpr ⟨snd_aload_n d228_20 rfl, List.forall_mem_cons.mpr ⟨snd_iload_n d228_21 rfl, List.forall_mem_cons.mpr ⟨snd_callV (by decide) rfl cn173 ⟨by decide +kernel, by decide +kernel⟩ cm173 (List.forall_mem_cons.mpr ⟨wd1693, cw173⟩) d228_22, List.forall_mem_cons.mpr ⟨snd_iret rfl d228_25, List.forall_mem_cons.mpr ⟨snd_aload_n d228_26 rfl, List.forall_mem_cons.mpr ⟨snd_iload_n d228_27 rfl, List.forall_mem_cons.mpr ⟨snd_iload_n d228_28 rfl, List.forall_mem_cons.mpr ⟨snd_callV (by decide) rfl cn218 ⟨by decide +kernel, by decide +kernel⟩ cm218 (List.forall_mem_cons.mpr ⟨wd1673, cw218⟩) d228_29, List.forall_mem_cons.mpr ⟨snd_istore d228_32, List.forall_mem_cons.mpr ⟨snd_aload_n d228_34 rfl, List.forall_mem_cons.mpr ⟨snd_iload_n d228_35 rfl, List.forall_mem_cons.mpr ⟨snd_iload_n d228_36 rfl, List.forall_mem_cons.mpr ⟨snd_callV (by decide) rfl cn219 ⟨by decide +kernel, by decide +kernel⟩ cm219 (List.forall_mem_cons.mpr ⟨wd1669, cw219⟩) d228_37, List.forall_mem_cons.mpr ⟨snd_istore d228_40, List.forall_mem_cons.mpr ⟨snd_iconst d228_42 (by decide +kernel), List.forall_mem_cons.mpr ⟨snd_istore d228_43, List.forall_mem_cons.mpr ⟨snd_iconst d228_45 (by decide +kernel), List.forall_mem_cons.mpr ⟨snd_istore d228_46, fun _ h => by cases h⟩⟩⟩⟩⟩⟩⟩⟩⟩⟩⟩⟩⟩⟩⟩⟩⟩⟩⟩⟩⟩⟩⟩⟩⟩⟩⟩⟩⟩⟩
theorem sc228_1 : ∀ q ∈ tc228_1, Snd xtb M228 q.1 q.2 := List.forall_mem_cons.mpr ⟨snd_iload d228_48, List.forall_mem_cons.mpr ⟨snd_iload d228_50, List.forall_mem_cons.mpr ⟨snd_cmp_ge d228_52 (by decide), List.forall_mem_cons.mpr ⟨snd_iload d228_55, List.forall_mem_cons.mpr ⟨snd_iconst d228_57 (by decide +kernel), List.forall_mem_cons.mpr ⟨snd_iadd d228_58, List.forall_mem_cons.mpr ⟨snd_iload d228_59, List.forall_mem_cons.mpr ⟨snd_irem d228_61, List.forall_mem_cons.mpr ⟨snd_istore d228_62, List.forall_mem_cons.mpr ⟨snd_iload d228_64, List.forall_mem_cons.mpr ⟨snd_aload_n d228_66 rfl, List.forall_mem_cons.mpr ⟨snd_iload d228_67, List.forall_mem_cons.mpr ⟨snd_iload d228_69, List.forall_mem_cons.mpr ⟨snd_callV (by decide) rfl cn220 ⟨by decide +kernel, by decide +kernel⟩ cm220 (List.forall_mem_cons.mpr ⟨wd1681, cw220⟩) d228_71, List.forall_mem_cons.mpr ⟨snd_aload_n d228_74 rfl, List.forall_mem_cons.mpr ⟨snd_iload d228_75, List.forall_mem_cons.mpr ⟨snd_iload d228_77, List.forall_mem_cons.mpr ⟨snd_callV (by decide) rfl cn221 ⟨by decide +kernel, by decide +kernel⟩ cm221 (List.forall_mem_cons.mpr ⟨wd1685, cw221⟩) d228_79, List.forall_mem_cons.mpr ⟨snd_imul d228_82, List.forall_mem_cons.mpr ⟨snd_aload_n d228_83 rfl, List.forall_mem_cons.mpr ⟨snd_iload d228_84, List.forall_mem_cons.mpr ⟨snd_iload d228_86, List.forall_mem_cons.mpr ⟨snd_callV (by decide) rfl cn220 ⟨by decide +kernel, by decide +kernel⟩ cm220 (List.forall_mem_cons.mpr ⟨wd1681, cw220⟩) d228_88, List.forall_mem_cons.mpr ⟨snd_aload_n d228_91 rfl, List.forall_mem_cons.mpr ⟨snd_iload d228_92, List.forall_mem_cons.mpr ⟨snd_iload d228_94, List.forall_mem_cons.mpr ⟨snd_callV (by decide) rfl cn221 ⟨by decide +kernel, by decide +kernel⟩ cm221 (List.forall_mem_cons.mpr ⟨wd1685, cw221⟩) d228_96, List.forall_mem_cons.mpr ⟨snd_imul d228_99, List.forall_mem_cons.mpr ⟨snd_isub d228_100, List.forall_mem_cons.mpr ⟨snd_iadd d228_101, fun _ h => by cases h⟩⟩⟩⟩⟩⟩⟩⟩⟩⟩⟩⟩⟩⟩⟩⟩⟩⟩⟩⟩⟩⟩⟩⟩⟩⟩⟩⟩⟩⟩
theorem sc228_2 : ∀ q ∈ tc228_2, Snd xtb M228 q.1 q.2 := List.forall_mem_cons.mpr ⟨snd_istore d228_102, List.forall_mem_cons.mpr ⟨snd_iinc d228_104 (by decide +kernel), List.forall_mem_cons.mpr ⟨snd_goto d228_107 (by decide), List.forall_mem_cons.mpr ⟨snd_aload_n d228_110 rfl, List.forall_mem_cons.mpr ⟨snd_iload d228_111, List.forall_mem_cons.mpr ⟨snd_callV (by decide) rfl cn174 ⟨by decide +kernel, by decide +kernel⟩ cm174 (List.forall_mem_cons.mpr ⟨wd1622, cw174⟩) d228_113, List.forall_mem_cons.mpr ⟨snd_iret rfl d228_116, fun _ h => by cases h⟩⟩⟩⟩⟩⟩⟩
theorem d229_0 : decode (mC M229) 0 = .ok (.aload_n 0, 1) := by decide +kernel
theorem d229_1 : decode (mC M229) 1 = .ok (.iload_n 1, 1) := by decide +kernel
theorem d229_2 : decode (mC M229) 2 = .ok (.iload_n 2, 1) := by decide +kernel
theorem d229_3 : decode (mC M229) 3 = .ok (.invokevirtual 297, 3) := by decide +kernel
theorem d229_6 : decode (mC M229) 6 = .ok (.iload 5, 2) := by decide +kernel
theorem d229_8 : decode (mC M229) 8 = .ok (.if_icmp .le 7, 3) := by decide +kernel
theorem d229_11 : decode (mC M229) 11 = .ok (.iconst 1, 1) := by decide +kernel
theorem d229_12 : decode (mC M229) 12 = .ok (.goto 4, 3) := by decide +kernel
theorem d229_15 : decode (mC M229) 15 = .ok (.iconst 0, 1) := by decide +kernel
theorem d229_16 : decode (mC M229) 16 = .ok (.istore 6, 2) := by decide +kernel
theorem d229_18 : decode (mC M229) 18 = .ok (.aload_n 0, 1) := by decide +kernel
theorem d229_19 : decode (mC M229) 19 = .ok (.iload_n 1, 1) := by decide +kernel
theorem d229_20 : decode (mC M229) 20 = .ok (.iload_n 3, 1) := by decide +kernel
theorem d229_21 : decode (mC M229) 21 = .ok (.invokevirtual 297, 3) := by decide +kernel
theorem d229_24 : decode (mC M229) 24 = .ok (.iload 5, 2) := by decide +kernel
theorem d229_26 : decode (mC M229) 26 = .ok (.if_icmp .le 7, 3) := by decide +kernel
theorem d229_29 : decode (mC M229) 29 = .ok (.iconst 1, 1) := by decide +kernel
theorem d229_30 : decode (mC M229) 30 = .ok (.goto 4, 3) := by decide +kernel
theorem d229_33 : decode (mC M229) 33 = .ok (.iconst 0, 1) := by decide +kernel
theorem d229_34 : decode (mC M229) 34 = .ok (.istore 7, 2) := by decide +kernel
theorem d229_36 : decode (mC M229) 36 = .ok (.iload 6, 2) := by decide +kernel
theorem d229_38 : decode (mC M229) 38 = .ok (.iload 7, 2) := by decide +kernel
theorem d229_40 : decode (mC M229) 40 = .ok (.if_icmp .ne 5, 3) := by decide +kernel
theorem d229_43 : decode (mC M229) 43 = .ok (.iconst 0, 1) := by decide +kernel
theorem d229_44 : decode (mC M229) 44 = .ok (.ireturn, 1) := by decide +kernel
theorem d229_45 : decode (mC M229) 45 = .ok (.iload 6, 2) := by decide +kernel
theorem d229_47 : decode (mC M229) 47 = .ok (.ifCond .eq 7, 3) := by decide +kernel
theorem d229_50 : decode (mC M229) 50 = .ok (.iload_n 3, 1) := by decide +kernel
theorem d229_51 : decode (mC M229) 51 = .ok (.goto 4, 3) := by decide +kernel
theorem d229_54 : decode (mC M229) 54 = .ok (.iload_n 2, 1) := by decide +kernel
theorem d229_55 : decode (mC M229) 55 = .ok (.istore 8, 2) := by decide +kernel
theorem d229_57 : decode (mC M229) 57 = .ok (.iload 6, 2) := by decide +kernel
theorem d229_59 : decode (mC M229) 59 = .ok (.ifCond .eq 7, 3) := by decide +kernel
theorem d229_62 : decode (mC M229) 62 = .ok (.iload_n 2, 1) := by decide +kernel
theorem d229_63 : decode (mC M229) 63 = .ok (.goto 4, 3) := by decide +kernel
theorem d229_66 : decode (mC M229) 66 = .ok (.iload_n 3, 1) := by decide +kernel
theorem d229_67 : decode (mC M229) 67 = .ok (.istore 9, 2) := by decide +kernel
theorem d229_69 : decode (mC M229) 69 = .ok (.aload_n 0, 1) := by decide +kernel
theorem d229_70 : decode (mC M229) 70 = .ok (.iload_n 1, 1) := by decide +kernel
theorem d229_71 : decode (mC M229) 71 = .ok (.iload 9, 2) := by decide +kernel
theorem d229_73 : decode (mC M229) 73 = .ok (.invokevirtual 297, 3) := by decide +kernel
theorem d229_76 : decode (mC M229) 76 = .ok (.aload_n 0, 1) := by decide +kernel
theorem d229_77 : decode (mC M229) 77 = .ok (.iload_n 1, 1) := by decide +kernel
theorem d229_78 : decode (mC M229) 78 = .ok (.iload 8, 2) := by decide +kernel
theorem d229_80 : decode (mC M229) 80 = .ok (.invokevirtual 297, 3) := by decide +kernel
theorem d229_83 : decode (mC M229) 83 = .ok (.isub, 1) := by decide +kernel
theorem d229_84 : decode (mC M229) 84 = .ok (.istore 10, 2) := by decide +kernel
theorem d229_86 : decode (mC M229) 86 = .ok (.aload_n 0, 1) := by decide +kernel
theorem d229_87 : decode (mC M229) 87 = .ok (.iload_n 1, 1) := by decide +kernel
theorem d229_88 : decode (mC M229) 88 = .ok (.iload 8, 2) := by decide +kernel
theorem d229_90 : decode (mC M229) 90 = .ok (.invokevirtual 294, 3) := by decide +kernel
theorem d229_93 : decode (mC M229) 93 = .ok (.iload 4, 2) := by decide +kernel
theorem d229_95 : decode (mC M229) 95 = .ok (.isub, 1) := by decide +kernel
theorem d229_96 : decode (mC M229) 96 = .ok (.iload 10, 2) := by decide +kernel
theorem d229_98 : decode (mC M229) 98 = .ok (.imul, 1) := by decide +kernel
theorem d229_99 : decode (mC M229) 99 = .ok (.iload 5, 2) := by decide +kernel
theorem d229_101 : decode (mC M229) 101 = .ok (.aload_n 0, 1) := by decide +kernel
theorem d229_102 : decode (mC M229) 102 = .ok (.iload_n 1, 1) := by decide +kernel
theorem d229_103 : decode (mC M229) 103 = .ok (.iload 8, 2) := by decide +kernel
theorem d229_105 : decode (mC M229) 105 = .ok (.invokevirtual 297, 3) := by decide +kernel
theorem d229_108 : decode (mC M229) 108 = .ok (.isub, 1) := by decide +kernel
theorem d229_109 : decode (mC M229) 109 = .ok (.aload_n 0, 1) := by decide +kernel
theorem d229_110 : decode (mC M229) 110 = .ok (.iload_n 1, 1) := by decide +kernel
theorem d229_111 : decode (mC M229) 111 = .ok (.iload 9, 2) := by decide +kernel
theorem d229_113 : decode (mC M229) 113 = .ok (.invokevirtual 294, 3) := by decide +kernel
theorem d229_116 : decode (mC M229) 116 = .ok (.aload_n 0, 1) := by decide +kernel
theorem d229_117 : decode (mC M229) 117 = .ok (.iload_n 1, 1) := by decide +kernel
theorem d229_118 : decode (mC M229) 118 = .ok (.iload 8, 2) := by decide +kernel
theorem d229_120 : decode (mC M229) 120 = .ok (.invokevirtual 294, 3) := by decide +kernel
theorem d229_123 : decode (mC M229) 123 = .ok (.isub, 1) := by decide +kernel
theorem d229_124 : decode (mC M229) 124 = .ok (.imul, 1) := by decide +kernel
theorem d229_125 : decode (mC M229) 125 = .ok (.iadd, 1) := by decide +kernel
theorem d229_126 : decode (mC M229) 126 = .ok (.ifCond .le 7, 3) := by decide +kernel
theorem d229_129 : decode (mC M229) 129 = .ok (.iconst 1, 1) := by decide +kernel
theorem d229_130 : decode (mC M229) 130 = .ok (.goto 4, 3) := by decide +kernel
theorem d229_133 : decode (mC M229) 133 = .ok (.iconst 0, 1) := by decide +kernel
theorem d229_134 : decode (mC M229) 134 = .ok (.ireturn, 1) := by decide +kernel
theorem sc229_0 : ∀ q ∈ tc229_0, Snd xtb M229 q.1 q.2 := List.forall_mem_cons.mpr ⟨snd_aload_n d229_0 rfl, List.forall_mem_cons.mpr ⟨snd_iload_n d229_1 rfl, List.forall_mem_cons.mpr ⟨snd_iload_n d229_2 rfl, List.forall_mem_cons.mpr ⟨snd_callV (by decide) rfl cn221 ⟨by decide +kernel, by decide +kernel⟩ cm221 (List.forall_mem_cons.mpr ⟨wd1685, cw221⟩) d229_3, List.forall_mem_cons.mpr ⟨snd_iload d229_6, List.forall_mem_cons.mpr ⟨snd_cmp_le d229_8 (by decide), List.forall_mem_cons.mpr ⟨snd_iconst d229_11 (by decide +kernel), List.forall_mem_cons.mpr ⟨snd_goto d229_12 (by decide), List.forall_mem_cons.mpr ⟨snd_iconst d229_15 (by decide +kernel), List.forall_mem_cons.mpr ⟨snd_istore d229_16, List.forall_mem_cons.mpr ⟨snd_aload_n d229_18 rfl, List.forall_mem_cons.mpr ⟨snd_iload_n d229_19 rfl, List.forall_mem_cons.mpr ⟨snd_iload_n d229_20 rfl, List.forall_mem_cons.mpr ⟨snd_callV (by decide) rfl cn221 ⟨by decide +kernel, by decide +kernel⟩ cm221 (List.forall_mem_cons.mpr ⟨wd1685, cw221⟩) d229_21, List.forall_mem_cons.mpr ⟨snd_iload d229_24, List.forall_mem_cons.mpr ⟨snd_cmp_le d229_26 (by decide), List.forall_mem_cons.mpr ⟨snd_iconst d229_29 (by decide +kernel), List.forall_mem_cons.mpr ⟨snd_goto d229_30 (by decide), List.forall_mem_cons.mpr ⟨snd_iconst d229_33 (by decide +kernel), List.forall_mem_cons.mpr ⟨snd_istore d229_34, List.forall_mem_cons.mpr ⟨snd_iload d229_36, List.forall_mem_cons.mpr ⟨snd_iload d229_38, List.forall_mem_cons.mpr ⟨snd_cmp_ne d229_40 (by decide), List.forall_mem_cons.mpr ⟨snd_iconst d229_43 (by decide +kernel), List.forall_mem_cons.mpr ⟨snd_zret rfl d229_44, List.forall_mem_cons.mpr ⟨snd_iload d229_45, List.forall_mem_cons.mpr ⟨snd_if_eq d229_47 (by decide), List.forall_mem_cons.mpr ⟨snd_iload_n d229_50 rfl, List.forall_mem_cons.mpr ⟨snd_goto d229_51 (by decide), List.forall_mem_cons.mpr ⟨snd_iload_n d229_54 rfl, fun _ h => by cases h⟩⟩⟩⟩⟩⟩⟩⟩⟩⟩⟩⟩⟩⟩⟩⟩⟩⟩⟩⟩⟩⟩⟩⟩⟩⟩⟩⟩⟩⟩
theorem sc229_1 : ∀ q ∈ tc229_1, Snd xtb M229 q.1 q.2 := List.forall_mem_cons.mpr ⟨snd_istore d229_55, List.forall_mem_cons.mpr ⟨snd_iload d229_57, List.forall_mem_cons.mpr ⟨snd_if_eq d229_59 (by decide), List.forall_mem_cons.mpr ⟨snd_iload_n d229_62 rfl, List.forall_mem_cons.mpr ⟨snd_goto d229_63 (by decide), List.forall_mem_cons.mpr ⟨snd_iload_n d229_66 rfl, List.forall_mem_cons.mpr ⟨snd_istore d229_67, List.forall_mem_cons.mpr ⟨snd_aload_n d229_69 rfl, List.forall_mem_cons.mpr ⟨snd_iload_n d229_70 rfl, List.forall_mem_cons.mpr ⟨snd_iload d229_71, List.forall_mem_cons.mpr ⟨snd_callV (by decide) rfl cn221 ⟨by decide +kernel, by decide +kernel⟩ cm221 (List.forall_mem_cons.mpr ⟨wd1685, cw221⟩) d229_73, List.forall_mem_cons.mpr ⟨snd_aload_n d229_76 rfl, List.forall_mem_cons.mpr ⟨snd_iload_n d229_77 rfl, List.forall_mem_cons.mpr ⟨snd_iload d229_78, List.forall_mem_cons.mpr ⟨snd_callV (by decide) rfl cn221 ⟨by decide +kernel, by decide +kernel⟩ cm221 (List.forall_mem_cons.mpr ⟨wd1685, cw221⟩) d229_80, List.forall_mem_cons.mpr ⟨snd_isub d229_83, List.forall_mem_cons.mpr ⟨snd_istore d229_84, List.forall_mem_cons.mpr ⟨snd_aload_n d229_86 rfl, List.forall_mem_cons.mpr ⟨snd_iload_n d229_87 rfl, List.forall_mem_cons.mpr ⟨snd_iload d229_88, List.forall_mem_cons.mpr ⟨snd_callV (by decide) rfl cn220 ⟨by decide +kernel, by decide +kernel⟩ cm220 (List.forall_mem_cons.mpr ⟨wd1681, cw220⟩) d229_90, List.forall_mem_cons.mpr ⟨snd_iload d229_93, List.forall_mem_cons.mpr ⟨snd_isub d229_95, List.forall_mem_cons.mpr ⟨snd_iload d229_96, List.forall_mem_cons.mpr ⟨snd_imul d229_98, List.forall_mem_cons.mpr ⟨snd_iload d229_99, List.forall_mem_cons.mpr ⟨snd_aload_n d229_101 rfl, List.forall_mem_cons.mpr ⟨snd_iload_n d229_102 rfl, List.forall_mem_cons.mpr ⟨snd_iload d229_103, List.forall_mem_cons.mpr ⟨snd_callV (by decide) rfl cn221 ⟨by decide +kernel, by decide +kernel⟩ cm221 (List.forall_mem_cons.mpr ⟨wd1685, cw221⟩) d229_105, fun _ h => by cases h⟩⟩⟩⟩⟩⟩⟩⟩⟩⟩⟩⟩⟩⟩⟩⟩⟩⟩⟩⟩⟩⟩⟩⟩⟩⟩⟩⟩⟩⟩
theorem sc229_2 : ∀ q ∈ tc229_2, Snd xtb M229 q.1 q.2 := List.forall_mem_cons.mpr ⟨snd_isub d229_108, List.forall_mem_cons.mpr ⟨snd_aload_n d229_109 rfl, List.forall_mem_cons.mpr ⟨snd_iload_n d229_110 rfl, List.forall_mem_cons.mpr ⟨snd_iload d229_111, List.forall_mem_cons.mpr ⟨snd_callV (by decide) rfl cn220 ⟨by decide +kernel, by decide +kernel⟩ cm220 (List.forall_mem_cons.mpr ⟨wd1681, cw220⟩) d229_113, List.forall_mem_cons.mpr ⟨snd_aload_n d229_116 rfl, List.forall_mem_cons.mpr ⟨snd_iload_n d229_117 rfl, List.forall_mem_cons.mpr ⟨snd_iload d229_118, List.forall_mem_cons.mpr ⟨snd_callV (by decide) rfl cn220 ⟨by decide +kernel, by decide +kernel⟩ cm220 (List.forall_mem_cons.mpr ⟨wd1681, cw220⟩) d229_120, List.forall_mem_cons.mpr ⟨snd_isub d229_123, List.forall_mem_cons.mpr ⟨snd_imul d229_124, List.forall_mem_cons.mpr ⟨snd_iadd d229_125, List.forall_mem_cons.mpr ⟨snd_if_le d229_126 (by decide), List.forall_mem_cons.mpr ⟨snd_iconst d229_129 (by decide +kernel), List.forall_mem_cons.mpr ⟨snd_goto d229_130 (by decide), List.forall_mem_cons.mpr ⟨snd_iconst d229_133 (by decide +kernel), List.forall_mem_cons.mpr ⟨snd_zret rfl d229_134, fun _ h => by cases h⟩⟩⟩⟩⟩⟩⟩⟩⟩⟩⟩⟩⟩⟩⟩⟩⟩
theorem d230_0 : decode (mC M230) 0 = .ok (.aload_n 0, 1) := by decide +kernel
theorem d230_1 : decode (mC M230) 1 = .ok (.iload_n 1, 1) := by decide +kernel
theorem d230_2 : decode (mC M230) 2 = .ok (.iload_n 2, 1) := by decide +kernel
theorem d230_3 : decode (mC M230) 3 = .ok (.invokevirtual 277, 3) := by decide +kernel
theorem d230_6 : decode (mC M230) 6 = .ok (.istore 5, 2) := by decide +kernel
theorem d230_8 : decode (mC M230) 8 = .ok (.aload_n 0, 1) := by decide +kernel
theorem d230_9 : decode (mC M230) 9 = .ok (.iload_n 1, 1) := by decide +kernel
theorem d230_10 : decode (mC M230) 10 = .ok (.iload_n 2, 1) := by decide +kernel
theorem d230_11 : decode (mC M230) 11 = .ok (.invokevirtual 291, 3) := by decide +kernel
theorem d230_14 : decode (mC M230) 14 = .ok (.istore 6, 2) := by decide +kernel
theorem d230_16 : decode (mC M230) 16 = .ok (.iconst 0, 1) := by decide +kernel
theorem d230_17 : decode (mC M230) 17 = .ok (.istore 7, 2) := by decide +kernel
theorem d230_19 : decode (mC M230) 19 = .ok (.iconst 0, 1) := by decide +kernel
theorem d230_20 : decode (mC M230) 20 = .ok (.istore 8, 2) := by decide +kernel
theorem d230_22 : decode (mC M230) 22 = .ok (.iload 8, 2) := by decide +kernel
theorem d230_24 : decode (mC M230) 24 = .ok (.iload 6, 2) := by decide +kernel
theorem d230_26 : decode (mC M230) 26 = .ok (.if_icmp .ge 42, 3) := by decide +kernel
theorem d230_29 : decode (mC M230) 29 = .ok (.aload_n 0, 1) := by decide +kernel
theorem d230_30 : decode (mC M230) 30 = .ok (.iload 5, 2) := by decide +kernel
theorem d230_32 : decode (mC M230) 32 = .ok (.iload 8, 2) := by decide +kernel
theorem d230_34 : decode (mC M230) 34 = .ok (.iload 8, 2) := by decide +kernel
theorem d230_36 : decode (mC M230) 36 = .ok (.iconst 1, 1) := by decide +kernel
theorem d230_37 : decode (mC M230) 37 = .ok (.iadd, 1) := by decide +kernel
theorem d230_38 : decode (mC M230) 38 = .ok (.iload 6, 2) := by decide +kernel
theorem d230_40 : decode (mC M230) 40 = .ok (.irem, 1) := by decide +kernel
theorem d230_41 : decode (mC M230) 41 = .ok (.iload_n 3, 1) := by decide +kernel
theorem d230_42 : decode (mC M230) 42 = .ok (.iload 4, 2) := by decide +kernel
theorem d230_44 : decode (mC M230) 44 = .ok (.invokevirtual 303, 3) := by decide +kernel
theorem d230_47 : decode (mC M230) 47 = .ok (.ifCond .eq 15, 3) := by decide +kernel
theorem d230_50 : decode (mC M230) 50 = .ok (.iload 7, 2) := by decide +kernel
theorem d230_52 : decode (mC M230) 52 = .ok (.ifCond .ne 7, 3) := by decide +kernel
theorem d230_55 : decode (mC M230) 55 = .ok (.iconst 1, 1) := by decide +kernel
theorem d230_56 : decode (mC M230) 56 = .ok (.goto 4, 3) := by decide +kernel
theorem d230_59 : decode (mC M230) 59 = .ok (.iconst 0, 1) := by decide +kernel
theorem d230_60 : decode (mC M230) 60 = .ok (.istore 7, 2) := by decide +kernel
theorem d230_62 : decode (mC M230) 62 = .ok (.iinc 8 1, 3) := by decide +kernel
theorem d230_65 : decode (mC M230) 65 = .ok (.goto (-43), 3) := by decide +kernel
theorem d230_68 : decode (mC M230) 68 = .ok (.iload 7, 2) := by decide +kernel
theorem d230_70 : decode (mC M230) 70 = .ok (.ireturn, 1) := by decide +kernel
theorem sc230_0 : ∀ q ∈ tc230_0, Snd xtb M230 q.1 q.2 := List.forall_mem_cons.mpr ⟨snd_aload_n d230_0 rfl, List.forall_mem_cons.mpr ⟨snd_iload_n d230_1 rfl, List.forall_mem_cons.mpr ⟨snd_iload_n d230_2 rfl, List.forall_mem_cons.mpr ⟨snd_callV (by decide) rfl cn218 ⟨by decide +kernel, by decide +kernel⟩ cm218 (List.forall_mem_cons.mpr ⟨wd1673, cw218⟩) d230_3, List.forall_mem_cons.mpr ⟨snd_istore d230_6, List.forall_mem_cons.mpr ⟨snd_aload_n d230_8 rfl, List.forall_mem_cons.mpr ⟨snd_iload_n d230_9 rfl, List.forall_mem_cons.mpr ⟨snd_iload_n d230_10 rfl, List.forall_mem_cons.mpr ⟨snd_callV (by decide) rfl cn219 ⟨by decide +kernel, by decide +kernel⟩ cm219 (List.forall_mem_cons.mpr ⟨wd1669, cw219⟩) d230_11, List.forall_mem_cons.mpr ⟨snd_istore d230_14, List.forall_mem_cons.mpr ⟨snd_iconst d230_16 (by decide +kernel), List.forall_mem_cons.mpr ⟨snd_istore d230_17, List.forall_mem_cons.mpr ⟨snd_iconst d230_19 (by decide +kernel), List.forall_mem_cons.mpr ⟨snd_istore d230_20, List.forall_mem_cons.mpr ⟨snd_iload d230_22, List.forall_mem_cons.mpr ⟨snd_iload d230_24, List.forall_mem_cons.mpr ⟨snd_cmp_ge d230_26 (by decide), List.forall_mem_cons.mpr ⟨snd_aload_n d230_29 rfl, List.forall_mem_cons.mpr ⟨snd_iload d230_30, List.forall_mem_cons.mpr ⟨snd_iload d230_32, List.forall_mem_cons.mpr ⟨snd_iload d230_34, List.forall_mem_cons.mpr ⟨snd_iconst d230_36 (by decide +kernel), List.forall_mem_cons.mpr ⟨snd_iadd d230_37, List.forall_mem_cons.mpr ⟨snd_iload d230_38, List.forall_mem_cons.mpr ⟨snd_irem d230_40, List.forall_mem_cons.mpr ⟨snd_iload_n d230_41 rfl, List.forall_mem_cons.mpr ⟨snd_iload d230_42, List.forall_mem_cons.mpr ⟨snd_callV (by decide) rfl cn229 ⟨by decide +kernel, by decide +kernel⟩ cm229 (List.forall_mem_cons.mpr ⟨wd1714, cw229⟩) d230_44, List.forall_mem_cons.mpr ⟨snd_if_eq d230_47 (by decide), List.forall_mem_cons.mpr ⟨snd_iload d230_50, fun _ h => by cases h⟩⟩⟩⟩⟩⟩⟩⟩⟩⟩⟩⟩⟩⟩⟩⟩⟩⟩⟩⟩⟩⟩⟩⟩⟩⟩⟩⟩⟩⟩
theorem sc230_1 : ∀ q ∈ tc230_1, Snd xtb M230 q.1 q.2 := List.forall_mem_cons.mpr ⟨snd_if_ne d230_52 (by decide), List.forall_mem_cons.mpr ⟨snd_iconst d230_55 (by decide +kernel), List.forall_mem_cons.mpr ⟨snd_goto d230_56 (by decide), List.forall_mem_cons.mpr ⟨snd_iconst d230_59 (by decide +kernel), List.forall_mem_cons.mpr ⟨snd_istore d230_60, List.forall_mem_cons.mpr ⟨snd_iinc d230_62 (by decide +kernel), List.forall_mem_cons.mpr ⟨snd_goto d230_65 (by decide), List.forall_mem_cons.mpr ⟨snd_iload d230_68, List.forall_mem_cons.mpr ⟨snd_zret rfl d230_70, fun _ h => by cases h⟩⟩⟩⟩⟩⟩⟩⟩⟩
theorem d231_0 : decode (mC M231) 0 = .ok (.aload_n 0, 1) := by decide +kernel
theorem d231_1 : decode (mC M231) 1 = .ok (.iconst 0, 1) := by decide +kernel
theorem d231_2 : decode (mC M231) 2 = .ok (.putfield 64, 3) := by decide +kernel
theorem d231_5 : decode (mC M231) 5 = .ok (.aload_n 0, 1) := by decide +kernel
theorem d231_6 : decode (mC M231) 6 = .ok (.aload_n 0, 1) := by decide +kernel
theorem d231_7 : decode (mC M231) 7 = .ok (.iload_n 1, 1) := by decide +kernel
theorem d231_8 : decode (mC M231) 8 = .ok (.invokevirtual 271, 3) := by decide +kernel
theorem d231_11 : decode (mC M231) 11 = .ok (.iload_n 2, 1) := by decide +kernel
theorem d231_12 : decode (mC M231) 12 = .ok (.iload_n 3, 1) := by decide +kernel
theorem d231_13 : decode (mC M231) 13 = .ok (.iload 4, 2) := by decide +kernel
theorem d231_15 : decode (mC M231) 15 = .ok (.invokevirtual 307, 3) := by decide +kernel
theorem d231_18 : decode (mC M231) 18 = .ok (.istore 5, 2) := by decide +kernel
theorem d231_20 : decode (mC M231) 20 = .ok (.iload 5, 2) := by decide +kernel
theorem d231_22 : decode (mC M231) 22 = .ok (.ifCond .le 12, 3) := by decide +kernel
theorem d231_25 : decode (mC M231) 25 = .ok (.aload_n 0, 1) := by decide +kernel
theorem d231_26 : decode (mC M231) 26 = .ok (.iload 5, 2) := by decide +kernel
theorem d231_28 : decode (mC M231) 28 = .ok (.invokevirtual 70, 3) := by decide +kernel
theorem d231_31 : decode (mC M231) 31 = .ok (.goto 24, 3) := by decide +kernel
theorem d231_34 : decode (mC M231) 34 = .ok (.aload_n 0, 1) := by decide +kernel
theorem d231_35 : decode (mC M231) 35 = .ok (.aload_n 0, 1) := by decide +kernel
theorem d231_36 : decode (mC M231) 36 = .ok (.iload_n 1, 1) := by decide +kernel
theorem d231_37 : decode (mC M231) 37 = .ok (.iload_n 2, 1) := by decide +kernel
theorem d231_38 : decode (mC M231) 38 = .ok (.iload_n 3, 1) := by decide +kernel
theorem d231_39 : decode (mC M231) 39 = .ok (.iload 4, 2) := by decide +kernel
theorem d231_41 : decode (mC M231) 41 = .ok (.invokevirtual 311, 3) := by decide +kernel
theorem d231_44 : decode (mC M231) 44 = .ok (.ifCond .eq 7, 3) := by decide +kernel
theorem d231_47 : decode (mC M231) 47 = .ok (.iconst 1, 1) := by decide +kernel
theorem d231_48 : decode (mC M231) 48 = .ok (.goto 4, 3) := by decide +kernel
theorem d231_51 : decode (mC M231) 51 = .ok (.iconst 0, 1) := by decide +kernel
theorem d231_52 : decode (mC M231) 52 = .ok (.invokevirtual 264, 3) := by decide +kernel
theorem d231_55 : decode (mC M231) 55 = .ok (.ireturn, 1) := by decide +kernel
theorem sc231_0 : ∀ q ∈ tc231_0, Snd xtb M231 q.1 q.2 := List.forall_mem_cons.mpr ⟨snd_aload_n d231_0 rfl, List.forall_mem_cons.mpr ⟨snd_iconst d231_1 (by decide +kernel), List.forall_mem_cons.mpr ⟨snd_putI (by decide) (by decide) rfl rfl wd1367 d231_2, List.forall_mem_cons.mpr ⟨snd_aload_n d231_5 rfl, List.forall_mem_cons.mpr ⟨snd_aload_n d231_6 rfl, List.forall_mem_cons.mpr ⟨snd_iload_n d231_7 rfl, List.forall_mem_cons.mpr ⟨snd_callV (by decide) rfl cn214 ⟨by decide +kernel, by decide +kernel⟩ cm214 (List.forall_mem_cons.mpr ⟨wd1650, cw214⟩) d231_8, List.forall_mem_cons.mpr ⟨snd_iload_n d231_11 rfl, List.forall_mem_cons.mpr ⟨snd_iload_n d231_12 rfl, List.forall_mem_cons.mpr ⟨snd_iload d231_13, List.forall_mem_cons.mpr ⟨snd_callV (by decide) rfl cn225 ⟨by decide +kernel, by decide +kernel⟩ cm225 (List.forall_mem_cons.mpr ⟨wd1702, cw225⟩) d231_15, List.forall_mem_cons.mpr ⟨snd_istore d231_18, List.forall_mem_cons.mpr ⟨snd_iload d231_20, List.forall_mem_cons.mpr ⟨snd_if_le d231_22 (by decide), List.forall_mem_cons.mpr ⟨snd_aload_n d231_25 rfl, List.forall_mem_cons.mpr ⟨snd_iload d231_26, List.forall_mem_cons.mpr ⟨snd_callV (by decide) rfl cn172 ⟨by decide +kernel, by decide +kernel⟩ cm172 (List.forall_mem_cons.mpr ⟨wd1476, cw172⟩) d231_28, List.forall_mem_cons.mpr ⟨snd_goto d231_31 (by decide), List.forall_mem_cons.mpr ⟨snd_aload_n d231_34 rfl, List.forall_mem_cons.mpr ⟨snd_aload_n d231_35 rfl, List.forall_mem_cons.mpr ⟨snd_iload_n d231_36 rfl, List.forall_mem_cons.mpr ⟨snd_iload_n d231_37 rfl, List.forall_mem_cons.mpr ⟨snd_iload_n d231_38 rfl, List.forall_mem_cons.mpr ⟨snd_iload d231_39, List.forall_mem_cons.mpr ⟨snd_callV (by decide) rfl cn230 ⟨by decide +kernel, by decide +kernel⟩ cm230 (List.forall_mem_cons.mpr ⟨wd1710, cw230⟩) d231_41, List.forall_mem_cons.mpr ⟨snd_if_eq d231_44 (by decide), List.forall_mem_cons.mpr ⟨snd_iconst d231_47 (by decide +kernel), List.forall_mem_cons.mpr ⟨snd_goto d231_48 (by decide), List.forall_mem_cons.mpr ⟨snd_iconst d231_51 (by decide +kernel), List.forall_mem_cons.mpr ⟨snd_callV (by decide) rfl cn174 ⟨by decide +kernel, by decide +kernel⟩ cm174 (List.forall_mem_cons.mpr ⟨wd1622, cw174⟩) d231_52, fun _ h => by cases h⟩⟩⟩⟩⟩⟩⟩⟩⟩⟩⟩⟩⟩⟩⟩⟩⟩⟩⟩⟩⟩⟩⟩⟩⟩⟩⟩⟩⟩⟩
theorem sc231_1 : ∀ q ∈ tc231_1, Snd xtb M231 q.1 q.2 := List.forall_mem_cons.mpr ⟨snd_iret rfl d231_55, fun _ h => by cases h⟩
theorem d232_0 : decode (mC M232) 0 = .ok (.iload_n 1, 1) := by decide +kernel
theorem d232_1 : decode (mC M232) 1 = .ok (.iload_n 2, 1) := by decide +kernel
theorem d232_2 : decode (mC M232) 2 = .ok (.if_icmp .ge 12, 3) := by decide +kernel
theorem d232_5 : decode (mC M232) 5 = .ok (.iload_n 0, 1) := by decide +kernel
theorem d232_6 : decode (mC M232) 6 = .ok (.iload_n 1, 1) := by decide +kernel
theorem d232_7 : decode (mC M232) 7 = .ok (.iload_n 2, 1) := by decide +kernel
theorem d232_8 : decode (mC M232) 8 = .ok (.invokestatic 95, 3) := by decide +kernel
theorem d232_11 : decode (mC M232) 11 = .ok (.goto 9, 3) := by decide +kernel
theorem d232_14 : decode (mC M232) 14 = .ok (.iload_n 0, 1) := by decide +kernel
theorem d232_15 : decode (mC M232) 15 = .ok (.iload_n 2, 1) := by decide +kernel
theorem d232_16 : decode (mC M232) 16 = .ok (.iload_n 1, 1) := by decide +kernel
theorem d232_17 : decode (mC M232) 17 = .ok (.invokestatic 95, 3) := by decide +kernel
theorem d232_20 : decode (mC M232) 20 = .ok (.ireturn, 1) := by decide +kernel
theorem sc232_0 : ∀ q ∈ tc232_0, Snd xtb M232 q.1 q.2 := List.forall_mem_cons.mpr ⟨snd_iload_n d232_0 rfl, List.forall_mem_cons.mpr ⟨snd_iload_n d232_1 rfl, List.forall_mem_cons.mpr ⟨snd_cmp_ge d232_2 (by decide), List.forall_mem_cons.mpr ⟨snd_iload_n d232_5 rfl, List.forall_mem_cons.mpr ⟨snd_iload_n d232_6 rfl, List.forall_mem_cons.mpr ⟨snd_iload_n d232_7 rfl, List.forall_mem_cons.mpr ⟨snd_callS cn175 ⟨by decide +kernel, by decide +kernel⟩ cm175 (List.forall_mem_cons.mpr ⟨wd1492, cw175⟩) d232_8, List.forall_mem_cons.mpr ⟨snd_goto d232_11 (by decide), List.forall_mem_cons.mpr ⟨snd_iload_n d232_14 rfl, List.forall_mem_cons.mpr ⟨snd_iload_n d232_15 rfl, List.forall_mem_cons.mpr ⟨snd_iload_n d232_16 rfl, List.forall_mem_cons.mpr ⟨snd_callS cn175 ⟨by decide +kernel, by decide +kernel⟩ cm175 (List.forall_mem_cons.mpr ⟨wd1492, cw175⟩) d232_17, List.forall_mem_cons.mpr ⟨snd_zret rfl d232_20, fun _ h => by cases h⟩⟩⟩⟩⟩⟩⟩⟩⟩⟩⟩⟩⟩
theorem d233_0 : decode (mC M233) 0 = .ok (.aload_n 0, 1) := by decide +kernel
theorem d233_1 : decode (mC M233) 1 = .ok (.iconst 0, 1) := by decide +kernel
theorem d233_2 : decode (mC M233) 2 = .ok (.putfield 64, 3) := by decide +kernel
theorem d233_5 : decode (mC M233) 5 = .ok (.aload_n 0, 1) := by decide +kernel
theorem d233_6 : decode (mC M233) 6 = .ok (.aload_n 0, 1) := by decide +kernel
theorem d233_7 : decode (mC M233) 7 = .ok (.iload_n 1, 1) := by decide +kernel
theorem d233_8 : decode (mC M233) 8 = .ok (.invokevirtual 271, 3) := by decide +kernel
theorem d233_11 : decode (mC M233) 11 = .ok (.iload_n 2, 1) := by decide +kernel
theorem d233_12 : decode (mC M233) 12 = .ok (.iload_n 3, 1) := by decide +kernel
theorem d233_13 : decode (mC M233) 13 = .ok (.iload 4, 2) := by decide +kernel
theorem d233_15 : decode (mC M233) 15 = .ok (.invokevirtual 307, 3) := by decide +kernel
theorem d233_18 : decode (mC M233) 18 = .ok (.istore 5, 2) := by decide +kernel
theorem d233_20 : decode (mC M233) 20 = .ok (.iload 5, 2) := by decide +kernel
theorem d233_22 : decode (mC M233) 22 = .ok (.ifCond .le 10, 3) := by decide +kernel
theorem d233_25 : decode (mC M233) 25 = .ok (.aload_n 0, 1) := by decide +kernel
theorem d233_26 : decode (mC M233) 26 = .ok (.iload 5, 2) := by decide +kernel
theorem d233_28 : decode (mC M233) 28 = .ok (.invokevirtual 70, 3) := by decide +kernel
theorem d233_31 : decode (mC M233) 31 = .ok (.ireturn, 1) := by decide +kernel
theorem d233_32 : decode (mC M233) 32 = .ok (.aload_n 0, 1) := by decide +kernel
theorem d233_33 : decode (mC M233) 33 = .ok (.iload_n 1, 1) := by decide +kernel
theorem d233_34 : decode (mC M233) 34 = .ok (.iload_n 2, 1) := by decide +kernel
theorem d233_35 : decode (mC M233) 35 = .ok (.invokevirtual 277, 3) := by decide +kernel
theorem d233_38 : decode (mC M233) 38 = .ok (.istore 6, 2) := by decide +kernel
theorem d233_40 : decode (mC M233) 40 = .ok (.aload_n 0, 1) := by decide +kernel
theorem d233_41 : decode (mC M233) 41 = .ok (.iload_n 1, 1) := by decide +kernel
theorem d233_42 : decode (mC M233) 42 = .ok (.iload_n 2, 1) := by decide +kernel
theorem d233_43 : decode (mC M233) 43 = .ok (.invokevirtual 291, 3) := by decide +kernel
theorem d233_46 : decode (mC M233) 46 = .ok (.istore 7, 2) := by decide +kernel
theorem d233_48 : decode (mC M233) 48 = .ok (.iconst 0, 1) := by decide +kernel
theorem d233_49 : decode (mC M233) 49 = .ok (.istore 8, 2) := by decide +kernel
theorem d233_51 : decode (mC M233) 51 = .ok (.iconst 0, 1) := by decide +kernel
theorem d233_52 : decode (mC M233) 52 = .ok (.istore 9, 2) := by decide +kernel
theorem d233_54 : decode (mC M233) 54 = .ok (.iload 9, 2) := by decide +kernel
theorem d233_56 : decode (mC M233) 56 = .ok (.iload 7, 2) := by decide +kernel
theorem d233_58 : decode (mC M233) 58 = .ok (.if_icmp .ge 142, 3) := by decide +kernel
theorem d233_61 : decode (mC M233) 61 = .ok (.iload 9, 2) := by decide +kernel
theorem d233_63 : decode (mC M233) 63 = .ok (.iconst 1, 1) := by decide +kernel
theorem d233_64 : decode (mC M233) 64 = .ok (.iadd, 1) := by decide +kernel
theorem d233_65 : decode (mC M233) 65 = .ok (.iload 7, 2) := by decide +kernel
theorem d233_67 : decode (mC M233) 67 = .ok (.irem, 1) := by decide +kernel
theorem d233_68 : decode (mC M233) 68 = .ok (.istore 10, 2) := by decide +kernel
theorem d233_70 : decode (mC M233) 70 = .ok (.aload_n 0, 1) := by decide +kernel
theorem d233_71 : decode (mC M233) 71 = .ok (.iload 6, 2) := by decide +kernel
theorem d233_73 : decode (mC M233) 73 = .ok (.iload 10, 2) := by decide +kernel
theorem d233_75 : decode (mC M233) 75 = .ok (.invokevirtual 294, 3) := by decide +kernel
theorem d233_78 : decode (mC M233) 78 = .ok (.aload_n 0, 1) := by decide +kernel
theorem d233_79 : decode (mC M233) 79 = .ok (.iload 6, 2) := by decide +kernel
theorem d233_81 : decode (mC M233) 81 = .ok (.iload 9, 2) := by decide +kernel
theorem d233_83 : decode (mC M233) 83 = .ok (.invokevirtual 294, 3) := by decide +kernel
theorem d233_86 : decode (mC M233) 86 = .ok (.isub, 1) := by decide +kernel
theorem d233_87 : decode (mC M233) 87 = .ok (.iload 4, 2) := by decide +kernel
theorem d233_89 : decode (mC M233) 89 = .ok (.aload_n 0, 1) := by decide +kernel
theorem d233_90 : decode (mC M233) 90 = .ok (.iload 6, 2) := by decide +kernel
theorem d233_92 : decode (mC M233) 92 = .ok (.iload 9, 2) := by decide +kernel
theorem d233_94 : decode (mC M233) 94 = .ok (.invokevirtual 297, 3) := by decide +kernel
theorem d233_97 : decode (mC M233) 97 = .ok (.isub, 1) := by decide +kernel
theorem d233_98 : decode (mC M233) 98 = .ok (.imul, 1) := by decide +kernel
theorem d233_99 : decode (mC M233) 99 = .ok (.aload_n 0, 1) := by decide +kernel
theorem d233_100 : decode (mC M233) 100 = .ok (.iload 6, 2) := by decide +kernel
theorem d233_102 : decode (mC M233) 102 = .ok (.iload 10, 2) := by decide +kernel
theorem d233_104 : decode (mC M233) 104 = .ok (.invokevirtual 297, 3) := by decide +kernel
theorem d233_107 : decode (mC M233) 107 = .ok (.aload_n 0, 1) := by decide +kernel
theorem d233_108 : decode (mC M233) 108 = .ok (.iload 6, 2) := by decide +kernel
theorem d233_110 : decode (mC M233) 110 = .ok (.iload 9, 2) := by decide +kernel
theorem d233_112 : decode (mC M233) 112 = .ok (.invokevirtual 297, 3) := by decide +kernel
theorem d233_115 : decode (mC M233) 115 = .ok (.isub, 1) := by decide +kernel
theorem d233_116 : decode (mC M233) 116 = .ok (.iload_n 3, 1) := by decide +kernel
theorem d233_117 : decode (mC M233) 117 = .ok (.aload_n 0, 1) := by decide +kernel
theorem d233_118 : decode (mC M233) 118 = .ok (.iload 6, 2) := by decide +kernel
theorem d233_120 : decode (mC M233) 120 = .ok (.iload 9, 2) := by decide +kernel
theorem d233_122 : decode (mC M233) 122 = .ok (.invokevirtual 294, 3) := by decide +kernel
theorem d233_125 : decode (mC M233) 125 = .ok (.isub, 1) := by decide +kernel
theorem d233_126 : decode (mC M233) 126 = .ok (.imul, 1) := by decide +kernel
theorem d233_127 : decode (mC M233) 127 = .ok (.isub, 1) := by decide +kernel
theorem d233_128 : decode (mC M233) 128 = .ok (.istore 11, 2) := by decide +kernel
theorem d233_130 : decode (mC M233) 130 = .ok (.iload 8, 2) := by decide +kernel
theorem d233_132 : decode (mC M233) 132 = .ok (.ifCond .ne 55, 3) := by decide +kernel
theorem d233_135 : decode (mC M233) 135 = .ok (.iload 11, 2) := by decide +kernel
theorem d233_137 : decode (mC M233) 137 = .ok (.ifCond .ne 54, 3) := by decide +kernel
theorem d233_140 : decode (mC M233) 140 = .ok (.iload_n 3, 1) := by decide +kernel
theorem d233_141 : decode (mC M233) 141 = .ok (.aload_n 0, 1) := by decide +kernel
theorem d233_142 : decode (mC M233) 142 = .ok (.iload 6, 2) := by decide +kernel
theorem d233_144 : decode (mC M233) 144 = .ok (.iload 9, 2) := by decide +kernel
theorem d233_146 : decode (mC M233) 146 = .ok (.invokevirtual 294, 3) := by decide +kernel
theorem d233_149 : decode (mC M233) 149 = .ok (.aload_n 0, 1) := by decide +kernel
theorem d233_150 : decode (mC M233) 150 = .ok (.iload 6, 2) := by decide +kernel
theorem d233_152 : decode (mC M233) 152 = .ok (.iload 10, 2) := by decide +kernel
theorem d233_154 : decode (mC M233) 154 = .ok (.invokevirtual 294, 3) := by decide +kernel
theorem d233_157 : decode (mC M233) 157 = .ok (.invokestatic 315, 3) := by decide +kernel
theorem d233_160 : decode (mC M233) 160 = .ok (.ifCond .eq 31, 3) := by decide +kernel
theorem d233_163 : decode (mC M233) 163 = .ok (.iload 4, 2) := by decide +kernel
theorem d233_165 : decode (mC M233) 165 = .ok (.aload_n 0, 1) := by decide +kernel
theorem d233_166 : decode (mC M233) 166 = .ok (.iload 6, 2) := by decide +kernel
theorem d233_168 : decode (mC M233) 168 = .ok (.iload 9, 2) := by decide +kernel
theorem d233_170 : decode (mC M233) 170 = .ok (.invokevirtual 297, 3) := by decide +kernel
theorem d233_173 : decode (mC M233) 173 = .ok (.aload_n 0, 1) := by decide +kernel
theorem d233_174 : decode (mC M233) 174 = .ok (.iload 6, 2) := by decide +kernel
theorem d233_176 : decode (mC M233) 176 = .ok (.iload 10, 2) := by decide +kernel
theorem d233_178 : decode (mC M233) 178 = .ok (.invokevirtual 297, 3) := by decide +kernel
theorem d233_181 : decode (mC M233) 181 = .ok (.invokestatic 315, 3) := by decide +kernel
theorem d233_184 : decode (mC M233) 184 = .ok (.ifCond .eq 7, 3) := by decide +kernel
theorem d233_187 : decode (mC M233) 187 = .ok (.iconst 1, 1) := by decide +kernel
theorem d233_188 : decode (mC M233) 188 = .ok (.goto 4, 3) := by decide +kernel
theorem d233_191 : decode (mC M233) 191 = .ok (.iconst 0, 1) := by decide +kernel
theorem d233_192 : decode (mC M233) 192 = .ok (.istore 8, 2) := by decide +kernel
theorem d233_194 : decode (mC M233) 194 = .ok (.iinc 9 1, 3) := by decide +kernel
theorem d233_197 : decode (mC M233) 197 = .ok (.goto (-143), 3) := by decide +kernel
theorem d233_200 : decode (mC M233) 200 = .ok (.aload_n 0, 1) := by decide +kernel
theorem d233_201 : decode (mC M233) 201 = .ok (.iload 8, 2) := by decide +kernel
theorem d233_203 : decode (mC M233) 203 = .ok (.ifCond .eq 7, 3) := by decide +kernel
theorem d233_206 : decode (mC M233) 206 = .ok (.iconst 1, 1) := by decide +kernel
theorem d233_207 : decode (mC M233) 207 = .ok (.goto 4, 3) := by decide +kernel
theorem d233_210 : decode (mC M233) 210 = .ok (.iconst 0, 1) := by decide +kernel
theorem d233_211 : decode (mC M233) 211 = .ok (.invokevirtual 264, 3) := by decide +kernel
theorem d233_214 : decode (mC M233) 214 = .ok (.ireturn, 1) := by decide +kernel
theorem sc233_0 : ∀ q ∈ tc233_0, Snd xtb M233 q.1 q.2 := List.forall_mem_cons.mpr ⟨snd_aload_n d233_0 rfl, List.forall_mem_cons.mpr ⟨snd_iconst d233_1 (by decide +kernel), List.forall_mem_cons.mpr ⟨snd_putI (by decide) (by decide) rfl rfl wd1367 d233_2, List.forall_mem_cons.mpr ⟨snd_aload_n d233_5 rfl, List.forall_mem_cons.mpr ⟨snd_aload_n d233_6 rfl, List.forall_mem_cons.mpr ⟨snd_iload_n d233_7 rfl, List.forall_mem_cons.mpr ⟨snd_callV (by decide) rfl cn214 ⟨by decide +kernel, by decide +kernel⟩ cm214 (List.forall_mem_cons.mpr ⟨wd1650, cw214⟩) d233_8, List.forall_mem_cons.mpr ⟨snd_iload_n d233_11 rfl, List.forall_mem_cons.mpr ⟨snd_iload_n d233_12 rfl, List.forall_mem_cons.mpr ⟨snd_iload d233_13, List.forall_mem_cons.mpr ⟨snd_callV (by decide) rfl cn225 ⟨by decide +kernel, by decide +kernel⟩ cm225 (List.forall_mem_cons.mpr ⟨wd1702, cw225⟩) d233_15, List.forall_mem_cons.mpr ⟨snd_istore d233_18, List.forall_mem_cons.mpr ⟨snd_iload d233_20, List.forall_mem_cons.mpr ⟨snd_if_le d233_22 (by decide), List.forall_mem_cons.mpr ⟨snd_aload_n d233_25 rfl, List.forall_mem_cons.mpr ⟨snd_iload d233_26, List.forall_mem_cons.mpr ⟨snd_callV (by decide) rfl cn172 ⟨by decide +kernel, by decide +kernel⟩ cm172 (List.forall_mem_cons.mpr ⟨wd1476, cw172⟩) d233_28, List.forall_mem_cons.mpr ⟨snd_iret rfl d233_31, List.forall_mem_cons.mpr ⟨snd_aload_n d233_32 rfl, List.forall_mem_cons.mpr ⟨snd_iload_n d233_33 rfl, List.forall_mem_cons.mpr ⟨snd_iload_n d233_34 rfl, List.forall_mem_cons.mpr ⟨snd_callV (by decide) rfl cn218 ⟨by decide +kernel, by decide +kernel⟩ cm218 (List.forall_mem_cons.mpr ⟨wd1673, cw218⟩) d233_35, List.forall_mem_cons.mpr ⟨snd_istore d233_38, List.forall_mem_cons.mpr ⟨snd_aload_n d233_40 rfl, List.forall_mem_cons.mpr ⟨snd_iload_n d233_41 rfl, List.forall_mem_cons.mpr ⟨snd_iload_n d233_42 rfl, List.forall_mem_cons.mpr ⟨snd_callV (by decide) rfl cn219 ⟨by decide +kernel, by decide +kernel⟩ cm219 (List.forall_mem_cons.mpr ⟨wd1669, cw219⟩) d233_43, List.forall_mem_cons.mpr ⟨snd_istore d233_46, List.forall_mem_cons.mpr ⟨snd_iconst d233_48 (by decide +kernel), List.forall_mem_cons.mpr ⟨snd_istore d233_49, fun _ h => by cases h⟩⟩⟩⟩⟩⟩⟩⟩⟩⟩⟩⟩⟩⟩⟩⟩⟩⟩⟩⟩⟩⟩⟩⟩⟩⟩⟩⟩⟩⟩
theorem sc233_1 : ∀ q ∈ tc233_1, Snd xtb M233 q.1 q.2 := List.forall_mem_cons.mpr ⟨snd_iconst d233_51 (by decide +kernel), List.forall_mem_cons.mpr ⟨snd_istore d233_52, List.forall_mem_cons.mpr ⟨snd_iload d233_54, List.forall_mem_cons.mpr ⟨snd_iload d233_56, List.forall_mem_cons.mpr ⟨snd_cmp_ge d233_58 (by decide), List.forall_mem_cons.mpr ⟨snd_iload d233_61, List.forall_mem_cons.mpr ⟨snd_iconst d233_63 (by decide +kernel), List.forall_mem_cons.mpr ⟨snd_iadd d233_64, List.forall_mem_cons.mpr ⟨snd_iload d233_65, List.forall_mem_cons.mpr ⟨snd_irem d233_67, List.forall_mem_cons.mpr ⟨snd_istore d233_68, List.forall_mem_cons.mpr ⟨snd_aload_n d233_70 rfl, List.forall_mem_cons.mpr ⟨snd_iload d233_71, List.forall_mem_cons.mpr ⟨snd_iload d233_73, List.forall_mem_cons.mpr ⟨snd_callV (by decide) rfl cn220 ⟨by decide +kernel, by decide +kernel⟩ cm220 (List.forall_mem_cons.mpr ⟨wd1681, cw220⟩) d233_75, List.forall_mem_cons.mpr ⟨snd_aload_n d233_78 rfl, List.forall_mem_cons.mpr ⟨snd_iload d233_79, List.forall_mem_cons.mpr ⟨snd_iload d233_81, List.forall_mem_cons.mpr ⟨snd_callV (by decide) rfl cn220 ⟨by decide +kernel, by decide +kernel⟩ cm220 (List.forall_mem_cons.mpr ⟨wd1681, cw220⟩) d233_83, List.forall_mem_cons.mpr ⟨snd_isub d233_86, List.forall_mem_cons.mpr ⟨snd_iload d233_87, List.forall_mem_cons.mpr ⟨snd_aload_n d233_89 rfl, List.forall_mem_cons.mpr ⟨snd_iload d233_90, List.forall_mem_cons.mpr ⟨snd_iload d233_92, List.forall_mem_cons.mpr ⟨snd_callV (by decide) rfl cn221 ⟨by decide +kernel, by decide +kernel⟩ cm221 (List.forall_mem_cons.mpr ⟨wd1685, cw221⟩) d233_94, List.forall_mem_cons.mpr ⟨snd_isub d233_97, List.forall_mem_cons.mpr ⟨snd_imul d233_98, List.forall_mem_cons.mpr ⟨snd_aload_n d233_99 rfl, List.forall_mem_cons.mpr ⟨snd_iload d233_100, List.forall_mem_cons.mpr ⟨snd_iload d233_102, fun _ h => by cases h⟩⟩⟩⟩⟩⟩⟩⟩⟩⟩⟩⟩⟩⟩⟩⟩⟩⟩⟩⟩⟩⟩⟩⟩⟩⟩⟩⟩⟩⟩
theorem sc233_2 : ∀ q ∈ tc233_2, Snd xtb M233 q.1 q.2 := List.forall_mem_cons.mpr ⟨snd_callV (by decide) rfl cn221 ⟨by decide +kernel, by decide +kernel⟩ cm221 (List.forall_mem_cons.mpr ⟨wd1685, cw221⟩) d233_104, List.forall_mem_cons.mpr ⟨snd_aload_n d233_107 rfl, List.forall_mem_cons.mpr ⟨snd_iload d233_108, List.forall_mem_cons.mpr ⟨snd_iload d233_110, List.forall_mem_cons.mpr ⟨snd_callV (by decide) rfl cn221 ⟨by decide +kernel, by decide +kernel⟩ cm221 (List.forall_mem_cons.mpr ⟨wd1685, cw221⟩) d233_112, List.forall_mem_cons.mpr ⟨snd_isub d233_115, List.forall_mem_cons.mpr ⟨snd_iload_n d233_116 rfl, List.forall_mem_cons.mpr ⟨snd_aload_n d233_117 rfl, List.forall_mem_cons.mpr ⟨snd_iload d233_118, List.forall_mem_cons.mpr ⟨snd_iload d233_120, List.forall_mem_cons.mpr ⟨snd_callV (by decide) rfl cn220 ⟨by decide +kernel, by decide +kernel⟩ cm220 (List.forall_mem_cons.mpr ⟨wd1681, cw220⟩) d233_122, List.forall_mem_cons.mpr ⟨snd_isub d233_125, List.forall_mem_cons.mpr ⟨snd_imul d233_126, List.forall_mem_cons.mpr ⟨snd_isub d233_127, List.forall_mem_cons.mpr ⟨snd_istore d233_128, List.forall_mem_cons.mpr ⟨snd_iload d233_130, List.forall_mem_cons.mpr ⟨snd_if_ne d233_132 (by decide), List.forall_mem_cons.mpr ⟨snd_iload d233_135, List.forall_mem_cons.mpr ⟨snd_if_ne d233_137 (by decide), List.forall_mem_cons.mpr ⟨snd_iload_n d233_140 rfl, List.forall_mem_cons.mpr ⟨snd_aload_n d233_141 rfl, List.forall_mem_cons.mpr ⟨snd_iload d233_142, List.forall_mem_cons.mpr ⟨snd_iload d233_144, List.forall_mem_cons.mpr ⟨snd_callV (by decide) rfl cn220 ⟨by decide +kernel, by decide +kernel⟩ cm220 (List.forall_mem_cons.mpr ⟨wd1681, cw220⟩) d233_146, List.forall_mem_cons.mpr ⟨snd_aload_n d233_149 rfl, List.forall_mem_cons.mpr ⟨snd_iload d233_150, List.forall_mem_cons.mpr ⟨snd_iload d233_152, List.forall_mem_cons.mpr ⟨snd_callV (by decide) rfl cn220 ⟨by decide +kernel, by decide +kernel⟩ cm220 (List.forall_mem_cons.mpr ⟨wd1681, cw220⟩) d233_154, List.forall_mem_cons.mpr ⟨snd_callS cn232 ⟨by decide +kernel, by decide +kernel⟩ cm232 (List.forall_mem_cons.mpr ⟨wd1722, cw232⟩) d233_157, List.forall_mem_cons.mpr ⟨snd_if_eq d233_160 (by decide), fun _ h => by cases h⟩⟩⟩⟩⟩⟩⟩⟩⟩⟩⟩⟩⟩⟩⟩⟩⟩⟩⟩⟩⟩⟩⟩⟩⟩⟩⟩⟩⟩⟩
theorem sc233_3 : ∀ q ∈ tc233_3, Snd xtb M233 q.1 q.2 := List.forall_mem_cons.mpr ⟨snd_iload d233_163, List.forall_mem_cons.mpr ⟨snd_aload_n d233_165 rfl, List.forall_mem_cons.mpr ⟨snd_iload d233_166, List.forall_mem_cons.mpr ⟨snd_iload d233_168, List.forall_mem_cons.mpr ⟨snd_callV (by decide) rfl cn221 ⟨by decide +kernel, by decide +kernel⟩ cm221 (List.forall_mem_cons.mpr ⟨wd1685, cw221⟩) d233_170, List.forall_mem_cons.mpr ⟨snd_aload_n d233_173 rfl, List.forall_mem_cons.mpr ⟨snd_iload d233_174, List.forall_mem_cons.mpr ⟨snd_iload d233_176, List.forall_mem_cons.mpr ⟨snd_callV (by decide) rfl cn221 ⟨by decide +kernel, by decide +kernel⟩ cm221 (List.forall_mem_cons.mpr ⟨wd1685, cw221⟩) d233_178, List.forall_mem_cons.mpr ⟨snd_callS cn232 ⟨by decide +kernel, by decide +kernel⟩ cm232 (List.forall_mem_cons.mpr ⟨wd1722, cw232⟩) d233_181, List.forall_mem_cons.mpr ⟨snd_if_eq d233_184 (by decide), List.forall_mem_cons.mpr ⟨snd_iconst d233_187 (by decide +kernel), List.forall_mem_cons.mpr ⟨snd_goto d233_188 (by decide), List.forall_mem_cons.mpr ⟨snd_iconst d233_191 (by decide +kernel), List.forall_mem_cons.mpr ⟨snd_istore d233_192, List.forall_mem_cons.mpr ⟨snd_iinc d233_194 (by decide +kernel), List.forall_mem_cons.mpr ⟨snd_goto d233_197 (by decide), List.forall_mem_cons.mpr ⟨snd_aload_n d233_200 rfl, List.forall_mem_cons.mpr ⟨snd_iload d233_201, List.forall_mem_cons.mpr ⟨snd_if_eq d233_203 (by decide), List.forall_mem_cons.mpr ⟨snd_iconst d233_206 (by decide +kernel), List.forall_mem_cons.mpr ⟨snd_goto d233_207 (by decide), List.forall_mem_cons.mpr ⟨snd_iconst d233_210 (by decide +kernel), List.forall_mem_cons.mpr ⟨snd_callV (by decide) rfl cn174 ⟨by decide +kernel, by decide +kernel⟩ cm174 (List.forall_mem_cons.mpr ⟨wd1622, cw174⟩) d233_211, List.forall_mem_cons.mpr ⟨snd_iret rfl d233_214, fun _ h => by cases h⟩⟩⟩⟩⟩⟩⟩⟩⟩⟩⟩⟩⟩⟩⟩⟩⟩⟩⟩⟩⟩⟩⟩⟩⟩
theorem d234_0 : decode (mC M234) 0 = .ok (.aload_n 0, 1) := by decide +kernel
theorem d234_1 : decode (mC M234) 1 = .ok (.iconst 0, 1) := by decide +kernel
theorem d234_2 : decode (mC M234) 2 = .ok (.putfield 64, 3) := by decide +kernel
theorem d234_5 : decode (mC M234) 5 = .ok (.aload_n 0, 1) := by decide +kernel
theorem d234_6 : decode (mC M234) 6 = .ok (.aload_n 0, 1) := by decide +kernel
theorem d234_7 : decode (mC M234) 7 = .ok (.iload_n 1, 1) := by decide +kernel
theorem d234_8 : decode (mC M234) 8 = .ok (.invokevirtual 271, 3) := by decide +kernel
theorem d234_11 : decode (mC M234) 11 = .ok (.iload_n 2, 1) := by decide +kernel
theorem d234_12 : decode (mC M234) 12 = .ok (.invokevirtual 283, 3) := by decide +kernel
theorem d234_15 : decode (mC M234) 15 = .ok (.istore_n 3, 1) := by decide +kernel
theorem d234_16 : decode (mC M234) 16 = .ok (.iload_n 3, 1) := by decide +kernel
theorem d234_17 : decode (mC M234) 17 = .ok (.ifCond .le 9, 3) := by decide +kernel
theorem d234_20 : decode (mC M234) 20 = .ok (.aload_n 0, 1) := by decide +kernel
theorem d234_21 : decode (mC M234) 21 = .ok (.iload_n 3, 1) := by decide +kernel
theorem d234_22 : decode (mC M234) 22 = .ok (.invokevirtual 70, 3) := by decide +kernel
theorem d234_25 : decode (mC M234) 25 = .ok (.ireturn, 1) := by decide +kernel
theorem d234_26 : decode (mC M234) 26 = .ok (.iconst 0, 1) := by decide +kernel
theorem d234_27 : decode (mC M234) 27 = .ok (.istore 4, 2) := by decide +kernel
theorem d234_29 : decode (mC M234) 29 = .ok (.iload 4, 2) := by decide +kernel
theorem d234_31 : decode (mC M234) 31 = .ok (.aload_n 0, 1) := by decide +kernel
theorem d234_32 : decode (mC M234) 32 = .ok (.getfield 13, 3) := by decide +kernel
theorem d234_35 : decode (mC M234) 35 = .ok (.iconst 4, 1) := by decide +kernel
theorem d234_36 : decode (mC M234) 36 = .ok (.iaload, 1) := by decide +kernel
theorem d234_37 : decode (mC M234) 37 = .ok (.if_icmp .ge 56, 3) := by decide +kernel
theorem d234_40 : decode (mC M234) 40 = .ok (.aload_n 0, 1) := by decide +kernel
theorem d234_41 : decode (mC M234) 41 = .ok (.getfield 13, 3) := by decide +kernel
theorem d234_44 : decode (mC M234) 44 = .ok (.iload 4, 2) := by decide +kernel
theorem d234_46 : decode (mC M234) 46 = .ok (.invokestatic 225, 3) := by decide +kernel
theorem d234_49 : decode (mC M234) 49 = .ok (.iaload, 1) := by decide +kernel
theorem d234_50 : decode (mC M234) 50 = .ok (.iload_n 1, 1) := by decide +kernel
theorem d234_51 : decode (mC M234) 51 = .ok (.if_icmp .ne 36, 3) := by decide +kernel
theorem d234_54 : decode (mC M234) 54 = .ok (.aload_n 0, 1) := by decide +kernel
theorem d234_55 : decode (mC M234) 55 = .ok (.getfield 13, 3) := by decide +kernel
theorem d234_58 : decode (mC M234) 58 = .ok (.iload 4, 2) := by decide +kernel
theorem d234_60 : decode (mC M234) 60 = .ok (.invokestatic 225, 3) := by decide +kernel
theorem d234_63 : decode (mC M234) 63 = .ok (.iconst 1, 1) := by decide +kernel
theorem d234_64 : decode (mC M234) 64 = .ok (.iadd, 1) := by decide +kernel
theorem d234_65 : decode (mC M234) 65 = .ok (.iaload, 1) := by decide +kernel
theorem d234_66 : decode (mC M234) 66 = .ok (.iload_n 2, 1) := by decide +kernel
theorem d234_67 : decode (mC M234) 67 = .ok (.if_icmp .le 20, 3) := by decide +kernel
theorem d234_70 : decode (mC M234) 70 = .ok (.aload_n 0, 1) := by decide +kernel
theorem d234_71 : decode (mC M234) 71 = .ok (.aload_n 0, 1) := by decide +kernel
theorem d234_72 : decode (mC M234) 72 = .ok (.getfield 13, 3) := by decide +kernel
theorem d234_75 : decode (mC M234) 75 = .ok (.iload 4, 2) := by decide +kernel
theorem d234_77 : decode (mC M234) 77 = .ok (.invokestatic 225, 3) := by decide +kernel
theorem d234_80 : decode (mC M234) 80 = .ok (.iconst 1, 1) := by decide +kernel
theorem d234_81 : decode (mC M234) 81 = .ok (.iadd, 1) := by decide +kernel
theorem d234_82 : decode (mC M234) 82 = .ok (.iaload, 1) := by decide +kernel
theorem d234_83 : decode (mC M234) 83 = .ok (.invokevirtual 264, 3) := by decide +kernel
theorem d234_86 : decode (mC M234) 86 = .ok (.ireturn, 1) := by decide +kernel
theorem d234_87 : decode (mC M234) 87 = .ok (.iinc 4 1, 3) := by decide +kernel
theorem d234_90 : decode (mC M234) 90 = .ok (.goto (-61), 3) := by decide +kernel
theorem d234_93 : decode (mC M234) 93 = .ok (.aload_n 0, 1) := by decide +kernel
theorem d234_94 : decode (mC M234) 94 = .ok (.bipush (-2), 2) := by decide +kernel
theorem d234_96 : decode (mC M234) 96 = .ok (.invokevirtual 264, 3) := by decide +kernel
theorem d234_99 : decode (mC M234) 99 = .ok (.ireturn, 1) := by decide +kernel
theorem sc234_0 : ∀ q ∈ tc234_0, Snd xtb M234 q.1 q.2 := List.forall_mem_cons.mpr ⟨snd_aload_n d234_0 rfl, List.forall_mem_cons.mpr ⟨snd_iconst d234_1 (by decide +kernel), List.forall_mem_cons.mpr ⟨snd_putI (by decide) (by decide) rfl rfl wd1367 d234_2, List.forall_mem_cons.mpr ⟨snd_aload_n d234_5 rfl, List.forall_mem_cons.mpr ⟨snd_aload_n d234_6 rfl, List.forall_mem_cons.mpr ⟨snd_iload_n d234_7 rfl, List.forall_mem_cons.mpr ⟨snd_callV (by decide) rfl cn214 ⟨by decide +kernel, by decide +kernel⟩ cm214 (List.forall_mem_cons.mpr ⟨wd1650, cw214⟩) d234_8, List.forall_mem_cons.mpr ⟨snd_iload_n d234_11 rfl, List.forall_mem_cons.mpr ⟨snd_callV (by decide) rfl cn224 ⟨by decide +kernel, by decide +kernel⟩ cm224 (List.forall_mem_cons.mpr ⟨wd1662, cw224⟩) d234_12, List.forall_mem_cons.mpr ⟨snd_istore_n d234_15 rfl, List.forall_mem_cons.mpr ⟨snd_iload_n d234_16 rfl, List.forall_mem_cons.mpr ⟨snd_if_le d234_17 (by decide), List.forall_mem_cons.mpr ⟨snd_aload_n d234_20 rfl, List.forall_mem_cons.mpr ⟨snd_iload_n d234_21 rfl, List.forall_mem_cons.mpr ⟨snd_callV (by decide) rfl cn172 ⟨by decide +kernel, by decide +kernel⟩ cm172 (List.forall_mem_cons.mpr ⟨wd1476, cw172⟩) d234_22, List.forall_mem_cons.mpr ⟨snd_iret rfl d234_25, List.forall_mem_cons.mpr ⟨snd_iconst d234_26 (by decide +kernel), List.forall_mem_cons.mpr ⟨snd_istore d234_27, List.forall_mem_cons.mpr ⟨snd_iload d234_29, List.forall_mem_cons.mpr ⟨snd_aload_n d234_31 rfl, List.forall_mem_cons.mpr ⟨snd_getR (by decide) (by decide) rfl wd1370 d234_32, List.forall_mem_cons.mpr ⟨snd_iconst d234_35 (by decide +kernel), List.forall_mem_cons.mpr ⟨snd_iald d234_36, List.forall_mem_cons.mpr ⟨snd_cmp_ge d234_37 (by decide), List.forall_mem_cons.mpr ⟨snd_aload_n d234_40 rfl, List.forall_mem_cons.mpr ⟨snd_getR (by decide) (by decide) rfl wd1370 d234_41, List.forall_mem_cons.mpr ⟨snd_iload d234_44, List.forall_mem_cons.mpr ⟨snd_callS cn199 ⟨by decide +kernel, by decide +kernel⟩ cm199 (List.forall_mem_cons.mpr ⟨wd1597, cw199⟩) d234_46, List.forall_mem_cons.mpr ⟨snd_iald d234_49, List.forall_mem_cons.mpr ⟨snd_iload_n d234_50 rfl, fun _ h => by cases h⟩⟩⟩⟩⟩⟩⟩⟩⟩⟩⟩⟩⟩⟩⟩⟩⟩⟩⟩⟩⟩⟩⟩⟩⟩⟩⟩⟩⟩⟩
theorem sc234_1 : ∀ q ∈ tc234_1, Snd xtb M234 q.1 q.2 := List.forall_mem_cons.mpr ⟨snd_cmp_ne d234_51 (by decide), List.forall_mem_cons.mpr ⟨snd_aload_n d234_54 rfl, List.forall_mem_cons.mpr ⟨snd_getR (by decide) (by decide) rfl wd1370 d234_55, List.forall_mem_cons.mpr ⟨snd_iload d234_58, List.forall_mem_cons.mpr ⟨snd_callS cn199 ⟨by decide +kernel, by decide +kernel⟩ cm199 (List.forall_mem_cons.mpr ⟨wd1597, cw199⟩) d234_60, List.forall_mem_cons.mpr ⟨snd_iconst d234_63 (by decide +kernel), List.forall_mem_cons.mpr ⟨snd_iadd d234_64, List.forall_mem_cons.mpr ⟨snd_iald d234_65, List.forall_mem_cons.mpr ⟨snd_iload_n d234_66 rfl, List.forall_mem_cons.mpr ⟨snd_cmp_le d234_67 (by decide), List.forall_mem_cons.mpr ⟨snd_aload_n d234_70 rfl, List.forall_mem_cons.mpr ⟨snd_aload_n d234_71 rfl, List.forall_mem_cons.mpr ⟨snd_getR (by decide) (by decide) rfl wd1370 d234_72, List.forall_mem_cons.mpr ⟨snd_iload d234_75, List.forall_mem_cons.mpr ⟨snd_callS cn199 ⟨by decide +kernel, by decide +kernel⟩ cm199 (List.forall_mem_cons.mpr ⟨wd1597, cw199⟩) d234_77, List.forall_mem_cons.mpr ⟨snd_iconst d234_80 (by decide +kernel), List.forall_mem_cons.mpr ⟨snd_iadd d234_81, List.forall_mem_cons.mpr ⟨snd_iald d234_82, List.forall_mem_cons.mpr ⟨snd_callV (by decide) rfl cn174 ⟨by decide +kernel, by decide +kernel⟩ cm174 (List.forall_mem_cons.mpr ⟨wd1622, cw174⟩) d234_83, List.forall_mem_cons.mpr ⟨snd_iret rfl d234_86, List.forall_mem_cons.mpr ⟨snd_iinc d234_87 (by decide +kernel), List.forall_mem_cons.mpr ⟨snd_goto d234_90 (by decide), List.forall_mem_cons.mpr ⟨snd_aload_n d234_93 rfl, List.forall_mem_cons.mpr ⟨snd_bipush d234_94 (by decide +kernel), List.forall_mem_cons.mpr ⟨snd_callV (by decide) rfl cn174 ⟨by decide +kernel, by decide +kernel⟩ cm174 (List.forall_mem_cons.mpr ⟨wd1622, cw174⟩) d234_96, List.forall_mem_cons.mpr ⟨snd_iret rfl d234_99, fun _ h => by cases h⟩⟩⟩⟩⟩⟩⟩⟩⟩⟩⟩⟩⟩⟩⟩⟩⟩⟩⟩⟩⟩⟩⟩⟩⟩⟩
theorem d235_0 : decode (mC M235) 0 = .ok (.iconst 0, 1) := by decide +kernel
theorem d235_1 : decode (mC M235) 1 = .ok (.istore 5, 2) := by decide +kernel
theorem d235_3 : decode (mC M235) 3 = .ok (.iload 5, 2) := by decide +kernel
theorem d235_5 : decode (mC M235) 5 = .ok (.aload_n 0, 1) := by decide +kernel
theorem d235_6 : decode (mC M235) 6 = .ok (.getfield 13, 3) := by decide +kernel
theorem d235_9 : decode (mC M235) 9 = .ok (.iconst 3, 1) := by decide +kernel
theorem d235_10 : decode (mC M235) 10 = .ok (.iaload, 1) := by decide +kernel
theorem d235_11 : decode (mC M235) 11 = .ok (.if_icmp .ge 39, 3) := by decide +kernel
theorem d235_14 : decode (mC M235) 14 = .ok (.aload_n 0, 1) := by decide +kernel
theorem d235_15 : decode (mC M235) 15 = .ok (.getfield 13, 3) := by decide +kernel
theorem d235_18 : decode (mC M235) 18 = .ok (.bipush 14, 2) := by decide +kernel
theorem d235_20 : decode (mC M235) 20 = .ok (.iload 5, 2) := by decide +kernel
theorem d235_22 : decode (mC M235) 22 = .ok (.iadd, 1) := by decide +kernel
theorem d235_23 : decode (mC M235) 23 = .ok (.iaload, 1) := by decide +kernel
theorem d235_24 : decode (mC M235) 24 = .ok (.iload_n 1, 1) := by decide +kernel
theorem d235_25 : decode (mC M235) 25 = .ok (.if_icmp .ne 19, 3) := by decide +kernel
theorem d235_28 : decode (mC M235) 28 = .ok (.aload_n 0, 1) := by decide +kernel
theorem d235_29 : decode (mC M235) 29 = .ok (.iload 5, 2) := by decide +kernel
theorem d235_31 : decode (mC M235) 31 = .ok (.iload_n 2, 1) := by decide +kernel
theorem d235_32 : decode (mC M235) 32 = .ok (.iload_n 3, 1) := by decide +kernel
theorem d235_33 : decode (mC M235) 33 = .ok (.iload 4, 2) := by decide +kernel
theorem d235_35 : decode (mC M235) 35 = .ok (.invokevirtual 311, 3) := by decide +kernel
theorem d235_38 : decode (mC M235) 38 = .ok (.ifCond .eq 6, 3) := by decide +kernel
theorem d235_41 : decode (mC M235) 41 = .ok (.iload 5, 2) := by decide +kernel
theorem d235_43 : decode (mC M235) 43 = .ok (.ireturn, 1) := by decide +kernel
theorem d235_44 : decode (mC M235) 44 = .ok (.iinc 5 1, 3) := by decide +kernel
theorem d235_47 : decode (mC M235) 47 = .ok (.goto (-44), 3) := by decide +kernel
theorem d235_50 : decode (mC M235) 50 = .ok (.bipush (-2), 2) := by decide +kernel
theorem d235_52 : decode (mC M235) 52 = .ok (.ireturn, 1) := by decide +kernel
theorem sc235_0 : ∀ q ∈ tc235_0, Snd xtb M235 q.1 q.2 := List.forall_mem_cons.mpr ⟨snd_iconst d235_0 (by decide +kernel), List.forall_mem_cons.mpr ⟨snd_istore d235_1, List.forall_mem_cons.mpr ⟨snd_iload d235_3, List.forall_mem_cons.mpr ⟨snd_aload_n d235_5 rfl, List.forall_mem_cons.mpr ⟨snd_getR (by decide) (by decide) rfl wd1370 d235_6, List.forall_mem_cons.mpr ⟨snd_iconst d235_9 (by decide +kernel), List.forall_mem_cons.mpr ⟨snd_iald d235_10, List.forall_mem_cons.mpr ⟨snd_cmp_ge d235_11 (by decide), List.forall_mem_cons.mpr ⟨snd_aload_n d235_14 rfl, List.forall_mem_cons.mpr ⟨snd_getR (by decide) (by decide) rfl wd1370 d235_15, List.forall_mem_cons.mpr ⟨snd_bipush d235_18 (by decide +kernel), List.forall_mem_cons.mpr ⟨snd_iload d235_20, List.forall_mem_cons.mpr ⟨snd_iadd d235_22, List.forall_mem_cons.mpr ⟨snd_iald d235_23, List.forall_mem_cons.mpr ⟨snd_iload_n d235_24 rfl, List.forall_mem_cons.mpr ⟨snd_cmp_ne d235_25 (by decide), List.forall_mem_cons.mpr ⟨snd_aload_n d235_28 rfl, List.forall_mem_cons.mpr ⟨snd_iload d235_29, List.forall_mem_cons.mpr ⟨snd_iload_n d235_31 rfl, List.forall_mem_cons.mpr ⟨snd_iload_n d235_32 rfl, List.forall_mem_cons.mpr ⟨snd_iload d235_33, List.forall_mem_cons.mpr ⟨snd_callV (by decide) rfl cn230 ⟨by decide +kernel, by decide +kernel⟩ cm230 (List.forall_mem_cons.mpr ⟨wd1710, cw230⟩) d235_35, List.forall_mem_cons.mpr ⟨snd_if_eq d235_38 (by decide), List.forall_mem_cons.mpr ⟨snd_iload d235_41, List.forall_mem_cons.mpr ⟨snd_iret rfl d235_43, List.forall_mem_cons.mpr ⟨snd_iinc d235_44 (by decide +kernel), List.forall_mem_cons.mpr ⟨snd_goto d235_47 (by decide), List.forall_mem_cons.mpr ⟨snd_bipush d235_50 (by decide +kernel), List.forall_mem_cons.mpr ⟨snd_iret rfl d235_52, fun _ h => by cases h⟩⟩⟩⟩⟩⟩⟩⟩⟩⟩⟩⟩⟩⟩⟩⟩⟩⟩⟩⟩⟩⟩⟩⟩⟩⟩⟩⟩⟩
theorem d236_0 : decode (mC M236) 0 = .ok (.iconst 0, 1) := by decide +kernel
theorem d236_1 : decode (mC M236) 1 = .ok (.istore 5, 2) := by decide +kernel
theorem d236_3 : decode (mC M236) 3 = .ok (.iconst 0, 1) := by decide +kernel
theorem d236_4 : decode (mC M236) 4 = .ok (.istore 6, 2) := by decide +kernel
theorem d236_6 : decode (mC M236) 6 = .ok (.iload 6, 2) := by decide +kernel
theorem d236_8 : decode (mC M236) 8 = .ok (.aload_n 0, 1) := by decide +kernel
theorem d236_9 : decode (mC M236) 9 = .ok (.getfield 13, 3) := by decide +kernel
theorem d236_12 : decode (mC M236) 12 = .ok (.iconst 1, 1) := by decide +kernel
theorem d236_13 : decode (mC M236) 13 = .ok (.iaload, 1) := by decide +kernel
theorem d236_14 : decode (mC M236) 14 = .ok (.if_icmp .ge 57, 3) := by decide +kernel
theorem d236_17 : decode (mC M236) 17 = .ok (.aload_n 0, 1) := by decide +kernel
theorem d236_18 : decode (mC M236) 18 = .ok (.iload 6, 2) := by decide +kernel
theorem d236_20 : decode (mC M236) 20 = .ok (.iload_n 1, 1) := by decide +kernel
theorem d236_21 : decode (mC M236) 21 = .ok (.iload_n 2, 1) := by decide +kernel
theorem d236_22 : decode (mC M236) 22 = .ok (.iload_n 3, 1) := by decide +kernel
theorem d236_23 : decode (mC M236) 23 = .ok (.invokevirtual 318, 3) := by decide +kernel
theorem d236_26 : decode (mC M236) 26 = .ok (.istore 7, 2) := by decide +kernel
theorem d236_28 : decode (mC M236) 28 = .ok (.iload 7, 2) := by decide +kernel
theorem d236_30 : decode (mC M236) 30 = .ok (.bipush (-2), 2) := by decide +kernel
theorem d236_32 : decode (mC M236) 32 = .ok (.if_icmp .ne 6, 3) := by decide +kernel
theorem d236_35 : decode (mC M236) 35 = .ok (.goto 30, 3) := by decide +kernel
theorem d236_38 : decode (mC M236) 38 = .ok (.aload 4, 2) := by decide +kernel
theorem d236_40 : decode (mC M236) 40 = .ok (.iload 5, 2) := by decide +kernel
theorem d236_42 : decode (mC M236) 42 = .ok (.iload 7, 2) := by decide +kernel
theorem d236_44 : decode (mC M236) 44 = .ok (.iastore, 1) := by decide +kernel
theorem d236_45 : decode (mC M236) 45 = .ok (.iinc 5 1, 3) := by decide +kernel
theorem d236_48 : decode (mC M236) 48 = .ok (.aload_n 0, 1) := by decide +kernel
theorem d236_49 : decode (mC M236) 49 = .ok (.getfield 13, 3) := by decide +kernel
theorem d236_52 : decode (mC M236) 52 = .ok (.bipush 24, 2) := by decide +kernel
theorem d236_54 : decode (mC M236) 54 = .ok (.iload 7, 2) := by decide +kernel
theorem d236_56 : decode (mC M236) 56 = .ok (.iadd, 1) := by decide +kernel
theorem d236_57 : decode (mC M236) 57 = .ok (.iaload, 1) := by decide +kernel
theorem d236_58 : decode (mC M236) 58 = .ok (.iconst 1, 1) := by decide +kernel
theorem d236_59 : decode (mC M236) 59 = .ok (.if_icmp .ne 6, 3) := by decide +kernel
theorem d236_62 : decode (mC M236) 62 = .ok (.iload 5, 2) := by decide +kernel
theorem d236_64 : decode (mC M236) 64 = .ok (.ireturn, 1) := by decide +kernel
theorem d236_65 : decode (mC M236) 65 = .ok (.iinc 6 1, 3) := by decide +kernel
theorem d236_68 : decode (mC M236) 68 = .ok (.goto (-62), 3) := by decide +kernel
theorem d236_71 : decode (mC M236) 71 = .ok (.iload 5, 2) := by decide +kernel
theorem d236_73 : decode (mC M236) 73 = .ok (.ireturn, 1) := by decide +kernel
theorem sc236_0 : ∀ q ∈ tc236_0, Snd xtb M236 q.1 q.2 := List.forall_mem_cons.mpr ⟨snd_iconst d236_0 (by decide +kernel), List.forall_mem_cons.mpr ⟨snd_istore d236_1, List.forall_mem_cons.mpr ⟨snd_iconst d236_3 (by decide +kernel), List.forall_mem_cons.mpr ⟨snd_istore d236_4, List.forall_mem_cons.mpr ⟨snd_iload d236_6, List.forall_mem_cons.mpr ⟨snd_aload_n d236_8 rfl, List.forall_mem_cons.mpr ⟨snd_getR (by decide) (by decide) rfl wd1370 d236_9, List.forall_mem_cons.mpr ⟨snd_iconst d236_12 (by decide +kernel), List.forall_mem_cons.mpr ⟨snd_iald d236_13, List.forall_mem_cons.mpr ⟨snd_cmp_ge d236_14 (by decide), List.forall_mem_cons.mpr ⟨snd_aload_n d236_17 rfl, List.forall_mem_cons.mpr ⟨snd_iload d236_18, List.forall_mem_cons.mpr ⟨snd_iload_n d236_20 rfl, List.forall_mem_cons.mpr ⟨snd_iload_n d236_21 rfl, List.forall_mem_cons.mpr ⟨snd_iload_n d236_22 rfl, List.forall_mem_cons.mpr ⟨snd_callV (by decide) rfl cn235 ⟨by decide +kernel, by decide +kernel⟩ cm235 (List.forall_mem_cons.mpr ⟨wd1733, cw235⟩) d236_23, List.forall_mem_cons.mpr ⟨snd_istore d236_26, List.forall_mem_cons.mpr ⟨snd_iload d236_28, List.forall_mem_cons.mpr ⟨snd_bipush d236_30 (by decide +kernel), List.forall_mem_cons.mpr ⟨snd_cmp_ne d236_32 (by decide), List.forall_mem_cons.mpr ⟨snd_goto d236_35 (by decide), List.forall_mem_cons.mpr ⟨snd_aload d236_38, List.forall_mem_cons.mpr ⟨snd_iload d236_40, List.forall_mem_cons.mpr ⟨snd_iload d236_42, List.forall_mem_cons.mpr ⟨snd_iast d236_44, List.forall_mem_cons.mpr ⟨snd_iinc d236_45 (by decide +kernel), List.forall_mem_cons.mpr ⟨snd_aload_n d236_48 rfl, List.forall_mem_cons.mpr ⟨snd_getR (by decide) (by decide) rfl wd1370 d236_49, List.forall_mem_cons.mpr ⟨snd_bipush d236_52 (by decide +kernel), List.forall_mem_cons.mpr ⟨snd_iload d236_54, fun _ h => by cases h⟩⟩⟩⟩⟩⟩⟩⟩⟩⟩⟩⟩⟩⟩⟩⟩⟩⟩⟩⟩⟩⟩⟩⟩⟩⟩⟩⟩⟩⟩
theorem sc236_1 : ∀ q ∈ tc236_1, Snd xtb M236 q.1 q.2 := List.forall_mem_cons.mpr ⟨snd_iadd d236_56, List.forall_mem_cons.mpr ⟨snd_iald d236_57, List.forall_mem_cons.mpr ⟨snd_iconst d236_58 (by decide +kernel), List.forall_mem_cons.mpr ⟨snd_cmp_ne d236_59 (by decide), List.forall_mem_cons.mpr ⟨snd_iload d236_62, List.forall_mem_cons.mpr ⟨snd_iret rfl d236_64, List.forall_mem_cons.mpr ⟨snd_iinc d236_65 (by decide +kernel), List.forall_mem_cons.mpr ⟨snd_goto d236_68 (by decide), List.forall_mem_cons.mpr ⟨snd_iload d236_71, List.forall_mem_cons.mpr ⟨snd_iret rfl d236_73, fun _ h => by cases h⟩⟩⟩⟩⟩⟩⟩⟩⟩⟩
theorem d237_0 : decode (mC M237) 0 = .ok (.aload_n 0, 1) := by decide +kernel
theorem d237_1 : decode (mC M237) 1 = .ok (.iconst 0, 1) := by decide +kernel
theorem d237_2 : decode (mC M237) 2 = .ok (.putfield 64, 3) := by decide +kernel
theorem d237_5 : decode (mC M237) 5 = .ok (.aload_n 0, 1) := by decide +kernel
theorem d237_6 : decode (mC M237) 6 = .ok (.aload_n 0, 1) := by decide +kernel
theorem d237_7 : decode (mC M237) 7 = .ok (.getfield 251, 3) := by decide +kernel
theorem d237_10 : decode (mC M237) 10 = .ok (.ifCond .eq 23, 3) := by decide +kernel
theorem d237_13 : decode (mC M237) 13 = .ok (.iload_n 1, 1) := by decide +kernel
theorem d237_14 : decode (mC M237) 14 = .ok (.iconst 0, 1) := by decide +kernel
theorem d237_15 : decode (mC M237) 15 = .ok (.aload_n 0, 1) := by decide +kernel
theorem d237_16 : decode (mC M237) 16 = .ok (.getfield 13, 3) := by decide +kernel
theorem d237_19 : decode (mC M237) 19 = .ok (.iconst 1, 1) := by decide +kernel
theorem d237_20 : decode (mC M237) 20 = .ok (.iaload, 1) := by decide +kernel
theorem d237_21 : decode (mC M237) 21 = .ok (.iconst 1, 1) := by decide +kernel
theorem d237_22 : decode (mC M237) 22 = .ok (.isub, 1) := by decide +kernel
theorem d237_23 : decode (mC M237) 23 = .ok (.invokestatic 95, 3) := by decide +kernel
theorem d237_26 : decode (mC M237) 26 = .ok (.ifCond .eq 7, 3) := by decide +kernel
theorem d237_29 : decode (mC M237) 29 = .ok (.iconst 1, 1) := by decide +kernel
theorem d237_30 : decode (mC M237) 30 = .ok (.goto 4, 3) := by decide +kernel
theorem d237_33 : decode (mC M237) 33 = .ok (.iconst 0, 1) := by decide +kernel
theorem d237_34 : decode (mC M237) 34 = .ok (.iload_n 2, 1) := by decide +kernel
theorem d237_35 : decode (mC M237) 35 = .ok (.iload_n 3, 1) := by decide +kernel
theorem d237_36 : decode (mC M237) 36 = .ok (.iload 4, 2) := by decide +kernel
theorem d237_38 : decode (mC M237) 38 = .ok (.invokevirtual 307, 3) := by decide +kernel
theorem d237_41 : decode (mC M237) 41 = .ok (.istore 5, 2) := by decide +kernel
theorem d237_43 : decode (mC M237) 43 = .ok (.iload 5, 2) := by decide +kernel
theorem d237_45 : decode (mC M237) 45 = .ok (.ifCond .le 12, 3) := by decide +kernel
theorem d237_48 : decode (mC M237) 48 = .ok (.aload_n 0, 1) := by decide +kernel
theorem d237_49 : decode (mC M237) 49 = .ok (.iload 5, 2) := by decide +kernel
theorem d237_51 : decode (mC M237) 51 = .ok (.invokevirtual 70, 3) := by decide +kernel
theorem d237_54 : decode (mC M237) 54 = .ok (.goto 16, 3) := by decide +kernel
theorem d237_57 : decode (mC M237) 57 = .ok (.aload_n 0, 1) := by decide +kernel
theorem d237_58 : decode (mC M237) 58 = .ok (.aload_n 0, 1) := by decide +kernel
theorem d237_59 : decode (mC M237) 59 = .ok (.iload_n 1, 1) := by decide +kernel
theorem d237_60 : decode (mC M237) 60 = .ok (.iload_n 2, 1) := by decide +kernel
theorem d237_61 : decode (mC M237) 61 = .ok (.iload_n 3, 1) := by decide +kernel
theorem d237_62 : decode (mC M237) 62 = .ok (.iload 4, 2) := by decide +kernel
theorem d237_64 : decode (mC M237) 64 = .ok (.invokevirtual 318, 3) := by decide +kernel
theorem d237_67 : decode (mC M237) 67 = .ok (.invokevirtual 264, 3) := by decide +kernel
theorem d237_70 : decode (mC M237) 70 = .ok (.ireturn, 1) := by decide +kernel
theorem sc237_0 : ∀ q ∈ tc237_0, Snd xtb M237 q.1 q.2 := List.forall_mem_cons.mpr ⟨snd_aload_n d237_0 rfl, List.forall_mem_cons.mpr ⟨snd_iconst d237_1 (by decide +kernel), List.forall_mem_cons.mpr ⟨snd_putI (by decide) (by decide) rfl rfl wd1367 d237_2, List.forall_mem_cons.mpr ⟨snd_aload_n d237_5 rfl, List.forall_mem_cons.mpr ⟨snd_aload_n d237_6 rfl, List.forall_mem_cons.mpr ⟨snd_getI (by decide) (by decide) rfl wd1374 d237_7, List.forall_mem_cons.mpr ⟨snd_if_eq d237_10 (by decide), List.forall_mem_cons.mpr ⟨snd_iload_n d237_13 rfl, List.forall_mem_cons.mpr ⟨snd_iconst d237_14 (by decide +kernel), List.forall_mem_cons.mpr ⟨snd_aload_n d237_15 rfl, List.forall_mem_cons.mpr ⟨snd_getR (by decide) (by decide) rfl wd1370 d237_16, List.forall_mem_cons.mpr ⟨snd_iconst d237_19 (by decide +kernel), List.forall_mem_cons.mpr ⟨snd_iald d237_20, List.forall_mem_cons.mpr ⟨snd_iconst d237_21 (by decide +kernel), List.forall_mem_cons.mpr ⟨snd_isub d237_22, List.forall_mem_cons.mpr ⟨snd_callS cn175 ⟨by decide +kernel, by decide +kernel⟩ cm175 (List.forall_mem_cons.mpr ⟨wd1492, cw175⟩) d237_23, List.forall_mem_cons.mpr ⟨snd_if_eq d237_26 (by decide), List.forall_mem_cons.mpr ⟨snd_iconst d237_29 (by decide +kernel), List.forall_mem_cons.mpr ⟨snd_goto d237_30 (by decide), List.forall_mem_cons.mpr ⟨snd_iconst d237_33 (by decide +kernel), List.forall_mem_cons.mpr ⟨snd_iload_n d237_34 rfl, List.forall_mem_cons.mpr ⟨snd_iload_n d237_35 rfl, List.forall_mem_cons.mpr ⟨snd_iload d237_36, List.forall_mem_cons.mpr ⟨snd_callV (by decide) rfl cn225 ⟨by decide +kernel, by decide +kernel⟩ cm225 (List.forall_mem_cons.mpr ⟨wd1702, cw225⟩) d237_38, List.forall_mem_cons.mpr ⟨snd_istore d237_41, List.forall_mem_cons.mpr ⟨snd_iload d237_43, List.forall_mem_cons.mpr ⟨snd_if_le d237_45 (by decide), List.forall_mem_cons.mpr ⟨snd_aload_n d237_48 rfl, List.forall_mem_cons.mpr ⟨snd_iload d237_49, List.forall_mem_cons.mpr ⟨snd_callV (by decide) rfl cn172 ⟨by decide +kernel, by decide +kernel⟩ cm172 (List.forall_mem_cons.mpr ⟨wd1476, cw172⟩) d237_51, fun _ h => by cases h⟩⟩⟩⟩⟩⟩⟩⟩⟩⟩⟩⟩⟩⟩⟩⟩⟩⟩⟩⟩⟩⟩⟩⟩⟩⟩⟩⟩⟩⟩
theorem sc237_1 : ∀ q ∈ tc237_1, Snd xtb M237 q.1 q.2 := List.forall_mem_cons.mpr ⟨snd_goto d237_54 (by decide), List.forall_mem_cons.mpr ⟨snd_aload_n d237_57 rfl, List.forall_mem_cons.mpr ⟨snd_aload_n d237_58 rfl, List.forall_mem_cons.mpr ⟨snd_iload_n d237_59 rfl, List.forall_mem_cons.mpr ⟨snd_iload_n d237_60 rfl, List.forall_mem_cons.mpr ⟨snd_iload_n d237_61 rfl, List.forall_mem_cons.mpr ⟨snd_iload d237_62, List.forall_mem_cons.mpr ⟨snd_callV (by decide) rfl cn235 ⟨by decide +kernel, by decide +kernel⟩ cm235 (List.forall_mem_cons.mpr ⟨wd1733, cw235⟩) d237_64, List.forall_mem_cons.mpr ⟨snd_callV (by decide) rfl cn174 ⟨by decide +kernel, by decide +kernel⟩ cm174 (List.forall_mem_cons.mpr ⟨wd1622, cw174⟩) d237_67, List.forall_mem_cons.mpr ⟨snd_iret rfl d237_70, fun _ h => by cases h⟩⟩⟩⟩⟩⟩⟩⟩⟩⟩
theorem d238_0 : decode (mC M238) 0 = .ok (.aload_n 0, 1) := by decide +kernel
theorem d238_1 : decode (mC M238) 1 = .ok (.iconst 0, 1) := by decide +kernel
theorem d238_2 : decode (mC M238) 2 = .ok (.putfield 64, 3) := by decide +kernel
theorem d238_5 : decode (mC M238) 5 = .ok (.aload_n 0, 1) := by decide +kernel
theorem d238_6 : decode (mC M238) 6 = .ok (.iconst 1, 1) := by decide +kernel
theorem d238_7 : decode (mC M238) 7 = .ok (.iload_n 1, 1) := by decide +kernel
theorem d238_8 : decode (mC M238) 8 = .ok (.iload_n 2, 1) := by decide +kernel
theorem d238_9 : decode (mC M238) 9 = .ok (.iload_n 3, 1) := by decide +kernel
theorem d238_10 : decode (mC M238) 10 = .ok (.invokevirtual 307, 3) := by decide +kernel
theorem d238_13 : decode (mC M238) 13 = .ok (.istore 4, 2) := by decide +kernel
theorem d238_15 : decode (mC M238) 15 = .ok (.iload 4, 2) := by decide +kernel
theorem d238_17 : decode (mC M238) 17 = .ok (.ifCond .le 12, 3) := by decide +kernel
theorem d238_20 : decode (mC M238) 20 = .ok (.aload_n 0, 1) := by decide +kernel
theorem d238_21 : decode (mC M238) 21 = .ok (.iload 4, 2) := by decide +kernel
theorem d238_23 : decode (mC M238) 23 = .ok (.invokevirtual 70, 3) := by decide +kernel
theorem d238_26 : decode (mC M238) 26 = .ok (.goto 18, 3) := by decide +kernel
theorem d238_29 : decode (mC M238) 29 = .ok (.aload_n 0, 1) := by decide +kernel
theorem d238_30 : decode (mC M238) 30 = .ok (.aload_n 0, 1) := by decide +kernel
theorem d238_31 : decode (mC M238) 31 = .ok (.iload_n 1, 1) := by decide +kernel
theorem d238_32 : decode (mC M238) 32 = .ok (.iload_n 2, 1) := by decide +kernel
theorem d238_33 : decode (mC M238) 33 = .ok (.iload_n 3, 1) := by decide +kernel
theorem d238_34 : decode (mC M238) 34 = .ok (.aload_n 0, 1) := by decide +kernel
theorem d238_35 : decode (mC M238) 35 = .ok (.getfield 31, 3) := by decide +kernel
theorem d238_38 : decode (mC M238) 38 = .ok (.invokevirtual 322, 3) := by decide +kernel
theorem d238_41 : decode (mC M238) 41 = .ok (.invokevirtual 264, 3) := by decide +kernel
theorem d238_44 : decode (mC M238) 44 = .ok (.ireturn, 1) := by decide +kernel
theorem sc238_0 : ∀ q ∈ tc238_0, Snd xtb M238 q.1 q.2 := List.forall_mem_cons.mpr ⟨snd_aload_n d238_0 rfl, List.forall_mem_cons.mpr ⟨snd_iconst d238_1 (by decide +kernel), List.forall_mem_cons.mpr ⟨snd_putI (by decide) (by decide) rfl rfl wd1367 d238_2, List.forall_mem_cons.mpr ⟨snd_aload_n d238_5 rfl, List.forall_mem_cons.mpr ⟨snd_iconst d238_6 (by decide +kernel), List.forall_mem_cons.mpr ⟨snd_iload_n d238_7 rfl, List.forall_mem_cons.mpr ⟨snd_iload_n d238_8 rfl, List.forall_mem_cons.mpr ⟨snd_iload_n d238_9 rfl, List.forall_mem_cons.mpr ⟨snd_callV (by decide) rfl cn225 ⟨by decide +kernel, by decide +kernel⟩ cm225 (List.forall_mem_cons.mpr ⟨wd1702, cw225⟩) d238_10, List.forall_mem_cons.mpr ⟨snd_istore d238_13, List.forall_mem_cons.mpr ⟨snd_iload d238_15, List.forall_mem_cons.mpr ⟨snd_if_le d238_17 (by decide), List.forall_mem_cons.mpr ⟨snd_aload_n d238_20 rfl, List.forall_mem_cons.mpr ⟨snd_iload d238_21, List.forall_mem_cons.mpr ⟨snd_callV (by decide) rfl cn172 ⟨by decide +kernel, by decide +kernel⟩ cm172 (List.forall_mem_cons.mpr ⟨wd1476, cw172⟩) d238_23, List.forall_mem_cons.mpr ⟨snd_goto d238_26 (by decide), List.forall_mem_cons.mpr ⟨snd_aload_n d238_29 rfl, List.forall_mem_cons.mpr ⟨snd_aload_n d238_30 rfl, List.forall_mem_cons.mpr ⟨snd_iload_n d238_31 rfl, List.forall_mem_cons.mpr ⟨snd_iload_n d238_32 rfl, List.forall_mem_cons.mpr ⟨snd_iload_n d238_33 rfl, List.forall_mem_cons.mpr ⟨snd_aload_n d238_34 rfl, List.forall_mem_cons.mpr ⟨snd_getR (by decide) (by decide) rfl wd1384 d238_35, List.forall_mem_cons.mpr ⟨snd_callV (by decide) rfl cn236 ⟨by decide +kernel, by decide +kernel⟩ cm236 (List.forall_mem_cons.mpr ⟨wd1741, cw236⟩) d238_38, List.forall_mem_cons.mpr ⟨snd_callV (by decide) rfl cn174 ⟨by decide +kernel, by decide +kernel⟩ cm174 (List.forall_mem_cons.mpr ⟨wd1622, cw174⟩) d238_41, List.forall_mem_cons.mpr ⟨snd_iret rfl d238_44, fun _ h => by cases h⟩⟩⟩⟩⟩⟩⟩⟩⟩⟩⟩⟩⟩⟩⟩⟩⟩⟩⟩⟩⟩⟩⟩⟩⟩⟩
theorem d239_0 : decode (mC M239) 0 = .ok (.aload_n 0, 1) := by decide +kernel
theorem d239_1 : decode (mC M239) 1 = .ok (.iconst 0, 1) := by decide +kernel
theorem d239_2 : decode (mC M239) 2 = .ok (.putfield 64, 3) := by decide +kernel
theorem d239_5 : decode (mC M239) 5 = .ok (.aload_n 0, 1) := by decide +kernel
theorem d239_6 : decode (mC M239) 6 = .ok (.iconst 1, 1) := by decide +kernel
theorem d239_7 : decode (mC M239) 7 = .ok (.iload_n 1, 1) := by decide +kernel
theorem d239_8 : decode (mC M239) 8 = .ok (.iload_n 2, 1) := by decide +kernel
theorem d239_9 : decode (mC M239) 9 = .ok (.iload_n 3, 1) := by decide +kernel
theorem d239_10 : decode (mC M239) 10 = .ok (.invokevirtual 307, 3) := by decide +kernel
theorem d239_13 : decode (mC M239) 13 = .ok (.istore 5, 2) := by decide +kernel
theorem d239_15 : decode (mC M239) 15 = .ok (.iload 5, 2) := by decide +kernel
theorem d239_17 : decode (mC M239) 17 = .ok (.ifCond .le 10, 3) := by decide +kernel
theorem d239_20 : decode (mC M239) 20 = .ok (.aload_n 0, 1) := by decide +kernel
theorem d239_21 : decode (mC M239) 21 = .ok (.iload 5, 2) := by decide +kernel
theorem d239_23 : decode (mC M239) 23 = .ok (.invokevirtual 70, 3) := by decide +kernel
theorem d239_26 : decode (mC M239) 26 = .ok (.ireturn, 1) := by decide +kernel
theorem d239_27 : decode (mC M239) 27 = .ok (.iload 4, 2) := by decide +kernel
theorem d239_29 : decode (mC M239) 29 = .ok (.iconst 0, 1) := by decide +kernel
theorem d239_30 : decode (mC M239) 30 = .ok (.aload_n 0, 1) := by decide +kernel
theorem d239_31 : decode (mC M239) 31 = .ok (.iload_n 1, 1) := by decide +kernel
theorem d239_32 : decode (mC M239) 32 = .ok (.iload_n 2, 1) := by decide +kernel
theorem d239_33 : decode (mC M239) 33 = .ok (.iload_n 3, 1) := by decide +kernel
theorem d239_34 : decode (mC M239) 34 = .ok (.aload_n 0, 1) := by decide +kernel
theorem d239_35 : decode (mC M239) 35 = .ok (.getfield 31, 3) := by decide +kernel
theorem d239_38 : decode (mC M239) 38 = .ok (.invokevirtual 322, 3) := by decide +kernel
theorem d239_41 : decode (mC M239) 41 = .ok (.iconst 1, 1) := by decide +kernel
theorem d239_42 : decode (mC M239) 42 = .ok (.isub, 1) := by decide +kernel
theorem d239_43 : decode (mC M239) 43 = .ok (.invokestatic 95, 3) := by decide +kernel
theorem d239_46 : decode (mC M239) 46 = .ok (.ifCond .eq 17, 3) := by decide +kernel
theorem d239_49 : decode (mC M239) 49 = .ok (.aload_n 0, 1) := by decide +kernel
theorem d239_50 : decode (mC M239) 50 = .ok (.aload_n 0, 1) := by decide +kernel
theorem d239_51 : decode (mC M239) 51 = .ok (.getfield 31, 3) := by decide +kernel
theorem d239_54 : decode (mC M239) 54 = .ok (.iload 4, 2) := by decide +kernel
theorem d239_56 : decode (mC M239) 56 = .ok (.iaload, 1) := by decide +kernel
theorem d239_57 : decode (mC M239) 57 = .ok (.invokevirtual 264, 3) := by decide +kernel
theorem d239_60 : decode (mC M239) 60 = .ok (.goto 8, 3) := by decide +kernel
theorem d239_63 : decode (mC M239) 63 = .ok (.aload_n 0, 1) := by decide +kernel
theorem d239_64 : decode (mC M239) 64 = .ok (.iconst 1, 1) := by decide +kernel
theorem d239_65 : decode (mC M239) 65 = .ok (.invokevirtual 70, 3) := by decide +kernel
theorem d239_68 : decode (mC M239) 68 = .ok (.ireturn, 1) := by decide +kernel
theorem sc239_0 : ∀ q ∈ tc239_0, Snd xtb M239 q.1 q.2 := List.forall_mem_cons.mpr ⟨snd_aload_n d239_0 rfl, List.forall_mem_cons.mpr ⟨snd_iconst d239_1 (by decide +kernel), List.forall_mem_cons.mpr ⟨snd_putI (by decide) (by decide) rfl rfl wd1367 d239_2, List.forall_mem_cons.mpr ⟨snd_aload_n d239_5 rfl, List.forall_mem_cons.mpr ⟨snd_iconst d239_6 (by decide +kernel), List.forall_mem_cons.mpr ⟨snd_iload_n d239_7 rfl, List.forall_mem_cons.mpr ⟨snd_iload_n d239_8 rfl, List.forall_mem_cons.mpr ⟨snd_iload_n d239_9 rfl, List.forall_mem_cons.mpr ⟨snd_callV (by decide) rfl cn225 ⟨by decide +kernel, by decide +kernel⟩ cm225 (List.forall_mem_cons.mpr ⟨wd1702, cw225⟩) d239_10, List.forall_mem_cons.mpr ⟨snd_istore d239_13, List.forall_mem_cons.mpr ⟨snd_iload d239_15, List.forall_mem_cons.mpr ⟨snd_if_le d239_17 (by decide), List.forall_mem_cons.mpr ⟨snd_aload_n d239_20 rfl, List.forall_mem_cons.mpr ⟨snd_iload d239_21, List.forall_mem_cons.mpr ⟨snd_callV (by decide) rfl cn172 ⟨by decide +kernel, by decide +kernel⟩ cm172 (List.forall_mem_cons.mpr ⟨wd1476, cw172⟩) d239_23, List.forall_mem_cons.mpr ⟨snd_iret rfl d239_26, List.forall_mem_cons.mpr ⟨snd_iload d239_27, List.forall_mem_cons.mpr ⟨snd_iconst d239_29 (by decide +kernel), List.forall_mem_cons.mpr ⟨snd_aload_n d239_30 rfl, List.forall_mem_cons.mpr ⟨snd_iload_n d239_31 rfl, List.forall_mem_cons.mpr ⟨snd_iload_n d239_32 rfl, List.forall_mem_cons.mpr ⟨snd_iload_n d239_33 rfl, List.forall_mem_cons.mpr ⟨snd_aload_n d239_34 rfl, List.forall_mem_cons.mpr ⟨snd_getR (by decide) (by decide) rfl wd1384 d239_35, List.forall_mem_cons.mpr ⟨snd_callV (by decide) rfl cn236 ⟨by decide +kernel, by decide +kernel⟩ cm236 (List.forall_mem_cons.mpr ⟨wd1741, cw236⟩) d239_38, List.forall_mem_cons.mpr ⟨snd_iconst d239_41 (by decide +kernel), List.forall_mem_cons.mpr ⟨snd_isub d239_42, List.forall_mem_cons.mpr ⟨snd_callS cn175 ⟨by decide +kernel, by decide +kernel⟩ cm175 (List.forall_mem_cons.mpr ⟨wd1492, cw175⟩) d239_43, List.forall_mem_cons.mpr ⟨snd_if_eq d239_46 (by decide), List.forall_mem_cons.mpr ⟨snd_aload_n d239_49 rfl, fun _ h => by cases h⟩⟩⟩⟩⟩⟩⟩⟩⟩⟩⟩⟩⟩⟩⟩⟩⟩⟩⟩⟩⟩⟩⟩⟩⟩⟩⟩⟩⟩⟩
theorem sc239_1 : ∀ q ∈ tc239_1, Snd xtb M239 q.1 q.2 := List.forall_mem_cons.mpr ⟨snd_aload_n d239_50 rfl, List.forall_mem_cons.mpr ⟨snd_getR (by decide) (by decide) rfl wd1384 d239_51, List.forall_mem_cons.mpr ⟨snd_iload d239_54, List.forall_mem_cons.mpr ⟨snd_iald d239_56, List.forall_mem_cons.mpr ⟨snd_callV (by decide) rfl cn174 ⟨by decide +kernel, by decide +kernel⟩ cm174 (List.forall_mem_cons.mpr ⟨wd1622, cw174⟩) d239_57, List.forall_mem_cons.mpr ⟨snd_goto d239_60 (by decide), List.forall_mem_cons.mpr ⟨snd_aload_n d239_63 rfl, List.forall_mem_cons.mpr ⟨snd_iconst d239_64 (by decide +kernel), List.forall_mem_cons.mpr ⟨snd_callV (by decide) rfl cn172 ⟨by decide +kernel, by decide +kernel⟩ cm172 (List.forall_mem_cons.mpr ⟨wd1476, cw172⟩) d239_65, List.forall_mem_cons.mpr ⟨snd_iret rfl d239_68, fun _ h => by cases h⟩⟩⟩⟩⟩⟩⟩⟩⟩⟩
theorem d240_0 : decode (mC M240) 0 = .ok (.aload_n 0, 1) := by decide +kernel
theorem d240_1 : decode (mC M240) 1 = .ok (.iconst 0, 1) := by decide +kernel
theorem d240_2 : decode (mC M240) 2 = .ok (.putfield 64, 3) := by decide +kernel
theorem d240_5 : decode (mC M240) 5 = .ok (.aload_n 0, 1) := by decide +kernel
theorem d240_6 : decode (mC M240) 6 = .ok (.iconst 1, 1) := by decide +kernel
theorem d240_7 : decode (mC M240) 7 = .ok (.iload_n 1, 1) := by decide +kernel
theorem d240_8 : decode (mC M240) 8 = .ok (.iload_n 2, 1) := by decide +kernel
theorem d240_9 : decode (mC M240) 9 = .ok (.iload_n 3, 1) := by decide +kernel
theorem d240_10 : decode (mC M240) 10 = .ok (.invokevirtual 307, 3) := by decide +kernel
theorem d240_13 : decode (mC M240) 13 = .ok (.istore 4, 2) := by decide +kernel
theorem d240_15 : decode (mC M240) 15 = .ok (.iload 4, 2) := by decide +kernel
theorem d240_17 : decode (mC M240) 17 = .ok (.ifCond .le 10, 3) := by decide +kernel
theorem d240_20 : decode (mC M240) 20 = .ok (.aload_n 0, 1) := by decide +kernel
theorem d240_21 : decode (mC M240) 21 = .ok (.iload 4, 2) := by decide +kernel
theorem d240_23 : decode (mC M240) 23 = .ok (.invokevirtual 70, 3) := by decide +kernel
theorem d240_26 : decode (mC M240) 26 = .ok (.ireturn, 1) := by decide +kernel
theorem d240_27 : decode (mC M240) 27 = .ok (.aload_n 0, 1) := by decide +kernel
theorem d240_28 : decode (mC M240) 28 = .ok (.iload_n 1, 1) := by decide +kernel
theorem d240_29 : decode (mC M240) 29 = .ok (.iload_n 2, 1) := by decide +kernel
theorem d240_30 : decode (mC M240) 30 = .ok (.iload_n 3, 1) := by decide +kernel
theorem d240_31 : decode (mC M240) 31 = .ok (.aload_n 0, 1) := by decide +kernel
theorem d240_32 : decode (mC M240) 32 = .ok (.getfield 31, 3) := by decide +kernel
theorem d240_35 : decode (mC M240) 35 = .ok (.invokevirtual 322, 3) := by decide +kernel
theorem d240_38 : decode (mC M240) 38 = .ok (.istore 5, 2) := by decide +kernel
theorem d240_40 : decode (mC M240) 40 = .ok (.iload_n 1, 1) := by decide +kernel
theorem d240_41 : decode (mC M240) 41 = .ok (.iconst 1, 1) := by decide +kernel
theorem d240_42 : decode (mC M240) 42 = .ok (.iadd, 1) := by decide +kernel
theorem d240_43 : decode (mC M240) 43 = .ok (.istore 6, 2) := by decide +kernel
theorem d240_45 : decode (mC M240) 45 = .ok (.iload 6, 2) := by decide +kernel
theorem d240_47 : decode (mC M240) 47 = .ok (.sipush 999, 3) := by decide +kernel
theorem d240_50 : decode (mC M240) 50 = .ok (.if_icmp .gt 90, 3) := by decide +kernel
theorem d240_53 : decode (mC M240) 53 = .ok (.aload_n 0, 1) := by decide +kernel
theorem d240_54 : decode (mC M240) 54 = .ok (.iload 6, 2) := by decide +kernel
theorem d240_56 : decode (mC M240) 56 = .ok (.iload_n 2, 1) := by decide +kernel
theorem d240_57 : decode (mC M240) 57 = .ok (.iload_n 3, 1) := by decide +kernel
theorem d240_58 : decode (mC M240) 58 = .ok (.aload_n 0, 1) := by decide +kernel
theorem d240_59 : decode (mC M240) 59 = .ok (.getfield 34, 3) := by decide +kernel
theorem d240_62 : decode (mC M240) 62 = .ok (.invokevirtual 322, 3) := by decide +kernel
theorem d240_65 : decode (mC M240) 65 = .ok (.iload 5, 2) := by decide +kernel
theorem d240_67 : decode (mC M240) 67 = .ok (.if_icmp .ne 7, 3) := by decide +kernel
theorem d240_70 : decode (mC M240) 70 = .ok (.iconst 1, 1) := by decide +kernel
theorem d240_71 : decode (mC M240) 71 = .ok (.goto 4, 3) := by decide +kernel
theorem d240_74 : decode (mC M240) 74 = .ok (.iconst 0, 1) := by decide +kernel
theorem d240_75 : decode (mC M240) 75 = .ok (.istore 7, 2) := by decide +kernel
theorem d240_77 : decode (mC M240) 77 = .ok (.iconst 0, 1) := by decide +kernel
theorem d240_78 : decode (mC M240) 78 = .ok (.istore 8, 2) := by decide +kernel
theorem d240_80 : decode (mC M240) 80 = .ok (.iload 7, 2) := by decide +kernel
theorem d240_82 : decode (mC M240) 82 = .ok (.ifCond .eq 40, 3) := by decide +kernel
theorem d240_85 : decode (mC M240) 85 = .ok (.iload 8, 2) := by decide +kernel
theorem d240_87 : decode (mC M240) 87 = .ok (.iload 5, 2) := by decide +kernel
theorem d240_89 : decode (mC M240) 89 = .ok (.if_icmp .ge 33, 3) := by decide +kernel
theorem d240_92 : decode (mC M240) 92 = .ok (.aload_n 0, 1) := by decide +kernel
theorem d240_93 : decode (mC M240) 93 = .ok (.getfield 31, 3) := by decide +kernel
theorem d240_96 : decode (mC M240) 96 = .ok (.iload 8, 2) := by decide +kernel
theorem d240_98 : decode (mC M240) 98 = .ok (.iaload, 1) := by decide +kernel
theorem d240_99 : decode (mC M240) 99 = .ok (.aload_n 0, 1) := by decide +kernel
theorem d240_100 : decode (mC M240) 100 = .ok (.getfield 34, 3) := by decide +kernel
theorem d240_103 : decode (mC M240) 103 = .ok (.iload 8, 2) := by decide +kernel
theorem d240_105 : decode (mC M240) 105 = .ok (.iaload, 1) := by decide +kernel
theorem d240_106 : decode (mC M240) 106 = .ok (.if_icmp .ne 7, 3) := by decide +kernel
theorem d240_109 : decode (mC M240) 109 = .ok (.iconst 1, 1) := by decide +kernel
theorem d240_110 : decode (mC M240) 110 = .ok (.goto 4, 3) := by decide +kernel
theorem d240_113 : decode (mC M240) 113 = .ok (.iconst 0, 1) := by decide +kernel
theorem d240_114 : decode (mC M240) 114 = .ok (.istore 7, 2) := by decide +kernel
theorem d240_116 : decode (mC M240) 116 = .ok (.iinc 8 1, 3) := by decide +kernel
theorem d240_119 : decode (mC M240) 119 = .ok (.goto (-39), 3) := by decide +kernel
theorem d240_122 : decode (mC M240) 122 = .ok (.iload 7, 2) := by decide +kernel
theorem d240_124 : decode (mC M240) 124 = .ok (.ifCond .ne 10, 3) := by decide +kernel
theorem d240_127 : decode (mC M240) 127 = .ok (.aload_n 0, 1) := by decide +kernel
theorem d240_128 : decode (mC M240) 128 = .ok (.iload 6, 2) := by decide +kernel
theorem d240_130 : decode (mC M240) 130 = .ok (.invokevirtual 264, 3) := by decide +kernel
theorem d240_133 : decode (mC M240) 133 = .ok (.ireturn, 1) := by decide +kernel
theorem d240_134 : decode (mC M240) 134 = .ok (.iinc 6 1, 3) := by decide +kernel
theorem d240_137 : decode (mC M240) 137 = .ok (.goto (-92), 3) := by decide +kernel
theorem d240_140 : decode (mC M240) 140 = .ok (.aload_n 0, 1) := by decide +kernel
theorem d240_141 : decode (mC M240) 141 = .ok (.bipush (-2), 2) := by decide +kernel
theorem d240_143 : decode (mC M240) 143 = .ok (.invokevirtual 264, 3) := by decide +kernel
theorem d240_146 : decode (mC M240) 146 = .ok (.ireturn, 1) := by decide +kernel
theorem sc240_0 : ∀ q ∈ tc240_0, Snd xtb M240 q.1 q.2 := List.forall_mem_cons.mpr ⟨snd_aload_n d240_0 rfl, List.forall_mem_cons.mpr ⟨snd_iconst d240_1 (by decide +kernel), List.forall_mem_cons.mpr ⟨snd_putI (by decide) (by decide) rfl rfl wd1367 d240_2, List.forall_mem_cons.mpr ⟨snd_aload_n d240_5 rfl, List.forall_mem_cons.mpr ⟨snd_iconst d240_6 (by decide +kernel), List.forall_mem_cons.mpr ⟨snd_iload_n d240_7 rfl, List.forall_mem_cons.mpr ⟨snd_iload_n d240_8 rfl, List.forall_mem_cons.mpr ⟨snd_iload_n d240_9 rfl, List.forall_mem_cons.mpr ⟨snd_callV (by decide) rfl cn225 ⟨by decide +kernel, by decide +kernel⟩ cm225 (List.forall_mem_cons.mpr ⟨wd1702, cw225⟩) d240_10, List.forall_mem_cons.mpr ⟨snd_istore d240_13, List.forall_mem_cons.mpr ⟨snd_iload d240_15, List.forall_mem_cons.mpr ⟨snd_if_le d240_17 (by decide), List.forall_mem_cons.mpr ⟨snd_aload_n d240_20 rfl, List.forall_mem_cons.mpr ⟨snd_iload d240_21, List.forall_mem_cons.mpr ⟨snd_callV (by decide) rfl cn172 ⟨by decide +kernel, by decide +kernel⟩ cm172 (List.forall_mem_cons.mpr ⟨wd1476, cw172⟩) d240_23, List.forall_mem_cons.mpr ⟨snd_iret rfl d240_26, List.forall_mem_cons.mpr ⟨snd_aload_n d240_27 rfl, List.forall_mem_cons.mpr ⟨snd_iload_n d240_28 rfl, List.forall_mem_cons.mpr ⟨snd_iload_n d240_29 rfl, List.forall_mem_cons.mpr ⟨snd_iload_n d240_30 rfl, List.forall_mem_cons.mpr ⟨snd_aload_n d240_31 rfl, List.forall_mem_cons.mpr ⟨snd_getR (by decide) (by decide) rfl wd1384 d240_32, List.forall_mem_cons.mpr ⟨snd_callV (by decide) rfl cn236 ⟨by decide +kernel, by decide +kernel⟩ cm236 (List.forall_mem_cons.mpr ⟨wd1741, cw236⟩) d240_35, List.forall_mem_cons.mpr ⟨snd_istore d240_38, List.forall_mem_cons.mpr ⟨snd_iload_n d240_40 rfl, List.forall_mem_cons.mpr ⟨snd_iconst d240_41 (by decide +kernel), List.forall_mem_cons.mpr ⟨snd_iadd d240_42, List.forall_mem_cons.mpr ⟨snd_istore d240_43, List.forall_mem_cons.mpr ⟨snd_iload d240_45, List.forall_mem_cons.mpr ⟨snd_sipush d240_47 (by decide +kernel), fun _ h => by cases h⟩⟩⟩⟩⟩⟩⟩⟩⟩⟩⟩⟩⟩⟩⟩⟩⟩⟩⟩⟩⟩⟩⟩⟩⟩⟩⟩⟩⟩⟩
theorem sc240_1 : ∀ q ∈ tc240_1, Snd xtb M240 q.1 q.2 := List.forall_mem_cons.mpr ⟨snd_cmp_gt d240_50 (by decide), List.forall_mem_cons.mpr ⟨snd_aload_n d240_53 rfl, List.forall_mem_cons.mpr ⟨snd_iload d240_54, List.forall_mem_cons.mpr ⟨snd_iload_n d240_56 rfl, List.forall_mem_cons.mpr ⟨snd_iload_n d240_57 rfl, List.forall_mem_cons.mpr ⟨snd_aload_n d240_58 rfl, List.forall_mem_cons.mpr ⟨snd_getR (by decide) (by decide) rfl wd1385 d240_59, List.forall_mem_cons.mpr ⟨snd_callV (by decide) rfl cn236 ⟨by decide +kernel, by decide +kernel⟩ cm236 (List.forall_mem_cons.mpr ⟨wd1741, cw236⟩) d240_62, List.forall_mem_cons.mpr ⟨snd_iload d240_65, List.forall_mem_cons.mpr ⟨snd_cmp_ne d240_67 (by decide), List.forall_mem_cons.mpr ⟨snd_iconst d240_70 (by decide +kernel), List.forall_mem_cons.mpr ⟨snd_goto d240_71 (by decide), List.forall_mem_cons.mpr ⟨snd_iconst d240_74 (by decide +kernel), List.forall_mem_cons.mpr ⟨snd_istore d240_75, List.forall_mem_cons.mpr ⟨snd_iconst d240_77 (by decide +kernel), List.forall_mem_cons.mpr ⟨snd_istore d240_78, List.forall_mem_cons.mpr ⟨snd_iload d240_80, List.forall_mem_cons.mpr ⟨snd_if_eq d240_82 (by decide), List.forall_mem_cons.mpr ⟨snd_iload d240_85, List.forall_mem_cons.mpr ⟨snd_iload d240_87, List.forall_mem_cons.mpr ⟨snd_cmp_ge d240_89 (by decide), List.forall_mem_cons.mpr ⟨snd_aload_n d240_92 rfl, List.forall_mem_cons.mpr ⟨snd_getR (by decide) (by decide) rfl wd1384 d240_93, List.forall_mem_cons.mpr ⟨snd_iload d240_96, List.forall_mem_cons.mpr ⟨snd_iald d240_98, List.forall_mem_cons.mpr ⟨snd_aload_n d240_99 rfl, List.forall_mem_cons.mpr ⟨snd_getR (by decide) (by decide) rfl wd1385 d240_100, List.forall_mem_cons.mpr ⟨snd_iload d240_103, List.forall_mem_cons.mpr ⟨snd_iald d240_105, List.forall_mem_cons.mpr ⟨snd_cmp_ne d240_106 (by decide), fun _ h => by cases h⟩⟩⟩⟩⟩⟩⟩⟩⟩⟩⟩⟩⟩⟩⟩⟩⟩⟩⟩⟩⟩⟩⟩⟩⟩⟩⟩⟩⟩⟩
theorem sc240_2 : ∀ q ∈ tc240_2, Snd xtb M240 q.1 q.2 := List.forall_mem_cons.mpr ⟨snd_iconst d240_109 (by decide +kernel), List.forall_mem_cons.mpr ⟨snd_goto d240_110 (by decide), List.forall_mem_cons.mpr ⟨snd_iconst d240_113 (by decide +kernel), List.forall_mem_cons.mpr ⟨snd_istore d240_114, List.forall_mem_cons.mpr ⟨snd_iinc d240_116 (by decide +kernel), List.forall_mem_cons.mpr ⟨snd_goto d240_119 (by decide), List.forall_mem_cons.mpr ⟨snd_iload d240_122, List.forall_mem_cons.mpr ⟨snd_if_ne d240_124 (by decide), List.forall_mem_cons.mpr ⟨snd_aload_n d240_127 rfl, List.forall_mem_cons.mpr ⟨snd_iload d240_128, List.forall_mem_cons.mpr ⟨snd_callV (by decide) rfl cn174 ⟨by decide +kernel, by decide +kernel⟩ cm174 (List.forall_mem_cons.mpr ⟨wd1622, cw174⟩) d240_130, List.forall_mem_cons.mpr ⟨snd_iret rfl d240_133, List.forall_mem_cons.mpr ⟨snd_iinc d240_134 (by decide +kernel), List.forall_mem_cons.mpr ⟨snd_goto d240_137 (by decide), List.forall_mem_cons.mpr ⟨snd_aload_n d240_140 rfl, List.forall_mem_cons.mpr ⟨snd_bipush d240_141 (by decide +kernel), List.forall_mem_cons.mpr ⟨snd_callV (by decide) rfl cn174 ⟨by decide +kernel, by decide +kernel⟩ cm174 (List.forall_mem_cons.mpr ⟨wd1622, cw174⟩) d240_143, List.forall_mem_cons.mpr ⟨snd_iret rfl d240_146, fun _ h => by cases h⟩⟩⟩⟩⟩⟩⟩⟩⟩⟩⟩⟩⟩⟩⟩⟩⟩⟩
theorem d241_0 : decode (mC M241) 0 = .ok (.aload_n 0, 1) := by decide +kernel
theorem d241_1 : decode (mC M241) 1 = .ok (.iconst 0, 1) := by decide +kernel
theorem d241_2 : decode (mC M241) 2 = .ok (.putfield 64, 3) := by decide +kernel
theorem d241_5 : decode (mC M241) 5 = .ok (.aload_n 0, 1) := by decide +kernel
theorem d241_6 : decode (mC M241) 6 = .ok (.iload_n 1, 1) := by decide +kernel
theorem d241_7 : decode (mC M241) 7 = .ok (.invokevirtual 271, 3) := by decide +kernel
theorem d241_10 : decode (mC M241) 10 = .ok (.ifCond .eq 16, 3) := by decide +kernel
theorem d241_13 : decode (mC M241) 13 = .ok (.aload_n 0, 1) := by decide +kernel
theorem d241_14 : decode (mC M241) 14 = .ok (.iload_n 2, 1) := by decide +kernel
theorem d241_15 : decode (mC M241) 15 = .ok (.invokevirtual 271, 3) := by decide +kernel
theorem d241_18 : decode (mC M241) 18 = .ok (.ifCond .eq 8, 3) := by decide +kernel
theorem d241_21 : decode (mC M241) 21 = .ok (.iload_n 1, 1) := by decide +kernel
theorem d241_22 : decode (mC M241) 22 = .ok (.iload_n 2, 1) := by decide +kernel
theorem d241_23 : decode (mC M241) 23 = .ok (.if_icmp .ne 9, 3) := by decide +kernel
theorem d241_26 : decode (mC M241) 26 = .ok (.aload_n 0, 1) := by decide +kernel
theorem d241_27 : decode (mC M241) 27 = .ok (.iconst 1, 1) := by decide +kernel
theorem d241_28 : decode (mC M241) 28 = .ok (.invokevirtual 70, 3) := by decide +kernel
theorem d241_31 : decode (mC M241) 31 = .ok (.ireturn, 1) := by decide +kernel
theorem d241_32 : decode (mC M241) 32 = .ok (.aload_n 0, 1) := by decide +kernel
theorem d241_33 : decode (mC M241) 33 = .ok (.getfield 13, 3) := by decide +kernel
theorem d241_36 : decode (mC M241) 36 = .ok (.bipush 14, 2) := by decide +kernel
theorem d241_38 : decode (mC M241) 38 = .ok (.iload_n 1, 1) := by decide +kernel
theorem d241_39 : decode (mC M241) 39 = .ok (.iadd, 1) := by decide +kernel
theorem d241_40 : decode (mC M241) 40 = .ok (.iaload, 1) := by decide +kernel
theorem d241_41 : decode (mC M241) 41 = .ok (.aload_n 0, 1) := by decide +kernel
theorem d241_42 : decode (mC M241) 42 = .ok (.getfield 13, 3) := by decide +kernel
theorem d241_45 : decode (mC M241) 45 = .ok (.bipush 14, 2) := by decide +kernel
theorem d241_47 : decode (mC M241) 47 = .ok (.iload_n 2, 1) := by decide +kernel
theorem d241_48 : decode (mC M241) 48 = .ok (.iadd, 1) := by decide +kernel
theorem d241_49 : decode (mC M241) 49 = .ok (.iaload, 1) := by decide +kernel
theorem d241_50 : decode (mC M241) 50 = .ok (.if_icmp .eq 9, 3) := by decide +kernel
theorem d241_53 : decode (mC M241) 53 = .ok (.aload_n 0, 1) := by decide +kernel
theorem d241_54 : decode (mC M241) 54 = .ok (.iconst 5, 1) := by decide +kernel
theorem d241_55 : decode (mC M241) 55 = .ok (.invokevirtual 70, 3) := by decide +kernel
theorem d241_58 : decode (mC M241) 58 = .ok (.ireturn, 1) := by decide +kernel
theorem d241_59 : decode (mC M241) 59 = .ok (.iload_n 3, 1) := by decide +kernel
theorem d241_60 : decode (mC M241) 60 = .ok (.invokestatic 280, 3) := by decide +kernel
theorem d241_63 : decode (mC M241) 63 = .ok (.ifCond .ne 9, 3) := by decide +kernel
theorem d241_66 : decode (mC M241) 66 = .ok (.aload_n 0, 1) := by decide +kernel
theorem d241_67 : decode (mC M241) 67 = .ok (.iconst 2, 1) := by decide +kernel
theorem d241_68 : decode (mC M241) 68 = .ok (.invokevirtual 70, 3) := by decide +kernel
theorem d241_71 : decode (mC M241) 71 = .ok (.ireturn, 1) := by decide +kernel
theorem d241_72 : decode (mC M241) 72 = .ok (.iconst 0, 1) := by decide +kernel
theorem d241_73 : decode (mC M241) 73 = .ok (.istore 4, 2) := by decide +kernel
theorem d241_75 : decode (mC M241) 75 = .ok (.iconst 0, 1) := by decide +kernel
theorem d241_76 : decode (mC M241) 76 = .ok (.istore 5, 2) := by decide +kernel
theorem d241_78 : decode (mC M241) 78 = .ok (.iload 5, 2) := by decide +kernel
theorem d241_80 : decode (mC M241) 80 = .ok (.aload_n 0, 1) := by decide +kernel
theorem d241_81 : decode (mC M241) 81 = .ok (.getfield 13, 3) := by decide +kernel
theorem d241_84 : decode (mC M241) 84 = .ok (.iconst 0, 1) := by decide +kernel
theorem d241_85 : decode (mC M241) 85 = .ok (.iaload, 1) := by decide +kernel
theorem d241_86 : decode (mC M241) 86 = .ok (.if_icmp .gt 65, 3) := by decide +kernel
theorem d241_89 : decode (mC M241) 89 = .ok (.iconst 0, 1) := by decide +kernel
theorem d241_90 : decode (mC M241) 90 = .ok (.istore 6, 2) := by decide +kernel
theorem d241_92 : decode (mC M241) 92 = .ok (.iload 6, 2) := by decide +kernel
theorem d241_94 : decode (mC M241) 94 = .ok (.aload_n 0, 1) := by decide +kernel
theorem d241_95 : decode (mC M241) 95 = .ok (.getfield 13, 3) := by decide +kernel
theorem d241_98 : decode (mC M241) 98 = .ok (.iconst 0, 1) := by decide +kernel
theorem d241_99 : decode (mC M241) 99 = .ok (.iaload, 1) := by decide +kernel
theorem d241_100 : decode (mC M241) 100 = .ok (.if_icmp .gt 45, 3) := by decide +kernel
theorem d241_103 : decode (mC M241) 103 = .ok (.iload 4, 2) := by decide +kernel
theorem d241_105 : decode (mC M241) 105 = .ok (.aload_n 0, 1) := by decide +kernel
theorem d241_106 : decode (mC M241) 106 = .ok (.iload_n 1, 1) := by decide +kernel
theorem d241_107 : decode (mC M241) 107 = .ok (.iload_n 3, 1) := by decide +kernel
theorem d241_108 : decode (mC M241) 108 = .ok (.iload 6, 2) := by decide +kernel
theorem d241_110 : decode (mC M241) 110 = .ok (.iload 5, 2) := by decide +kernel
theorem d241_112 : decode (mC M241) 112 = .ok (.invokevirtual 311, 3) := by decide +kernel
theorem d241_115 : decode (mC M241) 115 = .ok (.ifCond .eq 20, 3) := by decide +kernel
theorem d241_118 : decode (mC M241) 118 = .ok (.aload_n 0, 1) := by decide +kernel
theorem d241_119 : decode (mC M241) 119 = .ok (.iload_n 2, 1) := by decide +kernel
theorem d241_120 : decode (mC M241) 120 = .ok (.iload_n 3, 1) := by decide +kernel
theorem d241_121 : decode (mC M241) 121 = .ok (.iload 6, 2) := by decide +kernel
theorem d241_123 : decode (mC M241) 123 = .ok (.iload 5, 2) := by decide +kernel
theorem d241_125 : decode (mC M241) 125 = .ok (.invokevirtual 311, 3) := by decide +kernel
theorem d241_128 : decode (mC M241) 128 = .ok (.ifCond .eq 7, 3) := by decide +kernel
theorem d241_131 : decode (mC M241) 131 = .ok (.iconst 1, 1) := by decide +kernel
theorem d241_132 : decode (mC M241) 132 = .ok (.goto 4, 3) := by decide +kernel
theorem d241_135 : decode (mC M241) 135 = .ok (.iconst 0, 1) := by decide +kernel
theorem d241_136 : decode (mC M241) 136 = .ok (.iadd, 1) := by decide +kernel
theorem d241_137 : decode (mC M241) 137 = .ok (.istore 4, 2) := by decide +kernel
theorem d241_139 : decode (mC M241) 139 = .ok (.iinc 6 1, 3) := by decide +kernel
theorem d241_142 : decode (mC M241) 142 = .ok (.goto (-50), 3) := by decide +kernel
theorem d241_145 : decode (mC M241) 145 = .ok (.iinc 5 1, 3) := by decide +kernel
theorem d241_148 : decode (mC M241) 148 = .ok (.goto (-70), 3) := by decide +kernel
theorem d241_151 : decode (mC M241) 151 = .ok (.aload_n 0, 1) := by decide +kernel
theorem d241_152 : decode (mC M241) 152 = .ok (.iload 4, 2) := by decide +kernel
theorem d241_154 : decode (mC M241) 154 = .ok (.invokevirtual 264, 3) := by decide +kernel
theorem d241_157 : decode (mC M241) 157 = .ok (.ireturn, 1) := by decide +kernel
theorem sc241_0 : ∀ q ∈ tc241_0, Snd xtb M241 q.1 q.2 := List.forall_mem_cons.mpr ⟨snd_aload_n d241_0 rfl, List.forall_mem_cons.mpr ⟨snd_iconst d241_1 (by decide +kernel), List.forall_mem_cons.mpr ⟨snd_putI (by decide) (by decide) rfl rfl wd1367 d241_2, List.forall_mem_cons.mpr ⟨snd_aload_n d241_5 rfl, List.forall_mem_cons.mpr ⟨snd_iload_n d241_6 rfl, List.forall_mem_cons.mpr ⟨snd_callV (by decide) rfl cn214 ⟨by decide +kernel, by decide +kernel⟩ cm214 (List.forall_mem_cons.mpr ⟨wd1650, cw214⟩) d241_7, List.forall_mem_cons.mpr ⟨snd_if_eq d241_10 (by decide), List.forall_mem_cons.mpr ⟨snd_aload_n d241_13 rfl, List.forall_mem_cons.mpr ⟨snd_iload_n d241_14 rfl, List.forall_mem_cons.mpr ⟨snd_callV (by decide) rfl cn214 ⟨by decide +kernel, by decide +kernel⟩ cm214 (List.forall_mem_cons.mpr ⟨wd1650, cw214⟩) d241_15, List.forall_mem_cons.mpr ⟨snd_if_eq d241_18 (by decide), List.forall_mem_cons.mpr ⟨snd_iload_n d241_21 rfl, List.forall_mem_cons.mpr ⟨snd_iload_n d241_22 rfl, List.forall_mem_cons.mpr ⟨snd_cmp_ne d241_23 (by decide), List.forall_mem_cons.mpr ⟨snd_aload_n d241_26 rfl, List.forall_mem_cons.mpr ⟨snd_iconst d241_27 (by decide +kernel), List.forall_mem_cons.mpr ⟨snd_callV (by decide) rfl cn172 ⟨by decide +kernel, by decide +kernel⟩ cm172 (List.forall_mem_cons.mpr ⟨wd1476, cw172⟩) d241_28, List.forall_mem_cons.mpr ⟨snd_iret rfl d241_31, List.forall_mem_cons.mpr ⟨snd_aload_n d241_32 rfl, List.forall_mem_cons.mpr ⟨snd_getR (by decide) (by decide) rfl wd1370 d241_33, List.forall_mem_cons.mpr ⟨snd_bipush d241_36 (by decide +kernel), List.forall_mem_cons.mpr ⟨snd_iload_n d241_38 rfl, List.forall_mem_cons.mpr ⟨snd_iadd d241_39, List.forall_mem_cons.mpr ⟨snd_iald d241_40, List.forall_mem_cons.mpr ⟨snd_aload_n d241_41 rfl, List.forall_mem_cons.mpr ⟨snd_getR (by decide) (by decide) rfl wd1370 d241_42, List.forall_mem_cons.mpr ⟨snd_bipush d241_45 (by decide +kernel), List.forall_mem_cons.mpr ⟨snd_iload_n d241_47 rfl, List.forall_mem_cons.mpr ⟨snd_iadd d241_48, List.forall_mem_cons.mpr ⟨snd_iald d241_49, fun _ h => by cases h⟩⟩⟩⟩⟩⟩⟩⟩⟩⟩⟩⟩⟩⟩⟩⟩⟩⟩⟩⟩⟩⟩⟩⟩⟩⟩⟩⟩⟩⟩
theorem sc241_1 : ∀ q ∈ tc241_1, Snd xtb M241 q.1 q.2 := List.forall_mem_cons.mpr ⟨snd_cmp_eq d241_50 (by decide), List.forall_mem_cons.mpr ⟨snd_aload_n d241_53 rfl, List.forall_mem_cons.mpr ⟨snd_iconst d241_54 (by decide +kernel), List.forall_mem_cons.mpr ⟨snd_callV (by decide) rfl cn172 ⟨by decide +kernel, by decide +kernel⟩ cm172 (List.forall_mem_cons.mpr ⟨wd1476, cw172⟩) d241_55, List.forall_mem_cons.mpr ⟨snd_iret rfl d241_58, List.forall_mem_cons.mpr ⟨snd_iload_n d241_59 rfl, List.forall_mem_cons.mpr ⟨snd_callS cn222 ⟨by decide +kernel, by decide +kernel⟩ cm222 (List.forall_mem_cons.mpr ⟨wd1666, cw222⟩) d241_60, List.forall_mem_cons.mpr ⟨snd_if_ne d241_63 (by decide), List.forall_mem_cons.mpr ⟨snd_aload_n d241_66 rfl, List.forall_mem_cons.mpr ⟨snd_iconst d241_67 (by decide +kernel), List.forall_mem_cons.mpr ⟨snd_callV (by decide) rfl cn172 ⟨by decide +kernel, by decide +kernel⟩ cm172 (List.forall_mem_cons.mpr ⟨wd1476, cw172⟩) d241_68, List.forall_mem_cons.mpr ⟨snd_iret rfl d241_71, List.forall_mem_cons.mpr ⟨snd_iconst d241_72 (by decide +kernel), List.forall_mem_cons.mpr ⟨snd_istore d241_73, List.forall_mem_cons.mpr ⟨snd_iconst d241_75 (by decide +kernel), List.forall_mem_cons.mpr ⟨snd_istore d241_76, List.forall_mem_cons.mpr ⟨snd_iload d241_78, List.forall_mem_cons.mpr ⟨snd_aload_n d241_80 rfl, List.forall_mem_cons.mpr ⟨snd_getR (by decide) (by decide) rfl wd1370 d241_81, List.forall_mem_cons.mpr ⟨snd_iconst d241_84 (by decide +kernel), List.forall_mem_cons.mpr ⟨snd_iald d241_85, List.forall_mem_cons.mpr ⟨snd_cmp_gt d241_86 (by decide), List.forall_mem_cons.mpr ⟨snd_iconst d241_89 (by decide +kernel), List.forall_mem_cons.mpr ⟨snd_istore d241_90, List.forall_mem_cons.mpr ⟨snd_iload d241_92, List.forall_mem_cons.mpr ⟨snd_aload_n d241_94 rfl, List.forall_mem_cons.mpr ⟨snd_getR (by decide) (by decide) rfl wd1370 d241_95, List.forall_mem_cons.mpr ⟨snd_iconst d241_98 (by decide +kernel), List.forall_mem_cons.mpr ⟨snd_iald d241_99, List.forall_mem_cons.mpr ⟨snd_cmp_gt d241_100 (by decide), fun _ h => by cases h⟩⟩⟩⟩⟩⟩⟩⟩⟩⟩⟩⟩⟩⟩⟩⟩⟩⟩⟩⟩⟩⟩⟩⟩⟩⟩⟩⟩⟩⟩
theorem sc241_2 : ∀ q ∈ tc241_2, Snd xtb M241 q.1 q.2 := List.forall_mem_cons.mpr ⟨snd_iload d241_103, List.forall_mem_cons.mpr ⟨snd_aload_n d241_105 rfl, List.forall_mem_cons.mpr ⟨snd_iload_n d241_106 rfl, List.forall_mem_cons.mpr ⟨snd_iload_n d241_107 rfl, List.forall_mem_cons.mpr ⟨snd_iload d241_108, List.forall_mem_cons.mpr ⟨snd_iload d241_110, List.forall_mem_cons.mpr ⟨snd_callV (by decide) rfl cn230 ⟨by decide +kernel, by decide +kernel⟩ cm230 (List.forall_mem_cons.mpr ⟨wd1710, cw230⟩) d241_112, List.forall_mem_cons.mpr ⟨snd_if_eq d241_115 (by decide), List.forall_mem_cons.mpr ⟨snd_aload_n d241_118 rfl, List.forall_mem_cons.mpr ⟨snd_iload_n d241_119 rfl, List.forall_mem_cons.mpr ⟨snd_iload_n d241_120 rfl, List.forall_mem_cons.mpr ⟨snd_iload d241_121, List.forall_mem_cons.mpr ⟨snd_iload d241_123, List.forall_mem_cons.mpr ⟨snd_callV (by decide) rfl cn230 ⟨by decide +kernel, by decide +kernel⟩ cm230 (List.forall_mem_cons.mpr ⟨wd1710, cw230⟩) d241_125, List.forall_mem_cons.mpr ⟨snd_if_eq d241_128 (by decide), List.forall_mem_cons.mpr ⟨snd_iconst d241_131 (by decide +kernel), List.forall_mem_cons.mpr ⟨snd_goto d241_132 (by decide), List.forall_mem_cons.mpr ⟨snd_iconst d241_135 (by decide +kernel), List.forall_mem_cons.mpr ⟨snd_iadd d241_136, List.forall_mem_cons.mpr ⟨snd_istore d241_137, List.forall_mem_cons.mpr ⟨snd_iinc d241_139 (by decide +kernel), List.forall_mem_cons.mpr ⟨snd_goto d241_142 (by decide), List.forall_mem_cons.mpr ⟨snd_iinc d241_145 (by decide +kernel), List.forall_mem_cons.mpr ⟨snd_goto d241_148 (by decide), List.forall_mem_cons.mpr ⟨snd_aload_n d241_151 rfl, List.forall_mem_cons.mpr ⟨snd_iload d241_152, List.forall_mem_cons.mpr ⟨snd_callV (by decide) rfl cn174 ⟨by decide +kernel, by decide +kernel⟩ cm174 (List.forall_mem_cons.mpr ⟨wd1622, cw174⟩) d241_154, List.forall_mem_cons.mpr ⟨snd_iret rfl d241_157, fun _ h => by cases h⟩⟩⟩⟩⟩⟩⟩⟩⟩⟩⟩⟩⟩⟩⟩⟩⟩⟩⟩⟩⟩⟩⟩⟩⟩⟩⟩⟩
theorem d242_0 : decode (mC M242) 0 = .ok (.aload_n 0, 1) := by decide +kernel
theorem d242_1 : decode (mC M242) 1 = .ok (.iconst 0, 1) := by decide +kernel
theorem d242_2 : decode (mC M242) 2 = .ok (.putfield 64, 3) := by decide +kernel
theorem d242_5 : decode (mC M242) 5 = .ok (.aload_n 0, 1) := by decide +kernel
theorem d242_6 : decode (mC M242) 6 = .ok (.aload_n 0, 1) := by decide +kernel
theorem d242_7 : decode (mC M242) 7 = .ok (.iload_n 1, 1) := by decide +kernel
theorem d242_8 : decode (mC M242) 8 = .ok (.invokevirtual 271, 3) := by decide +kernel
theorem d242_11 : decode (mC M242) 11 = .ok (.iload_n 2, 1) := by decide +kernel
theorem d242_12 : decode (mC M242) 12 = .ok (.invokevirtual 283, 3) := by decide +kernel
theorem d242_15 : decode (mC M242) 15 = .ok (.istore_n 3, 1) := by decide +kernel
theorem d242_16 : decode (mC M242) 16 = .ok (.iload_n 3, 1) := by decide +kernel
theorem d242_17 : decode (mC M242) 17 = .ok (.ifCond .le 9, 3) := by decide +kernel
theorem d242_20 : decode (mC M242) 20 = .ok (.aload_n 0, 1) := by decide +kernel
theorem d242_21 : decode (mC M242) 21 = .ok (.iload_n 3, 1) := by decide +kernel
theorem d242_22 : decode (mC M242) 22 = .ok (.invokevirtual 70, 3) := by decide +kernel
theorem d242_25 : decode (mC M242) 25 = .ok (.ireturn, 1) := by decide +kernel
theorem d242_26 : decode (mC M242) 26 = .ok (.iconst 0, 1) := by decide +kernel
theorem d242_27 : decode (mC M242) 27 = .ok (.istore 4, 2) := by decide +kernel
theorem d242_29 : decode (mC M242) 29 = .ok (.iconst 0, 1) := by decide +kernel
theorem d242_30 : decode (mC M242) 30 = .ok (.istore 5, 2) := by decide +kernel
theorem d242_32 : decode (mC M242) 32 = .ok (.iload 5, 2) := by decide +kernel
theorem d242_34 : decode (mC M242) 34 = .ok (.aload_n 0, 1) := by decide +kernel
theorem d242_35 : decode (mC M242) 35 = .ok (.getfield 13, 3) := by decide +kernel
theorem d242_38 : decode (mC M242) 38 = .ok (.iconst 0, 1) := by decide +kernel
theorem d242_39 : decode (mC M242) 39 = .ok (.iaload, 1) := by decide +kernel
theorem d242_40 : decode (mC M242) 40 = .ok (.if_icmp .gt 61, 3) := by decide +kernel
theorem d242_43 : decode (mC M242) 43 = .ok (.iconst 0, 1) := by decide +kernel
theorem d242_44 : decode (mC M242) 44 = .ok (.istore 6, 2) := by decide +kernel
theorem d242_46 : decode (mC M242) 46 = .ok (.iload 6, 2) := by decide +kernel
theorem d242_48 : decode (mC M242) 48 = .ok (.aload_n 0, 1) := by decide +kernel
theorem d242_49 : decode (mC M242) 49 = .ok (.getfield 13, 3) := by decide +kernel
theorem d242_52 : decode (mC M242) 52 = .ok (.iconst 0, 1) := by decide +kernel
theorem d242_53 : decode (mC M242) 53 = .ok (.iaload, 1) := by decide +kernel
theorem d242_54 : decode (mC M242) 54 = .ok (.if_icmp .gt 41, 3) := by decide +kernel
theorem d242_57 : decode (mC M242) 57 = .ok (.iload 4, 2) := by decide +kernel
theorem d242_59 : decode (mC M242) 59 = .ok (.aload_n 0, 1) := by decide +kernel
theorem d242_60 : decode (mC M242) 60 = .ok (.aload_n 0, 1) := by decide +kernel
theorem d242_61 : decode (mC M242) 61 = .ok (.getfield 13, 3) := by decide +kernel
theorem d242_64 : decode (mC M242) 64 = .ok (.bipush 14, 2) := by decide +kernel
theorem d242_66 : decode (mC M242) 66 = .ok (.iload_n 1, 1) := by decide +kernel
theorem d242_67 : decode (mC M242) 67 = .ok (.iadd, 1) := by decide +kernel
theorem d242_68 : decode (mC M242) 68 = .ok (.iaload, 1) := by decide +kernel
theorem d242_69 : decode (mC M242) 69 = .ok (.iload_n 2, 1) := by decide +kernel
theorem d242_70 : decode (mC M242) 70 = .ok (.iload 6, 2) := by decide +kernel
theorem d242_72 : decode (mC M242) 72 = .ok (.iload 5, 2) := by decide +kernel
theorem d242_74 : decode (mC M242) 74 = .ok (.invokevirtual 318, 3) := by decide +kernel
theorem d242_77 : decode (mC M242) 77 = .ok (.iload_n 1, 1) := by decide +kernel
theorem d242_78 : decode (mC M242) 78 = .ok (.if_icmp .ne 7, 3) := by decide +kernel
theorem d242_81 : decode (mC M242) 81 = .ok (.iconst 1, 1) := by decide +kernel
theorem d242_82 : decode (mC M242) 82 = .ok (.goto 4, 3) := by decide +kernel
theorem d242_85 : decode (mC M242) 85 = .ok (.iconst 0, 1) := by decide +kernel
theorem d242_86 : decode (mC M242) 86 = .ok (.iadd, 1) := by decide +kernel
theorem d242_87 : decode (mC M242) 87 = .ok (.istore 4, 2) := by decide +kernel
theorem d242_89 : decode (mC M242) 89 = .ok (.iinc 6 1, 3) := by decide +kernel
theorem d242_92 : decode (mC M242) 92 = .ok (.goto (-46), 3) := by decide +kernel
theorem d242_95 : decode (mC M242) 95 = .ok (.iinc 5 1, 3) := by decide +kernel
theorem d242_98 : decode (mC M242) 98 = .ok (.goto (-66), 3) := by decide +kernel
theorem d242_101 : decode (mC M242) 101 = .ok (.aload_n 0, 1) := by decide +kernel
theorem d242_102 : decode (mC M242) 102 = .ok (.iload 4, 2) := by decide +kernel
theorem d242_104 : decode (mC M242) 104 = .ok (.invokevirtual 264, 3) := by decide +kernel
theorem d242_107 : decode (mC M242) 107 = .ok (.ireturn, 1) := by decide +kernel
theorem sc242_0 : ∀ q ∈ tc242_0, Snd xtb M242 q.1 q.2 := List.forall_mem_cons.mpr ⟨snd_aload_n d242_0 rfl, List.forall_mem_cons.mpr ⟨snd_iconst d242_1 (by decide +kernel), List.forall_mem_cons.mpr ⟨snd_putI (by decide) (by decide) rfl rfl wd1367 d242_2, List.forall_mem_cons.mpr ⟨snd_aload_n d242_5 rfl, List.forall_mem_cons.mpr ⟨snd_aload_n d242_6 rfl, List.forall_mem_cons.mpr ⟨snd_iload_n d242_7 rfl, List.forall_mem_cons.mpr ⟨snd_callV (by decide) rfl cn214 ⟨by decide +kernel, by decide +kernel⟩ cm214 (List.forall_mem_cons.mpr ⟨wd1650, cw214⟩) d242_8, List.forall_mem_cons.mpr ⟨snd_iload_n d242_11 rfl, List.forall_mem_cons.mpr ⟨snd_callV (by decide) rfl cn224 ⟨by decide +kernel, by decide +kernel⟩ cm224 (List.forall_mem_cons.mpr ⟨wd1662, cw224⟩) d242_12, List.forall_mem_cons.mpr ⟨snd_istore_n d242_15 rfl, List.forall_mem_cons.mpr ⟨snd_iload_n d242_16 rfl, List.forall_mem_cons.mpr ⟨snd_if_le d242_17 (by decide), List.forall_mem_cons.mpr ⟨snd_aload_n d242_20 rfl, List.forall_mem_cons.mpr ⟨snd_iload_n d242_21 rfl, List.forall_mem_cons.mpr ⟨snd_callV (by decide) rfl cn172 ⟨by decide +kernel, by decide +kernel⟩ cm172 (List.forall_mem_cons.mpr ⟨wd1476, cw172⟩) d242_22, List.forall_mem_cons.mpr ⟨snd_iret rfl d242_25, List.forall_mem_cons.mpr ⟨snd_iconst d242_26 (by decide +kernel), List.forall_mem_cons.mpr ⟨snd_istore d242_27, List.forall_mem_cons.mpr ⟨snd_iconst d242_29 (by decide +kernel), List.forall_mem_cons.mpr ⟨snd_istore d242_30, List.forall_mem_cons.mpr ⟨snd_iload d242_32, List.forall_mem_cons.mpr ⟨snd_aload_n d242_34 rfl, List.forall_mem_cons.mpr ⟨snd_getR (by decide) (by decide) rfl wd1370 d242_35, List.forall_mem_cons.mpr ⟨snd_iconst d242_38 (by decide +kernel), List.forall_mem_cons.mpr ⟨snd_iald d242_39, List.forall_mem_cons.mpr ⟨snd_cmp_gt d242_40 (by decide), List.forall_mem_cons.mpr ⟨snd_iconst d242_43 (by decide +kernel), List.forall_mem_cons.mpr ⟨snd_istore d242_44, List.forall_mem_cons.mpr ⟨snd_iload d242_46, List.forall_mem_cons.mpr ⟨snd_aload_n d242_48 rfl, fun _ h => by cases h⟩⟩⟩⟩⟩⟩⟩⟩⟩⟩⟩⟩⟩⟩⟩⟩⟩⟩⟩⟩⟩⟩⟩⟩⟩⟩⟩⟩⟩⟩
theorem sc242_1 : ∀ q ∈ tc242_1, Snd xtb M242 q.1 q.2 := List.forall_mem_cons.mpr ⟨snd_getR (by decide) (by decide) rfl wd1370 d242_49, List.forall_mem_cons.mpr ⟨snd_iconst d242_52 (by decide +kernel), List.forall_mem_cons.mpr ⟨snd_iald d242_53, List.forall_mem_cons.mpr ⟨snd_cmp_gt d242_54 (by decide), List.forall_mem_cons.mpr ⟨snd_iload d242_57, List.forall_mem_cons.mpr ⟨snd_aload_n d242_59 rfl, List.forall_mem_cons.mpr ⟨snd_aload_n d242_60 rfl, List.forall_mem_cons.mpr ⟨snd_getR (by decide) (by decide) rfl wd1370 d242_61, List.forall_mem_cons.mpr ⟨snd_bipush d242_64 (by decide +kernel), List.forall_mem_cons.mpr ⟨snd_iload_n d242_66 rfl, List.forall_mem_cons.mpr ⟨snd_iadd d242_67, List.forall_mem_cons.mpr ⟨snd_iald d242_68, List.forall_mem_cons.mpr ⟨snd_iload_n d242_69 rfl, List.forall_mem_cons.mpr ⟨snd_iload d242_70, List.forall_mem_cons.mpr ⟨snd_iload d242_72, List.forall_mem_cons.mpr ⟨snd_callV (by decide) rfl cn235 ⟨by decide +kernel, by decide +kernel⟩ cm235 (List.forall_mem_cons.mpr ⟨wd1733, cw235⟩) d242_74, List.forall_mem_cons.mpr ⟨snd_iload_n d242_77 rfl, List.forall_mem_cons.mpr ⟨snd_cmp_ne d242_78 (by decide), List.forall_mem_cons.mpr ⟨snd_iconst d242_81 (by decide +kernel), List.forall_mem_cons.mpr ⟨snd_goto d242_82 (by decide), List.forall_mem_cons.mpr ⟨snd_iconst d242_85 (by decide +kernel), List.forall_mem_cons.mpr ⟨snd_iadd d242_86, List.forall_mem_cons.mpr ⟨snd_istore d242_87, List.forall_mem_cons.mpr ⟨snd_iinc d242_89 (by decide +kernel), List.forall_mem_cons.mpr ⟨snd_goto d242_92 (by decide), List.forall_mem_cons.mpr ⟨snd_iinc d242_95 (by decide +kernel), List.forall_mem_cons.mpr ⟨snd_goto d242_98 (by decide), List.forall_mem_cons.mpr ⟨snd_aload_n d242_101 rfl, List.forall_mem_cons.mpr ⟨snd_iload d242_102, List.forall_mem_cons.mpr ⟨snd_callV (by decide) rfl cn174 ⟨by decide +kernel, by decide +kernel⟩ cm174 (List.forall_mem_cons.mpr ⟨wd1622, cw174⟩) d242_104, fun _ h => by cases h⟩⟩⟩⟩⟩⟩⟩⟩⟩⟩⟩⟩⟩⟩⟩⟩⟩⟩⟩⟩⟩⟩⟩⟩⟩⟩⟩⟩⟩⟩
theorem sc242_2 : ∀ q ∈ tc242_2, Snd xtb M242 q.1 q.2 := List.forall_mem_cons.mpr ⟨snd_iret rfl d242_107, fun _ h => by cases h⟩
theorem d243_0 : decode (mC M243) 0 = .ok (.aload_n 0, 1) := by decide +kernel
theorem d243_1 : decode (mC M243) 1 = .ok (.iconst 0, 1) := by decide +kernel
theorem d243_2 : decode (mC M243) 2 = .ok (.putfield 64, 3) := by decide +kernel
theorem d243_5 : decode (mC M243) 5 = .ok (.aload_n 0, 1) := by decide +kernel
theorem d243_6 : decode (mC M243) 6 = .ok (.getfield 251, 3) := by decide +kernel
theorem d243_9 : decode (mC M243) 9 = .ok (.ifCond .ne 9, 3) := by decide +kernel
theorem d243_12 : decode (mC M243) 12 = .ok (.aload_n 0, 1) := by decide +kernel
theorem d243_13 : decode (mC M243) 13 = .ok (.iconst 1, 1) := by decide +kernel
theorem d243_14 : decode (mC M243) 14 = .ok (.invokevirtual 70, 3) := by decide +kernel
theorem d243_17 : decode (mC M243) 17 = .ok (.ireturn, 1) := by decide +kernel
theorem d243_18 : decode (mC M243) 18 = .ok (.iload_n 1, 1) := by decide +kernel
theorem d243_19 : decode (mC M243) 19 = .ok (.iconst 0, 1) := by decide +kernel
theorem d243_20 : decode (mC M243) 20 = .ok (.iconst 4, 1) := by decide +kernel
theorem d243_21 : decode (mC M243) 21 = .ok (.invokestatic 95, 3) := by decide +kernel
theorem d243_24 : decode (mC M243) 24 = .ok (.ifCond .eq 10, 3) := by decide +kernel
theorem d243_27 : decode (mC M243) 27 = .ok (.iload_n 2, 1) := by decide +kernel
theorem d243_28 : decode (mC M243) 28 = .ok (.invokestatic 280, 3) := by decide +kernel
theorem d243_31 : decode (mC M243) 31 = .ok (.ifCond .ne 9, 3) := by decide +kernel
theorem d243_34 : decode (mC M243) 34 = .ok (.aload_n 0, 1) := by decide +kernel
theorem d243_35 : decode (mC M243) 35 = .ok (.iconst 2, 1) := by decide +kernel
theorem d243_36 : decode (mC M243) 36 = .ok (.invokevirtual 70, 3) := by decide +kernel
theorem d243_39 : decode (mC M243) 39 = .ok (.ireturn, 1) := by decide +kernel
theorem d243_40 : decode (mC M243) 40 = .ok (.iconst 0, 1) := by decide +kernel
theorem d243_41 : decode (mC M243) 41 = .ok (.istore_n 3, 1) := by decide +kernel
theorem d243_42 : decode (mC M243) 42 = .ok (.iconst 0, 1) := by decide +kernel
theorem d243_43 : decode (mC M243) 43 = .ok (.istore 4, 2) := by decide +kernel
theorem d243_45 : decode (mC M243) 45 = .ok (.iload 4, 2) := by decide +kernel
theorem d243_47 : decode (mC M243) 47 = .ok (.aload_n 0, 1) := by decide +kernel
theorem d243_48 : decode (mC M243) 48 = .ok (.getfield 13, 3) := by decide +kernel
theorem d243_51 : decode (mC M243) 51 = .ok (.iconst 0, 1) := by decide +kernel
theorem d243_52 : decode (mC M243) 52 = .ok (.iaload, 1) := by decide +kernel
theorem d243_53 : decode (mC M243) 53 = .ok (.if_icmp .gt 54, 3) := by decide +kernel
theorem d243_56 : decode (mC M243) 56 = .ok (.iconst 0, 1) := by decide +kernel
theorem d243_57 : decode (mC M243) 57 = .ok (.istore 5, 2) := by decide +kernel
theorem d243_59 : decode (mC M243) 59 = .ok (.iload 5, 2) := by decide +kernel
theorem d243_61 : decode (mC M243) 61 = .ok (.aload_n 0, 1) := by decide +kernel
theorem d243_62 : decode (mC M243) 62 = .ok (.getfield 13, 3) := by decide +kernel
theorem d243_65 : decode (mC M243) 65 = .ok (.iconst 0, 1) := by decide +kernel
theorem d243_66 : decode (mC M243) 66 = .ok (.iaload, 1) := by decide +kernel
theorem d243_67 : decode (mC M243) 67 = .ok (.if_icmp .gt 34, 3) := by decide +kernel
theorem d243_70 : decode (mC M243) 70 = .ok (.iload_n 3, 1) := by decide +kernel
theorem d243_71 : decode (mC M243) 71 = .ok (.aload_n 0, 1) := by decide +kernel
theorem d243_72 : decode (mC M243) 72 = .ok (.iload_n 2, 1) := by decide +kernel
theorem d243_73 : decode (mC M243) 73 = .ok (.iload 5, 2) := by decide +kernel
theorem d243_75 : decode (mC M243) 75 = .ok (.iload 4, 2) := by decide +kernel
theorem d243_77 : decode (mC M243) 77 = .ok (.aload_n 0, 1) := by decide +kernel
theorem d243_78 : decode (mC M243) 78 = .ok (.getfield 31, 3) := by decide +kernel
theorem d243_81 : decode (mC M243) 81 = .ok (.invokevirtual 322, 3) := by decide +kernel
theorem d243_84 : decode (mC M243) 84 = .ok (.iload_n 1, 1) := by decide +kernel
theorem d243_85 : decode (mC M243) 85 = .ok (.if_icmp .ne 7, 3) := by decide +kernel
theorem d243_88 : decode (mC M243) 88 = .ok (.iconst 1, 1) := by decide +kernel
theorem d243_89 : decode (mC M243) 89 = .ok (.goto 4, 3) := by decide +kernel
theorem d243_92 : decode (mC M243) 92 = .ok (.iconst 0, 1) := by decide +kernel
theorem d243_93 : decode (mC M243) 93 = .ok (.iadd, 1) := by decide +kernel
theorem d243_94 : decode (mC M243) 94 = .ok (.istore_n 3, 1) := by decide +kernel
theorem d243_95 : decode (mC M243) 95 = .ok (.iinc 5 1, 3) := by decide +kernel
theorem d243_98 : decode (mC M243) 98 = .ok (.goto (-39), 3) := by decide +kernel
theorem d243_101 : decode (mC M243) 101 = .ok (.iinc 4 1, 3) := by decide +kernel
theorem d243_104 : decode (mC M243) 104 = .ok (.goto (-59), 3) := by decide +kernel
theorem d243_107 : decode (mC M243) 107 = .ok (.aload_n 0, 1) := by decide +kernel
theorem d243_108 : decode (mC M243) 108 = .ok (.iload_n 3, 1) := by decide +kernel
theorem d243_109 : decode (mC M243) 109 = .ok (.invokevirtual 264, 3) := by decide +kernel
theorem d243_112 : decode (mC M243) 112 = .ok (.ireturn, 1) := by decide +kernel
theorem sc243_0 : ∀ q ∈ tc243_0, Snd xtb M243 q.1 q.2 := List.forall_mem_cons.mpr ⟨snd_aload_n d243_0 rfl, List.forall_mem_cons.mpr ⟨snd_iconst d243_1 (by decide +kernel), List.forall_mem_cons.mpr ⟨snd_putI (by decide) (by decide) rfl rfl wd1367 d243_2, List.forall_mem_cons.mpr ⟨snd_aload_n d243_5 rfl, List.forall_mem_cons.mpr ⟨snd_getI (by decide) (by decide) rfl wd1374 d243_6, List.forall_mem_cons.mpr ⟨snd_if_ne d243_9 (by decide), List.forall_mem_cons.mpr ⟨snd_aload_n d243_12 rfl, List.forall_mem_cons.mpr ⟨snd_iconst d243_13 (by decide +kernel), List.forall_mem_cons.mpr ⟨snd_callV (by decide) rfl cn172 ⟨by decide +kernel, by decide +kernel⟩ cm172 (List.forall_mem_cons.mpr ⟨wd1476, cw172⟩) d243_14, List.forall_mem_cons.mpr ⟨snd_iret rfl d243_17, List.forall_mem_cons.mpr ⟨snd_iload_n d243_18 rfl, List.forall_mem_cons.mpr ⟨snd_iconst d243_19 (by decide +kernel), List.forall_mem_cons.mpr ⟨snd_iconst d243_20 (by decide +kernel), List.forall_mem_cons.mpr ⟨snd_callS cn175 ⟨by decide +kernel, by decide +kernel⟩ cm175 (List.forall_mem_cons.mpr ⟨wd1492, cw175⟩) d243_21, List.forall_mem_cons.mpr ⟨snd_if_eq d243_24 (by decide), List.forall_mem_cons.mpr ⟨snd_iload_n d243_27 rfl, List.forall_mem_cons.mpr ⟨snd_callS cn222 ⟨by decide +kernel, by decide +kernel⟩ cm222 (List.forall_mem_cons.mpr ⟨wd1666, cw222⟩) d243_28, List.forall_mem_cons.mpr ⟨snd_if_ne d243_31 (by decide), List.forall_mem_cons.mpr ⟨snd_aload_n d243_34 rfl, List.forall_mem_cons.mpr ⟨snd_iconst d243_35 (by decide +kernel), List.forall_mem_cons.mpr ⟨snd_callV (by decide) rfl cn172 ⟨by decide +kernel, by decide +kernel⟩ cm172 (List.forall_mem_cons.mpr ⟨wd1476, cw172⟩) d243_36, List.forall_mem_cons.mpr ⟨snd_iret rfl d243_39, List.forall_mem_cons.mpr ⟨snd_iconst d243_40 (by decide +kernel), List.forall_mem_cons.mpr ⟨snd_istore_n d243_41 rfl, List.forall_mem_cons.mpr ⟨snd_iconst d243_42 (by decide +kernel), List.forall_mem_cons.mpr ⟨snd_istore d243_43, List.forall_mem_cons.mpr ⟨snd_iload d243_45, List.forall_mem_cons.mpr ⟨snd_aload_n d243_47 rfl, List.forall_mem_cons.mpr ⟨snd_getR (by decide) (by decide) rfl wd1370 d243_48, List.forall_mem_cons.mpr ⟨snd_iconst d243_51 (by decide +kernel), fun _ h => by cases h⟩⟩⟩⟩⟩⟩⟩⟩⟩⟩⟩⟩⟩⟩⟩⟩⟩⟩⟩⟩⟩⟩⟩⟩⟩⟩⟩⟩⟩⟩
theorem sc243_1 : ∀ q ∈ tc243_1, Snd xtb M243 q.1 q.2 := List.forall_mem_cons.mpr ⟨snd_iald d243_52, List.forall_mem_cons.mpr ⟨snd_cmp_gt d243_53 (by decide), List.forall_mem_cons.mpr ⟨snd_iconst d243_56 (by decide +kernel), List.forall_mem_cons.mpr ⟨snd_istore d243_57, List.forall_mem_cons.mpr ⟨snd_iload d243_59, List.forall_mem_cons.mpr ⟨snd_aload_n d243_61 rfl, List.forall_mem_cons.mpr ⟨snd_getR (by decide) (by decide) rfl wd1370 d243_62, List.forall_mem_cons.mpr ⟨snd_iconst d243_65 (by decide +kernel), List.forall_mem_cons.mpr ⟨snd_iald d243_66, List.forall_mem_cons.mpr ⟨snd_cmp_gt d243_67 (by decide), List.forall_mem_cons.mpr ⟨snd_iload_n d243_70 rfl, List.forall_mem_cons.mpr ⟨snd_aload_n d243_71 rfl, List.forall_mem_cons.mpr ⟨snd_iload_n d243_72 rfl, List.forall_mem_cons.mpr ⟨snd_iload d243_73, List.forall_mem_cons.mpr ⟨snd_iload d243_75, List.forall_mem_cons.mpr ⟨snd_aload_n d243_77 rfl, List.forall_mem_cons.mpr ⟨snd_getR (by decide) (by decide) rfl wd1384 d243_78, List.forall_mem_cons.mpr ⟨snd_callV (by decide) rfl cn236 ⟨by decide +kernel, by decide +kernel⟩ cm236 (List.forall_mem_cons.mpr ⟨wd1741, cw236⟩) d243_81, List.forall_mem_cons.mpr ⟨snd_iload_n d243_84 rfl, List.forall_mem_cons.mpr ⟨snd_cmp_ne d243_85 (by decide), List.forall_mem_cons.mpr ⟨snd_iconst d243_88 (by decide +kernel), List.forall_mem_cons.mpr ⟨snd_goto d243_89 (by decide), List.forall_mem_cons.mpr ⟨snd_iconst d243_92 (by decide +kernel), List.forall_mem_cons.mpr ⟨snd_iadd d243_93, List.forall_mem_cons.mpr ⟨snd_istore_n d243_94 rfl, List.forall_mem_cons.mpr ⟨snd_iinc d243_95 (by decide +kernel), List.forall_mem_cons.mpr ⟨snd_goto d243_98 (by decide), List.forall_mem_cons.mpr ⟨snd_iinc d243_101 (by decide +kernel), List.forall_mem_cons.mpr ⟨snd_goto d243_104 (by decide), List.forall_mem_cons.mpr ⟨snd_aload_n d243_107 rfl, fun _ h => by cases h⟩⟩⟩⟩⟩⟩⟩⟩⟩⟩⟩⟩⟩⟩⟩⟩⟩⟩⟩⟩⟩⟩⟩⟩⟩⟩⟩⟩⟩⟩
theorem sc243_2 : ∀ q ∈ tc243_2, Snd xtb M243 q.1 q.2 := List.forall_mem_cons.mpr ⟨snd_iload_n d243_108 rfl, List.forall_mem_cons.mpr ⟨snd_callV (by decide) rfl cn174 ⟨by decide +kernel, by decide +kernel⟩ cm174 (List.forall_mem_cons.mpr ⟨wd1622, cw174⟩) d243_109, List.forall_mem_cons.mpr ⟨snd_iret rfl d243_112, fun _ h => by cases h⟩⟩⟩
theorem d244_0 : decode (mC M244) 0 = .ok (.iconst (-1), 1) := by decide +kernel
theorem d244_1 : decode (mC M244) 1 = .ok (.istore 4, 2) := by decide +kernel
theorem d244_3 : decode (mC M244) 3 = .ok (.iconst 0, 1) := by decide +kernel
theorem d244_4 : decode (mC M244) 4 = .ok (.istore 5, 2) := by decide +kernel
theorem d244_6 : decode (mC M244) 6 = .ok (.iload 5, 2) := by decide +kernel
theorem d244_8 : decode (mC M244) 8 = .ok (.aload_n 0, 1) := by decide +kernel
theorem d244_9 : decode (mC M244) 9 = .ok (.getfield 13, 3) := by decide +kernel
theorem d244_12 : decode (mC M244) 12 = .ok (.iconst 5, 1) := by decide +kernel
theorem d244_13 : decode (mC M244) 13 = .ok (.iaload, 1) := by decide +kernel
theorem d244_14 : decode (mC M244) 14 = .ok (.if_icmp .ge 67, 3) := by decide +kernel
theorem d244_17 : decode (mC M244) 17 = .ok (.sipush 274, 3) := by decide +kernel
theorem d244_20 : decode (mC M244) 20 = .ok (.iconst 4, 1) := by decide +kernel
theorem d244_21 : decode (mC M244) 21 = .ok (.iload 5, 2) := by decide +kernel
theorem d244_23 : decode (mC M244) 23 = .ok (.imul, 1) := by decide +kernel
theorem d244_24 : decode (mC M244) 24 = .ok (.iadd, 1) := by decide +kernel
theorem d244_25 : decode (mC M244) 25 = .ok (.istore 6, 2) := by decide +kernel
theorem d244_27 : decode (mC M244) 27 = .ok (.aload_n 0, 1) := by decide +kernel
theorem d244_28 : decode (mC M244) 28 = .ok (.getfield 13, 3) := by decide +kernel
theorem d244_31 : decode (mC M244) 31 = .ok (.iload 6, 2) := by decide +kernel
theorem d244_33 : decode (mC M244) 33 = .ok (.iaload, 1) := by decide +kernel
theorem d244_34 : decode (mC M244) 34 = .ok (.iload_n 1, 1) := by decide +kernel
theorem d244_35 : decode (mC M244) 35 = .ok (.if_icmp .ne 40, 3) := by decide +kernel
theorem d244_38 : decode (mC M244) 38 = .ok (.aload_n 0, 1) := by decide +kernel
theorem d244_39 : decode (mC M244) 39 = .ok (.getfield 13, 3) := by decide +kernel
theorem d244_42 : decode (mC M244) 42 = .ok (.iload 6, 2) := by decide +kernel
theorem d244_44 : decode (mC M244) 44 = .ok (.iconst 1, 1) := by decide +kernel
theorem d244_45 : decode (mC M244) 45 = .ok (.iadd, 1) := by decide +kernel
theorem d244_46 : decode (mC M244) 46 = .ok (.iaload, 1) := by decide +kernel
theorem d244_47 : decode (mC M244) 47 = .ok (.iload_n 2, 1) := by decide +kernel
theorem d244_48 : decode (mC M244) 48 = .ok (.if_icmp .ne 27, 3) := by decide +kernel
theorem d244_51 : decode (mC M244) 51 = .ok (.aload_n 0, 1) := by decide +kernel
theorem d244_52 : decode (mC M244) 52 = .ok (.getfield 13, 3) := by decide +kernel
theorem d244_55 : decode (mC M244) 55 = .ok (.iload 6, 2) := by decide +kernel
theorem d244_57 : decode (mC M244) 57 = .ok (.iconst 2, 1) := by decide +kernel
theorem d244_58 : decode (mC M244) 58 = .ok (.iadd, 1) := by decide +kernel
theorem d244_59 : decode (mC M244) 59 = .ok (.iaload, 1) := by decide +kernel
theorem d244_60 : decode (mC M244) 60 = .ok (.iload_n 3, 1) := by decide +kernel
theorem d244_61 : decode (mC M244) 61 = .ok (.if_icmp .gt 14, 3) := by decide +kernel
theorem d244_64 : decode (mC M244) 64 = .ok (.aload_n 0, 1) := by decide +kernel
theorem d244_65 : decode (mC M244) 65 = .ok (.getfield 13, 3) := by decide +kernel
theorem d244_68 : decode (mC M244) 68 = .ok (.iload 6, 2) := by decide +kernel
theorem d244_70 : decode (mC M244) 70 = .ok (.iconst 3, 1) := by decide +kernel
theorem d244_71 : decode (mC M244) 71 = .ok (.iadd, 1) := by decide +kernel
theorem d244_72 : decode (mC M244) 72 = .ok (.iaload, 1) := by decide +kernel
theorem d244_73 : decode (mC M244) 73 = .ok (.istore 4, 2) := by decide +kernel
theorem d244_75 : decode (mC M244) 75 = .ok (.iinc 5 1, 3) := by decide +kernel
theorem d244_78 : decode (mC M244) 78 = .ok (.goto (-72), 3) := by decide +kernel
theorem d244_81 : decode (mC M244) 81 = .ok (.iload 4, 2) := by decide +kernel
theorem d244_83 : decode (mC M244) 83 = .ok (.ireturn, 1) := by decide +kernel
theorem sc244_0 : ∀ q ∈ tc244_0, Snd xtb M244 q.1 q.2 := List.forall_mem_cons.mpr ⟨snd_iconst d244_0 (by decide +kernel), List.forall_mem_cons.mpr ⟨snd_istore d244_1, List.forall_mem_cons.mpr ⟨snd_iconst d244_3 (by decide +kernel), List.forall_mem_cons.mpr ⟨snd_istore d244_4, List.forall_mem_cons.mpr ⟨snd_iload d244_6, List.forall_mem_cons.mpr ⟨snd_aload_n d244_8 rfl, List.forall_mem_cons.mpr ⟨snd_getR (by decide) (by decide) rfl wd1370 d244_9, List.forall_mem_cons.mpr ⟨snd_iconst d244_12 (by decide +kernel), List.forall_mem_cons.mpr ⟨snd_iald d244_13, List.forall_mem_cons.mpr ⟨snd_cmp_ge d244_14 (by decide), List.forall_mem_cons.mpr ⟨snd_sipush d244_17 (by decide +kernel), List.forall_mem_cons.mpr ⟨snd_iconst d244_20 (by decide +kernel), List.forall_mem_cons.mpr ⟨snd_iload d244_21, List.forall_mem_cons.mpr ⟨snd_imul d244_23, List.forall_mem_cons.mpr ⟨snd_iadd d244_24, List.forall_mem_cons.mpr ⟨snd_istore d244_25, List.forall_mem_cons.mpr ⟨snd_aload_n d244_27 rfl, List.forall_mem_cons.mpr ⟨snd_getR (by decide) (by decide) rfl wd1370 d244_28, List.forall_mem_cons.mpr ⟨snd_iload d244_31, List.forall_mem_cons.mpr ⟨snd_iald d244_33, List.forall_mem_cons.mpr ⟨snd_iload_n d244_34 rfl, List.forall_mem_cons.mpr ⟨snd_cmp_ne d244_35 (by decide), List.forall_mem_cons.mpr ⟨snd_aload_n d244_38 rfl, List.forall_mem_cons.mpr ⟨snd_getR (by decide) (by decide) rfl wd1370 d244_39, List.forall_mem_cons.mpr ⟨snd_iload d244_42, List.forall_mem_cons.mpr ⟨snd_iconst d244_44 (by decide +kernel), List.forall_mem_cons.mpr ⟨snd_iadd d244_45, List.forall_mem_cons.mpr ⟨snd_iald d244_46, List.forall_mem_cons.mpr ⟨snd_iload_n d244_47 rfl, List.forall_mem_cons.mpr ⟨snd_cmp_ne d244_48 (by decide), fun _ h => by cases h⟩⟩⟩⟩⟩⟩⟩⟩⟩⟩⟩⟩⟩⟩⟩⟩⟩⟩⟩⟩⟩⟩⟩⟩⟩⟩⟩⟩⟩⟩
theorem sc244_1 : ∀ q ∈ tc244_1, Snd xtb M244 q.1 q.2 := List.forall_mem_cons.mpr ⟨snd_aload_n d244_51 rfl, List.forall_mem_cons.mpr ⟨snd_getR (by decide) (by decide) rfl wd1370 d244_52, List.forall_mem_cons.mpr ⟨snd_iload d244_55, List.forall_mem_cons.mpr ⟨snd_iconst d244_57 (by decide +kernel), List.forall_mem_cons.mpr ⟨snd_iadd d244_58, List.forall_mem_cons.mpr ⟨snd_iald d244_59, List.forall_mem_cons.mpr ⟨snd_iload_n d244_60 rfl, List.forall_mem_cons.mpr ⟨snd_cmp_gt d244_61 (by decide), List.forall_mem_cons.mpr ⟨snd_aload_n d244_64 rfl, List.forall_mem_cons.mpr ⟨snd_getR (by decide) (by decide) rfl wd1370 d244_65, List.forall_mem_cons.mpr ⟨snd_iload d244_68, List.forall_mem_cons.mpr ⟨snd_iconst d244_70 (by decide +kernel), List.forall_mem_cons.mpr ⟨snd_iadd d244_71, List.forall_mem_cons.mpr ⟨snd_iald d244_72, List.forall_mem_cons.mpr ⟨snd_istore d244_73, List.forall_mem_cons.mpr ⟨snd_iinc d244_75 (by decide +kernel), List.forall_mem_cons.mpr ⟨snd_goto d244_78 (by decide), List.forall_mem_cons.mpr ⟨snd_iload d244_81, List.forall_mem_cons.mpr ⟨snd_iret rfl d244_83, fun _ h => by cases h⟩⟩⟩⟩⟩⟩⟩⟩⟩⟩⟩⟩⟩⟩⟩⟩⟩⟩⟩
theorem d245_0 : decode (mC M245) 0 = .ok (.iload_n 2, 1) := by decide +kernel
theorem d245_1 : decode (mC M245) 1 = .ok (.istore 4, 2) := by decide +kernel
theorem d245_3 : decode (mC M245) 3 = .ok (.iload 4, 2) := by decide +kernel
theorem d245_5 : decode (mC M245) 5 = .ok (.bipush (-2), 2) := by decide +kernel
theorem d245_7 : decode (mC M245) 7 = .ok (.if_icmp .eq 39, 3) := by decide +kernel
theorem d245_10 : decode (mC M245) 10 = .ok (.aload_n 0, 1) := by decide +kernel
theorem d245_11 : decode (mC M245) 11 = .ok (.iload_n 1, 1) := by decide +kernel
theorem d245_12 : decode (mC M245) 12 = .ok (.iload 4, 2) := by decide +kernel
theorem d245_14 : decode (mC M245) 14 = .ok (.iload_n 3, 1) := by decide +kernel
theorem d245_15 : decode (mC M245) 15 = .ok (.invokevirtual 326, 3) := by decide +kernel
theorem d245_18 : decode (mC M245) 18 = .ok (.iconst (-1), 1) := by decide +kernel
theorem d245_19 : decode (mC M245) 19 = .ok (.if_icmp .eq 12, 3) := by decide +kernel
theorem d245_22 : decode (mC M245) 22 = .ok (.aload_n 0, 1) := by decide +kernel
theorem d245_23 : decode (mC M245) 23 = .ok (.iload_n 1, 1) := by decide +kernel
theorem d245_24 : decode (mC M245) 24 = .ok (.iload 4, 2) := by decide +kernel
theorem d245_26 : decode (mC M245) 26 = .ok (.iload_n 3, 1) := by decide +kernel
theorem d245_27 : decode (mC M245) 27 = .ok (.invokevirtual 326, 3) := by decide +kernel
theorem d245_30 : decode (mC M245) 30 = .ok (.ireturn, 1) := by decide +kernel
theorem d245_31 : decode (mC M245) 31 = .ok (.aload_n 0, 1) := by decide +kernel
theorem d245_32 : decode (mC M245) 32 = .ok (.getfield 13, 3) := by decide +kernel
theorem d245_35 : decode (mC M245) 35 = .ok (.bipush 8, 2) := by decide +kernel
theorem d245_37 : decode (mC M245) 37 = .ok (.iload 4, 2) := by decide +kernel
theorem d245_39 : decode (mC M245) 39 = .ok (.iadd, 1) := by decide +kernel
theorem d245_40 : decode (mC M245) 40 = .ok (.iaload, 1) := by decide +kernel
theorem d245_41 : decode (mC M245) 41 = .ok (.istore 4, 2) := by decide +kernel
theorem d245_43 : decode (mC M245) 43 = .ok (.goto (-40), 3) := by decide +kernel
theorem d245_46 : decode (mC M245) 46 = .ok (.iconst 0, 1) := by decide +kernel
theorem d245_47 : decode (mC M245) 47 = .ok (.ireturn, 1) := by decide +kernel
theorem sc245_0 : ∀ q ∈ tc245_0, Snd xtb M245 q.1 q.2 := List.forall_mem_cons.mpr ⟨snd_iload_n d245_0 rfl, List.forall_mem_cons.mpr ⟨snd_istore d245_1, List.forall_mem_cons.mpr ⟨snd_iload d245_3, List.forall_mem_cons.mpr ⟨snd_bipush d245_5 (by decide +kernel), List.forall_mem_cons.mpr ⟨snd_cmp_eq d245_7 (by decide), List.forall_mem_cons.mpr ⟨snd_aload_n d245_10 rfl, List.forall_mem_cons.mpr ⟨snd_iload_n d245_11 rfl, List.forall_mem_cons.mpr ⟨snd_iload d245_12, List.forall_mem_cons.mpr ⟨snd_iload_n d245_14 rfl, List.forall_mem_cons.mpr ⟨snd_callV (by decide) rfl cn244 ⟨by decide +kernel, by decide +kernel⟩ cm244 (List.forall_mem_cons.mpr ⟨wd1773, cw244⟩) d245_15, List.forall_mem_cons.mpr ⟨snd_iconst d245_18 (by decide +kernel), List.forall_mem_cons.mpr ⟨snd_cmp_eq d245_19 (by decide), List.forall_mem_cons.mpr ⟨snd_aload_n d245_22 rfl, List.forall_mem_cons.mpr ⟨snd_iload_n d245_23 rfl, List.forall_mem_cons.mpr ⟨snd_iload d245_24, List.forall_mem_cons.mpr ⟨snd_iload_n d245_26 rfl, List.forall_mem_cons.mpr ⟨snd_callV (by decide) rfl cn244 ⟨by decide +kernel, by decide +kernel⟩ cm244 (List.forall_mem_cons.mpr ⟨wd1773, cw244⟩) d245_27, List.forall_mem_cons.mpr ⟨snd_iret rfl d245_30, List.forall_mem_cons.mpr ⟨snd_aload_n d245_31 rfl, List.forall_mem_cons.mpr ⟨snd_getR (by decide) (by decide) rfl wd1370 d245_32, List.forall_mem_cons.mpr ⟨snd_bipush d245_35 (by decide +kernel), List.forall_mem_cons.mpr ⟨snd_iload d245_37, List.forall_mem_cons.mpr ⟨snd_iadd d245_39, List.forall_mem_cons.mpr ⟨snd_iald d245_40, List.forall_mem_cons.mpr ⟨snd_istore d245_41, List.forall_mem_cons.mpr ⟨snd_goto d245_43 (by decide), List.forall_mem_cons.mpr ⟨snd_iconst d245_46 (by decide +kernel), List.forall_mem_cons.mpr ⟨snd_iret rfl d245_47, fun _ h => by cases h⟩⟩⟩⟩⟩⟩⟩⟩⟩⟩⟩⟩⟩⟩⟩⟩⟩⟩⟩⟩⟩⟩⟩⟩⟩⟩⟩⟩
theorem d246_0 : decode (mC M246) 0 = .ok (.iload_n 1, 1) := by decide +kernel
theorem d246_1 : decode (mC M246) 1 = .ok (.istore_n 3, 1) := by decide +kernel
theorem d246_2 : decode (mC M246) 2 = .ok (.iload_n 3, 1) := by decide +kernel
theorem d246_3 : decode (mC M246) 3 = .ok (.bipush (-2), 2) := by decide +kernel
theorem d246_5 : decode (mC M246) 5 = .ok (.if_icmp .eq 23, 3) := by decide +kernel
theorem d246_8 : decode (mC M246) 8 = .ok (.iload_n 3, 1) := by decide +kernel
theorem d246_9 : decode (mC M246) 9 = .ok (.iload_n 2, 1) := by decide +kernel
theorem d246_10 : decode (mC M246) 10 = .ok (.if_icmp .ne 5, 3) := by decide +kernel
theorem d246_13 : decode (mC M246) 13 = .ok (.iconst 1, 1) := by decide +kernel
theorem d246_14 : decode (mC M246) 14 = .ok (.ireturn, 1) := by decide +kernel
theorem d246_15 : decode (mC M246) 15 = .ok (.aload_n 0, 1) := by decide +kernel
theorem d246_16 : decode (mC M246) 16 = .ok (.getfield 13, 3) := by decide +kernel
theorem d246_19 : decode (mC M246) 19 = .ok (.bipush 8, 2) := by decide +kernel
theorem d246_21 : decode (mC M246) 21 = .ok (.iload_n 3, 1) := by decide +kernel
theorem d246_22 : decode (mC M246) 22 = .ok (.iadd, 1) := by decide +kernel
theorem d246_23 : decode (mC M246) 23 = .ok (.iaload, 1) := by decide +kernel
theorem d246_24 : decode (mC M246) 24 = .ok (.istore_n 3, 1) := by decide +kernel
theorem d246_25 : decode (mC M246) 25 = .ok (.goto (-23), 3) := by decide +kernel
theorem d246_28 : decode (mC M246) 28 = .ok (.iconst 0, 1) := by decide +kernel
theorem d246_29 : decode (mC M246) 29 = .ok (.ireturn, 1) := by decide +kernel
theorem sc246_0 : ∀ q ∈ tc246_0, Snd xtb M246 q.1 q.2 := List.forall_mem_cons.mpr ⟨snd_iload_n d246_0 rfl, List.forall_mem_cons.mpr ⟨snd_istore_n d246_1 rfl, List.forall_mem_cons.mpr ⟨snd_iload_n d246_2 rfl, List.forall_mem_cons.mpr ⟨snd_bipush d246_3 (by decide +kernel), List.forall_mem_cons.mpr ⟨snd_cmp_eq d246_5 (by decide), List.forall_mem_cons.mpr ⟨snd_iload_n d246_8 rfl, List.forall_mem_cons.mpr ⟨snd_iload_n d246_9 rfl, List.forall_mem_cons.mpr ⟨snd_cmp_ne d246_10 (by decide), List.forall_mem_cons.mpr ⟨snd_iconst d246_13 (by decide +kernel), List.forall_mem_cons.mpr ⟨snd_zret rfl d246_14, List.forall_mem_cons.mpr ⟨snd_aload_n d246_15 rfl, List.forall_mem_cons.mpr ⟨snd_getR (by decide) (by decide) rfl wd1370 d246_16, List.forall_mem_cons.mpr ⟨snd_bipush d246_19 (by decide +kernel), List.forall_mem_cons.mpr ⟨snd_iload_n d246_21 rfl, List.forall_mem_cons.mpr ⟨snd_iadd d246_22, List.forall_mem_cons.mpr ⟨snd_iald d246_23, List.forall_mem_cons.mpr ⟨snd_istore_n d246_24 rfl, List.forall_mem_cons.mpr ⟨snd_goto d246_25 (by decide), List.forall_mem_cons.mpr ⟨snd_iconst d246_28 (by decide +kernel), List.forall_mem_cons.mpr ⟨snd_zret rfl d246_29, fun _ h => by cases h⟩⟩⟩⟩⟩⟩⟩⟩⟩⟩⟩⟩⟩⟩⟩⟩⟩⟩⟩⟩
theorem d247_0 : decode (mC M247) 0 = .ok (.iconst 0, 1) := by decide +kernel
theorem d247_1 : decode (mC M247) 1 = .ok (.istore 5, 2) := by decide +kernel
theorem d247_3 : decode (mC M247) 3 = .ok (.iload 5, 2) := by decide +kernel
theorem d247_5 : decode (mC M247) 5 = .ok (.aload_n 0, 1) := by decide +kernel
theorem d247_6 : decode (mC M247) 6 = .ok (.getfield 13, 3) := by decide +kernel
theorem d247_9 : decode (mC M247) 9 = .ok (.bipush 6, 2) := by decide +kernel
theorem d247_11 : decode (mC M247) 11 = .ok (.iaload, 1) := by decide +kernel
theorem d247_12 : decode (mC M247) 12 = .ok (.if_icmp .ge 88, 3) := by decide +kernel
theorem d247_15 : decode (mC M247) 15 = .ok (.sipush 354, 3) := by decide +kernel
theorem d247_18 : decode (mC M247) 18 = .ok (.iconst 5, 1) := by decide +kernel
theorem d247_19 : decode (mC M247) 19 = .ok (.iload 5, 2) := by decide +kernel
theorem d247_21 : decode (mC M247) 21 = .ok (.imul, 1) := by decide +kernel
theorem d247_22 : decode (mC M247) 22 = .ok (.iadd, 1) := by decide +kernel
theorem d247_23 : decode (mC M247) 23 = .ok (.istore 6, 2) := by decide +kernel
theorem d247_25 : decode (mC M247) 25 = .ok (.aload_n 0, 1) := by decide +kernel
theorem d247_26 : decode (mC M247) 26 = .ok (.getfield 13, 3) := by decide +kernel
theorem d247_29 : decode (mC M247) 29 = .ok (.iload 6, 2) := by decide +kernel
theorem d247_31 : decode (mC M247) 31 = .ok (.iaload, 1) := by decide +kernel
theorem d247_32 : decode (mC M247) 32 = .ok (.iload_n 1, 1) := by decide +kernel
theorem d247_33 : decode (mC M247) 33 = .ok (.if_icmp .ne 61, 3) := by decide +kernel
theorem d247_36 : decode (mC M247) 36 = .ok (.aload_n 0, 1) := by decide +kernel
theorem d247_37 : decode (mC M247) 37 = .ok (.iload_n 2, 1) := by decide +kernel
theorem d247_38 : decode (mC M247) 38 = .ok (.aload_n 0, 1) := by decide +kernel
theorem d247_39 : decode (mC M247) 39 = .ok (.getfield 13, 3) := by decide +kernel
theorem d247_42 : decode (mC M247) 42 = .ok (.iload 6, 2) := by decide +kernel
theorem d247_44 : decode (mC M247) 44 = .ok (.iconst 1, 1) := by decide +kernel
theorem d247_45 : decode (mC M247) 45 = .ok (.iadd, 1) := by decide +kernel
theorem d247_46 : decode (mC M247) 46 = .ok (.iaload, 1) := by decide +kernel
theorem d247_47 : decode (mC M247) 47 = .ok (.invokevirtual 330, 3) := by decide +kernel
theorem d247_50 : decode (mC M247) 50 = .ok (.ifCond .eq 44, 3) := by decide +kernel
theorem d247_53 : decode (mC M247) 53 = .ok (.iload_n 3, 1) := by decide +kernel
theorem d247_54 : decode (mC M247) 54 = .ok (.aload_n 0, 1) := by decide +kernel
theorem d247_55 : decode (mC M247) 55 = .ok (.getfield 13, 3) := by decide +kernel
theorem d247_58 : decode (mC M247) 58 = .ok (.iload 6, 2) := by decide +kernel
theorem d247_60 : decode (mC M247) 60 = .ok (.iconst 2, 1) := by decide +kernel
theorem d247_61 : decode (mC M247) 61 = .ok (.iadd, 1) := by decide +kernel
theorem d247_62 : decode (mC M247) 62 = .ok (.iaload, 1) := by decide +kernel
theorem d247_63 : decode (mC M247) 63 = .ok (.aload_n 0, 1) := by decide +kernel
theorem d247_64 : decode (mC M247) 64 = .ok (.getfield 13, 3) := by decide +kernel
theorem d247_67 : decode (mC M247) 67 = .ok (.iload 6, 2) := by decide +kernel
theorem d247_69 : decode (mC M247) 69 = .ok (.iconst 3, 1) := by decide +kernel
theorem d247_70 : decode (mC M247) 70 = .ok (.iadd, 1) := by decide +kernel
theorem d247_71 : decode (mC M247) 71 = .ok (.iaload, 1) := by decide +kernel
theorem d247_72 : decode (mC M247) 72 = .ok (.invokestatic 95, 3) := by decide +kernel
theorem d247_75 : decode (mC M247) 75 = .ok (.ifCond .eq 19, 3) := by decide +kernel
theorem d247_78 : decode (mC M247) 78 = .ok (.iload 4, 2) := by decide +kernel
theorem d247_80 : decode (mC M247) 80 = .ok (.aload_n 0, 1) := by decide +kernel
theorem d247_81 : decode (mC M247) 81 = .ok (.getfield 13, 3) := by decide +kernel
theorem d247_84 : decode (mC M247) 84 = .ok (.iload 6, 2) := by decide +kernel
theorem d247_86 : decode (mC M247) 86 = .ok (.iconst 4, 1) := by decide +kernel
theorem d247_87 : decode (mC M247) 87 = .ok (.iadd, 1) := by decide +kernel
theorem d247_88 : decode (mC M247) 88 = .ok (.iaload, 1) := by decide +kernel
theorem d247_89 : decode (mC M247) 89 = .ok (.if_icmp .gt 5, 3) := by decide +kernel
theorem d247_92 : decode (mC M247) 92 = .ok (.iconst 1, 1) := by decide +kernel
theorem d247_93 : decode (mC M247) 93 = .ok (.ireturn, 1) := by decide +kernel
theorem d247_94 : decode (mC M247) 94 = .ok (.iinc 5 1, 3) := by decide +kernel
theorem d247_97 : decode (mC M247) 97 = .ok (.goto (-94), 3) := by decide +kernel
theorem d247_100 : decode (mC M247) 100 = .ok (.iconst 0, 1) := by decide +kernel
theorem d247_101 : decode (mC M247) 101 = .ok (.ireturn, 1) := by decide +kernel
theorem sc247_0 : ∀ q ∈ tc247_0, Snd xtb M247 q.1 q.2 := List.forall_mem_cons.mpr ⟨snd_iconst d247_0 (by decide +kernel), List.forall_mem_cons.mpr ⟨snd_istore d247_1, List.forall_mem_cons.mpr ⟨snd_iload d247_3, List.forall_mem_cons.mpr ⟨snd_aload_n d247_5 rfl, List.forall_mem_cons.mpr ⟨snd_getR (by decide) (by decide) rfl wd1370 d247_6, List.forall_mem_cons.mpr ⟨snd_bipush d247_9 (by decide +kernel), List.forall_mem_cons.mpr ⟨snd_iald d247_11, List.forall_mem_cons.mpr ⟨snd_cmp_ge d247_12 (by decide), List.forall_mem_cons.mpr ⟨snd_sipush d247_15 (by decide +kernel), List.forall_mem_cons.mpr ⟨snd_iconst d247_18 (by decide +kernel), List.forall_mem_cons.mpr ⟨snd_iload d247_19, List.forall_mem_cons.mpr ⟨snd_imul d247_21, List.forall_mem_cons.mpr ⟨snd_iadd d247_22, List.forall_mem_cons.mpr ⟨snd_istore d247_23, List.forall_mem_cons.mpr ⟨snd_aload_n d247_25 rfl, List.forall_mem_cons.mpr ⟨snd_getR (by decide) (by decide) rfl wd1370 d247_26, List.forall_mem_cons.mpr ⟨snd_iload d247_29, List.forall_mem_cons.mpr ⟨snd_iald d247_31, List.forall_mem_cons.mpr ⟨snd_iload_n d247_32 rfl, List.forall_mem_cons.mpr ⟨snd_cmp_ne d247_33 (by decide), List.forall_mem_cons.mpr ⟨snd_aload_n d247_36 rfl, List.forall_mem_cons.mpr ⟨snd_iload_n d247_37 rfl, List.forall_mem_cons.mpr ⟨snd_aload_n d247_38 rfl, List.forall_mem_cons.mpr ⟨snd_getR (by decide) (by decide) rfl wd1370 d247_39, List.forall_mem_cons.mpr ⟨snd_iload d247_42, List.forall_mem_cons.mpr ⟨snd_iconst d247_44 (by decide +kernel), List.forall_mem_cons.mpr ⟨snd_iadd d247_45, List.forall_mem_cons.mpr ⟨snd_iald d247_46, List.forall_mem_cons.mpr ⟨snd_callV (by decide) rfl cn246 ⟨by decide +kernel, by decide +kernel⟩ cm246 (List.forall_mem_cons.mpr ⟨wd1785, cw246⟩) d247_47, List.forall_mem_cons.mpr ⟨snd_if_eq d247_50 (by decide), fun _ h => by cases h⟩⟩⟩⟩⟩⟩⟩⟩⟩⟩⟩⟩⟩⟩⟩⟩⟩⟩⟩⟩⟩⟩⟩⟩⟩⟩⟩⟩⟩⟩
theorem sc247_1 : ∀ q ∈ tc247_1, Snd xtb M247 q.1 q.2 := List.forall_mem_cons.mpr ⟨snd_iload_n d247_53 rfl, List.forall_mem_cons.mpr ⟨snd_aload_n d247_54 rfl, List.forall_mem_cons.mpr ⟨snd_getR (by decide) (by decide) rfl wd1370 d247_55, List.forall_mem_cons.mpr ⟨snd_iload d247_58, List.forall_mem_cons.mpr ⟨snd_iconst d247_60 (by decide +kernel), List.forall_mem_cons.mpr ⟨snd_iadd d247_61, List.forall_mem_cons.mpr ⟨snd_iald d247_62, List.forall_mem_cons.mpr ⟨snd_aload_n d247_63 rfl, List.forall_mem_cons.mpr ⟨snd_getR (by decide) (by decide) rfl wd1370 d247_64, List.forall_mem_cons.mpr ⟨snd_iload d247_67, List.forall_mem_cons.mpr ⟨snd_iconst d247_69 (by decide +kernel), List.forall_mem_cons.mpr ⟨snd_iadd d247_70, List.forall_mem_cons.mpr ⟨snd_iald d247_71, List.forall_mem_cons.mpr ⟨snd_callS cn175 ⟨by decide +kernel, by decide +kernel⟩ cm175 (List.forall_mem_cons.mpr ⟨wd1492, cw175⟩) d247_72, List.forall_mem_cons.mpr ⟨snd_if_eq d247_75 (by decide), List.forall_mem_cons.mpr ⟨snd_iload d247_78, List.forall_mem_cons.mpr ⟨snd_aload_n d247_80 rfl, List.forall_mem_cons.mpr ⟨snd_getR (by decide) (by decide) rfl wd1370 d247_81, List.forall_mem_cons.mpr ⟨snd_iload d247_84, List.forall_mem_cons.mpr ⟨snd_iconst d247_86 (by decide +kernel), List.forall_mem_cons.mpr ⟨snd_iadd d247_87, List.forall_mem_cons.mpr ⟨snd_iald d247_88, List.forall_mem_cons.mpr ⟨snd_cmp_gt d247_89 (by decide), List.forall_mem_cons.mpr ⟨snd_iconst d247_92 (by decide +kernel), List.forall_mem_cons.mpr ⟨snd_zret rfl d247_93, List.forall_mem_cons.mpr ⟨snd_iinc d247_94 (by decide +kernel), List.forall_mem_cons.mpr ⟨snd_goto d247_97 (by decide), List.forall_mem_cons.mpr ⟨snd_iconst d247_100 (by decide +kernel), List.forall_mem_cons.mpr ⟨snd_zret rfl d247_101, fun _ h => by cases h⟩⟩⟩⟩⟩⟩⟩⟩⟩⟩⟩⟩⟩⟩⟩⟩⟩⟩⟩⟩⟩⟩⟩⟩⟩⟩⟩⟩⟩
theorem d248_0 : decode (mC M248) 0 = .ok (.iload_n 2, 1) := by decide +kernel
theorem d248_1 : decode (mC M248) 1 = .ok (.istore_n 3, 1) := by decide +kernel
theorem d248_2 : decode (mC M248) 2 = .ok (.iload_n 3, 1) := by decide +kernel
theorem d248_3 : decode (mC M248) 3 = .ok (.bipush (-2), 2) := by decide +kernel
theorem d248_5 : decode (mC M248) 5 = .ok (.if_icmp .eq 40, 3) := by decide +kernel
theorem d248_8 : decode (mC M248) 8 = .ok (.aload_n 0, 1) := by decide +kernel
theorem d248_9 : decode (mC M248) 9 = .ok (.getfield 13, 3) := by decide +kernel
theorem d248_12 : decode (mC M248) 12 = .ok (.iload_n 1, 1) := by decide +kernel
theorem d248_13 : decode (mC M248) 13 = .ok (.iload_n 3, 1) := by decide +kernel
theorem d248_14 : decode (mC M248) 14 = .ok (.invokestatic 242, 3) := by decide +kernel
theorem d248_17 : decode (mC M248) 17 = .ok (.bipush (-2), 2) := by decide +kernel
theorem d248_19 : decode (mC M248) 19 = .ok (.if_icmp .eq 13, 3) := by decide +kernel
theorem d248_22 : decode (mC M248) 22 = .ok (.aload_n 0, 1) := by decide +kernel
theorem d248_23 : decode (mC M248) 23 = .ok (.getfield 13, 3) := by decide +kernel
theorem d248_26 : decode (mC M248) 26 = .ok (.iload_n 1, 1) := by decide +kernel
theorem d248_27 : decode (mC M248) 27 = .ok (.iload_n 3, 1) := by decide +kernel
theorem d248_28 : decode (mC M248) 28 = .ok (.invokestatic 242, 3) := by decide +kernel
theorem d248_31 : decode (mC M248) 31 = .ok (.ireturn, 1) := by decide +kernel
theorem d248_32 : decode (mC M248) 32 = .ok (.aload_n 0, 1) := by decide +kernel
theorem d248_33 : decode (mC M248) 33 = .ok (.getfield 13, 3) := by decide +kernel
theorem d248_36 : decode (mC M248) 36 = .ok (.bipush 8, 2) := by decide +kernel
theorem d248_38 : decode (mC M248) 38 = .ok (.iload_n 3, 1) := by decide +kernel
theorem d248_39 : decode (mC M248) 39 = .ok (.iadd, 1) := by decide +kernel
theorem d248_40 : decode (mC M248) 40 = .ok (.iaload, 1) := by decide +kernel
theorem d248_41 : decode (mC M248) 41 = .ok (.istore_n 3, 1) := by decide +kernel
theorem d248_42 : decode (mC M248) 42 = .ok (.goto (-40), 3) := by decide +kernel
theorem d248_45 : decode (mC M248) 45 = .ok (.bipush (-2), 2) := by decide +kernel
theorem d248_47 : decode (mC M248) 47 = .ok (.ireturn, 1) := by decide +kernel
theorem sc248_0 : ∀ q ∈ tc248_0, Snd xtb M248 q.1 q.2 := List.forall_mem_cons.mpr ⟨snd_iload_n d248_0 rfl, List.forall_mem_cons.mpr ⟨snd_istore_n d248_1 rfl, List.forall_mem_cons.mpr ⟨snd_iload_n d248_2 rfl, List.forall_mem_cons.mpr ⟨snd_bipush d248_3 (by decide +kernel), List.forall_mem_cons.mpr ⟨snd_cmp_eq d248_5 (by decide), List.forall_mem_cons.mpr ⟨snd_aload_n d248_8 rfl, List.forall_mem_cons.mpr ⟨snd_getR (by decide) (by decide) rfl wd1370 d248_9, List.forall_mem_cons.mpr ⟨snd_iload_n d248_12 rfl, List.forall_mem_cons.mpr ⟨snd_iload_n d248_13 rfl, List.forall_mem_cons.mpr ⟨snd_callS cn206 ⟨by decide +kernel, by decide +kernel⟩ cm206 (List.forall_mem_cons.mpr ⟨wd1619, cw206⟩) d248_14, List.forall_mem_cons.mpr ⟨snd_bipush d248_17 (by decide +kernel), List.forall_mem_cons.mpr ⟨snd_cmp_eq d248_19 (by decide), List.forall_mem_cons.mpr ⟨snd_aload_n d248_22 rfl, List.forall_mem_cons.mpr ⟨snd_getR (by decide) (by decide) rfl wd1370 d248_23, List.forall_mem_cons.mpr ⟨snd_iload_n d248_26 rfl, List.forall_mem_cons.mpr ⟨snd_iload_n d248_27 rfl, List.forall_mem_cons.mpr ⟨snd_callS cn206 ⟨by decide +kernel, by decide +kernel⟩ cm206 (List.forall_mem_cons.mpr ⟨wd1619, cw206⟩) d248_28, List.forall_mem_cons.mpr ⟨snd_iret rfl d248_31, List.forall_mem_cons.mpr ⟨snd_aload_n d248_32 rfl, List.forall_mem_cons.mpr ⟨snd_getR (by decide) (by decide) rfl wd1370 d248_33, List.forall_mem_cons.mpr ⟨snd_bipush d248_36 (by decide +kernel), List.forall_mem_cons.mpr ⟨snd_iload_n d248_38 rfl, List.forall_mem_cons.mpr ⟨snd_iadd d248_39, List.forall_mem_cons.mpr ⟨snd_iald d248_40, List.forall_mem_cons.mpr ⟨snd_istore_n d248_41 rfl, List.forall_mem_cons.mpr ⟨snd_goto d248_42 (by decide), List.forall_mem_cons.mpr ⟨snd_bipush d248_45 (by decide +kernel), List.forall_mem_cons.mpr ⟨snd_iret rfl d248_47, fun _ h => by cases h⟩⟩⟩⟩⟩⟩⟩⟩⟩⟩⟩⟩⟩⟩⟩⟩⟩⟩⟩⟩⟩⟩⟩⟩⟩⟩⟩⟩
theorem d249_0 : decode (mC M249) 0 = .ok (.aload_n 0, 1) := by decide +kernel
theorem d249_1 : decode (mC M249) 1 = .ok (.iconst 0, 1) := by decide +kernel
theorem d249_2 : decode (mC M249) 2 = .ok (.putfield 64, 3) := by decide +kernel
theorem d249_5 : decode (mC M249) 5 = .ok (.aload_n 0, 1) := by decide +kernel
theorem d249_6 : decode (mC M249) 6 = .ok (.aload_n 0, 1) := by decide +kernel
theorem d249_7 : decode (mC M249) 7 = .ok (.iload_n 1, 1) := by decide +kernel
theorem d249_8 : decode (mC M249) 8 = .ok (.invokevirtual 271, 3) := by decide +kernel
theorem d249_11 : decode (mC M249) 11 = .ok (.ifCond .eq 15, 3) := by decide +kernel
theorem d249_14 : decode (mC M249) 14 = .ok (.aload_n 0, 1) := by decide +kernel
theorem d249_15 : decode (mC M249) 15 = .ok (.iload_n 2, 1) := by decide +kernel
theorem d249_16 : decode (mC M249) 16 = .ok (.invokevirtual 267, 3) := by decide +kernel
theorem d249_19 : decode (mC M249) 19 = .ok (.ifCond .eq 7, 3) := by decide +kernel
theorem d249_22 : decode (mC M249) 22 = .ok (.iconst 1, 1) := by decide +kernel
theorem d249_23 : decode (mC M249) 23 = .ok (.goto 4, 3) := by decide +kernel
theorem d249_26 : decode (mC M249) 26 = .ok (.iconst 0, 1) := by decide +kernel
theorem d249_27 : decode (mC M249) 27 = .ok (.iload_n 3, 1) := by decide +kernel
theorem d249_28 : decode (mC M249) 28 = .ok (.invokevirtual 283, 3) := by decide +kernel
theorem d249_31 : decode (mC M249) 31 = .ok (.istore 4, 2) := by decide +kernel
theorem d249_33 : decode (mC M249) 33 = .ok (.iload 4, 2) := by decide +kernel
theorem d249_35 : decode (mC M249) 35 = .ok (.ifCond .le 12, 3) := by decide +kernel
theorem d249_38 : decode (mC M249) 38 = .ok (.aload_n 0, 1) := by decide +kernel
theorem d249_39 : decode (mC M249) 39 = .ok (.iload 4, 2) := by decide +kernel
theorem d249_41 : decode (mC M249) 41 = .ok (.invokevirtual 70, 3) := by decide +kernel
theorem d249_44 : decode (mC M249) 44 = .ok (.goto 14, 3) := by decide +kernel
theorem d249_47 : decode (mC M249) 47 = .ok (.aload_n 0, 1) := by decide +kernel
theorem d249_48 : decode (mC M249) 48 = .ok (.aload_n 0, 1) := by decide +kernel
theorem d249_49 : decode (mC M249) 49 = .ok (.iload_n 1, 1) := by decide +kernel
theorem d249_50 : decode (mC M249) 50 = .ok (.iload_n 2, 1) := by decide +kernel
theorem d249_51 : decode (mC M249) 51 = .ok (.iload_n 3, 1) := by decide +kernel
theorem d249_52 : decode (mC M249) 52 = .ok (.invokevirtual 333, 3) := by decide +kernel
theorem d249_55 : decode (mC M249) 55 = .ok (.invokevirtual 264, 3) := by decide +kernel
theorem d249_58 : decode (mC M249) 58 = .ok (.ireturn, 1) := by decide +kernel
theorem sc249_0 : ∀ q ∈ tc249_0, Snd xtb M249 q.1 q.2 := List.forall_mem_cons.mpr ⟨snd_aload_n d249_0 rfl, List.forall_mem_cons.mpr ⟨snd_iconst d249_1 (by decide +kernel), List.forall_mem_cons.mpr ⟨snd_putI (by decide) (by decide) rfl rfl wd1367 d249_2, List.forall_mem_cons.mpr ⟨snd_aload_n d249_5 rfl, List.forall_mem_cons.mpr ⟨snd_aload_n d249_6 rfl, List.forall_mem_cons.mpr ⟨snd_iload_n d249_7 rfl, List.forall_mem_cons.mpr ⟨snd_callV (by decide) rfl cn214 ⟨by decide +kernel, by decide +kernel⟩ cm214 (List.forall_mem_cons.mpr ⟨wd1650, cw214⟩) d249_8, List.forall_mem_cons.mpr ⟨snd_if_eq d249_11 (by decide), List.forall_mem_cons.mpr ⟨snd_aload_n d249_14 rfl, List.forall_mem_cons.mpr ⟨snd_iload_n d249_15 rfl, List.forall_mem_cons.mpr ⟨snd_callV (by decide) rfl cn213 ⟨by decide +kernel, by decide +kernel⟩ cm213 (List.forall_mem_cons.mpr ⟨wd1642, cw213⟩) d249_16, List.forall_mem_cons.mpr ⟨snd_if_eq d249_19 (by decide), List.forall_mem_cons.mpr ⟨snd_iconst d249_22 (by decide +kernel), List.forall_mem_cons.mpr ⟨snd_goto d249_23 (by decide), List.forall_mem_cons.mpr ⟨snd_iconst d249_26 (by decide +kernel), List.forall_mem_cons.mpr ⟨snd_iload_n d249_27 rfl, List.forall_mem_cons.mpr ⟨snd_callV (by decide) rfl cn224 ⟨by decide +kernel, by decide +kernel⟩ cm224 (List.forall_mem_cons.mpr ⟨wd1662, cw224⟩) d249_28, List.forall_mem_cons.mpr ⟨snd_istore d249_31, List.forall_mem_cons.mpr ⟨snd_iload d249_33, List.forall_mem_cons.mpr ⟨snd_if_le d249_35 (by decide), List.forall_mem_cons.mpr ⟨snd_aload_n d249_38 rfl, List.forall_mem_cons.mpr ⟨snd_iload d249_39, List.forall_mem_cons.mpr ⟨snd_callV (by decide) rfl cn172 ⟨by decide +kernel, by decide +kernel⟩ cm172 (List.forall_mem_cons.mpr ⟨wd1476, cw172⟩) d249_41, List.forall_mem_cons.mpr ⟨snd_goto d249_44 (by decide), List.forall_mem_cons.mpr ⟨snd_aload_n d249_47 rfl, List.forall_mem_cons.mpr ⟨snd_aload_n d249_48 rfl, List.forall_mem_cons.mpr ⟨snd_iload_n d249_49 rfl, List.forall_mem_cons.mpr ⟨snd_iload_n d249_50 rfl, List.forall_mem_cons.mpr ⟨snd_iload_n d249_51 rfl, List.forall_mem_cons.mpr ⟨snd_callV (by decide) rfl cn245 ⟨by decide +kernel, by decide +kernel⟩ cm245 (List.forall_mem_cons.mpr ⟨wd1769, cw245⟩) d249_52, fun _ h => by cases h⟩⟩⟩⟩⟩⟩⟩⟩⟩⟩⟩⟩⟩⟩⟩⟩⟩⟩⟩⟩⟩⟩⟩⟩⟩⟩⟩⟩⟩⟩
theorem sc249_1 : ∀ q ∈ tc249_1, Snd xtb M249 q.1 q.2 := List.forall_mem_cons.mpr ⟨snd_callV (by decide) rfl cn174 ⟨by decide +kernel, by decide +kernel⟩ cm174 (List.forall_mem_cons.mpr ⟨wd1622, cw174⟩) d249_55, List.forall_mem_cons.mpr ⟨snd_iret rfl d249_58, fun _ h => by cases h⟩⟩
theorem d250_0 : decode (mC M250) 0 = .ok (.aload_n 0, 1) := by decide +kernel
theorem d250_1 : decode (mC M250) 1 = .ok (.iconst 0, 1) := by decide +kernel
theorem d250_2 : decode (mC M250) 2 = .ok (.putfield 64, 3) := by decide +kernel
theorem d250_5 : decode (mC M250) 5 = .ok (.aload_n 0, 1) := by decide +kernel
theorem d250_6 : decode (mC M250) 6 = .ok (.aload_n 0, 1) := by decide +kernel
theorem d250_7 : decode (mC M250) 7 = .ok (.iload_n 1, 1) := by decide +kernel
theorem d250_8 : decode (mC M250) 8 = .ok (.invokevirtual 271, 3) := by decide +kernel
theorem d250_11 : decode (mC M250) 11 = .ok (.ifCond .eq 15, 3) := by decide +kernel
theorem d250_14 : decode (mC M250) 14 = .ok (.aload_n 0, 1) := by decide +kernel
theorem d250_15 : decode (mC M250) 15 = .ok (.iload_n 2, 1) := by decide +kernel
theorem d250_16 : decode (mC M250) 16 = .ok (.invokevirtual 267, 3) := by decide +kernel
theorem d250_19 : decode (mC M250) 19 = .ok (.ifCond .eq 7, 3) := by decide +kernel
theorem d250_22 : decode (mC M250) 22 = .ok (.iconst 1, 1) := by decide +kernel
theorem d250_23 : decode (mC M250) 23 = .ok (.goto 4, 3) := by decide +kernel
theorem d250_26 : decode (mC M250) 26 = .ok (.iconst 0, 1) := by decide +kernel
theorem d250_27 : decode (mC M250) 27 = .ok (.iload_n 3, 1) := by decide +kernel
theorem d250_28 : decode (mC M250) 28 = .ok (.invokevirtual 283, 3) := by decide +kernel
theorem d250_31 : decode (mC M250) 31 = .ok (.istore 5, 2) := by decide +kernel
theorem d250_33 : decode (mC M250) 33 = .ok (.iload 5, 2) := by decide +kernel
theorem d250_35 : decode (mC M250) 35 = .ok (.ifCond .ne 18, 3) := by decide +kernel
theorem d250_38 : decode (mC M250) 38 = .ok (.iload 4, 2) := by decide +kernel
theorem d250_40 : decode (mC M250) 40 = .ok (.iconst 1, 1) := by decide +kernel
theorem d250_41 : decode (mC M250) 41 = .ok (.sipush 9999, 3) := by decide +kernel
theorem d250_44 : decode (mC M250) 44 = .ok (.invokestatic 95, 3) := by decide +kernel
theorem d250_47 : decode (mC M250) 47 = .ok (.ifCond .ne 6, 3) := by decide +kernel
theorem d250_50 : decode (mC M250) 50 = .ok (.iconst 2, 1) := by decide +kernel
theorem d250_51 : decode (mC M250) 51 = .ok (.istore 5, 2) := by decide +kernel
theorem d250_53 : decode (mC M250) 53 = .ok (.iload 5, 2) := by decide +kernel
theorem d250_55 : decode (mC M250) 55 = .ok (.ifCond .le 12, 3) := by decide +kernel
theorem d250_58 : decode (mC M250) 58 = .ok (.aload_n 0, 1) := by decide +kernel
theorem d250_59 : decode (mC M250) 59 = .ok (.iload 5, 2) := by decide +kernel
theorem d250_61 : decode (mC M250) 61 = .ok (.invokevirtual 70, 3) := by decide +kernel
theorem d250_64 : decode (mC M250) 64 = .ok (.goto 24, 3) := by decide +kernel
theorem d250_67 : decode (mC M250) 67 = .ok (.aload_n 0, 1) := by decide +kernel
theorem d250_68 : decode (mC M250) 68 = .ok (.aload_n 0, 1) := by decide +kernel
theorem d250_69 : decode (mC M250) 69 = .ok (.iload_n 1, 1) := by decide +kernel
theorem d250_70 : decode (mC M250) 70 = .ok (.iload_n 2, 1) := by decide +kernel
theorem d250_71 : decode (mC M250) 71 = .ok (.iload_n 3, 1) := by decide +kernel
theorem d250_72 : decode (mC M250) 72 = .ok (.iload 4, 2) := by decide +kernel
theorem d250_74 : decode (mC M250) 74 = .ok (.invokevirtual 336, 3) := by decide +kernel
theorem d250_77 : decode (mC M250) 77 = .ok (.ifCond .eq 7, 3) := by decide +kernel
theorem d250_80 : decode (mC M250) 80 = .ok (.iconst 1, 1) := by decide +kernel
theorem d250_81 : decode (mC M250) 81 = .ok (.goto 4, 3) := by decide +kernel
theorem d250_84 : decode (mC M250) 84 = .ok (.iconst 0, 1) := by decide +kernel
theorem d250_85 : decode (mC M250) 85 = .ok (.invokevirtual 264, 3) := by decide +kernel
theorem d250_88 : decode (mC M250) 88 = .ok (.ireturn, 1) := by decide +kernel
theorem sc250_0 : ∀ q ∈ tc250_0, Snd xtb M250 q.1 q.2 := List.forall_mem_cons.mpr ⟨snd_aload_n d250_0 rfl, List.forall_mem_cons.mpr ⟨snd_iconst d250_1 (by decide +kernel), List.forall_mem_cons.mpr ⟨snd_putI (by decide) (by decide) rfl rfl wd1367 d250_2, List.forall_mem_cons.mpr ⟨snd_aload_n d250_5 rfl, List.forall_mem_cons.mpr ⟨snd_aload_n d250_6 rfl, List.forall_mem_cons.mpr ⟨snd_iload_n d250_7 rfl, List.forall_mem_cons.mpr ⟨snd_callV (by decide) rfl cn214 ⟨by decide +kernel, by decide +kernel⟩ cm214 (List.forall_mem_cons.mpr ⟨wd1650, cw214⟩) d250_8, List.forall_mem_cons.mpr ⟨snd_if_eq d250_11 (by decide), List.forall_mem_cons.mpr ⟨snd_aload_n d250_14 rfl, List.forall_mem_cons.mpr ⟨snd_iload_n d250_15 rfl, List.forall_mem_cons.mpr ⟨snd_callV (by decide) rfl cn213 ⟨by decide +kernel, by decide +kernel⟩ cm213 (List.forall_mem_cons.mpr ⟨wd1642, cw213⟩) d250_16, List.forall_mem_cons.mpr ⟨snd_if_eq d250_19 (by decide), List.forall_mem_cons.mpr ⟨snd_iconst d250_22 (by decide +kernel), List.forall_mem_cons.mpr ⟨snd_goto d250_23 (by decide), List.forall_mem_cons.mpr ⟨snd_iconst d250_26 (by decide +kernel), List.forall_mem_cons.mpr ⟨snd_iload_n d250_27 rfl, List.forall_mem_cons.mpr ⟨snd_callV (by decide) rfl cn224 ⟨by decide +kernel, by decide +kernel⟩ cm224 (List.forall_mem_cons.mpr ⟨wd1662, cw224⟩) d250_28, List.forall_mem_cons.mpr ⟨snd_istore d250_31, List.forall_mem_cons.mpr ⟨snd_iload d250_33, List.forall_mem_cons.mpr ⟨snd_if_ne d250_35 (by decide), List.forall_mem_cons.mpr ⟨snd_iload d250_38, List.forall_mem_cons.mpr ⟨snd_iconst d250_40 (by decide +kernel), List.forall_mem_cons.mpr ⟨snd_sipush d250_41 (by decide +kernel), List.forall_mem_cons.mpr ⟨snd_callS cn175 ⟨by decide +kernel, by decide +kernel⟩ cm175 (List.forall_mem_cons.mpr ⟨wd1492, cw175⟩) d250_44, List.forall_mem_cons.mpr ⟨snd_if_ne d250_47 (by decide), List.forall_mem_cons.mpr ⟨snd_iconst d250_50 (by decide +kernel), List.forall_mem_cons.mpr ⟨snd_istore d250_51, List.forall_mem_cons.mpr ⟨snd_iload d250_53, List.forall_mem_cons.mpr ⟨snd_if_le d250_55 (by decide), List.forall_mem_cons.mpr ⟨snd_aload_n d250_58 rfl, fun _ h => by cases h⟩⟩⟩⟩⟩⟩⟩⟩⟩⟩⟩⟩⟩⟩⟩⟩⟩⟩⟩⟩⟩⟩⟩⟩⟩⟩⟩⟩⟩⟩
theorem sc250_1 : ∀ q ∈ tc250_1, Snd xtb M250 q.1 q.2 := List.forall_mem_cons.mpr ⟨snd_iload d250_59, List.forall_mem_cons.mpr ⟨snd_callV (by decide) rfl cn172 ⟨by decide +kernel, by decide +kernel⟩ cm172 (List.forall_mem_cons.mpr ⟨wd1476, cw172⟩) d250_61, List.forall_mem_cons.mpr ⟨snd_goto d250_64 (by decide), List.forall_mem_cons.mpr ⟨snd_aload_n d250_67 rfl, List.forall_mem_cons.mpr ⟨snd_aload_n d250_68 rfl, List.forall_mem_cons.mpr ⟨snd_iload_n d250_69 rfl, List.forall_mem_cons.mpr ⟨snd_iload_n d250_70 rfl, List.forall_mem_cons.mpr ⟨snd_iload_n d250_71 rfl, List.forall_mem_cons.mpr ⟨snd_iload d250_72, List.forall_mem_cons.mpr ⟨snd_callV (by decide) rfl cn247 ⟨by decide +kernel, by decide +kernel⟩ cm247 (List.forall_mem_cons.mpr ⟨wd1781, cw247⟩) d250_74, List.forall_mem_cons.mpr ⟨snd_if_eq d250_77 (by decide), List.forall_mem_cons.mpr ⟨snd_iconst d250_80 (by decide +kernel), List.forall_mem_cons.mpr ⟨snd_goto d250_81 (by decide), List.forall_mem_cons.mpr ⟨snd_iconst d250_84 (by decide +kernel), List.forall_mem_cons.mpr ⟨snd_callV (by decide) rfl cn174 ⟨by decide +kernel, by decide +kernel⟩ cm174 (List.forall_mem_cons.mpr ⟨wd1622, cw174⟩) d250_85, List.forall_mem_cons.mpr ⟨snd_iret rfl d250_88, fun _ h => by cases h⟩⟩⟩⟩⟩⟩⟩⟩⟩⟩⟩⟩⟩⟩⟩⟩
theorem d251_0 : decode (mC M251) 0 = .ok (.aload_n 0, 1) := by decide +kernel
theorem d251_1 : decode (mC M251) 1 = .ok (.iconst 0, 1) := by decide +kernel
theorem d251_2 : decode (mC M251) 2 = .ok (.putfield 64, 3) := by decide +kernel
theorem d251_5 : decode (mC M251) 5 = .ok (.aload_n 0, 1) := by decide +kernel
theorem d251_6 : decode (mC M251) 6 = .ok (.iload_n 1, 1) := by decide +kernel
theorem d251_7 : decode (mC M251) 7 = .ok (.invokevirtual 271, 3) := by decide +kernel
theorem d251_10 : decode (mC M251) 10 = .ok (.ifCond .eq 24, 3) := by decide +kernel
theorem d251_13 : decode (mC M251) 13 = .ok (.aload_n 0, 1) := by decide +kernel
theorem d251_14 : decode (mC M251) 14 = .ok (.iload_n 2, 1) := by decide +kernel
theorem d251_15 : decode (mC M251) 15 = .ok (.invokevirtual 267, 3) := by decide +kernel
theorem d251_18 : decode (mC M251) 18 = .ok (.ifCond .eq 16, 3) := by decide +kernel
theorem d251_21 : decode (mC M251) 21 = .ok (.aload_n 0, 1) := by decide +kernel
theorem d251_22 : decode (mC M251) 22 = .ok (.aload_n 0, 1) := by decide +kernel
theorem d251_23 : decode (mC M251) 23 = .ok (.iload_n 1, 1) := by decide +kernel
theorem d251_24 : decode (mC M251) 24 = .ok (.iload_n 2, 1) := by decide +kernel
theorem d251_25 : decode (mC M251) 25 = .ok (.invokevirtual 339, 3) := by decide +kernel
theorem d251_28 : decode (mC M251) 28 = .ok (.invokevirtual 264, 3) := by decide +kernel
theorem d251_31 : decode (mC M251) 31 = .ok (.goto 8, 3) := by decide +kernel
theorem d251_34 : decode (mC M251) 34 = .ok (.aload_n 0, 1) := by decide +kernel
theorem d251_35 : decode (mC M251) 35 = .ok (.iconst 1, 1) := by decide +kernel
theorem d251_36 : decode (mC M251) 36 = .ok (.invokevirtual 70, 3) := by decide +kernel
theorem d251_39 : decode (mC M251) 39 = .ok (.ireturn, 1) := by decide +kernel
theorem sc251_0 : ∀ q ∈ tc251_0, Snd xtb M251 q.1 q.2 := List.forall_mem_cons.mpr ⟨snd_aload_n d251_0 rfl, List.forall_mem_cons.mpr ⟨snd_iconst d251_1 (by decide +kernel), List.forall_mem_cons.mpr ⟨snd_putI (by decide) (by decide) rfl rfl wd1367 d251_2, List.forall_mem_cons.mpr ⟨snd_aload_n d251_5 rfl, List.forall_mem_cons.mpr ⟨snd_iload_n d251_6 rfl, List.forall_mem_cons.mpr ⟨snd_callV (by decide) rfl cn214 ⟨by decide +kernel, by decide +kernel⟩ cm214 (List.forall_mem_cons.mpr ⟨wd1650, cw214⟩) d251_7, List.forall_mem_cons.mpr ⟨snd_if_eq d251_10 (by decide), List.forall_mem_cons.mpr ⟨snd_aload_n d251_13 rfl, List.forall_mem_cons.mpr ⟨snd_iload_n d251_14 rfl, List.forall_mem_cons.mpr ⟨snd_callV (by decide) rfl cn213 ⟨by decide +kernel, by decide +kernel⟩ cm213 (List.forall_mem_cons.mpr ⟨wd1642, cw213⟩) d251_15, List.forall_mem_cons.mpr ⟨snd_if_eq d251_18 (by decide), List.forall_mem_cons.mpr ⟨snd_aload_n d251_21 rfl, List.forall_mem_cons.mpr ⟨snd_aload_n d251_22 rfl, List.forall_mem_cons.mpr ⟨snd_iload_n d251_23 rfl, List.forall_mem_cons.mpr ⟨snd_iload_n d251_24 rfl, List.forall_mem_cons.mpr ⟨snd_callV (by decide) rfl cn248 ⟨by decide +kernel, by decide +kernel⟩ cm248 (List.forall_mem_cons.mpr ⟨wd1793, cw248⟩) d251_25, List.forall_mem_cons.mpr ⟨snd_callV (by decide) rfl cn174 ⟨by decide +kernel, by decide +kernel⟩ cm174 (List.forall_mem_cons.mpr ⟨wd1622, cw174⟩) d251_28, List.forall_mem_cons.mpr ⟨snd_goto d251_31 (by decide), List.forall_mem_cons.mpr ⟨snd_aload_n d251_34 rfl, List.forall_mem_cons.mpr ⟨snd_iconst d251_35 (by decide +kernel), List.forall_mem_cons.mpr ⟨snd_callV (by decide) rfl cn172 ⟨by decide +kernel, by decide +kernel⟩ cm172 (List.forall_mem_cons.mpr ⟨wd1476, cw172⟩) d251_36, List.forall_mem_cons.mpr ⟨snd_iret rfl d251_39, fun _ h => by cases h⟩⟩⟩⟩⟩⟩⟩⟩⟩⟩⟩⟩⟩⟩⟩⟩⟩⟩⟩⟩⟩⟩
theorem d252_0 : decode (mC M252) 0 = .ok (.aload_n 0, 1) := by decide +kernel
theorem d252_1 : decode (mC M252) 1 = .ok (.iload_n 1, 1) := by decide +kernel
theorem d252_2 : decode (mC M252) 2 = .ok (.iload_n 2, 1) := by decide +kernel
theorem d252_3 : decode (mC M252) 3 = .ok (.iload_n 3, 1) := by decide +kernel
theorem d252_4 : decode (mC M252) 4 = .ok (.aload_n 0, 1) := by decide +kernel
theorem d252_5 : decode (mC M252) 5 = .ok (.getfield 31, 3) := by decide +kernel
theorem d252_8 : decode (mC M252) 8 = .ok (.invokevirtual 322, 3) := by decide +kernel
theorem d252_11 : decode (mC M252) 11 = .ok (.istore 5, 2) := by decide +kernel
theorem d252_13 : decode (mC M252) 13 = .ok (.iconst 0, 1) := by decide +kernel
theorem d252_14 : decode (mC M252) 14 = .ok (.istore 6, 2) := by decide +kernel
theorem d252_16 : decode (mC M252) 16 = .ok (.iconst 0, 1) := by decide +kernel
theorem d252_17 : decode (mC M252) 17 = .ok (.istore 7, 2) := by decide +kernel
theorem d252_19 : decode (mC M252) 19 = .ok (.iload 7, 2) := by decide +kernel
theorem d252_21 : decode (mC M252) 21 = .ok (.iload 5, 2) := by decide +kernel
theorem d252_23 : decode (mC M252) 23 = .ok (.if_icmp .ge 28, 3) := by decide +kernel
theorem d252_26 : decode (mC M252) 26 = .ok (.iload 6, 2) := by decide +kernel
theorem d252_28 : decode (mC M252) 28 = .ok (.aload_n 0, 1) := by decide +kernel
theorem d252_29 : decode (mC M252) 29 = .ok (.aload_n 0, 1) := by decide +kernel
theorem d252_30 : decode (mC M252) 30 = .ok (.getfield 31, 3) := by decide +kernel
theorem d252_33 : decode (mC M252) 33 = .ok (.iload 7, 2) := by decide +kernel
theorem d252_35 : decode (mC M252) 35 = .ok (.iaload, 1) := by decide +kernel
theorem d252_36 : decode (mC M252) 36 = .ok (.iload 4, 2) := by decide +kernel
theorem d252_38 : decode (mC M252) 38 = .ok (.iload_n 1, 1) := by decide +kernel
theorem d252_39 : decode (mC M252) 39 = .ok (.invokevirtual 333, 3) := by decide +kernel
theorem d252_42 : decode (mC M252) 42 = .ok (.iadd, 1) := by decide +kernel
theorem d252_43 : decode (mC M252) 43 = .ok (.istore 6, 2) := by decide +kernel
theorem d252_45 : decode (mC M252) 45 = .ok (.iinc 7 1, 3) := by decide +kernel
theorem d252_48 : decode (mC M252) 48 = .ok (.goto (-29), 3) := by decide +kernel
theorem d252_51 : decode (mC M252) 51 = .ok (.iload 6, 2) := by decide +kernel
theorem d252_53 : decode (mC M252) 53 = .ok (.ireturn, 1) := by decide +kernel
theorem sc252_0 : ∀ q ∈ tc252_0, Snd xtb M252 q.1 q.2 := List.forall_mem_cons.mpr ⟨snd_aload_n d252_0 rfl, List.forall_mem_cons.mpr ⟨snd_iload_n d252_1 rfl, List.forall_mem_cons.mpr ⟨snd_iload_n d252_2 rfl, List.forall_mem_cons.mpr ⟨snd_iload_n d252_3 rfl, List.forall_mem_cons.mpr ⟨snd_aload_n d252_4 rfl, List.forall_mem_cons.mpr ⟨snd_getR (by decide) (by decide) rfl wd1384 d252_5, List.forall_mem_cons.mpr ⟨snd_callV (by decide) rfl cn236 ⟨by decide +kernel, by decide +kernel⟩ cm236 (List.forall_mem_cons.mpr ⟨wd1741, cw236⟩) d252_8, List.forall_mem_cons.mpr ⟨snd_istore d252_11, List.forall_mem_cons.mpr ⟨snd_iconst d252_13 (by decide +kernel), List.forall_mem_cons.mpr ⟨snd_istore d252_14, List.forall_mem_cons.mpr ⟨snd_iconst d252_16 (by decide +kernel), List.forall_mem_cons.mpr ⟨snd_istore d252_17, List.forall_mem_cons.mpr ⟨snd_iload d252_19, List.forall_mem_cons.mpr ⟨snd_iload d252_21, List.forall_mem_cons.mpr ⟨snd_cmp_ge d252_23 (by decide), List.forall_mem_cons.mpr ⟨snd_iload d252_26, List.forall_mem_cons.mpr ⟨snd_aload_n d252_28 rfl, List.forall_mem_cons.mpr ⟨snd_aload_n d252_29 rfl, List.forall_mem_cons.mpr ⟨snd_getR (by decide) (by decide) rfl wd1384 d252_30, List.forall_mem_cons.mpr ⟨snd_iload d252_33, List.forall_mem_cons.mpr ⟨snd_iald d252_35, List.forall_mem_cons.mpr ⟨snd_iload d252_36, List.forall_mem_cons.mpr ⟨snd_iload_n d252_38 rfl, List.forall_mem_cons.mpr ⟨snd_callV (by decide) rfl cn245 ⟨by decide +kernel, by decide +kernel⟩ cm245 (List.forall_mem_cons.mpr ⟨wd1769, cw245⟩) d252_39, List.forall_mem_cons.mpr ⟨snd_iadd d252_42, List.forall_mem_cons.mpr ⟨snd_istore d252_43, List.forall_mem_cons.mpr ⟨snd_iinc d252_45 (by decide +kernel), List.forall_mem_cons.mpr ⟨snd_goto d252_48 (by decide), List.forall_mem_cons.mpr ⟨snd_iload d252_51, List.forall_mem_cons.mpr ⟨snd_iret rfl d252_53, fun _ h => by cases h⟩⟩⟩⟩⟩⟩⟩⟩⟩⟩⟩⟩⟩⟩⟩⟩⟩⟩⟩⟩⟩⟩⟩⟩⟩⟩⟩⟩⟩⟩
theorem d253_0 : decode (mC M253) 0 = .ok (.aload_n 0, 1) := by decide +kernel
theorem d253_1 : decode (mC M253) 1 = .ok (.iconst 0, 1) := by decide +kernel
theorem d253_2 : decode (mC M253) 2 = .ok (.putfield 64, 3) := by decide +kernel
theorem d253_5 : decode (mC M253) 5 = .ok (.aload_n 0, 1) := by decide +kernel
theorem d253_6 : decode (mC M253) 6 = .ok (.aload_n 0, 1) := by decide +kernel
theorem d253_7 : decode (mC M253) 7 = .ok (.iload 4, 2) := by decide +kernel
theorem d253_9 : decode (mC M253) 9 = .ok (.invokevirtual 267, 3) := by decide +kernel
theorem d253_12 : decode (mC M253) 12 = .ok (.iload_n 1, 1) := by decide +kernel
theorem d253_13 : decode (mC M253) 13 = .ok (.iload_n 2, 1) := by decide +kernel
theorem d253_14 : decode (mC M253) 14 = .ok (.iload_n 3, 1) := by decide +kernel
theorem d253_15 : decode (mC M253) 15 = .ok (.invokevirtual 307, 3) := by decide +kernel
theorem d253_18 : decode (mC M253) 18 = .ok (.istore 5, 2) := by decide +kernel
theorem d253_20 : decode (mC M253) 20 = .ok (.iload 5, 2) := by decide +kernel
theorem d253_22 : decode (mC M253) 22 = .ok (.ifCond .le 12, 3) := by decide +kernel
theorem d253_25 : decode (mC M253) 25 = .ok (.aload_n 0, 1) := by decide +kernel
theorem d253_26 : decode (mC M253) 26 = .ok (.iload 5, 2) := by decide +kernel
theorem d253_28 : decode (mC M253) 28 = .ok (.invokevirtual 70, 3) := by decide +kernel
theorem d253_31 : decode (mC M253) 31 = .ok (.goto 16, 3) := by decide +kernel
theorem d253_34 : decode (mC M253) 34 = .ok (.aload_n 0, 1) := by decide +kernel
theorem d253_35 : decode (mC M253) 35 = .ok (.aload_n 0, 1) := by decide +kernel
theorem d253_36 : decode (mC M253) 36 = .ok (.iload_n 1, 1) := by decide +kernel
theorem d253_37 : decode (mC M253) 37 = .ok (.iload_n 2, 1) := by decide +kernel
theorem d253_38 : decode (mC M253) 38 = .ok (.iload_n 3, 1) := by decide +kernel
theorem d253_39 : decode (mC M253) 39 = .ok (.iload 4, 2) := by decide +kernel
theorem d253_41 : decode (mC M253) 41 = .ok (.invokevirtual 342, 3) := by decide +kernel
theorem d253_44 : decode (mC M253) 44 = .ok (.invokevirtual 264, 3) := by decide +kernel
theorem d253_47 : decode (mC M253) 47 = .ok (.ireturn, 1) := by decide +kernel
theorem sc253_0 : ∀ q ∈ tc253_0, Snd xtb M253 q.1 q.2 := List.forall_mem_cons.mpr ⟨snd_aload_n d253_0 rfl, List.forall_mem_cons.mpr ⟨snd_iconst d253_1 (by decide +kernel), List.forall_mem_cons.mpr ⟨snd_putI (by decide) (by decide) rfl rfl wd1367 d253_2, List.forall_mem_cons.mpr ⟨snd_aload_n d253_5 rfl, List.forall_mem_cons.mpr ⟨snd_aload_n d253_6 rfl, List.forall_mem_cons.mpr ⟨snd_iload d253_7, List.forall_mem_cons.mpr ⟨snd_callV (by decide) rfl cn213 ⟨by decide +kernel, by decide +kernel⟩ cm213 (List.forall_mem_cons.mpr ⟨wd1642, cw213⟩) d253_9, List.forall_mem_cons.mpr ⟨snd_iload_n d253_12 rfl, List.forall_mem_cons.mpr ⟨snd_iload_n d253_13 rfl, List.forall_mem_cons.mpr ⟨snd_iload_n d253_14 rfl, List.forall_mem_cons.mpr ⟨snd_callV (by decide) rfl cn225 ⟨by decide +kernel, by decide +kernel⟩ cm225 (List.forall_mem_cons.mpr ⟨wd1702, cw225⟩) d253_15, List.forall_mem_cons.mpr ⟨snd_istore d253_18, List.forall_mem_cons.mpr ⟨snd_iload d253_20, List.forall_mem_cons.mpr ⟨snd_if_le d253_22 (by decide), List.forall_mem_cons.mpr ⟨snd_aload_n d253_25 rfl, List.forall_mem_cons.mpr ⟨snd_iload d253_26, List.forall_mem_cons.mpr ⟨snd_callV (by decide) rfl cn172 ⟨by decide +kernel, by decide +kernel⟩ cm172 (List.forall_mem_cons.mpr ⟨wd1476, cw172⟩) d253_28, List.forall_mem_cons.mpr ⟨snd_goto d253_31 (by decide), List.forall_mem_cons.mpr ⟨snd_aload_n d253_34 rfl, List.forall_mem_cons.mpr ⟨snd_aload_n d253_35 rfl, List.forall_mem_cons.mpr ⟨snd_iload_n d253_36 rfl, List.forall_mem_cons.mpr ⟨snd_iload_n d253_37 rfl, List.forall_mem_cons.mpr ⟨snd_iload_n d253_38 rfl, List.forall_mem_cons.mpr ⟨snd_iload d253_39, List.forall_mem_cons.mpr ⟨snd_callV (by decide) rfl cn252 ⟨by decide +kernel, by decide +kernel⟩ cm252 (List.forall_mem_cons.mpr ⟨wd1801, cw252⟩) d253_41, List.forall_mem_cons.mpr ⟨snd_callV (by decide) rfl cn174 ⟨by decide +kernel, by decide +kernel⟩ cm174 (List.forall_mem_cons.mpr ⟨wd1622, cw174⟩) d253_44, List.forall_mem_cons.mpr ⟨snd_iret rfl d253_47, fun _ h => by cases h⟩⟩⟩⟩⟩⟩⟩⟩⟩⟩⟩⟩⟩⟩⟩⟩⟩⟩⟩⟩⟩⟩⟩⟩⟩⟩⟩
theorem d254_0 : decode (mC M254) 0 = .ok (.aload_n 0, 1) := by decide +kernel
theorem d254_1 : decode (mC M254) 1 = .ok (.iconst 0, 1) := by decide +kernel
theorem d254_2 : decode (mC M254) 2 = .ok (.putfield 64, 3) := by decide +kernel
theorem d254_5 : decode (mC M254) 5 = .ok (.aload_n 0, 1) := by decide +kernel
theorem d254_6 : decode (mC M254) 6 = .ok (.aload_n 0, 1) := by decide +kernel
theorem d254_7 : decode (mC M254) 7 = .ok (.iload_n 2, 1) := by decide +kernel
theorem d254_8 : decode (mC M254) 8 = .ok (.invokevirtual 267, 3) := by decide +kernel
theorem d254_11 : decode (mC M254) 11 = .ok (.iload_n 1, 1) := by decide +kernel
theorem d254_12 : decode (mC M254) 12 = .ok (.invokevirtual 283, 3) := by decide +kernel
theorem d254_15 : decode (mC M254) 15 = .ok (.istore_n 3, 1) := by decide +kernel
theorem d254_16 : decode (mC M254) 16 = .ok (.iload_n 3, 1) := by decide +kernel
theorem d254_17 : decode (mC M254) 17 = .ok (.ifCond .le 9, 3) := by decide +kernel
theorem d254_20 : decode (mC M254) 20 = .ok (.aload_n 0, 1) := by decide +kernel
theorem d254_21 : decode (mC M254) 21 = .ok (.iload_n 3, 1) := by decide +kernel
theorem d254_22 : decode (mC M254) 22 = .ok (.invokevirtual 70, 3) := by decide +kernel
theorem d254_25 : decode (mC M254) 25 = .ok (.ireturn, 1) := by decide +kernel
theorem d254_26 : decode (mC M254) 26 = .ok (.iconst 0, 1) := by decide +kernel
theorem d254_27 : decode (mC M254) 27 = .ok (.istore 4, 2) := by decide +kernel
theorem d254_29 : decode (mC M254) 29 = .ok (.aload_n 0, 1) := by decide +kernel
theorem d254_30 : decode (mC M254) 30 = .ok (.iload_n 1, 1) := by decide +kernel
theorem d254_31 : decode (mC M254) 31 = .ok (.iconst 0, 1) := by decide +kernel
theorem d254_32 : decode (mC M254) 32 = .ok (.iconst 0, 1) := by decide +kernel
theorem d254_33 : decode (mC M254) 33 = .ok (.iload_n 2, 1) := by decide +kernel
theorem d254_34 : decode (mC M254) 34 = .ok (.invokevirtual 342, 3) := by decide +kernel
theorem d254_37 : decode (mC M254) 37 = .ok (.istore 5, 2) := by decide +kernel
theorem d254_39 : decode (mC M254) 39 = .ok (.iconst 0, 1) := by decide +kernel
theorem d254_40 : decode (mC M254) 40 = .ok (.istore 6, 2) := by decide +kernel
theorem d254_42 : decode (mC M254) 42 = .ok (.iload 6, 2) := by decide +kernel
theorem d254_44 : decode (mC M254) 44 = .ok (.aload_n 0, 1) := by decide +kernel
theorem d254_45 : decode (mC M254) 45 = .ok (.getfield 13, 3) := by decide +kernel
theorem d254_48 : decode (mC M254) 48 = .ok (.iconst 0, 1) := by decide +kernel
theorem d254_49 : decode (mC M254) 49 = .ok (.iaload, 1) := by decide +kernel
theorem d254_50 : decode (mC M254) 50 = .ok (.if_icmp .gt 65, 3) := by decide +kernel
theorem d254_53 : decode (mC M254) 53 = .ok (.iconst 0, 1) := by decide +kernel
theorem d254_54 : decode (mC M254) 54 = .ok (.istore 7, 2) := by decide +kernel
theorem d254_56 : decode (mC M254) 56 = .ok (.iload 7, 2) := by decide +kernel
theorem d254_58 : decode (mC M254) 58 = .ok (.aload_n 0, 1) := by decide +kernel
theorem d254_59 : decode (mC M254) 59 = .ok (.getfield 13, 3) := by decide +kernel
theorem d254_62 : decode (mC M254) 62 = .ok (.iconst 0, 1) := by decide +kernel
theorem d254_63 : decode (mC M254) 63 = .ok (.iaload, 1) := by decide +kernel
theorem d254_64 : decode (mC M254) 64 = .ok (.if_icmp .gt 45, 3) := by decide +kernel
theorem d254_67 : decode (mC M254) 67 = .ok (.aload_n 0, 1) := by decide +kernel
theorem d254_68 : decode (mC M254) 68 = .ok (.iload_n 1, 1) := by decide +kernel
theorem d254_69 : decode (mC M254) 69 = .ok (.iload 7, 2) := by decide +kernel
theorem d254_71 : decode (mC M254) 71 = .ok (.iload 6, 2) := by decide +kernel
theorem d254_73 : decode (mC M254) 73 = .ok (.iload_n 2, 1) := by decide +kernel
theorem d254_74 : decode (mC M254) 74 = .ok (.invokevirtual 342, 3) := by decide +kernel
theorem d254_77 : decode (mC M254) 77 = .ok (.istore 8, 2) := by decide +kernel
theorem d254_79 : decode (mC M254) 79 = .ok (.iload 8, 2) := by decide +kernel
theorem d254_81 : decode (mC M254) 81 = .ok (.iload 5, 2) := by decide +kernel
theorem d254_83 : decode (mC M254) 83 = .ok (.if_icmp .lt 6, 3) := by decide +kernel
theorem d254_86 : decode (mC M254) 86 = .ok (.goto 17, 3) := by decide +kernel
theorem d254_89 : decode (mC M254) 89 = .ok (.iload 8, 2) := by decide +kernel
theorem d254_91 : decode (mC M254) 91 = .ok (.istore 5, 2) := by decide +kernel
theorem d254_93 : decode (mC M254) 93 = .ok (.iload 7, 2) := by decide +kernel
theorem d254_95 : decode (mC M254) 95 = .ok (.bipush 100, 2) := by decide +kernel
theorem d254_97 : decode (mC M254) 97 = .ok (.iload 6, 2) := by decide +kernel
theorem d254_99 : decode (mC M254) 99 = .ok (.imul, 1) := by decide +kernel
theorem d254_100 : decode (mC M254) 100 = .ok (.iadd, 1) := by decide +kernel
theorem d254_101 : decode (mC M254) 101 = .ok (.istore 4, 2) := by decide +kernel
theorem d254_103 : decode (mC M254) 103 = .ok (.iinc 7 1, 3) := by decide +kernel
theorem d254_106 : decode (mC M254) 106 = .ok (.goto (-50), 3) := by decide +kernel
theorem d254_109 : decode (mC M254) 109 = .ok (.iinc 6 1, 3) := by decide +kernel
theorem d254_112 : decode (mC M254) 112 = .ok (.goto (-70), 3) := by decide +kernel
theorem d254_115 : decode (mC M254) 115 = .ok (.aload_n 0, 1) := by decide +kernel
theorem d254_116 : decode (mC M254) 116 = .ok (.iload 4, 2) := by decide +kernel
theorem d254_118 : decode (mC M254) 118 = .ok (.invokevirtual 264, 3) := by decide +kernel
theorem d254_121 : decode (mC M254) 121 = .ok (.ireturn, 1) := by decide +kernel
theorem sc254_0 : ∀ q ∈ tc254_0, Snd xtb M254 q.1 q.2 := List.forall_mem_cons.mpr ⟨snd_aload_n d254_0 rfl, List.forall_mem_cons.mpr ⟨snd_iconst d254_1 (by decide +kernel), List.forall_mem_cons.mpr ⟨snd_putI (by decide) (by decide) rfl rfl wd1367 d254_2, List.forall_mem_cons.mpr ⟨snd_aload_n d254_5 rfl, List.forall_mem_cons.mpr ⟨snd_aload_n d254_6 rfl, List.forall_mem_cons.mpr ⟨snd_iload_n d254_7 rfl, List.forall_mem_cons.mpr ⟨snd_callV (by decide) rfl cn213 ⟨by decide +kernel, by decide +kernel⟩ cm213 (List.forall_mem_cons.mpr ⟨wd1642, cw213⟩) d254_8, List.forall_mem_cons.mpr ⟨snd_iload_n d254_11 rfl, List.forall_mem_cons.mpr ⟨snd_callV (by decide) rfl cn224 ⟨by decide +kernel, by decide +kernel⟩ cm224 (List.forall_mem_cons.mpr ⟨wd1662, cw224⟩) d254_12, List.forall_mem_cons.mpr ⟨snd_istore_n d254_15 rfl, List.forall_mem_cons.mpr ⟨snd_iload_n d254_16 rfl, List.forall_mem_cons.mpr ⟨snd_if_le d254_17 (by decide), List.forall_mem_cons.mpr ⟨snd_aload_n d254_20 rfl, List.forall_mem_cons.mpr ⟨snd_iload_n d254_21 rfl, List.forall_mem_cons.mpr ⟨snd_callV (by decide) rfl cn172 ⟨by decide +kernel, by decide +kernel⟩ cm172 (List.forall_mem_cons.mpr ⟨wd1476, cw172⟩) d254_22, List.forall_mem_cons.mpr ⟨snd_iret rfl d254_25, List.forall_mem_cons.mpr ⟨snd_iconst d254_26 (by decide +kernel), List.forall_mem_cons.mpr ⟨snd_istore d254_27, List.forall_mem_cons.mpr ⟨snd_aload_n d254_29 rfl, List.forall_mem_cons.mpr ⟨snd_iload_n d254_30 rfl, List.forall_mem_cons.mpr ⟨snd_iconst d254_31 (by decide +kernel), List.forall_mem_cons.mpr ⟨snd_iconst d254_32 (by decide +kernel), List.forall_mem_cons.mpr ⟨snd_iload_n d254_33 rfl, List.forall_mem_cons.mpr ⟨snd_callV (by decide) rfl cn252 ⟨by decide +kernel, by decide +kernel⟩ cm252 (List.forall_mem_cons.mpr ⟨wd1801, cw252⟩) d254_34, List.forall_mem_cons.mpr ⟨snd_istore d254_37, List.forall_mem_cons.mpr ⟨snd_iconst d254_39 (by decide +kernel), List.forall_mem_cons.mpr ⟨snd_istore d254_40, List.forall_mem_cons.mpr ⟨snd_iload d254_42, List.forall_mem_cons.mpr ⟨snd_aload_n d254_44 rfl, List.forall_mem_cons.mpr ⟨snd_getR (by decide) (by decide) rfl wd1370 d254_45, fun _ h => by cases h⟩⟩⟩⟩⟩⟩⟩⟩⟩⟩⟩⟩⟩⟩⟩⟩⟩⟩⟩⟩⟩⟩⟩⟩⟩⟩⟩⟩⟩⟩
theorem sc254_1 : ∀ q ∈ tc254_1, Snd xtb M254 q.1 q.2 := List.forall_mem_cons.mpr ⟨snd_iconst d254_48 (by decide +kernel), List.forall_mem_cons.mpr ⟨snd_iald d254_49, List.forall_mem_cons.mpr ⟨snd_cmp_gt d254_50 (by decide), List.forall_mem_cons.mpr ⟨snd_iconst d254_53 (by decide +kernel), List.forall_mem_cons.mpr ⟨snd_istore d254_54, List.forall_mem_cons.mpr ⟨snd_iload d254_56, List.forall_mem_cons.mpr ⟨snd_aload_n d254_58 rfl, List.forall_mem_cons.mpr ⟨snd_getR (by decide) (by decide) rfl wd1370 d254_59, List.forall_mem_cons.mpr ⟨snd_iconst d254_62 (by decide +kernel), List.forall_mem_cons.mpr ⟨snd_iald d254_63, List.forall_mem_cons.mpr ⟨snd_cmp_gt d254_64 (by decide), List.forall_mem_cons.mpr ⟨snd_aload_n d254_67 rfl, List.forall_mem_cons.mpr ⟨snd_iload_n d254_68 rfl, List.forall_mem_cons.mpr ⟨snd_iload d254_69, List.forall_mem_cons.mpr ⟨snd_iload d254_71, List.forall_mem_cons.mpr ⟨snd_iload_n d254_73 rfl, List.forall_mem_cons.mpr ⟨snd_callV (by decide) rfl cn252 ⟨by decide +kernel, by decide +kernel⟩ cm252 (List.forall_mem_cons.mpr ⟨wd1801, cw252⟩) d254_74, List.forall_mem_cons.mpr ⟨snd_istore d254_77, List.forall_mem_cons.mpr ⟨snd_iload d254_79, List.forall_mem_cons.mpr ⟨snd_iload d254_81, List.forall_mem_cons.mpr ⟨snd_cmp_lt d254_83 (by decide), List.forall_mem_cons.mpr ⟨snd_goto d254_86 (by decide), List.forall_mem_cons.mpr ⟨snd_iload d254_89, List.forall_mem_cons.mpr ⟨snd_istore d254_91, List.forall_mem_cons.mpr ⟨snd_iload d254_93, List.forall_mem_cons.mpr ⟨snd_bipush d254_95 (by decide +kernel), List.forall_mem_cons.mpr ⟨snd_iload d254_97, List.forall_mem_cons.mpr ⟨snd_imul d254_99, List.forall_mem_cons.mpr ⟨snd_iadd d254_100, List.forall_mem_cons.mpr ⟨snd_istore d254_101, fun _ h => by cases h⟩⟩⟩⟩⟩⟩⟩⟩⟩⟩⟩⟩⟩⟩⟩⟩⟩⟩⟩⟩⟩⟩⟩⟩⟩⟩⟩⟩⟩⟩
theorem sc254_2 : ∀ q ∈ tc254_2, Snd xtb M254 q.1 q.2 := List.forall_mem_cons.mpr ⟨snd_iinc d254_103 (by decide +kernel), List.forall_mem_cons.mpr ⟨snd_goto d254_106 (by decide), List.forall_mem_cons.mpr ⟨snd_iinc d254_109 (by decide +kernel), List.forall_mem_cons.mpr ⟨snd_goto d254_112 (by decide), List.forall_mem_cons.mpr ⟨snd_aload_n d254_115 rfl, List.forall_mem_cons.mpr ⟨snd_iload d254_116, List.forall_mem_cons.mpr ⟨snd_callV (by decide) rfl cn174 ⟨by decide +kernel, by decide +kernel⟩ cm174 (List.forall_mem_cons.mpr ⟨wd1622, cw174⟩) d254_118, List.forall_mem_cons.mpr ⟨snd_iret rfl d254_121, fun _ h => by cases h⟩⟩⟩⟩⟩⟩⟩⟩
theorem d255_0 : decode (mC M255) 0 = .ok (.iload_n 3, 1) := by decide +kernel
theorem d255_1 : decode (mC M255) 1 = .ok (.ifCond .eq 7, 3) := by decide +kernel
theorem d255_4 : decode (mC M255) 4 = .ok (.iconst 0, 1) := by decide +kernel
theorem d255_5 : decode (mC M255) 5 = .ok (.goto 21, 3) := by decide +kernel
theorem d255_8 : decode (mC M255) 8 = .ok (.iload_n 0, 1) := by decide +kernel
theorem d255_9 : decode (mC M255) 9 = .ok (.iload_n 2, 1) := by decide +kernel
theorem d255_10 : decode (mC M255) 10 = .ok (.bipush (-2), 2) := by decide +kernel
theorem d255_12 : decode (mC M255) 12 = .ok (.if_icmp .eq 8, 3) := by decide +kernel
theorem d255_15 : decode (mC M255) 15 = .ok (.iload_n 1, 1) := by decide +kernel
theorem d255_16 : decode (mC M255) 16 = .ok (.iload_n 2, 1) := by decide +kernel
theorem d255_17 : decode (mC M255) 17 = .ok (.if_icmp .ge 7, 3) := by decide +kernel
theorem d255_20 : decode (mC M255) 20 = .ok (.iload_n 1, 1) := by decide +kernel
theorem d255_21 : decode (mC M255) 21 = .ok (.goto 4, 3) := by decide +kernel
theorem d255_24 : decode (mC M255) 24 = .ok (.iload_n 2, 1) := by decide +kernel
theorem d255_25 : decode (mC M255) 25 = .ok (.imul, 1) := by decide +kernel
theorem d255_26 : decode (mC M255) 26 = .ok (.ireturn, 1) := by decide +kernel
theorem sc255_0 : ∀ q ∈ tc255_0, Snd xtb M255 q.1 q.2 := List.forall_mem_cons.mpr ⟨snd_iload_n d255_0 rfl, List.forall_mem_cons.mpr ⟨snd_if_eq d255_1 (by decide), List.forall_mem_cons.mpr ⟨snd_iconst d255_4 (by decide +kernel), List.forall_mem_cons.mpr ⟨snd_goto d255_5 (by decide), List.forall_mem_cons.mpr ⟨snd_iload_n d255_8 rfl, List.forall_mem_cons.mpr ⟨snd_iload_n d255_9 rfl, List.forall_mem_cons.mpr ⟨snd_bipush d255_10 (by decide +kernel), List.forall_mem_cons.mpr ⟨snd_cmp_eq d255_12 (by decide), List.forall_mem_cons.mpr ⟨snd_iload_n d255_15 rfl, List.forall_mem_cons.mpr ⟨snd_iload_n d255_16 rfl, List.forall_mem_cons.mpr ⟨snd_cmp_ge d255_17 (by decide), List.forall_mem_cons.mpr ⟨snd_iload_n d255_20 rfl, List.forall_mem_cons.mpr ⟨snd_goto d255_21 (by decide), List.forall_mem_cons.mpr ⟨snd_iload_n d255_24 rfl, List.forall_mem_cons.mpr ⟨snd_imul d255_25, List.forall_mem_cons.mpr ⟨snd_iret rfl d255_26, fun _ h => by cases h⟩⟩⟩⟩⟩⟩⟩⟩⟩⟩⟩⟩⟩⟩⟩⟩
theorem d256_0 : decode (mC M256) 0 = .ok (.iload_n 0, 1) := by decide +kernel
theorem d256_1 : decode (mC M256) 1 = .ok (.i2l, 1) := by decide +kernel
theorem d256_2 : decode (mC M256) 2 = .ok (.iload_n 1, 1) := by decide +kernel
theorem d256_3 : decode (mC M256) 3 = .ok (.i2l, 1) := by decide +kernel
theorem d256_4 : decode (mC M256) 4 = .ok (.lmul, 1) := by decide +kernel
theorem d256_5 : decode (mC M256) 5 = .ok (.ldc2_w 345, 3) := by decide +kernel
theorem d256_8 : decode (mC M256) 8 = .ok (.ladd, 1) := by decide +kernel
theorem d256_9 : decode (mC M256) 9 = .ok (.ldc2_w 347, 3) := by decide +kernel
theorem d256_12 : decode (mC M256) 12 = .ok (.ldiv, 1) := by decide +kernel
theorem d256_13 : decode (mC M256) 13 = .ok (.l2i, 1) := by decide +kernel
theorem d256_14 : decode (mC M256) 14 = .ok (.ireturn, 1) := by decide +kernel
theorem sc256_0 : ∀ q ∈ tc256_0, Snd xtb M256 q.1 q.2 := List.forall_mem_cons.mpr ⟨snd_iload_n d256_0 rfl, List.forall_mem_cons.mpr ⟨snd_i2l d256_1, List.forall_mem_cons.mpr ⟨snd_iload_n d256_2 rfl, List.forall_mem_cons.mpr ⟨snd_i2l d256_3, List.forall_mem_cons.mpr ⟨snd_lmul d256_4, List.forall_mem_cons.mpr ⟨snd_ldc2 d256_5 wd1827, List.forall_mem_cons.mpr ⟨snd_ladd d256_8, List.forall_mem_cons.mpr ⟨snd_ldc2 d256_9 wd1828, List.forall_mem_cons.mpr ⟨snd_ldiv d256_12, List.forall_mem_cons.mpr ⟨snd_l2i d256_13, List.forall_mem_cons.mpr ⟨snd_iret rfl d256_14, fun _ h => by cases h⟩⟩⟩⟩⟩⟩⟩⟩⟩⟩⟩
theorem d257_0 : decode (mC M257) 0 = .ok (.aload_n 0, 1) := by decide +kernel
theorem d257_1 : decode (mC M257) 1 = .ok (.iload_n 1, 1) := by decide +kernel
theorem d257_2 : decode (mC M257) 2 = .ok (.iload_n 2, 1) := by decide +kernel
theorem d257_3 : decode (mC M257) 3 = .ok (.iload_n 3, 1) := by decide +kernel
theorem d257_4 : decode (mC M257) 4 = .ok (.aload_n 0, 1) := by decide +kernel
theorem d257_5 : decode (mC M257) 5 = .ok (.getfield 31, 3) := by decide +kernel
theorem d257_8 : decode (mC M257) 8 = .ok (.invokevirtual 322, 3) := by decide +kernel
theorem d257_11 : decode (mC M257) 11 = .ok (.istore 7, 2) := by decide +kernel
theorem d257_13 : decode (mC M257) 13 = .ok (.iconst 0, 1) := by decide +kernel
theorem d257_14 : decode (mC M257) 14 = .ok (.istore 8, 2) := by decide +kernel
theorem d257_16 : decode (mC M257) 16 = .ok (.iconst 0, 1) := by decide +kernel
theorem d257_17 : decode (mC M257) 17 = .ok (.istore 9, 2) := by decide +kernel
theorem d257_19 : decode (mC M257) 19 = .ok (.iload 9, 2) := by decide +kernel
theorem d257_21 : decode (mC M257) 21 = .ok (.iload 7, 2) := by decide +kernel
theorem d257_23 : decode (mC M257) 23 = .ok (.if_icmp .ge 67, 3) := by decide +kernel
theorem d257_26 : decode (mC M257) 26 = .ok (.iload 8, 2) := by decide +kernel
theorem d257_28 : decode (mC M257) 28 = .ok (.iload 5, 2) := by decide +kernel
theorem d257_30 : decode (mC M257) 30 = .ok (.iload 6, 2) := by decide +kernel
theorem d257_32 : decode (mC M257) 32 = .ok (.aload_n 0, 1) := by decide +kernel
theorem d257_33 : decode (mC M257) 33 = .ok (.aload_n 0, 1) := by decide +kernel
theorem d257_34 : decode (mC M257) 34 = .ok (.getfield 31, 3) := by decide +kernel
theorem d257_37 : decode (mC M257) 37 = .ok (.iload 9, 2) := by decide +kernel
theorem d257_39 : decode (mC M257) 39 = .ok (.iaload, 1) := by decide +kernel
theorem d257_40 : decode (mC M257) 40 = .ok (.iload 4, 2) := by decide +kernel
theorem d257_42 : decode (mC M257) 42 = .ok (.invokevirtual 339, 3) := by decide +kernel
theorem d257_45 : decode (mC M257) 45 = .ok (.aload_n 0, 1) := by decide +kernel
theorem d257_46 : decode (mC M257) 46 = .ok (.aload_n 0, 1) := by decide +kernel
theorem d257_47 : decode (mC M257) 47 = .ok (.getfield 31, 3) := by decide +kernel
theorem d257_50 : decode (mC M257) 50 = .ok (.iload 9, 2) := by decide +kernel
theorem d257_52 : decode (mC M257) 52 = .ok (.iaload, 1) := by decide +kernel
theorem d257_53 : decode (mC M257) 53 = .ok (.iload 4, 2) := by decide +kernel
theorem d257_55 : decode (mC M257) 55 = .ok (.iload_n 1, 1) := by decide +kernel
theorem d257_56 : decode (mC M257) 56 = .ok (.iload 6, 2) := by decide +kernel
theorem d257_58 : decode (mC M257) 58 = .ok (.invokevirtual 336, 3) := by decide +kernel
theorem d257_61 : decode (mC M257) 61 = .ok (.invokestatic 349, 3) := by decide +kernel
theorem d257_64 : decode (mC M257) 64 = .ok (.aload_n 0, 1) := by decide +kernel
theorem d257_65 : decode (mC M257) 65 = .ok (.aload_n 0, 1) := by decide +kernel
theorem d257_66 : decode (mC M257) 66 = .ok (.getfield 31, 3) := by decide +kernel
theorem d257_69 : decode (mC M257) 69 = .ok (.iload 9, 2) := by decide +kernel
theorem d257_71 : decode (mC M257) 71 = .ok (.iaload, 1) := by decide +kernel
theorem d257_72 : decode (mC M257) 72 = .ok (.iload 4, 2) := by decide +kernel
theorem d257_74 : decode (mC M257) 74 = .ok (.iload_n 1, 1) := by decide +kernel
theorem d257_75 : decode (mC M257) 75 = .ok (.invokevirtual 333, 3) := by decide +kernel
theorem d257_78 : decode (mC M257) 78 = .ok (.invokestatic 353, 3) := by decide +kernel
theorem d257_81 : decode (mC M257) 81 = .ok (.iadd, 1) := by decide +kernel
theorem d257_82 : decode (mC M257) 82 = .ok (.istore 8, 2) := by decide +kernel
theorem d257_84 : decode (mC M257) 84 = .ok (.iinc 9 1, 3) := by decide +kernel
theorem d257_87 : decode (mC M257) 87 = .ok (.goto (-68), 3) := by decide +kernel
theorem d257_90 : decode (mC M257) 90 = .ok (.iload 8, 2) := by decide +kernel
theorem d257_92 : decode (mC M257) 92 = .ok (.ireturn, 1) := by decide +kernel
theorem sc257_0 : ∀ q ∈ tc257_0, Snd xtb M257 q.1 q.2 := List.forall_mem_cons.mpr ⟨snd_aload_n d257_0 rfl, List.forall_mem_cons.mpr ⟨snd_iload_n d257_1 rfl, List.forall_mem_cons.mpr ⟨snd_iload_n d257_2 rfl, List.forall_mem_cons.mpr ⟨snd_iload_n d257_3 rfl, List.forall_mem_cons.mpr ⟨snd_aload_n d257_4 rfl, List.forall_mem_cons.mpr ⟨snd_getR (by decide) (by decide) rfl wd1384 d257_5, List.forall_mem_cons.mpr ⟨snd_callV (by decide) rfl cn236 ⟨by decide +kernel, by decide +kernel⟩ cm236 (List.forall_mem_cons.mpr ⟨wd1741, cw236⟩) d257_8, List.forall_mem_cons.mpr ⟨snd_istore d257_11, List.forall_mem_cons.mpr ⟨snd_iconst d257_13 (by decide +kernel), List.forall_mem_cons.mpr ⟨snd_istore d257_14, List.forall_mem_cons.mpr ⟨snd_iconst d257_16 (by decide +kernel), List.forall_mem_cons.mpr ⟨snd_istore d257_17, List.forall_mem_cons.mpr ⟨snd_iload d257_19, List.forall_mem_cons.mpr ⟨snd_iload d257_21, List.forall_mem_cons.mpr ⟨snd_cmp_ge d257_23 (by decide), List.forall_mem_cons.mpr ⟨snd_iload d257_26, List.forall_mem_cons.mpr ⟨snd_iload d257_28, List.forall_mem_cons.mpr ⟨snd_iload d257_30, List.forall_mem_cons.mpr ⟨snd_aload_n d257_32 rfl, List.forall_mem_cons.mpr ⟨snd_aload_n d257_33 rfl, List.forall_mem_cons.mpr ⟨snd_getR (by decide) (by decide) rfl wd1384 d257_34, List.forall_mem_cons.mpr ⟨snd_iload d257_37, List.forall_mem_cons.mpr ⟨snd_iald d257_39, List.forall_mem_cons.mpr ⟨snd_iload d257_40, List.forall_mem_cons.mpr ⟨snd_callV (by decide) rfl cn248 ⟨by decide +kernel, by decide +kernel⟩ cm248 (List.forall_mem_cons.mpr ⟨wd1793, cw248⟩) d257_42, List.forall_mem_cons.mpr ⟨snd_aload_n d257_45 rfl, List.forall_mem_cons.mpr ⟨snd_aload_n d257_46 rfl, List.forall_mem_cons.mpr ⟨snd_getR (by decide) (by decide) rfl wd1384 d257_47, List.forall_mem_cons.mpr ⟨snd_iload d257_50, List.forall_mem_cons.mpr ⟨snd_iald d257_52, fun _ h => by cases h⟩⟩⟩⟩⟩⟩⟩⟩⟩⟩⟩⟩⟩⟩⟩⟩⟩⟩⟩⟩⟩⟩⟩⟩⟩⟩⟩⟩⟩⟩
theorem sc257_1 : ∀ q ∈ tc257_1, Snd xtb M257 q.1 q.2 := List.forall_mem_cons.mpr ⟨snd_iload d257_53, List.forall_mem_cons.mpr ⟨snd_iload_n d257_55 rfl, List.forall_mem_cons.mpr ⟨snd_iload d257_56, List.forall_mem_cons.mpr ⟨snd_callV (by decide) rfl cn247 ⟨by decide +kernel, by decide +kernel⟩ cm247 (List.forall_mem_cons.mpr ⟨wd1781, cw247⟩) d257_58, List.forall_mem_cons.mpr ⟨snd_callS cn255 ⟨by decide +kernel, by decide +kernel⟩ cm255 (List.forall_mem_cons.mpr ⟨wd1821, cw255⟩) d257_61, List.forall_mem_cons.mpr ⟨snd_aload_n d257_64 rfl, List.forall_mem_cons.mpr ⟨snd_aload_n d257_65 rfl, List.forall_mem_cons.mpr ⟨snd_getR (by decide) (by decide) rfl wd1384 d257_66, List.forall_mem_cons.mpr ⟨snd_iload d257_69, List.forall_mem_cons.mpr ⟨snd_iald d257_71, List.forall_mem_cons.mpr ⟨snd_iload d257_72, List.forall_mem_cons.mpr ⟨snd_iload_n d257_74 rfl, List.forall_mem_cons.mpr ⟨snd_callV (by decide) rfl cn245 ⟨by decide +kernel, by decide +kernel⟩ cm245 (List.forall_mem_cons.mpr ⟨wd1769, cw245⟩) d257_75, List.forall_mem_cons.mpr ⟨snd_callS cn256 ⟨by decide +kernel, by decide +kernel⟩ cm256 (List.forall_mem_cons.mpr ⟨wd1824, cw256⟩) d257_78, List.forall_mem_cons.mpr ⟨snd_iadd d257_81, List.forall_mem_cons.mpr ⟨snd_istore d257_82, List.forall_mem_cons.mpr ⟨snd_iinc d257_84 (by decide +kernel), List.forall_mem_cons.mpr ⟨snd_goto d257_87 (by decide), List.forall_mem_cons.mpr ⟨snd_iload d257_90, List.forall_mem_cons.mpr ⟨snd_iret rfl d257_92, fun _ h => by cases h⟩⟩⟩⟩⟩⟩⟩⟩⟩⟩⟩⟩⟩⟩⟩⟩⟩⟩⟩⟩

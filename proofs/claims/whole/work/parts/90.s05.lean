/-! soundness -/
theorem d181_0 : decode (mC M181) 0 = .ok (.aload_n 0, 1) := by decide +kernel
theorem d181_1 : decode (mC M181) 1 = .ok (.getfield 80, 3) := by decide +kernel
theorem d181_4 : decode (mC M181) 4 = .ok (.ifCond .ne 8, 3) := by decide +kernel
theorem d181_7 : decode (mC M181) 7 = .ok (.aload_n 0, 1) := by decide +kernel
theorem d181_8 : decode (mC M181) 8 = .ok (.iload_n 1, 1) := by decide +kernel
theorem d181_9 : decode (mC M181) 9 = .ok (.putfield 80, 3) := by decide +kernel
theorem d181_12 : decode (mC M181) 12 = .ok (.aload_n 0, 1) := by decide +kernel
theorem d181_13 : decode (mC M181) 13 = .ok (.iconst 0, 1) := by decide +kernel
theorem d181_14 : decode (mC M181) 14 = .ok (.putfield 92, 3) := by decide +kernel
theorem d181_17 : decode (mC M181) 17 = .ok (.return_, 1) := by decide +kernel
theorem sc181_0 : ∀ q ∈ tc181_0, Snd xtb M181 q.1 q.2 := List.forall_mem_cons.mpr ⟨snd_aload_n d181_0 rfl, List.forall_mem_cons.mpr ⟨snd_getI (by decide) (by decide) rfl wd1382 d181_1, List.forall_mem_cons.mpr ⟨snd_if_ne d181_4 (by decide), List.forall_mem_cons.mpr ⟨snd_aload_n d181_7 rfl, List.forall_mem_cons.mpr ⟨snd_iload_n d181_8 rfl, List.forall_mem_cons.mpr ⟨snd_putI (by decide) (by decide) rfl rfl wd1382 d181_9, List.forall_mem_cons.mpr ⟨snd_aload_n d181_12 rfl, List.forall_mem_cons.mpr ⟨snd_iconst d181_13 (by decide +kernel), List.forall_mem_cons.mpr ⟨snd_putI (by decide) (by decide) rfl rfl wd1379 d181_14, List.forall_mem_cons.mpr ⟨snd_vret rfl d181_17, fun _ h => by cases h⟩⟩⟩⟩⟩⟩⟩⟩⟩⟩
theorem d182_0 : decode (mC M182) 0 = .ok (.lconst 0, 1) := by decide +kernel
theorem d182_1 : decode (mC M182) 1 = .ok (.lstore_n 2, 1) := by decide +kernel
theorem d182_2 : decode (mC M182) 2 = .ok (.iconst 0, 1) := by decide +kernel
theorem d182_3 : decode (mC M182) 3 = .ok (.istore 4, 2) := by decide +kernel
theorem d182_5 : decode (mC M182) 5 = .ok (.iload 4, 2) := by decide +kernel
theorem d182_7 : decode (mC M182) 7 = .ok (.aload_n 1, 1) := by decide +kernel
theorem d182_8 : decode (mC M182) 8 = .ok (.invokevirtual 116, 3) := by decide +kernel
theorem d182_11 : decode (mC M182) 11 = .ok (.if_icmp .ge 22, 3) := by decide +kernel
theorem d182_14 : decode (mC M182) 14 = .ok (.lload_n 2, 1) := by decide +kernel
theorem d182_15 : decode (mC M182) 15 = .ok (.bipush 8, 2) := by decide +kernel
theorem d182_17 : decode (mC M182) 17 = .ok (.lshl, 1) := by decide +kernel
theorem d182_18 : decode (mC M182) 18 = .ok (.aload_n 1, 1) := by decide +kernel
theorem d182_19 : decode (mC M182) 19 = .ok (.iload 4, 2) := by decide +kernel
theorem d182_21 : decode (mC M182) 21 = .ok (.invokevirtual 122, 3) := by decide +kernel
theorem d182_24 : decode (mC M182) 24 = .ok (.i2l, 1) := by decide +kernel
theorem d182_25 : decode (mC M182) 25 = .ok (.lor, 1) := by decide +kernel
theorem d182_26 : decode (mC M182) 26 = .ok (.lstore_n 2, 1) := by decide +kernel
theorem d182_27 : decode (mC M182) 27 = .ok (.iinc 4 1, 3) := by decide +kernel
theorem d182_30 : decode (mC M182) 30 = .ok (.goto (-25), 3) := by decide +kernel
theorem d182_33 : decode (mC M182) 33 = .ok (.aload_n 0, 1) := by decide +kernel
theorem d182_34 : decode (mC M182) 34 = .ok (.getfield 92, 3) := by decide +kernel
theorem d182_37 : decode (mC M182) 37 = .ok (.iconst 2, 1) := by decide +kernel
theorem d182_38 : decode (mC M182) 38 = .ok (.if_icmp .ne 16, 3) := by decide +kernel
theorem d182_41 : decode (mC M182) 41 = .ok (.aload_n 0, 1) := by decide +kernel
theorem d182_42 : decode (mC M182) 42 = .ok (.getfield 109, 3) := by decide +kernel
theorem d182_45 : decode (mC M182) 45 = .ok (.lload_n 2, 1) := by decide +kernel
theorem d182_46 : decode (mC M182) 46 = .ok (.lcmp, 1) := by decide +kernel
theorem d182_47 : decode (mC M182) 47 = .ok (.ifCond .ne 7, 3) := by decide +kernel
theorem d182_50 : decode (mC M182) 50 = .ok (.iconst 1, 1) := by decide +kernel
theorem d182_51 : decode (mC M182) 51 = .ok (.goto 4, 3) := by decide +kernel
theorem d182_54 : decode (mC M182) 54 = .ok (.iconst 0, 1) := by decide +kernel
theorem d182_55 : decode (mC M182) 55 = .ok (.ireturn, 1) := by decide +kernel
theorem sc182_0 : ∀ q ∈ tc182_0, Snd xtb M182 q.1 q.2 := List.forall_mem_cons.mpr ⟨snd_lconst d182_0 (by decide +kernel), List.forall_mem_cons.mpr ⟨snd_lstore_n d182_1 rfl, List.forall_mem_cons.mpr ⟨snd_iconst d182_2 (by decide +kernel), List.forall_mem_cons.mpr ⟨snd_istore d182_3, List.forall_mem_cons.mpr ⟨snd_iload d182_5, List.forall_mem_cons.mpr ⟨snd_aload_n d182_7 rfl, List.forall_mem_cons.mpr ⟨snd_tl (by decide) (by decide) wd1516 d182_8, List.forall_mem_cons.mpr ⟨snd_cmp_ge d182_11 (by decide), List.forall_mem_cons.mpr ⟨snd_lload_n d182_14 rfl, List.forall_mem_cons.mpr ⟨snd_bipush d182_15 (by decide +kernel), List.forall_mem_cons.mpr ⟨snd_lshl d182_17, List.forall_mem_cons.mpr ⟨snd_aload_n d182_18 rfl, List.forall_mem_cons.mpr ⟨snd_iload d182_19, List.forall_mem_cons.mpr ⟨snd_tc (by decide) (by decide) wd1517 d182_21, List.forall_mem_cons.mpr ⟨snd_i2l d182_24, List.forall_mem_cons.mpr ⟨snd_lor d182_25, List.forall_mem_cons.mpr ⟨snd_lstore_n d182_26 rfl, List.forall_mem_cons.mpr ⟨snd_iinc d182_27 (by decide +kernel), List.forall_mem_cons.mpr ⟨snd_goto d182_30 (by decide), List.forall_mem_cons.mpr ⟨snd_aload_n d182_33 rfl, List.forall_mem_cons.mpr ⟨snd_getI (by decide) (by decide) rfl wd1379 d182_34, List.forall_mem_cons.mpr ⟨snd_iconst d182_37 (by decide +kernel), List.forall_mem_cons.mpr ⟨snd_cmp_ne d182_38 (by decide), List.forall_mem_cons.mpr ⟨snd_aload_n d182_41 rfl, List.forall_mem_cons.mpr ⟨snd_getJ (by decide) (by decide) rfl wd1383 d182_42, List.forall_mem_cons.mpr ⟨snd_lload_n d182_45 rfl, List.forall_mem_cons.mpr ⟨snd_lcmp d182_46, List.forall_mem_cons.mpr ⟨snd_if_ne d182_47 (by decide), List.forall_mem_cons.mpr ⟨snd_iconst d182_50 (by decide +kernel), List.forall_mem_cons.mpr ⟨snd_goto d182_51 (by decide), fun _ h => by cases h⟩⟩⟩⟩⟩⟩⟩⟩⟩⟩⟩⟩⟩⟩⟩⟩⟩⟩⟩⟩⟩⟩⟩⟩⟩⟩⟩⟩⟩⟩
theorem sc182_1 : ∀ q ∈ tc182_1, Snd xtb M182 q.1 q.2 := List.forall_mem_cons.mpr ⟨snd_iconst d182_54 (by decide +kernel), List.forall_mem_cons.mpr ⟨snd_zret rfl d182_55, fun _ h => by cases h⟩⟩
theorem d183_0 : decode (mC M183) 0 = .ok (.aload_n 0, 1) := by decide +kernel
theorem d183_1 : decode (mC M183) 1 = .ok (.aload_n 1, 1) := by decide +kernel
theorem d183_2 : decode (mC M183) 2 = .ok (.invokevirtual 126, 3) := by decide +kernel
theorem d183_5 : decode (mC M183) 5 = .ok (.istore_n 2, 1) := by decide +kernel
theorem d183_6 : decode (mC M183) 6 = .ok (.iload_n 2, 1) := by decide +kernel
theorem d183_7 : decode (mC M183) 7 = .ok (.ifCond .eq 7, 3) := by decide +kernel
theorem d183_10 : decode (mC M183) 10 = .ok (.aload_n 0, 1) := by decide +kernel
theorem d183_11 : decode (mC M183) 11 = .ok (.invokevirtual 130, 3) := by decide +kernel
theorem d183_14 : decode (mC M183) 14 = .ok (.iload_n 2, 1) := by decide +kernel
theorem d183_15 : decode (mC M183) 15 = .ok (.ireturn, 1) := by decide +kernel
theorem sc183_0 : ∀ q ∈ tc183_0, Snd xtb M183 q.1 q.2 := List.forall_mem_cons.mpr ⟨snd_aload_n d183_0 rfl, List.forall_mem_cons.mpr ⟨snd_aload_n d183_1 rfl, List.forall_mem_cons.mpr ⟨snd_callV (by decide) rfl cn182 ⟨by decide +kernel, by decide +kernel⟩ cm182 (List.forall_mem_cons.mpr ⟨wd1512, cw182⟩) d183_2, List.forall_mem_cons.mpr ⟨snd_istore_n d183_5 rfl, List.forall_mem_cons.mpr ⟨snd_iload_n d183_6 rfl, List.forall_mem_cons.mpr ⟨snd_if_eq d183_7 (by decide), List.forall_mem_cons.mpr ⟨snd_aload_n d183_10 rfl, List.forall_mem_cons.mpr ⟨snd_callV (by decide) rfl cn177 ⟨by decide +kernel, by decide +kernel⟩ cm177 (List.forall_mem_cons.mpr ⟨wd1484, cw177⟩) d183_11, List.forall_mem_cons.mpr ⟨snd_iload_n d183_14 rfl, List.forall_mem_cons.mpr ⟨snd_zret rfl d183_15, fun _ h => by cases h⟩⟩⟩⟩⟩⟩⟩⟩⟩⟩
theorem d184_0 : decode (mC M184) 0 = .ok (.aload_n 0, 1) := by decide +kernel
theorem d184_1 : decode (mC M184) 1 = .ok (.getfield 92, 3) := by decide +kernel
theorem d184_4 : decode (mC M184) 4 = .ok (.iconst 3, 1) := by decide +kernel
theorem d184_5 : decode (mC M184) 5 = .ok (.if_icmp .eq 11, 3) := by decide +kernel
theorem d184_8 : decode (mC M184) 8 = .ok (.aload_n 0, 1) := by decide +kernel
theorem d184_9 : decode (mC M184) 9 = .ok (.iconst 1, 1) := by decide +kernel
theorem d184_10 : decode (mC M184) 10 = .ok (.invokevirtual 133, 3) := by decide +kernel
theorem d184_13 : decode (mC M184) 13 = .ok (.goto 20, 3) := by decide +kernel
theorem d184_16 : decode (mC M184) 16 = .ok (.aload_n 0, 1) := by decide +kernel
theorem d184_17 : decode (mC M184) 17 = .ok (.getfield 113, 3) := by decide +kernel
theorem d184_20 : decode (mC M184) 20 = .ok (.iload_n 1, 1) := by decide +kernel
theorem d184_21 : decode (mC M184) 21 = .ok (.iload_n 2, 1) := by decide +kernel
theorem d184_22 : decode (mC M184) 22 = .ok (.invokestatic 95, 3) := by decide +kernel
theorem d184_25 : decode (mC M184) 25 = .ok (.ifCond .ne 8, 3) := by decide +kernel
theorem d184_28 : decode (mC M184) 28 = .ok (.aload_n 0, 1) := by decide +kernel
theorem d184_29 : decode (mC M184) 29 = .ok (.iconst 4, 1) := by decide +kernel
theorem d184_30 : decode (mC M184) 30 = .ok (.invokevirtual 133, 3) := by decide +kernel
theorem d184_33 : decode (mC M184) 33 = .ok (.aload_n 0, 1) := by decide +kernel
theorem d184_34 : decode (mC M184) 34 = .ok (.getfield 113, 3) := by decide +kernel
theorem d184_37 : decode (mC M184) 37 = .ok (.istore_n 3, 1) := by decide +kernel
theorem d184_38 : decode (mC M184) 38 = .ok (.aload_n 0, 1) := by decide +kernel
theorem d184_39 : decode (mC M184) 39 = .ok (.invokevirtual 130, 3) := by decide +kernel
theorem d184_42 : decode (mC M184) 42 = .ok (.aload_n 0, 1) := by decide +kernel
theorem d184_43 : decode (mC M184) 43 = .ok (.getfield 80, 3) := by decide +kernel
theorem d184_46 : decode (mC M184) 46 = .ok (.ifCond .le 7, 3) := by decide +kernel
theorem d184_49 : decode (mC M184) 49 = .ok (.iload_n 1, 1) := by decide +kernel
theorem d184_50 : decode (mC M184) 50 = .ok (.goto 4, 3) := by decide +kernel
theorem d184_53 : decode (mC M184) 53 = .ok (.iload_n 3, 1) := by decide +kernel
theorem d184_54 : decode (mC M184) 54 = .ok (.ireturn, 1) := by decide +kernel
theorem sc184_0 : ∀ q ∈ tc184_0, Snd xtb M184 q.1 q.2 := List.forall_mem_cons.mpr ⟨snd_aload_n d184_0 rfl, List.forall_mem_cons.mpr ⟨snd_getI (by decide) (by decide) rfl wd1379 d184_1, List.forall_mem_cons.mpr ⟨snd_iconst d184_4 (by decide +kernel), List.forall_mem_cons.mpr ⟨snd_cmp_eq d184_5 (by decide), List.forall_mem_cons.mpr ⟨snd_aload_n d184_8 rfl, List.forall_mem_cons.mpr ⟨snd_iconst d184_9 (by decide +kernel), List.forall_mem_cons.mpr ⟨snd_callV (by decide) rfl cn181 ⟨by decide +kernel, by decide +kernel⟩ cm181 (List.forall_mem_cons.mpr ⟨wd1522, cw181⟩) d184_10, List.forall_mem_cons.mpr ⟨snd_goto d184_13 (by decide), List.forall_mem_cons.mpr ⟨snd_aload_n d184_16 rfl, List.forall_mem_cons.mpr ⟨snd_getI (by decide) (by decide) rfl wd1381 d184_17, List.forall_mem_cons.mpr ⟨snd_iload_n d184_20 rfl, List.forall_mem_cons.mpr ⟨snd_iload_n d184_21 rfl, List.forall_mem_cons.mpr ⟨snd_callS cn175 ⟨by decide +kernel, by decide +kernel⟩ cm175 (List.forall_mem_cons.mpr ⟨wd1492, cw175⟩) d184_22, List.forall_mem_cons.mpr ⟨snd_if_ne d184_25 (by decide), List.forall_mem_cons.mpr ⟨snd_aload_n d184_28 rfl, List.forall_mem_cons.mpr ⟨snd_iconst d184_29 (by decide +kernel), List.forall_mem_cons.mpr ⟨snd_callV (by decide) rfl cn181 ⟨by decide +kernel, by decide +kernel⟩ cm181 (List.forall_mem_cons.mpr ⟨wd1522, cw181⟩) d184_30, List.forall_mem_cons.mpr ⟨snd_aload_n d184_33 rfl, List.forall_mem_cons.mpr ⟨snd_getI (by decide) (by decide) rfl wd1381 d184_34, List.forall_mem_cons.mpr ⟨snd_istore_n d184_37 rfl, List.forall_mem_cons.mpr ⟨snd_aload_n d184_38 rfl, List.forall_mem_cons.mpr ⟨snd_callV (by decide) rfl cn177 ⟨by decide +kernel, by decide +kernel⟩ cm177 (List.forall_mem_cons.mpr ⟨wd1484, cw177⟩) d184_39, List.forall_mem_cons.mpr ⟨snd_aload_n d184_42 rfl, List.forall_mem_cons.mpr ⟨snd_getI (by decide) (by decide) rfl wd1382 d184_43, List.forall_mem_cons.mpr ⟨snd_if_le d184_46 (by decide), List.forall_mem_cons.mpr ⟨snd_iload_n d184_49 rfl, List.forall_mem_cons.mpr ⟨snd_goto d184_50 (by decide), List.forall_mem_cons.mpr ⟨snd_iload_n d184_53 rfl, List.forall_mem_cons.mpr ⟨snd_iret rfl d184_54, fun _ h => by cases h⟩⟩⟩⟩⟩⟩⟩⟩⟩⟩⟩⟩⟩⟩⟩⟩⟩⟩⟩⟩⟩⟩⟩⟩⟩⟩⟩⟩⟩
theorem d185_0 : decode (mC M185) 0 = .ok (.aload_n 0, 1) := by decide +kernel
theorem d185_1 : decode (mC M185) 1 = .ok (.aload_n 1, 1) := by decide +kernel
theorem d185_2 : decode (mC M185) 2 = .ok (.invokevirtual 136, 3) := by decide +kernel
theorem d185_5 : decode (mC M185) 5 = .ok (.ifCond .ne 8, 3) := by decide +kernel
theorem d185_8 : decode (mC M185) 8 = .ok (.aload_n 0, 1) := by decide +kernel
theorem d185_9 : decode (mC M185) 9 = .ok (.iconst 1, 1) := by decide +kernel
theorem d185_10 : decode (mC M185) 10 = .ok (.invokevirtual 133, 3) := by decide +kernel
theorem d185_13 : decode (mC M185) 13 = .ok (.aload_n 0, 1) := by decide +kernel
theorem d185_14 : decode (mC M185) 14 = .ok (.iload_n 2, 1) := by decide +kernel
theorem d185_15 : decode (mC M185) 15 = .ok (.iload_n 3, 1) := by decide +kernel
theorem d185_16 : decode (mC M185) 16 = .ok (.invokevirtual 139, 3) := by decide +kernel
theorem d185_19 : decode (mC M185) 19 = .ok (.ireturn, 1) := by decide +kernel
theorem sc185_0 : ∀ q ∈ tc185_0, Snd xtb M185 q.1 q.2 := List.forall_mem_cons.mpr ⟨snd_aload_n d185_0 rfl, List.forall_mem_cons.mpr ⟨snd_aload_n d185_1 rfl, List.forall_mem_cons.mpr ⟨snd_callV (by decide) rfl cn183 ⟨by decide +kernel, by decide +kernel⟩ cm183 (List.forall_mem_cons.mpr ⟨wd1531, cw183⟩) d185_2, List.forall_mem_cons.mpr ⟨snd_if_ne d185_5 (by decide), List.forall_mem_cons.mpr ⟨snd_aload_n d185_8 rfl, List.forall_mem_cons.mpr ⟨snd_iconst d185_9 (by decide +kernel), List.forall_mem_cons.mpr ⟨snd_callV (by decide) rfl cn181 ⟨by decide +kernel, by decide +kernel⟩ cm181 (List.forall_mem_cons.mpr ⟨wd1522, cw181⟩) d185_10, List.forall_mem_cons.mpr ⟨snd_aload_n d185_13 rfl, List.forall_mem_cons.mpr ⟨snd_iload_n d185_14 rfl, List.forall_mem_cons.mpr ⟨snd_iload_n d185_15 rfl, List.forall_mem_cons.mpr ⟨snd_callV (by decide) rfl cn184 ⟨by decide +kernel, by decide +kernel⟩ cm184 (List.forall_mem_cons.mpr ⟨wd1535, cw184⟩) d185_16, List.forall_mem_cons.mpr ⟨snd_iret rfl d185_19, fun _ h => by cases h⟩⟩⟩⟩⟩⟩⟩⟩⟩⟩⟩⟩
theorem d186_0 : decode (mC M186) 0 = .ok (.aload_n 0, 1) := by decide +kernel
theorem d186_1 : decode (mC M186) 1 = .ok (.getfield 92, 3) := by decide +kernel
theorem d186_4 : decode (mC M186) 4 = .ok (.iconst 2, 1) := by decide +kernel
theorem d186_5 : decode (mC M186) 5 = .ok (.if_icmp .ne 97, 3) := by decide +kernel
theorem d186_8 : decode (mC M186) 8 = .ok (.aload_n 0, 1) := by decide +kernel
theorem d186_9 : decode (mC M186) 9 = .ok (.ldc 143, 2) := by decide +kernel
theorem d186_11 : decode (mC M186) 11 = .ok (.invokevirtual 126, 3) := by decide +kernel
theorem d186_14 : decode (mC M186) 14 = .ok (.ifCond .ne 88, 3) := by decide +kernel
theorem d186_17 : decode (mC M186) 17 = .ok (.aload_n 0, 1) := by decide +kernel
theorem d186_18 : decode (mC M186) 18 = .ok (.ldc 145, 2) := by decide +kernel
theorem d186_20 : decode (mC M186) 20 = .ok (.invokevirtual 126, 3) := by decide +kernel
theorem d186_23 : decode (mC M186) 23 = .ok (.ifCond .ne 79, 3) := by decide +kernel
theorem d186_26 : decode (mC M186) 26 = .ok (.aload_n 0, 1) := by decide +kernel
theorem d186_27 : decode (mC M186) 27 = .ok (.ldc 147, 2) := by decide +kernel
theorem d186_29 : decode (mC M186) 29 = .ok (.invokevirtual 126, 3) := by decide +kernel
theorem d186_32 : decode (mC M186) 32 = .ok (.ifCond .ne 70, 3) := by decide +kernel
theorem d186_35 : decode (mC M186) 35 = .ok (.aload_n 0, 1) := by decide +kernel
theorem d186_36 : decode (mC M186) 36 = .ok (.ldc 149, 2) := by decide +kernel
theorem d186_38 : decode (mC M186) 38 = .ok (.invokevirtual 126, 3) := by decide +kernel
theorem d186_41 : decode (mC M186) 41 = .ok (.ifCond .ne 61, 3) := by decide +kernel
theorem d186_44 : decode (mC M186) 44 = .ok (.aload_n 0, 1) := by decide +kernel
theorem d186_45 : decode (mC M186) 45 = .ok (.ldc 151, 2) := by decide +kernel
theorem d186_47 : decode (mC M186) 47 = .ok (.invokevirtual 126, 3) := by decide +kernel
theorem d186_50 : decode (mC M186) 50 = .ok (.ifCond .ne 52, 3) := by decide +kernel
theorem d186_53 : decode (mC M186) 53 = .ok (.aload_n 0, 1) := by decide +kernel
theorem d186_54 : decode (mC M186) 54 = .ok (.ldc 153, 2) := by decide +kernel
theorem d186_56 : decode (mC M186) 56 = .ok (.invokevirtual 126, 3) := by decide +kernel
theorem d186_59 : decode (mC M186) 59 = .ok (.ifCond .ne 43, 3) := by decide +kernel
theorem d186_62 : decode (mC M186) 62 = .ok (.aload_n 0, 1) := by decide +kernel
theorem d186_63 : decode (mC M186) 63 = .ok (.ldc 155, 2) := by decide +kernel
theorem d186_65 : decode (mC M186) 65 = .ok (.invokevirtual 126, 3) := by decide +kernel
theorem d186_68 : decode (mC M186) 68 = .ok (.ifCond .ne 34, 3) := by decide +kernel
theorem d186_71 : decode (mC M186) 71 = .ok (.aload_n 0, 1) := by decide +kernel
theorem d186_72 : decode (mC M186) 72 = .ok (.ldc 157, 2) := by decide +kernel
theorem d186_74 : decode (mC M186) 74 = .ok (.invokevirtual 126, 3) := by decide +kernel
theorem d186_77 : decode (mC M186) 77 = .ok (.ifCond .ne 25, 3) := by decide +kernel
theorem d186_80 : decode (mC M186) 80 = .ok (.aload_n 0, 1) := by decide +kernel
theorem d186_81 : decode (mC M186) 81 = .ok (.ldc 159, 2) := by decide +kernel
theorem d186_83 : decode (mC M186) 83 = .ok (.invokevirtual 126, 3) := by decide +kernel
theorem d186_86 : decode (mC M186) 86 = .ok (.ifCond .ne 16, 3) := by decide +kernel
theorem d186_89 : decode (mC M186) 89 = .ok (.aload_n 0, 1) := by decide +kernel
theorem d186_90 : decode (mC M186) 90 = .ok (.ldc 161, 2) := by decide +kernel
theorem d186_92 : decode (mC M186) 92 = .ok (.invokevirtual 126, 3) := by decide +kernel
theorem d186_95 : decode (mC M186) 95 = .ok (.ifCond .ne 7, 3) := by decide +kernel
theorem d186_98 : decode (mC M186) 98 = .ok (.iconst 1, 1) := by decide +kernel
theorem d186_99 : decode (mC M186) 99 = .ok (.goto 4, 3) := by decide +kernel
theorem d186_102 : decode (mC M186) 102 = .ok (.iconst 0, 1) := by decide +kernel
theorem d186_103 : decode (mC M186) 103 = .ok (.ireturn, 1) := by decide +kernel
theorem sc186_0 : ∀ q ∈ tc186_0, Snd xtb M186 q.1 q.2 := List.forall_mem_cons.mpr ⟨snd_aload_n d186_0 rfl, List.forall_mem_cons.mpr ⟨snd_getI (by decide) (by decide) rfl wd1379 d186_1, List.forall_mem_cons.mpr ⟨snd_iconst d186_4 (by decide +kernel), List.forall_mem_cons.mpr ⟨snd_cmp_ne d186_5 (by decide), List.forall_mem_cons.mpr ⟨snd_aload_n d186_8 rfl, List.forall_mem_cons.mpr ⟨snd_ldcS (tx := "desk") d186_9 (by decide +kernel), List.forall_mem_cons.mpr ⟨snd_callV (by decide) rfl cn182 ⟨by decide +kernel, by decide +kernel⟩ cm182 (List.forall_mem_cons.mpr ⟨wd1512, cw182⟩) d186_11, List.forall_mem_cons.mpr ⟨snd_if_ne d186_14 (by decide), List.forall_mem_cons.mpr ⟨snd_aload_n d186_17 rfl, List.forall_mem_cons.mpr ⟨snd_ldcS (tx := "class") d186_18 (by decide +kernel), List.forall_mem_cons.mpr ⟨snd_callV (by decide) rfl cn182 ⟨by decide +kernel, by decide +kernel⟩ cm182 (List.forall_mem_cons.mpr ⟨wd1512, cw182⟩) d186_20, List.forall_mem_cons.mpr ⟨snd_if_ne d186_23 (by decide), List.forall_mem_cons.mpr ⟨snd_aload_n d186_26 rfl, List.forall_mem_cons.mpr ⟨snd_ldcS (tx := "place") d186_27 (by decide +kernel), List.forall_mem_cons.mpr ⟨snd_callV (by decide) rfl cn182 ⟨by decide +kernel, by decide +kernel⟩ cm182 (List.forall_mem_cons.mpr ⟨wd1512, cw182⟩) d186_29, List.forall_mem_cons.mpr ⟨snd_if_ne d186_32 (by decide), List.forall_mem_cons.mpr ⟨snd_aload_n d186_35 rfl, List.forall_mem_cons.mpr ⟨snd_ldcS (tx := "bound") d186_36 (by decide +kernel), List.forall_mem_cons.mpr ⟨snd_callV (by decide) rfl cn182 ⟨by decide +kernel, by decide +kernel⟩ cm182 (List.forall_mem_cons.mpr ⟨wd1512, cw182⟩) d186_38, List.forall_mem_cons.mpr ⟨snd_if_ne d186_41 (by decide), List.forall_mem_cons.mpr ⟨snd_aload_n d186_44 rfl, List.forall_mem_cons.mpr ⟨snd_ldcS (tx := "rate") d186_45 (by decide +kernel), List.forall_mem_cons.mpr ⟨snd_callV (by decide) rfl cn182 ⟨by decide +kernel, by decide +kernel⟩ cm182 (List.forall_mem_cons.mpr ⟨wd1512, cw182⟩) d186_47, List.forall_mem_cons.mpr ⟨snd_if_ne d186_50 (by decide), List.forall_mem_cons.mpr ⟨snd_aload_n d186_53 rfl, List.forall_mem_cons.mpr ⟨snd_ldcS (tx := "holiday") d186_54 (by decide +kernel), List.forall_mem_cons.mpr ⟨snd_callV (by decide) rfl cn182 ⟨by decide +kernel, by decide +kernel⟩ cm182 (List.forall_mem_cons.mpr ⟨wd1512, cw182⟩) d186_56, List.forall_mem_cons.mpr ⟨snd_if_ne d186_59 (by decide), List.forall_mem_cons.mpr ⟨snd_aload_n d186_62 rfl, List.forall_mem_cons.mpr ⟨snd_ldcS (tx := "cap") d186_63 (by decide +kernel), fun _ h => by cases h⟩⟩⟩⟩⟩⟩⟩⟩⟩⟩⟩⟩⟩⟩⟩⟩⟩⟩⟩⟩⟩⟩⟩⟩⟩⟩⟩⟩⟩⟩
theorem sc186_1 : ∀ q ∈ tc186_1, Snd xtb M186 q.1 q.2 := List.forall_mem_cons.mpr ⟨snd_callV (by decide) rfl cn182 ⟨by decide +kernel, by decide +kernel⟩ cm182 (List.forall_mem_cons.mpr ⟨wd1512, cw182⟩) d186_65, List.forall_mem_cons.mpr ⟨snd_if_ne d186_68 (by decide), List.forall_mem_cons.mpr ⟨snd_aload_n d186_71 rfl, List.forall_mem_cons.mpr ⟨snd_ldcS (tx := "of") d186_72 (by decide +kernel), List.forall_mem_cons.mpr ⟨snd_callV (by decide) rfl cn182 ⟨by decide +kernel, by decide +kernel⟩ cm182 (List.forall_mem_cons.mpr ⟨wd1512, cw182⟩) d186_74, List.forall_mem_cons.mpr ⟨snd_if_ne d186_77 (by decide), List.forall_mem_cons.mpr ⟨snd_aload_n d186_80 rfl, List.forall_mem_cons.mpr ⟨snd_ldcS (tx := "only") d186_81 (by decide +kernel), List.forall_mem_cons.mpr ⟨snd_callV (by decide) rfl cn182 ⟨by decide +kernel, by decide +kernel⟩ cm182 (List.forall_mem_cons.mpr ⟨wd1512, cw182⟩) d186_83, List.forall_mem_cons.mpr ⟨snd_if_ne d186_86 (by decide), List.forall_mem_cons.mpr ⟨snd_aload_n d186_89 rfl, List.forall_mem_cons.mpr ⟨snd_ldcS (tx := "none") d186_90 (by decide +kernel), List.forall_mem_cons.mpr ⟨snd_callV (by decide) rfl cn182 ⟨by decide +kernel, by decide +kernel⟩ cm182 (List.forall_mem_cons.mpr ⟨wd1512, cw182⟩) d186_92, List.forall_mem_cons.mpr ⟨snd_if_ne d186_95 (by decide), List.forall_mem_cons.mpr ⟨snd_iconst d186_98 (by decide +kernel), List.forall_mem_cons.mpr ⟨snd_goto d186_99 (by decide), List.forall_mem_cons.mpr ⟨snd_iconst d186_102 (by decide +kernel), List.forall_mem_cons.mpr ⟨snd_zret rfl d186_103, fun _ h => by cases h⟩⟩⟩⟩⟩⟩⟩⟩⟩⟩⟩⟩⟩⟩⟩⟩⟩⟩
theorem d187_0 : decode (mC M187) 0 = .ok (.iconst 0, 1) := by decide +kernel
theorem d187_1 : decode (mC M187) 1 = .ok (.istore_n 3, 1) := by decide +kernel
theorem d187_2 : decode (mC M187) 2 = .ok (.iload_n 3, 1) := by decide +kernel
theorem d187_3 : decode (mC M187) 3 = .ok (.iload_n 2, 1) := by decide +kernel
theorem d187_4 : decode (mC M187) 4 = .ok (.if_icmp .ge 22, 3) := by decide +kernel
theorem d187_7 : decode (mC M187) 7 = .ok (.aload_n 1, 1) := by decide +kernel
theorem d187_8 : decode (mC M187) 8 = .ok (.iload_n 3, 1) := by decide +kernel
theorem d187_9 : decode (mC M187) 9 = .ok (.laload, 1) := by decide +kernel
theorem d187_10 : decode (mC M187) 10 = .ok (.aload_n 0, 1) := by decide +kernel
theorem d187_11 : decode (mC M187) 11 = .ok (.getfield 109, 3) := by decide +kernel
theorem d187_14 : decode (mC M187) 14 = .ok (.lcmp, 1) := by decide +kernel
theorem d187_15 : decode (mC M187) 15 = .ok (.ifCond .ne 5, 3) := by decide +kernel
theorem d187_18 : decode (mC M187) 18 = .ok (.iload_n 3, 1) := by decide +kernel
theorem d187_19 : decode (mC M187) 19 = .ok (.ireturn, 1) := by decide +kernel
theorem d187_20 : decode (mC M187) 20 = .ok (.iinc 3 1, 3) := by decide +kernel
theorem d187_23 : decode (mC M187) 23 = .ok (.goto (-21), 3) := by decide +kernel
theorem d187_26 : decode (mC M187) 26 = .ok (.iconst (-1), 1) := by decide +kernel
theorem d187_27 : decode (mC M187) 27 = .ok (.ireturn, 1) := by decide +kernel
theorem sc187_0 : ∀ q ∈ tc187_0, Snd xtb M187 q.1 q.2 := List.forall_mem_cons.mpr ⟨snd_iconst d187_0 (by decide +kernel), List.forall_mem_cons.mpr ⟨snd_istore_n d187_1 rfl, List.forall_mem_cons.mpr ⟨snd_iload_n d187_2 rfl, List.forall_mem_cons.mpr ⟨snd_iload_n d187_3 rfl, List.forall_mem_cons.mpr ⟨snd_cmp_ge d187_4 (by decide), List.forall_mem_cons.mpr ⟨snd_aload_n d187_7 rfl, List.forall_mem_cons.mpr ⟨snd_iload_n d187_8 rfl, List.forall_mem_cons.mpr ⟨snd_lald d187_9, List.forall_mem_cons.mpr ⟨snd_aload_n d187_10 rfl, List.forall_mem_cons.mpr ⟨snd_getJ (by decide) (by decide) rfl wd1383 d187_11, List.forall_mem_cons.mpr ⟨snd_lcmp d187_14, List.forall_mem_cons.mpr ⟨snd_if_ne d187_15 (by decide), List.forall_mem_cons.mpr ⟨snd_iload_n d187_18 rfl, List.forall_mem_cons.mpr ⟨snd_iret rfl d187_19, List.forall_mem_cons.mpr ⟨snd_iinc d187_20 (by decide +kernel), List.forall_mem_cons.mpr ⟨snd_goto d187_23 (by decide), List.forall_mem_cons.mpr ⟨snd_iconst d187_26 (by decide +kernel), List.forall_mem_cons.mpr ⟨snd_iret rfl d187_27, fun _ h => by cases h⟩⟩⟩⟩⟩⟩⟩⟩⟩⟩⟩⟩⟩⟩⟩⟩⟩⟩
theorem d188_0 : decode (mC M188) 0 = .ok (.aload_n 0, 1) := by decide +kernel
theorem d188_1 : decode (mC M188) 1 = .ok (.aload_n 0, 1) := by decide +kernel
theorem d188_2 : decode (mC M188) 2 = .ok (.getfield 20, 3) := by decide +kernel
theorem d188_5 : decode (mC M188) 5 = .ok (.aload_n 0, 1) := by decide +kernel
theorem d188_6 : decode (mC M188) 6 = .ok (.getfield 17, 3) := by decide +kernel
theorem d188_9 : decode (mC M188) 9 = .ok (.iconst 2, 1) := by decide +kernel
theorem d188_10 : decode (mC M188) 10 = .ok (.iaload, 1) := by decide +kernel
theorem d188_11 : decode (mC M188) 11 = .ok (.invokevirtual 163, 3) := by decide +kernel
theorem d188_14 : decode (mC M188) 14 = .ok (.ireturn, 1) := by decide +kernel
theorem sc188_0 : ∀ q ∈ tc188_0, Snd xtb M188 q.1 q.2 := List.forall_mem_cons.mpr ⟨snd_aload_n d188_0 rfl, List.forall_mem_cons.mpr ⟨snd_aload_n d188_1 rfl, List.forall_mem_cons.mpr ⟨snd_getR (by decide) (by decide) rfl wd1372 d188_2, List.forall_mem_cons.mpr ⟨snd_aload_n d188_5 rfl, List.forall_mem_cons.mpr ⟨snd_getR (by decide) (by decide) rfl wd1371 d188_6, List.forall_mem_cons.mpr ⟨snd_iconst d188_9 (by decide +kernel), List.forall_mem_cons.mpr ⟨snd_iald d188_10, List.forall_mem_cons.mpr ⟨snd_callV (by decide) rfl cn187 ⟨by decide +kernel, by decide +kernel⟩ cm187 (List.forall_mem_cons.mpr ⟨wd1569, cw187⟩) d188_11, List.forall_mem_cons.mpr ⟨snd_iret rfl d188_14, fun _ h => by cases h⟩⟩⟩⟩⟩⟩⟩⟩⟩
theorem d189_0 : decode (mC M189) 0 = .ok (.aload_n 0, 1) := by decide +kernel
theorem d189_1 : decode (mC M189) 1 = .ok (.aload_n 0, 1) := by decide +kernel
theorem d189_2 : decode (mC M189) 2 = .ok (.getfield 24, 3) := by decide +kernel
theorem d189_5 : decode (mC M189) 5 = .ok (.aload_n 0, 1) := by decide +kernel
theorem d189_6 : decode (mC M189) 6 = .ok (.getfield 17, 3) := by decide +kernel
theorem d189_9 : decode (mC M189) 9 = .ok (.iconst 3, 1) := by decide +kernel
theorem d189_10 : decode (mC M189) 10 = .ok (.iaload, 1) := by decide +kernel
theorem d189_11 : decode (mC M189) 11 = .ok (.invokevirtual 163, 3) := by decide +kernel
theorem d189_14 : decode (mC M189) 14 = .ok (.ireturn, 1) := by decide +kernel
theorem sc189_0 : ∀ q ∈ tc189_0, Snd xtb M189 q.1 q.2 := List.forall_mem_cons.mpr ⟨snd_aload_n d189_0 rfl, List.forall_mem_cons.mpr ⟨snd_aload_n d189_1 rfl, List.forall_mem_cons.mpr ⟨snd_getR (by decide) (by decide) rfl wd1373 d189_2, List.forall_mem_cons.mpr ⟨snd_aload_n d189_5 rfl, List.forall_mem_cons.mpr ⟨snd_getR (by decide) (by decide) rfl wd1371 d189_6, List.forall_mem_cons.mpr ⟨snd_iconst d189_9 (by decide +kernel), List.forall_mem_cons.mpr ⟨snd_iald d189_10, List.forall_mem_cons.mpr ⟨snd_callV (by decide) rfl cn187 ⟨by decide +kernel, by decide +kernel⟩ cm187 (List.forall_mem_cons.mpr ⟨wd1569, cw187⟩) d189_11, List.forall_mem_cons.mpr ⟨snd_iret rfl d189_14, fun _ h => by cases h⟩⟩⟩⟩⟩⟩⟩⟩⟩
theorem d190_0 : decode (mC M190) 0 = .ok (.aload_n 0, 1) := by decide +kernel
theorem d190_1 : decode (mC M190) 1 = .ok (.invokevirtual 167, 3) := by decide +kernel
theorem d190_4 : decode (mC M190) 4 = .ok (.ifCond .ne 8, 3) := by decide +kernel
theorem d190_7 : decode (mC M190) 7 = .ok (.aload_n 0, 1) := by decide +kernel
theorem d190_8 : decode (mC M190) 8 = .ok (.iconst 1, 1) := by decide +kernel
theorem d190_9 : decode (mC M190) 9 = .ok (.invokevirtual 133, 3) := by decide +kernel
theorem d190_12 : decode (mC M190) 12 = .ok (.aload_n 0, 1) := by decide +kernel
theorem d190_13 : decode (mC M190) 13 = .ok (.getfield 80, 3) := by decide +kernel
theorem d190_16 : decode (mC M190) 16 = .ok (.ifCond .ne 22, 3) := by decide +kernel
theorem d190_19 : decode (mC M190) 19 = .ok (.aload_n 0, 1) := by decide +kernel
theorem d190_20 : decode (mC M190) 20 = .ok (.invokevirtual 171, 3) := by decide +kernel
theorem d190_23 : decode (mC M190) 23 = .ok (.ifCond .ge 10, 3) := by decide +kernel
theorem d190_26 : decode (mC M190) 26 = .ok (.aload_n 0, 1) := by decide +kernel
theorem d190_27 : decode (mC M190) 27 = .ok (.invokevirtual 174, 3) := by decide +kernel
theorem d190_30 : decode (mC M190) 30 = .ok (.ifCond .lt 8, 3) := by decide +kernel
theorem d190_33 : decode (mC M190) 33 = .ok (.aload_n 0, 1) := by decide +kernel
theorem d190_34 : decode (mC M190) 34 = .ok (.iconst 3, 1) := by decide +kernel
theorem d190_35 : decode (mC M190) 35 = .ok (.invokevirtual 133, 3) := by decide +kernel
theorem d190_38 : decode (mC M190) 38 = .ok (.aload_n 0, 1) := by decide +kernel
theorem d190_39 : decode (mC M190) 39 = .ok (.getfield 109, 3) := by decide +kernel
theorem d190_42 : decode (mC M190) 42 = .ok (.lstore_n 1, 1) := by decide +kernel
theorem d190_43 : decode (mC M190) 43 = .ok (.aload_n 0, 1) := by decide +kernel
theorem d190_44 : decode (mC M190) 44 = .ok (.invokevirtual 130, 3) := by decide +kernel
theorem d190_47 : decode (mC M190) 47 = .ok (.lload_n 1, 1) := by decide +kernel
theorem d190_48 : decode (mC M190) 48 = .ok (.lreturn, 1) := by decide +kernel
theorem sc190_0 : ∀ q ∈ tc190_0, Snd xtb M190 q.1 q.2 := List.forall_mem_cons.mpr ⟨snd_aload_n d190_0 rfl, List.forall_mem_cons.mpr ⟨snd_callV (by decide) rfl cn186 ⟨by decide +kernel, by decide +kernel⟩ cm186 (List.forall_mem_cons.mpr ⟨wd1553, cw186⟩) d190_1, List.forall_mem_cons.mpr ⟨snd_if_ne d190_4 (by decide), List.forall_mem_cons.mpr ⟨snd_aload_n d190_7 rfl, List.forall_mem_cons.mpr ⟨snd_iconst d190_8 (by decide +kernel), List.forall_mem_cons.mpr ⟨snd_callV (by decide) rfl cn181 ⟨by decide +kernel, by decide +kernel⟩ cm181 (List.forall_mem_cons.mpr ⟨wd1522, cw181⟩) d190_9, List.forall_mem_cons.mpr ⟨snd_aload_n d190_12 rfl, List.forall_mem_cons.mpr ⟨snd_getI (by decide) (by decide) rfl wd1382 d190_13, List.forall_mem_cons.mpr ⟨snd_if_ne d190_16 (by decide), List.forall_mem_cons.mpr ⟨snd_aload_n d190_19 rfl, List.forall_mem_cons.mpr ⟨snd_callV (by decide) rfl cn188 ⟨by decide +kernel, by decide +kernel⟩ cm188 (List.forall_mem_cons.mpr ⟨wd1565, cw188⟩) d190_20, List.forall_mem_cons.mpr ⟨snd_if_ge d190_23 (by decide), List.forall_mem_cons.mpr ⟨snd_aload_n d190_26 rfl, List.forall_mem_cons.mpr ⟨snd_callV (by decide) rfl cn189 ⟨by decide +kernel, by decide +kernel⟩ cm189 (List.forall_mem_cons.mpr ⟨wd1573, cw189⟩) d190_27, List.forall_mem_cons.mpr ⟨snd_if_lt d190_30 (by decide), List.forall_mem_cons.mpr ⟨snd_aload_n d190_33 rfl, List.forall_mem_cons.mpr ⟨snd_iconst d190_34 (by decide +kernel), List.forall_mem_cons.mpr ⟨snd_callV (by decide) rfl cn181 ⟨by decide +kernel, by decide +kernel⟩ cm181 (List.forall_mem_cons.mpr ⟨wd1522, cw181⟩) d190_35, List.forall_mem_cons.mpr ⟨snd_aload_n d190_38 rfl, List.forall_mem_cons.mpr ⟨snd_getJ (by decide) (by decide) rfl wd1383 d190_39, List.forall_mem_cons.mpr ⟨snd_lstore_n d190_42 rfl, List.forall_mem_cons.mpr ⟨snd_aload_n d190_43 rfl, List.forall_mem_cons.mpr ⟨snd_callV (by decide) rfl cn177 ⟨by decide +kernel, by decide +kernel⟩ cm177 (List.forall_mem_cons.mpr ⟨wd1484, cw177⟩) d190_44, List.forall_mem_cons.mpr ⟨snd_lload_n d190_47 rfl, List.forall_mem_cons.mpr ⟨snd_lret rfl d190_48, fun _ h => by cases h⟩⟩⟩⟩⟩⟩⟩⟩⟩⟩⟩⟩⟩⟩⟩⟩⟩⟩⟩⟩⟩⟩⟩⟩⟩
theorem d191_0 : decode (mC M191) 0 = .ok (.aload_n 0, 1) := by decide +kernel
theorem d191_1 : decode (mC M191) 1 = .ok (.invokevirtual 167, 3) := by decide +kernel
theorem d191_4 : decode (mC M191) 4 = .ok (.ifCond .ne 8, 3) := by decide +kernel
theorem d191_7 : decode (mC M191) 7 = .ok (.aload_n 0, 1) := by decide +kernel
theorem d191_8 : decode (mC M191) 8 = .ok (.iconst 1, 1) := by decide +kernel
theorem d191_9 : decode (mC M191) 9 = .ok (.invokevirtual 133, 3) := by decide +kernel
theorem d191_12 : decode (mC M191) 12 = .ok (.aload_n 0, 1) := by decide +kernel
theorem d191_13 : decode (mC M191) 13 = .ok (.getfield 80, 3) := by decide +kernel
theorem d191_16 : decode (mC M191) 16 = .ok (.ifCond .le 7, 3) := by decide +kernel
theorem d191_19 : decode (mC M191) 19 = .ok (.iconst (-1), 1) := by decide +kernel
theorem d191_20 : decode (mC M191) 20 = .ok (.goto 18, 3) := by decide +kernel
theorem d191_23 : decode (mC M191) 23 = .ok (.iload_n 1, 1) := by decide +kernel
theorem d191_24 : decode (mC M191) 24 = .ok (.ifCond .eq 10, 3) := by decide +kernel
theorem d191_27 : decode (mC M191) 27 = .ok (.aload_n 0, 1) := by decide +kernel
theorem d191_28 : decode (mC M191) 28 = .ok (.invokevirtual 171, 3) := by decide +kernel
theorem d191_31 : decode (mC M191) 31 = .ok (.goto 7, 3) := by decide +kernel
theorem d191_34 : decode (mC M191) 34 = .ok (.aload_n 0, 1) := by decide +kernel
theorem d191_35 : decode (mC M191) 35 = .ok (.invokevirtual 174, 3) := by decide +kernel
theorem d191_38 : decode (mC M191) 38 = .ok (.istore_n 2, 1) := by decide +kernel
theorem d191_39 : decode (mC M191) 39 = .ok (.iload_n 2, 1) := by decide +kernel
theorem d191_40 : decode (mC M191) 40 = .ok (.iconst (-1), 1) := by decide +kernel
theorem d191_41 : decode (mC M191) 41 = .ok (.if_icmp .ne 8, 3) := by decide +kernel
theorem d191_44 : decode (mC M191) 44 = .ok (.aload_n 0, 1) := by decide +kernel
theorem d191_45 : decode (mC M191) 45 = .ok (.iconst 2, 1) := by decide +kernel
theorem d191_46 : decode (mC M191) 46 = .ok (.invokevirtual 133, 3) := by decide +kernel
theorem d191_49 : decode (mC M191) 49 = .ok (.aload_n 0, 1) := by decide +kernel
theorem d191_50 : decode (mC M191) 50 = .ok (.getfield 80, 3) := by decide +kernel
theorem d191_53 : decode (mC M191) 53 = .ok (.ifCond .le 7, 3) := by decide +kernel
theorem d191_56 : decode (mC M191) 56 = .ok (.iconst 0, 1) := by decide +kernel
theorem d191_57 : decode (mC M191) 57 = .ok (.goto 4, 3) := by decide +kernel
theorem d191_60 : decode (mC M191) 60 = .ok (.iload_n 2, 1) := by decide +kernel
theorem d191_61 : decode (mC M191) 61 = .ok (.ireturn, 1) := by decide +kernel
theorem sc191_0 : ∀ q ∈ tc191_0, Snd xtb M191 q.1 q.2 := List.forall_mem_cons.mpr ⟨snd_aload_n d191_0 rfl, List.forall_mem_cons.mpr ⟨snd_callV (by decide) rfl cn186 ⟨by decide +kernel, by decide +kernel⟩ cm186 (List.forall_mem_cons.mpr ⟨wd1553, cw186⟩) d191_1, List.forall_mem_cons.mpr ⟨snd_if_ne d191_4 (by decide), List.forall_mem_cons.mpr ⟨snd_aload_n d191_7 rfl, List.forall_mem_cons.mpr ⟨snd_iconst d191_8 (by decide +kernel), List.forall_mem_cons.mpr ⟨snd_callV (by decide) rfl cn181 ⟨by decide +kernel, by decide +kernel⟩ cm181 (List.forall_mem_cons.mpr ⟨wd1522, cw181⟩) d191_9, List.forall_mem_cons.mpr ⟨snd_aload_n d191_12 rfl, List.forall_mem_cons.mpr ⟨snd_getI (by decide) (by decide) rfl wd1382 d191_13, List.forall_mem_cons.mpr ⟨snd_if_le d191_16 (by decide), List.forall_mem_cons.mpr ⟨snd_iconst d191_19 (by decide +kernel), List.forall_mem_cons.mpr ⟨snd_goto d191_20 (by decide), List.forall_mem_cons.mpr ⟨snd_iload_n d191_23 rfl, List.forall_mem_cons.mpr ⟨snd_if_eq d191_24 (by decide), List.forall_mem_cons.mpr ⟨snd_aload_n d191_27 rfl, List.forall_mem_cons.mpr ⟨snd_callV (by decide) rfl cn188 ⟨by decide +kernel, by decide +kernel⟩ cm188 (List.forall_mem_cons.mpr ⟨wd1565, cw188⟩) d191_28, List.forall_mem_cons.mpr ⟨snd_goto d191_31 (by decide), List.forall_mem_cons.mpr ⟨snd_aload_n d191_34 rfl, List.forall_mem_cons.mpr ⟨snd_callV (by decide) rfl cn189 ⟨by decide +kernel, by decide +kernel⟩ cm189 (List.forall_mem_cons.mpr ⟨wd1573, cw189⟩) d191_35, List.forall_mem_cons.mpr ⟨snd_istore_n d191_38 rfl, List.forall_mem_cons.mpr ⟨snd_iload_n d191_39 rfl, List.forall_mem_cons.mpr ⟨snd_iconst d191_40 (by decide +kernel), List.forall_mem_cons.mpr ⟨snd_cmp_ne d191_41 (by decide), List.forall_mem_cons.mpr ⟨snd_aload_n d191_44 rfl, List.forall_mem_cons.mpr ⟨snd_iconst d191_45 (by decide +kernel), List.forall_mem_cons.mpr ⟨snd_callV (by decide) rfl cn181 ⟨by decide +kernel, by decide +kernel⟩ cm181 (List.forall_mem_cons.mpr ⟨wd1522, cw181⟩) d191_46, List.forall_mem_cons.mpr ⟨snd_aload_n d191_49 rfl, List.forall_mem_cons.mpr ⟨snd_getI (by decide) (by decide) rfl wd1382 d191_50, List.forall_mem_cons.mpr ⟨snd_if_le d191_53 (by decide), List.forall_mem_cons.mpr ⟨snd_iconst d191_56 (by decide +kernel), List.forall_mem_cons.mpr ⟨snd_goto d191_57 (by decide), fun _ h => by cases h⟩⟩⟩⟩⟩⟩⟩⟩⟩⟩⟩⟩⟩⟩⟩⟩⟩⟩⟩⟩⟩⟩⟩⟩⟩⟩⟩⟩⟩⟩
theorem sc191_1 : ∀ q ∈ tc191_1, Snd xtb M191 q.1 q.2 := List.forall_mem_cons.mpr ⟨snd_iload_n d191_60 rfl, List.forall_mem_cons.mpr ⟨snd_iret rfl d191_61, fun _ h => by cases h⟩⟩
theorem d192_0 : decode (mC M192) 0 = .ok (.aload_n 0, 1) := by decide +kernel
theorem d192_1 : decode (mC M192) 1 = .ok (.iload_n 1, 1) := by decide +kernel
theorem d192_2 : decode (mC M192) 2 = .ok (.invokevirtual 177, 3) := by decide +kernel
theorem d192_5 : decode (mC M192) 5 = .ok (.istore_n 2, 1) := by decide +kernel
theorem d192_6 : decode (mC M192) 6 = .ok (.aload_n 0, 1) := by decide +kernel
theorem d192_7 : decode (mC M192) 7 = .ok (.invokevirtual 130, 3) := by decide +kernel
theorem d192_10 : decode (mC M192) 10 = .ok (.iload_n 2, 1) := by decide +kernel
theorem d192_11 : decode (mC M192) 11 = .ok (.ireturn, 1) := by decide +kernel
theorem sc192_0 : ∀ q ∈ tc192_0, Snd xtb M192 q.1 q.2 := List.forall_mem_cons.mpr ⟨snd_aload_n d192_0 rfl, List.forall_mem_cons.mpr ⟨snd_iload_n d192_1 rfl, List.forall_mem_cons.mpr ⟨snd_callV (by decide) rfl cn191 ⟨by decide +kernel, by decide +kernel⟩ cm191 (List.forall_mem_cons.mpr ⟨wd1581, cw191⟩) d192_2, List.forall_mem_cons.mpr ⟨snd_istore_n d192_5 rfl, List.forall_mem_cons.mpr ⟨snd_aload_n d192_6 rfl, List.forall_mem_cons.mpr ⟨snd_callV (by decide) rfl cn177 ⟨by decide +kernel, by decide +kernel⟩ cm177 (List.forall_mem_cons.mpr ⟨wd1484, cw177⟩) d192_7, List.forall_mem_cons.mpr ⟨snd_iload_n d192_10 rfl, List.forall_mem_cons.mpr ⟨snd_iret rfl d192_11, fun _ h => by cases h⟩⟩⟩⟩⟩⟩⟩⟩
theorem d193_0 : decode (mC M193) 0 = .ok (.iconst 0, 1) := by decide +kernel
theorem d193_1 : decode (mC M193) 1 = .ok (.istore_n 1, 1) := by decide +kernel
theorem d193_2 : decode (mC M193) 2 = .ok (.iload_n 1, 1) := by decide +kernel
theorem d193_3 : decode (mC M193) 3 = .ok (.sipush 402, 3) := by decide +kernel
theorem d193_6 : decode (mC M193) 6 = .ok (.if_icmp .ge 16, 3) := by decide +kernel
theorem d193_9 : decode (mC M193) 9 = .ok (.aload_n 0, 1) := by decide +kernel
theorem d193_10 : decode (mC M193) 10 = .ok (.getfield 17, 3) := by decide +kernel
theorem d193_13 : decode (mC M193) 13 = .ok (.iload_n 1, 1) := by decide +kernel
theorem d193_14 : decode (mC M193) 14 = .ok (.iconst 0, 1) := by decide +kernel
theorem d193_15 : decode (mC M193) 15 = .ok (.iastore, 1) := by decide +kernel
theorem d193_16 : decode (mC M193) 16 = .ok (.iinc 1 1, 3) := by decide +kernel
theorem d193_19 : decode (mC M193) 19 = .ok (.goto (-17), 3) := by decide +kernel
theorem d193_22 : decode (mC M193) 22 = .ok (.aload_n 0, 1) := by decide +kernel
theorem d193_23 : decode (mC M193) 23 = .ok (.invokevirtual 130, 3) := by decide +kernel
theorem d193_26 : decode (mC M193) 26 = .ok (.aload_n 0, 1) := by decide +kernel
theorem d193_27 : decode (mC M193) 27 = .ok (.invokevirtual 181, 3) := by decide +kernel
theorem d193_30 : decode (mC M193) 30 = .ok (.aload_n 0, 1) := by decide +kernel
theorem d193_31 : decode (mC M193) 31 = .ok (.getfield 92, 3) := by decide +kernel
theorem d193_34 : decode (mC M193) 34 = .ok (.iconst 4, 1) := by decide +kernel
theorem d193_35 : decode (mC M193) 35 = .ok (.if_icmp .ne 14, 3) := by decide +kernel
theorem d193_38 : decode (mC M193) 38 = .ok (.aload_n 0, 1) := by decide +kernel
theorem d193_39 : decode (mC M193) 39 = .ok (.invokevirtual 130, 3) := by decide +kernel
theorem d193_42 : decode (mC M193) 42 = .ok (.aload_n 0, 1) := by decide +kernel
theorem d193_43 : decode (mC M193) 43 = .ok (.invokevirtual 181, 3) := by decide +kernel
theorem d193_46 : decode (mC M193) 46 = .ok (.goto (-16), 3) := by decide +kernel
theorem d193_49 : decode (mC M193) 49 = .ok (.aload_n 0, 1) := by decide +kernel
theorem d193_50 : decode (mC M193) 50 = .ok (.getfield 92, 3) := by decide +kernel
theorem d193_53 : decode (mC M193) 53 = .ok (.iconst 1, 1) := by decide +kernel
theorem d193_54 : decode (mC M193) 54 = .ok (.if_icmp .eq 8, 3) := by decide +kernel
theorem d193_57 : decode (mC M193) 57 = .ok (.aload_n 0, 1) := by decide +kernel
theorem d193_58 : decode (mC M193) 58 = .ok (.iconst 1, 1) := by decide +kernel
theorem d193_59 : decode (mC M193) 59 = .ok (.invokevirtual 133, 3) := by decide +kernel
theorem d193_62 : decode (mC M193) 62 = .ok (.aload_n 0, 1) := by decide +kernel
theorem d193_63 : decode (mC M193) 63 = .ok (.getfield 80, 3) := by decide +kernel
theorem d193_66 : decode (mC M193) 66 = .ok (.ifCond .ne 36, 3) := by decide +kernel
theorem d193_69 : decode (mC M193) 69 = .ok (.aload_n 0, 1) := by decide +kernel
theorem d193_70 : decode (mC M193) 70 = .ok (.getfield 17, 3) := by decide +kernel
theorem d193_73 : decode (mC M193) 73 = .ok (.iconst 0, 1) := by decide +kernel
theorem d193_74 : decode (mC M193) 74 = .ok (.iaload, 1) := by decide +kernel
theorem d193_75 : decode (mC M193) 75 = .ok (.ifCond .eq 21, 3) := by decide +kernel
theorem d193_78 : decode (mC M193) 78 = .ok (.aload_n 0, 1) := by decide +kernel
theorem d193_79 : decode (mC M193) 79 = .ok (.getfield 17, 3) := by decide +kernel
theorem d193_82 : decode (mC M193) 82 = .ok (.iconst 2, 1) := by decide +kernel
theorem d193_83 : decode (mC M193) 83 = .ok (.iaload, 1) := by decide +kernel
theorem d193_84 : decode (mC M193) 84 = .ok (.ifCond .eq 12, 3) := by decide +kernel
theorem d193_87 : decode (mC M193) 87 = .ok (.aload_n 0, 1) := by decide +kernel
theorem d193_88 : decode (mC M193) 88 = .ok (.getfield 17, 3) := by decide +kernel
theorem d193_91 : decode (mC M193) 91 = .ok (.iconst 3, 1) := by decide +kernel
theorem d193_92 : decode (mC M193) 92 = .ok (.iaload, 1) := by decide +kernel
theorem d193_93 : decode (mC M193) 93 = .ok (.ifCond .ne 9, 3) := by decide +kernel
theorem d193_96 : decode (mC M193) 96 = .ok (.aload_n 0, 1) := by decide +kernel
theorem d193_97 : decode (mC M193) 97 = .ok (.bipush 6, 2) := by decide +kernel
theorem d193_99 : decode (mC M193) 99 = .ok (.invokevirtual 133, 3) := by decide +kernel
theorem d193_102 : decode (mC M193) 102 = .ok (.return_, 1) := by decide +kernel
theorem sc193_0 : ∀ q ∈ tc193_0, Snd xtb M193 q.1 q.2 := List.forall_mem_cons.mpr ⟨snd_iconst d193_0 (by decide +kernel), List.forall_mem_cons.mpr ⟨snd_istore_n d193_1 rfl, List.forall_mem_cons.mpr ⟨snd_iload_n d193_2 rfl, List.forall_mem_cons.mpr ⟨snd_sipush d193_3 (by decide +kernel), List.forall_mem_cons.mpr ⟨snd_cmp_ge d193_6 (by decide), List.forall_mem_cons.mpr ⟨snd_aload_n d193_9 rfl, List.forall_mem_cons.mpr ⟨snd_getR (by decide) (by decide) rfl wd1371 d193_10, List.forall_mem_cons.mpr ⟨snd_iload_n d193_13 rfl, List.forall_mem_cons.mpr ⟨snd_iconst d193_14 (by decide +kernel), List.forall_mem_cons.mpr ⟨snd_iast d193_15, List.forall_mem_cons.mpr ⟨snd_iinc d193_16 (by decide +kernel), List.forall_mem_cons.mpr ⟨snd_goto d193_19 (by decide), List.forall_mem_cons.mpr ⟨snd_aload_n d193_22 rfl, List.forall_mem_cons.mpr ⟨snd_callV (by decide) rfl cn177 ⟨by decide +kernel, by decide +kernel⟩ cm177 (List.forall_mem_cons.mpr ⟨wd1484, cw177⟩) d193_23, List.forall_mem_cons.mpr ⟨snd_aload_n d193_26 rfl, List.forall_mem_cons.mpr ⟨snd_callV (by decide) rfl cn194 ⟨by decide +kernel, by decide +kernel⟩ cm194 (List.forall_mem_cons.mpr ⟨wd1507, cw194⟩) d193_27, List.forall_mem_cons.mpr ⟨snd_aload_n d193_30 rfl, List.forall_mem_cons.mpr ⟨snd_getI (by decide) (by decide) rfl wd1379 d193_31, List.forall_mem_cons.mpr ⟨snd_iconst d193_34 (by decide +kernel), List.forall_mem_cons.mpr ⟨snd_cmp_ne d193_35 (by decide), List.forall_mem_cons.mpr ⟨snd_aload_n d193_38 rfl, List.forall_mem_cons.mpr ⟨snd_callV (by decide) rfl cn177 ⟨by decide +kernel, by decide +kernel⟩ cm177 (List.forall_mem_cons.mpr ⟨wd1484, cw177⟩) d193_39, List.forall_mem_cons.mpr ⟨snd_aload_n d193_42 rfl, List.forall_mem_cons.mpr ⟨snd_callV (by decide) rfl cn194 ⟨by decide +kernel, by decide +kernel⟩ cm194 (List.forall_mem_cons.mpr ⟨wd1507, cw194⟩) d193_43, List.forall_mem_cons.mpr ⟨snd_goto d193_46 (by decide), List.forall_mem_cons.mpr ⟨snd_aload_n d193_49 rfl, List.forall_mem_cons.mpr ⟨snd_getI (by decide) (by decide) rfl wd1379 d193_50, List.forall_mem_cons.mpr ⟨snd_iconst d193_53 (by decide +kernel), List.forall_mem_cons.mpr ⟨snd_cmp_eq d193_54 (by decide), List.forall_mem_cons.mpr ⟨snd_aload_n d193_57 rfl, fun _ h => by cases h⟩⟩⟩⟩⟩⟩⟩⟩⟩⟩⟩⟩⟩⟩⟩⟩⟩⟩⟩⟩⟩⟩⟩⟩⟩⟩⟩⟩⟩⟩
theorem sc193_1 : ∀ q ∈ tc193_1, Snd xtb M193 q.1 q.2 := List.forall_mem_cons.mpr ⟨snd_iconst d193_58 (by decide +kernel), List.forall_mem_cons.mpr ⟨snd_callV (by decide) rfl cn181 ⟨by decide +kernel, by decide +kernel⟩ cm181 (List.forall_mem_cons.mpr ⟨wd1522, cw181⟩) d193_59, List.forall_mem_cons.mpr ⟨snd_aload_n d193_62 rfl, List.forall_mem_cons.mpr ⟨snd_getI (by decide) (by decide) rfl wd1382 d193_63, List.forall_mem_cons.mpr ⟨snd_if_ne d193_66 (by decide), List.forall_mem_cons.mpr ⟨snd_aload_n d193_69 rfl, List.forall_mem_cons.mpr ⟨snd_getR (by decide) (by decide) rfl wd1371 d193_70, List.forall_mem_cons.mpr ⟨snd_iconst d193_73 (by decide +kernel), List.forall_mem_cons.mpr ⟨snd_iald d193_74, List.forall_mem_cons.mpr ⟨snd_if_eq d193_75 (by decide), List.forall_mem_cons.mpr ⟨snd_aload_n d193_78 rfl, List.forall_mem_cons.mpr ⟨snd_getR (by decide) (by decide) rfl wd1371 d193_79, List.forall_mem_cons.mpr ⟨snd_iconst d193_82 (by decide +kernel), List.forall_mem_cons.mpr ⟨snd_iald d193_83, List.forall_mem_cons.mpr ⟨snd_if_eq d193_84 (by decide), List.forall_mem_cons.mpr ⟨snd_aload_n d193_87 rfl, List.forall_mem_cons.mpr ⟨snd_getR (by decide) (by decide) rfl wd1371 d193_88, List.forall_mem_cons.mpr ⟨snd_iconst d193_91 (by decide +kernel), List.forall_mem_cons.mpr ⟨snd_iald d193_92, List.forall_mem_cons.mpr ⟨snd_if_ne d193_93 (by decide), List.forall_mem_cons.mpr ⟨snd_aload_n d193_96 rfl, List.forall_mem_cons.mpr ⟨snd_bipush d193_97 (by decide +kernel), List.forall_mem_cons.mpr ⟨snd_callV (by decide) rfl cn181 ⟨by decide +kernel, by decide +kernel⟩ cm181 (List.forall_mem_cons.mpr ⟨wd1522, cw181⟩) d193_99, List.forall_mem_cons.mpr ⟨snd_vret rfl d193_102, fun _ h => by cases h⟩⟩⟩⟩⟩⟩⟩⟩⟩⟩⟩⟩⟩⟩⟩⟩⟩⟩⟩⟩⟩⟩⟩⟩
theorem d194_0 : decode (mC M194) 0 = .ok (.aload_n 0, 1) := by decide +kernel
theorem d194_1 : decode (mC M194) 1 = .ok (.ldc 143, 2) := by decide +kernel
theorem d194_3 : decode (mC M194) 3 = .ok (.invokevirtual 126, 3) := by decide +kernel
theorem d194_6 : decode (mC M194) 6 = .ok (.ifCond .eq 10, 3) := by decide +kernel
theorem d194_9 : decode (mC M194) 9 = .ok (.aload_n 0, 1) := by decide +kernel
theorem d194_10 : decode (mC M194) 10 = .ok (.invokevirtual 184, 3) := by decide +kernel
theorem d194_13 : decode (mC M194) 13 = .ok (.goto 104, 3) := by decide +kernel
theorem d194_16 : decode (mC M194) 16 = .ok (.aload_n 0, 1) := by decide +kernel
theorem d194_17 : decode (mC M194) 17 = .ok (.ldc 145, 2) := by decide +kernel
theorem d194_19 : decode (mC M194) 19 = .ok (.invokevirtual 126, 3) := by decide +kernel
theorem d194_22 : decode (mC M194) 22 = .ok (.ifCond .eq 10, 3) := by decide +kernel
theorem d194_25 : decode (mC M194) 25 = .ok (.aload_n 0, 1) := by decide +kernel
theorem d194_26 : decode (mC M194) 26 = .ok (.invokevirtual 187, 3) := by decide +kernel
theorem d194_29 : decode (mC M194) 29 = .ok (.goto 88, 3) := by decide +kernel
theorem d194_32 : decode (mC M194) 32 = .ok (.aload_n 0, 1) := by decide +kernel
theorem d194_33 : decode (mC M194) 33 = .ok (.ldc 147, 2) := by decide +kernel
theorem d194_35 : decode (mC M194) 35 = .ok (.invokevirtual 126, 3) := by decide +kernel
theorem d194_38 : decode (mC M194) 38 = .ok (.ifCond .eq 10, 3) := by decide +kernel
theorem d194_41 : decode (mC M194) 41 = .ok (.aload_n 0, 1) := by decide +kernel
theorem d194_42 : decode (mC M194) 42 = .ok (.invokevirtual 190, 3) := by decide +kernel
theorem d194_45 : decode (mC M194) 45 = .ok (.goto 72, 3) := by decide +kernel
theorem d194_48 : decode (mC M194) 48 = .ok (.aload_n 0, 1) := by decide +kernel
theorem d194_49 : decode (mC M194) 49 = .ok (.ldc 149, 2) := by decide +kernel
theorem d194_51 : decode (mC M194) 51 = .ok (.invokevirtual 126, 3) := by decide +kernel
theorem d194_54 : decode (mC M194) 54 = .ok (.ifCond .eq 10, 3) := by decide +kernel
theorem d194_57 : decode (mC M194) 57 = .ok (.aload_n 0, 1) := by decide +kernel
theorem d194_58 : decode (mC M194) 58 = .ok (.invokevirtual 193, 3) := by decide +kernel
theorem d194_61 : decode (mC M194) 61 = .ok (.goto 56, 3) := by decide +kernel
theorem d194_64 : decode (mC M194) 64 = .ok (.aload_n 0, 1) := by decide +kernel
theorem d194_65 : decode (mC M194) 65 = .ok (.ldc 151, 2) := by decide +kernel
theorem d194_67 : decode (mC M194) 67 = .ok (.invokevirtual 126, 3) := by decide +kernel
theorem d194_70 : decode (mC M194) 70 = .ok (.ifCond .eq 10, 3) := by decide +kernel
theorem d194_73 : decode (mC M194) 73 = .ok (.aload_n 0, 1) := by decide +kernel
theorem d194_74 : decode (mC M194) 74 = .ok (.invokevirtual 196, 3) := by decide +kernel
theorem d194_77 : decode (mC M194) 77 = .ok (.goto 40, 3) := by decide +kernel
theorem d194_80 : decode (mC M194) 80 = .ok (.aload_n 0, 1) := by decide +kernel
theorem d194_81 : decode (mC M194) 81 = .ok (.ldc 153, 2) := by decide +kernel
theorem d194_83 : decode (mC M194) 83 = .ok (.invokevirtual 126, 3) := by decide +kernel
theorem d194_86 : decode (mC M194) 86 = .ok (.ifCond .eq 10, 3) := by decide +kernel
theorem d194_89 : decode (mC M194) 89 = .ok (.aload_n 0, 1) := by decide +kernel
theorem d194_90 : decode (mC M194) 90 = .ok (.invokevirtual 199, 3) := by decide +kernel
theorem d194_93 : decode (mC M194) 93 = .ok (.goto 24, 3) := by decide +kernel
theorem d194_96 : decode (mC M194) 96 = .ok (.aload_n 0, 1) := by decide +kernel
theorem d194_97 : decode (mC M194) 97 = .ok (.ldc 155, 2) := by decide +kernel
theorem d194_99 : decode (mC M194) 99 = .ok (.invokevirtual 126, 3) := by decide +kernel
theorem d194_102 : decode (mC M194) 102 = .ok (.ifCond .eq 10, 3) := by decide +kernel
theorem d194_105 : decode (mC M194) 105 = .ok (.aload_n 0, 1) := by decide +kernel
theorem d194_106 : decode (mC M194) 106 = .ok (.invokevirtual 202, 3) := by decide +kernel
theorem d194_109 : decode (mC M194) 109 = .ok (.goto 8, 3) := by decide +kernel
theorem d194_112 : decode (mC M194) 112 = .ok (.aload_n 0, 1) := by decide +kernel
theorem d194_113 : decode (mC M194) 113 = .ok (.iconst 1, 1) := by decide +kernel
theorem d194_114 : decode (mC M194) 114 = .ok (.invokevirtual 133, 3) := by decide +kernel
theorem d194_117 : decode (mC M194) 117 = .ok (.return_, 1) := by decide +kernel
theorem sc194_0 : ∀ q ∈ tc194_0, Snd xtb M194 q.1 q.2 := List.forall_mem_cons.mpr ⟨snd_aload_n d194_0 rfl, List.forall_mem_cons.mpr ⟨snd_ldcS (tx := "desk") d194_1 (by decide +kernel), List.forall_mem_cons.mpr ⟨snd_callV (by decide) rfl cn182 ⟨by decide +kernel, by decide +kernel⟩ cm182 (List.forall_mem_cons.mpr ⟨wd1512, cw182⟩) d194_3, List.forall_mem_cons.mpr ⟨snd_if_eq d194_6 (by decide), List.forall_mem_cons.mpr ⟨snd_aload_n d194_9 rfl, List.forall_mem_cons.mpr ⟨snd_callV (by decide) rfl cn195 ⟨by decide +kernel, by decide +kernel⟩ cm195 (List.forall_mem_cons.mpr ⟨wd1518, cw195⟩) d194_10, List.forall_mem_cons.mpr ⟨snd_goto d194_13 (by decide), List.forall_mem_cons.mpr ⟨snd_aload_n d194_16 rfl, List.forall_mem_cons.mpr ⟨snd_ldcS (tx := "class") d194_17 (by decide +kernel), List.forall_mem_cons.mpr ⟨snd_callV (by decide) rfl cn182 ⟨by decide +kernel, by decide +kernel⟩ cm182 (List.forall_mem_cons.mpr ⟨wd1512, cw182⟩) d194_19, List.forall_mem_cons.mpr ⟨snd_if_eq d194_22 (by decide), List.forall_mem_cons.mpr ⟨snd_aload_n d194_25 rfl, List.forall_mem_cons.mpr ⟨snd_callV (by decide) rfl cn197 ⟨by decide +kernel, by decide +kernel⟩ cm197 (List.forall_mem_cons.mpr ⟨wd1541, cw197⟩) d194_26, List.forall_mem_cons.mpr ⟨snd_goto d194_29 (by decide), List.forall_mem_cons.mpr ⟨snd_aload_n d194_32 rfl, List.forall_mem_cons.mpr ⟨snd_ldcS (tx := "place") d194_33 (by decide +kernel), List.forall_mem_cons.mpr ⟨snd_callV (by decide) rfl cn182 ⟨by decide +kernel, by decide +kernel⟩ cm182 (List.forall_mem_cons.mpr ⟨wd1512, cw182⟩) d194_35, List.forall_mem_cons.mpr ⟨snd_if_eq d194_38 (by decide), List.forall_mem_cons.mpr ⟨snd_aload_n d194_41 rfl, List.forall_mem_cons.mpr ⟨snd_callV (by decide) rfl cn198 ⟨by decide +kernel, by decide +kernel⟩ cm198 (List.forall_mem_cons.mpr ⟨wd1585, cw198⟩) d194_42, List.forall_mem_cons.mpr ⟨snd_goto d194_45 (by decide), List.forall_mem_cons.mpr ⟨snd_aload_n d194_48 rfl, List.forall_mem_cons.mpr ⟨snd_ldcS (tx := "bound") d194_49 (by decide +kernel), List.forall_mem_cons.mpr ⟨snd_callV (by decide) rfl cn182 ⟨by decide +kernel, by decide +kernel⟩ cm182 (List.forall_mem_cons.mpr ⟨wd1512, cw182⟩) d194_51, List.forall_mem_cons.mpr ⟨snd_if_eq d194_54 (by decide), List.forall_mem_cons.mpr ⟨snd_aload_n d194_57 rfl, List.forall_mem_cons.mpr ⟨snd_callV (by decide) rfl cn201 ⟨by decide +kernel, by decide +kernel⟩ cm201 (List.forall_mem_cons.mpr ⟨wd1590, cw201⟩) d194_58, List.forall_mem_cons.mpr ⟨snd_goto d194_61 (by decide), List.forall_mem_cons.mpr ⟨snd_aload_n d194_64 rfl, List.forall_mem_cons.mpr ⟨snd_ldcS (tx := "rate") d194_65 (by decide +kernel), fun _ h => by cases h⟩⟩⟩⟩⟩⟩⟩⟩⟩⟩⟩⟩⟩⟩⟩⟩⟩⟩⟩⟩⟩⟩⟩⟩⟩⟩⟩⟩⟩⟩
theorem sc194_1 : ∀ q ∈ tc194_1, Snd xtb M194 q.1 q.2 := List.forall_mem_cons.mpr ⟨snd_callV (by decide) rfl cn182 ⟨by decide +kernel, by decide +kernel⟩ cm182 (List.forall_mem_cons.mpr ⟨wd1512, cw182⟩) d194_67, List.forall_mem_cons.mpr ⟨snd_if_eq d194_70 (by decide), List.forall_mem_cons.mpr ⟨snd_aload_n d194_73 rfl, List.forall_mem_cons.mpr ⟨snd_callV (by decide) rfl cn203 ⟨by decide +kernel, by decide +kernel⟩ cm203 (List.forall_mem_cons.mpr ⟨wd1600, cw203⟩) d194_74, List.forall_mem_cons.mpr ⟨snd_goto d194_77 (by decide), List.forall_mem_cons.mpr ⟨snd_aload_n d194_80 rfl, List.forall_mem_cons.mpr ⟨snd_ldcS (tx := "holiday") d194_81 (by decide +kernel), List.forall_mem_cons.mpr ⟨snd_callV (by decide) rfl cn182 ⟨by decide +kernel, by decide +kernel⟩ cm182 (List.forall_mem_cons.mpr ⟨wd1512, cw182⟩) d194_83, List.forall_mem_cons.mpr ⟨snd_if_eq d194_86 (by decide), List.forall_mem_cons.mpr ⟨snd_aload_n d194_89 rfl, List.forall_mem_cons.mpr ⟨snd_callV (by decide) rfl cn205 ⟨by decide +kernel, by decide +kernel⟩ cm205 (List.forall_mem_cons.mpr ⟨wd1610, cw205⟩) d194_90, List.forall_mem_cons.mpr ⟨snd_goto d194_93 (by decide), List.forall_mem_cons.mpr ⟨snd_aload_n d194_96 rfl, List.forall_mem_cons.mpr ⟨snd_ldcS (tx := "cap") d194_97 (by decide +kernel), List.forall_mem_cons.mpr ⟨snd_callV (by decide) rfl cn182 ⟨by decide +kernel, by decide +kernel⟩ cm182 (List.forall_mem_cons.mpr ⟨wd1512, cw182⟩) d194_99, List.forall_mem_cons.mpr ⟨snd_if_eq d194_102 (by decide), List.forall_mem_cons.mpr ⟨snd_aload_n d194_105 rfl, List.forall_mem_cons.mpr ⟨snd_callV (by decide) rfl cn207 ⟨by decide +kernel, by decide +kernel⟩ cm207 (List.forall_mem_cons.mpr ⟨wd1615, cw207⟩) d194_106, List.forall_mem_cons.mpr ⟨snd_goto d194_109 (by decide), List.forall_mem_cons.mpr ⟨snd_aload_n d194_112 rfl, List.forall_mem_cons.mpr ⟨snd_iconst d194_113 (by decide +kernel), List.forall_mem_cons.mpr ⟨snd_callV (by decide) rfl cn181 ⟨by decide +kernel, by decide +kernel⟩ cm181 (List.forall_mem_cons.mpr ⟨wd1522, cw181⟩) d194_114, List.forall_mem_cons.mpr ⟨snd_vret rfl d194_117, fun _ h => by cases h⟩⟩⟩⟩⟩⟩⟩⟩⟩⟩⟩⟩⟩⟩⟩⟩⟩⟩⟩⟩⟩⟩⟩
theorem d195_0 : decode (mC M195) 0 = .ok (.aload_n 0, 1) := by decide +kernel
theorem d195_1 : decode (mC M195) 1 = .ok (.getfield 17, 3) := by decide +kernel
theorem d195_4 : decode (mC M195) 4 = .ok (.iconst 0, 1) := by decide +kernel
theorem d195_5 : decode (mC M195) 5 = .ok (.iaload, 1) := by decide +kernel
theorem d195_6 : decode (mC M195) 6 = .ok (.ifCond .le 8, 3) := by decide +kernel
theorem d195_9 : decode (mC M195) 9 = .ok (.aload_n 0, 1) := by decide +kernel
theorem d195_10 : decode (mC M195) 10 = .ok (.iconst 3, 1) := by decide +kernel
theorem d195_11 : decode (mC M195) 11 = .ok (.invokevirtual 133, 3) := by decide +kernel
theorem d195_14 : decode (mC M195) 14 = .ok (.aload_n 0, 1) := by decide +kernel
theorem d195_15 : decode (mC M195) 15 = .ok (.invokevirtual 130, 3) := by decide +kernel
theorem d195_18 : decode (mC M195) 18 = .ok (.aload_n 0, 1) := by decide +kernel
theorem d195_19 : decode (mC M195) 19 = .ok (.ldc 205, 2) := by decide +kernel
theorem d195_21 : decode (mC M195) 21 = .ok (.iconst 2, 1) := by decide +kernel
theorem d195_22 : decode (mC M195) 22 = .ok (.bipush 40, 2) := by decide +kernel
theorem d195_24 : decode (mC M195) 24 = .ok (.invokevirtual 206, 3) := by decide +kernel
theorem d195_27 : decode (mC M195) 27 = .ok (.istore_n 1, 1) := by decide +kernel
theorem d195_28 : decode (mC M195) 28 = .ok (.aload_n 0, 1) := by decide +kernel
theorem d195_29 : decode (mC M195) 29 = .ok (.ldc 210, 2) := by decide +kernel
theorem d195_31 : decode (mC M195) 31 = .ok (.iconst 1, 1) := by decide +kernel
theorem d195_32 : decode (mC M195) 32 = .ok (.iconst 4, 1) := by decide +kernel
theorem d195_33 : decode (mC M195) 33 = .ok (.invokevirtual 206, 3) := by decide +kernel
theorem d195_36 : decode (mC M195) 36 = .ok (.istore_n 2, 1) := by decide +kernel
theorem d195_37 : decode (mC M195) 37 = .ok (.aload_n 0, 1) := by decide +kernel
theorem d195_38 : decode (mC M195) 38 = .ok (.getfield 80, 3) := by decide +kernel
theorem d195_41 : decode (mC M195) 41 = .ok (.ifCond .le 4, 3) := by decide +kernel
theorem d195_44 : decode (mC M195) 44 = .ok (.return_, 1) := by decide +kernel
theorem d195_45 : decode (mC M195) 45 = .ok (.aload_n 0, 1) := by decide +kernel
theorem d195_46 : decode (mC M195) 46 = .ok (.getfield 17, 3) := by decide +kernel
theorem d195_49 : decode (mC M195) 49 = .ok (.iconst 0, 1) := by decide +kernel
theorem d195_50 : decode (mC M195) 50 = .ok (.iload_n 1, 1) := by decide +kernel
theorem d195_51 : decode (mC M195) 51 = .ok (.iastore, 1) := by decide +kernel
theorem d195_52 : decode (mC M195) 52 = .ok (.aload_n 0, 1) := by decide +kernel
theorem d195_53 : decode (mC M195) 53 = .ok (.getfield 17, 3) := by decide +kernel
theorem d195_56 : decode (mC M195) 56 = .ok (.iconst 1, 1) := by decide +kernel
theorem d195_57 : decode (mC M195) 57 = .ok (.iload_n 2, 1) := by decide +kernel
theorem d195_58 : decode (mC M195) 58 = .ok (.iastore, 1) := by decide +kernel
theorem d195_59 : decode (mC M195) 59 = .ok (.return_, 1) := by decide +kernel
theorem sc195_0 : ∀ q ∈ tc195_0, Snd xtb M195 q.1 q.2 := List.forall_mem_cons.mpr ⟨snd_aload_n d195_0 rfl, List.forall_mem_cons.mpr ⟨snd_getR (by decide) (by decide) rfl wd1371 d195_1, List.forall_mem_cons.mpr ⟨snd_iconst d195_4 (by decide +kernel), List.forall_mem_cons.mpr ⟨snd_iald d195_5, List.forall_mem_cons.mpr ⟨snd_if_le d195_6 (by decide), List.forall_mem_cons.mpr ⟨snd_aload_n d195_9 rfl, List.forall_mem_cons.mpr ⟨snd_iconst d195_10 (by decide +kernel), List.forall_mem_cons.mpr ⟨snd_callV (by decide) rfl cn181 ⟨by decide +kernel, by decide +kernel⟩ cm181 (List.forall_mem_cons.mpr ⟨wd1522, cw181⟩) d195_11, List.forall_mem_cons.mpr ⟨snd_aload_n d195_14 rfl, List.forall_mem_cons.mpr ⟨snd_callV (by decide) rfl cn177 ⟨by decide +kernel, by decide +kernel⟩ cm177 (List.forall_mem_cons.mpr ⟨wd1484, cw177⟩) d195_15, List.forall_mem_cons.mpr ⟨snd_aload_n d195_18 rfl, List.forall_mem_cons.mpr ⟨snd_ldcS (tx := "size") d195_19 (by decide +kernel), List.forall_mem_cons.mpr ⟨snd_iconst d195_21 (by decide +kernel), List.forall_mem_cons.mpr ⟨snd_bipush d195_22 (by decide +kernel), List.forall_mem_cons.mpr ⟨snd_callV (by decide) rfl cn185 ⟨by decide +kernel, by decide +kernel⟩ cm185 (List.forall_mem_cons.mpr ⟨wd1527, cw185⟩) d195_24, List.forall_mem_cons.mpr ⟨snd_istore_n d195_27 rfl, List.forall_mem_cons.mpr ⟨snd_aload_n d195_28 rfl, List.forall_mem_cons.mpr ⟨snd_ldcS (tx := "layers") d195_29 (by decide +kernel), List.forall_mem_cons.mpr ⟨snd_iconst d195_31 (by decide +kernel), List.forall_mem_cons.mpr ⟨snd_iconst d195_32 (by decide +kernel), List.forall_mem_cons.mpr ⟨snd_callV (by decide) rfl cn185 ⟨by decide +kernel, by decide +kernel⟩ cm185 (List.forall_mem_cons.mpr ⟨wd1527, cw185⟩) d195_33, List.forall_mem_cons.mpr ⟨snd_istore_n d195_36 rfl, List.forall_mem_cons.mpr ⟨snd_aload_n d195_37 rfl, List.forall_mem_cons.mpr ⟨snd_getI (by decide) (by decide) rfl wd1382 d195_38, List.forall_mem_cons.mpr ⟨snd_if_le d195_41 (by decide), List.forall_mem_cons.mpr ⟨snd_vret rfl d195_44, List.forall_mem_cons.mpr ⟨snd_aload_n d195_45 rfl, List.forall_mem_cons.mpr ⟨snd_getR (by decide) (by decide) rfl wd1371 d195_46, List.forall_mem_cons.mpr ⟨snd_iconst d195_49 (by decide +kernel), List.forall_mem_cons.mpr ⟨snd_iload_n d195_50 rfl, fun _ h => by cases h⟩⟩⟩⟩⟩⟩⟩⟩⟩⟩⟩⟩⟩⟩⟩⟩⟩⟩⟩⟩⟩⟩⟩⟩⟩⟩⟩⟩⟩⟩
theorem sc195_1 : ∀ q ∈ tc195_1, Snd xtb M195 q.1 q.2 := List.forall_mem_cons.mpr ⟨snd_iast d195_51, List.forall_mem_cons.mpr ⟨snd_aload_n d195_52 rfl, List.forall_mem_cons.mpr ⟨snd_getR (by decide) (by decide) rfl wd1371 d195_53, List.forall_mem_cons.mpr ⟨snd_iconst d195_56 (by decide +kernel), List.forall_mem_cons.mpr ⟨snd_iload_n d195_57 rfl, List.forall_mem_cons.mpr ⟨snd_iast d195_58, List.forall_mem_cons.mpr ⟨snd_vret rfl d195_59, fun _ h => by cases h⟩⟩⟩⟩⟩⟩⟩
theorem d196_0 : decode (mC M196) 0 = .ok (.aload_n 0, 1) := by decide +kernel
theorem d196_1 : decode (mC M196) 1 = .ok (.getfield 17, 3) := by decide +kernel
theorem d196_4 : decode (mC M196) 4 = .ok (.iload_n 1, 1) := by decide +kernel
theorem d196_5 : decode (mC M196) 5 = .ok (.iaload, 1) := by decide +kernel
theorem d196_6 : decode (mC M196) 6 = .ok (.iload_n 2, 1) := by decide +kernel
theorem d196_7 : decode (mC M196) 7 = .ok (.if_icmp .ne 8, 3) := by decide +kernel
theorem d196_10 : decode (mC M196) 10 = .ok (.aload_n 0, 1) := by decide +kernel
theorem d196_11 : decode (mC M196) 11 = .ok (.iconst 5, 1) := by decide +kernel
theorem d196_12 : decode (mC M196) 12 = .ok (.invokevirtual 133, 3) := by decide +kernel
theorem d196_15 : decode (mC M196) 15 = .ok (.aload_n 0, 1) := by decide +kernel
theorem d196_16 : decode (mC M196) 16 = .ok (.getfield 17, 3) := by decide +kernel
theorem d196_19 : decode (mC M196) 19 = .ok (.iconst 0, 1) := by decide +kernel
theorem d196_20 : decode (mC M196) 20 = .ok (.iaload, 1) := by decide +kernel
theorem d196_21 : decode (mC M196) 21 = .ok (.ifCond .ne 9, 3) := by decide +kernel
theorem d196_24 : decode (mC M196) 24 = .ok (.aload_n 0, 1) := by decide +kernel
theorem d196_25 : decode (mC M196) 25 = .ok (.bipush 6, 2) := by decide +kernel
theorem d196_27 : decode (mC M196) 27 = .ok (.invokevirtual 133, 3) := by decide +kernel
theorem d196_30 : decode (mC M196) 30 = .ok (.aload_n 0, 1) := by decide +kernel
theorem d196_31 : decode (mC M196) 31 = .ok (.invokevirtual 130, 3) := by decide +kernel
theorem d196_34 : decode (mC M196) 34 = .ok (.return_, 1) := by decide +kernel
theorem sc196_0 : ∀ q ∈ tc196_0, Snd xtb M196 q.1 q.2 := List.forall_mem_cons.mpr ⟨snd_aload_n d196_0 rfl, List.forall_mem_cons.mpr ⟨snd_getR (by decide) (by decide) rfl wd1371 d196_1, List.forall_mem_cons.mpr ⟨snd_iload_n d196_4 rfl, List.forall_mem_cons.mpr ⟨snd_iald d196_5, List.forall_mem_cons.mpr ⟨snd_iload_n d196_6 rfl, List.forall_mem_cons.mpr ⟨snd_cmp_ne d196_7 (by decide), List.forall_mem_cons.mpr ⟨snd_aload_n d196_10 rfl, List.forall_mem_cons.mpr ⟨snd_iconst d196_11 (by decide +kernel), List.forall_mem_cons.mpr ⟨snd_callV (by decide) rfl cn181 ⟨by decide +kernel, by decide +kernel⟩ cm181 (List.forall_mem_cons.mpr ⟨wd1522, cw181⟩) d196_12, List.forall_mem_cons.mpr ⟨snd_aload_n d196_15 rfl, List.forall_mem_cons.mpr ⟨snd_getR (by decide) (by decide) rfl wd1371 d196_16, List.forall_mem_cons.mpr ⟨snd_iconst d196_19 (by decide +kernel), List.forall_mem_cons.mpr ⟨snd_iald d196_20, List.forall_mem_cons.mpr ⟨snd_if_ne d196_21 (by decide), List.forall_mem_cons.mpr ⟨snd_aload_n d196_24 rfl, List.forall_mem_cons.mpr ⟨snd_bipush d196_25 (by decide +kernel), List.forall_mem_cons.mpr ⟨snd_callV (by decide) rfl cn181 ⟨by decide +kernel, by decide +kernel⟩ cm181 (List.forall_mem_cons.mpr ⟨wd1522, cw181⟩) d196_27, List.forall_mem_cons.mpr ⟨snd_aload_n d196_30 rfl, List.forall_mem_cons.mpr ⟨snd_callV (by decide) rfl cn177 ⟨by decide +kernel, by decide +kernel⟩ cm177 (List.forall_mem_cons.mpr ⟨wd1484, cw177⟩) d196_31, List.forall_mem_cons.mpr ⟨snd_vret rfl d196_34, fun _ h => by cases h⟩⟩⟩⟩⟩⟩⟩⟩⟩⟩⟩⟩⟩⟩⟩⟩⟩⟩⟩⟩
theorem d197_0 : decode (mC M197) 0 = .ok (.aload_n 0, 1) := by decide +kernel
theorem d197_1 : decode (mC M197) 1 = .ok (.iconst 2, 1) := by decide +kernel
theorem d197_2 : decode (mC M197) 2 = .ok (.bipush 6, 2) := by decide +kernel
theorem d197_4 : decode (mC M197) 4 = .ok (.invokevirtual 212, 3) := by decide +kernel
theorem d197_7 : decode (mC M197) 7 = .ok (.aload_n 0, 1) := by decide +kernel
theorem d197_8 : decode (mC M197) 8 = .ok (.invokevirtual 216, 3) := by decide +kernel
theorem d197_11 : decode (mC M197) 11 = .ok (.lstore_n 1, 1) := by decide +kernel
theorem d197_12 : decode (mC M197) 12 = .ok (.aload_n 0, 1) := by decide +kernel
theorem d197_13 : decode (mC M197) 13 = .ok (.ldc 157, 2) := by decide +kernel
theorem d197_15 : decode (mC M197) 15 = .ok (.invokevirtual 136, 3) := by decide +kernel
theorem d197_18 : decode (mC M197) 18 = .ok (.ifCond .eq 11, 3) := by decide +kernel
theorem d197_21 : decode (mC M197) 21 = .ok (.aload_n 0, 1) := by decide +kernel
theorem d197_22 : decode (mC M197) 22 = .ok (.iconst 1, 1) := by decide +kernel
theorem d197_23 : decode (mC M197) 23 = .ok (.invokevirtual 220, 3) := by decide +kernel
theorem d197_26 : decode (mC M197) 26 = .ok (.goto 5, 3) := by decide +kernel
theorem d197_29 : decode (mC M197) 29 = .ok (.bipush (-2), 2) := by decide +kernel
theorem d197_31 : decode (mC M197) 31 = .ok (.istore_n 3, 1) := by decide +kernel
theorem d197_32 : decode (mC M197) 32 = .ok (.aload_n 0, 1) := by decide +kernel
theorem d197_33 : decode (mC M197) 33 = .ok (.getfield 80, 3) := by decide +kernel
theorem d197_36 : decode (mC M197) 36 = .ok (.ifCond .le 4, 3) := by decide +kernel
theorem d197_39 : decode (mC M197) 39 = .ok (.return_, 1) := by decide +kernel
theorem d197_40 : decode (mC M197) 40 = .ok (.aload_n 0, 1) := by decide +kernel
theorem d197_41 : decode (mC M197) 41 = .ok (.getfield 20, 3) := by decide +kernel
theorem d197_44 : decode (mC M197) 44 = .ok (.aload_n 0, 1) := by decide +kernel
theorem d197_45 : decode (mC M197) 45 = .ok (.getfield 17, 3) := by decide +kernel
theorem d197_48 : decode (mC M197) 48 = .ok (.iconst 2, 1) := by decide +kernel
theorem d197_49 : decode (mC M197) 49 = .ok (.iaload, 1) := by decide +kernel
theorem d197_50 : decode (mC M197) 50 = .ok (.lload_n 1, 1) := by decide +kernel
theorem d197_51 : decode (mC M197) 51 = .ok (.lastore, 1) := by decide +kernel
theorem d197_52 : decode (mC M197) 52 = .ok (.aload_n 0, 1) := by decide +kernel
theorem d197_53 : decode (mC M197) 53 = .ok (.getfield 17, 3) := by decide +kernel
theorem d197_56 : decode (mC M197) 56 = .ok (.bipush 8, 2) := by decide +kernel
theorem d197_58 : decode (mC M197) 58 = .ok (.aload_n 0, 1) := by decide +kernel
theorem d197_59 : decode (mC M197) 59 = .ok (.getfield 17, 3) := by decide +kernel
theorem d197_62 : decode (mC M197) 62 = .ok (.iconst 2, 1) := by decide +kernel
theorem d197_63 : decode (mC M197) 63 = .ok (.iaload, 1) := by decide +kernel
theorem d197_64 : decode (mC M197) 64 = .ok (.iadd, 1) := by decide +kernel
theorem d197_65 : decode (mC M197) 65 = .ok (.iload_n 3, 1) := by decide +kernel
theorem d197_66 : decode (mC M197) 66 = .ok (.iastore, 1) := by decide +kernel
theorem d197_67 : decode (mC M197) 67 = .ok (.aload_n 0, 1) := by decide +kernel
theorem d197_68 : decode (mC M197) 68 = .ok (.getfield 17, 3) := by decide +kernel
theorem d197_71 : decode (mC M197) 71 = .ok (.iconst 2, 1) := by decide +kernel
theorem d197_72 : decode (mC M197) 72 = .ok (.dup2, 1) := by decide +kernel
theorem d197_73 : decode (mC M197) 73 = .ok (.iaload, 1) := by decide +kernel
theorem d197_74 : decode (mC M197) 74 = .ok (.iconst 1, 1) := by decide +kernel
theorem d197_75 : decode (mC M197) 75 = .ok (.iadd, 1) := by decide +kernel
theorem d197_76 : decode (mC M197) 76 = .ok (.iastore, 1) := by decide +kernel
theorem d197_77 : decode (mC M197) 77 = .ok (.return_, 1) := by decide +kernel
theorem sc197_0 : ∀ q ∈ tc197_0, Snd xtb M197 q.1 q.2 := List.forall_mem_cons.mpr ⟨snd_aload_n d197_0 rfl, List.forall_mem_cons.mpr ⟨snd_iconst d197_1 (by decide +kernel), List.forall_mem_cons.mpr ⟨snd_bipush d197_2 (by decide +kernel), List.forall_mem_cons.mpr ⟨snd_callV (by decide) rfl cn196 ⟨by decide +kernel, by decide +kernel⟩ cm196 (List.forall_mem_cons.mpr ⟨wd1545, cw196⟩) d197_4, List.forall_mem_cons.mpr ⟨snd_aload_n d197_7 rfl, List.forall_mem_cons.mpr ⟨snd_callV (by decide) rfl cn190 ⟨by decide +kernel, by decide +kernel⟩ cm190 (List.forall_mem_cons.mpr ⟨wd1549, cw190⟩) d197_8, List.forall_mem_cons.mpr ⟨snd_lstore_n d197_11 rfl, List.forall_mem_cons.mpr ⟨snd_aload_n d197_12 rfl, List.forall_mem_cons.mpr ⟨snd_ldcS (tx := "of") d197_13 (by decide +kernel), List.forall_mem_cons.mpr ⟨snd_callV (by decide) rfl cn183 ⟨by decide +kernel, by decide +kernel⟩ cm183 (List.forall_mem_cons.mpr ⟨wd1531, cw183⟩) d197_15, List.forall_mem_cons.mpr ⟨snd_if_eq d197_18 (by decide), List.forall_mem_cons.mpr ⟨snd_aload_n d197_21 rfl, List.forall_mem_cons.mpr ⟨snd_iconst d197_22 (by decide +kernel), List.forall_mem_cons.mpr ⟨snd_callV (by decide) rfl cn192 ⟨by decide +kernel, by decide +kernel⟩ cm192 (List.forall_mem_cons.mpr ⟨wd1577, cw192⟩) d197_23, List.forall_mem_cons.mpr ⟨snd_goto d197_26 (by decide), List.forall_mem_cons.mpr ⟨snd_bipush d197_29 (by decide +kernel), List.forall_mem_cons.mpr ⟨snd_istore_n d197_31 rfl, List.forall_mem_cons.mpr ⟨snd_aload_n d197_32 rfl, List.forall_mem_cons.mpr ⟨snd_getI (by decide) (by decide) rfl wd1382 d197_33, List.forall_mem_cons.mpr ⟨snd_if_le d197_36 (by decide), List.forall_mem_cons.mpr ⟨snd_vret rfl d197_39, List.forall_mem_cons.mpr ⟨snd_aload_n d197_40 rfl, List.forall_mem_cons.mpr ⟨snd_getR (by decide) (by decide) rfl wd1372 d197_41, List.forall_mem_cons.mpr ⟨snd_aload_n d197_44 rfl, List.forall_mem_cons.mpr ⟨snd_getR (by decide) (by decide) rfl wd1371 d197_45, List.forall_mem_cons.mpr ⟨snd_iconst d197_48 (by decide +kernel), List.forall_mem_cons.mpr ⟨snd_iald d197_49, List.forall_mem_cons.mpr ⟨snd_lload_n d197_50 rfl, List.forall_mem_cons.mpr ⟨snd_last d197_51, List.forall_mem_cons.mpr ⟨snd_aload_n d197_52 rfl, fun _ h => by cases h⟩⟩⟩⟩⟩⟩⟩⟩⟩⟩⟩⟩⟩⟩⟩⟩⟩⟩⟩⟩⟩⟩⟩⟩⟩⟩⟩⟩⟩⟩
theorem sc197_1 : ∀ q ∈ tc197_1, Snd xtb M197 q.1 q.2 := List.forall_mem_cons.mpr ⟨snd_getR (by decide) (by decide) rfl wd1371 d197_53, List.forall_mem_cons.mpr ⟨snd_bipush d197_56 (by decide +kernel), List.forall_mem_cons.mpr ⟨snd_aload_n d197_58 rfl, List.forall_mem_cons.mpr ⟨snd_getR (by decide) (by decide) rfl wd1371 d197_59, List.forall_mem_cons.mpr ⟨snd_iconst d197_62 (by decide +kernel), List.forall_mem_cons.mpr ⟨snd_iald d197_63, List.forall_mem_cons.mpr ⟨snd_iadd d197_64, List.forall_mem_cons.mpr ⟨snd_iload_n d197_65 rfl, List.forall_mem_cons.mpr ⟨snd_iast d197_66, List.forall_mem_cons.mpr ⟨snd_aload_n d197_67 rfl, List.forall_mem_cons.mpr ⟨snd_getR (by decide) (by decide) rfl wd1371 d197_68, List.forall_mem_cons.mpr ⟨snd_iconst d197_71 (by decide +kernel), List.forall_mem_cons.mpr ⟨snd_dup2 d197_72, List.forall_mem_cons.mpr ⟨snd_iald d197_73, List.forall_mem_cons.mpr ⟨snd_iconst d197_74 (by decide +kernel), List.forall_mem_cons.mpr ⟨snd_iadd d197_75, List.forall_mem_cons.mpr ⟨snd_iast d197_76, List.forall_mem_cons.mpr ⟨snd_vret rfl d197_77, fun _ h => by cases h⟩⟩⟩⟩⟩⟩⟩⟩⟩⟩⟩⟩⟩⟩⟩⟩⟩⟩
theorem d198_0 : decode (mC M198) 0 = .ok (.aload_n 0, 1) := by decide +kernel
theorem d198_1 : decode (mC M198) 1 = .ok (.iconst 3, 1) := by decide +kernel
theorem d198_2 : decode (mC M198) 2 = .ok (.bipush 10, 2) := by decide +kernel
theorem d198_4 : decode (mC M198) 4 = .ok (.invokevirtual 212, 3) := by decide +kernel
theorem d198_7 : decode (mC M198) 7 = .ok (.aload_n 0, 1) := by decide +kernel
theorem d198_8 : decode (mC M198) 8 = .ok (.invokevirtual 216, 3) := by decide +kernel
theorem d198_11 : decode (mC M198) 11 = .ok (.lstore_n 1, 1) := by decide +kernel
theorem d198_12 : decode (mC M198) 12 = .ok (.aload_n 0, 1) := by decide +kernel
theorem d198_13 : decode (mC M198) 13 = .ok (.ldc 223, 2) := by decide +kernel
theorem d198_15 : decode (mC M198) 15 = .ok (.iconst 0, 1) := by decide +kernel
theorem d198_16 : decode (mC M198) 16 = .ok (.aload_n 0, 1) := by decide +kernel
theorem d198_17 : decode (mC M198) 17 = .ok (.getfield 17, 3) := by decide +kernel
theorem d198_20 : decode (mC M198) 20 = .ok (.iconst 1, 1) := by decide +kernel
theorem d198_21 : decode (mC M198) 21 = .ok (.iaload, 1) := by decide +kernel
theorem d198_22 : decode (mC M198) 22 = .ok (.iconst 1, 1) := by decide +kernel
theorem d198_23 : decode (mC M198) 23 = .ok (.isub, 1) := by decide +kernel
theorem d198_24 : decode (mC M198) 24 = .ok (.invokevirtual 206, 3) := by decide +kernel
theorem d198_27 : decode (mC M198) 27 = .ok (.istore_n 3, 1) := by decide +kernel
theorem d198_28 : decode (mC M198) 28 = .ok (.aload_n 0, 1) := by decide +kernel
theorem d198_29 : decode (mC M198) 29 = .ok (.ldc 159, 2) := by decide +kernel
theorem d198_31 : decode (mC M198) 31 = .ok (.invokevirtual 136, 3) := by decide +kernel
theorem d198_34 : decode (mC M198) 34 = .ok (.istore 4, 2) := by decide +kernel
theorem d198_36 : decode (mC M198) 36 = .ok (.aload_n 0, 1) := by decide +kernel
theorem d198_37 : decode (mC M198) 37 = .ok (.getfield 80, 3) := by decide +kernel
theorem d198_40 : decode (mC M198) 40 = .ok (.ifCond .le 4, 3) := by decide +kernel
theorem d198_43 : decode (mC M198) 43 = .ok (.return_, 1) := by decide +kernel
theorem d198_44 : decode (mC M198) 44 = .ok (.aload_n 0, 1) := by decide +kernel
theorem d198_45 : decode (mC M198) 45 = .ok (.getfield 17, 3) := by decide +kernel
theorem d198_48 : decode (mC M198) 48 = .ok (.iconst 3, 1) := by decide +kernel
theorem d198_49 : decode (mC M198) 49 = .ok (.iaload, 1) := by decide +kernel
theorem d198_50 : decode (mC M198) 50 = .ok (.istore 5, 2) := by decide +kernel
theorem d198_52 : decode (mC M198) 52 = .ok (.aload_n 0, 1) := by decide +kernel
theorem d198_53 : decode (mC M198) 53 = .ok (.getfield 24, 3) := by decide +kernel
theorem d198_56 : decode (mC M198) 56 = .ok (.iload 5, 2) := by decide +kernel
theorem d198_58 : decode (mC M198) 58 = .ok (.lload_n 1, 1) := by decide +kernel
theorem d198_59 : decode (mC M198) 59 = .ok (.lastore, 1) := by decide +kernel
theorem d198_60 : decode (mC M198) 60 = .ok (.aload_n 0, 1) := by decide +kernel
theorem d198_61 : decode (mC M198) 61 = .ok (.getfield 17, 3) := by decide +kernel
theorem d198_64 : decode (mC M198) 64 = .ok (.bipush 14, 2) := by decide +kernel
theorem d198_66 : decode (mC M198) 66 = .ok (.iload 5, 2) := by decide +kernel
theorem d198_68 : decode (mC M198) 68 = .ok (.iadd, 1) := by decide +kernel
theorem d198_69 : decode (mC M198) 69 = .ok (.iload_n 3, 1) := by decide +kernel
theorem d198_70 : decode (mC M198) 70 = .ok (.iastore, 1) := by decide +kernel
theorem d198_71 : decode (mC M198) 71 = .ok (.aload_n 0, 1) := by decide +kernel
theorem d198_72 : decode (mC M198) 72 = .ok (.getfield 17, 3) := by decide +kernel
theorem d198_75 : decode (mC M198) 75 = .ok (.bipush 24, 2) := by decide +kernel
theorem d198_77 : decode (mC M198) 77 = .ok (.iload 5, 2) := by decide +kernel
theorem d198_79 : decode (mC M198) 79 = .ok (.iadd, 1) := by decide +kernel
theorem d198_80 : decode (mC M198) 80 = .ok (.iload 4, 2) := by decide +kernel
theorem d198_82 : decode (mC M198) 82 = .ok (.ifCond .eq 7, 3) := by decide +kernel
theorem d198_85 : decode (mC M198) 85 = .ok (.iconst 1, 1) := by decide +kernel
theorem d198_86 : decode (mC M198) 86 = .ok (.goto 4, 3) := by decide +kernel
theorem d198_89 : decode (mC M198) 89 = .ok (.iconst 0, 1) := by decide +kernel
theorem d198_90 : decode (mC M198) 90 = .ok (.iastore, 1) := by decide +kernel
theorem d198_91 : decode (mC M198) 91 = .ok (.aload_n 0, 1) := by decide +kernel
theorem d198_92 : decode (mC M198) 92 = .ok (.getfield 17, 3) := by decide +kernel
theorem d198_95 : decode (mC M198) 95 = .ok (.iconst 3, 1) := by decide +kernel
theorem d198_96 : decode (mC M198) 96 = .ok (.dup2, 1) := by decide +kernel
theorem d198_97 : decode (mC M198) 97 = .ok (.iaload, 1) := by decide +kernel
theorem d198_98 : decode (mC M198) 98 = .ok (.iconst 1, 1) := by decide +kernel
theorem d198_99 : decode (mC M198) 99 = .ok (.iadd, 1) := by decide +kernel
theorem d198_100 : decode (mC M198) 100 = .ok (.iastore, 1) := by decide +kernel
theorem d198_101 : decode (mC M198) 101 = .ok (.return_, 1) := by decide +kernel
theorem sc198_0 : ∀ q ∈ tc198_0, Snd xtb M198 q.1 q.2 := List.forall_mem_cons.mpr ⟨snd_aload_n d198_0 rfl, List.forall_mem_cons.mpr ⟨snd_iconst d198_1 (by decide +kernel), List.forall_mem_cons.mpr ⟨snd_bipush d198_2 (by decide +kernel), List.forall_mem_cons.mpr ⟨snd_callV (by decide) rfl cn196 ⟨by decide +kernel, by decide +kernel⟩ cm196 (List.forall_mem_cons.mpr ⟨wd1545, cw196⟩) d198_4, List.forall_mem_cons.mpr ⟨snd_aload_n d198_7 rfl, List.forall_mem_cons.mpr ⟨snd_callV (by decide) rfl cn190 ⟨by decide +kernel, by decide +kernel⟩ cm190 (List.forall_mem_cons.mpr ⟨wd1549, cw190⟩) d198_8, List.forall_mem_cons.mpr ⟨snd_lstore_n d198_11 rfl, List.forall_mem_cons.mpr ⟨snd_aload_n d198_12 rfl, List.forall_mem_cons.mpr ⟨snd_ldcS (tx := "layer") d198_13 (by decide +kernel), List.forall_mem_cons.mpr ⟨snd_iconst d198_15 (by decide +kernel), List.forall_mem_cons.mpr ⟨snd_aload_n d198_16 rfl, List.forall_mem_cons.mpr ⟨snd_getR (by decide) (by decide) rfl wd1371 d198_17, List.forall_mem_cons.mpr ⟨snd_iconst d198_20 (by decide +kernel), List.forall_mem_cons.mpr ⟨snd_iald d198_21, List.forall_mem_cons.mpr ⟨snd_iconst d198_22 (by decide +kernel), List.forall_mem_cons.mpr ⟨snd_isub d198_23, List.forall_mem_cons.mpr ⟨snd_callV (by decide) rfl cn185 ⟨by decide +kernel, by decide +kernel⟩ cm185 (List.forall_mem_cons.mpr ⟨wd1527, cw185⟩) d198_24, List.forall_mem_cons.mpr ⟨snd_istore_n d198_27 rfl, List.forall_mem_cons.mpr ⟨snd_aload_n d198_28 rfl, List.forall_mem_cons.mpr ⟨snd_ldcS (tx := "only") d198_29 (by decide +kernel), List.forall_mem_cons.mpr ⟨snd_callV (by decide) rfl cn183 ⟨by decide +kernel, by decide +kernel⟩ cm183 (List.forall_mem_cons.mpr ⟨wd1531, cw183⟩) d198_31, List.forall_mem_cons.mpr ⟨snd_istore d198_34, List.forall_mem_cons.mpr ⟨snd_aload_n d198_36 rfl, List.forall_mem_cons.mpr ⟨snd_getI (by decide) (by decide) rfl wd1382 d198_37, List.forall_mem_cons.mpr ⟨snd_if_le d198_40 (by decide), List.forall_mem_cons.mpr ⟨snd_vret rfl d198_43, List.forall_mem_cons.mpr ⟨snd_aload_n d198_44 rfl, List.forall_mem_cons.mpr ⟨snd_getR (by decide) (by decide) rfl wd1371 d198_45, List.forall_mem_cons.mpr ⟨snd_iconst d198_48 (by decide +kernel), List.forall_mem_cons.mpr ⟨snd_iald d198_49, fun _ h => by cases h⟩⟩⟩⟩⟩⟩⟩⟩⟩⟩⟩⟩⟩⟩⟩⟩⟩⟩⟩⟩⟩⟩⟩⟩⟩⟩⟩⟩⟩⟩
theorem sc198_1 : ∀ q ∈ tc198_1, Snd xtb M198 q.1 q.2 := List.forall_mem_cons.mpr ⟨snd_istore d198_50, List.forall_mem_cons.mpr ⟨snd_aload_n d198_52 rfl, List.forall_mem_cons.mpr ⟨snd_getR (by decide) (by decide) rfl wd1373 d198_53, List.forall_mem_cons.mpr ⟨snd_iload d198_56, List.forall_mem_cons.mpr ⟨snd_lload_n d198_58 rfl, List.forall_mem_cons.mpr ⟨snd_last d198_59, List.forall_mem_cons.mpr ⟨snd_aload_n d198_60 rfl, List.forall_mem_cons.mpr ⟨snd_getR (by decide) (by decide) rfl wd1371 d198_61, List.forall_mem_cons.mpr ⟨snd_bipush d198_64 (by decide +kernel), List.forall_mem_cons.mpr ⟨snd_iload d198_66, List.forall_mem_cons.mpr ⟨snd_iadd d198_68, List.forall_mem_cons.mpr ⟨snd_iload_n d198_69 rfl, List.forall_mem_cons.mpr ⟨snd_iast d198_70, List.forall_mem_cons.mpr ⟨snd_aload_n d198_71 rfl, List.forall_mem_cons.mpr ⟨snd_getR (by decide) (by decide) rfl wd1371 d198_72, List.forall_mem_cons.mpr ⟨snd_bipush d198_75 (by decide +kernel), List.forall_mem_cons.mpr ⟨snd_iload d198_77, List.forall_mem_cons.mpr ⟨snd_iadd d198_79, List.forall_mem_cons.mpr ⟨snd_iload d198_80, List.forall_mem_cons.mpr ⟨snd_if_eq d198_82 (by decide), List.forall_mem_cons.mpr ⟨snd_iconst d198_85 (by decide +kernel), List.forall_mem_cons.mpr ⟨snd_goto d198_86 (by decide), List.forall_mem_cons.mpr ⟨snd_iconst d198_89 (by decide +kernel), List.forall_mem_cons.mpr ⟨snd_iast d198_90, List.forall_mem_cons.mpr ⟨snd_aload_n d198_91 rfl, List.forall_mem_cons.mpr ⟨snd_getR (by decide) (by decide) rfl wd1371 d198_92, List.forall_mem_cons.mpr ⟨snd_iconst d198_95 (by decide +kernel), List.forall_mem_cons.mpr ⟨snd_dup2 d198_96, List.forall_mem_cons.mpr ⟨snd_iald d198_97, List.forall_mem_cons.mpr ⟨snd_iconst d198_98 (by decide +kernel), fun _ h => by cases h⟩⟩⟩⟩⟩⟩⟩⟩⟩⟩⟩⟩⟩⟩⟩⟩⟩⟩⟩⟩⟩⟩⟩⟩⟩⟩⟩⟩⟩⟩
theorem sc198_2 : ∀ q ∈ tc198_2, Snd xtb M198 q.1 q.2 := List.forall_mem_cons.mpr ⟨snd_iadd d198_99, List.forall_mem_cons.mpr ⟨snd_iast d198_100, List.forall_mem_cons.mpr ⟨snd_vret rfl d198_101, fun _ h => by cases h⟩⟩⟩
theorem d199_0 : decode (mC M199) 0 = .ok (.bipush 34, 2) := by decide +kernel
theorem d199_2 : decode (mC M199) 2 = .ok (.bipush 15, 2) := by decide +kernel
theorem d199_4 : decode (mC M199) 4 = .ok (.iload_n 0, 1) := by decide +kernel
theorem d199_5 : decode (mC M199) 5 = .ok (.imul, 1) := by decide +kernel
theorem d199_6 : decode (mC M199) 6 = .ok (.iadd, 1) := by decide +kernel
theorem d199_7 : decode (mC M199) 7 = .ok (.ireturn, 1) := by decide +kernel
theorem sc199_0 : ∀ q ∈ tc199_0, Snd xtb M199 q.1 q.2 := List.forall_mem_cons.mpr ⟨snd_bipush d199_0 (by decide +kernel), List.forall_mem_cons.mpr ⟨snd_bipush d199_2 (by decide +kernel), List.forall_mem_cons.mpr ⟨snd_iload_n d199_4 rfl, List.forall_mem_cons.mpr ⟨snd_imul d199_5, List.forall_mem_cons.mpr ⟨snd_iadd d199_6, List.forall_mem_cons.mpr ⟨snd_iret rfl d199_7, fun _ h => by cases h⟩⟩⟩⟩⟩⟩
theorem d200_0 : decode (mC M200) 0 = .ok (.aload_n 0, 1) := by decide +kernel
theorem d200_1 : decode (mC M200) 1 = .ok (.iconst 4, 1) := by decide +kernel
theorem d200_2 : decode (mC M200) 2 = .ok (.iaload, 1) := by decide +kernel
theorem d200_3 : decode (mC M200) 3 = .ok (.iconst 1, 1) := by decide +kernel
theorem d200_4 : decode (mC M200) 4 = .ok (.isub, 1) := by decide +kernel
theorem d200_5 : decode (mC M200) 5 = .ok (.istore_n 2, 1) := by decide +kernel
theorem d200_6 : decode (mC M200) 6 = .ok (.iload_n 2, 1) := by decide +kernel
theorem d200_7 : decode (mC M200) 7 = .ok (.ifCond .lt 21, 3) := by decide +kernel
theorem d200_10 : decode (mC M200) 10 = .ok (.aload_n 0, 1) := by decide +kernel
theorem d200_11 : decode (mC M200) 11 = .ok (.iload_n 2, 1) := by decide +kernel
theorem d200_12 : decode (mC M200) 12 = .ok (.invokestatic 225, 3) := by decide +kernel
theorem d200_15 : decode (mC M200) 15 = .ok (.iaload, 1) := by decide +kernel
theorem d200_16 : decode (mC M200) 16 = .ok (.iload_n 1, 1) := by decide +kernel
theorem d200_17 : decode (mC M200) 17 = .ok (.if_icmp .ne 5, 3) := by decide +kernel
theorem d200_20 : decode (mC M200) 20 = .ok (.iload_n 2, 1) := by decide +kernel
theorem d200_21 : decode (mC M200) 21 = .ok (.ireturn, 1) := by decide +kernel
theorem d200_22 : decode (mC M200) 22 = .ok (.iinc 2 (-1), 3) := by decide +kernel
theorem d200_25 : decode (mC M200) 25 = .ok (.goto (-19), 3) := by decide +kernel
theorem d200_28 : decode (mC M200) 28 = .ok (.iconst (-1), 1) := by decide +kernel
theorem d200_29 : decode (mC M200) 29 = .ok (.ireturn, 1) := by decide +kernel
theorem sc200_0 : ∀ q ∈ tc200_0, Snd xtb M200 q.1 q.2 := List.forall_mem_cons.mpr ⟨snd_aload_n d200_0 rfl, List.forall_mem_cons.mpr ⟨snd_iconst d200_1 (by decide +kernel), List.forall_mem_cons.mpr ⟨snd_iald d200_2, List.forall_mem_cons.mpr ⟨snd_iconst d200_3 (by decide +kernel), List.forall_mem_cons.mpr ⟨snd_isub d200_4, List.forall_mem_cons.mpr ⟨snd_istore_n d200_5 rfl, List.forall_mem_cons.mpr ⟨snd_iload_n d200_6 rfl, List.forall_mem_cons.mpr ⟨snd_if_lt d200_7 (by decide), List.forall_mem_cons.mpr ⟨snd_aload_n d200_10 rfl, List.forall_mem_cons.mpr ⟨snd_iload_n d200_11 rfl, List.forall_mem_cons.mpr ⟨snd_callS cn199 ⟨by decide +kernel, by decide +kernel⟩ cm199 (List.forall_mem_cons.mpr ⟨wd1597, cw199⟩) d200_12, List.forall_mem_cons.mpr ⟨snd_iald d200_15, List.forall_mem_cons.mpr ⟨snd_iload_n d200_16 rfl, List.forall_mem_cons.mpr ⟨snd_cmp_ne d200_17 (by decide), List.forall_mem_cons.mpr ⟨snd_iload_n d200_20 rfl, List.forall_mem_cons.mpr ⟨snd_iret rfl d200_21, List.forall_mem_cons.mpr ⟨snd_iinc d200_22 (by decide +kernel), List.forall_mem_cons.mpr ⟨snd_goto d200_25 (by decide), List.forall_mem_cons.mpr ⟨snd_iconst d200_28 (by decide +kernel), List.forall_mem_cons.mpr ⟨snd_iret rfl d200_29, fun _ h => by cases h⟩⟩⟩⟩⟩⟩⟩⟩⟩⟩⟩⟩⟩⟩⟩⟩⟩⟩⟩⟩
theorem d201_0 : decode (mC M201) 0 = .ok (.aload_n 0, 1) := by decide +kernel
theorem d201_1 : decode (mC M201) 1 = .ok (.iconst 4, 1) := by decide +kernel
theorem d201_2 : decode (mC M201) 2 = .ok (.bipush 16, 2) := by decide +kernel
theorem d201_4 : decode (mC M201) 4 = .ok (.invokevirtual 212, 3) := by decide +kernel
theorem d201_7 : decode (mC M201) 7 = .ok (.aload_n 0, 1) := by decide +kernel
theorem d201_8 : decode (mC M201) 8 = .ok (.iconst 0, 1) := by decide +kernel
theorem d201_9 : decode (mC M201) 9 = .ok (.invokevirtual 220, 3) := by decide +kernel
theorem d201_12 : decode (mC M201) 12 = .ok (.istore_n 1, 1) := by decide +kernel
theorem d201_13 : decode (mC M201) 13 = .ok (.aload_n 0, 1) := by decide +kernel
theorem d201_14 : decode (mC M201) 14 = .ok (.getfield 17, 3) := by decide +kernel
theorem d201_17 : decode (mC M201) 17 = .ok (.iload_n 1, 1) := by decide +kernel
theorem d201_18 : decode (mC M201) 18 = .ok (.invokestatic 228, 3) := by decide +kernel
theorem d201_21 : decode (mC M201) 21 = .ok (.istore_n 2, 1) := by decide +kernel
theorem d201_22 : decode (mC M201) 22 = .ok (.aload_n 0, 1) := by decide +kernel
theorem d201_23 : decode (mC M201) 23 = .ok (.iload_n 2, 1) := by decide +kernel
theorem d201_24 : decode (mC M201) 24 = .ok (.iconst (-1), 1) := by decide +kernel
theorem d201_25 : decode (mC M201) 25 = .ok (.if_icmp .ne 7, 3) := by decide +kernel
theorem d201_28 : decode (mC M201) 28 = .ok (.iconst 0, 1) := by decide +kernel
theorem d201_29 : decode (mC M201) 29 = .ok (.goto 16, 3) := by decide +kernel
theorem d201_32 : decode (mC M201) 32 = .ok (.aload_n 0, 1) := by decide +kernel
theorem d201_33 : decode (mC M201) 33 = .ok (.getfield 17, 3) := by decide +kernel
theorem d201_36 : decode (mC M201) 36 = .ok (.iload_n 2, 1) := by decide +kernel
theorem d201_37 : decode (mC M201) 37 = .ok (.invokestatic 225, 3) := by decide +kernel
theorem d201_40 : decode (mC M201) 40 = .ok (.iconst 1, 1) := by decide +kernel
theorem d201_41 : decode (mC M201) 41 = .ok (.iadd, 1) := by decide +kernel
theorem d201_42 : decode (mC M201) 42 = .ok (.iaload, 1) := by decide +kernel
theorem d201_43 : decode (mC M201) 43 = .ok (.iconst 1, 1) := by decide +kernel
theorem d201_44 : decode (mC M201) 44 = .ok (.iadd, 1) := by decide +kernel
theorem d201_45 : decode (mC M201) 45 = .ok (.sipush 999, 3) := by decide +kernel
theorem d201_48 : decode (mC M201) 48 = .ok (.invokevirtual 139, 3) := by decide +kernel
theorem d201_51 : decode (mC M201) 51 = .ok (.istore_n 3, 1) := by decide +kernel
theorem d201_52 : decode (mC M201) 52 = .ok (.aload_n 0, 1) := by decide +kernel
theorem d201_53 : decode (mC M201) 53 = .ok (.getfield 17, 3) := by decide +kernel
theorem d201_56 : decode (mC M201) 56 = .ok (.iconst 4, 1) := by decide +kernel
theorem d201_57 : decode (mC M201) 57 = .ok (.iaload, 1) := by decide +kernel
theorem d201_58 : decode (mC M201) 58 = .ok (.invokestatic 225, 3) := by decide +kernel
theorem d201_61 : decode (mC M201) 61 = .ok (.istore 4, 2) := by decide +kernel
theorem d201_63 : decode (mC M201) 63 = .ok (.iconst 0, 1) := by decide +kernel
theorem d201_64 : decode (mC M201) 64 = .ok (.istore 5, 2) := by decide +kernel
theorem d201_66 : decode (mC M201) 66 = .ok (.aload_n 0, 1) := by decide +kernel
theorem d201_67 : decode (mC M201) 67 = .ok (.ldc 161, 2) := by decide +kernel
theorem d201_69 : decode (mC M201) 69 = .ok (.invokevirtual 136, 3) := by decide +kernel
theorem d201_72 : decode (mC M201) 72 = .ok (.istore 6, 2) := by decide +kernel
theorem d201_74 : decode (mC M201) 74 = .ok (.aload_n 0, 1) := by decide +kernel
theorem d201_75 : decode (mC M201) 75 = .ok (.getfield 80, 3) := by decide +kernel
theorem d201_78 : decode (mC M201) 78 = .ok (.ifCond .ne 85, 3) := by decide +kernel
theorem d201_81 : decode (mC M201) 81 = .ok (.iload 6, 2) := by decide +kernel
theorem d201_83 : decode (mC M201) 83 = .ok (.ifCond .ne 80, 3) := by decide +kernel
theorem d201_86 : decode (mC M201) 86 = .ok (.iload 5, 2) := by decide +kernel
theorem d201_88 : decode (mC M201) 88 = .ok (.iconst 3, 1) := by decide +kernel
theorem d201_89 : decode (mC M201) 89 = .ok (.if_icmp .lt 18, 3) := by decide +kernel
theorem d201_92 : decode (mC M201) 92 = .ok (.iload 5, 2) := by decide +kernel
theorem d201_94 : decode (mC M201) 94 = .ok (.bipush 6, 2) := by decide +kernel
theorem d201_96 : decode (mC M201) 96 = .ok (.if_icmp .ge 67, 3) := by decide +kernel
theorem d201_99 : decode (mC M201) 99 = .ok (.aload_n 0, 1) := by decide +kernel
theorem d201_100 : decode (mC M201) 100 = .ok (.getfield 92, 3) := by decide +kernel
theorem d201_103 : decode (mC M201) 103 = .ok (.iconst 3, 1) := by decide +kernel
theorem d201_104 : decode (mC M201) 104 = .ok (.if_icmp .ne 59, 3) := by decide +kernel
theorem d201_107 : decode (mC M201) 107 = .ok (.aload_n 0, 1) := by decide +kernel
theorem d201_108 : decode (mC M201) 108 = .ok (.getfield 17, 3) := by decide +kernel
theorem d201_111 : decode (mC M201) 111 = .ok (.iload 4, 2) := by decide +kernel
theorem d201_113 : decode (mC M201) 113 = .ok (.iconst 3, 1) := by decide +kernel
theorem d201_114 : decode (mC M201) 114 = .ok (.iadd, 1) := by decide +kernel
theorem d201_115 : decode (mC M201) 115 = .ok (.iconst 2, 1) := by decide +kernel
theorem d201_116 : decode (mC M201) 116 = .ok (.iload 5, 2) := by decide +kernel
theorem d201_118 : decode (mC M201) 118 = .ok (.imul, 1) := by decide +kernel
theorem d201_119 : decode (mC M201) 119 = .ok (.iadd, 1) := by decide +kernel
theorem d201_120 : decode (mC M201) 120 = .ok (.aload_n 0, 1) := by decide +kernel
theorem d201_121 : decode (mC M201) 121 = .ok (.iconst 0, 1) := by decide +kernel
theorem d201_122 : decode (mC M201) 122 = .ok (.aload_n 0, 1) := by decide +kernel
theorem d201_123 : decode (mC M201) 123 = .ok (.getfield 17, 3) := by decide +kernel
theorem d201_126 : decode (mC M201) 126 = .ok (.iconst 0, 1) := by decide +kernel
theorem d201_127 : decode (mC M201) 127 = .ok (.iaload, 1) := by decide +kernel
theorem d201_128 : decode (mC M201) 128 = .ok (.invokevirtual 139, 3) := by decide +kernel
theorem d201_131 : decode (mC M201) 131 = .ok (.iastore, 1) := by decide +kernel
theorem d201_132 : decode (mC M201) 132 = .ok (.aload_n 0, 1) := by decide +kernel
theorem d201_133 : decode (mC M201) 133 = .ok (.getfield 17, 3) := by decide +kernel
theorem d201_136 : decode (mC M201) 136 = .ok (.iload 4, 2) := by decide +kernel
theorem d201_138 : decode (mC M201) 138 = .ok (.iconst 4, 1) := by decide +kernel
theorem d201_139 : decode (mC M201) 139 = .ok (.iadd, 1) := by decide +kernel
theorem d201_140 : decode (mC M201) 140 = .ok (.iconst 2, 1) := by decide +kernel
theorem d201_141 : decode (mC M201) 141 = .ok (.iload 5, 2) := by decide +kernel
theorem d201_143 : decode (mC M201) 143 = .ok (.imul, 1) := by decide +kernel
theorem d201_144 : decode (mC M201) 144 = .ok (.iadd, 1) := by decide +kernel
theorem d201_145 : decode (mC M201) 145 = .ok (.aload_n 0, 1) := by decide +kernel
theorem d201_146 : decode (mC M201) 146 = .ok (.iconst 0, 1) := by decide +kernel
theorem d201_147 : decode (mC M201) 147 = .ok (.aload_n 0, 1) := by decide +kernel
theorem d201_148 : decode (mC M201) 148 = .ok (.getfield 17, 3) := by decide +kernel
theorem d201_151 : decode (mC M201) 151 = .ok (.iconst 0, 1) := by decide +kernel
theorem d201_152 : decode (mC M201) 152 = .ok (.iaload, 1) := by decide +kernel
theorem d201_153 : decode (mC M201) 153 = .ok (.invokevirtual 139, 3) := by decide +kernel
theorem d201_156 : decode (mC M201) 156 = .ok (.iastore, 1) := by decide +kernel
theorem d201_157 : decode (mC M201) 157 = .ok (.iinc 5 1, 3) := by decide +kernel
theorem d201_160 : decode (mC M201) 160 = .ok (.goto (-86), 3) := by decide +kernel
theorem d201_163 : decode (mC M201) 163 = .ok (.aload_n 0, 1) := by decide +kernel
theorem d201_164 : decode (mC M201) 164 = .ok (.getfield 80, 3) := by decide +kernel
theorem d201_167 : decode (mC M201) 167 = .ok (.ifCond .le 4, 3) := by decide +kernel
theorem d201_170 : decode (mC M201) 170 = .ok (.return_, 1) := by decide +kernel
theorem d201_171 : decode (mC M201) 171 = .ok (.aload_n 0, 1) := by decide +kernel
theorem d201_172 : decode (mC M201) 172 = .ok (.getfield 17, 3) := by decide +kernel
theorem d201_175 : decode (mC M201) 175 = .ok (.iload 4, 2) := by decide +kernel
theorem d201_177 : decode (mC M201) 177 = .ok (.iload_n 1, 1) := by decide +kernel
theorem d201_178 : decode (mC M201) 178 = .ok (.iastore, 1) := by decide +kernel
theorem d201_179 : decode (mC M201) 179 = .ok (.aload_n 0, 1) := by decide +kernel
theorem d201_180 : decode (mC M201) 180 = .ok (.getfield 17, 3) := by decide +kernel
theorem d201_183 : decode (mC M201) 183 = .ok (.iload 4, 2) := by decide +kernel
theorem d201_185 : decode (mC M201) 185 = .ok (.iconst 1, 1) := by decide +kernel
theorem d201_186 : decode (mC M201) 186 = .ok (.iadd, 1) := by decide +kernel
theorem d201_187 : decode (mC M201) 187 = .ok (.iload_n 3, 1) := by decide +kernel
theorem d201_188 : decode (mC M201) 188 = .ok (.iastore, 1) := by decide +kernel
theorem d201_189 : decode (mC M201) 189 = .ok (.aload_n 0, 1) := by decide +kernel
theorem d201_190 : decode (mC M201) 190 = .ok (.getfield 17, 3) := by decide +kernel
theorem d201_193 : decode (mC M201) 193 = .ok (.iload 4, 2) := by decide +kernel
theorem d201_195 : decode (mC M201) 195 = .ok (.iconst 2, 1) := by decide +kernel
theorem d201_196 : decode (mC M201) 196 = .ok (.iadd, 1) := by decide +kernel
theorem d201_197 : decode (mC M201) 197 = .ok (.iload 5, 2) := by decide +kernel
theorem d201_199 : decode (mC M201) 199 = .ok (.iastore, 1) := by decide +kernel
theorem d201_200 : decode (mC M201) 200 = .ok (.aload_n 0, 1) := by decide +kernel
theorem d201_201 : decode (mC M201) 201 = .ok (.getfield 17, 3) := by decide +kernel
theorem d201_204 : decode (mC M201) 204 = .ok (.iconst 4, 1) := by decide +kernel
theorem d201_205 : decode (mC M201) 205 = .ok (.dup2, 1) := by decide +kernel
theorem d201_206 : decode (mC M201) 206 = .ok (.iaload, 1) := by decide +kernel
theorem d201_207 : decode (mC M201) 207 = .ok (.iconst 1, 1) := by decide +kernel
theorem d201_208 : decode (mC M201) 208 = .ok (.iadd, 1) := by decide +kernel
theorem d201_209 : decode (mC M201) 209 = .ok (.iastore, 1) := by decide +kernel
theorem d201_210 : decode (mC M201) 210 = .ok (.return_, 1) := by decide +kernel
theorem sc201_0 : ∀ q ∈ tc201_0, Snd xtb M201 q.1 q.2 := List.forall_mem_cons.mpr ⟨snd_aload_n d201_0 rfl, List.forall_mem_cons.mpr ⟨snd_iconst d201_1 (by decide +kernel), List.forall_mem_cons.mpr ⟨snd_bipush d201_2 (by decide +kernel), List.forall_mem_cons.mpr ⟨snd_callV (by decide) rfl cn196 ⟨by decide +kernel, by decide +kernel⟩ cm196 (List.forall_mem_cons.mpr ⟨wd1545, cw196⟩) d201_4, List.forall_mem_cons.mpr ⟨snd_aload_n d201_7 rfl, List.forall_mem_cons.mpr ⟨snd_iconst d201_8 (by decide +kernel), List.forall_mem_cons.mpr ⟨snd_callV (by decide) rfl cn192 ⟨by decide +kernel, by decide +kernel⟩ cm192 (List.forall_mem_cons.mpr ⟨wd1577, cw192⟩) d201_9, List.forall_mem_cons.mpr ⟨snd_istore_n d201_12 rfl, List.forall_mem_cons.mpr ⟨snd_aload_n d201_13 rfl, List.forall_mem_cons.mpr ⟨snd_getR (by decide) (by decide) rfl wd1371 d201_14, List.forall_mem_cons.mpr ⟨snd_iload_n d201_17 rfl, List.forall_mem_cons.mpr ⟨snd_callS cn200 ⟨by decide +kernel, by decide +kernel⟩ cm200 (List.forall_mem_cons.mpr ⟨wd1594, cw200⟩) d201_18, List.forall_mem_cons.mpr ⟨snd_istore_n d201_21 rfl, List.forall_mem_cons.mpr ⟨snd_aload_n d201_22 rfl, List.forall_mem_cons.mpr ⟨snd_iload_n d201_23 rfl, List.forall_mem_cons.mpr ⟨snd_iconst d201_24 (by decide +kernel), List.forall_mem_cons.mpr ⟨snd_cmp_ne d201_25 (by decide), List.forall_mem_cons.mpr ⟨snd_iconst d201_28 (by decide +kernel), List.forall_mem_cons.mpr ⟨snd_goto d201_29 (by decide), List.forall_mem_cons.mpr ⟨snd_aload_n d201_32 rfl, List.forall_mem_cons.mpr ⟨snd_getR (by decide) (by decide) rfl wd1371 d201_33, List.forall_mem_cons.mpr ⟨snd_iload_n d201_36 rfl, List.forall_mem_cons.mpr ⟨snd_callS cn199 ⟨by decide +kernel, by decide +kernel⟩ cm199 (List.forall_mem_cons.mpr ⟨wd1597, cw199⟩) d201_37, List.forall_mem_cons.mpr ⟨snd_iconst d201_40 (by decide +kernel), List.forall_mem_cons.mpr ⟨snd_iadd d201_41, List.forall_mem_cons.mpr ⟨snd_iald d201_42, List.forall_mem_cons.mpr ⟨snd_iconst d201_43 (by decide +kernel), List.forall_mem_cons.mpr ⟨snd_iadd d201_44, List.forall_mem_cons.mpr ⟨snd_sipush d201_45 (by decide +kernel), List.forall_mem_cons.mpr ⟨snd_callV (by decide) rfl cn184 ⟨by decide +kernel, by decide +kernel⟩ cm184 (List.forall_mem_cons.mpr ⟨wd1535, cw184⟩) d201_48, fun _ h => by cases h⟩⟩⟩⟩⟩⟩⟩⟩⟩⟩⟩⟩⟩⟩⟩⟩⟩⟩⟩⟩⟩⟩⟩⟩⟩⟩⟩⟩⟩⟩
theorem sc201_1 : ∀ q ∈ tc201_1, Snd xtb M201 q.1 q.2 := List.forall_mem_cons.mpr ⟨snd_istore_n d201_51 rfl, List.forall_mem_cons.mpr ⟨snd_aload_n d201_52 rfl, List.forall_mem_cons.mpr ⟨snd_getR (by decide) (by decide) rfl wd1371 d201_53, List.forall_mem_cons.mpr ⟨snd_iconst d201_56 (by decide +kernel), List.forall_mem_cons.mpr ⟨snd_iald d201_57, List.forall_mem_cons.mpr ⟨snd_callS cn199 ⟨by decide +kernel, by decide +kernel⟩ cm199 (List.forall_mem_cons.mpr ⟨wd1597, cw199⟩) d201_58, List.forall_mem_cons.mpr ⟨snd_istore d201_61, List.forall_mem_cons.mpr ⟨snd_iconst d201_63 (by decide +kernel), List.forall_mem_cons.mpr ⟨snd_istore d201_64, List.forall_mem_cons.mpr ⟨snd_aload_n d201_66 rfl, List.forall_mem_cons.mpr ⟨snd_ldcS (tx := "none") d201_67 (by decide +kernel), List.forall_mem_cons.mpr ⟨snd_callV (by decide) rfl cn183 ⟨by decide +kernel, by decide +kernel⟩ cm183 (List.forall_mem_cons.mpr ⟨wd1531, cw183⟩) d201_69, List.forall_mem_cons.mpr ⟨snd_istore d201_72, List.forall_mem_cons.mpr ⟨snd_aload_n d201_74 rfl, List.forall_mem_cons.mpr ⟨snd_getI (by decide) (by decide) rfl wd1382 d201_75, List.forall_mem_cons.mpr ⟨snd_if_ne d201_78 (by decide), List.forall_mem_cons.mpr ⟨snd_iload d201_81, List.forall_mem_cons.mpr ⟨snd_if_ne d201_83 (by decide), List.forall_mem_cons.mpr ⟨snd_iload d201_86, List.forall_mem_cons.mpr ⟨snd_iconst d201_88 (by decide +kernel), List.forall_mem_cons.mpr ⟨snd_cmp_lt d201_89 (by decide), List.forall_mem_cons.mpr ⟨snd_iload d201_92, List.forall_mem_cons.mpr ⟨snd_bipush d201_94 (by decide +kernel), List.forall_mem_cons.mpr ⟨snd_cmp_ge d201_96 (by decide), List.forall_mem_cons.mpr ⟨snd_aload_n d201_99 rfl, List.forall_mem_cons.mpr ⟨snd_getI (by decide) (by decide) rfl wd1379 d201_100, List.forall_mem_cons.mpr ⟨snd_iconst d201_103 (by decide +kernel), List.forall_mem_cons.mpr ⟨snd_cmp_ne d201_104 (by decide), List.forall_mem_cons.mpr ⟨snd_aload_n d201_107 rfl, List.forall_mem_cons.mpr ⟨snd_getR (by decide) (by decide) rfl wd1371 d201_108, fun _ h => by cases h⟩⟩⟩⟩⟩⟩⟩⟩⟩⟩⟩⟩⟩⟩⟩⟩⟩⟩⟩⟩⟩⟩⟩⟩⟩⟩⟩⟩⟩⟩
theorem sc201_2 : ∀ q ∈ tc201_2, Snd xtb M201 q.1 q.2 := List.forall_mem_cons.mpr ⟨snd_iload d201_111, List.forall_mem_cons.mpr ⟨snd_iconst d201_113 (by decide +kernel), List.forall_mem_cons.mpr ⟨snd_iadd d201_114, List.forall_mem_cons.mpr ⟨snd_iconst d201_115 (by decide +kernel), List.forall_mem_cons.mpr ⟨snd_iload d201_116, List.forall_mem_cons.mpr ⟨snd_imul d201_118, List.forall_mem_cons.mpr ⟨snd_iadd d201_119, List.forall_mem_cons.mpr ⟨snd_aload_n d201_120 rfl, List.forall_mem_cons.mpr ⟨snd_iconst d201_121 (by decide +kernel), List.forall_mem_cons.mpr ⟨snd_aload_n d201_122 rfl, List.forall_mem_cons.mpr ⟨snd_getR (by decide) (by decide) rfl wd1371 d201_123, List.forall_mem_cons.mpr ⟨snd_iconst d201_126 (by decide +kernel), List.forall_mem_cons.mpr ⟨snd_iald d201_127, List.forall_mem_cons.mpr ⟨snd_callV (by decide) rfl cn184 ⟨by decide +kernel, by decide +kernel⟩ cm184 (List.forall_mem_cons.mpr ⟨wd1535, cw184⟩) d201_128, List.forall_mem_cons.mpr ⟨snd_iast d201_131, List.forall_mem_cons.mpr ⟨snd_aload_n d201_132 rfl, List.forall_mem_cons.mpr ⟨snd_getR (by decide) (by decide) rfl wd1371 d201_133, List.forall_mem_cons.mpr ⟨snd_iload d201_136, List.forall_mem_cons.mpr ⟨snd_iconst d201_138 (by decide +kernel), List.forall_mem_cons.mpr ⟨snd_iadd d201_139, List.forall_mem_cons.mpr ⟨snd_iconst d201_140 (by decide +kernel), List.forall_mem_cons.mpr ⟨snd_iload d201_141, List.forall_mem_cons.mpr ⟨snd_imul d201_143, List.forall_mem_cons.mpr ⟨snd_iadd d201_144, List.forall_mem_cons.mpr ⟨snd_aload_n d201_145 rfl, List.forall_mem_cons.mpr ⟨snd_iconst d201_146 (by decide +kernel), List.forall_mem_cons.mpr ⟨snd_aload_n d201_147 rfl, List.forall_mem_cons.mpr ⟨snd_getR (by decide) (by decide) rfl wd1371 d201_148, List.forall_mem_cons.mpr ⟨snd_iconst d201_151 (by decide +kernel), List.forall_mem_cons.mpr ⟨snd_iald d201_152, fun _ h => by cases h⟩⟩⟩⟩⟩⟩⟩⟩⟩⟩⟩⟩⟩⟩⟩⟩⟩⟩⟩⟩⟩⟩⟩⟩⟩⟩⟩⟩⟩⟩
theorem sc201_3 : ∀ q ∈ tc201_3, Snd xtb M201 q.1 q.2 := List.forall_mem_cons.mpr ⟨snd_callV (by decide) rfl cn184 ⟨by decide +kernel, by decide +kernel⟩ cm184 (List.forall_mem_cons.mpr ⟨wd1535, cw184⟩) d201_153, List.forall_mem_cons.mpr ⟨snd_iast d201_156, List.forall_mem_cons.mpr ⟨snd_iinc d201_157 (by decide +kernel), List.forall_mem_cons.mpr ⟨snd_goto d201_160 (by decide), List.forall_mem_cons.mpr ⟨snd_aload_n d201_163 rfl, List.forall_mem_cons.mpr ⟨snd_getI (by decide) (by decide) rfl wd1382 d201_164, List.forall_mem_cons.mpr ⟨snd_if_le d201_167 (by decide), List.forall_mem_cons.mpr ⟨snd_vret rfl d201_170, List.forall_mem_cons.mpr ⟨snd_aload_n d201_171 rfl, List.forall_mem_cons.mpr ⟨snd_getR (by decide) (by decide) rfl wd1371 d201_172, List.forall_mem_cons.mpr ⟨snd_iload d201_175, List.forall_mem_cons.mpr ⟨snd_iload_n d201_177 rfl, List.forall_mem_cons.mpr ⟨snd_iast d201_178, List.forall_mem_cons.mpr ⟨snd_aload_n d201_179 rfl, List.forall_mem_cons.mpr ⟨snd_getR (by decide) (by decide) rfl wd1371 d201_180, List.forall_mem_cons.mpr ⟨snd_iload d201_183, List.forall_mem_cons.mpr ⟨snd_iconst d201_185 (by decide +kernel), List.forall_mem_cons.mpr ⟨snd_iadd d201_186, List.forall_mem_cons.mpr ⟨snd_iload_n d201_187 rfl, List.forall_mem_cons.mpr ⟨snd_iast d201_188, List.forall_mem_cons.mpr ⟨snd_aload_n d201_189 rfl, List.forall_mem_cons.mpr ⟨snd_getR (by decide) (by decide) rfl wd1371 d201_190, List.forall_mem_cons.mpr ⟨snd_iload d201_193, List.forall_mem_cons.mpr ⟨snd_iconst d201_195 (by decide +kernel), List.forall_mem_cons.mpr ⟨snd_iadd d201_196, List.forall_mem_cons.mpr ⟨snd_iload d201_197, List.forall_mem_cons.mpr ⟨snd_iast d201_199, List.forall_mem_cons.mpr ⟨snd_aload_n d201_200 rfl, List.forall_mem_cons.mpr ⟨snd_getR (by decide) (by decide) rfl wd1371 d201_201, List.forall_mem_cons.mpr ⟨snd_iconst d201_204 (by decide +kernel), fun _ h => by cases h⟩⟩⟩⟩⟩⟩⟩⟩⟩⟩⟩⟩⟩⟩⟩⟩⟩⟩⟩⟩⟩⟩⟩⟩⟩⟩⟩⟩⟩⟩
theorem sc201_4 : ∀ q ∈ tc201_4, Snd xtb M201 q.1 q.2 := List.forall_mem_cons.mpr ⟨snd_dup2 d201_205, List.forall_mem_cons.mpr ⟨snd_iald d201_206, List.forall_mem_cons.mpr ⟨snd_iconst d201_207 (by decide +kernel), List.forall_mem_cons.mpr ⟨snd_iadd d201_208, List.forall_mem_cons.mpr ⟨snd_iast d201_209, List.forall_mem_cons.mpr ⟨snd_vret rfl d201_210, fun _ h => by cases h⟩⟩⟩⟩⟩⟩
theorem d202_0 : decode (mC M202) 0 = .ok (.aload_n 0, 1) := by decide +kernel
theorem d202_1 : decode (mC M202) 1 = .ok (.iconst 5, 1) := by decide +kernel
theorem d202_2 : decode (mC M202) 2 = .ok (.iaload, 1) := by decide +kernel
theorem d202_3 : decode (mC M202) 3 = .ok (.iconst 1, 1) := by decide +kernel
theorem d202_4 : decode (mC M202) 4 = .ok (.isub, 1) := by decide +kernel
theorem d202_5 : decode (mC M202) 5 = .ok (.istore_n 3, 1) := by decide +kernel
theorem d202_6 : decode (mC M202) 6 = .ok (.iload_n 3, 1) := by decide +kernel
theorem d202_7 : decode (mC M202) 7 = .ok (.ifCond .lt 39, 3) := by decide +kernel
theorem d202_10 : decode (mC M202) 10 = .ok (.aload_n 0, 1) := by decide +kernel
theorem d202_11 : decode (mC M202) 11 = .ok (.sipush 274, 3) := by decide +kernel
theorem d202_14 : decode (mC M202) 14 = .ok (.iconst 4, 1) := by decide +kernel
theorem d202_15 : decode (mC M202) 15 = .ok (.iload_n 3, 1) := by decide +kernel
theorem d202_16 : decode (mC M202) 16 = .ok (.imul, 1) := by decide +kernel
theorem d202_17 : decode (mC M202) 17 = .ok (.iadd, 1) := by decide +kernel
theorem d202_18 : decode (mC M202) 18 = .ok (.iaload, 1) := by decide +kernel
theorem d202_19 : decode (mC M202) 19 = .ok (.iload_n 1, 1) := by decide +kernel
theorem d202_20 : decode (mC M202) 20 = .ok (.if_icmp .ne 20, 3) := by decide +kernel
theorem d202_23 : decode (mC M202) 23 = .ok (.aload_n 0, 1) := by decide +kernel
theorem d202_24 : decode (mC M202) 24 = .ok (.sipush 274, 3) := by decide +kernel
theorem d202_27 : decode (mC M202) 27 = .ok (.iconst 4, 1) := by decide +kernel
theorem d202_28 : decode (mC M202) 28 = .ok (.iload_n 3, 1) := by decide +kernel
theorem d202_29 : decode (mC M202) 29 = .ok (.imul, 1) := by decide +kernel
theorem d202_30 : decode (mC M202) 30 = .ok (.iadd, 1) := by decide +kernel
theorem d202_31 : decode (mC M202) 31 = .ok (.iconst 1, 1) := by decide +kernel
theorem d202_32 : decode (mC M202) 32 = .ok (.iadd, 1) := by decide +kernel
theorem d202_33 : decode (mC M202) 33 = .ok (.iaload, 1) := by decide +kernel
theorem d202_34 : decode (mC M202) 34 = .ok (.iload_n 2, 1) := by decide +kernel
theorem d202_35 : decode (mC M202) 35 = .ok (.if_icmp .ne 5, 3) := by decide +kernel
theorem d202_38 : decode (mC M202) 38 = .ok (.iload_n 3, 1) := by decide +kernel
theorem d202_39 : decode (mC M202) 39 = .ok (.ireturn, 1) := by decide +kernel
theorem d202_40 : decode (mC M202) 40 = .ok (.iinc 3 (-1), 3) := by decide +kernel
theorem d202_43 : decode (mC M202) 43 = .ok (.goto (-37), 3) := by decide +kernel
theorem d202_46 : decode (mC M202) 46 = .ok (.iconst (-1), 1) := by decide +kernel
theorem d202_47 : decode (mC M202) 47 = .ok (.ireturn, 1) := by decide +kernel
theorem sc202_0 : ∀ q ∈ tc202_0, Snd xtb M202 q.1 q.2 := List.forall_mem_cons.mpr ⟨snd_aload_n d202_0 rfl, List.forall_mem_cons.mpr ⟨snd_iconst d202_1 (by decide +kernel), List.forall_mem_cons.mpr ⟨snd_iald d202_2, List.forall_mem_cons.mpr ⟨snd_iconst d202_3 (by decide +kernel), List.forall_mem_cons.mpr ⟨snd_isub d202_4, List.forall_mem_cons.mpr ⟨snd_istore_n d202_5 rfl, List.forall_mem_cons.mpr ⟨snd_iload_n d202_6 rfl, List.forall_mem_cons.mpr ⟨snd_if_lt d202_7 (by decide), List.forall_mem_cons.mpr ⟨snd_aload_n d202_10 rfl, List.forall_mem_cons.mpr ⟨snd_sipush d202_11 (by decide +kernel), List.forall_mem_cons.mpr ⟨snd_iconst d202_14 (by decide +kernel), List.forall_mem_cons.mpr ⟨snd_iload_n d202_15 rfl, List.forall_mem_cons.mpr ⟨snd_imul d202_16, List.forall_mem_cons.mpr ⟨snd_iadd d202_17, List.forall_mem_cons.mpr ⟨snd_iald d202_18, List.forall_mem_cons.mpr ⟨snd_iload_n d202_19 rfl, List.forall_mem_cons.mpr ⟨snd_cmp_ne d202_20 (by decide), List.forall_mem_cons.mpr ⟨snd_aload_n d202_23 rfl, List.forall_mem_cons.mpr ⟨snd_sipush d202_24 (by decide +kernel), List.forall_mem_cons.mpr ⟨snd_iconst d202_27 (by decide +kernel), List.forall_mem_cons.mpr ⟨snd_iload_n d202_28 rfl, List.forall_mem_cons.mpr ⟨snd_imul d202_29, List.forall_mem_cons.mpr ⟨snd_iadd d202_30, List.forall_mem_cons.mpr ⟨snd_iconst d202_31 (by decide +kernel), List.forall_mem_cons.mpr ⟨snd_iadd d202_32, List.forall_mem_cons.mpr ⟨snd_iald d202_33, List.forall_mem_cons.mpr ⟨snd_iload_n d202_34 rfl, List.forall_mem_cons.mpr ⟨snd_cmp_ne d202_35 (by decide), List.forall_mem_cons.mpr ⟨snd_iload_n d202_38 rfl, List.forall_mem_cons.mpr ⟨snd_iret rfl d202_39, fun _ h => by cases h⟩⟩⟩⟩⟩⟩⟩⟩⟩⟩⟩⟩⟩⟩⟩⟩⟩⟩⟩⟩⟩⟩⟩⟩⟩⟩⟩⟩⟩⟩
theorem sc202_1 : ∀ q ∈ tc202_1, Snd xtb M202 q.1 q.2 := List.forall_mem_cons.mpr ⟨snd_iinc d202_40 (by decide +kernel), List.forall_mem_cons.mpr ⟨snd_goto d202_43 (by decide), List.forall_mem_cons.mpr ⟨snd_iconst d202_46 (by decide +kernel), List.forall_mem_cons.mpr ⟨snd_iret rfl d202_47, fun _ h => by cases h⟩⟩⟩⟩
theorem d203_0 : decode (mC M203) 0 = .ok (.aload_n 0, 1) := by decide +kernel
theorem d203_1 : decode (mC M203) 1 = .ok (.iconst 5, 1) := by decide +kernel
theorem d203_2 : decode (mC M203) 2 = .ok (.bipush 20, 2) := by decide +kernel
theorem d203_4 : decode (mC M203) 4 = .ok (.invokevirtual 212, 3) := by decide +kernel
theorem d203_7 : decode (mC M203) 7 = .ok (.aload_n 0, 1) := by decide +kernel
theorem d203_8 : decode (mC M203) 8 = .ok (.iconst 0, 1) := by decide +kernel
theorem d203_9 : decode (mC M203) 9 = .ok (.invokevirtual 220, 3) := by decide +kernel
theorem d203_12 : decode (mC M203) 12 = .ok (.istore_n 1, 1) := by decide +kernel
theorem d203_13 : decode (mC M203) 13 = .ok (.aload_n 0, 1) := by decide +kernel
theorem d203_14 : decode (mC M203) 14 = .ok (.iconst 1, 1) := by decide +kernel
theorem d203_15 : decode (mC M203) 15 = .ok (.invokevirtual 220, 3) := by decide +kernel
theorem d203_18 : decode (mC M203) 18 = .ok (.istore_n 2, 1) := by decide +kernel
theorem d203_19 : decode (mC M203) 19 = .ok (.aload_n 0, 1) := by decide +kernel
theorem d203_20 : decode (mC M203) 20 = .ok (.getfield 80, 3) := by decide +kernel
theorem d203_23 : decode (mC M203) 23 = .ok (.ifCond .le 7, 3) := by decide +kernel
theorem d203_26 : decode (mC M203) 26 = .ok (.iconst (-1), 1) := by decide +kernel
theorem d203_27 : decode (mC M203) 27 = .ok (.goto 12, 3) := by decide +kernel
theorem d203_30 : decode (mC M203) 30 = .ok (.aload_n 0, 1) := by decide +kernel
theorem d203_31 : decode (mC M203) 31 = .ok (.getfield 17, 3) := by decide +kernel
theorem d203_34 : decode (mC M203) 34 = .ok (.iload_n 1, 1) := by decide +kernel
theorem d203_35 : decode (mC M203) 35 = .ok (.iload_n 2, 1) := by decide +kernel
theorem d203_36 : decode (mC M203) 36 = .ok (.invokestatic 232, 3) := by decide +kernel
theorem d203_39 : decode (mC M203) 39 = .ok (.istore_n 3, 1) := by decide +kernel
theorem d203_40 : decode (mC M203) 40 = .ok (.aload_n 0, 1) := by decide +kernel
theorem d203_41 : decode (mC M203) 41 = .ok (.iload_n 3, 1) := by decide +kernel
theorem d203_42 : decode (mC M203) 42 = .ok (.iconst (-1), 1) := by decide +kernel
theorem d203_43 : decode (mC M203) 43 = .ok (.if_icmp .ne 7, 3) := by decide +kernel
theorem d203_46 : decode (mC M203) 46 = .ok (.iconst 0, 1) := by decide +kernel
theorem d203_47 : decode (mC M203) 47 = .ok (.goto 19, 3) := by decide +kernel
theorem d203_50 : decode (mC M203) 50 = .ok (.aload_n 0, 1) := by decide +kernel
theorem d203_51 : decode (mC M203) 51 = .ok (.getfield 17, 3) := by decide +kernel
theorem d203_54 : decode (mC M203) 54 = .ok (.sipush 274, 3) := by decide +kernel
theorem d203_57 : decode (mC M203) 57 = .ok (.iconst 4, 1) := by decide +kernel
theorem d203_58 : decode (mC M203) 58 = .ok (.iload_n 3, 1) := by decide +kernel
theorem d203_59 : decode (mC M203) 59 = .ok (.imul, 1) := by decide +kernel
theorem d203_60 : decode (mC M203) 60 = .ok (.iadd, 1) := by decide +kernel
theorem d203_61 : decode (mC M203) 61 = .ok (.iconst 2, 1) := by decide +kernel
theorem d203_62 : decode (mC M203) 62 = .ok (.iadd, 1) := by decide +kernel
theorem d203_63 : decode (mC M203) 63 = .ok (.iaload, 1) := by decide +kernel
theorem d203_64 : decode (mC M203) 64 = .ok (.iconst 1, 1) := by decide +kernel
theorem d203_65 : decode (mC M203) 65 = .ok (.iadd, 1) := by decide +kernel
theorem d203_66 : decode (mC M203) 66 = .ok (.sipush 999, 3) := by decide +kernel
theorem d203_69 : decode (mC M203) 69 = .ok (.invokevirtual 139, 3) := by decide +kernel
theorem d203_72 : decode (mC M203) 72 = .ok (.istore 4, 2) := by decide +kernel
theorem d203_74 : decode (mC M203) 74 = .ok (.aload_n 0, 1) := by decide +kernel
theorem d203_75 : decode (mC M203) 75 = .ok (.iconst 0, 1) := by decide +kernel
theorem d203_76 : decode (mC M203) 76 = .ok (.sipush 2500, 3) := by decide +kernel
theorem d203_79 : decode (mC M203) 79 = .ok (.invokevirtual 139, 3) := by decide +kernel
theorem d203_82 : decode (mC M203) 82 = .ok (.istore 5, 2) := by decide +kernel
theorem d203_84 : decode (mC M203) 84 = .ok (.aload_n 0, 1) := by decide +kernel
theorem d203_85 : decode (mC M203) 85 = .ok (.getfield 80, 3) := by decide +kernel
theorem d203_88 : decode (mC M203) 88 = .ok (.ifCond .ne 16, 3) := by decide +kernel
theorem d203_91 : decode (mC M203) 91 = .ok (.aload_n 0, 1) := by decide +kernel
theorem d203_92 : decode (mC M203) 92 = .ok (.getfield 17, 3) := by decide +kernel
theorem d203_95 : decode (mC M203) 95 = .ok (.iload_n 1, 1) := by decide +kernel
theorem d203_96 : decode (mC M203) 96 = .ok (.iload_n 2, 1) := by decide +kernel
theorem d203_97 : decode (mC M203) 97 = .ok (.iload 4, 2) := by decide +kernel
theorem d203_99 : decode (mC M203) 99 = .ok (.iload 5, 2) := by decide +kernel
theorem d203_101 : decode (mC M203) 101 = .ok (.invokestatic 236, 3) := by decide +kernel
theorem d203_104 : decode (mC M203) 104 = .ok (.return_, 1) := by decide +kernel
theorem sc203_0 : ∀ q ∈ tc203_0, Snd xtb M203 q.1 q.2 := List.forall_mem_cons.mpr ⟨snd_aload_n d203_0 rfl, List.forall_mem_cons.mpr ⟨snd_iconst d203_1 (by decide +kernel), List.forall_mem_cons.mpr ⟨snd_bipush d203_2 (by decide +kernel), List.forall_mem_cons.mpr ⟨snd_callV (by decide) rfl cn196 ⟨by decide +kernel, by decide +kernel⟩ cm196 (List.forall_mem_cons.mpr ⟨wd1545, cw196⟩) d203_4, List.forall_mem_cons.mpr ⟨snd_aload_n d203_7 rfl, List.forall_mem_cons.mpr ⟨snd_iconst d203_8 (by decide +kernel), List.forall_mem_cons.mpr ⟨snd_callV (by decide) rfl cn192 ⟨by decide +kernel, by decide +kernel⟩ cm192 (List.forall_mem_cons.mpr ⟨wd1577, cw192⟩) d203_9, List.forall_mem_cons.mpr ⟨snd_istore_n d203_12 rfl, List.forall_mem_cons.mpr ⟨snd_aload_n d203_13 rfl, List.forall_mem_cons.mpr ⟨snd_iconst d203_14 (by decide +kernel), List.forall_mem_cons.mpr ⟨snd_callV (by decide) rfl cn192 ⟨by decide +kernel, by decide +kernel⟩ cm192 (List.forall_mem_cons.mpr ⟨wd1577, cw192⟩) d203_15, List.forall_mem_cons.mpr ⟨snd_istore_n d203_18 rfl, List.forall_mem_cons.mpr ⟨snd_aload_n d203_19 rfl, List.forall_mem_cons.mpr ⟨snd_getI (by decide) (by decide) rfl wd1382 d203_20, List.forall_mem_cons.mpr ⟨snd_if_le d203_23 (by decide), List.forall_mem_cons.mpr ⟨snd_iconst d203_26 (by decide +kernel), List.forall_mem_cons.mpr ⟨snd_goto d203_27 (by decide), List.forall_mem_cons.mpr ⟨snd_aload_n d203_30 rfl, List.forall_mem_cons.mpr ⟨snd_getR (by decide) (by decide) rfl wd1371 d203_31, List.forall_mem_cons.mpr ⟨snd_iload_n d203_34 rfl, List.forall_mem_cons.mpr ⟨snd_iload_n d203_35 rfl, List.forall_mem_cons.mpr ⟨snd_callS cn202 ⟨by decide +kernel, by decide +kernel⟩ cm202 (List.forall_mem_cons.mpr ⟨wd1604, cw202⟩) d203_36, List.forall_mem_cons.mpr ⟨snd_istore_n d203_39 rfl, List.forall_mem_cons.mpr ⟨snd_aload_n d203_40 rfl, List.forall_mem_cons.mpr ⟨snd_iload_n d203_41 rfl, List.forall_mem_cons.mpr ⟨snd_iconst d203_42 (by decide +kernel), List.forall_mem_cons.mpr ⟨snd_cmp_ne d203_43 (by decide), List.forall_mem_cons.mpr ⟨snd_iconst d203_46 (by decide +kernel), List.forall_mem_cons.mpr ⟨snd_goto d203_47 (by decide), List.forall_mem_cons.mpr ⟨snd_aload_n d203_50 rfl, fun _ h => by cases h⟩⟩⟩⟩⟩⟩⟩⟩⟩⟩⟩⟩⟩⟩⟩⟩⟩⟩⟩⟩⟩⟩⟩⟩⟩⟩⟩⟩⟩⟩
theorem sc203_1 : ∀ q ∈ tc203_1, Snd xtb M203 q.1 q.2 := List.forall_mem_cons.mpr ⟨snd_getR (by decide) (by decide) rfl wd1371 d203_51, List.forall_mem_cons.mpr ⟨snd_sipush d203_54 (by decide +kernel), List.forall_mem_cons.mpr ⟨snd_iconst d203_57 (by decide +kernel), List.forall_mem_cons.mpr ⟨snd_iload_n d203_58 rfl, List.forall_mem_cons.mpr ⟨snd_imul d203_59, List.forall_mem_cons.mpr ⟨snd_iadd d203_60, List.forall_mem_cons.mpr ⟨snd_iconst d203_61 (by decide +kernel), List.forall_mem_cons.mpr ⟨snd_iadd d203_62, List.forall_mem_cons.mpr ⟨snd_iald d203_63, List.forall_mem_cons.mpr ⟨snd_iconst d203_64 (by decide +kernel), List.forall_mem_cons.mpr ⟨snd_iadd d203_65, List.forall_mem_cons.mpr ⟨snd_sipush d203_66 (by decide +kernel), List.forall_mem_cons.mpr ⟨snd_callV (by decide) rfl cn184 ⟨by decide +kernel, by decide +kernel⟩ cm184 (List.forall_mem_cons.mpr ⟨wd1535, cw184⟩) d203_69, List.forall_mem_cons.mpr ⟨snd_istore d203_72, List.forall_mem_cons.mpr ⟨snd_aload_n d203_74 rfl, List.forall_mem_cons.mpr ⟨snd_iconst d203_75 (by decide +kernel), List.forall_mem_cons.mpr ⟨snd_sipush d203_76 (by decide +kernel), List.forall_mem_cons.mpr ⟨snd_callV (by decide) rfl cn184 ⟨by decide +kernel, by decide +kernel⟩ cm184 (List.forall_mem_cons.mpr ⟨wd1535, cw184⟩) d203_79, List.forall_mem_cons.mpr ⟨snd_istore d203_82, List.forall_mem_cons.mpr ⟨snd_aload_n d203_84 rfl, List.forall_mem_cons.mpr ⟨snd_getI (by decide) (by decide) rfl wd1382 d203_85, List.forall_mem_cons.mpr ⟨snd_if_ne d203_88 (by decide), List.forall_mem_cons.mpr ⟨snd_aload_n d203_91 rfl, List.forall_mem_cons.mpr ⟨snd_getR (by decide) (by decide) rfl wd1371 d203_92, List.forall_mem_cons.mpr ⟨snd_iload_n d203_95 rfl, List.forall_mem_cons.mpr ⟨snd_iload_n d203_96 rfl, List.forall_mem_cons.mpr ⟨snd_iload d203_97, List.forall_mem_cons.mpr ⟨snd_iload d203_99, List.forall_mem_cons.mpr ⟨snd_callS cn204 ⟨by decide +kernel, by decide +kernel⟩ cm204 (List.forall_mem_cons.mpr ⟨wd1607, cw204⟩) d203_101, List.forall_mem_cons.mpr ⟨snd_vret rfl d203_104, fun _ h => by cases h⟩⟩⟩⟩⟩⟩⟩⟩⟩⟩⟩⟩⟩⟩⟩⟩⟩⟩⟩⟩⟩⟩⟩⟩⟩⟩⟩⟩⟩⟩
theorem d204_0 : decode (mC M204) 0 = .ok (.sipush 274, 3) := by decide +kernel
theorem d204_3 : decode (mC M204) 3 = .ok (.iconst 4, 1) := by decide +kernel
theorem d204_4 : decode (mC M204) 4 = .ok (.aload_n 0, 1) := by decide +kernel
theorem d204_5 : decode (mC M204) 5 = .ok (.iconst 5, 1) := by decide +kernel
theorem d204_6 : decode (mC M204) 6 = .ok (.iaload, 1) := by decide +kernel
theorem d204_7 : decode (mC M204) 7 = .ok (.imul, 1) := by decide +kernel
theorem d204_8 : decode (mC M204) 8 = .ok (.iadd, 1) := by decide +kernel
theorem d204_9 : decode (mC M204) 9 = .ok (.istore 5, 2) := by decide +kernel
theorem d204_11 : decode (mC M204) 11 = .ok (.aload_n 0, 1) := by decide +kernel
theorem d204_12 : decode (mC M204) 12 = .ok (.iload 5, 2) := by decide +kernel
theorem d204_14 : decode (mC M204) 14 = .ok (.iload_n 1, 1) := by decide +kernel
theorem d204_15 : decode (mC M204) 15 = .ok (.iastore, 1) := by decide +kernel
theorem d204_16 : decode (mC M204) 16 = .ok (.aload_n 0, 1) := by decide +kernel
theorem d204_17 : decode (mC M204) 17 = .ok (.iload 5, 2) := by decide +kernel
theorem d204_19 : decode (mC M204) 19 = .ok (.iconst 1, 1) := by decide +kernel
theorem d204_20 : decode (mC M204) 20 = .ok (.iadd, 1) := by decide +kernel
theorem d204_21 : decode (mC M204) 21 = .ok (.iload_n 2, 1) := by decide +kernel
theorem d204_22 : decode (mC M204) 22 = .ok (.iastore, 1) := by decide +kernel
theorem d204_23 : decode (mC M204) 23 = .ok (.aload_n 0, 1) := by decide +kernel
theorem d204_24 : decode (mC M204) 24 = .ok (.iload 5, 2) := by decide +kernel
theorem d204_26 : decode (mC M204) 26 = .ok (.iconst 2, 1) := by decide +kernel
theorem d204_27 : decode (mC M204) 27 = .ok (.iadd, 1) := by decide +kernel
theorem d204_28 : decode (mC M204) 28 = .ok (.iload_n 3, 1) := by decide +kernel
theorem d204_29 : decode (mC M204) 29 = .ok (.iastore, 1) := by decide +kernel
theorem d204_30 : decode (mC M204) 30 = .ok (.aload_n 0, 1) := by decide +kernel
theorem d204_31 : decode (mC M204) 31 = .ok (.iload 5, 2) := by decide +kernel
theorem d204_33 : decode (mC M204) 33 = .ok (.iconst 3, 1) := by decide +kernel
theorem d204_34 : decode (mC M204) 34 = .ok (.iadd, 1) := by decide +kernel
theorem d204_35 : decode (mC M204) 35 = .ok (.iload 4, 2) := by decide +kernel
theorem d204_37 : decode (mC M204) 37 = .ok (.iastore, 1) := by decide +kernel
theorem d204_38 : decode (mC M204) 38 = .ok (.aload_n 0, 1) := by decide +kernel
theorem d204_39 : decode (mC M204) 39 = .ok (.iconst 5, 1) := by decide +kernel
theorem d204_40 : decode (mC M204) 40 = .ok (.dup2, 1) := by decide +kernel
theorem d204_41 : decode (mC M204) 41 = .ok (.iaload, 1) := by decide +kernel
theorem d204_42 : decode (mC M204) 42 = .ok (.iconst 1, 1) := by decide +kernel
theorem d204_43 : decode (mC M204) 43 = .ok (.iadd, 1) := by decide +kernel
theorem d204_44 : decode (mC M204) 44 = .ok (.iastore, 1) := by decide +kernel
theorem d204_45 : decode (mC M204) 45 = .ok (.return_, 1) := by decide +kernel
theorem sc204_0 : ∀ q ∈ tc204_0, Snd xtb M204 q.1 q.2 := List.forall_mem_cons.mpr ⟨snd_sipush d204_0 (by decide +kernel), List.forall_mem_cons.mpr ⟨snd_iconst d204_3 (by decide +kernel), List.forall_mem_cons.mpr ⟨snd_aload_n d204_4 rfl, List.forall_mem_cons.mpr ⟨snd_iconst d204_5 (by decide +kernel), List.forall_mem_cons.mpr ⟨snd_iald d204_6, List.forall_mem_cons.mpr ⟨snd_imul d204_7, List.forall_mem_cons.mpr ⟨snd_iadd d204_8, List.forall_mem_cons.mpr ⟨snd_istore d204_9, List.forall_mem_cons.mpr ⟨snd_aload_n d204_11 rfl, List.forall_mem_cons.mpr ⟨snd_iload d204_12, List.forall_mem_cons.mpr ⟨snd_iload_n d204_14 rfl, List.forall_mem_cons.mpr ⟨snd_iast d204_15, List.forall_mem_cons.mpr ⟨snd_aload_n d204_16 rfl, List.forall_mem_cons.mpr ⟨snd_iload d204_17, List.forall_mem_cons.mpr ⟨snd_iconst d204_19 (by decide +kernel), List.forall_mem_cons.mpr ⟨snd_iadd d204_20, List.forall_mem_cons.mpr ⟨snd_iload_n d204_21 rfl, List.forall_mem_cons.mpr ⟨snd_iast d204_22, List.forall_mem_cons.mpr ⟨snd_aload_n d204_23 rfl, List.forall_mem_cons.mpr ⟨snd_iload d204_24, List.forall_mem_cons.mpr ⟨snd_iconst d204_26 (by decide +kernel), List.forall_mem_cons.mpr ⟨snd_iadd d204_27, List.forall_mem_cons.mpr ⟨snd_iload_n d204_28 rfl, List.forall_mem_cons.mpr ⟨snd_iast d204_29, List.forall_mem_cons.mpr ⟨snd_aload_n d204_30 rfl, List.forall_mem_cons.mpr ⟨snd_iload d204_31, List.forall_mem_cons.mpr ⟨snd_iconst d204_33 (by decide +kernel), List.forall_mem_cons.mpr ⟨snd_iadd d204_34, List.forall_mem_cons.mpr ⟨snd_iload d204_35, List.forall_mem_cons.mpr ⟨snd_iast d204_37, fun _ h => by cases h⟩⟩⟩⟩⟩⟩⟩⟩⟩⟩⟩⟩⟩⟩⟩⟩⟩⟩⟩⟩⟩⟩⟩⟩⟩⟩⟩⟩⟩⟩
theorem sc204_1 : ∀ q ∈ tc204_1, Snd xtb M204 q.1 q.2 := List.forall_mem_cons.mpr ⟨snd_aload_n d204_38 rfl, List.forall_mem_cons.mpr ⟨snd_iconst d204_39 (by decide +kernel), List.forall_mem_cons.mpr ⟨snd_dup2 d204_40, List.forall_mem_cons.mpr ⟨snd_iald d204_41, List.forall_mem_cons.mpr ⟨snd_iconst d204_42 (by decide +kernel), List.forall_mem_cons.mpr ⟨snd_iadd d204_43, List.forall_mem_cons.mpr ⟨snd_iast d204_44, List.forall_mem_cons.mpr ⟨snd_vret rfl d204_45, fun _ h => by cases h⟩⟩⟩⟩⟩⟩⟩⟩
theorem d205_0 : decode (mC M205) 0 = .ok (.aload_n 0, 1) := by decide +kernel
theorem d205_1 : decode (mC M205) 1 = .ok (.bipush 6, 2) := by decide +kernel
theorem d205_3 : decode (mC M205) 3 = .ok (.bipush 6, 2) := by decide +kernel
theorem d205_5 : decode (mC M205) 5 = .ok (.invokevirtual 212, 3) := by decide +kernel
theorem d205_8 : decode (mC M205) 8 = .ok (.aload_n 0, 1) := by decide +kernel
theorem d205_9 : decode (mC M205) 9 = .ok (.iconst 0, 1) := by decide +kernel
theorem d205_10 : decode (mC M205) 10 = .ok (.invokevirtual 220, 3) := by decide +kernel
theorem d205_13 : decode (mC M205) 13 = .ok (.istore_n 1, 1) := by decide +kernel
theorem d205_14 : decode (mC M205) 14 = .ok (.aload_n 0, 1) := by decide +kernel
theorem d205_15 : decode (mC M205) 15 = .ok (.iconst 1, 1) := by decide +kernel
theorem d205_16 : decode (mC M205) 16 = .ok (.invokevirtual 220, 3) := by decide +kernel
theorem d205_19 : decode (mC M205) 19 = .ok (.istore_n 2, 1) := by decide +kernel
theorem d205_20 : decode (mC M205) 20 = .ok (.aload_n 0, 1) := by decide +kernel
theorem d205_21 : decode (mC M205) 21 = .ok (.iconst 0, 1) := by decide +kernel
theorem d205_22 : decode (mC M205) 22 = .ok (.sipush 999, 3) := by decide +kernel
theorem d205_25 : decode (mC M205) 25 = .ok (.invokevirtual 139, 3) := by decide +kernel
theorem d205_28 : decode (mC M205) 28 = .ok (.istore_n 3, 1) := by decide +kernel
theorem d205_29 : decode (mC M205) 29 = .ok (.aload_n 0, 1) := by decide +kernel
theorem d205_30 : decode (mC M205) 30 = .ok (.iload_n 3, 1) := by decide +kernel
theorem d205_31 : decode (mC M205) 31 = .ok (.sipush 999, 3) := by decide +kernel
theorem d205_34 : decode (mC M205) 34 = .ok (.invokevirtual 139, 3) := by decide +kernel
theorem d205_37 : decode (mC M205) 37 = .ok (.istore 4, 2) := by decide +kernel
theorem d205_39 : decode (mC M205) 39 = .ok (.aload_n 0, 1) := by decide +kernel
theorem d205_40 : decode (mC M205) 40 = .ok (.ldc 240, 2) := by decide +kernel
theorem d205_42 : decode (mC M205) 42 = .ok (.iconst 1, 1) := by decide +kernel
theorem d205_43 : decode (mC M205) 43 = .ok (.sipush 9999, 3) := by decide +kernel
theorem d205_46 : decode (mC M205) 46 = .ok (.invokevirtual 206, 3) := by decide +kernel
theorem d205_49 : decode (mC M205) 49 = .ok (.istore 5, 2) := by decide +kernel
theorem d205_51 : decode (mC M205) 51 = .ok (.aload_n 0, 1) := by decide +kernel
theorem d205_52 : decode (mC M205) 52 = .ok (.getfield 80, 3) := by decide +kernel
theorem d205_55 : decode (mC M205) 55 = .ok (.ifCond .le 4, 3) := by decide +kernel
theorem d205_58 : decode (mC M205) 58 = .ok (.return_, 1) := by decide +kernel
theorem d205_59 : decode (mC M205) 59 = .ok (.sipush 354, 3) := by decide +kernel
theorem d205_62 : decode (mC M205) 62 = .ok (.iconst 5, 1) := by decide +kernel
theorem d205_63 : decode (mC M205) 63 = .ok (.aload_n 0, 1) := by decide +kernel
theorem d205_64 : decode (mC M205) 64 = .ok (.getfield 17, 3) := by decide +kernel
theorem d205_67 : decode (mC M205) 67 = .ok (.bipush 6, 2) := by decide +kernel
theorem d205_69 : decode (mC M205) 69 = .ok (.iaload, 1) := by decide +kernel
theorem d205_70 : decode (mC M205) 70 = .ok (.imul, 1) := by decide +kernel
theorem d205_71 : decode (mC M205) 71 = .ok (.iadd, 1) := by decide +kernel
theorem d205_72 : decode (mC M205) 72 = .ok (.istore 6, 2) := by decide +kernel
theorem d205_74 : decode (mC M205) 74 = .ok (.aload_n 0, 1) := by decide +kernel
theorem d205_75 : decode (mC M205) 75 = .ok (.getfield 17, 3) := by decide +kernel
theorem d205_78 : decode (mC M205) 78 = .ok (.iload 6, 2) := by decide +kernel
theorem d205_80 : decode (mC M205) 80 = .ok (.iload_n 1, 1) := by decide +kernel
theorem d205_81 : decode (mC M205) 81 = .ok (.iastore, 1) := by decide +kernel
theorem d205_82 : decode (mC M205) 82 = .ok (.aload_n 0, 1) := by decide +kernel
theorem d205_83 : decode (mC M205) 83 = .ok (.getfield 17, 3) := by decide +kernel
theorem d205_86 : decode (mC M205) 86 = .ok (.iload 6, 2) := by decide +kernel
theorem d205_88 : decode (mC M205) 88 = .ok (.iconst 1, 1) := by decide +kernel
theorem d205_89 : decode (mC M205) 89 = .ok (.iadd, 1) := by decide +kernel
theorem d205_90 : decode (mC M205) 90 = .ok (.iload_n 2, 1) := by decide +kernel
theorem d205_91 : decode (mC M205) 91 = .ok (.iastore, 1) := by decide +kernel
theorem d205_92 : decode (mC M205) 92 = .ok (.aload_n 0, 1) := by decide +kernel
theorem d205_93 : decode (mC M205) 93 = .ok (.getfield 17, 3) := by decide +kernel
theorem d205_96 : decode (mC M205) 96 = .ok (.iload 6, 2) := by decide +kernel
theorem d205_98 : decode (mC M205) 98 = .ok (.iconst 2, 1) := by decide +kernel
theorem d205_99 : decode (mC M205) 99 = .ok (.iadd, 1) := by decide +kernel
theorem d205_100 : decode (mC M205) 100 = .ok (.iload_n 3, 1) := by decide +kernel
theorem d205_101 : decode (mC M205) 101 = .ok (.iastore, 1) := by decide +kernel
theorem d205_102 : decode (mC M205) 102 = .ok (.aload_n 0, 1) := by decide +kernel
theorem d205_103 : decode (mC M205) 103 = .ok (.getfield 17, 3) := by decide +kernel
theorem d205_106 : decode (mC M205) 106 = .ok (.iload 6, 2) := by decide +kernel
theorem d205_108 : decode (mC M205) 108 = .ok (.iconst 3, 1) := by decide +kernel
theorem d205_109 : decode (mC M205) 109 = .ok (.iadd, 1) := by decide +kernel
theorem d205_110 : decode (mC M205) 110 = .ok (.iload 4, 2) := by decide +kernel
theorem d205_112 : decode (mC M205) 112 = .ok (.iastore, 1) := by decide +kernel
theorem d205_113 : decode (mC M205) 113 = .ok (.aload_n 0, 1) := by decide +kernel
theorem d205_114 : decode (mC M205) 114 = .ok (.getfield 17, 3) := by decide +kernel
theorem d205_117 : decode (mC M205) 117 = .ok (.iload 6, 2) := by decide +kernel
theorem d205_119 : decode (mC M205) 119 = .ok (.iconst 4, 1) := by decide +kernel
theorem d205_120 : decode (mC M205) 120 = .ok (.iadd, 1) := by decide +kernel
theorem d205_121 : decode (mC M205) 121 = .ok (.iload 5, 2) := by decide +kernel
theorem d205_123 : decode (mC M205) 123 = .ok (.iastore, 1) := by decide +kernel
theorem d205_124 : decode (mC M205) 124 = .ok (.aload_n 0, 1) := by decide +kernel
theorem d205_125 : decode (mC M205) 125 = .ok (.getfield 17, 3) := by decide +kernel
theorem d205_128 : decode (mC M205) 128 = .ok (.bipush 6, 2) := by decide +kernel
theorem d205_130 : decode (mC M205) 130 = .ok (.dup2, 1) := by decide +kernel
theorem d205_131 : decode (mC M205) 131 = .ok (.iaload, 1) := by decide +kernel
theorem d205_132 : decode (mC M205) 132 = .ok (.iconst 1, 1) := by decide +kernel
theorem d205_133 : decode (mC M205) 133 = .ok (.iadd, 1) := by decide +kernel
theorem d205_134 : decode (mC M205) 134 = .ok (.iastore, 1) := by decide +kernel
theorem d205_135 : decode (mC M205) 135 = .ok (.return_, 1) := by decide +kernel
theorem sc205_0 : ∀ q ∈ tc205_0, Snd xtb M205 q.1 q.2 := List.forall_mem_cons.mpr ⟨snd_aload_n d205_0 rfl, List.forall_mem_cons.mpr ⟨snd_bipush d205_1 (by decide +kernel), List.forall_mem_cons.mpr ⟨snd_bipush d205_3 (by decide +kernel), List.forall_mem_cons.mpr ⟨snd_callV (by decide) rfl cn196 ⟨by decide +kernel, by decide +kernel⟩ cm196 (List.forall_mem_cons.mpr ⟨wd1545, cw196⟩) d205_5, List.forall_mem_cons.mpr ⟨snd_aload_n d205_8 rfl, List.forall_mem_cons.mpr ⟨snd_iconst d205_9 (by decide +kernel), List.forall_mem_cons.mpr ⟨snd_callV (by decide) rfl cn192 ⟨by decide +kernel, by decide +kernel⟩ cm192 (List.forall_mem_cons.mpr ⟨wd1577, cw192⟩) d205_10, List.forall_mem_cons.mpr ⟨snd_istore_n d205_13 rfl, List.forall_mem_cons.mpr ⟨snd_aload_n d205_14 rfl, List.forall_mem_cons.mpr ⟨snd_iconst d205_15 (by decide +kernel), List.forall_mem_cons.mpr ⟨snd_callV (by decide) rfl cn192 ⟨by decide +kernel, by decide +kernel⟩ cm192 (List.forall_mem_cons.mpr ⟨wd1577, cw192⟩) d205_16, List.forall_mem_cons.mpr ⟨snd_istore_n d205_19 rfl, List.forall_mem_cons.mpr ⟨snd_aload_n d205_20 rfl, List.forall_mem_cons.mpr ⟨snd_iconst d205_21 (by decide +kernel), List.forall_mem_cons.mpr ⟨snd_sipush d205_22 (by decide +kernel), List.forall_mem_cons.mpr ⟨snd_callV (by decide) rfl cn184 ⟨by decide +kernel, by decide +kernel⟩ cm184 (List.forall_mem_cons.mpr ⟨wd1535, cw184⟩) d205_25, List.forall_mem_cons.mpr ⟨snd_istore_n d205_28 rfl, List.forall_mem_cons.mpr ⟨snd_aload_n d205_29 rfl, List.forall_mem_cons.mpr ⟨snd_iload_n d205_30 rfl, List.forall_mem_cons.mpr ⟨snd_sipush d205_31 (by decide +kernel), List.forall_mem_cons.mpr ⟨snd_callV (by decide) rfl cn184 ⟨by decide +kernel, by decide +kernel⟩ cm184 (List.forall_mem_cons.mpr ⟨wd1535, cw184⟩) d205_34, List.forall_mem_cons.mpr ⟨snd_istore d205_37, List.forall_mem_cons.mpr ⟨snd_aload_n d205_39 rfl, List.forall_mem_cons.mpr ⟨snd_ldcS (tx := "price") d205_40 (by decide +kernel), List.forall_mem_cons.mpr ⟨snd_iconst d205_42 (by decide +kernel), List.forall_mem_cons.mpr ⟨snd_sipush d205_43 (by decide +kernel), List.forall_mem_cons.mpr ⟨snd_callV (by decide) rfl cn185 ⟨by decide +kernel, by decide +kernel⟩ cm185 (List.forall_mem_cons.mpr ⟨wd1527, cw185⟩) d205_46, List.forall_mem_cons.mpr ⟨snd_istore d205_49, List.forall_mem_cons.mpr ⟨snd_aload_n d205_51 rfl, List.forall_mem_cons.mpr ⟨snd_getI (by decide) (by decide) rfl wd1382 d205_52, fun _ h => by cases h⟩⟩⟩⟩⟩⟩⟩⟩⟩⟩⟩⟩⟩⟩⟩⟩⟩⟩⟩⟩⟩⟩⟩⟩⟩⟩⟩⟩⟩⟩
theorem sc205_1 : ∀ q ∈ tc205_1, Snd xtb M205 q.1 q.2 := List.forall_mem_cons.mpr ⟨snd_if_le d205_55 (by decide), List.forall_mem_cons.mpr ⟨snd_vret rfl d205_58, List.forall_mem_cons.mpr ⟨snd_sipush d205_59 (by decide +kernel), List.forall_mem_cons.mpr ⟨snd_iconst d205_62 (by decide +kernel), List.forall_mem_cons.mpr ⟨snd_aload_n d205_63 rfl, List.forall_mem_cons.mpr ⟨snd_getR (by decide) (by decide) rfl wd1371 d205_64, List.forall_mem_cons.mpr ⟨snd_bipush d205_67 (by decide +kernel), List.forall_mem_cons.mpr ⟨snd_iald d205_69, List.forall_mem_cons.mpr ⟨snd_imul d205_70, List.forall_mem_cons.mpr ⟨snd_iadd d205_71, List.forall_mem_cons.mpr ⟨snd_istore d205_72, List.forall_mem_cons.mpr ⟨snd_aload_n d205_74 rfl, List.forall_mem_cons.mpr ⟨snd_getR (by decide) (by decide) rfl wd1371 d205_75, List.forall_mem_cons.mpr ⟨snd_iload d205_78, List.forall_mem_cons.mpr ⟨snd_iload_n d205_80 rfl, List.forall_mem_cons.mpr ⟨snd_iast d205_81, List.forall_mem_cons.mpr ⟨snd_aload_n d205_82 rfl, List.forall_mem_cons.mpr ⟨snd_getR (by decide) (by decide) rfl wd1371 d205_83, List.forall_mem_cons.mpr ⟨snd_iload d205_86, List.forall_mem_cons.mpr ⟨snd_iconst d205_88 (by decide +kernel), List.forall_mem_cons.mpr ⟨snd_iadd d205_89, List.forall_mem_cons.mpr ⟨snd_iload_n d205_90 rfl, List.forall_mem_cons.mpr ⟨snd_iast d205_91, List.forall_mem_cons.mpr ⟨snd_aload_n d205_92 rfl, List.forall_mem_cons.mpr ⟨snd_getR (by decide) (by decide) rfl wd1371 d205_93, List.forall_mem_cons.mpr ⟨snd_iload d205_96, List.forall_mem_cons.mpr ⟨snd_iconst d205_98 (by decide +kernel), List.forall_mem_cons.mpr ⟨snd_iadd d205_99, List.forall_mem_cons.mpr ⟨snd_iload_n d205_100 rfl, List.forall_mem_cons.mpr ⟨snd_iast d205_101, fun _ h => by cases h⟩⟩⟩⟩⟩⟩⟩⟩⟩⟩⟩⟩⟩⟩⟩⟩⟩⟩⟩⟩⟩⟩⟩⟩⟩⟩⟩⟩⟩⟩
theorem sc205_2 : ∀ q ∈ tc205_2, Snd xtb M205 q.1 q.2 := List.forall_mem_cons.mpr ⟨snd_aload_n d205_102 rfl, List.forall_mem_cons.mpr ⟨snd_getR (by decide) (by decide) rfl wd1371 d205_103, List.forall_mem_cons.mpr ⟨snd_iload d205_106, List.forall_mem_cons.mpr ⟨snd_iconst d205_108 (by decide +kernel), List.forall_mem_cons.mpr ⟨snd_iadd d205_109, List.forall_mem_cons.mpr ⟨snd_iload d205_110, List.forall_mem_cons.mpr ⟨snd_iast d205_112, List.forall_mem_cons.mpr ⟨snd_aload_n d205_113 rfl, List.forall_mem_cons.mpr ⟨snd_getR (by decide) (by decide) rfl wd1371 d205_114, List.forall_mem_cons.mpr ⟨snd_iload d205_117, List.forall_mem_cons.mpr ⟨snd_iconst d205_119 (by decide +kernel), List.forall_mem_cons.mpr ⟨snd_iadd d205_120, List.forall_mem_cons.mpr ⟨snd_iload d205_121, List.forall_mem_cons.mpr ⟨snd_iast d205_123, List.forall_mem_cons.mpr ⟨snd_aload_n d205_124 rfl, List.forall_mem_cons.mpr ⟨snd_getR (by decide) (by decide) rfl wd1371 d205_125, List.forall_mem_cons.mpr ⟨snd_bipush d205_128 (by decide +kernel), List.forall_mem_cons.mpr ⟨snd_dup2 d205_130, List.forall_mem_cons.mpr ⟨snd_iald d205_131, List.forall_mem_cons.mpr ⟨snd_iconst d205_132 (by decide +kernel), List.forall_mem_cons.mpr ⟨snd_iadd d205_133, List.forall_mem_cons.mpr ⟨snd_iast d205_134, List.forall_mem_cons.mpr ⟨snd_vret rfl d205_135, fun _ h => by cases h⟩⟩⟩⟩⟩⟩⟩⟩⟩⟩⟩⟩⟩⟩⟩⟩⟩⟩⟩⟩⟩⟩⟩
theorem d206_0 : decode (mC M206) 0 = .ok (.iconst 0, 1) := by decide +kernel
theorem d206_1 : decode (mC M206) 1 = .ok (.istore_n 3, 1) := by decide +kernel
theorem d206_2 : decode (mC M206) 2 = .ok (.iload_n 3, 1) := by decide +kernel
theorem d206_3 : decode (mC M206) 3 = .ok (.aload_n 0, 1) := by decide +kernel
theorem d206_4 : decode (mC M206) 4 = .ok (.bipush 7, 2) := by decide +kernel
theorem d206_6 : decode (mC M206) 6 = .ok (.iaload, 1) := by decide +kernel
theorem d206_7 : decode (mC M206) 7 = .ok (.if_icmp .ge 49, 3) := by decide +kernel
theorem d206_10 : decode (mC M206) 10 = .ok (.aload_n 0, 1) := by decide +kernel
theorem d206_11 : decode (mC M206) 11 = .ok (.sipush 384, 3) := by decide +kernel
theorem d206_14 : decode (mC M206) 14 = .ok (.iconst 3, 1) := by decide +kernel
theorem d206_15 : decode (mC M206) 15 = .ok (.iload_n 3, 1) := by decide +kernel
theorem d206_16 : decode (mC M206) 16 = .ok (.imul, 1) := by decide +kernel
theorem d206_17 : decode (mC M206) 17 = .ok (.iadd, 1) := by decide +kernel
theorem d206_18 : decode (mC M206) 18 = .ok (.iaload, 1) := by decide +kernel
theorem d206_19 : decode (mC M206) 19 = .ok (.iload_n 1, 1) := by decide +kernel
theorem d206_20 : decode (mC M206) 20 = .ok (.if_icmp .ne 30, 3) := by decide +kernel
theorem d206_23 : decode (mC M206) 23 = .ok (.aload_n 0, 1) := by decide +kernel
theorem d206_24 : decode (mC M206) 24 = .ok (.sipush 384, 3) := by decide +kernel
theorem d206_27 : decode (mC M206) 27 = .ok (.iconst 3, 1) := by decide +kernel
theorem d206_28 : decode (mC M206) 28 = .ok (.iload_n 3, 1) := by decide +kernel
theorem d206_29 : decode (mC M206) 29 = .ok (.imul, 1) := by decide +kernel
theorem d206_30 : decode (mC M206) 30 = .ok (.iadd, 1) := by decide +kernel
theorem d206_31 : decode (mC M206) 31 = .ok (.iconst 1, 1) := by decide +kernel
theorem d206_32 : decode (mC M206) 32 = .ok (.iadd, 1) := by decide +kernel
theorem d206_33 : decode (mC M206) 33 = .ok (.iaload, 1) := by decide +kernel
theorem d206_34 : decode (mC M206) 34 = .ok (.iload_n 2, 1) := by decide +kernel
theorem d206_35 : decode (mC M206) 35 = .ok (.if_icmp .ne 15, 3) := by decide +kernel
theorem d206_38 : decode (mC M206) 38 = .ok (.aload_n 0, 1) := by decide +kernel
theorem d206_39 : decode (mC M206) 39 = .ok (.sipush 384, 3) := by decide +kernel
theorem d206_42 : decode (mC M206) 42 = .ok (.iconst 3, 1) := by decide +kernel
theorem d206_43 : decode (mC M206) 43 = .ok (.iload_n 3, 1) := by decide +kernel
theorem d206_44 : decode (mC M206) 44 = .ok (.imul, 1) := by decide +kernel
theorem d206_45 : decode (mC M206) 45 = .ok (.iadd, 1) := by decide +kernel
theorem d206_46 : decode (mC M206) 46 = .ok (.iconst 2, 1) := by decide +kernel
theorem d206_47 : decode (mC M206) 47 = .ok (.iadd, 1) := by decide +kernel
theorem d206_48 : decode (mC M206) 48 = .ok (.iaload, 1) := by decide +kernel
theorem d206_49 : decode (mC M206) 49 = .ok (.ireturn, 1) := by decide +kernel
theorem d206_50 : decode (mC M206) 50 = .ok (.iinc 3 1, 3) := by decide +kernel
theorem d206_53 : decode (mC M206) 53 = .ok (.goto (-51), 3) := by decide +kernel
theorem d206_56 : decode (mC M206) 56 = .ok (.bipush (-2), 2) := by decide +kernel
theorem d206_58 : decode (mC M206) 58 = .ok (.ireturn, 1) := by decide +kernel
theorem sc206_0 : ∀ q ∈ tc206_0, Snd xtb M206 q.1 q.2 := List.forall_mem_cons.mpr ⟨snd_iconst d206_0 (by decide +kernel), List.forall_mem_cons.mpr ⟨snd_istore_n d206_1 rfl, List.forall_mem_cons.mpr ⟨snd_iload_n d206_2 rfl, List.forall_mem_cons.mpr ⟨snd_aload_n d206_3 rfl, List.forall_mem_cons.mpr ⟨snd_bipush d206_4 (by decide +kernel), List.forall_mem_cons.mpr ⟨snd_iald d206_6, List.forall_mem_cons.mpr ⟨snd_cmp_ge d206_7 (by decide), List.forall_mem_cons.mpr ⟨snd_aload_n d206_10 rfl, List.forall_mem_cons.mpr ⟨snd_sipush d206_11 (by decide +kernel), List.forall_mem_cons.mpr ⟨snd_iconst d206_14 (by decide +kernel), List.forall_mem_cons.mpr ⟨snd_iload_n d206_15 rfl, List.forall_mem_cons.mpr ⟨snd_imul d206_16, List.forall_mem_cons.mpr ⟨snd_iadd d206_17, List.forall_mem_cons.mpr ⟨snd_iald d206_18, List.forall_mem_cons.mpr ⟨snd_iload_n d206_19 rfl, List.forall_mem_cons.mpr ⟨snd_cmp_ne d206_20 (by decide), List.forall_mem_cons.mpr ⟨snd_aload_n d206_23 rfl, List.forall_mem_cons.mpr ⟨snd_sipush d206_24 (by decide +kernel), List.forall_mem_cons.mpr ⟨snd_iconst d206_27 (by decide +kernel), List.forall_mem_cons.mpr ⟨snd_iload_n d206_28 rfl, List.forall_mem_cons.mpr ⟨snd_imul d206_29, List.forall_mem_cons.mpr ⟨snd_iadd d206_30, List.forall_mem_cons.mpr ⟨snd_iconst d206_31 (by decide +kernel), List.forall_mem_cons.mpr ⟨snd_iadd d206_32, List.forall_mem_cons.mpr ⟨snd_iald d206_33, List.forall_mem_cons.mpr ⟨snd_iload_n d206_34 rfl, List.forall_mem_cons.mpr ⟨snd_cmp_ne d206_35 (by decide), List.forall_mem_cons.mpr ⟨snd_aload_n d206_38 rfl, List.forall_mem_cons.mpr ⟨snd_sipush d206_39 (by decide +kernel), List.forall_mem_cons.mpr ⟨snd_iconst d206_42 (by decide +kernel), fun _ h => by cases h⟩⟩⟩⟩⟩⟩⟩⟩⟩⟩⟩⟩⟩⟩⟩⟩⟩⟩⟩⟩⟩⟩⟩⟩⟩⟩⟩⟩⟩⟩
theorem sc206_1 : ∀ q ∈ tc206_1, Snd xtb M206 q.1 q.2 := List.forall_mem_cons.mpr ⟨snd_iload_n d206_43 rfl, List.forall_mem_cons.mpr ⟨snd_imul d206_44, List.forall_mem_cons.mpr ⟨snd_iadd d206_45, List.forall_mem_cons.mpr ⟨snd_iconst d206_46 (by decide +kernel), List.forall_mem_cons.mpr ⟨snd_iadd d206_47, List.forall_mem_cons.mpr ⟨snd_iald d206_48, List.forall_mem_cons.mpr ⟨snd_iret rfl d206_49, List.forall_mem_cons.mpr ⟨snd_iinc d206_50 (by decide +kernel), List.forall_mem_cons.mpr ⟨snd_goto d206_53 (by decide), List.forall_mem_cons.mpr ⟨snd_bipush d206_56 (by decide +kernel), List.forall_mem_cons.mpr ⟨snd_iret rfl d206_58, fun _ h => by cases h⟩⟩⟩⟩⟩⟩⟩⟩⟩⟩⟩
theorem d207_0 : decode (mC M207) 0 = .ok (.aload_n 0, 1) := by decide +kernel
theorem d207_1 : decode (mC M207) 1 = .ok (.bipush 7, 2) := by decide +kernel
theorem d207_3 : decode (mC M207) 3 = .ok (.bipush 6, 2) := by decide +kernel
theorem d207_5 : decode (mC M207) 5 = .ok (.invokevirtual 212, 3) := by decide +kernel
theorem d207_8 : decode (mC M207) 8 = .ok (.aload_n 0, 1) := by decide +kernel
theorem d207_9 : decode (mC M207) 9 = .ok (.iconst 0, 1) := by decide +kernel
theorem d207_10 : decode (mC M207) 10 = .ok (.invokevirtual 220, 3) := by decide +kernel
theorem d207_13 : decode (mC M207) 13 = .ok (.istore_n 1, 1) := by decide +kernel
theorem d207_14 : decode (mC M207) 14 = .ok (.aload_n 0, 1) := by decide +kernel
theorem d207_15 : decode (mC M207) 15 = .ok (.iconst 1, 1) := by decide +kernel
theorem d207_16 : decode (mC M207) 16 = .ok (.invokevirtual 177, 3) := by decide +kernel
theorem d207_19 : decode (mC M207) 19 = .ok (.istore_n 2, 1) := by decide +kernel
theorem d207_20 : decode (mC M207) 20 = .ok (.aload_n 0, 1) := by decide +kernel
theorem d207_21 : decode (mC M207) 21 = .ok (.getfield 80, 3) := by decide +kernel
theorem d207_24 : decode (mC M207) 24 = .ok (.ifCond .ne 22, 3) := by decide +kernel
theorem d207_27 : decode (mC M207) 27 = .ok (.aload_n 0, 1) := by decide +kernel
theorem d207_28 : decode (mC M207) 28 = .ok (.getfield 17, 3) := by decide +kernel
theorem d207_31 : decode (mC M207) 31 = .ok (.iload_n 1, 1) := by decide +kernel
theorem d207_32 : decode (mC M207) 32 = .ok (.iload_n 2, 1) := by decide +kernel
theorem d207_33 : decode (mC M207) 33 = .ok (.invokestatic 242, 3) := by decide +kernel
theorem d207_36 : decode (mC M207) 36 = .ok (.bipush (-2), 2) := by decide +kernel
theorem d207_38 : decode (mC M207) 38 = .ok (.if_icmp .eq 8, 3) := by decide +kernel
theorem d207_41 : decode (mC M207) 41 = .ok (.aload_n 0, 1) := by decide +kernel
theorem d207_42 : decode (mC M207) 42 = .ok (.iconst 3, 1) := by decide +kernel
theorem d207_43 : decode (mC M207) 43 = .ok (.invokevirtual 133, 3) := by decide +kernel
theorem d207_46 : decode (mC M207) 46 = .ok (.aload_n 0, 1) := by decide +kernel
theorem d207_47 : decode (mC M207) 47 = .ok (.invokevirtual 130, 3) := by decide +kernel
theorem d207_50 : decode (mC M207) 50 = .ok (.aload_n 0, 1) := by decide +kernel
theorem d207_51 : decode (mC M207) 51 = .ok (.iconst 1, 1) := by decide +kernel
theorem d207_52 : decode (mC M207) 52 = .ok (.sipush 9999, 3) := by decide +kernel
theorem d207_55 : decode (mC M207) 55 = .ok (.invokevirtual 139, 3) := by decide +kernel
theorem d207_58 : decode (mC M207) 58 = .ok (.istore_n 3, 1) := by decide +kernel
theorem d207_59 : decode (mC M207) 59 = .ok (.aload_n 0, 1) := by decide +kernel
theorem d207_60 : decode (mC M207) 60 = .ok (.getfield 80, 3) := by decide +kernel
theorem d207_63 : decode (mC M207) 63 = .ok (.ifCond .le 4, 3) := by decide +kernel
theorem d207_66 : decode (mC M207) 66 = .ok (.return_, 1) := by decide +kernel
theorem d207_67 : decode (mC M207) 67 = .ok (.sipush 384, 3) := by decide +kernel
theorem d207_70 : decode (mC M207) 70 = .ok (.iconst 3, 1) := by decide +kernel
theorem d207_71 : decode (mC M207) 71 = .ok (.aload_n 0, 1) := by decide +kernel
theorem d207_72 : decode (mC M207) 72 = .ok (.getfield 17, 3) := by decide +kernel
theorem d207_75 : decode (mC M207) 75 = .ok (.bipush 7, 2) := by decide +kernel
theorem d207_77 : decode (mC M207) 77 = .ok (.iaload, 1) := by decide +kernel
theorem d207_78 : decode (mC M207) 78 = .ok (.imul, 1) := by decide +kernel
theorem d207_79 : decode (mC M207) 79 = .ok (.iadd, 1) := by decide +kernel
theorem d207_80 : decode (mC M207) 80 = .ok (.istore 4, 2) := by decide +kernel
theorem d207_82 : decode (mC M207) 82 = .ok (.aload_n 0, 1) := by decide +kernel
theorem d207_83 : decode (mC M207) 83 = .ok (.getfield 17, 3) := by decide +kernel
theorem d207_86 : decode (mC M207) 86 = .ok (.iload 4, 2) := by decide +kernel
theorem d207_88 : decode (mC M207) 88 = .ok (.iload_n 1, 1) := by decide +kernel
theorem d207_89 : decode (mC M207) 89 = .ok (.iastore, 1) := by decide +kernel
theorem d207_90 : decode (mC M207) 90 = .ok (.aload_n 0, 1) := by decide +kernel
theorem d207_91 : decode (mC M207) 91 = .ok (.getfield 17, 3) := by decide +kernel
theorem d207_94 : decode (mC M207) 94 = .ok (.iload 4, 2) := by decide +kernel
theorem d207_96 : decode (mC M207) 96 = .ok (.iconst 1, 1) := by decide +kernel
theorem d207_97 : decode (mC M207) 97 = .ok (.iadd, 1) := by decide +kernel
theorem d207_98 : decode (mC M207) 98 = .ok (.iload_n 2, 1) := by decide +kernel
theorem d207_99 : decode (mC M207) 99 = .ok (.iastore, 1) := by decide +kernel
theorem d207_100 : decode (mC M207) 100 = .ok (.aload_n 0, 1) := by decide +kernel
theorem d207_101 : decode (mC M207) 101 = .ok (.getfield 17, 3) := by decide +kernel
theorem d207_104 : decode (mC M207) 104 = .ok (.iload 4, 2) := by decide +kernel
theorem d207_106 : decode (mC M207) 106 = .ok (.iconst 2, 1) := by decide +kernel
theorem d207_107 : decode (mC M207) 107 = .ok (.iadd, 1) := by decide +kernel
theorem d207_108 : decode (mC M207) 108 = .ok (.iload_n 3, 1) := by decide +kernel
theorem d207_109 : decode (mC M207) 109 = .ok (.iastore, 1) := by decide +kernel
theorem d207_110 : decode (mC M207) 110 = .ok (.aload_n 0, 1) := by decide +kernel
theorem d207_111 : decode (mC M207) 111 = .ok (.getfield 17, 3) := by decide +kernel
theorem d207_114 : decode (mC M207) 114 = .ok (.bipush 7, 2) := by decide +kernel
theorem d207_116 : decode (mC M207) 116 = .ok (.dup2, 1) := by decide +kernel
theorem d207_117 : decode (mC M207) 117 = .ok (.iaload, 1) := by decide +kernel
theorem d207_118 : decode (mC M207) 118 = .ok (.iconst 1, 1) := by decide +kernel
theorem d207_119 : decode (mC M207) 119 = .ok (.iadd, 1) := by decide +kernel
theorem d207_120 : decode (mC M207) 120 = .ok (.iastore, 1) := by decide +kernel
theorem d207_121 : decode (mC M207) 121 = .ok (.return_, 1) := by decide +kernel
theorem sc207_0 : ∀ q ∈ tc207_0, Snd xtb M207 q.1 q.2 := List.forall_mem_cons.mpr ⟨snd_aload_n d207_0 rfl, List.forall_mem_cons.mpr ⟨snd_bipush d207_1 (by decide +kernel), List.forall_mem_cons.mpr ⟨snd_bipush d207_3 (by decide +kernel), List.forall_mem_cons.mpr ⟨snd_callV (by decide) rfl cn196 ⟨by decide +kernel, by decide +kernel⟩ cm196 (List.forall_mem_cons.mpr ⟨wd1545, cw196⟩) d207_5, List.forall_mem_cons.mpr ⟨snd_aload_n d207_8 rfl, List.forall_mem_cons.mpr ⟨snd_iconst d207_9 (by decide +kernel), List.forall_mem_cons.mpr ⟨snd_callV (by decide) rfl cn192 ⟨by decide +kernel, by decide +kernel⟩ cm192 (List.forall_mem_cons.mpr ⟨wd1577, cw192⟩) d207_10, List.forall_mem_cons.mpr ⟨snd_istore_n d207_13 rfl, List.forall_mem_cons.mpr ⟨snd_aload_n d207_14 rfl, List.forall_mem_cons.mpr ⟨snd_iconst d207_15 (by decide +kernel), List.forall_mem_cons.mpr ⟨snd_callV (by decide) rfl cn191 ⟨by decide +kernel, by decide +kernel⟩ cm191 (List.forall_mem_cons.mpr ⟨wd1581, cw191⟩) d207_16, List.forall_mem_cons.mpr ⟨snd_istore_n d207_19 rfl, List.forall_mem_cons.mpr ⟨snd_aload_n d207_20 rfl, List.forall_mem_cons.mpr ⟨snd_getI (by decide) (by decide) rfl wd1382 d207_21, List.forall_mem_cons.mpr ⟨snd_if_ne d207_24 (by decide), List.forall_mem_cons.mpr ⟨snd_aload_n d207_27 rfl, List.forall_mem_cons.mpr ⟨snd_getR (by decide) (by decide) rfl wd1371 d207_28, List.forall_mem_cons.mpr ⟨snd_iload_n d207_31 rfl, List.forall_mem_cons.mpr ⟨snd_iload_n d207_32 rfl, List.forall_mem_cons.mpr ⟨snd_callS cn206 ⟨by decide +kernel, by decide +kernel⟩ cm206 (List.forall_mem_cons.mpr ⟨wd1619, cw206⟩) d207_33, List.forall_mem_cons.mpr ⟨snd_bipush d207_36 (by decide +kernel), List.forall_mem_cons.mpr ⟨snd_cmp_eq d207_38 (by decide), List.forall_mem_cons.mpr ⟨snd_aload_n d207_41 rfl, List.forall_mem_cons.mpr ⟨snd_iconst d207_42 (by decide +kernel), List.forall_mem_cons.mpr ⟨snd_callV (by decide) rfl cn181 ⟨by decide +kernel, by decide +kernel⟩ cm181 (List.forall_mem_cons.mpr ⟨wd1522, cw181⟩) d207_43, List.forall_mem_cons.mpr ⟨snd_aload_n d207_46 rfl, List.forall_mem_cons.mpr ⟨snd_callV (by decide) rfl cn177 ⟨by decide +kernel, by decide +kernel⟩ cm177 (List.forall_mem_cons.mpr ⟨wd1484, cw177⟩) d207_47, List.forall_mem_cons.mpr ⟨snd_aload_n d207_50 rfl, List.forall_mem_cons.mpr ⟨snd_iconst d207_51 (by decide +kernel), List.forall_mem_cons.mpr ⟨snd_sipush d207_52 (by decide +kernel), fun _ h => by cases h⟩⟩⟩⟩⟩⟩⟩⟩⟩⟩⟩⟩⟩⟩⟩⟩⟩⟩⟩⟩⟩⟩⟩⟩⟩⟩⟩⟩⟩⟩
theorem sc207_1 : ∀ q ∈ tc207_1, Snd xtb M207 q.1 q.2 := List.forall_mem_cons.mpr ⟨snd_callV (by decide) rfl cn184 ⟨by decide +kernel, by decide +kernel⟩ cm184 (List.forall_mem_cons.mpr ⟨wd1535, cw184⟩) d207_55, List.forall_mem_cons.mpr ⟨snd_istore_n d207_58 rfl, List.forall_mem_cons.mpr ⟨snd_aload_n d207_59 rfl, List.forall_mem_cons.mpr ⟨snd_getI (by decide) (by decide) rfl wd1382 d207_60, List.forall_mem_cons.mpr ⟨snd_if_le d207_63 (by decide), List.forall_mem_cons.mpr ⟨snd_vret rfl d207_66, List.forall_mem_cons.mpr ⟨snd_sipush d207_67 (by decide +kernel), List.forall_mem_cons.mpr ⟨snd_iconst d207_70 (by decide +kernel), List.forall_mem_cons.mpr ⟨snd_aload_n d207_71 rfl, List.forall_mem_cons.mpr ⟨snd_getR (by decide) (by decide) rfl wd1371 d207_72, List.forall_mem_cons.mpr ⟨snd_bipush d207_75 (by decide +kernel), List.forall_mem_cons.mpr ⟨snd_iald d207_77, List.forall_mem_cons.mpr ⟨snd_imul d207_78, List.forall_mem_cons.mpr ⟨snd_iadd d207_79, List.forall_mem_cons.mpr ⟨snd_istore d207_80, List.forall_mem_cons.mpr ⟨snd_aload_n d207_82 rfl, List.forall_mem_cons.mpr ⟨snd_getR (by decide) (by decide) rfl wd1371 d207_83, List.forall_mem_cons.mpr ⟨snd_iload d207_86, List.forall_mem_cons.mpr ⟨snd_iload_n d207_88 rfl, List.forall_mem_cons.mpr ⟨snd_iast d207_89, List.forall_mem_cons.mpr ⟨snd_aload_n d207_90 rfl, List.forall_mem_cons.mpr ⟨snd_getR (by decide) (by decide) rfl wd1371 d207_91, List.forall_mem_cons.mpr ⟨snd_iload d207_94, List.forall_mem_cons.mpr ⟨snd_iconst d207_96 (by decide +kernel), List.forall_mem_cons.mpr ⟨snd_iadd d207_97, List.forall_mem_cons.mpr ⟨snd_iload_n d207_98 rfl, List.forall_mem_cons.mpr ⟨snd_iast d207_99, List.forall_mem_cons.mpr ⟨snd_aload_n d207_100 rfl, List.forall_mem_cons.mpr ⟨snd_getR (by decide) (by decide) rfl wd1371 d207_101, List.forall_mem_cons.mpr ⟨snd_iload d207_104, fun _ h => by cases h⟩⟩⟩⟩⟩⟩⟩⟩⟩⟩⟩⟩⟩⟩⟩⟩⟩⟩⟩⟩⟩⟩⟩⟩⟩⟩⟩⟩⟩⟩
theorem sc207_2 : ∀ q ∈ tc207_2, Snd xtb M207 q.1 q.2 := List.forall_mem_cons.mpr ⟨snd_iconst d207_106 (by decide +kernel), List.forall_mem_cons.mpr ⟨snd_iadd d207_107, List.forall_mem_cons.mpr ⟨snd_iload_n d207_108 rfl, List.forall_mem_cons.mpr ⟨snd_iast d207_109, List.forall_mem_cons.mpr ⟨snd_aload_n d207_110 rfl, List.forall_mem_cons.mpr ⟨snd_getR (by decide) (by decide) rfl wd1371 d207_111, List.forall_mem_cons.mpr ⟨snd_bipush d207_114 (by decide +kernel), List.forall_mem_cons.mpr ⟨snd_dup2 d207_116, List.forall_mem_cons.mpr ⟨snd_iald d207_117, List.forall_mem_cons.mpr ⟨snd_iconst d207_118 (by decide +kernel), List.forall_mem_cons.mpr ⟨snd_iadd d207_119, List.forall_mem_cons.mpr ⟨snd_iast d207_120, List.forall_mem_cons.mpr ⟨snd_vret rfl d207_121, fun _ h => by cases h⟩⟩⟩⟩⟩⟩⟩⟩⟩⟩⟩⟩⟩
theorem d208_0 : decode (mC M208) 0 = .ok (.aload_n 0, 1) := by decide +kernel
theorem d208_1 : decode (mC M208) 1 = .ok (.iconst 0, 1) := by decide +kernel
theorem d208_2 : decode (mC M208) 2 = .ok (.putfield 64, 3) := by decide +kernel
theorem d208_5 : decode (mC M208) 5 = .ok (.aload_n 0, 1) := by decide +kernel
theorem d208_6 : decode (mC M208) 6 = .ok (.getfield 245, 3) := by decide +kernel
theorem d208_9 : decode (mC M208) 9 = .ok (.bipush 20, 2) := by decide +kernel
theorem d208_11 : decode (mC M208) 11 = .ok (.iadd, 1) := by decide +kernel
theorem d208_12 : decode (mC M208) 12 = .ok (.sipush 1200, 3) := by decide +kernel
theorem d208_15 : decode (mC M208) 15 = .ok (.if_icmp .le 5, 3) := by decide +kernel
theorem d208_18 : decode (mC M208) 18 = .ok (.iconst (-1), 1) := by decide +kernel
theorem d208_19 : decode (mC M208) 19 = .ok (.ireturn, 1) := by decide +kernel
theorem d208_20 : decode (mC M208) 20 = .ok (.iconst 0, 1) := by decide +kernel
theorem d208_21 : decode (mC M208) 21 = .ok (.istore 6, 2) := by decide +kernel
theorem d208_23 : decode (mC M208) 23 = .ok (.iload 6, 2) := by decide +kernel
theorem d208_25 : decode (mC M208) 25 = .ok (.bipush 20, 2) := by decide +kernel
theorem d208_27 : decode (mC M208) 27 = .ok (.if_icmp .ge 90, 3) := by decide +kernel
theorem d208_30 : decode (mC M208) 30 = .ok (.iload 6, 2) := by decide +kernel
theorem d208_32 : decode (mC M208) 32 = .ok (.iconst 4, 1) := by decide +kernel
theorem d208_33 : decode (mC M208) 33 = .ok (.if_icmp .ge 7, 3) := by decide +kernel
theorem d208_36 : decode (mC M208) 36 = .ok (.iload_n 1, 1) := by decide +kernel
theorem d208_37 : decode (mC M208) 37 = .ok (.goto 39, 3) := by decide +kernel
theorem d208_40 : decode (mC M208) 40 = .ok (.iload 6, 2) := by decide +kernel
theorem d208_42 : decode (mC M208) 42 = .ok (.bipush 8, 2) := by decide +kernel
theorem d208_44 : decode (mC M208) 44 = .ok (.if_icmp .ge 7, 3) := by decide +kernel
theorem d208_47 : decode (mC M208) 47 = .ok (.iload_n 2, 1) := by decide +kernel
theorem d208_48 : decode (mC M208) 48 = .ok (.goto 28, 3) := by decide +kernel
theorem d208_51 : decode (mC M208) 51 = .ok (.iload 6, 2) := by decide +kernel
theorem d208_53 : decode (mC M208) 53 = .ok (.bipush 12, 2) := by decide +kernel
theorem d208_55 : decode (mC M208) 55 = .ok (.if_icmp .ge 7, 3) := by decide +kernel
theorem d208_58 : decode (mC M208) 58 = .ok (.iload_n 3, 1) := by decide +kernel
theorem d208_59 : decode (mC M208) 59 = .ok (.goto 17, 3) := by decide +kernel
theorem d208_62 : decode (mC M208) 62 = .ok (.iload 6, 2) := by decide +kernel
theorem d208_64 : decode (mC M208) 64 = .ok (.bipush 16, 2) := by decide +kernel
theorem d208_66 : decode (mC M208) 66 = .ok (.if_icmp .ge 8, 3) := by decide +kernel
theorem d208_69 : decode (mC M208) 69 = .ok (.iload 4, 2) := by decide +kernel
theorem d208_71 : decode (mC M208) 71 = .ok (.goto 5, 3) := by decide +kernel
theorem d208_74 : decode (mC M208) 74 = .ok (.iload 5, 2) := by decide +kernel
theorem d208_76 : decode (mC M208) 76 = .ok (.istore 7, 2) := by decide +kernel
theorem d208_78 : decode (mC M208) 78 = .ok (.aload_n 0, 1) := by decide +kernel
theorem d208_79 : decode (mC M208) 79 = .ok (.getfield 27, 3) := by decide +kernel
theorem d208_82 : decode (mC M208) 82 = .ok (.aload_n 0, 1) := by decide +kernel
theorem d208_83 : decode (mC M208) 83 = .ok (.getfield 245, 3) := by decide +kernel
theorem d208_86 : decode (mC M208) 86 = .ok (.iload 7, 2) := by decide +kernel
theorem d208_88 : decode (mC M208) 88 = .ok (.bipush 24, 2) := by decide +kernel
theorem d208_90 : decode (mC M208) 90 = .ok (.bipush 8, 2) := by decide +kernel
theorem d208_92 : decode (mC M208) 92 = .ok (.iload 6, 2) := by decide +kernel
theorem d208_94 : decode (mC M208) 94 = .ok (.iconst 4, 1) := by decide +kernel
theorem d208_95 : decode (mC M208) 95 = .ok (.irem, 1) := by decide +kernel
theorem d208_96 : decode (mC M208) 96 = .ok (.imul, 1) := by decide +kernel
theorem d208_97 : decode (mC M208) 97 = .ok (.isub, 1) := by decide +kernel
theorem d208_98 : decode (mC M208) 98 = .ok (.ishr, 1) := by decide +kernel
theorem d208_99 : decode (mC M208) 99 = .ok (.i2b, 1) := by decide +kernel
theorem d208_100 : decode (mC M208) 100 = .ok (.bastore, 1) := by decide +kernel
theorem d208_101 : decode (mC M208) 101 = .ok (.aload_n 0, 1) := by decide +kernel
theorem d208_102 : decode (mC M208) 102 = .ok (.dup, 1) := by decide +kernel
theorem d208_103 : decode (mC M208) 103 = .ok (.getfield 245, 3) := by decide +kernel
theorem d208_106 : decode (mC M208) 106 = .ok (.iconst 1, 1) := by decide +kernel
theorem d208_107 : decode (mC M208) 107 = .ok (.iadd, 1) := by decide +kernel
theorem d208_108 : decode (mC M208) 108 = .ok (.putfield 245, 3) := by decide +kernel
theorem d208_111 : decode (mC M208) 111 = .ok (.iinc 6 1, 3) := by decide +kernel
theorem d208_114 : decode (mC M208) 114 = .ok (.goto (-91), 3) := by decide +kernel
theorem d208_117 : decode (mC M208) 117 = .ok (.aload_n 0, 1) := by decide +kernel
theorem d208_118 : decode (mC M208) 118 = .ok (.getfield 245, 3) := by decide +kernel
theorem d208_121 : decode (mC M208) 121 = .ok (.ireturn, 1) := by decide +kernel
theorem sc208_0 : ∀ q ∈ tc208_0, Snd xtb M208 q.1 q.2 := List.forall_mem_cons.mpr ⟨snd_aload_n d208_0 rfl, List.forall_mem_cons.mpr ⟨snd_iconst d208_1 (by decide +kernel), List.forall_mem_cons.mpr ⟨snd_putI (by decide) (by decide) rfl rfl wd1367 d208_2, List.forall_mem_cons.mpr ⟨snd_aload_n d208_5 rfl, List.forall_mem_cons.mpr ⟨snd_getI (by decide) (by decide) rfl wd1376 d208_6, List.forall_mem_cons.mpr ⟨snd_bipush d208_9 (by decide +kernel), List.forall_mem_cons.mpr ⟨snd_iadd d208_11, List.forall_mem_cons.mpr ⟨snd_sipush d208_12 (by decide +kernel), List.forall_mem_cons.mpr ⟨snd_cmp_le d208_15 (by decide), List.forall_mem_cons.mpr ⟨snd_iconst d208_18 (by decide +kernel), List.forall_mem_cons.mpr ⟨snd_iret rfl d208_19, List.forall_mem_cons.mpr ⟨snd_iconst d208_20 (by decide +kernel), List.forall_mem_cons.mpr ⟨snd_istore d208_21, List.forall_mem_cons.mpr ⟨snd_iload d208_23, List.forall_mem_cons.mpr ⟨snd_bipush d208_25 (by decide +kernel), List.forall_mem_cons.mpr ⟨snd_cmp_ge d208_27 (by decide), List.forall_mem_cons.mpr ⟨snd_iload d208_30, List.forall_mem_cons.mpr ⟨snd_iconst d208_32 (by decide +kernel), List.forall_mem_cons.mpr ⟨snd_cmp_ge d208_33 (by decide), List.forall_mem_cons.mpr ⟨snd_iload_n d208_36 rfl, List.forall_mem_cons.mpr ⟨snd_goto d208_37 (by decide), List.forall_mem_cons.mpr ⟨snd_iload d208_40, List.forall_mem_cons.mpr ⟨snd_bipush d208_42 (by decide +kernel), List.forall_mem_cons.mpr ⟨snd_cmp_ge d208_44 (by decide), List.forall_mem_cons.mpr ⟨snd_iload_n d208_47 rfl, List.forall_mem_cons.mpr ⟨snd_goto d208_48 (by decide), List.forall_mem_cons.mpr ⟨snd_iload d208_51, List.forall_mem_cons.mpr ⟨snd_bipush d208_53 (by decide +kernel), List.forall_mem_cons.mpr ⟨snd_cmp_ge d208_55 (by decide), List.forall_mem_cons.mpr ⟨snd_iload_n d208_58 rfl, fun _ h => by cases h⟩⟩⟩⟩⟩⟩⟩⟩⟩⟩⟩⟩⟩⟩⟩⟩⟩⟩⟩⟩⟩⟩⟩⟩⟩⟩⟩⟩⟩⟩
theorem sc208_1 : ∀ q ∈ tc208_1, Snd xtb M208 q.1 q.2 := List.forall_mem_cons.mpr ⟨snd_goto d208_59 (by decide), List.forall_mem_cons.mpr ⟨snd_iload d208_62, List.forall_mem_cons.mpr ⟨snd_bipush d208_64 (by decide +kernel), List.forall_mem_cons.mpr ⟨snd_cmp_ge d208_66 (by decide), List.forall_mem_cons.mpr ⟨snd_iload d208_69, List.forall_mem_cons.mpr ⟨snd_goto d208_71 (by decide), List.forall_mem_cons.mpr ⟨snd_iload d208_74, List.forall_mem_cons.mpr ⟨snd_istore d208_76, List.forall_mem_cons.mpr ⟨snd_aload_n d208_78 rfl, List.forall_mem_cons.mpr ⟨snd_getR (by decide) (by decide) rfl wd1375 d208_79, List.forall_mem_cons.mpr ⟨snd_aload_n d208_82 rfl, List.forall_mem_cons.mpr ⟨snd_getI (by decide) (by decide) rfl wd1376 d208_83, List.forall_mem_cons.mpr ⟨snd_iload d208_86, List.forall_mem_cons.mpr ⟨snd_bipush d208_88 (by decide +kernel), List.forall_mem_cons.mpr ⟨snd_bipush d208_90 (by decide +kernel), List.forall_mem_cons.mpr ⟨snd_iload d208_92, List.forall_mem_cons.mpr ⟨snd_iconst d208_94 (by decide +kernel), List.forall_mem_cons.mpr ⟨snd_irem d208_95, List.forall_mem_cons.mpr ⟨snd_imul d208_96, List.forall_mem_cons.mpr ⟨snd_isub d208_97, List.forall_mem_cons.mpr ⟨snd_ishr d208_98, List.forall_mem_cons.mpr ⟨snd_i2b d208_99, List.forall_mem_cons.mpr ⟨snd_bast d208_100, List.forall_mem_cons.mpr ⟨snd_aload_n d208_101 rfl, List.forall_mem_cons.mpr ⟨snd_dup d208_102, List.forall_mem_cons.mpr ⟨snd_getI (by decide) (by decide) rfl wd1376 d208_103, List.forall_mem_cons.mpr ⟨snd_iconst d208_106 (by decide +kernel), List.forall_mem_cons.mpr ⟨snd_iadd d208_107, List.forall_mem_cons.mpr ⟨snd_putI (by decide) (by decide) rfl rfl wd1376 d208_108, List.forall_mem_cons.mpr ⟨snd_iinc d208_111 (by decide +kernel), fun _ h => by cases h⟩⟩⟩⟩⟩⟩⟩⟩⟩⟩⟩⟩⟩⟩⟩⟩⟩⟩⟩⟩⟩⟩⟩⟩⟩⟩⟩⟩⟩⟩
theorem sc208_2 : ∀ q ∈ tc208_2, Snd xtb M208 q.1 q.2 := List.forall_mem_cons.mpr ⟨snd_goto d208_114 (by decide), List.forall_mem_cons.mpr ⟨snd_aload_n d208_117 rfl, List.forall_mem_cons.mpr ⟨snd_getI (by decide) (by decide) rfl wd1376 d208_118, List.forall_mem_cons.mpr ⟨snd_iret rfl d208_121, fun _ h => by cases h⟩⟩⟩⟩
theorem d209_0 : decode (mC M209) 0 = .ok (.aload_n 0, 1) := by decide +kernel
theorem d209_1 : decode (mC M209) 1 = .ok (.iconst 0, 1) := by decide +kernel
theorem d209_2 : decode (mC M209) 2 = .ok (.putfield 64, 3) := by decide +kernel
theorem d209_5 : decode (mC M209) 5 = .ok (.iload_n 1, 1) := by decide +kernel
theorem d209_6 : decode (mC M209) 6 = .ok (.ifCond .lt 11, 3) := by decide +kernel
theorem d209_9 : decode (mC M209) 9 = .ok (.iload_n 1, 1) := by decide +kernel
theorem d209_10 : decode (mC M209) 10 = .ok (.aload_n 0, 1) := by decide +kernel
theorem d209_11 : decode (mC M209) 11 = .ok (.getfield 245, 3) := by decide +kernel
theorem d209_14 : decode (mC M209) 14 = .ok (.if_icmp .le 9, 3) := by decide +kernel
theorem d209_17 : decode (mC M209) 17 = .ok (.aload_n 0, 1) := by decide +kernel
theorem d209_18 : decode (mC M209) 18 = .ok (.iconst 2, 1) := by decide +kernel
theorem d209_19 : decode (mC M209) 19 = .ok (.invokevirtual 70, 3) := by decide +kernel
theorem d209_22 : decode (mC M209) 22 = .ok (.ireturn, 1) := by decide +kernel
theorem d209_23 : decode (mC M209) 23 = .ok (.aload_n 0, 1) := by decide +kernel
theorem d209_24 : decode (mC M209) 24 = .ok (.iload_n 1, 1) := by decide +kernel
theorem d209_25 : decode (mC M209) 25 = .ok (.putfield 77, 3) := by decide +kernel
theorem d209_28 : decode (mC M209) 28 = .ok (.aload_n 0, 1) := by decide +kernel
theorem d209_29 : decode (mC M209) 29 = .ok (.iconst 0, 1) := by decide +kernel
theorem d209_30 : decode (mC M209) 30 = .ok (.putfield 245, 3) := by decide +kernel
theorem d209_33 : decode (mC M209) 33 = .ok (.aload_n 0, 1) := by decide +kernel
theorem d209_34 : decode (mC M209) 34 = .ok (.iconst 0, 1) := by decide +kernel
theorem d209_35 : decode (mC M209) 35 = .ok (.putfield 83, 3) := by decide +kernel
theorem d209_38 : decode (mC M209) 38 = .ok (.aload_n 0, 1) := by decide +kernel
theorem d209_39 : decode (mC M209) 39 = .ok (.iconst 0, 1) := by decide +kernel
theorem d209_40 : decode (mC M209) 40 = .ok (.putfield 80, 3) := by decide +kernel
theorem d209_43 : decode (mC M209) 43 = .ok (.aload_n 0, 1) := by decide +kernel
theorem d209_44 : decode (mC M209) 44 = .ok (.invokevirtual 248, 3) := by decide +kernel
theorem d209_47 : decode (mC M209) 47 = .ok (.aload_n 0, 1) := by decide +kernel
theorem d209_48 : decode (mC M209) 48 = .ok (.getfield 80, 3) := by decide +kernel
theorem d209_51 : decode (mC M209) 51 = .ok (.ifCond .le 18, 3) := by decide +kernel
theorem d209_54 : decode (mC M209) 54 = .ok (.aload_n 0, 1) := by decide +kernel
theorem d209_55 : decode (mC M209) 55 = .ok (.iconst 4, 1) := by decide +kernel
theorem d209_56 : decode (mC M209) 56 = .ok (.putfield 67, 3) := by decide +kernel
theorem d209_59 : decode (mC M209) 59 = .ok (.aload_n 0, 1) := by decide +kernel
theorem d209_60 : decode (mC M209) 60 = .ok (.aload_n 0, 1) := by decide +kernel
theorem d209_61 : decode (mC M209) 61 = .ok (.getfield 89, 3) := by decide +kernel
theorem d209_64 : decode (mC M209) 64 = .ok (.putfield 9, 3) := by decide +kernel
theorem d209_67 : decode (mC M209) 67 = .ok (.iconst (-1), 1) := by decide +kernel
theorem d209_68 : decode (mC M209) 68 = .ok (.ireturn, 1) := by decide +kernel
theorem d209_69 : decode (mC M209) 69 = .ok (.aload_n 0, 1) := by decide +kernel
theorem d209_70 : decode (mC M209) 70 = .ok (.iconst 1, 1) := by decide +kernel
theorem d209_71 : decode (mC M209) 71 = .ok (.putfield 251, 3) := by decide +kernel
theorem d209_74 : decode (mC M209) 74 = .ok (.iconst 0, 1) := by decide +kernel
theorem d209_75 : decode (mC M209) 75 = .ok (.istore_n 2, 1) := by decide +kernel
theorem d209_76 : decode (mC M209) 76 = .ok (.iload_n 2, 1) := by decide +kernel
theorem d209_77 : decode (mC M209) 77 = .ok (.sipush 402, 3) := by decide +kernel
theorem d209_80 : decode (mC M209) 80 = .ok (.if_icmp .ge 21, 3) := by decide +kernel
theorem d209_83 : decode (mC M209) 83 = .ok (.aload_n 0, 1) := by decide +kernel
theorem d209_84 : decode (mC M209) 84 = .ok (.getfield 13, 3) := by decide +kernel
theorem d209_87 : decode (mC M209) 87 = .ok (.iload_n 2, 1) := by decide +kernel
theorem d209_88 : decode (mC M209) 88 = .ok (.aload_n 0, 1) := by decide +kernel
theorem d209_89 : decode (mC M209) 89 = .ok (.getfield 17, 3) := by decide +kernel
theorem d209_92 : decode (mC M209) 92 = .ok (.iload_n 2, 1) := by decide +kernel
theorem d209_93 : decode (mC M209) 93 = .ok (.iaload, 1) := by decide +kernel
theorem d209_94 : decode (mC M209) 94 = .ok (.iastore, 1) := by decide +kernel
theorem d209_95 : decode (mC M209) 95 = .ok (.iinc 2 1, 3) := by decide +kernel
theorem d209_98 : decode (mC M209) 98 = .ok (.goto (-22), 3) := by decide +kernel
theorem d209_101 : decode (mC M209) 101 = .ok (.aload_n 0, 1) := by decide +kernel
theorem d209_102 : decode (mC M209) 102 = .ok (.iconst 0, 1) := by decide +kernel
theorem d209_103 : decode (mC M209) 103 = .ok (.putfield 255, 3) := by decide +kernel
theorem d209_106 : decode (mC M209) 106 = .ok (.aload_n 0, 1) := by decide +kernel
theorem d209_107 : decode (mC M209) 107 = .ok (.iconst 0, 1) := by decide +kernel
theorem d209_108 : decode (mC M209) 108 = .ok (.putfield 258, 3) := by decide +kernel
theorem d209_111 : decode (mC M209) 111 = .ok (.aload_n 0, 1) := by decide +kernel
theorem d209_112 : decode (mC M209) 112 = .ok (.iconst 0, 1) := by decide +kernel
theorem d209_113 : decode (mC M209) 113 = .ok (.putfield 261, 3) := by decide +kernel
theorem d209_116 : decode (mC M209) 116 = .ok (.aload_n 0, 1) := by decide +kernel
theorem d209_117 : decode (mC M209) 117 = .ok (.aload_n 0, 1) := by decide +kernel
theorem d209_118 : decode (mC M209) 118 = .ok (.getfield 13, 3) := by decide +kernel
theorem d209_121 : decode (mC M209) 121 = .ok (.iconst 3, 1) := by decide +kernel
theorem d209_122 : decode (mC M209) 122 = .ok (.iaload, 1) := by decide +kernel
theorem d209_123 : decode (mC M209) 123 = .ok (.invokevirtual 264, 3) := by decide +kernel
theorem d209_126 : decode (mC M209) 126 = .ok (.ireturn, 1) := by decide +kernel
theorem sc209_0 : ∀ q ∈ tc209_0, Snd xtb M209 q.1 q.2 := List.forall_mem_cons.mpr ⟨snd_aload_n d209_0 rfl, List.forall_mem_cons.mpr ⟨snd_iconst d209_1 (by decide +kernel), List.forall_mem_cons.mpr ⟨snd_putI (by decide) (by decide) rfl rfl wd1367 d209_2, List.forall_mem_cons.mpr ⟨snd_iload_n d209_5 rfl, List.forall_mem_cons.mpr ⟨snd_if_lt d209_6 (by decide), List.forall_mem_cons.mpr ⟨snd_iload_n d209_9 rfl, List.forall_mem_cons.mpr ⟨snd_aload_n d209_10 rfl, List.forall_mem_cons.mpr ⟨snd_getI (by decide) (by decide) rfl wd1376 d209_11, List.forall_mem_cons.mpr ⟨snd_cmp_le d209_14 (by decide), List.forall_mem_cons.mpr ⟨snd_aload_n d209_17 rfl, List.forall_mem_cons.mpr ⟨snd_iconst d209_18 (by decide +kernel), List.forall_mem_cons.mpr ⟨snd_callV (by decide) rfl cn172 ⟨by decide +kernel, by decide +kernel⟩ cm172 (List.forall_mem_cons.mpr ⟨wd1476, cw172⟩) d209_19, List.forall_mem_cons.mpr ⟨snd_iret rfl d209_22, List.forall_mem_cons.mpr ⟨snd_aload_n d209_23 rfl, List.forall_mem_cons.mpr ⟨snd_iload_n d209_24 rfl, List.forall_mem_cons.mpr ⟨snd_putI (by decide) (by decide) rfl rfl wd1377 d209_25, List.forall_mem_cons.mpr ⟨snd_aload_n d209_28 rfl, List.forall_mem_cons.mpr ⟨snd_iconst d209_29 (by decide +kernel), List.forall_mem_cons.mpr ⟨snd_putI (by decide) (by decide) rfl rfl wd1376 d209_30, List.forall_mem_cons.mpr ⟨snd_aload_n d209_33 rfl, List.forall_mem_cons.mpr ⟨snd_iconst d209_34 (by decide +kernel), List.forall_mem_cons.mpr ⟨snd_putI (by decide) (by decide) rfl rfl wd1378 d209_35, List.forall_mem_cons.mpr ⟨snd_aload_n d209_38 rfl, List.forall_mem_cons.mpr ⟨snd_iconst d209_39 (by decide +kernel), List.forall_mem_cons.mpr ⟨snd_putI (by decide) (by decide) rfl rfl wd1382 d209_40, List.forall_mem_cons.mpr ⟨snd_aload_n d209_43 rfl, List.forall_mem_cons.mpr ⟨snd_callV (by decide) rfl cn193 ⟨by decide +kernel, by decide +kernel⟩ cm193 (List.forall_mem_cons.mpr ⟨wd1480, cw193⟩) d209_44, List.forall_mem_cons.mpr ⟨snd_aload_n d209_47 rfl, List.forall_mem_cons.mpr ⟨snd_getI (by decide) (by decide) rfl wd1382 d209_48, List.forall_mem_cons.mpr ⟨snd_if_le d209_51 (by decide), fun _ h => by cases h⟩⟩⟩⟩⟩⟩⟩⟩⟩⟩⟩⟩⟩⟩⟩⟩⟩⟩⟩⟩⟩⟩⟩⟩⟩⟩⟩⟩⟩⟩
theorem sc209_1 : ∀ q ∈ tc209_1, Snd xtb M209 q.1 q.2 := List.forall_mem_cons.mpr ⟨snd_aload_n d209_54 rfl, List.forall_mem_cons.mpr ⟨snd_iconst d209_55 (by decide +kernel), List.forall_mem_cons.mpr ⟨snd_putI (by decide) (by decide) rfl rfl wd1368 d209_56, List.forall_mem_cons.mpr ⟨snd_aload_n d209_59 rfl, List.forall_mem_cons.mpr ⟨snd_aload_n d209_60 rfl, List.forall_mem_cons.mpr ⟨snd_getI (by decide) (by decide) rfl wd1380 d209_61, List.forall_mem_cons.mpr ⟨snd_putI (by decide) (by decide) rfl rfl wd1369 d209_64, List.forall_mem_cons.mpr ⟨snd_iconst d209_67 (by decide +kernel), List.forall_mem_cons.mpr ⟨snd_iret rfl d209_68, List.forall_mem_cons.mpr ⟨snd_aload_n d209_69 rfl, List.forall_mem_cons.mpr ⟨snd_iconst d209_70 (by decide +kernel), List.forall_mem_cons.mpr ⟨snd_putZ (by decide) (by decide) rfl rfl wd1374 d209_71, List.forall_mem_cons.mpr ⟨snd_iconst d209_74 (by decide +kernel), List.forall_mem_cons.mpr ⟨snd_istore_n d209_75 rfl, List.forall_mem_cons.mpr ⟨snd_iload_n d209_76 rfl, List.forall_mem_cons.mpr ⟨snd_sipush d209_77 (by decide +kernel), List.forall_mem_cons.mpr ⟨snd_cmp_ge d209_80 (by decide), List.forall_mem_cons.mpr ⟨snd_aload_n d209_83 rfl, List.forall_mem_cons.mpr ⟨snd_getR (by decide) (by decide) rfl wd1370 d209_84, List.forall_mem_cons.mpr ⟨snd_iload_n d209_87 rfl, List.forall_mem_cons.mpr ⟨snd_aload_n d209_88 rfl, List.forall_mem_cons.mpr ⟨snd_getR (by decide) (by decide) rfl wd1371 d209_89, List.forall_mem_cons.mpr ⟨snd_iload_n d209_92 rfl, List.forall_mem_cons.mpr ⟨snd_iald d209_93, List.forall_mem_cons.mpr ⟨snd_iast d209_94, List.forall_mem_cons.mpr ⟨snd_iinc d209_95 (by decide +kernel), List.forall_mem_cons.mpr ⟨snd_goto d209_98 (by decide), List.forall_mem_cons.mpr ⟨snd_aload_n d209_101 rfl, List.forall_mem_cons.mpr ⟨snd_iconst d209_102 (by decide +kernel), List.forall_mem_cons.mpr ⟨snd_putI (by decide) (by decide) rfl rfl wd1387 d209_103, fun _ h => by cases h⟩⟩⟩⟩⟩⟩⟩⟩⟩⟩⟩⟩⟩⟩⟩⟩⟩⟩⟩⟩⟩⟩⟩⟩⟩⟩⟩⟩⟩⟩
theorem sc209_2 : ∀ q ∈ tc209_2, Snd xtb M209 q.1 q.2 := List.forall_mem_cons.mpr ⟨snd_aload_n d209_106 rfl, List.forall_mem_cons.mpr ⟨snd_iconst d209_107 (by decide +kernel), List.forall_mem_cons.mpr ⟨snd_putI (by decide) (by decide) rfl rfl wd1398 d209_108, List.forall_mem_cons.mpr ⟨snd_aload_n d209_111 rfl, List.forall_mem_cons.mpr ⟨snd_iconst d209_112 (by decide +kernel), List.forall_mem_cons.mpr ⟨snd_putI (by decide) (by decide) rfl rfl wd1394 d209_113, List.forall_mem_cons.mpr ⟨snd_aload_n d209_116 rfl, List.forall_mem_cons.mpr ⟨snd_aload_n d209_117 rfl, List.forall_mem_cons.mpr ⟨snd_getR (by decide) (by decide) rfl wd1370 d209_118, List.forall_mem_cons.mpr ⟨snd_iconst d209_121 (by decide +kernel), List.forall_mem_cons.mpr ⟨snd_iald d209_122, List.forall_mem_cons.mpr ⟨snd_callV (by decide) rfl cn174 ⟨by decide +kernel, by decide +kernel⟩ cm174 (List.forall_mem_cons.mpr ⟨wd1622, cw174⟩) d209_123, List.forall_mem_cons.mpr ⟨snd_iret rfl d209_126, fun _ h => by cases h⟩⟩⟩⟩⟩⟩⟩⟩⟩⟩⟩⟩⟩
theorem d210_0 : decode (mC M210) 0 = .ok (.aload_n 0, 1) := by decide +kernel
theorem d210_1 : decode (mC M210) 1 = .ok (.iconst 0, 1) := by decide +kernel
theorem d210_2 : decode (mC M210) 2 = .ok (.putfield 64, 3) := by decide +kernel
theorem d210_5 : decode (mC M210) 5 = .ok (.aload_n 0, 1) := by decide +kernel
theorem d210_6 : decode (mC M210) 6 = .ok (.getfield 80, 3) := by decide +kernel
theorem d210_9 : decode (mC M210) 9 = .ok (.ireturn, 1) := by decide +kernel
theorem sc210_0 : ∀ q ∈ tc210_0, Snd xtb M210 q.1 q.2 := List.forall_mem_cons.mpr ⟨snd_aload_n d210_0 rfl, List.forall_mem_cons.mpr ⟨snd_iconst d210_1 (by decide +kernel), List.forall_mem_cons.mpr ⟨snd_putI (by decide) (by decide) rfl rfl wd1367 d210_2, List.forall_mem_cons.mpr ⟨snd_aload_n d210_5 rfl, List.forall_mem_cons.mpr ⟨snd_getI (by decide) (by decide) rfl wd1382 d210_6, List.forall_mem_cons.mpr ⟨snd_iret rfl d210_9, fun _ h => by cases h⟩⟩⟩⟩⟩⟩
theorem d211_0 : decode (mC M211) 0 = .ok (.aload_n 0, 1) := by decide +kernel
theorem d211_1 : decode (mC M211) 1 = .ok (.iconst 0, 1) := by decide +kernel
theorem d211_2 : decode (mC M211) 2 = .ok (.putfield 64, 3) := by decide +kernel
theorem d211_5 : decode (mC M211) 5 = .ok (.aload_n 0, 1) := by decide +kernel
theorem d211_6 : decode (mC M211) 6 = .ok (.getfield 9, 3) := by decide +kernel
theorem d211_9 : decode (mC M211) 9 = .ok (.ireturn, 1) := by decide +kernel
theorem sc211_0 : ∀ q ∈ tc211_0, Snd xtb M211 q.1 q.2 := List.forall_mem_cons.mpr ⟨snd_aload_n d211_0 rfl, List.forall_mem_cons.mpr ⟨snd_iconst d211_1 (by decide +kernel), List.forall_mem_cons.mpr ⟨snd_putI (by decide) (by decide) rfl rfl wd1367 d211_2, List.forall_mem_cons.mpr ⟨snd_aload_n d211_5 rfl, List.forall_mem_cons.mpr ⟨snd_getI (by decide) (by decide) rfl wd1369 d211_6, List.forall_mem_cons.mpr ⟨snd_iret rfl d211_9, fun _ h => by cases h⟩⟩⟩⟩⟩⟩
theorem d212_0 : decode (mC M212) 0 = .ok (.aload_n 0, 1) := by decide +kernel
theorem d212_1 : decode (mC M212) 1 = .ok (.iconst 0, 1) := by decide +kernel
theorem d212_2 : decode (mC M212) 2 = .ok (.putfield 64, 3) := by decide +kernel
theorem d212_5 : decode (mC M212) 5 = .ok (.aload_n 0, 1) := by decide +kernel
theorem d212_6 : decode (mC M212) 6 = .ok (.getfield 251, 3) := by decide +kernel
theorem d212_9 : decode (mC M212) 9 = .ok (.ifCond .eq 13, 3) := by decide +kernel
theorem d212_12 : decode (mC M212) 12 = .ok (.iload_n 1, 1) := by decide +kernel
theorem d212_13 : decode (mC M212) 13 = .ok (.iconst 0, 1) := by decide +kernel
theorem d212_14 : decode (mC M212) 14 = .ok (.bipush 8, 2) := by decide +kernel
theorem d212_16 : decode (mC M212) 16 = .ok (.invokestatic 95, 3) := by decide +kernel
theorem d212_19 : decode (mC M212) 19 = .ok (.ifCond .ne 9, 3) := by decide +kernel
theorem d212_22 : decode (mC M212) 22 = .ok (.aload_n 0, 1) := by decide +kernel
theorem d212_23 : decode (mC M212) 23 = .ok (.iconst 1, 1) := by decide +kernel
theorem d212_24 : decode (mC M212) 24 = .ok (.invokevirtual 70, 3) := by decide +kernel
theorem d212_27 : decode (mC M212) 27 = .ok (.ireturn, 1) := by decide +kernel
theorem d212_28 : decode (mC M212) 28 = .ok (.aload_n 0, 1) := by decide +kernel
theorem d212_29 : decode (mC M212) 29 = .ok (.iload_n 1, 1) := by decide +kernel
theorem d212_30 : decode (mC M212) 30 = .ok (.bipush 8, 2) := by decide +kernel
theorem d212_32 : decode (mC M212) 32 = .ok (.if_icmp .ne 10, 3) := by decide +kernel
theorem d212_35 : decode (mC M212) 35 = .ok (.aload_n 0, 1) := by decide +kernel
theorem d212_36 : decode (mC M212) 36 = .ok (.getfield 255, 3) := by decide +kernel
theorem d212_39 : decode (mC M212) 39 = .ok (.goto 9, 3) := by decide +kernel
theorem d212_42 : decode (mC M212) 42 = .ok (.aload_n 0, 1) := by decide +kernel
theorem d212_43 : decode (mC M212) 43 = .ok (.getfield 13, 3) := by decide +kernel
theorem d212_46 : decode (mC M212) 46 = .ok (.iload_n 1, 1) := by decide +kernel
theorem d212_47 : decode (mC M212) 47 = .ok (.iaload, 1) := by decide +kernel
theorem d212_48 : decode (mC M212) 48 = .ok (.invokevirtual 264, 3) := by decide +kernel
theorem d212_51 : decode (mC M212) 51 = .ok (.ireturn, 1) := by decide +kernel
theorem sc212_0 : ∀ q ∈ tc212_0, Snd xtb M212 q.1 q.2 := List.forall_mem_cons.mpr ⟨snd_aload_n d212_0 rfl, List.forall_mem_cons.mpr ⟨snd_iconst d212_1 (by decide +kernel), List.forall_mem_cons.mpr ⟨snd_putI (by decide) (by decide) rfl rfl wd1367 d212_2, List.forall_mem_cons.mpr ⟨snd_aload_n d212_5 rfl, List.forall_mem_cons.mpr ⟨snd_getI (by decide) (by decide) rfl wd1374 d212_6, List.forall_mem_cons.mpr ⟨snd_if_eq d212_9 (by decide), List.forall_mem_cons.mpr ⟨snd_iload_n d212_12 rfl, List.forall_mem_cons.mpr ⟨snd_iconst d212_13 (by decide +kernel), List.forall_mem_cons.mpr ⟨snd_bipush d212_14 (by decide +kernel), List.forall_mem_cons.mpr ⟨snd_callS cn175 ⟨by decide +kernel, by decide +kernel⟩ cm175 (List.forall_mem_cons.mpr ⟨wd1492, cw175⟩) d212_16, List.forall_mem_cons.mpr ⟨snd_if_ne d212_19 (by decide), List.forall_mem_cons.mpr ⟨snd_aload_n d212_22 rfl, List.forall_mem_cons.mpr ⟨snd_iconst d212_23 (by decide +kernel), List.forall_mem_cons.mpr ⟨snd_callV (by decide) rfl cn172 ⟨by decide +kernel, by decide +kernel⟩ cm172 (List.forall_mem_cons.mpr ⟨wd1476, cw172⟩) d212_24, List.forall_mem_cons.mpr ⟨snd_iret rfl d212_27, List.forall_mem_cons.mpr ⟨snd_aload_n d212_28 rfl, List.forall_mem_cons.mpr ⟨snd_iload_n d212_29 rfl, List.forall_mem_cons.mpr ⟨snd_bipush d212_30 (by decide +kernel), List.forall_mem_cons.mpr ⟨snd_cmp_ne d212_32 (by decide), List.forall_mem_cons.mpr ⟨snd_aload_n d212_35 rfl, List.forall_mem_cons.mpr ⟨snd_getI (by decide) (by decide) rfl wd1387 d212_36, List.forall_mem_cons.mpr ⟨snd_goto d212_39 (by decide), List.forall_mem_cons.mpr ⟨snd_aload_n d212_42 rfl, List.forall_mem_cons.mpr ⟨snd_getR (by decide) (by decide) rfl wd1370 d212_43, List.forall_mem_cons.mpr ⟨snd_iload_n d212_46 rfl, List.forall_mem_cons.mpr ⟨snd_iald d212_47, List.forall_mem_cons.mpr ⟨snd_callV (by decide) rfl cn174 ⟨by decide +kernel, by decide +kernel⟩ cm174 (List.forall_mem_cons.mpr ⟨wd1622, cw174⟩) d212_48, List.forall_mem_cons.mpr ⟨snd_iret rfl d212_51, fun _ h => by cases h⟩⟩⟩⟩⟩⟩⟩⟩⟩⟩⟩⟩⟩⟩⟩⟩⟩⟩⟩⟩⟩⟩⟩⟩⟩⟩⟩⟩
theorem d213_0 : decode (mC M213) 0 = .ok (.aload_n 0, 1) := by decide +kernel
theorem d213_1 : decode (mC M213) 1 = .ok (.getfield 251, 3) := by decide +kernel
theorem d213_4 : decode (mC M213) 4 = .ok (.ifCond .eq 23, 3) := by decide +kernel
theorem d213_7 : decode (mC M213) 7 = .ok (.iload_n 1, 1) := by decide +kernel
theorem d213_8 : decode (mC M213) 8 = .ok (.iconst 0, 1) := by decide +kernel
theorem d213_9 : decode (mC M213) 9 = .ok (.aload_n 0, 1) := by decide +kernel
theorem d213_10 : decode (mC M213) 10 = .ok (.getfield 13, 3) := by decide +kernel
theorem d213_13 : decode (mC M213) 13 = .ok (.iconst 2, 1) := by decide +kernel
theorem d213_14 : decode (mC M213) 14 = .ok (.iaload, 1) := by decide +kernel
theorem d213_15 : decode (mC M213) 15 = .ok (.iconst 1, 1) := by decide +kernel
theorem d213_16 : decode (mC M213) 16 = .ok (.isub, 1) := by decide +kernel
theorem d213_17 : decode (mC M213) 17 = .ok (.invokestatic 95, 3) := by decide +kernel
theorem d213_20 : decode (mC M213) 20 = .ok (.ifCond .eq 7, 3) := by decide +kernel
theorem d213_23 : decode (mC M213) 23 = .ok (.iconst 1, 1) := by decide +kernel
theorem d213_24 : decode (mC M213) 24 = .ok (.goto 4, 3) := by decide +kernel
theorem d213_27 : decode (mC M213) 27 = .ok (.iconst 0, 1) := by decide +kernel
theorem d213_28 : decode (mC M213) 28 = .ok (.ireturn, 1) := by decide +kernel
theorem sc213_0 : ∀ q ∈ tc213_0, Snd xtb M213 q.1 q.2 := List.forall_mem_cons.mpr ⟨snd_aload_n d213_0 rfl, List.forall_mem_cons.mpr ⟨snd_getI (by decide) (by decide) rfl wd1374 d213_1, List.forall_mem_cons.mpr ⟨snd_if_eq d213_4 (by decide), List.forall_mem_cons.mpr ⟨snd_iload_n d213_7 rfl, List.forall_mem_cons.mpr ⟨snd_iconst d213_8 (by decide +kernel), List.forall_mem_cons.mpr ⟨snd_aload_n d213_9 rfl, List.forall_mem_cons.mpr ⟨snd_getR (by decide) (by decide) rfl wd1370 d213_10, List.forall_mem_cons.mpr ⟨snd_iconst d213_13 (by decide +kernel), List.forall_mem_cons.mpr ⟨snd_iald d213_14, List.forall_mem_cons.mpr ⟨snd_iconst d213_15 (by decide +kernel), List.forall_mem_cons.mpr ⟨snd_isub d213_16, List.forall_mem_cons.mpr ⟨snd_callS cn175 ⟨by decide +kernel, by decide +kernel⟩ cm175 (List.forall_mem_cons.mpr ⟨wd1492, cw175⟩) d213_17, List.forall_mem_cons.mpr ⟨snd_if_eq d213_20 (by decide), List.forall_mem_cons.mpr ⟨snd_iconst d213_23 (by decide +kernel), List.forall_mem_cons.mpr ⟨snd_goto d213_24 (by decide), List.forall_mem_cons.mpr ⟨snd_iconst d213_27 (by decide +kernel), List.forall_mem_cons.mpr ⟨snd_zret rfl d213_28, fun _ h => by cases h⟩⟩⟩⟩⟩⟩⟩⟩⟩⟩⟩⟩⟩⟩⟩⟩⟩
theorem d214_0 : decode (mC M214) 0 = .ok (.aload_n 0, 1) := by decide +kernel
theorem d214_1 : decode (mC M214) 1 = .ok (.getfield 251, 3) := by decide +kernel
theorem d214_4 : decode (mC M214) 4 = .ok (.ifCond .eq 23, 3) := by decide +kernel
theorem d214_7 : decode (mC M214) 7 = .ok (.iload_n 1, 1) := by decide +kernel
theorem d214_8 : decode (mC M214) 8 = .ok (.iconst 0, 1) := by decide +kernel
theorem d214_9 : decode (mC M214) 9 = .ok (.aload_n 0, 1) := by decide +kernel
theorem d214_10 : decode (mC M214) 10 = .ok (.getfield 13, 3) := by decide +kernel
theorem d214_13 : decode (mC M214) 13 = .ok (.iconst 3, 1) := by decide +kernel
theorem d214_14 : decode (mC M214) 14 = .ok (.iaload, 1) := by decide +kernel
theorem d214_15 : decode (mC M214) 15 = .ok (.iconst 1, 1) := by decide +kernel
theorem d214_16 : decode (mC M214) 16 = .ok (.isub, 1) := by decide +kernel
theorem d214_17 : decode (mC M214) 17 = .ok (.invokestatic 95, 3) := by decide +kernel
theorem d214_20 : decode (mC M214) 20 = .ok (.ifCond .eq 7, 3) := by decide +kernel
theorem d214_23 : decode (mC M214) 23 = .ok (.iconst 1, 1) := by decide +kernel
theorem d214_24 : decode (mC M214) 24 = .ok (.goto 4, 3) := by decide +kernel
theorem d214_27 : decode (mC M214) 27 = .ok (.iconst 0, 1) := by decide +kernel
theorem d214_28 : decode (mC M214) 28 = .ok (.ireturn, 1) := by decide +kernel
theorem sc214_0 : ∀ q ∈ tc214_0, Snd xtb M214 q.1 q.2 := List.forall_mem_cons.mpr ⟨snd_aload_n d214_0 rfl, List.forall_mem_cons.mpr ⟨snd_getI (by decide) (by decide) rfl wd1374 d214_1, List.forall_mem_cons.mpr ⟨snd_if_eq d214_4 (by decide), List.forall_mem_cons.mpr ⟨snd_iload_n d214_7 rfl, List.forall_mem_cons.mpr ⟨snd_iconst d214_8 (by decide +kernel), List.forall_mem_cons.mpr ⟨snd_aload_n d214_9 rfl, List.forall_mem_cons.mpr ⟨snd_getR (by decide) (by decide) rfl wd1370 d214_10, List.forall_mem_cons.mpr ⟨snd_iconst d214_13 (by decide +kernel), List.forall_mem_cons.mpr ⟨snd_iald d214_14, List.forall_mem_cons.mpr ⟨snd_iconst d214_15 (by decide +kernel), List.forall_mem_cons.mpr ⟨snd_isub d214_16, List.forall_mem_cons.mpr ⟨snd_callS cn175 ⟨by decide +kernel, by decide +kernel⟩ cm175 (List.forall_mem_cons.mpr ⟨wd1492, cw175⟩) d214_17, List.forall_mem_cons.mpr ⟨snd_if_eq d214_20 (by decide), List.forall_mem_cons.mpr ⟨snd_iconst d214_23 (by decide +kernel), List.forall_mem_cons.mpr ⟨snd_goto d214_24 (by decide), List.forall_mem_cons.mpr ⟨snd_iconst d214_27 (by decide +kernel), List.forall_mem_cons.mpr ⟨snd_zret rfl d214_28, fun _ h => by cases h⟩⟩⟩⟩⟩⟩⟩⟩⟩⟩⟩⟩⟩⟩⟩⟩⟩
theorem d215_0 : decode (mC M215) 0 = .ok (.aload_n 0, 1) := by decide +kernel
theorem d215_1 : decode (mC M215) 1 = .ok (.iconst 0, 1) := by decide +kernel
theorem d215_2 : decode (mC M215) 2 = .ok (.putfield 64, 3) := by decide +kernel
theorem d215_5 : decode (mC M215) 5 = .ok (.aload_n 0, 1) := by decide +kernel
theorem d215_6 : decode (mC M215) 6 = .ok (.iload_n 1, 1) := by decide +kernel
theorem d215_7 : decode (mC M215) 7 = .ok (.invokevirtual 267, 3) := by decide +kernel
theorem d215_10 : decode (mC M215) 10 = .ok (.ifCond .eq 19, 3) := by decide +kernel
theorem d215_13 : decode (mC M215) 13 = .ok (.aload_n 0, 1) := by decide +kernel
theorem d215_14 : decode (mC M215) 14 = .ok (.aload_n 0, 1) := by decide +kernel
theorem d215_15 : decode (mC M215) 15 = .ok (.getfield 13, 3) := by decide +kernel
theorem d215_18 : decode (mC M215) 18 = .ok (.bipush 8, 2) := by decide +kernel
theorem d215_20 : decode (mC M215) 20 = .ok (.iload_n 1, 1) := by decide +kernel
theorem d215_21 : decode (mC M215) 21 = .ok (.iadd, 1) := by decide +kernel
theorem d215_22 : decode (mC M215) 22 = .ok (.iaload, 1) := by decide +kernel
theorem d215_23 : decode (mC M215) 23 = .ok (.invokevirtual 264, 3) := by decide +kernel
theorem d215_26 : decode (mC M215) 26 = .ok (.goto 8, 3) := by decide +kernel
theorem d215_29 : decode (mC M215) 29 = .ok (.aload_n 0, 1) := by decide +kernel
theorem d215_30 : decode (mC M215) 30 = .ok (.iconst 1, 1) := by decide +kernel
theorem d215_31 : decode (mC M215) 31 = .ok (.invokevirtual 70, 3) := by decide +kernel
theorem d215_34 : decode (mC M215) 34 = .ok (.ireturn, 1) := by decide +kernel
theorem sc215_0 : ∀ q ∈ tc215_0, Snd xtb M215 q.1 q.2 := List.forall_mem_cons.mpr ⟨snd_aload_n d215_0 rfl, List.forall_mem_cons.mpr ⟨snd_iconst d215_1 (by decide +kernel), List.forall_mem_cons.mpr ⟨snd_putI (by decide) (by decide) rfl rfl wd1367 d215_2, List.forall_mem_cons.mpr ⟨snd_aload_n d215_5 rfl, List.forall_mem_cons.mpr ⟨snd_iload_n d215_6 rfl, List.forall_mem_cons.mpr ⟨snd_callV (by decide) rfl cn213 ⟨by decide +kernel, by decide +kernel⟩ cm213 (List.forall_mem_cons.mpr ⟨wd1642, cw213⟩) d215_7, List.forall_mem_cons.mpr ⟨snd_if_eq d215_10 (by decide), List.forall_mem_cons.mpr ⟨snd_aload_n d215_13 rfl, List.forall_mem_cons.mpr ⟨snd_aload_n d215_14 rfl, List.forall_mem_cons.mpr ⟨snd_getR (by decide) (by decide) rfl wd1370 d215_15, List.forall_mem_cons.mpr ⟨snd_bipush d215_18 (by decide +kernel), List.forall_mem_cons.mpr ⟨snd_iload_n d215_20 rfl, List.forall_mem_cons.mpr ⟨snd_iadd d215_21, List.forall_mem_cons.mpr ⟨snd_iald d215_22, List.forall_mem_cons.mpr ⟨snd_callV (by decide) rfl cn174 ⟨by decide +kernel, by decide +kernel⟩ cm174 (List.forall_mem_cons.mpr ⟨wd1622, cw174⟩) d215_23, List.forall_mem_cons.mpr ⟨snd_goto d215_26 (by decide), List.forall_mem_cons.mpr ⟨snd_aload_n d215_29 rfl, List.forall_mem_cons.mpr ⟨snd_iconst d215_30 (by decide +kernel), List.forall_mem_cons.mpr ⟨snd_callV (by decide) rfl cn172 ⟨by decide +kernel, by decide +kernel⟩ cm172 (List.forall_mem_cons.mpr ⟨wd1476, cw172⟩) d215_31, List.forall_mem_cons.mpr ⟨snd_iret rfl d215_34, fun _ h => by cases h⟩⟩⟩⟩⟩⟩⟩⟩⟩⟩⟩⟩⟩⟩⟩⟩⟩⟩⟩⟩
theorem d216_0 : decode (mC M216) 0 = .ok (.aload_n 0, 1) := by decide +kernel
theorem d216_1 : decode (mC M216) 1 = .ok (.iconst 0, 1) := by decide +kernel
theorem d216_2 : decode (mC M216) 2 = .ok (.putfield 64, 3) := by decide +kernel
theorem d216_5 : decode (mC M216) 5 = .ok (.aload_n 0, 1) := by decide +kernel
theorem d216_6 : decode (mC M216) 6 = .ok (.iload_n 1, 1) := by decide +kernel
theorem d216_7 : decode (mC M216) 7 = .ok (.invokevirtual 271, 3) := by decide +kernel
theorem d216_10 : decode (mC M216) 10 = .ok (.ifCond .eq 12, 3) := by decide +kernel
theorem d216_13 : decode (mC M216) 13 = .ok (.iload_n 2, 1) := by decide +kernel
theorem d216_14 : decode (mC M216) 14 = .ok (.iconst 0, 1) := by decide +kernel
theorem d216_15 : decode (mC M216) 15 = .ok (.iconst 2, 1) := by decide +kernel
theorem d216_16 : decode (mC M216) 16 = .ok (.invokestatic 95, 3) := by decide +kernel
theorem d216_19 : decode (mC M216) 19 = .ok (.ifCond .ne 9, 3) := by decide +kernel
theorem d216_22 : decode (mC M216) 22 = .ok (.aload_n 0, 1) := by decide +kernel
theorem d216_23 : decode (mC M216) 23 = .ok (.iconst 1, 1) := by decide +kernel
theorem d216_24 : decode (mC M216) 24 = .ok (.invokevirtual 70, 3) := by decide +kernel
theorem d216_27 : decode (mC M216) 27 = .ok (.ireturn, 1) := by decide +kernel
theorem d216_28 : decode (mC M216) 28 = .ok (.aload_n 0, 1) := by decide +kernel
theorem d216_29 : decode (mC M216) 29 = .ok (.iload_n 2, 1) := by decide +kernel
theorem d216_30 : decode (mC M216) 30 = .ok (.ifCond .ne 15, 3) := by decide +kernel
theorem d216_33 : decode (mC M216) 33 = .ok (.aload_n 0, 1) := by decide +kernel
theorem d216_34 : decode (mC M216) 34 = .ok (.getfield 13, 3) := by decide +kernel
theorem d216_37 : decode (mC M216) 37 = .ok (.bipush 14, 2) := by decide +kernel
theorem d216_39 : decode (mC M216) 39 = .ok (.iload_n 1, 1) := by decide +kernel
theorem d216_40 : decode (mC M216) 40 = .ok (.iadd, 1) := by decide +kernel
theorem d216_41 : decode (mC M216) 41 = .ok (.iaload, 1) := by decide +kernel
theorem d216_42 : decode (mC M216) 42 = .ok (.goto 25, 3) := by decide +kernel
theorem d216_45 : decode (mC M216) 45 = .ok (.iload_n 2, 1) := by decide +kernel
theorem d216_46 : decode (mC M216) 46 = .ok (.iconst 1, 1) := by decide +kernel
theorem d216_47 : decode (mC M216) 47 = .ok (.if_icmp .ne 15, 3) := by decide +kernel
theorem d216_50 : decode (mC M216) 50 = .ok (.aload_n 0, 1) := by decide +kernel
theorem d216_51 : decode (mC M216) 51 = .ok (.getfield 13, 3) := by decide +kernel
theorem d216_54 : decode (mC M216) 54 = .ok (.bipush 24, 2) := by decide +kernel
theorem d216_56 : decode (mC M216) 56 = .ok (.iload_n 1, 1) := by decide +kernel
theorem d216_57 : decode (mC M216) 57 = .ok (.iadd, 1) := by decide +kernel
theorem d216_58 : decode (mC M216) 58 = .ok (.iaload, 1) := by decide +kernel
theorem d216_59 : decode (mC M216) 59 = .ok (.goto 8, 3) := by decide +kernel
theorem d216_62 : decode (mC M216) 62 = .ok (.aload_n 0, 1) := by decide +kernel
theorem d216_63 : decode (mC M216) 63 = .ok (.iload_n 1, 1) := by decide +kernel
theorem d216_64 : decode (mC M216) 64 = .ok (.invokevirtual 274, 3) := by decide +kernel
theorem d216_67 : decode (mC M216) 67 = .ok (.invokevirtual 264, 3) := by decide +kernel
theorem d216_70 : decode (mC M216) 70 = .ok (.ireturn, 1) := by decide +kernel
theorem sc216_0 : ∀ q ∈ tc216_0, Snd xtb M216 q.1 q.2 := List.forall_mem_cons.mpr ⟨snd_aload_n d216_0 rfl, List.forall_mem_cons.mpr ⟨snd_iconst d216_1 (by decide +kernel), List.forall_mem_cons.mpr ⟨snd_putI (by decide) (by decide) rfl rfl wd1367 d216_2, List.forall_mem_cons.mpr ⟨snd_aload_n d216_5 rfl, List.forall_mem_cons.mpr ⟨snd_iload_n d216_6 rfl, List.forall_mem_cons.mpr ⟨snd_callV (by decide) rfl cn214 ⟨by decide +kernel, by decide +kernel⟩ cm214 (List.forall_mem_cons.mpr ⟨wd1650, cw214⟩) d216_7, List.forall_mem_cons.mpr ⟨snd_if_eq d216_10 (by decide), List.forall_mem_cons.mpr ⟨snd_iload_n d216_13 rfl, List.forall_mem_cons.mpr ⟨snd_iconst d216_14 (by decide +kernel), List.forall_mem_cons.mpr ⟨snd_iconst d216_15 (by decide +kernel), List.forall_mem_cons.mpr ⟨snd_callS cn175 ⟨by decide +kernel, by decide +kernel⟩ cm175 (List.forall_mem_cons.mpr ⟨wd1492, cw175⟩) d216_16, List.forall_mem_cons.mpr ⟨snd_if_ne d216_19 (by decide), List.forall_mem_cons.mpr ⟨snd_aload_n d216_22 rfl, List.forall_mem_cons.mpr ⟨snd_iconst d216_23 (by decide +kernel), List.forall_mem_cons.mpr ⟨snd_callV (by decide) rfl cn172 ⟨by decide +kernel, by decide +kernel⟩ cm172 (List.forall_mem_cons.mpr ⟨wd1476, cw172⟩) d216_24, List.forall_mem_cons.mpr ⟨snd_iret rfl d216_27, List.forall_mem_cons.mpr ⟨snd_aload_n d216_28 rfl, List.forall_mem_cons.mpr ⟨snd_iload_n d216_29 rfl, List.forall_mem_cons.mpr ⟨snd_if_ne d216_30 (by decide), List.forall_mem_cons.mpr ⟨snd_aload_n d216_33 rfl, List.forall_mem_cons.mpr ⟨snd_getR (by decide) (by decide) rfl wd1370 d216_34, List.forall_mem_cons.mpr ⟨snd_bipush d216_37 (by decide +kernel), List.forall_mem_cons.mpr ⟨snd_iload_n d216_39 rfl, List.forall_mem_cons.mpr ⟨snd_iadd d216_40, List.forall_mem_cons.mpr ⟨snd_iald d216_41, List.forall_mem_cons.mpr ⟨snd_goto d216_42 (by decide), List.forall_mem_cons.mpr ⟨snd_iload_n d216_45 rfl, List.forall_mem_cons.mpr ⟨snd_iconst d216_46 (by decide +kernel), List.forall_mem_cons.mpr ⟨snd_cmp_ne d216_47 (by decide), List.forall_mem_cons.mpr ⟨snd_aload_n d216_50 rfl, fun _ h => by cases h⟩⟩⟩⟩⟩⟩⟩⟩⟩⟩⟩⟩⟩⟩⟩⟩⟩⟩⟩⟩⟩⟩⟩⟩⟩⟩⟩⟩⟩⟩
theorem sc216_1 : ∀ q ∈ tc216_1, Snd xtb M216 q.1 q.2 := List.forall_mem_cons.mpr ⟨snd_getR (by decide) (by decide) rfl wd1370 d216_51, List.forall_mem_cons.mpr ⟨snd_bipush d216_54 (by decide +kernel), List.forall_mem_cons.mpr ⟨snd_iload_n d216_56 rfl, List.forall_mem_cons.mpr ⟨snd_iadd d216_57, List.forall_mem_cons.mpr ⟨snd_iald d216_58, List.forall_mem_cons.mpr ⟨snd_goto d216_59 (by decide), List.forall_mem_cons.mpr ⟨snd_aload_n d216_62 rfl, List.forall_mem_cons.mpr ⟨snd_iload_n d216_63 rfl, List.forall_mem_cons.mpr ⟨snd_callV (by decide) rfl cn217 ⟨by decide +kernel, by decide +kernel⟩ cm217 (List.forall_mem_cons.mpr ⟨wd1654, cw217⟩) d216_64, List.forall_mem_cons.mpr ⟨snd_callV (by decide) rfl cn174 ⟨by decide +kernel, by decide +kernel⟩ cm174 (List.forall_mem_cons.mpr ⟨wd1622, cw174⟩) d216_67, List.forall_mem_cons.mpr ⟨snd_iret rfl d216_70, fun _ h => by cases h⟩⟩⟩⟩⟩⟩⟩⟩⟩⟩⟩
theorem d217_0 : decode (mC M217) 0 = .ok (.iconst 0, 1) := by decide +kernel
theorem d217_1 : decode (mC M217) 1 = .ok (.istore_n 2, 1) := by decide +kernel
theorem d217_2 : decode (mC M217) 2 = .ok (.iconst 0, 1) := by decide +kernel
theorem d217_3 : decode (mC M217) 3 = .ok (.istore_n 3, 1) := by decide +kernel
theorem d217_4 : decode (mC M217) 4 = .ok (.iload_n 3, 1) := by decide +kernel
theorem d217_5 : decode (mC M217) 5 = .ok (.aload_n 0, 1) := by decide +kernel
theorem d217_6 : decode (mC M217) 6 = .ok (.getfield 13, 3) := by decide +kernel
theorem d217_9 : decode (mC M217) 9 = .ok (.iconst 4, 1) := by decide +kernel
theorem d217_10 : decode (mC M217) 10 = .ok (.iaload, 1) := by decide +kernel
theorem d217_11 : decode (mC M217) 11 = .ok (.if_icmp .ge 30, 3) := by decide +kernel
theorem d217_14 : decode (mC M217) 14 = .ok (.iload_n 2, 1) := by decide +kernel
theorem d217_15 : decode (mC M217) 15 = .ok (.aload_n 0, 1) := by decide +kernel
theorem d217_16 : decode (mC M217) 16 = .ok (.getfield 13, 3) := by decide +kernel
theorem d217_19 : decode (mC M217) 19 = .ok (.iload_n 3, 1) := by decide +kernel
theorem d217_20 : decode (mC M217) 20 = .ok (.invokestatic 225, 3) := by decide +kernel
theorem d217_23 : decode (mC M217) 23 = .ok (.iaload, 1) := by decide +kernel
theorem d217_24 : decode (mC M217) 24 = .ok (.iload_n 1, 1) := by decide +kernel
theorem d217_25 : decode (mC M217) 25 = .ok (.if_icmp .ne 7, 3) := by decide +kernel
theorem d217_28 : decode (mC M217) 28 = .ok (.iconst 1, 1) := by decide +kernel
theorem d217_29 : decode (mC M217) 29 = .ok (.goto 4, 3) := by decide +kernel
theorem d217_32 : decode (mC M217) 32 = .ok (.iconst 0, 1) := by decide +kernel
theorem d217_33 : decode (mC M217) 33 = .ok (.iadd, 1) := by decide +kernel
theorem d217_34 : decode (mC M217) 34 = .ok (.istore_n 2, 1) := by decide +kernel
theorem d217_35 : decode (mC M217) 35 = .ok (.iinc 3 1, 3) := by decide +kernel
theorem d217_38 : decode (mC M217) 38 = .ok (.goto (-34), 3) := by decide +kernel
theorem d217_41 : decode (mC M217) 41 = .ok (.iload_n 2, 1) := by decide +kernel
theorem d217_42 : decode (mC M217) 42 = .ok (.ireturn, 1) := by decide +kernel
theorem sc217_0 : ∀ q ∈ tc217_0, Snd xtb M217 q.1 q.2 := List.forall_mem_cons.mpr ⟨snd_iconst d217_0 (by decide +kernel), List.forall_mem_cons.mpr ⟨snd_istore_n d217_1 rfl, List.forall_mem_cons.mpr ⟨snd_iconst d217_2 (by decide +kernel), List.forall_mem_cons.mpr ⟨snd_istore_n d217_3 rfl, List.forall_mem_cons.mpr ⟨snd_iload_n d217_4 rfl, List.forall_mem_cons.mpr ⟨snd_aload_n d217_5 rfl, List.forall_mem_cons.mpr ⟨snd_getR (by decide) (by decide) rfl wd1370 d217_6, List.forall_mem_cons.mpr ⟨snd_iconst d217_9 (by decide +kernel), List.forall_mem_cons.mpr ⟨snd_iald d217_10, List.forall_mem_cons.mpr ⟨snd_cmp_ge d217_11 (by decide), List.forall_mem_cons.mpr ⟨snd_iload_n d217_14 rfl, List.forall_mem_cons.mpr ⟨snd_aload_n d217_15 rfl, List.forall_mem_cons.mpr ⟨snd_getR (by decide) (by decide) rfl wd1370 d217_16, List.forall_mem_cons.mpr ⟨snd_iload_n d217_19 rfl, List.forall_mem_cons.mpr ⟨snd_callS cn199 ⟨by decide +kernel, by decide +kernel⟩ cm199 (List.forall_mem_cons.mpr ⟨wd1597, cw199⟩) d217_20, List.forall_mem_cons.mpr ⟨snd_iald d217_23, List.forall_mem_cons.mpr ⟨snd_iload_n d217_24 rfl, List.forall_mem_cons.mpr ⟨snd_cmp_ne d217_25 (by decide), List.forall_mem_cons.mpr ⟨snd_iconst d217_28 (by decide +kernel), List.forall_mem_cons.mpr ⟨snd_goto d217_29 (by decide), List.forall_mem_cons.mpr ⟨snd_iconst d217_32 (by decide +kernel), List.forall_mem_cons.mpr ⟨snd_iadd d217_33, List.forall_mem_cons.mpr ⟨snd_istore_n d217_34 rfl, List.forall_mem_cons.mpr ⟨snd_iinc d217_35 (by decide +kernel), List.forall_mem_cons.mpr ⟨snd_goto d217_38 (by decide), List.forall_mem_cons.mpr ⟨snd_iload_n d217_41 rfl, List.forall_mem_cons.mpr ⟨snd_iret rfl d217_42, fun _ h => by cases h⟩⟩⟩⟩⟩⟩⟩⟩⟩⟩⟩⟩⟩⟩⟩⟩⟩⟩⟩⟩⟩⟩⟩⟩⟩⟩⟩
theorem d218_0 : decode (mC M218) 0 = .ok (.iconst (-1), 1) := by decide +kernel
theorem d218_1 : decode (mC M218) 1 = .ok (.istore_n 3, 1) := by decide +kernel
theorem d218_2 : decode (mC M218) 2 = .ok (.iconst 0, 1) := by decide +kernel
theorem d218_3 : decode (mC M218) 3 = .ok (.istore 4, 2) := by decide +kernel
theorem d218_5 : decode (mC M218) 5 = .ok (.iload 4, 2) := by decide +kernel
theorem d218_7 : decode (mC M218) 7 = .ok (.aload_n 0, 1) := by decide +kernel
theorem d218_8 : decode (mC M218) 8 = .ok (.getfield 13, 3) := by decide +kernel
theorem d218_11 : decode (mC M218) 11 = .ok (.iconst 4, 1) := by decide +kernel
theorem d218_12 : decode (mC M218) 12 = .ok (.iaload, 1) := by decide +kernel
theorem d218_13 : decode (mC M218) 13 = .ok (.if_icmp .ge 42, 3) := by decide +kernel
theorem d218_16 : decode (mC M218) 16 = .ok (.aload_n 0, 1) := by decide +kernel
theorem d218_17 : decode (mC M218) 17 = .ok (.getfield 13, 3) := by decide +kernel
theorem d218_20 : decode (mC M218) 20 = .ok (.iload 4, 2) := by decide +kernel
theorem d218_22 : decode (mC M218) 22 = .ok (.invokestatic 225, 3) := by decide +kernel
theorem d218_25 : decode (mC M218) 25 = .ok (.iaload, 1) := by decide +kernel
theorem d218_26 : decode (mC M218) 26 = .ok (.iload_n 1, 1) := by decide +kernel
theorem d218_27 : decode (mC M218) 27 = .ok (.if_icmp .ne 22, 3) := by decide +kernel
theorem d218_30 : decode (mC M218) 30 = .ok (.aload_n 0, 1) := by decide +kernel
theorem d218_31 : decode (mC M218) 31 = .ok (.getfield 13, 3) := by decide +kernel
theorem d218_34 : decode (mC M218) 34 = .ok (.iload 4, 2) := by decide +kernel
theorem d218_36 : decode (mC M218) 36 = .ok (.invokestatic 225, 3) := by decide +kernel
theorem d218_39 : decode (mC M218) 39 = .ok (.iconst 1, 1) := by decide +kernel
theorem d218_40 : decode (mC M218) 40 = .ok (.iadd, 1) := by decide +kernel
theorem d218_41 : decode (mC M218) 41 = .ok (.iaload, 1) := by decide +kernel
theorem d218_42 : decode (mC M218) 42 = .ok (.iload_n 2, 1) := by decide +kernel
theorem d218_43 : decode (mC M218) 43 = .ok (.if_icmp .gt 6, 3) := by decide +kernel
theorem d218_46 : decode (mC M218) 46 = .ok (.iload 4, 2) := by decide +kernel
theorem d218_48 : decode (mC M218) 48 = .ok (.istore_n 3, 1) := by decide +kernel
theorem d218_49 : decode (mC M218) 49 = .ok (.iinc 4 1, 3) := by decide +kernel
theorem d218_52 : decode (mC M218) 52 = .ok (.goto (-47), 3) := by decide +kernel
theorem d218_55 : decode (mC M218) 55 = .ok (.iload_n 3, 1) := by decide +kernel
theorem d218_56 : decode (mC M218) 56 = .ok (.ireturn, 1) := by decide +kernel
theorem sc218_0 : ∀ q ∈ tc218_0, Snd xtb M218 q.1 q.2 := List.forall_mem_cons.mpr ⟨snd_iconst d218_0 (by decide +kernel), List.forall_mem_cons.mpr ⟨snd_istore_n d218_1 rfl, List.forall_mem_cons.mpr ⟨snd_iconst d218_2 (by decide +kernel), List.forall_mem_cons.mpr ⟨snd_istore d218_3, List.forall_mem_cons.mpr ⟨snd_iload d218_5, List.forall_mem_cons.mpr ⟨snd_aload_n d218_7 rfl, List.forall_mem_cons.mpr ⟨snd_getR (by decide) (by decide) rfl wd1370 d218_8, List.forall_mem_cons.mpr ⟨snd_iconst d218_11 (by decide +kernel), List.forall_mem_cons.mpr ⟨snd_iald d218_12, List.forall_mem_cons.mpr ⟨snd_cmp_ge d218_13 (by decide), List.forall_mem_cons.mpr ⟨snd_aload_n d218_16 rfl, List.forall_mem_cons.mpr ⟨snd_getR (by decide) (by decide) rfl wd1370 d218_17, List.forall_mem_cons.mpr ⟨snd_iload d218_20, List.forall_mem_cons.mpr ⟨snd_callS cn199 ⟨by decide +kernel, by decide +kernel⟩ cm199 (List.forall_mem_cons.mpr ⟨wd1597, cw199⟩) d218_22, List.forall_mem_cons.mpr ⟨snd_iald d218_25, List.forall_mem_cons.mpr ⟨snd_iload_n d218_26 rfl, List.forall_mem_cons.mpr ⟨snd_cmp_ne d218_27 (by decide), List.forall_mem_cons.mpr ⟨snd_aload_n d218_30 rfl, List.forall_mem_cons.mpr ⟨snd_getR (by decide) (by decide) rfl wd1370 d218_31, List.forall_mem_cons.mpr ⟨snd_iload d218_34, List.forall_mem_cons.mpr ⟨snd_callS cn199 ⟨by decide +kernel, by decide +kernel⟩ cm199 (List.forall_mem_cons.mpr ⟨wd1597, cw199⟩) d218_36, List.forall_mem_cons.mpr ⟨snd_iconst d218_39 (by decide +kernel), List.forall_mem_cons.mpr ⟨snd_iadd d218_40, List.forall_mem_cons.mpr ⟨snd_iald d218_41, List.forall_mem_cons.mpr ⟨snd_iload_n d218_42 rfl, List.forall_mem_cons.mpr ⟨snd_cmp_gt d218_43 (by decide), List.forall_mem_cons.mpr ⟨snd_iload d218_46, List.forall_mem_cons.mpr ⟨snd_istore_n d218_48 rfl, List.forall_mem_cons.mpr ⟨snd_iinc d218_49 (by decide +kernel), List.forall_mem_cons.mpr ⟨snd_goto d218_52 (by decide), fun _ h => by cases h⟩⟩⟩⟩⟩⟩⟩⟩⟩⟩⟩⟩⟩⟩⟩⟩⟩⟩⟩⟩⟩⟩⟩⟩⟩⟩⟩⟩⟩⟩
theorem sc218_1 : ∀ q ∈ tc218_1, Snd xtb M218 q.1 q.2 := List.forall_mem_cons.mpr ⟨snd_iload_n d218_55 rfl, List.forall_mem_cons.mpr ⟨snd_iret rfl d218_56, fun _ h => by cases h⟩⟩
theorem d219_0 : decode (mC M219) 0 = .ok (.aload_n 0, 1) := by decide +kernel
theorem d219_1 : decode (mC M219) 1 = .ok (.iload_n 1, 1) := by decide +kernel
theorem d219_2 : decode (mC M219) 2 = .ok (.iload_n 2, 1) := by decide +kernel
theorem d219_3 : decode (mC M219) 3 = .ok (.invokevirtual 277, 3) := by decide +kernel
theorem d219_6 : decode (mC M219) 6 = .ok (.istore_n 3, 1) := by decide +kernel
theorem d219_7 : decode (mC M219) 7 = .ok (.iload_n 3, 1) := by decide +kernel
theorem d219_8 : decode (mC M219) 8 = .ok (.iconst (-1), 1) := by decide +kernel
theorem d219_9 : decode (mC M219) 9 = .ok (.if_icmp .ne 7, 3) := by decide +kernel
theorem d219_12 : decode (mC M219) 12 = .ok (.iconst 0, 1) := by decide +kernel
theorem d219_13 : decode (mC M219) 13 = .ok (.goto 14, 3) := by decide +kernel
theorem d219_16 : decode (mC M219) 16 = .ok (.aload_n 0, 1) := by decide +kernel
theorem d219_17 : decode (mC M219) 17 = .ok (.getfield 13, 3) := by decide +kernel
theorem d219_20 : decode (mC M219) 20 = .ok (.iload_n 3, 1) := by decide +kernel
theorem d219_21 : decode (mC M219) 21 = .ok (.invokestatic 225, 3) := by decide +kernel
theorem d219_24 : decode (mC M219) 24 = .ok (.iconst 2, 1) := by decide +kernel
theorem d219_25 : decode (mC M219) 25 = .ok (.iadd, 1) := by decide +kernel
theorem d219_26 : decode (mC M219) 26 = .ok (.iaload, 1) := by decide +kernel
theorem d219_27 : decode (mC M219) 27 = .ok (.ireturn, 1) := by decide +kernel
theorem sc219_0 : ∀ q ∈ tc219_0, Snd xtb M219 q.1 q.2 := List.forall_mem_cons.mpr ⟨snd_aload_n d219_0 rfl, List.forall_mem_cons.mpr ⟨snd_iload_n d219_1 rfl, List.forall_mem_cons.mpr ⟨snd_iload_n d219_2 rfl, List.forall_mem_cons.mpr ⟨snd_callV (by decide) rfl cn218 ⟨by decide +kernel, by decide +kernel⟩ cm218 (List.forall_mem_cons.mpr ⟨wd1673, cw218⟩) d219_3, List.forall_mem_cons.mpr ⟨snd_istore_n d219_6 rfl, List.forall_mem_cons.mpr ⟨snd_iload_n d219_7 rfl, List.forall_mem_cons.mpr ⟨snd_iconst d219_8 (by decide +kernel), List.forall_mem_cons.mpr ⟨snd_cmp_ne d219_9 (by decide), List.forall_mem_cons.mpr ⟨snd_iconst d219_12 (by decide +kernel), List.forall_mem_cons.mpr ⟨snd_goto d219_13 (by decide), List.forall_mem_cons.mpr ⟨snd_aload_n d219_16 rfl, List.forall_mem_cons.mpr ⟨snd_getR (by decide) (by decide) rfl wd1370 d219_17, List.forall_mem_cons.mpr ⟨snd_iload_n d219_20 rfl, List.forall_mem_cons.mpr ⟨snd_callS cn199 ⟨by decide +kernel, by decide +kernel⟩ cm199 (List.forall_mem_cons.mpr ⟨wd1597, cw199⟩) d219_21, List.forall_mem_cons.mpr ⟨snd_iconst d219_24 (by decide +kernel), List.forall_mem_cons.mpr ⟨snd_iadd d219_25, List.forall_mem_cons.mpr ⟨snd_iald d219_26, List.forall_mem_cons.mpr ⟨snd_iret rfl d219_27, fun _ h => by cases h⟩⟩⟩⟩⟩⟩⟩⟩⟩⟩⟩⟩⟩⟩⟩⟩⟩⟩
theorem d220_0 : decode (mC M220) 0 = .ok (.aload_n 0, 1) := by decide +kernel
theorem d220_1 : decode (mC M220) 1 = .ok (.getfield 13, 3) := by decide +kernel
theorem d220_4 : decode (mC M220) 4 = .ok (.iload_n 1, 1) := by decide +kernel
theorem d220_5 : decode (mC M220) 5 = .ok (.invokestatic 225, 3) := by decide +kernel
theorem d220_8 : decode (mC M220) 8 = .ok (.iconst 3, 1) := by decide +kernel
theorem d220_9 : decode (mC M220) 9 = .ok (.iadd, 1) := by decide +kernel
theorem d220_10 : decode (mC M220) 10 = .ok (.iconst 2, 1) := by decide +kernel
theorem d220_11 : decode (mC M220) 11 = .ok (.iload_n 2, 1) := by decide +kernel
theorem d220_12 : decode (mC M220) 12 = .ok (.imul, 1) := by decide +kernel
theorem d220_13 : decode (mC M220) 13 = .ok (.iadd, 1) := by decide +kernel
theorem d220_14 : decode (mC M220) 14 = .ok (.iaload, 1) := by decide +kernel
theorem d220_15 : decode (mC M220) 15 = .ok (.ireturn, 1) := by decide +kernel
theorem sc220_0 : ∀ q ∈ tc220_0, Snd xtb M220 q.1 q.2 := List.forall_mem_cons.mpr ⟨snd_aload_n d220_0 rfl, List.forall_mem_cons.mpr ⟨snd_getR (by decide) (by decide) rfl wd1370 d220_1, List.forall_mem_cons.mpr ⟨snd_iload_n d220_4 rfl, List.forall_mem_cons.mpr ⟨snd_callS cn199 ⟨by decide +kernel, by decide +kernel⟩ cm199 (List.forall_mem_cons.mpr ⟨wd1597, cw199⟩) d220_5, List.forall_mem_cons.mpr ⟨snd_iconst d220_8 (by decide +kernel), List.forall_mem_cons.mpr ⟨snd_iadd d220_9, List.forall_mem_cons.mpr ⟨snd_iconst d220_10 (by decide +kernel), List.forall_mem_cons.mpr ⟨snd_iload_n d220_11 rfl, List.forall_mem_cons.mpr ⟨snd_imul d220_12, List.forall_mem_cons.mpr ⟨snd_iadd d220_13, List.forall_mem_cons.mpr ⟨snd_iald d220_14, List.forall_mem_cons.mpr ⟨snd_iret rfl d220_15, fun _ h => by cases h⟩⟩⟩⟩⟩⟩⟩⟩⟩⟩⟩⟩
theorem d221_0 : decode (mC M221) 0 = .ok (.aload_n 0, 1) := by decide +kernel
theorem d221_1 : decode (mC M221) 1 = .ok (.getfield 13, 3) := by decide +kernel
theorem d221_4 : decode (mC M221) 4 = .ok (.iload_n 1, 1) := by decide +kernel
theorem d221_5 : decode (mC M221) 5 = .ok (.invokestatic 225, 3) := by decide +kernel
theorem d221_8 : decode (mC M221) 8 = .ok (.iconst 4, 1) := by decide +kernel
theorem d221_9 : decode (mC M221) 9 = .ok (.iadd, 1) := by decide +kernel
theorem d221_10 : decode (mC M221) 10 = .ok (.iconst 2, 1) := by decide +kernel
theorem d221_11 : decode (mC M221) 11 = .ok (.iload_n 2, 1) := by decide +kernel
theorem d221_12 : decode (mC M221) 12 = .ok (.imul, 1) := by decide +kernel
theorem d221_13 : decode (mC M221) 13 = .ok (.iadd, 1) := by decide +kernel
theorem d221_14 : decode (mC M221) 14 = .ok (.iaload, 1) := by decide +kernel
theorem d221_15 : decode (mC M221) 15 = .ok (.ireturn, 1) := by decide +kernel
theorem sc221_0 : ∀ q ∈ tc221_0, Snd xtb M221 q.1 q.2 := List.forall_mem_cons.mpr ⟨snd_aload_n d221_0 rfl, List.forall_mem_cons.mpr ⟨snd_getR (by decide) (by decide) rfl wd1370 d221_1, List.forall_mem_cons.mpr ⟨snd_iload_n d221_4 rfl, List.forall_mem_cons.mpr ⟨snd_callS cn199 ⟨by decide +kernel, by decide +kernel⟩ cm199 (List.forall_mem_cons.mpr ⟨wd1597, cw199⟩) d221_5, List.forall_mem_cons.mpr ⟨snd_iconst d221_8 (by decide +kernel), List.forall_mem_cons.mpr ⟨snd_iadd d221_9, List.forall_mem_cons.mpr ⟨snd_iconst d221_10 (by decide +kernel), List.forall_mem_cons.mpr ⟨snd_iload_n d221_11 rfl, List.forall_mem_cons.mpr ⟨snd_imul d221_12, List.forall_mem_cons.mpr ⟨snd_iadd d221_13, List.forall_mem_cons.mpr ⟨snd_iald d221_14, List.forall_mem_cons.mpr ⟨snd_iret rfl d221_15, fun _ h => by cases h⟩⟩⟩⟩⟩⟩⟩⟩⟩⟩⟩⟩
theorem d222_0 : decode (mC M222) 0 = .ok (.iload_n 0, 1) := by decide +kernel
theorem d222_1 : decode (mC M222) 1 = .ok (.iconst 0, 1) := by decide +kernel
theorem d222_2 : decode (mC M222) 2 = .ok (.sipush 999, 3) := by decide +kernel
theorem d222_5 : decode (mC M222) 5 = .ok (.invokestatic 95, 3) := by decide +kernel
theorem d222_8 : decode (mC M222) 8 = .ok (.ireturn, 1) := by decide +kernel
theorem sc222_0 : ∀ q ∈ tc222_0, Snd xtb M222 q.1 q.2 := List.forall_mem_cons.mpr ⟨snd_iload_n d222_0 rfl, List.forall_mem_cons.mpr ⟨snd_iconst d222_1 (by decide +kernel), List.forall_mem_cons.mpr ⟨snd_sipush d222_2 (by decide +kernel), List.forall_mem_cons.mpr ⟨snd_callS cn175 ⟨by decide +kernel, by decide +kernel⟩ cm175 (List.forall_mem_cons.mpr ⟨wd1492, cw175⟩) d222_5, List.forall_mem_cons.mpr ⟨snd_zret rfl d222_8, fun _ h => by cases h⟩⟩⟩⟩⟩
theorem d223_0 : decode (mC M223) 0 = .ok (.iload_n 1, 1) := by decide +kernel
theorem d223_1 : decode (mC M223) 1 = .ok (.iconst 0, 1) := by decide +kernel
theorem d223_2 : decode (mC M223) 2 = .ok (.aload_n 0, 1) := by decide +kernel
theorem d223_3 : decode (mC M223) 3 = .ok (.getfield 13, 3) := by decide +kernel
theorem d223_6 : decode (mC M223) 6 = .ok (.iconst 0, 1) := by decide +kernel
theorem d223_7 : decode (mC M223) 7 = .ok (.iaload, 1) := by decide +kernel
theorem d223_8 : decode (mC M223) 8 = .ok (.invokestatic 95, 3) := by decide +kernel
theorem d223_11 : decode (mC M223) 11 = .ok (.ifCond .eq 21, 3) := by decide +kernel
theorem d223_14 : decode (mC M223) 14 = .ok (.iload_n 2, 1) := by decide +kernel
theorem d223_15 : decode (mC M223) 15 = .ok (.iconst 0, 1) := by decide +kernel
theorem d223_16 : decode (mC M223) 16 = .ok (.aload_n 0, 1) := by decide +kernel
theorem d223_17 : decode (mC M223) 17 = .ok (.getfield 13, 3) := by decide +kernel
theorem d223_20 : decode (mC M223) 20 = .ok (.iconst 0, 1) := by decide +kernel
theorem d223_21 : decode (mC M223) 21 = .ok (.iaload, 1) := by decide +kernel
theorem d223_22 : decode (mC M223) 22 = .ok (.invokestatic 95, 3) := by decide +kernel
theorem d223_25 : decode (mC M223) 25 = .ok (.ifCond .eq 7, 3) := by decide +kernel
theorem d223_28 : decode (mC M223) 28 = .ok (.iconst 1, 1) := by decide +kernel
theorem d223_29 : decode (mC M223) 29 = .ok (.goto 4, 3) := by decide +kernel
theorem d223_32 : decode (mC M223) 32 = .ok (.iconst 0, 1) := by decide +kernel
theorem d223_33 : decode (mC M223) 33 = .ok (.ireturn, 1) := by decide +kernel
theorem sc223_0 : ∀ q ∈ tc223_0, Snd xtb M223 q.1 q.2 := List.forall_mem_cons.mpr ⟨snd_iload_n d223_0 rfl, List.forall_mem_cons.mpr ⟨snd_iconst d223_1 (by decide +kernel), List.forall_mem_cons.mpr ⟨snd_aload_n d223_2 rfl, List.forall_mem_cons.mpr ⟨snd_getR (by decide) (by decide) rfl wd1370 d223_3, List.forall_mem_cons.mpr ⟨snd_iconst d223_6 (by decide +kernel), List.forall_mem_cons.mpr ⟨snd_iald d223_7, List.forall_mem_cons.mpr ⟨snd_callS cn175 ⟨by decide +kernel, by decide +kernel⟩ cm175 (List.forall_mem_cons.mpr ⟨wd1492, cw175⟩) d223_8, List.forall_mem_cons.mpr ⟨snd_if_eq d223_11 (by decide), List.forall_mem_cons.mpr ⟨snd_iload_n d223_14 rfl, List.forall_mem_cons.mpr ⟨snd_iconst d223_15 (by decide +kernel), List.forall_mem_cons.mpr ⟨snd_aload_n d223_16 rfl, List.forall_mem_cons.mpr ⟨snd_getR (by decide) (by decide) rfl wd1370 d223_17, List.forall_mem_cons.mpr ⟨snd_iconst d223_20 (by decide +kernel), List.forall_mem_cons.mpr ⟨snd_iald d223_21, List.forall_mem_cons.mpr ⟨snd_callS cn175 ⟨by decide +kernel, by decide +kernel⟩ cm175 (List.forall_mem_cons.mpr ⟨wd1492, cw175⟩) d223_22, List.forall_mem_cons.mpr ⟨snd_if_eq d223_25 (by decide), List.forall_mem_cons.mpr ⟨snd_iconst d223_28 (by decide +kernel), List.forall_mem_cons.mpr ⟨snd_goto d223_29 (by decide), List.forall_mem_cons.mpr ⟨snd_iconst d223_32 (by decide +kernel), List.forall_mem_cons.mpr ⟨snd_zret rfl d223_33, fun _ h => by cases h⟩⟩⟩⟩⟩⟩⟩⟩⟩⟩⟩⟩⟩⟩⟩⟩⟩⟩⟩⟩
theorem d224_0 : decode (mC M224) 0 = .ok (.aload_n 0, 1) := by decide +kernel
theorem d224_1 : decode (mC M224) 1 = .ok (.getfield 251, 3) := by decide +kernel
theorem d224_4 : decode (mC M224) 4 = .ok (.ifCond .eq 7, 3) := by decide +kernel
theorem d224_7 : decode (mC M224) 7 = .ok (.iload_n 1, 1) := by decide +kernel
theorem d224_8 : decode (mC M224) 8 = .ok (.ifCond .ne 7, 3) := by decide +kernel
theorem d224_11 : decode (mC M224) 11 = .ok (.iconst 1, 1) := by decide +kernel
theorem d224_12 : decode (mC M224) 12 = .ok (.goto 15, 3) := by decide +kernel
theorem d224_15 : decode (mC M224) 15 = .ok (.iload_n 2, 1) := by decide +kernel
theorem d224_16 : decode (mC M224) 16 = .ok (.invokestatic 280, 3) := by decide +kernel
theorem d224_19 : decode (mC M224) 19 = .ok (.ifCond .eq 7, 3) := by decide +kernel
theorem d224_22 : decode (mC M224) 22 = .ok (.iconst 0, 1) := by decide +kernel
theorem d224_23 : decode (mC M224) 23 = .ok (.goto 4, 3) := by decide +kernel
theorem d224_26 : decode (mC M224) 26 = .ok (.iconst 2, 1) := by decide +kernel
theorem d224_27 : decode (mC M224) 27 = .ok (.ireturn, 1) := by decide +kernel
theorem sc224_0 : ∀ q ∈ tc224_0, Snd xtb M224 q.1 q.2 := List.forall_mem_cons.mpr ⟨snd_aload_n d224_0 rfl, List.forall_mem_cons.mpr ⟨snd_getI (by decide) (by decide) rfl wd1374 d224_1, List.forall_mem_cons.mpr ⟨snd_if_eq d224_4 (by decide), List.forall_mem_cons.mpr ⟨snd_iload_n d224_7 rfl, List.forall_mem_cons.mpr ⟨snd_if_ne d224_8 (by decide), List.forall_mem_cons.mpr ⟨snd_iconst d224_11 (by decide +kernel), List.forall_mem_cons.mpr ⟨snd_goto d224_12 (by decide), List.forall_mem_cons.mpr ⟨snd_iload_n d224_15 rfl, List.forall_mem_cons.mpr ⟨snd_callS cn222 ⟨by decide +kernel, by decide +kernel⟩ cm222 (List.forall_mem_cons.mpr ⟨wd1666, cw222⟩) d224_16, List.forall_mem_cons.mpr ⟨snd_if_eq d224_19 (by decide), List.forall_mem_cons.mpr ⟨snd_iconst d224_22 (by decide +kernel), List.forall_mem_cons.mpr ⟨snd_goto d224_23 (by decide), List.forall_mem_cons.mpr ⟨snd_iconst d224_26 (by decide +kernel), List.forall_mem_cons.mpr ⟨snd_iret rfl d224_27, fun _ h => by cases h⟩⟩⟩⟩⟩⟩⟩⟩⟩⟩⟩⟩⟩⟩

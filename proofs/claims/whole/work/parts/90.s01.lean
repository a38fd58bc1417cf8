/-! soundness -/
theorem d2_0 : decode (mC M2) 0 = .ok (.iload_n 1, 1) := by decide +kernel
theorem d2_1 : decode (mC M2) 1 = .ok (.istore_n 2, 1) := by decide +kernel
theorem d2_2 : decode (mC M2) 2 = .ok (.iconst 0, 1) := by decide +kernel
theorem d2_3 : decode (mC M2) 3 = .ok (.istore_n 3, 1) := by decide +kernel
theorem d2_4 : decode (mC M2) 4 = .ok (.aload_n 0, 1) := by decide +kernel
theorem d2_5 : decode (mC M2) 5 = .ok (.getfield 75, 3) := by decide +kernel
theorem d2_8 : decode (mC M2) 8 = .ok (.ifCond .eq 43, 3) := by decide +kernel
theorem d2_11 : decode (mC M2) 11 = .ok (.iload_n 3, 1) := by decide +kernel
theorem d2_12 : decode (mC M2) 12 = .ok (.aload_n 0, 1) := by decide +kernel
theorem d2_13 : decode (mC M2) 13 = .ok (.getfield 21, 3) := by decide +kernel
theorem d2_16 : decode (mC M2) 16 = .ok (.getfield 85, 3) := by decide +kernel
theorem d2_19 : decode (mC M2) 19 = .ok (.getfield 89, 3) := by decide +kernel
theorem d2_22 : decode (mC M2) 22 = .ok (.if_icmp .ge 29, 3) := by decide +kernel
theorem d2_25 : decode (mC M2) 25 = .ok (.aload_n 0, 1) := by decide +kernel
theorem d2_26 : decode (mC M2) 26 = .ok (.getfield 28, 3) := by decide +kernel
theorem d2_29 : decode (mC M2) 29 = .ok (.iload_n 3, 1) := by decide +kernel
theorem d2_30 : decode (mC M2) 30 = .ok (.invokevirtual 350, 3) := by decide +kernel
theorem d2_33 : decode (mC M2) 33 = .ok (.ifCond .ne 12, 3) := by decide +kernel
theorem d2_36 : decode (mC M2) 36 = .ok (.iload_n 2, 1) := by decide +kernel
theorem d2_37 : decode (mC M2) 37 = .ok (.ifCond .ne 5, 3) := by decide +kernel
theorem d2_40 : decode (mC M2) 40 = .ok (.iload_n 3, 1) := by decide +kernel
theorem d2_41 : decode (mC M2) 41 = .ok (.ireturn, 1) := by decide +kernel
theorem d2_42 : decode (mC M2) 42 = .ok (.iinc 2 (-1), 3) := by decide +kernel
theorem d2_45 : decode (mC M2) 45 = .ok (.iinc 3 1, 3) := by decide +kernel
theorem d2_48 : decode (mC M2) 48 = .ok (.goto (-44), 3) := by decide +kernel
theorem d2_51 : decode (mC M2) 51 = .ok (.new 353, 3) := by decide +kernel
theorem sc2_0 : ∀ q ∈ tc2_0, Snd xtb M2 q.1 q.2 := List.forall_mem_cons.mpr ⟨snd_iload_n d2_0 rfl, List.forall_mem_cons.mpr ⟨snd_istore_n d2_1 rfl, List.forall_mem_cons.mpr ⟨snd_iconst d2_2 (by decide +kernel), List.forall_mem_cons.mpr ⟨snd_istore_n d2_3 rfl, List.forall_mem_cons.mpr ⟨snd_aload_n d2_4 rfl, List.forall_mem_cons.mpr ⟨snd_getI (by decide) (by decide) rfl wd534 d2_5, List.forall_mem_cons.mpr ⟨snd_if_eq d2_8 (by decide), List.forall_mem_cons.mpr ⟨snd_iload_n d2_11 rfl, List.forall_mem_cons.mpr ⟨snd_aload_n d2_12 rfl, List.forall_mem_cons.mpr ⟨snd_getR (by decide) (by decide) rfl wd533 d2_13, List.forall_mem_cons.mpr ⟨snd_getR (by decide) (by decide) rfl wd364 d2_16, List.forall_mem_cons.mpr ⟨snd_getI (by decide) (by decide) rfl wd242 d2_19, List.forall_mem_cons.mpr ⟨snd_cmp_ge d2_22 (by decide), List.forall_mem_cons.mpr ⟨snd_aload_n d2_25 rfl, List.forall_mem_cons.mpr ⟨snd_getR (by decide) (by decide) rfl wd535 d2_26, List.forall_mem_cons.mpr ⟨snd_iload_n d2_29 rfl, List.forall_mem_cons.mpr ⟨snd_callV (by decide) rfl cn9 ⟨by decide +kernel, by decide +kernel⟩ cm9 (List.forall_mem_cons.mpr ⟨wd1292, cw9⟩) d2_30, List.forall_mem_cons.mpr ⟨snd_if_ne d2_33 (by decide), List.forall_mem_cons.mpr ⟨snd_iload_n d2_36 rfl, List.forall_mem_cons.mpr ⟨snd_if_ne d2_37 (by decide), List.forall_mem_cons.mpr ⟨snd_iload_n d2_40 rfl, List.forall_mem_cons.mpr ⟨snd_iret rfl d2_41, List.forall_mem_cons.mpr ⟨snd_iinc d2_42 (by decide +kernel), List.forall_mem_cons.mpr ⟨snd_iinc d2_45 (by decide +kernel), List.forall_mem_cons.mpr ⟨snd_goto d2_48 (by decide), List.forall_mem_cons.mpr ⟨snd_thr ⟨rfl, rfl⟩ wd1300 d2_51 (by decide +kernel) (by decide +kernel) (ic := 355) (by decide +kernel), fun _ h => by cases h⟩⟩⟩⟩⟩⟩⟩⟩⟩⟩⟩⟩⟩⟩⟩⟩⟩⟩⟩⟩⟩⟩⟩⟩⟩⟩
theorem d3_0 : decode (mC M3) 0 = .ok (.aload_n 0, 1) := by decide +kernel
theorem d3_1 : decode (mC M3) 1 = .ok (.invokespecial 3, 3) := by decide +kernel
theorem d3_4 : decode (mC M3) 4 = .ok (.aload_n 0, 1) := by decide +kernel
theorem d3_5 : decode (mC M3) 5 = .ok (.bipush 8, 2) := by decide +kernel
theorem d3_7 : decode (mC M3) 7 = .ok (.newarray .int, 2) := by decide +kernel
theorem d3_9 : decode (mC M3) 9 = .ok (.putfield 9, 3) := by decide +kernel
theorem d3_12 : decode (mC M3) 12 = .ok (.aload_n 0, 1) := by decide +kernel
theorem d3_13 : decode (mC M3) 13 = .ok (.bipush 8, 2) := by decide +kernel
theorem d3_15 : decode (mC M3) 15 = .ok (.newarray .int, 2) := by decide +kernel
theorem d3_17 : decode (mC M3) 17 = .ok (.putfield 15, 3) := by decide +kernel
theorem d3_20 : decode (mC M3) 20 = .ok (.aload_n 0, 1) := by decide +kernel
theorem d3_21 : decode (mC M3) 21 = .ok (.bipush 8, 2) := by decide +kernel
theorem d3_23 : decode (mC M3) 23 = .ok (.newarray .int, 2) := by decide +kernel
theorem d3_25 : decode (mC M3) 25 = .ok (.putfield 18, 3) := by decide +kernel
theorem d3_28 : decode (mC M3) 28 = .ok (.return_, 1) := by decide +kernel
theorem sc3_0 : ∀ q ∈ tc3_0, Snd xtb M3 q.1 q.2 := List.forall_mem_cons.mpr ⟨snd_aload_n d3_0 rfl, List.forall_mem_cons.mpr ⟨snd_obj (by decide) (by decide) (List.forall_mem_cons.mpr ⟨wd512, List.forall_mem_cons.mpr ⟨wd139, List.forall_mem_cons.mpr ⟨wd140, fun _ h => by cases h⟩⟩⟩) d3_1, List.forall_mem_cons.mpr ⟨snd_aload_n d3_4 rfl, List.forall_mem_cons.mpr ⟨snd_bipush d3_5 (by decide +kernel), List.forall_mem_cons.mpr ⟨snd_newa (ty := .int) (k := 1) rfl (by decide +kernel) wd229 d3_7, List.forall_mem_cons.mpr ⟨snd_putRF (by decide) (by decide) rfl rfl rfl rfl wd515 d3_9, List.forall_mem_cons.mpr ⟨snd_aload_n d3_12 rfl, List.forall_mem_cons.mpr ⟨snd_bipush d3_13 (by decide +kernel), List.forall_mem_cons.mpr ⟨snd_newa (ty := .int) (k := 1) rfl (by decide +kernel) wd229 d3_15, List.forall_mem_cons.mpr ⟨snd_putRF (by decide) (by decide) rfl rfl rfl rfl wd517 d3_17, List.forall_mem_cons.mpr ⟨snd_aload_n d3_20 rfl, List.forall_mem_cons.mpr ⟨snd_bipush d3_21 (by decide +kernel), List.forall_mem_cons.mpr ⟨snd_newa (ty := .int) (k := 1) rfl (by decide +kernel) wd229 d3_23, List.forall_mem_cons.mpr ⟨snd_putRF (by decide) (by decide) rfl rfl rfl rfl wd519 d3_25, List.forall_mem_cons.mpr ⟨snd_vret rfl d3_28, fun _ h => by cases h⟩⟩⟩⟩⟩⟩⟩⟩⟩⟩⟩⟩⟩⟩⟩
theorem d4_0 : decode (mC M4) 0 = .ok (.aload_n 0, 1) := by decide +kernel
theorem d4_1 : decode (mC M4) 1 = .ok (.getfield 21, 3) := by decide +kernel
theorem d4_4 : decode (mC M4) 4 = .ok (.bipush 8, 2) := by decide +kernel
theorem d4_6 : decode (mC M4) 6 = .ok (.if_icmp .ne 7, 3) := by decide +kernel
theorem d4_9 : decode (mC M4) 9 = .ok (.aload_n 0, 1) := by decide +kernel
theorem d4_10 : decode (mC M4) 10 = .ok (.invokevirtual 25, 3) := by decide +kernel
theorem d4_13 : decode (mC M4) 13 = .ok (.aload_n 0, 1) := by decide +kernel
theorem d4_14 : decode (mC M4) 14 = .ok (.getfield 9, 3) := by decide +kernel
theorem d4_17 : decode (mC M4) 17 = .ok (.aload_n 0, 1) := by decide +kernel
theorem d4_18 : decode (mC M4) 18 = .ok (.getfield 21, 3) := by decide +kernel
theorem d4_21 : decode (mC M4) 21 = .ok (.iload_n 1, 1) := by decide +kernel
theorem d4_22 : decode (mC M4) 22 = .ok (.iastore, 1) := by decide +kernel
theorem d4_23 : decode (mC M4) 23 = .ok (.aload_n 0, 1) := by decide +kernel
theorem d4_24 : decode (mC M4) 24 = .ok (.getfield 15, 3) := by decide +kernel
theorem d4_27 : decode (mC M4) 27 = .ok (.aload_n 0, 1) := by decide +kernel
theorem d4_28 : decode (mC M4) 28 = .ok (.getfield 21, 3) := by decide +kernel
theorem d4_31 : decode (mC M4) 31 = .ok (.iload_n 2, 1) := by decide +kernel
theorem d4_32 : decode (mC M4) 32 = .ok (.iastore, 1) := by decide +kernel
theorem d4_33 : decode (mC M4) 33 = .ok (.aload_n 0, 1) := by decide +kernel
theorem d4_34 : decode (mC M4) 34 = .ok (.getfield 18, 3) := by decide +kernel
theorem d4_37 : decode (mC M4) 37 = .ok (.aload_n 0, 1) := by decide +kernel
theorem d4_38 : decode (mC M4) 38 = .ok (.getfield 21, 3) := by decide +kernel
theorem d4_41 : decode (mC M4) 41 = .ok (.iload_n 3, 1) := by decide +kernel
theorem d4_42 : decode (mC M4) 42 = .ok (.iastore, 1) := by decide +kernel
theorem d4_43 : decode (mC M4) 43 = .ok (.aload_n 0, 1) := by decide +kernel
theorem d4_44 : decode (mC M4) 44 = .ok (.dup, 1) := by decide +kernel
theorem d4_45 : decode (mC M4) 45 = .ok (.getfield 21, 3) := by decide +kernel
theorem d4_48 : decode (mC M4) 48 = .ok (.iconst 1, 1) := by decide +kernel
theorem d4_49 : decode (mC M4) 49 = .ok (.iadd, 1) := by decide +kernel
theorem d4_50 : decode (mC M4) 50 = .ok (.putfield 21, 3) := by decide +kernel
theorem d4_53 : decode (mC M4) 53 = .ok (.return_, 1) := by decide +kernel
theorem sc4_0 : ∀ q ∈ tc4_0, Snd xtb M4 q.1 q.2 := List.forall_mem_cons.mpr ⟨snd_aload_n d4_0 rfl, List.forall_mem_cons.mpr ⟨snd_getI (by decide) (by decide) rfl wd513 d4_1, List.forall_mem_cons.mpr ⟨snd_bipush d4_4 (by decide +kernel), List.forall_mem_cons.mpr ⟨snd_cmp_ne d4_6 (by decide), List.forall_mem_cons.mpr ⟨snd_aload_n d4_9 rfl, List.forall_mem_cons.mpr ⟨snd_callV (by decide) rfl cn5 ⟨by decide +kernel, by decide +kernel⟩ cm5 (List.forall_mem_cons.mpr ⟨wd1227, cw5⟩) d4_10, List.forall_mem_cons.mpr ⟨snd_aload_n d4_13 rfl, List.forall_mem_cons.mpr ⟨snd_getR (by decide) (by decide) rfl wd515 d4_14, List.forall_mem_cons.mpr ⟨snd_aload_n d4_17 rfl, List.forall_mem_cons.mpr ⟨snd_getI (by decide) (by decide) rfl wd513 d4_18, List.forall_mem_cons.mpr ⟨snd_iload_n d4_21 rfl, List.forall_mem_cons.mpr ⟨snd_iast d4_22, List.forall_mem_cons.mpr ⟨snd_aload_n d4_23 rfl, List.forall_mem_cons.mpr ⟨snd_getR (by decide) (by decide) rfl wd517 d4_24, List.forall_mem_cons.mpr ⟨snd_aload_n d4_27 rfl, List.forall_mem_cons.mpr ⟨snd_getI (by decide) (by decide) rfl wd513 d4_28, List.forall_mem_cons.mpr ⟨snd_iload_n d4_31 rfl, List.forall_mem_cons.mpr ⟨snd_iast d4_32, List.forall_mem_cons.mpr ⟨snd_aload_n d4_33 rfl, List.forall_mem_cons.mpr ⟨snd_getR (by decide) (by decide) rfl wd519 d4_34, List.forall_mem_cons.mpr ⟨snd_aload_n d4_37 rfl, List.forall_mem_cons.mpr ⟨snd_getI (by decide) (by decide) rfl wd513 d4_38, List.forall_mem_cons.mpr ⟨snd_iload_n d4_41 rfl, List.forall_mem_cons.mpr ⟨snd_iast d4_42, List.forall_mem_cons.mpr ⟨snd_aload_n d4_43 rfl, List.forall_mem_cons.mpr ⟨snd_dup d4_44, List.forall_mem_cons.mpr ⟨snd_getI (by decide) (by decide) rfl wd513 d4_45, List.forall_mem_cons.mpr ⟨snd_iconst d4_48 (by decide +kernel), List.forall_mem_cons.mpr ⟨snd_iadd d4_49, List.forall_mem_cons.mpr ⟨snd_putI (by decide) (by decide) rfl rfl wd513 d4_50, fun _ h => by cases h⟩⟩⟩⟩⟩⟩⟩⟩⟩⟩⟩⟩⟩⟩⟩⟩⟩⟩⟩⟩⟩⟩⟩⟩⟩⟩⟩⟩⟩⟩
theorem sc4_1 : ∀ q ∈ tc4_1, Snd xtb M4 q.1 q.2 := List.forall_mem_cons.mpr ⟨snd_vret rfl d4_53, fun _ h => by cases h⟩
theorem d5_0 : decode (mC M5) 0 = .ok (.aload_n 0, 1) := by decide +kernel
theorem d5_1 : decode (mC M5) 1 = .ok (.dup, 1) := by decide +kernel
theorem d5_2 : decode (mC M5) 2 = .ok (.getfield 21, 3) := by decide +kernel
theorem d5_5 : decode (mC M5) 5 = .ok (.iconst 1, 1) := by decide +kernel
theorem d5_6 : decode (mC M5) 6 = .ok (.isub, 1) := by decide +kernel
theorem d5_7 : decode (mC M5) 7 = .ok (.putfield 21, 3) := by decide +kernel
theorem d5_10 : decode (mC M5) 10 = .ok (.iconst 0, 1) := by decide +kernel
theorem d5_11 : decode (mC M5) 11 = .ok (.istore_n 1, 1) := by decide +kernel
theorem d5_12 : decode (mC M5) 12 = .ok (.iload_n 1, 1) := by decide +kernel
theorem d5_13 : decode (mC M5) 13 = .ok (.aload_n 0, 1) := by decide +kernel
theorem d5_14 : decode (mC M5) 14 = .ok (.getfield 21, 3) := by decide +kernel
theorem d5_17 : decode (mC M5) 17 = .ok (.if_icmp .ge 51, 3) := by decide +kernel
theorem d5_20 : decode (mC M5) 20 = .ok (.aload_n 0, 1) := by decide +kernel
theorem d5_21 : decode (mC M5) 21 = .ok (.getfield 9, 3) := by decide +kernel
theorem d5_24 : decode (mC M5) 24 = .ok (.iload_n 1, 1) := by decide +kernel
theorem d5_25 : decode (mC M5) 25 = .ok (.aload_n 0, 1) := by decide +kernel
theorem d5_26 : decode (mC M5) 26 = .ok (.getfield 9, 3) := by decide +kernel
theorem d5_29 : decode (mC M5) 29 = .ok (.iload_n 1, 1) := by decide +kernel
theorem d5_30 : decode (mC M5) 30 = .ok (.iconst 1, 1) := by decide +kernel
theorem d5_31 : decode (mC M5) 31 = .ok (.iadd, 1) := by decide +kernel
theorem d5_32 : decode (mC M5) 32 = .ok (.iaload, 1) := by decide +kernel
theorem d5_33 : decode (mC M5) 33 = .ok (.iastore, 1) := by decide +kernel
theorem d5_34 : decode (mC M5) 34 = .ok (.aload_n 0, 1) := by decide +kernel
theorem d5_35 : decode (mC M5) 35 = .ok (.getfield 15, 3) := by decide +kernel
theorem d5_38 : decode (mC M5) 38 = .ok (.iload_n 1, 1) := by decide +kernel
theorem d5_39 : decode (mC M5) 39 = .ok (.aload_n 0, 1) := by decide +kernel
theorem d5_40 : decode (mC M5) 40 = .ok (.getfield 15, 3) := by decide +kernel
theorem d5_43 : decode (mC M5) 43 = .ok (.iload_n 1, 1) := by decide +kernel
theorem d5_44 : decode (mC M5) 44 = .ok (.iconst 1, 1) := by decide +kernel
theorem d5_45 : decode (mC M5) 45 = .ok (.iadd, 1) := by decide +kernel
theorem d5_46 : decode (mC M5) 46 = .ok (.iaload, 1) := by decide +kernel
theorem d5_47 : decode (mC M5) 47 = .ok (.iastore, 1) := by decide +kernel
theorem d5_48 : decode (mC M5) 48 = .ok (.aload_n 0, 1) := by decide +kernel
theorem d5_49 : decode (mC M5) 49 = .ok (.getfield 18, 3) := by decide +kernel
theorem d5_52 : decode (mC M5) 52 = .ok (.iload_n 1, 1) := by decide +kernel
theorem d5_53 : decode (mC M5) 53 = .ok (.aload_n 0, 1) := by decide +kernel
theorem d5_54 : decode (mC M5) 54 = .ok (.getfield 18, 3) := by decide +kernel
theorem d5_57 : decode (mC M5) 57 = .ok (.iload_n 1, 1) := by decide +kernel
theorem d5_58 : decode (mC M5) 58 = .ok (.iconst 1, 1) := by decide +kernel
theorem d5_59 : decode (mC M5) 59 = .ok (.iadd, 1) := by decide +kernel
theorem d5_60 : decode (mC M5) 60 = .ok (.iaload, 1) := by decide +kernel
theorem d5_61 : decode (mC M5) 61 = .ok (.iastore, 1) := by decide +kernel
theorem d5_62 : decode (mC M5) 62 = .ok (.iinc 1 1, 3) := by decide +kernel
theorem d5_65 : decode (mC M5) 65 = .ok (.goto (-53), 3) := by decide +kernel
theorem d5_68 : decode (mC M5) 68 = .ok (.return_, 1) := by decide +kernel
theorem sc5_0 : ∀ q ∈ tc5_0, Snd xtb M5 q.1 q.2 := List.forall_mem_cons.mpr ⟨snd_aload_n d5_0 rfl, List.forall_mem_cons.mpr ⟨snd_dup d5_1, List.forall_mem_cons.mpr ⟨snd_getI (by decide) (by decide) rfl wd513 d5_2, List.forall_mem_cons.mpr ⟨snd_iconst d5_5 (by decide +kernel), List.forall_mem_cons.mpr ⟨snd_isub d5_6, List.forall_mem_cons.mpr ⟨snd_putI (by decide) (by decide) rfl rfl wd513 d5_7, List.forall_mem_cons.mpr ⟨snd_iconst d5_10 (by decide +kernel), List.forall_mem_cons.mpr ⟨snd_istore_n d5_11 rfl, List.forall_mem_cons.mpr ⟨snd_iload_n d5_12 rfl, List.forall_mem_cons.mpr ⟨snd_aload_n d5_13 rfl, List.forall_mem_cons.mpr ⟨snd_getI (by decide) (by decide) rfl wd513 d5_14, List.forall_mem_cons.mpr ⟨snd_cmp_ge d5_17 (by decide), List.forall_mem_cons.mpr ⟨snd_aload_n d5_20 rfl, List.forall_mem_cons.mpr ⟨snd_getR (by decide) (by decide) rfl wd515 d5_21, List.forall_mem_cons.mpr ⟨snd_iload_n d5_24 rfl, List.forall_mem_cons.mpr ⟨snd_aload_n d5_25 rfl, List.forall_mem_cons.mpr ⟨snd_getR (by decide) (by decide) rfl wd515 d5_26, List.forall_mem_cons.mpr ⟨snd_iload_n d5_29 rfl, List.forall_mem_cons.mpr ⟨snd_iconst d5_30 (by decide +kernel), List.forall_mem_cons.mpr ⟨snd_iadd d5_31, List.forall_mem_cons.mpr ⟨snd_iald d5_32, List.forall_mem_cons.mpr ⟨snd_iast d5_33, List.forall_mem_cons.mpr ⟨snd_aload_n d5_34 rfl, List.forall_mem_cons.mpr ⟨snd_getR (by decide) (by decide) rfl wd517 d5_35, List.forall_mem_cons.mpr ⟨snd_iload_n d5_38 rfl, List.forall_mem_cons.mpr ⟨snd_aload_n d5_39 rfl, List.forall_mem_cons.mpr ⟨snd_getR (by decide) (by decide) rfl wd517 d5_40, List.forall_mem_cons.mpr ⟨snd_iload_n d5_43 rfl, List.forall_mem_cons.mpr ⟨snd_iconst d5_44 (by decide +kernel), List.forall_mem_cons.mpr ⟨snd_iadd d5_45, fun _ h => by cases h⟩⟩⟩⟩⟩⟩⟩⟩⟩⟩⟩⟩⟩⟩⟩⟩⟩⟩⟩⟩⟩⟩⟩⟩⟩⟩⟩⟩⟩⟩
theorem sc5_1 : ∀ q ∈ tc5_1, Snd xtb M5 q.1 q.2 := List.forall_mem_cons.mpr ⟨snd_iald d5_46, List.forall_mem_cons.mpr ⟨snd_iast d5_47, List.forall_mem_cons.mpr ⟨snd_aload_n d5_48 rfl, List.forall_mem_cons.mpr ⟨snd_getR (by decide) (by decide) rfl wd519 d5_49, List.forall_mem_cons.mpr ⟨snd_iload_n d5_52 rfl, List.forall_mem_cons.mpr ⟨snd_aload_n d5_53 rfl, List.forall_mem_cons.mpr ⟨snd_getR (by decide) (by decide) rfl wd519 d5_54, List.forall_mem_cons.mpr ⟨snd_iload_n d5_57 rfl, List.forall_mem_cons.mpr ⟨snd_iconst d5_58 (by decide +kernel), List.forall_mem_cons.mpr ⟨snd_iadd d5_59, List.forall_mem_cons.mpr ⟨snd_iald d5_60, List.forall_mem_cons.mpr ⟨snd_iast d5_61, List.forall_mem_cons.mpr ⟨snd_iinc d5_62 (by decide +kernel), List.forall_mem_cons.mpr ⟨snd_goto d5_65 (by decide), List.forall_mem_cons.mpr ⟨snd_vret rfl d5_68, fun _ h => by cases h⟩⟩⟩⟩⟩⟩⟩⟩⟩⟩⟩⟩⟩⟩⟩
theorem d6_0 : decode (mC M6) 0 = .ok (.aload_n 0, 1) := by decide +kernel
theorem d6_1 : decode (mC M6) 1 = .ok (.invokespecial 3, 3) := by decide +kernel
theorem d6_4 : decode (mC M6) 4 = .ok (.aload_n 0, 1) := by decide +kernel
theorem d6_5 : decode (mC M6) 5 = .ok (.bipush 40, 2) := by decide +kernel
theorem d6_7 : decode (mC M6) 7 = .ok (.anewarray 9, 3) := by decide +kernel
theorem d6_10 : decode (mC M6) 10 = .ok (.putfield 11, 3) := by decide +kernel
theorem d6_13 : decode (mC M6) 13 = .ok (.aload_n 0, 1) := by decide +kernel
theorem d6_14 : decode (mC M6) 14 = .ok (.bipush 12, 2) := by decide +kernel
theorem d6_16 : decode (mC M6) 16 = .ok (.newarray .int, 2) := by decide +kernel
theorem d6_18 : decode (mC M6) 18 = .ok (.putfield 17, 3) := by decide +kernel
theorem d6_21 : decode (mC M6) 21 = .ok (.aload_n 0, 1) := by decide +kernel
theorem d6_22 : decode (mC M6) 22 = .ok (.bipush 120, 2) := by decide +kernel
theorem d6_24 : decode (mC M6) 24 = .ok (.newarray .int, 2) := by decide +kernel
theorem d6_26 : decode (mC M6) 26 = .ok (.putfield 21, 3) := by decide +kernel
theorem d6_29 : decode (mC M6) 29 = .ok (.aload_n 0, 1) := by decide +kernel
theorem d6_30 : decode (mC M6) 30 = .ok (.bipush 60, 2) := by decide +kernel
theorem d6_32 : decode (mC M6) 32 = .ok (.newarray .int, 2) := by decide +kernel
theorem d6_34 : decode (mC M6) 34 = .ok (.putfield 24, 3) := by decide +kernel
theorem d6_37 : decode (mC M6) 37 = .ok (.aload_n 0, 1) := by decide +kernel
theorem d6_38 : decode (mC M6) 38 = .ok (.bipush 60, 2) := by decide +kernel
theorem d6_40 : decode (mC M6) 40 = .ok (.newarray .int, 2) := by decide +kernel
theorem d6_42 : decode (mC M6) 42 = .ok (.putfield 27, 3) := by decide +kernel
theorem d6_45 : decode (mC M6) 45 = .ok (.aload_n 0, 1) := by decide +kernel
theorem d6_46 : decode (mC M6) 46 = .ok (.bipush 60, 2) := by decide +kernel
theorem d6_48 : decode (mC M6) 48 = .ok (.newarray .boolean, 2) := by decide +kernel
theorem d6_50 : decode (mC M6) 50 = .ok (.putfield 30, 3) := by decide +kernel
theorem d6_53 : decode (mC M6) 53 = .ok (.iconst 0, 1) := by decide +kernel
theorem d6_54 : decode (mC M6) 54 = .ok (.istore_n 1, 1) := by decide +kernel
theorem d6_55 : decode (mC M6) 55 = .ok (.iload_n 1, 1) := by decide +kernel
theorem d6_56 : decode (mC M6) 56 = .ok (.bipush 40, 2) := by decide +kernel
theorem d6_58 : decode (mC M6) 58 = .ok (.if_icmp .ge 22, 3) := by decide +kernel
theorem d6_61 : decode (mC M6) 61 = .ok (.aload_n 0, 1) := by decide +kernel
theorem d6_62 : decode (mC M6) 62 = .ok (.getfield 11, 3) := by decide +kernel
theorem d6_65 : decode (mC M6) 65 = .ok (.iload_n 1, 1) := by decide +kernel
theorem d6_66 : decode (mC M6) 66 = .ok (.new 9, 3) := by decide +kernel
theorem d6_69 : decode (mC M6) 69 = .ok (.dup, 1) := by decide +kernel
theorem d6_70 : decode (mC M6) 70 = .ok (.invokespecial 34, 3) := by decide +kernel
theorem d6_73 : decode (mC M6) 73 = .ok (.aastore, 1) := by decide +kernel
theorem d6_74 : decode (mC M6) 74 = .ok (.iinc 1 1, 3) := by decide +kernel
theorem d6_77 : decode (mC M6) 77 = .ok (.goto (-22), 3) := by decide +kernel
theorem d6_80 : decode (mC M6) 80 = .ok (.return_, 1) := by decide +kernel
theorem sc6_0 : ∀ q ∈ tc6_0, Snd xtb M6 q.1 q.2 := List.forall_mem_cons.mpr ⟨snd_aload_n d6_0 rfl, List.forall_mem_cons.mpr ⟨snd_obj (by decide) (by decide) (List.forall_mem_cons.mpr ⟨wd409, List.forall_mem_cons.mpr ⟨wd139, List.forall_mem_cons.mpr ⟨wd140, fun _ h => by cases h⟩⟩⟩) d6_1, List.forall_mem_cons.mpr ⟨snd_aload_n d6_4 rfl, List.forall_mem_cons.mpr ⟨snd_bipush d6_5 (by decide +kernel), List.forall_mem_cons.mpr ⟨snd_newq wd410 d6_7, List.forall_mem_cons.mpr ⟨snd_putRF (by decide) (by decide) rfl rfl rfl rfl wd478 d6_10, List.forall_mem_cons.mpr ⟨snd_aload_n d6_13 rfl, List.forall_mem_cons.mpr ⟨snd_bipush d6_14 (by decide +kernel), List.forall_mem_cons.mpr ⟨snd_newa (ty := .int) (k := 1) rfl (by decide +kernel) wd229 d6_16, List.forall_mem_cons.mpr ⟨snd_putRF (by decide) (by decide) rfl rfl rfl rfl wd482 d6_18, List.forall_mem_cons.mpr ⟨snd_aload_n d6_21 rfl, List.forall_mem_cons.mpr ⟨snd_bipush d6_22 (by decide +kernel), List.forall_mem_cons.mpr ⟨snd_newa (ty := .int) (k := 1) rfl (by decide +kernel) wd229 d6_24, List.forall_mem_cons.mpr ⟨snd_putRF (by decide) (by decide) rfl rfl rfl rfl wd484 d6_26, List.forall_mem_cons.mpr ⟨snd_aload_n d6_29 rfl, List.forall_mem_cons.mpr ⟨snd_bipush d6_30 (by decide +kernel), List.forall_mem_cons.mpr ⟨snd_newa (ty := .int) (k := 1) rfl (by decide +kernel) wd229 d6_32, List.forall_mem_cons.mpr ⟨snd_putRF (by decide) (by decide) rfl rfl rfl rfl wd485 d6_34, List.forall_mem_cons.mpr ⟨snd_aload_n d6_37 rfl, List.forall_mem_cons.mpr ⟨snd_bipush d6_38 (by decide +kernel), List.forall_mem_cons.mpr ⟨snd_newa (ty := .int) (k := 1) rfl (by decide +kernel) wd229 d6_40, List.forall_mem_cons.mpr ⟨snd_putRF (by decide) (by decide) rfl rfl rfl rfl wd487 d6_42, List.forall_mem_cons.mpr ⟨snd_aload_n d6_45 rfl, List.forall_mem_cons.mpr ⟨snd_bipush d6_46 (by decide +kernel), List.forall_mem_cons.mpr ⟨snd_newa (ty := .boolean) (k := 3) rfl (by decide +kernel) wd230 d6_48, List.forall_mem_cons.mpr ⟨snd_putRF (by decide) (by decide) rfl rfl rfl rfl wd489 d6_50, List.forall_mem_cons.mpr ⟨snd_iconst d6_53 (by decide +kernel), List.forall_mem_cons.mpr ⟨snd_istore_n d6_54 rfl, List.forall_mem_cons.mpr ⟨snd_iload_n d6_55 rfl, List.forall_mem_cons.mpr ⟨snd_bipush d6_56 (by decide +kernel), fun _ h => by cases h⟩⟩⟩⟩⟩⟩⟩⟩⟩⟩⟩⟩⟩⟩⟩⟩⟩⟩⟩⟩⟩⟩⟩⟩⟩⟩⟩⟩⟩⟩
theorem sc6_1 : ∀ q ∈ tc6_1, Snd xtb M6 q.1 q.2 := List.forall_mem_cons.mpr ⟨snd_cmp_ge d6_58 (by decide), List.forall_mem_cons.mpr ⟨snd_aload_n d6_61 rfl, List.forall_mem_cons.mpr ⟨snd_getR (by decide) (by decide) rfl wd478 d6_62, List.forall_mem_cons.mpr ⟨snd_iload_n d6_65 rfl, List.forall_mem_cons.mpr ⟨snd_new (by decide) (by decide +kernel) (List.forall_mem_cons.mpr ⟨wd410, List.forall_mem_cons.mpr ⟨wd412, List.forall_mem_cons.mpr ⟨wd121, fun _ h => by cases h⟩⟩⟩) d6_66, List.forall_mem_cons.mpr ⟨snd_dup d6_69, List.forall_mem_cons.mpr ⟨snd_callIN (host := "SalePlaces") (by decide) rfl rfl cn53 ⟨by decide +kernel, by decide +kernel⟩ cm53 cw53 (by decide +kernel) d6_70, List.forall_mem_cons.mpr ⟨snd_aast d6_73, List.forall_mem_cons.mpr ⟨snd_iinc d6_74 (by decide +kernel), List.forall_mem_cons.mpr ⟨snd_goto d6_77 (by decide), List.forall_mem_cons.mpr ⟨snd_vret rfl d6_80, fun _ h => by cases h⟩⟩⟩⟩⟩⟩⟩⟩⟩⟩⟩
theorem d7_0 : decode (mC M7) 0 = .ok (.aload_n 0, 1) := by decide +kernel
theorem d7_1 : decode (mC M7) 1 = .ok (.iconst 0, 1) := by decide +kernel
theorem d7_2 : decode (mC M7) 2 = .ok (.putfield 35, 3) := by decide +kernel
theorem d7_5 : decode (mC M7) 5 = .ok (.aload_n 0, 1) := by decide +kernel
theorem d7_6 : decode (mC M7) 6 = .ok (.iconst 0, 1) := by decide +kernel
theorem d7_7 : decode (mC M7) 7 = .ok (.putfield 39, 3) := by decide +kernel
theorem d7_10 : decode (mC M7) 10 = .ok (.return_, 1) := by decide +kernel
theorem sc7_0 : ∀ q ∈ tc7_0, Snd xtb M7 q.1 q.2 := List.forall_mem_cons.mpr ⟨snd_aload_n d7_0 rfl, List.forall_mem_cons.mpr ⟨snd_iconst d7_1 (by decide +kernel), List.forall_mem_cons.mpr ⟨snd_putI (by decide) (by decide) rfl rfl wd476 d7_2, List.forall_mem_cons.mpr ⟨snd_aload_n d7_5 rfl, List.forall_mem_cons.mpr ⟨snd_iconst d7_6 (by decide +kernel), List.forall_mem_cons.mpr ⟨snd_putI (by decide) (by decide) rfl rfl wd480 d7_7, List.forall_mem_cons.mpr ⟨snd_vret rfl d7_10, fun _ h => by cases h⟩⟩⟩⟩⟩⟩⟩
theorem d8_0 : decode (mC M8) 0 = .ok (.iconst 0, 1) := by decide +kernel
theorem d8_1 : decode (mC M8) 1 = .ok (.istore_n 1, 1) := by decide +kernel
theorem d8_2 : decode (mC M8) 2 = .ok (.iconst 0, 1) := by decide +kernel
theorem d8_3 : decode (mC M8) 3 = .ok (.istore_n 2, 1) := by decide +kernel
theorem d8_4 : decode (mC M8) 4 = .ok (.iload_n 2, 1) := by decide +kernel
theorem d8_5 : decode (mC M8) 5 = .ok (.aload_n 0, 1) := by decide +kernel
theorem d8_6 : decode (mC M8) 6 = .ok (.getfield 35, 3) := by decide +kernel
theorem d8_9 : decode (mC M8) 9 = .ok (.if_icmp .ge 21, 3) := by decide +kernel
theorem d8_12 : decode (mC M8) 12 = .ok (.iload_n 1, 1) := by decide +kernel
theorem d8_13 : decode (mC M8) 13 = .ok (.aload_n 0, 1) := by decide +kernel
theorem d8_14 : decode (mC M8) 14 = .ok (.getfield 11, 3) := by decide +kernel
theorem d8_17 : decode (mC M8) 17 = .ok (.iload_n 2, 1) := by decide +kernel
theorem d8_18 : decode (mC M8) 18 = .ok (.aaload, 1) := by decide +kernel
theorem d8_19 : decode (mC M8) 19 = .ok (.getfield 42, 3) := by decide +kernel
theorem d8_22 : decode (mC M8) 22 = .ok (.iadd, 1) := by decide +kernel
theorem d8_23 : decode (mC M8) 23 = .ok (.istore_n 1, 1) := by decide +kernel
theorem d8_24 : decode (mC M8) 24 = .ok (.iinc 2 1, 3) := by decide +kernel
theorem d8_27 : decode (mC M8) 27 = .ok (.goto (-23), 3) := by decide +kernel
theorem d8_30 : decode (mC M8) 30 = .ok (.iload_n 1, 1) := by decide +kernel
theorem d8_31 : decode (mC M8) 31 = .ok (.ireturn, 1) := by decide +kernel
theorem sc8_0 : ∀ q ∈ tc8_0, Snd xtb M8 q.1 q.2 := List.forall_mem_cons.mpr ⟨snd_iconst d8_0 (by decide +kernel), List.forall_mem_cons.mpr ⟨snd_istore_n d8_1 rfl, List.forall_mem_cons.mpr ⟨snd_iconst d8_2 (by decide +kernel), List.forall_mem_cons.mpr ⟨snd_istore_n d8_3 rfl, List.forall_mem_cons.mpr ⟨snd_iload_n d8_4 rfl, List.forall_mem_cons.mpr ⟨snd_aload_n d8_5 rfl, List.forall_mem_cons.mpr ⟨snd_getI (by decide) (by decide) rfl wd476 d8_6, List.forall_mem_cons.mpr ⟨snd_cmp_ge d8_9 (by decide), List.forall_mem_cons.mpr ⟨snd_iload_n d8_12 rfl, List.forall_mem_cons.mpr ⟨snd_aload_n d8_13 rfl, List.forall_mem_cons.mpr ⟨snd_getR (by decide) (by decide) rfl wd478 d8_14, List.forall_mem_cons.mpr ⟨snd_iload_n d8_17 rfl, List.forall_mem_cons.mpr ⟨snd_aald d8_18, List.forall_mem_cons.mpr ⟨snd_getI (by decide) (by decide) rfl wd436 d8_19, List.forall_mem_cons.mpr ⟨snd_iadd d8_22, List.forall_mem_cons.mpr ⟨snd_istore_n d8_23 rfl, List.forall_mem_cons.mpr ⟨snd_iinc d8_24 (by decide +kernel), List.forall_mem_cons.mpr ⟨snd_goto d8_27 (by decide), List.forall_mem_cons.mpr ⟨snd_iload_n d8_30 rfl, List.forall_mem_cons.mpr ⟨snd_iret rfl d8_31, fun _ h => by cases h⟩⟩⟩⟩⟩⟩⟩⟩⟩⟩⟩⟩⟩⟩⟩⟩⟩⟩⟩⟩
theorem d9_0 : decode (mC M9) 0 = .ok (.iconst 0, 1) := by decide +kernel
theorem d9_1 : decode (mC M9) 1 = .ok (.istore_n 2, 1) := by decide +kernel
theorem d9_2 : decode (mC M9) 2 = .ok (.iload_n 2, 1) := by decide +kernel
theorem d9_3 : decode (mC M9) 3 = .ok (.aload_n 0, 1) := by decide +kernel
theorem d9_4 : decode (mC M9) 4 = .ok (.getfield 35, 3) := by decide +kernel
theorem d9_7 : decode (mC M9) 7 = .ok (.if_icmp .ge 24, 3) := by decide +kernel
theorem d9_10 : decode (mC M9) 10 = .ok (.aload_n 0, 1) := by decide +kernel
theorem d9_11 : decode (mC M9) 11 = .ok (.getfield 11, 3) := by decide +kernel
theorem d9_14 : decode (mC M9) 14 = .ok (.iload_n 2, 1) := by decide +kernel
theorem d9_15 : decode (mC M9) 15 = .ok (.aaload, 1) := by decide +kernel
theorem d9_16 : decode (mC M9) 16 = .ok (.iload_n 1, 1) := by decide +kernel
theorem d9_17 : decode (mC M9) 17 = .ok (.invokevirtual 45, 3) := by decide +kernel
theorem d9_20 : decode (mC M9) 20 = .ok (.ifCond .eq 5, 3) := by decide +kernel
theorem d9_23 : decode (mC M9) 23 = .ok (.iconst 1, 1) := by decide +kernel
theorem d9_24 : decode (mC M9) 24 = .ok (.ireturn, 1) := by decide +kernel
theorem d9_25 : decode (mC M9) 25 = .ok (.iinc 2 1, 3) := by decide +kernel
theorem d9_28 : decode (mC M9) 28 = .ok (.goto (-26), 3) := by decide +kernel
theorem d9_31 : decode (mC M9) 31 = .ok (.iconst 0, 1) := by decide +kernel
theorem d9_32 : decode (mC M9) 32 = .ok (.ireturn, 1) := by decide +kernel
theorem sc9_0 : ∀ q ∈ tc9_0, Snd xtb M9 q.1 q.2 := List.forall_mem_cons.mpr ⟨snd_iconst d9_0 (by decide +kernel), List.forall_mem_cons.mpr ⟨snd_istore_n d9_1 rfl, List.forall_mem_cons.mpr ⟨snd_iload_n d9_2 rfl, List.forall_mem_cons.mpr ⟨snd_aload_n d9_3 rfl, List.forall_mem_cons.mpr ⟨snd_getI (by decide) (by decide) rfl wd476 d9_4, List.forall_mem_cons.mpr ⟨snd_cmp_ge d9_7 (by decide), List.forall_mem_cons.mpr ⟨snd_aload_n d9_10 rfl, List.forall_mem_cons.mpr ⟨snd_getR (by decide) (by decide) rfl wd478 d9_11, List.forall_mem_cons.mpr ⟨snd_iload_n d9_14 rfl, List.forall_mem_cons.mpr ⟨snd_aald d9_15, List.forall_mem_cons.mpr ⟨snd_iload_n d9_16 rfl, List.forall_mem_cons.mpr ⟨snd_callV (by decide) rfl cn59 ⟨by decide +kernel, by decide +kernel⟩ cm59 (List.forall_mem_cons.mpr ⟨wd1296, cw59⟩) d9_17, List.forall_mem_cons.mpr ⟨snd_if_eq d9_20 (by decide), List.forall_mem_cons.mpr ⟨snd_iconst d9_23 (by decide +kernel), List.forall_mem_cons.mpr ⟨snd_zret rfl d9_24, List.forall_mem_cons.mpr ⟨snd_iinc d9_25 (by decide +kernel), List.forall_mem_cons.mpr ⟨snd_goto d9_28 (by decide), List.forall_mem_cons.mpr ⟨snd_iconst d9_31 (by decide +kernel), List.forall_mem_cons.mpr ⟨snd_zret rfl d9_32, fun _ h => by cases h⟩⟩⟩⟩⟩⟩⟩⟩⟩⟩⟩⟩⟩⟩⟩⟩⟩⟩⟩
theorem d10_0 : decode (mC M10) 0 = .ok (.iconst 0, 1) := by decide +kernel
theorem d10_1 : decode (mC M10) 1 = .ok (.istore_n 3, 1) := by decide +kernel
theorem d10_2 : decode (mC M10) 2 = .ok (.iconst 0, 1) := by decide +kernel
theorem d10_3 : decode (mC M10) 3 = .ok (.istore 4, 2) := by decide +kernel
theorem d10_5 : decode (mC M10) 5 = .ok (.iload 4, 2) := by decide +kernel
theorem d10_7 : decode (mC M10) 7 = .ok (.aload_n 0, 1) := by decide +kernel
theorem d10_8 : decode (mC M10) 8 = .ok (.getfield 35, 3) := by decide +kernel
theorem d10_11 : decode (mC M10) 11 = .ok (.if_icmp .ge 42, 3) := by decide +kernel
theorem d10_14 : decode (mC M10) 14 = .ok (.iload_n 2, 1) := by decide +kernel
theorem d10_15 : decode (mC M10) 15 = .ok (.iconst (-1), 1) := by decide +kernel
theorem d10_16 : decode (mC M10) 16 = .ok (.if_icmp .eq 17, 3) := by decide +kernel
theorem d10_19 : decode (mC M10) 19 = .ok (.aload_n 0, 1) := by decide +kernel
theorem d10_20 : decode (mC M10) 20 = .ok (.getfield 11, 3) := by decide +kernel
theorem d10_23 : decode (mC M10) 23 = .ok (.iload 4, 2) := by decide +kernel
theorem d10_25 : decode (mC M10) 25 = .ok (.aaload, 1) := by decide +kernel
theorem d10_26 : decode (mC M10) 26 = .ok (.getfield 49, 3) := by decide +kernel
theorem d10_29 : decode (mC M10) 29 = .ok (.iload_n 2, 1) := by decide +kernel
theorem d10_30 : decode (mC M10) 30 = .ok (.if_icmp .ne 17, 3) := by decide +kernel
theorem d10_33 : decode (mC M10) 33 = .ok (.iload_n 3, 1) := by decide +kernel
theorem d10_34 : decode (mC M10) 34 = .ok (.aload_n 0, 1) := by decide +kernel
theorem d10_35 : decode (mC M10) 35 = .ok (.getfield 11, 3) := by decide +kernel
theorem d10_38 : decode (mC M10) 38 = .ok (.iload 4, 2) := by decide +kernel
theorem d10_40 : decode (mC M10) 40 = .ok (.aaload, 1) := by decide +kernel
theorem d10_41 : decode (mC M10) 41 = .ok (.iload_n 1, 1) := by decide +kernel
theorem d10_42 : decode (mC M10) 42 = .ok (.invokevirtual 52, 3) := by decide +kernel
theorem d10_45 : decode (mC M10) 45 = .ok (.iadd, 1) := by decide +kernel
theorem d10_46 : decode (mC M10) 46 = .ok (.istore_n 3, 1) := by decide +kernel
theorem d10_47 : decode (mC M10) 47 = .ok (.iinc 4 1, 3) := by decide +kernel
theorem d10_50 : decode (mC M10) 50 = .ok (.goto (-45), 3) := by decide +kernel
theorem d10_53 : decode (mC M10) 53 = .ok (.iload_n 3, 1) := by decide +kernel
theorem d10_54 : decode (mC M10) 54 = .ok (.ireturn, 1) := by decide +kernel
theorem sc10_0 : ∀ q ∈ tc10_0, Snd xtb M10 q.1 q.2 := List.forall_mem_cons.mpr ⟨snd_iconst d10_0 (by decide +kernel), List.forall_mem_cons.mpr ⟨snd_istore_n d10_1 rfl, List.forall_mem_cons.mpr ⟨snd_iconst d10_2 (by decide +kernel), List.forall_mem_cons.mpr ⟨snd_istore d10_3, List.forall_mem_cons.mpr ⟨snd_iload d10_5, List.forall_mem_cons.mpr ⟨snd_aload_n d10_7 rfl, List.forall_mem_cons.mpr ⟨snd_getI (by decide) (by decide) rfl wd476 d10_8, List.forall_mem_cons.mpr ⟨snd_cmp_ge d10_11 (by decide), List.forall_mem_cons.mpr ⟨snd_iload_n d10_14 rfl, List.forall_mem_cons.mpr ⟨snd_iconst d10_15 (by decide +kernel), List.forall_mem_cons.mpr ⟨snd_cmp_eq d10_16 (by decide), List.forall_mem_cons.mpr ⟨snd_aload_n d10_19 rfl, List.forall_mem_cons.mpr ⟨snd_getR (by decide) (by decide) rfl wd478 d10_20, List.forall_mem_cons.mpr ⟨snd_iload d10_23, List.forall_mem_cons.mpr ⟨snd_aald d10_25, List.forall_mem_cons.mpr ⟨snd_getI (by decide) (by decide) rfl wd428 d10_26, List.forall_mem_cons.mpr ⟨snd_iload_n d10_29 rfl, List.forall_mem_cons.mpr ⟨snd_cmp_ne d10_30 (by decide), List.forall_mem_cons.mpr ⟨snd_iload_n d10_33 rfl, List.forall_mem_cons.mpr ⟨snd_aload_n d10_34 rfl, List.forall_mem_cons.mpr ⟨snd_getR (by decide) (by decide) rfl wd478 d10_35, List.forall_mem_cons.mpr ⟨snd_iload d10_38, List.forall_mem_cons.mpr ⟨snd_aald d10_40, List.forall_mem_cons.mpr ⟨snd_iload_n d10_41 rfl, List.forall_mem_cons.mpr ⟨snd_callV (by decide) rfl cn58 ⟨by decide +kernel, by decide +kernel⟩ cm58 (List.forall_mem_cons.mpr ⟨wd1155, cw58⟩) d10_42, List.forall_mem_cons.mpr ⟨snd_iadd d10_45, List.forall_mem_cons.mpr ⟨snd_istore_n d10_46 rfl, List.forall_mem_cons.mpr ⟨snd_iinc d10_47 (by decide +kernel), List.forall_mem_cons.mpr ⟨snd_goto d10_50 (by decide), List.forall_mem_cons.mpr ⟨snd_iload_n d10_53 rfl, fun _ h => by cases h⟩⟩⟩⟩⟩⟩⟩⟩⟩⟩⟩⟩⟩⟩⟩⟩⟩⟩⟩⟩⟩⟩⟩⟩⟩⟩⟩⟩⟩⟩
theorem sc10_1 : ∀ q ∈ tc10_1, Snd xtb M10 q.1 q.2 := List.forall_mem_cons.mpr ⟨snd_iret rfl d10_54, fun _ h => by cases h⟩
theorem d11_0 : decode (mC M11) 0 = .ok (.iconst 0, 1) := by decide +kernel
theorem d11_1 : decode (mC M11) 1 = .ok (.istore_n 1, 1) := by decide +kernel
theorem d11_2 : decode (mC M11) 2 = .ok (.iload_n 1, 1) := by decide +kernel
theorem d11_3 : decode (mC M11) 3 = .ok (.aload_n 0, 1) := by decide +kernel
theorem d11_4 : decode (mC M11) 4 = .ok (.getfield 30, 3) := by decide +kernel
theorem d11_7 : decode (mC M11) 7 = .ok (.arraylength, 1) := by decide +kernel
theorem d11_8 : decode (mC M11) 8 = .ok (.if_icmp .ge 16, 3) := by decide +kernel
theorem d11_11 : decode (mC M11) 11 = .ok (.aload_n 0, 1) := by decide +kernel
theorem d11_12 : decode (mC M11) 12 = .ok (.getfield 30, 3) := by decide +kernel
theorem d11_15 : decode (mC M11) 15 = .ok (.iload_n 1, 1) := by decide +kernel
theorem d11_16 : decode (mC M11) 16 = .ok (.iconst 0, 1) := by decide +kernel
theorem d11_17 : decode (mC M11) 17 = .ok (.bastore, 1) := by decide +kernel
theorem d11_18 : decode (mC M11) 18 = .ok (.iinc 1 1, 3) := by decide +kernel
theorem d11_21 : decode (mC M11) 21 = .ok (.goto (-19), 3) := by decide +kernel
theorem d11_24 : decode (mC M11) 24 = .ok (.iconst 0, 1) := by decide +kernel
theorem d11_25 : decode (mC M11) 25 = .ok (.istore_n 1, 1) := by decide +kernel
theorem d11_26 : decode (mC M11) 26 = .ok (.iconst 0, 1) := by decide +kernel
theorem d11_27 : decode (mC M11) 27 = .ok (.istore_n 2, 1) := by decide +kernel
theorem d11_28 : decode (mC M11) 28 = .ok (.iload_n 2, 1) := by decide +kernel
theorem d11_29 : decode (mC M11) 29 = .ok (.aload_n 0, 1) := by decide +kernel
theorem d11_30 : decode (mC M11) 30 = .ok (.getfield 35, 3) := by decide +kernel
theorem d11_33 : decode (mC M11) 33 = .ok (.if_icmp .ge 95, 3) := by decide +kernel
theorem d11_36 : decode (mC M11) 36 = .ok (.aload_n 0, 1) := by decide +kernel
theorem d11_37 : decode (mC M11) 37 = .ok (.getfield 11, 3) := by decide +kernel
theorem d11_40 : decode (mC M11) 40 = .ok (.iload_n 2, 1) := by decide +kernel
theorem d11_41 : decode (mC M11) 41 = .ok (.aaload, 1) := by decide +kernel
theorem d11_42 : decode (mC M11) 42 = .ok (.astore_n 3, 1) := by decide +kernel
theorem d11_43 : decode (mC M11) 43 = .ok (.iconst 0, 1) := by decide +kernel
theorem d11_44 : decode (mC M11) 44 = .ok (.istore 4, 2) := by decide +kernel
theorem d11_46 : decode (mC M11) 46 = .ok (.iload 4, 2) := by decide +kernel
theorem d11_48 : decode (mC M11) 48 = .ok (.aload_n 3, 1) := by decide +kernel
theorem d11_49 : decode (mC M11) 49 = .ok (.getfield 56, 3) := by decide +kernel
theorem d11_52 : decode (mC M11) 52 = .ok (.if_icmp .ge 70, 3) := by decide +kernel
theorem d11_55 : decode (mC M11) 55 = .ok (.aload_n 3, 1) := by decide +kernel
theorem d11_56 : decode (mC M11) 56 = .ok (.getfield 59, 3) := by decide +kernel
theorem d11_59 : decode (mC M11) 59 = .ok (.iload 4, 2) := by decide +kernel
theorem d11_61 : decode (mC M11) 61 = .ok (.iaload, 1) := by decide +kernel
theorem d11_62 : decode (mC M11) 62 = .ok (.bipush 6, 2) := by decide +kernel
theorem d11_64 : decode (mC M11) 64 = .ok (.imul, 1) := by decide +kernel
theorem d11_65 : decode (mC M11) 65 = .ok (.aload_n 3, 1) := by decide +kernel
theorem d11_66 : decode (mC M11) 66 = .ok (.getfield 49, 3) := by decide +kernel
theorem d11_69 : decode (mC M11) 69 = .ok (.iadd, 1) := by decide +kernel
theorem d11_70 : decode (mC M11) 70 = .ok (.istore 5, 2) := by decide +kernel
theorem d11_72 : decode (mC M11) 72 = .ok (.aload_n 0, 1) := by decide +kernel
theorem d11_73 : decode (mC M11) 73 = .ok (.getfield 30, 3) := by decide +kernel
theorem d11_76 : decode (mC M11) 76 = .ok (.iload 5, 2) := by decide +kernel
theorem d11_78 : decode (mC M11) 78 = .ok (.baload, 1) := by decide +kernel
theorem d11_79 : decode (mC M11) 79 = .ok (.ifCond .ne 37, 3) := by decide +kernel
theorem d11_82 : decode (mC M11) 82 = .ok (.aload_n 0, 1) := by decide +kernel
theorem d11_83 : decode (mC M11) 83 = .ok (.getfield 30, 3) := by decide +kernel
theorem d11_86 : decode (mC M11) 86 = .ok (.iload 5, 2) := by decide +kernel
theorem d11_88 : decode (mC M11) 88 = .ok (.iconst 1, 1) := by decide +kernel
theorem d11_89 : decode (mC M11) 89 = .ok (.bastore, 1) := by decide +kernel
theorem d11_90 : decode (mC M11) 90 = .ok (.aload_n 0, 1) := by decide +kernel
theorem d11_91 : decode (mC M11) 91 = .ok (.getfield 24, 3) := by decide +kernel
theorem d11_94 : decode (mC M11) 94 = .ok (.iload_n 1, 1) := by decide +kernel
theorem d11_95 : decode (mC M11) 95 = .ok (.aload_n 3, 1) := by decide +kernel
theorem d11_96 : decode (mC M11) 96 = .ok (.getfield 59, 3) := by decide +kernel
theorem d11_99 : decode (mC M11) 99 = .ok (.iload 4, 2) := by decide +kernel
theorem d11_101 : decode (mC M11) 101 = .ok (.iaload, 1) := by decide +kernel
theorem d11_102 : decode (mC M11) 102 = .ok (.iastore, 1) := by decide +kernel
theorem d11_103 : decode (mC M11) 103 = .ok (.aload_n 0, 1) := by decide +kernel
theorem d11_104 : decode (mC M11) 104 = .ok (.getfield 27, 3) := by decide +kernel
theorem d11_107 : decode (mC M11) 107 = .ok (.iload_n 1, 1) := by decide +kernel
theorem d11_108 : decode (mC M11) 108 = .ok (.aload_n 3, 1) := by decide +kernel
theorem d11_109 : decode (mC M11) 109 = .ok (.getfield 49, 3) := by decide +kernel
theorem d11_112 : decode (mC M11) 112 = .ok (.iastore, 1) := by decide +kernel
theorem d11_113 : decode (mC M11) 113 = .ok (.iinc 1 1, 3) := by decide +kernel
theorem d11_116 : decode (mC M11) 116 = .ok (.iinc 4 1, 3) := by decide +kernel
theorem d11_119 : decode (mC M11) 119 = .ok (.goto (-73), 3) := by decide +kernel
theorem d11_122 : decode (mC M11) 122 = .ok (.iinc 2 1, 3) := by decide +kernel
theorem d11_125 : decode (mC M11) 125 = .ok (.goto (-97), 3) := by decide +kernel
theorem d11_128 : decode (mC M11) 128 = .ok (.iload_n 1, 1) := by decide +kernel
theorem d11_129 : decode (mC M11) 129 = .ok (.ireturn, 1) := by decide +kernel
theorem sc11_0 : ∀ q ∈ tc11_0, Snd xtb M11 q.1 q.2 := List.forall_mem_cons.mpr ⟨snd_iconst d11_0 (by decide +kernel), List.forall_mem_cons.mpr ⟨snd_istore_n d11_1 rfl, List.forall_mem_cons.mpr ⟨snd_iload_n d11_2 rfl, List.forall_mem_cons.mpr ⟨snd_aload_n d11_3 rfl, List.forall_mem_cons.mpr ⟨snd_getR (by decide) (by decide) rfl wd489 d11_4, List.forall_mem_cons.mpr ⟨snd_alen (k := 3) (by decide) d11_7, List.forall_mem_cons.mpr ⟨snd_cmp_ge d11_8 (by decide), List.forall_mem_cons.mpr ⟨snd_aload_n d11_11 rfl, List.forall_mem_cons.mpr ⟨snd_getR (by decide) (by decide) rfl wd489 d11_12, List.forall_mem_cons.mpr ⟨snd_iload_n d11_15 rfl, List.forall_mem_cons.mpr ⟨snd_iconst d11_16 (by decide +kernel), List.forall_mem_cons.mpr ⟨snd_zast d11_17, List.forall_mem_cons.mpr ⟨snd_iinc d11_18 (by decide +kernel), List.forall_mem_cons.mpr ⟨snd_goto d11_21 (by decide), List.forall_mem_cons.mpr ⟨snd_iconst d11_24 (by decide +kernel), List.forall_mem_cons.mpr ⟨snd_istore_n d11_25 rfl, List.forall_mem_cons.mpr ⟨snd_iconst d11_26 (by decide +kernel), List.forall_mem_cons.mpr ⟨snd_istore_n d11_27 rfl, List.forall_mem_cons.mpr ⟨snd_iload_n d11_28 rfl, List.forall_mem_cons.mpr ⟨snd_aload_n d11_29 rfl, List.forall_mem_cons.mpr ⟨snd_getI (by decide) (by decide) rfl wd476 d11_30, List.forall_mem_cons.mpr ⟨snd_cmp_ge d11_33 (by decide), List.forall_mem_cons.mpr ⟨snd_aload_n d11_36 rfl, List.forall_mem_cons.mpr ⟨snd_getR (by decide) (by decide) rfl wd478 d11_37, List.forall_mem_cons.mpr ⟨snd_iload_n d11_40 rfl, List.forall_mem_cons.mpr ⟨snd_aald d11_41, List.forall_mem_cons.mpr ⟨snd_astore_n d11_42 rfl, List.forall_mem_cons.mpr ⟨snd_iconst d11_43 (by decide +kernel), List.forall_mem_cons.mpr ⟨snd_istore d11_44, List.forall_mem_cons.mpr ⟨snd_iload d11_46, fun _ h => by cases h⟩⟩⟩⟩⟩⟩⟩⟩⟩⟩⟩⟩⟩⟩⟩⟩⟩⟩⟩⟩⟩⟩⟩⟩⟩⟩⟩⟩⟩⟩
theorem sc11_1 : ∀ q ∈ tc11_1, Snd xtb M11 q.1 q.2 := List.forall_mem_cons.mpr ⟨snd_aload_n d11_48 rfl, List.forall_mem_cons.mpr ⟨snd_getI (by decide) (by decide) rfl wd441 d11_49, List.forall_mem_cons.mpr ⟨snd_cmp_ge d11_52 (by decide), List.forall_mem_cons.mpr ⟨snd_aload_n d11_55 rfl, List.forall_mem_cons.mpr ⟨snd_getR (by decide) (by decide) rfl wd445 d11_56, List.forall_mem_cons.mpr ⟨snd_iload d11_59, List.forall_mem_cons.mpr ⟨snd_iald d11_61, List.forall_mem_cons.mpr ⟨snd_bipush d11_62 (by decide +kernel), List.forall_mem_cons.mpr ⟨snd_imul d11_64, List.forall_mem_cons.mpr ⟨snd_aload_n d11_65 rfl, List.forall_mem_cons.mpr ⟨snd_getI (by decide) (by decide) rfl wd428 d11_66, List.forall_mem_cons.mpr ⟨snd_iadd d11_69, List.forall_mem_cons.mpr ⟨snd_istore d11_70, List.forall_mem_cons.mpr ⟨snd_aload_n d11_72 rfl, List.forall_mem_cons.mpr ⟨snd_getR (by decide) (by decide) rfl wd489 d11_73, List.forall_mem_cons.mpr ⟨snd_iload d11_76, List.forall_mem_cons.mpr ⟨snd_zald d11_78, List.forall_mem_cons.mpr ⟨snd_if_ne d11_79 (by decide), List.forall_mem_cons.mpr ⟨snd_aload_n d11_82 rfl, List.forall_mem_cons.mpr ⟨snd_getR (by decide) (by decide) rfl wd489 d11_83, List.forall_mem_cons.mpr ⟨snd_iload d11_86, List.forall_mem_cons.mpr ⟨snd_iconst d11_88 (by decide +kernel), List.forall_mem_cons.mpr ⟨snd_zast d11_89, List.forall_mem_cons.mpr ⟨snd_aload_n d11_90 rfl, List.forall_mem_cons.mpr ⟨snd_getR (by decide) (by decide) rfl wd485 d11_91, List.forall_mem_cons.mpr ⟨snd_iload_n d11_94 rfl, List.forall_mem_cons.mpr ⟨snd_aload_n d11_95 rfl, List.forall_mem_cons.mpr ⟨snd_getR (by decide) (by decide) rfl wd445 d11_96, List.forall_mem_cons.mpr ⟨snd_iload d11_99, List.forall_mem_cons.mpr ⟨snd_iald d11_101, fun _ h => by cases h⟩⟩⟩⟩⟩⟩⟩⟩⟩⟩⟩⟩⟩⟩⟩⟩⟩⟩⟩⟩⟩⟩⟩⟩⟩⟩⟩⟩⟩⟩
theorem sc11_2 : ∀ q ∈ tc11_2, Snd xtb M11 q.1 q.2 := List.forall_mem_cons.mpr ⟨snd_iast d11_102, List.forall_mem_cons.mpr ⟨snd_aload_n d11_103 rfl, List.forall_mem_cons.mpr ⟨snd_getR (by decide) (by decide) rfl wd487 d11_104, List.forall_mem_cons.mpr ⟨snd_iload_n d11_107 rfl, List.forall_mem_cons.mpr ⟨snd_aload_n d11_108 rfl, List.forall_mem_cons.mpr ⟨snd_getI (by decide) (by decide) rfl wd428 d11_109, List.forall_mem_cons.mpr ⟨snd_iast d11_112, List.forall_mem_cons.mpr ⟨snd_iinc d11_113 (by decide +kernel), List.forall_mem_cons.mpr ⟨snd_iinc d11_116 (by decide +kernel), List.forall_mem_cons.mpr ⟨snd_goto d11_119 (by decide), List.forall_mem_cons.mpr ⟨snd_iinc d11_122 (by decide +kernel), List.forall_mem_cons.mpr ⟨snd_goto d11_125 (by decide), List.forall_mem_cons.mpr ⟨snd_iload_n d11_128 rfl, List.forall_mem_cons.mpr ⟨snd_iret rfl d11_129, fun _ h => by cases h⟩⟩⟩⟩⟩⟩⟩⟩⟩⟩⟩⟩⟩⟩
theorem d12_0 : decode (mC M12) 0 = .ok (.aload_n 0, 1) := by decide +kernel
theorem d12_1 : decode (mC M12) 1 = .ok (.getfield 39, 3) := by decide +kernel
theorem d12_4 : decode (mC M12) 4 = .ok (.ifCond .ne 7, 3) := by decide +kernel
theorem d12_7 : decode (mC M12) 7 = .ok (.iconst (-1), 1) := by decide +kernel
theorem d12_8 : decode (mC M12) 8 = .ok (.goto 14, 3) := by decide +kernel
theorem d12_11 : decode (mC M12) 11 = .ok (.aload_n 0, 1) := by decide +kernel
theorem d12_12 : decode (mC M12) 12 = .ok (.getfield 17, 3) := by decide +kernel
theorem d12_15 : decode (mC M12) 15 = .ok (.aload_n 0, 1) := by decide +kernel
theorem d12_16 : decode (mC M12) 16 = .ok (.getfield 39, 3) := by decide +kernel
theorem d12_19 : decode (mC M12) 19 = .ok (.iconst 1, 1) := by decide +kernel
theorem d12_20 : decode (mC M12) 20 = .ok (.isub, 1) := by decide +kernel
theorem d12_21 : decode (mC M12) 21 = .ok (.iaload, 1) := by decide +kernel
theorem d12_22 : decode (mC M12) 22 = .ok (.ireturn, 1) := by decide +kernel
theorem sc12_0 : ∀ q ∈ tc12_0, Snd xtb M12 q.1 q.2 := List.forall_mem_cons.mpr ⟨snd_aload_n d12_0 rfl, List.forall_mem_cons.mpr ⟨snd_getI (by decide) (by decide) rfl wd480 d12_1, List.forall_mem_cons.mpr ⟨snd_if_ne d12_4 (by decide), List.forall_mem_cons.mpr ⟨snd_iconst d12_7 (by decide +kernel), List.forall_mem_cons.mpr ⟨snd_goto d12_8 (by decide), List.forall_mem_cons.mpr ⟨snd_aload_n d12_11 rfl, List.forall_mem_cons.mpr ⟨snd_getR (by decide) (by decide) rfl wd482 d12_12, List.forall_mem_cons.mpr ⟨snd_aload_n d12_15 rfl, List.forall_mem_cons.mpr ⟨snd_getI (by decide) (by decide) rfl wd480 d12_16, List.forall_mem_cons.mpr ⟨snd_iconst d12_19 (by decide +kernel), List.forall_mem_cons.mpr ⟨snd_isub d12_20, List.forall_mem_cons.mpr ⟨snd_iald d12_21, List.forall_mem_cons.mpr ⟨snd_iret rfl d12_22, fun _ h => by cases h⟩⟩⟩⟩⟩⟩⟩⟩⟩⟩⟩⟩⟩
theorem d13_0 : decode (mC M13) 0 = .ok (.iconst 0, 1) := by decide +kernel
theorem d13_1 : decode (mC M13) 1 = .ok (.istore_n 2, 1) := by decide +kernel
theorem d13_2 : decode (mC M13) 2 = .ok (.iconst 0, 1) := by decide +kernel
theorem d13_3 : decode (mC M13) 3 = .ok (.istore_n 3, 1) := by decide +kernel
theorem d13_4 : decode (mC M13) 4 = .ok (.iload_n 3, 1) := by decide +kernel
theorem d13_5 : decode (mC M13) 5 = .ok (.aload_n 0, 1) := by decide +kernel
theorem d13_6 : decode (mC M13) 6 = .ok (.getfield 35, 3) := by decide +kernel
theorem d13_9 : decode (mC M13) 9 = .ok (.if_icmp .ge 33, 3) := by decide +kernel
theorem d13_12 : decode (mC M13) 12 = .ok (.iload_n 2, 1) := by decide +kernel
theorem d13_13 : decode (mC M13) 13 = .ok (.aload_n 0, 1) := by decide +kernel
theorem d13_14 : decode (mC M13) 14 = .ok (.getfield 11, 3) := by decide +kernel
theorem d13_17 : decode (mC M13) 17 = .ok (.iload_n 3, 1) := by decide +kernel
theorem d13_18 : decode (mC M13) 18 = .ok (.aaload, 1) := by decide +kernel
theorem d13_19 : decode (mC M13) 19 = .ok (.getfield 62, 3) := by decide +kernel
theorem d13_22 : decode (mC M13) 22 = .ok (.iload_n 1, 1) := by decide +kernel
theorem d13_23 : decode (mC M13) 23 = .ok (.if_icmp .ne 7, 3) := by decide +kernel
theorem d13_26 : decode (mC M13) 26 = .ok (.iconst 1, 1) := by decide +kernel
theorem d13_27 : decode (mC M13) 27 = .ok (.goto 4, 3) := by decide +kernel
theorem d13_30 : decode (mC M13) 30 = .ok (.iconst 0, 1) := by decide +kernel
theorem d13_31 : decode (mC M13) 31 = .ok (.invokestatic 65, 3) := by decide +kernel
theorem d13_34 : decode (mC M13) 34 = .ok (.iadd, 1) := by decide +kernel
theorem d13_35 : decode (mC M13) 35 = .ok (.istore_n 2, 1) := by decide +kernel
theorem d13_36 : decode (mC M13) 36 = .ok (.iinc 3 1, 3) := by decide +kernel
theorem d13_39 : decode (mC M13) 39 = .ok (.goto (-35), 3) := by decide +kernel
theorem d13_42 : decode (mC M13) 42 = .ok (.iload_n 2, 1) := by decide +kernel
theorem d13_43 : decode (mC M13) 43 = .ok (.ireturn, 1) := by decide +kernel
theorem sc13_0 : ∀ q ∈ tc13_0, Snd xtb M13 q.1 q.2 := List.forall_mem_cons.mpr ⟨snd_iconst d13_0 (by decide +kernel), List.forall_mem_cons.mpr ⟨snd_istore_n d13_1 rfl, List.forall_mem_cons.mpr ⟨snd_iconst d13_2 (by decide +kernel), List.forall_mem_cons.mpr ⟨snd_istore_n d13_3 rfl, List.forall_mem_cons.mpr ⟨snd_iload_n d13_4 rfl, List.forall_mem_cons.mpr ⟨snd_aload_n d13_5 rfl, List.forall_mem_cons.mpr ⟨snd_getI (by decide) (by decide) rfl wd476 d13_6, List.forall_mem_cons.mpr ⟨snd_cmp_ge d13_9 (by decide), List.forall_mem_cons.mpr ⟨snd_iload_n d13_12 rfl, List.forall_mem_cons.mpr ⟨snd_aload_n d13_13 rfl, List.forall_mem_cons.mpr ⟨snd_getR (by decide) (by decide) rfl wd478 d13_14, List.forall_mem_cons.mpr ⟨snd_iload_n d13_17 rfl, List.forall_mem_cons.mpr ⟨snd_aald d13_18, List.forall_mem_cons.mpr ⟨snd_getI (by decide) (by decide) rfl wd439 d13_19, List.forall_mem_cons.mpr ⟨snd_iload_n d13_22 rfl, List.forall_mem_cons.mpr ⟨snd_cmp_ne d13_23 (by decide), List.forall_mem_cons.mpr ⟨snd_iconst d13_26 (by decide +kernel), List.forall_mem_cons.mpr ⟨snd_goto d13_27 (by decide), List.forall_mem_cons.mpr ⟨snd_iconst d13_30 (by decide +kernel), List.forall_mem_cons.mpr ⟨snd_callSN (host := "SalePlaces") cn165 ⟨by decide +kernel, by decide +kernel⟩ cm165 cw165 (by decide +kernel) d13_31, List.forall_mem_cons.mpr ⟨snd_iadd d13_34, List.forall_mem_cons.mpr ⟨snd_istore_n d13_35 rfl, List.forall_mem_cons.mpr ⟨snd_iinc d13_36 (by decide +kernel), List.forall_mem_cons.mpr ⟨snd_goto d13_39 (by decide), List.forall_mem_cons.mpr ⟨snd_iload_n d13_42 rfl, List.forall_mem_cons.mpr ⟨snd_iret rfl d13_43, fun _ h => by cases h⟩⟩⟩⟩⟩⟩⟩⟩⟩⟩⟩⟩⟩⟩⟩⟩⟩⟩⟩⟩⟩⟩⟩⟩⟩⟩
theorem d14_0 : decode (mC M14) 0 = .ok (.iconst 0, 1) := by decide +kernel
theorem d14_1 : decode (mC M14) 1 = .ok (.istore_n 3, 1) := by decide +kernel
theorem d14_2 : decode (mC M14) 2 = .ok (.iconst 0, 1) := by decide +kernel
theorem d14_3 : decode (mC M14) 3 = .ok (.istore 4, 2) := by decide +kernel
theorem d14_5 : decode (mC M14) 5 = .ok (.iload 4, 2) := by decide +kernel
theorem d14_7 : decode (mC M14) 7 = .ok (.bipush 10, 2) := by decide +kernel
theorem d14_9 : decode (mC M14) 9 = .ok (.if_icmp .ge 35, 3) := by decide +kernel
theorem d14_12 : decode (mC M14) 12 = .ok (.iload_n 2, 1) := by decide +kernel
theorem d14_13 : decode (mC M14) 13 = .ok (.iconst (-1), 1) := by decide +kernel
theorem d14_14 : decode (mC M14) 14 = .ok (.if_icmp .eq 9, 3) := by decide +kernel
theorem d14_17 : decode (mC M14) 17 = .ok (.iload_n 2, 1) := by decide +kernel
theorem d14_18 : decode (mC M14) 18 = .ok (.iload 4, 2) := by decide +kernel
theorem d14_20 : decode (mC M14) 20 = .ok (.if_icmp .ne 18, 3) := by decide +kernel
theorem d14_23 : decode (mC M14) 23 = .ok (.iload_n 3, 1) := by decide +kernel
theorem d14_24 : decode (mC M14) 24 = .ok (.aload_n 0, 1) := by decide +kernel
theorem d14_25 : decode (mC M14) 25 = .ok (.getfield 21, 3) := by decide +kernel
theorem d14_28 : decode (mC M14) 28 = .ok (.iload_n 1, 1) := by decide +kernel
theorem d14_29 : decode (mC M14) 29 = .ok (.bipush 10, 2) := by decide +kernel
theorem d14_31 : decode (mC M14) 31 = .ok (.imul, 1) := by decide +kernel
theorem d14_32 : decode (mC M14) 32 = .ok (.iload 4, 2) := by decide +kernel
theorem d14_34 : decode (mC M14) 34 = .ok (.iadd, 1) := by decide +kernel
theorem d14_35 : decode (mC M14) 35 = .ok (.iaload, 1) := by decide +kernel
theorem d14_36 : decode (mC M14) 36 = .ok (.iadd, 1) := by decide +kernel
theorem d14_37 : decode (mC M14) 37 = .ok (.istore_n 3, 1) := by decide +kernel
theorem d14_38 : decode (mC M14) 38 = .ok (.iinc 4 1, 3) := by decide +kernel
theorem d14_41 : decode (mC M14) 41 = .ok (.goto (-36), 3) := by decide +kernel
theorem d14_44 : decode (mC M14) 44 = .ok (.iload_n 3, 1) := by decide +kernel
theorem d14_45 : decode (mC M14) 45 = .ok (.ireturn, 1) := by decide +kernel
theorem sc14_0 : ∀ q ∈ tc14_0, Snd xtb M14 q.1 q.2 := List.forall_mem_cons.mpr ⟨snd_iconst d14_0 (by decide +kernel), List.forall_mem_cons.mpr ⟨snd_istore_n d14_1 rfl, List.forall_mem_cons.mpr ⟨snd_iconst d14_2 (by decide +kernel), List.forall_mem_cons.mpr ⟨snd_istore d14_3, List.forall_mem_cons.mpr ⟨snd_iload d14_5, List.forall_mem_cons.mpr ⟨snd_bipush d14_7 (by decide +kernel), List.forall_mem_cons.mpr ⟨snd_cmp_ge d14_9 (by decide), List.forall_mem_cons.mpr ⟨snd_iload_n d14_12 rfl, List.forall_mem_cons.mpr ⟨snd_iconst d14_13 (by decide +kernel), List.forall_mem_cons.mpr ⟨snd_cmp_eq d14_14 (by decide), List.forall_mem_cons.mpr ⟨snd_iload_n d14_17 rfl, List.forall_mem_cons.mpr ⟨snd_iload d14_18, List.forall_mem_cons.mpr ⟨snd_cmp_ne d14_20 (by decide), List.forall_mem_cons.mpr ⟨snd_iload_n d14_23 rfl, List.forall_mem_cons.mpr ⟨snd_aload_n d14_24 rfl, List.forall_mem_cons.mpr ⟨snd_getR (by decide) (by decide) rfl wd484 d14_25, List.forall_mem_cons.mpr ⟨snd_iload_n d14_28 rfl, List.forall_mem_cons.mpr ⟨snd_bipush d14_29 (by decide +kernel), List.forall_mem_cons.mpr ⟨snd_imul d14_31, List.forall_mem_cons.mpr ⟨snd_iload d14_32, List.forall_mem_cons.mpr ⟨snd_iadd d14_34, List.forall_mem_cons.mpr ⟨snd_iald d14_35, List.forall_mem_cons.mpr ⟨snd_iadd d14_36, List.forall_mem_cons.mpr ⟨snd_istore_n d14_37 rfl, List.forall_mem_cons.mpr ⟨snd_iinc d14_38 (by decide +kernel), List.forall_mem_cons.mpr ⟨snd_goto d14_41 (by decide), List.forall_mem_cons.mpr ⟨snd_iload_n d14_44 rfl, List.forall_mem_cons.mpr ⟨snd_iret rfl d14_45, fun _ h => by cases h⟩⟩⟩⟩⟩⟩⟩⟩⟩⟩⟩⟩⟩⟩⟩⟩⟩⟩⟩⟩⟩⟩⟩⟩⟩⟩⟩⟩
theorem d15_0 : decode (mC M15) 0 = .ok (.iconst 0, 1) := by decide +kernel
theorem d15_1 : decode (mC M15) 1 = .ok (.istore_n 3, 1) := by decide +kernel
theorem d15_2 : decode (mC M15) 2 = .ok (.iconst 0, 1) := by decide +kernel
theorem d15_3 : decode (mC M15) 3 = .ok (.istore 4, 2) := by decide +kernel
theorem d15_5 : decode (mC M15) 5 = .ok (.iload 4, 2) := by decide +kernel
theorem d15_7 : decode (mC M15) 7 = .ok (.aload_n 0, 1) := by decide +kernel
theorem d15_8 : decode (mC M15) 8 = .ok (.getfield 35, 3) := by decide +kernel
theorem d15_11 : decode (mC M15) 11 = .ok (.if_icmp .ge 37, 3) := by decide +kernel
theorem d15_14 : decode (mC M15) 14 = .ok (.aload_n 0, 1) := by decide +kernel
theorem d15_15 : decode (mC M15) 15 = .ok (.getfield 11, 3) := by decide +kernel
theorem d15_18 : decode (mC M15) 18 = .ok (.iload 4, 2) := by decide +kernel
theorem d15_20 : decode (mC M15) 20 = .ok (.aaload, 1) := by decide +kernel
theorem d15_21 : decode (mC M15) 21 = .ok (.getfield 69, 3) := by decide +kernel
theorem d15_24 : decode (mC M15) 24 = .ok (.iload_n 1, 1) := by decide +kernel
theorem d15_25 : decode (mC M15) 25 = .ok (.if_icmp .gt 17, 3) := by decide +kernel
theorem d15_28 : decode (mC M15) 28 = .ok (.iload_n 3, 1) := by decide +kernel
theorem d15_29 : decode (mC M15) 29 = .ok (.aload_n 0, 1) := by decide +kernel
theorem d15_30 : decode (mC M15) 30 = .ok (.getfield 11, 3) := by decide +kernel
theorem d15_33 : decode (mC M15) 33 = .ok (.iload 4, 2) := by decide +kernel
theorem d15_35 : decode (mC M15) 35 = .ok (.aaload, 1) := by decide +kernel
theorem d15_36 : decode (mC M15) 36 = .ok (.iload_n 2, 1) := by decide +kernel
theorem d15_37 : decode (mC M15) 37 = .ok (.invokevirtual 52, 3) := by decide +kernel
theorem d15_40 : decode (mC M15) 40 = .ok (.iadd, 1) := by decide +kernel
theorem d15_41 : decode (mC M15) 41 = .ok (.istore_n 3, 1) := by decide +kernel
theorem d15_42 : decode (mC M15) 42 = .ok (.iinc 4 1, 3) := by decide +kernel
theorem d15_45 : decode (mC M15) 45 = .ok (.goto (-40), 3) := by decide +kernel
theorem d15_48 : decode (mC M15) 48 = .ok (.iconst 0, 1) := by decide +kernel
theorem d15_49 : decode (mC M15) 49 = .ok (.istore 4, 2) := by decide +kernel
theorem d15_51 : decode (mC M15) 51 = .ok (.iload 4, 2) := by decide +kernel
theorem d15_53 : decode (mC M15) 53 = .ok (.aload_n 0, 1) := by decide +kernel
theorem d15_54 : decode (mC M15) 54 = .ok (.getfield 39, 3) := by decide +kernel
theorem d15_57 : decode (mC M15) 57 = .ok (.if_icmp .ge 19, 3) := by decide +kernel
theorem d15_60 : decode (mC M15) 60 = .ok (.iload_n 3, 1) := by decide +kernel
theorem d15_61 : decode (mC M15) 61 = .ok (.aload_n 0, 1) := by decide +kernel
theorem d15_62 : decode (mC M15) 62 = .ok (.iload 4, 2) := by decide +kernel
theorem d15_64 : decode (mC M15) 64 = .ok (.iload_n 2, 1) := by decide +kernel
theorem d15_65 : decode (mC M15) 65 = .ok (.invokevirtual 72, 3) := by decide +kernel
theorem d15_68 : decode (mC M15) 68 = .ok (.isub, 1) := by decide +kernel
theorem d15_69 : decode (mC M15) 69 = .ok (.istore_n 3, 1) := by decide +kernel
theorem d15_70 : decode (mC M15) 70 = .ok (.iinc 4 1, 3) := by decide +kernel
theorem d15_73 : decode (mC M15) 73 = .ok (.goto (-22), 3) := by decide +kernel
theorem d15_76 : decode (mC M15) 76 = .ok (.iload_n 3, 1) := by decide +kernel
theorem d15_77 : decode (mC M15) 77 = .ok (.ireturn, 1) := by decide +kernel
theorem sc15_0 : ∀ q ∈ tc15_0, Snd xtb M15 q.1 q.2 := List.forall_mem_cons.mpr ⟨snd_iconst d15_0 (by decide +kernel), List.forall_mem_cons.mpr ⟨snd_istore_n d15_1 rfl, List.forall_mem_cons.mpr ⟨snd_iconst d15_2 (by decide +kernel), List.forall_mem_cons.mpr ⟨snd_istore d15_3, List.forall_mem_cons.mpr ⟨snd_iload d15_5, List.forall_mem_cons.mpr ⟨snd_aload_n d15_7 rfl, List.forall_mem_cons.mpr ⟨snd_getI (by decide) (by decide) rfl wd476 d15_8, List.forall_mem_cons.mpr ⟨snd_cmp_ge d15_11 (by decide), List.forall_mem_cons.mpr ⟨snd_aload_n d15_14 rfl, List.forall_mem_cons.mpr ⟨snd_getR (by decide) (by decide) rfl wd478 d15_15, List.forall_mem_cons.mpr ⟨snd_iload d15_18, List.forall_mem_cons.mpr ⟨snd_aald d15_20, List.forall_mem_cons.mpr ⟨snd_getI (by decide) (by decide) rfl wd419 d15_21, List.forall_mem_cons.mpr ⟨snd_iload_n d15_24 rfl, List.forall_mem_cons.mpr ⟨snd_cmp_gt d15_25 (by decide), List.forall_mem_cons.mpr ⟨snd_iload_n d15_28 rfl, List.forall_mem_cons.mpr ⟨snd_aload_n d15_29 rfl, List.forall_mem_cons.mpr ⟨snd_getR (by decide) (by decide) rfl wd478 d15_30, List.forall_mem_cons.mpr ⟨snd_iload d15_33, List.forall_mem_cons.mpr ⟨snd_aald d15_35, List.forall_mem_cons.mpr ⟨snd_iload_n d15_36 rfl, List.forall_mem_cons.mpr ⟨snd_callV (by decide) rfl cn58 ⟨by decide +kernel, by decide +kernel⟩ cm58 (List.forall_mem_cons.mpr ⟨wd1155, cw58⟩) d15_37, List.forall_mem_cons.mpr ⟨snd_iadd d15_40, List.forall_mem_cons.mpr ⟨snd_istore_n d15_41 rfl, List.forall_mem_cons.mpr ⟨snd_iinc d15_42 (by decide +kernel), List.forall_mem_cons.mpr ⟨snd_goto d15_45 (by decide), List.forall_mem_cons.mpr ⟨snd_iconst d15_48 (by decide +kernel), List.forall_mem_cons.mpr ⟨snd_istore d15_49, List.forall_mem_cons.mpr ⟨snd_iload d15_51, List.forall_mem_cons.mpr ⟨snd_aload_n d15_53 rfl, fun _ h => by cases h⟩⟩⟩⟩⟩⟩⟩⟩⟩⟩⟩⟩⟩⟩⟩⟩⟩⟩⟩⟩⟩⟩⟩⟩⟩⟩⟩⟩⟩⟩
theorem sc15_1 : ∀ q ∈ tc15_1, Snd xtb M15 q.1 q.2 := List.forall_mem_cons.mpr ⟨snd_getI (by decide) (by decide) rfl wd480 d15_54, List.forall_mem_cons.mpr ⟨snd_cmp_ge d15_57 (by decide), List.forall_mem_cons.mpr ⟨snd_iload_n d15_60 rfl, List.forall_mem_cons.mpr ⟨snd_aload_n d15_61 rfl, List.forall_mem_cons.mpr ⟨snd_iload d15_62, List.forall_mem_cons.mpr ⟨snd_iload_n d15_64 rfl, List.forall_mem_cons.mpr ⟨snd_callV (by decide) rfl cn14 ⟨by decide +kernel, by decide +kernel⟩ cm14 (List.forall_mem_cons.mpr ⟨wd1201, cw14⟩) d15_65, List.forall_mem_cons.mpr ⟨snd_isub d15_68, List.forall_mem_cons.mpr ⟨snd_istore_n d15_69 rfl, List.forall_mem_cons.mpr ⟨snd_iinc d15_70 (by decide +kernel), List.forall_mem_cons.mpr ⟨snd_goto d15_73 (by decide), List.forall_mem_cons.mpr ⟨snd_iload_n d15_76 rfl, List.forall_mem_cons.mpr ⟨snd_iret rfl d15_77, fun _ h => by cases h⟩⟩⟩⟩⟩⟩⟩⟩⟩⟩⟩⟩⟩
theorem d16_0 : decode (mC M16) 0 = .ok (.iconst 0, 1) := by decide +kernel
theorem d16_1 : decode (mC M16) 1 = .ok (.istore_n 2, 1) := by decide +kernel
theorem d16_2 : decode (mC M16) 2 = .ok (.iload_n 2, 1) := by decide +kernel
theorem d16_3 : decode (mC M16) 3 = .ok (.bipush 10, 2) := by decide +kernel
theorem d16_5 : decode (mC M16) 5 = .ok (.if_icmp .ge 29, 3) := by decide +kernel
theorem d16_8 : decode (mC M16) 8 = .ok (.aload_n 0, 1) := by decide +kernel
theorem d16_9 : decode (mC M16) 9 = .ok (.getfield 21, 3) := by decide +kernel
theorem d16_12 : decode (mC M16) 12 = .ok (.aload_n 0, 1) := by decide +kernel
theorem d16_13 : decode (mC M16) 13 = .ok (.getfield 39, 3) := by decide +kernel
theorem d16_16 : decode (mC M16) 16 = .ok (.bipush 10, 2) := by decide +kernel
theorem d16_18 : decode (mC M16) 18 = .ok (.imul, 1) := by decide +kernel
theorem d16_19 : decode (mC M16) 19 = .ok (.iload_n 2, 1) := by decide +kernel
theorem d16_20 : decode (mC M16) 20 = .ok (.iadd, 1) := by decide +kernel
theorem d16_21 : decode (mC M16) 21 = .ok (.aload_n 0, 1) := by decide +kernel
theorem d16_22 : decode (mC M16) 22 = .ok (.iload_n 1, 1) := by decide +kernel
theorem d16_23 : decode (mC M16) 23 = .ok (.iload_n 2, 1) := by decide +kernel
theorem d16_24 : decode (mC M16) 24 = .ok (.invokevirtual 76, 3) := by decide +kernel
theorem d16_27 : decode (mC M16) 27 = .ok (.iastore, 1) := by decide +kernel
theorem d16_28 : decode (mC M16) 28 = .ok (.iinc 2 1, 3) := by decide +kernel
theorem d16_31 : decode (mC M16) 31 = .ok (.goto (-29), 3) := by decide +kernel
theorem d16_34 : decode (mC M16) 34 = .ok (.iconst 0, 1) := by decide +kernel
theorem d16_35 : decode (mC M16) 35 = .ok (.istore_n 2, 1) := by decide +kernel
theorem d16_36 : decode (mC M16) 36 = .ok (.iload_n 2, 1) := by decide +kernel
theorem d16_37 : decode (mC M16) 37 = .ok (.aload_n 0, 1) := by decide +kernel
theorem d16_38 : decode (mC M16) 38 = .ok (.getfield 35, 3) := by decide +kernel
theorem d16_41 : decode (mC M16) 41 = .ok (.if_icmp .ge 47, 3) := by decide +kernel
theorem d16_44 : decode (mC M16) 44 = .ok (.aload_n 0, 1) := by decide +kernel
theorem d16_45 : decode (mC M16) 45 = .ok (.getfield 11, 3) := by decide +kernel
theorem d16_48 : decode (mC M16) 48 = .ok (.iload_n 2, 1) := by decide +kernel
theorem d16_49 : decode (mC M16) 49 = .ok (.aaload, 1) := by decide +kernel
theorem d16_50 : decode (mC M16) 50 = .ok (.getfield 62, 3) := by decide +kernel
theorem d16_53 : decode (mC M16) 53 = .ok (.ifCond .ge 29, 3) := by decide +kernel
theorem d16_56 : decode (mC M16) 56 = .ok (.aload_n 0, 1) := by decide +kernel
theorem d16_57 : decode (mC M16) 57 = .ok (.getfield 11, 3) := by decide +kernel
theorem d16_60 : decode (mC M16) 60 = .ok (.iload_n 2, 1) := by decide +kernel
theorem d16_61 : decode (mC M16) 61 = .ok (.aaload, 1) := by decide +kernel
theorem d16_62 : decode (mC M16) 62 = .ok (.getfield 69, 3) := by decide +kernel
theorem d16_65 : decode (mC M16) 65 = .ok (.iload_n 1, 1) := by decide +kernel
theorem d16_66 : decode (mC M16) 66 = .ok (.if_icmp .gt 16, 3) := by decide +kernel
theorem d16_69 : decode (mC M16) 69 = .ok (.aload_n 0, 1) := by decide +kernel
theorem d16_70 : decode (mC M16) 70 = .ok (.getfield 11, 3) := by decide +kernel
theorem d16_73 : decode (mC M16) 73 = .ok (.iload_n 2, 1) := by decide +kernel
theorem d16_74 : decode (mC M16) 74 = .ok (.aaload, 1) := by decide +kernel
theorem d16_75 : decode (mC M16) 75 = .ok (.aload_n 0, 1) := by decide +kernel
theorem d16_76 : decode (mC M16) 76 = .ok (.getfield 39, 3) := by decide +kernel
theorem d16_79 : decode (mC M16) 79 = .ok (.putfield 62, 3) := by decide +kernel
theorem d16_82 : decode (mC M16) 82 = .ok (.iinc 2 1, 3) := by decide +kernel
theorem d16_85 : decode (mC M16) 85 = .ok (.goto (-49), 3) := by decide +kernel
theorem d16_88 : decode (mC M16) 88 = .ok (.aload_n 0, 1) := by decide +kernel
theorem d16_89 : decode (mC M16) 89 = .ok (.getfield 17, 3) := by decide +kernel
theorem d16_92 : decode (mC M16) 92 = .ok (.aload_n 0, 1) := by decide +kernel
theorem d16_93 : decode (mC M16) 93 = .ok (.getfield 39, 3) := by decide +kernel
theorem d16_96 : decode (mC M16) 96 = .ok (.iload_n 1, 1) := by decide +kernel
theorem d16_97 : decode (mC M16) 97 = .ok (.iastore, 1) := by decide +kernel
theorem d16_98 : decode (mC M16) 98 = .ok (.aload_n 0, 1) := by decide +kernel
theorem d16_99 : decode (mC M16) 99 = .ok (.dup, 1) := by decide +kernel
theorem d16_100 : decode (mC M16) 100 = .ok (.getfield 39, 3) := by decide +kernel
theorem d16_103 : decode (mC M16) 103 = .ok (.iconst 1, 1) := by decide +kernel
theorem d16_104 : decode (mC M16) 104 = .ok (.iadd, 1) := by decide +kernel
theorem d16_105 : decode (mC M16) 105 = .ok (.putfield 39, 3) := by decide +kernel
theorem d16_108 : decode (mC M16) 108 = .ok (.return_, 1) := by decide +kernel
theorem sc16_0 : ∀ q ∈ tc16_0, Snd xtb M16 q.1 q.2 := List.forall_mem_cons.mpr ⟨snd_iconst d16_0 (by decide +kernel), List.forall_mem_cons.mpr ⟨snd_istore_n d16_1 rfl, List.forall_mem_cons.mpr ⟨snd_iload_n d16_2 rfl, List.forall_mem_cons.mpr ⟨snd_bipush d16_3 (by decide +kernel), List.forall_mem_cons.mpr ⟨snd_cmp_ge d16_5 (by decide), List.forall_mem_cons.mpr ⟨snd_aload_n d16_8 rfl, List.forall_mem_cons.mpr ⟨snd_getR (by decide) (by decide) rfl wd484 d16_9, List.forall_mem_cons.mpr ⟨snd_aload_n d16_12 rfl, List.forall_mem_cons.mpr ⟨snd_getI (by decide) (by decide) rfl wd480 d16_13, List.forall_mem_cons.mpr ⟨snd_bipush d16_16 (by decide +kernel), List.forall_mem_cons.mpr ⟨snd_imul d16_18, List.forall_mem_cons.mpr ⟨snd_iload_n d16_19 rfl, List.forall_mem_cons.mpr ⟨snd_iadd d16_20, List.forall_mem_cons.mpr ⟨snd_aload_n d16_21 rfl, List.forall_mem_cons.mpr ⟨snd_iload_n d16_22 rfl, List.forall_mem_cons.mpr ⟨snd_iload_n d16_23 rfl, List.forall_mem_cons.mpr ⟨snd_callV (by decide) rfl cn15 ⟨by decide +kernel, by decide +kernel⟩ cm15 (List.forall_mem_cons.mpr ⟨wd1222, cw15⟩) d16_24, List.forall_mem_cons.mpr ⟨snd_iast d16_27, List.forall_mem_cons.mpr ⟨snd_iinc d16_28 (by decide +kernel), List.forall_mem_cons.mpr ⟨snd_goto d16_31 (by decide), List.forall_mem_cons.mpr ⟨snd_iconst d16_34 (by decide +kernel), List.forall_mem_cons.mpr ⟨snd_istore_n d16_35 rfl, List.forall_mem_cons.mpr ⟨snd_iload_n d16_36 rfl, List.forall_mem_cons.mpr ⟨snd_aload_n d16_37 rfl, List.forall_mem_cons.mpr ⟨snd_getI (by decide) (by decide) rfl wd476 d16_38, List.forall_mem_cons.mpr ⟨snd_cmp_ge d16_41 (by decide), List.forall_mem_cons.mpr ⟨snd_aload_n d16_44 rfl, List.forall_mem_cons.mpr ⟨snd_getR (by decide) (by decide) rfl wd478 d16_45, List.forall_mem_cons.mpr ⟨snd_iload_n d16_48 rfl, List.forall_mem_cons.mpr ⟨snd_aald d16_49, fun _ h => by cases h⟩⟩⟩⟩⟩⟩⟩⟩⟩⟩⟩⟩⟩⟩⟩⟩⟩⟩⟩⟩⟩⟩⟩⟩⟩⟩⟩⟩⟩⟩
theorem sc16_1 : ∀ q ∈ tc16_1, Snd xtb M16 q.1 q.2 := List.forall_mem_cons.mpr ⟨snd_getI (by decide) (by decide) rfl wd439 d16_50, List.forall_mem_cons.mpr ⟨snd_if_ge d16_53 (by decide), List.forall_mem_cons.mpr ⟨snd_aload_n d16_56 rfl, List.forall_mem_cons.mpr ⟨snd_getR (by decide) (by decide) rfl wd478 d16_57, List.forall_mem_cons.mpr ⟨snd_iload_n d16_60 rfl, List.forall_mem_cons.mpr ⟨snd_aald d16_61, List.forall_mem_cons.mpr ⟨snd_getI (by decide) (by decide) rfl wd419 d16_62, List.forall_mem_cons.mpr ⟨snd_iload_n d16_65 rfl, List.forall_mem_cons.mpr ⟨snd_cmp_gt d16_66 (by decide), List.forall_mem_cons.mpr ⟨snd_aload_n d16_69 rfl, List.forall_mem_cons.mpr ⟨snd_getR (by decide) (by decide) rfl wd478 d16_70, List.forall_mem_cons.mpr ⟨snd_iload_n d16_73 rfl, List.forall_mem_cons.mpr ⟨snd_aald d16_74, List.forall_mem_cons.mpr ⟨snd_aload_n d16_75 rfl, List.forall_mem_cons.mpr ⟨snd_getI (by decide) (by decide) rfl wd480 d16_76, List.forall_mem_cons.mpr ⟨snd_putI (by decide) (by decide) rfl rfl wd439 d16_79, List.forall_mem_cons.mpr ⟨snd_iinc d16_82 (by decide +kernel), List.forall_mem_cons.mpr ⟨snd_goto d16_85 (by decide), List.forall_mem_cons.mpr ⟨snd_aload_n d16_88 rfl, List.forall_mem_cons.mpr ⟨snd_getR (by decide) (by decide) rfl wd482 d16_89, List.forall_mem_cons.mpr ⟨snd_aload_n d16_92 rfl, List.forall_mem_cons.mpr ⟨snd_getI (by decide) (by decide) rfl wd480 d16_93, List.forall_mem_cons.mpr ⟨snd_iload_n d16_96 rfl, List.forall_mem_cons.mpr ⟨snd_iast d16_97, List.forall_mem_cons.mpr ⟨snd_aload_n d16_98 rfl, List.forall_mem_cons.mpr ⟨snd_dup d16_99, List.forall_mem_cons.mpr ⟨snd_getI (by decide) (by decide) rfl wd480 d16_100, List.forall_mem_cons.mpr ⟨snd_iconst d16_103 (by decide +kernel), List.forall_mem_cons.mpr ⟨snd_iadd d16_104, List.forall_mem_cons.mpr ⟨snd_putI (by decide) (by decide) rfl rfl wd480 d16_105, fun _ h => by cases h⟩⟩⟩⟩⟩⟩⟩⟩⟩⟩⟩⟩⟩⟩⟩⟩⟩⟩⟩⟩⟩⟩⟩⟩⟩⟩⟩⟩⟩⟩
theorem sc16_2 : ∀ q ∈ tc16_2, Snd xtb M16 q.1 q.2 := List.forall_mem_cons.mpr ⟨snd_vret rfl d16_108, fun _ h => by cases h⟩
theorem d17_0 : decode (mC M17) 0 = .ok (.aload_n 0, 1) := by decide +kernel
theorem d17_1 : decode (mC M17) 1 = .ok (.dup, 1) := by decide +kernel
theorem d17_2 : decode (mC M17) 2 = .ok (.getfield 39, 3) := by decide +kernel
theorem d17_5 : decode (mC M17) 5 = .ok (.iconst 1, 1) := by decide +kernel
theorem d17_6 : decode (mC M17) 6 = .ok (.isub, 1) := by decide +kernel
theorem d17_7 : decode (mC M17) 7 = .ok (.putfield 39, 3) := by decide +kernel
theorem d17_10 : decode (mC M17) 10 = .ok (.iconst 0, 1) := by decide +kernel
theorem d17_11 : decode (mC M17) 11 = .ok (.istore_n 1, 1) := by decide +kernel
theorem d17_12 : decode (mC M17) 12 = .ok (.iload_n 1, 1) := by decide +kernel
theorem d17_13 : decode (mC M17) 13 = .ok (.aload_n 0, 1) := by decide +kernel
theorem d17_14 : decode (mC M17) 14 = .ok (.getfield 35, 3) := by decide +kernel
theorem d17_17 : decode (mC M17) 17 = .ok (.if_icmp .ge 35, 3) := by decide +kernel
theorem d17_20 : decode (mC M17) 20 = .ok (.aload_n 0, 1) := by decide +kernel
theorem d17_21 : decode (mC M17) 21 = .ok (.getfield 11, 3) := by decide +kernel
theorem d17_24 : decode (mC M17) 24 = .ok (.iload_n 1, 1) := by decide +kernel
theorem d17_25 : decode (mC M17) 25 = .ok (.aaload, 1) := by decide +kernel
theorem d17_26 : decode (mC M17) 26 = .ok (.getfield 62, 3) := by decide +kernel
theorem d17_29 : decode (mC M17) 29 = .ok (.aload_n 0, 1) := by decide +kernel
theorem d17_30 : decode (mC M17) 30 = .ok (.getfield 39, 3) := by decide +kernel
theorem d17_33 : decode (mC M17) 33 = .ok (.if_icmp .ne 13, 3) := by decide +kernel
theorem d17_36 : decode (mC M17) 36 = .ok (.aload_n 0, 1) := by decide +kernel
theorem d17_37 : decode (mC M17) 37 = .ok (.getfield 11, 3) := by decide +kernel
theorem d17_40 : decode (mC M17) 40 = .ok (.iload_n 1, 1) := by decide +kernel
theorem d17_41 : decode (mC M17) 41 = .ok (.aaload, 1) := by decide +kernel
theorem d17_42 : decode (mC M17) 42 = .ok (.iconst (-1), 1) := by decide +kernel
theorem d17_43 : decode (mC M17) 43 = .ok (.putfield 62, 3) := by decide +kernel
theorem d17_46 : decode (mC M17) 46 = .ok (.iinc 1 1, 3) := by decide +kernel
theorem d17_49 : decode (mC M17) 49 = .ok (.goto (-37), 3) := by decide +kernel
theorem d17_52 : decode (mC M17) 52 = .ok (.return_, 1) := by decide +kernel
theorem sc17_0 : ∀ q ∈ tc17_0, Snd xtb M17 q.1 q.2 := List.forall_mem_cons.mpr ⟨snd_aload_n d17_0 rfl, List.forall_mem_cons.mpr ⟨snd_dup d17_1, List.forall_mem_cons.mpr ⟨snd_getI (by decide) (by decide) rfl wd480 d17_2, List.forall_mem_cons.mpr ⟨snd_iconst d17_5 (by decide +kernel), List.forall_mem_cons.mpr ⟨snd_isub d17_6, List.forall_mem_cons.mpr ⟨snd_putI (by decide) (by decide) rfl rfl wd480 d17_7, List.forall_mem_cons.mpr ⟨snd_iconst d17_10 (by decide +kernel), List.forall_mem_cons.mpr ⟨snd_istore_n d17_11 rfl, List.forall_mem_cons.mpr ⟨snd_iload_n d17_12 rfl, List.forall_mem_cons.mpr ⟨snd_aload_n d17_13 rfl, List.forall_mem_cons.mpr ⟨snd_getI (by decide) (by decide) rfl wd476 d17_14, List.forall_mem_cons.mpr ⟨snd_cmp_ge d17_17 (by decide), List.forall_mem_cons.mpr ⟨snd_aload_n d17_20 rfl, List.forall_mem_cons.mpr ⟨snd_getR (by decide) (by decide) rfl wd478 d17_21, List.forall_mem_cons.mpr ⟨snd_iload_n d17_24 rfl, List.forall_mem_cons.mpr ⟨snd_aald d17_25, List.forall_mem_cons.mpr ⟨snd_getI (by decide) (by decide) rfl wd439 d17_26, List.forall_mem_cons.mpr ⟨snd_aload_n d17_29 rfl, List.forall_mem_cons.mpr ⟨snd_getI (by decide) (by decide) rfl wd480 d17_30, List.forall_mem_cons.mpr ⟨snd_cmp_ne d17_33 (by decide), List.forall_mem_cons.mpr ⟨snd_aload_n d17_36 rfl, List.forall_mem_cons.mpr ⟨snd_getR (by decide) (by decide) rfl wd478 d17_37, List.forall_mem_cons.mpr ⟨snd_iload_n d17_40 rfl, List.forall_mem_cons.mpr ⟨snd_aald d17_41, List.forall_mem_cons.mpr ⟨snd_iconst d17_42 (by decide +kernel), List.forall_mem_cons.mpr ⟨snd_putI (by decide) (by decide) rfl rfl wd439 d17_43, List.forall_mem_cons.mpr ⟨snd_iinc d17_46 (by decide +kernel), List.forall_mem_cons.mpr ⟨snd_goto d17_49 (by decide), List.forall_mem_cons.mpr ⟨snd_vret rfl d17_52, fun _ h => by cases h⟩⟩⟩⟩⟩⟩⟩⟩⟩⟩⟩⟩⟩⟩⟩⟩⟩⟩⟩⟩⟩⟩⟩⟩⟩⟩⟩⟩⟩
theorem d18_0 : decode (mC M18) 0 = .ok (.aload_n 0, 1) := by decide +kernel
theorem d18_1 : decode (mC M18) 1 = .ok (.invokespecial 3, 3) := by decide +kernel
theorem d18_4 : decode (mC M18) 4 = .ok (.aload_n 0, 1) := by decide +kernel
theorem d18_5 : decode (mC M18) 5 = .ok (.bipush 16, 2) := by decide +kernel
theorem d18_7 : decode (mC M18) 7 = .ok (.newarray .int, 2) := by decide +kernel
theorem d18_9 : decode (mC M18) 9 = .ok (.putfield 9, 3) := by decide +kernel
theorem d18_12 : decode (mC M18) 12 = .ok (.aload_n 0, 1) := by decide +kernel
theorem d18_13 : decode (mC M18) 13 = .ok (.bipush 16, 2) := by decide +kernel
theorem d18_15 : decode (mC M18) 15 = .ok (.newarray .int, 2) := by decide +kernel
theorem d18_17 : decode (mC M18) 17 = .ok (.putfield 15, 3) := by decide +kernel
theorem d18_20 : decode (mC M18) 20 = .ok (.aload_n 0, 1) := by decide +kernel
theorem d18_21 : decode (mC M18) 21 = .ok (.bipush 16, 2) := by decide +kernel
theorem d18_23 : decode (mC M18) 23 = .ok (.newarray .int, 2) := by decide +kernel
theorem d18_25 : decode (mC M18) 25 = .ok (.putfield 18, 3) := by decide +kernel
theorem d18_28 : decode (mC M18) 28 = .ok (.aload_n 0, 1) := by decide +kernel
theorem d18_29 : decode (mC M18) 29 = .ok (.bipush 96, 2) := by decide +kernel
theorem d18_31 : decode (mC M18) 31 = .ok (.newarray .int, 2) := by decide +kernel
theorem d18_33 : decode (mC M18) 33 = .ok (.putfield 21, 3) := by decide +kernel
theorem d18_36 : decode (mC M18) 36 = .ok (.aload_n 0, 1) := by decide +kernel
theorem d18_37 : decode (mC M18) 37 = .ok (.bipush 96, 2) := by decide +kernel
theorem d18_39 : decode (mC M18) 39 = .ok (.newarray .int, 2) := by decide +kernel
theorem d18_41 : decode (mC M18) 41 = .ok (.putfield 24, 3) := by decide +kernel
theorem d18_44 : decode (mC M18) 44 = .ok (.return_, 1) := by decide +kernel
theorem sc18_0 : ∀ q ∈ tc18_0, Snd xtb M18 q.1 q.2 := List.forall_mem_cons.mpr ⟨snd_aload_n d18_0 rfl, List.forall_mem_cons.mpr ⟨snd_obj (by decide) (by decide) (List.forall_mem_cons.mpr ⟨wd201, List.forall_mem_cons.mpr ⟨wd139, List.forall_mem_cons.mpr ⟨wd140, fun _ h => by cases h⟩⟩⟩) d18_1, List.forall_mem_cons.mpr ⟨snd_aload_n d18_4 rfl, List.forall_mem_cons.mpr ⟨snd_bipush d18_5 (by decide +kernel), List.forall_mem_cons.mpr ⟨snd_newa (ty := .int) (k := 1) rfl (by decide +kernel) wd229 d18_7, List.forall_mem_cons.mpr ⟨snd_putRF (by decide) (by decide) rfl rfl rfl rfl wd207 d18_9, List.forall_mem_cons.mpr ⟨snd_aload_n d18_12 rfl, List.forall_mem_cons.mpr ⟨snd_bipush d18_13 (by decide +kernel), List.forall_mem_cons.mpr ⟨snd_newa (ty := .int) (k := 1) rfl (by decide +kernel) wd229 d18_15, List.forall_mem_cons.mpr ⟨snd_putRF (by decide) (by decide) rfl rfl rfl rfl wd208 d18_17, List.forall_mem_cons.mpr ⟨snd_aload_n d18_20 rfl, List.forall_mem_cons.mpr ⟨snd_bipush d18_21 (by decide +kernel), List.forall_mem_cons.mpr ⟨snd_newa (ty := .int) (k := 1) rfl (by decide +kernel) wd229 d18_23, List.forall_mem_cons.mpr ⟨snd_putRF (by decide) (by decide) rfl rfl rfl rfl wd209 d18_25, List.forall_mem_cons.mpr ⟨snd_aload_n d18_28 rfl, List.forall_mem_cons.mpr ⟨snd_bipush d18_29 (by decide +kernel), List.forall_mem_cons.mpr ⟨snd_newa (ty := .int) (k := 1) rfl (by decide +kernel) wd229 d18_31, List.forall_mem_cons.mpr ⟨snd_putRF (by decide) (by decide) rfl rfl rfl rfl wd211 d18_33, List.forall_mem_cons.mpr ⟨snd_aload_n d18_36 rfl, List.forall_mem_cons.mpr ⟨snd_bipush d18_37 (by decide +kernel), List.forall_mem_cons.mpr ⟨snd_newa (ty := .int) (k := 1) rfl (by decide +kernel) wd229 d18_39, List.forall_mem_cons.mpr ⟨snd_putRF (by decide) (by decide) rfl rfl rfl rfl wd213 d18_41, List.forall_mem_cons.mpr ⟨snd_vret rfl d18_44, fun _ h => by cases h⟩⟩⟩⟩⟩⟩⟩⟩⟩⟩⟩⟩⟩⟩⟩⟩⟩⟩⟩⟩⟩⟩⟩
theorem d19_0 : decode (mC M19) 0 = .ok (.aload_n 0, 1) := by decide +kernel
theorem d19_1 : decode (mC M19) 1 = .ok (.getfield 27, 3) := by decide +kernel
theorem d19_4 : decode (mC M19) 4 = .ok (.iconst 1, 1) := by decide +kernel
theorem d19_5 : decode (mC M19) 5 = .ok (.isub, 1) := by decide +kernel
theorem d19_6 : decode (mC M19) 6 = .ok (.istore_n 3, 1) := by decide +kernel
theorem d19_7 : decode (mC M19) 7 = .ok (.iload_n 3, 1) := by decide +kernel
theorem d19_8 : decode (mC M19) 8 = .ok (.ifCond .lt 31, 3) := by decide +kernel
theorem d19_11 : decode (mC M19) 11 = .ok (.aload_n 0, 1) := by decide +kernel
theorem d19_12 : decode (mC M19) 12 = .ok (.getfield 9, 3) := by decide +kernel
theorem d19_15 : decode (mC M19) 15 = .ok (.iload_n 3, 1) := by decide +kernel
theorem d19_16 : decode (mC M19) 16 = .ok (.iaload, 1) := by decide +kernel
theorem d19_17 : decode (mC M19) 17 = .ok (.iload_n 1, 1) := by decide +kernel
theorem d19_18 : decode (mC M19) 18 = .ok (.if_icmp .ne 15, 3) := by decide +kernel
theorem d19_21 : decode (mC M19) 21 = .ok (.aload_n 0, 1) := by decide +kernel
theorem d19_22 : decode (mC M19) 22 = .ok (.getfield 15, 3) := by decide +kernel
theorem d19_25 : decode (mC M19) 25 = .ok (.iload_n 3, 1) := by decide +kernel
theorem d19_26 : decode (mC M19) 26 = .ok (.iaload, 1) := by decide +kernel
theorem d19_27 : decode (mC M19) 27 = .ok (.iload_n 2, 1) := by decide +kernel
theorem d19_28 : decode (mC M19) 28 = .ok (.if_icmp .gt 5, 3) := by decide +kernel
theorem d19_31 : decode (mC M19) 31 = .ok (.iload_n 3, 1) := by decide +kernel
theorem d19_32 : decode (mC M19) 32 = .ok (.ireturn, 1) := by decide +kernel
theorem d19_33 : decode (mC M19) 33 = .ok (.iinc 3 (-1), 3) := by decide +kernel
theorem d19_36 : decode (mC M19) 36 = .ok (.goto (-29), 3) := by decide +kernel
theorem d19_39 : decode (mC M19) 39 = .ok (.iconst (-1), 1) := by decide +kernel
theorem d19_40 : decode (mC M19) 40 = .ok (.ireturn, 1) := by decide +kernel
theorem sc19_0 : ∀ q ∈ tc19_0, Snd xtb M19 q.1 q.2 := List.forall_mem_cons.mpr ⟨snd_aload_n d19_0 rfl, List.forall_mem_cons.mpr ⟨snd_getI (by decide) (by decide) rfl wd202 d19_1, List.forall_mem_cons.mpr ⟨snd_iconst d19_4 (by decide +kernel), List.forall_mem_cons.mpr ⟨snd_isub d19_5, List.forall_mem_cons.mpr ⟨snd_istore_n d19_6 rfl, List.forall_mem_cons.mpr ⟨snd_iload_n d19_7 rfl, List.forall_mem_cons.mpr ⟨snd_if_lt d19_8 (by decide), List.forall_mem_cons.mpr ⟨snd_aload_n d19_11 rfl, List.forall_mem_cons.mpr ⟨snd_getR (by decide) (by decide) rfl wd207 d19_12, List.forall_mem_cons.mpr ⟨snd_iload_n d19_15 rfl, List.forall_mem_cons.mpr ⟨snd_iald d19_16, List.forall_mem_cons.mpr ⟨snd_iload_n d19_17 rfl, List.forall_mem_cons.mpr ⟨snd_cmp_ne d19_18 (by decide), List.forall_mem_cons.mpr ⟨snd_aload_n d19_21 rfl, List.forall_mem_cons.mpr ⟨snd_getR (by decide) (by decide) rfl wd208 d19_22, List.forall_mem_cons.mpr ⟨snd_iload_n d19_25 rfl, List.forall_mem_cons.mpr ⟨snd_iald d19_26, List.forall_mem_cons.mpr ⟨snd_iload_n d19_27 rfl, List.forall_mem_cons.mpr ⟨snd_cmp_gt d19_28 (by decide), List.forall_mem_cons.mpr ⟨snd_iload_n d19_31 rfl, List.forall_mem_cons.mpr ⟨snd_iret rfl d19_32, List.forall_mem_cons.mpr ⟨snd_iinc d19_33 (by decide +kernel), List.forall_mem_cons.mpr ⟨snd_goto d19_36 (by decide), List.forall_mem_cons.mpr ⟨snd_iconst d19_39 (by decide +kernel), List.forall_mem_cons.mpr ⟨snd_iret rfl d19_40, fun _ h => by cases h⟩⟩⟩⟩⟩⟩⟩⟩⟩⟩⟩⟩⟩⟩⟩⟩⟩⟩⟩⟩⟩⟩⟩⟩⟩
theorem d20_0 : decode (mC M20) 0 = .ok (.aload_n 0, 1) := by decide +kernel
theorem d20_1 : decode (mC M20) 1 = .ok (.iload_n 1, 1) := by decide +kernel
theorem d20_2 : decode (mC M20) 2 = .ok (.sipush 999, 3) := by decide +kernel
theorem d20_5 : decode (mC M20) 5 = .ok (.invokevirtual 31, 3) := by decide +kernel
theorem d20_8 : decode (mC M20) 8 = .ok (.istore_n 2, 1) := by decide +kernel
theorem d20_9 : decode (mC M20) 9 = .ok (.iload_n 2, 1) := by decide +kernel
theorem d20_10 : decode (mC M20) 10 = .ok (.ifCond .ge 7, 3) := by decide +kernel
theorem d20_13 : decode (mC M20) 13 = .ok (.iconst 0, 1) := by decide +kernel
theorem d20_14 : decode (mC M20) 14 = .ok (.goto 11, 3) := by decide +kernel
theorem d20_17 : decode (mC M20) 17 = .ok (.aload_n 0, 1) := by decide +kernel
theorem d20_18 : decode (mC M20) 18 = .ok (.getfield 15, 3) := by decide +kernel
theorem d20_21 : decode (mC M20) 21 = .ok (.iload_n 2, 1) := by decide +kernel
theorem d20_22 : decode (mC M20) 22 = .ok (.iaload, 1) := by decide +kernel
theorem d20_23 : decode (mC M20) 23 = .ok (.iconst 1, 1) := by decide +kernel
theorem d20_24 : decode (mC M20) 24 = .ok (.iadd, 1) := by decide +kernel
theorem d20_25 : decode (mC M20) 25 = .ok (.ireturn, 1) := by decide +kernel
theorem sc20_0 : ∀ q ∈ tc20_0, Snd xtb M20 q.1 q.2 := List.forall_mem_cons.mpr ⟨snd_aload_n d20_0 rfl, List.forall_mem_cons.mpr ⟨snd_iload_n d20_1 rfl, List.forall_mem_cons.mpr ⟨snd_sipush d20_2 (by decide +kernel), List.forall_mem_cons.mpr ⟨snd_callV (by decide) rfl cn19 ⟨by decide +kernel, by decide +kernel⟩ cm19 (List.forall_mem_cons.mpr ⟨wd748, cw19⟩) d20_5, List.forall_mem_cons.mpr ⟨snd_istore_n d20_8 rfl, List.forall_mem_cons.mpr ⟨snd_iload_n d20_9 rfl, List.forall_mem_cons.mpr ⟨snd_if_ge d20_10 (by decide), List.forall_mem_cons.mpr ⟨snd_iconst d20_13 (by decide +kernel), List.forall_mem_cons.mpr ⟨snd_goto d20_14 (by decide), List.forall_mem_cons.mpr ⟨snd_aload_n d20_17 rfl, List.forall_mem_cons.mpr ⟨snd_getR (by decide) (by decide) rfl wd208 d20_18, List.forall_mem_cons.mpr ⟨snd_iload_n d20_21 rfl, List.forall_mem_cons.mpr ⟨snd_iald d20_22, List.forall_mem_cons.mpr ⟨snd_iconst d20_23 (by decide +kernel), List.forall_mem_cons.mpr ⟨snd_iadd d20_24, List.forall_mem_cons.mpr ⟨snd_iret rfl d20_25, fun _ h => by cases h⟩⟩⟩⟩⟩⟩⟩⟩⟩⟩⟩⟩⟩⟩⟩⟩
theorem d21_0 : decode (mC M21) 0 = .ok (.iconst 0, 1) := by decide +kernel
theorem d21_1 : decode (mC M21) 1 = .ok (.istore_n 2, 1) := by decide +kernel
theorem d21_2 : decode (mC M21) 2 = .ok (.iconst 0, 1) := by decide +kernel
theorem d21_3 : decode (mC M21) 3 = .ok (.istore_n 3, 1) := by decide +kernel
theorem d21_4 : decode (mC M21) 4 = .ok (.iload_n 3, 1) := by decide +kernel
theorem d21_5 : decode (mC M21) 5 = .ok (.aload_n 0, 1) := by decide +kernel
theorem d21_6 : decode (mC M21) 6 = .ok (.getfield 27, 3) := by decide +kernel
theorem d21_9 : decode (mC M21) 9 = .ok (.if_icmp .ge 30, 3) := by decide +kernel
theorem d21_12 : decode (mC M21) 12 = .ok (.iload_n 2, 1) := by decide +kernel
theorem d21_13 : decode (mC M21) 13 = .ok (.aload_n 0, 1) := by decide +kernel
theorem d21_14 : decode (mC M21) 14 = .ok (.getfield 9, 3) := by decide +kernel
theorem d21_17 : decode (mC M21) 17 = .ok (.iload_n 3, 1) := by decide +kernel
theorem d21_18 : decode (mC M21) 18 = .ok (.iaload, 1) := by decide +kernel
theorem d21_19 : decode (mC M21) 19 = .ok (.iload_n 1, 1) := by decide +kernel
theorem d21_20 : decode (mC M21) 20 = .ok (.if_icmp .ne 7, 3) := by decide +kernel
theorem d21_23 : decode (mC M21) 23 = .ok (.iconst 1, 1) := by decide +kernel
theorem d21_24 : decode (mC M21) 24 = .ok (.goto 4, 3) := by decide +kernel
theorem d21_27 : decode (mC M21) 27 = .ok (.iconst 0, 1) := by decide +kernel
theorem d21_28 : decode (mC M21) 28 = .ok (.invokestatic 35, 3) := by decide +kernel
theorem d21_31 : decode (mC M21) 31 = .ok (.iadd, 1) := by decide +kernel
theorem d21_32 : decode (mC M21) 32 = .ok (.istore_n 2, 1) := by decide +kernel
theorem d21_33 : decode (mC M21) 33 = .ok (.iinc 3 1, 3) := by decide +kernel
theorem d21_36 : decode (mC M21) 36 = .ok (.goto (-32), 3) := by decide +kernel
theorem d21_39 : decode (mC M21) 39 = .ok (.iload_n 2, 1) := by decide +kernel
theorem d21_40 : decode (mC M21) 40 = .ok (.ireturn, 1) := by decide +kernel
theorem sc21_0 : ∀ q ∈ tc21_0, Snd xtb M21 q.1 q.2 := List.forall_mem_cons.mpr ⟨snd_iconst d21_0 (by decide +kernel), List.forall_mem_cons.mpr ⟨snd_istore_n d21_1 rfl, List.forall_mem_cons.mpr ⟨snd_iconst d21_2 (by decide +kernel), List.forall_mem_cons.mpr ⟨snd_istore_n d21_3 rfl, List.forall_mem_cons.mpr ⟨snd_iload_n d21_4 rfl, List.forall_mem_cons.mpr ⟨snd_aload_n d21_5 rfl, List.forall_mem_cons.mpr ⟨snd_getI (by decide) (by decide) rfl wd202 d21_6, List.forall_mem_cons.mpr ⟨snd_cmp_ge d21_9 (by decide), List.forall_mem_cons.mpr ⟨snd_iload_n d21_12 rfl, List.forall_mem_cons.mpr ⟨snd_aload_n d21_13 rfl, List.forall_mem_cons.mpr ⟨snd_getR (by decide) (by decide) rfl wd207 d21_14, List.forall_mem_cons.mpr ⟨snd_iload_n d21_17 rfl, List.forall_mem_cons.mpr ⟨snd_iald d21_18, List.forall_mem_cons.mpr ⟨snd_iload_n d21_19 rfl, List.forall_mem_cons.mpr ⟨snd_cmp_ne d21_20 (by decide), List.forall_mem_cons.mpr ⟨snd_iconst d21_23 (by decide +kernel), List.forall_mem_cons.mpr ⟨snd_goto d21_24 (by decide), List.forall_mem_cons.mpr ⟨snd_iconst d21_27 (by decide +kernel), List.forall_mem_cons.mpr ⟨snd_callSN (host := "SalePlaces") cn165 ⟨by decide +kernel, by decide +kernel⟩ cm165 cw165 (by decide +kernel) d21_28, List.forall_mem_cons.mpr ⟨snd_iadd d21_31, List.forall_mem_cons.mpr ⟨snd_istore_n d21_32 rfl, List.forall_mem_cons.mpr ⟨snd_iinc d21_33 (by decide +kernel), List.forall_mem_cons.mpr ⟨snd_goto d21_36 (by decide), List.forall_mem_cons.mpr ⟨snd_iload_n d21_39 rfl, List.forall_mem_cons.mpr ⟨snd_iret rfl d21_40, fun _ h => by cases h⟩⟩⟩⟩⟩⟩⟩⟩⟩⟩⟩⟩⟩⟩⟩⟩⟩⟩⟩⟩⟩⟩⟩⟩⟩
theorem d22_0 : decode (mC M22) 0 = .ok (.aload_n 0, 1) := by decide +kernel
theorem d22_1 : decode (mC M22) 1 = .ok (.iload_n 1, 1) := by decide +kernel
theorem d22_2 : decode (mC M22) 2 = .ok (.iload_n 2, 1) := by decide +kernel
theorem d22_3 : decode (mC M22) 3 = .ok (.invokevirtual 31, 3) := by decide +kernel
theorem d22_6 : decode (mC M22) 6 = .ok (.istore_n 3, 1) := by decide +kernel
theorem d22_7 : decode (mC M22) 7 = .ok (.iload_n 3, 1) := by decide +kernel
theorem d22_8 : decode (mC M22) 8 = .ok (.ifCond .ge 7, 3) := by decide +kernel
theorem d22_11 : decode (mC M22) 11 = .ok (.iconst 0, 1) := by decide +kernel
theorem d22_12 : decode (mC M22) 12 = .ok (.goto 9, 3) := by decide +kernel
theorem d22_15 : decode (mC M22) 15 = .ok (.aload_n 0, 1) := by decide +kernel
theorem d22_16 : decode (mC M22) 16 = .ok (.getfield 18, 3) := by decide +kernel
theorem d22_19 : decode (mC M22) 19 = .ok (.iload_n 3, 1) := by decide +kernel
theorem d22_20 : decode (mC M22) 20 = .ok (.iaload, 1) := by decide +kernel
theorem d22_21 : decode (mC M22) 21 = .ok (.ireturn, 1) := by decide +kernel
theorem sc22_0 : ∀ q ∈ tc22_0, Snd xtb M22 q.1 q.2 := List.forall_mem_cons.mpr ⟨snd_aload_n d22_0 rfl, List.forall_mem_cons.mpr ⟨snd_iload_n d22_1 rfl, List.forall_mem_cons.mpr ⟨snd_iload_n d22_2 rfl, List.forall_mem_cons.mpr ⟨snd_callV (by decide) rfl cn19 ⟨by decide +kernel, by decide +kernel⟩ cm19 (List.forall_mem_cons.mpr ⟨wd748, cw19⟩) d22_3, List.forall_mem_cons.mpr ⟨snd_istore_n d22_6 rfl, List.forall_mem_cons.mpr ⟨snd_iload_n d22_7 rfl, List.forall_mem_cons.mpr ⟨snd_if_ge d22_8 (by decide), List.forall_mem_cons.mpr ⟨snd_iconst d22_11 (by decide +kernel), List.forall_mem_cons.mpr ⟨snd_goto d22_12 (by decide), List.forall_mem_cons.mpr ⟨snd_aload_n d22_15 rfl, List.forall_mem_cons.mpr ⟨snd_getR (by decide) (by decide) rfl wd209 d22_16, List.forall_mem_cons.mpr ⟨snd_iload_n d22_19 rfl, List.forall_mem_cons.mpr ⟨snd_iald d22_20, List.forall_mem_cons.mpr ⟨snd_iret rfl d22_21, fun _ h => by cases h⟩⟩⟩⟩⟩⟩⟩⟩⟩⟩⟩⟩⟩⟩
theorem d23_0 : decode (mC M23) 0 = .ok (.iconst 0, 1) := by decide +kernel
theorem d23_1 : decode (mC M23) 1 = .ok (.istore_n 3, 1) := by decide +kernel
theorem d23_2 : decode (mC M23) 2 = .ok (.iload_n 3, 1) := by decide +kernel
theorem d23_3 : decode (mC M23) 3 = .ok (.aload_n 0, 1) := by decide +kernel
theorem d23_4 : decode (mC M23) 4 = .ok (.getfield 27, 3) := by decide +kernel
theorem d23_7 : decode (mC M23) 7 = .ok (.if_icmp .ge 36, 3) := by decide +kernel
theorem d23_10 : decode (mC M23) 10 = .ok (.aload_n 0, 1) := by decide +kernel
theorem d23_11 : decode (mC M23) 11 = .ok (.getfield 9, 3) := by decide +kernel
theorem d23_14 : decode (mC M23) 14 = .ok (.iload_n 3, 1) := by decide +kernel
theorem d23_15 : decode (mC M23) 15 = .ok (.iaload, 1) := by decide +kernel
theorem d23_16 : decode (mC M23) 16 = .ok (.iload_n 1, 1) := by decide +kernel
theorem d23_17 : decode (mC M23) 17 = .ok (.if_icmp .ne 20, 3) := by decide +kernel
theorem d23_20 : decode (mC M23) 20 = .ok (.aload_n 0, 1) := by decide +kernel
theorem d23_21 : decode (mC M23) 21 = .ok (.getfield 15, 3) := by decide +kernel
theorem d23_24 : decode (mC M23) 24 = .ok (.iload_n 3, 1) := by decide +kernel
theorem d23_25 : decode (mC M23) 25 = .ok (.iaload, 1) := by decide +kernel
theorem d23_26 : decode (mC M23) 26 = .ok (.iload_n 2, 1) := by decide +kernel
theorem d23_27 : decode (mC M23) 27 = .ok (.if_icmp .le 10, 3) := by decide +kernel
theorem d23_30 : decode (mC M23) 30 = .ok (.aload_n 0, 1) := by decide +kernel
theorem d23_31 : decode (mC M23) 31 = .ok (.getfield 15, 3) := by decide +kernel
theorem d23_34 : decode (mC M23) 34 = .ok (.iload_n 3, 1) := by decide +kernel
theorem d23_35 : decode (mC M23) 35 = .ok (.iaload, 1) := by decide +kernel
theorem d23_36 : decode (mC M23) 36 = .ok (.ireturn, 1) := by decide +kernel
theorem d23_37 : decode (mC M23) 37 = .ok (.iinc 3 1, 3) := by decide +kernel
theorem d23_40 : decode (mC M23) 40 = .ok (.goto (-38), 3) := by decide +kernel
theorem d23_43 : decode (mC M23) 43 = .ok (.bipush (-2), 2) := by decide +kernel
theorem d23_45 : decode (mC M23) 45 = .ok (.ireturn, 1) := by decide +kernel
theorem sc23_0 : ∀ q ∈ tc23_0, Snd xtb M23 q.1 q.2 := List.forall_mem_cons.mpr ⟨snd_iconst d23_0 (by decide +kernel), List.forall_mem_cons.mpr ⟨snd_istore_n d23_1 rfl, List.forall_mem_cons.mpr ⟨snd_iload_n d23_2 rfl, List.forall_mem_cons.mpr ⟨snd_aload_n d23_3 rfl, List.forall_mem_cons.mpr ⟨snd_getI (by decide) (by decide) rfl wd202 d23_4, List.forall_mem_cons.mpr ⟨snd_cmp_ge d23_7 (by decide), List.forall_mem_cons.mpr ⟨snd_aload_n d23_10 rfl, List.forall_mem_cons.mpr ⟨snd_getR (by decide) (by decide) rfl wd207 d23_11, List.forall_mem_cons.mpr ⟨snd_iload_n d23_14 rfl, List.forall_mem_cons.mpr ⟨snd_iald d23_15, List.forall_mem_cons.mpr ⟨snd_iload_n d23_16 rfl, List.forall_mem_cons.mpr ⟨snd_cmp_ne d23_17 (by decide), List.forall_mem_cons.mpr ⟨snd_aload_n d23_20 rfl, List.forall_mem_cons.mpr ⟨snd_getR (by decide) (by decide) rfl wd208 d23_21, List.forall_mem_cons.mpr ⟨snd_iload_n d23_24 rfl, List.forall_mem_cons.mpr ⟨snd_iald d23_25, List.forall_mem_cons.mpr ⟨snd_iload_n d23_26 rfl, List.forall_mem_cons.mpr ⟨snd_cmp_le d23_27 (by decide), List.forall_mem_cons.mpr ⟨snd_aload_n d23_30 rfl, List.forall_mem_cons.mpr ⟨snd_getR (by decide) (by decide) rfl wd208 d23_31, List.forall_mem_cons.mpr ⟨snd_iload_n d23_34 rfl, List.forall_mem_cons.mpr ⟨snd_iald d23_35, List.forall_mem_cons.mpr ⟨snd_iret rfl d23_36, List.forall_mem_cons.mpr ⟨snd_iinc d23_37 (by decide +kernel), List.forall_mem_cons.mpr ⟨snd_goto d23_40 (by decide), List.forall_mem_cons.mpr ⟨snd_bipush d23_43 (by decide +kernel), List.forall_mem_cons.mpr ⟨snd_iret rfl d23_45, fun _ h => by cases h⟩⟩⟩⟩⟩⟩⟩⟩⟩⟩⟩⟩⟩⟩⟩⟩⟩⟩⟩⟩⟩⟩⟩⟩⟩⟩⟩
theorem d24_0 : decode (mC M24) 0 = .ok (.sipush 1000, 3) := by decide +kernel
theorem d24_3 : decode (mC M24) 3 = .ok (.istore_n 2, 1) := by decide +kernel
theorem d24_4 : decode (mC M24) 4 = .ok (.iconst 0, 1) := by decide +kernel
theorem d24_5 : decode (mC M24) 5 = .ok (.istore_n 3, 1) := by decide +kernel
theorem d24_6 : decode (mC M24) 6 = .ok (.iload_n 3, 1) := by decide +kernel
theorem d24_7 : decode (mC M24) 7 = .ok (.aload_n 0, 1) := by decide +kernel
theorem d24_8 : decode (mC M24) 8 = .ok (.getfield 27, 3) := by decide +kernel
theorem d24_11 : decode (mC M24) 11 = .ok (.if_icmp .ge 36, 3) := by decide +kernel
theorem d24_14 : decode (mC M24) 14 = .ok (.aload_n 0, 1) := by decide +kernel
theorem d24_15 : decode (mC M24) 15 = .ok (.getfield 15, 3) := by decide +kernel
theorem d24_18 : decode (mC M24) 18 = .ok (.iload_n 3, 1) := by decide +kernel
theorem d24_19 : decode (mC M24) 19 = .ok (.iaload, 1) := by decide +kernel
theorem d24_20 : decode (mC M24) 20 = .ok (.iload_n 1, 1) := by decide +kernel
theorem d24_21 : decode (mC M24) 21 = .ok (.if_icmp .le 20, 3) := by decide +kernel
theorem d24_24 : decode (mC M24) 24 = .ok (.aload_n 0, 1) := by decide +kernel
theorem d24_25 : decode (mC M24) 25 = .ok (.getfield 15, 3) := by decide +kernel
theorem d24_28 : decode (mC M24) 28 = .ok (.iload_n 3, 1) := by decide +kernel
theorem d24_29 : decode (mC M24) 29 = .ok (.iaload, 1) := by decide +kernel
theorem d24_30 : decode (mC M24) 30 = .ok (.iload_n 2, 1) := by decide +kernel
theorem d24_31 : decode (mC M24) 31 = .ok (.if_icmp .ge 10, 3) := by decide +kernel
theorem d24_34 : decode (mC M24) 34 = .ok (.aload_n 0, 1) := by decide +kernel
theorem d24_35 : decode (mC M24) 35 = .ok (.getfield 15, 3) := by decide +kernel
theorem d24_38 : decode (mC M24) 38 = .ok (.iload_n 3, 1) := by decide +kernel
theorem d24_39 : decode (mC M24) 39 = .ok (.iaload, 1) := by decide +kernel
theorem d24_40 : decode (mC M24) 40 = .ok (.istore_n 2, 1) := by decide +kernel
theorem d24_41 : decode (mC M24) 41 = .ok (.iinc 3 1, 3) := by decide +kernel
theorem d24_44 : decode (mC M24) 44 = .ok (.goto (-38), 3) := by decide +kernel
theorem d24_47 : decode (mC M24) 47 = .ok (.iload_n 2, 1) := by decide +kernel
theorem d24_48 : decode (mC M24) 48 = .ok (.ireturn, 1) := by decide +kernel
theorem sc24_0 : ∀ q ∈ tc24_0, Snd xtb M24 q.1 q.2 := List.forall_mem_cons.mpr ⟨snd_sipush d24_0 (by decide +kernel), List.forall_mem_cons.mpr ⟨snd_istore_n d24_3 rfl, List.forall_mem_cons.mpr ⟨snd_iconst d24_4 (by decide +kernel), List.forall_mem_cons.mpr ⟨snd_istore_n d24_5 rfl, List.forall_mem_cons.mpr ⟨snd_iload_n d24_6 rfl, List.forall_mem_cons.mpr ⟨snd_aload_n d24_7 rfl, List.forall_mem_cons.mpr ⟨snd_getI (by decide) (by decide) rfl wd202 d24_8, List.forall_mem_cons.mpr ⟨snd_cmp_ge d24_11 (by decide), List.forall_mem_cons.mpr ⟨snd_aload_n d24_14 rfl, List.forall_mem_cons.mpr ⟨snd_getR (by decide) (by decide) rfl wd208 d24_15, List.forall_mem_cons.mpr ⟨snd_iload_n d24_18 rfl, List.forall_mem_cons.mpr ⟨snd_iald d24_19, List.forall_mem_cons.mpr ⟨snd_iload_n d24_20 rfl, List.forall_mem_cons.mpr ⟨snd_cmp_le d24_21 (by decide), List.forall_mem_cons.mpr ⟨snd_aload_n d24_24 rfl, List.forall_mem_cons.mpr ⟨snd_getR (by decide) (by decide) rfl wd208 d24_25, List.forall_mem_cons.mpr ⟨snd_iload_n d24_28 rfl, List.forall_mem_cons.mpr ⟨snd_iald d24_29, List.forall_mem_cons.mpr ⟨snd_iload_n d24_30 rfl, List.forall_mem_cons.mpr ⟨snd_cmp_ge d24_31 (by decide), List.forall_mem_cons.mpr ⟨snd_aload_n d24_34 rfl, List.forall_mem_cons.mpr ⟨snd_getR (by decide) (by decide) rfl wd208 d24_35, List.forall_mem_cons.mpr ⟨snd_iload_n d24_38 rfl, List.forall_mem_cons.mpr ⟨snd_iald d24_39, List.forall_mem_cons.mpr ⟨snd_istore_n d24_40 rfl, List.forall_mem_cons.mpr ⟨snd_iinc d24_41 (by decide +kernel), List.forall_mem_cons.mpr ⟨snd_goto d24_44 (by decide), List.forall_mem_cons.mpr ⟨snd_iload_n d24_47 rfl, List.forall_mem_cons.mpr ⟨snd_iret rfl d24_48, fun _ h => by cases h⟩⟩⟩⟩⟩⟩⟩⟩⟩⟩⟩⟩⟩⟩⟩⟩⟩⟩⟩⟩⟩⟩⟩⟩⟩⟩⟩⟩⟩
theorem d25_0 : decode (mC M25) 0 = .ok (.iload_n 1, 1) := by decide +kernel
theorem d25_1 : decode (mC M25) 1 = .ok (.bipush 6, 2) := by decide +kernel
theorem d25_3 : decode (mC M25) 3 = .ok (.imul, 1) := by decide +kernel
theorem d25_4 : decode (mC M25) 4 = .ok (.istore_n 2, 1) := by decide +kernel
theorem d25_5 : decode (mC M25) 5 = .ok (.iload_n 2, 1) := by decide +kernel
theorem d25_6 : decode (mC M25) 6 = .ok (.aload_n 0, 1) := by decide +kernel
theorem d25_7 : decode (mC M25) 7 = .ok (.getfield 18, 3) := by decide +kernel
theorem d25_10 : decode (mC M25) 10 = .ok (.iload_n 1, 1) := by decide +kernel
theorem d25_11 : decode (mC M25) 11 = .ok (.iaload, 1) := by decide +kernel
theorem d25_12 : decode (mC M25) 12 = .ok (.iadd, 1) := by decide +kernel
theorem d25_13 : decode (mC M25) 13 = .ok (.iconst 1, 1) := by decide +kernel
theorem d25_14 : decode (mC M25) 14 = .ok (.isub, 1) := by decide +kernel
theorem d25_15 : decode (mC M25) 15 = .ok (.istore_n 3, 1) := by decide +kernel
theorem d25_16 : decode (mC M25) 16 = .ok (.iconst 0, 1) := by decide +kernel
theorem d25_17 : decode (mC M25) 17 = .ok (.istore 4, 2) := by decide +kernel
theorem d25_19 : decode (mC M25) 19 = .ok (.iload_n 2, 1) := by decide +kernel
theorem d25_20 : decode (mC M25) 20 = .ok (.istore 5, 2) := by decide +kernel
theorem d25_22 : decode (mC M25) 22 = .ok (.iload 5, 2) := by decide +kernel
theorem d25_24 : decode (mC M25) 24 = .ok (.iload_n 2, 1) := by decide +kernel
theorem d25_25 : decode (mC M25) 25 = .ok (.aload_n 0, 1) := by decide +kernel
theorem d25_26 : decode (mC M25) 26 = .ok (.getfield 18, 3) := by decide +kernel
theorem d25_29 : decode (mC M25) 29 = .ok (.iload_n 1, 1) := by decide +kernel
theorem d25_30 : decode (mC M25) 30 = .ok (.iaload, 1) := by decide +kernel
theorem d25_31 : decode (mC M25) 31 = .ok (.iadd, 1) := by decide +kernel
theorem d25_32 : decode (mC M25) 32 = .ok (.if_icmp .ge 46, 3) := by decide +kernel
theorem d25_35 : decode (mC M25) 35 = .ok (.iload 4, 2) := by decide +kernel
theorem d25_37 : decode (mC M25) 37 = .ok (.aload_n 0, 1) := by decide +kernel
theorem d25_38 : decode (mC M25) 38 = .ok (.getfield 21, 3) := by decide +kernel
theorem d25_41 : decode (mC M25) 41 = .ok (.iload_n 3, 1) := by decide +kernel
theorem d25_42 : decode (mC M25) 42 = .ok (.iaload, 1) := by decide +kernel
theorem d25_43 : decode (mC M25) 43 = .ok (.aload_n 0, 1) := by decide +kernel
theorem d25_44 : decode (mC M25) 44 = .ok (.getfield 24, 3) := by decide +kernel
theorem d25_47 : decode (mC M25) 47 = .ok (.iload 5, 2) := by decide +kernel
theorem d25_49 : decode (mC M25) 49 = .ok (.iaload, 1) := by decide +kernel
theorem d25_50 : decode (mC M25) 50 = .ok (.imul, 1) := by decide +kernel
theorem d25_51 : decode (mC M25) 51 = .ok (.aload_n 0, 1) := by decide +kernel
theorem d25_52 : decode (mC M25) 52 = .ok (.getfield 21, 3) := by decide +kernel
theorem d25_55 : decode (mC M25) 55 = .ok (.iload 5, 2) := by decide +kernel
theorem d25_57 : decode (mC M25) 57 = .ok (.iaload, 1) := by decide +kernel
theorem d25_58 : decode (mC M25) 58 = .ok (.aload_n 0, 1) := by decide +kernel
theorem d25_59 : decode (mC M25) 59 = .ok (.getfield 24, 3) := by decide +kernel
theorem d25_62 : decode (mC M25) 62 = .ok (.iload_n 3, 1) := by decide +kernel
theorem d25_63 : decode (mC M25) 63 = .ok (.iaload, 1) := by decide +kernel
theorem d25_64 : decode (mC M25) 64 = .ok (.imul, 1) := by decide +kernel
theorem d25_65 : decode (mC M25) 65 = .ok (.isub, 1) := by decide +kernel
theorem d25_66 : decode (mC M25) 66 = .ok (.iadd, 1) := by decide +kernel
theorem d25_67 : decode (mC M25) 67 = .ok (.istore 4, 2) := by decide +kernel
theorem d25_69 : decode (mC M25) 69 = .ok (.iload 5, 2) := by decide +kernel
theorem d25_71 : decode (mC M25) 71 = .ok (.istore_n 3, 1) := by decide +kernel
theorem d25_72 : decode (mC M25) 72 = .ok (.iinc 5 1, 3) := by decide +kernel
theorem d25_75 : decode (mC M25) 75 = .ok (.goto (-53), 3) := by decide +kernel
theorem d25_78 : decode (mC M25) 78 = .ok (.iload 4, 2) := by decide +kernel
theorem d25_80 : decode (mC M25) 80 = .ok (.ireturn, 1) := by decide +kernel
theorem sc25_0 : ∀ q ∈ tc25_0, Snd xtb M25 q.1 q.2 := List.forall_mem_cons.mpr ⟨snd_iload_n d25_0 rfl, List.forall_mem_cons.mpr ⟨snd_bipush d25_1 (by decide +kernel), List.forall_mem_cons.mpr ⟨snd_imul d25_3, List.forall_mem_cons.mpr ⟨snd_istore_n d25_4 rfl, List.forall_mem_cons.mpr ⟨snd_iload_n d25_5 rfl, List.forall_mem_cons.mpr ⟨snd_aload_n d25_6 rfl, List.forall_mem_cons.mpr ⟨snd_getR (by decide) (by decide) rfl wd209 d25_7, List.forall_mem_cons.mpr ⟨snd_iload_n d25_10 rfl, List.forall_mem_cons.mpr ⟨snd_iald d25_11, List.forall_mem_cons.mpr ⟨snd_iadd d25_12, List.forall_mem_cons.mpr ⟨snd_iconst d25_13 (by decide +kernel), List.forall_mem_cons.mpr ⟨snd_isub d25_14, List.forall_mem_cons.mpr ⟨snd_istore_n d25_15 rfl, List.forall_mem_cons.mpr ⟨snd_iconst d25_16 (by decide +kernel), List.forall_mem_cons.mpr ⟨snd_istore d25_17, List.forall_mem_cons.mpr ⟨snd_iload_n d25_19 rfl, List.forall_mem_cons.mpr ⟨snd_istore d25_20, List.forall_mem_cons.mpr ⟨snd_iload d25_22, List.forall_mem_cons.mpr ⟨snd_iload_n d25_24 rfl, List.forall_mem_cons.mpr ⟨snd_aload_n d25_25 rfl, List.forall_mem_cons.mpr ⟨snd_getR (by decide) (by decide) rfl wd209 d25_26, List.forall_mem_cons.mpr ⟨snd_iload_n d25_29 rfl, List.forall_mem_cons.mpr ⟨snd_iald d25_30, List.forall_mem_cons.mpr ⟨snd_iadd d25_31, List.forall_mem_cons.mpr ⟨snd_cmp_ge d25_32 (by decide), List.forall_mem_cons.mpr ⟨snd_iload d25_35, List.forall_mem_cons.mpr ⟨snd_aload_n d25_37 rfl, List.forall_mem_cons.mpr ⟨snd_getR (by decide) (by decide) rfl wd211 d25_38, List.forall_mem_cons.mpr ⟨snd_iload_n d25_41 rfl, List.forall_mem_cons.mpr ⟨snd_iald d25_42, fun _ h => by cases h⟩⟩⟩⟩⟩⟩⟩⟩⟩⟩⟩⟩⟩⟩⟩⟩⟩⟩⟩⟩⟩⟩⟩⟩⟩⟩⟩⟩⟩⟩
theorem sc25_1 : ∀ q ∈ tc25_1, Snd xtb M25 q.1 q.2 := List.forall_mem_cons.mpr ⟨snd_aload_n d25_43 rfl, List.forall_mem_cons.mpr ⟨snd_getR (by decide) (by decide) rfl wd213 d25_44, List.forall_mem_cons.mpr ⟨snd_iload d25_47, List.forall_mem_cons.mpr ⟨snd_iald d25_49, List.forall_mem_cons.mpr ⟨snd_imul d25_50, List.forall_mem_cons.mpr ⟨snd_aload_n d25_51 rfl, List.forall_mem_cons.mpr ⟨snd_getR (by decide) (by decide) rfl wd211 d25_52, List.forall_mem_cons.mpr ⟨snd_iload d25_55, List.forall_mem_cons.mpr ⟨snd_iald d25_57, List.forall_mem_cons.mpr ⟨snd_aload_n d25_58 rfl, List.forall_mem_cons.mpr ⟨snd_getR (by decide) (by decide) rfl wd213 d25_59, List.forall_mem_cons.mpr ⟨snd_iload_n d25_62 rfl, List.forall_mem_cons.mpr ⟨snd_iald d25_63, List.forall_mem_cons.mpr ⟨snd_imul d25_64, List.forall_mem_cons.mpr ⟨snd_isub d25_65, List.forall_mem_cons.mpr ⟨snd_iadd d25_66, List.forall_mem_cons.mpr ⟨snd_istore d25_67, List.forall_mem_cons.mpr ⟨snd_iload d25_69, List.forall_mem_cons.mpr ⟨snd_istore_n d25_71 rfl, List.forall_mem_cons.mpr ⟨snd_iinc d25_72 (by decide +kernel), List.forall_mem_cons.mpr ⟨snd_goto d25_75 (by decide), List.forall_mem_cons.mpr ⟨snd_iload d25_78, List.forall_mem_cons.mpr ⟨snd_iret rfl d25_80, fun _ h => by cases h⟩⟩⟩⟩⟩⟩⟩⟩⟩⟩⟩⟩⟩⟩⟩⟩⟩⟩⟩⟩⟩⟩⟩
theorem d26_0 : decode (mC M26) 0 = .ok (.iload_n 1, 1) := by decide +kernel
theorem d26_1 : decode (mC M26) 1 = .ok (.ifCond .ge 5, 3) := by decide +kernel
theorem d26_4 : decode (mC M26) 4 = .ok (.iconst 0, 1) := by decide +kernel
theorem d26_5 : decode (mC M26) 5 = .ok (.ireturn, 1) := by decide +kernel
theorem d26_6 : decode (mC M26) 6 = .ok (.iload_n 1, 1) := by decide +kernel
theorem d26_7 : decode (mC M26) 7 = .ok (.bipush 6, 2) := by decide +kernel
theorem d26_9 : decode (mC M26) 9 = .ok (.imul, 1) := by decide +kernel
theorem d26_10 : decode (mC M26) 10 = .ok (.istore 4, 2) := by decide +kernel
theorem d26_12 : decode (mC M26) 12 = .ok (.iload 4, 2) := by decide +kernel
theorem d26_14 : decode (mC M26) 14 = .ok (.aload_n 0, 1) := by decide +kernel
theorem d26_15 : decode (mC M26) 15 = .ok (.getfield 18, 3) := by decide +kernel
theorem d26_18 : decode (mC M26) 18 = .ok (.iload_n 1, 1) := by decide +kernel
theorem d26_19 : decode (mC M26) 19 = .ok (.iaload, 1) := by decide +kernel
theorem d26_20 : decode (mC M26) 20 = .ok (.iadd, 1) := by decide +kernel
theorem d26_21 : decode (mC M26) 21 = .ok (.iconst 1, 1) := by decide +kernel
theorem d26_22 : decode (mC M26) 22 = .ok (.isub, 1) := by decide +kernel
theorem d26_23 : decode (mC M26) 23 = .ok (.istore 5, 2) := by decide +kernel
theorem d26_25 : decode (mC M26) 25 = .ok (.iconst 0, 1) := by decide +kernel
theorem d26_26 : decode (mC M26) 26 = .ok (.istore 6, 2) := by decide +kernel
theorem d26_28 : decode (mC M26) 28 = .ok (.iload 4, 2) := by decide +kernel
theorem d26_30 : decode (mC M26) 30 = .ok (.istore 7, 2) := by decide +kernel
theorem d26_32 : decode (mC M26) 32 = .ok (.iload 7, 2) := by decide +kernel
theorem d26_34 : decode (mC M26) 34 = .ok (.iload 4, 2) := by decide +kernel
theorem d26_36 : decode (mC M26) 36 = .ok (.aload_n 0, 1) := by decide +kernel
theorem d26_37 : decode (mC M26) 37 = .ok (.getfield 18, 3) := by decide +kernel
theorem d26_40 : decode (mC M26) 40 = .ok (.iload_n 1, 1) := by decide +kernel
theorem d26_41 : decode (mC M26) 41 = .ok (.iaload, 1) := by decide +kernel
theorem d26_42 : decode (mC M26) 42 = .ok (.iadd, 1) := by decide +kernel
theorem d26_43 : decode (mC M26) 43 = .ok (.if_icmp .ge 73, 3) := by decide +kernel
theorem d26_46 : decode (mC M26) 46 = .ok (.aload_n 0, 1) := by decide +kernel
theorem d26_47 : decode (mC M26) 47 = .ok (.getfield 24, 3) := by decide +kernel
theorem d26_50 : decode (mC M26) 50 = .ok (.iload 5, 2) := by decide +kernel
theorem d26_52 : decode (mC M26) 52 = .ok (.iaload, 1) := by decide +kernel
theorem d26_53 : decode (mC M26) 53 = .ok (.iload_n 3, 1) := by decide +kernel
theorem d26_54 : decode (mC M26) 54 = .ok (.if_icmp .le 7, 3) := by decide +kernel
theorem d26_57 : decode (mC M26) 57 = .ok (.iconst 1, 1) := by decide +kernel
theorem d26_58 : decode (mC M26) 58 = .ok (.goto 4, 3) := by decide +kernel
theorem d26_61 : decode (mC M26) 61 = .ok (.iconst 0, 1) := by decide +kernel
theorem d26_62 : decode (mC M26) 62 = .ok (.aload_n 0, 1) := by decide +kernel
theorem d26_63 : decode (mC M26) 63 = .ok (.getfield 24, 3) := by decide +kernel
theorem d26_66 : decode (mC M26) 66 = .ok (.iload 7, 2) := by decide +kernel
theorem d26_68 : decode (mC M26) 68 = .ok (.iaload, 1) := by decide +kernel
theorem d26_69 : decode (mC M26) 69 = .ok (.iload_n 3, 1) := by decide +kernel
theorem d26_70 : decode (mC M26) 70 = .ok (.if_icmp .le 7, 3) := by decide +kernel
theorem d26_73 : decode (mC M26) 73 = .ok (.iconst 1, 1) := by decide +kernel
theorem d26_74 : decode (mC M26) 74 = .ok (.goto 4, 3) := by decide +kernel
theorem d26_77 : decode (mC M26) 77 = .ok (.iconst 0, 1) := by decide +kernel
theorem d26_78 : decode (mC M26) 78 = .ok (.if_icmp .eq 28, 3) := by decide +kernel
theorem d26_81 : decode (mC M26) 81 = .ok (.aload_n 0, 1) := by decide +kernel
theorem d26_82 : decode (mC M26) 82 = .ok (.iload 5, 2) := by decide +kernel
theorem d26_84 : decode (mC M26) 84 = .ok (.iload 7, 2) := by decide +kernel
theorem d26_86 : decode (mC M26) 86 = .ok (.iload_n 2, 1) := by decide +kernel
theorem d26_87 : decode (mC M26) 87 = .ok (.iload_n 3, 1) := by decide +kernel
theorem d26_88 : decode (mC M26) 88 = .ok (.invokevirtual 39, 3) := by decide +kernel
theorem d26_91 : decode (mC M26) 91 = .ok (.ifCond .eq 15, 3) := by decide +kernel
theorem d26_94 : decode (mC M26) 94 = .ok (.iload 6, 2) := by decide +kernel
theorem d26_96 : decode (mC M26) 96 = .ok (.ifCond .ne 7, 3) := by decide +kernel
theorem d26_99 : decode (mC M26) 99 = .ok (.iconst 1, 1) := by decide +kernel
theorem d26_100 : decode (mC M26) 100 = .ok (.goto 4, 3) := by decide +kernel
theorem d26_103 : decode (mC M26) 103 = .ok (.iconst 0, 1) := by decide +kernel
theorem d26_104 : decode (mC M26) 104 = .ok (.istore 6, 2) := by decide +kernel
theorem d26_106 : decode (mC M26) 106 = .ok (.iload 7, 2) := by decide +kernel
theorem d26_108 : decode (mC M26) 108 = .ok (.istore 5, 2) := by decide +kernel
theorem d26_110 : decode (mC M26) 110 = .ok (.iinc 7 1, 3) := by decide +kernel
theorem d26_113 : decode (mC M26) 113 = .ok (.goto (-81), 3) := by decide +kernel
theorem d26_116 : decode (mC M26) 116 = .ok (.iload 6, 2) := by decide +kernel
theorem d26_118 : decode (mC M26) 118 = .ok (.ireturn, 1) := by decide +kernel
theorem sc26_0 : ∀ q ∈ tc26_0, Snd xtb M26 q.1 q.2 := List.forall_mem_cons.mpr ⟨snd_iload_n d26_0 rfl, List.forall_mem_cons.mpr ⟨snd_if_ge d26_1 (by decide), List.forall_mem_cons.mpr ⟨snd_iconst d26_4 (by decide +kernel), List.forall_mem_cons.mpr ⟨snd_zret rfl d26_5, List.forall_mem_cons.mpr ⟨snd_iload_n d26_6 rfl, List.forall_mem_cons.mpr ⟨snd_bipush d26_7 (by decide +kernel), List.forall_mem_cons.mpr ⟨snd_imul d26_9, List.forall_mem_cons.mpr ⟨snd_istore d26_10, List.forall_mem_cons.mpr ⟨snd_iload d26_12, List.forall_mem_cons.mpr ⟨snd_aload_n d26_14 rfl, List.forall_mem_cons.mpr ⟨snd_getR (by decide) (by decide) rfl wd209 d26_15, List.forall_mem_cons.mpr ⟨snd_iload_n d26_18 rfl, List.forall_mem_cons.mpr ⟨snd_iald d26_19, List.forall_mem_cons.mpr ⟨snd_iadd d26_20, List.forall_mem_cons.mpr ⟨snd_iconst d26_21 (by decide +kernel), List.forall_mem_cons.mpr ⟨snd_isub d26_22, List.forall_mem_cons.mpr ⟨snd_istore d26_23, List.forall_mem_cons.mpr ⟨snd_iconst d26_25 (by decide +kernel), List.forall_mem_cons.mpr ⟨snd_istore d26_26, List.forall_mem_cons.mpr ⟨snd_iload d26_28, List.forall_mem_cons.mpr ⟨snd_istore d26_30, List.forall_mem_cons.mpr ⟨snd_iload d26_32, List.forall_mem_cons.mpr ⟨snd_iload d26_34, List.forall_mem_cons.mpr ⟨snd_aload_n d26_36 rfl, List.forall_mem_cons.mpr ⟨snd_getR (by decide) (by decide) rfl wd209 d26_37, List.forall_mem_cons.mpr ⟨snd_iload_n d26_40 rfl, List.forall_mem_cons.mpr ⟨snd_iald d26_41, List.forall_mem_cons.mpr ⟨snd_iadd d26_42, List.forall_mem_cons.mpr ⟨snd_cmp_ge d26_43 (by decide), List.forall_mem_cons.mpr ⟨snd_aload_n d26_46 rfl, fun _ h => by cases h⟩⟩⟩⟩⟩⟩⟩⟩⟩⟩⟩⟩⟩⟩⟩⟩⟩⟩⟩⟩⟩⟩⟩⟩⟩⟩⟩⟩⟩⟩
theorem sc26_1 : ∀ q ∈ tc26_1, Snd xtb M26 q.1 q.2 := List.forall_mem_cons.mpr ⟨snd_getR (by decide) (by decide) rfl wd213 d26_47, List.forall_mem_cons.mpr ⟨snd_iload d26_50, List.forall_mem_cons.mpr ⟨snd_iald d26_52, List.forall_mem_cons.mpr ⟨snd_iload_n d26_53 rfl, List.forall_mem_cons.mpr ⟨snd_cmp_le d26_54 (by decide), List.forall_mem_cons.mpr ⟨snd_iconst d26_57 (by decide +kernel), List.forall_mem_cons.mpr ⟨snd_goto d26_58 (by decide), List.forall_mem_cons.mpr ⟨snd_iconst d26_61 (by decide +kernel), List.forall_mem_cons.mpr ⟨snd_aload_n d26_62 rfl, List.forall_mem_cons.mpr ⟨snd_getR (by decide) (by decide) rfl wd213 d26_63, List.forall_mem_cons.mpr ⟨snd_iload d26_66, List.forall_mem_cons.mpr ⟨snd_iald d26_68, List.forall_mem_cons.mpr ⟨snd_iload_n d26_69 rfl, List.forall_mem_cons.mpr ⟨snd_cmp_le d26_70 (by decide), List.forall_mem_cons.mpr ⟨snd_iconst d26_73 (by decide +kernel), List.forall_mem_cons.mpr ⟨snd_goto d26_74 (by decide), List.forall_mem_cons.mpr ⟨snd_iconst d26_77 (by decide +kernel), List.forall_mem_cons.mpr ⟨snd_cmp_eq d26_78 (by decide), List.forall_mem_cons.mpr ⟨snd_aload_n d26_81 rfl, List.forall_mem_cons.mpr ⟨snd_iload d26_82, List.forall_mem_cons.mpr ⟨snd_iload d26_84, List.forall_mem_cons.mpr ⟨snd_iload_n d26_86 rfl, List.forall_mem_cons.mpr ⟨snd_iload_n d26_87 rfl, List.forall_mem_cons.mpr ⟨snd_callV (by decide) rfl cn27 ⟨by decide +kernel, by decide +kernel⟩ cm27 (List.forall_mem_cons.mpr ⟨wd898, cw27⟩) d26_88, List.forall_mem_cons.mpr ⟨snd_if_eq d26_91 (by decide), List.forall_mem_cons.mpr ⟨snd_iload d26_94, List.forall_mem_cons.mpr ⟨snd_if_ne d26_96 (by decide), List.forall_mem_cons.mpr ⟨snd_iconst d26_99 (by decide +kernel), List.forall_mem_cons.mpr ⟨snd_goto d26_100 (by decide), List.forall_mem_cons.mpr ⟨snd_iconst d26_103 (by decide +kernel), fun _ h => by cases h⟩⟩⟩⟩⟩⟩⟩⟩⟩⟩⟩⟩⟩⟩⟩⟩⟩⟩⟩⟩⟩⟩⟩⟩⟩⟩⟩⟩⟩⟩
theorem sc26_2 : ∀ q ∈ tc26_2, Snd xtb M26 q.1 q.2 := List.forall_mem_cons.mpr ⟨snd_istore d26_104, List.forall_mem_cons.mpr ⟨snd_iload d26_106, List.forall_mem_cons.mpr ⟨snd_istore d26_108, List.forall_mem_cons.mpr ⟨snd_iinc d26_110 (by decide +kernel), List.forall_mem_cons.mpr ⟨snd_goto d26_113 (by decide), List.forall_mem_cons.mpr ⟨snd_iload d26_116, List.forall_mem_cons.mpr ⟨snd_zret rfl d26_118, fun _ h => by cases h⟩⟩⟩⟩⟩⟩⟩
theorem d27_0 : decode (mC M27) 0 = .ok (.aload_n 0, 1) := by decide +kernel
theorem d27_1 : decode (mC M27) 1 = .ok (.getfield 24, 3) := by decide +kernel
theorem d27_4 : decode (mC M27) 4 = .ok (.iload_n 2, 1) := by decide +kernel
theorem d27_5 : decode (mC M27) 5 = .ok (.iaload, 1) := by decide +kernel
theorem d27_6 : decode (mC M27) 6 = .ok (.aload_n 0, 1) := by decide +kernel
theorem d27_7 : decode (mC M27) 7 = .ok (.getfield 24, 3) := by decide +kernel
theorem d27_10 : decode (mC M27) 10 = .ok (.iload_n 1, 1) := by decide +kernel
theorem d27_11 : decode (mC M27) 11 = .ok (.iaload, 1) := by decide +kernel
theorem d27_12 : decode (mC M27) 12 = .ok (.isub, 1) := by decide +kernel
theorem d27_13 : decode (mC M27) 13 = .ok (.istore 5, 2) := by decide +kernel
theorem d27_15 : decode (mC M27) 15 = .ok (.aload_n 0, 1) := by decide +kernel
theorem d27_16 : decode (mC M27) 16 = .ok (.getfield 21, 3) := by decide +kernel
theorem d27_19 : decode (mC M27) 19 = .ok (.iload_n 1, 1) := by decide +kernel
theorem d27_20 : decode (mC M27) 20 = .ok (.iaload, 1) := by decide +kernel
theorem d27_21 : decode (mC M27) 21 = .ok (.iload_n 3, 1) := by decide +kernel
theorem d27_22 : decode (mC M27) 22 = .ok (.isub, 1) := by decide +kernel
theorem d27_23 : decode (mC M27) 23 = .ok (.iload 5, 2) := by decide +kernel
theorem d27_25 : decode (mC M27) 25 = .ok (.imul, 1) := by decide +kernel
theorem d27_26 : decode (mC M27) 26 = .ok (.iload 4, 2) := by decide +kernel
theorem d27_28 : decode (mC M27) 28 = .ok (.aload_n 0, 1) := by decide +kernel
theorem d27_29 : decode (mC M27) 29 = .ok (.getfield 24, 3) := by decide +kernel
theorem d27_32 : decode (mC M27) 32 = .ok (.iload_n 1, 1) := by decide +kernel
theorem d27_33 : decode (mC M27) 33 = .ok (.iaload, 1) := by decide +kernel
theorem d27_34 : decode (mC M27) 34 = .ok (.isub, 1) := by decide +kernel
theorem d27_35 : decode (mC M27) 35 = .ok (.aload_n 0, 1) := by decide +kernel
theorem d27_36 : decode (mC M27) 36 = .ok (.getfield 21, 3) := by decide +kernel
theorem d27_39 : decode (mC M27) 39 = .ok (.iload_n 2, 1) := by decide +kernel
theorem d27_40 : decode (mC M27) 40 = .ok (.iaload, 1) := by decide +kernel
theorem d27_41 : decode (mC M27) 41 = .ok (.aload_n 0, 1) := by decide +kernel
theorem d27_42 : decode (mC M27) 42 = .ok (.getfield 21, 3) := by decide +kernel
theorem d27_45 : decode (mC M27) 45 = .ok (.iload_n 1, 1) := by decide +kernel
theorem d27_46 : decode (mC M27) 46 = .ok (.iaload, 1) := by decide +kernel
theorem d27_47 : decode (mC M27) 47 = .ok (.isub, 1) := by decide +kernel
theorem d27_48 : decode (mC M27) 48 = .ok (.imul, 1) := by decide +kernel
theorem d27_49 : decode (mC M27) 49 = .ok (.iadd, 1) := by decide +kernel
theorem d27_50 : decode (mC M27) 50 = .ok (.istore 6, 2) := by decide +kernel
theorem d27_52 : decode (mC M27) 52 = .ok (.iload 5, 2) := by decide +kernel
theorem d27_54 : decode (mC M27) 54 = .ok (.ifCond .le 16, 3) := by decide +kernel
theorem d27_57 : decode (mC M27) 57 = .ok (.iload 6, 2) := by decide +kernel
theorem d27_59 : decode (mC M27) 59 = .ok (.ifCond .le 7, 3) := by decide +kernel
theorem d27_62 : decode (mC M27) 62 = .ok (.iconst 1, 1) := by decide +kernel
theorem d27_63 : decode (mC M27) 63 = .ok (.goto 17, 3) := by decide +kernel
theorem d27_66 : decode (mC M27) 66 = .ok (.iconst 0, 1) := by decide +kernel
theorem d27_67 : decode (mC M27) 67 = .ok (.goto 13, 3) := by decide +kernel
theorem d27_70 : decode (mC M27) 70 = .ok (.iload 6, 2) := by decide +kernel
theorem d27_72 : decode (mC M27) 72 = .ok (.ifCond .ge 7, 3) := by decide +kernel
theorem d27_75 : decode (mC M27) 75 = .ok (.iconst 1, 1) := by decide +kernel
theorem d27_76 : decode (mC M27) 76 = .ok (.goto 4, 3) := by decide +kernel
theorem d27_79 : decode (mC M27) 79 = .ok (.iconst 0, 1) := by decide +kernel
theorem d27_80 : decode (mC M27) 80 = .ok (.ireturn, 1) := by decide +kernel
theorem sc27_0 : ∀ q ∈ tc27_0, Snd xtb M27 q.1 q.2 := List.forall_mem_cons.mpr ⟨snd_aload_n d27_0 rfl, List.forall_mem_cons.mpr ⟨snd_getR (by decide) (by decide) rfl wd213 d27_1, List.forall_mem_cons.mpr ⟨snd_iload_n d27_4 rfl, List.forall_mem_cons.mpr ⟨snd_iald d27_5, List.forall_mem_cons.mpr ⟨snd_aload_n d27_6 rfl, List.forall_mem_cons.mpr ⟨snd_getR (by decide) (by decide) rfl wd213 d27_7, List.forall_mem_cons.mpr ⟨snd_iload_n d27_10 rfl, List.forall_mem_cons.mpr ⟨snd_iald d27_11, List.forall_mem_cons.mpr ⟨snd_isub d27_12, List.forall_mem_cons.mpr ⟨snd_istore d27_13, List.forall_mem_cons.mpr ⟨snd_aload_n d27_15 rfl, List.forall_mem_cons.mpr ⟨snd_getR (by decide) (by decide) rfl wd211 d27_16, List.forall_mem_cons.mpr ⟨snd_iload_n d27_19 rfl, List.forall_mem_cons.mpr ⟨snd_iald d27_20, List.forall_mem_cons.mpr ⟨snd_iload_n d27_21 rfl, List.forall_mem_cons.mpr ⟨snd_isub d27_22, List.forall_mem_cons.mpr ⟨snd_iload d27_23, List.forall_mem_cons.mpr ⟨snd_imul d27_25, List.forall_mem_cons.mpr ⟨snd_iload d27_26, List.forall_mem_cons.mpr ⟨snd_aload_n d27_28 rfl, List.forall_mem_cons.mpr ⟨snd_getR (by decide) (by decide) rfl wd213 d27_29, List.forall_mem_cons.mpr ⟨snd_iload_n d27_32 rfl, List.forall_mem_cons.mpr ⟨snd_iald d27_33, List.forall_mem_cons.mpr ⟨snd_isub d27_34, List.forall_mem_cons.mpr ⟨snd_aload_n d27_35 rfl, List.forall_mem_cons.mpr ⟨snd_getR (by decide) (by decide) rfl wd211 d27_36, List.forall_mem_cons.mpr ⟨snd_iload_n d27_39 rfl, List.forall_mem_cons.mpr ⟨snd_iald d27_40, List.forall_mem_cons.mpr ⟨snd_aload_n d27_41 rfl, List.forall_mem_cons.mpr ⟨snd_getR (by decide) (by decide) rfl wd211 d27_42, fun _ h => by cases h⟩⟩⟩⟩⟩⟩⟩⟩⟩⟩⟩⟩⟩⟩⟩⟩⟩⟩⟩⟩⟩⟩⟩⟩⟩⟩⟩⟩⟩⟩
theorem sc27_1 : ∀ q ∈ tc27_1, Snd xtb M27 q.1 q.2 := List.forall_mem_cons.mpr ⟨snd_iload_n d27_45 rfl, List.forall_mem_cons.mpr ⟨snd_iald d27_46, List.forall_mem_cons.mpr ⟨snd_isub d27_47, List.forall_mem_cons.mpr ⟨snd_imul d27_48, List.forall_mem_cons.mpr ⟨snd_iadd d27_49, List.forall_mem_cons.mpr ⟨snd_istore d27_50, List.forall_mem_cons.mpr ⟨snd_iload d27_52, List.forall_mem_cons.mpr ⟨snd_if_le d27_54 (by decide), List.forall_mem_cons.mpr ⟨snd_iload d27_57, List.forall_mem_cons.mpr ⟨snd_if_le d27_59 (by decide), List.forall_mem_cons.mpr ⟨snd_iconst d27_62 (by decide +kernel), List.forall_mem_cons.mpr ⟨snd_goto d27_63 (by decide), List.forall_mem_cons.mpr ⟨snd_iconst d27_66 (by decide +kernel), List.forall_mem_cons.mpr ⟨snd_goto d27_67 (by decide), List.forall_mem_cons.mpr ⟨snd_iload d27_70, List.forall_mem_cons.mpr ⟨snd_if_ge d27_72 (by decide), List.forall_mem_cons.mpr ⟨snd_iconst d27_75 (by decide +kernel), List.forall_mem_cons.mpr ⟨snd_goto d27_76 (by decide), List.forall_mem_cons.mpr ⟨snd_iconst d27_79 (by decide +kernel), List.forall_mem_cons.mpr ⟨snd_zret rfl d27_80, fun _ h => by cases h⟩⟩⟩⟩⟩⟩⟩⟩⟩⟩⟩⟩⟩⟩⟩⟩⟩⟩⟩⟩
theorem d28_0 : decode (mC M28) 0 = .ok (.iload_n 1, 1) := by decide +kernel
theorem d28_1 : decode (mC M28) 1 = .ok (.bipush 6, 2) := by decide +kernel
theorem d28_3 : decode (mC M28) 3 = .ok (.imul, 1) := by decide +kernel
theorem d28_4 : decode (mC M28) 4 = .ok (.istore 4, 2) := by decide +kernel
theorem d28_6 : decode (mC M28) 6 = .ok (.iload 4, 2) := by decide +kernel
theorem d28_8 : decode (mC M28) 8 = .ok (.aload_n 0, 1) := by decide +kernel
theorem d28_9 : decode (mC M28) 9 = .ok (.getfield 18, 3) := by decide +kernel
theorem d28_12 : decode (mC M28) 12 = .ok (.iload_n 1, 1) := by decide +kernel
theorem d28_13 : decode (mC M28) 13 = .ok (.iaload, 1) := by decide +kernel
theorem d28_14 : decode (mC M28) 14 = .ok (.iadd, 1) := by decide +kernel
theorem d28_15 : decode (mC M28) 15 = .ok (.iconst 1, 1) := by decide +kernel
theorem d28_16 : decode (mC M28) 16 = .ok (.isub, 1) := by decide +kernel
theorem d28_17 : decode (mC M28) 17 = .ok (.istore 5, 2) := by decide +kernel
theorem d28_19 : decode (mC M28) 19 = .ok (.iload 4, 2) := by decide +kernel
theorem d28_21 : decode (mC M28) 21 = .ok (.istore 6, 2) := by decide +kernel
theorem d28_23 : decode (mC M28) 23 = .ok (.iload 6, 2) := by decide +kernel
theorem d28_25 : decode (mC M28) 25 = .ok (.iload 4, 2) := by decide +kernel
theorem d28_27 : decode (mC M28) 27 = .ok (.aload_n 0, 1) := by decide +kernel
theorem d28_28 : decode (mC M28) 28 = .ok (.getfield 18, 3) := by decide +kernel
theorem d28_31 : decode (mC M28) 31 = .ok (.iload_n 1, 1) := by decide +kernel
theorem d28_32 : decode (mC M28) 32 = .ok (.iaload, 1) := by decide +kernel
theorem d28_33 : decode (mC M28) 33 = .ok (.iadd, 1) := by decide +kernel
theorem d28_34 : decode (mC M28) 34 = .ok (.if_icmp .ge 28, 3) := by decide +kernel
theorem d28_37 : decode (mC M28) 37 = .ok (.aload_n 0, 1) := by decide +kernel
theorem d28_38 : decode (mC M28) 38 = .ok (.iload 5, 2) := by decide +kernel
theorem d28_40 : decode (mC M28) 40 = .ok (.iload 6, 2) := by decide +kernel
theorem d28_42 : decode (mC M28) 42 = .ok (.iload_n 2, 1) := by decide +kernel
theorem d28_43 : decode (mC M28) 43 = .ok (.iload_n 3, 1) := by decide +kernel
theorem d28_44 : decode (mC M28) 44 = .ok (.invokevirtual 43, 3) := by decide +kernel
theorem d28_47 : decode (mC M28) 47 = .ok (.ifCond .eq 5, 3) := by decide +kernel
theorem d28_50 : decode (mC M28) 50 = .ok (.iconst 1, 1) := by decide +kernel
theorem d28_51 : decode (mC M28) 51 = .ok (.ireturn, 1) := by decide +kernel
theorem d28_52 : decode (mC M28) 52 = .ok (.iload 6, 2) := by decide +kernel
theorem d28_54 : decode (mC M28) 54 = .ok (.istore 5, 2) := by decide +kernel
theorem d28_56 : decode (mC M28) 56 = .ok (.iinc 6 1, 3) := by decide +kernel
theorem d28_59 : decode (mC M28) 59 = .ok (.goto (-36), 3) := by decide +kernel
theorem d28_62 : decode (mC M28) 62 = .ok (.iconst 0, 1) := by decide +kernel
theorem d28_63 : decode (mC M28) 63 = .ok (.ireturn, 1) := by decide +kernel
theorem sc28_0 : ∀ q ∈ tc28_0, Snd xtb M28 q.1 q.2 := List.forall_mem_cons.mpr ⟨snd_iload_n d28_0 rfl, List.forall_mem_cons.mpr ⟨snd_bipush d28_1 (by decide +kernel), List.forall_mem_cons.mpr ⟨snd_imul d28_3, List.forall_mem_cons.mpr ⟨snd_istore d28_4, List.forall_mem_cons.mpr ⟨snd_iload d28_6, List.forall_mem_cons.mpr ⟨snd_aload_n d28_8 rfl, List.forall_mem_cons.mpr ⟨snd_getR (by decide) (by decide) rfl wd209 d28_9, List.forall_mem_cons.mpr ⟨snd_iload_n d28_12 rfl, List.forall_mem_cons.mpr ⟨snd_iald d28_13, List.forall_mem_cons.mpr ⟨snd_iadd d28_14, List.forall_mem_cons.mpr ⟨snd_iconst d28_15 (by decide +kernel), List.forall_mem_cons.mpr ⟨snd_isub d28_16, List.forall_mem_cons.mpr ⟨snd_istore d28_17, List.forall_mem_cons.mpr ⟨snd_iload d28_19, List.forall_mem_cons.mpr ⟨snd_istore d28_21, List.forall_mem_cons.mpr ⟨snd_iload d28_23, List.forall_mem_cons.mpr ⟨snd_iload d28_25, List.forall_mem_cons.mpr ⟨snd_aload_n d28_27 rfl, List.forall_mem_cons.mpr ⟨snd_getR (by decide) (by decide) rfl wd209 d28_28, List.forall_mem_cons.mpr ⟨snd_iload_n d28_31 rfl, List.forall_mem_cons.mpr ⟨snd_iald d28_32, List.forall_mem_cons.mpr ⟨snd_iadd d28_33, List.forall_mem_cons.mpr ⟨snd_cmp_ge d28_34 (by decide), List.forall_mem_cons.mpr ⟨snd_aload_n d28_37 rfl, List.forall_mem_cons.mpr ⟨snd_iload d28_38, List.forall_mem_cons.mpr ⟨snd_iload d28_40, List.forall_mem_cons.mpr ⟨snd_iload_n d28_42 rfl, List.forall_mem_cons.mpr ⟨snd_iload_n d28_43 rfl, List.forall_mem_cons.mpr ⟨snd_callV (by decide) rfl cn29 ⟨by decide +kernel, by decide +kernel⟩ cm29 (List.forall_mem_cons.mpr ⟨wd910, cw29⟩) d28_44, List.forall_mem_cons.mpr ⟨snd_if_eq d28_47 (by decide), fun _ h => by cases h⟩⟩⟩⟩⟩⟩⟩⟩⟩⟩⟩⟩⟩⟩⟩⟩⟩⟩⟩⟩⟩⟩⟩⟩⟩⟩⟩⟩⟩⟩
theorem sc28_1 : ∀ q ∈ tc28_1, Snd xtb M28 q.1 q.2 := List.forall_mem_cons.mpr ⟨snd_iconst d28_50 (by decide +kernel), List.forall_mem_cons.mpr ⟨snd_zret rfl d28_51, List.forall_mem_cons.mpr ⟨snd_iload d28_52, List.forall_mem_cons.mpr ⟨snd_istore d28_54, List.forall_mem_cons.mpr ⟨snd_iinc d28_56 (by decide +kernel), List.forall_mem_cons.mpr ⟨snd_goto d28_59 (by decide), List.forall_mem_cons.mpr ⟨snd_iconst d28_62 (by decide +kernel), List.forall_mem_cons.mpr ⟨snd_zret rfl d28_63, fun _ h => by cases h⟩⟩⟩⟩⟩⟩⟩⟩
theorem d29_0 : decode (mC M29) 0 = .ok (.aload_n 0, 1) := by decide +kernel
theorem d29_1 : decode (mC M29) 1 = .ok (.getfield 21, 3) := by decide +kernel
theorem d29_4 : decode (mC M29) 4 = .ok (.iload_n 2, 1) := by decide +kernel
theorem d29_5 : decode (mC M29) 5 = .ok (.iaload, 1) := by decide +kernel
theorem d29_6 : decode (mC M29) 6 = .ok (.aload_n 0, 1) := by decide +kernel
theorem d29_7 : decode (mC M29) 7 = .ok (.getfield 21, 3) := by decide +kernel
theorem d29_10 : decode (mC M29) 10 = .ok (.iload_n 1, 1) := by decide +kernel
theorem d29_11 : decode (mC M29) 11 = .ok (.iaload, 1) := by decide +kernel
theorem d29_12 : decode (mC M29) 12 = .ok (.isub, 1) := by decide +kernel
theorem d29_13 : decode (mC M29) 13 = .ok (.iload 4, 2) := by decide +kernel
theorem d29_15 : decode (mC M29) 15 = .ok (.aload_n 0, 1) := by decide +kernel
theorem d29_16 : decode (mC M29) 16 = .ok (.getfield 24, 3) := by decide +kernel
theorem d29_19 : decode (mC M29) 19 = .ok (.iload_n 1, 1) := by decide +kernel
theorem d29_20 : decode (mC M29) 20 = .ok (.iaload, 1) := by decide +kernel
theorem d29_21 : decode (mC M29) 21 = .ok (.isub, 1) := by decide +kernel
theorem d29_22 : decode (mC M29) 22 = .ok (.imul, 1) := by decide +kernel
theorem d29_23 : decode (mC M29) 23 = .ok (.aload_n 0, 1) := by decide +kernel
theorem d29_24 : decode (mC M29) 24 = .ok (.getfield 24, 3) := by decide +kernel
theorem d29_27 : decode (mC M29) 27 = .ok (.iload_n 2, 1) := by decide +kernel
theorem d29_28 : decode (mC M29) 28 = .ok (.iaload, 1) := by decide +kernel
theorem d29_29 : decode (mC M29) 29 = .ok (.aload_n 0, 1) := by decide +kernel
theorem d29_30 : decode (mC M29) 30 = .ok (.getfield 24, 3) := by decide +kernel
theorem d29_33 : decode (mC M29) 33 = .ok (.iload_n 1, 1) := by decide +kernel
theorem d29_34 : decode (mC M29) 34 = .ok (.iaload, 1) := by decide +kernel
theorem d29_35 : decode (mC M29) 35 = .ok (.isub, 1) := by decide +kernel
theorem d29_36 : decode (mC M29) 36 = .ok (.iload_n 3, 1) := by decide +kernel
theorem d29_37 : decode (mC M29) 37 = .ok (.aload_n 0, 1) := by decide +kernel
theorem d29_38 : decode (mC M29) 38 = .ok (.getfield 21, 3) := by decide +kernel
theorem d29_41 : decode (mC M29) 41 = .ok (.iload_n 1, 1) := by decide +kernel
theorem d29_42 : decode (mC M29) 42 = .ok (.iaload, 1) := by decide +kernel
theorem d29_43 : decode (mC M29) 43 = .ok (.isub, 1) := by decide +kernel
theorem d29_44 : decode (mC M29) 44 = .ok (.imul, 1) := by decide +kernel
theorem d29_45 : decode (mC M29) 45 = .ok (.isub, 1) := by decide +kernel
theorem d29_46 : decode (mC M29) 46 = .ok (.istore 5, 2) := by decide +kernel
theorem d29_48 : decode (mC M29) 48 = .ok (.iload 5, 2) := by decide +kernel
theorem d29_50 : decode (mC M29) 50 = .ok (.ifCond .ne 82, 3) := by decide +kernel
theorem d29_53 : decode (mC M29) 53 = .ok (.iload_n 3, 1) := by decide +kernel
theorem d29_54 : decode (mC M29) 54 = .ok (.aload_n 0, 1) := by decide +kernel
theorem d29_55 : decode (mC M29) 55 = .ok (.getfield 21, 3) := by decide +kernel
theorem d29_58 : decode (mC M29) 58 = .ok (.iload_n 1, 1) := by decide +kernel
theorem d29_59 : decode (mC M29) 59 = .ok (.iaload, 1) := by decide +kernel
theorem d29_60 : decode (mC M29) 60 = .ok (.aload_n 0, 1) := by decide +kernel
theorem d29_61 : decode (mC M29) 61 = .ok (.getfield 21, 3) := by decide +kernel
theorem d29_64 : decode (mC M29) 64 = .ok (.iload_n 2, 1) := by decide +kernel
theorem d29_65 : decode (mC M29) 65 = .ok (.iaload, 1) := by decide +kernel
theorem d29_66 : decode (mC M29) 66 = .ok (.invokestatic 46, 3) := by decide +kernel
theorem d29_69 : decode (mC M29) 69 = .ok (.aload_n 0, 1) := by decide +kernel
theorem d29_70 : decode (mC M29) 70 = .ok (.getfield 21, 3) := by decide +kernel
theorem d29_73 : decode (mC M29) 73 = .ok (.iload_n 1, 1) := by decide +kernel
theorem d29_74 : decode (mC M29) 74 = .ok (.iaload, 1) := by decide +kernel
theorem d29_75 : decode (mC M29) 75 = .ok (.aload_n 0, 1) := by decide +kernel
theorem d29_76 : decode (mC M29) 76 = .ok (.getfield 21, 3) := by decide +kernel
theorem d29_79 : decode (mC M29) 79 = .ok (.iload_n 2, 1) := by decide +kernel
theorem d29_80 : decode (mC M29) 80 = .ok (.iaload, 1) := by decide +kernel
theorem d29_81 : decode (mC M29) 81 = .ok (.invokestatic 51, 3) := by decide +kernel
theorem d29_84 : decode (mC M29) 84 = .ok (.invokestatic 54, 3) := by decide +kernel
theorem d29_87 : decode (mC M29) 87 = .ok (.ifCond .eq 45, 3) := by decide +kernel
theorem d29_90 : decode (mC M29) 90 = .ok (.iload 4, 2) := by decide +kernel
theorem d29_92 : decode (mC M29) 92 = .ok (.aload_n 0, 1) := by decide +kernel
theorem d29_93 : decode (mC M29) 93 = .ok (.getfield 24, 3) := by decide +kernel
theorem d29_96 : decode (mC M29) 96 = .ok (.iload_n 1, 1) := by decide +kernel
theorem d29_97 : decode (mC M29) 97 = .ok (.iaload, 1) := by decide +kernel
theorem d29_98 : decode (mC M29) 98 = .ok (.aload_n 0, 1) := by decide +kernel
theorem d29_99 : decode (mC M29) 99 = .ok (.getfield 24, 3) := by decide +kernel
theorem d29_102 : decode (mC M29) 102 = .ok (.iload_n 2, 1) := by decide +kernel
theorem d29_103 : decode (mC M29) 103 = .ok (.iaload, 1) := by decide +kernel
theorem d29_104 : decode (mC M29) 104 = .ok (.invokestatic 46, 3) := by decide +kernel
theorem d29_107 : decode (mC M29) 107 = .ok (.aload_n 0, 1) := by decide +kernel
theorem d29_108 : decode (mC M29) 108 = .ok (.getfield 24, 3) := by decide +kernel
theorem d29_111 : decode (mC M29) 111 = .ok (.iload_n 1, 1) := by decide +kernel
theorem d29_112 : decode (mC M29) 112 = .ok (.iaload, 1) := by decide +kernel
theorem d29_113 : decode (mC M29) 113 = .ok (.aload_n 0, 1) := by decide +kernel
theorem d29_114 : decode (mC M29) 114 = .ok (.getfield 24, 3) := by decide +kernel
theorem d29_117 : decode (mC M29) 117 = .ok (.iload_n 2, 1) := by decide +kernel
theorem d29_118 : decode (mC M29) 118 = .ok (.iaload, 1) := by decide +kernel
theorem d29_119 : decode (mC M29) 119 = .ok (.invokestatic 51, 3) := by decide +kernel
theorem d29_122 : decode (mC M29) 122 = .ok (.invokestatic 54, 3) := by decide +kernel
theorem d29_125 : decode (mC M29) 125 = .ok (.ifCond .eq 7, 3) := by decide +kernel
theorem d29_128 : decode (mC M29) 128 = .ok (.iconst 1, 1) := by decide +kernel
theorem d29_129 : decode (mC M29) 129 = .ok (.goto 4, 3) := by decide +kernel
theorem d29_132 : decode (mC M29) 132 = .ok (.iconst 0, 1) := by decide +kernel
theorem d29_133 : decode (mC M29) 133 = .ok (.ireturn, 1) := by decide +kernel
theorem sc29_0 : ∀ q ∈ tc29_0, Snd xtb M29 q.1 q.2 := List.forall_mem_cons.mpr ⟨snd_aload_n d29_0 rfl, List.forall_mem_cons.mpr ⟨snd_getR (by decide) (by decide) rfl wd211 d29_1, List.forall_mem_cons.mpr ⟨snd_iload_n d29_4 rfl, List.forall_mem_cons.mpr ⟨snd_iald d29_5, List.forall_mem_cons.mpr ⟨snd_aload_n d29_6 rfl, List.forall_mem_cons.mpr ⟨snd_getR (by decide) (by decide) rfl wd211 d29_7, List.forall_mem_cons.mpr ⟨snd_iload_n d29_10 rfl, List.forall_mem_cons.mpr ⟨snd_iald d29_11, List.forall_mem_cons.mpr ⟨snd_isub d29_12, List.forall_mem_cons.mpr ⟨snd_iload d29_13, List.forall_mem_cons.mpr ⟨snd_aload_n d29_15 rfl, List.forall_mem_cons.mpr ⟨snd_getR (by decide) (by decide) rfl wd213 d29_16, List.forall_mem_cons.mpr ⟨snd_iload_n d29_19 rfl, List.forall_mem_cons.mpr ⟨snd_iald d29_20, List.forall_mem_cons.mpr ⟨snd_isub d29_21, List.forall_mem_cons.mpr ⟨snd_imul d29_22, List.forall_mem_cons.mpr ⟨snd_aload_n d29_23 rfl, List.forall_mem_cons.mpr ⟨snd_getR (by decide) (by decide) rfl wd213 d29_24, List.forall_mem_cons.mpr ⟨snd_iload_n d29_27 rfl, List.forall_mem_cons.mpr ⟨snd_iald d29_28, List.forall_mem_cons.mpr ⟨snd_aload_n d29_29 rfl, List.forall_mem_cons.mpr ⟨snd_getR (by decide) (by decide) rfl wd213 d29_30, List.forall_mem_cons.mpr ⟨snd_iload_n d29_33 rfl, List.forall_mem_cons.mpr ⟨snd_iald d29_34, List.forall_mem_cons.mpr ⟨snd_isub d29_35, List.forall_mem_cons.mpr ⟨snd_iload_n d29_36 rfl, List.forall_mem_cons.mpr ⟨snd_aload_n d29_37 rfl, List.forall_mem_cons.mpr ⟨snd_getR (by decide) (by decide) rfl wd211 d29_38, List.forall_mem_cons.mpr ⟨snd_iload_n d29_41 rfl, List.forall_mem_cons.mpr ⟨snd_iald d29_42, fun _ h => by cases h⟩⟩⟩⟩⟩⟩⟩⟩⟩⟩⟩⟩⟩⟩⟩⟩⟩⟩⟩⟩⟩⟩⟩⟩⟩⟩⟩⟩⟩⟩
theorem sc29_1 : ∀ q ∈ tc29_1, Snd xtb M29 q.1 q.2 := List.forall_mem_cons.mpr ⟨snd_isub d29_43, List.forall_mem_cons.mpr ⟨snd_imul d29_44, List.forall_mem_cons.mpr ⟨snd_isub d29_45, List.forall_mem_cons.mpr ⟨snd_istore d29_46, List.forall_mem_cons.mpr ⟨snd_iload d29_48, List.forall_mem_cons.mpr ⟨snd_if_ne d29_50 (by decide), List.forall_mem_cons.mpr ⟨snd_iload_n d29_53 rfl, List.forall_mem_cons.mpr ⟨snd_aload_n d29_54 rfl, List.forall_mem_cons.mpr ⟨snd_getR (by decide) (by decide) rfl wd211 d29_55, List.forall_mem_cons.mpr ⟨snd_iload_n d29_58 rfl, List.forall_mem_cons.mpr ⟨snd_iald d29_59, List.forall_mem_cons.mpr ⟨snd_aload_n d29_60 rfl, List.forall_mem_cons.mpr ⟨snd_getR (by decide) (by decide) rfl wd211 d29_61, List.forall_mem_cons.mpr ⟨snd_iload_n d29_64 rfl, List.forall_mem_cons.mpr ⟨snd_iald d29_65, List.forall_mem_cons.mpr ⟨snd_min (by decide) (by decide) (List.forall_mem_cons.mpr ⟨wd914, List.forall_mem_cons.mpr ⟨wd915, List.forall_mem_cons.mpr ⟨wd128, List.forall_mem_cons.mpr ⟨wd916, fun _ h => by cases h⟩⟩⟩⟩) d29_66, List.forall_mem_cons.mpr ⟨snd_aload_n d29_69 rfl, List.forall_mem_cons.mpr ⟨snd_getR (by decide) (by decide) rfl wd211 d29_70, List.forall_mem_cons.mpr ⟨snd_iload_n d29_73 rfl, List.forall_mem_cons.mpr ⟨snd_iald d29_74, List.forall_mem_cons.mpr ⟨snd_aload_n d29_75 rfl, List.forall_mem_cons.mpr ⟨snd_getR (by decide) (by decide) rfl wd211 d29_76, List.forall_mem_cons.mpr ⟨snd_iload_n d29_79 rfl, List.forall_mem_cons.mpr ⟨snd_iald d29_80, List.forall_mem_cons.mpr ⟨snd_max (by decide) (by decide) (List.forall_mem_cons.mpr ⟨wd917, List.forall_mem_cons.mpr ⟨wd918, List.forall_mem_cons.mpr ⟨wd128, List.forall_mem_cons.mpr ⟨wd919, fun _ h => by cases h⟩⟩⟩⟩) d29_81, List.forall_mem_cons.mpr ⟨snd_callSN (host := "SalePlaces") cn164 ⟨by decide +kernel, by decide +kernel⟩ cm164 cw164 (by decide +kernel) d29_84, List.forall_mem_cons.mpr ⟨snd_if_eq d29_87 (by decide), List.forall_mem_cons.mpr ⟨snd_iload d29_90, List.forall_mem_cons.mpr ⟨snd_aload_n d29_92 rfl, List.forall_mem_cons.mpr ⟨snd_getR (by decide) (by decide) rfl wd213 d29_93, fun _ h => by cases h⟩⟩⟩⟩⟩⟩⟩⟩⟩⟩⟩⟩⟩⟩⟩⟩⟩⟩⟩⟩⟩⟩⟩⟩⟩⟩⟩⟩⟩⟩
theorem sc29_2 : ∀ q ∈ tc29_2, Snd xtb M29 q.1 q.2 := List.forall_mem_cons.mpr ⟨snd_iload_n d29_96 rfl, List.forall_mem_cons.mpr ⟨snd_iald d29_97, List.forall_mem_cons.mpr ⟨snd_aload_n d29_98 rfl, List.forall_mem_cons.mpr ⟨snd_getR (by decide) (by decide) rfl wd213 d29_99, List.forall_mem_cons.mpr ⟨snd_iload_n d29_102 rfl, List.forall_mem_cons.mpr ⟨snd_iald d29_103, List.forall_mem_cons.mpr ⟨snd_min (by decide) (by decide) (List.forall_mem_cons.mpr ⟨wd914, List.forall_mem_cons.mpr ⟨wd915, List.forall_mem_cons.mpr ⟨wd128, List.forall_mem_cons.mpr ⟨wd916, fun _ h => by cases h⟩⟩⟩⟩) d29_104, List.forall_mem_cons.mpr ⟨snd_aload_n d29_107 rfl, List.forall_mem_cons.mpr ⟨snd_getR (by decide) (by decide) rfl wd213 d29_108, List.forall_mem_cons.mpr ⟨snd_iload_n d29_111 rfl, List.forall_mem_cons.mpr ⟨snd_iald d29_112, List.forall_mem_cons.mpr ⟨snd_aload_n d29_113 rfl, List.forall_mem_cons.mpr ⟨snd_getR (by decide) (by decide) rfl wd213 d29_114, List.forall_mem_cons.mpr ⟨snd_iload_n d29_117 rfl, List.forall_mem_cons.mpr ⟨snd_iald d29_118, List.forall_mem_cons.mpr ⟨snd_max (by decide) (by decide) (List.forall_mem_cons.mpr ⟨wd917, List.forall_mem_cons.mpr ⟨wd918, List.forall_mem_cons.mpr ⟨wd128, List.forall_mem_cons.mpr ⟨wd919, fun _ h => by cases h⟩⟩⟩⟩) d29_119, List.forall_mem_cons.mpr ⟨snd_callSN (host := "SalePlaces") cn164 ⟨by decide +kernel, by decide +kernel⟩ cm164 cw164 (by decide +kernel) d29_122, List.forall_mem_cons.mpr ⟨snd_if_eq d29_125 (by decide), List.forall_mem_cons.mpr ⟨snd_iconst d29_128 (by decide +kernel), List.forall_mem_cons.mpr ⟨snd_goto d29_129 (by decide), List.forall_mem_cons.mpr ⟨snd_iconst d29_132 (by decide +kernel), List.forall_mem_cons.mpr ⟨snd_zret rfl d29_133, fun _ h => by cases h⟩⟩⟩⟩⟩⟩⟩⟩⟩⟩⟩⟩⟩⟩⟩⟩⟩⟩⟩⟩⟩⟩
theorem d30_0 : decode (mC M30) 0 = .ok (.iload_n 1, 1) := by decide +kernel
theorem d30_1 : decode (mC M30) 1 = .ok (.bipush 6, 2) := by decide +kernel
theorem d30_3 : decode (mC M30) 3 = .ok (.imul, 1) := by decide +kernel
theorem d30_4 : decode (mC M30) 4 = .ok (.istore 5, 2) := by decide +kernel
theorem d30_6 : decode (mC M30) 6 = .ok (.iload 5, 2) := by decide +kernel
theorem d30_8 : decode (mC M30) 8 = .ok (.istore 6, 2) := by decide +kernel
theorem d30_10 : decode (mC M30) 10 = .ok (.iload 6, 2) := by decide +kernel
theorem d30_12 : decode (mC M30) 12 = .ok (.iload 5, 2) := by decide +kernel
theorem d30_14 : decode (mC M30) 14 = .ok (.aload_n 0, 1) := by decide +kernel
theorem d30_15 : decode (mC M30) 15 = .ok (.getfield 18, 3) := by decide +kernel
theorem d30_18 : decode (mC M30) 18 = .ok (.iload_n 1, 1) := by decide +kernel
theorem d30_19 : decode (mC M30) 19 = .ok (.iaload, 1) := by decide +kernel
theorem d30_20 : decode (mC M30) 20 = .ok (.iadd, 1) := by decide +kernel
theorem d30_21 : decode (mC M30) 21 = .ok (.if_icmp .ge 47, 3) := by decide +kernel
theorem d30_24 : decode (mC M30) 24 = .ok (.aload_n 0, 1) := by decide +kernel
theorem d30_25 : decode (mC M30) 25 = .ok (.getfield 21, 3) := by decide +kernel
theorem d30_28 : decode (mC M30) 28 = .ok (.iload 6, 2) := by decide +kernel
theorem d30_30 : decode (mC M30) 30 = .ok (.iaload, 1) := by decide +kernel
theorem d30_31 : decode (mC M30) 31 = .ok (.iload_n 2, 1) := by decide +kernel
theorem d30_32 : decode (mC M30) 32 = .ok (.iadd, 1) := by decide +kernel
theorem d30_33 : decode (mC M30) 33 = .ok (.iconst 0, 1) := by decide +kernel
theorem d30_34 : decode (mC M30) 34 = .ok (.iload 4, 2) := by decide +kernel
theorem d30_36 : decode (mC M30) 36 = .ok (.invokestatic 54, 3) := by decide +kernel
theorem d30_39 : decode (mC M30) 39 = .ok (.ifCond .eq 21, 3) := by decide +kernel
theorem d30_42 : decode (mC M30) 42 = .ok (.aload_n 0, 1) := by decide +kernel
theorem d30_43 : decode (mC M30) 43 = .ok (.getfield 24, 3) := by decide +kernel
theorem d30_46 : decode (mC M30) 46 = .ok (.iload 6, 2) := by decide +kernel
theorem d30_48 : decode (mC M30) 48 = .ok (.iaload, 1) := by decide +kernel
theorem d30_49 : decode (mC M30) 49 = .ok (.iload_n 3, 1) := by decide +kernel
theorem d30_50 : decode (mC M30) 50 = .ok (.iadd, 1) := by decide +kernel
theorem d30_51 : decode (mC M30) 51 = .ok (.iconst 0, 1) := by decide +kernel
theorem d30_52 : decode (mC M30) 52 = .ok (.iload 4, 2) := by decide +kernel
theorem d30_54 : decode (mC M30) 54 = .ok (.invokestatic 54, 3) := by decide +kernel
theorem d30_57 : decode (mC M30) 57 = .ok (.ifCond .ne 5, 3) := by decide +kernel
theorem d30_60 : decode (mC M30) 60 = .ok (.iconst 0, 1) := by decide +kernel
theorem d30_61 : decode (mC M30) 61 = .ok (.ireturn, 1) := by decide +kernel
theorem d30_62 : decode (mC M30) 62 = .ok (.iinc 6 1, 3) := by decide +kernel
theorem d30_65 : decode (mC M30) 65 = .ok (.goto (-55), 3) := by decide +kernel
theorem d30_68 : decode (mC M30) 68 = .ok (.iconst 1, 1) := by decide +kernel
theorem d30_69 : decode (mC M30) 69 = .ok (.ireturn, 1) := by decide +kernel
theorem sc30_0 : ∀ q ∈ tc30_0, Snd xtb M30 q.1 q.2 := List.forall_mem_cons.mpr ⟨snd_iload_n d30_0 rfl, List.forall_mem_cons.mpr ⟨snd_bipush d30_1 (by decide +kernel), List.forall_mem_cons.mpr ⟨snd_imul d30_3, List.forall_mem_cons.mpr ⟨snd_istore d30_4, List.forall_mem_cons.mpr ⟨snd_iload d30_6, List.forall_mem_cons.mpr ⟨snd_istore d30_8, List.forall_mem_cons.mpr ⟨snd_iload d30_10, List.forall_mem_cons.mpr ⟨snd_iload d30_12, List.forall_mem_cons.mpr ⟨snd_aload_n d30_14 rfl, List.forall_mem_cons.mpr ⟨snd_getR (by decide) (by decide) rfl wd209 d30_15, List.forall_mem_cons.mpr ⟨snd_iload_n d30_18 rfl, List.forall_mem_cons.mpr ⟨snd_iald d30_19, List.forall_mem_cons.mpr ⟨snd_iadd d30_20, List.forall_mem_cons.mpr ⟨snd_cmp_ge d30_21 (by decide), List.forall_mem_cons.mpr ⟨snd_aload_n d30_24 rfl, List.forall_mem_cons.mpr ⟨snd_getR (by decide) (by decide) rfl wd211 d30_25, List.forall_mem_cons.mpr ⟨snd_iload d30_28, List.forall_mem_cons.mpr ⟨snd_iald d30_30, List.forall_mem_cons.mpr ⟨snd_iload_n d30_31 rfl, List.forall_mem_cons.mpr ⟨snd_iadd d30_32, List.forall_mem_cons.mpr ⟨snd_iconst d30_33 (by decide +kernel), List.forall_mem_cons.mpr ⟨snd_iload d30_34, List.forall_mem_cons.mpr ⟨snd_callSN (host := "SalePlaces") cn164 ⟨by decide +kernel, by decide +kernel⟩ cm164 cw164 (by decide +kernel) d30_36, List.forall_mem_cons.mpr ⟨snd_if_eq d30_39 (by decide), List.forall_mem_cons.mpr ⟨snd_aload_n d30_42 rfl, List.forall_mem_cons.mpr ⟨snd_getR (by decide) (by decide) rfl wd213 d30_43, List.forall_mem_cons.mpr ⟨snd_iload d30_46, List.forall_mem_cons.mpr ⟨snd_iald d30_48, List.forall_mem_cons.mpr ⟨snd_iload_n d30_49 rfl, List.forall_mem_cons.mpr ⟨snd_iadd d30_50, fun _ h => by cases h⟩⟩⟩⟩⟩⟩⟩⟩⟩⟩⟩⟩⟩⟩⟩⟩⟩⟩⟩⟩⟩⟩⟩⟩⟩⟩⟩⟩⟩⟩
theorem sc30_1 : ∀ q ∈ tc30_1, Snd xtb M30 q.1 q.2 := List.forall_mem_cons.mpr ⟨snd_iconst d30_51 (by decide +kernel), List.forall_mem_cons.mpr ⟨snd_iload d30_52, List.forall_mem_cons.mpr ⟨snd_callSN (host := "SalePlaces") cn164 ⟨by decide +kernel, by decide +kernel⟩ cm164 cw164 (by decide +kernel) d30_54, List.forall_mem_cons.mpr ⟨snd_if_ne d30_57 (by decide), List.forall_mem_cons.mpr ⟨snd_iconst d30_60 (by decide +kernel), List.forall_mem_cons.mpr ⟨snd_zret rfl d30_61, List.forall_mem_cons.mpr ⟨snd_iinc d30_62 (by decide +kernel), List.forall_mem_cons.mpr ⟨snd_goto d30_65 (by decide), List.forall_mem_cons.mpr ⟨snd_iconst d30_68 (by decide +kernel), List.forall_mem_cons.mpr ⟨snd_zret rfl d30_69, fun _ h => by cases h⟩⟩⟩⟩⟩⟩⟩⟩⟩⟩
theorem d31_0 : decode (mC M31) 0 = .ok (.aload_n 0, 1) := by decide +kernel
theorem d31_1 : decode (mC M31) 1 = .ok (.getfield 21, 3) := by decide +kernel
theorem d31_4 : decode (mC M31) 4 = .ok (.aload_n 0, 1) := by decide +kernel
theorem d31_5 : decode (mC M31) 5 = .ok (.getfield 27, 3) := by decide +kernel
theorem d31_8 : decode (mC M31) 8 = .ok (.bipush 6, 2) := by decide +kernel
theorem d31_10 : decode (mC M31) 10 = .ok (.imul, 1) := by decide +kernel
theorem d31_11 : decode (mC M31) 11 = .ok (.iload_n 1, 1) := by decide +kernel
theorem d31_12 : decode (mC M31) 12 = .ok (.iadd, 1) := by decide +kernel
theorem d31_13 : decode (mC M31) 13 = .ok (.iload_n 2, 1) := by decide +kernel
theorem d31_14 : decode (mC M31) 14 = .ok (.iastore, 1) := by decide +kernel
theorem d31_15 : decode (mC M31) 15 = .ok (.aload_n 0, 1) := by decide +kernel
theorem d31_16 : decode (mC M31) 16 = .ok (.getfield 24, 3) := by decide +kernel
theorem d31_19 : decode (mC M31) 19 = .ok (.aload_n 0, 1) := by decide +kernel
theorem d31_20 : decode (mC M31) 20 = .ok (.getfield 27, 3) := by decide +kernel
theorem d31_23 : decode (mC M31) 23 = .ok (.bipush 6, 2) := by decide +kernel
theorem d31_25 : decode (mC M31) 25 = .ok (.imul, 1) := by decide +kernel
theorem d31_26 : decode (mC M31) 26 = .ok (.iload_n 1, 1) := by decide +kernel
theorem d31_27 : decode (mC M31) 27 = .ok (.iadd, 1) := by decide +kernel
theorem d31_28 : decode (mC M31) 28 = .ok (.iload_n 3, 1) := by decide +kernel
theorem d31_29 : decode (mC M31) 29 = .ok (.iastore, 1) := by decide +kernel
theorem d31_30 : decode (mC M31) 30 = .ok (.return_, 1) := by decide +kernel
theorem sc31_0 : ∀ q ∈ tc31_0, Snd xtb M31 q.1 q.2 := List.forall_mem_cons.mpr ⟨snd_aload_n d31_0 rfl, List.forall_mem_cons.mpr ⟨snd_getR (by decide) (by decide) rfl wd211 d31_1, List.forall_mem_cons.mpr ⟨snd_aload_n d31_4 rfl, List.forall_mem_cons.mpr ⟨snd_getI (by decide) (by decide) rfl wd202 d31_5, List.forall_mem_cons.mpr ⟨snd_bipush d31_8 (by decide +kernel), List.forall_mem_cons.mpr ⟨snd_imul d31_10, List.forall_mem_cons.mpr ⟨snd_iload_n d31_11 rfl, List.forall_mem_cons.mpr ⟨snd_iadd d31_12, List.forall_mem_cons.mpr ⟨snd_iload_n d31_13 rfl, List.forall_mem_cons.mpr ⟨snd_iast d31_14, List.forall_mem_cons.mpr ⟨snd_aload_n d31_15 rfl, List.forall_mem_cons.mpr ⟨snd_getR (by decide) (by decide) rfl wd213 d31_16, List.forall_mem_cons.mpr ⟨snd_aload_n d31_19 rfl, List.forall_mem_cons.mpr ⟨snd_getI (by decide) (by decide) rfl wd202 d31_20, List.forall_mem_cons.mpr ⟨snd_bipush d31_23 (by decide +kernel), List.forall_mem_cons.mpr ⟨snd_imul d31_25, List.forall_mem_cons.mpr ⟨snd_iload_n d31_26 rfl, List.forall_mem_cons.mpr ⟨snd_iadd d31_27, List.forall_mem_cons.mpr ⟨snd_iload_n d31_28 rfl, List.forall_mem_cons.mpr ⟨snd_iast d31_29, List.forall_mem_cons.mpr ⟨snd_vret rfl d31_30, fun _ h => by cases h⟩⟩⟩⟩⟩⟩⟩⟩⟩⟩⟩⟩⟩⟩⟩⟩⟩⟩⟩⟩⟩
theorem d32_0 : decode (mC M32) 0 = .ok (.aload_n 0, 1) := by decide +kernel
theorem d32_1 : decode (mC M32) 1 = .ok (.getfield 9, 3) := by decide +kernel
theorem d32_4 : decode (mC M32) 4 = .ok (.aload_n 0, 1) := by decide +kernel
theorem d32_5 : decode (mC M32) 5 = .ok (.getfield 27, 3) := by decide +kernel
theorem d32_8 : decode (mC M32) 8 = .ok (.iload_n 1, 1) := by decide +kernel
theorem d32_9 : decode (mC M32) 9 = .ok (.iastore, 1) := by decide +kernel
theorem d32_10 : decode (mC M32) 10 = .ok (.aload_n 0, 1) := by decide +kernel
theorem d32_11 : decode (mC M32) 11 = .ok (.getfield 15, 3) := by decide +kernel
theorem d32_14 : decode (mC M32) 14 = .ok (.aload_n 0, 1) := by decide +kernel
theorem d32_15 : decode (mC M32) 15 = .ok (.getfield 27, 3) := by decide +kernel
theorem d32_18 : decode (mC M32) 18 = .ok (.iload_n 2, 1) := by decide +kernel
theorem d32_19 : decode (mC M32) 19 = .ok (.iastore, 1) := by decide +kernel
theorem d32_20 : decode (mC M32) 20 = .ok (.aload_n 0, 1) := by decide +kernel
theorem d32_21 : decode (mC M32) 21 = .ok (.getfield 18, 3) := by decide +kernel
theorem d32_24 : decode (mC M32) 24 = .ok (.aload_n 0, 1) := by decide +kernel
theorem d32_25 : decode (mC M32) 25 = .ok (.getfield 27, 3) := by decide +kernel
theorem d32_28 : decode (mC M32) 28 = .ok (.iload_n 3, 1) := by decide +kernel
theorem d32_29 : decode (mC M32) 29 = .ok (.iastore, 1) := by decide +kernel
theorem d32_30 : decode (mC M32) 30 = .ok (.aload_n 0, 1) := by decide +kernel
theorem d32_31 : decode (mC M32) 31 = .ok (.dup, 1) := by decide +kernel
theorem d32_32 : decode (mC M32) 32 = .ok (.getfield 27, 3) := by decide +kernel
theorem d32_35 : decode (mC M32) 35 = .ok (.iconst 1, 1) := by decide +kernel
theorem d32_36 : decode (mC M32) 36 = .ok (.iadd, 1) := by decide +kernel
theorem d32_37 : decode (mC M32) 37 = .ok (.putfield 27, 3) := by decide +kernel
theorem d32_40 : decode (mC M32) 40 = .ok (.return_, 1) := by decide +kernel
theorem sc32_0 : ∀ q ∈ tc32_0, Snd xtb M32 q.1 q.2 := List.forall_mem_cons.mpr ⟨snd_aload_n d32_0 rfl, List.forall_mem_cons.mpr ⟨snd_getR (by decide) (by decide) rfl wd207 d32_1, List.forall_mem_cons.mpr ⟨snd_aload_n d32_4 rfl, List.forall_mem_cons.mpr ⟨snd_getI (by decide) (by decide) rfl wd202 d32_5, List.forall_mem_cons.mpr ⟨snd_iload_n d32_8 rfl, List.forall_mem_cons.mpr ⟨snd_iast d32_9, List.forall_mem_cons.mpr ⟨snd_aload_n d32_10 rfl, List.forall_mem_cons.mpr ⟨snd_getR (by decide) (by decide) rfl wd208 d32_11, List.forall_mem_cons.mpr ⟨snd_aload_n d32_14 rfl, List.forall_mem_cons.mpr ⟨snd_getI (by decide) (by decide) rfl wd202 d32_15, List.forall_mem_cons.mpr ⟨snd_iload_n d32_18 rfl, List.forall_mem_cons.mpr ⟨snd_iast d32_19, List.forall_mem_cons.mpr ⟨snd_aload_n d32_20 rfl, List.forall_mem_cons.mpr ⟨snd_getR (by decide) (by decide) rfl wd209 d32_21, List.forall_mem_cons.mpr ⟨snd_aload_n d32_24 rfl, List.forall_mem_cons.mpr ⟨snd_getI (by decide) (by decide) rfl wd202 d32_25, List.forall_mem_cons.mpr ⟨snd_iload_n d32_28 rfl, List.forall_mem_cons.mpr ⟨snd_iast d32_29, List.forall_mem_cons.mpr ⟨snd_aload_n d32_30 rfl, List.forall_mem_cons.mpr ⟨snd_dup d32_31, List.forall_mem_cons.mpr ⟨snd_getI (by decide) (by decide) rfl wd202 d32_32, List.forall_mem_cons.mpr ⟨snd_iconst d32_35 (by decide +kernel), List.forall_mem_cons.mpr ⟨snd_iadd d32_36, List.forall_mem_cons.mpr ⟨snd_putI (by decide) (by decide) rfl rfl wd202 d32_37, List.forall_mem_cons.mpr ⟨snd_vret rfl d32_40, fun _ h => by cases h⟩⟩⟩⟩⟩⟩⟩⟩⟩⟩⟩⟩⟩⟩⟩⟩⟩⟩⟩⟩⟩⟩⟩⟩⟩
theorem d33_0 : decode (mC M33) 0 = .ok (.iconst 0, 1) := by decide +kernel
theorem d33_1 : decode (mC M33) 1 = .ok (.istore 5, 2) := by decide +kernel
theorem d33_3 : decode (mC M33) 3 = .ok (.iload 5, 2) := by decide +kernel
theorem d33_5 : decode (mC M33) 5 = .ok (.aload_n 0, 1) := by decide +kernel
theorem d33_6 : decode (mC M33) 6 = .ok (.getfield 18, 3) := by decide +kernel
theorem d33_9 : decode (mC M33) 9 = .ok (.iload_n 1, 1) := by decide +kernel
theorem d33_10 : decode (mC M33) 10 = .ok (.iaload, 1) := by decide +kernel
theorem d33_11 : decode (mC M33) 11 = .ok (.if_icmp .ge 44, 3) := by decide +kernel
theorem d33_14 : decode (mC M33) 14 = .ok (.aload_n 0, 1) := by decide +kernel
theorem d33_15 : decode (mC M33) 15 = .ok (.iload 5, 2) := by decide +kernel
theorem d33_17 : decode (mC M33) 17 = .ok (.aload_n 0, 1) := by decide +kernel
theorem d33_18 : decode (mC M33) 18 = .ok (.getfield 21, 3) := by decide +kernel
theorem d33_21 : decode (mC M33) 21 = .ok (.iload_n 1, 1) := by decide +kernel
theorem d33_22 : decode (mC M33) 22 = .ok (.bipush 6, 2) := by decide +kernel
theorem d33_24 : decode (mC M33) 24 = .ok (.imul, 1) := by decide +kernel
theorem d33_25 : decode (mC M33) 25 = .ok (.iload 5, 2) := by decide +kernel
theorem d33_27 : decode (mC M33) 27 = .ok (.iadd, 1) := by decide +kernel
theorem d33_28 : decode (mC M33) 28 = .ok (.iaload, 1) := by decide +kernel
theorem d33_29 : decode (mC M33) 29 = .ok (.iload_n 3, 1) := by decide +kernel
theorem d33_30 : decode (mC M33) 30 = .ok (.iadd, 1) := by decide +kernel
theorem d33_31 : decode (mC M33) 31 = .ok (.aload_n 0, 1) := by decide +kernel
theorem d33_32 : decode (mC M33) 32 = .ok (.getfield 24, 3) := by decide +kernel
theorem d33_35 : decode (mC M33) 35 = .ok (.iload_n 1, 1) := by decide +kernel
theorem d33_36 : decode (mC M33) 36 = .ok (.bipush 6, 2) := by decide +kernel
theorem d33_38 : decode (mC M33) 38 = .ok (.imul, 1) := by decide +kernel
theorem d33_39 : decode (mC M33) 39 = .ok (.iload 5, 2) := by decide +kernel
theorem d33_41 : decode (mC M33) 41 = .ok (.iadd, 1) := by decide +kernel
theorem d33_42 : decode (mC M33) 42 = .ok (.iaload, 1) := by decide +kernel
theorem d33_43 : decode (mC M33) 43 = .ok (.iload 4, 2) := by decide +kernel
theorem d33_45 : decode (mC M33) 45 = .ok (.iadd, 1) := by decide +kernel
theorem d33_46 : decode (mC M33) 46 = .ok (.invokevirtual 58, 3) := by decide +kernel
theorem d33_49 : decode (mC M33) 49 = .ok (.iinc 5 1, 3) := by decide +kernel
theorem d33_52 : decode (mC M33) 52 = .ok (.goto (-49), 3) := by decide +kernel
theorem d33_55 : decode (mC M33) 55 = .ok (.aload_n 0, 1) := by decide +kernel
theorem d33_56 : decode (mC M33) 56 = .ok (.aload_n 0, 1) := by decide +kernel
theorem d33_57 : decode (mC M33) 57 = .ok (.getfield 9, 3) := by decide +kernel
theorem d33_60 : decode (mC M33) 60 = .ok (.iload_n 1, 1) := by decide +kernel
theorem d33_61 : decode (mC M33) 61 = .ok (.iaload, 1) := by decide +kernel
theorem d33_62 : decode (mC M33) 62 = .ok (.iload_n 2, 1) := by decide +kernel
theorem d33_63 : decode (mC M33) 63 = .ok (.aload_n 0, 1) := by decide +kernel
theorem d33_64 : decode (mC M33) 64 = .ok (.getfield 18, 3) := by decide +kernel
theorem d33_67 : decode (mC M33) 67 = .ok (.iload_n 1, 1) := by decide +kernel
theorem d33_68 : decode (mC M33) 68 = .ok (.iaload, 1) := by decide +kernel
theorem d33_69 : decode (mC M33) 69 = .ok (.invokevirtual 62, 3) := by decide +kernel
theorem d33_72 : decode (mC M33) 72 = .ok (.return_, 1) := by decide +kernel
theorem sc33_0 : ∀ q ∈ tc33_0, Snd xtb M33 q.1 q.2 := List.forall_mem_cons.mpr ⟨snd_iconst d33_0 (by decide +kernel), List.forall_mem_cons.mpr ⟨snd_istore d33_1, List.forall_mem_cons.mpr ⟨snd_iload d33_3, List.forall_mem_cons.mpr ⟨snd_aload_n d33_5 rfl, List.forall_mem_cons.mpr ⟨snd_getR (by decide) (by decide) rfl wd209 d33_6, List.forall_mem_cons.mpr ⟨snd_iload_n d33_9 rfl, List.forall_mem_cons.mpr ⟨snd_iald d33_10, List.forall_mem_cons.mpr ⟨snd_cmp_ge d33_11 (by decide), List.forall_mem_cons.mpr ⟨snd_aload_n d33_14 rfl, List.forall_mem_cons.mpr ⟨snd_iload d33_15, List.forall_mem_cons.mpr ⟨snd_aload_n d33_17 rfl, List.forall_mem_cons.mpr ⟨snd_getR (by decide) (by decide) rfl wd211 d33_18, List.forall_mem_cons.mpr ⟨snd_iload_n d33_21 rfl, List.forall_mem_cons.mpr ⟨snd_bipush d33_22 (by decide +kernel), List.forall_mem_cons.mpr ⟨snd_imul d33_24, List.forall_mem_cons.mpr ⟨snd_iload d33_25, List.forall_mem_cons.mpr ⟨snd_iadd d33_27, List.forall_mem_cons.mpr ⟨snd_iald d33_28, List.forall_mem_cons.mpr ⟨snd_iload_n d33_29 rfl, List.forall_mem_cons.mpr ⟨snd_iadd d33_30, List.forall_mem_cons.mpr ⟨snd_aload_n d33_31 rfl, List.forall_mem_cons.mpr ⟨snd_getR (by decide) (by decide) rfl wd213 d33_32, List.forall_mem_cons.mpr ⟨snd_iload_n d33_35 rfl, List.forall_mem_cons.mpr ⟨snd_bipush d33_36 (by decide +kernel), List.forall_mem_cons.mpr ⟨snd_imul d33_38, List.forall_mem_cons.mpr ⟨snd_iload d33_39, List.forall_mem_cons.mpr ⟨snd_iadd d33_41, List.forall_mem_cons.mpr ⟨snd_iald d33_42, List.forall_mem_cons.mpr ⟨snd_iload d33_43, List.forall_mem_cons.mpr ⟨snd_iadd d33_45, fun _ h => by cases h⟩⟩⟩⟩⟩⟩⟩⟩⟩⟩⟩⟩⟩⟩⟩⟩⟩⟩⟩⟩⟩⟩⟩⟩⟩⟩⟩⟩⟩⟩
theorem sc33_1 : ∀ q ∈ tc33_1, Snd xtb M33 q.1 q.2 := List.forall_mem_cons.mpr ⟨snd_callV (by decide) rfl cn31 ⟨by decide +kernel, by decide +kernel⟩ cm31 (List.forall_mem_cons.mpr ⟨wd1252, cw31⟩) d33_46, List.forall_mem_cons.mpr ⟨snd_iinc d33_49 (by decide +kernel), List.forall_mem_cons.mpr ⟨snd_goto d33_52 (by decide), List.forall_mem_cons.mpr ⟨snd_aload_n d33_55 rfl, List.forall_mem_cons.mpr ⟨snd_aload_n d33_56 rfl, List.forall_mem_cons.mpr ⟨snd_getR (by decide) (by decide) rfl wd207 d33_57, List.forall_mem_cons.mpr ⟨snd_iload_n d33_60 rfl, List.forall_mem_cons.mpr ⟨snd_iald d33_61, List.forall_mem_cons.mpr ⟨snd_iload_n d33_62 rfl, List.forall_mem_cons.mpr ⟨snd_aload_n d33_63 rfl, List.forall_mem_cons.mpr ⟨snd_getR (by decide) (by decide) rfl wd209 d33_64, List.forall_mem_cons.mpr ⟨snd_iload_n d33_67 rfl, List.forall_mem_cons.mpr ⟨snd_iald d33_68, List.forall_mem_cons.mpr ⟨snd_callV (by decide) rfl cn32 ⟨by decide +kernel, by decide +kernel⟩ cm32 (List.forall_mem_cons.mpr ⟨wd1253, cw32⟩) d33_69, List.forall_mem_cons.mpr ⟨snd_vret rfl d33_72, fun _ h => by cases h⟩⟩⟩⟩⟩⟩⟩⟩⟩⟩⟩⟩⟩⟩⟩
theorem d34_0 : decode (mC M34) 0 = .ok (.aload_n 0, 1) := by decide +kernel
theorem d34_1 : decode (mC M34) 1 = .ok (.invokespecial 3, 3) := by decide +kernel
theorem d34_4 : decode (mC M34) 4 = .ok (.aload_n 0, 1) := by decide +kernel
theorem d34_5 : decode (mC M34) 5 = .ok (.new 9, 3) := by decide +kernel
theorem d34_8 : decode (mC M34) 8 = .ok (.dup, 1) := by decide +kernel
theorem d34_9 : decode (mC M34) 9 = .ok (.invokespecial 11, 3) := by decide +kernel
theorem d34_12 : decode (mC M34) 12 = .ok (.putfield 12, 3) := by decide +kernel
theorem d34_15 : decode (mC M34) 15 = .ok (.aload_n 0, 1) := by decide +kernel
theorem d34_16 : decode (mC M34) 16 = .ok (.new 18, 3) := by decide +kernel
theorem d34_19 : decode (mC M34) 19 = .ok (.dup, 1) := by decide +kernel
theorem d34_20 : decode (mC M34) 20 = .ok (.invokespecial 20, 3) := by decide +kernel
theorem d34_23 : decode (mC M34) 23 = .ok (.putfield 21, 3) := by decide +kernel
theorem d34_26 : decode (mC M34) 26 = .ok (.aload_n 0, 1) := by decide +kernel
theorem d34_27 : decode (mC M34) 27 = .ok (.bipush 10, 2) := by decide +kernel
theorem d34_29 : decode (mC M34) 29 = .ok (.newarray .int, 2) := by decide +kernel
theorem d34_31 : decode (mC M34) 31 = .ok (.putfield 25, 3) := by decide +kernel
theorem d34_34 : decode (mC M34) 34 = .ok (.return_, 1) := by decide +kernel
theorem sc34_0 : ∀ q ∈ tc34_0, Snd xtb M34 q.1 q.2 := List.forall_mem_cons.mpr ⟨snd_aload_n d34_0 rfl, List.forall_mem_cons.mpr ⟨snd_obj (by decide) (by decide) (List.forall_mem_cons.mpr ⟨wd189, List.forall_mem_cons.mpr ⟨wd139, List.forall_mem_cons.mpr ⟨wd140, fun _ h => by cases h⟩⟩⟩) d34_1, List.forall_mem_cons.mpr ⟨snd_aload_n d34_4 rfl, List.forall_mem_cons.mpr ⟨snd_new (by decide) (by decide +kernel) (List.forall_mem_cons.mpr ⟨wd190, List.forall_mem_cons.mpr ⟨wd191, List.forall_mem_cons.mpr ⟨wd116, fun _ h => by cases h⟩⟩⟩) d34_5, List.forall_mem_cons.mpr ⟨snd_dup d34_8, List.forall_mem_cons.mpr ⟨snd_callIN (host := "SalePlaces") (by decide) rfl rfl cn42 ⟨by decide +kernel, by decide +kernel⟩ cm42 cw42 (by decide +kernel) d34_9, List.forall_mem_cons.mpr ⟨snd_putRF (by decide) (by decide) rfl rfl rfl rfl wd362 d34_12, List.forall_mem_cons.mpr ⟨snd_aload_n d34_15 rfl, List.forall_mem_cons.mpr ⟨snd_new (by decide) (by decide +kernel) (List.forall_mem_cons.mpr ⟨wd277, List.forall_mem_cons.mpr ⟨wd278, List.forall_mem_cons.mpr ⟨wd118, fun _ h => by cases h⟩⟩⟩) d34_16, List.forall_mem_cons.mpr ⟨snd_dup d34_19, List.forall_mem_cons.mpr ⟨snd_callIN (host := "SalePlaces") (by decide) rfl rfl cn94 ⟨by decide +kernel, by decide +kernel⟩ cm94 cw94 (by decide +kernel) d34_20, List.forall_mem_cons.mpr ⟨snd_putRF (by decide) (by decide) rfl rfl rfl rfl wd365 d34_23, List.forall_mem_cons.mpr ⟨snd_aload_n d34_26 rfl, List.forall_mem_cons.mpr ⟨snd_bipush d34_27 (by decide +kernel), List.forall_mem_cons.mpr ⟨snd_newa (ty := .int) (k := 1) rfl (by decide +kernel) wd229 d34_29, List.forall_mem_cons.mpr ⟨snd_putRF (by decide) (by decide) rfl rfl rfl rfl wd368 d34_31, List.forall_mem_cons.mpr ⟨snd_vret rfl d34_34, fun _ h => by cases h⟩⟩⟩⟩⟩⟩⟩⟩⟩⟩⟩⟩⟩⟩⟩⟩⟩
theorem d35_0 : decode (mC M35) 0 = .ok (.aload_n 0, 1) := by decide +kernel
theorem d35_1 : decode (mC M35) 1 = .ok (.getfield 12, 3) := by decide +kernel
theorem d35_4 : decode (mC M35) 4 = .ok (.iload_n 1, 1) := by decide +kernel
theorem d35_5 : decode (mC M35) 5 = .ok (.iload_n 2, 1) := by decide +kernel
theorem d35_6 : decode (mC M35) 6 = .ok (.invokevirtual 29, 3) := by decide +kernel
theorem d35_9 : decode (mC M35) 9 = .ok (.aload_n 0, 1) := by decide +kernel
theorem d35_10 : decode (mC M35) 10 = .ok (.getfield 21, 3) := by decide +kernel
theorem d35_13 : decode (mC M35) 13 = .ok (.invokevirtual 33, 3) := by decide +kernel
theorem d35_16 : decode (mC M35) 16 = .ok (.return_, 1) := by decide +kernel
theorem sc35_0 : ∀ q ∈ tc35_0, Snd xtb M35 q.1 q.2 := List.forall_mem_cons.mpr ⟨snd_aload_n d35_0 rfl, List.forall_mem_cons.mpr ⟨snd_getR (by decide) (by decide) rfl wd362 d35_1, List.forall_mem_cons.mpr ⟨snd_iload_n d35_4 rfl, List.forall_mem_cons.mpr ⟨snd_iload_n d35_5 rfl, List.forall_mem_cons.mpr ⟨snd_callV (by decide) rfl cn43 ⟨by decide +kernel, by decide +kernel⟩ cm43 (List.forall_mem_cons.mpr ⟨wd679, cw43⟩) d35_6, List.forall_mem_cons.mpr ⟨snd_aload_n d35_9 rfl, List.forall_mem_cons.mpr ⟨snd_getR (by decide) (by decide) rfl wd365 d35_10, List.forall_mem_cons.mpr ⟨snd_callV (by decide) rfl cn95 ⟨by decide +kernel, by decide +kernel⟩ cm95 (List.forall_mem_cons.mpr ⟨wd683, cw95⟩) d35_13, List.forall_mem_cons.mpr ⟨snd_vret rfl d35_16, fun _ h => by cases h⟩⟩⟩⟩⟩⟩⟩⟩⟩
theorem d36_0 : decode (mC M36) 0 = .ok (.iload_n 1, 1) := by decide +kernel
theorem d36_1 : decode (mC M36) 1 = .ok (.tableswitch 105 0 6 #[43, 51, 59, 67, 75, 86, 97], 43) := by decide +kernel
theorem d36_44 : decode (mC M36) 44 = .ok (.aload_n 0, 1) := by decide +kernel
theorem d36_45 : decode (mC M36) 45 = .ok (.getfield 12, 3) := by decide +kernel
theorem d36_48 : decode (mC M36) 48 = .ok (.getfield 35, 3) := by decide +kernel
theorem d36_51 : decode (mC M36) 51 = .ok (.ireturn, 1) := by decide +kernel
theorem d36_52 : decode (mC M36) 52 = .ok (.aload_n 0, 1) := by decide +kernel
theorem d36_53 : decode (mC M36) 53 = .ok (.getfield 12, 3) := by decide +kernel
theorem d36_56 : decode (mC M36) 56 = .ok (.getfield 39, 3) := by decide +kernel
theorem d36_59 : decode (mC M36) 59 = .ok (.ireturn, 1) := by decide +kernel
theorem d36_60 : decode (mC M36) 60 = .ok (.aload_n 0, 1) := by decide +kernel
theorem d36_61 : decode (mC M36) 61 = .ok (.getfield 21, 3) := by decide +kernel
theorem d36_64 : decode (mC M36) 64 = .ok (.getfield 42, 3) := by decide +kernel
theorem d36_67 : decode (mC M36) 67 = .ok (.ireturn, 1) := by decide +kernel
theorem d36_68 : decode (mC M36) 68 = .ok (.aload_n 0, 1) := by decide +kernel
theorem d36_69 : decode (mC M36) 69 = .ok (.getfield 12, 3) := by decide +kernel
theorem d36_72 : decode (mC M36) 72 = .ok (.getfield 45, 3) := by decide +kernel
theorem d36_75 : decode (mC M36) 75 = .ok (.ireturn, 1) := by decide +kernel
theorem d36_76 : decode (mC M36) 76 = .ok (.aload_n 0, 1) := by decide +kernel
theorem d36_77 : decode (mC M36) 77 = .ok (.getfield 12, 3) := by decide +kernel
theorem d36_80 : decode (mC M36) 80 = .ok (.getfield 48, 3) := by decide +kernel
theorem d36_83 : decode (mC M36) 83 = .ok (.getfield 52, 3) := by decide +kernel
theorem d36_86 : decode (mC M36) 86 = .ok (.ireturn, 1) := by decide +kernel
theorem d36_87 : decode (mC M36) 87 = .ok (.aload_n 0, 1) := by decide +kernel
theorem d36_88 : decode (mC M36) 88 = .ok (.getfield 21, 3) := by decide +kernel
theorem d36_91 : decode (mC M36) 91 = .ok (.getfield 57, 3) := by decide +kernel
theorem d36_94 : decode (mC M36) 94 = .ok (.getfield 61, 3) := by decide +kernel
theorem d36_97 : decode (mC M36) 97 = .ok (.ireturn, 1) := by decide +kernel
theorem d36_98 : decode (mC M36) 98 = .ok (.aload_n 0, 1) := by decide +kernel
theorem d36_99 : decode (mC M36) 99 = .ok (.getfield 21, 3) := by decide +kernel
theorem d36_102 : decode (mC M36) 102 = .ok (.getfield 64, 3) := by decide +kernel
theorem d36_105 : decode (mC M36) 105 = .ok (.ireturn, 1) := by decide +kernel
theorem d36_106 : decode (mC M36) 106 = .ok (.aload_n 0, 1) := by decide +kernel
theorem d36_107 : decode (mC M36) 107 = .ok (.getfield 21, 3) := by decide +kernel
theorem d36_110 : decode (mC M36) 110 = .ok (.getfield 67, 3) := by decide +kernel
theorem d36_113 : decode (mC M36) 113 = .ok (.ireturn, 1) := by decide +kernel
theorem sc36_0 : ∀ q ∈ tc36_0, Snd xtb M36 q.1 q.2 := List.forall_mem_cons.mpr ⟨snd_iload_n d36_0 rfl, List.forall_mem_cons.mpr ⟨snd_tsw d36_1 (by decide +kernel), List.forall_mem_cons.mpr ⟨snd_aload_n d36_44 rfl, List.forall_mem_cons.mpr ⟨snd_getR (by decide) (by decide) rfl wd362 d36_45, List.forall_mem_cons.mpr ⟨snd_getI (by decide) (by decide) rfl wd232 d36_48, List.forall_mem_cons.mpr ⟨snd_iret rfl d36_51, List.forall_mem_cons.mpr ⟨snd_aload_n d36_52 rfl, List.forall_mem_cons.mpr ⟨snd_getR (by decide) (by decide) rfl wd362 d36_53, List.forall_mem_cons.mpr ⟨snd_getI (by decide) (by decide) rfl wd236 d36_56, List.forall_mem_cons.mpr ⟨snd_iret rfl d36_59, List.forall_mem_cons.mpr ⟨snd_aload_n d36_60 rfl, List.forall_mem_cons.mpr ⟨snd_getR (by decide) (by decide) rfl wd365 d36_61, List.forall_mem_cons.mpr ⟨snd_getI (by decide) (by decide) rfl wd313 d36_64, List.forall_mem_cons.mpr ⟨snd_iret rfl d36_67, List.forall_mem_cons.mpr ⟨snd_aload_n d36_68 rfl, List.forall_mem_cons.mpr ⟨snd_getR (by decide) (by decide) rfl wd362 d36_69, List.forall_mem_cons.mpr ⟨snd_getI (by decide) (by decide) rfl wd241 d36_72, List.forall_mem_cons.mpr ⟨snd_iret rfl d36_75, List.forall_mem_cons.mpr ⟨snd_aload_n d36_76 rfl, List.forall_mem_cons.mpr ⟨snd_getR (by decide) (by decide) rfl wd362 d36_77, List.forall_mem_cons.mpr ⟨snd_getR (by decide) (by decide) rfl wd248 d36_80, List.forall_mem_cons.mpr ⟨snd_getI (by decide) (by decide) rfl wd204 d36_83, List.forall_mem_cons.mpr ⟨snd_iret rfl d36_86, List.forall_mem_cons.mpr ⟨snd_aload_n d36_87 rfl, List.forall_mem_cons.mpr ⟨snd_getR (by decide) (by decide) rfl wd365 d36_88, List.forall_mem_cons.mpr ⟨snd_getR (by decide) (by decide) rfl wd318 d36_91, List.forall_mem_cons.mpr ⟨snd_getI (by decide) (by decide) rfl wd291 d36_94, List.forall_mem_cons.mpr ⟨snd_iret rfl d36_97, List.forall_mem_cons.mpr ⟨snd_aload_n d36_98 rfl, List.forall_mem_cons.mpr ⟨snd_getR (by decide) (by decide) rfl wd365 d36_99, fun _ h => by cases h⟩⟩⟩⟩⟩⟩⟩⟩⟩⟩⟩⟩⟩⟩⟩⟩⟩⟩⟩⟩⟩⟩⟩⟩⟩⟩⟩⟩⟩⟩
theorem sc36_1 : ∀ q ∈ tc36_1, Snd xtb M36 q.1 q.2 := List.forall_mem_cons.mpr ⟨snd_getI (by decide) (by decide) rfl wd322 d36_102, List.forall_mem_cons.mpr ⟨snd_iret rfl d36_105, List.forall_mem_cons.mpr ⟨snd_aload_n d36_106 rfl, List.forall_mem_cons.mpr ⟨snd_getR (by decide) (by decide) rfl wd365 d36_107, List.forall_mem_cons.mpr ⟨snd_getI (by decide) (by decide) rfl wd330 d36_110, List.forall_mem_cons.mpr ⟨snd_iret rfl d36_113, fun _ h => by cases h⟩⟩⟩⟩⟩⟩
theorem d37_0 : decode (mC M37) 0 = .ok (.aload_n 0, 1) := by decide +kernel
theorem d37_1 : decode (mC M37) 1 = .ok (.getfield 12, 3) := by decide +kernel
theorem d37_4 : decode (mC M37) 4 = .ok (.getfield 48, 3) := by decide +kernel
theorem d37_7 : decode (mC M37) 7 = .ok (.iload_n 1, 1) := by decide +kernel
theorem d37_8 : decode (mC M37) 8 = .ok (.invokevirtual 70, 3) := by decide +kernel
theorem d37_11 : decode (mC M37) 11 = .ok (.aload_n 0, 1) := by decide +kernel
theorem d37_12 : decode (mC M37) 12 = .ok (.getfield 21, 3) := by decide +kernel
theorem d37_15 : decode (mC M37) 15 = .ok (.iload_n 1, 1) := by decide +kernel
theorem d37_16 : decode (mC M37) 16 = .ok (.invokevirtual 74, 3) := by decide +kernel
theorem d37_19 : decode (mC M37) 19 = .ok (.invokestatic 75, 3) := by decide +kernel
theorem d37_22 : decode (mC M37) 22 = .ok (.ireturn, 1) := by decide +kernel
theorem sc37_0 : ∀ q ∈ tc37_0, Snd xtb M37 q.1 q.2 := List.forall_mem_cons.mpr ⟨snd_aload_n d37_0 rfl, List.forall_mem_cons.mpr ⟨snd_getR (by decide) (by decide) rfl wd362 d37_1, List.forall_mem_cons.mpr ⟨snd_getR (by decide) (by decide) rfl wd248 d37_4, List.forall_mem_cons.mpr ⟨snd_iload_n d37_7 rfl, List.forall_mem_cons.mpr ⟨snd_callV (by decide) rfl cn24 ⟨by decide +kernel, by decide +kernel⟩ cm24 (List.forall_mem_cons.mpr ⟨wd1108, cw24⟩) d37_8, List.forall_mem_cons.mpr ⟨snd_aload_n d37_11 rfl, List.forall_mem_cons.mpr ⟨snd_getR (by decide) (by decide) rfl wd365 d37_12, List.forall_mem_cons.mpr ⟨snd_iload_n d37_15 rfl, List.forall_mem_cons.mpr ⟨snd_callV (by decide) rfl cn104 ⟨by decide +kernel, by decide +kernel⟩ cm104 (List.forall_mem_cons.mpr ⟨wd1109, cw104⟩) d37_16, List.forall_mem_cons.mpr ⟨snd_min (by decide) (by decide) (List.forall_mem_cons.mpr ⟨wd1116, List.forall_mem_cons.mpr ⟨wd915, List.forall_mem_cons.mpr ⟨wd128, List.forall_mem_cons.mpr ⟨wd916, fun _ h => by cases h⟩⟩⟩⟩) d37_19, List.forall_mem_cons.mpr ⟨snd_iret rfl d37_22, fun _ h => by cases h⟩⟩⟩⟩⟩⟩⟩⟩⟩⟩⟩
theorem d38_0 : decode (mC M38) 0 = .ok (.aload_n 0, 1) := by decide +kernel
theorem d38_1 : decode (mC M38) 1 = .ok (.getfield 12, 3) := by decide +kernel
theorem d38_4 : decode (mC M38) 4 = .ok (.iload_n 1, 1) := by decide +kernel
theorem d38_5 : decode (mC M38) 5 = .ok (.invokevirtual 81, 3) := by decide +kernel
theorem d38_8 : decode (mC M38) 8 = .ok (.iconst 0, 1) := by decide +kernel
theorem d38_9 : decode (mC M38) 9 = .ok (.istore_n 3, 1) := by decide +kernel
theorem d38_10 : decode (mC M38) 10 = .ok (.iload_n 3, 1) := by decide +kernel
theorem d38_11 : decode (mC M38) 11 = .ok (.aload_n 0, 1) := by decide +kernel
theorem d38_12 : decode (mC M38) 12 = .ok (.getfield 12, 3) := by decide +kernel
theorem d38_15 : decode (mC M38) 15 = .ok (.getfield 45, 3) := by decide +kernel
theorem d38_18 : decode (mC M38) 18 = .ok (.if_icmp .ge 25, 3) := by decide +kernel
theorem d38_21 : decode (mC M38) 21 = .ok (.aload_n 0, 1) := by decide +kernel
theorem d38_22 : decode (mC M38) 22 = .ok (.getfield 25, 3) := by decide +kernel
theorem d38_25 : decode (mC M38) 25 = .ok (.iload_n 3, 1) := by decide +kernel
theorem d38_26 : decode (mC M38) 26 = .ok (.aload_n 0, 1) := by decide +kernel
theorem d38_27 : decode (mC M38) 27 = .ok (.getfield 21, 3) := by decide +kernel
theorem d38_30 : decode (mC M38) 30 = .ok (.iload_n 3, 1) := by decide +kernel
theorem d38_31 : decode (mC M38) 31 = .ok (.iload_n 2, 1) := by decide +kernel
theorem d38_32 : decode (mC M38) 32 = .ok (.iload_n 1, 1) := by decide +kernel
theorem d38_33 : decode (mC M38) 33 = .ok (.invokevirtual 85, 3) := by decide +kernel
theorem d38_36 : decode (mC M38) 36 = .ok (.iastore, 1) := by decide +kernel
theorem d38_37 : decode (mC M38) 37 = .ok (.iinc 3 1, 3) := by decide +kernel
theorem d38_40 : decode (mC M38) 40 = .ok (.goto (-30), 3) := by decide +kernel
theorem d38_43 : decode (mC M38) 43 = .ok (.return_, 1) := by decide +kernel
theorem sc38_0 : ∀ q ∈ tc38_0, Snd xtb M38 q.1 q.2 := List.forall_mem_cons.mpr ⟨snd_aload_n d38_0 rfl, List.forall_mem_cons.mpr ⟨snd_getR (by decide) (by decide) rfl wd362 d38_1, List.forall_mem_cons.mpr ⟨snd_iload_n d38_4 rfl, List.forall_mem_cons.mpr ⟨snd_callV (by decide) rfl cn45 ⟨by decide +kernel, by decide +kernel⟩ cm45 (List.forall_mem_cons.mpr ⟨wd1038, cw45⟩) d38_5, List.forall_mem_cons.mpr ⟨snd_iconst d38_8 (by decide +kernel), List.forall_mem_cons.mpr ⟨snd_istore_n d38_9 rfl, List.forall_mem_cons.mpr ⟨snd_iload_n d38_10 rfl, List.forall_mem_cons.mpr ⟨snd_aload_n d38_11 rfl, List.forall_mem_cons.mpr ⟨snd_getR (by decide) (by decide) rfl wd362 d38_12, List.forall_mem_cons.mpr ⟨snd_getI (by decide) (by decide) rfl wd241 d38_15, List.forall_mem_cons.mpr ⟨snd_cmp_ge d38_18 (by decide), List.forall_mem_cons.mpr ⟨snd_aload_n d38_21 rfl, List.forall_mem_cons.mpr ⟨snd_getR (by decide) (by decide) rfl wd368 d38_22, List.forall_mem_cons.mpr ⟨snd_iload_n d38_25 rfl, List.forall_mem_cons.mpr ⟨snd_aload_n d38_26 rfl, List.forall_mem_cons.mpr ⟨snd_getR (by decide) (by decide) rfl wd365 d38_27, List.forall_mem_cons.mpr ⟨snd_iload_n d38_30 rfl, List.forall_mem_cons.mpr ⟨snd_iload_n d38_31 rfl, List.forall_mem_cons.mpr ⟨snd_iload_n d38_32 rfl, List.forall_mem_cons.mpr ⟨snd_callV (by decide) rfl cn99 ⟨by decide +kernel, by decide +kernel⟩ cm99 (List.forall_mem_cons.mpr ⟨wd1039, cw99⟩) d38_33, List.forall_mem_cons.mpr ⟨snd_iast d38_36, List.forall_mem_cons.mpr ⟨snd_iinc d38_37 (by decide +kernel), List.forall_mem_cons.mpr ⟨snd_goto d38_40 (by decide), List.forall_mem_cons.mpr ⟨snd_vret rfl d38_43, fun _ h => by cases h⟩⟩⟩⟩⟩⟩⟩⟩⟩⟩⟩⟩⟩⟩⟩⟩⟩⟩⟩⟩⟩⟩⟩⟩
theorem d39_0 : decode (mC M39) 0 = .ok (.aload_n 0, 1) := by decide +kernel
theorem d39_1 : decode (mC M39) 1 = .ok (.getfield 12, 3) := by decide +kernel
theorem d39_4 : decode (mC M39) 4 = .ok (.iload_n 1, 1) := by decide +kernel
theorem d39_5 : decode (mC M39) 5 = .ok (.iload_n 2, 1) := by decide +kernel
theorem d39_6 : decode (mC M39) 6 = .ok (.invokevirtual 89, 3) := by decide +kernel
theorem d39_9 : decode (mC M39) 9 = .ok (.iconst 0, 1) := by decide +kernel
theorem d39_10 : decode (mC M39) 10 = .ok (.istore_n 3, 1) := by decide +kernel
theorem d39_11 : decode (mC M39) 11 = .ok (.iconst 0, 1) := by decide +kernel
theorem d39_12 : decode (mC M39) 12 = .ok (.istore 4, 2) := by decide +kernel
theorem d39_14 : decode (mC M39) 14 = .ok (.iload 4, 2) := by decide +kernel
theorem d39_16 : decode (mC M39) 16 = .ok (.aload_n 0, 1) := by decide +kernel
theorem d39_17 : decode (mC M39) 17 = .ok (.getfield 12, 3) := by decide +kernel
theorem d39_20 : decode (mC M39) 20 = .ok (.getfield 92, 3) := by decide +kernel
theorem d39_23 : decode (mC M39) 23 = .ok (.if_icmp .ge 27, 3) := by decide +kernel
theorem d39_26 : decode (mC M39) 26 = .ok (.iload_n 3, 1) := by decide +kernel
theorem d39_27 : decode (mC M39) 27 = .ok (.aload_n 0, 1) := by decide +kernel
theorem d39_28 : decode (mC M39) 28 = .ok (.getfield 25, 3) := by decide +kernel
theorem d39_31 : decode (mC M39) 31 = .ok (.aload_n 0, 1) := by decide +kernel
theorem d39_32 : decode (mC M39) 32 = .ok (.getfield 12, 3) := by decide +kernel
theorem d39_35 : decode (mC M39) 35 = .ok (.getfield 95, 3) := by decide +kernel
theorem d39_38 : decode (mC M39) 38 = .ok (.iload 4, 2) := by decide +kernel
theorem d39_40 : decode (mC M39) 40 = .ok (.iaload, 1) := by decide +kernel
theorem d39_41 : decode (mC M39) 41 = .ok (.iaload, 1) := by decide +kernel
theorem d39_42 : decode (mC M39) 42 = .ok (.iadd, 1) := by decide +kernel
theorem d39_43 : decode (mC M39) 43 = .ok (.istore_n 3, 1) := by decide +kernel
theorem d39_44 : decode (mC M39) 44 = .ok (.iinc 4 1, 3) := by decide +kernel
theorem d39_47 : decode (mC M39) 47 = .ok (.goto (-33), 3) := by decide +kernel
theorem d39_50 : decode (mC M39) 50 = .ok (.iload_n 3, 1) := by decide +kernel
theorem d39_51 : decode (mC M39) 51 = .ok (.ireturn, 1) := by decide +kernel
theorem sc39_0 : ∀ q ∈ tc39_0, Snd xtb M39 q.1 q.2 := List.forall_mem_cons.mpr ⟨snd_aload_n d39_0 rfl, List.forall_mem_cons.mpr ⟨snd_getR (by decide) (by decide) rfl wd362 d39_1, List.forall_mem_cons.mpr ⟨snd_iload_n d39_4 rfl, List.forall_mem_cons.mpr ⟨snd_iload_n d39_5 rfl, List.forall_mem_cons.mpr ⟨snd_callV (by decide) rfl cn47 ⟨by decide +kernel, by decide +kernel⟩ cm47 (List.forall_mem_cons.mpr ⟨wd1044, cw47⟩) d39_6, List.forall_mem_cons.mpr ⟨snd_iconst d39_9 (by decide +kernel), List.forall_mem_cons.mpr ⟨snd_istore_n d39_10 rfl, List.forall_mem_cons.mpr ⟨snd_iconst d39_11 (by decide +kernel), List.forall_mem_cons.mpr ⟨snd_istore d39_12, List.forall_mem_cons.mpr ⟨snd_iload d39_14, List.forall_mem_cons.mpr ⟨snd_aload_n d39_16 rfl, List.forall_mem_cons.mpr ⟨snd_getR (by decide) (by decide) rfl wd362 d39_17, List.forall_mem_cons.mpr ⟨snd_getI (by decide) (by decide) rfl wd256 d39_20, List.forall_mem_cons.mpr ⟨snd_cmp_ge d39_23 (by decide), List.forall_mem_cons.mpr ⟨snd_iload_n d39_26 rfl, List.forall_mem_cons.mpr ⟨snd_aload_n d39_27 rfl, List.forall_mem_cons.mpr ⟨snd_getR (by decide) (by decide) rfl wd368 d39_28, List.forall_mem_cons.mpr ⟨snd_aload_n d39_31 rfl, List.forall_mem_cons.mpr ⟨snd_getR (by decide) (by decide) rfl wd362 d39_32, List.forall_mem_cons.mpr ⟨snd_getR (by decide) (by decide) rfl wd253 d39_35, List.forall_mem_cons.mpr ⟨snd_iload d39_38, List.forall_mem_cons.mpr ⟨snd_iald d39_40, List.forall_mem_cons.mpr ⟨snd_iald d39_41, List.forall_mem_cons.mpr ⟨snd_iadd d39_42, List.forall_mem_cons.mpr ⟨snd_istore_n d39_43 rfl, List.forall_mem_cons.mpr ⟨snd_iinc d39_44 (by decide +kernel), List.forall_mem_cons.mpr ⟨snd_goto d39_47 (by decide), List.forall_mem_cons.mpr ⟨snd_iload_n d39_50 rfl, List.forall_mem_cons.mpr ⟨snd_iret rfl d39_51, fun _ h => by cases h⟩⟩⟩⟩⟩⟩⟩⟩⟩⟩⟩⟩⟩⟩⟩⟩⟩⟩⟩⟩⟩⟩⟩⟩⟩⟩⟩⟩⟩
theorem d40_0 : decode (mC M40) 0 = .ok (.ldc 100, 2) := by decide +kernel
theorem d40_2 : decode (mC M40) 2 = .ok (.istore_n 1, 1) := by decide +kernel
theorem d40_3 : decode (mC M40) 3 = .ok (.iconst 0, 1) := by decide +kernel
theorem d40_4 : decode (mC M40) 4 = .ok (.istore_n 2, 1) := by decide +kernel
theorem d40_5 : decode (mC M40) 5 = .ok (.iconst 0, 1) := by decide +kernel
theorem d40_6 : decode (mC M40) 6 = .ok (.istore_n 3, 1) := by decide +kernel
theorem d40_7 : decode (mC M40) 7 = .ok (.iload_n 3, 1) := by decide +kernel
theorem d40_8 : decode (mC M40) 8 = .ok (.aload_n 0, 1) := by decide +kernel
theorem d40_9 : decode (mC M40) 9 = .ok (.getfield 12, 3) := by decide +kernel
theorem d40_12 : decode (mC M40) 12 = .ok (.getfield 35, 3) := by decide +kernel
theorem d40_15 : decode (mC M40) 15 = .ok (.if_icmp .gt 64, 3) := by decide +kernel
theorem d40_18 : decode (mC M40) 18 = .ok (.iload_n 1, 1) := by decide +kernel
theorem d40_19 : decode (mC M40) 19 = .ok (.ifCond .le 60, 3) := by decide +kernel
theorem d40_22 : decode (mC M40) 22 = .ok (.iconst 0, 1) := by decide +kernel
theorem d40_23 : decode (mC M40) 23 = .ok (.istore 4, 2) := by decide +kernel
theorem d40_25 : decode (mC M40) 25 = .ok (.iload 4, 2) := by decide +kernel
theorem d40_27 : decode (mC M40) 27 = .ok (.aload_n 0, 1) := by decide +kernel
theorem d40_28 : decode (mC M40) 28 = .ok (.getfield 12, 3) := by decide +kernel
theorem d40_31 : decode (mC M40) 31 = .ok (.getfield 35, 3) := by decide +kernel
theorem d40_34 : decode (mC M40) 34 = .ok (.if_icmp .gt 39, 3) := by decide +kernel
theorem d40_37 : decode (mC M40) 37 = .ok (.iload_n 1, 1) := by decide +kernel
theorem d40_38 : decode (mC M40) 38 = .ok (.ifCond .le 35, 3) := by decide +kernel
theorem d40_41 : decode (mC M40) 41 = .ok (.aload_n 0, 1) := by decide +kernel
theorem d40_42 : decode (mC M40) 42 = .ok (.iload 4, 2) := by decide +kernel
theorem d40_44 : decode (mC M40) 44 = .ok (.iload_n 3, 1) := by decide +kernel
theorem d40_45 : decode (mC M40) 45 = .ok (.invokevirtual 101, 3) := by decide +kernel
theorem d40_48 : decode (mC M40) 48 = .ok (.istore 5, 2) := by decide +kernel
theorem d40_50 : decode (mC M40) 50 = .ok (.iload 5, 2) := by decide +kernel
theorem d40_52 : decode (mC M40) 52 = .ok (.iload_n 1, 1) := by decide +kernel
theorem d40_53 : decode (mC M40) 53 = .ok (.if_icmp .ge 14, 3) := by decide +kernel
theorem d40_56 : decode (mC M40) 56 = .ok (.iload 5, 2) := by decide +kernel
theorem d40_58 : decode (mC M40) 58 = .ok (.istore_n 1, 1) := by decide +kernel
theorem d40_59 : decode (mC M40) 59 = .ok (.iload 4, 2) := by decide +kernel
theorem d40_61 : decode (mC M40) 61 = .ok (.bipush 100, 2) := by decide +kernel
theorem d40_63 : decode (mC M40) 63 = .ok (.iload_n 3, 1) := by decide +kernel
theorem d40_64 : decode (mC M40) 64 = .ok (.imul, 1) := by decide +kernel
theorem d40_65 : decode (mC M40) 65 = .ok (.iadd, 1) := by decide +kernel
theorem d40_66 : decode (mC M40) 66 = .ok (.istore_n 2, 1) := by decide +kernel
theorem d40_67 : decode (mC M40) 67 = .ok (.iinc 4 1, 3) := by decide +kernel
theorem d40_70 : decode (mC M40) 70 = .ok (.goto (-45), 3) := by decide +kernel
theorem d40_73 : decode (mC M40) 73 = .ok (.iinc 3 1, 3) := by decide +kernel
theorem d40_76 : decode (mC M40) 76 = .ok (.goto (-69), 3) := by decide +kernel
theorem d40_79 : decode (mC M40) 79 = .ok (.iload_n 2, 1) := by decide +kernel
theorem d40_80 : decode (mC M40) 80 = .ok (.ireturn, 1) := by decide +kernel
theorem sc40_0 : ∀ q ∈ tc40_0, Snd xtb M40 q.1 q.2 := List.forall_mem_cons.mpr ⟨snd_ldc d40_0 wd1053, List.forall_mem_cons.mpr ⟨snd_istore_n d40_2 rfl, List.forall_mem_cons.mpr ⟨snd_iconst d40_3 (by decide +kernel), List.forall_mem_cons.mpr ⟨snd_istore_n d40_4 rfl, List.forall_mem_cons.mpr ⟨snd_iconst d40_5 (by decide +kernel), List.forall_mem_cons.mpr ⟨snd_istore_n d40_6 rfl, List.forall_mem_cons.mpr ⟨snd_iload_n d40_7 rfl, List.forall_mem_cons.mpr ⟨snd_aload_n d40_8 rfl, List.forall_mem_cons.mpr ⟨snd_getR (by decide) (by decide) rfl wd362 d40_9, List.forall_mem_cons.mpr ⟨snd_getI (by decide) (by decide) rfl wd232 d40_12, List.forall_mem_cons.mpr ⟨snd_cmp_gt d40_15 (by decide), List.forall_mem_cons.mpr ⟨snd_iload_n d40_18 rfl, List.forall_mem_cons.mpr ⟨snd_if_le d40_19 (by decide), List.forall_mem_cons.mpr ⟨snd_iconst d40_22 (by decide +kernel), List.forall_mem_cons.mpr ⟨snd_istore d40_23, List.forall_mem_cons.mpr ⟨snd_iload d40_25, List.forall_mem_cons.mpr ⟨snd_aload_n d40_27 rfl, List.forall_mem_cons.mpr ⟨snd_getR (by decide) (by decide) rfl wd362 d40_28, List.forall_mem_cons.mpr ⟨snd_getI (by decide) (by decide) rfl wd232 d40_31, List.forall_mem_cons.mpr ⟨snd_cmp_gt d40_34 (by decide), List.forall_mem_cons.mpr ⟨snd_iload_n d40_37 rfl, List.forall_mem_cons.mpr ⟨snd_if_le d40_38 (by decide), List.forall_mem_cons.mpr ⟨snd_aload_n d40_41 rfl, List.forall_mem_cons.mpr ⟨snd_iload d40_42, List.forall_mem_cons.mpr ⟨snd_iload_n d40_44 rfl, List.forall_mem_cons.mpr ⟨snd_callV (by decide) rfl cn39 ⟨by decide +kernel, by decide +kernel⟩ cm39 (List.forall_mem_cons.mpr ⟨wd1054, cw39⟩) d40_45, List.forall_mem_cons.mpr ⟨snd_istore d40_48, List.forall_mem_cons.mpr ⟨snd_iload d40_50, List.forall_mem_cons.mpr ⟨snd_iload_n d40_52 rfl, List.forall_mem_cons.mpr ⟨snd_cmp_ge d40_53 (by decide), fun _ h => by cases h⟩⟩⟩⟩⟩⟩⟩⟩⟩⟩⟩⟩⟩⟩⟩⟩⟩⟩⟩⟩⟩⟩⟩⟩⟩⟩⟩⟩⟩⟩
theorem sc40_1 : ∀ q ∈ tc40_1, Snd xtb M40 q.1 q.2 := List.forall_mem_cons.mpr ⟨snd_iload d40_56, List.forall_mem_cons.mpr ⟨snd_istore_n d40_58 rfl, List.forall_mem_cons.mpr ⟨snd_iload d40_59, List.forall_mem_cons.mpr ⟨snd_bipush d40_61 (by decide +kernel), List.forall_mem_cons.mpr ⟨snd_iload_n d40_63 rfl, List.forall_mem_cons.mpr ⟨snd_imul d40_64, List.forall_mem_cons.mpr ⟨snd_iadd d40_65, List.forall_mem_cons.mpr ⟨snd_istore_n d40_66 rfl, List.forall_mem_cons.mpr ⟨snd_iinc d40_67 (by decide +kernel), List.forall_mem_cons.mpr ⟨snd_goto d40_70 (by decide), List.forall_mem_cons.mpr ⟨snd_iinc d40_73 (by decide +kernel), List.forall_mem_cons.mpr ⟨snd_goto d40_76 (by decide), List.forall_mem_cons.mpr ⟨snd_iload_n d40_79 rfl, List.forall_mem_cons.mpr ⟨snd_iret rfl d40_80, fun _ h => by cases h⟩⟩⟩⟩⟩⟩⟩⟩⟩⟩⟩⟩⟩⟩
theorem d41_0 : decode (mC M41) 0 = .ok (.aload_n 0, 1) := by decide +kernel
theorem d41_1 : decode (mC M41) 1 = .ok (.getfield 12, 3) := by decide +kernel
theorem d41_4 : decode (mC M41) 4 = .ok (.aload_n 1, 1) := by decide +kernel
theorem d41_5 : decode (mC M41) 5 = .ok (.getfield 104, 3) := by decide +kernel
theorem d41_8 : decode (mC M41) 8 = .ok (.invokevirtual 81, 3) := by decide +kernel
theorem d41_11 : decode (mC M41) 11 = .ok (.aload_n 0, 1) := by decide +kernel
theorem d41_12 : decode (mC M41) 12 = .ok (.getfield 12, 3) := by decide +kernel
theorem d41_15 : decode (mC M41) 15 = .ok (.aload_n 1, 1) := by decide +kernel
theorem d41_16 : decode (mC M41) 16 = .ok (.getfield 109, 3) := by decide +kernel
theorem d41_19 : decode (mC M41) 19 = .ok (.aload_n 1, 1) := by decide +kernel
theorem d41_20 : decode (mC M41) 20 = .ok (.getfield 112, 3) := by decide +kernel
theorem d41_23 : decode (mC M41) 23 = .ok (.invokevirtual 89, 3) := by decide +kernel
theorem d41_26 : decode (mC M41) 26 = .ok (.aload_n 1, 1) := by decide +kernel
theorem d41_27 : decode (mC M41) 27 = .ok (.iconst 0, 1) := by decide +kernel
theorem d41_28 : decode (mC M41) 28 = .ok (.putfield 115, 3) := by decide +kernel
theorem d41_31 : decode (mC M41) 31 = .ok (.iconst 0, 1) := by decide +kernel
theorem d41_32 : decode (mC M41) 32 = .ok (.istore_n 2, 1) := by decide +kernel
theorem d41_33 : decode (mC M41) 33 = .ok (.iload_n 2, 1) := by decide +kernel
theorem d41_34 : decode (mC M41) 34 = .ok (.aload_n 0, 1) := by decide +kernel
theorem d41_35 : decode (mC M41) 35 = .ok (.getfield 12, 3) := by decide +kernel
theorem d41_38 : decode (mC M41) 38 = .ok (.getfield 92, 3) := by decide +kernel
theorem d41_41 : decode (mC M41) 41 = .ok (.if_icmp .ge 72, 3) := by decide +kernel
theorem d41_44 : decode (mC M41) 44 = .ok (.aload_n 0, 1) := by decide +kernel
theorem d41_45 : decode (mC M41) 45 = .ok (.getfield 12, 3) := by decide +kernel
theorem d41_48 : decode (mC M41) 48 = .ok (.getfield 95, 3) := by decide +kernel
theorem d41_51 : decode (mC M41) 51 = .ok (.iload_n 2, 1) := by decide +kernel
theorem d41_52 : decode (mC M41) 52 = .ok (.iaload, 1) := by decide +kernel
theorem d41_53 : decode (mC M41) 53 = .ok (.istore_n 3, 1) := by decide +kernel
theorem d41_54 : decode (mC M41) 54 = .ok (.aload_n 1, 1) := by decide +kernel
theorem d41_55 : decode (mC M41) 55 = .ok (.iload_n 3, 1) := by decide +kernel
theorem d41_56 : decode (mC M41) 56 = .ok (.aload_n 0, 1) := by decide +kernel
theorem d41_57 : decode (mC M41) 57 = .ok (.getfield 21, 3) := by decide +kernel
theorem d41_60 : decode (mC M41) 60 = .ok (.iload_n 3, 1) := by decide +kernel
theorem d41_61 : decode (mC M41) 61 = .ok (.aload_n 1, 1) := by decide +kernel
theorem d41_62 : decode (mC M41) 62 = .ok (.getfield 118, 3) := by decide +kernel
theorem d41_65 : decode (mC M41) 65 = .ok (.aload_n 1, 1) := by decide +kernel
theorem d41_66 : decode (mC M41) 66 = .ok (.getfield 104, 3) := by decide +kernel
theorem d41_69 : decode (mC M41) 69 = .ok (.invokevirtual 85, 3) := by decide +kernel
theorem d41_72 : decode (mC M41) 72 = .ok (.aload_n 0, 1) := by decide +kernel
theorem d41_73 : decode (mC M41) 73 = .ok (.getfield 21, 3) := by decide +kernel
theorem d41_76 : decode (mC M41) 76 = .ok (.iload_n 3, 1) := by decide +kernel
theorem d41_77 : decode (mC M41) 77 = .ok (.aload_n 1, 1) := by decide +kernel
theorem d41_78 : decode (mC M41) 78 = .ok (.getfield 118, 3) := by decide +kernel
theorem d41_81 : decode (mC M41) 81 = .ok (.invokevirtual 121, 3) := by decide +kernel
theorem d41_84 : decode (mC M41) 84 = .ok (.aload_n 0, 1) := by decide +kernel
theorem d41_85 : decode (mC M41) 85 = .ok (.getfield 21, 3) := by decide +kernel
theorem d41_88 : decode (mC M41) 88 = .ok (.iload_n 3, 1) := by decide +kernel
theorem d41_89 : decode (mC M41) 89 = .ok (.aload_n 1, 1) := by decide +kernel
theorem d41_90 : decode (mC M41) 90 = .ok (.getfield 118, 3) := by decide +kernel
theorem d41_93 : decode (mC M41) 93 = .ok (.aload_n 1, 1) := by decide +kernel
theorem d41_94 : decode (mC M41) 94 = .ok (.getfield 104, 3) := by decide +kernel
theorem d41_97 : decode (mC M41) 97 = .ok (.aload_n 1, 1) := by decide +kernel
theorem d41_98 : decode (mC M41) 98 = .ok (.getfield 124, 3) := by decide +kernel
theorem d41_101 : decode (mC M41) 101 = .ok (.invokevirtual 127, 3) := by decide +kernel
theorem d41_104 : decode (mC M41) 104 = .ok (.invokevirtual 131, 3) := by decide +kernel
theorem d41_107 : decode (mC M41) 107 = .ok (.iinc 2 1, 3) := by decide +kernel
theorem d41_110 : decode (mC M41) 110 = .ok (.goto (-77), 3) := by decide +kernel
theorem d41_113 : decode (mC M41) 113 = .ok (.return_, 1) := by decide +kernel
theorem sc41_0 : ∀ q ∈ tc41_0, Snd xtb M41 q.1 q.2 := List.forall_mem_cons.mpr ⟨snd_aload_n d41_0 rfl, List.forall_mem_cons.mpr ⟨snd_getR (by decide) (by decide) rfl wd362 d41_1, List.forall_mem_cons.mpr ⟨snd_aload_n d41_4 rfl, List.forall_mem_cons.mpr ⟨snd_getI (by decide) (by decide) rfl wd418 d41_5, List.forall_mem_cons.mpr ⟨snd_callV (by decide) rfl cn45 ⟨by decide +kernel, by decide +kernel⟩ cm45 (List.forall_mem_cons.mpr ⟨wd1038, cw45⟩) d41_8, List.forall_mem_cons.mpr ⟨snd_aload_n d41_11 rfl, List.forall_mem_cons.mpr ⟨snd_getR (by decide) (by decide) rfl wd362 d41_12, List.forall_mem_cons.mpr ⟨snd_aload_n d41_15 rfl, List.forall_mem_cons.mpr ⟨snd_getI (by decide) (by decide) rfl wd422 d41_16, List.forall_mem_cons.mpr ⟨snd_aload_n d41_19 rfl, List.forall_mem_cons.mpr ⟨snd_getI (by decide) (by decide) rfl wd425 d41_20, List.forall_mem_cons.mpr ⟨snd_callV (by decide) rfl cn47 ⟨by decide +kernel, by decide +kernel⟩ cm47 (List.forall_mem_cons.mpr ⟨wd1044, cw47⟩) d41_23, List.forall_mem_cons.mpr ⟨snd_aload_n d41_26 rfl, List.forall_mem_cons.mpr ⟨snd_iconst d41_27 (by decide +kernel), List.forall_mem_cons.mpr ⟨snd_putI (by decide) (by decide) rfl rfl wd442 d41_28, List.forall_mem_cons.mpr ⟨snd_iconst d41_31 (by decide +kernel), List.forall_mem_cons.mpr ⟨snd_istore_n d41_32 rfl, List.forall_mem_cons.mpr ⟨snd_iload_n d41_33 rfl, List.forall_mem_cons.mpr ⟨snd_aload_n d41_34 rfl, List.forall_mem_cons.mpr ⟨snd_getR (by decide) (by decide) rfl wd362 d41_35, List.forall_mem_cons.mpr ⟨snd_getI (by decide) (by decide) rfl wd256 d41_38, List.forall_mem_cons.mpr ⟨snd_cmp_ge d41_41 (by decide), List.forall_mem_cons.mpr ⟨snd_aload_n d41_44 rfl, List.forall_mem_cons.mpr ⟨snd_getR (by decide) (by decide) rfl wd362 d41_45, List.forall_mem_cons.mpr ⟨snd_getR (by decide) (by decide) rfl wd253 d41_48, List.forall_mem_cons.mpr ⟨snd_iload_n d41_51 rfl, List.forall_mem_cons.mpr ⟨snd_iald d41_52, List.forall_mem_cons.mpr ⟨snd_istore_n d41_53 rfl, List.forall_mem_cons.mpr ⟨snd_aload_n d41_54 rfl, List.forall_mem_cons.mpr ⟨snd_iload_n d41_55 rfl, fun _ h => by cases h⟩⟩⟩⟩⟩⟩⟩⟩⟩⟩⟩⟩⟩⟩⟩⟩⟩⟩⟩⟩⟩⟩⟩⟩⟩⟩⟩⟩⟩⟩
theorem sc41_1 : ∀ q ∈ tc41_1, Snd xtb M41 q.1 q.2 := List.forall_mem_cons.mpr ⟨snd_aload_n d41_56 rfl, List.forall_mem_cons.mpr ⟨snd_getR (by decide) (by decide) rfl wd365 d41_57, List.forall_mem_cons.mpr ⟨snd_iload_n d41_60 rfl, List.forall_mem_cons.mpr ⟨snd_aload_n d41_61 rfl, List.forall_mem_cons.mpr ⟨snd_getI (by decide) (by decide) rfl wd429 d41_62, List.forall_mem_cons.mpr ⟨snd_aload_n d41_65 rfl, List.forall_mem_cons.mpr ⟨snd_getI (by decide) (by decide) rfl wd418 d41_66, List.forall_mem_cons.mpr ⟨snd_callV (by decide) rfl cn99 ⟨by decide +kernel, by decide +kernel⟩ cm99 (List.forall_mem_cons.mpr ⟨wd1039, cw99⟩) d41_69, List.forall_mem_cons.mpr ⟨snd_aload_n d41_72 rfl, List.forall_mem_cons.mpr ⟨snd_getR (by decide) (by decide) rfl wd365 d41_73, List.forall_mem_cons.mpr ⟨snd_iload_n d41_76 rfl, List.forall_mem_cons.mpr ⟨snd_aload_n d41_77 rfl, List.forall_mem_cons.mpr ⟨snd_getI (by decide) (by decide) rfl wd429 d41_78, List.forall_mem_cons.mpr ⟨snd_callV (by decide) rfl cn102 ⟨by decide +kernel, by decide +kernel⟩ cm102 (List.forall_mem_cons.mpr ⟨wd1075, cw102⟩) d41_81, List.forall_mem_cons.mpr ⟨snd_aload_n d41_84 rfl, List.forall_mem_cons.mpr ⟨snd_getR (by decide) (by decide) rfl wd365 d41_85, List.forall_mem_cons.mpr ⟨snd_iload_n d41_88 rfl, List.forall_mem_cons.mpr ⟨snd_aload_n d41_89 rfl, List.forall_mem_cons.mpr ⟨snd_getI (by decide) (by decide) rfl wd429 d41_90, List.forall_mem_cons.mpr ⟨snd_aload_n d41_93 rfl, List.forall_mem_cons.mpr ⟨snd_getI (by decide) (by decide) rfl wd418 d41_94, List.forall_mem_cons.mpr ⟨snd_aload_n d41_97 rfl, List.forall_mem_cons.mpr ⟨snd_getI (by decide) (by decide) rfl wd433 d41_98, List.forall_mem_cons.mpr ⟨snd_callV (by decide) rfl cn100 ⟨by decide +kernel, by decide +kernel⟩ cm100 (List.forall_mem_cons.mpr ⟨wd1076, cw100⟩) d41_101, List.forall_mem_cons.mpr ⟨snd_callV (by decide) rfl cn55 ⟨by decide +kernel, by decide +kernel⟩ cm55 (List.forall_mem_cons.mpr ⟨wd1077, cw55⟩) d41_104, List.forall_mem_cons.mpr ⟨snd_iinc d41_107 (by decide +kernel), List.forall_mem_cons.mpr ⟨snd_goto d41_110 (by decide), List.forall_mem_cons.mpr ⟨snd_vret rfl d41_113, fun _ h => by cases h⟩⟩⟩⟩⟩⟩⟩⟩⟩⟩⟩⟩⟩⟩⟩⟩⟩⟩⟩⟩⟩⟩⟩⟩⟩⟩⟩⟩
theorem d42_0 : decode (mC M42) 0 = .ok (.aload_n 0, 1) := by decide +kernel
theorem d42_1 : decode (mC M42) 1 = .ok (.invokespecial 3, 3) := by decide +kernel
theorem d42_4 : decode (mC M42) 4 = .ok (.aload_n 0, 1) := by decide +kernel
theorem d42_5 : decode (mC M42) 5 = .ok (.bipush 10, 2) := by decide +kernel
theorem d42_7 : decode (mC M42) 7 = .ok (.newarray .int, 2) := by decide +kernel
theorem d42_9 : decode (mC M42) 9 = .ok (.putfield 9, 3) := by decide +kernel
theorem d42_12 : decode (mC M42) 12 = .ok (.aload_n 0, 1) := by decide +kernel
theorem d42_13 : decode (mC M42) 13 = .ok (.bipush 10, 2) := by decide +kernel
theorem d42_15 : decode (mC M42) 15 = .ok (.newarray .boolean, 2) := by decide +kernel
theorem d42_17 : decode (mC M42) 17 = .ok (.putfield 15, 3) := by decide +kernel
theorem d42_20 : decode (mC M42) 20 = .ok (.aload_n 0, 1) := by decide +kernel
theorem d42_21 : decode (mC M42) 21 = .ok (.new 19, 3) := by decide +kernel
theorem d42_24 : decode (mC M42) 24 = .ok (.dup, 1) := by decide +kernel
theorem d42_25 : decode (mC M42) 25 = .ok (.invokespecial 21, 3) := by decide +kernel
theorem d42_28 : decode (mC M42) 28 = .ok (.putfield 22, 3) := by decide +kernel
theorem d42_31 : decode (mC M42) 31 = .ok (.aload_n 0, 1) := by decide +kernel
theorem d42_32 : decode (mC M42) 32 = .ok (.bipush 10, 2) := by decide +kernel
theorem d42_34 : decode (mC M42) 34 = .ok (.newarray .int, 2) := by decide +kernel
theorem d42_36 : decode (mC M42) 36 = .ok (.putfield 26, 3) := by decide +kernel
theorem d42_39 : decode (mC M42) 39 = .ok (.aload_n 0, 1) := by decide +kernel
theorem d42_40 : decode (mC M42) 40 = .ok (.iconst 4, 1) := by decide +kernel
theorem d42_41 : decode (mC M42) 41 = .ok (.newarray .int, 2) := by decide +kernel
theorem d42_43 : decode (mC M42) 43 = .ok (.putfield 29, 3) := by decide +kernel
theorem d42_46 : decode (mC M42) 46 = .ok (.return_, 1) := by decide +kernel
theorem sc42_0 : ∀ q ∈ tc42_0, Snd xtb M42 q.1 q.2 := List.forall_mem_cons.mpr ⟨snd_aload_n d42_0 rfl, List.forall_mem_cons.mpr ⟨snd_obj (by decide) (by decide) (List.forall_mem_cons.mpr ⟨wd195, List.forall_mem_cons.mpr ⟨wd139, List.forall_mem_cons.mpr ⟨wd140, fun _ h => by cases h⟩⟩⟩) d42_1, List.forall_mem_cons.mpr ⟨snd_aload_n d42_4 rfl, List.forall_mem_cons.mpr ⟨snd_bipush d42_5 (by decide +kernel), List.forall_mem_cons.mpr ⟨snd_newa (ty := .int) (k := 1) rfl (by decide +kernel) wd229 d42_7, List.forall_mem_cons.mpr ⟨snd_putRF (by decide) (by decide) rfl rfl rfl rfl wd243 d42_9, List.forall_mem_cons.mpr ⟨snd_aload_n d42_12 rfl, List.forall_mem_cons.mpr ⟨snd_bipush d42_13 (by decide +kernel), List.forall_mem_cons.mpr ⟨snd_newa (ty := .boolean) (k := 3) rfl (by decide +kernel) wd230 d42_15, List.forall_mem_cons.mpr ⟨snd_putRF (by decide) (by decide) rfl rfl rfl rfl wd245 d42_17, List.forall_mem_cons.mpr ⟨snd_aload_n d42_20 rfl, List.forall_mem_cons.mpr ⟨snd_new (by decide) (by decide +kernel) (List.forall_mem_cons.mpr ⟨wd196, List.forall_mem_cons.mpr ⟨wd197, List.forall_mem_cons.mpr ⟨wd117, fun _ h => by cases h⟩⟩⟩) d42_21, List.forall_mem_cons.mpr ⟨snd_dup d42_24, List.forall_mem_cons.mpr ⟨snd_callIN (host := "SalePlaces") (by decide) rfl rfl cn18 ⟨by decide +kernel, by decide +kernel⟩ cm18 cw18 (by decide +kernel) d42_25, List.forall_mem_cons.mpr ⟨snd_putRF (by decide) (by decide) rfl rfl rfl rfl wd247 d42_28, List.forall_mem_cons.mpr ⟨snd_aload_n d42_31 rfl, List.forall_mem_cons.mpr ⟨snd_bipush d42_32 (by decide +kernel), List.forall_mem_cons.mpr ⟨snd_newa (ty := .int) (k := 1) rfl (by decide +kernel) wd229 d42_34, List.forall_mem_cons.mpr ⟨snd_putRF (by decide) (by decide) rfl rfl rfl rfl wd251 d42_36, List.forall_mem_cons.mpr ⟨snd_aload_n d42_39 rfl, List.forall_mem_cons.mpr ⟨snd_iconst d42_40 (by decide +kernel), List.forall_mem_cons.mpr ⟨snd_newa (ty := .int) (k := 1) rfl (by decide +kernel) wd229 d42_41, List.forall_mem_cons.mpr ⟨snd_putRF (by decide) (by decide) rfl rfl rfl rfl wd252 d42_43, List.forall_mem_cons.mpr ⟨snd_vret rfl d42_46, fun _ h => by cases h⟩⟩⟩⟩⟩⟩⟩⟩⟩⟩⟩⟩⟩⟩⟩⟩⟩⟩⟩⟩⟩⟩⟩⟩
theorem d43_0 : decode (mC M43) 0 = .ok (.aload_n 0, 1) := by decide +kernel
theorem d43_1 : decode (mC M43) 1 = .ok (.iload_n 1, 1) := by decide +kernel
theorem d43_2 : decode (mC M43) 2 = .ok (.putfield 32, 3) := by decide +kernel
theorem d43_5 : decode (mC M43) 5 = .ok (.aload_n 0, 1) := by decide +kernel
theorem d43_6 : decode (mC M43) 6 = .ok (.iload_n 2, 1) := by decide +kernel
theorem d43_7 : decode (mC M43) 7 = .ok (.putfield 36, 3) := by decide +kernel
theorem d43_10 : decode (mC M43) 10 = .ok (.aload_n 0, 1) := by decide +kernel
theorem d43_11 : decode (mC M43) 11 = .ok (.iconst 0, 1) := by decide +kernel
theorem d43_12 : decode (mC M43) 12 = .ok (.putfield 39, 3) := by decide +kernel
theorem d43_15 : decode (mC M43) 15 = .ok (.aload_n 0, 1) := by decide +kernel
theorem d43_16 : decode (mC M43) 16 = .ok (.getfield 22, 3) := by decide +kernel
theorem d43_19 : decode (mC M43) 19 = .ok (.iconst 0, 1) := by decide +kernel
theorem d43_20 : decode (mC M43) 20 = .ok (.putfield 42, 3) := by decide +kernel
theorem d43_23 : decode (mC M43) 23 = .ok (.return_, 1) := by decide +kernel
theorem sc43_0 : ∀ q ∈ tc43_0, Snd xtb M43 q.1 q.2 := List.forall_mem_cons.mpr ⟨snd_aload_n d43_0 rfl, List.forall_mem_cons.mpr ⟨snd_iload_n d43_1 rfl, List.forall_mem_cons.mpr ⟨snd_putI (by decide) (by decide) rfl rfl wd231 d43_2, List.forall_mem_cons.mpr ⟨snd_aload_n d43_5 rfl, List.forall_mem_cons.mpr ⟨snd_iload_n d43_6 rfl, List.forall_mem_cons.mpr ⟨snd_putI (by decide) (by decide) rfl rfl wd235 d43_7, List.forall_mem_cons.mpr ⟨snd_aload_n d43_10 rfl, List.forall_mem_cons.mpr ⟨snd_iconst d43_11 (by decide +kernel), List.forall_mem_cons.mpr ⟨snd_putI (by decide) (by decide) rfl rfl wd239 d43_12, List.forall_mem_cons.mpr ⟨snd_aload_n d43_15 rfl, List.forall_mem_cons.mpr ⟨snd_getR (by decide) (by decide) rfl wd247 d43_16, List.forall_mem_cons.mpr ⟨snd_iconst d43_19 (by decide +kernel), List.forall_mem_cons.mpr ⟨snd_putI (by decide) (by decide) rfl rfl wd203 d43_20, List.forall_mem_cons.mpr ⟨snd_vret rfl d43_23, fun _ h => by cases h⟩⟩⟩⟩⟩⟩⟩⟩⟩⟩⟩⟩⟩⟩
theorem d44_0 : decode (mC M44) 0 = .ok (.aload_n 0, 1) := by decide +kernel
theorem d44_1 : decode (mC M44) 1 = .ok (.getfield 9, 3) := by decide +kernel
theorem d44_4 : decode (mC M44) 4 = .ok (.aload_n 0, 1) := by decide +kernel
theorem d44_5 : decode (mC M44) 5 = .ok (.getfield 39, 3) := by decide +kernel
theorem d44_8 : decode (mC M44) 8 = .ok (.iload_n 1, 1) := by decide +kernel
theorem d44_9 : decode (mC M44) 9 = .ok (.iastore, 1) := by decide +kernel
theorem d44_10 : decode (mC M44) 10 = .ok (.aload_n 0, 1) := by decide +kernel
theorem d44_11 : decode (mC M44) 11 = .ok (.getfield 15, 3) := by decide +kernel
theorem d44_14 : decode (mC M44) 14 = .ok (.aload_n 0, 1) := by decide +kernel
theorem d44_15 : decode (mC M44) 15 = .ok (.getfield 39, 3) := by decide +kernel
theorem d44_18 : decode (mC M44) 18 = .ok (.iload_n 2, 1) := by decide +kernel
theorem d44_19 : decode (mC M44) 19 = .ok (.bastore, 1) := by decide +kernel
theorem d44_20 : decode (mC M44) 20 = .ok (.aload_n 0, 1) := by decide +kernel
theorem d44_21 : decode (mC M44) 21 = .ok (.dup, 1) := by decide +kernel
theorem d44_22 : decode (mC M44) 22 = .ok (.getfield 39, 3) := by decide +kernel
theorem d44_25 : decode (mC M44) 25 = .ok (.iconst 1, 1) := by decide +kernel
theorem d44_26 : decode (mC M44) 26 = .ok (.iadd, 1) := by decide +kernel
theorem d44_27 : decode (mC M44) 27 = .ok (.putfield 39, 3) := by decide +kernel
theorem d44_30 : decode (mC M44) 30 = .ok (.return_, 1) := by decide +kernel
theorem sc44_0 : ∀ q ∈ tc44_0, Snd xtb M44 q.1 q.2 := List.forall_mem_cons.mpr ⟨snd_aload_n d44_0 rfl, List.forall_mem_cons.mpr ⟨snd_getR (by decide) (by decide) rfl wd243 d44_1, List.forall_mem_cons.mpr ⟨snd_aload_n d44_4 rfl, List.forall_mem_cons.mpr ⟨snd_getI (by decide) (by decide) rfl wd239 d44_5, List.forall_mem_cons.mpr ⟨snd_iload_n d44_8 rfl, List.forall_mem_cons.mpr ⟨snd_iast d44_9, List.forall_mem_cons.mpr ⟨snd_aload_n d44_10 rfl, List.forall_mem_cons.mpr ⟨snd_getR (by decide) (by decide) rfl wd245 d44_11, List.forall_mem_cons.mpr ⟨snd_aload_n d44_14 rfl, List.forall_mem_cons.mpr ⟨snd_getI (by decide) (by decide) rfl wd239 d44_15, List.forall_mem_cons.mpr ⟨snd_iload_n d44_18 rfl, List.forall_mem_cons.mpr ⟨snd_zast d44_19, List.forall_mem_cons.mpr ⟨snd_aload_n d44_20 rfl, List.forall_mem_cons.mpr ⟨snd_dup d44_21, List.forall_mem_cons.mpr ⟨snd_getI (by decide) (by decide) rfl wd239 d44_22, List.forall_mem_cons.mpr ⟨snd_iconst d44_25 (by decide +kernel), List.forall_mem_cons.mpr ⟨snd_iadd d44_26, List.forall_mem_cons.mpr ⟨snd_putI (by decide) (by decide) rfl rfl wd239 d44_27, List.forall_mem_cons.mpr ⟨snd_vret rfl d44_30, fun _ h => by cases h⟩⟩⟩⟩⟩⟩⟩⟩⟩⟩⟩⟩⟩⟩⟩⟩⟩⟩⟩
theorem d45_0 : decode (mC M45) 0 = .ok (.iconst 0, 1) := by decide +kernel
theorem d45_1 : decode (mC M45) 1 = .ok (.istore_n 2, 1) := by decide +kernel
theorem d45_2 : decode (mC M45) 2 = .ok (.iload_n 2, 1) := by decide +kernel
theorem d45_3 : decode (mC M45) 3 = .ok (.aload_n 0, 1) := by decide +kernel
theorem d45_4 : decode (mC M45) 4 = .ok (.getfield 39, 3) := by decide +kernel
theorem d45_7 : decode (mC M45) 7 = .ok (.if_icmp .ge 24, 3) := by decide +kernel
theorem d45_10 : decode (mC M45) 10 = .ok (.aload_n 0, 1) := by decide +kernel
theorem d45_11 : decode (mC M45) 11 = .ok (.getfield 26, 3) := by decide +kernel
theorem d45_14 : decode (mC M45) 14 = .ok (.iload_n 2, 1) := by decide +kernel
theorem d45_15 : decode (mC M45) 15 = .ok (.aload_n 0, 1) := by decide +kernel
theorem d45_16 : decode (mC M45) 16 = .ok (.getfield 22, 3) := by decide +kernel
theorem d45_19 : decode (mC M45) 19 = .ok (.iload_n 2, 1) := by decide +kernel
theorem d45_20 : decode (mC M45) 20 = .ok (.iload_n 1, 1) := by decide +kernel
theorem d45_21 : decode (mC M45) 21 = .ok (.invokevirtual 45, 3) := by decide +kernel
theorem d45_24 : decode (mC M45) 24 = .ok (.iastore, 1) := by decide +kernel
theorem d45_25 : decode (mC M45) 25 = .ok (.iinc 2 1, 3) := by decide +kernel
theorem d45_28 : decode (mC M45) 28 = .ok (.goto (-26), 3) := by decide +kernel
theorem d45_31 : decode (mC M45) 31 = .ok (.return_, 1) := by decide +kernel
theorem sc45_0 : ∀ q ∈ tc45_0, Snd xtb M45 q.1 q.2 := List.forall_mem_cons.mpr ⟨snd_iconst d45_0 (by decide +kernel), List.forall_mem_cons.mpr ⟨snd_istore_n d45_1 rfl, List.forall_mem_cons.mpr ⟨snd_iload_n d45_2 rfl, List.forall_mem_cons.mpr ⟨snd_aload_n d45_3 rfl, List.forall_mem_cons.mpr ⟨snd_getI (by decide) (by decide) rfl wd239 d45_4, List.forall_mem_cons.mpr ⟨snd_cmp_ge d45_7 (by decide), List.forall_mem_cons.mpr ⟨snd_aload_n d45_10 rfl, List.forall_mem_cons.mpr ⟨snd_getR (by decide) (by decide) rfl wd251 d45_11, List.forall_mem_cons.mpr ⟨snd_iload_n d45_14 rfl, List.forall_mem_cons.mpr ⟨snd_aload_n d45_15 rfl, List.forall_mem_cons.mpr ⟨snd_getR (by decide) (by decide) rfl wd247 d45_16, List.forall_mem_cons.mpr ⟨snd_iload_n d45_19 rfl, List.forall_mem_cons.mpr ⟨snd_iload_n d45_20 rfl, List.forall_mem_cons.mpr ⟨snd_callV (by decide) rfl cn19 ⟨by decide +kernel, by decide +kernel⟩ cm19 (List.forall_mem_cons.mpr ⟨wd937, cw19⟩) d45_21, List.forall_mem_cons.mpr ⟨snd_iast d45_24, List.forall_mem_cons.mpr ⟨snd_iinc d45_25 (by decide +kernel), List.forall_mem_cons.mpr ⟨snd_goto d45_28 (by decide), List.forall_mem_cons.mpr ⟨snd_vret rfl d45_31, fun _ h => by cases h⟩⟩⟩⟩⟩⟩⟩⟩⟩⟩⟩⟩⟩⟩⟩⟩⟩⟩
theorem d46_0 : decode (mC M46) 0 = .ok (.iconst 0, 1) := by decide +kernel
theorem d46_1 : decode (mC M46) 1 = .ok (.istore 4, 2) := by decide +kernel
theorem d46_3 : decode (mC M46) 3 = .ok (.iload 4, 2) := by decide +kernel
theorem d46_5 : decode (mC M46) 5 = .ok (.aload_n 0, 1) := by decide +kernel
theorem d46_6 : decode (mC M46) 6 = .ok (.getfield 39, 3) := by decide +kernel
theorem d46_9 : decode (mC M46) 9 = .ok (.if_icmp .ge 42, 3) := by decide +kernel
theorem d46_12 : decode (mC M46) 12 = .ok (.aload_n 0, 1) := by decide +kernel
theorem d46_13 : decode (mC M46) 13 = .ok (.getfield 9, 3) := by decide +kernel
theorem d46_16 : decode (mC M46) 16 = .ok (.iload 4, 2) := by decide +kernel
theorem d46_18 : decode (mC M46) 18 = .ok (.iaload, 1) := by decide +kernel
theorem d46_19 : decode (mC M46) 19 = .ok (.iload_n 1, 1) := by decide +kernel
theorem d46_20 : decode (mC M46) 20 = .ok (.if_icmp .ne 25, 3) := by decide +kernel
theorem d46_23 : decode (mC M46) 23 = .ok (.aload_n 0, 1) := by decide +kernel
theorem d46_24 : decode (mC M46) 24 = .ok (.getfield 22, 3) := by decide +kernel
theorem d46_27 : decode (mC M46) 27 = .ok (.aload_n 0, 1) := by decide +kernel
theorem d46_28 : decode (mC M46) 28 = .ok (.getfield 26, 3) := by decide +kernel
theorem d46_31 : decode (mC M46) 31 = .ok (.iload 4, 2) := by decide +kernel
theorem d46_33 : decode (mC M46) 33 = .ok (.iaload, 1) := by decide +kernel
theorem d46_34 : decode (mC M46) 34 = .ok (.iload_n 2, 1) := by decide +kernel
theorem d46_35 : decode (mC M46) 35 = .ok (.iload_n 3, 1) := by decide +kernel
theorem d46_36 : decode (mC M46) 36 = .ok (.invokevirtual 49, 3) := by decide +kernel
theorem d46_39 : decode (mC M46) 39 = .ok (.ifCond .eq 6, 3) := by decide +kernel
theorem d46_42 : decode (mC M46) 42 = .ok (.iload 4, 2) := by decide +kernel
theorem d46_44 : decode (mC M46) 44 = .ok (.ireturn, 1) := by decide +kernel
theorem d46_45 : decode (mC M46) 45 = .ok (.iinc 4 1, 3) := by decide +kernel
theorem d46_48 : decode (mC M46) 48 = .ok (.goto (-45), 3) := by decide +kernel
theorem d46_51 : decode (mC M46) 51 = .ok (.bipush (-2), 2) := by decide +kernel
theorem d46_53 : decode (mC M46) 53 = .ok (.ireturn, 1) := by decide +kernel
theorem sc46_0 : ∀ q ∈ tc46_0, Snd xtb M46 q.1 q.2 := List.forall_mem_cons.mpr ⟨snd_iconst d46_0 (by decide +kernel), List.forall_mem_cons.mpr ⟨snd_istore d46_1, List.forall_mem_cons.mpr ⟨snd_iload d46_3, List.forall_mem_cons.mpr ⟨snd_aload_n d46_5 rfl, List.forall_mem_cons.mpr ⟨snd_getI (by decide) (by decide) rfl wd239 d46_6, List.forall_mem_cons.mpr ⟨snd_cmp_ge d46_9 (by decide), List.forall_mem_cons.mpr ⟨snd_aload_n d46_12 rfl, List.forall_mem_cons.mpr ⟨snd_getR (by decide) (by decide) rfl wd243 d46_13, List.forall_mem_cons.mpr ⟨snd_iload d46_16, List.forall_mem_cons.mpr ⟨snd_iald d46_18, List.forall_mem_cons.mpr ⟨snd_iload_n d46_19 rfl, List.forall_mem_cons.mpr ⟨snd_cmp_ne d46_20 (by decide), List.forall_mem_cons.mpr ⟨snd_aload_n d46_23 rfl, List.forall_mem_cons.mpr ⟨snd_getR (by decide) (by decide) rfl wd247 d46_24, List.forall_mem_cons.mpr ⟨snd_aload_n d46_27 rfl, List.forall_mem_cons.mpr ⟨snd_getR (by decide) (by decide) rfl wd251 d46_28, List.forall_mem_cons.mpr ⟨snd_iload d46_31, List.forall_mem_cons.mpr ⟨snd_iald d46_33, List.forall_mem_cons.mpr ⟨snd_iload_n d46_34 rfl, List.forall_mem_cons.mpr ⟨snd_iload_n d46_35 rfl, List.forall_mem_cons.mpr ⟨snd_callV (by decide) rfl cn26 ⟨by decide +kernel, by decide +kernel⟩ cm26 (List.forall_mem_cons.mpr ⟨wd942, cw26⟩) d46_36, List.forall_mem_cons.mpr ⟨snd_if_eq d46_39 (by decide), List.forall_mem_cons.mpr ⟨snd_iload d46_42, List.forall_mem_cons.mpr ⟨snd_iret rfl d46_44, List.forall_mem_cons.mpr ⟨snd_iinc d46_45 (by decide +kernel), List.forall_mem_cons.mpr ⟨snd_goto d46_48 (by decide), List.forall_mem_cons.mpr ⟨snd_bipush d46_51 (by decide +kernel), List.forall_mem_cons.mpr ⟨snd_iret rfl d46_53, fun _ h => by cases h⟩⟩⟩⟩⟩⟩⟩⟩⟩⟩⟩⟩⟩⟩⟩⟩⟩⟩⟩⟩⟩⟩⟩⟩⟩⟩⟩⟩

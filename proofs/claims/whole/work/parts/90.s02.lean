/-! soundness -/
theorem d47_0 : decode (mC M47) 0 = .ok (.aload_n 0, 1) := by decide +kernel
theorem d47_1 : decode (mC M47) 1 = .ok (.iconst 0, 1) := by decide +kernel
theorem d47_2 : decode (mC M47) 2 = .ok (.putfield 53, 3) := by decide +kernel
theorem d47_5 : decode (mC M47) 5 = .ok (.iconst 0, 1) := by decide +kernel
theorem d47_6 : decode (mC M47) 6 = .ok (.istore_n 3, 1) := by decide +kernel
theorem d47_7 : decode (mC M47) 7 = .ok (.iload_n 3, 1) := by decide +kernel
theorem d47_8 : decode (mC M47) 8 = .ok (.aload_n 0, 1) := by decide +kernel
theorem d47_9 : decode (mC M47) 9 = .ok (.getfield 36, 3) := by decide +kernel
theorem d47_12 : decode (mC M47) 12 = .ok (.if_icmp .ge 55, 3) := by decide +kernel
theorem d47_15 : decode (mC M47) 15 = .ok (.aload_n 0, 1) := by decide +kernel
theorem d47_16 : decode (mC M47) 16 = .ok (.iload_n 3, 1) := by decide +kernel
theorem d47_17 : decode (mC M47) 17 = .ok (.iload_n 1, 1) := by decide +kernel
theorem d47_18 : decode (mC M47) 18 = .ok (.iload_n 2, 1) := by decide +kernel
theorem d47_19 : decode (mC M47) 19 = .ok (.invokevirtual 56, 3) := by decide +kernel
theorem d47_22 : decode (mC M47) 22 = .ok (.istore 4, 2) := by decide +kernel
theorem d47_24 : decode (mC M47) 24 = .ok (.iload 4, 2) := by decide +kernel
theorem d47_26 : decode (mC M47) 26 = .ok (.ifCond .lt 35, 3) := by decide +kernel
theorem d47_29 : decode (mC M47) 29 = .ok (.aload_n 0, 1) := by decide +kernel
theorem d47_30 : decode (mC M47) 30 = .ok (.getfield 29, 3) := by decide +kernel
theorem d47_33 : decode (mC M47) 33 = .ok (.aload_n 0, 1) := by decide +kernel
theorem d47_34 : decode (mC M47) 34 = .ok (.getfield 53, 3) := by decide +kernel
theorem d47_37 : decode (mC M47) 37 = .ok (.iload 4, 2) := by decide +kernel
theorem d47_39 : decode (mC M47) 39 = .ok (.iastore, 1) := by decide +kernel
theorem d47_40 : decode (mC M47) 40 = .ok (.aload_n 0, 1) := by decide +kernel
theorem d47_41 : decode (mC M47) 41 = .ok (.dup, 1) := by decide +kernel
theorem d47_42 : decode (mC M47) 42 = .ok (.getfield 53, 3) := by decide +kernel
theorem d47_45 : decode (mC M47) 45 = .ok (.iconst 1, 1) := by decide +kernel
theorem d47_46 : decode (mC M47) 46 = .ok (.iadd, 1) := by decide +kernel
theorem d47_47 : decode (mC M47) 47 = .ok (.putfield 53, 3) := by decide +kernel
theorem d47_50 : decode (mC M47) 50 = .ok (.aload_n 0, 1) := by decide +kernel
theorem d47_51 : decode (mC M47) 51 = .ok (.getfield 15, 3) := by decide +kernel
theorem d47_54 : decode (mC M47) 54 = .ok (.iload 4, 2) := by decide +kernel
theorem d47_56 : decode (mC M47) 56 = .ok (.baload, 1) := by decide +kernel
theorem d47_57 : decode (mC M47) 57 = .ok (.ifCond .eq 4, 3) := by decide +kernel
theorem d47_60 : decode (mC M47) 60 = .ok (.return_, 1) := by decide +kernel
theorem d47_61 : decode (mC M47) 61 = .ok (.iinc 3 1, 3) := by decide +kernel
theorem d47_64 : decode (mC M47) 64 = .ok (.goto (-57), 3) := by decide +kernel
theorem d47_67 : decode (mC M47) 67 = .ok (.return_, 1) := by decide +kernel
theorem sc47_0 : ∀ q ∈ tc47_0, Snd xtb M47 q.1 q.2 := List.forall_mem_cons.mpr ⟨snd_aload_n d47_0 rfl, List.forall_mem_cons.mpr ⟨snd_iconst d47_1 (by decide +kernel), List.forall_mem_cons.mpr ⟨snd_putI (by decide) (by decide) rfl rfl wd255 d47_2, List.forall_mem_cons.mpr ⟨snd_iconst d47_5 (by decide +kernel), List.forall_mem_cons.mpr ⟨snd_istore_n d47_6 rfl, List.forall_mem_cons.mpr ⟨snd_iload_n d47_7 rfl, List.forall_mem_cons.mpr ⟨snd_aload_n d47_8 rfl, List.forall_mem_cons.mpr ⟨snd_getI (by decide) (by decide) rfl wd235 d47_9, List.forall_mem_cons.mpr ⟨snd_cmp_ge d47_12 (by decide), List.forall_mem_cons.mpr ⟨snd_aload_n d47_15 rfl, List.forall_mem_cons.mpr ⟨snd_iload_n d47_16 rfl, List.forall_mem_cons.mpr ⟨snd_iload_n d47_17 rfl, List.forall_mem_cons.mpr ⟨snd_iload_n d47_18 rfl, List.forall_mem_cons.mpr ⟨snd_callV (by decide) rfl cn46 ⟨by decide +kernel, by decide +kernel⟩ cm46 (List.forall_mem_cons.mpr ⟨wd951, cw46⟩) d47_19, List.forall_mem_cons.mpr ⟨snd_istore d47_22, List.forall_mem_cons.mpr ⟨snd_iload d47_24, List.forall_mem_cons.mpr ⟨snd_if_lt d47_26 (by decide), List.forall_mem_cons.mpr ⟨snd_aload_n d47_29 rfl, List.forall_mem_cons.mpr ⟨snd_getR (by decide) (by decide) rfl wd252 d47_30, List.forall_mem_cons.mpr ⟨snd_aload_n d47_33 rfl, List.forall_mem_cons.mpr ⟨snd_getI (by decide) (by decide) rfl wd255 d47_34, List.forall_mem_cons.mpr ⟨snd_iload d47_37, List.forall_mem_cons.mpr ⟨snd_iast d47_39, List.forall_mem_cons.mpr ⟨snd_aload_n d47_40 rfl, List.forall_mem_cons.mpr ⟨snd_dup d47_41, List.forall_mem_cons.mpr ⟨snd_getI (by decide) (by decide) rfl wd255 d47_42, List.forall_mem_cons.mpr ⟨snd_iconst d47_45 (by decide +kernel), List.forall_mem_cons.mpr ⟨snd_iadd d47_46, List.forall_mem_cons.mpr ⟨snd_putI (by decide) (by decide) rfl rfl wd255 d47_47, List.forall_mem_cons.mpr ⟨snd_aload_n d47_50 rfl, fun _ h => by cases h⟩⟩⟩⟩⟩⟩⟩⟩⟩⟩⟩⟩⟩⟩⟩⟩⟩⟩⟩⟩⟩⟩⟩⟩⟩⟩⟩⟩⟩⟩
theorem sc47_1 : ∀ q ∈ tc47_1, Snd xtb M47 q.1 q.2 := List.forall_mem_cons.mpr ⟨snd_getR (by decide) (by decide) rfl wd245 d47_51, List.forall_mem_cons.mpr ⟨snd_iload d47_54, List.forall_mem_cons.mpr ⟨snd_zald d47_56, List.forall_mem_cons.mpr ⟨snd_if_eq d47_57 (by decide), List.forall_mem_cons.mpr ⟨snd_vret rfl d47_60, List.forall_mem_cons.mpr ⟨snd_iinc d47_61 (by decide +kernel), List.forall_mem_cons.mpr ⟨snd_goto d47_64 (by decide), List.forall_mem_cons.mpr ⟨snd_vret rfl d47_67, fun _ h => by cases h⟩⟩⟩⟩⟩⟩⟩⟩
theorem d48_0 : decode (mC M48) 0 = .ok (.aload_n 0, 1) := by decide +kernel
theorem d48_1 : decode (mC M48) 1 = .ok (.iload_n 1, 1) := by decide +kernel
theorem d48_2 : decode (mC M48) 2 = .ok (.invokevirtual 60, 3) := by decide +kernel
theorem d48_5 : decode (mC M48) 5 = .ok (.aload_n 0, 1) := by decide +kernel
theorem d48_6 : decode (mC M48) 6 = .ok (.iload_n 2, 1) := by decide +kernel
theorem d48_7 : decode (mC M48) 7 = .ok (.iload_n 3, 1) := by decide +kernel
theorem d48_8 : decode (mC M48) 8 = .ok (.invokevirtual 64, 3) := by decide +kernel
theorem d48_11 : decode (mC M48) 11 = .ok (.iconst 0, 1) := by decide +kernel
theorem d48_12 : decode (mC M48) 12 = .ok (.istore 4, 2) := by decide +kernel
theorem d48_14 : decode (mC M48) 14 = .ok (.iconst 0, 1) := by decide +kernel
theorem d48_15 : decode (mC M48) 15 = .ok (.istore 5, 2) := by decide +kernel
theorem d48_17 : decode (mC M48) 17 = .ok (.iload 5, 2) := by decide +kernel
theorem d48_19 : decode (mC M48) 19 = .ok (.aload_n 0, 1) := by decide +kernel
theorem d48_20 : decode (mC M48) 20 = .ok (.getfield 53, 3) := by decide +kernel
theorem d48_23 : decode (mC M48) 23 = .ok (.if_icmp .ge 23, 3) := by decide +kernel
theorem d48_26 : decode (mC M48) 26 = .ok (.iload 4, 2) := by decide +kernel
theorem d48_28 : decode (mC M48) 28 = .ok (.iconst 1, 1) := by decide +kernel
theorem d48_29 : decode (mC M48) 29 = .ok (.aload_n 0, 1) := by decide +kernel
theorem d48_30 : decode (mC M48) 30 = .ok (.getfield 29, 3) := by decide +kernel
theorem d48_33 : decode (mC M48) 33 = .ok (.iload 5, 2) := by decide +kernel
theorem d48_35 : decode (mC M48) 35 = .ok (.iaload, 1) := by decide +kernel
theorem d48_36 : decode (mC M48) 36 = .ok (.ishl, 1) := by decide +kernel
theorem d48_37 : decode (mC M48) 37 = .ok (.ior, 1) := by decide +kernel
theorem d48_38 : decode (mC M48) 38 = .ok (.istore 4, 2) := by decide +kernel
theorem d48_40 : decode (mC M48) 40 = .ok (.iinc 5 1, 3) := by decide +kernel
theorem d48_43 : decode (mC M48) 43 = .ok (.goto (-26), 3) := by decide +kernel
theorem d48_46 : decode (mC M48) 46 = .ok (.iload 4, 2) := by decide +kernel
theorem d48_48 : decode (mC M48) 48 = .ok (.ireturn, 1) := by decide +kernel
theorem sc48_0 : ∀ q ∈ tc48_0, Snd xtb M48 q.1 q.2 := List.forall_mem_cons.mpr ⟨snd_aload_n d48_0 rfl, List.forall_mem_cons.mpr ⟨snd_iload_n d48_1 rfl, List.forall_mem_cons.mpr ⟨snd_callV (by decide) rfl cn45 ⟨by decide +kernel, by decide +kernel⟩ cm45 (List.forall_mem_cons.mpr ⟨wd968, cw45⟩) d48_2, List.forall_mem_cons.mpr ⟨snd_aload_n d48_5 rfl, List.forall_mem_cons.mpr ⟨snd_iload_n d48_6 rfl, List.forall_mem_cons.mpr ⟨snd_iload_n d48_7 rfl, List.forall_mem_cons.mpr ⟨snd_callV (by decide) rfl cn47 ⟨by decide +kernel, by decide +kernel⟩ cm47 (List.forall_mem_cons.mpr ⟨wd969, cw47⟩) d48_8, List.forall_mem_cons.mpr ⟨snd_iconst d48_11 (by decide +kernel), List.forall_mem_cons.mpr ⟨snd_istore d48_12, List.forall_mem_cons.mpr ⟨snd_iconst d48_14 (by decide +kernel), List.forall_mem_cons.mpr ⟨snd_istore d48_15, List.forall_mem_cons.mpr ⟨snd_iload d48_17, List.forall_mem_cons.mpr ⟨snd_aload_n d48_19 rfl, List.forall_mem_cons.mpr ⟨snd_getI (by decide) (by decide) rfl wd255 d48_20, List.forall_mem_cons.mpr ⟨snd_cmp_ge d48_23 (by decide), List.forall_mem_cons.mpr ⟨snd_iload d48_26, List.forall_mem_cons.mpr ⟨snd_iconst d48_28 (by decide +kernel), List.forall_mem_cons.mpr ⟨snd_aload_n d48_29 rfl, List.forall_mem_cons.mpr ⟨snd_getR (by decide) (by decide) rfl wd252 d48_30, List.forall_mem_cons.mpr ⟨snd_iload d48_33, List.forall_mem_cons.mpr ⟨snd_iald d48_35, List.forall_mem_cons.mpr ⟨snd_ishl d48_36, List.forall_mem_cons.mpr ⟨snd_ior d48_37, List.forall_mem_cons.mpr ⟨snd_istore d48_38, List.forall_mem_cons.mpr ⟨snd_iinc d48_40 (by decide +kernel), List.forall_mem_cons.mpr ⟨snd_goto d48_43 (by decide), List.forall_mem_cons.mpr ⟨snd_iload d48_46, List.forall_mem_cons.mpr ⟨snd_iret rfl d48_48, fun _ h => by cases h⟩⟩⟩⟩⟩⟩⟩⟩⟩⟩⟩⟩⟩⟩⟩⟩⟩⟩⟩⟩⟩⟩⟩⟩⟩⟩⟩⟩
theorem d49_0 : decode (mC M49) 0 = .ok (.aload_n 0, 1) := by decide +kernel
theorem d49_1 : decode (mC M49) 1 = .ok (.iload_n 1, 1) := by decide +kernel
theorem d49_2 : decode (mC M49) 2 = .ok (.iload_n 2, 1) := by decide +kernel
theorem d49_3 : decode (mC M49) 3 = .ok (.iload_n 3, 1) := by decide +kernel
theorem d49_4 : decode (mC M49) 4 = .ok (.invokevirtual 68, 3) := by decide +kernel
theorem d49_7 : decode (mC M49) 7 = .ok (.istore 4, 2) := by decide +kernel
theorem d49_9 : decode (mC M49) 9 = .ok (.aload_n 0, 1) := by decide +kernel
theorem d49_10 : decode (mC M49) 10 = .ok (.getfield 22, 3) := by decide +kernel
theorem d49_13 : decode (mC M49) 13 = .ok (.iload_n 1, 1) := by decide +kernel
theorem d49_14 : decode (mC M49) 14 = .ok (.invokevirtual 71, 3) := by decide +kernel
theorem d49_17 : decode (mC M49) 17 = .ok (.istore 5, 2) := by decide +kernel
theorem d49_19 : decode (mC M49) 19 = .ok (.iconst 0, 1) := by decide +kernel
theorem d49_20 : decode (mC M49) 20 = .ok (.istore 6, 2) := by decide +kernel
theorem d49_22 : decode (mC M49) 22 = .ok (.iload 6, 2) := by decide +kernel
theorem d49_24 : decode (mC M49) 24 = .ok (.bipush 16, 2) := by decide +kernel
theorem d49_26 : decode (mC M49) 26 = .ok (.if_icmp .ge 44, 3) := by decide +kernel
theorem d49_29 : decode (mC M49) 29 = .ok (.iload 5, 2) := by decide +kernel
theorem d49_31 : decode (mC M49) 31 = .ok (.sipush 999, 3) := by decide +kernel
theorem d49_34 : decode (mC M49) 34 = .ok (.if_icmp .gt 36, 3) := by decide +kernel
theorem d49_37 : decode (mC M49) 37 = .ok (.aload_n 0, 1) := by decide +kernel
theorem d49_38 : decode (mC M49) 38 = .ok (.iload 5, 2) := by decide +kernel
theorem d49_40 : decode (mC M49) 40 = .ok (.iload_n 2, 1) := by decide +kernel
theorem d49_41 : decode (mC M49) 41 = .ok (.iload_n 3, 1) := by decide +kernel
theorem d49_42 : decode (mC M49) 42 = .ok (.invokevirtual 68, 3) := by decide +kernel
theorem d49_45 : decode (mC M49) 45 = .ok (.iload 4, 2) := by decide +kernel
theorem d49_47 : decode (mC M49) 47 = .ok (.if_icmp .eq 6, 3) := by decide +kernel
theorem d49_50 : decode (mC M49) 50 = .ok (.iload 5, 2) := by decide +kernel
theorem d49_52 : decode (mC M49) 52 = .ok (.ireturn, 1) := by decide +kernel
theorem d49_53 : decode (mC M49) 53 = .ok (.aload_n 0, 1) := by decide +kernel
theorem d49_54 : decode (mC M49) 54 = .ok (.getfield 22, 3) := by decide +kernel
theorem d49_57 : decode (mC M49) 57 = .ok (.iload 5, 2) := by decide +kernel
theorem d49_59 : decode (mC M49) 59 = .ok (.invokevirtual 71, 3) := by decide +kernel
theorem d49_62 : decode (mC M49) 62 = .ok (.istore 5, 2) := by decide +kernel
theorem d49_64 : decode (mC M49) 64 = .ok (.iinc 6 1, 3) := by decide +kernel
theorem d49_67 : decode (mC M49) 67 = .ok (.goto (-45), 3) := by decide +kernel
theorem d49_70 : decode (mC M49) 70 = .ok (.bipush (-2), 2) := by decide +kernel
theorem d49_72 : decode (mC M49) 72 = .ok (.ireturn, 1) := by decide +kernel
theorem sc49_0 : ∀ q ∈ tc49_0, Snd xtb M49 q.1 q.2 := List.forall_mem_cons.mpr ⟨snd_aload_n d49_0 rfl, List.forall_mem_cons.mpr ⟨snd_iload_n d49_1 rfl, List.forall_mem_cons.mpr ⟨snd_iload_n d49_2 rfl, List.forall_mem_cons.mpr ⟨snd_iload_n d49_3 rfl, List.forall_mem_cons.mpr ⟨snd_callV (by decide) rfl cn48 ⟨by decide +kernel, by decide +kernel⟩ cm48 (List.forall_mem_cons.mpr ⟨wd964, cw48⟩) d49_4, List.forall_mem_cons.mpr ⟨snd_istore d49_7, List.forall_mem_cons.mpr ⟨snd_aload_n d49_9 rfl, List.forall_mem_cons.mpr ⟨snd_getR (by decide) (by decide) rfl wd247 d49_10, List.forall_mem_cons.mpr ⟨snd_iload_n d49_13 rfl, List.forall_mem_cons.mpr ⟨snd_callV (by decide) rfl cn24 ⟨by decide +kernel, by decide +kernel⟩ cm24 (List.forall_mem_cons.mpr ⟨wd970, cw24⟩) d49_14, List.forall_mem_cons.mpr ⟨snd_istore d49_17, List.forall_mem_cons.mpr ⟨snd_iconst d49_19 (by decide +kernel), List.forall_mem_cons.mpr ⟨snd_istore d49_20, List.forall_mem_cons.mpr ⟨snd_iload d49_22, List.forall_mem_cons.mpr ⟨snd_bipush d49_24 (by decide +kernel), List.forall_mem_cons.mpr ⟨snd_cmp_ge d49_26 (by decide), List.forall_mem_cons.mpr ⟨snd_iload d49_29, List.forall_mem_cons.mpr ⟨snd_sipush d49_31 (by decide +kernel), List.forall_mem_cons.mpr ⟨snd_cmp_gt d49_34 (by decide), List.forall_mem_cons.mpr ⟨snd_aload_n d49_37 rfl, List.forall_mem_cons.mpr ⟨snd_iload d49_38, List.forall_mem_cons.mpr ⟨snd_iload_n d49_40 rfl, List.forall_mem_cons.mpr ⟨snd_iload_n d49_41 rfl, List.forall_mem_cons.mpr ⟨snd_callV (by decide) rfl cn48 ⟨by decide +kernel, by decide +kernel⟩ cm48 (List.forall_mem_cons.mpr ⟨wd964, cw48⟩) d49_42, List.forall_mem_cons.mpr ⟨snd_iload d49_45, List.forall_mem_cons.mpr ⟨snd_cmp_eq d49_47 (by decide), List.forall_mem_cons.mpr ⟨snd_iload d49_50, List.forall_mem_cons.mpr ⟨snd_iret rfl d49_52, List.forall_mem_cons.mpr ⟨snd_aload_n d49_53 rfl, List.forall_mem_cons.mpr ⟨snd_getR (by decide) (by decide) rfl wd247 d49_54, fun _ h => by cases h⟩⟩⟩⟩⟩⟩⟩⟩⟩⟩⟩⟩⟩⟩⟩⟩⟩⟩⟩⟩⟩⟩⟩⟩⟩⟩⟩⟩⟩⟩
theorem sc49_1 : ∀ q ∈ tc49_1, Snd xtb M49 q.1 q.2 := List.forall_mem_cons.mpr ⟨snd_iload d49_57, List.forall_mem_cons.mpr ⟨snd_callV (by decide) rfl cn24 ⟨by decide +kernel, by decide +kernel⟩ cm24 (List.forall_mem_cons.mpr ⟨wd970, cw24⟩) d49_59, List.forall_mem_cons.mpr ⟨snd_istore d49_62, List.forall_mem_cons.mpr ⟨snd_iinc d49_64 (by decide +kernel), List.forall_mem_cons.mpr ⟨snd_goto d49_67 (by decide), List.forall_mem_cons.mpr ⟨snd_bipush d49_70 (by decide +kernel), List.forall_mem_cons.mpr ⟨snd_iret rfl d49_72, fun _ h => by cases h⟩⟩⟩⟩⟩⟩⟩
theorem d50_0 : decode (mC M50) 0 = .ok (.iconst 0, 1) := by decide +kernel
theorem d50_1 : decode (mC M50) 1 = .ok (.istore_n 3, 1) := by decide +kernel
theorem d50_2 : decode (mC M50) 2 = .ok (.iconst 0, 1) := by decide +kernel
theorem d50_3 : decode (mC M50) 3 = .ok (.istore 4, 2) := by decide +kernel
theorem d50_5 : decode (mC M50) 5 = .ok (.iload 4, 2) := by decide +kernel
theorem d50_7 : decode (mC M50) 7 = .ok (.aload_n 0, 1) := by decide +kernel
theorem d50_8 : decode (mC M50) 8 = .ok (.getfield 32, 3) := by decide +kernel
theorem d50_11 : decode (mC M50) 11 = .ok (.if_icmp .gt 78, 3) := by decide +kernel
theorem d50_14 : decode (mC M50) 14 = .ok (.iconst 0, 1) := by decide +kernel
theorem d50_15 : decode (mC M50) 15 = .ok (.istore 5, 2) := by decide +kernel
theorem d50_17 : decode (mC M50) 17 = .ok (.iload 5, 2) := by decide +kernel
theorem d50_19 : decode (mC M50) 19 = .ok (.aload_n 0, 1) := by decide +kernel
theorem d50_20 : decode (mC M50) 20 = .ok (.getfield 32, 3) := by decide +kernel
theorem d50_23 : decode (mC M50) 23 = .ok (.if_icmp .gt 60, 3) := by decide +kernel
theorem d50_26 : decode (mC M50) 26 = .ok (.iload_n 3, 1) := by decide +kernel
theorem d50_27 : decode (mC M50) 27 = .ok (.aload_n 0, 1) := by decide +kernel
theorem d50_28 : decode (mC M50) 28 = .ok (.getfield 22, 3) := by decide +kernel
theorem d50_31 : decode (mC M50) 31 = .ok (.aload_n 0, 1) := by decide +kernel
theorem d50_32 : decode (mC M50) 32 = .ok (.getfield 26, 3) := by decide +kernel
theorem d50_35 : decode (mC M50) 35 = .ok (.iload_n 1, 1) := by decide +kernel
theorem d50_36 : decode (mC M50) 36 = .ok (.iaload, 1) := by decide +kernel
theorem d50_37 : decode (mC M50) 37 = .ok (.iload 5, 2) := by decide +kernel
theorem d50_39 : decode (mC M50) 39 = .ok (.iload 4, 2) := by decide +kernel
theorem d50_41 : decode (mC M50) 41 = .ok (.invokevirtual 49, 3) := by decide +kernel
theorem d50_44 : decode (mC M50) 44 = .ok (.ifCond .eq 27, 3) := by decide +kernel
theorem d50_47 : decode (mC M50) 47 = .ok (.aload_n 0, 1) := by decide +kernel
theorem d50_48 : decode (mC M50) 48 = .ok (.getfield 22, 3) := by decide +kernel
theorem d50_51 : decode (mC M50) 51 = .ok (.aload_n 0, 1) := by decide +kernel
theorem d50_52 : decode (mC M50) 52 = .ok (.getfield 26, 3) := by decide +kernel
theorem d50_55 : decode (mC M50) 55 = .ok (.iload_n 2, 1) := by decide +kernel
theorem d50_56 : decode (mC M50) 56 = .ok (.iaload, 1) := by decide +kernel
theorem d50_57 : decode (mC M50) 57 = .ok (.iload 5, 2) := by decide +kernel
theorem d50_59 : decode (mC M50) 59 = .ok (.iload 4, 2) := by decide +kernel
theorem d50_61 : decode (mC M50) 61 = .ok (.invokevirtual 49, 3) := by decide +kernel
theorem d50_64 : decode (mC M50) 64 = .ok (.ifCond .eq 7, 3) := by decide +kernel
theorem d50_67 : decode (mC M50) 67 = .ok (.iconst 1, 1) := by decide +kernel
theorem d50_68 : decode (mC M50) 68 = .ok (.goto 4, 3) := by decide +kernel
theorem d50_71 : decode (mC M50) 71 = .ok (.iconst 0, 1) := by decide +kernel
theorem d50_72 : decode (mC M50) 72 = .ok (.invokestatic 75, 3) := by decide +kernel
theorem d50_75 : decode (mC M50) 75 = .ok (.iadd, 1) := by decide +kernel
theorem d50_76 : decode (mC M50) 76 = .ok (.istore_n 3, 1) := by decide +kernel
theorem d50_77 : decode (mC M50) 77 = .ok (.iinc 5 1, 3) := by decide +kernel
theorem d50_80 : decode (mC M50) 80 = .ok (.goto (-63), 3) := by decide +kernel
theorem d50_83 : decode (mC M50) 83 = .ok (.iinc 4 1, 3) := by decide +kernel
theorem d50_86 : decode (mC M50) 86 = .ok (.goto (-81), 3) := by decide +kernel
theorem d50_89 : decode (mC M50) 89 = .ok (.iload_n 3, 1) := by decide +kernel
theorem d50_90 : decode (mC M50) 90 = .ok (.ireturn, 1) := by decide +kernel
theorem sc50_0 : ∀ q ∈ tc50_0, Snd xtb M50 q.1 q.2 := List.forall_mem_cons.mpr ⟨snd_iconst d50_0 (by decide +kernel), List.forall_mem_cons.mpr ⟨snd_istore_n d50_1 rfl, List.forall_mem_cons.mpr ⟨snd_iconst d50_2 (by decide +kernel), List.forall_mem_cons.mpr ⟨snd_istore d50_3, List.forall_mem_cons.mpr ⟨snd_iload d50_5, List.forall_mem_cons.mpr ⟨snd_aload_n d50_7 rfl, List.forall_mem_cons.mpr ⟨snd_getI (by decide) (by decide) rfl wd231 d50_8, List.forall_mem_cons.mpr ⟨snd_cmp_gt d50_11 (by decide), List.forall_mem_cons.mpr ⟨snd_iconst d50_14 (by decide +kernel), List.forall_mem_cons.mpr ⟨snd_istore d50_15, List.forall_mem_cons.mpr ⟨snd_iload d50_17, List.forall_mem_cons.mpr ⟨snd_aload_n d50_19 rfl, List.forall_mem_cons.mpr ⟨snd_getI (by decide) (by decide) rfl wd231 d50_20, List.forall_mem_cons.mpr ⟨snd_cmp_gt d50_23 (by decide), List.forall_mem_cons.mpr ⟨snd_iload_n d50_26 rfl, List.forall_mem_cons.mpr ⟨snd_aload_n d50_27 rfl, List.forall_mem_cons.mpr ⟨snd_getR (by decide) (by decide) rfl wd247 d50_28, List.forall_mem_cons.mpr ⟨snd_aload_n d50_31 rfl, List.forall_mem_cons.mpr ⟨snd_getR (by decide) (by decide) rfl wd251 d50_32, List.forall_mem_cons.mpr ⟨snd_iload_n d50_35 rfl, List.forall_mem_cons.mpr ⟨snd_iald d50_36, List.forall_mem_cons.mpr ⟨snd_iload d50_37, List.forall_mem_cons.mpr ⟨snd_iload d50_39, List.forall_mem_cons.mpr ⟨snd_callV (by decide) rfl cn26 ⟨by decide +kernel, by decide +kernel⟩ cm26 (List.forall_mem_cons.mpr ⟨wd942, cw26⟩) d50_41, List.forall_mem_cons.mpr ⟨snd_if_eq d50_44 (by decide), List.forall_mem_cons.mpr ⟨snd_aload_n d50_47 rfl, List.forall_mem_cons.mpr ⟨snd_getR (by decide) (by decide) rfl wd247 d50_48, List.forall_mem_cons.mpr ⟨snd_aload_n d50_51 rfl, List.forall_mem_cons.mpr ⟨snd_getR (by decide) (by decide) rfl wd251 d50_52, List.forall_mem_cons.mpr ⟨snd_iload_n d50_55 rfl, fun _ h => by cases h⟩⟩⟩⟩⟩⟩⟩⟩⟩⟩⟩⟩⟩⟩⟩⟩⟩⟩⟩⟩⟩⟩⟩⟩⟩⟩⟩⟩⟩⟩
theorem sc50_1 : ∀ q ∈ tc50_1, Snd xtb M50 q.1 q.2 := List.forall_mem_cons.mpr ⟨snd_iald d50_56, List.forall_mem_cons.mpr ⟨snd_iload d50_57, List.forall_mem_cons.mpr ⟨snd_iload d50_59, List.forall_mem_cons.mpr ⟨snd_callV (by decide) rfl cn26 ⟨by decide +kernel, by decide +kernel⟩ cm26 (List.forall_mem_cons.mpr ⟨wd942, cw26⟩) d50_61, List.forall_mem_cons.mpr ⟨snd_if_eq d50_64 (by decide), List.forall_mem_cons.mpr ⟨snd_iconst d50_67 (by decide +kernel), List.forall_mem_cons.mpr ⟨snd_goto d50_68 (by decide), List.forall_mem_cons.mpr ⟨snd_iconst d50_71 (by decide +kernel), List.forall_mem_cons.mpr ⟨snd_callSN (host := "SalePlaces") cn165 ⟨by decide +kernel, by decide +kernel⟩ cm165 cw165 (by decide +kernel) d50_72, List.forall_mem_cons.mpr ⟨snd_iadd d50_75, List.forall_mem_cons.mpr ⟨snd_istore_n d50_76 rfl, List.forall_mem_cons.mpr ⟨snd_iinc d50_77 (by decide +kernel), List.forall_mem_cons.mpr ⟨snd_goto d50_80 (by decide), List.forall_mem_cons.mpr ⟨snd_iinc d50_83 (by decide +kernel), List.forall_mem_cons.mpr ⟨snd_goto d50_86 (by decide), List.forall_mem_cons.mpr ⟨snd_iload_n d50_89 rfl, List.forall_mem_cons.mpr ⟨snd_iret rfl d50_90, fun _ h => by cases h⟩⟩⟩⟩⟩⟩⟩⟩⟩⟩⟩⟩⟩⟩⟩⟩⟩
theorem d51_0 : decode (mC M51) 0 = .ok (.iconst 0, 1) := by decide +kernel
theorem d51_1 : decode (mC M51) 1 = .ok (.istore_n 2, 1) := by decide +kernel
theorem d51_2 : decode (mC M51) 2 = .ok (.iconst 0, 1) := by decide +kernel
theorem d51_3 : decode (mC M51) 3 = .ok (.istore_n 3, 1) := by decide +kernel
theorem d51_4 : decode (mC M51) 4 = .ok (.iload_n 3, 1) := by decide +kernel
theorem d51_5 : decode (mC M51) 5 = .ok (.aload_n 0, 1) := by decide +kernel
theorem d51_6 : decode (mC M51) 6 = .ok (.getfield 32, 3) := by decide +kernel
theorem d51_9 : decode (mC M51) 9 = .ok (.if_icmp .gt 55, 3) := by decide +kernel
theorem d51_12 : decode (mC M51) 12 = .ok (.iconst 0, 1) := by decide +kernel
theorem d51_13 : decode (mC M51) 13 = .ok (.istore 4, 2) := by decide +kernel
theorem d51_15 : decode (mC M51) 15 = .ok (.iload 4, 2) := by decide +kernel
theorem d51_17 : decode (mC M51) 17 = .ok (.aload_n 0, 1) := by decide +kernel
theorem d51_18 : decode (mC M51) 18 = .ok (.getfield 32, 3) := by decide +kernel
theorem d51_21 : decode (mC M51) 21 = .ok (.if_icmp .gt 37, 3) := by decide +kernel
theorem d51_24 : decode (mC M51) 24 = .ok (.iload_n 2, 1) := by decide +kernel
theorem d51_25 : decode (mC M51) 25 = .ok (.aload_n 0, 1) := by decide +kernel
theorem d51_26 : decode (mC M51) 26 = .ok (.aload_n 0, 1) := by decide +kernel
theorem d51_27 : decode (mC M51) 27 = .ok (.getfield 9, 3) := by decide +kernel
theorem d51_30 : decode (mC M51) 30 = .ok (.iload_n 1, 1) := by decide +kernel
theorem d51_31 : decode (mC M51) 31 = .ok (.iaload, 1) := by decide +kernel
theorem d51_32 : decode (mC M51) 32 = .ok (.iload 4, 2) := by decide +kernel
theorem d51_34 : decode (mC M51) 34 = .ok (.iload_n 3, 1) := by decide +kernel
theorem d51_35 : decode (mC M51) 35 = .ok (.invokevirtual 56, 3) := by decide +kernel
theorem d51_38 : decode (mC M51) 38 = .ok (.iload_n 1, 1) := by decide +kernel
theorem d51_39 : decode (mC M51) 39 = .ok (.if_icmp .ne 7, 3) := by decide +kernel
theorem d51_42 : decode (mC M51) 42 = .ok (.iconst 1, 1) := by decide +kernel
theorem d51_43 : decode (mC M51) 43 = .ok (.goto 4, 3) := by decide +kernel
theorem d51_46 : decode (mC M51) 46 = .ok (.iconst 0, 1) := by decide +kernel
theorem d51_47 : decode (mC M51) 47 = .ok (.invokestatic 75, 3) := by decide +kernel
theorem d51_50 : decode (mC M51) 50 = .ok (.iadd, 1) := by decide +kernel
theorem d51_51 : decode (mC M51) 51 = .ok (.istore_n 2, 1) := by decide +kernel
theorem d51_52 : decode (mC M51) 52 = .ok (.iinc 4 1, 3) := by decide +kernel
theorem d51_55 : decode (mC M51) 55 = .ok (.goto (-40), 3) := by decide +kernel
theorem d51_58 : decode (mC M51) 58 = .ok (.iinc 3 1, 3) := by decide +kernel
theorem d51_61 : decode (mC M51) 61 = .ok (.goto (-57), 3) := by decide +kernel
theorem d51_64 : decode (mC M51) 64 = .ok (.iload_n 2, 1) := by decide +kernel
theorem d51_65 : decode (mC M51) 65 = .ok (.ireturn, 1) := by decide +kernel
theorem sc51_0 : ∀ q ∈ tc51_0, Snd xtb M51 q.1 q.2 := List.forall_mem_cons.mpr ⟨snd_iconst d51_0 (by decide +kernel), List.forall_mem_cons.mpr ⟨snd_istore_n d51_1 rfl, List.forall_mem_cons.mpr ⟨snd_iconst d51_2 (by decide +kernel), List.forall_mem_cons.mpr ⟨snd_istore_n d51_3 rfl, List.forall_mem_cons.mpr ⟨snd_iload_n d51_4 rfl, List.forall_mem_cons.mpr ⟨snd_aload_n d51_5 rfl, List.forall_mem_cons.mpr ⟨snd_getI (by decide) (by decide) rfl wd231 d51_6, List.forall_mem_cons.mpr ⟨snd_cmp_gt d51_9 (by decide), List.forall_mem_cons.mpr ⟨snd_iconst d51_12 (by decide +kernel), List.forall_mem_cons.mpr ⟨snd_istore d51_13, List.forall_mem_cons.mpr ⟨snd_iload d51_15, List.forall_mem_cons.mpr ⟨snd_aload_n d51_17 rfl, List.forall_mem_cons.mpr ⟨snd_getI (by decide) (by decide) rfl wd231 d51_18, List.forall_mem_cons.mpr ⟨snd_cmp_gt d51_21 (by decide), List.forall_mem_cons.mpr ⟨snd_iload_n d51_24 rfl, List.forall_mem_cons.mpr ⟨snd_aload_n d51_25 rfl, List.forall_mem_cons.mpr ⟨snd_aload_n d51_26 rfl, List.forall_mem_cons.mpr ⟨snd_getR (by decide) (by decide) rfl wd243 d51_27, List.forall_mem_cons.mpr ⟨snd_iload_n d51_30 rfl, List.forall_mem_cons.mpr ⟨snd_iald d51_31, List.forall_mem_cons.mpr ⟨snd_iload d51_32, List.forall_mem_cons.mpr ⟨snd_iload_n d51_34 rfl, List.forall_mem_cons.mpr ⟨snd_callV (by decide) rfl cn46 ⟨by decide +kernel, by decide +kernel⟩ cm46 (List.forall_mem_cons.mpr ⟨wd951, cw46⟩) d51_35, List.forall_mem_cons.mpr ⟨snd_iload_n d51_38 rfl, List.forall_mem_cons.mpr ⟨snd_cmp_ne d51_39 (by decide), List.forall_mem_cons.mpr ⟨snd_iconst d51_42 (by decide +kernel), List.forall_mem_cons.mpr ⟨snd_goto d51_43 (by decide), List.forall_mem_cons.mpr ⟨snd_iconst d51_46 (by decide +kernel), List.forall_mem_cons.mpr ⟨snd_callSN (host := "SalePlaces") cn165 ⟨by decide +kernel, by decide +kernel⟩ cm165 cw165 (by decide +kernel) d51_47, List.forall_mem_cons.mpr ⟨snd_iadd d51_50, fun _ h => by cases h⟩⟩⟩⟩⟩⟩⟩⟩⟩⟩⟩⟩⟩⟩⟩⟩⟩⟩⟩⟩⟩⟩⟩⟩⟩⟩⟩⟩⟩⟩
theorem sc51_1 : ∀ q ∈ tc51_1, Snd xtb M51 q.1 q.2 := List.forall_mem_cons.mpr ⟨snd_istore_n d51_51 rfl, List.forall_mem_cons.mpr ⟨snd_iinc d51_52 (by decide +kernel), List.forall_mem_cons.mpr ⟨snd_goto d51_55 (by decide), List.forall_mem_cons.mpr ⟨snd_iinc d51_58 (by decide +kernel), List.forall_mem_cons.mpr ⟨snd_goto d51_61 (by decide), List.forall_mem_cons.mpr ⟨snd_iload_n d51_64 rfl, List.forall_mem_cons.mpr ⟨snd_iret rfl d51_65, fun _ h => by cases h⟩⟩⟩⟩⟩⟩⟩
theorem d52_0 : decode (mC M52) 0 = .ok (.iconst 0, 1) := by decide +kernel
theorem d52_1 : decode (mC M52) 1 = .ok (.istore_n 2, 1) := by decide +kernel
theorem d52_2 : decode (mC M52) 2 = .ok (.iconst 0, 1) := by decide +kernel
theorem d52_3 : decode (mC M52) 3 = .ok (.istore_n 3, 1) := by decide +kernel
theorem d52_4 : decode (mC M52) 4 = .ok (.iload_n 3, 1) := by decide +kernel
theorem d52_5 : decode (mC M52) 5 = .ok (.aload_n 0, 1) := by decide +kernel
theorem d52_6 : decode (mC M52) 6 = .ok (.getfield 32, 3) := by decide +kernel
theorem d52_9 : decode (mC M52) 9 = .ok (.if_icmp .gt 53, 3) := by decide +kernel
theorem d52_12 : decode (mC M52) 12 = .ok (.iconst 0, 1) := by decide +kernel
theorem d52_13 : decode (mC M52) 13 = .ok (.istore 4, 2) := by decide +kernel
theorem d52_15 : decode (mC M52) 15 = .ok (.iload 4, 2) := by decide +kernel
theorem d52_17 : decode (mC M52) 17 = .ok (.aload_n 0, 1) := by decide +kernel
theorem d52_18 : decode (mC M52) 18 = .ok (.getfield 32, 3) := by decide +kernel
theorem d52_21 : decode (mC M52) 21 = .ok (.if_icmp .gt 35, 3) := by decide +kernel
theorem d52_24 : decode (mC M52) 24 = .ok (.aload_n 0, 1) := by decide +kernel
theorem d52_25 : decode (mC M52) 25 = .ok (.iload 4, 2) := by decide +kernel
theorem d52_27 : decode (mC M52) 27 = .ok (.iload_n 3, 1) := by decide +kernel
theorem d52_28 : decode (mC M52) 28 = .ok (.invokevirtual 64, 3) := by decide +kernel
theorem d52_31 : decode (mC M52) 31 = .ok (.iload_n 2, 1) := by decide +kernel
theorem d52_32 : decode (mC M52) 32 = .ok (.aload_n 0, 1) := by decide +kernel
theorem d52_33 : decode (mC M52) 33 = .ok (.getfield 53, 3) := by decide +kernel
theorem d52_36 : decode (mC M52) 36 = .ok (.iload_n 1, 1) := by decide +kernel
theorem d52_37 : decode (mC M52) 37 = .ok (.if_icmp .ne 7, 3) := by decide +kernel
theorem d52_40 : decode (mC M52) 40 = .ok (.iconst 1, 1) := by decide +kernel
theorem d52_41 : decode (mC M52) 41 = .ok (.goto 4, 3) := by decide +kernel
theorem d52_44 : decode (mC M52) 44 = .ok (.iconst 0, 1) := by decide +kernel
theorem d52_45 : decode (mC M52) 45 = .ok (.invokestatic 75, 3) := by decide +kernel
theorem d52_48 : decode (mC M52) 48 = .ok (.iadd, 1) := by decide +kernel
theorem d52_49 : decode (mC M52) 49 = .ok (.istore_n 2, 1) := by decide +kernel
theorem d52_50 : decode (mC M52) 50 = .ok (.iinc 4 1, 3) := by decide +kernel
theorem d52_53 : decode (mC M52) 53 = .ok (.goto (-38), 3) := by decide +kernel
theorem d52_56 : decode (mC M52) 56 = .ok (.iinc 3 1, 3) := by decide +kernel
theorem d52_59 : decode (mC M52) 59 = .ok (.goto (-55), 3) := by decide +kernel
theorem d52_62 : decode (mC M52) 62 = .ok (.iload_n 2, 1) := by decide +kernel
theorem d52_63 : decode (mC M52) 63 = .ok (.ireturn, 1) := by decide +kernel
theorem sc52_0 : ∀ q ∈ tc52_0, Snd xtb M52 q.1 q.2 := List.forall_mem_cons.mpr ⟨snd_iconst d52_0 (by decide +kernel), List.forall_mem_cons.mpr ⟨snd_istore_n d52_1 rfl, List.forall_mem_cons.mpr ⟨snd_iconst d52_2 (by decide +kernel), List.forall_mem_cons.mpr ⟨snd_istore_n d52_3 rfl, List.forall_mem_cons.mpr ⟨snd_iload_n d52_4 rfl, List.forall_mem_cons.mpr ⟨snd_aload_n d52_5 rfl, List.forall_mem_cons.mpr ⟨snd_getI (by decide) (by decide) rfl wd231 d52_6, List.forall_mem_cons.mpr ⟨snd_cmp_gt d52_9 (by decide), List.forall_mem_cons.mpr ⟨snd_iconst d52_12 (by decide +kernel), List.forall_mem_cons.mpr ⟨snd_istore d52_13, List.forall_mem_cons.mpr ⟨snd_iload d52_15, List.forall_mem_cons.mpr ⟨snd_aload_n d52_17 rfl, List.forall_mem_cons.mpr ⟨snd_getI (by decide) (by decide) rfl wd231 d52_18, List.forall_mem_cons.mpr ⟨snd_cmp_gt d52_21 (by decide), List.forall_mem_cons.mpr ⟨snd_aload_n d52_24 rfl, List.forall_mem_cons.mpr ⟨snd_iload d52_25, List.forall_mem_cons.mpr ⟨snd_iload_n d52_27 rfl, List.forall_mem_cons.mpr ⟨snd_callV (by decide) rfl cn47 ⟨by decide +kernel, by decide +kernel⟩ cm47 (List.forall_mem_cons.mpr ⟨wd969, cw47⟩) d52_28, List.forall_mem_cons.mpr ⟨snd_iload_n d52_31 rfl, List.forall_mem_cons.mpr ⟨snd_aload_n d52_32 rfl, List.forall_mem_cons.mpr ⟨snd_getI (by decide) (by decide) rfl wd255 d52_33, List.forall_mem_cons.mpr ⟨snd_iload_n d52_36 rfl, List.forall_mem_cons.mpr ⟨snd_cmp_ne d52_37 (by decide), List.forall_mem_cons.mpr ⟨snd_iconst d52_40 (by decide +kernel), List.forall_mem_cons.mpr ⟨snd_goto d52_41 (by decide), List.forall_mem_cons.mpr ⟨snd_iconst d52_44 (by decide +kernel), List.forall_mem_cons.mpr ⟨snd_callSN (host := "SalePlaces") cn165 ⟨by decide +kernel, by decide +kernel⟩ cm165 cw165 (by decide +kernel) d52_45, List.forall_mem_cons.mpr ⟨snd_iadd d52_48, List.forall_mem_cons.mpr ⟨snd_istore_n d52_49 rfl, List.forall_mem_cons.mpr ⟨snd_iinc d52_50 (by decide +kernel), fun _ h => by cases h⟩⟩⟩⟩⟩⟩⟩⟩⟩⟩⟩⟩⟩⟩⟩⟩⟩⟩⟩⟩⟩⟩⟩⟩⟩⟩⟩⟩⟩⟩
theorem sc52_1 : ∀ q ∈ tc52_1, Snd xtb M52 q.1 q.2 := List.forall_mem_cons.mpr ⟨snd_goto d52_53 (by decide), List.forall_mem_cons.mpr ⟨snd_iinc d52_56 (by decide +kernel), List.forall_mem_cons.mpr ⟨snd_goto d52_59 (by decide), List.forall_mem_cons.mpr ⟨snd_iload_n d52_62 rfl, List.forall_mem_cons.mpr ⟨snd_iret rfl d52_63, fun _ h => by cases h⟩⟩⟩⟩⟩
theorem d53_0 : decode (mC M53) 0 = .ok (.aload_n 0, 1) := by decide +kernel
theorem d53_1 : decode (mC M53) 1 = .ok (.invokespecial 3, 3) := by decide +kernel
theorem d53_4 : decode (mC M53) 4 = .ok (.aload_n 0, 1) := by decide +kernel
theorem d53_5 : decode (mC M53) 5 = .ok (.iconst (-1), 1) := by decide +kernel
theorem d53_6 : decode (mC M53) 6 = .ok (.putfield 9, 3) := by decide +kernel
theorem d53_9 : decode (mC M53) 9 = .ok (.aload_n 0, 1) := by decide +kernel
theorem d53_10 : decode (mC M53) 10 = .ok (.iconst 4, 1) := by decide +kernel
theorem d53_11 : decode (mC M53) 11 = .ok (.newarray .int, 2) := by decide +kernel
theorem d53_13 : decode (mC M53) 13 = .ok (.putfield 15, 3) := by decide +kernel
theorem d53_16 : decode (mC M53) 16 = .ok (.aload_n 0, 1) := by decide +kernel
theorem d53_17 : decode (mC M53) 17 = .ok (.iconst 4, 1) := by decide +kernel
theorem d53_18 : decode (mC M53) 18 = .ok (.newarray .int, 2) := by decide +kernel
theorem d53_20 : decode (mC M53) 20 = .ok (.putfield 19, 3) := by decide +kernel
theorem d53_23 : decode (mC M53) 23 = .ok (.aload_n 0, 1) := by decide +kernel
theorem d53_24 : decode (mC M53) 24 = .ok (.iconst 4, 1) := by decide +kernel
theorem d53_25 : decode (mC M53) 25 = .ok (.newarray .int, 2) := by decide +kernel
theorem d53_27 : decode (mC M53) 27 = .ok (.putfield 22, 3) := by decide +kernel
theorem d53_30 : decode (mC M53) 30 = .ok (.aload_n 0, 1) := by decide +kernel
theorem d53_31 : decode (mC M53) 31 = .ok (.iconst 4, 1) := by decide +kernel
theorem d53_32 : decode (mC M53) 32 = .ok (.newarray .boolean, 2) := by decide +kernel
theorem d53_34 : decode (mC M53) 34 = .ok (.putfield 25, 3) := by decide +kernel
theorem d53_37 : decode (mC M53) 37 = .ok (.return_, 1) := by decide +kernel
theorem sc53_0 : ∀ q ∈ tc53_0, Snd xtb M53 q.1 q.2 := List.forall_mem_cons.mpr ⟨snd_aload_n d53_0 rfl, List.forall_mem_cons.mpr ⟨snd_obj (by decide) (by decide) (List.forall_mem_cons.mpr ⟨wd416, List.forall_mem_cons.mpr ⟨wd139, List.forall_mem_cons.mpr ⟨wd140, fun _ h => by cases h⟩⟩⟩) d53_1, List.forall_mem_cons.mpr ⟨snd_aload_n d53_4 rfl, List.forall_mem_cons.mpr ⟨snd_iconst d53_5 (by decide +kernel), List.forall_mem_cons.mpr ⟨snd_putI (by decide) (by decide) rfl rfl wd438 d53_6, List.forall_mem_cons.mpr ⟨snd_aload_n d53_9 rfl, List.forall_mem_cons.mpr ⟨snd_iconst d53_10 (by decide +kernel), List.forall_mem_cons.mpr ⟨snd_newa (ty := .int) (k := 1) rfl (by decide +kernel) wd229 d53_11, List.forall_mem_cons.mpr ⟨snd_putRF (by decide) (by decide) rfl rfl rfl rfl wd444 d53_13, List.forall_mem_cons.mpr ⟨snd_aload_n d53_16 rfl, List.forall_mem_cons.mpr ⟨snd_iconst d53_17 (by decide +kernel), List.forall_mem_cons.mpr ⟨snd_newa (ty := .int) (k := 1) rfl (by decide +kernel) wd229 d53_18, List.forall_mem_cons.mpr ⟨snd_putRF (by decide) (by decide) rfl rfl rfl rfl wd446 d53_20, List.forall_mem_cons.mpr ⟨snd_aload_n d53_23 rfl, List.forall_mem_cons.mpr ⟨snd_iconst d53_24 (by decide +kernel), List.forall_mem_cons.mpr ⟨snd_newa (ty := .int) (k := 1) rfl (by decide +kernel) wd229 d53_25, List.forall_mem_cons.mpr ⟨snd_putRF (by decide) (by decide) rfl rfl rfl rfl wd447 d53_27, List.forall_mem_cons.mpr ⟨snd_aload_n d53_30 rfl, List.forall_mem_cons.mpr ⟨snd_iconst d53_31 (by decide +kernel), List.forall_mem_cons.mpr ⟨snd_newa (ty := .boolean) (k := 3) rfl (by decide +kernel) wd230 d53_32, List.forall_mem_cons.mpr ⟨snd_putRF (by decide) (by decide) rfl rfl rfl rfl wd448 d53_34, List.forall_mem_cons.mpr ⟨snd_vret rfl d53_37, fun _ h => by cases h⟩⟩⟩⟩⟩⟩⟩⟩⟩⟩⟩⟩⟩⟩⟩⟩⟩⟩⟩⟩⟩⟩
theorem d54_0 : decode (mC M54) 0 = .ok (.aload_n 0, 1) := by decide +kernel
theorem d54_1 : decode (mC M54) 1 = .ok (.iload_n 1, 1) := by decide +kernel
theorem d54_2 : decode (mC M54) 2 = .ok (.putfield 29, 3) := by decide +kernel
theorem d54_5 : decode (mC M54) 5 = .ok (.aload_n 0, 1) := by decide +kernel
theorem d54_6 : decode (mC M54) 6 = .ok (.iload_n 2, 1) := by decide +kernel
theorem d54_7 : decode (mC M54) 7 = .ok (.putfield 32, 3) := by decide +kernel
theorem d54_10 : decode (mC M54) 10 = .ok (.aload_n 0, 1) := by decide +kernel
theorem d54_11 : decode (mC M54) 11 = .ok (.iload_n 3, 1) := by decide +kernel
theorem d54_12 : decode (mC M54) 12 = .ok (.putfield 35, 3) := by decide +kernel
theorem d54_15 : decode (mC M54) 15 = .ok (.aload_n 0, 1) := by decide +kernel
theorem d54_16 : decode (mC M54) 16 = .ok (.iload 4, 2) := by decide +kernel
theorem d54_18 : decode (mC M54) 18 = .ok (.putfield 38, 3) := by decide +kernel
theorem d54_21 : decode (mC M54) 21 = .ok (.aload_n 0, 1) := by decide +kernel
theorem d54_22 : decode (mC M54) 22 = .ok (.iload 5, 2) := by decide +kernel
theorem d54_24 : decode (mC M54) 24 = .ok (.putfield 41, 3) := by decide +kernel
theorem d54_27 : decode (mC M54) 27 = .ok (.aload_n 0, 1) := by decide +kernel
theorem d54_28 : decode (mC M54) 28 = .ok (.iload 5, 2) := by decide +kernel
theorem d54_30 : decode (mC M54) 30 = .ok (.putfield 44, 3) := by decide +kernel
theorem d54_33 : decode (mC M54) 33 = .ok (.aload_n 0, 1) := by decide +kernel
theorem d54_34 : decode (mC M54) 34 = .ok (.iload 6, 2) := by decide +kernel
theorem d54_36 : decode (mC M54) 36 = .ok (.putfield 47, 3) := by decide +kernel
theorem d54_39 : decode (mC M54) 39 = .ok (.aload_n 0, 1) := by decide +kernel
theorem d54_40 : decode (mC M54) 40 = .ok (.iconst (-1), 1) := by decide +kernel
theorem d54_41 : decode (mC M54) 41 = .ok (.putfield 9, 3) := by decide +kernel
theorem d54_44 : decode (mC M54) 44 = .ok (.aload_n 0, 1) := by decide +kernel
theorem d54_45 : decode (mC M54) 45 = .ok (.iconst 0, 1) := by decide +kernel
theorem d54_46 : decode (mC M54) 46 = .ok (.putfield 50, 3) := by decide +kernel
theorem d54_49 : decode (mC M54) 49 = .ok (.return_, 1) := by decide +kernel
theorem sc54_0 : ∀ q ∈ tc54_0, Snd xtb M54 q.1 q.2 := List.forall_mem_cons.mpr ⟨snd_aload_n d54_0 rfl, List.forall_mem_cons.mpr ⟨snd_iload_n d54_1 rfl, List.forall_mem_cons.mpr ⟨snd_putI (by decide) (by decide) rfl rfl wd417 d54_2, List.forall_mem_cons.mpr ⟨snd_aload_n d54_5 rfl, List.forall_mem_cons.mpr ⟨snd_iload_n d54_6 rfl, List.forall_mem_cons.mpr ⟨snd_putI (by decide) (by decide) rfl rfl wd421 d54_7, List.forall_mem_cons.mpr ⟨snd_aload_n d54_10 rfl, List.forall_mem_cons.mpr ⟨snd_iload_n d54_11 rfl, List.forall_mem_cons.mpr ⟨snd_putI (by decide) (by decide) rfl rfl wd424 d54_12, List.forall_mem_cons.mpr ⟨snd_aload_n d54_15 rfl, List.forall_mem_cons.mpr ⟨snd_iload d54_16, List.forall_mem_cons.mpr ⟨snd_putI (by decide) (by decide) rfl rfl wd427 d54_18, List.forall_mem_cons.mpr ⟨snd_aload_n d54_21 rfl, List.forall_mem_cons.mpr ⟨snd_iload d54_22, List.forall_mem_cons.mpr ⟨snd_putI (by decide) (by decide) rfl rfl wd431 d54_24, List.forall_mem_cons.mpr ⟨snd_aload_n d54_27 rfl, List.forall_mem_cons.mpr ⟨snd_iload d54_28, List.forall_mem_cons.mpr ⟨snd_putI (by decide) (by decide) rfl rfl wd435 d54_30, List.forall_mem_cons.mpr ⟨snd_aload_n d54_33 rfl, List.forall_mem_cons.mpr ⟨snd_iload d54_34, List.forall_mem_cons.mpr ⟨snd_putI (by decide) (by decide) rfl rfl wd432 d54_36, List.forall_mem_cons.mpr ⟨snd_aload_n d54_39 rfl, List.forall_mem_cons.mpr ⟨snd_iconst d54_40 (by decide +kernel), List.forall_mem_cons.mpr ⟨snd_putI (by decide) (by decide) rfl rfl wd438 d54_41, List.forall_mem_cons.mpr ⟨snd_aload_n d54_44 rfl, List.forall_mem_cons.mpr ⟨snd_iconst d54_45 (by decide +kernel), List.forall_mem_cons.mpr ⟨snd_putI (by decide) (by decide) rfl rfl wd440 d54_46, List.forall_mem_cons.mpr ⟨snd_vret rfl d54_49, fun _ h => by cases h⟩⟩⟩⟩⟩⟩⟩⟩⟩⟩⟩⟩⟩⟩⟩⟩⟩⟩⟩⟩⟩⟩⟩⟩⟩⟩⟩⟩
theorem d55_0 : decode (mC M55) 0 = .ok (.aload_n 0, 1) := by decide +kernel
theorem d55_1 : decode (mC M55) 1 = .ok (.getfield 15, 3) := by decide +kernel
theorem d55_4 : decode (mC M55) 4 = .ok (.aload_n 0, 1) := by decide +kernel
theorem d55_5 : decode (mC M55) 5 = .ok (.getfield 50, 3) := by decide +kernel
theorem d55_8 : decode (mC M55) 8 = .ok (.iload_n 1, 1) := by decide +kernel
theorem d55_9 : decode (mC M55) 9 = .ok (.iastore, 1) := by decide +kernel
theorem d55_10 : decode (mC M55) 10 = .ok (.aload_n 0, 1) := by decide +kernel
theorem d55_11 : decode (mC M55) 11 = .ok (.getfield 19, 3) := by decide +kernel
theorem d55_14 : decode (mC M55) 14 = .ok (.aload_n 0, 1) := by decide +kernel
theorem d55_15 : decode (mC M55) 15 = .ok (.getfield 50, 3) := by decide +kernel
theorem d55_18 : decode (mC M55) 18 = .ok (.iload_n 2, 1) := by decide +kernel
theorem d55_19 : decode (mC M55) 19 = .ok (.iastore, 1) := by decide +kernel
theorem d55_20 : decode (mC M55) 20 = .ok (.aload_n 0, 1) := by decide +kernel
theorem d55_21 : decode (mC M55) 21 = .ok (.getfield 22, 3) := by decide +kernel
theorem d55_24 : decode (mC M55) 24 = .ok (.aload_n 0, 1) := by decide +kernel
theorem d55_25 : decode (mC M55) 25 = .ok (.getfield 50, 3) := by decide +kernel
theorem d55_28 : decode (mC M55) 28 = .ok (.iload_n 3, 1) := by decide +kernel
theorem d55_29 : decode (mC M55) 29 = .ok (.iastore, 1) := by decide +kernel
theorem d55_30 : decode (mC M55) 30 = .ok (.aload_n 0, 1) := by decide +kernel
theorem d55_31 : decode (mC M55) 31 = .ok (.getfield 25, 3) := by decide +kernel
theorem d55_34 : decode (mC M55) 34 = .ok (.aload_n 0, 1) := by decide +kernel
theorem d55_35 : decode (mC M55) 35 = .ok (.getfield 50, 3) := by decide +kernel
theorem d55_38 : decode (mC M55) 38 = .ok (.iload 4, 2) := by decide +kernel
theorem d55_40 : decode (mC M55) 40 = .ok (.bastore, 1) := by decide +kernel
theorem d55_41 : decode (mC M55) 41 = .ok (.aload_n 0, 1) := by decide +kernel
theorem d55_42 : decode (mC M55) 42 = .ok (.dup, 1) := by decide +kernel
theorem d55_43 : decode (mC M55) 43 = .ok (.getfield 50, 3) := by decide +kernel
theorem d55_46 : decode (mC M55) 46 = .ok (.iconst 1, 1) := by decide +kernel
theorem d55_47 : decode (mC M55) 47 = .ok (.iadd, 1) := by decide +kernel
theorem d55_48 : decode (mC M55) 48 = .ok (.putfield 50, 3) := by decide +kernel
theorem d55_51 : decode (mC M55) 51 = .ok (.return_, 1) := by decide +kernel
theorem sc55_0 : ∀ q ∈ tc55_0, Snd xtb M55 q.1 q.2 := List.forall_mem_cons.mpr ⟨snd_aload_n d55_0 rfl, List.forall_mem_cons.mpr ⟨snd_getR (by decide) (by decide) rfl wd444 d55_1, List.forall_mem_cons.mpr ⟨snd_aload_n d55_4 rfl, List.forall_mem_cons.mpr ⟨snd_getI (by decide) (by decide) rfl wd440 d55_5, List.forall_mem_cons.mpr ⟨snd_iload_n d55_8 rfl, List.forall_mem_cons.mpr ⟨snd_iast d55_9, List.forall_mem_cons.mpr ⟨snd_aload_n d55_10 rfl, List.forall_mem_cons.mpr ⟨snd_getR (by decide) (by decide) rfl wd446 d55_11, List.forall_mem_cons.mpr ⟨snd_aload_n d55_14 rfl, List.forall_mem_cons.mpr ⟨snd_getI (by decide) (by decide) rfl wd440 d55_15, List.forall_mem_cons.mpr ⟨snd_iload_n d55_18 rfl, List.forall_mem_cons.mpr ⟨snd_iast d55_19, List.forall_mem_cons.mpr ⟨snd_aload_n d55_20 rfl, List.forall_mem_cons.mpr ⟨snd_getR (by decide) (by decide) rfl wd447 d55_21, List.forall_mem_cons.mpr ⟨snd_aload_n d55_24 rfl, List.forall_mem_cons.mpr ⟨snd_getI (by decide) (by decide) rfl wd440 d55_25, List.forall_mem_cons.mpr ⟨snd_iload_n d55_28 rfl, List.forall_mem_cons.mpr ⟨snd_iast d55_29, List.forall_mem_cons.mpr ⟨snd_aload_n d55_30 rfl, List.forall_mem_cons.mpr ⟨snd_getR (by decide) (by decide) rfl wd448 d55_31, List.forall_mem_cons.mpr ⟨snd_aload_n d55_34 rfl, List.forall_mem_cons.mpr ⟨snd_getI (by decide) (by decide) rfl wd440 d55_35, List.forall_mem_cons.mpr ⟨snd_iload d55_38, List.forall_mem_cons.mpr ⟨snd_zast d55_40, List.forall_mem_cons.mpr ⟨snd_aload_n d55_41 rfl, List.forall_mem_cons.mpr ⟨snd_dup d55_42, List.forall_mem_cons.mpr ⟨snd_getI (by decide) (by decide) rfl wd440 d55_43, List.forall_mem_cons.mpr ⟨snd_iconst d55_46 (by decide +kernel), List.forall_mem_cons.mpr ⟨snd_iadd d55_47, List.forall_mem_cons.mpr ⟨snd_putI (by decide) (by decide) rfl rfl wd440 d55_48, fun _ h => by cases h⟩⟩⟩⟩⟩⟩⟩⟩⟩⟩⟩⟩⟩⟩⟩⟩⟩⟩⟩⟩⟩⟩⟩⟩⟩⟩⟩⟩⟩⟩
theorem sc55_1 : ∀ q ∈ tc55_1, Snd xtb M55 q.1 q.2 := List.forall_mem_cons.mpr ⟨snd_vret rfl d55_51, fun _ h => by cases h⟩
theorem d56_0 : decode (mC M56) 0 = .ok (.aload_n 0, 1) := by decide +kernel
theorem d56_1 : decode (mC M56) 1 = .ok (.getfield 25, 3) := by decide +kernel
theorem d56_4 : decode (mC M56) 4 = .ok (.iload_n 1, 1) := by decide +kernel
theorem d56_5 : decode (mC M56) 5 = .ok (.baload, 1) := by decide +kernel
theorem d56_6 : decode (mC M56) 6 = .ok (.ifCond .eq 5, 3) := by decide +kernel
theorem d56_9 : decode (mC M56) 9 = .ok (.iconst 0, 1) := by decide +kernel
theorem d56_10 : decode (mC M56) 10 = .ok (.ireturn, 1) := by decide +kernel
theorem d56_11 : decode (mC M56) 11 = .ok (.aload_n 0, 1) := by decide +kernel
theorem d56_12 : decode (mC M56) 12 = .ok (.getfield 44, 3) := by decide +kernel
theorem d56_15 : decode (mC M56) 15 = .ok (.aload_n 0, 1) := by decide +kernel
theorem d56_16 : decode (mC M56) 16 = .ok (.getfield 22, 3) := by decide +kernel
theorem d56_19 : decode (mC M56) 19 = .ok (.iload_n 1, 1) := by decide +kernel
theorem d56_20 : decode (mC M56) 20 = .ok (.iaload, 1) := by decide +kernel
theorem d56_21 : decode (mC M56) 21 = .ok (.ifCond .ge 10, 3) := by decide +kernel
theorem d56_24 : decode (mC M56) 24 = .ok (.aload_n 0, 1) := by decide +kernel
theorem d56_25 : decode (mC M56) 25 = .ok (.getfield 47, 3) := by decide +kernel
theorem d56_28 : decode (mC M56) 28 = .ok (.goto 16, 3) := by decide +kernel
theorem d56_31 : decode (mC M56) 31 = .ok (.aload_n 0, 1) := by decide +kernel
theorem d56_32 : decode (mC M56) 32 = .ok (.getfield 47, 3) := by decide +kernel
theorem d56_35 : decode (mC M56) 35 = .ok (.aload_n 0, 1) := by decide +kernel
theorem d56_36 : decode (mC M56) 36 = .ok (.getfield 22, 3) := by decide +kernel
theorem d56_39 : decode (mC M56) 39 = .ok (.iload_n 1, 1) := by decide +kernel
theorem d56_40 : decode (mC M56) 40 = .ok (.iaload, 1) := by decide +kernel
theorem d56_41 : decode (mC M56) 41 = .ok (.invokestatic 53, 3) := by decide +kernel
theorem d56_44 : decode (mC M56) 44 = .ok (.imul, 1) := by decide +kernel
theorem d56_45 : decode (mC M56) 45 = .ok (.ireturn, 1) := by decide +kernel
theorem sc56_0 : ∀ q ∈ tc56_0, Snd xtb M56 q.1 q.2 := List.forall_mem_cons.mpr ⟨snd_aload_n d56_0 rfl, List.forall_mem_cons.mpr ⟨snd_getR (by decide) (by decide) rfl wd448 d56_1, List.forall_mem_cons.mpr ⟨snd_iload_n d56_4 rfl, List.forall_mem_cons.mpr ⟨snd_zald d56_5, List.forall_mem_cons.mpr ⟨snd_if_eq d56_6 (by decide), List.forall_mem_cons.mpr ⟨snd_iconst d56_9 (by decide +kernel), List.forall_mem_cons.mpr ⟨snd_iret rfl d56_10, List.forall_mem_cons.mpr ⟨snd_aload_n d56_11 rfl, List.forall_mem_cons.mpr ⟨snd_getI (by decide) (by decide) rfl wd435 d56_12, List.forall_mem_cons.mpr ⟨snd_aload_n d56_15 rfl, List.forall_mem_cons.mpr ⟨snd_getR (by decide) (by decide) rfl wd447 d56_16, List.forall_mem_cons.mpr ⟨snd_iload_n d56_19 rfl, List.forall_mem_cons.mpr ⟨snd_iald d56_20, List.forall_mem_cons.mpr ⟨snd_if_ge d56_21 (by decide), List.forall_mem_cons.mpr ⟨snd_aload_n d56_24 rfl, List.forall_mem_cons.mpr ⟨snd_getI (by decide) (by decide) rfl wd432 d56_25, List.forall_mem_cons.mpr ⟨snd_goto d56_28 (by decide), List.forall_mem_cons.mpr ⟨snd_aload_n d56_31 rfl, List.forall_mem_cons.mpr ⟨snd_getI (by decide) (by decide) rfl wd432 d56_32, List.forall_mem_cons.mpr ⟨snd_aload_n d56_35 rfl, List.forall_mem_cons.mpr ⟨snd_getR (by decide) (by decide) rfl wd447 d56_36, List.forall_mem_cons.mpr ⟨snd_iload_n d56_39 rfl, List.forall_mem_cons.mpr ⟨snd_iald d56_40, List.forall_mem_cons.mpr ⟨snd_min (by decide) (by decide) (List.forall_mem_cons.mpr ⟨wd1093, List.forall_mem_cons.mpr ⟨wd915, List.forall_mem_cons.mpr ⟨wd128, List.forall_mem_cons.mpr ⟨wd916, fun _ h => by cases h⟩⟩⟩⟩) d56_41, List.forall_mem_cons.mpr ⟨snd_imul d56_44, List.forall_mem_cons.mpr ⟨snd_iret rfl d56_45, fun _ h => by cases h⟩⟩⟩⟩⟩⟩⟩⟩⟩⟩⟩⟩⟩⟩⟩⟩⟩⟩⟩⟩⟩⟩⟩⟩⟩⟩
theorem d57_0 : decode (mC M57) 0 = .ok (.aload_n 0, 1) := by decide +kernel
theorem d57_1 : decode (mC M57) 1 = .ok (.iload_n 1, 1) := by decide +kernel
theorem d57_2 : decode (mC M57) 2 = .ok (.invokevirtual 59, 3) := by decide +kernel
theorem d57_5 : decode (mC M57) 5 = .ok (.i2l, 1) := by decide +kernel
theorem d57_6 : decode (mC M57) 6 = .ok (.aload_n 0, 1) := by decide +kernel
theorem d57_7 : decode (mC M57) 7 = .ok (.getfield 19, 3) := by decide +kernel
theorem d57_10 : decode (mC M57) 10 = .ok (.iload_n 1, 1) := by decide +kernel
theorem d57_11 : decode (mC M57) 11 = .ok (.iaload, 1) := by decide +kernel
theorem d57_12 : decode (mC M57) 12 = .ok (.i2l, 1) := by decide +kernel
theorem d57_13 : decode (mC M57) 13 = .ok (.lmul, 1) := by decide +kernel
theorem d57_14 : decode (mC M57) 14 = .ok (.ldc2_w 63, 3) := by decide +kernel
theorem d57_17 : decode (mC M57) 17 = .ok (.ladd, 1) := by decide +kernel
theorem d57_18 : decode (mC M57) 18 = .ok (.ldc2_w 65, 3) := by decide +kernel
theorem d57_21 : decode (mC M57) 21 = .ok (.ldiv, 1) := by decide +kernel
theorem d57_22 : decode (mC M57) 22 = .ok (.l2i, 1) := by decide +kernel
theorem d57_23 : decode (mC M57) 23 = .ok (.ireturn, 1) := by decide +kernel
theorem sc57_0 : ∀ q ∈ tc57_0, Snd xtb M57 q.1 q.2 := List.forall_mem_cons.mpr ⟨snd_aload_n d57_0 rfl, List.forall_mem_cons.mpr ⟨snd_iload_n d57_1 rfl, List.forall_mem_cons.mpr ⟨snd_callV (by decide) rfl cn56 ⟨by decide +kernel, by decide +kernel⟩ cm56 (List.forall_mem_cons.mpr ⟨wd1089, cw56⟩) d57_2, List.forall_mem_cons.mpr ⟨snd_i2l d57_5, List.forall_mem_cons.mpr ⟨snd_aload_n d57_6 rfl, List.forall_mem_cons.mpr ⟨snd_getR (by decide) (by decide) rfl wd446 d57_7, List.forall_mem_cons.mpr ⟨snd_iload_n d57_10 rfl, List.forall_mem_cons.mpr ⟨snd_iald d57_11, List.forall_mem_cons.mpr ⟨snd_i2l d57_12, List.forall_mem_cons.mpr ⟨snd_lmul d57_13, List.forall_mem_cons.mpr ⟨snd_ldc2 d57_14 wd1094, List.forall_mem_cons.mpr ⟨snd_ladd d57_17, List.forall_mem_cons.mpr ⟨snd_ldc2 d57_18 wd1095, List.forall_mem_cons.mpr ⟨snd_ldiv d57_21, List.forall_mem_cons.mpr ⟨snd_l2i d57_22, List.forall_mem_cons.mpr ⟨snd_iret rfl d57_23, fun _ h => by cases h⟩⟩⟩⟩⟩⟩⟩⟩⟩⟩⟩⟩⟩⟩⟩⟩
theorem d58_0 : decode (mC M58) 0 = .ok (.iconst 0, 1) := by decide +kernel
theorem d58_1 : decode (mC M58) 1 = .ok (.istore_n 2, 1) := by decide +kernel
theorem d58_2 : decode (mC M58) 2 = .ok (.iconst 0, 1) := by decide +kernel
theorem d58_3 : decode (mC M58) 3 = .ok (.istore_n 3, 1) := by decide +kernel
theorem d58_4 : decode (mC M58) 4 = .ok (.iload_n 3, 1) := by decide +kernel
theorem d58_5 : decode (mC M58) 5 = .ok (.aload_n 0, 1) := by decide +kernel
theorem d58_6 : decode (mC M58) 6 = .ok (.getfield 50, 3) := by decide +kernel
theorem d58_9 : decode (mC M58) 9 = .ok (.if_icmp .ge 32, 3) := by decide +kernel
theorem d58_12 : decode (mC M58) 12 = .ok (.iload_n 1, 1) := by decide +kernel
theorem d58_13 : decode (mC M58) 13 = .ok (.iconst (-1), 1) := by decide +kernel
theorem d58_14 : decode (mC M58) 14 = .ok (.if_icmp .eq 13, 3) := by decide +kernel
theorem d58_17 : decode (mC M58) 17 = .ok (.aload_n 0, 1) := by decide +kernel
theorem d58_18 : decode (mC M58) 18 = .ok (.getfield 15, 3) := by decide +kernel
theorem d58_21 : decode (mC M58) 21 = .ok (.iload_n 3, 1) := by decide +kernel
theorem d58_22 : decode (mC M58) 22 = .ok (.iaload, 1) := by decide +kernel
theorem d58_23 : decode (mC M58) 23 = .ok (.iload_n 1, 1) := by decide +kernel
theorem d58_24 : decode (mC M58) 24 = .ok (.if_icmp .ne 11, 3) := by decide +kernel
theorem d58_27 : decode (mC M58) 27 = .ok (.iload_n 2, 1) := by decide +kernel
theorem d58_28 : decode (mC M58) 28 = .ok (.aload_n 0, 1) := by decide +kernel
theorem d58_29 : decode (mC M58) 29 = .ok (.iload_n 3, 1) := by decide +kernel
theorem d58_30 : decode (mC M58) 30 = .ok (.invokevirtual 67, 3) := by decide +kernel
theorem d58_33 : decode (mC M58) 33 = .ok (.iadd, 1) := by decide +kernel
theorem d58_34 : decode (mC M58) 34 = .ok (.istore_n 2, 1) := by decide +kernel
theorem d58_35 : decode (mC M58) 35 = .ok (.iinc 3 1, 3) := by decide +kernel
theorem d58_38 : decode (mC M58) 38 = .ok (.goto (-34), 3) := by decide +kernel
theorem d58_41 : decode (mC M58) 41 = .ok (.iload_n 2, 1) := by decide +kernel
theorem d58_42 : decode (mC M58) 42 = .ok (.ireturn, 1) := by decide +kernel
theorem sc58_0 : ∀ q ∈ tc58_0, Snd xtb M58 q.1 q.2 := List.forall_mem_cons.mpr ⟨snd_iconst d58_0 (by decide +kernel), List.forall_mem_cons.mpr ⟨snd_istore_n d58_1 rfl, List.forall_mem_cons.mpr ⟨snd_iconst d58_2 (by decide +kernel), List.forall_mem_cons.mpr ⟨snd_istore_n d58_3 rfl, List.forall_mem_cons.mpr ⟨snd_iload_n d58_4 rfl, List.forall_mem_cons.mpr ⟨snd_aload_n d58_5 rfl, List.forall_mem_cons.mpr ⟨snd_getI (by decide) (by decide) rfl wd440 d58_6, List.forall_mem_cons.mpr ⟨snd_cmp_ge d58_9 (by decide), List.forall_mem_cons.mpr ⟨snd_iload_n d58_12 rfl, List.forall_mem_cons.mpr ⟨snd_iconst d58_13 (by decide +kernel), List.forall_mem_cons.mpr ⟨snd_cmp_eq d58_14 (by decide), List.forall_mem_cons.mpr ⟨snd_aload_n d58_17 rfl, List.forall_mem_cons.mpr ⟨snd_getR (by decide) (by decide) rfl wd444 d58_18, List.forall_mem_cons.mpr ⟨snd_iload_n d58_21 rfl, List.forall_mem_cons.mpr ⟨snd_iald d58_22, List.forall_mem_cons.mpr ⟨snd_iload_n d58_23 rfl, List.forall_mem_cons.mpr ⟨snd_cmp_ne d58_24 (by decide), List.forall_mem_cons.mpr ⟨snd_iload_n d58_27 rfl, List.forall_mem_cons.mpr ⟨snd_aload_n d58_28 rfl, List.forall_mem_cons.mpr ⟨snd_iload_n d58_29 rfl, List.forall_mem_cons.mpr ⟨snd_callV (by decide) rfl cn57 ⟨by decide +kernel, by decide +kernel⟩ cm57 (List.forall_mem_cons.mpr ⟨wd1085, cw57⟩) d58_30, List.forall_mem_cons.mpr ⟨snd_iadd d58_33, List.forall_mem_cons.mpr ⟨snd_istore_n d58_34 rfl, List.forall_mem_cons.mpr ⟨snd_iinc d58_35 (by decide +kernel), List.forall_mem_cons.mpr ⟨snd_goto d58_38 (by decide), List.forall_mem_cons.mpr ⟨snd_iload_n d58_41 rfl, List.forall_mem_cons.mpr ⟨snd_iret rfl d58_42, fun _ h => by cases h⟩⟩⟩⟩⟩⟩⟩⟩⟩⟩⟩⟩⟩⟩⟩⟩⟩⟩⟩⟩⟩⟩⟩⟩⟩⟩⟩
theorem d59_0 : decode (mC M59) 0 = .ok (.iconst 0, 1) := by decide +kernel
theorem d59_1 : decode (mC M59) 1 = .ok (.istore_n 2, 1) := by decide +kernel
theorem d59_2 : decode (mC M59) 2 = .ok (.iload_n 2, 1) := by decide +kernel
theorem d59_3 : decode (mC M59) 3 = .ok (.aload_n 0, 1) := by decide +kernel
theorem d59_4 : decode (mC M59) 4 = .ok (.getfield 50, 3) := by decide +kernel
theorem d59_7 : decode (mC M59) 7 = .ok (.if_icmp .ge 21, 3) := by decide +kernel
theorem d59_10 : decode (mC M59) 10 = .ok (.aload_n 0, 1) := by decide +kernel
theorem d59_11 : decode (mC M59) 11 = .ok (.getfield 15, 3) := by decide +kernel
theorem d59_14 : decode (mC M59) 14 = .ok (.iload_n 2, 1) := by decide +kernel
theorem d59_15 : decode (mC M59) 15 = .ok (.iaload, 1) := by decide +kernel
theorem d59_16 : decode (mC M59) 16 = .ok (.iload_n 1, 1) := by decide +kernel
theorem d59_17 : decode (mC M59) 17 = .ok (.if_icmp .ne 5, 3) := by decide +kernel
theorem d59_20 : decode (mC M59) 20 = .ok (.iconst 1, 1) := by decide +kernel
theorem d59_21 : decode (mC M59) 21 = .ok (.ireturn, 1) := by decide +kernel
theorem d59_22 : decode (mC M59) 22 = .ok (.iinc 2 1, 3) := by decide +kernel
theorem d59_25 : decode (mC M59) 25 = .ok (.goto (-23), 3) := by decide +kernel
theorem d59_28 : decode (mC M59) 28 = .ok (.iconst 0, 1) := by decide +kernel
theorem d59_29 : decode (mC M59) 29 = .ok (.ireturn, 1) := by decide +kernel
theorem sc59_0 : ∀ q ∈ tc59_0, Snd xtb M59 q.1 q.2 := List.forall_mem_cons.mpr ⟨snd_iconst d59_0 (by decide +kernel), List.forall_mem_cons.mpr ⟨snd_istore_n d59_1 rfl, List.forall_mem_cons.mpr ⟨snd_iload_n d59_2 rfl, List.forall_mem_cons.mpr ⟨snd_aload_n d59_3 rfl, List.forall_mem_cons.mpr ⟨snd_getI (by decide) (by decide) rfl wd440 d59_4, List.forall_mem_cons.mpr ⟨snd_cmp_ge d59_7 (by decide), List.forall_mem_cons.mpr ⟨snd_aload_n d59_10 rfl, List.forall_mem_cons.mpr ⟨snd_getR (by decide) (by decide) rfl wd444 d59_11, List.forall_mem_cons.mpr ⟨snd_iload_n d59_14 rfl, List.forall_mem_cons.mpr ⟨snd_iald d59_15, List.forall_mem_cons.mpr ⟨snd_iload_n d59_16 rfl, List.forall_mem_cons.mpr ⟨snd_cmp_ne d59_17 (by decide), List.forall_mem_cons.mpr ⟨snd_iconst d59_20 (by decide +kernel), List.forall_mem_cons.mpr ⟨snd_zret rfl d59_21, List.forall_mem_cons.mpr ⟨snd_iinc d59_22 (by decide +kernel), List.forall_mem_cons.mpr ⟨snd_goto d59_25 (by decide), List.forall_mem_cons.mpr ⟨snd_iconst d59_28 (by decide +kernel), List.forall_mem_cons.mpr ⟨snd_zret rfl d59_29, fun _ h => by cases h⟩⟩⟩⟩⟩⟩⟩⟩⟩⟩⟩⟩⟩⟩⟩⟩⟩⟩
theorem d60_0 : decode (mC M60) 0 = .ok (.iload_n 1, 1) := by decide +kernel
theorem d60_1 : decode (mC M60) 1 = .ok (.tableswitch 97 0 8 #[51, 56, 61, 66, 71, 76, 81, 86, 91], 51) := by decide +kernel
theorem d60_52 : decode (mC M60) 52 = .ok (.aload_n 0, 1) := by decide +kernel
theorem d60_53 : decode (mC M60) 53 = .ok (.getfield 29, 3) := by decide +kernel
theorem d60_56 : decode (mC M60) 56 = .ok (.ireturn, 1) := by decide +kernel
theorem d60_57 : decode (mC M60) 57 = .ok (.aload_n 0, 1) := by decide +kernel
theorem d60_58 : decode (mC M60) 58 = .ok (.getfield 32, 3) := by decide +kernel
theorem d60_61 : decode (mC M60) 61 = .ok (.ireturn, 1) := by decide +kernel
theorem d60_62 : decode (mC M60) 62 = .ok (.aload_n 0, 1) := by decide +kernel
theorem d60_63 : decode (mC M60) 63 = .ok (.getfield 35, 3) := by decide +kernel
theorem d60_66 : decode (mC M60) 66 = .ok (.ireturn, 1) := by decide +kernel
theorem d60_67 : decode (mC M60) 67 = .ok (.aload_n 0, 1) := by decide +kernel
theorem d60_68 : decode (mC M60) 68 = .ok (.getfield 38, 3) := by decide +kernel
theorem d60_71 : decode (mC M60) 71 = .ok (.ireturn, 1) := by decide +kernel
theorem d60_72 : decode (mC M60) 72 = .ok (.aload_n 0, 1) := by decide +kernel
theorem d60_73 : decode (mC M60) 73 = .ok (.getfield 41, 3) := by decide +kernel
theorem d60_76 : decode (mC M60) 76 = .ok (.ireturn, 1) := by decide +kernel
theorem d60_77 : decode (mC M60) 77 = .ok (.aload_n 0, 1) := by decide +kernel
theorem d60_78 : decode (mC M60) 78 = .ok (.getfield 47, 3) := by decide +kernel
theorem d60_81 : decode (mC M60) 81 = .ok (.ireturn, 1) := by decide +kernel
theorem d60_82 : decode (mC M60) 82 = .ok (.aload_n 0, 1) := by decide +kernel
theorem d60_83 : decode (mC M60) 83 = .ok (.getfield 44, 3) := by decide +kernel
theorem d60_86 : decode (mC M60) 86 = .ok (.ireturn, 1) := by decide +kernel
theorem d60_87 : decode (mC M60) 87 = .ok (.aload_n 0, 1) := by decide +kernel
theorem d60_88 : decode (mC M60) 88 = .ok (.getfield 50, 3) := by decide +kernel
theorem d60_91 : decode (mC M60) 91 = .ok (.ireturn, 1) := by decide +kernel
theorem d60_92 : decode (mC M60) 92 = .ok (.aload_n 0, 1) := by decide +kernel
theorem d60_93 : decode (mC M60) 93 = .ok (.iconst (-1), 1) := by decide +kernel
theorem d60_94 : decode (mC M60) 94 = .ok (.invokevirtual 70, 3) := by decide +kernel
theorem d60_97 : decode (mC M60) 97 = .ok (.ireturn, 1) := by decide +kernel
theorem d60_98 : decode (mC M60) 98 = .ok (.aload_n 0, 1) := by decide +kernel
theorem d60_99 : decode (mC M60) 99 = .ok (.getfield 9, 3) := by decide +kernel
theorem d60_102 : decode (mC M60) 102 = .ok (.ifCond .lt 7, 3) := by decide +kernel
theorem d60_105 : decode (mC M60) 105 = .ok (.iconst 1, 1) := by decide +kernel
theorem d60_106 : decode (mC M60) 106 = .ok (.goto 4, 3) := by decide +kernel
theorem d60_109 : decode (mC M60) 109 = .ok (.iconst 0, 1) := by decide +kernel
theorem d60_110 : decode (mC M60) 110 = .ok (.invokestatic 73, 3) := by decide +kernel
theorem d60_113 : decode (mC M60) 113 = .ok (.ireturn, 1) := by decide +kernel
theorem sc60_0 : ∀ q ∈ tc60_0, Snd xtb M60 q.1 q.2 := List.forall_mem_cons.mpr ⟨snd_iload_n d60_0 rfl, List.forall_mem_cons.mpr ⟨snd_tsw d60_1 (by decide +kernel), List.forall_mem_cons.mpr ⟨snd_aload_n d60_52 rfl, List.forall_mem_cons.mpr ⟨snd_getI (by decide) (by decide) rfl wd417 d60_53, List.forall_mem_cons.mpr ⟨snd_iret rfl d60_56, List.forall_mem_cons.mpr ⟨snd_aload_n d60_57 rfl, List.forall_mem_cons.mpr ⟨snd_getI (by decide) (by decide) rfl wd421 d60_58, List.forall_mem_cons.mpr ⟨snd_iret rfl d60_61, List.forall_mem_cons.mpr ⟨snd_aload_n d60_62 rfl, List.forall_mem_cons.mpr ⟨snd_getI (by decide) (by decide) rfl wd424 d60_63, List.forall_mem_cons.mpr ⟨snd_iret rfl d60_66, List.forall_mem_cons.mpr ⟨snd_aload_n d60_67 rfl, List.forall_mem_cons.mpr ⟨snd_getI (by decide) (by decide) rfl wd427 d60_68, List.forall_mem_cons.mpr ⟨snd_iret rfl d60_71, List.forall_mem_cons.mpr ⟨snd_aload_n d60_72 rfl, List.forall_mem_cons.mpr ⟨snd_getI (by decide) (by decide) rfl wd431 d60_73, List.forall_mem_cons.mpr ⟨snd_iret rfl d60_76, List.forall_mem_cons.mpr ⟨snd_aload_n d60_77 rfl, List.forall_mem_cons.mpr ⟨snd_getI (by decide) (by decide) rfl wd432 d60_78, List.forall_mem_cons.mpr ⟨snd_iret rfl d60_81, List.forall_mem_cons.mpr ⟨snd_aload_n d60_82 rfl, List.forall_mem_cons.mpr ⟨snd_getI (by decide) (by decide) rfl wd435 d60_83, List.forall_mem_cons.mpr ⟨snd_iret rfl d60_86, List.forall_mem_cons.mpr ⟨snd_aload_n d60_87 rfl, List.forall_mem_cons.mpr ⟨snd_getI (by decide) (by decide) rfl wd440 d60_88, List.forall_mem_cons.mpr ⟨snd_iret rfl d60_91, List.forall_mem_cons.mpr ⟨snd_aload_n d60_92 rfl, List.forall_mem_cons.mpr ⟨snd_iconst d60_93 (by decide +kernel), List.forall_mem_cons.mpr ⟨snd_callV (by decide) rfl cn58 ⟨by decide +kernel, by decide +kernel⟩ cm58 (List.forall_mem_cons.mpr ⟨wd1129, cw58⟩) d60_94, List.forall_mem_cons.mpr ⟨snd_iret rfl d60_97, fun _ h => by cases h⟩⟩⟩⟩⟩⟩⟩⟩⟩⟩⟩⟩⟩⟩⟩⟩⟩⟩⟩⟩⟩⟩⟩⟩⟩⟩⟩⟩⟩⟩
theorem sc60_1 : ∀ q ∈ tc60_1, Snd xtb M60 q.1 q.2 := List.forall_mem_cons.mpr ⟨snd_aload_n d60_98 rfl, List.forall_mem_cons.mpr ⟨snd_getI (by decide) (by decide) rfl wd438 d60_99, List.forall_mem_cons.mpr ⟨snd_if_lt d60_102 (by decide), List.forall_mem_cons.mpr ⟨snd_iconst d60_105 (by decide +kernel), List.forall_mem_cons.mpr ⟨snd_goto d60_106 (by decide), List.forall_mem_cons.mpr ⟨snd_iconst d60_109 (by decide +kernel), List.forall_mem_cons.mpr ⟨snd_callSN (host := "SalePlaces") cn165 ⟨by decide +kernel, by decide +kernel⟩ cm165 cw165 (by decide +kernel) d60_110, List.forall_mem_cons.mpr ⟨snd_iret rfl d60_113, fun _ h => by cases h⟩⟩⟩⟩⟩⟩⟩⟩
theorem d61_0 : decode (mC M61) 0 = .ok (.iload_n 2, 1) := by decide +kernel
theorem d61_1 : decode (mC M61) 1 = .ok (.tableswitch 72 0 4 #[35, 42, 49, 56, 66], 35) := by decide +kernel
theorem d61_36 : decode (mC M61) 36 = .ok (.aload_n 0, 1) := by decide +kernel
theorem d61_37 : decode (mC M61) 37 = .ok (.getfield 15, 3) := by decide +kernel
theorem d61_40 : decode (mC M61) 40 = .ok (.iload_n 1, 1) := by decide +kernel
theorem d61_41 : decode (mC M61) 41 = .ok (.iaload, 1) := by decide +kernel
theorem d61_42 : decode (mC M61) 42 = .ok (.ireturn, 1) := by decide +kernel
theorem d61_43 : decode (mC M61) 43 = .ok (.aload_n 0, 1) := by decide +kernel
theorem d61_44 : decode (mC M61) 44 = .ok (.getfield 19, 3) := by decide +kernel
theorem d61_47 : decode (mC M61) 47 = .ok (.iload_n 1, 1) := by decide +kernel
theorem d61_48 : decode (mC M61) 48 = .ok (.iaload, 1) := by decide +kernel
theorem d61_49 : decode (mC M61) 49 = .ok (.ireturn, 1) := by decide +kernel
theorem d61_50 : decode (mC M61) 50 = .ok (.aload_n 0, 1) := by decide +kernel
theorem d61_51 : decode (mC M61) 51 = .ok (.getfield 22, 3) := by decide +kernel
theorem d61_54 : decode (mC M61) 54 = .ok (.iload_n 1, 1) := by decide +kernel
theorem d61_55 : decode (mC M61) 55 = .ok (.iaload, 1) := by decide +kernel
theorem d61_56 : decode (mC M61) 56 = .ok (.ireturn, 1) := by decide +kernel
theorem d61_57 : decode (mC M61) 57 = .ok (.aload_n 0, 1) := by decide +kernel
theorem d61_58 : decode (mC M61) 58 = .ok (.getfield 25, 3) := by decide +kernel
theorem d61_61 : decode (mC M61) 61 = .ok (.iload_n 1, 1) := by decide +kernel
theorem d61_62 : decode (mC M61) 62 = .ok (.baload, 1) := by decide +kernel
theorem d61_63 : decode (mC M61) 63 = .ok (.invokestatic 73, 3) := by decide +kernel
theorem d61_66 : decode (mC M61) 66 = .ok (.ireturn, 1) := by decide +kernel
theorem d61_67 : decode (mC M61) 67 = .ok (.aload_n 0, 1) := by decide +kernel
theorem d61_68 : decode (mC M61) 68 = .ok (.iload_n 1, 1) := by decide +kernel
theorem d61_69 : decode (mC M61) 69 = .ok (.invokevirtual 59, 3) := by decide +kernel
theorem d61_72 : decode (mC M61) 72 = .ok (.ireturn, 1) := by decide +kernel
theorem d61_73 : decode (mC M61) 73 = .ok (.aload_n 0, 1) := by decide +kernel
theorem d61_74 : decode (mC M61) 74 = .ok (.iload_n 1, 1) := by decide +kernel
theorem d61_75 : decode (mC M61) 75 = .ok (.invokevirtual 67, 3) := by decide +kernel
theorem d61_78 : decode (mC M61) 78 = .ok (.ireturn, 1) := by decide +kernel
theorem sc61_0 : ∀ q ∈ tc61_0, Snd xtb M61 q.1 q.2 := List.forall_mem_cons.mpr ⟨snd_iload_n d61_0 rfl, List.forall_mem_cons.mpr ⟨snd_tsw d61_1 (by decide +kernel), List.forall_mem_cons.mpr ⟨snd_aload_n d61_36 rfl, List.forall_mem_cons.mpr ⟨snd_getR (by decide) (by decide) rfl wd444 d61_37, List.forall_mem_cons.mpr ⟨snd_iload_n d61_40 rfl, List.forall_mem_cons.mpr ⟨snd_iald d61_41, List.forall_mem_cons.mpr ⟨snd_iret rfl d61_42, List.forall_mem_cons.mpr ⟨snd_aload_n d61_43 rfl, List.forall_mem_cons.mpr ⟨snd_getR (by decide) (by decide) rfl wd446 d61_44, List.forall_mem_cons.mpr ⟨snd_iload_n d61_47 rfl, List.forall_mem_cons.mpr ⟨snd_iald d61_48, List.forall_mem_cons.mpr ⟨snd_iret rfl d61_49, List.forall_mem_cons.mpr ⟨snd_aload_n d61_50 rfl, List.forall_mem_cons.mpr ⟨snd_getR (by decide) (by decide) rfl wd447 d61_51, List.forall_mem_cons.mpr ⟨snd_iload_n d61_54 rfl, List.forall_mem_cons.mpr ⟨snd_iald d61_55, List.forall_mem_cons.mpr ⟨snd_iret rfl d61_56, List.forall_mem_cons.mpr ⟨snd_aload_n d61_57 rfl, List.forall_mem_cons.mpr ⟨snd_getR (by decide) (by decide) rfl wd448 d61_58, List.forall_mem_cons.mpr ⟨snd_iload_n d61_61 rfl, List.forall_mem_cons.mpr ⟨snd_zald d61_62, List.forall_mem_cons.mpr ⟨snd_callSN (host := "SalePlaces") cn165 ⟨by decide +kernel, by decide +kernel⟩ cm165 cw165 (by decide +kernel) d61_63, List.forall_mem_cons.mpr ⟨snd_iret rfl d61_66, List.forall_mem_cons.mpr ⟨snd_aload_n d61_67 rfl, List.forall_mem_cons.mpr ⟨snd_iload_n d61_68 rfl, List.forall_mem_cons.mpr ⟨snd_callV (by decide) rfl cn56 ⟨by decide +kernel, by decide +kernel⟩ cm56 (List.forall_mem_cons.mpr ⟨wd1089, cw56⟩) d61_69, List.forall_mem_cons.mpr ⟨snd_iret rfl d61_72, List.forall_mem_cons.mpr ⟨snd_aload_n d61_73 rfl, List.forall_mem_cons.mpr ⟨snd_iload_n d61_74 rfl, List.forall_mem_cons.mpr ⟨snd_callV (by decide) rfl cn57 ⟨by decide +kernel, by decide +kernel⟩ cm57 (List.forall_mem_cons.mpr ⟨wd1085, cw57⟩) d61_75, fun _ h => by cases h⟩⟩⟩⟩⟩⟩⟩⟩⟩⟩⟩⟩⟩⟩⟩⟩⟩⟩⟩⟩⟩⟩⟩⟩⟩⟩⟩⟩⟩⟩
theorem sc61_1 : ∀ q ∈ tc61_1, Snd xtb M61 q.1 q.2 := List.forall_mem_cons.mpr ⟨snd_iret rfl d61_78, fun _ h => by cases h⟩
theorem d62_0 : decode (mC M62) 0 = .ok (.aload_n 0, 1) := by decide +kernel
theorem d62_1 : decode (mC M62) 1 = .ok (.invokespecial 3, 3) := by decide +kernel
theorem d62_4 : decode (mC M62) 4 = .ok (.aload_n 0, 1) := by decide +kernel
theorem d62_5 : decode (mC M62) 5 = .ok (.bipush 20, 2) := by decide +kernel
theorem d62_7 : decode (mC M62) 7 = .ok (.newarray .int, 2) := by decide +kernel
theorem d62_9 : decode (mC M62) 9 = .ok (.putfield 9, 3) := by decide +kernel
theorem d62_12 : decode (mC M62) 12 = .ok (.aload_n 0, 1) := by decide +kernel
theorem d62_13 : decode (mC M62) 13 = .ok (.bipush 20, 2) := by decide +kernel
theorem d62_15 : decode (mC M62) 15 = .ok (.newarray .int, 2) := by decide +kernel
theorem d62_17 : decode (mC M62) 17 = .ok (.putfield 15, 3) := by decide +kernel
theorem d62_20 : decode (mC M62) 20 = .ok (.aload_n 0, 1) := by decide +kernel
theorem d62_21 : decode (mC M62) 21 = .ok (.bipush 20, 2) := by decide +kernel
theorem d62_23 : decode (mC M62) 23 = .ok (.newarray .int, 2) := by decide +kernel
theorem d62_25 : decode (mC M62) 25 = .ok (.putfield 18, 3) := by decide +kernel
theorem d62_28 : decode (mC M62) 28 = .ok (.aload_n 0, 1) := by decide +kernel
theorem d62_29 : decode (mC M62) 29 = .ok (.bipush 20, 2) := by decide +kernel
theorem d62_31 : decode (mC M62) 31 = .ok (.newarray .int, 2) := by decide +kernel
theorem d62_33 : decode (mC M62) 33 = .ok (.putfield 21, 3) := by decide +kernel
theorem d62_36 : decode (mC M62) 36 = .ok (.return_, 1) := by decide +kernel
theorem sc62_0 : ∀ q ∈ tc62_0, Snd xtb M62 q.1 q.2 := List.forall_mem_cons.mpr ⟨snd_aload_n d62_0 rfl, List.forall_mem_cons.mpr ⟨snd_obj (by decide) (by decide) (List.forall_mem_cons.mpr ⟨wd288, List.forall_mem_cons.mpr ⟨wd139, List.forall_mem_cons.mpr ⟨wd140, fun _ h => by cases h⟩⟩⟩) d62_1, List.forall_mem_cons.mpr ⟨snd_aload_n d62_4 rfl, List.forall_mem_cons.mpr ⟨snd_bipush d62_5 (by decide +kernel), List.forall_mem_cons.mpr ⟨snd_newa (ty := .int) (k := 1) rfl (by decide +kernel) wd229 d62_7, List.forall_mem_cons.mpr ⟨snd_putRF (by decide) (by decide) rfl rfl rfl rfl wd294 d62_9, List.forall_mem_cons.mpr ⟨snd_aload_n d62_12 rfl, List.forall_mem_cons.mpr ⟨snd_bipush d62_13 (by decide +kernel), List.forall_mem_cons.mpr ⟨snd_newa (ty := .int) (k := 1) rfl (by decide +kernel) wd229 d62_15, List.forall_mem_cons.mpr ⟨snd_putRF (by decide) (by decide) rfl rfl rfl rfl wd295 d62_17, List.forall_mem_cons.mpr ⟨snd_aload_n d62_20 rfl, List.forall_mem_cons.mpr ⟨snd_bipush d62_21 (by decide +kernel), List.forall_mem_cons.mpr ⟨snd_newa (ty := .int) (k := 1) rfl (by decide +kernel) wd229 d62_23, List.forall_mem_cons.mpr ⟨snd_putRF (by decide) (by decide) rfl rfl rfl rfl wd296 d62_25, List.forall_mem_cons.mpr ⟨snd_aload_n d62_28 rfl, List.forall_mem_cons.mpr ⟨snd_bipush d62_29 (by decide +kernel), List.forall_mem_cons.mpr ⟨snd_newa (ty := .int) (k := 1) rfl (by decide +kernel) wd229 d62_31, List.forall_mem_cons.mpr ⟨snd_putRF (by decide) (by decide) rfl rfl rfl rfl wd298 d62_33, List.forall_mem_cons.mpr ⟨snd_vret rfl d62_36, fun _ h => by cases h⟩⟩⟩⟩⟩⟩⟩⟩⟩⟩⟩⟩⟩⟩⟩⟩⟩⟩⟩
theorem d63_0 : decode (mC M63) 0 = .ok (.aload_n 0, 1) := by decide +kernel
theorem d63_1 : decode (mC M63) 1 = .ok (.getfield 24, 3) := by decide +kernel
theorem d63_4 : decode (mC M63) 4 = .ok (.iconst 1, 1) := by decide +kernel
theorem d63_5 : decode (mC M63) 5 = .ok (.isub, 1) := by decide +kernel
theorem d63_6 : decode (mC M63) 6 = .ok (.istore 4, 2) := by decide +kernel
theorem d63_8 : decode (mC M63) 8 = .ok (.iload 4, 2) := by decide +kernel
theorem d63_10 : decode (mC M63) 10 = .ok (.ifCond .lt 45, 3) := by decide +kernel
theorem d63_13 : decode (mC M63) 13 = .ok (.aload_n 0, 1) := by decide +kernel
theorem d63_14 : decode (mC M63) 14 = .ok (.getfield 9, 3) := by decide +kernel
theorem d63_17 : decode (mC M63) 17 = .ok (.iload 4, 2) := by decide +kernel
theorem d63_19 : decode (mC M63) 19 = .ok (.iaload, 1) := by decide +kernel
theorem d63_20 : decode (mC M63) 20 = .ok (.iload_n 1, 1) := by decide +kernel
theorem d63_21 : decode (mC M63) 21 = .ok (.if_icmp .ne 28, 3) := by decide +kernel
theorem d63_24 : decode (mC M63) 24 = .ok (.aload_n 0, 1) := by decide +kernel
theorem d63_25 : decode (mC M63) 25 = .ok (.getfield 15, 3) := by decide +kernel
theorem d63_28 : decode (mC M63) 28 = .ok (.iload 4, 2) := by decide +kernel
theorem d63_30 : decode (mC M63) 30 = .ok (.iaload, 1) := by decide +kernel
theorem d63_31 : decode (mC M63) 31 = .ok (.iload_n 2, 1) := by decide +kernel
theorem d63_32 : decode (mC M63) 32 = .ok (.if_icmp .ne 17, 3) := by decide +kernel
theorem d63_35 : decode (mC M63) 35 = .ok (.aload_n 0, 1) := by decide +kernel
theorem d63_36 : decode (mC M63) 36 = .ok (.getfield 18, 3) := by decide +kernel
theorem d63_39 : decode (mC M63) 39 = .ok (.iload 4, 2) := by decide +kernel
theorem d63_41 : decode (mC M63) 41 = .ok (.iaload, 1) := by decide +kernel
theorem d63_42 : decode (mC M63) 42 = .ok (.iload_n 3, 1) := by decide +kernel
theorem d63_43 : decode (mC M63) 43 = .ok (.if_icmp .gt 6, 3) := by decide +kernel
theorem d63_46 : decode (mC M63) 46 = .ok (.iload 4, 2) := by decide +kernel
theorem d63_48 : decode (mC M63) 48 = .ok (.ireturn, 1) := by decide +kernel
theorem d63_49 : decode (mC M63) 49 = .ok (.iinc 4 (-1), 3) := by decide +kernel
theorem d63_52 : decode (mC M63) 52 = .ok (.goto (-44), 3) := by decide +kernel
theorem d63_55 : decode (mC M63) 55 = .ok (.iconst (-1), 1) := by decide +kernel
theorem d63_56 : decode (mC M63) 56 = .ok (.ireturn, 1) := by decide +kernel
theorem sc63_0 : ∀ q ∈ tc63_0, Snd xtb M63 q.1 q.2 := List.forall_mem_cons.mpr ⟨snd_aload_n d63_0 rfl, List.forall_mem_cons.mpr ⟨snd_getI (by decide) (by decide) rfl wd289 d63_1, List.forall_mem_cons.mpr ⟨snd_iconst d63_4 (by decide +kernel), List.forall_mem_cons.mpr ⟨snd_isub d63_5, List.forall_mem_cons.mpr ⟨snd_istore d63_6, List.forall_mem_cons.mpr ⟨snd_iload d63_8, List.forall_mem_cons.mpr ⟨snd_if_lt d63_10 (by decide), List.forall_mem_cons.mpr ⟨snd_aload_n d63_13 rfl, List.forall_mem_cons.mpr ⟨snd_getR (by decide) (by decide) rfl wd294 d63_14, List.forall_mem_cons.mpr ⟨snd_iload d63_17, List.forall_mem_cons.mpr ⟨snd_iald d63_19, List.forall_mem_cons.mpr ⟨snd_iload_n d63_20 rfl, List.forall_mem_cons.mpr ⟨snd_cmp_ne d63_21 (by decide), List.forall_mem_cons.mpr ⟨snd_aload_n d63_24 rfl, List.forall_mem_cons.mpr ⟨snd_getR (by decide) (by decide) rfl wd295 d63_25, List.forall_mem_cons.mpr ⟨snd_iload d63_28, List.forall_mem_cons.mpr ⟨snd_iald d63_30, List.forall_mem_cons.mpr ⟨snd_iload_n d63_31 rfl, List.forall_mem_cons.mpr ⟨snd_cmp_ne d63_32 (by decide), List.forall_mem_cons.mpr ⟨snd_aload_n d63_35 rfl, List.forall_mem_cons.mpr ⟨snd_getR (by decide) (by decide) rfl wd296 d63_36, List.forall_mem_cons.mpr ⟨snd_iload d63_39, List.forall_mem_cons.mpr ⟨snd_iald d63_41, List.forall_mem_cons.mpr ⟨snd_iload_n d63_42 rfl, List.forall_mem_cons.mpr ⟨snd_cmp_gt d63_43 (by decide), List.forall_mem_cons.mpr ⟨snd_iload d63_46, List.forall_mem_cons.mpr ⟨snd_iret rfl d63_48, List.forall_mem_cons.mpr ⟨snd_iinc d63_49 (by decide +kernel), List.forall_mem_cons.mpr ⟨snd_goto d63_52 (by decide), List.forall_mem_cons.mpr ⟨snd_iconst d63_55 (by decide +kernel), fun _ h => by cases h⟩⟩⟩⟩⟩⟩⟩⟩⟩⟩⟩⟩⟩⟩⟩⟩⟩⟩⟩⟩⟩⟩⟩⟩⟩⟩⟩⟩⟩⟩
theorem sc63_1 : ∀ q ∈ tc63_1, Snd xtb M63 q.1 q.2 := List.forall_mem_cons.mpr ⟨snd_iret rfl d63_56, fun _ h => by cases h⟩
theorem d64_0 : decode (mC M64) 0 = .ok (.aload_n 0, 1) := by decide +kernel
theorem d64_1 : decode (mC M64) 1 = .ok (.iload_n 1, 1) := by decide +kernel
theorem d64_2 : decode (mC M64) 2 = .ok (.iload_n 2, 1) := by decide +kernel
theorem d64_3 : decode (mC M64) 3 = .ok (.sipush 999, 3) := by decide +kernel
theorem d64_6 : decode (mC M64) 6 = .ok (.invokevirtual 28, 3) := by decide +kernel
theorem d64_9 : decode (mC M64) 9 = .ok (.istore_n 3, 1) := by decide +kernel
theorem d64_10 : decode (mC M64) 10 = .ok (.iload_n 3, 1) := by decide +kernel
theorem d64_11 : decode (mC M64) 11 = .ok (.ifCond .ge 7, 3) := by decide +kernel
theorem d64_14 : decode (mC M64) 14 = .ok (.iconst 0, 1) := by decide +kernel
theorem d64_15 : decode (mC M64) 15 = .ok (.goto 11, 3) := by decide +kernel
theorem d64_18 : decode (mC M64) 18 = .ok (.aload_n 0, 1) := by decide +kernel
theorem d64_19 : decode (mC M64) 19 = .ok (.getfield 18, 3) := by decide +kernel
theorem d64_22 : decode (mC M64) 22 = .ok (.iload_n 3, 1) := by decide +kernel
theorem d64_23 : decode (mC M64) 23 = .ok (.iaload, 1) := by decide +kernel
theorem d64_24 : decode (mC M64) 24 = .ok (.iconst 1, 1) := by decide +kernel
theorem d64_25 : decode (mC M64) 25 = .ok (.iadd, 1) := by decide +kernel
theorem d64_26 : decode (mC M64) 26 = .ok (.ireturn, 1) := by decide +kernel
theorem sc64_0 : ∀ q ∈ tc64_0, Snd xtb M64 q.1 q.2 := List.forall_mem_cons.mpr ⟨snd_aload_n d64_0 rfl, List.forall_mem_cons.mpr ⟨snd_iload_n d64_1 rfl, List.forall_mem_cons.mpr ⟨snd_iload_n d64_2 rfl, List.forall_mem_cons.mpr ⟨snd_sipush d64_3 (by decide +kernel), List.forall_mem_cons.mpr ⟨snd_callV (by decide) rfl cn63 ⟨by decide +kernel, by decide +kernel⟩ cm63 (List.forall_mem_cons.mpr ⟨wd774, cw63⟩) d64_6, List.forall_mem_cons.mpr ⟨snd_istore_n d64_9 rfl, List.forall_mem_cons.mpr ⟨snd_iload_n d64_10 rfl, List.forall_mem_cons.mpr ⟨snd_if_ge d64_11 (by decide), List.forall_mem_cons.mpr ⟨snd_iconst d64_14 (by decide +kernel), List.forall_mem_cons.mpr ⟨snd_goto d64_15 (by decide), List.forall_mem_cons.mpr ⟨snd_aload_n d64_18 rfl, List.forall_mem_cons.mpr ⟨snd_getR (by decide) (by decide) rfl wd296 d64_19, List.forall_mem_cons.mpr ⟨snd_iload_n d64_22 rfl, List.forall_mem_cons.mpr ⟨snd_iald d64_23, List.forall_mem_cons.mpr ⟨snd_iconst d64_24 (by decide +kernel), List.forall_mem_cons.mpr ⟨snd_iadd d64_25, List.forall_mem_cons.mpr ⟨snd_iret rfl d64_26, fun _ h => by cases h⟩⟩⟩⟩⟩⟩⟩⟩⟩⟩⟩⟩⟩⟩⟩⟩⟩
theorem d65_0 : decode (mC M65) 0 = .ok (.aload_n 0, 1) := by decide +kernel
theorem d65_1 : decode (mC M65) 1 = .ok (.getfield 9, 3) := by decide +kernel
theorem d65_4 : decode (mC M65) 4 = .ok (.aload_n 0, 1) := by decide +kernel
theorem d65_5 : decode (mC M65) 5 = .ok (.getfield 24, 3) := by decide +kernel
theorem d65_8 : decode (mC M65) 8 = .ok (.iload_n 1, 1) := by decide +kernel
theorem d65_9 : decode (mC M65) 9 = .ok (.iastore, 1) := by decide +kernel
theorem d65_10 : decode (mC M65) 10 = .ok (.aload_n 0, 1) := by decide +kernel
theorem d65_11 : decode (mC M65) 11 = .ok (.getfield 15, 3) := by decide +kernel
theorem d65_14 : decode (mC M65) 14 = .ok (.aload_n 0, 1) := by decide +kernel
theorem d65_15 : decode (mC M65) 15 = .ok (.getfield 24, 3) := by decide +kernel
theorem d65_18 : decode (mC M65) 18 = .ok (.iload_n 2, 1) := by decide +kernel
theorem d65_19 : decode (mC M65) 19 = .ok (.iastore, 1) := by decide +kernel
theorem d65_20 : decode (mC M65) 20 = .ok (.aload_n 0, 1) := by decide +kernel
theorem d65_21 : decode (mC M65) 21 = .ok (.getfield 18, 3) := by decide +kernel
theorem d65_24 : decode (mC M65) 24 = .ok (.aload_n 0, 1) := by decide +kernel
theorem d65_25 : decode (mC M65) 25 = .ok (.getfield 24, 3) := by decide +kernel
theorem d65_28 : decode (mC M65) 28 = .ok (.iload_n 3, 1) := by decide +kernel
theorem d65_29 : decode (mC M65) 29 = .ok (.iastore, 1) := by decide +kernel
theorem d65_30 : decode (mC M65) 30 = .ok (.aload_n 0, 1) := by decide +kernel
theorem d65_31 : decode (mC M65) 31 = .ok (.getfield 21, 3) := by decide +kernel
theorem d65_34 : decode (mC M65) 34 = .ok (.aload_n 0, 1) := by decide +kernel
theorem d65_35 : decode (mC M65) 35 = .ok (.getfield 24, 3) := by decide +kernel
theorem d65_38 : decode (mC M65) 38 = .ok (.iload 4, 2) := by decide +kernel
theorem d65_40 : decode (mC M65) 40 = .ok (.iastore, 1) := by decide +kernel
theorem d65_41 : decode (mC M65) 41 = .ok (.aload_n 0, 1) := by decide +kernel
theorem d65_42 : decode (mC M65) 42 = .ok (.dup, 1) := by decide +kernel
theorem d65_43 : decode (mC M65) 43 = .ok (.getfield 24, 3) := by decide +kernel
theorem d65_46 : decode (mC M65) 46 = .ok (.iconst 1, 1) := by decide +kernel
theorem d65_47 : decode (mC M65) 47 = .ok (.iadd, 1) := by decide +kernel
theorem d65_48 : decode (mC M65) 48 = .ok (.putfield 24, 3) := by decide +kernel
theorem d65_51 : decode (mC M65) 51 = .ok (.return_, 1) := by decide +kernel
theorem sc65_0 : ∀ q ∈ tc65_0, Snd xtb M65 q.1 q.2 := List.forall_mem_cons.mpr ⟨snd_aload_n d65_0 rfl, List.forall_mem_cons.mpr ⟨snd_getR (by decide) (by decide) rfl wd294 d65_1, List.forall_mem_cons.mpr ⟨snd_aload_n d65_4 rfl, List.forall_mem_cons.mpr ⟨snd_getI (by decide) (by decide) rfl wd289 d65_5, List.forall_mem_cons.mpr ⟨snd_iload_n d65_8 rfl, List.forall_mem_cons.mpr ⟨snd_iast d65_9, List.forall_mem_cons.mpr ⟨snd_aload_n d65_10 rfl, List.forall_mem_cons.mpr ⟨snd_getR (by decide) (by decide) rfl wd295 d65_11, List.forall_mem_cons.mpr ⟨snd_aload_n d65_14 rfl, List.forall_mem_cons.mpr ⟨snd_getI (by decide) (by decide) rfl wd289 d65_15, List.forall_mem_cons.mpr ⟨snd_iload_n d65_18 rfl, List.forall_mem_cons.mpr ⟨snd_iast d65_19, List.forall_mem_cons.mpr ⟨snd_aload_n d65_20 rfl, List.forall_mem_cons.mpr ⟨snd_getR (by decide) (by decide) rfl wd296 d65_21, List.forall_mem_cons.mpr ⟨snd_aload_n d65_24 rfl, List.forall_mem_cons.mpr ⟨snd_getI (by decide) (by decide) rfl wd289 d65_25, List.forall_mem_cons.mpr ⟨snd_iload_n d65_28 rfl, List.forall_mem_cons.mpr ⟨snd_iast d65_29, List.forall_mem_cons.mpr ⟨snd_aload_n d65_30 rfl, List.forall_mem_cons.mpr ⟨snd_getR (by decide) (by decide) rfl wd298 d65_31, List.forall_mem_cons.mpr ⟨snd_aload_n d65_34 rfl, List.forall_mem_cons.mpr ⟨snd_getI (by decide) (by decide) rfl wd289 d65_35, List.forall_mem_cons.mpr ⟨snd_iload d65_38, List.forall_mem_cons.mpr ⟨snd_iast d65_40, List.forall_mem_cons.mpr ⟨snd_aload_n d65_41 rfl, List.forall_mem_cons.mpr ⟨snd_dup d65_42, List.forall_mem_cons.mpr ⟨snd_getI (by decide) (by decide) rfl wd289 d65_43, List.forall_mem_cons.mpr ⟨snd_iconst d65_46 (by decide +kernel), List.forall_mem_cons.mpr ⟨snd_iadd d65_47, List.forall_mem_cons.mpr ⟨snd_putI (by decide) (by decide) rfl rfl wd289 d65_48, fun _ h => by cases h⟩⟩⟩⟩⟩⟩⟩⟩⟩⟩⟩⟩⟩⟩⟩⟩⟩⟩⟩⟩⟩⟩⟩⟩⟩⟩⟩⟩⟩⟩
theorem sc65_1 : ∀ q ∈ tc65_1, Snd xtb M65 q.1 q.2 := List.forall_mem_cons.mpr ⟨snd_vret rfl d65_51, fun _ h => by cases h⟩
theorem d66_0 : decode (mC M66) 0 = .ok (.aload_n 0, 1) := by decide +kernel
theorem d66_1 : decode (mC M66) 1 = .ok (.invokespecial 3, 3) := by decide +kernel
theorem d66_4 : decode (mC M66) 4 = .ok (.aload_n 0, 1) := by decide +kernel
theorem d66_5 : decode (mC M66) 5 = .ok (.new 9, 3) := by decide +kernel
theorem d66_8 : decode (mC M66) 8 = .ok (.dup, 1) := by decide +kernel
theorem d66_9 : decode (mC M66) 9 = .ok (.invokespecial 11, 3) := by decide +kernel
theorem d66_12 : decode (mC M66) 12 = .ok (.putfield 12, 3) := by decide +kernel
theorem d66_15 : decode (mC M66) 15 = .ok (.aload_n 0, 1) := by decide +kernel
theorem d66_16 : decode (mC M66) 16 = .ok (.bipush 6, 2) := by decide +kernel
theorem d66_18 : decode (mC M66) 18 = .ok (.newarray .long, 2) := by decide +kernel
theorem d66_20 : decode (mC M66) 20 = .ok (.putfield 18, 3) := by decide +kernel
theorem d66_23 : decode (mC M66) 23 = .ok (.aload_n 0, 1) := by decide +kernel
theorem d66_24 : decode (mC M66) 24 = .ok (.bipush 10, 2) := by decide +kernel
theorem d66_26 : decode (mC M66) 26 = .ok (.newarray .long, 2) := by decide +kernel
theorem d66_28 : decode (mC M66) 28 = .ok (.putfield 22, 3) := by decide +kernel
theorem d66_31 : decode (mC M66) 31 = .ok (.aload_n 0, 1) := by decide +kernel
theorem d66_32 : decode (mC M66) 32 = .ok (.new 25, 3) := by decide +kernel
theorem d66_35 : decode (mC M66) 35 = .ok (.dup, 1) := by decide +kernel
theorem d66_36 : decode (mC M66) 36 = .ok (.invokespecial 27, 3) := by decide +kernel
theorem d66_39 : decode (mC M66) 39 = .ok (.putfield 28, 3) := by decide +kernel
theorem d66_42 : decode (mC M66) 42 = .ok (.return_, 1) := by decide +kernel
theorem sc66_0 : ∀ q ∈ tc66_0, Snd xtb M66 q.1 q.2 := List.forall_mem_cons.mpr ⟨snd_aload_n d66_0 rfl, List.forall_mem_cons.mpr ⟨snd_obj (by decide) (by decide) (List.forall_mem_cons.mpr ⟨wd146, List.forall_mem_cons.mpr ⟨wd139, List.forall_mem_cons.mpr ⟨wd140, fun _ h => by cases h⟩⟩⟩) d66_1, List.forall_mem_cons.mpr ⟨snd_aload_n d66_4 rfl, List.forall_mem_cons.mpr ⟨snd_new (by decide) (by decide +kernel) (List.forall_mem_cons.mpr ⟨wd147, List.forall_mem_cons.mpr ⟨wd148, List.forall_mem_cons.mpr ⟨wd114, fun _ h => by cases h⟩⟩⟩) d66_5, List.forall_mem_cons.mpr ⟨snd_dup d66_8, List.forall_mem_cons.mpr ⟨snd_callIN (host := "SalePlaces") (by decide) rfl rfl cn86 ⟨by decide +kernel, by decide +kernel⟩ cm86 cw86 (by decide +kernel) d66_9, List.forall_mem_cons.mpr ⟨snd_putRF (by decide) (by decide) rfl rfl rfl rfl wd376 d66_12, List.forall_mem_cons.mpr ⟨snd_aload_n d66_15 rfl, List.forall_mem_cons.mpr ⟨snd_bipush d66_16 (by decide +kernel), List.forall_mem_cons.mpr ⟨snd_newa (ty := .long) (k := 2) rfl (by decide +kernel) wd228 d66_18, List.forall_mem_cons.mpr ⟨snd_putRF (by decide) (by decide) rfl rfl rfl rfl wd378 d66_20, List.forall_mem_cons.mpr ⟨snd_aload_n d66_23 rfl, List.forall_mem_cons.mpr ⟨snd_bipush d66_24 (by decide +kernel), List.forall_mem_cons.mpr ⟨snd_newa (ty := .long) (k := 2) rfl (by decide +kernel) wd228 d66_26, List.forall_mem_cons.mpr ⟨snd_putRF (by decide) (by decide) rfl rfl rfl rfl wd379 d66_28, List.forall_mem_cons.mpr ⟨snd_aload_n d66_31 rfl, List.forall_mem_cons.mpr ⟨snd_new (by decide) (by decide +kernel) (List.forall_mem_cons.mpr ⟨wd184, List.forall_mem_cons.mpr ⟨wd185, List.forall_mem_cons.mpr ⟨wd115, fun _ h => by cases h⟩⟩⟩) d66_32, List.forall_mem_cons.mpr ⟨snd_dup d66_35, List.forall_mem_cons.mpr ⟨snd_callIN (host := "SalePlaces") (by decide) rfl rfl cn34 ⟨by decide +kernel, by decide +kernel⟩ cm34 cw34 (by decide +kernel) d66_36, List.forall_mem_cons.mpr ⟨snd_putR (by decide) (by decide) rfl rfl wd380 d66_39, List.forall_mem_cons.mpr ⟨snd_vret rfl d66_42, fun _ h => by cases h⟩⟩⟩⟩⟩⟩⟩⟩⟩⟩⟩⟩⟩⟩⟩⟩⟩⟩⟩⟩⟩
theorem d67_0 : decode (mC M67) 0 = .ok (.aload_n 0, 1) := by decide +kernel
theorem d67_1 : decode (mC M67) 1 = .ok (.iconst 0, 1) := by decide +kernel
theorem d67_2 : decode (mC M67) 2 = .ok (.putfield 32, 3) := by decide +kernel
theorem d67_5 : decode (mC M67) 5 = .ok (.aload_n 0, 1) := by decide +kernel
theorem d67_6 : decode (mC M67) 6 = .ok (.iconst 0, 1) := by decide +kernel
theorem d67_7 : decode (mC M67) 7 = .ok (.putfield 36, 3) := by decide +kernel
theorem d67_10 : decode (mC M67) 10 = .ok (.aload_n 0, 1) := by decide +kernel
theorem d67_11 : decode (mC M67) 11 = .ok (.getfield 12, 3) := by decide +kernel
theorem d67_14 : decode (mC M67) 14 = .ok (.iload_n 1, 1) := by decide +kernel
theorem d67_15 : decode (mC M67) 15 = .ok (.invokevirtual 40, 3) := by decide +kernel
theorem d67_18 : decode (mC M67) 18 = .ok (.iconst 0, 1) := by decide +kernel
theorem d67_19 : decode (mC M67) 19 = .ok (.istore_n 2, 1) := by decide +kernel
theorem d67_20 : decode (mC M67) 20 = .ok (.iload_n 2, 1) := by decide +kernel
theorem d67_21 : decode (mC M67) 21 = .ok (.sipush 1200, 3) := by decide +kernel
theorem d67_24 : decode (mC M67) 24 = .ok (.if_icmp .gt 74, 3) := by decide +kernel
theorem d67_27 : decode (mC M67) 27 = .ok (.aload_n 0, 1) := by decide +kernel
theorem d67_28 : decode (mC M67) 28 = .ok (.invokevirtual 44, 3) := by decide +kernel
theorem d67_31 : decode (mC M67) 31 = .ok (.ifCond .ne 5, 3) := by decide +kernel
theorem d67_34 : decode (mC M67) 34 = .ok (.iconst 0, 1) := by decide +kernel
theorem d67_35 : decode (mC M67) 35 = .ok (.ireturn, 1) := by decide +kernel
theorem d67_36 : decode (mC M67) 36 = .ok (.aload_n 0, 1) := by decide +kernel
theorem d67_37 : decode (mC M67) 37 = .ok (.getfield 12, 3) := by decide +kernel
theorem d67_40 : decode (mC M67) 40 = .ok (.getfield 48, 3) := by decide +kernel
theorem d67_43 : decode (mC M67) 43 = .ok (.ifCond .ne 25, 3) := by decide +kernel
theorem d67_46 : decode (mC M67) 46 = .ok (.aload_n 0, 1) := by decide +kernel
theorem d67_47 : decode (mC M67) 47 = .ok (.invokevirtual 51, 3) := by decide +kernel
theorem d67_50 : decode (mC M67) 50 = .ok (.ifCond .ne 12, 3) := by decide +kernel
theorem d67_53 : decode (mC M67) 53 = .ok (.aload_n 0, 1) := by decide +kernel
theorem d67_54 : decode (mC M67) 54 = .ok (.bipush 6, 2) := by decide +kernel
theorem d67_56 : decode (mC M67) 56 = .ok (.invokevirtual 54, 3) := by decide +kernel
theorem d67_59 : decode (mC M67) 59 = .ok (.ifCond .eq 7, 3) := by decide +kernel
theorem d67_62 : decode (mC M67) 62 = .ok (.iconst 1, 1) := by decide +kernel
theorem d67_63 : decode (mC M67) 63 = .ok (.goto 4, 3) := by decide +kernel
theorem d67_66 : decode (mC M67) 66 = .ok (.iconst 0, 1) := by decide +kernel
theorem d67_67 : decode (mC M67) 67 = .ok (.ireturn, 1) := by decide +kernel
theorem d67_68 : decode (mC M67) 68 = .ok (.aload_n 0, 1) := by decide +kernel
theorem d67_69 : decode (mC M67) 69 = .ok (.getfield 12, 3) := by decide +kernel
theorem d67_72 : decode (mC M67) 72 = .ok (.getfield 48, 3) := by decide +kernel
theorem d67_75 : decode (mC M67) 75 = .ok (.iconst 3, 1) := by decide +kernel
theorem d67_76 : decode (mC M67) 76 = .ok (.if_icmp .eq 9, 3) := by decide +kernel
theorem d67_79 : decode (mC M67) 79 = .ok (.aload_n 0, 1) := by decide +kernel
theorem d67_80 : decode (mC M67) 80 = .ok (.iconst 1, 1) := by decide +kernel
theorem d67_81 : decode (mC M67) 81 = .ok (.invokevirtual 54, 3) := by decide +kernel
theorem d67_84 : decode (mC M67) 84 = .ok (.ireturn, 1) := by decide +kernel
theorem d67_85 : decode (mC M67) 85 = .ok (.aload_n 0, 1) := by decide +kernel
theorem d67_86 : decode (mC M67) 86 = .ok (.getfield 12, 3) := by decide +kernel
theorem d67_89 : decode (mC M67) 89 = .ok (.invokevirtual 58, 3) := by decide +kernel
theorem d67_92 : decode (mC M67) 92 = .ok (.iinc 2 1, 3) := by decide +kernel
theorem d67_95 : decode (mC M67) 95 = .ok (.goto (-75), 3) := by decide +kernel
theorem d67_98 : decode (mC M67) 98 = .ok (.aload_n 0, 1) := by decide +kernel
theorem d67_99 : decode (mC M67) 99 = .ok (.iconst 1, 1) := by decide +kernel
theorem d67_100 : decode (mC M67) 100 = .ok (.invokevirtual 54, 3) := by decide +kernel
theorem d67_103 : decode (mC M67) 103 = .ok (.ireturn, 1) := by decide +kernel
theorem sc67_0 : ∀ q ∈ tc67_0, Snd xtb M67 q.1 q.2 := List.forall_mem_cons.mpr ⟨snd_aload_n d67_0 rfl, List.forall_mem_cons.mpr ⟨snd_iconst d67_1 (by decide +kernel), List.forall_mem_cons.mpr ⟨snd_putI (by decide) (by decide) rfl rfl wd383 d67_2, List.forall_mem_cons.mpr ⟨snd_aload_n d67_5 rfl, List.forall_mem_cons.mpr ⟨snd_iconst d67_6 (by decide +kernel), List.forall_mem_cons.mpr ⟨snd_putZ (by decide) (by decide) rfl rfl wd382 d67_7, List.forall_mem_cons.mpr ⟨snd_aload_n d67_10 rfl, List.forall_mem_cons.mpr ⟨snd_getR (by decide) (by decide) rfl wd376 d67_11, List.forall_mem_cons.mpr ⟨snd_iload_n d67_14 rfl, List.forall_mem_cons.mpr ⟨snd_callV (by decide) rfl cn88 ⟨by decide +kernel, by decide +kernel⟩ cm88 (List.forall_mem_cons.mpr ⟨wd577, cw88⟩) d67_15, List.forall_mem_cons.mpr ⟨snd_iconst d67_18 (by decide +kernel), List.forall_mem_cons.mpr ⟨snd_istore_n d67_19 rfl, List.forall_mem_cons.mpr ⟨snd_iload_n d67_20 rfl, List.forall_mem_cons.mpr ⟨snd_sipush d67_21 (by decide +kernel), List.forall_mem_cons.mpr ⟨snd_cmp_gt d67_24 (by decide), List.forall_mem_cons.mpr ⟨snd_aload_n d67_27 rfl, List.forall_mem_cons.mpr ⟨snd_callV (by decide) rfl cn71 ⟨by decide +kernel, by decide +kernel⟩ cm71 (List.forall_mem_cons.mpr ⟨wd594, cw71⟩) d67_28, List.forall_mem_cons.mpr ⟨snd_if_ne d67_31 (by decide), List.forall_mem_cons.mpr ⟨snd_iconst d67_34 (by decide +kernel), List.forall_mem_cons.mpr ⟨snd_zret rfl d67_35, List.forall_mem_cons.mpr ⟨snd_aload_n d67_36 rfl, List.forall_mem_cons.mpr ⟨snd_getR (by decide) (by decide) rfl wd376 d67_37, List.forall_mem_cons.mpr ⟨snd_getI (by decide) (by decide) rfl wd160 d67_40, List.forall_mem_cons.mpr ⟨snd_if_ne d67_43 (by decide), List.forall_mem_cons.mpr ⟨snd_aload_n d67_46 rfl, List.forall_mem_cons.mpr ⟨snd_callV (by decide) rfl cn68 ⟨by decide +kernel, by decide +kernel⟩ cm68 (List.forall_mem_cons.mpr ⟨wd805, cw68⟩) d67_47, List.forall_mem_cons.mpr ⟨snd_if_ne d67_50 (by decide), List.forall_mem_cons.mpr ⟨snd_aload_n d67_53 rfl, List.forall_mem_cons.mpr ⟨snd_bipush d67_54 (by decide +kernel), List.forall_mem_cons.mpr ⟨snd_callV (by decide) rfl cn69 ⟨by decide +kernel, by decide +kernel⟩ cm69 (List.forall_mem_cons.mpr ⟨wd651, cw69⟩) d67_56, fun _ h => by cases h⟩⟩⟩⟩⟩⟩⟩⟩⟩⟩⟩⟩⟩⟩⟩⟩⟩⟩⟩⟩⟩⟩⟩⟩⟩⟩⟩⟩⟩⟩
theorem sc67_1 : ∀ q ∈ tc67_1, Snd xtb M67 q.1 q.2 := List.forall_mem_cons.mpr ⟨snd_if_eq d67_59 (by decide), List.forall_mem_cons.mpr ⟨snd_iconst d67_62 (by decide +kernel), List.forall_mem_cons.mpr ⟨snd_goto d67_63 (by decide), List.forall_mem_cons.mpr ⟨snd_iconst d67_66 (by decide +kernel), List.forall_mem_cons.mpr ⟨snd_zret rfl d67_67, List.forall_mem_cons.mpr ⟨snd_aload_n d67_68 rfl, List.forall_mem_cons.mpr ⟨snd_getR (by decide) (by decide) rfl wd376 d67_69, List.forall_mem_cons.mpr ⟨snd_getI (by decide) (by decide) rfl wd160 d67_72, List.forall_mem_cons.mpr ⟨snd_iconst d67_75 (by decide +kernel), List.forall_mem_cons.mpr ⟨snd_cmp_eq d67_76 (by decide), List.forall_mem_cons.mpr ⟨snd_aload_n d67_79 rfl, List.forall_mem_cons.mpr ⟨snd_iconst d67_80 (by decide +kernel), List.forall_mem_cons.mpr ⟨snd_callV (by decide) rfl cn69 ⟨by decide +kernel, by decide +kernel⟩ cm69 (List.forall_mem_cons.mpr ⟨wd651, cw69⟩) d67_81, List.forall_mem_cons.mpr ⟨snd_zret rfl d67_84, List.forall_mem_cons.mpr ⟨snd_aload_n d67_85 rfl, List.forall_mem_cons.mpr ⟨snd_getR (by decide) (by decide) rfl wd376 d67_86, List.forall_mem_cons.mpr ⟨snd_callV (by decide) rfl cn89 ⟨by decide +kernel, by decide +kernel⟩ cm89 (List.forall_mem_cons.mpr ⟨wd663, cw89⟩) d67_89, List.forall_mem_cons.mpr ⟨snd_iinc d67_92 (by decide +kernel), List.forall_mem_cons.mpr ⟨snd_goto d67_95 (by decide), List.forall_mem_cons.mpr ⟨snd_aload_n d67_98 rfl, List.forall_mem_cons.mpr ⟨snd_iconst d67_99 (by decide +kernel), List.forall_mem_cons.mpr ⟨snd_callV (by decide) rfl cn69 ⟨by decide +kernel, by decide +kernel⟩ cm69 (List.forall_mem_cons.mpr ⟨wd651, cw69⟩) d67_100, List.forall_mem_cons.mpr ⟨snd_zret rfl d67_103, fun _ h => by cases h⟩⟩⟩⟩⟩⟩⟩⟩⟩⟩⟩⟩⟩⟩⟩⟩⟩⟩⟩⟩⟩⟩⟩
theorem d68_0 : decode (mC M68) 0 = .ok (.aload_n 0, 1) := by decide +kernel
theorem d68_1 : decode (mC M68) 1 = .ok (.getfield 28, 3) := by decide +kernel
theorem d68_4 : decode (mC M68) 4 = .ok (.getfield 61, 3) := by decide +kernel
theorem d68_7 : decode (mC M68) 7 = .ok (.getfield 65, 3) := by decide +kernel
theorem d68_10 : decode (mC M68) 10 = .ok (.ifCond .le 20, 3) := by decide +kernel
theorem d68_13 : decode (mC M68) 13 = .ok (.aload_n 0, 1) := by decide +kernel
theorem d68_14 : decode (mC M68) 14 = .ok (.getfield 28, 3) := by decide +kernel
theorem d68_17 : decode (mC M68) 17 = .ok (.getfield 70, 3) := by decide +kernel
theorem d68_20 : decode (mC M68) 20 = .ok (.getfield 74, 3) := by decide +kernel
theorem d68_23 : decode (mC M68) 23 = .ok (.ifCond .le 7, 3) := by decide +kernel
theorem d68_26 : decode (mC M68) 26 = .ok (.iconst 1, 1) := by decide +kernel
theorem d68_27 : decode (mC M68) 27 = .ok (.goto 4, 3) := by decide +kernel
theorem d68_30 : decode (mC M68) 30 = .ok (.iconst 0, 1) := by decide +kernel
theorem d68_31 : decode (mC M68) 31 = .ok (.ireturn, 1) := by decide +kernel
theorem sc68_0 : ∀ q ∈ tc68_0, Snd xtb M68 q.1 q.2 := List.forall_mem_cons.mpr ⟨snd_aload_n d68_0 rfl, List.forall_mem_cons.mpr ⟨snd_getR (by decide) (by decide) rfl wd380 d68_1, List.forall_mem_cons.mpr ⟨snd_getR (by decide) (by decide) rfl wd366 d68_4, List.forall_mem_cons.mpr ⟨snd_getI (by decide) (by decide) rfl wd312 d68_7, List.forall_mem_cons.mpr ⟨snd_if_le d68_10 (by decide), List.forall_mem_cons.mpr ⟨snd_aload_n d68_13 rfl, List.forall_mem_cons.mpr ⟨snd_getR (by decide) (by decide) rfl wd380 d68_14, List.forall_mem_cons.mpr ⟨snd_getR (by decide) (by decide) rfl wd363 d68_17, List.forall_mem_cons.mpr ⟨snd_getI (by decide) (by decide) rfl wd240 d68_20, List.forall_mem_cons.mpr ⟨snd_if_le d68_23 (by decide), List.forall_mem_cons.mpr ⟨snd_iconst d68_26 (by decide +kernel), List.forall_mem_cons.mpr ⟨snd_goto d68_27 (by decide), List.forall_mem_cons.mpr ⟨snd_iconst d68_30 (by decide +kernel), List.forall_mem_cons.mpr ⟨snd_zret rfl d68_31, fun _ h => by cases h⟩⟩⟩⟩⟩⟩⟩⟩⟩⟩⟩⟩⟩⟩
theorem d69_0 : decode (mC M69) 0 = .ok (.aload_n 0, 1) := by decide +kernel
theorem d69_1 : decode (mC M69) 1 = .ok (.iload_n 1, 1) := by decide +kernel
theorem d69_2 : decode (mC M69) 2 = .ok (.aload_n 0, 1) := by decide +kernel
theorem d69_3 : decode (mC M69) 3 = .ok (.getfield 12, 3) := by decide +kernel
theorem d69_6 : decode (mC M69) 6 = .ok (.getfield 79, 3) := by decide +kernel
theorem d69_9 : decode (mC M69) 9 = .ok (.invokevirtual 82, 3) := by decide +kernel
theorem d69_12 : decode (mC M69) 12 = .ok (.ireturn, 1) := by decide +kernel
theorem sc69_0 : ∀ q ∈ tc69_0, Snd xtb M69 q.1 q.2 := List.forall_mem_cons.mpr ⟨snd_aload_n d69_0 rfl, List.forall_mem_cons.mpr ⟨snd_iload_n d69_1 rfl, List.forall_mem_cons.mpr ⟨snd_aload_n d69_2 rfl, List.forall_mem_cons.mpr ⟨snd_getR (by decide) (by decide) rfl wd376 d69_3, List.forall_mem_cons.mpr ⟨snd_getI (by decide) (by decide) rfl wd158 d69_6, List.forall_mem_cons.mpr ⟨snd_callV (by decide) rfl cn70 ⟨by decide +kernel, by decide +kernel⟩ cm70 (List.forall_mem_cons.mpr ⟨wd655, cw70⟩) d69_9, List.forall_mem_cons.mpr ⟨snd_zret rfl d69_12, fun _ h => by cases h⟩⟩⟩⟩⟩⟩⟩
theorem d70_0 : decode (mC M70) 0 = .ok (.aload_n 0, 1) := by decide +kernel
theorem d70_1 : decode (mC M70) 1 = .ok (.iload_n 1, 1) := by decide +kernel
theorem d70_2 : decode (mC M70) 2 = .ok (.putfield 32, 3) := by decide +kernel
theorem d70_5 : decode (mC M70) 5 = .ok (.aload_n 0, 1) := by decide +kernel
theorem d70_6 : decode (mC M70) 6 = .ok (.iload_n 2, 1) := by decide +kernel
theorem d70_7 : decode (mC M70) 7 = .ok (.putfield 86, 3) := by decide +kernel
theorem d70_10 : decode (mC M70) 10 = .ok (.iconst 0, 1) := by decide +kernel
theorem d70_11 : decode (mC M70) 11 = .ok (.ireturn, 1) := by decide +kernel
theorem sc70_0 : ∀ q ∈ tc70_0, Snd xtb M70 q.1 q.2 := List.forall_mem_cons.mpr ⟨snd_aload_n d70_0 rfl, List.forall_mem_cons.mpr ⟨snd_iload_n d70_1 rfl, List.forall_mem_cons.mpr ⟨snd_putI (by decide) (by decide) rfl rfl wd383 d70_2, List.forall_mem_cons.mpr ⟨snd_aload_n d70_5 rfl, List.forall_mem_cons.mpr ⟨snd_iload_n d70_6 rfl, List.forall_mem_cons.mpr ⟨snd_putI (by decide) (by decide) rfl rfl wd385 d70_7, List.forall_mem_cons.mpr ⟨snd_iconst d70_10 (by decide +kernel), List.forall_mem_cons.mpr ⟨snd_zret rfl d70_11, fun _ h => by cases h⟩⟩⟩⟩⟩⟩⟩⟩
theorem d71_0 : decode (mC M71) 0 = .ok (.aload_n 0, 1) := by decide +kernel
theorem d71_1 : decode (mC M71) 1 = .ok (.getfield 28, 3) := by decide +kernel
theorem d71_4 : decode (mC M71) 4 = .ok (.getfield 61, 3) := by decide +kernel
theorem d71_7 : decode (mC M71) 7 = .ok (.astore_n 1, 1) := by decide +kernel
theorem d71_8 : decode (mC M71) 8 = .ok (.aload_n 0, 1) := by decide +kernel
theorem d71_9 : decode (mC M71) 9 = .ok (.getfield 12, 3) := by decide +kernel
theorem d71_12 : decode (mC M71) 12 = .ok (.ldc 89, 2) := by decide +kernel
theorem d71_14 : decode (mC M71) 14 = .ok (.invokevirtual 90, 3) := by decide +kernel
theorem d71_17 : decode (mC M71) 17 = .ok (.ifCond .eq 23, 3) := by decide +kernel
theorem d71_20 : decode (mC M71) 20 = .ok (.aload_n 0, 1) := by decide +kernel
theorem d71_21 : decode (mC M71) 21 = .ok (.getfield 36, 3) := by decide +kernel
theorem d71_24 : decode (mC M71) 24 = .ok (.ifCond .eq 11, 3) := by decide +kernel
theorem d71_27 : decode (mC M71) 27 = .ok (.aload_n 0, 1) := by decide +kernel
theorem d71_28 : decode (mC M71) 28 = .ok (.iconst 3, 1) := by decide +kernel
theorem d71_29 : decode (mC M71) 29 = .ok (.invokevirtual 54, 3) := by decide +kernel
theorem d71_32 : decode (mC M71) 32 = .ok (.goto 7, 3) := by decide +kernel
theorem d71_35 : decode (mC M71) 35 = .ok (.aload_n 0, 1) := by decide +kernel
theorem d71_36 : decode (mC M71) 36 = .ok (.invokevirtual 94, 3) := by decide +kernel
theorem d71_39 : decode (mC M71) 39 = .ok (.ireturn, 1) := by decide +kernel
theorem d71_40 : decode (mC M71) 40 = .ok (.aload_n 0, 1) := by decide +kernel
theorem d71_41 : decode (mC M71) 41 = .ok (.getfield 12, 3) := by decide +kernel
theorem d71_44 : decode (mC M71) 44 = .ok (.ldc 97, 2) := by decide +kernel
theorem d71_46 : decode (mC M71) 46 = .ok (.invokevirtual 90, 3) := by decide +kernel
theorem d71_49 : decode (mC M71) 49 = .ok (.ifCond .eq 29, 3) := by decide +kernel
theorem d71_52 : decode (mC M71) 52 = .ok (.aload_n 0, 1) := by decide +kernel
theorem d71_53 : decode (mC M71) 53 = .ok (.aload_n 1, 1) := by decide +kernel
theorem d71_54 : decode (mC M71) 54 = .ok (.getfield 65, 3) := by decide +kernel
theorem d71_57 : decode (mC M71) 57 = .ok (.bipush 6, 2) := by decide +kernel
theorem d71_59 : decode (mC M71) 59 = .ok (.invokevirtual 99, 3) := by decide +kernel
theorem d71_62 : decode (mC M71) 62 = .ok (.ifCond .eq 14, 3) := by decide +kernel
theorem d71_65 : decode (mC M71) 65 = .ok (.aload_n 0, 1) := by decide +kernel
theorem d71_66 : decode (mC M71) 66 = .ok (.invokevirtual 102, 3) := by decide +kernel
theorem d71_69 : decode (mC M71) 69 = .ok (.ifCond .eq 7, 3) := by decide +kernel
theorem d71_72 : decode (mC M71) 72 = .ok (.iconst 1, 1) := by decide +kernel
theorem d71_73 : decode (mC M71) 73 = .ok (.goto 4, 3) := by decide +kernel
theorem d71_76 : decode (mC M71) 76 = .ok (.iconst 0, 1) := by decide +kernel
theorem d71_77 : decode (mC M71) 77 = .ok (.ireturn, 1) := by decide +kernel
theorem d71_78 : decode (mC M71) 78 = .ok (.aload_n 0, 1) := by decide +kernel
theorem d71_79 : decode (mC M71) 79 = .ok (.getfield 12, 3) := by decide +kernel
theorem d71_82 : decode (mC M71) 82 = .ok (.ldc 105, 2) := by decide +kernel
theorem d71_84 : decode (mC M71) 84 = .ok (.invokevirtual 90, 3) := by decide +kernel
theorem d71_87 : decode (mC M71) 87 = .ok (.ifCond .eq 35, 3) := by decide +kernel
theorem d71_90 : decode (mC M71) 90 = .ok (.aload_n 0, 1) := by decide +kernel
theorem d71_91 : decode (mC M71) 91 = .ok (.aload_n 0, 1) := by decide +kernel
theorem d71_92 : decode (mC M71) 92 = .ok (.getfield 28, 3) := by decide +kernel
theorem d71_95 : decode (mC M71) 95 = .ok (.getfield 70, 3) := by decide +kernel
theorem d71_98 : decode (mC M71) 98 = .ok (.getfield 74, 3) := by decide +kernel
theorem d71_101 : decode (mC M71) 101 = .ok (.bipush 10, 2) := by decide +kernel
theorem d71_103 : decode (mC M71) 103 = .ok (.invokevirtual 99, 3) := by decide +kernel
theorem d71_106 : decode (mC M71) 106 = .ok (.ifCond .eq 14, 3) := by decide +kernel
theorem d71_109 : decode (mC M71) 109 = .ok (.aload_n 0, 1) := by decide +kernel
theorem d71_110 : decode (mC M71) 110 = .ok (.invokevirtual 107, 3) := by decide +kernel
theorem d71_113 : decode (mC M71) 113 = .ok (.ifCond .eq 7, 3) := by decide +kernel
theorem d71_116 : decode (mC M71) 116 = .ok (.iconst 1, 1) := by decide +kernel
theorem d71_117 : decode (mC M71) 117 = .ok (.goto 4, 3) := by decide +kernel
theorem d71_120 : decode (mC M71) 120 = .ok (.iconst 0, 1) := by decide +kernel
theorem d71_121 : decode (mC M71) 121 = .ok (.ireturn, 1) := by decide +kernel
theorem d71_122 : decode (mC M71) 122 = .ok (.aload_n 0, 1) := by decide +kernel
theorem d71_123 : decode (mC M71) 123 = .ok (.getfield 12, 3) := by decide +kernel
theorem d71_126 : decode (mC M71) 126 = .ok (.ldc 110, 2) := by decide +kernel
theorem d71_128 : decode (mC M71) 128 = .ok (.invokevirtual 90, 3) := by decide +kernel
theorem d71_131 : decode (mC M71) 131 = .ok (.ifCond .eq 38, 3) := by decide +kernel
theorem d71_134 : decode (mC M71) 134 = .ok (.aload_n 0, 1) := by decide +kernel
theorem d71_135 : decode (mC M71) 135 = .ok (.aload_n 0, 1) := by decide +kernel
theorem d71_136 : decode (mC M71) 136 = .ok (.getfield 28, 3) := by decide +kernel
theorem d71_139 : decode (mC M71) 139 = .ok (.getfield 70, 3) := by decide +kernel
theorem d71_142 : decode (mC M71) 142 = .ok (.getfield 112, 3) := by decide +kernel
theorem d71_145 : decode (mC M71) 145 = .ok (.getfield 116, 3) := by decide +kernel
theorem d71_148 : decode (mC M71) 148 = .ok (.bipush 16, 2) := by decide +kernel
theorem d71_150 : decode (mC M71) 150 = .ok (.invokevirtual 99, 3) := by decide +kernel
theorem d71_153 : decode (mC M71) 153 = .ok (.ifCond .eq 14, 3) := by decide +kernel
theorem d71_156 : decode (mC M71) 156 = .ok (.aload_n 0, 1) := by decide +kernel
theorem d71_157 : decode (mC M71) 157 = .ok (.invokevirtual 121, 3) := by decide +kernel
theorem d71_160 : decode (mC M71) 160 = .ok (.ifCond .eq 7, 3) := by decide +kernel
theorem d71_163 : decode (mC M71) 163 = .ok (.iconst 1, 1) := by decide +kernel
theorem d71_164 : decode (mC M71) 164 = .ok (.goto 4, 3) := by decide +kernel
theorem d71_167 : decode (mC M71) 167 = .ok (.iconst 0, 1) := by decide +kernel
theorem d71_168 : decode (mC M71) 168 = .ok (.ireturn, 1) := by decide +kernel
theorem d71_169 : decode (mC M71) 169 = .ok (.aload_n 0, 1) := by decide +kernel
theorem d71_170 : decode (mC M71) 170 = .ok (.getfield 12, 3) := by decide +kernel
theorem d71_173 : decode (mC M71) 173 = .ok (.ldc 124, 2) := by decide +kernel
theorem d71_175 : decode (mC M71) 175 = .ok (.invokevirtual 90, 3) := by decide +kernel
theorem d71_178 : decode (mC M71) 178 = .ok (.ifCond .eq 32, 3) := by decide +kernel
theorem d71_181 : decode (mC M71) 181 = .ok (.aload_n 0, 1) := by decide +kernel
theorem d71_182 : decode (mC M71) 182 = .ok (.aload_n 1, 1) := by decide +kernel
theorem d71_183 : decode (mC M71) 183 = .ok (.getfield 126, 3) := by decide +kernel
theorem d71_186 : decode (mC M71) 186 = .ok (.getfield 130, 3) := by decide +kernel
theorem d71_189 : decode (mC M71) 189 = .ok (.bipush 20, 2) := by decide +kernel
theorem d71_191 : decode (mC M71) 191 = .ok (.invokevirtual 99, 3) := by decide +kernel
theorem d71_194 : decode (mC M71) 194 = .ok (.ifCond .eq 14, 3) := by decide +kernel
theorem d71_197 : decode (mC M71) 197 = .ok (.aload_n 0, 1) := by decide +kernel
theorem d71_198 : decode (mC M71) 198 = .ok (.invokevirtual 133, 3) := by decide +kernel
theorem d71_201 : decode (mC M71) 201 = .ok (.ifCond .eq 7, 3) := by decide +kernel
theorem d71_204 : decode (mC M71) 204 = .ok (.iconst 1, 1) := by decide +kernel
theorem d71_205 : decode (mC M71) 205 = .ok (.goto 4, 3) := by decide +kernel
theorem d71_208 : decode (mC M71) 208 = .ok (.iconst 0, 1) := by decide +kernel
theorem d71_209 : decode (mC M71) 209 = .ok (.ireturn, 1) := by decide +kernel
theorem d71_210 : decode (mC M71) 210 = .ok (.aload_n 0, 1) := by decide +kernel
theorem d71_211 : decode (mC M71) 211 = .ok (.getfield 12, 3) := by decide +kernel
theorem d71_214 : decode (mC M71) 214 = .ok (.ldc 136, 2) := by decide +kernel
theorem d71_216 : decode (mC M71) 216 = .ok (.invokevirtual 90, 3) := by decide +kernel
theorem d71_219 : decode (mC M71) 219 = .ok (.ifCond .eq 29, 3) := by decide +kernel
theorem d71_222 : decode (mC M71) 222 = .ok (.aload_n 0, 1) := by decide +kernel
theorem d71_223 : decode (mC M71) 223 = .ok (.aload_n 1, 1) := by decide +kernel
theorem d71_224 : decode (mC M71) 224 = .ok (.getfield 138, 3) := by decide +kernel
theorem d71_227 : decode (mC M71) 227 = .ok (.bipush 6, 2) := by decide +kernel
theorem d71_229 : decode (mC M71) 229 = .ok (.invokevirtual 99, 3) := by decide +kernel
theorem d71_232 : decode (mC M71) 232 = .ok (.ifCond .eq 14, 3) := by decide +kernel
theorem d71_235 : decode (mC M71) 235 = .ok (.aload_n 0, 1) := by decide +kernel
theorem d71_236 : decode (mC M71) 236 = .ok (.invokevirtual 141, 3) := by decide +kernel
theorem d71_239 : decode (mC M71) 239 = .ok (.ifCond .eq 7, 3) := by decide +kernel
theorem d71_242 : decode (mC M71) 242 = .ok (.iconst 1, 1) := by decide +kernel
theorem d71_243 : decode (mC M71) 243 = .ok (.goto 4, 3) := by decide +kernel
theorem d71_246 : decode (mC M71) 246 = .ok (.iconst 0, 1) := by decide +kernel
theorem d71_247 : decode (mC M71) 247 = .ok (.ireturn, 1) := by decide +kernel
theorem d71_248 : decode (mC M71) 248 = .ok (.aload_n 0, 1) := by decide +kernel
theorem d71_249 : decode (mC M71) 249 = .ok (.getfield 12, 3) := by decide +kernel
theorem d71_252 : decode (mC M71) 252 = .ok (.ldc 144, 2) := by decide +kernel
theorem d71_254 : decode (mC M71) 254 = .ok (.invokevirtual 90, 3) := by decide +kernel
theorem d71_257 : decode (mC M71) 257 = .ok (.ifCond .eq 29, 3) := by decide +kernel
theorem d71_260 : decode (mC M71) 260 = .ok (.aload_n 0, 1) := by decide +kernel
theorem d71_261 : decode (mC M71) 261 = .ok (.aload_n 1, 1) := by decide +kernel
theorem d71_262 : decode (mC M71) 262 = .ok (.getfield 146, 3) := by decide +kernel
theorem d71_265 : decode (mC M71) 265 = .ok (.bipush 6, 2) := by decide +kernel
theorem d71_267 : decode (mC M71) 267 = .ok (.invokevirtual 99, 3) := by decide +kernel
theorem d71_270 : decode (mC M71) 270 = .ok (.ifCond .eq 14, 3) := by decide +kernel
theorem d71_273 : decode (mC M71) 273 = .ok (.aload_n 0, 1) := by decide +kernel
theorem d71_274 : decode (mC M71) 274 = .ok (.invokevirtual 149, 3) := by decide +kernel
theorem d71_277 : decode (mC M71) 277 = .ok (.ifCond .eq 7, 3) := by decide +kernel
theorem d71_280 : decode (mC M71) 280 = .ok (.iconst 1, 1) := by decide +kernel
theorem d71_281 : decode (mC M71) 281 = .ok (.goto 4, 3) := by decide +kernel
theorem d71_284 : decode (mC M71) 284 = .ok (.iconst 0, 1) := by decide +kernel
theorem d71_285 : decode (mC M71) 285 = .ok (.ireturn, 1) := by decide +kernel
theorem d71_286 : decode (mC M71) 286 = .ok (.aload_n 0, 1) := by decide +kernel
theorem d71_287 : decode (mC M71) 287 = .ok (.iconst 1, 1) := by decide +kernel
theorem d71_288 : decode (mC M71) 288 = .ok (.invokevirtual 54, 3) := by decide +kernel
theorem d71_291 : decode (mC M71) 291 = .ok (.ireturn, 1) := by decide +kernel
theorem sc71_0 : ∀ q ∈ tc71_0, Snd xtb M71 q.1 q.2 := List.forall_mem_cons.mpr ⟨snd_aload_n d71_0 rfl, List.forall_mem_cons.mpr ⟨snd_getR (by decide) (by decide) rfl wd380 d71_1, List.forall_mem_cons.mpr ⟨snd_getR (by decide) (by decide) rfl wd366 d71_4, List.forall_mem_cons.mpr ⟨snd_astore_n d71_7 rfl, List.forall_mem_cons.mpr ⟨snd_aload_n d71_8 rfl, List.forall_mem_cons.mpr ⟨snd_getR (by decide) (by decide) rfl wd376 d71_9, List.forall_mem_cons.mpr ⟨snd_ldcS (tx := "desk") d71_12 (by decide +kernel), List.forall_mem_cons.mpr ⟨snd_callV (by decide) rfl cn92 ⟨by decide +kernel, by decide +kernel⟩ cm92 (List.forall_mem_cons.mpr ⟨wd599, cw92⟩) d71_14, List.forall_mem_cons.mpr ⟨snd_if_eq d71_17 (by decide), List.forall_mem_cons.mpr ⟨snd_aload_n d71_20 rfl, List.forall_mem_cons.mpr ⟨snd_getI (by decide) (by decide) rfl wd382 d71_21, List.forall_mem_cons.mpr ⟨snd_if_eq d71_24 (by decide), List.forall_mem_cons.mpr ⟨snd_aload_n d71_27 rfl, List.forall_mem_cons.mpr ⟨snd_iconst d71_28 (by decide +kernel), List.forall_mem_cons.mpr ⟨snd_callV (by decide) rfl cn69 ⟨by decide +kernel, by decide +kernel⟩ cm69 (List.forall_mem_cons.mpr ⟨wd651, cw69⟩) d71_29, List.forall_mem_cons.mpr ⟨snd_goto d71_32 (by decide), List.forall_mem_cons.mpr ⟨snd_aload_n d71_35 rfl, List.forall_mem_cons.mpr ⟨snd_callV (by decide) rfl cn73 ⟨by decide +kernel, by decide +kernel⟩ cm73 (List.forall_mem_cons.mpr ⟨wd659, cw73⟩) d71_36, List.forall_mem_cons.mpr ⟨snd_zret rfl d71_39, List.forall_mem_cons.mpr ⟨snd_aload_n d71_40 rfl, List.forall_mem_cons.mpr ⟨snd_getR (by decide) (by decide) rfl wd376 d71_41, List.forall_mem_cons.mpr ⟨snd_ldcS (tx := "class") d71_44 (by decide +kernel), List.forall_mem_cons.mpr ⟨snd_callV (by decide) rfl cn92 ⟨by decide +kernel, by decide +kernel⟩ cm92 (List.forall_mem_cons.mpr ⟨wd599, cw92⟩) d71_46, List.forall_mem_cons.mpr ⟨snd_if_eq d71_49 (by decide), List.forall_mem_cons.mpr ⟨snd_aload_n d71_52 rfl, List.forall_mem_cons.mpr ⟨snd_aload_n d71_53 rfl, List.forall_mem_cons.mpr ⟨snd_getI (by decide) (by decide) rfl wd312 d71_54, List.forall_mem_cons.mpr ⟨snd_bipush d71_57 (by decide +kernel), List.forall_mem_cons.mpr ⟨snd_callV (by decide) rfl cn72 ⟨by decide +kernel, by decide +kernel⟩ cm72 (List.forall_mem_cons.mpr ⟨wd688, cw72⟩) d71_59, List.forall_mem_cons.mpr ⟨snd_if_eq d71_62 (by decide), fun _ h => by cases h⟩⟩⟩⟩⟩⟩⟩⟩⟩⟩⟩⟩⟩⟩⟩⟩⟩⟩⟩⟩⟩⟩⟩⟩⟩⟩⟩⟩⟩⟩
theorem sc71_1 : ∀ q ∈ tc71_1, Snd xtb M71 q.1 q.2 := List.forall_mem_cons.mpr ⟨snd_aload_n d71_65 rfl, List.forall_mem_cons.mpr ⟨snd_callV (by decide) rfl cn74 ⟨by decide +kernel, by decide +kernel⟩ cm74 (List.forall_mem_cons.mpr ⟨wd692, cw74⟩) d71_66, List.forall_mem_cons.mpr ⟨snd_if_eq d71_69 (by decide), List.forall_mem_cons.mpr ⟨snd_iconst d71_72 (by decide +kernel), List.forall_mem_cons.mpr ⟨snd_goto d71_73 (by decide), List.forall_mem_cons.mpr ⟨snd_iconst d71_76 (by decide +kernel), List.forall_mem_cons.mpr ⟨snd_zret rfl d71_77, List.forall_mem_cons.mpr ⟨snd_aload_n d71_78 rfl, List.forall_mem_cons.mpr ⟨snd_getR (by decide) (by decide) rfl wd376 d71_79, List.forall_mem_cons.mpr ⟨snd_ldcS (tx := "place") d71_82 (by decide +kernel), List.forall_mem_cons.mpr ⟨snd_callV (by decide) rfl cn92 ⟨by decide +kernel, by decide +kernel⟩ cm92 (List.forall_mem_cons.mpr ⟨wd599, cw92⟩) d71_84, List.forall_mem_cons.mpr ⟨snd_if_eq d71_87 (by decide), List.forall_mem_cons.mpr ⟨snd_aload_n d71_90 rfl, List.forall_mem_cons.mpr ⟨snd_aload_n d71_91 rfl, List.forall_mem_cons.mpr ⟨snd_getR (by decide) (by decide) rfl wd380 d71_92, List.forall_mem_cons.mpr ⟨snd_getR (by decide) (by decide) rfl wd363 d71_95, List.forall_mem_cons.mpr ⟨snd_getI (by decide) (by decide) rfl wd240 d71_98, List.forall_mem_cons.mpr ⟨snd_bipush d71_101 (by decide +kernel), List.forall_mem_cons.mpr ⟨snd_callV (by decide) rfl cn72 ⟨by decide +kernel, by decide +kernel⟩ cm72 (List.forall_mem_cons.mpr ⟨wd688, cw72⟩) d71_103, List.forall_mem_cons.mpr ⟨snd_if_eq d71_106 (by decide), List.forall_mem_cons.mpr ⟨snd_aload_n d71_109 rfl, List.forall_mem_cons.mpr ⟨snd_callV (by decide) rfl cn75 ⟨by decide +kernel, by decide +kernel⟩ cm75 (List.forall_mem_cons.mpr ⟨wd729, cw75⟩) d71_110, List.forall_mem_cons.mpr ⟨snd_if_eq d71_113 (by decide), List.forall_mem_cons.mpr ⟨snd_iconst d71_116 (by decide +kernel), List.forall_mem_cons.mpr ⟨snd_goto d71_117 (by decide), List.forall_mem_cons.mpr ⟨snd_iconst d71_120 (by decide +kernel), List.forall_mem_cons.mpr ⟨snd_zret rfl d71_121, List.forall_mem_cons.mpr ⟨snd_aload_n d71_122 rfl, List.forall_mem_cons.mpr ⟨snd_getR (by decide) (by decide) rfl wd376 d71_123, List.forall_mem_cons.mpr ⟨snd_ldcS (tx := "bound") d71_126 (by decide +kernel), fun _ h => by cases h⟩⟩⟩⟩⟩⟩⟩⟩⟩⟩⟩⟩⟩⟩⟩⟩⟩⟩⟩⟩⟩⟩⟩⟩⟩⟩⟩⟩⟩⟩
theorem sc71_2 : ∀ q ∈ tc71_2, Snd xtb M71 q.1 q.2 := List.forall_mem_cons.mpr ⟨snd_callV (by decide) rfl cn92 ⟨by decide +kernel, by decide +kernel⟩ cm92 (List.forall_mem_cons.mpr ⟨wd599, cw92⟩) d71_128, List.forall_mem_cons.mpr ⟨snd_if_eq d71_131 (by decide), List.forall_mem_cons.mpr ⟨snd_aload_n d71_134 rfl, List.forall_mem_cons.mpr ⟨snd_aload_n d71_135 rfl, List.forall_mem_cons.mpr ⟨snd_getR (by decide) (by decide) rfl wd380 d71_136, List.forall_mem_cons.mpr ⟨snd_getR (by decide) (by decide) rfl wd363 d71_139, List.forall_mem_cons.mpr ⟨snd_getR (by decide) (by decide) rfl wd249 d71_142, List.forall_mem_cons.mpr ⟨snd_getI (by decide) (by decide) rfl wd205 d71_145, List.forall_mem_cons.mpr ⟨snd_bipush d71_148 (by decide +kernel), List.forall_mem_cons.mpr ⟨snd_callV (by decide) rfl cn72 ⟨by decide +kernel, by decide +kernel⟩ cm72 (List.forall_mem_cons.mpr ⟨wd688, cw72⟩) d71_150, List.forall_mem_cons.mpr ⟨snd_if_eq d71_153 (by decide), List.forall_mem_cons.mpr ⟨snd_aload_n d71_156 rfl, List.forall_mem_cons.mpr ⟨snd_callV (by decide) rfl cn76 ⟨by decide +kernel, by decide +kernel⟩ cm76 (List.forall_mem_cons.mpr ⟨wd740, cw76⟩) d71_157, List.forall_mem_cons.mpr ⟨snd_if_eq d71_160 (by decide), List.forall_mem_cons.mpr ⟨snd_iconst d71_163 (by decide +kernel), List.forall_mem_cons.mpr ⟨snd_goto d71_164 (by decide), List.forall_mem_cons.mpr ⟨snd_iconst d71_167 (by decide +kernel), List.forall_mem_cons.mpr ⟨snd_zret rfl d71_168, List.forall_mem_cons.mpr ⟨snd_aload_n d71_169 rfl, List.forall_mem_cons.mpr ⟨snd_getR (by decide) (by decide) rfl wd376 d71_170, List.forall_mem_cons.mpr ⟨snd_ldcS (tx := "rate") d71_173 (by decide +kernel), List.forall_mem_cons.mpr ⟨snd_callV (by decide) rfl cn92 ⟨by decide +kernel, by decide +kernel⟩ cm92 (List.forall_mem_cons.mpr ⟨wd599, cw92⟩) d71_175, List.forall_mem_cons.mpr ⟨snd_if_eq d71_178 (by decide), List.forall_mem_cons.mpr ⟨snd_aload_n d71_181 rfl, List.forall_mem_cons.mpr ⟨snd_aload_n d71_182 rfl, List.forall_mem_cons.mpr ⟨snd_getR (by decide) (by decide) rfl wd319 d71_183, List.forall_mem_cons.mpr ⟨snd_getI (by decide) (by decide) rfl wd292 d71_186, List.forall_mem_cons.mpr ⟨snd_bipush d71_189 (by decide +kernel), List.forall_mem_cons.mpr ⟨snd_callV (by decide) rfl cn72 ⟨by decide +kernel, by decide +kernel⟩ cm72 (List.forall_mem_cons.mpr ⟨wd688, cw72⟩) d71_191, List.forall_mem_cons.mpr ⟨snd_if_eq d71_194 (by decide), fun _ h => by cases h⟩⟩⟩⟩⟩⟩⟩⟩⟩⟩⟩⟩⟩⟩⟩⟩⟩⟩⟩⟩⟩⟩⟩⟩⟩⟩⟩⟩⟩⟩
theorem sc71_3 : ∀ q ∈ tc71_3, Snd xtb M71 q.1 q.2 := List.forall_mem_cons.mpr ⟨snd_aload_n d71_197 rfl, List.forall_mem_cons.mpr ⟨snd_callV (by decide) rfl cn78 ⟨by decide +kernel, by decide +kernel⟩ cm78 (List.forall_mem_cons.mpr ⟨wd766, cw78⟩) d71_198, List.forall_mem_cons.mpr ⟨snd_if_eq d71_201 (by decide), List.forall_mem_cons.mpr ⟨snd_iconst d71_204 (by decide +kernel), List.forall_mem_cons.mpr ⟨snd_goto d71_205 (by decide), List.forall_mem_cons.mpr ⟨snd_iconst d71_208 (by decide +kernel), List.forall_mem_cons.mpr ⟨snd_zret rfl d71_209, List.forall_mem_cons.mpr ⟨snd_aload_n d71_210 rfl, List.forall_mem_cons.mpr ⟨snd_getR (by decide) (by decide) rfl wd376 d71_211, List.forall_mem_cons.mpr ⟨snd_ldcS (tx := "holiday") d71_214 (by decide +kernel), List.forall_mem_cons.mpr ⟨snd_callV (by decide) rfl cn92 ⟨by decide +kernel, by decide +kernel⟩ cm92 (List.forall_mem_cons.mpr ⟨wd599, cw92⟩) d71_216, List.forall_mem_cons.mpr ⟨snd_if_eq d71_219 (by decide), List.forall_mem_cons.mpr ⟨snd_aload_n d71_222 rfl, List.forall_mem_cons.mpr ⟨snd_aload_n d71_223 rfl, List.forall_mem_cons.mpr ⟨snd_getI (by decide) (by decide) rfl wd323 d71_224, List.forall_mem_cons.mpr ⟨snd_bipush d71_227 (by decide +kernel), List.forall_mem_cons.mpr ⟨snd_callV (by decide) rfl cn72 ⟨by decide +kernel, by decide +kernel⟩ cm72 (List.forall_mem_cons.mpr ⟨wd688, cw72⟩) d71_229, List.forall_mem_cons.mpr ⟨snd_if_eq d71_232 (by decide), List.forall_mem_cons.mpr ⟨snd_aload_n d71_235 rfl, List.forall_mem_cons.mpr ⟨snd_callV (by decide) rfl cn79 ⟨by decide +kernel, by decide +kernel⟩ cm79 (List.forall_mem_cons.mpr ⟨wd783, cw79⟩) d71_236, List.forall_mem_cons.mpr ⟨snd_if_eq d71_239 (by decide), List.forall_mem_cons.mpr ⟨snd_iconst d71_242 (by decide +kernel), List.forall_mem_cons.mpr ⟨snd_goto d71_243 (by decide), List.forall_mem_cons.mpr ⟨snd_iconst d71_246 (by decide +kernel), List.forall_mem_cons.mpr ⟨snd_zret rfl d71_247, List.forall_mem_cons.mpr ⟨snd_aload_n d71_248 rfl, List.forall_mem_cons.mpr ⟨snd_getR (by decide) (by decide) rfl wd376 d71_249, List.forall_mem_cons.mpr ⟨snd_ldcS (tx := "cap") d71_252 (by decide +kernel), List.forall_mem_cons.mpr ⟨snd_callV (by decide) rfl cn92 ⟨by decide +kernel, by decide +kernel⟩ cm92 (List.forall_mem_cons.mpr ⟨wd599, cw92⟩) d71_254, List.forall_mem_cons.mpr ⟨snd_if_eq d71_257 (by decide), fun _ h => by cases h⟩⟩⟩⟩⟩⟩⟩⟩⟩⟩⟩⟩⟩⟩⟩⟩⟩⟩⟩⟩⟩⟩⟩⟩⟩⟩⟩⟩⟩⟩
theorem sc71_4 : ∀ q ∈ tc71_4, Snd xtb M71 q.1 q.2 := List.forall_mem_cons.mpr ⟨snd_aload_n d71_260 rfl, List.forall_mem_cons.mpr ⟨snd_aload_n d71_261 rfl, List.forall_mem_cons.mpr ⟨snd_getI (by decide) (by decide) rfl wd331 d71_262, List.forall_mem_cons.mpr ⟨snd_bipush d71_265 (by decide +kernel), List.forall_mem_cons.mpr ⟨snd_callV (by decide) rfl cn72 ⟨by decide +kernel, by decide +kernel⟩ cm72 (List.forall_mem_cons.mpr ⟨wd688, cw72⟩) d71_267, List.forall_mem_cons.mpr ⟨snd_if_eq d71_270 (by decide), List.forall_mem_cons.mpr ⟨snd_aload_n d71_273 rfl, List.forall_mem_cons.mpr ⟨snd_callV (by decide) rfl cn80 ⟨by decide +kernel, by decide +kernel⟩ cm80 (List.forall_mem_cons.mpr ⟨wd793, cw80⟩) d71_274, List.forall_mem_cons.mpr ⟨snd_if_eq d71_277 (by decide), List.forall_mem_cons.mpr ⟨snd_iconst d71_280 (by decide +kernel), List.forall_mem_cons.mpr ⟨snd_goto d71_281 (by decide), List.forall_mem_cons.mpr ⟨snd_iconst d71_284 (by decide +kernel), List.forall_mem_cons.mpr ⟨snd_zret rfl d71_285, List.forall_mem_cons.mpr ⟨snd_aload_n d71_286 rfl, List.forall_mem_cons.mpr ⟨snd_iconst d71_287 (by decide +kernel), List.forall_mem_cons.mpr ⟨snd_callV (by decide) rfl cn69 ⟨by decide +kernel, by decide +kernel⟩ cm69 (List.forall_mem_cons.mpr ⟨wd651, cw69⟩) d71_288, List.forall_mem_cons.mpr ⟨snd_zret rfl d71_291, fun _ h => by cases h⟩⟩⟩⟩⟩⟩⟩⟩⟩⟩⟩⟩⟩⟩⟩⟩⟩
theorem d72_0 : decode (mC M72) 0 = .ok (.aload_n 0, 1) := by decide +kernel
theorem d72_1 : decode (mC M72) 1 = .ok (.getfield 36, 3) := by decide +kernel
theorem d72_4 : decode (mC M72) 4 = .ok (.ifCond .ne 10, 3) := by decide +kernel
theorem d72_7 : decode (mC M72) 7 = .ok (.aload_n 0, 1) := by decide +kernel
theorem d72_8 : decode (mC M72) 8 = .ok (.bipush 6, 2) := by decide +kernel
theorem d72_10 : decode (mC M72) 10 = .ok (.invokevirtual 54, 3) := by decide +kernel
theorem d72_13 : decode (mC M72) 13 = .ok (.ireturn, 1) := by decide +kernel
theorem d72_14 : decode (mC M72) 14 = .ok (.iload_n 1, 1) := by decide +kernel
theorem d72_15 : decode (mC M72) 15 = .ok (.iload_n 2, 1) := by decide +kernel
theorem d72_16 : decode (mC M72) 16 = .ok (.if_icmp .lt 9, 3) := by decide +kernel
theorem d72_19 : decode (mC M72) 19 = .ok (.aload_n 0, 1) := by decide +kernel
theorem d72_20 : decode (mC M72) 20 = .ok (.iconst 5, 1) := by decide +kernel
theorem d72_21 : decode (mC M72) 21 = .ok (.invokevirtual 54, 3) := by decide +kernel
theorem d72_24 : decode (mC M72) 24 = .ok (.ireturn, 1) := by decide +kernel
theorem d72_25 : decode (mC M72) 25 = .ok (.aload_n 0, 1) := by decide +kernel
theorem d72_26 : decode (mC M72) 26 = .ok (.getfield 12, 3) := by decide +kernel
theorem d72_29 : decode (mC M72) 29 = .ok (.invokevirtual 58, 3) := by decide +kernel
theorem d72_32 : decode (mC M72) 32 = .ok (.iconst 1, 1) := by decide +kernel
theorem d72_33 : decode (mC M72) 33 = .ok (.ireturn, 1) := by decide +kernel
theorem sc72_0 : ∀ q ∈ tc72_0, Snd xtb M72 q.1 q.2 := List.forall_mem_cons.mpr ⟨snd_aload_n d72_0 rfl, List.forall_mem_cons.mpr ⟨snd_getI (by decide) (by decide) rfl wd382 d72_1, List.forall_mem_cons.mpr ⟨snd_if_ne d72_4 (by decide), List.forall_mem_cons.mpr ⟨snd_aload_n d72_7 rfl, List.forall_mem_cons.mpr ⟨snd_bipush d72_8 (by decide +kernel), List.forall_mem_cons.mpr ⟨snd_callV (by decide) rfl cn69 ⟨by decide +kernel, by decide +kernel⟩ cm69 (List.forall_mem_cons.mpr ⟨wd651, cw69⟩) d72_10, List.forall_mem_cons.mpr ⟨snd_zret rfl d72_13, List.forall_mem_cons.mpr ⟨snd_iload_n d72_14 rfl, List.forall_mem_cons.mpr ⟨snd_iload_n d72_15 rfl, List.forall_mem_cons.mpr ⟨snd_cmp_lt d72_16 (by decide), List.forall_mem_cons.mpr ⟨snd_aload_n d72_19 rfl, List.forall_mem_cons.mpr ⟨snd_iconst d72_20 (by decide +kernel), List.forall_mem_cons.mpr ⟨snd_callV (by decide) rfl cn69 ⟨by decide +kernel, by decide +kernel⟩ cm69 (List.forall_mem_cons.mpr ⟨wd651, cw69⟩) d72_21, List.forall_mem_cons.mpr ⟨snd_zret rfl d72_24, List.forall_mem_cons.mpr ⟨snd_aload_n d72_25 rfl, List.forall_mem_cons.mpr ⟨snd_getR (by decide) (by decide) rfl wd376 d72_26, List.forall_mem_cons.mpr ⟨snd_callV (by decide) rfl cn89 ⟨by decide +kernel, by decide +kernel⟩ cm89 (List.forall_mem_cons.mpr ⟨wd663, cw89⟩) d72_29, List.forall_mem_cons.mpr ⟨snd_iconst d72_32 (by decide +kernel), List.forall_mem_cons.mpr ⟨snd_zret rfl d72_33, fun _ h => by cases h⟩⟩⟩⟩⟩⟩⟩⟩⟩⟩⟩⟩⟩⟩⟩⟩⟩⟩⟩
theorem d73_0 : decode (mC M73) 0 = .ok (.aload_n 0, 1) := by decide +kernel
theorem d73_1 : decode (mC M73) 1 = .ok (.getfield 12, 3) := by decide +kernel
theorem d73_4 : decode (mC M73) 4 = .ok (.invokevirtual 58, 3) := by decide +kernel
theorem d73_7 : decode (mC M73) 7 = .ok (.aload_n 0, 1) := by decide +kernel
theorem d73_8 : decode (mC M73) 8 = .ok (.ldc 152, 2) := by decide +kernel
theorem d73_10 : decode (mC M73) 10 = .ok (.invokevirtual 154, 3) := by decide +kernel
theorem d73_13 : decode (mC M73) 13 = .ok (.ifCond .ne 5, 3) := by decide +kernel
theorem d73_16 : decode (mC M73) 16 = .ok (.iconst 0, 1) := by decide +kernel
theorem d73_17 : decode (mC M73) 17 = .ok (.ireturn, 1) := by decide +kernel
theorem d73_18 : decode (mC M73) 18 = .ok (.aload_n 0, 1) := by decide +kernel
theorem d73_19 : decode (mC M73) 19 = .ok (.iconst 2, 1) := by decide +kernel
theorem d73_20 : decode (mC M73) 20 = .ok (.bipush 40, 2) := by decide +kernel
theorem d73_22 : decode (mC M73) 22 = .ok (.invokevirtual 157, 3) := by decide +kernel
theorem d73_25 : decode (mC M73) 25 = .ok (.istore_n 1, 1) := by decide +kernel
theorem d73_26 : decode (mC M73) 26 = .ok (.iload_n 1, 1) := by decide +kernel
theorem d73_27 : decode (mC M73) 27 = .ok (.ifCond .lt 12, 3) := by decide +kernel
theorem d73_30 : decode (mC M73) 30 = .ok (.aload_n 0, 1) := by decide +kernel
theorem d73_31 : decode (mC M73) 31 = .ok (.ldc 161, 2) := by decide +kernel
theorem d73_33 : decode (mC M73) 33 = .ok (.invokevirtual 154, 3) := by decide +kernel
theorem d73_36 : decode (mC M73) 36 = .ok (.ifCond .ne 5, 3) := by decide +kernel
theorem d73_39 : decode (mC M73) 39 = .ok (.iconst 0, 1) := by decide +kernel
theorem d73_40 : decode (mC M73) 40 = .ok (.ireturn, 1) := by decide +kernel
theorem d73_41 : decode (mC M73) 41 = .ok (.aload_n 0, 1) := by decide +kernel
theorem d73_42 : decode (mC M73) 42 = .ok (.iconst 1, 1) := by decide +kernel
theorem d73_43 : decode (mC M73) 43 = .ok (.iconst 4, 1) := by decide +kernel
theorem d73_44 : decode (mC M73) 44 = .ok (.invokevirtual 157, 3) := by decide +kernel
theorem d73_47 : decode (mC M73) 47 = .ok (.istore_n 2, 1) := by decide +kernel
theorem d73_48 : decode (mC M73) 48 = .ok (.iload_n 2, 1) := by decide +kernel
theorem d73_49 : decode (mC M73) 49 = .ok (.ifCond .ge 5, 3) := by decide +kernel
theorem d73_52 : decode (mC M73) 52 = .ok (.iconst 0, 1) := by decide +kernel
theorem d73_53 : decode (mC M73) 53 = .ok (.ireturn, 1) := by decide +kernel
theorem d73_54 : decode (mC M73) 54 = .ok (.aload_n 0, 1) := by decide +kernel
theorem d73_55 : decode (mC M73) 55 = .ok (.getfield 28, 3) := by decide +kernel
theorem d73_58 : decode (mC M73) 58 = .ok (.iload_n 1, 1) := by decide +kernel
theorem d73_59 : decode (mC M73) 59 = .ok (.iload_n 2, 1) := by decide +kernel
theorem d73_60 : decode (mC M73) 60 = .ok (.invokevirtual 163, 3) := by decide +kernel
theorem d73_63 : decode (mC M73) 63 = .ok (.aload_n 0, 1) := by decide +kernel
theorem d73_64 : decode (mC M73) 64 = .ok (.iconst 1, 1) := by decide +kernel
theorem d73_65 : decode (mC M73) 65 = .ok (.putfield 36, 3) := by decide +kernel
theorem d73_68 : decode (mC M73) 68 = .ok (.iconst 1, 1) := by decide +kernel
theorem d73_69 : decode (mC M73) 69 = .ok (.ireturn, 1) := by decide +kernel
theorem sc73_0 : ∀ q ∈ tc73_0, Snd xtb M73 q.1 q.2 := List.forall_mem_cons.mpr ⟨snd_aload_n d73_0 rfl, List.forall_mem_cons.mpr ⟨snd_getR (by decide) (by decide) rfl wd376 d73_1, List.forall_mem_cons.mpr ⟨snd_callV (by decide) rfl cn89 ⟨by decide +kernel, by decide +kernel⟩ cm89 (List.forall_mem_cons.mpr ⟨wd663, cw89⟩) d73_4, List.forall_mem_cons.mpr ⟨snd_aload_n d73_7 rfl, List.forall_mem_cons.mpr ⟨snd_ldcS (tx := "size") d73_8 (by decide +kernel), List.forall_mem_cons.mpr ⟨snd_callV (by decide) rfl cn81 ⟨by decide +kernel, by decide +kernel⟩ cm81 (List.forall_mem_cons.mpr ⟨wd665, cw81⟩) d73_10, List.forall_mem_cons.mpr ⟨snd_if_ne d73_13 (by decide), List.forall_mem_cons.mpr ⟨snd_iconst d73_16 (by decide +kernel), List.forall_mem_cons.mpr ⟨snd_zret rfl d73_17, List.forall_mem_cons.mpr ⟨snd_aload_n d73_18 rfl, List.forall_mem_cons.mpr ⟨snd_iconst d73_19 (by decide +kernel), List.forall_mem_cons.mpr ⟨snd_bipush d73_20 (by decide +kernel), List.forall_mem_cons.mpr ⟨snd_callV (by decide) rfl cn82 ⟨by decide +kernel, by decide +kernel⟩ cm82 (List.forall_mem_cons.mpr ⟨wd669, cw82⟩) d73_22, List.forall_mem_cons.mpr ⟨snd_istore_n d73_25 rfl, List.forall_mem_cons.mpr ⟨snd_iload_n d73_26 rfl, List.forall_mem_cons.mpr ⟨snd_if_lt d73_27 (by decide), List.forall_mem_cons.mpr ⟨snd_aload_n d73_30 rfl, List.forall_mem_cons.mpr ⟨snd_ldcS (tx := "layers") d73_31 (by decide +kernel), List.forall_mem_cons.mpr ⟨snd_callV (by decide) rfl cn81 ⟨by decide +kernel, by decide +kernel⟩ cm81 (List.forall_mem_cons.mpr ⟨wd665, cw81⟩) d73_33, List.forall_mem_cons.mpr ⟨snd_if_ne d73_36 (by decide), List.forall_mem_cons.mpr ⟨snd_iconst d73_39 (by decide +kernel), List.forall_mem_cons.mpr ⟨snd_zret rfl d73_40, List.forall_mem_cons.mpr ⟨snd_aload_n d73_41 rfl, List.forall_mem_cons.mpr ⟨snd_iconst d73_42 (by decide +kernel), List.forall_mem_cons.mpr ⟨snd_iconst d73_43 (by decide +kernel), List.forall_mem_cons.mpr ⟨snd_callV (by decide) rfl cn82 ⟨by decide +kernel, by decide +kernel⟩ cm82 (List.forall_mem_cons.mpr ⟨wd669, cw82⟩) d73_44, List.forall_mem_cons.mpr ⟨snd_istore_n d73_47 rfl, List.forall_mem_cons.mpr ⟨snd_iload_n d73_48 rfl, List.forall_mem_cons.mpr ⟨snd_if_ge d73_49 (by decide), List.forall_mem_cons.mpr ⟨snd_iconst d73_52 (by decide +kernel), fun _ h => by cases h⟩⟩⟩⟩⟩⟩⟩⟩⟩⟩⟩⟩⟩⟩⟩⟩⟩⟩⟩⟩⟩⟩⟩⟩⟩⟩⟩⟩⟩⟩
theorem sc73_1 : ∀ q ∈ tc73_1, Snd xtb M73 q.1 q.2 := List.forall_mem_cons.mpr ⟨snd_zret rfl d73_53, List.forall_mem_cons.mpr ⟨snd_aload_n d73_54 rfl, List.forall_mem_cons.mpr ⟨snd_getR (by decide) (by decide) rfl wd380 d73_55, List.forall_mem_cons.mpr ⟨snd_iload_n d73_58 rfl, List.forall_mem_cons.mpr ⟨snd_iload_n d73_59 rfl, List.forall_mem_cons.mpr ⟨snd_callV (by decide) rfl cn35 ⟨by decide +kernel, by decide +kernel⟩ cm35 (List.forall_mem_cons.mpr ⟨wd675, cw35⟩) d73_60, List.forall_mem_cons.mpr ⟨snd_aload_n d73_63 rfl, List.forall_mem_cons.mpr ⟨snd_iconst d73_64 (by decide +kernel), List.forall_mem_cons.mpr ⟨snd_putZ (by decide) (by decide) rfl rfl wd382 d73_65, List.forall_mem_cons.mpr ⟨snd_iconst d73_68 (by decide +kernel), List.forall_mem_cons.mpr ⟨snd_zret rfl d73_69, fun _ h => by cases h⟩⟩⟩⟩⟩⟩⟩⟩⟩⟩⟩
theorem d74_0 : decode (mC M74) 0 = .ok (.aload_n 0, 1) := by decide +kernel
theorem d74_1 : decode (mC M74) 1 = .ok (.invokevirtual 166, 3) := by decide +kernel
theorem d74_4 : decode (mC M74) 4 = .ok (.lstore_n 1, 1) := by decide +kernel
theorem d74_5 : decode (mC M74) 5 = .ok (.lload_n 1, 1) := by decide +kernel
theorem d74_6 : decode (mC M74) 6 = .ok (.lconst 0, 1) := by decide +kernel
theorem d74_7 : decode (mC M74) 7 = .ok (.lcmp, 1) := by decide +kernel
theorem d74_8 : decode (mC M74) 8 = .ok (.ifCond .ge 5, 3) := by decide +kernel
theorem d74_11 : decode (mC M74) 11 = .ok (.iconst 0, 1) := by decide +kernel
theorem d74_12 : decode (mC M74) 12 = .ok (.ireturn, 1) := by decide +kernel
theorem d74_13 : decode (mC M74) 13 = .ok (.bipush (-2), 2) := by decide +kernel
theorem d74_15 : decode (mC M74) 15 = .ok (.istore_n 3, 1) := by decide +kernel
theorem d74_16 : decode (mC M74) 16 = .ok (.aload_n 0, 1) := by decide +kernel
theorem d74_17 : decode (mC M74) 17 = .ok (.getfield 12, 3) := by decide +kernel
theorem d74_20 : decode (mC M74) 20 = .ok (.ldc 170, 2) := by decide +kernel
theorem d74_22 : decode (mC M74) 22 = .ok (.invokevirtual 90, 3) := by decide +kernel
theorem d74_25 : decode (mC M74) 25 = .ok (.ifCond .eq 35, 3) := by decide +kernel
theorem d74_28 : decode (mC M74) 28 = .ok (.aload_n 0, 1) := by decide +kernel
theorem d74_29 : decode (mC M74) 29 = .ok (.getfield 12, 3) := by decide +kernel
theorem d74_32 : decode (mC M74) 32 = .ok (.invokevirtual 58, 3) := by decide +kernel
theorem d74_35 : decode (mC M74) 35 = .ok (.aload_n 0, 1) := by decide +kernel
theorem d74_36 : decode (mC M74) 36 = .ok (.aload_n 0, 1) := by decide +kernel
theorem d74_37 : decode (mC M74) 37 = .ok (.getfield 18, 3) := by decide +kernel
theorem d74_40 : decode (mC M74) 40 = .ok (.aload_n 0, 1) := by decide +kernel
theorem d74_41 : decode (mC M74) 41 = .ok (.getfield 28, 3) := by decide +kernel
theorem d74_44 : decode (mC M74) 44 = .ok (.getfield 61, 3) := by decide +kernel
theorem d74_47 : decode (mC M74) 47 = .ok (.getfield 65, 3) := by decide +kernel
theorem d74_50 : decode (mC M74) 50 = .ok (.invokevirtual 172, 3) := by decide +kernel
theorem d74_53 : decode (mC M74) 53 = .ok (.istore_n 3, 1) := by decide +kernel
theorem d74_54 : decode (mC M74) 54 = .ok (.iload_n 3, 1) := by decide +kernel
theorem d74_55 : decode (mC M74) 55 = .ok (.ifCond .ge 5, 3) := by decide +kernel
theorem d74_58 : decode (mC M74) 58 = .ok (.iconst 0, 1) := by decide +kernel
theorem d74_59 : decode (mC M74) 59 = .ok (.ireturn, 1) := by decide +kernel
theorem d74_60 : decode (mC M74) 60 = .ok (.aload_n 0, 1) := by decide +kernel
theorem d74_61 : decode (mC M74) 61 = .ok (.getfield 18, 3) := by decide +kernel
theorem d74_64 : decode (mC M74) 64 = .ok (.aload_n 0, 1) := by decide +kernel
theorem d74_65 : decode (mC M74) 65 = .ok (.getfield 28, 3) := by decide +kernel
theorem d74_68 : decode (mC M74) 68 = .ok (.getfield 61, 3) := by decide +kernel
theorem d74_71 : decode (mC M74) 71 = .ok (.getfield 65, 3) := by decide +kernel
theorem d74_74 : decode (mC M74) 74 = .ok (.lload_n 1, 1) := by decide +kernel
theorem d74_75 : decode (mC M74) 75 = .ok (.lastore, 1) := by decide +kernel
theorem d74_76 : decode (mC M74) 76 = .ok (.aload_n 0, 1) := by decide +kernel
theorem d74_77 : decode (mC M74) 77 = .ok (.getfield 28, 3) := by decide +kernel
theorem d74_80 : decode (mC M74) 80 = .ok (.getfield 61, 3) := by decide +kernel
theorem d74_83 : decode (mC M74) 83 = .ok (.iload_n 3, 1) := by decide +kernel
theorem d74_84 : decode (mC M74) 84 = .ok (.invokevirtual 176, 3) := by decide +kernel
theorem d74_87 : decode (mC M74) 87 = .ok (.iconst 1, 1) := by decide +kernel
theorem d74_88 : decode (mC M74) 88 = .ok (.ireturn, 1) := by decide +kernel
theorem sc74_0 : ∀ q ∈ tc74_0, Snd xtb M74 q.1 q.2 := List.forall_mem_cons.mpr ⟨snd_aload_n d74_0 rfl, List.forall_mem_cons.mpr ⟨snd_callV (by decide) rfl cn83 ⟨by decide +kernel, by decide +kernel⟩ cm83 (List.forall_mem_cons.mpr ⟨wd696, cw83⟩) d74_1, List.forall_mem_cons.mpr ⟨snd_lstore_n d74_4 rfl, List.forall_mem_cons.mpr ⟨snd_lload_n d74_5 rfl, List.forall_mem_cons.mpr ⟨snd_lconst d74_6 (by decide +kernel), List.forall_mem_cons.mpr ⟨snd_lcmp d74_7, List.forall_mem_cons.mpr ⟨snd_if_ge d74_8 (by decide), List.forall_mem_cons.mpr ⟨snd_iconst d74_11 (by decide +kernel), List.forall_mem_cons.mpr ⟨snd_zret rfl d74_12, List.forall_mem_cons.mpr ⟨snd_bipush d74_13 (by decide +kernel), List.forall_mem_cons.mpr ⟨snd_istore_n d74_15 rfl, List.forall_mem_cons.mpr ⟨snd_aload_n d74_16 rfl, List.forall_mem_cons.mpr ⟨snd_getR (by decide) (by decide) rfl wd376 d74_17, List.forall_mem_cons.mpr ⟨snd_ldcS (tx := "of") d74_20 (by decide +kernel), List.forall_mem_cons.mpr ⟨snd_callV (by decide) rfl cn92 ⟨by decide +kernel, by decide +kernel⟩ cm92 (List.forall_mem_cons.mpr ⟨wd599, cw92⟩) d74_22, List.forall_mem_cons.mpr ⟨snd_if_eq d74_25 (by decide), List.forall_mem_cons.mpr ⟨snd_aload_n d74_28 rfl, List.forall_mem_cons.mpr ⟨snd_getR (by decide) (by decide) rfl wd376 d74_29, List.forall_mem_cons.mpr ⟨snd_callV (by decide) rfl cn89 ⟨by decide +kernel, by decide +kernel⟩ cm89 (List.forall_mem_cons.mpr ⟨wd663, cw89⟩) d74_32, List.forall_mem_cons.mpr ⟨snd_aload_n d74_35 rfl, List.forall_mem_cons.mpr ⟨snd_aload_n d74_36 rfl, List.forall_mem_cons.mpr ⟨snd_getR (by decide) (by decide) rfl wd378 d74_37, List.forall_mem_cons.mpr ⟨snd_aload_n d74_40 rfl, List.forall_mem_cons.mpr ⟨snd_getR (by decide) (by decide) rfl wd380 d74_41, List.forall_mem_cons.mpr ⟨snd_getR (by decide) (by decide) rfl wd366 d74_44, List.forall_mem_cons.mpr ⟨snd_getI (by decide) (by decide) rfl wd312 d74_47, List.forall_mem_cons.mpr ⟨snd_callV (by decide) rfl cn84 ⟨by decide +kernel, by decide +kernel⟩ cm84 (List.forall_mem_cons.mpr ⟨wd720, cw84⟩) d74_50, List.forall_mem_cons.mpr ⟨snd_istore_n d74_53 rfl, List.forall_mem_cons.mpr ⟨snd_iload_n d74_54 rfl, List.forall_mem_cons.mpr ⟨snd_if_ge d74_55 (by decide), fun _ h => by cases h⟩⟩⟩⟩⟩⟩⟩⟩⟩⟩⟩⟩⟩⟩⟩⟩⟩⟩⟩⟩⟩⟩⟩⟩⟩⟩⟩⟩⟩⟩
theorem sc74_1 : ∀ q ∈ tc74_1, Snd xtb M74 q.1 q.2 := List.forall_mem_cons.mpr ⟨snd_iconst d74_58 (by decide +kernel), List.forall_mem_cons.mpr ⟨snd_zret rfl d74_59, List.forall_mem_cons.mpr ⟨snd_aload_n d74_60 rfl, List.forall_mem_cons.mpr ⟨snd_getR (by decide) (by decide) rfl wd378 d74_61, List.forall_mem_cons.mpr ⟨snd_aload_n d74_64 rfl, List.forall_mem_cons.mpr ⟨snd_getR (by decide) (by decide) rfl wd380 d74_65, List.forall_mem_cons.mpr ⟨snd_getR (by decide) (by decide) rfl wd366 d74_68, List.forall_mem_cons.mpr ⟨snd_getI (by decide) (by decide) rfl wd312 d74_71, List.forall_mem_cons.mpr ⟨snd_lload_n d74_74 rfl, List.forall_mem_cons.mpr ⟨snd_last d74_75, List.forall_mem_cons.mpr ⟨snd_aload_n d74_76 rfl, List.forall_mem_cons.mpr ⟨snd_getR (by decide) (by decide) rfl wd380 d74_77, List.forall_mem_cons.mpr ⟨snd_getR (by decide) (by decide) rfl wd366 d74_80, List.forall_mem_cons.mpr ⟨snd_iload_n d74_83 rfl, List.forall_mem_cons.mpr ⟨snd_callV (by decide) rfl cn96 ⟨by decide +kernel, by decide +kernel⟩ cm96 (List.forall_mem_cons.mpr ⟨wd724, cw96⟩) d74_84, List.forall_mem_cons.mpr ⟨snd_iconst d74_87 (by decide +kernel), List.forall_mem_cons.mpr ⟨snd_zret rfl d74_88, fun _ h => by cases h⟩⟩⟩⟩⟩⟩⟩⟩⟩⟩⟩⟩⟩⟩⟩⟩⟩
theorem d75_0 : decode (mC M75) 0 = .ok (.aload_n 0, 1) := by decide +kernel
theorem d75_1 : decode (mC M75) 1 = .ok (.invokevirtual 166, 3) := by decide +kernel
theorem d75_4 : decode (mC M75) 4 = .ok (.lstore_n 1, 1) := by decide +kernel
theorem d75_5 : decode (mC M75) 5 = .ok (.lload_n 1, 1) := by decide +kernel
theorem d75_6 : decode (mC M75) 6 = .ok (.lconst 0, 1) := by decide +kernel
theorem d75_7 : decode (mC M75) 7 = .ok (.lcmp, 1) := by decide +kernel
theorem d75_8 : decode (mC M75) 8 = .ok (.ifCond .lt 12, 3) := by decide +kernel
theorem d75_11 : decode (mC M75) 11 = .ok (.aload_n 0, 1) := by decide +kernel
theorem d75_12 : decode (mC M75) 12 = .ok (.ldc 179, 2) := by decide +kernel
theorem d75_14 : decode (mC M75) 14 = .ok (.invokevirtual 154, 3) := by decide +kernel
theorem d75_17 : decode (mC M75) 17 = .ok (.ifCond .ne 5, 3) := by decide +kernel
theorem d75_20 : decode (mC M75) 20 = .ok (.iconst 0, 1) := by decide +kernel
theorem d75_21 : decode (mC M75) 21 = .ok (.ireturn, 1) := by decide +kernel
theorem d75_22 : decode (mC M75) 22 = .ok (.aload_n 0, 1) := by decide +kernel
theorem d75_23 : decode (mC M75) 23 = .ok (.iconst 0, 1) := by decide +kernel
theorem d75_24 : decode (mC M75) 24 = .ok (.aload_n 0, 1) := by decide +kernel
theorem d75_25 : decode (mC M75) 25 = .ok (.getfield 28, 3) := by decide +kernel
theorem d75_28 : decode (mC M75) 28 = .ok (.getfield 70, 3) := by decide +kernel
theorem d75_31 : decode (mC M75) 31 = .ok (.getfield 181, 3) := by decide +kernel
theorem d75_34 : decode (mC M75) 34 = .ok (.iconst 1, 1) := by decide +kernel
theorem d75_35 : decode (mC M75) 35 = .ok (.isub, 1) := by decide +kernel
theorem d75_36 : decode (mC M75) 36 = .ok (.invokevirtual 157, 3) := by decide +kernel
theorem d75_39 : decode (mC M75) 39 = .ok (.istore_n 3, 1) := by decide +kernel
theorem d75_40 : decode (mC M75) 40 = .ok (.iload_n 3, 1) := by decide +kernel
theorem d75_41 : decode (mC M75) 41 = .ok (.ifCond .ge 5, 3) := by decide +kernel
theorem d75_44 : decode (mC M75) 44 = .ok (.iconst 0, 1) := by decide +kernel
theorem d75_45 : decode (mC M75) 45 = .ok (.ireturn, 1) := by decide +kernel
theorem d75_46 : decode (mC M75) 46 = .ok (.aload_n 0, 1) := by decide +kernel
theorem d75_47 : decode (mC M75) 47 = .ok (.getfield 12, 3) := by decide +kernel
theorem d75_50 : decode (mC M75) 50 = .ok (.ldc 183, 2) := by decide +kernel
theorem d75_52 : decode (mC M75) 52 = .ok (.invokevirtual 90, 3) := by decide +kernel
theorem d75_55 : decode (mC M75) 55 = .ok (.istore 4, 2) := by decide +kernel
theorem d75_57 : decode (mC M75) 57 = .ok (.iload 4, 2) := by decide +kernel
theorem d75_59 : decode (mC M75) 59 = .ok (.ifCond .eq 10, 3) := by decide +kernel
theorem d75_62 : decode (mC M75) 62 = .ok (.aload_n 0, 1) := by decide +kernel
theorem d75_63 : decode (mC M75) 63 = .ok (.getfield 12, 3) := by decide +kernel
theorem d75_66 : decode (mC M75) 66 = .ok (.invokevirtual 58, 3) := by decide +kernel
theorem d75_69 : decode (mC M75) 69 = .ok (.aload_n 0, 1) := by decide +kernel
theorem d75_70 : decode (mC M75) 70 = .ok (.getfield 22, 3) := by decide +kernel
theorem d75_73 : decode (mC M75) 73 = .ok (.aload_n 0, 1) := by decide +kernel
theorem d75_74 : decode (mC M75) 74 = .ok (.getfield 28, 3) := by decide +kernel
theorem d75_77 : decode (mC M75) 77 = .ok (.getfield 70, 3) := by decide +kernel
theorem d75_80 : decode (mC M75) 80 = .ok (.getfield 74, 3) := by decide +kernel
theorem d75_83 : decode (mC M75) 83 = .ok (.lload_n 1, 1) := by decide +kernel
theorem d75_84 : decode (mC M75) 84 = .ok (.lastore, 1) := by decide +kernel
theorem d75_85 : decode (mC M75) 85 = .ok (.aload_n 0, 1) := by decide +kernel
theorem d75_86 : decode (mC M75) 86 = .ok (.getfield 28, 3) := by decide +kernel
theorem d75_89 : decode (mC M75) 89 = .ok (.getfield 70, 3) := by decide +kernel
theorem d75_92 : decode (mC M75) 92 = .ok (.iload_n 3, 1) := by decide +kernel
theorem d75_93 : decode (mC M75) 93 = .ok (.iload 4, 2) := by decide +kernel
theorem d75_95 : decode (mC M75) 95 = .ok (.invokevirtual 185, 3) := by decide +kernel
theorem d75_98 : decode (mC M75) 98 = .ok (.iconst 1, 1) := by decide +kernel
theorem d75_99 : decode (mC M75) 99 = .ok (.ireturn, 1) := by decide +kernel
theorem sc75_0 : ∀ q ∈ tc75_0, Snd xtb M75 q.1 q.2 := List.forall_mem_cons.mpr ⟨snd_aload_n d75_0 rfl, List.forall_mem_cons.mpr ⟨snd_callV (by decide) rfl cn83 ⟨by decide +kernel, by decide +kernel⟩ cm83 (List.forall_mem_cons.mpr ⟨wd696, cw83⟩) d75_1, List.forall_mem_cons.mpr ⟨snd_lstore_n d75_4 rfl, List.forall_mem_cons.mpr ⟨snd_lload_n d75_5 rfl, List.forall_mem_cons.mpr ⟨snd_lconst d75_6 (by decide +kernel), List.forall_mem_cons.mpr ⟨snd_lcmp d75_7, List.forall_mem_cons.mpr ⟨snd_if_lt d75_8 (by decide), List.forall_mem_cons.mpr ⟨snd_aload_n d75_11 rfl, List.forall_mem_cons.mpr ⟨snd_ldcS (tx := "layer") d75_12 (by decide +kernel), List.forall_mem_cons.mpr ⟨snd_callV (by decide) rfl cn81 ⟨by decide +kernel, by decide +kernel⟩ cm81 (List.forall_mem_cons.mpr ⟨wd665, cw81⟩) d75_14, List.forall_mem_cons.mpr ⟨snd_if_ne d75_17 (by decide), List.forall_mem_cons.mpr ⟨snd_iconst d75_20 (by decide +kernel), List.forall_mem_cons.mpr ⟨snd_zret rfl d75_21, List.forall_mem_cons.mpr ⟨snd_aload_n d75_22 rfl, List.forall_mem_cons.mpr ⟨snd_iconst d75_23 (by decide +kernel), List.forall_mem_cons.mpr ⟨snd_aload_n d75_24 rfl, List.forall_mem_cons.mpr ⟨snd_getR (by decide) (by decide) rfl wd380 d75_25, List.forall_mem_cons.mpr ⟨snd_getR (by decide) (by decide) rfl wd363 d75_28, List.forall_mem_cons.mpr ⟨snd_getI (by decide) (by decide) rfl wd237 d75_31, List.forall_mem_cons.mpr ⟨snd_iconst d75_34 (by decide +kernel), List.forall_mem_cons.mpr ⟨snd_isub d75_35, List.forall_mem_cons.mpr ⟨snd_callV (by decide) rfl cn82 ⟨by decide +kernel, by decide +kernel⟩ cm82 (List.forall_mem_cons.mpr ⟨wd669, cw82⟩) d75_36, List.forall_mem_cons.mpr ⟨snd_istore_n d75_39 rfl, List.forall_mem_cons.mpr ⟨snd_iload_n d75_40 rfl, List.forall_mem_cons.mpr ⟨snd_if_ge d75_41 (by decide), List.forall_mem_cons.mpr ⟨snd_iconst d75_44 (by decide +kernel), List.forall_mem_cons.mpr ⟨snd_zret rfl d75_45, List.forall_mem_cons.mpr ⟨snd_aload_n d75_46 rfl, List.forall_mem_cons.mpr ⟨snd_getR (by decide) (by decide) rfl wd376 d75_47, List.forall_mem_cons.mpr ⟨snd_ldcS (tx := "only") d75_50 (by decide +kernel), fun _ h => by cases h⟩⟩⟩⟩⟩⟩⟩⟩⟩⟩⟩⟩⟩⟩⟩⟩⟩⟩⟩⟩⟩⟩⟩⟩⟩⟩⟩⟩⟩⟩
theorem sc75_1 : ∀ q ∈ tc75_1, Snd xtb M75 q.1 q.2 := List.forall_mem_cons.mpr ⟨snd_callV (by decide) rfl cn92 ⟨by decide +kernel, by decide +kernel⟩ cm92 (List.forall_mem_cons.mpr ⟨wd599, cw92⟩) d75_52, List.forall_mem_cons.mpr ⟨snd_istore d75_55, List.forall_mem_cons.mpr ⟨snd_iload d75_57, List.forall_mem_cons.mpr ⟨snd_if_eq d75_59 (by decide), List.forall_mem_cons.mpr ⟨snd_aload_n d75_62 rfl, List.forall_mem_cons.mpr ⟨snd_getR (by decide) (by decide) rfl wd376 d75_63, List.forall_mem_cons.mpr ⟨snd_callV (by decide) rfl cn89 ⟨by decide +kernel, by decide +kernel⟩ cm89 (List.forall_mem_cons.mpr ⟨wd663, cw89⟩) d75_66, List.forall_mem_cons.mpr ⟨snd_aload_n d75_69 rfl, List.forall_mem_cons.mpr ⟨snd_getR (by decide) (by decide) rfl wd379 d75_70, List.forall_mem_cons.mpr ⟨snd_aload_n d75_73 rfl, List.forall_mem_cons.mpr ⟨snd_getR (by decide) (by decide) rfl wd380 d75_74, List.forall_mem_cons.mpr ⟨snd_getR (by decide) (by decide) rfl wd363 d75_77, List.forall_mem_cons.mpr ⟨snd_getI (by decide) (by decide) rfl wd240 d75_80, List.forall_mem_cons.mpr ⟨snd_lload_n d75_83 rfl, List.forall_mem_cons.mpr ⟨snd_last d75_84, List.forall_mem_cons.mpr ⟨snd_aload_n d75_85 rfl, List.forall_mem_cons.mpr ⟨snd_getR (by decide) (by decide) rfl wd380 d75_86, List.forall_mem_cons.mpr ⟨snd_getR (by decide) (by decide) rfl wd363 d75_89, List.forall_mem_cons.mpr ⟨snd_iload_n d75_92 rfl, List.forall_mem_cons.mpr ⟨snd_iload d75_93, List.forall_mem_cons.mpr ⟨snd_callV (by decide) rfl cn44 ⟨by decide +kernel, by decide +kernel⟩ cm44 (List.forall_mem_cons.mpr ⟨wd735, cw44⟩) d75_95, List.forall_mem_cons.mpr ⟨snd_iconst d75_98 (by decide +kernel), List.forall_mem_cons.mpr ⟨snd_zret rfl d75_99, fun _ h => by cases h⟩⟩⟩⟩⟩⟩⟩⟩⟩⟩⟩⟩⟩⟩⟩⟩⟩⟩⟩⟩⟩⟩⟩
theorem d76_0 : decode (mC M76) 0 = .ok (.aload_n 0, 1) := by decide +kernel
theorem d76_1 : decode (mC M76) 1 = .ok (.getfield 28, 3) := by decide +kernel
theorem d76_4 : decode (mC M76) 4 = .ok (.getfield 70, 3) := by decide +kernel
theorem d76_7 : decode (mC M76) 7 = .ok (.getfield 112, 3) := by decide +kernel
theorem d76_10 : decode (mC M76) 10 = .ok (.astore_n 1, 1) := by decide +kernel
theorem d76_11 : decode (mC M76) 11 = .ok (.aload_n 0, 1) := by decide +kernel
theorem d76_12 : decode (mC M76) 12 = .ok (.aload_n 0, 1) := by decide +kernel
theorem d76_13 : decode (mC M76) 13 = .ok (.getfield 22, 3) := by decide +kernel
theorem d76_16 : decode (mC M76) 16 = .ok (.aload_n 0, 1) := by decide +kernel
theorem d76_17 : decode (mC M76) 17 = .ok (.getfield 28, 3) := by decide +kernel
theorem d76_20 : decode (mC M76) 20 = .ok (.getfield 70, 3) := by decide +kernel
theorem d76_23 : decode (mC M76) 23 = .ok (.getfield 74, 3) := by decide +kernel
theorem d76_26 : decode (mC M76) 26 = .ok (.invokevirtual 172, 3) := by decide +kernel
theorem d76_29 : decode (mC M76) 29 = .ok (.istore_n 2, 1) := by decide +kernel
theorem d76_30 : decode (mC M76) 30 = .ok (.iload_n 2, 1) := by decide +kernel
theorem d76_31 : decode (mC M76) 31 = .ok (.ifCond .ge 5, 3) := by decide +kernel
theorem d76_34 : decode (mC M76) 34 = .ok (.iconst 0, 1) := by decide +kernel
theorem d76_35 : decode (mC M76) 35 = .ok (.ireturn, 1) := by decide +kernel
theorem d76_36 : decode (mC M76) 36 = .ok (.aload_n 0, 1) := by decide +kernel
theorem d76_37 : decode (mC M76) 37 = .ok (.aload_n 1, 1) := by decide +kernel
theorem d76_38 : decode (mC M76) 38 = .ok (.iload_n 2, 1) := by decide +kernel
theorem d76_39 : decode (mC M76) 39 = .ok (.invokevirtual 189, 3) := by decide +kernel
theorem d76_42 : decode (mC M76) 42 = .ok (.sipush 999, 3) := by decide +kernel
theorem d76_45 : decode (mC M76) 45 = .ok (.invokevirtual 157, 3) := by decide +kernel
theorem d76_48 : decode (mC M76) 48 = .ok (.istore_n 3, 1) := by decide +kernel
theorem d76_49 : decode (mC M76) 49 = .ok (.iload_n 3, 1) := by decide +kernel
theorem d76_50 : decode (mC M76) 50 = .ok (.ifCond .ge 5, 3) := by decide +kernel
theorem d76_53 : decode (mC M76) 53 = .ok (.iconst 0, 1) := by decide +kernel
theorem d76_54 : decode (mC M76) 54 = .ok (.ireturn, 1) := by decide +kernel
theorem d76_55 : decode (mC M76) 55 = .ok (.iconst 0, 1) := by decide +kernel
theorem d76_56 : decode (mC M76) 56 = .ok (.istore 4, 2) := by decide +kernel
theorem d76_58 : decode (mC M76) 58 = .ok (.aload_n 0, 1) := by decide +kernel
theorem d76_59 : decode (mC M76) 59 = .ok (.getfield 12, 3) := by decide +kernel
theorem d76_62 : decode (mC M76) 62 = .ok (.ldc 193, 2) := by decide +kernel
theorem d76_64 : decode (mC M76) 64 = .ok (.invokevirtual 90, 3) := by decide +kernel
theorem d76_67 : decode (mC M76) 67 = .ok (.ifCond .eq 13, 3) := by decide +kernel
theorem d76_70 : decode (mC M76) 70 = .ok (.aload_n 0, 1) := by decide +kernel
theorem d76_71 : decode (mC M76) 71 = .ok (.getfield 12, 3) := by decide +kernel
theorem d76_74 : decode (mC M76) 74 = .ok (.invokevirtual 58, 3) := by decide +kernel
theorem d76_77 : decode (mC M76) 77 = .ok (.goto 10, 3) := by decide +kernel
theorem d76_80 : decode (mC M76) 80 = .ok (.aload_n 0, 1) := by decide +kernel
theorem d76_81 : decode (mC M76) 81 = .ok (.aload_n 1, 1) := by decide +kernel
theorem d76_82 : decode (mC M76) 82 = .ok (.invokevirtual 195, 3) := by decide +kernel
theorem d76_85 : decode (mC M76) 85 = .ok (.istore 4, 2) := by decide +kernel
theorem d76_87 : decode (mC M76) 87 = .ok (.iload 4, 2) := by decide +kernel
theorem d76_89 : decode (mC M76) 89 = .ok (.ifCond .ge 5, 3) := by decide +kernel
theorem d76_92 : decode (mC M76) 92 = .ok (.iconst 0, 1) := by decide +kernel
theorem d76_93 : decode (mC M76) 93 = .ok (.ireturn, 1) := by decide +kernel
theorem d76_94 : decode (mC M76) 94 = .ok (.aload_n 1, 1) := by decide +kernel
theorem d76_95 : decode (mC M76) 95 = .ok (.iload_n 2, 1) := by decide +kernel
theorem d76_96 : decode (mC M76) 96 = .ok (.iload_n 3, 1) := by decide +kernel
theorem d76_97 : decode (mC M76) 97 = .ok (.iload 4, 2) := by decide +kernel
theorem d76_99 : decode (mC M76) 99 = .ok (.invokevirtual 199, 3) := by decide +kernel
theorem d76_102 : decode (mC M76) 102 = .ok (.iconst 1, 1) := by decide +kernel
theorem d76_103 : decode (mC M76) 103 = .ok (.ireturn, 1) := by decide +kernel
theorem sc76_0 : ∀ q ∈ tc76_0, Snd xtb M76 q.1 q.2 := List.forall_mem_cons.mpr ⟨snd_aload_n d76_0 rfl, List.forall_mem_cons.mpr ⟨snd_getR (by decide) (by decide) rfl wd380 d76_1, List.forall_mem_cons.mpr ⟨snd_getR (by decide) (by decide) rfl wd363 d76_4, List.forall_mem_cons.mpr ⟨snd_getR (by decide) (by decide) rfl wd249 d76_7, List.forall_mem_cons.mpr ⟨snd_astore_n d76_10 rfl, List.forall_mem_cons.mpr ⟨snd_aload_n d76_11 rfl, List.forall_mem_cons.mpr ⟨snd_aload_n d76_12 rfl, List.forall_mem_cons.mpr ⟨snd_getR (by decide) (by decide) rfl wd379 d76_13, List.forall_mem_cons.mpr ⟨snd_aload_n d76_16 rfl, List.forall_mem_cons.mpr ⟨snd_getR (by decide) (by decide) rfl wd380 d76_17, List.forall_mem_cons.mpr ⟨snd_getR (by decide) (by decide) rfl wd363 d76_20, List.forall_mem_cons.mpr ⟨snd_getI (by decide) (by decide) rfl wd240 d76_23, List.forall_mem_cons.mpr ⟨snd_callV (by decide) rfl cn84 ⟨by decide +kernel, by decide +kernel⟩ cm84 (List.forall_mem_cons.mpr ⟨wd720, cw84⟩) d76_26, List.forall_mem_cons.mpr ⟨snd_istore_n d76_29 rfl, List.forall_mem_cons.mpr ⟨snd_iload_n d76_30 rfl, List.forall_mem_cons.mpr ⟨snd_if_ge d76_31 (by decide), List.forall_mem_cons.mpr ⟨snd_iconst d76_34 (by decide +kernel), List.forall_mem_cons.mpr ⟨snd_zret rfl d76_35, List.forall_mem_cons.mpr ⟨snd_aload_n d76_36 rfl, List.forall_mem_cons.mpr ⟨snd_aload_n d76_37 rfl, List.forall_mem_cons.mpr ⟨snd_iload_n d76_38 rfl, List.forall_mem_cons.mpr ⟨snd_callV (by decide) rfl cn20 ⟨by decide +kernel, by decide +kernel⟩ cm20 (List.forall_mem_cons.mpr ⟨wd744, cw20⟩) d76_39, List.forall_mem_cons.mpr ⟨snd_sipush d76_42 (by decide +kernel), List.forall_mem_cons.mpr ⟨snd_callV (by decide) rfl cn82 ⟨by decide +kernel, by decide +kernel⟩ cm82 (List.forall_mem_cons.mpr ⟨wd669, cw82⟩) d76_45, List.forall_mem_cons.mpr ⟨snd_istore_n d76_48 rfl, List.forall_mem_cons.mpr ⟨snd_iload_n d76_49 rfl, List.forall_mem_cons.mpr ⟨snd_if_ge d76_50 (by decide), List.forall_mem_cons.mpr ⟨snd_iconst d76_53 (by decide +kernel), List.forall_mem_cons.mpr ⟨snd_zret rfl d76_54, List.forall_mem_cons.mpr ⟨snd_iconst d76_55 (by decide +kernel), fun _ h => by cases h⟩⟩⟩⟩⟩⟩⟩⟩⟩⟩⟩⟩⟩⟩⟩⟩⟩⟩⟩⟩⟩⟩⟩⟩⟩⟩⟩⟩⟩⟩
theorem sc76_1 : ∀ q ∈ tc76_1, Snd xtb M76 q.1 q.2 := List.forall_mem_cons.mpr ⟨snd_istore d76_56, List.forall_mem_cons.mpr ⟨snd_aload_n d76_58 rfl, List.forall_mem_cons.mpr ⟨snd_getR (by decide) (by decide) rfl wd376 d76_59, List.forall_mem_cons.mpr ⟨snd_ldcS (tx := "none") d76_62 (by decide +kernel), List.forall_mem_cons.mpr ⟨snd_callV (by decide) rfl cn92 ⟨by decide +kernel, by decide +kernel⟩ cm92 (List.forall_mem_cons.mpr ⟨wd599, cw92⟩) d76_64, List.forall_mem_cons.mpr ⟨snd_if_eq d76_67 (by decide), List.forall_mem_cons.mpr ⟨snd_aload_n d76_70 rfl, List.forall_mem_cons.mpr ⟨snd_getR (by decide) (by decide) rfl wd376 d76_71, List.forall_mem_cons.mpr ⟨snd_callV (by decide) rfl cn89 ⟨by decide +kernel, by decide +kernel⟩ cm89 (List.forall_mem_cons.mpr ⟨wd663, cw89⟩) d76_74, List.forall_mem_cons.mpr ⟨snd_goto d76_77 (by decide), List.forall_mem_cons.mpr ⟨snd_aload_n d76_80 rfl, List.forall_mem_cons.mpr ⟨snd_aload_n d76_81 rfl, List.forall_mem_cons.mpr ⟨snd_callV (by decide) rfl cn77 ⟨by decide +kernel, by decide +kernel⟩ cm77 (List.forall_mem_cons.mpr ⟨wd753, cw77⟩) d76_82, List.forall_mem_cons.mpr ⟨snd_istore d76_85, List.forall_mem_cons.mpr ⟨snd_iload d76_87, List.forall_mem_cons.mpr ⟨snd_if_ge d76_89 (by decide), List.forall_mem_cons.mpr ⟨snd_iconst d76_92 (by decide +kernel), List.forall_mem_cons.mpr ⟨snd_zret rfl d76_93, List.forall_mem_cons.mpr ⟨snd_aload_n d76_94 rfl, List.forall_mem_cons.mpr ⟨snd_iload_n d76_95 rfl, List.forall_mem_cons.mpr ⟨snd_iload_n d76_96 rfl, List.forall_mem_cons.mpr ⟨snd_iload d76_97, List.forall_mem_cons.mpr ⟨snd_callV (by decide) rfl cn32 ⟨by decide +kernel, by decide +kernel⟩ cm32 (List.forall_mem_cons.mpr ⟨wd761, cw32⟩) d76_99, List.forall_mem_cons.mpr ⟨snd_iconst d76_102 (by decide +kernel), List.forall_mem_cons.mpr ⟨snd_zret rfl d76_103, fun _ h => by cases h⟩⟩⟩⟩⟩⟩⟩⟩⟩⟩⟩⟩⟩⟩⟩⟩⟩⟩⟩⟩⟩⟩⟩⟩⟩
theorem d77_0 : decode (mC M77) 0 = .ok (.iconst 0, 1) := by decide +kernel
theorem d77_1 : decode (mC M77) 1 = .ok (.istore_n 2, 1) := by decide +kernel
theorem d77_2 : decode (mC M77) 2 = .ok (.iload_n 2, 1) := by decide +kernel
theorem d77_3 : decode (mC M77) 3 = .ok (.bipush 6, 2) := by decide +kernel
theorem d77_5 : decode (mC M77) 5 = .ok (.if_icmp .ge 79, 3) := by decide +kernel
theorem d77_8 : decode (mC M77) 8 = .ok (.iload_n 2, 1) := by decide +kernel
theorem d77_9 : decode (mC M77) 9 = .ok (.iconst 3, 1) := by decide +kernel
theorem d77_10 : decode (mC M77) 10 = .ok (.if_icmp .lt 14, 3) := by decide +kernel
theorem d77_13 : decode (mC M77) 13 = .ok (.aload_n 0, 1) := by decide +kernel
theorem d77_14 : decode (mC M77) 14 = .ok (.getfield 12, 3) := by decide +kernel
theorem d77_17 : decode (mC M77) 17 = .ok (.getfield 48, 3) := by decide +kernel
theorem d77_20 : decode (mC M77) 20 = .ok (.iconst 2, 1) := by decide +kernel
theorem d77_21 : decode (mC M77) 21 = .ok (.if_icmp .ne 63, 3) := by decide +kernel
theorem d77_24 : decode (mC M77) 24 = .ok (.aload_n 0, 1) := by decide +kernel
theorem d77_25 : decode (mC M77) 25 = .ok (.iconst 0, 1) := by decide +kernel
theorem d77_26 : decode (mC M77) 26 = .ok (.aload_n 0, 1) := by decide +kernel
theorem d77_27 : decode (mC M77) 27 = .ok (.getfield 28, 3) := by decide +kernel
theorem d77_30 : decode (mC M77) 30 = .ok (.getfield 70, 3) := by decide +kernel
theorem d77_33 : decode (mC M77) 33 = .ok (.getfield 202, 3) := by decide +kernel
theorem d77_36 : decode (mC M77) 36 = .ok (.invokevirtual 157, 3) := by decide +kernel
theorem d77_39 : decode (mC M77) 39 = .ok (.istore_n 3, 1) := by decide +kernel
theorem d77_40 : decode (mC M77) 40 = .ok (.iload_n 3, 1) := by decide +kernel
theorem d77_41 : decode (mC M77) 41 = .ok (.ifCond .ge 5, 3) := by decide +kernel
theorem d77_44 : decode (mC M77) 44 = .ok (.iconst (-1), 1) := by decide +kernel
theorem d77_45 : decode (mC M77) 45 = .ok (.ireturn, 1) := by decide +kernel
theorem d77_46 : decode (mC M77) 46 = .ok (.aload_n 0, 1) := by decide +kernel
theorem d77_47 : decode (mC M77) 47 = .ok (.iconst 0, 1) := by decide +kernel
theorem d77_48 : decode (mC M77) 48 = .ok (.aload_n 0, 1) := by decide +kernel
theorem d77_49 : decode (mC M77) 49 = .ok (.getfield 28, 3) := by decide +kernel
theorem d77_52 : decode (mC M77) 52 = .ok (.getfield 70, 3) := by decide +kernel
theorem d77_55 : decode (mC M77) 55 = .ok (.getfield 202, 3) := by decide +kernel
theorem d77_58 : decode (mC M77) 58 = .ok (.invokevirtual 157, 3) := by decide +kernel
theorem d77_61 : decode (mC M77) 61 = .ok (.istore 4, 2) := by decide +kernel
theorem d77_63 : decode (mC M77) 63 = .ok (.iload 4, 2) := by decide +kernel
theorem d77_65 : decode (mC M77) 65 = .ok (.ifCond .ge 5, 3) := by decide +kernel
theorem d77_68 : decode (mC M77) 68 = .ok (.iconst (-1), 1) := by decide +kernel
theorem d77_69 : decode (mC M77) 69 = .ok (.ireturn, 1) := by decide +kernel
theorem d77_70 : decode (mC M77) 70 = .ok (.aload_n 1, 1) := by decide +kernel
theorem d77_71 : decode (mC M77) 71 = .ok (.iload_n 2, 1) := by decide +kernel
theorem d77_72 : decode (mC M77) 72 = .ok (.iload_n 3, 1) := by decide +kernel
theorem d77_73 : decode (mC M77) 73 = .ok (.iload 4, 2) := by decide +kernel
theorem d77_75 : decode (mC M77) 75 = .ok (.invokevirtual 204, 3) := by decide +kernel
theorem d77_78 : decode (mC M77) 78 = .ok (.iinc 2 1, 3) := by decide +kernel
theorem d77_81 : decode (mC M77) 81 = .ok (.goto (-79), 3) := by decide +kernel
theorem d77_84 : decode (mC M77) 84 = .ok (.iload_n 2, 1) := by decide +kernel
theorem d77_85 : decode (mC M77) 85 = .ok (.ireturn, 1) := by decide +kernel
theorem sc77_0 : ∀ q ∈ tc77_0, Snd xtb M77 q.1 q.2 := List.forall_mem_cons.mpr ⟨snd_iconst d77_0 (by decide +kernel), List.forall_mem_cons.mpr ⟨snd_istore_n d77_1 rfl, List.forall_mem_cons.mpr ⟨snd_iload_n d77_2 rfl, List.forall_mem_cons.mpr ⟨snd_bipush d77_3 (by decide +kernel), List.forall_mem_cons.mpr ⟨snd_cmp_ge d77_5 (by decide), List.forall_mem_cons.mpr ⟨snd_iload_n d77_8 rfl, List.forall_mem_cons.mpr ⟨snd_iconst d77_9 (by decide +kernel), List.forall_mem_cons.mpr ⟨snd_cmp_lt d77_10 (by decide), List.forall_mem_cons.mpr ⟨snd_aload_n d77_13 rfl, List.forall_mem_cons.mpr ⟨snd_getR (by decide) (by decide) rfl wd376 d77_14, List.forall_mem_cons.mpr ⟨snd_getI (by decide) (by decide) rfl wd160 d77_17, List.forall_mem_cons.mpr ⟨snd_iconst d77_20 (by decide +kernel), List.forall_mem_cons.mpr ⟨snd_cmp_ne d77_21 (by decide), List.forall_mem_cons.mpr ⟨snd_aload_n d77_24 rfl, List.forall_mem_cons.mpr ⟨snd_iconst d77_25 (by decide +kernel), List.forall_mem_cons.mpr ⟨snd_aload_n d77_26 rfl, List.forall_mem_cons.mpr ⟨snd_getR (by decide) (by decide) rfl wd380 d77_27, List.forall_mem_cons.mpr ⟨snd_getR (by decide) (by decide) rfl wd363 d77_30, List.forall_mem_cons.mpr ⟨snd_getI (by decide) (by decide) rfl wd233 d77_33, List.forall_mem_cons.mpr ⟨snd_callV (by decide) rfl cn82 ⟨by decide +kernel, by decide +kernel⟩ cm82 (List.forall_mem_cons.mpr ⟨wd669, cw82⟩) d77_36, List.forall_mem_cons.mpr ⟨snd_istore_n d77_39 rfl, List.forall_mem_cons.mpr ⟨snd_iload_n d77_40 rfl, List.forall_mem_cons.mpr ⟨snd_if_ge d77_41 (by decide), List.forall_mem_cons.mpr ⟨snd_iconst d77_44 (by decide +kernel), List.forall_mem_cons.mpr ⟨snd_iret rfl d77_45, List.forall_mem_cons.mpr ⟨snd_aload_n d77_46 rfl, List.forall_mem_cons.mpr ⟨snd_iconst d77_47 (by decide +kernel), List.forall_mem_cons.mpr ⟨snd_aload_n d77_48 rfl, List.forall_mem_cons.mpr ⟨snd_getR (by decide) (by decide) rfl wd380 d77_49, List.forall_mem_cons.mpr ⟨snd_getR (by decide) (by decide) rfl wd363 d77_52, fun _ h => by cases h⟩⟩⟩⟩⟩⟩⟩⟩⟩⟩⟩⟩⟩⟩⟩⟩⟩⟩⟩⟩⟩⟩⟩⟩⟩⟩⟩⟩⟩⟩
theorem sc77_1 : ∀ q ∈ tc77_1, Snd xtb M77 q.1 q.2 := List.forall_mem_cons.mpr ⟨snd_getI (by decide) (by decide) rfl wd233 d77_55, List.forall_mem_cons.mpr ⟨snd_callV (by decide) rfl cn82 ⟨by decide +kernel, by decide +kernel⟩ cm82 (List.forall_mem_cons.mpr ⟨wd669, cw82⟩) d77_58, List.forall_mem_cons.mpr ⟨snd_istore d77_61, List.forall_mem_cons.mpr ⟨snd_iload d77_63, List.forall_mem_cons.mpr ⟨snd_if_ge d77_65 (by decide), List.forall_mem_cons.mpr ⟨snd_iconst d77_68 (by decide +kernel), List.forall_mem_cons.mpr ⟨snd_iret rfl d77_69, List.forall_mem_cons.mpr ⟨snd_aload_n d77_70 rfl, List.forall_mem_cons.mpr ⟨snd_iload_n d77_71 rfl, List.forall_mem_cons.mpr ⟨snd_iload_n d77_72 rfl, List.forall_mem_cons.mpr ⟨snd_iload d77_73, List.forall_mem_cons.mpr ⟨snd_callV (by decide) rfl cn31 ⟨by decide +kernel, by decide +kernel⟩ cm31 (List.forall_mem_cons.mpr ⟨wd757, cw31⟩) d77_75, List.forall_mem_cons.mpr ⟨snd_iinc d77_78 (by decide +kernel), List.forall_mem_cons.mpr ⟨snd_goto d77_81 (by decide), List.forall_mem_cons.mpr ⟨snd_iload_n d77_84 rfl, List.forall_mem_cons.mpr ⟨snd_iret rfl d77_85, fun _ h => by cases h⟩⟩⟩⟩⟩⟩⟩⟩⟩⟩⟩⟩⟩⟩⟩⟩
theorem d78_0 : decode (mC M78) 0 = .ok (.aload_n 0, 1) := by decide +kernel
theorem d78_1 : decode (mC M78) 1 = .ok (.getfield 28, 3) := by decide +kernel
theorem d78_4 : decode (mC M78) 4 = .ok (.getfield 61, 3) := by decide +kernel
theorem d78_7 : decode (mC M78) 7 = .ok (.getfield 126, 3) := by decide +kernel
theorem d78_10 : decode (mC M78) 10 = .ok (.astore_n 1, 1) := by decide +kernel
theorem d78_11 : decode (mC M78) 11 = .ok (.aload_n 0, 1) := by decide +kernel
theorem d78_12 : decode (mC M78) 12 = .ok (.aload_n 0, 1) := by decide +kernel
theorem d78_13 : decode (mC M78) 13 = .ok (.getfield 22, 3) := by decide +kernel
theorem d78_16 : decode (mC M78) 16 = .ok (.aload_n 0, 1) := by decide +kernel
theorem d78_17 : decode (mC M78) 17 = .ok (.getfield 28, 3) := by decide +kernel
theorem d78_20 : decode (mC M78) 20 = .ok (.getfield 70, 3) := by decide +kernel
theorem d78_23 : decode (mC M78) 23 = .ok (.getfield 74, 3) := by decide +kernel
theorem d78_26 : decode (mC M78) 26 = .ok (.invokevirtual 172, 3) := by decide +kernel
theorem d78_29 : decode (mC M78) 29 = .ok (.istore_n 2, 1) := by decide +kernel
theorem d78_30 : decode (mC M78) 30 = .ok (.iload_n 2, 1) := by decide +kernel
theorem d78_31 : decode (mC M78) 31 = .ok (.ifCond .ge 7, 3) := by decide +kernel
theorem d78_34 : decode (mC M78) 34 = .ok (.iconst (-1), 1) := by decide +kernel
theorem d78_35 : decode (mC M78) 35 = .ok (.goto 21, 3) := by decide +kernel
theorem d78_38 : decode (mC M78) 38 = .ok (.aload_n 0, 1) := by decide +kernel
theorem d78_39 : decode (mC M78) 39 = .ok (.aload_n 0, 1) := by decide +kernel
theorem d78_40 : decode (mC M78) 40 = .ok (.getfield 18, 3) := by decide +kernel
theorem d78_43 : decode (mC M78) 43 = .ok (.aload_n 0, 1) := by decide +kernel
theorem d78_44 : decode (mC M78) 44 = .ok (.getfield 28, 3) := by decide +kernel
theorem d78_47 : decode (mC M78) 47 = .ok (.getfield 61, 3) := by decide +kernel
theorem d78_50 : decode (mC M78) 50 = .ok (.getfield 65, 3) := by decide +kernel
theorem d78_53 : decode (mC M78) 53 = .ok (.invokevirtual 172, 3) := by decide +kernel
theorem d78_56 : decode (mC M78) 56 = .ok (.istore_n 3, 1) := by decide +kernel
theorem d78_57 : decode (mC M78) 57 = .ok (.iload_n 3, 1) := by decide +kernel
theorem d78_58 : decode (mC M78) 58 = .ok (.ifCond .ge 5, 3) := by decide +kernel
theorem d78_61 : decode (mC M78) 61 = .ok (.iconst 0, 1) := by decide +kernel
theorem d78_62 : decode (mC M78) 62 = .ok (.ireturn, 1) := by decide +kernel
theorem d78_63 : decode (mC M78) 63 = .ok (.aload_n 0, 1) := by decide +kernel
theorem d78_64 : decode (mC M78) 64 = .ok (.aload_n 1, 1) := by decide +kernel
theorem d78_65 : decode (mC M78) 65 = .ok (.iload_n 2, 1) := by decide +kernel
theorem d78_66 : decode (mC M78) 66 = .ok (.iload_n 3, 1) := by decide +kernel
theorem d78_67 : decode (mC M78) 67 = .ok (.invokevirtual 207, 3) := by decide +kernel
theorem d78_70 : decode (mC M78) 70 = .ok (.sipush 999, 3) := by decide +kernel
theorem d78_73 : decode (mC M78) 73 = .ok (.invokevirtual 157, 3) := by decide +kernel
theorem d78_76 : decode (mC M78) 76 = .ok (.istore 4, 2) := by decide +kernel
theorem d78_78 : decode (mC M78) 78 = .ok (.iload 4, 2) := by decide +kernel
theorem d78_80 : decode (mC M78) 80 = .ok (.ifCond .ge 7, 3) := by decide +kernel
theorem d78_83 : decode (mC M78) 83 = .ok (.iconst (-1), 1) := by decide +kernel
theorem d78_84 : decode (mC M78) 84 = .ok (.goto 11, 3) := by decide +kernel
theorem d78_87 : decode (mC M78) 87 = .ok (.aload_n 0, 1) := by decide +kernel
theorem d78_88 : decode (mC M78) 88 = .ok (.iconst 0, 1) := by decide +kernel
theorem d78_89 : decode (mC M78) 89 = .ok (.sipush 2500, 3) := by decide +kernel
theorem d78_92 : decode (mC M78) 92 = .ok (.invokevirtual 157, 3) := by decide +kernel
theorem d78_95 : decode (mC M78) 95 = .ok (.istore 5, 2) := by decide +kernel
theorem d78_97 : decode (mC M78) 97 = .ok (.iload 5, 2) := by decide +kernel
theorem d78_99 : decode (mC M78) 99 = .ok (.ifCond .ge 5, 3) := by decide +kernel
theorem d78_102 : decode (mC M78) 102 = .ok (.iconst 0, 1) := by decide +kernel
theorem d78_103 : decode (mC M78) 103 = .ok (.ireturn, 1) := by decide +kernel
theorem d78_104 : decode (mC M78) 104 = .ok (.aload_n 1, 1) := by decide +kernel
theorem d78_105 : decode (mC M78) 105 = .ok (.iload_n 2, 1) := by decide +kernel
theorem d78_106 : decode (mC M78) 106 = .ok (.iload_n 3, 1) := by decide +kernel
theorem d78_107 : decode (mC M78) 107 = .ok (.iload 4, 2) := by decide +kernel
theorem d78_109 : decode (mC M78) 109 = .ok (.iload 5, 2) := by decide +kernel
theorem d78_111 : decode (mC M78) 111 = .ok (.invokevirtual 209, 3) := by decide +kernel
theorem d78_114 : decode (mC M78) 114 = .ok (.iconst 1, 1) := by decide +kernel
theorem d78_115 : decode (mC M78) 115 = .ok (.ireturn, 1) := by decide +kernel
theorem sc78_0 : ∀ q ∈ tc78_0, Snd xtb M78 q.1 q.2 := List.forall_mem_cons.mpr ⟨snd_aload_n d78_0 rfl, List.forall_mem_cons.mpr ⟨snd_getR (by decide) (by decide) rfl wd380 d78_1, List.forall_mem_cons.mpr ⟨snd_getR (by decide) (by decide) rfl wd366 d78_4, List.forall_mem_cons.mpr ⟨snd_getR (by decide) (by decide) rfl wd319 d78_7, List.forall_mem_cons.mpr ⟨snd_astore_n d78_10 rfl, List.forall_mem_cons.mpr ⟨snd_aload_n d78_11 rfl, List.forall_mem_cons.mpr ⟨snd_aload_n d78_12 rfl, List.forall_mem_cons.mpr ⟨snd_getR (by decide) (by decide) rfl wd379 d78_13, List.forall_mem_cons.mpr ⟨snd_aload_n d78_16 rfl, List.forall_mem_cons.mpr ⟨snd_getR (by decide) (by decide) rfl wd380 d78_17, List.forall_mem_cons.mpr ⟨snd_getR (by decide) (by decide) rfl wd363 d78_20, List.forall_mem_cons.mpr ⟨snd_getI (by decide) (by decide) rfl wd240 d78_23, List.forall_mem_cons.mpr ⟨snd_callV (by decide) rfl cn84 ⟨by decide +kernel, by decide +kernel⟩ cm84 (List.forall_mem_cons.mpr ⟨wd720, cw84⟩) d78_26, List.forall_mem_cons.mpr ⟨snd_istore_n d78_29 rfl, List.forall_mem_cons.mpr ⟨snd_iload_n d78_30 rfl, List.forall_mem_cons.mpr ⟨snd_if_ge d78_31 (by decide), List.forall_mem_cons.mpr ⟨snd_iconst d78_34 (by decide +kernel), List.forall_mem_cons.mpr ⟨snd_goto d78_35 (by decide), List.forall_mem_cons.mpr ⟨snd_aload_n d78_38 rfl, List.forall_mem_cons.mpr ⟨snd_aload_n d78_39 rfl, List.forall_mem_cons.mpr ⟨snd_getR (by decide) (by decide) rfl wd378 d78_40, List.forall_mem_cons.mpr ⟨snd_aload_n d78_43 rfl, List.forall_mem_cons.mpr ⟨snd_getR (by decide) (by decide) rfl wd380 d78_44, List.forall_mem_cons.mpr ⟨snd_getR (by decide) (by decide) rfl wd366 d78_47, List.forall_mem_cons.mpr ⟨snd_getI (by decide) (by decide) rfl wd312 d78_50, List.forall_mem_cons.mpr ⟨snd_callV (by decide) rfl cn84 ⟨by decide +kernel, by decide +kernel⟩ cm84 (List.forall_mem_cons.mpr ⟨wd720, cw84⟩) d78_53, List.forall_mem_cons.mpr ⟨snd_istore_n d78_56 rfl, List.forall_mem_cons.mpr ⟨snd_iload_n d78_57 rfl, List.forall_mem_cons.mpr ⟨snd_if_ge d78_58 (by decide), List.forall_mem_cons.mpr ⟨snd_iconst d78_61 (by decide +kernel), fun _ h => by cases h⟩⟩⟩⟩⟩⟩⟩⟩⟩⟩⟩⟩⟩⟩⟩⟩⟩⟩⟩⟩⟩⟩⟩⟩⟩⟩⟩⟩⟩⟩
theorem sc78_1 : ∀ q ∈ tc78_1, Snd xtb M78 q.1 q.2 := List.forall_mem_cons.mpr ⟨snd_zret rfl d78_62, List.forall_mem_cons.mpr ⟨snd_aload_n d78_63 rfl, List.forall_mem_cons.mpr ⟨snd_aload_n d78_64 rfl, List.forall_mem_cons.mpr ⟨snd_iload_n d78_65 rfl, List.forall_mem_cons.mpr ⟨snd_iload_n d78_66 rfl, List.forall_mem_cons.mpr ⟨snd_callV (by decide) rfl cn64 ⟨by decide +kernel, by decide +kernel⟩ cm64 (List.forall_mem_cons.mpr ⟨wd770, cw64⟩) d78_67, List.forall_mem_cons.mpr ⟨snd_sipush d78_70 (by decide +kernel), List.forall_mem_cons.mpr ⟨snd_callV (by decide) rfl cn82 ⟨by decide +kernel, by decide +kernel⟩ cm82 (List.forall_mem_cons.mpr ⟨wd669, cw82⟩) d78_73, List.forall_mem_cons.mpr ⟨snd_istore d78_76, List.forall_mem_cons.mpr ⟨snd_iload d78_78, List.forall_mem_cons.mpr ⟨snd_if_ge d78_80 (by decide), List.forall_mem_cons.mpr ⟨snd_iconst d78_83 (by decide +kernel), List.forall_mem_cons.mpr ⟨snd_goto d78_84 (by decide), List.forall_mem_cons.mpr ⟨snd_aload_n d78_87 rfl, List.forall_mem_cons.mpr ⟨snd_iconst d78_88 (by decide +kernel), List.forall_mem_cons.mpr ⟨snd_sipush d78_89 (by decide +kernel), List.forall_mem_cons.mpr ⟨snd_callV (by decide) rfl cn82 ⟨by decide +kernel, by decide +kernel⟩ cm82 (List.forall_mem_cons.mpr ⟨wd669, cw82⟩) d78_92, List.forall_mem_cons.mpr ⟨snd_istore d78_95, List.forall_mem_cons.mpr ⟨snd_iload d78_97, List.forall_mem_cons.mpr ⟨snd_if_ge d78_99 (by decide), List.forall_mem_cons.mpr ⟨snd_iconst d78_102 (by decide +kernel), List.forall_mem_cons.mpr ⟨snd_zret rfl d78_103, List.forall_mem_cons.mpr ⟨snd_aload_n d78_104 rfl, List.forall_mem_cons.mpr ⟨snd_iload_n d78_105 rfl, List.forall_mem_cons.mpr ⟨snd_iload_n d78_106 rfl, List.forall_mem_cons.mpr ⟨snd_iload d78_107, List.forall_mem_cons.mpr ⟨snd_iload d78_109, List.forall_mem_cons.mpr ⟨snd_callV (by decide) rfl cn65 ⟨by decide +kernel, by decide +kernel⟩ cm65 (List.forall_mem_cons.mpr ⟨wd778, cw65⟩) d78_111, List.forall_mem_cons.mpr ⟨snd_iconst d78_114 (by decide +kernel), List.forall_mem_cons.mpr ⟨snd_zret rfl d78_115, fun _ h => by cases h⟩⟩⟩⟩⟩⟩⟩⟩⟩⟩⟩⟩⟩⟩⟩⟩⟩⟩⟩⟩⟩⟩⟩⟩⟩⟩⟩⟩⟩⟩
theorem d79_0 : decode (mC M79) 0 = .ok (.aload_n 0, 1) := by decide +kernel
theorem d79_1 : decode (mC M79) 1 = .ok (.aload_n 0, 1) := by decide +kernel
theorem d79_2 : decode (mC M79) 2 = .ok (.getfield 22, 3) := by decide +kernel
theorem d79_5 : decode (mC M79) 5 = .ok (.aload_n 0, 1) := by decide +kernel
theorem d79_6 : decode (mC M79) 6 = .ok (.getfield 28, 3) := by decide +kernel
theorem d79_9 : decode (mC M79) 9 = .ok (.getfield 70, 3) := by decide +kernel
theorem d79_12 : decode (mC M79) 12 = .ok (.getfield 74, 3) := by decide +kernel
theorem d79_15 : decode (mC M79) 15 = .ok (.invokevirtual 172, 3) := by decide +kernel
theorem d79_18 : decode (mC M79) 18 = .ok (.istore_n 1, 1) := by decide +kernel
theorem d79_19 : decode (mC M79) 19 = .ok (.iload_n 1, 1) := by decide +kernel
theorem d79_20 : decode (mC M79) 20 = .ok (.ifCond .ge 7, 3) := by decide +kernel
theorem d79_23 : decode (mC M79) 23 = .ok (.iconst (-1), 1) := by decide +kernel
theorem d79_24 : decode (mC M79) 24 = .ok (.goto 21, 3) := by decide +kernel
theorem d79_27 : decode (mC M79) 27 = .ok (.aload_n 0, 1) := by decide +kernel
theorem d79_28 : decode (mC M79) 28 = .ok (.aload_n 0, 1) := by decide +kernel
theorem d79_29 : decode (mC M79) 29 = .ok (.getfield 18, 3) := by decide +kernel
theorem d79_32 : decode (mC M79) 32 = .ok (.aload_n 0, 1) := by decide +kernel
theorem d79_33 : decode (mC M79) 33 = .ok (.getfield 28, 3) := by decide +kernel
theorem d79_36 : decode (mC M79) 36 = .ok (.getfield 61, 3) := by decide +kernel
theorem d79_39 : decode (mC M79) 39 = .ok (.getfield 65, 3) := by decide +kernel
theorem d79_42 : decode (mC M79) 42 = .ok (.invokevirtual 172, 3) := by decide +kernel
theorem d79_45 : decode (mC M79) 45 = .ok (.istore_n 2, 1) := by decide +kernel
theorem d79_46 : decode (mC M79) 46 = .ok (.iload_n 2, 1) := by decide +kernel
theorem d79_47 : decode (mC M79) 47 = .ok (.ifCond .ge 5, 3) := by decide +kernel
theorem d79_50 : decode (mC M79) 50 = .ok (.iconst 0, 1) := by decide +kernel
theorem d79_51 : decode (mC M79) 51 = .ok (.ireturn, 1) := by decide +kernel
theorem d79_52 : decode (mC M79) 52 = .ok (.aload_n 0, 1) := by decide +kernel
theorem d79_53 : decode (mC M79) 53 = .ok (.iconst 0, 1) := by decide +kernel
theorem d79_54 : decode (mC M79) 54 = .ok (.sipush 999, 3) := by decide +kernel
theorem d79_57 : decode (mC M79) 57 = .ok (.invokevirtual 157, 3) := by decide +kernel
theorem d79_60 : decode (mC M79) 60 = .ok (.istore_n 3, 1) := by decide +kernel
theorem d79_61 : decode (mC M79) 61 = .ok (.iload_n 3, 1) := by decide +kernel
theorem d79_62 : decode (mC M79) 62 = .ok (.ifCond .ge 7, 3) := by decide +kernel
theorem d79_65 : decode (mC M79) 65 = .ok (.iconst (-1), 1) := by decide +kernel
theorem d79_66 : decode (mC M79) 66 = .ok (.goto 11, 3) := by decide +kernel
theorem d79_69 : decode (mC M79) 69 = .ok (.aload_n 0, 1) := by decide +kernel
theorem d79_70 : decode (mC M79) 70 = .ok (.iload_n 3, 1) := by decide +kernel
theorem d79_71 : decode (mC M79) 71 = .ok (.sipush 999, 3) := by decide +kernel
theorem d79_74 : decode (mC M79) 74 = .ok (.invokevirtual 157, 3) := by decide +kernel
theorem d79_77 : decode (mC M79) 77 = .ok (.istore 4, 2) := by decide +kernel
theorem d79_79 : decode (mC M79) 79 = .ok (.iload 4, 2) := by decide +kernel
theorem d79_81 : decode (mC M79) 81 = .ok (.ifCond .lt 12, 3) := by decide +kernel
theorem d79_84 : decode (mC M79) 84 = .ok (.aload_n 0, 1) := by decide +kernel
theorem d79_85 : decode (mC M79) 85 = .ok (.ldc 212, 2) := by decide +kernel
theorem d79_87 : decode (mC M79) 87 = .ok (.invokevirtual 154, 3) := by decide +kernel
theorem d79_90 : decode (mC M79) 90 = .ok (.ifCond .ne 5, 3) := by decide +kernel
theorem d79_93 : decode (mC M79) 93 = .ok (.iconst 0, 1) := by decide +kernel
theorem d79_94 : decode (mC M79) 94 = .ok (.ireturn, 1) := by decide +kernel
theorem d79_95 : decode (mC M79) 95 = .ok (.aload_n 0, 1) := by decide +kernel
theorem d79_96 : decode (mC M79) 96 = .ok (.iconst 1, 1) := by decide +kernel
theorem d79_97 : decode (mC M79) 97 = .ok (.sipush 9999, 3) := by decide +kernel
theorem d79_100 : decode (mC M79) 100 = .ok (.invokevirtual 157, 3) := by decide +kernel
theorem d79_103 : decode (mC M79) 103 = .ok (.istore 5, 2) := by decide +kernel
theorem d79_105 : decode (mC M79) 105 = .ok (.iload 5, 2) := by decide +kernel
theorem d79_107 : decode (mC M79) 107 = .ok (.ifCond .ge 5, 3) := by decide +kernel
theorem d79_110 : decode (mC M79) 110 = .ok (.iconst 0, 1) := by decide +kernel
theorem d79_111 : decode (mC M79) 111 = .ok (.ireturn, 1) := by decide +kernel
theorem d79_112 : decode (mC M79) 112 = .ok (.aload_n 0, 1) := by decide +kernel
theorem d79_113 : decode (mC M79) 113 = .ok (.getfield 28, 3) := by decide +kernel
theorem d79_116 : decode (mC M79) 116 = .ok (.getfield 61, 3) := by decide +kernel
theorem d79_119 : decode (mC M79) 119 = .ok (.iload_n 1, 1) := by decide +kernel
theorem d79_120 : decode (mC M79) 120 = .ok (.iload_n 2, 1) := by decide +kernel
theorem d79_121 : decode (mC M79) 121 = .ok (.iload_n 3, 1) := by decide +kernel
theorem d79_122 : decode (mC M79) 122 = .ok (.iload 4, 2) := by decide +kernel
theorem d79_124 : decode (mC M79) 124 = .ok (.iload 5, 2) := by decide +kernel
theorem d79_126 : decode (mC M79) 126 = .ok (.invokevirtual 214, 3) := by decide +kernel
theorem d79_129 : decode (mC M79) 129 = .ok (.iconst 1, 1) := by decide +kernel
theorem d79_130 : decode (mC M79) 130 = .ok (.ireturn, 1) := by decide +kernel
theorem sc79_0 : ∀ q ∈ tc79_0, Snd xtb M79 q.1 q.2 := List.forall_mem_cons.mpr ⟨snd_aload_n d79_0 rfl, List.forall_mem_cons.mpr ⟨snd_aload_n d79_1 rfl, List.forall_mem_cons.mpr ⟨snd_getR (by decide) (by decide) rfl wd379 d79_2, List.forall_mem_cons.mpr ⟨snd_aload_n d79_5 rfl, List.forall_mem_cons.mpr ⟨snd_getR (by decide) (by decide) rfl wd380 d79_6, List.forall_mem_cons.mpr ⟨snd_getR (by decide) (by decide) rfl wd363 d79_9, List.forall_mem_cons.mpr ⟨snd_getI (by decide) (by decide) rfl wd240 d79_12, List.forall_mem_cons.mpr ⟨snd_callV (by decide) rfl cn84 ⟨by decide +kernel, by decide +kernel⟩ cm84 (List.forall_mem_cons.mpr ⟨wd720, cw84⟩) d79_15, List.forall_mem_cons.mpr ⟨snd_istore_n d79_18 rfl, List.forall_mem_cons.mpr ⟨snd_iload_n d79_19 rfl, List.forall_mem_cons.mpr ⟨snd_if_ge d79_20 (by decide), List.forall_mem_cons.mpr ⟨snd_iconst d79_23 (by decide +kernel), List.forall_mem_cons.mpr ⟨snd_goto d79_24 (by decide), List.forall_mem_cons.mpr ⟨snd_aload_n d79_27 rfl, List.forall_mem_cons.mpr ⟨snd_aload_n d79_28 rfl, List.forall_mem_cons.mpr ⟨snd_getR (by decide) (by decide) rfl wd378 d79_29, List.forall_mem_cons.mpr ⟨snd_aload_n d79_32 rfl, List.forall_mem_cons.mpr ⟨snd_getR (by decide) (by decide) rfl wd380 d79_33, List.forall_mem_cons.mpr ⟨snd_getR (by decide) (by decide) rfl wd366 d79_36, List.forall_mem_cons.mpr ⟨snd_getI (by decide) (by decide) rfl wd312 d79_39, List.forall_mem_cons.mpr ⟨snd_callV (by decide) rfl cn84 ⟨by decide +kernel, by decide +kernel⟩ cm84 (List.forall_mem_cons.mpr ⟨wd720, cw84⟩) d79_42, List.forall_mem_cons.mpr ⟨snd_istore_n d79_45 rfl, List.forall_mem_cons.mpr ⟨snd_iload_n d79_46 rfl, List.forall_mem_cons.mpr ⟨snd_if_ge d79_47 (by decide), List.forall_mem_cons.mpr ⟨snd_iconst d79_50 (by decide +kernel), List.forall_mem_cons.mpr ⟨snd_zret rfl d79_51, List.forall_mem_cons.mpr ⟨snd_aload_n d79_52 rfl, List.forall_mem_cons.mpr ⟨snd_iconst d79_53 (by decide +kernel), List.forall_mem_cons.mpr ⟨snd_sipush d79_54 (by decide +kernel), List.forall_mem_cons.mpr ⟨snd_callV (by decide) rfl cn82 ⟨by decide +kernel, by decide +kernel⟩ cm82 (List.forall_mem_cons.mpr ⟨wd669, cw82⟩) d79_57, fun _ h => by cases h⟩⟩⟩⟩⟩⟩⟩⟩⟩⟩⟩⟩⟩⟩⟩⟩⟩⟩⟩⟩⟩⟩⟩⟩⟩⟩⟩⟩⟩⟩
theorem sc79_1 : ∀ q ∈ tc79_1, Snd xtb M79 q.1 q.2 := List.forall_mem_cons.mpr ⟨snd_istore_n d79_60 rfl, List.forall_mem_cons.mpr ⟨snd_iload_n d79_61 rfl, List.forall_mem_cons.mpr ⟨snd_if_ge d79_62 (by decide), List.forall_mem_cons.mpr ⟨snd_iconst d79_65 (by decide +kernel), List.forall_mem_cons.mpr ⟨snd_goto d79_66 (by decide), List.forall_mem_cons.mpr ⟨snd_aload_n d79_69 rfl, List.forall_mem_cons.mpr ⟨snd_iload_n d79_70 rfl, List.forall_mem_cons.mpr ⟨snd_sipush d79_71 (by decide +kernel), List.forall_mem_cons.mpr ⟨snd_callV (by decide) rfl cn82 ⟨by decide +kernel, by decide +kernel⟩ cm82 (List.forall_mem_cons.mpr ⟨wd669, cw82⟩) d79_74, List.forall_mem_cons.mpr ⟨snd_istore d79_77, List.forall_mem_cons.mpr ⟨snd_iload d79_79, List.forall_mem_cons.mpr ⟨snd_if_lt d79_81 (by decide), List.forall_mem_cons.mpr ⟨snd_aload_n d79_84 rfl, List.forall_mem_cons.mpr ⟨snd_ldcS (tx := "price") d79_85 (by decide +kernel), List.forall_mem_cons.mpr ⟨snd_callV (by decide) rfl cn81 ⟨by decide +kernel, by decide +kernel⟩ cm81 (List.forall_mem_cons.mpr ⟨wd665, cw81⟩) d79_87, List.forall_mem_cons.mpr ⟨snd_if_ne d79_90 (by decide), List.forall_mem_cons.mpr ⟨snd_iconst d79_93 (by decide +kernel), List.forall_mem_cons.mpr ⟨snd_zret rfl d79_94, List.forall_mem_cons.mpr ⟨snd_aload_n d79_95 rfl, List.forall_mem_cons.mpr ⟨snd_iconst d79_96 (by decide +kernel), List.forall_mem_cons.mpr ⟨snd_sipush d79_97 (by decide +kernel), List.forall_mem_cons.mpr ⟨snd_callV (by decide) rfl cn82 ⟨by decide +kernel, by decide +kernel⟩ cm82 (List.forall_mem_cons.mpr ⟨wd669, cw82⟩) d79_100, List.forall_mem_cons.mpr ⟨snd_istore d79_103, List.forall_mem_cons.mpr ⟨snd_iload d79_105, List.forall_mem_cons.mpr ⟨snd_if_ge d79_107 (by decide), List.forall_mem_cons.mpr ⟨snd_iconst d79_110 (by decide +kernel), List.forall_mem_cons.mpr ⟨snd_zret rfl d79_111, List.forall_mem_cons.mpr ⟨snd_aload_n d79_112 rfl, List.forall_mem_cons.mpr ⟨snd_getR (by decide) (by decide) rfl wd380 d79_113, List.forall_mem_cons.mpr ⟨snd_getR (by decide) (by decide) rfl wd366 d79_116, fun _ h => by cases h⟩⟩⟩⟩⟩⟩⟩⟩⟩⟩⟩⟩⟩⟩⟩⟩⟩⟩⟩⟩⟩⟩⟩⟩⟩⟩⟩⟩⟩⟩
theorem sc79_2 : ∀ q ∈ tc79_2, Snd xtb M79 q.1 q.2 := List.forall_mem_cons.mpr ⟨snd_iload_n d79_119 rfl, List.forall_mem_cons.mpr ⟨snd_iload_n d79_120 rfl, List.forall_mem_cons.mpr ⟨snd_iload_n d79_121 rfl, List.forall_mem_cons.mpr ⟨snd_iload d79_122, List.forall_mem_cons.mpr ⟨snd_iload d79_124, List.forall_mem_cons.mpr ⟨snd_callV (by decide) rfl cn97 ⟨by decide +kernel, by decide +kernel⟩ cm97 (List.forall_mem_cons.mpr ⟨wd788, cw97⟩) d79_126, List.forall_mem_cons.mpr ⟨snd_iconst d79_129 (by decide +kernel), List.forall_mem_cons.mpr ⟨snd_zret rfl d79_130, fun _ h => by cases h⟩⟩⟩⟩⟩⟩⟩⟩
theorem d80_0 : decode (mC M80) 0 = .ok (.aload_n 0, 1) := by decide +kernel
theorem d80_1 : decode (mC M80) 1 = .ok (.aload_n 0, 1) := by decide +kernel
theorem d80_2 : decode (mC M80) 2 = .ok (.getfield 22, 3) := by decide +kernel
theorem d80_5 : decode (mC M80) 5 = .ok (.aload_n 0, 1) := by decide +kernel
theorem d80_6 : decode (mC M80) 6 = .ok (.getfield 28, 3) := by decide +kernel
theorem d80_9 : decode (mC M80) 9 = .ok (.getfield 70, 3) := by decide +kernel
theorem d80_12 : decode (mC M80) 12 = .ok (.getfield 74, 3) := by decide +kernel
theorem d80_15 : decode (mC M80) 15 = .ok (.invokevirtual 172, 3) := by decide +kernel
theorem d80_18 : decode (mC M80) 18 = .ok (.istore_n 1, 1) := by decide +kernel
theorem d80_19 : decode (mC M80) 19 = .ok (.aload_n 0, 1) := by decide +kernel
theorem d80_20 : decode (mC M80) 20 = .ok (.getfield 12, 3) := by decide +kernel
theorem d80_23 : decode (mC M80) 23 = .ok (.getfield 79, 3) := by decide +kernel
theorem d80_26 : decode (mC M80) 26 = .ok (.istore_n 2, 1) := by decide +kernel
theorem d80_27 : decode (mC M80) 27 = .ok (.iload_n 1, 1) := by decide +kernel
theorem d80_28 : decode (mC M80) 28 = .ok (.ifCond .ge 7, 3) := by decide +kernel
theorem d80_31 : decode (mC M80) 31 = .ok (.iconst (-1), 1) := by decide +kernel
theorem d80_32 : decode (mC M80) 32 = .ok (.goto 21, 3) := by decide +kernel
theorem d80_35 : decode (mC M80) 35 = .ok (.aload_n 0, 1) := by decide +kernel
theorem d80_36 : decode (mC M80) 36 = .ok (.aload_n 0, 1) := by decide +kernel
theorem d80_37 : decode (mC M80) 37 = .ok (.getfield 18, 3) := by decide +kernel
theorem d80_40 : decode (mC M80) 40 = .ok (.aload_n 0, 1) := by decide +kernel
theorem d80_41 : decode (mC M80) 41 = .ok (.getfield 28, 3) := by decide +kernel
theorem d80_44 : decode (mC M80) 44 = .ok (.getfield 61, 3) := by decide +kernel
theorem d80_47 : decode (mC M80) 47 = .ok (.getfield 65, 3) := by decide +kernel
theorem d80_50 : decode (mC M80) 50 = .ok (.invokevirtual 172, 3) := by decide +kernel
theorem d80_53 : decode (mC M80) 53 = .ok (.istore_n 3, 1) := by decide +kernel
theorem d80_54 : decode (mC M80) 54 = .ok (.iload_n 3, 1) := by decide +kernel
theorem d80_55 : decode (mC M80) 55 = .ok (.ifCond .ge 5, 3) := by decide +kernel
theorem d80_58 : decode (mC M80) 58 = .ok (.iconst 0, 1) := by decide +kernel
theorem d80_59 : decode (mC M80) 59 = .ok (.ireturn, 1) := by decide +kernel
theorem d80_60 : decode (mC M80) 60 = .ok (.aload_n 0, 1) := by decide +kernel
theorem d80_61 : decode (mC M80) 61 = .ok (.getfield 28, 3) := by decide +kernel
theorem d80_64 : decode (mC M80) 64 = .ok (.getfield 61, 3) := by decide +kernel
theorem d80_67 : decode (mC M80) 67 = .ok (.iload_n 1, 1) := by decide +kernel
theorem d80_68 : decode (mC M80) 68 = .ok (.iload_n 3, 1) := by decide +kernel
theorem d80_69 : decode (mC M80) 69 = .ok (.invokevirtual 218, 3) := by decide +kernel
theorem d80_72 : decode (mC M80) 72 = .ok (.ifCond .lt 10, 3) := by decide +kernel
theorem d80_75 : decode (mC M80) 75 = .ok (.aload_n 0, 1) := by decide +kernel
theorem d80_76 : decode (mC M80) 76 = .ok (.iconst 3, 1) := by decide +kernel
theorem d80_77 : decode (mC M80) 77 = .ok (.iload_n 2, 1) := by decide +kernel
theorem d80_78 : decode (mC M80) 78 = .ok (.invokevirtual 82, 3) := by decide +kernel
theorem d80_81 : decode (mC M80) 81 = .ok (.ireturn, 1) := by decide +kernel
theorem d80_82 : decode (mC M80) 82 = .ok (.aload_n 0, 1) := by decide +kernel
theorem d80_83 : decode (mC M80) 83 = .ok (.iconst 1, 1) := by decide +kernel
theorem d80_84 : decode (mC M80) 84 = .ok (.sipush 9999, 3) := by decide +kernel
theorem d80_87 : decode (mC M80) 87 = .ok (.invokevirtual 157, 3) := by decide +kernel
theorem d80_90 : decode (mC M80) 90 = .ok (.istore 4, 2) := by decide +kernel
theorem d80_92 : decode (mC M80) 92 = .ok (.iload 4, 2) := by decide +kernel
theorem d80_94 : decode (mC M80) 94 = .ok (.ifCond .ge 5, 3) := by decide +kernel
theorem d80_97 : decode (mC M80) 97 = .ok (.iconst 0, 1) := by decide +kernel
theorem d80_98 : decode (mC M80) 98 = .ok (.ireturn, 1) := by decide +kernel
theorem d80_99 : decode (mC M80) 99 = .ok (.aload_n 0, 1) := by decide +kernel
theorem d80_100 : decode (mC M80) 100 = .ok (.getfield 28, 3) := by decide +kernel
theorem d80_103 : decode (mC M80) 103 = .ok (.getfield 61, 3) := by decide +kernel
theorem d80_106 : decode (mC M80) 106 = .ok (.iload_n 1, 1) := by decide +kernel
theorem d80_107 : decode (mC M80) 107 = .ok (.iload_n 3, 1) := by decide +kernel
theorem d80_108 : decode (mC M80) 108 = .ok (.iload 4, 2) := by decide +kernel
theorem d80_110 : decode (mC M80) 110 = .ok (.invokevirtual 221, 3) := by decide +kernel
theorem d80_113 : decode (mC M80) 113 = .ok (.iconst 1, 1) := by decide +kernel
theorem d80_114 : decode (mC M80) 114 = .ok (.ireturn, 1) := by decide +kernel
theorem sc80_0 : ∀ q ∈ tc80_0, Snd xtb M80 q.1 q.2 := List.forall_mem_cons.mpr ⟨snd_aload_n d80_0 rfl, List.forall_mem_cons.mpr ⟨snd_aload_n d80_1 rfl, List.forall_mem_cons.mpr ⟨snd_getR (by decide) (by decide) rfl wd379 d80_2, List.forall_mem_cons.mpr ⟨snd_aload_n d80_5 rfl, List.forall_mem_cons.mpr ⟨snd_getR (by decide) (by decide) rfl wd380 d80_6, List.forall_mem_cons.mpr ⟨snd_getR (by decide) (by decide) rfl wd363 d80_9, List.forall_mem_cons.mpr ⟨snd_getI (by decide) (by decide) rfl wd240 d80_12, List.forall_mem_cons.mpr ⟨snd_callV (by decide) rfl cn84 ⟨by decide +kernel, by decide +kernel⟩ cm84 (List.forall_mem_cons.mpr ⟨wd720, cw84⟩) d80_15, List.forall_mem_cons.mpr ⟨snd_istore_n d80_18 rfl, List.forall_mem_cons.mpr ⟨snd_aload_n d80_19 rfl, List.forall_mem_cons.mpr ⟨snd_getR (by decide) (by decide) rfl wd376 d80_20, List.forall_mem_cons.mpr ⟨snd_getI (by decide) (by decide) rfl wd158 d80_23, List.forall_mem_cons.mpr ⟨snd_istore_n d80_26 rfl, List.forall_mem_cons.mpr ⟨snd_iload_n d80_27 rfl, List.forall_mem_cons.mpr ⟨snd_if_ge d80_28 (by decide), List.forall_mem_cons.mpr ⟨snd_iconst d80_31 (by decide +kernel), List.forall_mem_cons.mpr ⟨snd_goto d80_32 (by decide), List.forall_mem_cons.mpr ⟨snd_aload_n d80_35 rfl, List.forall_mem_cons.mpr ⟨snd_aload_n d80_36 rfl, List.forall_mem_cons.mpr ⟨snd_getR (by decide) (by decide) rfl wd378 d80_37, List.forall_mem_cons.mpr ⟨snd_aload_n d80_40 rfl, List.forall_mem_cons.mpr ⟨snd_getR (by decide) (by decide) rfl wd380 d80_41, List.forall_mem_cons.mpr ⟨snd_getR (by decide) (by decide) rfl wd366 d80_44, List.forall_mem_cons.mpr ⟨snd_getI (by decide) (by decide) rfl wd312 d80_47, List.forall_mem_cons.mpr ⟨snd_callV (by decide) rfl cn84 ⟨by decide +kernel, by decide +kernel⟩ cm84 (List.forall_mem_cons.mpr ⟨wd720, cw84⟩) d80_50, List.forall_mem_cons.mpr ⟨snd_istore_n d80_53 rfl, List.forall_mem_cons.mpr ⟨snd_iload_n d80_54 rfl, List.forall_mem_cons.mpr ⟨snd_if_ge d80_55 (by decide), List.forall_mem_cons.mpr ⟨snd_iconst d80_58 (by decide +kernel), List.forall_mem_cons.mpr ⟨snd_zret rfl d80_59, fun _ h => by cases h⟩⟩⟩⟩⟩⟩⟩⟩⟩⟩⟩⟩⟩⟩⟩⟩⟩⟩⟩⟩⟩⟩⟩⟩⟩⟩⟩⟩⟩⟩
theorem sc80_1 : ∀ q ∈ tc80_1, Snd xtb M80 q.1 q.2 := List.forall_mem_cons.mpr ⟨snd_aload_n d80_60 rfl, List.forall_mem_cons.mpr ⟨snd_getR (by decide) (by decide) rfl wd380 d80_61, List.forall_mem_cons.mpr ⟨snd_getR (by decide) (by decide) rfl wd366 d80_64, List.forall_mem_cons.mpr ⟨snd_iload_n d80_67 rfl, List.forall_mem_cons.mpr ⟨snd_iload_n d80_68 rfl, List.forall_mem_cons.mpr ⟨snd_callV (by decide) rfl cn103 ⟨by decide +kernel, by decide +kernel⟩ cm103 (List.forall_mem_cons.mpr ⟨wd797, cw103⟩) d80_69, List.forall_mem_cons.mpr ⟨snd_if_lt d80_72 (by decide), List.forall_mem_cons.mpr ⟨snd_aload_n d80_75 rfl, List.forall_mem_cons.mpr ⟨snd_iconst d80_76 (by decide +kernel), List.forall_mem_cons.mpr ⟨snd_iload_n d80_77 rfl, List.forall_mem_cons.mpr ⟨snd_callV (by decide) rfl cn70 ⟨by decide +kernel, by decide +kernel⟩ cm70 (List.forall_mem_cons.mpr ⟨wd655, cw70⟩) d80_78, List.forall_mem_cons.mpr ⟨snd_zret rfl d80_81, List.forall_mem_cons.mpr ⟨snd_aload_n d80_82 rfl, List.forall_mem_cons.mpr ⟨snd_iconst d80_83 (by decide +kernel), List.forall_mem_cons.mpr ⟨snd_sipush d80_84 (by decide +kernel), List.forall_mem_cons.mpr ⟨snd_callV (by decide) rfl cn82 ⟨by decide +kernel, by decide +kernel⟩ cm82 (List.forall_mem_cons.mpr ⟨wd669, cw82⟩) d80_87, List.forall_mem_cons.mpr ⟨snd_istore d80_90, List.forall_mem_cons.mpr ⟨snd_iload d80_92, List.forall_mem_cons.mpr ⟨snd_if_ge d80_94 (by decide), List.forall_mem_cons.mpr ⟨snd_iconst d80_97 (by decide +kernel), List.forall_mem_cons.mpr ⟨snd_zret rfl d80_98, List.forall_mem_cons.mpr ⟨snd_aload_n d80_99 rfl, List.forall_mem_cons.mpr ⟨snd_getR (by decide) (by decide) rfl wd380 d80_100, List.forall_mem_cons.mpr ⟨snd_getR (by decide) (by decide) rfl wd366 d80_103, List.forall_mem_cons.mpr ⟨snd_iload_n d80_106 rfl, List.forall_mem_cons.mpr ⟨snd_iload_n d80_107 rfl, List.forall_mem_cons.mpr ⟨snd_iload d80_108, List.forall_mem_cons.mpr ⟨snd_callV (by decide) rfl cn98 ⟨by decide +kernel, by decide +kernel⟩ cm98 (List.forall_mem_cons.mpr ⟨wd801, cw98⟩) d80_110, List.forall_mem_cons.mpr ⟨snd_iconst d80_113 (by decide +kernel), List.forall_mem_cons.mpr ⟨snd_zret rfl d80_114, fun _ h => by cases h⟩⟩⟩⟩⟩⟩⟩⟩⟩⟩⟩⟩⟩⟩⟩⟩⟩⟩⟩⟩⟩⟩⟩⟩⟩⟩⟩⟩⟩⟩
theorem d81_0 : decode (mC M81) 0 = .ok (.aload_n 0, 1) := by decide +kernel
theorem d81_1 : decode (mC M81) 1 = .ok (.getfield 12, 3) := by decide +kernel
theorem d81_4 : decode (mC M81) 4 = .ok (.aload_n 1, 1) := by decide +kernel
theorem d81_5 : decode (mC M81) 5 = .ok (.invokevirtual 90, 3) := by decide +kernel
theorem d81_8 : decode (mC M81) 8 = .ok (.ifCond .ne 9, 3) := by decide +kernel
theorem d81_11 : decode (mC M81) 11 = .ok (.aload_n 0, 1) := by decide +kernel
theorem d81_12 : decode (mC M81) 12 = .ok (.iconst 1, 1) := by decide +kernel
theorem d81_13 : decode (mC M81) 13 = .ok (.invokevirtual 54, 3) := by decide +kernel
theorem d81_16 : decode (mC M81) 16 = .ok (.ireturn, 1) := by decide +kernel
theorem d81_17 : decode (mC M81) 17 = .ok (.aload_n 0, 1) := by decide +kernel
theorem d81_18 : decode (mC M81) 18 = .ok (.getfield 12, 3) := by decide +kernel
theorem d81_21 : decode (mC M81) 21 = .ok (.invokevirtual 58, 3) := by decide +kernel
theorem d81_24 : decode (mC M81) 24 = .ok (.iconst 1, 1) := by decide +kernel
theorem d81_25 : decode (mC M81) 25 = .ok (.ireturn, 1) := by decide +kernel
theorem sc81_0 : ∀ q ∈ tc81_0, Snd xtb M81 q.1 q.2 := List.forall_mem_cons.mpr ⟨snd_aload_n d81_0 rfl, List.forall_mem_cons.mpr ⟨snd_getR (by decide) (by decide) rfl wd376 d81_1, List.forall_mem_cons.mpr ⟨snd_aload_n d81_4 rfl, List.forall_mem_cons.mpr ⟨snd_callV (by decide) rfl cn92 ⟨by decide +kernel, by decide +kernel⟩ cm92 (List.forall_mem_cons.mpr ⟨wd599, cw92⟩) d81_5, List.forall_mem_cons.mpr ⟨snd_if_ne d81_8 (by decide), List.forall_mem_cons.mpr ⟨snd_aload_n d81_11 rfl, List.forall_mem_cons.mpr ⟨snd_iconst d81_12 (by decide +kernel), List.forall_mem_cons.mpr ⟨snd_callV (by decide) rfl cn69 ⟨by decide +kernel, by decide +kernel⟩ cm69 (List.forall_mem_cons.mpr ⟨wd651, cw69⟩) d81_13, List.forall_mem_cons.mpr ⟨snd_zret rfl d81_16, List.forall_mem_cons.mpr ⟨snd_aload_n d81_17 rfl, List.forall_mem_cons.mpr ⟨snd_getR (by decide) (by decide) rfl wd376 d81_18, List.forall_mem_cons.mpr ⟨snd_callV (by decide) rfl cn89 ⟨by decide +kernel, by decide +kernel⟩ cm89 (List.forall_mem_cons.mpr ⟨wd663, cw89⟩) d81_21, List.forall_mem_cons.mpr ⟨snd_iconst d81_24 (by decide +kernel), List.forall_mem_cons.mpr ⟨snd_zret rfl d81_25, fun _ h => by cases h⟩⟩⟩⟩⟩⟩⟩⟩⟩⟩⟩⟩⟩⟩
theorem d82_0 : decode (mC M82) 0 = .ok (.aload_n 0, 1) := by decide +kernel
theorem d82_1 : decode (mC M82) 1 = .ok (.getfield 12, 3) := by decide +kernel
theorem d82_4 : decode (mC M82) 4 = .ok (.getfield 48, 3) := by decide +kernel
theorem d82_7 : decode (mC M82) 7 = .ok (.iconst 2, 1) := by decide +kernel
theorem d82_8 : decode (mC M82) 8 = .ok (.if_icmp .eq 11, 3) := by decide +kernel
theorem d82_11 : decode (mC M82) 11 = .ok (.aload_n 0, 1) := by decide +kernel
theorem d82_12 : decode (mC M82) 12 = .ok (.iconst 1, 1) := by decide +kernel
theorem d82_13 : decode (mC M82) 13 = .ok (.invokevirtual 54, 3) := by decide +kernel
theorem d82_16 : decode (mC M82) 16 = .ok (.pop, 1) := by decide +kernel
theorem d82_17 : decode (mC M82) 17 = .ok (.iconst (-1), 1) := by decide +kernel
theorem d82_18 : decode (mC M82) 18 = .ok (.ireturn, 1) := by decide +kernel
theorem d82_19 : decode (mC M82) 19 = .ok (.aload_n 0, 1) := by decide +kernel
theorem d82_20 : decode (mC M82) 20 = .ok (.getfield 12, 3) := by decide +kernel
theorem d82_23 : decode (mC M82) 23 = .ok (.getfield 224, 3) := by decide +kernel
theorem d82_26 : decode (mC M82) 26 = .ok (.istore_n 3, 1) := by decide +kernel
theorem d82_27 : decode (mC M82) 27 = .ok (.iload_n 3, 1) := by decide +kernel
theorem d82_28 : decode (mC M82) 28 = .ok (.iload_n 1, 1) := by decide +kernel
theorem d82_29 : decode (mC M82) 29 = .ok (.iload_n 2, 1) := by decide +kernel
theorem d82_30 : decode (mC M82) 30 = .ok (.invokestatic 227, 3) := by decide +kernel
theorem d82_33 : decode (mC M82) 33 = .ok (.ifCond .ne 11, 3) := by decide +kernel
theorem d82_36 : decode (mC M82) 36 = .ok (.aload_n 0, 1) := by decide +kernel
theorem d82_37 : decode (mC M82) 37 = .ok (.iconst 4, 1) := by decide +kernel
theorem d82_38 : decode (mC M82) 38 = .ok (.invokevirtual 54, 3) := by decide +kernel
theorem d82_41 : decode (mC M82) 41 = .ok (.pop, 1) := by decide +kernel
theorem d82_42 : decode (mC M82) 42 = .ok (.iconst (-1), 1) := by decide +kernel
theorem d82_43 : decode (mC M82) 43 = .ok (.ireturn, 1) := by decide +kernel
theorem d82_44 : decode (mC M82) 44 = .ok (.aload_n 0, 1) := by decide +kernel
theorem d82_45 : decode (mC M82) 45 = .ok (.getfield 12, 3) := by decide +kernel
theorem d82_48 : decode (mC M82) 48 = .ok (.invokevirtual 58, 3) := by decide +kernel
theorem d82_51 : decode (mC M82) 51 = .ok (.iload_n 3, 1) := by decide +kernel
theorem d82_52 : decode (mC M82) 52 = .ok (.ireturn, 1) := by decide +kernel
theorem sc82_0 : ∀ q ∈ tc82_0, Snd xtb M82 q.1 q.2 := List.forall_mem_cons.mpr ⟨snd_aload_n d82_0 rfl, List.forall_mem_cons.mpr ⟨snd_getR (by decide) (by decide) rfl wd376 d82_1, List.forall_mem_cons.mpr ⟨snd_getI (by decide) (by decide) rfl wd160 d82_4, List.forall_mem_cons.mpr ⟨snd_iconst d82_7 (by decide +kernel), List.forall_mem_cons.mpr ⟨snd_cmp_eq d82_8 (by decide), List.forall_mem_cons.mpr ⟨snd_aload_n d82_11 rfl, List.forall_mem_cons.mpr ⟨snd_iconst d82_12 (by decide +kernel), List.forall_mem_cons.mpr ⟨snd_callV (by decide) rfl cn69 ⟨by decide +kernel, by decide +kernel⟩ cm69 (List.forall_mem_cons.mpr ⟨wd651, cw69⟩) d82_13, List.forall_mem_cons.mpr ⟨snd_pop d82_16, List.forall_mem_cons.mpr ⟨snd_iconst d82_17 (by decide +kernel), List.forall_mem_cons.mpr ⟨snd_iret rfl d82_18, List.forall_mem_cons.mpr ⟨snd_aload_n d82_19 rfl, List.forall_mem_cons.mpr ⟨snd_getR (by decide) (by decide) rfl wd376 d82_20, List.forall_mem_cons.mpr ⟨snd_getI (by decide) (by decide) rfl wd165 d82_23, List.forall_mem_cons.mpr ⟨snd_istore_n d82_26 rfl, List.forall_mem_cons.mpr ⟨snd_iload_n d82_27 rfl, List.forall_mem_cons.mpr ⟨snd_iload_n d82_28 rfl, List.forall_mem_cons.mpr ⟨snd_iload_n d82_29 rfl, List.forall_mem_cons.mpr ⟨snd_callSN (host := "SalePlaces") cn164 ⟨by decide +kernel, by decide +kernel⟩ cm164 cw164 (by decide +kernel) d82_30, List.forall_mem_cons.mpr ⟨snd_if_ne d82_33 (by decide), List.forall_mem_cons.mpr ⟨snd_aload_n d82_36 rfl, List.forall_mem_cons.mpr ⟨snd_iconst d82_37 (by decide +kernel), List.forall_mem_cons.mpr ⟨snd_callV (by decide) rfl cn69 ⟨by decide +kernel, by decide +kernel⟩ cm69 (List.forall_mem_cons.mpr ⟨wd651, cw69⟩) d82_38, List.forall_mem_cons.mpr ⟨snd_pop d82_41, List.forall_mem_cons.mpr ⟨snd_iconst d82_42 (by decide +kernel), List.forall_mem_cons.mpr ⟨snd_iret rfl d82_43, List.forall_mem_cons.mpr ⟨snd_aload_n d82_44 rfl, List.forall_mem_cons.mpr ⟨snd_getR (by decide) (by decide) rfl wd376 d82_45, List.forall_mem_cons.mpr ⟨snd_callV (by decide) rfl cn89 ⟨by decide +kernel, by decide +kernel⟩ cm89 (List.forall_mem_cons.mpr ⟨wd663, cw89⟩) d82_48, List.forall_mem_cons.mpr ⟨snd_iload_n d82_51 rfl, fun _ h => by cases h⟩⟩⟩⟩⟩⟩⟩⟩⟩⟩⟩⟩⟩⟩⟩⟩⟩⟩⟩⟩⟩⟩⟩⟩⟩⟩⟩⟩⟩⟩
theorem sc82_1 : ∀ q ∈ tc82_1, Snd xtb M82 q.1 q.2 := List.forall_mem_cons.mpr ⟨snd_iret rfl d82_52, fun _ h => by cases h⟩
theorem d83_0 : decode (mC M83) 0 = .ok (.aload_n 0, 1) := by decide +kernel
theorem d83_1 : decode (mC M83) 1 = .ok (.getfield 12, 3) := by decide +kernel
theorem d83_4 : decode (mC M83) 4 = .ok (.invokevirtual 231, 3) := by decide +kernel
theorem d83_7 : decode (mC M83) 7 = .ok (.ifCond .ne 13, 3) := by decide +kernel
theorem d83_10 : decode (mC M83) 10 = .ok (.aload_n 0, 1) := by decide +kernel
theorem d83_11 : decode (mC M83) 11 = .ok (.iconst 1, 1) := by decide +kernel
theorem d83_12 : decode (mC M83) 12 = .ok (.invokevirtual 54, 3) := by decide +kernel
theorem d83_15 : decode (mC M83) 15 = .ok (.pop, 1) := by decide +kernel
theorem d83_16 : decode (mC M83) 16 = .ok (.ldc2_w 234, 3) := by decide +kernel
theorem d83_19 : decode (mC M83) 19 = .ok (.lreturn, 1) := by decide +kernel
theorem d83_20 : decode (mC M83) 20 = .ok (.aload_n 0, 1) := by decide +kernel
theorem d83_21 : decode (mC M83) 21 = .ok (.getfield 12, 3) := by decide +kernel
theorem d83_24 : decode (mC M83) 24 = .ok (.getfield 236, 3) := by decide +kernel
theorem d83_27 : decode (mC M83) 27 = .ok (.lstore_n 1, 1) := by decide +kernel
theorem d83_28 : decode (mC M83) 28 = .ok (.aload_n 0, 1) := by decide +kernel
theorem d83_29 : decode (mC M83) 29 = .ok (.getfield 18, 3) := by decide +kernel
theorem d83_32 : decode (mC M83) 32 = .ok (.aload_n 0, 1) := by decide +kernel
theorem d83_33 : decode (mC M83) 33 = .ok (.getfield 28, 3) := by decide +kernel
theorem d83_36 : decode (mC M83) 36 = .ok (.getfield 61, 3) := by decide +kernel
theorem d83_39 : decode (mC M83) 39 = .ok (.getfield 65, 3) := by decide +kernel
theorem d83_42 : decode (mC M83) 42 = .ok (.lload_n 1, 1) := by decide +kernel
theorem d83_43 : decode (mC M83) 43 = .ok (.invokestatic 240, 3) := by decide +kernel
theorem d83_46 : decode (mC M83) 46 = .ok (.ifCond .ge 24, 3) := by decide +kernel
theorem d83_49 : decode (mC M83) 49 = .ok (.aload_n 0, 1) := by decide +kernel
theorem d83_50 : decode (mC M83) 50 = .ok (.getfield 22, 3) := by decide +kernel
theorem d83_53 : decode (mC M83) 53 = .ok (.aload_n 0, 1) := by decide +kernel
theorem d83_54 : decode (mC M83) 54 = .ok (.getfield 28, 3) := by decide +kernel
theorem d83_57 : decode (mC M83) 57 = .ok (.getfield 70, 3) := by decide +kernel
theorem d83_60 : decode (mC M83) 60 = .ok (.getfield 74, 3) := by decide +kernel
theorem d83_63 : decode (mC M83) 63 = .ok (.lload_n 1, 1) := by decide +kernel
theorem d83_64 : decode (mC M83) 64 = .ok (.invokestatic 240, 3) := by decide +kernel
theorem d83_67 : decode (mC M83) 67 = .ok (.ifCond .lt 13, 3) := by decide +kernel
theorem d83_70 : decode (mC M83) 70 = .ok (.aload_n 0, 1) := by decide +kernel
theorem d83_71 : decode (mC M83) 71 = .ok (.iconst 3, 1) := by decide +kernel
theorem d83_72 : decode (mC M83) 72 = .ok (.invokevirtual 54, 3) := by decide +kernel
theorem d83_75 : decode (mC M83) 75 = .ok (.pop, 1) := by decide +kernel
theorem d83_76 : decode (mC M83) 76 = .ok (.ldc2_w 234, 3) := by decide +kernel
theorem d83_79 : decode (mC M83) 79 = .ok (.lreturn, 1) := by decide +kernel
theorem d83_80 : decode (mC M83) 80 = .ok (.aload_n 0, 1) := by decide +kernel
theorem d83_81 : decode (mC M83) 81 = .ok (.getfield 12, 3) := by decide +kernel
theorem d83_84 : decode (mC M83) 84 = .ok (.invokevirtual 58, 3) := by decide +kernel
theorem d83_87 : decode (mC M83) 87 = .ok (.lload_n 1, 1) := by decide +kernel
theorem d83_88 : decode (mC M83) 88 = .ok (.lreturn, 1) := by decide +kernel
theorem sc83_0 : ∀ q ∈ tc83_0, Snd xtb M83 q.1 q.2 := List.forall_mem_cons.mpr ⟨snd_aload_n d83_0 rfl, List.forall_mem_cons.mpr ⟨snd_getR (by decide) (by decide) rfl wd376 d83_1, List.forall_mem_cons.mpr ⟨snd_callV (by decide) rfl cn93 ⟨by decide +kernel, by decide +kernel⟩ cm93 (List.forall_mem_cons.mpr ⟨wd700, cw93⟩) d83_4, List.forall_mem_cons.mpr ⟨snd_if_ne d83_7 (by decide), List.forall_mem_cons.mpr ⟨snd_aload_n d83_10 rfl, List.forall_mem_cons.mpr ⟨snd_iconst d83_11 (by decide +kernel), List.forall_mem_cons.mpr ⟨snd_callV (by decide) rfl cn69 ⟨by decide +kernel, by decide +kernel⟩ cm69 (List.forall_mem_cons.mpr ⟨wd651, cw69⟩) d83_12, List.forall_mem_cons.mpr ⟨snd_pop d83_15, List.forall_mem_cons.mpr ⟨snd_ldc2 d83_16 wd715, List.forall_mem_cons.mpr ⟨snd_lret rfl d83_19, List.forall_mem_cons.mpr ⟨snd_aload_n d83_20 rfl, List.forall_mem_cons.mpr ⟨snd_getR (by decide) (by decide) rfl wd376 d83_21, List.forall_mem_cons.mpr ⟨snd_getJ (by decide) (by decide) rfl wd163 d83_24, List.forall_mem_cons.mpr ⟨snd_lstore_n d83_27 rfl, List.forall_mem_cons.mpr ⟨snd_aload_n d83_28 rfl, List.forall_mem_cons.mpr ⟨snd_getR (by decide) (by decide) rfl wd378 d83_29, List.forall_mem_cons.mpr ⟨snd_aload_n d83_32 rfl, List.forall_mem_cons.mpr ⟨snd_getR (by decide) (by decide) rfl wd380 d83_33, List.forall_mem_cons.mpr ⟨snd_getR (by decide) (by decide) rfl wd366 d83_36, List.forall_mem_cons.mpr ⟨snd_getI (by decide) (by decide) rfl wd312 d83_39, List.forall_mem_cons.mpr ⟨snd_lload_n d83_42 rfl, List.forall_mem_cons.mpr ⟨snd_callS cn85 ⟨by decide +kernel, by decide +kernel⟩ cm85 (List.forall_mem_cons.mpr ⟨wd716, cw85⟩) d83_43, List.forall_mem_cons.mpr ⟨snd_if_ge d83_46 (by decide), List.forall_mem_cons.mpr ⟨snd_aload_n d83_49 rfl, List.forall_mem_cons.mpr ⟨snd_getR (by decide) (by decide) rfl wd379 d83_50, List.forall_mem_cons.mpr ⟨snd_aload_n d83_53 rfl, List.forall_mem_cons.mpr ⟨snd_getR (by decide) (by decide) rfl wd380 d83_54, List.forall_mem_cons.mpr ⟨snd_getR (by decide) (by decide) rfl wd363 d83_57, List.forall_mem_cons.mpr ⟨snd_getI (by decide) (by decide) rfl wd240 d83_60, List.forall_mem_cons.mpr ⟨snd_lload_n d83_63 rfl, fun _ h => by cases h⟩⟩⟩⟩⟩⟩⟩⟩⟩⟩⟩⟩⟩⟩⟩⟩⟩⟩⟩⟩⟩⟩⟩⟩⟩⟩⟩⟩⟩⟩
theorem sc83_1 : ∀ q ∈ tc83_1, Snd xtb M83 q.1 q.2 := List.forall_mem_cons.mpr ⟨snd_callS cn85 ⟨by decide +kernel, by decide +kernel⟩ cm85 (List.forall_mem_cons.mpr ⟨wd716, cw85⟩) d83_64, List.forall_mem_cons.mpr ⟨snd_if_lt d83_67 (by decide), List.forall_mem_cons.mpr ⟨snd_aload_n d83_70 rfl, List.forall_mem_cons.mpr ⟨snd_iconst d83_71 (by decide +kernel), List.forall_mem_cons.mpr ⟨snd_callV (by decide) rfl cn69 ⟨by decide +kernel, by decide +kernel⟩ cm69 (List.forall_mem_cons.mpr ⟨wd651, cw69⟩) d83_72, List.forall_mem_cons.mpr ⟨snd_pop d83_75, List.forall_mem_cons.mpr ⟨snd_ldc2 d83_76 wd715, List.forall_mem_cons.mpr ⟨snd_lret rfl d83_79, List.forall_mem_cons.mpr ⟨snd_aload_n d83_80 rfl, List.forall_mem_cons.mpr ⟨snd_getR (by decide) (by decide) rfl wd376 d83_81, List.forall_mem_cons.mpr ⟨snd_callV (by decide) rfl cn89 ⟨by decide +kernel, by decide +kernel⟩ cm89 (List.forall_mem_cons.mpr ⟨wd663, cw89⟩) d83_84, List.forall_mem_cons.mpr ⟨snd_lload_n d83_87 rfl, List.forall_mem_cons.mpr ⟨snd_lret rfl d83_88, fun _ h => by cases h⟩⟩⟩⟩⟩⟩⟩⟩⟩⟩⟩⟩⟩
theorem d84_0 : decode (mC M84) 0 = .ok (.aload_n 0, 1) := by decide +kernel
theorem d84_1 : decode (mC M84) 1 = .ok (.getfield 12, 3) := by decide +kernel
theorem d84_4 : decode (mC M84) 4 = .ok (.invokevirtual 231, 3) := by decide +kernel
theorem d84_7 : decode (mC M84) 7 = .ok (.ifCond .ne 11, 3) := by decide +kernel
theorem d84_10 : decode (mC M84) 10 = .ok (.aload_n 0, 1) := by decide +kernel
theorem d84_11 : decode (mC M84) 11 = .ok (.iconst 1, 1) := by decide +kernel
theorem d84_12 : decode (mC M84) 12 = .ok (.invokevirtual 54, 3) := by decide +kernel
theorem d84_15 : decode (mC M84) 15 = .ok (.pop, 1) := by decide +kernel
theorem d84_16 : decode (mC M84) 16 = .ok (.iconst (-1), 1) := by decide +kernel
theorem d84_17 : decode (mC M84) 17 = .ok (.ireturn, 1) := by decide +kernel
theorem d84_18 : decode (mC M84) 18 = .ok (.aload_n 1, 1) := by decide +kernel
theorem d84_19 : decode (mC M84) 19 = .ok (.iload_n 2, 1) := by decide +kernel
theorem d84_20 : decode (mC M84) 20 = .ok (.aload_n 0, 1) := by decide +kernel
theorem d84_21 : decode (mC M84) 21 = .ok (.getfield 12, 3) := by decide +kernel
theorem d84_24 : decode (mC M84) 24 = .ok (.getfield 236, 3) := by decide +kernel
theorem d84_27 : decode (mC M84) 27 = .ok (.invokestatic 240, 3) := by decide +kernel
theorem d84_30 : decode (mC M84) 30 = .ok (.istore_n 3, 1) := by decide +kernel
theorem d84_31 : decode (mC M84) 31 = .ok (.iload_n 3, 1) := by decide +kernel
theorem d84_32 : decode (mC M84) 32 = .ok (.ifCond .ge 11, 3) := by decide +kernel
theorem d84_35 : decode (mC M84) 35 = .ok (.aload_n 0, 1) := by decide +kernel
theorem d84_36 : decode (mC M84) 36 = .ok (.iconst 2, 1) := by decide +kernel
theorem d84_37 : decode (mC M84) 37 = .ok (.invokevirtual 54, 3) := by decide +kernel
theorem d84_40 : decode (mC M84) 40 = .ok (.pop, 1) := by decide +kernel
theorem d84_41 : decode (mC M84) 41 = .ok (.iconst (-1), 1) := by decide +kernel
theorem d84_42 : decode (mC M84) 42 = .ok (.ireturn, 1) := by decide +kernel
theorem d84_43 : decode (mC M84) 43 = .ok (.aload_n 0, 1) := by decide +kernel
theorem d84_44 : decode (mC M84) 44 = .ok (.getfield 12, 3) := by decide +kernel
theorem d84_47 : decode (mC M84) 47 = .ok (.invokevirtual 58, 3) := by decide +kernel
theorem d84_50 : decode (mC M84) 50 = .ok (.iload_n 3, 1) := by decide +kernel
theorem d84_51 : decode (mC M84) 51 = .ok (.ireturn, 1) := by decide +kernel
theorem sc84_0 : ∀ q ∈ tc84_0, Snd xtb M84 q.1 q.2 := List.forall_mem_cons.mpr ⟨snd_aload_n d84_0 rfl, List.forall_mem_cons.mpr ⟨snd_getR (by decide) (by decide) rfl wd376 d84_1, List.forall_mem_cons.mpr ⟨snd_callV (by decide) rfl cn93 ⟨by decide +kernel, by decide +kernel⟩ cm93 (List.forall_mem_cons.mpr ⟨wd700, cw93⟩) d84_4, List.forall_mem_cons.mpr ⟨snd_if_ne d84_7 (by decide), List.forall_mem_cons.mpr ⟨snd_aload_n d84_10 rfl, List.forall_mem_cons.mpr ⟨snd_iconst d84_11 (by decide +kernel), List.forall_mem_cons.mpr ⟨snd_callV (by decide) rfl cn69 ⟨by decide +kernel, by decide +kernel⟩ cm69 (List.forall_mem_cons.mpr ⟨wd651, cw69⟩) d84_12, List.forall_mem_cons.mpr ⟨snd_pop d84_15, List.forall_mem_cons.mpr ⟨snd_iconst d84_16 (by decide +kernel), List.forall_mem_cons.mpr ⟨snd_iret rfl d84_17, List.forall_mem_cons.mpr ⟨snd_aload_n d84_18 rfl, List.forall_mem_cons.mpr ⟨snd_iload_n d84_19 rfl, List.forall_mem_cons.mpr ⟨snd_aload_n d84_20 rfl, List.forall_mem_cons.mpr ⟨snd_getR (by decide) (by decide) rfl wd376 d84_21, List.forall_mem_cons.mpr ⟨snd_getJ (by decide) (by decide) rfl wd163 d84_24, List.forall_mem_cons.mpr ⟨snd_callS cn85 ⟨by decide +kernel, by decide +kernel⟩ cm85 (List.forall_mem_cons.mpr ⟨wd716, cw85⟩) d84_27, List.forall_mem_cons.mpr ⟨snd_istore_n d84_30 rfl, List.forall_mem_cons.mpr ⟨snd_iload_n d84_31 rfl, List.forall_mem_cons.mpr ⟨snd_if_ge d84_32 (by decide), List.forall_mem_cons.mpr ⟨snd_aload_n d84_35 rfl, List.forall_mem_cons.mpr ⟨snd_iconst d84_36 (by decide +kernel), List.forall_mem_cons.mpr ⟨snd_callV (by decide) rfl cn69 ⟨by decide +kernel, by decide +kernel⟩ cm69 (List.forall_mem_cons.mpr ⟨wd651, cw69⟩) d84_37, List.forall_mem_cons.mpr ⟨snd_pop d84_40, List.forall_mem_cons.mpr ⟨snd_iconst d84_41 (by decide +kernel), List.forall_mem_cons.mpr ⟨snd_iret rfl d84_42, List.forall_mem_cons.mpr ⟨snd_aload_n d84_43 rfl, List.forall_mem_cons.mpr ⟨snd_getR (by decide) (by decide) rfl wd376 d84_44, List.forall_mem_cons.mpr ⟨snd_callV (by decide) rfl cn89 ⟨by decide +kernel, by decide +kernel⟩ cm89 (List.forall_mem_cons.mpr ⟨wd663, cw89⟩) d84_47, List.forall_mem_cons.mpr ⟨snd_iload_n d84_50 rfl, List.forall_mem_cons.mpr ⟨snd_iret rfl d84_51, fun _ h => by cases h⟩⟩⟩⟩⟩⟩⟩⟩⟩⟩⟩⟩⟩⟩⟩⟩⟩⟩⟩⟩⟩⟩⟩⟩⟩⟩⟩⟩⟩⟩
theorem d85_0 : decode (mC M85) 0 = .ok (.iconst 0, 1) := by decide +kernel
theorem d85_1 : decode (mC M85) 1 = .ok (.istore 4, 2) := by decide +kernel
theorem d85_3 : decode (mC M85) 3 = .ok (.iload 4, 2) := by decide +kernel
theorem d85_5 : decode (mC M85) 5 = .ok (.iload_n 1, 1) := by decide +kernel
theorem d85_6 : decode (mC M85) 6 = .ok (.if_icmp .ge 21, 3) := by decide +kernel
theorem d85_9 : decode (mC M85) 9 = .ok (.aload_n 0, 1) := by decide +kernel
theorem d85_10 : decode (mC M85) 10 = .ok (.iload 4, 2) := by decide +kernel
theorem d85_12 : decode (mC M85) 12 = .ok (.laload, 1) := by decide +kernel
theorem d85_13 : decode (mC M85) 13 = .ok (.lload_n 2, 1) := by decide +kernel
theorem d85_14 : decode (mC M85) 14 = .ok (.lcmp, 1) := by decide +kernel
theorem d85_15 : decode (mC M85) 15 = .ok (.ifCond .ne 6, 3) := by decide +kernel
theorem d85_18 : decode (mC M85) 18 = .ok (.iload 4, 2) := by decide +kernel
theorem d85_20 : decode (mC M85) 20 = .ok (.ireturn, 1) := by decide +kernel
theorem d85_21 : decode (mC M85) 21 = .ok (.iinc 4 1, 3) := by decide +kernel
theorem d85_24 : decode (mC M85) 24 = .ok (.goto (-21), 3) := by decide +kernel
theorem d85_27 : decode (mC M85) 27 = .ok (.iconst (-1), 1) := by decide +kernel
theorem d85_28 : decode (mC M85) 28 = .ok (.ireturn, 1) := by decide +kernel
theorem sc85_0 : ∀ q ∈ tc85_0, Snd xtb M85 q.1 q.2 := List.forall_mem_cons.mpr ⟨snd_iconst d85_0 (by decide +kernel), List.forall_mem_cons.mpr ⟨snd_istore d85_1, List.forall_mem_cons.mpr ⟨snd_iload d85_3, List.forall_mem_cons.mpr ⟨snd_iload_n d85_5 rfl, List.forall_mem_cons.mpr ⟨snd_cmp_ge d85_6 (by decide), List.forall_mem_cons.mpr ⟨snd_aload_n d85_9 rfl, List.forall_mem_cons.mpr ⟨snd_iload d85_10, List.forall_mem_cons.mpr ⟨snd_lald d85_12, List.forall_mem_cons.mpr ⟨snd_lload_n d85_13 rfl, List.forall_mem_cons.mpr ⟨snd_lcmp d85_14, List.forall_mem_cons.mpr ⟨snd_if_ne d85_15 (by decide), List.forall_mem_cons.mpr ⟨snd_iload d85_18, List.forall_mem_cons.mpr ⟨snd_iret rfl d85_20, List.forall_mem_cons.mpr ⟨snd_iinc d85_21 (by decide +kernel), List.forall_mem_cons.mpr ⟨snd_goto d85_24 (by decide), List.forall_mem_cons.mpr ⟨snd_iconst d85_27 (by decide +kernel), List.forall_mem_cons.mpr ⟨snd_iret rfl d85_28, fun _ h => by cases h⟩⟩⟩⟩⟩⟩⟩⟩⟩⟩⟩⟩⟩⟩⟩⟩⟩
theorem d86_0 : decode (mC M86) 0 = .ok (.aload_n 0, 1) := by decide +kernel
theorem d86_1 : decode (mC M86) 1 = .ok (.invokespecial 3, 3) := by decide +kernel
theorem d86_4 : decode (mC M86) 4 = .ok (.aload_n 0, 1) := by decide +kernel
theorem d86_5 : decode (mC M86) 5 = .ok (.sipush 1200, 3) := by decide +kernel
theorem d86_8 : decode (mC M86) 8 = .ok (.newarray .byte, 2) := by decide +kernel
theorem d86_10 : decode (mC M86) 10 = .ok (.putfield 9, 3) := by decide +kernel
theorem d86_13 : decode (mC M86) 13 = .ok (.return_, 1) := by decide +kernel
theorem sc86_0 : ∀ q ∈ tc86_0, Snd xtb M86 q.1 q.2 := List.forall_mem_cons.mpr ⟨snd_aload_n d86_0 rfl, List.forall_mem_cons.mpr ⟨snd_obj (by decide) (by decide) (List.forall_mem_cons.mpr ⟨wd152, List.forall_mem_cons.mpr ⟨wd139, List.forall_mem_cons.mpr ⟨wd140, fun _ h => by cases h⟩⟩⟩) d86_1, List.forall_mem_cons.mpr ⟨snd_aload_n d86_4 rfl, List.forall_mem_cons.mpr ⟨snd_sipush d86_5 (by decide +kernel), List.forall_mem_cons.mpr ⟨snd_newa (ty := .byte) (k := 0) rfl (by decide +kernel) wd183 d86_8, List.forall_mem_cons.mpr ⟨snd_putRF (by decide) (by decide) rfl rfl rfl rfl wd153 d86_10, List.forall_mem_cons.mpr ⟨snd_vret rfl d86_13, fun _ h => by cases h⟩⟩⟩⟩⟩⟩⟩
theorem d87_0 : decode (mC M87) 0 = .ok (.bipush 24, 2) := by decide +kernel
theorem d87_2 : decode (mC M87) 2 = .ok (.istore_n 2, 1) := by decide +kernel
theorem d87_3 : decode (mC M87) 3 = .ok (.iload_n 2, 1) := by decide +kernel
theorem d87_4 : decode (mC M87) 4 = .ok (.ifCond .lt 32, 3) := by decide +kernel
theorem d87_7 : decode (mC M87) 7 = .ok (.aload_n 0, 1) := by decide +kernel
theorem d87_8 : decode (mC M87) 8 = .ok (.getfield 9, 3) := by decide +kernel
theorem d87_11 : decode (mC M87) 11 = .ok (.aload_n 0, 1) := by decide +kernel
theorem d87_12 : decode (mC M87) 12 = .ok (.getfield 15, 3) := by decide +kernel
theorem d87_15 : decode (mC M87) 15 = .ok (.iload_n 1, 1) := by decide +kernel
theorem d87_16 : decode (mC M87) 16 = .ok (.iload_n 2, 1) := by decide +kernel
theorem d87_17 : decode (mC M87) 17 = .ok (.ishr, 1) := by decide +kernel
theorem d87_18 : decode (mC M87) 18 = .ok (.i2b, 1) := by decide +kernel
theorem d87_19 : decode (mC M87) 19 = .ok (.bastore, 1) := by decide +kernel
theorem d87_20 : decode (mC M87) 20 = .ok (.aload_n 0, 1) := by decide +kernel
theorem d87_21 : decode (mC M87) 21 = .ok (.dup, 1) := by decide +kernel
theorem d87_22 : decode (mC M87) 22 = .ok (.getfield 15, 3) := by decide +kernel
theorem d87_25 : decode (mC M87) 25 = .ok (.iconst 1, 1) := by decide +kernel
theorem d87_26 : decode (mC M87) 26 = .ok (.iadd, 1) := by decide +kernel
theorem d87_27 : decode (mC M87) 27 = .ok (.putfield 15, 3) := by decide +kernel
theorem d87_30 : decode (mC M87) 30 = .ok (.iinc 2 (-8), 3) := by decide +kernel
theorem d87_33 : decode (mC M87) 33 = .ok (.goto (-30), 3) := by decide +kernel
theorem d87_36 : decode (mC M87) 36 = .ok (.return_, 1) := by decide +kernel
theorem sc87_0 : ∀ q ∈ tc87_0, Snd xtb M87 q.1 q.2 := List.forall_mem_cons.mpr ⟨snd_bipush d87_0 (by decide +kernel), List.forall_mem_cons.mpr ⟨snd_istore_n d87_2 rfl, List.forall_mem_cons.mpr ⟨snd_iload_n d87_3 rfl, List.forall_mem_cons.mpr ⟨snd_if_lt d87_4 (by decide), List.forall_mem_cons.mpr ⟨snd_aload_n d87_7 rfl, List.forall_mem_cons.mpr ⟨snd_getR (by decide) (by decide) rfl wd153 d87_8, List.forall_mem_cons.mpr ⟨snd_aload_n d87_11 rfl, List.forall_mem_cons.mpr ⟨snd_getI (by decide) (by decide) rfl wd155 d87_12, List.forall_mem_cons.mpr ⟨snd_iload_n d87_15 rfl, List.forall_mem_cons.mpr ⟨snd_iload_n d87_16 rfl, List.forall_mem_cons.mpr ⟨snd_ishr d87_17, List.forall_mem_cons.mpr ⟨snd_i2b d87_18, List.forall_mem_cons.mpr ⟨snd_bast d87_19, List.forall_mem_cons.mpr ⟨snd_aload_n d87_20 rfl, List.forall_mem_cons.mpr ⟨snd_dup d87_21, List.forall_mem_cons.mpr ⟨snd_getI (by decide) (by decide) rfl wd155 d87_22, List.forall_mem_cons.mpr ⟨snd_iconst d87_25 (by decide +kernel), List.forall_mem_cons.mpr ⟨snd_iadd d87_26, List.forall_mem_cons.mpr ⟨snd_putI (by decide) (by decide) rfl rfl wd155 d87_27, List.forall_mem_cons.mpr ⟨snd_iinc d87_30 (by decide +kernel), List.forall_mem_cons.mpr ⟨snd_goto d87_33 (by decide), List.forall_mem_cons.mpr ⟨snd_vret rfl d87_36, fun _ h => by cases h⟩⟩⟩⟩⟩⟩⟩⟩⟩⟩⟩⟩⟩⟩⟩⟩⟩⟩⟩⟩⟩⟩

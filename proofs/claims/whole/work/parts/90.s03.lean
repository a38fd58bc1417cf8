/-! soundness -/
theorem d88_0 : decode (mC M88) 0 = .ok (.aload_n 0, 1) := by decide +kernel
theorem d88_1 : decode (mC M88) 1 = .ok (.iload_n 1, 1) := by decide +kernel
theorem d88_2 : decode (mC M88) 2 = .ok (.putfield 19, 3) := by decide +kernel
theorem d88_5 : decode (mC M88) 5 = .ok (.aload_n 0, 1) := by decide +kernel
theorem d88_6 : decode (mC M88) 6 = .ok (.iconst 0, 1) := by decide +kernel
theorem d88_7 : decode (mC M88) 7 = .ok (.putfield 22, 3) := by decide +kernel
theorem d88_10 : decode (mC M88) 10 = .ok (.aload_n 0, 1) := by decide +kernel
theorem d88_11 : decode (mC M88) 11 = .ok (.invokevirtual 25, 3) := by decide +kernel
theorem d88_14 : decode (mC M88) 14 = .ok (.return_, 1) := by decide +kernel
theorem sc88_0 : ∀ q ∈ tc88_0, Snd xtb M88 q.1 q.2 := List.forall_mem_cons.mpr ⟨snd_aload_n d88_0 rfl, List.forall_mem_cons.mpr ⟨snd_iload_n d88_1 rfl, List.forall_mem_cons.mpr ⟨snd_putI (by decide) (by decide) rfl rfl wd156 d88_2, List.forall_mem_cons.mpr ⟨snd_aload_n d88_5 rfl, List.forall_mem_cons.mpr ⟨snd_iconst d88_6 (by decide +kernel), List.forall_mem_cons.mpr ⟨snd_putI (by decide) (by decide) rfl rfl wd159 d88_7, List.forall_mem_cons.mpr ⟨snd_aload_n d88_10 rfl, List.forall_mem_cons.mpr ⟨snd_callV (by decide) rfl cn89 ⟨by decide +kernel, by decide +kernel⟩ cm89 (List.forall_mem_cons.mpr ⟨wd581, cw89⟩) d88_11, List.forall_mem_cons.mpr ⟨snd_vret rfl d88_14, fun _ h => by cases h⟩⟩⟩⟩⟩⟩⟩⟩⟩
theorem d89_0 : decode (mC M89) 0 = .ok (.aload_n 0, 1) := by decide +kernel
theorem d89_1 : decode (mC M89) 1 = .ok (.aload_n 0, 1) := by decide +kernel
theorem d89_2 : decode (mC M89) 2 = .ok (.getfield 22, 3) := by decide +kernel
theorem d89_5 : decode (mC M89) 5 = .ok (.putfield 28, 3) := by decide +kernel
theorem d89_8 : decode (mC M89) 8 = .ok (.aload_n 0, 1) := by decide +kernel
theorem d89_9 : decode (mC M89) 9 = .ok (.getfield 28, 3) := by decide +kernel
theorem d89_12 : decode (mC M89) 12 = .ok (.aload_n 0, 1) := by decide +kernel
theorem d89_13 : decode (mC M89) 13 = .ok (.getfield 19, 3) := by decide +kernel
theorem d89_16 : decode (mC M89) 16 = .ok (.if_icmp .ge 30, 3) := by decide +kernel
theorem d89_19 : decode (mC M89) 19 = .ok (.aload_n 0, 1) := by decide +kernel
theorem d89_20 : decode (mC M89) 20 = .ok (.getfield 9, 3) := by decide +kernel
theorem d89_23 : decode (mC M89) 23 = .ok (.aload_n 0, 1) := by decide +kernel
theorem d89_24 : decode (mC M89) 24 = .ok (.getfield 28, 3) := by decide +kernel
theorem d89_27 : decode (mC M89) 27 = .ok (.baload, 1) := by decide +kernel
theorem d89_28 : decode (mC M89) 28 = .ok (.bipush 32, 2) := by decide +kernel
theorem d89_30 : decode (mC M89) 30 = .ok (.if_icmp .ne 16, 3) := by decide +kernel
theorem d89_33 : decode (mC M89) 33 = .ok (.aload_n 0, 1) := by decide +kernel
theorem d89_34 : decode (mC M89) 34 = .ok (.dup, 1) := by decide +kernel
theorem d89_35 : decode (mC M89) 35 = .ok (.getfield 28, 3) := by decide +kernel
theorem d89_38 : decode (mC M89) 38 = .ok (.iconst 1, 1) := by decide +kernel
theorem d89_39 : decode (mC M89) 39 = .ok (.iadd, 1) := by decide +kernel
theorem d89_40 : decode (mC M89) 40 = .ok (.putfield 28, 3) := by decide +kernel
theorem d89_43 : decode (mC M89) 43 = .ok (.goto (-35), 3) := by decide +kernel
theorem d89_46 : decode (mC M89) 46 = .ok (.aload_n 0, 1) := by decide +kernel
theorem d89_47 : decode (mC M89) 47 = .ok (.aload_n 0, 1) := by decide +kernel
theorem d89_48 : decode (mC M89) 48 = .ok (.getfield 28, 3) := by decide +kernel
theorem d89_51 : decode (mC M89) 51 = .ok (.putfield 22, 3) := by decide +kernel
theorem d89_54 : decode (mC M89) 54 = .ok (.aload_n 0, 1) := by decide +kernel
theorem d89_55 : decode (mC M89) 55 = .ok (.getfield 28, 3) := by decide +kernel
theorem d89_58 : decode (mC M89) 58 = .ok (.aload_n 0, 1) := by decide +kernel
theorem d89_59 : decode (mC M89) 59 = .ok (.getfield 19, 3) := by decide +kernel
theorem d89_62 : decode (mC M89) 62 = .ok (.if_icmp .lt 11, 3) := by decide +kernel
theorem d89_65 : decode (mC M89) 65 = .ok (.aload_n 0, 1) := by decide +kernel
theorem d89_66 : decode (mC M89) 66 = .ok (.iconst 0, 1) := by decide +kernel
theorem d89_67 : decode (mC M89) 67 = .ok (.putfield 31, 3) := by decide +kernel
theorem d89_70 : decode (mC M89) 70 = .ok (.goto 110, 3) := by decide +kernel
theorem d89_73 : decode (mC M89) 73 = .ok (.aload_n 0, 1) := by decide +kernel
theorem d89_74 : decode (mC M89) 74 = .ok (.getfield 9, 3) := by decide +kernel
theorem d89_77 : decode (mC M89) 77 = .ok (.aload_n 0, 1) := by decide +kernel
theorem d89_78 : decode (mC M89) 78 = .ok (.getfield 28, 3) := by decide +kernel
theorem d89_81 : decode (mC M89) 81 = .ok (.baload, 1) := by decide +kernel
theorem d89_82 : decode (mC M89) 82 = .ok (.bipush 97, 2) := by decide +kernel
theorem d89_84 : decode (mC M89) 84 = .ok (.if_icmp .lt 24, 3) := by decide +kernel
theorem d89_87 : decode (mC M89) 87 = .ok (.aload_n 0, 1) := by decide +kernel
theorem d89_88 : decode (mC M89) 88 = .ok (.getfield 9, 3) := by decide +kernel
theorem d89_91 : decode (mC M89) 91 = .ok (.aload_n 0, 1) := by decide +kernel
theorem d89_92 : decode (mC M89) 92 = .ok (.getfield 28, 3) := by decide +kernel
theorem d89_95 : decode (mC M89) 95 = .ok (.baload, 1) := by decide +kernel
theorem d89_96 : decode (mC M89) 96 = .ok (.bipush 122, 2) := by decide +kernel
theorem d89_98 : decode (mC M89) 98 = .ok (.if_icmp .gt 10, 3) := by decide +kernel
theorem d89_101 : decode (mC M89) 101 = .ok (.aload_n 0, 1) := by decide +kernel
theorem d89_102 : decode (mC M89) 102 = .ok (.invokevirtual 34, 3) := by decide +kernel
theorem d89_105 : decode (mC M89) 105 = .ok (.goto 75, 3) := by decide +kernel
theorem d89_108 : decode (mC M89) 108 = .ok (.aload_n 0, 1) := by decide +kernel
theorem d89_109 : decode (mC M89) 109 = .ok (.getfield 9, 3) := by decide +kernel
theorem d89_112 : decode (mC M89) 112 = .ok (.aload_n 0, 1) := by decide +kernel
theorem d89_113 : decode (mC M89) 113 = .ok (.getfield 28, 3) := by decide +kernel
theorem d89_116 : decode (mC M89) 116 = .ok (.baload, 1) := by decide +kernel
theorem d89_117 : decode (mC M89) 117 = .ok (.bipush 48, 2) := by decide +kernel
theorem d89_119 : decode (mC M89) 119 = .ok (.if_icmp .lt 24, 3) := by decide +kernel
theorem d89_122 : decode (mC M89) 122 = .ok (.aload_n 0, 1) := by decide +kernel
theorem d89_123 : decode (mC M89) 123 = .ok (.getfield 9, 3) := by decide +kernel
theorem d89_126 : decode (mC M89) 126 = .ok (.aload_n 0, 1) := by decide +kernel
theorem d89_127 : decode (mC M89) 127 = .ok (.getfield 28, 3) := by decide +kernel
theorem d89_130 : decode (mC M89) 130 = .ok (.baload, 1) := by decide +kernel
theorem d89_131 : decode (mC M89) 131 = .ok (.bipush 57, 2) := by decide +kernel
theorem d89_133 : decode (mC M89) 133 = .ok (.if_icmp .gt 10, 3) := by decide +kernel
theorem d89_136 : decode (mC M89) 136 = .ok (.aload_n 0, 1) := by decide +kernel
theorem d89_137 : decode (mC M89) 137 = .ok (.invokevirtual 37, 3) := by decide +kernel
theorem d89_140 : decode (mC M89) 140 = .ok (.goto 40, 3) := by decide +kernel
theorem d89_143 : decode (mC M89) 143 = .ok (.aload_n 0, 1) := by decide +kernel
theorem d89_144 : decode (mC M89) 144 = .ok (.getfield 9, 3) := by decide +kernel
theorem d89_147 : decode (mC M89) 147 = .ok (.aload_n 0, 1) := by decide +kernel
theorem d89_148 : decode (mC M89) 148 = .ok (.getfield 28, 3) := by decide +kernel
theorem d89_151 : decode (mC M89) 151 = .ok (.baload, 1) := by decide +kernel
theorem d89_152 : decode (mC M89) 152 = .ok (.bipush 59, 2) := by decide +kernel
theorem d89_154 : decode (mC M89) 154 = .ok (.if_icmp .ne 21, 3) := by decide +kernel
theorem d89_157 : decode (mC M89) 157 = .ok (.aload_n 0, 1) := by decide +kernel
theorem d89_158 : decode (mC M89) 158 = .ok (.iconst 3, 1) := by decide +kernel
theorem d89_159 : decode (mC M89) 159 = .ok (.putfield 31, 3) := by decide +kernel
theorem d89_162 : decode (mC M89) 162 = .ok (.aload_n 0, 1) := by decide +kernel
theorem d89_163 : decode (mC M89) 163 = .ok (.dup, 1) := by decide +kernel
theorem d89_164 : decode (mC M89) 164 = .ok (.getfield 22, 3) := by decide +kernel
theorem d89_167 : decode (mC M89) 167 = .ok (.iconst 1, 1) := by decide +kernel
theorem d89_168 : decode (mC M89) 168 = .ok (.iadd, 1) := by decide +kernel
theorem d89_169 : decode (mC M89) 169 = .ok (.putfield 22, 3) := by decide +kernel
theorem d89_172 : decode (mC M89) 172 = .ok (.goto 8, 3) := by decide +kernel
theorem d89_175 : decode (mC M89) 175 = .ok (.aload_n 0, 1) := by decide +kernel
theorem d89_176 : decode (mC M89) 176 = .ok (.iconst 4, 1) := by decide +kernel
theorem d89_177 : decode (mC M89) 177 = .ok (.putfield 31, 3) := by decide +kernel
theorem d89_180 : decode (mC M89) 180 = .ok (.return_, 1) := by decide +kernel
theorem sc89_0 : ∀ q ∈ tc89_0, Snd xtb M89 q.1 q.2 := List.forall_mem_cons.mpr ⟨snd_aload_n d89_0 rfl, List.forall_mem_cons.mpr ⟨snd_aload_n d89_1 rfl, List.forall_mem_cons.mpr ⟨snd_getI (by decide) (by decide) rfl wd159 d89_2, List.forall_mem_cons.mpr ⟨snd_putI (by decide) (by decide) rfl rfl wd157 d89_5, List.forall_mem_cons.mpr ⟨snd_aload_n d89_8 rfl, List.forall_mem_cons.mpr ⟨snd_getI (by decide) (by decide) rfl wd157 d89_9, List.forall_mem_cons.mpr ⟨snd_aload_n d89_12 rfl, List.forall_mem_cons.mpr ⟨snd_getI (by decide) (by decide) rfl wd156 d89_13, List.forall_mem_cons.mpr ⟨snd_cmp_ge d89_16 (by decide), List.forall_mem_cons.mpr ⟨snd_aload_n d89_19 rfl, List.forall_mem_cons.mpr ⟨snd_getR (by decide) (by decide) rfl wd153 d89_20, List.forall_mem_cons.mpr ⟨snd_aload_n d89_23 rfl, List.forall_mem_cons.mpr ⟨snd_getI (by decide) (by decide) rfl wd157 d89_24, List.forall_mem_cons.mpr ⟨snd_bald d89_27, List.forall_mem_cons.mpr ⟨snd_bipush d89_28 (by decide +kernel), List.forall_mem_cons.mpr ⟨snd_cmp_ne d89_30 (by decide), List.forall_mem_cons.mpr ⟨snd_aload_n d89_33 rfl, List.forall_mem_cons.mpr ⟨snd_dup d89_34, List.forall_mem_cons.mpr ⟨snd_getI (by decide) (by decide) rfl wd157 d89_35, List.forall_mem_cons.mpr ⟨snd_iconst d89_38 (by decide +kernel), List.forall_mem_cons.mpr ⟨snd_iadd d89_39, List.forall_mem_cons.mpr ⟨snd_putI (by decide) (by decide) rfl rfl wd157 d89_40, List.forall_mem_cons.mpr ⟨snd_goto d89_43 (by decide), List.forall_mem_cons.mpr ⟨snd_aload_n d89_46 rfl, List.forall_mem_cons.mpr ⟨snd_aload_n d89_47 rfl, List.forall_mem_cons.mpr ⟨snd_getI (by decide) (by decide) rfl wd157 d89_48, List.forall_mem_cons.mpr ⟨snd_putI (by decide) (by decide) rfl rfl wd159 d89_51, List.forall_mem_cons.mpr ⟨snd_aload_n d89_54 rfl, List.forall_mem_cons.mpr ⟨snd_getI (by decide) (by decide) rfl wd157 d89_55, List.forall_mem_cons.mpr ⟨snd_aload_n d89_58 rfl, fun _ h => by cases h⟩⟩⟩⟩⟩⟩⟩⟩⟩⟩⟩⟩⟩⟩⟩⟩⟩⟩⟩⟩⟩⟩⟩⟩⟩⟩⟩⟩⟩⟩
theorem sc89_1 : ∀ q ∈ tc89_1, Snd xtb M89 q.1 q.2 := List.forall_mem_cons.mpr ⟨snd_getI (by decide) (by decide) rfl wd156 d89_59, List.forall_mem_cons.mpr ⟨snd_cmp_lt d89_62 (by decide), List.forall_mem_cons.mpr ⟨snd_aload_n d89_65 rfl, List.forall_mem_cons.mpr ⟨snd_iconst d89_66 (by decide +kernel), List.forall_mem_cons.mpr ⟨snd_putI (by decide) (by decide) rfl rfl wd161 d89_67, List.forall_mem_cons.mpr ⟨snd_goto d89_70 (by decide), List.forall_mem_cons.mpr ⟨snd_aload_n d89_73 rfl, List.forall_mem_cons.mpr ⟨snd_getR (by decide) (by decide) rfl wd153 d89_74, List.forall_mem_cons.mpr ⟨snd_aload_n d89_77 rfl, List.forall_mem_cons.mpr ⟨snd_getI (by decide) (by decide) rfl wd157 d89_78, List.forall_mem_cons.mpr ⟨snd_bald d89_81, List.forall_mem_cons.mpr ⟨snd_bipush d89_82 (by decide +kernel), List.forall_mem_cons.mpr ⟨snd_cmp_lt d89_84 (by decide), List.forall_mem_cons.mpr ⟨snd_aload_n d89_87 rfl, List.forall_mem_cons.mpr ⟨snd_getR (by decide) (by decide) rfl wd153 d89_88, List.forall_mem_cons.mpr ⟨snd_aload_n d89_91 rfl, List.forall_mem_cons.mpr ⟨snd_getI (by decide) (by decide) rfl wd157 d89_92, List.forall_mem_cons.mpr ⟨snd_bald d89_95, List.forall_mem_cons.mpr ⟨snd_bipush d89_96 (by decide +kernel), List.forall_mem_cons.mpr ⟨snd_cmp_gt d89_98 (by decide), List.forall_mem_cons.mpr ⟨snd_aload_n d89_101 rfl, List.forall_mem_cons.mpr ⟨snd_callV (by decide) rfl cn90 ⟨by decide +kernel, by decide +kernel⟩ cm90 (List.forall_mem_cons.mpr ⟨wd585, cw90⟩) d89_102, List.forall_mem_cons.mpr ⟨snd_goto d89_105 (by decide), List.forall_mem_cons.mpr ⟨snd_aload_n d89_108 rfl, List.forall_mem_cons.mpr ⟨snd_getR (by decide) (by decide) rfl wd153 d89_109, List.forall_mem_cons.mpr ⟨snd_aload_n d89_112 rfl, List.forall_mem_cons.mpr ⟨snd_getI (by decide) (by decide) rfl wd157 d89_113, List.forall_mem_cons.mpr ⟨snd_bald d89_116, List.forall_mem_cons.mpr ⟨snd_bipush d89_117 (by decide +kernel), List.forall_mem_cons.mpr ⟨snd_cmp_lt d89_119 (by decide), fun _ h => by cases h⟩⟩⟩⟩⟩⟩⟩⟩⟩⟩⟩⟩⟩⟩⟩⟩⟩⟩⟩⟩⟩⟩⟩⟩⟩⟩⟩⟩⟩⟩
theorem sc89_2 : ∀ q ∈ tc89_2, Snd xtb M89 q.1 q.2 := List.forall_mem_cons.mpr ⟨snd_aload_n d89_122 rfl, List.forall_mem_cons.mpr ⟨snd_getR (by decide) (by decide) rfl wd153 d89_123, List.forall_mem_cons.mpr ⟨snd_aload_n d89_126 rfl, List.forall_mem_cons.mpr ⟨snd_getI (by decide) (by decide) rfl wd157 d89_127, List.forall_mem_cons.mpr ⟨snd_bald d89_130, List.forall_mem_cons.mpr ⟨snd_bipush d89_131 (by decide +kernel), List.forall_mem_cons.mpr ⟨snd_cmp_gt d89_133 (by decide), List.forall_mem_cons.mpr ⟨snd_aload_n d89_136 rfl, List.forall_mem_cons.mpr ⟨snd_callV (by decide) rfl cn91 ⟨by decide +kernel, by decide +kernel⟩ cm91 (List.forall_mem_cons.mpr ⟨wd590, cw91⟩) d89_137, List.forall_mem_cons.mpr ⟨snd_goto d89_140 (by decide), List.forall_mem_cons.mpr ⟨snd_aload_n d89_143 rfl, List.forall_mem_cons.mpr ⟨snd_getR (by decide) (by decide) rfl wd153 d89_144, List.forall_mem_cons.mpr ⟨snd_aload_n d89_147 rfl, List.forall_mem_cons.mpr ⟨snd_getI (by decide) (by decide) rfl wd157 d89_148, List.forall_mem_cons.mpr ⟨snd_bald d89_151, List.forall_mem_cons.mpr ⟨snd_bipush d89_152 (by decide +kernel), List.forall_mem_cons.mpr ⟨snd_cmp_ne d89_154 (by decide), List.forall_mem_cons.mpr ⟨snd_aload_n d89_157 rfl, List.forall_mem_cons.mpr ⟨snd_iconst d89_158 (by decide +kernel), List.forall_mem_cons.mpr ⟨snd_putI (by decide) (by decide) rfl rfl wd161 d89_159, List.forall_mem_cons.mpr ⟨snd_aload_n d89_162 rfl, List.forall_mem_cons.mpr ⟨snd_dup d89_163, List.forall_mem_cons.mpr ⟨snd_getI (by decide) (by decide) rfl wd159 d89_164, List.forall_mem_cons.mpr ⟨snd_iconst d89_167 (by decide +kernel), List.forall_mem_cons.mpr ⟨snd_iadd d89_168, List.forall_mem_cons.mpr ⟨snd_putI (by decide) (by decide) rfl rfl wd159 d89_169, List.forall_mem_cons.mpr ⟨snd_goto d89_172 (by decide), List.forall_mem_cons.mpr ⟨snd_aload_n d89_175 rfl, List.forall_mem_cons.mpr ⟨snd_iconst d89_176 (by decide +kernel), List.forall_mem_cons.mpr ⟨snd_putI (by decide) (by decide) rfl rfl wd161 d89_177, fun _ h => by cases h⟩⟩⟩⟩⟩⟩⟩⟩⟩⟩⟩⟩⟩⟩⟩⟩⟩⟩⟩⟩⟩⟩⟩⟩⟩⟩⟩⟩⟩⟩
theorem sc89_3 : ∀ q ∈ tc89_3, Snd xtb M89 q.1 q.2 := List.forall_mem_cons.mpr ⟨snd_vret rfl d89_180, fun _ h => by cases h⟩
theorem d90_0 : decode (mC M90) 0 = .ok (.aload_n 0, 1) := by decide +kernel
theorem d90_1 : decode (mC M90) 1 = .ok (.lconst 0, 1) := by decide +kernel
theorem d90_2 : decode (mC M90) 2 = .ok (.putfield 40, 3) := by decide +kernel
theorem d90_5 : decode (mC M90) 5 = .ok (.aload_n 0, 1) := by decide +kernel
theorem d90_6 : decode (mC M90) 6 = .ok (.getfield 22, 3) := by decide +kernel
theorem d90_9 : decode (mC M90) 9 = .ok (.aload_n 0, 1) := by decide +kernel
theorem d90_10 : decode (mC M90) 10 = .ok (.getfield 19, 3) := by decide +kernel
theorem d90_13 : decode (mC M90) 13 = .ok (.if_icmp .ge 72, 3) := by decide +kernel
theorem d90_16 : decode (mC M90) 16 = .ok (.aload_n 0, 1) := by decide +kernel
theorem d90_17 : decode (mC M90) 17 = .ok (.getfield 9, 3) := by decide +kernel
theorem d90_20 : decode (mC M90) 20 = .ok (.aload_n 0, 1) := by decide +kernel
theorem d90_21 : decode (mC M90) 21 = .ok (.getfield 22, 3) := by decide +kernel
theorem d90_24 : decode (mC M90) 24 = .ok (.baload, 1) := by decide +kernel
theorem d90_25 : decode (mC M90) 25 = .ok (.bipush 97, 2) := by decide +kernel
theorem d90_27 : decode (mC M90) 27 = .ok (.if_icmp .lt 58, 3) := by decide +kernel
theorem d90_30 : decode (mC M90) 30 = .ok (.aload_n 0, 1) := by decide +kernel
theorem d90_31 : decode (mC M90) 31 = .ok (.getfield 9, 3) := by decide +kernel
theorem d90_34 : decode (mC M90) 34 = .ok (.aload_n 0, 1) := by decide +kernel
theorem d90_35 : decode (mC M90) 35 = .ok (.getfield 22, 3) := by decide +kernel
theorem d90_38 : decode (mC M90) 38 = .ok (.baload, 1) := by decide +kernel
theorem d90_39 : decode (mC M90) 39 = .ok (.bipush 122, 2) := by decide +kernel
theorem d90_41 : decode (mC M90) 41 = .ok (.if_icmp .gt 44, 3) := by decide +kernel
theorem d90_44 : decode (mC M90) 44 = .ok (.aload_n 0, 1) := by decide +kernel
theorem d90_45 : decode (mC M90) 45 = .ok (.aload_n 0, 1) := by decide +kernel
theorem d90_46 : decode (mC M90) 46 = .ok (.getfield 40, 3) := by decide +kernel
theorem d90_49 : decode (mC M90) 49 = .ok (.ldc2_w 44, 3) := by decide +kernel
theorem d90_52 : decode (mC M90) 52 = .ok (.lmul, 1) := by decide +kernel
theorem d90_53 : decode (mC M90) 53 = .ok (.aload_n 0, 1) := by decide +kernel
theorem d90_54 : decode (mC M90) 54 = .ok (.getfield 9, 3) := by decide +kernel
theorem d90_57 : decode (mC M90) 57 = .ok (.aload_n 0, 1) := by decide +kernel
theorem d90_58 : decode (mC M90) 58 = .ok (.getfield 22, 3) := by decide +kernel
theorem d90_61 : decode (mC M90) 61 = .ok (.baload, 1) := by decide +kernel
theorem d90_62 : decode (mC M90) 62 = .ok (.bipush 97, 2) := by decide +kernel
theorem d90_64 : decode (mC M90) 64 = .ok (.isub, 1) := by decide +kernel
theorem d90_65 : decode (mC M90) 65 = .ok (.iconst 1, 1) := by decide +kernel
theorem d90_66 : decode (mC M90) 66 = .ok (.iadd, 1) := by decide +kernel
theorem d90_67 : decode (mC M90) 67 = .ok (.i2l, 1) := by decide +kernel
theorem d90_68 : decode (mC M90) 68 = .ok (.ladd, 1) := by decide +kernel
theorem d90_69 : decode (mC M90) 69 = .ok (.putfield 40, 3) := by decide +kernel
theorem d90_72 : decode (mC M90) 72 = .ok (.aload_n 0, 1) := by decide +kernel
theorem d90_73 : decode (mC M90) 73 = .ok (.dup, 1) := by decide +kernel
theorem d90_74 : decode (mC M90) 74 = .ok (.getfield 22, 3) := by decide +kernel
theorem d90_77 : decode (mC M90) 77 = .ok (.iconst 1, 1) := by decide +kernel
theorem d90_78 : decode (mC M90) 78 = .ok (.iadd, 1) := by decide +kernel
theorem d90_79 : decode (mC M90) 79 = .ok (.putfield 22, 3) := by decide +kernel
theorem d90_82 : decode (mC M90) 82 = .ok (.goto (-77), 3) := by decide +kernel
theorem d90_85 : decode (mC M90) 85 = .ok (.aload_n 0, 1) := by decide +kernel
theorem d90_86 : decode (mC M90) 86 = .ok (.aload_n 0, 1) := by decide +kernel
theorem d90_87 : decode (mC M90) 87 = .ok (.getfield 22, 3) := by decide +kernel
theorem d90_90 : decode (mC M90) 90 = .ok (.aload_n 0, 1) := by decide +kernel
theorem d90_91 : decode (mC M90) 91 = .ok (.getfield 28, 3) := by decide +kernel
theorem d90_94 : decode (mC M90) 94 = .ok (.isub, 1) := by decide +kernel
theorem d90_95 : decode (mC M90) 95 = .ok (.bipush 7, 2) := by decide +kernel
theorem d90_97 : decode (mC M90) 97 = .ok (.if_icmp .gt 7, 3) := by decide +kernel
theorem d90_100 : decode (mC M90) 100 = .ok (.iconst 1, 1) := by decide +kernel
theorem d90_101 : decode (mC M90) 101 = .ok (.goto 4, 3) := by decide +kernel
theorem d90_104 : decode (mC M90) 104 = .ok (.iconst 4, 1) := by decide +kernel
theorem d90_105 : decode (mC M90) 105 = .ok (.putfield 31, 3) := by decide +kernel
theorem d90_108 : decode (mC M90) 108 = .ok (.return_, 1) := by decide +kernel
theorem sc90_0 : ∀ q ∈ tc90_0, Snd xtb M90 q.1 q.2 := List.forall_mem_cons.mpr ⟨snd_aload_n d90_0 rfl, List.forall_mem_cons.mpr ⟨snd_lconst d90_1 (by decide +kernel), List.forall_mem_cons.mpr ⟨snd_putJ (by decide) (by decide) rfl rfl wd162 d90_2, List.forall_mem_cons.mpr ⟨snd_aload_n d90_5 rfl, List.forall_mem_cons.mpr ⟨snd_getI (by decide) (by decide) rfl wd159 d90_6, List.forall_mem_cons.mpr ⟨snd_aload_n d90_9 rfl, List.forall_mem_cons.mpr ⟨snd_getI (by decide) (by decide) rfl wd156 d90_10, List.forall_mem_cons.mpr ⟨snd_cmp_ge d90_13 (by decide), List.forall_mem_cons.mpr ⟨snd_aload_n d90_16 rfl, List.forall_mem_cons.mpr ⟨snd_getR (by decide) (by decide) rfl wd153 d90_17, List.forall_mem_cons.mpr ⟨snd_aload_n d90_20 rfl, List.forall_mem_cons.mpr ⟨snd_getI (by decide) (by decide) rfl wd159 d90_21, List.forall_mem_cons.mpr ⟨snd_bald d90_24, List.forall_mem_cons.mpr ⟨snd_bipush d90_25 (by decide +kernel), List.forall_mem_cons.mpr ⟨snd_cmp_lt d90_27 (by decide), List.forall_mem_cons.mpr ⟨snd_aload_n d90_30 rfl, List.forall_mem_cons.mpr ⟨snd_getR (by decide) (by decide) rfl wd153 d90_31, List.forall_mem_cons.mpr ⟨snd_aload_n d90_34 rfl, List.forall_mem_cons.mpr ⟨snd_getI (by decide) (by decide) rfl wd159 d90_35, List.forall_mem_cons.mpr ⟨snd_bald d90_38, List.forall_mem_cons.mpr ⟨snd_bipush d90_39 (by decide +kernel), List.forall_mem_cons.mpr ⟨snd_cmp_gt d90_41 (by decide), List.forall_mem_cons.mpr ⟨snd_aload_n d90_44 rfl, List.forall_mem_cons.mpr ⟨snd_aload_n d90_45 rfl, List.forall_mem_cons.mpr ⟨snd_getJ (by decide) (by decide) rfl wd162 d90_46, List.forall_mem_cons.mpr ⟨snd_ldc2 d90_49 wd589, List.forall_mem_cons.mpr ⟨snd_lmul d90_52, List.forall_mem_cons.mpr ⟨snd_aload_n d90_53 rfl, List.forall_mem_cons.mpr ⟨snd_getR (by decide) (by decide) rfl wd153 d90_54, List.forall_mem_cons.mpr ⟨snd_aload_n d90_57 rfl, fun _ h => by cases h⟩⟩⟩⟩⟩⟩⟩⟩⟩⟩⟩⟩⟩⟩⟩⟩⟩⟩⟩⟩⟩⟩⟩⟩⟩⟩⟩⟩⟩⟩
theorem sc90_1 : ∀ q ∈ tc90_1, Snd xtb M90 q.1 q.2 := List.forall_mem_cons.mpr ⟨snd_getI (by decide) (by decide) rfl wd159 d90_58, List.forall_mem_cons.mpr ⟨snd_bald d90_61, List.forall_mem_cons.mpr ⟨snd_bipush d90_62 (by decide +kernel), List.forall_mem_cons.mpr ⟨snd_isub d90_64, List.forall_mem_cons.mpr ⟨snd_iconst d90_65 (by decide +kernel), List.forall_mem_cons.mpr ⟨snd_iadd d90_66, List.forall_mem_cons.mpr ⟨snd_i2l d90_67, List.forall_mem_cons.mpr ⟨snd_ladd d90_68, List.forall_mem_cons.mpr ⟨snd_putJ (by decide) (by decide) rfl rfl wd162 d90_69, List.forall_mem_cons.mpr ⟨snd_aload_n d90_72 rfl, List.forall_mem_cons.mpr ⟨snd_dup d90_73, List.forall_mem_cons.mpr ⟨snd_getI (by decide) (by decide) rfl wd159 d90_74, List.forall_mem_cons.mpr ⟨snd_iconst d90_77 (by decide +kernel), List.forall_mem_cons.mpr ⟨snd_iadd d90_78, List.forall_mem_cons.mpr ⟨snd_putI (by decide) (by decide) rfl rfl wd159 d90_79, List.forall_mem_cons.mpr ⟨snd_goto d90_82 (by decide), List.forall_mem_cons.mpr ⟨snd_aload_n d90_85 rfl, List.forall_mem_cons.mpr ⟨snd_aload_n d90_86 rfl, List.forall_mem_cons.mpr ⟨snd_getI (by decide) (by decide) rfl wd159 d90_87, List.forall_mem_cons.mpr ⟨snd_aload_n d90_90 rfl, List.forall_mem_cons.mpr ⟨snd_getI (by decide) (by decide) rfl wd157 d90_91, List.forall_mem_cons.mpr ⟨snd_isub d90_94, List.forall_mem_cons.mpr ⟨snd_bipush d90_95 (by decide +kernel), List.forall_mem_cons.mpr ⟨snd_cmp_gt d90_97 (by decide), List.forall_mem_cons.mpr ⟨snd_iconst d90_100 (by decide +kernel), List.forall_mem_cons.mpr ⟨snd_goto d90_101 (by decide), List.forall_mem_cons.mpr ⟨snd_iconst d90_104 (by decide +kernel), List.forall_mem_cons.mpr ⟨snd_putI (by decide) (by decide) rfl rfl wd161 d90_105, List.forall_mem_cons.mpr ⟨snd_vret rfl d90_108, fun _ h => by cases h⟩⟩⟩⟩⟩⟩⟩⟩⟩⟩⟩⟩⟩⟩⟩⟩⟩⟩⟩⟩⟩⟩⟩⟩⟩⟩⟩⟩⟩
theorem d91_0 : decode (mC M91) 0 = .ok (.aload_n 0, 1) := by decide +kernel
theorem d91_1 : decode (mC M91) 1 = .ok (.iconst 0, 1) := by decide +kernel
theorem d91_2 : decode (mC M91) 2 = .ok (.putfield 46, 3) := by decide +kernel
theorem d91_5 : decode (mC M91) 5 = .ok (.aload_n 0, 1) := by decide +kernel
theorem d91_6 : decode (mC M91) 6 = .ok (.getfield 22, 3) := by decide +kernel
theorem d91_9 : decode (mC M91) 9 = .ok (.aload_n 0, 1) := by decide +kernel
theorem d91_10 : decode (mC M91) 10 = .ok (.getfield 19, 3) := by decide +kernel
theorem d91_13 : decode (mC M91) 13 = .ok (.if_icmp .ge 68, 3) := by decide +kernel
theorem d91_16 : decode (mC M91) 16 = .ok (.aload_n 0, 1) := by decide +kernel
theorem d91_17 : decode (mC M91) 17 = .ok (.getfield 9, 3) := by decide +kernel
theorem d91_20 : decode (mC M91) 20 = .ok (.aload_n 0, 1) := by decide +kernel
theorem d91_21 : decode (mC M91) 21 = .ok (.getfield 22, 3) := by decide +kernel
theorem d91_24 : decode (mC M91) 24 = .ok (.baload, 1) := by decide +kernel
theorem d91_25 : decode (mC M91) 25 = .ok (.bipush 48, 2) := by decide +kernel
theorem d91_27 : decode (mC M91) 27 = .ok (.if_icmp .lt 54, 3) := by decide +kernel
theorem d91_30 : decode (mC M91) 30 = .ok (.aload_n 0, 1) := by decide +kernel
theorem d91_31 : decode (mC M91) 31 = .ok (.getfield 9, 3) := by decide +kernel
theorem d91_34 : decode (mC M91) 34 = .ok (.aload_n 0, 1) := by decide +kernel
theorem d91_35 : decode (mC M91) 35 = .ok (.getfield 22, 3) := by decide +kernel
theorem d91_38 : decode (mC M91) 38 = .ok (.baload, 1) := by decide +kernel
theorem d91_39 : decode (mC M91) 39 = .ok (.bipush 57, 2) := by decide +kernel
theorem d91_41 : decode (mC M91) 41 = .ok (.if_icmp .gt 40, 3) := by decide +kernel
theorem d91_44 : decode (mC M91) 44 = .ok (.aload_n 0, 1) := by decide +kernel
theorem d91_45 : decode (mC M91) 45 = .ok (.aload_n 0, 1) := by decide +kernel
theorem d91_46 : decode (mC M91) 46 = .ok (.getfield 46, 3) := by decide +kernel
theorem d91_49 : decode (mC M91) 49 = .ok (.bipush 10, 2) := by decide +kernel
theorem d91_51 : decode (mC M91) 51 = .ok (.imul, 1) := by decide +kernel
theorem d91_52 : decode (mC M91) 52 = .ok (.aload_n 0, 1) := by decide +kernel
theorem d91_53 : decode (mC M91) 53 = .ok (.getfield 9, 3) := by decide +kernel
theorem d91_56 : decode (mC M91) 56 = .ok (.aload_n 0, 1) := by decide +kernel
theorem d91_57 : decode (mC M91) 57 = .ok (.getfield 22, 3) := by decide +kernel
theorem d91_60 : decode (mC M91) 60 = .ok (.baload, 1) := by decide +kernel
theorem d91_61 : decode (mC M91) 61 = .ok (.bipush 48, 2) := by decide +kernel
theorem d91_63 : decode (mC M91) 63 = .ok (.isub, 1) := by decide +kernel
theorem d91_64 : decode (mC M91) 64 = .ok (.iadd, 1) := by decide +kernel
theorem d91_65 : decode (mC M91) 65 = .ok (.putfield 46, 3) := by decide +kernel
theorem d91_68 : decode (mC M91) 68 = .ok (.aload_n 0, 1) := by decide +kernel
theorem d91_69 : decode (mC M91) 69 = .ok (.dup, 1) := by decide +kernel
theorem d91_70 : decode (mC M91) 70 = .ok (.getfield 22, 3) := by decide +kernel
theorem d91_73 : decode (mC M91) 73 = .ok (.iconst 1, 1) := by decide +kernel
theorem d91_74 : decode (mC M91) 74 = .ok (.iadd, 1) := by decide +kernel
theorem d91_75 : decode (mC M91) 75 = .ok (.putfield 22, 3) := by decide +kernel
theorem d91_78 : decode (mC M91) 78 = .ok (.goto (-73), 3) := by decide +kernel
theorem d91_81 : decode (mC M91) 81 = .ok (.aload_n 0, 1) := by decide +kernel
theorem d91_82 : decode (mC M91) 82 = .ok (.aload_n 0, 1) := by decide +kernel
theorem d91_83 : decode (mC M91) 83 = .ok (.getfield 22, 3) := by decide +kernel
theorem d91_86 : decode (mC M91) 86 = .ok (.aload_n 0, 1) := by decide +kernel
theorem d91_87 : decode (mC M91) 87 = .ok (.getfield 28, 3) := by decide +kernel
theorem d91_90 : decode (mC M91) 90 = .ok (.isub, 1) := by decide +kernel
theorem d91_91 : decode (mC M91) 91 = .ok (.iconst 4, 1) := by decide +kernel
theorem d91_92 : decode (mC M91) 92 = .ok (.if_icmp .gt 7, 3) := by decide +kernel
theorem d91_95 : decode (mC M91) 95 = .ok (.iconst 2, 1) := by decide +kernel
theorem d91_96 : decode (mC M91) 96 = .ok (.goto 4, 3) := by decide +kernel
theorem d91_99 : decode (mC M91) 99 = .ok (.iconst 4, 1) := by decide +kernel
theorem d91_100 : decode (mC M91) 100 = .ok (.putfield 31, 3) := by decide +kernel
theorem d91_103 : decode (mC M91) 103 = .ok (.return_, 1) := by decide +kernel
theorem sc91_0 : ∀ q ∈ tc91_0, Snd xtb M91 q.1 q.2 := List.forall_mem_cons.mpr ⟨snd_aload_n d91_0 rfl, List.forall_mem_cons.mpr ⟨snd_iconst d91_1 (by decide +kernel), List.forall_mem_cons.mpr ⟨snd_putI (by decide) (by decide) rfl rfl wd164 d91_2, List.forall_mem_cons.mpr ⟨snd_aload_n d91_5 rfl, List.forall_mem_cons.mpr ⟨snd_getI (by decide) (by decide) rfl wd159 d91_6, List.forall_mem_cons.mpr ⟨snd_aload_n d91_9 rfl, List.forall_mem_cons.mpr ⟨snd_getI (by decide) (by decide) rfl wd156 d91_10, List.forall_mem_cons.mpr ⟨snd_cmp_ge d91_13 (by decide), List.forall_mem_cons.mpr ⟨snd_aload_n d91_16 rfl, List.forall_mem_cons.mpr ⟨snd_getR (by decide) (by decide) rfl wd153 d91_17, List.forall_mem_cons.mpr ⟨snd_aload_n d91_20 rfl, List.forall_mem_cons.mpr ⟨snd_getI (by decide) (by decide) rfl wd159 d91_21, List.forall_mem_cons.mpr ⟨snd_bald d91_24, List.forall_mem_cons.mpr ⟨snd_bipush d91_25 (by decide +kernel), List.forall_mem_cons.mpr ⟨snd_cmp_lt d91_27 (by decide), List.forall_mem_cons.mpr ⟨snd_aload_n d91_30 rfl, List.forall_mem_cons.mpr ⟨snd_getR (by decide) (by decide) rfl wd153 d91_31, List.forall_mem_cons.mpr ⟨snd_aload_n d91_34 rfl, List.forall_mem_cons.mpr ⟨snd_getI (by decide) (by decide) rfl wd159 d91_35, List.forall_mem_cons.mpr ⟨snd_bald d91_38, List.forall_mem_cons.mpr ⟨snd_bipush d91_39 (by decide +kernel), List.forall_mem_cons.mpr ⟨snd_cmp_gt d91_41 (by decide), List.forall_mem_cons.mpr ⟨snd_aload_n d91_44 rfl, List.forall_mem_cons.mpr ⟨snd_aload_n d91_45 rfl, List.forall_mem_cons.mpr ⟨snd_getI (by decide) (by decide) rfl wd164 d91_46, List.forall_mem_cons.mpr ⟨snd_bipush d91_49 (by decide +kernel), List.forall_mem_cons.mpr ⟨snd_imul d91_51, List.forall_mem_cons.mpr ⟨snd_aload_n d91_52 rfl, List.forall_mem_cons.mpr ⟨snd_getR (by decide) (by decide) rfl wd153 d91_53, List.forall_mem_cons.mpr ⟨snd_aload_n d91_56 rfl, fun _ h => by cases h⟩⟩⟩⟩⟩⟩⟩⟩⟩⟩⟩⟩⟩⟩⟩⟩⟩⟩⟩⟩⟩⟩⟩⟩⟩⟩⟩⟩⟩⟩
theorem sc91_1 : ∀ q ∈ tc91_1, Snd xtb M91 q.1 q.2 := List.forall_mem_cons.mpr ⟨snd_getI (by decide) (by decide) rfl wd159 d91_57, List.forall_mem_cons.mpr ⟨snd_bald d91_60, List.forall_mem_cons.mpr ⟨snd_bipush d91_61 (by decide +kernel), List.forall_mem_cons.mpr ⟨snd_isub d91_63, List.forall_mem_cons.mpr ⟨snd_iadd d91_64, List.forall_mem_cons.mpr ⟨snd_putI (by decide) (by decide) rfl rfl wd164 d91_65, List.forall_mem_cons.mpr ⟨snd_aload_n d91_68 rfl, List.forall_mem_cons.mpr ⟨snd_dup d91_69, List.forall_mem_cons.mpr ⟨snd_getI (by decide) (by decide) rfl wd159 d91_70, List.forall_mem_cons.mpr ⟨snd_iconst d91_73 (by decide +kernel), List.forall_mem_cons.mpr ⟨snd_iadd d91_74, List.forall_mem_cons.mpr ⟨snd_putI (by decide) (by decide) rfl rfl wd159 d91_75, List.forall_mem_cons.mpr ⟨snd_goto d91_78 (by decide), List.forall_mem_cons.mpr ⟨snd_aload_n d91_81 rfl, List.forall_mem_cons.mpr ⟨snd_aload_n d91_82 rfl, List.forall_mem_cons.mpr ⟨snd_getI (by decide) (by decide) rfl wd159 d91_83, List.forall_mem_cons.mpr ⟨snd_aload_n d91_86 rfl, List.forall_mem_cons.mpr ⟨snd_getI (by decide) (by decide) rfl wd157 d91_87, List.forall_mem_cons.mpr ⟨snd_isub d91_90, List.forall_mem_cons.mpr ⟨snd_iconst d91_91 (by decide +kernel), List.forall_mem_cons.mpr ⟨snd_cmp_gt d91_92 (by decide), List.forall_mem_cons.mpr ⟨snd_iconst d91_95 (by decide +kernel), List.forall_mem_cons.mpr ⟨snd_goto d91_96 (by decide), List.forall_mem_cons.mpr ⟨snd_iconst d91_99 (by decide +kernel), List.forall_mem_cons.mpr ⟨snd_putI (by decide) (by decide) rfl rfl wd161 d91_100, List.forall_mem_cons.mpr ⟨snd_vret rfl d91_103, fun _ h => by cases h⟩⟩⟩⟩⟩⟩⟩⟩⟩⟩⟩⟩⟩⟩⟩⟩⟩⟩⟩⟩⟩⟩⟩⟩⟩⟩
theorem d92_0 : decode (mC M92) 0 = .ok (.aload_n 0, 1) := by decide +kernel
theorem d92_1 : decode (mC M92) 1 = .ok (.getfield 31, 3) := by decide +kernel
theorem d92_4 : decode (mC M92) 4 = .ok (.iconst 1, 1) := by decide +kernel
theorem d92_5 : decode (mC M92) 5 = .ok (.if_icmp .ne 19, 3) := by decide +kernel
theorem d92_8 : decode (mC M92) 8 = .ok (.aload_n 0, 1) := by decide +kernel
theorem d92_9 : decode (mC M92) 9 = .ok (.getfield 22, 3) := by decide +kernel
theorem d92_12 : decode (mC M92) 12 = .ok (.aload_n 0, 1) := by decide +kernel
theorem d92_13 : decode (mC M92) 13 = .ok (.getfield 28, 3) := by decide +kernel
theorem d92_16 : decode (mC M92) 16 = .ok (.isub, 1) := by decide +kernel
theorem d92_17 : decode (mC M92) 17 = .ok (.aload_n 1, 1) := by decide +kernel
theorem d92_18 : decode (mC M92) 18 = .ok (.invokevirtual 49, 3) := by decide +kernel
theorem d92_21 : decode (mC M92) 21 = .ok (.if_icmp .eq 5, 3) := by decide +kernel
theorem d92_24 : decode (mC M92) 24 = .ok (.iconst 0, 1) := by decide +kernel
theorem d92_25 : decode (mC M92) 25 = .ok (.ireturn, 1) := by decide +kernel
theorem d92_26 : decode (mC M92) 26 = .ok (.iconst 0, 1) := by decide +kernel
theorem d92_27 : decode (mC M92) 27 = .ok (.istore_n 2, 1) := by decide +kernel
theorem d92_28 : decode (mC M92) 28 = .ok (.iload_n 2, 1) := by decide +kernel
theorem d92_29 : decode (mC M92) 29 = .ok (.aload_n 1, 1) := by decide +kernel
theorem d92_30 : decode (mC M92) 30 = .ok (.invokevirtual 49, 3) := by decide +kernel
theorem d92_33 : decode (mC M92) 33 = .ok (.if_icmp .ge 30, 3) := by decide +kernel
theorem d92_36 : decode (mC M92) 36 = .ok (.aload_n 0, 1) := by decide +kernel
theorem d92_37 : decode (mC M92) 37 = .ok (.getfield 9, 3) := by decide +kernel
theorem d92_40 : decode (mC M92) 40 = .ok (.aload_n 0, 1) := by decide +kernel
theorem d92_41 : decode (mC M92) 41 = .ok (.getfield 28, 3) := by decide +kernel
theorem d92_44 : decode (mC M92) 44 = .ok (.iload_n 2, 1) := by decide +kernel
theorem d92_45 : decode (mC M92) 45 = .ok (.iadd, 1) := by decide +kernel
theorem d92_46 : decode (mC M92) 46 = .ok (.baload, 1) := by decide +kernel
theorem d92_47 : decode (mC M92) 47 = .ok (.aload_n 1, 1) := by decide +kernel
theorem d92_48 : decode (mC M92) 48 = .ok (.iload_n 2, 1) := by decide +kernel
theorem d92_49 : decode (mC M92) 49 = .ok (.invokevirtual 55, 3) := by decide +kernel
theorem d92_52 : decode (mC M92) 52 = .ok (.if_icmp .eq 5, 3) := by decide +kernel
theorem d92_55 : decode (mC M92) 55 = .ok (.iconst 0, 1) := by decide +kernel
theorem d92_56 : decode (mC M92) 56 = .ok (.ireturn, 1) := by decide +kernel
theorem d92_57 : decode (mC M92) 57 = .ok (.iinc 2 1, 3) := by decide +kernel
theorem d92_60 : decode (mC M92) 60 = .ok (.goto (-32), 3) := by decide +kernel
theorem d92_63 : decode (mC M92) 63 = .ok (.iconst 1, 1) := by decide +kernel
theorem d92_64 : decode (mC M92) 64 = .ok (.ireturn, 1) := by decide +kernel
theorem sc92_0 : ∀ q ∈ tc92_0, Snd xtb M92 q.1 q.2 := List.forall_mem_cons.mpr ⟨snd_aload_n d92_0 rfl, List.forall_mem_cons.mpr ⟨snd_getI (by decide) (by decide) rfl wd161 d92_1, List.forall_mem_cons.mpr ⟨snd_iconst d92_4 (by decide +kernel), List.forall_mem_cons.mpr ⟨snd_cmp_ne d92_5 (by decide), List.forall_mem_cons.mpr ⟨snd_aload_n d92_8 rfl, List.forall_mem_cons.mpr ⟨snd_getI (by decide) (by decide) rfl wd159 d92_9, List.forall_mem_cons.mpr ⟨snd_aload_n d92_12 rfl, List.forall_mem_cons.mpr ⟨snd_getI (by decide) (by decide) rfl wd157 d92_13, List.forall_mem_cons.mpr ⟨snd_isub d92_16, List.forall_mem_cons.mpr ⟨snd_aload_n d92_17 rfl, List.forall_mem_cons.mpr ⟨snd_tl (by decide) (by decide) wd603 d92_18, List.forall_mem_cons.mpr ⟨snd_cmp_eq d92_21 (by decide), List.forall_mem_cons.mpr ⟨snd_iconst d92_24 (by decide +kernel), List.forall_mem_cons.mpr ⟨snd_zret rfl d92_25, List.forall_mem_cons.mpr ⟨snd_iconst d92_26 (by decide +kernel), List.forall_mem_cons.mpr ⟨snd_istore_n d92_27 rfl, List.forall_mem_cons.mpr ⟨snd_iload_n d92_28 rfl, List.forall_mem_cons.mpr ⟨snd_aload_n d92_29 rfl, List.forall_mem_cons.mpr ⟨snd_tl (by decide) (by decide) wd603 d92_30, List.forall_mem_cons.mpr ⟨snd_cmp_ge d92_33 (by decide), List.forall_mem_cons.mpr ⟨snd_aload_n d92_36 rfl, List.forall_mem_cons.mpr ⟨snd_getR (by decide) (by decide) rfl wd153 d92_37, List.forall_mem_cons.mpr ⟨snd_aload_n d92_40 rfl, List.forall_mem_cons.mpr ⟨snd_getI (by decide) (by decide) rfl wd157 d92_41, List.forall_mem_cons.mpr ⟨snd_iload_n d92_44 rfl, List.forall_mem_cons.mpr ⟨snd_iadd d92_45, List.forall_mem_cons.mpr ⟨snd_bald d92_46, List.forall_mem_cons.mpr ⟨snd_aload_n d92_47 rfl, List.forall_mem_cons.mpr ⟨snd_iload_n d92_48 rfl, List.forall_mem_cons.mpr ⟨snd_tc (by decide) (by decide) wd613 d92_49, fun _ h => by cases h⟩⟩⟩⟩⟩⟩⟩⟩⟩⟩⟩⟩⟩⟩⟩⟩⟩⟩⟩⟩⟩⟩⟩⟩⟩⟩⟩⟩⟩⟩
theorem sc92_1 : ∀ q ∈ tc92_1, Snd xtb M92 q.1 q.2 := List.forall_mem_cons.mpr ⟨snd_cmp_eq d92_52 (by decide), List.forall_mem_cons.mpr ⟨snd_iconst d92_55 (by decide +kernel), List.forall_mem_cons.mpr ⟨snd_zret rfl d92_56, List.forall_mem_cons.mpr ⟨snd_iinc d92_57 (by decide +kernel), List.forall_mem_cons.mpr ⟨snd_goto d92_60 (by decide), List.forall_mem_cons.mpr ⟨snd_iconst d92_63 (by decide +kernel), List.forall_mem_cons.mpr ⟨snd_zret rfl d92_64, fun _ h => by cases h⟩⟩⟩⟩⟩⟩⟩
theorem d93_0 : decode (mC M93) 0 = .ok (.aload_n 0, 1) := by decide +kernel
theorem d93_1 : decode (mC M93) 1 = .ok (.getfield 31, 3) := by decide +kernel
theorem d93_4 : decode (mC M93) 4 = .ok (.iconst 1, 1) := by decide +kernel
theorem d93_5 : decode (mC M93) 5 = .ok (.if_icmp .ne 97, 3) := by decide +kernel
theorem d93_8 : decode (mC M93) 8 = .ok (.aload_n 0, 1) := by decide +kernel
theorem d93_9 : decode (mC M93) 9 = .ok (.ldc 59, 2) := by decide +kernel
theorem d93_11 : decode (mC M93) 11 = .ok (.invokevirtual 61, 3) := by decide +kernel
theorem d93_14 : decode (mC M93) 14 = .ok (.ifCond .ne 88, 3) := by decide +kernel
theorem d93_17 : decode (mC M93) 17 = .ok (.aload_n 0, 1) := by decide +kernel
theorem d93_18 : decode (mC M93) 18 = .ok (.ldc 65, 2) := by decide +kernel
theorem d93_20 : decode (mC M93) 20 = .ok (.invokevirtual 61, 3) := by decide +kernel
theorem d93_23 : decode (mC M93) 23 = .ok (.ifCond .ne 79, 3) := by decide +kernel
theorem d93_26 : decode (mC M93) 26 = .ok (.aload_n 0, 1) := by decide +kernel
theorem d93_27 : decode (mC M93) 27 = .ok (.ldc 67, 2) := by decide +kernel
theorem d93_29 : decode (mC M93) 29 = .ok (.invokevirtual 61, 3) := by decide +kernel
theorem d93_32 : decode (mC M93) 32 = .ok (.ifCond .ne 70, 3) := by decide +kernel
theorem d93_35 : decode (mC M93) 35 = .ok (.aload_n 0, 1) := by decide +kernel
theorem d93_36 : decode (mC M93) 36 = .ok (.ldc 69, 2) := by decide +kernel
theorem d93_38 : decode (mC M93) 38 = .ok (.invokevirtual 61, 3) := by decide +kernel
theorem d93_41 : decode (mC M93) 41 = .ok (.ifCond .ne 61, 3) := by decide +kernel
theorem d93_44 : decode (mC M93) 44 = .ok (.aload_n 0, 1) := by decide +kernel
theorem d93_45 : decode (mC M93) 45 = .ok (.ldc 71, 2) := by decide +kernel
theorem d93_47 : decode (mC M93) 47 = .ok (.invokevirtual 61, 3) := by decide +kernel
theorem d93_50 : decode (mC M93) 50 = .ok (.ifCond .ne 52, 3) := by decide +kernel
theorem d93_53 : decode (mC M93) 53 = .ok (.aload_n 0, 1) := by decide +kernel
theorem d93_54 : decode (mC M93) 54 = .ok (.ldc 73, 2) := by decide +kernel
theorem d93_56 : decode (mC M93) 56 = .ok (.invokevirtual 61, 3) := by decide +kernel
theorem d93_59 : decode (mC M93) 59 = .ok (.ifCond .ne 43, 3) := by decide +kernel
theorem d93_62 : decode (mC M93) 62 = .ok (.aload_n 0, 1) := by decide +kernel
theorem d93_63 : decode (mC M93) 63 = .ok (.ldc 75, 2) := by decide +kernel
theorem d93_65 : decode (mC M93) 65 = .ok (.invokevirtual 61, 3) := by decide +kernel
theorem d93_68 : decode (mC M93) 68 = .ok (.ifCond .ne 34, 3) := by decide +kernel
theorem d93_71 : decode (mC M93) 71 = .ok (.aload_n 0, 1) := by decide +kernel
theorem d93_72 : decode (mC M93) 72 = .ok (.ldc 77, 2) := by decide +kernel
theorem d93_74 : decode (mC M93) 74 = .ok (.invokevirtual 61, 3) := by decide +kernel
theorem d93_77 : decode (mC M93) 77 = .ok (.ifCond .ne 25, 3) := by decide +kernel
theorem d93_80 : decode (mC M93) 80 = .ok (.aload_n 0, 1) := by decide +kernel
theorem d93_81 : decode (mC M93) 81 = .ok (.ldc 79, 2) := by decide +kernel
theorem d93_83 : decode (mC M93) 83 = .ok (.invokevirtual 61, 3) := by decide +kernel
theorem d93_86 : decode (mC M93) 86 = .ok (.ifCond .ne 16, 3) := by decide +kernel
theorem d93_89 : decode (mC M93) 89 = .ok (.aload_n 0, 1) := by decide +kernel
theorem d93_90 : decode (mC M93) 90 = .ok (.ldc 81, 2) := by decide +kernel
theorem d93_92 : decode (mC M93) 92 = .ok (.invokevirtual 61, 3) := by decide +kernel
theorem d93_95 : decode (mC M93) 95 = .ok (.ifCond .ne 7, 3) := by decide +kernel
theorem d93_98 : decode (mC M93) 98 = .ok (.iconst 1, 1) := by decide +kernel
theorem d93_99 : decode (mC M93) 99 = .ok (.goto 4, 3) := by decide +kernel
theorem d93_102 : decode (mC M93) 102 = .ok (.iconst 0, 1) := by decide +kernel
theorem d93_103 : decode (mC M93) 103 = .ok (.ireturn, 1) := by decide +kernel
theorem sc93_0 : ∀ q ∈ tc93_0, Snd xtb M93 q.1 q.2 := List.forall_mem_cons.mpr ⟨snd_aload_n d93_0 rfl, List.forall_mem_cons.mpr ⟨snd_getI (by decide) (by decide) rfl wd161 d93_1, List.forall_mem_cons.mpr ⟨snd_iconst d93_4 (by decide +kernel), List.forall_mem_cons.mpr ⟨snd_cmp_ne d93_5 (by decide), List.forall_mem_cons.mpr ⟨snd_aload_n d93_8 rfl, List.forall_mem_cons.mpr ⟨snd_ldcS (tx := "desk") d93_9 (by decide +kernel), List.forall_mem_cons.mpr ⟨snd_callV (by decide) rfl cn92 ⟨by decide +kernel, by decide +kernel⟩ cm92 (List.forall_mem_cons.mpr ⟨wd705, cw92⟩) d93_11, List.forall_mem_cons.mpr ⟨snd_if_ne d93_14 (by decide), List.forall_mem_cons.mpr ⟨snd_aload_n d93_17 rfl, List.forall_mem_cons.mpr ⟨snd_ldcS (tx := "class") d93_18 (by decide +kernel), List.forall_mem_cons.mpr ⟨snd_callV (by decide) rfl cn92 ⟨by decide +kernel, by decide +kernel⟩ cm92 (List.forall_mem_cons.mpr ⟨wd705, cw92⟩) d93_20, List.forall_mem_cons.mpr ⟨snd_if_ne d93_23 (by decide), List.forall_mem_cons.mpr ⟨snd_aload_n d93_26 rfl, List.forall_mem_cons.mpr ⟨snd_ldcS (tx := "place") d93_27 (by decide +kernel), List.forall_mem_cons.mpr ⟨snd_callV (by decide) rfl cn92 ⟨by decide +kernel, by decide +kernel⟩ cm92 (List.forall_mem_cons.mpr ⟨wd705, cw92⟩) d93_29, List.forall_mem_cons.mpr ⟨snd_if_ne d93_32 (by decide), List.forall_mem_cons.mpr ⟨snd_aload_n d93_35 rfl, List.forall_mem_cons.mpr ⟨snd_ldcS (tx := "bound") d93_36 (by decide +kernel), List.forall_mem_cons.mpr ⟨snd_callV (by decide) rfl cn92 ⟨by decide +kernel, by decide +kernel⟩ cm92 (List.forall_mem_cons.mpr ⟨wd705, cw92⟩) d93_38, List.forall_mem_cons.mpr ⟨snd_if_ne d93_41 (by decide), List.forall_mem_cons.mpr ⟨snd_aload_n d93_44 rfl, List.forall_mem_cons.mpr ⟨snd_ldcS (tx := "rate") d93_45 (by decide +kernel), List.forall_mem_cons.mpr ⟨snd_callV (by decide) rfl cn92 ⟨by decide +kernel, by decide +kernel⟩ cm92 (List.forall_mem_cons.mpr ⟨wd705, cw92⟩) d93_47, List.forall_mem_cons.mpr ⟨snd_if_ne d93_50 (by decide), List.forall_mem_cons.mpr ⟨snd_aload_n d93_53 rfl, List.forall_mem_cons.mpr ⟨snd_ldcS (tx := "holiday") d93_54 (by decide +kernel), List.forall_mem_cons.mpr ⟨snd_callV (by decide) rfl cn92 ⟨by decide +kernel, by decide +kernel⟩ cm92 (List.forall_mem_cons.mpr ⟨wd705, cw92⟩) d93_56, List.forall_mem_cons.mpr ⟨snd_if_ne d93_59 (by decide), List.forall_mem_cons.mpr ⟨snd_aload_n d93_62 rfl, List.forall_mem_cons.mpr ⟨snd_ldcS (tx := "cap") d93_63 (by decide +kernel), fun _ h => by cases h⟩⟩⟩⟩⟩⟩⟩⟩⟩⟩⟩⟩⟩⟩⟩⟩⟩⟩⟩⟩⟩⟩⟩⟩⟩⟩⟩⟩⟩⟩
theorem sc93_1 : ∀ q ∈ tc93_1, Snd xtb M93 q.1 q.2 := List.forall_mem_cons.mpr ⟨snd_callV (by decide) rfl cn92 ⟨by decide +kernel, by decide +kernel⟩ cm92 (List.forall_mem_cons.mpr ⟨wd705, cw92⟩) d93_65, List.forall_mem_cons.mpr ⟨snd_if_ne d93_68 (by decide), List.forall_mem_cons.mpr ⟨snd_aload_n d93_71 rfl, List.forall_mem_cons.mpr ⟨snd_ldcS (tx := "of") d93_72 (by decide +kernel), List.forall_mem_cons.mpr ⟨snd_callV (by decide) rfl cn92 ⟨by decide +kernel, by decide +kernel⟩ cm92 (List.forall_mem_cons.mpr ⟨wd705, cw92⟩) d93_74, List.forall_mem_cons.mpr ⟨snd_if_ne d93_77 (by decide), List.forall_mem_cons.mpr ⟨snd_aload_n d93_80 rfl, List.forall_mem_cons.mpr ⟨snd_ldcS (tx := "only") d93_81 (by decide +kernel), List.forall_mem_cons.mpr ⟨snd_callV (by decide) rfl cn92 ⟨by decide +kernel, by decide +kernel⟩ cm92 (List.forall_mem_cons.mpr ⟨wd705, cw92⟩) d93_83, List.forall_mem_cons.mpr ⟨snd_if_ne d93_86 (by decide), List.forall_mem_cons.mpr ⟨snd_aload_n d93_89 rfl, List.forall_mem_cons.mpr ⟨snd_ldcS (tx := "none") d93_90 (by decide +kernel), List.forall_mem_cons.mpr ⟨snd_callV (by decide) rfl cn92 ⟨by decide +kernel, by decide +kernel⟩ cm92 (List.forall_mem_cons.mpr ⟨wd705, cw92⟩) d93_92, List.forall_mem_cons.mpr ⟨snd_if_ne d93_95 (by decide), List.forall_mem_cons.mpr ⟨snd_iconst d93_98 (by decide +kernel), List.forall_mem_cons.mpr ⟨snd_goto d93_99 (by decide), List.forall_mem_cons.mpr ⟨snd_iconst d93_102 (by decide +kernel), List.forall_mem_cons.mpr ⟨snd_zret rfl d93_103, fun _ h => by cases h⟩⟩⟩⟩⟩⟩⟩⟩⟩⟩⟩⟩⟩⟩⟩⟩⟩⟩
theorem d94_0 : decode (mC M94) 0 = .ok (.aload_n 0, 1) := by decide +kernel
theorem d94_1 : decode (mC M94) 1 = .ok (.invokespecial 3, 3) := by decide +kernel
theorem d94_4 : decode (mC M94) 4 = .ok (.aload_n 0, 1) := by decide +kernel
theorem d94_5 : decode (mC M94) 5 = .ok (.bipush 6, 2) := by decide +kernel
theorem d94_7 : decode (mC M94) 7 = .ok (.newarray .int, 2) := by decide +kernel
theorem d94_9 : decode (mC M94) 9 = .ok (.putfield 9, 3) := by decide +kernel
theorem d94_12 : decode (mC M94) 12 = .ok (.aload_n 0, 1) := by decide +kernel
theorem d94_13 : decode (mC M94) 13 = .ok (.new 15, 3) := by decide +kernel
theorem d94_16 : decode (mC M94) 16 = .ok (.dup, 1) := by decide +kernel
theorem d94_17 : decode (mC M94) 17 = .ok (.invokespecial 17, 3) := by decide +kernel
theorem d94_20 : decode (mC M94) 20 = .ok (.putfield 18, 3) := by decide +kernel
theorem d94_23 : decode (mC M94) 23 = .ok (.aload_n 0, 1) := by decide +kernel
theorem d94_24 : decode (mC M94) 24 = .ok (.bipush 6, 2) := by decide +kernel
theorem d94_26 : decode (mC M94) 26 = .ok (.newarray .int, 2) := by decide +kernel
theorem d94_28 : decode (mC M94) 28 = .ok (.putfield 22, 3) := by decide +kernel
theorem d94_31 : decode (mC M94) 31 = .ok (.aload_n 0, 1) := by decide +kernel
theorem d94_32 : decode (mC M94) 32 = .ok (.bipush 6, 2) := by decide +kernel
theorem d94_34 : decode (mC M94) 34 = .ok (.newarray .int, 2) := by decide +kernel
theorem d94_36 : decode (mC M94) 36 = .ok (.putfield 25, 3) := by decide +kernel
theorem d94_39 : decode (mC M94) 39 = .ok (.aload_n 0, 1) := by decide +kernel
theorem d94_40 : decode (mC M94) 40 = .ok (.bipush 6, 2) := by decide +kernel
theorem d94_42 : decode (mC M94) 42 = .ok (.newarray .int, 2) := by decide +kernel
theorem d94_44 : decode (mC M94) 44 = .ok (.putfield 28, 3) := by decide +kernel
theorem d94_47 : decode (mC M94) 47 = .ok (.aload_n 0, 1) := by decide +kernel
theorem d94_48 : decode (mC M94) 48 = .ok (.bipush 6, 2) := by decide +kernel
theorem d94_50 : decode (mC M94) 50 = .ok (.newarray .int, 2) := by decide +kernel
theorem d94_52 : decode (mC M94) 52 = .ok (.putfield 31, 3) := by decide +kernel
theorem d94_55 : decode (mC M94) 55 = .ok (.aload_n 0, 1) := by decide +kernel
theorem d94_56 : decode (mC M94) 56 = .ok (.bipush 6, 2) := by decide +kernel
theorem d94_58 : decode (mC M94) 58 = .ok (.newarray .int, 2) := by decide +kernel
theorem d94_60 : decode (mC M94) 60 = .ok (.putfield 34, 3) := by decide +kernel
theorem d94_63 : decode (mC M94) 63 = .ok (.aload_n 0, 1) := by decide +kernel
theorem d94_64 : decode (mC M94) 64 = .ok (.bipush 6, 2) := by decide +kernel
theorem d94_66 : decode (mC M94) 66 = .ok (.newarray .int, 2) := by decide +kernel
theorem d94_68 : decode (mC M94) 68 = .ok (.putfield 37, 3) := by decide +kernel
theorem d94_71 : decode (mC M94) 71 = .ok (.aload_n 0, 1) := by decide +kernel
theorem d94_72 : decode (mC M94) 72 = .ok (.bipush 6, 2) := by decide +kernel
theorem d94_74 : decode (mC M94) 74 = .ok (.newarray .int, 2) := by decide +kernel
theorem d94_76 : decode (mC M94) 76 = .ok (.putfield 40, 3) := by decide +kernel
theorem d94_79 : decode (mC M94) 79 = .ok (.aload_n 0, 1) := by decide +kernel
theorem d94_80 : decode (mC M94) 80 = .ok (.bipush 6, 2) := by decide +kernel
theorem d94_82 : decode (mC M94) 82 = .ok (.newarray .int, 2) := by decide +kernel
theorem d94_84 : decode (mC M94) 84 = .ok (.putfield 43, 3) := by decide +kernel
theorem d94_87 : decode (mC M94) 87 = .ok (.return_, 1) := by decide +kernel
theorem sc94_0 : ∀ q ∈ tc94_0, Snd xtb M94 q.1 q.2 := List.forall_mem_cons.mpr ⟨snd_aload_n d94_0 rfl, List.forall_mem_cons.mpr ⟨snd_obj (by decide) (by decide) (List.forall_mem_cons.mpr ⟨wd282, List.forall_mem_cons.mpr ⟨wd139, List.forall_mem_cons.mpr ⟨wd140, fun _ h => by cases h⟩⟩⟩) d94_1, List.forall_mem_cons.mpr ⟨snd_aload_n d94_4 rfl, List.forall_mem_cons.mpr ⟨snd_bipush d94_5 (by decide +kernel), List.forall_mem_cons.mpr ⟨snd_newa (ty := .int) (k := 1) rfl (by decide +kernel) wd229 d94_7, List.forall_mem_cons.mpr ⟨snd_putRF (by decide) (by decide) rfl rfl rfl rfl wd315 d94_9, List.forall_mem_cons.mpr ⟨snd_aload_n d94_12 rfl, List.forall_mem_cons.mpr ⟨snd_new (by decide) (by decide +kernel) (List.forall_mem_cons.mpr ⟨wd283, List.forall_mem_cons.mpr ⟨wd284, List.forall_mem_cons.mpr ⟨wd119, fun _ h => by cases h⟩⟩⟩) d94_13, List.forall_mem_cons.mpr ⟨snd_dup d94_16, List.forall_mem_cons.mpr ⟨snd_callIN (host := "SalePlaces") (by decide) rfl rfl cn62 ⟨by decide +kernel, by decide +kernel⟩ cm62 cw62 (by decide +kernel) d94_17, List.forall_mem_cons.mpr ⟨snd_putRF (by decide) (by decide) rfl rfl rfl rfl wd317 d94_20, List.forall_mem_cons.mpr ⟨snd_aload_n d94_23 rfl, List.forall_mem_cons.mpr ⟨snd_bipush d94_24 (by decide +kernel), List.forall_mem_cons.mpr ⟨snd_newa (ty := .int) (k := 1) rfl (by decide +kernel) wd229 d94_26, List.forall_mem_cons.mpr ⟨snd_putRF (by decide) (by decide) rfl rfl rfl rfl wd324 d94_28, List.forall_mem_cons.mpr ⟨snd_aload_n d94_31 rfl, List.forall_mem_cons.mpr ⟨snd_bipush d94_32 (by decide +kernel), List.forall_mem_cons.mpr ⟨snd_newa (ty := .int) (k := 1) rfl (by decide +kernel) wd229 d94_34, List.forall_mem_cons.mpr ⟨snd_putRF (by decide) (by decide) rfl rfl rfl rfl wd325 d94_36, List.forall_mem_cons.mpr ⟨snd_aload_n d94_39 rfl, List.forall_mem_cons.mpr ⟨snd_bipush d94_40 (by decide +kernel), List.forall_mem_cons.mpr ⟨snd_newa (ty := .int) (k := 1) rfl (by decide +kernel) wd229 d94_42, List.forall_mem_cons.mpr ⟨snd_putRF (by decide) (by decide) rfl rfl rfl rfl wd326 d94_44, List.forall_mem_cons.mpr ⟨snd_aload_n d94_47 rfl, List.forall_mem_cons.mpr ⟨snd_bipush d94_48 (by decide +kernel), List.forall_mem_cons.mpr ⟨snd_newa (ty := .int) (k := 1) rfl (by decide +kernel) wd229 d94_50, List.forall_mem_cons.mpr ⟨snd_putRF (by decide) (by decide) rfl rfl rfl rfl wd327 d94_52, List.forall_mem_cons.mpr ⟨snd_aload_n d94_55 rfl, List.forall_mem_cons.mpr ⟨snd_bipush d94_56 (by decide +kernel), List.forall_mem_cons.mpr ⟨snd_newa (ty := .int) (k := 1) rfl (by decide +kernel) wd229 d94_58, fun _ h => by cases h⟩⟩⟩⟩⟩⟩⟩⟩⟩⟩⟩⟩⟩⟩⟩⟩⟩⟩⟩⟩⟩⟩⟩⟩⟩⟩⟩⟩⟩⟩
theorem sc94_1 : ∀ q ∈ tc94_1, Snd xtb M94 q.1 q.2 := List.forall_mem_cons.mpr ⟨snd_putRF (by decide) (by decide) rfl rfl rfl rfl wd328 d94_60, List.forall_mem_cons.mpr ⟨snd_aload_n d94_63 rfl, List.forall_mem_cons.mpr ⟨snd_bipush d94_64 (by decide +kernel), List.forall_mem_cons.mpr ⟨snd_newa (ty := .int) (k := 1) rfl (by decide +kernel) wd229 d94_66, List.forall_mem_cons.mpr ⟨snd_putRF (by decide) (by decide) rfl rfl rfl rfl wd332 d94_68, List.forall_mem_cons.mpr ⟨snd_aload_n d94_71 rfl, List.forall_mem_cons.mpr ⟨snd_bipush d94_72 (by decide +kernel), List.forall_mem_cons.mpr ⟨snd_newa (ty := .int) (k := 1) rfl (by decide +kernel) wd229 d94_74, List.forall_mem_cons.mpr ⟨snd_putRF (by decide) (by decide) rfl rfl rfl rfl wd333 d94_76, List.forall_mem_cons.mpr ⟨snd_aload_n d94_79 rfl, List.forall_mem_cons.mpr ⟨snd_bipush d94_80 (by decide +kernel), List.forall_mem_cons.mpr ⟨snd_newa (ty := .int) (k := 1) rfl (by decide +kernel) wd229 d94_82, List.forall_mem_cons.mpr ⟨snd_putRF (by decide) (by decide) rfl rfl rfl rfl wd334 d94_84, List.forall_mem_cons.mpr ⟨snd_vret rfl d94_87, fun _ h => by cases h⟩⟩⟩⟩⟩⟩⟩⟩⟩⟩⟩⟩⟩⟩
theorem d95_0 : decode (mC M95) 0 = .ok (.aload_n 0, 1) := by decide +kernel
theorem d95_1 : decode (mC M95) 1 = .ok (.iconst 0, 1) := by decide +kernel
theorem d95_2 : decode (mC M95) 2 = .ok (.putfield 46, 3) := by decide +kernel
theorem d95_5 : decode (mC M95) 5 = .ok (.aload_n 0, 1) := by decide +kernel
theorem d95_6 : decode (mC M95) 6 = .ok (.getfield 18, 3) := by decide +kernel
theorem d95_9 : decode (mC M95) 9 = .ok (.iconst 0, 1) := by decide +kernel
theorem d95_10 : decode (mC M95) 10 = .ok (.putfield 50, 3) := by decide +kernel
theorem d95_13 : decode (mC M95) 13 = .ok (.aload_n 0, 1) := by decide +kernel
theorem d95_14 : decode (mC M95) 14 = .ok (.iconst 0, 1) := by decide +kernel
theorem d95_15 : decode (mC M95) 15 = .ok (.putfield 53, 3) := by decide +kernel
theorem d95_18 : decode (mC M95) 18 = .ok (.aload_n 0, 1) := by decide +kernel
theorem d95_19 : decode (mC M95) 19 = .ok (.iconst 0, 1) := by decide +kernel
theorem d95_20 : decode (mC M95) 20 = .ok (.putfield 56, 3) := by decide +kernel
theorem d95_23 : decode (mC M95) 23 = .ok (.return_, 1) := by decide +kernel
theorem sc95_0 : ∀ q ∈ tc95_0, Snd xtb M95 q.1 q.2 := List.forall_mem_cons.mpr ⟨snd_aload_n d95_0 rfl, List.forall_mem_cons.mpr ⟨snd_iconst d95_1 (by decide +kernel), List.forall_mem_cons.mpr ⟨snd_putI (by decide) (by decide) rfl rfl wd311 d95_2, List.forall_mem_cons.mpr ⟨snd_aload_n d95_5 rfl, List.forall_mem_cons.mpr ⟨snd_getR (by decide) (by decide) rfl wd317 d95_6, List.forall_mem_cons.mpr ⟨snd_iconst d95_9 (by decide +kernel), List.forall_mem_cons.mpr ⟨snd_putI (by decide) (by decide) rfl rfl wd290 d95_10, List.forall_mem_cons.mpr ⟨snd_aload_n d95_13 rfl, List.forall_mem_cons.mpr ⟨snd_iconst d95_14 (by decide +kernel), List.forall_mem_cons.mpr ⟨snd_putI (by decide) (by decide) rfl rfl wd321 d95_15, List.forall_mem_cons.mpr ⟨snd_aload_n d95_18 rfl, List.forall_mem_cons.mpr ⟨snd_iconst d95_19 (by decide +kernel), List.forall_mem_cons.mpr ⟨snd_putI (by decide) (by decide) rfl rfl wd329 d95_20, List.forall_mem_cons.mpr ⟨snd_vret rfl d95_23, fun _ h => by cases h⟩⟩⟩⟩⟩⟩⟩⟩⟩⟩⟩⟩⟩⟩
theorem d96_0 : decode (mC M96) 0 = .ok (.aload_n 0, 1) := by decide +kernel
theorem d96_1 : decode (mC M96) 1 = .ok (.getfield 9, 3) := by decide +kernel
theorem d96_4 : decode (mC M96) 4 = .ok (.aload_n 0, 1) := by decide +kernel
theorem d96_5 : decode (mC M96) 5 = .ok (.getfield 46, 3) := by decide +kernel
theorem d96_8 : decode (mC M96) 8 = .ok (.iload_n 1, 1) := by decide +kernel
theorem d96_9 : decode (mC M96) 9 = .ok (.iastore, 1) := by decide +kernel
theorem d96_10 : decode (mC M96) 10 = .ok (.aload_n 0, 1) := by decide +kernel
theorem d96_11 : decode (mC M96) 11 = .ok (.dup, 1) := by decide +kernel
theorem d96_12 : decode (mC M96) 12 = .ok (.getfield 46, 3) := by decide +kernel
theorem d96_15 : decode (mC M96) 15 = .ok (.iconst 1, 1) := by decide +kernel
theorem d96_16 : decode (mC M96) 16 = .ok (.iadd, 1) := by decide +kernel
theorem d96_17 : decode (mC M96) 17 = .ok (.putfield 46, 3) := by decide +kernel
theorem d96_20 : decode (mC M96) 20 = .ok (.return_, 1) := by decide +kernel
theorem sc96_0 : ∀ q ∈ tc96_0, Snd xtb M96 q.1 q.2 := List.forall_mem_cons.mpr ⟨snd_aload_n d96_0 rfl, List.forall_mem_cons.mpr ⟨snd_getR (by decide) (by decide) rfl wd315 d96_1, List.forall_mem_cons.mpr ⟨snd_aload_n d96_4 rfl, List.forall_mem_cons.mpr ⟨snd_getI (by decide) (by decide) rfl wd311 d96_5, List.forall_mem_cons.mpr ⟨snd_iload_n d96_8 rfl, List.forall_mem_cons.mpr ⟨snd_iast d96_9, List.forall_mem_cons.mpr ⟨snd_aload_n d96_10 rfl, List.forall_mem_cons.mpr ⟨snd_dup d96_11, List.forall_mem_cons.mpr ⟨snd_getI (by decide) (by decide) rfl wd311 d96_12, List.forall_mem_cons.mpr ⟨snd_iconst d96_15 (by decide +kernel), List.forall_mem_cons.mpr ⟨snd_iadd d96_16, List.forall_mem_cons.mpr ⟨snd_putI (by decide) (by decide) rfl rfl wd311 d96_17, List.forall_mem_cons.mpr ⟨snd_vret rfl d96_20, fun _ h => by cases h⟩⟩⟩⟩⟩⟩⟩⟩⟩⟩⟩⟩⟩
theorem d97_0 : decode (mC M97) 0 = .ok (.aload_n 0, 1) := by decide +kernel
theorem d97_1 : decode (mC M97) 1 = .ok (.getfield 22, 3) := by decide +kernel
theorem d97_4 : decode (mC M97) 4 = .ok (.aload_n 0, 1) := by decide +kernel
theorem d97_5 : decode (mC M97) 5 = .ok (.getfield 53, 3) := by decide +kernel
theorem d97_8 : decode (mC M97) 8 = .ok (.iload_n 1, 1) := by decide +kernel
theorem d97_9 : decode (mC M97) 9 = .ok (.iastore, 1) := by decide +kernel
theorem d97_10 : decode (mC M97) 10 = .ok (.aload_n 0, 1) := by decide +kernel
theorem d97_11 : decode (mC M97) 11 = .ok (.getfield 25, 3) := by decide +kernel
theorem d97_14 : decode (mC M97) 14 = .ok (.aload_n 0, 1) := by decide +kernel
theorem d97_15 : decode (mC M97) 15 = .ok (.getfield 53, 3) := by decide +kernel
theorem d97_18 : decode (mC M97) 18 = .ok (.iload_n 2, 1) := by decide +kernel
theorem d97_19 : decode (mC M97) 19 = .ok (.iastore, 1) := by decide +kernel
theorem d97_20 : decode (mC M97) 20 = .ok (.aload_n 0, 1) := by decide +kernel
theorem d97_21 : decode (mC M97) 21 = .ok (.getfield 28, 3) := by decide +kernel
theorem d97_24 : decode (mC M97) 24 = .ok (.aload_n 0, 1) := by decide +kernel
theorem d97_25 : decode (mC M97) 25 = .ok (.getfield 53, 3) := by decide +kernel
theorem d97_28 : decode (mC M97) 28 = .ok (.iload_n 3, 1) := by decide +kernel
theorem d97_29 : decode (mC M97) 29 = .ok (.iastore, 1) := by decide +kernel
theorem d97_30 : decode (mC M97) 30 = .ok (.aload_n 0, 1) := by decide +kernel
theorem d97_31 : decode (mC M97) 31 = .ok (.getfield 31, 3) := by decide +kernel
theorem d97_34 : decode (mC M97) 34 = .ok (.aload_n 0, 1) := by decide +kernel
theorem d97_35 : decode (mC M97) 35 = .ok (.getfield 53, 3) := by decide +kernel
theorem d97_38 : decode (mC M97) 38 = .ok (.iload 4, 2) := by decide +kernel
theorem d97_40 : decode (mC M97) 40 = .ok (.iastore, 1) := by decide +kernel
theorem d97_41 : decode (mC M97) 41 = .ok (.aload_n 0, 1) := by decide +kernel
theorem d97_42 : decode (mC M97) 42 = .ok (.getfield 34, 3) := by decide +kernel
theorem d97_45 : decode (mC M97) 45 = .ok (.aload_n 0, 1) := by decide +kernel
theorem d97_46 : decode (mC M97) 46 = .ok (.getfield 53, 3) := by decide +kernel
theorem d97_49 : decode (mC M97) 49 = .ok (.iload 5, 2) := by decide +kernel
theorem d97_51 : decode (mC M97) 51 = .ok (.iastore, 1) := by decide +kernel
theorem d97_52 : decode (mC M97) 52 = .ok (.aload_n 0, 1) := by decide +kernel
theorem d97_53 : decode (mC M97) 53 = .ok (.dup, 1) := by decide +kernel
theorem d97_54 : decode (mC M97) 54 = .ok (.getfield 53, 3) := by decide +kernel
theorem d97_57 : decode (mC M97) 57 = .ok (.iconst 1, 1) := by decide +kernel
theorem d97_58 : decode (mC M97) 58 = .ok (.iadd, 1) := by decide +kernel
theorem d97_59 : decode (mC M97) 59 = .ok (.putfield 53, 3) := by decide +kernel
theorem d97_62 : decode (mC M97) 62 = .ok (.return_, 1) := by decide +kernel
theorem sc97_0 : ∀ q ∈ tc97_0, Snd xtb M97 q.1 q.2 := List.forall_mem_cons.mpr ⟨snd_aload_n d97_0 rfl, List.forall_mem_cons.mpr ⟨snd_getR (by decide) (by decide) rfl wd324 d97_1, List.forall_mem_cons.mpr ⟨snd_aload_n d97_4 rfl, List.forall_mem_cons.mpr ⟨snd_getI (by decide) (by decide) rfl wd321 d97_5, List.forall_mem_cons.mpr ⟨snd_iload_n d97_8 rfl, List.forall_mem_cons.mpr ⟨snd_iast d97_9, List.forall_mem_cons.mpr ⟨snd_aload_n d97_10 rfl, List.forall_mem_cons.mpr ⟨snd_getR (by decide) (by decide) rfl wd325 d97_11, List.forall_mem_cons.mpr ⟨snd_aload_n d97_14 rfl, List.forall_mem_cons.mpr ⟨snd_getI (by decide) (by decide) rfl wd321 d97_15, List.forall_mem_cons.mpr ⟨snd_iload_n d97_18 rfl, List.forall_mem_cons.mpr ⟨snd_iast d97_19, List.forall_mem_cons.mpr ⟨snd_aload_n d97_20 rfl, List.forall_mem_cons.mpr ⟨snd_getR (by decide) (by decide) rfl wd326 d97_21, List.forall_mem_cons.mpr ⟨snd_aload_n d97_24 rfl, List.forall_mem_cons.mpr ⟨snd_getI (by decide) (by decide) rfl wd321 d97_25, List.forall_mem_cons.mpr ⟨snd_iload_n d97_28 rfl, List.forall_mem_cons.mpr ⟨snd_iast d97_29, List.forall_mem_cons.mpr ⟨snd_aload_n d97_30 rfl, List.forall_mem_cons.mpr ⟨snd_getR (by decide) (by decide) rfl wd327 d97_31, List.forall_mem_cons.mpr ⟨snd_aload_n d97_34 rfl, List.forall_mem_cons.mpr ⟨snd_getI (by decide) (by decide) rfl wd321 d97_35, List.forall_mem_cons.mpr ⟨snd_iload d97_38, List.forall_mem_cons.mpr ⟨snd_iast d97_40, List.forall_mem_cons.mpr ⟨snd_aload_n d97_41 rfl, List.forall_mem_cons.mpr ⟨snd_getR (by decide) (by decide) rfl wd328 d97_42, List.forall_mem_cons.mpr ⟨snd_aload_n d97_45 rfl, List.forall_mem_cons.mpr ⟨snd_getI (by decide) (by decide) rfl wd321 d97_46, List.forall_mem_cons.mpr ⟨snd_iload d97_49, List.forall_mem_cons.mpr ⟨snd_iast d97_51, fun _ h => by cases h⟩⟩⟩⟩⟩⟩⟩⟩⟩⟩⟩⟩⟩⟩⟩⟩⟩⟩⟩⟩⟩⟩⟩⟩⟩⟩⟩⟩⟩⟩
theorem sc97_1 : ∀ q ∈ tc97_1, Snd xtb M97 q.1 q.2 := List.forall_mem_cons.mpr ⟨snd_aload_n d97_52 rfl, List.forall_mem_cons.mpr ⟨snd_dup d97_53, List.forall_mem_cons.mpr ⟨snd_getI (by decide) (by decide) rfl wd321 d97_54, List.forall_mem_cons.mpr ⟨snd_iconst d97_57 (by decide +kernel), List.forall_mem_cons.mpr ⟨snd_iadd d97_58, List.forall_mem_cons.mpr ⟨snd_putI (by decide) (by decide) rfl rfl wd321 d97_59, List.forall_mem_cons.mpr ⟨snd_vret rfl d97_62, fun _ h => by cases h⟩⟩⟩⟩⟩⟩⟩
theorem d98_0 : decode (mC M98) 0 = .ok (.aload_n 0, 1) := by decide +kernel
theorem d98_1 : decode (mC M98) 1 = .ok (.getfield 37, 3) := by decide +kernel
theorem d98_4 : decode (mC M98) 4 = .ok (.aload_n 0, 1) := by decide +kernel
theorem d98_5 : decode (mC M98) 5 = .ok (.getfield 56, 3) := by decide +kernel
theorem d98_8 : decode (mC M98) 8 = .ok (.iload_n 1, 1) := by decide +kernel
theorem d98_9 : decode (mC M98) 9 = .ok (.iastore, 1) := by decide +kernel
theorem d98_10 : decode (mC M98) 10 = .ok (.aload_n 0, 1) := by decide +kernel
theorem d98_11 : decode (mC M98) 11 = .ok (.getfield 40, 3) := by decide +kernel
theorem d98_14 : decode (mC M98) 14 = .ok (.aload_n 0, 1) := by decide +kernel
theorem d98_15 : decode (mC M98) 15 = .ok (.getfield 56, 3) := by decide +kernel
theorem d98_18 : decode (mC M98) 18 = .ok (.iload_n 2, 1) := by decide +kernel
theorem d98_19 : decode (mC M98) 19 = .ok (.iastore, 1) := by decide +kernel
theorem d98_20 : decode (mC M98) 20 = .ok (.aload_n 0, 1) := by decide +kernel
theorem d98_21 : decode (mC M98) 21 = .ok (.getfield 43, 3) := by decide +kernel
theorem d98_24 : decode (mC M98) 24 = .ok (.aload_n 0, 1) := by decide +kernel
theorem d98_25 : decode (mC M98) 25 = .ok (.getfield 56, 3) := by decide +kernel
theorem d98_28 : decode (mC M98) 28 = .ok (.iload_n 3, 1) := by decide +kernel
theorem d98_29 : decode (mC M98) 29 = .ok (.iastore, 1) := by decide +kernel
theorem d98_30 : decode (mC M98) 30 = .ok (.aload_n 0, 1) := by decide +kernel
theorem d98_31 : decode (mC M98) 31 = .ok (.dup, 1) := by decide +kernel
theorem d98_32 : decode (mC M98) 32 = .ok (.getfield 56, 3) := by decide +kernel
theorem d98_35 : decode (mC M98) 35 = .ok (.iconst 1, 1) := by decide +kernel
theorem d98_36 : decode (mC M98) 36 = .ok (.iadd, 1) := by decide +kernel
theorem d98_37 : decode (mC M98) 37 = .ok (.putfield 56, 3) := by decide +kernel
theorem d98_40 : decode (mC M98) 40 = .ok (.return_, 1) := by decide +kernel
theorem sc98_0 : ∀ q ∈ tc98_0, Snd xtb M98 q.1 q.2 := List.forall_mem_cons.mpr ⟨snd_aload_n d98_0 rfl, List.forall_mem_cons.mpr ⟨snd_getR (by decide) (by decide) rfl wd332 d98_1, List.forall_mem_cons.mpr ⟨snd_aload_n d98_4 rfl, List.forall_mem_cons.mpr ⟨snd_getI (by decide) (by decide) rfl wd329 d98_5, List.forall_mem_cons.mpr ⟨snd_iload_n d98_8 rfl, List.forall_mem_cons.mpr ⟨snd_iast d98_9, List.forall_mem_cons.mpr ⟨snd_aload_n d98_10 rfl, List.forall_mem_cons.mpr ⟨snd_getR (by decide) (by decide) rfl wd333 d98_11, List.forall_mem_cons.mpr ⟨snd_aload_n d98_14 rfl, List.forall_mem_cons.mpr ⟨snd_getI (by decide) (by decide) rfl wd329 d98_15, List.forall_mem_cons.mpr ⟨snd_iload_n d98_18 rfl, List.forall_mem_cons.mpr ⟨snd_iast d98_19, List.forall_mem_cons.mpr ⟨snd_aload_n d98_20 rfl, List.forall_mem_cons.mpr ⟨snd_getR (by decide) (by decide) rfl wd334 d98_21, List.forall_mem_cons.mpr ⟨snd_aload_n d98_24 rfl, List.forall_mem_cons.mpr ⟨snd_getI (by decide) (by decide) rfl wd329 d98_25, List.forall_mem_cons.mpr ⟨snd_iload_n d98_28 rfl, List.forall_mem_cons.mpr ⟨snd_iast d98_29, List.forall_mem_cons.mpr ⟨snd_aload_n d98_30 rfl, List.forall_mem_cons.mpr ⟨snd_dup d98_31, List.forall_mem_cons.mpr ⟨snd_getI (by decide) (by decide) rfl wd329 d98_32, List.forall_mem_cons.mpr ⟨snd_iconst d98_35 (by decide +kernel), List.forall_mem_cons.mpr ⟨snd_iadd d98_36, List.forall_mem_cons.mpr ⟨snd_putI (by decide) (by decide) rfl rfl wd329 d98_37, List.forall_mem_cons.mpr ⟨snd_vret rfl d98_40, fun _ h => by cases h⟩⟩⟩⟩⟩⟩⟩⟩⟩⟩⟩⟩⟩⟩⟩⟩⟩⟩⟩⟩⟩⟩⟩⟩⟩
theorem d99_0 : decode (mC M99) 0 = .ok (.iload_n 2, 1) := by decide +kernel
theorem d99_1 : decode (mC M99) 1 = .ok (.istore 4, 2) := by decide +kernel
theorem d99_3 : decode (mC M99) 3 = .ok (.iconst 0, 1) := by decide +kernel
theorem d99_4 : decode (mC M99) 4 = .ok (.istore 5, 2) := by decide +kernel
theorem d99_6 : decode (mC M99) 6 = .ok (.iload 5, 2) := by decide +kernel
theorem d99_8 : decode (mC M99) 8 = .ok (.bipush 6, 2) := by decide +kernel
theorem d99_10 : decode (mC M99) 10 = .ok (.if_icmp .ge 52, 3) := by decide +kernel
theorem d99_13 : decode (mC M99) 13 = .ok (.iload 4, 2) := by decide +kernel
theorem d99_15 : decode (mC M99) 15 = .ok (.ifCond .lt 47, 3) := by decide +kernel
theorem d99_18 : decode (mC M99) 18 = .ok (.aload_n 0, 1) := by decide +kernel
theorem d99_19 : decode (mC M99) 19 = .ok (.getfield 18, 3) := by decide +kernel
theorem d99_22 : decode (mC M99) 22 = .ok (.iload_n 1, 1) := by decide +kernel
theorem d99_23 : decode (mC M99) 23 = .ok (.iload 4, 2) := by decide +kernel
theorem d99_25 : decode (mC M99) 25 = .ok (.iload_n 3, 1) := by decide +kernel
theorem d99_26 : decode (mC M99) 26 = .ok (.invokevirtual 59, 3) := by decide +kernel
theorem d99_29 : decode (mC M99) 29 = .ok (.istore 6, 2) := by decide +kernel
theorem d99_31 : decode (mC M99) 31 = .ok (.iload 6, 2) := by decide +kernel
theorem d99_33 : decode (mC M99) 33 = .ok (.ifCond .lt 14, 3) := by decide +kernel
theorem d99_36 : decode (mC M99) 36 = .ok (.aload_n 0, 1) := by decide +kernel
theorem d99_37 : decode (mC M99) 37 = .ok (.getfield 18, 3) := by decide +kernel
theorem d99_40 : decode (mC M99) 40 = .ok (.getfield 63, 3) := by decide +kernel
theorem d99_43 : decode (mC M99) 43 = .ok (.iload 6, 2) := by decide +kernel
theorem d99_45 : decode (mC M99) 45 = .ok (.iaload, 1) := by decide +kernel
theorem d99_46 : decode (mC M99) 46 = .ok (.ireturn, 1) := by decide +kernel
theorem d99_47 : decode (mC M99) 47 = .ok (.aload_n 0, 1) := by decide +kernel
theorem d99_48 : decode (mC M99) 48 = .ok (.getfield 9, 3) := by decide +kernel
theorem d99_51 : decode (mC M99) 51 = .ok (.iload 4, 2) := by decide +kernel
theorem d99_53 : decode (mC M99) 53 = .ok (.iaload, 1) := by decide +kernel
theorem d99_54 : decode (mC M99) 54 = .ok (.istore 4, 2) := by decide +kernel
theorem d99_56 : decode (mC M99) 56 = .ok (.iinc 5 1, 3) := by decide +kernel
theorem d99_59 : decode (mC M99) 59 = .ok (.goto (-53), 3) := by decide +kernel
theorem d99_62 : decode (mC M99) 62 = .ok (.iconst 0, 1) := by decide +kernel
theorem d99_63 : decode (mC M99) 63 = .ok (.ireturn, 1) := by decide +kernel
theorem sc99_0 : ∀ q ∈ tc99_0, Snd xtb M99 q.1 q.2 := List.forall_mem_cons.mpr ⟨snd_iload_n d99_0 rfl, List.forall_mem_cons.mpr ⟨snd_istore d99_1, List.forall_mem_cons.mpr ⟨snd_iconst d99_3 (by decide +kernel), List.forall_mem_cons.mpr ⟨snd_istore d99_4, List.forall_mem_cons.mpr ⟨snd_iload d99_6, List.forall_mem_cons.mpr ⟨snd_bipush d99_8 (by decide +kernel), List.forall_mem_cons.mpr ⟨snd_cmp_ge d99_10 (by decide), List.forall_mem_cons.mpr ⟨snd_iload d99_13, List.forall_mem_cons.mpr ⟨snd_if_lt d99_15 (by decide), List.forall_mem_cons.mpr ⟨snd_aload_n d99_18 rfl, List.forall_mem_cons.mpr ⟨snd_getR (by decide) (by decide) rfl wd317 d99_19, List.forall_mem_cons.mpr ⟨snd_iload_n d99_22 rfl, List.forall_mem_cons.mpr ⟨snd_iload d99_23, List.forall_mem_cons.mpr ⟨snd_iload_n d99_25 rfl, List.forall_mem_cons.mpr ⟨snd_callV (by decide) rfl cn63 ⟨by decide +kernel, by decide +kernel⟩ cm63 (List.forall_mem_cons.mpr ⟨wd1007, cw63⟩) d99_26, List.forall_mem_cons.mpr ⟨snd_istore d99_29, List.forall_mem_cons.mpr ⟨snd_iload d99_31, List.forall_mem_cons.mpr ⟨snd_if_lt d99_33 (by decide), List.forall_mem_cons.mpr ⟨snd_aload_n d99_36 rfl, List.forall_mem_cons.mpr ⟨snd_getR (by decide) (by decide) rfl wd317 d99_37, List.forall_mem_cons.mpr ⟨snd_getR (by decide) (by decide) rfl wd299 d99_40, List.forall_mem_cons.mpr ⟨snd_iload d99_43, List.forall_mem_cons.mpr ⟨snd_iald d99_45, List.forall_mem_cons.mpr ⟨snd_iret rfl d99_46, List.forall_mem_cons.mpr ⟨snd_aload_n d99_47 rfl, List.forall_mem_cons.mpr ⟨snd_getR (by decide) (by decide) rfl wd315 d99_48, List.forall_mem_cons.mpr ⟨snd_iload d99_51, List.forall_mem_cons.mpr ⟨snd_iald d99_53, List.forall_mem_cons.mpr ⟨snd_istore d99_54, List.forall_mem_cons.mpr ⟨snd_iinc d99_56 (by decide +kernel), fun _ h => by cases h⟩⟩⟩⟩⟩⟩⟩⟩⟩⟩⟩⟩⟩⟩⟩⟩⟩⟩⟩⟩⟩⟩⟩⟩⟩⟩⟩⟩⟩⟩
theorem sc99_1 : ∀ q ∈ tc99_1, Snd xtb M99 q.1 q.2 := List.forall_mem_cons.mpr ⟨snd_goto d99_59 (by decide), List.forall_mem_cons.mpr ⟨snd_iconst d99_62 (by decide +kernel), List.forall_mem_cons.mpr ⟨snd_iret rfl d99_63, fun _ h => by cases h⟩⟩⟩
theorem d100_0 : decode (mC M100) 0 = .ok (.iconst 0, 1) := by decide +kernel
theorem d100_1 : decode (mC M100) 1 = .ok (.istore 5, 2) := by decide +kernel
theorem d100_3 : decode (mC M100) 3 = .ok (.iload 5, 2) := by decide +kernel
theorem d100_5 : decode (mC M100) 5 = .ok (.aload_n 0, 1) := by decide +kernel
theorem d100_6 : decode (mC M100) 6 = .ok (.getfield 53, 3) := by decide +kernel
theorem d100_9 : decode (mC M100) 9 = .ok (.if_icmp .ge 70, 3) := by decide +kernel
theorem d100_12 : decode (mC M100) 12 = .ok (.aload_n 0, 1) := by decide +kernel
theorem d100_13 : decode (mC M100) 13 = .ok (.getfield 22, 3) := by decide +kernel
theorem d100_16 : decode (mC M100) 16 = .ok (.iload 5, 2) := by decide +kernel
theorem d100_18 : decode (mC M100) 18 = .ok (.iaload, 1) := by decide +kernel
theorem d100_19 : decode (mC M100) 19 = .ok (.iload_n 1, 1) := by decide +kernel
theorem d100_20 : decode (mC M100) 20 = .ok (.if_icmp .ne 53, 3) := by decide +kernel
theorem d100_23 : decode (mC M100) 23 = .ok (.iload_n 3, 1) := by decide +kernel
theorem d100_24 : decode (mC M100) 24 = .ok (.aload_n 0, 1) := by decide +kernel
theorem d100_25 : decode (mC M100) 25 = .ok (.getfield 28, 3) := by decide +kernel
theorem d100_28 : decode (mC M100) 28 = .ok (.iload 5, 2) := by decide +kernel
theorem d100_30 : decode (mC M100) 30 = .ok (.iaload, 1) := by decide +kernel
theorem d100_31 : decode (mC M100) 31 = .ok (.aload_n 0, 1) := by decide +kernel
theorem d100_32 : decode (mC M100) 32 = .ok (.getfield 31, 3) := by decide +kernel
theorem d100_35 : decode (mC M100) 35 = .ok (.iload 5, 2) := by decide +kernel
theorem d100_37 : decode (mC M100) 37 = .ok (.iaload, 1) := by decide +kernel
theorem d100_38 : decode (mC M100) 38 = .ok (.invokestatic 66, 3) := by decide +kernel
theorem d100_41 : decode (mC M100) 41 = .ok (.ifCond .eq 32, 3) := by decide +kernel
theorem d100_44 : decode (mC M100) 44 = .ok (.iload 4, 2) := by decide +kernel
theorem d100_46 : decode (mC M100) 46 = .ok (.aload_n 0, 1) := by decide +kernel
theorem d100_47 : decode (mC M100) 47 = .ok (.getfield 34, 3) := by decide +kernel
theorem d100_50 : decode (mC M100) 50 = .ok (.iload 5, 2) := by decide +kernel
theorem d100_52 : decode (mC M100) 52 = .ok (.iaload, 1) := by decide +kernel
theorem d100_53 : decode (mC M100) 53 = .ok (.if_icmp .gt 20, 3) := by decide +kernel
theorem d100_56 : decode (mC M100) 56 = .ok (.aload_n 0, 1) := by decide +kernel
theorem d100_57 : decode (mC M100) 57 = .ok (.iload_n 2, 1) := by decide +kernel
theorem d100_58 : decode (mC M100) 58 = .ok (.aload_n 0, 1) := by decide +kernel
theorem d100_59 : decode (mC M100) 59 = .ok (.getfield 25, 3) := by decide +kernel
theorem d100_62 : decode (mC M100) 62 = .ok (.iload 5, 2) := by decide +kernel
theorem d100_64 : decode (mC M100) 64 = .ok (.iaload, 1) := by decide +kernel
theorem d100_65 : decode (mC M100) 65 = .ok (.invokevirtual 70, 3) := by decide +kernel
theorem d100_68 : decode (mC M100) 68 = .ok (.ifCond .eq 5, 3) := by decide +kernel
theorem d100_71 : decode (mC M100) 71 = .ok (.iconst 1, 1) := by decide +kernel
theorem d100_72 : decode (mC M100) 72 = .ok (.ireturn, 1) := by decide +kernel
theorem d100_73 : decode (mC M100) 73 = .ok (.iinc 5 1, 3) := by decide +kernel
theorem d100_76 : decode (mC M100) 76 = .ok (.goto (-73), 3) := by decide +kernel
theorem d100_79 : decode (mC M100) 79 = .ok (.iconst 0, 1) := by decide +kernel
theorem d100_80 : decode (mC M100) 80 = .ok (.ireturn, 1) := by decide +kernel
theorem sc100_0 : ∀ q ∈ tc100_0, Snd xtb M100 q.1 q.2 := List.forall_mem_cons.mpr ⟨snd_iconst d100_0 (by decide +kernel), List.forall_mem_cons.mpr ⟨snd_istore d100_1, List.forall_mem_cons.mpr ⟨snd_iload d100_3, List.forall_mem_cons.mpr ⟨snd_aload_n d100_5 rfl, List.forall_mem_cons.mpr ⟨snd_getI (by decide) (by decide) rfl wd321 d100_6, List.forall_mem_cons.mpr ⟨snd_cmp_ge d100_9 (by decide), List.forall_mem_cons.mpr ⟨snd_aload_n d100_12 rfl, List.forall_mem_cons.mpr ⟨snd_getR (by decide) (by decide) rfl wd324 d100_13, List.forall_mem_cons.mpr ⟨snd_iload d100_16, List.forall_mem_cons.mpr ⟨snd_iald d100_18, List.forall_mem_cons.mpr ⟨snd_iload_n d100_19 rfl, List.forall_mem_cons.mpr ⟨snd_cmp_ne d100_20 (by decide), List.forall_mem_cons.mpr ⟨snd_iload_n d100_23 rfl, List.forall_mem_cons.mpr ⟨snd_aload_n d100_24 rfl, List.forall_mem_cons.mpr ⟨snd_getR (by decide) (by decide) rfl wd326 d100_25, List.forall_mem_cons.mpr ⟨snd_iload d100_28, List.forall_mem_cons.mpr ⟨snd_iald d100_30, List.forall_mem_cons.mpr ⟨snd_aload_n d100_31 rfl, List.forall_mem_cons.mpr ⟨snd_getR (by decide) (by decide) rfl wd327 d100_32, List.forall_mem_cons.mpr ⟨snd_iload d100_35, List.forall_mem_cons.mpr ⟨snd_iald d100_37, List.forall_mem_cons.mpr ⟨snd_callSN (host := "SalePlaces") cn164 ⟨by decide +kernel, by decide +kernel⟩ cm164 cw164 (by decide +kernel) d100_38, List.forall_mem_cons.mpr ⟨snd_if_eq d100_41 (by decide), List.forall_mem_cons.mpr ⟨snd_iload d100_44, List.forall_mem_cons.mpr ⟨snd_aload_n d100_46 rfl, List.forall_mem_cons.mpr ⟨snd_getR (by decide) (by decide) rfl wd328 d100_47, List.forall_mem_cons.mpr ⟨snd_iload d100_50, List.forall_mem_cons.mpr ⟨snd_iald d100_52, List.forall_mem_cons.mpr ⟨snd_cmp_gt d100_53 (by decide), List.forall_mem_cons.mpr ⟨snd_aload_n d100_56 rfl, fun _ h => by cases h⟩⟩⟩⟩⟩⟩⟩⟩⟩⟩⟩⟩⟩⟩⟩⟩⟩⟩⟩⟩⟩⟩⟩⟩⟩⟩⟩⟩⟩⟩
theorem sc100_1 : ∀ q ∈ tc100_1, Snd xtb M100 q.1 q.2 := List.forall_mem_cons.mpr ⟨snd_iload_n d100_57 rfl, List.forall_mem_cons.mpr ⟨snd_aload_n d100_58 rfl, List.forall_mem_cons.mpr ⟨snd_getR (by decide) (by decide) rfl wd325 d100_59, List.forall_mem_cons.mpr ⟨snd_iload d100_62, List.forall_mem_cons.mpr ⟨snd_iald d100_64, List.forall_mem_cons.mpr ⟨snd_callV (by decide) rfl cn101 ⟨by decide +kernel, by decide +kernel⟩ cm101 (List.forall_mem_cons.mpr ⟨wd1017, cw101⟩) d100_65, List.forall_mem_cons.mpr ⟨snd_if_eq d100_68 (by decide), List.forall_mem_cons.mpr ⟨snd_iconst d100_71 (by decide +kernel), List.forall_mem_cons.mpr ⟨snd_zret rfl d100_72, List.forall_mem_cons.mpr ⟨snd_iinc d100_73 (by decide +kernel), List.forall_mem_cons.mpr ⟨snd_goto d100_76 (by decide), List.forall_mem_cons.mpr ⟨snd_iconst d100_79 (by decide +kernel), List.forall_mem_cons.mpr ⟨snd_zret rfl d100_80, fun _ h => by cases h⟩⟩⟩⟩⟩⟩⟩⟩⟩⟩⟩⟩⟩
theorem d101_0 : decode (mC M101) 0 = .ok (.iload_n 1, 1) := by decide +kernel
theorem d101_1 : decode (mC M101) 1 = .ok (.istore_n 3, 1) := by decide +kernel
theorem d101_2 : decode (mC M101) 2 = .ok (.iconst 0, 1) := by decide +kernel
theorem d101_3 : decode (mC M101) 3 = .ok (.istore 4, 2) := by decide +kernel
theorem d101_5 : decode (mC M101) 5 = .ok (.iload 4, 2) := by decide +kernel
theorem d101_7 : decode (mC M101) 7 = .ok (.bipush 6, 2) := by decide +kernel
theorem d101_9 : decode (mC M101) 9 = .ok (.if_icmp .ge 27, 3) := by decide +kernel
theorem d101_12 : decode (mC M101) 12 = .ok (.iload_n 3, 1) := by decide +kernel
theorem d101_13 : decode (mC M101) 13 = .ok (.ifCond .lt 23, 3) := by decide +kernel
theorem d101_16 : decode (mC M101) 16 = .ok (.iload_n 3, 1) := by decide +kernel
theorem d101_17 : decode (mC M101) 17 = .ok (.iload_n 2, 1) := by decide +kernel
theorem d101_18 : decode (mC M101) 18 = .ok (.if_icmp .ne 5, 3) := by decide +kernel
theorem d101_21 : decode (mC M101) 21 = .ok (.iconst 1, 1) := by decide +kernel
theorem d101_22 : decode (mC M101) 22 = .ok (.ireturn, 1) := by decide +kernel
theorem d101_23 : decode (mC M101) 23 = .ok (.aload_n 0, 1) := by decide +kernel
theorem d101_24 : decode (mC M101) 24 = .ok (.getfield 9, 3) := by decide +kernel
theorem d101_27 : decode (mC M101) 27 = .ok (.iload_n 3, 1) := by decide +kernel
theorem d101_28 : decode (mC M101) 28 = .ok (.iaload, 1) := by decide +kernel
theorem d101_29 : decode (mC M101) 29 = .ok (.istore_n 3, 1) := by decide +kernel
theorem d101_30 : decode (mC M101) 30 = .ok (.iinc 4 1, 3) := by decide +kernel
theorem d101_33 : decode (mC M101) 33 = .ok (.goto (-28), 3) := by decide +kernel
theorem d101_36 : decode (mC M101) 36 = .ok (.iconst 0, 1) := by decide +kernel
theorem d101_37 : decode (mC M101) 37 = .ok (.ireturn, 1) := by decide +kernel
theorem sc101_0 : ∀ q ∈ tc101_0, Snd xtb M101 q.1 q.2 := List.forall_mem_cons.mpr ⟨snd_iload_n d101_0 rfl, List.forall_mem_cons.mpr ⟨snd_istore_n d101_1 rfl, List.forall_mem_cons.mpr ⟨snd_iconst d101_2 (by decide +kernel), List.forall_mem_cons.mpr ⟨snd_istore d101_3, List.forall_mem_cons.mpr ⟨snd_iload d101_5, List.forall_mem_cons.mpr ⟨snd_bipush d101_7 (by decide +kernel), List.forall_mem_cons.mpr ⟨snd_cmp_ge d101_9 (by decide), List.forall_mem_cons.mpr ⟨snd_iload_n d101_12 rfl, List.forall_mem_cons.mpr ⟨snd_if_lt d101_13 (by decide), List.forall_mem_cons.mpr ⟨snd_iload_n d101_16 rfl, List.forall_mem_cons.mpr ⟨snd_iload_n d101_17 rfl, List.forall_mem_cons.mpr ⟨snd_cmp_ne d101_18 (by decide), List.forall_mem_cons.mpr ⟨snd_iconst d101_21 (by decide +kernel), List.forall_mem_cons.mpr ⟨snd_zret rfl d101_22, List.forall_mem_cons.mpr ⟨snd_aload_n d101_23 rfl, List.forall_mem_cons.mpr ⟨snd_getR (by decide) (by decide) rfl wd315 d101_24, List.forall_mem_cons.mpr ⟨snd_iload_n d101_27 rfl, List.forall_mem_cons.mpr ⟨snd_iald d101_28, List.forall_mem_cons.mpr ⟨snd_istore_n d101_29 rfl, List.forall_mem_cons.mpr ⟨snd_iinc d101_30 (by decide +kernel), List.forall_mem_cons.mpr ⟨snd_goto d101_33 (by decide), List.forall_mem_cons.mpr ⟨snd_iconst d101_36 (by decide +kernel), List.forall_mem_cons.mpr ⟨snd_zret rfl d101_37, fun _ h => by cases h⟩⟩⟩⟩⟩⟩⟩⟩⟩⟩⟩⟩⟩⟩⟩⟩⟩⟩⟩⟩⟩⟩⟩
theorem d102_0 : decode (mC M102) 0 = .ok (.iload_n 2, 1) := by decide +kernel
theorem d102_1 : decode (mC M102) 1 = .ok (.istore_n 3, 1) := by decide +kernel
theorem d102_2 : decode (mC M102) 2 = .ok (.iconst 0, 1) := by decide +kernel
theorem d102_3 : decode (mC M102) 3 = .ok (.istore 4, 2) := by decide +kernel
theorem d102_5 : decode (mC M102) 5 = .ok (.iload 4, 2) := by decide +kernel
theorem d102_7 : decode (mC M102) 7 = .ok (.bipush 6, 2) := by decide +kernel
theorem d102_9 : decode (mC M102) 9 = .ok (.if_icmp .ge 41, 3) := by decide +kernel
theorem d102_12 : decode (mC M102) 12 = .ok (.iload_n 3, 1) := by decide +kernel
theorem d102_13 : decode (mC M102) 13 = .ok (.ifCond .lt 37, 3) := by decide +kernel
theorem d102_16 : decode (mC M102) 16 = .ok (.aload_n 0, 1) := by decide +kernel
theorem d102_17 : decode (mC M102) 17 = .ok (.iload_n 1, 1) := by decide +kernel
theorem d102_18 : decode (mC M102) 18 = .ok (.iload_n 3, 1) := by decide +kernel
theorem d102_19 : decode (mC M102) 19 = .ok (.invokevirtual 74, 3) := by decide +kernel
theorem d102_22 : decode (mC M102) 22 = .ok (.istore 5, 2) := by decide +kernel
theorem d102_24 : decode (mC M102) 24 = .ok (.iload 5, 2) := by decide +kernel
theorem d102_26 : decode (mC M102) 26 = .ok (.ifCond .lt 11, 3) := by decide +kernel
theorem d102_29 : decode (mC M102) 29 = .ok (.aload_n 0, 1) := by decide +kernel
theorem d102_30 : decode (mC M102) 30 = .ok (.getfield 43, 3) := by decide +kernel
theorem d102_33 : decode (mC M102) 33 = .ok (.iload 5, 2) := by decide +kernel
theorem d102_35 : decode (mC M102) 35 = .ok (.iaload, 1) := by decide +kernel
theorem d102_36 : decode (mC M102) 36 = .ok (.ireturn, 1) := by decide +kernel
theorem d102_37 : decode (mC M102) 37 = .ok (.aload_n 0, 1) := by decide +kernel
theorem d102_38 : decode (mC M102) 38 = .ok (.getfield 9, 3) := by decide +kernel
theorem d102_41 : decode (mC M102) 41 = .ok (.iload_n 3, 1) := by decide +kernel
theorem d102_42 : decode (mC M102) 42 = .ok (.iaload, 1) := by decide +kernel
theorem d102_43 : decode (mC M102) 43 = .ok (.istore_n 3, 1) := by decide +kernel
theorem d102_44 : decode (mC M102) 44 = .ok (.iinc 4 1, 3) := by decide +kernel
theorem d102_47 : decode (mC M102) 47 = .ok (.goto (-42), 3) := by decide +kernel
theorem d102_50 : decode (mC M102) 50 = .ok (.bipush (-2), 2) := by decide +kernel
theorem d102_52 : decode (mC M102) 52 = .ok (.ireturn, 1) := by decide +kernel
theorem sc102_0 : ∀ q ∈ tc102_0, Snd xtb M102 q.1 q.2 := List.forall_mem_cons.mpr ⟨snd_iload_n d102_0 rfl, List.forall_mem_cons.mpr ⟨snd_istore_n d102_1 rfl, List.forall_mem_cons.mpr ⟨snd_iconst d102_2 (by decide +kernel), List.forall_mem_cons.mpr ⟨snd_istore d102_3, List.forall_mem_cons.mpr ⟨snd_iload d102_5, List.forall_mem_cons.mpr ⟨snd_bipush d102_7 (by decide +kernel), List.forall_mem_cons.mpr ⟨snd_cmp_ge d102_9 (by decide), List.forall_mem_cons.mpr ⟨snd_iload_n d102_12 rfl, List.forall_mem_cons.mpr ⟨snd_if_lt d102_13 (by decide), List.forall_mem_cons.mpr ⟨snd_aload_n d102_16 rfl, List.forall_mem_cons.mpr ⟨snd_iload_n d102_17 rfl, List.forall_mem_cons.mpr ⟨snd_iload_n d102_18 rfl, List.forall_mem_cons.mpr ⟨snd_callV (by decide) rfl cn103 ⟨by decide +kernel, by decide +kernel⟩ cm103 (List.forall_mem_cons.mpr ⟨wd1029, cw103⟩) d102_19, List.forall_mem_cons.mpr ⟨snd_istore d102_22, List.forall_mem_cons.mpr ⟨snd_iload d102_24, List.forall_mem_cons.mpr ⟨snd_if_lt d102_26 (by decide), List.forall_mem_cons.mpr ⟨snd_aload_n d102_29 rfl, List.forall_mem_cons.mpr ⟨snd_getR (by decide) (by decide) rfl wd334 d102_30, List.forall_mem_cons.mpr ⟨snd_iload d102_33, List.forall_mem_cons.mpr ⟨snd_iald d102_35, List.forall_mem_cons.mpr ⟨snd_iret rfl d102_36, List.forall_mem_cons.mpr ⟨snd_aload_n d102_37 rfl, List.forall_mem_cons.mpr ⟨snd_getR (by decide) (by decide) rfl wd315 d102_38, List.forall_mem_cons.mpr ⟨snd_iload_n d102_41 rfl, List.forall_mem_cons.mpr ⟨snd_iald d102_42, List.forall_mem_cons.mpr ⟨snd_istore_n d102_43 rfl, List.forall_mem_cons.mpr ⟨snd_iinc d102_44 (by decide +kernel), List.forall_mem_cons.mpr ⟨snd_goto d102_47 (by decide), List.forall_mem_cons.mpr ⟨snd_bipush d102_50 (by decide +kernel), List.forall_mem_cons.mpr ⟨snd_iret rfl d102_52, fun _ h => by cases h⟩⟩⟩⟩⟩⟩⟩⟩⟩⟩⟩⟩⟩⟩⟩⟩⟩⟩⟩⟩⟩⟩⟩⟩⟩⟩⟩⟩⟩⟩
theorem d103_0 : decode (mC M103) 0 = .ok (.iconst 0, 1) := by decide +kernel
theorem d103_1 : decode (mC M103) 1 = .ok (.istore_n 3, 1) := by decide +kernel
theorem d103_2 : decode (mC M103) 2 = .ok (.iload_n 3, 1) := by decide +kernel
theorem d103_3 : decode (mC M103) 3 = .ok (.aload_n 0, 1) := by decide +kernel
theorem d103_4 : decode (mC M103) 4 = .ok (.getfield 56, 3) := by decide +kernel
theorem d103_7 : decode (mC M103) 7 = .ok (.if_icmp .ge 31, 3) := by decide +kernel
theorem d103_10 : decode (mC M103) 10 = .ok (.aload_n 0, 1) := by decide +kernel
theorem d103_11 : decode (mC M103) 11 = .ok (.getfield 37, 3) := by decide +kernel
theorem d103_14 : decode (mC M103) 14 = .ok (.iload_n 3, 1) := by decide +kernel
theorem d103_15 : decode (mC M103) 15 = .ok (.iaload, 1) := by decide +kernel
theorem d103_16 : decode (mC M103) 16 = .ok (.iload_n 1, 1) := by decide +kernel
theorem d103_17 : decode (mC M103) 17 = .ok (.if_icmp .ne 15, 3) := by decide +kernel
theorem d103_20 : decode (mC M103) 20 = .ok (.aload_n 0, 1) := by decide +kernel
theorem d103_21 : decode (mC M103) 21 = .ok (.getfield 40, 3) := by decide +kernel
theorem d103_24 : decode (mC M103) 24 = .ok (.iload_n 3, 1) := by decide +kernel
theorem d103_25 : decode (mC M103) 25 = .ok (.iaload, 1) := by decide +kernel
theorem d103_26 : decode (mC M103) 26 = .ok (.iload_n 2, 1) := by decide +kernel
theorem d103_27 : decode (mC M103) 27 = .ok (.if_icmp .ne 5, 3) := by decide +kernel
theorem d103_30 : decode (mC M103) 30 = .ok (.iload_n 3, 1) := by decide +kernel
theorem d103_31 : decode (mC M103) 31 = .ok (.ireturn, 1) := by decide +kernel
theorem d103_32 : decode (mC M103) 32 = .ok (.iinc 3 1, 3) := by decide +kernel
theorem d103_35 : decode (mC M103) 35 = .ok (.goto (-33), 3) := by decide +kernel
theorem d103_38 : decode (mC M103) 38 = .ok (.iconst (-1), 1) := by decide +kernel
theorem d103_39 : decode (mC M103) 39 = .ok (.ireturn, 1) := by decide +kernel
theorem sc103_0 : ∀ q ∈ tc103_0, Snd xtb M103 q.1 q.2 := List.forall_mem_cons.mpr ⟨snd_iconst d103_0 (by decide +kernel), List.forall_mem_cons.mpr ⟨snd_istore_n d103_1 rfl, List.forall_mem_cons.mpr ⟨snd_iload_n d103_2 rfl, List.forall_mem_cons.mpr ⟨snd_aload_n d103_3 rfl, List.forall_mem_cons.mpr ⟨snd_getI (by decide) (by decide) rfl wd329 d103_4, List.forall_mem_cons.mpr ⟨snd_cmp_ge d103_7 (by decide), List.forall_mem_cons.mpr ⟨snd_aload_n d103_10 rfl, List.forall_mem_cons.mpr ⟨snd_getR (by decide) (by decide) rfl wd332 d103_11, List.forall_mem_cons.mpr ⟨snd_iload_n d103_14 rfl, List.forall_mem_cons.mpr ⟨snd_iald d103_15, List.forall_mem_cons.mpr ⟨snd_iload_n d103_16 rfl, List.forall_mem_cons.mpr ⟨snd_cmp_ne d103_17 (by decide), List.forall_mem_cons.mpr ⟨snd_aload_n d103_20 rfl, List.forall_mem_cons.mpr ⟨snd_getR (by decide) (by decide) rfl wd333 d103_21, List.forall_mem_cons.mpr ⟨snd_iload_n d103_24 rfl, List.forall_mem_cons.mpr ⟨snd_iald d103_25, List.forall_mem_cons.mpr ⟨snd_iload_n d103_26 rfl, List.forall_mem_cons.mpr ⟨snd_cmp_ne d103_27 (by decide), List.forall_mem_cons.mpr ⟨snd_iload_n d103_30 rfl, List.forall_mem_cons.mpr ⟨snd_iret rfl d103_31, List.forall_mem_cons.mpr ⟨snd_iinc d103_32 (by decide +kernel), List.forall_mem_cons.mpr ⟨snd_goto d103_35 (by decide), List.forall_mem_cons.mpr ⟨snd_iconst d103_38 (by decide +kernel), List.forall_mem_cons.mpr ⟨snd_iret rfl d103_39, fun _ h => by cases h⟩⟩⟩⟩⟩⟩⟩⟩⟩⟩⟩⟩⟩⟩⟩⟩⟩⟩⟩⟩⟩⟩⟩⟩
theorem d104_0 : decode (mC M104) 0 = .ok (.sipush 1000, 3) := by decide +kernel
theorem d104_3 : decode (mC M104) 3 = .ok (.istore_n 2, 1) := by decide +kernel
theorem d104_4 : decode (mC M104) 4 = .ok (.iconst 0, 1) := by decide +kernel
theorem d104_5 : decode (mC M104) 5 = .ok (.istore_n 3, 1) := by decide +kernel
theorem d104_6 : decode (mC M104) 6 = .ok (.iload_n 3, 1) := by decide +kernel
theorem d104_7 : decode (mC M104) 7 = .ok (.aload_n 0, 1) := by decide +kernel
theorem d104_8 : decode (mC M104) 8 = .ok (.getfield 18, 3) := by decide +kernel
theorem d104_11 : decode (mC M104) 11 = .ok (.getfield 50, 3) := by decide +kernel
theorem d104_14 : decode (mC M104) 14 = .ok (.if_icmp .ge 24, 3) := by decide +kernel
theorem d104_17 : decode (mC M104) 17 = .ok (.iload_n 2, 1) := by decide +kernel
theorem d104_18 : decode (mC M104) 18 = .ok (.iload_n 1, 1) := by decide +kernel
theorem d104_19 : decode (mC M104) 19 = .ok (.aload_n 0, 1) := by decide +kernel
theorem d104_20 : decode (mC M104) 20 = .ok (.getfield 18, 3) := by decide +kernel
theorem d104_23 : decode (mC M104) 23 = .ok (.getfield 78, 3) := by decide +kernel
theorem d104_26 : decode (mC M104) 26 = .ok (.iload_n 3, 1) := by decide +kernel
theorem d104_27 : decode (mC M104) 27 = .ok (.iaload, 1) := by decide +kernel
theorem d104_28 : decode (mC M104) 28 = .ok (.invokestatic 81, 3) := by decide +kernel
theorem d104_31 : decode (mC M104) 31 = .ok (.istore_n 2, 1) := by decide +kernel
theorem d104_32 : decode (mC M104) 32 = .ok (.iinc 3 1, 3) := by decide +kernel
theorem d104_35 : decode (mC M104) 35 = .ok (.goto (-29), 3) := by decide +kernel
theorem d104_38 : decode (mC M104) 38 = .ok (.iconst 0, 1) := by decide +kernel
theorem d104_39 : decode (mC M104) 39 = .ok (.istore_n 3, 1) := by decide +kernel
theorem d104_40 : decode (mC M104) 40 = .ok (.iload_n 3, 1) := by decide +kernel
theorem d104_41 : decode (mC M104) 41 = .ok (.aload_n 0, 1) := by decide +kernel
theorem d104_42 : decode (mC M104) 42 = .ok (.getfield 53, 3) := by decide +kernel
theorem d104_45 : decode (mC M104) 45 = .ok (.if_icmp .ge 35, 3) := by decide +kernel
theorem d104_48 : decode (mC M104) 48 = .ok (.iload_n 2, 1) := by decide +kernel
theorem d104_49 : decode (mC M104) 49 = .ok (.iload_n 1, 1) := by decide +kernel
theorem d104_50 : decode (mC M104) 50 = .ok (.aload_n 0, 1) := by decide +kernel
theorem d104_51 : decode (mC M104) 51 = .ok (.getfield 28, 3) := by decide +kernel
theorem d104_54 : decode (mC M104) 54 = .ok (.iload_n 3, 1) := by decide +kernel
theorem d104_55 : decode (mC M104) 55 = .ok (.iaload, 1) := by decide +kernel
theorem d104_56 : decode (mC M104) 56 = .ok (.invokestatic 81, 3) := by decide +kernel
theorem d104_59 : decode (mC M104) 59 = .ok (.istore_n 2, 1) := by decide +kernel
theorem d104_60 : decode (mC M104) 60 = .ok (.iload_n 2, 1) := by decide +kernel
theorem d104_61 : decode (mC M104) 61 = .ok (.iload_n 1, 1) := by decide +kernel
theorem d104_62 : decode (mC M104) 62 = .ok (.aload_n 0, 1) := by decide +kernel
theorem d104_63 : decode (mC M104) 63 = .ok (.getfield 31, 3) := by decide +kernel
theorem d104_66 : decode (mC M104) 66 = .ok (.iload_n 3, 1) := by decide +kernel
theorem d104_67 : decode (mC M104) 67 = .ok (.iaload, 1) := by decide +kernel
theorem d104_68 : decode (mC M104) 68 = .ok (.iconst 1, 1) := by decide +kernel
theorem d104_69 : decode (mC M104) 69 = .ok (.iadd, 1) := by decide +kernel
theorem d104_70 : decode (mC M104) 70 = .ok (.invokestatic 81, 3) := by decide +kernel
theorem d104_73 : decode (mC M104) 73 = .ok (.istore_n 2, 1) := by decide +kernel
theorem d104_74 : decode (mC M104) 74 = .ok (.iinc 3 1, 3) := by decide +kernel
theorem d104_77 : decode (mC M104) 77 = .ok (.goto (-37), 3) := by decide +kernel
theorem d104_80 : decode (mC M104) 80 = .ok (.iload_n 2, 1) := by decide +kernel
theorem d104_81 : decode (mC M104) 81 = .ok (.ireturn, 1) := by decide +kernel
theorem sc104_0 : ∀ q ∈ tc104_0, Snd xtb M104 q.1 q.2 := List.forall_mem_cons.mpr ⟨snd_sipush d104_0 (by decide +kernel), List.forall_mem_cons.mpr ⟨snd_istore_n d104_3 rfl, List.forall_mem_cons.mpr ⟨snd_iconst d104_4 (by decide +kernel), List.forall_mem_cons.mpr ⟨snd_istore_n d104_5 rfl, List.forall_mem_cons.mpr ⟨snd_iload_n d104_6 rfl, List.forall_mem_cons.mpr ⟨snd_aload_n d104_7 rfl, List.forall_mem_cons.mpr ⟨snd_getR (by decide) (by decide) rfl wd317 d104_8, List.forall_mem_cons.mpr ⟨snd_getI (by decide) (by decide) rfl wd290 d104_11, List.forall_mem_cons.mpr ⟨snd_cmp_ge d104_14 (by decide), List.forall_mem_cons.mpr ⟨snd_iload_n d104_17 rfl, List.forall_mem_cons.mpr ⟨snd_iload_n d104_18 rfl, List.forall_mem_cons.mpr ⟨snd_aload_n d104_19 rfl, List.forall_mem_cons.mpr ⟨snd_getR (by decide) (by decide) rfl wd317 d104_20, List.forall_mem_cons.mpr ⟨snd_getR (by decide) (by decide) rfl wd297 d104_23, List.forall_mem_cons.mpr ⟨snd_iload_n d104_26 rfl, List.forall_mem_cons.mpr ⟨snd_iald d104_27, List.forall_mem_cons.mpr ⟨snd_callS cn105 ⟨by decide +kernel, by decide +kernel⟩ cm105 (List.forall_mem_cons.mpr ⟨wd1113, cw105⟩) d104_28, List.forall_mem_cons.mpr ⟨snd_istore_n d104_31 rfl, List.forall_mem_cons.mpr ⟨snd_iinc d104_32 (by decide +kernel), List.forall_mem_cons.mpr ⟨snd_goto d104_35 (by decide), List.forall_mem_cons.mpr ⟨snd_iconst d104_38 (by decide +kernel), List.forall_mem_cons.mpr ⟨snd_istore_n d104_39 rfl, List.forall_mem_cons.mpr ⟨snd_iload_n d104_40 rfl, List.forall_mem_cons.mpr ⟨snd_aload_n d104_41 rfl, List.forall_mem_cons.mpr ⟨snd_getI (by decide) (by decide) rfl wd321 d104_42, List.forall_mem_cons.mpr ⟨snd_cmp_ge d104_45 (by decide), List.forall_mem_cons.mpr ⟨snd_iload_n d104_48 rfl, List.forall_mem_cons.mpr ⟨snd_iload_n d104_49 rfl, List.forall_mem_cons.mpr ⟨snd_aload_n d104_50 rfl, List.forall_mem_cons.mpr ⟨snd_getR (by decide) (by decide) rfl wd326 d104_51, fun _ h => by cases h⟩⟩⟩⟩⟩⟩⟩⟩⟩⟩⟩⟩⟩⟩⟩⟩⟩⟩⟩⟩⟩⟩⟩⟩⟩⟩⟩⟩⟩⟩
theorem sc104_1 : ∀ q ∈ tc104_1, Snd xtb M104 q.1 q.2 := List.forall_mem_cons.mpr ⟨snd_iload_n d104_54 rfl, List.forall_mem_cons.mpr ⟨snd_iald d104_55, List.forall_mem_cons.mpr ⟨snd_callS cn105 ⟨by decide +kernel, by decide +kernel⟩ cm105 (List.forall_mem_cons.mpr ⟨wd1113, cw105⟩) d104_56, List.forall_mem_cons.mpr ⟨snd_istore_n d104_59 rfl, List.forall_mem_cons.mpr ⟨snd_iload_n d104_60 rfl, List.forall_mem_cons.mpr ⟨snd_iload_n d104_61 rfl, List.forall_mem_cons.mpr ⟨snd_aload_n d104_62 rfl, List.forall_mem_cons.mpr ⟨snd_getR (by decide) (by decide) rfl wd327 d104_63, List.forall_mem_cons.mpr ⟨snd_iload_n d104_66 rfl, List.forall_mem_cons.mpr ⟨snd_iald d104_67, List.forall_mem_cons.mpr ⟨snd_iconst d104_68 (by decide +kernel), List.forall_mem_cons.mpr ⟨snd_iadd d104_69, List.forall_mem_cons.mpr ⟨snd_callS cn105 ⟨by decide +kernel, by decide +kernel⟩ cm105 (List.forall_mem_cons.mpr ⟨wd1113, cw105⟩) d104_70, List.forall_mem_cons.mpr ⟨snd_istore_n d104_73 rfl, List.forall_mem_cons.mpr ⟨snd_iinc d104_74 (by decide +kernel), List.forall_mem_cons.mpr ⟨snd_goto d104_77 (by decide), List.forall_mem_cons.mpr ⟨snd_iload_n d104_80 rfl, List.forall_mem_cons.mpr ⟨snd_iret rfl d104_81, fun _ h => by cases h⟩⟩⟩⟩⟩⟩⟩⟩⟩⟩⟩⟩⟩⟩⟩⟩⟩⟩
theorem d105_0 : decode (mC M105) 0 = .ok (.iload_n 2, 1) := by decide +kernel
theorem d105_1 : decode (mC M105) 1 = .ok (.iload_n 1, 1) := by decide +kernel
theorem d105_2 : decode (mC M105) 2 = .ok (.if_icmp .le 12, 3) := by decide +kernel
theorem d105_5 : decode (mC M105) 5 = .ok (.iload_n 2, 1) := by decide +kernel
theorem d105_6 : decode (mC M105) 6 = .ok (.iload_n 0, 1) := by decide +kernel
theorem d105_7 : decode (mC M105) 7 = .ok (.if_icmp .ge 7, 3) := by decide +kernel
theorem d105_10 : decode (mC M105) 10 = .ok (.iload_n 2, 1) := by decide +kernel
theorem d105_11 : decode (mC M105) 11 = .ok (.goto 4, 3) := by decide +kernel
theorem d105_14 : decode (mC M105) 14 = .ok (.iload_n 0, 1) := by decide +kernel
theorem d105_15 : decode (mC M105) 15 = .ok (.ireturn, 1) := by decide +kernel
theorem sc105_0 : ∀ q ∈ tc105_0, Snd xtb M105 q.1 q.2 := List.forall_mem_cons.mpr ⟨snd_iload_n d105_0 rfl, List.forall_mem_cons.mpr ⟨snd_iload_n d105_1 rfl, List.forall_mem_cons.mpr ⟨snd_cmp_le d105_2 (by decide), List.forall_mem_cons.mpr ⟨snd_iload_n d105_5 rfl, List.forall_mem_cons.mpr ⟨snd_iload_n d105_6 rfl, List.forall_mem_cons.mpr ⟨snd_cmp_ge d105_7 (by decide), List.forall_mem_cons.mpr ⟨snd_iload_n d105_10 rfl, List.forall_mem_cons.mpr ⟨snd_goto d105_11 (by decide), List.forall_mem_cons.mpr ⟨snd_iload_n d105_14 rfl, List.forall_mem_cons.mpr ⟨snd_iret rfl d105_15, fun _ h => by cases h⟩⟩⟩⟩⟩⟩⟩⟩⟩⟩
theorem d106_0 : decode (mC M106) 0 = .ok (.aload_n 0, 1) := by decide +kernel
theorem d106_1 : decode (mC M106) 1 = .ok (.invokespecial 3, 3) := by decide +kernel
theorem d106_4 : decode (mC M106) 4 = .ok (.aload_n 0, 1) := by decide +kernel
theorem d106_5 : decode (mC M106) 5 = .ok (.new 9, 3) := by decide +kernel
theorem d106_8 : decode (mC M106) 8 = .ok (.dup, 1) := by decide +kernel
theorem d106_9 : decode (mC M106) 9 = .ok (.invokespecial 11, 3) := by decide +kernel
theorem d106_12 : decode (mC M106) 12 = .ok (.putfield 12, 3) := by decide +kernel
theorem d106_15 : decode (mC M106) 15 = .ok (.aload_n 0, 1) := by decide +kernel
theorem d106_16 : decode (mC M106) 16 = .ok (.new 18, 3) := by decide +kernel
theorem d106_19 : decode (mC M106) 19 = .ok (.dup, 1) := by decide +kernel
theorem d106_20 : decode (mC M106) 20 = .ok (.invokespecial 20, 3) := by decide +kernel
theorem d106_23 : decode (mC M106) 23 = .ok (.putfield 21, 3) := by decide +kernel
theorem d106_26 : decode (mC M106) 26 = .ok (.aload_n 0, 1) := by decide +kernel
theorem d106_27 : decode (mC M106) 27 = .ok (.new 25, 3) := by decide +kernel
theorem d106_30 : decode (mC M106) 30 = .ok (.dup, 1) := by decide +kernel
theorem d106_31 : decode (mC M106) 31 = .ok (.invokespecial 27, 3) := by decide +kernel
theorem d106_34 : decode (mC M106) 34 = .ok (.putfield 28, 3) := by decide +kernel
theorem d106_37 : decode (mC M106) 37 = .ok (.aload_n 0, 1) := by decide +kernel
theorem d106_38 : decode (mC M106) 38 = .ok (.new 32, 3) := by decide +kernel
theorem d106_41 : decode (mC M106) 41 = .ok (.dup, 1) := by decide +kernel
theorem d106_42 : decode (mC M106) 42 = .ok (.invokespecial 34, 3) := by decide +kernel
theorem d106_45 : decode (mC M106) 45 = .ok (.putfield 35, 3) := by decide +kernel
theorem d106_48 : decode (mC M106) 48 = .ok (.aload_n 0, 1) := by decide +kernel
theorem d106_49 : decode (mC M106) 49 = .ok (.new 39, 3) := by decide +kernel
theorem d106_52 : decode (mC M106) 52 = .ok (.dup, 1) := by decide +kernel
theorem d106_53 : decode (mC M106) 53 = .ok (.invokespecial 41, 3) := by decide +kernel
theorem d106_56 : decode (mC M106) 56 = .ok (.putfield 42, 3) := by decide +kernel
theorem d106_59 : decode (mC M106) 59 = .ok (.return_, 1) := by decide +kernel
theorem sc106_0 : ∀ q ∈ tc106_0, Snd xtb M106 q.1 q.2 := List.forall_mem_cons.mpr ⟨snd_aload_n d106_0 rfl, List.forall_mem_cons.mpr ⟨snd_obj (by decide) (by decide) (List.forall_mem_cons.mpr ⟨wd138, List.forall_mem_cons.mpr ⟨wd139, List.forall_mem_cons.mpr ⟨wd140, fun _ h => by cases h⟩⟩⟩) d106_1, List.forall_mem_cons.mpr ⟨snd_aload_n d106_4 rfl, List.forall_mem_cons.mpr ⟨snd_new (by decide) (by decide +kernel) (List.forall_mem_cons.mpr ⟨wd141, List.forall_mem_cons.mpr ⟨wd142, List.forall_mem_cons.mpr ⟨wd113, fun _ h => by cases h⟩⟩⟩) d106_5, List.forall_mem_cons.mpr ⟨snd_dup d106_8, List.forall_mem_cons.mpr ⟨snd_callIN (host := "SalePlaces") (by decide) rfl rfl cn66 ⟨by decide +kernel, by decide +kernel⟩ cm66 cw66 (by decide +kernel) d106_9, List.forall_mem_cons.mpr ⟨snd_putRF (by decide) (by decide) rfl rfl rfl rfl wd532 d106_12, List.forall_mem_cons.mpr ⟨snd_aload_n d106_15 rfl, List.forall_mem_cons.mpr ⟨snd_new (by decide) (by decide +kernel) (List.forall_mem_cons.mpr ⟨wd402, List.forall_mem_cons.mpr ⟨wd185, List.forall_mem_cons.mpr ⟨wd115, fun _ h => by cases h⟩⟩⟩) d106_16, List.forall_mem_cons.mpr ⟨snd_dup d106_19, List.forall_mem_cons.mpr ⟨snd_callIN (host := "SalePlaces") (by decide) rfl rfl cn34 ⟨by decide +kernel, by decide +kernel⟩ cm34 cw34 (by decide +kernel) d106_20, List.forall_mem_cons.mpr ⟨snd_putR (by decide) (by decide) rfl rfl wd533 d106_23, List.forall_mem_cons.mpr ⟨snd_aload_n d106_26 rfl, List.forall_mem_cons.mpr ⟨snd_new (by decide) (by decide +kernel) (List.forall_mem_cons.mpr ⟨wd404, List.forall_mem_cons.mpr ⟨wd405, List.forall_mem_cons.mpr ⟨wd120, fun _ h => by cases h⟩⟩⟩) d106_27, List.forall_mem_cons.mpr ⟨snd_dup d106_30, List.forall_mem_cons.mpr ⟨snd_callI (by decide) rfl rfl cn6 ⟨by decide +kernel, by decide +kernel⟩ cm6 (List.forall_mem_cons.mpr ⟨wd406, cw6⟩) d106_31, List.forall_mem_cons.mpr ⟨snd_putRF (by decide) (by decide) rfl rfl rfl rfl wd535 d106_34, List.forall_mem_cons.mpr ⟨snd_aload_n d106_37 rfl, List.forall_mem_cons.mpr ⟨snd_new (by decide) (by decide +kernel) (List.forall_mem_cons.mpr ⟨wd507, List.forall_mem_cons.mpr ⟨wd508, List.forall_mem_cons.mpr ⟨wd122, fun _ h => by cases h⟩⟩⟩) d106_38, List.forall_mem_cons.mpr ⟨snd_dup d106_41, List.forall_mem_cons.mpr ⟨snd_callIN (host := "SalePlaces") (by decide) rfl rfl cn3 ⟨by decide +kernel, by decide +kernel⟩ cm3 cw3 (by decide +kernel) d106_42, List.forall_mem_cons.mpr ⟨snd_putRF (by decide) (by decide) rfl rfl rfl rfl wd536 d106_45, List.forall_mem_cons.mpr ⟨snd_aload_n d106_48 rfl, List.forall_mem_cons.mpr ⟨snd_new (by decide) (by decide +kernel) (List.forall_mem_cons.mpr ⟨wd530, List.forall_mem_cons.mpr ⟨wd412, List.forall_mem_cons.mpr ⟨wd121, fun _ h => by cases h⟩⟩⟩) d106_49, List.forall_mem_cons.mpr ⟨snd_dup d106_52, List.forall_mem_cons.mpr ⟨snd_callIN (host := "SalePlaces") (by decide) rfl rfl cn53 ⟨by decide +kernel, by decide +kernel⟩ cm53 cw53 (by decide +kernel) d106_53, List.forall_mem_cons.mpr ⟨snd_putRF (by decide) (by decide) rfl rfl rfl rfl wd537 d106_56, List.forall_mem_cons.mpr ⟨snd_vret rfl d106_59, fun _ h => by cases h⟩⟩⟩⟩⟩⟩⟩⟩⟩⟩⟩⟩⟩⟩⟩⟩⟩⟩⟩⟩⟩⟩⟩⟩⟩⟩⟩⟩
theorem d107_0 : decode (mC M107) 0 = .ok (.aload_n 0, 1) := by decide +kernel
theorem d107_1 : decode (mC M107) 1 = .ok (.getfield 12, 3) := by decide +kernel
theorem d107_4 : decode (mC M107) 4 = .ok (.getfield 46, 3) := by decide +kernel
theorem d107_7 : decode (mC M107) 7 = .ok (.astore 6, 2) := by decide +kernel
theorem d107_9 : decode (mC M107) 9 = .ok (.aload 6, 2) := by decide +kernel
theorem d107_11 : decode (mC M107) 11 = .ok (.getfield 50, 3) := by decide +kernel
theorem d107_14 : decode (mC M107) 14 = .ok (.bipush 20, 2) := by decide +kernel
theorem d107_16 : decode (mC M107) 16 = .ok (.iadd, 1) := by decide +kernel
theorem d107_17 : decode (mC M107) 17 = .ok (.sipush 1200, 3) := by decide +kernel
theorem d107_20 : decode (mC M107) 20 = .ok (.if_icmp .le 5, 3) := by decide +kernel
theorem d107_23 : decode (mC M107) 23 = .ok (.iconst (-1), 1) := by decide +kernel
theorem d107_24 : decode (mC M107) 24 = .ok (.ireturn, 1) := by decide +kernel
theorem d107_25 : decode (mC M107) 25 = .ok (.aload 6, 2) := by decide +kernel
theorem d107_27 : decode (mC M107) 27 = .ok (.iload_n 1, 1) := by decide +kernel
theorem d107_28 : decode (mC M107) 28 = .ok (.invokevirtual 56, 3) := by decide +kernel
theorem d107_31 : decode (mC M107) 31 = .ok (.aload 6, 2) := by decide +kernel
theorem d107_33 : decode (mC M107) 33 = .ok (.iload_n 2, 1) := by decide +kernel
theorem d107_34 : decode (mC M107) 34 = .ok (.invokevirtual 56, 3) := by decide +kernel
theorem d107_37 : decode (mC M107) 37 = .ok (.aload 6, 2) := by decide +kernel
theorem d107_39 : decode (mC M107) 39 = .ok (.iload_n 3, 1) := by decide +kernel
theorem d107_40 : decode (mC M107) 40 = .ok (.invokevirtual 56, 3) := by decide +kernel
theorem d107_43 : decode (mC M107) 43 = .ok (.aload 6, 2) := by decide +kernel
theorem d107_45 : decode (mC M107) 45 = .ok (.iload 4, 2) := by decide +kernel
theorem d107_47 : decode (mC M107) 47 = .ok (.invokevirtual 56, 3) := by decide +kernel
theorem d107_50 : decode (mC M107) 50 = .ok (.aload 6, 2) := by decide +kernel
theorem d107_52 : decode (mC M107) 52 = .ok (.iload 5, 2) := by decide +kernel
theorem d107_54 : decode (mC M107) 54 = .ok (.invokevirtual 56, 3) := by decide +kernel
theorem d107_57 : decode (mC M107) 57 = .ok (.aload 6, 2) := by decide +kernel
theorem d107_59 : decode (mC M107) 59 = .ok (.getfield 50, 3) := by decide +kernel
theorem d107_62 : decode (mC M107) 62 = .ok (.ireturn, 1) := by decide +kernel
theorem sc107_0 : ∀ q ∈ tc107_0, Snd xtb M107 q.1 q.2 := List.forall_mem_cons.mpr ⟨snd_aload_n d107_0 rfl, List.forall_mem_cons.mpr ⟨snd_getR (by decide) (by decide) rfl wd532 d107_1, List.forall_mem_cons.mpr ⟨snd_getR (by decide) (by decide) rfl wd377 d107_4, List.forall_mem_cons.mpr ⟨snd_astore d107_7, List.forall_mem_cons.mpr ⟨snd_aload d107_9, List.forall_mem_cons.mpr ⟨snd_getI (by decide) (by decide) rfl wd154 d107_11, List.forall_mem_cons.mpr ⟨snd_bipush d107_14 (by decide +kernel), List.forall_mem_cons.mpr ⟨snd_iadd d107_16, List.forall_mem_cons.mpr ⟨snd_sipush d107_17 (by decide +kernel), List.forall_mem_cons.mpr ⟨snd_cmp_le d107_20 (by decide), List.forall_mem_cons.mpr ⟨snd_iconst d107_23 (by decide +kernel), List.forall_mem_cons.mpr ⟨snd_iret rfl d107_24, List.forall_mem_cons.mpr ⟨snd_aload d107_25, List.forall_mem_cons.mpr ⟨snd_iload_n d107_27 rfl, List.forall_mem_cons.mpr ⟨snd_callV (by decide) rfl cn87 ⟨by decide +kernel, by decide +kernel⟩ cm87 (List.forall_mem_cons.mpr ⟨wd558, cw87⟩) d107_28, List.forall_mem_cons.mpr ⟨snd_aload d107_31, List.forall_mem_cons.mpr ⟨snd_iload_n d107_33 rfl, List.forall_mem_cons.mpr ⟨snd_callV (by decide) rfl cn87 ⟨by decide +kernel, by decide +kernel⟩ cm87 (List.forall_mem_cons.mpr ⟨wd558, cw87⟩) d107_34, List.forall_mem_cons.mpr ⟨snd_aload d107_37, List.forall_mem_cons.mpr ⟨snd_iload_n d107_39 rfl, List.forall_mem_cons.mpr ⟨snd_callV (by decide) rfl cn87 ⟨by decide +kernel, by decide +kernel⟩ cm87 (List.forall_mem_cons.mpr ⟨wd558, cw87⟩) d107_40, List.forall_mem_cons.mpr ⟨snd_aload d107_43, List.forall_mem_cons.mpr ⟨snd_iload d107_45, List.forall_mem_cons.mpr ⟨snd_callV (by decide) rfl cn87 ⟨by decide +kernel, by decide +kernel⟩ cm87 (List.forall_mem_cons.mpr ⟨wd558, cw87⟩) d107_47, List.forall_mem_cons.mpr ⟨snd_aload d107_50, List.forall_mem_cons.mpr ⟨snd_iload d107_52, List.forall_mem_cons.mpr ⟨snd_callV (by decide) rfl cn87 ⟨by decide +kernel, by decide +kernel⟩ cm87 (List.forall_mem_cons.mpr ⟨wd558, cw87⟩) d107_54, List.forall_mem_cons.mpr ⟨snd_aload d107_57, List.forall_mem_cons.mpr ⟨snd_getI (by decide) (by decide) rfl wd154 d107_59, List.forall_mem_cons.mpr ⟨snd_iret rfl d107_62, fun _ h => by cases h⟩⟩⟩⟩⟩⟩⟩⟩⟩⟩⟩⟩⟩⟩⟩⟩⟩⟩⟩⟩⟩⟩⟩⟩⟩⟩⟩⟩⟩⟩
theorem d108_0 : decode (mC M108) 0 = .ok (.iload_n 1, 1) := by decide +kernel
theorem d108_1 : decode (mC M108) 1 = .ok (.iconst 0, 1) := by decide +kernel
theorem d108_2 : decode (mC M108) 2 = .ok (.aload_n 0, 1) := by decide +kernel
theorem d108_3 : decode (mC M108) 3 = .ok (.getfield 12, 3) := by decide +kernel
theorem d108_6 : decode (mC M108) 6 = .ok (.getfield 46, 3) := by decide +kernel
theorem d108_9 : decode (mC M108) 9 = .ok (.getfield 50, 3) := by decide +kernel
theorem d108_12 : decode (mC M108) 12 = .ok (.invokestatic 60, 3) := by decide +kernel
theorem d108_15 : decode (mC M108) 15 = .ok (.ifCond .ne 9, 3) := by decide +kernel
theorem d108_18 : decode (mC M108) 18 = .ok (.aload_n 0, 1) := by decide +kernel
theorem d108_19 : decode (mC M108) 19 = .ok (.iconst 2, 1) := by decide +kernel
theorem d108_20 : decode (mC M108) 20 = .ok (.invokevirtual 64, 3) := by decide +kernel
theorem d108_23 : decode (mC M108) 23 = .ok (.ireturn, 1) := by decide +kernel
theorem d108_24 : decode (mC M108) 24 = .ok (.aload_n 0, 1) := by decide +kernel
theorem d108_25 : decode (mC M108) 25 = .ok (.getfield 12, 3) := by decide +kernel
theorem d108_28 : decode (mC M108) 28 = .ok (.getfield 46, 3) := by decide +kernel
theorem d108_31 : decode (mC M108) 31 = .ok (.iconst 0, 1) := by decide +kernel
theorem d108_32 : decode (mC M108) 32 = .ok (.putfield 50, 3) := by decide +kernel
theorem d108_35 : decode (mC M108) 35 = .ok (.aload_n 0, 1) := by decide +kernel
theorem d108_36 : decode (mC M108) 36 = .ok (.getfield 12, 3) := by decide +kernel
theorem d108_39 : decode (mC M108) 39 = .ok (.iload_n 1, 1) := by decide +kernel
theorem d108_40 : decode (mC M108) 40 = .ok (.invokevirtual 68, 3) := by decide +kernel
theorem d108_43 : decode (mC M108) 43 = .ok (.ifCond .ne 9, 3) := by decide +kernel
theorem d108_46 : decode (mC M108) 46 = .ok (.aload_n 0, 1) := by decide +kernel
theorem d108_47 : decode (mC M108) 47 = .ok (.iconst 4, 1) := by decide +kernel
theorem d108_48 : decode (mC M108) 48 = .ok (.invokevirtual 64, 3) := by decide +kernel
theorem d108_51 : decode (mC M108) 51 = .ok (.ireturn, 1) := by decide +kernel
theorem d108_52 : decode (mC M108) 52 = .ok (.aload_n 0, 1) := by decide +kernel
theorem d108_53 : decode (mC M108) 53 = .ok (.getfield 12, 3) := by decide +kernel
theorem d108_56 : decode (mC M108) 56 = .ok (.getfield 72, 3) := by decide +kernel
theorem d108_59 : decode (mC M108) 59 = .ok (.astore_n 2, 1) := by decide +kernel
theorem d108_60 : decode (mC M108) 60 = .ok (.aload_n 0, 1) := by decide +kernel
theorem d108_61 : decode (mC M108) 61 = .ok (.getfield 12, 3) := by decide +kernel
theorem d108_64 : decode (mC M108) 64 = .ok (.aload_n 0, 1) := by decide +kernel
theorem d108_65 : decode (mC M108) 65 = .ok (.getfield 21, 3) := by decide +kernel
theorem d108_68 : decode (mC M108) 68 = .ok (.putfield 72, 3) := by decide +kernel
theorem d108_71 : decode (mC M108) 71 = .ok (.aload_n 0, 1) := by decide +kernel
theorem d108_72 : decode (mC M108) 72 = .ok (.aload_n 2, 1) := by decide +kernel
theorem d108_73 : decode (mC M108) 73 = .ok (.putfield 21, 3) := by decide +kernel
theorem d108_76 : decode (mC M108) 76 = .ok (.aload_n 0, 1) := by decide +kernel
theorem d108_77 : decode (mC M108) 77 = .ok (.iconst 1, 1) := by decide +kernel
theorem d108_78 : decode (mC M108) 78 = .ok (.putfield 75, 3) := by decide +kernel
theorem d108_81 : decode (mC M108) 81 = .ok (.aload_n 0, 1) := by decide +kernel
theorem d108_82 : decode (mC M108) 82 = .ok (.getfield 28, 3) := by decide +kernel
theorem d108_85 : decode (mC M108) 85 = .ok (.invokevirtual 79, 3) := by decide +kernel
theorem d108_88 : decode (mC M108) 88 = .ok (.aload_n 0, 1) := by decide +kernel
theorem d108_89 : decode (mC M108) 89 = .ok (.getfield 35, 3) := by decide +kernel
theorem d108_92 : decode (mC M108) 92 = .ok (.iconst 0, 1) := by decide +kernel
theorem d108_93 : decode (mC M108) 93 = .ok (.putfield 82, 3) := by decide +kernel
theorem d108_96 : decode (mC M108) 96 = .ok (.aload_n 0, 1) := by decide +kernel
theorem d108_97 : decode (mC M108) 97 = .ok (.aload_n 0, 1) := by decide +kernel
theorem d108_98 : decode (mC M108) 98 = .ok (.getfield 21, 3) := by decide +kernel
theorem d108_101 : decode (mC M108) 101 = .ok (.getfield 85, 3) := by decide +kernel
theorem d108_104 : decode (mC M108) 104 = .ok (.getfield 89, 3) := by decide +kernel
theorem d108_107 : decode (mC M108) 107 = .ok (.invokevirtual 94, 3) := by decide +kernel
theorem d108_110 : decode (mC M108) 110 = .ok (.ireturn, 1) := by decide +kernel
theorem sc108_0 : ∀ q ∈ tc108_0, Snd xtb M108 q.1 q.2 := List.forall_mem_cons.mpr ⟨snd_iload_n d108_0 rfl, List.forall_mem_cons.mpr ⟨snd_iconst d108_1 (by decide +kernel), List.forall_mem_cons.mpr ⟨snd_aload_n d108_2 rfl, List.forall_mem_cons.mpr ⟨snd_getR (by decide) (by decide) rfl wd532 d108_3, List.forall_mem_cons.mpr ⟨snd_getR (by decide) (by decide) rfl wd377 d108_6, List.forall_mem_cons.mpr ⟨snd_getI (by decide) (by decide) rfl wd154 d108_9, List.forall_mem_cons.mpr ⟨snd_callS cn164 ⟨by decide +kernel, by decide +kernel⟩ cm164 (List.forall_mem_cons.mpr ⟨wd566, cw164⟩) d108_12, List.forall_mem_cons.mpr ⟨snd_if_ne d108_15 (by decide), List.forall_mem_cons.mpr ⟨snd_aload_n d108_18 rfl, List.forall_mem_cons.mpr ⟨snd_iconst d108_19 (by decide +kernel), List.forall_mem_cons.mpr ⟨snd_callV (by decide) rfl cn154 ⟨by decide +kernel, by decide +kernel⟩ cm154 (List.forall_mem_cons.mpr ⟨wd569, cw154⟩) d108_20, List.forall_mem_cons.mpr ⟨snd_iret rfl d108_23, List.forall_mem_cons.mpr ⟨snd_aload_n d108_24 rfl, List.forall_mem_cons.mpr ⟨snd_getR (by decide) (by decide) rfl wd532 d108_25, List.forall_mem_cons.mpr ⟨snd_getR (by decide) (by decide) rfl wd377 d108_28, List.forall_mem_cons.mpr ⟨snd_iconst d108_31 (by decide +kernel), List.forall_mem_cons.mpr ⟨snd_putI (by decide) (by decide) rfl rfl wd154 d108_32, List.forall_mem_cons.mpr ⟨snd_aload_n d108_35 rfl, List.forall_mem_cons.mpr ⟨snd_getR (by decide) (by decide) rfl wd532 d108_36, List.forall_mem_cons.mpr ⟨snd_iload_n d108_39 rfl, List.forall_mem_cons.mpr ⟨snd_callV (by decide) rfl cn67 ⟨by decide +kernel, by decide +kernel⟩ cm67 (List.forall_mem_cons.mpr ⟨wd573, cw67⟩) d108_40, List.forall_mem_cons.mpr ⟨snd_if_ne d108_43 (by decide), List.forall_mem_cons.mpr ⟨snd_aload_n d108_46 rfl, List.forall_mem_cons.mpr ⟨snd_iconst d108_47 (by decide +kernel), List.forall_mem_cons.mpr ⟨snd_callV (by decide) rfl cn154 ⟨by decide +kernel, by decide +kernel⟩ cm154 (List.forall_mem_cons.mpr ⟨wd569, cw154⟩) d108_48, List.forall_mem_cons.mpr ⟨snd_iret rfl d108_51, List.forall_mem_cons.mpr ⟨snd_aload_n d108_52 rfl, List.forall_mem_cons.mpr ⟨snd_getR (by decide) (by decide) rfl wd532 d108_53, List.forall_mem_cons.mpr ⟨snd_getR (by decide) (by decide) rfl wd381 d108_56, List.forall_mem_cons.mpr ⟨snd_astore_n d108_59 rfl, fun _ h => by cases h⟩⟩⟩⟩⟩⟩⟩⟩⟩⟩⟩⟩⟩⟩⟩⟩⟩⟩⟩⟩⟩⟩⟩⟩⟩⟩⟩⟩⟩⟩
theorem sc108_1 : ∀ q ∈ tc108_1, Snd xtb M108 q.1 q.2 := List.forall_mem_cons.mpr ⟨snd_aload_n d108_60 rfl, List.forall_mem_cons.mpr ⟨snd_getR (by decide) (by decide) rfl wd532 d108_61, List.forall_mem_cons.mpr ⟨snd_aload_n d108_64 rfl, List.forall_mem_cons.mpr ⟨snd_getR (by decide) (by decide) rfl wd533 d108_65, List.forall_mem_cons.mpr ⟨snd_putR (by decide) (by decide) rfl rfl wd381 d108_68, List.forall_mem_cons.mpr ⟨snd_aload_n d108_71 rfl, List.forall_mem_cons.mpr ⟨snd_aload_n d108_72 rfl, List.forall_mem_cons.mpr ⟨snd_putR (by decide) (by decide) rfl rfl wd533 d108_73, List.forall_mem_cons.mpr ⟨snd_aload_n d108_76 rfl, List.forall_mem_cons.mpr ⟨snd_iconst d108_77 (by decide +kernel), List.forall_mem_cons.mpr ⟨snd_putZ (by decide) (by decide) rfl rfl wd534 d108_78, List.forall_mem_cons.mpr ⟨snd_aload_n d108_81 rfl, List.forall_mem_cons.mpr ⟨snd_getR (by decide) (by decide) rfl wd535 d108_82, List.forall_mem_cons.mpr ⟨snd_callV (by decide) rfl cn7 ⟨by decide +kernel, by decide +kernel⟩ cm7 (List.forall_mem_cons.mpr ⟨wd809, cw7⟩) d108_85, List.forall_mem_cons.mpr ⟨snd_aload_n d108_88 rfl, List.forall_mem_cons.mpr ⟨snd_getR (by decide) (by decide) rfl wd536 d108_89, List.forall_mem_cons.mpr ⟨snd_iconst d108_92 (by decide +kernel), List.forall_mem_cons.mpr ⟨snd_putI (by decide) (by decide) rfl rfl wd514 d108_93, List.forall_mem_cons.mpr ⟨snd_aload_n d108_96 rfl, List.forall_mem_cons.mpr ⟨snd_aload_n d108_97 rfl, List.forall_mem_cons.mpr ⟨snd_getR (by decide) (by decide) rfl wd533 d108_98, List.forall_mem_cons.mpr ⟨snd_getR (by decide) (by decide) rfl wd364 d108_101, List.forall_mem_cons.mpr ⟨snd_getI (by decide) (by decide) rfl wd242 d108_104, List.forall_mem_cons.mpr ⟨snd_callV (by decide) rfl cn153 ⟨by decide +kernel, by decide +kernel⟩ cm153 (List.forall_mem_cons.mpr ⟨wd813, cw153⟩) d108_107, List.forall_mem_cons.mpr ⟨snd_iret rfl d108_110, fun _ h => by cases h⟩⟩⟩⟩⟩⟩⟩⟩⟩⟩⟩⟩⟩⟩⟩⟩⟩⟩⟩⟩⟩⟩⟩⟩⟩
theorem d109_0 : decode (mC M109) 0 = .ok (.aload_n 0, 1) := by decide +kernel
theorem d109_1 : decode (mC M109) 1 = .ok (.getfield 12, 3) := by decide +kernel
theorem d109_4 : decode (mC M109) 4 = .ok (.getfield 97, 3) := by decide +kernel
theorem d109_7 : decode (mC M109) 7 = .ok (.ireturn, 1) := by decide +kernel
theorem sc109_0 : ∀ q ∈ tc109_0, Snd xtb M109 q.1 q.2 := List.forall_mem_cons.mpr ⟨snd_aload_n d109_0 rfl, List.forall_mem_cons.mpr ⟨snd_getR (by decide) (by decide) rfl wd532 d109_1, List.forall_mem_cons.mpr ⟨snd_getI (by decide) (by decide) rfl wd384 d109_4, List.forall_mem_cons.mpr ⟨snd_iret rfl d109_7, fun _ h => by cases h⟩⟩⟩⟩
theorem d110_0 : decode (mC M110) 0 = .ok (.aload_n 0, 1) := by decide +kernel
theorem d110_1 : decode (mC M110) 1 = .ok (.getfield 100, 3) := by decide +kernel
theorem d110_4 : decode (mC M110) 4 = .ok (.iconst 4, 1) := by decide +kernel
theorem d110_5 : decode (mC M110) 5 = .ok (.if_icmp .ne 13, 3) := by decide +kernel
theorem d110_8 : decode (mC M110) 8 = .ok (.aload_n 0, 1) := by decide +kernel
theorem d110_9 : decode (mC M110) 9 = .ok (.getfield 12, 3) := by decide +kernel
theorem d110_12 : decode (mC M110) 12 = .ok (.getfield 103, 3) := by decide +kernel
theorem d110_15 : decode (mC M110) 15 = .ok (.goto 4, 3) := by decide +kernel
theorem d110_18 : decode (mC M110) 18 = .ok (.iconst (-1), 1) := by decide +kernel
theorem d110_19 : decode (mC M110) 19 = .ok (.ireturn, 1) := by decide +kernel
theorem sc110_0 : ∀ q ∈ tc110_0, Snd xtb M110 q.1 q.2 := List.forall_mem_cons.mpr ⟨snd_aload_n d110_0 rfl, List.forall_mem_cons.mpr ⟨snd_getI (by decide) (by decide) rfl wd538 d110_1, List.forall_mem_cons.mpr ⟨snd_iconst d110_4 (by decide +kernel), List.forall_mem_cons.mpr ⟨snd_cmp_ne d110_5 (by decide), List.forall_mem_cons.mpr ⟨snd_aload_n d110_8 rfl, List.forall_mem_cons.mpr ⟨snd_getR (by decide) (by decide) rfl wd532 d110_9, List.forall_mem_cons.mpr ⟨snd_getI (by decide) (by decide) rfl wd386 d110_12, List.forall_mem_cons.mpr ⟨snd_goto d110_15 (by decide), List.forall_mem_cons.mpr ⟨snd_iconst d110_18 (by decide +kernel), List.forall_mem_cons.mpr ⟨snd_iret rfl d110_19, fun _ h => by cases h⟩⟩⟩⟩⟩⟩⟩⟩⟩⟩
theorem d111_0 : decode (mC M111) 0 = .ok (.aload_n 0, 1) := by decide +kernel
theorem d111_1 : decode (mC M111) 1 = .ok (.getfield 75, 3) := by decide +kernel
theorem d111_4 : decode (mC M111) 4 = .ok (.ifCond .eq 13, 3) := by decide +kernel
theorem d111_7 : decode (mC M111) 7 = .ok (.iload_n 1, 1) := by decide +kernel
theorem d111_8 : decode (mC M111) 8 = .ok (.iconst 0, 1) := by decide +kernel
theorem d111_9 : decode (mC M111) 9 = .ok (.bipush 8, 2) := by decide +kernel
theorem d111_11 : decode (mC M111) 11 = .ok (.invokestatic 60, 3) := by decide +kernel
theorem d111_14 : decode (mC M111) 14 = .ok (.ifCond .ne 9, 3) := by decide +kernel
theorem d111_17 : decode (mC M111) 17 = .ok (.aload_n 0, 1) := by decide +kernel
theorem d111_18 : decode (mC M111) 18 = .ok (.iconst 1, 1) := by decide +kernel
theorem d111_19 : decode (mC M111) 19 = .ok (.invokevirtual 64, 3) := by decide +kernel
theorem d111_22 : decode (mC M111) 22 = .ok (.ireturn, 1) := by decide +kernel
theorem d111_23 : decode (mC M111) 23 = .ok (.aload_n 0, 1) := by decide +kernel
theorem d111_24 : decode (mC M111) 24 = .ok (.iload_n 1, 1) := by decide +kernel
theorem d111_25 : decode (mC M111) 25 = .ok (.bipush 8, 2) := by decide +kernel
theorem d111_27 : decode (mC M111) 27 = .ok (.if_icmp .ne 13, 3) := by decide +kernel
theorem d111_30 : decode (mC M111) 30 = .ok (.aload_n 0, 1) := by decide +kernel
theorem d111_31 : decode (mC M111) 31 = .ok (.getfield 28, 3) := by decide +kernel
theorem d111_34 : decode (mC M111) 34 = .ok (.getfield 106, 3) := by decide +kernel
theorem d111_37 : decode (mC M111) 37 = .ok (.goto 11, 3) := by decide +kernel
theorem d111_40 : decode (mC M111) 40 = .ok (.aload_n 0, 1) := by decide +kernel
theorem d111_41 : decode (mC M111) 41 = .ok (.getfield 21, 3) := by decide +kernel
theorem d111_44 : decode (mC M111) 44 = .ok (.iload_n 1, 1) := by decide +kernel
theorem d111_45 : decode (mC M111) 45 = .ok (.invokevirtual 107, 3) := by decide +kernel
theorem d111_48 : decode (mC M111) 48 = .ok (.invokevirtual 94, 3) := by decide +kernel
theorem d111_51 : decode (mC M111) 51 = .ok (.ireturn, 1) := by decide +kernel
theorem sc111_0 : ∀ q ∈ tc111_0, Snd xtb M111 q.1 q.2 := List.forall_mem_cons.mpr ⟨snd_aload_n d111_0 rfl, List.forall_mem_cons.mpr ⟨snd_getI (by decide) (by decide) rfl wd534 d111_1, List.forall_mem_cons.mpr ⟨snd_if_eq d111_4 (by decide), List.forall_mem_cons.mpr ⟨snd_iload_n d111_7 rfl, List.forall_mem_cons.mpr ⟨snd_iconst d111_8 (by decide +kernel), List.forall_mem_cons.mpr ⟨snd_bipush d111_9 (by decide +kernel), List.forall_mem_cons.mpr ⟨snd_callS cn164 ⟨by decide +kernel, by decide +kernel⟩ cm164 (List.forall_mem_cons.mpr ⟨wd566, cw164⟩) d111_11, List.forall_mem_cons.mpr ⟨snd_if_ne d111_14 (by decide), List.forall_mem_cons.mpr ⟨snd_aload_n d111_17 rfl, List.forall_mem_cons.mpr ⟨snd_iconst d111_18 (by decide +kernel), List.forall_mem_cons.mpr ⟨snd_callV (by decide) rfl cn154 ⟨by decide +kernel, by decide +kernel⟩ cm154 (List.forall_mem_cons.mpr ⟨wd569, cw154⟩) d111_19, List.forall_mem_cons.mpr ⟨snd_iret rfl d111_22, List.forall_mem_cons.mpr ⟨snd_aload_n d111_23 rfl, List.forall_mem_cons.mpr ⟨snd_iload_n d111_24 rfl, List.forall_mem_cons.mpr ⟨snd_bipush d111_25 (by decide +kernel), List.forall_mem_cons.mpr ⟨snd_cmp_ne d111_27 (by decide), List.forall_mem_cons.mpr ⟨snd_aload_n d111_30 rfl, List.forall_mem_cons.mpr ⟨snd_getR (by decide) (by decide) rfl wd535 d111_31, List.forall_mem_cons.mpr ⟨snd_getI (by decide) (by decide) rfl wd477 d111_34, List.forall_mem_cons.mpr ⟨snd_goto d111_37 (by decide), List.forall_mem_cons.mpr ⟨snd_aload_n d111_40 rfl, List.forall_mem_cons.mpr ⟨snd_getR (by decide) (by decide) rfl wd533 d111_41, List.forall_mem_cons.mpr ⟨snd_iload_n d111_44 rfl, List.forall_mem_cons.mpr ⟨snd_callV (by decide) rfl cn36 ⟨by decide +kernel, by decide +kernel⟩ cm36 (List.forall_mem_cons.mpr ⟨wd829, cw36⟩) d111_45, List.forall_mem_cons.mpr ⟨snd_callV (by decide) rfl cn153 ⟨by decide +kernel, by decide +kernel⟩ cm153 (List.forall_mem_cons.mpr ⟨wd813, cw153⟩) d111_48, List.forall_mem_cons.mpr ⟨snd_iret rfl d111_51, fun _ h => by cases h⟩⟩⟩⟩⟩⟩⟩⟩⟩⟩⟩⟩⟩⟩⟩⟩⟩⟩⟩⟩⟩⟩⟩⟩⟩⟩
theorem d112_0 : decode (mC M112) 0 = .ok (.aload_n 0, 1) := by decide +kernel
theorem d112_1 : decode (mC M112) 1 = .ok (.iload_n 1, 1) := by decide +kernel
theorem d112_2 : decode (mC M112) 2 = .ok (.invokevirtual 110, 3) := by decide +kernel
theorem d112_5 : decode (mC M112) 5 = .ok (.ifCond .eq 22, 3) := by decide +kernel
theorem d112_8 : decode (mC M112) 8 = .ok (.aload_n 0, 1) := by decide +kernel
theorem d112_9 : decode (mC M112) 9 = .ok (.aload_n 0, 1) := by decide +kernel
theorem d112_10 : decode (mC M112) 10 = .ok (.getfield 21, 3) := by decide +kernel
theorem d112_13 : decode (mC M112) 13 = .ok (.getfield 113, 3) := by decide +kernel
theorem d112_16 : decode (mC M112) 16 = .ok (.getfield 117, 3) := by decide +kernel
theorem d112_19 : decode (mC M112) 19 = .ok (.iload_n 1, 1) := by decide +kernel
theorem d112_20 : decode (mC M112) 20 = .ok (.iaload, 1) := by decide +kernel
theorem d112_21 : decode (mC M112) 21 = .ok (.invokevirtual 94, 3) := by decide +kernel
theorem d112_24 : decode (mC M112) 24 = .ok (.goto 8, 3) := by decide +kernel
theorem d112_27 : decode (mC M112) 27 = .ok (.aload_n 0, 1) := by decide +kernel
theorem d112_28 : decode (mC M112) 28 = .ok (.iconst 1, 1) := by decide +kernel
theorem d112_29 : decode (mC M112) 29 = .ok (.invokevirtual 64, 3) := by decide +kernel
theorem d112_32 : decode (mC M112) 32 = .ok (.ireturn, 1) := by decide +kernel
theorem sc112_0 : ∀ q ∈ tc112_0, Snd xtb M112 q.1 q.2 := List.forall_mem_cons.mpr ⟨snd_aload_n d112_0 rfl, List.forall_mem_cons.mpr ⟨snd_iload_n d112_1 rfl, List.forall_mem_cons.mpr ⟨snd_callV (by decide) rfl cn158 ⟨by decide +kernel, by decide +kernel⟩ cm158 (List.forall_mem_cons.mpr ⟨wd837, cw158⟩) d112_2, List.forall_mem_cons.mpr ⟨snd_if_eq d112_5 (by decide), List.forall_mem_cons.mpr ⟨snd_aload_n d112_8 rfl, List.forall_mem_cons.mpr ⟨snd_aload_n d112_9 rfl, List.forall_mem_cons.mpr ⟨snd_getR (by decide) (by decide) rfl wd533 d112_10, List.forall_mem_cons.mpr ⟨snd_getR (by decide) (by decide) rfl wd367 d112_13, List.forall_mem_cons.mpr ⟨snd_getR (by decide) (by decide) rfl wd316 d112_16, List.forall_mem_cons.mpr ⟨snd_iload_n d112_19 rfl, List.forall_mem_cons.mpr ⟨snd_iald d112_20, List.forall_mem_cons.mpr ⟨snd_callV (by decide) rfl cn153 ⟨by decide +kernel, by decide +kernel⟩ cm153 (List.forall_mem_cons.mpr ⟨wd813, cw153⟩) d112_21, List.forall_mem_cons.mpr ⟨snd_goto d112_24 (by decide), List.forall_mem_cons.mpr ⟨snd_aload_n d112_27 rfl, List.forall_mem_cons.mpr ⟨snd_iconst d112_28 (by decide +kernel), List.forall_mem_cons.mpr ⟨snd_callV (by decide) rfl cn154 ⟨by decide +kernel, by decide +kernel⟩ cm154 (List.forall_mem_cons.mpr ⟨wd569, cw154⟩) d112_29, List.forall_mem_cons.mpr ⟨snd_iret rfl d112_32, fun _ h => by cases h⟩⟩⟩⟩⟩⟩⟩⟩⟩⟩⟩⟩⟩⟩⟩⟩⟩
theorem d113_0 : decode (mC M113) 0 = .ok (.aload_n 0, 1) := by decide +kernel
theorem d113_1 : decode (mC M113) 1 = .ok (.iload_n 1, 1) := by decide +kernel
theorem d113_2 : decode (mC M113) 2 = .ok (.invokevirtual 123, 3) := by decide +kernel
theorem d113_5 : decode (mC M113) 5 = .ok (.ifCond .eq 12, 3) := by decide +kernel
theorem d113_8 : decode (mC M113) 8 = .ok (.iload_n 2, 1) := by decide +kernel
theorem d113_9 : decode (mC M113) 9 = .ok (.iconst 0, 1) := by decide +kernel
theorem d113_10 : decode (mC M113) 10 = .ok (.iconst 2, 1) := by decide +kernel
theorem d113_11 : decode (mC M113) 11 = .ok (.invokestatic 60, 3) := by decide +kernel
theorem d113_14 : decode (mC M113) 14 = .ok (.ifCond .ne 9, 3) := by decide +kernel
theorem d113_17 : decode (mC M113) 17 = .ok (.aload_n 0, 1) := by decide +kernel
theorem d113_18 : decode (mC M113) 18 = .ok (.iconst 1, 1) := by decide +kernel
theorem d113_19 : decode (mC M113) 19 = .ok (.invokevirtual 64, 3) := by decide +kernel
theorem d113_22 : decode (mC M113) 22 = .ok (.ireturn, 1) := by decide +kernel
theorem d113_23 : decode (mC M113) 23 = .ok (.aload_n 0, 1) := by decide +kernel
theorem d113_24 : decode (mC M113) 24 = .ok (.getfield 21, 3) := by decide +kernel
theorem d113_27 : decode (mC M113) 27 = .ok (.getfield 85, 3) := by decide +kernel
theorem d113_30 : decode (mC M113) 30 = .ok (.astore_n 3, 1) := by decide +kernel
theorem d113_31 : decode (mC M113) 31 = .ok (.iload_n 2, 1) := by decide +kernel
theorem d113_32 : decode (mC M113) 32 = .ok (.iconst 2, 1) := by decide +kernel
theorem d113_33 : decode (mC M113) 33 = .ok (.if_icmp .ne 16, 3) := by decide +kernel
theorem d113_36 : decode (mC M113) 36 = .ok (.aload_n 0, 1) := by decide +kernel
theorem d113_37 : decode (mC M113) 37 = .ok (.aload_n 3, 1) := by decide +kernel
theorem d113_38 : decode (mC M113) 38 = .ok (.getfield 126, 3) := by decide +kernel
theorem d113_41 : decode (mC M113) 41 = .ok (.iload_n 1, 1) := by decide +kernel
theorem d113_42 : decode (mC M113) 42 = .ok (.invokevirtual 130, 3) := by decide +kernel
theorem d113_45 : decode (mC M113) 45 = .ok (.invokevirtual 94, 3) := by decide +kernel
theorem d113_48 : decode (mC M113) 48 = .ok (.ireturn, 1) := by decide +kernel
theorem d113_49 : decode (mC M113) 49 = .ok (.aload_n 0, 1) := by decide +kernel
theorem d113_50 : decode (mC M113) 50 = .ok (.iload_n 2, 1) := by decide +kernel
theorem d113_51 : decode (mC M113) 51 = .ok (.ifCond .ne 12, 3) := by decide +kernel
theorem d113_54 : decode (mC M113) 54 = .ok (.aload_n 3, 1) := by decide +kernel
theorem d113_55 : decode (mC M113) 55 = .ok (.getfield 135, 3) := by decide +kernel
theorem d113_58 : decode (mC M113) 58 = .ok (.iload_n 1, 1) := by decide +kernel
theorem d113_59 : decode (mC M113) 59 = .ok (.iaload, 1) := by decide +kernel
theorem d113_60 : decode (mC M113) 60 = .ok (.goto 12, 3) := by decide +kernel
theorem d113_63 : decode (mC M113) 63 = .ok (.aload_n 3, 1) := by decide +kernel
theorem d113_64 : decode (mC M113) 64 = .ok (.getfield 138, 3) := by decide +kernel
theorem d113_67 : decode (mC M113) 67 = .ok (.iload_n 1, 1) := by decide +kernel
theorem d113_68 : decode (mC M113) 68 = .ok (.baload, 1) := by decide +kernel
theorem d113_69 : decode (mC M113) 69 = .ok (.invokestatic 142, 3) := by decide +kernel
theorem d113_72 : decode (mC M113) 72 = .ok (.invokevirtual 94, 3) := by decide +kernel
theorem d113_75 : decode (mC M113) 75 = .ok (.ireturn, 1) := by decide +kernel
theorem sc113_0 : ∀ q ∈ tc113_0, Snd xtb M113 q.1 q.2 := List.forall_mem_cons.mpr ⟨snd_aload_n d113_0 rfl, List.forall_mem_cons.mpr ⟨snd_iload_n d113_1 rfl, List.forall_mem_cons.mpr ⟨snd_callV (by decide) rfl cn156 ⟨by decide +kernel, by decide +kernel⟩ cm156 (List.forall_mem_cons.mpr ⟨wd845, cw156⟩) d113_2, List.forall_mem_cons.mpr ⟨snd_if_eq d113_5 (by decide), List.forall_mem_cons.mpr ⟨snd_iload_n d113_8 rfl, List.forall_mem_cons.mpr ⟨snd_iconst d113_9 (by decide +kernel), List.forall_mem_cons.mpr ⟨snd_iconst d113_10 (by decide +kernel), List.forall_mem_cons.mpr ⟨snd_callS cn164 ⟨by decide +kernel, by decide +kernel⟩ cm164 (List.forall_mem_cons.mpr ⟨wd566, cw164⟩) d113_11, List.forall_mem_cons.mpr ⟨snd_if_ne d113_14 (by decide), List.forall_mem_cons.mpr ⟨snd_aload_n d113_17 rfl, List.forall_mem_cons.mpr ⟨snd_iconst d113_18 (by decide +kernel), List.forall_mem_cons.mpr ⟨snd_callV (by decide) rfl cn154 ⟨by decide +kernel, by decide +kernel⟩ cm154 (List.forall_mem_cons.mpr ⟨wd569, cw154⟩) d113_19, List.forall_mem_cons.mpr ⟨snd_iret rfl d113_22, List.forall_mem_cons.mpr ⟨snd_aload_n d113_23 rfl, List.forall_mem_cons.mpr ⟨snd_getR (by decide) (by decide) rfl wd533 d113_24, List.forall_mem_cons.mpr ⟨snd_getR (by decide) (by decide) rfl wd364 d113_27, List.forall_mem_cons.mpr ⟨snd_astore_n d113_30 rfl, List.forall_mem_cons.mpr ⟨snd_iload_n d113_31 rfl, List.forall_mem_cons.mpr ⟨snd_iconst d113_32 (by decide +kernel), List.forall_mem_cons.mpr ⟨snd_cmp_ne d113_33 (by decide), List.forall_mem_cons.mpr ⟨snd_aload_n d113_36 rfl, List.forall_mem_cons.mpr ⟨snd_aload_n d113_37 rfl, List.forall_mem_cons.mpr ⟨snd_getR (by decide) (by decide) rfl wd250 d113_38, List.forall_mem_cons.mpr ⟨snd_iload_n d113_41 rfl, List.forall_mem_cons.mpr ⟨snd_callV (by decide) rfl cn21 ⟨by decide +kernel, by decide +kernel⟩ cm21 (List.forall_mem_cons.mpr ⟨wd849, cw21⟩) d113_42, List.forall_mem_cons.mpr ⟨snd_callV (by decide) rfl cn153 ⟨by decide +kernel, by decide +kernel⟩ cm153 (List.forall_mem_cons.mpr ⟨wd813, cw153⟩) d113_45, List.forall_mem_cons.mpr ⟨snd_iret rfl d113_48, List.forall_mem_cons.mpr ⟨snd_aload_n d113_49 rfl, List.forall_mem_cons.mpr ⟨snd_iload_n d113_50 rfl, List.forall_mem_cons.mpr ⟨snd_if_ne d113_51 (by decide), fun _ h => by cases h⟩⟩⟩⟩⟩⟩⟩⟩⟩⟩⟩⟩⟩⟩⟩⟩⟩⟩⟩⟩⟩⟩⟩⟩⟩⟩⟩⟩⟩⟩
theorem sc113_1 : ∀ q ∈ tc113_1, Snd xtb M113 q.1 q.2 := List.forall_mem_cons.mpr ⟨snd_aload_n d113_54 rfl, List.forall_mem_cons.mpr ⟨snd_getR (by decide) (by decide) rfl wd244 d113_55, List.forall_mem_cons.mpr ⟨snd_iload_n d113_58 rfl, List.forall_mem_cons.mpr ⟨snd_iald d113_59, List.forall_mem_cons.mpr ⟨snd_goto d113_60 (by decide), List.forall_mem_cons.mpr ⟨snd_aload_n d113_63 rfl, List.forall_mem_cons.mpr ⟨snd_getR (by decide) (by decide) rfl wd246 d113_64, List.forall_mem_cons.mpr ⟨snd_iload_n d113_67 rfl, List.forall_mem_cons.mpr ⟨snd_zald d113_68, List.forall_mem_cons.mpr ⟨snd_callS cn165 ⟨by decide +kernel, by decide +kernel⟩ cm165 (List.forall_mem_cons.mpr ⟨wd856, cw165⟩) d113_69, List.forall_mem_cons.mpr ⟨snd_callV (by decide) rfl cn153 ⟨by decide +kernel, by decide +kernel⟩ cm153 (List.forall_mem_cons.mpr ⟨wd813, cw153⟩) d113_72, List.forall_mem_cons.mpr ⟨snd_iret rfl d113_75, fun _ h => by cases h⟩⟩⟩⟩⟩⟩⟩⟩⟩⟩⟩⟩
theorem d114_0 : decode (mC M114) 0 = .ok (.aload_n 0, 1) := by decide +kernel
theorem d114_1 : decode (mC M114) 1 = .ok (.iload_n 1, 1) := by decide +kernel
theorem d114_2 : decode (mC M114) 2 = .ok (.invokevirtual 123, 3) := by decide +kernel
theorem d114_5 : decode (mC M114) 5 = .ok (.ifCond .ne 9, 3) := by decide +kernel
theorem d114_8 : decode (mC M114) 8 = .ok (.aload_n 0, 1) := by decide +kernel
theorem d114_9 : decode (mC M114) 9 = .ok (.iconst 1, 1) := by decide +kernel
theorem d114_10 : decode (mC M114) 10 = .ok (.invokevirtual 64, 3) := by decide +kernel
theorem d114_13 : decode (mC M114) 13 = .ok (.ireturn, 1) := by decide +kernel
theorem d114_14 : decode (mC M114) 14 = .ok (.iload_n 2, 1) := by decide +kernel
theorem d114_15 : decode (mC M114) 15 = .ok (.invokestatic 146, 3) := by decide +kernel
theorem d114_18 : decode (mC M114) 18 = .ok (.ifCond .ne 9, 3) := by decide +kernel
theorem d114_21 : decode (mC M114) 21 = .ok (.aload_n 0, 1) := by decide +kernel
theorem d114_22 : decode (mC M114) 22 = .ok (.iconst 2, 1) := by decide +kernel
theorem d114_23 : decode (mC M114) 23 = .ok (.invokevirtual 64, 3) := by decide +kernel
theorem d114_26 : decode (mC M114) 26 = .ok (.ireturn, 1) := by decide +kernel
theorem d114_27 : decode (mC M114) 27 = .ok (.aload_n 0, 1) := by decide +kernel
theorem d114_28 : decode (mC M114) 28 = .ok (.aload_n 0, 1) := by decide +kernel
theorem d114_29 : decode (mC M114) 29 = .ok (.getfield 21, 3) := by decide +kernel
theorem d114_32 : decode (mC M114) 32 = .ok (.getfield 85, 3) := by decide +kernel
theorem d114_35 : decode (mC M114) 35 = .ok (.getfield 126, 3) := by decide +kernel
theorem d114_38 : decode (mC M114) 38 = .ok (.iload_n 1, 1) := by decide +kernel
theorem d114_39 : decode (mC M114) 39 = .ok (.iload_n 2, 1) := by decide +kernel
theorem d114_40 : decode (mC M114) 40 = .ok (.invokevirtual 149, 3) := by decide +kernel
theorem d114_43 : decode (mC M114) 43 = .ok (.invokevirtual 94, 3) := by decide +kernel
theorem d114_46 : decode (mC M114) 46 = .ok (.ireturn, 1) := by decide +kernel
theorem sc114_0 : ∀ q ∈ tc114_0, Snd xtb M114 q.1 q.2 := List.forall_mem_cons.mpr ⟨snd_aload_n d114_0 rfl, List.forall_mem_cons.mpr ⟨snd_iload_n d114_1 rfl, List.forall_mem_cons.mpr ⟨snd_callV (by decide) rfl cn156 ⟨by decide +kernel, by decide +kernel⟩ cm156 (List.forall_mem_cons.mpr ⟨wd845, cw156⟩) d114_2, List.forall_mem_cons.mpr ⟨snd_if_ne d114_5 (by decide), List.forall_mem_cons.mpr ⟨snd_aload_n d114_8 rfl, List.forall_mem_cons.mpr ⟨snd_iconst d114_9 (by decide +kernel), List.forall_mem_cons.mpr ⟨snd_callV (by decide) rfl cn154 ⟨by decide +kernel, by decide +kernel⟩ cm154 (List.forall_mem_cons.mpr ⟨wd569, cw154⟩) d114_10, List.forall_mem_cons.mpr ⟨snd_iret rfl d114_13, List.forall_mem_cons.mpr ⟨snd_iload_n d114_14 rfl, List.forall_mem_cons.mpr ⟨snd_callS cn163 ⟨by decide +kernel, by decide +kernel⟩ cm163 (List.forall_mem_cons.mpr ⟨wd861, cw163⟩) d114_15, List.forall_mem_cons.mpr ⟨snd_if_ne d114_18 (by decide), List.forall_mem_cons.mpr ⟨snd_aload_n d114_21 rfl, List.forall_mem_cons.mpr ⟨snd_iconst d114_22 (by decide +kernel), List.forall_mem_cons.mpr ⟨snd_callV (by decide) rfl cn154 ⟨by decide +kernel, by decide +kernel⟩ cm154 (List.forall_mem_cons.mpr ⟨wd569, cw154⟩) d114_23, List.forall_mem_cons.mpr ⟨snd_iret rfl d114_26, List.forall_mem_cons.mpr ⟨snd_aload_n d114_27 rfl, List.forall_mem_cons.mpr ⟨snd_aload_n d114_28 rfl, List.forall_mem_cons.mpr ⟨snd_getR (by decide) (by decide) rfl wd533 d114_29, List.forall_mem_cons.mpr ⟨snd_getR (by decide) (by decide) rfl wd364 d114_32, List.forall_mem_cons.mpr ⟨snd_getR (by decide) (by decide) rfl wd250 d114_35, List.forall_mem_cons.mpr ⟨snd_iload_n d114_38 rfl, List.forall_mem_cons.mpr ⟨snd_iload_n d114_39 rfl, List.forall_mem_cons.mpr ⟨snd_callV (by decide) rfl cn22 ⟨by decide +kernel, by decide +kernel⟩ cm22 (List.forall_mem_cons.mpr ⟨wd864, cw22⟩) d114_40, List.forall_mem_cons.mpr ⟨snd_callV (by decide) rfl cn153 ⟨by decide +kernel, by decide +kernel⟩ cm153 (List.forall_mem_cons.mpr ⟨wd813, cw153⟩) d114_43, List.forall_mem_cons.mpr ⟨snd_iret rfl d114_46, fun _ h => by cases h⟩⟩⟩⟩⟩⟩⟩⟩⟩⟩⟩⟩⟩⟩⟩⟩⟩⟩⟩⟩⟩⟩⟩⟩⟩
theorem d115_0 : decode (mC M115) 0 = .ok (.aload_n 0, 1) := by decide +kernel
theorem d115_1 : decode (mC M115) 1 = .ok (.iload_n 1, 1) := by decide +kernel
theorem d115_2 : decode (mC M115) 2 = .ok (.invokevirtual 123, 3) := by decide +kernel
theorem d115_5 : decode (mC M115) 5 = .ok (.ifCond .eq 13, 3) := by decide +kernel
theorem d115_8 : decode (mC M115) 8 = .ok (.iload 4, 2) := by decide +kernel
theorem d115_10 : decode (mC M115) 10 = .ok (.iconst 0, 1) := by decide +kernel
theorem d115_11 : decode (mC M115) 11 = .ok (.iconst 1, 1) := by decide +kernel
theorem d115_12 : decode (mC M115) 12 = .ok (.invokestatic 60, 3) := by decide +kernel
theorem d115_15 : decode (mC M115) 15 = .ok (.ifCond .ne 9, 3) := by decide +kernel
theorem d115_18 : decode (mC M115) 18 = .ok (.aload_n 0, 1) := by decide +kernel
theorem d115_19 : decode (mC M115) 19 = .ok (.iconst 1, 1) := by decide +kernel
theorem d115_20 : decode (mC M115) 20 = .ok (.invokevirtual 64, 3) := by decide +kernel
theorem d115_23 : decode (mC M115) 23 = .ok (.ireturn, 1) := by decide +kernel
theorem d115_24 : decode (mC M115) 24 = .ok (.iload_n 2, 1) := by decide +kernel
theorem d115_25 : decode (mC M115) 25 = .ok (.invokestatic 146, 3) := by decide +kernel
theorem d115_28 : decode (mC M115) 28 = .ok (.ifCond .ne 9, 3) := by decide +kernel
theorem d115_31 : decode (mC M115) 31 = .ok (.aload_n 0, 1) := by decide +kernel
theorem d115_32 : decode (mC M115) 32 = .ok (.iconst 2, 1) := by decide +kernel
theorem d115_33 : decode (mC M115) 33 = .ok (.invokevirtual 64, 3) := by decide +kernel
theorem d115_36 : decode (mC M115) 36 = .ok (.ireturn, 1) := by decide +kernel
theorem d115_37 : decode (mC M115) 37 = .ok (.aload_n 0, 1) := by decide +kernel
theorem d115_38 : decode (mC M115) 38 = .ok (.getfield 21, 3) := by decide +kernel
theorem d115_41 : decode (mC M115) 41 = .ok (.getfield 85, 3) := by decide +kernel
theorem d115_44 : decode (mC M115) 44 = .ok (.getfield 126, 3) := by decide +kernel
theorem d115_47 : decode (mC M115) 47 = .ok (.astore 5, 2) := by decide +kernel
theorem d115_49 : decode (mC M115) 49 = .ok (.aload 5, 2) := by decide +kernel
theorem d115_51 : decode (mC M115) 51 = .ok (.iload_n 1, 1) := by decide +kernel
theorem d115_52 : decode (mC M115) 52 = .ok (.iload_n 2, 1) := by decide +kernel
theorem d115_53 : decode (mC M115) 53 = .ok (.invokevirtual 153, 3) := by decide +kernel
theorem d115_56 : decode (mC M115) 56 = .ok (.istore 6, 2) := by decide +kernel
theorem d115_58 : decode (mC M115) 58 = .ok (.iload 6, 2) := by decide +kernel
theorem d115_60 : decode (mC M115) 60 = .ok (.ifCond .lt 21, 3) := by decide +kernel
theorem d115_63 : decode (mC M115) 63 = .ok (.iload_n 3, 1) := by decide +kernel
theorem d115_64 : decode (mC M115) 64 = .ok (.iconst 0, 1) := by decide +kernel
theorem d115_65 : decode (mC M115) 65 = .ok (.aload 5, 2) := by decide +kernel
theorem d115_67 : decode (mC M115) 67 = .ok (.getfield 156, 3) := by decide +kernel
theorem d115_70 : decode (mC M115) 70 = .ok (.iload 6, 2) := by decide +kernel
theorem d115_72 : decode (mC M115) 72 = .ok (.iaload, 1) := by decide +kernel
theorem d115_73 : decode (mC M115) 73 = .ok (.iconst 1, 1) := by decide +kernel
theorem d115_74 : decode (mC M115) 74 = .ok (.isub, 1) := by decide +kernel
theorem d115_75 : decode (mC M115) 75 = .ok (.invokestatic 60, 3) := by decide +kernel
theorem d115_78 : decode (mC M115) 78 = .ok (.ifCond .ne 9, 3) := by decide +kernel
theorem d115_81 : decode (mC M115) 81 = .ok (.aload_n 0, 1) := by decide +kernel
theorem d115_82 : decode (mC M115) 82 = .ok (.iconst 1, 1) := by decide +kernel
theorem d115_83 : decode (mC M115) 83 = .ok (.invokevirtual 64, 3) := by decide +kernel
theorem d115_86 : decode (mC M115) 86 = .ok (.ireturn, 1) := by decide +kernel
theorem d115_87 : decode (mC M115) 87 = .ok (.iload 6, 2) := by decide +kernel
theorem d115_89 : decode (mC M115) 89 = .ok (.bipush 6, 2) := by decide +kernel
theorem d115_91 : decode (mC M115) 91 = .ok (.imul, 1) := by decide +kernel
theorem d115_92 : decode (mC M115) 92 = .ok (.iload_n 3, 1) := by decide +kernel
theorem d115_93 : decode (mC M115) 93 = .ok (.iadd, 1) := by decide +kernel
theorem d115_94 : decode (mC M115) 94 = .ok (.istore 7, 2) := by decide +kernel
theorem d115_96 : decode (mC M115) 96 = .ok (.aload_n 0, 1) := by decide +kernel
theorem d115_97 : decode (mC M115) 97 = .ok (.iload 4, 2) := by decide +kernel
theorem d115_99 : decode (mC M115) 99 = .ok (.ifCond .ne 14, 3) := by decide +kernel
theorem d115_102 : decode (mC M115) 102 = .ok (.aload 5, 2) := by decide +kernel
theorem d115_104 : decode (mC M115) 104 = .ok (.getfield 159, 3) := by decide +kernel
theorem d115_107 : decode (mC M115) 107 = .ok (.iload 7, 2) := by decide +kernel
theorem d115_109 : decode (mC M115) 109 = .ok (.iaload, 1) := by decide +kernel
theorem d115_110 : decode (mC M115) 110 = .ok (.goto 11, 3) := by decide +kernel
theorem d115_113 : decode (mC M115) 113 = .ok (.aload 5, 2) := by decide +kernel
theorem d115_115 : decode (mC M115) 115 = .ok (.getfield 162, 3) := by decide +kernel
theorem d115_118 : decode (mC M115) 118 = .ok (.iload 7, 2) := by decide +kernel
theorem d115_120 : decode (mC M115) 120 = .ok (.iaload, 1) := by decide +kernel
theorem d115_121 : decode (mC M115) 121 = .ok (.invokevirtual 94, 3) := by decide +kernel
theorem d115_124 : decode (mC M115) 124 = .ok (.ireturn, 1) := by decide +kernel
theorem sc115_0 : ∀ q ∈ tc115_0, Snd xtb M115 q.1 q.2 := List.forall_mem_cons.mpr ⟨snd_aload_n d115_0 rfl, List.forall_mem_cons.mpr ⟨snd_iload_n d115_1 rfl, List.forall_mem_cons.mpr ⟨snd_callV (by decide) rfl cn156 ⟨by decide +kernel, by decide +kernel⟩ cm156 (List.forall_mem_cons.mpr ⟨wd845, cw156⟩) d115_2, List.forall_mem_cons.mpr ⟨snd_if_eq d115_5 (by decide), List.forall_mem_cons.mpr ⟨snd_iload d115_8, List.forall_mem_cons.mpr ⟨snd_iconst d115_10 (by decide +kernel), List.forall_mem_cons.mpr ⟨snd_iconst d115_11 (by decide +kernel), List.forall_mem_cons.mpr ⟨snd_callS cn164 ⟨by decide +kernel, by decide +kernel⟩ cm164 (List.forall_mem_cons.mpr ⟨wd566, cw164⟩) d115_12, List.forall_mem_cons.mpr ⟨snd_if_ne d115_15 (by decide), List.forall_mem_cons.mpr ⟨snd_aload_n d115_18 rfl, List.forall_mem_cons.mpr ⟨snd_iconst d115_19 (by decide +kernel), List.forall_mem_cons.mpr ⟨snd_callV (by decide) rfl cn154 ⟨by decide +kernel, by decide +kernel⟩ cm154 (List.forall_mem_cons.mpr ⟨wd569, cw154⟩) d115_20, List.forall_mem_cons.mpr ⟨snd_iret rfl d115_23, List.forall_mem_cons.mpr ⟨snd_iload_n d115_24 rfl, List.forall_mem_cons.mpr ⟨snd_callS cn163 ⟨by decide +kernel, by decide +kernel⟩ cm163 (List.forall_mem_cons.mpr ⟨wd861, cw163⟩) d115_25, List.forall_mem_cons.mpr ⟨snd_if_ne d115_28 (by decide), List.forall_mem_cons.mpr ⟨snd_aload_n d115_31 rfl, List.forall_mem_cons.mpr ⟨snd_iconst d115_32 (by decide +kernel), List.forall_mem_cons.mpr ⟨snd_callV (by decide) rfl cn154 ⟨by decide +kernel, by decide +kernel⟩ cm154 (List.forall_mem_cons.mpr ⟨wd569, cw154⟩) d115_33, List.forall_mem_cons.mpr ⟨snd_iret rfl d115_36, List.forall_mem_cons.mpr ⟨snd_aload_n d115_37 rfl, List.forall_mem_cons.mpr ⟨snd_getR (by decide) (by decide) rfl wd533 d115_38, List.forall_mem_cons.mpr ⟨snd_getR (by decide) (by decide) rfl wd364 d115_41, List.forall_mem_cons.mpr ⟨snd_getR (by decide) (by decide) rfl wd250 d115_44, List.forall_mem_cons.mpr ⟨snd_astore d115_47, List.forall_mem_cons.mpr ⟨snd_aload d115_49, List.forall_mem_cons.mpr ⟨snd_iload_n d115_51 rfl, List.forall_mem_cons.mpr ⟨snd_iload_n d115_52 rfl, List.forall_mem_cons.mpr ⟨snd_callV (by decide) rfl cn19 ⟨by decide +kernel, by decide +kernel⟩ cm19 (List.forall_mem_cons.mpr ⟨wd872, cw19⟩) d115_53, List.forall_mem_cons.mpr ⟨snd_istore d115_56, fun _ h => by cases h⟩⟩⟩⟩⟩⟩⟩⟩⟩⟩⟩⟩⟩⟩⟩⟩⟩⟩⟩⟩⟩⟩⟩⟩⟩⟩⟩⟩⟩⟩
theorem sc115_1 : ∀ q ∈ tc115_1, Snd xtb M115 q.1 q.2 := List.forall_mem_cons.mpr ⟨snd_iload d115_58, List.forall_mem_cons.mpr ⟨snd_if_lt d115_60 (by decide), List.forall_mem_cons.mpr ⟨snd_iload_n d115_63 rfl, List.forall_mem_cons.mpr ⟨snd_iconst d115_64 (by decide +kernel), List.forall_mem_cons.mpr ⟨snd_aload d115_65, List.forall_mem_cons.mpr ⟨snd_getR (by decide) (by decide) rfl wd210 d115_67, List.forall_mem_cons.mpr ⟨snd_iload d115_70, List.forall_mem_cons.mpr ⟨snd_iald d115_72, List.forall_mem_cons.mpr ⟨snd_iconst d115_73 (by decide +kernel), List.forall_mem_cons.mpr ⟨snd_isub d115_74, List.forall_mem_cons.mpr ⟨snd_callS cn164 ⟨by decide +kernel, by decide +kernel⟩ cm164 (List.forall_mem_cons.mpr ⟨wd566, cw164⟩) d115_75, List.forall_mem_cons.mpr ⟨snd_if_ne d115_78 (by decide), List.forall_mem_cons.mpr ⟨snd_aload_n d115_81 rfl, List.forall_mem_cons.mpr ⟨snd_iconst d115_82 (by decide +kernel), List.forall_mem_cons.mpr ⟨snd_callV (by decide) rfl cn154 ⟨by decide +kernel, by decide +kernel⟩ cm154 (List.forall_mem_cons.mpr ⟨wd569, cw154⟩) d115_83, List.forall_mem_cons.mpr ⟨snd_iret rfl d115_86, List.forall_mem_cons.mpr ⟨snd_iload d115_87, List.forall_mem_cons.mpr ⟨snd_bipush d115_89 (by decide +kernel), List.forall_mem_cons.mpr ⟨snd_imul d115_91, List.forall_mem_cons.mpr ⟨snd_iload_n d115_92 rfl, List.forall_mem_cons.mpr ⟨snd_iadd d115_93, List.forall_mem_cons.mpr ⟨snd_istore d115_94, List.forall_mem_cons.mpr ⟨snd_aload_n d115_96 rfl, List.forall_mem_cons.mpr ⟨snd_iload d115_97, List.forall_mem_cons.mpr ⟨snd_if_ne d115_99 (by decide), List.forall_mem_cons.mpr ⟨snd_aload d115_102, List.forall_mem_cons.mpr ⟨snd_getR (by decide) (by decide) rfl wd212 d115_104, List.forall_mem_cons.mpr ⟨snd_iload d115_107, List.forall_mem_cons.mpr ⟨snd_iald d115_109, List.forall_mem_cons.mpr ⟨snd_goto d115_110 (by decide), fun _ h => by cases h⟩⟩⟩⟩⟩⟩⟩⟩⟩⟩⟩⟩⟩⟩⟩⟩⟩⟩⟩⟩⟩⟩⟩⟩⟩⟩⟩⟩⟩⟩
theorem sc115_2 : ∀ q ∈ tc115_2, Snd xtb M115 q.1 q.2 := List.forall_mem_cons.mpr ⟨snd_aload d115_113, List.forall_mem_cons.mpr ⟨snd_getR (by decide) (by decide) rfl wd214 d115_115, List.forall_mem_cons.mpr ⟨snd_iload d115_118, List.forall_mem_cons.mpr ⟨snd_iald d115_120, List.forall_mem_cons.mpr ⟨snd_callV (by decide) rfl cn153 ⟨by decide +kernel, by decide +kernel⟩ cm153 (List.forall_mem_cons.mpr ⟨wd813, cw153⟩) d115_121, List.forall_mem_cons.mpr ⟨snd_iret rfl d115_124, fun _ h => by cases h⟩⟩⟩⟩⟩⟩
theorem d116_0 : decode (mC M116) 0 = .ok (.aload_n 0, 1) := by decide +kernel
theorem d116_1 : decode (mC M116) 1 = .ok (.iload_n 1, 1) := by decide +kernel
theorem d116_2 : decode (mC M116) 2 = .ok (.invokevirtual 123, 3) := by decide +kernel
theorem d116_5 : decode (mC M116) 5 = .ok (.ifCond .ne 9, 3) := by decide +kernel
theorem d116_8 : decode (mC M116) 8 = .ok (.aload_n 0, 1) := by decide +kernel
theorem d116_9 : decode (mC M116) 9 = .ok (.iconst 1, 1) := by decide +kernel
theorem d116_10 : decode (mC M116) 10 = .ok (.invokevirtual 165, 3) := by decide +kernel
theorem d116_13 : decode (mC M116) 13 = .ok (.ireturn, 1) := by decide +kernel
theorem d116_14 : decode (mC M116) 14 = .ok (.iload_n 2, 1) := by decide +kernel
theorem d116_15 : decode (mC M116) 15 = .ok (.invokestatic 146, 3) := by decide +kernel
theorem d116_18 : decode (mC M116) 18 = .ok (.ifCond .ne 9, 3) := by decide +kernel
theorem d116_21 : decode (mC M116) 21 = .ok (.aload_n 0, 1) := by decide +kernel
theorem d116_22 : decode (mC M116) 22 = .ok (.iconst 2, 1) := by decide +kernel
theorem d116_23 : decode (mC M116) 23 = .ok (.invokevirtual 165, 3) := by decide +kernel
theorem d116_26 : decode (mC M116) 26 = .ok (.ireturn, 1) := by decide +kernel
theorem d116_27 : decode (mC M116) 27 = .ok (.aload_n 0, 1) := by decide +kernel
theorem d116_28 : decode (mC M116) 28 = .ok (.getfield 21, 3) := by decide +kernel
theorem d116_31 : decode (mC M116) 31 = .ok (.getfield 85, 3) := by decide +kernel
theorem d116_34 : decode (mC M116) 34 = .ok (.getfield 126, 3) := by decide +kernel
theorem d116_37 : decode (mC M116) 37 = .ok (.astore_n 3, 1) := by decide +kernel
theorem d116_38 : decode (mC M116) 38 = .ok (.aload_n 3, 1) := by decide +kernel
theorem d116_39 : decode (mC M116) 39 = .ok (.iload_n 1, 1) := by decide +kernel
theorem d116_40 : decode (mC M116) 40 = .ok (.iload_n 2, 1) := by decide +kernel
theorem d116_41 : decode (mC M116) 41 = .ok (.invokevirtual 153, 3) := by decide +kernel
theorem d116_44 : decode (mC M116) 44 = .ok (.istore 4, 2) := by decide +kernel
theorem d116_46 : decode (mC M116) 46 = .ok (.aload_n 0, 1) := by decide +kernel
theorem d116_47 : decode (mC M116) 47 = .ok (.iload 4, 2) := by decide +kernel
theorem d116_49 : decode (mC M116) 49 = .ok (.ifCond .ge 7, 3) := by decide +kernel
theorem d116_52 : decode (mC M116) 52 = .ok (.iconst 0, 1) := by decide +kernel
theorem d116_53 : decode (mC M116) 53 = .ok (.goto 9, 3) := by decide +kernel
theorem d116_56 : decode (mC M116) 56 = .ok (.aload_n 3, 1) := by decide +kernel
theorem d116_57 : decode (mC M116) 57 = .ok (.iload 4, 2) := by decide +kernel
theorem d116_59 : decode (mC M116) 59 = .ok (.invokevirtual 168, 3) := by decide +kernel
theorem d116_62 : decode (mC M116) 62 = .ok (.invokevirtual 94, 3) := by decide +kernel
theorem d116_65 : decode (mC M116) 65 = .ok (.ireturn, 1) := by decide +kernel
theorem sc116_0 : ∀ q ∈ tc116_0, Snd xtb M116 q.1 q.2 := List.forall_mem_cons.mpr ⟨snd_aload_n d116_0 rfl, List.forall_mem_cons.mpr ⟨snd_iload_n d116_1 rfl, List.forall_mem_cons.mpr ⟨snd_callV (by decide) rfl cn156 ⟨by decide +kernel, by decide +kernel⟩ cm156 (List.forall_mem_cons.mpr ⟨wd845, cw156⟩) d116_2, List.forall_mem_cons.mpr ⟨snd_if_ne d116_5 (by decide), List.forall_mem_cons.mpr ⟨snd_aload_n d116_8 rfl, List.forall_mem_cons.mpr ⟨snd_iconst d116_9 (by decide +kernel), List.forall_mem_cons.mpr ⟨snd_callV (by decide) rfl cn155 ⟨by decide +kernel, by decide +kernel⟩ cm155 (List.forall_mem_cons.mpr ⟨wd877, cw155⟩) d116_10, List.forall_mem_cons.mpr ⟨snd_iret rfl d116_13, List.forall_mem_cons.mpr ⟨snd_iload_n d116_14 rfl, List.forall_mem_cons.mpr ⟨snd_callS cn163 ⟨by decide +kernel, by decide +kernel⟩ cm163 (List.forall_mem_cons.mpr ⟨wd861, cw163⟩) d116_15, List.forall_mem_cons.mpr ⟨snd_if_ne d116_18 (by decide), List.forall_mem_cons.mpr ⟨snd_aload_n d116_21 rfl, List.forall_mem_cons.mpr ⟨snd_iconst d116_22 (by decide +kernel), List.forall_mem_cons.mpr ⟨snd_callV (by decide) rfl cn155 ⟨by decide +kernel, by decide +kernel⟩ cm155 (List.forall_mem_cons.mpr ⟨wd877, cw155⟩) d116_23, List.forall_mem_cons.mpr ⟨snd_iret rfl d116_26, List.forall_mem_cons.mpr ⟨snd_aload_n d116_27 rfl, List.forall_mem_cons.mpr ⟨snd_getR (by decide) (by decide) rfl wd533 d116_28, List.forall_mem_cons.mpr ⟨snd_getR (by decide) (by decide) rfl wd364 d116_31, List.forall_mem_cons.mpr ⟨snd_getR (by decide) (by decide) rfl wd250 d116_34, List.forall_mem_cons.mpr ⟨snd_astore_n d116_37 rfl, List.forall_mem_cons.mpr ⟨snd_aload_n d116_38 rfl, List.forall_mem_cons.mpr ⟨snd_iload_n d116_39 rfl, List.forall_mem_cons.mpr ⟨snd_iload_n d116_40 rfl, List.forall_mem_cons.mpr ⟨snd_callV (by decide) rfl cn19 ⟨by decide +kernel, by decide +kernel⟩ cm19 (List.forall_mem_cons.mpr ⟨wd872, cw19⟩) d116_41, List.forall_mem_cons.mpr ⟨snd_istore d116_44, List.forall_mem_cons.mpr ⟨snd_aload_n d116_46 rfl, List.forall_mem_cons.mpr ⟨snd_iload d116_47, List.forall_mem_cons.mpr ⟨snd_if_ge d116_49 (by decide), List.forall_mem_cons.mpr ⟨snd_iconst d116_52 (by decide +kernel), List.forall_mem_cons.mpr ⟨snd_goto d116_53 (by decide), fun _ h => by cases h⟩⟩⟩⟩⟩⟩⟩⟩⟩⟩⟩⟩⟩⟩⟩⟩⟩⟩⟩⟩⟩⟩⟩⟩⟩⟩⟩⟩⟩⟩
theorem sc116_1 : ∀ q ∈ tc116_1, Snd xtb M116 q.1 q.2 := List.forall_mem_cons.mpr ⟨snd_aload_n d116_56 rfl, List.forall_mem_cons.mpr ⟨snd_iload d116_57, List.forall_mem_cons.mpr ⟨snd_callV (by decide) rfl cn25 ⟨by decide +kernel, by decide +kernel⟩ cm25 (List.forall_mem_cons.mpr ⟨wd882, cw25⟩) d116_59, List.forall_mem_cons.mpr ⟨snd_callV (by decide) rfl cn153 ⟨by decide +kernel, by decide +kernel⟩ cm153 (List.forall_mem_cons.mpr ⟨wd813, cw153⟩) d116_62, List.forall_mem_cons.mpr ⟨snd_iret rfl d116_65, fun _ h => by cases h⟩⟩⟩⟩⟩
theorem d117_0 : decode (mC M117) 0 = .ok (.aload_n 0, 1) := by decide +kernel
theorem d117_1 : decode (mC M117) 1 = .ok (.iload_n 1, 1) := by decide +kernel
theorem d117_2 : decode (mC M117) 2 = .ok (.invokevirtual 123, 3) := by decide +kernel
theorem d117_5 : decode (mC M117) 5 = .ok (.ifCond .ne 9, 3) := by decide +kernel
theorem d117_8 : decode (mC M117) 8 = .ok (.aload_n 0, 1) := by decide +kernel
theorem d117_9 : decode (mC M117) 9 = .ok (.iconst 1, 1) := by decide +kernel
theorem d117_10 : decode (mC M117) 10 = .ok (.invokevirtual 64, 3) := by decide +kernel
theorem d117_13 : decode (mC M117) 13 = .ok (.ireturn, 1) := by decide +kernel
theorem d117_14 : decode (mC M117) 14 = .ok (.iload_n 2, 1) := by decide +kernel
theorem d117_15 : decode (mC M117) 15 = .ok (.invokestatic 146, 3) := by decide +kernel
theorem d117_18 : decode (mC M117) 18 = .ok (.ifCond .eq 13, 3) := by decide +kernel
theorem d117_21 : decode (mC M117) 21 = .ok (.aload_n 0, 1) := by decide +kernel
theorem d117_22 : decode (mC M117) 22 = .ok (.iload_n 3, 1) := by decide +kernel
theorem d117_23 : decode (mC M117) 23 = .ok (.iload 4, 2) := by decide +kernel
theorem d117_25 : decode (mC M117) 25 = .ok (.invokevirtual 171, 3) := by decide +kernel
theorem d117_28 : decode (mC M117) 28 = .ok (.ifCond .ne 9, 3) := by decide +kernel
theorem d117_31 : decode (mC M117) 31 = .ok (.aload_n 0, 1) := by decide +kernel
theorem d117_32 : decode (mC M117) 32 = .ok (.iconst 2, 1) := by decide +kernel
theorem d117_33 : decode (mC M117) 33 = .ok (.invokevirtual 64, 3) := by decide +kernel
theorem d117_36 : decode (mC M117) 36 = .ok (.ireturn, 1) := by decide +kernel
theorem d117_37 : decode (mC M117) 37 = .ok (.aload_n 0, 1) := by decide +kernel
theorem d117_38 : decode (mC M117) 38 = .ok (.getfield 21, 3) := by decide +kernel
theorem d117_41 : decode (mC M117) 41 = .ok (.getfield 85, 3) := by decide +kernel
theorem d117_44 : decode (mC M117) 44 = .ok (.getfield 126, 3) := by decide +kernel
theorem d117_47 : decode (mC M117) 47 = .ok (.astore 5, 2) := by decide +kernel
theorem d117_49 : decode (mC M117) 49 = .ok (.aload_n 0, 1) := by decide +kernel
theorem d117_50 : decode (mC M117) 50 = .ok (.aload 5, 2) := by decide +kernel
theorem d117_52 : decode (mC M117) 52 = .ok (.aload 5, 2) := by decide +kernel
theorem d117_54 : decode (mC M117) 54 = .ok (.iload_n 1, 1) := by decide +kernel
theorem d117_55 : decode (mC M117) 55 = .ok (.iload_n 2, 1) := by decide +kernel
theorem d117_56 : decode (mC M117) 56 = .ok (.invokevirtual 153, 3) := by decide +kernel
theorem d117_59 : decode (mC M117) 59 = .ok (.iload_n 3, 1) := by decide +kernel
theorem d117_60 : decode (mC M117) 60 = .ok (.iload 4, 2) := by decide +kernel
theorem d117_62 : decode (mC M117) 62 = .ok (.invokevirtual 175, 3) := by decide +kernel
theorem d117_65 : decode (mC M117) 65 = .ok (.invokestatic 142, 3) := by decide +kernel
theorem d117_68 : decode (mC M117) 68 = .ok (.invokevirtual 94, 3) := by decide +kernel
theorem d117_71 : decode (mC M117) 71 = .ok (.ireturn, 1) := by decide +kernel
theorem sc117_0 : ∀ q ∈ tc117_0, Snd xtb M117 q.1 q.2 := List.forall_mem_cons.mpr ⟨snd_aload_n d117_0 rfl, List.forall_mem_cons.mpr ⟨snd_iload_n d117_1 rfl, List.forall_mem_cons.mpr ⟨snd_callV (by decide) rfl cn156 ⟨by decide +kernel, by decide +kernel⟩ cm156 (List.forall_mem_cons.mpr ⟨wd845, cw156⟩) d117_2, List.forall_mem_cons.mpr ⟨snd_if_ne d117_5 (by decide), List.forall_mem_cons.mpr ⟨snd_aload_n d117_8 rfl, List.forall_mem_cons.mpr ⟨snd_iconst d117_9 (by decide +kernel), List.forall_mem_cons.mpr ⟨snd_callV (by decide) rfl cn154 ⟨by decide +kernel, by decide +kernel⟩ cm154 (List.forall_mem_cons.mpr ⟨wd569, cw154⟩) d117_10, List.forall_mem_cons.mpr ⟨snd_iret rfl d117_13, List.forall_mem_cons.mpr ⟨snd_iload_n d117_14 rfl, List.forall_mem_cons.mpr ⟨snd_callS cn163 ⟨by decide +kernel, by decide +kernel⟩ cm163 (List.forall_mem_cons.mpr ⟨wd861, cw163⟩) d117_15, List.forall_mem_cons.mpr ⟨snd_if_eq d117_18 (by decide), List.forall_mem_cons.mpr ⟨snd_aload_n d117_21 rfl, List.forall_mem_cons.mpr ⟨snd_iload_n d117_22 rfl, List.forall_mem_cons.mpr ⟨snd_iload d117_23, List.forall_mem_cons.mpr ⟨snd_callV (by decide) rfl cn161 ⟨by decide +kernel, by decide +kernel⟩ cm161 (List.forall_mem_cons.mpr ⟨wd890, cw161⟩) d117_25, List.forall_mem_cons.mpr ⟨snd_if_ne d117_28 (by decide), List.forall_mem_cons.mpr ⟨snd_aload_n d117_31 rfl, List.forall_mem_cons.mpr ⟨snd_iconst d117_32 (by decide +kernel), List.forall_mem_cons.mpr ⟨snd_callV (by decide) rfl cn154 ⟨by decide +kernel, by decide +kernel⟩ cm154 (List.forall_mem_cons.mpr ⟨wd569, cw154⟩) d117_33, List.forall_mem_cons.mpr ⟨snd_iret rfl d117_36, List.forall_mem_cons.mpr ⟨snd_aload_n d117_37 rfl, List.forall_mem_cons.mpr ⟨snd_getR (by decide) (by decide) rfl wd533 d117_38, List.forall_mem_cons.mpr ⟨snd_getR (by decide) (by decide) rfl wd364 d117_41, List.forall_mem_cons.mpr ⟨snd_getR (by decide) (by decide) rfl wd250 d117_44, List.forall_mem_cons.mpr ⟨snd_astore d117_47, List.forall_mem_cons.mpr ⟨snd_aload_n d117_49 rfl, List.forall_mem_cons.mpr ⟨snd_aload d117_50, List.forall_mem_cons.mpr ⟨snd_aload d117_52, List.forall_mem_cons.mpr ⟨snd_iload_n d117_54 rfl, List.forall_mem_cons.mpr ⟨snd_iload_n d117_55 rfl, fun _ h => by cases h⟩⟩⟩⟩⟩⟩⟩⟩⟩⟩⟩⟩⟩⟩⟩⟩⟩⟩⟩⟩⟩⟩⟩⟩⟩⟩⟩⟩⟩⟩
theorem sc117_1 : ∀ q ∈ tc117_1, Snd xtb M117 q.1 q.2 := List.forall_mem_cons.mpr ⟨snd_callV (by decide) rfl cn19 ⟨by decide +kernel, by decide +kernel⟩ cm19 (List.forall_mem_cons.mpr ⟨wd872, cw19⟩) d117_56, List.forall_mem_cons.mpr ⟨snd_iload_n d117_59 rfl, List.forall_mem_cons.mpr ⟨snd_iload d117_60, List.forall_mem_cons.mpr ⟨snd_callV (by decide) rfl cn26 ⟨by decide +kernel, by decide +kernel⟩ cm26 (List.forall_mem_cons.mpr ⟨wd894, cw26⟩) d117_62, List.forall_mem_cons.mpr ⟨snd_callS cn165 ⟨by decide +kernel, by decide +kernel⟩ cm165 (List.forall_mem_cons.mpr ⟨wd856, cw165⟩) d117_65, List.forall_mem_cons.mpr ⟨snd_callV (by decide) rfl cn153 ⟨by decide +kernel, by decide +kernel⟩ cm153 (List.forall_mem_cons.mpr ⟨wd813, cw153⟩) d117_68, List.forall_mem_cons.mpr ⟨snd_iret rfl d117_71, fun _ h => by cases h⟩⟩⟩⟩⟩⟩⟩
theorem d118_0 : decode (mC M118) 0 = .ok (.aload_n 0, 1) := by decide +kernel
theorem d118_1 : decode (mC M118) 1 = .ok (.iload_n 1, 1) := by decide +kernel
theorem d118_2 : decode (mC M118) 2 = .ok (.invokevirtual 123, 3) := by decide +kernel
theorem d118_5 : decode (mC M118) 5 = .ok (.ifCond .ne 9, 3) := by decide +kernel
theorem d118_8 : decode (mC M118) 8 = .ok (.aload_n 0, 1) := by decide +kernel
theorem d118_9 : decode (mC M118) 9 = .ok (.iconst 1, 1) := by decide +kernel
theorem d118_10 : decode (mC M118) 10 = .ok (.invokevirtual 64, 3) := by decide +kernel
theorem d118_13 : decode (mC M118) 13 = .ok (.ireturn, 1) := by decide +kernel
theorem d118_14 : decode (mC M118) 14 = .ok (.iload_n 2, 1) := by decide +kernel
theorem d118_15 : decode (mC M118) 15 = .ok (.invokestatic 146, 3) := by decide +kernel
theorem d118_18 : decode (mC M118) 18 = .ok (.ifCond .eq 13, 3) := by decide +kernel
theorem d118_21 : decode (mC M118) 21 = .ok (.aload_n 0, 1) := by decide +kernel
theorem d118_22 : decode (mC M118) 22 = .ok (.iload_n 3, 1) := by decide +kernel
theorem d118_23 : decode (mC M118) 23 = .ok (.iload 4, 2) := by decide +kernel
theorem d118_25 : decode (mC M118) 25 = .ok (.invokevirtual 171, 3) := by decide +kernel
theorem d118_28 : decode (mC M118) 28 = .ok (.ifCond .ne 9, 3) := by decide +kernel
theorem d118_31 : decode (mC M118) 31 = .ok (.aload_n 0, 1) := by decide +kernel
theorem d118_32 : decode (mC M118) 32 = .ok (.iconst 2, 1) := by decide +kernel
theorem d118_33 : decode (mC M118) 33 = .ok (.invokevirtual 64, 3) := by decide +kernel
theorem d118_36 : decode (mC M118) 36 = .ok (.ireturn, 1) := by decide +kernel
theorem d118_37 : decode (mC M118) 37 = .ok (.aload_n 0, 1) := by decide +kernel
theorem d118_38 : decode (mC M118) 38 = .ok (.getfield 21, 3) := by decide +kernel
theorem d118_41 : decode (mC M118) 41 = .ok (.getfield 85, 3) := by decide +kernel
theorem d118_44 : decode (mC M118) 44 = .ok (.getfield 126, 3) := by decide +kernel
theorem d118_47 : decode (mC M118) 47 = .ok (.astore 5, 2) := by decide +kernel
theorem d118_49 : decode (mC M118) 49 = .ok (.aload 5, 2) := by decide +kernel
theorem d118_51 : decode (mC M118) 51 = .ok (.iload_n 1, 1) := by decide +kernel
theorem d118_52 : decode (mC M118) 52 = .ok (.iload_n 2, 1) := by decide +kernel
theorem d118_53 : decode (mC M118) 53 = .ok (.invokevirtual 153, 3) := by decide +kernel
theorem d118_56 : decode (mC M118) 56 = .ok (.istore 6, 2) := by decide +kernel
theorem d118_58 : decode (mC M118) 58 = .ok (.aload_n 0, 1) := by decide +kernel
theorem d118_59 : decode (mC M118) 59 = .ok (.iload 6, 2) := by decide +kernel
theorem d118_61 : decode (mC M118) 61 = .ok (.ifCond .lt 20, 3) := by decide +kernel
theorem d118_64 : decode (mC M118) 64 = .ok (.aload 5, 2) := by decide +kernel
theorem d118_66 : decode (mC M118) 66 = .ok (.iload 6, 2) := by decide +kernel
theorem d118_68 : decode (mC M118) 68 = .ok (.iload_n 3, 1) := by decide +kernel
theorem d118_69 : decode (mC M118) 69 = .ok (.iload 4, 2) := by decide +kernel
theorem d118_71 : decode (mC M118) 71 = .ok (.invokevirtual 178, 3) := by decide +kernel
theorem d118_74 : decode (mC M118) 74 = .ok (.ifCond .eq 7, 3) := by decide +kernel
theorem d118_77 : decode (mC M118) 77 = .ok (.iconst 1, 1) := by decide +kernel
theorem d118_78 : decode (mC M118) 78 = .ok (.goto 4, 3) := by decide +kernel
theorem d118_81 : decode (mC M118) 81 = .ok (.iconst 0, 1) := by decide +kernel
theorem d118_82 : decode (mC M118) 82 = .ok (.invokestatic 142, 3) := by decide +kernel
theorem d118_85 : decode (mC M118) 85 = .ok (.invokevirtual 94, 3) := by decide +kernel
theorem d118_88 : decode (mC M118) 88 = .ok (.ireturn, 1) := by decide +kernel
theorem sc118_0 : ∀ q ∈ tc118_0, Snd xtb M118 q.1 q.2 := List.forall_mem_cons.mpr ⟨snd_aload_n d118_0 rfl, List.forall_mem_cons.mpr ⟨snd_iload_n d118_1 rfl, List.forall_mem_cons.mpr ⟨snd_callV (by decide) rfl cn156 ⟨by decide +kernel, by decide +kernel⟩ cm156 (List.forall_mem_cons.mpr ⟨wd845, cw156⟩) d118_2, List.forall_mem_cons.mpr ⟨snd_if_ne d118_5 (by decide), List.forall_mem_cons.mpr ⟨snd_aload_n d118_8 rfl, List.forall_mem_cons.mpr ⟨snd_iconst d118_9 (by decide +kernel), List.forall_mem_cons.mpr ⟨snd_callV (by decide) rfl cn154 ⟨by decide +kernel, by decide +kernel⟩ cm154 (List.forall_mem_cons.mpr ⟨wd569, cw154⟩) d118_10, List.forall_mem_cons.mpr ⟨snd_iret rfl d118_13, List.forall_mem_cons.mpr ⟨snd_iload_n d118_14 rfl, List.forall_mem_cons.mpr ⟨snd_callS cn163 ⟨by decide +kernel, by decide +kernel⟩ cm163 (List.forall_mem_cons.mpr ⟨wd861, cw163⟩) d118_15, List.forall_mem_cons.mpr ⟨snd_if_eq d118_18 (by decide), List.forall_mem_cons.mpr ⟨snd_aload_n d118_21 rfl, List.forall_mem_cons.mpr ⟨snd_iload_n d118_22 rfl, List.forall_mem_cons.mpr ⟨snd_iload d118_23, List.forall_mem_cons.mpr ⟨snd_callV (by decide) rfl cn161 ⟨by decide +kernel, by decide +kernel⟩ cm161 (List.forall_mem_cons.mpr ⟨wd890, cw161⟩) d118_25, List.forall_mem_cons.mpr ⟨snd_if_ne d118_28 (by decide), List.forall_mem_cons.mpr ⟨snd_aload_n d118_31 rfl, List.forall_mem_cons.mpr ⟨snd_iconst d118_32 (by decide +kernel), List.forall_mem_cons.mpr ⟨snd_callV (by decide) rfl cn154 ⟨by decide +kernel, by decide +kernel⟩ cm154 (List.forall_mem_cons.mpr ⟨wd569, cw154⟩) d118_33, List.forall_mem_cons.mpr ⟨snd_iret rfl d118_36, List.forall_mem_cons.mpr ⟨snd_aload_n d118_37 rfl, List.forall_mem_cons.mpr ⟨snd_getR (by decide) (by decide) rfl wd533 d118_38, List.forall_mem_cons.mpr ⟨snd_getR (by decide) (by decide) rfl wd364 d118_41, List.forall_mem_cons.mpr ⟨snd_getR (by decide) (by decide) rfl wd250 d118_44, List.forall_mem_cons.mpr ⟨snd_astore d118_47, List.forall_mem_cons.mpr ⟨snd_aload d118_49, List.forall_mem_cons.mpr ⟨snd_iload_n d118_51 rfl, List.forall_mem_cons.mpr ⟨snd_iload_n d118_52 rfl, List.forall_mem_cons.mpr ⟨snd_callV (by decide) rfl cn19 ⟨by decide +kernel, by decide +kernel⟩ cm19 (List.forall_mem_cons.mpr ⟨wd872, cw19⟩) d118_53, List.forall_mem_cons.mpr ⟨snd_istore d118_56, fun _ h => by cases h⟩⟩⟩⟩⟩⟩⟩⟩⟩⟩⟩⟩⟩⟩⟩⟩⟩⟩⟩⟩⟩⟩⟩⟩⟩⟩⟩⟩⟩⟩
theorem sc118_1 : ∀ q ∈ tc118_1, Snd xtb M118 q.1 q.2 := List.forall_mem_cons.mpr ⟨snd_aload_n d118_58 rfl, List.forall_mem_cons.mpr ⟨snd_iload d118_59, List.forall_mem_cons.mpr ⟨snd_if_lt d118_61 (by decide), List.forall_mem_cons.mpr ⟨snd_aload d118_64, List.forall_mem_cons.mpr ⟨snd_iload d118_66, List.forall_mem_cons.mpr ⟨snd_iload_n d118_68 rfl, List.forall_mem_cons.mpr ⟨snd_iload d118_69, List.forall_mem_cons.mpr ⟨snd_callV (by decide) rfl cn28 ⟨by decide +kernel, by decide +kernel⟩ cm28 (List.forall_mem_cons.mpr ⟨wd906, cw28⟩) d118_71, List.forall_mem_cons.mpr ⟨snd_if_eq d118_74 (by decide), List.forall_mem_cons.mpr ⟨snd_iconst d118_77 (by decide +kernel), List.forall_mem_cons.mpr ⟨snd_goto d118_78 (by decide), List.forall_mem_cons.mpr ⟨snd_iconst d118_81 (by decide +kernel), List.forall_mem_cons.mpr ⟨snd_callS cn165 ⟨by decide +kernel, by decide +kernel⟩ cm165 (List.forall_mem_cons.mpr ⟨wd856, cw165⟩) d118_82, List.forall_mem_cons.mpr ⟨snd_callV (by decide) rfl cn153 ⟨by decide +kernel, by decide +kernel⟩ cm153 (List.forall_mem_cons.mpr ⟨wd813, cw153⟩) d118_85, List.forall_mem_cons.mpr ⟨snd_iret rfl d118_88, fun _ h => by cases h⟩⟩⟩⟩⟩⟩⟩⟩⟩⟩⟩⟩⟩⟩⟩
theorem d119_0 : decode (mC M119) 0 = .ok (.aload_n 0, 1) := by decide +kernel
theorem d119_1 : decode (mC M119) 1 = .ok (.iload_n 1, 1) := by decide +kernel
theorem d119_2 : decode (mC M119) 2 = .ok (.invokevirtual 123, 3) := by decide +kernel
theorem d119_5 : decode (mC M119) 5 = .ok (.ifCond .ne 9, 3) := by decide +kernel
theorem d119_8 : decode (mC M119) 8 = .ok (.aload_n 0, 1) := by decide +kernel
theorem d119_9 : decode (mC M119) 9 = .ok (.iconst 1, 1) := by decide +kernel
theorem d119_10 : decode (mC M119) 10 = .ok (.invokevirtual 64, 3) := by decide +kernel
theorem d119_13 : decode (mC M119) 13 = .ok (.ireturn, 1) := by decide +kernel
theorem d119_14 : decode (mC M119) 14 = .ok (.iload_n 2, 1) := by decide +kernel
theorem d119_15 : decode (mC M119) 15 = .ok (.invokestatic 146, 3) := by decide +kernel
theorem d119_18 : decode (mC M119) 18 = .ok (.ifCond .ne 9, 3) := by decide +kernel
theorem d119_21 : decode (mC M119) 21 = .ok (.aload_n 0, 1) := by decide +kernel
theorem d119_22 : decode (mC M119) 22 = .ok (.iconst 2, 1) := by decide +kernel
theorem d119_23 : decode (mC M119) 23 = .ok (.invokevirtual 64, 3) := by decide +kernel
theorem d119_26 : decode (mC M119) 26 = .ok (.ireturn, 1) := by decide +kernel
theorem d119_27 : decode (mC M119) 27 = .ok (.aload_n 0, 1) := by decide +kernel
theorem d119_28 : decode (mC M119) 28 = .ok (.aload_n 0, 1) := by decide +kernel
theorem d119_29 : decode (mC M119) 29 = .ok (.getfield 21, 3) := by decide +kernel
theorem d119_32 : decode (mC M119) 32 = .ok (.getfield 85, 3) := by decide +kernel
theorem d119_35 : decode (mC M119) 35 = .ok (.getfield 126, 3) := by decide +kernel
theorem d119_38 : decode (mC M119) 38 = .ok (.iload_n 1, 1) := by decide +kernel
theorem d119_39 : decode (mC M119) 39 = .ok (.iload_n 2, 1) := by decide +kernel
theorem d119_40 : decode (mC M119) 40 = .ok (.invokevirtual 181, 3) := by decide +kernel
theorem d119_43 : decode (mC M119) 43 = .ok (.invokevirtual 94, 3) := by decide +kernel
theorem d119_46 : decode (mC M119) 46 = .ok (.ireturn, 1) := by decide +kernel
theorem sc119_0 : ∀ q ∈ tc119_0, Snd xtb M119 q.1 q.2 := List.forall_mem_cons.mpr ⟨snd_aload_n d119_0 rfl, List.forall_mem_cons.mpr ⟨snd_iload_n d119_1 rfl, List.forall_mem_cons.mpr ⟨snd_callV (by decide) rfl cn156 ⟨by decide +kernel, by decide +kernel⟩ cm156 (List.forall_mem_cons.mpr ⟨wd845, cw156⟩) d119_2, List.forall_mem_cons.mpr ⟨snd_if_ne d119_5 (by decide), List.forall_mem_cons.mpr ⟨snd_aload_n d119_8 rfl, List.forall_mem_cons.mpr ⟨snd_iconst d119_9 (by decide +kernel), List.forall_mem_cons.mpr ⟨snd_callV (by decide) rfl cn154 ⟨by decide +kernel, by decide +kernel⟩ cm154 (List.forall_mem_cons.mpr ⟨wd569, cw154⟩) d119_10, List.forall_mem_cons.mpr ⟨snd_iret rfl d119_13, List.forall_mem_cons.mpr ⟨snd_iload_n d119_14 rfl, List.forall_mem_cons.mpr ⟨snd_callS cn163 ⟨by decide +kernel, by decide +kernel⟩ cm163 (List.forall_mem_cons.mpr ⟨wd861, cw163⟩) d119_15, List.forall_mem_cons.mpr ⟨snd_if_ne d119_18 (by decide), List.forall_mem_cons.mpr ⟨snd_aload_n d119_21 rfl, List.forall_mem_cons.mpr ⟨snd_iconst d119_22 (by decide +kernel), List.forall_mem_cons.mpr ⟨snd_callV (by decide) rfl cn154 ⟨by decide +kernel, by decide +kernel⟩ cm154 (List.forall_mem_cons.mpr ⟨wd569, cw154⟩) d119_23, List.forall_mem_cons.mpr ⟨snd_iret rfl d119_26, List.forall_mem_cons.mpr ⟨snd_aload_n d119_27 rfl, List.forall_mem_cons.mpr ⟨snd_aload_n d119_28 rfl, List.forall_mem_cons.mpr ⟨snd_getR (by decide) (by decide) rfl wd533 d119_29, List.forall_mem_cons.mpr ⟨snd_getR (by decide) (by decide) rfl wd364 d119_32, List.forall_mem_cons.mpr ⟨snd_getR (by decide) (by decide) rfl wd250 d119_35, List.forall_mem_cons.mpr ⟨snd_iload_n d119_38 rfl, List.forall_mem_cons.mpr ⟨snd_iload_n d119_39 rfl, List.forall_mem_cons.mpr ⟨snd_callV (by decide) rfl cn23 ⟨by decide +kernel, by decide +kernel⟩ cm23 (List.forall_mem_cons.mpr ⟨wd925, cw23⟩) d119_40, List.forall_mem_cons.mpr ⟨snd_callV (by decide) rfl cn153 ⟨by decide +kernel, by decide +kernel⟩ cm153 (List.forall_mem_cons.mpr ⟨wd813, cw153⟩) d119_43, List.forall_mem_cons.mpr ⟨snd_iret rfl d119_46, fun _ h => by cases h⟩⟩⟩⟩⟩⟩⟩⟩⟩⟩⟩⟩⟩⟩⟩⟩⟩⟩⟩⟩⟩⟩⟩⟩⟩
theorem d120_0 : decode (mC M120) 0 = .ok (.aload_n 0, 1) := by decide +kernel
theorem d120_1 : decode (mC M120) 1 = .ok (.getfield 75, 3) := by decide +kernel
theorem d120_4 : decode (mC M120) 4 = .ok (.ifCond .eq 23, 3) := by decide +kernel
theorem d120_7 : decode (mC M120) 7 = .ok (.iload_n 1, 1) := by decide +kernel
theorem d120_8 : decode (mC M120) 8 = .ok (.iconst 0, 1) := by decide +kernel
theorem d120_9 : decode (mC M120) 9 = .ok (.aload_n 0, 1) := by decide +kernel
theorem d120_10 : decode (mC M120) 10 = .ok (.getfield 21, 3) := by decide +kernel
theorem d120_13 : decode (mC M120) 13 = .ok (.getfield 85, 3) := by decide +kernel
theorem d120_16 : decode (mC M120) 16 = .ok (.getfield 184, 3) := by decide +kernel
theorem d120_19 : decode (mC M120) 19 = .ok (.iconst 1, 1) := by decide +kernel
theorem d120_20 : decode (mC M120) 20 = .ok (.isub, 1) := by decide +kernel
theorem d120_21 : decode (mC M120) 21 = .ok (.invokestatic 60, 3) := by decide +kernel
theorem d120_24 : decode (mC M120) 24 = .ok (.ifCond .ne 9, 3) := by decide +kernel
theorem d120_27 : decode (mC M120) 27 = .ok (.aload_n 0, 1) := by decide +kernel
theorem d120_28 : decode (mC M120) 28 = .ok (.iconst 1, 1) := by decide +kernel
theorem d120_29 : decode (mC M120) 29 = .ok (.invokevirtual 64, 3) := by decide +kernel
theorem d120_32 : decode (mC M120) 32 = .ok (.ireturn, 1) := by decide +kernel
theorem d120_33 : decode (mC M120) 33 = .ok (.iload_n 2, 1) := by decide +kernel
theorem d120_34 : decode (mC M120) 34 = .ok (.invokestatic 146, 3) := by decide +kernel
theorem d120_37 : decode (mC M120) 37 = .ok (.ifCond .eq 13, 3) := by decide +kernel
theorem d120_40 : decode (mC M120) 40 = .ok (.aload_n 0, 1) := by decide +kernel
theorem d120_41 : decode (mC M120) 41 = .ok (.iload_n 3, 1) := by decide +kernel
theorem d120_42 : decode (mC M120) 42 = .ok (.iload 4, 2) := by decide +kernel
theorem d120_44 : decode (mC M120) 44 = .ok (.invokevirtual 171, 3) := by decide +kernel
theorem d120_47 : decode (mC M120) 47 = .ok (.ifCond .ne 9, 3) := by decide +kernel
theorem d120_50 : decode (mC M120) 50 = .ok (.aload_n 0, 1) := by decide +kernel
theorem d120_51 : decode (mC M120) 51 = .ok (.iconst 2, 1) := by decide +kernel
theorem d120_52 : decode (mC M120) 52 = .ok (.invokevirtual 64, 3) := by decide +kernel
theorem d120_55 : decode (mC M120) 55 = .ok (.ireturn, 1) := by decide +kernel
theorem d120_56 : decode (mC M120) 56 = .ok (.aload_n 0, 1) := by decide +kernel
theorem d120_57 : decode (mC M120) 57 = .ok (.getfield 21, 3) := by decide +kernel
theorem d120_60 : decode (mC M120) 60 = .ok (.getfield 85, 3) := by decide +kernel
theorem d120_63 : decode (mC M120) 63 = .ok (.iload_n 2, 1) := by decide +kernel
theorem d120_64 : decode (mC M120) 64 = .ok (.invokevirtual 187, 3) := by decide +kernel
theorem d120_67 : decode (mC M120) 67 = .ok (.aload_n 0, 1) := by decide +kernel
theorem d120_68 : decode (mC M120) 68 = .ok (.aload_n 0, 1) := by decide +kernel
theorem d120_69 : decode (mC M120) 69 = .ok (.getfield 21, 3) := by decide +kernel
theorem d120_72 : decode (mC M120) 72 = .ok (.getfield 85, 3) := by decide +kernel
theorem d120_75 : decode (mC M120) 75 = .ok (.iload_n 1, 1) := by decide +kernel
theorem d120_76 : decode (mC M120) 76 = .ok (.iload_n 3, 1) := by decide +kernel
theorem d120_77 : decode (mC M120) 77 = .ok (.iload 4, 2) := by decide +kernel
theorem d120_79 : decode (mC M120) 79 = .ok (.invokevirtual 190, 3) := by decide +kernel
theorem d120_82 : decode (mC M120) 82 = .ok (.invokevirtual 94, 3) := by decide +kernel
theorem d120_85 : decode (mC M120) 85 = .ok (.ireturn, 1) := by decide +kernel
theorem sc120_0 : ∀ q ∈ tc120_0, Snd xtb M120 q.1 q.2 := List.forall_mem_cons.mpr ⟨snd_aload_n d120_0 rfl, List.forall_mem_cons.mpr ⟨snd_getI (by decide) (by decide) rfl wd534 d120_1, List.forall_mem_cons.mpr ⟨snd_if_eq d120_4 (by decide), List.forall_mem_cons.mpr ⟨snd_iload_n d120_7 rfl, List.forall_mem_cons.mpr ⟨snd_iconst d120_8 (by decide +kernel), List.forall_mem_cons.mpr ⟨snd_aload_n d120_9 rfl, List.forall_mem_cons.mpr ⟨snd_getR (by decide) (by decide) rfl wd533 d120_10, List.forall_mem_cons.mpr ⟨snd_getR (by decide) (by decide) rfl wd364 d120_13, List.forall_mem_cons.mpr ⟨snd_getI (by decide) (by decide) rfl wd238 d120_16, List.forall_mem_cons.mpr ⟨snd_iconst d120_19 (by decide +kernel), List.forall_mem_cons.mpr ⟨snd_isub d120_20, List.forall_mem_cons.mpr ⟨snd_callS cn164 ⟨by decide +kernel, by decide +kernel⟩ cm164 (List.forall_mem_cons.mpr ⟨wd566, cw164⟩) d120_21, List.forall_mem_cons.mpr ⟨snd_if_ne d120_24 (by decide), List.forall_mem_cons.mpr ⟨snd_aload_n d120_27 rfl, List.forall_mem_cons.mpr ⟨snd_iconst d120_28 (by decide +kernel), List.forall_mem_cons.mpr ⟨snd_callV (by decide) rfl cn154 ⟨by decide +kernel, by decide +kernel⟩ cm154 (List.forall_mem_cons.mpr ⟨wd569, cw154⟩) d120_29, List.forall_mem_cons.mpr ⟨snd_iret rfl d120_32, List.forall_mem_cons.mpr ⟨snd_iload_n d120_33 rfl, List.forall_mem_cons.mpr ⟨snd_callS cn163 ⟨by decide +kernel, by decide +kernel⟩ cm163 (List.forall_mem_cons.mpr ⟨wd861, cw163⟩) d120_34, List.forall_mem_cons.mpr ⟨snd_if_eq d120_37 (by decide), List.forall_mem_cons.mpr ⟨snd_aload_n d120_40 rfl, List.forall_mem_cons.mpr ⟨snd_iload_n d120_41 rfl, List.forall_mem_cons.mpr ⟨snd_iload d120_42, List.forall_mem_cons.mpr ⟨snd_callV (by decide) rfl cn161 ⟨by decide +kernel, by decide +kernel⟩ cm161 (List.forall_mem_cons.mpr ⟨wd890, cw161⟩) d120_44, List.forall_mem_cons.mpr ⟨snd_if_ne d120_47 (by decide), List.forall_mem_cons.mpr ⟨snd_aload_n d120_50 rfl, List.forall_mem_cons.mpr ⟨snd_iconst d120_51 (by decide +kernel), List.forall_mem_cons.mpr ⟨snd_callV (by decide) rfl cn154 ⟨by decide +kernel, by decide +kernel⟩ cm154 (List.forall_mem_cons.mpr ⟨wd569, cw154⟩) d120_52, List.forall_mem_cons.mpr ⟨snd_iret rfl d120_55, List.forall_mem_cons.mpr ⟨snd_aload_n d120_56 rfl, fun _ h => by cases h⟩⟩⟩⟩⟩⟩⟩⟩⟩⟩⟩⟩⟩⟩⟩⟩⟩⟩⟩⟩⟩⟩⟩⟩⟩⟩⟩⟩⟩⟩
theorem sc120_1 : ∀ q ∈ tc120_1, Snd xtb M120 q.1 q.2 := List.forall_mem_cons.mpr ⟨snd_getR (by decide) (by decide) rfl wd533 d120_57, List.forall_mem_cons.mpr ⟨snd_getR (by decide) (by decide) rfl wd364 d120_60, List.forall_mem_cons.mpr ⟨snd_iload_n d120_63 rfl, List.forall_mem_cons.mpr ⟨snd_callV (by decide) rfl cn45 ⟨by decide +kernel, by decide +kernel⟩ cm45 (List.forall_mem_cons.mpr ⟨wd933, cw45⟩) d120_64, List.forall_mem_cons.mpr ⟨snd_aload_n d120_67 rfl, List.forall_mem_cons.mpr ⟨snd_aload_n d120_68 rfl, List.forall_mem_cons.mpr ⟨snd_getR (by decide) (by decide) rfl wd533 d120_69, List.forall_mem_cons.mpr ⟨snd_getR (by decide) (by decide) rfl wd364 d120_72, List.forall_mem_cons.mpr ⟨snd_iload_n d120_75 rfl, List.forall_mem_cons.mpr ⟨snd_iload_n d120_76 rfl, List.forall_mem_cons.mpr ⟨snd_iload d120_77, List.forall_mem_cons.mpr ⟨snd_callV (by decide) rfl cn46 ⟨by decide +kernel, by decide +kernel⟩ cm46 (List.forall_mem_cons.mpr ⟨wd938, cw46⟩) d120_79, List.forall_mem_cons.mpr ⟨snd_callV (by decide) rfl cn153 ⟨by decide +kernel, by decide +kernel⟩ cm153 (List.forall_mem_cons.mpr ⟨wd813, cw153⟩) d120_82, List.forall_mem_cons.mpr ⟨snd_iret rfl d120_85, fun _ h => by cases h⟩⟩⟩⟩⟩⟩⟩⟩⟩⟩⟩⟩⟩⟩
theorem d121_0 : decode (mC M121) 0 = .ok (.aload_n 0, 1) := by decide +kernel
theorem d121_1 : decode (mC M121) 1 = .ok (.getfield 75, 3) := by decide +kernel
theorem d121_4 : decode (mC M121) 4 = .ok (.ifCond .ne 9, 3) := by decide +kernel
theorem d121_7 : decode (mC M121) 7 = .ok (.aload_n 0, 1) := by decide +kernel
theorem d121_8 : decode (mC M121) 8 = .ok (.iconst 1, 1) := by decide +kernel
theorem d121_9 : decode (mC M121) 9 = .ok (.invokevirtual 64, 3) := by decide +kernel
theorem d121_12 : decode (mC M121) 12 = .ok (.ireturn, 1) := by decide +kernel
theorem d121_13 : decode (mC M121) 13 = .ok (.iload_n 1, 1) := by decide +kernel
theorem d121_14 : decode (mC M121) 14 = .ok (.invokestatic 146, 3) := by decide +kernel
theorem d121_17 : decode (mC M121) 17 = .ok (.ifCond .eq 12, 3) := by decide +kernel
theorem d121_20 : decode (mC M121) 20 = .ok (.aload_n 0, 1) := by decide +kernel
theorem d121_21 : decode (mC M121) 21 = .ok (.iload_n 2, 1) := by decide +kernel
theorem d121_22 : decode (mC M121) 22 = .ok (.iload_n 3, 1) := by decide +kernel
theorem d121_23 : decode (mC M121) 23 = .ok (.invokevirtual 171, 3) := by decide +kernel
theorem d121_26 : decode (mC M121) 26 = .ok (.ifCond .ne 9, 3) := by decide +kernel
theorem d121_29 : decode (mC M121) 29 = .ok (.aload_n 0, 1) := by decide +kernel
theorem d121_30 : decode (mC M121) 30 = .ok (.iconst 2, 1) := by decide +kernel
theorem d121_31 : decode (mC M121) 31 = .ok (.invokevirtual 64, 3) := by decide +kernel
theorem d121_34 : decode (mC M121) 34 = .ok (.ireturn, 1) := by decide +kernel
theorem d121_35 : decode (mC M121) 35 = .ok (.aload_n 0, 1) := by decide +kernel
theorem d121_36 : decode (mC M121) 36 = .ok (.getfield 21, 3) := by decide +kernel
theorem d121_39 : decode (mC M121) 39 = .ok (.getfield 85, 3) := by decide +kernel
theorem d121_42 : decode (mC M121) 42 = .ok (.iload_n 1, 1) := by decide +kernel
theorem d121_43 : decode (mC M121) 43 = .ok (.invokevirtual 187, 3) := by decide +kernel
theorem d121_46 : decode (mC M121) 46 = .ok (.aload_n 0, 1) := by decide +kernel
theorem d121_47 : decode (mC M121) 47 = .ok (.getfield 21, 3) := by decide +kernel
theorem d121_50 : decode (mC M121) 50 = .ok (.getfield 85, 3) := by decide +kernel
theorem d121_53 : decode (mC M121) 53 = .ok (.iload_n 2, 1) := by decide +kernel
theorem d121_54 : decode (mC M121) 54 = .ok (.iload_n 3, 1) := by decide +kernel
theorem d121_55 : decode (mC M121) 55 = .ok (.invokevirtual 194, 3) := by decide +kernel
theorem d121_58 : decode (mC M121) 58 = .ok (.aload_n 0, 1) := by decide +kernel
theorem d121_59 : decode (mC M121) 59 = .ok (.aload_n 0, 1) := by decide +kernel
theorem d121_60 : decode (mC M121) 60 = .ok (.getfield 21, 3) := by decide +kernel
theorem d121_63 : decode (mC M121) 63 = .ok (.getfield 85, 3) := by decide +kernel
theorem d121_66 : decode (mC M121) 66 = .ok (.getfield 198, 3) := by decide +kernel
theorem d121_69 : decode (mC M121) 69 = .ok (.invokevirtual 94, 3) := by decide +kernel
theorem d121_72 : decode (mC M121) 72 = .ok (.ireturn, 1) := by decide +kernel
theorem sc121_0 : ∀ q ∈ tc121_0, Snd xtb M121 q.1 q.2 := List.forall_mem_cons.mpr ⟨snd_aload_n d121_0 rfl, List.forall_mem_cons.mpr ⟨snd_getI (by decide) (by decide) rfl wd534 d121_1, List.forall_mem_cons.mpr ⟨snd_if_ne d121_4 (by decide), List.forall_mem_cons.mpr ⟨snd_aload_n d121_7 rfl, List.forall_mem_cons.mpr ⟨snd_iconst d121_8 (by decide +kernel), List.forall_mem_cons.mpr ⟨snd_callV (by decide) rfl cn154 ⟨by decide +kernel, by decide +kernel⟩ cm154 (List.forall_mem_cons.mpr ⟨wd569, cw154⟩) d121_9, List.forall_mem_cons.mpr ⟨snd_iret rfl d121_12, List.forall_mem_cons.mpr ⟨snd_iload_n d121_13 rfl, List.forall_mem_cons.mpr ⟨snd_callS cn163 ⟨by decide +kernel, by decide +kernel⟩ cm163 (List.forall_mem_cons.mpr ⟨wd861, cw163⟩) d121_14, List.forall_mem_cons.mpr ⟨snd_if_eq d121_17 (by decide), List.forall_mem_cons.mpr ⟨snd_aload_n d121_20 rfl, List.forall_mem_cons.mpr ⟨snd_iload_n d121_21 rfl, List.forall_mem_cons.mpr ⟨snd_iload_n d121_22 rfl, List.forall_mem_cons.mpr ⟨snd_callV (by decide) rfl cn161 ⟨by decide +kernel, by decide +kernel⟩ cm161 (List.forall_mem_cons.mpr ⟨wd890, cw161⟩) d121_23, List.forall_mem_cons.mpr ⟨snd_if_ne d121_26 (by decide), List.forall_mem_cons.mpr ⟨snd_aload_n d121_29 rfl, List.forall_mem_cons.mpr ⟨snd_iconst d121_30 (by decide +kernel), List.forall_mem_cons.mpr ⟨snd_callV (by decide) rfl cn154 ⟨by decide +kernel, by decide +kernel⟩ cm154 (List.forall_mem_cons.mpr ⟨wd569, cw154⟩) d121_31, List.forall_mem_cons.mpr ⟨snd_iret rfl d121_34, List.forall_mem_cons.mpr ⟨snd_aload_n d121_35 rfl, List.forall_mem_cons.mpr ⟨snd_getR (by decide) (by decide) rfl wd533 d121_36, List.forall_mem_cons.mpr ⟨snd_getR (by decide) (by decide) rfl wd364 d121_39, List.forall_mem_cons.mpr ⟨snd_iload_n d121_42 rfl, List.forall_mem_cons.mpr ⟨snd_callV (by decide) rfl cn45 ⟨by decide +kernel, by decide +kernel⟩ cm45 (List.forall_mem_cons.mpr ⟨wd933, cw45⟩) d121_43, List.forall_mem_cons.mpr ⟨snd_aload_n d121_46 rfl, List.forall_mem_cons.mpr ⟨snd_getR (by decide) (by decide) rfl wd533 d121_47, List.forall_mem_cons.mpr ⟨snd_getR (by decide) (by decide) rfl wd364 d121_50, List.forall_mem_cons.mpr ⟨snd_iload_n d121_53 rfl, List.forall_mem_cons.mpr ⟨snd_iload_n d121_54 rfl, List.forall_mem_cons.mpr ⟨snd_callV (by decide) rfl cn47 ⟨by decide +kernel, by decide +kernel⟩ cm47 (List.forall_mem_cons.mpr ⟨wd947, cw47⟩) d121_55, fun _ h => by cases h⟩⟩⟩⟩⟩⟩⟩⟩⟩⟩⟩⟩⟩⟩⟩⟩⟩⟩⟩⟩⟩⟩⟩⟩⟩⟩⟩⟩⟩⟩
theorem sc121_1 : ∀ q ∈ tc121_1, Snd xtb M121 q.1 q.2 := List.forall_mem_cons.mpr ⟨snd_aload_n d121_58 rfl, List.forall_mem_cons.mpr ⟨snd_aload_n d121_59 rfl, List.forall_mem_cons.mpr ⟨snd_getR (by decide) (by decide) rfl wd533 d121_60, List.forall_mem_cons.mpr ⟨snd_getR (by decide) (by decide) rfl wd364 d121_63, List.forall_mem_cons.mpr ⟨snd_getI (by decide) (by decide) rfl wd257 d121_66, List.forall_mem_cons.mpr ⟨snd_callV (by decide) rfl cn153 ⟨by decide +kernel, by decide +kernel⟩ cm153 (List.forall_mem_cons.mpr ⟨wd813, cw153⟩) d121_69, List.forall_mem_cons.mpr ⟨snd_iret rfl d121_72, fun _ h => by cases h⟩⟩⟩⟩⟩⟩⟩
theorem d122_0 : decode (mC M122) 0 = .ok (.aload_n 0, 1) := by decide +kernel
theorem d122_1 : decode (mC M122) 1 = .ok (.getfield 75, 3) := by decide +kernel
theorem d122_4 : decode (mC M122) 4 = .ok (.ifCond .ne 9, 3) := by decide +kernel
theorem d122_7 : decode (mC M122) 7 = .ok (.aload_n 0, 1) := by decide +kernel
theorem d122_8 : decode (mC M122) 8 = .ok (.iconst 1, 1) := by decide +kernel
theorem d122_9 : decode (mC M122) 9 = .ok (.invokevirtual 64, 3) := by decide +kernel
theorem d122_12 : decode (mC M122) 12 = .ok (.ireturn, 1) := by decide +kernel
theorem d122_13 : decode (mC M122) 13 = .ok (.iload_n 1, 1) := by decide +kernel
theorem d122_14 : decode (mC M122) 14 = .ok (.invokestatic 146, 3) := by decide +kernel
theorem d122_17 : decode (mC M122) 17 = .ok (.ifCond .eq 12, 3) := by decide +kernel
theorem d122_20 : decode (mC M122) 20 = .ok (.aload_n 0, 1) := by decide +kernel
theorem d122_21 : decode (mC M122) 21 = .ok (.iload_n 2, 1) := by decide +kernel
theorem d122_22 : decode (mC M122) 22 = .ok (.iload_n 3, 1) := by decide +kernel
theorem d122_23 : decode (mC M122) 23 = .ok (.invokevirtual 171, 3) := by decide +kernel
theorem d122_26 : decode (mC M122) 26 = .ok (.ifCond .ne 9, 3) := by decide +kernel
theorem d122_29 : decode (mC M122) 29 = .ok (.aload_n 0, 1) := by decide +kernel
theorem d122_30 : decode (mC M122) 30 = .ok (.iconst 2, 1) := by decide +kernel
theorem d122_31 : decode (mC M122) 31 = .ok (.invokevirtual 64, 3) := by decide +kernel
theorem d122_34 : decode (mC M122) 34 = .ok (.ireturn, 1) := by decide +kernel
theorem d122_35 : decode (mC M122) 35 = .ok (.aload_n 0, 1) := by decide +kernel
theorem d122_36 : decode (mC M122) 36 = .ok (.getfield 21, 3) := by decide +kernel
theorem d122_39 : decode (mC M122) 39 = .ok (.getfield 85, 3) := by decide +kernel
theorem d122_42 : decode (mC M122) 42 = .ok (.astore 5, 2) := by decide +kernel
theorem d122_44 : decode (mC M122) 44 = .ok (.aload 5, 2) := by decide +kernel
theorem d122_46 : decode (mC M122) 46 = .ok (.iload_n 1, 1) := by decide +kernel
theorem d122_47 : decode (mC M122) 47 = .ok (.invokevirtual 187, 3) := by decide +kernel
theorem d122_50 : decode (mC M122) 50 = .ok (.aload 5, 2) := by decide +kernel
theorem d122_52 : decode (mC M122) 52 = .ok (.iload_n 2, 1) := by decide +kernel
theorem d122_53 : decode (mC M122) 53 = .ok (.iload_n 3, 1) := by decide +kernel
theorem d122_54 : decode (mC M122) 54 = .ok (.invokevirtual 194, 3) := by decide +kernel
theorem d122_57 : decode (mC M122) 57 = .ok (.iload 4, 2) := by decide +kernel
theorem d122_59 : decode (mC M122) 59 = .ok (.iconst 0, 1) := by decide +kernel
theorem d122_60 : decode (mC M122) 60 = .ok (.aload 5, 2) := by decide +kernel
theorem d122_62 : decode (mC M122) 62 = .ok (.getfield 198, 3) := by decide +kernel
theorem d122_65 : decode (mC M122) 65 = .ok (.iconst 1, 1) := by decide +kernel
theorem d122_66 : decode (mC M122) 66 = .ok (.isub, 1) := by decide +kernel
theorem d122_67 : decode (mC M122) 67 = .ok (.invokestatic 60, 3) := by decide +kernel
theorem d122_70 : decode (mC M122) 70 = .ok (.ifCond .eq 18, 3) := by decide +kernel
theorem d122_73 : decode (mC M122) 73 = .ok (.aload_n 0, 1) := by decide +kernel
theorem d122_74 : decode (mC M122) 74 = .ok (.aload 5, 2) := by decide +kernel
theorem d122_76 : decode (mC M122) 76 = .ok (.getfield 201, 3) := by decide +kernel
theorem d122_79 : decode (mC M122) 79 = .ok (.iload 4, 2) := by decide +kernel
theorem d122_81 : decode (mC M122) 81 = .ok (.iaload, 1) := by decide +kernel
theorem d122_82 : decode (mC M122) 82 = .ok (.invokevirtual 94, 3) := by decide +kernel
theorem d122_85 : decode (mC M122) 85 = .ok (.goto 8, 3) := by decide +kernel
theorem d122_88 : decode (mC M122) 88 = .ok (.aload_n 0, 1) := by decide +kernel
theorem d122_89 : decode (mC M122) 89 = .ok (.iconst 1, 1) := by decide +kernel
theorem d122_90 : decode (mC M122) 90 = .ok (.invokevirtual 64, 3) := by decide +kernel
theorem d122_93 : decode (mC M122) 93 = .ok (.ireturn, 1) := by decide +kernel
theorem sc122_0 : ∀ q ∈ tc122_0, Snd xtb M122 q.1 q.2 := List.forall_mem_cons.mpr ⟨snd_aload_n d122_0 rfl, List.forall_mem_cons.mpr ⟨snd_getI (by decide) (by decide) rfl wd534 d122_1, List.forall_mem_cons.mpr ⟨snd_if_ne d122_4 (by decide), List.forall_mem_cons.mpr ⟨snd_aload_n d122_7 rfl, List.forall_mem_cons.mpr ⟨snd_iconst d122_8 (by decide +kernel), List.forall_mem_cons.mpr ⟨snd_callV (by decide) rfl cn154 ⟨by decide +kernel, by decide +kernel⟩ cm154 (List.forall_mem_cons.mpr ⟨wd569, cw154⟩) d122_9, List.forall_mem_cons.mpr ⟨snd_iret rfl d122_12, List.forall_mem_cons.mpr ⟨snd_iload_n d122_13 rfl, List.forall_mem_cons.mpr ⟨snd_callS cn163 ⟨by decide +kernel, by decide +kernel⟩ cm163 (List.forall_mem_cons.mpr ⟨wd861, cw163⟩) d122_14, List.forall_mem_cons.mpr ⟨snd_if_eq d122_17 (by decide), List.forall_mem_cons.mpr ⟨snd_aload_n d122_20 rfl, List.forall_mem_cons.mpr ⟨snd_iload_n d122_21 rfl, List.forall_mem_cons.mpr ⟨snd_iload_n d122_22 rfl, List.forall_mem_cons.mpr ⟨snd_callV (by decide) rfl cn161 ⟨by decide +kernel, by decide +kernel⟩ cm161 (List.forall_mem_cons.mpr ⟨wd890, cw161⟩) d122_23, List.forall_mem_cons.mpr ⟨snd_if_ne d122_26 (by decide), List.forall_mem_cons.mpr ⟨snd_aload_n d122_29 rfl, List.forall_mem_cons.mpr ⟨snd_iconst d122_30 (by decide +kernel), List.forall_mem_cons.mpr ⟨snd_callV (by decide) rfl cn154 ⟨by decide +kernel, by decide +kernel⟩ cm154 (List.forall_mem_cons.mpr ⟨wd569, cw154⟩) d122_31, List.forall_mem_cons.mpr ⟨snd_iret rfl d122_34, List.forall_mem_cons.mpr ⟨snd_aload_n d122_35 rfl, List.forall_mem_cons.mpr ⟨snd_getR (by decide) (by decide) rfl wd533 d122_36, List.forall_mem_cons.mpr ⟨snd_getR (by decide) (by decide) rfl wd364 d122_39, List.forall_mem_cons.mpr ⟨snd_astore d122_42, List.forall_mem_cons.mpr ⟨snd_aload d122_44, List.forall_mem_cons.mpr ⟨snd_iload_n d122_46 rfl, List.forall_mem_cons.mpr ⟨snd_callV (by decide) rfl cn45 ⟨by decide +kernel, by decide +kernel⟩ cm45 (List.forall_mem_cons.mpr ⟨wd933, cw45⟩) d122_47, List.forall_mem_cons.mpr ⟨snd_aload d122_50, List.forall_mem_cons.mpr ⟨snd_iload_n d122_52 rfl, List.forall_mem_cons.mpr ⟨snd_iload_n d122_53 rfl, List.forall_mem_cons.mpr ⟨snd_callV (by decide) rfl cn47 ⟨by decide +kernel, by decide +kernel⟩ cm47 (List.forall_mem_cons.mpr ⟨wd947, cw47⟩) d122_54, fun _ h => by cases h⟩⟩⟩⟩⟩⟩⟩⟩⟩⟩⟩⟩⟩⟩⟩⟩⟩⟩⟩⟩⟩⟩⟩⟩⟩⟩⟩⟩⟩⟩
theorem sc122_1 : ∀ q ∈ tc122_1, Snd xtb M122 q.1 q.2 := List.forall_mem_cons.mpr ⟨snd_iload d122_57, List.forall_mem_cons.mpr ⟨snd_iconst d122_59 (by decide +kernel), List.forall_mem_cons.mpr ⟨snd_aload d122_60, List.forall_mem_cons.mpr ⟨snd_getI (by decide) (by decide) rfl wd257 d122_62, List.forall_mem_cons.mpr ⟨snd_iconst d122_65 (by decide +kernel), List.forall_mem_cons.mpr ⟨snd_isub d122_66, List.forall_mem_cons.mpr ⟨snd_callS cn164 ⟨by decide +kernel, by decide +kernel⟩ cm164 (List.forall_mem_cons.mpr ⟨wd566, cw164⟩) d122_67, List.forall_mem_cons.mpr ⟨snd_if_eq d122_70 (by decide), List.forall_mem_cons.mpr ⟨snd_aload_n d122_73 rfl, List.forall_mem_cons.mpr ⟨snd_aload d122_74, List.forall_mem_cons.mpr ⟨snd_getR (by decide) (by decide) rfl wd254 d122_76, List.forall_mem_cons.mpr ⟨snd_iload d122_79, List.forall_mem_cons.mpr ⟨snd_iald d122_81, List.forall_mem_cons.mpr ⟨snd_callV (by decide) rfl cn153 ⟨by decide +kernel, by decide +kernel⟩ cm153 (List.forall_mem_cons.mpr ⟨wd813, cw153⟩) d122_82, List.forall_mem_cons.mpr ⟨snd_goto d122_85 (by decide), List.forall_mem_cons.mpr ⟨snd_aload_n d122_88 rfl, List.forall_mem_cons.mpr ⟨snd_iconst d122_89 (by decide +kernel), List.forall_mem_cons.mpr ⟨snd_callV (by decide) rfl cn154 ⟨by decide +kernel, by decide +kernel⟩ cm154 (List.forall_mem_cons.mpr ⟨wd569, cw154⟩) d122_90, List.forall_mem_cons.mpr ⟨snd_iret rfl d122_93, fun _ h => by cases h⟩⟩⟩⟩⟩⟩⟩⟩⟩⟩⟩⟩⟩⟩⟩⟩⟩⟩⟩
theorem d123_0 : decode (mC M123) 0 = .ok (.aload_n 0, 1) := by decide +kernel
theorem d123_1 : decode (mC M123) 1 = .ok (.getfield 75, 3) := by decide +kernel
theorem d123_4 : decode (mC M123) 4 = .ok (.ifCond .ne 9, 3) := by decide +kernel
theorem d123_7 : decode (mC M123) 7 = .ok (.aload_n 0, 1) := by decide +kernel
theorem d123_8 : decode (mC M123) 8 = .ok (.iconst 1, 1) := by decide +kernel
theorem d123_9 : decode (mC M123) 9 = .ok (.invokevirtual 64, 3) := by decide +kernel
theorem d123_12 : decode (mC M123) 12 = .ok (.ireturn, 1) := by decide +kernel
theorem d123_13 : decode (mC M123) 13 = .ok (.iload_n 1, 1) := by decide +kernel
theorem d123_14 : decode (mC M123) 14 = .ok (.invokestatic 146, 3) := by decide +kernel
theorem d123_17 : decode (mC M123) 17 = .ok (.ifCond .eq 12, 3) := by decide +kernel
theorem d123_20 : decode (mC M123) 20 = .ok (.aload_n 0, 1) := by decide +kernel
theorem d123_21 : decode (mC M123) 21 = .ok (.iload_n 2, 1) := by decide +kernel
theorem d123_22 : decode (mC M123) 22 = .ok (.iload_n 3, 1) := by decide +kernel
theorem d123_23 : decode (mC M123) 23 = .ok (.invokevirtual 171, 3) := by decide +kernel
theorem d123_26 : decode (mC M123) 26 = .ok (.ifCond .ne 9, 3) := by decide +kernel
theorem d123_29 : decode (mC M123) 29 = .ok (.aload_n 0, 1) := by decide +kernel
theorem d123_30 : decode (mC M123) 30 = .ok (.iconst 2, 1) := by decide +kernel
theorem d123_31 : decode (mC M123) 31 = .ok (.invokevirtual 64, 3) := by decide +kernel
theorem d123_34 : decode (mC M123) 34 = .ok (.ireturn, 1) := by decide +kernel
theorem d123_35 : decode (mC M123) 35 = .ok (.aload_n 0, 1) := by decide +kernel
theorem d123_36 : decode (mC M123) 36 = .ok (.aload_n 0, 1) := by decide +kernel
theorem d123_37 : decode (mC M123) 37 = .ok (.getfield 21, 3) := by decide +kernel
theorem d123_40 : decode (mC M123) 40 = .ok (.getfield 85, 3) := by decide +kernel
theorem d123_43 : decode (mC M123) 43 = .ok (.iload_n 1, 1) := by decide +kernel
theorem d123_44 : decode (mC M123) 44 = .ok (.iload_n 2, 1) := by decide +kernel
theorem d123_45 : decode (mC M123) 45 = .ok (.iload_n 3, 1) := by decide +kernel
theorem d123_46 : decode (mC M123) 46 = .ok (.invokevirtual 204, 3) := by decide +kernel
theorem d123_49 : decode (mC M123) 49 = .ok (.invokevirtual 94, 3) := by decide +kernel
theorem d123_52 : decode (mC M123) 52 = .ok (.ireturn, 1) := by decide +kernel
theorem sc123_0 : ∀ q ∈ tc123_0, Snd xtb M123 q.1 q.2 := List.forall_mem_cons.mpr ⟨snd_aload_n d123_0 rfl, List.forall_mem_cons.mpr ⟨snd_getI (by decide) (by decide) rfl wd534 d123_1, List.forall_mem_cons.mpr ⟨snd_if_ne d123_4 (by decide), List.forall_mem_cons.mpr ⟨snd_aload_n d123_7 rfl, List.forall_mem_cons.mpr ⟨snd_iconst d123_8 (by decide +kernel), List.forall_mem_cons.mpr ⟨snd_callV (by decide) rfl cn154 ⟨by decide +kernel, by decide +kernel⟩ cm154 (List.forall_mem_cons.mpr ⟨wd569, cw154⟩) d123_9, List.forall_mem_cons.mpr ⟨snd_iret rfl d123_12, List.forall_mem_cons.mpr ⟨snd_iload_n d123_13 rfl, List.forall_mem_cons.mpr ⟨snd_callS cn163 ⟨by decide +kernel, by decide +kernel⟩ cm163 (List.forall_mem_cons.mpr ⟨wd861, cw163⟩) d123_14, List.forall_mem_cons.mpr ⟨snd_if_eq d123_17 (by decide), List.forall_mem_cons.mpr ⟨snd_aload_n d123_20 rfl, List.forall_mem_cons.mpr ⟨snd_iload_n d123_21 rfl, List.forall_mem_cons.mpr ⟨snd_iload_n d123_22 rfl, List.forall_mem_cons.mpr ⟨snd_callV (by decide) rfl cn161 ⟨by decide +kernel, by decide +kernel⟩ cm161 (List.forall_mem_cons.mpr ⟨wd890, cw161⟩) d123_23, List.forall_mem_cons.mpr ⟨snd_if_ne d123_26 (by decide), List.forall_mem_cons.mpr ⟨snd_aload_n d123_29 rfl, List.forall_mem_cons.mpr ⟨snd_iconst d123_30 (by decide +kernel), List.forall_mem_cons.mpr ⟨snd_callV (by decide) rfl cn154 ⟨by decide +kernel, by decide +kernel⟩ cm154 (List.forall_mem_cons.mpr ⟨wd569, cw154⟩) d123_31, List.forall_mem_cons.mpr ⟨snd_iret rfl d123_34, List.forall_mem_cons.mpr ⟨snd_aload_n d123_35 rfl, List.forall_mem_cons.mpr ⟨snd_aload_n d123_36 rfl, List.forall_mem_cons.mpr ⟨snd_getR (by decide) (by decide) rfl wd533 d123_37, List.forall_mem_cons.mpr ⟨snd_getR (by decide) (by decide) rfl wd364 d123_40, List.forall_mem_cons.mpr ⟨snd_iload_n d123_43 rfl, List.forall_mem_cons.mpr ⟨snd_iload_n d123_44 rfl, List.forall_mem_cons.mpr ⟨snd_iload_n d123_45 rfl, List.forall_mem_cons.mpr ⟨snd_callV (by decide) rfl cn49 ⟨by decide +kernel, by decide +kernel⟩ cm49 (List.forall_mem_cons.mpr ⟨wd960, cw49⟩) d123_46, List.forall_mem_cons.mpr ⟨snd_callV (by decide) rfl cn153 ⟨by decide +kernel, by decide +kernel⟩ cm153 (List.forall_mem_cons.mpr ⟨wd813, cw153⟩) d123_49, List.forall_mem_cons.mpr ⟨snd_iret rfl d123_52, fun _ h => by cases h⟩⟩⟩⟩⟩⟩⟩⟩⟩⟩⟩⟩⟩⟩⟩⟩⟩⟩⟩⟩⟩⟩⟩⟩⟩⟩⟩⟩⟩
theorem d124_0 : decode (mC M124) 0 = .ok (.aload_n 0, 1) := by decide +kernel
theorem d124_1 : decode (mC M124) 1 = .ok (.iload_n 1, 1) := by decide +kernel
theorem d124_2 : decode (mC M124) 2 = .ok (.invokevirtual 123, 3) := by decide +kernel
theorem d124_5 : decode (mC M124) 5 = .ok (.ifCond .eq 16, 3) := by decide +kernel
theorem d124_8 : decode (mC M124) 8 = .ok (.aload_n 0, 1) := by decide +kernel
theorem d124_9 : decode (mC M124) 9 = .ok (.iload_n 2, 1) := by decide +kernel
theorem d124_10 : decode (mC M124) 10 = .ok (.invokevirtual 123, 3) := by decide +kernel
theorem d124_13 : decode (mC M124) 13 = .ok (.ifCond .eq 8, 3) := by decide +kernel
theorem d124_16 : decode (mC M124) 16 = .ok (.iload_n 1, 1) := by decide +kernel
theorem d124_17 : decode (mC M124) 17 = .ok (.iload_n 2, 1) := by decide +kernel
theorem d124_18 : decode (mC M124) 18 = .ok (.if_icmp .ne 9, 3) := by decide +kernel
theorem d124_21 : decode (mC M124) 21 = .ok (.aload_n 0, 1) := by decide +kernel
theorem d124_22 : decode (mC M124) 22 = .ok (.iconst 1, 1) := by decide +kernel
theorem d124_23 : decode (mC M124) 23 = .ok (.invokevirtual 64, 3) := by decide +kernel
theorem d124_26 : decode (mC M124) 26 = .ok (.ireturn, 1) := by decide +kernel
theorem d124_27 : decode (mC M124) 27 = .ok (.aload_n 0, 1) := by decide +kernel
theorem d124_28 : decode (mC M124) 28 = .ok (.getfield 21, 3) := by decide +kernel
theorem d124_31 : decode (mC M124) 31 = .ok (.getfield 85, 3) := by decide +kernel
theorem d124_34 : decode (mC M124) 34 = .ok (.getfield 135, 3) := by decide +kernel
theorem d124_37 : decode (mC M124) 37 = .ok (.iload_n 1, 1) := by decide +kernel
theorem d124_38 : decode (mC M124) 38 = .ok (.iaload, 1) := by decide +kernel
theorem d124_39 : decode (mC M124) 39 = .ok (.aload_n 0, 1) := by decide +kernel
theorem d124_40 : decode (mC M124) 40 = .ok (.getfield 21, 3) := by decide +kernel
theorem d124_43 : decode (mC M124) 43 = .ok (.getfield 85, 3) := by decide +kernel
theorem d124_46 : decode (mC M124) 46 = .ok (.getfield 135, 3) := by decide +kernel
theorem d124_49 : decode (mC M124) 49 = .ok (.iload_n 2, 1) := by decide +kernel
theorem d124_50 : decode (mC M124) 50 = .ok (.iaload, 1) := by decide +kernel
theorem d124_51 : decode (mC M124) 51 = .ok (.if_icmp .eq 9, 3) := by decide +kernel
theorem d124_54 : decode (mC M124) 54 = .ok (.aload_n 0, 1) := by decide +kernel
theorem d124_55 : decode (mC M124) 55 = .ok (.iconst 5, 1) := by decide +kernel
theorem d124_56 : decode (mC M124) 56 = .ok (.invokevirtual 64, 3) := by decide +kernel
theorem d124_59 : decode (mC M124) 59 = .ok (.ireturn, 1) := by decide +kernel
theorem d124_60 : decode (mC M124) 60 = .ok (.iload_n 3, 1) := by decide +kernel
theorem d124_61 : decode (mC M124) 61 = .ok (.invokestatic 146, 3) := by decide +kernel
theorem d124_64 : decode (mC M124) 64 = .ok (.ifCond .ne 9, 3) := by decide +kernel
theorem d124_67 : decode (mC M124) 67 = .ok (.aload_n 0, 1) := by decide +kernel
theorem d124_68 : decode (mC M124) 68 = .ok (.iconst 2, 1) := by decide +kernel
theorem d124_69 : decode (mC M124) 69 = .ok (.invokevirtual 64, 3) := by decide +kernel
theorem d124_72 : decode (mC M124) 72 = .ok (.ireturn, 1) := by decide +kernel
theorem d124_73 : decode (mC M124) 73 = .ok (.aload_n 0, 1) := by decide +kernel
theorem d124_74 : decode (mC M124) 74 = .ok (.getfield 21, 3) := by decide +kernel
theorem d124_77 : decode (mC M124) 77 = .ok (.getfield 85, 3) := by decide +kernel
theorem d124_80 : decode (mC M124) 80 = .ok (.iload_n 3, 1) := by decide +kernel
theorem d124_81 : decode (mC M124) 81 = .ok (.invokevirtual 187, 3) := by decide +kernel
theorem d124_84 : decode (mC M124) 84 = .ok (.aload_n 0, 1) := by decide +kernel
theorem d124_85 : decode (mC M124) 85 = .ok (.aload_n 0, 1) := by decide +kernel
theorem d124_86 : decode (mC M124) 86 = .ok (.getfield 21, 3) := by decide +kernel
theorem d124_89 : decode (mC M124) 89 = .ok (.getfield 85, 3) := by decide +kernel
theorem d124_92 : decode (mC M124) 92 = .ok (.iload_n 1, 1) := by decide +kernel
theorem d124_93 : decode (mC M124) 93 = .ok (.iload_n 2, 1) := by decide +kernel
theorem d124_94 : decode (mC M124) 94 = .ok (.invokevirtual 207, 3) := by decide +kernel
theorem d124_97 : decode (mC M124) 97 = .ok (.invokevirtual 94, 3) := by decide +kernel
theorem d124_100 : decode (mC M124) 100 = .ok (.ireturn, 1) := by decide +kernel
theorem sc124_0 : ∀ q ∈ tc124_0, Snd xtb M124 q.1 q.2 := List.forall_mem_cons.mpr ⟨snd_aload_n d124_0 rfl, List.forall_mem_cons.mpr ⟨snd_iload_n d124_1 rfl, List.forall_mem_cons.mpr ⟨snd_callV (by decide) rfl cn156 ⟨by decide +kernel, by decide +kernel⟩ cm156 (List.forall_mem_cons.mpr ⟨wd845, cw156⟩) d124_2, List.forall_mem_cons.mpr ⟨snd_if_eq d124_5 (by decide), List.forall_mem_cons.mpr ⟨snd_aload_n d124_8 rfl, List.forall_mem_cons.mpr ⟨snd_iload_n d124_9 rfl, List.forall_mem_cons.mpr ⟨snd_callV (by decide) rfl cn156 ⟨by decide +kernel, by decide +kernel⟩ cm156 (List.forall_mem_cons.mpr ⟨wd845, cw156⟩) d124_10, List.forall_mem_cons.mpr ⟨snd_if_eq d124_13 (by decide), List.forall_mem_cons.mpr ⟨snd_iload_n d124_16 rfl, List.forall_mem_cons.mpr ⟨snd_iload_n d124_17 rfl, List.forall_mem_cons.mpr ⟨snd_cmp_ne d124_18 (by decide), List.forall_mem_cons.mpr ⟨snd_aload_n d124_21 rfl, List.forall_mem_cons.mpr ⟨snd_iconst d124_22 (by decide +kernel), List.forall_mem_cons.mpr ⟨snd_callV (by decide) rfl cn154 ⟨by decide +kernel, by decide +kernel⟩ cm154 (List.forall_mem_cons.mpr ⟨wd569, cw154⟩) d124_23, List.forall_mem_cons.mpr ⟨snd_iret rfl d124_26, List.forall_mem_cons.mpr ⟨snd_aload_n d124_27 rfl, List.forall_mem_cons.mpr ⟨snd_getR (by decide) (by decide) rfl wd533 d124_28, List.forall_mem_cons.mpr ⟨snd_getR (by decide) (by decide) rfl wd364 d124_31, List.forall_mem_cons.mpr ⟨snd_getR (by decide) (by decide) rfl wd244 d124_34, List.forall_mem_cons.mpr ⟨snd_iload_n d124_37 rfl, List.forall_mem_cons.mpr ⟨snd_iald d124_38, List.forall_mem_cons.mpr ⟨snd_aload_n d124_39 rfl, List.forall_mem_cons.mpr ⟨snd_getR (by decide) (by decide) rfl wd533 d124_40, List.forall_mem_cons.mpr ⟨snd_getR (by decide) (by decide) rfl wd364 d124_43, List.forall_mem_cons.mpr ⟨snd_getR (by decide) (by decide) rfl wd244 d124_46, List.forall_mem_cons.mpr ⟨snd_iload_n d124_49 rfl, List.forall_mem_cons.mpr ⟨snd_iald d124_50, List.forall_mem_cons.mpr ⟨snd_cmp_eq d124_51 (by decide), List.forall_mem_cons.mpr ⟨snd_aload_n d124_54 rfl, List.forall_mem_cons.mpr ⟨snd_iconst d124_55 (by decide +kernel), fun _ h => by cases h⟩⟩⟩⟩⟩⟩⟩⟩⟩⟩⟩⟩⟩⟩⟩⟩⟩⟩⟩⟩⟩⟩⟩⟩⟩⟩⟩⟩⟩⟩
theorem sc124_1 : ∀ q ∈ tc124_1, Snd xtb M124 q.1 q.2 := List.forall_mem_cons.mpr ⟨snd_callV (by decide) rfl cn154 ⟨by decide +kernel, by decide +kernel⟩ cm154 (List.forall_mem_cons.mpr ⟨wd569, cw154⟩) d124_56, List.forall_mem_cons.mpr ⟨snd_iret rfl d124_59, List.forall_mem_cons.mpr ⟨snd_iload_n d124_60 rfl, List.forall_mem_cons.mpr ⟨snd_callS cn163 ⟨by decide +kernel, by decide +kernel⟩ cm163 (List.forall_mem_cons.mpr ⟨wd861, cw163⟩) d124_61, List.forall_mem_cons.mpr ⟨snd_if_ne d124_64 (by decide), List.forall_mem_cons.mpr ⟨snd_aload_n d124_67 rfl, List.forall_mem_cons.mpr ⟨snd_iconst d124_68 (by decide +kernel), List.forall_mem_cons.mpr ⟨snd_callV (by decide) rfl cn154 ⟨by decide +kernel, by decide +kernel⟩ cm154 (List.forall_mem_cons.mpr ⟨wd569, cw154⟩) d124_69, List.forall_mem_cons.mpr ⟨snd_iret rfl d124_72, List.forall_mem_cons.mpr ⟨snd_aload_n d124_73 rfl, List.forall_mem_cons.mpr ⟨snd_getR (by decide) (by decide) rfl wd533 d124_74, List.forall_mem_cons.mpr ⟨snd_getR (by decide) (by decide) rfl wd364 d124_77, List.forall_mem_cons.mpr ⟨snd_iload_n d124_80 rfl, List.forall_mem_cons.mpr ⟨snd_callV (by decide) rfl cn45 ⟨by decide +kernel, by decide +kernel⟩ cm45 (List.forall_mem_cons.mpr ⟨wd933, cw45⟩) d124_81, List.forall_mem_cons.mpr ⟨snd_aload_n d124_84 rfl, List.forall_mem_cons.mpr ⟨snd_aload_n d124_85 rfl, List.forall_mem_cons.mpr ⟨snd_getR (by decide) (by decide) rfl wd533 d124_86, List.forall_mem_cons.mpr ⟨snd_getR (by decide) (by decide) rfl wd364 d124_89, List.forall_mem_cons.mpr ⟨snd_iload_n d124_92 rfl, List.forall_mem_cons.mpr ⟨snd_iload_n d124_93 rfl, List.forall_mem_cons.mpr ⟨snd_callV (by decide) rfl cn50 ⟨by decide +kernel, by decide +kernel⟩ cm50 (List.forall_mem_cons.mpr ⟨wd978, cw50⟩) d124_94, List.forall_mem_cons.mpr ⟨snd_callV (by decide) rfl cn153 ⟨by decide +kernel, by decide +kernel⟩ cm153 (List.forall_mem_cons.mpr ⟨wd813, cw153⟩) d124_97, List.forall_mem_cons.mpr ⟨snd_iret rfl d124_100, fun _ h => by cases h⟩⟩⟩⟩⟩⟩⟩⟩⟩⟩⟩⟩⟩⟩⟩⟩⟩⟩⟩⟩⟩⟩⟩
theorem d125_0 : decode (mC M125) 0 = .ok (.aload_n 0, 1) := by decide +kernel
theorem d125_1 : decode (mC M125) 1 = .ok (.iload_n 1, 1) := by decide +kernel
theorem d125_2 : decode (mC M125) 2 = .ok (.invokevirtual 123, 3) := by decide +kernel
theorem d125_5 : decode (mC M125) 5 = .ok (.ifCond .ne 9, 3) := by decide +kernel
theorem d125_8 : decode (mC M125) 8 = .ok (.aload_n 0, 1) := by decide +kernel
theorem d125_9 : decode (mC M125) 9 = .ok (.iconst 1, 1) := by decide +kernel
theorem d125_10 : decode (mC M125) 10 = .ok (.invokevirtual 64, 3) := by decide +kernel
theorem d125_13 : decode (mC M125) 13 = .ok (.ireturn, 1) := by decide +kernel
theorem d125_14 : decode (mC M125) 14 = .ok (.iload_n 2, 1) := by decide +kernel
theorem d125_15 : decode (mC M125) 15 = .ok (.invokestatic 146, 3) := by decide +kernel
theorem d125_18 : decode (mC M125) 18 = .ok (.ifCond .ne 9, 3) := by decide +kernel
theorem d125_21 : decode (mC M125) 21 = .ok (.aload_n 0, 1) := by decide +kernel
theorem d125_22 : decode (mC M125) 22 = .ok (.iconst 2, 1) := by decide +kernel
theorem d125_23 : decode (mC M125) 23 = .ok (.invokevirtual 64, 3) := by decide +kernel
theorem d125_26 : decode (mC M125) 26 = .ok (.ireturn, 1) := by decide +kernel
theorem d125_27 : decode (mC M125) 27 = .ok (.aload_n 0, 1) := by decide +kernel
theorem d125_28 : decode (mC M125) 28 = .ok (.getfield 21, 3) := by decide +kernel
theorem d125_31 : decode (mC M125) 31 = .ok (.getfield 85, 3) := by decide +kernel
theorem d125_34 : decode (mC M125) 34 = .ok (.iload_n 2, 1) := by decide +kernel
theorem d125_35 : decode (mC M125) 35 = .ok (.invokevirtual 187, 3) := by decide +kernel
theorem d125_38 : decode (mC M125) 38 = .ok (.aload_n 0, 1) := by decide +kernel
theorem d125_39 : decode (mC M125) 39 = .ok (.aload_n 0, 1) := by decide +kernel
theorem d125_40 : decode (mC M125) 40 = .ok (.getfield 21, 3) := by decide +kernel
theorem d125_43 : decode (mC M125) 43 = .ok (.getfield 85, 3) := by decide +kernel
theorem d125_46 : decode (mC M125) 46 = .ok (.iload_n 1, 1) := by decide +kernel
theorem d125_47 : decode (mC M125) 47 = .ok (.invokevirtual 210, 3) := by decide +kernel
theorem d125_50 : decode (mC M125) 50 = .ok (.invokevirtual 94, 3) := by decide +kernel
theorem d125_53 : decode (mC M125) 53 = .ok (.ireturn, 1) := by decide +kernel
theorem sc125_0 : ∀ q ∈ tc125_0, Snd xtb M125 q.1 q.2 := List.forall_mem_cons.mpr ⟨snd_aload_n d125_0 rfl, List.forall_mem_cons.mpr ⟨snd_iload_n d125_1 rfl, List.forall_mem_cons.mpr ⟨snd_callV (by decide) rfl cn156 ⟨by decide +kernel, by decide +kernel⟩ cm156 (List.forall_mem_cons.mpr ⟨wd845, cw156⟩) d125_2, List.forall_mem_cons.mpr ⟨snd_if_ne d125_5 (by decide), List.forall_mem_cons.mpr ⟨snd_aload_n d125_8 rfl, List.forall_mem_cons.mpr ⟨snd_iconst d125_9 (by decide +kernel), List.forall_mem_cons.mpr ⟨snd_callV (by decide) rfl cn154 ⟨by decide +kernel, by decide +kernel⟩ cm154 (List.forall_mem_cons.mpr ⟨wd569, cw154⟩) d125_10, List.forall_mem_cons.mpr ⟨snd_iret rfl d125_13, List.forall_mem_cons.mpr ⟨snd_iload_n d125_14 rfl, List.forall_mem_cons.mpr ⟨snd_callS cn163 ⟨by decide +kernel, by decide +kernel⟩ cm163 (List.forall_mem_cons.mpr ⟨wd861, cw163⟩) d125_15, List.forall_mem_cons.mpr ⟨snd_if_ne d125_18 (by decide), List.forall_mem_cons.mpr ⟨snd_aload_n d125_21 rfl, List.forall_mem_cons.mpr ⟨snd_iconst d125_22 (by decide +kernel), List.forall_mem_cons.mpr ⟨snd_callV (by decide) rfl cn154 ⟨by decide +kernel, by decide +kernel⟩ cm154 (List.forall_mem_cons.mpr ⟨wd569, cw154⟩) d125_23, List.forall_mem_cons.mpr ⟨snd_iret rfl d125_26, List.forall_mem_cons.mpr ⟨snd_aload_n d125_27 rfl, List.forall_mem_cons.mpr ⟨snd_getR (by decide) (by decide) rfl wd533 d125_28, List.forall_mem_cons.mpr ⟨snd_getR (by decide) (by decide) rfl wd364 d125_31, List.forall_mem_cons.mpr ⟨snd_iload_n d125_34 rfl, List.forall_mem_cons.mpr ⟨snd_callV (by decide) rfl cn45 ⟨by decide +kernel, by decide +kernel⟩ cm45 (List.forall_mem_cons.mpr ⟨wd933, cw45⟩) d125_35, List.forall_mem_cons.mpr ⟨snd_aload_n d125_38 rfl, List.forall_mem_cons.mpr ⟨snd_aload_n d125_39 rfl, List.forall_mem_cons.mpr ⟨snd_getR (by decide) (by decide) rfl wd533 d125_40, List.forall_mem_cons.mpr ⟨snd_getR (by decide) (by decide) rfl wd364 d125_43, List.forall_mem_cons.mpr ⟨snd_iload_n d125_46 rfl, List.forall_mem_cons.mpr ⟨snd_callV (by decide) rfl cn51 ⟨by decide +kernel, by decide +kernel⟩ cm51 (List.forall_mem_cons.mpr ⟨wd987, cw51⟩) d125_47, List.forall_mem_cons.mpr ⟨snd_callV (by decide) rfl cn153 ⟨by decide +kernel, by decide +kernel⟩ cm153 (List.forall_mem_cons.mpr ⟨wd813, cw153⟩) d125_50, List.forall_mem_cons.mpr ⟨snd_iret rfl d125_53, fun _ h => by cases h⟩⟩⟩⟩⟩⟩⟩⟩⟩⟩⟩⟩⟩⟩⟩⟩⟩⟩⟩⟩⟩⟩⟩⟩⟩⟩⟩⟩
theorem d126_0 : decode (mC M126) 0 = .ok (.aload_n 0, 1) := by decide +kernel
theorem d126_1 : decode (mC M126) 1 = .ok (.getfield 75, 3) := by decide +kernel
theorem d126_4 : decode (mC M126) 4 = .ok (.ifCond .ne 9, 3) := by decide +kernel
theorem d126_7 : decode (mC M126) 7 = .ok (.aload_n 0, 1) := by decide +kernel
theorem d126_8 : decode (mC M126) 8 = .ok (.iconst 1, 1) := by decide +kernel
theorem d126_9 : decode (mC M126) 9 = .ok (.invokevirtual 64, 3) := by decide +kernel
theorem d126_12 : decode (mC M126) 12 = .ok (.ireturn, 1) := by decide +kernel
theorem d126_13 : decode (mC M126) 13 = .ok (.iload_n 1, 1) := by decide +kernel
theorem d126_14 : decode (mC M126) 14 = .ok (.iconst 0, 1) := by decide +kernel
theorem d126_15 : decode (mC M126) 15 = .ok (.iconst 4, 1) := by decide +kernel
theorem d126_16 : decode (mC M126) 16 = .ok (.invokestatic 60, 3) := by decide +kernel
theorem d126_19 : decode (mC M126) 19 = .ok (.ifCond .eq 10, 3) := by decide +kernel
theorem d126_22 : decode (mC M126) 22 = .ok (.iload_n 2, 1) := by decide +kernel
theorem d126_23 : decode (mC M126) 23 = .ok (.invokestatic 146, 3) := by decide +kernel
theorem d126_26 : decode (mC M126) 26 = .ok (.ifCond .ne 9, 3) := by decide +kernel
theorem d126_29 : decode (mC M126) 29 = .ok (.aload_n 0, 1) := by decide +kernel
theorem d126_30 : decode (mC M126) 30 = .ok (.iconst 2, 1) := by decide +kernel
theorem d126_31 : decode (mC M126) 31 = .ok (.invokevirtual 64, 3) := by decide +kernel
theorem d126_34 : decode (mC M126) 34 = .ok (.ireturn, 1) := by decide +kernel
theorem d126_35 : decode (mC M126) 35 = .ok (.aload_n 0, 1) := by decide +kernel
theorem d126_36 : decode (mC M126) 36 = .ok (.getfield 21, 3) := by decide +kernel
theorem d126_39 : decode (mC M126) 39 = .ok (.getfield 85, 3) := by decide +kernel
theorem d126_42 : decode (mC M126) 42 = .ok (.iload_n 2, 1) := by decide +kernel
theorem d126_43 : decode (mC M126) 43 = .ok (.invokevirtual 187, 3) := by decide +kernel
theorem d126_46 : decode (mC M126) 46 = .ok (.aload_n 0, 1) := by decide +kernel
theorem d126_47 : decode (mC M126) 47 = .ok (.aload_n 0, 1) := by decide +kernel
theorem d126_48 : decode (mC M126) 48 = .ok (.getfield 21, 3) := by decide +kernel
theorem d126_51 : decode (mC M126) 51 = .ok (.getfield 85, 3) := by decide +kernel
theorem d126_54 : decode (mC M126) 54 = .ok (.iload_n 1, 1) := by decide +kernel
theorem d126_55 : decode (mC M126) 55 = .ok (.invokevirtual 213, 3) := by decide +kernel
theorem d126_58 : decode (mC M126) 58 = .ok (.invokevirtual 94, 3) := by decide +kernel
theorem d126_61 : decode (mC M126) 61 = .ok (.ireturn, 1) := by decide +kernel
theorem sc126_0 : ∀ q ∈ tc126_0, Snd xtb M126 q.1 q.2 := List.forall_mem_cons.mpr ⟨snd_aload_n d126_0 rfl, List.forall_mem_cons.mpr ⟨snd_getI (by decide) (by decide) rfl wd534 d126_1, List.forall_mem_cons.mpr ⟨snd_if_ne d126_4 (by decide), List.forall_mem_cons.mpr ⟨snd_aload_n d126_7 rfl, List.forall_mem_cons.mpr ⟨snd_iconst d126_8 (by decide +kernel), List.forall_mem_cons.mpr ⟨snd_callV (by decide) rfl cn154 ⟨by decide +kernel, by decide +kernel⟩ cm154 (List.forall_mem_cons.mpr ⟨wd569, cw154⟩) d126_9, List.forall_mem_cons.mpr ⟨snd_iret rfl d126_12, List.forall_mem_cons.mpr ⟨snd_iload_n d126_13 rfl, List.forall_mem_cons.mpr ⟨snd_iconst d126_14 (by decide +kernel), List.forall_mem_cons.mpr ⟨snd_iconst d126_15 (by decide +kernel), List.forall_mem_cons.mpr ⟨snd_callS cn164 ⟨by decide +kernel, by decide +kernel⟩ cm164 (List.forall_mem_cons.mpr ⟨wd566, cw164⟩) d126_16, List.forall_mem_cons.mpr ⟨snd_if_eq d126_19 (by decide), List.forall_mem_cons.mpr ⟨snd_iload_n d126_22 rfl, List.forall_mem_cons.mpr ⟨snd_callS cn163 ⟨by decide +kernel, by decide +kernel⟩ cm163 (List.forall_mem_cons.mpr ⟨wd861, cw163⟩) d126_23, List.forall_mem_cons.mpr ⟨snd_if_ne d126_26 (by decide), List.forall_mem_cons.mpr ⟨snd_aload_n d126_29 rfl, List.forall_mem_cons.mpr ⟨snd_iconst d126_30 (by decide +kernel), List.forall_mem_cons.mpr ⟨snd_callV (by decide) rfl cn154 ⟨by decide +kernel, by decide +kernel⟩ cm154 (List.forall_mem_cons.mpr ⟨wd569, cw154⟩) d126_31, List.forall_mem_cons.mpr ⟨snd_iret rfl d126_34, List.forall_mem_cons.mpr ⟨snd_aload_n d126_35 rfl, List.forall_mem_cons.mpr ⟨snd_getR (by decide) (by decide) rfl wd533 d126_36, List.forall_mem_cons.mpr ⟨snd_getR (by decide) (by decide) rfl wd364 d126_39, List.forall_mem_cons.mpr ⟨snd_iload_n d126_42 rfl, List.forall_mem_cons.mpr ⟨snd_callV (by decide) rfl cn45 ⟨by decide +kernel, by decide +kernel⟩ cm45 (List.forall_mem_cons.mpr ⟨wd933, cw45⟩) d126_43, List.forall_mem_cons.mpr ⟨snd_aload_n d126_46 rfl, List.forall_mem_cons.mpr ⟨snd_aload_n d126_47 rfl, List.forall_mem_cons.mpr ⟨snd_getR (by decide) (by decide) rfl wd533 d126_48, List.forall_mem_cons.mpr ⟨snd_getR (by decide) (by decide) rfl wd364 d126_51, List.forall_mem_cons.mpr ⟨snd_iload_n d126_54 rfl, List.forall_mem_cons.mpr ⟨snd_callV (by decide) rfl cn52 ⟨by decide +kernel, by decide +kernel⟩ cm52 (List.forall_mem_cons.mpr ⟨wd995, cw52⟩) d126_55, fun _ h => by cases h⟩⟩⟩⟩⟩⟩⟩⟩⟩⟩⟩⟩⟩⟩⟩⟩⟩⟩⟩⟩⟩⟩⟩⟩⟩⟩⟩⟩⟩⟩
theorem sc126_1 : ∀ q ∈ tc126_1, Snd xtb M126 q.1 q.2 := List.forall_mem_cons.mpr ⟨snd_callV (by decide) rfl cn153 ⟨by decide +kernel, by decide +kernel⟩ cm153 (List.forall_mem_cons.mpr ⟨wd813, cw153⟩) d126_58, List.forall_mem_cons.mpr ⟨snd_iret rfl d126_61, fun _ h => by cases h⟩⟩
theorem d127_0 : decode (mC M127) 0 = .ok (.aload_n 0, 1) := by decide +kernel
theorem d127_1 : decode (mC M127) 1 = .ok (.iload_n 1, 1) := by decide +kernel
theorem d127_2 : decode (mC M127) 2 = .ok (.invokevirtual 123, 3) := by decide +kernel
theorem d127_5 : decode (mC M127) 5 = .ok (.ifCond .eq 11, 3) := by decide +kernel
theorem d127_8 : decode (mC M127) 8 = .ok (.aload_n 0, 1) := by decide +kernel
theorem d127_9 : decode (mC M127) 9 = .ok (.iload_n 2, 1) := by decide +kernel
theorem d127_10 : decode (mC M127) 10 = .ok (.invokevirtual 110, 3) := by decide +kernel
theorem d127_13 : decode (mC M127) 13 = .ok (.ifCond .ne 9, 3) := by decide +kernel
theorem d127_16 : decode (mC M127) 16 = .ok (.aload_n 0, 1) := by decide +kernel
theorem d127_17 : decode (mC M127) 17 = .ok (.iconst 1, 1) := by decide +kernel
theorem d127_18 : decode (mC M127) 18 = .ok (.invokevirtual 64, 3) := by decide +kernel
theorem d127_21 : decode (mC M127) 21 = .ok (.ireturn, 1) := by decide +kernel
theorem d127_22 : decode (mC M127) 22 = .ok (.iload_n 3, 1) := by decide +kernel
theorem d127_23 : decode (mC M127) 23 = .ok (.invokestatic 146, 3) := by decide +kernel
theorem d127_26 : decode (mC M127) 26 = .ok (.ifCond .ne 9, 3) := by decide +kernel
theorem d127_29 : decode (mC M127) 29 = .ok (.aload_n 0, 1) := by decide +kernel
theorem d127_30 : decode (mC M127) 30 = .ok (.iconst 2, 1) := by decide +kernel
theorem d127_31 : decode (mC M127) 31 = .ok (.invokevirtual 64, 3) := by decide +kernel
theorem d127_34 : decode (mC M127) 34 = .ok (.ireturn, 1) := by decide +kernel
theorem d127_35 : decode (mC M127) 35 = .ok (.aload_n 0, 1) := by decide +kernel
theorem d127_36 : decode (mC M127) 36 = .ok (.aload_n 0, 1) := by decide +kernel
theorem d127_37 : decode (mC M127) 37 = .ok (.getfield 21, 3) := by decide +kernel
theorem d127_40 : decode (mC M127) 40 = .ok (.getfield 113, 3) := by decide +kernel
theorem d127_43 : decode (mC M127) 43 = .ok (.iload_n 1, 1) := by decide +kernel
theorem d127_44 : decode (mC M127) 44 = .ok (.iload_n 2, 1) := by decide +kernel
theorem d127_45 : decode (mC M127) 45 = .ok (.iload_n 3, 1) := by decide +kernel
theorem d127_46 : decode (mC M127) 46 = .ok (.invokevirtual 216, 3) := by decide +kernel
theorem d127_49 : decode (mC M127) 49 = .ok (.invokevirtual 94, 3) := by decide +kernel
theorem d127_52 : decode (mC M127) 52 = .ok (.ireturn, 1) := by decide +kernel
theorem sc127_0 : ∀ q ∈ tc127_0, Snd xtb M127 q.1 q.2 := List.forall_mem_cons.mpr ⟨snd_aload_n d127_0 rfl, List.forall_mem_cons.mpr ⟨snd_iload_n d127_1 rfl, List.forall_mem_cons.mpr ⟨snd_callV (by decide) rfl cn156 ⟨by decide +kernel, by decide +kernel⟩ cm156 (List.forall_mem_cons.mpr ⟨wd845, cw156⟩) d127_2, List.forall_mem_cons.mpr ⟨snd_if_eq d127_5 (by decide), List.forall_mem_cons.mpr ⟨snd_aload_n d127_8 rfl, List.forall_mem_cons.mpr ⟨snd_iload_n d127_9 rfl, List.forall_mem_cons.mpr ⟨snd_callV (by decide) rfl cn158 ⟨by decide +kernel, by decide +kernel⟩ cm158 (List.forall_mem_cons.mpr ⟨wd837, cw158⟩) d127_10, List.forall_mem_cons.mpr ⟨snd_if_ne d127_13 (by decide), List.forall_mem_cons.mpr ⟨snd_aload_n d127_16 rfl, List.forall_mem_cons.mpr ⟨snd_iconst d127_17 (by decide +kernel), List.forall_mem_cons.mpr ⟨snd_callV (by decide) rfl cn154 ⟨by decide +kernel, by decide +kernel⟩ cm154 (List.forall_mem_cons.mpr ⟨wd569, cw154⟩) d127_18, List.forall_mem_cons.mpr ⟨snd_iret rfl d127_21, List.forall_mem_cons.mpr ⟨snd_iload_n d127_22 rfl, List.forall_mem_cons.mpr ⟨snd_callS cn163 ⟨by decide +kernel, by decide +kernel⟩ cm163 (List.forall_mem_cons.mpr ⟨wd861, cw163⟩) d127_23, List.forall_mem_cons.mpr ⟨snd_if_ne d127_26 (by decide), List.forall_mem_cons.mpr ⟨snd_aload_n d127_29 rfl, List.forall_mem_cons.mpr ⟨snd_iconst d127_30 (by decide +kernel), List.forall_mem_cons.mpr ⟨snd_callV (by decide) rfl cn154 ⟨by decide +kernel, by decide +kernel⟩ cm154 (List.forall_mem_cons.mpr ⟨wd569, cw154⟩) d127_31, List.forall_mem_cons.mpr ⟨snd_iret rfl d127_34, List.forall_mem_cons.mpr ⟨snd_aload_n d127_35 rfl, List.forall_mem_cons.mpr ⟨snd_aload_n d127_36 rfl, List.forall_mem_cons.mpr ⟨snd_getR (by decide) (by decide) rfl wd533 d127_37, List.forall_mem_cons.mpr ⟨snd_getR (by decide) (by decide) rfl wd367 d127_40, List.forall_mem_cons.mpr ⟨snd_iload_n d127_43 rfl, List.forall_mem_cons.mpr ⟨snd_iload_n d127_44 rfl, List.forall_mem_cons.mpr ⟨snd_iload_n d127_45 rfl, List.forall_mem_cons.mpr ⟨snd_callV (by decide) rfl cn99 ⟨by decide +kernel, by decide +kernel⟩ cm99 (List.forall_mem_cons.mpr ⟨wd1003, cw99⟩) d127_46, List.forall_mem_cons.mpr ⟨snd_callV (by decide) rfl cn153 ⟨by decide +kernel, by decide +kernel⟩ cm153 (List.forall_mem_cons.mpr ⟨wd813, cw153⟩) d127_49, List.forall_mem_cons.mpr ⟨snd_iret rfl d127_52, fun _ h => by cases h⟩⟩⟩⟩⟩⟩⟩⟩⟩⟩⟩⟩⟩⟩⟩⟩⟩⟩⟩⟩⟩⟩⟩⟩⟩⟩⟩⟩⟩
theorem d128_0 : decode (mC M128) 0 = .ok (.aload_n 0, 1) := by decide +kernel
theorem d128_1 : decode (mC M128) 1 = .ok (.iload_n 1, 1) := by decide +kernel
theorem d128_2 : decode (mC M128) 2 = .ok (.invokevirtual 123, 3) := by decide +kernel
theorem d128_5 : decode (mC M128) 5 = .ok (.ifCond .eq 11, 3) := by decide +kernel
theorem d128_8 : decode (mC M128) 8 = .ok (.aload_n 0, 1) := by decide +kernel
theorem d128_9 : decode (mC M128) 9 = .ok (.iload_n 2, 1) := by decide +kernel
theorem d128_10 : decode (mC M128) 10 = .ok (.invokevirtual 110, 3) := by decide +kernel
theorem d128_13 : decode (mC M128) 13 = .ok (.ifCond .ne 9, 3) := by decide +kernel
theorem d128_16 : decode (mC M128) 16 = .ok (.aload_n 0, 1) := by decide +kernel
theorem d128_17 : decode (mC M128) 17 = .ok (.iconst 1, 1) := by decide +kernel
theorem d128_18 : decode (mC M128) 18 = .ok (.invokevirtual 64, 3) := by decide +kernel
theorem d128_21 : decode (mC M128) 21 = .ok (.ireturn, 1) := by decide +kernel
theorem d128_22 : decode (mC M128) 22 = .ok (.iload_n 3, 1) := by decide +kernel
theorem d128_23 : decode (mC M128) 23 = .ok (.invokestatic 146, 3) := by decide +kernel
theorem d128_26 : decode (mC M128) 26 = .ok (.ifCond .eq 15, 3) := by decide +kernel
theorem d128_29 : decode (mC M128) 29 = .ok (.iload 4, 2) := by decide +kernel
theorem d128_31 : decode (mC M128) 31 = .ok (.iconst 1, 1) := by decide +kernel
theorem d128_32 : decode (mC M128) 32 = .ok (.sipush 9999, 3) := by decide +kernel
theorem d128_35 : decode (mC M128) 35 = .ok (.invokestatic 60, 3) := by decide +kernel
theorem d128_38 : decode (mC M128) 38 = .ok (.ifCond .ne 9, 3) := by decide +kernel
theorem d128_41 : decode (mC M128) 41 = .ok (.aload_n 0, 1) := by decide +kernel
theorem d128_42 : decode (mC M128) 42 = .ok (.iconst 2, 1) := by decide +kernel
theorem d128_43 : decode (mC M128) 43 = .ok (.invokevirtual 64, 3) := by decide +kernel
theorem d128_46 : decode (mC M128) 46 = .ok (.ireturn, 1) := by decide +kernel
theorem d128_47 : decode (mC M128) 47 = .ok (.aload_n 0, 1) := by decide +kernel
theorem d128_48 : decode (mC M128) 48 = .ok (.aload_n 0, 1) := by decide +kernel
theorem d128_49 : decode (mC M128) 49 = .ok (.getfield 21, 3) := by decide +kernel
theorem d128_52 : decode (mC M128) 52 = .ok (.getfield 113, 3) := by decide +kernel
theorem d128_55 : decode (mC M128) 55 = .ok (.iload_n 1, 1) := by decide +kernel
theorem d128_56 : decode (mC M128) 56 = .ok (.iload_n 2, 1) := by decide +kernel
theorem d128_57 : decode (mC M128) 57 = .ok (.iload_n 3, 1) := by decide +kernel
theorem d128_58 : decode (mC M128) 58 = .ok (.iload 4, 2) := by decide +kernel
theorem d128_60 : decode (mC M128) 60 = .ok (.invokevirtual 219, 3) := by decide +kernel
theorem d128_63 : decode (mC M128) 63 = .ok (.invokestatic 142, 3) := by decide +kernel
theorem d128_66 : decode (mC M128) 66 = .ok (.invokevirtual 94, 3) := by decide +kernel
theorem d128_69 : decode (mC M128) 69 = .ok (.ireturn, 1) := by decide +kernel
theorem sc128_0 : ∀ q ∈ tc128_0, Snd xtb M128 q.1 q.2 := List.forall_mem_cons.mpr ⟨snd_aload_n d128_0 rfl, List.forall_mem_cons.mpr ⟨snd_iload_n d128_1 rfl, List.forall_mem_cons.mpr ⟨snd_callV (by decide) rfl cn156 ⟨by decide +kernel, by decide +kernel⟩ cm156 (List.forall_mem_cons.mpr ⟨wd845, cw156⟩) d128_2, List.forall_mem_cons.mpr ⟨snd_if_eq d128_5 (by decide), List.forall_mem_cons.mpr ⟨snd_aload_n d128_8 rfl, List.forall_mem_cons.mpr ⟨snd_iload_n d128_9 rfl, List.forall_mem_cons.mpr ⟨snd_callV (by decide) rfl cn158 ⟨by decide +kernel, by decide +kernel⟩ cm158 (List.forall_mem_cons.mpr ⟨wd837, cw158⟩) d128_10, List.forall_mem_cons.mpr ⟨snd_if_ne d128_13 (by decide), List.forall_mem_cons.mpr ⟨snd_aload_n d128_16 rfl, List.forall_mem_cons.mpr ⟨snd_iconst d128_17 (by decide +kernel), List.forall_mem_cons.mpr ⟨snd_callV (by decide) rfl cn154 ⟨by decide +kernel, by decide +kernel⟩ cm154 (List.forall_mem_cons.mpr ⟨wd569, cw154⟩) d128_18, List.forall_mem_cons.mpr ⟨snd_iret rfl d128_21, List.forall_mem_cons.mpr ⟨snd_iload_n d128_22 rfl, List.forall_mem_cons.mpr ⟨snd_callS cn163 ⟨by decide +kernel, by decide +kernel⟩ cm163 (List.forall_mem_cons.mpr ⟨wd861, cw163⟩) d128_23, List.forall_mem_cons.mpr ⟨snd_if_eq d128_26 (by decide), List.forall_mem_cons.mpr ⟨snd_iload d128_29, List.forall_mem_cons.mpr ⟨snd_iconst d128_31 (by decide +kernel), List.forall_mem_cons.mpr ⟨snd_sipush d128_32 (by decide +kernel), List.forall_mem_cons.mpr ⟨snd_callS cn164 ⟨by decide +kernel, by decide +kernel⟩ cm164 (List.forall_mem_cons.mpr ⟨wd566, cw164⟩) d128_35, List.forall_mem_cons.mpr ⟨snd_if_ne d128_38 (by decide), List.forall_mem_cons.mpr ⟨snd_aload_n d128_41 rfl, List.forall_mem_cons.mpr ⟨snd_iconst d128_42 (by decide +kernel), List.forall_mem_cons.mpr ⟨snd_callV (by decide) rfl cn154 ⟨by decide +kernel, by decide +kernel⟩ cm154 (List.forall_mem_cons.mpr ⟨wd569, cw154⟩) d128_43, List.forall_mem_cons.mpr ⟨snd_iret rfl d128_46, List.forall_mem_cons.mpr ⟨snd_aload_n d128_47 rfl, List.forall_mem_cons.mpr ⟨snd_aload_n d128_48 rfl, List.forall_mem_cons.mpr ⟨snd_getR (by decide) (by decide) rfl wd533 d128_49, List.forall_mem_cons.mpr ⟨snd_getR (by decide) (by decide) rfl wd367 d128_52, List.forall_mem_cons.mpr ⟨snd_iload_n d128_55 rfl, List.forall_mem_cons.mpr ⟨snd_iload_n d128_56 rfl, fun _ h => by cases h⟩⟩⟩⟩⟩⟩⟩⟩⟩⟩⟩⟩⟩⟩⟩⟩⟩⟩⟩⟩⟩⟩⟩⟩⟩⟩⟩⟩⟩⟩
theorem sc128_1 : ∀ q ∈ tc128_1, Snd xtb M128 q.1 q.2 := List.forall_mem_cons.mpr ⟨snd_iload_n d128_57 rfl, List.forall_mem_cons.mpr ⟨snd_iload d128_58, List.forall_mem_cons.mpr ⟨snd_callV (by decide) rfl cn100 ⟨by decide +kernel, by decide +kernel⟩ cm100 (List.forall_mem_cons.mpr ⟨wd1012, cw100⟩) d128_60, List.forall_mem_cons.mpr ⟨snd_callS cn165 ⟨by decide +kernel, by decide +kernel⟩ cm165 (List.forall_mem_cons.mpr ⟨wd856, cw165⟩) d128_63, List.forall_mem_cons.mpr ⟨snd_callV (by decide) rfl cn153 ⟨by decide +kernel, by decide +kernel⟩ cm153 (List.forall_mem_cons.mpr ⟨wd813, cw153⟩) d128_66, List.forall_mem_cons.mpr ⟨snd_iret rfl d128_69, fun _ h => by cases h⟩⟩⟩⟩⟩⟩

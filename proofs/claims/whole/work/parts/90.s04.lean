/-! soundness -/
theorem d129_0 : decode (mC M129) 0 = .ok (.aload_n 0, 1) := by decide +kernel
theorem d129_1 : decode (mC M129) 1 = .ok (.iload_n 1, 1) := by decide +kernel
theorem d129_2 : decode (mC M129) 2 = .ok (.invokevirtual 123, 3) := by decide +kernel
theorem d129_5 : decode (mC M129) 5 = .ok (.ifCond .eq 11, 3) := by decide +kernel
theorem d129_8 : decode (mC M129) 8 = .ok (.aload_n 0, 1) := by decide +kernel
theorem d129_9 : decode (mC M129) 9 = .ok (.iload_n 2, 1) := by decide +kernel
theorem d129_10 : decode (mC M129) 10 = .ok (.invokevirtual 110, 3) := by decide +kernel
theorem d129_13 : decode (mC M129) 13 = .ok (.ifCond .ne 9, 3) := by decide +kernel
theorem d129_16 : decode (mC M129) 16 = .ok (.aload_n 0, 1) := by decide +kernel
theorem d129_17 : decode (mC M129) 17 = .ok (.iconst 1, 1) := by decide +kernel
theorem d129_18 : decode (mC M129) 18 = .ok (.invokevirtual 64, 3) := by decide +kernel
theorem d129_21 : decode (mC M129) 21 = .ok (.ireturn, 1) := by decide +kernel
theorem d129_22 : decode (mC M129) 22 = .ok (.aload_n 0, 1) := by decide +kernel
theorem d129_23 : decode (mC M129) 23 = .ok (.aload_n 0, 1) := by decide +kernel
theorem d129_24 : decode (mC M129) 24 = .ok (.getfield 21, 3) := by decide +kernel
theorem d129_27 : decode (mC M129) 27 = .ok (.getfield 113, 3) := by decide +kernel
theorem d129_30 : decode (mC M129) 30 = .ok (.iload_n 1, 1) := by decide +kernel
theorem d129_31 : decode (mC M129) 31 = .ok (.iload_n 2, 1) := by decide +kernel
theorem d129_32 : decode (mC M129) 32 = .ok (.invokevirtual 223, 3) := by decide +kernel
theorem d129_35 : decode (mC M129) 35 = .ok (.invokevirtual 94, 3) := by decide +kernel
theorem d129_38 : decode (mC M129) 38 = .ok (.ireturn, 1) := by decide +kernel
theorem sc129_0 : ∀ q ∈ tc129_0, Snd xtb M129 q.1 q.2 := List.forall_mem_cons.mpr ⟨snd_aload_n d129_0 rfl, List.forall_mem_cons.mpr ⟨snd_iload_n d129_1 rfl, List.forall_mem_cons.mpr ⟨snd_callV (by decide) rfl cn156 ⟨by decide +kernel, by decide +kernel⟩ cm156 (List.forall_mem_cons.mpr ⟨wd845, cw156⟩) d129_2, List.forall_mem_cons.mpr ⟨snd_if_eq d129_5 (by decide), List.forall_mem_cons.mpr ⟨snd_aload_n d129_8 rfl, List.forall_mem_cons.mpr ⟨snd_iload_n d129_9 rfl, List.forall_mem_cons.mpr ⟨snd_callV (by decide) rfl cn158 ⟨by decide +kernel, by decide +kernel⟩ cm158 (List.forall_mem_cons.mpr ⟨wd837, cw158⟩) d129_10, List.forall_mem_cons.mpr ⟨snd_if_ne d129_13 (by decide), List.forall_mem_cons.mpr ⟨snd_aload_n d129_16 rfl, List.forall_mem_cons.mpr ⟨snd_iconst d129_17 (by decide +kernel), List.forall_mem_cons.mpr ⟨snd_callV (by decide) rfl cn154 ⟨by decide +kernel, by decide +kernel⟩ cm154 (List.forall_mem_cons.mpr ⟨wd569, cw154⟩) d129_18, List.forall_mem_cons.mpr ⟨snd_iret rfl d129_21, List.forall_mem_cons.mpr ⟨snd_aload_n d129_22 rfl, List.forall_mem_cons.mpr ⟨snd_aload_n d129_23 rfl, List.forall_mem_cons.mpr ⟨snd_getR (by decide) (by decide) rfl wd533 d129_24, List.forall_mem_cons.mpr ⟨snd_getR (by decide) (by decide) rfl wd367 d129_27, List.forall_mem_cons.mpr ⟨snd_iload_n d129_30 rfl, List.forall_mem_cons.mpr ⟨snd_iload_n d129_31 rfl, List.forall_mem_cons.mpr ⟨snd_callV (by decide) rfl cn102 ⟨by decide +kernel, by decide +kernel⟩ cm102 (List.forall_mem_cons.mpr ⟨wd1025, cw102⟩) d129_32, List.forall_mem_cons.mpr ⟨snd_callV (by decide) rfl cn153 ⟨by decide +kernel, by decide +kernel⟩ cm153 (List.forall_mem_cons.mpr ⟨wd813, cw153⟩) d129_35, List.forall_mem_cons.mpr ⟨snd_iret rfl d129_38, fun _ h => by cases h⟩⟩⟩⟩⟩⟩⟩⟩⟩⟩⟩⟩⟩⟩⟩⟩⟩⟩⟩⟩⟩
theorem d130_0 : decode (mC M130) 0 = .ok (.aload_n 0, 1) := by decide +kernel
theorem d130_1 : decode (mC M130) 1 = .ok (.iload 4, 2) := by decide +kernel
theorem d130_3 : decode (mC M130) 3 = .ok (.invokevirtual 110, 3) := by decide +kernel
theorem d130_6 : decode (mC M130) 6 = .ok (.ifCond .ne 9, 3) := by decide +kernel
theorem d130_9 : decode (mC M130) 9 = .ok (.aload_n 0, 1) := by decide +kernel
theorem d130_10 : decode (mC M130) 10 = .ok (.iconst 1, 1) := by decide +kernel
theorem d130_11 : decode (mC M130) 11 = .ok (.invokevirtual 64, 3) := by decide +kernel
theorem d130_14 : decode (mC M130) 14 = .ok (.ireturn, 1) := by decide +kernel
theorem d130_15 : decode (mC M130) 15 = .ok (.iload_n 1, 1) := by decide +kernel
theorem d130_16 : decode (mC M130) 16 = .ok (.invokestatic 146, 3) := by decide +kernel
theorem d130_19 : decode (mC M130) 19 = .ok (.ifCond .eq 12, 3) := by decide +kernel
theorem d130_22 : decode (mC M130) 22 = .ok (.aload_n 0, 1) := by decide +kernel
theorem d130_23 : decode (mC M130) 23 = .ok (.iload_n 2, 1) := by decide +kernel
theorem d130_24 : decode (mC M130) 24 = .ok (.iload_n 3, 1) := by decide +kernel
theorem d130_25 : decode (mC M130) 25 = .ok (.invokevirtual 171, 3) := by decide +kernel
theorem d130_28 : decode (mC M130) 28 = .ok (.ifCond .ne 9, 3) := by decide +kernel
theorem d130_31 : decode (mC M130) 31 = .ok (.aload_n 0, 1) := by decide +kernel
theorem d130_32 : decode (mC M130) 32 = .ok (.iconst 2, 1) := by decide +kernel
theorem d130_33 : decode (mC M130) 33 = .ok (.invokevirtual 64, 3) := by decide +kernel
theorem d130_36 : decode (mC M130) 36 = .ok (.ireturn, 1) := by decide +kernel
theorem d130_37 : decode (mC M130) 37 = .ok (.aload_n 0, 1) := by decide +kernel
theorem d130_38 : decode (mC M130) 38 = .ok (.getfield 21, 3) := by decide +kernel
theorem d130_41 : decode (mC M130) 41 = .ok (.iload_n 1, 1) := by decide +kernel
theorem d130_42 : decode (mC M130) 42 = .ok (.iload 4, 2) := by decide +kernel
theorem d130_44 : decode (mC M130) 44 = .ok (.invokevirtual 226, 3) := by decide +kernel
theorem d130_47 : decode (mC M130) 47 = .ok (.aload_n 0, 1) := by decide +kernel
theorem d130_48 : decode (mC M130) 48 = .ok (.aload_n 0, 1) := by decide +kernel
theorem d130_49 : decode (mC M130) 49 = .ok (.getfield 21, 3) := by decide +kernel
theorem d130_52 : decode (mC M130) 52 = .ok (.iload_n 2, 1) := by decide +kernel
theorem d130_53 : decode (mC M130) 53 = .ok (.iload_n 3, 1) := by decide +kernel
theorem d130_54 : decode (mC M130) 54 = .ok (.invokevirtual 229, 3) := by decide +kernel
theorem d130_57 : decode (mC M130) 57 = .ok (.invokevirtual 94, 3) := by decide +kernel
theorem d130_60 : decode (mC M130) 60 = .ok (.ireturn, 1) := by decide +kernel
theorem sc130_0 : ∀ q ∈ tc130_0, Snd xtb M130 q.1 q.2 := List.forall_mem_cons.mpr ⟨snd_aload_n d130_0 rfl, List.forall_mem_cons.mpr ⟨snd_iload d130_1, List.forall_mem_cons.mpr ⟨snd_callV (by decide) rfl cn158 ⟨by decide +kernel, by decide +kernel⟩ cm158 (List.forall_mem_cons.mpr ⟨wd837, cw158⟩) d130_3, List.forall_mem_cons.mpr ⟨snd_if_ne d130_6 (by decide), List.forall_mem_cons.mpr ⟨snd_aload_n d130_9 rfl, List.forall_mem_cons.mpr ⟨snd_iconst d130_10 (by decide +kernel), List.forall_mem_cons.mpr ⟨snd_callV (by decide) rfl cn154 ⟨by decide +kernel, by decide +kernel⟩ cm154 (List.forall_mem_cons.mpr ⟨wd569, cw154⟩) d130_11, List.forall_mem_cons.mpr ⟨snd_iret rfl d130_14, List.forall_mem_cons.mpr ⟨snd_iload_n d130_15 rfl, List.forall_mem_cons.mpr ⟨snd_callS cn163 ⟨by decide +kernel, by decide +kernel⟩ cm163 (List.forall_mem_cons.mpr ⟨wd861, cw163⟩) d130_16, List.forall_mem_cons.mpr ⟨snd_if_eq d130_19 (by decide), List.forall_mem_cons.mpr ⟨snd_aload_n d130_22 rfl, List.forall_mem_cons.mpr ⟨snd_iload_n d130_23 rfl, List.forall_mem_cons.mpr ⟨snd_iload_n d130_24 rfl, List.forall_mem_cons.mpr ⟨snd_callV (by decide) rfl cn161 ⟨by decide +kernel, by decide +kernel⟩ cm161 (List.forall_mem_cons.mpr ⟨wd890, cw161⟩) d130_25, List.forall_mem_cons.mpr ⟨snd_if_ne d130_28 (by decide), List.forall_mem_cons.mpr ⟨snd_aload_n d130_31 rfl, List.forall_mem_cons.mpr ⟨snd_iconst d130_32 (by decide +kernel), List.forall_mem_cons.mpr ⟨snd_callV (by decide) rfl cn154 ⟨by decide +kernel, by decide +kernel⟩ cm154 (List.forall_mem_cons.mpr ⟨wd569, cw154⟩) d130_33, List.forall_mem_cons.mpr ⟨snd_iret rfl d130_36, List.forall_mem_cons.mpr ⟨snd_aload_n d130_37 rfl, List.forall_mem_cons.mpr ⟨snd_getR (by decide) (by decide) rfl wd533 d130_38, List.forall_mem_cons.mpr ⟨snd_iload_n d130_41 rfl, List.forall_mem_cons.mpr ⟨snd_iload d130_42, List.forall_mem_cons.mpr ⟨snd_callV (by decide) rfl cn38 ⟨by decide +kernel, by decide +kernel⟩ cm38 (List.forall_mem_cons.mpr ⟨wd1034, cw38⟩) d130_44, List.forall_mem_cons.mpr ⟨snd_aload_n d130_47 rfl, List.forall_mem_cons.mpr ⟨snd_aload_n d130_48 rfl, List.forall_mem_cons.mpr ⟨snd_getR (by decide) (by decide) rfl wd533 d130_49, List.forall_mem_cons.mpr ⟨snd_iload_n d130_52 rfl, List.forall_mem_cons.mpr ⟨snd_iload_n d130_53 rfl, fun _ h => by cases h⟩⟩⟩⟩⟩⟩⟩⟩⟩⟩⟩⟩⟩⟩⟩⟩⟩⟩⟩⟩⟩⟩⟩⟩⟩⟩⟩⟩⟩⟩
theorem sc130_1 : ∀ q ∈ tc130_1, Snd xtb M130 q.1 q.2 := List.forall_mem_cons.mpr ⟨snd_callV (by decide) rfl cn39 ⟨by decide +kernel, by decide +kernel⟩ cm39 (List.forall_mem_cons.mpr ⟨wd1040, cw39⟩) d130_54, List.forall_mem_cons.mpr ⟨snd_callV (by decide) rfl cn153 ⟨by decide +kernel, by decide +kernel⟩ cm153 (List.forall_mem_cons.mpr ⟨wd813, cw153⟩) d130_57, List.forall_mem_cons.mpr ⟨snd_iret rfl d130_60, fun _ h => by cases h⟩⟩⟩
theorem d131_0 : decode (mC M131) 0 = .ok (.aload_n 0, 1) := by decide +kernel
theorem d131_1 : decode (mC M131) 1 = .ok (.iload_n 2, 1) := by decide +kernel
theorem d131_2 : decode (mC M131) 2 = .ok (.invokevirtual 110, 3) := by decide +kernel
theorem d131_5 : decode (mC M131) 5 = .ok (.ifCond .ne 9, 3) := by decide +kernel
theorem d131_8 : decode (mC M131) 8 = .ok (.aload_n 0, 1) := by decide +kernel
theorem d131_9 : decode (mC M131) 9 = .ok (.iconst 1, 1) := by decide +kernel
theorem d131_10 : decode (mC M131) 10 = .ok (.invokevirtual 64, 3) := by decide +kernel
theorem d131_13 : decode (mC M131) 13 = .ok (.ireturn, 1) := by decide +kernel
theorem d131_14 : decode (mC M131) 14 = .ok (.iload_n 1, 1) := by decide +kernel
theorem d131_15 : decode (mC M131) 15 = .ok (.invokestatic 146, 3) := by decide +kernel
theorem d131_18 : decode (mC M131) 18 = .ok (.ifCond .ne 9, 3) := by decide +kernel
theorem d131_21 : decode (mC M131) 21 = .ok (.aload_n 0, 1) := by decide +kernel
theorem d131_22 : decode (mC M131) 22 = .ok (.iconst 2, 1) := by decide +kernel
theorem d131_23 : decode (mC M131) 23 = .ok (.invokevirtual 64, 3) := by decide +kernel
theorem d131_26 : decode (mC M131) 26 = .ok (.ireturn, 1) := by decide +kernel
theorem d131_27 : decode (mC M131) 27 = .ok (.aload_n 0, 1) := by decide +kernel
theorem d131_28 : decode (mC M131) 28 = .ok (.getfield 21, 3) := by decide +kernel
theorem d131_31 : decode (mC M131) 31 = .ok (.iload_n 1, 1) := by decide +kernel
theorem d131_32 : decode (mC M131) 32 = .ok (.iload_n 2, 1) := by decide +kernel
theorem d131_33 : decode (mC M131) 33 = .ok (.invokevirtual 226, 3) := by decide +kernel
theorem d131_36 : decode (mC M131) 36 = .ok (.aload_n 0, 1) := by decide +kernel
theorem d131_37 : decode (mC M131) 37 = .ok (.aload_n 0, 1) := by decide +kernel
theorem d131_38 : decode (mC M131) 38 = .ok (.getfield 21, 3) := by decide +kernel
theorem d131_41 : decode (mC M131) 41 = .ok (.invokevirtual 232, 3) := by decide +kernel
theorem d131_44 : decode (mC M131) 44 = .ok (.invokevirtual 94, 3) := by decide +kernel
theorem d131_47 : decode (mC M131) 47 = .ok (.ireturn, 1) := by decide +kernel
theorem sc131_0 : ∀ q ∈ tc131_0, Snd xtb M131 q.1 q.2 := List.forall_mem_cons.mpr ⟨snd_aload_n d131_0 rfl, List.forall_mem_cons.mpr ⟨snd_iload_n d131_1 rfl, List.forall_mem_cons.mpr ⟨snd_callV (by decide) rfl cn158 ⟨by decide +kernel, by decide +kernel⟩ cm158 (List.forall_mem_cons.mpr ⟨wd837, cw158⟩) d131_2, List.forall_mem_cons.mpr ⟨snd_if_ne d131_5 (by decide), List.forall_mem_cons.mpr ⟨snd_aload_n d131_8 rfl, List.forall_mem_cons.mpr ⟨snd_iconst d131_9 (by decide +kernel), List.forall_mem_cons.mpr ⟨snd_callV (by decide) rfl cn154 ⟨by decide +kernel, by decide +kernel⟩ cm154 (List.forall_mem_cons.mpr ⟨wd569, cw154⟩) d131_10, List.forall_mem_cons.mpr ⟨snd_iret rfl d131_13, List.forall_mem_cons.mpr ⟨snd_iload_n d131_14 rfl, List.forall_mem_cons.mpr ⟨snd_callS cn163 ⟨by decide +kernel, by decide +kernel⟩ cm163 (List.forall_mem_cons.mpr ⟨wd861, cw163⟩) d131_15, List.forall_mem_cons.mpr ⟨snd_if_ne d131_18 (by decide), List.forall_mem_cons.mpr ⟨snd_aload_n d131_21 rfl, List.forall_mem_cons.mpr ⟨snd_iconst d131_22 (by decide +kernel), List.forall_mem_cons.mpr ⟨snd_callV (by decide) rfl cn154 ⟨by decide +kernel, by decide +kernel⟩ cm154 (List.forall_mem_cons.mpr ⟨wd569, cw154⟩) d131_23, List.forall_mem_cons.mpr ⟨snd_iret rfl d131_26, List.forall_mem_cons.mpr ⟨snd_aload_n d131_27 rfl, List.forall_mem_cons.mpr ⟨snd_getR (by decide) (by decide) rfl wd533 d131_28, List.forall_mem_cons.mpr ⟨snd_iload_n d131_31 rfl, List.forall_mem_cons.mpr ⟨snd_iload_n d131_32 rfl, List.forall_mem_cons.mpr ⟨snd_callV (by decide) rfl cn38 ⟨by decide +kernel, by decide +kernel⟩ cm38 (List.forall_mem_cons.mpr ⟨wd1034, cw38⟩) d131_33, List.forall_mem_cons.mpr ⟨snd_aload_n d131_36 rfl, List.forall_mem_cons.mpr ⟨snd_aload_n d131_37 rfl, List.forall_mem_cons.mpr ⟨snd_getR (by decide) (by decide) rfl wd533 d131_38, List.forall_mem_cons.mpr ⟨snd_callV (by decide) rfl cn40 ⟨by decide +kernel, by decide +kernel⟩ cm40 (List.forall_mem_cons.mpr ⟨wd1049, cw40⟩) d131_41, List.forall_mem_cons.mpr ⟨snd_callV (by decide) rfl cn153 ⟨by decide +kernel, by decide +kernel⟩ cm153 (List.forall_mem_cons.mpr ⟨wd813, cw153⟩) d131_44, List.forall_mem_cons.mpr ⟨snd_iret rfl d131_47, fun _ h => by cases h⟩⟩⟩⟩⟩⟩⟩⟩⟩⟩⟩⟩⟩⟩⟩⟩⟩⟩⟩⟩⟩⟩⟩⟩⟩⟩
theorem d132_0 : decode (mC M132) 0 = .ok (.aload_n 0, 1) := by decide +kernel
theorem d132_1 : decode (mC M132) 1 = .ok (.iload 4, 2) := by decide +kernel
theorem d132_3 : decode (mC M132) 3 = .ok (.invokevirtual 110, 3) := by decide +kernel
theorem d132_6 : decode (mC M132) 6 = .ok (.ifCond .ne 9, 3) := by decide +kernel
theorem d132_9 : decode (mC M132) 9 = .ok (.aload_n 0, 1) := by decide +kernel
theorem d132_10 : decode (mC M132) 10 = .ok (.iconst 1, 1) := by decide +kernel
theorem d132_11 : decode (mC M132) 11 = .ok (.invokevirtual 64, 3) := by decide +kernel
theorem d132_14 : decode (mC M132) 14 = .ok (.ireturn, 1) := by decide +kernel
theorem d132_15 : decode (mC M132) 15 = .ok (.aload_n 0, 1) := by decide +kernel
theorem d132_16 : decode (mC M132) 16 = .ok (.iload_n 1, 1) := by decide +kernel
theorem d132_17 : decode (mC M132) 17 = .ok (.iload_n 2, 1) := by decide +kernel
theorem d132_18 : decode (mC M132) 18 = .ok (.iload_n 3, 1) := by decide +kernel
theorem d132_19 : decode (mC M132) 19 = .ok (.iload 5, 2) := by decide +kernel
theorem d132_21 : decode (mC M132) 21 = .ok (.iload 6, 2) := by decide +kernel
theorem d132_23 : decode (mC M132) 23 = .ok (.invokevirtual 236, 3) := by decide +kernel
theorem d132_26 : decode (mC M132) 26 = .ok (.ifCond .ne 9, 3) := by decide +kernel
theorem d132_29 : decode (mC M132) 29 = .ok (.aload_n 0, 1) := by decide +kernel
theorem d132_30 : decode (mC M132) 30 = .ok (.iconst 2, 1) := by decide +kernel
theorem d132_31 : decode (mC M132) 31 = .ok (.invokevirtual 64, 3) := by decide +kernel
theorem d132_34 : decode (mC M132) 34 = .ok (.ireturn, 1) := by decide +kernel
theorem d132_35 : decode (mC M132) 35 = .ok (.aload_n 0, 1) := by decide +kernel
theorem d132_36 : decode (mC M132) 36 = .ok (.getfield 42, 3) := by decide +kernel
theorem d132_39 : decode (mC M132) 39 = .ok (.iload_n 1, 1) := by decide +kernel
theorem d132_40 : decode (mC M132) 40 = .ok (.iload_n 2, 1) := by decide +kernel
theorem d132_41 : decode (mC M132) 41 = .ok (.iload_n 3, 1) := by decide +kernel
theorem d132_42 : decode (mC M132) 42 = .ok (.iload 4, 2) := by decide +kernel
theorem d132_44 : decode (mC M132) 44 = .ok (.iload 5, 2) := by decide +kernel
theorem d132_46 : decode (mC M132) 46 = .ok (.iload 6, 2) := by decide +kernel
theorem d132_48 : decode (mC M132) 48 = .ok (.invokevirtual 240, 3) := by decide +kernel
theorem d132_51 : decode (mC M132) 51 = .ok (.aload_n 0, 1) := by decide +kernel
theorem d132_52 : decode (mC M132) 52 = .ok (.aload_n 0, 1) := by decide +kernel
theorem d132_53 : decode (mC M132) 53 = .ok (.invokevirtual 244, 3) := by decide +kernel
theorem d132_56 : decode (mC M132) 56 = .ok (.invokevirtual 94, 3) := by decide +kernel
theorem d132_59 : decode (mC M132) 59 = .ok (.ireturn, 1) := by decide +kernel
theorem sc132_0 : ∀ q ∈ tc132_0, Snd xtb M132 q.1 q.2 := List.forall_mem_cons.mpr ⟨snd_aload_n d132_0 rfl, List.forall_mem_cons.mpr ⟨snd_iload d132_1, List.forall_mem_cons.mpr ⟨snd_callV (by decide) rfl cn158 ⟨by decide +kernel, by decide +kernel⟩ cm158 (List.forall_mem_cons.mpr ⟨wd837, cw158⟩) d132_3, List.forall_mem_cons.mpr ⟨snd_if_ne d132_6 (by decide), List.forall_mem_cons.mpr ⟨snd_aload_n d132_9 rfl, List.forall_mem_cons.mpr ⟨snd_iconst d132_10 (by decide +kernel), List.forall_mem_cons.mpr ⟨snd_callV (by decide) rfl cn154 ⟨by decide +kernel, by decide +kernel⟩ cm154 (List.forall_mem_cons.mpr ⟨wd569, cw154⟩) d132_11, List.forall_mem_cons.mpr ⟨snd_iret rfl d132_14, List.forall_mem_cons.mpr ⟨snd_aload_n d132_15 rfl, List.forall_mem_cons.mpr ⟨snd_iload_n d132_16 rfl, List.forall_mem_cons.mpr ⟨snd_iload_n d132_17 rfl, List.forall_mem_cons.mpr ⟨snd_iload_n d132_18 rfl, List.forall_mem_cons.mpr ⟨snd_iload d132_19, List.forall_mem_cons.mpr ⟨snd_iload d132_21, List.forall_mem_cons.mpr ⟨snd_callV (by decide) rfl cn162 ⟨by decide +kernel, by decide +kernel⟩ cm162 (List.forall_mem_cons.mpr ⟨wd1059, cw162⟩) d132_23, List.forall_mem_cons.mpr ⟨snd_if_ne d132_26 (by decide), List.forall_mem_cons.mpr ⟨snd_aload_n d132_29 rfl, List.forall_mem_cons.mpr ⟨snd_iconst d132_30 (by decide +kernel), List.forall_mem_cons.mpr ⟨snd_callV (by decide) rfl cn154 ⟨by decide +kernel, by decide +kernel⟩ cm154 (List.forall_mem_cons.mpr ⟨wd569, cw154⟩) d132_31, List.forall_mem_cons.mpr ⟨snd_iret rfl d132_34, List.forall_mem_cons.mpr ⟨snd_aload_n d132_35 rfl, List.forall_mem_cons.mpr ⟨snd_getR (by decide) (by decide) rfl wd537 d132_36, List.forall_mem_cons.mpr ⟨snd_iload_n d132_39 rfl, List.forall_mem_cons.mpr ⟨snd_iload_n d132_40 rfl, List.forall_mem_cons.mpr ⟨snd_iload_n d132_41 rfl, List.forall_mem_cons.mpr ⟨snd_iload d132_42, List.forall_mem_cons.mpr ⟨snd_iload d132_44, List.forall_mem_cons.mpr ⟨snd_iload d132_46, List.forall_mem_cons.mpr ⟨snd_callV (by decide) rfl cn54 ⟨by decide +kernel, by decide +kernel⟩ cm54 (List.forall_mem_cons.mpr ⟨wd1063, cw54⟩) d132_48, List.forall_mem_cons.mpr ⟨snd_aload_n d132_51 rfl, fun _ h => by cases h⟩⟩⟩⟩⟩⟩⟩⟩⟩⟩⟩⟩⟩⟩⟩⟩⟩⟩⟩⟩⟩⟩⟩⟩⟩⟩⟩⟩⟩⟩
theorem sc132_1 : ∀ q ∈ tc132_1, Snd xtb M132 q.1 q.2 := List.forall_mem_cons.mpr ⟨snd_aload_n d132_52 rfl, List.forall_mem_cons.mpr ⟨snd_callV (by decide) rfl cn166 ⟨by decide +kernel, by decide +kernel⟩ cm166 (List.forall_mem_cons.mpr ⟨wd1067, cw166⟩) d132_53, List.forall_mem_cons.mpr ⟨snd_callV (by decide) rfl cn153 ⟨by decide +kernel, by decide +kernel⟩ cm153 (List.forall_mem_cons.mpr ⟨wd813, cw153⟩) d132_56, List.forall_mem_cons.mpr ⟨snd_iret rfl d132_59, fun _ h => by cases h⟩⟩⟩⟩
theorem d133_0 : decode (mC M133) 0 = .ok (.aload_n 0, 1) := by decide +kernel
theorem d133_1 : decode (mC M133) 1 = .ok (.iload 5, 2) := by decide +kernel
theorem d133_3 : decode (mC M133) 3 = .ok (.invokevirtual 110, 3) := by decide +kernel
theorem d133_6 : decode (mC M133) 6 = .ok (.ifCond .ne 9, 3) := by decide +kernel
theorem d133_9 : decode (mC M133) 9 = .ok (.aload_n 0, 1) := by decide +kernel
theorem d133_10 : decode (mC M133) 10 = .ok (.iconst 1, 1) := by decide +kernel
theorem d133_11 : decode (mC M133) 11 = .ok (.invokevirtual 64, 3) := by decide +kernel
theorem d133_14 : decode (mC M133) 14 = .ok (.ireturn, 1) := by decide +kernel
theorem d133_15 : decode (mC M133) 15 = .ok (.aload_n 0, 1) := by decide +kernel
theorem d133_16 : decode (mC M133) 16 = .ok (.iload_n 1, 1) := by decide +kernel
theorem d133_17 : decode (mC M133) 17 = .ok (.iload_n 3, 1) := by decide +kernel
theorem d133_18 : decode (mC M133) 18 = .ok (.iload 4, 2) := by decide +kernel
theorem d133_20 : decode (mC M133) 20 = .ok (.iload 6, 2) := by decide +kernel
theorem d133_22 : decode (mC M133) 22 = .ok (.iload 7, 2) := by decide +kernel
theorem d133_24 : decode (mC M133) 24 = .ok (.invokevirtual 236, 3) := by decide +kernel
theorem d133_27 : decode (mC M133) 27 = .ok (.ifCond .eq 14, 3) := by decide +kernel
theorem d133_30 : decode (mC M133) 30 = .ok (.iload_n 2, 1) := by decide +kernel
theorem d133_31 : decode (mC M133) 31 = .ok (.iload_n 1, 1) := by decide +kernel
theorem d133_32 : decode (mC M133) 32 = .ok (.sipush 999, 3) := by decide +kernel
theorem d133_35 : decode (mC M133) 35 = .ok (.invokestatic 60, 3) := by decide +kernel
theorem d133_38 : decode (mC M133) 38 = .ok (.ifCond .ne 9, 3) := by decide +kernel
theorem d133_41 : decode (mC M133) 41 = .ok (.aload_n 0, 1) := by decide +kernel
theorem d133_42 : decode (mC M133) 42 = .ok (.iconst 2, 1) := by decide +kernel
theorem d133_43 : decode (mC M133) 43 = .ok (.invokevirtual 64, 3) := by decide +kernel
theorem d133_46 : decode (mC M133) 46 = .ok (.ireturn, 1) := by decide +kernel
theorem d133_47 : decode (mC M133) 47 = .ok (.aload_n 0, 1) := by decide +kernel
theorem d133_48 : decode (mC M133) 48 = .ok (.getfield 42, 3) := by decide +kernel
theorem d133_51 : decode (mC M133) 51 = .ok (.iload_n 1, 1) := by decide +kernel
theorem d133_52 : decode (mC M133) 52 = .ok (.iload_n 3, 1) := by decide +kernel
theorem d133_53 : decode (mC M133) 53 = .ok (.iload 4, 2) := by decide +kernel
theorem d133_55 : decode (mC M133) 55 = .ok (.iload 5, 2) := by decide +kernel
theorem d133_57 : decode (mC M133) 57 = .ok (.iload 6, 2) := by decide +kernel
theorem d133_59 : decode (mC M133) 59 = .ok (.iload 7, 2) := by decide +kernel
theorem d133_61 : decode (mC M133) 61 = .ok (.invokevirtual 240, 3) := by decide +kernel
theorem d133_64 : decode (mC M133) 64 = .ok (.aload_n 0, 1) := by decide +kernel
theorem d133_65 : decode (mC M133) 65 = .ok (.aload_n 0, 1) := by decide +kernel
theorem d133_66 : decode (mC M133) 66 = .ok (.iload_n 2, 1) := by decide +kernel
theorem d133_67 : decode (mC M133) 67 = .ok (.invokevirtual 247, 3) := by decide +kernel
theorem d133_70 : decode (mC M133) 70 = .ok (.invokevirtual 94, 3) := by decide +kernel
theorem d133_73 : decode (mC M133) 73 = .ok (.ireturn, 1) := by decide +kernel
theorem sc133_0 : ∀ q ∈ tc133_0, Snd xtb M133 q.1 q.2 := List.forall_mem_cons.mpr ⟨snd_aload_n d133_0 rfl, List.forall_mem_cons.mpr ⟨snd_iload d133_1, List.forall_mem_cons.mpr ⟨snd_callV (by decide) rfl cn158 ⟨by decide +kernel, by decide +kernel⟩ cm158 (List.forall_mem_cons.mpr ⟨wd837, cw158⟩) d133_3, List.forall_mem_cons.mpr ⟨snd_if_ne d133_6 (by decide), List.forall_mem_cons.mpr ⟨snd_aload_n d133_9 rfl, List.forall_mem_cons.mpr ⟨snd_iconst d133_10 (by decide +kernel), List.forall_mem_cons.mpr ⟨snd_callV (by decide) rfl cn154 ⟨by decide +kernel, by decide +kernel⟩ cm154 (List.forall_mem_cons.mpr ⟨wd569, cw154⟩) d133_11, List.forall_mem_cons.mpr ⟨snd_iret rfl d133_14, List.forall_mem_cons.mpr ⟨snd_aload_n d133_15 rfl, List.forall_mem_cons.mpr ⟨snd_iload_n d133_16 rfl, List.forall_mem_cons.mpr ⟨snd_iload_n d133_17 rfl, List.forall_mem_cons.mpr ⟨snd_iload d133_18, List.forall_mem_cons.mpr ⟨snd_iload d133_20, List.forall_mem_cons.mpr ⟨snd_iload d133_22, List.forall_mem_cons.mpr ⟨snd_callV (by decide) rfl cn162 ⟨by decide +kernel, by decide +kernel⟩ cm162 (List.forall_mem_cons.mpr ⟨wd1059, cw162⟩) d133_24, List.forall_mem_cons.mpr ⟨snd_if_eq d133_27 (by decide), List.forall_mem_cons.mpr ⟨snd_iload_n d133_30 rfl, List.forall_mem_cons.mpr ⟨snd_iload_n d133_31 rfl, List.forall_mem_cons.mpr ⟨snd_sipush d133_32 (by decide +kernel), List.forall_mem_cons.mpr ⟨snd_callS cn164 ⟨by decide +kernel, by decide +kernel⟩ cm164 (List.forall_mem_cons.mpr ⟨wd566, cw164⟩) d133_35, List.forall_mem_cons.mpr ⟨snd_if_ne d133_38 (by decide), List.forall_mem_cons.mpr ⟨snd_aload_n d133_41 rfl, List.forall_mem_cons.mpr ⟨snd_iconst d133_42 (by decide +kernel), List.forall_mem_cons.mpr ⟨snd_callV (by decide) rfl cn154 ⟨by decide +kernel, by decide +kernel⟩ cm154 (List.forall_mem_cons.mpr ⟨wd569, cw154⟩) d133_43, List.forall_mem_cons.mpr ⟨snd_iret rfl d133_46, List.forall_mem_cons.mpr ⟨snd_aload_n d133_47 rfl, List.forall_mem_cons.mpr ⟨snd_getR (by decide) (by decide) rfl wd537 d133_48, List.forall_mem_cons.mpr ⟨snd_iload_n d133_51 rfl, List.forall_mem_cons.mpr ⟨snd_iload_n d133_52 rfl, List.forall_mem_cons.mpr ⟨snd_iload d133_53, fun _ h => by cases h⟩⟩⟩⟩⟩⟩⟩⟩⟩⟩⟩⟩⟩⟩⟩⟩⟩⟩⟩⟩⟩⟩⟩⟩⟩⟩⟩⟩⟩⟩
theorem sc133_1 : ∀ q ∈ tc133_1, Snd xtb M133 q.1 q.2 := List.forall_mem_cons.mpr ⟨snd_iload d133_55, List.forall_mem_cons.mpr ⟨snd_iload d133_57, List.forall_mem_cons.mpr ⟨snd_iload d133_59, List.forall_mem_cons.mpr ⟨snd_callV (by decide) rfl cn54 ⟨by decide +kernel, by decide +kernel⟩ cm54 (List.forall_mem_cons.mpr ⟨wd1063, cw54⟩) d133_61, List.forall_mem_cons.mpr ⟨snd_aload_n d133_64 rfl, List.forall_mem_cons.mpr ⟨snd_aload_n d133_65 rfl, List.forall_mem_cons.mpr ⟨snd_iload_n d133_66 rfl, List.forall_mem_cons.mpr ⟨snd_callV (by decide) rfl cn167 ⟨by decide +kernel, by decide +kernel⟩ cm167 (List.forall_mem_cons.mpr ⟨wd1100, cw167⟩) d133_67, List.forall_mem_cons.mpr ⟨snd_callV (by decide) rfl cn153 ⟨by decide +kernel, by decide +kernel⟩ cm153 (List.forall_mem_cons.mpr ⟨wd813, cw153⟩) d133_70, List.forall_mem_cons.mpr ⟨snd_iret rfl d133_73, fun _ h => by cases h⟩⟩⟩⟩⟩⟩⟩⟩⟩⟩
theorem d134_0 : decode (mC M134) 0 = .ok (.aload_n 0, 1) := by decide +kernel
theorem d134_1 : decode (mC M134) 1 = .ok (.iload_n 1, 1) := by decide +kernel
theorem d134_2 : decode (mC M134) 2 = .ok (.invokevirtual 250, 3) := by decide +kernel
theorem d134_5 : decode (mC M134) 5 = .ok (.ifCond .eq 13, 3) := by decide +kernel
theorem d134_8 : decode (mC M134) 8 = .ok (.iload_n 2, 1) := by decide +kernel
theorem d134_9 : decode (mC M134) 9 = .ok (.iconst 0, 1) := by decide +kernel
theorem d134_10 : decode (mC M134) 10 = .ok (.bipush 9, 2) := by decide +kernel
theorem d134_12 : decode (mC M134) 12 = .ok (.invokestatic 60, 3) := by decide +kernel
theorem d134_15 : decode (mC M134) 15 = .ok (.ifCond .ne 9, 3) := by decide +kernel
theorem d134_18 : decode (mC M134) 18 = .ok (.aload_n 0, 1) := by decide +kernel
theorem d134_19 : decode (mC M134) 19 = .ok (.iconst 1, 1) := by decide +kernel
theorem d134_20 : decode (mC M134) 20 = .ok (.invokevirtual 64, 3) := by decide +kernel
theorem d134_23 : decode (mC M134) 23 = .ok (.ireturn, 1) := by decide +kernel
theorem d134_24 : decode (mC M134) 24 = .ok (.aload_n 0, 1) := by decide +kernel
theorem d134_25 : decode (mC M134) 25 = .ok (.aload_n 0, 1) := by decide +kernel
theorem d134_26 : decode (mC M134) 26 = .ok (.getfield 28, 3) := by decide +kernel
theorem d134_29 : decode (mC M134) 29 = .ok (.getfield 253, 3) := by decide +kernel
theorem d134_32 : decode (mC M134) 32 = .ok (.iload_n 1, 1) := by decide +kernel
theorem d134_33 : decode (mC M134) 33 = .ok (.aaload, 1) := by decide +kernel
theorem d134_34 : decode (mC M134) 34 = .ok (.iload_n 2, 1) := by decide +kernel
theorem d134_35 : decode (mC M134) 35 = .ok (.invokevirtual 257, 3) := by decide +kernel
theorem d134_38 : decode (mC M134) 38 = .ok (.invokevirtual 94, 3) := by decide +kernel
theorem d134_41 : decode (mC M134) 41 = .ok (.ireturn, 1) := by decide +kernel
theorem sc134_0 : ∀ q ∈ tc134_0, Snd xtb M134 q.1 q.2 := List.forall_mem_cons.mpr ⟨snd_aload_n d134_0 rfl, List.forall_mem_cons.mpr ⟨snd_iload_n d134_1 rfl, List.forall_mem_cons.mpr ⟨snd_callV (by decide) rfl cn159 ⟨by decide +kernel, by decide +kernel⟩ cm159 (List.forall_mem_cons.mpr ⟨wd1121, cw159⟩) d134_2, List.forall_mem_cons.mpr ⟨snd_if_eq d134_5 (by decide), List.forall_mem_cons.mpr ⟨snd_iload_n d134_8 rfl, List.forall_mem_cons.mpr ⟨snd_iconst d134_9 (by decide +kernel), List.forall_mem_cons.mpr ⟨snd_bipush d134_10 (by decide +kernel), List.forall_mem_cons.mpr ⟨snd_callS cn164 ⟨by decide +kernel, by decide +kernel⟩ cm164 (List.forall_mem_cons.mpr ⟨wd566, cw164⟩) d134_12, List.forall_mem_cons.mpr ⟨snd_if_ne d134_15 (by decide), List.forall_mem_cons.mpr ⟨snd_aload_n d134_18 rfl, List.forall_mem_cons.mpr ⟨snd_iconst d134_19 (by decide +kernel), List.forall_mem_cons.mpr ⟨snd_callV (by decide) rfl cn154 ⟨by decide +kernel, by decide +kernel⟩ cm154 (List.forall_mem_cons.mpr ⟨wd569, cw154⟩) d134_20, List.forall_mem_cons.mpr ⟨snd_iret rfl d134_23, List.forall_mem_cons.mpr ⟨snd_aload_n d134_24 rfl, List.forall_mem_cons.mpr ⟨snd_aload_n d134_25 rfl, List.forall_mem_cons.mpr ⟨snd_getR (by decide) (by decide) rfl wd535 d134_26, List.forall_mem_cons.mpr ⟨snd_getR (by decide) (by decide) rfl wd479 d134_29, List.forall_mem_cons.mpr ⟨snd_iload_n d134_32 rfl, List.forall_mem_cons.mpr ⟨snd_aald d134_33, List.forall_mem_cons.mpr ⟨snd_iload_n d134_34 rfl, List.forall_mem_cons.mpr ⟨snd_callV (by decide) rfl cn60 ⟨by decide +kernel, by decide +kernel⟩ cm60 (List.forall_mem_cons.mpr ⟨wd1125, cw60⟩) d134_35, List.forall_mem_cons.mpr ⟨snd_callV (by decide) rfl cn153 ⟨by decide +kernel, by decide +kernel⟩ cm153 (List.forall_mem_cons.mpr ⟨wd813, cw153⟩) d134_38, List.forall_mem_cons.mpr ⟨snd_iret rfl d134_41, fun _ h => by cases h⟩⟩⟩⟩⟩⟩⟩⟩⟩⟩⟩⟩⟩⟩⟩⟩⟩⟩⟩⟩⟩⟩⟩
theorem d135_0 : decode (mC M135) 0 = .ok (.aload_n 0, 1) := by decide +kernel
theorem d135_1 : decode (mC M135) 1 = .ok (.iload_n 1, 1) := by decide +kernel
theorem d135_2 : decode (mC M135) 2 = .ok (.invokevirtual 250, 3) := by decide +kernel
theorem d135_5 : decode (mC M135) 5 = .ok (.ifCond .eq 34, 3) := by decide +kernel
theorem d135_8 : decode (mC M135) 8 = .ok (.iload_n 2, 1) := by decide +kernel
theorem d135_9 : decode (mC M135) 9 = .ok (.iconst 0, 1) := by decide +kernel
theorem d135_10 : decode (mC M135) 10 = .ok (.aload_n 0, 1) := by decide +kernel
theorem d135_11 : decode (mC M135) 11 = .ok (.getfield 28, 3) := by decide +kernel
theorem d135_14 : decode (mC M135) 14 = .ok (.getfield 253, 3) := by decide +kernel
theorem d135_17 : decode (mC M135) 17 = .ok (.iload_n 1, 1) := by decide +kernel
theorem d135_18 : decode (mC M135) 18 = .ok (.aaload, 1) := by decide +kernel
theorem d135_19 : decode (mC M135) 19 = .ok (.getfield 258, 3) := by decide +kernel
theorem d135_22 : decode (mC M135) 22 = .ok (.iconst 1, 1) := by decide +kernel
theorem d135_23 : decode (mC M135) 23 = .ok (.isub, 1) := by decide +kernel
theorem d135_24 : decode (mC M135) 24 = .ok (.invokestatic 60, 3) := by decide +kernel
theorem d135_27 : decode (mC M135) 27 = .ok (.ifCond .eq 12, 3) := by decide +kernel
theorem d135_30 : decode (mC M135) 30 = .ok (.iload_n 3, 1) := by decide +kernel
theorem d135_31 : decode (mC M135) 31 = .ok (.iconst 0, 1) := by decide +kernel
theorem d135_32 : decode (mC M135) 32 = .ok (.iconst 5, 1) := by decide +kernel
theorem d135_33 : decode (mC M135) 33 = .ok (.invokestatic 60, 3) := by decide +kernel
theorem d135_36 : decode (mC M135) 36 = .ok (.ifCond .ne 9, 3) := by decide +kernel
theorem d135_39 : decode (mC M135) 39 = .ok (.aload_n 0, 1) := by decide +kernel
theorem d135_40 : decode (mC M135) 40 = .ok (.iconst 1, 1) := by decide +kernel
theorem d135_41 : decode (mC M135) 41 = .ok (.invokevirtual 64, 3) := by decide +kernel
theorem d135_44 : decode (mC M135) 44 = .ok (.ireturn, 1) := by decide +kernel
theorem d135_45 : decode (mC M135) 45 = .ok (.aload_n 0, 1) := by decide +kernel
theorem d135_46 : decode (mC M135) 46 = .ok (.aload_n 0, 1) := by decide +kernel
theorem d135_47 : decode (mC M135) 47 = .ok (.getfield 28, 3) := by decide +kernel
theorem d135_50 : decode (mC M135) 50 = .ok (.getfield 253, 3) := by decide +kernel
theorem d135_53 : decode (mC M135) 53 = .ok (.iload_n 1, 1) := by decide +kernel
theorem d135_54 : decode (mC M135) 54 = .ok (.aaload, 1) := by decide +kernel
theorem d135_55 : decode (mC M135) 55 = .ok (.iload_n 2, 1) := by decide +kernel
theorem d135_56 : decode (mC M135) 56 = .ok (.iload_n 3, 1) := by decide +kernel
theorem d135_57 : decode (mC M135) 57 = .ok (.invokevirtual 261, 3) := by decide +kernel
theorem d135_60 : decode (mC M135) 60 = .ok (.invokevirtual 94, 3) := by decide +kernel
theorem d135_63 : decode (mC M135) 63 = .ok (.ireturn, 1) := by decide +kernel
theorem sc135_0 : ∀ q ∈ tc135_0, Snd xtb M135 q.1 q.2 := List.forall_mem_cons.mpr ⟨snd_aload_n d135_0 rfl, List.forall_mem_cons.mpr ⟨snd_iload_n d135_1 rfl, List.forall_mem_cons.mpr ⟨snd_callV (by decide) rfl cn159 ⟨by decide +kernel, by decide +kernel⟩ cm159 (List.forall_mem_cons.mpr ⟨wd1121, cw159⟩) d135_2, List.forall_mem_cons.mpr ⟨snd_if_eq d135_5 (by decide), List.forall_mem_cons.mpr ⟨snd_iload_n d135_8 rfl, List.forall_mem_cons.mpr ⟨snd_iconst d135_9 (by decide +kernel), List.forall_mem_cons.mpr ⟨snd_aload_n d135_10 rfl, List.forall_mem_cons.mpr ⟨snd_getR (by decide) (by decide) rfl wd535 d135_11, List.forall_mem_cons.mpr ⟨snd_getR (by decide) (by decide) rfl wd479 d135_14, List.forall_mem_cons.mpr ⟨snd_iload_n d135_17 rfl, List.forall_mem_cons.mpr ⟨snd_aald d135_18, List.forall_mem_cons.mpr ⟨snd_getI (by decide) (by decide) rfl wd443 d135_19, List.forall_mem_cons.mpr ⟨snd_iconst d135_22 (by decide +kernel), List.forall_mem_cons.mpr ⟨snd_isub d135_23, List.forall_mem_cons.mpr ⟨snd_callS cn164 ⟨by decide +kernel, by decide +kernel⟩ cm164 (List.forall_mem_cons.mpr ⟨wd566, cw164⟩) d135_24, List.forall_mem_cons.mpr ⟨snd_if_eq d135_27 (by decide), List.forall_mem_cons.mpr ⟨snd_iload_n d135_30 rfl, List.forall_mem_cons.mpr ⟨snd_iconst d135_31 (by decide +kernel), List.forall_mem_cons.mpr ⟨snd_iconst d135_32 (by decide +kernel), List.forall_mem_cons.mpr ⟨snd_callS cn164 ⟨by decide +kernel, by decide +kernel⟩ cm164 (List.forall_mem_cons.mpr ⟨wd566, cw164⟩) d135_33, List.forall_mem_cons.mpr ⟨snd_if_ne d135_36 (by decide), List.forall_mem_cons.mpr ⟨snd_aload_n d135_39 rfl, List.forall_mem_cons.mpr ⟨snd_iconst d135_40 (by decide +kernel), List.forall_mem_cons.mpr ⟨snd_callV (by decide) rfl cn154 ⟨by decide +kernel, by decide +kernel⟩ cm154 (List.forall_mem_cons.mpr ⟨wd569, cw154⟩) d135_41, List.forall_mem_cons.mpr ⟨snd_iret rfl d135_44, List.forall_mem_cons.mpr ⟨snd_aload_n d135_45 rfl, List.forall_mem_cons.mpr ⟨snd_aload_n d135_46 rfl, List.forall_mem_cons.mpr ⟨snd_getR (by decide) (by decide) rfl wd535 d135_47, List.forall_mem_cons.mpr ⟨snd_getR (by decide) (by decide) rfl wd479 d135_50, List.forall_mem_cons.mpr ⟨snd_iload_n d135_53 rfl, fun _ h => by cases h⟩⟩⟩⟩⟩⟩⟩⟩⟩⟩⟩⟩⟩⟩⟩⟩⟩⟩⟩⟩⟩⟩⟩⟩⟩⟩⟩⟩⟩⟩
theorem sc135_1 : ∀ q ∈ tc135_1, Snd xtb M135 q.1 q.2 := List.forall_mem_cons.mpr ⟨snd_aald d135_54, List.forall_mem_cons.mpr ⟨snd_iload_n d135_55 rfl, List.forall_mem_cons.mpr ⟨snd_iload_n d135_56 rfl, List.forall_mem_cons.mpr ⟨snd_callV (by decide) rfl cn61 ⟨by decide +kernel, by decide +kernel⟩ cm61 (List.forall_mem_cons.mpr ⟨wd1135, cw61⟩) d135_57, List.forall_mem_cons.mpr ⟨snd_callV (by decide) rfl cn153 ⟨by decide +kernel, by decide +kernel⟩ cm153 (List.forall_mem_cons.mpr ⟨wd813, cw153⟩) d135_60, List.forall_mem_cons.mpr ⟨snd_iret rfl d135_63, fun _ h => by cases h⟩⟩⟩⟩⟩⟩
theorem d136_0 : decode (mC M136) 0 = .ok (.aload_n 0, 1) := by decide +kernel
theorem d136_1 : decode (mC M136) 1 = .ok (.getfield 75, 3) := by decide +kernel
theorem d136_4 : decode (mC M136) 4 = .ok (.ifCond .eq 17, 3) := by decide +kernel
theorem d136_7 : decode (mC M136) 7 = .ok (.aload_n 0, 1) := by decide +kernel
theorem d136_8 : decode (mC M136) 8 = .ok (.aload_n 0, 1) := by decide +kernel
theorem d136_9 : decode (mC M136) 9 = .ok (.getfield 28, 3) := by decide +kernel
theorem d136_12 : decode (mC M136) 12 = .ok (.invokevirtual 264, 3) := by decide +kernel
theorem d136_15 : decode (mC M136) 15 = .ok (.invokevirtual 94, 3) := by decide +kernel
theorem d136_18 : decode (mC M136) 18 = .ok (.goto 8, 3) := by decide +kernel
theorem d136_21 : decode (mC M136) 21 = .ok (.aload_n 0, 1) := by decide +kernel
theorem d136_22 : decode (mC M136) 22 = .ok (.iconst 1, 1) := by decide +kernel
theorem d136_23 : decode (mC M136) 23 = .ok (.invokevirtual 64, 3) := by decide +kernel
theorem d136_26 : decode (mC M136) 26 = .ok (.ireturn, 1) := by decide +kernel
theorem sc136_0 : ∀ q ∈ tc136_0, Snd xtb M136 q.1 q.2 := List.forall_mem_cons.mpr ⟨snd_aload_n d136_0 rfl, List.forall_mem_cons.mpr ⟨snd_getI (by decide) (by decide) rfl wd534 d136_1, List.forall_mem_cons.mpr ⟨snd_if_eq d136_4 (by decide), List.forall_mem_cons.mpr ⟨snd_aload_n d136_7 rfl, List.forall_mem_cons.mpr ⟨snd_aload_n d136_8 rfl, List.forall_mem_cons.mpr ⟨snd_getR (by decide) (by decide) rfl wd535 d136_9, List.forall_mem_cons.mpr ⟨snd_callV (by decide) rfl cn11 ⟨by decide +kernel, by decide +kernel⟩ cm11 (List.forall_mem_cons.mpr ⟨wd1143, cw11⟩) d136_12, List.forall_mem_cons.mpr ⟨snd_callV (by decide) rfl cn153 ⟨by decide +kernel, by decide +kernel⟩ cm153 (List.forall_mem_cons.mpr ⟨wd813, cw153⟩) d136_15, List.forall_mem_cons.mpr ⟨snd_goto d136_18 (by decide), List.forall_mem_cons.mpr ⟨snd_aload_n d136_21 rfl, List.forall_mem_cons.mpr ⟨snd_iconst d136_22 (by decide +kernel), List.forall_mem_cons.mpr ⟨snd_callV (by decide) rfl cn154 ⟨by decide +kernel, by decide +kernel⟩ cm154 (List.forall_mem_cons.mpr ⟨wd569, cw154⟩) d136_23, List.forall_mem_cons.mpr ⟨snd_iret rfl d136_26, fun _ h => by cases h⟩⟩⟩⟩⟩⟩⟩⟩⟩⟩⟩⟩⟩
theorem d137_0 : decode (mC M137) 0 = .ok (.aload_n 0, 1) := by decide +kernel
theorem d137_1 : decode (mC M137) 1 = .ok (.getfield 75, 3) := by decide +kernel
theorem d137_4 : decode (mC M137) 4 = .ok (.ifCond .eq 29, 3) := by decide +kernel
theorem d137_7 : decode (mC M137) 7 = .ok (.iload_n 1, 1) := by decide +kernel
theorem d137_8 : decode (mC M137) 8 = .ok (.iconst 0, 1) := by decide +kernel
theorem d137_9 : decode (mC M137) 9 = .ok (.aload_n 0, 1) := by decide +kernel
theorem d137_10 : decode (mC M137) 10 = .ok (.getfield 28, 3) := by decide +kernel
theorem d137_13 : decode (mC M137) 13 = .ok (.invokevirtual 264, 3) := by decide +kernel
theorem d137_16 : decode (mC M137) 16 = .ok (.iconst 1, 1) := by decide +kernel
theorem d137_17 : decode (mC M137) 17 = .ok (.isub, 1) := by decide +kernel
theorem d137_18 : decode (mC M137) 18 = .ok (.invokestatic 60, 3) := by decide +kernel
theorem d137_21 : decode (mC M137) 21 = .ok (.ifCond .eq 12, 3) := by decide +kernel
theorem d137_24 : decode (mC M137) 24 = .ok (.iload_n 2, 1) := by decide +kernel
theorem d137_25 : decode (mC M137) 25 = .ok (.iconst 0, 1) := by decide +kernel
theorem d137_26 : decode (mC M137) 26 = .ok (.iconst 2, 1) := by decide +kernel
theorem d137_27 : decode (mC M137) 27 = .ok (.invokestatic 60, 3) := by decide +kernel
theorem d137_30 : decode (mC M137) 30 = .ok (.ifCond .ne 9, 3) := by decide +kernel
theorem d137_33 : decode (mC M137) 33 = .ok (.aload_n 0, 1) := by decide +kernel
theorem d137_34 : decode (mC M137) 34 = .ok (.iconst 1, 1) := by decide +kernel
theorem d137_35 : decode (mC M137) 35 = .ok (.invokevirtual 64, 3) := by decide +kernel
theorem d137_38 : decode (mC M137) 38 = .ok (.ireturn, 1) := by decide +kernel
theorem d137_39 : decode (mC M137) 39 = .ok (.aload_n 0, 1) := by decide +kernel
theorem d137_40 : decode (mC M137) 40 = .ok (.getfield 28, 3) := by decide +kernel
theorem d137_43 : decode (mC M137) 43 = .ok (.getfield 267, 3) := by decide +kernel
theorem d137_46 : decode (mC M137) 46 = .ok (.iload_n 1, 1) := by decide +kernel
theorem d137_47 : decode (mC M137) 47 = .ok (.iaload, 1) := by decide +kernel
theorem d137_48 : decode (mC M137) 48 = .ok (.istore_n 3, 1) := by decide +kernel
theorem d137_49 : decode (mC M137) 49 = .ok (.aload_n 0, 1) := by decide +kernel
theorem d137_50 : decode (mC M137) 50 = .ok (.getfield 28, 3) := by decide +kernel
theorem d137_53 : decode (mC M137) 53 = .ok (.getfield 270, 3) := by decide +kernel
theorem d137_56 : decode (mC M137) 56 = .ok (.iload_n 1, 1) := by decide +kernel
theorem d137_57 : decode (mC M137) 57 = .ok (.iaload, 1) := by decide +kernel
theorem d137_58 : decode (mC M137) 58 = .ok (.istore 4, 2) := by decide +kernel
theorem d137_60 : decode (mC M137) 60 = .ok (.iload_n 2, 1) := by decide +kernel
theorem d137_61 : decode (mC M137) 61 = .ok (.iconst 2, 1) := by decide +kernel
theorem d137_62 : decode (mC M137) 62 = .ok (.if_icmp .ne 18, 3) := by decide +kernel
theorem d137_65 : decode (mC M137) 65 = .ok (.aload_n 0, 1) := by decide +kernel
theorem d137_66 : decode (mC M137) 66 = .ok (.aload_n 0, 1) := by decide +kernel
theorem d137_67 : decode (mC M137) 67 = .ok (.getfield 28, 3) := by decide +kernel
theorem d137_70 : decode (mC M137) 70 = .ok (.iload_n 3, 1) := by decide +kernel
theorem d137_71 : decode (mC M137) 71 = .ok (.iload 4, 2) := by decide +kernel
theorem d137_73 : decode (mC M137) 73 = .ok (.invokevirtual 273, 3) := by decide +kernel
theorem d137_76 : decode (mC M137) 76 = .ok (.invokevirtual 94, 3) := by decide +kernel
theorem d137_79 : decode (mC M137) 79 = .ok (.ireturn, 1) := by decide +kernel
theorem d137_80 : decode (mC M137) 80 = .ok (.aload_n 0, 1) := by decide +kernel
theorem d137_81 : decode (mC M137) 81 = .ok (.iload_n 2, 1) := by decide +kernel
theorem d137_82 : decode (mC M137) 82 = .ok (.ifCond .ne 7, 3) := by decide +kernel
theorem d137_85 : decode (mC M137) 85 = .ok (.iload_n 3, 1) := by decide +kernel
theorem d137_86 : decode (mC M137) 86 = .ok (.goto 5, 3) := by decide +kernel
theorem d137_89 : decode (mC M137) 89 = .ok (.iload 4, 2) := by decide +kernel
theorem d137_91 : decode (mC M137) 91 = .ok (.invokevirtual 94, 3) := by decide +kernel
theorem d137_94 : decode (mC M137) 94 = .ok (.ireturn, 1) := by decide +kernel
theorem sc137_0 : ∀ q ∈ tc137_0, Snd xtb M137 q.1 q.2 := List.forall_mem_cons.mpr ⟨snd_aload_n d137_0 rfl, List.forall_mem_cons.mpr ⟨snd_getI (by decide) (by decide) rfl wd534 d137_1, List.forall_mem_cons.mpr ⟨snd_if_eq d137_4 (by decide), List.forall_mem_cons.mpr ⟨snd_iload_n d137_7 rfl, List.forall_mem_cons.mpr ⟨snd_iconst d137_8 (by decide +kernel), List.forall_mem_cons.mpr ⟨snd_aload_n d137_9 rfl, List.forall_mem_cons.mpr ⟨snd_getR (by decide) (by decide) rfl wd535 d137_10, List.forall_mem_cons.mpr ⟨snd_callV (by decide) rfl cn11 ⟨by decide +kernel, by decide +kernel⟩ cm11 (List.forall_mem_cons.mpr ⟨wd1143, cw11⟩) d137_13, List.forall_mem_cons.mpr ⟨snd_iconst d137_16 (by decide +kernel), List.forall_mem_cons.mpr ⟨snd_isub d137_17, List.forall_mem_cons.mpr ⟨snd_callS cn164 ⟨by decide +kernel, by decide +kernel⟩ cm164 (List.forall_mem_cons.mpr ⟨wd566, cw164⟩) d137_18, List.forall_mem_cons.mpr ⟨snd_if_eq d137_21 (by decide), List.forall_mem_cons.mpr ⟨snd_iload_n d137_24 rfl, List.forall_mem_cons.mpr ⟨snd_iconst d137_25 (by decide +kernel), List.forall_mem_cons.mpr ⟨snd_iconst d137_26 (by decide +kernel), List.forall_mem_cons.mpr ⟨snd_callS cn164 ⟨by decide +kernel, by decide +kernel⟩ cm164 (List.forall_mem_cons.mpr ⟨wd566, cw164⟩) d137_27, List.forall_mem_cons.mpr ⟨snd_if_ne d137_30 (by decide), List.forall_mem_cons.mpr ⟨snd_aload_n d137_33 rfl, List.forall_mem_cons.mpr ⟨snd_iconst d137_34 (by decide +kernel), List.forall_mem_cons.mpr ⟨snd_callV (by decide) rfl cn154 ⟨by decide +kernel, by decide +kernel⟩ cm154 (List.forall_mem_cons.mpr ⟨wd569, cw154⟩) d137_35, List.forall_mem_cons.mpr ⟨snd_iret rfl d137_38, List.forall_mem_cons.mpr ⟨snd_aload_n d137_39 rfl, List.forall_mem_cons.mpr ⟨snd_getR (by decide) (by decide) rfl wd535 d137_40, List.forall_mem_cons.mpr ⟨snd_getR (by decide) (by decide) rfl wd486 d137_43, List.forall_mem_cons.mpr ⟨snd_iload_n d137_46 rfl, List.forall_mem_cons.mpr ⟨snd_iald d137_47, List.forall_mem_cons.mpr ⟨snd_istore_n d137_48 rfl, List.forall_mem_cons.mpr ⟨snd_aload_n d137_49 rfl, List.forall_mem_cons.mpr ⟨snd_getR (by decide) (by decide) rfl wd535 d137_50, List.forall_mem_cons.mpr ⟨snd_getR (by decide) (by decide) rfl wd488 d137_53, fun _ h => by cases h⟩⟩⟩⟩⟩⟩⟩⟩⟩⟩⟩⟩⟩⟩⟩⟩⟩⟩⟩⟩⟩⟩⟩⟩⟩⟩⟩⟩⟩⟩
theorem sc137_1 : ∀ q ∈ tc137_1, Snd xtb M137 q.1 q.2 := List.forall_mem_cons.mpr ⟨snd_iload_n d137_56 rfl, List.forall_mem_cons.mpr ⟨snd_iald d137_57, List.forall_mem_cons.mpr ⟨snd_istore d137_58, List.forall_mem_cons.mpr ⟨snd_iload_n d137_60 rfl, List.forall_mem_cons.mpr ⟨snd_iconst d137_61 (by decide +kernel), List.forall_mem_cons.mpr ⟨snd_cmp_ne d137_62 (by decide), List.forall_mem_cons.mpr ⟨snd_aload_n d137_65 rfl, List.forall_mem_cons.mpr ⟨snd_aload_n d137_66 rfl, List.forall_mem_cons.mpr ⟨snd_getR (by decide) (by decide) rfl wd535 d137_67, List.forall_mem_cons.mpr ⟨snd_iload_n d137_70 rfl, List.forall_mem_cons.mpr ⟨snd_iload d137_71, List.forall_mem_cons.mpr ⟨snd_callV (by decide) rfl cn10 ⟨by decide +kernel, by decide +kernel⟩ cm10 (List.forall_mem_cons.mpr ⟨wd1151, cw10⟩) d137_73, List.forall_mem_cons.mpr ⟨snd_callV (by decide) rfl cn153 ⟨by decide +kernel, by decide +kernel⟩ cm153 (List.forall_mem_cons.mpr ⟨wd813, cw153⟩) d137_76, List.forall_mem_cons.mpr ⟨snd_iret rfl d137_79, List.forall_mem_cons.mpr ⟨snd_aload_n d137_80 rfl, List.forall_mem_cons.mpr ⟨snd_iload_n d137_81 rfl, List.forall_mem_cons.mpr ⟨snd_if_ne d137_82 (by decide), List.forall_mem_cons.mpr ⟨snd_iload_n d137_85 rfl, List.forall_mem_cons.mpr ⟨snd_goto d137_86 (by decide), List.forall_mem_cons.mpr ⟨snd_iload d137_89, List.forall_mem_cons.mpr ⟨snd_callV (by decide) rfl cn153 ⟨by decide +kernel, by decide +kernel⟩ cm153 (List.forall_mem_cons.mpr ⟨wd813, cw153⟩) d137_91, List.forall_mem_cons.mpr ⟨snd_iret rfl d137_94, fun _ h => by cases h⟩⟩⟩⟩⟩⟩⟩⟩⟩⟩⟩⟩⟩⟩⟩⟩⟩⟩⟩⟩⟩⟩
theorem d138_0 : decode (mC M138) 0 = .ok (.aload_n 0, 1) := by decide +kernel
theorem d138_1 : decode (mC M138) 1 = .ok (.iload_n 1, 1) := by decide +kernel
theorem d138_2 : decode (mC M138) 2 = .ok (.invokevirtual 276, 3) := by decide +kernel
theorem d138_5 : decode (mC M138) 5 = .ok (.ifCond .eq 16, 3) := by decide +kernel
theorem d138_8 : decode (mC M138) 8 = .ok (.iload_n 2, 1) := by decide +kernel
theorem d138_9 : decode (mC M138) 9 = .ok (.iconst (-1), 1) := by decide +kernel
theorem d138_10 : decode (mC M138) 10 = .ok (.if_icmp .eq 17, 3) := by decide +kernel
theorem d138_13 : decode (mC M138) 13 = .ok (.aload_n 0, 1) := by decide +kernel
theorem d138_14 : decode (mC M138) 14 = .ok (.iload_n 2, 1) := by decide +kernel
theorem d138_15 : decode (mC M138) 15 = .ok (.invokevirtual 110, 3) := by decide +kernel
theorem d138_18 : decode (mC M138) 18 = .ok (.ifCond .ne 9, 3) := by decide +kernel
theorem d138_21 : decode (mC M138) 21 = .ok (.aload_n 0, 1) := by decide +kernel
theorem d138_22 : decode (mC M138) 22 = .ok (.iconst 1, 1) := by decide +kernel
theorem d138_23 : decode (mC M138) 23 = .ok (.invokevirtual 64, 3) := by decide +kernel
theorem d138_26 : decode (mC M138) 26 = .ok (.ireturn, 1) := by decide +kernel
theorem d138_27 : decode (mC M138) 27 = .ok (.aload_n 0, 1) := by decide +kernel
theorem d138_28 : decode (mC M138) 28 = .ok (.aload_n 0, 1) := by decide +kernel
theorem d138_29 : decode (mC M138) 29 = .ok (.getfield 28, 3) := by decide +kernel
theorem d138_32 : decode (mC M138) 32 = .ok (.iload_n 1, 1) := by decide +kernel
theorem d138_33 : decode (mC M138) 33 = .ok (.iload_n 2, 1) := by decide +kernel
theorem d138_34 : decode (mC M138) 34 = .ok (.invokevirtual 273, 3) := by decide +kernel
theorem d138_37 : decode (mC M138) 37 = .ok (.invokevirtual 94, 3) := by decide +kernel
theorem d138_40 : decode (mC M138) 40 = .ok (.ireturn, 1) := by decide +kernel
theorem sc138_0 : ∀ q ∈ tc138_0, Snd xtb M138 q.1 q.2 := List.forall_mem_cons.mpr ⟨snd_aload_n d138_0 rfl, List.forall_mem_cons.mpr ⟨snd_iload_n d138_1 rfl, List.forall_mem_cons.mpr ⟨snd_callV (by decide) rfl cn157 ⟨by decide +kernel, by decide +kernel⟩ cm157 (List.forall_mem_cons.mpr ⟨wd1160, cw157⟩) d138_2, List.forall_mem_cons.mpr ⟨snd_if_eq d138_5 (by decide), List.forall_mem_cons.mpr ⟨snd_iload_n d138_8 rfl, List.forall_mem_cons.mpr ⟨snd_iconst d138_9 (by decide +kernel), List.forall_mem_cons.mpr ⟨snd_cmp_eq d138_10 (by decide), List.forall_mem_cons.mpr ⟨snd_aload_n d138_13 rfl, List.forall_mem_cons.mpr ⟨snd_iload_n d138_14 rfl, List.forall_mem_cons.mpr ⟨snd_callV (by decide) rfl cn158 ⟨by decide +kernel, by decide +kernel⟩ cm158 (List.forall_mem_cons.mpr ⟨wd837, cw158⟩) d138_15, List.forall_mem_cons.mpr ⟨snd_if_ne d138_18 (by decide), List.forall_mem_cons.mpr ⟨snd_aload_n d138_21 rfl, List.forall_mem_cons.mpr ⟨snd_iconst d138_22 (by decide +kernel), List.forall_mem_cons.mpr ⟨snd_callV (by decide) rfl cn154 ⟨by decide +kernel, by decide +kernel⟩ cm154 (List.forall_mem_cons.mpr ⟨wd569, cw154⟩) d138_23, List.forall_mem_cons.mpr ⟨snd_iret rfl d138_26, List.forall_mem_cons.mpr ⟨snd_aload_n d138_27 rfl, List.forall_mem_cons.mpr ⟨snd_aload_n d138_28 rfl, List.forall_mem_cons.mpr ⟨snd_getR (by decide) (by decide) rfl wd535 d138_29, List.forall_mem_cons.mpr ⟨snd_iload_n d138_32 rfl, List.forall_mem_cons.mpr ⟨snd_iload_n d138_33 rfl, List.forall_mem_cons.mpr ⟨snd_callV (by decide) rfl cn10 ⟨by decide +kernel, by decide +kernel⟩ cm10 (List.forall_mem_cons.mpr ⟨wd1151, cw10⟩) d138_34, List.forall_mem_cons.mpr ⟨snd_callV (by decide) rfl cn153 ⟨by decide +kernel, by decide +kernel⟩ cm153 (List.forall_mem_cons.mpr ⟨wd813, cw153⟩) d138_37, List.forall_mem_cons.mpr ⟨snd_iret rfl d138_40, fun _ h => by cases h⟩⟩⟩⟩⟩⟩⟩⟩⟩⟩⟩⟩⟩⟩⟩⟩⟩⟩⟩⟩⟩⟩⟩
theorem d139_0 : decode (mC M139) 0 = .ok (.aload_n 0, 1) := by decide +kernel
theorem d139_1 : decode (mC M139) 1 = .ok (.getfield 75, 3) := by decide +kernel
theorem d139_4 : decode (mC M139) 4 = .ok (.ifCond .eq 17, 3) := by decide +kernel
theorem d139_7 : decode (mC M139) 7 = .ok (.aload_n 0, 1) := by decide +kernel
theorem d139_8 : decode (mC M139) 8 = .ok (.aload_n 0, 1) := by decide +kernel
theorem d139_9 : decode (mC M139) 9 = .ok (.getfield 28, 3) := by decide +kernel
theorem d139_12 : decode (mC M139) 12 = .ok (.getfield 279, 3) := by decide +kernel
theorem d139_15 : decode (mC M139) 15 = .ok (.invokevirtual 94, 3) := by decide +kernel
theorem d139_18 : decode (mC M139) 18 = .ok (.goto 8, 3) := by decide +kernel
theorem d139_21 : decode (mC M139) 21 = .ok (.aload_n 0, 1) := by decide +kernel
theorem d139_22 : decode (mC M139) 22 = .ok (.iconst 1, 1) := by decide +kernel
theorem d139_23 : decode (mC M139) 23 = .ok (.invokevirtual 64, 3) := by decide +kernel
theorem d139_26 : decode (mC M139) 26 = .ok (.ireturn, 1) := by decide +kernel
theorem sc139_0 : ∀ q ∈ tc139_0, Snd xtb M139 q.1 q.2 := List.forall_mem_cons.mpr ⟨snd_aload_n d139_0 rfl, List.forall_mem_cons.mpr ⟨snd_getI (by decide) (by decide) rfl wd534 d139_1, List.forall_mem_cons.mpr ⟨snd_if_eq d139_4 (by decide), List.forall_mem_cons.mpr ⟨snd_aload_n d139_7 rfl, List.forall_mem_cons.mpr ⟨snd_aload_n d139_8 rfl, List.forall_mem_cons.mpr ⟨snd_getR (by decide) (by decide) rfl wd535 d139_9, List.forall_mem_cons.mpr ⟨snd_getI (by decide) (by decide) rfl wd481 d139_12, List.forall_mem_cons.mpr ⟨snd_callV (by decide) rfl cn153 ⟨by decide +kernel, by decide +kernel⟩ cm153 (List.forall_mem_cons.mpr ⟨wd813, cw153⟩) d139_15, List.forall_mem_cons.mpr ⟨snd_goto d139_18 (by decide), List.forall_mem_cons.mpr ⟨snd_aload_n d139_21 rfl, List.forall_mem_cons.mpr ⟨snd_iconst d139_22 (by decide +kernel), List.forall_mem_cons.mpr ⟨snd_callV (by decide) rfl cn154 ⟨by decide +kernel, by decide +kernel⟩ cm154 (List.forall_mem_cons.mpr ⟨wd569, cw154⟩) d139_23, List.forall_mem_cons.mpr ⟨snd_iret rfl d139_26, fun _ h => by cases h⟩⟩⟩⟩⟩⟩⟩⟩⟩⟩⟩⟩⟩
theorem d140_0 : decode (mC M140) 0 = .ok (.aload_n 0, 1) := by decide +kernel
theorem d140_1 : decode (mC M140) 1 = .ok (.iload_n 1, 1) := by decide +kernel
theorem d140_2 : decode (mC M140) 2 = .ok (.invokevirtual 282, 3) := by decide +kernel
theorem d140_5 : decode (mC M140) 5 = .ok (.ifCond .eq 12, 3) := by decide +kernel
theorem d140_8 : decode (mC M140) 8 = .ok (.iload_n 2, 1) := by decide +kernel
theorem d140_9 : decode (mC M140) 9 = .ok (.iconst 0, 1) := by decide +kernel
theorem d140_10 : decode (mC M140) 10 = .ok (.iconst 1, 1) := by decide +kernel
theorem d140_11 : decode (mC M140) 11 = .ok (.invokestatic 60, 3) := by decide +kernel
theorem d140_14 : decode (mC M140) 14 = .ok (.ifCond .ne 9, 3) := by decide +kernel
theorem d140_17 : decode (mC M140) 17 = .ok (.aload_n 0, 1) := by decide +kernel
theorem d140_18 : decode (mC M140) 18 = .ok (.iconst 1, 1) := by decide +kernel
theorem d140_19 : decode (mC M140) 19 = .ok (.invokevirtual 64, 3) := by decide +kernel
theorem d140_22 : decode (mC M140) 22 = .ok (.ireturn, 1) := by decide +kernel
theorem d140_23 : decode (mC M140) 23 = .ok (.aload_n 0, 1) := by decide +kernel
theorem d140_24 : decode (mC M140) 24 = .ok (.iload_n 2, 1) := by decide +kernel
theorem d140_25 : decode (mC M140) 25 = .ok (.ifCond .ne 15, 3) := by decide +kernel
theorem d140_28 : decode (mC M140) 28 = .ok (.aload_n 0, 1) := by decide +kernel
theorem d140_29 : decode (mC M140) 29 = .ok (.getfield 28, 3) := by decide +kernel
theorem d140_32 : decode (mC M140) 32 = .ok (.getfield 285, 3) := by decide +kernel
theorem d140_35 : decode (mC M140) 35 = .ok (.iload_n 1, 1) := by decide +kernel
theorem d140_36 : decode (mC M140) 36 = .ok (.iaload, 1) := by decide +kernel
theorem d140_37 : decode (mC M140) 37 = .ok (.goto 11, 3) := by decide +kernel
theorem d140_40 : decode (mC M140) 40 = .ok (.aload_n 0, 1) := by decide +kernel
theorem d140_41 : decode (mC M140) 41 = .ok (.getfield 28, 3) := by decide +kernel
theorem d140_44 : decode (mC M140) 44 = .ok (.iload_n 1, 1) := by decide +kernel
theorem d140_45 : decode (mC M140) 45 = .ok (.invokevirtual 288, 3) := by decide +kernel
theorem d140_48 : decode (mC M140) 48 = .ok (.invokevirtual 94, 3) := by decide +kernel
theorem d140_51 : decode (mC M140) 51 = .ok (.ireturn, 1) := by decide +kernel
theorem sc140_0 : ∀ q ∈ tc140_0, Snd xtb M140 q.1 q.2 := List.forall_mem_cons.mpr ⟨snd_aload_n d140_0 rfl, List.forall_mem_cons.mpr ⟨snd_iload_n d140_1 rfl, List.forall_mem_cons.mpr ⟨snd_callV (by decide) rfl cn160 ⟨by decide +kernel, by decide +kernel⟩ cm160 (List.forall_mem_cons.mpr ⟨wd1172, cw160⟩) d140_2, List.forall_mem_cons.mpr ⟨snd_if_eq d140_5 (by decide), List.forall_mem_cons.mpr ⟨snd_iload_n d140_8 rfl, List.forall_mem_cons.mpr ⟨snd_iconst d140_9 (by decide +kernel), List.forall_mem_cons.mpr ⟨snd_iconst d140_10 (by decide +kernel), List.forall_mem_cons.mpr ⟨snd_callS cn164 ⟨by decide +kernel, by decide +kernel⟩ cm164 (List.forall_mem_cons.mpr ⟨wd566, cw164⟩) d140_11, List.forall_mem_cons.mpr ⟨snd_if_ne d140_14 (by decide), List.forall_mem_cons.mpr ⟨snd_aload_n d140_17 rfl, List.forall_mem_cons.mpr ⟨snd_iconst d140_18 (by decide +kernel), List.forall_mem_cons.mpr ⟨snd_callV (by decide) rfl cn154 ⟨by decide +kernel, by decide +kernel⟩ cm154 (List.forall_mem_cons.mpr ⟨wd569, cw154⟩) d140_19, List.forall_mem_cons.mpr ⟨snd_iret rfl d140_22, List.forall_mem_cons.mpr ⟨snd_aload_n d140_23 rfl, List.forall_mem_cons.mpr ⟨snd_iload_n d140_24 rfl, List.forall_mem_cons.mpr ⟨snd_if_ne d140_25 (by decide), List.forall_mem_cons.mpr ⟨snd_aload_n d140_28 rfl, List.forall_mem_cons.mpr ⟨snd_getR (by decide) (by decide) rfl wd535 d140_29, List.forall_mem_cons.mpr ⟨snd_getR (by decide) (by decide) rfl wd483 d140_32, List.forall_mem_cons.mpr ⟨snd_iload_n d140_35 rfl, List.forall_mem_cons.mpr ⟨snd_iald d140_36, List.forall_mem_cons.mpr ⟨snd_goto d140_37 (by decide), List.forall_mem_cons.mpr ⟨snd_aload_n d140_40 rfl, List.forall_mem_cons.mpr ⟨snd_getR (by decide) (by decide) rfl wd535 d140_41, List.forall_mem_cons.mpr ⟨snd_iload_n d140_44 rfl, List.forall_mem_cons.mpr ⟨snd_callV (by decide) rfl cn13 ⟨by decide +kernel, by decide +kernel⟩ cm13 (List.forall_mem_cons.mpr ⟨wd1176, cw13⟩) d140_45, List.forall_mem_cons.mpr ⟨snd_callV (by decide) rfl cn153 ⟨by decide +kernel, by decide +kernel⟩ cm153 (List.forall_mem_cons.mpr ⟨wd813, cw153⟩) d140_48, List.forall_mem_cons.mpr ⟨snd_iret rfl d140_51, fun _ h => by cases h⟩⟩⟩⟩⟩⟩⟩⟩⟩⟩⟩⟩⟩⟩⟩⟩⟩⟩⟩⟩⟩⟩⟩⟩⟩⟩⟩⟩
theorem d141_0 : decode (mC M141) 0 = .ok (.aload_n 0, 1) := by decide +kernel
theorem d141_1 : decode (mC M141) 1 = .ok (.iload_n 1, 1) := by decide +kernel
theorem d141_2 : decode (mC M141) 2 = .ok (.invokevirtual 282, 3) := by decide +kernel
theorem d141_5 : decode (mC M141) 5 = .ok (.ifCond .eq 11, 3) := by decide +kernel
theorem d141_8 : decode (mC M141) 8 = .ok (.aload_n 0, 1) := by decide +kernel
theorem d141_9 : decode (mC M141) 9 = .ok (.iload_n 2, 1) := by decide +kernel
theorem d141_10 : decode (mC M141) 10 = .ok (.invokevirtual 276, 3) := by decide +kernel
theorem d141_13 : decode (mC M141) 13 = .ok (.ifCond .ne 9, 3) := by decide +kernel
theorem d141_16 : decode (mC M141) 16 = .ok (.aload_n 0, 1) := by decide +kernel
theorem d141_17 : decode (mC M141) 17 = .ok (.iconst 1, 1) := by decide +kernel
theorem d141_18 : decode (mC M141) 18 = .ok (.invokevirtual 165, 3) := by decide +kernel
theorem d141_21 : decode (mC M141) 21 = .ok (.ireturn, 1) := by decide +kernel
theorem d141_22 : decode (mC M141) 22 = .ok (.aload_n 0, 1) := by decide +kernel
theorem d141_23 : decode (mC M141) 23 = .ok (.aload_n 0, 1) := by decide +kernel
theorem d141_24 : decode (mC M141) 24 = .ok (.getfield 28, 3) := by decide +kernel
theorem d141_27 : decode (mC M141) 27 = .ok (.iload_n 1, 1) := by decide +kernel
theorem d141_28 : decode (mC M141) 28 = .ok (.iload_n 2, 1) := by decide +kernel
theorem d141_29 : decode (mC M141) 29 = .ok (.invokevirtual 291, 3) := by decide +kernel
theorem d141_32 : decode (mC M141) 32 = .ok (.invokevirtual 94, 3) := by decide +kernel
theorem d141_35 : decode (mC M141) 35 = .ok (.ireturn, 1) := by decide +kernel
theorem sc141_0 : ∀ q ∈ tc141_0, Snd xtb M141 q.1 q.2 := List.forall_mem_cons.mpr ⟨snd_aload_n d141_0 rfl, List.forall_mem_cons.mpr ⟨snd_iload_n d141_1 rfl, List.forall_mem_cons.mpr ⟨snd_callV (by decide) rfl cn160 ⟨by decide +kernel, by decide +kernel⟩ cm160 (List.forall_mem_cons.mpr ⟨wd1172, cw160⟩) d141_2, List.forall_mem_cons.mpr ⟨snd_if_eq d141_5 (by decide), List.forall_mem_cons.mpr ⟨snd_aload_n d141_8 rfl, List.forall_mem_cons.mpr ⟨snd_iload_n d141_9 rfl, List.forall_mem_cons.mpr ⟨snd_callV (by decide) rfl cn157 ⟨by decide +kernel, by decide +kernel⟩ cm157 (List.forall_mem_cons.mpr ⟨wd1160, cw157⟩) d141_10, List.forall_mem_cons.mpr ⟨snd_if_ne d141_13 (by decide), List.forall_mem_cons.mpr ⟨snd_aload_n d141_16 rfl, List.forall_mem_cons.mpr ⟨snd_iconst d141_17 (by decide +kernel), List.forall_mem_cons.mpr ⟨snd_callV (by decide) rfl cn155 ⟨by decide +kernel, by decide +kernel⟩ cm155 (List.forall_mem_cons.mpr ⟨wd877, cw155⟩) d141_18, List.forall_mem_cons.mpr ⟨snd_iret rfl d141_21, List.forall_mem_cons.mpr ⟨snd_aload_n d141_22 rfl, List.forall_mem_cons.mpr ⟨snd_aload_n d141_23 rfl, List.forall_mem_cons.mpr ⟨snd_getR (by decide) (by decide) rfl wd535 d141_24, List.forall_mem_cons.mpr ⟨snd_iload_n d141_27 rfl, List.forall_mem_cons.mpr ⟨snd_iload_n d141_28 rfl, List.forall_mem_cons.mpr ⟨snd_callV (by decide) rfl cn14 ⟨by decide +kernel, by decide +kernel⟩ cm14 (List.forall_mem_cons.mpr ⟨wd1185, cw14⟩) d141_29, List.forall_mem_cons.mpr ⟨snd_callV (by decide) rfl cn153 ⟨by decide +kernel, by decide +kernel⟩ cm153 (List.forall_mem_cons.mpr ⟨wd813, cw153⟩) d141_32, List.forall_mem_cons.mpr ⟨snd_iret rfl d141_35, fun _ h => by cases h⟩⟩⟩⟩⟩⟩⟩⟩⟩⟩⟩⟩⟩⟩⟩⟩⟩⟩⟩⟩
theorem d142_0 : decode (mC M142) 0 = .ok (.aload_n 0, 1) := by decide +kernel
theorem d142_1 : decode (mC M142) 1 = .ok (.iload_n 2, 1) := by decide +kernel
theorem d142_2 : decode (mC M142) 2 = .ok (.invokevirtual 276, 3) := by decide +kernel
theorem d142_5 : decode (mC M142) 5 = .ok (.ifCond .ne 9, 3) := by decide +kernel
theorem d142_8 : decode (mC M142) 8 = .ok (.aload_n 0, 1) := by decide +kernel
theorem d142_9 : decode (mC M142) 9 = .ok (.iconst 1, 1) := by decide +kernel
theorem d142_10 : decode (mC M142) 10 = .ok (.invokevirtual 165, 3) := by decide +kernel
theorem d142_13 : decode (mC M142) 13 = .ok (.ireturn, 1) := by decide +kernel
theorem d142_14 : decode (mC M142) 14 = .ok (.iload_n 1, 1) := by decide +kernel
theorem d142_15 : decode (mC M142) 15 = .ok (.aload_n 0, 1) := by decide +kernel
theorem d142_16 : decode (mC M142) 16 = .ok (.getfield 28, 3) := by decide +kernel
theorem d142_19 : decode (mC M142) 19 = .ok (.invokevirtual 294, 3) := by decide +kernel
theorem d142_22 : decode (mC M142) 22 = .ok (.iconst 1, 1) := by decide +kernel
theorem d142_23 : decode (mC M142) 23 = .ok (.iadd, 1) := by decide +kernel
theorem d142_24 : decode (mC M142) 24 = .ok (.sipush 999, 3) := by decide +kernel
theorem d142_27 : decode (mC M142) 27 = .ok (.invokestatic 60, 3) := by decide +kernel
theorem d142_30 : decode (mC M142) 30 = .ok (.ifCond .ne 9, 3) := by decide +kernel
theorem d142_33 : decode (mC M142) 33 = .ok (.aload_n 0, 1) := by decide +kernel
theorem d142_34 : decode (mC M142) 34 = .ok (.iconst 2, 1) := by decide +kernel
theorem d142_35 : decode (mC M142) 35 = .ok (.invokevirtual 165, 3) := by decide +kernel
theorem d142_38 : decode (mC M142) 38 = .ok (.ireturn, 1) := by decide +kernel
theorem d142_39 : decode (mC M142) 39 = .ok (.aload_n 0, 1) := by decide +kernel
theorem d142_40 : decode (mC M142) 40 = .ok (.aload_n 0, 1) := by decide +kernel
theorem d142_41 : decode (mC M142) 41 = .ok (.getfield 28, 3) := by decide +kernel
theorem d142_44 : decode (mC M142) 44 = .ok (.iload_n 1, 1) := by decide +kernel
theorem d142_45 : decode (mC M142) 45 = .ok (.iload_n 2, 1) := by decide +kernel
theorem d142_46 : decode (mC M142) 46 = .ok (.invokevirtual 297, 3) := by decide +kernel
theorem d142_49 : decode (mC M142) 49 = .ok (.invokevirtual 94, 3) := by decide +kernel
theorem d142_52 : decode (mC M142) 52 = .ok (.ireturn, 1) := by decide +kernel
theorem sc142_0 : ∀ q ∈ tc142_0, Snd xtb M142 q.1 q.2 := List.forall_mem_cons.mpr ⟨snd_aload_n d142_0 rfl, List.forall_mem_cons.mpr ⟨snd_iload_n d142_1 rfl, List.forall_mem_cons.mpr ⟨snd_callV (by decide) rfl cn157 ⟨by decide +kernel, by decide +kernel⟩ cm157 (List.forall_mem_cons.mpr ⟨wd1160, cw157⟩) d142_2, List.forall_mem_cons.mpr ⟨snd_if_ne d142_5 (by decide), List.forall_mem_cons.mpr ⟨snd_aload_n d142_8 rfl, List.forall_mem_cons.mpr ⟨snd_iconst d142_9 (by decide +kernel), List.forall_mem_cons.mpr ⟨snd_callV (by decide) rfl cn155 ⟨by decide +kernel, by decide +kernel⟩ cm155 (List.forall_mem_cons.mpr ⟨wd877, cw155⟩) d142_10, List.forall_mem_cons.mpr ⟨snd_iret rfl d142_13, List.forall_mem_cons.mpr ⟨snd_iload_n d142_14 rfl, List.forall_mem_cons.mpr ⟨snd_aload_n d142_15 rfl, List.forall_mem_cons.mpr ⟨snd_getR (by decide) (by decide) rfl wd535 d142_16, List.forall_mem_cons.mpr ⟨snd_callV (by decide) rfl cn12 ⟨by decide +kernel, by decide +kernel⟩ cm12 (List.forall_mem_cons.mpr ⟨wd1193, cw12⟩) d142_19, List.forall_mem_cons.mpr ⟨snd_iconst d142_22 (by decide +kernel), List.forall_mem_cons.mpr ⟨snd_iadd d142_23, List.forall_mem_cons.mpr ⟨snd_sipush d142_24 (by decide +kernel), List.forall_mem_cons.mpr ⟨snd_callS cn164 ⟨by decide +kernel, by decide +kernel⟩ cm164 (List.forall_mem_cons.mpr ⟨wd566, cw164⟩) d142_27, List.forall_mem_cons.mpr ⟨snd_if_ne d142_30 (by decide), List.forall_mem_cons.mpr ⟨snd_aload_n d142_33 rfl, List.forall_mem_cons.mpr ⟨snd_iconst d142_34 (by decide +kernel), List.forall_mem_cons.mpr ⟨snd_callV (by decide) rfl cn155 ⟨by decide +kernel, by decide +kernel⟩ cm155 (List.forall_mem_cons.mpr ⟨wd877, cw155⟩) d142_35, List.forall_mem_cons.mpr ⟨snd_iret rfl d142_38, List.forall_mem_cons.mpr ⟨snd_aload_n d142_39 rfl, List.forall_mem_cons.mpr ⟨snd_aload_n d142_40 rfl, List.forall_mem_cons.mpr ⟨snd_getR (by decide) (by decide) rfl wd535 d142_41, List.forall_mem_cons.mpr ⟨snd_iload_n d142_44 rfl, List.forall_mem_cons.mpr ⟨snd_iload_n d142_45 rfl, List.forall_mem_cons.mpr ⟨snd_callV (by decide) rfl cn15 ⟨by decide +kernel, by decide +kernel⟩ cm15 (List.forall_mem_cons.mpr ⟨wd1197, cw15⟩) d142_46, List.forall_mem_cons.mpr ⟨snd_callV (by decide) rfl cn153 ⟨by decide +kernel, by decide +kernel⟩ cm153 (List.forall_mem_cons.mpr ⟨wd813, cw153⟩) d142_49, List.forall_mem_cons.mpr ⟨snd_iret rfl d142_52, fun _ h => by cases h⟩⟩⟩⟩⟩⟩⟩⟩⟩⟩⟩⟩⟩⟩⟩⟩⟩⟩⟩⟩⟩⟩⟩⟩⟩⟩⟩⟩⟩
theorem d143_0 : decode (mC M143) 0 = .ok (.aload_n 0, 1) := by decide +kernel
theorem d143_1 : decode (mC M143) 1 = .ok (.getfield 75, 3) := by decide +kernel
theorem d143_4 : decode (mC M143) 4 = .ok (.ifCond .ne 9, 3) := by decide +kernel
theorem d143_7 : decode (mC M143) 7 = .ok (.aload_n 0, 1) := by decide +kernel
theorem d143_8 : decode (mC M143) 8 = .ok (.iconst 1, 1) := by decide +kernel
theorem d143_9 : decode (mC M143) 9 = .ok (.invokevirtual 64, 3) := by decide +kernel
theorem d143_12 : decode (mC M143) 12 = .ok (.ireturn, 1) := by decide +kernel
theorem d143_13 : decode (mC M143) 13 = .ok (.iconst 0, 1) := by decide +kernel
theorem d143_14 : decode (mC M143) 14 = .ok (.istore_n 1, 1) := by decide +kernel
theorem d143_15 : decode (mC M143) 15 = .ok (.iconst 0, 1) := by decide +kernel
theorem d143_16 : decode (mC M143) 16 = .ok (.istore_n 2, 1) := by decide +kernel
theorem d143_17 : decode (mC M143) 17 = .ok (.iload_n 2, 1) := by decide +kernel
theorem d143_18 : decode (mC M143) 18 = .ok (.aload_n 0, 1) := by decide +kernel
theorem d143_19 : decode (mC M143) 19 = .ok (.getfield 28, 3) := by decide +kernel
theorem d143_22 : decode (mC M143) 22 = .ok (.getfield 106, 3) := by decide +kernel
theorem d143_25 : decode (mC M143) 25 = .ok (.if_icmp .ge 36, 3) := by decide +kernel
theorem d143_28 : decode (mC M143) 28 = .ok (.iload_n 1, 1) := by decide +kernel
theorem d143_29 : decode (mC M143) 29 = .ok (.aload_n 0, 1) := by decide +kernel
theorem d143_30 : decode (mC M143) 30 = .ok (.aload_n 0, 1) := by decide +kernel
theorem d143_31 : decode (mC M143) 31 = .ok (.getfield 28, 3) := by decide +kernel
theorem d143_34 : decode (mC M143) 34 = .ok (.getfield 253, 3) := by decide +kernel
theorem d143_37 : decode (mC M143) 37 = .ok (.iload_n 2, 1) := by decide +kernel
theorem d143_38 : decode (mC M143) 38 = .ok (.aaload, 1) := by decide +kernel
theorem d143_39 : decode (mC M143) 39 = .ok (.invokevirtual 300, 3) := by decide +kernel
theorem d143_42 : decode (mC M143) 42 = .ok (.ifCond .eq 7, 3) := by decide +kernel
theorem d143_45 : decode (mC M143) 45 = .ok (.iconst 1, 1) := by decide +kernel
theorem d143_46 : decode (mC M143) 46 = .ok (.goto 4, 3) := by decide +kernel
theorem d143_49 : decode (mC M143) 49 = .ok (.iconst 0, 1) := by decide +kernel
theorem d143_50 : decode (mC M143) 50 = .ok (.invokestatic 142, 3) := by decide +kernel
theorem d143_53 : decode (mC M143) 53 = .ok (.iadd, 1) := by decide +kernel
theorem d143_54 : decode (mC M143) 54 = .ok (.istore_n 1, 1) := by decide +kernel
theorem d143_55 : decode (mC M143) 55 = .ok (.iinc 2 1, 3) := by decide +kernel
theorem d143_58 : decode (mC M143) 58 = .ok (.goto (-41), 3) := by decide +kernel
theorem d143_61 : decode (mC M143) 61 = .ok (.aload_n 0, 1) := by decide +kernel
theorem d143_62 : decode (mC M143) 62 = .ok (.iload_n 1, 1) := by decide +kernel
theorem d143_63 : decode (mC M143) 63 = .ok (.invokevirtual 94, 3) := by decide +kernel
theorem d143_66 : decode (mC M143) 66 = .ok (.ireturn, 1) := by decide +kernel
theorem sc143_0 : ∀ q ∈ tc143_0, Snd xtb M143 q.1 q.2 := List.forall_mem_cons.mpr ⟨snd_aload_n d143_0 rfl, List.forall_mem_cons.mpr ⟨snd_getI (by decide) (by decide) rfl wd534 d143_1, List.forall_mem_cons.mpr ⟨snd_if_ne d143_4 (by decide), List.forall_mem_cons.mpr ⟨snd_aload_n d143_7 rfl, List.forall_mem_cons.mpr ⟨snd_iconst d143_8 (by decide +kernel), List.forall_mem_cons.mpr ⟨snd_callV (by decide) rfl cn154 ⟨by decide +kernel, by decide +kernel⟩ cm154 (List.forall_mem_cons.mpr ⟨wd569, cw154⟩) d143_9, List.forall_mem_cons.mpr ⟨snd_iret rfl d143_12, List.forall_mem_cons.mpr ⟨snd_iconst d143_13 (by decide +kernel), List.forall_mem_cons.mpr ⟨snd_istore_n d143_14 rfl, List.forall_mem_cons.mpr ⟨snd_iconst d143_15 (by decide +kernel), List.forall_mem_cons.mpr ⟨snd_istore_n d143_16 rfl, List.forall_mem_cons.mpr ⟨snd_iload_n d143_17 rfl, List.forall_mem_cons.mpr ⟨snd_aload_n d143_18 rfl, List.forall_mem_cons.mpr ⟨snd_getR (by decide) (by decide) rfl wd535 d143_19, List.forall_mem_cons.mpr ⟨snd_getI (by decide) (by decide) rfl wd477 d143_22, List.forall_mem_cons.mpr ⟨snd_cmp_ge d143_25 (by decide), List.forall_mem_cons.mpr ⟨snd_iload_n d143_28 rfl, List.forall_mem_cons.mpr ⟨snd_aload_n d143_29 rfl, List.forall_mem_cons.mpr ⟨snd_aload_n d143_30 rfl, List.forall_mem_cons.mpr ⟨snd_getR (by decide) (by decide) rfl wd535 d143_31, List.forall_mem_cons.mpr ⟨snd_getR (by decide) (by decide) rfl wd479 d143_34, List.forall_mem_cons.mpr ⟨snd_iload_n d143_37 rfl, List.forall_mem_cons.mpr ⟨snd_aald d143_38, List.forall_mem_cons.mpr ⟨snd_callV (by decide) rfl cn168 ⟨by decide +kernel, by decide +kernel⟩ cm168 (List.forall_mem_cons.mpr ⟨wd1206, cw168⟩) d143_39, List.forall_mem_cons.mpr ⟨snd_if_eq d143_42 (by decide), List.forall_mem_cons.mpr ⟨snd_iconst d143_45 (by decide +kernel), List.forall_mem_cons.mpr ⟨snd_goto d143_46 (by decide), List.forall_mem_cons.mpr ⟨snd_iconst d143_49 (by decide +kernel), List.forall_mem_cons.mpr ⟨snd_callS cn165 ⟨by decide +kernel, by decide +kernel⟩ cm165 (List.forall_mem_cons.mpr ⟨wd856, cw165⟩) d143_50, List.forall_mem_cons.mpr ⟨snd_iadd d143_53, fun _ h => by cases h⟩⟩⟩⟩⟩⟩⟩⟩⟩⟩⟩⟩⟩⟩⟩⟩⟩⟩⟩⟩⟩⟩⟩⟩⟩⟩⟩⟩⟩⟩
theorem sc143_1 : ∀ q ∈ tc143_1, Snd xtb M143 q.1 q.2 := List.forall_mem_cons.mpr ⟨snd_istore_n d143_54 rfl, List.forall_mem_cons.mpr ⟨snd_iinc d143_55 (by decide +kernel), List.forall_mem_cons.mpr ⟨snd_goto d143_58 (by decide), List.forall_mem_cons.mpr ⟨snd_aload_n d143_61 rfl, List.forall_mem_cons.mpr ⟨snd_iload_n d143_62 rfl, List.forall_mem_cons.mpr ⟨snd_callV (by decide) rfl cn153 ⟨by decide +kernel, by decide +kernel⟩ cm153 (List.forall_mem_cons.mpr ⟨wd813, cw153⟩) d143_63, List.forall_mem_cons.mpr ⟨snd_iret rfl d143_66, fun _ h => by cases h⟩⟩⟩⟩⟩⟩⟩
theorem d144_0 : decode (mC M144) 0 = .ok (.aload_n 0, 1) := by decide +kernel
theorem d144_1 : decode (mC M144) 1 = .ok (.iload_n 1, 1) := by decide +kernel
theorem d144_2 : decode (mC M144) 2 = .ok (.invokevirtual 250, 3) := by decide +kernel
theorem d144_5 : decode (mC M144) 5 = .ok (.ifCond .eq 23, 3) := by decide +kernel
theorem d144_8 : decode (mC M144) 8 = .ok (.aload_n 0, 1) := by decide +kernel
theorem d144_9 : decode (mC M144) 9 = .ok (.aload_n 0, 1) := by decide +kernel
theorem d144_10 : decode (mC M144) 10 = .ok (.aload_n 0, 1) := by decide +kernel
theorem d144_11 : decode (mC M144) 11 = .ok (.getfield 28, 3) := by decide +kernel
theorem d144_14 : decode (mC M144) 14 = .ok (.getfield 253, 3) := by decide +kernel
theorem d144_17 : decode (mC M144) 17 = .ok (.iload_n 1, 1) := by decide +kernel
theorem d144_18 : decode (mC M144) 18 = .ok (.aaload, 1) := by decide +kernel
theorem d144_19 : decode (mC M144) 19 = .ok (.invokevirtual 300, 3) := by decide +kernel
theorem d144_22 : decode (mC M144) 22 = .ok (.invokevirtual 94, 3) := by decide +kernel
theorem d144_25 : decode (mC M144) 25 = .ok (.goto 8, 3) := by decide +kernel
theorem d144_28 : decode (mC M144) 28 = .ok (.aload_n 0, 1) := by decide +kernel
theorem d144_29 : decode (mC M144) 29 = .ok (.iconst 1, 1) := by decide +kernel
theorem d144_30 : decode (mC M144) 30 = .ok (.invokevirtual 165, 3) := by decide +kernel
theorem d144_33 : decode (mC M144) 33 = .ok (.ireturn, 1) := by decide +kernel
theorem sc144_0 : ∀ q ∈ tc144_0, Snd xtb M144 q.1 q.2 := List.forall_mem_cons.mpr ⟨snd_aload_n d144_0 rfl, List.forall_mem_cons.mpr ⟨snd_iload_n d144_1 rfl, List.forall_mem_cons.mpr ⟨snd_callV (by decide) rfl cn159 ⟨by decide +kernel, by decide +kernel⟩ cm159 (List.forall_mem_cons.mpr ⟨wd1121, cw159⟩) d144_2, List.forall_mem_cons.mpr ⟨snd_if_eq d144_5 (by decide), List.forall_mem_cons.mpr ⟨snd_aload_n d144_8 rfl, List.forall_mem_cons.mpr ⟨snd_aload_n d144_9 rfl, List.forall_mem_cons.mpr ⟨snd_aload_n d144_10 rfl, List.forall_mem_cons.mpr ⟨snd_getR (by decide) (by decide) rfl wd535 d144_11, List.forall_mem_cons.mpr ⟨snd_getR (by decide) (by decide) rfl wd479 d144_14, List.forall_mem_cons.mpr ⟨snd_iload_n d144_17 rfl, List.forall_mem_cons.mpr ⟨snd_aald d144_18, List.forall_mem_cons.mpr ⟨snd_callV (by decide) rfl cn168 ⟨by decide +kernel, by decide +kernel⟩ cm168 (List.forall_mem_cons.mpr ⟨wd1206, cw168⟩) d144_19, List.forall_mem_cons.mpr ⟨snd_callV (by decide) rfl cn153 ⟨by decide +kernel, by decide +kernel⟩ cm153 (List.forall_mem_cons.mpr ⟨wd813, cw153⟩) d144_22, List.forall_mem_cons.mpr ⟨snd_goto d144_25 (by decide), List.forall_mem_cons.mpr ⟨snd_aload_n d144_28 rfl, List.forall_mem_cons.mpr ⟨snd_iconst d144_29 (by decide +kernel), List.forall_mem_cons.mpr ⟨snd_callV (by decide) rfl cn155 ⟨by decide +kernel, by decide +kernel⟩ cm155 (List.forall_mem_cons.mpr ⟨wd877, cw155⟩) d144_30, List.forall_mem_cons.mpr ⟨snd_iret rfl d144_33, fun _ h => by cases h⟩⟩⟩⟩⟩⟩⟩⟩⟩⟩⟩⟩⟩⟩⟩⟩⟩⟩
theorem d145_0 : decode (mC M145) 0 = .ok (.aload_n 0, 1) := by decide +kernel
theorem d145_1 : decode (mC M145) 1 = .ok (.getfield 75, 3) := by decide +kernel
theorem d145_4 : decode (mC M145) 4 = .ok (.ifCond .ne 9, 3) := by decide +kernel
theorem d145_7 : decode (mC M145) 7 = .ok (.aload_n 0, 1) := by decide +kernel
theorem d145_8 : decode (mC M145) 8 = .ok (.iconst 1, 1) := by decide +kernel
theorem d145_9 : decode (mC M145) 9 = .ok (.invokevirtual 165, 3) := by decide +kernel
theorem d145_12 : decode (mC M145) 12 = .ok (.ireturn, 1) := by decide +kernel
theorem d145_13 : decode (mC M145) 13 = .ok (.iload_n 1, 1) := by decide +kernel
theorem d145_14 : decode (mC M145) 14 = .ok (.aload_n 0, 1) := by decide +kernel
theorem d145_15 : decode (mC M145) 15 = .ok (.getfield 28, 3) := by decide +kernel
theorem d145_18 : decode (mC M145) 18 = .ok (.invokevirtual 294, 3) := by decide +kernel
theorem d145_21 : decode (mC M145) 21 = .ok (.iconst 1, 1) := by decide +kernel
theorem d145_22 : decode (mC M145) 22 = .ok (.iadd, 1) := by decide +kernel
theorem d145_23 : decode (mC M145) 23 = .ok (.sipush 999, 3) := by decide +kernel
theorem d145_26 : decode (mC M145) 26 = .ok (.invokestatic 60, 3) := by decide +kernel
theorem d145_29 : decode (mC M145) 29 = .ok (.ifCond .ne 9, 3) := by decide +kernel
theorem d145_32 : decode (mC M145) 32 = .ok (.aload_n 0, 1) := by decide +kernel
theorem d145_33 : decode (mC M145) 33 = .ok (.iconst 2, 1) := by decide +kernel
theorem d145_34 : decode (mC M145) 34 = .ok (.invokevirtual 165, 3) := by decide +kernel
theorem d145_37 : decode (mC M145) 37 = .ok (.ireturn, 1) := by decide +kernel
theorem d145_38 : decode (mC M145) 38 = .ok (.aload_n 0, 1) := by decide +kernel
theorem d145_39 : decode (mC M145) 39 = .ok (.getfield 28, 3) := by decide +kernel
theorem d145_42 : decode (mC M145) 42 = .ok (.getfield 279, 3) := by decide +kernel
theorem d145_45 : decode (mC M145) 45 = .ok (.bipush 12, 2) := by decide +kernel
theorem d145_47 : decode (mC M145) 47 = .ok (.if_icmp .lt 9, 3) := by decide +kernel
theorem d145_50 : decode (mC M145) 50 = .ok (.aload_n 0, 1) := by decide +kernel
theorem d145_51 : decode (mC M145) 51 = .ok (.iconst 3, 1) := by decide +kernel
theorem d145_52 : decode (mC M145) 52 = .ok (.invokevirtual 165, 3) := by decide +kernel
theorem d145_55 : decode (mC M145) 55 = .ok (.ireturn, 1) := by decide +kernel
theorem d145_56 : decode (mC M145) 56 = .ok (.aload_n 0, 1) := by decide +kernel
theorem d145_57 : decode (mC M145) 57 = .ok (.getfield 28, 3) := by decide +kernel
theorem d145_60 : decode (mC M145) 60 = .ok (.iload_n 1, 1) := by decide +kernel
theorem d145_61 : decode (mC M145) 61 = .ok (.invokevirtual 304, 3) := by decide +kernel
theorem d145_64 : decode (mC M145) 64 = .ok (.aload_n 0, 1) := by decide +kernel
theorem d145_65 : decode (mC M145) 65 = .ok (.getfield 35, 3) := by decide +kernel
theorem d145_68 : decode (mC M145) 68 = .ok (.iconst 0, 1) := by decide +kernel
theorem d145_69 : decode (mC M145) 69 = .ok (.iconst 0, 1) := by decide +kernel
theorem d145_70 : decode (mC M145) 70 = .ok (.iconst 0, 1) := by decide +kernel
theorem d145_71 : decode (mC M145) 71 = .ok (.invokevirtual 307, 3) := by decide +kernel
theorem d145_74 : decode (mC M145) 74 = .ok (.aload_n 0, 1) := by decide +kernel
theorem d145_75 : decode (mC M145) 75 = .ok (.aload_n 0, 1) := by decide +kernel
theorem d145_76 : decode (mC M145) 76 = .ok (.getfield 28, 3) := by decide +kernel
theorem d145_79 : decode (mC M145) 79 = .ok (.aload_n 0, 1) := by decide +kernel
theorem d145_80 : decode (mC M145) 80 = .ok (.getfield 28, 3) := by decide +kernel
theorem d145_83 : decode (mC M145) 83 = .ok (.getfield 279, 3) := by decide +kernel
theorem d145_86 : decode (mC M145) 86 = .ok (.iconst 1, 1) := by decide +kernel
theorem d145_87 : decode (mC M145) 87 = .ok (.isub, 1) := by decide +kernel
theorem d145_88 : decode (mC M145) 88 = .ok (.iconst (-1), 1) := by decide +kernel
theorem d145_89 : decode (mC M145) 89 = .ok (.invokevirtual 291, 3) := by decide +kernel
theorem d145_92 : decode (mC M145) 92 = .ok (.invokevirtual 94, 3) := by decide +kernel
theorem d145_95 : decode (mC M145) 95 = .ok (.ireturn, 1) := by decide +kernel
theorem sc145_0 : ∀ q ∈ tc145_0, Snd xtb M145 q.1 q.2 := List.forall_mem_cons.mpr ⟨snd_aload_n d145_0 rfl, List.forall_mem_cons.mpr ⟨snd_getI (by decide) (by decide) rfl wd534 d145_1, List.forall_mem_cons.mpr ⟨snd_if_ne d145_4 (by decide), List.forall_mem_cons.mpr ⟨snd_aload_n d145_7 rfl, List.forall_mem_cons.mpr ⟨snd_iconst d145_8 (by decide +kernel), List.forall_mem_cons.mpr ⟨snd_callV (by decide) rfl cn155 ⟨by decide +kernel, by decide +kernel⟩ cm155 (List.forall_mem_cons.mpr ⟨wd877, cw155⟩) d145_9, List.forall_mem_cons.mpr ⟨snd_iret rfl d145_12, List.forall_mem_cons.mpr ⟨snd_iload_n d145_13 rfl, List.forall_mem_cons.mpr ⟨snd_aload_n d145_14 rfl, List.forall_mem_cons.mpr ⟨snd_getR (by decide) (by decide) rfl wd535 d145_15, List.forall_mem_cons.mpr ⟨snd_callV (by decide) rfl cn12 ⟨by decide +kernel, by decide +kernel⟩ cm12 (List.forall_mem_cons.mpr ⟨wd1193, cw12⟩) d145_18, List.forall_mem_cons.mpr ⟨snd_iconst d145_21 (by decide +kernel), List.forall_mem_cons.mpr ⟨snd_iadd d145_22, List.forall_mem_cons.mpr ⟨snd_sipush d145_23 (by decide +kernel), List.forall_mem_cons.mpr ⟨snd_callS cn164 ⟨by decide +kernel, by decide +kernel⟩ cm164 (List.forall_mem_cons.mpr ⟨wd566, cw164⟩) d145_26, List.forall_mem_cons.mpr ⟨snd_if_ne d145_29 (by decide), List.forall_mem_cons.mpr ⟨snd_aload_n d145_32 rfl, List.forall_mem_cons.mpr ⟨snd_iconst d145_33 (by decide +kernel), List.forall_mem_cons.mpr ⟨snd_callV (by decide) rfl cn155 ⟨by decide +kernel, by decide +kernel⟩ cm155 (List.forall_mem_cons.mpr ⟨wd877, cw155⟩) d145_34, List.forall_mem_cons.mpr ⟨snd_iret rfl d145_37, List.forall_mem_cons.mpr ⟨snd_aload_n d145_38 rfl, List.forall_mem_cons.mpr ⟨snd_getR (by decide) (by decide) rfl wd535 d145_39, List.forall_mem_cons.mpr ⟨snd_getI (by decide) (by decide) rfl wd481 d145_42, List.forall_mem_cons.mpr ⟨snd_bipush d145_45 (by decide +kernel), List.forall_mem_cons.mpr ⟨snd_cmp_lt d145_47 (by decide), List.forall_mem_cons.mpr ⟨snd_aload_n d145_50 rfl, List.forall_mem_cons.mpr ⟨snd_iconst d145_51 (by decide +kernel), List.forall_mem_cons.mpr ⟨snd_callV (by decide) rfl cn155 ⟨by decide +kernel, by decide +kernel⟩ cm155 (List.forall_mem_cons.mpr ⟨wd877, cw155⟩) d145_52, List.forall_mem_cons.mpr ⟨snd_iret rfl d145_55, List.forall_mem_cons.mpr ⟨snd_aload_n d145_56 rfl, fun _ h => by cases h⟩⟩⟩⟩⟩⟩⟩⟩⟩⟩⟩⟩⟩⟩⟩⟩⟩⟩⟩⟩⟩⟩⟩⟩⟩⟩⟩⟩⟩⟩
theorem sc145_1 : ∀ q ∈ tc145_1, Snd xtb M145 q.1 q.2 := List.forall_mem_cons.mpr ⟨snd_getR (by decide) (by decide) rfl wd535 d145_57, List.forall_mem_cons.mpr ⟨snd_iload_n d145_60 rfl, List.forall_mem_cons.mpr ⟨snd_callV (by decide) rfl cn16 ⟨by decide +kernel, by decide +kernel⟩ cm16 (List.forall_mem_cons.mpr ⟨wd1218, cw16⟩) d145_61, List.forall_mem_cons.mpr ⟨snd_aload_n d145_64 rfl, List.forall_mem_cons.mpr ⟨snd_getR (by decide) (by decide) rfl wd536 d145_65, List.forall_mem_cons.mpr ⟨snd_iconst d145_68 (by decide +kernel), List.forall_mem_cons.mpr ⟨snd_iconst d145_69 (by decide +kernel), List.forall_mem_cons.mpr ⟨snd_iconst d145_70 (by decide +kernel), List.forall_mem_cons.mpr ⟨snd_callV (by decide) rfl cn4 ⟨by decide +kernel, by decide +kernel⟩ cm4 (List.forall_mem_cons.mpr ⟨wd1223, cw4⟩) d145_71, List.forall_mem_cons.mpr ⟨snd_aload_n d145_74 rfl, List.forall_mem_cons.mpr ⟨snd_aload_n d145_75 rfl, List.forall_mem_cons.mpr ⟨snd_getR (by decide) (by decide) rfl wd535 d145_76, List.forall_mem_cons.mpr ⟨snd_aload_n d145_79 rfl, List.forall_mem_cons.mpr ⟨snd_getR (by decide) (by decide) rfl wd535 d145_80, List.forall_mem_cons.mpr ⟨snd_getI (by decide) (by decide) rfl wd481 d145_83, List.forall_mem_cons.mpr ⟨snd_iconst d145_86 (by decide +kernel), List.forall_mem_cons.mpr ⟨snd_isub d145_87, List.forall_mem_cons.mpr ⟨snd_iconst d145_88 (by decide +kernel), List.forall_mem_cons.mpr ⟨snd_callV (by decide) rfl cn14 ⟨by decide +kernel, by decide +kernel⟩ cm14 (List.forall_mem_cons.mpr ⟨wd1185, cw14⟩) d145_89, List.forall_mem_cons.mpr ⟨snd_callV (by decide) rfl cn153 ⟨by decide +kernel, by decide +kernel⟩ cm153 (List.forall_mem_cons.mpr ⟨wd813, cw153⟩) d145_92, List.forall_mem_cons.mpr ⟨snd_iret rfl d145_95, fun _ h => by cases h⟩⟩⟩⟩⟩⟩⟩⟩⟩⟩⟩⟩⟩⟩⟩⟩⟩⟩⟩⟩⟩
theorem d146_0 : decode (mC M146) 0 = .ok (.aload_n 0, 1) := by decide +kernel
theorem d146_1 : decode (mC M146) 1 = .ok (.iload 4, 2) := by decide +kernel
theorem d146_3 : decode (mC M146) 3 = .ok (.invokevirtual 110, 3) := by decide +kernel
theorem d146_6 : decode (mC M146) 6 = .ok (.ifCond .ne 9, 3) := by decide +kernel
theorem d146_9 : decode (mC M146) 9 = .ok (.aload_n 0, 1) := by decide +kernel
theorem d146_10 : decode (mC M146) 10 = .ok (.iconst 1, 1) := by decide +kernel
theorem d146_11 : decode (mC M146) 11 = .ok (.invokevirtual 64, 3) := by decide +kernel
theorem d146_14 : decode (mC M146) 14 = .ok (.ireturn, 1) := by decide +kernel
theorem d146_15 : decode (mC M146) 15 = .ok (.aload_n 0, 1) := by decide +kernel
theorem d146_16 : decode (mC M146) 16 = .ok (.iload_n 1, 1) := by decide +kernel
theorem d146_17 : decode (mC M146) 17 = .ok (.iload_n 2, 1) := by decide +kernel
theorem d146_18 : decode (mC M146) 18 = .ok (.iload_n 3, 1) := by decide +kernel
theorem d146_19 : decode (mC M146) 19 = .ok (.iload 5, 2) := by decide +kernel
theorem d146_21 : decode (mC M146) 21 = .ok (.iload 6, 2) := by decide +kernel
theorem d146_23 : decode (mC M146) 23 = .ok (.invokevirtual 236, 3) := by decide +kernel
theorem d146_26 : decode (mC M146) 26 = .ok (.ifCond .ne 9, 3) := by decide +kernel
theorem d146_29 : decode (mC M146) 29 = .ok (.aload_n 0, 1) := by decide +kernel
theorem d146_30 : decode (mC M146) 30 = .ok (.iconst 2, 1) := by decide +kernel
theorem d146_31 : decode (mC M146) 31 = .ok (.invokevirtual 64, 3) := by decide +kernel
theorem d146_34 : decode (mC M146) 34 = .ok (.ireturn, 1) := by decide +kernel
theorem d146_35 : decode (mC M146) 35 = .ok (.iload_n 1, 1) := by decide +kernel
theorem d146_36 : decode (mC M146) 36 = .ok (.aload_n 0, 1) := by decide +kernel
theorem d146_37 : decode (mC M146) 37 = .ok (.getfield 28, 3) := by decide +kernel
theorem d146_40 : decode (mC M146) 40 = .ok (.invokevirtual 294, 3) := by decide +kernel
theorem d146_43 : decode (mC M146) 43 = .ok (.if_icmp .gt 9, 3) := by decide +kernel
theorem d146_46 : decode (mC M146) 46 = .ok (.aload_n 0, 1) := by decide +kernel
theorem d146_47 : decode (mC M146) 47 = .ok (.iconst 5, 1) := by decide +kernel
theorem d146_48 : decode (mC M146) 48 = .ok (.invokevirtual 64, 3) := by decide +kernel
theorem d146_51 : decode (mC M146) 51 = .ok (.ireturn, 1) := by decide +kernel
theorem d146_52 : decode (mC M146) 52 = .ok (.aload_n 0, 1) := by decide +kernel
theorem d146_53 : decode (mC M146) 53 = .ok (.getfield 28, 3) := by decide +kernel
theorem d146_56 : decode (mC M146) 56 = .ok (.getfield 106, 3) := by decide +kernel
theorem d146_59 : decode (mC M146) 59 = .ok (.bipush 40, 2) := by decide +kernel
theorem d146_61 : decode (mC M146) 61 = .ok (.if_icmp .lt 9, 3) := by decide +kernel
theorem d146_64 : decode (mC M146) 64 = .ok (.aload_n 0, 1) := by decide +kernel
theorem d146_65 : decode (mC M146) 65 = .ok (.iconst 3, 1) := by decide +kernel
theorem d146_66 : decode (mC M146) 66 = .ok (.invokevirtual 64, 3) := by decide +kernel
theorem d146_69 : decode (mC M146) 69 = .ok (.ireturn, 1) := by decide +kernel
theorem d146_70 : decode (mC M146) 70 = .ok (.aload_n 0, 1) := by decide +kernel
theorem d146_71 : decode (mC M146) 71 = .ok (.getfield 28, 3) := by decide +kernel
theorem d146_74 : decode (mC M146) 74 = .ok (.getfield 253, 3) := by decide +kernel
theorem d146_77 : decode (mC M146) 77 = .ok (.aload_n 0, 1) := by decide +kernel
theorem d146_78 : decode (mC M146) 78 = .ok (.getfield 28, 3) := by decide +kernel
theorem d146_81 : decode (mC M146) 81 = .ok (.getfield 106, 3) := by decide +kernel
theorem d146_84 : decode (mC M146) 84 = .ok (.aaload, 1) := by decide +kernel
theorem d146_85 : decode (mC M146) 85 = .ok (.astore 7, 2) := by decide +kernel
theorem d146_87 : decode (mC M146) 87 = .ok (.aload 7, 2) := by decide +kernel
theorem d146_89 : decode (mC M146) 89 = .ok (.iload_n 1, 1) := by decide +kernel
theorem d146_90 : decode (mC M146) 90 = .ok (.iload_n 2, 1) := by decide +kernel
theorem d146_91 : decode (mC M146) 91 = .ok (.iload_n 3, 1) := by decide +kernel
theorem d146_92 : decode (mC M146) 92 = .ok (.iload 4, 2) := by decide +kernel
theorem d146_94 : decode (mC M146) 94 = .ok (.iload 5, 2) := by decide +kernel
theorem d146_96 : decode (mC M146) 96 = .ok (.iload 6, 2) := by decide +kernel
theorem d146_98 : decode (mC M146) 98 = .ok (.invokevirtual 240, 3) := by decide +kernel
theorem d146_101 : decode (mC M146) 101 = .ok (.aload_n 0, 1) := by decide +kernel
theorem d146_102 : decode (mC M146) 102 = .ok (.getfield 21, 3) := by decide +kernel
theorem d146_105 : decode (mC M146) 105 = .ok (.aload 7, 2) := by decide +kernel
theorem d146_107 : decode (mC M146) 107 = .ok (.invokevirtual 311, 3) := by decide +kernel
theorem d146_110 : decode (mC M146) 110 = .ok (.aload_n 0, 1) := by decide +kernel
theorem d146_111 : decode (mC M146) 111 = .ok (.getfield 28, 3) := by decide +kernel
theorem d146_114 : decode (mC M146) 114 = .ok (.dup, 1) := by decide +kernel
theorem d146_115 : decode (mC M146) 115 = .ok (.getfield 106, 3) := by decide +kernel
theorem d146_118 : decode (mC M146) 118 = .ok (.iconst 1, 1) := by decide +kernel
theorem d146_119 : decode (mC M146) 119 = .ok (.iadd, 1) := by decide +kernel
theorem d146_120 : decode (mC M146) 120 = .ok (.putfield 106, 3) := by decide +kernel
theorem d146_123 : decode (mC M146) 123 = .ok (.aload_n 0, 1) := by decide +kernel
theorem d146_124 : decode (mC M146) 124 = .ok (.getfield 35, 3) := by decide +kernel
theorem d146_127 : decode (mC M146) 127 = .ok (.iconst 1, 1) := by decide +kernel
theorem d146_128 : decode (mC M146) 128 = .ok (.iconst 0, 1) := by decide +kernel
theorem d146_129 : decode (mC M146) 129 = .ok (.iconst 0, 1) := by decide +kernel
theorem d146_130 : decode (mC M146) 130 = .ok (.invokevirtual 307, 3) := by decide +kernel
theorem d146_133 : decode (mC M146) 133 = .ok (.aload_n 0, 1) := by decide +kernel
theorem d146_134 : decode (mC M146) 134 = .ok (.aload_n 0, 1) := by decide +kernel
theorem d146_135 : decode (mC M146) 135 = .ok (.getfield 28, 3) := by decide +kernel
theorem d146_138 : decode (mC M146) 138 = .ok (.getfield 106, 3) := by decide +kernel
theorem d146_141 : decode (mC M146) 141 = .ok (.iconst 1, 1) := by decide +kernel
theorem d146_142 : decode (mC M146) 142 = .ok (.isub, 1) := by decide +kernel
theorem d146_143 : decode (mC M146) 143 = .ok (.invokevirtual 94, 3) := by decide +kernel
theorem d146_146 : decode (mC M146) 146 = .ok (.ireturn, 1) := by decide +kernel
theorem sc146_0 : ∀ q ∈ tc146_0, Snd xtb M146 q.1 q.2 := List.forall_mem_cons.mpr ⟨snd_aload_n d146_0 rfl, List.forall_mem_cons.mpr ⟨snd_iload d146_1, List.forall_mem_cons.mpr ⟨snd_callV (by decide) rfl cn158 ⟨by decide +kernel, by decide +kernel⟩ cm158 (List.forall_mem_cons.mpr ⟨wd837, cw158⟩) d146_3, List.forall_mem_cons.mpr ⟨snd_if_ne d146_6 (by decide), List.forall_mem_cons.mpr ⟨snd_aload_n d146_9 rfl, List.forall_mem_cons.mpr ⟨snd_iconst d146_10 (by decide +kernel), List.forall_mem_cons.mpr ⟨snd_callV (by decide) rfl cn154 ⟨by decide +kernel, by decide +kernel⟩ cm154 (List.forall_mem_cons.mpr ⟨wd569, cw154⟩) d146_11, List.forall_mem_cons.mpr ⟨snd_iret rfl d146_14, List.forall_mem_cons.mpr ⟨snd_aload_n d146_15 rfl, List.forall_mem_cons.mpr ⟨snd_iload_n d146_16 rfl, List.forall_mem_cons.mpr ⟨snd_iload_n d146_17 rfl, List.forall_mem_cons.mpr ⟨snd_iload_n d146_18 rfl, List.forall_mem_cons.mpr ⟨snd_iload d146_19, List.forall_mem_cons.mpr ⟨snd_iload d146_21, List.forall_mem_cons.mpr ⟨snd_callV (by decide) rfl cn162 ⟨by decide +kernel, by decide +kernel⟩ cm162 (List.forall_mem_cons.mpr ⟨wd1059, cw162⟩) d146_23, List.forall_mem_cons.mpr ⟨snd_if_ne d146_26 (by decide), List.forall_mem_cons.mpr ⟨snd_aload_n d146_29 rfl, List.forall_mem_cons.mpr ⟨snd_iconst d146_30 (by decide +kernel), List.forall_mem_cons.mpr ⟨snd_callV (by decide) rfl cn154 ⟨by decide +kernel, by decide +kernel⟩ cm154 (List.forall_mem_cons.mpr ⟨wd569, cw154⟩) d146_31, List.forall_mem_cons.mpr ⟨snd_iret rfl d146_34, List.forall_mem_cons.mpr ⟨snd_iload_n d146_35 rfl, List.forall_mem_cons.mpr ⟨snd_aload_n d146_36 rfl, List.forall_mem_cons.mpr ⟨snd_getR (by decide) (by decide) rfl wd535 d146_37, List.forall_mem_cons.mpr ⟨snd_callV (by decide) rfl cn12 ⟨by decide +kernel, by decide +kernel⟩ cm12 (List.forall_mem_cons.mpr ⟨wd1193, cw12⟩) d146_40, List.forall_mem_cons.mpr ⟨snd_cmp_gt d146_43 (by decide), List.forall_mem_cons.mpr ⟨snd_aload_n d146_46 rfl, List.forall_mem_cons.mpr ⟨snd_iconst d146_47 (by decide +kernel), List.forall_mem_cons.mpr ⟨snd_callV (by decide) rfl cn154 ⟨by decide +kernel, by decide +kernel⟩ cm154 (List.forall_mem_cons.mpr ⟨wd569, cw154⟩) d146_48, List.forall_mem_cons.mpr ⟨snd_iret rfl d146_51, List.forall_mem_cons.mpr ⟨snd_aload_n d146_52 rfl, fun _ h => by cases h⟩⟩⟩⟩⟩⟩⟩⟩⟩⟩⟩⟩⟩⟩⟩⟩⟩⟩⟩⟩⟩⟩⟩⟩⟩⟩⟩⟩⟩⟩
theorem sc146_1 : ∀ q ∈ tc146_1, Snd xtb M146 q.1 q.2 := List.forall_mem_cons.mpr ⟨snd_getR (by decide) (by decide) rfl wd535 d146_53, List.forall_mem_cons.mpr ⟨snd_getI (by decide) (by decide) rfl wd477 d146_56, List.forall_mem_cons.mpr ⟨snd_bipush d146_59 (by decide +kernel), List.forall_mem_cons.mpr ⟨snd_cmp_lt d146_61 (by decide), List.forall_mem_cons.mpr ⟨snd_aload_n d146_64 rfl, List.forall_mem_cons.mpr ⟨snd_iconst d146_65 (by decide +kernel), List.forall_mem_cons.mpr ⟨snd_callV (by decide) rfl cn154 ⟨by decide +kernel, by decide +kernel⟩ cm154 (List.forall_mem_cons.mpr ⟨wd569, cw154⟩) d146_66, List.forall_mem_cons.mpr ⟨snd_iret rfl d146_69, List.forall_mem_cons.mpr ⟨snd_aload_n d146_70 rfl, List.forall_mem_cons.mpr ⟨snd_getR (by decide) (by decide) rfl wd535 d146_71, List.forall_mem_cons.mpr ⟨snd_getR (by decide) (by decide) rfl wd479 d146_74, List.forall_mem_cons.mpr ⟨snd_aload_n d146_77 rfl, List.forall_mem_cons.mpr ⟨snd_getR (by decide) (by decide) rfl wd535 d146_78, List.forall_mem_cons.mpr ⟨snd_getI (by decide) (by decide) rfl wd477 d146_81, List.forall_mem_cons.mpr ⟨snd_aald d146_84, List.forall_mem_cons.mpr ⟨snd_astore d146_85, List.forall_mem_cons.mpr ⟨snd_aload d146_87, List.forall_mem_cons.mpr ⟨snd_iload_n d146_89 rfl, List.forall_mem_cons.mpr ⟨snd_iload_n d146_90 rfl, List.forall_mem_cons.mpr ⟨snd_iload_n d146_91 rfl, List.forall_mem_cons.mpr ⟨snd_iload d146_92, List.forall_mem_cons.mpr ⟨snd_iload d146_94, List.forall_mem_cons.mpr ⟨snd_iload d146_96, List.forall_mem_cons.mpr ⟨snd_callV (by decide) rfl cn54 ⟨by decide +kernel, by decide +kernel⟩ cm54 (List.forall_mem_cons.mpr ⟨wd1063, cw54⟩) d146_98, List.forall_mem_cons.mpr ⟨snd_aload_n d146_101 rfl, List.forall_mem_cons.mpr ⟨snd_getR (by decide) (by decide) rfl wd533 d146_102, List.forall_mem_cons.mpr ⟨snd_aload d146_105, List.forall_mem_cons.mpr ⟨snd_callV (by decide) rfl cn41 ⟨by decide +kernel, by decide +kernel⟩ cm41 (List.forall_mem_cons.mpr ⟨wd1071, cw41⟩) d146_107, List.forall_mem_cons.mpr ⟨snd_aload_n d146_110 rfl, List.forall_mem_cons.mpr ⟨snd_getR (by decide) (by decide) rfl wd535 d146_111, fun _ h => by cases h⟩⟩⟩⟩⟩⟩⟩⟩⟩⟩⟩⟩⟩⟩⟩⟩⟩⟩⟩⟩⟩⟩⟩⟩⟩⟩⟩⟩⟩⟩
theorem sc146_2 : ∀ q ∈ tc146_2, Snd xtb M146 q.1 q.2 := List.forall_mem_cons.mpr ⟨snd_dup d146_114, List.forall_mem_cons.mpr ⟨snd_getI (by decide) (by decide) rfl wd477 d146_115, List.forall_mem_cons.mpr ⟨snd_iconst d146_118 (by decide +kernel), List.forall_mem_cons.mpr ⟨snd_iadd d146_119, List.forall_mem_cons.mpr ⟨snd_putI (by decide) (by decide) rfl rfl wd477 d146_120, List.forall_mem_cons.mpr ⟨snd_aload_n d146_123 rfl, List.forall_mem_cons.mpr ⟨snd_getR (by decide) (by decide) rfl wd536 d146_124, List.forall_mem_cons.mpr ⟨snd_iconst d146_127 (by decide +kernel), List.forall_mem_cons.mpr ⟨snd_iconst d146_128 (by decide +kernel), List.forall_mem_cons.mpr ⟨snd_iconst d146_129 (by decide +kernel), List.forall_mem_cons.mpr ⟨snd_callV (by decide) rfl cn4 ⟨by decide +kernel, by decide +kernel⟩ cm4 (List.forall_mem_cons.mpr ⟨wd1223, cw4⟩) d146_130, List.forall_mem_cons.mpr ⟨snd_aload_n d146_133 rfl, List.forall_mem_cons.mpr ⟨snd_aload_n d146_134 rfl, List.forall_mem_cons.mpr ⟨snd_getR (by decide) (by decide) rfl wd535 d146_135, List.forall_mem_cons.mpr ⟨snd_getI (by decide) (by decide) rfl wd477 d146_138, List.forall_mem_cons.mpr ⟨snd_iconst d146_141 (by decide +kernel), List.forall_mem_cons.mpr ⟨snd_isub d146_142, List.forall_mem_cons.mpr ⟨snd_callV (by decide) rfl cn153 ⟨by decide +kernel, by decide +kernel⟩ cm153 (List.forall_mem_cons.mpr ⟨wd813, cw153⟩) d146_143, List.forall_mem_cons.mpr ⟨snd_iret rfl d146_146, fun _ h => by cases h⟩⟩⟩⟩⟩⟩⟩⟩⟩⟩⟩⟩⟩⟩⟩⟩⟩⟩⟩
theorem d147_0 : decode (mC M147) 0 = .ok (.aload_n 0, 1) := by decide +kernel
theorem d147_1 : decode (mC M147) 1 = .ok (.iload_n 1, 1) := by decide +kernel
theorem d147_2 : decode (mC M147) 2 = .ok (.invokevirtual 250, 3) := by decide +kernel
theorem d147_5 : decode (mC M147) 5 = .ok (.ifCond .ne 9, 3) := by decide +kernel
theorem d147_8 : decode (mC M147) 8 = .ok (.aload_n 0, 1) := by decide +kernel
theorem d147_9 : decode (mC M147) 9 = .ok (.iconst 1, 1) := by decide +kernel
theorem d147_10 : decode (mC M147) 10 = .ok (.invokevirtual 64, 3) := by decide +kernel
theorem d147_13 : decode (mC M147) 13 = .ok (.ireturn, 1) := by decide +kernel
theorem d147_14 : decode (mC M147) 14 = .ok (.aload_n 0, 1) := by decide +kernel
theorem d147_15 : decode (mC M147) 15 = .ok (.getfield 28, 3) := by decide +kernel
theorem d147_18 : decode (mC M147) 18 = .ok (.getfield 253, 3) := by decide +kernel
theorem d147_21 : decode (mC M147) 21 = .ok (.iload_n 1, 1) := by decide +kernel
theorem d147_22 : decode (mC M147) 22 = .ok (.aaload, 1) := by decide +kernel
theorem d147_23 : decode (mC M147) 23 = .ok (.astore_n 3, 1) := by decide +kernel
theorem d147_24 : decode (mC M147) 24 = .ok (.iload_n 2, 1) := by decide +kernel
theorem d147_25 : decode (mC M147) 25 = .ok (.iconst 1, 1) := by decide +kernel
theorem d147_26 : decode (mC M147) 26 = .ok (.aload_n 3, 1) := by decide +kernel
theorem d147_27 : decode (mC M147) 27 = .ok (.getfield 315, 3) := by decide +kernel
theorem d147_30 : decode (mC M147) 30 = .ok (.invokestatic 60, 3) := by decide +kernel
theorem d147_33 : decode (mC M147) 33 = .ok (.ifCond .ne 9, 3) := by decide +kernel
theorem d147_36 : decode (mC M147) 36 = .ok (.aload_n 0, 1) := by decide +kernel
theorem d147_37 : decode (mC M147) 37 = .ok (.iconst 2, 1) := by decide +kernel
theorem d147_38 : decode (mC M147) 38 = .ok (.invokevirtual 64, 3) := by decide +kernel
theorem d147_41 : decode (mC M147) 41 = .ok (.ireturn, 1) := by decide +kernel
theorem d147_42 : decode (mC M147) 42 = .ok (.aload_n 3, 1) := by decide +kernel
theorem d147_43 : decode (mC M147) 43 = .ok (.iconst (-1), 1) := by decide +kernel
theorem d147_44 : decode (mC M147) 44 = .ok (.invokevirtual 318, 3) := by decide +kernel
theorem d147_47 : decode (mC M147) 47 = .ok (.istore 4, 2) := by decide +kernel
theorem d147_49 : decode (mC M147) 49 = .ok (.aload_n 3, 1) := by decide +kernel
theorem d147_50 : decode (mC M147) 50 = .ok (.dup, 1) := by decide +kernel
theorem d147_51 : decode (mC M147) 51 = .ok (.getfield 315, 3) := by decide +kernel
theorem d147_54 : decode (mC M147) 54 = .ok (.iload_n 2, 1) := by decide +kernel
theorem d147_55 : decode (mC M147) 55 = .ok (.isub, 1) := by decide +kernel
theorem d147_56 : decode (mC M147) 56 = .ok (.putfield 315, 3) := by decide +kernel
theorem d147_59 : decode (mC M147) 59 = .ok (.aload_n 0, 1) := by decide +kernel
theorem d147_60 : decode (mC M147) 60 = .ok (.getfield 35, 3) := by decide +kernel
theorem d147_63 : decode (mC M147) 63 = .ok (.iconst 2, 1) := by decide +kernel
theorem d147_64 : decode (mC M147) 64 = .ok (.iload_n 1, 1) := by decide +kernel
theorem d147_65 : decode (mC M147) 65 = .ok (.iload_n 2, 1) := by decide +kernel
theorem d147_66 : decode (mC M147) 66 = .ok (.invokevirtual 307, 3) := by decide +kernel
theorem d147_69 : decode (mC M147) 69 = .ok (.aload_n 0, 1) := by decide +kernel
theorem d147_70 : decode (mC M147) 70 = .ok (.iload 4, 2) := by decide +kernel
theorem d147_72 : decode (mC M147) 72 = .ok (.aload_n 3, 1) := by decide +kernel
theorem d147_73 : decode (mC M147) 73 = .ok (.iconst (-1), 1) := by decide +kernel
theorem d147_74 : decode (mC M147) 74 = .ok (.invokevirtual 318, 3) := by decide +kernel
theorem d147_77 : decode (mC M147) 77 = .ok (.isub, 1) := by decide +kernel
theorem d147_78 : decode (mC M147) 78 = .ok (.invokevirtual 94, 3) := by decide +kernel
theorem d147_81 : decode (mC M147) 81 = .ok (.ireturn, 1) := by decide +kernel
theorem sc147_0 : ∀ q ∈ tc147_0, Snd xtb M147 q.1 q.2 := List.forall_mem_cons.mpr ⟨snd_aload_n d147_0 rfl, List.forall_mem_cons.mpr ⟨snd_iload_n d147_1 rfl, List.forall_mem_cons.mpr ⟨snd_callV (by decide) rfl cn159 ⟨by decide +kernel, by decide +kernel⟩ cm159 (List.forall_mem_cons.mpr ⟨wd1121, cw159⟩) d147_2, List.forall_mem_cons.mpr ⟨snd_if_ne d147_5 (by decide), List.forall_mem_cons.mpr ⟨snd_aload_n d147_8 rfl, List.forall_mem_cons.mpr ⟨snd_iconst d147_9 (by decide +kernel), List.forall_mem_cons.mpr ⟨snd_callV (by decide) rfl cn154 ⟨by decide +kernel, by decide +kernel⟩ cm154 (List.forall_mem_cons.mpr ⟨wd569, cw154⟩) d147_10, List.forall_mem_cons.mpr ⟨snd_iret rfl d147_13, List.forall_mem_cons.mpr ⟨snd_aload_n d147_14 rfl, List.forall_mem_cons.mpr ⟨snd_getR (by decide) (by decide) rfl wd535 d147_15, List.forall_mem_cons.mpr ⟨snd_getR (by decide) (by decide) rfl wd479 d147_18, List.forall_mem_cons.mpr ⟨snd_iload_n d147_21 rfl, List.forall_mem_cons.mpr ⟨snd_aald d147_22, List.forall_mem_cons.mpr ⟨snd_astore_n d147_23 rfl, List.forall_mem_cons.mpr ⟨snd_iload_n d147_24 rfl, List.forall_mem_cons.mpr ⟨snd_iconst d147_25 (by decide +kernel), List.forall_mem_cons.mpr ⟨snd_aload_n d147_26 rfl, List.forall_mem_cons.mpr ⟨snd_getI (by decide) (by decide) rfl wd437 d147_27, List.forall_mem_cons.mpr ⟨snd_callS cn164 ⟨by decide +kernel, by decide +kernel⟩ cm164 (List.forall_mem_cons.mpr ⟨wd566, cw164⟩) d147_30, List.forall_mem_cons.mpr ⟨snd_if_ne d147_33 (by decide), List.forall_mem_cons.mpr ⟨snd_aload_n d147_36 rfl, List.forall_mem_cons.mpr ⟨snd_iconst d147_37 (by decide +kernel), List.forall_mem_cons.mpr ⟨snd_callV (by decide) rfl cn154 ⟨by decide +kernel, by decide +kernel⟩ cm154 (List.forall_mem_cons.mpr ⟨wd569, cw154⟩) d147_38, List.forall_mem_cons.mpr ⟨snd_iret rfl d147_41, List.forall_mem_cons.mpr ⟨snd_aload_n d147_42 rfl, List.forall_mem_cons.mpr ⟨snd_iconst d147_43 (by decide +kernel), List.forall_mem_cons.mpr ⟨snd_callV (by decide) rfl cn58 ⟨by decide +kernel, by decide +kernel⟩ cm58 (List.forall_mem_cons.mpr ⟨wd1081, cw58⟩) d147_44, List.forall_mem_cons.mpr ⟨snd_istore d147_47, List.forall_mem_cons.mpr ⟨snd_aload_n d147_49 rfl, List.forall_mem_cons.mpr ⟨snd_dup d147_50, fun _ h => by cases h⟩⟩⟩⟩⟩⟩⟩⟩⟩⟩⟩⟩⟩⟩⟩⟩⟩⟩⟩⟩⟩⟩⟩⟩⟩⟩⟩⟩⟩⟩
theorem sc147_1 : ∀ q ∈ tc147_1, Snd xtb M147 q.1 q.2 := List.forall_mem_cons.mpr ⟨snd_getI (by decide) (by decide) rfl wd437 d147_51, List.forall_mem_cons.mpr ⟨snd_iload_n d147_54 rfl, List.forall_mem_cons.mpr ⟨snd_isub d147_55, List.forall_mem_cons.mpr ⟨snd_putI (by decide) (by decide) rfl rfl wd437 d147_56, List.forall_mem_cons.mpr ⟨snd_aload_n d147_59 rfl, List.forall_mem_cons.mpr ⟨snd_getR (by decide) (by decide) rfl wd536 d147_60, List.forall_mem_cons.mpr ⟨snd_iconst d147_63 (by decide +kernel), List.forall_mem_cons.mpr ⟨snd_iload_n d147_64 rfl, List.forall_mem_cons.mpr ⟨snd_iload_n d147_65 rfl, List.forall_mem_cons.mpr ⟨snd_callV (by decide) rfl cn4 ⟨by decide +kernel, by decide +kernel⟩ cm4 (List.forall_mem_cons.mpr ⟨wd1223, cw4⟩) d147_66, List.forall_mem_cons.mpr ⟨snd_aload_n d147_69 rfl, List.forall_mem_cons.mpr ⟨snd_iload d147_70, List.forall_mem_cons.mpr ⟨snd_aload_n d147_72 rfl, List.forall_mem_cons.mpr ⟨snd_iconst d147_73 (by decide +kernel), List.forall_mem_cons.mpr ⟨snd_callV (by decide) rfl cn58 ⟨by decide +kernel, by decide +kernel⟩ cm58 (List.forall_mem_cons.mpr ⟨wd1081, cw58⟩) d147_74, List.forall_mem_cons.mpr ⟨snd_isub d147_77, List.forall_mem_cons.mpr ⟨snd_callV (by decide) rfl cn153 ⟨by decide +kernel, by decide +kernel⟩ cm153 (List.forall_mem_cons.mpr ⟨wd813, cw153⟩) d147_78, List.forall_mem_cons.mpr ⟨snd_iret rfl d147_81, fun _ h => by cases h⟩⟩⟩⟩⟩⟩⟩⟩⟩⟩⟩⟩⟩⟩⟩⟩⟩⟩
theorem d148_0 : decode (mC M148) 0 = .ok (.aload_n 0, 1) := by decide +kernel
theorem d148_1 : decode (mC M148) 1 = .ok (.iload_n 1, 1) := by decide +kernel
theorem d148_2 : decode (mC M148) 2 = .ok (.invokevirtual 123, 3) := by decide +kernel
theorem d148_5 : decode (mC M148) 5 = .ok (.ifCond .ne 9, 3) := by decide +kernel
theorem d148_8 : decode (mC M148) 8 = .ok (.aload_n 0, 1) := by decide +kernel
theorem d148_9 : decode (mC M148) 9 = .ok (.iconst 1, 1) := by decide +kernel
theorem d148_10 : decode (mC M148) 10 = .ok (.invokevirtual 64, 3) := by decide +kernel
theorem d148_13 : decode (mC M148) 13 = .ok (.ireturn, 1) := by decide +kernel
theorem d148_14 : decode (mC M148) 14 = .ok (.aload_n 0, 1) := by decide +kernel
theorem d148_15 : decode (mC M148) 15 = .ok (.getfield 21, 3) := by decide +kernel
theorem d148_18 : decode (mC M148) 18 = .ok (.getfield 85, 3) := by decide +kernel
theorem d148_21 : decode (mC M148) 21 = .ok (.getfield 126, 3) := by decide +kernel
theorem d148_24 : decode (mC M148) 24 = .ok (.astore 5, 2) := by decide +kernel
theorem d148_26 : decode (mC M148) 26 = .ok (.aload 5, 2) := by decide +kernel
theorem d148_28 : decode (mC M148) 28 = .ok (.iload_n 1, 1) := by decide +kernel
theorem d148_29 : decode (mC M148) 29 = .ok (.sipush 999, 3) := by decide +kernel
theorem d148_32 : decode (mC M148) 32 = .ok (.invokevirtual 153, 3) := by decide +kernel
theorem d148_35 : decode (mC M148) 35 = .ok (.istore 6, 2) := by decide +kernel
theorem d148_37 : decode (mC M148) 37 = .ok (.iload_n 2, 1) := by decide +kernel
theorem d148_38 : decode (mC M148) 38 = .ok (.aload 5, 2) := by decide +kernel
theorem d148_40 : decode (mC M148) 40 = .ok (.iload_n 1, 1) := by decide +kernel
theorem d148_41 : decode (mC M148) 41 = .ok (.invokevirtual 321, 3) := by decide +kernel
theorem d148_44 : decode (mC M148) 44 = .ok (.sipush 999, 3) := by decide +kernel
theorem d148_47 : decode (mC M148) 47 = .ok (.invokestatic 60, 3) := by decide +kernel
theorem d148_50 : decode (mC M148) 50 = .ok (.ifCond .eq 54, 3) := by decide +kernel
theorem d148_53 : decode (mC M148) 53 = .ok (.iload_n 3, 1) := by decide +kernel
theorem d148_54 : decode (mC M148) 54 = .ok (.bipush (-40), 2) := by decide +kernel
theorem d148_56 : decode (mC M148) 56 = .ok (.bipush 40, 2) := by decide +kernel
theorem d148_58 : decode (mC M148) 58 = .ok (.invokestatic 60, 3) := by decide +kernel
theorem d148_61 : decode (mC M148) 61 = .ok (.ifCond .eq 43, 3) := by decide +kernel
theorem d148_64 : decode (mC M148) 64 = .ok (.iload 4, 2) := by decide +kernel
theorem d148_66 : decode (mC M148) 66 = .ok (.bipush (-40), 2) := by decide +kernel
theorem d148_68 : decode (mC M148) 68 = .ok (.bipush 40, 2) := by decide +kernel
theorem d148_70 : decode (mC M148) 70 = .ok (.invokestatic 60, 3) := by decide +kernel
theorem d148_73 : decode (mC M148) 73 = .ok (.ifCond .eq 31, 3) := by decide +kernel
theorem d148_76 : decode (mC M148) 76 = .ok (.iload 6, 2) := by decide +kernel
theorem d148_78 : decode (mC M148) 78 = .ok (.ifCond .lt 32, 3) := by decide +kernel
theorem d148_81 : decode (mC M148) 81 = .ok (.aload 5, 2) := by decide +kernel
theorem d148_83 : decode (mC M148) 83 = .ok (.iload 6, 2) := by decide +kernel
theorem d148_85 : decode (mC M148) 85 = .ok (.iload_n 3, 1) := by decide +kernel
theorem d148_86 : decode (mC M148) 86 = .ok (.iload 4, 2) := by decide +kernel
theorem d148_88 : decode (mC M148) 88 = .ok (.aload_n 0, 1) := by decide +kernel
theorem d148_89 : decode (mC M148) 89 = .ok (.getfield 21, 3) := by decide +kernel
theorem d148_92 : decode (mC M148) 92 = .ok (.getfield 85, 3) := by decide +kernel
theorem d148_95 : decode (mC M148) 95 = .ok (.getfield 324, 3) := by decide +kernel
theorem d148_98 : decode (mC M148) 98 = .ok (.invokevirtual 327, 3) := by decide +kernel
theorem d148_101 : decode (mC M148) 101 = .ok (.ifCond .ne 9, 3) := by decide +kernel
theorem d148_104 : decode (mC M148) 104 = .ok (.aload_n 0, 1) := by decide +kernel
theorem d148_105 : decode (mC M148) 105 = .ok (.iconst 2, 1) := by decide +kernel
theorem d148_106 : decode (mC M148) 106 = .ok (.invokevirtual 64, 3) := by decide +kernel
theorem d148_109 : decode (mC M148) 109 = .ok (.ireturn, 1) := by decide +kernel
theorem d148_110 : decode (mC M148) 110 = .ok (.iload 6, 2) := by decide +kernel
theorem d148_112 : decode (mC M148) 112 = .ok (.ifCond .lt 14, 3) := by decide +kernel
theorem d148_115 : decode (mC M148) 115 = .ok (.aload 5, 2) := by decide +kernel
theorem d148_117 : decode (mC M148) 117 = .ok (.getfield 156, 3) := by decide +kernel
theorem d148_120 : decode (mC M148) 120 = .ok (.iload 6, 2) := by decide +kernel
theorem d148_122 : decode (mC M148) 122 = .ok (.iaload, 1) := by decide +kernel
theorem d148_123 : decode (mC M148) 123 = .ok (.ifCond .ne 9, 3) := by decide +kernel
theorem d148_126 : decode (mC M148) 126 = .ok (.aload_n 0, 1) := by decide +kernel
theorem d148_127 : decode (mC M148) 127 = .ok (.iconst 5, 1) := by decide +kernel
theorem d148_128 : decode (mC M148) 128 = .ok (.invokevirtual 64, 3) := by decide +kernel
theorem d148_131 : decode (mC M148) 131 = .ok (.ireturn, 1) := by decide +kernel
theorem d148_132 : decode (mC M148) 132 = .ok (.aload 5, 2) := by decide +kernel
theorem d148_134 : decode (mC M148) 134 = .ok (.getfield 330, 3) := by decide +kernel
theorem d148_137 : decode (mC M148) 137 = .ok (.bipush 16, 2) := by decide +kernel
theorem d148_139 : decode (mC M148) 139 = .ok (.if_icmp .lt 9, 3) := by decide +kernel
theorem d148_142 : decode (mC M148) 142 = .ok (.aload_n 0, 1) := by decide +kernel
theorem d148_143 : decode (mC M148) 143 = .ok (.iconst 3, 1) := by decide +kernel
theorem d148_144 : decode (mC M148) 144 = .ok (.invokevirtual 64, 3) := by decide +kernel
theorem d148_147 : decode (mC M148) 147 = .ok (.ireturn, 1) := by decide +kernel
theorem d148_148 : decode (mC M148) 148 = .ok (.aload 5, 2) := by decide +kernel
theorem d148_150 : decode (mC M148) 150 = .ok (.iload 6, 2) := by decide +kernel
theorem d148_152 : decode (mC M148) 152 = .ok (.iload_n 2, 1) := by decide +kernel
theorem d148_153 : decode (mC M148) 153 = .ok (.iload_n 3, 1) := by decide +kernel
theorem d148_154 : decode (mC M148) 154 = .ok (.iload 4, 2) := by decide +kernel
theorem d148_156 : decode (mC M148) 156 = .ok (.invokevirtual 331, 3) := by decide +kernel
theorem d148_159 : decode (mC M148) 159 = .ok (.aload_n 0, 1) := by decide +kernel
theorem d148_160 : decode (mC M148) 160 = .ok (.getfield 35, 3) := by decide +kernel
theorem d148_163 : decode (mC M148) 163 = .ok (.iconst 3, 1) := by decide +kernel
theorem d148_164 : decode (mC M148) 164 = .ok (.iconst 0, 1) := by decide +kernel
theorem d148_165 : decode (mC M148) 165 = .ok (.iconst 0, 1) := by decide +kernel
theorem d148_166 : decode (mC M148) 166 = .ok (.invokevirtual 307, 3) := by decide +kernel
theorem d148_169 : decode (mC M148) 169 = .ok (.aload_n 0, 1) := by decide +kernel
theorem d148_170 : decode (mC M148) 170 = .ok (.aload 5, 2) := by decide +kernel
theorem d148_172 : decode (mC M148) 172 = .ok (.iload_n 1, 1) := by decide +kernel
theorem d148_173 : decode (mC M148) 173 = .ok (.invokevirtual 130, 3) := by decide +kernel
theorem d148_176 : decode (mC M148) 176 = .ok (.invokevirtual 94, 3) := by decide +kernel
theorem d148_179 : decode (mC M148) 179 = .ok (.ireturn, 1) := by decide +kernel
theorem sc148_0 : ∀ q ∈ tc148_0, Snd xtb M148 q.1 q.2 := List.forall_mem_cons.mpr ⟨snd_aload_n d148_0 rfl, List.forall_mem_cons.mpr ⟨snd_iload_n d148_1 rfl, List.forall_mem_cons.mpr ⟨snd_callV (by decide) rfl cn156 ⟨by decide +kernel, by decide +kernel⟩ cm156 (List.forall_mem_cons.mpr ⟨wd845, cw156⟩) d148_2, List.forall_mem_cons.mpr ⟨snd_if_ne d148_5 (by decide), List.forall_mem_cons.mpr ⟨snd_aload_n d148_8 rfl, List.forall_mem_cons.mpr ⟨snd_iconst d148_9 (by decide +kernel), List.forall_mem_cons.mpr ⟨snd_callV (by decide) rfl cn154 ⟨by decide +kernel, by decide +kernel⟩ cm154 (List.forall_mem_cons.mpr ⟨wd569, cw154⟩) d148_10, List.forall_mem_cons.mpr ⟨snd_iret rfl d148_13, List.forall_mem_cons.mpr ⟨snd_aload_n d148_14 rfl, List.forall_mem_cons.mpr ⟨snd_getR (by decide) (by decide) rfl wd533 d148_15, List.forall_mem_cons.mpr ⟨snd_getR (by decide) (by decide) rfl wd364 d148_18, List.forall_mem_cons.mpr ⟨snd_getR (by decide) (by decide) rfl wd250 d148_21, List.forall_mem_cons.mpr ⟨snd_astore d148_24, List.forall_mem_cons.mpr ⟨snd_aload d148_26, List.forall_mem_cons.mpr ⟨snd_iload_n d148_28 rfl, List.forall_mem_cons.mpr ⟨snd_sipush d148_29 (by decide +kernel), List.forall_mem_cons.mpr ⟨snd_callV (by decide) rfl cn19 ⟨by decide +kernel, by decide +kernel⟩ cm19 (List.forall_mem_cons.mpr ⟨wd872, cw19⟩) d148_32, List.forall_mem_cons.mpr ⟨snd_istore d148_35, List.forall_mem_cons.mpr ⟨snd_iload_n d148_37 rfl, List.forall_mem_cons.mpr ⟨snd_aload d148_38, List.forall_mem_cons.mpr ⟨snd_iload_n d148_40 rfl, List.forall_mem_cons.mpr ⟨snd_callV (by decide) rfl cn20 ⟨by decide +kernel, by decide +kernel⟩ cm20 (List.forall_mem_cons.mpr ⟨wd1243, cw20⟩) d148_41, List.forall_mem_cons.mpr ⟨snd_sipush d148_44 (by decide +kernel), List.forall_mem_cons.mpr ⟨snd_callS cn164 ⟨by decide +kernel, by decide +kernel⟩ cm164 (List.forall_mem_cons.mpr ⟨wd566, cw164⟩) d148_47, List.forall_mem_cons.mpr ⟨snd_if_eq d148_50 (by decide), List.forall_mem_cons.mpr ⟨snd_iload_n d148_53 rfl, List.forall_mem_cons.mpr ⟨snd_bipush d148_54 (by decide +kernel), List.forall_mem_cons.mpr ⟨snd_bipush d148_56 (by decide +kernel), List.forall_mem_cons.mpr ⟨snd_callS cn164 ⟨by decide +kernel, by decide +kernel⟩ cm164 (List.forall_mem_cons.mpr ⟨wd566, cw164⟩) d148_58, List.forall_mem_cons.mpr ⟨snd_if_eq d148_61 (by decide), fun _ h => by cases h⟩⟩⟩⟩⟩⟩⟩⟩⟩⟩⟩⟩⟩⟩⟩⟩⟩⟩⟩⟩⟩⟩⟩⟩⟩⟩⟩⟩⟩⟩
theorem sc148_1 : ∀ q ∈ tc148_1, Snd xtb M148 q.1 q.2 := List.forall_mem_cons.mpr ⟨snd_iload d148_64, List.forall_mem_cons.mpr ⟨snd_bipush d148_66 (by decide +kernel), List.forall_mem_cons.mpr ⟨snd_bipush d148_68 (by decide +kernel), List.forall_mem_cons.mpr ⟨snd_callS cn164 ⟨by decide +kernel, by decide +kernel⟩ cm164 (List.forall_mem_cons.mpr ⟨wd566, cw164⟩) d148_70, List.forall_mem_cons.mpr ⟨snd_if_eq d148_73 (by decide), List.forall_mem_cons.mpr ⟨snd_iload d148_76, List.forall_mem_cons.mpr ⟨snd_if_lt d148_78 (by decide), List.forall_mem_cons.mpr ⟨snd_aload d148_81, List.forall_mem_cons.mpr ⟨snd_iload d148_83, List.forall_mem_cons.mpr ⟨snd_iload_n d148_85 rfl, List.forall_mem_cons.mpr ⟨snd_iload d148_86, List.forall_mem_cons.mpr ⟨snd_aload_n d148_88 rfl, List.forall_mem_cons.mpr ⟨snd_getR (by decide) (by decide) rfl wd533 d148_89, List.forall_mem_cons.mpr ⟨snd_getR (by decide) (by decide) rfl wd364 d148_92, List.forall_mem_cons.mpr ⟨snd_getI (by decide) (by decide) rfl wd234 d148_95, List.forall_mem_cons.mpr ⟨snd_callV (by decide) rfl cn30 ⟨by decide +kernel, by decide +kernel⟩ cm30 (List.forall_mem_cons.mpr ⟨wd1244, cw30⟩) d148_98, List.forall_mem_cons.mpr ⟨snd_if_ne d148_101 (by decide), List.forall_mem_cons.mpr ⟨snd_aload_n d148_104 rfl, List.forall_mem_cons.mpr ⟨snd_iconst d148_105 (by decide +kernel), List.forall_mem_cons.mpr ⟨snd_callV (by decide) rfl cn154 ⟨by decide +kernel, by decide +kernel⟩ cm154 (List.forall_mem_cons.mpr ⟨wd569, cw154⟩) d148_106, List.forall_mem_cons.mpr ⟨snd_iret rfl d148_109, List.forall_mem_cons.mpr ⟨snd_iload d148_110, List.forall_mem_cons.mpr ⟨snd_if_lt d148_112 (by decide), List.forall_mem_cons.mpr ⟨snd_aload d148_115, List.forall_mem_cons.mpr ⟨snd_getR (by decide) (by decide) rfl wd210 d148_117, List.forall_mem_cons.mpr ⟨snd_iload d148_120, List.forall_mem_cons.mpr ⟨snd_iald d148_122, List.forall_mem_cons.mpr ⟨snd_if_ne d148_123 (by decide), List.forall_mem_cons.mpr ⟨snd_aload_n d148_126 rfl, List.forall_mem_cons.mpr ⟨snd_iconst d148_127 (by decide +kernel), fun _ h => by cases h⟩⟩⟩⟩⟩⟩⟩⟩⟩⟩⟩⟩⟩⟩⟩⟩⟩⟩⟩⟩⟩⟩⟩⟩⟩⟩⟩⟩⟩⟩
theorem sc148_2 : ∀ q ∈ tc148_2, Snd xtb M148 q.1 q.2 := List.forall_mem_cons.mpr ⟨snd_callV (by decide) rfl cn154 ⟨by decide +kernel, by decide +kernel⟩ cm154 (List.forall_mem_cons.mpr ⟨wd569, cw154⟩) d148_128, List.forall_mem_cons.mpr ⟨snd_iret rfl d148_131, List.forall_mem_cons.mpr ⟨snd_aload d148_132, List.forall_mem_cons.mpr ⟨snd_getI (by decide) (by decide) rfl wd206 d148_134, List.forall_mem_cons.mpr ⟨snd_bipush d148_137 (by decide +kernel), List.forall_mem_cons.mpr ⟨snd_cmp_lt d148_139 (by decide), List.forall_mem_cons.mpr ⟨snd_aload_n d148_142 rfl, List.forall_mem_cons.mpr ⟨snd_iconst d148_143 (by decide +kernel), List.forall_mem_cons.mpr ⟨snd_callV (by decide) rfl cn154 ⟨by decide +kernel, by decide +kernel⟩ cm154 (List.forall_mem_cons.mpr ⟨wd569, cw154⟩) d148_144, List.forall_mem_cons.mpr ⟨snd_iret rfl d148_147, List.forall_mem_cons.mpr ⟨snd_aload d148_148, List.forall_mem_cons.mpr ⟨snd_iload d148_150, List.forall_mem_cons.mpr ⟨snd_iload_n d148_152 rfl, List.forall_mem_cons.mpr ⟨snd_iload_n d148_153 rfl, List.forall_mem_cons.mpr ⟨snd_iload d148_154, List.forall_mem_cons.mpr ⟨snd_callV (by decide) rfl cn33 ⟨by decide +kernel, by decide +kernel⟩ cm33 (List.forall_mem_cons.mpr ⟨wd1248, cw33⟩) d148_156, List.forall_mem_cons.mpr ⟨snd_aload_n d148_159 rfl, List.forall_mem_cons.mpr ⟨snd_getR (by decide) (by decide) rfl wd536 d148_160, List.forall_mem_cons.mpr ⟨snd_iconst d148_163 (by decide +kernel), List.forall_mem_cons.mpr ⟨snd_iconst d148_164 (by decide +kernel), List.forall_mem_cons.mpr ⟨snd_iconst d148_165 (by decide +kernel), List.forall_mem_cons.mpr ⟨snd_callV (by decide) rfl cn4 ⟨by decide +kernel, by decide +kernel⟩ cm4 (List.forall_mem_cons.mpr ⟨wd1223, cw4⟩) d148_166, List.forall_mem_cons.mpr ⟨snd_aload_n d148_169 rfl, List.forall_mem_cons.mpr ⟨snd_aload d148_170, List.forall_mem_cons.mpr ⟨snd_iload_n d148_172 rfl, List.forall_mem_cons.mpr ⟨snd_callV (by decide) rfl cn21 ⟨by decide +kernel, by decide +kernel⟩ cm21 (List.forall_mem_cons.mpr ⟨wd849, cw21⟩) d148_173, List.forall_mem_cons.mpr ⟨snd_callV (by decide) rfl cn153 ⟨by decide +kernel, by decide +kernel⟩ cm153 (List.forall_mem_cons.mpr ⟨wd813, cw153⟩) d148_176, List.forall_mem_cons.mpr ⟨snd_iret rfl d148_179, fun _ h => by cases h⟩⟩⟩⟩⟩⟩⟩⟩⟩⟩⟩⟩⟩⟩⟩⟩⟩⟩⟩⟩⟩⟩⟩⟩⟩⟩⟩⟩
theorem d149_0 : decode (mC M149) 0 = .ok (.aload_n 0, 1) := by decide +kernel
theorem d149_1 : decode (mC M149) 1 = .ok (.iload_n 1, 1) := by decide +kernel
theorem d149_2 : decode (mC M149) 2 = .ok (.invokevirtual 123, 3) := by decide +kernel
theorem d149_5 : decode (mC M149) 5 = .ok (.ifCond .eq 11, 3) := by decide +kernel
theorem d149_8 : decode (mC M149) 8 = .ok (.aload_n 0, 1) := by decide +kernel
theorem d149_9 : decode (mC M149) 9 = .ok (.iload_n 2, 1) := by decide +kernel
theorem d149_10 : decode (mC M149) 10 = .ok (.invokevirtual 110, 3) := by decide +kernel
theorem d149_13 : decode (mC M149) 13 = .ok (.ifCond .ne 9, 3) := by decide +kernel
theorem d149_16 : decode (mC M149) 16 = .ok (.aload_n 0, 1) := by decide +kernel
theorem d149_17 : decode (mC M149) 17 = .ok (.iconst 1, 1) := by decide +kernel
theorem d149_18 : decode (mC M149) 18 = .ok (.invokevirtual 64, 3) := by decide +kernel
theorem d149_21 : decode (mC M149) 21 = .ok (.ireturn, 1) := by decide +kernel
theorem d149_22 : decode (mC M149) 22 = .ok (.aload_n 0, 1) := by decide +kernel
theorem d149_23 : decode (mC M149) 23 = .ok (.getfield 21, 3) := by decide +kernel
theorem d149_26 : decode (mC M149) 26 = .ok (.getfield 113, 3) := by decide +kernel
theorem d149_29 : decode (mC M149) 29 = .ok (.getfield 335, 3) := by decide +kernel
theorem d149_32 : decode (mC M149) 32 = .ok (.astore 5, 2) := by decide +kernel
theorem d149_34 : decode (mC M149) 34 = .ok (.iload_n 3, 1) := by decide +kernel
theorem d149_35 : decode (mC M149) 35 = .ok (.aload 5, 2) := by decide +kernel
theorem d149_37 : decode (mC M149) 37 = .ok (.iload_n 1, 1) := by decide +kernel
theorem d149_38 : decode (mC M149) 38 = .ok (.iload_n 2, 1) := by decide +kernel
theorem d149_39 : decode (mC M149) 39 = .ok (.invokevirtual 339, 3) := by decide +kernel
theorem d149_42 : decode (mC M149) 42 = .ok (.sipush 999, 3) := by decide +kernel
theorem d149_45 : decode (mC M149) 45 = .ok (.invokestatic 60, 3) := by decide +kernel
theorem d149_48 : decode (mC M149) 48 = .ok (.ifCond .eq 15, 3) := by decide +kernel
theorem d149_51 : decode (mC M149) 51 = .ok (.iload 4, 2) := by decide +kernel
theorem d149_53 : decode (mC M149) 53 = .ok (.iconst 0, 1) := by decide +kernel
theorem d149_54 : decode (mC M149) 54 = .ok (.sipush 2500, 3) := by decide +kernel
theorem d149_57 : decode (mC M149) 57 = .ok (.invokestatic 60, 3) := by decide +kernel
theorem d149_60 : decode (mC M149) 60 = .ok (.ifCond .ne 9, 3) := by decide +kernel
theorem d149_63 : decode (mC M149) 63 = .ok (.aload_n 0, 1) := by decide +kernel
theorem d149_64 : decode (mC M149) 64 = .ok (.iconst 2, 1) := by decide +kernel
theorem d149_65 : decode (mC M149) 65 = .ok (.invokevirtual 64, 3) := by decide +kernel
theorem d149_68 : decode (mC M149) 68 = .ok (.ireturn, 1) := by decide +kernel
theorem d149_69 : decode (mC M149) 69 = .ok (.aload 5, 2) := by decide +kernel
theorem d149_71 : decode (mC M149) 71 = .ok (.getfield 343, 3) := by decide +kernel
theorem d149_74 : decode (mC M149) 74 = .ok (.bipush 20, 2) := by decide +kernel
theorem d149_76 : decode (mC M149) 76 = .ok (.if_icmp .lt 9, 3) := by decide +kernel
theorem d149_79 : decode (mC M149) 79 = .ok (.aload_n 0, 1) := by decide +kernel
theorem d149_80 : decode (mC M149) 80 = .ok (.iconst 3, 1) := by decide +kernel
theorem d149_81 : decode (mC M149) 81 = .ok (.invokevirtual 64, 3) := by decide +kernel
theorem d149_84 : decode (mC M149) 84 = .ok (.ireturn, 1) := by decide +kernel
theorem d149_85 : decode (mC M149) 85 = .ok (.aload 5, 2) := by decide +kernel
theorem d149_87 : decode (mC M149) 87 = .ok (.iload_n 1, 1) := by decide +kernel
theorem d149_88 : decode (mC M149) 88 = .ok (.iload_n 2, 1) := by decide +kernel
theorem d149_89 : decode (mC M149) 89 = .ok (.iload_n 3, 1) := by decide +kernel
theorem d149_90 : decode (mC M149) 90 = .ok (.iload 4, 2) := by decide +kernel
theorem d149_92 : decode (mC M149) 92 = .ok (.invokevirtual 344, 3) := by decide +kernel
theorem d149_95 : decode (mC M149) 95 = .ok (.aload_n 0, 1) := by decide +kernel
theorem d149_96 : decode (mC M149) 96 = .ok (.getfield 35, 3) := by decide +kernel
theorem d149_99 : decode (mC M149) 99 = .ok (.iconst 4, 1) := by decide +kernel
theorem d149_100 : decode (mC M149) 100 = .ok (.iconst 0, 1) := by decide +kernel
theorem d149_101 : decode (mC M149) 101 = .ok (.iconst 0, 1) := by decide +kernel
theorem d149_102 : decode (mC M149) 102 = .ok (.invokevirtual 307, 3) := by decide +kernel
theorem d149_105 : decode (mC M149) 105 = .ok (.aload_n 0, 1) := by decide +kernel
theorem d149_106 : decode (mC M149) 106 = .ok (.aload 5, 2) := by decide +kernel
theorem d149_108 : decode (mC M149) 108 = .ok (.getfield 343, 3) := by decide +kernel
theorem d149_111 : decode (mC M149) 111 = .ok (.invokevirtual 94, 3) := by decide +kernel
theorem d149_114 : decode (mC M149) 114 = .ok (.ireturn, 1) := by decide +kernel
theorem sc149_0 : ∀ q ∈ tc149_0, Snd xtb M149 q.1 q.2 := List.forall_mem_cons.mpr ⟨snd_aload_n d149_0 rfl, List.forall_mem_cons.mpr ⟨snd_iload_n d149_1 rfl, List.forall_mem_cons.mpr ⟨snd_callV (by decide) rfl cn156 ⟨by decide +kernel, by decide +kernel⟩ cm156 (List.forall_mem_cons.mpr ⟨wd845, cw156⟩) d149_2, List.forall_mem_cons.mpr ⟨snd_if_eq d149_5 (by decide), List.forall_mem_cons.mpr ⟨snd_aload_n d149_8 rfl, List.forall_mem_cons.mpr ⟨snd_iload_n d149_9 rfl, List.forall_mem_cons.mpr ⟨snd_callV (by decide) rfl cn158 ⟨by decide +kernel, by decide +kernel⟩ cm158 (List.forall_mem_cons.mpr ⟨wd837, cw158⟩) d149_10, List.forall_mem_cons.mpr ⟨snd_if_ne d149_13 (by decide), List.forall_mem_cons.mpr ⟨snd_aload_n d149_16 rfl, List.forall_mem_cons.mpr ⟨snd_iconst d149_17 (by decide +kernel), List.forall_mem_cons.mpr ⟨snd_callV (by decide) rfl cn154 ⟨by decide +kernel, by decide +kernel⟩ cm154 (List.forall_mem_cons.mpr ⟨wd569, cw154⟩) d149_18, List.forall_mem_cons.mpr ⟨snd_iret rfl d149_21, List.forall_mem_cons.mpr ⟨snd_aload_n d149_22 rfl, List.forall_mem_cons.mpr ⟨snd_getR (by decide) (by decide) rfl wd533 d149_23, List.forall_mem_cons.mpr ⟨snd_getR (by decide) (by decide) rfl wd367 d149_26, List.forall_mem_cons.mpr ⟨snd_getR (by decide) (by decide) rfl wd320 d149_29, List.forall_mem_cons.mpr ⟨snd_astore d149_32, List.forall_mem_cons.mpr ⟨snd_iload_n d149_34 rfl, List.forall_mem_cons.mpr ⟨snd_aload d149_35, List.forall_mem_cons.mpr ⟨snd_iload_n d149_37 rfl, List.forall_mem_cons.mpr ⟨snd_iload_n d149_38 rfl, List.forall_mem_cons.mpr ⟨snd_callV (by decide) rfl cn64 ⟨by decide +kernel, by decide +kernel⟩ cm64 (List.forall_mem_cons.mpr ⟨wd1258, cw64⟩) d149_39, List.forall_mem_cons.mpr ⟨snd_sipush d149_42 (by decide +kernel), List.forall_mem_cons.mpr ⟨snd_callS cn164 ⟨by decide +kernel, by decide +kernel⟩ cm164 (List.forall_mem_cons.mpr ⟨wd566, cw164⟩) d149_45, List.forall_mem_cons.mpr ⟨snd_if_eq d149_48 (by decide), List.forall_mem_cons.mpr ⟨snd_iload d149_51, List.forall_mem_cons.mpr ⟨snd_iconst d149_53 (by decide +kernel), List.forall_mem_cons.mpr ⟨snd_sipush d149_54 (by decide +kernel), List.forall_mem_cons.mpr ⟨snd_callS cn164 ⟨by decide +kernel, by decide +kernel⟩ cm164 (List.forall_mem_cons.mpr ⟨wd566, cw164⟩) d149_57, List.forall_mem_cons.mpr ⟨snd_if_ne d149_60 (by decide), fun _ h => by cases h⟩⟩⟩⟩⟩⟩⟩⟩⟩⟩⟩⟩⟩⟩⟩⟩⟩⟩⟩⟩⟩⟩⟩⟩⟩⟩⟩⟩⟩⟩
theorem sc149_1 : ∀ q ∈ tc149_1, Snd xtb M149 q.1 q.2 := List.forall_mem_cons.mpr ⟨snd_aload_n d149_63 rfl, List.forall_mem_cons.mpr ⟨snd_iconst d149_64 (by decide +kernel), List.forall_mem_cons.mpr ⟨snd_callV (by decide) rfl cn154 ⟨by decide +kernel, by decide +kernel⟩ cm154 (List.forall_mem_cons.mpr ⟨wd569, cw154⟩) d149_65, List.forall_mem_cons.mpr ⟨snd_iret rfl d149_68, List.forall_mem_cons.mpr ⟨snd_aload d149_69, List.forall_mem_cons.mpr ⟨snd_getI (by decide) (by decide) rfl wd293 d149_71, List.forall_mem_cons.mpr ⟨snd_bipush d149_74 (by decide +kernel), List.forall_mem_cons.mpr ⟨snd_cmp_lt d149_76 (by decide), List.forall_mem_cons.mpr ⟨snd_aload_n d149_79 rfl, List.forall_mem_cons.mpr ⟨snd_iconst d149_80 (by decide +kernel), List.forall_mem_cons.mpr ⟨snd_callV (by decide) rfl cn154 ⟨by decide +kernel, by decide +kernel⟩ cm154 (List.forall_mem_cons.mpr ⟨wd569, cw154⟩) d149_81, List.forall_mem_cons.mpr ⟨snd_iret rfl d149_84, List.forall_mem_cons.mpr ⟨snd_aload d149_85, List.forall_mem_cons.mpr ⟨snd_iload_n d149_87 rfl, List.forall_mem_cons.mpr ⟨snd_iload_n d149_88 rfl, List.forall_mem_cons.mpr ⟨snd_iload_n d149_89 rfl, List.forall_mem_cons.mpr ⟨snd_iload d149_90, List.forall_mem_cons.mpr ⟨snd_callV (by decide) rfl cn65 ⟨by decide +kernel, by decide +kernel⟩ cm65 (List.forall_mem_cons.mpr ⟨wd1259, cw65⟩) d149_92, List.forall_mem_cons.mpr ⟨snd_aload_n d149_95 rfl, List.forall_mem_cons.mpr ⟨snd_getR (by decide) (by decide) rfl wd536 d149_96, List.forall_mem_cons.mpr ⟨snd_iconst d149_99 (by decide +kernel), List.forall_mem_cons.mpr ⟨snd_iconst d149_100 (by decide +kernel), List.forall_mem_cons.mpr ⟨snd_iconst d149_101 (by decide +kernel), List.forall_mem_cons.mpr ⟨snd_callV (by decide) rfl cn4 ⟨by decide +kernel, by decide +kernel⟩ cm4 (List.forall_mem_cons.mpr ⟨wd1223, cw4⟩) d149_102, List.forall_mem_cons.mpr ⟨snd_aload_n d149_105 rfl, List.forall_mem_cons.mpr ⟨snd_aload d149_106, List.forall_mem_cons.mpr ⟨snd_getI (by decide) (by decide) rfl wd293 d149_108, List.forall_mem_cons.mpr ⟨snd_callV (by decide) rfl cn153 ⟨by decide +kernel, by decide +kernel⟩ cm153 (List.forall_mem_cons.mpr ⟨wd813, cw153⟩) d149_111, List.forall_mem_cons.mpr ⟨snd_iret rfl d149_114, fun _ h => by cases h⟩⟩⟩⟩⟩⟩⟩⟩⟩⟩⟩⟩⟩⟩⟩⟩⟩⟩⟩⟩⟩⟩⟩⟩⟩⟩⟩⟩⟩
theorem d150_0 : decode (mC M150) 0 = .ok (.aload_n 0, 1) := by decide +kernel
theorem d150_1 : decode (mC M150) 1 = .ok (.getfield 75, 3) := by decide +kernel
theorem d150_4 : decode (mC M150) 4 = .ok (.ifCond .eq 13, 3) := by decide +kernel
theorem d150_7 : decode (mC M150) 7 = .ok (.aload_n 0, 1) := by decide +kernel
theorem d150_8 : decode (mC M150) 8 = .ok (.getfield 35, 3) := by decide +kernel
theorem d150_11 : decode (mC M150) 11 = .ok (.getfield 82, 3) := by decide +kernel
theorem d150_14 : decode (mC M150) 14 = .ok (.ifCond .ne 10, 3) := by decide +kernel
theorem d150_17 : decode (mC M150) 17 = .ok (.aload_n 0, 1) := by decide +kernel
theorem d150_18 : decode (mC M150) 18 = .ok (.iconst 1, 1) := by decide +kernel
theorem d150_19 : decode (mC M150) 19 = .ok (.putfield 100, 3) := by decide +kernel
theorem d150_22 : decode (mC M150) 22 = .ok (.iconst 0, 1) := by decide +kernel
theorem d150_23 : decode (mC M150) 23 = .ok (.ireturn, 1) := by decide +kernel
theorem d150_24 : decode (mC M150) 24 = .ok (.aload_n 0, 1) := by decide +kernel
theorem d150_25 : decode (mC M150) 25 = .ok (.aload_n 0, 1) := by decide +kernel
theorem d150_26 : decode (mC M150) 26 = .ok (.getfield 35, 3) := by decide +kernel
theorem d150_29 : decode (mC M150) 29 = .ok (.getfield 82, 3) := by decide +kernel
theorem d150_32 : decode (mC M150) 32 = .ok (.iconst 1, 1) := by decide +kernel
theorem d150_33 : decode (mC M150) 33 = .ok (.isub, 1) := by decide +kernel
theorem d150_34 : decode (mC M150) 34 = .ok (.invokevirtual 347, 3) := by decide +kernel
theorem d150_37 : decode (mC M150) 37 = .ok (.aload_n 0, 1) := by decide +kernel
theorem d150_38 : decode (mC M150) 38 = .ok (.getfield 35, 3) := by decide +kernel
theorem d150_41 : decode (mC M150) 41 = .ok (.dup, 1) := by decide +kernel
theorem d150_42 : decode (mC M150) 42 = .ok (.getfield 82, 3) := by decide +kernel
theorem d150_45 : decode (mC M150) 45 = .ok (.iconst 1, 1) := by decide +kernel
theorem d150_46 : decode (mC M150) 46 = .ok (.isub, 1) := by decide +kernel
theorem d150_47 : decode (mC M150) 47 = .ok (.putfield 82, 3) := by decide +kernel
theorem d150_50 : decode (mC M150) 50 = .ok (.aload_n 0, 1) := by decide +kernel
theorem d150_51 : decode (mC M150) 51 = .ok (.iconst 0, 1) := by decide +kernel
theorem d150_52 : decode (mC M150) 52 = .ok (.putfield 100, 3) := by decide +kernel
theorem d150_55 : decode (mC M150) 55 = .ok (.iconst 1, 1) := by decide +kernel
theorem d150_56 : decode (mC M150) 56 = .ok (.ireturn, 1) := by decide +kernel
theorem sc150_0 : ∀ q ∈ tc150_0, Snd xtb M150 q.1 q.2 := List.forall_mem_cons.mpr ⟨snd_aload_n d150_0 rfl, List.forall_mem_cons.mpr ⟨snd_getI (by decide) (by decide) rfl wd534 d150_1, List.forall_mem_cons.mpr ⟨snd_if_eq d150_4 (by decide), List.forall_mem_cons.mpr ⟨snd_aload_n d150_7 rfl, List.forall_mem_cons.mpr ⟨snd_getR (by decide) (by decide) rfl wd536 d150_8, List.forall_mem_cons.mpr ⟨snd_getI (by decide) (by decide) rfl wd514 d150_11, List.forall_mem_cons.mpr ⟨snd_if_ne d150_14 (by decide), List.forall_mem_cons.mpr ⟨snd_aload_n d150_17 rfl, List.forall_mem_cons.mpr ⟨snd_iconst d150_18 (by decide +kernel), List.forall_mem_cons.mpr ⟨snd_putI (by decide) (by decide) rfl rfl wd538 d150_19, List.forall_mem_cons.mpr ⟨snd_iconst d150_22 (by decide +kernel), List.forall_mem_cons.mpr ⟨snd_zret rfl d150_23, List.forall_mem_cons.mpr ⟨snd_aload_n d150_24 rfl, List.forall_mem_cons.mpr ⟨snd_aload_n d150_25 rfl, List.forall_mem_cons.mpr ⟨snd_getR (by decide) (by decide) rfl wd536 d150_26, List.forall_mem_cons.mpr ⟨snd_getI (by decide) (by decide) rfl wd514 d150_29, List.forall_mem_cons.mpr ⟨snd_iconst d150_32 (by decide +kernel), List.forall_mem_cons.mpr ⟨snd_isub d150_33, List.forall_mem_cons.mpr ⟨snd_callV (by decide) rfl cn169 ⟨by decide +kernel, by decide +kernel⟩ cm169 (List.forall_mem_cons.mpr ⟨wd1264, cw169⟩) d150_34, List.forall_mem_cons.mpr ⟨snd_aload_n d150_37 rfl, List.forall_mem_cons.mpr ⟨snd_getR (by decide) (by decide) rfl wd536 d150_38, List.forall_mem_cons.mpr ⟨snd_dup d150_41, List.forall_mem_cons.mpr ⟨snd_getI (by decide) (by decide) rfl wd514 d150_42, List.forall_mem_cons.mpr ⟨snd_iconst d150_45 (by decide +kernel), List.forall_mem_cons.mpr ⟨snd_isub d150_46, List.forall_mem_cons.mpr ⟨snd_putI (by decide) (by decide) rfl rfl wd514 d150_47, List.forall_mem_cons.mpr ⟨snd_aload_n d150_50 rfl, List.forall_mem_cons.mpr ⟨snd_iconst d150_51 (by decide +kernel), List.forall_mem_cons.mpr ⟨snd_putI (by decide) (by decide) rfl rfl wd538 d150_52, List.forall_mem_cons.mpr ⟨snd_iconst d150_55 (by decide +kernel), fun _ h => by cases h⟩⟩⟩⟩⟩⟩⟩⟩⟩⟩⟩⟩⟩⟩⟩⟩⟩⟩⟩⟩⟩⟩⟩⟩⟩⟩⟩⟩⟩⟩
theorem sc150_1 : ∀ q ∈ tc150_1, Snd xtb M150 q.1 q.2 := List.forall_mem_cons.mpr ⟨snd_zret rfl d150_56, fun _ h => by cases h⟩
theorem d151_0 : decode (mC M151) 0 = .ok (.iload_n 1, 1) := by decide +kernel
theorem d151_1 : decode (mC M151) 1 = .ok (.tableswitch 54 0 2 #[27, 38, 46], 27) := by decide +kernel
theorem d151_28 : decode (mC M151) 28 = .ok (.aload_n 0, 1) := by decide +kernel
theorem d151_29 : decode (mC M151) 29 = .ok (.getfield 12, 3) := by decide +kernel
theorem d151_32 : decode (mC M151) 32 = .ok (.getfield 46, 3) := by decide +kernel
theorem d151_35 : decode (mC M151) 35 = .ok (.getfield 50, 3) := by decide +kernel
theorem d151_38 : decode (mC M151) 38 = .ok (.ireturn, 1) := by decide +kernel
theorem d151_39 : decode (mC M151) 39 = .ok (.aload_n 0, 1) := by decide +kernel
theorem d151_40 : decode (mC M151) 40 = .ok (.getfield 35, 3) := by decide +kernel
theorem d151_43 : decode (mC M151) 43 = .ok (.getfield 82, 3) := by decide +kernel
theorem d151_46 : decode (mC M151) 46 = .ok (.ireturn, 1) := by decide +kernel
theorem d151_47 : decode (mC M151) 47 = .ok (.aload_n 0, 1) := by decide +kernel
theorem d151_48 : decode (mC M151) 48 = .ok (.getfield 28, 3) := by decide +kernel
theorem d151_51 : decode (mC M151) 51 = .ok (.invokevirtual 356, 3) := by decide +kernel
theorem d151_54 : decode (mC M151) 54 = .ok (.ireturn, 1) := by decide +kernel
theorem d151_55 : decode (mC M151) 55 = .ok (.iconst (-1), 1) := by decide +kernel
theorem d151_56 : decode (mC M151) 56 = .ok (.ireturn, 1) := by decide +kernel
theorem sc151_0 : ∀ q ∈ tc151_0, Snd xtb M151 q.1 q.2 := List.forall_mem_cons.mpr ⟨snd_iload_n d151_0 rfl, List.forall_mem_cons.mpr ⟨snd_tsw d151_1 (by decide +kernel), List.forall_mem_cons.mpr ⟨snd_aload_n d151_28 rfl, List.forall_mem_cons.mpr ⟨snd_getR (by decide) (by decide) rfl wd532 d151_29, List.forall_mem_cons.mpr ⟨snd_getR (by decide) (by decide) rfl wd377 d151_32, List.forall_mem_cons.mpr ⟨snd_getI (by decide) (by decide) rfl wd154 d151_35, List.forall_mem_cons.mpr ⟨snd_iret rfl d151_38, List.forall_mem_cons.mpr ⟨snd_aload_n d151_39 rfl, List.forall_mem_cons.mpr ⟨snd_getR (by decide) (by decide) rfl wd536 d151_40, List.forall_mem_cons.mpr ⟨snd_getI (by decide) (by decide) rfl wd514 d151_43, List.forall_mem_cons.mpr ⟨snd_iret rfl d151_46, List.forall_mem_cons.mpr ⟨snd_aload_n d151_47 rfl, List.forall_mem_cons.mpr ⟨snd_getR (by decide) (by decide) rfl wd535 d151_48, List.forall_mem_cons.mpr ⟨snd_callV (by decide) rfl cn8 ⟨by decide +kernel, by decide +kernel⟩ cm8 (List.forall_mem_cons.mpr ⟨wd1276, cw8⟩) d151_51, List.forall_mem_cons.mpr ⟨snd_iret rfl d151_54, List.forall_mem_cons.mpr ⟨snd_iconst d151_55 (by decide +kernel), List.forall_mem_cons.mpr ⟨snd_iret rfl d151_56, fun _ h => by cases h⟩⟩⟩⟩⟩⟩⟩⟩⟩⟩⟩⟩⟩⟩⟩⟩⟩
theorem d152_0 : decode (mC M152) 0 = .ok (.aload_n 0, 1) := by decide +kernel
theorem d152_1 : decode (mC M152) 1 = .ok (.getfield 100, 3) := by decide +kernel
theorem d152_4 : decode (mC M152) 4 = .ok (.ireturn, 1) := by decide +kernel
theorem sc152_0 : ∀ q ∈ tc152_0, Snd xtb M152 q.1 q.2 := List.forall_mem_cons.mpr ⟨snd_aload_n d152_0 rfl, List.forall_mem_cons.mpr ⟨snd_getI (by decide) (by decide) rfl wd538 d152_1, List.forall_mem_cons.mpr ⟨snd_iret rfl d152_4, fun _ h => by cases h⟩⟩⟩
theorem d153_0 : decode (mC M153) 0 = .ok (.aload_n 0, 1) := by decide +kernel
theorem d153_1 : decode (mC M153) 1 = .ok (.iconst 0, 1) := by decide +kernel
theorem d153_2 : decode (mC M153) 2 = .ok (.putfield 100, 3) := by decide +kernel
theorem d153_5 : decode (mC M153) 5 = .ok (.iload_n 1, 1) := by decide +kernel
theorem d153_6 : decode (mC M153) 6 = .ok (.ireturn, 1) := by decide +kernel
theorem sc153_0 : ∀ q ∈ tc153_0, Snd xtb M153 q.1 q.2 := List.forall_mem_cons.mpr ⟨snd_aload_n d153_0 rfl, List.forall_mem_cons.mpr ⟨snd_iconst d153_1 (by decide +kernel), List.forall_mem_cons.mpr ⟨snd_putI (by decide) (by decide) rfl rfl wd538 d153_2, List.forall_mem_cons.mpr ⟨snd_iload_n d153_5 rfl, List.forall_mem_cons.mpr ⟨snd_iret rfl d153_6, fun _ h => by cases h⟩⟩⟩⟩⟩
theorem d154_0 : decode (mC M154) 0 = .ok (.aload_n 0, 1) := by decide +kernel
theorem d154_1 : decode (mC M154) 1 = .ok (.iload_n 1, 1) := by decide +kernel
theorem d154_2 : decode (mC M154) 2 = .ok (.putfield 100, 3) := by decide +kernel
theorem d154_5 : decode (mC M154) 5 = .ok (.iconst (-1), 1) := by decide +kernel
theorem d154_6 : decode (mC M154) 6 = .ok (.ireturn, 1) := by decide +kernel
theorem sc154_0 : ∀ q ∈ tc154_0, Snd xtb M154 q.1 q.2 := List.forall_mem_cons.mpr ⟨snd_aload_n d154_0 rfl, List.forall_mem_cons.mpr ⟨snd_iload_n d154_1 rfl, List.forall_mem_cons.mpr ⟨snd_putI (by decide) (by decide) rfl rfl wd538 d154_2, List.forall_mem_cons.mpr ⟨snd_iconst d154_5 (by decide +kernel), List.forall_mem_cons.mpr ⟨snd_iret rfl d154_6, fun _ h => by cases h⟩⟩⟩⟩⟩
theorem d155_0 : decode (mC M155) 0 = .ok (.aload_n 0, 1) := by decide +kernel
theorem d155_1 : decode (mC M155) 1 = .ok (.iload_n 1, 1) := by decide +kernel
theorem d155_2 : decode (mC M155) 2 = .ok (.putfield 100, 3) := by decide +kernel
theorem d155_5 : decode (mC M155) 5 = .ok (.ldc_w 359, 3) := by decide +kernel
theorem d155_8 : decode (mC M155) 8 = .ok (.ireturn, 1) := by decide +kernel
theorem sc155_0 : ∀ q ∈ tc155_0, Snd xtb M155 q.1 q.2 := List.forall_mem_cons.mpr ⟨snd_aload_n d155_0 rfl, List.forall_mem_cons.mpr ⟨snd_iload_n d155_1 rfl, List.forall_mem_cons.mpr ⟨snd_putI (by decide) (by decide) rfl rfl wd538 d155_2, List.forall_mem_cons.mpr ⟨snd_ldcw d155_5 wd881, List.forall_mem_cons.mpr ⟨snd_iret rfl d155_8, fun _ h => by cases h⟩⟩⟩⟩⟩
theorem d156_0 : decode (mC M156) 0 = .ok (.aload_n 0, 1) := by decide +kernel
theorem d156_1 : decode (mC M156) 1 = .ok (.getfield 75, 3) := by decide +kernel
theorem d156_4 : decode (mC M156) 4 = .ok (.ifCond .eq 27, 3) := by decide +kernel
theorem d156_7 : decode (mC M156) 7 = .ok (.iload_n 1, 1) := by decide +kernel
theorem d156_8 : decode (mC M156) 8 = .ok (.iconst 0, 1) := by decide +kernel
theorem d156_9 : decode (mC M156) 9 = .ok (.aload_n 0, 1) := by decide +kernel
theorem d156_10 : decode (mC M156) 10 = .ok (.getfield 21, 3) := by decide +kernel
theorem d156_13 : decode (mC M156) 13 = .ok (.getfield 85, 3) := by decide +kernel
theorem d156_16 : decode (mC M156) 16 = .ok (.getfield 89, 3) := by decide +kernel
theorem d156_19 : decode (mC M156) 19 = .ok (.iconst 1, 1) := by decide +kernel
theorem d156_20 : decode (mC M156) 20 = .ok (.isub, 1) := by decide +kernel
theorem d156_21 : decode (mC M156) 21 = .ok (.invokestatic 60, 3) := by decide +kernel
theorem d156_24 : decode (mC M156) 24 = .ok (.ifCond .eq 7, 3) := by decide +kernel
theorem d156_27 : decode (mC M156) 27 = .ok (.iconst 1, 1) := by decide +kernel
theorem d156_28 : decode (mC M156) 28 = .ok (.goto 4, 3) := by decide +kernel
theorem d156_31 : decode (mC M156) 31 = .ok (.iconst 0, 1) := by decide +kernel
theorem d156_32 : decode (mC M156) 32 = .ok (.ireturn, 1) := by decide +kernel
theorem sc156_0 : ∀ q ∈ tc156_0, Snd xtb M156 q.1 q.2 := List.forall_mem_cons.mpr ⟨snd_aload_n d156_0 rfl, List.forall_mem_cons.mpr ⟨snd_getI (by decide) (by decide) rfl wd534 d156_1, List.forall_mem_cons.mpr ⟨snd_if_eq d156_4 (by decide), List.forall_mem_cons.mpr ⟨snd_iload_n d156_7 rfl, List.forall_mem_cons.mpr ⟨snd_iconst d156_8 (by decide +kernel), List.forall_mem_cons.mpr ⟨snd_aload_n d156_9 rfl, List.forall_mem_cons.mpr ⟨snd_getR (by decide) (by decide) rfl wd533 d156_10, List.forall_mem_cons.mpr ⟨snd_getR (by decide) (by decide) rfl wd364 d156_13, List.forall_mem_cons.mpr ⟨snd_getI (by decide) (by decide) rfl wd242 d156_16, List.forall_mem_cons.mpr ⟨snd_iconst d156_19 (by decide +kernel), List.forall_mem_cons.mpr ⟨snd_isub d156_20, List.forall_mem_cons.mpr ⟨snd_callS cn164 ⟨by decide +kernel, by decide +kernel⟩ cm164 (List.forall_mem_cons.mpr ⟨wd566, cw164⟩) d156_21, List.forall_mem_cons.mpr ⟨snd_if_eq d156_24 (by decide), List.forall_mem_cons.mpr ⟨snd_iconst d156_27 (by decide +kernel), List.forall_mem_cons.mpr ⟨snd_goto d156_28 (by decide), List.forall_mem_cons.mpr ⟨snd_iconst d156_31 (by decide +kernel), List.forall_mem_cons.mpr ⟨snd_zret rfl d156_32, fun _ h => by cases h⟩⟩⟩⟩⟩⟩⟩⟩⟩⟩⟩⟩⟩⟩⟩⟩⟩
theorem d157_0 : decode (mC M157) 0 = .ok (.aload_n 0, 1) := by decide +kernel
theorem d157_1 : decode (mC M157) 1 = .ok (.getfield 75, 3) := by decide +kernel
theorem d157_4 : decode (mC M157) 4 = .ok (.ifCond .eq 27, 3) := by decide +kernel
theorem d157_7 : decode (mC M157) 7 = .ok (.iload_n 1, 1) := by decide +kernel
theorem d157_8 : decode (mC M157) 8 = .ok (.iconst (-1), 1) := by decide +kernel
theorem d157_9 : decode (mC M157) 9 = .ok (.aload_n 0, 1) := by decide +kernel
theorem d157_10 : decode (mC M157) 10 = .ok (.getfield 21, 3) := by decide +kernel
theorem d157_13 : decode (mC M157) 13 = .ok (.getfield 85, 3) := by decide +kernel
theorem d157_16 : decode (mC M157) 16 = .ok (.getfield 89, 3) := by decide +kernel
theorem d157_19 : decode (mC M157) 19 = .ok (.iconst 1, 1) := by decide +kernel
theorem d157_20 : decode (mC M157) 20 = .ok (.isub, 1) := by decide +kernel
theorem d157_21 : decode (mC M157) 21 = .ok (.invokestatic 60, 3) := by decide +kernel
theorem d157_24 : decode (mC M157) 24 = .ok (.ifCond .eq 7, 3) := by decide +kernel
theorem d157_27 : decode (mC M157) 27 = .ok (.iconst 1, 1) := by decide +kernel
theorem d157_28 : decode (mC M157) 28 = .ok (.goto 4, 3) := by decide +kernel
theorem d157_31 : decode (mC M157) 31 = .ok (.iconst 0, 1) := by decide +kernel
theorem d157_32 : decode (mC M157) 32 = .ok (.ireturn, 1) := by decide +kernel
theorem sc157_0 : ∀ q ∈ tc157_0, Snd xtb M157 q.1 q.2 := List.forall_mem_cons.mpr ⟨snd_aload_n d157_0 rfl, List.forall_mem_cons.mpr ⟨snd_getI (by decide) (by decide) rfl wd534 d157_1, List.forall_mem_cons.mpr ⟨snd_if_eq d157_4 (by decide), List.forall_mem_cons.mpr ⟨snd_iload_n d157_7 rfl, List.forall_mem_cons.mpr ⟨snd_iconst d157_8 (by decide +kernel), List.forall_mem_cons.mpr ⟨snd_aload_n d157_9 rfl, List.forall_mem_cons.mpr ⟨snd_getR (by decide) (by decide) rfl wd533 d157_10, List.forall_mem_cons.mpr ⟨snd_getR (by decide) (by decide) rfl wd364 d157_13, List.forall_mem_cons.mpr ⟨snd_getI (by decide) (by decide) rfl wd242 d157_16, List.forall_mem_cons.mpr ⟨snd_iconst d157_19 (by decide +kernel), List.forall_mem_cons.mpr ⟨snd_isub d157_20, List.forall_mem_cons.mpr ⟨snd_callS cn164 ⟨by decide +kernel, by decide +kernel⟩ cm164 (List.forall_mem_cons.mpr ⟨wd566, cw164⟩) d157_21, List.forall_mem_cons.mpr ⟨snd_if_eq d157_24 (by decide), List.forall_mem_cons.mpr ⟨snd_iconst d157_27 (by decide +kernel), List.forall_mem_cons.mpr ⟨snd_goto d157_28 (by decide), List.forall_mem_cons.mpr ⟨snd_iconst d157_31 (by decide +kernel), List.forall_mem_cons.mpr ⟨snd_zret rfl d157_32, fun _ h => by cases h⟩⟩⟩⟩⟩⟩⟩⟩⟩⟩⟩⟩⟩⟩⟩⟩⟩
theorem d158_0 : decode (mC M158) 0 = .ok (.aload_n 0, 1) := by decide +kernel
theorem d158_1 : decode (mC M158) 1 = .ok (.getfield 75, 3) := by decide +kernel
theorem d158_4 : decode (mC M158) 4 = .ok (.ifCond .eq 27, 3) := by decide +kernel
theorem d158_7 : decode (mC M158) 7 = .ok (.iload_n 1, 1) := by decide +kernel
theorem d158_8 : decode (mC M158) 8 = .ok (.iconst 0, 1) := by decide +kernel
theorem d158_9 : decode (mC M158) 9 = .ok (.aload_n 0, 1) := by decide +kernel
theorem d158_10 : decode (mC M158) 10 = .ok (.getfield 21, 3) := by decide +kernel
theorem d158_13 : decode (mC M158) 13 = .ok (.getfield 113, 3) := by decide +kernel
theorem d158_16 : decode (mC M158) 16 = .ok (.getfield 360, 3) := by decide +kernel
theorem d158_19 : decode (mC M158) 19 = .ok (.iconst 1, 1) := by decide +kernel
theorem d158_20 : decode (mC M158) 20 = .ok (.isub, 1) := by decide +kernel
theorem d158_21 : decode (mC M158) 21 = .ok (.invokestatic 60, 3) := by decide +kernel
theorem d158_24 : decode (mC M158) 24 = .ok (.ifCond .eq 7, 3) := by decide +kernel
theorem d158_27 : decode (mC M158) 27 = .ok (.iconst 1, 1) := by decide +kernel
theorem d158_28 : decode (mC M158) 28 = .ok (.goto 4, 3) := by decide +kernel
theorem d158_31 : decode (mC M158) 31 = .ok (.iconst 0, 1) := by decide +kernel
theorem d158_32 : decode (mC M158) 32 = .ok (.ireturn, 1) := by decide +kernel
theorem sc158_0 : ∀ q ∈ tc158_0, Snd xtb M158 q.1 q.2 := List.forall_mem_cons.mpr ⟨snd_aload_n d158_0 rfl, List.forall_mem_cons.mpr ⟨snd_getI (by decide) (by decide) rfl wd534 d158_1, List.forall_mem_cons.mpr ⟨snd_if_eq d158_4 (by decide), List.forall_mem_cons.mpr ⟨snd_iload_n d158_7 rfl, List.forall_mem_cons.mpr ⟨snd_iconst d158_8 (by decide +kernel), List.forall_mem_cons.mpr ⟨snd_aload_n d158_9 rfl, List.forall_mem_cons.mpr ⟨snd_getR (by decide) (by decide) rfl wd533 d158_10, List.forall_mem_cons.mpr ⟨snd_getR (by decide) (by decide) rfl wd367 d158_13, List.forall_mem_cons.mpr ⟨snd_getI (by decide) (by decide) rfl wd314 d158_16, List.forall_mem_cons.mpr ⟨snd_iconst d158_19 (by decide +kernel), List.forall_mem_cons.mpr ⟨snd_isub d158_20, List.forall_mem_cons.mpr ⟨snd_callS cn164 ⟨by decide +kernel, by decide +kernel⟩ cm164 (List.forall_mem_cons.mpr ⟨wd566, cw164⟩) d158_21, List.forall_mem_cons.mpr ⟨snd_if_eq d158_24 (by decide), List.forall_mem_cons.mpr ⟨snd_iconst d158_27 (by decide +kernel), List.forall_mem_cons.mpr ⟨snd_goto d158_28 (by decide), List.forall_mem_cons.mpr ⟨snd_iconst d158_31 (by decide +kernel), List.forall_mem_cons.mpr ⟨snd_zret rfl d158_32, fun _ h => by cases h⟩⟩⟩⟩⟩⟩⟩⟩⟩⟩⟩⟩⟩⟩⟩⟩⟩
theorem d159_0 : decode (mC M159) 0 = .ok (.aload_n 0, 1) := by decide +kernel
theorem d159_1 : decode (mC M159) 1 = .ok (.getfield 75, 3) := by decide +kernel
theorem d159_4 : decode (mC M159) 4 = .ok (.ifCond .eq 24, 3) := by decide +kernel
theorem d159_7 : decode (mC M159) 7 = .ok (.iload_n 1, 1) := by decide +kernel
theorem d159_8 : decode (mC M159) 8 = .ok (.iconst 0, 1) := by decide +kernel
theorem d159_9 : decode (mC M159) 9 = .ok (.aload_n 0, 1) := by decide +kernel
theorem d159_10 : decode (mC M159) 10 = .ok (.getfield 28, 3) := by decide +kernel
theorem d159_13 : decode (mC M159) 13 = .ok (.getfield 106, 3) := by decide +kernel
theorem d159_16 : decode (mC M159) 16 = .ok (.iconst 1, 1) := by decide +kernel
theorem d159_17 : decode (mC M159) 17 = .ok (.isub, 1) := by decide +kernel
theorem d159_18 : decode (mC M159) 18 = .ok (.invokestatic 60, 3) := by decide +kernel
theorem d159_21 : decode (mC M159) 21 = .ok (.ifCond .eq 7, 3) := by decide +kernel
theorem d159_24 : decode (mC M159) 24 = .ok (.iconst 1, 1) := by decide +kernel
theorem d159_25 : decode (mC M159) 25 = .ok (.goto 4, 3) := by decide +kernel
theorem d159_28 : decode (mC M159) 28 = .ok (.iconst 0, 1) := by decide +kernel
theorem d159_29 : decode (mC M159) 29 = .ok (.ireturn, 1) := by decide +kernel
theorem sc159_0 : ∀ q ∈ tc159_0, Snd xtb M159 q.1 q.2 := List.forall_mem_cons.mpr ⟨snd_aload_n d159_0 rfl, List.forall_mem_cons.mpr ⟨snd_getI (by decide) (by decide) rfl wd534 d159_1, List.forall_mem_cons.mpr ⟨snd_if_eq d159_4 (by decide), List.forall_mem_cons.mpr ⟨snd_iload_n d159_7 rfl, List.forall_mem_cons.mpr ⟨snd_iconst d159_8 (by decide +kernel), List.forall_mem_cons.mpr ⟨snd_aload_n d159_9 rfl, List.forall_mem_cons.mpr ⟨snd_getR (by decide) (by decide) rfl wd535 d159_10, List.forall_mem_cons.mpr ⟨snd_getI (by decide) (by decide) rfl wd477 d159_13, List.forall_mem_cons.mpr ⟨snd_iconst d159_16 (by decide +kernel), List.forall_mem_cons.mpr ⟨snd_isub d159_17, List.forall_mem_cons.mpr ⟨snd_callS cn164 ⟨by decide +kernel, by decide +kernel⟩ cm164 (List.forall_mem_cons.mpr ⟨wd566, cw164⟩) d159_18, List.forall_mem_cons.mpr ⟨snd_if_eq d159_21 (by decide), List.forall_mem_cons.mpr ⟨snd_iconst d159_24 (by decide +kernel), List.forall_mem_cons.mpr ⟨snd_goto d159_25 (by decide), List.forall_mem_cons.mpr ⟨snd_iconst d159_28 (by decide +kernel), List.forall_mem_cons.mpr ⟨snd_zret rfl d159_29, fun _ h => by cases h⟩⟩⟩⟩⟩⟩⟩⟩⟩⟩⟩⟩⟩⟩⟩⟩
theorem d160_0 : decode (mC M160) 0 = .ok (.aload_n 0, 1) := by decide +kernel
theorem d160_1 : decode (mC M160) 1 = .ok (.getfield 75, 3) := by decide +kernel
theorem d160_4 : decode (mC M160) 4 = .ok (.ifCond .eq 24, 3) := by decide +kernel
theorem d160_7 : decode (mC M160) 7 = .ok (.iload_n 1, 1) := by decide +kernel
theorem d160_8 : decode (mC M160) 8 = .ok (.iconst 0, 1) := by decide +kernel
theorem d160_9 : decode (mC M160) 9 = .ok (.aload_n 0, 1) := by decide +kernel
theorem d160_10 : decode (mC M160) 10 = .ok (.getfield 28, 3) := by decide +kernel
theorem d160_13 : decode (mC M160) 13 = .ok (.getfield 279, 3) := by decide +kernel
theorem d160_16 : decode (mC M160) 16 = .ok (.iconst 1, 1) := by decide +kernel
theorem d160_17 : decode (mC M160) 17 = .ok (.isub, 1) := by decide +kernel
theorem d160_18 : decode (mC M160) 18 = .ok (.invokestatic 60, 3) := by decide +kernel
theorem d160_21 : decode (mC M160) 21 = .ok (.ifCond .eq 7, 3) := by decide +kernel
theorem d160_24 : decode (mC M160) 24 = .ok (.iconst 1, 1) := by decide +kernel
theorem d160_25 : decode (mC M160) 25 = .ok (.goto 4, 3) := by decide +kernel
theorem d160_28 : decode (mC M160) 28 = .ok (.iconst 0, 1) := by decide +kernel
theorem d160_29 : decode (mC M160) 29 = .ok (.ireturn, 1) := by decide +kernel
theorem sc160_0 : ∀ q ∈ tc160_0, Snd xtb M160 q.1 q.2 := List.forall_mem_cons.mpr ⟨snd_aload_n d160_0 rfl, List.forall_mem_cons.mpr ⟨snd_getI (by decide) (by decide) rfl wd534 d160_1, List.forall_mem_cons.mpr ⟨snd_if_eq d160_4 (by decide), List.forall_mem_cons.mpr ⟨snd_iload_n d160_7 rfl, List.forall_mem_cons.mpr ⟨snd_iconst d160_8 (by decide +kernel), List.forall_mem_cons.mpr ⟨snd_aload_n d160_9 rfl, List.forall_mem_cons.mpr ⟨snd_getR (by decide) (by decide) rfl wd535 d160_10, List.forall_mem_cons.mpr ⟨snd_getI (by decide) (by decide) rfl wd481 d160_13, List.forall_mem_cons.mpr ⟨snd_iconst d160_16 (by decide +kernel), List.forall_mem_cons.mpr ⟨snd_isub d160_17, List.forall_mem_cons.mpr ⟨snd_callS cn164 ⟨by decide +kernel, by decide +kernel⟩ cm164 (List.forall_mem_cons.mpr ⟨wd566, cw164⟩) d160_18, List.forall_mem_cons.mpr ⟨snd_if_eq d160_21 (by decide), List.forall_mem_cons.mpr ⟨snd_iconst d160_24 (by decide +kernel), List.forall_mem_cons.mpr ⟨snd_goto d160_25 (by decide), List.forall_mem_cons.mpr ⟨snd_iconst d160_28 (by decide +kernel), List.forall_mem_cons.mpr ⟨snd_zret rfl d160_29, fun _ h => by cases h⟩⟩⟩⟩⟩⟩⟩⟩⟩⟩⟩⟩⟩⟩⟩⟩
theorem d161_0 : decode (mC M161) 0 = .ok (.iload_n 1, 1) := by decide +kernel
theorem d161_1 : decode (mC M161) 1 = .ok (.iconst 0, 1) := by decide +kernel
theorem d161_2 : decode (mC M161) 2 = .ok (.aload_n 0, 1) := by decide +kernel
theorem d161_3 : decode (mC M161) 3 = .ok (.getfield 21, 3) := by decide +kernel
theorem d161_6 : decode (mC M161) 6 = .ok (.getfield 85, 3) := by decide +kernel
theorem d161_9 : decode (mC M161) 9 = .ok (.getfield 324, 3) := by decide +kernel
theorem d161_12 : decode (mC M161) 12 = .ok (.invokestatic 60, 3) := by decide +kernel
theorem d161_15 : decode (mC M161) 15 = .ok (.ifCond .eq 25, 3) := by decide +kernel
theorem d161_18 : decode (mC M161) 18 = .ok (.iload_n 2, 1) := by decide +kernel
theorem d161_19 : decode (mC M161) 19 = .ok (.iconst 0, 1) := by decide +kernel
theorem d161_20 : decode (mC M161) 20 = .ok (.aload_n 0, 1) := by decide +kernel
theorem d161_21 : decode (mC M161) 21 = .ok (.getfield 21, 3) := by decide +kernel
theorem d161_24 : decode (mC M161) 24 = .ok (.getfield 85, 3) := by decide +kernel
theorem d161_27 : decode (mC M161) 27 = .ok (.getfield 324, 3) := by decide +kernel
theorem d161_30 : decode (mC M161) 30 = .ok (.invokestatic 60, 3) := by decide +kernel
theorem d161_33 : decode (mC M161) 33 = .ok (.ifCond .eq 7, 3) := by decide +kernel
theorem d161_36 : decode (mC M161) 36 = .ok (.iconst 1, 1) := by decide +kernel
theorem d161_37 : decode (mC M161) 37 = .ok (.goto 4, 3) := by decide +kernel
theorem d161_40 : decode (mC M161) 40 = .ok (.iconst 0, 1) := by decide +kernel
theorem d161_41 : decode (mC M161) 41 = .ok (.ireturn, 1) := by decide +kernel
theorem sc161_0 : ∀ q ∈ tc161_0, Snd xtb M161 q.1 q.2 := List.forall_mem_cons.mpr ⟨snd_iload_n d161_0 rfl, List.forall_mem_cons.mpr ⟨snd_iconst d161_1 (by decide +kernel), List.forall_mem_cons.mpr ⟨snd_aload_n d161_2 rfl, List.forall_mem_cons.mpr ⟨snd_getR (by decide) (by decide) rfl wd533 d161_3, List.forall_mem_cons.mpr ⟨snd_getR (by decide) (by decide) rfl wd364 d161_6, List.forall_mem_cons.mpr ⟨snd_getI (by decide) (by decide) rfl wd234 d161_9, List.forall_mem_cons.mpr ⟨snd_callS cn164 ⟨by decide +kernel, by decide +kernel⟩ cm164 (List.forall_mem_cons.mpr ⟨wd566, cw164⟩) d161_12, List.forall_mem_cons.mpr ⟨snd_if_eq d161_15 (by decide), List.forall_mem_cons.mpr ⟨snd_iload_n d161_18 rfl, List.forall_mem_cons.mpr ⟨snd_iconst d161_19 (by decide +kernel), List.forall_mem_cons.mpr ⟨snd_aload_n d161_20 rfl, List.forall_mem_cons.mpr ⟨snd_getR (by decide) (by decide) rfl wd533 d161_21, List.forall_mem_cons.mpr ⟨snd_getR (by decide) (by decide) rfl wd364 d161_24, List.forall_mem_cons.mpr ⟨snd_getI (by decide) (by decide) rfl wd234 d161_27, List.forall_mem_cons.mpr ⟨snd_callS cn164 ⟨by decide +kernel, by decide +kernel⟩ cm164 (List.forall_mem_cons.mpr ⟨wd566, cw164⟩) d161_30, List.forall_mem_cons.mpr ⟨snd_if_eq d161_33 (by decide), List.forall_mem_cons.mpr ⟨snd_iconst d161_36 (by decide +kernel), List.forall_mem_cons.mpr ⟨snd_goto d161_37 (by decide), List.forall_mem_cons.mpr ⟨snd_iconst d161_40 (by decide +kernel), List.forall_mem_cons.mpr ⟨snd_zret rfl d161_41, fun _ h => by cases h⟩⟩⟩⟩⟩⟩⟩⟩⟩⟩⟩⟩⟩⟩⟩⟩⟩⟩⟩⟩
theorem d162_0 : decode (mC M162) 0 = .ok (.iload_n 1, 1) := by decide +kernel
theorem d162_1 : decode (mC M162) 1 = .ok (.invokestatic 146, 3) := by decide +kernel
theorem d162_4 : decode (mC M162) 4 = .ok (.ifCond .eq 39, 3) := by decide +kernel
theorem d162_7 : decode (mC M162) 7 = .ok (.aload_n 0, 1) := by decide +kernel
theorem d162_8 : decode (mC M162) 8 = .ok (.iload_n 2, 1) := by decide +kernel
theorem d162_9 : decode (mC M162) 9 = .ok (.iload_n 3, 1) := by decide +kernel
theorem d162_10 : decode (mC M162) 10 = .ok (.invokevirtual 171, 3) := by decide +kernel
theorem d162_13 : decode (mC M162) 13 = .ok (.ifCond .eq 30, 3) := by decide +kernel
theorem d162_16 : decode (mC M162) 16 = .ok (.iload 4, 2) := by decide +kernel
theorem d162_18 : decode (mC M162) 18 = .ok (.iconst 1, 1) := by decide +kernel
theorem d162_19 : decode (mC M162) 19 = .ok (.bipush 99, 2) := by decide +kernel
theorem d162_21 : decode (mC M162) 21 = .ok (.invokestatic 60, 3) := by decide +kernel
theorem d162_24 : decode (mC M162) 24 = .ok (.ifCond .eq 19, 3) := by decide +kernel
theorem d162_27 : decode (mC M162) 27 = .ok (.iload 5, 2) := by decide +kernel
theorem d162_29 : decode (mC M162) 29 = .ok (.iconst 1, 1) := by decide +kernel
theorem d162_30 : decode (mC M162) 30 = .ok (.sipush 9999, 3) := by decide +kernel
theorem d162_33 : decode (mC M162) 33 = .ok (.invokestatic 60, 3) := by decide +kernel
theorem d162_36 : decode (mC M162) 36 = .ok (.ifCond .eq 7, 3) := by decide +kernel
theorem d162_39 : decode (mC M162) 39 = .ok (.iconst 1, 1) := by decide +kernel
theorem d162_40 : decode (mC M162) 40 = .ok (.goto 4, 3) := by decide +kernel
theorem d162_43 : decode (mC M162) 43 = .ok (.iconst 0, 1) := by decide +kernel
theorem d162_44 : decode (mC M162) 44 = .ok (.ireturn, 1) := by decide +kernel
theorem sc162_0 : ∀ q ∈ tc162_0, Snd xtb M162 q.1 q.2 := List.forall_mem_cons.mpr ⟨snd_iload_n d162_0 rfl, List.forall_mem_cons.mpr ⟨snd_callS cn163 ⟨by decide +kernel, by decide +kernel⟩ cm163 (List.forall_mem_cons.mpr ⟨wd861, cw163⟩) d162_1, List.forall_mem_cons.mpr ⟨snd_if_eq d162_4 (by decide), List.forall_mem_cons.mpr ⟨snd_aload_n d162_7 rfl, List.forall_mem_cons.mpr ⟨snd_iload_n d162_8 rfl, List.forall_mem_cons.mpr ⟨snd_iload_n d162_9 rfl, List.forall_mem_cons.mpr ⟨snd_callV (by decide) rfl cn161 ⟨by decide +kernel, by decide +kernel⟩ cm161 (List.forall_mem_cons.mpr ⟨wd890, cw161⟩) d162_10, List.forall_mem_cons.mpr ⟨snd_if_eq d162_13 (by decide), List.forall_mem_cons.mpr ⟨snd_iload d162_16, List.forall_mem_cons.mpr ⟨snd_iconst d162_18 (by decide +kernel), List.forall_mem_cons.mpr ⟨snd_bipush d162_19 (by decide +kernel), List.forall_mem_cons.mpr ⟨snd_callS cn164 ⟨by decide +kernel, by decide +kernel⟩ cm164 (List.forall_mem_cons.mpr ⟨wd566, cw164⟩) d162_21, List.forall_mem_cons.mpr ⟨snd_if_eq d162_24 (by decide), List.forall_mem_cons.mpr ⟨snd_iload d162_27, List.forall_mem_cons.mpr ⟨snd_iconst d162_29 (by decide +kernel), List.forall_mem_cons.mpr ⟨snd_sipush d162_30 (by decide +kernel), List.forall_mem_cons.mpr ⟨snd_callS cn164 ⟨by decide +kernel, by decide +kernel⟩ cm164 (List.forall_mem_cons.mpr ⟨wd566, cw164⟩) d162_33, List.forall_mem_cons.mpr ⟨snd_if_eq d162_36 (by decide), List.forall_mem_cons.mpr ⟨snd_iconst d162_39 (by decide +kernel), List.forall_mem_cons.mpr ⟨snd_goto d162_40 (by decide), List.forall_mem_cons.mpr ⟨snd_iconst d162_43 (by decide +kernel), List.forall_mem_cons.mpr ⟨snd_zret rfl d162_44, fun _ h => by cases h⟩⟩⟩⟩⟩⟩⟩⟩⟩⟩⟩⟩⟩⟩⟩⟩⟩⟩⟩⟩⟩⟩
theorem d163_0 : decode (mC M163) 0 = .ok (.iload_n 0, 1) := by decide +kernel
theorem d163_1 : decode (mC M163) 1 = .ok (.iconst 0, 1) := by decide +kernel
theorem d163_2 : decode (mC M163) 2 = .ok (.sipush 999, 3) := by decide +kernel
theorem d163_5 : decode (mC M163) 5 = .ok (.invokestatic 60, 3) := by decide +kernel
theorem d163_8 : decode (mC M163) 8 = .ok (.ireturn, 1) := by decide +kernel
theorem sc163_0 : ∀ q ∈ tc163_0, Snd xtb M163 q.1 q.2 := List.forall_mem_cons.mpr ⟨snd_iload_n d163_0 rfl, List.forall_mem_cons.mpr ⟨snd_iconst d163_1 (by decide +kernel), List.forall_mem_cons.mpr ⟨snd_sipush d163_2 (by decide +kernel), List.forall_mem_cons.mpr ⟨snd_callS cn164 ⟨by decide +kernel, by decide +kernel⟩ cm164 (List.forall_mem_cons.mpr ⟨wd566, cw164⟩) d163_5, List.forall_mem_cons.mpr ⟨snd_zret rfl d163_8, fun _ h => by cases h⟩⟩⟩⟩⟩
theorem d164_0 : decode (mC M164) 0 = .ok (.iload_n 0, 1) := by decide +kernel
theorem d164_1 : decode (mC M164) 1 = .ok (.iload_n 1, 1) := by decide +kernel
theorem d164_2 : decode (mC M164) 2 = .ok (.if_icmp .lt 12, 3) := by decide +kernel
theorem d164_5 : decode (mC M164) 5 = .ok (.iload_n 0, 1) := by decide +kernel
theorem d164_6 : decode (mC M164) 6 = .ok (.iload_n 2, 1) := by decide +kernel
theorem d164_7 : decode (mC M164) 7 = .ok (.if_icmp .gt 7, 3) := by decide +kernel
theorem d164_10 : decode (mC M164) 10 = .ok (.iconst 1, 1) := by decide +kernel
theorem d164_11 : decode (mC M164) 11 = .ok (.goto 4, 3) := by decide +kernel
theorem d164_14 : decode (mC M164) 14 = .ok (.iconst 0, 1) := by decide +kernel
theorem d164_15 : decode (mC M164) 15 = .ok (.ireturn, 1) := by decide +kernel
theorem sc164_0 : ∀ q ∈ tc164_0, Snd xtb M164 q.1 q.2 := List.forall_mem_cons.mpr ⟨snd_iload_n d164_0 rfl, List.forall_mem_cons.mpr ⟨snd_iload_n d164_1 rfl, List.forall_mem_cons.mpr ⟨snd_cmp_lt d164_2 (by decide), List.forall_mem_cons.mpr ⟨snd_iload_n d164_5 rfl, List.forall_mem_cons.mpr ⟨snd_iload_n d164_6 rfl, List.forall_mem_cons.mpr ⟨snd_cmp_gt d164_7 (by decide), List.forall_mem_cons.mpr ⟨snd_iconst d164_10 (by decide +kernel), List.forall_mem_cons.mpr ⟨snd_goto d164_11 (by decide), List.forall_mem_cons.mpr ⟨snd_iconst d164_14 (by decide +kernel), List.forall_mem_cons.mpr ⟨snd_zret rfl d164_15, fun _ h => by cases h⟩⟩⟩⟩⟩⟩⟩⟩⟩⟩
theorem d165_0 : decode (mC M165) 0 = .ok (.iload_n 0, 1) := by decide +kernel
theorem d165_1 : decode (mC M165) 1 = .ok (.ifCond .eq 7, 3) := by decide +kernel
theorem d165_4 : decode (mC M165) 4 = .ok (.iconst 1, 1) := by decide +kernel
theorem d165_5 : decode (mC M165) 5 = .ok (.goto 4, 3) := by decide +kernel
theorem d165_8 : decode (mC M165) 8 = .ok (.iconst 0, 1) := by decide +kernel
theorem d165_9 : decode (mC M165) 9 = .ok (.ireturn, 1) := by decide +kernel
theorem sc165_0 : ∀ q ∈ tc165_0, Snd xtb M165 q.1 q.2 := List.forall_mem_cons.mpr ⟨snd_iload_n d165_0 rfl, List.forall_mem_cons.mpr ⟨snd_if_eq d165_1 (by decide), List.forall_mem_cons.mpr ⟨snd_iconst d165_4 (by decide +kernel), List.forall_mem_cons.mpr ⟨snd_goto d165_5 (by decide), List.forall_mem_cons.mpr ⟨snd_iconst d165_8 (by decide +kernel), List.forall_mem_cons.mpr ⟨snd_iret rfl d165_9, fun _ h => by cases h⟩⟩⟩⟩⟩⟩
theorem d166_0 : decode (mC M166) 0 = .ok (.aload_n 0, 1) := by decide +kernel
theorem d166_1 : decode (mC M166) 1 = .ok (.getfield 21, 3) := by decide +kernel
theorem d166_4 : decode (mC M166) 4 = .ok (.aload_n 0, 1) := by decide +kernel
theorem d166_5 : decode (mC M166) 5 = .ok (.getfield 42, 3) := by decide +kernel
theorem d166_8 : decode (mC M166) 8 = .ok (.invokevirtual 311, 3) := by decide +kernel
theorem d166_11 : decode (mC M166) 11 = .ok (.aload_n 0, 1) := by decide +kernel
theorem d166_12 : decode (mC M166) 12 = .ok (.getfield 42, 3) := by decide +kernel
theorem d166_15 : decode (mC M166) 15 = .ok (.iconst (-1), 1) := by decide +kernel
theorem d166_16 : decode (mC M166) 16 = .ok (.invokevirtual 318, 3) := by decide +kernel
theorem d166_19 : decode (mC M166) 19 = .ok (.ireturn, 1) := by decide +kernel
theorem sc166_0 : ∀ q ∈ tc166_0, Snd xtb M166 q.1 q.2 := List.forall_mem_cons.mpr ⟨snd_aload_n d166_0 rfl, List.forall_mem_cons.mpr ⟨snd_getR (by decide) (by decide) rfl wd533 d166_1, List.forall_mem_cons.mpr ⟨snd_aload_n d166_4 rfl, List.forall_mem_cons.mpr ⟨snd_getR (by decide) (by decide) rfl wd537 d166_5, List.forall_mem_cons.mpr ⟨snd_callV (by decide) rfl cn41 ⟨by decide +kernel, by decide +kernel⟩ cm41 (List.forall_mem_cons.mpr ⟨wd1071, cw41⟩) d166_8, List.forall_mem_cons.mpr ⟨snd_aload_n d166_11 rfl, List.forall_mem_cons.mpr ⟨snd_getR (by decide) (by decide) rfl wd537 d166_12, List.forall_mem_cons.mpr ⟨snd_iconst d166_15 (by decide +kernel), List.forall_mem_cons.mpr ⟨snd_callV (by decide) rfl cn58 ⟨by decide +kernel, by decide +kernel⟩ cm58 (List.forall_mem_cons.mpr ⟨wd1081, cw58⟩) d166_16, List.forall_mem_cons.mpr ⟨snd_iret rfl d166_19, fun _ h => by cases h⟩⟩⟩⟩⟩⟩⟩⟩⟩⟩
theorem d167_0 : decode (mC M167) 0 = .ok (.aload_n 0, 1) := by decide +kernel
theorem d167_1 : decode (mC M167) 1 = .ok (.getfield 42, 3) := by decide +kernel
theorem d167_4 : decode (mC M167) 4 = .ok (.getfield 363, 3) := by decide +kernel
theorem d167_7 : decode (mC M167) 7 = .ok (.istore_n 2, 1) := by decide +kernel
theorem d167_8 : decode (mC M167) 8 = .ok (.aload_n 0, 1) := by decide +kernel
theorem d167_9 : decode (mC M167) 9 = .ok (.invokevirtual 244, 3) := by decide +kernel
theorem d167_12 : decode (mC M167) 12 = .ok (.istore_n 3, 1) := by decide +kernel
theorem d167_13 : decode (mC M167) 13 = .ok (.aload_n 0, 1) := by decide +kernel
theorem d167_14 : decode (mC M167) 14 = .ok (.getfield 21, 3) := by decide +kernel
theorem d167_17 : decode (mC M167) 17 = .ok (.iload_n 2, 1) := by decide +kernel
theorem d167_18 : decode (mC M167) 18 = .ok (.invokevirtual 366, 3) := by decide +kernel
theorem d167_21 : decode (mC M167) 21 = .ok (.istore 4, 2) := by decide +kernel
theorem d167_23 : decode (mC M167) 23 = .ok (.iconst 0, 1) := by decide +kernel
theorem d167_24 : decode (mC M167) 24 = .ok (.istore 5, 2) := by decide +kernel
theorem d167_26 : decode (mC M167) 26 = .ok (.iload 5, 2) := by decide +kernel
theorem d167_28 : decode (mC M167) 28 = .ok (.sipush 999, 3) := by decide +kernel
theorem d167_31 : decode (mC M167) 31 = .ok (.if_icmp .gt 53, 3) := by decide +kernel
theorem d167_34 : decode (mC M167) 34 = .ok (.iload 4, 2) := by decide +kernel
theorem d167_36 : decode (mC M167) 36 = .ok (.iload_n 1, 1) := by decide +kernel
theorem d167_37 : decode (mC M167) 37 = .ok (.if_icmp .gt 47, 3) := by decide +kernel
theorem d167_40 : decode (mC M167) 40 = .ok (.aload_n 0, 1) := by decide +kernel
theorem d167_41 : decode (mC M167) 41 = .ok (.getfield 42, 3) := by decide +kernel
theorem d167_44 : decode (mC M167) 44 = .ok (.iload 4, 2) := by decide +kernel
theorem d167_46 : decode (mC M167) 46 = .ok (.putfield 363, 3) := by decide +kernel
theorem d167_49 : decode (mC M167) 49 = .ok (.aload_n 0, 1) := by decide +kernel
theorem d167_50 : decode (mC M167) 50 = .ok (.invokevirtual 244, 3) := by decide +kernel
theorem d167_53 : decode (mC M167) 53 = .ok (.istore 6, 2) := by decide +kernel
theorem d167_55 : decode (mC M167) 55 = .ok (.iload 6, 2) := by decide +kernel
theorem d167_57 : decode (mC M167) 57 = .ok (.iload_n 3, 1) := by decide +kernel
theorem d167_58 : decode (mC M167) 58 = .ok (.if_icmp .ge 9, 3) := by decide +kernel
theorem d167_61 : decode (mC M167) 61 = .ok (.iload 6, 2) := by decide +kernel
theorem d167_63 : decode (mC M167) 63 = .ok (.istore_n 3, 1) := by decide +kernel
theorem d167_64 : decode (mC M167) 64 = .ok (.iload 4, 2) := by decide +kernel
theorem d167_66 : decode (mC M167) 66 = .ok (.istore_n 2, 1) := by decide +kernel
theorem d167_67 : decode (mC M167) 67 = .ok (.aload_n 0, 1) := by decide +kernel
theorem d167_68 : decode (mC M167) 68 = .ok (.getfield 21, 3) := by decide +kernel
theorem d167_71 : decode (mC M167) 71 = .ok (.iload 4, 2) := by decide +kernel
theorem d167_73 : decode (mC M167) 73 = .ok (.invokevirtual 366, 3) := by decide +kernel
theorem d167_76 : decode (mC M167) 76 = .ok (.istore 4, 2) := by decide +kernel
theorem d167_78 : decode (mC M167) 78 = .ok (.iinc 5 1, 3) := by decide +kernel
theorem d167_81 : decode (mC M167) 81 = .ok (.goto (-55), 3) := by decide +kernel
theorem d167_84 : decode (mC M167) 84 = .ok (.iload_n 2, 1) := by decide +kernel
theorem d167_85 : decode (mC M167) 85 = .ok (.ireturn, 1) := by decide +kernel
theorem sc167_0 : ∀ q ∈ tc167_0, Snd xtb M167 q.1 q.2 := List.forall_mem_cons.mpr ⟨snd_aload_n d167_0 rfl, List.forall_mem_cons.mpr ⟨snd_getR (by decide) (by decide) rfl wd537 d167_1, List.forall_mem_cons.mpr ⟨snd_getI (by decide) (by decide) rfl wd420 d167_4, List.forall_mem_cons.mpr ⟨snd_istore_n d167_7 rfl, List.forall_mem_cons.mpr ⟨snd_aload_n d167_8 rfl, List.forall_mem_cons.mpr ⟨snd_callV (by decide) rfl cn166 ⟨by decide +kernel, by decide +kernel⟩ cm166 (List.forall_mem_cons.mpr ⟨wd1067, cw166⟩) d167_9, List.forall_mem_cons.mpr ⟨snd_istore_n d167_12 rfl, List.forall_mem_cons.mpr ⟨snd_aload_n d167_13 rfl, List.forall_mem_cons.mpr ⟨snd_getR (by decide) (by decide) rfl wd533 d167_14, List.forall_mem_cons.mpr ⟨snd_iload_n d167_17 rfl, List.forall_mem_cons.mpr ⟨snd_callV (by decide) rfl cn37 ⟨by decide +kernel, by decide +kernel⟩ cm37 (List.forall_mem_cons.mpr ⟨wd1104, cw37⟩) d167_18, List.forall_mem_cons.mpr ⟨snd_istore d167_21, List.forall_mem_cons.mpr ⟨snd_iconst d167_23 (by decide +kernel), List.forall_mem_cons.mpr ⟨snd_istore d167_24, List.forall_mem_cons.mpr ⟨snd_iload d167_26, List.forall_mem_cons.mpr ⟨snd_sipush d167_28 (by decide +kernel), List.forall_mem_cons.mpr ⟨snd_cmp_gt d167_31 (by decide), List.forall_mem_cons.mpr ⟨snd_iload d167_34, List.forall_mem_cons.mpr ⟨snd_iload_n d167_36 rfl, List.forall_mem_cons.mpr ⟨snd_cmp_gt d167_37 (by decide), List.forall_mem_cons.mpr ⟨snd_aload_n d167_40 rfl, List.forall_mem_cons.mpr ⟨snd_getR (by decide) (by decide) rfl wd537 d167_41, List.forall_mem_cons.mpr ⟨snd_iload d167_44, List.forall_mem_cons.mpr ⟨snd_putI (by decide) (by decide) rfl rfl wd420 d167_46, List.forall_mem_cons.mpr ⟨snd_aload_n d167_49 rfl, List.forall_mem_cons.mpr ⟨snd_callV (by decide) rfl cn166 ⟨by decide +kernel, by decide +kernel⟩ cm166 (List.forall_mem_cons.mpr ⟨wd1067, cw166⟩) d167_50, List.forall_mem_cons.mpr ⟨snd_istore d167_53, List.forall_mem_cons.mpr ⟨snd_iload d167_55, List.forall_mem_cons.mpr ⟨snd_iload_n d167_57 rfl, List.forall_mem_cons.mpr ⟨snd_cmp_ge d167_58 (by decide), fun _ h => by cases h⟩⟩⟩⟩⟩⟩⟩⟩⟩⟩⟩⟩⟩⟩⟩⟩⟩⟩⟩⟩⟩⟩⟩⟩⟩⟩⟩⟩⟩⟩
theorem sc167_1 : ∀ q ∈ tc167_1, Snd xtb M167 q.1 q.2 := List.forall_mem_cons.mpr ⟨snd_iload d167_61, List.forall_mem_cons.mpr ⟨snd_istore_n d167_63 rfl, List.forall_mem_cons.mpr ⟨snd_iload d167_64, List.forall_mem_cons.mpr ⟨snd_istore_n d167_66 rfl, List.forall_mem_cons.mpr ⟨snd_aload_n d167_67 rfl, List.forall_mem_cons.mpr ⟨snd_getR (by decide) (by decide) rfl wd533 d167_68, List.forall_mem_cons.mpr ⟨snd_iload d167_71, List.forall_mem_cons.mpr ⟨snd_callV (by decide) rfl cn37 ⟨by decide +kernel, by decide +kernel⟩ cm37 (List.forall_mem_cons.mpr ⟨wd1104, cw37⟩) d167_73, List.forall_mem_cons.mpr ⟨snd_istore d167_76, List.forall_mem_cons.mpr ⟨snd_iinc d167_78 (by decide +kernel), List.forall_mem_cons.mpr ⟨snd_goto d167_81 (by decide), List.forall_mem_cons.mpr ⟨snd_iload_n d167_84 rfl, List.forall_mem_cons.mpr ⟨snd_iret rfl d167_85, fun _ h => by cases h⟩⟩⟩⟩⟩⟩⟩⟩⟩⟩⟩⟩⟩
theorem d168_0 : decode (mC M168) 0 = .ok (.aload_n 0, 1) := by decide +kernel
theorem d168_1 : decode (mC M168) 1 = .ok (.getfield 42, 3) := by decide +kernel
theorem d168_4 : decode (mC M168) 4 = .ok (.aload_n 1, 1) := by decide +kernel
theorem d168_5 : decode (mC M168) 5 = .ok (.getfield 363, 3) := by decide +kernel
theorem d168_8 : decode (mC M168) 8 = .ok (.aload_n 1, 1) := by decide +kernel
theorem d168_9 : decode (mC M168) 9 = .ok (.getfield 369, 3) := by decide +kernel
theorem d168_12 : decode (mC M168) 12 = .ok (.aload_n 1, 1) := by decide +kernel
theorem d168_13 : decode (mC M168) 13 = .ok (.getfield 372, 3) := by decide +kernel
theorem d168_16 : decode (mC M168) 16 = .ok (.aload_n 1, 1) := by decide +kernel
theorem d168_17 : decode (mC M168) 17 = .ok (.getfield 375, 3) := by decide +kernel
theorem d168_20 : decode (mC M168) 20 = .ok (.aload_n 1, 1) := by decide +kernel
theorem d168_21 : decode (mC M168) 21 = .ok (.getfield 315, 3) := by decide +kernel
theorem d168_24 : decode (mC M168) 24 = .ok (.aload_n 1, 1) := by decide +kernel
theorem d168_25 : decode (mC M168) 25 = .ok (.getfield 378, 3) := by decide +kernel
theorem d168_28 : decode (mC M168) 28 = .ok (.invokevirtual 240, 3) := by decide +kernel
theorem d168_31 : decode (mC M168) 31 = .ok (.aload_n 0, 1) := by decide +kernel
theorem d168_32 : decode (mC M168) 32 = .ok (.invokevirtual 244, 3) := by decide +kernel
theorem d168_35 : decode (mC M168) 35 = .ok (.aload_n 1, 1) := by decide +kernel
theorem d168_36 : decode (mC M168) 36 = .ok (.iconst (-1), 1) := by decide +kernel
theorem d168_37 : decode (mC M168) 37 = .ok (.invokevirtual 318, 3) := by decide +kernel
theorem d168_40 : decode (mC M168) 40 = .ok (.isub, 1) := by decide +kernel
theorem d168_41 : decode (mC M168) 41 = .ok (.ireturn, 1) := by decide +kernel
theorem sc168_0 : ∀ q ∈ tc168_0, Snd xtb M168 q.1 q.2 := List.forall_mem_cons.mpr ⟨snd_aload_n d168_0 rfl, List.forall_mem_cons.mpr ⟨snd_getR (by decide) (by decide) rfl wd537 d168_1, List.forall_mem_cons.mpr ⟨snd_aload_n d168_4 rfl, List.forall_mem_cons.mpr ⟨snd_getI (by decide) (by decide) rfl wd420 d168_5, List.forall_mem_cons.mpr ⟨snd_aload_n d168_8 rfl, List.forall_mem_cons.mpr ⟨snd_getI (by decide) (by decide) rfl wd423 d168_9, List.forall_mem_cons.mpr ⟨snd_aload_n d168_12 rfl, List.forall_mem_cons.mpr ⟨snd_getI (by decide) (by decide) rfl wd426 d168_13, List.forall_mem_cons.mpr ⟨snd_aload_n d168_16 rfl, List.forall_mem_cons.mpr ⟨snd_getI (by decide) (by decide) rfl wd430 d168_17, List.forall_mem_cons.mpr ⟨snd_aload_n d168_20 rfl, List.forall_mem_cons.mpr ⟨snd_getI (by decide) (by decide) rfl wd437 d168_21, List.forall_mem_cons.mpr ⟨snd_aload_n d168_24 rfl, List.forall_mem_cons.mpr ⟨snd_getI (by decide) (by decide) rfl wd434 d168_25, List.forall_mem_cons.mpr ⟨snd_callV (by decide) rfl cn54 ⟨by decide +kernel, by decide +kernel⟩ cm54 (List.forall_mem_cons.mpr ⟨wd1063, cw54⟩) d168_28, List.forall_mem_cons.mpr ⟨snd_aload_n d168_31 rfl, List.forall_mem_cons.mpr ⟨snd_callV (by decide) rfl cn166 ⟨by decide +kernel, by decide +kernel⟩ cm166 (List.forall_mem_cons.mpr ⟨wd1067, cw166⟩) d168_32, List.forall_mem_cons.mpr ⟨snd_aload_n d168_35 rfl, List.forall_mem_cons.mpr ⟨snd_iconst d168_36 (by decide +kernel), List.forall_mem_cons.mpr ⟨snd_callV (by decide) rfl cn58 ⟨by decide +kernel, by decide +kernel⟩ cm58 (List.forall_mem_cons.mpr ⟨wd1081, cw58⟩) d168_37, List.forall_mem_cons.mpr ⟨snd_isub d168_40, List.forall_mem_cons.mpr ⟨snd_iret rfl d168_41, fun _ h => by cases h⟩⟩⟩⟩⟩⟩⟩⟩⟩⟩⟩⟩⟩⟩⟩⟩⟩⟩⟩⟩⟩⟩
theorem d169_0 : decode (mC M169) 0 = .ok (.aload_n 0, 1) := by decide +kernel
theorem d169_1 : decode (mC M169) 1 = .ok (.getfield 35, 3) := by decide +kernel
theorem d169_4 : decode (mC M169) 4 = .ok (.getfield 381, 3) := by decide +kernel
theorem d169_7 : decode (mC M169) 7 = .ok (.iload_n 1, 1) := by decide +kernel
theorem d169_8 : decode (mC M169) 8 = .ok (.iaload, 1) := by decide +kernel
theorem d169_9 : decode (mC M169) 9 = .ok (.tableswitch 116 0 3 #[31, 41, 57, 94], 31) := by decide +kernel
theorem d169_40 : decode (mC M169) 40 = .ok (.aload_n 0, 1) := by decide +kernel
theorem d169_41 : decode (mC M169) 41 = .ok (.getfield 28, 3) := by decide +kernel
theorem d169_44 : decode (mC M169) 44 = .ok (.invokevirtual 384, 3) := by decide +kernel
theorem d169_47 : decode (mC M169) 47 = .ok (.goto 97, 3) := by decide +kernel
theorem d169_50 : decode (mC M169) 50 = .ok (.aload_n 0, 1) := by decide +kernel
theorem d169_51 : decode (mC M169) 51 = .ok (.getfield 28, 3) := by decide +kernel
theorem d169_54 : decode (mC M169) 54 = .ok (.dup, 1) := by decide +kernel
theorem d169_55 : decode (mC M169) 55 = .ok (.getfield 106, 3) := by decide +kernel
theorem d169_58 : decode (mC M169) 58 = .ok (.iconst 1, 1) := by decide +kernel
theorem d169_59 : decode (mC M169) 59 = .ok (.isub, 1) := by decide +kernel
theorem d169_60 : decode (mC M169) 60 = .ok (.putfield 106, 3) := by decide +kernel
theorem d169_63 : decode (mC M169) 63 = .ok (.goto 81, 3) := by decide +kernel
theorem d169_66 : decode (mC M169) 66 = .ok (.aload_n 0, 1) := by decide +kernel
theorem d169_67 : decode (mC M169) 67 = .ok (.getfield 28, 3) := by decide +kernel
theorem d169_70 : decode (mC M169) 70 = .ok (.getfield 253, 3) := by decide +kernel
theorem d169_73 : decode (mC M169) 73 = .ok (.aload_n 0, 1) := by decide +kernel
theorem d169_74 : decode (mC M169) 74 = .ok (.getfield 35, 3) := by decide +kernel
theorem d169_77 : decode (mC M169) 77 = .ok (.getfield 387, 3) := by decide +kernel
theorem d169_80 : decode (mC M169) 80 = .ok (.iload_n 1, 1) := by decide +kernel
theorem d169_81 : decode (mC M169) 81 = .ok (.iaload, 1) := by decide +kernel
theorem d169_82 : decode (mC M169) 82 = .ok (.aaload, 1) := by decide +kernel
theorem d169_83 : decode (mC M169) 83 = .ok (.dup, 1) := by decide +kernel
theorem d169_84 : decode (mC M169) 84 = .ok (.getfield 315, 3) := by decide +kernel
theorem d169_87 : decode (mC M169) 87 = .ok (.aload_n 0, 1) := by decide +kernel
theorem d169_88 : decode (mC M169) 88 = .ok (.getfield 35, 3) := by decide +kernel
theorem d169_91 : decode (mC M169) 91 = .ok (.getfield 389, 3) := by decide +kernel
theorem d169_94 : decode (mC M169) 94 = .ok (.iload_n 1, 1) := by decide +kernel
theorem d169_95 : decode (mC M169) 95 = .ok (.iaload, 1) := by decide +kernel
theorem d169_96 : decode (mC M169) 96 = .ok (.iadd, 1) := by decide +kernel
theorem d169_97 : decode (mC M169) 97 = .ok (.putfield 315, 3) := by decide +kernel
theorem d169_100 : decode (mC M169) 100 = .ok (.goto 44, 3) := by decide +kernel
theorem d169_103 : decode (mC M169) 103 = .ok (.aload_n 0, 1) := by decide +kernel
theorem d169_104 : decode (mC M169) 104 = .ok (.getfield 21, 3) := by decide +kernel
theorem d169_107 : decode (mC M169) 107 = .ok (.getfield 85, 3) := by decide +kernel
theorem d169_110 : decode (mC M169) 110 = .ok (.getfield 126, 3) := by decide +kernel
theorem d169_113 : decode (mC M169) 113 = .ok (.dup, 1) := by decide +kernel
theorem d169_114 : decode (mC M169) 114 = .ok (.getfield 330, 3) := by decide +kernel
theorem d169_117 : decode (mC M169) 117 = .ok (.iconst 1, 1) := by decide +kernel
theorem d169_118 : decode (mC M169) 118 = .ok (.isub, 1) := by decide +kernel
theorem d169_119 : decode (mC M169) 119 = .ok (.putfield 330, 3) := by decide +kernel
theorem d169_122 : decode (mC M169) 122 = .ok (.goto 22, 3) := by decide +kernel
theorem d169_125 : decode (mC M169) 125 = .ok (.aload_n 0, 1) := by decide +kernel
theorem d169_126 : decode (mC M169) 126 = .ok (.getfield 21, 3) := by decide +kernel
theorem d169_129 : decode (mC M169) 129 = .ok (.getfield 113, 3) := by decide +kernel
theorem d169_132 : decode (mC M169) 132 = .ok (.getfield 335, 3) := by decide +kernel
theorem d169_135 : decode (mC M169) 135 = .ok (.dup, 1) := by decide +kernel
theorem d169_136 : decode (mC M169) 136 = .ok (.getfield 343, 3) := by decide +kernel
theorem d169_139 : decode (mC M169) 139 = .ok (.iconst 1, 1) := by decide +kernel
theorem d169_140 : decode (mC M169) 140 = .ok (.isub, 1) := by decide +kernel
theorem d169_141 : decode (mC M169) 141 = .ok (.putfield 343, 3) := by decide +kernel
theorem d169_144 : decode (mC M169) 144 = .ok (.return_, 1) := by decide +kernel
theorem sc169_0 : ∀ q ∈ tc169_0, Snd xtb M169 q.1 q.2 := List.forall_mem_cons.mpr ⟨snd_aload_n d169_0 rfl, List.forall_mem_cons.mpr ⟨snd_getR (by decide) (by decide) rfl wd536 d169_1, List.forall_mem_cons.mpr ⟨snd_getR (by decide) (by decide) rfl wd516 d169_4, List.forall_mem_cons.mpr ⟨snd_iload_n d169_7 rfl, List.forall_mem_cons.mpr ⟨snd_iald d169_8, List.forall_mem_cons.mpr ⟨snd_tsw d169_9 (by decide +kernel), List.forall_mem_cons.mpr ⟨snd_aload_n d169_40 rfl, List.forall_mem_cons.mpr ⟨snd_getR (by decide) (by decide) rfl wd535 d169_41, List.forall_mem_cons.mpr ⟨snd_callV (by decide) rfl cn17 ⟨by decide +kernel, by decide +kernel⟩ cm17 (List.forall_mem_cons.mpr ⟨wd1268, cw17⟩) d169_44, List.forall_mem_cons.mpr ⟨snd_goto d169_47 (by decide), List.forall_mem_cons.mpr ⟨snd_aload_n d169_50 rfl, List.forall_mem_cons.mpr ⟨snd_getR (by decide) (by decide) rfl wd535 d169_51, List.forall_mem_cons.mpr ⟨snd_dup d169_54, List.forall_mem_cons.mpr ⟨snd_getI (by decide) (by decide) rfl wd477 d169_55, List.forall_mem_cons.mpr ⟨snd_iconst d169_58 (by decide +kernel), List.forall_mem_cons.mpr ⟨snd_isub d169_59, List.forall_mem_cons.mpr ⟨snd_putI (by decide) (by decide) rfl rfl wd477 d169_60, List.forall_mem_cons.mpr ⟨snd_goto d169_63 (by decide), List.forall_mem_cons.mpr ⟨snd_aload_n d169_66 rfl, List.forall_mem_cons.mpr ⟨snd_getR (by decide) (by decide) rfl wd535 d169_67, List.forall_mem_cons.mpr ⟨snd_getR (by decide) (by decide) rfl wd479 d169_70, List.forall_mem_cons.mpr ⟨snd_aload_n d169_73 rfl, List.forall_mem_cons.mpr ⟨snd_getR (by decide) (by decide) rfl wd536 d169_74, List.forall_mem_cons.mpr ⟨snd_getR (by decide) (by decide) rfl wd518 d169_77, List.forall_mem_cons.mpr ⟨snd_iload_n d169_80 rfl, List.forall_mem_cons.mpr ⟨snd_iald d169_81, List.forall_mem_cons.mpr ⟨snd_aald d169_82, List.forall_mem_cons.mpr ⟨snd_dup d169_83, List.forall_mem_cons.mpr ⟨snd_getI (by decide) (by decide) rfl wd437 d169_84, List.forall_mem_cons.mpr ⟨snd_aload_n d169_87 rfl, fun _ h => by cases h⟩⟩⟩⟩⟩⟩⟩⟩⟩⟩⟩⟩⟩⟩⟩⟩⟩⟩⟩⟩⟩⟩⟩⟩⟩⟩⟩⟩⟩⟩
theorem sc169_1 : ∀ q ∈ tc169_1, Snd xtb M169 q.1 q.2 := List.forall_mem_cons.mpr ⟨snd_getR (by decide) (by decide) rfl wd536 d169_88, List.forall_mem_cons.mpr ⟨snd_getR (by decide) (by decide) rfl wd520 d169_91, List.forall_mem_cons.mpr ⟨snd_iload_n d169_94 rfl, List.forall_mem_cons.mpr ⟨snd_iald d169_95, List.forall_mem_cons.mpr ⟨snd_iadd d169_96, List.forall_mem_cons.mpr ⟨snd_putI (by decide) (by decide) rfl rfl wd437 d169_97, List.forall_mem_cons.mpr ⟨snd_goto d169_100 (by decide), List.forall_mem_cons.mpr ⟨snd_aload_n d169_103 rfl, List.forall_mem_cons.mpr ⟨snd_getR (by decide) (by decide) rfl wd533 d169_104, List.forall_mem_cons.mpr ⟨snd_getR (by decide) (by decide) rfl wd364 d169_107, List.forall_mem_cons.mpr ⟨snd_getR (by decide) (by decide) rfl wd250 d169_110, List.forall_mem_cons.mpr ⟨snd_dup d169_113, List.forall_mem_cons.mpr ⟨snd_getI (by decide) (by decide) rfl wd206 d169_114, List.forall_mem_cons.mpr ⟨snd_iconst d169_117 (by decide +kernel), List.forall_mem_cons.mpr ⟨snd_isub d169_118, List.forall_mem_cons.mpr ⟨snd_putI (by decide) (by decide) rfl rfl wd206 d169_119, List.forall_mem_cons.mpr ⟨snd_goto d169_122 (by decide), List.forall_mem_cons.mpr ⟨snd_aload_n d169_125 rfl, List.forall_mem_cons.mpr ⟨snd_getR (by decide) (by decide) rfl wd533 d169_126, List.forall_mem_cons.mpr ⟨snd_getR (by decide) (by decide) rfl wd367 d169_129, List.forall_mem_cons.mpr ⟨snd_getR (by decide) (by decide) rfl wd320 d169_132, List.forall_mem_cons.mpr ⟨snd_dup d169_135, List.forall_mem_cons.mpr ⟨snd_getI (by decide) (by decide) rfl wd293 d169_136, List.forall_mem_cons.mpr ⟨snd_iconst d169_139 (by decide +kernel), List.forall_mem_cons.mpr ⟨snd_isub d169_140, List.forall_mem_cons.mpr ⟨snd_putI (by decide) (by decide) rfl rfl wd293 d169_141, List.forall_mem_cons.mpr ⟨snd_vret rfl d169_144, fun _ h => by cases h⟩⟩⟩⟩⟩⟩⟩⟩⟩⟩⟩⟩⟩⟩⟩⟩⟩⟩⟩⟩⟩⟩⟩⟩⟩⟩⟩
theorem d170_0 : decode (mC M170) 0 = .ok (.aload_n 0, 1) := by decide +kernel
theorem d170_1 : decode (mC M170) 1 = .ok (.invokespecial 3, 3) := by decide +kernel
theorem d170_4 : decode (mC M170) 4 = .ok (.aload_n 0, 1) := by decide +kernel
theorem d170_5 : decode (mC M170) 5 = .ok (.iconst (-1), 1) := by decide +kernel
theorem d170_6 : decode (mC M170) 6 = .ok (.putfield 9, 3) := by decide +kernel
theorem d170_9 : decode (mC M170) 9 = .ok (.aload_n 0, 1) := by decide +kernel
theorem d170_10 : decode (mC M170) 10 = .ok (.sipush 402, 3) := by decide +kernel
theorem d170_13 : decode (mC M170) 13 = .ok (.newarray .int, 2) := by decide +kernel
theorem d170_15 : decode (mC M170) 15 = .ok (.putfield 13, 3) := by decide +kernel
theorem d170_18 : decode (mC M170) 18 = .ok (.aload_n 0, 1) := by decide +kernel
theorem d170_19 : decode (mC M170) 19 = .ok (.sipush 402, 3) := by decide +kernel
theorem d170_22 : decode (mC M170) 22 = .ok (.newarray .int, 2) := by decide +kernel
theorem d170_24 : decode (mC M170) 24 = .ok (.putfield 17, 3) := by decide +kernel
theorem d170_27 : decode (mC M170) 27 = .ok (.aload_n 0, 1) := by decide +kernel
theorem d170_28 : decode (mC M170) 28 = .ok (.bipush 6, 2) := by decide +kernel
theorem d170_30 : decode (mC M170) 30 = .ok (.newarray .long, 2) := by decide +kernel
theorem d170_32 : decode (mC M170) 32 = .ok (.putfield 20, 3) := by decide +kernel
theorem d170_35 : decode (mC M170) 35 = .ok (.aload_n 0, 1) := by decide +kernel
theorem d170_36 : decode (mC M170) 36 = .ok (.bipush 10, 2) := by decide +kernel
theorem d170_38 : decode (mC M170) 38 = .ok (.newarray .long, 2) := by decide +kernel
theorem d170_40 : decode (mC M170) 40 = .ok (.putfield 24, 3) := by decide +kernel
theorem d170_43 : decode (mC M170) 43 = .ok (.aload_n 0, 1) := by decide +kernel
theorem d170_44 : decode (mC M170) 44 = .ok (.sipush 1200, 3) := by decide +kernel
theorem d170_47 : decode (mC M170) 47 = .ok (.newarray .byte, 2) := by decide +kernel
theorem d170_49 : decode (mC M170) 49 = .ok (.putfield 27, 3) := by decide +kernel
theorem d170_52 : decode (mC M170) 52 = .ok (.aload_n 0, 1) := by decide +kernel
theorem d170_53 : decode (mC M170) 53 = .ok (.iconst 4, 1) := by decide +kernel
theorem d170_54 : decode (mC M170) 54 = .ok (.newarray .int, 2) := by decide +kernel
theorem d170_56 : decode (mC M170) 56 = .ok (.putfield 31, 3) := by decide +kernel
theorem d170_59 : decode (mC M170) 59 = .ok (.aload_n 0, 1) := by decide +kernel
theorem d170_60 : decode (mC M170) 60 = .ok (.iconst 4, 1) := by decide +kernel
theorem d170_61 : decode (mC M170) 61 = .ok (.newarray .int, 2) := by decide +kernel
theorem d170_63 : decode (mC M170) 63 = .ok (.putfield 34, 3) := by decide +kernel
theorem d170_66 : decode (mC M170) 66 = .ok (.aload_n 0, 1) := by decide +kernel
theorem d170_67 : decode (mC M170) 67 = .ok (.sipush 1000, 3) := by decide +kernel
theorem d170_70 : decode (mC M170) 70 = .ok (.newarray .int, 2) := by decide +kernel
theorem d170_72 : decode (mC M170) 72 = .ok (.putfield 37, 3) := by decide +kernel
theorem d170_75 : decode (mC M170) 75 = .ok (.aload_n 0, 1) := by decide +kernel
theorem d170_76 : decode (mC M170) 76 = .ok (.bipush 60, 2) := by decide +kernel
theorem d170_78 : decode (mC M170) 78 = .ok (.newarray .int, 2) := by decide +kernel
theorem d170_80 : decode (mC M170) 80 = .ok (.putfield 40, 3) := by decide +kernel
theorem d170_83 : decode (mC M170) 83 = .ok (.aload_n 0, 1) := by decide +kernel
theorem d170_84 : decode (mC M170) 84 = .ok (.bipush 60, 2) := by decide +kernel
theorem d170_86 : decode (mC M170) 86 = .ok (.newarray .int, 2) := by decide +kernel
theorem d170_88 : decode (mC M170) 88 = .ok (.putfield 43, 3) := by decide +kernel
theorem d170_91 : decode (mC M170) 91 = .ok (.aload_n 0, 1) := by decide +kernel
theorem d170_92 : decode (mC M170) 92 = .ok (.bipush 60, 2) := by decide +kernel
theorem d170_94 : decode (mC M170) 94 = .ok (.newarray .int, 2) := by decide +kernel
theorem d170_96 : decode (mC M170) 96 = .ok (.putfield 46, 3) := by decide +kernel
theorem d170_99 : decode (mC M170) 99 = .ok (.aload_n 0, 1) := by decide +kernel
theorem d170_100 : decode (mC M170) 100 = .ok (.bipush 12, 2) := by decide +kernel
theorem d170_102 : decode (mC M170) 102 = .ok (.newarray .int, 2) := by decide +kernel
theorem d170_104 : decode (mC M170) 104 = .ok (.putfield 49, 3) := by decide +kernel
theorem d170_107 : decode (mC M170) 107 = .ok (.aload_n 0, 1) := by decide +kernel
theorem d170_108 : decode (mC M170) 108 = .ok (.bipush 120, 2) := by decide +kernel
theorem d170_110 : decode (mC M170) 110 = .ok (.newarray .int, 2) := by decide +kernel
theorem d170_112 : decode (mC M170) 112 = .ok (.putfield 52, 3) := by decide +kernel
theorem d170_115 : decode (mC M170) 115 = .ok (.aload_n 0, 1) := by decide +kernel
theorem d170_116 : decode (mC M170) 116 = .ok (.bipush 8, 2) := by decide +kernel
theorem d170_118 : decode (mC M170) 118 = .ok (.newarray .int, 2) := by decide +kernel
theorem d170_120 : decode (mC M170) 120 = .ok (.putfield 55, 3) := by decide +kernel
theorem d170_123 : decode (mC M170) 123 = .ok (.aload_n 0, 1) := by decide +kernel
theorem d170_124 : decode (mC M170) 124 = .ok (.bipush 8, 2) := by decide +kernel
theorem d170_126 : decode (mC M170) 126 = .ok (.newarray .int, 2) := by decide +kernel
theorem d170_128 : decode (mC M170) 128 = .ok (.putfield 58, 3) := by decide +kernel
theorem d170_131 : decode (mC M170) 131 = .ok (.aload_n 0, 1) := by decide +kernel
theorem d170_132 : decode (mC M170) 132 = .ok (.bipush 8, 2) := by decide +kernel
theorem d170_134 : decode (mC M170) 134 = .ok (.newarray .int, 2) := by decide +kernel
theorem d170_136 : decode (mC M170) 136 = .ok (.putfield 61, 3) := by decide +kernel
theorem d170_139 : decode (mC M170) 139 = .ok (.return_, 1) := by decide +kernel
theorem sc170_0 : ∀ q ∈ tc170_0, Snd xtb M170 q.1 q.2 := List.forall_mem_cons.mpr ⟨snd_aload_n d170_0 rfl, List.forall_mem_cons.mpr ⟨snd_obj (by decide) (by decide) (List.forall_mem_cons.mpr ⟨wd1366, List.forall_mem_cons.mpr ⟨wd139, List.forall_mem_cons.mpr ⟨wd140, fun _ h => by cases h⟩⟩⟩) d170_1, List.forall_mem_cons.mpr ⟨snd_aload_n d170_4 rfl, List.forall_mem_cons.mpr ⟨snd_iconst d170_5 (by decide +kernel), List.forall_mem_cons.mpr ⟨snd_putI (by decide) (by decide) rfl rfl wd1369 d170_6, List.forall_mem_cons.mpr ⟨snd_aload_n d170_9 rfl, List.forall_mem_cons.mpr ⟨snd_sipush d170_10 (by decide +kernel), List.forall_mem_cons.mpr ⟨snd_newa (ty := .int) (k := 1) rfl (by decide +kernel) wd229 d170_13, List.forall_mem_cons.mpr ⟨snd_putRF (by decide) (by decide) rfl rfl rfl rfl wd1370 d170_15, List.forall_mem_cons.mpr ⟨snd_aload_n d170_18 rfl, List.forall_mem_cons.mpr ⟨snd_sipush d170_19 (by decide +kernel), List.forall_mem_cons.mpr ⟨snd_newa (ty := .int) (k := 1) rfl (by decide +kernel) wd229 d170_22, List.forall_mem_cons.mpr ⟨snd_putRF (by decide) (by decide) rfl rfl rfl rfl wd1371 d170_24, List.forall_mem_cons.mpr ⟨snd_aload_n d170_27 rfl, List.forall_mem_cons.mpr ⟨snd_bipush d170_28 (by decide +kernel), List.forall_mem_cons.mpr ⟨snd_newa (ty := .long) (k := 2) rfl (by decide +kernel) wd228 d170_30, List.forall_mem_cons.mpr ⟨snd_putRF (by decide) (by decide) rfl rfl rfl rfl wd1372 d170_32, List.forall_mem_cons.mpr ⟨snd_aload_n d170_35 rfl, List.forall_mem_cons.mpr ⟨snd_bipush d170_36 (by decide +kernel), List.forall_mem_cons.mpr ⟨snd_newa (ty := .long) (k := 2) rfl (by decide +kernel) wd228 d170_38, List.forall_mem_cons.mpr ⟨snd_putRF (by decide) (by decide) rfl rfl rfl rfl wd1373 d170_40, List.forall_mem_cons.mpr ⟨snd_aload_n d170_43 rfl, List.forall_mem_cons.mpr ⟨snd_sipush d170_44 (by decide +kernel), List.forall_mem_cons.mpr ⟨snd_newa (ty := .byte) (k := 0) rfl (by decide +kernel) wd183 d170_47, List.forall_mem_cons.mpr ⟨snd_putRF (by decide) (by decide) rfl rfl rfl rfl wd1375 d170_49, List.forall_mem_cons.mpr ⟨snd_aload_n d170_52 rfl, List.forall_mem_cons.mpr ⟨snd_iconst d170_53 (by decide +kernel), List.forall_mem_cons.mpr ⟨snd_newa (ty := .int) (k := 1) rfl (by decide +kernel) wd229 d170_54, List.forall_mem_cons.mpr ⟨snd_putRF (by decide) (by decide) rfl rfl rfl rfl wd1384 d170_56, List.forall_mem_cons.mpr ⟨snd_aload_n d170_59 rfl, fun _ h => by cases h⟩⟩⟩⟩⟩⟩⟩⟩⟩⟩⟩⟩⟩⟩⟩⟩⟩⟩⟩⟩⟩⟩⟩⟩⟩⟩⟩⟩⟩⟩
theorem sc170_1 : ∀ q ∈ tc170_1, Snd xtb M170 q.1 q.2 := List.forall_mem_cons.mpr ⟨snd_iconst d170_60 (by decide +kernel), List.forall_mem_cons.mpr ⟨snd_newa (ty := .int) (k := 1) rfl (by decide +kernel) wd229 d170_61, List.forall_mem_cons.mpr ⟨snd_putRF (by decide) (by decide) rfl rfl rfl rfl wd1385 d170_63, List.forall_mem_cons.mpr ⟨snd_aload_n d170_66 rfl, List.forall_mem_cons.mpr ⟨snd_sipush d170_67 (by decide +kernel), List.forall_mem_cons.mpr ⟨snd_newa (ty := .int) (k := 1) rfl (by decide +kernel) wd229 d170_70, List.forall_mem_cons.mpr ⟨snd_putRF (by decide) (by decide) rfl rfl rfl rfl wd1386 d170_72, List.forall_mem_cons.mpr ⟨snd_aload_n d170_75 rfl, List.forall_mem_cons.mpr ⟨snd_bipush d170_76 (by decide +kernel), List.forall_mem_cons.mpr ⟨snd_newa (ty := .int) (k := 1) rfl (by decide +kernel) wd229 d170_78, List.forall_mem_cons.mpr ⟨snd_putRF (by decide) (by decide) rfl rfl rfl rfl wd1388 d170_80, List.forall_mem_cons.mpr ⟨snd_aload_n d170_83 rfl, List.forall_mem_cons.mpr ⟨snd_bipush d170_84 (by decide +kernel), List.forall_mem_cons.mpr ⟨snd_newa (ty := .int) (k := 1) rfl (by decide +kernel) wd229 d170_86, List.forall_mem_cons.mpr ⟨snd_putRF (by decide) (by decide) rfl rfl rfl rfl wd1389 d170_88, List.forall_mem_cons.mpr ⟨snd_aload_n d170_91 rfl, List.forall_mem_cons.mpr ⟨snd_bipush d170_92 (by decide +kernel), List.forall_mem_cons.mpr ⟨snd_newa (ty := .int) (k := 1) rfl (by decide +kernel) wd229 d170_94, List.forall_mem_cons.mpr ⟨snd_putRF (by decide) (by decide) rfl rfl rfl rfl wd1390 d170_96, List.forall_mem_cons.mpr ⟨snd_aload_n d170_99 rfl, List.forall_mem_cons.mpr ⟨snd_bipush d170_100 (by decide +kernel), List.forall_mem_cons.mpr ⟨snd_newa (ty := .int) (k := 1) rfl (by decide +kernel) wd229 d170_102, List.forall_mem_cons.mpr ⟨snd_putRF (by decide) (by decide) rfl rfl rfl rfl wd1392 d170_104, List.forall_mem_cons.mpr ⟨snd_aload_n d170_107 rfl, List.forall_mem_cons.mpr ⟨snd_bipush d170_108 (by decide +kernel), List.forall_mem_cons.mpr ⟨snd_newa (ty := .int) (k := 1) rfl (by decide +kernel) wd229 d170_110, List.forall_mem_cons.mpr ⟨snd_putRF (by decide) (by decide) rfl rfl rfl rfl wd1393 d170_112, List.forall_mem_cons.mpr ⟨snd_aload_n d170_115 rfl, List.forall_mem_cons.mpr ⟨snd_bipush d170_116 (by decide +kernel), List.forall_mem_cons.mpr ⟨snd_newa (ty := .int) (k := 1) rfl (by decide +kernel) wd229 d170_118, fun _ h => by cases h⟩⟩⟩⟩⟩⟩⟩⟩⟩⟩⟩⟩⟩⟩⟩⟩⟩⟩⟩⟩⟩⟩⟩⟩⟩⟩⟩⟩⟩⟩
theorem sc170_2 : ∀ q ∈ tc170_2, Snd xtb M170 q.1 q.2 := List.forall_mem_cons.mpr ⟨snd_putRF (by decide) (by decide) rfl rfl rfl rfl wd1395 d170_120, List.forall_mem_cons.mpr ⟨snd_aload_n d170_123 rfl, List.forall_mem_cons.mpr ⟨snd_bipush d170_124 (by decide +kernel), List.forall_mem_cons.mpr ⟨snd_newa (ty := .int) (k := 1) rfl (by decide +kernel) wd229 d170_126, List.forall_mem_cons.mpr ⟨snd_putRF (by decide) (by decide) rfl rfl rfl rfl wd1396 d170_128, List.forall_mem_cons.mpr ⟨snd_aload_n d170_131 rfl, List.forall_mem_cons.mpr ⟨snd_bipush d170_132 (by decide +kernel), List.forall_mem_cons.mpr ⟨snd_newa (ty := .int) (k := 1) rfl (by decide +kernel) wd229 d170_134, List.forall_mem_cons.mpr ⟨snd_putRF (by decide) (by decide) rfl rfl rfl rfl wd1397 d170_136, List.forall_mem_cons.mpr ⟨snd_vret rfl d170_139, fun _ h => by cases h⟩⟩⟩⟩⟩⟩⟩⟩⟩⟩
theorem d171_0 : decode (mC M171) 0 = .ok (.aload_n 0, 1) := by decide +kernel
theorem d171_1 : decode (mC M171) 1 = .ok (.getfield 64, 3) := by decide +kernel
theorem d171_4 : decode (mC M171) 4 = .ok (.ireturn, 1) := by decide +kernel
theorem sc171_0 : ∀ q ∈ tc171_0, Snd xtb M171 q.1 q.2 := List.forall_mem_cons.mpr ⟨snd_aload_n d171_0 rfl, List.forall_mem_cons.mpr ⟨snd_getI (by decide) (by decide) rfl wd1367 d171_1, List.forall_mem_cons.mpr ⟨snd_iret rfl d171_4, fun _ h => by cases h⟩⟩⟩
theorem d172_0 : decode (mC M172) 0 = .ok (.aload_n 0, 1) := by decide +kernel
theorem d172_1 : decode (mC M172) 1 = .ok (.iload_n 1, 1) := by decide +kernel
theorem d172_2 : decode (mC M172) 2 = .ok (.putfield 67, 3) := by decide +kernel
theorem d172_5 : decode (mC M172) 5 = .ok (.aload_n 0, 1) := by decide +kernel
theorem d172_6 : decode (mC M172) 6 = .ok (.iconst (-1), 1) := by decide +kernel
theorem d172_7 : decode (mC M172) 7 = .ok (.putfield 9, 3) := by decide +kernel
theorem d172_10 : decode (mC M172) 10 = .ok (.iconst (-1), 1) := by decide +kernel
theorem d172_11 : decode (mC M172) 11 = .ok (.ireturn, 1) := by decide +kernel
theorem sc172_0 : ∀ q ∈ tc172_0, Snd xtb M172 q.1 q.2 := List.forall_mem_cons.mpr ⟨snd_aload_n d172_0 rfl, List.forall_mem_cons.mpr ⟨snd_iload_n d172_1 rfl, List.forall_mem_cons.mpr ⟨snd_putI (by decide) (by decide) rfl rfl wd1368 d172_2, List.forall_mem_cons.mpr ⟨snd_aload_n d172_5 rfl, List.forall_mem_cons.mpr ⟨snd_iconst d172_6 (by decide +kernel), List.forall_mem_cons.mpr ⟨snd_putI (by decide) (by decide) rfl rfl wd1369 d172_7, List.forall_mem_cons.mpr ⟨snd_iconst d172_10 (by decide +kernel), List.forall_mem_cons.mpr ⟨snd_iret rfl d172_11, fun _ h => by cases h⟩⟩⟩⟩⟩⟩⟩⟩
theorem d173_0 : decode (mC M173) 0 = .ok (.aload_n 0, 1) := by decide +kernel
theorem d173_1 : decode (mC M173) 1 = .ok (.iload_n 1, 1) := by decide +kernel
theorem d173_2 : decode (mC M173) 2 = .ok (.invokevirtual 70, 3) := by decide +kernel
theorem d173_5 : decode (mC M173) 5 = .ok (.pop, 1) := by decide +kernel
theorem d173_6 : decode (mC M173) 6 = .ok (.ldc 76, 2) := by decide +kernel
theorem d173_8 : decode (mC M173) 8 = .ok (.ireturn, 1) := by decide +kernel
theorem sc173_0 : ∀ q ∈ tc173_0, Snd xtb M173 q.1 q.2 := List.forall_mem_cons.mpr ⟨snd_aload_n d173_0 rfl, List.forall_mem_cons.mpr ⟨snd_iload_n d173_1 rfl, List.forall_mem_cons.mpr ⟨snd_callV (by decide) rfl cn172 ⟨by decide +kernel, by decide +kernel⟩ cm172 (List.forall_mem_cons.mpr ⟨wd1476, cw172⟩) d173_2, List.forall_mem_cons.mpr ⟨snd_pop d173_5, List.forall_mem_cons.mpr ⟨snd_ldc d173_6 wd1697, List.forall_mem_cons.mpr ⟨snd_iret rfl d173_8, fun _ h => by cases h⟩⟩⟩⟩⟩⟩
theorem d174_0 : decode (mC M174) 0 = .ok (.aload_n 0, 1) := by decide +kernel
theorem d174_1 : decode (mC M174) 1 = .ok (.iconst 0, 1) := by decide +kernel
theorem d174_2 : decode (mC M174) 2 = .ok (.putfield 67, 3) := by decide +kernel
theorem d174_5 : decode (mC M174) 5 = .ok (.aload_n 0, 1) := by decide +kernel
theorem d174_6 : decode (mC M174) 6 = .ok (.iconst (-1), 1) := by decide +kernel
theorem d174_7 : decode (mC M174) 7 = .ok (.putfield 9, 3) := by decide +kernel
theorem d174_10 : decode (mC M174) 10 = .ok (.iload_n 1, 1) := by decide +kernel
theorem d174_11 : decode (mC M174) 11 = .ok (.ireturn, 1) := by decide +kernel
theorem sc174_0 : ∀ q ∈ tc174_0, Snd xtb M174 q.1 q.2 := List.forall_mem_cons.mpr ⟨snd_aload_n d174_0 rfl, List.forall_mem_cons.mpr ⟨snd_iconst d174_1 (by decide +kernel), List.forall_mem_cons.mpr ⟨snd_putI (by decide) (by decide) rfl rfl wd1368 d174_2, List.forall_mem_cons.mpr ⟨snd_aload_n d174_5 rfl, List.forall_mem_cons.mpr ⟨snd_iconst d174_6 (by decide +kernel), List.forall_mem_cons.mpr ⟨snd_putI (by decide) (by decide) rfl rfl wd1369 d174_7, List.forall_mem_cons.mpr ⟨snd_iload_n d174_10 rfl, List.forall_mem_cons.mpr ⟨snd_iret rfl d174_11, fun _ h => by cases h⟩⟩⟩⟩⟩⟩⟩⟩
theorem d175_0 : decode (mC M175) 0 = .ok (.iload_n 0, 1) := by decide +kernel
theorem d175_1 : decode (mC M175) 1 = .ok (.iload_n 1, 1) := by decide +kernel
theorem d175_2 : decode (mC M175) 2 = .ok (.if_icmp .lt 12, 3) := by decide +kernel
theorem d175_5 : decode (mC M175) 5 = .ok (.iload_n 0, 1) := by decide +kernel
theorem d175_6 : decode (mC M175) 6 = .ok (.iload_n 2, 1) := by decide +kernel
theorem d175_7 : decode (mC M175) 7 = .ok (.if_icmp .gt 7, 3) := by decide +kernel
theorem d175_10 : decode (mC M175) 10 = .ok (.iconst 1, 1) := by decide +kernel
theorem d175_11 : decode (mC M175) 11 = .ok (.goto 4, 3) := by decide +kernel
theorem d175_14 : decode (mC M175) 14 = .ok (.iconst 0, 1) := by decide +kernel
theorem d175_15 : decode (mC M175) 15 = .ok (.ireturn, 1) := by decide +kernel
theorem sc175_0 : ∀ q ∈ tc175_0, Snd xtb M175 q.1 q.2 := List.forall_mem_cons.mpr ⟨snd_iload_n d175_0 rfl, List.forall_mem_cons.mpr ⟨snd_iload_n d175_1 rfl, List.forall_mem_cons.mpr ⟨snd_cmp_lt d175_2 (by decide), List.forall_mem_cons.mpr ⟨snd_iload_n d175_5 rfl, List.forall_mem_cons.mpr ⟨snd_iload_n d175_6 rfl, List.forall_mem_cons.mpr ⟨snd_cmp_gt d175_7 (by decide), List.forall_mem_cons.mpr ⟨snd_iconst d175_10 (by decide +kernel), List.forall_mem_cons.mpr ⟨snd_goto d175_11 (by decide), List.forall_mem_cons.mpr ⟨snd_iconst d175_14 (by decide +kernel), List.forall_mem_cons.mpr ⟨snd_zret rfl d175_15, fun _ h => by cases h⟩⟩⟩⟩⟩⟩⟩⟩⟩⟩
theorem d176_0 : decode (mC M176) 0 = .ok (.iload_n 1, 1) := by decide +kernel
theorem d176_1 : decode (mC M176) 1 = .ok (.aload_n 0, 1) := by decide +kernel
theorem d176_2 : decode (mC M176) 2 = .ok (.getfield 77, 3) := by decide +kernel
theorem d176_5 : decode (mC M176) 5 = .ok (.if_icmp .ge 16, 3) := by decide +kernel
theorem d176_8 : decode (mC M176) 8 = .ok (.aload_n 0, 1) := by decide +kernel
theorem d176_9 : decode (mC M176) 9 = .ok (.getfield 27, 3) := by decide +kernel
theorem d176_12 : decode (mC M176) 12 = .ok (.iload_n 1, 1) := by decide +kernel
theorem d176_13 : decode (mC M176) 13 = .ok (.baload, 1) := by decide +kernel
theorem d176_14 : decode (mC M176) 14 = .ok (.sipush 255, 3) := by decide +kernel
theorem d176_17 : decode (mC M176) 17 = .ok (.iand, 1) := by decide +kernel
theorem d176_18 : decode (mC M176) 18 = .ok (.goto 4, 3) := by decide +kernel
theorem d176_21 : decode (mC M176) 21 = .ok (.iconst (-1), 1) := by decide +kernel
theorem d176_22 : decode (mC M176) 22 = .ok (.ireturn, 1) := by decide +kernel
theorem sc176_0 : ∀ q ∈ tc176_0, Snd xtb M176 q.1 q.2 := List.forall_mem_cons.mpr ⟨snd_iload_n d176_0 rfl, List.forall_mem_cons.mpr ⟨snd_aload_n d176_1 rfl, List.forall_mem_cons.mpr ⟨snd_getI (by decide) (by decide) rfl wd1377 d176_2, List.forall_mem_cons.mpr ⟨snd_cmp_ge d176_5 (by decide), List.forall_mem_cons.mpr ⟨snd_aload_n d176_8 rfl, List.forall_mem_cons.mpr ⟨snd_getR (by decide) (by decide) rfl wd1375 d176_9, List.forall_mem_cons.mpr ⟨snd_iload_n d176_12 rfl, List.forall_mem_cons.mpr ⟨snd_bald d176_13, List.forall_mem_cons.mpr ⟨snd_sipush d176_14 (by decide +kernel), List.forall_mem_cons.mpr ⟨snd_iand d176_17, List.forall_mem_cons.mpr ⟨snd_goto d176_18 (by decide), List.forall_mem_cons.mpr ⟨snd_iconst d176_21 (by decide +kernel), List.forall_mem_cons.mpr ⟨snd_iret rfl d176_22, fun _ h => by cases h⟩⟩⟩⟩⟩⟩⟩⟩⟩⟩⟩⟩⟩
theorem d177_0 : decode (mC M177) 0 = .ok (.aload_n 0, 1) := by decide +kernel
theorem d177_1 : decode (mC M177) 1 = .ok (.getfield 80, 3) := by decide +kernel
theorem d177_4 : decode (mC M177) 4 = .ok (.ifCond .le 4, 3) := by decide +kernel
theorem d177_7 : decode (mC M177) 7 = .ok (.return_, 1) := by decide +kernel
theorem d177_8 : decode (mC M177) 8 = .ok (.aload_n 0, 1) := by decide +kernel
theorem d177_9 : decode (mC M177) 9 = .ok (.aload_n 0, 1) := by decide +kernel
theorem d177_10 : decode (mC M177) 10 = .ok (.getfield 83, 3) := by decide +kernel
theorem d177_13 : decode (mC M177) 13 = .ok (.invokevirtual 86, 3) := by decide +kernel
theorem d177_16 : decode (mC M177) 16 = .ok (.bipush 32, 2) := by decide +kernel
theorem d177_18 : decode (mC M177) 18 = .ok (.if_icmp .ne 16, 3) := by decide +kernel
theorem d177_21 : decode (mC M177) 21 = .ok (.aload_n 0, 1) := by decide +kernel
theorem d177_22 : decode (mC M177) 22 = .ok (.dup, 1) := by decide +kernel
theorem d177_23 : decode (mC M177) 23 = .ok (.getfield 83, 3) := by decide +kernel
theorem d177_26 : decode (mC M177) 26 = .ok (.iconst 1, 1) := by decide +kernel
theorem d177_27 : decode (mC M177) 27 = .ok (.iadd, 1) := by decide +kernel
theorem d177_28 : decode (mC M177) 28 = .ok (.putfield 83, 3) := by decide +kernel
theorem d177_31 : decode (mC M177) 31 = .ok (.goto (-23), 3) := by decide +kernel
theorem d177_34 : decode (mC M177) 34 = .ok (.aload_n 0, 1) := by decide +kernel
theorem d177_35 : decode (mC M177) 35 = .ok (.aload_n 0, 1) := by decide +kernel
theorem d177_36 : decode (mC M177) 36 = .ok (.getfield 83, 3) := by decide +kernel
theorem d177_39 : decode (mC M177) 39 = .ok (.putfield 89, 3) := by decide +kernel
theorem d177_42 : decode (mC M177) 42 = .ok (.aload_n 0, 1) := by decide +kernel
theorem d177_43 : decode (mC M177) 43 = .ok (.aload_n 0, 1) := by decide +kernel
theorem d177_44 : decode (mC M177) 44 = .ok (.getfield 83, 3) := by decide +kernel
theorem d177_47 : decode (mC M177) 47 = .ok (.invokevirtual 86, 3) := by decide +kernel
theorem d177_50 : decode (mC M177) 50 = .ok (.istore_n 1, 1) := by decide +kernel
theorem d177_51 : decode (mC M177) 51 = .ok (.iload_n 1, 1) := by decide +kernel
theorem d177_52 : decode (mC M177) 52 = .ok (.iconst (-1), 1) := by decide +kernel
theorem d177_53 : decode (mC M177) 53 = .ok (.if_icmp .ne 11, 3) := by decide +kernel
theorem d177_56 : decode (mC M177) 56 = .ok (.aload_n 0, 1) := by decide +kernel
theorem d177_57 : decode (mC M177) 57 = .ok (.iconst 1, 1) := by decide +kernel
theorem d177_58 : decode (mC M177) 58 = .ok (.putfield 92, 3) := by decide +kernel
theorem d177_61 : decode (mC M177) 61 = .ok (.goto 44, 3) := by decide +kernel
theorem d177_64 : decode (mC M177) 64 = .ok (.iload_n 1, 1) := by decide +kernel
theorem d177_65 : decode (mC M177) 65 = .ok (.bipush 97, 2) := by decide +kernel
theorem d177_67 : decode (mC M177) 67 = .ok (.bipush 122, 2) := by decide +kernel
theorem d177_69 : decode (mC M177) 69 = .ok (.invokestatic 95, 3) := by decide +kernel
theorem d177_72 : decode (mC M177) 72 = .ok (.ifCond .eq 10, 3) := by decide +kernel
theorem d177_75 : decode (mC M177) 75 = .ok (.aload_n 0, 1) := by decide +kernel
theorem d177_76 : decode (mC M177) 76 = .ok (.invokevirtual 99, 3) := by decide +kernel
theorem d177_79 : decode (mC M177) 79 = .ok (.goto 26, 3) := by decide +kernel
theorem d177_82 : decode (mC M177) 82 = .ok (.iload_n 1, 1) := by decide +kernel
theorem d177_83 : decode (mC M177) 83 = .ok (.bipush 48, 2) := by decide +kernel
theorem d177_85 : decode (mC M177) 85 = .ok (.bipush 57, 2) := by decide +kernel
theorem d177_87 : decode (mC M177) 87 = .ok (.invokestatic 95, 3) := by decide +kernel
theorem d177_90 : decode (mC M177) 90 = .ok (.ifCond .eq 10, 3) := by decide +kernel
theorem d177_93 : decode (mC M177) 93 = .ok (.aload_n 0, 1) := by decide +kernel
theorem d177_94 : decode (mC M177) 94 = .ok (.invokevirtual 102, 3) := by decide +kernel
theorem d177_97 : decode (mC M177) 97 = .ok (.goto 8, 3) := by decide +kernel
theorem d177_100 : decode (mC M177) 100 = .ok (.aload_n 0, 1) := by decide +kernel
theorem d177_101 : decode (mC M177) 101 = .ok (.iload_n 1, 1) := by decide +kernel
theorem d177_102 : decode (mC M177) 102 = .ok (.invokevirtual 105, 3) := by decide +kernel
theorem d177_105 : decode (mC M177) 105 = .ok (.return_, 1) := by decide +kernel
theorem sc177_0 : ∀ q ∈ tc177_0, Snd xtb M177 q.1 q.2 := List.forall_mem_cons.mpr ⟨snd_aload_n d177_0 rfl, List.forall_mem_cons.mpr ⟨snd_getI (by decide) (by decide) rfl wd1382 d177_1, List.forall_mem_cons.mpr ⟨snd_if_le d177_4 (by decide), List.forall_mem_cons.mpr ⟨snd_vret rfl d177_7, List.forall_mem_cons.mpr ⟨snd_aload_n d177_8 rfl, List.forall_mem_cons.mpr ⟨snd_aload_n d177_9 rfl, List.forall_mem_cons.mpr ⟨snd_getI (by decide) (by decide) rfl wd1378 d177_10, List.forall_mem_cons.mpr ⟨snd_callV (by decide) rfl cn176 ⟨by decide +kernel, by decide +kernel⟩ cm176 (List.forall_mem_cons.mpr ⟨wd1488, cw176⟩) d177_13, List.forall_mem_cons.mpr ⟨snd_bipush d177_16 (by decide +kernel), List.forall_mem_cons.mpr ⟨snd_cmp_ne d177_18 (by decide), List.forall_mem_cons.mpr ⟨snd_aload_n d177_21 rfl, List.forall_mem_cons.mpr ⟨snd_dup d177_22, List.forall_mem_cons.mpr ⟨snd_getI (by decide) (by decide) rfl wd1378 d177_23, List.forall_mem_cons.mpr ⟨snd_iconst d177_26 (by decide +kernel), List.forall_mem_cons.mpr ⟨snd_iadd d177_27, List.forall_mem_cons.mpr ⟨snd_putI (by decide) (by decide) rfl rfl wd1378 d177_28, List.forall_mem_cons.mpr ⟨snd_goto d177_31 (by decide), List.forall_mem_cons.mpr ⟨snd_aload_n d177_34 rfl, List.forall_mem_cons.mpr ⟨snd_aload_n d177_35 rfl, List.forall_mem_cons.mpr ⟨snd_getI (by decide) (by decide) rfl wd1378 d177_36, List.forall_mem_cons.mpr ⟨snd_putI (by decide) (by decide) rfl rfl wd1380 d177_39, List.forall_mem_cons.mpr ⟨snd_aload_n d177_42 rfl, List.forall_mem_cons.mpr ⟨snd_aload_n d177_43 rfl, List.forall_mem_cons.mpr ⟨snd_getI (by decide) (by decide) rfl wd1378 d177_44, List.forall_mem_cons.mpr ⟨snd_callV (by decide) rfl cn176 ⟨by decide +kernel, by decide +kernel⟩ cm176 (List.forall_mem_cons.mpr ⟨wd1488, cw176⟩) d177_47, List.forall_mem_cons.mpr ⟨snd_istore_n d177_50 rfl, List.forall_mem_cons.mpr ⟨snd_iload_n d177_51 rfl, List.forall_mem_cons.mpr ⟨snd_iconst d177_52 (by decide +kernel), List.forall_mem_cons.mpr ⟨snd_cmp_ne d177_53 (by decide), List.forall_mem_cons.mpr ⟨snd_aload_n d177_56 rfl, fun _ h => by cases h⟩⟩⟩⟩⟩⟩⟩⟩⟩⟩⟩⟩⟩⟩⟩⟩⟩⟩⟩⟩⟩⟩⟩⟩⟩⟩⟩⟩⟩⟩
theorem sc177_1 : ∀ q ∈ tc177_1, Snd xtb M177 q.1 q.2 := List.forall_mem_cons.mpr ⟨snd_iconst d177_57 (by decide +kernel), List.forall_mem_cons.mpr ⟨snd_putI (by decide) (by decide) rfl rfl wd1379 d177_58, List.forall_mem_cons.mpr ⟨snd_goto d177_61 (by decide), List.forall_mem_cons.mpr ⟨snd_iload_n d177_64 rfl, List.forall_mem_cons.mpr ⟨snd_bipush d177_65 (by decide +kernel), List.forall_mem_cons.mpr ⟨snd_bipush d177_67 (by decide +kernel), List.forall_mem_cons.mpr ⟨snd_callS cn175 ⟨by decide +kernel, by decide +kernel⟩ cm175 (List.forall_mem_cons.mpr ⟨wd1492, cw175⟩) d177_69, List.forall_mem_cons.mpr ⟨snd_if_eq d177_72 (by decide), List.forall_mem_cons.mpr ⟨snd_aload_n d177_75 rfl, List.forall_mem_cons.mpr ⟨snd_callV (by decide) rfl cn178 ⟨by decide +kernel, by decide +kernel⟩ cm178 (List.forall_mem_cons.mpr ⟨wd1495, cw178⟩) d177_76, List.forall_mem_cons.mpr ⟨snd_goto d177_79 (by decide), List.forall_mem_cons.mpr ⟨snd_iload_n d177_82 rfl, List.forall_mem_cons.mpr ⟨snd_bipush d177_83 (by decide +kernel), List.forall_mem_cons.mpr ⟨snd_bipush d177_85 (by decide +kernel), List.forall_mem_cons.mpr ⟨snd_callS cn175 ⟨by decide +kernel, by decide +kernel⟩ cm175 (List.forall_mem_cons.mpr ⟨wd1492, cw175⟩) d177_87, List.forall_mem_cons.mpr ⟨snd_if_eq d177_90 (by decide), List.forall_mem_cons.mpr ⟨snd_aload_n d177_93 rfl, List.forall_mem_cons.mpr ⟨snd_callV (by decide) rfl cn179 ⟨by decide +kernel, by decide +kernel⟩ cm179 (List.forall_mem_cons.mpr ⟨wd1499, cw179⟩) d177_94, List.forall_mem_cons.mpr ⟨snd_goto d177_97 (by decide), List.forall_mem_cons.mpr ⟨snd_aload_n d177_100 rfl, List.forall_mem_cons.mpr ⟨snd_iload_n d177_101 rfl, List.forall_mem_cons.mpr ⟨snd_callV (by decide) rfl cn180 ⟨by decide +kernel, by decide +kernel⟩ cm180 (List.forall_mem_cons.mpr ⟨wd1503, cw180⟩) d177_102, List.forall_mem_cons.mpr ⟨snd_vret rfl d177_105, fun _ h => by cases h⟩⟩⟩⟩⟩⟩⟩⟩⟩⟩⟩⟩⟩⟩⟩⟩⟩⟩⟩⟩⟩⟩⟩
theorem d178_0 : decode (mC M178) 0 = .ok (.aload_n 0, 1) := by decide +kernel
theorem d178_1 : decode (mC M178) 1 = .ok (.lconst 0, 1) := by decide +kernel
theorem d178_2 : decode (mC M178) 2 = .ok (.putfield 109, 3) := by decide +kernel
theorem d178_5 : decode (mC M178) 5 = .ok (.aload_n 0, 1) := by decide +kernel
theorem d178_6 : decode (mC M178) 6 = .ok (.aload_n 0, 1) := by decide +kernel
theorem d178_7 : decode (mC M178) 7 = .ok (.getfield 83, 3) := by decide +kernel
theorem d178_10 : decode (mC M178) 10 = .ok (.invokevirtual 86, 3) := by decide +kernel
theorem d178_13 : decode (mC M178) 13 = .ok (.bipush 97, 2) := by decide +kernel
theorem d178_15 : decode (mC M178) 15 = .ok (.bipush 122, 2) := by decide +kernel
theorem d178_17 : decode (mC M178) 17 = .ok (.invokestatic 95, 3) := by decide +kernel
theorem d178_20 : decode (mC M178) 20 = .ok (.ifCond .eq 51, 3) := by decide +kernel
theorem d178_23 : decode (mC M178) 23 = .ok (.aload_n 0, 1) := by decide +kernel
theorem d178_24 : decode (mC M178) 24 = .ok (.getfield 83, 3) := by decide +kernel
theorem d178_27 : decode (mC M178) 27 = .ok (.aload_n 0, 1) := by decide +kernel
theorem d178_28 : decode (mC M178) 28 = .ok (.getfield 89, 3) := by decide +kernel
theorem d178_31 : decode (mC M178) 31 = .ok (.isub, 1) := by decide +kernel
theorem d178_32 : decode (mC M178) 32 = .ok (.bipush 7, 2) := by decide +kernel
theorem d178_34 : decode (mC M178) 34 = .ok (.if_icmp .ge 24, 3) := by decide +kernel
theorem d178_37 : decode (mC M178) 37 = .ok (.aload_n 0, 1) := by decide +kernel
theorem d178_38 : decode (mC M178) 38 = .ok (.aload_n 0, 1) := by decide +kernel
theorem d178_39 : decode (mC M178) 39 = .ok (.getfield 109, 3) := by decide +kernel
theorem d178_42 : decode (mC M178) 42 = .ok (.bipush 8, 2) := by decide +kernel
theorem d178_44 : decode (mC M178) 44 = .ok (.lshl, 1) := by decide +kernel
theorem d178_45 : decode (mC M178) 45 = .ok (.aload_n 0, 1) := by decide +kernel
theorem d178_46 : decode (mC M178) 46 = .ok (.aload_n 0, 1) := by decide +kernel
theorem d178_47 : decode (mC M178) 47 = .ok (.getfield 83, 3) := by decide +kernel
theorem d178_50 : decode (mC M178) 50 = .ok (.invokevirtual 86, 3) := by decide +kernel
theorem d178_53 : decode (mC M178) 53 = .ok (.i2l, 1) := by decide +kernel
theorem d178_54 : decode (mC M178) 54 = .ok (.lor, 1) := by decide +kernel
theorem d178_55 : decode (mC M178) 55 = .ok (.putfield 109, 3) := by decide +kernel
theorem d178_58 : decode (mC M178) 58 = .ok (.aload_n 0, 1) := by decide +kernel
theorem d178_59 : decode (mC M178) 59 = .ok (.dup, 1) := by decide +kernel
theorem d178_60 : decode (mC M178) 60 = .ok (.getfield 83, 3) := by decide +kernel
theorem d178_63 : decode (mC M178) 63 = .ok (.iconst 1, 1) := by decide +kernel
theorem d178_64 : decode (mC M178) 64 = .ok (.iadd, 1) := by decide +kernel
theorem d178_65 : decode (mC M178) 65 = .ok (.putfield 83, 3) := by decide +kernel
theorem d178_68 : decode (mC M178) 68 = .ok (.goto (-63), 3) := by decide +kernel
theorem d178_71 : decode (mC M178) 71 = .ok (.aload_n 0, 1) := by decide +kernel
theorem d178_72 : decode (mC M178) 72 = .ok (.aload_n 0, 1) := by decide +kernel
theorem d178_73 : decode (mC M178) 73 = .ok (.getfield 83, 3) := by decide +kernel
theorem d178_76 : decode (mC M178) 76 = .ok (.aload_n 0, 1) := by decide +kernel
theorem d178_77 : decode (mC M178) 77 = .ok (.getfield 89, 3) := by decide +kernel
theorem d178_80 : decode (mC M178) 80 = .ok (.isub, 1) := by decide +kernel
theorem d178_81 : decode (mC M178) 81 = .ok (.bipush 7, 2) := by decide +kernel
theorem d178_83 : decode (mC M178) 83 = .ok (.if_icmp .le 7, 3) := by decide +kernel
theorem d178_86 : decode (mC M178) 86 = .ok (.iconst 0, 1) := by decide +kernel
theorem d178_87 : decode (mC M178) 87 = .ok (.goto 4, 3) := by decide +kernel
theorem d178_90 : decode (mC M178) 90 = .ok (.iconst 2, 1) := by decide +kernel
theorem d178_91 : decode (mC M178) 91 = .ok (.putfield 92, 3) := by decide +kernel
theorem d178_94 : decode (mC M178) 94 = .ok (.return_, 1) := by decide +kernel
theorem sc178_0 : ∀ q ∈ tc178_0, Snd xtb M178 q.1 q.2 := List.forall_mem_cons.mpr ⟨snd_aload_n d178_0 rfl, List.forall_mem_cons.mpr ⟨snd_lconst d178_1 (by decide +kernel), List.forall_mem_cons.mpr ⟨snd_putJ (by decide) (by decide) rfl rfl wd1383 d178_2, List.forall_mem_cons.mpr ⟨snd_aload_n d178_5 rfl, List.forall_mem_cons.mpr ⟨snd_aload_n d178_6 rfl, List.forall_mem_cons.mpr ⟨snd_getI (by decide) (by decide) rfl wd1378 d178_7, List.forall_mem_cons.mpr ⟨snd_callV (by decide) rfl cn176 ⟨by decide +kernel, by decide +kernel⟩ cm176 (List.forall_mem_cons.mpr ⟨wd1488, cw176⟩) d178_10, List.forall_mem_cons.mpr ⟨snd_bipush d178_13 (by decide +kernel), List.forall_mem_cons.mpr ⟨snd_bipush d178_15 (by decide +kernel), List.forall_mem_cons.mpr ⟨snd_callS cn175 ⟨by decide +kernel, by decide +kernel⟩ cm175 (List.forall_mem_cons.mpr ⟨wd1492, cw175⟩) d178_17, List.forall_mem_cons.mpr ⟨snd_if_eq d178_20 (by decide), List.forall_mem_cons.mpr ⟨snd_aload_n d178_23 rfl, List.forall_mem_cons.mpr ⟨snd_getI (by decide) (by decide) rfl wd1378 d178_24, List.forall_mem_cons.mpr ⟨snd_aload_n d178_27 rfl, List.forall_mem_cons.mpr ⟨snd_getI (by decide) (by decide) rfl wd1380 d178_28, List.forall_mem_cons.mpr ⟨snd_isub d178_31, List.forall_mem_cons.mpr ⟨snd_bipush d178_32 (by decide +kernel), List.forall_mem_cons.mpr ⟨snd_cmp_ge d178_34 (by decide), List.forall_mem_cons.mpr ⟨snd_aload_n d178_37 rfl, List.forall_mem_cons.mpr ⟨snd_aload_n d178_38 rfl, List.forall_mem_cons.mpr ⟨snd_getJ (by decide) (by decide) rfl wd1383 d178_39, List.forall_mem_cons.mpr ⟨snd_bipush d178_42 (by decide +kernel), List.forall_mem_cons.mpr ⟨snd_lshl d178_44, List.forall_mem_cons.mpr ⟨snd_aload_n d178_45 rfl, List.forall_mem_cons.mpr ⟨snd_aload_n d178_46 rfl, List.forall_mem_cons.mpr ⟨snd_getI (by decide) (by decide) rfl wd1378 d178_47, List.forall_mem_cons.mpr ⟨snd_callV (by decide) rfl cn176 ⟨by decide +kernel, by decide +kernel⟩ cm176 (List.forall_mem_cons.mpr ⟨wd1488, cw176⟩) d178_50, List.forall_mem_cons.mpr ⟨snd_i2l d178_53, List.forall_mem_cons.mpr ⟨snd_lor d178_54, List.forall_mem_cons.mpr ⟨snd_putJ (by decide) (by decide) rfl rfl wd1383 d178_55, fun _ h => by cases h⟩⟩⟩⟩⟩⟩⟩⟩⟩⟩⟩⟩⟩⟩⟩⟩⟩⟩⟩⟩⟩⟩⟩⟩⟩⟩⟩⟩⟩⟩
theorem sc178_1 : ∀ q ∈ tc178_1, Snd xtb M178 q.1 q.2 := List.forall_mem_cons.mpr ⟨snd_aload_n d178_58 rfl, List.forall_mem_cons.mpr ⟨snd_dup d178_59, List.forall_mem_cons.mpr ⟨snd_getI (by decide) (by decide) rfl wd1378 d178_60, List.forall_mem_cons.mpr ⟨snd_iconst d178_63 (by decide +kernel), List.forall_mem_cons.mpr ⟨snd_iadd d178_64, List.forall_mem_cons.mpr ⟨snd_putI (by decide) (by decide) rfl rfl wd1378 d178_65, List.forall_mem_cons.mpr ⟨snd_goto d178_68 (by decide), List.forall_mem_cons.mpr ⟨snd_aload_n d178_71 rfl, List.forall_mem_cons.mpr ⟨snd_aload_n d178_72 rfl, List.forall_mem_cons.mpr ⟨snd_getI (by decide) (by decide) rfl wd1378 d178_73, List.forall_mem_cons.mpr ⟨snd_aload_n d178_76 rfl, List.forall_mem_cons.mpr ⟨snd_getI (by decide) (by decide) rfl wd1380 d178_77, List.forall_mem_cons.mpr ⟨snd_isub d178_80, List.forall_mem_cons.mpr ⟨snd_bipush d178_81 (by decide +kernel), List.forall_mem_cons.mpr ⟨snd_cmp_le d178_83 (by decide), List.forall_mem_cons.mpr ⟨snd_iconst d178_86 (by decide +kernel), List.forall_mem_cons.mpr ⟨snd_goto d178_87 (by decide), List.forall_mem_cons.mpr ⟨snd_iconst d178_90 (by decide +kernel), List.forall_mem_cons.mpr ⟨snd_putI (by decide) (by decide) rfl rfl wd1379 d178_91, List.forall_mem_cons.mpr ⟨snd_vret rfl d178_94, fun _ h => by cases h⟩⟩⟩⟩⟩⟩⟩⟩⟩⟩⟩⟩⟩⟩⟩⟩⟩⟩⟩⟩
theorem d179_0 : decode (mC M179) 0 = .ok (.aload_n 0, 1) := by decide +kernel
theorem d179_1 : decode (mC M179) 1 = .ok (.iconst 0, 1) := by decide +kernel
theorem d179_2 : decode (mC M179) 2 = .ok (.putfield 113, 3) := by decide +kernel
theorem d179_5 : decode (mC M179) 5 = .ok (.aload_n 0, 1) := by decide +kernel
theorem d179_6 : decode (mC M179) 6 = .ok (.aload_n 0, 1) := by decide +kernel
theorem d179_7 : decode (mC M179) 7 = .ok (.getfield 83, 3) := by decide +kernel
theorem d179_10 : decode (mC M179) 10 = .ok (.invokevirtual 86, 3) := by decide +kernel
theorem d179_13 : decode (mC M179) 13 = .ok (.bipush 48, 2) := by decide +kernel
theorem d179_15 : decode (mC M179) 15 = .ok (.bipush 57, 2) := by decide +kernel
theorem d179_17 : decode (mC M179) 17 = .ok (.invokestatic 95, 3) := by decide +kernel
theorem d179_20 : decode (mC M179) 20 = .ok (.ifCond .eq 52, 3) := by decide +kernel
theorem d179_23 : decode (mC M179) 23 = .ok (.aload_n 0, 1) := by decide +kernel
theorem d179_24 : decode (mC M179) 24 = .ok (.getfield 83, 3) := by decide +kernel
theorem d179_27 : decode (mC M179) 27 = .ok (.aload_n 0, 1) := by decide +kernel
theorem d179_28 : decode (mC M179) 28 = .ok (.getfield 89, 3) := by decide +kernel
theorem d179_31 : decode (mC M179) 31 = .ok (.isub, 1) := by decide +kernel
theorem d179_32 : decode (mC M179) 32 = .ok (.iconst 4, 1) := by decide +kernel
theorem d179_33 : decode (mC M179) 33 = .ok (.if_icmp .ge 26, 3) := by decide +kernel
theorem d179_36 : decode (mC M179) 36 = .ok (.aload_n 0, 1) := by decide +kernel
theorem d179_37 : decode (mC M179) 37 = .ok (.bipush 10, 2) := by decide +kernel
theorem d179_39 : decode (mC M179) 39 = .ok (.aload_n 0, 1) := by decide +kernel
theorem d179_40 : decode (mC M179) 40 = .ok (.getfield 113, 3) := by decide +kernel
theorem d179_43 : decode (mC M179) 43 = .ok (.imul, 1) := by decide +kernel
theorem d179_44 : decode (mC M179) 44 = .ok (.aload_n 0, 1) := by decide +kernel
theorem d179_45 : decode (mC M179) 45 = .ok (.aload_n 0, 1) := by decide +kernel
theorem d179_46 : decode (mC M179) 46 = .ok (.getfield 83, 3) := by decide +kernel
theorem d179_49 : decode (mC M179) 49 = .ok (.invokevirtual 86, 3) := by decide +kernel
theorem d179_52 : decode (mC M179) 52 = .ok (.iadd, 1) := by decide +kernel
theorem d179_53 : decode (mC M179) 53 = .ok (.bipush 48, 2) := by decide +kernel
theorem d179_55 : decode (mC M179) 55 = .ok (.isub, 1) := by decide +kernel
theorem d179_56 : decode (mC M179) 56 = .ok (.putfield 113, 3) := by decide +kernel
theorem d179_59 : decode (mC M179) 59 = .ok (.aload_n 0, 1) := by decide +kernel
theorem d179_60 : decode (mC M179) 60 = .ok (.dup, 1) := by decide +kernel
theorem d179_61 : decode (mC M179) 61 = .ok (.getfield 83, 3) := by decide +kernel
theorem d179_64 : decode (mC M179) 64 = .ok (.iconst 1, 1) := by decide +kernel
theorem d179_65 : decode (mC M179) 65 = .ok (.iadd, 1) := by decide +kernel
theorem d179_66 : decode (mC M179) 66 = .ok (.putfield 83, 3) := by decide +kernel
theorem d179_69 : decode (mC M179) 69 = .ok (.goto (-64), 3) := by decide +kernel
theorem d179_72 : decode (mC M179) 72 = .ok (.aload_n 0, 1) := by decide +kernel
theorem d179_73 : decode (mC M179) 73 = .ok (.aload_n 0, 1) := by decide +kernel
theorem d179_74 : decode (mC M179) 74 = .ok (.getfield 83, 3) := by decide +kernel
theorem d179_77 : decode (mC M179) 77 = .ok (.aload_n 0, 1) := by decide +kernel
theorem d179_78 : decode (mC M179) 78 = .ok (.getfield 89, 3) := by decide +kernel
theorem d179_81 : decode (mC M179) 81 = .ok (.isub, 1) := by decide +kernel
theorem d179_82 : decode (mC M179) 82 = .ok (.iconst 4, 1) := by decide +kernel
theorem d179_83 : decode (mC M179) 83 = .ok (.if_icmp .le 7, 3) := by decide +kernel
theorem d179_86 : decode (mC M179) 86 = .ok (.iconst 0, 1) := by decide +kernel
theorem d179_87 : decode (mC M179) 87 = .ok (.goto 4, 3) := by decide +kernel
theorem d179_90 : decode (mC M179) 90 = .ok (.iconst 3, 1) := by decide +kernel
theorem d179_91 : decode (mC M179) 91 = .ok (.putfield 92, 3) := by decide +kernel
theorem d179_94 : decode (mC M179) 94 = .ok (.return_, 1) := by decide +kernel
theorem sc179_0 : ∀ q ∈ tc179_0, Snd xtb M179 q.1 q.2 := List.forall_mem_cons.mpr ⟨snd_aload_n d179_0 rfl, List.forall_mem_cons.mpr ⟨snd_iconst d179_1 (by decide +kernel), List.forall_mem_cons.mpr ⟨snd_putI (by decide) (by decide) rfl rfl wd1381 d179_2, List.forall_mem_cons.mpr ⟨snd_aload_n d179_5 rfl, List.forall_mem_cons.mpr ⟨snd_aload_n d179_6 rfl, List.forall_mem_cons.mpr ⟨snd_getI (by decide) (by decide) rfl wd1378 d179_7, List.forall_mem_cons.mpr ⟨snd_callV (by decide) rfl cn176 ⟨by decide +kernel, by decide +kernel⟩ cm176 (List.forall_mem_cons.mpr ⟨wd1488, cw176⟩) d179_10, List.forall_mem_cons.mpr ⟨snd_bipush d179_13 (by decide +kernel), List.forall_mem_cons.mpr ⟨snd_bipush d179_15 (by decide +kernel), List.forall_mem_cons.mpr ⟨snd_callS cn175 ⟨by decide +kernel, by decide +kernel⟩ cm175 (List.forall_mem_cons.mpr ⟨wd1492, cw175⟩) d179_17, List.forall_mem_cons.mpr ⟨snd_if_eq d179_20 (by decide), List.forall_mem_cons.mpr ⟨snd_aload_n d179_23 rfl, List.forall_mem_cons.mpr ⟨snd_getI (by decide) (by decide) rfl wd1378 d179_24, List.forall_mem_cons.mpr ⟨snd_aload_n d179_27 rfl, List.forall_mem_cons.mpr ⟨snd_getI (by decide) (by decide) rfl wd1380 d179_28, List.forall_mem_cons.mpr ⟨snd_isub d179_31, List.forall_mem_cons.mpr ⟨snd_iconst d179_32 (by decide +kernel), List.forall_mem_cons.mpr ⟨snd_cmp_ge d179_33 (by decide), List.forall_mem_cons.mpr ⟨snd_aload_n d179_36 rfl, List.forall_mem_cons.mpr ⟨snd_bipush d179_37 (by decide +kernel), List.forall_mem_cons.mpr ⟨snd_aload_n d179_39 rfl, List.forall_mem_cons.mpr ⟨snd_getI (by decide) (by decide) rfl wd1381 d179_40, List.forall_mem_cons.mpr ⟨snd_imul d179_43, List.forall_mem_cons.mpr ⟨snd_aload_n d179_44 rfl, List.forall_mem_cons.mpr ⟨snd_aload_n d179_45 rfl, List.forall_mem_cons.mpr ⟨snd_getI (by decide) (by decide) rfl wd1378 d179_46, List.forall_mem_cons.mpr ⟨snd_callV (by decide) rfl cn176 ⟨by decide +kernel, by decide +kernel⟩ cm176 (List.forall_mem_cons.mpr ⟨wd1488, cw176⟩) d179_49, List.forall_mem_cons.mpr ⟨snd_iadd d179_52, List.forall_mem_cons.mpr ⟨snd_bipush d179_53 (by decide +kernel), List.forall_mem_cons.mpr ⟨snd_isub d179_55, fun _ h => by cases h⟩⟩⟩⟩⟩⟩⟩⟩⟩⟩⟩⟩⟩⟩⟩⟩⟩⟩⟩⟩⟩⟩⟩⟩⟩⟩⟩⟩⟩⟩
theorem sc179_1 : ∀ q ∈ tc179_1, Snd xtb M179 q.1 q.2 := List.forall_mem_cons.mpr ⟨snd_putI (by decide) (by decide) rfl rfl wd1381 d179_56, List.forall_mem_cons.mpr ⟨snd_aload_n d179_59 rfl, List.forall_mem_cons.mpr ⟨snd_dup d179_60, List.forall_mem_cons.mpr ⟨snd_getI (by decide) (by decide) rfl wd1378 d179_61, List.forall_mem_cons.mpr ⟨snd_iconst d179_64 (by decide +kernel), List.forall_mem_cons.mpr ⟨snd_iadd d179_65, List.forall_mem_cons.mpr ⟨snd_putI (by decide) (by decide) rfl rfl wd1378 d179_66, List.forall_mem_cons.mpr ⟨snd_goto d179_69 (by decide), List.forall_mem_cons.mpr ⟨snd_aload_n d179_72 rfl, List.forall_mem_cons.mpr ⟨snd_aload_n d179_73 rfl, List.forall_mem_cons.mpr ⟨snd_getI (by decide) (by decide) rfl wd1378 d179_74, List.forall_mem_cons.mpr ⟨snd_aload_n d179_77 rfl, List.forall_mem_cons.mpr ⟨snd_getI (by decide) (by decide) rfl wd1380 d179_78, List.forall_mem_cons.mpr ⟨snd_isub d179_81, List.forall_mem_cons.mpr ⟨snd_iconst d179_82 (by decide +kernel), List.forall_mem_cons.mpr ⟨snd_cmp_le d179_83 (by decide), List.forall_mem_cons.mpr ⟨snd_iconst d179_86 (by decide +kernel), List.forall_mem_cons.mpr ⟨snd_goto d179_87 (by decide), List.forall_mem_cons.mpr ⟨snd_iconst d179_90 (by decide +kernel), List.forall_mem_cons.mpr ⟨snd_putI (by decide) (by decide) rfl rfl wd1379 d179_91, List.forall_mem_cons.mpr ⟨snd_vret rfl d179_94, fun _ h => by cases h⟩⟩⟩⟩⟩⟩⟩⟩⟩⟩⟩⟩⟩⟩⟩⟩⟩⟩⟩⟩⟩
theorem d180_0 : decode (mC M180) 0 = .ok (.aload_n 0, 1) := by decide +kernel
theorem d180_1 : decode (mC M180) 1 = .ok (.iload_n 1, 1) := by decide +kernel
theorem d180_2 : decode (mC M180) 2 = .ok (.bipush 59, 2) := by decide +kernel
theorem d180_4 : decode (mC M180) 4 = .ok (.if_icmp .ne 7, 3) := by decide +kernel
theorem d180_7 : decode (mC M180) 7 = .ok (.iconst 4, 1) := by decide +kernel
theorem d180_8 : decode (mC M180) 8 = .ok (.goto 4, 3) := by decide +kernel
theorem d180_11 : decode (mC M180) 11 = .ok (.iconst 0, 1) := by decide +kernel
theorem d180_12 : decode (mC M180) 12 = .ok (.putfield 92, 3) := by decide +kernel
theorem d180_15 : decode (mC M180) 15 = .ok (.iload_n 1, 1) := by decide +kernel
theorem d180_16 : decode (mC M180) 16 = .ok (.bipush 59, 2) := by decide +kernel
theorem d180_18 : decode (mC M180) 18 = .ok (.if_icmp .ne 13, 3) := by decide +kernel
theorem d180_21 : decode (mC M180) 21 = .ok (.aload_n 0, 1) := by decide +kernel
theorem d180_22 : decode (mC M180) 22 = .ok (.dup, 1) := by decide +kernel
theorem d180_23 : decode (mC M180) 23 = .ok (.getfield 83, 3) := by decide +kernel
theorem d180_26 : decode (mC M180) 26 = .ok (.iconst 1, 1) := by decide +kernel
theorem d180_27 : decode (mC M180) 27 = .ok (.iadd, 1) := by decide +kernel
theorem d180_28 : decode (mC M180) 28 = .ok (.putfield 83, 3) := by decide +kernel
theorem d180_31 : decode (mC M180) 31 = .ok (.return_, 1) := by decide +kernel
theorem sc180_0 : ∀ q ∈ tc180_0, Snd xtb M180 q.1 q.2 := List.forall_mem_cons.mpr ⟨snd_aload_n d180_0 rfl, List.forall_mem_cons.mpr ⟨snd_iload_n d180_1 rfl, List.forall_mem_cons.mpr ⟨snd_bipush d180_2 (by decide +kernel), List.forall_mem_cons.mpr ⟨snd_cmp_ne d180_4 (by decide), List.forall_mem_cons.mpr ⟨snd_iconst d180_7 (by decide +kernel), List.forall_mem_cons.mpr ⟨snd_goto d180_8 (by decide), List.forall_mem_cons.mpr ⟨snd_iconst d180_11 (by decide +kernel), List.forall_mem_cons.mpr ⟨snd_putI (by decide) (by decide) rfl rfl wd1379 d180_12, List.forall_mem_cons.mpr ⟨snd_iload_n d180_15 rfl, List.forall_mem_cons.mpr ⟨snd_bipush d180_16 (by decide +kernel), List.forall_mem_cons.mpr ⟨snd_cmp_ne d180_18 (by decide), List.forall_mem_cons.mpr ⟨snd_aload_n d180_21 rfl, List.forall_mem_cons.mpr ⟨snd_dup d180_22, List.forall_mem_cons.mpr ⟨snd_getI (by decide) (by decide) rfl wd1378 d180_23, List.forall_mem_cons.mpr ⟨snd_iconst d180_26 (by decide +kernel), List.forall_mem_cons.mpr ⟨snd_iadd d180_27, List.forall_mem_cons.mpr ⟨snd_putI (by decide) (by decide) rfl rfl wd1378 d180_28, List.forall_mem_cons.mpr ⟨snd_vret rfl d180_31, fun _ h => by cases h⟩⟩⟩⟩⟩⟩⟩⟩⟩⟩⟩⟩⟩⟩⟩⟩⟩⟩

/-! SOUNDNESS of all methods, by number -/
theorem snd_no9 {tb : Nat → xM} {M : xM} {pc : Nat} : Snd tb M pc oNo := ⟨xmo_oNo, fun l G p e R s m args below meth c u0 uF rF Q C ls st u act h => by cases h⟩
theorem snd_lk {tb : Nat → xM} {M : xM} {L : List (Nat × xOp)} {k : Nat} (h : ∀ q ∈ L, q.1 ≠ k → Snd tb M q.1 q.2) (pc : Nat) (hk : pc ≠ k) : Snd tb M pc ((L.lookup pc).getD oNo) := by
  cases e : L.lookup pc with
  | none => exact snd_no9
  | some o => exact h _ (lk_in e) hk
theorem snd_lk2 {tb : Nat → xM} {M : xM} {L : List (Nat × xOp)} (h : ∀ q ∈ L, Snd tb M q.1 q.2) (pc : Nat) : Snd tb M pc ((L.lookup pc).getD oNo) := by
  cases e : L.lookup pc with
  | none => exact snd_no9
  | some o => exact h _ (lk_in e)
theorem sm0 (pc : Nat) (hk : pc ≠ 2152) : Snd xtb M0 pc (cd0 pc) := snd_lk (k := 2152) (List.forall_mem_append.mpr ⟨List.forall_mem_append.mpr ⟨List.forall_mem_append.mpr ⟨List.forall_mem_append.mpr ⟨List.forall_mem_append.mpr ⟨List.forall_mem_append.mpr ⟨List.forall_mem_append.mpr ⟨List.forall_mem_append.mpr ⟨List.forall_mem_append.mpr ⟨List.forall_mem_append.mpr ⟨List.forall_mem_append.mpr ⟨List.forall_mem_append.mpr ⟨List.forall_mem_append.mpr ⟨List.forall_mem_append.mpr ⟨List.forall_mem_append.mpr ⟨List.forall_mem_append.mpr ⟨List.forall_mem_append.mpr ⟨List.forall_mem_append.mpr ⟨List.forall_mem_append.mpr ⟨List.forall_mem_append.mpr ⟨List.forall_mem_append.mpr ⟨List.forall_mem_append.mpr ⟨List.forall_mem_append.mpr ⟨List.forall_mem_append.mpr ⟨List.forall_mem_append.mpr ⟨List.forall_mem_append.mpr ⟨List.forall_mem_append.mpr ⟨List.forall_mem_append.mpr ⟨List.forall_mem_append.mpr ⟨List.forall_mem_append.mpr ⟨List.forall_mem_append.mpr ⟨List.forall_mem_append.mpr ⟨List.forall_mem_append.mpr ⟨List.forall_mem_append.mpr ⟨List.forall_mem_append.mpr ⟨List.forall_mem_append.mpr ⟨List.forall_mem_append.mpr ⟨List.forall_mem_append.mpr ⟨List.forall_mem_append.mpr ⟨List.forall_mem_append.mpr ⟨List.forall_mem_append.mpr ⟨List.forall_mem_append.mpr ⟨List.forall_mem_append.mpr ⟨List.forall_mem_append.mpr ⟨List.forall_mem_append.mpr ⟨List.forall_mem_append.mpr ⟨List.forall_mem_append.mpr ⟨List.forall_mem_append.mpr ⟨List.forall_mem_append.mpr ⟨(fun q hq _ => sc0_0 q hq), (fun q hq _ => sc0_1 q hq)⟩, (fun q hq _ => sc0_2 q hq)⟩, (fun q hq _ => sc0_3 q hq)⟩, (fun q hq _ => sc0_4 q hq)⟩, (fun q hq _ => sc0_5 q hq)⟩, (fun q hq _ => sc0_6 q hq)⟩, (fun q hq _ => sc0_7 q hq)⟩, (fun q hq _ => sc0_8 q hq)⟩, (fun q hq _ => sc0_9 q hq)⟩, (fun q hq _ => sc0_10 q hq)⟩, (fun q hq _ => sc0_11 q hq)⟩, (fun q hq _ => sc0_12 q hq)⟩, (fun q hq _ => sc0_13 q hq)⟩, (fun q hq _ => sc0_14 q hq)⟩, (fun q hq _ => sc0_15 q hq)⟩, (fun q hq _ => sc0_16 q hq)⟩, (fun q hq _ => sc0_17 q hq)⟩, (fun q hq _ => sc0_18 q hq)⟩, (fun q hq _ => sc0_19 q hq)⟩, (fun q hq _ => sc0_20 q hq)⟩, (fun q hq _ => sc0_21 q hq)⟩, (fun q hq _ => sc0_22 q hq)⟩, (fun q hq _ => sc0_23 q hq)⟩, (fun q hq _ => sc0_24 q hq)⟩, (fun q hq _ => sc0_25 q hq)⟩, (fun q hq _ => sc0_26 q hq)⟩, (fun q hq _ => sc0_27 q hq)⟩, (fun q hq _ => sc0_28 q hq)⟩, (fun q hq _ => sc0_29 q hq)⟩, (fun q hq _ => sc0_30 q hq)⟩, (fun q hq _ => sc0_31 q hq)⟩, (fun q hq _ => sc0_32 q hq)⟩, (fun q hq _ => sc0_33 q hq)⟩, (fun q hq _ => sc0_34 q hq)⟩, (fun q hq _ => sc0_35 q hq)⟩, (fun q hq _ => sc0_36 q hq)⟩, (fun q hq _ => sc0_37 q hq)⟩, (fun q hq _ => sc0_38 q hq)⟩, (fun q hq _ => sc0_39 q hq)⟩, (fun q hq _ => sc0_40 q hq)⟩, (fun q hq _ => sc0_41 q hq)⟩, (fun q hq _ => sc0_42 q hq)⟩, (fun q hq _ => sc0_43 q hq)⟩, (fun q hq _ => sc0_44 q hq)⟩, (fun q hq _ => sc0_45 q hq)⟩, (fun q hq _ => sc0_46 q hq)⟩, (fun q hq _ => sc0_47 q hq)⟩, sc0_48⟩, (fun q hq _ => sc0_49 q hq)⟩) pc hk
theorem sm2 (pc : Nat) : Snd xtb M2 pc (cd2 pc) := snd_lk2 (sc2_0) pc
theorem sm3 (pc : Nat) : Snd xtb M3 pc (cd3 pc) := snd_lk2 (sc3_0) pc
theorem sm4 (pc : Nat) : Snd xtb M4 pc (cd4 pc) := snd_lk2 (List.forall_mem_append.mpr ⟨sc4_0, sc4_1⟩) pc
theorem sm5 (pc : Nat) : Snd xtb M5 pc (cd5 pc) := snd_lk2 (List.forall_mem_append.mpr ⟨sc5_0, sc5_1⟩) pc
theorem sm6 (pc : Nat) : Snd xtb M6 pc (cd6 pc) := snd_lk2 (List.forall_mem_append.mpr ⟨sc6_0, sc6_1⟩) pc
theorem sm7 (pc : Nat) : Snd xtb M7 pc (cd7 pc) := snd_lk2 (sc7_0) pc
theorem sm8 (pc : Nat) : Snd xtb M8 pc (cd8 pc) := snd_lk2 (sc8_0) pc
theorem sm9 (pc : Nat) : Snd xtb M9 pc (cd9 pc) := snd_lk2 (sc9_0) pc
theorem sm10 (pc : Nat) : Snd xtb M10 pc (cd10 pc) := snd_lk2 (List.forall_mem_append.mpr ⟨sc10_0, sc10_1⟩) pc
theorem sm11 (pc : Nat) : Snd xtb M11 pc (cd11 pc) := snd_lk2 (List.forall_mem_append.mpr ⟨List.forall_mem_append.mpr ⟨sc11_0, sc11_1⟩, sc11_2⟩) pc
theorem sm12 (pc : Nat) : Snd xtb M12 pc (cd12 pc) := snd_lk2 (sc12_0) pc
theorem sm13 (pc : Nat) : Snd xtb M13 pc (cd13 pc) := snd_lk2 (sc13_0) pc
theorem sm14 (pc : Nat) : Snd xtb M14 pc (cd14 pc) := snd_lk2 (sc14_0) pc
theorem sm15 (pc : Nat) : Snd xtb M15 pc (cd15 pc) := snd_lk2 (List.forall_mem_append.mpr ⟨sc15_0, sc15_1⟩) pc
theorem sm16 (pc : Nat) : Snd xtb M16 pc (cd16 pc) := snd_lk2 (List.forall_mem_append.mpr ⟨List.forall_mem_append.mpr ⟨sc16_0, sc16_1⟩, sc16_2⟩) pc
theorem sm17 (pc : Nat) : Snd xtb M17 pc (cd17 pc) := snd_lk2 (sc17_0) pc
theorem sm18 (pc : Nat) : Snd xtb M18 pc (cd18 pc) := snd_lk2 (sc18_0) pc
theorem sm19 (pc : Nat) : Snd xtb M19 pc (cd19 pc) := snd_lk2 (sc19_0) pc
theorem sm20 (pc : Nat) : Snd xtb M20 pc (cd20 pc) := snd_lk2 (sc20_0) pc
theorem sm21 (pc : Nat) : Snd xtb M21 pc (cd21 pc) := snd_lk2 (sc21_0) pc
theorem sm22 (pc : Nat) : Snd xtb M22 pc (cd22 pc) := snd_lk2 (sc22_0) pc
theorem sm23 (pc : Nat) : Snd xtb M23 pc (cd23 pc) := snd_lk2 (sc23_0) pc
theorem sm24 (pc : Nat) : Snd xtb M24 pc (cd24 pc) := snd_lk2 (sc24_0) pc
theorem sm25 (pc : Nat) : Snd xtb M25 pc (cd25 pc) := snd_lk2 (List.forall_mem_append.mpr ⟨sc25_0, sc25_1⟩) pc
theorem sm26 (pc : Nat) : Snd xtb M26 pc (cd26 pc) := snd_lk2 (List.forall_mem_append.mpr ⟨List.forall_mem_append.mpr ⟨sc26_0, sc26_1⟩, sc26_2⟩) pc
theorem sm27 (pc : Nat) : Snd xtb M27 pc (cd27 pc) := snd_lk2 (List.forall_mem_append.mpr ⟨sc27_0, sc27_1⟩) pc
theorem sm28 (pc : Nat) : Snd xtb M28 pc (cd28 pc) := snd_lk2 (List.forall_mem_append.mpr ⟨sc28_0, sc28_1⟩) pc
theorem sm29 (pc : Nat) : Snd xtb M29 pc (cd29 pc) := snd_lk2 (List.forall_mem_append.mpr ⟨List.forall_mem_append.mpr ⟨sc29_0, sc29_1⟩, sc29_2⟩) pc
theorem sm30 (pc : Nat) : Snd xtb M30 pc (cd30 pc) := snd_lk2 (List.forall_mem_append.mpr ⟨sc30_0, sc30_1⟩) pc
theorem sm31 (pc : Nat) : Snd xtb M31 pc (cd31 pc) := snd_lk2 (sc31_0) pc
theorem sm32 (pc : Nat) : Snd xtb M32 pc (cd32 pc) := snd_lk2 (sc32_0) pc
theorem sm33 (pc : Nat) : Snd xtb M33 pc (cd33 pc) := snd_lk2 (List.forall_mem_append.mpr ⟨sc33_0, sc33_1⟩) pc
theorem sm34 (pc : Nat) : Snd xtb M34 pc (cd34 pc) := snd_lk2 (sc34_0) pc
theorem sm35 (pc : Nat) : Snd xtb M35 pc (cd35 pc) := snd_lk2 (sc35_0) pc
theorem sm36 (pc : Nat) : Snd xtb M36 pc (cd36 pc) := snd_lk2 (List.forall_mem_append.mpr ⟨sc36_0, sc36_1⟩) pc
theorem sm37 (pc : Nat) : Snd xtb M37 pc (cd37 pc) := snd_lk2 (sc37_0) pc
theorem sm38 (pc : Nat) : Snd xtb M38 pc (cd38 pc) := snd_lk2 (sc38_0) pc
theorem sm39 (pc : Nat) : Snd xtb M39 pc (cd39 pc) := snd_lk2 (sc39_0) pc
theorem sm40 (pc : Nat) : Snd xtb M40 pc (cd40 pc) := snd_lk2 (List.forall_mem_append.mpr ⟨sc40_0, sc40_1⟩) pc
theorem sm41 (pc : Nat) : Snd xtb M41 pc (cd41 pc) := snd_lk2 (List.forall_mem_append.mpr ⟨sc41_0, sc41_1⟩) pc
theorem sm42 (pc : Nat) : Snd xtb M42 pc (cd42 pc) := snd_lk2 (sc42_0) pc
theorem sm43 (pc : Nat) : Snd xtb M43 pc (cd43 pc) := snd_lk2 (sc43_0) pc
theorem sm44 (pc : Nat) : Snd xtb M44 pc (cd44 pc) := snd_lk2 (sc44_0) pc
theorem sm45 (pc : Nat) : Snd xtb M45 pc (cd45 pc) := snd_lk2 (sc45_0) pc
theorem sm46 (pc : Nat) : Snd xtb M46 pc (cd46 pc) := snd_lk2 (sc46_0) pc
theorem sm47 (pc : Nat) : Snd xtb M47 pc (cd47 pc) := snd_lk2 (List.forall_mem_append.mpr ⟨sc47_0, sc47_1⟩) pc
theorem sm48 (pc : Nat) : Snd xtb M48 pc (cd48 pc) := snd_lk2 (sc48_0) pc
theorem sm49 (pc : Nat) : Snd xtb M49 pc (cd49 pc) := snd_lk2 (List.forall_mem_append.mpr ⟨sc49_0, sc49_1⟩) pc
theorem sm50 (pc : Nat) : Snd xtb M50 pc (cd50 pc) := snd_lk2 (List.forall_mem_append.mpr ⟨sc50_0, sc50_1⟩) pc
theorem sm51 (pc : Nat) : Snd xtb M51 pc (cd51 pc) := snd_lk2 (List.forall_mem_append.mpr ⟨sc51_0, sc51_1⟩) pc
theorem sm52 (pc : Nat) : Snd xtb M52 pc (cd52 pc) := snd_lk2 (List.forall_mem_append.mpr ⟨sc52_0, sc52_1⟩) pc
theorem sm53 (pc : Nat) : Snd xtb M53 pc (cd53 pc) := snd_lk2 (sc53_0) pc
theorem sm54 (pc : Nat) : Snd xtb M54 pc (cd54 pc) := snd_lk2 (sc54_0) pc
theorem sm55 (pc : Nat) : Snd xtb M55 pc (cd55 pc) := snd_lk2 (List.forall_mem_append.mpr ⟨sc55_0, sc55_1⟩) pc
theorem sm56 (pc : Nat) : Snd xtb M56 pc (cd56 pc) := snd_lk2 (sc56_0) pc
theorem sm57 (pc : Nat) : Snd xtb M57 pc (cd57 pc) := snd_lk2 (sc57_0) pc
theorem sm58 (pc : Nat) : Snd xtb M58 pc (cd58 pc) := snd_lk2 (sc58_0) pc
theorem sm59 (pc : Nat) : Snd xtb M59 pc (cd59 pc) := snd_lk2 (sc59_0) pc
theorem sm60 (pc : Nat) : Snd xtb M60 pc (cd60 pc) := snd_lk2 (List.forall_mem_append.mpr ⟨sc60_0, sc60_1⟩) pc
theorem sm61 (pc : Nat) : Snd xtb M61 pc (cd61 pc) := snd_lk2 (List.forall_mem_append.mpr ⟨sc61_0, sc61_1⟩) pc
theorem sm62 (pc : Nat) : Snd xtb M62 pc (cd62 pc) := snd_lk2 (sc62_0) pc
theorem sm63 (pc : Nat) : Snd xtb M63 pc (cd63 pc) := snd_lk2 (List.forall_mem_append.mpr ⟨sc63_0, sc63_1⟩) pc
theorem sm64 (pc : Nat) : Snd xtb M64 pc (cd64 pc) := snd_lk2 (sc64_0) pc
theorem sm65 (pc : Nat) : Snd xtb M65 pc (cd65 pc) := snd_lk2 (List.forall_mem_append.mpr ⟨sc65_0, sc65_1⟩) pc
theorem sm66 (pc : Nat) : Snd xtb M66 pc (cd66 pc) := snd_lk2 (sc66_0) pc
theorem sm67 (pc : Nat) : Snd xtb M67 pc (cd67 pc) := snd_lk2 (List.forall_mem_append.mpr ⟨sc67_0, sc67_1⟩) pc
theorem sm68 (pc : Nat) : Snd xtb M68 pc (cd68 pc) := snd_lk2 (sc68_0) pc
theorem sm69 (pc : Nat) : Snd xtb M69 pc (cd69 pc) := snd_lk2 (sc69_0) pc
theorem sm70 (pc : Nat) : Snd xtb M70 pc (cd70 pc) := snd_lk2 (sc70_0) pc
theorem sm71 (pc : Nat) : Snd xtb M71 pc (cd71 pc) := snd_lk2 (List.forall_mem_append.mpr ⟨List.forall_mem_append.mpr ⟨List.forall_mem_append.mpr ⟨List.forall_mem_append.mpr ⟨sc71_0, sc71_1⟩, sc71_2⟩, sc71_3⟩, sc71_4⟩) pc
theorem sm72 (pc : Nat) : Snd xtb M72 pc (cd72 pc) := snd_lk2 (sc72_0) pc
theorem sm73 (pc : Nat) : Snd xtb M73 pc (cd73 pc) := snd_lk2 (List.forall_mem_append.mpr ⟨sc73_0, sc73_1⟩) pc
theorem sm74 (pc : Nat) : Snd xtb M74 pc (cd74 pc) := snd_lk2 (List.forall_mem_append.mpr ⟨sc74_0, sc74_1⟩) pc
theorem sm75 (pc : Nat) : Snd xtb M75 pc (cd75 pc) := snd_lk2 (List.forall_mem_append.mpr ⟨sc75_0, sc75_1⟩) pc
theorem sm76 (pc : Nat) : Snd xtb M76 pc (cd76 pc) := snd_lk2 (List.forall_mem_append.mpr ⟨sc76_0, sc76_1⟩) pc
theorem sm77 (pc : Nat) : Snd xtb M77 pc (cd77 pc) := snd_lk2 (List.forall_mem_append.mpr ⟨sc77_0, sc77_1⟩) pc
theorem sm78 (pc : Nat) : Snd xtb M78 pc (cd78 pc) := snd_lk2 (List.forall_mem_append.mpr ⟨sc78_0, sc78_1⟩) pc
theorem sm79 (pc : Nat) : Snd xtb M79 pc (cd79 pc) := snd_lk2 (List.forall_mem_append.mpr ⟨List.forall_mem_append.mpr ⟨sc79_0, sc79_1⟩, sc79_2⟩) pc
theorem sm80 (pc : Nat) : Snd xtb M80 pc (cd80 pc) := snd_lk2 (List.forall_mem_append.mpr ⟨sc80_0, sc80_1⟩) pc
theorem sm81 (pc : Nat) : Snd xtb M81 pc (cd81 pc) := snd_lk2 (sc81_0) pc
theorem sm82 (pc : Nat) : Snd xtb M82 pc (cd82 pc) := snd_lk2 (List.forall_mem_append.mpr ⟨sc82_0, sc82_1⟩) pc
theorem sm83 (pc : Nat) : Snd xtb M83 pc (cd83 pc) := snd_lk2 (List.forall_mem_append.mpr ⟨sc83_0, sc83_1⟩) pc
theorem sm84 (pc : Nat) : Snd xtb M84 pc (cd84 pc) := snd_lk2 (sc84_0) pc
theorem sm85 (pc : Nat) : Snd xtb M85 pc (cd85 pc) := snd_lk2 (sc85_0) pc
theorem sm86 (pc : Nat) : Snd xtb M86 pc (cd86 pc) := snd_lk2 (sc86_0) pc
theorem sm87 (pc : Nat) : Snd xtb M87 pc (cd87 pc) := snd_lk2 (sc87_0) pc
theorem sm88 (pc : Nat) : Snd xtb M88 pc (cd88 pc) := snd_lk2 (sc88_0) pc
theorem sm89 (pc : Nat) : Snd xtb M89 pc (cd89 pc) := snd_lk2 (List.forall_mem_append.mpr ⟨List.forall_mem_append.mpr ⟨List.forall_mem_append.mpr ⟨sc89_0, sc89_1⟩, sc89_2⟩, sc89_3⟩) pc
theorem sm90 (pc : Nat) : Snd xtb M90 pc (cd90 pc) := snd_lk2 (List.forall_mem_append.mpr ⟨sc90_0, sc90_1⟩) pc
theorem sm91 (pc : Nat) : Snd xtb M91 pc (cd91 pc) := snd_lk2 (List.forall_mem_append.mpr ⟨sc91_0, sc91_1⟩) pc
theorem sm92 (pc : Nat) : Snd xtb M92 pc (cd92 pc) := snd_lk2 (List.forall_mem_append.mpr ⟨sc92_0, sc92_1⟩) pc
theorem sm93 (pc : Nat) : Snd xtb M93 pc (cd93 pc) := snd_lk2 (List.forall_mem_append.mpr ⟨sc93_0, sc93_1⟩) pc
theorem sm94 (pc : Nat) : Snd xtb M94 pc (cd94 pc) := snd_lk2 (List.forall_mem_append.mpr ⟨sc94_0, sc94_1⟩) pc
theorem sm95 (pc : Nat) : Snd xtb M95 pc (cd95 pc) := snd_lk2 (sc95_0) pc
theorem sm96 (pc : Nat) : Snd xtb M96 pc (cd96 pc) := snd_lk2 (sc96_0) pc
theorem sm97 (pc : Nat) : Snd xtb M97 pc (cd97 pc) := snd_lk2 (List.forall_mem_append.mpr ⟨sc97_0, sc97_1⟩) pc
theorem sm98 (pc : Nat) : Snd xtb M98 pc (cd98 pc) := snd_lk2 (sc98_0) pc
theorem sm99 (pc : Nat) : Snd xtb M99 pc (cd99 pc) := snd_lk2 (List.forall_mem_append.mpr ⟨sc99_0, sc99_1⟩) pc
theorem sm100 (pc : Nat) : Snd xtb M100 pc (cd100 pc) := snd_lk2 (List.forall_mem_append.mpr ⟨sc100_0, sc100_1⟩) pc
theorem sm101 (pc : Nat) : Snd xtb M101 pc (cd101 pc) := snd_lk2 (sc101_0) pc
theorem sm102 (pc : Nat) : Snd xtb M102 pc (cd102 pc) := snd_lk2 (sc102_0) pc
theorem sm103 (pc : Nat) : Snd xtb M103 pc (cd103 pc) := snd_lk2 (sc103_0) pc
theorem sm104 (pc : Nat) : Snd xtb M104 pc (cd104 pc) := snd_lk2 (List.forall_mem_append.mpr ⟨sc104_0, sc104_1⟩) pc
theorem sm105 (pc : Nat) : Snd xtb M105 pc (cd105 pc) := snd_lk2 (sc105_0) pc
theorem sm106 (pc : Nat) : Snd xtb M106 pc (cd106 pc) := snd_lk2 (sc106_0) pc
theorem sm107 (pc : Nat) : Snd xtb M107 pc (cd107 pc) := snd_lk2 (sc107_0) pc
theorem sm108 (pc : Nat) : Snd xtb M108 pc (cd108 pc) := snd_lk2 (List.forall_mem_append.mpr ⟨sc108_0, sc108_1⟩) pc
theorem sm109 (pc : Nat) : Snd xtb M109 pc (cd109 pc) := snd_lk2 (sc109_0) pc
theorem sm110 (pc : Nat) : Snd xtb M110 pc (cd110 pc) := snd_lk2 (sc110_0) pc
theorem sm111 (pc : Nat) : Snd xtb M111 pc (cd111 pc) := snd_lk2 (sc111_0) pc
theorem sm112 (pc : Nat) : Snd xtb M112 pc (cd112 pc) := snd_lk2 (sc112_0) pc
theorem sm113 (pc : Nat) : Snd xtb M113 pc (cd113 pc) := snd_lk2 (List.forall_mem_append.mpr ⟨sc113_0, sc113_1⟩) pc
theorem sm114 (pc : Nat) : Snd xtb M114 pc (cd114 pc) := snd_lk2 (sc114_0) pc
theorem sm115 (pc : Nat) : Snd xtb M115 pc (cd115 pc) := snd_lk2 (List.forall_mem_append.mpr ⟨List.forall_mem_append.mpr ⟨sc115_0, sc115_1⟩, sc115_2⟩) pc
theorem sm116 (pc : Nat) : Snd xtb M116 pc (cd116 pc) := snd_lk2 (List.forall_mem_append.mpr ⟨sc116_0, sc116_1⟩) pc
theorem sm117 (pc : Nat) : Snd xtb M117 pc (cd117 pc) := snd_lk2 (List.forall_mem_append.mpr ⟨sc117_0, sc117_1⟩) pc
theorem sm118 (pc : Nat) : Snd xtb M118 pc (cd118 pc) := snd_lk2 (List.forall_mem_append.mpr ⟨sc118_0, sc118_1⟩) pc
theorem sm119 (pc : Nat) : Snd xtb M119 pc (cd119 pc) := snd_lk2 (sc119_0) pc
theorem sm120 (pc : Nat) : Snd xtb M120 pc (cd120 pc) := snd_lk2 (List.forall_mem_append.mpr ⟨sc120_0, sc120_1⟩) pc
theorem sm121 (pc : Nat) : Snd xtb M121 pc (cd121 pc) := snd_lk2 (List.forall_mem_append.mpr ⟨sc121_0, sc121_1⟩) pc
theorem sm122 (pc : Nat) : Snd xtb M122 pc (cd122 pc) := snd_lk2 (List.forall_mem_append.mpr ⟨sc122_0, sc122_1⟩) pc
theorem sm123 (pc : Nat) : Snd xtb M123 pc (cd123 pc) := snd_lk2 (sc123_0) pc
theorem sm124 (pc : Nat) : Snd xtb M124 pc (cd124 pc) := snd_lk2 (List.forall_mem_append.mpr ⟨sc124_0, sc124_1⟩) pc
theorem sm125 (pc : Nat) : Snd xtb M125 pc (cd125 pc) := snd_lk2 (sc125_0) pc
theorem sm126 (pc : Nat) : Snd xtb M126 pc (cd126 pc) := snd_lk2 (List.forall_mem_append.mpr ⟨sc126_0, sc126_1⟩) pc
theorem sm127 (pc : Nat) : Snd xtb M127 pc (cd127 pc) := snd_lk2 (sc127_0) pc
theorem sm128 (pc : Nat) : Snd xtb M128 pc (cd128 pc) := snd_lk2 (List.forall_mem_append.mpr ⟨sc128_0, sc128_1⟩) pc
theorem sm129 (pc : Nat) : Snd xtb M129 pc (cd129 pc) := snd_lk2 (sc129_0) pc
theorem sm130 (pc : Nat) : Snd xtb M130 pc (cd130 pc) := snd_lk2 (List.forall_mem_append.mpr ⟨sc130_0, sc130_1⟩) pc
theorem sm131 (pc : Nat) : Snd xtb M131 pc (cd131 pc) := snd_lk2 (sc131_0) pc
theorem sm132 (pc : Nat) : Snd xtb M132 pc (cd132 pc) := snd_lk2 (List.forall_mem_append.mpr ⟨sc132_0, sc132_1⟩) pc
theorem sm133 (pc : Nat) : Snd xtb M133 pc (cd133 pc) := snd_lk2 (List.forall_mem_append.mpr ⟨sc133_0, sc133_1⟩) pc
theorem sm134 (pc : Nat) : Snd xtb M134 pc (cd134 pc) := snd_lk2 (sc134_0) pc
theorem sm135 (pc : Nat) : Snd xtb M135 pc (cd135 pc) := snd_lk2 (List.forall_mem_append.mpr ⟨sc135_0, sc135_1⟩) pc
theorem sm136 (pc : Nat) : Snd xtb M136 pc (cd136 pc) := snd_lk2 (sc136_0) pc
theorem sm137 (pc : Nat) : Snd xtb M137 pc (cd137 pc) := snd_lk2 (List.forall_mem_append.mpr ⟨sc137_0, sc137_1⟩) pc
theorem sm138 (pc : Nat) : Snd xtb M138 pc (cd138 pc) := snd_lk2 (sc138_0) pc
theorem sm139 (pc : Nat) : Snd xtb M139 pc (cd139 pc) := snd_lk2 (sc139_0) pc
theorem sm140 (pc : Nat) : Snd xtb M140 pc (cd140 pc) := snd_lk2 (sc140_0) pc
theorem sm141 (pc : Nat) : Snd xtb M141 pc (cd141 pc) := snd_lk2 (sc141_0) pc
theorem sm142 (pc : Nat) : Snd xtb M142 pc (cd142 pc) := snd_lk2 (sc142_0) pc
theorem sm143 (pc : Nat) : Snd xtb M143 pc (cd143 pc) := snd_lk2 (List.forall_mem_append.mpr ⟨sc143_0, sc143_1⟩) pc
theorem sm144 (pc : Nat) : Snd xtb M144 pc (cd144 pc) := snd_lk2 (sc144_0) pc
theorem sm145 (pc : Nat) : Snd xtb M145 pc (cd145 pc) := snd_lk2 (List.forall_mem_append.mpr ⟨sc145_0, sc145_1⟩) pc
theorem sm146 (pc : Nat) : Snd xtb M146 pc (cd146 pc) := snd_lk2 (List.forall_mem_append.mpr ⟨List.forall_mem_append.mpr ⟨sc146_0, sc146_1⟩, sc146_2⟩) pc
theorem sm147 (pc : Nat) : Snd xtb M147 pc (cd147 pc) := snd_lk2 (List.forall_mem_append.mpr ⟨sc147_0, sc147_1⟩) pc
theorem sm148 (pc : Nat) : Snd xtb M148 pc (cd148 pc) := snd_lk2 (List.forall_mem_append.mpr ⟨List.forall_mem_append.mpr ⟨sc148_0, sc148_1⟩, sc148_2⟩) pc
theorem sm149 (pc : Nat) : Snd xtb M149 pc (cd149 pc) := snd_lk2 (List.forall_mem_append.mpr ⟨sc149_0, sc149_1⟩) pc
theorem sm150 (pc : Nat) : Snd xtb M150 pc (cd150 pc) := snd_lk2 (List.forall_mem_append.mpr ⟨sc150_0, sc150_1⟩) pc
theorem sm151 (pc : Nat) : Snd xtb M151 pc (cd151 pc) := snd_lk2 (sc151_0) pc
theorem sm152 (pc : Nat) : Snd xtb M152 pc (cd152 pc) := snd_lk2 (sc152_0) pc
theorem sm153 (pc : Nat) : Snd xtb M153 pc (cd153 pc) := snd_lk2 (sc153_0) pc
theorem sm154 (pc : Nat) : Snd xtb M154 pc (cd154 pc) := snd_lk2 (sc154_0) pc
theorem sm155 (pc : Nat) : Snd xtb M155 pc (cd155 pc) := snd_lk2 (sc155_0) pc
theorem sm156 (pc : Nat) : Snd xtb M156 pc (cd156 pc) := snd_lk2 (sc156_0) pc
theorem sm157 (pc : Nat) : Snd xtb M157 pc (cd157 pc) := snd_lk2 (sc157_0) pc
theorem sm158 (pc : Nat) : Snd xtb M158 pc (cd158 pc) := snd_lk2 (sc158_0) pc
theorem sm159 (pc : Nat) : Snd xtb M159 pc (cd159 pc) := snd_lk2 (sc159_0) pc
theorem sm160 (pc : Nat) : Snd xtb M160 pc (cd160 pc) := snd_lk2 (sc160_0) pc
theorem sm161 (pc : Nat) : Snd xtb M161 pc (cd161 pc) := snd_lk2 (sc161_0) pc
theorem sm162 (pc : Nat) : Snd xtb M162 pc (cd162 pc) := snd_lk2 (sc162_0) pc
theorem sm163 (pc : Nat) : Snd xtb M163 pc (cd163 pc) := snd_lk2 (sc163_0) pc
theorem sm164 (pc : Nat) : Snd xtb M164 pc (cd164 pc) := snd_lk2 (sc164_0) pc
theorem sm165 (pc : Nat) : Snd xtb M165 pc (cd165 pc) := snd_lk2 (sc165_0) pc
theorem sm166 (pc : Nat) : Snd xtb M166 pc (cd166 pc) := snd_lk2 (sc166_0) pc
theorem sm167 (pc : Nat) : Snd xtb M167 pc (cd167 pc) := snd_lk2 (List.forall_mem_append.mpr ⟨sc167_0, sc167_1⟩) pc
theorem sm168 (pc : Nat) : Snd xtb M168 pc (cd168 pc) := snd_lk2 (sc168_0) pc
theorem sm169 (pc : Nat) : Snd xtb M169 pc (cd169 pc) := snd_lk2 (List.forall_mem_append.mpr ⟨sc169_0, sc169_1⟩) pc
theorem sm170 (pc : Nat) : Snd xtb M170 pc (cd170 pc) := snd_lk2 (List.forall_mem_append.mpr ⟨List.forall_mem_append.mpr ⟨sc170_0, sc170_1⟩, sc170_2⟩) pc
theorem sm171 (pc : Nat) : Snd xtb M171 pc (cd171 pc) := snd_lk2 (sc171_0) pc
theorem sm172 (pc : Nat) : Snd xtb M172 pc (cd172 pc) := snd_lk2 (sc172_0) pc
theorem sm173 (pc : Nat) : Snd xtb M173 pc (cd173 pc) := snd_lk2 (sc173_0) pc
theorem sm174 (pc : Nat) : Snd xtb M174 pc (cd174 pc) := snd_lk2 (sc174_0) pc
theorem sm175 (pc : Nat) : Snd xtb M175 pc (cd175 pc) := snd_lk2 (sc175_0) pc
theorem sm176 (pc : Nat) : Snd xtb M176 pc (cd176 pc) := snd_lk2 (sc176_0) pc
theorem sm177 (pc : Nat) : Snd xtb M177 pc (cd177 pc) := snd_lk2 (List.forall_mem_append.mpr ⟨sc177_0, sc177_1⟩) pc
theorem sm178 (pc : Nat) : Snd xtb M178 pc (cd178 pc) := snd_lk2 (List.forall_mem_append.mpr ⟨sc178_0, sc178_1⟩) pc
theorem sm179 (pc : Nat) : Snd xtb M179 pc (cd179 pc) := snd_lk2 (List.forall_mem_append.mpr ⟨sc179_0, sc179_1⟩) pc
theorem sm180 (pc : Nat) : Snd xtb M180 pc (cd180 pc) := snd_lk2 (sc180_0) pc
theorem sm181 (pc : Nat) : Snd xtb M181 pc (cd181 pc) := snd_lk2 (sc181_0) pc
theorem sm182 (pc : Nat) : Snd xtb M182 pc (cd182 pc) := snd_lk2 (List.forall_mem_append.mpr ⟨sc182_0, sc182_1⟩) pc
theorem sm183 (pc : Nat) : Snd xtb M183 pc (cd183 pc) := snd_lk2 (sc183_0) pc
theorem sm184 (pc : Nat) : Snd xtb M184 pc (cd184 pc) := snd_lk2 (sc184_0) pc
theorem sm185 (pc : Nat) : Snd xtb M185 pc (cd185 pc) := snd_lk2 (sc185_0) pc
theorem sm186 (pc : Nat) : Snd xtb M186 pc (cd186 pc) := snd_lk2 (List.forall_mem_append.mpr ⟨sc186_0, sc186_1⟩) pc
theorem sm187 (pc : Nat) : Snd xtb M187 pc (cd187 pc) := snd_lk2 (sc187_0) pc
theorem sm188 (pc : Nat) : Snd xtb M188 pc (cd188 pc) := snd_lk2 (sc188_0) pc
theorem sm189 (pc : Nat) : Snd xtb M189 pc (cd189 pc) := snd_lk2 (sc189_0) pc
theorem sm190 (pc : Nat) : Snd xtb M190 pc (cd190 pc) := snd_lk2 (sc190_0) pc
theorem sm191 (pc : Nat) : Snd xtb M191 pc (cd191 pc) := snd_lk2 (List.forall_mem_append.mpr ⟨sc191_0, sc191_1⟩) pc
theorem sm192 (pc : Nat) : Snd xtb M192 pc (cd192 pc) := snd_lk2 (sc192_0) pc
theorem sm193 (pc : Nat) : Snd xtb M193 pc (cd193 pc) := snd_lk2 (List.forall_mem_append.mpr ⟨sc193_0, sc193_1⟩) pc
theorem sm194 (pc : Nat) : Snd xtb M194 pc (cd194 pc) := snd_lk2 (List.forall_mem_append.mpr ⟨sc194_0, sc194_1⟩) pc
theorem sm195 (pc : Nat) : Snd xtb M195 pc (cd195 pc) := snd_lk2 (List.forall_mem_append.mpr ⟨sc195_0, sc195_1⟩) pc
theorem sm196 (pc : Nat) : Snd xtb M196 pc (cd196 pc) := snd_lk2 (sc196_0) pc
theorem sm197 (pc : Nat) : Snd xtb M197 pc (cd197 pc) := snd_lk2 (List.forall_mem_append.mpr ⟨sc197_0, sc197_1⟩) pc
theorem sm198 (pc : Nat) : Snd xtb M198 pc (cd198 pc) := snd_lk2 (List.forall_mem_append.mpr ⟨List.forall_mem_append.mpr ⟨sc198_0, sc198_1⟩, sc198_2⟩) pc
theorem sm199 (pc : Nat) : Snd xtb M199 pc (cd199 pc) := snd_lk2 (sc199_0) pc
theorem sm200 (pc : Nat) : Snd xtb M200 pc (cd200 pc) := snd_lk2 (sc200_0) pc
theorem sm201 (pc : Nat) : Snd xtb M201 pc (cd201 pc) := snd_lk2 (List.forall_mem_append.mpr ⟨List.forall_mem_append.mpr ⟨List.forall_mem_append.mpr ⟨List.forall_mem_append.mpr ⟨sc201_0, sc201_1⟩, sc201_2⟩, sc201_3⟩, sc201_4⟩) pc
theorem sm202 (pc : Nat) : Snd xtb M202 pc (cd202 pc) := snd_lk2 (List.forall_mem_append.mpr ⟨sc202_0, sc202_1⟩) pc
theorem sm203 (pc : Nat) : Snd xtb M203 pc (cd203 pc) := snd_lk2 (List.forall_mem_append.mpr ⟨sc203_0, sc203_1⟩) pc
theorem sm204 (pc : Nat) : Snd xtb M204 pc (cd204 pc) := snd_lk2 (List.forall_mem_append.mpr ⟨sc204_0, sc204_1⟩) pc
theorem sm205 (pc : Nat) : Snd xtb M205 pc (cd205 pc) := snd_lk2 (List.forall_mem_append.mpr ⟨List.forall_mem_append.mpr ⟨sc205_0, sc205_1⟩, sc205_2⟩) pc
theorem sm206 (pc : Nat) : Snd xtb M206 pc (cd206 pc) := snd_lk2 (List.forall_mem_append.mpr ⟨sc206_0, sc206_1⟩) pc
theorem sm207 (pc : Nat) : Snd xtb M207 pc (cd207 pc) := snd_lk2 (List.forall_mem_append.mpr ⟨List.forall_mem_append.mpr ⟨sc207_0, sc207_1⟩, sc207_2⟩) pc
theorem sm208 (pc : Nat) : Snd xtb M208 pc (cd208 pc) := snd_lk2 (List.forall_mem_append.mpr ⟨List.forall_mem_append.mpr ⟨sc208_0, sc208_1⟩, sc208_2⟩) pc
theorem sm209 (pc : Nat) : Snd xtb M209 pc (cd209 pc) := snd_lk2 (List.forall_mem_append.mpr ⟨List.forall_mem_append.mpr ⟨sc209_0, sc209_1⟩, sc209_2⟩) pc
theorem sm210 (pc : Nat) : Snd xtb M210 pc (cd210 pc) := snd_lk2 (sc210_0) pc
theorem sm211 (pc : Nat) : Snd xtb M211 pc (cd211 pc) := snd_lk2 (sc211_0) pc
theorem sm212 (pc : Nat) : Snd xtb M212 pc (cd212 pc) := snd_lk2 (sc212_0) pc
theorem sm213 (pc : Nat) : Snd xtb M213 pc (cd213 pc) := snd_lk2 (sc213_0) pc
theorem sm214 (pc : Nat) : Snd xtb M214 pc (cd214 pc) := snd_lk2 (sc214_0) pc
theorem sm215 (pc : Nat) : Snd xtb M215 pc (cd215 pc) := snd_lk2 (sc215_0) pc
theorem sm216 (pc : Nat) : Snd xtb M216 pc (cd216 pc) := snd_lk2 (List.forall_mem_append.mpr ⟨sc216_0, sc216_1⟩) pc
theorem sm217 (pc : Nat) : Snd xtb M217 pc (cd217 pc) := snd_lk2 (sc217_0) pc
theorem sm218 (pc : Nat) : Snd xtb M218 pc (cd218 pc) := snd_lk2 (List.forall_mem_append.mpr ⟨sc218_0, sc218_1⟩) pc
theorem sm219 (pc : Nat) : Snd xtb M219 pc (cd219 pc) := snd_lk2 (sc219_0) pc
theorem sm220 (pc : Nat) : Snd xtb M220 pc (cd220 pc) := snd_lk2 (sc220_0) pc
theorem sm221 (pc : Nat) : Snd xtb M221 pc (cd221 pc) := snd_lk2 (sc221_0) pc
theorem sm222 (pc : Nat) : Snd xtb M222 pc (cd222 pc) := snd_lk2 (sc222_0) pc
theorem sm223 (pc : Nat) : Snd xtb M223 pc (cd223 pc) := snd_lk2 (sc223_0) pc
theorem sm224 (pc : Nat) : Snd xtb M224 pc (cd224 pc) := snd_lk2 (sc224_0) pc
theorem sm225 (pc : Nat) : Snd xtb M225 pc (cd225 pc) := snd_lk2 (sc225_0) pc
theorem sm226 (pc : Nat) : Snd xtb M226 pc (cd226 pc) := snd_lk2 (sc226_0) pc
theorem sm227 (pc : Nat) : Snd xtb M227 pc (cd227 pc) := snd_lk2 (List.forall_mem_append.mpr ⟨sc227_0, sc227_1⟩) pc
theorem sm228 (pc : Nat) : Snd xtb M228 pc (cd228 pc) := snd_lk2 (List.forall_mem_append.mpr ⟨List.forall_mem_append.mpr ⟨sc228_0, sc228_1⟩, sc228_2⟩) pc
theorem sm229 (pc : Nat) : Snd xtb M229 pc (cd229 pc) := snd_lk2 (List.forall_mem_append.mpr ⟨List.forall_mem_append.mpr ⟨sc229_0, sc229_1⟩, sc229_2⟩) pc
theorem sm230 (pc : Nat) : Snd xtb M230 pc (cd230 pc) := snd_lk2 (List.forall_mem_append.mpr ⟨sc230_0, sc230_1⟩) pc
theorem sm231 (pc : Nat) : Snd xtb M231 pc (cd231 pc) := snd_lk2 (List.forall_mem_append.mpr ⟨sc231_0, sc231_1⟩) pc
theorem sm232 (pc : Nat) : Snd xtb M232 pc (cd232 pc) := snd_lk2 (sc232_0) pc
theorem sm233 (pc : Nat) : Snd xtb M233 pc (cd233 pc) := snd_lk2 (List.forall_mem_append.mpr ⟨List.forall_mem_append.mpr ⟨List.forall_mem_append.mpr ⟨sc233_0, sc233_1⟩, sc233_2⟩, sc233_3⟩) pc
theorem sm234 (pc : Nat) : Snd xtb M234 pc (cd234 pc) := snd_lk2 (List.forall_mem_append.mpr ⟨sc234_0, sc234_1⟩) pc
theorem sm235 (pc : Nat) : Snd xtb M235 pc (cd235 pc) := snd_lk2 (sc235_0) pc
theorem sm236 (pc : Nat) : Snd xtb M236 pc (cd236 pc) := snd_lk2 (List.forall_mem_append.mpr ⟨sc236_0, sc236_1⟩) pc
theorem sm237 (pc : Nat) : Snd xtb M237 pc (cd237 pc) := snd_lk2 (List.forall_mem_append.mpr ⟨sc237_0, sc237_1⟩) pc
theorem sm238 (pc : Nat) : Snd xtb M238 pc (cd238 pc) := snd_lk2 (sc238_0) pc
theorem sm239 (pc : Nat) : Snd xtb M239 pc (cd239 pc) := snd_lk2 (List.forall_mem_append.mpr ⟨sc239_0, sc239_1⟩) pc
theorem sm240 (pc : Nat) : Snd xtb M240 pc (cd240 pc) := snd_lk2 (List.forall_mem_append.mpr ⟨List.forall_mem_append.mpr ⟨sc240_0, sc240_1⟩, sc240_2⟩) pc
theorem sm241 (pc : Nat) : Snd xtb M241 pc (cd241 pc) := snd_lk2 (List.forall_mem_append.mpr ⟨List.forall_mem_append.mpr ⟨sc241_0, sc241_1⟩, sc241_2⟩) pc
theorem sm242 (pc : Nat) : Snd xtb M242 pc (cd242 pc) := snd_lk2 (List.forall_mem_append.mpr ⟨List.forall_mem_append.mpr ⟨sc242_0, sc242_1⟩, sc242_2⟩) pc
theorem sm243 (pc : Nat) : Snd xtb M243 pc (cd243 pc) := snd_lk2 (List.forall_mem_append.mpr ⟨List.forall_mem_append.mpr ⟨sc243_0, sc243_1⟩, sc243_2⟩) pc
theorem sm244 (pc : Nat) : Snd xtb M244 pc (cd244 pc) := snd_lk2 (List.forall_mem_append.mpr ⟨sc244_0, sc244_1⟩) pc
theorem sm245 (pc : Nat) : Snd xtb M245 pc (cd245 pc) := snd_lk2 (sc245_0) pc
theorem sm246 (pc : Nat) : Snd xtb M246 pc (cd246 pc) := snd_lk2 (sc246_0) pc
theorem sm247 (pc : Nat) : Snd xtb M247 pc (cd247 pc) := snd_lk2 (List.forall_mem_append.mpr ⟨sc247_0, sc247_1⟩) pc
theorem sm248 (pc : Nat) : Snd xtb M248 pc (cd248 pc) := snd_lk2 (sc248_0) pc
theorem sm249 (pc : Nat) : Snd xtb M249 pc (cd249 pc) := snd_lk2 (List.forall_mem_append.mpr ⟨sc249_0, sc249_1⟩) pc
theorem sm250 (pc : Nat) : Snd xtb M250 pc (cd250 pc) := snd_lk2 (List.forall_mem_append.mpr ⟨sc250_0, sc250_1⟩) pc
theorem sm251 (pc : Nat) : Snd xtb M251 pc (cd251 pc) := snd_lk2 (sc251_0) pc
theorem sm252 (pc : Nat) : Snd xtb M252 pc (cd252 pc) := snd_lk2 (sc252_0) pc
theorem sm253 (pc : Nat) : Snd xtb M253 pc (cd253 pc) := snd_lk2 (sc253_0) pc
theorem sm254 (pc : Nat) : Snd xtb M254 pc (cd254 pc) := snd_lk2 (List.forall_mem_append.mpr ⟨List.forall_mem_append.mpr ⟨sc254_0, sc254_1⟩, sc254_2⟩) pc
theorem sm255 (pc : Nat) : Snd xtb M255 pc (cd255 pc) := snd_lk2 (sc255_0) pc
theorem sm256 (pc : Nat) : Snd xtb M256 pc (cd256 pc) := snd_lk2 (sc256_0) pc
theorem sm257 (pc : Nat) : Snd xtb M257 pc (cd257 pc) := snd_lk2 (List.forall_mem_append.mpr ⟨sc257_0, sc257_1⟩) pc
theorem sm258 (pc : Nat) : Snd xtb M258 pc (cd258 pc) := snd_lk2 (sc258_0) pc
theorem sm259 (pc : Nat) : Snd xtb M259 pc (cd259 pc) := snd_lk2 (sc259_0) pc
theorem sm260 (pc : Nat) : Snd xtb M260 pc (cd260 pc) := snd_lk2 (List.forall_mem_append.mpr ⟨List.forall_mem_append.mpr ⟨sc260_0, sc260_1⟩, sc260_2⟩) pc
theorem sm261 (pc : Nat) : Snd xtb M261 pc (cd261 pc) := snd_lk2 (sc261_0) pc
theorem sm262 (pc : Nat) : Snd xtb M262 pc (cd262 pc) := snd_lk2 (sc262_0) pc
theorem sm263 (pc : Nat) : Snd xtb M263 pc (cd263 pc) := snd_lk2 (sc263_0) pc
theorem sm264 (pc : Nat) : Snd xtb M264 pc (cd264 pc) := snd_lk2 (sc264_0) pc
theorem sm265 (pc : Nat) : Snd xtb M265 pc (cd265 pc) := snd_lk2 (sc265_0) pc
theorem sm266 (pc : Nat) : Snd xtb M266 pc (cd266 pc) := snd_lk2 (sc266_0) pc
theorem sm267 (pc : Nat) : Snd xtb M267 pc (cd267 pc) := snd_lk2 (List.forall_mem_append.mpr ⟨sc267_0, sc267_1⟩) pc
theorem sm268 (pc : Nat) : Snd xtb M268 pc (cd268 pc) := snd_lk2 (List.forall_mem_append.mpr ⟨sc268_0, sc268_1⟩) pc
theorem sm269 (pc : Nat) : Snd xtb M269 pc (cd269 pc) := snd_lk2 (List.forall_mem_append.mpr ⟨sc269_0, sc269_1⟩) pc
theorem sm270 (pc : Nat) : Snd xtb M270 pc (cd270 pc) := snd_lk2 (List.forall_mem_append.mpr ⟨sc270_0, sc270_1⟩) pc
theorem sm271 (pc : Nat) : Snd xtb M271 pc (cd271 pc) := snd_lk2 (sc271_0) pc
theorem sm272 (pc : Nat) : Snd xtb M272 pc (cd272 pc) := snd_lk2 (List.forall_mem_append.mpr ⟨sc272_0, sc272_1⟩) pc
theorem sm273 (pc : Nat) : Snd xtb M273 pc (cd273 pc) := snd_lk2 (List.forall_mem_append.mpr ⟨List.forall_mem_append.mpr ⟨sc273_0, sc273_1⟩, sc273_2⟩) pc
theorem sm274 (pc : Nat) : Snd xtb M274 pc (cd274 pc) := snd_lk2 (sc274_0) pc
theorem sm275 (pc : Nat) : Snd xtb M275 pc (cd275 pc) := snd_lk2 (sc275_0) pc
theorem sm276 (pc : Nat) : Snd xtb M276 pc (cd276 pc) := snd_lk2 (List.forall_mem_append.mpr ⟨sc276_0, sc276_1⟩) pc
theorem sm277 (pc : Nat) : Snd xtb M277 pc (cd277 pc) := snd_lk2 (sc277_0) pc
theorem sm278 (pc : Nat) : Snd xtb M278 pc (cd278 pc) := snd_lk2 (sc278_0) pc
theorem sm279 (pc : Nat) : Snd xtb M279 pc (cd279 pc) := snd_lk2 (sc279_0) pc
theorem sm280 (pc : Nat) : Snd xtb M280 pc (cd280 pc) := snd_lk2 (List.forall_mem_append.mpr ⟨sc280_0, sc280_1⟩) pc
theorem sm281 (pc : Nat) : Snd xtb M281 pc (cd281 pc) := snd_lk2 (List.forall_mem_append.mpr ⟨sc281_0, sc281_1⟩) pc
theorem sm282 (pc : Nat) : Snd xtb M282 pc (cd282 pc) := snd_lk2 (sc282_0) pc
theorem sm283 (pc : Nat) : Snd xtb M283 pc (cd283 pc) := snd_lk2 (List.forall_mem_append.mpr ⟨sc283_0, sc283_1⟩) pc
theorem sm284 (pc : Nat) : Snd xtb M284 pc (cd284 pc) := snd_lk2 (List.forall_mem_append.mpr ⟨List.forall_mem_append.mpr ⟨List.forall_mem_append.mpr ⟨sc284_0, sc284_1⟩, sc284_2⟩, sc284_3⟩) pc
theorem sm285 (pc : Nat) : Snd xtb M285 pc (cd285 pc) := snd_lk2 (List.forall_mem_append.mpr ⟨sc285_0, sc285_1⟩) pc
theorem sm286 (pc : Nat) : Snd xtb M286 pc (cd286 pc) := snd_lk2 (sc286_0) pc
theorem sm287 (pc : Nat) : Snd xtb M287 pc (cd287 pc) := snd_lk2 (List.forall_mem_append.mpr ⟨sc287_0, sc287_1⟩) pc
theorem sm288 (pc : Nat) : Snd xtb M288 pc (cd288 pc) := snd_lk2 (sc288_0) pc
theorem sm289 (pc : Nat) : Snd xtb M289 pc (cd289 pc) := snd_lk2 (List.forall_mem_append.mpr ⟨List.forall_mem_append.mpr ⟨sc289_0, sc289_1⟩, sc289_2⟩) pc
theorem sm290 (pc : Nat) : Snd xtb M290 pc (cd290 pc) := snd_lk2 (List.forall_mem_append.mpr ⟨List.forall_mem_append.mpr ⟨List.forall_mem_append.mpr ⟨List.forall_mem_append.mpr ⟨List.forall_mem_append.mpr ⟨List.forall_mem_append.mpr ⟨sc290_0, sc290_1⟩, sc290_2⟩, sc290_3⟩, sc290_4⟩, sc290_5⟩, sc290_6⟩) pc
theorem sm291 (pc : Nat) : Snd xtb M291 pc (cd291 pc) := snd_lk2 (List.forall_mem_append.mpr ⟨sc291_0, sc291_1⟩) pc
theorem sm292 (pc : Nat) : Snd xtb M292 pc (cd292 pc) := snd_lk2 (List.forall_mem_append.mpr ⟨sc292_0, sc292_1⟩) pc
theorem sm293 (pc : Nat) : Snd xtb M293 pc (cd293 pc) := snd_lk2 (List.forall_mem_append.mpr ⟨List.forall_mem_append.mpr ⟨List.forall_mem_append.mpr ⟨List.forall_mem_append.mpr ⟨List.forall_mem_append.mpr ⟨sc293_0, sc293_1⟩, sc293_2⟩, sc293_3⟩, sc293_4⟩, sc293_5⟩) pc
theorem sm294 (pc : Nat) : Snd xtb M294 pc (cd294 pc) := snd_lk2 (List.forall_mem_append.mpr ⟨List.forall_mem_append.mpr ⟨sc294_0, sc294_1⟩, sc294_2⟩) pc
theorem sm295 (pc : Nat) : Snd xtb M295 pc (cd295 pc) := snd_lk2 (List.forall_mem_append.mpr ⟨List.forall_mem_append.mpr ⟨sc295_0, sc295_1⟩, sc295_2⟩) pc
theorem sm296 (pc : Nat) : Snd xtb M296 pc (cd296 pc) := snd_lk2 (sc296_0) pc
theorem sm297 (pc : Nat) : Snd xtb M297 pc (cd297 pc) := snd_lk2 (List.forall_mem_append.mpr ⟨sc297_0, sc297_1⟩) pc
theorem sm298 (pc : Nat) : Snd xtb M298 pc (cd298 pc) := snd_lk2 (sc298_0) pc
theorem sm299 (pc : Nat) : Snd xtb M299 pc (cd299 pc) := snd_lk2 (sc299_0) pc
theorem sm300 (pc : Nat) : Snd xtb M300 pc (cd300 pc) := snd_lk2 (sc300_0) pc
def xp0 : List (xM × (Nat → xOp)) := [(M2, cd2), (M3, cd3), (M4, cd4), (M5, cd5), (M6, cd6), (M7, cd7), (M8, cd8), (M9, cd9), (M10, cd10), (M11, cd11), (M12, cd12), (M13, cd13), (M14, cd14), (M15, cd15), (M16, cd16), (M17, cd17), (M18, cd18), (M19, cd19), (M20, cd20), (M21, cd21)]
theorem xs0 : ∀ q ∈ xp0, ∀ pc, Snd xtb q.1 pc (q.2 pc) := List.forall_mem_cons.mpr ⟨sm2, List.forall_mem_cons.mpr ⟨sm3, List.forall_mem_cons.mpr ⟨sm4, List.forall_mem_cons.mpr ⟨sm5, List.forall_mem_cons.mpr ⟨sm6, List.forall_mem_cons.mpr ⟨sm7, List.forall_mem_cons.mpr ⟨sm8, List.forall_mem_cons.mpr ⟨sm9, List.forall_mem_cons.mpr ⟨sm10, List.forall_mem_cons.mpr ⟨sm11, List.forall_mem_cons.mpr ⟨sm12, List.forall_mem_cons.mpr ⟨sm13, List.forall_mem_cons.mpr ⟨sm14, List.forall_mem_cons.mpr ⟨sm15, List.forall_mem_cons.mpr ⟨sm16, List.forall_mem_cons.mpr ⟨sm17, List.forall_mem_cons.mpr ⟨sm18, List.forall_mem_cons.mpr ⟨sm19, List.forall_mem_cons.mpr ⟨sm20, List.forall_mem_cons.mpr ⟨sm21, fun _ h => by cases h⟩⟩⟩⟩⟩⟩⟩⟩⟩⟩⟩⟩⟩⟩⟩⟩⟩⟩⟩⟩
def xp1 : List (xM × (Nat → xOp)) := [(M22, cd22), (M23, cd23), (M24, cd24), (M25, cd25), (M26, cd26), (M27, cd27), (M28, cd28), (M29, cd29), (M30, cd30), (M31, cd31), (M32, cd32), (M33, cd33), (M34, cd34), (M35, cd35), (M36, cd36), (M37, cd37), (M38, cd38), (M39, cd39), (M40, cd40), (M41, cd41)]
theorem xs1 : ∀ q ∈ xp1, ∀ pc, Snd xtb q.1 pc (q.2 pc) := List.forall_mem_cons.mpr ⟨sm22, List.forall_mem_cons.mpr ⟨sm23, List.forall_mem_cons.mpr ⟨sm24, List.forall_mem_cons.mpr ⟨sm25, List.forall_mem_cons.mpr ⟨sm26, List.forall_mem_cons.mpr ⟨sm27, List.forall_mem_cons.mpr ⟨sm28, List.forall_mem_cons.mpr ⟨sm29, List.forall_mem_cons.mpr ⟨sm30, List.forall_mem_cons.mpr ⟨sm31, List.forall_mem_cons.mpr ⟨sm32, List.forall_mem_cons.mpr ⟨sm33, List.forall_mem_cons.mpr ⟨sm34, List.forall_mem_cons.mpr ⟨sm35, List.forall_mem_cons.mpr ⟨sm36, List.forall_mem_cons.mpr ⟨sm37, List.forall_mem_cons.mpr ⟨sm38, List.forall_mem_cons.mpr ⟨sm39, List.forall_mem_cons.mpr ⟨sm40, List.forall_mem_cons.mpr ⟨sm41, fun _ h => by cases h⟩⟩⟩⟩⟩⟩⟩⟩⟩⟩⟩⟩⟩⟩⟩⟩⟩⟩⟩⟩
def xp2 : List (xM × (Nat → xOp)) := [(M42, cd42), (M43, cd43), (M44, cd44), (M45, cd45), (M46, cd46), (M47, cd47), (M48, cd48), (M49, cd49), (M50, cd50), (M51, cd51), (M52, cd52), (M53, cd53), (M54, cd54), (M55, cd55), (M56, cd56), (M57, cd57), (M58, cd58), (M59, cd59), (M60, cd60), (M61, cd61)]
theorem xs2 : ∀ q ∈ xp2, ∀ pc, Snd xtb q.1 pc (q.2 pc) := List.forall_mem_cons.mpr ⟨sm42, List.forall_mem_cons.mpr ⟨sm43, List.forall_mem_cons.mpr ⟨sm44, List.forall_mem_cons.mpr ⟨sm45, List.forall_mem_cons.mpr ⟨sm46, List.forall_mem_cons.mpr ⟨sm47, List.forall_mem_cons.mpr ⟨sm48, List.forall_mem_cons.mpr ⟨sm49, List.forall_mem_cons.mpr ⟨sm50, List.forall_mem_cons.mpr ⟨sm51, List.forall_mem_cons.mpr ⟨sm52, List.forall_mem_cons.mpr ⟨sm53, List.forall_mem_cons.mpr ⟨sm54, List.forall_mem_cons.mpr ⟨sm55, List.forall_mem_cons.mpr ⟨sm56, List.forall_mem_cons.mpr ⟨sm57, List.forall_mem_cons.mpr ⟨sm58, List.forall_mem_cons.mpr ⟨sm59, List.forall_mem_cons.mpr ⟨sm60, List.forall_mem_cons.mpr ⟨sm61, fun _ h => by cases h⟩⟩⟩⟩⟩⟩⟩⟩⟩⟩⟩⟩⟩⟩⟩⟩⟩⟩⟩⟩
def xp3 : List (xM × (Nat → xOp)) := [(M62, cd62), (M63, cd63), (M64, cd64), (M65, cd65), (M66, cd66), (M67, cd67), (M68, cd68), (M69, cd69), (M70, cd70), (M71, cd71), (M72, cd72), (M73, cd73), (M74, cd74), (M75, cd75), (M76, cd76), (M77, cd77), (M78, cd78), (M79, cd79), (M80, cd80), (M81, cd81)]
theorem xs3 : ∀ q ∈ xp3, ∀ pc, Snd xtb q.1 pc (q.2 pc) := List.forall_mem_cons.mpr ⟨sm62, List.forall_mem_cons.mpr ⟨sm63, List.forall_mem_cons.mpr ⟨sm64, List.forall_mem_cons.mpr ⟨sm65, List.forall_mem_cons.mpr ⟨sm66, List.forall_mem_cons.mpr ⟨sm67, List.forall_mem_cons.mpr ⟨sm68, List.forall_mem_cons.mpr ⟨sm69, List.forall_mem_cons.mpr ⟨sm70, List.forall_mem_cons.mpr ⟨sm71, List.forall_mem_cons.mpr ⟨sm72, List.forall_mem_cons.mpr ⟨sm73, List.forall_mem_cons.mpr ⟨sm74, List.forall_mem_cons.mpr ⟨sm75, List.forall_mem_cons.mpr ⟨sm76, List.forall_mem_cons.mpr ⟨sm77, List.forall_mem_cons.mpr ⟨sm78, List.forall_mem_cons.mpr ⟨sm79, List.forall_mem_cons.mpr ⟨sm80, List.forall_mem_cons.mpr ⟨sm81, fun _ h => by cases h⟩⟩⟩⟩⟩⟩⟩⟩⟩⟩⟩⟩⟩⟩⟩⟩⟩⟩⟩⟩
def xp4 : List (xM × (Nat → xOp)) := [(M82, cd82), (M83, cd83), (M84, cd84), (M85, cd85), (M86, cd86), (M87, cd87), (M88, cd88), (M89, cd89), (M90, cd90), (M91, cd91), (M92, cd92), (M93, cd93), (M94, cd94), (M95, cd95), (M96, cd96), (M97, cd97), (M98, cd98), (M99, cd99), (M100, cd100), (M101, cd101)]
theorem xs4 : ∀ q ∈ xp4, ∀ pc, Snd xtb q.1 pc (q.2 pc) := List.forall_mem_cons.mpr ⟨sm82, List.forall_mem_cons.mpr ⟨sm83, List.forall_mem_cons.mpr ⟨sm84, List.forall_mem_cons.mpr ⟨sm85, List.forall_mem_cons.mpr ⟨sm86, List.forall_mem_cons.mpr ⟨sm87, List.forall_mem_cons.mpr ⟨sm88, List.forall_mem_cons.mpr ⟨sm89, List.forall_mem_cons.mpr ⟨sm90, List.forall_mem_cons.mpr ⟨sm91, List.forall_mem_cons.mpr ⟨sm92, List.forall_mem_cons.mpr ⟨sm93, List.forall_mem_cons.mpr ⟨sm94, List.forall_mem_cons.mpr ⟨sm95, List.forall_mem_cons.mpr ⟨sm96, List.forall_mem_cons.mpr ⟨sm97, List.forall_mem_cons.mpr ⟨sm98, List.forall_mem_cons.mpr ⟨sm99, List.forall_mem_cons.mpr ⟨sm100, List.forall_mem_cons.mpr ⟨sm101, fun _ h => by cases h⟩⟩⟩⟩⟩⟩⟩⟩⟩⟩⟩⟩⟩⟩⟩⟩⟩⟩⟩⟩
def xp5 : List (xM × (Nat → xOp)) := [(M102, cd102), (M103, cd103), (M104, cd104), (M105, cd105), (M106, cd106), (M107, cd107), (M108, cd108), (M109, cd109), (M110, cd110), (M111, cd111), (M112, cd112), (M113, cd113), (M114, cd114), (M115, cd115), (M116, cd116), (M117, cd117), (M118, cd118), (M119, cd119), (M120, cd120), (M121, cd121)]
theorem xs5 : ∀ q ∈ xp5, ∀ pc, Snd xtb q.1 pc (q.2 pc) := List.forall_mem_cons.mpr ⟨sm102, List.forall_mem_cons.mpr ⟨sm103, List.forall_mem_cons.mpr ⟨sm104, List.forall_mem_cons.mpr ⟨sm105, List.forall_mem_cons.mpr ⟨sm106, List.forall_mem_cons.mpr ⟨sm107, List.forall_mem_cons.mpr ⟨sm108, List.forall_mem_cons.mpr ⟨sm109, List.forall_mem_cons.mpr ⟨sm110, List.forall_mem_cons.mpr ⟨sm111, List.forall_mem_cons.mpr ⟨sm112, List.forall_mem_cons.mpr ⟨sm113, List.forall_mem_cons.mpr ⟨sm114, List.forall_mem_cons.mpr ⟨sm115, List.forall_mem_cons.mpr ⟨sm116, List.forall_mem_cons.mpr ⟨sm117, List.forall_mem_cons.mpr ⟨sm118, List.forall_mem_cons.mpr ⟨sm119, List.forall_mem_cons.mpr ⟨sm120, List.forall_mem_cons.mpr ⟨sm121, fun _ h => by cases h⟩⟩⟩⟩⟩⟩⟩⟩⟩⟩⟩⟩⟩⟩⟩⟩⟩⟩⟩⟩
def xp6 : List (xM × (Nat → xOp)) := [(M122, cd122), (M123, cd123), (M124, cd124), (M125, cd125), (M126, cd126), (M127, cd127), (M128, cd128), (M129, cd129), (M130, cd130), (M131, cd131), (M132, cd132), (M133, cd133), (M134, cd134), (M135, cd135), (M136, cd136), (M137, cd137), (M138, cd138), (M139, cd139), (M140, cd140), (M141, cd141)]
theorem xs6 : ∀ q ∈ xp6, ∀ pc, Snd xtb q.1 pc (q.2 pc) := List.forall_mem_cons.mpr ⟨sm122, List.forall_mem_cons.mpr ⟨sm123, List.forall_mem_cons.mpr ⟨sm124, List.forall_mem_cons.mpr ⟨sm125, List.forall_mem_cons.mpr ⟨sm126, List.forall_mem_cons.mpr ⟨sm127, List.forall_mem_cons.mpr ⟨sm128, List.forall_mem_cons.mpr ⟨sm129, List.forall_mem_cons.mpr ⟨sm130, List.forall_mem_cons.mpr ⟨sm131, List.forall_mem_cons.mpr ⟨sm132, List.forall_mem_cons.mpr ⟨sm133, List.forall_mem_cons.mpr ⟨sm134, List.forall_mem_cons.mpr ⟨sm135, List.forall_mem_cons.mpr ⟨sm136, List.forall_mem_cons.mpr ⟨sm137, List.forall_mem_cons.mpr ⟨sm138, List.forall_mem_cons.mpr ⟨sm139, List.forall_mem_cons.mpr ⟨sm140, List.forall_mem_cons.mpr ⟨sm141, fun _ h => by cases h⟩⟩⟩⟩⟩⟩⟩⟩⟩⟩⟩⟩⟩⟩⟩⟩⟩⟩⟩⟩
def xp7 : List (xM × (Nat → xOp)) := [(M142, cd142), (M143, cd143), (M144, cd144), (M145, cd145), (M146, cd146), (M147, cd147), (M148, cd148), (M149, cd149), (M150, cd150), (M151, cd151), (M152, cd152), (M153, cd153), (M154, cd154), (M155, cd155), (M156, cd156), (M157, cd157), (M158, cd158), (M159, cd159), (M160, cd160), (M161, cd161)]
theorem xs7 : ∀ q ∈ xp7, ∀ pc, Snd xtb q.1 pc (q.2 pc) := List.forall_mem_cons.mpr ⟨sm142, List.forall_mem_cons.mpr ⟨sm143, List.forall_mem_cons.mpr ⟨sm144, List.forall_mem_cons.mpr ⟨sm145, List.forall_mem_cons.mpr ⟨sm146, List.forall_mem_cons.mpr ⟨sm147, List.forall_mem_cons.mpr ⟨sm148, List.forall_mem_cons.mpr ⟨sm149, List.forall_mem_cons.mpr ⟨sm150, List.forall_mem_cons.mpr ⟨sm151, List.forall_mem_cons.mpr ⟨sm152, List.forall_mem_cons.mpr ⟨sm153, List.forall_mem_cons.mpr ⟨sm154, List.forall_mem_cons.mpr ⟨sm155, List.forall_mem_cons.mpr ⟨sm156, List.forall_mem_cons.mpr ⟨sm157, List.forall_mem_cons.mpr ⟨sm158, List.forall_mem_cons.mpr ⟨sm159, List.forall_mem_cons.mpr ⟨sm160, List.forall_mem_cons.mpr ⟨sm161, fun _ h => by cases h⟩⟩⟩⟩⟩⟩⟩⟩⟩⟩⟩⟩⟩⟩⟩⟩⟩⟩⟩⟩
def xp8 : List (xM × (Nat → xOp)) := [(M162, cd162), (M163, cd163), (M164, cd164), (M165, cd165), (M166, cd166), (M167, cd167), (M168, cd168), (M169, cd169), (M170, cd170), (M171, cd171), (M172, cd172), (M173, cd173), (M174, cd174), (M175, cd175), (M176, cd176), (M177, cd177), (M178, cd178), (M179, cd179), (M180, cd180), (M181, cd181)]
theorem xs8 : ∀ q ∈ xp8, ∀ pc, Snd xtb q.1 pc (q.2 pc) := List.forall_mem_cons.mpr ⟨sm162, List.forall_mem_cons.mpr ⟨sm163, List.forall_mem_cons.mpr ⟨sm164, List.forall_mem_cons.mpr ⟨sm165, List.forall_mem_cons.mpr ⟨sm166, List.forall_mem_cons.mpr ⟨sm167, List.forall_mem_cons.mpr ⟨sm168, List.forall_mem_cons.mpr ⟨sm169, List.forall_mem_cons.mpr ⟨sm170, List.forall_mem_cons.mpr ⟨sm171, List.forall_mem_cons.mpr ⟨sm172, List.forall_mem_cons.mpr ⟨sm173, List.forall_mem_cons.mpr ⟨sm174, List.forall_mem_cons.mpr ⟨sm175, List.forall_mem_cons.mpr ⟨sm176, List.forall_mem_cons.mpr ⟨sm177, List.forall_mem_cons.mpr ⟨sm178, List.forall_mem_cons.mpr ⟨sm179, List.forall_mem_cons.mpr ⟨sm180, List.forall_mem_cons.mpr ⟨sm181, fun _ h => by cases h⟩⟩⟩⟩⟩⟩⟩⟩⟩⟩⟩⟩⟩⟩⟩⟩⟩⟩⟩⟩
def xp9 : List (xM × (Nat → xOp)) := [(M182, cd182), (M183, cd183), (M184, cd184), (M185, cd185), (M186, cd186), (M187, cd187), (M188, cd188), (M189, cd189), (M190, cd190), (M191, cd191), (M192, cd192), (M193, cd193), (M194, cd194), (M195, cd195), (M196, cd196), (M197, cd197), (M198, cd198), (M199, cd199), (M200, cd200), (M201, cd201)]
theorem xs9 : ∀ q ∈ xp9, ∀ pc, Snd xtb q.1 pc (q.2 pc) := List.forall_mem_cons.mpr ⟨sm182, List.forall_mem_cons.mpr ⟨sm183, List.forall_mem_cons.mpr ⟨sm184, List.forall_mem_cons.mpr ⟨sm185, List.forall_mem_cons.mpr ⟨sm186, List.forall_mem_cons.mpr ⟨sm187, List.forall_mem_cons.mpr ⟨sm188, List.forall_mem_cons.mpr ⟨sm189, List.forall_mem_cons.mpr ⟨sm190, List.forall_mem_cons.mpr ⟨sm191, List.forall_mem_cons.mpr ⟨sm192, List.forall_mem_cons.mpr ⟨sm193, List.forall_mem_cons.mpr ⟨sm194, List.forall_mem_cons.mpr ⟨sm195, List.forall_mem_cons.mpr ⟨sm196, List.forall_mem_cons.mpr ⟨sm197, List.forall_mem_cons.mpr ⟨sm198, List.forall_mem_cons.mpr ⟨sm199, List.forall_mem_cons.mpr ⟨sm200, List.forall_mem_cons.mpr ⟨sm201, fun _ h => by cases h⟩⟩⟩⟩⟩⟩⟩⟩⟩⟩⟩⟩⟩⟩⟩⟩⟩⟩⟩⟩
def xp10 : List (xM × (Nat → xOp)) := [(M202, cd202), (M203, cd203), (M204, cd204), (M205, cd205), (M206, cd206), (M207, cd207), (M208, cd208), (M209, cd209), (M210, cd210), (M211, cd211), (M212, cd212), (M213, cd213), (M214, cd214), (M215, cd215), (M216, cd216), (M217, cd217), (M218, cd218), (M219, cd219), (M220, cd220), (M221, cd221)]
theorem xs10 : ∀ q ∈ xp10, ∀ pc, Snd xtb q.1 pc (q.2 pc) := List.forall_mem_cons.mpr ⟨sm202, List.forall_mem_cons.mpr ⟨sm203, List.forall_mem_cons.mpr ⟨sm204, List.forall_mem_cons.mpr ⟨sm205, List.forall_mem_cons.mpr ⟨sm206, List.forall_mem_cons.mpr ⟨sm207, List.forall_mem_cons.mpr ⟨sm208, List.forall_mem_cons.mpr ⟨sm209, List.forall_mem_cons.mpr ⟨sm210, List.forall_mem_cons.mpr ⟨sm211, List.forall_mem_cons.mpr ⟨sm212, List.forall_mem_cons.mpr ⟨sm213, List.forall_mem_cons.mpr ⟨sm214, List.forall_mem_cons.mpr ⟨sm215, List.forall_mem_cons.mpr ⟨sm216, List.forall_mem_cons.mpr ⟨sm217, List.forall_mem_cons.mpr ⟨sm218, List.forall_mem_cons.mpr ⟨sm219, List.forall_mem_cons.mpr ⟨sm220, List.forall_mem_cons.mpr ⟨sm221, fun _ h => by cases h⟩⟩⟩⟩⟩⟩⟩⟩⟩⟩⟩⟩⟩⟩⟩⟩⟩⟩⟩⟩
def xp11 : List (xM × (Nat → xOp)) := [(M222, cd222), (M223, cd223), (M224, cd224), (M225, cd225), (M226, cd226), (M227, cd227), (M228, cd228), (M229, cd229), (M230, cd230), (M231, cd231), (M232, cd232), (M233, cd233), (M234, cd234), (M235, cd235), (M236, cd236), (M237, cd237), (M238, cd238), (M239, cd239), (M240, cd240), (M241, cd241)]
theorem xs11 : ∀ q ∈ xp11, ∀ pc, Snd xtb q.1 pc (q.2 pc) := List.forall_mem_cons.mpr ⟨sm222, List.forall_mem_cons.mpr ⟨sm223, List.forall_mem_cons.mpr ⟨sm224, List.forall_mem_cons.mpr ⟨sm225, List.forall_mem_cons.mpr ⟨sm226, List.forall_mem_cons.mpr ⟨sm227, List.forall_mem_cons.mpr ⟨sm228, List.forall_mem_cons.mpr ⟨sm229, List.forall_mem_cons.mpr ⟨sm230, List.forall_mem_cons.mpr ⟨sm231, List.forall_mem_cons.mpr ⟨sm232, List.forall_mem_cons.mpr ⟨sm233, List.forall_mem_cons.mpr ⟨sm234, List.forall_mem_cons.mpr ⟨sm235, List.forall_mem_cons.mpr ⟨sm236, List.forall_mem_cons.mpr ⟨sm237, List.forall_mem_cons.mpr ⟨sm238, List.forall_mem_cons.mpr ⟨sm239, List.forall_mem_cons.mpr ⟨sm240, List.forall_mem_cons.mpr ⟨sm241, fun _ h => by cases h⟩⟩⟩⟩⟩⟩⟩⟩⟩⟩⟩⟩⟩⟩⟩⟩⟩⟩⟩⟩
def xp12 : List (xM × (Nat → xOp)) := [(M242, cd242), (M243, cd243), (M244, cd244), (M245, cd245), (M246, cd246), (M247, cd247), (M248, cd248), (M249, cd249), (M250, cd250), (M251, cd251), (M252, cd252), (M253, cd253), (M254, cd254), (M255, cd255), (M256, cd256), (M257, cd257), (M258, cd258), (M259, cd259), (M260, cd260), (M261, cd261)]
theorem xs12 : ∀ q ∈ xp12, ∀ pc, Snd xtb q.1 pc (q.2 pc) := List.forall_mem_cons.mpr ⟨sm242, List.forall_mem_cons.mpr ⟨sm243, List.forall_mem_cons.mpr ⟨sm244, List.forall_mem_cons.mpr ⟨sm245, List.forall_mem_cons.mpr ⟨sm246, List.forall_mem_cons.mpr ⟨sm247, List.forall_mem_cons.mpr ⟨sm248, List.forall_mem_cons.mpr ⟨sm249, List.forall_mem_cons.mpr ⟨sm250, List.forall_mem_cons.mpr ⟨sm251, List.forall_mem_cons.mpr ⟨sm252, List.forall_mem_cons.mpr ⟨sm253, List.forall_mem_cons.mpr ⟨sm254, List.forall_mem_cons.mpr ⟨sm255, List.forall_mem_cons.mpr ⟨sm256, List.forall_mem_cons.mpr ⟨sm257, List.forall_mem_cons.mpr ⟨sm258, List.forall_mem_cons.mpr ⟨sm259, List.forall_mem_cons.mpr ⟨sm260, List.forall_mem_cons.mpr ⟨sm261, fun _ h => by cases h⟩⟩⟩⟩⟩⟩⟩⟩⟩⟩⟩⟩⟩⟩⟩⟩⟩⟩⟩⟩
def xp13 : List (xM × (Nat → xOp)) := [(M262, cd262), (M263, cd263), (M264, cd264), (M265, cd265), (M266, cd266), (M267, cd267), (M268, cd268), (M269, cd269), (M270, cd270), (M271, cd271), (M272, cd272), (M273, cd273), (M274, cd274), (M275, cd275), (M276, cd276), (M277, cd277), (M278, cd278), (M279, cd279), (M280, cd280), (M281, cd281)]
theorem xs13 : ∀ q ∈ xp13, ∀ pc, Snd xtb q.1 pc (q.2 pc) := List.forall_mem_cons.mpr ⟨sm262, List.forall_mem_cons.mpr ⟨sm263, List.forall_mem_cons.mpr ⟨sm264, List.forall_mem_cons.mpr ⟨sm265, List.forall_mem_cons.mpr ⟨sm266, List.forall_mem_cons.mpr ⟨sm267, List.forall_mem_cons.mpr ⟨sm268, List.forall_mem_cons.mpr ⟨sm269, List.forall_mem_cons.mpr ⟨sm270, List.forall_mem_cons.mpr ⟨sm271, List.forall_mem_cons.mpr ⟨sm272, List.forall_mem_cons.mpr ⟨sm273, List.forall_mem_cons.mpr ⟨sm274, List.forall_mem_cons.mpr ⟨sm275, List.forall_mem_cons.mpr ⟨sm276, List.forall_mem_cons.mpr ⟨sm277, List.forall_mem_cons.mpr ⟨sm278, List.forall_mem_cons.mpr ⟨sm279, List.forall_mem_cons.mpr ⟨sm280, List.forall_mem_cons.mpr ⟨sm281, fun _ h => by cases h⟩⟩⟩⟩⟩⟩⟩⟩⟩⟩⟩⟩⟩⟩⟩⟩⟩⟩⟩⟩
def xp14 : List (xM × (Nat → xOp)) := [(M282, cd282), (M283, cd283), (M284, cd284), (M285, cd285), (M286, cd286), (M287, cd287), (M288, cd288), (M289, cd289), (M290, cd290), (M291, cd291), (M292, cd292), (M293, cd293), (M294, cd294), (M295, cd295), (M296, cd296), (M297, cd297), (M298, cd298), (M299, cd299), (M300, cd300)]
theorem xs14 : ∀ q ∈ xp14, ∀ pc, Snd xtb q.1 pc (q.2 pc) := List.forall_mem_cons.mpr ⟨sm282, List.forall_mem_cons.mpr ⟨sm283, List.forall_mem_cons.mpr ⟨sm284, List.forall_mem_cons.mpr ⟨sm285, List.forall_mem_cons.mpr ⟨sm286, List.forall_mem_cons.mpr ⟨sm287, List.forall_mem_cons.mpr ⟨sm288, List.forall_mem_cons.mpr ⟨sm289, List.forall_mem_cons.mpr ⟨sm290, List.forall_mem_cons.mpr ⟨sm291, List.forall_mem_cons.mpr ⟨sm292, List.forall_mem_cons.mpr ⟨sm293, List.forall_mem_cons.mpr ⟨sm294, List.forall_mem_cons.mpr ⟨sm295, List.forall_mem_cons.mpr ⟨sm296, List.forall_mem_cons.mpr ⟨sm297, List.forall_mem_cons.mpr ⟨sm298, List.forall_mem_cons.mpr ⟨sm299, List.forall_mem_cons.mpr ⟨sm300, fun _ h => by cases h⟩⟩⟩⟩⟩⟩⟩⟩⟩⟩⟩⟩⟩⟩⟩⟩⟩⟩⟩
def xpa : List (xM × (Nat → xOp)) := xp0 ++ xp1 ++ xp2 ++ xp3 ++ xp4 ++ xp5 ++ xp6 ++ xp7 ++ xp8 ++ xp9 ++ xp10 ++ xp11 ++ xp12 ++ xp13 ++ xp14
theorem xsa : ∀ q ∈ xpa, ∀ pc, Snd xtb q.1 pc (q.2 pc) := List.forall_mem_append.mpr ⟨List.forall_mem_append.mpr ⟨List.forall_mem_append.mpr ⟨List.forall_mem_append.mpr ⟨List.forall_mem_append.mpr ⟨List.forall_mem_append.mpr ⟨List.forall_mem_append.mpr ⟨List.forall_mem_append.mpr ⟨List.forall_mem_append.mpr ⟨List.forall_mem_append.mpr ⟨List.forall_mem_append.mpr ⟨List.forall_mem_append.mpr ⟨List.forall_mem_append.mpr ⟨List.forall_mem_append.mpr ⟨xs0, xs1⟩, xs2⟩, xs3⟩, xs4⟩, xs5⟩, xs6⟩, xs7⟩, xs8⟩, xs9⟩, xs10⟩, xs11⟩, xs12⟩, xs13⟩, xs14⟩
set_option maxRecDepth 1000000 in
theorem xpa_t : xtbl = M0 :: M1 :: xpa.map Prod.fst := rfl
set_option maxRecDepth 1000000 in
theorem xpa_c : xcds = cd0 :: cd1 :: xpa.map Prod.snd := rfl
set_option maxRecDepth 1000000 in
theorem xpa_l : xpa.length = 299 := rfl
theorem snd_all (m : Nat) (hm : 2 ≤ m) (hn : m < 301) (pc : Nat) : Snd xtb (xtb m) pc (xcd m pc) := by
  obtain ⟨i, rfl⟩ : ∃ i, m = i + 2 := ⟨m - 2, by omega⟩
  have hi : i < xpa.length := by rw [xpa_l]; omega
  have e1 : xtb (i + 2) = (xpa[i]).1 := by
    unfold xtb
    rw [xpa_t, List.getD_eq_getElem?_getD, List.getElem?_cons_succ, List.getElem?_cons_succ, List.getElem?_map, List.getElem?_eq_getElem hi]
    rfl
  have e2 : xcd (i + 2) pc = (xpa[i]).2 pc := by
    unfold xcd
    rw [xpa_c, List.getD_eq_getElem?_getD, List.getElem?_cons_succ, List.getElem?_cons_succ, List.getElem?_map, List.getElem?_eq_getElem hi]
    rfl
  rw [e1, e2]
  exact xsa _ (List.getElem_mem hi) pc
set_option maxRecDepth 1000000 in
theorem xcd_out (m : Nat) (hm : 301 ≤ m) (pc : Nat) : xcd m pc = oNo := by
  unfold xcd
  rw [List.getD_eq_getElem?_getD, List.getElem?_eq_none (by show 301 ≤ m; exact hm)]
  rfl

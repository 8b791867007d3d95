section
variable {F A : Nat → Nat → Int32}
theorem ob_0 : ab_ob (hp F A) 0 6 = some () := hp_ob (by decide +kernel)
theorem gR_0_0 : ab_gR (hp F A) 0 6 0 = some 1 := hp_gR 1 (by decide +kernel)
theorem gR_0_1 : ab_gR (hp F A) 0 6 1 = some 19 := hp_gR 19 (by decide +kernel)
theorem gR_0_2 : ab_gR (hp F A) 0 6 2 = some 20 := hp_gR 20 (by decide +kernel)
theorem gR_0_3 : ab_gR (hp F A) 0 6 3 = some 21 := hp_gR 21 (by decide +kernel)
theorem gR_0_4 : ab_gR (hp F A) 0 6 4 = some 34 := hp_gR 34 (by decide +kernel)
theorem ob_1 : ab_ob (hp F A) 1 5 = some () := hp_ob (by decide +kernel)
theorem gR_1_0 : ab_gR (hp F A) 1 5 0 = some 2 := hp_gR 2 (by decide +kernel)
theorem gR_1_1 : ab_gR (hp F A) 1 5 1 = some 3 := hp_gR 3 (by decide +kernel)
theorem gI_1_2 : ab_gI (hp F A) 1 5 2 = some (F 1 2) := hp_gI (by decide +kernel)
theorem pI_1_2 {x : Int32} : ab_pV (hp F A) 1 5 2 (.int x) = some (hp (up2 F 1 2 x) A) := hp_pV (by decide +kernel)
theorem gI_1_3 : ab_gI (hp F A) 1 5 3 = some (F 1 3) := hp_gI (by decide +kernel)
theorem pI_1_3 {x : Int32} : ab_pV (hp F A) 1 5 3 (.int x) = some (hp (up2 F 1 3 x) A) := hp_pV (by decide +kernel)
theorem ob_3 : ab_ob (hp F A) 3 3 = some () := hp_ob (by decide +kernel)
theorem gR_3_0 : ab_gR (hp F A) 3 3 0 = some 4 := hp_gR 4 (by decide +kernel)
theorem gR_3_1 : ab_gR (hp F A) 3 3 1 = some 5 := hp_gR 5 (by decide +kernel)
theorem gR_3_2 : ab_gR (hp F A) 3 3 2 = some 6 := hp_gR 6 (by decide +kernel)
theorem gI_3_3 : ab_gI (hp F A) 3 3 3 = some (F 3 3) := hp_gI (by decide +kernel)
theorem pI_3_3 {x : Int32} : ab_pV (hp F A) 3 3 3 (.int x) = some (hp (up2 F 3 3 x) A) := hp_pV (by decide +kernel)
theorem aI_4 {i : Nat} (hi : i < 40) : ab_aI (hp F A) 4 (nI i) = some (A 4 i) := hp_aI 40 (by decide +kernel) hi (by decide)
theorem sI_4 {i : Nat} {x : Int32} (hi : i < 40) : ab_sI (hp F A) 4 (nI i) x = some (hp F (up2 A 4 i x)) := hp_sI 40 (by decide +kernel) hi (by decide)
theorem aI_5 {i : Nat} (hi : i < 40) : ab_aI (hp F A) 5 (nI i) = some (A 5 i) := hp_aI 40 (by decide +kernel) hi (by decide)
theorem sI_5 {i : Nat} {x : Int32} (hi : i < 40) : ab_sI (hp F A) 5 (nI i) x = some (hp F (up2 A 5 i x)) := hp_sI 40 (by decide +kernel) hi (by decide)
theorem aI_6 {i : Nat} (hi : i < 40) : ab_aI (hp F A) 6 (nI i) = some (A 6 i) := hp_aI 40 (by decide +kernel) hi (by decide)
theorem sI_6 {i : Nat} {x : Int32} (hi : i < 40) : ab_sI (hp F A) 6 (nI i) x = some (hp F (up2 A 6 i x)) := hp_sI 40 (by decide +kernel) hi (by decide)
theorem aZ_20 {i : Nat} (hi : i < 2) : ab_aZ (hp F A) 20 (nI i) = some (A 20 i) := hp_aZ 2 (by decide +kernel) hi (by decide)
theorem sZ_20 {i : Nat} {x : Int32} (hi : i < 2) : ab_sZ (hp F A) 20 (nI i) x = some (hp F (up2 A 20 i (vp_nar .boolean x))) := hp_sZ 2 (by decide +kernel) hi (by decide)
theorem ob_21 : ab_ob (hp F A) 21 4 = some () := hp_ob (by decide +kernel)
theorem gR_21_0 : ab_gR (hp F A) 21 4 0 = some 22 := hp_gR 22 (by decide +kernel)
theorem gR_21_1 : ab_gR (hp F A) 21 4 1 = some 23 := hp_gR 23 (by decide +kernel)
theorem gR_21_2 : ab_gR (hp F A) 21 4 2 = some 24 := hp_gR 24 (by decide +kernel)
theorem gR_21_3 : ab_gR (hp F A) 21 4 3 = some 25 := hp_gR 25 (by decide +kernel)
theorem gI_21_4 : ab_gI (hp F A) 21 4 4 = some (F 21 4) := hp_gI (by decide +kernel)
theorem pI_21_4 {x : Int32} : ab_pV (hp F A) 21 4 4 (.int x) = some (hp (up2 F 21 4 x) A) := hp_pV (by decide +kernel)
theorem gI_21_5 : ab_gI (hp F A) 21 4 5 = some (F 21 5) := hp_gI (by decide +kernel)
theorem pI_21_5 {x : Int32} : ab_pV (hp F A) 21 4 5 (.int x) = some (hp (up2 F 21 5 x) A) := hp_pV (by decide +kernel)
theorem gI_21_6 : ab_gI (hp F A) 21 4 6 = some (F 21 6) := hp_gI (by decide +kernel)
theorem pI_21_6 {x : Int32} : ab_pV (hp F A) 21 4 6 (.int x) = some (hp (up2 F 21 6 x) A) := hp_pV (by decide +kernel)
theorem gI_21_7 : ab_gI (hp F A) 21 4 7 = some (F 21 7) := hp_gI (by decide +kernel)
theorem pI_21_7 {x : Int32} : ab_pV (hp F A) 21 4 7 (.int x) = some (hp (up2 F 21 7 x) A) := hp_pV (by decide +kernel)
theorem gI_21_8 : ab_gI (hp F A) 21 4 8 = some (F 21 8) := hp_gI (by decide +kernel)
theorem pI_21_8 {x : Int32} : ab_pV (hp F A) 21 4 8 (.int x) = some (hp (up2 F 21 8 x) A) := hp_pV (by decide +kernel)
theorem aI_23 {i : Nat} (hi : i < 40) : ab_aI (hp F A) 23 (nI i) = some (A 23 i) := hp_aI 40 (by decide +kernel) hi (by decide)
theorem sI_23 {i : Nat} {x : Int32} (hi : i < 40) : ab_sI (hp F A) 23 (nI i) x = some (hp F (up2 A 23 i x)) := hp_sI 40 (by decide +kernel) hi (by decide)
theorem aI_24 {i : Nat} (hi : i < 40) : ab_aI (hp F A) 24 (nI i) = some (A 24 i) := hp_aI 40 (by decide +kernel) hi (by decide)
theorem sI_24 {i : Nat} {x : Int32} (hi : i < 40) : ab_sI (hp F A) 24 (nI i) x = some (hp F (up2 A 24 i x)) := hp_sI 40 (by decide +kernel) hi (by decide)
theorem aI_25 {i : Nat} (hi : i < 8) : ab_aI (hp F A) 25 (nI i) = some (A 25 i) := hp_aI 8 (by decide +kernel) hi (by decide)
theorem sI_25 {i : Nat} {x : Int32} (hi : i < 8) : ab_sI (hp F A) 25 (nI i) x = some (hp F (up2 A 25 i x)) := hp_sI 8 (by decide +kernel) hi (by decide)
theorem ob_34 : ab_ob (hp F A) 34 2 = some () := hp_ob (by decide +kernel)
theorem gR_34_0 : ab_gR (hp F A) 34 2 0 = some 35 := hp_gR 35 (by decide +kernel)
theorem gR_34_1 : ab_gR (hp F A) 34 2 1 = some 36 := hp_gR 36 (by decide +kernel)
theorem gR_34_2 : ab_gR (hp F A) 34 2 2 = some 37 := hp_gR 37 (by decide +kernel)
theorem gR_34_3 : ab_gR (hp F A) 34 2 3 = some 38 := hp_gR 38 (by decide +kernel)
theorem gI_34_4 : ab_gI (hp F A) 34 2 4 = some (F 34 4) := hp_gI (by decide +kernel)
theorem pI_34_4 {x : Int32} : ab_pV (hp F A) 34 2 4 (.int x) = some (hp (up2 F 34 4 x) A) := hp_pV (by decide +kernel)
theorem aI_35 {i : Nat} (hi : i < 40) : ab_aI (hp F A) 35 (nI i) = some (A 35 i) := hp_aI 40 (by decide +kernel) hi (by decide)
theorem sI_35 {i : Nat} {x : Int32} (hi : i < 40) : ab_sI (hp F A) 35 (nI i) x = some (hp F (up2 A 35 i x)) := hp_sI 40 (by decide +kernel) hi (by decide)
theorem aI_36 {i : Nat} (hi : i < 41) : ab_aI (hp F A) 36 (nI i) = some (A 36 i) := hp_aI 41 (by decide +kernel) hi (by decide)
theorem sI_36 {i : Nat} {x : Int32} (hi : i < 41) : ab_sI (hp F A) 36 (nI i) x = some (hp F (up2 A 36 i x)) := hp_sI 41 (by decide +kernel) hi (by decide)
theorem aI_37 {i : Nat} (hi : i < 41) : ab_aI (hp F A) 37 (nI i) = some (A 37 i) := hp_aI 41 (by decide +kernel) hi (by decide)
theorem sI_37 {i : Nat} {x : Int32} (hi : i < 41) : ab_sI (hp F A) 37 (nI i) x = some (hp F (up2 A 37 i x)) := hp_sI 41 (by decide +kernel) hi (by decide)
theorem aI_38 {i : Nat} (hi : i < 41) : ab_aI (hp F A) 38 (nI i) = some (A 38 i) := hp_aI 41 (by decide +kernel) hi (by decide)
theorem sI_38 {i : Nat} {x : Int32} (hi : i < 41) : ab_sI (hp F A) 38 (nI i) x = some (hp F (up2 A 38 i x)) := hp_sI 41 (by decide +kernel) hi (by decide)
theorem ob_39 : ab_ob (hp F A) 39 5 = some () := hp_ob (by decide +kernel)
theorem gR_39_0 : ab_gR (hp F A) 39 5 0 = some 40 := hp_gR 40 (by decide +kernel)
theorem gR_39_1 : ab_gR (hp F A) 39 5 1 = some 41 := hp_gR 41 (by decide +kernel)
theorem gI_39_2 : ab_gI (hp F A) 39 5 2 = some (F 39 2) := hp_gI (by decide +kernel)
theorem pI_39_2 {x : Int32} : ab_pV (hp F A) 39 5 2 (.int x) = some (hp (up2 F 39 2 x) A) := hp_pV (by decide +kernel)
theorem gI_39_3 : ab_gI (hp F A) 39 5 3 = some (F 39 3) := hp_gI (by decide +kernel)
theorem pI_39_3 {x : Int32} : ab_pV (hp F A) 39 5 3 (.int x) = some (hp (up2 F 39 3 x) A) := hp_pV (by decide +kernel)
theorem ob_41 : ab_ob (hp F A) 41 3 = some () := hp_ob (by decide +kernel)
theorem gR_41_0 : ab_gR (hp F A) 41 3 0 = some 42 := hp_gR 42 (by decide +kernel)
theorem gR_41_1 : ab_gR (hp F A) 41 3 1 = some 43 := hp_gR 43 (by decide +kernel)
theorem gR_41_2 : ab_gR (hp F A) 41 3 2 = some 44 := hp_gR 44 (by decide +kernel)
theorem gI_41_3 : ab_gI (hp F A) 41 3 3 = some (F 41 3) := hp_gI (by decide +kernel)
theorem pI_41_3 {x : Int32} : ab_pV (hp F A) 41 3 3 (.int x) = some (hp (up2 F 41 3 x) A) := hp_pV (by decide +kernel)
theorem aI_42 {i : Nat} (hi : i < 40) : ab_aI (hp F A) 42 (nI i) = some (A 42 i) := hp_aI 40 (by decide +kernel) hi (by decide)
theorem sI_42 {i : Nat} {x : Int32} (hi : i < 40) : ab_sI (hp F A) 42 (nI i) x = some (hp F (up2 A 42 i x)) := hp_sI 40 (by decide +kernel) hi (by decide)
theorem aI_43 {i : Nat} (hi : i < 40) : ab_aI (hp F A) 43 (nI i) = some (A 43 i) := hp_aI 40 (by decide +kernel) hi (by decide)
theorem sI_43 {i : Nat} {x : Int32} (hi : i < 40) : ab_sI (hp F A) 43 (nI i) x = some (hp F (up2 A 43 i x)) := hp_sI 40 (by decide +kernel) hi (by decide)
theorem aI_44 {i : Nat} (hi : i < 40) : ab_aI (hp F A) 44 (nI i) = some (A 44 i) := hp_aI 40 (by decide +kernel) hi (by decide)
theorem sI_44 {i : Nat} {x : Int32} (hi : i < 40) : ab_sI (hp F A) 44 (nI i) x = some (hp F (up2 A 44 i x)) := hp_sI 40 (by decide +kernel) hi (by decide)
theorem ob_57 : ab_ob (hp F A) 57 5 = some () := hp_ob (by decide +kernel)
theorem gR_57_0 : ab_gR (hp F A) 57 5 0 = some 58 := hp_gR 58 (by decide +kernel)
theorem gR_57_1 : ab_gR (hp F A) 57 5 1 = some 59 := hp_gR 59 (by decide +kernel)
theorem gI_57_2 : ab_gI (hp F A) 57 5 2 = some (F 57 2) := hp_gI (by decide +kernel)
theorem pI_57_2 {x : Int32} : ab_pV (hp F A) 57 5 2 (.int x) = some (hp (up2 F 57 2 x) A) := hp_pV (by decide +kernel)
theorem gI_57_3 : ab_gI (hp F A) 57 5 3 = some (F 57 3) := hp_gI (by decide +kernel)
theorem pI_57_3 {x : Int32} : ab_pV (hp F A) 57 5 3 (.int x) = some (hp (up2 F 57 3 x) A) := hp_pV (by decide +kernel)
theorem ob_59 : ab_ob (hp F A) 59 3 = some () := hp_ob (by decide +kernel)
theorem gR_59_0 : ab_gR (hp F A) 59 3 0 = some 60 := hp_gR 60 (by decide +kernel)
theorem gR_59_1 : ab_gR (hp F A) 59 3 1 = some 61 := hp_gR 61 (by decide +kernel)
theorem gR_59_2 : ab_gR (hp F A) 59 3 2 = some 62 := hp_gR 62 (by decide +kernel)
theorem gI_59_3 : ab_gI (hp F A) 59 3 3 = some (F 59 3) := hp_gI (by decide +kernel)
theorem pI_59_3 {x : Int32} : ab_pV (hp F A) 59 3 3 (.int x) = some (hp (up2 F 59 3 x) A) := hp_pV (by decide +kernel)
theorem aI_60 {i : Nat} (hi : i < 40) : ab_aI (hp F A) 60 (nI i) = some (A 60 i) := hp_aI 40 (by decide +kernel) hi (by decide)
theorem sI_60 {i : Nat} {x : Int32} (hi : i < 40) : ab_sI (hp F A) 60 (nI i) x = some (hp F (up2 A 60 i x)) := hp_sI 40 (by decide +kernel) hi (by decide)
theorem aI_61 {i : Nat} (hi : i < 40) : ab_aI (hp F A) 61 (nI i) = some (A 61 i) := hp_aI 40 (by decide +kernel) hi (by decide)
theorem sI_61 {i : Nat} {x : Int32} (hi : i < 40) : ab_sI (hp F A) 61 (nI i) x = some (hp F (up2 A 61 i x)) := hp_sI 40 (by decide +kernel) hi (by decide)
theorem aI_62 {i : Nat} (hi : i < 40) : ab_aI (hp F A) 62 (nI i) = some (A 62 i) := hp_aI 40 (by decide +kernel) hi (by decide)
theorem sI_62 {i : Nat} {x : Int32} (hi : i < 40) : ab_sI (hp F A) 62 (nI i) x = some (hp F (up2 A 62 i x)) := hp_sI 40 (by decide +kernel) hi (by decide)
theorem ob_75 : ab_ob (hp F A) 75 7 = some () := hp_ob (by decide +kernel)
theorem gR_75_0 : ab_gR (hp F A) 75 7 0 = some 76 := hp_gR 76 (by decide +kernel)
theorem gR_75_1 : ab_gR (hp F A) 75 7 1 = some 77 := hp_gR 77 (by decide +kernel)
theorem gR_75_2 : ab_gR (hp F A) 75 7 2 = some 78 := hp_gR 78 (by decide +kernel)
theorem gR_75_3 : ab_gR (hp F A) 75 7 3 = some 79 := hp_gR 79 (by decide +kernel)
theorem gR_75_4 : ab_gR (hp F A) 75 7 4 = some 80 := hp_gR 80 (by decide +kernel)
theorem gI_75_5 : ab_gI (hp F A) 75 7 5 = some (F 75 5) := hp_gI (by decide +kernel)
theorem pI_75_5 {x : Int32} : ab_pV (hp F A) 75 7 5 (.int x) = some (hp (up2 F 75 5 x) A) := hp_pV (by decide +kernel)
theorem gR_75_6 : ab_gR (hp F A) 75 7 6 = some 81 := hp_gR 81 (by decide +kernel)
theorem gR_75_7 : ab_gR (hp F A) 75 7 7 = some 82 := hp_gR 82 (by decide +kernel)
theorem gR_75_8 : ab_gR (hp F A) 75 7 8 = some 83 := hp_gR 83 (by decide +kernel)
theorem gI_75_9 : ab_gI (hp F A) 75 7 9 = some (F 75 9) := hp_gI (by decide +kernel)
theorem pI_75_9 {x : Int32} : ab_pV (hp F A) 75 7 9 (.int x) = some (hp (up2 F 75 9 x) A) := hp_pV (by decide +kernel)
theorem gI_75_10 : ab_gI (hp F A) 75 7 10 = some (F 75 10) := hp_gI (by decide +kernel)
theorem pI_75_10 {x : Int32} : ab_pV (hp F A) 75 7 10 (.int x) = some (hp (up2 F 75 10 x) A) := hp_pV (by decide +kernel)
theorem gR_75_11 : ab_gR (hp F A) 75 7 11 = some 84 := hp_gR 84 (by decide +kernel)
theorem gR_75_12 : ab_gR (hp F A) 75 7 12 = some 85 := hp_gR 85 (by decide +kernel)
theorem gR_75_13 : ab_gR (hp F A) 75 7 13 = some 86 := hp_gR 86 (by decide +kernel)
theorem gR_75_14 : ab_gR (hp F A) 75 7 14 = some 87 := hp_gR 87 (by decide +kernel)
theorem gR_75_15 : ab_gR (hp F A) 75 7 15 = some 88 := hp_gR 88 (by decide +kernel)
theorem gR_75_16 : ab_gR (hp F A) 75 7 16 = some 89 := hp_gR 89 (by decide +kernel)
theorem gR_75_17 : ab_gR (hp F A) 75 7 17 = some 90 := hp_gR 90 (by decide +kernel)
theorem gR_75_18 : ab_gR (hp F A) 75 7 18 = some 91 := hp_gR 91 (by decide +kernel)
theorem gR_75_19 : ab_gR (hp F A) 75 7 19 = some 92 := hp_gR 92 (by decide +kernel)
theorem gR_75_20 : ab_gR (hp F A) 75 7 20 = some 93 := hp_gR 93 (by decide +kernel)
theorem gR_75_21 : ab_gR (hp F A) 75 7 21 = some 94 := hp_gR 94 (by decide +kernel)
theorem gI_75_22 : ab_gI (hp F A) 75 7 22 = some (F 75 22) := hp_gI (by decide +kernel)
theorem pI_75_22 {x : Int32} : ab_pV (hp F A) 75 7 22 (.int x) = some (hp (up2 F 75 22 x) A) := hp_pV (by decide +kernel)
theorem gI_75_23 : ab_gI (hp F A) 75 7 23 = some (F 75 23) := hp_gI (by decide +kernel)
theorem pI_75_23 {x : Int32} : ab_pV (hp F A) 75 7 23 (.int x) = some (hp (up2 F 75 23 x) A) := hp_pV (by decide +kernel)
theorem gR_75_24 : ab_gR (hp F A) 75 7 24 = some 95 := hp_gR 95 (by decide +kernel)
theorem gR_75_25 : ab_gR (hp F A) 75 7 25 = some 96 := hp_gR 96 (by decide +kernel)
theorem gR_75_26 : ab_gR (hp F A) 75 7 26 = some 97 := hp_gR 97 (by decide +kernel)
theorem gI_75_27 : ab_gI (hp F A) 75 7 27 = some (F 75 27) := hp_gI (by decide +kernel)
theorem pI_75_27 {x : Int32} : ab_pV (hp F A) 75 7 27 (.int x) = some (hp (up2 F 75 27 x) A) := hp_pV (by decide +kernel)
theorem gR_75_28 : ab_gR (hp F A) 75 7 28 = some 98 := hp_gR 98 (by decide +kernel)
theorem gR_75_29 : ab_gR (hp F A) 75 7 29 = some 99 := hp_gR 99 (by decide +kernel)
theorem gR_75_30 : ab_gR (hp F A) 75 7 30 = some 100 := hp_gR 100 (by decide +kernel)
theorem aI_76 {i : Nat} (hi : i < 4) : ab_aI (hp F A) 76 (nI i) = some (A 76 i) := hp_aI 4 (by decide +kernel) hi (by decide)
theorem sI_76 {i : Nat} {x : Int32} (hi : i < 4) : ab_sI (hp F A) 76 (nI i) x = some (hp F (up2 A 76 i x)) := hp_sI 4 (by decide +kernel) hi (by decide)
theorem aI_77 {i : Nat} (hi : i < 16) : ab_aI (hp F A) 77 (nI i) = some (A 77 i) := hp_aI 16 (by decide +kernel) hi (by decide)
theorem sI_77 {i : Nat} {x : Int32} (hi : i < 16) : ab_sI (hp F A) 77 (nI i) x = some (hp F (up2 A 77 i x)) := hp_sI 16 (by decide +kernel) hi (by decide)
theorem aI_78 {i : Nat} (hi : i < 16) : ab_aI (hp F A) 78 (nI i) = some (A 78 i) := hp_aI 16 (by decide +kernel) hi (by decide)
theorem sI_78 {i : Nat} {x : Int32} (hi : i < 16) : ab_sI (hp F A) 78 (nI i) x = some (hp F (up2 A 78 i x)) := hp_sI 16 (by decide +kernel) hi (by decide)
theorem aI_79 {i : Nat} (hi : i < 4) : ab_aI (hp F A) 79 (nI i) = some (A 79 i) := hp_aI 4 (by decide +kernel) hi (by decide)
theorem sI_79 {i : Nat} {x : Int32} (hi : i < 4) : ab_sI (hp F A) 79 (nI i) x = some (hp F (up2 A 79 i x)) := hp_sI 4 (by decide +kernel) hi (by decide)
theorem aI_80 {i : Nat} (hi : i < 4) : ab_aI (hp F A) 80 (nI i) = some (A 80 i) := hp_aI 4 (by decide +kernel) hi (by decide)
theorem sI_80 {i : Nat} {x : Int32} (hi : i < 4) : ab_sI (hp F A) 80 (nI i) x = some (hp F (up2 A 80 i x)) := hp_sI 4 (by decide +kernel) hi (by decide)
theorem aI_81 {i : Nat} (hi : i < 40) : ab_aI (hp F A) 81 (nI i) = some (A 81 i) := hp_aI 40 (by decide +kernel) hi (by decide)
theorem sI_81 {i : Nat} {x : Int32} (hi : i < 40) : ab_sI (hp F A) 81 (nI i) x = some (hp F (up2 A 81 i x)) := hp_sI 40 (by decide +kernel) hi (by decide)
theorem aI_82 {i : Nat} (hi : i < 40) : ab_aI (hp F A) 82 (nI i) = some (A 82 i) := hp_aI 40 (by decide +kernel) hi (by decide)
theorem sI_82 {i : Nat} {x : Int32} (hi : i < 40) : ab_sI (hp F A) 82 (nI i) x = some (hp F (up2 A 82 i x)) := hp_sI 40 (by decide +kernel) hi (by decide)
theorem aI_83 {i : Nat} (hi : i < 40) : ab_aI (hp F A) 83 (nI i) = some (A 83 i) := hp_aI 40 (by decide +kernel) hi (by decide)
theorem sI_83 {i : Nat} {x : Int32} (hi : i < 40) : ab_sI (hp F A) 83 (nI i) x = some (hp F (up2 A 83 i x)) := hp_sI 40 (by decide +kernel) hi (by decide)
theorem aI_84 {i : Nat} (hi : i < 4) : ab_aI (hp F A) 84 (nI i) = some (A 84 i) := hp_aI 4 (by decide +kernel) hi (by decide)
theorem sI_84 {i : Nat} {x : Int32} (hi : i < 4) : ab_sI (hp F A) 84 (nI i) x = some (hp F (up2 A 84 i x)) := hp_sI 4 (by decide +kernel) hi (by decide)
theorem aI_85 {i : Nat} (hi : i < 4) : ab_aI (hp F A) 85 (nI i) = some (A 85 i) := hp_aI 4 (by decide +kernel) hi (by decide)
theorem sI_85 {i : Nat} {x : Int32} (hi : i < 4) : ab_sI (hp F A) 85 (nI i) x = some (hp F (up2 A 85 i x)) := hp_sI 4 (by decide +kernel) hi (by decide)
theorem aI_86 {i : Nat} (hi : i < 4) : ab_aI (hp F A) 86 (nI i) = some (A 86 i) := hp_aI 4 (by decide +kernel) hi (by decide)
theorem sI_86 {i : Nat} {x : Int32} (hi : i < 4) : ab_sI (hp F A) 86 (nI i) x = some (hp F (up2 A 86 i x)) := hp_sI 4 (by decide +kernel) hi (by decide)
theorem aI_87 {i : Nat} (hi : i < 4) : ab_aI (hp F A) 87 (nI i) = some (A 87 i) := hp_aI 4 (by decide +kernel) hi (by decide)
theorem sI_87 {i : Nat} {x : Int32} (hi : i < 4) : ab_sI (hp F A) 87 (nI i) x = some (hp F (up2 A 87 i x)) := hp_sI 4 (by decide +kernel) hi (by decide)
theorem aI_88 {i : Nat} (hi : i < 4) : ab_aI (hp F A) 88 (nI i) = some (A 88 i) := hp_aI 4 (by decide +kernel) hi (by decide)
theorem sI_88 {i : Nat} {x : Int32} (hi : i < 4) : ab_sI (hp F A) 88 (nI i) x = some (hp F (up2 A 88 i x)) := hp_sI 4 (by decide +kernel) hi (by decide)
theorem aI_89 {i : Nat} (hi : i < 4) : ab_aI (hp F A) 89 (nI i) = some (A 89 i) := hp_aI 4 (by decide +kernel) hi (by decide)
theorem sI_89 {i : Nat} {x : Int32} (hi : i < 4) : ab_sI (hp F A) 89 (nI i) x = some (hp F (up2 A 89 i x)) := hp_sI 4 (by decide +kernel) hi (by decide)
theorem aI_90 {i : Nat} (hi : i < 4) : ab_aI (hp F A) 90 (nI i) = some (A 90 i) := hp_aI 4 (by decide +kernel) hi (by decide)
theorem sI_90 {i : Nat} {x : Int32} (hi : i < 4) : ab_sI (hp F A) 90 (nI i) x = some (hp F (up2 A 90 i x)) := hp_sI 4 (by decide +kernel) hi (by decide)
theorem aI_91 {i : Nat} (hi : i < 4) : ab_aI (hp F A) 91 (nI i) = some (A 91 i) := hp_aI 4 (by decide +kernel) hi (by decide)
theorem sI_91 {i : Nat} {x : Int32} (hi : i < 4) : ab_sI (hp F A) 91 (nI i) x = some (hp F (up2 A 91 i x)) := hp_sI 4 (by decide +kernel) hi (by decide)
theorem aI_92 {i : Nat} (hi : i < 160) : ab_aI (hp F A) 92 (nI i) = some (A 92 i) := hp_aI 160 (by decide +kernel) hi (by decide)
theorem sI_92 {i : Nat} {x : Int32} (hi : i < 160) : ab_sI (hp F A) 92 (nI i) x = some (hp F (up2 A 92 i x)) := hp_sI 160 (by decide +kernel) hi (by decide)
theorem aI_93 {i : Nat} (hi : i < 40) : ab_aI (hp F A) 93 (nI i) = some (A 93 i) := hp_aI 40 (by decide +kernel) hi (by decide)
theorem sI_93 {i : Nat} {x : Int32} (hi : i < 40) : ab_sI (hp F A) 93 (nI i) x = some (hp F (up2 A 93 i x)) := hp_sI 40 (by decide +kernel) hi (by decide)
theorem aI_94 {i : Nat} (hi : i < 8) : ab_aI (hp F A) 94 (nI i) = some (A 94 i) := hp_aI 8 (by decide +kernel) hi (by decide)
theorem sI_94 {i : Nat} {x : Int32} (hi : i < 8) : ab_sI (hp F A) 94 (nI i) x = some (hp F (up2 A 94 i x)) := hp_sI 8 (by decide +kernel) hi (by decide)
theorem aI_95 {i : Nat} (hi : i < 12) : ab_aI (hp F A) 95 (nI i) = some (A 95 i) := hp_aI 12 (by decide +kernel) hi (by decide)
theorem sI_95 {i : Nat} {x : Int32} (hi : i < 12) : ab_sI (hp F A) 95 (nI i) x = some (hp F (up2 A 95 i x)) := hp_sI 12 (by decide +kernel) hi (by decide)
theorem aI_96 {i : Nat} (hi : i < 41) : ab_aI (hp F A) 96 (nI i) = some (A 96 i) := hp_aI 41 (by decide +kernel) hi (by decide)
theorem sI_96 {i : Nat} {x : Int32} (hi : i < 41) : ab_sI (hp F A) 96 (nI i) x = some (hp F (up2 A 96 i x)) := hp_sI 41 (by decide +kernel) hi (by decide)
theorem aI_97 {i : Nat} (hi : i < 41) : ab_aI (hp F A) 97 (nI i) = some (A 97 i) := hp_aI 41 (by decide +kernel) hi (by decide)
theorem sI_97 {i : Nat} {x : Int32} (hi : i < 41) : ab_sI (hp F A) 97 (nI i) x = some (hp F (up2 A 97 i x)) := hp_sI 41 (by decide +kernel) hi (by decide)
theorem aZ_98 {i : Nat} (hi : i < 41) : ab_aZ (hp F A) 98 (nI i) = some (A 98 i) := hp_aZ 41 (by decide +kernel) hi (by decide)
theorem sZ_98 {i : Nat} {x : Int32} (hi : i < 41) : ab_sZ (hp F A) 98 (nI i) x = some (hp F (up2 A 98 i (vp_nar .boolean x))) := hp_sZ 41 (by decide +kernel) hi (by decide)
theorem aI_99 {i : Nat} (hi : i < 334) : ab_aI (hp F A) 99 (nI i) = some (A 99 i) := hp_aI 334 (by decide +kernel) hi (by decide)
theorem sI_99 {i : Nat} {x : Int32} (hi : i < 334) : ab_sI (hp F A) 99 (nI i) x = some (hp F (up2 A 99 i x)) := hp_sI 334 (by decide +kernel) hi (by decide)
theorem aZ_100 {i : Nat} (hi : i < 2) : ab_aZ (hp F A) 100 (nI i) = some (A 100 i) := hp_aZ 2 (by decide +kernel) hi (by decide)
theorem sZ_100 {i : Nat} {x : Int32} (hi : i < 2) : ab_sZ (hp F A) 100 (nI i) x = some (hp F (up2 A 100 i (vp_nar .boolean x))) := hp_sZ 2 (by decide +kernel) hi (by decide)
theorem dob {d : Nat} (hd : d < 4) : ab_ob (hp F A) (7 + 3 * d) 1 = some () := by
  have h4 : d = 0 ∨ d = 1 ∨ d = 2 ∨ d = 3 := by omega
  rcases h4 with rfl | rfl | rfl | rfl
  · exact hp_ob (by decide +kernel)
  · exact hp_ob (by decide +kernel)
  · exact hp_ob (by decide +kernel)
  · exact hp_ob (by decide +kernel)

theorem dgR0 {d : Nat} (hd : d < 4) : ab_gR (hp F A) (7 + 3 * d) 1 0 = some (8 + 3 * d) := by
  have h4 : d = 0 ∨ d = 1 ∨ d = 2 ∨ d = 3 := by omega
  rcases h4 with rfl | rfl | rfl | rfl
  · exact hp_gR _ (by decide +kernel)
  · exact hp_gR _ (by decide +kernel)
  · exact hp_gR _ (by decide +kernel)
  · exact hp_gR _ (by decide +kernel)

theorem dgR1 {d : Nat} (hd : d < 4) : ab_gR (hp F A) (7 + 3 * d) 1 1 = some (9 + 3 * d) := by
  have h4 : d = 0 ∨ d = 1 ∨ d = 2 ∨ d = 3 := by omega
  rcases h4 with rfl | rfl | rfl | rfl
  · exact hp_gR _ (by decide +kernel)
  · exact hp_gR _ (by decide +kernel)
  · exact hp_gR _ (by decide +kernel)
  · exact hp_gR _ (by decide +kernel)

theorem dgI2 {d : Nat} (hd : d < 4) : ab_gI (hp F A) (7 + 3 * d) 1 2 = some (F (7 + 3 * d) 2) := by
  have h4 : d = 0 ∨ d = 1 ∨ d = 2 ∨ d = 3 := by omega
  rcases h4 with rfl | rfl | rfl | rfl
  · exact hp_gI (by decide +kernel)
  · exact hp_gI (by decide +kernel)
  · exact hp_gI (by decide +kernel)
  · exact hp_gI (by decide +kernel)

theorem dpI2 {d : Nat} {x : Int32} (hd : d < 4) : ab_pV (hp F A) (7 + 3 * d) 1 2 (.int x) = some (hp (up2 F (7 + 3 * d) 2 x) A) := by
  have h4 : d = 0 ∨ d = 1 ∨ d = 2 ∨ d = 3 := by omega
  rcases h4 with rfl | rfl | rfl | rfl
  · exact hp_pV (by decide +kernel)
  · exact hp_pV (by decide +kernel)
  · exact hp_pV (by decide +kernel)
  · exact hp_pV (by decide +kernel)

theorem dgI3 {d : Nat} (hd : d < 4) : ab_gI (hp F A) (7 + 3 * d) 1 3 = some (F (7 + 3 * d) 3) := by
  have h4 : d = 0 ∨ d = 1 ∨ d = 2 ∨ d = 3 := by omega
  rcases h4 with rfl | rfl | rfl | rfl
  · exact hp_gI (by decide +kernel)
  · exact hp_gI (by decide +kernel)
  · exact hp_gI (by decide +kernel)
  · exact hp_gI (by decide +kernel)

theorem dpI3 {d : Nat} {x : Int32} (hd : d < 4) : ab_pV (hp F A) (7 + 3 * d) 1 3 (.int x) = some (hp (up2 F (7 + 3 * d) 3 x) A) := by
  have h4 : d = 0 ∨ d = 1 ∨ d = 2 ∨ d = 3 := by omega
  rcases h4 with rfl | rfl | rfl | rfl
  · exact hp_pV (by decide +kernel)
  · exact hp_pV (by decide +kernel)
  · exact hp_pV (by decide +kernel)
  · exact hp_pV (by decide +kernel)

theorem dgI4 {d : Nat} (hd : d < 4) : ab_gI (hp F A) (7 + 3 * d) 1 4 = some (F (7 + 3 * d) 4) := by
  have h4 : d = 0 ∨ d = 1 ∨ d = 2 ∨ d = 3 := by omega
  rcases h4 with rfl | rfl | rfl | rfl
  · exact hp_gI (by decide +kernel)
  · exact hp_gI (by decide +kernel)
  · exact hp_gI (by decide +kernel)
  · exact hp_gI (by decide +kernel)

theorem dpI4 {d : Nat} {x : Int32} (hd : d < 4) : ab_pV (hp F A) (7 + 3 * d) 1 4 (.int x) = some (hp (up2 F (7 + 3 * d) 4 x) A) := by
  have h4 : d = 0 ∨ d = 1 ∨ d = 2 ∨ d = 3 := by omega
  rcases h4 with rfl | rfl | rfl | rfl
  · exact hp_pV (by decide +kernel)
  · exact hp_pV (by decide +kernel)
  · exact hp_pV (by decide +kernel)
  · exact hp_pV (by decide +kernel)

theorem dokP {d : Nat} (hd : d < 4) : ok_A (8 + 3 * d) 0 4 = true := by
  have h4 : d = 0 ∨ d = 1 ∨ d = 2 ∨ d = 3 := by omega
  rcases h4 with rfl | rfl | rfl | rfl
  · exact (by decide +kernel)
  · exact (by decide +kernel)
  · exact (by decide +kernel)
  · exact (by decide +kernel)

theorem daP {d i : Nat} (hd : d < 4) (hi : i < 4) : ab_aI (hp F A) (8 + 3 * d) (nI i) = some (A (8 + 3 * d) i) := hp_aI 4 (dokP hd) hi (by decide)
theorem dsP {d i : Nat} {x : Int32} (hd : d < 4) (hi : i < 4) : ab_sI (hp F A) (8 + 3 * d) (nI i) x = some (hp F (up2 A (8 + 3 * d) i x)) := hp_sI 4 (dokP hd) hi (by decide)
theorem dokW {d : Nat} (hd : d < 4) : ok_A (9 + 3 * d) 0 4 = true := by
  have h4 : d = 0 ∨ d = 1 ∨ d = 2 ∨ d = 3 := by omega
  rcases h4 with rfl | rfl | rfl | rfl
  · exact (by decide +kernel)
  · exact (by decide +kernel)
  · exact (by decide +kernel)
  · exact (by decide +kernel)

theorem daW {d i : Nat} (hd : d < 4) (hi : i < 4) : ab_aI (hp F A) (9 + 3 * d) (nI i) = some (A (9 + 3 * d) i) := hp_aI 4 (dokW hd) hi (by decide)
theorem dsW {d i : Nat} {x : Int32} (hd : d < 4) (hi : i < 4) : ab_sI (hp F A) (9 + 3 * d) (nI i) x = some (hp F (up2 A (9 + 3 * d) i x)) := hp_sI 4 (dokW hd) hi (by decide)
theorem da0 {d : Nat} (hd : d < 4) : ab_aI (hp F A) (8 + 3 * d) 0 = some (A (8 + 3 * d) 0) := daP (i := 0) hd (by decide)
theorem ds0 {d : Nat} {x : Int32} (hd : d < 4) : ab_sI (hp F A) (8 + 3 * d) 0 x = some (hp F (up2 A (8 + 3 * d) 0 x)) := dsP (i := 0) hd (by decide)
theorem daR {d : Nat} (hd : d < 4) : ab_aR (hp F A) 2 (nI d) = some (7 + 3 * d) := by
  rw [hp_aR 3 4 rfl ⟨by decide, by decide⟩ hd (by decide)]
  have h4 : d = 0 ∨ d = 1 ∨ d = 2 ∨ d = 3 := by omega
  rcases h4 with rfl | rfl | rfl | rfl
  · exact rfl
  · exact rfl
  · exact rfl
  · exact rfl

theorem eob {d : Nat} (hd : d < 4) : ab_ob (hp F A) (45 + 3 * d) 1 = some () := by
  have h4 : d = 0 ∨ d = 1 ∨ d = 2 ∨ d = 3 := by omega
  rcases h4 with rfl | rfl | rfl | rfl
  · exact hp_ob (by decide +kernel)
  · exact hp_ob (by decide +kernel)
  · exact hp_ob (by decide +kernel)
  · exact hp_ob (by decide +kernel)

theorem egR0 {d : Nat} (hd : d < 4) : ab_gR (hp F A) (45 + 3 * d) 1 0 = some (46 + 3 * d) := by
  have h4 : d = 0 ∨ d = 1 ∨ d = 2 ∨ d = 3 := by omega
  rcases h4 with rfl | rfl | rfl | rfl
  · exact hp_gR _ (by decide +kernel)
  · exact hp_gR _ (by decide +kernel)
  · exact hp_gR _ (by decide +kernel)
  · exact hp_gR _ (by decide +kernel)

theorem egR1 {d : Nat} (hd : d < 4) : ab_gR (hp F A) (45 + 3 * d) 1 1 = some (47 + 3 * d) := by
  have h4 : d = 0 ∨ d = 1 ∨ d = 2 ∨ d = 3 := by omega
  rcases h4 with rfl | rfl | rfl | rfl
  · exact hp_gR _ (by decide +kernel)
  · exact hp_gR _ (by decide +kernel)
  · exact hp_gR _ (by decide +kernel)
  · exact hp_gR _ (by decide +kernel)

theorem egI2 {d : Nat} (hd : d < 4) : ab_gI (hp F A) (45 + 3 * d) 1 2 = some (F (45 + 3 * d) 2) := by
  have h4 : d = 0 ∨ d = 1 ∨ d = 2 ∨ d = 3 := by omega
  rcases h4 with rfl | rfl | rfl | rfl
  · exact hp_gI (by decide +kernel)
  · exact hp_gI (by decide +kernel)
  · exact hp_gI (by decide +kernel)
  · exact hp_gI (by decide +kernel)

theorem epI2 {d : Nat} {x : Int32} (hd : d < 4) : ab_pV (hp F A) (45 + 3 * d) 1 2 (.int x) = some (hp (up2 F (45 + 3 * d) 2 x) A) := by
  have h4 : d = 0 ∨ d = 1 ∨ d = 2 ∨ d = 3 := by omega
  rcases h4 with rfl | rfl | rfl | rfl
  · exact hp_pV (by decide +kernel)
  · exact hp_pV (by decide +kernel)
  · exact hp_pV (by decide +kernel)
  · exact hp_pV (by decide +kernel)

theorem egI3 {d : Nat} (hd : d < 4) : ab_gI (hp F A) (45 + 3 * d) 1 3 = some (F (45 + 3 * d) 3) := by
  have h4 : d = 0 ∨ d = 1 ∨ d = 2 ∨ d = 3 := by omega
  rcases h4 with rfl | rfl | rfl | rfl
  · exact hp_gI (by decide +kernel)
  · exact hp_gI (by decide +kernel)
  · exact hp_gI (by decide +kernel)
  · exact hp_gI (by decide +kernel)

theorem epI3 {d : Nat} {x : Int32} (hd : d < 4) : ab_pV (hp F A) (45 + 3 * d) 1 3 (.int x) = some (hp (up2 F (45 + 3 * d) 3 x) A) := by
  have h4 : d = 0 ∨ d = 1 ∨ d = 2 ∨ d = 3 := by omega
  rcases h4 with rfl | rfl | rfl | rfl
  · exact hp_pV (by decide +kernel)
  · exact hp_pV (by decide +kernel)
  · exact hp_pV (by decide +kernel)
  · exact hp_pV (by decide +kernel)

theorem egI4 {d : Nat} (hd : d < 4) : ab_gI (hp F A) (45 + 3 * d) 1 4 = some (F (45 + 3 * d) 4) := by
  have h4 : d = 0 ∨ d = 1 ∨ d = 2 ∨ d = 3 := by omega
  rcases h4 with rfl | rfl | rfl | rfl
  · exact hp_gI (by decide +kernel)
  · exact hp_gI (by decide +kernel)
  · exact hp_gI (by decide +kernel)
  · exact hp_gI (by decide +kernel)

theorem epI4 {d : Nat} {x : Int32} (hd : d < 4) : ab_pV (hp F A) (45 + 3 * d) 1 4 (.int x) = some (hp (up2 F (45 + 3 * d) 4 x) A) := by
  have h4 : d = 0 ∨ d = 1 ∨ d = 2 ∨ d = 3 := by omega
  rcases h4 with rfl | rfl | rfl | rfl
  · exact hp_pV (by decide +kernel)
  · exact hp_pV (by decide +kernel)
  · exact hp_pV (by decide +kernel)
  · exact hp_pV (by decide +kernel)

theorem eokP {d : Nat} (hd : d < 4) : ok_A (46 + 3 * d) 0 4 = true := by
  have h4 : d = 0 ∨ d = 1 ∨ d = 2 ∨ d = 3 := by omega
  rcases h4 with rfl | rfl | rfl | rfl
  · exact (by decide +kernel)
  · exact (by decide +kernel)
  · exact (by decide +kernel)
  · exact (by decide +kernel)

theorem eaP {d i : Nat} (hd : d < 4) (hi : i < 4) : ab_aI (hp F A) (46 + 3 * d) (nI i) = some (A (46 + 3 * d) i) := hp_aI 4 (eokP hd) hi (by decide)
theorem esP {d i : Nat} {x : Int32} (hd : d < 4) (hi : i < 4) : ab_sI (hp F A) (46 + 3 * d) (nI i) x = some (hp F (up2 A (46 + 3 * d) i x)) := hp_sI 4 (eokP hd) hi (by decide)
theorem eokW {d : Nat} (hd : d < 4) : ok_A (47 + 3 * d) 0 4 = true := by
  have h4 : d = 0 ∨ d = 1 ∨ d = 2 ∨ d = 3 := by omega
  rcases h4 with rfl | rfl | rfl | rfl
  · exact (by decide +kernel)
  · exact (by decide +kernel)
  · exact (by decide +kernel)
  · exact (by decide +kernel)

theorem eaW {d i : Nat} (hd : d < 4) (hi : i < 4) : ab_aI (hp F A) (47 + 3 * d) (nI i) = some (A (47 + 3 * d) i) := hp_aI 4 (eokW hd) hi (by decide)
theorem esW {d i : Nat} {x : Int32} (hd : d < 4) (hi : i < 4) : ab_sI (hp F A) (47 + 3 * d) (nI i) x = some (hp F (up2 A (47 + 3 * d) i x)) := hp_sI 4 (eokW hd) hi (by decide)
theorem ea0 {d : Nat} (hd : d < 4) : ab_aI (hp F A) (46 + 3 * d) 0 = some (A (46 + 3 * d) 0) := eaP (i := 0) hd (by decide)
theorem es0 {d : Nat} {x : Int32} (hd : d < 4) : ab_sI (hp F A) (46 + 3 * d) 0 x = some (hp F (up2 A (46 + 3 * d) 0 x)) := esP (i := 0) hd (by decide)
theorem eaR {d : Nat} (hd : d < 4) : ab_aR (hp F A) 40 (nI d) = some (45 + 3 * d) := by
  rw [hp_aR 3 4 rfl ⟨by decide, by decide⟩ hd (by decide)]
  have h4 : d = 0 ∨ d = 1 ∨ d = 2 ∨ d = 3 := by omega
  rcases h4 with rfl | rfl | rfl | rfl
  · exact rfl
  · exact rfl
  · exact rfl
  · exact rfl

theorem fob {d : Nat} (hd : d < 4) : ab_ob (hp F A) (63 + 3 * d) 1 = some () := by
  have h4 : d = 0 ∨ d = 1 ∨ d = 2 ∨ d = 3 := by omega
  rcases h4 with rfl | rfl | rfl | rfl
  · exact hp_ob (by decide +kernel)
  · exact hp_ob (by decide +kernel)
  · exact hp_ob (by decide +kernel)
  · exact hp_ob (by decide +kernel)

theorem fgR0 {d : Nat} (hd : d < 4) : ab_gR (hp F A) (63 + 3 * d) 1 0 = some (64 + 3 * d) := by
  have h4 : d = 0 ∨ d = 1 ∨ d = 2 ∨ d = 3 := by omega
  rcases h4 with rfl | rfl | rfl | rfl
  · exact hp_gR _ (by decide +kernel)
  · exact hp_gR _ (by decide +kernel)
  · exact hp_gR _ (by decide +kernel)
  · exact hp_gR _ (by decide +kernel)

theorem fgR1 {d : Nat} (hd : d < 4) : ab_gR (hp F A) (63 + 3 * d) 1 1 = some (65 + 3 * d) := by
  have h4 : d = 0 ∨ d = 1 ∨ d = 2 ∨ d = 3 := by omega
  rcases h4 with rfl | rfl | rfl | rfl
  · exact hp_gR _ (by decide +kernel)
  · exact hp_gR _ (by decide +kernel)
  · exact hp_gR _ (by decide +kernel)
  · exact hp_gR _ (by decide +kernel)

theorem fgI2 {d : Nat} (hd : d < 4) : ab_gI (hp F A) (63 + 3 * d) 1 2 = some (F (63 + 3 * d) 2) := by
  have h4 : d = 0 ∨ d = 1 ∨ d = 2 ∨ d = 3 := by omega
  rcases h4 with rfl | rfl | rfl | rfl
  · exact hp_gI (by decide +kernel)
  · exact hp_gI (by decide +kernel)
  · exact hp_gI (by decide +kernel)
  · exact hp_gI (by decide +kernel)

theorem fpI2 {d : Nat} {x : Int32} (hd : d < 4) : ab_pV (hp F A) (63 + 3 * d) 1 2 (.int x) = some (hp (up2 F (63 + 3 * d) 2 x) A) := by
  have h4 : d = 0 ∨ d = 1 ∨ d = 2 ∨ d = 3 := by omega
  rcases h4 with rfl | rfl | rfl | rfl
  · exact hp_pV (by decide +kernel)
  · exact hp_pV (by decide +kernel)
  · exact hp_pV (by decide +kernel)
  · exact hp_pV (by decide +kernel)

theorem fgI3 {d : Nat} (hd : d < 4) : ab_gI (hp F A) (63 + 3 * d) 1 3 = some (F (63 + 3 * d) 3) := by
  have h4 : d = 0 ∨ d = 1 ∨ d = 2 ∨ d = 3 := by omega
  rcases h4 with rfl | rfl | rfl | rfl
  · exact hp_gI (by decide +kernel)
  · exact hp_gI (by decide +kernel)
  · exact hp_gI (by decide +kernel)
  · exact hp_gI (by decide +kernel)

theorem fpI3 {d : Nat} {x : Int32} (hd : d < 4) : ab_pV (hp F A) (63 + 3 * d) 1 3 (.int x) = some (hp (up2 F (63 + 3 * d) 3 x) A) := by
  have h4 : d = 0 ∨ d = 1 ∨ d = 2 ∨ d = 3 := by omega
  rcases h4 with rfl | rfl | rfl | rfl
  · exact hp_pV (by decide +kernel)
  · exact hp_pV (by decide +kernel)
  · exact hp_pV (by decide +kernel)
  · exact hp_pV (by decide +kernel)

theorem fgI4 {d : Nat} (hd : d < 4) : ab_gI (hp F A) (63 + 3 * d) 1 4 = some (F (63 + 3 * d) 4) := by
  have h4 : d = 0 ∨ d = 1 ∨ d = 2 ∨ d = 3 := by omega
  rcases h4 with rfl | rfl | rfl | rfl
  · exact hp_gI (by decide +kernel)
  · exact hp_gI (by decide +kernel)
  · exact hp_gI (by decide +kernel)
  · exact hp_gI (by decide +kernel)

theorem fpI4 {d : Nat} {x : Int32} (hd : d < 4) : ab_pV (hp F A) (63 + 3 * d) 1 4 (.int x) = some (hp (up2 F (63 + 3 * d) 4 x) A) := by
  have h4 : d = 0 ∨ d = 1 ∨ d = 2 ∨ d = 3 := by omega
  rcases h4 with rfl | rfl | rfl | rfl
  · exact hp_pV (by decide +kernel)
  · exact hp_pV (by decide +kernel)
  · exact hp_pV (by decide +kernel)
  · exact hp_pV (by decide +kernel)

theorem fokP {d : Nat} (hd : d < 4) : ok_A (64 + 3 * d) 0 4 = true := by
  have h4 : d = 0 ∨ d = 1 ∨ d = 2 ∨ d = 3 := by omega
  rcases h4 with rfl | rfl | rfl | rfl
  · exact (by decide +kernel)
  · exact (by decide +kernel)
  · exact (by decide +kernel)
  · exact (by decide +kernel)

theorem faP {d i : Nat} (hd : d < 4) (hi : i < 4) : ab_aI (hp F A) (64 + 3 * d) (nI i) = some (A (64 + 3 * d) i) := hp_aI 4 (fokP hd) hi (by decide)
theorem fsP {d i : Nat} {x : Int32} (hd : d < 4) (hi : i < 4) : ab_sI (hp F A) (64 + 3 * d) (nI i) x = some (hp F (up2 A (64 + 3 * d) i x)) := hp_sI 4 (fokP hd) hi (by decide)
theorem fokW {d : Nat} (hd : d < 4) : ok_A (65 + 3 * d) 0 4 = true := by
  have h4 : d = 0 ∨ d = 1 ∨ d = 2 ∨ d = 3 := by omega
  rcases h4 with rfl | rfl | rfl | rfl
  · exact (by decide +kernel)
  · exact (by decide +kernel)
  · exact (by decide +kernel)
  · exact (by decide +kernel)

theorem faW {d i : Nat} (hd : d < 4) (hi : i < 4) : ab_aI (hp F A) (65 + 3 * d) (nI i) = some (A (65 + 3 * d) i) := hp_aI 4 (fokW hd) hi (by decide)
theorem fsW {d i : Nat} {x : Int32} (hd : d < 4) (hi : i < 4) : ab_sI (hp F A) (65 + 3 * d) (nI i) x = some (hp F (up2 A (65 + 3 * d) i x)) := hp_sI 4 (fokW hd) hi (by decide)
theorem fa0 {d : Nat} (hd : d < 4) : ab_aI (hp F A) (64 + 3 * d) 0 = some (A (64 + 3 * d) 0) := faP (i := 0) hd (by decide)
theorem fs0 {d : Nat} {x : Int32} (hd : d < 4) : ab_sI (hp F A) (64 + 3 * d) 0 x = some (hp F (up2 A (64 + 3 * d) 0 x)) := fsP (i := 0) hd (by decide)
theorem faR {d : Nat} (hd : d < 4) : ab_aR (hp F A) 58 (nI d) = some (63 + 3 * d) := by
  rw [hp_aR 3 4 rfl ⟨by decide, by decide⟩ hd (by decide)]
  have h4 : d = 0 ∨ d = 1 ∨ d = 2 ∨ d = 3 := by omega
  rcases h4 with rfl | rfl | rfl | rfl
  · exact rfl
  · exact rfl
  · exact rfl
  · exact rfl

theorem cob {d : Nat} (hd : d < 4) : ab_ob (hp F A) (26 + 2 * d) 0 = some () := by
  have h4 : d = 0 ∨ d = 1 ∨ d = 2 ∨ d = 3 := by omega
  rcases h4 with rfl | rfl | rfl | rfl
  · exact hp_ob (by decide +kernel)
  · exact hp_ob (by decide +kernel)
  · exact hp_ob (by decide +kernel)
  · exact hp_ob (by decide +kernel)

theorem cgI0 {d : Nat} (hd : d < 4) : ab_gI (hp F A) (26 + 2 * d) 0 0 = some (F (26 + 2 * d) 0) := by
  have h4 : d = 0 ∨ d = 1 ∨ d = 2 ∨ d = 3 := by omega
  rcases h4 with rfl | rfl | rfl | rfl
  · exact hp_gI (by decide +kernel)
  · exact hp_gI (by decide +kernel)
  · exact hp_gI (by decide +kernel)
  · exact hp_gI (by decide +kernel)

theorem cpI0 {d : Nat} {x : Int32} (hd : d < 4) : ab_pV (hp F A) (26 + 2 * d) 0 0 (.int x) = some (hp (up2 F (26 + 2 * d) 0 x) A) := by
  have h4 : d = 0 ∨ d = 1 ∨ d = 2 ∨ d = 3 := by omega
  rcases h4 with rfl | rfl | rfl | rfl
  · exact hp_pV (by decide +kernel)
  · exact hp_pV (by decide +kernel)
  · exact hp_pV (by decide +kernel)
  · exact hp_pV (by decide +kernel)

theorem cgI1 {d : Nat} (hd : d < 4) : ab_gI (hp F A) (26 + 2 * d) 0 1 = some (F (26 + 2 * d) 1) := by
  have h4 : d = 0 ∨ d = 1 ∨ d = 2 ∨ d = 3 := by omega
  rcases h4 with rfl | rfl | rfl | rfl
  · exact hp_gI (by decide +kernel)
  · exact hp_gI (by decide +kernel)
  · exact hp_gI (by decide +kernel)
  · exact hp_gI (by decide +kernel)

theorem cpI1 {d : Nat} {x : Int32} (hd : d < 4) : ab_pV (hp F A) (26 + 2 * d) 0 1 (.int x) = some (hp (up2 F (26 + 2 * d) 1 x) A) := by
  have h4 : d = 0 ∨ d = 1 ∨ d = 2 ∨ d = 3 := by omega
  rcases h4 with rfl | rfl | rfl | rfl
  · exact hp_pV (by decide +kernel)
  · exact hp_pV (by decide +kernel)
  · exact hp_pV (by decide +kernel)
  · exact hp_pV (by decide +kernel)

theorem cgI2 {d : Nat} (hd : d < 4) : ab_gI (hp F A) (26 + 2 * d) 0 2 = some (F (26 + 2 * d) 2) := by
  have h4 : d = 0 ∨ d = 1 ∨ d = 2 ∨ d = 3 := by omega
  rcases h4 with rfl | rfl | rfl | rfl
  · exact hp_gI (by decide +kernel)
  · exact hp_gI (by decide +kernel)
  · exact hp_gI (by decide +kernel)
  · exact hp_gI (by decide +kernel)

theorem cpI2 {d : Nat} {x : Int32} (hd : d < 4) : ab_pV (hp F A) (26 + 2 * d) 0 2 (.int x) = some (hp (up2 F (26 + 2 * d) 2 x) A) := by
  have h4 : d = 0 ∨ d = 1 ∨ d = 2 ∨ d = 3 := by omega
  rcases h4 with rfl | rfl | rfl | rfl
  · exact hp_pV (by decide +kernel)
  · exact hp_pV (by decide +kernel)
  · exact hp_pV (by decide +kernel)
  · exact hp_pV (by decide +kernel)

theorem cgI3 {d : Nat} (hd : d < 4) : ab_gI (hp F A) (26 + 2 * d) 0 3 = some (F (26 + 2 * d) 3) := by
  have h4 : d = 0 ∨ d = 1 ∨ d = 2 ∨ d = 3 := by omega
  rcases h4 with rfl | rfl | rfl | rfl
  · exact hp_gI (by decide +kernel)
  · exact hp_gI (by decide +kernel)
  · exact hp_gI (by decide +kernel)
  · exact hp_gI (by decide +kernel)

theorem cpI3 {d : Nat} {x : Int32} (hd : d < 4) : ab_pV (hp F A) (26 + 2 * d) 0 3 (.int x) = some (hp (up2 F (26 + 2 * d) 3 x) A) := by
  have h4 : d = 0 ∨ d = 1 ∨ d = 2 ∨ d = 3 := by omega
  rcases h4 with rfl | rfl | rfl | rfl
  · exact hp_pV (by decide +kernel)
  · exact hp_pV (by decide +kernel)
  · exact hp_pV (by decide +kernel)
  · exact hp_pV (by decide +kernel)

theorem cgI4 {d : Nat} (hd : d < 4) : ab_gI (hp F A) (26 + 2 * d) 0 4 = some (F (26 + 2 * d) 4) := by
  have h4 : d = 0 ∨ d = 1 ∨ d = 2 ∨ d = 3 := by omega
  rcases h4 with rfl | rfl | rfl | rfl
  · exact hp_gI (by decide +kernel)
  · exact hp_gI (by decide +kernel)
  · exact hp_gI (by decide +kernel)
  · exact hp_gI (by decide +kernel)

theorem cpI4 {d : Nat} {x : Int32} (hd : d < 4) : ab_pV (hp F A) (26 + 2 * d) 0 4 (.int x) = some (hp (up2 F (26 + 2 * d) 4 x) A) := by
  have h4 : d = 0 ∨ d = 1 ∨ d = 2 ∨ d = 3 := by omega
  rcases h4 with rfl | rfl | rfl | rfl
  · exact hp_pV (by decide +kernel)
  · exact hp_pV (by decide +kernel)
  · exact hp_pV (by decide +kernel)
  · exact hp_pV (by decide +kernel)

theorem cgI5 {d : Nat} (hd : d < 4) : ab_gI (hp F A) (26 + 2 * d) 0 5 = some (F (26 + 2 * d) 5) := by
  have h4 : d = 0 ∨ d = 1 ∨ d = 2 ∨ d = 3 := by omega
  rcases h4 with rfl | rfl | rfl | rfl
  · exact hp_gI (by decide +kernel)
  · exact hp_gI (by decide +kernel)
  · exact hp_gI (by decide +kernel)
  · exact hp_gI (by decide +kernel)

theorem cpI5 {d : Nat} {x : Int32} (hd : d < 4) : ab_pV (hp F A) (26 + 2 * d) 0 5 (.int x) = some (hp (up2 F (26 + 2 * d) 5 x) A) := by
  have h4 : d = 0 ∨ d = 1 ∨ d = 2 ∨ d = 3 := by omega
  rcases h4 with rfl | rfl | rfl | rfl
  · exact hp_pV (by decide +kernel)
  · exact hp_pV (by decide +kernel)
  · exact hp_pV (by decide +kernel)
  · exact hp_pV (by decide +kernel)

theorem cgI6 {d : Nat} (hd : d < 4) : ab_gI (hp F A) (26 + 2 * d) 0 6 = some (F (26 + 2 * d) 6) := by
  have h4 : d = 0 ∨ d = 1 ∨ d = 2 ∨ d = 3 := by omega
  rcases h4 with rfl | rfl | rfl | rfl
  · exact hp_gI (by decide +kernel)
  · exact hp_gI (by decide +kernel)
  · exact hp_gI (by decide +kernel)
  · exact hp_gI (by decide +kernel)

theorem cpI6 {d : Nat} {x : Int32} (hd : d < 4) : ab_pV (hp F A) (26 + 2 * d) 0 6 (.int x) = some (hp (up2 F (26 + 2 * d) 6 x) A) := by
  have h4 : d = 0 ∨ d = 1 ∨ d = 2 ∨ d = 3 := by omega
  rcases h4 with rfl | rfl | rfl | rfl
  · exact hp_pV (by decide +kernel)
  · exact hp_pV (by decide +kernel)
  · exact hp_pV (by decide +kernel)
  · exact hp_pV (by decide +kernel)

theorem cgR7 {d : Nat} (hd : d < 4) : ab_gR (hp F A) (26 + 2 * d) 0 7 = some (27 + 2 * d) := by
  have h4 : d = 0 ∨ d = 1 ∨ d = 2 ∨ d = 3 := by omega
  rcases h4 with rfl | rfl | rfl | rfl
  · exact hp_gR _ (by decide +kernel)
  · exact hp_gR _ (by decide +kernel)
  · exact hp_gR _ (by decide +kernel)
  · exact hp_gR _ (by decide +kernel)

theorem cgI8 {d : Nat} (hd : d < 4) : ab_gI (hp F A) (26 + 2 * d) 0 8 = some (F (26 + 2 * d) 8) := by
  have h4 : d = 0 ∨ d = 1 ∨ d = 2 ∨ d = 3 := by omega
  rcases h4 with rfl | rfl | rfl | rfl
  · exact hp_gI (by decide +kernel)
  · exact hp_gI (by decide +kernel)
  · exact hp_gI (by decide +kernel)
  · exact hp_gI (by decide +kernel)

theorem cpI8 {d : Nat} {x : Int32} (hd : d < 4) : ab_pV (hp F A) (26 + 2 * d) 0 8 (.int x) = some (hp (up2 F (26 + 2 * d) 8 x) A) := by
  have h4 : d = 0 ∨ d = 1 ∨ d = 2 ∨ d = 3 := by omega
  rcases h4 with rfl | rfl | rfl | rfl
  · exact hp_pV (by decide +kernel)
  · exact hp_pV (by decide +kernel)
  · exact hp_pV (by decide +kernel)
  · exact hp_pV (by decide +kernel)

theorem cgI9 {d : Nat} (hd : d < 4) : ab_gI (hp F A) (26 + 2 * d) 0 9 = some (F (26 + 2 * d) 9) := by
  have h4 : d = 0 ∨ d = 1 ∨ d = 2 ∨ d = 3 := by omega
  rcases h4 with rfl | rfl | rfl | rfl
  · exact hp_gI (by decide +kernel)
  · exact hp_gI (by decide +kernel)
  · exact hp_gI (by decide +kernel)
  · exact hp_gI (by decide +kernel)

theorem cpI9 {d : Nat} {x : Int32} (hd : d < 4) : ab_pV (hp F A) (26 + 2 * d) 0 9 (.int x) = some (hp (up2 F (26 + 2 * d) 9 x) A) := by
  have h4 : d = 0 ∨ d = 1 ∨ d = 2 ∨ d = 3 := by omega
  rcases h4 with rfl | rfl | rfl | rfl
  · exact hp_pV (by decide +kernel)
  · exact hp_pV (by decide +kernel)
  · exact hp_pV (by decide +kernel)
  · exact hp_pV (by decide +kernel)

theorem cok {d : Nat} (hd : d < 4) : ok_A (27 + 2 * d) 0 40 = true := by
  have h4 : d = 0 ∨ d = 1 ∨ d = 2 ∨ d = 3 := by omega
  rcases h4 with rfl | rfl | rfl | rfl
  · exact (by decide +kernel)
  · exact (by decide +kernel)
  · exact (by decide +kernel)
  · exact (by decide +kernel)

theorem caI {d i : Nat} (hd : d < 4) (hi : i < 40) : ab_aI (hp F A) (27 + 2 * d) (nI i) = some (A (27 + 2 * d) i) := hp_aI 40 (cok hd) hi (by decide)
theorem csI {d i : Nat} {x : Int32} (hd : d < 4) (hi : i < 40) : ab_sI (hp F A) (27 + 2 * d) (nI i) x = some (hp F (up2 A (27 + 2 * d) i x)) := hp_sI 40 (cok hd) hi (by decide)
theorem caR {d : Nat} (hd : d < 4) : ab_aR (hp F A) 22 (nI d) = some (26 + 2 * d) := by
  rw [hp_aR 4 4 rfl ⟨by decide, by decide⟩ hd (by decide)]
  have h4 : d = 0 ∨ d = 1 ∨ d = 2 ∨ d = 3 := by omega
  rcases h4 with rfl | rfl | rfl | rfl
  · exact rfl
  · exact rfl
  · exact rfl
  · exact rfl

theorem iaR {k : Nat} (hk : k < 2) : ab_aR (hp F A) 19 (nI k) = some (39 + 18 * k) := by
  rw [hp_aR 2 2 rfl ⟨by decide, by decide⟩ hk (by decide)]
  have h2 : k = 0 ∨ k = 1 := by omega
  rcases h2 with rfl | rfl <;> rfl
theorem hp_cp {r0 r1 n : Nat} (n0 n1 : Nat) (h0 : ok_A r0 0 n0 = true) (h1 : ok_A r1 0 n1 = true) (hn0 : n ≤ n0) (hn1 : n ≤ n1) (hb : n ≤ 400) : ab_cp (hp F A) r0 0 r1 0 (nI n) = some (hp F (fun c => if c = r1 then va_cpy (A r0) (A r1) 0 0 n else A c)) := by
  have e0 := ok_A_of h0
  have e1 := ok_A_of h1
  simp only [ab_cp, hp_at, e0, e1, Option.map_some, ly_c]
  have hz : (0 : Int32).toNatClampNeg = 0 := by decide
  rw [hz, nI_clamp (by omega)]
  rw [if_neg]
  · refine congrArg some ?_
    have := hpT_setA (A := A) (A' := fun c => if c = r1 then va_cpy (A r0) (A r1) 0 0 n else A c) (F := F) ly_T e1 (fun c hc => by simp [hc])
    unfold hp
    simpa using this
  · rintro (z | z | z | z | z)
    · exact absurd z (by decide)
    · exact absurd z (by decide)
    · exact nI_pos (by omega) z
    · omega
    · omega
end
theorem n_0 : (0 : Int32) = nI 0 := rfl
theorem n_i {a b : Nat} (ha : a < 2 ^ 31) (hb : b < 2 ^ 31) : (nI a = nI b) = (a = b) := propext (nI_eq ha hb)
theorem n_le {a b : Nat} (ha : a < 2 ^ 31) (hb : b < 2 ^ 31) : (nI a ≤ nI b) = (a ≤ b) := propext (nI_leI ha hb)
theorem n_lt {a b : Nat} (ha : a < 2 ^ 31) (hb : b < 2 ^ 31) : (nI a < nI b) = (a < b) := propext (nI_ltI ha hb)
def wi (x lo hi : Int32) : Int32 := if lo ≤ x ∧ x ≤ hi then 1 else 0
theorem wi_6 (x lo hi : Int32) : fX6_within x lo hi = some (wi x lo hi) := by
  unfold fX6_within wi
  by_cases h1 : lo ≤ x <;> by_cases h2 : x ≤ hi
  · have z1 : ¬ x < lo := Int32.not_lt.mpr h1
    have z2 : ¬ hi < x := Int32.not_lt.mpr h2
    simp [h1, h2, z1, z2]
  · have z2 : hi < x := Int32.not_le.mp h2
    have z1 : ¬ x < lo := Int32.not_lt.mpr h1
    simp [h1, h2, z1, z2, bX6_within_14]
  · have z1 : x < lo := Int32.not_le.mp h1
    simp [h1, z1, bX6_within_14]
  · have z1 : x < lo := Int32.not_le.mp h1
    simp [h1, z1, bX6_within_14]
theorem wi_7 (x lo hi : Int32) : fX7_in x lo hi = some (wi x lo hi) := by
  unfold fX7_in wi
  by_cases h1 : lo ≤ x <;> by_cases h2 : x ≤ hi
  · have z1 : ¬ x < lo := Int32.not_lt.mpr h1
    have z2 : ¬ hi < x := Int32.not_lt.mpr h2
    simp [h1, h2, z1, z2]
  · have z2 : hi < x := Int32.not_le.mp h2
    have z1 : ¬ x < lo := Int32.not_lt.mpr h1
    simp [h1, h2, z1, z2, bX7_in_14]
  · have z1 : x < lo := Int32.not_le.mp h1
    simp [h1, z1, bX7_in_14]
  · have z1 : x < lo := Int32.not_le.mp h1
    simp [h1, z1, bX7_in_14]
theorem wi_b (x lo hi : Int32) : wi x lo hi &&& 1 = wi x lo hi := by
  unfold wi
  split <;> decide
theorem wi_0 {x lo hi : Int32} (h : ¬ (lo ≤ x ∧ x ≤ hi)) : wi x lo hi = 0 := if_neg h
theorem wi_1 {x lo hi : Int32} (h : lo ≤ x ∧ x ≤ hi) : wi x lo hi = 1 := if_pos h
theorem isD_6 (x : Int32) : fX6_isDisk x = some (wi x 0 3) := by
  unfold fX6_isDisk
  simp [wi_6, wi_b]
theorem isD_7 (x : Int32) : fX7_isDisk x = some (wi x 0 3) := by
  unfold fX7_isDisk
  simp [wi_7, wi_b]
theorem n_10 : ¬ ((1 : Int32) = 0) := by decide
theorem rg_of {x hi : Int32} (n : Nat) (hn : hi.toInt = n) (h : 0 ≤ x ∧ x ≤ hi) : ∃ d, d ≤ n ∧ x = nI d := nI_of2 hn (Int32.not_lt.mpr h.1) h.2
theorem rg_of1 {x lo hi : Int32} (m n : Nat) (hm : lo.toInt = m) (hn : hi.toInt = n) (h : lo ≤ x ∧ x ≤ hi) : ∃ d, m ≤ d ∧ d ≤ n ∧ x = nI d := by
  have h1 := Int32.le_iff_toInt_le.mp h.1
  have h2 := Int32.le_iff_toInt_le.mp h.2
  rw [hm] at h1
  rw [hn] at h2
  have h0 : (0 : Int32) ≤ x := Int32.le_iff_toInt_le.mpr (by show (0 : Int32).toInt ≤ _; rw [show (0 : Int32).toInt = 0 from rfl]; omega)
  obtain ⟨d, hd, e⟩ := rg_of n hn ⟨h0, h.2⟩
  refine ⟨d, ?_, hd, e⟩
  rw [e, nI_toInt] at h1
  · omega
  · have h3 := Int32.toInt_lt hi
    omega
theorem ix4 (d l : Nat) : (4 : Int32) * nI d + nI l = nI (4 * d + l) := by
  rw [show (4 : Int32) = nI 4 from rfl, pk_mul, nI_add]
theorem ix4_0 (d : Nat) : (4 : Int32) * nI d = nI (4 * d) := by
  rw [show (4 : Int32) = nI 4 from rfl, pk_mul]
theorem ix40 (d l : Nat) : (40 : Int32) * nI d + nI l = nI (40 * d + l) := by
  rw [show (40 : Int32) = nI 40 from rfl, pk_mul, nI_add]
theorem ix3 (d : Nat) : (3 : Int32) * nI d = nI (3 * d) := by
  rw [show (3 : Int32) = nI 3 from rfl, pk_mul]

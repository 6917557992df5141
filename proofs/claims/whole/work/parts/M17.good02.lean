set_option maxRecDepth 100000 in
theorem zd58 : ∀ e ∈ zc58, zsw? e.2.1 = true ∨ decode cX8_readSum e.1 = .ok (e.2.1, zln e.2.1) := by decide +kernel
set_option maxRecDepth 100000 in
theorem zk58 : zal_ zm58 zc58 := zcs (zn_i_m1) (zcs (zlt_1_7) (zcs (zn_i_m1) (zcs (zlt_2_7) (zcs (zn_i_0) (zcs (zlt_3_7) (zcs (trivial) (zcs (zn_b_60) (zcs ((by decide : ((9 : Nat) : Int) + 147 = ((156 : Nat) : Int))) (zcs (trivial) (zcs (zli_X8_132) (zcs ((by decide : ((16 : Nat) : Int) + 5 = ((21 : Nat) : Int))) (zcs (zn_i_0) (zcs (rfl) (zcs (trivial) (zcs (zn_i_m1) (zcs ((by decide : ((23 : Nat) : Int) + 8 = ((31 : Nat) : Int))) (zcs (trivial) (zcs (trivial) (zcs (zli_X8_96) (zcs (trivial) (zcs (zli_X8_107) (zcs (zlt_4_7) (zcs (trivial) (zcs (zn_b_42) (zcs ((by decide : ((41 : Nat) : Int) + 10 = ((51 : Nat) : Int))) (zcs (trivial) (zcs (zn_b_47) (zcs ((by decide : ((48 : Nat) : Int) + 7 = ((55 : Nat) : Int))) (zcs (zn_i_1) (zcs ((by decide : ((52 : Nat) : Int) + 4 = ((56 : Nat) : Int))) (zcs (zn_i_0) (zcs (zlt_5_7) (zcs (trivial) (zcs (zn_b_43) (zcs ((by decide : ((62 : Nat) : Int) + 10 = ((72 : Nat) : Int))) (zcs (trivial) (zcs (zn_b_45) (zcs ((by decide : ((69 : Nat) : Int) + 7 = ((76 : Nat) : Int))) (zcs (zn_i_1) (zcs ((by decide : ((73 : Nat) : Int) + 4 = ((77 : Nat) : Int))) (zcs (zn_i_0) (zcs (zlt_6_7) (zcs (trivial) (zcs ((by decide : ((81 : Nat) : Int) + 13 = ((94 : Nat) : Int))) (zcs (trivial) (zcs (zn_i_m1) (zcs ((by decide : ((86 : Nat) : Int) + 8 = ((94 : Nat) : Int))) (zcs (trivial) (zcs (trivial) (zcs (zli_X8_96) (zcs (trivial) (zcs ((by decide : ((96 : Nat) : Int) + 10 = ((106 : Nat) : Int))) (zcs (trivial) (zcs ((by decide : ((101 : Nat) : Int) + 5 = ((106 : Nat) : Int))) (zcs (zn_i_1) (zcs (rfl) (zcs (trivial) (zcs (zli_X8_112) (zcs (zn_i_m1) (zcs (zlt_2_7) (zcs (trivial) (zcs ((by decide : ((114 : Nat) : Int) + 21 = ((135 : Nat) : Int))) (zcs (trivial) (zcs (zn_b_42) (zcs ((by decide : ((121 : Nat) : Int) + 8 = ((129 : Nat) : Int))) (zcs (zw845) (zcs ((by decide : ((126 : Nat) : Int) + 5 = ((131 : Nat) : Int))) (zcs (zw846) (zcs (zlt_2_7) (zcs ((by decide : ((132 : Nat) : Int) + 18 = ((150 : Nat) : Int))) (zcs (trivial) (zcs (zn_b_43) (zcs ((by decide : ((139 : Nat) : Int) + 8 = ((147 : Nat) : Int))) (zcs (zw847) (zcs ((by decide : ((144 : Nat) : Int) + 5 = ((149 : Nat) : Int))) (zcs (zw848) (zcs (zlt_1_7) (zcs (⟨zn_i_1, zlt_3_7⟩) (zcs ((by decide : ((153 : Nat) : Int) + (-147) = ((6 : Nat) : Int))) (zcs (zn_i_0) (zcs (rfl) (znil))))))))))))))))))))))))))))))))))))))))))))))))))))))))))))))))))))))))))))))))))
theorem zg58 : zgm zm58 := fun e h => ⟨zd58 e h, zal_mem zk58 e h⟩
set_option maxRecDepth 100000 in
theorem zd59 : ∀ e ∈ zc59, zsw? e.2.1 = true ∨ decode cX8_readValue e.1 = .ok (e.2.1, zln e.2.1) := by decide +kernel
set_option maxRecDepth 100000 in
theorem zk59 : zal_ zm59 zc59 := zcs (trivial) (zcs (zlf_X8_48) (zcs (zlt_1_3) (zcs (trivial) (zcs (zli_X8_139) (zcs ((by decide : ((9 : Nat) : Int) + 29 = ((38 : Nat) : Int))) (zcs (trivial) (zcs (zn_i_0) (zcs (zw823) (zcs (zli_X8_76) (zcs ((by decide : ((19 : Nat) : Int) + 5 = ((24 : Nat) : Int))) (zcs (zn_i_0) (zcs (rfl) (zcs (trivial) (zcs (trivial) (zcs (zlf_X8_79) (zcs (zli_X8_96) (zcs (trivial) (zcs (trivial) (zcs (zli_X8_118) (zcs (rfl) (zcs (trivial) (zcs (⟨_, rfl⟩) (zcs (zli_X8_66) (zcs (zlt_2_3) (zcs (trivial) (zcs (zn_i_m1) (zcs ((by decide : ((47 : Nat) : Int) + 10 = ((57 : Nat) : Int))) (zcs (trivial) (zcs (trivial) (zcs (zn_i_0) (zcs (zli_X8_51) (zcs (rfl) (zcs (trivial) (zcs (zli_X8_70) (zcs (trivial) (zcs (zw836) (zcs (trivial) (zcs (trivial) (zcs (zli_X8_96) (zcs (trivial) (zcs (trivial) (zcs (zli_X8_118) (zcs (rfl) (znil))))))))))))))))))))))))))))))))))))))))))))
theorem zg59 : zgm zm59 := fun e h => ⟨zd59 e h, zal_mem zk59 e h⟩
set_option maxRecDepth 100000 in
theorem zd60 : ∀ e ∈ zc60, zsw? e.2.1 = true ∨ decode cX9_init e.1 = .ok (e.2.1, zln e.2.1) := by decide +kernel
set_option maxRecDepth 100000 in
theorem zk60 : zal_ zm60 zc60 := zcs (trivial) (zcs (zli_X9_3) (zcs (trivial) (zcs (zn_s_400) (zcs (Or.inr (Or.inl ⟨rfl, rfl⟩)) (zcs (⟨zlf_X9_9, zlp_X9_9_i⟩) (zcs (trivial) (zcs (zn_i_0) (zcs (⟨zlf_X9_15, (zlp_X9_15_i _)⟩) (zcs (trivial) (zcs (zn_i_0) (zcs (⟨zlf_X9_19, (zlp_X9_19_i _)⟩) (zcs (trivial) (zcs (zn_i_0) (zcs (⟨zlf_X9_22, (zlp_X9_22_i _)⟩) (zcs (trivial) (zcs (zn_i_0) (zcs (⟨zlf_X9_25, (zlp_X9_25_i _)⟩) (zcs (rfl) (znil)))))))))))))))))))
theorem zg60 : zgm zm60 := fun e h => ⟨zd60 e h, zal_mem zk60 e h⟩
set_option maxRecDepth 100000 in
theorem zd61 : ∀ e ∈ zc61, zsw? e.2.1 = true ∨ decode cX9_open e.1 = .ok (e.2.1, zln e.2.1) := by decide +kernel
set_option maxRecDepth 100000 in
theorem zk61 : zal_ zm61 zc61 := zcs (trivial) (zcs (zn_i_0) (zcs (trivial) (zcs (trivial) (zcs (trivial) (zcs (zn_s_400) (zcs (zli_X9_28) (zcs (zli_X9_28) (zcs (zli_X9_34) (zcs (⟨zlf_X9_15, (zlp_X9_15_n _)⟩) (zcs (trivial) (zcs (zn_i_0) (zcs (trivial) (zcs (zlf_X9_9) (zcs (zn_i_0) (zcs (trivial) (zcs (zlf_X9_15) (zcs (zli_X9_37) (zcs (trivial) (zcs (zn_i_0) (zcs (⟨zlf_X9_19, (zlp_X9_19_n _)⟩) (zcs (trivial) (zcs (zn_i_0) (zcs (⟨zlf_X9_25, (zlp_X9_25_n _)⟩) (zcs (trivial) (zcs (zli_X9_43) (zcs (rfl) (znil)))))))))))))))))))))))))))
theorem zg61 : zgm zm61 := fun e h => ⟨zd61 e h, zal_mem zk61 e h⟩
set_option maxRecDepth 100000 in
theorem zd62 : ∀ e ∈ zc62, zsw? e.2.1 = true ∨ decode cX9_wrong e.1 = .ok (e.2.1, zln e.2.1) := by decide +kernel
set_option maxRecDepth 100000 in
theorem zk62 : zal_ zm62 zc62 := zcs (trivial) (zcs (zn_i_1) (zcs (zn_b_8) (zcs (trivial) (zcs (trivial) (zcs (trivial) (zcs (trivial) (zcs (trivial) (zcs (⟨zlf_X9_25, (zlp_X9_25_n _)⟩) (zcs (zn_i_0) (zcs (rfl) (znil)))))))))))
theorem zg62 : zgm zm62 := fun e h => ⟨zd62 e h, zal_mem zk62 e h⟩
set_option maxRecDepth 100000 in
theorem zd63 : ∀ e ∈ zc63, zsw? e.2.1 = true ∨ decode cX9_skipBlanks e.1 = .ok (e.2.1, zln e.2.1) := by decide +kernel
set_option maxRecDepth 100000 in
theorem zk63 : zal_ zm63 zc63 := zcs (trivial) (zcs (zlf_X9_19) (zcs (trivial) (zcs (zlf_X9_15) (zcs ((by decide : ((8 : Nat) : Int) + 30 = ((38 : Nat) : Int))) (zcs (trivial) (zcs (zlf_X9_9) (zcs (trivial) (zcs (zlf_X9_19) (zcs (trivial) (zcs (zn_b_32) (zcs ((by decide : ((22 : Nat) : Int) + 16 = ((38 : Nat) : Int))) (zcs (trivial) (zcs (trivial) (zcs (zlf_X9_19) (zcs (zn_i_1) (zcs (trivial) (zcs (⟨zlf_X9_19, (zlp_X9_19_n _)⟩) (zcs ((by decide : ((35 : Nat) : Int) + (-35) = ((0 : Nat) : Int))) (zcs (rfl) (znil))))))))))))))))))))
theorem zg63 : zgm zm63 := fun e h => ⟨zd63 e h, zal_mem zk63 e h⟩
set_option maxRecDepth 100000 in
theorem zd64 : ∀ e ∈ zc64, zsw? e.2.1 = true ∨ decode cX9_sign e.1 = .ok (e.2.1, zln e.2.1) := by decide +kernel
set_option maxRecDepth 100000 in
theorem zk64 : zal_ zm64 zc64 := zcs (trivial) (zcs (zlf_X9_19) (zcs ((by decide : ((4 : Nat) : Int) + 26 = ((30 : Nat) : Int))) (zcs (trivial) (zcs (zlf_X9_19) (zcs (trivial) (zcs (zlf_X9_15) (zcs ((by decide : ((15 : Nat) : Int) + 15 = ((30 : Nat) : Int))) (zcs (trivial) (zcs (zlf_X9_9) (zcs (trivial) (zcs (zlf_X9_19) (zcs (trivial) (zcs ((by decide : ((27 : Nat) : Int) + 4 = ((31 : Nat) : Int))) (zcs (zn_i_m1) (zcs (rfl) (znil))))))))))))))))
theorem zg64 : zgm zm64 := fun e h => ⟨zd64 e h, zal_mem zk64 e h⟩
set_option maxRecDepth 100000 in
theorem zd65 : ∀ e ∈ zc65, zsw? e.2.1 = true ∨ decode cX9_isAtEnd e.1 = .ok (e.2.1, zln e.2.1) := by decide +kernel
set_option maxRecDepth 100000 in
theorem zk65 : zal_ zm65 zc65 := zcs (trivial) (zcs (zlf_X9_19) (zcs (trivial) (zcs (zlf_X9_15) (zcs ((by decide : ((8 : Nat) : Int) + 7 = ((15 : Nat) : Int))) (zcs (zn_i_1) (zcs ((by decide : ((12 : Nat) : Int) + 4 = ((16 : Nat) : Int))) (zcs (zn_i_0) (zcs (rfl) (znil)))))))))
theorem zg65 : zgm zm65 := fun e h => ⟨zd65 e h, zal_mem zk65 e h⟩
set_option maxRecDepth 100000 in
theorem zd66 : ∀ e ∈ zc66, zsw? e.2.1 = true ∨ decode cX9_isAtDigit e.1 = .ok (e.2.1, zln e.2.1) := by decide +kernel
set_option maxRecDepth 100000 in
theorem zk66 : zal_ zm66 zc66 := zcs (trivial) (zcs (zlf_X9_19) (zcs ((by decide : ((4 : Nat) : Int) + 46 = ((50 : Nat) : Int))) (zcs (trivial) (zcs (zlf_X9_19) (zcs (trivial) (zcs (zlf_X9_15) (zcs ((by decide : ((15 : Nat) : Int) + 35 = ((50 : Nat) : Int))) (zcs (trivial) (zcs (zlf_X9_9) (zcs (trivial) (zcs (zlf_X9_19) (zcs (trivial) (zcs (zn_b_48) (zcs ((by decide : ((29 : Nat) : Int) + 21 = ((50 : Nat) : Int))) (zcs (trivial) (zcs (zlf_X9_9) (zcs (trivial) (zcs (zlf_X9_19) (zcs (trivial) (zcs (zn_b_57) (zcs ((by decide : ((43 : Nat) : Int) + 7 = ((50 : Nat) : Int))) (zcs (zn_i_1) (zcs ((by decide : ((47 : Nat) : Int) + 4 = ((51 : Nat) : Int))) (zcs (zn_i_0) (zcs (rfl) (znil))))))))))))))))))))))))))
theorem zg66 : zgm zm66 := fun e h => ⟨zd66 e h, zal_mem zk66 e h⟩
set_option maxRecDepth 100000 in
theorem zd67 : ∀ e ∈ zc67, zsw? e.2.1 = true ∨ decode cX9_takeByte e.1 = .ok (e.2.1, zln e.2.1) := by decide +kernel
set_option maxRecDepth 100000 in
theorem zk67 : zal_ zm67 zc67 := zcs (trivial) (zcs (zlf_X9_19) (zcs (trivial) (zcs (zlf_X9_15) (zcs ((by decide : ((8 : Nat) : Int) + 13 = ((21 : Nat) : Int))) (zcs (trivial) (zcs (trivial) (zcs (zlf_X9_19) (zcs (zn_i_1) (zcs (trivial) (zcs (⟨zlf_X9_19, (zlp_X9_19_n _)⟩) (zcs (rfl) (znil))))))))))))
theorem zg67 : zgm zm67 := fun e h => ⟨zd67 e h, zal_mem zk67 e h⟩
set_option maxRecDepth 100000 in
theorem zd68 : ∀ e ∈ zc68, zsw? e.2.1 = true ∨ decode cX9_takeSign e.1 = .ok (e.2.1, zln e.2.1) := by decide +kernel
set_option maxRecDepth 100000 in
theorem zk68 : zal_ zm68 zc68 := zcs (trivial) (zcs (zli_X9_46) (zcs (trivial) (zcs (zli_X9_43) (zcs (rfl) (znil)))))
theorem zg68 : zgm zm68 := fun e h => ⟨zd68 e h, zal_mem zk68 e h⟩
set_option maxRecDepth 100000 in
theorem zd69 : ∀ e ∈ zc69, zsw? e.2.1 = true ∨ decode cX9_tookSign e.1 = .ok (e.2.1, zln e.2.1) := by decide +kernel
set_option maxRecDepth 100000 in
theorem zk69 : zal_ zm69 zc69 := zcs (trivial) (zcs (zli_X9_49) (zcs (trivial) (zcs ((by decide : ((5 : Nat) : Int) + 5 = ((10 : Nat) : Int))) (zcs (zn_i_0) (zcs (rfl) (zcs (trivial) (zcs (zli_X9_53) (zcs (zn_i_1) (zcs (rfl) (znil))))))))))
theorem zg69 : zgm zm69 := fun e h => ⟨zd69 e h, zal_mem zk69 e h⟩
set_option maxRecDepth 100000 in
theorem zd70 : ∀ e ∈ zc70, zsw? e.2.1 = true ∨ decode cX9_readNumber e.1 = .ok (e.2.1, zln e.2.1) := by decide +kernel
set_option maxRecDepth 100000 in
theorem zk70 : zal_ zm70 zc70 := zcs (trivial) (zcs (zlf_X9_19) (zcs (zlt_3_5) (zcs (zn_i_0) (zcs (zlt_4_5) (zcs (trivial) (zcs (zn_i_0) (zcs (⟨zlf_X9_22, (zlp_X9_22_n _)⟩) (zcs (trivial) (zcs (zlf_X9_19) (zcs (trivial) (zcs (zlf_X9_15) (zcs ((by decide : ((21 : Nat) : Int) + 56 = ((77 : Nat) : Int))) (zcs (trivial) (zcs (zli_X9_56) (zcs ((by decide : ((28 : Nat) : Int) + 49 = ((77 : Nat) : Int))) (zcs (trivial) (zcs (zn_i_5) (zcs ((by decide : ((34 : Nat) : Int) + 27 = ((61 : Nat) : Int))) (zcs (trivial) (zcs (trivial) (zcs (zlf_X9_22) (zcs (zn_b_10) (zcs (trivial) (zcs (trivial) (zcs (zlf_X9_9) (zcs (trivial) (zcs (zlf_X9_19) (zcs (trivial) (zcs (trivial) (zcs (zn_b_48) (zcs (trivial) (zcs (⟨zlf_X9_22, (zlp_X9_22_n _)⟩) (zcs (⟨zn_i_1, zlt_4_5⟩) (zcs (trivial) (zcs (trivial) (zcs (zlf_X9_19) (zcs (zn_i_1) (zcs (trivial) (zcs (⟨zlf_X9_19, (zlp_X9_19_n _)⟩) (zcs ((by decide : ((74 : Nat) : Int) + (-61) = ((13 : Nat) : Int))) (zcs (trivial) (zcs ((by decide : ((79 : Nat) : Int) + 10 = ((89 : Nat) : Int))) (zcs (trivial) (zcs (trivial) (zcs (zn_i_0) (zcs (zli_X9_60) (zcs (rfl) (zcs (trivial) (zcs (zn_i_5) (zcs ((by decide : ((92 : Nat) : Int) + 19 = ((111 : Nat) : Int))) (zcs (trivial) (zcs (zlf_X9_22) (zcs (trivial) (zcs ((by decide : ((100 : Nat) : Int) + 11 = ((111 : Nat) : Int))) (zcs (trivial) (zcs (zlf_X9_22) (zcs (trivial) (zcs ((by decide : ((108 : Nat) : Int) + 10 = ((118 : Nat) : Int))) (zcs (trivial) (zcs (trivial) (zcs (zn_i_1) (zcs (zli_X9_60) (zcs (rfl) (zcs (trivial) (zcs (zli_X9_43) (zcs (zn_i_1) (zcs (rfl) (znil))))))))))))))))))))))))))))))))))))))))))))))))))))))))))))))))))))
theorem zg70 : zgm zm70 := fun e h => ⟨zd70 e h, zal_mem zk70 e h⟩
set_option maxRecDepth 100000 in
theorem zd71 : ∀ e ∈ zc71, zsw? e.2.1 = true ∨ decode cX9_wordEnd e.1 = .ok (e.2.1, zln e.2.1) := by decide +kernel
set_option maxRecDepth 100000 in
theorem zk71 : zal_ zm71 zc71 := zcs (trivial) (zcs (zlf_X9_19) (zcs (zlt_1_2) (zcs (trivial) (zcs (trivial) (zcs (zlf_X9_15) (zcs ((by decide : ((10 : Nat) : Int) + 31 = ((41 : Nat) : Int))) (zcs (trivial) (zcs (zlf_X9_9) (zcs (trivial) (zcs (trivial) (zcs (zn_b_97) (zcs ((by decide : ((21 : Nat) : Int) + 20 = ((41 : Nat) : Int))) (zcs (trivial) (zcs (zlf_X9_9) (zcs (trivial) (zcs (trivial) (zcs (zn_b_122) (zcs ((by decide : ((32 : Nat) : Int) + 9 = ((41 : Nat) : Int))) (zcs (⟨zn_i_1, zlt_1_2⟩) (zcs ((by decide : ((38 : Nat) : Int) + (-33) = ((5 : Nat) : Int))) (zcs (trivial) (zcs (rfl) (znil)))))))))))))))))))))))
theorem zg71 : zgm zm71 := fun e h => ⟨zd71 e h, zal_mem zk71 e h⟩
set_option maxRecDepth 100000 in
theorem zd72 : ∀ e ∈ zc72, zsw? e.2.1 = true ∨ decode cX9_wordAmong e.1 = .ok (e.2.1, zln e.2.1) := by decide +kernel
set_option maxRecDepth 100000 in
theorem zk72 : zal_ zm72 zc72 := zcs (trivial) (zcs (zli_X9_64) (zcs (zlt_2_7) (zcs (zn_i_0) (zcs (zlt_3_7) (zcs (trivial) (zcs (zlf_X9_19) (zcs (zlt_4_7) (zcs (zn_i_0) (zcs (zlt_5_7) (zcs (trivial) (zcs (trivial) (zcs (zli_X9_67) (zcs ((by decide : ((22 : Nat) : Int) + 99 = ((121 : Nat) : Int))) (zcs (trivial) (zcs (trivial) (zcs (zlf_X9_19) (zcs ((by decide : ((30 : Nat) : Int) + 91 = ((121 : Nat) : Int))) (zcs (trivial) (zcs (trivial) (zcs (zli_X9_67) (zcs ((by decide : ((39 : Nat) : Int) + 12 = ((51 : Nat) : Int))) (zcs (trivial) (zcs (trivial) (zcs (zli_X9_71) (zcs ((by decide : ((48 : Nat) : Int) + 5 = ((53 : Nat) : Int))) (zcs (zn_b_32) (zcs (zlt_6_7) (zcs (trivial) (zcs (zn_b_32) (zcs ((by decide : ((59 : Nat) : Int) + 39 = ((98 : Nat) : Int))) (zcs (trivial) (zcs ((by decide : ((64 : Nat) : Int) + 28 = ((92 : Nat) : Int))) (zcs (trivial) (zcs (trivial) (zcs ((by decide : ((70 : Nat) : Int) + 22 = ((92 : Nat) : Int))) (zcs (trivial) (zcs (zlf_X9_9) (zcs (trivial) (zcs (trivial) (zcs (trivial) (zcs ((by decide : ((82 : Nat) : Int) + 10 = ((92 : Nat) : Int))) (zcs (trivial) (zcs (zn_i_1) (zcs (trivial) (zcs ((by decide : ((89 : Nat) : Int) + 4 = ((93 : Nat) : Int))) (zcs (zn_i_m1) (zcs (zlt_4_7) (zcs ((by decide : ((95 : Nat) : Int) + 20 = ((115 : Nat) : Int))) (zcs (trivial) (zcs (trivial) (zcs ((by decide : ((101 : Nat) : Int) + 5 = ((106 : Nat) : Int))) (zcs (trivial) (zcs (rfl) (zcs (⟨zn_i_1, zlt_3_7⟩) (zcs (trivial) (zcs (zlf_X9_19) (zcs (zlt_4_7) (zcs (⟨zn_i_1, zlt_5_7⟩) (zcs ((by decide : ((118 : Nat) : Int) + (-102) = ((16 : Nat) : Int))) (zcs (zn_i_m1) (zcs (rfl) (znil))))))))))))))))))))))))))))))))))))))))))))))))))))))))))))))
theorem zg72 : zgm zm72 := fun e h => ⟨zd72 e h, zal_mem zk72 e h⟩
set_option maxRecDepth 100000 in
theorem zd73 : ∀ e ∈ zc73, zsw? e.2.1 = true ∨ decode cX9_takeWord e.1 = .ok (e.2.1, zln e.2.1) := by decide +kernel
set_option maxRecDepth 100000 in
theorem zk73 : zal_ zm73 zc73 := zcs (trivial) (zcs (trivial) (zcs (zli_X9_64) (zcs (⟨zlf_X9_19, (zlp_X9_19_n _)⟩) (zcs (trivial) (zcs (zli_X9_43) (zcs (rfl) (znil)))))))
theorem zg73 : zgm zm73 := fun e h => ⟨zd73 e h, zal_mem zk73 e h⟩
set_option maxRecDepth 100000 in
theorem zd74 : ∀ e ∈ zc74, zsw? e.2.1 = true ∨ decode cX9_tookWord e.1 = .ok (e.2.1, zln e.2.1) := by decide +kernel
set_option maxRecDepth 100000 in
theorem zk74 : zal_ zm74 zc74 := zcs (trivial) (zcs (trivial) (zcs (zli_X9_75) (zcs ((by decide : ((5 : Nat) : Int) + 5 = ((10 : Nat) : Int))) (zcs (zn_i_0) (zcs (rfl) (zcs (trivial) (zcs (zli_X9_79) (zcs (zn_i_1) (zcs (rfl) (znil))))))))))
theorem zg74 : zgm zm74 := fun e h => ⟨zd74 e h, zal_mem zk74 e h⟩
set_option maxRecDepth 100000 in
theorem zd75 : ∀ e ∈ zc75, zsw? e.2.1 = true ∨ decode cX10_init e.1 = .ok (e.2.1, zln e.2.1) := by decide +kernel
set_option maxRecDepth 100000 in
theorem zk75 : zal_ zm75 zc75 := zcs (trivial) (zcs (zli_X10_3) (zcs (trivial) (zcs (zn_s_251) (zcs (Or.inr (Or.inl ⟨rfl, rfl⟩)) (zcs (⟨zlf_X10_11, zlp_X10_11_i⟩) (zcs (rfl) (znil)))))))
theorem zg75 : zgm zm75 := fun e h => ⟨zd75 e h, zal_mem zk75 e h⟩
set_option maxRecDepth 100000 in
theorem zd76 : ∀ e ∈ zc76, zsw? e.2.1 = true ∨ decode cX10_copy e.1 = .ok (e.2.1, zln e.2.1) := by decide +kernel
set_option maxRecDepth 100000 in
theorem zk76 : zal_ zm76 zc76 := zcs (trivial) (zcs (zlf_X10_11) (zcs (zn_i_0) (zcs (trivial) (zcs (zlf_X10_11) (zcs (zn_i_0) (zcs (zn_s_251) (zcs (zli_X10_15) (zcs (rfl) (znil)))))))))
theorem zg76 : zgm zm76 := fun e h => ⟨zd76 e h, zal_mem zk76 e h⟩
set_option maxRecDepth 100000 in
theorem zd77 : ∀ e ∈ zc77, zsw? e.2.1 = true ∨ decode cX10_cell e.1 = .ok (e.2.1, zln e.2.1) := by decide +kernel
set_option maxRecDepth 100000 in
theorem zk77 : zal_ zm77 zc77 := zcs (trivial) (zcs (trivial) (zcs (trivial) (zcs (zlt_3_4) (zcs (trivial) (zcs ((by decide : ((5 : Nat) : Int) + 19 = ((24 : Nat) : Int))) (zcs (trivial) (zcs (zn_s_251) (zcs ((by decide : ((12 : Nat) : Int) + 12 = ((24 : Nat) : Int))) (zcs (trivial) (zcs (zlf_X10_11) (zcs (trivial) (zcs (trivial) (zcs ((by decide : ((21 : Nat) : Int) + 4 = ((25 : Nat) : Int))) (zcs (zn_i_0) (zcs (rfl) (znil))))))))))))))))
theorem zg77 : zgm zm77 := fun e h => ⟨zd77 e h, zal_mem zk77 e h⟩
set_option maxRecDepth 100000 in
theorem zd78 : ∀ e ∈ zc78, zsw? e.2.1 = true ∨ decode cX10_hasBarge e.1 = .ok (e.2.1, zln e.2.1) := by decide +kernel
set_option maxRecDepth 100000 in
theorem zk78 : zal_ zm78 zc78 := zcs (trivial) (zcs ((by decide : ((1 : Nat) : Int) + 18 = ((19 : Nat) : Int))) (zcs (trivial) (zcs (trivial) (zcs (zlf_X10_11) (zcs (zn_b_84) (zcs (trivial) (zcs ((by decide : ((12 : Nat) : Int) + 7 = ((19 : Nat) : Int))) (zcs (zn_i_1) (zcs ((by decide : ((16 : Nat) : Int) + 4 = ((20 : Nat) : Int))) (zcs (zn_i_0) (zcs (rfl) (znil))))))))))))
theorem zg78 : zgm zm78 := fun e h => ⟨zd78 e h, zal_mem zk78 e h⟩
set_option maxRecDepth 100000 in
theorem zd79 : ∀ e ∈ zc79, zsw? e.2.1 = true ∨ decode cX10_hasBook e.1 = .ok (e.2.1, zln e.2.1) := by decide +kernel
set_option maxRecDepth 100000 in
theorem zk79 : zal_ zm79 zc79 := zcs (trivial) (zcs ((by decide : ((1 : Nat) : Int) + 18 = ((19 : Nat) : Int))) (zcs (trivial) (zcs (trivial) (zcs (zlf_X10_11) (zcs (zn_b_85) (zcs (trivial) (zcs ((by decide : ((12 : Nat) : Int) + 7 = ((19 : Nat) : Int))) (zcs (zn_i_1) (zcs ((by decide : ((16 : Nat) : Int) + 4 = ((20 : Nat) : Int))) (zcs (zn_i_0) (zcs (rfl) (znil))))))))))))
theorem zg79 : zgm zm79 := fun e h => ⟨zd79 e h, zal_mem zk79 e h⟩
set_option maxRecDepth 100000 in
theorem zd80 : ∀ e ∈ zc80, zsw? e.2.1 = true ∨ decode cX10_hasStop e.1 = .ok (e.2.1, zln e.2.1) := by decide +kernel
set_option maxRecDepth 100000 in
theorem zk80 : zal_ zm80 zc80 := zcs (trivial) (zcs ((by decide : ((1 : Nat) : Int) + 18 = ((19 : Nat) : Int))) (zcs (trivial) (zcs (trivial) (zcs (zlf_X10_11) (zcs (zn_b_86) (zcs (trivial) (zcs ((by decide : ((12 : Nat) : Int) + 7 = ((19 : Nat) : Int))) (zcs (zn_i_1) (zcs ((by decide : ((16 : Nat) : Int) + 4 = ((20 : Nat) : Int))) (zcs (zn_i_0) (zcs (rfl) (znil))))))))))))
theorem zg80 : zgm zm80 := fun e h => ⟨zd80 e h, zal_mem zk80 e h⟩
set_option maxRecDepth 100000 in
theorem zd81 : ∀ e ∈ zc81, zsw? e.2.1 = true ∨ decode cX10_hasReader e.1 = .ok (e.2.1, zln e.2.1) := by decide +kernel
set_option maxRecDepth 100000 in
theorem zk81 : zal_ zm81 zc81 := zcs (trivial) (zcs ((by decide : ((1 : Nat) : Int) + 18 = ((19 : Nat) : Int))) (zcs (trivial) (zcs (trivial) (zcs (zlf_X10_11) (zcs (zn_b_87) (zcs (trivial) (zcs ((by decide : ((12 : Nat) : Int) + 7 = ((19 : Nat) : Int))) (zcs (zn_i_1) (zcs ((by decide : ((16 : Nat) : Int) + 4 = ((20 : Nat) : Int))) (zcs (zn_i_0) (zcs (rfl) (znil))))))))))))
theorem zg81 : zgm zm81 := fun e h => ⟨zd81 e h, zal_mem zk81 e h⟩
set_option maxRecDepth 100000 in
theorem zd82 : ∀ e ∈ zc82, zsw? e.2.1 = true ∨ decode cX10_hasHole e.1 = .ok (e.2.1, zln e.2.1) := by decide +kernel
set_option maxRecDepth 100000 in
theorem zk82 : zal_ zm82 zc82 := zcs (trivial) (zcs ((by decide : ((1 : Nat) : Int) + 18 = ((19 : Nat) : Int))) (zcs (trivial) (zcs (trivial) (zcs (zlf_X10_11) (zcs (zn_b_88) (zcs (trivial) (zcs ((by decide : ((12 : Nat) : Int) + 7 = ((19 : Nat) : Int))) (zcs (zn_i_1) (zcs ((by decide : ((16 : Nat) : Int) + 4 = ((20 : Nat) : Int))) (zcs (zn_i_0) (zcs (rfl) (znil))))))))))))
theorem zg82 : zgm zm82 := fun e h => ⟨zd82 e h, zal_mem zk82 e h⟩
set_option maxRecDepth 100000 in
theorem zd83 : ∀ e ∈ zc83, zsw? e.2.1 = true ∨ decode cX10_hasShelf e.1 = .ok (e.2.1, zln e.2.1) := by decide +kernel
set_option maxRecDepth 100000 in
theorem zk83 : zal_ zm83 zc83 := zcs (trivial) (zcs (trivial) (zcs (zli_X10_21) (zcs ((by decide : ((5 : Nat) : Int) + 24 = ((29 : Nat) : Int))) (zcs (trivial) (zcs ((by decide : ((9 : Nat) : Int) + 20 = ((29 : Nat) : Int))) (zcs (trivial) (zcs (trivial) (zcs (zlf_X10_11) (zcs (zn_b_89) (zcs (trivial) (zcs (trivial) (zcs (trivial) (zcs ((by decide : ((22 : Nat) : Int) + 7 = ((29 : Nat) : Int))) (zcs (zn_i_1) (zcs ((by decide : ((26 : Nat) : Int) + 4 = ((30 : Nat) : Int))) (zcs (zn_i_0) (zcs (rfl) (znil))))))))))))))))))
theorem zg83 : zgm zm83 := fun e h => ⟨zd83 e h, zal_mem zk83 e h⟩
set_option maxRecDepth 100000 in
theorem zd84 : ∀ e ∈ zc84, zsw? e.2.1 = true ∨ decode cX10_isFrom e.1 = .ok (e.2.1, zln e.2.1) := by decide +kernel
set_option maxRecDepth 100000 in
theorem zk84 : zal_ zm84 zc84 := zcs (trivial) (zcs (trivial) (zcs (zli_X10_21) (zcs ((by decide : ((5 : Nat) : Int) + 27 = ((32 : Nat) : Int))) (zcs (trivial) (zcs (trivial) (zcs (zli_X10_25) (zcs ((by decide : ((13 : Nat) : Int) + 19 = ((32 : Nat) : Int))) (zcs (trivial) (zcs (trivial) (zcs (zlf_X10_11) (zcs (zn_i_1) (zcs (trivial) (zcs (trivial) (zcs (trivial) (zcs ((by decide : ((25 : Nat) : Int) + 7 = ((32 : Nat) : Int))) (zcs (zn_i_1) (zcs ((by decide : ((29 : Nat) : Int) + 4 = ((33 : Nat) : Int))) (zcs (zn_i_0) (zcs (rfl) (znil))))))))))))))))))))
theorem zg84 : zgm zm84 := fun e h => ⟨zd84 e h, zal_mem zk84 e h⟩
set_option maxRecDepth 100000 in
theorem zd85 : ∀ e ∈ zc85, zsw? e.2.1 = true ∨ decode cX10_bargesMeet e.1 = .ok (e.2.1, zln e.2.1) := by decide +kernel
set_option maxRecDepth 100000 in
theorem zk85 : zal_ zm85 zc85 := zcs (trivial) (zcs (zlf_X10_11) (zcs (zn_b_84) (zcs (trivial) (zcs (zn_i_2) (zcs ((by decide : ((8 : Nat) : Int) + 22 = ((30 : Nat) : Int))) (zcs (trivial) (zcs (zlf_X10_11) (zcs (zn_i_1) (zcs (trivial) (zcs (trivial) (zcs (zlf_X10_11) (zcs (zn_i_2) (zcs (trivial) (zcs ((by decide : ((23 : Nat) : Int) + 7 = ((30 : Nat) : Int))) (zcs (zn_i_1) (zcs ((by decide : ((27 : Nat) : Int) + 4 = ((31 : Nat) : Int))) (zcs (zn_i_0) (zcs (rfl) (znil)))))))))))))))))))
theorem zg85 : zgm zm85 := fun e h => ⟨zd85 e h, zal_mem zk85 e h⟩
set_option maxRecDepth 100000 in
theorem zd86 : ∀ e ∈ zc86, zsw? e.2.1 = true ∨ decode cX10_depthOf e.1 = .ok (e.2.1, zln e.2.1) := by decide +kernel
set_option maxRecDepth 100000 in
theorem zk86 : zal_ zm86 zc86 := zcs (trivial) (zcs (trivial) (zcs (zli_X10_25) (zcs ((by decide : ((5 : Nat) : Int) + 5 = ((10 : Nat) : Int))) (zcs (zn_i_0) (zcs (rfl) (zcs (trivial) (zcs (zlf_X10_11) (zcs (zn_b_121) (zcs (trivial) (zcs (zn_i_4) (zcs (trivial) (zcs (trivial) (zcs (trivial) (zcs (zlf_X10_11) (zcs (zn_i_0) (zcs (trivial) (zcs (zn_b_90) (zcs (trivial) (zcs (zn_i_4) (zcs (trivial) (zcs (trivial) (zcs (trivial) (zcs (rfl) (znil))))))))))))))))))))))))
theorem zg86 : zgm zm86 := fun e h => ⟨zd86 e h, zal_mem zk86 e h⟩
set_option maxRecDepth 100000 in
theorem zd87 : ∀ e ∈ zc87, zsw? e.2.1 = true ∨ decode cX10_coins e.1 = .ok (e.2.1, zln e.2.1) := by decide +kernel
set_option maxRecDepth 100000 in
theorem zk87 : zal_ zm87 zc87 := zcs (trivial) (zcs (zn_s_171) (zcs (trivial) (zcs (zn_b_12) (zcs (trivial) (zcs (trivial) (zcs (trivial) (zcs (zli_X10_28) (zcs (rfl) (znil)))))))))
theorem zg87 : zgm zm87 := fun e h => ⟨zd87 e h, zal_mem zk87 e h⟩
set_option maxRecDepth 100000 in
theorem zd88 : ∀ e ∈ zc88, zsw? e.2.1 = true ∨ decode cX10_heavy e.1 = .ok (e.2.1, zln e.2.1) := by decide +kernel
set_option maxRecDepth 100000 in
theorem zk88 : zal_ zm88 zc88 := zcs (trivial) (zcs (zn_b_97) (zcs (trivial) (zcs (zli_X10_28) (zcs (trivial) (zcs (zn_b_35) (zcs (trivial) (zcs (zli_X10_28) (zcs (trivial) (zcs (rfl) (znil))))))))))
theorem zg88 : zgm zm88 := fun e h => ⟨zd88 e h, zal_mem zk88 e h⟩
set_option maxRecDepth 100000 in
theorem zd89 : ∀ e ∈ zc89, zsw? e.2.1 = true ∨ decode cX10_arm e.1 = .ok (e.2.1, zln e.2.1) := by decide +kernel
set_option maxRecDepth 100000 in
theorem zk89 : zal_ zm89 zc89 := zcs (zn_i_2) (zcs (trivial) (zcs (trivial) (zcs (trivial) (zcs (zn_b_89) (zcs (trivial) (zcs (zli_X10_28) (zcs (trivial) (zcs (zn_i_1) (zcs (trivial) (zcs (rfl) (znil)))))))))))
theorem zg89 : zgm zm89 := fun e h => ⟨zd89 e h, zal_mem zk89 e h⟩
set_option maxRecDepth 100000 in
theorem zd90 : ∀ e ∈ zc90, zsw? e.2.1 = true ∨ decode cX10_shelfOf e.1 = .ok (e.2.1, zln e.2.1) := by decide +kernel
set_option maxRecDepth 100000 in
theorem zk90 : zal_ zm90 zc90 := zcs (trivial) (zcs (trivial) (zcs (zn_b_89) (zcs (trivial) (zcs (zli_X10_28) (zcs (zn_i_1) (zcs (trivial) (zcs (zli_X10_32) (zcs (rfl) (znil)))))))))
theorem zg90 : zgm zm90 := fun e h => ⟨zd90 e h, zal_mem zk90 e h⟩
set_option maxRecDepth 100000 in
theorem zd91 : ∀ e ∈ zc91, zsw? e.2.1 = true ∨ decode cX10_loadOf e.1 = .ok (e.2.1, zln e.2.1) := by decide +kernel
set_option maxRecDepth 100000 in
theorem zk91 : zal_ zm91 zc91 := zcs (trivial) (zcs (zn_b_91) (zcs (trivial) (zcs (zli_X10_28) (zcs (trivial) (zcs (zn_i_3) (zcs (trivial) (zcs (zli_X10_28) (zcs (trivial) (zcs (zlt_2_4) (zcs (zn_i_0) (zcs (zlt_3_4) (zcs (trivial) (zcs (trivial) (zcs (zlf_X10_11) (zcs (zn_b_85) (zcs (trivial) (zcs ((by decide : ((25 : Nat) : Int) + 47 = ((72 : Nat) : Int))) (zcs (trivial) (zcs (zlf_X10_11) (zcs (zn_b_47) (zcs (trivial) (zcs (trivial) (zcs (trivial) (zcs (zn_b_100) (zcs (trivial) (zcs (trivial) (zcs ((by decide : ((41 : Nat) : Int) + 25 = ((66 : Nat) : Int))) (zcs (trivial) (zcs (trivial) (zcs (zlf_X10_11) (zcs (zn_b_97) (zcs (trivial) (zcs (trivial) (zcs (trivial) (zcs (trivial) (zcs (zlf_X10_11) (zcs (zn_b_35) (zcs (trivial) (zcs (trivial) (zcs (trivial) (zcs (trivial) (zcs (trivial) (zcs (zlt_2_4) (zcs (⟨zn_i_1, zlt_3_4⟩) (zcs ((by decide : ((69 : Nat) : Int) + (-52) = ((17 : Nat) : Int))) (zcs (trivial) (zcs (rfl) (znil))))))))))))))))))))))))))))))))))))))))))))))))
theorem zg91 : zgm zm91 := fun e h => ⟨zd91 e h, zal_mem zk91 e h⟩
set_option maxRecDepth 100000 in
theorem zd92 : ∀ e ∈ zc92, zsw? e.2.1 = true ∨ decode cX10_tiltOf e.1 = .ok (e.2.1, zln e.2.1) := by decide +kernel
set_option maxRecDepth 100000 in
theorem zk92 : zal_ zm92 zc92 := zcs (zn_i_0) (zcs (zlt_2_5) (zcs (trivial) (zcs (zn_b_89) (zcs (trivial) (zcs (zli_X10_28) (zcs (zn_i_1) (zcs (trivial) (zcs (zlt_3_5) (zcs (zn_i_0) (zcs (zlt_4_5) (zcs (trivial) (zcs (trivial) (zcs (zlf_X10_11) (zcs (zn_b_85) (zcs (trivial) (zcs ((by decide : ((24 : Nat) : Int) + 65 = ((89 : Nat) : Int))) (zcs (trivial) (zcs (zlf_X10_11) (zcs (zn_b_47) (zcs (trivial) (zcs (trivial) (zcs (trivial) (zcs (zn_b_100) (zcs (trivial) (zcs (trivial) (zcs ((by decide : ((41 : Nat) : Int) + 42 = ((83 : Nat) : Int))) (zcs (trivial) (zcs (trivial) (zcs (zlf_X10_11) (zcs (zn_b_97) (zcs (trivial) (zcs (trivial) (zcs (trivial) (zcs (trivial) (zcs (zlf_X10_11) (zcs (zn_b_35) (zcs (trivial) (zcs (trivial) (zcs (trivial) (zcs (trivial) (zcs (zn_i_2) (zcs (trivial) (zcs (zlf_X10_11) (zcs (zn_b_23) (zcs (trivial) (zcs (trivial) (zcs (trivial) (zcs (trivial) (zcs (trivial) (zcs (trivial) (zcs (trivial) (zcs (trivial) (zcs (zlt_2_5) (zcs (⟨zn_i_1, zlt_4_5⟩) (zcs ((by decide : ((86 : Nat) : Int) + (-71) = ((15 : Nat) : Int))) (zcs (trivial) (zcs (rfl) (znil))))))))))))))))))))))))))))))))))))))))))))))))))))))))))
theorem zg92 : zgm zm92 := fun e h => ⟨zd92 e h, zal_mem zk92 e h⟩
set_option maxRecDepth 100000 in
theorem zd93 : ∀ e ∈ zc93, zsw? e.2.1 = true ∨ decode cX10_draughtBy e.1 = .ok (e.2.1, zln e.2.1) := by decide +kernel
set_option maxRecDepth 100000 in
theorem zk93 : zal_ zm93 zc93 := zcs (trivial) (zcs (zn_i_1) (zcs ((by decide : ((2 : Nat) : Int) + 8 = ((10 : Nat) : Int))) (zcs (trivial) (zcs (zn_i_1) (zcs ((by decide : ((7 : Nat) : Int) + 5 = ((12 : Nat) : Int))) (zcs (zn_i_0) (zcs (rfl) (zcs (trivial) (zcs (trivial) (zcs (trivial) (zcs (zn_i_1) (zcs (trivial) (zcs (trivial) (zcs (trivial) (zcs (trivial) (zcs (zli_X10_37) (zcs (trivial) (zcs (trivial) (zcs (trivial) (zcs (rfl) (znil)))))))))))))))))))))
theorem zg93 : zgm zm93 := fun e h => ⟨zd93 e h, zal_mem zk93 e h⟩
set_option maxRecDepth 100000 in
theorem zd94 : ∀ e ∈ zc94, zsw? e.2.1 = true ∨ decode cX10_draughtOf e.1 = .ok (e.2.1, zln e.2.1) := by decide +kernel
set_option maxRecDepth 100000 in
theorem zk94 : zal_ zm94 zc94 := zcs (trivial) (zcs (trivial) (zcs (zli_X10_41) (zcs (trivial) (zcs (trivial) (zcs (zli_X10_44) (zcs (trivial) (zcs (zn_b_93) (zcs (trivial) (zcs (zli_X10_28) (zcs (trivial) (zcs (zn_b_95) (zcs (trivial) (zcs (zli_X10_28) (zcs (zli_X10_47) (zcs (rfl) (znil))))))))))))))))
theorem zg94 : zgm zm94 := fun e h => ⟨zd94 e h, zal_mem zk94 e h⟩
set_option maxRecDepth 100000 in
theorem zd95 : ∀ e ∈ zc95, zsw? e.2.1 = true ∨ decode cX10_passes e.1 = .ok (e.2.1, zln e.2.1) := by decide +kernel
set_option maxRecDepth 100000 in
theorem zk95 : zal_ zm95 zc95 := zcs (trivial) (zcs (trivial) (zcs (zli_X10_51) (zcs (trivial) (zcs (trivial) (zcs (zli_X10_54) (zcs ((by decide : ((10 : Nat) : Int) + 7 = ((17 : Nat) : Int))) (zcs (zn_i_1) (zcs ((by decide : ((14 : Nat) : Int) + 4 = ((18 : Nat) : Int))) (zcs (zn_i_0) (zcs (rfl) (znil)))))))))))
theorem zg95 : zgm zm95 := fun e h => ⟨zd95 e h, zal_mem zk95 e h⟩
set_option maxRecDepth 100000 in
theorem zd96 : ∀ e ∈ zc96, zsw? e.2.1 = true ∨ decode cX10_bargeOf e.1 = .ok (e.2.1, zln e.2.1) := by decide +kernel
set_option maxRecDepth 100000 in
theorem zk96 : zal_ zm96 zc96 := zcs (trivial) (zcs (trivial) (zcs (zli_X10_57) (zcs ((by decide : ((5 : Nat) : Int) + 15 = ((20 : Nat) : Int))) (zcs (trivial) (zcs (zlf_X10_11) (zcs (zn_b_47) (zcs (trivial) (zcs (trivial) (zcs (trivial) (zcs ((by decide : ((17 : Nat) : Int) + 6 = ((23 : Nat) : Int))) (zcs (zn_s_300) (zcs (zlt_2_3) (zcs (trivial) (zcs (zn_b_100) (zcs ((by decide : ((27 : Nat) : Int) + 9 = ((36 : Nat) : Int))) (zcs (trivial) (zcs (zn_b_101) (zcs ((by decide : ((33 : Nat) : Int) + 10 = ((43 : Nat) : Int))) (zcs (trivial) (zcs (zn_b_100) (zcs (trivial) (zcs ((by decide : ((40 : Nat) : Int) + 4 = ((44 : Nat) : Int))) (zcs (zn_i_m1) (zcs (rfl) (znil)))))))))))))))))))))))))
theorem zg96 : zgm zm96 := fun e h => ⟨zd96 e h, zal_mem zk96 e h⟩
set_option maxRecDepth 100000 in
theorem zd97 : ∀ e ∈ zc97, zsw? e.2.1 = true ∨ decode cX10_booksAt e.1 = .ok (e.2.1, zln e.2.1) := by decide +kernel
set_option maxRecDepth 100000 in
theorem zk97 : zal_ zm97 zc97 := zcs (zn_i_0) (zcs (zlt_2_4) (zcs (zn_i_0) (zcs (zlt_3_4) (zcs (trivial) (zcs (trivial) (zcs (zlf_X10_11) (zcs (zn_b_85) (zcs (trivial) (zcs ((by decide : ((12 : Nat) : Int) + 28 = ((40 : Nat) : Int))) (zcs (trivial) (zcs (zlf_X10_11) (zcs (zn_b_47) (zcs (trivial) (zcs (trivial) (zcs (trivial) (zcs (trivial) (zcs ((by decide : ((25 : Nat) : Int) + 9 = ((34 : Nat) : Int))) (zcs (trivial) (zcs (zn_i_1) (zcs (trivial) (zcs (trivial) (zcs (trivial) (zcs (zlt_2_4) (zcs (⟨zn_i_1, zlt_3_4⟩) (zcs ((by decide : ((37 : Nat) : Int) + (-33) = ((4 : Nat) : Int))) (zcs (trivial) (zcs (rfl) (znil))))))))))))))))))))))))))))
theorem zg97 : zgm zm97 := fun e h => ⟨zd97 e h, zal_mem zk97 e h⟩
set_option maxRecDepth 100000 in
theorem zd98 : ∀ e ∈ zc98, zsw? e.2.1 = true ∨ decode cX10_readersAt e.1 = .ok (e.2.1, zln e.2.1) := by decide +kernel
set_option maxRecDepth 100000 in
theorem zk98 : zal_ zm98 zc98 := zcs (zn_i_0) (zcs (zlt_2_4) (zcs (zn_i_0) (zcs (zlt_3_4) (zcs (trivial) (zcs (trivial) (zcs (zlf_X10_11) (zcs (zn_b_87) (zcs (trivial) (zcs ((by decide : ((12 : Nat) : Int) + 29 = ((41 : Nat) : Int))) (zcs (trivial) (zcs (zlf_X10_11) (zcs (zn_s_153) (zcs (trivial) (zcs (trivial) (zcs (trivial) (zcs (trivial) (zcs ((by decide : ((26 : Nat) : Int) + 9 = ((35 : Nat) : Int))) (zcs (trivial) (zcs (zn_i_1) (zcs (trivial) (zcs (trivial) (zcs (trivial) (zcs (zlt_2_4) (zcs (⟨zn_i_1, zlt_3_4⟩) (zcs ((by decide : ((38 : Nat) : Int) + (-34) = ((4 : Nat) : Int))) (zcs (trivial) (zcs (rfl) (znil))))))))))))))))))))))))))))
theorem zg98 : zgm zm98 := fun e h => ⟨zd98 e h, zal_mem zk98 e h⟩
set_option maxRecDepth 100000 in
theorem zd99 : ∀ e ∈ zc99, zsw? e.2.1 = true ∨ decode cX10_booksBetween e.1 = .ok (e.2.1, zln e.2.1) := by decide +kernel
set_option maxRecDepth 100000 in
theorem zk99 : zal_ zm99 zc99 := zcs (zn_i_0) (zcs (zlt_3_5) (zcs (zn_i_0) (zcs (zlt_4_5) (zcs (trivial) (zcs (trivial) (zcs (zlf_X10_11) (zcs (zn_b_85) (zcs (trivial) (zcs ((by decide : ((14 : Nat) : Int) + 40 = ((54 : Nat) : Int))) (zcs (trivial) (zcs (zlf_X10_11) (zcs (zn_b_47) (zcs (trivial) (zcs (trivial) (zcs (trivial) (zcs (trivial) (zcs ((by decide : ((28 : Nat) : Int) + 20 = ((48 : Nat) : Int))) (zcs (trivial) (zcs (zlf_X10_11) (zcs (zn_b_47) (zcs (trivial) (zcs (trivial) (zcs (trivial) (zcs (trivial) (zcs ((by decide : ((42 : Nat) : Int) + 6 = ((48 : Nat) : Int))) (zcs (⟨zn_i_1, zlt_3_5⟩) (zcs (⟨zn_i_1, zlt_4_5⟩) (zcs ((by decide : ((51 : Nat) : Int) + (-46) = ((5 : Nat) : Int))) (zcs (trivial) (zcs (rfl) (znil)))))))))))))))))))))))))))))))
theorem zg99 : zgm zm99 := fun e h => ⟨zd99 e h, zal_mem zk99 e h⟩
set_option maxRecDepth 100000 in
theorem zd100 : ∀ e ∈ zc100, zsw? e.2.1 = true ∨ decode cX10_waitsFor e.1 = .ok (e.2.1, zln e.2.1) := by decide +kernel
set_option maxRecDepth 100000 in
theorem zk100 : zal_ zm100 zc100 := zcs (trivial) (zcs (trivial) (zcs (zli_X10_60) (zcs ((by decide : ((5 : Nat) : Int) + 39 = ((44 : Nat) : Int))) (zcs (trivial) (zcs (zlf_X10_11) (zcs (zn_s_153) (zcs (trivial) (zcs (trivial) (zcs (trivial) (zcs (trivial) (zcs (zn_i_1) (zcs (trivial) (zcs (zli_X10_28) (zcs ((by decide : ((24 : Nat) : Int) + 20 = ((44 : Nat) : Int))) (zcs (trivial) (zcs (zlf_X10_11) (zcs (zn_b_11) (zcs (trivial) (zcs (trivial) (zcs (trivial) (zcs (zn_i_m1) (zcs ((by decide : ((37 : Nat) : Int) + 7 = ((44 : Nat) : Int))) (zcs (zn_i_1) (zcs ((by decide : ((41 : Nat) : Int) + 4 = ((45 : Nat) : Int))) (zcs (zn_i_0) (zcs (rfl) (znil)))))))))))))))))))))))))))
theorem zg100 : zgm zm100 := fun e h => ⟨zd100 e h, zal_mem zk100 e h⟩
set_option maxRecDepth 100000 in
theorem zd101 : ∀ e ∈ zc101, zsw? e.2.1 = true ∨ decode cX10_keenestReader e.1 = .ok (e.2.1, zln e.2.1) := by decide +kernel
set_option maxRecDepth 100000 in
theorem zk101 : zal_ zm101 zc101 := zcs (zn_i_m1) (zcs (zlt_3_7) (zcs (zn_i_0) (zcs (zlt_4_7) (zcs (zn_i_0) (zcs (zlt_5_7) (zcs (trivial) (zcs (trivial) (zcs (zlf_X10_11) (zcs (zn_b_87) (zcs (trivial) (zcs ((by decide : ((17 : Nat) : Int) + 78 = ((95 : Nat) : Int))) (zcs (trivial) (zcs (trivial) (zcs (zli_X10_57) (zcs ((by decide : ((25 : Nat) : Int) + 70 = ((95 : Nat) : Int))) (zcs (trivial) (zcs (zlf_X10_11) (zcs (zn_s_171) (zcs (trivial) (zcs (zn_b_12) (zcs (trivial) (zcs (trivial) (zcs (trivial) (zcs (trivial) (zcs (trivial) (zcs (zlt_6_7) (zcs (trivial) (zcs (trivial) (zcs ((by decide : ((50 : Nat) : Int) + 39 = ((89 : Nat) : Int))) (zcs (trivial) (zcs (zlf_X10_11) (zcs (zn_s_153) (zcs (trivial) (zcs (trivial) (zcs (trivial) (zcs (trivial) (zcs ((by decide : ((65 : Nat) : Int) + 24 = ((89 : Nat) : Int))) (zcs (trivial) (zcs (zlf_X10_11) (zcs (zn_b_11) (zcs (trivial) (zcs (trivial) (zcs (trivial) (zcs (zn_i_m1) (zcs ((by decide : ((79 : Nat) : Int) + 10 = ((89 : Nat) : Int))) (zcs (trivial) (zcs (zlt_4_7) (zcs (trivial) (zcs (zlt_3_7) (zcs (⟨zn_i_1, zlt_5_7⟩) (zcs ((by decide : ((92 : Nat) : Int) + (-84) = ((8 : Nat) : Int))) (zcs (trivial) (zcs (rfl) (znil))))))))))))))))))))))))))))))))))))))))))))))))))))))
theorem zg101 : zgm zm101 := fun e h => ⟨zd101 e h, zal_mem zk101 e h⟩
set_option maxRecDepth 100000 in
theorem zd102 : ∀ e ∈ zc102, zsw? e.2.1 = true ∨ decode cX10_canFetch e.1 = .ok (e.2.1, zln e.2.1) := by decide +kernel
set_option maxRecDepth 100000 in
theorem zk102 : zal_ zm102 zc102 := zcs (trivial) (zcs (trivial) (zcs (zli_X10_57) (zcs ((by decide : ((5 : Nat) : Int) + 5 = ((10 : Nat) : Int))) (zcs (zn_i_0) (zcs (rfl) (zcs (trivial) (zcs (zlf_X10_11) (zcs (zn_b_47) (zcs (trivial) (zcs (trivial) (zcs (trivial) (zcs (zlt_3_6) (zcs (trivial) (zcs (zn_i_1) (zcs (trivial) (zcs (zli_X10_28) (zcs (zlt_4_6) (zcs (trivial) (zcs (zn_s_200) (zcs (trivial) (zcs (zlt_5_6) (zcs (trivial) (zcs (trivial) (zcs (zli_X10_60) (zcs ((by decide : ((41 : Nat) : Int) + 15 = ((56 : Nat) : Int))) (zcs (trivial) (zcs (trivial) (zcs ((by decide : ((47 : Nat) : Int) + 7 = ((54 : Nat) : Int))) (zcs (zn_i_1) (zcs ((by decide : ((51 : Nat) : Int) + 4 = ((55 : Nat) : Int))) (zcs (zn_i_0) (zcs (rfl) (zcs (trivial) (zcs (zlf_X10_11) (zcs (zn_s_153) (zcs (trivial) (zcs (trivial) (zcs (trivial) (zcs (trivial) (zcs ((by decide : ((69 : Nat) : Int) + 25 = ((94 : Nat) : Int))) (zcs (trivial) (zcs (zlf_X10_11) (zcs (zn_i_0) (zcs (trivial) (zcs (trivial) (zcs (zlf_X10_11) (zcs (zn_b_71) (zcs (trivial) (zcs (trivial) (zcs (trivial) (zcs ((by decide : ((87 : Nat) : Int) + 7 = ((94 : Nat) : Int))) (zcs (zn_i_1) (zcs ((by decide : ((91 : Nat) : Int) + 4 = ((95 : Nat) : Int))) (zcs (zn_i_0) (zcs (rfl) (znil))))))))))))))))))))))))))))))))))))))))))))))))))))))))
theorem zg102 : zgm zm102 := fun e h => ⟨zd102 e h, zal_mem zk102 e h⟩
set_option maxRecDepth 100000 in
theorem zd103 : ∀ e ∈ zc103, zsw? e.2.1 = true ∨ decode cX10_isOpen e.1 = .ok (e.2.1, zln e.2.1) := by decide +kernel
set_option maxRecDepth 100000 in
theorem zk103 : zal_ zm103 zc103 := zcs (trivial) (zcs (trivial) (zcs (zli_X10_63) (zcs ((by decide : ((5 : Nat) : Int) + 19 = ((24 : Nat) : Int))) (zcs (trivial) (zcs (zlf_X10_11) (zcs (zn_b_7) (zcs (trivial) (zcs (trivial) (zcs (trivial) (zcs ((by decide : ((17 : Nat) : Int) + 7 = ((24 : Nat) : Int))) (zcs (zn_i_1) (zcs ((by decide : ((21 : Nat) : Int) + 4 = ((25 : Nat) : Int))) (zcs (zn_i_0) (zcs (rfl) (znil)))))))))))))))
theorem zg103 : zgm zm103 := fun e h => ⟨zd103 e h, zal_mem zk103 e h⟩
set_option maxRecDepth 100000 in
theorem zd104 : ∀ e ∈ zc104, zsw? e.2.1 = true ∨ decode cX10_fits e.1 = .ok (e.2.1, zln e.2.1) := by decide +kernel
set_option maxRecDepth 100000 in
theorem zk104 : zal_ zm104 zc104 := zcs (trivial) (zcs (trivial) (zcs (zli_X10_66) (zcs (zlt_3_4) (zcs (trivial) (zcs (zn_i_m1) (zcs ((by decide : ((8 : Nat) : Int) + 37 = ((45 : Nat) : Int))) (zcs (trivial) (zcs (trivial) (zcs (zn_s_243) (zcs (trivial) (zcs (zli_X10_28) (zcs ((by decide : ((20 : Nat) : Int) + 25 = ((45 : Nat) : Int))) (zcs (trivial) (zcs (zn_b_97) (zcs (trivial) (zcs (zli_X10_28) (zcs (trivial) (zcs (zn_s_247) (zcs (trivial) (zcs (zli_X10_28) (zcs ((by decide : ((38 : Nat) : Int) + 7 = ((45 : Nat) : Int))) (zcs (zn_i_1) (zcs ((by decide : ((42 : Nat) : Int) + 4 = ((46 : Nat) : Int))) (zcs (zn_i_0) (zcs (rfl) (znil))))))))))))))))))))))))))
theorem zg104 : zgm zm104 := fun e h => ⟨zd104 e h, zal_mem zk104 e h⟩
set_option maxRecDepth 100000 in
theorem zd105 : ∀ e ∈ zc105, zsw? e.2.1 = true ∨ decode cX10_putAshore e.1 = .ok (e.2.1, zln e.2.1) := by decide +kernel
set_option maxRecDepth 100000 in
theorem zk105 : zal_ zm105 zc105 := zcs (trivial) (zcs (trivial) (zcs (zli_X10_57) (zcs ((by decide : ((5 : Nat) : Int) + 18 = ((23 : Nat) : Int))) (zcs (trivial) (zcs (zlf_X10_11) (zcs (zn_b_47) (zcs (trivial) (zcs (trivial) (zcs (trivial) (zcs (zn_i_1) (zcs (trivial) (zcs (zli_X10_28) (zcs (trivial) (zcs (rfl) (znil)))))))))))))))
theorem zg105 : zgm zm105 := fun e h => ⟨zd105 e h, zal_mem zk105 e h⟩
set_option maxRecDepth 100000 in
theorem zd106 : ∀ e ∈ zc106, zsw? e.2.1 = true ∨ decode cX10_giveTo e.1 = .ok (e.2.1, zln e.2.1) := by decide +kernel
set_option maxRecDepth 100000 in
theorem zk106 : zal_ zm106 zc106 := zcs (trivial) (zcs (trivial) (zcs (zli_X10_60) (zcs ((by decide : ((5 : Nat) : Int) + 19 = ((24 : Nat) : Int))) (zcs (trivial) (zcs (trivial) (zcs (zli_X10_57) (zcs ((by decide : ((13 : Nat) : Int) + 11 = ((24 : Nat) : Int))) (zcs (trivial) (zcs (trivial) (zcs (zli_X10_21) (zcs ((by decide : ((21 : Nat) : Int) + 4 = ((25 : Nat) : Int))) (zcs (rfl) (zcs (trivial) (zcs (zlf_X10_11) (zcs (zn_b_47) (zcs (trivial) (zcs (trivial) (zcs (zn_s_200) (zcs (trivial) (zcs (trivial) (zcs (trivial) (zcs (trivial) (zcs (zlf_X10_11) (zcs (zn_b_71) (zcs (trivial) (zcs (trivial) (zcs (trivial) (zcs (zlf_X10_11) (zcs (zn_i_0) (zcs (trivial) (zcs (trivial) (zcs (zlf_X10_11) (zcs (zn_s_165) (zcs (trivial) (zcs (trivial) (zcs (trivial) (zcs (trivial) (zcs (trivial) (zcs (trivial) (zcs (zlf_X10_11) (zcs (zn_b_59) (zcs (trivial) (zcs (trivial) (zcs (trivial) (zcs (trivial) (zcs (zn_i_1) (zcs (trivial) (zcs (trivial) (zcs (trivial) (zcs (zlf_X10_11) (zcs (zn_b_11) (zcs (trivial) (zcs (trivial) (zcs (trivial) (zcs (trivial) (zcs (trivial) (zcs (zlf_X10_11) (zcs (zn_b_17) (zcs (trivial) (zcs (trivial) (zcs (trivial) (zcs (trivial) (zcs (zn_i_1) (zcs (trivial) (zcs (trivial) (zcs (trivial) (zcs (zlf_X10_11) (zcs (zn_i_5) (zcs (trivial) (zcs (trivial) (zcs (trivial) (zcs (trivial) (zcs (trivial) (zcs (trivial) (zcs (trivial) (zcs (zli_X10_69) (zcs (trivial) (zcs (trivial) (zcs (rfl) (znil))))))))))))))))))))))))))))))))))))))))))))))))))))))))))))))))))))))))))))))))
theorem zg106 : zgm zm106 := fun e h => ⟨zd106 e h, zal_mem zk106 e h⟩
set_option maxRecDepth 100000 in
theorem zd107 : ∀ e ∈ zc107, zsw? e.2.1 = true ∨ decode cX10_takeIn e.1 = .ok (e.2.1, zln e.2.1) := by decide +kernel
set_option maxRecDepth 100000 in
theorem zk107 : zal_ zm107 zc107 := zcs (trivial) (zcs (zn_b_47) (zcs (trivial) (zcs (zli_X10_28) (zcs (zn_s_200) (zcs (trivial) (zcs (zlt_4_5) (zcs (trivial) (zcs (trivial) (zcs (zli_X10_60) (zcs ((by decide : ((19 : Nat) : Int) + 59 = ((78 : Nat) : Int))) (zcs (trivial) (zcs (zlf_X10_11) (zcs (zn_b_11) (zcs (trivial) (zcs (trivial) (zcs (zn_i_m1) (zcs (trivial) (zcs (trivial) (zcs (zlf_X10_11) (zcs (zn_b_35) (zcs (trivial) (zcs (trivial) (zcs (zn_b_9) (zcs (trivial) (zcs (zlf_X10_11) (zcs (zn_b_35) (zcs (trivial) (zcs (trivial) (zcs (trivial) (zcs (trivial) (zcs (zlf_X10_11) (zcs (zn_s_159) (zcs (trivial) (zcs (trivial) (zcs (trivial) (zcs (trivial) (zcs (zli_X10_32) (zcs (trivial) (zcs (trivial) (zcs (zlf_X10_11) (zcs (zn_b_71) (zcs (trivial) (zcs (trivial) (zcs (zn_i_m1) (zcs (trivial) (zcs (trivial) (zcs (trivial) (zcs (trivial) (zcs (trivial) (zcs (zli_X10_72) (zcs (rfl) (znil))))))))))))))))))))))))))))))))))))))))))))))))))))
theorem zg107 : zgm zm107 := fun e h => ⟨zd107 e h, zal_mem zk107 e h⟩
set_option maxRecDepth 100000 in
theorem zd108 : ∀ e ∈ zc108, zsw? e.2.1 = true ∨ decode cX10_putAboard e.1 = .ok (e.2.1, zln e.2.1) := by decide +kernel
set_option maxRecDepth 100000 in
theorem zk108 : zal_ zm108 zc108 := zcs (trivial) (zcs (trivial) (zcs (zli_X10_57) (zcs ((by decide : ((5 : Nat) : Int) + 26 = ((31 : Nat) : Int))) (zcs (trivial) (zcs (zlf_X10_11) (zcs (zn_b_47) (zcs (trivial) (zcs (trivial) (zcs (zn_b_100) (zcs (trivial) (zcs (trivial) (zcs (trivial) (zcs (trivial) (zcs (zlf_X10_11) (zcs (zn_b_23) (zcs (trivial) (zcs (trivial) (zcs (trivial) (zcs (trivial) (zcs (rfl) (znil)))))))))))))))))))))
theorem zg108 : zgm zm108 := fun e h => ⟨zd108 e h, zal_mem zk108 e h⟩
set_option maxRecDepth 100000 in
theorem zd109 : ∀ e ∈ zc109, zsw? e.2.1 = true ∨ decode cX10_passNight e.1 = .ok (e.2.1, zln e.2.1) := by decide +kernel
set_option maxRecDepth 100000 in
theorem zk109 : zal_ zm109 zc109 := zcs (trivial) (zcs (zlf_X10_11) (zcs (zn_i_0) (zcs (zn_s_9999) (zcs (trivial) (zcs (zlf_X10_11) (zcs (zn_i_0) (zcs (trivial) (zcs (zn_i_1) (zcs (trivial) (zcs (zli_X10_32) (zcs (trivial) (zcs (zn_i_0) (zcs (zlt_1_3) (zcs (trivial) (zcs (trivial) (zcs (zlf_X10_11) (zcs (zn_b_88) (zcs (trivial) (zcs ((by decide : ((30 : Nat) : Int) + 69 = ((99 : Nat) : Int))) (zcs (trivial) (zcs (zlf_X10_11) (zcs (zn_s_243) (zcs (trivial) (zcs (trivial) (zcs (trivial) (zcs (zlt_2_3) (zcs (trivial) (zcs (trivial) (zcs (zli_X10_76) (zcs ((by decide : ((49 : Nat) : Int) + 44 = ((93 : Nat) : Int))) (zcs (trivial) (zcs (trivial) (zcs (zli_X10_21) (zcs ((by decide : ((57 : Nat) : Int) + 36 = ((93 : Nat) : Int))) (zcs (trivial) (zcs (zlf_X10_11) (zcs (zn_i_3) (zcs (trivial) (zcs (trivial) (zcs (zn_s_9999) (zcs (trivial) (zcs (zlf_X10_11) (zcs (zn_i_3) (zcs (trivial) (zcs (trivial) (zcs (trivial) (zcs (trivial) (zcs (zlf_X10_11) (zcs (zn_s_247) (zcs (trivial) (zcs (trivial) (zcs (trivial) (zcs (trivial) (zcs (zli_X10_32) (zcs (trivial) (zcs (⟨zn_i_1, zlt_1_3⟩) (zcs ((by decide : ((96 : Nat) : Int) + (-74) = ((22 : Nat) : Int))) (zcs (rfl) (znil)))))))))))))))))))))))))))))))))))))))))))))))))))))))))))
theorem zg109 : zgm zm109 := fun e h => ⟨zd109 e h, zal_mem zk109 e h⟩
set_option maxRecDepth 100000 in
theorem zd110 : ∀ e ∈ zc110, zsw? e.2.1 = true ∨ decode cX10_canBeWetter e.1 = .ok (e.2.1, zln e.2.1) := by decide +kernel
set_option maxRecDepth 100000 in
theorem zk110 : zal_ zm110 zc110 := zcs (trivial) (zcs (trivial) (zcs (zli_X10_66) (zcs (zn_i_m1) (zcs ((by decide : ((6 : Nat) : Int) + 21 = ((27 : Nat) : Int))) (zcs (trivial) (zcs (zlf_X10_11) (zcs (zn_b_35) (zcs (trivial) (zcs (trivial) (zcs (trivial) (zcs (zn_b_9) (zcs ((by decide : ((20 : Nat) : Int) + 7 = ((27 : Nat) : Int))) (zcs (zn_i_1) (zcs ((by decide : ((24 : Nat) : Int) + 4 = ((28 : Nat) : Int))) (zcs (zn_i_0) (zcs (rfl) (znil)))))))))))))))))
theorem zg110 : zgm zm110 := fun e h => ⟨zd110 e h, zal_mem zk110 e h⟩
set_option maxRecDepth 100000 in
theorem zd111 : ∀ e ∈ zc111, zsw? e.2.1 = true ∨ decode cX10_canRain e.1 = .ok (e.2.1, zln e.2.1) := by decide +kernel
set_option maxRecDepth 100000 in
theorem zk111 : zal_ zm111 zc111 := zcs (zn_i_0) (zcs (zlt_1_2) (zcs (trivial) (zcs (trivial) (zcs (zlf_X10_11) (zcs (zn_b_85) (zcs (trivial) (zcs ((by decide : ((10 : Nat) : Int) + 19 = ((29 : Nat) : Int))) (zcs (trivial) (zcs (trivial) (zcs (zli_X10_79) (zcs ((by decide : ((18 : Nat) : Int) + 5 = ((23 : Nat) : Int))) (zcs (zn_i_1) (zcs (rfl) (zcs (⟨zn_i_1, zlt_1_2⟩) (zcs ((by decide : ((26 : Nat) : Int) + (-24) = ((2 : Nat) : Int))) (zcs (zn_i_0) (zcs (rfl) (znil))))))))))))))))))
theorem zg111 : zgm zm111 := fun e h => ⟨zd111 e h, zal_mem zk111 e h⟩
set_option maxRecDepth 100000 in
theorem zd112 : ∀ e ∈ zc112, zsw? e.2.1 = true ∨ decode cX10_wetAboard e.1 = .ok (e.2.1, zln e.2.1) := by decide +kernel
set_option maxRecDepth 100000 in
theorem zk112 : zal_ zm112 zc112 := zcs (zn_i_0) (zcs (zlt_1_3) (zcs (zn_i_0) (zcs (zlt_2_3) (zcs (trivial) (zcs (trivial) (zcs (zlf_X10_11) (zcs (zn_b_85) (zcs (trivial) (zcs ((by decide : ((12 : Nat) : Int) + 33 = ((45 : Nat) : Int))) (zcs (trivial) (zcs (trivial) (zcs (zli_X10_79) (zcs ((by decide : ((20 : Nat) : Int) + 19 = ((39 : Nat) : Int))) (zcs (trivial) (zcs (zlf_X10_11) (zcs (zn_b_35) (zcs (trivial) (zcs (trivial) (zcs (trivial) (zcs (trivial) (zcs (zn_i_1) (zcs (trivial) (zcs (trivial) (zcs (⟨zn_i_1, zlt_1_3⟩) (zcs (⟨zn_i_1, zlt_2_3⟩) (zcs ((by decide : ((42 : Nat) : Int) + (-38) = ((4 : Nat) : Int))) (zcs (trivial) (zcs (rfl) (znil)))))))))))))))))))))))))))))
theorem zg112 : zgm zm112 := fun e h => ⟨zd112 e h, zal_mem zk112 e h⟩
set_option maxRecDepth 100000 in
theorem zd113 : ∀ e ∈ zc113, zsw? e.2.1 = true ∨ decode cX10_roomOn e.1 = .ok (e.2.1, zln e.2.1) := by decide +kernel
set_option maxRecDepth 100000 in
theorem zk113 : zal_ zm113 zc113 := zcs (trivial) (zcs (trivial) (zcs (zli_X10_41) (zcs (zlt_4_10) (zcs (trivial) (zcs (trivial) (zcs (zli_X10_44) (zcs (zlt_5_10) (zcs (trivial) (zcs (trivial) (zcs (trivial) (zcs (zli_X10_82) (zcs (zlt_6_10) (zcs (trivial) (zcs (zn_b_93) (zcs (trivial) (zcs (zli_X10_28) (zcs (zlt_7_10) (zcs (trivial) (zcs (zn_b_95) (zcs (trivial) (zcs (zli_X10_28) (zcs (zlt_8_10) (zcs (zn_s_999) (zcs (trivial) (zcs (trivial) (zcs (trivial) (zcs (trivial) (zcs (trivial) (zcs (zli_X10_32) (zcs (zlt_9_10) (zcs (trivial) (zcs ((by decide : ((57 : Nat) : Int) + 36 = ((93 : Nat) : Int))) (zcs (trivial) (zcs (trivial) (zcs (trivial) (zcs (trivial) (zcs (trivial) (zcs (trivial) (zcs (trivial) (zcs (trivial) (zcs (trivial) (zcs (trivial) (zcs (zli_X10_47) (zcs (trivial) (zcs ((by decide : ((81 : Nat) : Int) + 6 = ((87 : Nat) : Int))) (zcs (trivial) (zcs (rfl) (zcs (⟨zn_i_m1, zlt_9_10⟩) (zcs ((by decide : ((90 : Nat) : Int) + (-35) = ((55 : Nat) : Int))) (zcs (zn_i_0) (zcs (rfl) (znil))))))))))))))))))))))))))))))))))))))))))))))))))))
theorem zg113 : zgm zm113 := fun e h => ⟨zd113 e h, zal_mem zk113 e h⟩
set_option maxRecDepth 100000 in
theorem zd114 : ∀ e ∈ zc114, zsw? e.2.1 = true ∨ decode cX11_init e.1 = .ok (e.2.1, zln e.2.1) := by decide +kernel
set_option maxRecDepth 100000 in
theorem zk114 : zal_ zm114 zc114 := zcs (trivial) (zcs (zli_X11_1) (zcs (trivial) (zcs (zn_s_400) (zcs (Or.inr (Or.inl ⟨rfl, rfl⟩)) (zcs (⟨zlf_X11_9, zlp_X11_9_i⟩) (zcs (trivial) (zcs (zn_i_0) (zcs (⟨zlf_X11_13, (zlp_X11_13_i _)⟩) (zcs (trivial) (zcs (⟨RX10, TX10, 1, rfl, zw171, zw172, zw144⟩) (zcs (trivial) (zcs (zli_X11_19) (zcs (⟨zlf_X11_20, zlp_X11_20_i⟩) (zcs (trivial) (zcs (zn_i_4) (zcs (Or.inr ⟨rfl, zw171⟩) (zcs (⟨zlf_X11_24, zlp_X11_24_i⟩) (zcs (trivial) (zcs (zn_b_6) (zcs (Or.inl ⟨rfl, zw186⟩) (zcs (⟨zlf_X11_30, zlp_X11_30_i⟩) (zcs (trivial) (zcs (zn_i_0) (zcs (⟨zlf_X11_34, (zlp_X11_34_i _)⟩) (zcs (trivial) (zcs (zn_s_1660) (zcs (Or.inr (Or.inl ⟨rfl, rfl⟩)) (zcs (⟨zlf_X11_37, zlp_X11_37_i⟩) (zcs (trivial) (zcs (zn_i_0) (zcs (⟨zlf_X11_40, (zlp_X11_40_i _)⟩) (zcs (trivial) (zcs (zn_i_0) (zcs (⟨zlf_X11_43, (zlp_X11_43_i _)⟩) (zcs (trivial) (zcs (⟨RX6, TX6, 7, rfl, zw188, zw189, zw146⟩) (zcs (trivial) (zcs (zli_X11_48) (zcs (⟨zlf_X11_49, zlp_X11_49_i⟩) (zcs (trivial) (zcs (⟨RX8, TX8, 10, rfl, zw234, zw235, zw147⟩) (zcs (trivial) (zcs (zli_X11_55) (zcs (⟨zlf_X11_56, zlp_X11_56_i⟩) (zcs (trivial) (zcs (⟨RX1, TX1, 10, rfl, zw261, zw262, zw148⟩) (zcs (trivial) (zcs (zli_X11_62) (zcs (⟨zlf_X11_63, zlp_X11_63_i⟩) (zcs (trivial) (zcs (⟨RX2, TX2, 9, rfl, zw305, zw306, zw149⟩) (zcs (trivial) (zcs (zli_X11_69) (zcs (⟨zlf_X11_70, zlp_X11_70_i⟩) (zcs (trivial) (zcs (⟨RX3, TX3, 17, rfl, zw341, zw342, zw150⟩) (zcs (trivial) (zcs (zli_X11_76) (zcs (⟨zlf_X11_77, zlp_X11_77_i⟩) (zcs (trivial) (zcs (⟨RX4, TX4, 11, rfl, zw400, zw401, zw151⟩) (zcs (trivial) (zcs (zli_X11_83) (zcs (⟨zlf_X11_84, zlp_X11_84_i⟩) (zcs (trivial) (zcs (⟨RX0, TX0, 11, rfl, zw441, zw442, zw152⟩) (zcs (trivial) (zcs (zli_X11_90) (zcs (⟨zlf_X11_91, zlp_X11_91_i⟩) (zcs (trivial) (zcs (⟨RX5, TX5, 6, rfl, zw484, zw485, zw153⟩) (zcs (trivial) (zcs (zli_X11_97) (zcs (⟨zlf_X11_98, zlp_X11_98_i⟩) (zcs (rfl) (znil))))))))))))))))))))))))))))))))))))))))))))))))))))))))))))))))))))))))))))
theorem zg114 : zgm zm114 := fun e h => ⟨zd114 e h, zal_mem zk114 e h⟩
set_option maxRecDepth 100000 in
theorem zd115 : ∀ e ∈ zc115, zsw? e.2.1 = true ∨ decode cX11_feed e.1 = .ok (e.2.1, zln e.2.1) := by decide +kernel
set_option maxRecDepth 100000 in
theorem zk115 : zal_ zm115 zc115 := zcs (trivial) (zcs (zlf_X11_13) (zcs (zn_b_20) (zcs (trivial) (zcs (zn_s_400) (zcs ((by decide : ((10 : Nat) : Int) + 5 = ((15 : Nat) : Int))) (zcs (zn_i_m1) (zcs (rfl) (zcs (trivial) (zcs (trivial) (zcs (zli_X11_102) (zcs (trivial) (zcs (trivial) (zcs (zli_X11_102) (zcs (trivial) (zcs (trivial) (zcs (zli_X11_102) (zcs (trivial) (zcs (trivial) (zcs (zli_X11_102) (zcs (trivial) (zcs (trivial) (zcs (zli_X11_102) (zcs (trivial) (zcs (zlf_X11_13) (zcs (rfl) (znil))))))))))))))))))))))))))
theorem zg115 : zgm zm115 := fun e h => ⟨zd115 e h, zal_mem zk115 e h⟩
set_option maxRecDepth 100000 in
theorem zd116 : ∀ e ∈ zc116, zsw? e.2.1 = true ∨ decode cX11_appendFour e.1 = .ok (e.2.1, zln e.2.1) := by decide +kernel
set_option maxRecDepth 100000 in
theorem zk116 : zal_ zm116 zc116 := zcs (zn_b_24) (zcs (zlt_2_3) (zcs (trivial) (zcs ((by decide : ((4 : Nat) : Int) + 45 = ((49 : Nat) : Int))) (zcs (trivial) (zcs (zlf_X11_13) (zcs (zn_s_400) (zcs ((by decide : ((14 : Nat) : Int) + 35 = ((49 : Nat) : Int))) (zcs (trivial) (zcs (zlf_X11_9) (zcs (trivial) (zcs (zlf_X11_13) (zcs (trivial) (zcs (trivial) (zcs (trivial) (zcs (zn_s_255) (zcs (trivial) (zcs (trivial) (zcs (trivial) (zcs (trivial) (zcs (zlf_X11_13) (zcs (zn_i_1) (zcs (trivial) (zcs (⟨zlf_X11_13, (zlp_X11_13_n _)⟩) (zcs (⟨zn_i_m8, zlt_2_3⟩) (zcs ((by decide : ((46 : Nat) : Int) + (-43) = ((3 : Nat) : Int))) (zcs (rfl) (znil)))))))))))))))))))))))))))
theorem zg116 : zgm zm116 := fun e h => ⟨zd116 e h, zal_mem zk116 e h⟩
set_option maxRecDepth 100000 in
theorem zd117 : ∀ e ∈ zc117, zsw? e.2.1 = true ∨ decode cX11_end e.1 = .ok (e.2.1, zln e.2.1) := by decide +kernel
set_option maxRecDepth 100000 in
theorem zk117 : zal_ zm117 zc117 := zcs (trivial) (zcs ((by decide : ((1 : Nat) : Int) + 11 = ((12 : Nat) : Int))) (zcs (trivial) (zcs (trivial) (zcs (zlf_X11_13) (zcs ((by decide : ((9 : Nat) : Int) + 5 = ((14 : Nat) : Int))) (zcs (zn_i_m1) (zcs (rfl) (zcs (trivial) (zcs (trivial) (zcs (⟨zlf_X11_13, (zlp_X11_13_n _)⟩) (zcs (trivial) (zcs (rfl) (znil)))))))))))))
theorem zg117 : zgm zm117 := fun e h => ⟨zd117 e h, zal_mem zk117 e h⟩
set_option maxRecDepth 100000 in
theorem zd118 : ∀ e ∈ zc118, zsw? e.2.1 = true ∨ decode cX11_river e.1 = .ok (e.2.1, zln e.2.1) := by decide +kernel
set_option maxRecDepth 100000 in
theorem zk118 : zal_ zm118 zc118 := zcs (trivial) (zcs (zlf_X11_49) (zcs (trivial) (zcs (zlf_X11_9) (zcs (trivial) (zcs (zlf_X11_13) (zcs (zli_X11_106) (zcs (zlt_1_3) (zcs (trivial) (zcs (zn_i_0) (zcs (⟨zlf_X11_13, (zlp_X11_13_n _)⟩) (zcs (trivial) (zcs ((by decide : ((22 : Nat) : Int) + 8 = ((30 : Nat) : Int))) (zcs (zn_b_m2) (zcs (trivial) (zcs (trivial) (zcs (rfl) (zcs (trivial) (zcs (zlf_X11_20) (zcs (zn_b_83) (zcs (zn_i_0) (zcs (zli_X11_110) (zcs (zlt_2_3) (zcs (trivial) (zcs (zlf_X11_20) (zcs (trivial) (zcs (zlf_X11_49) (zcs (zlf_X11_114) (zcs (zli_X11_117) (zcs (trivial) (zcs (zlf_X11_20) (zcs (zlf_X11_121) (zcs (zn_b_83) (zcs (trivial) (zcs (trivial) (zcs (trivial) (zcs (zli_X11_124) (zcs (trivial) (zcs (zlf_X11_20) (zcs (zn_b_85) (zcs (zn_i_0) (zcs (zli_X11_110) (zcs (rfl) (znil)))))))))))))))))))))))))))))))))))))))))))
theorem zg118 : zgm zm118 := fun e h => ⟨zd118 e h, zal_mem zk118 e h⟩
set_option maxRecDepth 100000 in
theorem zd119 : ∀ e ∈ zc119, zsw? e.2.1 = true ∨ decode cX11_rule e.1 = .ok (e.2.1, zln e.2.1) := by decide +kernel
set_option maxRecDepth 100000 in
theorem zk119 : zal_ zm119 zc119 := zcs (trivial) (zcs (zlf_X11_34) (zcs (zn_b_6) (zcs ((by decide : ((6 : Nat) : Int) + 5 = ((11 : Nat) : Int))) (zcs (zn_i_m1) (zcs (rfl) (zcs (trivial) (zcs (zlf_X11_56) (zcs (trivial) (zcs (zlf_X11_9) (zcs (trivial) (zcs (zlf_X11_13) (zcs (zli_X11_127) (zcs (zlt_1_2) (zcs (trivial) (zcs (zn_i_0) (zcs (⟨zlf_X11_13, (zlp_X11_13_n _)⟩) (zcs (trivial) (zcs ((by decide : ((33 : Nat) : Int) + 8 = ((41 : Nat) : Int))) (zcs (zn_b_m2) (zcs (trivial) (zcs (trivial) (zcs (rfl) (zcs (trivial) (zcs (zlf_X11_30) (zcs (trivial) (zcs (zlf_X11_34) (zcs (trivial) (zcs (zlf_X11_56) (zcs (zli_X11_128) (zcs (trivial) (zcs (trivial) (zcs (trivial) (zcs (zlf_X11_34) (zcs (zn_i_1) (zcs (trivial) (zcs (⟨zlf_X11_34, (zlp_X11_34_n _)⟩) (zcs (trivial) (zcs (zlf_X11_34) (zcs (zn_i_1) (zcs (trivial) (zcs (rfl) (znil))))))))))))))))))))))))))))))))))))))))))
theorem zg119 : zgm zm119 := fun e h => ⟨zd119 e h, zal_mem zk119 e h⟩

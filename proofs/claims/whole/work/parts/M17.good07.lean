set_option maxRecDepth 100000 in
theorem zd295 : ∀ e ∈ zc295, zsw? e.2.1 = true ∨ decode cX12_back e.1 = .ok (e.2.1, zln e.2.1) := by decide +kernel
set_option maxRecDepth 100000 in
theorem zk295 : zal_ zm295 zc295 := zcs (trivial) (zcs (trivial) (zcs (zn_l_0) (zcs (zw2130) (zcs (zli_X12_112) (zcs ((by decide : ((9 : Nat) : Int) + 12 = ((21 : Nat) : Int))) (zcs (trivial) (zcs (zlf_X12_69) (zcs (trivial) (zcs (trivial) (zcs ((by decide : ((18 : Nat) : Int) + 5 = ((23 : Nat) : Int))) (zcs (zn_i_m1) (zcs (rfl) (zcs (trivial) (zcs (trivial) (zcs (zlf_X12_66) (zcs (trivial) (zcs (trivial) (zcs (⟨zlf_X12_517, (zlp_X12_517_n _)⟩) (zcs (trivial) (zcs (zn_i_0) (zcs (⟨zlf_X12_280, (zlp_X12_280_n _)⟩) (zcs (zn_i_0) (zcs (zlt_2_3) (zcs (trivial) (zcs (zn_s_258) (zcs ((by decide : ((44 : Nat) : Int) + 27 = ((71 : Nat) : Int))) (zcs (trivial) (zcs (zlf_X12_39) (zcs (trivial) (zcs (trivial) (zcs (zlf_X12_63) (zcs (zn_s_258) (zcs (trivial) (zcs (trivial) (zcs (trivial) (zcs (trivial) (zcs (trivial) (zcs (trivial) (zcs (⟨zn_i_1, zlt_2_3⟩) (zcs ((by decide : ((68 : Nat) : Int) + (-28) = ((40 : Nat) : Int))) (zcs (trivial) (zcs (zlf_X12_39) (zcs (zn_i_5) (zcs (trivial) (zcs (rfl) (znil))))))))))))))))))))))))))))))))))))))))))))))
theorem zg295 : zgm zm295 := fun e h => ⟨zd295 e h, zal_mem zk295 e h⟩
set_option maxRecDepth 100000 in
theorem zd296 : ∀ e ∈ zc296, zsw? e.2.1 = true ∨ decode cJ7_rangeCheck_23922 e.1 = .ok (e.2.1, zln e.2.1) := by decide +kernel
set_option maxRecDepth 100000 in
theorem zk296 : zal_ zm296 zc296 := zcs (trivial) (zcs (trivial) (zcs ((by decide : ((2 : Nat) : Int) + 44 = ((46 : Nat) : Int))) (zcs (trivial) (zcs ((by decide : ((47 : Nat) : Int) + 12 = ((59 : Nat) : Int))) (zcs (trivial) (zcs (trivial) (zcs ((by decide : ((61 : Nat) : Int) + 12 = ((73 : Nat) : Int))) (zcs (rfl) (znil)))))))))
theorem zg296 : zgm zm296 := fun e h => ⟨zd296 e h, zal_mem zk296 e h⟩
set_option maxRecDepth 100000 in
theorem zd297 : ∀ e ∈ zc297, zsw? e.2.1 = true ∨ decode cJ7_fill_53178 e.1 = .ok (e.2.1, zln e.2.1) := by decide +kernel
set_option maxRecDepth 100000 in
theorem zk297 : zal_ zm297 zc297 := zcs (zn_i_0) (zcs (zlt_2_4) (zcs (trivial) (zcs (trivial) (zcs (zlt_3_4) (zcs (trivial) (zcs (trivial) (zcs ((by decide : ((7 : Nat) : Int) + 13 = ((20 : Nat) : Int))) (zcs (trivial) (zcs (trivial) (zcs (trivial) (zcs (trivial) (zcs (⟨zn_i_1, zlt_2_4⟩) (zcs ((by decide : ((17 : Nat) : Int) + (-12) = ((5 : Nat) : Int))) (zcs (rfl) (znil)))))))))))))))
theorem zg297 : zgm zm297 := fun e h => ⟨zd297 e h, zal_mem zk297 e h⟩
set_option maxRecDepth 100000 in
theorem zd298 : ∀ e ∈ zc298, zsw? e.2.1 = true ∨ decode cJ7_fill_fda19 e.1 = .ok (e.2.1, zln e.2.1) := by decide +kernel
set_option maxRecDepth 100000 in
theorem zk298 : zal_ zm298 zc298 := zcs (trivial) (zcs (trivial) (zcs (trivial) (zcs (trivial) (zcs (zli_J7_13) (zcs (trivial) (zcs (zlt_4_5) (zcs (trivial) (zcs (trivial) (zcs ((by decide : ((13 : Nat) : Int) + 14 = ((27 : Nat) : Int))) (zcs (trivial) (zcs (trivial) (zcs (trivial) (zcs (trivial) (zcs (⟨zn_i_1, zlt_4_5⟩) (zcs ((by decide : ((24 : Nat) : Int) + (-14) = ((10 : Nat) : Int))) (zcs (rfl) (znil)))))))))))))))))
theorem zg298 : zgm zm298 := fun e h => ⟨zd298 e h, zal_mem zk298 e h⟩
set_option maxRecDepth 100000 in
theorem zd299 : ∀ e ∈ zc299, zsw? e.2.1 = true ∨ decode cJ7_copyOf_59c91 e.1 = .ok (e.2.1, zln e.2.1) := by decide +kernel
set_option maxRecDepth 100000 in
theorem zk299 : zal_ zm299 zc299 := zcs (trivial) (zcs (trivial) (zcs (trivial) (zcs ((by decide : ((3 : Nat) : Int) + 11 = ((14 : Nat) : Int))) (zcs (trivial) (zcs (zli_J7_316) (zcs (zw910) (zcs (Or.inr ⟨_, rfl⟩) (zcs (trivial) (zcs (Or.inr (Or.inl ⟨rfl, rfl⟩)) (zcs (zlt_2_3) (zcs (trivial) (zcs (zn_i_0) (zcs (trivial) (zcs (zn_i_0) (zcs (trivial) (zcs (trivial) (zcs (trivial) (zcs (zli_J7_304) (zcs (zli_J7_150) (zcs (trivial) (zcs (Or.inr ⟨_, rfl⟩) (znil))))))))))))))))))))))
theorem zg299 : zgm zm299 := fun e h => ⟨zd299 e h, zal_mem zk299 e h⟩

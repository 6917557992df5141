set_option maxRecDepth 100000 in
theorem zd205 : ∀ e ∈ zc205, zsw? e.2.1 = true ∨ decode cX12_isBarge e.1 = .ok (e.2.1, zln e.2.1) := by decide +kernel
set_option maxRecDepth 100000 in
theorem zk205 : zal_ zm205 zc205 := zcs (trivial) (zcs ((by decide : ((1 : Nat) : Int) + 17 = ((18 : Nat) : Int))) (zcs (trivial) (zcs (trivial) (zcs (zlf_X12_39) (zcs (zn_i_0) (zcs (trivial) (zcs ((by decide : ((11 : Nat) : Int) + 7 = ((18 : Nat) : Int))) (zcs (zn_i_1) (zcs ((by decide : ((15 : Nat) : Int) + 4 = ((19 : Nat) : Int))) (zcs (zn_i_0) (zcs (rfl) (znil))))))))))))
theorem zg205 : zgm zm205 := fun e h => ⟨zd205 e h, zal_mem zk205 e h⟩
set_option maxRecDepth 100000 in
theorem zd206 : ∀ e ∈ zc206, zsw? e.2.1 = true ∨ decode cX12_isBook e.1 = .ok (e.2.1, zln e.2.1) := by decide +kernel
set_option maxRecDepth 100000 in
theorem zk206 : zal_ zm206 zc206 := zcs (trivial) (zcs ((by decide : ((1 : Nat) : Int) + 17 = ((18 : Nat) : Int))) (zcs (trivial) (zcs (trivial) (zcs (zlf_X12_39) (zcs (zn_i_1) (zcs (trivial) (zcs ((by decide : ((11 : Nat) : Int) + 7 = ((18 : Nat) : Int))) (zcs (zn_i_1) (zcs ((by decide : ((15 : Nat) : Int) + 4 = ((19 : Nat) : Int))) (zcs (zn_i_0) (zcs (rfl) (znil))))))))))))
theorem zg206 : zgm zm206 := fun e h => ⟨zd206 e h, zal_mem zk206 e h⟩
set_option maxRecDepth 100000 in
theorem zd207 : ∀ e ∈ zc207, zsw? e.2.1 = true ∨ decode cX12_isStop e.1 = .ok (e.2.1, zln e.2.1) := by decide +kernel
set_option maxRecDepth 100000 in
theorem zk207 : zal_ zm207 zc207 := zcs (trivial) (zcs ((by decide : ((1 : Nat) : Int) + 17 = ((18 : Nat) : Int))) (zcs (trivial) (zcs (trivial) (zcs (zlf_X12_39) (zcs (zn_i_2) (zcs (trivial) (zcs ((by decide : ((11 : Nat) : Int) + 7 = ((18 : Nat) : Int))) (zcs (zn_i_1) (zcs ((by decide : ((15 : Nat) : Int) + 4 = ((19 : Nat) : Int))) (zcs (zn_i_0) (zcs (rfl) (znil))))))))))))
theorem zg207 : zgm zm207 := fun e h => ⟨zd207 e h, zal_mem zk207 e h⟩
set_option maxRecDepth 100000 in
theorem zd208 : ∀ e ∈ zc208, zsw? e.2.1 = true ∨ decode cX12_isReader e.1 = .ok (e.2.1, zln e.2.1) := by decide +kernel
set_option maxRecDepth 100000 in
theorem zk208 : zal_ zm208 zc208 := zcs (trivial) (zcs ((by decide : ((1 : Nat) : Int) + 17 = ((18 : Nat) : Int))) (zcs (trivial) (zcs (trivial) (zcs (zlf_X12_39) (zcs (zn_i_3) (zcs (trivial) (zcs ((by decide : ((11 : Nat) : Int) + 7 = ((18 : Nat) : Int))) (zcs (zn_i_1) (zcs ((by decide : ((15 : Nat) : Int) + 4 = ((19 : Nat) : Int))) (zcs (zn_i_0) (zcs (rfl) (znil))))))))))))
theorem zg208 : zgm zm208 := fun e h => ⟨zd208 e h, zal_mem zk208 e h⟩
set_option maxRecDepth 100000 in
theorem zd209 : ∀ e ∈ zc209, zsw? e.2.1 = true ∨ decode cX12_isHole e.1 = .ok (e.2.1, zln e.2.1) := by decide +kernel
set_option maxRecDepth 100000 in
theorem zk209 : zal_ zm209 zc209 := zcs (trivial) (zcs ((by decide : ((1 : Nat) : Int) + 17 = ((18 : Nat) : Int))) (zcs (trivial) (zcs (trivial) (zcs (zlf_X12_39) (zcs (zn_i_4) (zcs (trivial) (zcs ((by decide : ((11 : Nat) : Int) + 7 = ((18 : Nat) : Int))) (zcs (zn_i_1) (zcs ((by decide : ((15 : Nat) : Int) + 4 = ((19 : Nat) : Int))) (zcs (zn_i_0) (zcs (rfl) (znil))))))))))))
theorem zg209 : zgm zm209 := fun e h => ⟨zd209 e h, zal_mem zk209 e h⟩
set_option maxRecDepth 100000 in
theorem zd210 : ∀ e ∈ zc210, zsw? e.2.1 = true ∨ decode cX12_bargeOf e.1 = .ok (e.2.1, zln e.2.1) := by decide +kernel
set_option maxRecDepth 100000 in
theorem zk210 : zal_ zm210 zc210 := zcs (trivial) (zcs (zlf_X12_39) (zcs (zn_b_6) (zcs (zn_b_7) (zcs (trivial) (zcs (trivial) (zcs (trivial) (zcs (trivial) (zcs (trivial) (zcs (trivial) (zcs (rfl) (znil)))))))))))
theorem zg210 : zgm zm210 := fun e h => ⟨zd210 e h, zal_mem zk210 e h⟩
set_option maxRecDepth 100000 in
theorem zd211 : ∀ e ∈ zc211, zsw? e.2.1 = true ∨ decode cX12_bookOf e.1 = .ok (e.2.1, zln e.2.1) := by decide +kernel
set_option maxRecDepth 100000 in
theorem zk211 : zal_ zm211 zc211 := zcs (trivial) (zcs (zlf_X12_39) (zcs (zn_b_20) (zcs (zn_b_7) (zcs (trivial) (zcs (trivial) (zcs (trivial) (zcs (trivial) (zcs (trivial) (zcs (trivial) (zcs (rfl) (znil)))))))))))
theorem zg211 : zgm zm211 := fun e h => ⟨zd211 e h, zal_mem zk211 e h⟩
set_option maxRecDepth 100000 in
theorem zd212 : ∀ e ∈ zc212, zsw? e.2.1 = true ∨ decode cX12_readerOf e.1 = .ok (e.2.1, zln e.2.1) := by decide +kernel
set_option maxRecDepth 100000 in
theorem zk212 : zal_ zm212 zc212 := zcs (trivial) (zcs (zlf_X12_39) (zcs (zn_s_144) (zcs (zn_i_5) (zcs (trivial) (zcs (trivial) (zcs (trivial) (zcs (trivial) (zcs (trivial) (zcs (trivial) (zcs (rfl) (znil)))))))))))
theorem zg212 : zgm zm212 := fun e h => ⟨zd212 e h, zal_mem zk212 e h⟩
set_option maxRecDepth 100000 in
theorem zd213 : ∀ e ∈ zc213, zsw? e.2.1 = true ∨ decode cX12_wishOf e.1 = .ok (e.2.1, zln e.2.1) := by decide +kernel
set_option maxRecDepth 100000 in
theorem zk213 : zal_ zm213 zc213 := zcs (trivial) (zcs (zlf_X12_39) (zcs (zn_s_174) (zcs (zn_b_12) (zcs (trivial) (zcs (trivial) (zcs (trivial) (zcs (trivial) (zcs (trivial) (zcs (trivial) (zcs (rfl) (znil)))))))))))
theorem zg213 : zgm zm213 := fun e h => ⟨zd213 e h, zal_mem zk213 e h⟩
set_option maxRecDepth 100000 in
theorem zd214 : ∀ e ∈ zc214, zsw? e.2.1 = true ∨ decode cX12_holeOf e.1 = .ok (e.2.1, zln e.2.1) := by decide +kernel
set_option maxRecDepth 100000 in
theorem zk214 : zal_ zm214 zc214 := zcs (trivial) (zcs (zlf_X12_39) (zcs (zn_s_246) (zcs (zn_i_3) (zcs (trivial) (zcs (trivial) (zcs (trivial) (zcs (trivial) (zcs (trivial) (zcs (trivial) (zcs (rfl) (znil)))))))))))
theorem zg214 : zgm zm214 := fun e h => ⟨zd214 e h, zal_mem zk214 e h⟩
set_option maxRecDepth 100000 in
theorem zd215 : ∀ e ∈ zc215, zsw? e.2.1 = true ∨ decode cX12_stopOf e.1 = .ok (e.2.1, zln e.2.1) := by decide +kernel
set_option maxRecDepth 100000 in
theorem zk215 : zal_ zm215 zc215 := zcs (trivial) (zcs (trivial) (zcs (zn_i_5) (zcs (zli_X12_298) (zcs (rfl) (znil)))))
theorem zg215 : zgm zm215 := fun e h => ⟨zd215 e h, zal_mem zk215 e h⟩
set_option maxRecDepth 100000 in
theorem zd216 : ∀ e ∈ zc216, zsw? e.2.1 = true ∨ decode cX12_isAboard e.1 = .ok (e.2.1, zln e.2.1) := by decide +kernel
set_option maxRecDepth 100000 in
theorem zk216 : zal_ zm216 zc216 := zcs (trivial) (zcs (trivial) (zcs (zn_i_4) (zcs (zli_X12_302) (zcs (zn_b_100) (zcs (trivial) (zcs (trivial) (zcs ((by decide : ((10 : Nat) : Int) + 7 = ((17 : Nat) : Int))) (zcs (zn_i_1) (zcs ((by decide : ((14 : Nat) : Int) + 4 = ((18 : Nat) : Int))) (zcs (zn_i_0) (zcs (rfl) (znil))))))))))))
theorem zg216 : zgm zm216 := fun e h => ⟨zd216 e h, zal_mem zk216 e h⟩
set_option maxRecDepth 100000 in
theorem zd217 : ∀ e ∈ zc217, zsw? e.2.1 = true ∨ decode cX12_bargeWith e.1 = .ok (e.2.1, zln e.2.1) := by decide +kernel
set_option maxRecDepth 100000 in
theorem zk217 : zal_ zm217 zc217 := zcs (trivial) (zcs (trivial) (zcs (zn_i_4) (zcs (zli_X12_302) (zcs (trivial) (zcs (zw1872) (zcs (zw1873) (zcs (zli_X12_112) (zcs ((by decide : ((16 : Nat) : Int) + 15 = ((31 : Nat) : Int))) (zcs (trivial) (zcs (trivial) (zcs (zn_i_4) (zcs (zli_X12_302) (zcs (zn_b_100) (zcs (trivial) (zcs ((by decide : ((28 : Nat) : Int) + 4 = ((32 : Nat) : Int))) (zcs (zn_i_m1) (zcs (rfl) (znil))))))))))))))))))
theorem zg217 : zgm zm217 := fun e h => ⟨zd217 e h, zal_mem zk217 e h⟩
set_option maxRecDepth 100000 in
theorem zd218 : ∀ e ∈ zc218, zsw? e.2.1 = true ∨ decode cX12_aboardOf e.1 = .ok (e.2.1, zln e.2.1) := by decide +kernel
set_option maxRecDepth 100000 in
theorem zk218 : zal_ zm218 zc218 := zcs (zn_i_0) (zcs (zlt_2_4) (zcs (zn_i_0) (zcs (zlt_3_4) (zcs (trivial) (zcs (trivial) (zcs (zlf_X12_39) (zcs (zn_i_1) (zcs (trivial) (zcs ((by decide : ((11 : Nat) : Int) + 28 = ((39 : Nat) : Int))) (zcs (trivial) (zcs (trivial) (zcs (trivial) (zcs (trivial) (zcs (zli_X12_309) (zcs ((by decide : ((21 : Nat) : Int) + 9 = ((30 : Nat) : Int))) (zcs (zn_i_1) (zcs (trivial) (zcs (trivial) (zcs ((by decide : ((27 : Nat) : Int) + 4 = ((31 : Nat) : Int))) (zcs (zn_i_0) (zcs (trivial) (zcs (zlt_2_4) (zcs (⟨zn_i_1, zlt_3_4⟩) (zcs ((by decide : ((36 : Nat) : Int) + (-32) = ((4 : Nat) : Int))) (zcs (trivial) (zcs (rfl) (znil)))))))))))))))))))))))))))
theorem zg218 : zgm zm218 := fun e h => ⟨zd218 e h, zal_mem zk218 e h⟩
set_option maxRecDepth 100000 in
theorem zd219 : ∀ e ∈ zc219, zsw? e.2.1 = true ∨ decode cX12_depthOf e.1 = .ok (e.2.1, zln e.2.1) := by decide +kernel
set_option maxRecDepth 100000 in
theorem zk219 : zal_ zm219 zc219 := zcs (zn_b_104) (zcs (zn_i_5) (zcs (trivial) (zcs (trivial) (zcs (trivial) (zcs (zlt_2_5) (zcs (trivial) (zcs (zlf_X12_39) (zcs (zn_i_5) (zcs (trivial) (zcs (zn_b_90) (zcs (trivial) (zcs (zn_i_4) (zcs (trivial) (zcs (zlt_3_5) (zcs (trivial) (zcs (trivial) (zcs (zlf_X12_39) (zcs (trivial) (zcs (trivial) (zcs ((by decide : ((26 : Nat) : Int) + 7 = ((33 : Nat) : Int))) (zcs (trivial) (zcs ((by decide : ((30 : Nat) : Int) + 11 = ((41 : Nat) : Int))) (zcs (trivial) (zcs (zlf_X12_39) (zcs (trivial) (zcs (trivial) (zcs (zn_i_1) (zcs (trivial) (zcs (zlt_4_5) (zcs (trivial) (zcs (zlf_X12_39) (zcs (trivial) (zcs (zn_i_1) (zcs (trivial) (zcs (trivial) (zcs (trivial) (zcs (trivial) (zcs (trivial) (zcs (zlf_X12_312) (zcs (trivial) (zcs (rfl) (znil))))))))))))))))))))))))))))))))))))))))))
theorem zg219 : zgm zm219 := fun e h => ⟨zd219 e h, zal_mem zk219 e h⟩
set_option maxRecDepth 100000 in
theorem zd220 : ∀ e ∈ zc220, zsw? e.2.1 = true ∨ decode cX12_shelfIn e.1 = .ok (e.2.1, zln e.2.1) := by decide +kernel
set_option maxRecDepth 100000 in
theorem zk220 : zal_ zm220 zc220 := zcs (trivial) (zcs (trivial) (zcs (zn_i_3) (zcs (zli_X12_302) (zcs (trivial) (zcs (trivial) (zcs (zn_i_0) (zcs (zli_X12_298) (zcs ((by decide : ((12 : Nat) : Int) + 12 = ((24 : Nat) : Int))) (zcs (trivial) (zcs (trivial) (zcs (zn_i_3) (zcs (zli_X12_302) (zcs ((by decide : ((21 : Nat) : Int) + 11 = ((32 : Nat) : Int))) (zcs (trivial) (zcs (trivial) (zcs (zn_i_0) (zcs (zli_X12_298) (zcs (zn_i_1) (zcs (trivial) (zcs (rfl) (znil)))))))))))))))))))))
theorem zg220 : zgm zm220 := fun e h => ⟨zd220 e h, zal_mem zk220 e h⟩
set_option maxRecDepth 100000 in
theorem zd221 : ∀ e ∈ zc221, zsw? e.2.1 = true ∨ decode cX12_arm e.1 = .ok (e.2.1, zln e.2.1) := by decide +kernel
set_option maxRecDepth 100000 in
theorem zk221 : zal_ zm221 zc221 := zcs (zn_i_2) (zcs (trivial) (zcs (trivial) (zcs (trivial) (zcs (trivial) (zcs (zn_i_0) (zcs (zli_X12_298) (zcs (trivial) (zcs (zn_i_1) (zcs (trivial) (zcs (rfl) (znil)))))))))))
theorem zg221 : zgm zm221 := fun e h => ⟨zd221 e h, zal_mem zk221 e h⟩
set_option maxRecDepth 100000 in
theorem zd222 : ∀ e ∈ zc222, zsw? e.2.1 = true ∨ decode cX12_heavy e.1 = .ok (e.2.1, zln e.2.1) := by decide +kernel
set_option maxRecDepth 100000 in
theorem zk222 : zal_ zm222 zc222 := zcs (trivial) (zcs (trivial) (zcs (zn_i_0) (zcs (zli_X12_302) (zcs (trivial) (zcs (trivial) (zcs (zn_i_2) (zcs (zli_X12_302) (zcs (trivial) (zcs (rfl) (znil))))))))))
theorem zg222 : zgm zm222 := fun e h => ⟨zd222 e h, zal_mem zk222 e h⟩
set_option maxRecDepth 100000 in
theorem zd223 : ∀ e ∈ zc223, zsw? e.2.1 = true ∨ decode cX12_loadBy e.1 = .ok (e.2.1, zln e.2.1) := by decide +kernel
set_option maxRecDepth 100000 in
theorem zk223 : zal_ zm223 zc223 := zcs (trivial) (zcs (trivial) (zcs (zn_i_1) (zcs (zli_X12_298) (zcs (trivial) (zcs (trivial) (zcs (zn_i_4) (zcs (zli_X12_298) (zcs (trivial) (zcs (zlt_3_5) (zcs (zn_i_0) (zcs (zlt_4_5) (zcs (trivial) (zcs (trivial) (zcs (zlf_X12_39) (zcs (zn_i_1) (zcs (trivial) (zcs ((by decide : ((25 : Nat) : Int) + 31 = ((56 : Nat) : Int))) (zcs (trivial) (zcs (trivial) (zcs (trivial) (zcs (zli_X12_315) (zcs ((by decide : ((35 : Nat) : Int) + 12 = ((47 : Nat) : Int))) (zcs (trivial) (zcs (trivial) (zcs (zli_X12_318) (zcs ((by decide : ((44 : Nat) : Int) + 4 = ((48 : Nat) : Int))) (zcs (zn_i_0) (zcs (trivial) (zcs (zlt_3_5) (zcs (⟨zn_i_1, zlt_4_5⟩) (zcs ((by decide : ((53 : Nat) : Int) + (-36) = ((17 : Nat) : Int))) (zcs (trivial) (zcs (rfl) (znil))))))))))))))))))))))))))))))))))
theorem zg223 : zgm zm223 := fun e h => ⟨zd223 e h, zal_mem zk223 e h⟩
set_option maxRecDepth 100000 in
theorem zd224 : ∀ e ∈ zc224, zsw? e.2.1 = true ∨ decode cX12_tiltBy e.1 = .ok (e.2.1, zln e.2.1) := by decide +kernel
set_option maxRecDepth 100000 in
theorem zk224 : zal_ zm224 zc224 := zcs (zn_i_0) (zcs (zlt_3_5) (zcs (zn_i_0) (zcs (zlt_4_5) (zcs (trivial) (zcs (trivial) (zcs (zlf_X12_39) (zcs (zn_i_1) (zcs (trivial) (zcs ((by decide : ((13 : Nat) : Int) + 44 = ((57 : Nat) : Int))) (zcs (trivial) (zcs (trivial) (zcs (trivial) (zcs (zli_X12_315) (zcs ((by decide : ((23 : Nat) : Int) + 25 = ((48 : Nat) : Int))) (zcs (trivial) (zcs (trivial) (zcs (zli_X12_318) (zcs (trivial) (zcs (trivial) (zcs (trivial) (zcs (trivial) (zcs (zli_X12_321) (zcs (trivial) (zcs (zli_X12_324) (zcs (trivial) (zcs ((by decide : ((45 : Nat) : Int) + 4 = ((49 : Nat) : Int))) (zcs (zn_i_0) (zcs (trivial) (zcs (zlt_3_5) (zcs (⟨zn_i_1, zlt_4_5⟩) (zcs ((by decide : ((54 : Nat) : Int) + (-49) = ((5 : Nat) : Int))) (zcs (trivial) (zcs (rfl) (znil))))))))))))))))))))))))))))))))))
theorem zg224 : zgm zm224 := fun e h => ⟨zd224 e h, zal_mem zk224 e h⟩
set_option maxRecDepth 100000 in
theorem zd225 : ∀ e ∈ zc225, zsw? e.2.1 = true ∨ decode cX12_draughtOf e.1 = .ok (e.2.1, zln e.2.1) := by decide +kernel
set_option maxRecDepth 100000 in
theorem zk225 : zal_ zm225 zc225 := zcs (trivial) (zcs (trivial) (zcs (zn_i_2) (zcs (zli_X12_298) (zcs (zlt_4_5) (zcs (trivial) (zcs (trivial) (zcs (trivial) (zcs (zn_i_1) (zcs (trivial) (zcs (trivial) (zcs (trivial) (zcs (trivial) (zcs ((by decide : ((18 : Nat) : Int) + 8 = ((26 : Nat) : Int))) (zcs (trivial) (zcs (trivial) (zcs ((by decide : ((23 : Nat) : Int) + 4 = ((27 : Nat) : Int))) (zcs (trivial) (zcs (trivial) (zcs (trivial) (zcs (zn_i_3) (zcs (zli_X12_298) (zcs (trivial) (zcs (trivial) (zcs (rfl) (znil)))))))))))))))))))))))))
theorem zg225 : zgm zm225 := fun e h => ⟨zd225 e h, zal_mem zk225 e h⟩
set_option maxRecDepth 100000 in
theorem zd226 : ∀ e ∈ zc226, zsw? e.2.1 = true ∨ decode cX12_draughtBy e.1 = .ok (e.2.1, zln e.2.1) := by decide +kernel
set_option maxRecDepth 100000 in
theorem zk226 : zal_ zm226 zc226 := zcs (trivial) (zcs (trivial) (zcs (trivial) (zcs (trivial) (zcs (trivial) (zcs (zli_X12_327) (zcs (trivial) (zcs (trivial) (zcs (trivial) (zcs (zli_X12_330) (zcs (zli_X12_333) (zcs (rfl) (znil))))))))))))
theorem zg226 : zgm zm226 := fun e h => ⟨zd226 e h, zal_mem zk226 e h⟩
set_option maxRecDepth 100000 in
theorem zd227 : ∀ e ∈ zc227, zsw? e.2.1 = true ∨ decode cX12_draughtNow e.1 = .ok (e.2.1, zln e.2.1) := by decide +kernel
set_option maxRecDepth 100000 in
theorem zk227 : zal_ zm227 zc227 := zcs (trivial) (zcs (trivial) (zcs (trivial) (zcs (trivial) (zcs (zli_X12_337) (zcs (zli_X12_340) (zcs (rfl) (znil)))))))
theorem zg227 : zgm zm227 := fun e h => ⟨zd227 e h, zal_mem zk227 e h⟩
set_option maxRecDepth 100000 in
theorem zd228 : ∀ e ∈ zc228, zsw? e.2.1 = true ∨ decode cX12_passesBy e.1 = .ok (e.2.1, zln e.2.1) := by decide +kernel
set_option maxRecDepth 100000 in
theorem zk228 : zal_ zm228 zc228 := zcs (trivial) (zcs (trivial) (zcs (zli_X12_343) (zcs (trivial) (zcs (trivial) (zcs (trivial) (zcs (zli_X12_340) (zcs ((by decide : ((11 : Nat) : Int) + 7 = ((18 : Nat) : Int))) (zcs (zn_i_1) (zcs ((by decide : ((15 : Nat) : Int) + 4 = ((19 : Nat) : Int))) (zcs (zn_i_0) (zcs (rfl) (znil))))))))))))
theorem zg228 : zgm zm228 := fun e h => ⟨zd228 e h, zal_mem zk228 e h⟩
set_option maxRecDepth 100000 in
theorem zd229 : ∀ e ∈ zc229, zsw? e.2.1 = true ∨ decode cX12_passesNow e.1 = .ok (e.2.1, zln e.2.1) := by decide +kernel
set_option maxRecDepth 100000 in
theorem zk229 : zal_ zm229 zc229 := zcs (trivial) (zcs (trivial) (zcs (trivial) (zcs (trivial) (zcs (zli_X12_337) (zcs (trivial) (zcs (zli_X12_346) (zcs (rfl) (znil))))))))
theorem zg229 : zgm zm229 := fun e h => ⟨zd229 e h, zal_mem zk229 e h⟩
set_option maxRecDepth 100000 in
theorem zd230 : ∀ e ∈ zc230, zsw? e.2.1 = true ∨ decode cX12_book e.1 = .ok (e.2.1, zln e.2.1) := by decide +kernel
set_option maxRecDepth 100000 in
theorem zk230 : zal_ zm230 zc230 := zcs (trivial) (zcs (trivial) (zcs (zli_X12_349) (zcs ((by decide : ((5 : Nat) : Int) + 15 = ((20 : Nat) : Int))) (zcs (trivial) (zcs (trivial) (zcs (zn_l_0) (zcs (zw1737) (zcs (zli_X12_112) (zcs ((by decide : ((17 : Nat) : Int) + 5 = ((22 : Nat) : Int))) (zcs (zn_i_m1) (zcs (rfl) (zcs (trivial) (zcs ((by decide : ((23 : Nat) : Int) + 12 = ((35 : Nat) : Int))) (zcs (trivial) (zcs (trivial) (zcs (zn_i_0) (zcs (zli_X12_302) (zcs ((by decide : ((32 : Nat) : Int) + 51 = ((83 : Nat) : Int))) (zcs (trivial) (zcs (zn_i_1) (zcs ((by decide : ((37 : Nat) : Int) + 12 = ((49 : Nat) : Int))) (zcs (trivial) (zcs (trivial) (zcs (zn_i_3) (zcs (zli_X12_302) (zcs ((by decide : ((46 : Nat) : Int) + 37 = ((83 : Nat) : Int))) (zcs (trivial) (zcs (zn_i_2) (zcs ((by decide : ((51 : Nat) : Int) + 12 = ((63 : Nat) : Int))) (zcs (trivial) (zcs (trivial) (zcs (zn_i_1) (zcs (zli_X12_302) (zcs ((by decide : ((60 : Nat) : Int) + 23 = ((83 : Nat) : Int))) (zcs (trivial) (zcs (zn_i_3) (zcs ((by decide : ((65 : Nat) : Int) + 12 = ((77 : Nat) : Int))) (zcs (trivial) (zcs (trivial) (zcs (zn_i_2) (zcs (zli_X12_302) (zcs ((by decide : ((74 : Nat) : Int) + 9 = ((83 : Nat) : Int))) (zcs (trivial) (zcs (trivial) (zcs (trivial) (zcs (zli_X12_302) (zcs (rfl) (znil))))))))))))))))))))))))))))))))))))))))))))))))
theorem zg230 : zgm zm230 := fun e h => ⟨zd230 e h, zal_mem zk230 e h⟩
set_option maxRecDepth 100000 in
theorem zd231 : ∀ e ∈ zc231, zsw? e.2.1 = true ∨ decode cX12_leftAt e.1 = .ok (e.2.1, zln e.2.1) := by decide +kernel
set_option maxRecDepth 100000 in
theorem zk231 : zal_ zm231 zc231 := zcs (zn_i_0) (zcs (zlt_2_4) (zcs (zn_i_0) (zcs (zlt_3_4) (zcs (trivial) (zcs (trivial) (zcs (zlf_X12_39) (zcs (zn_i_1) (zcs (trivial) (zcs ((by decide : ((11 : Nat) : Int) + 29 = ((40 : Nat) : Int))) (zcs (trivial) (zcs (trivial) (zcs (trivial) (zcs (zn_i_4) (zcs (zli_X12_302) (zcs (trivial) (zcs ((by decide : ((22 : Nat) : Int) + 9 = ((31 : Nat) : Int))) (zcs (zn_i_1) (zcs (trivial) (zcs (trivial) (zcs ((by decide : ((28 : Nat) : Int) + 4 = ((32 : Nat) : Int))) (zcs (zn_i_0) (zcs (trivial) (zcs (zlt_2_4) (zcs (⟨zn_i_1, zlt_3_4⟩) (zcs ((by decide : ((37 : Nat) : Int) + (-33) = ((4 : Nat) : Int))) (zcs (trivial) (zcs (rfl) (znil))))))))))))))))))))))))))))
theorem zg231 : zgm zm231 := fun e h => ⟨zd231 e h, zal_mem zk231 e h⟩
set_option maxRecDepth 100000 in
theorem zd232 : ∀ e ∈ zc232, zsw? e.2.1 = true ∨ decode cX12_stop e.1 = .ok (e.2.1, zln e.2.1) := by decide +kernel
set_option maxRecDepth 100000 in
theorem zk232 : zal_ zm232 zc232 := zcs (trivial) (zcs (trivial) (zcs (zli_X12_354) (zcs ((by decide : ((5 : Nat) : Int) + 15 = ((20 : Nat) : Int))) (zcs (trivial) (zcs (trivial) (zcs (zn_l_0) (zcs (zw1750) (zcs (zli_X12_112) (zcs ((by decide : ((17 : Nat) : Int) + 5 = ((22 : Nat) : Int))) (zcs (zn_i_m1) (zcs (rfl) (zcs (trivial) (zcs ((by decide : ((23 : Nat) : Int) + 9 = ((32 : Nat) : Int))) (zcs (trivial) (zcs (trivial) (zcs (zli_X12_343) (zcs (rfl) (zcs (trivial) (zcs (zn_i_1) (zcs ((by decide : ((34 : Nat) : Int) + 9 = ((43 : Nat) : Int))) (zcs (trivial) (zcs (trivial) (zcs (zli_X12_359) (zcs (rfl) (zcs (trivial) (zcs (zn_i_4) (zcs ((by decide : ((45 : Nat) : Int) + 34 = ((79 : Nat) : Int))) (zcs (trivial) (zcs (trivial) (zcs (zn_i_2) (zcs (trivial) (zcs (zli_X12_362) (zcs ((by decide : ((55 : Nat) : Int) + 7 = ((62 : Nat) : Int))) (zcs (zn_i_m1) (zcs ((by decide : ((59 : Nat) : Int) + 19 = ((78 : Nat) : Int))) (zcs (trivial) (zcs (trivial) (zcs (zn_i_2) (zcs (trivial) (zcs (trivial) (zcs (zli_X12_365) (zcs ((by decide : ((70 : Nat) : Int) + 7 = ((77 : Nat) : Int))) (zcs (zn_i_1) (zcs ((by decide : ((74 : Nat) : Int) + 4 = ((78 : Nat) : Int))) (zcs (zn_i_0) (zcs (rfl) (zcs (zn_i_0) (zcs (zlt_3_5) (zcs (zn_i_0) (zcs (zlt_4_5) (zcs (trivial) (zcs (trivial) (zcs (zlf_X12_39) (zcs (zn_i_3) (zcs (trivial) (zcs ((by decide : ((92 : Nat) : Int) + 31 = ((123 : Nat) : Int))) (zcs (trivial) (zcs (trivial) (zcs (trivial) (zcs (zn_i_0) (zcs (zli_X12_368) (zcs (trivial) (zcs ((by decide : ((104 : Nat) : Int) + 10 = ((114 : Nat) : Int))) (zcs (zn_i_1) (zcs (trivial) (zcs (trivial) (zcs ((by decide : ((111 : Nat) : Int) + 4 = ((115 : Nat) : Int))) (zcs (zn_i_0) (zcs (trivial) (zcs (zlt_3_5) (zcs (⟨zn_i_1, zlt_4_5⟩) (zcs ((by decide : ((120 : Nat) : Int) + (-36) = ((84 : Nat) : Int))) (zcs (trivial) (zcs (rfl) (znil)))))))))))))))))))))))))))))))))))))))))))))))))))))))))))))))))))))))))))
theorem zg232 : zgm zm232 := fun e h => ⟨zd232 e h, zal_mem zk232 e h⟩
set_option maxRecDepth 100000 in
theorem zd233 : ∀ e ∈ zc233, zsw? e.2.1 = true ∨ decode cX12_reader e.1 = .ok (e.2.1, zln e.2.1) := by decide +kernel
set_option maxRecDepth 100000 in
theorem zk233 : zal_ zm233 zc233 := zcs (trivial) (zcs (trivial) (zcs (zli_X12_371) (zcs ((by decide : ((5 : Nat) : Int) + 24 = ((29 : Nat) : Int))) (zcs (trivial) (zcs (trivial) (zcs (zn_l_0) (zcs (zw1750) (zcs (zli_X12_112) (zcs ((by decide : ((17 : Nat) : Int) + 12 = ((29 : Nat) : Int))) (zcs (trivial) (zcs (trivial) (zcs (trivial) (zcs (zli_X12_368) (zcs ((by decide : ((26 : Nat) : Int) + 4 = ((30 : Nat) : Int))) (zcs (zn_i_m1) (zcs (rfl) (znil)))))))))))))))))
theorem zg233 : zgm zm233 := fun e h => ⟨zd233 e h, zal_mem zk233 e h⟩
set_option maxRecDepth 100000 in
theorem zd234 : ∀ e ∈ zc234, zsw? e.2.1 = true ∨ decode cX12_wish e.1 = .ok (e.2.1, zln e.2.1) := by decide +kernel
set_option maxRecDepth 100000 in
theorem zk234 : zal_ zm234 zc234 := zcs (trivial) (zcs (trivial) (zcs (zli_X12_371) (zcs ((by decide : ((5 : Nat) : Int) + 20 = ((25 : Nat) : Int))) (zcs (trivial) (zcs (trivial) (zcs (zli_X12_349) (zcs ((by decide : ((13 : Nat) : Int) + 12 = ((25 : Nat) : Int))) (zcs (trivial) (zcs (trivial) (zcs (trivial) (zcs (zli_X12_374) (zcs ((by decide : ((22 : Nat) : Int) + 4 = ((26 : Nat) : Int))) (zcs (zn_i_m1) (zcs (rfl) (znil)))))))))))))))
theorem zg234 : zgm zm234 := fun e h => ⟨zd234 e h, zal_mem zk234 e h⟩
set_option maxRecDepth 100000 in
theorem zd235 : ∀ e ∈ zc235, zsw? e.2.1 = true ∨ decode cX12_hole e.1 = .ok (e.2.1, zln e.2.1) := by decide +kernel
set_option maxRecDepth 100000 in
theorem zk235 : zal_ zm235 zc235 := zcs (trivial) (zcs (trivial) (zcs (zli_X12_377) (zcs ((by decide : ((5 : Nat) : Int) + 24 = ((29 : Nat) : Int))) (zcs (trivial) (zcs (trivial) (zcs (zn_l_0) (zcs (zw1842) (zcs (zli_X12_112) (zcs ((by decide : ((17 : Nat) : Int) + 12 = ((29 : Nat) : Int))) (zcs (trivial) (zcs (trivial) (zcs (trivial) (zcs (zli_X12_382) (zcs ((by decide : ((26 : Nat) : Int) + 4 = ((30 : Nat) : Int))) (zcs (zn_i_m1) (zcs (rfl) (znil)))))))))))))))))
theorem zg235 : zgm zm235 := fun e h => ⟨zd235 e h, zal_mem zk235 e h⟩
set_option maxRecDepth 100000 in
theorem zd236 : ∀ e ∈ zc236, zsw? e.2.1 = true ∨ decode cX12_lies e.1 = .ok (e.2.1, zln e.2.1) := by decide +kernel
set_option maxRecDepth 100000 in
theorem zk236 : zal_ zm236 zc236 := zcs (trivial) (zcs (trivial) (zcs (zli_X12_362) (zcs ((by decide : ((5 : Nat) : Int) + 15 = ((20 : Nat) : Int))) (zcs (trivial) (zcs (trivial) (zcs (zn_l_0) (zcs (zw1737) (zcs (zli_X12_112) (zcs ((by decide : ((17 : Nat) : Int) + 7 = ((24 : Nat) : Int))) (zcs (zw1851) (zcs (rfl) (zcs (trivial) (zcs (⟨⟨39, by decide +kernel⟩, (by decide : ((25 : Nat) : Int) + 88 = ((113 : Nat) : Int)), (by decide : (5 : Int) = 0 + ((6 : Nat) : Int) - 1), zskP (by decide +kernel)⟩) (zcs (trivial) (zcs (trivial) (zcs (trivial) (zcs (trivial) (zcs (zli_X12_337) (zcs (zli_X12_327) (zcs (rfl) (zcs (trivial) (zcs (trivial) (zcs (trivial) (zcs (trivial) (zcs (zli_X12_337) (zcs (zli_X12_330) (zcs (rfl) (zcs (trivial) (zcs (trivial) (zcs (zli_X12_386) (zcs (rfl) (zcs (trivial) (zcs (trivial) (zcs (zn_i_4) (zcs (zli_X12_298) (zcs (rfl) (zcs (trivial) (zcs (trivial) (zcs (zli_X12_389) (zcs (rfl) (zcs (trivial) (zcs (trivial) (zcs (zn_b_6) (zcs (zli_X12_298) (zcs (rfl) (zcs (trivial) (zcs (trivial) (zcs (zn_i_0) (zcs (zli_X12_298) (zcs (rfl) (znil)))))))))))))))))))))))))))))))))))))))))))))))))))
theorem zg236 : zgm zm236 := fun e h => ⟨zd236 e h, zal_mem zk236 e h⟩
set_option maxRecDepth 100000 in
theorem zd237 : ∀ e ∈ zc237, zsw? e.2.1 = true ∨ decode cX12_keepsAct e.1 = .ok (e.2.1, zln e.2.1) := by decide +kernel
set_option maxRecDepth 100000 in
theorem zk237 : zal_ zm237 zc237 := zcs (trivial) (zcs (zlf_X12_280) (zcs (zn_b_20) (zcs ((by decide : ((6 : Nat) : Int) + 46 = ((52 : Nat) : Int))) (zcs (zn_s_258) (zcs (zlt_1_2) (zcs (trivial) (zcs (zn_s_5160) (zcs ((by decide : ((17 : Nat) : Int) + 25 = ((42 : Nat) : Int))) (zcs (trivial) (zcs (zlf_X12_42) (zcs (trivial) (zcs (zn_s_258) (zcs (trivial) (zcs (trivial) (zcs (zlf_X12_42) (zcs (trivial) (zcs (trivial) (zcs (trivial) (zcs (⟨zn_i_1, zlt_1_2⟩) (zcs ((by decide : ((39 : Nat) : Int) + (-26) = ((13 : Nat) : Int))) (zcs (trivial) (zcs (trivial) (zcs (zlf_X12_280) (zcs (zn_i_1) (zcs (trivial) (zcs (⟨zlf_X12_280, (zlp_X12_280_n _)⟩) (zcs (zn_i_0) (zcs (zlt_1_2) (zcs (trivial) (zcs (zn_s_258) (zcs ((by decide : ((58 : Nat) : Int) + 30 = ((88 : Nat) : Int))) (zcs (trivial) (zcs (zlf_X12_42) (zcs (zn_s_258) (zcs (trivial) (zcs (zlf_X12_280) (zcs (trivial) (zcs (trivial) (zcs (trivial) (zcs (trivial) (zcs (zlf_X12_39) (zcs (trivial) (zcs (trivial) (zcs (trivial) (zcs (⟨zn_i_1, zlt_1_2⟩) (zcs ((by decide : ((85 : Nat) : Int) + (-31) = ((54 : Nat) : Int))) (zcs (trivial) (zcs (trivial) (zcs (zlf_X12_280) (zcs (zn_i_1) (zcs (trivial) (zcs (⟨zlf_X12_280, (zlp_X12_280_n _)⟩) (zcs (rfl) (znil))))))))))))))))))))))))))))))))))))))))))))))))))))))
theorem zg237 : zgm zm237 := fun e h => ⟨zd237 e h, zal_mem zk237 e h⟩
set_option maxRecDepth 100000 in
theorem zd238 : ∀ e ∈ zc238, zsw? e.2.1 = true ∨ decode cX12_undo e.1 = .ok (e.2.1, zln e.2.1) := by decide +kernel
set_option maxRecDepth 100000 in
theorem zk238 : zal_ zm238 zc238 := zcs (trivial) (zcs (zlf_X12_280) (zcs ((by decide : ((4 : Nat) : Int) + 5 = ((9 : Nat) : Int))) (zcs (zn_i_m1) (zcs (rfl) (zcs (trivial) (zcs (trivial) (zcs (zlf_X12_280) (zcs (zn_i_1) (zcs (trivial) (zcs (⟨zlf_X12_280, (zlp_X12_280_n _)⟩) (zcs (zn_i_0) (zcs (zlt_1_2) (zcs (trivial) (zcs (zn_s_258) (zcs ((by decide : ((25 : Nat) : Int) + 30 = ((55 : Nat) : Int))) (zcs (trivial) (zcs (zlf_X12_39) (zcs (trivial) (zcs (trivial) (zcs (zlf_X12_42) (zcs (zn_s_258) (zcs (trivial) (zcs (zlf_X12_280) (zcs (trivial) (zcs (trivial) (zcs (trivial) (zcs (trivial) (zcs (trivial) (zcs (⟨zn_i_1, zlt_1_2⟩) (zcs ((by decide : ((52 : Nat) : Int) + (-31) = ((21 : Nat) : Int))) (zcs (trivial) (zcs (zlf_X12_280) (zcs (rfl) (znil))))))))))))))))))))))))))))))))))
theorem zg238 : zgm zm238 := fun e h => ⟨zd238 e h, zal_mem zk238 e h⟩
set_option maxRecDepth 100000 in
theorem zd239 : ∀ e ∈ zc239, zsw? e.2.1 = true ∨ decode cX12_stands e.1 = .ok (e.2.1, zln e.2.1) := by decide +kernel
set_option maxRecDepth 100000 in
theorem zk239 : zal_ zm239 zc239 := zcs (trivial) (zcs (zlf_X12_39) (zcs (zn_b_20) (zcs (zn_b_7) (zcs (trivial) (zcs (trivial) (zcs (trivial) (zcs (zn_i_4) (zcs (trivial) (zcs (trivial) (zcs (trivial) (zcs (rfl) (znil))))))))))))
theorem zg239 : zgm zm239 := fun e h => ⟨zd239 e h, zal_mem zk239 e h⟩
set_option maxRecDepth 100000 in
theorem zd240 : ∀ e ∈ zc240, zsw? e.2.1 = true ∨ decode cX12_leave e.1 = .ok (e.2.1, zln e.2.1) := by decide +kernel
set_option maxRecDepth 100000 in
theorem zk240 : zal_ zm240 zc240 := zcs (trivial) (zcs (trivial) (zcs (zli_X12_349) (zcs ((by decide : ((5 : Nat) : Int) + 5 = ((10 : Nat) : Int))) (zcs (zn_i_m1) (zcs (rfl) (zcs (trivial) (zcs (trivial) (zcs (zli_X12_392) (zcs (zlt_2_3) (zcs (trivial) (zcs ((by decide : ((17 : Nat) : Int) + 5 = ((22 : Nat) : Int))) (zcs (zn_i_m1) (zcs (rfl) (zcs (trivial) (zcs (zli_X12_395) (zcs (trivial) (zcs (trivial) (zcs (trivial) (zcs (trivial) (zcs (zli_X12_389) (zcs (zli_X12_398) (zcs (trivial) (zcs (trivial) (zcs (zli_X12_386) (zcs (rfl) (znil))))))))))))))))))))))))))
theorem zg240 : zgm zm240 := fun e h => ⟨zd240 e h, zal_mem zk240 e h⟩
set_option maxRecDepth 100000 in
theorem zd241 : ∀ e ∈ zc241, zsw? e.2.1 = true ∨ decode cX12_canLend e.1 = .ok (e.2.1, zln e.2.1) := by decide +kernel
set_option maxRecDepth 100000 in
theorem zk241 : zal_ zm241 zc241 := zcs (trivial) (zcs (trivial) (zcs (zli_X12_392) (zcs (zlt_3_4) (zcs (trivial) (zcs ((by decide : ((7 : Nat) : Int) + 30 = ((37 : Nat) : Int))) (zcs (trivial) (zcs (trivial) (zcs (zn_i_0) (zcs (zli_X12_368) (zcs (trivial) (zcs (trivial) (zcs (zli_X12_389) (zcs ((by decide : ((21 : Nat) : Int) + 16 = ((37 : Nat) : Int))) (zcs (trivial) (zcs (trivial) (zcs (zn_i_3) (zcs (zli_X12_368) (zcs ((by decide : ((30 : Nat) : Int) + 7 = ((37 : Nat) : Int))) (zcs (zn_i_1) (zcs ((by decide : ((34 : Nat) : Int) + 4 = ((38 : Nat) : Int))) (zcs (zn_i_0) (zcs (rfl) (znil)))))))))))))))))))))))
theorem zg241 : zgm zm241 := fun e h => ⟨zd241 e h, zal_mem zk241 e h⟩
set_option maxRecDepth 100000 in
theorem zd242 : ∀ e ∈ zc242, zsw? e.2.1 = true ∨ decode cX12_lends e.1 = .ok (e.2.1, zln e.2.1) := by decide +kernel
set_option maxRecDepth 100000 in
theorem zk242 : zal_ zm242 zc242 := zcs (trivial) (zcs (trivial) (zcs (zli_X12_392) (zcs (zlt_3_4) (zcs (trivial) (zcs (zlf_X12_39) (zcs (zn_b_6) (zcs (zn_b_7) (zcs (trivial) (zcs (trivial) (zcs (trivial) (zcs (zn_b_6) (zcs (trivial) (zcs (trivial) (zcs (trivial) (zcs (trivial) (zcs (trivial) (zcs (trivial) (zcs (zli_X12_374) (zcs (trivial) (zcs (trivial) (zcs (trivial) (zcs (trivial) (zcs (zn_s_200) (zcs (trivial) (zcs (trivial) (zcs (zli_X12_398) (zcs (trivial) (zcs (zlf_X12_39) (zcs (zn_b_20) (zcs (zn_b_7) (zcs (trivial) (zcs (trivial) (zcs (trivial) (zcs (zn_i_5) (zcs (trivial) (zcs (trivial) (zcs (trivial) (zcs (zn_i_1) (zcs (trivial) (zcs (trivial) (zcs (trivial) (zcs (zlf_X12_39) (zcs (zn_b_20) (zcs (zn_b_7) (zcs (trivial) (zcs (trivial) (zcs (trivial) (zcs (zn_b_6) (zcs (trivial) (zcs (trivial) (zcs (zlf_X12_39) (zcs (zn_i_5) (zcs (trivial) (zcs (trivial) (zcs (trivial) (zcs (zn_i_2) (zcs (zli_X12_368) (zcs (trivial) (zcs (trivial) (zcs (trivial) (zcs (zlf_X12_39) (zcs (zn_s_144) (zcs (zn_i_5) (zcs (trivial) (zcs (trivial) (zcs (trivial) (zcs (zn_i_3) (zcs (trivial) (zcs (trivial) (zcs (trivial) (zcs (trivial) (zcs (zlf_X12_39) (zcs (zn_s_144) (zcs (zn_i_5) (zcs (trivial) (zcs (trivial) (zcs (trivial) (zcs (zn_i_4) (zcs (trivial) (zcs (trivial) (zcs (trivial) (zcs (zn_i_1) (zcs (trivial) (zcs (trivial) (zcs (rfl) (znil))))))))))))))))))))))))))))))))))))))))))))))))))))))))))))))))))))))))))))))))))))))
theorem zg242 : zgm zm242 := fun e h => ⟨zd242 e h, zal_mem zk242 e h⟩
set_option maxRecDepth 100000 in
theorem zd243 : ∀ e ∈ zc243, zsw? e.2.1 = true ∨ decode cX12_lend e.1 = .ok (e.2.1, zln e.2.1) := by decide +kernel
set_option maxRecDepth 100000 in
theorem zk243 : zal_ zm243 zc243 := zcs (trivial) (zcs (trivial) (zcs (zli_X12_349) (zcs ((by decide : ((5 : Nat) : Int) + 20 = ((25 : Nat) : Int))) (zcs (trivial) (zcs (trivial) (zcs (zli_X12_371) (zcs ((by decide : ((13 : Nat) : Int) + 12 = ((25 : Nat) : Int))) (zcs (trivial) (zcs (trivial) (zcs (trivial) (zcs (zli_X12_401) (zcs ((by decide : ((22 : Nat) : Int) + 5 = ((27 : Nat) : Int))) (zcs (zn_i_m1) (zcs (rfl) (zcs (trivial) (zcs (trivial) (zcs (zli_X12_392) (zcs (zlt_3_4) (zcs (trivial) (zcs (zli_X12_395) (zcs (trivial) (zcs (trivial) (zcs (trivial) (zcs (zli_X12_404) (zcs (trivial) (zcs (trivial) (zcs (zli_X12_386) (zcs (rfl) (znil)))))))))))))))))))))))))))))
theorem zg243 : zgm zm243 := fun e h => ⟨zd243 e h, zal_mem zk243 e h⟩
set_option maxRecDepth 100000 in
theorem zd244 : ∀ e ∈ zc244, zsw? e.2.1 = true ∨ decode cX12_canFetch e.1 = .ok (e.2.1, zln e.2.1) := by decide +kernel
set_option maxRecDepth 100000 in
theorem zk244 : zal_ zm244 zc244 := zcs (trivial) (zcs (trivial) (zcs (zn_i_4) (zcs (zli_X12_302) (zcs (zlt_3_4) (zcs (trivial) (zcs (trivial) (zcs (trivial) (zcs (zli_X12_389) (zcs ((by decide : ((13 : Nat) : Int) + 5 = ((18 : Nat) : Int))) (zcs (zn_i_1) (zcs (rfl) (zcs (trivial) (zcs (trivial) (zcs (zw1906) (zcs (zw1907) (zcs (zli_X12_112) (zcs ((by decide : ((29 : Nat) : Int) + 41 = ((70 : Nat) : Int))) (zcs (trivial) (zcs (trivial) (zcs (zn_s_200) (zcs (trivial) (zcs (zn_i_0) (zcs (zli_X12_368) (zcs (trivial) (zcs (trivial) (zcs (zli_X12_389) (zcs ((by decide : ((47 : Nat) : Int) + 23 = ((70 : Nat) : Int))) (zcs (trivial) (zcs (zlf_X12_39) (zcs (zn_i_5) (zcs (trivial) (zcs (trivial) (zcs (trivial) (zcs (zn_b_6) (zcs (zli_X12_302) (zcs ((by decide : ((63 : Nat) : Int) + 7 = ((70 : Nat) : Int))) (zcs (zn_i_1) (zcs ((by decide : ((67 : Nat) : Int) + 4 = ((71 : Nat) : Int))) (zcs (zn_i_0) (zcs (rfl) (znil)))))))))))))))))))))))))))))))))))))))))
theorem zg244 : zgm zm244 := fun e h => ⟨zd244 e h, zal_mem zk244 e h⟩
set_option maxRecDepth 100000 in
theorem zd245 : ∀ e ∈ zc245, zsw? e.2.1 = true ∨ decode cX12_fetches e.1 = .ok (e.2.1, zln e.2.1) := by decide +kernel
set_option maxRecDepth 100000 in
theorem zk245 : zal_ zm245 zc245 := zcs (zn_b_20) (zcs (zn_b_7) (zcs (trivial) (zcs (trivial) (zcs (trivial) (zcs (zlt_4_7) (zcs (trivial) (zcs (zlf_X12_39) (zcs (trivial) (zcs (zn_i_4) (zcs (trivial) (zcs (trivial) (zcs (zlt_5_7) (zcs (trivial) (zcs (zn_s_200) (zcs ((by decide : ((25 : Nat) : Int) + 80 = ((105 : Nat) : Int))) (zcs (trivial) (zcs (zlf_X12_39) (zcs (trivial) (zcs (zn_i_2) (zcs (trivial) (zcs (trivial) (zcs (trivial) (zcs (trivial) (zcs (zn_s_200) (zcs (trivial) (zcs (zn_i_1) (zcs (zli_X12_368) (zcs (trivial) (zcs (zlt_6_7) (zcs (trivial) (zcs (zlf_X12_39) (zcs (trivial) (zcs (zn_i_2) (zcs (trivial) (zcs (trivial) (zcs (zn_b_9) (zcs ((by decide : ((63 : Nat) : Int) + 8 = ((71 : Nat) : Int))) (zcs (zn_b_9) (zcs ((by decide : ((68 : Nat) : Int) + 5 = ((73 : Nat) : Int))) (zcs (trivial) (zcs (trivial) (zcs (trivial) (zcs (zlf_X12_39) (zcs (zn_s_144) (zcs (zn_i_5) (zcs (trivial) (zcs (zn_s_200) (zcs (trivial) (zcs (trivial) (zcs (trivial) (zcs (zn_i_3) (zcs (trivial) (zcs (zn_i_m1) (zcs (trivial) (zcs (trivial) (zcs (zlf_X12_39) (zcs (trivial) (zcs (zn_b_6) (zcs (trivial) (zcs (zn_i_m1) (zcs (trivial) (zcs (trivial) (zcs (zlf_X12_39) (zcs (trivial) (zcs (zn_i_3) (zcs (trivial) (zcs (trivial) (zcs (trivial) (zcs (trivial) (zcs (zlf_X12_39) (zcs (trivial) (zcs (zn_i_4) (zcs (trivial) (zcs (zn_b_100) (zcs (trivial) (zcs (trivial) (zcs (trivial) (zcs (rfl) (znil)))))))))))))))))))))))))))))))))))))))))))))))))))))))))))))))))))))))))))))))
theorem zg245 : zgm zm245 := fun e h => ⟨zd245 e h, zal_mem zk245 e h⟩
set_option maxRecDepth 100000 in
theorem zd246 : ∀ e ∈ zc246, zsw? e.2.1 = true ∨ decode cX12_isShelf e.1 = .ok (e.2.1, zln e.2.1) := by decide +kernel
set_option maxRecDepth 100000 in
theorem zk246 : zal_ zm246 zc246 := zcs (trivial) (zcs (trivial) (zcs (zli_X12_362) (zcs ((by decide : ((5 : Nat) : Int) + 21 = ((26 : Nat) : Int))) (zcs (trivial) (zcs ((by decide : ((9 : Nat) : Int) + 17 = ((26 : Nat) : Int))) (zcs (trivial) (zcs (trivial) (zcs (trivial) (zcs (zn_i_0) (zcs (zli_X12_298) (zcs ((by decide : ((19 : Nat) : Int) + 7 = ((26 : Nat) : Int))) (zcs (zn_i_1) (zcs ((by decide : ((23 : Nat) : Int) + 4 = ((27 : Nat) : Int))) (zcs (zn_i_0) (zcs (rfl) (znil))))))))))))))))
theorem zg246 : zgm zm246 := fun e h => ⟨zd246 e h, zal_mem zk246 e h⟩
set_option maxRecDepth 100000 in
theorem zd247 : ∀ e ∈ zc247, zsw? e.2.1 = true ∨ decode cX12_fetch e.1 = .ok (e.2.1, zln e.2.1) := by decide +kernel
set_option maxRecDepth 100000 in
theorem zk247 : zal_ zm247 zc247 := zcs (trivial) (zcs (trivial) (zcs (zli_X12_349) (zcs ((by decide : ((5 : Nat) : Int) + 21 = ((26 : Nat) : Int))) (zcs (trivial) (zcs (trivial) (zcs (trivial) (zcs (zli_X12_411) (zcs ((by decide : ((14 : Nat) : Int) + 12 = ((26 : Nat) : Int))) (zcs (trivial) (zcs (trivial) (zcs (trivial) (zcs (zli_X12_414) (zcs ((by decide : ((23 : Nat) : Int) + 5 = ((28 : Nat) : Int))) (zcs (zn_i_m1) (zcs (rfl) (zcs (trivial) (zcs (zli_X12_395) (zcs (trivial) (zcs (trivial) (zcs (trivial) (zcs (trivial) (zcs (zli_X12_417) (zcs (trivial) (zcs (trivial) (zcs (zli_X12_386) (zcs (rfl) (znil)))))))))))))))))))))))))))
theorem zg247 : zgm zm247 := fun e h => ⟨zd247 e h, zal_mem zk247 e h⟩
set_option maxRecDepth 100000 in
theorem zd248 : ∀ e ∈ zc248, zsw? e.2.1 = true ∨ decode cX12_shift e.1 = .ok (e.2.1, zln e.2.1) := by decide +kernel
set_option maxRecDepth 100000 in
theorem zk248 : zal_ zm248 zc248 := zcs (trivial) (zcs (trivial) (zcs (zli_X12_349) (zcs ((by decide : ((5 : Nat) : Int) + 5 = ((10 : Nat) : Int))) (zcs (zn_i_m1) (zcs (rfl) (zcs (trivial) (zcs (trivial) (zcs (zli_X12_392) (zcs (zlt_3_4) (zcs (trivial) (zcs (trivial) (zcs (trivial) (zcs (zli_X12_411) (zcs ((by decide : ((22 : Nat) : Int) + 13 = ((35 : Nat) : Int))) (zcs (trivial) (zcs (trivial) (zcs (zn_i_3) (zcs (zli_X12_302) (zcs (trivial) (zcs ((by decide : ((32 : Nat) : Int) + 5 = ((37 : Nat) : Int))) (zcs (zn_i_m1) (zcs (rfl) (zcs (trivial) (zcs (zli_X12_395) (zcs (trivial) (zcs (zlf_X12_39) (zcs (zn_b_20) (zcs (zn_b_7) (zcs (trivial) (zcs (trivial) (zcs (trivial) (zcs (zn_i_3) (zcs (trivial) (zcs (trivial) (zcs (trivial) (zcs (trivial) (zcs (trivial) (zcs (zli_X12_386) (zcs (rfl) (znil))))))))))))))))))))))))))))))))))))))))
theorem zg248 : zgm zm248 := fun e h => ⟨zd248 e h, zal_mem zk248 e h⟩
set_option maxRecDepth 100000 in
theorem zd249 : ∀ e ∈ zc249, zsw? e.2.1 = true ∨ decode cX12_hand e.1 = .ok (e.2.1, zln e.2.1) := by decide +kernel
set_option maxRecDepth 100000 in
theorem zk249 : zal_ zm249 zc249 := zcs (trivial) (zcs (trivial) (zcs (zli_X12_349) (zcs ((by decide : ((5 : Nat) : Int) + 34 = ((39 : Nat) : Int))) (zcs (trivial) (zcs (zlf_X12_39) (zcs (zn_i_0) (zcs (trivial) (zcs (zn_i_2) (zcs ((by decide : ((15 : Nat) : Int) + 24 = ((39 : Nat) : Int))) (zcs (trivial) (zcs (trivial) (zcs (zli_X12_392) (zcs ((by decide : ((23 : Nat) : Int) + 16 = ((39 : Nat) : Int))) (zcs (trivial) (zcs (zn_i_0) (zcs (zli_X12_389) (zcs (trivial) (zcs (zn_i_1) (zcs (zli_X12_389) (zcs ((by decide : ((36 : Nat) : Int) + 5 = ((41 : Nat) : Int))) (zcs (zn_i_m1) (zcs (rfl) (zcs (zn_i_1) (zcs (trivial) (zcs (trivial) (zcs (zli_X12_392) (zcs (trivial) (zcs (zlt_3_4) (zcs (trivial) (zcs (trivial) (zcs (trivial) (zcs (zli_X12_411) (zcs ((by decide : ((55 : Nat) : Int) + 5 = ((60 : Nat) : Int))) (zcs (zn_i_m1) (zcs (rfl) (zcs (trivial) (zcs (zli_X12_395) (zcs (trivial) (zcs (zlf_X12_39) (zcs (zn_b_20) (zcs (zn_b_7) (zcs (trivial) (zcs (trivial) (zcs (trivial) (zcs (zn_i_3) (zcs (trivial) (zcs (trivial) (zcs (trivial) (zcs (trivial) (zcs (trivial) (zcs (zn_b_100) (zcs (trivial) (zcs (trivial) (zcs (zli_X12_398) (zcs (trivial) (zcs (trivial) (zcs (zli_X12_386) (zcs (rfl) (znil)))))))))))))))))))))))))))))))))))))))))))))))))))))))))))
theorem zg249 : zgm zm249 := fun e h => ⟨zd249 e h, zal_mem zk249 e h⟩
set_option maxRecDepth 100000 in
theorem zd250 : ∀ e ∈ zc250, zsw? e.2.1 = true ∨ decode cX12_sail e.1 = .ok (e.2.1, zln e.2.1) := by decide +kernel
set_option maxRecDepth 100000 in
theorem zk250 : zal_ zm250 zc250 := zcs (trivial) (zcs (trivial) (zcs (zli_X12_362) (zcs ((by decide : ((5 : Nat) : Int) + 5 = ((10 : Nat) : Int))) (zcs (zn_i_m1) (zcs (rfl) (zcs (trivial) (zcs (trivial) (zcs (zli_X12_389) (zcs (trivial) (zcs ((by decide : ((16 : Nat) : Int) + 7 = ((23 : Nat) : Int))) (zcs (zn_i_1) (zcs ((by decide : ((20 : Nat) : Int) + 4 = ((24 : Nat) : Int))) (zcs (zn_i_m1) (zcs (trivial) (zcs (zlt_3_4) (zcs (trivial) (zcs (trivial) (zcs (zli_X12_354) (zcs ((by decide : ((31 : Nat) : Int) + 12 = ((43 : Nat) : Int))) (zcs (trivial) (zcs (trivial) (zcs (trivial) (zcs (zli_X12_365) (zcs ((by decide : ((40 : Nat) : Int) + 5 = ((45 : Nat) : Int))) (zcs (zn_i_m1) (zcs (rfl) (zcs (trivial) (zcs (zli_X12_395) (zcs (trivial) (zcs (zlf_X12_39) (zcs (zn_b_6) (zcs (zn_b_7) (zcs (trivial) (zcs (trivial) (zcs (trivial) (zcs (zn_i_5) (zcs (trivial) (zcs (trivial) (zcs (trivial) (zcs (trivial) (zcs (rfl) (znil))))))))))))))))))))))))))))))))))))))))))
theorem zg250 : zgm zm250 := fun e h => ⟨zd250 e h, zal_mem zk250 e h⟩
set_option maxRecDepth 100000 in
theorem zd251 : ∀ e ∈ zc251, zsw? e.2.1 = true ∨ decode cX12_nights e.1 = .ok (e.2.1, zln e.2.1) := by decide +kernel
set_option maxRecDepth 100000 in
theorem zk251 : zal_ zm251 zc251 := zcs (trivial) (zcs (zlf_X12_39) (zcs (zn_i_5) (zcs (trivial) (zcs (zn_s_9999) (zcs ((by decide : ((9 : Nat) : Int) + 13 = ((22 : Nat) : Int))) (zcs (trivial) (zcs (zlf_X12_39) (zcs (zn_i_5) (zcs (trivial) (zcs (trivial) (zcs (zn_i_1) (zcs (trivial) (zcs (trivial) (zcs (zn_i_0) (zcs (zlt_1_3) (zcs (trivial) (zcs (trivial) (zcs (zlf_X12_39) (zcs (zn_i_4) (zcs (trivial) (zcs ((by decide : ((31 : Nat) : Int) + 77 = ((108 : Nat) : Int))) (zcs (zn_b_6) (zcs (zn_b_7) (zcs (trivial) (zcs (trivial) (zcs (zn_i_0) (zcs (zli_X12_382) (zcs (trivial) (zcs (trivial) (zcs (zn_i_4) (zcs (trivial) (zcs (zlt_2_3) (zcs (trivial) (zcs (trivial) (zcs (zn_i_2) (zcs (zli_X12_382) (zcs ((by decide : ((55 : Nat) : Int) + 47 = ((102 : Nat) : Int))) (zcs (trivial) (zcs (zlf_X12_39) (zcs (trivial) (zcs (trivial) (zcs (zlf_X12_39) (zcs (trivial) (zcs (trivial) (zcs (trivial) (zcs (trivial) (zcs (zn_i_1) (zcs (zli_X12_382) (zcs (trivial) (zcs (zn_s_9999) (zcs ((by decide : ((79 : Nat) : Int) + 9 = ((88 : Nat) : Int))) (zcs (zn_s_9999) (zcs ((by decide : ((85 : Nat) : Int) + 16 = ((101 : Nat) : Int))) (zcs (trivial) (zcs (zlf_X12_39) (zcs (trivial) (zcs (trivial) (zcs (trivial) (zcs (trivial) (zcs (zn_i_1) (zcs (zli_X12_382) (zcs (trivial) (zcs (trivial) (zcs (⟨zn_i_1, zlt_1_3⟩) (zcs ((by decide : ((105 : Nat) : Int) + (-81) = ((24 : Nat) : Int))) (zcs (rfl) (znil)))))))))))))))))))))))))))))))))))))))))))))))))))))))))))))))))))
theorem zg251 : zgm zm251 := fun e h => ⟨zd251 e h, zal_mem zk251 e h⟩
set_option maxRecDepth 100000 in
theorem zd252 : ∀ e ∈ zc252, zsw? e.2.1 = true ∨ decode cX12_night e.1 = .ok (e.2.1, zln e.2.1) := by decide +kernel
set_option maxRecDepth 100000 in
theorem zk252 : zal_ zm252 zc252 := zcs (trivial) (zcs (zlf_X12_39) (zcs (zn_i_2) (zcs (trivial) (zcs ((by decide : ((6 : Nat) : Int) + 15 = ((21 : Nat) : Int))) (zcs (trivial) (zcs (zlf_X12_39) (zcs (zn_i_5) (zcs (trivial) (zcs (zn_s_9999) (zcs ((by decide : ((18 : Nat) : Int) + 5 = ((23 : Nat) : Int))) (zcs (zn_i_m1) (zcs (rfl) (zcs (trivial) (zcs (zli_X12_395) (zcs (trivial) (zcs (zli_X12_421) (zcs (trivial) (zcs (zlf_X12_39) (zcs (zn_i_5) (zcs (trivial) (zcs (rfl) (znil))))))))))))))))))))))
theorem zg252 : zgm zm252 := fun e h => ⟨zd252 e h, zal_mem zk252 e h⟩
set_option maxRecDepth 100000 in
theorem zd253 : ∀ e ∈ zc253, zsw? e.2.1 = true ∨ decode cX12_dry e.1 = .ok (e.2.1, zln e.2.1) := by decide +kernel
set_option maxRecDepth 100000 in
theorem zk253 : zal_ zm253 zc253 := zcs (zn_i_0) (zcs (zlt_1_3) (zcs (zn_i_0) (zcs (zlt_2_3) (zcs (trivial) (zcs (trivial) (zcs (zlf_X12_39) (zcs (zn_i_1) (zcs (trivial) (zcs ((by decide : ((11 : Nat) : Int) + 36 = ((47 : Nat) : Int))) (zcs (trivial) (zcs (trivial) (zcs (trivial) (zcs (zli_X12_392) (zcs ((by decide : ((20 : Nat) : Int) + 18 = ((38 : Nat) : Int))) (zcs (trivial) (zcs (trivial) (zcs (zn_i_2) (zcs (zli_X12_302) (zcs (zn_b_9) (zcs ((by decide : ((31 : Nat) : Int) + 7 = ((38 : Nat) : Int))) (zcs (zn_i_1) (zcs ((by decide : ((35 : Nat) : Int) + 4 = ((39 : Nat) : Int))) (zcs (zn_i_0) (zcs (trivial) (zcs (zlt_1_3) (zcs (⟨zn_i_1, zlt_2_3⟩) (zcs ((by decide : ((44 : Nat) : Int) + (-40) = ((4 : Nat) : Int))) (zcs (trivial) (zcs (rfl) (znil))))))))))))))))))))))))))))))
theorem zg253 : zgm zm253 := fun e h => ⟨zd253 e h, zal_mem zk253 e h⟩
set_option maxRecDepth 100000 in
theorem zd254 : ∀ e ∈ zc254, zsw? e.2.1 = true ∨ decode cX12_rains e.1 = .ok (e.2.1, zln e.2.1) := by decide +kernel
set_option maxRecDepth 100000 in
theorem zk254 : zal_ zm254 zc254 := zcs (zn_i_0) (zcs (zlt_1_2) (zcs (trivial) (zcs (trivial) (zcs (zlf_X12_39) (zcs (zn_i_1) (zcs (trivial) (zcs ((by decide : ((9 : Nat) : Int) + 46 = ((55 : Nat) : Int))) (zcs (trivial) (zcs (trivial) (zcs (zli_X12_392) (zcs ((by decide : ((17 : Nat) : Int) + 32 = ((49 : Nat) : Int))) (zcs (trivial) (zcs (trivial) (zcs (zn_i_2) (zcs (zli_X12_302) (zcs (zn_b_9) (zcs ((by decide : ((28 : Nat) : Int) + 21 = ((49 : Nat) : Int))) (zcs (trivial) (zcs (zlf_X12_39) (zcs (zn_b_20) (zcs (zn_b_7) (zcs (trivial) (zcs (trivial) (zcs (trivial) (zcs (zn_i_2) (zcs (trivial) (zcs (trivial) (zcs (trivial) (zcs (zn_i_1) (zcs (trivial) (zcs (trivial) (zcs (⟨zn_i_1, zlt_1_2⟩) (zcs ((by decide : ((52 : Nat) : Int) + (-50) = ((2 : Nat) : Int))) (zcs (rfl) (znil)))))))))))))))))))))))))))))))))))
theorem zg254 : zgm zm254 := fun e h => ⟨zd254 e h, zal_mem zk254 e h⟩
set_option maxRecDepth 100000 in
theorem zd255 : ∀ e ∈ zc255, zsw? e.2.1 = true ∨ decode cX12_rain e.1 = .ok (e.2.1, zln e.2.1) := by decide +kernel
set_option maxRecDepth 100000 in
theorem zk255 : zal_ zm255 zc255 := zcs (trivial) (zcs (zli_X12_424) (zcs (zlt_1_2) (zcs (trivial) (zcs ((by decide : ((6 : Nat) : Int) + 5 = ((11 : Nat) : Int))) (zcs (zn_i_m1) (zcs (rfl) (zcs (trivial) (zcs (zli_X12_395) (zcs (trivial) (zcs (zli_X12_427) (zcs (trivial) (zcs (rfl) (znil)))))))))))))
theorem zg255 : zgm zm255 := fun e h => ⟨zd255 e h, zal_mem zk255 e h⟩
set_option maxRecDepth 100000 in
theorem zd256 : ∀ e ∈ zc256, zsw? e.2.1 = true ∨ decode cX12_pump e.1 = .ok (e.2.1, zln e.2.1) := by decide +kernel
set_option maxRecDepth 100000 in
theorem zk256 : zal_ zm256 zc256 := zcs (trivial) (zcs (trivial) (zcs (zli_X12_362) (zcs ((by decide : ((5 : Nat) : Int) + 12 = ((17 : Nat) : Int))) (zcs (trivial) (zcs (trivial) (zcs (zn_i_4) (zcs (zli_X12_298) (zcs ((by decide : ((14 : Nat) : Int) + 5 = ((19 : Nat) : Int))) (zcs (zn_i_m1) (zcs (rfl) (zcs (trivial) (zcs (trivial) (zcs (zn_i_4) (zcs (zli_X12_298) (zcs (zlt_2_3) (zcs (trivial) (zcs (zli_X12_395) (zcs (trivial) (zcs (zlf_X12_39) (zcs (zn_b_6) (zcs (zn_b_7) (zcs (trivial) (zcs (trivial) (zcs (trivial) (zcs (zn_i_4) (zcs (trivial) (zcs (zn_i_0) (zcs (trivial) (zcs (trivial) (zcs (rfl) (znil)))))))))))))))))))))))))))))))
theorem zg256 : zgm zm256 := fun e h => ⟨zd256 e h, zal_mem zk256 e h⟩
set_option maxRecDepth 100000 in
theorem zd257 : ∀ e ∈ zc257, zsw? e.2.1 = true ∨ decode cX12_couldPlug e.1 = .ok (e.2.1, zln e.2.1) := by decide +kernel
set_option maxRecDepth 100000 in
theorem zk257 : zal_ zm257 zc257 := zcs (trivial) (zcs (trivial) (zcs (trivial) (zcs (trivial) (zcs (zn_i_0) (zcs (zli_X12_382) (zcs (zli_X12_309) (zcs ((by decide : ((11 : Nat) : Int) + 22 = ((33 : Nat) : Int))) (zcs (trivial) (zcs (trivial) (zcs (zn_i_0) (zcs (zli_X12_302) (zcs (trivial) (zcs (trivial) (zcs (zn_i_1) (zcs (zli_X12_382) (zcs ((by decide : ((26 : Nat) : Int) + 7 = ((33 : Nat) : Int))) (zcs (zn_i_1) (zcs ((by decide : ((30 : Nat) : Int) + 4 = ((34 : Nat) : Int))) (zcs (zn_i_0) (zcs (rfl) (znil)))))))))))))))))))))
theorem zg257 : zgm zm257 := fun e h => ⟨zd257 e h, zal_mem zk257 e h⟩
set_option maxRecDepth 100000 in
theorem zd258 : ∀ e ∈ zc258, zsw? e.2.1 = true ∨ decode cX12_plug e.1 = .ok (e.2.1, zln e.2.1) := by decide +kernel
set_option maxRecDepth 100000 in
theorem zk258 : zal_ zm258 zc258 := zcs (trivial) (zcs (trivial) (zcs (zli_X12_377) (zcs ((by decide : ((5 : Nat) : Int) + 30 = ((35 : Nat) : Int))) (zcs (trivial) (zcs (trivial) (zcs (zli_X12_349) (zcs ((by decide : ((13 : Nat) : Int) + 22 = ((35 : Nat) : Int))) (zcs (trivial) (zcs (trivial) (zcs (zn_i_2) (zcs (zli_X12_382) (zcs (zn_i_1) (zcs ((by decide : ((23 : Nat) : Int) + 12 = ((35 : Nat) : Int))) (zcs (trivial) (zcs (trivial) (zcs (trivial) (zcs (zli_X12_430) (zcs ((by decide : ((32 : Nat) : Int) + 5 = ((37 : Nat) : Int))) (zcs (zn_i_m1) (zcs (rfl) (zcs (trivial) (zcs (zli_X12_395) (zcs (trivial) (zcs (trivial) (zcs (zn_s_300) (zcs (zli_X12_398) (zcs (trivial) (zcs (zlf_X12_39) (zcs (zn_s_246) (zcs (zn_i_3) (zcs (trivial) (zcs (trivial) (zcs (trivial) (zcs (zn_i_2) (zcs (trivial) (zcs (zn_i_1) (zcs (trivial) (zcs (trivial) (zcs (trivial) (zcs (trivial) (zcs (zn_i_0) (zcs (zli_X12_382) (zcs (zli_X12_386) (zcs (rfl) (znil)))))))))))))))))))))))))))))))))))))))))))))
theorem zg258 : zgm zm258 := fun e h => ⟨zd258 e h, zal_mem zk258 e h⟩
set_option maxRecDepth 100000 in
theorem zd259 : ∀ e ∈ zc259, zsw? e.2.1 = true ∨ decode cX12_bestReader e.1 = .ok (e.2.1, zln e.2.1) := by decide +kernel
set_option maxRecDepth 100000 in
theorem zk259 : zal_ zm259 zc259 := zcs (zn_i_m1) (zcs (zlt_3_5) (zcs (zn_i_0) (zcs (zlt_4_5) (zcs (trivial) (zcs (trivial) (zcs (zlf_X12_39) (zcs (zn_i_3) (zcs (trivial) (zcs ((by decide : ((13 : Nat) : Int) + 57 = ((70 : Nat) : Int))) (zcs (trivial) (zcs (trivial) (zcs (zn_i_0) (zcs (zli_X12_368) (zcs (trivial) (zcs ((by decide : ((24 : Nat) : Int) + 40 = ((64 : Nat) : Int))) (zcs (trivial) (zcs (trivial) (zcs (zn_i_3) (zcs (zli_X12_368) (zcs ((by decide : ((34 : Nat) : Int) + 30 = ((64 : Nat) : Int))) (zcs (trivial) (zcs (trivial) (zcs (trivial) (zcs (zli_X12_374) (zcs (trivial) (zcs ((by decide : ((45 : Nat) : Int) + 7 = ((52 : Nat) : Int))) (zcs (zn_i_0) (zcs ((by decide : ((49 : Nat) : Int) + 9 = ((58 : Nat) : Int))) (zcs (trivial) (zcs (trivial) (zcs (trivial) (zcs (zli_X12_374) (zcs ((by decide : ((58 : Nat) : Int) + 6 = ((64 : Nat) : Int))) (zcs (trivial) (zcs (zlt_3_5) (zcs (⟨zn_i_1, zlt_4_5⟩) (zcs ((by decide : ((67 : Nat) : Int) + (-62) = ((5 : Nat) : Int))) (zcs (trivial) (zcs (rfl) (znil))))))))))))))))))))))))))))))))))))))))
theorem zg259 : zgm zm259 := fun e h => ⟨zd259 e h, zal_mem zk259 e h⟩
set_option maxRecDepth 100000 in
theorem zd260 : ∀ e ∈ zc260, zsw? e.2.1 = true ∨ decode cX12_words e.1 = .ok (e.2.1, zln e.2.1) := by decide +kernel
set_option maxRecDepth 100000 in
theorem zk260 : zal_ zm260 zc260 := zcs (trivial) (zcs (trivial) (zcs (zli_X12_389) (zcs (zlt_3_5) (zcs (trivial) (zcs (trivial) (zcs (trivial) (zcs (zli_X12_433) (zcs (zlt_4_5) (zcs (trivial) (zcs (zlf_X12_36) (zcs (zn_i_0) (zcs (trivial) (zcs (trivial) (zcs (trivial) (zcs (trivial) (zcs (zlf_X12_36) (zcs (zn_i_1) (zcs (trivial) (zcs (trivial) (zcs (zli_X12_318) (zcs (trivial) (zcs (trivial) (zcs (trivial) (zcs (zlf_X12_36) (zcs (zn_i_2) (zcs (trivial) (zcs (trivial) (zcs (zn_i_3) (zcs (zli_X12_302) (zcs (trivial) (zcs (trivial) (zcs (trivial) (zcs (zlf_X12_36) (zcs (zn_i_3) (zcs (trivial) (zcs (trivial) (zcs (zn_i_1) (zcs (zli_X12_302) (zcs (trivial) (zcs (trivial) (zcs (trivial) (zcs (zlf_X12_36) (zcs (zn_i_4) (zcs (trivial) (zcs (trivial) (zcs (zn_i_2) (zcs (zli_X12_302) (zcs (trivial) (zcs (trivial) (zcs (trivial) (zcs (zlf_X12_36) (zcs (zn_i_5) (zcs (trivial) (zcs ((by decide : ((80 : Nat) : Int) + 7 = ((87 : Nat) : Int))) (zcs (zn_l_0) (zcs ((by decide : ((84 : Nat) : Int) + 11 = ((95 : Nat) : Int))) (zcs (trivial) (zcs (trivial) (zcs (trivial) (zcs (zli_X12_374) (zcs (trivial) (zcs (trivial) (zcs (trivial) (zcs (zlf_X12_36) (zcs (zn_b_6) (zcs (trivial) (zcs (trivial) (zcs (trivial) (zcs (trivial) (zcs (zlf_X12_36) (zcs (zn_b_7) (zcs (trivial) (zcs (trivial) (zcs (zn_i_1) (zcs (trivial) (zcs (zli_X12_354) (zcs ((by decide : ((118 : Nat) : Int) + 14 = ((132 : Nat) : Int))) (zcs (trivial) (zcs (trivial) (zcs (zn_i_1) (zcs (trivial) (zcs (zli_X12_343) (zcs (trivial) (zcs ((by decide : ((129 : Nat) : Int) + 4 = ((133 : Nat) : Int))) (zcs (zn_l_0) (zcs (trivial) (zcs (trivial) (zcs (zlf_X12_36) (zcs (zn_b_8) (zcs (trivial) (zcs (trivial) (zcs (zli_X12_386) (zcs (trivial) (zcs (trivial) (zcs (trivial) (zcs (zlf_X12_36) (zcs (zn_b_9) (zcs (trivial) (zcs (trivial) (zcs (zn_i_4) (zcs (zli_X12_298) (zcs (trivial) (zcs (trivial) (zcs (trivial) (zcs (zlf_X12_36) (zcs (zn_b_10) (zcs (trivial) (zcs (trivial) (zcs (zn_i_5) (zcs (zli_X12_302) (zcs (trivial) (zcs (trivial) (zcs (trivial) (zcs (zlf_X12_36) (zcs (zn_b_11) (zcs (trivial) (zcs (zlf_X12_39) (zcs (zn_i_5) (zcs (trivial) (zcs (trivial) (zcs (trivial) (zcs (rfl) (znil)))))))))))))))))))))))))))))))))))))))))))))))))))))))))))))))))))))))))))))))))))))))))))))))))))))))))))))))))))))))))))
theorem zg260 : zgm zm260 := fun e h => ⟨zd260 e h, zal_mem zk260 e h⟩
set_option maxRecDepth 100000 in
theorem zd261 : ∀ e ∈ zc261, zsw? e.2.1 = true ∨ decode cX12_holds e.1 = .ok (e.2.1, zln e.2.1) := by decide +kernel
set_option maxRecDepth 100000 in
theorem zk261 : zal_ zm261 zc261 := zcs (trivial) (zcs (zlf_X12_20) (zcs (trivial) (zcs (zn_i_3) (zcs (trivial) (zcs (trivial) (zcs ((by decide : ((8 : Nat) : Int) + 29 = ((37 : Nat) : Int))) (zcs (trivial) (zcs (trivial) (zcs (trivial) (zcs (zlf_X12_20) (zcs (trivial) (zcs (zn_i_3) (zcs (trivial) (zcs (trivial) (zcs (trivial) (zcs (zlf_X12_20) (zcs (trivial) (zcs (zn_i_4) (zcs (trivial) (zcs (trivial) (zcs (zli_X12_436) (zcs (zn_l_1) (zcs (trivial) (zcs ((by decide : ((34 : Nat) : Int) + 7 = ((41 : Nat) : Int))) (zcs (zn_i_1) (zcs ((by decide : ((38 : Nat) : Int) + 4 = ((42 : Nat) : Int))) (zcs (zn_i_0) (zcs (rfl) (znil)))))))))))))))))))))))))))))
theorem zg261 : zgm zm261 := fun e h => ⟨zd261 e h, zal_mem zk261 e h⟩

def zskb (pc : Nat) (lo : Int) (offs : Array Int) : Nat → List (Int32 × Nat) → Bool
  | _, [] => true
  | i, q :: r => decide (q.1.toInt = lo + (i : Int)) && (match offs[i]? with | some o => decide ((pc : Int) + o = (q.2 : Int)) | none => false) && zskb pc lo offs (i + 1) r
theorem zskA {pc : Nat} {lo : Int} {offs : Array Int} : ∀ (sw : List (Int32 × Nat)) (n : Nat), zskb pc lo offs n sw = true → ∀ (i : Nat) (q : Int32 × Nat), sw[i]? = some q → q.1.toInt = lo + ((n + i : Nat) : Int) ∧ ∃ o, offs[n + i]? = some o ∧ (pc : Int) + o = (q.2 : Int)
  | [], _, _, i, q, hq => by simp at hq
  | x :: r, n, h, i, q, hq => by
    unfold zskb at h
    rw [Bool.and_eq_true, Bool.and_eq_true] at h
    obtain ⟨⟨h1, h2⟩, h3⟩ := h
    match i, hq with
    | 0, hq =>
      have : x = q := by simpa using hq
      subst this
      refine ⟨by simpa using of_decide_eq_true h1, ?_⟩
      split at h2
      · rename_i o ho; exact ⟨o, ho, of_decide_eq_true h2⟩
      · cases h2
    | i + 1, hq =>
      obtain ⟨f1, f2⟩ := zskA r (n + 1) h3 i q (by simpa using hq)
      rw [show n + (i + 1) = n + 1 + i by omega]
      exact ⟨f1, f2⟩
theorem zskP {pc : Nat} {lo : Int} {offs : Array Int} {sw : List (Int32 × Nat)} (h : zskb pc lo offs 0 sw = true) : ∀ (i : Nat) (q : Int32 × Nat), sw[i]? = some q → q.1.toInt = lo + (i : Int) ∧ ∃ o, offs[i]? = some o ∧ (pc : Int) + o = (q.2 : Int) := by
  intro i q hq
  have := zskA sw 0 h i q hq
  rw [Nat.zero_add] at this
  exact this
/-! ===== the links (printed by gen_prog.py) ===== -/
theorem zli_X0_1 : zlk zG ((⟨RX0, "", ""⟩ : MethodName), ⟨#[]⟩, 0, none, [], [], 0, 0, true) (0, .invokespecial 1, 1006, 1, [], 0, 0, []) := zw446
theorem zn_b_12 : (Int8.ofInt 12).toInt32 = 12 := by decide +kernel
theorem zlf_X0_9 : ∀ c ∈ [0], zfl RX0 9 0 2 c := zall1 (⟨RX0, TX0, 11, "BookBarge$Cargo", rfl, by decide, zw447, Or.inl rfl, Or.inr ⟨_, rfl⟩⟩)
theorem zlp_X0_9_i : ∀ c ∈ [0], zfp RX0 "<init>" 0 0 c := zall1 (⟨RX0, TX0, 11, rfl, Or.inr ⟨rfl, rfl, rfl⟩⟩)
theorem zlf_X0_15 : ∀ c ∈ [0], zfl RX0 15 1 2 c := zall1 (⟨RX0, TX0, 11, "BookBarge$Cargo", rfl, by decide, zw448, Or.inl rfl, Or.inr ⟨_, rfl⟩⟩)
theorem zlp_X0_15_i : ∀ c ∈ [0], zfp RX0 "<init>" 1 0 c := zall1 (⟨RX0, TX0, 11, rfl, Or.inr ⟨rfl, rfl, rfl⟩⟩)
theorem zn_i_1 : Int32.ofInt 1 = 1 := by decide +kernel
theorem zlf_X0_18 : ∀ c ∈ [0], zfl RX0 18 2 0 c := zall1 (⟨RX0, TX0, 11, "BookBarge$Cargo", rfl, by decide, zw449, Or.inl rfl, rfl⟩)
theorem zlp_X0_18_i (nm : String) : ∀ c ∈ [0], zfp RX0 nm 2 0 c := zall1 (⟨RX0, TX0, 11, rfl, Or.inl rfl⟩)
theorem zlf_X0_22 : ∀ c ∈ [0], zfl RX0 22 3 0 c := zall1 (⟨RX0, TX0, 11, "BookBarge$Cargo", rfl, by decide, zw450, Or.inl rfl, rfl⟩)
theorem zlp_X0_22_i (nm : String) : ∀ c ∈ [0], zfp RX0 nm 3 0 c := zall1 (⟨RX0, TX0, 11, rfl, Or.inl rfl⟩)
theorem zn_i_0 : Int32.ofInt 0 = 0 := by decide +kernel
theorem zlf_X0_25 : ∀ c ∈ [0], zfl RX0 25 4 0 c := zall1 (⟨RX0, TX0, 11, "BookBarge$Cargo", rfl, by decide, zw451, Or.inl rfl, rfl⟩)
theorem zlp_X0_25_i (nm : String) : ∀ c ∈ [0], zfp RX0 nm 4 0 c := zall1 (⟨RX0, TX0, 11, rfl, Or.inl rfl⟩)
theorem zlf_X0_28 : ∀ c ∈ [0], zfl RX0 28 5 0 c := zall1 (⟨RX0, TX0, 11, "BookBarge$Cargo", rfl, by decide, zw452, Or.inl rfl, rfl⟩)
theorem zlp_X0_28_i (nm : String) : ∀ c ∈ [0], zfp RX0 nm 5 0 c := zall1 (⟨RX0, TX0, 11, rfl, Or.inl rfl⟩)
theorem zlf_X0_31 : ∀ c ∈ [0], zfl RX0 31 6 3 c := zall1 (⟨RX0, TX0, 11, "BookBarge$Cargo", rfl, by decide, zw453, Or.inl rfl, rfl⟩)
theorem zlp_X0_31_i (nm : String) : ∀ c ∈ [0], zfp RX0 nm 6 0 c := zall1 (⟨RX0, TX0, 11, rfl, Or.inl rfl⟩)
theorem zlf_X0_35 : ∀ c ∈ [0], zfl RX0 35 7 0 c := zall1 (⟨RX0, TX0, 11, "BookBarge$Cargo", rfl, by decide, zw454, Or.inl rfl, rfl⟩)
theorem zlp_X0_35_i (nm : String) : ∀ c ∈ [0], zfp RX0 nm 7 0 c := zall1 (⟨RX0, TX0, 11, rfl, Or.inl rfl⟩)
theorem zlf_X0_38 : ∀ c ∈ [0], zfl RX0 38 8 0 c := zall1 (⟨RX0, TX0, 11, "BookBarge$Cargo", rfl, by decide, zw455, Or.inl rfl, rfl⟩)
theorem zlp_X0_38_i (nm : String) : ∀ c ∈ [0], zfp RX0 nm 8 0 c := zall1 (⟨RX0, TX0, 11, rfl, Or.inl rfl⟩)
theorem zlf_X0_41 : ∀ c ∈ [0], zfl RX0 41 9 0 c := zall1 (⟨RX0, TX0, 11, "BookBarge$Cargo", rfl, by decide, zw457, Or.inl rfl, rfl⟩)
theorem zlp_X0_41_i (nm : String) : ∀ c ∈ [0], zfp RX0 nm 9 0 c := zall1 (⟨RX0, TX0, 11, rfl, Or.inl rfl⟩)
theorem zlf_X0_44 : ∀ c ∈ [0], zfl RX0 44 10 0 c := zall1 (⟨RX0, TX0, 11, "BookBarge$Cargo", rfl, by decide, zw459, Or.inl rfl, rfl⟩)
theorem zlp_X0_44_i (nm : String) : ∀ c ∈ [0], zfp RX0 nm 10 0 c := zall1 (⟨RX0, TX0, 11, rfl, Or.inl rfl⟩)
theorem zlp_X0_25_n (nm : String) : ∀ c ∈ [0], zfp RX0 nm 4 0 c := zall1 (⟨RX0, TX0, 11, rfl, Or.inl rfl⟩)
theorem zlp_X0_28_n (nm : String) : ∀ c ∈ [0], zfp RX0 nm 5 0 c := zall1 (⟨RX0, TX0, 11, rfl, Or.inl rfl⟩)
theorem zlp_X0_31_n (nm : String) : ∀ c ∈ [0], zfp RX0 nm 6 0 c := zall1 (⟨RX0, TX0, 11, rfl, Or.inl rfl⟩)
theorem zn_b_93 : (Int8.ofInt 93).toInt32 = 93 := by decide +kernel
theorem zcal77 : zcal zm77 2 := ⟨zw715, zw144, by decide +kernel⟩
theorem zpn77 : plainName (zm77).1.cls = true := by decide +kernel
theorem zli_X0_47 : zlk zG ((⟨RX0, "", ""⟩ : MethodName), ⟨#[]⟩, 0, none, [], [], 0, 0, true) (0, .invokevirtual 47, 77, 3, [9], 0, 0, []) := ⟨zall1 (⟨(RX10, TX10, 1), ⟨"BookBarge$World", "cell", "(II)I"⟩, rfl, zw1336, zw713, zw714, Or.inl ⟨rfl, by decide⟩⟩), zcal77, by decide, by decide, zpn77⟩
theorem zlp_X0_18_n (nm : String) : ∀ c ∈ [0], zfp RX0 nm 2 0 c := zall1 (⟨RX0, TX0, 11, rfl, Or.inl rfl⟩)
theorem zn_b_95 : (Int8.ofInt 95).toInt32 = 95 := by decide +kernel
theorem zlp_X0_22_n (nm : String) : ∀ c ∈ [0], zfp RX0 nm 3 0 c := zall1 (⟨RX0, TX0, 11, rfl, Or.inl rfl⟩)
theorem zcal2 : zcal zm2 2 := ⟨zw1340, zw152, by decide +kernel⟩
theorem zpn2 : plainName (zm2).1.cls = true := by decide +kernel
theorem zli_X0_51 : zlk zG ((⟨RX0, "", ""⟩ : MethodName), ⟨#[]⟩, 0, none, [], [], 0, 0, true) (0, .invokevirtual 51, 2, 3, [0], 0, 0, []) := ⟨zall1 (⟨(RX0, TX0, 11), ⟨"BookBarge$Cargo", "noteCandidates", "(LBookBarge$World;I)I"⟩, rfl, zw1337, zw1339, zw36, Or.inl ⟨rfl, by decide⟩⟩), zcal2, by decide, by decide, zpn2⟩
theorem zlt_6_8 : (6 : Nat) < 8 := by decide +kernel
theorem zlp_X0_38_n (nm : String) : ∀ c ∈ [0], zfp RX0 nm 8 0 c := zall1 (⟨RX0, TX0, 11, rfl, Or.inl rfl⟩)
theorem zlp_X0_35_n (nm : String) : ∀ c ∈ [0], zfp RX0 nm 7 0 c := zall1 (⟨RX0, TX0, 11, rfl, Or.inl rfl⟩)
theorem zlp_X0_41_n (nm : String) : ∀ c ∈ [0], zfp RX0 nm 9 0 c := zall1 (⟨RX0, TX0, 11, rfl, Or.inl rfl⟩)
theorem zn_b_91 : (Int8.ofInt 91).toInt32 = 91 := by decide +kernel
theorem zn_i_3 : Int32.ofInt 3 = 3 := by decide +kernel
theorem zlt_7_8 : (7 : Nat) < 8 := by decide +kernel
theorem zn_b_85 : (Int8.ofInt 85).toInt32 = 85 := by decide +kernel
theorem zcal3 : zcal zm3 4 := ⟨zw1349, zw152, by decide +kernel⟩
theorem zpn3 : plainName (zm3).1.cls = true := by decide +kernel
theorem zli_X0_55 : zlk zG ((⟨RX0, "", ""⟩ : MethodName), ⟨#[]⟩, 0, none, [], [], 0, 0, true) (0, .invokevirtual 55, 3, 5, [0], 0, 0, []) := ⟨zall1 (⟨(RX0, TX0, 11), ⟨"BookBarge$Cargo", "search", "(IIII)V"⟩, rfl, zw1346, zw1348, zw37, Or.inl ⟨rfl, by decide⟩⟩), zcal3, by decide, by decide, zpn3⟩
theorem zn_i_m1 : Int32.ofInt (-1) = (-1) := by decide +kernel
theorem zlp_X0_44_n (nm : String) : ∀ c ∈ [0], zfp RX0 nm 10 0 c := zall1 (⟨RX0, TX0, 11, rfl, Or.inl rfl⟩)
theorem zlt_3_7 : (3 : Nat) < 7 := by decide +kernel
theorem zlt_4_7 : (4 : Nat) < 7 := by decide +kernel
theorem zn_b_47 : (Int8.ofInt 47).toInt32 = 47 := by decide +kernel
theorem zn_s_300 : (Int16.ofInt 300).toInt32 = 300 := by decide +kernel
theorem zlt_5_7 : (5 : Nat) < 7 := by decide +kernel
theorem zcal79 : zcal zm79 1 := ⟨zw934, zw144, by decide +kernel⟩
theorem zpn79 : plainName (zm79).1.cls = true := by decide +kernel
theorem zli_X0_59 : zlk zG ((⟨RX0, "", ""⟩ : MethodName), ⟨#[]⟩, 0, none, [], [], 0, 0, true) (0, .invokevirtual 59, 79, 2, [9], 0, 0, []) := ⟨zall1 (⟨(RX10, TX10, 1), ⟨"BookBarge$World", "hasBook", "(I)Z"⟩, rfl, zw1341, zw932, zw933, Or.inl ⟨rfl, by decide⟩⟩), zcal79, by decide, by decide, zpn79⟩
theorem zcal96 : zcal zm96 1 := ⟨zw1019, zw144, by decide +kernel⟩
theorem zpn96 : plainName (zm96).1.cls = true := by decide +kernel
theorem zli_X0_63 : zlk zG ((⟨RX0, "", ""⟩ : MethodName), ⟨#[]⟩, 0, none, [], [], 0, 0, true) (0, .invokevirtual 63, 96, 2, [9], 0, 0, []) := ⟨zall1 (⟨(RX10, TX10, 1), ⟨"BookBarge$World", "bargeOf", "(I)I"⟩, rfl, zw1342, zw1017, zw1018, Or.inl ⟨rfl, by decide⟩⟩), zcal96, by decide, by decide, zpn96⟩
theorem zcal88 : zcal zm88 1 := ⟨zw1178, zw144, by decide +kernel⟩
theorem zpn88 : plainName (zm88).1.cls = true := by decide +kernel
theorem zli_X0_67 : zlk zG ((⟨RX0, "", ""⟩ : MethodName), ⟨#[]⟩, 0, none, [], [], 0, 0, true) (0, .invokevirtual 67, 88, 2, [9], 0, 0, []) := ⟨zall1 (⟨(RX10, TX10, 1), ⟨"BookBarge$World", "heavy", "(I)I"⟩, rfl, zw1343, zw1176, zw1177, Or.inl ⟨rfl, by decide⟩⟩), zcal88, by decide, by decide, zpn88⟩
theorem zn_b_23 : (Int8.ofInt 23).toInt32 = 23 := by decide +kernel
theorem zcal90 : zcal zm90 2 := ⟨zw1206, zw144, by decide +kernel⟩
theorem zpn90 : plainName (zm90).1.cls = true := by decide +kernel
theorem zli_X0_69 : zlk zG ((⟨RX0, "", ""⟩ : MethodName), ⟨#[]⟩, 0, none, [], [], 0, 0, true) (0, .invokevirtual 69, 90, 3, [9], 0, 0, []) := ⟨zall1 (⟨(RX10, TX10, 1), ⟨"BookBarge$World", "shelfOf", "(II)I"⟩, rfl, zw1344, zw1204, zw1205, Or.inl ⟨rfl, by decide⟩⟩), zcal90, by decide, by decide, zpn90⟩
theorem zlt_6_7 : (6 : Nat) < 7 := by decide +kernel
theorem zcal89 : zcal zm89 2 := ⟨zw1251, zw144, by decide +kernel⟩
theorem zpn89 : plainName (zm89).1.cls = true := by decide +kernel
theorem zli_X0_72 : zlk zG ((⟨RX0, "", ""⟩ : MethodName), ⟨#[]⟩, 0, none, [], [], 0, 0, true) (0, .invokevirtual 72, 89, 3, [9], 0, 0, []) := ⟨zall1 (⟨(RX10, TX10, 1), ⟨"BookBarge$World", "arm", "(II)I"⟩, rfl, zw1345, zw1249, zw1250, Or.inl ⟨rfl, by decide⟩⟩), zcal89, by decide, by decide, zpn89⟩
theorem zcal93 : zcal zm93 4 := ⟨zw980, zw144, by decide +kernel⟩
theorem zpn93 : plainName (zm93).1.cls = true := by decide +kernel
theorem zli_X0_75 : zlk zG ((⟨RX0, "", ""⟩ : MethodName), ⟨#[]⟩, 0, none, [], [], 0, 0, true) (0, .invokestatic 75, 93, 4, [], 0, 0, []) := ⟨zw1350, zw979, zcal93, by decide, zpn93⟩
theorem zli_X1_3 : zlk zG ((⟨RX1, "", ""⟩ : MethodName), ⟨#[]⟩, 0, none, [], [], 0, 0, true) (0, .invokespecial 3, 1006, 1, [], 0, 0, []) := zw266
theorem zcal75 : zcal zm75 0 := ⟨zw175, zw144, by decide +kernel⟩
theorem zpn75 : plainName (zm75).1.cls = true := by decide +kernel
theorem zli_X1_11 : zlk zG ((⟨RX1, "", ""⟩ : MethodName), ⟨#[]⟩, 0, none, [], [], 0, 0, true) (0, .invokespecial 11, 75, 1, [9], 0, 0, []) := ⟨rfl, rfl, Or.inr ⟨"BookBarge", List.mem_of_getElem? (i := 268) (by decide +kernel)⟩, zw174, zcal75, by decide, by decide, zpn75⟩
theorem zlf_X1_12 : ∀ c ∈ [1], zfl RX1 12 0 2 c := zall1 (⟨RX1, TX1, 10, "BookBarge$Journey", rfl, by decide, zw269, Or.inl rfl, Or.inl ⟨_, rfl⟩⟩)
theorem zlp_X1_12_i : ∀ c ∈ [1], zfp RX1 "<init>" 0 0 c := zall1 (⟨RX1, TX1, 10, rfl, Or.inr ⟨rfl, rfl, rfl⟩⟩)
theorem zlf_X1_18 : ∀ c ∈ [1], zfl RX1 18 1 2 c := zall1 (⟨RX1, TX1, 10, "BookBarge$Journey", rfl, by decide, zw271, Or.inl rfl, Or.inr ⟨_, rfl⟩⟩)
theorem zlp_X1_18_i : ∀ c ∈ [1], zfp RX1 "<init>" 1 0 c := zall1 (⟨RX1, TX1, 10, rfl, Or.inr ⟨rfl, rfl, rfl⟩⟩)
theorem zlf_X1_22 : ∀ c ∈ [1], zfl RX1 22 2 2 c := zall1 (⟨RX1, TX1, 10, "BookBarge$Journey", rfl, by decide, zw272, Or.inl rfl, Or.inl ⟨_, rfl⟩⟩)
theorem zlp_X1_22_i (nm : String) : ∀ c ∈ [1], zfp RX1 nm 2 0 c := zall1 (⟨RX1, TX1, 10, rfl, Or.inl rfl⟩)
theorem zlf_X1_25 : ∀ c ∈ [1], zfl RX1 25 3 2 c := zall1 (⟨RX1, TX1, 10, "BookBarge$Journey", rfl, by decide, zw273, Or.inl rfl, Or.inl ⟨_, rfl⟩⟩)
theorem zlp_X1_25_i (nm : String) : ∀ c ∈ [1], zfp RX1 nm 3 0 c := zall1 (⟨RX1, TX1, 10, rfl, Or.inl rfl⟩)
theorem zlf_X1_29 : ∀ c ∈ [1], zfl RX1 29 4 0 c := zall1 (⟨RX1, TX1, 10, "BookBarge$Journey", rfl, by decide, zw274, Or.inl rfl, rfl⟩)
theorem zlp_X1_29_i (nm : String) : ∀ c ∈ [1], zfp RX1 nm 4 0 c := zall1 (⟨RX1, TX1, 10, rfl, Or.inl rfl⟩)
theorem zlf_X1_33 : ∀ c ∈ [1], zfl RX1 33 5 0 c := zall1 (⟨RX1, TX1, 10, "BookBarge$Journey", rfl, by decide, zw275, Or.inl rfl, rfl⟩)
theorem zlp_X1_33_i (nm : String) : ∀ c ∈ [1], zfp RX1 nm 5 0 c := zall1 (⟨RX1, TX1, 10, rfl, Or.inl rfl⟩)
theorem zlf_X1_36 : ∀ c ∈ [1], zfl RX1 36 6 0 c := zall1 (⟨RX1, TX1, 10, "BookBarge$Journey", rfl, by decide, zw276, Or.inl rfl, rfl⟩)
theorem zlp_X1_36_i (nm : String) : ∀ c ∈ [1], zfp RX1 nm 6 0 c := zall1 (⟨RX1, TX1, 10, rfl, Or.inl rfl⟩)
theorem zlf_X1_39 : ∀ c ∈ [1], zfl RX1 39 7 0 c := zall1 (⟨RX1, TX1, 10, "BookBarge$Journey", rfl, by decide, zw277, Or.inl rfl, rfl⟩)
theorem zlp_X1_39_i (nm : String) : ∀ c ∈ [1], zfp RX1 nm 7 0 c := zall1 (⟨RX1, TX1, 10, rfl, Or.inl rfl⟩)
theorem zlf_X1_42 : ∀ c ∈ [1], zfl RX1 42 8 0 c := zall1 (⟨RX1, TX1, 10, "BookBarge$Journey", rfl, by decide, zw279, Or.inl rfl, rfl⟩)
theorem zlp_X1_42_i (nm : String) : ∀ c ∈ [1], zfp RX1 nm 8 0 c := zall1 (⟨RX1, TX1, 10, rfl, Or.inl rfl⟩)
theorem zlf_X1_45 : ∀ c ∈ [1], zfl RX1 45 9 0 c := zall1 (⟨RX1, TX1, 10, "BookBarge$Journey", rfl, by decide, zw281, Or.inl rfl, rfl⟩)
theorem zlp_X1_45_i (nm : String) : ∀ c ∈ [1], zfp RX1 nm 9 0 c := zall1 (⟨RX1, TX1, 10, rfl, Or.inl rfl⟩)
theorem zlp_X1_22_n (nm : String) : ∀ c ∈ [1], zfp RX1 nm 2 0 c := zall1 (⟨RX1, TX1, 10, rfl, Or.inl rfl⟩)
theorem zlp_X1_25_n (nm : String) : ∀ c ∈ [1], zfp RX1 nm 3 0 c := zall1 (⟨RX1, TX1, 10, rfl, Or.inl rfl⟩)
theorem zlp_X1_29_n (nm : String) : ∀ c ∈ [1], zfp RX1 nm 4 0 c := zall1 (⟨RX1, TX1, 10, rfl, Or.inl rfl⟩)
theorem zlp_X1_39_n (nm : String) : ∀ c ∈ [1], zfp RX1 nm 7 0 c := zall1 (⟨RX1, TX1, 10, rfl, Or.inl rfl⟩)
theorem zlp_X1_42_n (nm : String) : ∀ c ∈ [1], zfp RX1 nm 8 0 c := zall1 (⟨RX1, TX1, 10, rfl, Or.inl rfl⟩)
theorem zlp_X1_45_n (nm : String) : ∀ c ∈ [1], zfp RX1 nm 9 0 c := zall1 (⟨RX1, TX1, 10, rfl, Or.inl rfl⟩)
theorem zli_X1_48 : zlk zG ((⟨RX1, "", ""⟩ : MethodName), ⟨#[]⟩, 0, none, [], [], 0, 0, true) (0, .invokevirtual 48, 77, 3, [9], 0, 0, []) := ⟨zall1 (⟨(RX10, TX10, 1), ⟨"BookBarge$World", "cell", "(II)I"⟩, rfl, zw1163, zw713, zw714, Or.inl ⟨rfl, by decide⟩⟩), zcal77, by decide, by decide, zpn77⟩
theorem zn_b_6 : (Int8.ofInt 6).toInt32 = 6 := by decide +kernel
theorem zcal6 : zcal zm6 0 := ⟨zw1162, zw148, by decide +kernel⟩
theorem zpn6 : plainName (zm6).1.cls = true := by decide +kernel
theorem zli_X1_52 : zlk zG ((⟨RX1, "", ""⟩ : MethodName), ⟨#[]⟩, 0, none, [], [], 0, 0, true) (0, .invokevirtual 52, 6, 1, [1], 0, 0, []) := ⟨zall1 (⟨(RX1, TX1, 10), ⟨"BookBarge$Journey", "here", "()I"⟩, rfl, zw1159, zw1161, zw24, Or.inl ⟨rfl, by decide⟩⟩), zcal6, by decide, by decide, zpn6⟩
theorem zn_b_7 : (Int8.ofInt 7).toInt32 = 7 := by decide +kernel
theorem zcal86 : zcal zm86 1 := ⟨zw946, zw144, by decide +kernel⟩
theorem zpn86 : plainName (zm86).1.cls = true := by decide +kernel
theorem zli_X1_56 : zlk zG ((⟨RX1, "", ""⟩ : MethodName), ⟨#[]⟩, 0, none, [], [], 0, 0, true) (0, .invokevirtual 56, 86, 2, [9], 0, 0, []) := ⟨zall1 (⟨(RX10, TX10, 1), ⟨"BookBarge$World", "depthOf", "(I)I"⟩, rfl, zw1164, zw944, zw945, Or.inl ⟨rfl, by decide⟩⟩), zcal86, by decide, by decide, zpn86⟩
theorem zn_b_8 : (Int8.ofInt 8).toInt32 = 8 := by decide +kernel
theorem zcal94 : zcal zm94 1 := ⟨zw968, zw144, by decide +kernel⟩
theorem zpn94 : plainName (zm94).1.cls = true := by decide +kernel
theorem zli_X1_60 : zlk zG ((⟨RX1, "", ""⟩ : MethodName), ⟨#[]⟩, 0, none, [], [], 0, 0, true) (0, .invokevirtual 60, 94, 2, [9], 0, 0, []) := ⟨zall1 (⟨(RX10, TX10, 1), ⟨"BookBarge$World", "draughtOf", "(I)I"⟩, rfl, zw1165, zw966, zw967, Or.inl ⟨rfl, by decide⟩⟩), zcal94, by decide, by decide, zpn94⟩
theorem zn_b_9 : (Int8.ofInt 9).toInt32 = 9 := by decide +kernel
theorem zn_b_11 : (Int8.ofInt 11).toInt32 = 11 := by decide +kernel
theorem zli_X1_63 : zlk zG ((⟨RX1, "", ""⟩ : MethodName), ⟨#[]⟩, 0, none, [], [], 0, 0, true) (0, .invokevirtual 63, 88, 2, [9], 0, 0, []) := ⟨zall1 (⟨(RX10, TX10, 1), ⟨"BookBarge$World", "heavy", "(I)I"⟩, rfl, zw1175, zw1176, zw1177, Or.inl ⟨rfl, by decide⟩⟩), zcal88, by decide, by decide, zpn88⟩
theorem zn_i_2 : Int32.ofInt 2 = 2 := by decide +kernel
theorem zn_b_109 : (Int8.ofInt 109).toInt32 = 109 := by decide +kernel
theorem zn_i_4 : Int32.ofInt 4 = 4 := by decide +kernel
theorem zn_b_35 : (Int8.ofInt 35).toInt32 = 35 := by decide +kernel
theorem zn_b_10 : (Int8.ofInt 10).toInt32 = 10 := by decide +kernel
theorem zn_b_59 : (Int8.ofInt 59).toInt32 = 59 := by decide +kernel
theorem zcal101 : zcal zm101 2 := ⟨zw1182, zw144, by decide +kernel⟩
theorem zpn101 : plainName (zm101).1.cls = true := by decide +kernel
theorem zli_X1_66 : zlk zG ((⟨RX1, "", ""⟩ : MethodName), ⟨#[]⟩, 0, none, [], [], 0, 0, true) (0, .invokevirtual 66, 101, 3, [9], 0, 0, []) := ⟨zall1 (⟨(RX10, TX10, 1), ⟨"BookBarge$World", "keenestReader", "(II)I"⟩, rfl, zw1179, zw1180, zw1181, Or.inl ⟨rfl, by decide⟩⟩), zcal101, by decide, by decide, zpn101⟩
theorem zlp_X1_33_n (nm : String) : ∀ c ∈ [1], zfp RX1 nm 5 0 c := zall1 (⟨RX1, TX1, 10, rfl, Or.inl rfl⟩)
theorem zn_i_5 : Int32.ofInt 5 = 5 := by decide +kernel
theorem zn_l_0 : Int64.ofNat 0 = 0 := by decide +kernel
theorem zcal87 : zcal zm87 2 := ⟨zw1003, zw144, by decide +kernel⟩
theorem zpn87 : plainName (zm87).1.cls = true := by decide +kernel
theorem zli_X1_69 : zlk zG ((⟨RX1, "", ""⟩ : MethodName), ⟨#[]⟩, 0, none, [], [], 0, 0, true) (0, .invokevirtual 69, 87, 3, [9], 0, 0, []) := ⟨zall1 (⟨(RX10, TX10, 1), ⟨"BookBarge$World", "coins", "(II)I"⟩, rfl, zw1183, zw1001, zw1002, Or.inl ⟨rfl, by decide⟩⟩), zcal87, by decide, by decide, zpn87⟩
theorem zcal78 : zcal zm78 1 := ⟨zw959, zw144, by decide +kernel⟩
theorem zpn78 : plainName (zm78).1.cls = true := by decide +kernel
theorem zli_X1_72 : zlk zG ((⟨RX1, "", ""⟩ : MethodName), ⟨#[]⟩, 0, none, [], [], 0, 0, true) (0, .invokevirtual 72, 78, 2, [9], 0, 0, []) := ⟨zall1 (⟨(RX10, TX10, 1), ⟨"BookBarge$World", "hasBarge", "(I)Z"⟩, rfl, zw1154, zw957, zw958, Or.inl ⟨rfl, by decide⟩⟩), zcal78, by decide, by decide, zpn78⟩
theorem zcal7 : zcal zm7 0 := ⟨zw1158, zw148, by decide +kernel⟩
theorem zpn7 : plainName (zm7).1.cls = true := by decide +kernel
theorem zli_X1_76 : zlk zG ((⟨RX1, "", ""⟩ : MethodName), ⟨#[]⟩, 0, none, [], [], 0, 0, true) (0, .invokevirtual 76, 7, 1, [1], 0, 0, []) := ⟨zall1 (⟨(RX1, TX1, 10), ⟨"BookBarge$Journey", "tellBarge", "()V"⟩, rfl, zw1155, zw1157, zw23, Or.inl ⟨rfl, by decide⟩⟩), zcal7, by decide, by decide, zpn7⟩
theorem zcal10 : zcal zm10 0 := ⟨zw1169, zw148, by decide +kernel⟩
theorem zpn10 : plainName (zm10).1.cls = true := by decide +kernel
theorem zli_X1_79 : zlk zG ((⟨RX1, "", ""⟩ : MethodName), ⟨#[]⟩, 0, none, [], [], 0, 0, true) (0, .invokevirtual 79, 10, 1, [1], 0, 0, []) := ⟨zall1 (⟨(RX1, TX1, 10), ⟨"BookBarge$Journey", "fetchByRule", "()V"⟩, rfl, zw1166, zw1168, zw25, Or.inl ⟨rfl, by decide⟩⟩), zcal10, by decide, by decide, zpn10⟩
theorem zcal11 : zcal zm11 0 := ⟨zw1211, zw148, by decide +kernel⟩
theorem zpn11 : plainName (zm11).1.cls = true := by decide +kernel
theorem zli_X1_82 : zlk zG ((⟨RX1, "", ""⟩ : MethodName), ⟨#[]⟩, 0, none, [], [], 0, 0, true) (0, .invokevirtual 82, 11, 1, [1], 0, 0, []) := ⟨zall1 (⟨(RX1, TX1, 10), ⟨"BookBarge$Journey", "shiftByRule", "()V"⟩, rfl, zw1208, zw1210, zw28, Or.inl ⟨rfl, by decide⟩⟩), zcal11, by decide, by decide, zpn11⟩
theorem zlt_1_2 : (1 : Nat) < 2 := by decide +kernel
theorem zcal80 : zcal zm80 1 := ⟨zw942, zw144, by decide +kernel⟩
theorem zpn80 : plainName (zm80).1.cls = true := by decide +kernel
theorem zli_X1_85 : zlk zG ((⟨RX1, "", ""⟩ : MethodName), ⟨#[]⟩, 0, none, [], [], 0, 0, true) (0, .invokevirtual 85, 80, 2, [9], 0, 0, []) := ⟨zall1 (⟨(RX10, TX10, 1), ⟨"BookBarge$World", "hasStop", "(I)Z"⟩, rfl, zw1215, zw940, zw941, Or.inl ⟨rfl, by decide⟩⟩), zcal80, by decide, by decide, zpn80⟩
theorem zcal12 : zcal zm12 1 := ⟨zw1219, zw148, by decide +kernel⟩
theorem zpn12 : plainName (zm12).1.cls = true := by decide +kernel
theorem zli_X1_88 : zlk zG ((⟨RX1, "", ""⟩ : MethodName), ⟨#[]⟩, 0, none, [], [], 0, 0, true) (0, .invokevirtual 88, 12, 2, [1], 0, 0, []) := ⟨zall1 (⟨(RX1, TX1, 10), ⟨"BookBarge$Journey", "lightenByRule", "(I)Z"⟩, rfl, zw1216, zw1218, zw29, Or.inl ⟨rfl, by decide⟩⟩), zcal12, by decide, by decide, zpn12⟩
theorem zlf_X1_91 : ∀ c ∈ [9], zfl RX1 91 0 2 c := zall1 (⟨RX10, TX10, 1, "BookBarge$World", rfl, by decide, zw180, Or.inl rfl, Or.inr ⟨_, rfl⟩⟩)
theorem zcal102 : zcal zm102 2 := ⟨zw1056, zw144, by decide +kernel⟩
theorem zpn102 : plainName (zm102).1.cls = true := by decide +kernel
theorem zli_X1_95 : zlk zG ((⟨RX1, "", ""⟩ : MethodName), ⟨#[]⟩, 0, none, [], [], 0, 0, true) (0, .invokevirtual 95, 102, 3, [9], 0, 0, []) := ⟨zall1 (⟨(RX10, TX10, 1), ⟨"BookBarge$World", "canFetch", "(II)Z"⟩, rfl, zw1170, zw1054, zw1055, Or.inl ⟨rfl, by decide⟩⟩), zcal102, by decide, by decide, zpn102⟩
theorem zcal8 : zcal zm8 1 := ⟨zw1174, zw148, by decide +kernel⟩
theorem zpn8 : plainName (zm8).1.cls = true := by decide +kernel
theorem zli_X1_99 : zlk zG ((⟨RX1, "", ""⟩ : MethodName), ⟨#[]⟩, 0, none, [], [], 0, 0, true) (0, .invokevirtual 99, 8, 2, [1], 0, 0, []) := ⟨zall1 (⟨(RX1, TX1, 10), ⟨"BookBarge$Journey", "tellBook", "(I)V"⟩, rfl, zw1171, zw1173, zw26, Or.inl ⟨rfl, by decide⟩⟩), zcal8, by decide, by decide, zpn8⟩
theorem zcal45 : zcal zm45 3 := ⟨zw1187, zw162, by decide +kernel⟩
theorem zpn45 : plainName (zm45).1.cls = true := by decide +kernel
theorem zli_X1_105 : zlk zG ((⟨RX1, "", ""⟩ : MethodName), ⟨#[]⟩, 0, none, [], [], 0, 0, true) (0, .invokevirtual 105, 45, 4, [7], 0, 0, []) := ⟨zall1 (⟨(RX7, TX7, 3), ⟨"BookBarge$Rule", "firstClause", "(II[J)I"⟩, rfl, zw1184, zw1185, zw1186, Or.inl ⟨rfl, by decide⟩⟩), zcal45, by decide, by decide, zpn45⟩
theorem zli_X1_109 : zlk zG ((⟨RX1, "", ""⟩ : MethodName), ⟨#[]⟩, 0, none, [], [], 0, 0, true) (0, .invokevirtual 109, 90, 3, [9], 0, 0, []) := ⟨zall1 (⟨(RX10, TX10, 1), ⟨"BookBarge$World", "shelfOf", "(II)I"⟩, rfl, zw1203, zw1204, zw1205, Or.inl ⟨rfl, by decide⟩⟩), zcal90, by decide, by decide, zpn90⟩
theorem zcal107 : zcal zm107 3 := ⟨zw1060, zw144, by decide +kernel⟩
theorem zpn107 : plainName (zm107).1.cls = true := by decide +kernel
theorem zli_X1_112 : zlk zG ((⟨RX1, "", ""⟩ : MethodName), ⟨#[]⟩, 0, none, [], [], 0, 0, true) (0, .invokevirtual 112, 107, 4, [9], 0, 0, []) := ⟨zall1 (⟨(RX10, TX10, 1), ⟨"BookBarge$World", "takeIn", "(III)V"⟩, rfl, zw1207, zw1058, zw1059, Or.inl ⟨rfl, by decide⟩⟩), zcal107, by decide, by decide, zpn107⟩
theorem zlt_1_3 : (1 : Nat) < 3 := by decide +kernel
theorem zli_X1_116 : zlk zG ((⟨RX1, "", ""⟩ : MethodName), ⟨#[]⟩, 0, none, [], [], 0, 0, true) (0, .invokevirtual 116, 96, 2, [9], 0, 0, []) := ⟨zall1 (⟨(RX10, TX10, 1), ⟨"BookBarge$World", "bargeOf", "(I)I"⟩, rfl, zw1212, zw1017, zw1018, Or.inl ⟨rfl, by decide⟩⟩), zcal96, by decide, by decide, zpn96⟩
theorem zn_b_89 : (Int8.ofInt 89).toInt32 = 89 := by decide +kernel
theorem zlt_2_3 : (2 : Nat) < 3 := by decide +kernel
theorem zcal44 : zcal zm44 2 := ⟨zw1191, zw162, by decide +kernel⟩
theorem zpn44 : plainName (zm44).1.cls = true := by decide +kernel
theorem zli_X1_119 : zlk zG ((⟨RX1, "", ""⟩ : MethodName), ⟨#[]⟩, 0, none, [], [], 0, 0, true) (0, .invokevirtual 119, 44, 3, [7], 0, 0, []) := ⟨zall1 (⟨(RX7, TX7, 3), ⟨"BookBarge$Rule", "part", "(II)I"⟩, rfl, zw1213, zw1189, zw1190, Or.inl ⟨rfl, by decide⟩⟩), zcal44, by decide, by decide, zpn44⟩
theorem zcal108 : zcal zm108 3 := ⟨zw1065, zw144, by decide +kernel⟩
theorem zpn108 : plainName (zm108).1.cls = true := by decide +kernel
theorem zli_X1_122 : zlk zG ((⟨RX1, "", ""⟩ : MethodName), ⟨#[]⟩, 0, none, [], [], 0, 0, true) (0, .invokevirtual 122, 108, 4, [9], 0, 0, []) := ⟨zall1 (⟨(RX10, TX10, 1), ⟨"BookBarge$World", "putAboard", "(III)V"⟩, rfl, zw1214, zw1063, zw1064, Or.inl ⟨rfl, by decide⟩⟩), zcal108, by decide, by decide, zpn108⟩
theorem zlt_2_4 : (2 : Nat) < 4 := by decide +kernel
theorem zcal13 : zcal zm13 0 := ⟨zw1223, zw148, by decide +kernel⟩
theorem zpn13 : plainName (zm13).1.cls = true := by decide +kernel
theorem zli_X1_125 : zlk zG ((⟨RX1, "", ""⟩ : MethodName), ⟨#[]⟩, 0, none, [], [], 0, 0, true) (0, .invokevirtual 125, 13, 1, [1], 0, 0, []) := ⟨zall1 (⟨(RX1, TX1, 10), ⟨"BookBarge$Journey", "bookByRule", "()I"⟩, rfl, zw1220, zw1222, zw30, Or.inl ⟨rfl, by decide⟩⟩), zcal13, by decide, by decide, zpn13⟩
theorem zlt_3_4 : (3 : Nat) < 4 := by decide +kernel
theorem zcal106 : zcal zm106 3 := ⟨zw1042, zw144, by decide +kernel⟩
theorem zpn106 : plainName (zm106).1.cls = true := by decide +kernel
theorem zli_X1_128 : zlk zG ((⟨RX1, "", ""⟩ : MethodName), ⟨#[]⟩, 0, none, [], [], 0, 0, true) (0, .invokevirtual 128, 106, 4, [9], 0, 0, []) := ⟨zall1 (⟨(RX10, TX10, 1), ⟨"BookBarge$World", "giveTo", "(III)V"⟩, rfl, zw1228, zw1040, zw1041, Or.inl ⟨rfl, by decide⟩⟩), zcal106, by decide, by decide, zpn106⟩
theorem zcal105 : zcal zm105 2 := ⟨zw1029, zw144, by decide +kernel⟩
theorem zpn105 : plainName (zm105).1.cls = true := by decide +kernel
theorem zli_X1_131 : zlk zG ((⟨RX1, "", ""⟩ : MethodName), ⟨#[]⟩, 0, none, [], [], 0, 0, true) (0, .invokevirtual 131, 105, 3, [9], 0, 0, []) := ⟨zall1 (⟨(RX10, TX10, 1), ⟨"BookBarge$World", "putAshore", "(II)V"⟩, rfl, zw1229, zw1027, zw1028, Or.inl ⟨rfl, by decide⟩⟩), zcal105, by decide, by decide, zpn105⟩
theorem zlt_1_8 : (1 : Nat) < 8 := by decide +kernel
theorem zlt_3_8 : (3 : Nat) < 8 := by decide +kernel
theorem zlt_4_8 : (4 : Nat) < 8 := by decide +kernel
theorem zlt_5_8 : (5 : Nat) < 8 := by decide +kernel
theorem zcal46 : zcal zm46 2 := ⟨zw1227, zw162, by decide +kernel⟩
theorem zpn46 : plainName (zm46).1.cls = true := by decide +kernel
theorem zli_X1_135 : zlk zG ((⟨RX1, "", ""⟩ : MethodName), ⟨#[]⟩, 0, none, [], [], 0, 0, true) (0, .invokevirtual 135, 46, 3, [7], 0, 0, []) := ⟨zall1 (⟨(RX7, TX7, 3), ⟨"BookBarge$Rule", "sum", "(I[J)J"⟩, rfl, zw1224, zw1225, zw1226, Or.inl ⟨rfl, by decide⟩⟩), zcal46, by decide, by decide, zpn46⟩
theorem zlp_X1_36_n (nm : String) : ∀ c ∈ [1], zfp RX1 nm 6 0 c := zall1 (⟨RX1, TX1, 10, rfl, Or.inl rfl⟩)
theorem zcal14 : zcal zm14 0 := ⟨zw1385, zw148, by decide +kernel⟩
theorem zpn14 : plainName (zm14).1.cls = true := by decide +kernel
theorem zli_X1_146 : zlk zG ((⟨RX1, "", ""⟩ : MethodName), ⟨#[]⟩, 0, none, [], [], 0, 0, true) (0, .invokevirtual 146, 14, 1, [1], 0, 0, []) := ⟨zall1 (⟨(RX1, TX1, 10), ⟨"BookBarge$Journey", "draw", "()I"⟩, rfl, zw1382, zw1384, zw39, Or.inl ⟨rfl, by decide⟩⟩), zcal14, by decide, by decide, zpn14⟩
theorem zn_b_97 : (Int8.ofInt 97).toInt32 = 97 := by decide +kernel
theorem zn_b_83 : (Int8.ofInt 83).toInt32 = 83 := by decide +kernel
theorem zcal76 : zcal zm76 1 := ⟨zw780, zw144, by decide +kernel⟩
theorem zpn76 : plainName (zm76).1.cls = true := by decide +kernel
theorem zli_X1_149 : zlk zG ((⟨RX1, "", ""⟩ : MethodName), ⟨#[]⟩, 0, none, [], [], 0, 0, true) (0, .invokevirtual 149, 76, 2, [9], 0, 0, []) := ⟨zall1 (⟨(RX10, TX10, 1), ⟨"BookBarge$World", "copy", "(LBookBarge$World;)V"⟩, rfl, zw1380, zw778, zw779, Or.inl ⟨rfl, by decide⟩⟩), zcal76, by decide, by decide, zpn76⟩
theorem zcal109 : zcal zm109 0 := ⟨zw1090, zw144, by decide +kernel⟩
theorem zpn109 : plainName (zm109).1.cls = true := by decide +kernel
theorem zli_X1_153 : zlk zG ((⟨RX1, "", ""⟩ : MethodName), ⟨#[]⟩, 0, none, [], [], 0, 0, true) (0, .invokevirtual 153, 109, 1, [9], 0, 0, []) := ⟨zall1 (⟨(RX10, TX10, 1), ⟨"BookBarge$World", "passNight", "()V"⟩, rfl, zw1381, zw1088, zw1089, Or.inl ⟨rfl, by decide⟩⟩), zcal109, by decide, by decide, zpn109⟩
theorem zn_b_100 : (Int8.ofInt 100).toInt32 = 100 := by decide +kernel
theorem zcal112 : zcal zm112 0 := ⟨zw1115, zw144, by decide +kernel⟩
theorem zpn112 : plainName (zm112).1.cls = true := by decide +kernel
theorem zli_X1_156 : zlk zG ((⟨RX1, "", ""⟩ : MethodName), ⟨#[]⟩, 0, none, [], [], 0, 0, true) (0, .invokevirtual 156, 112, 1, [9], 0, 0, []) := ⟨zall1 (⟨(RX10, TX10, 1), ⟨"BookBarge$World", "wetAboard", "()I"⟩, rfl, zw1390, zw1113, zw1114, Or.inl ⟨rfl, by decide⟩⟩), zcal112, by decide, by decide, zpn112⟩
theorem zcal15 : zcal zm15 0 := ⟨zw1394, zw148, by decide +kernel⟩
theorem zpn15 : plainName (zm15).1.cls = true := by decide +kernel
theorem zli_X1_159 : zlk zG ((⟨RX1, "", ""⟩ : MethodName), ⟨#[]⟩, 0, none, [], [], 0, 0, true) (0, .invokevirtual 159, 15, 1, [1], 0, 0, []) := ⟨zall1 (⟨(RX1, TX1, 10), ⟨"BookBarge$Journey", "gnaw", "()V"⟩, rfl, zw1391, zw1393, zw40, Or.inl ⟨rfl, by decide⟩⟩), zcal15, by decide, by decide, zpn15⟩
theorem zcal9 : zcal zm9 0 := ⟨zw1153, zw148, by decide +kernel⟩
theorem zpn9 : plainName (zm9).1.cls = true := by decide +kernel
theorem zli_X1_162 : zlk zG ((⟨RX1, "", ""⟩ : MethodName), ⟨#[]⟩, 0, none, [], [], 0, 0, true) (0, .invokevirtual 162, 9, 1, [1], 0, 0, []) := ⟨zall1 (⟨(RX1, TX1, 10), ⟨"BookBarge$Journey", "goOneStop", "()Z"⟩, rfl, zw1395, zw1151, zw1152, Or.inl ⟨rfl, by decide⟩⟩), zcal9, by decide, by decide, zpn9⟩
theorem zn_b_86 : (Int8.ofInt 86).toInt32 = 86 := by decide +kernel
theorem zli_X2_3 : zlk zG ((⟨RX2, "", ""⟩ : MethodName), ⟨#[]⟩, 0, none, [], [], 0, 0, true) (0, .invokespecial 3, 1006, 1, [], 0, 0, []) := zw310
theorem zlf_X2_11 : ∀ c ∈ [2], zfl RX2 11 0 2 c := zall1 (⟨RX2, TX2, 9, "BookBarge$Leaving", rfl, by decide, zw311, Or.inl rfl, Or.inr ⟨_, rfl⟩⟩)
theorem zlp_X2_11_i : ∀ c ∈ [2], zfp RX2 "<init>" 0 0 c := zall1 (⟨RX2, TX2, 9, rfl, Or.inr ⟨rfl, rfl, rfl⟩⟩)
theorem zlf_X2_17 : ∀ c ∈ [2], zfl RX2 17 1 2 c := zall1 (⟨RX2, TX2, 9, "BookBarge$Leaving", rfl, by decide, zw312, Or.inl rfl, Or.inr ⟨_, rfl⟩⟩)
theorem zlp_X2_17_i : ∀ c ∈ [2], zfp RX2 "<init>" 1 0 c := zall1 (⟨RX2, TX2, 9, rfl, Or.inr ⟨rfl, rfl, rfl⟩⟩)
theorem zlf_X2_20 : ∀ c ∈ [2], zfl RX2 20 2 2 c := zall1 (⟨RX2, TX2, 9, "BookBarge$Leaving", rfl, by decide, zw313, Or.inl rfl, Or.inr ⟨_, rfl⟩⟩)
theorem zlp_X2_20_i : ∀ c ∈ [2], zfp RX2 "<init>" 2 0 c := zall1 (⟨RX2, TX2, 9, rfl, Or.inr ⟨rfl, rfl, rfl⟩⟩)
theorem zlf_X2_23 : ∀ c ∈ [2], zfl RX2 23 3 0 c := zall1 (⟨RX2, TX2, 9, "BookBarge$Leaving", rfl, by decide, zw314, Or.inl rfl, rfl⟩)
theorem zlp_X2_23_i (nm : String) : ∀ c ∈ [2], zfp RX2 nm 3 0 c := zall1 (⟨RX2, TX2, 9, rfl, Or.inl rfl⟩)
theorem zlf_X2_27 : ∀ c ∈ [2], zfl RX2 27 4 0 c := zall1 (⟨RX2, TX2, 9, "BookBarge$Leaving", rfl, by decide, zw315, Or.inl rfl, rfl⟩)
theorem zlp_X2_27_i (nm : String) : ∀ c ∈ [2], zfp RX2 nm 4 0 c := zall1 (⟨RX2, TX2, 9, rfl, Or.inl rfl⟩)
theorem zlf_X2_30 : ∀ c ∈ [2], zfl RX2 30 5 0 c := zall1 (⟨RX2, TX2, 9, "BookBarge$Leaving", rfl, by decide, zw316, Or.inl rfl, rfl⟩)
theorem zlp_X2_30_i (nm : String) : ∀ c ∈ [2], zfp RX2 nm 5 0 c := zall1 (⟨RX2, TX2, 9, rfl, Or.inl rfl⟩)
theorem zlf_X2_33 : ∀ c ∈ [2], zfl RX2 33 6 0 c := zall1 (⟨RX2, TX2, 9, "BookBarge$Leaving", rfl, by decide, zw317, Or.inl rfl, rfl⟩)
theorem zlp_X2_33_i (nm : String) : ∀ c ∈ [2], zfp RX2 nm 6 0 c := zall1 (⟨RX2, TX2, 9, rfl, Or.inl rfl⟩)
theorem zlf_X2_36 : ∀ c ∈ [2], zfl RX2 36 7 0 c := zall1 (⟨RX2, TX2, 9, "BookBarge$Leaving", rfl, by decide, zw318, Or.inl rfl, rfl⟩)
theorem zlp_X2_36_i (nm : String) : ∀ c ∈ [2], zfp RX2 nm 7 0 c := zall1 (⟨RX2, TX2, 9, rfl, Or.inl rfl⟩)
theorem zlf_X2_39 : ∀ c ∈ [2], zfl RX2 39 8 0 c := zall1 (⟨RX2, TX2, 9, "BookBarge$Leaving", rfl, by decide, zw320, Or.inl rfl, rfl⟩)
theorem zlp_X2_39_i (nm : String) : ∀ c ∈ [2], zfp RX2 nm 8 0 c := zall1 (⟨RX2, TX2, 9, rfl, Or.inl rfl⟩)
theorem zli_X2_42 : zlk zG ((⟨RX2, "", ""⟩ : MethodName), ⟨#[]⟩, 0, none, [], [], 0, 0, true) (0, .invokevirtual 42, 77, 3, [9], 0, 0, []) := ⟨zall1 (⟨(RX10, TX10, 1), ⟨"BookBarge$World", "cell", "(II)I"⟩, rfl, zw1242, zw713, zw714, Or.inl ⟨rfl, by decide⟩⟩), zcal77, by decide, by decide, zpn77⟩
theorem zlp_X2_23_n (nm : String) : ∀ c ∈ [2], zfp RX2 nm 3 0 c := zall1 (⟨RX2, TX2, 9, rfl, Or.inl rfl⟩)
theorem zlp_X2_27_n (nm : String) : ∀ c ∈ [2], zfp RX2 nm 4 0 c := zall1 (⟨RX2, TX2, 9, rfl, Or.inl rfl⟩)
theorem zlp_X2_30_n (nm : String) : ∀ c ∈ [2], zfp RX2 nm 5 0 c := zall1 (⟨RX2, TX2, 9, rfl, Or.inl rfl⟩)
theorem zlt_4_5 : (4 : Nat) < 5 := by decide +kernel
theorem zli_X2_47 : zlk zG ((⟨RX2, "", ""⟩ : MethodName), ⟨#[]⟩, 0, none, [], [], 0, 0, true) (0, .invokevirtual 47, 86, 2, [9], 0, 0, []) := ⟨zall1 (⟨(RX10, TX10, 1), ⟨"BookBarge$World", "depthOf", "(I)I"⟩, rfl, zw1244, zw944, zw945, Or.inl ⟨rfl, by decide⟩⟩), zcal86, by decide, by decide, zpn86⟩
theorem zli_X2_51 : zlk zG ((⟨RX2, "", ""⟩ : MethodName), ⟨#[]⟩, 0, none, [], [], 0, 0, true) (0, .invokestatic 51, 1001, 2, [], 0, 0, []) := Or.inr (Or.inl ⟨rfl, zw1245⟩)
theorem zli_X2_56 : zlk zG ((⟨RX2, "", ""⟩ : MethodName), ⟨#[]⟩, 0, none, [], [], 0, 0, true) (0, .invokevirtual 56, 96, 2, [9], 0, 0, []) := ⟨zall1 (⟨(RX10, TX10, 1), ⟨"BookBarge$World", "bargeOf", "(I)I"⟩, rfl, zw1246, zw1017, zw1018, Or.inl ⟨rfl, by decide⟩⟩), zcal96, by decide, by decide, zpn96⟩
theorem zli_X2_59 : zlk zG ((⟨RX2, "", ""⟩ : MethodName), ⟨#[]⟩, 0, none, [], [], 0, 0, true) (0, .invokevirtual 59, 88, 2, [9], 0, 0, []) := ⟨zall1 (⟨(RX10, TX10, 1), ⟨"BookBarge$World", "heavy", "(I)I"⟩, rfl, zw1247, zw1176, zw1177, Or.inl ⟨rfl, by decide⟩⟩), zcal88, by decide, by decide, zpn88⟩
theorem zli_X2_61 : zlk zG ((⟨RX2, "", ""⟩ : MethodName), ⟨#[]⟩, 0, none, [], [], 0, 0, true) (0, .invokevirtual 61, 89, 3, [9], 0, 0, []) := ⟨zall1 (⟨(RX10, TX10, 1), ⟨"BookBarge$World", "arm", "(II)I"⟩, rfl, zw1248, zw1249, zw1250, Or.inl ⟨rfl, by decide⟩⟩), zcal89, by decide, by decide, zpn89⟩
theorem zlp_X2_36_n (nm : String) : ∀ c ∈ [2], zfp RX2 nm 7 0 c := zall1 (⟨RX2, TX2, 9, rfl, Or.inl rfl⟩)
theorem zlp_X2_33_n (nm : String) : ∀ c ∈ [2], zfp RX2 nm 6 0 c := zall1 (⟨RX2, TX2, 9, rfl, Or.inl rfl⟩)
theorem zlp_X2_39_n (nm : String) : ∀ c ∈ [2], zfp RX2 nm 8 0 c := zall1 (⟨RX2, TX2, 9, rfl, Or.inl rfl⟩)
theorem zcal91 : zcal zm91 1 := ⟨zw972, zw144, by decide +kernel⟩
theorem zpn91 : plainName (zm91).1.cls = true := by decide +kernel
theorem zli_X2_64 : zlk zG ((⟨RX2, "", ""⟩ : MethodName), ⟨#[]⟩, 0, none, [], [], 0, 0, true) (0, .invokevirtual 64, 91, 2, [9], 0, 0, []) := ⟨zall1 (⟨(RX10, TX10, 1), ⟨"BookBarge$World", "loadOf", "(I)I"⟩, rfl, zw1252, zw970, zw971, Or.inl ⟨rfl, by decide⟩⟩), zcal91, by decide, by decide, zpn91⟩
theorem zcal92 : zcal zm92 1 := ⟨zw977, zw144, by decide +kernel⟩
theorem zpn92 : plainName (zm92).1.cls = true := by decide +kernel
theorem zli_X2_67 : zlk zG ((⟨RX2, "", ""⟩ : MethodName), ⟨#[]⟩, 0, none, [], [], 0, 0, true) (0, .invokevirtual 67, 92, 2, [9], 0, 0, []) := ⟨zall1 (⟨(RX10, TX10, 1), ⟨"BookBarge$World", "tiltOf", "(I)I"⟩, rfl, zw1253, zw975, zw976, Or.inl ⟨rfl, by decide⟩⟩), zcal92, by decide, by decide, zpn92⟩
theorem zcal19 : zcal zm19 6 := ⟨zw1257, zw149, by decide +kernel⟩
theorem zpn19 : plainName (zm19).1.cls = true := by decide +kernel
theorem zli_X2_70 : zlk zG ((⟨RX2, "", ""⟩ : MethodName), ⟨#[]⟩, 0, none, [], [], 0, 0, true) (0, .invokevirtual 70, 19, 7, [2], 0, 0, []) := ⟨zall1 (⟨(RX2, TX2, 9), ⟨"BookBarge$Leaving", "search", "(IIIIII)V"⟩, rfl, zw1254, zw1256, zw31, Or.inl ⟨rfl, by decide⟩⟩), zcal19, by decide, by decide, zpn19⟩
theorem zli_X2_74 : zlk zG ((⟨RX2, "", ""⟩ : MethodName), ⟨#[]⟩, 0, none, [], [], 0, 0, true) (0, .invokestatic 74, 93, 4, [], 0, 0, []) := ⟨zw1258, zw979, zcal93, by decide, zpn93⟩
theorem zli_X3_3 : zlk zG ((⟨RX3, "", ""⟩ : MethodName), ⟨#[]⟩, 0, none, [], [], 0, 0, true) (0, .invokespecial 3, 1006, 1, [], 0, 0, []) := zw346
theorem zn_b_72 : (Int8.ofInt 72).toInt32 = 72 := by decide +kernel
theorem zlf_X3_11 : ∀ c ∈ [3], zfl RX3 11 0 2 c := zall1 (⟨RX3, TX3, 17, "BookBarge$Lending", rfl, by decide, zw347, Or.inl rfl, Or.inr ⟨_, rfl⟩⟩)
theorem zlp_X3_11_i : ∀ c ∈ [3], zfp RX3 "<init>" 0 0 c := zall1 (⟨RX3, TX3, 17, rfl, Or.inr ⟨rfl, rfl, rfl⟩⟩)
theorem zlf_X3_17 : ∀ c ∈ [3], zfl RX3 17 1 2 c := zall1 (⟨RX3, TX3, 17, "BookBarge$Lending", rfl, by decide, zw348, Or.inl rfl, Or.inr ⟨_, rfl⟩⟩)
theorem zlp_X3_17_i : ∀ c ∈ [3], zfp RX3 "<init>" 1 0 c := zall1 (⟨RX3, TX3, 17, rfl, Or.inr ⟨rfl, rfl, rfl⟩⟩)
theorem zlf_X3_20 : ∀ c ∈ [3], zfl RX3 20 2 2 c := zall1 (⟨RX3, TX3, 17, "BookBarge$Lending", rfl, by decide, zw349, Or.inl rfl, Or.inr ⟨_, rfl⟩⟩)
theorem zlp_X3_20_i : ∀ c ∈ [3], zfp RX3 "<init>" 2 0 c := zall1 (⟨RX3, TX3, 17, rfl, Or.inr ⟨rfl, rfl, rfl⟩⟩)
theorem zlf_X3_23 : ∀ c ∈ [3], zfl RX3 23 3 2 c := zall1 (⟨RX3, TX3, 17, "BookBarge$Lending", rfl, by decide, zw350, Or.inl rfl, Or.inr ⟨_, rfl⟩⟩)
theorem zlp_X3_23_i : ∀ c ∈ [3], zfp RX3 "<init>" 3 0 c := zall1 (⟨RX3, TX3, 17, rfl, Or.inr ⟨rfl, rfl, rfl⟩⟩)
theorem zlf_X3_26 : ∀ c ∈ [3], zfl RX3 26 4 2 c := zall1 (⟨RX3, TX3, 17, "BookBarge$Lending", rfl, by decide, zw351, Or.inl rfl, Or.inr ⟨_, rfl⟩⟩)
theorem zlp_X3_26_i : ∀ c ∈ [3], zfp RX3 "<init>" 4 0 c := zall1 (⟨RX3, TX3, 17, rfl, Or.inr ⟨rfl, rfl, rfl⟩⟩)
theorem zlf_X3_29 : ∀ c ∈ [3], zfl RX3 29 5 2 c := zall1 (⟨RX3, TX3, 17, "BookBarge$Lending", rfl, by decide, zw352, Or.inl rfl, Or.inr ⟨_, rfl⟩⟩)
theorem zlp_X3_29_i : ∀ c ∈ [3], zfp RX3 "<init>" 5 0 c := zall1 (⟨RX3, TX3, 17, rfl, Or.inr ⟨rfl, rfl, rfl⟩⟩)
theorem zlf_X3_32 : ∀ c ∈ [3], zfl RX3 32 6 2 c := zall1 (⟨RX3, TX3, 17, "BookBarge$Lending", rfl, by decide, zw353, Or.inl rfl, Or.inr ⟨_, rfl⟩⟩)
theorem zlp_X3_32_i : ∀ c ∈ [3], zfp RX3 "<init>" 6 0 c := zall1 (⟨RX3, TX3, 17, rfl, Or.inr ⟨rfl, rfl, rfl⟩⟩)
theorem zlf_X3_35 : ∀ c ∈ [3], zfl RX3 35 7 2 c := zall1 (⟨RX3, TX3, 17, "BookBarge$Lending", rfl, by decide, zw354, Or.inl rfl, Or.inr ⟨_, rfl⟩⟩)
theorem zlp_X3_35_i : ∀ c ∈ [3], zfp RX3 "<init>" 7 0 c := zall1 (⟨RX3, TX3, 17, rfl, Or.inr ⟨rfl, rfl, rfl⟩⟩)
theorem zlf_X3_38 : ∀ c ∈ [3], zfl RX3 38 8 2 c := zall1 (⟨RX3, TX3, 17, "BookBarge$Lending", rfl, by decide, zw355, Or.inl rfl, Or.inr ⟨_, rfl⟩⟩)
theorem zlp_X3_38_i : ∀ c ∈ [3], zfp RX3 "<init>" 8 0 c := zall1 (⟨RX3, TX3, 17, rfl, Or.inr ⟨rfl, rfl, rfl⟩⟩)
theorem zlf_X3_41 : ∀ c ∈ [3], zfl RX3 41 9 2 c := zall1 (⟨RX3, TX3, 17, "BookBarge$Lending", rfl, by decide, zw356, Or.inl rfl, Or.inr ⟨_, rfl⟩⟩)
theorem zlp_X3_41_i : ∀ c ∈ [3], zfp RX3 "<init>" 9 0 c := zall1 (⟨RX3, TX3, 17, rfl, Or.inr ⟨rfl, rfl, rfl⟩⟩)
theorem zlf_X3_44 : ∀ c ∈ [3], zfl RX3 44 10 0 c := zall1 (⟨RX3, TX3, 17, "BookBarge$Lending", rfl, by decide, zw358, Or.inl rfl, rfl⟩)
theorem zlp_X3_44_i (nm : String) : ∀ c ∈ [3], zfp RX3 nm 10 0 c := zall1 (⟨RX3, TX3, 17, rfl, Or.inl rfl⟩)
theorem zlf_X3_48 : ∀ c ∈ [3], zfl RX3 48 11 0 c := zall1 (⟨RX3, TX3, 17, "BookBarge$Lending", rfl, by decide, zw359, Or.inl rfl, rfl⟩)
theorem zlp_X3_48_i (nm : String) : ∀ c ∈ [3], zfp RX3 nm 11 0 c := zall1 (⟨RX3, TX3, 17, rfl, Or.inl rfl⟩)
theorem zlf_X3_51 : ∀ c ∈ [3], zfl RX3 51 12 0 c := zall1 (⟨RX3, TX3, 17, "BookBarge$Lending", rfl, by decide, zw360, Or.inl rfl, rfl⟩)
theorem zlp_X3_51_i (nm : String) : ∀ c ∈ [3], zfp RX3 nm 12 0 c := zall1 (⟨RX3, TX3, 17, rfl, Or.inl rfl⟩)
theorem zlf_X3_54 : ∀ c ∈ [3], zfl RX3 54 13 0 c := zall1 (⟨RX3, TX3, 17, "BookBarge$Lending", rfl, by decide, zw361, Or.inl rfl, rfl⟩)
theorem zlp_X3_54_i (nm : String) : ∀ c ∈ [3], zfp RX3 nm 13 0 c := zall1 (⟨RX3, TX3, 17, rfl, Or.inl rfl⟩)
theorem zlf_X3_57 : ∀ c ∈ [3], zfl RX3 57 14 0 c := zall1 (⟨RX3, TX3, 17, "BookBarge$Lending", rfl, by decide, zw362, Or.inl rfl, rfl⟩)
theorem zlp_X3_57_i (nm : String) : ∀ c ∈ [3], zfp RX3 nm 14 0 c := zall1 (⟨RX3, TX3, 17, rfl, Or.inl rfl⟩)
theorem zlf_X3_60 : ∀ c ∈ [3], zfl RX3 60 15 0 c := zall1 (⟨RX3, TX3, 17, "BookBarge$Lending", rfl, by decide, zw363, Or.inl rfl, rfl⟩)
theorem zlp_X3_60_i (nm : String) : ∀ c ∈ [3], zfp RX3 nm 15 0 c := zall1 (⟨RX3, TX3, 17, rfl, Or.inl rfl⟩)
theorem zlf_X3_63 : ∀ c ∈ [3], zfl RX3 63 16 0 c := zall1 (⟨RX3, TX3, 17, "BookBarge$Lending", rfl, by decide, zw364, Or.inl rfl, rfl⟩)
theorem zlp_X3_63_i (nm : String) : ∀ c ∈ [3], zfp RX3 nm 16 0 c := zall1 (⟨RX3, TX3, 17, rfl, Or.inl rfl⟩)
theorem zli_X3_66 : zlk zG ((⟨RX3, "", ""⟩ : MethodName), ⟨#[]⟩, 0, none, [], [], 0, 0, true) (0, .invokevirtual 66, 77, 3, [9], 0, 0, []) := ⟨zall1 (⟨(RX10, TX10, 1), ⟨"BookBarge$World", "cell", "(II)I"⟩, rfl, zw1267, zw713, zw714, Or.inl ⟨rfl, by decide⟩⟩), zcal77, by decide, by decide, zpn77⟩
theorem zlp_X3_48_n (nm : String) : ∀ c ∈ [3], zfp RX3 nm 11 0 c := zall1 (⟨RX3, TX3, 17, rfl, Or.inl rfl⟩)
theorem zlp_X3_51_n (nm : String) : ∀ c ∈ [3], zfp RX3 nm 12 0 c := zall1 (⟨RX3, TX3, 17, rfl, Or.inl rfl⟩)
theorem zli_X3_70 : zlk zG ((⟨RX3, "", ""⟩ : MethodName), ⟨#[]⟩, 0, none, [], [], 0, 0, true) (0, .invokevirtual 70, 91, 2, [9], 0, 0, []) := ⟨zall1 (⟨(RX10, TX10, 1), ⟨"BookBarge$World", "loadOf", "(I)I"⟩, rfl, zw1268, zw970, zw971, Or.inl ⟨rfl, by decide⟩⟩), zcal91, by decide, by decide, zpn91⟩
theorem zlp_X3_54_n (nm : String) : ∀ c ∈ [3], zfp RX3 nm 13 0 c := zall1 (⟨RX3, TX3, 17, rfl, Or.inl rfl⟩)
theorem zli_X3_74 : zlk zG ((⟨RX3, "", ""⟩ : MethodName), ⟨#[]⟩, 0, none, [], [], 0, 0, true) (0, .invokevirtual 74, 92, 2, [9], 0, 0, []) := ⟨zall1 (⟨(RX10, TX10, 1), ⟨"BookBarge$World", "tiltOf", "(I)I"⟩, rfl, zw1269, zw975, zw976, Or.inl ⟨rfl, by decide⟩⟩), zcal92, by decide, by decide, zpn92⟩
theorem zlp_X3_57_n (nm : String) : ∀ c ∈ [3], zfp RX3 nm 14 0 c := zall1 (⟨RX3, TX3, 17, rfl, Or.inl rfl⟩)
theorem zlp_X3_60_n (nm : String) : ∀ c ∈ [3], zfp RX3 nm 15 0 c := zall1 (⟨RX3, TX3, 17, rfl, Or.inl rfl⟩)
theorem zlp_X3_63_n (nm : String) : ∀ c ∈ [3], zfp RX3 nm 16 0 c := zall1 (⟨RX3, TX3, 17, rfl, Or.inl rfl⟩)
theorem zli_X3_77 : zlk zG ((⟨RX3, "", ""⟩ : MethodName), ⟨#[]⟩, 0, none, [], [], 0, 0, true) (0, .invokevirtual 77, 86, 2, [9], 0, 0, []) := ⟨zall1 (⟨(RX10, TX10, 1), ⟨"BookBarge$World", "depthOf", "(I)I"⟩, rfl, zw1270, zw944, zw945, Or.inl ⟨rfl, by decide⟩⟩), zcal86, by decide, by decide, zpn86⟩
theorem zli_X3_80 : zlk zG ((⟨RX3, "", ""⟩ : MethodName), ⟨#[]⟩, 0, none, [], [], 0, 0, true) (0, .invokevirtual 80, 96, 2, [9], 0, 0, []) := ⟨zall1 (⟨(RX10, TX10, 1), ⟨"BookBarge$World", "bargeOf", "(I)I"⟩, rfl, zw1271, zw1017, zw1018, Or.inl ⟨rfl, by decide⟩⟩), zcal96, by decide, by decide, zpn96⟩
theorem zli_X3_83 : zlk zG ((⟨RX3, "", ""⟩ : MethodName), ⟨#[]⟩, 0, none, [], [], 0, 0, true) (0, .invokevirtual 83, 88, 2, [9], 0, 0, []) := ⟨zall1 (⟨(RX10, TX10, 1), ⟨"BookBarge$World", "heavy", "(I)I"⟩, rfl, zw1272, zw1176, zw1177, Or.inl ⟨rfl, by decide⟩⟩), zcal88, by decide, by decide, zpn88⟩
theorem zli_X3_85 : zlk zG ((⟨RX3, "", ""⟩ : MethodName), ⟨#[]⟩, 0, none, [], [], 0, 0, true) (0, .invokevirtual 85, 89, 3, [9], 0, 0, []) := ⟨zall1 (⟨(RX10, TX10, 1), ⟨"BookBarge$World", "arm", "(II)I"⟩, rfl, zw1273, zw1249, zw1250, Or.inl ⟨rfl, by decide⟩⟩), zcal89, by decide, by decide, zpn89⟩
theorem zcal22 : zcal zm22 3 := ⟨zw1277, zw150, by decide +kernel⟩
theorem zpn22 : plainName (zm22).1.cls = true := by decide +kernel
theorem zli_X3_88 : zlk zG ((⟨RX3, "", ""⟩ : MethodName), ⟨#[]⟩, 0, none, [], [], 0, 0, true) (0, .invokevirtual 88, 22, 4, [3], 0, 0, []) := ⟨zall1 (⟨(RX3, TX3, 17), ⟨"BookBarge$Lending", "noteGains", "(LBookBarge$World;IZ)I"⟩, rfl, zw1274, zw1276, zw32, Or.inl ⟨rfl, by decide⟩⟩), zcal22, by decide, by decide, zpn22⟩
theorem zlp_X3_44_n (nm : String) : ∀ c ∈ [3], zfp RX3 nm 10 0 c := zall1 (⟨RX3, TX3, 17, rfl, Or.inl rfl⟩)
theorem zcal23 : zcal zm23 3 := ⟨zw1284, zw150, by decide +kernel⟩
theorem zpn23 : plainName (zm23).1.cls = true := by decide +kernel
theorem zli_X3_92 : zlk zG ((⟨RX3, "", ""⟩ : MethodName), ⟨#[]⟩, 0, none, [], [], 0, 0, true) (0, .invokevirtual 92, 23, 4, [3], 0, 0, []) := ⟨zall1 (⟨(RX3, TX3, 17), ⟨"BookBarge$Lending", "search", "(III)V"⟩, rfl, zw1281, zw1283, zw33, Or.inl ⟨rfl, by decide⟩⟩), zcal23, by decide, by decide, zpn23⟩
theorem zn_s_153 : (Int16.ofInt 153).toInt32 = 153 := by decide +kernel
theorem zlt_4_9 : (4 : Nat) < 9 := by decide +kernel
theorem zcal81 : zcal zm81 1 := ⟨zw995, zw144, by decide +kernel⟩
theorem zpn81 : plainName (zm81).1.cls = true := by decide +kernel
theorem zli_X3_96 : zlk zG ((⟨RX3, "", ""⟩ : MethodName), ⟨#[]⟩, 0, none, [], [], 0, 0, true) (0, .invokevirtual 96, 81, 2, [9], 0, 0, []) := ⟨zall1 (⟨(RX10, TX10, 1), ⟨"BookBarge$World", "hasReader", "(I)Z"⟩, rfl, zw1278, zw993, zw994, Or.inl ⟨rfl, by decide⟩⟩), zcal81, by decide, by decide, zpn81⟩
theorem zlt_5_9 : (5 : Nat) < 9 := by decide +kernel
theorem zlt_6_9 : (6 : Nat) < 9 := by decide +kernel
theorem zlt_7_9 : (7 : Nat) < 9 := by decide +kernel
theorem zli_X3_100 : zlk zG ((⟨RX3, "", ""⟩ : MethodName), ⟨#[]⟩, 0, none, [], [], 0, 0, true) (0, .invokevirtual 100, 87, 3, [9], 0, 0, []) := ⟨zall1 (⟨(RX10, TX10, 1), ⟨"BookBarge$World", "coins", "(II)I"⟩, rfl, zw1279, zw1001, zw1002, Or.inl ⟨rfl, by decide⟩⟩), zcal87, by decide, by decide, zpn87⟩
theorem zlt_8_9 : (8 : Nat) < 9 := by decide +kernel
theorem zli_X3_103 : zlk zG ((⟨RX3, "", ""⟩ : MethodName), ⟨#[]⟩, 0, none, [], [], 0, 0, true) (0, .invokestatic 103, 1000, 2, [], 0, 0, []) := Or.inl ⟨rfl, zw1280⟩
theorem zcal24 : zcal zm24 0 := ⟨zw1288, zw150, by decide +kernel⟩
theorem zpn24 : plainName (zm24).1.cls = true := by decide +kernel
theorem zli_X3_108 : zlk zG ((⟨RX3, "", ""⟩ : MethodName), ⟨#[]⟩, 0, none, [], [], 0, 0, true) (0, .invokevirtual 108, 24, 1, [3], 0, 0, []) := ⟨zall1 (⟨(RX3, TX3, 17), ⟨"BookBarge$Lending", "passesAll", "()Z"⟩, rfl, zw1285, zw1287, zw34, Or.inl ⟨rfl, by decide⟩⟩), zcal24, by decide, by decide, zpn24⟩
theorem zli_X3_112 : zlk zG ((⟨RX3, "", ""⟩ : MethodName), ⟨#[]⟩, 0, none, [], [], 0, 0, true) (0, .invokestatic 112, 1003, 5, [], 0, 0, []) := Or.inr (Or.inr (Or.inr ⟨rfl, zw1290⟩))
theorem zlt_1_4 : (1 : Nat) < 4 := by decide +kernel
theorem zli_X3_118 : zlk zG ((⟨RX3, "", ""⟩ : MethodName), ⟨#[]⟩, 0, none, [], [], 0, 0, true) (0, .invokestatic 118, 93, 4, [], 0, 0, []) := ⟨zw1289, zw979, zcal93, by decide, zpn93⟩
theorem zli_X4_3 : zlk zG ((⟨RX4, "", ""⟩ : MethodName), ⟨#[]⟩, 0, none, [], [], 0, 0, true) (0, .invokespecial 3, 1006, 1, [], 0, 0, []) := zw405
theorem zlf_X4_11 : ∀ c ∈ [4], zfl RX4 11 0 2 c := zall1 (⟨RX4, TX4, 11, "BookBarge$Meeting", rfl, by decide, zw406, Or.inl rfl, Or.inr ⟨_, rfl⟩⟩)
theorem zlp_X4_11_i : ∀ c ∈ [4], zfp RX4 "<init>" 0 0 c := zall1 (⟨RX4, TX4, 11, rfl, Or.inr ⟨rfl, rfl, rfl⟩⟩)
theorem zlf_X4_17 : ∀ c ∈ [4], zfl RX4 17 1 2 c := zall1 (⟨RX4, TX4, 11, "BookBarge$Meeting", rfl, by decide, zw407, Or.inl rfl, Or.inr ⟨_, rfl⟩⟩)
theorem zlp_X4_17_i : ∀ c ∈ [4], zfp RX4 "<init>" 1 0 c := zall1 (⟨RX4, TX4, 11, rfl, Or.inr ⟨rfl, rfl, rfl⟩⟩)
theorem zlf_X4_20 : ∀ c ∈ [4], zfl RX4 20 2 2 c := zall1 (⟨RX4, TX4, 11, "BookBarge$Meeting", rfl, by decide, zw408, Or.inl rfl, Or.inr ⟨_, rfl⟩⟩)
theorem zlp_X4_20_i : ∀ c ∈ [4], zfp RX4 "<init>" 2 0 c := zall1 (⟨RX4, TX4, 11, rfl, Or.inr ⟨rfl, rfl, rfl⟩⟩)
theorem zlf_X4_23 : ∀ c ∈ [4], zfl RX4 23 3 0 c := zall1 (⟨RX4, TX4, 11, "BookBarge$Meeting", rfl, by decide, zw409, Or.inl rfl, rfl⟩)
theorem zlp_X4_23_i (nm : String) : ∀ c ∈ [4], zfp RX4 nm 3 0 c := zall1 (⟨RX4, TX4, 11, rfl, Or.inl rfl⟩)
theorem zlf_X4_27 : ∀ c ∈ [4], zfl RX4 27 4 0 c := zall1 (⟨RX4, TX4, 11, "BookBarge$Meeting", rfl, by decide, zw410, Or.inl rfl, rfl⟩)
theorem zlp_X4_27_i (nm : String) : ∀ c ∈ [4], zfp RX4 nm 4 0 c := zall1 (⟨RX4, TX4, 11, rfl, Or.inl rfl⟩)
theorem zlf_X4_30 : ∀ c ∈ [4], zfl RX4 30 5 0 c := zall1 (⟨RX4, TX4, 11, "BookBarge$Meeting", rfl, by decide, zw411, Or.inl rfl, rfl⟩)
theorem zlp_X4_30_i (nm : String) : ∀ c ∈ [4], zfp RX4 nm 5 0 c := zall1 (⟨RX4, TX4, 11, rfl, Or.inl rfl⟩)
theorem zlf_X4_33 : ∀ c ∈ [4], zfl RX4 33 6 0 c := zall1 (⟨RX4, TX4, 11, "BookBarge$Meeting", rfl, by decide, zw412, Or.inl rfl, rfl⟩)
theorem zlp_X4_33_i (nm : String) : ∀ c ∈ [4], zfp RX4 nm 6 0 c := zall1 (⟨RX4, TX4, 11, rfl, Or.inl rfl⟩)
theorem zlf_X4_36 : ∀ c ∈ [4], zfl RX4 36 7 0 c := zall1 (⟨RX4, TX4, 11, "BookBarge$Meeting", rfl, by decide, zw413, Or.inl rfl, rfl⟩)
theorem zlp_X4_36_i (nm : String) : ∀ c ∈ [4], zfp RX4 nm 7 0 c := zall1 (⟨RX4, TX4, 11, rfl, Or.inl rfl⟩)
theorem zlf_X4_39 : ∀ c ∈ [4], zfl RX4 39 8 0 c := zall1 (⟨RX4, TX4, 11, "BookBarge$Meeting", rfl, by decide, zw414, Or.inl rfl, rfl⟩)
theorem zlp_X4_39_i (nm : String) : ∀ c ∈ [4], zfp RX4 nm 8 0 c := zall1 (⟨RX4, TX4, 11, rfl, Or.inl rfl⟩)
theorem zlf_X4_42 : ∀ c ∈ [4], zfl RX4 42 9 0 c := zall1 (⟨RX4, TX4, 11, "BookBarge$Meeting", rfl, by decide, zw415, Or.inl rfl, rfl⟩)
theorem zlp_X4_42_i (nm : String) : ∀ c ∈ [4], zfp RX4 nm 9 0 c := zall1 (⟨RX4, TX4, 11, rfl, Or.inl rfl⟩)
theorem zlf_X4_45 : ∀ c ∈ [4], zfl RX4 45 10 0 c := zall1 (⟨RX4, TX4, 11, "BookBarge$Meeting", rfl, by decide, zw416, Or.inl rfl, rfl⟩)
theorem zlp_X4_45_i (nm : String) : ∀ c ∈ [4], zfp RX4 nm 10 0 c := zall1 (⟨RX4, TX4, 11, rfl, Or.inl rfl⟩)
theorem zli_X4_48 : zlk zG ((⟨RX4, "", ""⟩ : MethodName), ⟨#[]⟩, 0, none, [], [], 0, 0, true) (0, .invokevirtual 48, 77, 3, [9], 0, 0, []) := ⟨zall1 (⟨(RX10, TX10, 1), ⟨"BookBarge$World", "cell", "(II)I"⟩, rfl, zw1313, zw713, zw714, Or.inl ⟨rfl, by decide⟩⟩), zcal77, by decide, by decide, zpn77⟩
theorem zlt_2_6 : (2 : Nat) < 6 := by decide +kernel
theorem zli_X4_52 : zlk zG ((⟨RX4, "", ""⟩ : MethodName), ⟨#[]⟩, 0, none, [], [], 0, 0, true) (0, .invokevirtual 52, 80, 2, [9], 0, 0, []) := ⟨zall1 (⟨(RX10, TX10, 1), ⟨"BookBarge$World", "hasStop", "(I)Z"⟩, rfl, zw1314, zw940, zw941, Or.inl ⟨rfl, by decide⟩⟩), zcal80, by decide, by decide, zpn80⟩
theorem zli_X4_56 : zlk zG ((⟨RX4, "", ""⟩ : MethodName), ⟨#[]⟩, 0, none, [], [], 0, 0, true) (0, .invokevirtual 56, 86, 2, [9], 0, 0, []) := ⟨zall1 (⟨(RX10, TX10, 1), ⟨"BookBarge$World", "depthOf", "(I)I"⟩, rfl, zw1315, zw944, zw945, Or.inl ⟨rfl, by decide⟩⟩), zcal86, by decide, by decide, zpn86⟩
theorem zlp_X4_30_n (nm : String) : ∀ c ∈ [4], zfp RX4 nm 5 0 c := zall1 (⟨RX4, TX4, 11, rfl, Or.inl rfl⟩)
theorem zlp_X4_39_n (nm : String) : ∀ c ∈ [4], zfp RX4 nm 8 0 c := zall1 (⟨RX4, TX4, 11, rfl, Or.inl rfl⟩)
theorem zlp_X4_23_n (nm : String) : ∀ c ∈ [4], zfp RX4 nm 3 0 c := zall1 (⟨RX4, TX4, 11, rfl, Or.inl rfl⟩)
theorem zlp_X4_33_n (nm : String) : ∀ c ∈ [4], zfp RX4 nm 6 0 c := zall1 (⟨RX4, TX4, 11, rfl, Or.inl rfl⟩)
theorem zlp_X4_27_n (nm : String) : ∀ c ∈ [4], zfp RX4 nm 4 0 c := zall1 (⟨RX4, TX4, 11, rfl, Or.inl rfl⟩)
theorem zlp_X4_36_n (nm : String) : ∀ c ∈ [4], zfp RX4 nm 7 0 c := zall1 (⟨RX4, TX4, 11, rfl, Or.inl rfl⟩)
theorem zlt_3_6 : (3 : Nat) < 6 := by decide +kernel
theorem zli_X4_61 : zlk zG ((⟨RX4, "", ""⟩ : MethodName), ⟨#[]⟩, 0, none, [], [], 0, 0, true) (0, .invokevirtual 61, 96, 2, [9], 0, 0, []) := ⟨zall1 (⟨(RX10, TX10, 1), ⟨"BookBarge$World", "bargeOf", "(I)I"⟩, rfl, zw1317, zw1017, zw1018, Or.inl ⟨rfl, by decide⟩⟩), zcal96, by decide, by decide, zpn96⟩
theorem zlt_4_6 : (4 : Nat) < 6 := by decide +kernel
theorem zlt_5_6 : (5 : Nat) < 6 := by decide +kernel
theorem zli_X4_64 : zlk zG ((⟨RX4, "", ""⟩ : MethodName), ⟨#[]⟩, 0, none, [], [], 0, 0, true) (0, .invokevirtual 64, 88, 2, [9], 0, 0, []) := ⟨zall1 (⟨(RX10, TX10, 1), ⟨"BookBarge$World", "heavy", "(I)I"⟩, rfl, zw1318, zw1176, zw1177, Or.inl ⟨rfl, by decide⟩⟩), zcal88, by decide, by decide, zpn88⟩
theorem zli_X4_66 : zlk zG ((⟨RX4, "", ""⟩ : MethodName), ⟨#[]⟩, 0, none, [], [], 0, 0, true) (0, .invokevirtual 66, 90, 3, [9], 0, 0, []) := ⟨zall1 (⟨(RX10, TX10, 1), ⟨"BookBarge$World", "shelfOf", "(II)I"⟩, rfl, zw1319, zw1204, zw1205, Or.inl ⟨rfl, by decide⟩⟩), zcal90, by decide, by decide, zpn90⟩
theorem zli_X4_69 : zlk zG ((⟨RX4, "", ""⟩ : MethodName), ⟨#[]⟩, 0, none, [], [], 0, 0, true) (0, .invokevirtual 69, 89, 3, [9], 0, 0, []) := ⟨zall1 (⟨(RX10, TX10, 1), ⟨"BookBarge$World", "arm", "(II)I"⟩, rfl, zw1320, zw1249, zw1250, Or.inl ⟨rfl, by decide⟩⟩), zcal89, by decide, by decide, zpn89⟩
theorem zn_b_13 : (Int8.ofInt 13).toInt32 = 13 := by decide +kernel
theorem zlp_X4_42_n (nm : String) : ∀ c ∈ [4], zfp RX4 nm 9 0 c := zall1 (⟨RX4, TX4, 11, rfl, Or.inl rfl⟩)
theorem zlp_X4_45_n (nm : String) : ∀ c ∈ [4], zfp RX4 nm 10 0 c := zall1 (⟨RX4, TX4, 11, rfl, Or.inl rfl⟩)
theorem zli_X4_72 : zlk zG ((⟨RX4, "", ""⟩ : MethodName), ⟨#[]⟩, 0, none, [], [], 0, 0, true) (0, .invokevirtual 72, 91, 2, [9], 0, 0, []) := ⟨zall1 (⟨(RX10, TX10, 1), ⟨"BookBarge$World", "loadOf", "(I)I"⟩, rfl, zw1321, zw970, zw971, Or.inl ⟨rfl, by decide⟩⟩), zcal91, by decide, by decide, zpn91⟩
theorem zli_X4_75 : zlk zG ((⟨RX4, "", ""⟩ : MethodName), ⟨#[]⟩, 0, none, [], [], 0, 0, true) (0, .invokevirtual 75, 92, 2, [9], 0, 0, []) := ⟨zall1 (⟨(RX10, TX10, 1), ⟨"BookBarge$World", "tiltOf", "(I)I"⟩, rfl, zw1322, zw975, zw976, Or.inl ⟨rfl, by decide⟩⟩), zcal92, by decide, by decide, zpn92⟩
theorem zcal27 : zcal zm27 7 := ⟨zw1326, zw151, by decide +kernel⟩
theorem zpn27 : plainName (zm27).1.cls = true := by decide +kernel
theorem zli_X4_78 : zlk zG ((⟨RX4, "", ""⟩ : MethodName), ⟨#[]⟩, 0, none, [], [], 0, 0, true) (0, .invokevirtual 78, 27, 8, [4], 0, 0, []) := ⟨zall1 (⟨(RX4, TX4, 11), ⟨"BookBarge$Meeting", "search", "(IIIIIII)V"⟩, rfl, zw1323, zw1325, zw35, Or.inl ⟨rfl, by decide⟩⟩), zcal27, by decide, by decide, zpn27⟩
theorem zli_X4_82 : zlk zG ((⟨RX4, "", ""⟩ : MethodName), ⟨#[]⟩, 0, none, [], [], 0, 0, true) (0, .invokestatic 82, 93, 4, [], 0, 0, []) := ⟨zw1327, zw979, zcal93, by decide, zpn93⟩
theorem zli_X5_3 : zlk zG ((⟨RX5, "", ""⟩ : MethodName), ⟨#[]⟩, 0, none, [], [], 0, 0, true) (0, .invokespecial 3, 1006, 1, [], 0, 0, []) := zw489
theorem zlf_X5_11 : ∀ c ∈ [5], zfl RX5 11 0 2 c := zall1 (⟨RX5, TX5, 6, "BookBarge$Plugging", rfl, by decide, zw490, Or.inl rfl, Or.inr ⟨_, rfl⟩⟩)
theorem zlp_X5_11_i : ∀ c ∈ [5], zfp RX5 "<init>" 0 0 c := zall1 (⟨RX5, TX5, 6, rfl, Or.inr ⟨rfl, rfl, rfl⟩⟩)
theorem zlf_X5_17 : ∀ c ∈ [5], zfl RX5 17 1 2 c := zall1 (⟨RX5, TX5, 6, "BookBarge$Plugging", rfl, by decide, zw491, Or.inl rfl, Or.inr ⟨_, rfl⟩⟩)
theorem zlp_X5_17_i : ∀ c ∈ [5], zfp RX5 "<init>" 1 0 c := zall1 (⟨RX5, TX5, 6, rfl, Or.inr ⟨rfl, rfl, rfl⟩⟩)
theorem zlf_X5_21 : ∀ c ∈ [5], zfl RX5 21 2 2 c := zall1 (⟨RX5, TX5, 6, "BookBarge$Plugging", rfl, by decide, zw492, Or.inl rfl, Or.inr ⟨_, rfl⟩⟩)
theorem zlp_X5_21_i : ∀ c ∈ [5], zfp RX5 "<init>" 2 0 c := zall1 (⟨RX5, TX5, 6, rfl, Or.inr ⟨rfl, rfl, rfl⟩⟩)
theorem zlf_X5_24 : ∀ c ∈ [5], zfl RX5 24 3 2 c := zall1 (⟨RX5, TX5, 6, "BookBarge$Plugging", rfl, by decide, zw493, Or.inl rfl, Or.inr ⟨_, rfl⟩⟩)
theorem zlp_X5_24_i : ∀ c ∈ [5], zfp RX5 "<init>" 3 0 c := zall1 (⟨RX5, TX5, 6, rfl, Or.inr ⟨rfl, rfl, rfl⟩⟩)
theorem zlf_X5_27 : ∀ c ∈ [5], zfl RX5 27 4 2 c := zall1 (⟨RX5, TX5, 6, "BookBarge$Plugging", rfl, by decide, zw494, Or.inl rfl, Or.inr ⟨_, rfl⟩⟩)
theorem zlp_X5_27_i : ∀ c ∈ [5], zfp RX5 "<init>" 4 0 c := zall1 (⟨RX5, TX5, 6, rfl, Or.inr ⟨rfl, rfl, rfl⟩⟩)
theorem zlf_X5_30 : ∀ c ∈ [5], zfl RX5 30 5 0 c := zall1 (⟨RX5, TX5, 6, "BookBarge$Plugging", rfl, by decide, zw496, Or.inl rfl, rfl⟩)
theorem zlp_X5_30_i (nm : String) : ∀ c ∈ [5], zfp RX5 nm 5 0 c := zall1 (⟨RX5, TX5, 6, rfl, Or.inl rfl⟩)
theorem zlt_3_5 : (3 : Nat) < 5 := by decide +kernel
theorem zcal103 : zcal zm103 1 := ⟨zw1094, zw144, by decide +kernel⟩
theorem zpn103 : plainName (zm103).1.cls = true := by decide +kernel
theorem zli_X5_34 : zlk zG ((⟨RX5, "", ""⟩ : MethodName), ⟨#[]⟩, 0, none, [], [], 0, 0, true) (0, .invokevirtual 34, 103, 2, [9], 0, 0, []) := ⟨zall1 (⟨(RX10, TX10, 1), ⟨"BookBarge$World", "isOpen", "(I)Z"⟩, rfl, zw1359, zw1092, zw1093, Or.inl ⟨rfl, by decide⟩⟩), zcal103, by decide, by decide, zpn103⟩
theorem zn_s_243 : (Int16.ofInt 243).toInt32 = 243 := by decide +kernel
theorem zli_X5_38 : zlk zG ((⟨RX5, "", ""⟩ : MethodName), ⟨#[]⟩, 0, none, [], [], 0, 0, true) (0, .invokevirtual 38, 77, 3, [9], 0, 0, []) := ⟨zall1 (⟨(RX10, TX10, 1), ⟨"BookBarge$World", "cell", "(II)I"⟩, rfl, zw1360, zw713, zw714, Or.inl ⟨rfl, by decide⟩⟩), zcal77, by decide, by decide, zpn77⟩
theorem zcal104 : zcal zm104 2 := ⟨zw1128, zw144, by decide +kernel⟩
theorem zpn104 : plainName (zm104).1.cls = true := by decide +kernel
theorem zli_X5_42 : zlk zG ((⟨RX5, "", ""⟩ : MethodName), ⟨#[]⟩, 0, none, [], [], 0, 0, true) (0, .invokevirtual 42, 104, 3, [9], 0, 0, []) := ⟨zall1 (⟨(RX10, TX10, 1), ⟨"BookBarge$World", "fits", "(II)Z"⟩, rfl, zw1361, zw1126, zw1127, Or.inl ⟨rfl, by decide⟩⟩), zcal104, by decide, by decide, zpn104⟩
theorem zlp_X5_30_n (nm : String) : ∀ c ∈ [5], zfp RX5 nm 5 0 c := zall1 (⟨RX5, TX5, 6, rfl, Or.inl rfl⟩)
theorem zcal30 : zcal zm30 3 := ⟨zw1366, zw153, by decide +kernel⟩
theorem zpn30 : plainName (zm30).1.cls = true := by decide +kernel
theorem zli_X5_47 : zlk zG ((⟨RX5, "", ""⟩ : MethodName), ⟨#[]⟩, 0, none, [], [], 0, 0, true) (0, .invokevirtual 47, 30, 4, [5], 0, 0, []) := ⟨zall1 (⟨(RX5, TX5, 6), ⟨"BookBarge$Plugging", "search", "(III)V"⟩, rfl, zw1363, zw1365, zw38, Or.inl ⟨rfl, by decide⟩⟩), zcal30, by decide, by decide, zpn30⟩
theorem zli_X5_51 : zlk zG ((⟨RX5, "", ""⟩ : MethodName), ⟨#[]⟩, 0, none, [], [], 0, 0, true) (0, .invokestatic 51, 1003, 5, [], 0, 0, []) := Or.inr (Or.inr (Or.inr ⟨rfl, zw1367⟩))
theorem zcal60 : zcal zm60 0 := ⟨zw195, zw145, by decide +kernel⟩
theorem zpn60 : plainName (zm60).1.cls = true := by decide +kernel
theorem zli_X6_3 : zlk zG ((⟨RX6, "", ""⟩ : MethodName), ⟨#[]⟩, 0, none, [], [], 0, 0, true) (0, .invokespecial 3, 60, 1, [6, 8], 0, 0, []) := ⟨rfl, rfl, Or.inr ⟨"BookBarge", List.mem_of_getElem? (i := 193) (by decide +kernel)⟩, zw194, zcal60, by decide, by decide, zpn60⟩
theorem zli_X6_11 : zlk zG ((⟨RX6, "", ""⟩ : MethodName), ⟨#[]⟩, 0, none, [], [], 0, 0, true) (0, .invokespecial 11, 75, 1, [9], 0, 0, []) := ⟨rfl, rfl, Or.inr ⟨"BookBarge", List.mem_of_getElem? (i := 198) (by decide +kernel)⟩, zw174, zcal75, by decide, by decide, zpn75⟩
theorem zlf_X6_12 : ∀ c ∈ [6], zfl RX6 12 5 2 c := zall1 (⟨RX6, TX6, 7, "BookBarge$RiverParser", rfl, by decide, zw199, Or.inl rfl, Or.inl ⟨_, rfl⟩⟩)
theorem zlp_X6_12_i : ∀ c ∈ [6], zfp RX6 "<init>" 5 0 c := zall1 (⟨RX6, TX6, 7, rfl, Or.inr ⟨rfl, rfl, rfl⟩⟩)
theorem zlf_X6_18 : ∀ c ∈ [9], zfl RX6 18 0 2 c := zall1 (⟨RX10, TX10, 1, "BookBarge$World", rfl, by decide, zw178, Or.inl rfl, Or.inr ⟨_, rfl⟩⟩)
theorem zlf_X6_22 : ∀ c ∈ [6], zfl RX6 22 6 2 c := zall1 (⟨RX6, TX6, 7, "BookBarge$RiverParser", rfl, by decide, zw201, Or.inl rfl, Or.inr ⟨_, rfl⟩⟩)
theorem zlp_X6_22_i : ∀ c ∈ [6], zfp RX6 "<init>" 6 0 c := zall1 (⟨RX6, TX6, 7, rfl, Or.inr ⟨rfl, rfl, rfl⟩⟩)
theorem zcal61 : zcal zm61 2 := ⟨zw589, zw145, by decide +kernel⟩
theorem zpn61 : plainName (zm61).1.cls = true := by decide +kernel
theorem zli_X6_23 : zlk zG ((⟨RX6, "", ""⟩ : MethodName), ⟨#[]⟩, 0, none, [], [], 0, 0, true) (0, .invokevirtual 23, 61, 3, [6], 0, 0, []) := ⟨zall1 (⟨(RX6, TX6, 7), ⟨"BookBarge$RiverParser", "open", "([II)V"⟩, rfl, zw584, zw588, zw587, Or.inr ⟨rfl, zw585⟩⟩), zcal61, by decide, by decide, zpn61⟩
theorem zcal297 : zcal zm297 2 := ⟨zw607, zw157, by decide +kernel⟩
theorem zpn297 : plainName (zm297).1.cls = true := by decide +kernel
theorem zli_X6_27 : zlk zG ((⟨RX6, "", ""⟩ : MethodName), ⟨#[]⟩, 0, none, [], [], 0, 0, true) (0, .invokestatic 27, 297, 2, [], 0, 0, []) := ⟨zw605, zw606, zcal297, by decide, zpn297⟩
theorem zn_b_40 : (Int8.ofInt 40).toInt32 = 40 := by decide +kernel
theorem zcal34 : zcal zm34 1 := ⟨zw611, zw146, by decide +kernel⟩
theorem zpn34 : plainName (zm34).1.cls = true := by decide +kernel
theorem zli_X6_32 : zlk zG ((⟨RX6, "", ""⟩ : MethodName), ⟨#[]⟩, 0, none, [], [], 0, 0, true) (0, .invokevirtual 32, 34, 2, [6], 0, 0, []) := ⟨zall1 (⟨(RX6, TX6, 7), ⟨"BookBarge$RiverParser", "readClause", "(I)Z"⟩, rfl, zw608, zw610, zw1, Or.inl ⟨rfl, by decide⟩⟩), zcal34, by decide, by decide, zpn34⟩
theorem zlf_X6_36 : ∀ c ∈ [6], zfl RX6 36 4 0 c := zall1 (⟨RX6, TX6, 7, "BookBarge$RiverParser", rfl, by decide, zw215, Or.inr zw216, rfl⟩)
theorem zcal69 : zcal zm69 1 := ⟨zw747, zw145, by decide +kernel⟩
theorem zpn69 : plainName (zm69).1.cls = true := by decide +kernel
theorem zli_X6_40 : zlk zG ((⟨RX6, "", ""⟩ : MethodName), ⟨#[]⟩, 0, none, [], [], 0, 0, true) (0, .invokevirtual 40, 69, 2, [6], 0, 0, []) := ⟨zall1 (⟨(RX6, TX6, 7), ⟨"BookBarge$RiverParser", "tookSign", "(C)Z"⟩, rfl, zw742, zw746, zw745, Or.inr ⟨rfl, zw743⟩⟩), zcal69, by decide, by decide, zpn69⟩
theorem zcal65 : zcal zm65 0 := ⟨zw771, zw145, by decide +kernel⟩
theorem zpn65 : plainName (zm65).1.cls = true := by decide +kernel
theorem zli_X6_44 : zlk zG ((⟨RX6, "", ""⟩ : MethodName), ⟨#[]⟩, 0, none, [], [], 0, 0, true) (0, .invokevirtual 44, 65, 1, [6], 0, 0, []) := ⟨zall1 (⟨(RX6, TX6, 7), ⟨"BookBarge$RiverParser", "isAtEnd", "()Z"⟩, rfl, zw766, zw770, zw769, Or.inr ⟨rfl, zw767⟩⟩), zcal65, by decide, by decide, zpn65⟩
theorem zlf_X6_48 : ∀ c ∈ [6], zfl RX6 48 2 0 c := zall1 (⟨RX6, TX6, 7, "BookBarge$RiverParser", rfl, by decide, zw207, Or.inr zw208, rfl⟩)
theorem zcal62 : zcal zm62 2 := ⟨zw676, zw145, by decide +kernel⟩
theorem zpn62 : plainName (zm62).1.cls = true := by decide +kernel
theorem zli_X6_51 : zlk zG ((⟨RX6, "", ""⟩ : MethodName), ⟨#[]⟩, 0, none, [], [], 0, 0, true) (0, .invokevirtual 51, 62, 3, [6], 0, 0, []) := ⟨zall1 (⟨(RX6, TX6, 7), ⟨"BookBarge$RiverParser", "wrong", "(II)Z"⟩, rfl, zw671, zw675, zw674, Or.inr ⟨rfl, zw672⟩⟩), zcal62, by decide, by decide, zpn62⟩
theorem zcal33 : zcal zm33 0 := ⟨zw775, zw146, by decide +kernel⟩
theorem zpn33 : plainName (zm33).1.cls = true := by decide +kernel
theorem zli_X6_55 : zlk zG ((⟨RX6, "", ""⟩ : MethodName), ⟨#[]⟩, 0, none, [], [], 0, 0, true) (0, .invokevirtual 55, 33, 1, [6], 0, 0, []) := ⟨zall1 (⟨(RX6, TX6, 7), ⟨"BookBarge$RiverParser", "settle", "()V"⟩, rfl, zw772, zw774, zw10, Or.inl ⟨rfl, by decide⟩⟩), zcal33, by decide, by decide, zpn33⟩
theorem zn_b_17 : (Int8.ofInt 17).toInt32 = 17 := by decide +kernel
theorem zcal298 : zcal zm298 4 := ⟨zw722, zw157, by decide +kernel⟩
theorem zpn298 : plainName (zm298).1.cls = true := by decide +kernel
theorem zli_X6_58 : zlk zG ((⟨RX6, "", ""⟩ : MethodName), ⟨#[]⟩, 0, none, [], [], 0, 0, true) (0, .invokestatic 58, 298, 4, [], 0, 0, []) := ⟨zw720, zw721, zcal298, by decide, zpn298⟩
theorem zn_b_71 : (Int8.ofInt 71).toInt32 = 71 := by decide +kernel
theorem zcal72 : zcal zm72 1 := ⟨zw618, zw145, by decide +kernel⟩
theorem zpn72 : plainName (zm72).1.cls = true := by decide +kernel
theorem zli_X6_63 : zlk zG ((⟨RX6, "", ""⟩ : MethodName), ⟨#[]⟩, 0, none, [], [], 0, 0, true) (0, .invokevirtual 63, 72, 2, [6], 0, 0, []) := ⟨zall1 (⟨(RX6, TX6, 7), ⟨"BookBarge$RiverParser", "wordAmong", "(Ljava/lang/String;)I"⟩, rfl, zw613, zw617, zw616, Or.inr ⟨rfl, zw614⟩⟩), zcal72, by decide, by decide, zpn72⟩
theorem zcal35 : zcal zm35 2 := ⟨zw680, zw146, by decide +kernel⟩
theorem zpn35 : plainName (zm35).1.cls = true := by decide +kernel
theorem zli_X6_67 : zlk zG ((⟨RX6, "", ""⟩ : MethodName), ⟨#[]⟩, 0, none, [], [], 0, 0, true) (0, .invokevirtual 67, 35, 3, [6], 0, 0, []) := ⟨zall1 (⟨(RX6, TX6, 7), ⟨"BookBarge$RiverParser", "hasPlaceFor", "(II)Z"⟩, rfl, zw677, zw679, zw2, Or.inl ⟨rfl, by decide⟩⟩), zcal35, by decide, by decide, zpn35⟩
theorem zcal73 : zcal zm73 0 := ⟨zw686, zw145, by decide +kernel⟩
theorem zpn73 : plainName (zm73).1.cls = true := by decide +kernel
theorem zli_X6_70 : zlk zG ((⟨RX6, "", ""⟩ : MethodName), ⟨#[]⟩, 0, none, [], [], 0, 0, true) (0, .invokevirtual 70, 73, 1, [6], 0, 0, []) := ⟨zall1 (⟨(RX6, TX6, 7), ⟨"BookBarge$RiverParser", "takeWord", "()V"⟩, rfl, zw681, zw685, zw684, Or.inr ⟨rfl, zw682⟩⟩), zcal73, by decide, by decide, zpn73⟩
theorem zcal37 : zcal zm37 0 := ⟨zw690, zw146, by decide +kernel⟩
theorem zpn37 : plainName (zm37).1.cls = true := by decide +kernel
theorem zli_X6_73 : zlk zG ((⟨RX6, "", ""⟩ : MethodName), ⟨#[]⟩, 0, none, [], [], 0, 0, true) (0, .invokevirtual 73, 37, 1, [6], 0, 0, []) := ⟨zall1 (⟨(RX6, TX6, 7), ⟨"BookBarge$RiverParser", "readBarge", "()Z"⟩, rfl, zw687, zw689, zw3, Or.inl ⟨rfl, by decide⟩⟩), zcal37, by decide, by decide, zpn37⟩
theorem zcal38 : zcal zm38 0 := ⟨zw711, zw146, by decide +kernel⟩
theorem zpn38 : plainName (zm38).1.cls = true := by decide +kernel
theorem zli_X6_76 : zlk zG ((⟨RX6, "", ""⟩ : MethodName), ⟨#[]⟩, 0, none, [], [], 0, 0, true) (0, .invokevirtual 76, 38, 1, [6], 0, 0, []) := ⟨zall1 (⟨(RX6, TX6, 7), ⟨"BookBarge$RiverParser", "readBook", "()Z"⟩, rfl, zw708, zw710, zw5, Or.inl ⟨rfl, by decide⟩⟩), zcal38, by decide, by decide, zpn38⟩
theorem zcal39 : zcal zm39 0 := ⟨zw719, zw146, by decide +kernel⟩
theorem zpn39 : plainName (zm39).1.cls = true := by decide +kernel
theorem zli_X6_79 : zlk zG ((⟨RX6, "", ""⟩ : MethodName), ⟨#[]⟩, 0, none, [], [], 0, 0, true) (0, .invokevirtual 79, 39, 1, [6], 0, 0, []) := ⟨zall1 (⟨(RX6, TX6, 7), ⟨"BookBarge$RiverParser", "readStop", "()Z"⟩, rfl, zw716, zw718, zw6, Or.inl ⟨rfl, by decide⟩⟩), zcal39, by decide, by decide, zpn39⟩
theorem zcal40 : zcal zm40 0 := ⟨zw733, zw146, by decide +kernel⟩
theorem zpn40 : plainName (zm40).1.cls = true := by decide +kernel
theorem zli_X6_82 : zlk zG ((⟨RX6, "", ""⟩ : MethodName), ⟨#[]⟩, 0, none, [], [], 0, 0, true) (0, .invokevirtual 82, 40, 1, [6], 0, 0, []) := ⟨zall1 (⟨(RX6, TX6, 7), ⟨"BookBarge$RiverParser", "readReader", "()Z"⟩, rfl, zw730, zw732, zw7, Or.inl ⟨rfl, by decide⟩⟩), zcal40, by decide, by decide, zpn40⟩
theorem zcal41 : zcal zm41 0 := ⟨zw737, zw146, by decide +kernel⟩
theorem zpn41 : plainName (zm41).1.cls = true := by decide +kernel
theorem zli_X6_85 : zlk zG ((⟨RX6, "", ""⟩ : MethodName), ⟨#[]⟩, 0, none, [], [], 0, 0, true) (0, .invokevirtual 85, 41, 1, [6], 0, 0, []) := ⟨zall1 (⟨(RX6, TX6, 7), ⟨"BookBarge$RiverParser", "readWish", "()Z"⟩, rfl, zw734, zw736, zw8, Or.inl ⟨rfl, by decide⟩⟩), zcal41, by decide, by decide, zpn41⟩
theorem zcal42 : zcal zm42 0 := ⟨zw741, zw146, by decide +kernel⟩
theorem zpn42 : plainName (zm42).1.cls = true := by decide +kernel
theorem zli_X6_88 : zlk zG ((⟨RX6, "", ""⟩ : MethodName), ⟨#[]⟩, 0, none, [], [], 0, 0, true) (0, .invokevirtual 88, 42, 1, [6], 0, 0, []) := ⟨zall1 (⟨(RX6, TX6, 7), ⟨"BookBarge$RiverParser", "readHole", "()Z"⟩, rfl, zw738, zw740, zw9, Or.inl ⟨rfl, by decide⟩⟩), zcal42, by decide, by decide, zpn42⟩
theorem zn_b_84 : (Int8.ofInt 84).toInt32 = 84 := by decide +kernel
theorem zn_b_87 : (Int8.ofInt 87).toInt32 = 87 := by decide +kernel
theorem zn_b_88 : (Int8.ofInt 88).toInt32 = 88 := by decide +kernel
theorem zcal70 : zcal zm70 2 := ⟨zw700, zw145, by decide +kernel⟩
theorem zpn70 : plainName (zm70).1.cls = true := by decide +kernel
theorem zli_X6_91 : zlk zG ((⟨RX6, "", ""⟩ : MethodName), ⟨#[]⟩, 0, none, [], [], 0, 0, true) (0, .invokevirtual 91, 70, 3, [6], 0, 0, []) := ⟨zall1 (⟨(RX6, TX6, 7), ⟨"BookBarge$RiverParser", "readNumber", "(II)Z"⟩, rfl, zw695, zw699, zw698, Or.inr ⟨rfl, zw696⟩⟩), zcal70, by decide, by decide, zpn70⟩
theorem zlf_X6_94 : ∀ c ∈ [6], zfl RX6 94 3 0 c := zall1 (⟨RX6, TX6, 7, "BookBarge$RiverParser", rfl, by decide, zw212, Or.inr zw213, rfl⟩)
theorem zcal36 : zcal zm36 3 := ⟨zw694, zw146, by decide +kernel⟩
theorem zpn36 : plainName (zm36).1.cls = true := by decide +kernel
theorem zli_X6_97 : zlk zG ((⟨RX6, "", ""⟩ : MethodName), ⟨#[]⟩, 0, none, [], [], 0, 0, true) (0, .invokevirtual 97, 36, 4, [6], 0, 0, []) := ⟨zall1 (⟨(RX6, TX6, 7), ⟨"BookBarge$RiverParser", "readInto", "(III)Z"⟩, rfl, zw691, zw693, zw4, Or.inl ⟨rfl, by decide⟩⟩), zcal36, by decide, by decide, zpn36⟩
theorem zn_s_9999 : (Int16.ofInt 9999).toInt32 = 9999 := by decide +kernel
theorem zn_b_99 : (Int8.ofInt 99).toInt32 = 99 := by decide +kernel
theorem zn_s_999 : (Int16.ofInt 999).toInt32 = 999 := by decide +kernel
theorem zli_X6_101 : zlk zG ((⟨RX6, "", ""⟩ : MethodName), ⟨#[]⟩, 0, none, [], [], 0, 0, true) (0, .invokevirtual 101, 77, 3, [9], 0, 0, []) := ⟨zall1 (⟨(RX10, TX10, 1), ⟨"BookBarge$World", "cell", "(II)I"⟩, rfl, zw712, zw713, zw714, Or.inl ⟨rfl, by decide⟩⟩), zcal77, by decide, by decide, zpn77⟩
theorem zn_b_121 : (Int8.ofInt 121).toInt32 = 121 := by decide +kernel
theorem zcal66 : zcal zm66 0 := ⟨zw706, zw145, by decide +kernel⟩
theorem zpn66 : plainName (zm66).1.cls = true := by decide +kernel
theorem zli_X6_105 : zlk zG ((⟨RX6, "", ""⟩ : MethodName), ⟨#[]⟩, 0, none, [], [], 0, 0, true) (0, .invokevirtual 105, 66, 1, [6], 0, 0, []) := ⟨zall1 (⟨(RX6, TX6, 7), ⟨"BookBarge$RiverParser", "isAtDigit", "()Z"⟩, rfl, zw726, zw702, zw729, Or.inr ⟨rfl, zw727⟩⟩), zcal66, by decide, by decide, zpn66⟩
theorem zn_s_159 : (Int16.ofInt 159).toInt32 = 159 := by decide +kernel
theorem zn_s_165 : (Int16.ofInt 165).toInt32 = 165 := by decide +kernel
theorem zn_s_171 : (Int16.ofInt 171).toInt32 = 171 := by decide +kernel
theorem zn_s_247 : (Int16.ofInt 247).toInt32 = 247 := by decide +kernel
theorem zli_X7_3 : zlk zG ((⟨RX7, "", ""⟩ : MethodName), ⟨#[]⟩, 0, none, [], [], 0, 0, true) (0, .invokespecial 3, 1006, 1, [], 0, 0, []) := zw916
theorem zn_b_64 : (Int8.ofInt 64).toInt32 = 64 := by decide +kernel
theorem zlf_X7_9 : ∀ c ∈ [7], zfl RX7 9 2 2 c := zall1 (⟨RX7, TX7, 3, "BookBarge$Rule", rfl, by decide, zw919, Or.inl rfl, Or.inr ⟨_, rfl⟩⟩)
theorem zlp_X7_9_i : ∀ c ∈ [7], zfp RX7 "<init>" 2 0 c := zall1 (⟨RX7, TX7, 3, rfl, Or.inr ⟨rfl, rfl, rfl⟩⟩)
theorem zlf_X7_15 : ∀ c ∈ [7], zfl RX7 15 0 2 c := zall1 (⟨RX7, TX7, 3, "BookBarge$Rule", rfl, by decide, zw917, Or.inl rfl, Or.inr ⟨_, rfl⟩⟩)
theorem zlp_X7_15_i : ∀ c ∈ [7], zfp RX7 "<init>" 0 0 c := zall1 (⟨RX7, TX7, 3, rfl, Or.inr ⟨rfl, rfl, rfl⟩⟩)
theorem zlf_X7_19 : ∀ c ∈ [7], zfl RX7 19 1 2 c := zall1 (⟨RX7, TX7, 3, "BookBarge$Rule", rfl, by decide, zw918, Or.inl rfl, Or.inr ⟨_, rfl⟩⟩)
theorem zlp_X7_19_i : ∀ c ∈ [7], zfp RX7 "<init>" 1 0 c := zall1 (⟨RX7, TX7, 3, rfl, Or.inr ⟨rfl, rfl, rfl⟩⟩)
theorem zli_X7_22 : zlk zG ((⟨RX7, "", ""⟩ : MethodName), ⟨#[]⟩, 0, none, [], [], 0, 0, true) (0, .invokevirtual 22, 44, 3, [7], 0, 0, []) := ⟨zall1 (⟨(RX7, TX7, 3), ⟨"BookBarge$Rule", "part", "(II)I"⟩, rfl, zw1188, zw1189, zw1190, Or.inl ⟨rfl, by decide⟩⟩), zcal44, by decide, by decide, zpn44⟩
theorem zcal47 : zcal zm47 3 := ⟨zw1195, zw162, by decide +kernel⟩
theorem zpn47 : plainName (zm47).1.cls = true := by decide +kernel
theorem zli_X7_26 : zlk zG ((⟨RX7, "", ""⟩ : MethodName), ⟨#[]⟩, 0, none, [], [], 0, 0, true) (0, .invokevirtual 26, 47, 4, [7], 0, 0, []) := ⟨zall1 (⟨(RX7, TX7, 3), ⟨"BookBarge$Rule", "worked", "(II[J)J"⟩, rfl, zw1192, zw1194, zw27, Or.inl ⟨rfl, by decide⟩⟩), zcal47, by decide, by decide, zpn47⟩
theorem zli_X7_30 : zlk zG ((⟨RX7, "", ""⟩ : MethodName), ⟨#[]⟩, 0, none, [], [], 0, 0, true) (0, .invokestatic 30, 1000, 2, [], 0, 0, []) := Or.inl ⟨rfl, zw1196⟩
theorem zn_l_1 : Int64.ofNat 1 = 1 := by decide +kernel
theorem zcal48 : zcal zm48 3 := ⟨zw1202, zw162, by decide +kernel⟩
theorem zpn48 : plainName (zm48).1.cls = true := by decide +kernel
theorem zli_X7_38 : zlk zG ((⟨RX7, "", ""⟩ : MethodName), ⟨#[]⟩, 0, none, [], [], 0, 0, true) (0, .invokestatic 38, 48, 3, [], 0, 0, []) := ⟨zw1200, zw1201, zcal48, by decide, zpn48⟩
theorem zli_X8_3 : zlk zG ((⟨RX8, "", ""⟩ : MethodName), ⟨#[]⟩, 0, none, [], [], 0, 0, true) (0, .invokespecial 3, 60, 1, [6, 8], 0, 0, []) := ⟨rfl, rfl, Or.inr ⟨"BookBarge", List.mem_of_getElem? (i := 239) (by decide +kernel)⟩, zw194, zcal60, by decide, by decide, zpn60⟩
theorem zn_s_400 : (Int16.ofInt 400).toInt32 = 400 := by decide +kernel
theorem zlf_X8_9 : ∀ c ∈ [8], zfl RX8 9 5 2 c := zall1 (⟨RX8, TX8, 10, "BookBarge$RuleParser", rfl, by decide, zw240, Or.inl rfl, Or.inr ⟨_, rfl⟩⟩)
theorem zlp_X8_9_i : ∀ c ∈ [8], zfp RX8 "<init>" 5 0 c := zall1 (⟨RX8, TX8, 10, rfl, Or.inr ⟨rfl, rfl, rfl⟩⟩)
theorem zlf_X8_15 : ∀ c ∈ [8], zfl RX8 15 6 0 c := zall1 (⟨RX8, TX8, 10, "BookBarge$RuleParser", rfl, by decide, zw241, Or.inl rfl, rfl⟩)
theorem zlp_X8_15_i (nm : String) : ∀ c ∈ [8], zfp RX8 nm 6 0 c := zall1 (⟨RX8, TX8, 10, rfl, Or.inl rfl⟩)
theorem zn_b_60 : (Int8.ofInt 60).toInt32 = 60 := by decide +kernel
theorem zlf_X8_21 : ∀ c ∈ [8], zfl RX8 21 7 2 c := zall1 (⟨RX8, TX8, 10, "BookBarge$RuleParser", rfl, by decide, zw242, Or.inl rfl, Or.inr ⟨_, rfl⟩⟩)
theorem zlp_X8_21_i : ∀ c ∈ [8], zfp RX8 "<init>" 7 0 c := zall1 (⟨RX8, TX8, 10, rfl, Or.inr ⟨rfl, rfl, rfl⟩⟩)
theorem zlf_X8_24 : ∀ c ∈ [8], zfl RX8 24 8 0 c := zall1 (⟨RX8, TX8, 10, "BookBarge$RuleParser", rfl, by decide, zw243, Or.inl rfl, rfl⟩)
theorem zlp_X8_24_i (nm : String) : ∀ c ∈ [8], zfp RX8 nm 8 0 c := zall1 (⟨RX8, TX8, 10, rfl, Or.inl rfl⟩)
theorem zlf_X8_27 : ∀ c ∈ [8], zfl RX8 27 9 0 c := zall1 (⟨RX8, TX8, 10, "BookBarge$RuleParser", rfl, by decide, zw244, Or.inl rfl, rfl⟩)
theorem zlp_X8_27_i (nm : String) : ∀ c ∈ [8], zfp RX8 nm 9 0 c := zall1 (⟨RX8, TX8, 10, rfl, Or.inl rfl⟩)
theorem zli_X8_30 : zlk zG ((⟨RX8, "", ""⟩ : MethodName), ⟨#[]⟩, 0, none, [], [], 0, 0, true) (0, .invokevirtual 30, 61, 3, [8], 0, 0, []) := ⟨zall1 (⟨(RX8, TX8, 10), ⟨"BookBarge$RuleParser", "open", "([II)V"⟩, rfl, zw795, zw588, zw797, Or.inr ⟨rfl, zw796⟩⟩), zcal61, by decide, by decide, zpn61⟩
theorem zlp_X8_15_n (nm : String) : ∀ c ∈ [8], zfp RX8 nm 6 0 c := zall1 (⟨RX8, TX8, 10, rfl, Or.inl rfl⟩)
theorem zlp_X8_24_n (nm : String) : ∀ c ∈ [8], zfp RX8 nm 8 0 c := zall1 (⟨RX8, TX8, 10, rfl, Or.inl rfl⟩)
theorem zlp_X8_27_n (nm : String) : ∀ c ∈ [8], zfp RX8 nm 9 0 c := zall1 (⟨RX8, TX8, 10, rfl, Or.inl rfl⟩)
theorem zcal52 : zcal zm52 0 := ⟨zw801, zw147, by decide +kernel⟩
theorem zpn52 : plainName (zm52).1.cls = true := by decide +kernel
theorem zli_X8_34 : zlk zG ((⟨RX8, "", ""⟩ : MethodName), ⟨#[]⟩, 0, none, [], [], 0, 0, true) (0, .invokevirtual 34, 52, 1, [8], 0, 0, []) := ⟨zall1 (⟨(RX8, TX8, 10), ⟨"BookBarge$RuleParser", "readClause", "()Z"⟩, rfl, zw798, zw800, zw12, Or.inl ⟨rfl, by decide⟩⟩), zcal52, by decide, by decide, zpn52⟩
theorem zlf_X8_38 : ∀ c ∈ [8], zfl RX8 38 4 0 c := zall1 (⟨RX8, TX8, 10, "BookBarge$RuleParser", rfl, by decide, zw217, Or.inr zw218, rfl⟩)
theorem zli_X8_41 : zlk zG ((⟨RX8, "", ""⟩ : MethodName), ⟨#[]⟩, 0, none, [], [], 0, 0, true) (0, .invokevirtual 41, 69, 2, [8], 0, 0, []) := ⟨zall1 (⟨(RX8, TX8, 10), ⟨"BookBarge$RuleParser", "tookSign", "(C)Z"⟩, rfl, zw868, zw746, zw870, Or.inr ⟨rfl, zw869⟩⟩), zcal69, by decide, by decide, zpn69⟩
theorem zli_X8_45 : zlk zG ((⟨RX8, "", ""⟩ : MethodName), ⟨#[]⟩, 0, none, [], [], 0, 0, true) (0, .invokevirtual 45, 65, 1, [8], 0, 0, []) := ⟨zall1 (⟨(RX8, TX8, 10), ⟨"BookBarge$RuleParser", "isAtEnd", "()Z"⟩, rfl, zw892, zw770, zw894, Or.inr ⟨rfl, zw893⟩⟩), zcal65, by decide, by decide, zpn65⟩
theorem zlf_X8_48 : ∀ c ∈ [8], zfl RX8 48 2 0 c := zall1 (⟨RX8, TX8, 10, "BookBarge$RuleParser", rfl, by decide, zw205, Or.inr zw206, rfl⟩)
theorem zli_X8_51 : zlk zG ((⟨RX8, "", ""⟩ : MethodName), ⟨#[]⟩, 0, none, [], [], 0, 0, true) (0, .invokevirtual 51, 62, 3, [8], 0, 0, []) := ⟨zall1 (⟨(RX8, TX8, 10), ⟨"BookBarge$RuleParser", "wrong", "(II)Z"⟩, rfl, zw806, zw675, zw808, Or.inr ⟨rfl, zw807⟩⟩), zcal62, by decide, by decide, zpn62⟩
theorem zcal299 : zcal zm299 2 := ⟨zw903, zw157, by decide +kernel⟩
theorem zpn299 : plainName (zm299).1.cls = true := by decide +kernel
theorem zli_X8_55 : zlk zG ((⟨RX8, "", ""⟩ : MethodName), ⟨#[]⟩, 0, none, [], [], 0, 0, true) (0, .invokestatic 55, 299, 2, [], 0, 0, []) := ⟨zw901, zw902, zcal299, by decide, zpn299⟩
theorem zcal43 : zcal zm43 2 := ⟨zw915, zw162, by decide +kernel⟩
theorem zpn43 : plainName (zm43).1.cls = true := by decide +kernel
theorem zli_X8_61 : zlk zG ((⟨RX8, "", ""⟩ : MethodName), ⟨#[]⟩, 0, none, [], [], 0, 0, true) (0, .invokespecial 61, 43, 3, [7], 0, 0, []) := ⟨rfl, rfl, Or.inl zw913, zw914, zcal43, by decide, by decide, zpn43⟩
theorem zlt_1_5 : (1 : Nat) < 5 := by decide +kernel
theorem zli_X8_66 : zlk zG ((⟨RX8, "", ""⟩ : MethodName), ⟨#[]⟩, 0, none, [], [], 0, 0, true) (0, .invokevirtual 66, 72, 2, [8], 0, 0, []) := ⟨zall1 (⟨(RX8, TX8, 10), ⟨"BookBarge$RuleParser", "wordAmong", "(Ljava/lang/String;)I"⟩, rfl, zw803, zw617, zw805, Or.inr ⟨rfl, zw804⟩⟩), zcal72, by decide, by decide, zpn72⟩
theorem zlt_2_5 : (2 : Nat) < 5 := by decide +kernel
theorem zli_X8_70 : zlk zG ((⟨RX8, "", ""⟩ : MethodName), ⟨#[]⟩, 0, none, [], [], 0, 0, true) (0, .invokevirtual 70, 73, 1, [8], 0, 0, []) := ⟨zall1 (⟨(RX8, TX8, 10), ⟨"BookBarge$RuleParser", "takeWord", "()V"⟩, rfl, zw809, zw685, zw811, Or.inr ⟨rfl, zw810⟩⟩), zcal73, by decide, by decide, zpn73⟩
theorem zcal58 : zcal zm58 0 := ⟨zw815, zw147, by decide +kernel⟩
theorem zpn58 : plainName (zm58).1.cls = true := by decide +kernel
theorem zli_X8_73 : zlk zG ((⟨RX8, "", ""⟩ : MethodName), ⟨#[]⟩, 0, none, [], [], 0, 0, true) (0, .invokevirtual 73, 58, 1, [8], 0, 0, []) := ⟨zall1 (⟨(RX8, TX8, 10), ⟨"BookBarge$RuleParser", "readSum", "()Z"⟩, rfl, zw812, zw814, zw13, Or.inl ⟨rfl, by decide⟩⟩), zcal58, by decide, by decide, zpn58⟩
theorem zli_X8_76 : zlk zG ((⟨RX8, "", ""⟩ : MethodName), ⟨#[]⟩, 0, none, [], [], 0, 0, true) (0, .invokevirtual 76, 70, 3, [8], 0, 0, []) := ⟨zall1 (⟨(RX8, TX8, 10), ⟨"BookBarge$RuleParser", "readNumber", "(II)Z"⟩, rfl, zw824, zw699, zw826, Or.inr ⟨rfl, zw825⟩⟩), zcal70, by decide, by decide, zpn70⟩
theorem zlf_X8_79 : ∀ c ∈ [8], zfl RX8 79 3 0 c := zall1 (⟨RX8, TX8, 10, "BookBarge$RuleParser", rfl, by decide, zw210, Or.inr zw211, rfl⟩)
theorem zcal74 : zcal zm74 1 := ⟨zw855, zw145, by decide +kernel⟩
theorem zpn74 : plainName (zm74).1.cls = true := by decide +kernel
theorem zli_X8_84 : zlk zG ((⟨RX8, "", ""⟩ : MethodName), ⟨#[]⟩, 0, none, [], [], 0, 0, true) (0, .invokevirtual 84, 74, 2, [8], 0, 0, []) := ⟨zall1 (⟨(RX8, TX8, 10), ⟨"BookBarge$RuleParser", "tookWord", "(Ljava/lang/String;)Z"⟩, rfl, zw850, zw854, zw853, Or.inr ⟨rfl, zw851⟩⟩), zcal74, by decide, by decide, zpn74⟩
theorem zcal55 : zcal zm55 1 := ⟨zw861, zw147, by decide +kernel⟩
theorem zpn55 : plainName (zm55).1.cls = true := by decide +kernel
theorem zli_X8_88 : zlk zG ((⟨RX8, "", ""⟩ : MethodName), ⟨#[]⟩, 0, none, [], [], 0, 0, true) (0, .invokevirtual 88, 55, 2, [8], 0, 0, []) := ⟨zall1 (⟨(RX8, TX8, 10), ⟨"BookBarge$RuleParser", "readTest", "(I)Z"⟩, rfl, zw858, zw860, zw17, Or.inl ⟨rfl, by decide⟩⟩), zcal55, by decide, by decide, zpn55⟩
theorem zcal56 : zcal zm56 1 := ⟨zw865, zw147, by decide +kernel⟩
theorem zpn56 : plainName (zm56).1.cls = true := by decide +kernel
theorem zli_X8_92 : zlk zG ((⟨RX8, "", ""⟩ : MethodName), ⟨#[]⟩, 0, none, [], [], 0, 0, true) (0, .invokevirtual 92, 56, 2, [8], 0, 0, []) := ⟨zall1 (⟨(RX8, TX8, 10), ⟨"BookBarge$RuleParser", "readFact", "(I)Z"⟩, rfl, zw862, zw864, zw18, Or.inl ⟨rfl, by decide⟩⟩), zcal56, by decide, by decide, zpn56⟩
theorem zcal53 : zcal zm53 1 := ⟨zw830, zw147, by decide +kernel⟩
theorem zpn53 : plainName (zm53).1.cls = true := by decide +kernel
theorem zli_X8_96 : zlk zG ((⟨RX8, "", ""⟩ : MethodName), ⟨#[]⟩, 0, none, [], [], 0, 0, true) (0, .invokevirtual 96, 53, 2, [8], 0, 0, []) := ⟨zall1 (⟨(RX8, TX8, 10), ⟨"BookBarge$RuleParser", "put", "(I)V"⟩, rfl, zw827, zw829, zw15, Or.inl ⟨rfl, by decide⟩⟩), zcal53, by decide, by decide, zpn53⟩
theorem zcal64 : zcal zm64 0 := ⟨zw753, zw145, by decide +kernel⟩
theorem zpn64 : plainName (zm64).1.cls = true := by decide +kernel
theorem zli_X8_107 : zlk zG ((⟨RX8, "", ""⟩ : MethodName), ⟨#[]⟩, 0, none, [], [], 0, 0, true) (0, .invokevirtual 107, 64, 1, [8], 0, 0, []) := ⟨zall1 (⟨(RX8, TX8, 10), ⟨"BookBarge$RuleParser", "sign", "()I"⟩, rfl, zw837, zw749, zw840, Or.inr ⟨rfl, zw838⟩⟩), zcal64, by decide, by decide, zpn64⟩
theorem zcal68 : zcal zm68 0 := ⟨zw759, zw145, by decide +kernel⟩
theorem zpn68 : plainName (zm68).1.cls = true := by decide +kernel
theorem zli_X8_112 : zlk zG ((⟨RX8, "", ""⟩ : MethodName), ⟨#[]⟩, 0, none, [], [], 0, 0, true) (0, .invokevirtual 112, 68, 1, [8], 0, 0, []) := ⟨zall1 (⟨(RX8, TX8, 10), ⟨"BookBarge$RuleParser", "takeSign", "()V"⟩, rfl, zw841, zw755, zw844, Or.inr ⟨rfl, zw842⟩⟩), zcal68, by decide, by decide, zpn68⟩
theorem zcal57 : zcal zm57 0 := ⟨zw874, zw147, by decide +kernel⟩
theorem zpn57 : plainName (zm57).1.cls = true := by decide +kernel
theorem zli_X8_115 : zlk zG ((⟨RX8, "", ""⟩ : MethodName), ⟨#[]⟩, 0, none, [], [], 0, 0, true) (0, .invokevirtual 115, 57, 1, [8], 0, 0, []) := ⟨zall1 (⟨(RX8, TX8, 10), ⟨"BookBarge$RuleParser", "takeComparison", "()I"⟩, rfl, zw871, zw873, zw19, Or.inl ⟨rfl, by decide⟩⟩), zcal57, by decide, by decide, zpn57⟩
theorem zcal54 : zcal zm54 1 := ⟨zw834, zw147, by decide +kernel⟩
theorem zpn54 : plainName (zm54).1.cls = true := by decide +kernel
theorem zli_X8_118 : zlk zG ((⟨RX8, "", ""⟩ : MethodName), ⟨#[]⟩, 0, none, [], [], 0, 0, true) (0, .invokevirtual 118, 54, 2, [8], 0, 0, []) := ⟨zall1 (⟨(RX8, TX8, 10), ⟨"BookBarge$RuleParser", "countPart", "(I)Z"⟩, rfl, zw831, zw833, zw16, Or.inl ⟨rfl, by decide⟩⟩), zcal54, by decide, by decide, zpn54⟩
theorem zn_b_61 : (Int8.ofInt 61).toInt32 = 61 := by decide +kernel
theorem zn_b_62 : (Int8.ofInt 62).toInt32 = 62 := by decide +kernel
theorem zcal67 : zcal zm67 0 := ⟨zw765, zw145, by decide +kernel⟩
theorem zpn67 : plainName (zm67).1.cls = true := by decide +kernel
theorem zli_X8_121 : zlk zG ((⟨RX8, "", ""⟩ : MethodName), ⟨#[]⟩, 0, none, [], [], 0, 0, true) (0, .invokevirtual 121, 67, 1, [8], 0, 0, []) := ⟨zall1 (⟨(RX8, TX8, 10), ⟨"BookBarge$RuleParser", "takeByte", "()V"⟩, rfl, zw875, zw761, zw878, Or.inr ⟨rfl, zw876⟩⟩), zcal67, by decide, by decide, zpn67⟩
theorem zcal63 : zcal zm63 0 := ⟨zw604, zw145, by decide +kernel⟩
theorem zpn63 : plainName (zm63).1.cls = true := by decide +kernel
theorem zli_X8_124 : zlk zG ((⟨RX8, "", ""⟩ : MethodName), ⟨#[]⟩, 0, none, [], [], 0, 0, true) (0, .invokevirtual 124, 63, 1, [8], 0, 0, []) := ⟨zall1 (⟨(RX8, TX8, 10), ⟨"BookBarge$RuleParser", "skipBlanks", "()V"⟩, rfl, zw879, zw600, zw882, Or.inr ⟨rfl, zw880⟩⟩), zcal63, by decide, by decide, zpn63⟩
theorem zlt_1_7 : (1 : Nat) < 7 := by decide +kernel
theorem zlt_2_7 : (2 : Nat) < 7 := by decide +kernel
theorem zcal59 : zcal zm59 0 := ⟨zw819, zw147, by decide +kernel⟩
theorem zpn59 : plainName (zm59).1.cls = true := by decide +kernel
theorem zli_X8_132 : zlk zG ((⟨RX8, "", ""⟩ : MethodName), ⟨#[]⟩, 0, none, [], [], 0, 0, true) (0, .invokevirtual 132, 59, 1, [8], 0, 0, []) := ⟨zall1 (⟨(RX8, TX8, 10), ⟨"BookBarge$RuleParser", "readValue", "()Z"⟩, rfl, zw816, zw818, zw14, Or.inl ⟨rfl, by decide⟩⟩), zcal59, by decide, by decide, zpn59⟩
theorem zn_b_42 : (Int8.ofInt 42).toInt32 = 42 := by decide +kernel
theorem zn_b_43 : (Int8.ofInt 43).toInt32 = 43 := by decide +kernel
theorem zn_b_45 : (Int8.ofInt 45).toInt32 = 45 := by decide +kernel
theorem zli_X8_139 : zlk zG ((⟨RX8, "", ""⟩ : MethodName), ⟨#[]⟩, 0, none, [], [], 0, 0, true) (0, .invokevirtual 139, 66, 1, [8], 0, 0, []) := ⟨zall1 (⟨(RX8, TX8, 10), ⟨"BookBarge$RuleParser", "isAtDigit", "()Z"⟩, rfl, zw820, zw702, zw822, Or.inr ⟨rfl, zw821⟩⟩), zcal66, by decide, by decide, zpn66⟩
theorem zli_X9_3 : zlk zG ((⟨RX9, "", ""⟩ : MethodName), ⟨#[]⟩, 0, none, [], [], 0, 0, true) (0, .invokespecial 3, 1006, 1, [], 0, 0, []) := zw196
theorem zlf_X9_9 : ∀ c ∈ [6, 8], zfl RX9 9 0 2 c := zall2 (⟨RX6, TX6, 7, "BookBarge$Scanner", rfl, by decide, zw202, Or.inl rfl, Or.inr ⟨_, rfl⟩⟩) (⟨RX8, TX8, 10, "BookBarge$Scanner", rfl, by decide, zw202, Or.inl rfl, Or.inr ⟨_, rfl⟩⟩)
theorem zlp_X9_9_i : ∀ c ∈ [6, 8], zfp RX9 "<init>" 0 0 c := zall2 (⟨RX6, TX6, 7, rfl, Or.inr ⟨rfl, rfl, rfl⟩⟩) (⟨RX8, TX8, 10, rfl, Or.inr ⟨rfl, rfl, rfl⟩⟩)
theorem zlf_X9_15 : ∀ c ∈ [6, 8], zfl RX9 15 1 0 c := zall2 (⟨RX6, TX6, 7, "BookBarge$Scanner", rfl, by decide, zw203, Or.inl rfl, rfl⟩) (⟨RX8, TX8, 10, "BookBarge$Scanner", rfl, by decide, zw203, Or.inl rfl, rfl⟩)
theorem zlp_X9_15_i (nm : String) : ∀ c ∈ [6, 8], zfp RX9 nm 1 0 c := zall2 (⟨RX6, TX6, 7, rfl, Or.inl rfl⟩) (⟨RX8, TX8, 10, rfl, Or.inl rfl⟩)
theorem zlf_X9_19 : ∀ c ∈ [6, 8], zfl RX9 19 2 0 c := zall2 (⟨RX6, TX6, 7, "BookBarge$Scanner", rfl, by decide, zw204, Or.inl rfl, rfl⟩) (⟨RX8, TX8, 10, "BookBarge$Scanner", rfl, by decide, zw204, Or.inl rfl, rfl⟩)
theorem zlp_X9_19_i (nm : String) : ∀ c ∈ [6, 8], zfp RX9 nm 2 0 c := zall2 (⟨RX6, TX6, 7, rfl, Or.inl rfl⟩) (⟨RX8, TX8, 10, rfl, Or.inl rfl⟩)
theorem zlf_X9_22 : ∀ c ∈ [6, 8], zfl RX9 22 3 0 c := zall2 (⟨RX6, TX6, 7, "BookBarge$Scanner", rfl, by decide, zw209, Or.inl rfl, rfl⟩) (⟨RX8, TX8, 10, "BookBarge$Scanner", rfl, by decide, zw209, Or.inl rfl, rfl⟩)
theorem zlp_X9_22_i (nm : String) : ∀ c ∈ [6, 8], zfp RX9 nm 3 0 c := zall2 (⟨RX6, TX6, 7, rfl, Or.inl rfl⟩) (⟨RX8, TX8, 10, rfl, Or.inl rfl⟩)
theorem zlf_X9_25 : ∀ c ∈ [6, 8], zfl RX9 25 4 0 c := zall2 (⟨RX6, TX6, 7, "BookBarge$Scanner", rfl, by decide, zw214, Or.inl rfl, rfl⟩) (⟨RX8, TX8, 10, "BookBarge$Scanner", rfl, by decide, zw214, Or.inl rfl, rfl⟩)
theorem zlp_X9_25_i (nm : String) : ∀ c ∈ [6, 8], zfp RX9 nm 4 0 c := zall2 (⟨RX6, TX6, 7, rfl, Or.inl rfl⟩) (⟨RX8, TX8, 10, rfl, Or.inl rfl⟩)
theorem zli_X9_28 : zlk zG ((⟨RX9, "", ""⟩ : MethodName), ⟨#[]⟩, 0, none, [], [], 0, 0, true) (0, .invokestatic 28, 1001, 2, [], 0, 0, []) := Or.inr (Or.inl ⟨rfl, zw590⟩)
theorem zli_X9_34 : zlk zG ((⟨RX9, "", ""⟩ : MethodName), ⟨#[]⟩, 0, none, [], [], 0, 0, true) (0, .invokestatic 34, 1000, 2, [], 0, 0, []) := Or.inl ⟨rfl, zw593⟩
theorem zlp_X9_15_n (nm : String) : ∀ c ∈ [6, 8], zfp RX9 nm 1 0 c := zall2 (⟨RX6, TX6, 7, rfl, Or.inl rfl⟩) (⟨RX8, TX8, 10, rfl, Or.inl rfl⟩)
theorem zli_X9_37 : zlk zG ((⟨RX9, "", ""⟩ : MethodName), ⟨#[]⟩, 0, none, [], [], 0, 0, true) (0, .invokestatic 37, 1003, 5, [], 0, 0, []) := Or.inr (Or.inr (Or.inr ⟨rfl, zw596⟩))
theorem zlp_X9_19_n (nm : String) : ∀ c ∈ [6, 8], zfp RX9 nm 2 0 c := zall2 (⟨RX6, TX6, 7, rfl, Or.inl rfl⟩) (⟨RX8, TX8, 10, rfl, Or.inl rfl⟩)
theorem zlp_X9_25_n (nm : String) : ∀ c ∈ [6, 8], zfp RX9 nm 4 0 c := zall2 (⟨RX6, TX6, 7, rfl, Or.inl rfl⟩) (⟨RX8, TX8, 10, rfl, Or.inl rfl⟩)
theorem zli_X9_43 : zlk zG ((⟨RX9, "", ""⟩ : MethodName), ⟨#[]⟩, 0, none, [], [], 0, 0, true) (0, .invokevirtual 43, 63, 1, [6, 8], 0, 0, []) := ⟨zall2 (⟨(RX6, TX6, 7), ⟨"BookBarge$Scanner", "skipBlanks", "()V"⟩, rfl, zw599, zw600, zw602, Or.inr ⟨rfl, zw601⟩⟩) (⟨(RX8, TX8, 10), ⟨"BookBarge$Scanner", "skipBlanks", "()V"⟩, rfl, zw599, zw600, zw603, Or.inr ⟨rfl, zw601⟩⟩), zcal63, by decide, by decide, zpn63⟩
theorem zn_b_32 : (Int8.ofInt 32).toInt32 = 32 := by decide +kernel
theorem zn_b_48 : (Int8.ofInt 48).toInt32 = 48 := by decide +kernel
theorem zn_b_57 : (Int8.ofInt 57).toInt32 = 57 := by decide +kernel
theorem zli_X9_46 : zlk zG ((⟨RX9, "", ""⟩ : MethodName), ⟨#[]⟩, 0, none, [], [], 0, 0, true) (0, .invokevirtual 46, 67, 1, [6, 8], 0, 0, []) := ⟨zall2 (⟨(RX6, TX6, 7), ⟨"BookBarge$Scanner", "takeByte", "()V"⟩, rfl, zw760, zw761, zw763, Or.inr ⟨rfl, zw762⟩⟩) (⟨(RX8, TX8, 10), ⟨"BookBarge$Scanner", "takeByte", "()V"⟩, rfl, zw760, zw761, zw764, Or.inr ⟨rfl, zw762⟩⟩), zcal67, by decide, by decide, zpn67⟩
theorem zli_X9_49 : zlk zG ((⟨RX9, "", ""⟩ : MethodName), ⟨#[]⟩, 0, none, [], [], 0, 0, true) (0, .invokevirtual 49, 64, 1, [6, 8], 0, 0, []) := ⟨zall2 (⟨(RX6, TX6, 7), ⟨"BookBarge$Scanner", "sign", "()I"⟩, rfl, zw748, zw749, zw751, Or.inr ⟨rfl, zw750⟩⟩) (⟨(RX8, TX8, 10), ⟨"BookBarge$Scanner", "sign", "()I"⟩, rfl, zw748, zw749, zw752, Or.inr ⟨rfl, zw750⟩⟩), zcal64, by decide, by decide, zpn64⟩
theorem zli_X9_53 : zlk zG ((⟨RX9, "", ""⟩ : MethodName), ⟨#[]⟩, 0, none, [], [], 0, 0, true) (0, .invokevirtual 53, 68, 1, [6, 8], 0, 0, []) := ⟨zall2 (⟨(RX6, TX6, 7), ⟨"BookBarge$Scanner", "takeSign", "()V"⟩, rfl, zw754, zw755, zw757, Or.inr ⟨rfl, zw756⟩⟩) (⟨(RX8, TX8, 10), ⟨"BookBarge$Scanner", "takeSign", "()V"⟩, rfl, zw754, zw755, zw758, Or.inr ⟨rfl, zw756⟩⟩), zcal68, by decide, by decide, zpn68⟩
theorem zlp_X9_22_n (nm : String) : ∀ c ∈ [6, 8], zfp RX9 nm 3 0 c := zall2 (⟨RX6, TX6, 7, rfl, Or.inl rfl⟩) (⟨RX8, TX8, 10, rfl, Or.inl rfl⟩)
theorem zli_X9_56 : zlk zG ((⟨RX9, "", ""⟩ : MethodName), ⟨#[]⟩, 0, none, [], [], 0, 0, true) (0, .invokevirtual 56, 66, 1, [6, 8], 0, 0, []) := ⟨zall2 (⟨(RX6, TX6, 7), ⟨"BookBarge$Scanner", "isAtDigit", "()Z"⟩, rfl, zw701, zw702, zw704, Or.inr ⟨rfl, zw703⟩⟩) (⟨(RX8, TX8, 10), ⟨"BookBarge$Scanner", "isAtDigit", "()Z"⟩, rfl, zw701, zw702, zw705, Or.inr ⟨rfl, zw703⟩⟩), zcal66, by decide, by decide, zpn66⟩
theorem zli_X9_60 : zlk zG ((⟨RX9, "", ""⟩ : MethodName), ⟨#[]⟩, 0, none, [], [], 0, 0, true) (0, .invokevirtual 60, 62, 3, [6, 8], 0, 0, []) := ⟨zall2 (⟨(RX6, TX6, 7), ⟨"BookBarge$Scanner", "wrong", "(II)Z"⟩, rfl, zw707, zw675, zw2137, Or.inr ⟨rfl, zw2136⟩⟩) (⟨(RX8, TX8, 10), ⟨"BookBarge$Scanner", "wrong", "(II)Z"⟩, rfl, zw707, zw675, zw2138, Or.inr ⟨rfl, zw2136⟩⟩), zcal62, by decide, by decide, zpn62⟩
theorem zn_b_122 : (Int8.ofInt 122).toInt32 = 122 := by decide +kernel
theorem zcal71 : zcal zm71 0 := ⟨zw622, zw145, by decide +kernel⟩
theorem zpn71 : plainName (zm71).1.cls = true := by decide +kernel
theorem zli_X9_64 : zlk zG ((⟨RX9, "", ""⟩ : MethodName), ⟨#[]⟩, 0, none, [], [], 0, 0, true) (0, .invokevirtual 64, 71, 1, [6, 8], 0, 0, []) := ⟨zall2 (⟨(RX6, TX6, 7), ⟨"BookBarge$Scanner", "wordEnd", "()I"⟩, rfl, zw619, zw621, zw2147, Or.inr ⟨rfl, zw2135⟩⟩) (⟨(RX8, TX8, 10), ⟨"BookBarge$Scanner", "wordEnd", "()I"⟩, rfl, zw619, zw621, zw2148, Or.inr ⟨rfl, zw2135⟩⟩), zcal71, by decide, by decide, zpn71⟩
theorem zli_X9_67 : zlk zG ((⟨RX9, "", ""⟩ : MethodName), ⟨#[]⟩, 0, none, [], [], 0, 0, true) (0, .invokevirtual 67, 1004, 1, [], 0, 0, []) := Or.inl ⟨rfl, zw623⟩
theorem zli_X9_71 : zlk zG ((⟨RX9, "", ""⟩ : MethodName), ⟨#[]⟩, 0, none, [], [], 0, 0, true) (0, .invokevirtual 71, 1005, 2, [], 0, 0, []) := Or.inr (Or.inl ⟨rfl, zw633⟩)
theorem zli_X9_75 : zlk zG ((⟨RX9, "", ""⟩ : MethodName), ⟨#[]⟩, 0, none, [], [], 0, 0, true) (0, .invokevirtual 75, 72, 2, [6, 8], 0, 0, []) := ⟨zall2 (⟨(RX6, TX6, 7), ⟨"BookBarge$Scanner", "wordAmong", "(Ljava/lang/String;)I"⟩, rfl, zw856, zw617, zw2140, Or.inr ⟨rfl, zw2139⟩⟩) (⟨(RX8, TX8, 10), ⟨"BookBarge$Scanner", "wordAmong", "(Ljava/lang/String;)I"⟩, rfl, zw856, zw617, zw2141, Or.inr ⟨rfl, zw2139⟩⟩), zcal72, by decide, by decide, zpn72⟩
theorem zli_X9_79 : zlk zG ((⟨RX9, "", ""⟩ : MethodName), ⟨#[]⟩, 0, none, [], [], 0, 0, true) (0, .invokevirtual 79, 73, 1, [6, 8], 0, 0, []) := ⟨zall2 (⟨(RX6, TX6, 7), ⟨"BookBarge$Scanner", "takeWord", "()V"⟩, rfl, zw857, zw685, zw2143, Or.inr ⟨rfl, zw2142⟩⟩) (⟨(RX8, TX8, 10), ⟨"BookBarge$Scanner", "takeWord", "()V"⟩, rfl, zw857, zw685, zw2144, Or.inr ⟨rfl, zw2142⟩⟩), zcal73, by decide, by decide, zpn73⟩
theorem zli_X10_3 : zlk zG ((⟨RX10, "", ""⟩ : MethodName), ⟨#[]⟩, 0, none, [], [], 0, 0, true) (0, .invokespecial 3, 1006, 1, [], 0, 0, []) := zw176
theorem zn_s_251 : (Int16.ofInt 251).toInt32 = 251 := by decide +kernel
theorem zlf_X10_11 : ∀ c ∈ [9], zfl RX10 11 0 2 c := zall1 (⟨RX10, TX10, 1, "BookBarge$World", rfl, by decide, zw177, Or.inl rfl, Or.inr ⟨_, rfl⟩⟩)
theorem zlp_X10_11_i : ∀ c ∈ [9], zfp RX10 "<init>" 0 0 c := zall1 (⟨RX10, TX10, 1, rfl, Or.inr ⟨rfl, rfl, rfl⟩⟩)
theorem zli_X10_15 : zlk zG ((⟨RX10, "", ""⟩ : MethodName), ⟨#[]⟩, 0, none, [], [], 0, 0, true) (0, .invokestatic 15, 1003, 5, [], 0, 0, []) := Or.inr (Or.inr (Or.inr ⟨rfl, zw781⟩))
theorem zli_X10_21 : zlk zG ((⟨RX10, "", ""⟩ : MethodName), ⟨#[]⟩, 0, none, [], [], 0, 0, true) (0, .invokevirtual 21, 78, 2, [9], 0, 0, []) := ⟨zall1 (⟨(RX10, TX10, 1), ⟨"BookBarge$World", "hasBarge", "(I)Z"⟩, rfl, zw1043, zw957, zw958, Or.inl ⟨rfl, by decide⟩⟩), zcal78, by decide, by decide, zpn78⟩
theorem zli_X10_25 : zlk zG ((⟨RX10, "", ""⟩ : MethodName), ⟨#[]⟩, 0, none, [], [], 0, 0, true) (0, .invokevirtual 25, 80, 2, [9], 0, 0, []) := ⟨zall1 (⟨(RX10, TX10, 1), ⟨"BookBarge$World", "hasStop", "(I)Z"⟩, rfl, zw947, zw940, zw941, Or.inl ⟨rfl, by decide⟩⟩), zcal80, by decide, by decide, zpn80⟩
theorem zn_b_90 : (Int8.ofInt 90).toInt32 = 90 := by decide +kernel
theorem zli_X10_28 : zlk zG ((⟨RX10, "", ""⟩ : MethodName), ⟨#[]⟩, 0, none, [], [], 0, 0, true) (0, .invokevirtual 28, 77, 3, [9], 0, 0, []) := ⟨zall1 (⟨(RX10, TX10, 1), ⟨"BookBarge$World", "cell", "(II)I"⟩, rfl, zw973, zw713, zw714, Or.inl ⟨rfl, by decide⟩⟩), zcal77, by decide, by decide, zpn77⟩
theorem zli_X10_32 : zlk zG ((⟨RX10, "", ""⟩ : MethodName), ⟨#[]⟩, 0, none, [], [], 0, 0, true) (0, .invokestatic 32, 1001, 2, [], 0, 0, []) := Or.inr (Or.inl ⟨rfl, zw1061⟩)
theorem zli_X10_37 : zlk zG ((⟨RX10, "", ""⟩ : MethodName), ⟨#[]⟩, 0, none, [], [], 0, 0, true) (0, .invokestatic 37, 1002, 1, [], 0, 0, []) := Or.inr (Or.inr (Or.inl ⟨rfl, zw981⟩))
theorem zli_X10_41 : zlk zG ((⟨RX10, "", ""⟩ : MethodName), ⟨#[]⟩, 0, none, [], [], 0, 0, true) (0, .invokevirtual 41, 91, 2, [9], 0, 0, []) := ⟨zall1 (⟨(RX10, TX10, 1), ⟨"BookBarge$World", "loadOf", "(I)I"⟩, rfl, zw969, zw970, zw971, Or.inl ⟨rfl, by decide⟩⟩), zcal91, by decide, by decide, zpn91⟩
theorem zli_X10_44 : zlk zG ((⟨RX10, "", ""⟩ : MethodName), ⟨#[]⟩, 0, none, [], [], 0, 0, true) (0, .invokevirtual 44, 92, 2, [9], 0, 0, []) := ⟨zall1 (⟨(RX10, TX10, 1), ⟨"BookBarge$World", "tiltOf", "(I)I"⟩, rfl, zw974, zw975, zw976, Or.inl ⟨rfl, by decide⟩⟩), zcal92, by decide, by decide, zpn92⟩
theorem zli_X10_47 : zlk zG ((⟨RX10, "", ""⟩ : MethodName), ⟨#[]⟩, 0, none, [], [], 0, 0, true) (0, .invokestatic 47, 93, 4, [], 0, 0, []) := ⟨zw978, zw979, zcal93, by decide, zpn93⟩
theorem zli_X10_51 : zlk zG ((⟨RX10, "", ""⟩ : MethodName), ⟨#[]⟩, 0, none, [], [], 0, 0, true) (0, .invokevirtual 51, 86, 2, [9], 0, 0, []) := ⟨zall1 (⟨(RX10, TX10, 1), ⟨"BookBarge$World", "depthOf", "(I)I"⟩, rfl, zw964, zw944, zw945, Or.inl ⟨rfl, by decide⟩⟩), zcal86, by decide, by decide, zpn86⟩
theorem zli_X10_54 : zlk zG ((⟨RX10, "", ""⟩ : MethodName), ⟨#[]⟩, 0, none, [], [], 0, 0, true) (0, .invokevirtual 54, 94, 2, [9], 0, 0, []) := ⟨zall1 (⟨(RX10, TX10, 1), ⟨"BookBarge$World", "draughtOf", "(I)I"⟩, rfl, zw965, zw966, zw967, Or.inl ⟨rfl, by decide⟩⟩), zcal94, by decide, by decide, zpn94⟩
theorem zli_X10_57 : zlk zG ((⟨RX10, "", ""⟩ : MethodName), ⟨#[]⟩, 0, none, [], [], 0, 0, true) (0, .invokevirtual 57, 79, 2, [9], 0, 0, []) := ⟨zall1 (⟨(RX10, TX10, 1), ⟨"BookBarge$World", "hasBook", "(I)Z"⟩, rfl, zw1020, zw932, zw933, Or.inl ⟨rfl, by decide⟩⟩), zcal79, by decide, by decide, zpn79⟩
theorem zn_b_101 : (Int8.ofInt 101).toInt32 = 101 := by decide +kernel
theorem zli_X10_60 : zlk zG ((⟨RX10, "", ""⟩ : MethodName), ⟨#[]⟩, 0, none, [], [], 0, 0, true) (0, .invokevirtual 60, 81, 2, [9], 0, 0, []) := ⟨zall1 (⟨(RX10, TX10, 1), ⟨"BookBarge$World", "hasReader", "(I)Z"⟩, rfl, zw1038, zw993, zw994, Or.inl ⟨rfl, by decide⟩⟩), zcal81, by decide, by decide, zpn81⟩
theorem zn_s_200 : (Int16.ofInt 200).toInt32 = 200 := by decide +kernel
theorem zcal82 : zcal zm82 1 := ⟨zw1098, zw144, by decide +kernel⟩
theorem zpn82 : plainName (zm82).1.cls = true := by decide +kernel
theorem zli_X10_63 : zlk zG ((⟨RX10, "", ""⟩ : MethodName), ⟨#[]⟩, 0, none, [], [], 0, 0, true) (0, .invokevirtual 63, 82, 2, [9], 0, 0, []) := ⟨zall1 (⟨(RX10, TX10, 1), ⟨"BookBarge$World", "hasHole", "(I)Z"⟩, rfl, zw1095, zw1096, zw1097, Or.inl ⟨rfl, by decide⟩⟩), zcal82, by decide, by decide, zpn82⟩
theorem zli_X10_66 : zlk zG ((⟨RX10, "", ""⟩ : MethodName), ⟨#[]⟩, 0, none, [], [], 0, 0, true) (0, .invokevirtual 66, 96, 2, [9], 0, 0, []) := ⟨zall1 (⟨(RX10, TX10, 1), ⟨"BookBarge$World", "bargeOf", "(I)I"⟩, rfl, zw1111, zw1017, zw1018, Or.inl ⟨rfl, by decide⟩⟩), zcal96, by decide, by decide, zpn96⟩
theorem zli_X10_69 : zlk zG ((⟨RX10, "", ""⟩ : MethodName), ⟨#[]⟩, 0, none, [], [], 0, 0, true) (0, .invokevirtual 69, 87, 3, [9], 0, 0, []) := ⟨zall1 (⟨(RX10, TX10, 1), ⟨"BookBarge$World", "coins", "(II)I"⟩, rfl, zw1044, zw1001, zw1002, Or.inl ⟨rfl, by decide⟩⟩), zcal87, by decide, by decide, zpn87⟩
theorem zli_X10_72 : zlk zG ((⟨RX10, "", ""⟩ : MethodName), ⟨#[]⟩, 0, none, [], [], 0, 0, true) (0, .invokevirtual 72, 108, 4, [9], 0, 0, []) := ⟨zall1 (⟨(RX10, TX10, 1), ⟨"BookBarge$World", "putAboard", "(III)V"⟩, rfl, zw1062, zw1063, zw1064, Or.inl ⟨rfl, by decide⟩⟩), zcal108, by decide, by decide, zpn108⟩
theorem zli_X10_76 : zlk zG ((⟨RX10, "", ""⟩ : MethodName), ⟨#[]⟩, 0, none, [], [], 0, 0, true) (0, .invokevirtual 76, 103, 2, [9], 0, 0, []) := ⟨zall1 (⟨(RX10, TX10, 1), ⟨"BookBarge$World", "isOpen", "(I)Z"⟩, rfl, zw1091, zw1092, zw1093, Or.inl ⟨rfl, by decide⟩⟩), zcal103, by decide, by decide, zpn103⟩
theorem zcal110 : zcal zm110 1 := ⟨zw1110, zw144, by decide +kernel⟩
theorem zpn110 : plainName (zm110).1.cls = true := by decide +kernel
theorem zli_X10_79 : zlk zG ((⟨RX10, "", ""⟩ : MethodName), ⟨#[]⟩, 0, none, [], [], 0, 0, true) (0, .invokevirtual 79, 110, 2, [9], 0, 0, []) := ⟨zall1 (⟨(RX10, TX10, 1), ⟨"BookBarge$World", "canBeWetter", "(I)Z"⟩, rfl, zw1107, zw1108, zw1109, Or.inl ⟨rfl, by decide⟩⟩), zcal110, by decide, by decide, zpn110⟩
theorem zlt_4_10 : (4 : Nat) < 10 := by decide +kernel
theorem zlt_5_10 : (5 : Nat) < 10 := by decide +kernel
theorem zli_X10_82 : zlk zG ((⟨RX10, "", ""⟩ : MethodName), ⟨#[]⟩, 0, none, [], [], 0, 0, true) (0, .invokevirtual 82, 89, 3, [9], 0, 0, []) := ⟨zall1 (⟨(RX10, TX10, 1), ⟨"BookBarge$World", "arm", "(II)I"⟩, rfl, zw1304, zw1249, zw1250, Or.inl ⟨rfl, by decide⟩⟩), zcal89, by decide, by decide, zpn89⟩
theorem zlt_6_10 : (6 : Nat) < 10 := by decide +kernel
theorem zlt_7_10 : (7 : Nat) < 10 := by decide +kernel
theorem zlt_8_10 : (8 : Nat) < 10 := by decide +kernel
theorem zlt_9_10 : (9 : Nat) < 10 := by decide +kernel
theorem zli_X11_1 : zlk zG ((⟨RX11, "", ""⟩ : MethodName), ⟨#[]⟩, 0, none, [], [], 0, 0, true) (0, .invokespecial 1, 1006, 1, [], 0, 0, []) := zw168
theorem zlf_X11_9 : ∀ c ∈ [10], zfl RX11 9 0 2 c := zall1 (⟨RX11, TX11, 17, "BookBarge", rfl, by decide, zw512, Or.inl rfl, Or.inr ⟨_, rfl⟩⟩)
theorem zlp_X11_9_i : ∀ c ∈ [10], zfp RX11 "<init>" 0 0 c := zall1 (⟨RX11, TX11, 17, rfl, Or.inr ⟨rfl, rfl, rfl⟩⟩)
theorem zlf_X11_13 : ∀ c ∈ [10], zfl RX11 13 1 0 c := zall1 (⟨RX11, TX11, 17, "BookBarge", rfl, by decide, zw513, Or.inl rfl, rfl⟩)
theorem zlp_X11_13_i (nm : String) : ∀ c ∈ [10], zfp RX11 nm 1 0 c := zall1 (⟨RX11, TX11, 17, rfl, Or.inl rfl⟩)
theorem zli_X11_19 : zlk zG ((⟨RX11, "", ""⟩ : MethodName), ⟨#[]⟩, 0, none, [], [], 0, 0, true) (0, .invokespecial 19, 75, 1, [9], 0, 0, []) := ⟨rfl, rfl, Or.inr ⟨"BookBarge", List.mem_of_getElem? (i := 173) (by decide +kernel)⟩, zw174, zcal75, by decide, by decide, zpn75⟩
theorem zlf_X11_20 : ∀ c ∈ [10], zfl RX11 20 2 2 c := zall1 (⟨RX11, TX11, 17, "BookBarge", rfl, by decide, zw514, Or.inl rfl, Or.inl ⟨_, rfl⟩⟩)
theorem zlp_X11_20_i : ∀ c ∈ [10], zfp RX11 "<init>" 2 0 c := zall1 (⟨RX11, TX11, 17, rfl, Or.inr ⟨rfl, rfl, rfl⟩⟩)
theorem zlf_X11_24 : ∀ c ∈ [10], zfl RX11 24 3 2 c := zall1 (⟨RX11, TX11, 17, "BookBarge", rfl, by decide, zw515, Or.inl rfl, Or.inr ⟨_, rfl⟩⟩)
theorem zlp_X11_24_i : ∀ c ∈ [10], zfp RX11 "<init>" 3 0 c := zall1 (⟨RX11, TX11, 17, rfl, Or.inr ⟨rfl, rfl, rfl⟩⟩)
theorem zlf_X11_30 : ∀ c ∈ [10], zfl RX11 30 4 2 c := zall1 (⟨RX11, TX11, 17, "BookBarge", rfl, by decide, zw516, Or.inl rfl, Or.inr ⟨_, rfl⟩⟩)
theorem zlp_X11_30_i : ∀ c ∈ [10], zfp RX11 "<init>" 4 0 c := zall1 (⟨RX11, TX11, 17, rfl, Or.inr ⟨rfl, rfl, rfl⟩⟩)
theorem zlf_X11_34 : ∀ c ∈ [10], zfl RX11 34 5 0 c := zall1 (⟨RX11, TX11, 17, "BookBarge", rfl, by decide, zw517, Or.inl rfl, rfl⟩)
theorem zlp_X11_34_i (nm : String) : ∀ c ∈ [10], zfp RX11 nm 5 0 c := zall1 (⟨RX11, TX11, 17, rfl, Or.inl rfl⟩)
theorem zn_s_1660 : (Int16.ofInt 1660).toInt32 = 1660 := by decide +kernel
theorem zlf_X11_37 : ∀ c ∈ [10], zfl RX11 37 6 2 c := zall1 (⟨RX11, TX11, 17, "BookBarge", rfl, by decide, zw518, Or.inl rfl, Or.inr ⟨_, rfl⟩⟩)
theorem zlp_X11_37_i : ∀ c ∈ [10], zfp RX11 "<init>" 6 0 c := zall1 (⟨RX11, TX11, 17, rfl, Or.inr ⟨rfl, rfl, rfl⟩⟩)
theorem zlf_X11_40 : ∀ c ∈ [10], zfl RX11 40 7 0 c := zall1 (⟨RX11, TX11, 17, "BookBarge", rfl, by decide, zw519, Or.inl rfl, rfl⟩)
theorem zlp_X11_40_i (nm : String) : ∀ c ∈ [10], zfp RX11 nm 7 0 c := zall1 (⟨RX11, TX11, 17, rfl, Or.inl rfl⟩)
theorem zlf_X11_43 : ∀ c ∈ [10], zfl RX11 43 8 0 c := zall1 (⟨RX11, TX11, 17, "BookBarge", rfl, by decide, zw520, Or.inl rfl, rfl⟩)
theorem zlp_X11_43_i (nm : String) : ∀ c ∈ [10], zfp RX11 nm 8 0 c := zall1 (⟨RX11, TX11, 17, rfl, Or.inl rfl⟩)
theorem zcal31 : zcal zm31 0 := ⟨zw192, zw146, by decide +kernel⟩
theorem zpn31 : plainName (zm31).1.cls = true := by decide +kernel
theorem zli_X11_48 : zlk zG ((⟨RX11, "", ""⟩ : MethodName), ⟨#[]⟩, 0, none, [], [], 0, 0, true) (0, .invokespecial 48, 31, 1, [6], 0, 0, []) := ⟨rfl, rfl, Or.inr ⟨"BookBarge", List.mem_of_getElem? (i := 190) (by decide +kernel)⟩, zw191, zcal31, by decide, by decide, zpn31⟩
theorem zlf_X11_49 : ∀ c ∈ [10], zfl RX11 49 9 2 c := zall1 (⟨RX11, TX11, 17, "BookBarge", rfl, by decide, zw521, Or.inl rfl, Or.inl ⟨_, rfl⟩⟩)
theorem zlp_X11_49_i : ∀ c ∈ [10], zfp RX11 "<init>" 9 0 c := zall1 (⟨RX11, TX11, 17, rfl, Or.inr ⟨rfl, rfl, rfl⟩⟩)
theorem zcal49 : zcal zm49 0 := ⟨zw238, zw147, by decide +kernel⟩
theorem zpn49 : plainName (zm49).1.cls = true := by decide +kernel
theorem zli_X11_55 : zlk zG ((⟨RX11, "", ""⟩ : MethodName), ⟨#[]⟩, 0, none, [], [], 0, 0, true) (0, .invokespecial 55, 49, 1, [8], 0, 0, []) := ⟨rfl, rfl, Or.inr ⟨"BookBarge", List.mem_of_getElem? (i := 236) (by decide +kernel)⟩, zw237, zcal49, by decide, by decide, zpn49⟩
theorem zlf_X11_56 : ∀ c ∈ [10], zfl RX11 56 10 2 c := zall1 (⟨RX11, TX11, 17, "BookBarge", rfl, by decide, zw522, Or.inl rfl, Or.inl ⟨_, rfl⟩⟩)
theorem zlp_X11_56_i : ∀ c ∈ [10], zfp RX11 "<init>" 10 0 c := zall1 (⟨RX11, TX11, 17, rfl, Or.inr ⟨rfl, rfl, rfl⟩⟩)
theorem zcal4 : zcal zm4 0 := ⟨zw265, zw148, by decide +kernel⟩
theorem zpn4 : plainName (zm4).1.cls = true := by decide +kernel
theorem zli_X11_62 : zlk zG ((⟨RX11, "", ""⟩ : MethodName), ⟨#[]⟩, 0, none, [], [], 0, 0, true) (0, .invokespecial 62, 4, 1, [1], 0, 0, []) := ⟨rfl, rfl, Or.inr ⟨"BookBarge", List.mem_of_getElem? (i := 263) (by decide +kernel)⟩, zw264, zcal4, by decide, by decide, zpn4⟩
theorem zlf_X11_63 : ∀ c ∈ [10], zfl RX11 63 11 2 c := zall1 (⟨RX11, TX11, 17, "BookBarge", rfl, by decide, zw523, Or.inl rfl, Or.inl ⟨_, rfl⟩⟩)
theorem zlp_X11_63_i : ∀ c ∈ [10], zfp RX11 "<init>" 11 0 c := zall1 (⟨RX11, TX11, 17, rfl, Or.inr ⟨rfl, rfl, rfl⟩⟩)
theorem zcal17 : zcal zm17 0 := ⟨zw309, zw149, by decide +kernel⟩
theorem zpn17 : plainName (zm17).1.cls = true := by decide +kernel
theorem zli_X11_69 : zlk zG ((⟨RX11, "", ""⟩ : MethodName), ⟨#[]⟩, 0, none, [], [], 0, 0, true) (0, .invokespecial 69, 17, 1, [2], 0, 0, []) := ⟨rfl, rfl, Or.inr ⟨"BookBarge", List.mem_of_getElem? (i := 307) (by decide +kernel)⟩, zw308, zcal17, by decide, by decide, zpn17⟩
theorem zlf_X11_70 : ∀ c ∈ [10], zfl RX11 70 12 2 c := zall1 (⟨RX11, TX11, 17, "BookBarge", rfl, by decide, zw524, Or.inl rfl, Or.inl ⟨_, rfl⟩⟩)
theorem zlp_X11_70_i : ∀ c ∈ [10], zfp RX11 "<init>" 12 0 c := zall1 (⟨RX11, TX11, 17, rfl, Or.inr ⟨rfl, rfl, rfl⟩⟩)
theorem zcal20 : zcal zm20 0 := ⟨zw345, zw150, by decide +kernel⟩
theorem zpn20 : plainName (zm20).1.cls = true := by decide +kernel
theorem zli_X11_76 : zlk zG ((⟨RX11, "", ""⟩ : MethodName), ⟨#[]⟩, 0, none, [], [], 0, 0, true) (0, .invokespecial 76, 20, 1, [3], 0, 0, []) := ⟨rfl, rfl, Or.inr ⟨"BookBarge", List.mem_of_getElem? (i := 343) (by decide +kernel)⟩, zw344, zcal20, by decide, by decide, zpn20⟩
theorem zlf_X11_77 : ∀ c ∈ [10], zfl RX11 77 13 2 c := zall1 (⟨RX11, TX11, 17, "BookBarge", rfl, by decide, zw525, Or.inl rfl, Or.inl ⟨_, rfl⟩⟩)
theorem zlp_X11_77_i : ∀ c ∈ [10], zfp RX11 "<init>" 13 0 c := zall1 (⟨RX11, TX11, 17, rfl, Or.inr ⟨rfl, rfl, rfl⟩⟩)
theorem zcal25 : zcal zm25 0 := ⟨zw404, zw151, by decide +kernel⟩
theorem zpn25 : plainName (zm25).1.cls = true := by decide +kernel
theorem zli_X11_83 : zlk zG ((⟨RX11, "", ""⟩ : MethodName), ⟨#[]⟩, 0, none, [], [], 0, 0, true) (0, .invokespecial 83, 25, 1, [4], 0, 0, []) := ⟨rfl, rfl, Or.inr ⟨"BookBarge", List.mem_of_getElem? (i := 402) (by decide +kernel)⟩, zw403, zcal25, by decide, by decide, zpn25⟩
theorem zlf_X11_84 : ∀ c ∈ [10], zfl RX11 84 14 2 c := zall1 (⟨RX11, TX11, 17, "BookBarge", rfl, by decide, zw526, Or.inl rfl, Or.inl ⟨_, rfl⟩⟩)
theorem zlp_X11_84_i : ∀ c ∈ [10], zfp RX11 "<init>" 14 0 c := zall1 (⟨RX11, TX11, 17, rfl, Or.inr ⟨rfl, rfl, rfl⟩⟩)
theorem zcal0 : zcal zm0 0 := ⟨zw445, zw152, by decide +kernel⟩
theorem zpn0 : plainName (zm0).1.cls = true := by decide +kernel
theorem zli_X11_90 : zlk zG ((⟨RX11, "", ""⟩ : MethodName), ⟨#[]⟩, 0, none, [], [], 0, 0, true) (0, .invokespecial 90, 0, 1, [0], 0, 0, []) := ⟨rfl, rfl, Or.inr ⟨"BookBarge", List.mem_of_getElem? (i := 443) (by decide +kernel)⟩, zw444, zcal0, by decide, by decide, zpn0⟩
theorem zlf_X11_91 : ∀ c ∈ [10], zfl RX11 91 15 2 c := zall1 (⟨RX11, TX11, 17, "BookBarge", rfl, by decide, zw527, Or.inl rfl, Or.inl ⟨_, rfl⟩⟩)
theorem zlp_X11_91_i : ∀ c ∈ [10], zfp RX11 "<init>" 15 0 c := zall1 (⟨RX11, TX11, 17, rfl, Or.inr ⟨rfl, rfl, rfl⟩⟩)
theorem zcal28 : zcal zm28 0 := ⟨zw488, zw153, by decide +kernel⟩
theorem zpn28 : plainName (zm28).1.cls = true := by decide +kernel
theorem zli_X11_97 : zlk zG ((⟨RX11, "", ""⟩ : MethodName), ⟨#[]⟩, 0, none, [], [], 0, 0, true) (0, .invokespecial 97, 28, 1, [5], 0, 0, []) := ⟨rfl, rfl, Or.inr ⟨"BookBarge", List.mem_of_getElem? (i := 486) (by decide +kernel)⟩, zw487, zcal28, by decide, by decide, zpn28⟩
theorem zlf_X11_98 : ∀ c ∈ [10], zfl RX11 98 16 2 c := zall1 (⟨RX11, TX11, 17, "BookBarge", rfl, by decide, zw528, Or.inl rfl, Or.inl ⟨_, rfl⟩⟩)
theorem zlp_X11_98_i : ∀ c ∈ [10], zfp RX11 "<init>" 16 0 c := zall1 (⟨RX11, TX11, 17, rfl, Or.inr ⟨rfl, rfl, rfl⟩⟩)
theorem zn_b_20 : (Int8.ofInt 20).toInt32 = 20 := by decide +kernel
theorem zcal116 : zcal zm116 1 := ⟨zw571, zw143, by decide +kernel⟩
theorem zpn116 : plainName (zm116).1.cls = true := by decide +kernel
theorem zli_X11_102 : zlk zG ((⟨RX11, "", ""⟩ : MethodName), ⟨#[]⟩, 0, none, [], [], 0, 0, true) (0, .invokevirtual 102, 116, 2, [10], 0, 0, []) := ⟨zall1 (⟨(RX11, TX11, 17), ⟨"BookBarge", "appendFour", "(I)V"⟩, rfl, zw568, zw570, zw0, Or.inl ⟨rfl, by decide⟩⟩), zcal116, by decide, by decide, zpn116⟩
theorem zn_b_24 : (Int8.ofInt 24).toInt32 = 24 := by decide +kernel
theorem zn_s_255 : (Int16.ofInt 255).toInt32 = 255 := by decide +kernel
theorem zlp_X11_13_n (nm : String) : ∀ c ∈ [10], zfp RX11 nm 1 0 c := zall1 (⟨RX11, TX11, 17, rfl, Or.inl rfl⟩)
theorem zn_i_m8 : Int32.ofInt (-8) = (-8) := by decide +kernel
theorem zcal32 : zcal zm32 2 := ⟨zw583, zw146, by decide +kernel⟩
theorem zpn32 : plainName (zm32).1.cls = true := by decide +kernel
theorem zli_X11_106 : zlk zG ((⟨RX11, "", ""⟩ : MethodName), ⟨#[]⟩, 0, none, [], [], 0, 0, true) (0, .invokevirtual 106, 32, 3, [6], 0, 0, []) := ⟨zall1 (⟨(RX6, TX6, 7), ⟨"BookBarge$RiverParser", "parse", "([II)I"⟩, rfl, zw580, zw581, zw582, Or.inl ⟨rfl, by decide⟩⟩), zcal32, by decide, by decide, zpn32⟩
theorem zn_b_m2 : (Int8.ofInt (-2)).toInt32 = (-2) := by decide +kernel
theorem zli_X11_110 : zlk zG ((⟨RX11, "", ""⟩ : MethodName), ⟨#[]⟩, 0, none, [], [], 0, 0, true) (0, .invokevirtual 110, 77, 3, [9], 0, 0, []) := ⟨zall1 (⟨(RX10, TX10, 1), ⟨"BookBarge$World", "cell", "(II)I"⟩, rfl, zw776, zw713, zw714, Or.inl ⟨rfl, by decide⟩⟩), zcal77, by decide, by decide, zpn77⟩
theorem zlf_X11_114 : ∀ c ∈ [6], zfl RX11 114 5 2 c := zall1 (⟨RX6, TX6, 7, "BookBarge$RiverParser", rfl, by decide, zw200, Or.inl rfl, Or.inl ⟨_, rfl⟩⟩)
theorem zli_X11_117 : zlk zG ((⟨RX11, "", ""⟩ : MethodName), ⟨#[]⟩, 0, none, [], [], 0, 0, true) (0, .invokevirtual 117, 76, 2, [9], 0, 0, []) := ⟨zall1 (⟨(RX10, TX10, 1), ⟨"BookBarge$World", "copy", "(LBookBarge$World;)V"⟩, rfl, zw777, zw778, zw779, Or.inl ⟨rfl, by decide⟩⟩), zcal76, by decide, by decide, zpn76⟩
theorem zlf_X11_121 : ∀ c ∈ [9], zfl RX11 121 0 2 c := zall1 (⟨RX10, TX10, 1, "BookBarge$World", rfl, by decide, zw179, Or.inl rfl, Or.inr ⟨_, rfl⟩⟩)
theorem zcal139 : zcal zm139 0 := ⟨zw785, zw143, by decide +kernel⟩
theorem zpn139 : plainName (zm139).1.cls = true := by decide +kernel
theorem zli_X11_124 : zlk zG ((⟨RX11, "", ""⟩ : MethodName), ⟨#[]⟩, 0, none, [], [], 0, 0, true) (0, .invokevirtual 124, 139, 1, [10], 0, 0, []) := ⟨zall1 (⟨(RX11, TX11, 17), ⟨"BookBarge", "forgetActs", "()V"⟩, rfl, zw782, zw784, zw11, Or.inl ⟨rfl, by decide⟩⟩), zcal139, by decide, by decide, zpn139⟩
theorem zcal50 : zcal zm50 2 := ⟨zw794, zw147, by decide +kernel⟩
theorem zpn50 : plainName (zm50).1.cls = true := by decide +kernel
theorem zli_X11_127 : zlk zG ((⟨RX11, "", ""⟩ : MethodName), ⟨#[]⟩, 0, none, [], [], 0, 0, true) (0, .invokevirtual 127, 50, 3, [8], 0, 0, []) := ⟨zall1 (⟨(RX8, TX8, 10), ⟨"BookBarge$RuleParser", "parse", "([II)I"⟩, rfl, zw791, zw792, zw793, Or.inl ⟨rfl, by decide⟩⟩), zcal50, by decide, by decide, zpn50⟩
theorem zcal51 : zcal zm51 0 := ⟨zw898, zw147, by decide +kernel⟩
theorem zpn51 : plainName (zm51).1.cls = true := by decide +kernel
theorem zli_X11_128 : zlk zG ((⟨RX11, "", ""⟩ : MethodName), ⟨#[]⟩, 0, none, [], [], 0, 0, true) (0, .invokevirtual 128, 51, 1, [8], 0, 0, []) := ⟨zall1 (⟨(RX8, TX8, 10), ⟨"BookBarge$RuleParser", "made", "()LBookBarge$Rule;"⟩, rfl, zw895, zw896, zw897, Or.inl ⟨rfl, by decide⟩⟩), zcal51, by decide, by decide, zpn51⟩
theorem zlp_X11_34_n (nm : String) : ∀ c ∈ [10], zfp RX11 nm 5 0 c := zall1 (⟨RX11, TX11, 17, rfl, Or.inl rfl⟩)
theorem zli_X11_132 : zlk zG ((⟨RX11, "", ""⟩ : MethodName), ⟨#[]⟩, 0, none, [], [], 0, 0, true) (0, .invokevirtual 132, 79, 2, [9], 0, 0, []) := ⟨zall1 (⟨(RX10, TX10, 1), ⟨"BookBarge$World", "hasBook", "(I)Z"⟩, rfl, zw931, zw932, zw933, Or.inl ⟨rfl, by decide⟩⟩), zcal79, by decide, by decide, zpn79⟩
theorem zli_X11_136 : zlk zG ((⟨RX11, "", ""⟩ : MethodName), ⟨#[]⟩, 0, none, [], [], 0, 0, true) (0, .invokevirtual 136, 80, 2, [9], 0, 0, []) := ⟨zall1 (⟨(RX10, TX10, 1), ⟨"BookBarge$World", "hasStop", "(I)Z"⟩, rfl, zw939, zw940, zw941, Or.inl ⟨rfl, by decide⟩⟩), zcal80, by decide, by decide, zpn80⟩
theorem zli_X11_139 : zlk zG ((⟨RX11, "", ""⟩ : MethodName), ⟨#[]⟩, 0, none, [], [], 0, 0, true) (0, .invokevirtual 139, 86, 2, [9], 0, 0, []) := ⟨zall1 (⟨(RX10, TX10, 1), ⟨"BookBarge$World", "depthOf", "(I)I"⟩, rfl, zw943, zw944, zw945, Or.inl ⟨rfl, by decide⟩⟩), zcal86, by decide, by decide, zpn86⟩
theorem zcal97 : zcal zm97 1 := ⟨zw951, zw144, by decide +kernel⟩
theorem zpn97 : plainName (zm97).1.cls = true := by decide +kernel
theorem zli_X11_143 : zlk zG ((⟨RX11, "", ""⟩ : MethodName), ⟨#[]⟩, 0, none, [], [], 0, 0, true) (0, .invokevirtual 143, 97, 2, [9], 0, 0, []) := ⟨zall1 (⟨(RX10, TX10, 1), ⟨"BookBarge$World", "booksAt", "(I)I"⟩, rfl, zw948, zw949, zw950, Or.inl ⟨rfl, by decide⟩⟩), zcal97, by decide, by decide, zpn97⟩
theorem zcal122 : zcal zm122 2 := ⟨zw955, zw143, by decide +kernel⟩
theorem zpn122 : plainName (zm122).1.cls = true := by decide +kernel
theorem zli_X11_146 : zlk zG ((⟨RX11, "", ""⟩ : MethodName), ⟨#[]⟩, 0, none, [], [], 0, 0, true) (0, .invokevirtual 146, 122, 3, [10], 0, 0, []) := ⟨zall1 (⟨(RX11, TX11, 17), ⟨"BookBarge", "passing", "(II)I"⟩, rfl, zw952, zw954, zw20, Or.inl ⟨rfl, by decide⟩⟩), zcal122, by decide, by decide, zpn122⟩
theorem zcal98 : zcal zm98 1 := ⟨zw987, zw144, by decide +kernel⟩
theorem zpn98 : plainName (zm98).1.cls = true := by decide +kernel
theorem zli_X11_149 : zlk zG ((⟨RX11, "", ""⟩ : MethodName), ⟨#[]⟩, 0, none, [], [], 0, 0, true) (0, .invokevirtual 149, 98, 2, [9], 0, 0, []) := ⟨zall1 (⟨(RX10, TX10, 1), ⟨"BookBarge$World", "readersAt", "(I)I"⟩, rfl, zw984, zw985, zw986, Or.inl ⟨rfl, by decide⟩⟩), zcal98, by decide, by decide, zpn98⟩
theorem zli_X11_152 : zlk zG ((⟨RX11, "", ""⟩ : MethodName), ⟨#[]⟩, 0, none, [], [], 0, 0, true) (0, .invokevirtual 152, 78, 2, [9], 0, 0, []) := ⟨zall1 (⟨(RX10, TX10, 1), ⟨"BookBarge$World", "hasBarge", "(I)Z"⟩, rfl, zw956, zw957, zw958, Or.inl ⟨rfl, by decide⟩⟩), zcal78, by decide, by decide, zpn78⟩
theorem zcal95 : zcal zm95 2 := ⟨zw963, zw144, by decide +kernel⟩
theorem zpn95 : plainName (zm95).1.cls = true := by decide +kernel
theorem zli_X11_155 : zlk zG ((⟨RX11, "", ""⟩ : MethodName), ⟨#[]⟩, 0, none, [], [], 0, 0, true) (0, .invokevirtual 155, 95, 3, [9], 0, 0, []) := ⟨zall1 (⟨(RX10, TX10, 1), ⟨"BookBarge$World", "passes", "(II)Z"⟩, rfl, zw960, zw961, zw962, Or.inl ⟨rfl, by decide⟩⟩), zcal95, by decide, by decide, zpn95⟩
theorem zli_X11_159 : zlk zG ((⟨RX11, "", ""⟩ : MethodName), ⟨#[]⟩, 0, none, [], [], 0, 0, true) (0, .invokevirtual 159, 81, 2, [9], 0, 0, []) := ⟨zall1 (⟨(RX10, TX10, 1), ⟨"BookBarge$World", "hasReader", "(I)Z"⟩, rfl, zw992, zw993, zw994, Or.inl ⟨rfl, by decide⟩⟩), zcal81, by decide, by decide, zpn81⟩
theorem zli_X11_162 : zlk zG ((⟨RX11, "", ""⟩ : MethodName), ⟨#[]⟩, 0, none, [], [], 0, 0, true) (0, .invokevirtual 162, 87, 3, [9], 0, 0, []) := ⟨zall1 (⟨(RX10, TX10, 1), ⟨"BookBarge$World", "coins", "(II)I"⟩, rfl, zw1000, zw1001, zw1002, Or.inl ⟨rfl, by decide⟩⟩), zcal87, by decide, by decide, zpn87⟩
theorem zli_X11_166 : zlk zG ((⟨RX11, "", ""⟩ : MethodName), ⟨#[]⟩, 0, none, [], [], 0, 0, true) (0, .invokevirtual 166, 91, 2, [9], 0, 0, []) := ⟨zall1 (⟨(RX10, TX10, 1), ⟨"BookBarge$World", "loadOf", "(I)I"⟩, rfl, zw1009, zw970, zw971, Or.inl ⟨rfl, by decide⟩⟩), zcal91, by decide, by decide, zpn91⟩
theorem zli_X11_169 : zlk zG ((⟨RX11, "", ""⟩ : MethodName), ⟨#[]⟩, 0, none, [], [], 0, 0, true) (0, .invokevirtual 169, 92, 2, [9], 0, 0, []) := ⟨zall1 (⟨(RX10, TX10, 1), ⟨"BookBarge$World", "tiltOf", "(I)I"⟩, rfl, zw1010, zw975, zw976, Or.inl ⟨rfl, by decide⟩⟩), zcal92, by decide, by decide, zpn92⟩
theorem zli_X11_172 : zlk zG ((⟨RX11, "", ""⟩ : MethodName), ⟨#[]⟩, 0, none, [], [], 0, 0, true) (0, .invokevirtual 172, 94, 2, [9], 0, 0, []) := ⟨zall1 (⟨(RX10, TX10, 1), ⟨"BookBarge$World", "draughtOf", "(I)I"⟩, rfl, zw1011, zw966, zw967, Or.inl ⟨rfl, by decide⟩⟩), zcal94, by decide, by decide, zpn94⟩
theorem zli_X11_175 : zlk zG ((⟨RX11, "", ""⟩ : MethodName), ⟨#[]⟩, 0, none, [], [], 0, 0, true) (0, .invokevirtual 175, 96, 2, [9], 0, 0, []) := ⟨zall1 (⟨(RX10, TX10, 1), ⟨"BookBarge$World", "bargeOf", "(I)I"⟩, rfl, zw1016, zw1017, zw1018, Or.inl ⟨rfl, by decide⟩⟩), zcal96, by decide, by decide, zpn96⟩
theorem zcal138 : zcal zm138 0 := ⟨zw1024, zw143, by decide +kernel⟩
theorem zpn138 : plainName (zm138).1.cls = true := by decide +kernel
theorem zli_X11_178 : zlk zG ((⟨RX11, "", ""⟩ : MethodName), ⟨#[]⟩, 0, none, [], [], 0, 0, true) (0, .invokevirtual 178, 138, 1, [10], 0, 0, []) := ⟨zall1 (⟨(RX11, TX11, 17), ⟨"BookBarge", "remember", "()V"⟩, rfl, zw1021, zw1023, zw21, Or.inl ⟨rfl, by decide⟩⟩), zcal138, by decide, by decide, zpn138⟩
theorem zli_X11_181 : zlk zG ((⟨RX11, "", ""⟩ : MethodName), ⟨#[]⟩, 0, none, [], [], 0, 0, true) (0, .invokevirtual 181, 105, 3, [9], 0, 0, []) := ⟨zall1 (⟨(RX10, TX10, 1), ⟨"BookBarge$World", "putAshore", "(II)V"⟩, rfl, zw1026, zw1027, zw1028, Or.inl ⟨rfl, by decide⟩⟩), zcal105, by decide, by decide, zpn105⟩
theorem zcal100 : zcal zm100 2 := ⟨zw1037, zw144, by decide +kernel⟩
theorem zpn100 : plainName (zm100).1.cls = true := by decide +kernel
theorem zli_X11_185 : zlk zG ((⟨RX11, "", ""⟩ : MethodName), ⟨#[]⟩, 0, none, [], [], 0, 0, true) (0, .invokevirtual 185, 100, 3, [9], 0, 0, []) := ⟨zall1 (⟨(RX10, TX10, 1), ⟨"BookBarge$World", "waitsFor", "(II)Z"⟩, rfl, zw1034, zw1035, zw1036, Or.inl ⟨rfl, by decide⟩⟩), zcal100, by decide, by decide, zpn100⟩
theorem zli_X11_188 : zlk zG ((⟨RX11, "", ""⟩ : MethodName), ⟨#[]⟩, 0, none, [], [], 0, 0, true) (0, .invokevirtual 188, 106, 4, [9], 0, 0, []) := ⟨zall1 (⟨(RX10, TX10, 1), ⟨"BookBarge$World", "giveTo", "(III)V"⟩, rfl, zw1039, zw1040, zw1041, Or.inl ⟨rfl, by decide⟩⟩), zcal106, by decide, by decide, zpn106⟩
theorem zcal83 : zcal zm83 2 := ⟨zw1052, zw144, by decide +kernel⟩
theorem zpn83 : plainName (zm83).1.cls = true := by decide +kernel
theorem zli_X11_192 : zlk zG ((⟨RX11, "", ""⟩ : MethodName), ⟨#[]⟩, 0, none, [], [], 0, 0, true) (0, .invokevirtual 192, 83, 3, [9], 0, 0, []) := ⟨zall1 (⟨(RX10, TX10, 1), ⟨"BookBarge$World", "hasShelf", "(II)Z"⟩, rfl, zw1049, zw1050, zw1051, Or.inl ⟨rfl, by decide⟩⟩), zcal83, by decide, by decide, zpn83⟩
theorem zli_X11_195 : zlk zG ((⟨RX11, "", ""⟩ : MethodName), ⟨#[]⟩, 0, none, [], [], 0, 0, true) (0, .invokevirtual 195, 102, 3, [9], 0, 0, []) := ⟨zall1 (⟨(RX10, TX10, 1), ⟨"BookBarge$World", "canFetch", "(II)Z"⟩, rfl, zw1053, zw1054, zw1055, Or.inl ⟨rfl, by decide⟩⟩), zcal102, by decide, by decide, zpn102⟩
theorem zli_X11_198 : zlk zG ((⟨RX11, "", ""⟩ : MethodName), ⟨#[]⟩, 0, none, [], [], 0, 0, true) (0, .invokevirtual 198, 107, 4, [9], 0, 0, []) := ⟨zall1 (⟨(RX10, TX10, 1), ⟨"BookBarge$World", "takeIn", "(III)V"⟩, rfl, zw1057, zw1058, zw1059, Or.inl ⟨rfl, by decide⟩⟩), zcal107, by decide, by decide, zpn107⟩
theorem zcal85 : zcal zm85 0 := ⟨zw1077, zw144, by decide +kernel⟩
theorem zpn85 : plainName (zm85).1.cls = true := by decide +kernel
theorem zli_X11_201 : zlk zG ((⟨RX11, "", ""⟩ : MethodName), ⟨#[]⟩, 0, none, [], [], 0, 0, true) (0, .invokevirtual 201, 85, 1, [9], 0, 0, []) := ⟨zall1 (⟨(RX10, TX10, 1), ⟨"BookBarge$World", "bargesMeet", "()Z"⟩, rfl, zw1074, zw1075, zw1076, Or.inl ⟨rfl, by decide⟩⟩), zcal85, by decide, by decide, zpn85⟩
theorem zli_X11_205 : zlk zG ((⟨RX11, "", ""⟩ : MethodName), ⟨#[]⟩, 0, none, [], [], 0, 0, true) (0, .invokevirtual 205, 108, 4, [9], 0, 0, []) := ⟨zall1 (⟨(RX10, TX10, 1), ⟨"BookBarge$World", "putAboard", "(III)V"⟩, rfl, zw1078, zw1063, zw1064, Or.inl ⟨rfl, by decide⟩⟩), zcal108, by decide, by decide, zpn108⟩
theorem zli_X11_208 : zlk zG ((⟨RX11, "", ""⟩ : MethodName), ⟨#[]⟩, 0, none, [], [], 0, 0, true) (0, .invokevirtual 208, 109, 1, [9], 0, 0, []) := ⟨zall1 (⟨(RX10, TX10, 1), ⟨"BookBarge$World", "passNight", "()V"⟩, rfl, zw1087, zw1088, zw1089, Or.inl ⟨rfl, by decide⟩⟩), zcal109, by decide, by decide, zpn109⟩
theorem zcal111 : zcal zm111 0 := ⟨zw1106, zw144, by decide +kernel⟩
theorem zpn111 : plainName (zm111).1.cls = true := by decide +kernel
theorem zli_X11_211 : zlk zG ((⟨RX11, "", ""⟩ : MethodName), ⟨#[]⟩, 0, none, [], [], 0, 0, true) (0, .invokevirtual 211, 111, 1, [9], 0, 0, []) := ⟨zall1 (⟨(RX10, TX10, 1), ⟨"BookBarge$World", "canRain", "()Z"⟩, rfl, zw1103, zw1104, zw1105, Or.inl ⟨rfl, by decide⟩⟩), zcal111, by decide, by decide, zpn111⟩
theorem zli_X11_214 : zlk zG ((⟨RX11, "", ""⟩ : MethodName), ⟨#[]⟩, 0, none, [], [], 0, 0, true) (0, .invokevirtual 214, 112, 1, [9], 0, 0, []) := ⟨zall1 (⟨(RX10, TX10, 1), ⟨"BookBarge$World", "wetAboard", "()I"⟩, rfl, zw1112, zw1113, zw1114, Or.inl ⟨rfl, by decide⟩⟩), zcal112, by decide, by decide, zpn112⟩
theorem zli_X11_218 : zlk zG ((⟨RX11, "", ""⟩ : MethodName), ⟨#[]⟩, 0, none, [], [], 0, 0, true) (0, .invokevirtual 218, 103, 2, [9], 0, 0, []) := ⟨zall1 (⟨(RX10, TX10, 1), ⟨"BookBarge$World", "isOpen", "(I)Z"⟩, rfl, zw1124, zw1092, zw1093, Or.inl ⟨rfl, by decide⟩⟩), zcal103, by decide, by decide, zpn103⟩
theorem zli_X11_221 : zlk zG ((⟨RX11, "", ""⟩ : MethodName), ⟨#[]⟩, 0, none, [], [], 0, 0, true) (0, .invokevirtual 221, 104, 3, [9], 0, 0, []) := ⟨zall1 (⟨(RX10, TX10, 1), ⟨"BookBarge$World", "fits", "(II)Z"⟩, rfl, zw1125, zw1126, zw1127, Or.inl ⟨rfl, by decide⟩⟩), zcal104, by decide, by decide, zpn104⟩
theorem zli_X11_224 : zlk zG ((⟨RX11, "", ""⟩ : MethodName), ⟨#[]⟩, 0, none, [], [], 0, 0, true) (0, .invokevirtual 224, 82, 2, [9], 0, 0, []) := ⟨zall1 (⟨(RX10, TX10, 1), ⟨"BookBarge$World", "hasHole", "(I)Z"⟩, rfl, zw1133, zw1096, zw1097, Or.inl ⟨rfl, by decide⟩⟩), zcal82, by decide, by decide, zpn82⟩
theorem zn_b_19 : (Int8.ofInt 19).toInt32 = 19 := by decide +kernel
theorem zlp_X11_40_n (nm : String) : ∀ c ∈ [10], zfp RX11 nm 7 0 c := zall1 (⟨RX11, TX11, 17, rfl, Or.inl rfl⟩)
theorem zli_X11_227 : zlk zG ((⟨RX11, "", ""⟩ : MethodName), ⟨#[]⟩, 0, none, [], [], 0, 0, true) (0, .invokestatic 227, 1003, 5, [], 0, 0, []) := Or.inr (Or.inr (Or.inr ⟨rfl, zw1025⟩))
theorem zlp_X11_43_n (nm : String) : ∀ c ∈ [10], zfp RX11 nm 8 0 c := zall1 (⟨RX11, TX11, 17, rfl, Or.inl rfl⟩)
theorem zcal140 : zcal zm140 1 := ⟨zw1145, zw143, by decide +kernel⟩
theorem zpn140 : plainName (zm140).1.cls = true := by decide +kernel
theorem zli_X11_233 : zlk zG ((⟨RX11, "", ""⟩ : MethodName), ⟨#[]⟩, 0, none, [], [], 0, 0, true) (0, .invokevirtual 233, 140, 2, [10], 0, 0, []) := ⟨zall1 (⟨(RX11, TX11, 17), ⟨"BookBarge", "hasRule", "(I)Z"⟩, rfl, zw1142, zw1144, zw22, Or.inl ⟨rfl, by decide⟩⟩), zcal140, by decide, by decide, zpn140⟩
theorem zcal5 : zcal zm5 3 := ⟨zw1149, zw148, by decide +kernel⟩
theorem zpn5 : plainName (zm5).1.cls = true := by decide +kernel
theorem zli_X11_236 : zlk zG ((⟨RX11, "", ""⟩ : MethodName), ⟨#[]⟩, 0, none, [], [], 0, 0, true) (0, .invokevirtual 236, 5, 4, [1], 0, 0, []) := ⟨zall1 (⟨(RX1, TX1, 10), ⟨"BookBarge$Journey", "begin", "(LBookBarge$World;LBookBarge$Rule;I)V"⟩, rfl, zw1146, zw1147, zw1148, Or.inl ⟨rfl, by decide⟩⟩), zcal5, by decide, by decide, zpn5⟩
theorem zli_X11_240 : zlk zG ((⟨RX11, "", ""⟩ : MethodName), ⟨#[]⟩, 0, none, [], [], 0, 0, true) (0, .invokevirtual 240, 9, 1, [1], 0, 0, []) := ⟨zall1 (⟨(RX1, TX1, 10), ⟨"BookBarge$Journey", "goOneStop", "()Z"⟩, rfl, zw1150, zw1151, zw1152, Or.inl ⟨rfl, by decide⟩⟩), zcal9, by decide, by decide, zpn9⟩
theorem zcal84 : zcal zm84 2 := ⟨zw1237, zw144, by decide +kernel⟩
theorem zpn84 : plainName (zm84).1.cls = true := by decide +kernel
theorem zli_X11_243 : zlk zG ((⟨RX11, "", ""⟩ : MethodName), ⟨#[]⟩, 0, none, [], [], 0, 0, true) (0, .invokevirtual 243, 84, 3, [9], 0, 0, []) := ⟨zall1 (⟨(RX10, TX10, 1), ⟨"BookBarge$World", "isFrom", "(II)Z"⟩, rfl, zw1234, zw1235, zw1236, Or.inl ⟨rfl, by decide⟩⟩), zcal84, by decide, by decide, zpn84⟩
theorem zcal18 : zcal zm18 3 := ⟨zw1241, zw149, by decide +kernel⟩
theorem zpn18 : plainName (zm18).1.cls = true := by decide +kernel
theorem zli_X11_246 : zlk zG ((⟨RX11, "", ""⟩ : MethodName), ⟨#[]⟩, 0, none, [], [], 0, 0, true) (0, .invokevirtual 246, 18, 4, [2], 0, 0, []) := ⟨zall1 (⟨(RX2, TX2, 9), ⟨"BookBarge$Leaving", "find", "(LBookBarge$World;II)Z"⟩, rfl, zw1238, zw1239, zw1240, Or.inl ⟨rfl, by decide⟩⟩), zcal18, by decide, by decide, zpn18⟩
theorem zlf_X11_250 : ∀ c ∈ [2], zfl RX11 250 7 0 c := zall1 (⟨RX2, TX2, 9, "BookBarge$Leaving", rfl, by decide, zw319, Or.inl rfl, rfl⟩)
theorem zlf_X11_253 : ∀ c ∈ [2], zfl RX11 253 8 0 c := zall1 (⟨RX2, TX2, 9, "BookBarge$Leaving", rfl, by decide, zw321, Or.inl rfl, rfl⟩)
theorem zcal21 : zcal zm21 5 := ⟨zw1266, zw150, by decide +kernel⟩
theorem zpn21 : plainName (zm21).1.cls = true := by decide +kernel
theorem zli_X11_256 : zlk zG ((⟨RX11, "", ""⟩ : MethodName), ⟨#[]⟩, 0, none, [], [], 0, 0, true) (0, .invokevirtual 256, 21, 6, [3], 0, 0, []) := ⟨zall1 (⟨(RX3, TX3, 17), ⟨"BookBarge$Lending", "mostCoins", "(LBookBarge$World;IIII)I"⟩, rfl, zw1263, zw1264, zw1265, Or.inl ⟨rfl, by decide⟩⟩), zcal21, by decide, by decide, zpn21⟩
theorem zli_X11_260 : zlk zG ((⟨RX11, "", ""⟩ : MethodName), ⟨#[]⟩, 0, none, [], [], 0, 0, true) (0, .invokestatic 260, 1000, 2, [], 0, 0, []) := Or.inl ⟨rfl, zw1291⟩
theorem zlf_X11_265 : ∀ c ∈ [3], zfl RX11 265 9 2 c := zall1 (⟨RX3, TX3, 17, "BookBarge$Lending", rfl, by decide, zw357, Or.inl rfl, Or.inr ⟨_, rfl⟩⟩)
theorem zcal113 : zcal zm113 3 := ⟨zw1303, zw144, by decide +kernel⟩
theorem zpn113 : plainName (zm113).1.cls = true := by decide +kernel
theorem zli_X11_268 : zlk zG ((⟨RX11, "", ""⟩ : MethodName), ⟨#[]⟩, 0, none, [], [], 0, 0, true) (0, .invokevirtual 268, 113, 4, [9], 0, 0, []) := ⟨zall1 (⟨(RX10, TX10, 1), ⟨"BookBarge$World", "roomOn", "(III)I"⟩, rfl, zw1300, zw1301, zw1302, Or.inl ⟨rfl, by decide⟩⟩), zcal113, by decide, by decide, zpn113⟩
theorem zcal26 : zcal zm26 1 := ⟨zw1312, zw151, by decide +kernel⟩
theorem zpn26 : plainName (zm26).1.cls = true := by decide +kernel
theorem zli_X11_272 : zlk zG ((⟨RX11, "", ""⟩ : MethodName), ⟨#[]⟩, 0, none, [], [], 0, 0, true) (0, .invokevirtual 272, 26, 2, [4], 0, 0, []) := ⟨zall1 (⟨(RX4, TX4, 11), ⟨"BookBarge$Meeting", "find", "(LBookBarge$World;)Z"⟩, rfl, zw1309, zw1310, zw1311, Or.inl ⟨rfl, by decide⟩⟩), zcal26, by decide, by decide, zpn26⟩
theorem zlf_X11_275 : ∀ c ∈ [4], zfl RX11 275 10 0 c := zall1 (⟨RX4, TX4, 11, "BookBarge$Meeting", rfl, by decide, zw417, Or.inl rfl, rfl⟩)
theorem zcal1 : zcal zm1 5 := ⟨zw1335, zw152, by decide +kernel⟩
theorem zpn1 : plainName (zm1).1.cls = true := by decide +kernel
theorem zli_X11_276 : zlk zG ((⟨RX11, "", ""⟩ : MethodName), ⟨#[]⟩, 0, none, [], [], 0, 0, true) (0, .invokevirtual 276, 1, 6, [0], 0, 0, []) := ⟨zall1 (⟨(RX0, TX0, 11), ⟨"BookBarge$Cargo", "find", "(LBookBarge$World;IIIZ)V"⟩, rfl, zw1332, zw1333, zw1334, Or.inl ⟨rfl, by decide⟩⟩), zcal1, by decide, by decide, zpn1⟩
theorem zlf_X11_279 : ∀ c ∈ [0], zfl RX11 279 8 0 c := zall1 (⟨RX0, TX0, 11, "BookBarge$Cargo", rfl, by decide, zw456, Or.inl rfl, rfl⟩)
theorem zlf_X11_282 : ∀ c ∈ [0], zfl RX11 282 9 0 c := zall1 (⟨RX0, TX0, 11, "BookBarge$Cargo", rfl, by decide, zw458, Or.inl rfl, rfl⟩)
theorem zlf_X11_285 : ∀ c ∈ [0], zfl RX11 285 10 0 c := zall1 (⟨RX0, TX0, 11, "BookBarge$Cargo", rfl, by decide, zw460, Or.inl rfl, rfl⟩)
theorem zcal29 : zcal zm29 2 := ⟨zw1358, zw153, by decide +kernel⟩
theorem zpn29 : plainName (zm29).1.cls = true := by decide +kernel
theorem zli_X11_288 : zlk zG ((⟨RX11, "", ""⟩ : MethodName), ⟨#[]⟩, 0, none, [], [], 0, 0, true) (0, .invokevirtual 288, 29, 3, [5], 0, 0, []) := ⟨zall1 (⟨(RX5, TX5, 6), ⟨"BookBarge$Plugging", "find", "(LBookBarge$World;I)Z"⟩, rfl, zw1355, zw1356, zw1357, Or.inl ⟨rfl, by decide⟩⟩), zcal29, by decide, by decide, zpn29⟩
theorem zlf_X11_291 : ∀ c ∈ [5], zfl RX11 291 5 0 c := zall1 (⟨RX5, TX5, 6, "BookBarge$Plugging", rfl, by decide, zw497, Or.inl rfl, rfl⟩)
theorem zlf_X11_292 : ∀ c ∈ [5], zfl RX11 292 4 2 c := zall1 (⟨RX5, TX5, 6, "BookBarge$Plugging", rfl, by decide, zw495, Or.inl rfl, Or.inr ⟨_, rfl⟩⟩)
theorem zlf_X11_293 : ∀ c ∈ [1], zfl RX11 293 0 2 c := zall1 (⟨RX1, TX1, 10, "BookBarge$Journey", rfl, by decide, zw270, Or.inl rfl, Or.inl ⟨_, rfl⟩⟩)
theorem zcal16 : zcal zm16 4 := ⟨zw1379, zw148, by decide +kernel⟩
theorem zpn16 : plainName (zm16).1.cls = true := by decide +kernel
theorem zli_X11_296 : zlk zG ((⟨RX11, "", ""⟩ : MethodName), ⟨#[]⟩, 0, none, [], [], 0, 0, true) (0, .invokevirtual 296, 16, 5, [1], 0, 0, []) := ⟨zall1 (⟨(RX1, TX1, 10), ⟨"BookBarge$Journey", "drawVoyages", "(LBookBarge$World;III)V"⟩, rfl, zw1376, zw1377, zw1378, Or.inl ⟨rfl, by decide⟩⟩), zcal16, by decide, by decide, zpn16⟩
theorem zlf_X11_300 : ∀ c ∈ [1], zfl RX11 300 9 0 c := zall1 (⟨RX1, TX1, 10, "BookBarge$Journey", rfl, by decide, zw282, Or.inl rfl, rfl⟩)
theorem zlf_X11_303 : ∀ c ∈ [1], zfl RX11 303 7 0 c := zall1 (⟨RX1, TX1, 10, "BookBarge$Journey", rfl, by decide, zw278, Or.inl rfl, rfl⟩)
theorem zlf_X11_306 : ∀ c ∈ [1], zfl RX11 306 8 0 c := zall1 (⟨RX1, TX1, 10, "BookBarge$Journey", rfl, by decide, zw280, Or.inl rfl, rfl⟩)
theorem zcal99 : zcal zm99 2 := ⟨zw1403, zw144, by decide +kernel⟩
theorem zpn99 : plainName (zm99).1.cls = true := by decide +kernel
theorem zli_X11_309 : zlk zG ((⟨RX11, "", ""⟩ : MethodName), ⟨#[]⟩, 0, none, [], [], 0, 0, true) (0, .invokevirtual 309, 99, 3, [9], 0, 0, []) := ⟨zall1 (⟨(RX10, TX10, 1), ⟨"BookBarge$World", "booksBetween", "(II)I"⟩, rfl, zw1400, zw1401, zw1402, Or.inl ⟨rfl, by decide⟩⟩), zcal99, by decide, by decide, zpn99⟩
theorem zn_s_299 : (Int16.ofInt 299).toInt32 = 299 := by decide +kernel
theorem zli_X12_1 : zlk zG ((⟨RX12, "", ""⟩ : MethodName), ⟨#[]⟩, 0, none, [], [], 0, 0, true) (0, .invokespecial 1, 1006, 1, [], 0, 0, []) := zw1417
theorem zlf_X12_7 : ∀ c ∈ [11], zfl RX12 7 0 2 c := zall1 (⟨RX12, TX12, 39, "BookBargeModel", rfl, by decide, zw1418, Or.inl rfl, Or.inr ⟨_, rfl⟩⟩)
theorem zlp_X12_7_i : ∀ c ∈ [11], zfp RX12 "<init>" 0 0 c := zall1 (⟨RX12, TX12, 39, rfl, Or.inr ⟨rfl, rfl, rfl⟩⟩)
theorem zn_s_2400 : (Int16.ofInt 2400).toInt32 = 2400 := by decide +kernel
theorem zlf_X12_13 : ∀ c ∈ [11], zfl RX12 13 3 2 c := zall1 (⟨RX12, TX12, 39, "BookBargeModel", rfl, by decide, zw1421, Or.inl rfl, Or.inr ⟨_, rfl⟩⟩)
theorem zlp_X12_13_i : ∀ c ∈ [11], zfp RX12 "<init>" 3 0 c := zall1 (⟨RX12, TX12, 39, rfl, Or.inr ⟨rfl, rfl, rfl⟩⟩)
theorem zlf_X12_17 : ∀ c ∈ [11], zfl RX12 17 4 2 c := zall1 (⟨RX12, TX12, 39, "BookBargeModel", rfl, by decide, zw1422, Or.inl rfl, Or.inr ⟨_, rfl⟩⟩)
theorem zlp_X12_17_i : ∀ c ∈ [11], zfp RX12 "<init>" 4 0 c := zall1 (⟨RX12, TX12, 39, rfl, Or.inr ⟨rfl, rfl, rfl⟩⟩)
theorem zn_s_360 : (Int16.ofInt 360).toInt32 = 360 := by decide +kernel
theorem zlf_X12_20 : ∀ c ∈ [11], zfl RX12 20 5 2 c := zall1 (⟨RX12, TX12, 39, "BookBargeModel", rfl, by decide, zw1423, Or.inl rfl, Or.inr ⟨_, rfl⟩⟩)
theorem zlp_X12_20_i : ∀ c ∈ [11], zfp RX12 "<init>" 5 0 c := zall1 (⟨RX12, TX12, 39, rfl, Or.inr ⟨rfl, rfl, rfl⟩⟩)
theorem zlf_X12_23 : ∀ c ∈ [11], zfl RX12 23 6 2 c := zall1 (⟨RX12, TX12, 39, "BookBargeModel", rfl, by decide, zw1424, Or.inl rfl, Or.inr ⟨_, rfl⟩⟩)
theorem zlp_X12_23_i : ∀ c ∈ [11], zfp RX12 "<init>" 6 0 c := zall1 (⟨RX12, TX12, 39, rfl, Or.inr ⟨rfl, rfl, rfl⟩⟩)
theorem zn_s_258 : (Int16.ofInt 258).toInt32 = 258 := by decide +kernel
theorem zlf_X12_26 : ∀ c ∈ [11], zfl RX12 26 7 2 c := zall1 (⟨RX12, TX12, 39, "BookBargeModel", rfl, by decide, zw1425, Or.inl rfl, Or.inr ⟨_, rfl⟩⟩)
theorem zlp_X12_26_i : ∀ c ∈ [11], zfp RX12 "<init>" 7 0 c := zall1 (⟨RX12, TX12, 39, rfl, Or.inr ⟨rfl, rfl, rfl⟩⟩)
theorem zlf_X12_29 : ∀ c ∈ [11], zfl RX12 29 16 2 c := zall1 (⟨RX12, TX12, 39, "BookBargeModel", rfl, by decide, zw1434, Or.inl rfl, Or.inr ⟨_, rfl⟩⟩)
theorem zlp_X12_29_i : ∀ c ∈ [11], zfp RX12 "<init>" 16 0 c := zall1 (⟨RX12, TX12, 39, rfl, Or.inr ⟨rfl, rfl, rfl⟩⟩)
theorem zlf_X12_32 : ∀ c ∈ [11], zfl RX12 32 18 2 c := zall1 (⟨RX12, TX12, 39, "BookBargeModel", rfl, by decide, zw1436, Or.inl rfl, Or.inr ⟨_, rfl⟩⟩)
theorem zlp_X12_32_i : ∀ c ∈ [11], zfp RX12 "<init>" 18 0 c := zall1 (⟨RX12, TX12, 39, rfl, Or.inr ⟨rfl, rfl, rfl⟩⟩)
theorem zlf_X12_36 : ∀ c ∈ [11], zfl RX12 36 20 2 c := zall1 (⟨RX12, TX12, 39, "BookBargeModel", rfl, by decide, zw1438, Or.inl rfl, Or.inr ⟨_, rfl⟩⟩)
theorem zlp_X12_36_i : ∀ c ∈ [11], zfp RX12 "<init>" 20 0 c := zall1 (⟨RX12, TX12, 39, rfl, Or.inr ⟨rfl, rfl, rfl⟩⟩)
theorem zlf_X12_39 : ∀ c ∈ [11], zfl RX12 39 21 2 c := zall1 (⟨RX12, TX12, 39, "BookBargeModel", rfl, by decide, zw1439, Or.inl rfl, Or.inr ⟨_, rfl⟩⟩)
theorem zlp_X12_39_i : ∀ c ∈ [11], zfp RX12 "<init>" 21 0 c := zall1 (⟨RX12, TX12, 39, rfl, Or.inr ⟨rfl, rfl, rfl⟩⟩)
theorem zn_s_5160 : (Int16.ofInt 5160).toInt32 = 5160 := by decide +kernel
theorem zlf_X12_42 : ∀ c ∈ [11], zfl RX12 42 24 2 c := zall1 (⟨RX12, TX12, 39, "BookBargeModel", rfl, by decide, zw1442, Or.inl rfl, Or.inr ⟨_, rfl⟩⟩)
theorem zlp_X12_42_i : ∀ c ∈ [11], zfp RX12 "<init>" 24 0 c := zall1 (⟨RX12, TX12, 39, rfl, Or.inr ⟨rfl, rfl, rfl⟩⟩)
theorem zlf_X12_45 : ∀ c ∈ [11], zfl RX12 45 28 2 c := zall1 (⟨RX12, TX12, 39, "BookBargeModel", rfl, by decide, zw1446, Or.inl rfl, Or.inr ⟨_, rfl⟩⟩)
theorem zlp_X12_45_i : ∀ c ∈ [11], zfp RX12 "<init>" 28 0 c := zall1 (⟨RX12, TX12, 39, rfl, Or.inr ⟨rfl, rfl, rfl⟩⟩)
theorem zlf_X12_48 : ∀ c ∈ [11], zfl RX12 48 29 2 c := zall1 (⟨RX12, TX12, 39, "BookBargeModel", rfl, by decide, zw1447, Or.inl rfl, Or.inr ⟨_, rfl⟩⟩)
theorem zlp_X12_48_i : ∀ c ∈ [11], zfp RX12 "<init>" 29 0 c := zall1 (⟨RX12, TX12, 39, rfl, Or.inr ⟨rfl, rfl, rfl⟩⟩)
theorem zlf_X12_51 : ∀ c ∈ [11], zfl RX12 51 31 2 c := zall1 (⟨RX12, TX12, 39, "BookBargeModel", rfl, by decide, zw1449, Or.inl rfl, Or.inr ⟨_, rfl⟩⟩)
theorem zlp_X12_51_i : ∀ c ∈ [11], zfp RX12 "<init>" 31 0 c := zall1 (⟨RX12, TX12, 39, rfl, Or.inr ⟨rfl, rfl, rfl⟩⟩)
theorem zlf_X12_54 : ∀ c ∈ [11], zfl RX12 54 32 2 c := zall1 (⟨RX12, TX12, 39, "BookBargeModel", rfl, by decide, zw1450, Or.inl rfl, Or.inr ⟨_, rfl⟩⟩)
theorem zlp_X12_54_i : ∀ c ∈ [11], zfp RX12 "<init>" 32 0 c := zall1 (⟨RX12, TX12, 39, rfl, Or.inr ⟨rfl, rfl, rfl⟩⟩)
theorem zlf_X12_57 : ∀ c ∈ [11], zfl RX12 57 33 2 c := zall1 (⟨RX12, TX12, 39, "BookBargeModel", rfl, by decide, zw1451, Or.inl rfl, Or.inr ⟨_, rfl⟩⟩)
theorem zlp_X12_57_i : ∀ c ∈ [11], zfp RX12 "<init>" 33 0 c := zall1 (⟨RX12, TX12, 39, rfl, Or.inr ⟨rfl, rfl, rfl⟩⟩)
theorem zlf_X12_60 : ∀ c ∈ [11], zfl RX12 60 34 2 c := zall1 (⟨RX12, TX12, 39, "BookBargeModel", rfl, by decide, zw1452, Or.inl rfl, Or.inr ⟨_, rfl⟩⟩)
theorem zlp_X12_60_i : ∀ c ∈ [11], zfp RX12 "<init>" 34 0 c := zall1 (⟨RX12, TX12, 39, rfl, Or.inr ⟨rfl, rfl, rfl⟩⟩)
theorem zn_s_1032 : (Int16.ofInt 1032).toInt32 = 1032 := by decide +kernel
theorem zlf_X12_63 : ∀ c ∈ [11], zfl RX12 63 36 2 c := zall1 (⟨RX12, TX12, 39, "BookBargeModel", rfl, by decide, zw1454, Or.inl rfl, Or.inr ⟨_, rfl⟩⟩)
theorem zlp_X12_63_i : ∀ c ∈ [11], zfp RX12 "<init>" 36 0 c := zall1 (⟨RX12, TX12, 39, rfl, Or.inr ⟨rfl, rfl, rfl⟩⟩)
theorem zlf_X12_66 : ∀ c ∈ [11], zfl RX12 66 37 2 c := zall1 (⟨RX12, TX12, 39, "BookBargeModel", rfl, by decide, zw1455, Or.inl rfl, Or.inr ⟨_, rfl⟩⟩)
theorem zlp_X12_66_i : ∀ c ∈ [11], zfp RX12 "<init>" 37 0 c := zall1 (⟨RX12, TX12, 39, rfl, Or.inr ⟨rfl, rfl, rfl⟩⟩)
theorem zlf_X12_69 : ∀ c ∈ [11], zfl RX12 69 38 2 c := zall1 (⟨RX12, TX12, 39, "BookBargeModel", rfl, by decide, zw1456, Or.inl rfl, Or.inr ⟨_, rfl⟩⟩)
theorem zlp_X12_69_i : ∀ c ∈ [11], zfp RX12 "<init>" 38 0 c := zall1 (⟨RX12, TX12, 39, rfl, Or.inr ⟨rfl, rfl, rfl⟩⟩)
theorem zlf_X12_73 : ∀ c ∈ [11], zfl RX12 73 1 0 c := zall1 (⟨RX12, TX12, 39, "BookBargeModel", rfl, by decide, zw1419, Or.inl rfl, rfl⟩)
theorem zlp_X12_73_n (nm : String) : ∀ c ∈ [11], zfp RX12 nm 1 0 c := zall1 (⟨RX12, TX12, 39, rfl, Or.inl rfl⟩)
theorem zcal158 : zcal zm158 1 := ⟨zw1543, zw154, by decide +kernel⟩
theorem zpn158 : plainName (zm158).1.cls = true := by decide +kernel
theorem zli_X12_77 : zlk zG ((⟨RX12, "", ""⟩ : MethodName), ⟨#[]⟩, 0, none, [], [], 0, 0, true) (0, .invokevirtual 77, 158, 2, [11], 0, 0, []) := ⟨zall1 (⟨(RX12, TX12, 39), ⟨"BookBargeModel", "four", "(I)V"⟩, rfl, zw1540, zw1542, zw41, Or.inl ⟨rfl, by decide⟩⟩), zcal158, by decide, by decide, zpn158⟩
theorem zlf_X12_81 : ∀ c ∈ [11], zfl RX12 81 10 0 c := zall1 (⟨RX12, TX12, 39, "BookBargeModel", rfl, by decide, zw1428, Or.inl rfl, rfl⟩)
theorem zlp_X12_81_n (nm : String) : ∀ c ∈ [11], zfp RX12 nm 10 0 c := zall1 (⟨RX12, TX12, 39, rfl, Or.inl rfl⟩)
theorem zlf_X12_84 : ∀ c ∈ [11], zfl RX12 84 9 0 c := zall1 (⟨RX12, TX12, 39, "BookBargeModel", rfl, by decide, zw1427, Or.inl rfl, rfl⟩)
theorem zlp_X12_84_n (nm : String) : ∀ c ∈ [11], zfp RX12 nm 9 0 c := zall1 (⟨RX12, TX12, 39, rfl, Or.inl rfl⟩)
theorem zcal162 : zcal zm162 0 := ⟨zw1563, zw154, by decide +kernel⟩
theorem zpn162 : plainName (zm162).1.cls = true := by decide +kernel
theorem zli_X12_87 : zlk zG ((⟨RX12, "", ""⟩ : MethodName), ⟨#[]⟩, 0, none, [], [], 0, 0, true) (0, .invokevirtual 87, 162, 1, [11], 0, 0, []) := ⟨zall1 (⟨(RX12, TX12, 39), ⟨"BookBargeModel", "see", "()I"⟩, rfl, zw1560, zw1562, zw44, Or.inl ⟨rfl, by decide⟩⟩), zcal162, by decide, by decide, zpn162⟩
theorem zcal164 : zcal zm164 1 := ⟨zw1576, zw154, by decide +kernel⟩
theorem zpn164 : plainName (zm164).1.cls = true := by decide +kernel
theorem zli_X12_91 : zlk zG ((⟨RX12, "", ""⟩ : MethodName), ⟨#[]⟩, 0, none, [], [], 0, 0, true) (0, .invokevirtual 91, 164, 2, [11], 0, 0, []) := ⟨zall1 (⟨(RX12, TX12, 39), ⟨"BookBargeModel", "isLetter", "(I)Z"⟩, rfl, zw1573, zw1575, zw47, Or.inl ⟨rfl, by decide⟩⟩), zcal164, by decide, by decide, zpn164⟩
theorem zcal165 : zcal zm165 1 := ⟨zw1572, zw154, by decide +kernel⟩
theorem zpn165 : plainName (zm165).1.cls = true := by decide +kernel
theorem zli_X12_95 : zlk zG ((⟨RX12, "", ""⟩ : MethodName), ⟨#[]⟩, 0, none, [], [], 0, 0, true) (0, .invokevirtual 95, 165, 2, [11], 0, 0, []) := ⟨zall1 (⟨(RX12, TX12, 39), ⟨"BookBargeModel", "isWord", "(J)Z"⟩, rfl, zw1569, zw1571, zw46, Or.inl ⟨rfl, by decide⟩⟩), zcal165, by decide, by decide, zpn165⟩
theorem zcal166 : zcal zm166 0 := ⟨zw1604, zw154, by decide +kernel⟩
theorem zpn166 : plainName (zm166).1.cls = true := by decide +kernel
theorem zli_X12_99 : zlk zG ((⟨RX12, "", ""⟩ : MethodName), ⟨#[]⟩, 0, none, [], [], 0, 0, true) (0, .invokevirtual 99, 166, 1, [11], 0, 0, []) := ⟨zall1 (⟨(RX12, TX12, 39), ⟨"BookBargeModel", "passWord", "()V"⟩, rfl, zw1601, zw1603, zw52, Or.inl ⟨rfl, by decide⟩⟩), zcal166, by decide, by decide, zpn166⟩
theorem zcal163 : zcal zm163 1 := ⟨zw1616, zw154, by decide +kernel⟩
theorem zpn163 : plainName (zm163).1.cls = true := by decide +kernel
theorem zli_X12_102 : zlk zG ((⟨RX12, "", ""⟩ : MethodName), ⟨#[]⟩, 0, none, [], [], 0, 0, true) (0, .invokevirtual 102, 163, 2, [11], 0, 0, []) := ⟨zall1 (⟨(RX12, TX12, 39), ⟨"BookBargeModel", "isDigit", "(I)Z"⟩, rfl, zw1613, zw1615, zw55, Or.inl ⟨rfl, by decide⟩⟩), zcal163, by decide, by decide, zpn163⟩
theorem zcal161 : zcal zm161 2 := ⟨zw1592, zw154, by decide +kernel⟩
theorem zpn161 : plainName (zm161).1.cls = true := by decide +kernel
theorem zli_X12_105 : zlk zG ((⟨RX12, "", ""⟩ : MethodName), ⟨#[]⟩, 0, none, [], [], 0, 0, true) (0, .invokevirtual 105, 161, 3, [11], 0, 0, []) := ⟨zall1 (⟨(RX12, TX12, 39), ⟨"BookBargeModel", "fails", "(II)Z"⟩, rfl, zw1589, zw1591, zw49, Or.inl ⟨rfl, by decide⟩⟩), zcal161, by decide, by decide, zpn161⟩
theorem zlf_X12_109 : ∀ c ∈ [11], zfl RX12 109 11 0 c := zall1 (⟨RX12, TX12, 39, "BookBargeModel", rfl, by decide, zw1429, Or.inl rfl, rfl⟩)
theorem zlp_X12_109_n (nm : String) : ∀ c ∈ [11], zfp RX12 nm 11 0 c := zall1 (⟨RX12, TX12, 39, rfl, Or.inl rfl⟩)
theorem zcal155 : zcal zm155 3 := ⟨zw1619, zw154, by decide +kernel⟩
theorem zpn155 : plainName (zm155).1.cls = true := by decide +kernel
theorem zli_X12_112 : zlk zG ((⟨RX12, "", ""⟩ : MethodName), ⟨#[]⟩, 0, none, [], [], 0, 0, true) (0, .invokestatic 112, 155, 3, [], 0, 0, []) := ⟨zw1617, zw1618, zcal155, by decide, zpn155⟩
theorem zlf_X12_140 : ∀ c ∈ [11], zfl RX12 140 12 0 c := zall1 (⟨RX12, TX12, 39, "BookBargeModel", rfl, by decide, zw1430, Or.inl rfl, rfl⟩)
theorem zn_b_16 : (Int8.ofInt 16).toInt32 = 16 := by decide +kernel
theorem zlf_X12_143 : ∀ c ∈ [11], zfl RX12 143 13 0 c := zall1 (⟨RX12, TX12, 39, "BookBargeModel", rfl, by decide, zw1431, Or.inl rfl, rfl⟩)
theorem zlp_X12_143_n (nm : String) : ∀ c ∈ [11], zfp RX12 nm 13 0 c := zall1 (⟨RX12, TX12, 39, rfl, Or.inl rfl⟩)
theorem zlf_X12_146 : ∀ c ∈ [11], zfl RX12 146 14 0 c := zall1 (⟨RX12, TX12, 39, "BookBargeModel", rfl, by decide, zw1432, Or.inl rfl, rfl⟩)
theorem zlp_X12_146_n (nm : String) : ∀ c ∈ [11], zfp RX12 nm 14 0 c := zall1 (⟨RX12, TX12, 39, rfl, Or.inl rfl⟩)
theorem zlf_X12_149 : ∀ c ∈ [11], zfl RX12 149 17 0 c := zall1 (⟨RX12, TX12, 39, "BookBargeModel", rfl, by decide, zw1435, Or.inl rfl, rfl⟩)
theorem zlp_X12_149_n (nm : String) : ∀ c ∈ [11], zfp RX12 nm 17 0 c := zall1 (⟨RX12, TX12, 39, rfl, Or.inl rfl⟩)
theorem zcal173 : zcal zm173 1 := ⟨zw1718, zw154, by decide +kernel⟩
theorem zpn173 : plainName (zm173).1.cls = true := by decide +kernel
theorem zli_X12_152 : zlk zG ((⟨RX12, "", ""⟩ : MethodName), ⟨#[]⟩, 0, none, [], [], 0, 0, true) (0, .invokestatic 152, 173, 1, [], 0, 0, []) := ⟨zw1716, zw1717, zcal173, by decide, zpn173⟩
theorem zcal170 : zcal zm170 2 := ⟨zw1668, zw154, by decide +kernel⟩
theorem zpn170 : plainName (zm170).1.cls = true := by decide +kernel
theorem zli_X12_156 : zlk zG ((⟨RX12, "", ""⟩ : MethodName), ⟨#[]⟩, 0, none, [], [], 0, 0, true) (0, .invokevirtual 156, 170, 3, [11], 0, 0, []) := ⟨zall1 (⟨(RX12, TX12, 39), ⟨"BookBargeModel", "puts", "(II)V"⟩, rfl, zw1665, zw1667, zw67, Or.inl ⟨rfl, by decide⟩⟩), zcal170, by decide, by decide, zpn170⟩
theorem zcal168 : zcal zm168 2 := ⟨zw1612, zw154, by decide +kernel⟩
theorem zpn168 : plainName (zm168).1.cls = true := by decide +kernel
theorem zli_X12_161 : zlk zG ((⟨RX12, "", ""⟩ : MethodName), ⟨#[]⟩, 0, none, [], [], 0, 0, true) (0, .invokevirtual 161, 168, 3, [11], 0, 0, []) := ⟨zall1 (⟨(RX12, TX12, 39), ⟨"BookBargeModel", "numberHere", "(II)Z"⟩, rfl, zw1609, zw1611, zw54, Or.inl ⟨rfl, by decide⟩⟩), zcal168, by decide, by decide, zpn168⟩
theorem zcal171 : zcal zm171 1 := ⟨zw1664, zw154, by decide +kernel⟩
theorem zpn171 : plainName (zm171).1.cls = true := by decide +kernel
theorem zli_X12_164 : zlk zG ((⟨RX12, "", ""⟩ : MethodName), ⟨#[]⟩, 0, none, [], [], 0, 0, true) (0, .invokevirtual 164, 171, 2, [11], 0, 0, []) := ⟨zall1 (⟨(RX12, TX12, 39), ⟨"BookBargeModel", "makes", "(I)Z"⟩, rfl, zw1661, zw1663, zw66, Or.inl ⟨rfl, by decide⟩⟩), zcal171, by decide, by decide, zpn171⟩
theorem zcal169 : zcal zm169 0 := ⟨zw1672, zw154, by decide +kernel⟩
theorem zpn169 : plainName (zm169).1.cls = true := by decide +kernel
theorem zli_X12_167 : zlk zG ((⟨RX12, "", ""⟩ : MethodName), ⟨#[]⟩, 0, none, [], [], 0, 0, true) (0, .invokevirtual 167, 169, 1, [11], 0, 0, []) := ⟨zall1 (⟨(RX12, TX12, 39), ⟨"BookBargeModel", "wordHere", "()I"⟩, rfl, zw1669, zw1671, zw68, Or.inl ⟨rfl, by decide⟩⟩), zcal169, by decide, by decide, zpn169⟩
theorem zcal175 : zcal zm175 0 := ⟨zw1659, zw154, by decide +kernel⟩
theorem zpn175 : plainName (zm175).1.cls = true := by decide +kernel
theorem zli_X12_170 : zlk zG ((⟨RX12, "", ""⟩ : MethodName), ⟨#[]⟩, 0, none, [], [], 0, 0, true) (0, .invokevirtual 170, 175, 1, [11], 0, 0, []) := ⟨zall1 (⟨(RX12, TX12, 39), ⟨"BookBargeModel", "value", "()Z"⟩, rfl, zw1656, zw1658, zw65, Or.inl ⟨rfl, by decide⟩⟩), zcal175, by decide, by decide, zpn175⟩
theorem zcal176 : zcal zm176 0 := ⟨zw1655, zw154, by decide +kernel⟩
theorem zpn176 : plainName (zm176).1.cls = true := by decide +kernel
theorem zli_X12_174 : zlk zG ((⟨RX12, "", ""⟩ : MethodName), ⟨#[]⟩, 0, none, [], [], 0, 0, true) (0, .invokevirtual 174, 176, 1, [11], 0, 0, []) := ⟨zall1 (⟨(RX12, TX12, 39), ⟨"BookBargeModel", "term", "()Z"⟩, rfl, zw1652, zw1654, zw64, Or.inl ⟨rfl, by decide⟩⟩), zcal176, by decide, by decide, zpn176⟩
theorem zcal177 : zcal zm177 0 := ⟨zw1651, zw154, by decide +kernel⟩
theorem zpn177 : plainName (zm177).1.cls = true := by decide +kernel
theorem zli_X12_177 : zlk zG ((⟨RX12, "", ""⟩ : MethodName), ⟨#[]⟩, 0, none, [], [], 0, 0, true) (0, .invokevirtual 177, 177, 1, [11], 0, 0, []) := ⟨zall1 (⟨(RX12, TX12, 39), ⟨"BookBargeModel", "sum", "()Z"⟩, rfl, zw1648, zw1650, zw63, Or.inl ⟨rfl, by decide⟩⟩), zcal177, by decide, by decide, zpn177⟩
theorem zcal172 : zcal zm172 1 := ⟨zw1703, zw154, by decide +kernel⟩
theorem zpn172 : plainName (zm172).1.cls = true := by decide +kernel
theorem zli_X12_182 : zlk zG ((⟨RX12, "", ""⟩ : MethodName), ⟨#[]⟩, 0, none, [], [], 0, 0, true) (0, .invokevirtual 182, 172, 2, [11], 0, 0, []) := ⟨zall1 (⟨(RX12, TX12, 39), ⟨"BookBargeModel", "opens", "(I)Z"⟩, rfl, zw1700, zw1702, zw73, Or.inl ⟨rfl, by decide⟩⟩), zcal172, by decide, by decide, zpn172⟩
theorem zcal178 : zcal zm178 0 := ⟨zw1707, zw154, by decide +kernel⟩
theorem zpn178 : plainName (zm178).1.cls = true := by decide +kernel
theorem zli_X12_185 : zlk zG ((⟨RX12, "", ""⟩ : MethodName), ⟨#[]⟩, 0, none, [], [], 0, 0, true) (0, .invokevirtual 185, 178, 1, [11], 0, 0, []) := ⟨zall1 (⟨(RX12, TX12, 39), ⟨"BookBargeModel", "compare", "()Z"⟩, rfl, zw1704, zw1706, zw74, Or.inl ⟨rfl, by decide⟩⟩), zcal178, by decide, by decide, zpn178⟩
theorem zcal174 : zcal zm174 1 := ⟨zw1715, zw154, by decide +kernel⟩
theorem zpn174 : plainName (zm174).1.cls = true := by decide +kernel
theorem zli_X12_188 : zlk zG ((⟨RX12, "", ""⟩ : MethodName), ⟨#[]⟩, 0, none, [], [], 0, 0, true) (0, .invokevirtual 188, 174, 2, [11], 0, 0, []) := ⟨zall1 (⟨(RX12, TX12, 39), ⟨"BookBargeModel", "settles", "(I)V"⟩, rfl, zw1712, zw1714, zw76, Or.inl ⟨rfl, by decide⟩⟩), zcal174, by decide, by decide, zpn174⟩
theorem zcal180 : zcal zm180 0 := ⟨zw1722, zw154, by decide +kernel⟩
theorem zpn180 : plainName (zm180).1.cls = true := by decide +kernel
theorem zli_X12_191 : zlk zG ((⟨RX12, "", ""⟩ : MethodName), ⟨#[]⟩, 0, none, [], [], 0, 0, true) (0, .invokevirtual 191, 180, 1, [11], 0, 0, []) := ⟨zall1 (⟨(RX12, TX12, 39), ⟨"BookBargeModel", "isInside", "()Z"⟩, rfl, zw1719, zw1721, zw77, Or.inl ⟨rfl, by decide⟩⟩), zcal180, by decide, by decide, zpn180⟩
theorem zcal179 : zcal zm179 0 := ⟨zw1698, zw154, by decide +kernel⟩
theorem zpn179 : plainName (zm179).1.cls = true := by decide +kernel
theorem zli_X12_194 : zlk zG ((⟨RX12, "", ""⟩ : MethodName), ⟨#[]⟩, 0, none, [], [], 0, 0, true) (0, .invokevirtual 194, 179, 1, [11], 0, 0, []) := ⟨zall1 (⟨(RX12, TX12, 39), ⟨"BookBargeModel", "fact", "()Z"⟩, rfl, zw1695, zw1697, zw72, Or.inl ⟨rfl, by decide⟩⟩), zcal179, by decide, by decide, zpn179⟩
theorem zcal181 : zcal zm181 0 := ⟨zw1711, zw154, by decide +kernel⟩
theorem zpn181 : plainName (zm181).1.cls = true := by decide +kernel
theorem zli_X12_197 : zlk zG ((⟨RX12, "", ""⟩ : MethodName), ⟨#[]⟩, 0, none, [], [], 0, 0, true) (0, .invokevirtual 197, 181, 1, [11], 0, 0, []) := ⟨zall1 (⟨(RX12, TX12, 39), ⟨"BookBargeModel", "closes", "()V"⟩, rfl, zw1708, zw1710, zw75, Or.inl ⟨rfl, by decide⟩⟩), zcal181, by decide, by decide, zpn181⟩
theorem zcal182 : zcal zm182 0 := ⟨zw1694, zw154, by decide +kernel⟩
theorem zpn182 : plainName (zm182).1.cls = true := by decide +kernel
theorem zli_X12_204 : zlk zG ((⟨RX12, "", ""⟩ : MethodName), ⟨#[]⟩, 0, none, [], [], 0, 0, true) (0, .invokevirtual 204, 182, 1, [11], 0, 0, []) := ⟨zall1 (⟨(RX12, TX12, 39), ⟨"BookBargeModel", "tested", "()Z"⟩, rfl, zw1691, zw1693, zw71, Or.inl ⟨rfl, by decide⟩⟩), zcal182, by decide, by decide, zpn182⟩
theorem zcal167 : zcal zm167 1 := ⟨zw1686, zw154, by decide +kernel⟩
theorem zpn167 : plainName (zm167).1.cls = true := by decide +kernel
theorem zli_X12_209 : zlk zG ((⟨RX12, "", ""⟩ : MethodName), ⟨#[]⟩, 0, none, [], [], 0, 0, true) (0, .invokevirtual 209, 167, 2, [11], 0, 0, []) := ⟨zall1 (⟨(RX12, TX12, 39), ⟨"BookBargeModel", "takesWord", "(J)Z"⟩, rfl, zw1683, zw1685, zw69, Or.inl ⟨rfl, by decide⟩⟩), zcal167, by decide, by decide, zpn167⟩
theorem zcal183 : zcal zm183 1 := ⟨zw1690, zw154, by decide +kernel⟩
theorem zpn183 : plainName (zm183).1.cls = true := by decide +kernel
theorem zli_X12_212 : zlk zG ((⟨RX12, "", ""⟩ : MethodName), ⟨#[]⟩, 0, none, [], [], 0, 0, true) (0, .invokevirtual 212, 183, 2, [11], 0, 0, []) := ⟨zall1 (⟨(RX12, TX12, 39), ⟨"BookBargeModel", "isTestHere", "(I)Z"⟩, rfl, zw1687, zw1689, zw70, Or.inl ⟨rfl, by decide⟩⟩), zcal183, by decide, by decide, zpn183⟩
theorem zlf_X12_215 : ∀ c ∈ [11], zfl RX12 215 8 3 c := zall1 (⟨RX12, TX12, 39, "BookBargeModel", rfl, by decide, zw1426, Or.inl rfl, rfl⟩)
theorem zcal185 : zcal zm185 3 := ⟨zw1608, zw154, by decide +kernel⟩
theorem zpn185 : plainName (zm185).1.cls = true := by decide +kernel
theorem zli_X12_219 : zlk zG ((⟨RX12, "", ""⟩ : MethodName), ⟨#[]⟩, 0, none, [], [], 0, 0, true) (0, .invokevirtual 219, 185, 4, [11], 0, 0, []) := ⟨zall1 (⟨(RX12, TX12, 39), ⟨"BookBargeModel", "cellHere", "(III)Z"⟩, rfl, zw1605, zw1607, zw53, Or.inl ⟨rfl, by decide⟩⟩), zcal185, by decide, by decide, zpn185⟩
theorem zn_b_104 : (Int8.ofInt 104).toInt32 = 104 := by decide +kernel
theorem zcal188 : zcal zm188 0 := ⟨zw1631, zw154, by decide +kernel⟩
theorem zpn188 : plainName (zm188).1.cls = true := by decide +kernel
theorem zli_X12_223 : zlk zG ((⟨RX12, "", ""⟩ : MethodName), ⟨#[]⟩, 0, none, [], [], 0, 0, true) (0, .invokevirtual 223, 188, 1, [11], 0, 0, []) := ⟨zall1 (⟨(RX12, TX12, 39), ⟨"BookBargeModel", "isDigitNext", "()Z"⟩, rfl, zw1628, zw1630, zw58, Or.inl ⟨rfl, by decide⟩⟩), zcal188, by decide, by decide, zpn188⟩
theorem zn_s_144 : (Int16.ofInt 144).toInt32 = 144 := by decide +kernel
theorem zn_s_174 : (Int16.ofInt 174).toInt32 = 174 := by decide +kernel
theorem zn_s_246 : (Int16.ofInt 246).toInt32 = 246 := by decide +kernel
theorem zcal186 : zcal zm186 1 := ⟨zw1600, zw154, by decide +kernel⟩
theorem zpn186 : plainName (zm186).1.cls = true := by decide +kernel
theorem zli_X12_228 : zlk zG ((⟨RX12, "", ""⟩ : MethodName), ⟨#[]⟩, 0, none, [], [], 0, 0, true) (0, .invokevirtual 228, 186, 2, [11], 0, 0, []) := ⟨zall1 (⟨(RX12, TX12, 39), ⟨"BookBargeModel", "isBargeHere", "(I)Z"⟩, rfl, zw1597, zw1599, zw51, Or.inl ⟨rfl, by decide⟩⟩), zcal186, by decide, by decide, zpn186⟩
theorem zlp_X12_215_n (nm : String) : ∀ c ∈ [11], zfp RX12 nm 8 0 c := zall1 (⟨RX12, TX12, 39, rfl, Or.inl rfl⟩)
theorem zcal187 : zcal zm187 1 := ⟨zw1623, zw154, by decide +kernel⟩
theorem zpn187 : plainName (zm187).1.cls = true := by decide +kernel
theorem zli_X12_231 : zlk zG ((⟨RX12, "", ""⟩ : MethodName), ⟨#[]⟩, 0, none, [], [], 0, 0, true) (0, .invokevirtual 231, 187, 2, [11], 0, 0, []) := ⟨zall1 (⟨(RX12, TX12, 39), ⟨"BookBargeModel", "isBookHere", "(I)Z"⟩, rfl, zw1620, zw1622, zw56, Or.inl ⟨rfl, by decide⟩⟩), zcal187, by decide, by decide, zpn187⟩
theorem zcal189 : zcal zm189 1 := ⟨zw1627, zw154, by decide +kernel⟩
theorem zpn189 : plainName (zm189).1.cls = true := by decide +kernel
theorem zli_X12_234 : zlk zG ((⟨RX12, "", ""⟩ : MethodName), ⟨#[]⟩, 0, none, [], [], 0, 0, true) (0, .invokevirtual 234, 189, 2, [11], 0, 0, []) := ⟨zall1 (⟨(RX12, TX12, 39), ⟨"BookBargeModel", "isStopHere", "(I)Z"⟩, rfl, zw1624, zw1626, zw57, Or.inl ⟨rfl, by decide⟩⟩), zcal189, by decide, by decide, zpn189⟩
theorem zcal190 : zcal zm190 1 := ⟨zw1635, zw154, by decide +kernel⟩
theorem zpn190 : plainName (zm190).1.cls = true := by decide +kernel
theorem zli_X12_239 : zlk zG ((⟨RX12, "", ""⟩ : MethodName), ⟨#[]⟩, 0, none, [], [], 0, 0, true) (0, .invokevirtual 239, 190, 2, [11], 0, 0, []) := ⟨zall1 (⟨(RX12, TX12, 39), ⟨"BookBargeModel", "isReaderHere", "(I)Z"⟩, rfl, zw1632, zw1634, zw59, Or.inl ⟨rfl, by decide⟩⟩), zcal190, by decide, by decide, zpn190⟩
theorem zcal191 : zcal zm191 0 := ⟨zw1639, zw154, by decide +kernel⟩
theorem zpn191 : plainName (zm191).1.cls = true := by decide +kernel
theorem zli_X12_242 : zlk zG ((⟨RX12, "", ""⟩ : MethodName), ⟨#[]⟩, 0, none, [], [], 0, 0, true) (0, .invokevirtual 242, 191, 1, [11], 0, 0, []) := ⟨zall1 (⟨(RX12, TX12, 39), ⟨"BookBargeModel", "isWishHere", "()Z"⟩, rfl, zw1636, zw1638, zw60, Or.inl ⟨rfl, by decide⟩⟩), zcal191, by decide, by decide, zpn191⟩
theorem zcal192 : zcal zm192 1 := ⟨zw1643, zw154, by decide +kernel⟩
theorem zpn192 : plainName (zm192).1.cls = true := by decide +kernel
theorem zli_X12_245 : zlk zG ((⟨RX12, "", ""⟩ : MethodName), ⟨#[]⟩, 0, none, [], [], 0, 0, true) (0, .invokevirtual 245, 192, 2, [11], 0, 0, []) := ⟨zall1 (⟨(RX12, TX12, 39), ⟨"BookBargeModel", "isHoleHere", "(I)Z"⟩, rfl, zw1640, zw1642, zw61, Or.inl ⟨rfl, by decide⟩⟩), zcal192, by decide, by decide, zpn192⟩
theorem zcal194 : zcal zm194 0 := ⟨zw1567, zw154, by decide +kernel⟩
theorem zpn194 : plainName (zm194).1.cls = true := by decide +kernel
theorem zli_X12_256 : zlk zG ((⟨RX12, "", ""⟩ : MethodName), ⟨#[]⟩, 0, none, [], [], 0, 0, true) (0, .invokevirtual 256, 194, 1, [11], 0, 0, []) := ⟨zall1 (⟨(RX12, TX12, 39), ⟨"BookBargeModel", "isRiverWord", "()Z"⟩, rfl, zw1564, zw1566, zw45, Or.inl ⟨rfl, by decide⟩⟩), zcal194, by decide, by decide, zpn194⟩
theorem zcal195 : zcal zm195 0 := ⟨zw1585, zw154, by decide +kernel⟩
theorem zpn195 : plainName (zm195).1.cls = true := by decide +kernel
theorem zli_X12_259 : zlk zG ((⟨RX12, "", ""⟩ : MethodName), ⟨#[]⟩, 0, none, [], [], 0, 0, true) (0, .invokevirtual 259, 195, 1, [11], 0, 0, []) := ⟨zall1 (⟨(RX12, TX12, 39), ⟨"BookBargeModel", "doingSort", "()I"⟩, rfl, zw1582, zw1584, zw48, Or.inl ⟨rfl, by decide⟩⟩), zcal195, by decide, by decide, zpn195⟩
theorem zlf_X12_262 : ∀ c ∈ [11], zfl RX12 262 15 0 c := zall1 (⟨RX12, TX12, 39, "BookBargeModel", rfl, by decide, zw1433, Or.inl rfl, rfl⟩)
theorem zlp_X12_262_n (nm : String) : ∀ c ∈ [11], zfp RX12 nm 15 0 c := zall1 (⟨RX12, TX12, 39, rfl, Or.inl rfl⟩)
theorem zcal193 : zcal zm193 1 := ⟨zw1596, zw154, by decide +kernel⟩
theorem zpn193 : plainName (zm193).1.cls = true := by decide +kernel
theorem zli_X12_265 : zlk zG ((⟨RX12, "", ""⟩ : MethodName), ⟨#[]⟩, 0, none, [], [], 0, 0, true) (0, .invokevirtual 265, 193, 2, [11], 0, 0, []) := ⟨zall1 (⟨(RX12, TX12, 39), ⟨"BookBargeModel", "riverLineHere", "(I)Z"⟩, rfl, zw1593, zw1595, zw50, Or.inl ⟨rfl, by decide⟩⟩), zcal193, by decide, by decide, zpn193⟩
theorem zcal184 : zcal zm184 1 := ⟨zw1647, zw154, by decide +kernel⟩
theorem zpn184 : plainName (zm184).1.cls = true := by decide +kernel
theorem zli_X12_268 : zlk zG ((⟨RX12, "", ""⟩ : MethodName), ⟨#[]⟩, 0, none, [], [], 0, 0, true) (0, .invokevirtual 268, 184, 2, [11], 0, 0, []) := ⟨zall1 (⟨(RX12, TX12, 39), ⟨"BookBargeModel", "isDoingHere", "(I)Z"⟩, rfl, zw1644, zw1646, zw62, Or.inl ⟨rfl, by decide⟩⟩), zcal184, by decide, by decide, zpn184⟩
theorem zcal196 : zcal zm196 0 := ⟨zw1559, zw154, by decide +kernel⟩
theorem zpn196 : plainName (zm196).1.cls = true := by decide +kernel
theorem zli_X12_271 : zlk zG ((⟨RX12, "", ""⟩ : MethodName), ⟨#[]⟩, 0, none, [], [], 0, 0, true) (0, .invokevirtual 271, 196, 1, [11], 0, 0, []) := ⟨zall1 (⟨(RX12, TX12, 39), ⟨"BookBargeModel", "clauseHere", "()Z"⟩, rfl, zw1556, zw1558, zw43, Or.inl ⟨rfl, by decide⟩⟩), zcal196, by decide, by decide, zpn196⟩
theorem zlf_X12_274 : ∀ c ∈ [11], zfl RX12 274 2 0 c := zall1 (⟨RX12, TX12, 39, "BookBargeModel", rfl, by decide, zw1420, Or.inl rfl, rfl⟩)
theorem zlp_X12_140_n (nm : String) : ∀ c ∈ [11], zfp RX12 nm 12 0 c := zall1 (⟨RX12, TX12, 39, rfl, Or.inl rfl⟩)
theorem zcal197 : zcal zm197 0 := ⟨zw1555, zw154, by decide +kernel⟩
theorem zpn197 : plainName (zm197).1.cls = true := by decide +kernel
theorem zli_X12_277 : zlk zG ((⟨RX12, "", ""⟩ : MethodName), ⟨#[]⟩, 0, none, [], [], 0, 0, true) (0, .invokevirtual 277, 197, 1, [11], 0, 0, []) := ⟨zall1 (⟨(RX12, TX12, 39), ⟨"BookBargeModel", "readsAll", "()Z"⟩, rfl, zw1552, zw1554, zw42, Or.inl ⟨rfl, by decide⟩⟩), zcal197, by decide, by decide, zpn197⟩
theorem zlp_X12_274_n (nm : String) : ∀ c ∈ [11], zfp RX12 nm 2 0 c := zall1 (⟨RX12, TX12, 39, rfl, Or.inl rfl⟩)
theorem zn_b_18 : (Int8.ofInt 18).toInt32 = 18 := by decide +kernel
theorem zlf_X12_280 : ∀ c ∈ [11], zfl RX12 280 25 0 c := zall1 (⟨RX12, TX12, 39, "BookBargeModel", rfl, by decide, zw1443, Or.inl rfl, rfl⟩)
theorem zlp_X12_280_n (nm : String) : ∀ c ∈ [11], zfp RX12 nm 25 0 c := zall1 (⟨RX12, TX12, 39, rfl, Or.inl rfl⟩)
theorem zlf_X12_283 : ∀ c ∈ [11], zfl RX12 283 19 0 c := zall1 (⟨RX12, TX12, 39, "BookBargeModel", rfl, by decide, zw1437, Or.inl rfl, rfl⟩)
theorem zlp_X12_283_n (nm : String) : ∀ c ∈ [11], zfp RX12 nm 19 0 c := zall1 (⟨RX12, TX12, 39, rfl, Or.inl rfl⟩)
theorem zlt_4_11 : (4 : Nat) < 11 := by decide +kernel
theorem zn_b_15 : (Int8.ofInt 15).toInt32 = 15 := by decide +kernel
theorem zlt_5_11 : (5 : Nat) < 11 := by decide +kernel
theorem zlt_6_11 : (6 : Nat) < 11 := by decide +kernel
theorem zcal201 : zcal zm201 1 := ⟨zw1992, zw154, by decide +kernel⟩
theorem zpn201 : plainName (zm201).1.cls = true := by decide +kernel
theorem zli_X12_286 : zlk zG ((⟨RX12, "", ""⟩ : MethodName), ⟨#[]⟩, 0, none, [], [], 0, 0, true) (0, .invokevirtual 286, 201, 2, [11], 0, 0, []) := ⟨zall1 (⟨(RX12, TX12, 39), ⟨"BookBargeModel", "push", "(J)V"⟩, rfl, zw1989, zw1991, zw122, Or.inl ⟨rfl, by decide⟩⟩), zcal201, by decide, by decide, zpn201⟩
theorem zcal202 : zcal zm202 0 := ⟨zw1996, zw154, by decide +kernel⟩
theorem zpn202 : plainName (zm202).1.cls = true := by decide +kernel
theorem zli_X12_290 : zlk zG ((⟨RX12, "", ""⟩ : MethodName), ⟨#[]⟩, 0, none, [], [], 0, 0, true) (0, .invokevirtual 290, 202, 1, [11], 0, 0, []) := ⟨zall1 (⟨(RX12, TX12, 39), ⟨"BookBargeModel", "pop", "()J"⟩, rfl, zw1993, zw1995, zw123, Or.inl ⟨rfl, by decide⟩⟩), zcal202, by decide, by decide, zpn202⟩
theorem zlt_8_11 : (8 : Nat) < 11 := by decide +kernel
theorem zlt_10_11 : (10 : Nat) < 11 := by decide +kernel
theorem zcal203 : zcal zm203 3 := ⟨zw1999, zw154, by decide +kernel⟩
theorem zpn203 : plainName (zm203).1.cls = true := by decide +kernel
theorem zli_X12_294 : zlk zG ((⟨RX12, "", ""⟩ : MethodName), ⟨#[]⟩, 0, none, [], [], 0, 0, true) (0, .invokestatic 294, 203, 3, [], 0, 0, []) := ⟨zw1997, zw1998, zcal203, by decide, zpn203⟩
theorem zcal210 : zcal zm210 2 := ⟨zw1790, zw154, by decide +kernel⟩
theorem zpn210 : plainName (zm210).1.cls = true := by decide +kernel
theorem zli_X12_298 : zlk zG ((⟨RX12, "", ""⟩ : MethodName), ⟨#[]⟩, 0, none, [], [], 0, 0, true) (0, .invokevirtual 298, 210, 3, [11], 0, 0, []) := ⟨zall1 (⟨(RX12, TX12, 39), ⟨"BookBargeModel", "bargeOf", "(II)I"⟩, rfl, zw1787, zw1789, zw90, Or.inl ⟨rfl, by decide⟩⟩), zcal210, by decide, by decide, zpn210⟩
theorem zcal211 : zcal zm211 2 := ⟨zw1741, zw154, by decide +kernel⟩
theorem zpn211 : plainName (zm211).1.cls = true := by decide +kernel
theorem zli_X12_302 : zlk zG ((⟨RX12, "", ""⟩ : MethodName), ⟨#[]⟩, 0, none, [], [], 0, 0, true) (0, .invokevirtual 302, 211, 3, [11], 0, 0, []) := ⟨zall1 (⟨(RX12, TX12, 39), ⟨"BookBargeModel", "bookOf", "(II)I"⟩, rfl, zw1738, zw1740, zw79, Or.inl ⟨rfl, by decide⟩⟩), zcal211, by decide, by decide, zpn211⟩
theorem zcal216 : zcal zm216 2 := ⟨zw1774, zw154, by decide +kernel⟩
theorem zpn216 : plainName (zm216).1.cls = true := by decide +kernel
theorem zli_X12_309 : zlk zG ((⟨RX12, "", ""⟩ : MethodName), ⟨#[]⟩, 0, none, [], [], 0, 0, true) (0, .invokevirtual 309, 216, 3, [11], 0, 0, []) := ⟨zall1 (⟨(RX12, TX12, 39), ⟨"BookBargeModel", "isAboard", "(II)Z"⟩, rfl, zw1771, zw1773, zw86, Or.inl ⟨rfl, by decide⟩⟩), zcal216, by decide, by decide, zpn216⟩
theorem zlf_X12_312 : ∀ c ∈ [11], zfl RX12 312 23 0 c := zall1 (⟨RX12, TX12, 39, "BookBargeModel", rfl, by decide, zw1441, Or.inl rfl, rfl⟩)
theorem zcal156 : zcal zm156 2 := ⟨zw1793, zw154, by decide +kernel⟩
theorem zpn156 : plainName (zm156).1.cls = true := by decide +kernel
theorem zli_X12_315 : zlk zG ((⟨RX12, "", ""⟩ : MethodName), ⟨#[]⟩, 0, none, [], [], 0, 0, true) (0, .invokestatic 315, 156, 2, [], 0, 0, []) := ⟨zw1791, zw1792, zcal156, by decide, zpn156⟩
theorem zcal222 : zcal zm222 1 := ⟨zw1797, zw154, by decide +kernel⟩
theorem zpn222 : plainName (zm222).1.cls = true := by decide +kernel
theorem zli_X12_318 : zlk zG ((⟨RX12, "", ""⟩ : MethodName), ⟨#[]⟩, 0, none, [], [], 0, 0, true) (0, .invokevirtual 318, 222, 2, [11], 0, 0, []) := ⟨zall1 (⟨(RX12, TX12, 39), ⟨"BookBargeModel", "heavy", "(I)I"⟩, rfl, zw1794, zw1796, zw91, Or.inl ⟨rfl, by decide⟩⟩), zcal222, by decide, by decide, zpn222⟩
theorem zcal220 : zcal zm220 2 := ⟨zw1805, zw154, by decide +kernel⟩
theorem zpn220 : plainName (zm220).1.cls = true := by decide +kernel
theorem zli_X12_321 : zlk zG ((⟨RX12, "", ""⟩ : MethodName), ⟨#[]⟩, 0, none, [], [], 0, 0, true) (0, .invokevirtual 321, 220, 3, [11], 0, 0, []) := ⟨zall1 (⟨(RX12, TX12, 39), ⟨"BookBargeModel", "shelfIn", "(II)I"⟩, rfl, zw1802, zw1804, zw93, Or.inl ⟨rfl, by decide⟩⟩), zcal220, by decide, by decide, zpn220⟩
theorem zcal221 : zcal zm221 2 := ⟨zw1809, zw154, by decide +kernel⟩
theorem zpn221 : plainName (zm221).1.cls = true := by decide +kernel
theorem zli_X12_324 : zlk zG ((⟨RX12, "", ""⟩ : MethodName), ⟨#[]⟩, 0, none, [], [], 0, 0, true) (0, .invokevirtual 324, 221, 3, [11], 0, 0, []) := ⟨zall1 (⟨(RX12, TX12, 39), ⟨"BookBargeModel", "arm", "(II)I"⟩, rfl, zw1806, zw1808, zw94, Or.inl ⟨rfl, by decide⟩⟩), zcal221, by decide, by decide, zpn221⟩
theorem zcal223 : zcal zm223 2 := ⟨zw1786, zw154, by decide +kernel⟩
theorem zpn223 : plainName (zm223).1.cls = true := by decide +kernel
theorem zli_X12_327 : zlk zG ((⟨RX12, "", ""⟩ : MethodName), ⟨#[]⟩, 0, none, [], [], 0, 0, true) (0, .invokevirtual 327, 223, 3, [11], 0, 0, []) := ⟨zall1 (⟨(RX12, TX12, 39), ⟨"BookBargeModel", "loadBy", "(II)I"⟩, rfl, zw1783, zw1785, zw89, Or.inl ⟨rfl, by decide⟩⟩), zcal223, by decide, by decide, zpn223⟩
theorem zcal224 : zcal zm224 2 := ⟨zw1801, zw154, by decide +kernel⟩
theorem zpn224 : plainName (zm224).1.cls = true := by decide +kernel
theorem zli_X12_330 : zlk zG ((⟨RX12, "", ""⟩ : MethodName), ⟨#[]⟩, 0, none, [], [], 0, 0, true) (0, .invokevirtual 330, 224, 3, [11], 0, 0, []) := ⟨zall1 (⟨(RX12, TX12, 39), ⟨"BookBargeModel", "tiltBy", "(II)I"⟩, rfl, zw1798, zw1800, zw92, Or.inl ⟨rfl, by decide⟩⟩), zcal224, by decide, by decide, zpn224⟩
theorem zcal225 : zcal zm225 3 := ⟨zw1813, zw154, by decide +kernel⟩
theorem zpn225 : plainName (zm225).1.cls = true := by decide +kernel
theorem zli_X12_333 : zlk zG ((⟨RX12, "", ""⟩ : MethodName), ⟨#[]⟩, 0, none, [], [], 0, 0, true) (0, .invokevirtual 333, 225, 4, [11], 0, 0, []) := ⟨zall1 (⟨(RX12, TX12, 39), ⟨"BookBargeModel", "draughtOf", "(III)I"⟩, rfl, zw1810, zw1812, zw95, Or.inl ⟨rfl, by decide⟩⟩), zcal225, by decide, by decide, zpn225⟩
theorem zcal218 : zcal zm218 1 := ⟨zw1770, zw154, by decide +kernel⟩
theorem zpn218 : plainName (zm218).1.cls = true := by decide +kernel
theorem zli_X12_337 : zlk zG ((⟨RX12, "", ""⟩ : MethodName), ⟨#[]⟩, 0, none, [], [], 0, 0, true) (0, .invokevirtual 337, 218, 2, [11], 0, 0, []) := ⟨zall1 (⟨(RX12, TX12, 39), ⟨"BookBargeModel", "aboardOf", "(I)I"⟩, rfl, zw1767, zw1769, zw85, Or.inl ⟨rfl, by decide⟩⟩), zcal218, by decide, by decide, zpn218⟩
theorem zcal226 : zcal zm226 2 := ⟨zw1782, zw154, by decide +kernel⟩
theorem zpn226 : plainName (zm226).1.cls = true := by decide +kernel
theorem zli_X12_340 : zlk zG ((⟨RX12, "", ""⟩ : MethodName), ⟨#[]⟩, 0, none, [], [], 0, 0, true) (0, .invokevirtual 340, 226, 3, [11], 0, 0, []) := ⟨zall1 (⟨(RX12, TX12, 39), ⟨"BookBargeModel", "draughtBy", "(II)I"⟩, rfl, zw1779, zw1781, zw88, Or.inl ⟨rfl, by decide⟩⟩), zcal226, by decide, by decide, zpn226⟩
theorem zcal219 : zcal zm219 1 := ⟨zw1754, zw154, by decide +kernel⟩
theorem zpn219 : plainName (zm219).1.cls = true := by decide +kernel
theorem zli_X12_343 : zlk zG ((⟨RX12, "", ""⟩ : MethodName), ⟨#[]⟩, 0, none, [], [], 0, 0, true) (0, .invokevirtual 343, 219, 2, [11], 0, 0, []) := ⟨zall1 (⟨(RX12, TX12, 39), ⟨"BookBargeModel", "depthOf", "(I)I"⟩, rfl, zw1751, zw1753, zw81, Or.inl ⟨rfl, by decide⟩⟩), zcal219, by decide, by decide, zpn219⟩
theorem zcal228 : zcal zm228 3 := ⟨zw1778, zw154, by decide +kernel⟩
theorem zpn228 : plainName (zm228).1.cls = true := by decide +kernel
theorem zli_X12_346 : zlk zG ((⟨RX12, "", ""⟩ : MethodName), ⟨#[]⟩, 0, none, [], [], 0, 0, true) (0, .invokevirtual 346, 228, 4, [11], 0, 0, []) := ⟨zall1 (⟨(RX12, TX12, 39), ⟨"BookBargeModel", "passesBy", "(III)Z"⟩, rfl, zw1775, zw1777, zw87, Or.inl ⟨rfl, by decide⟩⟩), zcal228, by decide, by decide, zpn228⟩
theorem zcal206 : zcal zm206 1 := ⟨zw1736, zw154, by decide +kernel⟩
theorem zpn206 : plainName (zm206).1.cls = true := by decide +kernel
theorem zli_X12_349 : zlk zG ((⟨RX12, "", ""⟩ : MethodName), ⟨#[]⟩, 0, none, [], [], 0, 0, true) (0, .invokevirtual 349, 206, 2, [11], 0, 0, []) := ⟨zall1 (⟨(RX12, TX12, 39), ⟨"BookBargeModel", "isBook", "(I)Z"⟩, rfl, zw1733, zw1735, zw78, Or.inl ⟨rfl, by decide⟩⟩), zcal206, by decide, by decide, zpn206⟩
theorem zcal207 : zcal zm207 1 := ⟨zw1749, zw154, by decide +kernel⟩
theorem zpn207 : plainName (zm207).1.cls = true := by decide +kernel
theorem zli_X12_354 : zlk zG ((⟨RX12, "", ""⟩ : MethodName), ⟨#[]⟩, 0, none, [], [], 0, 0, true) (0, .invokevirtual 354, 207, 2, [11], 0, 0, []) := ⟨zall1 (⟨(RX12, TX12, 39), ⟨"BookBargeModel", "isStop", "(I)Z"⟩, rfl, zw1746, zw1748, zw80, Or.inl ⟨rfl, by decide⟩⟩), zcal207, by decide, by decide, zpn207⟩
theorem zcal231 : zcal zm231 1 := ⟨zw1758, zw154, by decide +kernel⟩
theorem zpn231 : plainName (zm231).1.cls = true := by decide +kernel
theorem zli_X12_359 : zlk zG ((⟨RX12, "", ""⟩ : MethodName), ⟨#[]⟩, 0, none, [], [], 0, 0, true) (0, .invokevirtual 359, 231, 2, [11], 0, 0, []) := ⟨zall1 (⟨(RX12, TX12, 39), ⟨"BookBargeModel", "leftAt", "(I)I"⟩, rfl, zw1755, zw1757, zw82, Or.inl ⟨rfl, by decide⟩⟩), zcal231, by decide, by decide, zpn231⟩
theorem zcal205 : zcal zm205 1 := ⟨zw1762, zw154, by decide +kernel⟩
theorem zpn205 : plainName (zm205).1.cls = true := by decide +kernel
theorem zli_X12_362 : zlk zG ((⟨RX12, "", ""⟩ : MethodName), ⟨#[]⟩, 0, none, [], [], 0, 0, true) (0, .invokevirtual 362, 205, 2, [11], 0, 0, []) := ⟨zall1 (⟨(RX12, TX12, 39), ⟨"BookBargeModel", "isBarge", "(I)Z"⟩, rfl, zw1759, zw1761, zw83, Or.inl ⟨rfl, by decide⟩⟩), zcal205, by decide, by decide, zpn205⟩
theorem zcal229 : zcal zm229 2 := ⟨zw1766, zw154, by decide +kernel⟩
theorem zpn229 : plainName (zm229).1.cls = true := by decide +kernel
theorem zli_X12_365 : zlk zG ((⟨RX12, "", ""⟩ : MethodName), ⟨#[]⟩, 0, none, [], [], 0, 0, true) (0, .invokevirtual 365, 229, 3, [11], 0, 0, []) := ⟨zall1 (⟨(RX12, TX12, 39), ⟨"BookBargeModel", "passesNow", "(II)Z"⟩, rfl, zw1763, zw1765, zw84, Or.inl ⟨rfl, by decide⟩⟩), zcal229, by decide, by decide, zpn229⟩
theorem zcal212 : zcal zm212 2 := ⟨zw1817, zw154, by decide +kernel⟩
theorem zpn212 : plainName (zm212).1.cls = true := by decide +kernel
theorem zli_X12_368 : zlk zG ((⟨RX12, "", ""⟩ : MethodName), ⟨#[]⟩, 0, none, [], [], 0, 0, true) (0, .invokevirtual 368, 212, 3, [11], 0, 0, []) := ⟨zall1 (⟨(RX12, TX12, 39), ⟨"BookBargeModel", "readerOf", "(II)I"⟩, rfl, zw1814, zw1816, zw96, Or.inl ⟨rfl, by decide⟩⟩), zcal212, by decide, by decide, zpn212⟩
theorem zcal208 : zcal zm208 1 := ⟨zw1825, zw154, by decide +kernel⟩
theorem zpn208 : plainName (zm208).1.cls = true := by decide +kernel
theorem zli_X12_371 : zlk zG ((⟨RX12, "", ""⟩ : MethodName), ⟨#[]⟩, 0, none, [], [], 0, 0, true) (0, .invokevirtual 371, 208, 2, [11], 0, 0, []) := ⟨zall1 (⟨(RX12, TX12, 39), ⟨"BookBargeModel", "isReader", "(I)Z"⟩, rfl, zw1822, zw1824, zw97, Or.inl ⟨rfl, by decide⟩⟩), zcal208, by decide, by decide, zpn208⟩
theorem zcal213 : zcal zm213 2 := ⟨zw1833, zw154, by decide +kernel⟩
theorem zpn213 : plainName (zm213).1.cls = true := by decide +kernel
theorem zli_X12_374 : zlk zG ((⟨RX12, "", ""⟩ : MethodName), ⟨#[]⟩, 0, none, [], [], 0, 0, true) (0, .invokevirtual 374, 213, 3, [11], 0, 0, []) := ⟨zall1 (⟨(RX12, TX12, 39), ⟨"BookBargeModel", "wishOf", "(II)I"⟩, rfl, zw1830, zw1832, zw98, Or.inl ⟨rfl, by decide⟩⟩), zcal213, by decide, by decide, zpn213⟩
theorem zcal209 : zcal zm209 1 := ⟨zw1841, zw154, by decide +kernel⟩
theorem zpn209 : plainName (zm209).1.cls = true := by decide +kernel
theorem zli_X12_377 : zlk zG ((⟨RX12, "", ""⟩ : MethodName), ⟨#[]⟩, 0, none, [], [], 0, 0, true) (0, .invokevirtual 377, 209, 2, [11], 0, 0, []) := ⟨zall1 (⟨(RX12, TX12, 39), ⟨"BookBargeModel", "isHole", "(I)Z"⟩, rfl, zw1838, zw1840, zw99, Or.inl ⟨rfl, by decide⟩⟩), zcal209, by decide, by decide, zpn209⟩
theorem zcal214 : zcal zm214 2 := ⟨zw1846, zw154, by decide +kernel⟩
theorem zpn214 : plainName (zm214).1.cls = true := by decide +kernel
theorem zli_X12_382 : zlk zG ((⟨RX12, "", ""⟩ : MethodName), ⟨#[]⟩, 0, none, [], [], 0, 0, true) (0, .invokevirtual 382, 214, 3, [11], 0, 0, []) := ⟨zall1 (⟨(RX12, TX12, 39), ⟨"BookBargeModel", "holeOf", "(II)I"⟩, rfl, zw1843, zw1845, zw100, Or.inl ⟨rfl, by decide⟩⟩), zcal214, by decide, by decide, zpn214⟩
theorem zcal227 : zcal zm227 1 := ⟨zw1855, zw154, by decide +kernel⟩
theorem zpn227 : plainName (zm227).1.cls = true := by decide +kernel
theorem zli_X12_386 : zlk zG ((⟨RX12, "", ""⟩ : MethodName), ⟨#[]⟩, 0, none, [], [], 0, 0, true) (0, .invokevirtual 386, 227, 2, [11], 0, 0, []) := ⟨zall1 (⟨(RX12, TX12, 39), ⟨"BookBargeModel", "draughtNow", "(I)I"⟩, rfl, zw1852, zw1854, zw101, Or.inl ⟨rfl, by decide⟩⟩), zcal227, by decide, by decide, zpn227⟩
theorem zcal215 : zcal zm215 1 := ⟨zw1859, zw154, by decide +kernel⟩
theorem zpn215 : plainName (zm215).1.cls = true := by decide +kernel
theorem zli_X12_389 : zlk zG ((⟨RX12, "", ""⟩ : MethodName), ⟨#[]⟩, 0, none, [], [], 0, 0, true) (0, .invokevirtual 389, 215, 2, [11], 0, 0, []) := ⟨zall1 (⟨(RX12, TX12, 39), ⟨"BookBargeModel", "stopOf", "(I)I"⟩, rfl, zw1856, zw1858, zw102, Or.inl ⟨rfl, by decide⟩⟩), zcal215, by decide, by decide, zpn215⟩
theorem zcal217 : zcal zm217 1 := ⟨zw1871, zw154, by decide +kernel⟩
theorem zpn217 : plainName (zm217).1.cls = true := by decide +kernel
theorem zli_X12_392 : zlk zG ((⟨RX12, "", ""⟩ : MethodName), ⟨#[]⟩, 0, none, [], [], 0, 0, true) (0, .invokevirtual 392, 217, 2, [11], 0, 0, []) := ⟨zall1 (⟨(RX12, TX12, 39), ⟨"BookBargeModel", "bargeWith", "(I)I"⟩, rfl, zw1868, zw1870, zw103, Or.inl ⟨rfl, by decide⟩⟩), zcal217, by decide, by decide, zpn217⟩
theorem zcal237 : zcal zm237 0 := ⟨zw1877, zw154, by decide +kernel⟩
theorem zpn237 : plainName (zm237).1.cls = true := by decide +kernel
theorem zli_X12_395 : zlk zG ((⟨RX12, "", ""⟩ : MethodName), ⟨#[]⟩, 0, none, [], [], 0, 0, true) (0, .invokevirtual 395, 237, 1, [11], 0, 0, []) := ⟨zall1 (⟨(RX12, TX12, 39), ⟨"BookBargeModel", "keepsAct", "()V"⟩, rfl, zw1874, zw1876, zw104, Or.inl ⟨rfl, by decide⟩⟩), zcal237, by decide, by decide, zpn237⟩
theorem zcal239 : zcal zm239 2 := ⟨zw1881, zw154, by decide +kernel⟩
theorem zpn239 : plainName (zm239).1.cls = true := by decide +kernel
theorem zli_X12_398 : zlk zG ((⟨RX12, "", ""⟩ : MethodName), ⟨#[]⟩, 0, none, [], [], 0, 0, true) (0, .invokevirtual 398, 239, 3, [11], 0, 0, []) := ⟨zall1 (⟨(RX12, TX12, 39), ⟨"BookBargeModel", "stands", "(II)V"⟩, rfl, zw1878, zw1880, zw105, Or.inl ⟨rfl, by decide⟩⟩), zcal239, by decide, by decide, zpn239⟩
theorem zcal241 : zcal zm241 2 := ⟨zw1889, zw154, by decide +kernel⟩
theorem zpn241 : plainName (zm241).1.cls = true := by decide +kernel
theorem zli_X12_401 : zlk zG ((⟨RX12, "", ""⟩ : MethodName), ⟨#[]⟩, 0, none, [], [], 0, 0, true) (0, .invokevirtual 401, 241, 3, [11], 0, 0, []) := ⟨zall1 (⟨(RX12, TX12, 39), ⟨"BookBargeModel", "canLend", "(II)Z"⟩, rfl, zw1886, zw1888, zw106, Or.inl ⟨rfl, by decide⟩⟩), zcal241, by decide, by decide, zpn241⟩
theorem zcal242 : zcal zm242 2 := ⟨zw1893, zw154, by decide +kernel⟩
theorem zpn242 : plainName (zm242).1.cls = true := by decide +kernel
theorem zli_X12_404 : zlk zG ((⟨RX12, "", ""⟩ : MethodName), ⟨#[]⟩, 0, none, [], [], 0, 0, true) (0, .invokevirtual 404, 242, 3, [11], 0, 0, []) := ⟨zall1 (⟨(RX12, TX12, 39), ⟨"BookBargeModel", "lends", "(II)V"⟩, rfl, zw1890, zw1892, zw107, Or.inl ⟨rfl, by decide⟩⟩), zcal242, by decide, by decide, zpn242⟩
theorem zcal246 : zcal zm246 2 := ⟨zw1901, zw154, by decide +kernel⟩
theorem zpn246 : plainName (zm246).1.cls = true := by decide +kernel
theorem zli_X12_411 : zlk zG ((⟨RX12, "", ""⟩ : MethodName), ⟨#[]⟩, 0, none, [], [], 0, 0, true) (0, .invokevirtual 411, 246, 3, [11], 0, 0, []) := ⟨zall1 (⟨(RX12, TX12, 39), ⟨"BookBargeModel", "isShelf", "(II)Z"⟩, rfl, zw1898, zw1900, zw108, Or.inl ⟨rfl, by decide⟩⟩), zcal246, by decide, by decide, zpn246⟩
theorem zcal244 : zcal zm244 2 := ⟨zw1905, zw154, by decide +kernel⟩
theorem zpn244 : plainName (zm244).1.cls = true := by decide +kernel
theorem zli_X12_414 : zlk zG ((⟨RX12, "", ""⟩ : MethodName), ⟨#[]⟩, 0, none, [], [], 0, 0, true) (0, .invokevirtual 414, 244, 3, [11], 0, 0, []) := ⟨zall1 (⟨(RX12, TX12, 39), ⟨"BookBargeModel", "canFetch", "(II)Z"⟩, rfl, zw1902, zw1904, zw109, Or.inl ⟨rfl, by decide⟩⟩), zcal244, by decide, by decide, zpn244⟩
theorem zcal245 : zcal zm245 3 := ⟨zw1911, zw154, by decide +kernel⟩
theorem zpn245 : plainName (zm245).1.cls = true := by decide +kernel
theorem zli_X12_417 : zlk zG ((⟨RX12, "", ""⟩ : MethodName), ⟨#[]⟩, 0, none, [], [], 0, 0, true) (0, .invokevirtual 417, 245, 4, [11], 0, 0, []) := ⟨zall1 (⟨(RX12, TX12, 39), ⟨"BookBargeModel", "fetches", "(III)V"⟩, rfl, zw1908, zw1910, zw110, Or.inl ⟨rfl, by decide⟩⟩), zcal245, by decide, by decide, zpn245⟩
theorem zcal251 : zcal zm251 0 := ⟨zw1931, zw154, by decide +kernel⟩
theorem zpn251 : plainName (zm251).1.cls = true := by decide +kernel
theorem zli_X12_421 : zlk zG ((⟨RX12, "", ""⟩ : MethodName), ⟨#[]⟩, 0, none, [], [], 0, 0, true) (0, .invokevirtual 421, 251, 1, [11], 0, 0, []) := ⟨zall1 (⟨(RX12, TX12, 39), ⟨"BookBargeModel", "nights", "()V"⟩, rfl, zw1928, zw1930, zw111, Or.inl ⟨rfl, by decide⟩⟩), zcal251, by decide, by decide, zpn251⟩
theorem zcal253 : zcal zm253 0 := ⟨zw1939, zw154, by decide +kernel⟩
theorem zpn253 : plainName (zm253).1.cls = true := by decide +kernel
theorem zli_X12_424 : zlk zG ((⟨RX12, "", ""⟩ : MethodName), ⟨#[]⟩, 0, none, [], [], 0, 0, true) (0, .invokevirtual 424, 253, 1, [11], 0, 0, []) := ⟨zall1 (⟨(RX12, TX12, 39), ⟨"BookBargeModel", "dry", "()I"⟩, rfl, zw1936, zw1938, zw112, Or.inl ⟨rfl, by decide⟩⟩), zcal253, by decide, by decide, zpn253⟩
theorem zcal254 : zcal zm254 0 := ⟨zw1943, zw154, by decide +kernel⟩
theorem zpn254 : plainName (zm254).1.cls = true := by decide +kernel
theorem zli_X12_427 : zlk zG ((⟨RX12, "", ""⟩ : MethodName), ⟨#[]⟩, 0, none, [], [], 0, 0, true) (0, .invokevirtual 427, 254, 1, [11], 0, 0, []) := ⟨zall1 (⟨(RX12, TX12, 39), ⟨"BookBargeModel", "rains", "()V"⟩, rfl, zw1940, zw1942, zw113, Or.inl ⟨rfl, by decide⟩⟩), zcal254, by decide, by decide, zpn254⟩
theorem zcal257 : zcal zm257 2 := ⟨zw1955, zw154, by decide +kernel⟩
theorem zpn257 : plainName (zm257).1.cls = true := by decide +kernel
theorem zli_X12_430 : zlk zG ((⟨RX12, "", ""⟩ : MethodName), ⟨#[]⟩, 0, none, [], [], 0, 0, true) (0, .invokevirtual 430, 257, 3, [11], 0, 0, []) := ⟨zall1 (⟨(RX12, TX12, 39), ⟨"BookBargeModel", "couldPlug", "(II)Z"⟩, rfl, zw1952, zw1954, zw114, Or.inl ⟨rfl, by decide⟩⟩), zcal257, by decide, by decide, zpn257⟩
theorem zcal259 : zcal zm259 2 := ⟨zw1980, zw154, by decide +kernel⟩
theorem zpn259 : plainName (zm259).1.cls = true := by decide +kernel
theorem zli_X12_433 : zlk zG ((⟨RX12, "", ""⟩ : MethodName), ⟨#[]⟩, 0, none, [], [], 0, 0, true) (0, .invokevirtual 433, 259, 3, [11], 0, 0, []) := ⟨zall1 (⟨(RX12, TX12, 39), ⟨"BookBargeModel", "bestReader", "(II)I"⟩, rfl, zw1977, zw1979, zw119, Or.inl ⟨rfl, by decide⟩⟩), zcal259, by decide, by decide, zpn259⟩
theorem zcal204 : zcal zm204 3 := ⟨zw1988, zw154, by decide +kernel⟩
theorem zpn204 : plainName (zm204).1.cls = true := by decide +kernel
theorem zli_X12_436 : zlk zG ((⟨RX12, "", ""⟩ : MethodName), ⟨#[]⟩, 0, none, [], [], 0, 0, true) (0, .invokevirtual 436, 204, 4, [11], 0, 0, []) := ⟨zall1 (⟨(RX12, TX12, 39), ⟨"BookBargeModel", "reckons", "(III)J"⟩, rfl, zw1985, zw1987, zw121, Or.inl ⟨rfl, by decide⟩⟩), zcal204, by decide, by decide, zpn204⟩
theorem zcal260 : zcal zm260 2 := ⟨zw1976, zw154, by decide +kernel⟩
theorem zpn260 : plainName (zm260).1.cls = true := by decide +kernel
theorem zli_X12_440 : zlk zG ((⟨RX12, "", ""⟩ : MethodName), ⟨#[]⟩, 0, none, [], [], 0, 0, true) (0, .invokevirtual 440, 260, 3, [11], 0, 0, []) := ⟨zall1 (⟨(RX12, TX12, 39), ⟨"BookBargeModel", "words", "(II)V"⟩, rfl, zw1973, zw1975, zw118, Or.inl ⟨rfl, by decide⟩⟩), zcal260, by decide, by decide, zpn260⟩
theorem zcal261 : zcal zm261 2 := ⟨zw1984, zw154, by decide +kernel⟩
theorem zpn261 : plainName (zm261).1.cls = true := by decide +kernel
theorem zli_X12_443 : zlk zG ((⟨RX12, "", ""⟩ : MethodName), ⟨#[]⟩, 0, none, [], [], 0, 0, true) (0, .invokevirtual 443, 261, 3, [11], 0, 0, []) := ⟨zall1 (⟨(RX12, TX12, 39), ⟨"BookBargeModel", "holds", "(II)Z"⟩, rfl, zw1981, zw1983, zw120, Or.inl ⟨rfl, by decide⟩⟩), zcal261, by decide, by decide, zpn261⟩
theorem zlt_3_10 : (3 : Nat) < 10 := by decide +kernel
theorem zcal262 : zcal zm262 4 := ⟨zw1972, zw154, by decide +kernel⟩
theorem zpn262 : plainName (zm262).1.cls = true := by decide +kernel
theorem zli_X12_446 : zlk zG ((⟨RX12, "", ""⟩ : MethodName), ⟨#[]⟩, 0, none, [], [], 0, 0, true) (0, .invokevirtual 446, 262, 5, [11], 0, 0, []) := ⟨zall1 (⟨(RX12, TX12, 39), ⟨"BookBargeModel", "clauseFor", "(IIII)I"⟩, rfl, zw1969, zw1971, zw117, Or.inl ⟨rfl, by decide⟩⟩), zcal262, by decide, by decide, zpn262⟩
theorem zcal263 : zcal zm263 2 := ⟨zw2007, zw154, by decide +kernel⟩
theorem zpn263 : plainName (zm263).1.cls = true := by decide +kernel
theorem zli_X12_450 : zlk zG ((⟨RX12, "", ""⟩ : MethodName), ⟨#[]⟩, 0, none, [], [], 0, 0, true) (0, .invokevirtual 450, 263, 3, [11], 0, 0, []) := ⟨zall1 (⟨(RX12, TX12, 39), ⟨"BookBargeModel", "nextFor", "(II)I"⟩, rfl, zw2004, zw2006, zw125, Or.inl ⟨rfl, by decide⟩⟩), zcal263, by decide, by decide, zpn263⟩
theorem zlf_X12_453 : ∀ c ∈ [11], zfl RX12 453 26 0 c := zall1 (⟨RX12, TX12, 39, "BookBargeModel", rfl, by decide, zw1444, Or.inl rfl, rfl⟩)
theorem zlp_X12_453_n (nm : String) : ∀ c ∈ [11], zfp RX12 nm 26 0 c := zall1 (⟨RX12, TX12, 39, rfl, Or.inl rfl⟩)
theorem zlf_X12_456 : ∀ c ∈ [11], zfl RX12 456 27 0 c := zall1 (⟨RX12, TX12, 39, "BookBargeModel", rfl, by decide, zw1445, Or.inl rfl, rfl⟩)
theorem zlp_X12_456_n (nm : String) : ∀ c ∈ [11], zfp RX12 nm 27 0 c := zall1 (⟨RX12, TX12, 39, rfl, Or.inl rfl⟩)
theorem zcal264 : zcal zm264 3 := ⟨zw2003, zw154, by decide +kernel⟩
theorem zpn264 : plainName (zm264).1.cls = true := by decide +kernel
theorem zli_X12_459 : zlk zG ((⟨RX12, "", ""⟩ : MethodName), ⟨#[]⟩, 0, none, [], [], 0, 0, true) (0, .invokevirtual 459, 264, 4, [11], 0, 0, []) := ⟨zall1 (⟨(RX12, TX12, 39), ⟨"BookBargeModel", "lightens", "(III)Z"⟩, rfl, zw2000, zw2002, zw124, Or.inl ⟨rfl, by decide⟩⟩), zcal264, by decide, by decide, zpn264⟩
theorem zcal200 : zcal zm200 1 := ⟨zw1963, zw154, by decide +kernel⟩
theorem zpn200 : plainName (zm200).1.cls = true := by decide +kernel
theorem zli_X12_462 : zlk zG ((⟨RX12, "", ""⟩ : MethodName), ⟨#[]⟩, 0, none, [], [], 0, 0, true) (0, .invokevirtual 462, 200, 2, [11], 0, 0, []) := ⟨zall1 (⟨(RX12, TX12, 39), ⟨"BookBargeModel", "isRule", "(I)Z"⟩, rfl, zw1960, zw1962, zw115, Or.inl ⟨rfl, by decide⟩⟩), zcal200, by decide, by decide, zpn200⟩
theorem zcal265 : zcal zm265 2 := ⟨zw1968, zw154, by decide +kernel⟩
theorem zpn265 : plainName (zm265).1.cls = true := by decide +kernel
theorem zli_X12_467 : zlk zG ((⟨RX12, "", ""⟩ : MethodName), ⟨#[]⟩, 0, none, [], [], 0, 0, true) (0, .invokevirtual 467, 265, 3, [11], 0, 0, []) := ⟨zall1 (⟨(RX12, TX12, 39), ⟨"BookBargeModel", "goesOn", "(II)Z"⟩, rfl, zw1965, zw1967, zw116, Or.inl ⟨rfl, by decide⟩⟩), zcal265, by decide, by decide, zpn265⟩
theorem zcal268 : zcal zm268 2 := ⟨zw2015, zw154, by decide +kernel⟩
theorem zpn268 : plainName (zm268).1.cls = true := by decide +kernel
theorem zli_X12_470 : zlk zG ((⟨RX12, "", ""⟩ : MethodName), ⟨#[]⟩, 0, none, [], [], 0, 0, true) (0, .invokevirtual 470, 268, 3, [11], 0, 0, []) := ⟨zall1 (⟨(RX12, TX12, 39), ⟨"BookBargeModel", "leastDepth", "(II)I"⟩, rfl, zw2012, zw2014, zw126, Or.inl ⟨rfl, by decide⟩⟩), zcal268, by decide, by decide, zpn268⟩
theorem zcal267 : zcal zm267 1 := ⟨zw2019, zw154, by decide +kernel⟩
theorem zpn267 : plainName (zm267).1.cls = true := by decide +kernel
theorem zli_X12_473 : zlk zG ((⟨RX12, "", ""⟩ : MethodName), ⟨#[]⟩, 0, none, [], [], 0, 0, true) (0, .invokevirtual 473, 267, 2, [11], 0, 0, []) := ⟨zall1 (⟨(RX12, TX12, 39), ⟨"BookBargeModel", "worthOf", "(I)I"⟩, rfl, zw2016, zw2018, zw127, Or.inl ⟨rfl, by decide⟩⟩), zcal267, by decide, by decide, zpn267⟩
theorem zcal157 : zcal zm157 1 := ⟨zw2022, zw154, by decide +kernel⟩
theorem zpn157 : plainName (zm157).1.cls = true := by decide +kernel
theorem zli_X12_476 : zlk zG ((⟨RX12, "", ""⟩ : MethodName), ⟨#[]⟩, 0, none, [], [], 0, 0, true) (0, .invokestatic 476, 157, 1, [], 0, 0, []) := ⟨zw2020, zw2021, zcal157, by decide, zpn157⟩
theorem zcal270 : zcal zm270 4 := ⟨zw2051, zw154, by decide +kernel⟩
theorem zpn270 : plainName (zm270).1.cls = true := by decide +kernel
theorem zli_X12_479 : zlk zG ((⟨RX12, "", ""⟩ : MethodName), ⟨#[]⟩, 0, none, [], [], 0, 0, true) (0, .invokevirtual 479, 270, 5, [11], 0, 0, []) := ⟨zall1 (⟨(RX12, TX12, 39), ⟨"BookBargeModel", "canAsk", "(IIII)Z"⟩, rfl, zw2048, zw2050, zw133, Or.inl ⟨rfl, by decide⟩⟩), zcal270, by decide, by decide, zpn270⟩
theorem zcal271 : zcal zm271 3 := ⟨zw2055, zw154, by decide +kernel⟩
theorem zpn271 : plainName (zm271).1.cls = true := by decide +kernel
theorem zli_X12_483 : zlk zG ((⟨RX12, "", ""⟩ : MethodName), ⟨#[]⟩, 0, none, [], [], 0, 0, true) (0, .invokevirtual 483, 271, 4, [11], 0, 0, []) := ⟨zall1 (⟨(RX12, TX12, 39), ⟨"BookBargeModel", "nextBook", "(III)I"⟩, rfl, zw2052, zw2054, zw134, Or.inl ⟨rfl, by decide⟩⟩), zcal271, by decide, by decide, zpn271⟩
theorem zlf_X12_486 : ∀ c ∈ [11], zfl RX12 486 30 0 c := zall1 (⟨RX12, TX12, 39, "BookBargeModel", rfl, by decide, zw1448, Or.inl rfl, rfl⟩)
theorem zlp_X12_486_n (nm : String) : ∀ c ∈ [11], zfp RX12 nm 30 0 c := zall1 (⟨RX12, TX12, 39, rfl, Or.inl rfl⟩)
theorem zcal273 : zcal zm273 2 := ⟨zw2043, zw154, by decide +kernel⟩
theorem zpn273 : plainName (zm273).1.cls = true := by decide +kernel
theorem zli_X12_489 : zlk zG ((⟨RX12, "", ""⟩ : MethodName), ⟨#[]⟩, 0, none, [], [], 0, 0, true) (0, .invokevirtual 489, 273, 3, [11], 0, 0, []) := ⟨zall1 (⟨(RX12, TX12, 39), ⟨"BookBargeModel", "coinsOf", "(II)I"⟩, rfl, zw2040, zw2042, zw131, Or.inl ⟨rfl, by decide⟩⟩), zcal273, by decide, by decide, zpn273⟩
theorem zcal272 : zcal zm272 3 := ⟨zw2047, zw154, by decide +kernel⟩
theorem zpn272 : plainName (zm272).1.cls = true := by decide +kernel
theorem zli_X12_492 : zlk zG ((⟨RX12, "", ""⟩ : MethodName), ⟨#[]⟩, 0, none, [], [], 0, 0, true) (0, .invokevirtual 492, 272, 4, [11], 0, 0, []) := ⟨zall1 (⟨(RX12, TX12, 39), ⟨"BookBargeModel", "nextRow", "(III)Z"⟩, rfl, zw2044, zw2046, zw132, Or.inl ⟨rfl, by decide⟩⟩), zcal272, by decide, by decide, zpn272⟩
theorem zcal274 : zcal zm274 3 := ⟨zw2039, zw154, by decide +kernel⟩
theorem zpn274 : plainName (zm274).1.cls = true := by decide +kernel
theorem zli_X12_495 : zlk zG ((⟨RX12, "", ""⟩ : MethodName), ⟨#[]⟩, 0, none, [], [], 0, 0, true) (0, .invokevirtual 495, 274, 4, [11], 0, 0, []) := ⟨zall1 (⟨(RX12, TX12, 39), ⟨"BookBargeModel", "tellsThrough", "(III)V"⟩, rfl, zw2036, zw2038, zw130, Or.inl ⟨rfl, by decide⟩⟩), zcal274, by decide, by decide, zpn274⟩
theorem zcal276 : zcal zm276 2 := ⟨zw2030, zw154, by decide +kernel⟩
theorem zpn276 : plainName (zm276).1.cls = true := by decide +kernel
theorem zli_X12_498 : zlk zG ((⟨RX12, "", ""⟩ : MethodName), ⟨#[]⟩, 0, none, [], [], 0, 0, true) (0, .invokevirtual 498, 276, 3, [11], 0, 0, []) := ⟨zall1 (⟨(RX12, TX12, 39), ⟨"BookBargeModel", "isAhead", "(II)Z"⟩, rfl, zw2027, zw2029, zw128, Or.inl ⟨rfl, by decide⟩⟩), zcal276, by decide, by decide, zpn276⟩
theorem zcal275 : zcal zm275 3 := ⟨zw2035, zw154, by decide +kernel⟩
theorem zpn275 : plainName (zm275).1.cls = true := by decide +kernel
theorem zli_X12_503 : zlk zG ((⟨RX12, "", ""⟩ : MethodName), ⟨#[]⟩, 0, none, [], [], 0, 0, true) (0, .invokevirtual 503, 275, 4, [11], 0, 0, []) := ⟨zall1 (⟨(RX12, TX12, 39), ⟨"BookBargeModel", "mostCoins", "(III)I"⟩, rfl, zw2032, zw2034, zw129, Or.inl ⟨rfl, by decide⟩⟩), zcal275, by decide, by decide, zpn275⟩
theorem zlp_X12_312_n (nm : String) : ∀ c ∈ [11], zfp RX12 nm 23 0 c := zall1 (⟨RX12, TX12, 39, rfl, Or.inl rfl⟩)
theorem zcal282 : zcal zm282 1 := ⟨zw2080, zw154, by decide +kernel⟩
theorem zpn282 : plainName (zm282).1.cls = true := by decide +kernel
theorem zli_X12_508 : zlk zG ((⟨RX12, "", ""⟩ : MethodName), ⟨#[]⟩, 0, none, [], [], 0, 0, true) (0, .invokevirtual 508, 282, 2, [11], 0, 0, []) := ⟨zall1 (⟨(RX12, TX12, 39), ⟨"BookBargeModel", "isPlugRow", "(I)Z"⟩, rfl, zw2077, zw2079, zw135, Or.inl ⟨rfl, by decide⟩⟩), zcal282, by decide, by decide, zpn282⟩
theorem zcal283 : zcal zm283 1 := ⟨zw2084, zw154, by decide +kernel⟩
theorem zpn283 : plainName (zm283).1.cls = true := by decide +kernel
theorem zli_X12_511 : zlk zG ((⟨RX12, "", ""⟩ : MethodName), ⟨#[]⟩, 0, none, [], [], 0, 0, true) (0, .invokevirtual 511, 283, 2, [11], 0, 0, []) := ⟨zall1 (⟨(RX12, TX12, 39), ⟨"BookBargeModel", "plugWorth", "(I)I"⟩, rfl, zw2081, zw2083, zw136, Or.inl ⟨rfl, by decide⟩⟩), zcal283, by decide, by decide, zpn283⟩
theorem zcal284 : zcal zm284 1 := ⟨zw2088, zw154, by decide +kernel⟩
theorem zpn284 : plainName (zm284).1.cls = true := by decide +kernel
theorem zli_X12_514 : zlk zG ((⟨RX12, "", ""⟩ : MethodName), ⟨#[]⟩, 0, none, [], [], 0, 0, true) (0, .invokevirtual 514, 284, 2, [11], 0, 0, []) := ⟨zall1 (⟨(RX12, TX12, 39), ⟨"BookBargeModel", "nextPlugRow", "(I)Z"⟩, rfl, zw2085, zw2087, zw137, Or.inl ⟨rfl, by decide⟩⟩), zcal284, by decide, by decide, zpn284⟩
theorem zlf_X12_517 : ∀ c ∈ [11], zfl RX12 517 22 0 c := zall1 (⟨RX12, TX12, 39, "BookBargeModel", rfl, by decide, zw1440, Or.inl rfl, rfl⟩)
theorem zlp_X12_517_n (nm : String) : ∀ c ∈ [11], zfp RX12 nm 22 0 c := zall1 (⟨RX12, TX12, 39, rfl, Or.inl rfl⟩)
theorem zlf_X12_520 : ∀ c ∈ [11], zfl RX12 520 35 1 c := zall1 (⟨RX12, TX12, 39, "BookBargeModel", rfl, by decide, zw1453, Or.inl rfl, rfl⟩)
theorem zlp_X12_520_n (nm : String) : ∀ c ∈ [11], zfp RX12 nm 35 0 c := zall1 (⟨RX12, TX12, 39, rfl, Or.inl rfl⟩)
theorem zcal289 : zcal zm289 1 := ⟨zw2109, zw154, by decide +kernel⟩
theorem zpn289 : plainName (zm289).1.cls = true := by decide +kernel
theorem zli_X12_532 : zlk zG ((⟨RX12, "", ""⟩ : MethodName), ⟨#[]⟩, 0, none, [], [], 0, 0, true) (0, .invokevirtual 532, 289, 2, [11], 0, 0, []) := ⟨zall1 (⟨(RX12, TX12, 39), ⟨"BookBargeModel", "draw", "(I)I"⟩, rfl, zw2106, zw2108, zw140, Or.inl ⟨rfl, by decide⟩⟩), zcal289, by decide, by decide, zpn289⟩
theorem zlt_7_11 : (7 : Nat) < 11 := by decide +kernel
theorem zcal287 : zcal zm287 0 := ⟨zw2101, zw154, by decide +kernel⟩
theorem zpn287 : plainName (zm287).1.cls = true := by decide +kernel
theorem zli_X12_537 : zlk zG ((⟨RX12, "", ""⟩ : MethodName), ⟨#[]⟩, 0, none, [], [], 0, 0, true) (0, .invokevirtual 537, 287, 1, [11], 0, 0, []) := ⟨zall1 (⟨(RX12, TX12, 39), ⟨"BookBargeModel", "keeps", "()V"⟩, rfl, zw2098, zw2100, zw138, Or.inl ⟨rfl, by decide⟩⟩), zcal287, by decide, by decide, zpn287⟩
theorem zlt_9_11 : (9 : Nat) < 11 := by decide +kernel
theorem zcal290 : zcal zm290 2 := ⟨zw2105, zw154, by decide +kernel⟩
theorem zpn290 : plainName (zm290).1.cls = true := by decide +kernel
theorem zli_X12_540 : zlk zG ((⟨RX12, "", ""⟩ : MethodName), ⟨#[]⟩, 0, none, [], [], 0, 0, true) (0, .invokevirtual 540, 290, 3, [11], 0, 0, []) := ⟨zall1 (⟨(RX12, TX12, 39), ⟨"BookBargeModel", "weathers", "(II)V"⟩, rfl, zw2102, zw2104, zw139, Or.inl ⟨rfl, by decide⟩⟩), zcal290, by decide, by decide, zpn290⟩
theorem zcal288 : zcal zm288 0 := ⟨zw2117, zw154, by decide +kernel⟩
theorem zpn288 : plainName (zm288).1.cls = true := by decide +kernel
theorem zli_X12_543 : zlk zG ((⟨RX12, "", ""⟩ : MethodName), ⟨#[]⟩, 0, none, [], [], 0, 0, true) (0, .invokevirtual 543, 288, 1, [11], 0, 0, []) := ⟨zall1 (⟨(RX12, TX12, 39), ⟨"BookBargeModel", "putsBack", "()V"⟩, rfl, zw2114, zw2116, zw141, Or.inl ⟨rfl, by decide⟩⟩), zcal288, by decide, by decide, zpn288⟩
theorem zcal293 : zcal zm293 2 := ⟨zw2124, zw154, by decide +kernel⟩
theorem zpn293 : plainName (zm293).1.cls = true := by decide +kernel
theorem zli_X12_546 : zlk zG ((⟨RX12, "", ""⟩ : MethodName), ⟨#[]⟩, 0, none, [], [], 0, 0, true) (0, .invokestatic 546, 293, 2, [], 0, 0, []) := ⟨zw2122, zw2123, zcal293, by decide, zpn293⟩
theorem zcal296 : zcal zm296 3 := ⟨zw725, zw157, by decide +kernel⟩
theorem zpn296 : plainName (zm296).1.cls = true := by decide +kernel
theorem zli_J7_13 : zlk zG ((⟨"java/util/Arrays", "", ""⟩ : MethodName), ⟨#[]⟩, 0, none, [], [], 0, 0, true) (0, .invokestatic 13, 296, 3, [], 0, 0, []) := ⟨zw723, zw724, zcal296, by decide, zpn296⟩
theorem zli_J7_316 : zlk zG ((⟨"java/util/Arrays", "", ""⟩ : MethodName), ⟨#[]⟩, 0, none, [], [], 0, 0, true) (0, .invokevirtual 316, 1007, 1, [], 0, 0, []) := Or.inr (Or.inr ⟨rfl, zw904⟩)
theorem zli_J7_304 : zlk zG ((⟨"java/util/Arrays", "", ""⟩ : MethodName), ⟨#[]⟩, 0, none, [], [], 0, 0, true) (0, .invokestatic 304, 1001, 2, [], 0, 0, []) := Or.inr (Or.inl ⟨rfl, zw911⟩)
theorem zli_J7_150 : zlk zG ((⟨"java/util/Arrays", "", ""⟩ : MethodName), ⟨#[]⟩, 0, none, [], [], 0, 0, true) (0, .invokestatic 150, 1003, 5, [], 0, 0, []) := Or.inr (Or.inr (Or.inr ⟨rfl, zw912⟩))

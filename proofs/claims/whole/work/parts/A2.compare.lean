/-! ===== a rule: a comparison ===== -/
/-- is there a second sign -/
abbrev zqce (B : Nat → Nat) (t q : Nat) : Prop := B q ≠ 61 ∧ q + 1 < t ∧ B (q + 1) = 61
def zqcd (B : Nat → Nat) (t q : Nat) : Nat := if B q = 60 then (if zqce B t q then 200005 else 200004) else if B q = 61 then 200006 else (if zqce B t q then 200007 else 200008)
def zcn (B : Nat → Nat) (t q : Nat) : Nat := if zqce B t q then q + 2 else q + 1
theorem zcd_r {B : Nat → Nat} {t q : Nat} : 200004 ≤ zqcd B t q ∧ zqcd B t q < 200009 := by
  unfold zqcd
  split
  · split <;> omega
  · split
    · omega
    · split <;> omega
theorem zcn_r {B : Nat → Nat} {t q : Nat} (hq : q < t) : q < zcn B t q ∧ zcn B t q ≤ t := by
  unfold zcn
  split
  · rename_i h
    omega
  · omega
/-- the reference behind its first sum -/
noncomputable def zCm (I : zTI) (J : zTJ) : Option zR := (zkI (qm_see I J) zSM (fun r6 I4 J5 => (if r6 = 60 then (if r6 = 61 then (zkI (qm_makes (I4 0 9) (zsI I4 0 9 ((I4 0 9) + 1)) J5) zSM (fun r9 I7 J8 => (if r9 = 0 then (some (some (.int 0), (zSM, I7, J8))) else (if r6 = 60 then (zkI (qm_sum I7 J8) zSM (fun r12 I10 J11 => (if r12 = 0 then (some (some (.int 0), (zSM, I10, J11))) else (zkV (qm_puts (6 + 0) 0 I10 J11) zSM (fun I13 J14 => (some (some (.int 1), (zSM, I13, J14)))))))) else (if r6 = 61 then (zkI (qm_sum I7 J8) zSM (fun r17 I15 J16 => (if r17 = 0 then (some (some (.int 0), (zSM, I15, J16))) else (zkV (qm_puts (6 + 2) 0 I15 J16) zSM (fun I18 J19 => (some (some (.int 1), (zSM, I18, J19)))))))) else (zkI (qm_sum I7 J8) zSM (fun r22 I20 J21 => (if r22 = 0 then (some (some (.int 0), (zSM, I20, J21))) else (zkV (qm_puts (6 + 4) 0 I20 J21) zSM (fun I23 J24 => (some (some (.int 1), (zSM, I23, J24))))))))))))) else (if (I4 0 9) + 1 < (I4 0 1) then (zif (zin ((I4 0 9) + 1) 400) (if (I4 1 (((I4 0 9) + 1).toNatClampNeg)) = 61 then (zkI (qm_makes (I4 0 9) (zsI (zsI I4 0 9 ((I4 0 9) + 1)) 0 9 (((I4 0 9) + 1) + 1)) J5) zSM (fun r27 I25 J26 => (if r27 = 0 then (some (some (.int 0), (zSM, I25, J26))) else (if r6 = 60 then (zkI (qm_sum I25 J26) zSM (fun r30 I28 J29 => (if r30 = 0 then (some (some (.int 0), (zSM, I28, J29))) else (zkV (qm_puts (6 + 1) 0 I28 J29) zSM (fun I31 J32 => (some (some (.int 1), (zSM, I31, J32)))))))) else (if r6 = 61 then (zkI (qm_sum I25 J26) zSM (fun r35 I33 J34 => (if r35 = 0 then (some (some (.int 0), (zSM, I33, J34))) else (zkV (qm_puts (6 + 2) 0 I33 J34) zSM (fun I36 J37 => (some (some (.int 1), (zSM, I36, J37)))))))) else (zkI (qm_sum I25 J26) zSM (fun r40 I38 J39 => (if r40 = 0 then (some (some (.int 0), (zSM, I38, J39))) else (zkV (qm_puts (6 + 3) 0 I38 J39) zSM (fun I41 J42 => (some (some (.int 1), (zSM, I41, J42))))))))))))) else (zkI (qm_makes (I4 0 9) (zsI I4 0 9 ((I4 0 9) + 1)) J5) zSM (fun r45 I43 J44 => (if r45 = 0 then (some (some (.int 0), (zSM, I43, J44))) else (if r6 = 60 then (zkI (qm_sum I43 J44) zSM (fun r48 I46 J47 => (if r48 = 0 then (some (some (.int 0), (zSM, I46, J47))) else (zkV (qm_puts (6 + 0) 0 I46 J47) zSM (fun I49 J50 => (some (some (.int 1), (zSM, I49, J50)))))))) else (if r6 = 61 then (zkI (qm_sum I43 J44) zSM (fun r53 I51 J52 => (if r53 = 0 then (some (some (.int 0), (zSM, I51, J52))) else (zkV (qm_puts (6 + 2) 0 I51 J52) zSM (fun I54 J55 => (some (some (.int 1), (zSM, I54, J55)))))))) else (zkI (qm_sum I43 J44) zSM (fun r58 I56 J57 => (if r58 = 0 then (some (some (.int 0), (zSM, I56, J57))) else (zkV (qm_puts (6 + 4) 0 I56 J57) zSM (fun I59 J60 => (some (some (.int 1), (zSM, I59, J60))))))))))))))) else (zkI (qm_makes (I4 0 9) (zsI I4 0 9 ((I4 0 9) + 1)) J5) zSM (fun r63 I61 J62 => (if r63 = 0 then (some (some (.int 0), (zSM, I61, J62))) else (if r6 = 60 then (zkI (qm_sum I61 J62) zSM (fun r66 I64 J65 => (if r66 = 0 then (some (some (.int 0), (zSM, I64, J65))) else (zkV (qm_puts (6 + 0) 0 I64 J65) zSM (fun I67 J68 => (some (some (.int 1), (zSM, I67, J68)))))))) else (if r6 = 61 then (zkI (qm_sum I61 J62) zSM (fun r71 I69 J70 => (if r71 = 0 then (some (some (.int 0), (zSM, I69, J70))) else (zkV (qm_puts (6 + 2) 0 I69 J70) zSM (fun I72 J73 => (some (some (.int 1), (zSM, I72, J73)))))))) else (zkI (qm_sum I61 J62) zSM (fun r76 I74 J75 => (if r76 = 0 then (some (some (.int 0), (zSM, I74, J75))) else (zkV (qm_puts (6 + 4) 0 I74 J75) zSM (fun I77 J78 => (some (some (.int 1), (zSM, I77, J78))))))))))))))) else (if r6 = 61 then (if r6 = 61 then (zkI (qm_makes (I4 0 9) (zsI I4 0 9 ((I4 0 9) + 1)) J5) zSM (fun r81 I79 J80 => (if r81 = 0 then (some (some (.int 0), (zSM, I79, J80))) else (if r6 = 60 then (zkI (qm_sum I79 J80) zSM (fun r84 I82 J83 => (if r84 = 0 then (some (some (.int 0), (zSM, I82, J83))) else (zkV (qm_puts (6 + 0) 0 I82 J83) zSM (fun I85 J86 => (some (some (.int 1), (zSM, I85, J86)))))))) else (if r6 = 61 then (zkI (qm_sum I79 J80) zSM (fun r89 I87 J88 => (if r89 = 0 then (some (some (.int 0), (zSM, I87, J88))) else (zkV (qm_puts (6 + 2) 0 I87 J88) zSM (fun I90 J91 => (some (some (.int 1), (zSM, I90, J91)))))))) else (zkI (qm_sum I79 J80) zSM (fun r94 I92 J93 => (if r94 = 0 then (some (some (.int 0), (zSM, I92, J93))) else (zkV (qm_puts (6 + 4) 0 I92 J93) zSM (fun I95 J96 => (some (some (.int 1), (zSM, I95, J96))))))))))))) else (if (I4 0 9) + 1 < (I4 0 1) then (zif (zin ((I4 0 9) + 1) 400) (if (I4 1 (((I4 0 9) + 1).toNatClampNeg)) = 61 then (zkI (qm_makes (I4 0 9) (zsI (zsI I4 0 9 ((I4 0 9) + 1)) 0 9 (((I4 0 9) + 1) + 1)) J5) zSM (fun r99 I97 J98 => (if r99 = 0 then (some (some (.int 0), (zSM, I97, J98))) else (if r6 = 60 then (zkI (qm_sum I97 J98) zSM (fun r102 I100 J101 => (if r102 = 0 then (some (some (.int 0), (zSM, I100, J101))) else (zkV (qm_puts (6 + 1) 0 I100 J101) zSM (fun I103 J104 => (some (some (.int 1), (zSM, I103, J104)))))))) else (if r6 = 61 then (zkI (qm_sum I97 J98) zSM (fun r107 I105 J106 => (if r107 = 0 then (some (some (.int 0), (zSM, I105, J106))) else (zkV (qm_puts (6 + 2) 0 I105 J106) zSM (fun I108 J109 => (some (some (.int 1), (zSM, I108, J109)))))))) else (zkI (qm_sum I97 J98) zSM (fun r112 I110 J111 => (if r112 = 0 then (some (some (.int 0), (zSM, I110, J111))) else (zkV (qm_puts (6 + 3) 0 I110 J111) zSM (fun I113 J114 => (some (some (.int 1), (zSM, I113, J114))))))))))))) else (zkI (qm_makes (I4 0 9) (zsI I4 0 9 ((I4 0 9) + 1)) J5) zSM (fun r117 I115 J116 => (if r117 = 0 then (some (some (.int 0), (zSM, I115, J116))) else (if r6 = 60 then (zkI (qm_sum I115 J116) zSM (fun r120 I118 J119 => (if r120 = 0 then (some (some (.int 0), (zSM, I118, J119))) else (zkV (qm_puts (6 + 0) 0 I118 J119) zSM (fun I121 J122 => (some (some (.int 1), (zSM, I121, J122)))))))) else (if r6 = 61 then (zkI (qm_sum I115 J116) zSM (fun r125 I123 J124 => (if r125 = 0 then (some (some (.int 0), (zSM, I123, J124))) else (zkV (qm_puts (6 + 2) 0 I123 J124) zSM (fun I126 J127 => (some (some (.int 1), (zSM, I126, J127)))))))) else (zkI (qm_sum I115 J116) zSM (fun r130 I128 J129 => (if r130 = 0 then (some (some (.int 0), (zSM, I128, J129))) else (zkV (qm_puts (6 + 4) 0 I128 J129) zSM (fun I131 J132 => (some (some (.int 1), (zSM, I131, J132))))))))))))))) else (zkI (qm_makes (I4 0 9) (zsI I4 0 9 ((I4 0 9) + 1)) J5) zSM (fun r135 I133 J134 => (if r135 = 0 then (some (some (.int 0), (zSM, I133, J134))) else (if r6 = 60 then (zkI (qm_sum I133 J134) zSM (fun r138 I136 J137 => (if r138 = 0 then (some (some (.int 0), (zSM, I136, J137))) else (zkV (qm_puts (6 + 0) 0 I136 J137) zSM (fun I139 J140 => (some (some (.int 1), (zSM, I139, J140)))))))) else (if r6 = 61 then (zkI (qm_sum I133 J134) zSM (fun r143 I141 J142 => (if r143 = 0 then (some (some (.int 0), (zSM, I141, J142))) else (zkV (qm_puts (6 + 2) 0 I141 J142) zSM (fun I144 J145 => (some (some (.int 1), (zSM, I144, J145)))))))) else (zkI (qm_sum I133 J134) zSM (fun r148 I146 J147 => (if r148 = 0 then (some (some (.int 0), (zSM, I146, J147))) else (zkV (qm_puts (6 + 4) 0 I146 J147) zSM (fun I149 J150 => (some (some (.int 1), (zSM, I149, J150))))))))))))))) else (if r6 = 62 then (if r6 = 61 then (zkI (qm_makes (I4 0 9) (zsI I4 0 9 ((I4 0 9) + 1)) J5) zSM (fun r153 I151 J152 => (if r153 = 0 then (some (some (.int 0), (zSM, I151, J152))) else (if r6 = 60 then (zkI (qm_sum I151 J152) zSM (fun r156 I154 J155 => (if r156 = 0 then (some (some (.int 0), (zSM, I154, J155))) else (zkV (qm_puts (6 + 0) 0 I154 J155) zSM (fun I157 J158 => (some (some (.int 1), (zSM, I157, J158)))))))) else (if r6 = 61 then (zkI (qm_sum I151 J152) zSM (fun r161 I159 J160 => (if r161 = 0 then (some (some (.int 0), (zSM, I159, J160))) else (zkV (qm_puts (6 + 2) 0 I159 J160) zSM (fun I162 J163 => (some (some (.int 1), (zSM, I162, J163)))))))) else (zkI (qm_sum I151 J152) zSM (fun r166 I164 J165 => (if r166 = 0 then (some (some (.int 0), (zSM, I164, J165))) else (zkV (qm_puts (6 + 4) 0 I164 J165) zSM (fun I167 J168 => (some (some (.int 1), (zSM, I167, J168))))))))))))) else (if (I4 0 9) + 1 < (I4 0 1) then (zif (zin ((I4 0 9) + 1) 400) (if (I4 1 (((I4 0 9) + 1).toNatClampNeg)) = 61 then (zkI (qm_makes (I4 0 9) (zsI (zsI I4 0 9 ((I4 0 9) + 1)) 0 9 (((I4 0 9) + 1) + 1)) J5) zSM (fun r171 I169 J170 => (if r171 = 0 then (some (some (.int 0), (zSM, I169, J170))) else (if r6 = 60 then (zkI (qm_sum I169 J170) zSM (fun r174 I172 J173 => (if r174 = 0 then (some (some (.int 0), (zSM, I172, J173))) else (zkV (qm_puts (6 + 1) 0 I172 J173) zSM (fun I175 J176 => (some (some (.int 1), (zSM, I175, J176)))))))) else (if r6 = 61 then (zkI (qm_sum I169 J170) zSM (fun r179 I177 J178 => (if r179 = 0 then (some (some (.int 0), (zSM, I177, J178))) else (zkV (qm_puts (6 + 2) 0 I177 J178) zSM (fun I180 J181 => (some (some (.int 1), (zSM, I180, J181)))))))) else (zkI (qm_sum I169 J170) zSM (fun r184 I182 J183 => (if r184 = 0 then (some (some (.int 0), (zSM, I182, J183))) else (zkV (qm_puts (6 + 3) 0 I182 J183) zSM (fun I185 J186 => (some (some (.int 1), (zSM, I185, J186))))))))))))) else (zkI (qm_makes (I4 0 9) (zsI I4 0 9 ((I4 0 9) + 1)) J5) zSM (fun r189 I187 J188 => (if r189 = 0 then (some (some (.int 0), (zSM, I187, J188))) else (if r6 = 60 then (zkI (qm_sum I187 J188) zSM (fun r192 I190 J191 => (if r192 = 0 then (some (some (.int 0), (zSM, I190, J191))) else (zkV (qm_puts (6 + 0) 0 I190 J191) zSM (fun I193 J194 => (some (some (.int 1), (zSM, I193, J194)))))))) else (if r6 = 61 then (zkI (qm_sum I187 J188) zSM (fun r197 I195 J196 => (if r197 = 0 then (some (some (.int 0), (zSM, I195, J196))) else (zkV (qm_puts (6 + 2) 0 I195 J196) zSM (fun I198 J199 => (some (some (.int 1), (zSM, I198, J199)))))))) else (zkI (qm_sum I187 J188) zSM (fun r202 I200 J201 => (if r202 = 0 then (some (some (.int 0), (zSM, I200, J201))) else (zkV (qm_puts (6 + 4) 0 I200 J201) zSM (fun I203 J204 => (some (some (.int 1), (zSM, I203, J204))))))))))))))) else (zkI (qm_makes (I4 0 9) (zsI I4 0 9 ((I4 0 9) + 1)) J5) zSM (fun r207 I205 J206 => (if r207 = 0 then (some (some (.int 0), (zSM, I205, J206))) else (if r6 = 60 then (zkI (qm_sum I205 J206) zSM (fun r210 I208 J209 => (if r210 = 0 then (some (some (.int 0), (zSM, I208, J209))) else (zkV (qm_puts (6 + 0) 0 I208 J209) zSM (fun I211 J212 => (some (some (.int 1), (zSM, I211, J212)))))))) else (if r6 = 61 then (zkI (qm_sum I205 J206) zSM (fun r215 I213 J214 => (if r215 = 0 then (some (some (.int 0), (zSM, I213, J214))) else (zkV (qm_puts (6 + 2) 0 I213 J214) zSM (fun I216 J217 => (some (some (.int 1), (zSM, I216, J217)))))))) else (zkI (qm_sum I205 J206) zSM (fun r220 I218 J219 => (if r220 = 0 then (some (some (.int 0), (zSM, I218, J219))) else (zkV (qm_puts (6 + 4) 0 I218 J219) zSM (fun I221 J222 => (some (some (.int 1), (zSM, I221, J222))))))))))))))) else (zkI (qm_fails 0 (I4 0 9) I4 J5) zSM (fun r225 I223 J224 => (zif (zbo r225) (some (some (.int r225), (zSM, I223, J224)))))))))))
theorem t_cmp (I : zTI) (J : zTJ) : qm_compare I J = (zkI (qm_sum I J) zSM (fun r3 I1 J2 => (if r3 = 0 then (some (some (.int 0), (zSM, I1, J2))) else zCm I1 J2))) := t_qm_compare I J
/-- what is left behind the sign -/
noncomputable def zCr (y : Nat) (x : Option zR) : Option zR := zkI x zSM (fun r I J => (if r = 0 then (some (some (.int 0), (zSM, I, J))) else (zkI (qm_sum I J) zSM (fun r I J => (if r = 0 then (some (some (.int 0), (zSM, I, J))) else (zkV (qm_puts (nI (zjs y)) 0 I J) zSM (fun I J => (some (some (.int 1), (zSM, I, J)))))))))) 
theorem zj4 : (6 + 0 : Int32) = nI (zjs 200004) := rfl
theorem zj5 : (6 + 1 : Int32) = nI (zjs 200005) := rfl
theorem zj6 : (6 + 2 : Int32) = nI (zjs 200006) := rfl
theorem zj7 : (6 + 3 : Int32) = nI (zjs 200007) := rfl
theorem zj8 : (6 + 4 : Int32) = nI (zjs 200008) := rfl
theorem e6061 : ((60 : Int32) = 61) = False := eq_false (by decide)
theorem e6160 : ((61 : Int32) = 60) = False := eq_false (by decide)
theorem e6260 : ((62 : Int32) = 60) = False := eq_false (by decide)
theorem e6261 : ((62 : Int32) = 61) = False := eq_false (by decide)
section zcmp
variable {σ : zSg} {I I' : zTI} {J J' : zTJ} {t q p : Nat} {B : Nat → Nat} {M : Nat → Int32} {C : Nat → Int32}
set_option maxHeartbeats 8000000 in
theorem p_cmS (T : zTxt t B C (I' 1)) (e1 : I' 0 1 = nI t) (e9 : I' 0 9 = nI p) (hp : p ≤ t) (hz : zru (zbl B) t p = q) (hq : q < t) (hb : B q = 60 ∨ B q = 61 ∨ B q = 62) : zCm I' J' = zCr (zqcd B t q) (qm_makes (nI q) (zsI I' 0 9 (nI (zcn B t q))) J') := by
  have ht := T.1
  have hB : q < t → B q < 256 := fun h => (T.2 q h).1
  have e1' : zsI I' 0 9 (nI q) 0 1 = nI t := by rw [zsI_no _ _ _ (by decide)]; exact e1
  have hl : (nI q + 1 < nI t) = (q + 1 < t) := by rw [nI_1]; exact zlt (by omega) (by omega)
  have hM : q + 1 < t → (I' 1 (q + 1) = 61 ↔ B (q + 1) = 61) := fun h => by
    obtain ⟨u1, -, u3⟩ := T.2 (q + 1) h
    constructor
    · intro e
      rw [e, show (61 : Int32).toInt = 61 from rfl] at u3
      split at u3 <;> omega
    · intro e
      rw [zM_eq T h (by omega), e]
      rfl
  unfold zCm
  rw [p_see T p I' e9 e1 rfl hp, zkI_s, hz, zsI_at, e1', zsI_ne _ _ _ (show 1 ≠ 0 by decide), zsI_sI, zsI_sI]
  unfold zqcd zcn
  rcases hb with hb | hb | hb
  · have hz2 : zby B t q = 60 := (zby_eq hB (s := 60) (by omega)).1.mpr ⟨hq, hb⟩
    rw [hz2, if_pos hb]
    simp only [eq_self, ite_true, ite_false, e6061]
    by_cases h1 : q + 1 < t
    · rw [if_pos (by rw [hl]; exact h1), nI_1, zif_n (by omega) (by omega), ztnn (by omega)]
      by_cases h2 : B (q + 1) = 61
      · rw [if_pos ((hM h1).mpr h2), if_pos (show zqce B t q from ⟨by omega, h1, h2⟩), if_pos (show zqce B t q from ⟨by omega, h1, h2⟩), nI_1, zj5]
        rfl
      · rw [if_neg (fun h => h2 ((hM h1).mp h)), if_neg (show ¬ zqce B t q from fun h => h2 h.2.2), if_neg (show ¬ zqce B t q from fun h => h2 h.2.2), zj4]
        rfl
    · rw [if_neg (by rw [hl]; exact h1), if_neg (show ¬ zqce B t q from fun h => h1 h.2.1), if_neg (show ¬ zqce B t q from fun h => h1 h.2.1), nI_1, zj4]
      rfl
  · have hz2 : zby B t q = 61 := (zby_eq hB (s := 61) (by omega)).1.mpr ⟨hq, hb⟩
    rw [hz2, if_neg (show ¬ B q = 60 by omega), if_pos hb, if_neg (show ¬ zqce B t q from fun h => h.1 hb)]
    simp only [eq_self, ite_true, ite_false, e6160]
    rw [nI_1, zj6]
    rfl
  · have hz2 : zby B t q = 62 := (zby_eq hB (s := 62) (by omega)).1.mpr ⟨hq, hb⟩
    rw [hz2, if_neg (show ¬ B q = 60 by omega), if_neg (show ¬ B q = 61 by omega)]
    simp only [eq_self, ite_true, ite_false, e6260, e6261]
    by_cases h1 : q + 1 < t
    · rw [if_pos (by rw [hl]; exact h1), nI_1, zif_n (by omega) (by omega), ztnn (by omega)]
      by_cases h2 : B (q + 1) = 61
      · rw [if_pos ((hM h1).mpr h2), if_pos (show zqce B t q from ⟨by omega, h1, h2⟩), if_pos (show zqce B t q from ⟨by omega, h1, h2⟩), nI_1, zj7]
        rfl
      · rw [if_neg (fun h => h2 ((hM h1).mp h)), if_neg (show ¬ zqce B t q from fun h => h2 h.2.2), if_neg (show ¬ zqce B t q from fun h => h2 h.2.2), zj8]
        rfl
    · rw [if_neg (by rw [hl]; exact h1), if_neg (show ¬ zqce B t q from fun h => h1 h.2.1), if_neg (show ¬ zqce B t q from fun h => h1 h.2.1), nI_1, zj8]
      rfl
theorem p_cmE (T : zTxt t B C (I' 1)) (e1 : I' 0 1 = nI t) (e9 : I' 0 9 = nI p) (e10 : I' 0 10 = 0) (hp : p ≤ t) (hz : zru (zbl B) t p = q) (hb : ¬ (q < t ∧ (B q = 60 ∨ B q = 61 ∨ B q = 62))) : zCm I' J' = some (some (.int 0), (zSM, zsI (zsI I' 0 9 (nI q)) 0 10 (1 + 8 * nI q + 0), J')) := by
  have hq := zru_le (P := zbl B) (t := t) p hp
  rw [hz] at hq
  have hB : q < t → B q < 256 := fun h => (T.2 q h).1
  unfold zCm
  rw [p_see T p I' e9 e1 rfl hp, zkI_s, hz, zsI_at, if_neg (show ¬ zby B t q = 60 from fun e => by have := (zby_eq hB (s := 60) (by omega)).1.mp e; omega), if_neg (show ¬ zby B t q = 61 from fun e => by have := (zby_eq hB (s := 61) (by omega)).1.mp e; omega), if_neg (show ¬ zby B t q = 62 from fun e => by have := (zby_eq hB (s := 62) (by omega)).1.mp e; omega), p_failM (by rw [zsI_no _ _ _ (by decide)]; exact e10)]
/-- only the next byte -/
theorem p_takeB (e1 : I 11 1 = nI t) (e2 : I 11 2 = nI q) (hq : q < t) (ht : t ≤ 400) : qn_takeByte 11 σ I J = some (none, (zSC σ, zsI I 11 2 (nI (q + 1)), J)) := by
  rw [t_qn_takeByte 11 12 s11, e1, e2, if_pos (nI_lt hq (by omega)), nI_1]
set_option maxHeartbeats 8000000 in
theorem p_tcS (T : zTxt t B (I 12) M) (e1 : I 11 1 = nI t) (e2 : I 11 2 = nI q) (hq : q < t) (hb : B q = 60 ∨ B q = 61 ∨ B q = 62) : qu_takeComparison σ I J = some (some (.int (nI (zqcd B t q))), (zSC σ, zsI I 11 2 (nI (zru (zbl B) t (zcn B t q))), J)) := by
  have ht := T.1
  have hB : q < t → B q < 256 := fun h => (T.2 q h).1
  have hB1 : q + 1 < t → B (q + 1) < 256 := fun h => (T.2 (q + 1) h).1
  have a1 : zsI I 11 2 (nI (q + 1)) 11 1 = nI t := by rw [zsI_no _ _ _ (by decide)]; exact e1
  have a2 : zsI I 11 2 (nI (q + 1)) 11 2 = nI (q + 1) := zsI_at _ _ _ _
  have aT : zTxt t B (zsI I 11 2 (nI (q + 1)) 12) M := by rw [zsI_ne _ _ _ (by decide)]; exact T
  have sk : qn_skipBlanks 11 σ (zsI I 11 2 (nI (q + 1))) J = some (none, (zSC σ, zsI I 11 2 (nI (zru (zbl B) t (q + 1))), J)) := by
    rw [p_skip s11 T (q + 1) _ a2 a1 (zsI_ne _ _ _ (by decide)) (by omega), zsI_sI]
  have sk2 : q + 1 < t → qn_skipBlanks 11 σ (zsI I 11 2 (nI (q + 1 + 1))) J = some (none, (zSC σ, zsI I 11 2 (nI (zru (zbl B) t (q + 2))), J)) := fun h => by
    rw [p_skip s11 T (q + 1 + 1) _ (zsI_at _ _ _ _) (by rw [zsI_no _ _ _ (by decide)]; exact e1) (zsI_ne _ _ _ (by decide)) (by omega), zsI_sI]
  rw [t_qu_takeComparison, p_sign s11 T e1 e2 (by omega), zkI_s, p_takeB e1 e2 hq ht, zkV_s]
  unfold zqcd zcn
  rcases hb with hb | hb | hb
  · have hz2 : zby B t q = 60 := (zby_eq hB (s := 60) (by omega)).1.mpr ⟨hq, hb⟩
    rw [hz2, if_pos hb]
    simp only [eq_self, ite_true, ite_false, e6061]
    rw [p_sign s11 aT a1 a2 (by omega), zkI_s]
    by_cases h : q + 1 < t ∧ B (q + 1) = 61
    · rw [if_pos (show zby B t (q + 1) = 61 from (zby_eq hB1 (s := 61) (by omega)).1.mpr h), if_pos (show zqce B t q from ⟨by omega, h⟩), if_pos (show zqce B t q from ⟨by omega, h⟩), p_takeB a1 a2 h.1 ht, zkV_s, zsI_sI, sk2 h.1, zkV_s]
      rfl
    · rw [if_neg (show ¬ zby B t (q + 1) = 61 from fun e => h ((zby_eq hB1 (s := 61) (by omega)).1.mp e)), if_neg (show ¬ zqce B t q from fun h' => h h'.2), if_neg (show ¬ zqce B t q from fun h' => h h'.2), sk, zkV_s]
      rfl
  · have hz2 : zby B t q = 61 := (zby_eq hB (s := 61) (by omega)).1.mpr ⟨hq, hb⟩
    rw [hz2, if_neg (show ¬ B q = 60 by omega), if_pos hb, if_neg (show ¬ zqce B t q from fun h => h.1 hb)]
    simp only [eq_self, ite_true, ite_false, e6160]
    rw [sk, zkV_s]
    rfl
  · have hz2 : zby B t q = 62 := (zby_eq hB (s := 62) (by omega)).1.mpr ⟨hq, hb⟩
    rw [hz2, if_neg (show ¬ B q = 60 by omega), if_neg (show ¬ B q = 61 by omega)]
    simp only [eq_self, ite_true, ite_false, e6260, e6261]
    rw [p_sign s11 aT a1 a2 (by omega), zkI_s]
    by_cases h : q + 1 < t ∧ B (q + 1) = 61
    · rw [if_pos (show zby B t (q + 1) = 61 from (zby_eq hB1 (s := 61) (by omega)).1.mpr h), if_pos (show zqce B t q from ⟨by omega, h⟩), if_pos (show zqce B t q from ⟨by omega, h⟩), p_takeB a1 a2 h.1 ht, zkV_s, zsI_sI, sk2 h.1, zkV_s]
      rfl
    · rw [if_neg (show ¬ zby B t (q + 1) = 61 from fun e => h ((zby_eq hB1 (s := 61) (by omega)).1.mp e)), if_neg (show ¬ zqce B t q from fun h' => h h'.2), if_neg (show ¬ zqce B t q from fun h' => h h'.2), sk, zkV_s]
      rfl
theorem p_tcE (T : zTxt t B (I 12) M) (e1 : I 11 1 = nI t) (e2 : I 11 2 = nI q) (hq : q ≤ t) (hb : ¬ (q < t ∧ (B q = 60 ∨ B q = 61 ∨ B q = 62))) : qu_takeComparison σ I J = some (some (.int (-1)), (zSC σ, I, J)) := by
  have hB : q < t → B q < 256 := fun h => (T.2 q h).1
  rw [t_qu_takeComparison, p_sign s11 T e1 e2 hq, zkI_s, if_neg (show ¬ zby B t q = 60 from fun e => by have := (zby_eq hB (s := 60) (by omega)).1.mp e; omega), if_neg (show ¬ zby B t q = 61 from fun e => by have := (zby_eq hB (s := 61) (by omega)).1.mp e; omega), if_neg (show ¬ zby B t q = 62 from fun e => by have := (zby_eq hB (s := 62) (by omega)).1.mp e; omega)]
end zcmp
/-- the class: two sums and what stands between them -/
noncomputable def zCf (σ : zSg) (I : zTI) (J : zTJ) : Option zR := (zkI (qu_readSum σ I J) (zSC σ) (fun r46 I44 J45 => (if r46 = 0 then (some (some (.int 0), ((zSC σ), I44, J45))) else (zkI (qu_takeComparison σ I44 J45) (zSC σ) (fun r49 I47 J48 => (if r49 = (-1) then (zkI (qn_wrong 11 (I44 11 2) 0 σ I47 J48) (zSC σ) (fun r52 I50 J51 => (zif (zbo r52) (some (some (.int r52), ((zSC σ), I50, J51)))))) else (zkI (qu_countPart (I44 11 2) σ I47 J48) (zSC σ) (fun r55 I53 J54 => (if r55 = 0 then (some (some (.int 0), ((zSC σ), I53, J54))) else (zkI (qu_readSum σ I53 J54) (zSC σ) (fun r58 I56 J57 => (if r58 = 0 then (some (some (.int 0), ((zSC σ), I56, J57))) else (zkV (qu_put r49 σ I56 J57) (zSC σ) (fun I59 J60 => (some (some (.int 1), ((zSC σ), I59, J60)))))))))))))))))
set_option maxHeartbeats 8000000 in
theorem p_compare {σ : zSg} {I I' : zTI} {J J' : zTJ} {t tt p m : Nat} {B : Nat → Nat} {L : List Nat} (H : zRd t B tt p L m I I') (htt : tt < 6) (hL : L.length ≤ p) : ∃ r I1 I1', zCf σ I J = some (some (.int r), (zSC σ, I1, J)) ∧ qm_compare I' J' = some (some (.int r), (zSM, I1', J')) ∧ zHc I I1 ∧ zHs tt I' I1' ∧ ((r = 0 ∧ zBad 11 I1 I1') ∨ (r = 1 ∧ ∃ p1 m1 L1, p < p1 ∧ m < m1 ∧ zRd t B tt p1 (L ++ L1) m1 I1 I1' ∧ L1.length + p ≤ p1 ∧ ∀ ty, zty L1 ty = some (true :: ty))) := by
  obtain ⟨r, I1, I1', h1, h2, h3, h4, h5⟩ := p_sum (σ := σ) (J := J) (J' := J') H htt hL
  unfold zCf
  rw [h1, zkI_s, t_cmp, h2, zkI_s]
  rcases h5 with ⟨rfl, hb⟩ | ⟨rfl, p1, m1, L1, u1, u2, H1, u4, u5⟩
  · rw [if_pos rfl, if_pos rfl]
    exact ⟨0, I1, I1', rfl, rfl, h3, h4, Or.inl ⟨rfl, hb⟩⟩
  rw [if_neg z10, if_neg z10]
  obtain ⟨⟨a1, a2, b1, b2, hp, T, b10⟩, C, e9, e13, hm, hv⟩ := id H1
  have hq := zru_le (P := zbl B) (t := t) p1 hp
  have hpq := zru_ge (P := zbl B) (t := t) p1
  have ht := T.1
  have z00 : zpn none = 0 := rfl
  by_cases hS : zru (zbl B) t p1 < t ∧ (B (zru (zbl B) t p1) = 60 ∨ B (zru (zbl B) t p1) = 61 ∨ B (zru (zbl B) t p1) = 62)
  · have hc := zcd_r (B := B) (t := t) (q := zru (zbl B) t p1)
    have hn := zcn_r (B := B) (t := t) (q := zru (zbl B) t p1) hS.1
    rw [p_tcS T a1 a2 hS.1 hS.2, zkI_s, if_neg (znm (by omega)), a2, p_cmS T b1 b2 hp rfl hS.1 hS.2]
    generalize zqcd B t (zru (zbl B) t p1) = y at *
    generalize zcn B t (zru (zbl B) t p1) = e at *
    generalize zru (zbl B) t p1 = q at *
    have k9 : zsI I1 11 2 (nI (zru (zbl B) t e)) 11 9 = nI m1 := by rw [zsI_no _ _ _ (by decide)]; exact e9
    have k13 : zsI I1' 0 9 (nI e) 0 13 = nI m1 := by rw [zsI_no _ _ _ (by decide)]; exact e13
    have k10 : zsI I1' 0 9 (nI e) 0 10 = 0 := by rw [zsI_no _ _ _ (by decide)]; exact b10
    unfold zCr
    by_cases h60 : m1 = 60
    · subst h60
      rw [t_qu_countPart, k9, if_neg (show ¬ nI 60 < (60 : Int32) by decide), p_failC s11, zkI_s, if_pos rfl, p_mk0 k13 k10, zkI_s, if_pos rfl]
      exact ⟨0, _, _, rfl, rfl, (h3.tr (zHc.s (by omega))).tr (zHc.s (by omega)), (h4.tr (zHs.s (by omega))).tr (zHs.s (by omega)), Or.inl ⟨rfl, zBad_of (k := 3) rfl (by omega) (by omega)⟩⟩
    · rw [t_qu_countPart, k9, if_pos (show nI m1 < (60 : Int32) from nI_lt (b := 60) (by omega) (by omega)), zkI_s, if_neg z10, p_mk1 k13 (by omega), zkI_s, if_neg z10, nI_1]
      have H2 : zRd t B tt e (L ++ L1) (m1 + 1) (zsI (zsI I1 11 2 (nI (zru (zbl B) t e))) 11 9 (nI (m1 + 1))) (zsI (zsI I1' 0 9 (nI e)) 0 13 (nI (m1 + 1))) := ⟨⟨by rw [zsI_no _ _ _ (by decide), zsI_no _ _ _ (by decide)]; exact a1, by rw [zsI_no _ _ _ (by decide), zsI_at], by rw [zsI_no _ _ _ (by decide), zsI_no _ _ _ (by decide)]; exact b1, by rw [zsI_no _ _ _ (by decide), zsI_at], hn.2, by rw [zsI_ne _ _ _ (by decide), zsI_ne _ _ _ (by decide), zsI_ne _ _ _ (by decide), zsI_ne _ _ _ (by decide)]; exact T, by rw [zsI_no _ _ _ (by decide)]; exact k10⟩, zCo_c C (by rw [zsI_no _ _ _ (by decide), zsI_no _ _ _ (by decide)]) (by rw [zsI_ne _ _ _ (by decide), zsI_ne _ _ _ (by decide)]) (by rw [zsI_no _ _ _ (by decide), zsI_no _ _ _ (by decide)]) (by rw [zsI_ne _ _ _ (by decide), zsI_ne _ _ _ (by decide)]) (by rw [zsI_ne _ _ _ (by decide), zsI_ne _ _ _ (by decide)]), zsI_at _ _ _ _, zsI_at _ _ _ _, by omega, by omega, by rw [zsI_no _ _ _ (by decide), zsI_no _ _ _ (by decide)]; exact hv.2⟩
      obtain ⟨r, I3, I3', g1, g2, g3, g4, g5⟩ := p_sum (σ := σ) (J := J) (J' := J') H2 htt (by rw [List.length_append]; omega)
      rw [g1, zkI_s, g2, zkI_s]
      have fc := ((h3.tr (zHc.s (by omega))).tr (zHc.s (by omega))).tr g3
      have fm := ((h4.tr (zHs.s (by omega))).tr (zHs.s (by omega))).tr g4
      rcases g5 with ⟨rfl, hb⟩ | ⟨rfl, p3, m3, L3, w1, w2, H3, w4, w5⟩
      · rw [if_pos rfl, if_pos rfl]
        exact ⟨0, I3, I3', rfl, rfl, fc, fm, Or.inl ⟨rfl, hb⟩⟩
      · have hp3 := H3.1.2.2.2.2.1
        obtain ⟨I4, I4', f1, f2, f3, f4, f5, f6, f7⟩ := p_putJ (σ := σ) (J := J) (J' := J') H3 htt (by rw [List.length_append, List.length_append]; omega) (x := y) (by omega)
        rw [if_neg z10, if_neg z10, f1, zkV_s, f2 _ _ (zsgn_j (by omega)), zkV_s]
        refine ⟨1, I4, I4', rfl, rfl, fc.tr f4, fm.tr f5, Or.inr ⟨rfl, p3, m3, L1 ++ L3 ++ [y], by omega, by omega, by rw [← List.append_assoc, ← List.append_assoc]; exact f3, ?_, fun ty => ?_⟩⟩
        · rw [List.length_append, List.length_append, List.length_singleton]
          omega
        · rw [zty_app (L1 ++ L3) [y] _ (false :: false :: ty) (by show zty (L1 ++ L3) (zpt none (zpt none ty)) = _; rw [zty_app L1 L3 _ _ (u5 ty)]; exact w5 (false :: ty))]
          simp only [zty, if_neg (show ¬ y < 200000 by omega), if_neg (show ¬ y = 200011 by omega), if_neg (show ¬ y < 200004 by omega), if_pos hc.2]
  · rw [p_tcE T a1 a2 hq hS, zkI_s, if_pos rfl, p_failC s11, a2, p_cmE T b1 b2 b10 hp rfl hS]
    exact ⟨0, _, _, rfl, rfl, h3.tr (zHc.s (by omega)), (h4.tr (zHs.s (by omega))).tr (zHs.s (by omega)), Or.inl ⟨rfl, zBad_of (k := 0) rfl (by omega) (by omega)⟩⟩

/-! ===== the class's words ===== -/
def zfw (C : Nat → Int32) (e : Nat) : Option Nat → List Int32 → Option Nat
  | o, [] => o
  | none, _ :: l => zfw C e none l
  | some x, a :: l => if x < e ∧ C x = a then zfw C e (some (x + 1)) l else zfw C e none l
def zjw : List (List Int32) → List Int32
  | [] => []
  | [l] => l
  | l :: m :: ws => l ++ 32 :: zjw (m :: ws)
def zam (C : Nat → Int32) (p e : Nat) : List (List Int32) → Nat → Int32
  | [], _ => -1
  | l :: ws, k => if zfw C e (some p) l = some e then nI k else zam C p e ws (k + 1)
theorem zdrop {L r : List Int32} {s : Nat} {a : Int32} (h : L.drop s = a :: r) : L.getD s 0 = a ∧ s < L.length ∧ L.drop (s + 1) = r := by
  have hs : s < L.length := by
    rcases Nat.lt_or_ge s L.length with h' | h'
    · exact h'
    · rw [List.drop_eq_nil_of_le h'] at h
      cases h
  rw [List.drop_eq_getElem_cons hs] at h
  obtain ⟨h1, h2⟩ := List.cons.inj h
  exact ⟨by rw [List.getD_eq_getElem?_getD, List.getElem?_eq_getElem hs]; exact h1, hs, h2⟩
theorem zfw_n {C : Nat → Int32} {e : Nat} : ∀ l, zfw C e none l = none
  | [] => rfl
  | _ :: l => zfw_n l
theorem zfw_le {C : Nat → Int32} {e : Nat} : ∀ (l : List Int32) (o : Option Nat), (∀ x, o = some x → x ≤ e) → ∀ x, zfw C e o l = some x → x ≤ e
  | [], o, h, x, hx => h x hx
  | a :: l, none, h, x, hx => by
    rw [zfw_n] at hx
    cases hx
  | a :: l, some y, h, x, hx => by
    have hy := h y rfl
    unfold zfw at hx
    by_cases q : y < e ∧ C y = a
    · rw [if_pos q] at hx
      exact zfw_le l (some (y + 1)) (fun z hz => by cases hz; omega) x hx
    · rw [if_neg q, zfw_n] at hx
      cases hx
theorem p_wL1 {w c : Nat} (hw : zsn w c) {σ : zSg} {I : zTI} {J : zTJ} {x1 p e : Nat} {k : Int32} (hx : x1 < 7) (e2 : I w 2 = nI p) (hpe : p < e) (he : e ≤ 400) (hL : (zSb.getD x1 []).length < 1000) : ∀ (l r : List Int32) (s : Nat) (o : Option Nat), (zSb.getD x1 []).drop s = l ++ r → (∀ a, a ∈ l → a ≠ 32) → (∀ x, o = some x → x ≤ e) → qn_wordAmong_16 w x1 (nI e) k (zkE o) (nI s) σ I J = qn_wordAmong_16 w x1 (nI e) k (zkE (zfw (I c) e o l)) (nI (s + l.length)) σ I J
  | [], r, s, o, hd, h32, ho => by cases o <;> rfl
  | a :: l, r, s, o, hd, h32, ho => by
    obtain ⟨d1, d2, d3⟩ := zdrop (r := l ++ r) hd
    have hch : zch x1 s = a := d1
    have hsl : zsl x1 = (zSb.getD x1 []).length := rfl
    have hsl' : Int32.ofNat (zsl x1) = nI (zsl x1) := rfl
    have ih := fun o' ho' => p_wL1 hw (σ := σ) (J := J) (k := k) hx e2 hpe he hL l r (s + 1) o' d3 (fun b hb => h32 b (List.mem_cons_of_mem _ hb)) ho'
    rw [t_qn_wordAmong_16 w _ _ _ _ _ c hw, zif_t (show Nat.blt x1 7 = true from Nat.blt_eq.mpr hx), zif_t (show Nat.blt x1 7 = true from Nat.blt_eq.mpr hx), zif_t (show Nat.blt x1 7 = true from Nat.blt_eq.mpr hx), hsl', if_neg (show ¬ nI (zsl x1) < nI s from fun h => by have := (nI_ltI (by omega) (by omega)).mp h; omega), e2, if_pos (nI_lt hpe (by omega)), if_pos (show nI s < nI (zsl x1) from nI_lt (by omega) (by omega)), zif_n (by omega) (by omega), ztnn (by omega), hch, if_neg (h32 a (List.mem_cons_self)), nI_1, show s + (a :: l).length = s + 1 + l.length by rw [List.length_cons]; omega]
    have nxt : qn_wordAmong_16 w x1 (nI e) k (-1) (nI (s + 1)) σ I J = qn_wordAmong_16 w x1 (nI e) k (zkE (zfw (I c) e none l)) (nI (s + 1 + l.length)) σ I J := ih none (fun x h => by cases h)
    cases o with
    | none =>
      rw [show zkE none = -1 from rfl, if_pos (show (-1 : Int32) < 0 by decide)]
      exact nxt
    | some y =>
      have hy := ho y rfl
      rw [show zkE (some y) = nI y from rfl, if_neg (znn (by omega))]
      by_cases q : y < e
      · rw [if_pos (nI_lt q (by omega)), zif_n (by omega) (by omega), ztnn (by omega)]
        by_cases q2 : I c y = a
        · rw [if_pos q2, nI_1, show zfw (I c) e (some y) (a :: l) = zfw (I c) e (some (y + 1)) l from if_pos ⟨q, q2⟩]
          exact ih (some (y + 1)) (fun x h => by cases h; omega)
        · rw [if_neg q2, show zfw (I c) e (some y) (a :: l) = zfw (I c) e none l from if_neg (fun h => q2 h.2)]
          exact nxt
      · rw [if_neg (show ¬ nI y < nI e from fun h => q ((nI_ltI (by omega) (by omega)).mp h)), show zfw (I c) e (some y) (a :: l) = zfw (I c) e none l from if_neg (fun h => q h.1)]
        exact nxt
set_option maxHeartbeats 4000000 in
theorem p_wW {w c : Nat} (hw : zsn w c) {σ : zSg} {I : zTI} {J : zTJ} {x1 p e : Nat} (hx : x1 < 7) (e2 : I w 2 = nI p) (hpe : p < e) (he : e ≤ 400) (hL : (zSb.getD x1 []).length < 1000) : ∀ (ws : List (List Int32)) (k s : Nat), ws ≠ [] → (zSb.getD x1 []).drop s = zjw ws → s ≤ (zSb.getD x1 []).length → (∀ l, l ∈ ws → ∀ a, a ∈ l → a ≠ 32) → qn_wordAmong_16 w x1 (nI e) (nI k) (nI p) (nI s) σ I J = some (some (.int (zam (I c) p e ws k)), (zSC σ, I, J)) := by
  have hsl : zsl x1 = (zSb.getD x1 []).length := rfl
  have hsl' : Int32.ofNat (zsl x1) = nI (zsl x1) := rfl
  intro ws
  induction ws with
  | nil => intro k s h; exact absurd rfl h
  | cons l ws ih =>
    intro k s _ hd hs h32
    have hle := zfw_le (C := I c) (e := e) l (some p) (fun x h => by cases h; omega)
    have key : (zkE (zfw (I c) e (some p) l) = nI e) ↔ (zfw (I c) e (some p) l = some e) := by
      cases h : zfw (I c) e (some p) l with
      | none => exact ⟨fun h' => absurd h'.symm (znm (by omega)), fun h' => by cases h'⟩
      | some y => 
        have := hle y h
        exact ⟨fun h' => by rw [znI (a := y) (b := e) (by omega) (by omega) h'], fun h' => by cases h'; rfl⟩
    cases ws with
    | nil =>
      have hd' : (zSb.getD x1 []).drop s = l ++ [] := by rw [List.append_nil]; exact hd
      have hlen : s + l.length = zsl x1 := by
        have := congrArg List.length hd
        rw [List.length_drop] at this
        have e' : (zjw [l]).length = l.length := rfl
        omega
      rw [show qn_wordAmong_16 w x1 (nI e) (nI k) (nI p) (nI s) σ I J = _ from p_wL1 hw hx e2 hpe he hL l [] s (some p) hd' (h32 l (List.mem_cons_self)) (fun x h => by cases h; omega), hlen]
      rw [t_qn_wordAmong_16 w _ _ _ _ _ c hw, zif_t (show Nat.blt x1 7 = true from Nat.blt_eq.mpr hx), zif_t (show Nat.blt x1 7 = true from Nat.blt_eq.mpr hx), hsl', if_neg (show ¬ nI (zsl x1) < nI (zsl x1) from fun h => by have := (nI_ltI (by omega) (by omega)).mp h; omega), e2, if_pos (nI_lt hpe (by omega)), if_neg (show ¬ nI (zsl x1) < nI (zsl x1) from fun h => by have := (nI_ltI (by omega) (by omega)).mp h; omega), nI_1, nI_1]
      by_cases q : zfw (I c) e (some p) l = some e
      · rw [if_pos (key.mpr q), show zam (I c) p e [l] k = nI k from if_pos q]
      · rw [if_neg (fun h => q (key.mp h)), show zam (I c) p e [l] k = -1 from if_neg q]
        rw [t_qn_wordAmong_16 w _ _ _ _ _ c hw, zif_t (show Nat.blt x1 7 = true from Nat.blt_eq.mpr hx), hsl', if_pos (show nI (zsl x1) < nI (zsl x1 + 1) from nI_lt (by omega) (by omega))]
    | cons m ws =>
      have hd' : (zSb.getD x1 []).drop s = l ++ (32 :: zjw (m :: ws)) := hd
      rw [show qn_wordAmong_16 w x1 (nI e) (nI k) (nI p) (nI s) σ I J = _ from p_wL1 hw hx e2 hpe he hL l _ s (some p) hd' (h32 l (List.mem_cons_self)) (fun x h => by cases h; omega)]
      have hd2 : (zSb.getD x1 []).drop (s + l.length) = 32 :: zjw (m :: ws) := by
        rw [← List.drop_drop, hd', List.drop_left]
      obtain ⟨d1, d2, d3⟩ := zdrop hd2
      have hch : zch x1 (s + l.length) = 32 := d1
      rw [t_qn_wordAmong_16 w _ _ _ _ _ c hw, zif_t (show Nat.blt x1 7 = true from Nat.blt_eq.mpr hx), zif_t (show Nat.blt x1 7 = true from Nat.blt_eq.mpr hx), zif_t (show Nat.blt x1 7 = true from Nat.blt_eq.mpr hx), hsl', if_neg (show ¬ nI (zsl x1) < nI (s + l.length) from fun h => by have := (nI_ltI (by omega) (by omega)).mp h; omega), e2, if_pos (nI_lt hpe (by omega)), if_pos (show nI (s + l.length) < nI (zsl x1) from nI_lt (by omega) (by omega)), zif_n (by omega) (by omega), ztnn (by omega), hch, if_pos rfl, nI_1, nI_1]
      by_cases q : zfw (I c) e (some p) l = some e
      · rw [if_pos (key.mpr q), show zam (I c) p e (l :: m :: ws) k = nI k from if_pos q]
      · rw [if_neg (fun h => q (key.mp h)), show zam (I c) p e (l :: m :: ws) k = zam (I c) p e (m :: ws) (k + 1) from if_neg q]
        exact ih (k + 1) (s + l.length + 1) (by simp) d3 (by omega) (fun l' hl' => h32 l' (List.mem_cons_of_mem _ hl'))

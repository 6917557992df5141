/-! ===== words by their number; a word is passed ===== -/
def zix (v : List Nat) : List (List Nat) → Nat → Int32
  | [], _ => -1
  | l :: ws, k => if v = l then nI k else zix v ws (k + 1)
theorem zam_ix {B : Nat → Nat} {C : Nat → Int32} {p e : Nat} (hpe : p ≤ e) (hC : ∀ i, p ≤ i → i < e → B i < 256 ∧ C i = nI (B i)) : ∀ (ws : List (List Nat)) (k : Nat), (∀ l, l ∈ ws → ∀ a, a ∈ l → a < 256) → zam C p e (ws.map (List.map nI)) k = zix (zla B p (e - p)) ws k
  | [], k, _ => rfl
  | l :: ws, k, h => by
    have h1 := zfw_la (B := B) (C := C) l p hpe hC (h l (List.mem_cons_self))
    have ih := zam_ix hpe hC ws (k + 1) (fun m hm => h m (List.mem_cons_of_mem _ hm))
    show (if zfw C e (some p) (l.map nI) = some e then nI k else zam C p e (ws.map (List.map nI)) (k + 1)) = (if zla B p (e - p) = l then nI k else zix (zla B p (e - p)) ws (k + 1))
    by_cases q : zla B p (e - p) = l
    · rw [if_pos (h1.mpr q), if_pos q]
    · rw [if_neg (fun h' => q (h1.mp h')), if_neg q, ih]
theorem zix_no : ∀ (ws : List (List Nat)) (k : Nat), (∀ l, l ∈ ws → l ≠ []) → zix [] ws k = -1
  | [], _, _ => rfl
  | l :: ws, k, h => by
    show (if [] = l then nI k else zix [] ws (k + 1)) = -1
    rw [if_neg (fun h' => h l (List.mem_cons_self) h'.symm), zix_no ws (k + 1) (fun m hm => h m (List.mem_cons_of_mem _ hm))]
theorem p_am {w c : Nat} (hw : zsn w c) {σ : zSg} {I : zTI} {J : zTJ} {t p x1 : Nat} {B : Nat → Nat} {M : Nat → Int32} (ws : List (List Nat)) (T : zTxt t B (I c) M) (e1 : I w 1 = nI t) (e2 : I w 2 = nI p) (hp : p ≤ t) (hx : x1 < 7) (hL : (zSb.getD x1 []).length < 1000) (hn : ws ≠ []) (hj : zSb.getD x1 [] = zjw (ws.map (List.map nI))) (hb : ∀ l, l ∈ ws → l ≠ [] ∧ ∀ a, a ∈ l → 33 ≤ a ∧ a < 256) : qn_wordAmong w x1 σ I J = some (some (.int (zix (zww B t p) ws 0)), (zSC σ, I, J)) := by
  have hge := zru_ge (P := zlr B) (t := t) p
  have hle := zru_le (P := zlr B) (t := t) p hp
  rw [p_among hw T e1 e2 hp hx hL (by cases ws with | nil => exact absurd rfl hn | cons _ _ => simp) hj (fun l hl a ha => by
    obtain ⟨m, hm, rfl⟩ := List.mem_map.mp hl
    obtain ⟨b, hb', rfl⟩ := List.mem_map.mp ha
    have h := (hb m hm).2 b hb'
    intro e
    have := znI (b := 32) (by omega) (by omega) e
    omega)]
  unfold zww
  by_cases g : p < zru (zlr B) t p
  · rw [if_pos g, zam_ix (B := B) hge (fun i h1 h2 => by
      obtain ⟨a, b, -⟩ := T.2 i (by omega)
      exact ⟨a, b⟩) ws 0 (fun l hl a ha => ((hb l hl).2 a ha).2)]
  · rw [if_neg g, show zru (zlr B) t p - p = 0 by omega, show zla B p 0 = [] from rfl, zix_no ws 0 (fun l hl => (hb l hl).1)]
/-- the class takes a word -/
theorem p_takeW {w c : Nat} (hw : zsn w c) {σ : zSg} {I : zTI} {J : zTJ} {t p : Nat} {B : Nat → Nat} {M : Nat → Int32} (T : zTxt t B (I c) M) (e1 : I w 1 = nI t) (e2 : I w 2 = nI p) (hp : p ≤ t) : qn_takeWord w σ I J = some (none, (zSC σ, zsI I w 2 (nI (zru (zbl B) t (zru (zlr B) t p))), J)) := by
  have hcw : c ≠ w := by rcases hw with ⟨rfl, rfl⟩ | ⟨rfl, rfl⟩ <;> decide
  have ht := T.1
  rw [t_qn_takeWord w c hw, t_qn_wordEnd w c hw, e2, p_wEnd hw T e1 p (by omega), zkI_s, p_skip hw T _ (zsI I w 2 (nI (zru (zlr B) t p))) (zsI_at _ _ _ _) (by rw [zsI_no _ _ _ (by decide)]; exact e1) (zsI_ne _ _ _ hcw) (zru_le p hp), zkV_s, zsI_sI]
/-- the words of a river -/
def zwR : List (List Nat) := [[98, 97, 114, 103, 101], [98, 111, 111, 107], [115, 116, 111, 112], [114, 101, 97, 100, 101, 114], [119, 105, 115, 104], [104, 111, 108, 101]]
theorem zwR_j : zSb.getD 0 [] = zjw (zwR.map (List.map nI)) := rfl
theorem zwR_b : ∀ l, l ∈ zwR → l ≠ [] ∧ ∀ a, a ∈ l → 33 ≤ a ∧ a < 256 := by decide
theorem zwR_0 : (422541682533 : Int64) = zn6 (zpq ([98, 97, 114, 103, 101] : List Nat).reverse) := rfl
theorem zwR_1 : (1651470187 : Int64) = zn6 (zpq ([98, 111, 111, 107] : List Nat).reverse) := rfl
theorem zwR_2 : (1937010544 : Int64) = zn6 (zpq ([115, 116, 111, 112] : List Nat).reverse) := rfl
theorem zwR_3 : (125779751232882 : Int64) = zn6 (zpq ([114, 101, 97, 100, 101, 114] : List Nat).reverse) := rfl
theorem zwR_4 : (2003399528 : Int64) = zn6 (zpq ([119, 105, 115, 104] : List Nat).reverse) := rfl
theorem zwR_5 : (1752132709 : Int64) = zn6 (zpq ([104, 111, 108, 101] : List Nat).reverse) := rfl

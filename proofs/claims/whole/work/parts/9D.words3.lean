/-! ===== which word stands here ===== -/
def zla (B : Nat → Nat) : Nat → Nat → List Nat
  | _, 0 => []
  | p, n + 1 => B p :: zla B (p + 1) n
theorem zla_sn {B : Nat → Nat} : ∀ n p, zla B p (n + 1) = zla B p n ++ [B (p + n)]
  | 0, p => rfl
  | n + 1, p => by
    show B p :: zla B (p + 1) (n + 1) = B p :: (zla B (p + 1) n ++ [B (p + (n + 1))])
    rw [zla_sn n (p + 1), show p + 1 + n = p + (n + 1) by omega]
theorem zlb_la {B : Nat → Nat} {p : Nat} : ∀ n, zlb B p n = (zla B p n).reverse
  | 0 => rfl
  | n + 1 => by
    rw [zla_sn, List.reverse_append, ← zlb_la n]
    rfl
/-- the class finds a word -/
theorem zfw_la {B : Nat → Nat} {C : Nat → Int32} {e : Nat} : ∀ (l : List Nat) (x : Nat), x ≤ e → (∀ i, x ≤ i → i < e → B i < 256 ∧ C i = nI (B i)) → (∀ a, a ∈ l → a < 256) → (zfw C e (some x) (l.map nI) = some e ↔ zla B x (e - x) = l)
  | [], x, hx, hC, hl => by
    show (some x = some e ↔ _)
    constructor
    · intro h
      cases h
      rw [Nat.sub_self]
      rfl
    · intro h
      by_cases q : x = e
      · rw [q]
      · rw [show e - x = (e - (x + 1)) + 1 by omega] at h
        cases h
  | a :: l, x, hx, hC, hl => by
    show ((if x < e ∧ C x = nI a then zfw C e (some (x + 1)) (l.map nI) else zfw C e none (l.map nI)) = some e ↔ _)
    by_cases q : x < e
    · obtain ⟨h1, h2⟩ := hC x (Nat.le_refl x) q
      have ha := hl a (List.mem_cons_self)
      rw [show e - x = (e - (x + 1)) + 1 by omega]
      show _ ↔ B x :: zla B (x + 1) (e - (x + 1)) = a :: l
      by_cases q2 : B x = a
      · rw [if_pos ⟨q, by rw [h2, q2]⟩, zfw_la l (x + 1) (by omega) (fun i h3 h4 => hC i (by omega) h4) (fun b hb => hl b (List.mem_cons_of_mem _ hb)), q2]
        exact ⟨fun h => by rw [h], fun h => (List.cons.inj h).2⟩
      · rw [if_neg (fun h => q2 (by have := h.2; rw [h2] at this; exact znI (by omega) (by omega) this)), zfw_n]
        exact ⟨fun h => (by cases h), fun h => absurd (List.cons.inj h).1 q2⟩
    · rw [if_neg (fun h => q h.1), zfw_n, show e - x = 0 by omega]
      exact ⟨fun h => (by cases h), fun h => (by cases h)⟩
/-- the reference finds a word -/
theorem zpk_la {B : Nat → Nat} {p n : Nat} {l : List Nat} (hB : ∀ i, i < n → 97 ≤ B (p + i) ∧ B (p + i) ≤ 122) (hl : ∀ a, a ∈ l → 0 < a ∧ a < 256) (h0 : 0 < l.length) (h7 : l.length < 8) : (0 < n ∧ n < 8 ∧ zn6 (zpk B p n) = zn6 (zpq l.reverse)) ↔ zla B p n = l := by
  have hbd : ∀ m : List Nat, (∀ a, a ∈ m → 0 < a ∧ a < 256) → zpq m < 256 ^ m.length := by
    intro m
    induction m with
    | nil => intro _; show 0 < 1; omega
    | cons a m ih =>
      intro h
      have h1 := h a (List.mem_cons_self)
      have h2 := ih (fun b hb => h b (List.mem_cons_of_mem _ hb))
      show a + 256 * zpq m < 256 ^ (m.length + 1)
      rw [Nat.pow_succ]
      omega
  have hr : ∀ a, a ∈ l.reverse → 0 < a ∧ a < 256 := fun a ha => hl a (List.mem_reverse.mp ha)
  have h1 := hbd l.reverse hr
  rw [List.length_reverse] at h1
  have hp : 256 ^ l.length ≤ 256 ^ 7 := Nat.pow_le_pow_right (by omega) (by omega)
  have hz : ∀ a, a ∈ zlb B p n → 0 < a ∧ a < 256 := zlb_mem (P := fun a => 0 < a ∧ a < 256) n (fun i hi => by have := hB i hi; omega)
  constructor
  · intro ⟨g0, g8, gx⟩
    have h2 := hbd _ hz
    rw [zlb_len, zlb_pk] at h2
    have hp2 : 256 ^ n ≤ 256 ^ 7 := Nat.pow_le_pow_right (by omega) (by omega)
    have h3 : zpk B p n = zpq l.reverse := by
      have := congrArg Int64.toInt gx
      rw [zn6_i (by omega), zn6_i (by omega)] at this
      omega
    rw [← zlb_pk] at h3
    have h4 := zpq_inj _ _ hz hr h3
    rw [zlb_la] at h4
    exact List.reverse_inj.mp h4
  · intro h
    have hn : n = l.length := by
      have e1 := congrArg List.length h
      have e2 := zlb_len (B := B) (p := p) n
      rw [zlb_la, List.length_reverse] at e2
      omega
    refine ⟨by omega, by omega, ?_⟩
    rw [← zlb_pk, zlb_la, h]
/-- the word that stands at q -/
def zww (B : Nat → Nat) (t q : Nat) : List Nat := zla B q (zru (zlr B) t q - q)
theorem p_isW {J : zTJ} {t p : Nat} {B : Nat → Nat} {C : Nat → Int32} {I : zTI} {l : List Nat} (T : zTxt t B C (I 1)) (e1 : I 0 1 = nI t) (e9 : I 0 9 = nI p) (hp : p ≤ t) (hl : ∀ a, a ∈ l → 0 < a ∧ a < 256) (h0 : 0 < l.length) (h7 : l.length < 8) : qm_isWord (zn6 (zpq l.reverse)) I J = some (some (.int (if zww B t (zru (zbl B) t p) = l then 1 else 0)), (zSM, zsI I 0 9 (nI (zru (zbl B) t p)), J)) := by
  have hq := zru_le (P := zbl B) (t := t) p hp
  rw [t_qm_isWord, p_see T p I e9 e1 rfl hp, zkI_s]
  generalize zru (zbl B) t p = q at *
  have h := p_isWL (J := J) (X := zn6 (zpq l.reverse)) (I := zsI I 0 9 (nI q)) (C := C) (B := B) (t := t) (p := q) (by rw [zsI_ne _ _ _ (by decide)]; exact T) (by rw [zsI_no _ _ _ (by decide)]; exact e1) (zsI_at _ _ _ _) hq q (Nat.le_refl _) hq (fun i _ _ => by omega) 0 (fun _ => by rw [Nat.sub_self]; rfl)
  rw [Nat.sub_self] at h
  rw [show qm_isWord_10 (zn6 (zpq l.reverse)) 0 0 (zsI I 0 9 (nI q)) J = _ from h]
  have hk := zpk_la (B := B) (p := q) (n := zru (zlr B) t q - q) (l := l) (fun i hi => by
    have := of_decide_eq_true (zru_all (P := zlr B) (t := t) q (q + i) (by omega) (by omega))
    omega) hl h0 h7
  unfold zww
  by_cases g : zla B q (zru (zlr B) t q - q) = l
  · rw [if_pos g, if_pos (hk.mpr g)]
  · rw [if_neg g, if_neg (fun h' => g (hk.mp h'))]

/-! ===== more answers asked, more answers told ===== -/
def zle (x y : Option zR) : Prop := ∀ r, x = some r → y = some r
theorem zle_rf (x : Option zR) : zle x x := fun _ h => h
theorem zle_no (y : Option zR) : zle none y := fun _ h => by cases h
theorem zle_if {c : Prop} [Decidable c] {x y x' y' : Option zR} (h1 : zle x x') (h2 : zle y y') : zle (if c then x else y) (if c then x' else y') := by
  by_cases h : c
  · rw [if_pos h, if_pos h]; exact h1
  · rw [if_neg h, if_neg h]; exact h2
theorem zle_zif {c : Bool} {x x' : Option zR} (h1 : zle x x') : zle (zif c x) (zif c x') := by
  cases c
  · exact zle_no _
  · exact h1
theorem zle_zob {h : zH} {a : Nat} {ks : List Nat} {f f' : (Nat → Option Nat) → Option zR} (H : ∀ r, zle (f r) (f' r)) : zle (zob h a ks f) (zob h a ks f') := by
  unfold zob; split
  · split
    · exact H _
    · exact zle_no _
  · exact zle_no _
theorem zle_zar {h : zH} {a kd : Nat} {f f' : Nat → (Nat → Option Nat) → Option zR} (H : ∀ n r, zle (f n r) (f' n r)) : zle (zar h a kd f) (zar h a kd f') := by
  unfold zar; split
  · split
    · exact H _ _
    · exact zle_no _
  · exact zle_no _
theorem zle_zar2 {h : zH} {a k1 k2 : Nat} {f f' g g' : Nat → Option zR} (H : ∀ n, zle (f n) (f' n)) (H2 : ∀ n, zle (g n) (g' n)) : zle (zar2 h a k1 k2 f g) (zar2 h a k1 k2 f' g') := by
  unfold zar2; split
  · split
    · exact H _
    · split
      · exact H2 _
      · exact zle_no _
  · exact zle_no _
theorem zle_zal {h : zH} {a : Nat} {f f' : Nat → Option zR} (H : ∀ n, zle (f n) (f' n)) : zle (zal h a f) (zal h a f') := by
  unfold zal; split
  · split
    · exact H _
    · exact zle_no _
  · exact zle_no _
theorem zle_zrf {r : Option Nat} {f f' : Nat → Option zR} {g g' : Option zR} (H : ∀ v, zle (f v) (f' v)) (H2 : zle g g') : zle (zrf r f g) (zrf r f' g') := by
  cases r
  · exact H2
  · exact H _
theorem zle_zlI {L : zL} {i : Nat} {f f' : Int32 → Option zR} (H : ∀ v, zle (f v) (f' v)) : zle (zlI L i f) (zlI L i f') := by
  unfold zlI; split
  · exact H _
  · exact zle_no _
theorem zle_zlJ {L : zL} {i : Nat} {f f' : Int64 → Option zR} (H : ∀ v, zle (f v) (f' v)) : zle (zlJ L i f) (zlJ L i f') := by
  unfold zlJ; split
  · exact H _
  · exact zle_no _
theorem zle_zlA {L : zL} {i : Nat} {f f' : Value → Option zR} (H : ∀ v, zle (f v) (f' v)) : zle (zlA L i f) (zlA L i f') := by
  unfold zlA; split <;> first | exact H _ | exact zle_no _
theorem zle_zI1 {st : List Value} {f f' : Int32 → List Value → Option zR} (H : ∀ x r, zle (f x r) (f' x r)) : zle (zI1 st f) (zI1 st f') := by
  unfold zI1; split <;> first | exact H _ _ | exact zle_no _
theorem zle_zI2 {st : List Value} {f f' : Int32 → Int32 → List Value → Option zR} (H : ∀ x y r, zle (f x y r) (f' x y r)) : zle (zI2 st f) (zI2 st f') := by
  unfold zI2; split <;> first | exact H _ _ _ | exact zle_no _
theorem zle_zJ1 {st : List Value} {f f' : Int64 → List Value → Option zR} (H : ∀ x r, zle (f x r) (f' x r)) : zle (zJ1 st f) (zJ1 st f') := by
  unfold zJ1; split <;> first | exact H _ _ | exact zle_no _
theorem zle_zJ2 {st : List Value} {f f' : Int64 → Int64 → List Value → Option zR} (H : ∀ x y r, zle (f x y r) (f' x y r)) : zle (zJ2 st f) (zJ2 st f') := by
  unfold zJ2; split <;> first | exact H _ _ _ | exact zle_no _
theorem zle_zJI {st : List Value} {f f' : Int64 → Int32 → List Value → Option zR} (H : ∀ x y r, zle (f x y r) (f' x y r)) : zle (zJI st f) (zJI st f') := by
  unfold zJI; split <;> first | exact H _ _ _ | exact zle_no _
theorem zle_zA1 {st : List Value} {f f' : Nat → List Value → Option zR} (H : ∀ x r, zle (f x r) (f' x r)) : zle (zA1 st f) (zA1 st f') := by
  unfold zA1; split <;> first | exact H _ _ | exact zle_no _
theorem zle_zIA {st : List Value} {f f' : Nat → Int32 → List Value → Option zR} (H : ∀ x y r, zle (f x y r) (f' x y r)) : zle (zIA st f) (zIA st f') := by
  unfold zIA; split <;> first | exact H _ _ _ | exact zle_no _
theorem zle_zV1 {st : List Value} {f f' : Value → List Value → Option zR} (H : ∀ x r, zle (f x r) (f' x r)) : zle (zV1 st f) (zV1 st f') := by
  unfold zV1; split
  · split <;> first | exact H _ _ | exact zle_no _
  · exact zle_no _
theorem zle_zV2 {st : List Value} {f f' : Value → Value → List Value → Option zR} {g g' : Value → List Value → Option zR} (H : ∀ x y r, zle (f x y r) (f' x y r)) (H2 : ∀ x r, zle (g x r) (g' x r)) : zle (zV2 st f g) (zV2 st f' g') := by
  unfold zV2; split <;> first | exact H _ _ _ | exact H2 _ _ | exact zle_no _
theorem zle_zN1 {st : List Value} {f f' g g' : List Value → Option zR} (H : ∀ r, zle (f r) (f' r)) (H2 : ∀ r, zle (g r) (g' r)) : zle (zN1 st f g) (zN1 st f' g') := by
  unfold zN1; split <;> first | exact H _ | exact H2 _ | exact zle_no _
theorem zle_zPut {st : List Value} {t : Nat} {f f' : Nat → Value → List Value → Option zR} (H : ∀ a v r, zle (f a v r) (f' a v r)) : zle (zPut st t f) (zPut st t f') := by
  unfold zPut; split <;> (try split) <;> first | exact H _ _ _ | exact zle_zif (H _ _ _) | exact zle_no _
theorem zle_zAs {st : List Value} {f f' : Value → List Value → Option zR} (H : ∀ x r, zle (f x r) (f' x r)) : zle (zAs st f) (zAs st f') := by
  unfold zAs; split <;> first | exact H _ _ | exact zle_no _
theorem zle_zVA {st : List Value} {f f' : Nat → Int32 → Int32 → List Value → Option zR} (H : ∀ x y z r, zle (f x y z r) (f' x y z r)) : zle (zVA st f) (zVA st f') := by
  unfold zVA; split <;> first | exact H _ _ _ _ | exact zle_no _
theorem zle_zWA {st : List Value} {f f' : Nat → Int32 → Int64 → List Value → Option zR} (H : ∀ x y z r, zle (f x y z r) (f' x y z r)) : zle (zWA st f) (zWA st f') := by
  unfold zWA; split <;> first | exact H _ _ _ _ | exact zle_no _
theorem zle_zQA {st : List Value} {f f' : Nat → Int32 → Nat → List Value → Option zR} (H : ∀ x y z r, zle (f x y z r) (f' x y z r)) : zle (zQA st f) (zQA st f') := by
  unfold zQA; split <;> first | exact H _ _ _ _ | exact zle_no _
theorem zle_zCp {st : List Value} {f f' : Nat → Int32 → Nat → Int32 → Int32 → List Value → Option zR} (H : ∀ a b c d e r, zle (f a b c d e r) (f' a b c d e r)) : zle (zCp st f) (zCp st f') := by
  unfold zCp; split <;> first | exact H _ _ _ _ _ _ | exact zle_no _
theorem zle_zSt {st : List Value} {f f' : Nat → List Value → Option zR} (H : ∀ x r, zle (f x r) (f' x r)) : zle (zSt st f) (zSt st f') := by
  unfold zSt; split <;> first | exact H _ _ | exact zle_no _
theorem zle_zSc {st : List Value} {f f' : Nat → Int32 → List Value → Option zR} (H : ∀ x i r, zle (f x i r) (f' x i r)) : zle (zSc st f) (zSc st f') := by
  unfold zSc; split <;> first | exact H _ _ _ | exact zle_no _
theorem zle_zpop {f f' : List Value → List Value → Option zR} (H : ∀ a r, zle (f a r) (f' a r)) : ∀ (n : Nat) (acc st : List Value), zle (zpop n acc st f) (zpop n acc st f')
  | 0, acc, st => H acc st
  | _ + 1, _, [] => zle_no _
  | n + 1, acc, v :: st => zle_zpop H n (v :: acc) st
theorem zle_zrc {h : zH} {args : List Value} {ks : List Nat} {x x' : Option zR} (H : zle x x') : zle (zrc h args ks x) (zrc h args ks x') := by
  unfold zrc; split
  · exact zle_zob fun _ => H
  · exact zle_no _
theorem zle_zswi {x : Int32} {d : Nat} {k k' : Nat → Option zR} (H : ∀ t, zle (k t) (k' t)) : ∀ l : List (Int32 × Nat), zle (zswi x l d k) (zswi x l d k')
  | [] => H d
  | (c, t) :: r => zle_if (H t) (zle_zswi H r)
theorem zle_zask {G : Nat → zM} {S S' : zO} {D j : Nat} {args : List Value} {h : zH} (HS : ∀ D j pc L st h, zle (S D j pc L st h) (S' D j pc L st h)) : zle (zask G S D j args h) (zask G S' D j args h) := by
  unfold zask; split
  · exact HS _ _ _ _ _ _
  · exact zle_no _
theorem zle_zkI {o o' : Option zR} {sh : List zE} {k k' : Int32 → zTI → zTJ → Option zR} (H : zle o o') (Hk : ∀ r I J, zle (k r I J) (k' r I J)) : zle (zkI o sh k) (zkI o' sh k') := by
  intro r hr
  unfold zkI at hr ⊢
  split at hr
  · rw [H _ rfl]
    dsimp only
    by_cases c : ‹zH›.1 = sh
    · rw [if_pos c] at hr ⊢; exact Hk _ _ _ _ hr
    · rw [if_neg c] at hr; cases hr
  · cases hr
theorem zle_zkJ {o o' : Option zR} {sh : List zE} {k k' : Int64 → zTI → zTJ → Option zR} (H : zle o o') (Hk : ∀ r I J, zle (k r I J) (k' r I J)) : zle (zkJ o sh k) (zkJ o' sh k') := by
  intro r hr
  unfold zkJ at hr ⊢
  split at hr
  · rw [H _ rfl]
    dsimp only
    by_cases c : ‹zH›.1 = sh
    · rw [if_pos c] at hr ⊢; exact Hk _ _ _ _ hr
    · rw [if_neg c] at hr; cases hr
  · cases hr
theorem zle_zkV {o o' : Option zR} {sh : List zE} {k k' : zTI → zTJ → Option zR} (H : zle o o') (Hk : ∀ I J, zle (k I J) (k' I J)) : zle (zkV o sh k) (zkV o' sh k') := by
  intro r hr
  unfold zkV at hr ⊢
  split at hr
  · rw [H _ rfl]
    dsimp only
    by_cases c : ‹zH›.1 = sh
    · rw [if_pos c] at hr ⊢; exact Hk _ _ _ hr
    · rw [if_neg c] at hr; cases hr
  · cases hr
theorem zle_zcI {o o' : Option zR} {k k' : Int32 → zH → Option zR} (H : zle o o') (Hk : ∀ r h, zle (k r h) (k' r h)) : zle (zcI o k) (zcI o' k') := by
  intro r hr
  unfold zcI at hr ⊢
  split at hr
  · rw [H _ rfl]; exact Hk _ _ _ hr
  · cases hr
theorem zle_zcJ {o o' : Option zR} {k k' : Int64 → zH → Option zR} (H : zle o o') (Hk : ∀ r h, zle (k r h) (k' r h)) : zle (zcJ o k) (zcJ o' k') := by
  intro r hr
  unfold zcJ at hr ⊢
  split at hr
  · rw [H _ rfl]; exact Hk _ _ _ hr
  · cases hr
theorem zle_zcA {o o' : Option zR} {k k' : Nat → zH → Option zR} (H : zle o o') (Hk : ∀ r h, zle (k r h) (k' r h)) : zle (zcA o k) (zcA o' k') := by
  intro r hr
  unfold zcA at hr ⊢
  split at hr
  · rw [H _ rfl]; exact Hk _ _ _ hr
  · cases hr
theorem zle_zcV {o o' : Option zR} {k k' : zH → Option zR} (H : zle o o') (Hk : ∀ h, zle (k h) (k' h)) : zle (zcV o k) (zcV o' k') := by
  intro r hr
  unfold zcV at hr ⊢
  split at hr
  · rw [H _ rfl]; exact Hk _ _ hr
  · cases hr
theorem zle_zback {G : Nat → zM} {j : Nat} {o o' : Option zR} {h : zH} {f f' : List Value → zH → Option zR} (H : zle o o') (Hk : ∀ v h, zle (f v h) (f' v h)) : zle (zback G j o h f) (zback G j o' h f') := by
  unfold zback; split
  · split
    · exact zle_zkV H fun _ _ => Hk _ _
    · exact zle_zkI H fun _ _ _ => Hk _ _
    · exact zle_zkI H fun _ _ _ => Hk _ _
    · exact zle_zkJ H fun _ _ _ => Hk _ _
    · exact zle_no _
  · split
    · exact zle_zcV H fun _ => Hk _ _
    · exact zle_zcI H fun _ _ => Hk _ _
    · exact zle_zcI H fun _ _ => Hk _ _
    · exact zle_zcJ H fun _ _ => Hk _ _
    · exact zle_zcA H fun _ _ => Hk _ _
    · exact zle_zcA H fun _ _ => Hk _ _
    · exact zle_no _
theorem zle_zinvS {G : Nat → zM} {S S' : zO} {D j n : Nat} {st : List Value} {h : zH} {f f' : List Value → zH → Option zR} (HS : ∀ D j pc L st h, zle (S D j pc L st h) (S' D j pc L st h)) (Hk : ∀ v h, zle (f v h) (f' v h)) : zle (zinvS G S D j n st h f) (zinvS G S' D j n st h f') :=
  zle_zpop (fun _ _ => zle_zif (zle_zback (zle_zask HS) fun _ _ => Hk _ _)) _ _ _
theorem zle_zinvV {G : Nat → zM} {S S' : zO} {D j n : Nat} {ks : List Nat} {st : List Value} {h : zH} {f f' : List Value → zH → Option zR} (HS : ∀ D j pc L st h, zle (S D j pc L st h) (S' D j pc L st h)) (Hk : ∀ v h, zle (f v h) (f' v h)) : zle (zinvV G S D j n ks st h f) (zinvV G S' D j n ks st h f') :=
  zle_zpop (fun _ _ => zle_zif (zle_zrc (zle_zback (zle_zask HS) fun _ _ => Hk _ _))) _ _ _
set_option maxHeartbeats 4000000 in
theorem zle_zstep {G : Nat → zM} {S S' : zO} {D : Nat} {e : zI} {k k' : zKt} {L : zL} {st : List Value} {h : zH} (HS : ∀ D j pc L st h, zle (S D j pc L st h) (S' D j pc L st h)) (Hk : ∀ pc L st h, zle (k pc L st h) (k' pc L st h)) : zle (zstep G S D e k L st h) (zstep G S' D e k' L st h) := by
  obtain ⟨pc, ins, a, b, ks, z, zl, sw⟩ := e
  cases ins <;> unfold zstep <;> dsimp only
  all_goals first
    | exact zle_no _
    | exact Hk _ _ _ _
    | exact zle_zlI fun _ => Hk _ _ _ _
    | exact zle_zlJ fun _ => Hk _ _ _ _
    | exact zle_zlA fun _ => Hk _ _ _ _
    | exact zle_zI1 fun _ _ => Hk _ _ _ _
    | exact zle_zI2 fun _ _ _ => Hk _ _ _ _
    | exact zle_zI2 fun _ _ _ => zle_if (zle_no _) (Hk _ _ _ _)
    | exact zle_zJ1 fun _ _ => Hk _ _ _ _
    | exact zle_zJ2 fun _ _ _ => Hk _ _ _ _
    | exact zle_zJ2 fun _ _ _ => zle_if (zle_no _) (Hk _ _ _ _)
    | exact zle_zJI fun _ _ _ => Hk _ _ _ _
    | exact zle_zV1 fun _ _ => Hk _ _ _ _
    | exact zle_zV2 (fun _ _ _ => Hk _ _ _ _) (fun _ _ => Hk _ _ _ _)
    | exact zle_zN1 (fun _ => Hk _ _ _ _) (fun _ => Hk _ _ _ _)
    | exact zle_zAs fun _ _ => Hk _ _ _ _
    | exact zle_zI1 fun _ _ => zle_zswi (fun _ => Hk _ _ _ _) _
    | exact zle_zIA fun _ _ _ => zle_zar fun _ _ => zle_zif (Hk _ _ _ _)
    | exact zle_zIA fun _ _ _ => zle_zar2 (fun _ => zle_zif (Hk _ _ _ _)) (fun _ => zle_zif (Hk _ _ _ _))
    | exact zle_zIA fun _ _ _ => zle_zif (zle_zar fun _ _ => zle_zif (zle_zrf (fun _ => Hk _ _ _ _) (Hk _ _ _ _)))
    | exact zle_zVA fun _ _ _ _ => zle_zar fun _ _ => zle_zif (Hk _ _ _ _)
    | exact zle_zVA fun _ _ _ _ => zle_zar2 (fun _ => zle_zif (Hk _ _ _ _)) (fun _ => zle_zif (zle_zif (Hk _ _ _ _)))
    | exact zle_zWA fun _ _ _ _ => zle_zar fun _ _ => zle_zif (Hk _ _ _ _)
    | exact zle_zQA fun _ _ _ _ => zle_zif (zle_zar fun _ _ => zle_zob fun _ => zle_zif (Hk _ _ _ _))
    | exact zle_zA1 fun _ _ => zle_zal fun _ => Hk _ _ _ _
    | exact zle_zif (Hk _ _ _ _)
    | exact zle_zI1 fun _ _ => zle_zif (zle_zif (Hk _ _ _ _))
    | exact zle_zA1 fun _ _ => zle_zar fun _ _ => Hk _ _ _ _
    | (refine zle_zI1 fun _ _ => ?_; split <;> exact zle_if (Hk _ _ _ _) (Hk _ _ _ _))
    | (refine zle_zI2 fun _ _ _ => ?_; split <;> exact zle_if (Hk _ _ _ _) (Hk _ _ _ _))
    | (split <;> first | exact Hk _ _ _ _ | exact zle_zif (Hk _ _ _ _))
    | (refine zle_zA1 fun _ _ => zle_zob fun _ => ?_; split <;> first | exact Hk _ _ _ _ | exact zle_zrf (fun _ => Hk _ _ _ _) (Hk _ _ _ _))
    | (refine zle_zPut fun _ _ _ => zle_zob fun _ => ?_; split <;> first | exact Hk _ _ _ _ | exact zle_no _)
    | (split
       · exact zle_zinvS HS fun _ _ => Hk _ _ _ _
       · refine zle_zif ?_
         split <;> first
           | exact zle_zI2 fun _ _ _ => zle_zif (Hk _ _ _ _)
           | exact zle_zI1 fun _ _ => zle_zif (Hk _ _ _ _)
           | exact zle_zCp fun _ _ _ _ _ _ => zle_zif (zle_zar fun _ _ => zle_zar fun _ _ => zle_zif (zle_zif (Hk _ _ _ _)))
           | exact zle_no _)
    | (split
       · exact zle_zinvV HS fun _ _ => Hk _ _ _ _
       · refine zle_zif ?_
         split <;> first
           | exact zle_zSt fun _ _ => zle_zif (zle_zif (Hk _ _ _ _))
           | exact zle_zSc fun _ _ _ => zle_zif (zle_zif (zle_zif (Hk _ _ _ _)))
           | exact zle_zA1 fun _ _ => zle_zif (zle_zar fun _ _ => Hk _ _ _ _)
           | exact zle_no _)
    | (split
       · exact zle_zinvV HS fun _ _ => Hk _ _ _ _
       · exact zle_zif (zle_zA1 fun _ _ => zle_zif (Hk _ _ _ _)))
    | exact zle_rf _
theorem zle_zx {G : Nat → zM} {S S' : zO} {D j : Nat} {M : zM} (HS : ∀ D j pc L st h, zle (S D j pc L st h) (S' D j pc L st h)) : ∀ (f pc : Nat) (L : zL) (st : List Value) (h : zH), zle (zx G S D j M f pc L st h) (zx G S' D j M f pc L st h) := by
  intro f
  induction f with
  | zero => intro pc L st h; exact zle_no _
  | succ f ih =>
    intro pc L st h
    unfold zx
    split
    · exact zle_no _
    · refine zle_zstep HS fun pc' L' st' h' => ?_
      split
      · exact HS _ _ _ _ _ _
      · exact ih _ _ _ _
theorem zle_po {x y : Option zR} (h : zle x y) : Lean.Order.PartialOrder.rel x y := by
  cases x with
  | none => exact Lean.Order.FlatOrder.rel.bot
  | some r => rw [h r rfl]; exact Lean.Order.FlatOrder.rel.refl
theorem zle_of {x y : Option zR} (h : Lean.Order.PartialOrder.rel x y) : zle x y := by
  intro r hr
  subst hr
  cases h
  rfl
theorem zF_mono (G : Nat → zM) : Lean.Order.monotone (zF G) := by
  intro S S' h D j pc L st hp
  exact zle_po (zle_zx (fun D j pc L st hp => zle_of (h D j pc L st hp)) _ _ _ _ _)
/-- WHAT A METHOD ANSWERS, from any pc -/
noncomputable def zS (G : Nat → zM) : zO := Lean.Order.fix (zF G) (zF_mono G)
theorem zS_eq (G : Nat → zM) (D j pc : Nat) (L : zL) (st : List Value) (h : zH) : zS G D j pc L st h = zx G (zS G) D j (G j) 400 pc L st h := by
  have e := Lean.Order.fix_eq (zF_mono G)
  exact congrFun (congrFun (congrFun (congrFun (congrFun (congrFun e D) j) pc) L) st) h
theorem zS_ind (G : Nat → zM) (P : Nat → Nat → Nat → zL → List Value → zH → zR → Prop) (H : ∀ S : zO, (∀ D j pc L st h r, S D j pc L st h = some r → P D j pc L st h r) → ∀ D j pc L st h r, zx G S D j (G j) 400 pc L st h = some r → P D j pc L st h r) : ∀ D j pc L st h r, zS G D j pc L st h = some r → P D j pc L st h r := by
  refine Lean.Order.fix_induct (zF_mono G) (fun S => ∀ D j pc L st h r, S D j pc L st h = some r → P D j pc L st h r) ?_ (fun S hS => H S hS)
  refine Lean.Order.admissible_pi_apply (fun D (s : Nat → Nat → zL → List Value → zH → Option zR) => ∀ j pc L st h r, s j pc L st h = some r → P D j pc L st h r) fun D => ?_
  refine Lean.Order.admissible_pi_apply (fun j (s : Nat → zL → List Value → zH → Option zR) => ∀ pc L st h r, s pc L st h = some r → P D j pc L st h r) fun j => ?_
  refine Lean.Order.admissible_pi_apply (fun pc (s : zL → List Value → zH → Option zR) => ∀ L st h r, s L st h = some r → P D j pc L st h r) fun pc => ?_
  refine Lean.Order.admissible_pi_apply (fun L (s : List Value → zH → Option zR) => ∀ st h r, s st h = some r → P D j pc L st h r) fun L => ?_
  refine Lean.Order.admissible_pi_apply (fun st (s : zH → Option zR) => ∀ h r, s h = some r → P D j pc L st h r) fun st => ?_
  refine Lean.Order.admissible_pi_apply (fun h (s : Option zR) => ∀ r, s = some r → P D j pc L st h r) fun h => ?_
  exact Lean.Order.admissible_pi _ fun r => Lean.Order.Option.admissible_eq_some _ _

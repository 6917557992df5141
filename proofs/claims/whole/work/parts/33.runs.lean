/-! ===== stretches of a run; what an operation owes ===== -/
noncomputable def zxk (G : Nat → zM) (S : zO) (D : Nat) (M : zM) (K : zKt) : Nat → zKt
  | 0 => K
  | n + 1 => fun pc L st h => match zfind M.2.2.2.2.1 pc with
    | none => none
    | some e => zstep G S D e (zxk G S D M K n) L st h
theorem zx_k {G : Nat → zM} {S : zO} {D j : Nat} {M : zM} (hc : M.2.2.2.2.2.1 = []) (f : Nat) : ∀ (n pc : Nat) (L : zL) (st : List Value) (h : zH), zx G S D j M (n + f) pc L st h = zxk G S D M (zx G S D j M f) n pc L st h
  | 0, pc, L, st, h => by rw [Nat.zero_add]; rfl
  | n + 1, pc, L, st, h => by
    rw [show n + 1 + f = (n + f) + 1 by omega]
    show (match zfind M.2.2.2.2.1 pc with | none => none | some e => zstep G S D e (fun pc' L' st' h' => match zcut M.2.2.2.2.2.1 pc' with | some bm => S D j pc' (zmask bm L') st' h' | none => zx G S D j M (n + f) pc' L' st' h') L st h) = (match zfind M.2.2.2.2.1 pc with | none => none | some e => zstep G S D e (zxk G S D M (zx G S D j M f) n) L st h)
    have e1 : (fun pc' L' st' h' => match zcut M.2.2.2.2.2.1 pc' with | some bm => S D j pc' (zmask bm L') st' h' | none => zx G S D j M (n + f) pc' L' st' h') = zxk G S D M (zx G S D j M f) n := by
      funext pc' L' st' h'
      rw [hc]
      exact zx_k hc f n pc' L' st' h'
    rw [e1]
theorem zx_N {G : Nat → zM} {S : zO} {D j : Nat} {M : zM} (N n f : Nat) (hN : N = n + f) (hc : M.2.2.2.2.2.1 = []) (pc : Nat) (L : zL) (st : List Value) (h : zH) : zx G S D j M N pc L st h = zxk G S D M (zx G S D j M f) n pc L st h := by
  subst hN; exact zx_k hc f n pc L st h
def zPair (Rel : Nat → zH → zH → Prop) (n : Nat) (hx hm : zH) (Dx jx Dm jm : Nat) (as : List Value) : Prop := ∃ (r : Int32) (hx' hm' : zH), zS zG Dx jx 0 (zpad (zG jx).2.2.1 (zar0 (.ref 0 :: as))) [] hx = some (some (.int r), hx') ∧ zS zG Dm jm 0 (zpad (zG jm).2.2.1 (zar0 (.ref 0 :: as))) [] hm = some (some (.int r), hm') ∧ Rel (n + 1) hx' hm'
def zRB (Rel : Nat → zH → zH → Prop) : Prop := ∀ n hx hm, Rel n hx hm → (n ≤ 512 → hx.1.length + hm.1.length ≤ 600000 ∧ zsz hx.1 + zsz hm.1 ≤ 7302250) ∧ (∃ n0 rf, hx.1[0]? = some (10, n0, rf)) ∧ (∃ n0 rf, hm.1[0]? = some (11, n0, rf)) ∧ Rel (n + 1) hx hm
def zo0 (Rel : Nat → zH → zH → Prop) : Prop := ∀ (n : Nat) (hx hm : zH), Rel n hx hm → ∀ (y0 : Int32) (y1 : Int32) (y2 : Int32) (y3 : Int32) (y4 : Int32), zPair Rel n hx hm 1 115 1 159 [.int y0, .int y1, .int y2, .int y3, .int y4]
def zo1 (Rel : Nat → zH → zH → Prop) : Prop := ∀ (n : Nat) (hx hm : zH), Rel n hx hm → ∀ (y0 : Int32), zPair Rel n hx hm 0 117 0 160 [.int y0]
def zo2 (Rel : Nat → zH → zH → Prop) : Prop := ∀ (n : Nat) (hx hm : zH), Rel n hx hm → zPair Rel n hx hm 8 118 13 199 []
def zo3 (Rel : Nat → zH → zH → Prop) : Prop := ∀ (n : Nat) (hx hm : zH), Rel n hx hm → zPair Rel n hx hm 38 119 13 198 []
def zo4 (Rel : Nat → zH → zH → Prop) : Prop := ∀ (n : Nat) (hx hm : zH), Rel n hx hm → ∀ (y0 : Int32) (y1 : Int32), zPair Rel n hx hm 1 120 1 230 [.int y0, .int y1]
def zo5 (Rel : Nat → zH → zH → Prop) : Prop := ∀ (n : Nat) (hx hm : zH), Rel n hx hm → ∀ (y0 : Int32) (y1 : Int32), zPair Rel n hx hm 5 121 6 232 [.int y0, .int y1]
def zo6 (Rel : Nat → zH → zH → Prop) : Prop := ∀ (n : Nat) (hx hm : zH), Rel n hx hm → ∀ (y0 : Int32) (y1 : Int32), zPair Rel n hx hm 1 123 1 233 [.int y0, .int y1]
def zo7 (Rel : Nat → zH → zH → Prop) : Prop := ∀ (n : Nat) (hx hm : zH), Rel n hx hm → ∀ (y0 : Int32) (y1 : Int32), zPair Rel n hx hm 2 124 1 234 [.int y0, .int y1]
def zo8 (Rel : Nat → zH → zH → Prop) : Prop := ∀ (n : Nat) (hx hm : zH), Rel n hx hm → ∀ (y0 : Int32) (y1 : Int32), zPair Rel n hx hm 3 125 5 236 [.int y0, .int y1]
def zo9 (Rel : Nat → zH → zH → Prop) : Prop := ∀ (n : Nat) (hx hm : zH), Rel n hx hm → ∀ (y0 : Int32), zPair Rel n hx hm 3 126 5 240 [.int y0]
def zo10 (Rel : Nat → zH → zH → Prop) : Prop := ∀ (n : Nat) (hx hm : zH), Rel n hx hm → ∀ (y0 : Int32) (y1 : Int32), zPair Rel n hx hm 3 127 5 243 [.int y0, .int y1]
def zo11 (Rel : Nat → zH → zH → Prop) : Prop := ∀ (n : Nat) (hx hm : zH), Rel n hx hm → ∀ (y0 : Int32) (y1 : Int32) (y2 : Int32), zPair Rel n hx hm 3 128 5 247 [.int y0, .int y1, .int y2]
def zo12 (Rel : Nat → zH → zH → Prop) : Prop := ∀ (n : Nat) (hx hm : zH), Rel n hx hm → ∀ (y0 : Int32) (y1 : Int32), zPair Rel n hx hm 3 129 5 248 [.int y0, .int y1]
def zo13 (Rel : Nat → zH → zH → Prop) : Prop := ∀ (n : Nat) (hx hm : zH), Rel n hx hm → ∀ (y0 : Int32) (y1 : Int32), zPair Rel n hx hm 3 130 5 249 [.int y0, .int y1]
def zo14 (Rel : Nat → zH → zH → Prop) : Prop := ∀ (n : Nat) (hx hm : zH), Rel n hx hm → ∀ (y0 : Int32) (y1 : Int32), zPair Rel n hx hm 4 131 6 250 [.int y0, .int (if y1 = 0 then 0 else 1)]
def zo15 (Rel : Nat → zH → zH → Prop) : Prop := ∀ (n : Nat) (hx hm : zH), Rel n hx hm → zPair Rel n hx hm 3 132 2 252 []
def zo16 (Rel : Nat → zH → zH → Prop) : Prop := ∀ (n : Nat) (hx hm : zH), Rel n hx hm → zPair Rel n hx hm 4 133 3 255 []
def zo17 (Rel : Nat → zH → zH → Prop) : Prop := ∀ (n : Nat) (hx hm : zH), Rel n hx hm → ∀ (y0 : Int32), zPair Rel n hx hm 2 134 1 256 [.int y0]
def zo18 (Rel : Nat → zH → zH → Prop) : Prop := ∀ (n : Nat) (hx hm : zH), Rel n hx hm → ∀ (y0 : Int32) (y1 : Int32), zPair Rel n hx hm 3 135 5 258 [.int y0, .int y1]
def zo19 (Rel : Nat → zH → zH → Prop) : Prop := ∀ (n : Nat) (hx hm : zH), Rel n hx hm → ∀ (y0 : Int32) (y1 : Int32), zPair Rel n hx hm 1 136 1 235 [.int y0, .int y1]
def zo20 (Rel : Nat → zH → zH → Prop) : Prop := ∀ (n : Nat) (hx hm : zH), Rel n hx hm → zPair Rel n hx hm 1 137 0 238 []
def zo21 (Rel : Nat → zH → zH → Prop) : Prop := ∀ (n : Nat) (hx hm : zH), Rel n hx hm → ∀ (y0 : Int32) (y1 : Int32) (y2 : Int32), zPair Rel n hx hm 6 141 10 266 [.int y0, .int y1, .int y2]
def zo22 (Rel : Nat → zH → zH → Prop) : Prop := ∀ (n : Nat) (hx hm : zH), Rel n hx hm → ∀ (y0 : Int32) (y1 : Int32) (y2 : Int32), zPair Rel n hx hm 17 142 4 269 [.int y0, .int y1, .int y2]
def zo23 (Rel : Nat → zH → zH → Prop) : Prop := ∀ (n : Nat) (hx hm : zH), Rel n hx hm → ∀ (y0 : Int32) (y1 : Int32) (y2 : Int32), zPair Rel n hx hm 21 143 8 277 [.int y0, .int y1, .int y2]
def zo24 (Rel : Nat → zH → zH → Prop) : Prop := ∀ (n : Nat) (hx hm : zH), Rel n hx hm → ∀ (y0 : Int32) (y1 : Int32) (y2 : Int32), zPair Rel n hx hm 21 144 8 278 [.int y0, .int y1, .int y2]
def zo25 (Rel : Nat → zH → zH → Prop) : Prop := ∀ (n : Nat) (hx hm : zH), Rel n hx hm → ∀ (y0 : Int32) (y1 : Int32), zPair Rel n hx hm 4 145 6 279 [.int y0, .int y1]
def zo26 (Rel : Nat → zH → zH → Prop) : Prop := ∀ (n : Nat) (hx hm : zH), Rel n hx hm → zPair Rel n hx hm 17 146 5 280 []
def zo27 (Rel : Nat → zH → zH → Prop) : Prop := ∀ (n : Nat) (hx hm : zH), Rel n hx hm → ∀ (y0 : Int32) (y1 : Int32) (y2 : Int32) (y3 : Int32), zPair Rel n hx hm 17 147 4 281 [.int y0, .int y1, .int y2, .int y3]
def zo28 (Rel : Nat → zH → zH → Prop) : Prop := ∀ (n : Nat) (hx hm : zH), Rel n hx hm → ∀ (y0 : Int32) (y1 : Int32), zPair Rel n hx hm 19 148 4 285 [.int y0, .int y1]
def zo29 (Rel : Nat → zH → zH → Prop) : Prop := ∀ (n : Nat) (hx hm : zH), Rel n hx hm → ∀ (y0 : Int32), zPair Rel n hx hm 1 149 0 286 [.int y0]
def zo30 (Rel : Nat → zH → zH → Prop) : Prop := ∀ (n : Nat) (hx hm : zH), Rel n hx hm → ∀ (y0 : Int32) (y1 : Int32) (y2 : Int32) (y3 : Int32) (y4 : Int32) (y5 : Int32), zPair Rel n hx hm 7 150 10 291 [.int y0, .int y1, .int y2, .int y3, .int y4, .int y5]
def zo31 (Rel : Nat → zH → zH → Prop) : Prop := ∀ (n : Nat) (hx hm : zH), Rel n hx hm → ∀ (y0 : Int32), zPair Rel n hx hm 1 151 2 292 [.int y0]
def zo32 (Rel : Nat → zH → zH → Prop) : Prop := ∀ (n : Nat) (hx hm : zH), Rel n hx hm → ∀ (y0 : Int32), zPair Rel n hx hm 2 152 1 294 [.int y0]
def zo33 (Rel : Nat → zH → zH → Prop) : Prop := ∀ (n : Nat) (hx hm : zH), Rel n hx hm → ∀ (y0 : Int32), zPair Rel n hx hm 2 153 1 295 [.int y0]
def zOps (Rel : Nat → zH → zH → Prop) : Prop := zo0 Rel ∧ zo1 Rel ∧ zo2 Rel ∧ zo3 Rel ∧ zo4 Rel ∧ zo5 Rel ∧ zo6 Rel ∧ zo7 Rel ∧ zo8 Rel ∧ zo9 Rel ∧ zo10 Rel ∧ zo11 Rel ∧ zo12 Rel ∧ zo13 Rel ∧ zo14 Rel ∧ zo15 Rel ∧ zo16 Rel ∧ zo17 Rel ∧ zo18 Rel ∧ zo19 Rel ∧ zo20 Rel ∧ zo21 Rel ∧ zo22 Rel ∧ zo23 Rel ∧ zo24 Rel ∧ zo25 Rel ∧ zo26 Rel ∧ zo27 Rel ∧ zo28 Rel ∧ zo29 Rel ∧ zo30 Rel ∧ zo31 Rel ∧ zo32 Rel ∧ zo33 Rel
def zh0 : zH := ([], fun _ _ => 0, fun _ _ => 0)

/-! ===== every operation keeps the relation ===== -/
theorem zke4 : zo4 zRe := by
  intro n hx hm R0 y0 y1
  obtain ⟨σ, I, J, I', J', nb, nk, ns, nr, nh, t, j, u, rfl, rfl, H, R, M, B⟩ := R0
  show zKe n (qb_book y0 y1 σ I J) (qm_book y0 y1 I' J')
  exact zKe_D R M B (zDo_same H (o_book H.2.1.1 y0 y1))
theorem zke6 : zo6 zRe := by
  intro n hx hm R0 y0 y1
  obtain ⟨σ, I, J, I', J', nb, nk, ns, nr, nh, t, j, u, rfl, rfl, H, R, M, B⟩ := R0
  show zKe n (qb_reader y0 y1 σ I J) (qm_reader y0 y1 I' J')
  exact zKe_D R M B (zDo_same H (o_reader H.2.1.1 y0 y1))
theorem zke7 : zo7 zRe := by
  intro n hx hm R0 y0 y1
  obtain ⟨σ, I, J, I', J', nb, nk, ns, nr, nh, t, j, u, rfl, rfl, H, R, M, B⟩ := R0
  show zKe n (qb_wish y0 y1 σ I J) (qm_wish y0 y1 I' J')
  exact zKe_D R M B (zDo_same H (o_wish H.2.1.1 y0 y1))
theorem zke19 : zo19 zRe := by
  intro n hx hm R0 y0 y1
  obtain ⟨σ, I, J, I', J', nb, nk, ns, nr, nh, t, j, u, rfl, rfl, H, R, M, B⟩ := R0
  show zKe n (qb_hole y0 y1 σ I J) (qm_hole y0 y1 I' J')
  exact zKe_D R M B (zDo_same H (o_hole H.2.1.1 y0 y1))
theorem zke9 : zo9 zRe := by
  intro n hx hm R0 y0
  obtain ⟨σ, I, J, I', J', nb, nk, ns, nr, nh, t, j, u, rfl, rfl, H, R, M, B⟩ := R0
  show zKe n (qb_leave y0 σ I J) (qm_leave y0 I' J')
  exact zKe_D R M B (o_leave H y0)
theorem zke10 : zo10 zRe := by
  intro n hx hm R0 y0 y1
  obtain ⟨σ, I, J, I', J', nb, nk, ns, nr, nh, t, j, u, rfl, rfl, H, R, M, B⟩ := R0
  show zKe n (qb_lend y0 y1 σ I J) (qm_lend y0 y1 I' J')
  exact zKe_D R M B (o_lend H y0 y1)
theorem zke11 : zo11 zRe := by
  intro n hx hm R0 y0 y1 y2
  obtain ⟨σ, I, J, I', J', nb, nk, ns, nr, nh, t, j, u, rfl, rfl, H, R, M, B⟩ := R0
  show zKe n (qb_fetch y0 y1 y2 σ I J) (qm_fetch y0 y1 y2 I' J')
  exact zKe_D R M B (o_fetch H y0 y1 y2)
theorem zke12 : zo12 zRe := by
  intro n hx hm R0 y0 y1
  obtain ⟨σ, I, J, I', J', nb, nk, ns, nr, nh, t, j, u, rfl, rfl, H, R, M, B⟩ := R0
  show zKe n (qb_shift y0 y1 σ I J) (qm_shift y0 y1 I' J')
  exact zKe_D R M B (o_shift H y0 y1)
theorem zke13 : zo13 zRe := by
  intro n hx hm R0 y0 y1
  obtain ⟨σ, I, J, I', J', nb, nk, ns, nr, nh, t, j, u, rfl, rfl, H, R, M, B⟩ := R0
  show zKe n (qb_hand y0 y1 σ I J) (qm_hand y0 y1 I' J')
  exact zKe_D R M B (o_hand H y0 y1)
theorem zke14 : zo14 zRe := by
  intro n hx hm R0 y0 y1
  obtain ⟨σ, I, J, I', J', nb, nk, ns, nr, nh, t, j, u, rfl, rfl, H, R, M, B⟩ := R0
  show zKe n (qb_sail y0 (if y1 = 0 then 0 else 1) σ I J) (qm_sail y0 (if y1 = 0 then 0 else 1) I' J')
  exact zKe_D R M B (o_sail H y0 (if y1 = 0 then 0 else 1))
theorem zke15 : zo15 zRe := by
  intro n hx hm R0 
  obtain ⟨σ, I, J, I', J', nb, nk, ns, nr, nh, t, j, u, rfl, rfl, H, R, M, B⟩ := R0
  show zKe n (qb_night  σ I J) (qm_night  I' J')
  exact zKe_D R M B (o_night H )
theorem zke16 : zo16 zRe := by
  intro n hx hm R0 
  obtain ⟨σ, I, J, I', J', nb, nk, ns, nr, nh, t, j, u, rfl, rfl, H, R, M, B⟩ := R0
  show zKe n (qb_rain  σ I J) (qm_rain  I' J')
  exact zKe_D R M B (o_rain H )
theorem zke17 : zo17 zRe := by
  intro n hx hm R0 y0
  obtain ⟨σ, I, J, I', J', nb, nk, ns, nr, nh, t, j, u, rfl, rfl, H, R, M, B⟩ := R0
  show zKe n (qb_pump y0 σ I J) (qm_pump y0 I' J')
  exact zKe_D R M B (o_pump H y0)
theorem zke18 : zo18 zRe := by
  intro n hx hm R0 y0 y1
  obtain ⟨σ, I, J, I', J', nb, nk, ns, nr, nh, t, j, u, rfl, rfl, H, R, M, B⟩ := R0
  show zKe n (qb_plug y0 y1 σ I J) (qm_plug y0 y1 I' J')
  exact zKe_D R M B (o_plug H y0 y1)
theorem zke20 : zo20 zRe := by
  intro n hx hm R0 
  obtain ⟨σ, I, J, I', J', nb, nk, ns, nr, nh, t, j, u, rfl, rfl, H, R, M, B⟩ := R0
  show zKe n (qb_undo  σ I J) (qm_undo  I' J')
  exact zKe_D R M B (o_undo H )
theorem zke22 : zo22 zRe := by
  intro n hx hm R0 y0 y1 y2
  obtain ⟨σ, I, J, I', J', nb, nk, ns, nr, nh, t, j, u, rfl, rfl, H, R, M, B⟩ := R0
  show zKe n (qb_left y0 y1 y2 σ I J) (qm_left y0 y1 y2 I' J')
  exact zKe_D R M B (o_left H y0 y1 y2)
theorem zke23 : zo23 zRe := by
  intro n hx hm R0 y0 y1 y2
  obtain ⟨σ, I, J, I', J', nb, nk, ns, nr, nh, t, j, u, rfl, rfl, H, R, M, B⟩ := R0
  show zKe n (qb_lending y0 y1 y2 σ I J) (qm_lending y0 y1 y2 I' J')
  exact zKe_D R M B (o_lending H y0 y1 y2)
theorem zke24 : zo24 zRe := by
  intro n hx hm R0 y0 y1 y2
  obtain ⟨σ, I, J, I', J', nb, nk, ns, nr, nh, t, j, u, rfl, rfl, H, R, M, B⟩ := R0
  show zKe n (qb_dear y0 y1 y2 σ I J) (qm_dear y0 y1 y2 I' J')
  exact zKe_D R M B (o_dear H y0 y1 y2)
theorem zke25 : zo25 zRe := by
  intro n hx hm R0 y0 y1
  obtain ⟨σ, I, J, I', J', nb, nk, ns, nr, nh, t, j, u, rfl, rfl, H, R, M, B⟩ := R0
  show zKe n (qb_room y0 y1 σ I J) (qm_room y0 y1 I' J')
  exact zKe_D R M B (o_room H y0 y1)
theorem zke26 : zo26 zRe := by
  intro n hx hm R0 
  obtain ⟨σ, I, J, I', J', nb, nk, ns, nr, nh, t, j, u, rfl, rfl, H, R, M, B⟩ := R0
  show zKe n (qb_meeting  σ I J) (qm_meeting  I' J')
  exact zKe_D R M B (o_meeting H )
theorem zke27 : zo27 zRe := by
  intro n hx hm R0 y0 y1 y2 y3
  obtain ⟨σ, I, J, I', J', nb, nk, ns, nr, nh, t, j, u, rfl, rfl, H, R, M, B⟩ := R0
  show zKe n (qb_aboard y0 y1 y2 y3 σ I J) (qm_aboard y0 y1 y2 y3 I' J')
  exact zKe_D R M B (o_aboard H y0 y1 y2 y3)
theorem zke28 : zo28 zRe := by
  intro n hx hm R0 y0 y1
  obtain ⟨σ, I, J, I', J', nb, nk, ns, nr, nh, t, j, u, rfl, rfl, H, R, M, B⟩ := R0
  show zKe n (qb_plugs y0 y1 σ I J) (qm_plugs y0 y1 I' J')
  exact zKe_D R M B (o_plugs H y0 y1)
theorem zke21 : zo21 zRe := by
  intro n hx hm R0 y0 y1 y2
  obtain ⟨σ, I, J, I', J', nb, nk, ns, nr, nh, t, j, u, rfl, rfl, H, R, M, B⟩ := R0
  show zKe n (qb_run y0 y1 y2 σ I J) (qm_run y0 y1 y2 I' J')
  exact zKe_R R M B (o_run H R)
theorem zke30 : zo30 zRe := by
  intro n hx hm R0 y0 y1 y2 y3 y4 y5
  obtain ⟨σ, I, J, I', J', nb, nk, ns, nr, nh, t, j, u, rfl, rfl, H, R, M, B⟩ := R0
  show zKe n (qb_voyages y0 y1 y2 y3 y4 y5 σ I J) (qm_voyages y0 y1 y2 y3 y4 y5 I' J')
  exact zKe_R R M B (o_voyages H R)
theorem zke8 : zo8 zRe := by
  intro n hx hm R0 y0 y1
  obtain ⟨σ, I, J, I', J', nb, nk, ns, nr, nh, t, j, u, rfl, rfl, H, R, M, B⟩ := R0
  show zKe n (qb_lies y0 y1 σ I J) (qm_lies y0 y1 I' J')
  exact zKe_D R M B (zDo_same H (o_lies H.2.1.1 H.2.1.wb y0 y1))
theorem zke5 : zo5 zRe := by
  intro n hx hm R0 y0 y1
  obtain ⟨σ, I, J, I', J', nb, nk, ns, nr, nh, t, j, u, rfl, rfl, H, R, M, B⟩ := R0
  show zKe n (qb_stop y0 y1 σ I J) (qm_stop y0 y1 I' J')
  obtain ⟨d, hd, ed⟩ := zk_day H.2.1.2.1
  exact zKe_D R M B (zDo_same H (o_stop H.2.1.1 H.2.1.wb ⟨ed, hd⟩ H.2.2.2.2.2.1 y0 y1))
theorem zke31 : zo31 zRe := by
  intro n hx hm R0 y0
  obtain ⟨σ, I, J, I', J', nb, nk, ns, nr, nh, t, j, u, rfl, rfl, H, R, M, B⟩ := R0
  show zKe n (qb_count y0 σ I J) (qm_count y0 I' J')
  obtain ⟨⟨t1, t2, t3, t4⟩, G, Rg, x, x0, n0, e7, e8, e25, e5, e6⟩ := id H
  have N := G.1.ns
  obtain ⟨n0, n1, n2, n3, n4⟩ := id N
  refine zKe_D R M B (zDo_same H (o_count G.1 (fun k hk => ?_) e5 (by rw [e8, e25]) x (by rw [t1, t2]) y0))
  rcases zk_b4 N G.2.1 hk with ⟨s, hs, e⟩ | ⟨b, hb, e⟩ | ⟨r, hr, e⟩ | e
  · rw [e]; exact znn (by omega)
  · rw [e, zy_100]; exact znn (by omega)
  · rw [e]; exact znn (by omega)
  · rw [e]; exact znn (by omega)
theorem zke32 : zo32 zRe := by
  intro n hx hm R0 y0
  obtain ⟨σ, I, J, I', J', nb, nk, ns, nr, nh, t, j, u, rfl, rfl, H, R, M, B⟩ := R0
  show zKe n (zS zG 2 152 0 [some (.ref 0), some (.int y0)] [] (zSC σ, I, J)) (qm_image y0 I' J')
  exact o_image H R M B
theorem zke33 : zo33 zRe := by
  intro n hx hm R0 y0
  obtain ⟨σ, I, J, I', J', nb, nk, ns, nr, nh, t, j, u, rfl, rfl, H, R, M, B⟩ := R0
  show zKe n (qb_back y0 σ I J) (qm_back y0 I' J')
  exact o_back H R M B
theorem zDo_tape {nb nk ns nr nh t t1 j u : Nat} {σ : zSg} {I I' I1 I1' : zTI} {J J' : zTJ} {x y : Option zR} {r : Int32} (H : zSta nb nk ns nr nh t j u I I') (h1 : x = some (some (.int r), (zSC σ, I1, J))) (h2 : y = some (some (.int r), (zSM, I1', J'))) (T : zTp t1 I1 I1') (K : zK1 I I1) (K' : zK1 I' I1') : ∃ t1, zDo nb nk ns nr nh t1 σ I I' x y := by
  obtain ⟨-, G, Rg, x, x0, n0, e7, e8, e25, e5, e6⟩ := id H
  refine ⟨t1, r, I1, I1', J, J', h1, h2, ⟨j, u, T, ?_, ?_, ?_, ?_, ?_, ?_, ?_, ?_, ?_, ?_⟩, ⟨fun i hi => K.1 i (by omega) (by omega), K.2 5 (by decide)⟩, ⟨fun i hi => K'.1 i (by omega) (by omega), K'.2 2 (by decide)⟩⟩
  · rw [K.1 3 (by decide) (by decide), K'.1 10 (by decide) (by decide)]; exact G
  · rw [K.1 3 (by decide) (by decide), K.1 6 (by decide) (by decide), K'.1 11 (by decide) (by decide)]; exact Rg
  · rw [K.1 3 (by decide) (by decide), K'.2 22 (by decide)]; exact x
  · rw [K'.2 22 (by decide)]; exact x0
  · rw [K'.2 23 (by decide)]; exact n0
  · rw [K.2 7 (by decide)]; exact e7
  · rw [K.2 8 (by decide)]; exact e8
  · rw [K'.2 25 (by decide)]; exact e25
  · rw [K.2 5 (by decide), K'.2 2 (by decide)]; exact e5
  · rw [K.1 25 (by decide) (by decide)]; exact e6
theorem zke0 : zo0 zRe := by
  intro n hx hm R0 y0 y1 y2 y3 y4
  obtain ⟨σ, I, J, I', J', nb, nk, ns, nr, nh, t, j, u, rfl, rfl, H, R, M, B⟩ := R0
  show zKe n (qb_feed y0 y1 y2 y3 y4 σ I J) (qm_feed y0 y1 y2 y3 y4 I' J')
  obtain ⟨r, I1, I1', t1, h1, h2, h3, h4, h5⟩ := o_feed (σ := σ) (J := J) (J' := J') H.1 y0 y1 y2 y3 y4
  obtain ⟨t2, D⟩ := zDo_tape H h1 h2 h3 h4 h5
  exact zKe_D R M B D
theorem zke1 : zo1 zRe := by
  intro n hx hm R0 y0
  obtain ⟨σ, I, J, I', J', nb, nk, ns, nr, nh, t, j, u, rfl, rfl, H, R, M, B⟩ := R0
  show zKe n (qb_end y0 σ I J) (qm_end y0 I' J')
  obtain ⟨t1, t2, t3, t4⟩ := id H.1
  rcases o_end (σ := σ) (J := J) (J' := J') (by rw [t1, t2] : I 0 1 = I' 0 1) y0 with h | ⟨h0, h1, h2, h3⟩
  · exact zKe_D R M B (zDo_same H h)
  · rw [t2] at h1
    obtain ⟨m, -, hm, rfl⟩ := zIab (a := 0) (b := t) rfl rfl (by omega) (by omega) h0 h1
    obtain ⟨t', D⟩ := zDo_tape (t1 := m) H h2 h3 ⟨zsI_at _ _ _ _, zsI_at _ _ _ _, by omega, fun i hi => by rw [zsI_ne _ _ _ (by decide), zsI_ne _ _ _ (by decide)]; exact t4 i (by omega)⟩ ⟨fun i a _ => zsI_ne _ _ _ a, fun k a => zsI_no _ _ _ a⟩ ⟨fun i a _ => zsI_ne _ _ _ a, fun k a => zsI_no _ _ _ a⟩
    exact zKe_D R M B D
theorem zke29 : zo29 zRe := by
  intro n hx hm R0 y0
  obtain ⟨σ, I, J, I', J', nb, nk, ns, nr, nh, t, j, u, rfl, rfl, H, R, M, B⟩ := R0
  show zKe n (qb_seed y0 σ I J) (qm_seed y0 I' J')
  obtain ⟨⟨t1, t2, t3, t4⟩, G, Rg, x, x0, n0, e7, e8, e25, e5, e6⟩ := id H
  rcases o_seed (σ := σ) (J := J) (J' := J') x y0 with h | ⟨h0, r, h2, h3⟩
  · exact zKe_D R M B (zDo_same H h)
  · have c3 : ∀ k, k ≠ 83 → zsI I 3 83 y0 3 k = I 3 k := fun k h => zsI_no _ _ _ h
    refine zKe_D (nb := nb) (nk := nk) (ns := ns) (nr := nr) (nh := nh) (t := t) R M B ⟨r, _, _, J, J', h2, h3, ⟨j, u, ⟨?_, ?_, t3, fun i hi => ?_⟩, ?_, ?_, ?_, ?_, ?_, ?_, ?_, ?_, ?_, ?_⟩, ⟨fun i hi => zsI_ne _ _ _ (by omega), ?_⟩, ⟨fun i hi => zsI_ne _ _ _ (by omega), zsI_no _ _ _ (by decide)⟩⟩
    · rw [zsI_ne _ _ _ (by decide)]; exact t1
    · rw [zsI_no _ _ _ (by decide)]; exact t2
    · rw [zsI_ne _ _ _ (by decide), zsI_ne _ _ _ (by decide)]; exact t4 i hi
    · rw [zsI_ne I' _ _ (by decide)]
      exact zGood_cong G (fun k _ h => c3 k h) (fun _ _ => rfl)
    · rw [zsI_ne I' _ _ (by decide), zsI_ne (b := 6) _ _ _ (by decide)]
      exact zRing_C Rg (fun k h _ => c3 k (by omega))
    · rw [zsI_at, zsI_at]
    · rw [zsI_at]; exact h0
    · rw [zsI_no _ _ _ (by decide)]; exact n0
    · rw [zsI_ne _ _ _ (by decide)]; exact e7
    · rw [zsI_ne _ _ _ (by decide)]; exact e8
    · rw [zsI_no _ _ _ (by decide)]; exact e25
    · rw [zsI_ne _ _ _ (by decide), zsI_no _ _ _ (by decide)]; exact e5
    · rw [zsI_ne _ _ _ (by decide)]; exact e6
    · rw [zsI_ne _ _ _ (by decide)]

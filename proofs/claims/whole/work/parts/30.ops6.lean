/-! acts -/
theorem lkTk (a : St) : sLike a (sTk a) := by
  have e : ∀ c, c = 1 ∨ c = 2 → sTk a c = a c := by
    intro c hc
    unfold sTk
    rw [sPs_o _ (by omega) (by omega), sJam_o (by omega) (by omega), sMix_o (by omega)]
  exact ⟨by rw [sTk_0], fun i _ => by rw [e 1 (by omega), e 2 (by omega)]; exact ⟨rfl, rfl⟩⟩
theorem lkStart (a : St) (i v : Nat) : sLike a (sStart a i v) := ⟨by rw [sStart_o (by omega) (by omega)], fun j _ => by rw [sStart_o (by omega) (by omega), sStart_o (by omega) (by omega)]; exact ⟨rfl, rfl⟩⟩
theorem lkLay (a : St) (f : Nat → Bool) : sLike a (sLay a f) := ⟨by rw [sLay_o (by omega) (by omega)], fun j _ => by rw [sLay_o (by omega) (by omega), sLay_o (by omega) (by omega)]; exact ⟨rfl, rfl⟩⟩
theorem lkBack (a : St) : sLike a (sBack a) := ⟨by rw [sBack_o (by omega) (by omega)], fun j _ => by rw [sBack_o (by omega) (by omega), sBack_o (by omega) (by omega)]; exact ⟨rfl, rfl⟩⟩
theorem lkSwap (a : St) (i j : Nat) : sLike a (sSwap a i j) := ⟨by rw [sSwap_o (by omega) (by omega)], fun j _ => by rw [sSwap_o (by omega) (by omega), sSwap_o (by omega) (by omega)]; exact ⟨rfl, rfl⟩⟩
theorem HG.lk {x : AS} {b : St} {t : Int32} (h : HG x) (hl : sLike x.1 b) : HG (b, t, x.2.2) := fun j hj => ⟨(h j hj).1, hl.sy.tr (h j hj).2⟩
theorem keepOp {M : tb_Mem} {x : AS} {b : St} (h : Inv M) (hc : CS x M) (hd : DS x M) (hg : sGood b) (hl : sLike x.1 b) {P1 P2 : tb_Mem → tb_Mem → Prop}
    (H1 : ∀ M1, BK (x.1 0 0) x.1 M1 4 → ∃ M', P1 M1 M' ∧ BK (b 0 0) b M' 4 ∧ Fr 4 M1 M' ∧ M' 4 12 = M1 4 12)
    (H2 : ∀ M2, RM x.1 (M2 303) → ∃ M', P2 M2 M' ∧ RM b (M' 303) ∧ Fq 303 M2 M' ∧ M' 303 0 = M2 303 0) :
    ∃ M1 M1' M2 M2', fX0_keep 4 M = some M1 ∧ P1 M1 M1' ∧ fX7_keeps M1' = some M2 ∧ P2 M2 M2' ∧ Inv M2' ∧ M1' 303 = M 303 ∧ M2 303 = M 303 ∧ M1 4 = M 4 ∧ BK (b 0 0) b M1' 4 ∧ RM b (M2' 303) := by
  obtain ⟨M1, e1, c1, f1⟩ := c_keep hc
  obtain ⟨M1', p1, b1, g1, t1⟩ := H1 M1 c1.2.1
  have c2 := c1.now g1 hg (b := b) hl b1
  have d1 : DS x M1' := hd.fr (by rw [g1 303 (by omega), f1 303 (by omega)]) (by rw [g1 307 (by omega), f1 307 (by omega)]) (by rw [g1 297 (by omega), f1 297 (by omega)])
  obtain ⟨M2, e2, d2, f2, f3⟩ := d_keep hc.n8.1 hc.n8.2 d1
  obtain ⟨M2', p2, b2, g2, t2⟩ := H2 M2 d2.1
  have d3 := d2.now g2 b2
  have ht : M2' 303 0 = M1' 4 12 := by
    rw [t2, t1, show M2 303 0 = x.2.1 from d2.2.1, show M1 4 12 = x.2.1 from c1.2.2.1]
  refine ⟨M1, M1', M2, M2', e1, p1, e2, p2, h.join (M1 := M1') (x := (b, M1' 4 12, (kp x).2.2)) (fun q hq => by rw [g1 q (by omega), f1 q (by omega)]) c2 (fun q q1 q2 q3 => by rw [g2 q q2, f2 q q1 q3]) (fun k hk => by rw [g2 297 (by omega), f3 k hk]) ?_, by rw [g1 303 (by omega), f1 303 (by omega)], by rw [f2 303 (by omega) (by omega), g1 303 (by omega), f1 303 (by omega)], f1 4 (by omega), b1, b2⟩
  rw [ht] at d3
  exact d3
theorem s_key (y : Int32) : Sim (fX6_key y) (fX7_key y) := by
  intro M h
  obtain ⟨x, hc, hd⟩ := h.split
  have hg := hc.1
  have hn := hg.1.1
  unfold fX6_key fX7_key
  rcases bar_both (M' := M) hg.1 hc.2.1 hd.1 y with ⟨c1, c2⟩ | ⟨i, hi, rfl, c1, c2⟩
  · exact ⟨_, M, M, by rw [c1, tb_b2_some, if_pos rfl], by rw [c2, tb_b2_some, if_pos rfl], h⟩
  obtain ⟨r1, e1, z1⟩ := M_rests_t hg.1 hc.2.1 hi
  have er : ∀ M' : tb_Mem, RM x.1 (M' 303) → ∃ r : Int32, fX7_rests 303 (nI i) M' = some (r, M') ∧ (r = 0 ↔ ¬ sRst x.1 i) := fun M' hm => N_rests hg.1 hm hi
  by_cases hr : sRst x.1 i
  · obtain ⟨M1, M1', M2, M2', k1, k2, k3, k4, k5, k6, k7, k8, k9, k10⟩ := keepOp h hc hd (b := sStart x.1 i 0) (sPress_good hg hi) (lkStart _ _ _) (P1 := fun M1 M' => fX2_press 4 (nI i) M1 = some M') (P2 := fun M2 M' => M' = tb_up M2 303 (2 + i) 0) (fun M1 hb => by
      obtain ⟨M', a1, a2, a3, a4⟩ := M_press hg.1 hb hi
      exact ⟨M', a1, by rw [show sStart x.1 i 0 0 0 = x.1 0 0 from (lkStart _ _ _).1]; exact a2, a3, a4⟩) (fun M2 hm => ⟨_, rfl, RM.start hn hm hi (by rw [tb_up_same, upd_other _ _ _ (by omega), (hm.2.1 i hi).2.1, hr.2]; rfl) (by rw [tb_up_same, upd_same]; rfl) (fun k q1 q2 => by rw [tb_up_same, upd_other _ _ _ q1]), fun q hq => tb_up_ne hq, by rw [tb_up_same, upd_other _ _ _ (by omega)]⟩)
    subst k4
    have m1 : RM x.1 (M1' 303) := by rw [k6]; exact hd.1
    obtain ⟨r2, e2, z2⟩ := er M1' m1
    have cb : fX7_isBar (nI i) M1' = some (1, M1') := by
      rcases bar_both (M' := M1') hg.1 hc.2.1 m1 (nI i) with ⟨u1, -⟩ | ⟨_, _, _, _, u2⟩
      · rw [c1] at u1; cases u1
      · exact u2
    obtain ⟨y1, e3, z3⟩ := N_moving (M := tb_up M2 303 (2 + i) 0) (q := 303) (sPress_good hg hi).1 k10
    refine ⟨M1' 4 9, M1', _, ?_, ?_, k5⟩
    · rw [c1, tb_b2_some, if_neg (by decide), e1, tb_b2_some, if_neg (fun z => z1.mp z hr), k1, tb_b1_some, k2, tb_b1_some]
    · rw [cb, tb_b2_some, if_neg (by decide), e2, tb_b2_some, if_neg (fun z => z2.mp z hr), k3, tb_b1_some, zl2, nI_add, tb_in_t (by omega) (by omega), tb_ck_t, nI_clamp (by omega), tb_let_eq, e3, tb_b2_some, z3.eq k9.2.2.1]
  · obtain ⟨r2, e2, z2⟩ := er M hd.1
    refine ⟨-1000002, M, M, ?_, ?_, h⟩
    · rw [c1, tb_b2_some, if_neg (by decide), e1, tb_b2_some, if_pos (z1.mpr hr)]
    · rw [c2, tb_b2_some, if_neg (by decide), e2, tb_b2_some, if_pos (z2.mpr hr)]
theorem ones_loop {y : Int32} (M : tb_Mem) : ∀ (m i : Nat), i ≤ 8 → 8 - i < m → fX7_ones_L4 m y (nI (fb_ct (bt y) i)) (nI i) M = some (nI (fb_ct (bt y) 8), M) := by
  intro m
  induction m with
  | zero => intro i h1 h2; omega
  | succ m ih =>
    intro i h1 h2
    rw [fX7_ones_L4, zl8]
    by_cases hi : i < 8
    · rw [if_neg (by rw [nI_leI (by omega) (by omega)]; omega), tb_let_eq, b_has (by omega), nI_1]
      have := ih (i + 1) (by omega) (by omega)
      rw [fb_ct_succ] at this
      by_cases hb : bt y i = true
      · rw [if_pos hb] at this ⊢
        rw [nI_1]; exact this
      · rw [if_neg hb] at this ⊢
        rw [show nI (fb_ct (bt y) i) + (0 : Int32) = nI (fb_ct (bt y) i) from by rw [Int32.add_zero]]
        exact this
    · have : i = 8 := by omega
      subst this
      rw [if_pos (by decide)]
theorem ones_ok {y : Int32} {f : Nat → Bool} {n : Nat} (h : Mk y f n) (hn : n ≤ 8) (M : tb_Mem) : fX7_ones y M = some (bcV y, M) := by
  have e := ones_loop (y := y) M tb_N 0 (by omega) (by unfold tb_N; omega)
  obtain ⟨k, hk, e2, e3⟩ := h.nat hn
  have e4 : bcV y = nI (fb_ct (bt y) 8) := by
    rw [e2, bc_val k hk]
    unfold pc8
    rw [← e2]
    congr 1
    exact fb_ct_cong (fun i hi => by rw [e3 i, h i (by omega)])
  rw [e4]
  exact e
theorem s_free : Sim fX6_free fX7_free := by
  intro M h
  obtain ⟨x, hc, hd⟩ := h.split
  have hg := hc.1
  have hn := hg.1.1
  have h10 : Mk (M 4 10) (sHn x.1) (x.1 0 0) := hc.2.1.2.2.2.1
  have hz : bcV (M 4 10) = 0 ↔ M 4 10 = 0 := by
    rw [h10.pc hn, nI_is0 (by have := fb_ct_le (sHn x.1) (x.1 0 0); omega), fb_ct_zero, h10.eq0 (by omega)]
  unfold fX6_free fX7_free
  have hh : ∀ M' : tb_Mem, RM x.1 (M' 303) → fX7_hanging 303 M' = some (M 4 10, M') := fun M' hm => by
    obtain ⟨y, e, z⟩ := N_hanging (M := M') (q := 303) hg.1 hm
    rw [e, z.eq h10]
  by_cases h0 : M 4 10 = 0
  · exact ⟨-1000002, M, M, by rw [if_pos h0], by rw [hh M hd.1, tb_b2_some, ones_ok h10 hn, tb_b2_some, if_pos (hz.mpr h0)], h⟩
  · obtain ⟨M1, M1', M2, M2', k1, k2, k3, k4, k5, k6, k7, k8, k9, k10⟩ := keepOp h hc hd (b := sLay x.1 (sHn x.1)) (sLay_good hg) (lkLay _ _) (P1 := fun M1 M' => fX2_layDown 4 (M1 4 10) M1 = some M') (P2 := fun M2 M' => fX7_frees 303 M2 = some M') (fun M1 hb => by
      obtain ⟨M', a1, a2, a3, a4⟩ := M_lay hg.1 hb (x := M1 4 10) (f := sHn x.1) hb.2.2.2.1
      exact ⟨M', a1, by rw [(lkLay _ _).1]; exact a2, a3, a4⟩) (fun M2 hm => N_frees hg.1 hm)
    refine ⟨bcV (M 4 10), M1', M2', ?_, ?_, k5⟩
    · rw [if_neg h0, bc_any, tb_b2_some, k1, tb_b1_some, k2, tb_b1_some]
    · rw [hh M1' (by rw [k6]; exact hd.1), tb_b2_some, ones_ok h10 hn, tb_b2_some, if_neg (fun z => h0 (hz.mp z)), k3, tb_b1_some, k4, tb_b1_some]
theorem bck_loop (v : Int32) (M : tb_Mem) : ∀ (m i : Nat) (c : Nat → Int32), i ≤ 20 → 20 - i < m → (∀ u, c u = if 26 ≤ u ∧ u < 26 + i then 0 else M 303 u) → fX7_back_L30 m v (nI i) (tb_row M 303 c) = some (v, tb_row M 303 (fun u => if 26 ≤ u ∧ u < 26 + 20 then 0 else M 303 u)) := by
  intro m
  induction m with
  | zero => intro i c h1 h2; omega
  | succ m ih =>
    intro i c h1 h2 hc
    rw [fX7_back_L30, zl20]
    by_cases hi : i < 20
    · rw [if_neg (by rw [nI_leI (by omega) (by omega)]; omega), zl26, nI_add, tb_in_t (by omega) (by omega), tb_ck_t, nI_clamp (by omega), nI_1, tb_let_eq, tb_up_row]
      refine ih (i + 1) _ (by omega) (by omega) (fun u => ?_)
      simp only [upd]
      by_cases hu : u = 26 + i
      · rw [if_pos hu, if_pos (by omega)]
      · rw [if_neg hu, hc u]
        by_cases h3 : 26 ≤ u ∧ u < 26 + i
        · rw [if_pos h3, if_pos (by omega)]
        · rw [if_neg h3, if_neg (by omega)]
    · have : i = 20 := by omega
      subst this
      rw [if_pos (by decide), show c = (fun u => if 26 ≤ u ∧ u < 26 + 20 then 0 else M 303 u) from funext hc]
theorem s_back : Sim fX6_back fX7_back := by
  intro M h
  obtain ⟨x, hc, hd⟩ := h.split
  have hg := hc.1
  have hn := hg.1.1
  unfold fX6_back fX7_back
  by_cases h0 : x.1 0 0 = 0
  · exact ⟨-1000002, M, M, by rw [if_pos ((noBask hn hc.2.1).mpr h0)], by rw [isBask hn hd.1, tb_b2_some, if_pos h0, if_pos rfl], h⟩
  · obtain ⟨M1, M1', M2, M2', k1, k2, k3, k4, k5, k6, k7, k8, k9, k10⟩ := keepOp h hc hd (b := sBack x.1) (sBack_good hg) (lkBack _) (P1 := fun M1 M' => fX2_bringBack 4 M1 = some M') (P2 := fun M2 M' => fX7_back_L30 tb_N (M2 303 1) 0 (tb_up M2 303 1 0) = some (M2 303 1, M')) (fun M1 hb => by
      obtain ⟨M', a1, a2, a3, a4⟩ := M_back hb
      exact ⟨M', a1, by rw [(lkBack _).1]; exact a2, a3, a4⟩) (fun M2 hm => by
      have e := bck_loop (M2 303 1) (tb_up M2 303 1 0) tb_N 0 (tb_up M2 303 1 0 303) (by omega) (by unfold tb_N; omega) (fun u => by rw [if_neg (by omega)])
      rw [tb_row_self] at e
      refine ⟨_, e, ⟨?_, fun i hi => ?_, ?_, fun k hk => ?_⟩, fun q hq => by rw [tb_row_ne hq, tb_up_ne hq], ?_⟩
      · rw [tb_row_same, if_neg (by omega), tb_up_same, upd_other _ _ _ (by omega), (lkBack _).1]; exact hm.1
      · have hi : i < x.1 0 0 := by rw [← (lkBack x.1).1]; exact hi
        unfold RM1
        rw [tb_row_same]
        simp (disch := omega) only [sBack_o, tb_up_same, upd_other, if_neg, ne_eq]
        exact hm.2.1 i hi
      · rw [tb_row_same, if_neg (by omega), tb_up_same, upd_same]; rfl
      · rw [tb_row_same, if_pos (by omega)]; rfl
      · rw [tb_row_same, if_neg (by omega), tb_up_same, upd_other _ _ _ (by omega)])
    refine ⟨M 4 11, M1', M2', ?_, ?_, k5⟩
    · rw [if_neg (fun z => h0 ((noBask hn hc.2.1).mp z)), k1, tb_b1_some, k2, tb_b1_some]
    · rw [isBask hn (by rw [k6]; exact hd.1), tb_b2_some, if_neg h0, if_neg (by decide), k3, tb_b1_some, tb_let_eq, k4, k7, hd.1.2.2.1, show M 4 11 = nI (x.1 6 0) from hc.2.1.2.2.2.2.1]
theorem s_swap (y z : Int32) : Sim (fX6_swap y z) (fX7_swap y z) := by
  intro M h
  obtain ⟨x, hc, hd⟩ := h.split
  have hg := hc.1
  have hn := hg.1.1
  unfold fX6_swap fX7_swap
  rcases bar_both (M' := M) hg.1 hc.2.1 hd.1 y with ⟨c1, c2⟩ | ⟨i, hi, rfl, c1, c2⟩
  · exact ⟨_, M, M, by rw [c1, tb_b2_some, if_pos rfl], by rw [c2, tb_b2_some, if_pos rfl], h⟩
  rcases bar_both (M' := M) hg.1 hc.2.1 hd.1 z with ⟨d1, d2⟩ | ⟨j, hj, rfl, d1, d2⟩
  · exact ⟨_, M, M, by rw [c1, tb_b2_some, if_neg (by decide), d1, tb_b2_some, if_pos rfl], by rw [c2, tb_b2_some, if_neg (by decide), d2, tb_b2_some, if_pos rfl], h⟩
  by_cases hij : nI i = nI j
  · exact ⟨_, M, M, by rw [c1, tb_b2_some, if_neg (by decide), d1, tb_b2_some, if_neg (by decide), if_pos hij], by rw [c2, tb_b2_some, if_neg (by decide), d2, tb_b2_some, if_neg (by decide), if_pos hij], h⟩
  have cb : ∀ {M1' : tb_Mem} {u : Nat}, u < x.1 0 0 → RM x.1 (M1' 303) → fX7_isBar (nI u) M1' = some (1, M1') := by
    intro M1' u hu m1
    rcases bar_both (M' := M1') hg.1 hc.2.1 m1 (nI u) with ⟨u1, -⟩ | ⟨_, _, _, _, u2⟩
    · rw [M_has_t hg.1 hc.2.1 hu] at u1; cases u1
    · exact u2
  obtain ⟨M1, M1', M2, M2', k1, k2, k3, k4, k5, k6, k7, k8, k9, k10⟩ := keepOp h hc hd (b := sSwap x.1 i j) (sSwap_good hg hi hj) (lkSwap _ _ _) (P1 := fun M1 M' => fX2_exchange 4 (nI i) (nI j) M1 = some M') (P2 := fun M2 M' => fX7_exchanges 303 (nI i) (nI j) M2 = some M') (fun M1 hb => by
      obtain ⟨M', a1, a2, a3, a4⟩ := M_swap hg.1 hb hi hj
      exact ⟨M', a1, by rw [(lkSwap _ _ _).1]; exact a2, a3, a4⟩) (fun M2 hm => N_exch hg.1 hm hi hj)
  have hi2 : i < sSwap x.1 i j 0 0 := by rw [(lkSwap _ _ _).1]; exact hi
  refine ⟨M1' 8 i, M1', M2', ?_, ?_, k5⟩
  · rw [c1, tb_b2_some, if_neg (by decide), d1, tb_b2_some, if_neg (by decide), if_neg hij, k1, tb_b1_some, k2, tb_b1_some, tb_in_t (by omega) (by omega), tb_ck_t, nI_clamp (by omega)]
  · rw [cb hi (by rw [k6]; exact hd.1), tb_b2_some, if_neg (by decide), cb hj (by rw [k6]; exact hd.1), tb_b2_some, if_neg (by decide), if_neg hij, k3, tb_b1_some, k4, tb_b1_some, zl18, nI_add, tb_in_t (by omega) (by omega), tb_ck_t, nI_clamp (by omega), (k10.2.1 i hi2).2.2.1, show M1' 8 i = nI (sSwap x.1 i j 3 i) from (k9.2.1 i hi2).2.2.2.1]

noncomputable def aT (x : AS) : AS := (sTk x.1, x.2.1 + 1, (kp x).2.2)
noncomputable def aTn : Nat → AS → AS
  | 0, x => x
  | n + 1, x => aTn n (aT x)
theorem c_tick {x : AS} {M : tb_Mem} (h : CS x M) : ∃ M1 M', fX0_keep 4 M = some M1 ∧ fX2_pass 4 M1 = some (nI (sTc x.1), M') ∧ CS (aT x) M' ∧ ∀ q, ¬ (4 ≤ q ∧ q < 240) → M' q = M q := by
  obtain ⟨M1, e1, c1, f1⟩ := c_keep h
  obtain ⟨M', e2, b2, f2, t2⟩ := M_pass (p := 4) c1.1.1 c1.2.1
  have hl : sLike x.1 (sTk x.1) := lkTk _
  have c2 := c1.now f2 (sTk_good h.1.1) (b := sTk x.1) hl (by rw [hl.1]; exact b2)
  refine ⟨M1, M', e1, e2, ?_, fun q hq => by rw [f2 q (by omega), f1 q (by omega)]⟩
  rw [t2, show M1 4 12 = x.2.1 from c1.2.2.1] at c2
  exact c2
theorem d_tick {x : AS} {M : tb_Mem} (hg : sGood x.1) (hG : HG x) (h : DS x M) : ∃ M1 M', fX7_keeps M = some M1 ∧ fX7_tick 303 M1 = some (nI (sTc x.1), M') ∧ DS (aT x) M' ∧ (∀ q, q ≠ 297 → q ≠ 303 → q ≠ 307 → M' q = M q) ∧ ∀ k, k ≠ 13 → M' 297 k = M 297 k := by
  obtain ⟨M1, e1, d1, f1, f3⟩ := d_keep hg.1.1 (fun j hj => (hG j hj).1.1.1) h
  obtain ⟨M', e2, b2, f2, t2⟩ := N_tick (q := 303) hg.1 d1.1
  have d2 := d1.now f2 b2
  refine ⟨M1, M', e1, e2, ?_, fun q q1 q2 q3 => by rw [f2 q q2, f1 q q1 q3], fun k hk => by rw [f2 297 (by omega), f3 k hk]⟩
  rw [t2, show M1 303 0 = x.2.1 from d1.2.1] at d2
  exact d2
theorem c_ticks {N : Nat} (hN : N ≤ 100) : ∀ (n m i : Nat) (x : AS) (M : tb_Mem), i + n = N → n < m → CS x M → ∃ M', fX6_ticks_L46 m (nI N) (nI i) M = some (M' 4 10, M') ∧ CS (aTn n x) M' ∧ ∀ q, ¬ (4 ≤ q ∧ q < 240) → M' q = M q := by
  intro n
  induction n with
  | zero =>
    intro m i x M h1 h2 hc
    obtain ⟨m, rfl⟩ : ∃ k, m = k + 1 := ⟨m - 1, by omega⟩
    have : i = N := by omega
    subst this
    exact ⟨M, by rw [fX6_ticks_L46, if_pos (by rw [nI_leI (by omega) (by omega)]; omega)], hc, fun _ _ => rfl⟩
  | succ n ih =>
    intro m i x M h1 h2 hc
    obtain ⟨m, rfl⟩ : ∃ k, m = k + 1 := ⟨m - 1, by omega⟩
    obtain ⟨M1, M2, e1, e2, c2, f2⟩ := c_tick hc
    obtain ⟨M', e3, c3, f3⟩ := ih m (i + 1) (aT x) M2 (by omega) (by omega) c2
    refine ⟨M', ?_, c3, fun q hq => by rw [f3 q hq, f2 q hq]⟩
    rw [fX6_ticks_L46, if_neg (by rw [nI_leI (by omega) (by omega)]; omega), e1, tb_b1_some, e2, tb_b2_some, nI_1, e3]
theorem d_ticks {N : Nat} (hN : N ≤ 100) : ∀ (n m i : Nat) (x : AS) (M : tb_Mem), i + n = N → n < m → sGood x.1 → HG x → x.2.2.1 ≤ 24 → DS x M → ∃ M', fX7_ticks_L42 m (nI N) (nI i) M = tb_b2 (fX7_hanging 303 M') (fun r13 M11 => some (r13, M11)) ∧ DS (aTn n x) M' ∧ (∀ q, q ≠ 297 → q ≠ 303 → q ≠ 307 → M' q = M q) ∧ ∀ k, k ≠ 13 → M' 297 k = M 297 k := by
  intro n
  induction n with
  | zero =>
    intro m i x M h1 h2 hg hG hK hd
    obtain ⟨m, rfl⟩ : ∃ k, m = k + 1 := ⟨m - 1, by omega⟩
    have : i = N := by omega
    subst this
    exact ⟨M, by rw [fX7_ticks_L42, if_pos (by rw [nI_leI (by omega) (by omega)]; omega)], hd, fun _ _ _ _ => rfl, fun _ _ => rfl⟩
  | succ n ih =>
    intro m i x M h1 h2 hg hG hK hd
    obtain ⟨m, rfl⟩ : ∃ k, m = k + 1 := ⟨m - 1, by omega⟩
    obtain ⟨M1, M2, e1, e2, d2, f2, g2⟩ := d_tick hg hG hd
    obtain ⟨M', e3, c3, f3, g3⟩ := ih m (i + 1) (aT x) M2 (by omega) (by omega) (sTk_good hg.1) ((hG.kp hg hK).lk (lkTk _)) (by show kPush _ ≤ 24; unfold kPush; split <;> omega) d2
    refine ⟨M', ?_, c3, fun q q1 q2 q3 => by rw [f3 q q1 q2 q3, f2 q q1 q2 q3], fun k hk => by rw [g3 k hk, g2 k hk]⟩
    rw [fX7_ticks_L42, if_neg (by rw [nI_leI (by omega) (by omega)]; omega), e1, tb_b1_some, e2, tb_b2_some, nI_1, e3]
theorem s_ticks (y : Int32) : Sim (fX6_ticks y) (fX7_ticks y) := by
  intro M h
  obtain ⟨x, hc, hd⟩ := h.split
  have hg := hc.1
  have hn := hg.1.1
  unfold fX6_ticks fX7_ticks
  by_cases h0 : x.1 0 0 = 0
  · exact ⟨-1000002, M, M, by rw [if_pos ((noBask hn hc.2.1).mpr h0)], by rw [isBask hn hd.1, tb_b2_some, if_pos h0, if_pos rfl], h⟩
  have z0 := fun z => h0 ((noBask hn hc.2.1).mp z)
  by_cases hy : inV y 1 24 = 0
  · exact ⟨-1000001, M, M, by rw [if_neg z0, within_ok, tb_b2_some, if_pos hy], by rw [isBask hn hd.1, tb_b2_some, if_neg h0, if_neg (by decide), in_ok, tb_b2_some, if_pos hy], h⟩
  obtain ⟨n, n1, n2, rfl⟩ := inV_1 (l := 1) (h := 24) (by omega) (by omega) hy
  by_cases hf : x.2.1 + nI n ≤ 9999
  · obtain ⟨M1, e1, c1, f1⟩ := c_ticks (N := n) (by omega) n tb_N 0 x M (by omega) (by unfold tb_N; omega) hc
    have d1 : DS x M1 := hd.fr (f1 303 (by omega)) (f1 307 (by omega)) (by rw [f1 297 (by omega)])
    obtain ⟨M2, e2, d2, f2, g2⟩ := d_ticks (N := n) (by omega) n tb_N 0 x M1 (by omega) (by unfold tb_N; omega) hg hc.2.2.2.1 hc.2.2.2.2.choose_spec.2.1 d1
    obtain ⟨v, e3, z3⟩ := N_hanging (M := M2) (q := 303) c1.1.1 d2.1
    refine ⟨M1 4 10, M1, M2, ?_, ?_, h.join f1 c1 f2 g2 d2⟩
    · rw [if_neg z0, within_ok, tb_b2_some, if_neg hy, hc.2.2.1, if_pos hf]; exact e1
    · rw [isBask hn d1.1, tb_b2_some, if_neg h0, if_neg (by decide), in_ok, tb_b2_some, if_neg hy, d1.2.1, if_pos hf]
      have e2 : fX7_ticks_L42 tb_N (nI n) 0 M1 = _ := e2
      rw [e2, e3, tb_b2_some, z3.eq c1.2.1.2.2.2.1]
  · refine ⟨-1000003, M, M, ?_, ?_, h⟩
    · rw [if_neg z0, within_ok, tb_b2_some, if_neg hy, hc.2.2.1, if_neg hf]
    · rw [isBask hn hd.1, tb_b2_some, if_neg h0, if_neg (by decide), in_ok, tb_b2_some, if_neg hy, hd.2.1, if_neg hf]
theorem und_loop {K : Nat} (hK : K < 24) (M : tb_Mem) (h13 : M 297 13 = nI K) : ∀ (m i : Nat) (c : Nat → Int32), i ≤ 46 → 46 - i < m → (∀ u, c u = if u < i then M 307 (46 * K + u) else M 303 u) → fX7_undo_L22 m (nI i) (tb_row M 303 c) = some (nI K, tb_row M 303 (fun u => if u < 46 then M 307 (46 * K + u) else M 303 u)) := by
  intro m
  induction m with
  | zero => intro i c h1 h2; omega
  | succ m ih =>
    intro i c h1 h2 hc
    rw [fX7_undo_L22, zl46]
    by_cases hi : i < 46
    · rw [if_neg (by rw [nI_leI (by omega) (by omega)]; omega), tb_row_ne (show 297 ≠ 303 by omega), h13, pk_mul, nI_add, tb_in_t (show 46 * K + i < 1104 by omega) (by omega), tb_ck_t, tb_in_t (show i < 63 by omega) (by omega), tb_ck_t, nI_clamp (by omega), nI_clamp (by omega), nI_1, tb_let_eq, tb_up_row, tb_row_ne (show 307 ≠ 303 by omega)]
      refine ih (i + 1) _ (by omega) (by omega) (fun u => ?_)
      simp only [upd]
      by_cases hu : u = i
      · rw [if_pos hu, if_pos (by omega), hu]
      · rw [if_neg hu, hc u]
        by_cases h3 : u < i
        · rw [if_pos h3, if_pos (by omega)]
        · rw [if_neg h3, if_neg (by omega)]
    · have : i = 46 := by omega
      subst this
      rw [if_pos (by decide), tb_row_ne (show 297 ≠ 303 by omega), h13, show c = (fun u => if u < 46 then M 307 (46 * K + u) else M 303 u) from funext hc]
theorem s_undo : Sim fX6_undo fX7_undo := by
  intro M h
  obtain ⟨x, hc, hd⟩ := h.split
  obtain ⟨hg, hb, ht, hG, nx, c1, c2, c3, c4, c5⟩ := id hc
  obtain ⟨hm, hmt, d1, d2, d3⟩ := id hd
  unfold fX6_undo fX7_undo
  by_cases h0 : x.2.2.1 = 0
  · exact ⟨-1000002, M, M, by rw [c4, h0, if_pos (by decide)], by rw [d2, h0, if_pos (by decide)], h⟩
  obtain ⟨K, hK⟩ : ∃ K, x.2.2.1 = K + 1 := ⟨x.2.2.1 - 1, by omega⟩
  have hKx : K < x.2.2.1 := by omega
  have gb := hG K hKx
  have sl : slot nx x.2.2.1 K = 24 + 9 * ((nx + 23) % 24) := by unfold slot; rw [hK]; congr 2; omega
  have hlt : (nx + 23) % 24 < 24 := Nat.mod_lt _ (by omega)
  have b5 := c5 K hKx
  rw [sl] at b5
  obtain ⟨M1, e1, b1, f1, t1, -⟩ := M_bec (M := tb_up (tb_up M 22 1 (nI ((nx + 23) % 24))) 22 2 (nI K)) (p := 4) (p1 := 24 + 9 * ((nx + 23) % 24)) gb.1.1.1 (b5.1.fr (fun q q1 q2 => by rw [tb_up_ne (by omega), tb_up_ne (by omega)])) (by omega)
  rw [tb_up_ne (by omega), tb_up_ne (by omega), b5.2] at t1
  have fs : ∀ q, ¬ (4 ≤ q ∧ q < 240) → M1 q = M q := fun q hq => by rw [f1 q (by omega), tb_up_ne (by omega), tb_up_ne (by omega)]
  have f22 : M1 22 = upd (upd (M 22) 1 (nI ((nx + 23) % 24))) 2 (nI K) := by rw [f1 22 (by omega), tb_up_same, tb_up_same]
  have hC : CS ((x.2.2.2 K).1, (x.2.2.2 K).2, K, x.2.2.2) M1 := by
    refine ⟨gb.1, b1, t1, fun j hj => ⟨(hG j (Nat.lt_trans hj hKx)).1, gb.2.sy.tr (hG j (Nat.lt_trans hj hKx)).2⟩, (nx + 23) % 24, hlt, ?_, ?_, ?_, fun j hj => ?_⟩
    · show K ≤ 24; omega
    · rw [f22, upd_other _ _ _ (by omega), upd_same]
    · rw [f22, upd_same]
    · have hj : j < K := hj
      have se : slot ((nx + 23) % 24) K j = slot nx x.2.2.1 j := by unfold slot; rw [hK]; congr 2; omega
      show BK ((x.2.2.2 j).1 0 0) (x.2.2.2 j).1 M1 (slot ((nx + 23) % 24) K j) ∧ M1 (slot ((nx + 23) % 24) K j) 12 = (x.2.2.2 j).2
      rw [se]
      have : (nx + 24 - x.2.2.1 + j) % 24 < 24 := Nat.mod_lt _ (by omega)
      have sb : slot nx x.2.2.1 j = 24 + 9 * ((nx + 24 - x.2.2.1 + j) % 24) := rfl
      refine ⟨(c5 j (by omega)).1.fr (fun q q1 q2 => ?_), ?_⟩
      · rw [f1 q (by omega), tb_up_ne (by omega), tb_up_ne (by omega)]
      · rw [f1 _ (by omega), tb_up_ne (by omega), tb_up_ne (by omega)]
        exact (c5 j (by omega)).2
  have e2 := und_loop (K := K) (by omega) (tb_up M1 297 13 (nI K)) (by rw [tb_up_same, upd_same]) tb_N 0 (tb_up M1 297 13 (nI K) 303) (by omega) (by unfold tb_N; omega) (fun u => by rw [if_neg (by omega)])
  rw [tb_row_self] at e2
  refine ⟨nI K, M1, _, ?_, ?_, h.join fs hC (M2 := tb_row (tb_up M1 297 13 (nI K)) 303 (fun u => if u < 46 then tb_up M1 297 13 (nI K) 307 (46 * K + u) else tb_up M1 297 13 (nI K) 303 u)) (fun q q1 q2 q3 => ?_) (fun k hk => ?_) ⟨?_, ?_, ?_, ?_, fun j hj => ?_⟩⟩
  · rw [c4, if_neg (by rw [nI_is0 (by omega)]; exact h0)]
    unfold fX0_takeBack
    have q2 : tb_up M 22 1 (nI ((nx + 23) % 24)) 22 2 = nI (K + 1) := by rw [tb_up_same, upd_other _ _ _ (by omega), c4, hK]
    have q3 : nI (K + 1) - 1 = nI K := by rw [zl1, pk_sub (by omega)]; rfl
    have q1 : tb_up (tb_up M 22 1 (nI ((nx + 23) % 24))) 22 2 (nI K) 22 1 = nI ((nx + 23) % 24) := by rw [tb_up_same, upd_other _ _ _ (by omega), tb_up_same, upd_same]
    rw [tb_let_eq, tb_let_eq, c3, nx_dn nx c1, q2, q3, if_neg (by rw [nI_lt0 (by omega)]; exact id), q1, tb_in_t hlt (by omega), tb_ck_t, nI_clamp (by omega), e1, tb_b1_some, tb_b1_some, f22, upd_same]
  · rw [fs 297 (by omega), d2, if_neg (by rw [nI_is0 (by omega)]; exact h0), tb_let_eq, hK, ← nI_1, show nI K + 1 - 1 = nI K from by rw [zl1, nI_add, pk_sub (by omega)]; rfl]
    exact e2
  · rw [tb_row_ne q2, tb_up_ne q1]
  · rw [tb_row_ne (by omega), tb_up_same, upd_other _ _ _ hk]
  · rw [tb_row_same]
    obtain ⟨r1, r2, r3⟩ := (d3 K hKx).1
    obtain ⟨l1, l2⟩ := gb.2
    have hn8 := hg.1.1
    refine ⟨?_, fun i hi => ?_, ?_, fun k hk => ?_⟩
    · show (if 46 < 46 then _ else _) = _
      rw [if_neg (by omega), tb_up_ne (by omega), fs 303 (by omega), hm.1, l1]
    · have hi : i < (x.2.2.2 K).1 0 0 := hi
      have hi2 : i < x.1 0 0 := by rw [← l1]; exact hi
      obtain ⟨u1, u2, u3⟩ := r1 i hi
      obtain ⟨-, -, -, w4, w5⟩ := hm.2.1 i hi2
      obtain ⟨v1, v2⟩ := l2 i hi2
      refine ⟨?_, ?_, ?_, ?_, ?_⟩
      · dsimp only; rw [if_pos (by omega), tb_up_ne (by omega), fs 307 (by omega)]; exact u1
      · dsimp only; rw [if_pos (by omega), tb_up_ne (by omega), fs 307 (by omega)]; exact u2
      · dsimp only; rw [if_pos (by omega), tb_up_ne (by omega), fs 307 (by omega)]; exact u3
      · dsimp only; rw [if_neg (by omega), tb_up_ne (by omega), fs 303 (by omega), w4, v2]
      · dsimp only; rw [if_neg (by omega), tb_up_ne (by omega), fs 303 (by omega), w5, v1]
    · dsimp only; rw [if_pos (by omega), tb_up_ne (by omega), fs 307 (by omega)]; exact r2
    · dsimp only; rw [if_pos (by omega), tb_up_ne (by omega), fs 307 (by omega)]; exact r3 k hk
  · rw [tb_row_same, if_pos (by omega), tb_up_ne (by omega), fs 307 (by omega), Nat.add_zero]; exact (d3 K hKx).2
  · show K ≤ 24; omega
  · rw [tb_row_ne (by omega), tb_up_same, upd_same]
  · have hj : j < K := hj
    show RMh (x.2.2.2 j).1 _ ∧ _
    rw [tb_row_ne (by omega), tb_up_ne (by omega), fs 307 (by omega)]
    exact d3 j (by omega)

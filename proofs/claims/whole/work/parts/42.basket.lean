/-! the basket -/
def pBS (n : Nat) (S R : Nat → Nat) : St := fun k => if k = 0 then (fun _ => n) else if k = 1 then S else if k = 2 then R else if k = 3 then (fun i => i) else if k = 8 then (fun i => i) else (fun _ => 0)
theorem pBS_good {n : Nat} {S R : Nat → Nat} (hn : n ≤ 8) (hv : vSR n S R) : sGood (pBS n S R) := by
  refine ⟨⟨hn, fun i hi => ?_, fun i hi => ⟨rfl, hi, rfl⟩, Nat.zero_le _, fun k _ => Nat.zero_le _⟩, fun i hi h4 => absurd rfl h4⟩
  obtain ⟨a1, a2, a3, a4⟩ := hv i hi
  exact ⟨a1, a2, a3, a4, hi, Nat.zero_le _, Nat.zero_le _, Or.inl rfl⟩
theorem pBS_bk {n : Nat} {S R : Nat → Nat} {M : tb_Mem} (h : CP n S R M) : BK (pBS n S R 0 0) (pBS n S R) M 13 := by
  obtain ⟨h8, h9, h10, h11, h12, h21, hi⟩ := h
  refine ⟨h8, fun i hin => ?_, ?_, ?_, h11, h21⟩
  · obtain ⟨u1, u2, u3, u4, u5, u6⟩ := hi i hin
    exact ⟨u1, u2, u3, u4, u5, fun z => absurd rfl z, fun _ => u6⟩
  · show Mk (M 13 9) _ _
    rw [h9]; exact Mk.zero (fun _ _ => rfl)
  · show Mk (M 13 10) _ _
    rw [h10]; exact Mk.zero (fun _ _ => rfl)
theorem pBS_rm {n : Nat} {S R : Nat → Nat} {M : tb_Mem} (hn : n ≤ 8) (h : DP n S R M) : RM (pBS n S R) (M 304) := by
  obtain ⟨d46, d0, d1, d10, d26, di⟩ := h
  refine ⟨d46, fun i hi => ?_, d1, d26⟩
  have hi : i < n := hi
  obtain ⟨u1, u2, u3, u4⟩ := di i hi
  exact ⟨u1, d10 i (by omega), u2, u3, u4⟩
theorem clear_ok (M : tb_Mem) : ∃ M', fX2_clear 13 M = some M' ∧ CP 0 (fun _ => 0) (fun _ => 0) M' ∧ ∀ q, ¬ (13 ≤ q ∧ q ≤ 21) → M' q = M q := by
  refine ⟨tb_row (tb_up (tb_up (tb_up (tb_up (tb_up M 13 8 0) 13 9 0) 13 10 0) 13 12 0) 13 11 0) 21 (fun j => if j < 20 then 0 else M 21 j), ?_, ⟨?_, ?_, ?_, ?_, ?_, fun j hj => ?_, fun i hi => absurd hi (Nat.not_lt_zero i)⟩, fun q hq => ?_⟩
  · unfold fX2_clear fX2_bringBack
    rw [tb_let_eq, tb_let_eq, tb_let_eq, tb_let_eq, tb_let_eq, fill_ok (13 + 8) 0 (by omega), tb_b1_some, tb_b1_some]
    simp (disch := omega) only [tb_up_ne]
  · rw [tb_row_ne (by omega)]; simp (disch := omega) only [tb_up_same, upd_other, upd_same, ne_eq]; rfl
  · rw [tb_row_ne (by omega)]; simp (disch := omega) only [tb_up_same, upd_other, upd_same, ne_eq]
  · rw [tb_row_ne (by omega)]; simp (disch := omega) only [tb_up_same, upd_other, upd_same, ne_eq]
  · rw [tb_row_ne (by omega)]; simp (disch := omega) only [tb_up_same, upd_other, upd_same, ne_eq]
  · rw [tb_row_ne (by omega)]; simp (disch := omega) only [tb_up_same, upd_other, upd_same, ne_eq]
  · rw [tb_row_same, if_pos hj]
  · rw [tb_row_ne (by omega)]; simp (disch := omega) only [tb_up_ne]
theorem bz_loop (M : tb_Mem) : ∀ (m i : Nat) (c : Nat → Int32), i ≤ 63 → 63 - i < m → (∀ u, c u = if u < i then 0 else M 304 u) → fX7_basket_L2 m (nI i) (tb_row M 304 c) = tb_b2 (fX7_readsAll (tb_row M 304 (fun u => if u < 63 then 0 else M 304 u))) (fun r4 M2 => tb_let (tb_up M2 297 6 0) (fun M5 => if r4 = 0 then (tb_let (tb_up M5 297 7 (M5 297 18)) (fun M8 => some (((-1000100) - (M8 297 17)), M8))) else (fX7_basket_L53 tb_N 0 M5))) := by
  intro m
  induction m with
  | zero => intro i c h1 h2; omega
  | succ m ih =>
    intro i c h1 h2 hc
    rw [fX7_basket_L2, show (63 : Int32) = nI 63 from rfl]
    by_cases hi : i < 63
    · rw [if_neg (by rw [nI_leI (by omega) (by omega)]; omega), tb_in_t hi (by omega), tb_ck_t, nI_clamp (by omega), nI_1, tb_let_eq, tb_up_row]
      refine ih (i + 1) _ (by omega) (by omega) (fun u => ?_)
      simp only [upd]
      by_cases hu : u = i
      · rw [if_pos hu, if_pos (by omega)]
      · rw [if_neg hu, hc u]
        by_cases h3 : u < i
        · rw [if_pos h3, if_pos (by omega)]
        · rw [if_neg h3, if_neg (by omega)]
    · have hi2 : i = 63 := by omega
      subst hi2
      rw [if_pos (by decide), show c = (fun u => if u < 63 then 0 else M 304 u) from funext hc]
theorem bc_loop (M : tb_Mem) : ∀ (m i : Nat) (c : Nat → Int32), i ≤ 63 → 63 - i < m → (∀ u, c u = if u < i then M 304 u else M 303 u) → fX7_basket_L53 m (nI i) (tb_row M 303 c) = some (M 304 46, tb_up (tb_row M 303 (fun u => if u < 63 then M 304 u else M 303 u)) 297 13 0) := by
  intro m
  induction m with
  | zero => intro i c h1 h2; omega
  | succ m ih =>
    intro i c h1 h2 hc
    rw [fX7_basket_L53, show (63 : Int32) = nI 63 from rfl]
    by_cases hi : i < 63
    · rw [if_neg (by rw [nI_leI (by omega) (by omega)]; omega), tb_in_t hi (by omega), tb_ck_t, nI_clamp (by omega), nI_1, tb_let_eq, tb_up_row, tb_row_ne (by omega)]
      refine ih (i + 1) _ (by omega) (by omega) (fun u => ?_)
      simp only [upd]
      by_cases hu : u = i
      · rw [if_pos hu, if_pos (by omega), hu]
      · rw [if_neg hu, hc u]
        by_cases h3 : u < i
        · rw [if_pos h3, if_pos (by omega)]
        · rw [if_neg h3, if_neg (by omega)]
    · have hi2 : i = 63 := by omega
      subst hi2
      rw [if_pos (by decide), tb_let_eq, show c = (fun u => if u < 63 then M 304 u else M 303 u) from funext hc, tb_up_ne (by omega), tb_row_same]
      rfl
theorem s_basket : Sim fX6_basket fX7_basket := by
  intro M h
  obtain ⟨⟨a, hNow, hHist⟩, him, hro, ⟨t, t1, t2, t3, t4⟩, hmi, has⟩ := id h
  obtain ⟨K, nx, hist, k1, k2, k3, -⟩ := id hHist
  obtain ⟨M1, e1, c1, f1⟩ := clear_ok M
  have g1 : tb_up M1 2 2 0 2 1 = nI t := by rw [tb_up_same, upd_other _ _ _ (by omega), f1 2 (by omega)]; exact t2
  have g2 : tb_up M1 2 2 0 2 2 = nI 0 := by rw [tb_up_same, upd_same]; rfl
  have g3 : tb_up M1 2 2 0 3 = M 3 := by rw [tb_up_ne (by omega), f1 3 (by omega)]
  obtain ⟨fl, p', n', S', R', Mc, b1, b2, b3, b4, b5, b6⟩ := bs_loop (L := LT t (M 3)) t1 9 tb_N 0 0 (fun _ => 0) (fun _ => 0) (tb_up M1 2 2 0) (by omega) (by omega) (by unfold tb_N; omega) (by omega) g1 g2 (by rw [g3]) (c1.fr (fun q q1 q2 => tb_up_ne (by omega))) (fun i hi => absurd hi (Nat.not_lt_zero i))
  have b1 : tb_b2 (fX5_readBar 13 (tb_up M1 2 2 0)) (fun r M1 => fX5_readInto_L17 13 tb_N r 0 M1) = some (fl, Mc) := b1
  have eR : fX5_readInto 13 M = some (fl, Mc) := by
    unfold fX5_readInto
    rw [e1, tb_b1_some, tb_let_eq, b1]
  have fC : ∀ q, q ≠ 2 → ¬ (13 ≤ q ∧ q ≤ 21) → Mc q = M q := fun q q1 q2 => by rw [b4 q q1 q2, tb_up_ne q1, f1 q q2]
  -- the reference, from a memory with the class's side done
  have ref : ∀ M5 : tb_Mem, M5 297 = M 297 → M5 302 = M 302 → ∃ M3, fX7_readsAll (tb_row M5 304 (fun u => if u < 63 then 0 else M5 304 u)) = some ((if fl = 0 then 1 else 0), M3) ∧ M3 297 17 = nI p' ∧ (∀ q, q ≠ 297 → q ≠ 304 → M3 q = M5 q) ∧ (∀ k, k ≠ 17 → k ≠ 18 → M3 297 k = M 297 k) ∧ (fl ≠ 0 → M3 297 18 = fl) ∧ (fl = 0 → DP n' S' R' M3) := by
    intro M5 h297 h302
    obtain ⟨m, hm⟩ : ∃ m, tb_N = m + 1 := ⟨4999, rfl⟩
    have w4 : ∀ u, u < 63 → tb_up (tb_row M5 304 (fun u => if u < 63 then 0 else M5 304 u)) 297 17 0 304 u = 0 := fun u hu => by rw [tb_up_ne (by omega), tb_row_same, if_pos hu]
    have w6 : tb_up (tb_row M5 304 (fun u => if u < 63 then 0 else M5 304 u)) 297 17 0 297 6 = nI t := by rw [tb_up_same, upd_other _ _ _ (by omega), tb_row_ne (by omega), h297]; exact t3
    obtain ⟨M3, x1, x2, x3, x4, x5, x6⟩ := b6 m (tb_up (tb_row M5 304 (fun u => if u < 63 then 0 else M5 304 u)) 297 17 0) (by unfold tb_N at hm; omega) w6 (by rw [tb_up_same, upd_same]; rfl) (by
      rw [tb_up_ne (by omega), tb_row_ne (by omega), h302]
      funext j
      unfold LT
      by_cases hj : j < t
      · rw [if_pos hj, if_pos hj, t4 j hj]
      · rw [if_neg hj, if_neg hj]) ⟨w4 46 (by omega), w4 0 (by omega), w4 1 (by omega), fun i hi => w4 _ (by omega), fun k hk => w4 _ (by omega), fun i hi => absurd hi (Nat.not_lt_zero i)⟩
    refine ⟨M3, ?_, x2, fun q q1 q2 => by rw [x3 q q1 q2, tb_up_ne q1, tb_row_ne q2], fun k y1 y2 => by rw [x4 k y1 y2, tb_up_same, upd_other _ _ _ y1, tb_row_ne (by omega), h297], x5, x6⟩
    unfold fX7_readsAll
    rw [tb_let_eq, hm, fX7_readsAll_L5, w6, tb_up_same, upd_same]
    by_cases ht0 : (0 : Int32) < nI t
    · rw [if_pos ht0]; exact x1
    · rw [if_neg ht0, if_pos (w4 46 (by omega))]; exact x1
  have eL2 : ∀ M5 : tb_Mem, fX7_basket M5 = tb_b2 (fX7_readsAll (tb_row M5 304 (fun u => if u < 63 then 0 else M5 304 u))) (fun r4 M2 => tb_let (tb_up M2 297 6 0) (fun M5 => if r4 = 0 then (tb_let (tb_up M5 297 7 (M5 297 18)) (fun M8 => some (((-1000100) - (M8 297 17)), M8))) else (fX7_basket_L53 tb_N 0 M5))) := fun M5 => by
    have := bz_loop M5 tb_N 0 (M5 304) (by omega) (by unfold tb_N; omega) (fun u => by rw [if_neg (by omega)])
    rw [tb_row_self] at this
    exact this
  unfold fX6_basket
  by_cases hf : fl = 0
  · obtain ⟨cp, n1, n8, hv⟩ := b5 hf
    have hgb := pBS_good n8 hv
    have hbk := pBS_bk cp
    have h12 : Mc 13 12 = 0 := cp.2.2.2.2.1
    obtain ⟨M4, e4, bk4, f4, t4', t8⟩ := M_bec (p := 4) (p1 := 13) hgb.1.1 hbk (by omega)
    have fM : ∀ q, q ≠ 2 → ¬ (4 ≤ q ∧ q ≤ 22) → tb_up M4 22 2 0 q = M q := fun q q1 q2 => by rw [tb_up_ne (by omega), f4 q (by omega), fC q q1 (by omega)]
    obtain ⟨M3, x1, x2, x3, x4, x5, x6⟩ := ref (tb_up M4 22 2 0) (fM 297 (by omega) (by omega)) (fM 302 (by omega) (by omega))
    have dp := x6 hf
    have eC := bc_loop (tb_up M3 297 6 0) tb_N 0 (tb_up M3 297 6 0 303) (by omega) (by unfold tb_N; omega) (fun u => by rw [if_neg (by omega)])
    rw [tb_row_self] at eC
    have eC : fX7_basket_L53 tb_N 0 (tb_up M3 297 6 0) = _ := eC
    refine ⟨nI n', tb_up M4 22 2 0, tb_up (tb_row (tb_up M3 297 6 0) 303 (fun u => if u < 63 then tb_up M3 297 6 0 304 u else tb_up M3 297 6 0 303 u)) 297 13 0, ?_, ?_, ?_⟩
    · rw [eR, tb_b2_some, if_pos hf, e4, tb_b1_some]
      show some (tb_up M4 22 2 0 4 8, tb_up M4 22 2 0) = _
      rw [tb_up_ne (by omega), t8, cp.1]
    · rw [eL2, x1, tb_b2_some, tb_let_eq, if_pos hf, if_neg (by decide), eC, tb_up_ne (show 304 ≠ 297 by omega), dp.1]
    · have rm := pBS_rm n8 dp
      have hq : ∀ q, q ≠ 297 → q ≠ 303 → q ≠ 304 → tb_up (tb_row (tb_up M3 297 6 0) 303 (fun u => if u < 63 then tb_up M3 297 6 0 304 u else tb_up M3 297 6 0 303 u)) 297 13 0 q = tb_up M4 22 2 0 q := fun q q1 q2 q3 => by rw [tb_up_ne q1, tb_row_ne q2, tb_up_ne q1, x3 q q1 q3]
      have h7 : ∀ k, k ≠ 6 → k ≠ 13 → k ≠ 17 → k ≠ 18 → tb_up (tb_row (tb_up M3 297 6 0) 303 (fun u => if u < 63 then tb_up M3 297 6 0 304 u else tb_up M3 297 6 0 303 u)) 297 13 0 297 k = M 297 k := fun k q1 q2 q3 q4 => by rw [tb_up_same, upd_other _ _ _ q2, tb_row_ne (by omega), tb_up_same, upd_other _ _ _ q1, x4 k q3 q4]
      refine h.now2 (fun q q0 q1 q2 q3 q4 q5 q6 q7 => by rw [hq q q1 q4 q5, fM q (by omega) (by omega)]) (h7 16 (by omega) (by omega) (by omega) (by omega)) ⟨pBS n' S' R', ⟨hgb, bk4.fr (fun q q1 q2 => by rw [hq q (by omega) (by omega) (by omega), tb_up_ne (by omega)]), ?_, ?_⟩, hist0 k2 ?_ ?_ ?_⟩ ⟨0, by omega, ?_, ?_, fun j hj => absurd hj (Nat.not_lt_zero j)⟩ ⟨?_, ?_⟩
      · rw [tb_up_ne (by omega), tb_row_same]
        refine rm.cg n8 (fun k _ hk => ?_)
        rw [if_pos hk, tb_up_ne (by omega)]
      · rw [hq 4 (by omega) (by omega) (by omega), tb_up_ne (by omega), t4', h12, tb_up_ne (by omega), tb_row_same, if_pos (by omega), tb_up_ne (by omega), dp.2.1]
      · rw [hq 22 (by omega) (by omega) (by omega), tb_up_same, upd_other _ _ _ (by omega), f4 22 (by omega), fC 22 (by omega) (by omega)]; exact k3
      · rw [hq 22 (by omega) (by omega) (by omega), tb_up_same, upd_same]
      · rw [tb_up_same, upd_same]
      · rw [hq 2 (by omega) (by omega) (by omega), tb_up_ne (by omega), f4 2 (by omega), b2]; rfl
      · rw [tb_up_same, upd_other _ _ _ (by omega), tb_row_ne (by omega), tb_up_same, upd_same]; rfl
      · rw [hq 0 (by omega) (by omega) (by omega), fM 0 (by omega) (by omega), h7 7 (by omega) (by omega) (by omega) (by omega)]; exact hmi.1
      · rw [hq 0 (by omega) (by omega) (by omega), fM 0 (by omega) (by omega), h7 4 (by omega) (by omega) (by omega) (by omega)]; exact hmi.2
  · have fM : ∀ q, q ≠ 0 → q ≠ 2 → ¬ (13 ≤ q ∧ q ≤ 21) → tb_up Mc 0 8 fl q = M q := fun q q0 q1 q2 => by rw [tb_up_ne q0, fC q q1 q2]
    obtain ⟨M3, x1, x2, x3, x4, x5, x6⟩ := ref (tb_up Mc 0 8 fl) (fM 297 (by omega) (by omega) (by omega)) (fM 302 (by omega) (by omega) (by omega))
    refine ⟨-1000100 - nI p', tb_up Mc 0 8 fl, tb_up (tb_up M3 297 6 0) 297 7 fl, ?_, ?_, ?_⟩
    · rw [eR, tb_b2_some, if_neg hf, tb_let_eq, tb_up_ne (by omega), b3]
    · rw [eL2, x1, tb_b2_some, tb_let_eq, if_neg hf, if_pos rfl, tb_let_eq, tb_up_same M3, upd_other _ _ _ (show 18 ≠ 6 by omega), x5 hf, tb_up_same, upd_other _ _ _ (show 17 ≠ 7 by omega), tb_up_same, upd_other _ _ _ (show 17 ≠ 6 by omega), x2]
    · have hq : ∀ q, q ≠ 297 → q ≠ 304 → tb_up (tb_up M3 297 6 0) 297 7 fl q = tb_up Mc 0 8 fl q := fun q q1 q2 => by rw [tb_up_ne q1, tb_up_ne q1, x3 q q1 q2]
      have h7 : ∀ k, k ≠ 6 → k ≠ 7 → k ≠ 17 → k ≠ 18 → tb_up (tb_up M3 297 6 0) 297 7 fl 297 k = M 297 k := fun k q1 q2 q3 q4 => by rw [tb_up_same, upd_other _ _ _ q2, tb_up_same, upd_other _ _ _ q1, x4 k q3 q4]
      refine h.now2 (fun q q0 q1 q2 q3 q4 q5 q6 q7 => by rw [hq q q1 q5, fM q (by omega) (by omega) (by omega)]) (h7 16 (by omega) (by omega) (by omega) (by omega)) ⟨a, hNow.fr (fun q q1 q2 => by rw [hq q (by omega) (by omega), fM q (by omega) (by omega) (by omega)]) (by rw [hq 303 (by omega) (by omega), fM 303 (by omega) (by omega) (by omega)]), hHist.fr (fun q q1 q2 => by rw [hq q (by omega) (by omega), fM q (by omega) (by omega) (by omega)]) (by rw [hq 22 (by omega) (by omega), fM 22 (by omega) (by omega) (by omega)]) (by rw [hq 307 (by omega) (by omega), fM 307 (by omega) (by omega) (by omega)]) (h7 13 (by omega) (by omega) (by omega) (by omega))⟩ ⟨0, by omega, ?_, ?_, fun j hj => absurd hj (Nat.not_lt_zero j)⟩ ⟨?_, ?_⟩
      · rw [hq 2 (by omega) (by omega), tb_up_ne (by omega), b2]; rfl
      · rw [tb_up_same, upd_other _ _ _ (by omega), tb_up_same, upd_same]; rfl
      · rw [hq 0 (by omega) (by omega), tb_up_same, upd_same, tb_up_same, upd_same]
      · rw [hq 0 (by omega) (by omega), tb_up_same, upd_other _ _ _ (by omega), fC 0 (by omega) (by omega), h7 4 (by omega) (by omega) (by omega) (by omega)]; exact hmi.2

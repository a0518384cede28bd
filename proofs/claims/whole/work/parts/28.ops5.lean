/-! images -/
theorem Inv.now2 {M M' : tb_Mem} (h : Inv M) (hs : ∀ q, 260 ≤ q → q ≠ 297 → q ≠ 301 → q ≠ 302 → q ≠ 303 → q ≠ 304 → q ≠ 307 → q ≠ 308 → M' q = M q) (h16 : M' 297 16 = M 297 16) (hn : ∃ a, INow a M' ∧ IHist a M') (ht : ITape M') (hm : IMisc M') : Inv M' := by
  obtain ⟨-, g3, g4, -, -, g7⟩ := h
  have s : ∀ q, (260 ≤ q ∧ q ≤ 296) ∨ (298 ≤ q ∧ q ≤ 300) ∨ q = 305 ∨ q = 306 ∨ q = 309 → M' q = M q := fun q hq => hs q (by omega) (by omega) (by omega) (by omega) (by omega) (by omega) (by omega) (by omega)
  exact ⟨hn, fun k hk => (g3 k hk).fr (fun q q1 q2 => s q (by omega)) (fun j _ => by rw [s 305 (by omega)]) (by rw [s 306 (by omega)]), fun r hr => (g4 r hr).fr (s _ (by omega)) (s _ (by omega)) (by rw [s 298 (by omega)]) (by rw [s 299 (by omega)]) (fun j _ => by rw [s 300 (by omega)]), ht, hm, g7.fr (s 261 (by omega)) (s 262 (by omega)) h16 (s 309 (by omega))⟩
theorem Inv.now {M M' : tb_Mem} (h : Inv M) (hs : ∀ q, ¬ (4 ≤ q ∧ q < 260) → q ≠ 301 → q ≠ 303 → q ≠ 304 → q ≠ 307 → q ≠ 308 → q ≠ 297 → M' q = M q) (h7 : ∀ k, k ≠ 13 → M' 297 k = M 297 k) (hn : ∃ a, INow a M' ∧ IHist a M') : Inv M' := by
  refine h.now2 (fun q q0 q1 q2 q3 q4 q5 q6 q7 => hs q (by omega) q2 q4 q5 q6 q7 q1) (h7 16 (by omega)) hn (h.2.2.2.1.fr ?_ (hs 3 (by omega) (by omega) (by omega) (by omega) (by omega) (by omega) (by omega)) (h7 6 (by omega)) (hs 302 (by omega) (by omega) (by omega) (by omega) (by omega) (by omega) (by omega))) ?_
  · rw [hs 2 (by omega) (by omega) (by omega) (by omega) (by omega) (by omega) (by omega)]
  · have h0 := hs 0 (by omega) (by omega) (by omega) (by omega) (by omega) (by omega) (by omega)
    exact ⟨by rw [h0, h7 7 (by omega)]; exact h.2.2.2.2.1.1, by rw [h0, h7 4 (by omega)]; exact h.2.2.2.2.1.2⟩
theorem img7_loop {k : Nat} (hk : k < 2) (M : tb_Mem) : ∀ (m i : Nat) (c : Nat → Int32), i ≤ 63 → 63 - i < m → (∀ u, c u = if 63 * k ≤ u ∧ u < 63 * k + i then M 303 (u - 63 * k) else M 305 u) → fX7_image_L24 m (nI k) (nI i) (tb_row M 305 c) = some (1, tb_up (tb_row M 305 (fun u => if 63 * k ≤ u ∧ u < 63 * k + 63 then M 303 (u - 63 * k) else M 305 u)) 306 k 1) := by
  intro m
  induction m with
  | zero => intro i c h1 h2; omega
  | succ m ih =>
    intro i c h1 h2 hc
    rw [fX7_image_L24, show (63 : Int32) = nI 63 from rfl]
    by_cases hi : i < 63
    · rw [if_neg (by rw [nI_leI (by omega) (by omega)]; omega), pk_mul, nI_add, tb_in_t hi (by omega), tb_ck_t, tb_in_t (by omega) (by omega), tb_ck_t, nI_clamp (by omega), nI_clamp (by omega), nI_1]
      dsimp only [tb_let]
      rw [tb_up_row, tb_row_ne (by omega)]
      refine ih (i + 1) _ (by omega) (by omega) (fun u => ?_)
      simp only [upd]
      by_cases hu : u = 63 * k + i
      · rw [if_pos hu, if_pos (by omega), hu]
        congr 1
        omega
      · rw [if_neg hu, hc u]
        by_cases h3 : 63 * k ≤ u ∧ u < 63 * k + i
        · rw [if_pos h3, if_pos (by omega)]
        · rw [if_neg h3, if_neg (by omega)]
    · have : i = 63 := by omega
      subst this
      rw [if_pos (by decide), tb_in_t hk (by omega), tb_ck_t, nI_clamp (by omega)]
      dsimp only [tb_let]
      rw [show c = (fun u => if 63 * k ≤ u ∧ u < 63 * k + 63 then M 303 (u - 63 * k) else M 305 u) from funext hc]
theorem img7_ok {k : Nat} (hk : k < 2) (M : tb_Mem) : fX7_image_L24 tb_N (nI k) 0 M = some (1, tb_up (tb_row M 305 (fun u => if 63 * k ≤ u ∧ u < 63 * k + 63 then M 303 (u - 63 * k) else M 305 u)) 306 k 1) := by
  have := img7_loop hk M tb_N 0 (M 305) (by omega) (by unfold tb_N; omega) (fun u => by rw [if_neg (by omega)])
  rw [tb_row_self] at this
  exact this
theorem s_image (x : Int32) : Sim (fX6_image x) (fX7_image x) := by
  intro M h
  obtain ⟨⟨a, ⟨hg, hb, hm, ht⟩, hh⟩, him, hro, hta, hmi, has⟩ := id h
  have hn := hg.1.1
  unfold fX6_image fX7_image
  by_cases hx : inV x 0 1 = 0
  · exact ⟨_, M, M, by rw [within_ok, tb_b2_some, if_pos hx], by rw [in_ok, tb_b2_some, if_pos hx], h⟩
  obtain ⟨k, -, hk, rfl⟩ := inV_1 (l := 0) (h := 1) (by omega) (by omega) hx
  by_cases h0 : a 0 0 = 0
  · exact ⟨_, M, M, by rw [within_ok, tb_b2_some, if_neg hx, if_pos ((noBask hn hb).mpr h0)], by rw [in_ok, tb_b2_some, if_neg hx, isBask hn hm, tb_b2_some, if_pos h0, if_pos rfl], h⟩
  obtain ⟨M1, e1, h1, f1, t1, -⟩ := M_bec (p := 279 + 9 * k) (p1 := 4) hn hb (by omega)
  have m1 : RM a (M1 303) := by rw [f1 303 (by omega)]; exact hm
  refine ⟨1, M1, tb_up (tb_row M1 305 (fun u => if 63 * k ≤ u ∧ u < 63 * k + 63 then M1 303 (u - 63 * k) else M1 305 u)) 306 k 1, ?_, ?_, ?_⟩
  · rw [within_ok, tb_b2_some, if_neg hx, if_neg (fun z => h0 ((noBask hn hb).mp z)), tb_in_t (by omega) (by omega), tb_ck_t, nI_clamp (by omega), e1, tb_b1_some]
  · rw [in_ok, tb_b2_some, if_neg hx, isBask hn m1, tb_b2_some, if_neg h0, if_neg (by decide), img7_ok (by omega)]
  have hs : ∀ q, q < 279 ∨ 297 ≤ q → q ≠ 305 → q ≠ 306 → tb_up (tb_row M1 305 (fun u => if 63 * k ≤ u ∧ u < 63 * k + 63 then M1 303 (u - 63 * k) else M1 305 u)) 306 k 1 q = M q := fun q q1 q2 q3 => by
    rw [tb_up_ne q3, tb_row_ne q2, f1 q (by omega)]
  refine ⟨⟨a, INow.fr ⟨hg, hb, hm, ht⟩ (fun q q1 q2 => hs q (by omega) (by omega) (by omega)) (hs 303 (by omega) (by omega) (by omega)), hh.fr (fun q q1 q2 => hs q (by omega) (by omega) (by omega)) (hs 22 (by omega) (by omega) (by omega)) (hs 307 (by omega) (by omega) (by omega)) (by rw [hs 297 (by omega) (by omega) (by omega)])⟩, fun j hj => ?_, fun r hr => (hro r hr).fr (hs _ (by omega) (by omega) (by omega)) (hs _ (by omega) (by omega) (by omega)) (by rw [hs 298 (by omega) (by omega) (by omega)]) (by rw [hs 299 (by omega) (by omega) (by omega)]) (fun j _ => by rw [hs 300 (by omega) (by omega) (by omega)]), hta.fr (by rw [hs 2 (by omega) (by omega) (by omega)]) (hs 3 (by omega) (by omega) (by omega)) (by rw [hs 297 (by omega) (by omega) (by omega)]) (hs 302 (by omega) (by omega) (by omega)), ?_, has.fr (hs 261 (by omega) (by omega) (by omega)) (hs 262 (by omega) (by omega) (by omega)) (by rw [hs 297 (by omega) (by omega) (by omega)]) (hs 309 (by omega) (by omega) (by omega))⟩
  · by_cases hjk : j = k
    · subst hjk
      right
      refine ⟨a, hg, by omega, h1.fr (fun q q1 q2 => ?_), ?_, ?_, ?_⟩
      · rw [tb_up_ne (by omega), tb_row_ne (by omega)]
      · refine m1.cg hn (fun u u1 u2 => ?_)
        show tb_up _ _ _ _ 305 (63 * j + u) = _
        rw [tb_up_ne (by omega), tb_row_same, if_pos (by omega)]
        congr 1; omega
      · rw [tb_up_ne (by omega), tb_row_ne (by omega), tb_up_ne (by omega), tb_row_same, if_pos (by omega), t1, ht, f1 303 (by omega), Nat.sub_self]
      · rw [tb_up_same, upd_same]
    · refine (him j hj).fr (fun q q1 q2 => ?_) (fun u hu => ?_) ?_
      · rw [tb_up_ne (by omega), tb_row_ne (by omega), f1 q (by omega)]
      · rw [tb_up_ne (by omega), tb_row_same, if_neg (by omega), f1 305 (by omega)]
      · rw [tb_up_same, upd_other _ _ _ hjk, tb_row_ne (by omega), f1 306 (by omega)]
  · unfold IMisc
    rw [hs 0 (by omega) (by omega) (by omega), hs 297 (by omega) (by omega) (by omega)]
    exact hmi
theorem res7_loop {k : Nat} (hk : k < 2) (M : tb_Mem) : ∀ (m i : Nat) (c : Nat → Int32), i ≤ 63 → 63 - i < m → (∀ u, c u = if u < i then M 305 (63 * k + u) else M 303 u) → fX7_restore_L26 m (nI k) (nI i) (tb_row M 303 c) = some (1, tb_up (tb_row M 303 (fun u => if u < 63 then M 305 (63 * k + u) else M 303 u)) 297 13 0) := by
  intro m
  induction m with
  | zero => intro i c h1 h2; omega
  | succ m ih =>
    intro i c h1 h2 hc
    rw [fX7_restore_L26, show (63 : Int32) = nI 63 from rfl]
    by_cases hi : i < 63
    · rw [if_neg (by rw [nI_leI (by omega) (by omega)]; omega), pk_mul, nI_add, tb_in_t (show 63 * k + i < 126 by omega) (by omega), tb_ck_t, tb_in_t hi (by omega), tb_ck_t, nI_clamp (by omega), nI_clamp (by omega), nI_1]
      dsimp only [tb_let]
      rw [tb_up_row, tb_row_ne (by omega)]
      refine ih (i + 1) _ (by omega) (by omega) (fun u => ?_)
      simp only [upd]
      by_cases hu : u = i
      · rw [if_pos hu, if_pos (by omega), hu]
      · rw [if_neg hu, hc u]
        by_cases h3 : u < i
        · rw [if_pos h3, if_pos (by omega)]
        · rw [if_neg h3, if_neg (by omega)]
    · have : i = 63 := by omega
      subst this
      rw [if_pos (by decide)]
      dsimp only [tb_let]
      rw [show c = (fun u => if u < 63 then M 305 (63 * k + u) else M 303 u) from funext hc]
theorem res7_ok {k : Nat} (hk : k < 2) (M : tb_Mem) : fX7_restore_L26 tb_N (nI k) 0 M = some (1, tb_up (tb_row M 303 (fun u => if u < 63 then M 305 (63 * k + u) else M 303 u)) 297 13 0) := by
  have := res7_loop hk M tb_N 0 (M 303) (by omega) (by unfold tb_N; omega) (fun u => by rw [if_neg (by omega)])
  rw [tb_row_self] at this
  exact this
theorem hist0 {a : St} {M : tb_Mem} {nx : Nat} (h : nx < 24) (h1 : M 22 1 = nI nx) (h2 : M 22 2 = 0) (h3 : M 297 13 = 0) : IHist a M := ⟨0, nx, fun _ => a, by omega, h, h1, h2, h3, fun j hj => absurd hj (Nat.not_lt_zero j)⟩
theorem s_restore (x : Int32) : Sim (fX6_restore x) (fX7_restore x) := by
  intro M h
  obtain ⟨⟨a, ⟨hg, hb, hm, ht⟩, K, nx, hist, k1, k2, k3, -⟩, him, hro, hta, hmi, has⟩ := id h
  unfold fX6_restore fX7_restore
  by_cases hx : inV x 0 1 = 0
  · exact ⟨_, M, M, by rw [within_ok, tb_b2_some, if_pos hx], by rw [in_ok, tb_b2_some, if_pos hx], h⟩
  obtain ⟨k, -, hk, rfl⟩ := inV_1 (l := 0) (h := 1) (by omega) (by omega) hx
  rcases him k (by omega) with ⟨i1, i2⟩ | ⟨b, bg, b0, bb, bm, bt, bk⟩
  · exact ⟨_, M, M, by rw [within_ok, tb_b2_some, if_neg hx, tb_in_t (by omega) (by omega), tb_ck_t, nI_clamp (by omega), if_pos i1], by rw [in_ok, tb_b2_some, if_neg hx, tb_in_t (by omega) (by omega), tb_ck_t, nI_clamp (by omega), if_pos i2], h⟩
  have hn := bg.1.1
  obtain ⟨M1, e1, h1, f1, t1, -⟩ := M_bec (p := 4) (p1 := 279 + 9 * k) hn bb (by omega)
  have i1 : ¬ M (279 + 9 * k) 8 = 0 := by
    rw [show M (279 + 9 * k) 8 = nI (b 0 0) from bb.1, nI_is0 (by omega)]; omega
  refine ⟨1, tb_up M1 22 2 0, tb_up (tb_row (tb_up M1 22 2 0) 303 (fun u => if u < 63 then tb_up M1 22 2 0 305 (63 * k + u) else tb_up M1 22 2 0 303 u)) 297 13 0, ?_, ?_, ?_⟩
  · rw [within_ok, tb_b2_some, if_neg hx, tb_in_t (by omega) (by omega), tb_ck_t, nI_clamp (by omega), if_neg i1, e1, tb_b1_some]
    rfl
  · rw [in_ok, tb_b2_some, if_neg hx, tb_in_t (by omega) (by omega), tb_ck_t, nI_clamp (by omega), tb_up_ne (by omega), f1 306 (by omega), bk, if_neg (by decide), res7_ok (by omega)]
  refine h.now (fun q q1 q2 q3 q4 q5 q6 q7 => ?_) (fun j hj => ?_) ⟨b, ⟨bg, h1.fr (fun q q1 q2 => ?_), ?_, ?_⟩, hist0 k2 ?_ ?_ ?_⟩
  · rw [tb_up_ne q7, tb_row_ne q3, tb_up_ne (by omega), f1 q (by omega)]
  · rw [tb_up_same, upd_other _ _ _ hj, tb_row_ne (by omega), tb_up_ne (by omega), f1 297 (by omega)]
  · rw [tb_up_ne (by omega), tb_row_ne (by omega), tb_up_ne (by omega)]
  · refine bm.cg hn (fun u u1 u2 => ?_)
    rw [tb_up_ne (by omega), tb_row_same, if_pos u2, tb_up_ne (by omega), f1 305 (by omega)]
  · rw [tb_up_ne (by omega), tb_row_ne (by omega), tb_up_ne (by omega), t1, tb_up_ne (by omega), tb_row_same, if_pos (by omega), tb_up_ne (by omega), f1 305 (by omega), bt, Nat.add_zero]
  · rw [tb_up_ne (by omega), tb_row_ne (by omega), tb_up_same, upd_other _ _ _ (by omega), f1 22 (by omega)]; exact k3
  · rw [tb_up_ne (by omega), tb_row_ne (by omega), tb_up_same, upd_same]
  · rw [tb_up_same, upd_same]

theorem n10 : ¬ (1 : Int32) = 0 := by decide
theorem n20 : ¬ (2 : Int32) = 0 := by decide
theorem n30 : ¬ (3 : Int32) = 0 := by decide
theorem rb_c {M : tb_Mem} {t p n : Nat} {S R : Nat → Nat} (ht : t ≤ 60) (hp : p ≤ 60) (h1 : M 2 1 = nI t) (h2 : M 2 2 = nI p) (hn : n ≤ 8) (hC : CP n S R M) : ∃ M', fX5_readBar 13 M = some ((rF (LT t (M 3)) p n).1, M') ∧ M' 2 1 = nI t ∧ M' 2 2 = nI (rF (LT t (M 3)) p n).2 ∧ (∀ q, q ≠ 2 → ¬ (13 ≤ q ∧ q ≤ 21) → M' q = M q) ∧ ((rF (LT t (M 3)) p n).1 = 0 → n < 8 ∧ ∃ r, num (LT t (M 3)) (p + 1) (nd (LT t (M 3)) (p + 1)) = nI r ∧ 1 ≤ kN (LT t (M 3) p) ∧ 1 ≤ r ∧ r ≤ 4 ∧ CP (n + 1) (ext S n (kN (LT t (M 3) p))) (ext R n r) M') := by
  have h8 : M 13 8 = nI n := hC.1
  have kle := kN_le (LT t (M 3) p)
  unfold fX5_readBar rF
  rw [h2, byteAt_ok ht h1 (by omega), tb_b2_some, sortOf_ok, tb_b2_some]
  by_cases hk : kN (LT t (M 3) p) = 0
  · rw [if_pos (by rw [nI_is0 (by omega)]; exact hk), if_pos hk]
    exact ⟨M, rfl, h1, h2, fun _ _ _ => rfl, fun z => absurd z n10⟩
  rw [if_neg (fun z => hk ((nI_is0 (by omega)).mp z)), if_neg hk, h8]
  by_cases hn8 : n = 8
  · rw [if_neg (by rw [zl8, nI_ltI (by omega) (by omega)]; omega), if_pos hn8]
    exact ⟨M, rfl, h1, h2, fun _ _ _ => rfl, fun z => absurd z n30⟩
  rw [if_pos (by rw [zl8, nI_ltI (by omega) (by omega)]; omega), if_neg hn8, tb_let_eq, h2, nI_1]
  have g1 : tb_up M 2 2 (nI (p + 1)) 2 1 = nI t := by rw [tb_up_same, upd_other _ _ _ (by omega)]; exact h1
  have g2 : tb_up M 2 2 (nI (p + 1)) 2 2 = nI (p + 1) := by rw [tb_up_same, upd_same]
  have g3 : tb_up M 2 2 (nI (p + 1)) 3 = M 3 := tb_up_ne (by omega)
  have fr1 : ∀ q, q ≠ 2 → ¬ (13 ≤ q ∧ q ≤ 21) → tb_up M 2 2 (nI (p + 1)) q = M q := fun q q1 _ => tb_up_ne q1
  obtain ⟨k, k1, k2, k3⟩ := fig_ok (p := p + 1) ht (by omega) g1 g2
  rw [g3] at k3
  rw [k2, tb_b2_some]
  have ndl := nd_le (LT t (M 3)) (p + 1)
  by_cases hbad : nd (LT t (M 3)) (p + 1) = 0 ∨ nd (LT t (M 3)) (p + 1) = 3
  · rw [if_pos hbad]
    by_cases k0 : k = 0
    · rw [if_pos (by rw [k0]; decide)]
      exact ⟨_, rfl, g1, g2, fr1, fun z => absurd z n10⟩
    · rw [if_neg (by rw [zl1, nI_ltI (by omega) (by omega)]; omega), if_neg (by rw [zl2, nI_leI (by omega) (by omega)]; omega)]
      exact ⟨_, rfl, g1, g2, fr1, fun z => absurd z n10⟩
  have hk12 : k = nd (LT t (M 3)) (p + 1) := by omega
  have hd12 : nd (LT t (M 3)) (p + 1) = 1 ∨ nd (LT t (M 3)) (p + 1) = 2 := by omega
  have en := numH_ok (p := p + 1) ht (by omega) g1 g2 hd12
  rw [g3] at en
  rw [if_neg hbad, hk12, if_neg (by rw [zl1, nI_ltI (by omega) (by omega)]; omega), if_pos (by rw [zl2, nI_leI (by omega) (by omega)]; omega), en, tb_b2_some, within_ok, tb_b2_some]
  by_cases hr : inV (num (LT t (M 3)) (p + 1) (nd (LT t (M 3)) (p + 1))) 1 4 = 0
  · rw [if_pos hr, if_pos hr]
    exact ⟨_, rfl, g1, g2, fr1, fun z => absurd z n20⟩
  rw [if_neg hr, if_neg hr, tb_let_eq, g2, nI_add]
  obtain ⟨r, r1, r4, hrr⟩ := inV_1 (l := 1) (h := 4) (by omega) (by omega) hr
  generalize hP : p + 1 + nd (LT t (M 3)) (p + 1) = P at *
  have u1 : tb_up (tb_up M 2 2 (nI (p + 1))) 2 2 (nI P) 2 1 = nI t := by rw [tb_up_same, upd_other _ _ _ (by omega)]; exact g1
  have u2 : tb_up (tb_up M 2 2 (nI (p + 1))) 2 2 (nI P) 2 2 = nI P := by rw [tb_up_same, upd_same]
  have u3 : tb_up (tb_up M 2 2 (nI (p + 1))) 2 2 (nI P) 3 = M 3 := by rw [tb_up_ne (by omega), g3]
  rw [u2, byteAt_ok ht u1 (by omega), tb_b2_some, u3]
  by_cases h59 : LT t (M 3) P = 59
  · rw [if_pos h59, if_pos h59, tb_let_eq, u2, nI_1, hrr]
    obtain ⟨M', e', c', f'⟩ := add_ok (M := tb_up (tb_up (tb_up M 2 2 (nI (p + 1))) 2 2 (nI P)) 2 2 (nI (P + 1))) (s := kN (LT t (M 3) p)) (r := r) (hC.fr (fun q q1 q2 => by rw [tb_up_ne (by omega), tb_up_ne (by omega), tb_up_ne (by omega)])) (show n < 8 by omega) kle r4
    refine ⟨M', by rw [e', tb_b1_some], ?_, ?_, fun q q1 q2 => ?_, fun _ => ⟨by omega, r, rfl, by omega, r1, r4, c'⟩⟩
    · rw [f' 2 (by omega), tb_up_same, upd_other _ _ _ (by omega)]; exact u1
    · rw [f' 2 (by omega), tb_up_same, upd_same]
    · rw [f' q q2, tb_up_ne q1, tb_up_ne q1, tb_up_ne q1]
  · rw [if_neg h59, if_neg h59]
    exact ⟨_, rfl, u1, u2, fun q q1 _ => by rw [tb_up_ne q1, tb_up_ne q1], fun z => absurd z n10⟩
theorem fails_ok (x : Int32) (M : tb_Mem) : (tb_b2 (fX7_fails x M) (fun r M' => tb_ck (tb_bl r) (some (r, M')))) = some ((0 : Int32), tb_up M 297 18 x) := rfl
theorem rb_d {M : tb_Mem} {t p n : Nat} {S R : Nat → Nat} {K : tb_Mem → Option (Int32 × tb_Mem)} (ht : t ≤ 60) (hp : p ≤ 60) (h1 : M 297 6 = nI t) (h2 : M 297 17 = nI p) (hn : n ≤ 8) (hD : DP n S R M) : ∃ M', M' 297 17 = nI (rF (LT t (M 302)) p n).2 ∧ (∀ q, q ≠ 297 → q ≠ 304 → M' q = M q) ∧ (∀ k, k ≠ 17 → k ≠ 18 → M' 297 k = M 297 k) ∧ (((rF (LT t (M 302)) p n).1 ≠ 0 ∧ fX7_readsAll_J26 K M = some (0, M') ∧ M' 297 18 = (rF (LT t (M 302)) p n).1) ∨ ((rF (LT t (M 302)) p n).1 = 0 ∧ fX7_readsAll_J26 K M = K M' ∧ ∀ r, r ≤ 4 → num (LT t (M 302)) (p + 1) (nd (LT t (M 302)) (p + 1)) = nI r → DP (n + 1) (ext S n (kN (LT t (M 302) p))) (ext R n r) M')) := by
  obtain ⟨d46, d0, d1, d10, d26, di⟩ := hD
  have kle := kN_le (LT t (M 302) p)
  have fr18 : ∀ (N : tb_Mem) (x : Int32), (∀ q, q ≠ 297 → q ≠ 304 → N q = M q) → (∀ k, k ≠ 17 → k ≠ 18 → N 297 k = M 297 k) → (∀ q, q ≠ 297 → q ≠ 304 → tb_up N 297 18 x q = M q) ∧ (∀ k, k ≠ 17 → k ≠ 18 → tb_up N 297 18 x 297 k = M 297 k) ∧ tb_up N 297 18 x 297 18 = x ∧ tb_up N 297 18 x 297 17 = N 297 17 := fun N x a1 a2 => ⟨fun q q1 q2 => by rw [tb_up_ne q1, a1 q q1 q2], fun k k1 k2 => by rw [tb_up_same, upd_other _ _ _ k2, a2 k k1 k2], by rw [tb_up_same, upd_same], by rw [tb_up_same, upd_other _ _ _ (by omega)]⟩
  unfold fX7_readsAll_J26 rF
  rw [h2, letterAt_ok ht h1 (by omega), tb_b2_some, kindBy_ok, tb_b2_some]
  by_cases hk : kN (LT t (M 302) p) = 0
  · obtain ⟨a1, a2, a3, a4⟩ := fr18 M 1 (fun _ _ _ => rfl) (fun _ _ _ => rfl)
    have zk : nI (kN (LT t (M 302) p)) = 0 := (nI_is0 (by omega)).mpr hk
    rw [if_pos zk, if_pos hk, fails_ok]
    exact ⟨_, by rw [a4]; exact h2, a1, a2, Or.inl ⟨n10, rfl, a3⟩⟩
  have zk : ¬ nI (kN (LT t (M 302) p)) = 0 := fun z => hk ((nI_is0 (by omega)).mp z)
  rw [if_neg zk, if_neg hk, d46]
  by_cases hn8 : n = 8
  · obtain ⟨a1, a2, a3, a4⟩ := fr18 M 3 (fun _ _ _ => rfl) (fun _ _ _ => rfl)
    have z8 : nI n = 8 := by rw [hn8]; rfl
    rw [if_pos z8, if_pos hn8, fails_ok]
    exact ⟨_, by rw [a4]; exact h2, a1, a2, Or.inl ⟨n30, rfl, a3⟩⟩
  have z8 : ¬ nI n = 8 := fun z => hn8 (nI_inj (by omega) (by omega) (show nI n = nI 8 from z))
  rw [if_neg z8, if_neg hn8, tb_let_eq, h2, nI_1, zl55, nI_add, tb_in_t (show 55 + n < 63 by omega) (by omega), tb_ck_t, tb_let_eq, zl2, nI_add, tb_in_t (show 2 + n < 63 by omega) (by omega), tb_ck_t, tb_let_eq, zl18, nI_add, tb_in_t (show 18 + n < 63 by omega) (by omega), tb_ck_t, tb_let_eq, nI_clamp (by omega), nI_clamp (by omega), nI_clamp (by omega), zl47, nI_add]
  generalize hN : tb_up (tb_up (tb_up (tb_up M 297 17 (nI (p + 1))) 304 (55 + n) (nI (kN (LT t (M 302) p)))) 304 (2 + n) (-1)) 304 (18 + n) (nI n) = N
  have N302 : N 302 = M 302 := by rw [← hN]; simp (disch := omega) only [tb_up_ne]
  have N297 : N 297 = upd (M 297) 17 (nI (p + 1)) := by rw [← hN]; simp (disch := omega) only [tb_up_ne, tb_up_same]
  have N304 : N 304 = upd (upd (upd (M 304) (55 + n) (nI (kN (LT t (M 302) p)))) (2 + n) (-1)) (18 + n) (nI n) := by rw [← hN]; simp (disch := omega) only [tb_up_ne, tb_up_same]
  have Nq : ∀ q, q ≠ 297 → q ≠ 304 → N q = M q := fun q q1 q2 => by rw [← hN, tb_up_ne q2, tb_up_ne q2, tb_up_ne q2, tb_up_ne q1]
  have N6 : N 297 6 = nI t := by rw [N297, upd_other _ _ _ (by omega)]; exact h1
  have N17 : N 297 17 = nI (p + 1) := by rw [N297, upd_same]
  have Nk : ∀ k, k ≠ 17 → k ≠ 18 → N 297 k = M 297 k := fun k k1 _ => by rw [N297, upd_other _ _ _ k1]
  rw [reads_ok (p := p + 1) ht (by omega) N6 N17, N302]
  have ndl := nd_le (LT t (M 302)) (p + 1)
  unfold fX7_reads_J51
  by_cases hbad : nd (LT t (M 302)) (p + 1) = 0 ∨ nd (LT t (M 302)) (p + 1) = 3
  · rw [if_pos hbad]
    obtain ⟨a1, a2, a3, a4⟩ := fr18 N 1 Nq Nk
    rcases hbad with hb | hb
    · rw [hb, if_pos (by decide), fails_ok, tb_b2_some, if_pos rfl]
      exact ⟨_, by rw [a4]; exact N17, a1, a2, Or.inl ⟨n10, rfl, a3⟩⟩
    · rw [hb, if_neg (by decide), if_pos (by decide), fails_ok, tb_b2_some, if_pos rfl]
      exact ⟨_, by rw [a4]; exact N17, a1, a2, Or.inl ⟨n10, rfl, a3⟩⟩
  have za : ¬ nI (nd (LT t (M 302)) (p + 1)) = 0 := fun z => hbad (Or.inl ((nI_is0 (by omega)).mp z))
  have zb : ¬ nI (nd (LT t (M 302)) (p + 1)) = 3 := fun z => hbad (Or.inr (nI_inj (by omega) (by omega) (show nI (nd (LT t (M 302)) (p + 1)) = nI 3 from z)))
  rw [if_neg hbad, if_neg za, if_neg zb, in_ok, tb_b2_some]
  by_cases hr : inV (num (LT t (M 302)) (p + 1) (nd (LT t (M 302)) (p + 1))) 1 4 = 0
  · obtain ⟨a1, a2, a3, a4⟩ := fr18 N 2 Nq Nk
    rw [if_pos hr, if_pos hr, fails_ok, tb_b2_some, if_pos rfl]
    exact ⟨_, by rw [a4]; exact N17, a1, a2, Or.inl ⟨n20, rfl, a3⟩⟩
  rw [if_neg hr, if_neg hr, tb_let_eq, N17, nI_add, tb_in_t (show 47 + n < 63 by omega) (by omega), tb_ck_t, tb_let_eq, nI_clamp (by omega), tb_b2_some, if_neg n10]
  generalize hP : p + 1 + nd (LT t (M 302)) (p + 1) = P at *
  generalize hU : tb_up (tb_up N 297 17 (nI P)) 304 (47 + n) (num (LT t (M 302)) (p + 1) (nd (LT t (M 302)) (p + 1))) = U
  have U297 : U 297 = upd (N 297) 17 (nI P) := by rw [← hU, tb_up_ne (by omega), tb_up_same]
  have U304 : U 304 = upd (N 304) (47 + n) (num (LT t (M 302)) (p + 1) (nd (LT t (M 302)) (p + 1))) := by rw [← hU, tb_up_same, tb_up_ne (by omega)]
  have Uq : ∀ q, q ≠ 297 → q ≠ 304 → U q = M q := fun q q1 q2 => by rw [← hU, tb_up_ne q2, tb_up_ne q1, Nq q q1 q2]
  have U6 : U 297 6 = nI t := by rw [U297, upd_other _ _ _ (by omega)]; exact N6
  have U17 : U 297 17 = nI P := by rw [U297, upd_same]
  have Uk : ∀ k, k ≠ 17 → k ≠ 18 → U 297 k = M 297 k := fun k k1 k2 => by rw [U297, upd_other _ _ _ k1, Nk k k1 k2]
  rw [U17, letterAt_ok ht U6 (by omega), tb_b2_some, Uq 302 (by omega) (by omega)]
  by_cases h59 : LT t (M 302) P = 59
  · rw [if_pos h59, if_pos h59, tb_let_eq, tb_let_eq, U17, nI_1]
    have U46 : tb_up U 297 17 (nI (P + 1)) 304 46 = nI n := by
      rw [tb_up_ne (by omega), U304, upd_other _ _ _ (by omega), N304, upd_other _ _ _ (by omega), upd_other _ _ _ (by omega), upd_other _ _ _ (by omega)]; exact d46
    rw [U46, nI_1]
    refine ⟨tb_up (tb_up U 297 17 (nI (P + 1))) 304 46 (nI (n + 1)), ?_, fun q q1 q2 => ?_, fun k k1 k2 => ?_, Or.inr ⟨rfl, rfl, fun r r4 hrr => ?_⟩⟩
    · rw [tb_up_ne (by omega), tb_up_same, upd_same]
    · rw [tb_up_ne q2, tb_up_ne q1, Uq q q1 q2]
    · rw [tb_up_ne (by omega), tb_up_same, upd_other _ _ _ k1, Uk k k1 k2]
    · have V : tb_up (tb_up U 297 17 (nI (P + 1))) 304 46 (nI (n + 1)) 304 = upd (upd (upd (upd (upd (M 304) (55 + n) (nI (kN (LT t (M 302) p)))) (2 + n) (-1)) (18 + n) (nI n)) (47 + n) (nI r)) 46 (nI (n + 1)) := by
        rw [tb_up_same, tb_up_ne (by omega), U304, N304, hrr]
      unfold DP
      rw [V]
      refine ⟨by rw [upd_same], ?_, ?_, fun i hi => ?_, fun k hk => ?_, fun i hi => ?_⟩
      · simp (disch := omega) only [upd_other, ne_eq]; exact d0
      · simp (disch := omega) only [upd_other, ne_eq]; exact d1
      · simp (disch := omega) only [upd_other, ne_eq]; exact d10 i hi
      · simp (disch := omega) only [upd_other, ne_eq]; exact d26 k hk
      · unfold ext
        by_cases e : i = n
        · subst e
          simp (disch := omega) only [upd_other, ne_eq, upd_same, if_true, and_self]
        · simp (disch := omega) only [upd_other, ne_eq, if_neg e]
          exact di i (by omega)
  · obtain ⟨a1, a2, a3, a4⟩ := fr18 U 1 Uq Uk
    rw [if_neg h59, if_neg h59, fails_ok]
    exact ⟨_, by rw [a4]; exact U17, a1, a2, Or.inl ⟨n10, rfl, a3⟩⟩
theorem rF_p {L : Nat → Int32} {p n : Nat} : (rF L p n).2 ≤ p + 5 := by
  have := nd_le L (p + 1)
  unfold rF
  (repeat' split) <;> (dsimp only; omega)
theorem bs_loop {t : Nat} {L : Nat → Int32} (ht : t ≤ 60) : ∀ (c m p n : Nat) (S R : Nat → Nat) (M : tb_Mem), n + c = 9 → n ≤ 8 → c < m → p ≤ 60 → M 2 1 = nI t → M 2 2 = nI p → LT t (M 3) = L → CP n S R M → vSR n S R → ∃ (fl : Int32) (p' n' : Nat) (S' R' : Nat → Nat) (M' : tb_Mem), tb_b2 (fX5_readBar 13 M) (fun r M1 => fX5_readInto_L17 13 m r (nI n) M1) = some (fl, M') ∧ M' 2 1 = 0 ∧ M' 2 2 = nI p' ∧ (∀ q, q ≠ 2 → ¬ (13 ≤ q ∧ q ≤ 21) → M' q = M q) ∧ (fl = 0 → CP n' S' R' M' ∧ 1 ≤ n' ∧ n' ≤ 8 ∧ vSR n' S' R') ∧
    ∀ (m2 : Nat) (M2 : tb_Mem), c < m2 → M2 297 6 = nI t → M2 297 17 = nI p → LT t (M2 302) = L → DP n S R M2 → ∃ M3, fX7_readsAll_J26 (fun M => fX7_readsAll_L5 m2 M) M2 = some ((if fl = 0 then 1 else 0), M3) ∧ M3 297 17 = nI p' ∧ (∀ q, q ≠ 297 → q ≠ 304 → M3 q = M2 q) ∧ (∀ k, k ≠ 17 → k ≠ 18 → M3 297 k = M2 297 k) ∧ (fl ≠ 0 → M3 297 18 = fl) ∧ (fl = 0 → DP n' S' R' M3) := by
  intro c
  induction c with
  | zero => intro m p n S R M h1 h1' h2 hp a1 a2 aL hC hv; omega
  | succ c ih =>
    intro m p n S R M h1 h1' h2 hp a1 a2 aL hC hv
    obtain ⟨m, rfl⟩ : ∃ k, m = k + 1 := ⟨m - 1, by omega⟩
    obtain ⟨M1, e1, b1, b2, b3, b4⟩ := rb_c ht hp a1 a2 h1' hC
    rw [aL] at e1 b2 b4
    have hP := rF_p (L := L) (p := p) (n := n)
    have d := fun (m2 : Nat) (M2 : tb_Mem) (u1 : M2 297 6 = nI t) (u2 : M2 297 17 = nI p) (u3 : LT t (M2 302) = L) (u4 : DP n S R M2) => by
      have := rb_d (K := fun M => fX7_readsAll_L5 m2 M) ht hp u1 u2 h1' u4
      rw [u3] at this
      exact this
    have b13 : ∀ v : Int32, ∀ q, q ≠ 2 → ¬ (13 ≤ q ∧ q ≤ 21) → tb_up M1 2 1 v q = M q := fun v q q1 q2 => by rw [tb_up_ne q1, b3 q q1 q2]
    by_cases hf : (rF L p n).1 = 0
    · obtain ⟨hn8, r, r0, k1, r1, r4, c1⟩ := b4 hf
      have hv' : vSR (n + 1) (ext S n (kN (L p))) (ext R n r) := fun i hi => by
        unfold ext
        by_cases e : i = n
        · rw [if_pos e, if_pos e]; exact ⟨k1, kN_le _, r1, r4⟩
        · rw [if_neg e, if_neg e]; exact hv i (by omega)
      by_cases hend : t ≤ (rF L p n).2
      · refine ⟨0, (rF L p n).2, n + 1, ext S n (kN (L p)), ext R n r, tb_up M1 2 1 0, ?_, by rw [tb_up_same, upd_same], by rw [tb_up_same, upd_other _ _ _ (by omega)]; exact b2, b13 0, fun _ => ⟨c1.fr (fun q q1 q2 => tb_up_ne (by omega)), by omega, by omega, hv'⟩, fun m2 M2 h3 u1 u2 u3 u4 => ?_⟩
        · rw [e1, tb_b2_some, hf, fX5_readInto_L17, if_neg (by rw [zl8, nI_leI (by omega) (by omega)]; omega), if_pos rfl, b1, b2, if_pos (by rw [nI_leI (by omega) (by omega)]; exact hend), tb_let_eq]
        · obtain ⟨M3, v1, v2, v3, v4⟩ := d m2 M2 u1 u2 u3 u4
          rcases v4 with ⟨z, -⟩ | ⟨-, e4, w4⟩
          · exact absurd hf z
          obtain ⟨m2, rfl⟩ : ∃ k, m2 = k + 1 := ⟨m2 - 1, by omega⟩
          have w4 := w4 r r4 r0
          refine ⟨M3, ?_, v1, v2, v3, fun z => absurd rfl z, fun _ => w4⟩
          rw [e4]
          show fX7_readsAll_L5 (m2 + 1) M3 = _
          rw [fX7_readsAll_L5, v1, v3 6 (by omega) (by omega), u1, if_neg (by rw [nI_ltI (by omega) (by omega)]; omega), w4.1, if_neg (by rw [nI_is0 (by omega)]; omega)]
          rfl
      · obtain ⟨fl, p', n', S', R', M', g1, g2, g3, g4, g5, g6⟩ := ih m (rF L p n).2 (n + 1) (ext S n (kN (L p))) (ext R n r) M1 (by omega) (by omega) (by omega) (by omega) b1 b2 (by rw [b3 3 (by omega) (by omega)]; exact aL) c1 hv'
        refine ⟨fl, p', n', S', R', M', ?_, g2, g3, fun q q1 q2 => by rw [g4 q q1 q2, b3 q q1 q2], g5, fun m2 M2 h3 u1 u2 u3 u4 => ?_⟩
        · rw [e1, tb_b2_some, hf, fX5_readInto_L17, if_neg (by rw [zl8, nI_leI (by omega) (by omega)]; omega), if_pos rfl, b1, b2, if_neg (by rw [nI_leI (by omega) (by omega)]; exact hend), nI_1, g1]
        · obtain ⟨M3, v1, v2, v3, v4⟩ := d m2 M2 u1 u2 u3 u4
          rcases v4 with ⟨z, -⟩ | ⟨-, e4, w4⟩
          · exact absurd hf z
          obtain ⟨m2, rfl⟩ : ∃ k, m2 = k + 1 := ⟨m2 - 1, by omega⟩
          have w4 := w4 r r4 r0
          obtain ⟨M4, x1, x2, x3, x4, x5, x6⟩ := g6 m2 M3 (by omega) (by rw [v3 6 (by omega) (by omega)]; exact u1) v1 (by rw [v2 302 (by omega) (by omega)]; exact u3) w4
          refine ⟨M4, ?_, x2, fun q q1 q2 => by rw [x3 q q1 q2, v2 q q1 q2], fun k k1 k2 => by rw [x4 k k1 k2, v3 k k1 k2], x5, x6⟩
          rw [e4]
          show fX7_readsAll_L5 (m2 + 1) M3 = _
          rw [fX7_readsAll_L5, v1, v3 6 (by omega) (by omega), u1, if_pos (by rw [nI_ltI (by omega) (by omega)]; omega), x1]
    · refine ⟨(rF L p n).1, (rF L p n).2, 0, S, R, tb_up M1 2 1 0, ?_, by rw [tb_up_same, upd_same], by rw [tb_up_same, upd_other _ _ _ (by omega)]; exact b2, b13 0, fun z => absurd z hf, fun m2 M2 h3 u1 u2 u3 u4 => ?_⟩
      · rw [e1, tb_b2_some, fX5_readInto_L17]
        by_cases h8 : (8 : Int32) ≤ nI n
        · rw [if_pos h8, tb_let_eq]
        · rw [if_neg h8, if_neg hf, tb_let_eq]
      · obtain ⟨M3, v1, v2, v3, v4⟩ := d m2 M2 u1 u2 u3 u4
        rcases v4 with ⟨-, e4, w4⟩ | ⟨z, -⟩
        · exact ⟨M3, by rw [e4, if_neg hf], v1, v2, v3, fun _ => w4, fun z => absurd z hf⟩
        · exact absurd z hf

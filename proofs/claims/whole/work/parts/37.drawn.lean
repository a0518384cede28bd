/-! typing by draws -/
noncomputable def drB (b : St) (u : Nat) : St := @ite St ((lg_cmp (lN u - lN u / 3 * 3) 0) = 0 ∧ sRst b (u % b 0 0)) (Classical.propDecidable _) (sStart b (u % b 0 0) 0) b
theorem drB_0 (b : St) (u : Nat) : drB b u 0 0 = b 0 0 := by
  unfold drB
  by_cases h : (lg_cmp (lN u - lN u / 3 * 3) 0) = 0 ∧ sRst b (u % b 0 0)
  · rw [if_pos h, (lkStart _ _ _).1]
  · rw [if_neg h]
theorem drB_good {b : St} {u : Nat} (hg : sGood b) (h0 : 0 < b 0 0) : sGood (drB b u) := by
  unfold drB
  by_cases h : (lg_cmp (lN u - lN u / 3 * 3) 0) = 0 ∧ sRst b (u % b 0 0)
  · rw [if_pos h]; exact sPress_good hg (Nat.mod_lt _ h0)
  · rw [if_neg h]; exact hg
theorem dr_v {u n : Nat} (hu : u < 2 ^ 31) (h0 : 0 < n) (hn : n ≤ 8) : (((nI n : Int32).toInt64) != 0) = true ∧ (lN u - lN u / ((nI n : Int32).toInt64) * ((nI n : Int32).toInt64)).toInt32 = nI (u % n) := by
  rw [nI_l (by omega)]
  constructor
  · have : lN n ≠ 0 := by
      intro z
      have z : lN n = lN 0 := z
      rw [lN_eq (by omega) (by omega)] at z
      omega
    simpa using this
  · rw [pk_lRem (by omega) h0 (by omega), lN_i]
theorem drJ_c {b : St} {u : Nat} {M : tb_Mem} {K : Int32 → Int32 → Int64 → Int32 → tb_Mem → Option (Int32 × tb_Mem)} {x2 x4 x7 : Int32} (hg : sGood b) (h0 : 0 < b 0 0) (hu : u < 2 ^ 31) (hb : BK (b 0 0) b M 241) (h8 : M 4 8 = nI (b 0 0)) : ∃ M', fX3_printedByDraws_J70 4 K x2 x4 (lN u) x7 M = K x2 (x4 + nI (sTc (drB b u))) (lN u) (x7 + 1) M' ∧ BK (b 0 0) (sTk (drB b u)) M' 241 ∧ Fr 241 M M' := by
  have hn := hg.1.1
  have hi : u % b 0 0 < b 0 0 := Nat.mod_lt _ h0
  obtain ⟨v1, v2⟩ := dr_v hu h0 hn
  unfold fX3_printedByDraws_J70
  rw [h8, v1, tb_ck_t, v2, tb_let_eq]
  by_cases h3 : (lg_cmp (lN u - lN u / 3 * 3) 0) = 0
  · rw [if_pos h3]
    obtain ⟨r, e1, z1⟩ := M_rests_t hg.1 hb hi
    rw [e1, tb_b2_some]
    by_cases hr : sRst b (u % b 0 0)
    · obtain ⟨M1, e2, b2, f2, -⟩ := M_press hg.1 hb hi
      obtain ⟨M2, e3, b3, f3, -⟩ := M_pass (p := 241) (sPress_good hg hi).1 b2
      have hd : drB b u = sStart b (u % b 0 0) 0 := if_pos ⟨h3, hr⟩
      rw [if_neg (fun z => z1.mp z hr), e2, tb_b1_some, e3, tb_b2_some, hd]
      exact ⟨M2, rfl, by rw [(lkStart _ _ _).1] at b3; exact b3, f2.trans f3⟩
    · obtain ⟨M2, e3, b3, f3, -⟩ := M_pass (p := 241) hg.1 hb
      have hd : drB b u = b := if_neg (fun z => hr z.2)
      rw [if_pos (z1.mpr hr), e3, tb_b2_some, hd]
      exact ⟨M2, rfl, b3, f3⟩
  · obtain ⟨M2, e3, b3, f3, -⟩ := M_pass (p := 241) hg.1 hb
    have hd : drB b u = b := if_neg (fun z => h3 z.1)
    rw [if_neg h3, e3, tb_b2_some, hd]
    exact ⟨M2, rfl, b3, f3⟩
theorem drJ_d {b : St} {u : Nat} {M : tb_Mem} {K : Int32 → Int32 → Int64 → Int32 → Int32 → tb_Mem → Option (Int32 × tb_Mem)} {x1 x3 x6 x7 : Int32} (hg : sGood b) (h0 : 0 < b 0 0) (hu : u < 2 ^ 31) (hm : RM b (M 308)) : ∃ M', fX7_drawn_J99 K x1 x3 (lN u) x6 x7 M = K x1 x3 (lN u) (x6 + nI (sTc (drB b u))) (x7 + 1) M' ∧ RM (sTk (drB b u)) (M' 308) ∧ Fq 308 M M' := by
  have hn := hg.1.1
  have hi : u % b 0 0 < b 0 0 := Nat.mod_lt _ h0
  obtain ⟨v1, v2⟩ := dr_v hu h0 hn
  unfold fX7_drawn_J99
  rw [hm.1, v1, tb_ck_t, v2, tb_let_eq]
  by_cases h3 : (lg_cmp (lN u - lN u / 3 * 3) 0) = 0
  · rw [if_pos h3]
    obtain ⟨r, e1, z1⟩ := N_rests hg.1 hm hi
    rw [e1, tb_b2_some]
    by_cases hr : sRst b (u % b 0 0)
    · have m2 := N_press hn hm hi hr
      obtain ⟨M2, e3, m3, f3, -⟩ := N_tick (q := 308) (sPress_good hg hi).1 m2
      have hd : drB b u = sStart b (u % b 0 0) 0 := if_pos ⟨h3, hr⟩
      rw [if_neg (fun z => z1.mp z hr), zl2, nI_add, tb_in_t (by omega) (by omega), tb_ck_t, nI_clamp (by omega), tb_let_eq, e3, tb_b2_some, hd]
      exact ⟨M2, rfl, m3, Fq.trans (fun q hq => tb_up_ne hq) f3⟩
    · obtain ⟨M2, e3, m3, f3, -⟩ := N_tick (q := 308) hg.1 hm
      have hd : drB b u = b := if_neg (fun z => hr z.2)
      rw [if_pos (z1.mpr hr), e3, tb_b2_some, hd]
      exact ⟨M2, rfl, m3, f3⟩
  · obtain ⟨M2, e3, m3, f3, -⟩ := N_tick (q := 308) hg.1 hm
    have hd : drB b u = b := if_neg (fun z => h3 z.1)
    rw [if_neg h3, e3, tb_b2_some, hd]
    exact ⟨M2, rfl, m3, f3⟩
theorem dr_u {u : Nat} (hu : u < 2 ^ 31) : (lN u * 16807 - lN u * 16807 / 2147483647 * 2147483647 : Int64) = lN (u * 16807 % 2147483647) := by
  rw [show (16807 : Int64) = lN 16807 from rfl, show (2147483647 : Int64) = lN 2147483647 from rfl, lN_mul, pk_lRem (by omega) (by omega) (by omega)]
def drL (b : St) (u : Nat) : St := if (lg_cmp (lN u - lN u / 11 * 11) 0) = 0 then sLay b (sHn b) else b
theorem drL_0 (b : St) (u : Nat) : drL b u 0 0 = b 0 0 := by
  unfold drL
  split
  · rw [(lkLay _ _).1]
  · rfl
theorem drL_good {b : St} {u : Nat} (hg : sGood b) : sGood (drL b u) := by
  unfold drL
  split
  · exact sLay_good hg
  · exact hg
theorem dr_loop {N n : Nat} (hN : N ≤ 100) (h0 : 0 < n) : ∀ (c m k : Nat) (b : St) (u : Nat) (many : Int32) (M : tb_Mem), k + c = N → c < m → sGood b → b 0 0 = n → BK n b M 241 → M 4 8 = nI n → u < 2 ^ 31 → ∃ (b' : St) (mn : Int32) (M' : tb_Mem), fX3_printedByDraws_L27 4 m (nI N) many (lN u) (nI k) M = some (mn, M') ∧ Fr 241 M M' ∧ sGood b' ∧ b' 0 0 = n ∧ BK n b' M' 241 ∧
    ∀ (x3 : Int32) (m2 : Nat) (M2 : tb_Mem), c < m2 → RM b (M2 308) → ∃ M3, Fq 308 M2 M3 ∧ RM b' (M3 308) ∧ fX7_drawn_L63 m2 (nI N) x3 (lN u) many (nI k) M2 = (if x3 = 0 then (some (mn, M3)) else (tb_b2 (fX7_hanging 308 M3) (fun r23 M21 => tb_b2 (fX7_ones r23 M21) (fun r26 M24 => some (r26, M24))))) := by
  intro c
  induction c with
  | zero =>
    intro m k b u many M h1 h2 hg hb0 hb h8 hu
    obtain ⟨m, rfl⟩ : ∃ k, m = k + 1 := ⟨m - 1, by omega⟩
    refine ⟨b, many, M, ?_, Fr.rf, hg, hb0, hb, fun x3 m2 M2 h3 hm => ⟨M2, Fq.rf, hm, ?_⟩⟩
    · rw [fX3_printedByDraws_L27, if_pos (by rw [nI_leI (by omega) (by omega)]; omega)]
    · obtain ⟨m2, rfl⟩ : ∃ k, m2 = k + 1 := ⟨m2 - 1, by omega⟩
      rw [fX7_drawn_L63, if_pos (by rw [nI_leI (by omega) (by omega)]; omega)]
  | succ c ih =>
    intro m k b u many M h1 h2 hg hb0 hb h8 hu
    obtain ⟨m, rfl⟩ : ∃ k, m = k + 1 := ⟨m - 1, by omega⟩
    have hn := hg.1.1
    have hu' : u * 16807 % 2147483647 < 2 ^ 31 := by have := Nat.mod_lt (u * 16807) (show 0 < 2147483647 by omega); omega
    have q : ¬ nI N ≤ nI k := by rw [nI_leI (by omega) (by omega)]; omega
    have hgL := drL_good (u := u * 16807 % 2147483647) hg
    have h0L : drL b (u * 16807 % 2147483647) 0 0 = n := by rw [drL_0, hb0]
    have stC : ∃ M1, BK n (drL b (u * 16807 % 2147483647)) M1 241 ∧ Fr 241 M M1 ∧ fX3_printedByDraws_L27 4 (m + 1) (nI N) many (lN u) (nI k) M = fX3_printedByDraws_J70 4 (fun z2 z4 z5 z7 M => fX3_printedByDraws_L27 4 m z2 z4 z5 z7 M) (nI N) many (lN (u * 16807 % 2147483647)) (nI k) M1 := by
      rw [fX3_printedByDraws_L27, if_neg q, dr_u hu, tb_let_eq]
      by_cases h11 : (lg_cmp (lN (u * 16807 % 2147483647) - lN (u * 16807 % 2147483647) / 11 * 11) 0) = 0
      · obtain ⟨M1, e1, b1, f1, -⟩ := M_lay hg.1 hb (x := M 241 10) (f := sHn b) hb.2.2.2.1
        rw [if_pos h11, e1, tb_b1_some]
        exact ⟨M1, by rw [show drL b (u * 16807 % 2147483647) = sLay b (sHn b) from if_pos h11]; exact b1, f1, rfl⟩
      · rw [if_neg h11]
        exact ⟨M, by rw [show drL b (u * 16807 % 2147483647) = b from if_neg h11]; exact hb, Fr.rf, rfl⟩
    obtain ⟨M1, b1, f1, e1⟩ := stC
    obtain ⟨M2, e2, b2, f2⟩ := drJ_c (K := fun z2 z4 z5 z7 M => fX3_printedByDraws_L27 4 m z2 z4 z5 z7 M) (x2 := nI N) (x4 := many) (x7 := nI k) hgL (by omega) hu' (by rw [h0L]; exact b1) (by rw [f1 4 (by omega), h0L]; exact h8)
    have hgB := drB_good (u := u * 16807 % 2147483647) hgL (by omega)
    have f12 := f1.trans f2
    obtain ⟨b', mn, M', e3, f3, g3, n3, b3, k3⟩ := ih m (k + 1) (sTk (drB (drL b (u * 16807 % 2147483647)) (u * 16807 % 2147483647))) (u * 16807 % 2147483647) (many + nI (sTc (drB (drL b (u * 16807 % 2147483647)) (u * 16807 % 2147483647)))) M2 (by omega) (by omega) (sTk_good hgB.1) (by rw [sTk_0, drB_0, h0L]) (by rw [h0L] at b2; exact b2) (by rw [f12 4 (by omega)]; exact h8) hu'
    refine ⟨b', mn, M', by rw [e1, e2, nI_1, e3], f12.trans f3, g3, n3, b3, fun x3 m2 M2 h3 hm => ?_⟩
    obtain ⟨m2, rfl⟩ : ∃ k, m2 = k + 1 := ⟨m2 - 1, by omega⟩
    have stD : ∃ M5, RM (drL b (u * 16807 % 2147483647)) (M5 308) ∧ Fq 308 M2 M5 ∧ fX7_drawn_L63 (m2 + 1) (nI N) x3 (lN u) many (nI k) M2 = fX7_drawn_J99 (fun z1 z3 z4 z6 z7 M => fX7_drawn_L63 m2 z1 z3 z4 z6 z7 M) (nI N) x3 (lN (u * 16807 % 2147483647)) many (nI k) M5 := by
      rw [fX7_drawn_L63, if_neg q, dr_u hu, tb_let_eq]
      by_cases h11 : (lg_cmp (lN (u * 16807 % 2147483647) - lN (u * 16807 % 2147483647) / 11 * 11) 0) = 0
      · obtain ⟨M5, e5, m5, f5, -⟩ := N_frees (q := 308) hg.1 hm
        rw [if_pos h11, e5, tb_b1_some]
        exact ⟨M5, by rw [show drL b (u * 16807 % 2147483647) = sLay b (sHn b) from if_pos h11]; exact m5, f5, rfl⟩
      · rw [if_neg h11]
        exact ⟨M2, by rw [show drL b (u * 16807 % 2147483647) = b from if_neg h11]; exact hm, Fq.rf, rfl⟩
    obtain ⟨M5, m5, f5, e5⟩ := stD
    obtain ⟨M6, e6, m6, f6⟩ := drJ_d (K := fun z1 z3 z4 z6 z7 M => fX7_drawn_L63 m2 z1 z3 z4 z6 z7 M) (x1 := nI N) (x3 := x3) (x6 := many) (x7 := nI k) hgL (by omega) hu' m5
    obtain ⟨M7, f7, m7, e7⟩ := k3 x3 m2 M6 (by omega) m6
    exact ⟨M7, (f5.trans f6).trans f7, m7, by rw [e5, e6, nI_1, e7]⟩
theorem s_drawn (x y z : Int32) : Sim (fX6_drawn x y z) (fX7_drawn x y z) := by
  intro M h
  obtain ⟨⟨a, ⟨hg, hb, hm, ht⟩, -⟩, -⟩ := id h
  have hn := hg.1.1
  unfold fX6_drawn fX7_drawn
  by_cases h0 : a 0 0 = 0
  · exact ⟨-1000002, M, M, by rw [if_pos ((noBask hn hb).mpr h0)], by rw [isBask hn hm, tb_b2_some, if_pos h0, if_pos rfl], h⟩
  have z0 := fun z => h0 ((noBask hn hb).mp z)
  by_cases h1 : inV x 0 60 = 0
  · exact ⟨_, M, M, by rw [if_neg z0, within_ok, tb_b2_some, if_pos h1], by rw [isBask hn hm, tb_b2_some, if_neg h0, if_neg (by decide), in_ok, tb_b2_some, if_pos h1], h⟩
  by_cases h2 : inV y 1 999999 = 0
  · exact ⟨_, M, M, by rw [if_neg z0, within_ok, tb_b2_some, if_neg h1, within_ok, tb_b2_some, if_pos h2], by rw [isBask hn hm, tb_b2_some, if_neg h0, if_neg (by decide), in_ok, tb_b2_some, if_neg h1, in_ok, tb_b2_some, if_pos h2], h⟩
  by_cases h3 : inV z 0 1 = 0
  · exact ⟨_, M, M, by rw [if_neg z0, within_ok, tb_b2_some, if_neg h1, within_ok, tb_b2_some, if_neg h2, within_ok, tb_b2_some, if_pos h3], by rw [isBask hn hm, tb_b2_some, if_neg h0, if_neg (by decide), in_ok, tb_b2_some, if_neg h1, in_ok, tb_b2_some, if_neg h2, in_ok, tb_b2_some, if_pos h3], h⟩
  obtain ⟨N, -, hN, rfl⟩ := inV_1 (l := 0) (h := 60) (by omega) (by omega) h1
  obtain ⟨u, -, hu, rfl⟩ := inV_1 (l := 1) (h := 999999) (by omega) (by omega) h2
  obtain ⟨M1, e1, b1, f1, -, -⟩ := M_bec (p := 241) (p1 := 4) hn hb (by omega)
  have b14 : M1 4 8 = nI (a 0 0) := by rw [f1 4 (by omega)]; exact hb.1
  obtain ⟨b', mn, M2, e2, f2, g2, n2, b2, k2⟩ := dr_loop (N := N) (n := a 0 0) (by omega) (by omega) N tb_N 0 a u 0 M1 (by omega) (by unfold tb_N; omega) hg rfl b1 b14 (by omega)
  have e2 : fX3_printedByDraws_L27 4 tb_N (nI N) 0 (lN u) 0 M1 = some (mn, M2) := e2
  have sC : Sc M M2 := (Sc.f241 f1).tr (Sc.f241 f2)
  have m2 := hm.sc sC
  obtain ⟨M3, e3, m3, f3⟩ := N_cop hn m2
  obtain ⟨M4, f4, m4, e4⟩ := k2 z tb_N M3 (by unfold tb_N; omega) m3
  have e4 : fX7_drawn_L63 tb_N (nI N) z (lN u) 0 0 M3 = _ := e4
  have ePr : fX3_printedByDraws 4 (nI N) (nI u) M = some (mn, M2) := by
    unfold fX3_printedByDraws
    rw [e1, tb_b1_some, b14, if_pos (by rw [nI_gt0 (by omega)]; omega), nI_l (by omega), e2]
  have hI : Inv M4 := h.scr (sC.tr ((Sc.f308 f3).tr (Sc.f308 f4)))
  have k10 : Mk (M2 241 10) (sHn b') (a 0 0) := by rw [← n2]; exact b2.2.2.2.1
  obtain ⟨w, e5, k5⟩ := N_hanging (M := M4) (q := 308) g2.1 m4
  have we : w = M2 241 10 := by rw [n2] at k5; exact k5.eq k10
  by_cases hz : z = 0
  · refine ⟨mn, M2, M4, ?_, ?_, hI⟩
    · rw [if_neg z0, within_ok, tb_b2_some, if_neg h1, within_ok, tb_b2_some, if_neg h2, within_ok, tb_b2_some, if_neg h3, ePr, tb_b2_some, if_pos hz]
    · rw [isBask hn m2, tb_b2_some, if_neg h0, if_neg (by decide), in_ok, tb_b2_some, if_neg h1, in_ok, tb_b2_some, if_neg h2, in_ok, tb_b2_some, if_neg h3, e3, tb_b1_some, nI_l (by omega), e4, if_pos hz]
  · refine ⟨bcV (M2 241 10), M2, M4, ?_, ?_, hI⟩
    · rw [if_neg z0, within_ok, tb_b2_some, if_neg h1, within_ok, tb_b2_some, if_neg h2, within_ok, tb_b2_some, if_neg h3, ePr, tb_b2_some, if_neg hz, bc_any, tb_b2_some]
    · rw [isBask hn m2, tb_b2_some, if_neg h0, if_neg (by decide), in_ok, tb_b2_some, if_neg h1, in_ok, tb_b2_some, if_neg h2, in_ok, tb_b2_some, if_neg h3, e3, tb_b1_some, nI_l (by omega), e4, if_neg hz, e5, tb_b2_some, we, ones_ok k10 hn, tb_b2_some]

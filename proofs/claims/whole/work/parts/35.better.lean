/-! pace, better -/
theorem Inv.fin {M M' : tb_Mem} (h : Inv M) (hs : ∀ q, ¬ Scr q → q ≠ 0 → q ≠ 297 → M' q = M q) (h0 : ∀ k, k ≠ 9 → M' 0 k = M 0 k) (h7 : ∀ k, k ≠ 4 → M' 297 k = M 297 k) (he : M' 0 9 = M' 297 4) : Inv M' := by
  have h2 : Inv (fun q => if q = 0 ∨ q = 297 then M q else M' q) := h.scr (fun q hq => by
    by_cases hc : q = 0 ∨ q = 297
    · simp only [if_pos hc]
    · simp only [if_neg hc]; exact hs q hq (by omega) (by omega))
  refine h2.stat (fun q q1 q2 => ?_) (fun k hk => ?_) (fun k hk => ?_) he
  · rw [if_neg (by omega)]
  · rw [if_pos (by omega)]; exact h0 k hk
  · rw [if_pos (by omega)]; exact h7 k hk
/-- the end of a call that has found something out: class, then reference -/
theorem fin_ok {M Mc Md : tb_Mem} (h : Inv M) (s1 : Sc M Mc) (s2 : Sc (tb_up Mc 0 9 0) Md) : Inv (tb_up Md 297 4 0) := by
  have n0 : ¬ Scr 0 := by unfold Scr; omega
  have n7 : ¬ Scr 297 := by unfold Scr; omega
  refine h.fin (fun q q1 q2 q3 => ?_) (fun k hk => ?_) (fun k hk => ?_) ?_
  · rw [tb_up_ne q3, s2 q q1, tb_up_ne q2, s1 q q1]
  · rw [tb_up_ne (by omega), s2 0 n0, tb_up_same, upd_other _ _ _ hk, s1 0 n0]
  · rw [tb_up_same, upd_other _ _ _ hk, s2 297 n7, tb_up_ne (by omega), s1 297 n7]
  · rw [tb_up_ne (by omega), s2 0 n0, tb_up_same, upd_same, tb_up_same, upd_same]
theorem pv_in {r : Nat} (h : r ≤ 100) : inV (pv r) (-1000015) (-1000011) = 0 := by
  unfold pv
  by_cases h0 : r = 0
  · rw [if_pos h0]; decide
  · rw [if_neg h0]; exact inV_nI (by omega)
theorem FP.le {g : Nat → Prop} {s r : Nat} (h : FP g s r) : r ≤ s := by
  rcases h with ⟨e, -⟩ | ⟨-, h, -⟩ <;> omega
theorem Sc.hear {M M1 : tb_Mem} (h : ∀ q, q ≠ 240 → q ≠ 259 → M1 q = M q) : Sc M M1 := fun q hq => h q (by unfold Scr at hq; omega) (by unfold Scr at hq; omega)
theorem s_pace (x y z : Int32) : Sim (fX6_pace x y z) (fX7_pace x y z) := by
  intro M h
  obtain ⟨⟨a, ⟨hg, hb, hm, ht⟩, -⟩, -⟩ := id h
  have hn := hg.1.1
  unfold fX6_pace fX7_pace
  by_cases h1 : inV x 0 7 = 0
  · exact ⟨_, M, M, by rw [isRow6, tb_b2_some, if_pos h1], by rw [isRow7, tb_b2_some, if_pos h1], h⟩
  by_cases h2 : inV z 1 12 = 0
  · exact ⟨_, M, M, by rw [isRow6, tb_b2_some, if_neg h1, within_ok, tb_b2_some, if_pos h2], by rw [isRow7, tb_b2_some, if_neg h1, in_ok, tb_b2_some, if_pos h2], h⟩
  by_cases h0 : a 0 0 = 0
  · exact ⟨_, M, M, by rw [isRow6, tb_b2_some, if_neg h1, within_ok, tb_b2_some, if_neg h2, if_pos ((noBask hn hb).mpr h0)], by rw [isRow7, tb_b2_some, if_neg h1, in_ok, tb_b2_some, if_neg h2, isBask hn hm, tb_b2_some, if_pos h0, if_pos rfl], h⟩
  have z0 := fun z => h0 ((noBask hn hb).mp z)
  obtain ⟨r, hr, hx⟩ := isRow_1 h1
  obtain ⟨n, n1, n2, hz⟩ := inV_1 (l := 1) (h := 12) (by omega) (by omega) h2
  have hin : tb_in x 8 = true := by rw [hx]; exact tb_in_t hr (by omega)
  have hcl : x.toNatClampNeg = r := by rw [hx]; exact nI_clamp (by omega)
  have hrow := h.2.2.1 r hr
  have up9 : ∀ (v : Int32), RM a (tb_up M 0 9 v 303) := fun v => by rw [tb_up_ne (by omega)]; exact hm
  rcases row_cases hrow hr x hx y z with ⟨c1, c2, c3⟩ | ⟨c1, c2, c3, ⟨c4, c5, c6⟩ | ⟨c4, c5, c6, i, k, len, c7, c8, c9, c10, c11, c12⟩⟩
  · exact ⟨_, _, _, by rw [isRow6, tb_b2_some, if_neg h1, within_ok, tb_b2_some, if_neg h2, if_neg z0, c3, tb_b2_some, if_neg (by decide), found1, tb_b2_some], by rw [isRow7, tb_b2_some, if_neg h1, in_ok, tb_b2_some, if_neg h2, isBask hn (up9 1), tb_b2_some, if_neg h0, if_neg (by decide), hin, tb_ck_t, hcl, tb_up_ne (by omega), c2, if_neg (by decide), ends_f (k := 1) (by decide) (by decide), tb_b2_some]; rfl, stt_inv h 1⟩
  · exact ⟨_, _, _, by rw [isRow6, tb_b2_some, if_neg h1, within_ok, tb_b2_some, if_neg h2, if_neg z0, c5, tb_b2_some, if_neg (by decide), found2, tb_b2_some], by rw [isRow7, tb_b2_some, if_neg h1, in_ok, tb_b2_some, if_neg h2, isBask hn (up9 2), tb_b2_some, if_neg h0, if_neg (by decide), hin, tb_ck_t, hcl, tb_up_ne (by omega), if_pos c2, c6 _ (tb_up_ne (by omega)), tb_b2_some, if_pos rfl, ends_f (k := 2) (by decide) (by decide), tb_b2_some]; rfl, stt_inv h 2⟩
  · have kn : k = n := nI_inj (by rw [Nat.pow_succ] at *; omega) (by omega) (by rw [← c10, hz])
    subst kn
    rcases hrow with ⟨d1, d2⟩ | ⟨d1, d2, d3, d4⟩
    · rw [d1] at c1; exact absurd c1 (by decide)
    obtain ⟨M1, e1, w1, f1⟩ := hear_ok hr n2 c8 c7 c12
    have s1 : Sc M M1 := Sc.hear f1
    obtain ⟨M2, e2, b2, f2, -, -⟩ := M_bec (p := 241) (p1 := 4) hn (hb.sc s1) (by omega)
    obtain ⟨rr, hrr⟩ := FP.ex (fun p => gP (fun j => M (263 + 2 * r + 1) (i + j)) k p (sHn (xB a none)) (k - 1) (xB a none)) 12
    obtain ⟨M3, e3, f3⟩ := lpace_ok (M := M2) (s := 12) (b := a) n1 n2 (by omega) hg hrr b2 (w1.fr (by rw [f2 240 (by omega)]) (f2 259 (by omega)))
    have sC : Sc M M3 := (s1.tr (Sc.f241 f2)).tr (Sc.f250 f3)
    have e40 : (40 : Int32) * x + y = nI (40 * r + i) := by rw [hx, c9, show (40 : Int32) = nI 40 from rfl, pk_mul, nI_add]
    have sU : ∀ q, q ≠ 0 → ¬ Scr q → tb_up M3 0 9 0 q = M q := fun q q0 q1 => by rw [tb_up_ne q0, sC q q1]
    obtain ⟨M4, e4, f4⟩ := pB_ok (M := tb_up M3 0 9 0) (o := 40 * r + i) (e := none) (a := a) n1 n2 (by omega) hg trivial hrr (by rw [sU 303 (by omega) (by unfold Scr; omega)]; exact hm) (fun j hj => by
      show tb_up M3 0 9 0 300 (40 * r + i + j) = M (263 + 2 * r + 1) (i + j)
      rw [sU 300 (by omega) (by unfold Scr; omega), d3 (i + j) (by omega), Nat.add_assoc])
    have e4 : fX7_paceBy (nI (40 * r + i)) (nI k) (-1) (-1) (tb_up M3 0 9 0) = some (pv rr, M4) := e4
    refine ⟨pv rr, tb_up M3 0 9 0, tb_up M4 297 4 0, ?_, ?_, fin_ok h sC (Sc.f308 f4)⟩
    · rw [isRow6, tb_b2_some, if_neg h1, within_ok, tb_b2_some, if_neg h2, if_neg z0, c5, tb_b2_some, if_pos rfl, hin, tb_ck_t, hcl, c9, hz, e1, tb_b1_some]
      unfold fX3_paceAsItIs
      rw [e2, tb_b1_some, show (12 : Int32) = nI 12 from rfl, e3, tb_b2_some, tb_b2_some, fine_ok, tb_b2_some]
    · rw [isRow7, tb_b2_some, if_neg h1, in_ok, tb_b2_some, if_neg h2, isBask hn (by rw [sU 303 (by omega) (by unfold Scr; omega)]; exact hm), tb_b2_some, if_neg h0, if_neg (by decide), hin, tb_ck_t, hcl, sU 298 (by omega) (by unfold Scr; omega), if_pos c2, c6 _ (sU 298 (by omega) (by unfold Scr; omega)), tb_b2_some, if_neg (by decide), e40, hz, e4, tb_b2_some, ends_0 (pv_in (by have := hrr.le; omega)), tb_b2_some]
/-! better: over the pairs, both sides -/
noncomputable def fpx (w : Nat → Int32) (n : Nat) (b : St) : Nat := (FP.ex (fun p => gP w n p (sHn b) (n - 1) b) 12).choose
theorem fpx_ok (w : Nat → Int32) (n : Nat) (b : St) : FP (fun p => gP w n p (sHn b) (n - 1) b) 12 (fpx w n b) := (FP.ex (fun p => gP w n p (sHn b) (n - 1) b) 12).choose_spec
/-- the best so far: two bars, and the pace (13: none) -/
noncomputable def bS (w : Nat → Int32) (n : Nat) (a : St) (i j : Nat) (s : Int32 × Nat) : Int32 × Nat := if fpx w n (sSwap a i j) ≠ 0 ∧ fpx w n (sSwap a i j) < s.2 then (nI (10 * i + j), fpx w n (sSwap a i j)) else s
noncomputable def bJ (w : Nat → Int32) (n : Nat) (a : St) (i : Nat) : Nat → Nat → Int32 × Nat → Int32 × Nat
  | 0, _, s => s
  | c + 1, j, s => bJ w n a i c (j + 1) (bS w n a i j s)
noncomputable def bO (w : Nat → Int32) (n : Nat) (a : St) : Nat → Nat → Int32 × Nat → Int32 × Nat
  | 0, _, s => s
  | c + 1, i, s => bO w n a c (i + 1) (bJ w n a i c (i + 1) s)
theorem bS_le {w : Nat → Int32} {n : Nat} {a : St} {i j : Nat} {s : Int32 × Nat} (h : 1 ≤ s.2 ∧ s.2 ≤ 13) : 1 ≤ (bS w n a i j s).2 ∧ (bS w n a i j s).2 ≤ 13 := by
  unfold bS
  by_cases hc : fpx w n (sSwap a i j) ≠ 0 ∧ fpx w n (sSwap a i j) < s.2
  · rw [if_pos hc]; exact ⟨Nat.pos_of_ne_zero hc.1, by have := hc.2; omega⟩
  · rw [if_neg hc]; exact h
theorem bJ_le {w : Nat → Int32} {n : Nat} {a : St} {i : Nat} : ∀ (c j : Nat) (s : Int32 × Nat), 1 ≤ s.2 ∧ s.2 ≤ 13 → 1 ≤ (bJ w n a i c j s).2 ∧ (bJ w n a i c j s).2 ≤ 13
  | 0, _, _, h => h
  | c + 1, j, s, h => bJ_le c (j + 1) _ (bS_le h)
/-- of the class's memory -/
def CB (w : Nat → Int32) (n : Nat) (a : St) (s : Nat) (M : tb_Mem) : Prop := BK (a 0 0) a M 4 ∧ CW w n M ∧ M 240 4 = nI s
theorem bc_in {w : Nat → Int32} {n : Nat} {a : St} {i : Nat} {K : Int32 → Int32 → tb_Mem → Option (Int32 × tb_Mem)} (hn1 : 1 ≤ n) (hn : n ≤ 12) (hg : sGood a) (hi : i < a 0 0) : ∀ (c m j : Nat) (s : Int32 × Nat) (M : tb_Mem), j + c = a 0 0 → c < m → (1 ≤ s.2 ∧ s.2 ≤ 13) → CB w n a s.2 M → ∃ M', Sc M M' ∧ CB w n a (bJ w n a i c j s).2 M' ∧ fX3_bestSwap_L52 4 K m s.1 (nI i) (nI j) M = K (bJ w n a i c j s).1 (nI (i + 1)) M' := by
  have hn8 := hg.1.1
  intro c
  induction c with
  | zero =>
    intro m j s M h1 h2 hs hC
    obtain ⟨m, rfl⟩ : ∃ k, m = k + 1 := ⟨m - 1, by omega⟩
    refine ⟨M, Sc.rf, hC, ?_⟩
    rw [fX3_bestSwap_L52, show M 4 8 = nI (a 0 0) from hC.1.1, if_pos (by rw [nI_leI (by omega) (by omega)]; omega), nI_1]
    rfl
  | succ c ih =>
    intro m j s M h1 h2 hs hC
    obtain ⟨m, rfl⟩ : ∃ k, m = k + 1 := ⟨m - 1, by omega⟩
    obtain ⟨hb, hw, h4⟩ := hC
    obtain ⟨M1, e1, b1, f1, -, -⟩ := M_bec (p := 241) (p1 := 4) hn8 hb (by omega)
    obtain ⟨M2, e2, b2, f2, -⟩ := M_swap hg.1 b1 hi (show j < a 0 0 by omega)
    have gs := sSwap_good hg hi (show j < a 0 0 by omega)
    have f12 := f1.trans f2
    have w2 : CW w n M2 := hw.fr (by rw [f12 240 (by omega)]) (f12 259 (by omega))
    have hfp := fpx_ok w n (sSwap a i j)
    obtain ⟨M3, e3, f3⟩ := lpace_ok (M := M2) (s := s.2 - 1) (b := sSwap a i j) hn1 hn (by omega) gs (hfp.less (by omega)) (by rw [(lkSwap _ _ _).1]; exact b2) w2
    have s3 : Sc M M3 := (Sc.f241 f12).tr (Sc.f250 f3)
    have h43 : M3 240 = M 240 := by rw [f3 240 (by omega), f12 240 (by omega)]
    have w3 : CW w n M3 := w2.fr (by rw [f3 240 (by omega)]) (f3 259 (by omega))
    have q4 : M2 240 4 - 1 = nI (s.2 - 1) := by rw [f12 240 (by omega), h4, zl1, pk_sub (by omega)]
    have head : fX3_bestSwap_L52 4 K (m + 1) s.1 (nI i) (nI j) M = (if pv (if fpx w n (sSwap a i j) ≤ s.2 - 1 then fpx w n (sSwap a i j) else 0) = (-1000000) then (fX3_bestSwap_L52 4 K m s.1 (nI i) (nI (j + 1)) M3) else (tb_let (tb_up M3 240 4 (pv (if fpx w n (sSwap a i j) ≤ s.2 - 1 then fpx w n (sSwap a i j) else 0))) (fun M19 => fX3_bestSwap_L52 4 K m ((10 * nI i) + nI j) (nI i) (nI (j + 1)) M19))) := by
      rw [fX3_bestSwap_L52, show M 4 8 = nI (a 0 0) from hb.1, if_neg (by rw [nI_leI (by omega) (by omega)]; omega), e1, tb_b1_some, e2, tb_b1_some, q4, e3, tb_b2_some, nI_1]
    have hle := hfp.le
    rw [head]
    by_cases hc : fpx w n (sSwap a i j) ≠ 0 ∧ fpx w n (sSwap a i j) < s.2
    · have hle2 : fpx w n (sSwap a i j) ≤ s.2 - 1 := by have := hc.2; omega
      have hS : bS w n a i j s = (nI (10 * i + j), fpx w n (sSwap a i j)) := if_pos hc
      rw [if_pos hle2, if_neg (fun z => hc.1 ((pv_none (by omega)).mp z)), tb_let_eq]
      obtain ⟨M4, s4, c4, e4⟩ := ih m (j + 1) (bS w n a i j s) (tb_up M3 240 4 (pv (fpx w n (sSwap a i j)))) (by omega) (by omega) (bS_le hs) ⟨(hb.sc s3).fr (fun q q1 q2 => tb_up_ne (by omega)), ⟨by rw [tb_up_same, upd_other _ _ _ (by omega)]; exact w3.1, fun u hu => by rw [tb_up_ne (by omega)]; exact w3.2 u hu⟩, by rw [tb_up_same, upd_same, hS]; unfold pv; rw [if_neg hc.1]⟩
      refine ⟨M4, (s3.tr (fun q hq => tb_up_ne (by unfold Scr at hq; omega))).tr s4, c4, ?_⟩
      rw [show (10 : Int32) = nI 10 from rfl, pk_mul, nI_add]
      rw [hS] at e4
      rw [e4, ← hS]
      rfl
    · have hS : bS w n a i j s = s := if_neg hc
      have hz : (if fpx w n (sSwap a i j) ≤ s.2 - 1 then fpx w n (sSwap a i j) else 0) = 0 := by
        by_cases hq : fpx w n (sSwap a i j) ≤ s.2 - 1
        · rw [if_pos hq]
          by_cases h0 : fpx w n (sSwap a i j) = 0
          · exact h0
          · exact absurd ⟨h0, by omega⟩ hc
        · rw [if_neg hq]
      rw [hz, if_pos ((pv_none (by omega)).mpr rfl)]
      obtain ⟨M4, s4, c4, e4⟩ := ih m (j + 1) s M3 (by omega) (by omega) hs ⟨hb.sc s3, w3, by rw [h43]; exact h4⟩
      refine ⟨M4, s3.tr s4, ?_, ?_⟩
      · show CB w n a (bJ w n a i c (j + 1) (bS w n a i j s)).2 M4
        rw [hS]; exact c4
      · rw [e4]
        show _ = K (bJ w n a i c (j + 1) (bS w n a i j s)).1 _ _
        rw [hS]
theorem bc_out {w : Nat → Int32} {n : Nat} {a : St} (hn1 : 1 ≤ n) (hn : n ≤ 12) (hg : sGood a) : ∀ (c m i : Nat) (s : Int32 × Nat) (M : tb_Mem), i + c = a 0 0 → c < m → (1 ≤ s.2 ∧ s.2 ≤ 13) → CB w n a s.2 M → ∃ M', Sc M M' ∧ CB w n a (bO w n a c i s).2 M' ∧ fX3_bestSwap_L37 4 m s.1 (nI i) M = some ((bO w n a c i s).1, M') := by
  have hn8 := hg.1.1
  intro c
  induction c with
  | zero =>
    intro m i s M h1 h2 hs hC
    obtain ⟨m, rfl⟩ : ∃ k, m = k + 1 := ⟨m - 1, by omega⟩
    refine ⟨M, Sc.rf, hC, ?_⟩
    rw [fX3_bestSwap_L37, show M 4 8 = nI (a 0 0) from hC.1.1, if_pos (by rw [nI_leI (by omega) (by omega)]; omega)]
    rfl
  | succ c ih =>
    intro m i s M h1 h2 hs hC
    obtain ⟨m, rfl⟩ : ∃ k, m = k + 1 := ⟨m - 1, by omega⟩
    obtain ⟨M1, s1, c1, e1⟩ := bc_in (K := fun z2 z4 M => fX3_bestSwap_L37 4 m z2 z4 M) hn1 hn hg (show i < a 0 0 by omega) c tb_N (i + 1) s M (by omega) (by unfold tb_N; omega) hs hC
    obtain ⟨M2, s2, c2, e2⟩ := ih m (i + 1) (bJ w n a i c (i + 1) s) M1 (by omega) (by omega) (bJ_le c (i + 1) s hs) c1
    refine ⟨M2, s1.tr s2, c2, ?_⟩
    rw [fX3_bestSwap_L37, show M 4 8 = nI (a 0 0) from hC.1.1, if_neg (by rw [nI_leI (by omega) (by omega)]; omega), nI_1, e1, e2]
    rfl
/-- the reference: the least so far -/
def lv13 (s : Nat) : Int32 := if s = 13 then -1000000 else nI s
theorem lv13_none {s : Nat} (h : s ≤ 13) : lv13 s = -1000000 ↔ s = 13 := by
  unfold lv13
  by_cases h0 : s = 13
  · rw [if_pos h0]; simp [h0]
  · rw [if_neg h0]
    refine ⟨fun z => ?_, fun z => absurd z h0⟩
    have := congrArg Int32.toInt z
    rw [nI_toInt (by omega)] at this
    have e : (-1000000 : Int32).toInt = -1000000 := by decide
    omega
theorem bd_in {w : Nat → Int32} {n o r i0 : Nat} {a : St} {i : Nat} {x4 : Int32} {K : Int32 → Int32 → Int32 → Int32 → Int32 → Int32 → Int32 → tb_Mem → Option (Int32 × tb_Mem)} (hn1 : 1 ≤ n) (hn : n ≤ 12) (ho : o + n ≤ 320) (hoe : o = 40 * r + i0) (hg : sGood a) (hi : i < a 0 0) : ∀ (c m j : Nat) (s : Int32 × Nat) (M : tb_Mem), j + c = a 0 0 → c < m → (1 ≤ s.2 ∧ s.2 ≤ 13) → RM a (M 303) → (∀ j, j < n → M 300 (o + j) = w j) → ∃ M', Fq 308 M M' ∧ fX7_better_L113 K m (nI r) (nI i0) (nI n) x4 (lv13 s.2) s.1 (nI i) (nI j) M = K (nI r) (nI i0) (nI n) x4 (lv13 (bJ w n a i c j s).2) (bJ w n a i c j s).1 (nI (i + 1)) M' := by
  have hn8 := hg.1.1
  intro c
  induction c with
  | zero =>
    intro m j s M h1 h2 hs hm hw
    obtain ⟨m, rfl⟩ : ∃ k, m = k + 1 := ⟨m - 1, by omega⟩
    refine ⟨M, Fq.rf, ?_⟩
    rw [fX7_better_L113, hm.1, if_pos (by rw [nI_leI (by omega) (by omega)]; omega), nI_1]
    rfl
  | succ c ih =>
    intro m j s M h1 h2 hs hm hw
    obtain ⟨m, rfl⟩ : ∃ k, m = k + 1 := ⟨m - 1, by omega⟩
    have hfp := fpx_ok w n (sSwap a i j)
    have hle := hfp.le
    obtain ⟨M1, e1, f1⟩ := pB_ok (e := some (i, j)) (a := a) (M := M) hn1 hn ho hg ⟨hi, by omega⟩ hfp hm hw
    have e1 : fX7_paceBy (nI o) (nI n) (nI i) (nI j) M = some (pv (fpx w n (sSwap a i j)), M1) := e1
    have hm1 : RM a (M1 303) := by rw [f1 303 (by omega)]; exact hm
    have hw1 : ∀ j, j < n → M1 300 (o + j) = w j := fun j hj => by rw [f1 300 (by omega)]; exact hw j hj
    have e40 : (40 : Int32) * nI r + nI i0 = nI o := by rw [hoe, show (40 : Int32) = nI 40 from rfl, pk_mul, nI_add]
    have e10 : (10 : Int32) * nI i + nI j = nI (10 * i + j) := by rw [show (10 : Int32) = nI 10 from rfl, pk_mul, nI_add]
    have head : fX7_better_L113 K (m + 1) (nI r) (nI i0) (nI n) x4 (lv13 s.2) s.1 (nI i) (nI j) M = fX7_better_L113 K m (nI r) (nI i0) (nI n) x4 (lv13 (bS w n a i j s).2) (bS w n a i j s).1 (nI i) (nI (j + 1)) M1 := by
      rw [fX7_better_L113, hm.1, if_neg (by rw [nI_leI (by omega) (by omega)]; omega), e40, e1, tb_b2_some, nI_1, e10]
      have pz := pv_none (r := fpx w n (sSwap a i j)) (by omega)
      have lz := lv13_none hs.2
      by_cases h0 : fpx w n (sSwap a i j) = 0
      · rw [if_pos (pz.mpr h0), show bS w n a i j s = s from if_neg (fun z => z.1 h0)]
      · rw [if_neg (fun z => h0 (pz.mp z))]
        have hpv : pv (fpx w n (sSwap a i j)) = nI (fpx w n (sSwap a i j)) := by unfold pv; rw [if_neg h0]
        have hlv : lv13 (fpx w n (sSwap a i j)) = nI (fpx w n (sSwap a i j)) := by unfold lv13; rw [if_neg (by omega)]
        by_cases h13 : s.2 = 13
        · rw [if_pos (lz.mpr h13), show bS w n a i j s = (nI (10 * i + j), fpx w n (sSwap a i j)) from if_pos ⟨h0, by omega⟩, hpv, hlv]
        · have hls : lv13 s.2 = nI s.2 := by unfold lv13; rw [if_neg h13]
          rw [if_neg (fun z => h13 (lz.mp z)), hpv]
          by_cases hl : s.2 ≤ fpx w n (sSwap a i j)
          · rw [if_pos (by rw [hls, nI_leI (by omega) (by omega)]; exact hl), show bS w n a i j s = s from if_neg (fun z => by have := z.2; omega)]
          · rw [if_neg (by rw [hls, nI_leI (by omega) (by omega)]; exact hl), show bS w n a i j s = (nI (10 * i + j), fpx w n (sSwap a i j)) from if_pos ⟨h0, by omega⟩, hlv]
    obtain ⟨M2, f2, e2⟩ := ih m (j + 1) (bS w n a i j s) M1 (by omega) (by omega) (bS_le hs) hm1 hw1
    exact ⟨M2, f1.trans f2, by rw [head, e2]; rfl⟩
theorem bd_out {w : Nat → Int32} {n o r i0 : Nat} {a : St} {x4 : Int32} (hn1 : 1 ≤ n) (hn : n ≤ 12) (ho : o + n ≤ 320) (hoe : o = 40 * r + i0) (hg : sGood a) : ∀ (c m i : Nat) (s : Int32 × Nat) (M : tb_Mem), i + c = a 0 0 → c < m → (1 ≤ s.2 ∧ s.2 ≤ 13) → RM a (M 303) → (∀ j, j < n → M 300 (o + j) = w j) → ∃ M', Fq 308 M M' ∧ fX7_better_L95 m (nI r) (nI i0) (nI n) x4 (lv13 s.2) s.1 (nI i) M = tb_b2 (fX7_ends ((if (bO w n a c i s).1 = (-1000000) then (bO w n a c i s).1 else (if x4 = 0 then (bO w n a c i s).1 else lv13 (bO w n a c i s).2)) : Int32) M') (fun r37 M35 => some (r37, M35)) := by
  have hn8 := hg.1.1
  intro c
  induction c with
  | zero =>
    intro m i s M h1 h2 hs hm hw
    obtain ⟨m, rfl⟩ : ∃ k, m = k + 1 := ⟨m - 1, by omega⟩
    refine ⟨M, Fq.rf, ?_⟩
    rw [fX7_better_L95, hm.1, if_pos (by rw [nI_leI (by omega) (by omega)]; omega)]
    rfl
  | succ c ih =>
    intro m i s M h1 h2 hs hm hw
    obtain ⟨m, rfl⟩ : ∃ k, m = k + 1 := ⟨m - 1, by omega⟩
    obtain ⟨M1, f1, e1⟩ := bd_in (x4 := x4) (K := fun z1 z2 z3 z4 z5 z6 z7 M => fX7_better_L95 m z1 z2 z3 z4 z5 z6 z7 M) hn1 hn ho hoe hg (show i < a 0 0 by omega) c tb_N (i + 1) s M (by omega) (by unfold tb_N; omega) hs hm hw
    obtain ⟨M2, f2, e2⟩ := ih m (i + 1) (bJ w n a i c (i + 1) s) M1 (by omega) (by omega) (bJ_le c (i + 1) s hs) (by rw [f1 303 (by omega)]; exact hm) (fun j hj => by rw [f1 300 (by omega)]; exact hw j hj)
    refine ⟨M2, f1.trans f2, ?_⟩
    rw [fX7_better_L95, hm.1, if_neg (by rw [nI_leI (by omega) (by omega)]; omega), nI_1, e1, e2]
    rfl

theorem bJ_v {w : Nat → Int32} {n : Nat} {a : St} {i : Nat} (hi : i ≤ 8) : ∀ (c j : Nat) (s : Int32 × Nat), j + c ≤ 8 → (s.1 = -1000000 ∨ (s.2 ≤ 12 ∧ ∃ u, u ≤ 100 ∧ s.1 = nI u)) → ((bJ w n a i c j s).1 = -1000000 ∨ ((bJ w n a i c j s).2 ≤ 12 ∧ ∃ u, u ≤ 100 ∧ (bJ w n a i c j s).1 = nI u))
  | 0, _, _, _, h => h
  | c + 1, j, s, hj, h => by
    refine bJ_v hi c (j + 1) (bS w n a i j s) (by omega) ?_
    unfold bS
    by_cases hc : fpx w n (sSwap a i j) ≠ 0 ∧ fpx w n (sSwap a i j) < s.2
    · rw [if_pos hc]
      exact Or.inr ⟨(fpx_ok w n (sSwap a i j)).le, 10 * i + j, by omega, rfl⟩
    · rw [if_neg hc]; exact h
theorem bO_v {w : Nat → Int32} {n : Nat} {a : St} : ∀ (c i : Nat) (s : Int32 × Nat), i + c ≤ 8 → (s.1 = -1000000 ∨ (s.2 ≤ 12 ∧ ∃ u, u ≤ 100 ∧ s.1 = nI u)) → ((bO w n a c i s).1 = -1000000 ∨ ((bO w n a c i s).2 ≤ 12 ∧ ∃ u, u ≤ 100 ∧ (bO w n a c i s).1 = nI u))
  | 0, _, _, _, h => h
  | c + 1, i, s, hj, h => bO_v c (i + 1) _ (by omega) (bJ_v (by omega) c (i + 1) s (by omega) h)
theorem s_better (x y z t : Int32) : Sim (fX6_better x y z t) (fX7_better x y z t) := by
  intro M h
  obtain ⟨⟨a, ⟨hg, hb, hm, ht⟩, -⟩, -⟩ := id h
  have hn := hg.1.1
  unfold fX6_better fX7_better
  by_cases h1 : inV x 0 7 = 0
  · exact ⟨_, M, M, by rw [isRow6, tb_b2_some, if_pos h1], by rw [isRow7, tb_b2_some, if_pos h1], h⟩
  by_cases h2 : inV z 1 12 = 0
  · exact ⟨_, M, M, by rw [isRow6, tb_b2_some, if_neg h1, within_ok, tb_b2_some, if_pos h2], by rw [isRow7, tb_b2_some, if_neg h1, in_ok, tb_b2_some, if_pos h2], h⟩
  by_cases h3 : inV t 0 1 = 0
  · exact ⟨_, M, M, by rw [isRow6, tb_b2_some, if_neg h1, within_ok, tb_b2_some, if_neg h2, within_ok, tb_b2_some, if_pos h3], by rw [isRow7, tb_b2_some, if_neg h1, in_ok, tb_b2_some, if_neg h2, in_ok, tb_b2_some, if_pos h3], h⟩
  by_cases h0 : a 0 0 = 0
  · exact ⟨_, M, M, by rw [isRow6, tb_b2_some, if_neg h1, within_ok, tb_b2_some, if_neg h2, within_ok, tb_b2_some, if_neg h3, if_pos ((noBask hn hb).mpr h0)], by rw [isRow7, tb_b2_some, if_neg h1, in_ok, tb_b2_some, if_neg h2, in_ok, tb_b2_some, if_neg h3, isBask hn hm, tb_b2_some, if_pos h0, if_pos rfl], h⟩
  have z0 := fun z => h0 ((noBask hn hb).mp z)
  obtain ⟨r, hr, hx⟩ := isRow_1 h1
  obtain ⟨n, n1, n2, hz⟩ := inV_1 (l := 1) (h := 12) (by omega) (by omega) h2
  have hin : tb_in x 8 = true := by rw [hx]; exact tb_in_t hr (by omega)
  have hcl : x.toNatClampNeg = r := by rw [hx]; exact nI_clamp (by omega)
  have hrow := h.2.2.1 r hr
  have up9 : ∀ (v : Int32), RM a (tb_up M 0 9 v 303) := fun v => by rw [tb_up_ne (by omega)]; exact hm
  rcases row_cases hrow hr x hx y z with ⟨c1, c2, c3⟩ | ⟨c1, c2, c3, ⟨c4, c5, c6⟩ | ⟨c4, c5, c6, i, k, len, c7, c8, c9, c10, c11, c12⟩⟩
  · exact ⟨_, _, _, by rw [isRow6, tb_b2_some, if_neg h1, within_ok, tb_b2_some, if_neg h2, within_ok, tb_b2_some, if_neg h3, if_neg z0, c3, tb_b2_some, if_neg (by decide), found1, tb_b2_some], by rw [isRow7, tb_b2_some, if_neg h1, in_ok, tb_b2_some, if_neg h2, in_ok, tb_b2_some, if_neg h3, isBask hn (up9 1), tb_b2_some, if_neg h0, if_neg (by decide), hin, tb_ck_t, hcl, tb_up_ne (by omega), c2, if_neg (by decide), ends_f (k := 1) (by decide) (by decide), tb_b2_some]; rfl, stt_inv h 1⟩
  · exact ⟨_, _, _, by rw [isRow6, tb_b2_some, if_neg h1, within_ok, tb_b2_some, if_neg h2, within_ok, tb_b2_some, if_neg h3, if_neg z0, c5, tb_b2_some, if_neg (by decide), found2, tb_b2_some], by rw [isRow7, tb_b2_some, if_neg h1, in_ok, tb_b2_some, if_neg h2, in_ok, tb_b2_some, if_neg h3, isBask hn (up9 2), tb_b2_some, if_neg h0, if_neg (by decide), hin, tb_ck_t, hcl, tb_up_ne (by omega), if_pos c2, c6 _ (tb_up_ne (by omega)), tb_b2_some, if_pos rfl, ends_f (k := 2) (by decide) (by decide), tb_b2_some]; rfl, stt_inv h 2⟩
  · have kn : k = n := nI_inj (by rw [Nat.pow_succ] at *; omega) (by omega) (by rw [← c10, hz])
    subst kn
    rcases hrow with ⟨d1, d2⟩ | ⟨d1, d2, d3, d4⟩
    · rw [d1] at c1; exact absurd c1 (by decide)
    obtain ⟨M1, e1, w1, f1⟩ := hear_ok hr n2 c8 c7 c12
    have s1 : Sc M M1 := Sc.hear f1
    obtain ⟨M2, e2, b2, f2, -, -⟩ := M_bec (p := 241) (p1 := 4) hn (hb.sc s1) (by omega)
    have hrr := fpx_ok (fun j => M (263 + 2 * r + 1) (i + j)) k a
    have hle := hrr.le
    have w2 := w1.fr (M' := M2) (by rw [f2 240 (by omega)]) (f2 259 (by omega))
    obtain ⟨M3, e3, f3⟩ := lpace_ok (M := M2) (s := 12) (b := a) n1 n2 (by omega) hg hrr b2 w2
    have w3 := w2.fr (M' := M3) (by rw [f3 240 (by omega)]) (f3 259 (by omega))
    have s3 : Sc M M3 := (s1.tr (Sc.f241 f2)).tr (Sc.f250 f3)
    generalize hr0 : fpx (fun j => M (263 + 2 * r + 1) (i + j)) k a = rr at hrr e3 hle
    have hb0 : (if pv rr = (-1000000) then (13 : Int32) else pv rr) = nI (if rr = 0 then 13 else rr) := by
      by_cases hq : rr = 0
      · rw [if_pos ((pv_none (by omega)).mpr hq), if_pos hq]; rfl
      · rw [if_neg (fun z => hq ((pv_none (by omega)).mp z)), if_neg hq]; unfold pv; rw [if_neg hq]
    have hlv0 : pv rr = lv13 (if rr = 0 then 13 else rr) := by
      by_cases hq : rr = 0
      · rw [if_pos hq, hq]; rfl
      · rw [if_neg hq]; unfold pv lv13; rw [if_neg hq, if_neg (by omega)]
    have hs0 : 1 ≤ (if rr = 0 then 13 else rr) ∧ (if rr = 0 then 13 else rr) ≤ 13 := by
      split <;> omega
    generalize (if rr = 0 then 13 else rr) = s0 at hb0 hlv0 hs0
    obtain ⟨M4, s4, c4', e4⟩ := bc_out (w := fun j => M (263 + 2 * r + 1) (i + j)) n1 n2 hg (a 0 0) tb_N 0 (-1000000, s0) (tb_up M3 240 4 (nI s0)) (by omega) (by unfold tb_N; omega) hs0 ⟨(hb.sc s3).fr (fun q q1 q2 => tb_up_ne (by omega)), ⟨by rw [tb_up_same, upd_other _ _ _ (by omega)]; exact w3.1, fun u hu => by rw [tb_up_ne (by omega)]; exact w3.2 u hu⟩, by rw [tb_up_same, upd_same]⟩
    have sC : Sc M M4 := (s3.tr (fun q hq => tb_up_ne (by unfold Scr at hq; omega))).tr s4
    have e4 : fX3_bestSwap_L37 4 tb_N (-1000000) 0 (tb_up M3 240 4 (nI s0)) = _ := e4
    have eB : fX3_bestSwap 4 M1 = some ((bO (fun j => M (263 + 2 * r + 1) (i + j)) k a (a 0 0) 0 (-1000000, s0)).1, M4) := by
      unfold fX3_bestSwap
      rw [e2, tb_b1_some, show (12 : Int32) = nI 12 from rfl, e3, tb_b2_some, hb0, tb_let_eq, e4]
    have hv := bO_v (w := fun j => M (263 + 2 * r + 1) (i + j)) (n := k) (a := a) (a 0 0) 0 (-1000000, s0) (by omega) (Or.inl rfl)
    have sU : ∀ q, q ≠ 0 → ¬ Scr q → tb_up M4 0 9 0 q = M q := fun q q0 q1 => by rw [tb_up_ne q0, sC q q1]
    have hmU : RM a (tb_up M4 0 9 0 303) := by rw [sU 303 (by omega) (by unfold Scr; omega)]; exact hm
    have hwU : ∀ j, j < k → tb_up M4 0 9 0 300 (40 * r + i + j) = M (263 + 2 * r + 1) (i + j) := fun j hj => by
      rw [sU 300 (by omega) (by unfold Scr; omega), d3 (i + j) (by omega), Nat.add_assoc]
    have hrr' : FP (fun p => gP (fun j => M (263 + 2 * r + 1) (i + j)) k p (sHn (xB a none)) (k - 1) (xB a none)) 12 rr := hrr
    obtain ⟨M5, e5, f5⟩ := pB_ok (M := tb_up M4 0 9 0) (o := 40 * r + i) (e := none) (a := a) n1 n2 (by omega) hg trivial hrr' hmU hwU
    have e5 : fX7_paceBy (nI (40 * r + i)) (nI k) (-1) (-1) (tb_up M4 0 9 0) = some (pv rr, M5) := e5
    obtain ⟨M6, f6, e6⟩ := bd_out (w := fun j => M (263 + 2 * r + 1) (i + j)) (x4 := t) (r := r) (i0 := i) (o := 40 * r + i) n1 n2 (by omega) rfl hg (a 0 0) tb_N 0 (-1000000, s0) M5 (by omega) (by unfold tb_N; omega) hs0 (by rw [f5 303 (by omega)]; exact hmU) (fun j hj => by rw [f5 300 (by omega)]; exact hwU j hj)
    have e6 : fX7_better_L95 tb_N (nI r) (nI i) (nI k) t (lv13 s0) (-1000000) 0 M5 = _ := e6
    have e40 : (40 : Int32) * x + y = nI (40 * r + i) := by rw [hx, c9, show (40 : Int32) = nI 40 from rfl, pk_mul, nI_add]
    have h44 : M4 240 4 = nI (bO (fun j => M (263 + 2 * r + 1) (i + j)) k a (a 0 0) 0 (-1000000, s0)).2 := c4'.2.2
    generalize bO (fun j => M (263 + 2 * r + 1) (i + j)) k a (a 0 0) 0 (-1000000, s0) = st at eB hv e6 h44
    have hval : ∃ v : Int32, v = (if st.1 = (-1000000) then st.1 else (if t = 0 then st.1 else lv13 st.2)) ∧ inV v (-1000015) (-1000011) = 0 ∧ (if st.1 = (-1000000) then (tb_b2 (fX6_fine st.1 M4) (fun r27 M25 => some (r27, M25))) else (if t = 0 then (tb_b2 (fX6_fine st.1 M4) (fun r34 M32 => some (r34, M32))) else (tb_b2 (fX6_fine (M4 240 4) M4) (fun r31 M29 => some (r31, M29))))) = some (v, tb_up M4 0 9 0) := by
      refine ⟨_, rfl, ?_, ?_⟩
      · by_cases q1 : st.1 = -1000000
        · rw [if_pos q1, q1]; decide
        · rw [if_neg q1]
          rcases hv with hv | ⟨v1, u, u1, u2⟩
          · exact absurd hv q1
          · by_cases q2 : t = 0
            · rw [if_pos q2, u2]; exact inV_nI (by omega)
            · rw [if_neg q2]; unfold lv13; rw [if_neg (by omega)]; exact inV_nI (by omega)
      · by_cases q1 : st.1 = -1000000
        · rw [if_pos q1, if_pos q1, fine_ok, tb_b2_some]
        · rw [if_neg q1, if_neg q1]
          rcases hv with hv | ⟨v1, u, u1, u2⟩
          · exact absurd hv q1
          · by_cases q2 : t = 0
            · rw [if_pos q2, if_pos q2, fine_ok, tb_b2_some]
            · rw [if_neg q2, if_neg q2, fine_ok, tb_b2_some, h44]; unfold lv13; rw [if_neg (by omega)]
    obtain ⟨v, v1, v2, v3⟩ := hval
    refine ⟨v, tb_up M4 0 9 0, tb_up M6 297 4 0, ?_, ?_, fin_ok h sC (Sc.f308 (f5.trans f6))⟩
    · rw [isRow6, tb_b2_some, if_neg h1, within_ok, tb_b2_some, if_neg h2, within_ok, tb_b2_some, if_neg h3, if_neg z0, c5, tb_b2_some, if_pos rfl, hin, tb_ck_t, hcl, c9, hz, e1, tb_b1_some, eB, tb_b2_some]
      exact v3
    · rw [isRow7, tb_b2_some, if_neg h1, in_ok, tb_b2_some, if_neg h2, in_ok, tb_b2_some, if_neg h3, isBask hn hmU, tb_b2_some, if_neg h0, if_neg (by decide), hin, tb_ck_t, hcl, sU 298 (by omega) (by unfold Scr; omega), if_pos c2, c6 _ (sU 298 (by omega) (by unfold Scr; omega)), tb_b2_some, if_neg (by decide), e40, hz, e5, tb_b2_some, hlv0, hx, c9, e6, ← v1, ends_0 v2, tb_b2_some]

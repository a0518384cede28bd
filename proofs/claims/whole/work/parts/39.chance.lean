/-! how likely -/
theorem iF : (if false = true then (1 : Int32) else 0) = 0 := rfl
theorem iT : (if true = true then (1 : Int32) else 0) = 1 := rfl
def mvB (a : St) (i : Nat) : Bool := decide (i < a 0 0) && sMv a i
def fK (S b : Nat) : Nat → Bool := fun j => decide (j < b) && S.testBit j
def subS (a : St) (S : Nat) : Prop := ∀ i, i < 8 → S.testBit i = true → mvB a i = true
def clrS (a : St) (N S : Nat) : Prop := hNo (sTn (sLay a (fK S (a 0 0))) N)
noncomputable def tS (a : St) (N c S : Nat) : Nat := @ite Nat (subS a S ∧ clrS a N S) (Classical.propDecidable _) (tW (sMv a) c S (a 0 0)) 0
theorem sub_test {a : St} {S : Nat} {x : Int32} (hn : a 0 0 ≤ 8) (h : Mk x (sMv a) (a 0 0)) (hS : S < 256) : (nI S &&& (x ^^^ (-1))) = 0 ↔ subS a S := by
  rw [((Mk.nI S hS).andn (h.to8 hn)).eq0 (by omega)]
  unfold subS mvB
  constructor
  · intro z i hi hs
    have := z i hi
    rw [hs] at this
    simpa using this
  · intro z i hi
    have := z i hi
    cases hs : S.testBit i with
    | false => simp
    | true => rw [this hs]; simp
theorem sub_mk {a : St} {S : Nat} (hn : a 0 0 ≤ 8) (hS : S < 256) (h : subS a S) : Mk (nI S) (fK S (a 0 0)) (a 0 0) := fun i hi => by
  rw [bt_nI S i hi]
  unfold fK
  by_cases h1 : i < a 0 0
  · simp [h1]
  · simp only [h1, decide_false, Bool.false_and]
    by_cases h8 : i < 8
    · cases hs : S.testBit i with
      | false => rfl
      | true =>
        have := h i h8 hs
        unfold mvB at this
        simp [h1] at this
    · exact Nat.testBit_lt_two_pow (Nat.lt_of_lt_of_le hS (Nat.pow_le_pow_right (n := 2) (by omega) (show 8 ≤ i by omega)))
theorem hNo_iff {b : St} {x : Int32} {n : Nat} (h0 : b 0 0 = n) (h : Mk x (sHn b) n) (hn : n ≤ 32) : x = 0 ↔ hNo b := by
  rw [h.eq0 hn]
  unfold hNo
  rw [h0]
theorem tS_no {a : St} {N c S : Nat} (h : ¬ subS a S) : tS a N c S = 0 := if_neg (fun z => h z.1)
theorem ways_c {a : St} {N c mN : Nat} (hg : sGood a) (hN : N ≤ 100) (hc : c ≤ 10) (hmN : mN < 256) : ∀ (cnt m S : Nat) (M : tb_Mem), S + cnt = mN + 1 → cnt < m → BK (a 0 0) a M 4 → M 4 9 = nI mN → ∃ M', fX3_waysClear_L6 4 m (nI N) (nI c) (lN (sumN (tS a N c) S)) (nI S) M = some (lN (sumN (tS a N c) (mN + 1)), M') ∧ Sc M M' := by
  have hn := hg.1.1
  intro cnt
  induction cnt with
  | zero =>
    intro m S M h1 h2 hb h9
    obtain ⟨m, rfl⟩ : ∃ k, m = k + 1 := ⟨m - 1, by omega⟩
    have : S = mN + 1 := by omega
    subst this
    exact ⟨M, by rw [fX3_waysClear_L6, h9, if_pos (by rw [nI_ltI (by omega) (by omega)]; omega)], Sc.rf⟩
  | succ cnt ih =>
    intro m S M h1 h2 hb h9
    obtain ⟨m, rfl⟩ : ∃ k, m = k + 1 := ⟨m - 1, by omega⟩
    have hmk : Mk (M 4 9) (sMv a) (a 0 0) := hb.2.2.1
    have q : ¬ nI mN < nI S := by rw [nI_ltI (by omega) (by omega)]; omega
    have sx := sub_test (S := S) hn hmk (by omega)
    rw [h9] at sx
    have hsum : sumN (tS a N c) (S + 1) = sumN (tS a N c) S + tS a N c S := rfl
    rw [fX3_waysClear_L6, h9, if_neg q]
    by_cases hs : subS a S
    · have hk := sub_mk hn (show S < 256 by omega) hs
      obtain ⟨M1, e1, b1, f1, -, -⟩ := M_bec (p := 241) (p1 := 4) hn hb (by omega)
      obtain ⟨M2, e2, b2, f2, -⟩ := M_lay hg.1 b1 hk
      have gL : sGood (sLay a (fK S (a 0 0))) := sLay_good hg
      have nL : sLay a (fK S (a 0 0)) 0 0 = a 0 0 := (lkLay _ _).1
      obtain ⟨M3, e3, b3, f3⟩ := M_foresee gL (by rw [nL]; exact b2) N hN
      have f13 := (f1.trans f2).trans f3
      have k9 : Mk (M2 241 9) (sMv (sLay a (fK S (a 0 0)))) (a 0 0) := by
        have : Mk (M2 241 9) (sMv (sLay a (fK S (a 0 0)))) (sLay a (fK S (a 0 0)) 0 0) := b2.2.2.1
        rw [nL] at this; exact this
      have nT : sTn (sLay a (fK S (a 0 0))) N 0 0 = a 0 0 := by rw [sTn_0, nL]
      have k10 : Mk (M3 241 10) (sHn (sTn (sLay a (fK S (a 0 0))) N)) (a 0 0) := by
        have q : Mk (M3 241 10) (sHn (sTn (sLay a (fK S (a 0 0))) N)) (sTn (sLay a (fK S (a 0 0))) N 0 0) := b3.2.2.2.1
        rw [nT] at q; exact q
      have s3 : Sc M M3 := Sc.f241 f13
      have hcl := hNo_iff nT k10 (by omega)
      have c1 := fb_ct_le (fK S (a 0 0)) (a 0 0)
      have c2 := fb_ct_le (sMv (sLay a (fK S (a 0 0)))) (a 0 0)
      obtain ⟨M4, e4, s4⟩ := ih m (S + 1) M3 (by omega) (by omega) (hb.sc s3) (by rw [s3.at 4 (by omega)]; exact h9)
      refine ⟨M4, ?_, s3.tr s4⟩
      rw [if_pos (sx.mpr hs), e1, tb_b1_some, e2, tb_b1_some, bc_any, tb_b2_some, e3, tb_b1_some, k9.pc hn, nI_1]
      by_cases h0 : M3 241 10 = 0
      · have hc10 : (10 : Int32) - nI c = nI (10 - c) := by rw [show (10 : Int32) = nI 10 from rfl, pk_sub (by omega)]
        rw [if_pos h0, bc_any, tb_b2_some, hk.pc hn, power_ok hc (by omega), tb_b2_some, hc10, power_ok (by omega) (by omega), tb_b2_some, lN_mul, lN_add]
        have e5 : c ^ fb_ct (fK S (a 0 0)) (a 0 0) * (10 - c) ^ fb_ct (sMv (sLay a (fK S (a 0 0)))) (a 0 0) = tW (sMv a) c S (a 0 0) := by
          refine tW_pw (fun j hj => by unfold fK; simp [hj]) (fun j hj => ?_) (fun j hj hf => ?_)
          · unfold sMv
            rw [sLay_4]
            cases fK S (a 0 0) j <;> simp
          · have : S.testBit j = true := by unfold fK at hf; simpa [hj] using hf
            have := hs j (by omega) this
            unfold mvB at this
            simpa [hj] using this
        have e6 : tS a N c S = tW (sMv a) c S (a 0 0) := if_pos ⟨hs, hcl.mp h0⟩
        rw [e5, ← e6, ← hsum, e4]
      · have e6 : tS a N c S = 0 := if_neg (fun z => h0 (hcl.mpr z.2))
        rw [if_neg h0]
        rw [hsum, e6, Nat.add_zero] at e4
        exact e4
    · obtain ⟨M4, e4, s4⟩ := ih m (S + 1) M (by omega) (by omega) hb h9
      refine ⟨M4, ?_, s4⟩
      rw [if_neg (fun z => hs (sx.mp z)), nI_1]
      rw [hsum, tS_no hs, Nat.add_zero] at e4
      exact e4
/-! the reference -/
theorem up_eta (M : tb_Mem) (p k : Nat) : tb_up M p k (M p k) = M := by
  unfold tb_up
  have : upd (M p) k (M p k) = M p := by
    funext j
    by_cases h : j = k
    · rw [h, upd_same]
    · rw [upd_other _ _ _ h]
  rw [this, tb_row_self]
theorem RM.lay1 {a : St} {f g : Nat → Bool} {c d : Nat → Int32} {b : Nat} (hn : a 0 0 ≤ 8) (h : RM (sLay a f) c) (hb : b < a 0 0) (h5 : a 5 b = 0) (hg : ∀ j, g j = (f j || decide (j = b))) (d2 : d (2 + b) = -1) (hd : ∀ k, k ≠ 2 + b → d k = c k) : RM (sLay a g) d := by
  have o : ∀ k, k ≠ 4 → k ≠ 5 → sLay a g k = sLay a f k := fun k k4 k5 => by rw [sLay_o k4 k5, sLay_o k4 k5]
  obtain ⟨h1, h2, h3, h4⟩ := h
  refine ⟨?_, fun i hi => ?_, ?_, fun k hk => ?_⟩
  · rw [hd 46 (by omega), o 0 (by omega) (by omega)]; exact h1
  · rw [o 0 (by omega) (by omega)] at hi
    have hi2 : i < a 0 0 := by rw [(lkLay _ _).1] at hi; exact hi
    obtain ⟨g1, g2, g3, g4, g5⟩ := h2 i hi
    unfold RM1
    rw [hd (10 + i) (by omega), hd (18 + i) (by omega), hd (47 + i) (by omega), hd (55 + i) (by omega), o 3 (by omega) (by omega), o 2 (by omega) (by omega), o 1 (by omega) (by omega)]
    refine ⟨?_, ?_, g3, g4, g5⟩
    · rw [sLay_4, hg i]
      by_cases hib : i = b
      · rw [hib, d2]; simp [tm]
      · rw [hd (2 + i) (by omega), g1, sLay_4]; simp [hib]
    · rw [g2, sLay_5, sLay_5, hg i]
      by_cases hib : i = b
      · rw [hib, h5]; simp
      · simp [hib]
  · rw [hd 1 (by omega), o 6 (by omega) (by omega)]; exact h3
  · rw [hd (26 + k) (by omega), o 7 (by omega) (by omega)]; exact h4 k hk
theorem fK_s {S b : Nat} : fK S (b + 1) = fun j => (fK S b j || (decide (j = b) && S.testBit b)) := by
  funext j
  unfold fK
  by_cases h : j = b
  · subst h; simp
  · by_cases h2 : j < b
    · simp [h2, h, show j < b + 1 by omega]
    · simp [h2, h, show ¬ j < b + 1 by omega]
theorem ch_L143 {a : St} {N c S : Nat} {x3 x4 x5 x6 : Int32} {K : Int32 → Int32 → Int32 → Int32 → Int32 → Int32 → Int32 → tb_Mem → Option (Int32 × tb_Mem)} (hg : sGood a) (hc : c ≤ 10) (h4 : Mk x4 (sMv a) (a 0 0)) (hS : S < 256) (hs : subS a S) : ∀ (cnt m b : Nat) (M : tb_Mem), b + cnt = a 0 0 → cnt < m → RM (sLay a (fK S b)) (M 308) → RM a (M 303) → ∃ M', RM (sLay a (fK S (a 0 0))) (M' 308) ∧ Fq 308 M M' ∧ fX7_chance_L143 K m (nI N) (nI c) x3 x4 x5 x6 (nI S) (nI (tW (sMv a) c S b)) (nI b) M = fX7_chance_L233 K tb_N (nI N) (nI c) x3 x4 x5 x6 (nI S) (nI (tW (sMv a) c S (a 0 0))) 0 M' := by
  have hn := hg.1.1
  intro cnt
  induction cnt with
  | zero =>
    intro m b M h1 h2 hm hm0
    obtain ⟨m, rfl⟩ : ∃ k, m = k + 1 := ⟨m - 1, by omega⟩
    have : b = a 0 0 := by omega
    subst this
    exact ⟨M, hm, Fq.rf, by rw [fX7_chance_L143, hm0.1, if_pos (by rw [nI_leI (by omega) (by omega)]; omega)]⟩
  | succ cnt ih =>
    intro m b M h1 h2 hm hm0
    obtain ⟨m, rfl⟩ : ∃ k, m = k + 1 := ⟨m - 1, by omega⟩
    have hb : b < a 0 0 := by omega
    have hmv : bt x4 b = sMv a b := by rw [h4 b (by omega)]; simp [hb]
    have hSb : bt (nI S) b = S.testBit b := bt_nI S b (by omega)
    have hsb : S.testBit b = true → sMv a b = true := fun z => by
      have := hs b (by omega) z
      unfold mvB at this
      simpa [hb] using this
    have htw : tW (sMv a) c S (b + 1) = tW (sMv a) c S b * (if sMv a b = true then (if S.testBit b = true then c else 10 - c) else 1) := by
      show tW (sMv a) c S b * wt (sMv a) c b (S.testBit b) = _
      rw [tW_sub hsb]
    rw [fX7_chance_L143, hm0.1, if_neg (by rw [nI_leI (by omega) (by omega)]; omega), has_ok x4 (by omega), tb_b2_some, hmv, nI_1, zl2, nI_add, tb_in_t (by omega) (by omega), nI_clamp (by omega)]
    have same : S.testBit b = false → RM (sLay a (fK S (b + 1))) (M 308) := fun z => by
      have : fK S (b + 1) = fK S b := by rw [fK_s, z]; funext j; simp
      rw [this]; exact hm
    cases hv : sMv a b with
    | false =>
      have hSf : S.testBit b = false := by
        cases hq : S.testBit b with
        | false => rfl
        | true => rw [hsb hq] at hv; cases hv
      rw [hv] at htw
      obtain ⟨M', m', f', e'⟩ := ih m (b + 1) M (by omega) (by omega) (same hSf) hm0
      refine ⟨M', m', f', ?_⟩
      simp only [Bool.false_eq_true, if_false] at htw
      rw [iF, if_pos rfl, has_ok (nI S) (by omega), tb_b2_some, hSb, hSf, iF, if_pos rfl, tb_ck_t, tb_let_eq, up_eta, zl1, pk_mul, ← htw, e']
    | true =>
      rw [hv] at htw
      simp only [if_true] at htw
      have hc10 : nI 10 - nI c = nI (10 - c) := pk_sub (by omega)
      rw [if_pos rfl, if_neg (by decide), has_ok (nI S) (by omega), tb_b2_some, hSb, tb_let_eq]
      cases hq : S.testBit b with
      | false =>
        rw [hq] at htw
        simp only [Bool.false_eq_true, if_false] at htw
        obtain ⟨M', m', f', e'⟩ := ih m (b + 1) M (by omega) (by omega) (same hq) hm0
        refine ⟨M', m', f', ?_⟩
        rw [iF, if_pos rfl, has_ok (nI S) (by omega), tb_b2_some, hSb, hq, iF, if_pos rfl, tb_ck_t, tb_let_eq, up_eta, show (10 : Int32) = nI 10 from rfl, hc10, pk_mul, ← htw, e']
      | true =>
        rw [hq] at htw
        simp only [if_true] at htw
        have o5 : a 5 b = 0 := by
          have h4b : a 4 b ≠ 0 := by unfold sMv at hv; simpa using hv
          rcases (hg.1.2.1 b hb).2.2.2.2.2.2.2 with z | z
          · exact absurd z h4b
          · exact z
        have hm1 : RM (sLay a (fK S (b + 1))) (tb_up M 308 (2 + b) (-1) 308) := RM.lay1 hn hm hb o5 (fun j => by rw [fK_s, hq]; simp) (by rw [tb_up_same, upd_same]) (fun k hk => by rw [tb_up_same, upd_other _ _ _ hk])
        obtain ⟨M', m', f', e'⟩ := ih m (b + 1) (tb_up M 308 (2 + b) (-1)) (by omega) (by omega) hm1 (by rw [tb_up_ne (by omega)]; exact hm0)
        refine ⟨M', m', Fq.trans (fun q hq => tb_up_ne hq) f', ?_⟩
        rw [if_pos rfl, if_neg (by decide), has_ok (nI S) (by omega), tb_b2_some, hSb, hq, if_pos rfl, if_neg (by decide), tb_ck_t, tb_let_eq, pk_mul, ← htw, e']
theorem ch_L233 {N n t : Nat} {x2 x3 x4 x5 x6 x7 x8 : Int32} {K : Int32 → Int32 → Int32 → Int32 → Int32 → Int32 → Int32 → tb_Mem → Option (Int32 × tb_Mem)} (hN : N ≤ 100) : ∀ (cnt m k : Nat) (b : St) (M : tb_Mem), k + cnt = N → cnt < m → sGood b → RM b (M 308) → ∃ M', Fq 308 M M' ∧ fX7_chance_L233 K m (nI N) x2 x3 x4 x5 x6 x7 x8 (nI k) M = K (nI N) x2 x3 x4 (x5 + (if bI (hNo (sTn b cnt)) = 0 then 0 else x8)) x6 (x7 + 1) M' := by
  intro cnt
  induction cnt with
  | zero =>
    intro m k b M h1 h2 hg hm
    obtain ⟨m, rfl⟩ : ∃ k, m = k + 1 := ⟨m - 1, by omega⟩
    have hn := hg.1.1
    obtain ⟨w, e, kk⟩ := N_hanging (M := M) (q := 308) hg.1 hm
    have hz := hNo_iff rfl kk (by omega)
    refine ⟨M, Fq.rf, ?_⟩
    rw [fX7_chance_L233, if_pos (by rw [nI_leI (by omega) (by omega)]; omega), e, tb_b2_some, tb_let_eq]
    show _ = K _ _ _ _ (x5 + (if bI (hNo b) = 0 then 0 else x8)) _ _ _
    by_cases h0 : w = 0
    · rw [if_pos h0, bI_t (hz.mp h0), if_neg (by decide)]
    · rw [if_neg h0, bI_f (fun z => h0 (hz.mpr z)), if_pos rfl]
  | succ cnt ih =>
    intro m k b M h1 h2 hg hm
    obtain ⟨m, rfl⟩ : ∃ k, m = k + 1 := ⟨m - 1, by omega⟩
    obtain ⟨M1, e1, m1, f1, -⟩ := N_tick (q := 308) hg.1 hm
    obtain ⟨M2, f2, e2⟩ := ih m (k + 1) (sTk b) M1 (by omega) (by omega) (sTk_good hg.1) m1
    refine ⟨M2, f1.trans f2, ?_⟩
    rw [fX7_chance_L233, if_neg (by rw [nI_leI (by omega) (by omega)]; omega), e1, tb_b2_some, nI_1, e2, ← sTn_s]
theorem pow_sh : ∀ n, n < 9 → (1 <<< (nI n &&& 31) : Int32) = nI (2 ^ n) := by decide +kernel
theorem ch_L102 {a : St} {N c : Nat} {x3 x4 x6 : Int32} (hg : sGood a) (hN : N ≤ 100) (hc : c ≤ 10) (h4 : Mk x4 (sMv a) (a 0 0)) : ∀ (cnt m S : Nat) (M : tb_Mem), S + cnt = 2 ^ (a 0 0) → cnt < m → RM a (M 303) → ∃ M', Fq 308 M M' ∧ fX7_chance_L102 m (nI N) (nI c) x3 x4 (nI (sumN (tS a N c) S)) x6 (nI S) M = fX7_chance_L288 tb_N x3 (nI (sumN (tS a N c) (2 ^ (a 0 0)))) x6 (nI (sumN (tS a N c) (2 ^ (a 0 0)))) x6 M' := by
  have hn := hg.1.1
  have h256 : 2 ^ (a 0 0) ≤ 256 := by
    have := Nat.pow_le_pow_right (n := 2) (by omega) hn
    exact this
  intro cnt
  induction cnt with
  | zero =>
    intro m S M h1 h2 hm
    obtain ⟨m, rfl⟩ : ∃ k, m = k + 1 := ⟨m - 1, by omega⟩
    have : S = 2 ^ (a 0 0) := by omega
    subst this
    refine ⟨M, Fq.rf, ?_⟩
    rw [fX7_chance_L102, hm.1, pow_sh _ (by omega), if_pos (by rw [nI_leI (by omega) (by omega)]; omega)]
  | succ cnt ih =>
    intro m S M h1 h2 hm
    obtain ⟨m, rfl⟩ : ∃ k, m = k + 1 := ⟨m - 1, by omega⟩
    have sx := sub_test (S := S) hn h4 (by omega)
    have hsum : sumN (tS a N c) (S + 1) = sumN (tS a N c) S + tS a N c S := rfl
    rw [fX7_chance_L102, hm.1, pow_sh _ (by omega), if_neg (by rw [nI_leI (by omega) (by omega)]; omega)]
    by_cases hs : subS a S
    · obtain ⟨M1, e1, m1, f1⟩ := N_cop hn hm
      have z0 : sLay a (fK S 0) = a := by
        funext k j
        by_cases h4 : k = 4
        · subst h4; rw [sLay_4]; simp [fK]
        · by_cases h5 : k = 5
          · subst h5; rw [sLay_5]; simp [fK]
          · rw [sLay_o h4 h5]
      obtain ⟨M2, m2, f2, e2⟩ := ch_L143 (N := N) (x3 := x3) (x5 := nI (sumN (tS a N c) S)) (x6 := x6) (K := fun z1 z2 z3 z4 z5 z6 z7 M => fX7_chance_L102 m z1 z2 z3 z4 z5 z6 z7 M) hg hc h4 (show S < 256 by omega) hs (a 0 0) tb_N 0 M1 (by omega) (by unfold tb_N; omega) (by rw [z0]; exact m1) (by rw [f1 303 (by omega)]; exact hm)
      have e2 : fX7_chance_L143 (fun z1 z2 z3 z4 z5 z6 z7 M => fX7_chance_L102 m z1 z2 z3 z4 z5 z6 z7 M) tb_N (nI N) (nI c) x3 x4 (nI (sumN (tS a N c) S)) x6 (nI S) 1 0 M1 = _ := e2
      obtain ⟨M3, f3, e3⟩ := ch_L233 (n := 0) (t := 0) (x2 := nI c) (x3 := x3) (x4 := x4) (x5 := nI (sumN (tS a N c) S)) (x6 := x6) (x7 := nI S) (x8 := nI (tW (sMv a) c S (a 0 0))) (K := fun z1 z2 z3 z4 z5 z6 z7 M => fX7_chance_L102 m z1 z2 z3 z4 z5 z6 z7 M) hN N tb_N 0 (sLay a (fK S (a 0 0))) M2 (by omega) (by unfold tb_N; omega) (sLay_good hg) m2
      have e3 : fX7_chance_L233 (fun z1 z2 z3 z4 z5 z6 z7 M => fX7_chance_L102 m z1 z2 z3 z4 z5 z6 z7 M) tb_N (nI N) (nI c) x3 x4 (nI (sumN (tS a N c) S)) x6 (nI S) (nI (tW (sMv a) c S (a 0 0))) 0 M2 = fX7_chance_L102 m (nI N) (nI c) x3 x4 (nI (sumN (tS a N c) S) + (if bI (hNo (sTn (sLay a (fK S (a 0 0))) N)) = 0 then 0 else nI (tW (sMv a) c S (a 0 0)))) x6 (nI S + 1) M3 := e3
      have f13 := (f1.trans f2).trans f3
      obtain ⟨M4, f4, e4⟩ := ih m (S + 1) M3 (by omega) (by omega) (by rw [f13 303 (by omega)]; exact hm)
      refine ⟨M4, f13.trans f4, ?_⟩
      rw [if_pos (sx.mpr hs), e1, tb_b1_some, e2, e3, ← e4, nI_1]
      have : nI (sumN (tS a N c) S) + (if bI (hNo (sTn (sLay a (fK S (a 0 0))) N)) = 0 then 0 else nI (tW (sMv a) c S (a 0 0))) = nI (sumN (tS a N c) (S + 1)) := by
        rw [hsum]
        by_cases hq : hNo (sTn (sLay a (fK S (a 0 0))) N)
        · rw [bI_t hq, if_neg (by decide), nI_add, show tS a N c S = tW (sMv a) c S (a 0 0) from if_pos ⟨hs, hq⟩]
        · rw [bI_f hq, if_pos rfl, show tS a N c S = 0 from if_neg (fun z => hq z.2), Nat.add_zero, Int32.add_zero]
      rw [this]
    · obtain ⟨M4, f4, e4⟩ := ih m (S + 1) M (by omega) (by omega) hm
      refine ⟨M4, f4, ?_⟩
      rw [hsum, tS_no hs, Nat.add_zero] at e4
      rw [if_neg (fun z => hs (sx.mp z)), nI_1, e4]
theorem ch_L60 {a : St} {x1 x2 x3 x4 : Int32} (hg : sGood a) (h4 : Mk x4 (sMv a) (a 0 0)) (M : tb_Mem) (hm : RM a (M 303)) : ∀ (cnt m b : Nat), b + cnt = a 0 0 → cnt < m → fX7_chance_L60 m x1 x2 x3 x4 0 (nI (10 ^ fb_ct (sMv a) b)) (nI b) M = fX7_chance_L102 tb_N x1 x2 x3 x4 0 (nI (10 ^ fb_ct (sMv a) (a 0 0))) 0 M := by
  have hn := hg.1.1
  intro cnt
  induction cnt with
  | zero =>
    intro m b h1 h2
    obtain ⟨m, rfl⟩ : ∃ k, m = k + 1 := ⟨m - 1, by omega⟩
    have : b = a 0 0 := by omega
    subst this
    rw [fX7_chance_L60, hm.1, if_pos (by rw [nI_leI (by omega) (by omega)]; omega)]
  | succ cnt ih =>
    intro m b h1 h2
    obtain ⟨m, rfl⟩ : ∃ k, m = k + 1 := ⟨m - 1, by omega⟩
    have e := ih m (b + 1) (by omega) (by omega)
    rw [fb_ct_succ] at e
    have hmv : bt x4 b = sMv a b := by rw [h4 b (by omega)]; simp [show b < a 0 0 by omega]
    rw [fX7_chance_L60, hm.1, if_neg (by rw [nI_leI (by omega) (by omega)]; omega), has_ok x4 (by omega), tb_b2_some, hmv, nI_1, tb_let_eq]
    cases hv : sMv a b with
    | false =>
      rw [hv] at e
      rw [iF, if_pos rfl, zl1, pk_mul, Nat.mul_one]
      simpa using e
    | true =>
      rw [hv] at e
      rw [if_pos rfl, if_neg (by decide), show (10 : Int32) = nI 10 from rfl, pk_mul, ← Nat.pow_succ]
      simpa using e
theorem s_chance (x y z : Int32) : Sim (fX6_chance x y z) (fX7_chance x y z) := by
  intro M h
  obtain ⟨⟨a, ⟨hg, hb, hm, ht⟩, -⟩, -⟩ := id h
  have hn := hg.1.1
  unfold fX6_chance fX7_chance
  by_cases h0 : a 0 0 = 0
  · exact ⟨-1000002, M, M, by rw [if_pos ((noBask hn hb).mpr h0)], by rw [isBask hn hm, tb_b2_some, if_pos h0, if_pos rfl], h⟩
  have z0 := fun z => h0 ((noBask hn hb).mp z)
  by_cases h1 : inV x 0 60 = 0
  · exact ⟨_, M, M, by rw [if_neg z0, within_ok, tb_b2_some, if_pos h1], by rw [isBask hn hm, tb_b2_some, if_neg h0, if_neg (by decide), in_ok, tb_b2_some, if_pos h1], h⟩
  by_cases h2 : inV y 0 10 = 0
  · exact ⟨_, M, M, by rw [if_neg z0, within_ok, tb_b2_some, if_neg h1, within_ok, tb_b2_some, if_pos h2], by rw [isBask hn hm, tb_b2_some, if_neg h0, if_neg (by decide), in_ok, tb_b2_some, if_neg h1, in_ok, tb_b2_some, if_pos h2], h⟩
  by_cases h3 : inV z 0 1 = 0
  · exact ⟨_, M, M, by rw [if_neg z0, within_ok, tb_b2_some, if_neg h1, within_ok, tb_b2_some, if_neg h2, within_ok, tb_b2_some, if_pos h3], by rw [isBask hn hm, tb_b2_some, if_neg h0, if_neg (by decide), in_ok, tb_b2_some, if_neg h1, in_ok, tb_b2_some, if_neg h2, in_ok, tb_b2_some, if_pos h3], h⟩
  obtain ⟨N, -, hN, rfl⟩ := inV_1 (l := 0) (h := 60) (by omega) (by omega) h1
  obtain ⟨c, -, hc, rfl⟩ := inV_1 (l := 0) (h := 10) (by omega) (by omega) h2
  have h9 : Mk (M 4 9) (sMv a) (a 0 0) := hb.2.2.1
  obtain ⟨mN, m256, m9, mb⟩ := h9.nat hn
  obtain ⟨M1, e1, s1⟩ := ways_c (N := N) (c := c) (mN := mN) hg (by omega) hc m256 (mN + 1) tb_N 0 M (by omega) (by unfold tb_N; omega) hb m9
  have e1 : fX3_waysClear 4 (nI N) (nI c) M = some (lN (sumN (tS a N c) (mN + 1)), M1) := e1
  have m1 := hm.sc s1
  obtain ⟨w, e2, k2⟩ := N_moving (M := M1) (q := 303) hg.1 m1
  have e3 := ch_L60 (x1 := nI N) (x2 := nI c) (x3 := z) hg k2 M1 m1 (a 0 0) tb_N 0 (by omega) (by unfold tb_N; omega)
  have e3 : fX7_chance_L60 tb_N (nI N) (nI c) z w 0 1 0 M1 = _ := e3
  obtain ⟨M2, f2, e4⟩ := ch_L102 (N := N) (c := c) (x3 := z) (x6 := nI (10 ^ fb_ct (sMv a) (a 0 0))) hg (by omega) hc k2 (2 ^ (a 0 0)) tb_N 0 M1 (by omega) (by have := Nat.pow_le_pow_right (n := 2) (by omega) hn; unfold tb_N; omega) m1
  have e4 : fX7_chance_L102 tb_N (nI N) (nI c) z w 0 (nI (10 ^ fb_ct (sMv a) (a 0 0))) 0 M1 = _ := e4
  have mlt : mN < 2 ^ (a 0 0) := Nat.lt_pow_two_of_testBit mN (fun i hi => by rw [mb i]; simp; omega)
  have hsum : sumN (tS a N c) (2 ^ (a 0 0)) = sumN (tS a N c) (mN + 1) := by
    obtain ⟨d, hd⟩ : ∃ d, 2 ^ (a 0 0) = (mN + 1) + d := ⟨2 ^ (a 0 0) - (mN + 1), by omega⟩
    rw [hd]
    refine sumN_z (mN + 1) d (fun S s1 s2 => tS_no (fun hs => ?_))
    have h256 : 2 ^ (a 0 0) ≤ 256 := Nat.pow_le_pow_right (n := 2) (by omega) hn
    have : S &&& mN = S := by
      apply Nat.eq_of_testBit_eq
      intro i
      rw [Nat.testBit_and, mb i]
      cases hq : S.testBit i with
      | false => rfl
      | true =>
        by_cases h8 : i < 8
        · have := hs i h8 hq
          unfold mvB at this
          simpa using this
        · have : S.testBit i = false := Nat.testBit_lt_two_pow (Nat.lt_of_lt_of_le (show S < 256 by omega) (Nat.pow_le_pow_right (n := 2) (by omega) (show 8 ≤ i by omega)))
          rw [this] at hq; cases hq
    have := Nat.and_le_right (n := S) (m := mN)
    omega
  have hle : sumN (tS a N c) (2 ^ (a 0 0)) ≤ 10 ^ fb_ct (sMv a) (a 0 0) := by
    rw [← tW_sum hc (a 0 0)]
    refine sumN_le (fun S _ => ?_)
    unfold tS
    by_cases hq : subS a S ∧ clrS a N S
    · rw [if_pos hq]; exact Nat.le_refl _
    · rw [if_neg hq]; exact Nat.zero_le _
  have hct := fb_ct_le (sMv a) (a 0 0)
  have hB : 10 ^ fb_ct (sMv a) (a 0 0) ≤ 10 ^ 8 := Nat.pow_le_pow_right (by omega) (by omega)
  have hB1 : 0 < 10 ^ fb_ct (sMv a) (a 0 0) := Nat.pow_pos (by omega)
  have eP : fX6_power 10 (nI (fb_ct (sMv a) (a 0 0))) M1 = some (lN (10 ^ fb_ct (sMv a) (a 0 0)), M1) := power_ok (c := 10) (by omega) (by omega) M1
  rw [← hsum] at e1
  generalize sumN (tS a N c) (2 ^ (a 0 0)) = A at e1 e4 hle
  have eB : bcV (M1 4 9) = nI (fb_ct (sMv a) (a 0 0)) := by rw [s1.at 4 (by omega)]; exact h9.pc hn
  generalize 10 ^ fb_ct (sMv a) (a 0 0) = B at e3 e4 hle hB hB1 eP
  have hG : 0 < Nat.gcd A B := Nat.gcd_pos_of_pos_right A hB1
  have hGB : Nat.gcd A B ≤ B := Nat.gcd_le_right A hB1
  have eG := cd_loop 27 A B tb_N 0 M1 (by omega) (by omega) (by omega) (by unfold tb_N; omega) (by omega)
  have eG : fX6_commonDivisor (lN A) (lN B) M1 = some (lN (Nat.gcd A B), M1) := eG
  have eM := md_loop z (nI A) (nI B) 27 A B tb_N M2 (by omega) (by omega) (by omega) (by unfold tb_N; omega) hG
  have nz : ¬ lN (Nat.gcd A B) = 0 := fun q => by
    have q : lN (Nat.gcd A B) = lN 0 := q
    rw [pk_lEQ (by omega) (by omega)] at q
    omega
  have nzb : (lN (Nat.gcd A B) != 0) = true := by simpa using nz
  refine ⟨(if z = 0 then nI (A / Nat.gcd A B) else nI (B / Nat.gcd A B)), M1, M2, ?_, ?_, h.scr (s1.tr (Sc.f308 f2))⟩
  · rw [if_neg z0, within_ok, tb_b2_some, if_neg h1, within_ok, tb_b2_some, if_neg h2, within_ok, tb_b2_some, if_neg h3, e1, tb_b2_some, bc_any, tb_b2_some, eB, eP, tb_b2_some, eG, tb_b2_some, if_neg (by rw [lg_cmp_eq]; exact nz), nzb, tb_ck_t, tb_ck_t, pk_lDiv (by omega) hG (by omega), pk_lDiv (by omega) hG (by omega), lN_i, lN_i]
    by_cases hz : z = 0
    · rw [if_pos hz, if_pos hz]
    · rw [if_neg hz, if_neg hz]
  · rw [isBask hn m1, tb_b2_some, if_neg h0, if_neg (by decide), in_ok, tb_b2_some, if_neg h1, in_ok, tb_b2_some, if_neg h2, in_ok, tb_b2_some, if_neg h3, e2, tb_b2_some, e3, e4, eM, pk_div (by omega) hG (by omega), pk_div (by omega) hG (by omega)]

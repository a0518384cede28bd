/-! what hangs stays so -/
theorem hn_tk {a : St} {i : Nat} (h : sHn a i = true) (hi : i < a 0 0) : sHn (sTk a) i = true := by
  have h5 : a 5 i ≠ 0 := by simpa [sHn] using h
  have e : sTk a 5 i = if sHang (sMix a (a 0 0)) i = true then sHg (sMix a (a 0 0)) i else a 5 i := by
    unfold sTk
    rw [sPs_o _ (by omega) (by omega), sJam_5, sMix_o (by omega)]
  unfold sHn
  rw [e]
  by_cases hh : sHang (sMix a (a 0 0)) i = true
  · rw [if_pos hh]
    have h0 : sMix a (a 0 0) 0 0 = a 0 0 := by rw [sMix_o (by omega)]
    obtain ⟨j, _, _, hm⟩ := (sHang_iff (a := sMix a (a 0 0)) (i := i) (by rw [h0]; exact hi)).mp hh
    have := hm.1
    simp; omega
  · rw [if_neg hh]; simpa using h5
theorem hn_tn {a : St} {i : Nat} (h : sHn a i = true) (hi : i < a 0 0) : ∀ d, sHn (sTn a d) i = true
  | 0 => h
  | d + 1 => hn_tk (hn_tn h hi d) (by rw [sTn_0]; exact hi)
/-- just those of f hang -/
def hEq (f : Nat → Bool) (a : St) : Prop := ∀ i, i < a 0 0 → sHn a i = f i
theorem hEq_tk {f : Nat → Bool} {a : St} (hf : ∀ i, i < a 0 0 → f i = true → sHn a i = true) (h : hEq f (sTk a)) : hEq f a := by
  intro i hi
  cases hc : f i with
  | true => exact hf i hi hc
  | false =>
    cases hd : sHn a i with
    | false => rfl
    | true =>
      have := hn_tk hd hi
      rw [h i (by rw [sTk_0]; exact hi), hc] at this
      cases this
theorem Mk.iff {x y : Int32} {f g : Nat → Bool} {n : Nat} (hx : Mk x f n) (hy : Mk y g n) (hn : n ≤ 32) : x = y ↔ ∀ i, i < n → f i = g i := by
  constructor
  · intro e i hi
    have h1 := hx i (by omega)
    have h2 := hy i (by omega)
    rw [e, h2] at h1
    simpa [hi] using h1.symm
  · intro h
    exact (hx.congr h).eq hy
noncomputable def bI (p : Prop) : Int32 := @ite Int32 p (Classical.propDecidable p) 1 0
theorem bI_t {p : Prop} (h : p) : bI p = 1 := by unfold bI; rw [if_pos h]
theorem bI_f {p : Prop} (h : ¬ p) : bI p = 0 := by unfold bI; rw [if_neg h]
theorem bI_0 (p : Prop) : bI p = 0 ↔ ¬ p := by
  by_cases h : p
  · rw [bI_t h]; simp [h]
  · rw [bI_f h]; simp [h]
theorem bI_bl (p : Prop) : tb_bl (bI p) = true := by
  by_cases h : p
  · rw [bI_t h]; decide
  · rw [bI_f h]; decide
theorem bI_cg {p q : Prop} (h : p ↔ q) : bI p = bI q := by rw [propext h]
theorem clr_loop {f : Nat → Bool} {H : Int32} {N nn : Nat} (hN : N ≤ 100) (hH : Mk H f nn) (hnn : nn ≤ 8) : ∀ (c m d : Nat) (b : St) (M : tb_Mem), b 0 0 = nn → d + c = N → c < m → sGood b → (∀ i, i < b 0 0 → f i = true → sHn b i = true) → RM b (M 308) → ∃ M', fX7_clear_L5 m (nI N) H (bI (hEq f b)) (nI d) M = some (bI (hEq f (sTn b c)), M') ∧ RM (sTn b c) (M' 308) ∧ Fq 308 M M' := by
  intro c
  induction c with
  | zero =>
    intro m d b M h0 h1 h2 hg hf hm
    obtain ⟨m, rfl⟩ : ∃ k, m = k + 1 := ⟨m - 1, by omega⟩
    have : d = N := by omega
    subst this
    refine ⟨M, ?_, hm, Fq.rf⟩
    rw [fX7_clear_L5, if_pos (by rw [nI_leI (by omega) (by omega)]; omega), bI_bl, tb_ck_t]
    rfl
  | succ c ih =>
    intro m d b M h0 h1 h2 hg hf hm
    obtain ⟨m, rfl⟩ : ∃ k, m = k + 1 := ⟨m - 1, by omega⟩
    obtain ⟨M1, e1, m1, f1, -⟩ := N_tick (q := 308) hg.1 hm
    have nb : sTk b 0 0 = b 0 0 := by rw [sTk_0]
    have hf1 : ∀ i, i < sTk b 0 0 → f i = true → sHn (sTk b) i = true := fun i hi hc => hn_tk (hf i (by rw [← nb]; exact hi) hc) (by rw [← nb]; exact hi)
    obtain ⟨M2, e2, m2, f2⟩ := ih m (d + 1) (sTk b) M1 (by rw [nb]; exact h0) (by omega) (by omega) (sTk_good hg.1) hf1 m1
    rw [← sTn_s] at e2 m2
    refine ⟨M2, ?_, m2, f1.trans f2⟩
    rw [fX7_clear_L5, if_neg (by rw [nI_leI (by omega) (by omega)]; omega), e1, tb_b2_some, nI_1]
    by_cases hb : hEq f b
    · obtain ⟨w, k2, k3⟩ := N_hanging (M := M1) (q := 308) (sTk_good hg.1).1 m1
      rw [bI_t hb, if_neg (by decide), k2, tb_b2_some, tb_let_eq]
      have : (if w &&& (H ^^^ (-1)) = 0 then (1 : Int32) else 0) = bI (hEq f (sTk b)) := by
        have k4 : Mk w (sHn (sTk b)) nn := by rw [← h0, ← nb]; exact k3
        have k5 := (k4.andn hH).eq0 (by omega)
        by_cases hq : hEq f (sTk b)
        · rw [bI_t hq, if_pos (k5.mpr (fun i hi => by rw [hq i (by rw [nb, h0]; exact hi)]; simp))]
        · rw [bI_f hq, if_neg ?_]
          intro z
          apply hq
          intro i hi
          have z2 := k5.mp z i (by rw [← h0, ← nb]; exact hi)
          cases hc : f i with
          | true => exact hf1 i hi hc
          | false => simpa [hc] using z2
      rw [this]
      exact e2
    · rw [bI_f hb, if_pos rfl]
      have : ¬ hEq f (sTk b) := fun z => hb (hEq_tk hf z)
      rw [bI_f this] at e2
      exact e2
theorem clr_ok {f : Nat → Bool} {H : Int32} {N : Nat} {b : St} {M : tb_Mem} (hN : N ≤ 100) (hH : Mk H f (b 0 0)) (hg : sGood b) (hf : hEq f b) (hm : RM b (M 308)) : ∃ M', fX7_clear (nI N) H M = some (bI (hEq f (sTn b N)), M') ∧ RM (sTn b N) (M' 308) ∧ Fq 308 M M' := by
  have := clr_loop hN hH hg.1.1 N tb_N 0 b M rfl (by omega) (by unfold tb_N; omega) hg (fun i hi hc => by rw [hf i hi]; exact hc) hm
  rw [bI_t hf] at this
  exact this
/-! waits -/
theorem hn_start {a : St} {i v : Nat} (h : a 5 i = 0) (j : Nat) : sHn (sStart a i v) j = sHn a j := by
  unfold sHn
  rw [sStart_5]
  by_cases hj : j = i
  · subst hj; rw [if_pos rfl, h]
  · rw [if_neg hj]
def sWait (a : St) (i w : Nat) : Prop := sRst (sTn a w) i ∧ hEq (sHn (sTn a w)) (sTn (sStart (sTn a w) i 0) 12)
theorem stays_ok {b : St} {M : tb_Mem} {i : Nat} (hg : sGood b) (hb : BK (b 0 0) b M 241) (hi : i < b 0 0) : ∃ M', fX3_staysClear (nI i) M = some (bI (hEq (sHn b) (sTn (sStart b i 0) 12)), M') ∧ Fr 250 M M' := by
  have hn := hg.1.1
  obtain ⟨M1, e1, b1, f1, -, -⟩ := M_bec (p := 250) (p1 := 241) hn hb (by omega)
  obtain ⟨M2, e2, b2, f2, -⟩ := M_press hg.1 b1 hi
  have n1 : sStart b i 0 0 0 = b 0 0 := (lkStart _ _ _).1
  obtain ⟨M3, e3, b3, f3⟩ := M_foresee (sPress_good hg hi) (by rw [n1]; exact b2) 12 (by omega)
  refine ⟨M3, ?_, (f1.trans f2).trans f3⟩
  unfold fX3_staysClear
  rw [e1, tb_b1_some, e2, tb_b1_some, show (12 : Int32) = nI 12 from rfl, e3, tb_b1_some]
  have n3 : sTn (sStart b i 0) 12 0 0 = b 0 0 := by rw [sTn_0, n1]
  have k1 : Mk (M3 250 10) (sHn (sTn (sStart b i 0) 12)) (b 0 0) := by rw [← n3]; exact b3.2.2.2.1
  have k2 : Mk (M3 241 10) (sHn b) (b 0 0) := by
    rw [f3 241 (by omega), f2 241 (by omega), f1 241 (by omega)]
    exact hb.2.2.2.1
  have := k1.iff k2 (by omega)
  congr 2
  by_cases hh : M3 250 10 = M3 241 10
  · rw [if_pos hh, bI_t]
    exact fun i hi => this.mp hh i (by rw [← n3]; exact hi)
  · rw [if_neg hh, bI_f]
    exact fun z => hh (this.mpr (fun i hi => z i (by rw [n3]; exact hi)))
theorem wait_c {a : St} {i : Nat} (hi : i < a 0 0) (hga : sGood a) : ∀ (c m w : Nat) (M : tb_Mem), w + c = 21 → c < m → BK (a 0 0) (sTn a w) M 241 → ∃ (r : Nat) (M' : tb_Mem), fX3_leastWait_L10 4 m (nI i) (nI w) M = some ((if r = 21 then -1000000 else nI r), M') ∧ Sc M M' ∧ r ≤ 21 ∧ w ≤ r ∧ (r < 21 → sWait a i r) ∧ ∀ k, w ≤ k → k < r → ¬ sWait a i k := by
  intro c
  induction c with
  | zero =>
    intro m w M h1 h2 hb
    obtain ⟨m, rfl⟩ : ∃ k, m = k + 1 := ⟨m - 1, by omega⟩
    have : w = 21 := by omega
    subst this
    exact ⟨21, M, by rw [fX3_leastWait_L10, if_pos (by decide), if_pos rfl], Sc.rf, by omega, by omega, fun h => by omega, fun k k1 k2 => by omega⟩
  | succ c ih =>
    intro m w M h1 h2 hb
    obtain ⟨m, rfl⟩ : ∃ k, m = k + 1 := ⟨m - 1, by omega⟩
    have q : ¬ (20 : Int32) < nI w := by rw [zl20, nI_ltI (by omega) (by omega)]; omega
    have nb : sTn a w 0 0 = a 0 0 := by rw [sTn_0]
    have hb' : BK (sTn a w 0 0) (sTn a w) M 241 := by rw [nb]; exact hb
    have hg := sTn_good hga w
    have hi' : i < sTn a w 0 0 := by rw [nb]; exact hi
    obtain ⟨r1, e1, z1⟩ := M_rests_t hg.1 hb' hi'
    have next : ∀ M1 : tb_Mem, BK (sTn a w 0 0) (sTn a w) M1 241 → Sc M M1 → ¬ sWait a i w → ∃ (r : Nat) (M' : tb_Mem), (tb_b2 (fX2_pass 241 M1) (fun r10 M8 => fX3_leastWait_L10 4 m (nI i) (nI w + 1) M8)) = some ((if r = 21 then -1000000 else nI r), M') ∧ Sc M M' ∧ r ≤ 21 ∧ w ≤ r ∧ (r < 21 → sWait a i r) ∧ ∀ k, w ≤ k → k < r → ¬ sWait a i k := by
      intro M1 b1 s1 hno
      obtain ⟨M2, e2, b2, f2, -⟩ := M_pass (p := 241) hg.1 b1
      obtain ⟨r, M', e3, s3, r1, r2, r3, r4⟩ := ih m (w + 1) M2 (by omega) (by omega) (by rw [← nb]; exact b2)
      refine ⟨r, M', by rw [e2, tb_b2_some, nI_1, e3], (s1.tr (Sc.f241 f2)).tr s3, r1, by omega, r3, fun k k1 k2 => ?_⟩
      by_cases hk : k = w
      · rw [hk]; exact hno
      · exact r4 k (by omega) k2
    rw [fX3_leastWait_L10, if_neg q, e1, tb_b2_some]
    by_cases hr : sRst (sTn a w) i
    · obtain ⟨M1, e2, f2⟩ := stays_ok hg hb' hi'
      rw [if_neg (fun z => z1.mp z hr), e2, tb_b2_some]
      by_cases hc : hEq (sHn (sTn a w)) (sTn (sStart (sTn a w) i 0) 12)
      · rw [bI_t hc, if_neg (by decide)]
        exact ⟨w, M1, by rw [if_neg (by omega)], Sc.f250 f2, by omega, by omega, fun _ => ⟨hr, hc⟩, fun k k1 k2 => by omega⟩
      · rw [bI_f hc, if_pos rfl]
        exact next M1 (hb'.fr (fun q q1 q2 => f2 q (by omega))) (Sc.f250 f2) (fun z => hc z.2)
    · rw [if_pos (z1.mpr hr)]
      exact next M hb' Sc.rf (fun z => hr z.1)
theorem wait_d {a : St} {i r : Nat} (hi : i < a 0 0) (hga : sGood a) (hr : r ≤ 21) (r3 : r < 21 → sWait a i r) : ∀ (c m w : Nat) (M : tb_Mem), w + c = r → c < m → RM a (M 303) → (∀ k, w ≤ k → k < r → ¬ sWait a i k) → ∃ M', fX7_waits_L13 m (nI i) (nI w) M = some ((if r = 21 then -1000000 else nI r), M') ∧ Fq 308 M M' := by
  have hn := hga.1.1
  have step : ∀ (m w : Nat) (M : tb_Mem), w < 21 → RM a (M 303) → ∃ M1, Fq 308 M M1 ∧ ((¬ sWait a i w ∧ fX7_waits_L13 (m + 1) (nI i) (nI w) M = fX7_waits_L13 m (nI i) (nI w + 1) M1) ∨ (sWait a i w ∧ fX7_waits_L13 (m + 1) (nI i) (nI w) M = some (nI w, M1))) := by
    intro m w M hw hm
    have q : ¬ (21 : Int32) ≤ nI w := by rw [show (21 : Int32) = nI 21 from rfl, nI_leI (by omega) (by omega)]; omega
    obtain ⟨M1, e1, m1, f1⟩ := N_goesOn hga (d := w) (by omega) hm
    have nb : sTn a w 0 0 = a 0 0 := by rw [sTn_0]
    have hi' : i < sTn a w 0 0 := by rw [nb]; exact hi
    have hg := sTn_good hga w
    obtain ⟨r1, e2, z2⟩ := N_rests hg.1 m1 hi'
    rw [fX7_waits_L13, if_neg q, e1, tb_b1_some, e2, tb_b2_some]
    by_cases hrs : sRst (sTn a w) i
    · rw [if_neg (fun z => z2.mp z hrs), zl2, nI_add, tb_in_t (by omega) (by omega), tb_ck_t, nI_clamp (by omega), tb_let_eq]
      have m2 : RM (sStart (sTn a w) i 0) (tb_up M1 308 (2 + i) 0 308) := RM.start (by omega) m1 hi' (by rw [tb_up_same, upd_other _ _ _ (by omega), (m1.2.1 i hi').2.1, hrs.2]; rfl) (by rw [tb_up_same, upd_same]; rfl) (fun k q1 q2 => by rw [tb_up_same, upd_other _ _ _ q1])
      have n1 : sStart (sTn a w) i 0 0 0 = a 0 0 := by rw [(lkStart _ _ _).1, nb]
      obtain ⟨v, e3, k3⟩ := N_hanging (M := tb_up M1 308 (2 + i) 0) (q := 308) (sPress_good hg hi').1 m2
      have k4 : Mk v (sHn (sTn a w)) (sStart (sTn a w) i 0 0 0) := k3.congr (fun j _ => hn_start hrs.2 j)
      obtain ⟨M3, e4, m4, f4⟩ := clr_ok (N := 12) (by omega) k4 (sPress_good hg hi') (fun j _ => hn_start hrs.2 j) m2
      rw [e3, tb_b2_some, show (12 : Int32) = nI 12 from rfl, e4, tb_b2_some]
      have ff : Fq 308 M M3 := (f1.trans (fun q hq => tb_up_ne hq)).trans f4
      refine ⟨M3, ff, ?_⟩
      by_cases hc : hEq (sHn (sTn a w)) (sTn (sStart (sTn a w) i 0) 12)
      · right
        exact ⟨⟨hrs, hc⟩, by rw [bI_t hc, if_neg (by decide)]⟩
      · left
        exact ⟨fun z => hc z.2, by rw [bI_f hc, if_pos rfl]⟩
    · refine ⟨M1, f1, Or.inl ⟨fun z => hrs z.1, ?_⟩⟩
      rw [if_pos (z2.mpr hrs)]
  intro c
  induction c with
  | zero =>
    intro m w M h1 h2 hm hk
    obtain ⟨m, rfl⟩ : ∃ k, m = k + 1 := ⟨m - 1, by omega⟩
    have : w = r := by omega
    subst this
    by_cases h21 : w = 21
    · subst h21
      exact ⟨M, by rw [fX7_waits_L13, if_pos (by decide), if_pos rfl], Fq.rf⟩
    · obtain ⟨M1, f1, ⟨z, -⟩ | ⟨-, e⟩⟩ := step m w M (by omega) hm
      · exact absurd (r3 (by omega)) z
      · exact ⟨M1, by rw [e, if_neg h21], f1⟩
  | succ c ih =>
    intro m w M h1 h2 hm hk
    obtain ⟨m, rfl⟩ : ∃ k, m = k + 1 := ⟨m - 1, by omega⟩
    obtain ⟨M1, f1, ⟨-, e⟩ | ⟨z, -⟩⟩ := step m w M (by omega) hm
    · obtain ⟨M2, e2, f2⟩ := ih m (w + 1) M1 (by omega) (by omega) (by rw [f1 303 (by omega)]; exact hm) (fun k k1 k2 => hk k (by omega) k2)
      exact ⟨M2, by rw [e, nI_1, e2], f1.trans f2⟩
    · exact absurd z (hk w (by omega) (by omega))
theorem s_waits (y : Int32) : Sim (fX6_waits y) (fX7_waits y) := by
  intro M h
  obtain ⟨⟨a, ⟨hg, hb, hm, ht⟩, -⟩, -⟩ := id h
  have hn := hg.1.1
  unfold fX6_waits fX7_waits
  rcases bar_both (M' := M) hg.1 hb hm y with ⟨c1, c2⟩ | ⟨i, hi, rfl, c1, c2⟩
  · exact ⟨_, M, M, by rw [c1, tb_b2_some, if_pos rfl], by rw [c2, tb_b2_some, if_pos rfl], h⟩
  obtain ⟨M1, e1, b1, f1, -, -⟩ := M_bec (p := 241) (p1 := 4) hn hb (by omega)
  obtain ⟨r, M2, e2, s2, r1, -, r3, r4⟩ := wait_c hi hg 21 tb_N 0 M1 (by omega) (by unfold tb_N; omega) b1
  have sc : Sc M M2 := (Sc.f241 f1).tr s2
  have m2 := hm.sc sc
  obtain ⟨M3, e3, f3⟩ := wait_d hi hg r1 r3 r tb_N 0 M2 (by omega) (by unfold tb_N; omega) m2 r4
  rcases bar_both (M' := M2) hg.1 hb m2 (nI i) with ⟨u1, -⟩ | ⟨_, _, _, _, u2⟩
  · rw [c1] at u1; cases u1
  refine ⟨(if r = 21 then -1000000 else nI r), M2, M3, ?_, ?_, h.scr (sc.tr (Sc.f308 f3))⟩
  · rw [c1, tb_b2_some, if_neg (by decide)]
    unfold fX3_leastWait
    have e2 : fX3_leastWait_L10 4 tb_N (nI i) 0 M1 = _ := e2
    rw [e1, tb_b1_some, e2, tb_b2_some]
  · rw [u2, tb_b2_some, if_neg (by decide)]
    exact e3

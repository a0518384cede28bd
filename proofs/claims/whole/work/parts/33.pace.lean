/-! words -/
theorem hear_loop {p1 i n len : Nat} (hp : (263 ≤ p1 ∧ p1 ≤ 278)) (hn : n ≤ 12) (hl : i + n ≤ len) (hlen : len ≤ 40) : ∀ (c m k : Nat) (M : tb_Mem), k + c = n → c < m → M p1 3 = nI len → M 240 3 = nI k → ∃ M', fX3_hear_L8 p1 m (nI i) (nI n) (nI k) M = some M' ∧ M' 240 3 = nI n ∧ (∀ j, k ≤ j → j < n → M' 259 j = M (p1 + 1) (i + j)) ∧ (∀ j, j < k → M' 259 j = M 259 j) ∧ ∀ q, q ≠ 240 → q ≠ 259 → M' q = M q := by
  intro c
  induction c with
  | zero =>
    intro m k M h1 h2 h3 h4
    obtain ⟨m, rfl⟩ : ∃ k, m = k + 1 := ⟨m - 1, by omega⟩
    have : k = n := by omega
    subst this
    exact ⟨M, by rw [fX3_hear_L8, if_pos (by rw [nI_leI (by omega) (by omega)]; omega)], h4, fun j j1 j2 => by omega, fun _ _ => rfl, fun _ _ _ => rfl⟩
  | succ c ih =>
    intro m k M h1 h2 h3 h4
    obtain ⟨m, rfl⟩ : ∃ k, m = k + 1 := ⟨m - 1, by omega⟩
    have hh : fX4_has p1 (nI (i + k)) 1 M = some (1, M) := by
      unfold fX4_has
      rw [if_neg (by rw [nI_lt0 (by omega)]; exact id), if_neg (by decide), h3, zl1, pk_sub (by omega), if_neg (by rw [nI_ltI (by omega) (by omega)]; omega)]
    obtain ⟨M', e1, e2, e3, e4, e5⟩ := ih m (k + 1) (tb_up (tb_up M 259 k (M (p1 + 1) (i + k))) 240 3 (nI (k + 1))) (by omega) (by omega) (by rw [tb_up_ne (by omega), tb_up_ne (by omega)]; exact h3) (by rw [tb_up_same, upd_same])
    refine ⟨M', ?_, e2, fun j j1 j2 => ?_, fun j hj => ?_, fun q q1 q2 => ?_⟩
    · rw [fX3_hear_L8, if_neg (by rw [nI_leI (by omega) (by omega)]; omega), if_neg (by rw [show (12 : Int32) = nI 12 from rfl, nI_leI (by omega) (by omega)]; omega), nI_add, hh, tb_b2_some, if_neg (by decide), tb_in_t (by omega) (by omega), tb_ck_t, tb_in_t (by omega) (by omega), tb_ck_t, nI_clamp (by omega), nI_clamp (by omega), tb_let_eq, tb_let_eq, nI_1, e1]
    · by_cases hj : j = k
      · rw [hj, e4 k (by omega), tb_up_ne (by omega), tb_up_same, upd_same]
      · rw [e3 j (by omega) j2, tb_up_ne (by omega), tb_up_ne (by omega)]
    · rw [e4 j (by omega), tb_up_ne (by omega), tb_up_same, upd_other _ _ _ (by omega)]
    · rw [e5 q q1 q2, tb_up_ne q1, tb_up_ne q2]
def CW (w : Nat → Int32) (n : Nat) (M : tb_Mem) : Prop := M 240 3 = nI n ∧ ∀ j, j < n → M 259 j = w j
theorem CW.fr {w : Nat → Int32} {n : Nat} {M M' : tb_Mem} (h : CW w n M) (h1 : M' 240 3 = M 240 3) (h2 : M' 259 = M 259) : CW w n M' := ⟨by rw [h1]; exact h.1, fun j hj => by rw [h2]; exact h.2 j hj⟩
theorem hear_ok {r i n len : Nat} {M : tb_Mem} (hr : r < 8) (hn : n ≤ 12) (hl : i + n ≤ len) (hlen : len ≤ 40) (h3 : M (263 + 2 * r) 3 = nI len) : ∃ M', fX3_hear (263 + 2 * r) (nI i) (nI n) M = some M' ∧ CW (fun j => M (263 + 2 * r + 1) (i + j)) n M' ∧ ∀ q, q ≠ 240 → q ≠ 259 → M' q = M q := by
  obtain ⟨M', e1, e2, e3, -, e5⟩ := hear_loop (p1 := 263 + 2 * r) (by omega) hn hl hlen n tb_N 0 (tb_up M 240 3 0) (by omega) (by unfold tb_N; omega) (by rw [tb_up_ne (by omega)]; exact h3) (by rw [tb_up_same, upd_same]; rfl)
  refine ⟨M', ?_, ⟨e2, fun j hj => ?_⟩, fun q q1 q2 => ?_⟩
  · unfold fX3_hear
    rw [tb_let_eq]
    exact e1
  · rw [e3 j (by omega) hj, tb_up_ne (by omega)]
  · rw [e5 q q1 q2, tb_up_ne q1]
/-! a word at a pace -/
def gGo (w : Nat → Int32) (n p : Nat) (f : Nat → Bool) : Nat → St → Prop
  | 0, c => hEq f (sTn c 12)
  | m + 1, c => hEq f (sTn c p) ∧ ∃ i, i < sTn c p 0 0 ∧ w (n - (m + 1)) = nI i ∧ sRst (sTn c p) i ∧ gGo w n p f m (sStart (sTn c p) i 0)
def gP (w : Nat → Int32) (n p : Nat) (f : Nat → Bool) (m : Nat) (a : St) : Prop := ∃ i, i < a 0 0 ∧ w (n - (m + 1)) = nI i ∧ sRst a i ∧ gGo w n p f m (sStart a i 0)
theorem go_J {w : Nat → Int32} {n k : Nat} {f : Nat → Bool} {b : St} {M : tb_Mem} {K : Int32 → Int32 → tb_Mem → Option (Int32 × tb_Mem)} {x1 : Int32} {Q : Nat → Prop} (hk : k < n) (hn : n ≤ 12) (hg : sGood b) (hb : BK (b 0 0) b M 250) (hf : Mk (M 241 10) f (b 0 0)) (hw : CW w n M)
    (HK : ∀ i M1, i < b 0 0 → w k = nI i → sRst b i → hEq f b → BK (sStart b i 0 0 0) (sStart b i 0) M1 250 → Fr 250 M M1 → ∃ M', K x1 (nI (k + 1)) M1 = some (bI (Q i), M') ∧ Fr 250 M1 M') :
    ∃ M', fX3_goesAt_J33 K x1 (nI k) M = some (bI (hEq f b ∧ ∃ i, i < b 0 0 ∧ w k = nI i ∧ sRst b i ∧ Q i), M') ∧ Fr 250 M M' := by
  have hn8 := hg.1.1
  have h10 : Mk (M 250 10) (sHn b) (b 0 0) := hb.2.2.2.1
  have hiff := h10.iff hf (by omega)
  unfold fX3_goesAt_J33
  by_cases h1 : M 250 10 = M 241 10
  · have hE : hEq f b := hiff.mp h1
    rw [if_pos h1, tb_in_t (by omega) (by omega), tb_ck_t, nI_clamp (by omega), hw.2 k hk]
    rcases pk_ix (w k) (n := b 0 0) (by omega) with hx | hx | ⟨i, hi, hx⟩
    · refine ⟨M, ?_, Fr.rf⟩
      rw [M_rests_f hb (Or.inl hx), tb_b2_some, if_pos rfl, bI_f]
      rintro ⟨-, i, hi, e, -⟩
      rw [e, nI_lt0 (by omega)] at hx
      exact hx
    · refine ⟨M, ?_, Fr.rf⟩
      rw [M_rests_f hb (Or.inr hx), tb_b2_some, if_pos rfl, bI_f]
      rintro ⟨-, i, hi, e, -⟩
      rw [e, nI_leI (by omega) (by omega)] at hx
      omega
    · obtain ⟨r, e1, z1⟩ := M_rests_t hg.1 hb hi
      rw [hx, e1, tb_b2_some]
      by_cases hr : sRst b i
      · obtain ⟨M1, e2, b2, f2, -⟩ := M_press hg.1 hb hi
        obtain ⟨M2, e3, f3⟩ := HK i M1 hi hx hr hE (by rw [(lkStart _ _ _).1]; exact b2) f2
        refine ⟨M2, ?_, f2.trans f3⟩
        rw [if_neg (fun z => z1.mp z hr), hw.2 k hk, hx, e2, tb_b1_some, nI_1, e3]
        congr 2
        refine bI_cg ⟨fun q => ⟨hE, i, hi, rfl, hr, q⟩, ?_⟩
        rintro ⟨-, j, hj, e, -, q⟩
        rw [nI_inj (by omega) (by omega) e]
        exact q
      · refine ⟨M, ?_, Fr.rf⟩
        rw [if_pos (z1.mpr hr), bI_f]
        rintro ⟨-, j, hj, e, hq, -⟩
        rw [nI_inj (by omega) (by omega) e] at hr
        exact hr hq
  · refine ⟨M, ?_, Fr.rf⟩
    rw [if_neg h1, bI_f]
    exact fun z => h1 (hiff.mpr z.1)
theorem go_c {w : Nat → Int32} {n p : Nat} {f : Nat → Bool} (hn : n ≤ 12) (hp : p ≤ 100) : ∀ (cnt m k : Nat) (c : St) (M : tb_Mem), k + cnt = n → 1 ≤ k → cnt < m → sGood c → BK (c 0 0) c M 250 → Mk (M 241 10) f (c 0 0) → CW w n M → ∃ M', fX3_goesAt_L13 m (nI p) (nI k) M = some (bI (gGo w n p f cnt c), M') ∧ Fr 250 M M' := by
  intro cnt
  induction cnt with
  | zero =>
    intro m k c M h1 h2 h3 hg hb hf hw
    obtain ⟨m, rfl⟩ : ∃ k, m = k + 1 := ⟨m - 1, by omega⟩
    have hn8 := hg.1.1
    obtain ⟨M1, e1, b1, f1⟩ := M_foresee hg hb 12 (by omega)
    refine ⟨M1, ?_, f1⟩
    rw [fX3_goesAt_L13, hw.1, if_pos (by rw [nI_leI (by omega) (by omega)]; omega), show (12 : Int32) = nI 12 from rfl, e1, tb_b1_some]
    have n3 : sTn c 12 0 0 = c 0 0 := by rw [sTn_0]
    have k1 : Mk (M1 250 10) (sHn (sTn c 12)) (c 0 0) := by rw [← n3]; exact b1.2.2.2.1
    have k2 : Mk (M1 241 10) f (c 0 0) := by rw [f1 241 (by omega)]; exact hf
    have := k1.iff k2 (by omega)
    congr 2
    by_cases hh : M1 250 10 = M1 241 10
    · rw [if_pos hh, bI_t]
      exact fun i hi => this.mp hh i (by rw [← n3]; exact hi)
    · rw [if_neg hh, bI_f]
      exact fun z => hh (this.mpr (fun i hi => z i (by rw [n3]; exact hi)))
  | succ cnt ih =>
    intro m k c M h1 h2 h3 hg hb hf hw
    obtain ⟨m, rfl⟩ : ∃ k, m = k + 1 := ⟨m - 1, by omega⟩
    have hn8 := hg.1.1
    obtain ⟨M1, e1, b1, f1⟩ := M_foresee hg hb p hp
    have n3 : sTn c p 0 0 = c 0 0 := by rw [sTn_0]
    have hJ := go_J (w := w) (n := n) (k := k) (f := f) (b := sTn c p) (M := M1) (K := fun z1 z2 M => fX3_goesAt_L13 m z1 z2 M) (x1 := nI p) (Q := fun i => gGo w n p f cnt (sStart (sTn c p) i 0)) (by omega) hn (sTn_good hg p) (by rw [n3]; exact b1) (by rw [f1 241 (by omega), n3]; exact hf) (hw.fr (by rw [f1 240 (by omega)]) (f1 259 (by omega))) (fun i M2 hi hx hr hE b2 f2 => ih m (k + 1) _ M2 (by omega) (by omega) (by omega) (sPress_good (sTn_good hg p) hi) b2 (by rw [f2 241 (by omega), f1 241 (by omega), (lkStart _ _ _).1, n3]; exact hf) (hw.fr (by rw [f2 240 (by omega), f1 240 (by omega)]) (by rw [f2 259 (by omega), f1 259 (by omega)])))
    obtain ⟨M2, e2, f2⟩ := hJ
    refine ⟨M2, ?_, f1.trans f2⟩
    rw [fX3_goesAt_L13, hw.1, if_neg (by rw [nI_leI (by omega) (by omega)]; omega), if_neg (by rw [nI_le0 (by omega)]; omega), e1, tb_b1_some, e2]
    have : n - (cnt + 1) = k := by omega
    show _ = some (bI (hEq f (sTn c p) ∧ ∃ i, i < sTn c p 0 0 ∧ w (n - (cnt + 1)) = nI i ∧ sRst (sTn c p) i ∧ gGo w n p f cnt (sStart (sTn c p) i 0)), M2)
    rw [this]
theorem goesAt_ok {w : Nat → Int32} {n p : Nat} {b : St} {M : tb_Mem} (hn1 : 1 ≤ n) (hn : n ≤ 12) (hp : p ≤ 100) (hg : sGood b) (hb : BK (b 0 0) b M 241) (hw : CW w n M) : ∃ M', fX3_goesAt (nI p) M = some (bI (gP w n p (sHn b) (n - 1) b), M') ∧ Fr 250 M M' := by
  have hn8 := hg.1.1
  obtain ⟨M1, e1, b1, f1, -, -⟩ := M_bec (p := 250) (p1 := 241) hn8 hb (by omega)
  have h241 : Mk (M1 241 10) (sHn b) (b 0 0) := by rw [f1 241 (by omega)]; exact hb.2.2.2.1
  have hw1 : CW w n M1 := hw.fr (by rw [f1 240 (by omega)]) (f1 259 (by omega))
  obtain ⟨m, hm⟩ : ∃ m, tb_N = m + 1 := ⟨4999, rfl⟩
  obtain ⟨M2, e2, f2⟩ := go_J (w := w) (n := n) (k := 0) (f := sHn b) (b := b) (M := M1) (K := fun z1 z2 M => fX3_goesAt_L13 m z1 z2 M) (x1 := nI p) (Q := fun i => gGo w n p (sHn b) (n - 1) (sStart b i 0)) (by omega) hn hg b1 h241 hw1 (fun i M2 hi hx hr hE b2 f2 => go_c hn hp (n - 1) m 1 _ M2 (by omega) (by omega) (by unfold tb_N at hm; omega) (sPress_good hg hi) b2 (by rw [f2 241 (by omega), (lkStart _ _ _).1]; exact h241) (hw1.fr (by rw [f2 240 (by omega)]) (f2 259 (by omega))))
  refine ⟨M2, ?_, f1.trans f2⟩
  unfold fX3_goesAt
  rw [e1, tb_b1_some, hm, fX3_goesAt_L13, hw1.1, if_neg (by rw [nI_le0 (by omega)]; omega), if_pos (by decide)]
  have e2 : fX3_goesAt_J33 (fun z1 z2 M => fX3_goesAt_L13 m z1 z2 M) (nI p) 0 M1 = _ := e2
  rw [e2]
  congr 2
  refine bI_cg ⟨fun z => ?_, fun z => ⟨fun i _ => rfl, ?_⟩⟩
  · have := z.2
    unfold gP
    rw [show n - (n - 1 + 1) = 0 by omega]
    exact this
  · unfold gP at z
    rw [show n - (n - 1 + 1) = 0 by omega] at z
    exact z
/-! the first pace -/
def FP (g : Nat → Prop) (s r : Nat) : Prop := (r = 0 ∧ ∀ p, 1 ≤ p → p ≤ s → ¬ g p) ∨ (1 ≤ r ∧ r ≤ s ∧ g r ∧ ∀ p, 1 ≤ p → p < r → ¬ g p)
theorem FP.ex (g : Nat → Prop) : ∀ s, ∃ r, FP g s r
  | 0 => ⟨0, Or.inl ⟨rfl, fun p h1 h2 => by omega⟩⟩
  | s + 1 => by
    obtain ⟨r, h | h⟩ := FP.ex g s
    · by_cases hg : g (s + 1)
      · exact ⟨s + 1, Or.inr ⟨by omega, by omega, hg, fun p p1 p2 => h.2 p p1 (by omega)⟩⟩
      · refine ⟨0, Or.inl ⟨rfl, fun p p1 p2 => ?_⟩⟩
        by_cases hp : p = s + 1
        · rw [hp]; exact hg
        · exact h.2 p p1 (by omega)
    · exact ⟨r, Or.inr ⟨h.1, by omega, h.2.2⟩⟩
theorem FP.un {g : Nat → Prop} {s r r' : Nat} (h : FP g s r) (h' : FP g s r') : r = r' := by
  rcases h with ⟨e, h⟩ | ⟨a1, a2, a3, a4⟩ <;> rcases h' with ⟨e', h'⟩ | ⟨b1, b2, b3, b4⟩
  · omega
  · exact absurd b3 (h r' b1 b2)
  · exact absurd a3 (h' r a1 a2)
  · rcases Nat.lt_trichotomy r r' with c | c | c
    · exact absurd a3 (b4 r a1 c)
    · exact c
    · exact absurd b3 (a4 r' b1 c)
theorem FP.less {g : Nat → Prop} {s t r : Nat} (h : FP g t r) (hs : s ≤ t) : FP g s (if r ≤ s then r else 0) := by
  rcases h with ⟨e, h⟩ | ⟨a1, a2, a3, a4⟩
  · subst e
    rw [if_pos (by omega)]
    exact Or.inl ⟨rfl, fun p p1 p2 => h p p1 (by omega)⟩
  · by_cases hr : r ≤ s
    · rw [if_pos hr]; exact Or.inr ⟨a1, hr, a3, a4⟩
    · rw [if_neg hr]; exact Or.inl ⟨rfl, fun p p1 p2 => a4 p p1 (by omega)⟩
def pv (r : Nat) : Int32 := if r = 0 then -1000000 else nI r
theorem pv_none {r : Nat} (h : r ≤ 100) : pv r = -1000000 ↔ r = 0 := by
  unfold pv
  by_cases h0 : r = 0
  · rw [if_pos h0]; simp [h0]
  · rw [if_neg h0]
    refine ⟨fun z => ?_, fun z => absurd z h0⟩
    have := congrArg Int32.toInt z
    rw [nI_toInt (by omega)] at this
    have e : (-1000000 : Int32).toInt = -1000000 := by decide
    omega
theorem pace_c {w : Nat → Int32} {n s r : Nat} {b : St} (hn1 : 1 ≤ n) (hn : n ≤ 12) (hs : s ≤ 50) (hg : sGood b) (hr : FP (fun p => gP w n p (sHn b) (n - 1) b) s r) : ∀ (c m p : Nat) (M : tb_Mem), p + c = s + 1 → 1 ≤ p → c < m → (∀ q, 1 ≤ q → q < p → ¬ gP w n q (sHn b) (n - 1) b) → BK (b 0 0) b M 241 → CW w n M → ∃ M', fX3_leastPace_L2 m (nI s) (nI p) M = some (pv r, M') ∧ Fr 250 M M' := by
  intro c
  induction c with
  | zero =>
    intro m p M h1 h2 h3 h4 hb hw
    obtain ⟨m, rfl⟩ : ∃ k, m = k + 1 := ⟨m - 1, by omega⟩
    have : r = 0 := hr.un (Or.inl ⟨rfl, fun q q1 q2 => h4 q q1 (by omega)⟩)
    subst this
    exact ⟨M, by rw [fX3_leastPace_L2, if_pos (by rw [nI_ltI (by omega) (by omega)]; omega)]; rfl, Fr.rf⟩
  | succ c ih =>
    intro m p M h1 h2 h3 h4 hb hw
    obtain ⟨m, rfl⟩ : ∃ k, m = k + 1 := ⟨m - 1, by omega⟩
    obtain ⟨M1, e1, f1⟩ := goesAt_ok hn1 hn (p := p) (by omega) hg hb hw
    rw [fX3_leastPace_L2, if_neg (by rw [nI_ltI (by omega) (by omega)]; omega), e1, tb_b2_some]
    by_cases hp : gP w n p (sHn b) (n - 1) b
    · have : r = p := hr.un (Or.inr ⟨h2, by omega, hp, h4⟩)
      subst this
      rw [bI_t hp, if_neg (by decide)]
      exact ⟨M1, by unfold pv; rw [if_neg (by omega)], f1⟩
    · rw [bI_f hp, if_pos rfl, nI_1]
      obtain ⟨M2, e2, f2⟩ := ih m (p + 1) M1 (by omega) (by omega) (by omega) (fun q q1 q2 => by
        by_cases hq : q = p
        · rw [hq]; exact hp
        · exact h4 q q1 (by omega)) (hb.fr (fun q q1 q2 => f1 q (by omega))) (hw.fr (by rw [f1 240 (by omega)]) (f1 259 (by omega)))
      exact ⟨M2, e2, f1.trans f2⟩
theorem lpace_ok {w : Nat → Int32} {n s r : Nat} {b : St} {M : tb_Mem} (hn1 : 1 ≤ n) (hn : n ≤ 12) (hs : s ≤ 50) (hg : sGood b) (hr : FP (fun p => gP w n p (sHn b) (n - 1) b) s r) (hb : BK (b 0 0) b M 241) (hw : CW w n M) : ∃ M', fX3_leastPace (nI s) M = some (pv r, M') ∧ Fr 250 M M' :=
  pace_c hn1 hn hs hg hr s tb_N 1 M (by omega) (by omega) (by unfold tb_N; omega) (fun q q1 q2 => by omega) hb hw

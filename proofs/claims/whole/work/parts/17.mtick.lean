/-! the reference's tick -/
theorem s_l : ∀ n, n < 32 → ((nI n &&& 31).toBitVec.smod 32).toNat = n := by decide +kernel
theorem b_sshr (n : Nat) (hn : n < 32) (x : Int32) {i : Nat} (hi : i < 32) : bt (x >>> (nI n &&& 31)) i = if n + i < 32 then bt x (n + i) else bt x 31 := by
  unfold bt
  rw [Int32.toBitVec_shiftRight]
  show (x.toBitVec.sshiftRight ((nI n &&& 31).toBitVec.smod 32).toNat).getLsbD i = _
  rw [s_l n hn, BitVec.getLsbD_sshiftRight, BitVec.msb_eq_getLsbD_last]
  simp [hi]
theorem b_1 : ∀ i, i < 32 → bt 1 i = decide (i = 0) := by decide +kernel
theorem b_and1 (x : Int32) : (x &&& 1) = (if bt x 0 = true then 1 else 0) := by
  apply b_ext
  intro i hi
  rw [b_and, b_1 i hi]
  by_cases h0 : i = 0
  · subst h0
    cases h : bt x 0
    · simp [b_0]
    · simp [b_1 0 (by omega)]
  · cases h : bt x 0
    · simp [h0, b_0]
    · simp [h0, b_1 i hi]
theorem b_has {x : Int32} {k : Nat} (hk : k < 32) : ((x >>> (nI k &&& 31)) &&& 1) = (if bt x k = true then 1 else 0) := by
  rw [b_and1, b_sshr k hk x (by omega), if_pos (show k + 0 < 32 by omega), Nat.add_zero]
def tm (t : Nat) : Int32 := if t = 0 then (-1) else nI (t - 1)
theorem tm_0 : tm 0 = -1 := rfl
theorem tm_s (t : Nat) : tm (t + 1) = nI t := by simp [tm]
theorem tm_lt {t : Nat} (h : t ≤ 100) : tm t < 0 ↔ t = 0 := by
  unfold tm
  split
  · simp_all
  · rw [nI_lt0 (by omega)]; simp_all
theorem tm_ge {t : Nat} (h : t ≤ 100) : 0 ≤ tm t ↔ t ≠ 0 := by
  unfold tm
  split
  · simp_all
  · rw [nI_ge0 (by omega)]; simp_all
def RM1 (a : St) (c : Nat → Int32) (i : Nat) : Prop := c (2 + i) = tm (a 4 i) ∧ c (10 + i) = nI (a 5 i) ∧ c (18 + i) = nI (a 3 i) ∧ c (47 + i) = nI (a 2 i) ∧ c (55 + i) = nI (a 1 i)
def RM (a : St) (c : Nat → Int32) : Prop := c 46 = nI (a 0 0) ∧ (∀ i, i < a 0 0 → RM1 a c i) ∧ c 1 = nI (a 6 0) ∧ ∀ k, k < 20 → c (26 + k) = nI (a 7 k)
section FT
variable {M : tb_Mem} {q : Nat} {c : Nat → Int32} {a : St}
theorem X7_top {i : Nat} (hi : i < 8) (h2 : c (47 + i) = nI (a 2 i)) (h1 : c (55 + i) = nI (a 1 i)) (l : a 1 i ≤ 5) : fX7_top q (nI i) (tb_row M q c) = some (nI (sTop a i), tb_row M q c) := by
  unfold fX7_top
  rw [zl47, zl55, nI_add, nI_add, tb_in_t (by omega) (by omega), tb_ck_t, tb_in_t (by omega) (by omega), tb_ck_t, nI_clamp (by omega), nI_clamp (by omega), tb_row_same, h2, h1]
  unfold sTop
  by_cases h : a 1 i = 2
  · rw [if_pos (by rw [h]; rfl), if_pos h, nI_1]
  · rw [if_neg (by rw [zl2, nI_eq (by omega) (by omega)]; exact h), if_neg h, zl0, nI_add]
theorem X7_high_r {i : Nat} (hi : i < 8) (h2 : c (2 + i) < 0) (h10 : c (10 + i) = nI (a 5 i)) (l : a 5 i ≤ 5) : fX7_high q (nI i) (tb_row M q c) = some (nI (a 5 i), tb_row M q c) := by
  unfold fX7_high
  rw [zl2, zl10, nI_add, nI_add, tb_in_t (by omega) (by omega), tb_ck_t, nI_clamp (by omega), nI_clamp (by omega), tb_row_same]
  dsimp only [tb_let]
  rw [tb_in_t (by omega) (by omega), tb_ck_t, h10]
  by_cases h : 0 < a 5 i
  · rw [if_pos ((nI_gt0 (by omega)).mpr h)]
  · rw [if_neg (fun z => h ((nI_gt0 (by omega)).mp z)), if_neg (by
      rw [Int32.le_iff_toInt_le]; rw [Int32.lt_iff_toInt_lt] at h2
      have : (0 : Int32).toInt = 0 := rfl
      omega)]
theorem X7_high_m {i τ : Nat} (hi : i < 8) (hτ : τ ≤ 10) (h2 : c (2 + i) = nI τ) (h10 : c (10 + i) = 0) (h47 : c (47 + i) = nI (a 2 i)) (h55 : c (55 + i) = nI (a 1 i)) (hk : sTop a i ≤ 5) (l : a 1 i ≤ 5) :
    ∃ r : Int32, fX7_high q (nI i) (tb_row M q c) = some (r, tb_row M q c) ∧ (if 0 < r then r else 0) = nI (sHT a i τ) := by
  unfold fX7_high
  rw [show (2 : Int32) + nI i = nI (2 + i) from by rw [zl2, nI_add], show (10 : Int32) + nI i = nI (10 + i) from by rw [zl10, nI_add], tb_in_t (by omega) (by omega), tb_ck_t, nI_clamp (by omega), nI_clamp (by omega), tb_row_same]
  dsimp only [tb_let]
  rw [tb_in_t (by omega) (by omega), tb_ck_t, h10, h2, if_neg (by decide), if_pos ((nI_ge0 (by omega)).mpr trivial), X7_top hi h47 h55 l, tb_b2_some, show (55 : Int32) + nI i = nI (55 + i) from by rw [zl55, nI_add], tb_in_t (by omega) (by omega), tb_ck_t, nI_clamp (by omega), tb_row_same, h55]
  unfold sHT
  generalize sTop a i = T at *
  by_cases hle : τ ≤ T
  · rw [if_neg (by rw [nI_ltI (by omega) (by omega)]; omega), if_pos hle]
    refine ⟨_, rfl, ?_⟩
    by_cases h0 : τ = 0
    · subst h0; rfl
    · rw [if_pos ((nI_gt0 (by omega)).mpr (by omega))]
  · rw [if_pos (by rw [nI_ltI (by omega) (by omega)]; omega), if_neg hle]
    have h1 : nI τ - nI T = nI (τ - T) := pk_sub (by omega)
    rw [h1]
    refine ⟨_, rfl, ?_⟩
    by_cases hq3 : a 1 i = 3
    · have e : nI (a 1 i) = 3 := by rw [hq3]; rfl
      rw [if_pos e, if_pos hq3, zl2, pk_mul]
      by_cases hz : 2 * (τ - T) < T
      · rw [pk_sub (by omega), if_pos ((nI_gt0 (by omega)).mpr (by omega))]
      · have := pk_sub_toInt (a := T) (b := 2 * (τ - T)) (by omega) (by omega)
        rw [if_neg (by rw [Int32.lt_iff_toInt_lt, this]; simp; omega), zl0]
        congr 1; omega
    · have e : ¬ nI (a 1 i) = 3 := by rw [zl3, nI_eq (by omega) (by omega)]; exact hq3
      rw [if_neg e, if_neg hq3, zl1, pk_mul, Nat.one_mul]
      by_cases hz : τ - T < T
      · rw [pk_sub (by omega), if_pos ((nI_gt0 (by omega)).mpr (by omega))]
      · have := pk_sub_toInt (a := T) (b := τ - T) (by omega) (by omega)
        rw [if_neg (by rw [Int32.lt_iff_toInt_lt, this]; simp; omega), zl0]
        congr 1; omega
/-- its height, of a bar that moves above 0 -/
theorem X7_high {i : Nat} (hw : sWF a) (h : RM a c) (hi : i < a 0 0) (hp : a 4 i ≠ 0 → 0 < sHg a i) : fX7_high q (nI i) (tb_row M q c) = some (nI (sHg a i), tb_row M q c) := by
  obtain ⟨b1, b2, b3, b4, b5⟩ := h.2.1 i hi
  have hn := hw.1
  have ok := hw.2.1 i hi
  have lt := sTop_le ok
  have lh := sHg_le ok
  by_cases h4 : a 4 i = 0
  · have e : sHg a i = a 5 i := by simp [sHg, h4]
    rw [e]
    exact X7_high_r (by omega) (by rw [b1, h4]; decide) b2 ok.2.2.2.2.2.2.1
  · have h5 : a 5 i = 0 := by have := ok.2.2.2.2.2.2.2; omega
    have l4 := ok.2.2.2.2.2.1
    have e : sHg a i = sHT a i (a 4 i - 1) := by simp [sHg, h4]
    obtain ⟨r, e1, e2⟩ := X7_high_m (M := M) (q := q) (τ := a 4 i - 1) (a := a) (i := i) (c := c) (by omega) (by omega) (by rw [b1, tm, if_neg h4]) (by rw [b2, h5]; rfl) b4 b5 lt.2 ok.2.1
    rw [e1]
    have hp' := hp h4
    rw [← e] at e2
    by_cases hr : 0 < r
    · rw [if_pos hr] at e2
      rw [e2]
    · rw [if_neg hr, zl0] at e2
      have := nI_inj (by omega) (by omega) e2
      omega
theorem X7_tick7 (hw : sWF a) : ∀ (n i : Nat) (c : Nat → Int32), i ≤ a 0 0 → a 0 0 - i < n → RM (sMix a i) c → ∃ c', c' 0 = c 0 ∧ RM (sMix a (a 0 0)) c' ∧ fX7_tick_L7 q n (nI (a 0 0)) (nI i) (tb_row M q c) = fX7_tick_L73 q tb_N (nI (a 0 0)) 0 0 (tb_row M q c') := by
  intro n
  induction n with
  | zero => intro i c h1 h2; omega
  | succ n ih =>
    intro i c h1 h2 h
    have hn := hw.1
    rw [fX7_tick_L7]
    by_cases hi : i < a 0 0
    · obtain ⟨g1, g2, g3, g4⟩ := h
      have e0 : (sMix a i) 0 0 = a 0 0 := by rw [sMix_o (by omega)]
      rw [e0] at g1 g2
      obtain ⟨b1, b2, b3, b4, b5⟩ := g2 i hi
      rw [sMix_4, if_neg (show ¬ i < i by omega)] at b1
      rw [sMix_o (by omega)] at b2 b3 b4 b5
      have ok := hw.2.1 i hi
      have l4 := ok.2.2.2.2.2.1
      have lt := sTop_le ok
      rw [if_neg (by rw [nI_leI (by omega) (by omega)]; omega), show (2 : Int32) + nI i = nI (2 + i) from by rw [zl2, nI_add], tb_in_t (by omega) (by omega), tb_ck_t, nI_clamp (by omega), tb_row_same, b1, nI_1]
      dsimp only [tb_let]
      rw [tb_up_row, tb_row_same]
      have up : ∀ t, sT1 a i = t → RM (sMix a (i + 1)) (upd (upd c (2 + i) (tm (a 4 i) + (if 0 ≤ tm (a 4 i) then 1 else 0))) (2 + i) (tm t)) := by
        intro t ht
        have e0' : (sMix a (i + 1)) 0 0 = a 0 0 := by rw [sMix_o (by omega)]
        refine ⟨?_, fun j hj => ?_, ?_, fun k hk => ?_⟩
        · rw [e0']
          simp only [upd]
          rw [if_neg (by omega), if_neg (by omega)]
          exact g1
        · rw [e0'] at hj
          obtain ⟨d1, d2, d3, d4, d5⟩ := g2 j hj
          rw [sMix_o (by omega)] at d2 d3 d4 d5
          unfold RM1
          rw [sMix_o (show (5 : Nat) ≠ 4 by omega), sMix_o (show (3 : Nat) ≠ 4 by omega), sMix_o (show (2 : Nat) ≠ 4 by omega), sMix_o (show (1 : Nat) ≠ 4 by omega)]
          simp only [upd]
          rw [if_neg (show ¬ 10 + j = 2 + i by omega), if_neg (show ¬ 10 + j = 2 + i by omega), if_neg (show ¬ 18 + j = 2 + i by omega), if_neg (show ¬ 18 + j = 2 + i by omega), if_neg (show ¬ 47 + j = 2 + i by omega), if_neg (show ¬ 47 + j = 2 + i by omega), if_neg (show ¬ 55 + j = 2 + i by omega), if_neg (show ¬ 55 + j = 2 + i by omega)]
          refine ⟨?_, d2, d3, d4, d5⟩
          rw [sMix_4]
          rw [sMix_4] at d1
          by_cases hji : j = i
          · subst hji
            rw [if_pos rfl, if_pos (by omega), ht]
          · rw [if_neg (by omega), if_neg (by omega)]
            by_cases hlt : j < i
            · rw [if_pos (by omega)]
              rw [if_pos hlt] at d1
              exact d1
            · rw [if_neg (by omega)]
              rw [if_neg hlt] at d1
              exact d1
        · rw [sMix_o (by omega)]
          rw [sMix_o (by omega)] at g3
          simp only [upd]
          rw [if_neg (by omega), if_neg (by omega)]
          exact g3
        · rw [sMix_o (by omega)]
          have := g4 k hk
          rw [sMix_o (by omega)] at this
          simp only [upd]
          rw [if_neg (by omega), if_neg (by omega)]
          exact this
      have go : ∀ t, sT1 a i = t → ∃ c', c' 0 = c 0 ∧ RM (sMix a (a 0 0)) c' ∧ fX7_tick_L7 q n (nI (a 0 0)) (nI (i + 1)) (tb_row M q (upd (upd c (2 + i) (tm (a 4 i) + (if 0 ≤ tm (a 4 i) then 1 else 0))) (2 + i) (tm t))) = fX7_tick_L73 q tb_N (nI (a 0 0)) 0 0 (tb_row M q c') := by
        intro t ht
        obtain ⟨c', r1, r2, r3⟩ := ih (i + 1) _ (by omega) (by omega) (up t ht)
        refine ⟨c', ?_, r2, r3⟩
        rw [r1]
        simp only [upd]
        rw [if_neg (by omega), if_neg (by omega)]
      by_cases h4 : a 4 i = 0
      · have e1 : ∀ x : Int32, upd c (2 + i) x (2 + i) = x := fun x => by simp [upd]
        have g := go 0 (by simp [sT1, h4])
        have m0 : tm 0 + (if 0 ≤ tm 0 then 1 else 0) = -1 := by decide
        rw [h4, m0] at g ⊢
        rw [e1, if_pos (by decide), tb_up_row]
        exact g
      · have e1 : ∀ x : Int32, upd c (2 + i) x (2 + i) = x := fun x => by simp [upd]
        have et : tm (a 4 i) + (if 0 ≤ tm (a 4 i) then 1 else 0) = nI (a 4 i) := by
          rw [if_pos ((tm_ge (by omega)).mpr h4), tm, if_neg h4, nI_1]
          congr 1; omega
        have h5 : a 5 i = 0 := by have := ok.2.2.2.2.2.2.2; omega
        rw [et] at go ⊢
        rw [e1, if_neg (by rw [nI_lt0 (by omega)]; exact id)]
        obtain ⟨r, q1, q2⟩ := X7_high_m (M := M) (q := q) (τ := a 4 i) (a := a) (i := i) (c := upd c (2 + i) (nI (a 4 i))) (by omega) (by omega) (by simp [upd]) (by simp only [upd]; rw [if_neg (by omega), b2, h5]; rfl) (by simp only [upd]; rw [if_neg (by omega)]; exact b4) (by simp only [upd]; rw [if_neg (by omega)]; exact b5) lt.2 ok.2.1
        rw [q1, tb_b2_some]
        have hle := sHT_le a i (a 4 i)
        by_cases hr : 0 < r
        · rw [if_pos hr] at q2
          rw [if_pos hr, tb_row_same, e1, tb_up_row]
          have hz : sHT a i (a 4 i) ≠ 0 := by
            intro z
            rw [q2, z] at hr
            exact absurd hr (by decide)
          have g := go (a 4 i + 1) (by simp [sT1, h4, hz])
          rw [tm_s] at g
          exact g
        · rw [if_neg hr, zl0] at q2
          have hz := nI_inj (by omega) (by omega) q2
          rw [if_neg hr, tb_up_row]
          exact go 0 (by simp [sT1, h4, ← hz])
    · have hie : i = a 0 0 := by omega
      subst hie
      rw [if_pos (by rw [nI_leI (by omega) (by omega)]; omega)]
      exact ⟨c, rfl, h, rfl⟩
theorem b2i (b : Prop) [Decidable b] : ((if b then (1 : Int32) else 0) = 0) ↔ ¬ b := by
  by_cases h : b
  · simp [h]
  · simp [h]
/-- whether two meet -/
theorem X7_meets {i j : Nat} (hw : sWF a) (h : RM a c) (hi : i < a 0 0) (hj : j < a 0 0) (hp : ∀ i, i < a 0 0 → a 4 i ≠ 0 → 0 < sHg a i) : ∃ r : Int32, fX7_meets q (nI i) (nI j) (tb_row M q c) = some (r, tb_row M q c) ∧ (r = 0 ↔ ¬ sMeet a i j) := by
  have hn := hw.1
  obtain ⟨b1, b2, b3, b4, b5⟩ := h.2.1 i hi
  obtain ⟨d1, d2, d3, d4, d5⟩ := h.2.1 j hj
  have oi := hw.2.1 i hi
  have oj := hw.2.1 j hj
  have ti := sTop_le oi
  have tj := sTop_le oj
  have gi := sHg_le oi
  have gj := sHg_le oj
  have l4i := oi.2.2.2.2.2.1
  have l4j := oj.2.2.2.2.2.1
  have pi := oi.2.2.2.2.1
  have pj := oj.2.2.2.2.1
  unfold fX7_meets
  rw [X7_high hw h hi (hp i hi), tb_b2_some, X7_high hw h hj (hp j hj), tb_b2_some, show (18 : Int32) + nI i = nI (18 + i) from by rw [zl18, nI_add], show (18 : Int32) + nI j = nI (18 + j) from by rw [zl18, nI_add], tb_in_t (by omega) (by omega), tb_ck_t, tb_in_t (by omega) (by omega), tb_ck_t, nI_clamp (by omega), nI_clamp (by omega), tb_row_same, b3, d3]
  dsimp only [tb_let]
  rw [X7_top (by omega) b4 b5 oi.2.1, tb_b2_some]
  have ap1 : (nI (a 3 i) - nI (a 3 j) = 1) ↔ a 3 i = a 3 j + 1 := by
    have e := pk_sub_toInt (a := a 3 i) (b := a 3 j) (by omega) (by omega)
    rw [← Int32.toInt_inj, e]
    have : (1 : Int32).toInt = 1 := rfl
    omega
  have ap2 : (nI (a 3 i) - nI (a 3 j) = -1) ↔ a 3 j = a 3 i + 1 := by
    have e := pk_sub_toInt (a := a 3 i) (b := a 3 j) (by omega) (by omega)
    rw [← Int32.toInt_inj, e]
    have : (-1 : Int32).toInt = -1 := by decide
    omega
  have eqg : (nI (sHg a i) = nI (sHg a j)) ↔ sHg a i = sHg a j := nI_eq (by omega) (by omega)
  -- the tail, for a flag that says whether both are at their tops
  have tail : ∀ (v : Int32), (v = 0 ↔ ¬ (sHg a i = sTop a i ∧ sHg a j = sTop a j)) → ∃ r : Int32, (if nI (sHg a i) ≤ 0 then (some ((0 : Int32), tb_row M q c)) else (if nI (sHg a j) ≤ 0 then (some (0, tb_row M q c)) else (tb_ck (tb_in (2 + nI i) 63) (if 0 ≤ (tb_row M q c q (2 + nI i).toNatClampNeg) then (some (((if v = 0 then (if nI (sHg a i) = nI (sHg a j) then (if nI (a 3 i) - nI (a 3 j) = 1 then 1 else (if nI (a 3 i) - nI (a 3 j) = (-1) then 1 else 0)) else 0) else 1) : Int32), tb_row M q c)) else (tb_ck (tb_in (2 + nI j) 63) (some (((if (tb_row M q c q (2 + nI j).toNatClampNeg) < 0 then 0 else (if v = 0 then (if nI (sHg a i) = nI (sHg a j) then (if nI (a 3 i) - nI (a 3 j) = 1 then 1 else (if nI (a 3 i) - nI (a 3 j) = (-1) then 1 else 0)) else 0) else 1)) : Int32), tb_row M q c))))))) = some (r, tb_row M q c) ∧ (r = 0 ↔ ¬ sMeet a i j) := by
    intro v hv
    have core : ((if v = 0 then (if nI (sHg a i) = nI (sHg a j) then (if nI (a 3 i) - nI (a 3 j) = 1 then 1 else (if nI (a 3 i) - nI (a 3 j) = (-1) then 1 else 0)) else 0) else 1 : Int32) = 0) ↔ ¬ ((sHg a i = sTop a i ∧ sHg a j = sTop a j) ∨ (sHg a i = sHg a j ∧ (a 3 i = a 3 j + 1 ∨ a 3 j = a 3 i + 1))) := by
      by_cases hv0 : v = 0
      · have hv1 := hv.mp hv0
        rw [if_pos hv0]
        by_cases hg : sHg a i = sHg a j
        · rw [if_pos (eqg.mpr hg)]
          by_cases h1 : a 3 i = a 3 j + 1
          · rw [if_pos (ap1.mpr h1)]
            constructor
            · intro z; exact absurd z (by decide)
            · intro z; exact absurd (Or.inr ⟨hg, Or.inl h1⟩) z
          · rw [if_neg (fun z => h1 (ap1.mp z))]
            by_cases h2 : a 3 j = a 3 i + 1
            · rw [if_pos (ap2.mpr h2)]
              constructor
              · intro z; exact absurd z (by decide)
              · intro z; exact absurd (Or.inr ⟨hg, Or.inr h2⟩) z
            · rw [if_neg (fun z => h2 (ap2.mp z))]
              refine ⟨fun _ z => ?_, fun _ => rfl⟩
              rcases z with z | ⟨-, z | z⟩
              · exact hv1 z
              · exact h1 z
              · exact h2 z
        · rw [if_neg (fun z => hg (eqg.mp z))]
          refine ⟨fun _ z => ?_, fun _ => rfl⟩
          rcases z with z | z
          · exact hv1 z
          · exact hg z.1
      · rw [if_neg hv0]
        have hv1 : sHg a i = sTop a i ∧ sHg a j = sTop a j := Classical.byContradiction (fun z => hv0 (hv.mpr z))
        constructor
        · intro z; exact absurd z (by decide)
        · intro z; exact absurd (Or.inl hv1) z
    rw [show (2 : Int32) + nI i = nI (2 + i) from by rw [zl2, nI_add], show (2 : Int32) + nI j = nI (2 + j) from by rw [zl2, nI_add], tb_in_t (by omega) (by omega), tb_ck_t, tb_in_t (by omega) (by omega), tb_ck_t, nI_clamp (by omega), nI_clamp (by omega), tb_row_same, b1, d1]
    by_cases z1 : sHg a i = 0
    · rw [if_pos ((nI_le0 (by omega)).mpr z1)]
      exact ⟨0, rfl, fun _ z => by have := z.1; omega, fun _ => rfl⟩
    · rw [if_neg (fun z => z1 ((nI_le0 (by omega)).mp z))]
      by_cases z2 : sHg a j = 0
      · rw [if_pos ((nI_le0 (by omega)).mpr z2)]
        exact ⟨0, rfl, fun _ z => by have := z.2.1; omega, fun _ => rfl⟩
      · rw [if_neg (fun z => z2 ((nI_le0 (by omega)).mp z))]
        by_cases z3 : a 4 i = 0
        · rw [if_neg (fun z => (tm_ge (by omega)).mp z z3)]
          by_cases z4 : a 4 j = 0
          · rw [if_pos ((tm_lt (by omega)).mpr z4)]
            refine ⟨0, rfl, fun _ z => ?_, fun _ => rfl⟩
            rcases z.2.2.1 with w | w
            · exact w z3
            · exact w z4
          · rw [if_neg (fun z => z4 ((tm_lt (by omega)).mp z))]
            refine ⟨_, rfl, ?_⟩
            rw [core]
            constructor
            · intro w z; exact w z.2.2.2
            · intro w z; exact w ⟨by omega, by omega, Or.inr z4, z⟩
        · rw [if_pos ((tm_ge (by omega)).mpr z3)]
          refine ⟨_, rfl, ?_⟩
          rw [core]
          constructor
          · intro w z; exact w z.2.2.2
          · intro w z; exact w ⟨by omega, by omega, Or.inl z3, z⟩
  by_cases ht : sHg a i = sTop a i
  · rw [if_pos (by rw [ht]), X7_top (by omega) d4 d5 oj.2.1, tb_b2_some]
    refine tail _ ?_
    rw [b2i]
    constructor
    · intro z w; exact z (by rw [w.2])
    · intro z w; exact z ⟨ht, nI_inj (by omega) (by omega) w⟩
  · rw [if_neg (fun z => ht (nI_inj (by omega) (by omega) z))]
    unfold fX7_meets_J51 fX7_meets_J52
    exact tail 0 ⟨fun _ z => ht z.1, fun _ => rfl⟩
/-- the inner loop over pairs -/
theorem X7_tick83 (hw : sWF a) (h : RM a c) (hp : ∀ i, i < a 0 0 → a 4 i ≠ 0 → 0 < sHg a i) {i : Nat} (hi : i < a 0 0) (K : Int32 → Int32 → Int32 → tb_Mem → Option (Int32 × tb_Mem)) : ∀ (n j : Nat) (x : Int32) (f : Nat → Bool), i < j → j ≤ a 0 0 → a 0 0 - j < n → Mk x f (a 0 0) →
    ∃ y g, fX7_tick_L83 q K n (nI (a 0 0)) x (nI i) (nI j) (tb_row M q c) = K (nI (a 0 0)) y (nI (i + 1)) (tb_row M q c) ∧ Mk y g (a 0 0) ∧ ∀ k, k < a 0 0 → (g k = true ↔ f k = true ∨ ∃ v, j ≤ v ∧ v < a 0 0 ∧ sMeet a i v ∧ (k = i ∨ k = v)) := by
  intro n
  induction n with
  | zero => intro j x f h1 h2 h3; omega
  | succ n ih =>
    intro j x f h1 h2 h3 hx
    have hn := hw.1
    rw [fX7_tick_L83]
    by_cases hj : j < a 0 0
    · rw [if_neg (by rw [nI_leI (by omega) (by omega)]; omega)]
      obtain ⟨r, e1, e2⟩ := X7_meets (M := M) (q := q) hw h hi hj hp
      rw [e1, tb_b2_some, nI_1]
      dsimp only [tb_let]
      have next : ∀ (x' : Int32) (f' : Nat → Bool), Mk x' f' (a 0 0) → (∀ k, k < a 0 0 → (f' k = true ↔ f k = true ∨ (sMeet a i j ∧ (k = i ∨ k = j)))) → ∃ y g, fX7_tick_L83 q K n (nI (a 0 0)) x' (nI i) (nI (j + 1)) (tb_row M q c) = K (nI (a 0 0)) y (nI (i + 1)) (tb_row M q c) ∧ Mk y g (a 0 0) ∧ ∀ k, k < a 0 0 → (g k = true ↔ f k = true ∨ ∃ v, j ≤ v ∧ v < a 0 0 ∧ sMeet a i v ∧ (k = i ∨ k = v)) := by
        intro x' f' hx' hf'
        obtain ⟨y, g, w1, w2, w3⟩ := ih (j + 1) x' f' (by omega) (by omega) (by omega) hx'
        refine ⟨y, g, w1, w2, fun k hk => ?_⟩
        rw [w3 k hk, hf' k hk]
        constructor
        · rintro ((z | z) | ⟨v, z1, z2, z3⟩)
          · exact Or.inl z
          · exact Or.inr ⟨j, Nat.le_refl _, hj, z⟩
          · exact Or.inr ⟨v, by omega, z2, z3⟩
        · rintro (z | ⟨v, z1, z2, z3⟩)
          · exact Or.inl (Or.inl z)
          · rcases Nat.eq_or_lt_of_le z1 with e | e
            · subst e; exact Or.inl (Or.inr z3)
            · exact Or.inr ⟨v, e, z2, z3⟩
      by_cases hr : r = 0
      · rw [if_pos hr]
        have e0 : x ||| 0 = x := b_ext (fun j _ => by rw [b_or, b_0]; simp)
        rw [e0]
        exact next x f hx (fun k _ => ⟨fun z => Or.inl z, fun z => z.elim id (fun z => absurd z.1 (e2.mp hr))⟩)
      · rw [if_neg hr]
        have hm : sMeet a i j := Classical.byContradiction (fun z => hr (e2.mpr z))
        refine next _ _ (hx.or ((Mk.one hi (by omega)).or (Mk.one hj (by omega)))) (fun k _ => ?_)
        simp only [Bool.or_eq_true, decide_eq_true_eq]
        constructor
        · rintro (z | z)
          · exact Or.inl z
          · exact Or.inr ⟨hm, z⟩
        · rintro (z | z)
          · exact Or.inl z
          · exact Or.inr z.2
    · rw [if_pos (by rw [nI_leI (by omega) (by omega)]; omega), nI_1]
      exact ⟨x, f, rfl, hx, fun k _ => ⟨fun z => Or.inl z, fun z => z.elim id (fun ⟨v, z1, z2, _⟩ => by omega)⟩⟩
theorem X7_tick73 (hw : sWF a) (h : RM a c) (hp : ∀ i, i < a 0 0 → a 4 i ≠ 0 → 0 < sHg a i) : ∀ (n i : Nat) (x : Int32) (f : Nat → Bool), i ≤ a 0 0 → a 0 0 - i < n → Mk x f (a 0 0) →
    ∃ y g, fX7_tick_L73 q n (nI (a 0 0)) x (nI i) (tb_row M q c) = fX7_tick_L128 q tb_N (nI (a 0 0)) y 0 (tb_row M q c) ∧ Mk y g (a 0 0) ∧ ∀ k, k < a 0 0 → (g k = true ↔ f k = true ∨ ∃ u v, i ≤ u ∧ u < v ∧ v < a 0 0 ∧ sMeet a u v ∧ (k = u ∨ k = v)) := by
  intro n
  induction n with
  | zero => intro i x f h1 h2; omega
  | succ n ih =>
    intro i x f h1 h2 hx
    have hn := hw.1
    rw [fX7_tick_L73]
    by_cases hi : i < a 0 0
    · rw [if_neg (by rw [nI_leI (by omega) (by omega)]; omega), nI_1]
      obtain ⟨y, g, e1, e2, e3⟩ := X7_tick83 (M := M) (q := q) hw h hp hi (fun z1 z2 z3 M => fX7_tick_L73 q n z1 z2 z3 M) tb_N (i + 1) x f (by omega) (by omega) (by unfold tb_N; omega) hx
      rw [e1]
      obtain ⟨y2, g2, w1, w2, w3⟩ := ih (i + 1) y g (by omega) (by omega) e2
      refine ⟨y2, g2, w1, w2, fun k hk => ?_⟩
      rw [w3 k hk, e3 k hk]
      constructor
      · rintro ((z | ⟨v, z1, z2, z3⟩) | ⟨u, v, z1, z2, z3, z4⟩)
        · exact Or.inl z
        · exact Or.inr ⟨i, v, Nat.le_refl _, by omega, z2, z3⟩
        · exact Or.inr ⟨u, v, by omega, z2, z3, z4⟩
      · rintro (z | ⟨u, v, z1, z2, z3, z4⟩)
        · exact Or.inl (Or.inl z)
        · rcases Nat.eq_or_lt_of_le z1 with e | e
          · subst e; exact Or.inl (Or.inr ⟨v, by omega, z3, z4⟩)
          · exact Or.inr ⟨u, v, e, z2, z3, z4⟩
    · rw [if_pos (by rw [nI_leI (by omega) (by omega)]; omega)]
      exact ⟨x, f, rfl, hx, fun k _ => ⟨fun z => Or.inl z, fun z => z.elim id (fun ⟨u, v, z1, z2, z3, _⟩ => by omega)⟩⟩
end FT

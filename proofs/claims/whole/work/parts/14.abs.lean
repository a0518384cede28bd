/-! the abstract basket: a 0 0 how many, a 1 kinds, a 2 rises, a 3 places, a 4 times (0: does not move, else TIME and 1), a 5 heights of those that hang, a 6 0 the column, a 7 the paper, a 8 the bar at a place -/
abbrev St : Type := Nat → Nat → Nat
def sset (a : St) (k : Nat) (f : Nat → Nat) : St := fun j => if j = k then f else a j
theorem sset_s (a : St) (k : Nat) (f : Nat → Nat) : sset a k f k = f := by simp [sset]
theorem sset_n {a : St} {k j : Nat} {f : Nat → Nat} (h : j ≠ k) : sset a k f j = a j := by simp [sset, h]
def sTop (a : St) (i : Nat) : Nat := a 2 i + (if a 1 i = 2 then 1 else 0)
def sHT (a : St) (i τ : Nat) : Nat := if τ ≤ sTop a i then τ else sTop a i - (if a 1 i = 3 then 2 * (τ - sTop a i) else τ - sTop a i)
def sHg (a : St) (i : Nat) : Nat := if a 4 i = 0 then a 5 i else sHT a i (a 4 i - 1)
def sOK (a : St) (i : Nat) : Prop := 1 ≤ a 1 i ∧ a 1 i ≤ 5 ∧ 1 ≤ a 2 i ∧ a 2 i ≤ 4 ∧ a 3 i < a 0 0 ∧ a 4 i ≤ 10 ∧ a 5 i ≤ 5 ∧ (a 4 i = 0 ∨ a 5 i = 0)
def sWF (a : St) : Prop := a 0 0 ≤ 8 ∧ (∀ i, i < a 0 0 → sOK a i) ∧ (∀ i, i < a 0 0 → a 8 (a 3 i) = i ∧ a 8 i < a 0 0 ∧ a 3 (a 8 i) = i) ∧ a 6 0 ≤ 20 ∧ (∀ k, k < 20 → a 7 k ≤ 8)
def sMv (a : St) : Nat → Bool := fun i => decide (a 4 i ≠ 0)
def sHn (a : St) : Nat → Bool := fun i => decide (a 5 i ≠ 0)
/-- of one bar: rows of the basket's memory; k: those below it have their height -/
def RB1 (k : Nat) (a : St) (F : tb_Mem) (i : Nat) : Prop :=
  F 1 i = nI (a 1 i) ∧ F 2 i = nI (a 2 i) ∧ F 3 i = nI (sTop a i) ∧ F 4 i = nI (a 3 i) ∧ F 5 i = nI (a 8 i) ∧ (a 4 i ≠ 0 → F 6 i = nI (a 4 i - 1)) ∧ ((a 4 i = 0 ∨ i < k) → F 7 i = nI (sHg a i))
def RB (k : Nat) (a : St) (F : tb_Mem) : Prop :=
  F 0 8 = nI (a 0 0) ∧ (∀ i, i < a 0 0 → RB1 k a F i) ∧ Mk (F 0 9) (sMv a) (a 0 0) ∧ Mk (F 0 10) (sHn a) (a 0 0) ∧ F 0 11 = nI (a 6 0) ∧ ∀ j, j < 20 → F 8 j = nI (a 7 j)
theorem sTop_le {a : St} {i : Nat} (h : sOK a i) : 1 ≤ sTop a i ∧ sTop a i ≤ 5 := by
  unfold sTop
  obtain ⟨h1, h2, h3, h4, -⟩ := h
  split <;> omega
theorem sHT_le (a : St) (i τ : Nat) : sHT a i τ ≤ sTop a i := by
  unfold sHT
  split <;> omega
theorem sHg_le {a : St} {i : Nat} (h : sOK a i) : sHg a i ≤ 5 := by
  unfold sHg
  have h1 := sHT_le a i (a 4 i - 1)
  have h2 := sTop_le h
  obtain ⟨-, -, -, -, -, -, h3, -⟩ := h
  split <;> omega
/-- the next TIME and 1 -/
def sT1 (a : St) (i : Nat) : Nat := if a 4 i = 0 then 0 else if sHT a i (a 4 i) = 0 then 0 else a 4 i + 1
def sMix (a : St) (k : Nat) : St := sset a 4 (fun i => if i < k then sT1 a i else a 4 i)
theorem sMix_4 (a : St) (k i : Nat) : sMix a k 4 i = if i < k then sT1 a i else a 4 i := by simp [sMix, sset]
theorem sMix_o {a : St} {k j : Nat} (h : j ≠ 4) : sMix a k j = a j := sset_n h
theorem sMix_top (a : St) (k i : Nat) : sTop (sMix a k) i = sTop a i := by simp [sTop, sMix_o]
theorem sMix_HT (a : St) (k i τ : Nat) : sHT (sMix a k) i τ = sHT a i τ := by simp [sHT, sMix_top, sMix_o]
theorem sT1_le {a : St} {i : Nat} (h : sOK a i) : sT1 a i ≤ 10 := by
  have h2 := sTop_le h
  obtain ⟨-, -, -, -, -, h3, -⟩ := h
  unfold sT1 sHT
  by_cases h0 : a 4 i = 0
  · rw [if_pos h0]; omega
  · rw [if_neg h0]
    by_cases h1 : a 4 i ≤ sTop a i
    · rw [if_pos h1]; split <;> omega
    · rw [if_neg h1]
      by_cases h5 : a 1 i = 3
      · rw [if_pos h5]; split <;> omega
      · rw [if_neg h5]; split <;> omega
section FB
variable {M : tb_Mem} {p : Nat} {F : tb_Mem} {a : St}
theorem X2_moves (hR : Mk (F 0 9) (sMv a) (a 0 0)) (hn : a 0 0 ≤ 8) {i : Nat} (hi : i < a 0 0) : fX2_moves p (nI i) (bm M p F) = some ((if a 4 i = 0 then 0 else 1), bm M p F) := by
  unfold fX2_moves
  rw [bm_0]
  have h := hR.test (k := i) hi (by omega)
  by_cases h0 : a 4 i = 0
  · rw [if_pos (h.mpr (by simp [sMv, h0])), if_pos h0]
  · rw [if_neg (fun z => h0 (by simpa [sMv] using h.mp z)), if_neg h0]
theorem X2_hbt {i τ : Nat} (hi : i < 8) (hs : F 1 i = nI (a 1 i)) (ht : F 3 i = nI (sTop a i)) (h6 : F 6 i = nI τ) (hk : sTop a i ≤ 5) (hq : a 1 i ≤ 5) (hτ : τ ≤ 10) :
    ∃ r : Int32, fX2_heightByTime p (nI i) (bm M p F) = some (r, bm M p F) ∧ (if 0 < r then r else 0) = nI (sHT a i τ) := by
  unfold fX2_heightByTime
  rw [tb_in_t hi (by omega), tb_ck_t, nI_clamp (by omega), bm_at _ _ _ (by omega), bm_at _ _ _ (by omega), bm_at _ _ _ (by omega), hs, ht, h6]
  dsimp only [tb_let]
  unfold sHT
  generalize sTop a i = T at *
  by_cases hle : τ ≤ T
  · have : ¬ (0 : Int32) < nI τ - nI T := by
      have := pk_sub_toInt (a := τ) (b := T) (by omega) (by omega)
      rw [Int32.lt_iff_toInt_lt, this]
      simp; omega
    rw [if_neg this, if_pos hle]
    refine ⟨_, rfl, ?_⟩
    by_cases h0 : τ = 0
    · subst h0; rfl
    · rw [if_pos ((nI_gt0 (by omega)).mpr (by omega))]
  · have h1 : nI τ - nI T = nI (τ - T) := pk_sub (by omega)
    rw [h1, if_pos ((nI_gt0 (by omega)).mpr (by omega)), if_neg hle, zl3]
    by_cases hq3 : a 1 i = 3
    · rw [if_pos (by rw [hq3]), if_pos hq3]
      refine ⟨_, rfl, ?_⟩
      rw [zl2, pk_mul]
      by_cases hz : 2 * (τ - T) < T
      · rw [pk_sub (by omega), if_pos ((nI_gt0 (by omega)).mpr (by omega))]
      · have := pk_sub_toInt (a := T) (b := 2 * (τ - T)) (by omega) (by omega)
        rw [if_neg (by rw [Int32.lt_iff_toInt_lt, this]; simp; omega), zl0]
        congr 1; omega
    · rw [if_neg (by rw [nI_eq (by omega) (by omega)]; exact hq3), if_neg hq3]
      refine ⟨_, rfl, ?_⟩
      by_cases hz : τ - T < T
      · rw [pk_sub (by omega), if_pos ((nI_gt0 (by omega)).mpr (by omega))]
      · have := pk_sub_toInt (a := T) (b := τ - T) (by omega) (by omega)
        rw [if_neg (by rw [Int32.lt_iff_toInt_lt, this]; simp; omega), zl0]
        congr 1; omega
/-- one bar's step in riseAndFall -/
theorem RB.rise {i : Nat} (hw : sWF a) (hi : i < a 0 0) (h : RB i (sMix a i) F) (F' : tb_Mem) (h4 : a 4 i ≠ 0) (hF : ∀ k, k ≠ 0 → k ≠ 6 → k ≠ 7 → F' k = F k) (h6 : F' 6 = upd (F 6) i (nI (a 4 i))) (h7 : F' 7 = upd (F 7) i (nI (sHT a i (a 4 i)))) (h0 : ∀ k, k ≠ 9 → F' 0 k = F 0 k) (h9 : F' 0 9 = if sHT a i (a 4 i) = 0 then (F 0 9) &&& ((1 <<< (nI i &&& 31)) ^^^ (-1)) else F 0 9) : RB (i + 1) (sMix a (i + 1)) F' := by
  obtain ⟨g1, g2, g3, g4, g5, g6⟩ := h
  have e0 : (sMix a i) 0 0 = a 0 0 := by rw [sMix_o (by omega)]
  have e0' : (sMix a (i + 1)) 0 0 = a 0 0 := by rw [sMix_o (by omega)]
  have hn := hw.1
  refine ⟨by rw [h0 8 (by omega), g1, e0, e0'], fun j hj => ?_, ?_, ?_, by rw [h0 11 (by omega), g5, sMix_o (by omega), sMix_o (by omega)], fun j hj => by rw [hF 8 (by omega) (by omega) (by omega), g6 j hj, sMix_o (by omega), sMix_o (by omega)]⟩
  · rw [e0'] at hj
    obtain ⟨b1, b2, b3, b4, b5, b6, b7⟩ := g2 j (by rw [e0]; exact hj)
    simp only [sMix_top, sMix_4, sMix_o (show (1 : Nat) ≠ 4 by omega), sMix_o (show (2 : Nat) ≠ 4 by omega), sMix_o (show (3 : Nat) ≠ 4 by omega), sMix_o (show (8 : Nat) ≠ 4 by omega)] at b1 b2 b3 b4 b5 b6 b7
    unfold RB1
    simp only [sMix_top, sMix_4, sMix_o (show (1 : Nat) ≠ 4 by omega), sMix_o (show (2 : Nat) ≠ 4 by omega), sMix_o (show (3 : Nat) ≠ 4 by omega), sMix_o (show (8 : Nat) ≠ 4 by omega), hF 1 (by omega) (by omega) (by omega), hF 2 (by omega) (by omega) (by omega), hF 3 (by omega) (by omega) (by omega), hF 4 (by omega) (by omega) (by omega), hF 5 (by omega) (by omega) (by omega), h6, h7]
    refine ⟨b1, b2, b3, b4, b5, ?_, ?_⟩
    · intro hne
      by_cases hji : j = i
      · subst hji
        rw [if_pos (by omega)] at hne ⊢
        simp only [upd, if_pos]
        unfold sT1 at hne ⊢
        rw [if_neg h4] at hne ⊢
        by_cases hz : sHT a j (a 4 j) = 0
        · rw [if_pos hz] at hne; exact absurd rfl hne
        · rw [if_neg hz]; rfl
      · simp only [upd, if_neg hji]
        by_cases hlt : j < i
        · rw [if_pos (by omega)] at hne ⊢
          rw [if_pos hlt] at b6
          exact b6 hne
        · rw [if_neg (by omega)] at hne ⊢
          rw [if_neg hlt] at b6
          exact b6 hne
    · intro hc
      by_cases hji : j = i
      · subst hji
        simp only [upd, if_pos]
        unfold sHg
        rw [sMix_4, if_pos (show j < j + 1 by omega), sMix_HT, sMix_o (show (5 : Nat) ≠ 4 by omega)]
        unfold sT1
        rw [if_neg h4]
        by_cases hz : sHT a j (a 4 j) = 0
        · rw [if_pos hz, if_pos rfl, hz]
          have h5 := (hw.2.1 j hi).2.2.2.2.2.2.2
          rcases h5 with h5 | h5
          · exact absurd h5 h4
          · rw [h5]
        · rw [if_neg hz, if_neg (by omega)]; rfl
      · simp only [upd, if_neg hji]
        have e : sHg (sMix a (i + 1)) j = sHg (sMix a i) j := by
          unfold sHg
          simp only [sMix_4, sMix_HT, sMix_o (show (5 : Nat) ≠ 4 by omega)]
          by_cases hlt : j < i
          · rw [if_pos (show j < i + 1 by omega), if_pos hlt]
          · rw [if_neg (show ¬ j < i + 1 by omega), if_neg hlt]
        rw [e]
        apply b7
        by_cases hlt : j < i
        · exact Or.inr hlt
        · rw [if_neg hlt]
          rw [if_neg (show ¬ j < i + 1 by omega)] at hc
          rcases hc with hc | hc
          · exact Or.inl hc
          · omega
  · rw [h9, e0']
    rw [e0] at g3
    by_cases hz : sHT a i (a 4 i) = 0
    · rw [if_pos hz]
      refine (g3.andn (Mk.one hi (by omega))).congr (fun j hj => ?_)
      simp only [sMv, sMix_4]
      by_cases hji : j = i
      · subst hji
        rw [if_pos (show j < j + 1 by omega)]
        simp [sT1, h4, hz]
      · by_cases hlt : j < i
        · simp [hji, hlt, show j < i + 1 by omega]
        · simp [hji, hlt, show ¬ j < i + 1 by omega]
    · rw [if_neg hz]
      refine g3.congr (fun j hj => ?_)
      simp only [sMv, sMix_4]
      by_cases hji : j = i
      · subst hji
        rw [if_neg (show ¬ j < j by omega), if_pos (show j < j + 1 by omega)]
        simp [sT1, h4, hz]
      · by_cases hlt : j < i
        · simp [hlt, show j < i + 1 by omega]
        · simp [hlt, show ¬ j < i + 1 by omega]
  · rw [h0 10 (by omega), e0']
    rw [e0] at g4
    refine g4.congr (fun j hj => ?_)
    simp [sHn, sMix_o]
theorem X2_rise_loop (hw : sWF a) : ∀ (n i : Nat) (F : tb_Mem), i ≤ a 0 0 → a 0 0 - i < n → RB i (sMix a i) F → ∃ F', fX2_riseAndFall_L2 p n (nI i) (bm M p F) = some (bm M p F') ∧ F' 0 12 = F 0 12 ∧ RB (a 0 0) (sMix a (a 0 0)) F' := by
  intro n
  induction n with
  | zero => intro i F h1 h2; omega
  | succ n ih =>
    intro i F h1 h2 h
    have hn := hw.1
    have e0 : (sMix a i) 0 0 = a 0 0 := by rw [sMix_o (by omega)]
    have h8 := h.1
    rw [e0] at h8
    rw [fX2_riseAndFall_L2, bm_0, h8]
    by_cases hi : i < a 0 0
    · rw [if_neg (by rw [nI_leI (by omega) (by omega)]; omega)]
      have hmv := X2_moves (M := M) (p := p) (a := sMix a i) (F := F) h.2.2.1 (by omega) (i := i) (by omega)
      rw [hmv, tb_b2_some, sMix_4, if_neg (show ¬ i < i by omega), nI_1]
      by_cases h4 : a 4 i = 0
      · rw [if_pos h4, if_pos rfl]
        refine ih (i + 1) F (by omega) (by omega) ?_
        obtain ⟨g1, g2, g3, g4, g5, g6⟩ := h
        have e4 : ∀ j, sMix a (i + 1) 4 j = sMix a i 4 j := by
          intro j
          rw [sMix_4, sMix_4]
          by_cases hji : j = i
          · subst hji
            rw [if_pos (by omega), if_neg (by omega)]
            simp [sT1, h4]
          · by_cases hlt : j < i
            · rw [if_pos (by omega), if_pos hlt]
            · rw [if_neg (by omega), if_neg hlt]
        have eM : sMix a (i + 1) = sMix a i := by
          funext c j
          by_cases hc : c = 4
          · subst hc; exact e4 j
          · rw [sMix_o hc, sMix_o hc]
        rw [eM]
        refine ⟨g1, fun j hj => ?_, g3, g4, g5, g6⟩
        obtain ⟨b1, b2, b3, b4, b5, b6, b7⟩ := g2 j hj
        refine ⟨b1, b2, b3, b4, b5, b6, fun hc => b7 ?_⟩
        rcases hc with hc | hc
        · exact Or.inl hc
        · by_cases hji : j = i
          · subst hji
            exact Or.inl (by rw [sMix_4, if_neg (by omega)]; exact h4)
          · exact Or.inr (by omega)
      · rw [if_neg h4, if_neg (by decide)]
        obtain ⟨b1, b2, b3, b4, b5, b6, b7⟩ := h.2.1 i (by omega)
        have h6 := b6 (by rw [sMix_4, if_neg (by omega)]; exact h4)
        rw [sMix_4, if_neg (by omega)] at h6
        rw [sMix_o (by omega)] at b1
        rw [sMix_top] at b3
        have hok := hw.2.1 i hi
        have htop := sTop_le hok
        rw [tb_in_t (by omega) (by omega), tb_ck_t, nI_clamp (by omega), bm_at _ _ _ (by omega), bm_up _ _ _ _ _ (by omega), h6, nI_1, show a 4 i - 1 + 1 = a 4 i by omega]
        dsimp only [tb_let]
        obtain ⟨r, e1, e2⟩ := X2_hbt (M := M) (p := p) (F := tb_up F 6 i (nI (a 4 i))) (a := a) (i := i) (τ := a 4 i) (by omega) (by rw [tb_up_ne (by omega)]; exact b1) (by rw [tb_up_ne (by omega)]; exact b3) (by rw [tb_up_same]; simp [upd]) htop.2 hok.2.1 hok.2.2.2.2.2.1
        rw [e1, tb_b2_some, e2, bm_up _ _ _ _ _ (by omega), bm_at _ _ _ (by omega), tb_up_same]
        have hle := sHT_le a i (a 4 i)
        rw [show upd (tb_up F 6 i (nI (a 4 i)) 7) i (nI (sHT a i (a 4 i))) i = nI (sHT a i (a 4 i)) by simp [upd]]
        have hz0 := nI_is0 (a := sHT a i (a 4 i)) (by omega)
        by_cases hz : sHT a i (a 4 i) = 0
        · rw [if_pos (hz0.mpr hz), bm_0, bm_up0]
          obtain ⟨F', q1, q2, q3⟩ := ih (i + 1) _ (by omega) (by omega) (RB.rise hw hi h (tb_up (tb_up (tb_up F 6 i (nI (a 4 i))) 7 i (nI (sHT a i (a 4 i)))) 0 9 ((tb_up (tb_up F 6 i (nI (a 4 i))) 7 i (nI (sHT a i (a 4 i)))) 0 9 &&& ((1 <<< (nI i &&& 31)) ^^^ (-1)))) h4
            (fun k k0 k6 k7 => by rw [tb_up_ne k0, tb_up_ne k7, tb_up_ne k6]) (by rw [tb_up_ne (by omega), tb_up_ne (by omega), tb_up_same]) (by rw [tb_up_ne (by omega), tb_up_same, tb_up_ne (by omega)]) (fun k hk => by rw [tb_up_same]; simp only [upd, if_neg hk]; rw [tb_up_ne (by omega), tb_up_ne (by omega)]) (by rw [tb_up_same, if_pos hz]; simp only [upd, if_pos]; rw [tb_up_ne (by omega), tb_up_ne (by omega)]))
          refine ⟨F', q1, ?_, q3⟩
          rw [q2, tb_up_same]
          simp only [upd]
          rw [if_neg (by omega), tb_up_ne (by omega), tb_up_ne (by omega)]
        · rw [if_neg (fun z => hz (hz0.mp z))]
          obtain ⟨F', q1, q2, q3⟩ := ih (i + 1) _ (by omega) (by omega) (RB.rise hw hi h (tb_up (tb_up F 6 i (nI (a 4 i))) 7 i (nI (sHT a i (a 4 i)))) h4
            (fun k k0 k6 k7 => by rw [tb_up_ne k7, tb_up_ne k6]) (by rw [tb_up_ne (by omega), tb_up_same]) (by rw [tb_up_same, tb_up_ne (by omega)]) (fun k hk => by rw [tb_up_ne (by omega), tb_up_ne (by omega)]) (by rw [if_neg hz, tb_up_ne (by omega), tb_up_ne (by omega)]))
          refine ⟨F', q1, ?_, q3⟩
          rw [q2, tb_up_ne (by omega), tb_up_ne (by omega)]
    · have hie : i = a 0 0 := by omega
      subst hie
      rw [if_pos (by rw [nI_leI (by omega) (by omega)]; omega)]
      exact ⟨F, rfl, rfl, h⟩
theorem sMix_0 (a : St) : sMix a 0 = a := by
  funext c j
  by_cases hc : c = 4
  · subst hc; rw [sMix_4, if_neg (by omega)]
  · rw [sMix_o hc]
theorem X2_rise (hw : sWF a) (h : RB 0 a F) : ∃ F', fX2_riseAndFall p (bm M p F) = some (bm M p F') ∧ F' 0 12 = F 0 12 ∧ RB (a 0 0) (sMix a (a 0 0)) F' := by
  have h0 : RB 0 (sMix a 0) F := by rw [sMix_0]; exact h
  have hn := hw.1
  exact X2_rise_loop hw tb_N 0 F (Nat.zero_le _) (by unfold tb_N; omega) h0
end FB

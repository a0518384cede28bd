/-! the reference's tick, second half -/
noncomputable def sJk (a : St) (k : Nat) : St := sset (sset a 5 (fun i => if i < k ∧ sHang a i = true then sHg a i else a 5 i)) 4 (fun i => if i < k ∧ sHang a i = true then 0 else a 4 i)
theorem sJk_o {a : St} {k c : Nat} (h4 : c ≠ 4) (h5 : c ≠ 5) : sJk a k c = a c := by unfold sJk; rw [sset_n h4, sset_n h5]
theorem sJk_4 (a : St) (k i : Nat) : sJk a k 4 i = if i < k ∧ sHang a i = true then 0 else a 4 i := by unfold sJk; rw [sset_s]
theorem sJk_5 (a : St) (k i : Nat) : sJk a k 5 i = if i < k ∧ sHang a i = true then sHg a i else a 5 i := by unfold sJk; rw [sset_n (by omega), sset_s]
theorem RM.jk {a b : St} {c d : Nat → Int32} {i : Nat} (h : RM a c) (hn : a 0 0 ≤ 8) (hb : ∀ k, k ≠ 4 → k ≠ 5 → b k = a k) (h4 : ∀ j, j < a 0 0 → j ≠ i → b 4 j = a 4 j ∧ b 5 j = a 5 j) (hd : ∀ k, k ≠ 0 → k ≠ 2 + i → k ≠ 10 + i → d k = c k) (hi : i < a 0 0) (d2 : d (2 + i) = tm (b 4 i)) (d10 : d (10 + i) = nI (b 5 i)) : RM b d := by
  obtain ⟨g1, g2, g3, g4⟩ := h
  have e0 : b 0 0 = a 0 0 := by rw [hb 0 (by omega) (by omega)]
  refine ⟨by rw [hd 46 (by omega) (by omega) (by omega), e0, g1], fun j hj => ?_, by rw [hd 1 (by omega) (by omega) (by omega), hb 6 (by omega) (by omega), g3], fun k hk => by rw [hd _ (by omega) (by omega) (by omega), hb 7 (by omega) (by omega), g4 k hk]⟩
  obtain ⟨f1, f2, f3, f4, f5⟩ := g2 j (by omega)
  refine ⟨?_, ?_, by rw [hd _ (by omega) (by omega) (by omega), hb 3 (by omega) (by omega)]; exact f3, by rw [hd _ (by omega) (by omega) (by omega), hb 2 (by omega) (by omega)]; exact f4, by rw [hd _ (by omega) (by omega) (by omega), hb 1 (by omega) (by omega)]; exact f5⟩
  · by_cases e : j = i
    · subst e; exact d2
    · rw [hd _ (by omega) (by omega) (by omega), (h4 j (by omega) e).1]; exact f1
  · by_cases e : j = i
    · subst e; exact d10
    · rw [hd _ (by omega) (by omega) (by omega), (h4 j (by omega) e).2]; exact f2
section FU
variable {M : tb_Mem} {q : Nat} {a : St}
theorem X7_tick128 (hw : sWF a) (hp : ∀ i, i < a 0 0 → a 4 i ≠ 0 → 0 < sHg a i) {y : Int32} (hy : Mk y (sHang a) (a 0 0)) : ∀ (n i : Nat) (c : Nat → Int32), i ≤ a 0 0 → a 0 0 - i < n → RM (sJk a i) c → ∃ c', c' 0 = c 0 ∧ RM (sJk a (a 0 0)) c' ∧ fX7_tick_L128 q n (nI (a 0 0)) y (nI i) (tb_row M q c) = fX7_tick_L177 q tb_N (nI (a 0 0)) 0 0 (tb_row M q c') := by
  intro n
  induction n with
  | zero => intro i c h1 h2; omega
  | succ n ih =>
    intro i c h1 h2 h
    have hn := hw.1
    rw [fX7_tick_L128]
    by_cases hi : i < a 0 0
    · have e0 : (sJk a i) 0 0 = a 0 0 := by rw [sJk_o (by omega) (by omega)]
      have hb := h.2.1 i (by omega)
      obtain ⟨b1, b2, b3, b4, b5⟩ := hb
      have ok := hw.2.1 i hi
      have l4 := ok.2.2.2.2.2.1
      have lt := sTop_le ok
      have lg := sHg_le ok
      rw [sJk_4, if_neg (fun z => by omega)] at b1
      rw [sJk_5, if_neg (fun z => by omega)] at b2
      rw [sJk_o (by omega) (by omega)] at b4 b5
      have cs : ∀ k, k ≠ 4 → k ≠ 5 → sJk a (i + 1) k = sJk a i k := fun k k4 k5 => by rw [sJk_o k4 k5, sJk_o k4 k5]
      have c4 : ∀ j, j < (sJk a i) 0 0 → j ≠ i → sJk a (i + 1) 4 j = sJk a i 4 j ∧ sJk a (i + 1) 5 j = sJk a i 5 j := by
        intro j _ hj
        rw [sJk_4, sJk_4, sJk_5, sJk_5]
        by_cases hlt : j < i
        · simp only [hlt, show j < i + 1 by omega, true_and, and_self]
        · simp only [hlt, show ¬ j < i + 1 by omega, false_and, if_false, and_self]
      have go : ∀ d : Nat → Int32, d 0 = c 0 → (∀ k, k ≠ 0 → k ≠ 2 + i → k ≠ 10 + i → d k = c k) → d (2 + i) = tm (sJk a (i + 1) 4 i) → d (10 + i) = nI (sJk a (i + 1) 5 i) → ∃ c', c' 0 = c 0 ∧ RM (sJk a (a 0 0)) c' ∧ fX7_tick_L128 q n (nI (a 0 0)) y (nI (i + 1)) (tb_row M q d) = fX7_tick_L177 q tb_N (nI (a 0 0)) 0 0 (tb_row M q c') := by
        intro d d0 dk d2 d10
        obtain ⟨c', r1, r2, r3⟩ := ih (i + 1) d (by omega) (by omega) (h.jk (by omega) cs c4 dk (by omega) d2 d10)
        exact ⟨c', by rw [r1, d0], r2, r3⟩
      unfold fX7_has
      rw [if_neg (by rw [nI_leI (by omega) (by omega)]; omega), tb_b2_some, b_has (by omega), hy i (by omega), nI_1]
      simp only [hi, decide_true, Bool.true_and]
      cases hh : sHang a i
      · simp only [Bool.false_eq_true, if_false, show ¬ ((0 : Int32) = 1) by decide, if_true]
        refine go c rfl (fun _ _ _ _ => rfl) ?_ ?_
        · rw [b1, sJk_4, if_neg (by simp [hh])]
        · rw [b2, sJk_5, if_neg (by simp [hh])]
      · simp only [if_true, show ¬ ((1 : Int32) = 0) by decide, if_false]
        rw [show (2 : Int32) + nI i = nI (2 + i) from by rw [zl2, nI_add], show (10 : Int32) + nI i = nI (10 + i) from by rw [zl10, nI_add], tb_in_t (by omega) (by omega), tb_ck_t, nI_clamp (by omega), nI_clamp (by omega), tb_row_same, b1]
        by_cases h4 : a 4 i = 0
        · rw [if_pos ((tm_lt (by omega)).mpr h4)]
          refine go c rfl (fun _ _ _ _ => rfl) ?_ ?_
          · rw [b1, sJk_4, if_pos ⟨by omega, hh⟩, h4]
          · rw [b2, sJk_5, if_pos ⟨by omega, hh⟩]
            simp [sHg, h4]
        · rw [if_neg (fun z => h4 ((tm_lt (by omega)).mp z))]
          have h5 : a 5 i = 0 := by have := ok.2.2.2.2.2.2.2; omega
          obtain ⟨r, q1, q2⟩ := X7_high_m (M := M) (q := q) (τ := a 4 i - 1) (a := a) (i := i) (c := c) (by omega) (by omega) (by rw [b1, tm, if_neg h4]) (by rw [b2, h5]; rfl) b4 b5 lt.2 ok.2.1
          have e : sHg a i = sHT a i (a 4 i - 1) := by simp [sHg, h4]
          rw [← e] at q2
          have hpos := hp i hi h4
          have er : r = nI (sHg a i) := by
            by_cases hr : 0 < r
            · rw [if_pos hr] at q2; exact q2
            · rw [if_neg hr, zl0] at q2
              have := nI_inj (by omega) (by omega) q2
              omega
          rw [q1, tb_b2_some, tb_in_t (by omega) (by omega), tb_ck_t, er]
          dsimp only [tb_let]
          rw [tb_up_row, tb_up_row]
          refine go _ ?_ ?_ ?_ ?_
          · simp only [upd]; rw [if_neg (by omega), if_neg (by omega)]
          · intro k k0 k2 k10; simp only [upd]; rw [if_neg k2, if_neg k10]
          · rw [sJk_4, if_pos ⟨by omega, hh⟩]; simp [upd, tm]
          · rw [sJk_5, if_pos ⟨by omega, hh⟩]; simp only [upd]; rw [if_neg (by omega), if_pos trivial]
    · have hie : i = a 0 0 := by omega
      subst hie
      rw [if_pos (by rw [nI_leI (by omega) (by omega)]; omega)]
      exact ⟨c, rfl, h, rfl⟩
theorem sJk_0 (a : St) : sJk a 0 = a := by
  funext c j
  by_cases h4 : c = 4
  · subst h4; rw [sJk_4, if_neg (by omega)]
  · by_cases h5 : c = 5
    · subst h5; rw [sJk_5, if_neg (by omega)]
    · rw [sJk_o h4 h5]
/-- RM depends on the bars that are there alone -/
theorem RM.congr {a b : St} {c : Nat → Int32} (h : RM a c) (h0 : b 0 0 = a 0 0) (hb : ∀ i, i < a 0 0 → b 1 i = a 1 i ∧ b 2 i = a 2 i ∧ b 3 i = a 3 i ∧ b 4 i = a 4 i ∧ b 5 i = a 5 i) (h6 : b 6 0 = a 6 0) (h7 : ∀ k, k < 20 → b 7 k = a 7 k) : RM b c := by
  obtain ⟨g1, g2, g3, g4⟩ := h
  refine ⟨by rw [h0]; exact g1, fun i hi => ?_, by rw [h6]; exact g3, fun k hk => by rw [h7 k hk]; exact g4 k hk⟩
  obtain ⟨e1, e2, e3, e4, e5⟩ := hb i (by omega)
  unfold RM1
  rw [e1, e2, e3, e4, e5]
  exact g2 i (by omega)
theorem X7_prints {i : Nat} {c : Nat → Int32} (hw : sWF a) (h : RM a c) (hi : i < a 0 0) : ∃ c', fX7_prints q (nI i) (tb_row M q c) = some (tb_row M q c') ∧ RM (sPr a i) c' ∧ c' 0 = c 0 := by
  have hn := hw.1
  have hcol := hw.2.2.2.1
  obtain ⟨g1, g2, g3, g4⟩ := id h
  have b5 := (g2 i hi).2.2.2.2
  have ok := hw.2.1 i hi
  have ok1 := ok.2.1
  unfold fX7_prints
  rw [tb_row_same, g3]
  by_cases hc : a 6 0 < 20
  · have mk : ∀ d : Nat → Int32, (∀ k, k ≠ 1 → k ≠ 26 + a 6 0 → d k = c k) → d 1 = nI (sPr a i 6 0) → d (26 + a 6 0) = nI (sPr a i 7 (a 6 0)) → RM (sPr a i) d := by
      intro d hd d1 d26
      refine ⟨by rw [hd 46 (by omega) (by omega), sPr_o (by omega) (by omega)]; exact g1, fun j hj => ?_, d1, fun k hk => ?_⟩
      · rw [sPr_o (by omega) (by omega)] at hj
        obtain ⟨f1, f2, f3, f4, f5⟩ := g2 j hj
        unfold RM1
        rw [sPr_o (show (4 : Nat) ≠ 6 by omega) (by omega), sPr_o (show (5 : Nat) ≠ 6 by omega) (by omega), sPr_o (show (3 : Nat) ≠ 6 by omega) (by omega), sPr_o (show (2 : Nat) ≠ 6 by omega) (by omega), sPr_o (show (1 : Nat) ≠ 6 by omega) (by omega), hd _ (by omega) (by omega), hd _ (by omega) (by omega), hd _ (by omega) (by omega), hd _ (by omega) (by omega), hd _ (by omega) (by omega)]
        exact ⟨f1, f2, f3, f4, f5⟩
      · by_cases hk2 : k = a 6 0
        · subst hk2; exact d26
        · rw [hd _ (by omega) (by omega), g4 k hk]
          congr 1
          unfold sPr
          rw [if_pos hc, sset_n (by omega), sset_s]
          split
          · rfl
          · simp [hk2]
    have e55 : (55 : Int32) + nI i = nI (55 + i) := by rw [zl55, nI_add]
    have e26 : (26 : Int32) + nI (a 6 0) = nI (26 + a 6 0) := by rw [zl26, nI_add]
    rw [e55, e26, if_neg (by rw [zl20, nI_leI (by omega) (by omega)]; omega), tb_in_t (by omega) (by omega), tb_ck_t, nI_clamp (by omega), tb_in_t (by omega) (by omega), tb_ck_t, tb_ck_t, nI_clamp (by omega), b5]
    dsimp only [tb_let]
    rw [tb_up_row, tb_row_same, tb_up_row, tb_up_row, tb_row_same, tb_up_row]
    have rd : ∀ x : Int32, upd c (26 + a 6 0) x (55 + i) = nI (a 1 i) := fun x => by simp only [upd]; rw [if_neg (by omega)]; exact b5
    have rd1 : ∀ x : Int32, upd c (26 + a 6 0) x 1 = nI (a 6 0) := fun x => by simp only [upd]; rw [if_neg (by omega)]; exact g3
    have col : nI (a 6 0) + (if nI (a 1 i) = 4 then 0 else 1) = nI (sPr a i 6 0) := by
      unfold sPr
      rw [if_pos hc, sset_s]
      by_cases h4 : a 1 i = 4
      · have : nI (a 1 i) = 4 := by rw [h4]; rfl
        rw [if_pos this, if_pos h4, zl0, nI_add, Nat.add_zero]
      · have : ¬ nI (a 1 i) = 4 := by rw [zl4, nI_eq (by omega) (by omega)]; exact h4
        rw [if_neg this, if_neg h4, nI_1]
    rw [rd, rd, rd1, rd1, col]
    by_cases h5 : a 1 i = 5
    · rw [if_pos (by rw [h5]; rfl)]
      refine ⟨_, rfl, mk _ ?_ ?_ ?_, ?_⟩
      · intro k k1 k26; simp only [upd]; rw [if_neg k1, if_neg k26]
      · simp only [upd, if_pos]
      · simp only [upd]; rw [if_neg (by omega), if_pos trivial, g4 _ hc]
        unfold sPr
        rw [if_pos hc, sset_n (by omega), sset_s, if_pos h5]
      · simp only [upd]; rw [if_neg (by omega), if_neg (by omega)]
    · rw [if_neg (by rw [zl5, nI_eq (by omega) (by omega)]; exact h5), nI_1]
      refine ⟨_, rfl, mk _ ?_ ?_ ?_, ?_⟩
      · intro k k1 k26; simp only [upd]; rw [if_neg k1, if_neg k26]
      · simp only [upd, if_pos]
      · simp only [upd]; rw [if_neg (by omega), if_pos trivial]
        unfold sPr
        rw [if_pos hc, sset_n (by omega), sset_s, if_neg h5]
        simp
      · simp only [upd]; rw [if_neg (by omega), if_neg (by omega)]
  · rw [if_pos (by rw [zl20, nI_leI (by omega) (by omega)]; omega)]
    refine ⟨c, rfl, ?_, rfl⟩
    unfold sPr
    rw [if_neg hc]
    exact h
theorem X7_tick177 (hw : sWF a) : ∀ (n i : Nat) (c : Nat → Int32), i ≤ a 0 0 → a 0 0 - i < n → RM (sPs a i) c → ∃ c', c' 0 = c 0 + 1 ∧ RM (sPs a (a 0 0)) c' ∧ fX7_tick_L177 q n (nI (a 0 0)) (nI (sPc a i)) (nI i) (tb_row M q c) = some (nI (sPc a (a 0 0)), tb_row M q c') := by
  intro n
  induction n with
  | zero => intro i c h1 h2; omega
  | succ n ih =>
    intro i c h1 h2 h
    have hn := hw.1
    rw [fX7_tick_L177]
    by_cases hi : i < a 0 0
    · have e0 : (sPs a i) 0 0 = a 0 0 := by rw [sPs_o a (by omega) (by omega)]
      obtain ⟨b1, b2, b3, b4, b5⟩ := h.2.1 i (by omega)
      have cs : ∀ c, c ≠ 6 → c ≠ 7 → sPs a i c = a c := fun c h6 h7 => sPs_o a h6 h7 i
      have ok := hw.2.1 i hi
      have l4 := ok.2.2.2.2.2.1
      have lt := sTop_le ok
      rw [cs 4 (by omega) (by omega)] at b1
      rw [if_neg (by rw [nI_leI (by omega) (by omega)]; omega), show (2 : Int32) + nI i = nI (2 + i) from by rw [zl2, nI_add], tb_in_t (by omega) (by omega), tb_ck_t, nI_clamp (by omega), tb_row_same, b1, nI_1]
      have tt := X7_top (M := M) (q := q) (a := sPs a i) (c := c) (i := i) (by omega) b4 b5 (by rw [cs 1 (by omega) (by omega)]; exact ok.2.1)
      rw [sTop_c i cs] at tt
      by_cases h4 : a 4 i = 0
      · rw [if_pos ((tm_lt (by omega)).mpr h4)]
        have es : sPs a (i + 1) = sPs a i := by rw [sPs, if_neg (by omega)]
        have ec : sPc a (i + 1) = sPc a i := by rw [sPc, if_neg (by omega)]
        rw [← ec]
        exact ih (i + 1) c (by omega) (by omega) (by rw [es]; exact h)
      · rw [if_neg (fun z => h4 ((tm_lt (by omega)).mp z)), tt, tb_b2_some]
        have et : tm (a 4 i) = nI (a 4 i - 1) := by rw [tm, if_neg h4]
        rw [et]
        by_cases hp : a 4 i = sTop a i + 1
        · rw [if_pos (by congr 1; omega)]
          obtain ⟨c', q1, q2, q3⟩ := X7_prints (M := M) (q := q) (i := i) (sPs_wf hw i (by omega)) h (by omega)
          rw [q1, tb_b1_some, nI_1]
          have es : sPs a (i + 1) = sPr (sPs a i) i := by rw [sPs, if_pos hp]
          have ec : sPc a (i + 1) = sPc a i + 1 := by rw [sPc, if_pos hp]
          rw [← ec]
          obtain ⟨c2, r1, r2, r3⟩ := ih (i + 1) c' (by omega) (by omega) (by rw [es]; exact q2)
          exact ⟨c2, by rw [r1, q3], r2, r3⟩
        · rw [if_neg (fun z => hp (by have := nI_inj (by omega) (by omega) z; omega))]
          have es : sPs a (i + 1) = sPs a i := by rw [sPs, if_neg hp]
          have ec : sPc a (i + 1) = sPc a i := by rw [sPc, if_neg hp]
          rw [← ec]
          exact ih (i + 1) c (by omega) (by omega) (by rw [es]; exact h)
    · have hie : i = a 0 0 := by omega
      subst hie
      rw [if_pos (by rw [nI_leI (by omega) (by omega)]; omega), tb_row_same]
      dsimp only [tb_let]
      rw [tb_up_row]
      refine ⟨_, by simp [upd], ?_, rfl⟩
      obtain ⟨g1, g2, g3, g4⟩ := h
      refine ⟨by simp only [upd]; rw [if_neg (by omega)]; exact g1, fun j hj => ?_, by simp only [upd]; rw [if_neg (by omega)]; exact g3, fun k hk => by simp only [upd]; rw [if_neg (by omega)]; exact g4 k hk⟩
      obtain ⟨f1, f2, f3, f4, f5⟩ := g2 j hj
      unfold RM1
      simp only [upd]
      rw [if_neg (by omega), if_neg (by omega), if_neg (by omega), if_neg (by omega), if_neg (by omega)]
      exact ⟨f1, f2, f3, f4, f5⟩
/-- THE REFERENCE'S TICK is the abstract one -/
theorem X7_tick {c : Nat → Int32} (hw : sWF a) (h : RM a c) : ∃ c', fX7_tick q (tb_row M q c) = some (nI (sTc a), tb_row M q c') ∧ RM (sTk a) c' ∧ c' 0 = c 0 + 1 := by
  have hn := hw.1
  unfold fX7_tick
  rw [tb_row_same, h.1]
  obtain ⟨c1, e1, e2, e3⟩ := X7_tick7 (M := M) (q := q) hw tb_N 0 c (Nat.zero_le _) (by unfold tb_N; omega) (by rw [sMix_0]; exact h)
  have e3' : fX7_tick_L7 q tb_N (nI (a 0 0)) 0 (tb_row M q c) = _ := e3
  rw [e3']
  have w1 := sMix_wf hw
  have n1 : (sMix a (a 0 0)) 0 0 = a 0 0 := by rw [sMix_o (by omega)]
  have hp : ∀ i, i < (sMix a (a 0 0)) 0 0 → (sMix a (a 0 0)) 4 i ≠ 0 → 0 < sHg (sMix a (a 0 0)) i := by
    intro i hi h4
    rw [n1] at hi
    unfold sHg
    rw [if_neg h4, sMix_HT]
    rw [sMix_4, if_pos hi] at h4 ⊢
    unfold sT1 at h4 ⊢
    by_cases z : a 4 i = 0
    · rw [if_pos z] at h4; exact absurd rfl h4
    · rw [if_neg z] at h4 ⊢
      by_cases z2 : sHT a i (a 4 i) = 0
      · rw [if_pos z2] at h4; exact absurd rfl h4
      · rw [if_neg z2]
        show 0 < sHT a i (a 4 i)
        omega
  obtain ⟨y, g, f1, f2, f3⟩ := X7_tick73 (M := M) (q := q) w1 e2 hp tb_N 0 0 (fun _ => false) (Nat.zero_le _) (by rw [n1]; unfold tb_N; omega) (Mk.zero (fun _ _ => rfl))
  rw [n1] at f1 f2
  have f1' : fX7_tick_L73 q tb_N (nI (a 0 0)) 0 0 (tb_row M q c1) = _ := f1
  rw [f1']
  have hy : Mk y (sHang (sMix a (a 0 0))) (a 0 0) := by
    refine f2.congr (fun k hk => ?_)
    rw [Bool.eq_iff_iff, f3 k (by rw [n1]; exact hk), sHang_iff (by rw [n1]; exact hk), n1]
    constructor
    · rintro (z | ⟨u, v, -, z2, z3, z4, z5⟩)
      · cases z
      · rcases z5 with z5 | z5
        · subst z5; exact ⟨v, z3, by omega, z4⟩
        · subst z5; exact ⟨u, by omega, by omega, z4.symm⟩
    · rintro ⟨j, j1, j2, j3⟩
      rcases Nat.lt_or_ge k j with hlt | hge
      · exact Or.inr ⟨k, j, Nat.zero_le _, hlt, j1, j3, Or.inl rfl⟩
      · exact Or.inr ⟨j, k, Nat.zero_le _, by omega, hk, j3.symm, Or.inr rfl⟩
  obtain ⟨c2, g1, g2, g3⟩ := X7_tick128 (M := M) (q := q) w1 hp (by rw [n1]; exact hy) tb_N 0 c1 (Nat.zero_le _) (by rw [n1]; unfold tb_N; omega) (by rw [sJk_0]; exact e2)
  rw [n1] at g2 g3
  have g3' : fX7_tick_L128 q tb_N (nI (a 0 0)) y 0 (tb_row M q c1) = _ := g3
  rw [g3']
  have w2 := sJam_wf w1
  have n2 : (sJam (sMix a (a 0 0))) 0 0 = a 0 0 := by rw [sJam_o (by omega) (by omega), n1]
  have r2 : RM (sJam (sMix a (a 0 0))) c2 := by
    refine g2.congr (by rw [sJam_o (by omega) (by omega), sJk_o (by omega) (by omega)]) (fun i hi => ?_) (by rw [sJam_o (by omega) (by omega), sJk_o (by omega) (by omega)]) (fun k hk => by rw [sJam_o (by omega) (by omega), sJk_o (by omega) (by omega)])
    rw [sJk_o (by omega) (by omega), n1] at hi
    rw [sJam_4, sJam_5, sJk_4, sJk_5, sJam_o (show (1 : Nat) ≠ 4 by omega) (by omega), sJk_o (show (1 : Nat) ≠ 4 by omega) (by omega), sJam_o (show (2 : Nat) ≠ 4 by omega) (by omega), sJk_o (show (2 : Nat) ≠ 4 by omega) (by omega), sJam_o (show (3 : Nat) ≠ 4 by omega) (by omega), sJk_o (show (3 : Nat) ≠ 4 by omega) (by omega)]
    simp only [hi, true_and, and_self]
  obtain ⟨c3, k1, k2, k3⟩ := X7_tick177 (M := M) (q := q) w2 tb_N 0 c2 (Nat.zero_le _) (by rw [n2]; unfold tb_N; omega) r2
  rw [n2] at k2 k3
  have k3' : fX7_tick_L177 q tb_N (nI (a 0 0)) 0 0 (tb_row M q c2) = _ := k3
  rw [k3']
  exact ⟨c3, rfl, k2, by rw [k1, g1, e1]⟩
end FU

/-! printing, and the whole tick of the class's basket -/
theorem sTop_c {a b : St} (i : Nat) (h : ∀ c, c ≠ 6 → c ≠ 7 → b c = a c) : sTop b i = sTop a i := by
  unfold sTop; rw [h 2 (by omega) (by omega), h 1 (by omega) (by omega)]
theorem sHg_c {a b : St} (i : Nat) (h : ∀ c, c ≠ 6 → c ≠ 7 → b c = a c) : sHg b i = sHg a i := by
  unfold sHg sHT; rw [sTop_c i h, h 1 (by omega) (by omega), h 4 (by omega) (by omega), h 5 (by omega) (by omega)]
theorem RB_67 {k : Nat} {a b : St} {F G : tb_Mem} (h : RB k a F) (ha : ∀ c, c ≠ 6 → c ≠ 7 → b c = a c) (hF : ∀ c, c ≠ 0 → c ≠ 8 → G c = F c) (h0 : ∀ j, j ≠ 11 → j ≠ 12 → G 0 j = F 0 j) (h11 : G 0 11 = nI (b 6 0)) (h8 : ∀ j, j < 20 → G 8 j = nI (b 7 j)) : RB k b G := by
  obtain ⟨g1, g2, g3, g4, g5, g6⟩ := h
  have e0 : b 0 0 = a 0 0 := by rw [ha 0 (by omega) (by omega)]
  refine ⟨by rw [h0 8 (by omega) (by omega), e0, g1], fun i hi => ?_, ?_, ?_, h11, h8⟩
  · obtain ⟨b1, b2, b3, b4, b5, b6, b7⟩ := g2 i (by omega)
    refine ⟨?_, ?_, ?_, ?_, ?_, ?_, ?_⟩
    · rw [hF 1 (by omega) (by omega), ha 1 (by omega) (by omega)]; exact b1
    · rw [hF 2 (by omega) (by omega), ha 2 (by omega) (by omega)]; exact b2
    · rw [hF 3 (by omega) (by omega), sTop_c i ha]; exact b3
    · rw [hF 4 (by omega) (by omega), ha 3 (by omega) (by omega)]; exact b4
    · rw [hF 5 (by omega) (by omega), ha 8 (by omega) (by omega)]; exact b5
    · rw [hF 6 (by omega) (by omega), ha 4 (by omega) (by omega)]; exact b6
    · rw [hF 7 (by omega) (by omega), ha 4 (by omega) (by omega), sHg_c i ha]; exact b7
  · rw [h0 9 (by omega) (by omega), e0]
    exact g3.congr (fun i _ => by simp only [sMv]; rw [ha 4 (by omega) (by omega)])
  · rw [h0 10 (by omega) (by omega), e0]
    exact g4.congr (fun i _ => by simp only [sHn]; rw [ha 5 (by omega) (by omega)])
/-- bar b prints -/
def sPr (a : St) (b : Nat) : St := if a 6 0 < 20 then sset (sset a 7 (if a 1 b = 5 then a 7 else fun k => if k = a 6 0 then b + 1 else a 7 k)) 6 (fun _ => if a 1 b = 4 then a 6 0 else a 6 0 + 1) else a
theorem sPr_o {a : St} {b c : Nat} (h6 : c ≠ 6) (h7 : c ≠ 7) : sPr a b c = a c := by
  unfold sPr
  split
  · rw [sset_n h6, sset_n h7]
  · rfl
def sPrt (a : St) (i : Nat) : Prop := a 4 i = sTop a i + 1
theorem sWF_67 {a b : St} (h : sWF a) (ha : ∀ c, c ≠ 6 → c ≠ 7 → b c = a c) (h6 : b 6 0 ≤ 20) (h7 : ∀ k, k < 20 → b 7 k ≤ 8) : sWF b := by
  obtain ⟨g1, g2, g3, g4, g5⟩ := h
  have e0 : b 0 0 = a 0 0 := by rw [ha 0 (by omega) (by omega)]
  refine ⟨by omega, fun i hi => ?_, fun i hi => ?_, h6, h7⟩
  · have := g2 i (by omega)
    unfold sOK at this ⊢
    rw [ha 1 (by omega) (by omega), ha 2 (by omega) (by omega), ha 3 (by omega) (by omega), ha 4 (by omega) (by omega), ha 5 (by omega) (by omega), e0]
    exact this
  · rw [ha 8 (by omega) (by omega), ha 3 (by omega) (by omega), e0]
    exact g3 i (by omega)
theorem sPr_wf {a : St} {b : Nat} (h : sWF a) (hb : b < a 0 0) : sWF (sPr a b) := by
  have hn := h.1
  refine sWF_67 h (fun c h6 h7 => sPr_o h6 h7) ?_ ?_
  · unfold sPr
    have := h.2.2.2.1
    split
    · rw [sset_s]; split <;> omega
    · exact this
  · intro k hk
    have := h.2.2.2.2 k hk
    unfold sPr
    split
    · rw [sset_n (by omega), sset_s]
      split
      · exact this
      · dsimp only; split <;> omega
    · exact this
section FP
variable {M : tb_Mem} {p : Nat} {F : tb_Mem} {a : St}
theorem X2_strike {k i : Nat} (hw : sWF a) (h : RB k a F) (hi : i < a 0 0) : ∃ F', fX2_strike p (nI i) (bm M p F) = some (bm M p F') ∧ RB k (sPr a i) F' ∧ F' 0 12 = F 0 12 := by
  have hn := hw.1
  have hcol := hw.2.2.2.1
  have b1 := (h.2.1 i hi).1
  have ok := hw.2.1 i hi
  have ok1 := ok.2.1
  have e11 := h.2.2.2.2.1
  unfold fX2_strike
  rw [bm_0, e11]
  by_cases hc : a 6 0 < 20
  · rw [zl20, zl5, zl4, if_pos (by rw [nI_ltI (by omega) (by omega)]; exact hc), tb_in_t (by omega) (by omega), tb_ck_t, nI_clamp (by omega), bm_at _ _ _ (by omega), b1]
    dsimp only [tb_let]
    by_cases h5 : a 1 i = 5
    · rw [if_pos (by rw [h5]), if_neg (by rw [h5]; decide), bm_up0, nI_1]
      refine ⟨_, rfl, RB_67 h (fun c h6 h7 => sPr_o h6 h7) (fun c c0 c8 => tb_up_ne c0) (fun j hj _ => by rw [tb_up_same]; simp [upd, hj]) ?_ (fun j hj => ?_), by rw [tb_up_same]; simp [upd]⟩
      · rw [tb_up_same]
        simp [upd, sPr, hc, sset_s, h5]
      · rw [tb_up_ne (by omega), h.2.2.2.2.2 j hj]
        simp [sPr, hc, sset, h5]
    · rw [if_neg (by rw [nI_eq (by omega) (by omega)]; exact h5), tb_in_t (by omega) (by omega), tb_ck_t, nI_clamp (by omega), bm_up _ _ _ _ _ (by omega), bm_at _ _ _ (by omega), tb_up_ne (by omega), b1, bm_0, tb_up_ne (show (0 : Nat) ≠ 8 by omega), e11, nI_1, nI_1]
      by_cases h4 : a 1 i = 4
      · rw [if_pos (by rw [h4])]
        refine ⟨_, rfl, RB_67 h (fun c h6 h7 => sPr_o h6 h7) (fun c c0 c8 => tb_up_ne c8) (fun j hj _ => by rw [tb_up_ne (by omega)]) ?_ (fun j hj => ?_), by rw [tb_up_ne (by omega)]⟩
        · rw [tb_up_ne (by omega), e11]
          simp [sPr, hc, sset_s, h4]
        · rw [tb_up_same]
          simp only [upd, sPr, hc, if_true, sset_n (show (7 : Nat) ≠ 6 by omega), sset_s, h5, if_false]
          split
          · rfl
          · exact h.2.2.2.2.2 j hj
      · rw [if_neg (by rw [nI_eq (by omega) (by omega)]; exact h4), bm_up0]
        refine ⟨_, rfl, RB_67 h (fun c h6 h7 => sPr_o h6 h7) (fun c c0 c8 => by rw [tb_up_ne c0, tb_up_ne c8]) (fun j hj _ => by rw [tb_up_same]; simp only [upd, if_neg hj]; rw [tb_up_ne (by omega)]) ?_ (fun j hj => ?_), by rw [tb_up_same]; simp only [upd]; rw [if_neg (by omega), tb_up_ne (by omega)]⟩
        · rw [tb_up_same]
          simp [upd, sPr, hc, sset_s, h4]
        · rw [tb_up_ne (by omega), tb_up_same]
          simp only [upd, sPr, hc, if_true, sset_n (show (7 : Nat) ≠ 6 by omega), sset_s, h5, if_false]
          split
          · rfl
          · exact h.2.2.2.2.2 j hj
  · rw [zl20, if_neg (by rw [nI_ltI (by omega) (by omega)]; exact hc)]
    refine ⟨F, rfl, ?_, rfl⟩
    unfold sPr
    rw [if_neg hc]
    exact h
end FP
/-- behind the bars below k have printed -/
def sPs (a : St) : Nat → St
  | 0 => a
  | k + 1 => if a 4 k = sTop a k + 1 then sPr (sPs a k) k else sPs a k
def sPc (a : St) : Nat → Nat
  | 0 => 0
  | k + 1 => if a 4 k = sTop a k + 1 then sPc a k + 1 else sPc a k
theorem sPs_o (a : St) {c : Nat} (h6 : c ≠ 6) (h7 : c ≠ 7) : ∀ k, sPs a k c = a c
  | 0 => rfl
  | k + 1 => by
    rw [sPs]
    split
    · rw [sPr_o h6 h7, sPs_o a h6 h7 k]
    · exact sPs_o a h6 h7 k
theorem sPs_wf {a : St} (h : sWF a) : ∀ k, k ≤ a 0 0 → sWF (sPs a k)
  | 0, _ => h
  | k + 1, hk => by
    rw [sPs]
    split
    · exact sPr_wf (sPs_wf h k (by omega)) (by rw [sPs_o a (by omega) (by omega)]; omega)
    · exact sPs_wf h k (by omega)
theorem sPc_le (a : St) : ∀ k, sPc a k ≤ k
  | 0 => Nat.le_refl _
  | k + 1 => by have := sPc_le a k; rw [sPc]; split <;> omega
/-- at its top by its height, or by its time -/
theorem sHg_top {a : St} {i : Nat} (h : sOK a i) (h4 : a 4 i ≠ 0) : sHg a i = sTop a i ↔ a 4 i = sTop a i + 1 := by
  have h2 := sTop_le h
  unfold sHg sHT
  rw [if_neg h4]
  split
  · omega
  · split <;> omega
section FQ
variable {M : tb_Mem} {p : Nat} {a : St}
theorem X2_print_loop (hw : sWF a) : ∀ (n i : Nat) (F : tb_Mem), i ≤ a 0 0 → a 0 0 - i < n → RB (a 0 0) (sPs a i) F → ∃ F', fX2_print_L4 p n (nI (sPc a i)) (nI i) (bm M p F) = some (nI (sPc a (a 0 0)), bm M p F') ∧ RB (a 0 0) (sPs a (a 0 0)) F' ∧ F' 0 12 = F 0 12 := by
  intro n
  induction n with
  | zero => intro i F h1 h2; omega
  | succ n ih =>
    intro i F h1 h2 h
    have hn := hw.1
    have e0 : (sPs a i) 0 0 = a 0 0 := by rw [sPs_o a (by omega) (by omega)]
    have h8 := h.1
    rw [e0] at h8
    rw [fX2_print_L4, bm_0, h8]
    by_cases hi : i < a 0 0
    · rw [if_neg (by rw [nI_leI (by omega) (by omega)]; omega)]
      have hmv := X2_moves (M := M) (p := p) (a := sPs a i) (F := F) h.2.2.1 (by omega) (i := i) (by omega)
      have e4 : (sPs a i) 4 i = a 4 i := by rw [sPs_o a (by omega) (by omega)]
      rw [hmv, tb_b2_some, e4, nI_1]
      by_cases h4 : a 4 i = 0
      · rw [if_pos h4, if_pos rfl]
        have es : sPs a (i + 1) = sPs a i := by rw [sPs, if_neg (by omega)]
        have ec : sPc a (i + 1) = sPc a i := by rw [sPc, if_neg (by omega)]
        rw [← ec]
        exact ih (i + 1) F (by omega) (by omega) (by rw [es]; exact h)
      · have b7 := (h.2.1 i (by omega)).2.2.2.2.2.2 (Or.inr hi)
        have b3 := (h.2.1 i (by omega)).2.2.1
        have cs : ∀ c, c ≠ 6 → c ≠ 7 → sPs a i c = a c := fun c h6 h7 => sPs_o a h6 h7 i
        rw [sHg_c i cs] at b7
        rw [sTop_c i cs] at b3
        have ok := hw.2.1 i hi
        have l7 := sHg_le ok
        have l3 := sTop_le ok
        rw [if_neg h4, if_neg (by decide), tb_in_t (by omega) (by omega), tb_ck_t, nI_clamp (by omega), bm_at _ _ _ (by omega), bm_at _ _ _ (by omega), b7, b3]
        by_cases ht : sHg a i = sTop a i
        · have hp := (sHg_top ok h4).mp ht
          rw [if_pos (by rw [ht])]
          obtain ⟨F', q1, q2, q3⟩ := X2_strike (M := M) (p := p) (i := i) (sPs_wf hw i (by omega)) h (by omega)
          rw [q1, tb_b1_some, nI_1]
          have es : sPs a (i + 1) = sPr (sPs a i) i := by rw [sPs, if_pos hp]
          have ec : sPc a (i + 1) = sPc a i + 1 := by rw [sPc, if_pos hp]
          rw [← ec]
          obtain ⟨F2, r1, r2, r3⟩ := ih (i + 1) F' (by omega) (by omega) (by rw [es]; exact q2)
          exact ⟨F2, r1, r2, by rw [r3, q3]⟩
        · have hp : ¬ a 4 i = sTop a i + 1 := fun z => ht ((sHg_top ok h4).mpr z)
          rw [if_neg (fun z => ht (nI_inj (by omega) (by omega) z))]
          have es : sPs a (i + 1) = sPs a i := by rw [sPs, if_neg hp]
          have ec : sPc a (i + 1) = sPc a i := by rw [sPc, if_neg hp]
          rw [← ec]
          exact ih (i + 1) F (by omega) (by omega) (by rw [es]; exact h)
    · have hie : i = a 0 0 := by omega
      subst hie
      rw [if_pos (by rw [nI_leI (by omega) (by omega)]; omega)]
      exact ⟨F, rfl, h, rfl⟩
/-- what hangs hangs -/
noncomputable def sJam (a : St) : St := sset (sset a 5 (fun i => if sHang a i = true then sHg a i else a 5 i)) 4 (fun i => if sHang a i = true then 0 else a 4 i)
theorem sJam_o {a : St} {c : Nat} (h4 : c ≠ 4) (h5 : c ≠ 5) : sJam a c = a c := by unfold sJam; rw [sset_n h4, sset_n h5]
theorem sJam_4 (a : St) (i : Nat) : sJam a 4 i = if sHang a i = true then 0 else a 4 i := by unfold sJam; rw [sset_s]
theorem sJam_5 (a : St) (i : Nat) : sJam a 5 i = if sHang a i = true then sHg a i else a 5 i := by unfold sJam; rw [sset_n (by omega), sset_s]
theorem sJam_top (a : St) (i : Nat) : sTop (sJam a) i = sTop a i := by simp [sTop, sJam_o]
theorem sJam_hg (a : St) (i : Nat) : sHg (sJam a) i = sHg a i := by
  unfold sHg
  rw [sJam_4, sJam_5]
  cases hh : sHang a i
  · simp only [Bool.false_eq_true, if_false]
    by_cases h4 : a 4 i = 0
    · rw [if_pos h4, if_pos h4]
    · rw [if_neg h4, if_neg h4]
      unfold sHT
      rw [sJam_top, sJam_o (by omega) (by omega)]
  · simp only [if_true]
    rfl
theorem sJam_wf {a : St} (h : sWF a) : sWF (sJam a) := by
  obtain ⟨g1, g2, g3, g4, g5⟩ := h
  have e0 : (sJam a) 0 0 = a 0 0 := by rw [sJam_o (by omega) (by omega)]
  refine ⟨by omega, fun i hi => ?_, fun i hi => ?_, by rw [sJam_o (by omega) (by omega)]; exact g4, fun k hk => by rw [sJam_o (by omega) (by omega)]; exact g5 k hk⟩
  · have ok := g2 i (by omega)
    have l := sHg_le ok
    unfold sOK at ok ⊢
    rw [sJam_4, sJam_5, sJam_o (show (1 : Nat) ≠ 4 by omega) (by omega), sJam_o (show (2 : Nat) ≠ 4 by omega) (by omega), sJam_o (show (3 : Nat) ≠ 4 by omega) (by omega), e0]
    cases sHang a i
    · simpa using ok
    · exact ⟨ok.1, ok.2.1, ok.2.2.1, ok.2.2.2.1, ok.2.2.2.2.1, by simp, by simpa using l, Or.inl rfl⟩
  · rw [sJam_o (show (8 : Nat) ≠ 4 by omega) (by omega), sJam_o (show (3 : Nat) ≠ 4 by omega) (by omega), e0]
    exact g3 i (by omega)
theorem sMix_wf {a : St} (h : sWF a) : sWF (sMix a (a 0 0)) := by
  obtain ⟨g1, g2, g3, g4, g5⟩ := h
  have e0 : (sMix a (a 0 0)) 0 0 = a 0 0 := by rw [sMix_o (by omega)]
  refine ⟨by omega, fun i hi => ?_, fun i hi => ?_, by rw [sMix_o (by omega)]; exact g4, fun k hk => by rw [sMix_o (by omega)]; exact g5 k hk⟩
  · have ok := g2 i (by omega)
    have l := sT1_le ok
    have z : a 4 i = 0 → sT1 a i = 0 := fun q => by simp [sT1, q]
    unfold sOK at ok ⊢
    rw [sMix_4, if_pos (by omega), sMix_o (show (1 : Nat) ≠ 4 by omega), sMix_o (show (2 : Nat) ≠ 4 by omega), sMix_o (show (3 : Nat) ≠ 4 by omega), sMix_o (show (5 : Nat) ≠ 4 by omega), e0]
    omega
  · rw [sMix_o (show (8 : Nat) ≠ 4 by omega), sMix_o (show (3 : Nat) ≠ 4 by omega), e0]
    exact g3 i (by omega)
/-- a tick: the state behind it; how many print -/
noncomputable def sTk (a : St) : St := sPs (sJam (sMix a (a 0 0))) (a 0 0)
noncomputable def sTc (a : St) : Nat := sPc (sJam (sMix a (a 0 0))) (a 0 0)
theorem sTk_wf {a : St} (h : sWF a) : sWF (sTk a) := sPs_wf (sJam_wf (sMix_wf h)) _ (by rw [sJam_o (by omega) (by omega), sMix_o (by omega)]; exact Nat.le_refl _)
theorem sTk_0 (a : St) : (sTk a) 0 = a 0 := by
  unfold sTk
  rw [sPs_o _ (by omega) (by omega), sJam_o (by omega) (by omega), sMix_o (by omega)]
theorem RB.jam {F G : tb_Mem} {y : Int32} (hw : sWF a) (h : RB (a 0 0) a F) (hy : Mk y (sHang a) (a 0 0)) (hF : ∀ c, c ≠ 0 → G c = F c) (h0 : ∀ j, j ≠ 9 → j ≠ 10 → j ≠ 12 → G 0 j = F 0 j) (h9 : G 0 9 = F 0 9 &&& (y ^^^ (-1))) (h10 : G 0 10 = F 0 10 ||| y) : RB (a 0 0) (sJam a) G := by
  obtain ⟨g1, g2, g3, g4, g5, g6⟩ := h
  have e0 : (sJam a) 0 0 = a 0 0 := by rw [sJam_o (by omega) (by omega)]
  refine ⟨by rw [h0 8 (by omega) (by omega) (by omega), e0, g1], fun i hi => ?_, ?_, ?_, by rw [h0 11 (by omega) (by omega) (by omega), g5, sJam_o (by omega) (by omega)], fun j hj => by rw [hF 8 (by omega), g6 j hj, sJam_o (by omega) (by omega)]⟩
  · obtain ⟨b1, b2, b3, b4, b5, b6, b7⟩ := g2 i (by omega)
    refine ⟨?_, ?_, ?_, ?_, ?_, ?_, ?_⟩
    · rw [hF 1 (by omega), sJam_o (by omega) (by omega)]; exact b1
    · rw [hF 2 (by omega), sJam_o (by omega) (by omega)]; exact b2
    · rw [hF 3 (by omega), sJam_top]; exact b3
    · rw [hF 4 (by omega), sJam_o (by omega) (by omega)]; exact b4
    · rw [hF 5 (by omega), sJam_o (by omega) (by omega)]; exact b5
    · rw [hF 6 (by omega), sJam_4]
      cases sHang a i
      · simpa using b6
      · intro z; exact absurd rfl z
    · intro _
      rw [hF 7 (by omega), sJam_hg]
      exact b7 (Or.inr (by omega))
  · rw [h9, e0]
    refine (g3.andn hy).congr (fun i _ => ?_)
    simp only [sMv, sJam_4]
    cases sHang a i <;> simp
  · rw [h10, e0]
    refine (g4.or hy).congr (fun i hi => ?_)
    simp only [sHn, sJam_5]
    cases hh : sHang a i
    · simp
    · obtain ⟨j, j1, j2, j3⟩ := (sHang_iff (by omega)).mp hh
      have := j3.1
      simp; omega
theorem X2_pass {F : tb_Mem} (hw : sWF a) (h : RB 0 a F) : ∃ F', fX2_pass p (bm M p F) = some (nI (sTc a), bm M p F') ∧ RB (a 0 0) (sTk a) F' ∧ F' 0 12 = F 0 12 + 1 := by
  obtain ⟨F1, e1, e2, e3⟩ := X2_rise (M := M) (p := p) hw h
  have w1 := sMix_wf hw
  have n1 : (sMix a (a 0 0)) 0 0 = a 0 0 := by rw [sMix_o (by omega)]
  obtain ⟨y, e4, e5⟩ := X2_meeting (M := M) (p := p) w1 (by rw [n1]; exact e3)
  rw [n1] at e5
  unfold fX2_pass
  rw [e1, tb_b1_some, e4, tb_b2_some]
  dsimp only [tb_let]
  rw [bm_0, bm_up0, bm_0, bm_up0, bm_0, bm_up0]
  have hj : RB (a 0 0) (sJam (sMix a (a 0 0))) (tb_up (tb_up (tb_up F1 0 10 (F1 0 10 ||| y)) 0 9 (tb_up F1 0 10 (F1 0 10 ||| y) 0 9 &&& (y ^^^ (-1)))) 0 12 (tb_up (tb_up F1 0 10 (F1 0 10 ||| y)) 0 9 (tb_up F1 0 10 (F1 0 10 ||| y) 0 9 &&& (y ^^^ (-1))) 0 12 + 1)) := by
    have := RB.jam (a := sMix a (a 0 0)) (F := F1) (G := tb_up (tb_up (tb_up F1 0 10 (F1 0 10 ||| y)) 0 9 (tb_up F1 0 10 (F1 0 10 ||| y) 0 9 &&& (y ^^^ (-1)))) 0 12 (tb_up (tb_up F1 0 10 (F1 0 10 ||| y)) 0 9 (tb_up F1 0 10 (F1 0 10 ||| y) 0 9 &&& (y ^^^ (-1))) 0 12 + 1)) (y := y) w1 (by rw [n1]; exact e3) (by rw [n1]; exact e5) (fun c hc => by rw [tb_up_ne hc, tb_up_ne hc, tb_up_ne hc]) (fun j j9 j10 j12 => by simp [tb_up_same, upd, j9, j10, j12]) (by simp [tb_up_same, upd]) (by simp [tb_up_same, upd])
    rw [n1] at this
    exact this
  have w2 := sJam_wf w1
  have n2 : (sJam (sMix a (a 0 0))) 0 0 = a 0 0 := by rw [sJam_o (by omega) (by omega), n1]
  obtain ⟨F2, q1, q2, q3⟩ := X2_print_loop (M := M) (p := p) w2 tb_N 0 _ (Nat.zero_le _) (by have := hw.1; unfold tb_N; omega) (by rw [n2]; exact hj)
  rw [n2] at q1 q2
  unfold fX2_print
  rw [show (0 : Int32) = nI (sPc (sJam (sMix a (a 0 0))) 0) from rfl, show nI (sPc (sJam (sMix a (a 0 0))) 0) = nI 0 from rfl]
  have q1' : fX2_print_L4 p tb_N (nI 0) (nI 0) (bm M p _) = _ := q1
  rw [q1', tb_b2_some]
  refine ⟨F2, rfl, q2, ?_⟩
  rw [q3]
  simp only [tb_up_same, upd, if_pos]
  simp only [show (12 : Nat) ≠ 9 by omega, show (12 : Nat) ≠ 10 by omega, if_false]
  rw [e2]
end FQ

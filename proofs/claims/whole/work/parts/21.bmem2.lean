/-! more moves of the class's basket over a memory -/
section FO
variable {M : tb_Mem} {p : Nat} {a : St}
theorem RB.lay {F G : tb_Mem} {k : Nat} {x : Int32} {f : Nat → Bool} (hn : a 0 0 ≤ 8) (h : RB k a F) (hx : Mk x f (a 0 0)) (hG : ∀ c, c ≠ 0 → c ≠ 7 → G c = F c) (h7 : ∀ i, i < a 0 0 → G 7 i = if f i = true then 0 else F 7 i) (h0 : ∀ j, j ≠ 9 → j ≠ 10 → G 0 j = F 0 j) (h9 : G 0 9 = F 0 9 &&& (x ^^^ (-1))) (h10 : G 0 10 = F 0 10 &&& (x ^^^ (-1))) : RB k (sLay a f) G := by
  obtain ⟨g1, g2, g3, g4, g5, g6⟩ := h
  have e0 : (sLay a f) 0 0 = a 0 0 := by rw [sLay_o (by omega) (by omega)]
  refine ⟨?_, fun j hj => ?_, ?_, ?_, ?_, fun j hj => ?_⟩
  · rw [e0, h0 8 (by omega) (by omega)]; exact g1
  · rw [e0] at hj
    obtain ⟨b1, b2, b3, b4, b5, b6, b7⟩ := g2 j hj
    unfold RB1
    rw [sLay_4, sLay_top, sLay_hg, sLay_o (show (1 : Nat) ≠ 4 by omega) (by omega), sLay_o (show (2 : Nat) ≠ 4 by omega) (by omega), sLay_o (show (3 : Nat) ≠ 4 by omega) (by omega), sLay_o (show (8 : Nat) ≠ 4 by omega) (by omega), hG 1 (by omega) (by omega), hG 2 (by omega) (by omega), hG 3 (by omega) (by omega), hG 4 (by omega) (by omega), hG 5 (by omega) (by omega), hG 6 (by omega) (by omega), h7 j hj]
    refine ⟨b1, b2, b3, b4, b5, ?_, ?_⟩
    · intro hne
      by_cases e : f j = true
      · rw [if_pos e] at hne; exact absurd rfl hne
      · rw [if_neg e] at hne ⊢; exact b6 hne
    · intro hc
      by_cases e : f j = true
      · rw [if_pos e, if_pos e]; rfl
      · rw [if_neg e, if_neg e]
        rw [if_neg e] at hc
        exact b7 hc
  · rw [e0, h9]
    refine (Mk.andn g3 hx).congr (fun j _ => ?_)
    simp only [sMv, sLay_4]
    cases f j <;> simp
  · rw [e0, h10]
    refine (Mk.andn g4 hx).congr (fun j _ => ?_)
    simp only [sHn, sLay_5]
    cases f j <;> simp
  · rw [sLay_o (by omega) (by omega), h0 11 (by omega) (by omega)]; exact g5
  · rw [sLay_o (by omega) (by omega), hG 8 (by omega) (by omega)]; exact g6 j hj
theorem X2_lay_loop {F0 : tb_Mem} {x : Int32} {f : Nat → Bool} (hn : a 0 0 ≤ 8) (hx : Mk x f (a 0 0)) (h8 : F0 0 8 = nI (a 0 0)) : ∀ (n i : Nat) (F : tb_Mem), i ≤ a 0 0 → a 0 0 - i < n → (∀ c, c ≠ 7 → F c = F0 c) → (∀ j, F 7 j = if j < i ∧ f j = true then 0 else F0 7 j) →
    ∃ F', fX2_layDown_L2 p n x (nI i) (bm M p F) = some (bm M p F') ∧ (∀ c, c ≠ 0 → c ≠ 7 → F' c = F0 c) ∧ (∀ j, j < a 0 0 → F' 7 j = if f j = true then 0 else F0 7 j) ∧ (∀ j, j ≠ 9 → j ≠ 10 → F' 0 j = F0 0 j) ∧ F' 0 9 = F0 0 9 &&& (x ^^^ (-1)) ∧ F' 0 10 = F0 0 10 &&& (x ^^^ (-1)) := by
  intro n
  induction n with
  | zero => intro i F h1 h2; omega
  | succ n ih =>
    intro i F h1 h2 hF h7
    rw [fX2_layDown_L2, bm_0, hF 0 (by omega), h8]
    by_cases hi : i < a 0 0
    · rw [if_neg (by rw [nI_leI (by omega) (by omega)]; omega), nI_1]
      have ht := hx.test (k := i) hi (by omega)
      by_cases hf : f i = true
      · rw [if_neg (fun z => by have := ht.mp z; rw [hf] at this; cases this), tb_in_t (by omega) (by omega), tb_ck_t, nI_clamp (by omega), bm_up _ _ _ _ _ (by omega)]
        dsimp only [tb_let]
        refine ih (i + 1) _ (by omega) (by omega) (fun c hc => by rw [tb_up_ne hc]; exact hF c hc) (fun j => ?_)
        rw [tb_up_same]
        simp only [upd]
        by_cases e : j = i
        · subst e; rw [if_pos rfl, if_pos ⟨by omega, hf⟩]
        · rw [if_neg e, h7 j]
          by_cases hlt : j < i
          · simp only [hlt, show j < i + 1 by omega, true_and]
          · simp only [hlt, show ¬ j < i + 1 by omega, false_and]
      · rw [if_pos (ht.mpr (by simpa using hf))]
        refine ih (i + 1) F (by omega) (by omega) hF (fun j => ?_)
        rw [h7 j]
        by_cases e : j = i
        · subst e; simp [hf]
        · by_cases hlt : j < i
          · simp only [hlt, show j < i + 1 by omega, true_and]
          · simp only [hlt, show ¬ j < i + 1 by omega, false_and]
    · rw [if_pos (by rw [nI_leI (by omega) (by omega)]; omega)]
      dsimp only [tb_let]
      rw [bm_up0, bm_0, bm_up0]
      refine ⟨_, rfl, fun c c0 c7 => by rw [tb_up_ne c0, tb_up_ne c0]; exact hF c c7, fun j hj => ?_, fun j j9 j10 => ?_, ?_, ?_⟩
      · rw [tb_up_ne (by omega), tb_up_ne (by omega), h7 j]
        simp only [show j < i by omega, true_and]
      · rw [tb_up_same]; simp only [upd, if_neg j10]; rw [tb_up_same]; simp only [upd, if_neg j9]; rw [hF 0 (by omega)]
      · rw [tb_up_same]; simp only [upd]; rw [if_neg (by omega), tb_up_same]; simp only [upd, if_true]
      · rw [tb_up_same]; simp only [upd, if_true]; rw [tb_up_same]; simp only [upd]; rw [if_neg (by omega), hF 0 (by omega)]
theorem M_lay {k : Nat} {x : Int32} {f : Nat → Bool} (hw : sWF a) (h : BK k a M p) (hx : Mk x f (a 0 0)) : ∃ M', fX2_layDown p x M = some M' ∧ BK k (sLay a f) M' p ∧ Fr p M M' ∧ M' p 12 = M p 12 := by
  have hn := hw.1
  obtain ⟨F', e1, e2, e3, e4, e5, e6⟩ := X2_lay_loop (M := M) (p := p) (F0 := rws M p) hn hx h.1 tb_N 0 (rws M p) (Nat.zero_le _) (by unfold tb_N; omega) (fun _ _ => rfl) (fun j => by rw [if_neg (by omega)])
  rw [bm_rws] at e1
  refine ⟨_, e1, BK_bm (RB.lay hn h hx e2 e3 e4 e5 e6), Fr_bm, ?_⟩
  rw [bm_0, e4 12 (by omega) (by omega)]
  rfl
theorem RB.swap {F G : tb_Mem} {k i j : Nat} (hn : a 0 0 ≤ 8) (h : RB k a F) (hG : ∀ c, c ≠ 4 → c ≠ 5 → G c = F c) (h4 : ∀ u, u < a 0 0 → G 4 u = nI (sSwap a i j 3 u)) (h5 : ∀ u, u < a 0 0 → G 5 u = nI (sSwap a i j 8 u)) : RB k (sSwap a i j) G := by
  obtain ⟨g1, g2, g3, g4, g5, g6⟩ := h
  have e0 : (sSwap a i j) 0 0 = a 0 0 := by rw [sSwap_o (by omega) (by omega)]
  refine ⟨?_, fun u hu => ?_, ?_, ?_, ?_, fun u hu => ?_⟩
  · rw [e0, hG 0 (by omega) (by omega)]; exact g1
  · rw [e0] at hu
    obtain ⟨b1, b2, b3, b4, b5, b6, b7⟩ := g2 u hu
    unfold RB1
    rw [sSwap_top, sSwap_hg, sSwap_o (show (1 : Nat) ≠ 3 by omega) (by omega), sSwap_o (show (2 : Nat) ≠ 3 by omega) (by omega), sSwap_o (show (4 : Nat) ≠ 3 by omega) (by omega), hG 1 (by omega) (by omega), hG 2 (by omega) (by omega), hG 3 (by omega) (by omega), hG 6 (by omega) (by omega), hG 7 (by omega) (by omega)]
    exact ⟨b1, b2, b3, h4 u hu, h5 u hu, b6, b7⟩
  · rw [e0, hG 0 (by omega) (by omega)]
    refine g3.congr (fun u _ => ?_)
    simp only [sMv]; rw [sSwap_o (by omega) (by omega)]
  · rw [e0, hG 0 (by omega) (by omega)]
    refine g4.congr (fun u _ => ?_)
    simp only [sHn]; rw [sSwap_o (by omega) (by omega)]
  · rw [sSwap_o (by omega) (by omega), hG 0 (by omega) (by omega)]; exact g5
  · rw [sSwap_o (by omega) (by omega), hG 8 (by omega) (by omega)]; exact g6 u hu
theorem M_swap {k i j : Nat} (hw : sWF a) (h : BK k a M p) (hi : i < a 0 0) (hj : j < a 0 0) : ∃ M', fX2_exchange p (nI i) (nI j) M = some M' ∧ BK k (sSwap a i j) M' p ∧ Fr p M M' ∧ M' p 12 = M p 12 := by
  have hn := hw.1
  have pi := (hw.2.1 i hi).2.2.2.2.1
  have pj := (hw.2.1 j hj).2.2.2.2.1
  have b4i : rws M p 4 i = nI (a 3 i) := (h.2.1 i hi).2.2.2.1
  have b4j : rws M p 4 j = nI (a 3 j) := (h.2.1 j hj).2.2.2.1
  have ri : ∀ F : tb_Mem, upd (upd (F 4) i (nI (a 3 j))) j (nI (a 3 i)) i = nI (if i = j then a 3 i else a 3 j) := fun F => by
    simp only [upd]
    by_cases e : i = j
    · rw [if_pos e, if_pos e]
    · rw [if_neg e, if_neg e, if_pos trivial]
  have rj : ∀ F : tb_Mem, upd (upd (F 4) i (nI (a 3 j))) j (nI (a 3 i)) j = nI (a 3 i) := fun F => by simp [upd]
  have lij : (if i = j then a 3 i else a 3 j) < 8 := by split <;> omega
  have e : fX2_exchange p (nI i) (nI j) (bm M p (rws M p)) = some (bm M p (tb_up (tb_up (tb_up (tb_up (rws M p) 4 i (nI (a 3 j))) 4 j (nI (a 3 i))) 5 (if i = j then a 3 i else a 3 j) (nI i)) 5 (a 3 i) (nI j))) := by
    unfold fX2_exchange
    dsimp only [tb_let]
    rw [tb_in_t (show i < 8 by omega) (by omega), tb_ck_t, tb_in_t (show j < 8 by omega) (by omega), tb_ck_t, nI_clamp (show i < 2 ^ 31 by omega), nI_clamp (show j < 2 ^ 31 by omega), bm_at _ _ _ (by omega), b4i, b4j, bm_up _ _ _ _ _ (by omega), bm_up _ _ _ _ _ (by omega), bm_at _ _ _ (by omega), tb_up_same, tb_up_same, ri, tb_in_t lij (by omega), tb_ck_t, nI_clamp (by omega), bm_up _ _ _ _ _ (by omega), bm_at _ _ _ (by omega), tb_up_ne (show (4 : Nat) ≠ 5 by omega), tb_up_same, tb_up_same, rj, tb_in_t (by omega) (by omega), tb_ck_t, nI_clamp (by omega), bm_up _ _ _ _ _ (by omega)]
  rw [bm_rws] at e
  refine ⟨_, e, BK_bm (RB.swap hn h (fun c c4 c5 => by rw [tb_up_ne c5, tb_up_ne c5, tb_up_ne c4, tb_up_ne c4]) (fun u hu => ?_) (fun u hu => ?_)), Fr_bm, ?_⟩
  · rw [tb_up_ne (show (4 : Nat) ≠ 5 by omega), tb_up_ne (show (4 : Nat) ≠ 5 by omega), tb_up_same, tb_up_same, sSwap_3]
    simp only [upd]
    by_cases e1 : u = j
    · rw [if_pos e1, if_pos e1]
    · rw [if_neg e1, if_neg e1]
      by_cases e2 : u = i
      · rw [if_pos e2, if_pos e2]
      · rw [if_neg e2, if_neg e2]
        exact (h.2.1 u hu).2.2.2.1
  · rw [tb_up_same, tb_up_same, tb_up_ne (show (5 : Nat) ≠ 4 by omega), tb_up_ne (show (5 : Nat) ≠ 4 by omega), sSwap_8]
    simp only [upd]
    by_cases e1 : u = a 3 i
    · rw [if_pos e1, if_pos e1]
    · rw [if_neg e1, if_neg e1]
      by_cases e3 : i = j
      · subst e3
        rw [if_pos rfl, if_neg e1, if_neg e1]
        exact (h.2.1 u hu).2.2.2.2.1
      · rw [if_neg e3]
        by_cases e2 : u = a 3 j
        · rw [if_pos e2, if_pos e2]
        · rw [if_neg e2, if_neg e2]
          exact (h.2.1 u hu).2.2.2.2.1
  · rw [bm_0, tb_up_ne (show (0 : Nat) ≠ 5 by omega), tb_up_ne (show (0 : Nat) ≠ 5 by omega), tb_up_ne (show (0 : Nat) ≠ 4 by omega), tb_up_ne (show (0 : Nat) ≠ 4 by omega)]
    rfl
/-- one basket becomes as another -/
theorem cpy0 (f g : Nat → Int32) (n i : Nat) : va_cpy f g ((0 : Int32).toNatClampNeg) ((0 : Int32).toNatClampNeg) n i = if i < n then f i else g i := by
  have : (0 : Int32).toNatClampNeg = 0 := by decide
  unfold va_cpy
  rw [this]
  simp
theorem M_become {p1 : Nat} (hp : p + 9 ≤ p1 ∨ p1 + 9 ≤ p) : ∃ M', fX2_become p p1 M = some M' ∧ Fr p M M' ∧ (∀ j i, 1 ≤ j → j ≤ 7 → i < 8 → M' (p + j) i = M (p1 + j) i) ∧ (∀ i, i < 20 → M' (p + 8) i = M (p1 + 8) i) ∧ (∀ i, 8 ≤ i → i ≤ 12 → M' p i = M p1 i) := by
  have c8 : (8 : Int32).toNatClampNeg = 8 := by decide
  have c20 : (20 : Int32).toNatClampNeg = 20 := by decide
  -- the reading side never changes
  have out : ∀ (F : tb_Mem) (j : Nat), j < 9 → bm M p F (p1 + j) = M (p1 + j) := fun F j hj => bm_out (by omega)
  have out0 : ∀ (F : tb_Mem), bm M p F p1 = M p1 := fun F => bm_out (by omega)
  have e : fX2_become p p1 (bm M p (rws M p)) = some (bm M p (tb_up (tb_up (tb_up (tb_up (tb_up (tb_row (tb_row (tb_row (tb_row (tb_row (tb_row (tb_row (tb_row (rws M p) 1 (va_cpy (M (p1 + 1)) (rws M p 1) ((0 : Int32).toNatClampNeg) ((0 : Int32).toNatClampNeg) 8)) 2 (va_cpy (M (p1 + 2)) (rws M p 2) ((0 : Int32).toNatClampNeg) ((0 : Int32).toNatClampNeg) 8)) 3 (va_cpy (M (p1 + 3)) (rws M p 3) ((0 : Int32).toNatClampNeg) ((0 : Int32).toNatClampNeg) 8)) 4 (va_cpy (M (p1 + 4)) (rws M p 4) ((0 : Int32).toNatClampNeg) ((0 : Int32).toNatClampNeg) 8)) 5 (va_cpy (M (p1 + 5)) (rws M p 5) ((0 : Int32).toNatClampNeg) ((0 : Int32).toNatClampNeg) 8)) 6 (va_cpy (M (p1 + 6)) (rws M p 6) ((0 : Int32).toNatClampNeg) ((0 : Int32).toNatClampNeg) 8)) 7 (va_cpy (M (p1 + 7)) (rws M p 7) ((0 : Int32).toNatClampNeg) ((0 : Int32).toNatClampNeg) 8)) 8 (va_cpy (M (p1 + 8)) (rws M p 8) ((0 : Int32).toNatClampNeg) ((0 : Int32).toNatClampNeg) 20)) 0 8 (M p1 8)) 0 9 (M p1 9)) 0 10 (M p1 10)) 0 11 (M p1 11)) 0 12 (M p1 12))) := by
    unfold fX2_become
    dsimp only [tb_let]
    rw [c8, c20]
    rw [out _ 1 (by omega), bm_at _ _ _ (show 1 < 9 by omega), bm_row _ _ _ _ (show 1 < 9 by omega)]
    rw [out _ 2 (by omega), bm_at _ _ _ (show 2 < 9 by omega), tb_row_ne (show (2 : Nat) ≠ 1 by omega), bm_row _ _ _ _ (show 2 < 9 by omega)]
    rw [out _ 3 (by omega), bm_at _ _ _ (show 3 < 9 by omega), tb_row_ne (show (3 : Nat) ≠ 2 by omega), tb_row_ne (show (3 : Nat) ≠ 1 by omega), bm_row _ _ _ _ (show 3 < 9 by omega)]
    rw [out _ 4 (by omega), bm_at _ _ _ (show 4 < 9 by omega), tb_row_ne (show (4 : Nat) ≠ 3 by omega), tb_row_ne (show (4 : Nat) ≠ 2 by omega), tb_row_ne (show (4 : Nat) ≠ 1 by omega), bm_row _ _ _ _ (show 4 < 9 by omega)]
    rw [out _ 5 (by omega), bm_at _ _ _ (show 5 < 9 by omega), tb_row_ne (show (5 : Nat) ≠ 4 by omega), tb_row_ne (show (5 : Nat) ≠ 3 by omega), tb_row_ne (show (5 : Nat) ≠ 2 by omega), tb_row_ne (show (5 : Nat) ≠ 1 by omega), bm_row _ _ _ _ (show 5 < 9 by omega)]
    rw [out _ 6 (by omega), bm_at _ _ _ (show 6 < 9 by omega), tb_row_ne (show (6 : Nat) ≠ 5 by omega), tb_row_ne (show (6 : Nat) ≠ 4 by omega), tb_row_ne (show (6 : Nat) ≠ 3 by omega), tb_row_ne (show (6 : Nat) ≠ 2 by omega), tb_row_ne (show (6 : Nat) ≠ 1 by omega), bm_row _ _ _ _ (show 6 < 9 by omega)]
    rw [out _ 7 (by omega), bm_at _ _ _ (show 7 < 9 by omega), tb_row_ne (show (7 : Nat) ≠ 6 by omega), tb_row_ne (show (7 : Nat) ≠ 5 by omega), tb_row_ne (show (7 : Nat) ≠ 4 by omega), tb_row_ne (show (7 : Nat) ≠ 3 by omega), tb_row_ne (show (7 : Nat) ≠ 2 by omega), tb_row_ne (show (7 : Nat) ≠ 1 by omega), bm_row _ _ _ _ (show 7 < 9 by omega)]
    rw [out _ 8 (by omega), bm_at _ _ _ (show 8 < 9 by omega), tb_row_ne (show (8 : Nat) ≠ 7 by omega), tb_row_ne (show (8 : Nat) ≠ 6 by omega), tb_row_ne (show (8 : Nat) ≠ 5 by omega), tb_row_ne (show (8 : Nat) ≠ 4 by omega), tb_row_ne (show (8 : Nat) ≠ 3 by omega), tb_row_ne (show (8 : Nat) ≠ 2 by omega), tb_row_ne (show (8 : Nat) ≠ 1 by omega), bm_row _ _ _ _ (show 8 < 9 by omega)]
    rw [out0, bm_up0, out0, bm_up0, out0, bm_up0, out0, bm_up0, out0, bm_up0]
  rw [bm_rws] at e
  refine ⟨_, e, Fr_bm, fun j i h1 h7 hi => ?_, fun i hi => ?_, fun i h8 h12 => ?_⟩
  · rw [bm_at _ _ _ (by omega)]
    rw [tb_up_ne (by omega), tb_up_ne (by omega), tb_up_ne (by omega), tb_up_ne (by omega), tb_up_ne (by omega), tb_row_ne (by omega)]
    have hj : j = 1 ∨ j = 2 ∨ j = 3 ∨ j = 4 ∨ j = 5 ∨ j = 6 ∨ j = 7 := by omega
    rcases hj with e | e | e | e | e | e | e <;> subst e
    · rw [tb_row_ne (by omega), tb_row_ne (by omega), tb_row_ne (by omega), tb_row_ne (by omega), tb_row_ne (by omega), tb_row_ne (by omega), tb_row_same, cpy0, if_pos hi]
    · rw [tb_row_ne (by omega), tb_row_ne (by omega), tb_row_ne (by omega), tb_row_ne (by omega), tb_row_ne (by omega), tb_row_same, cpy0, if_pos hi]
    · rw [tb_row_ne (by omega), tb_row_ne (by omega), tb_row_ne (by omega), tb_row_ne (by omega), tb_row_same, cpy0, if_pos hi]
    · rw [tb_row_ne (by omega), tb_row_ne (by omega), tb_row_ne (by omega), tb_row_same, cpy0, if_pos hi]
    · rw [tb_row_ne (by omega), tb_row_ne (by omega), tb_row_same, cpy0, if_pos hi]
    · rw [tb_row_ne (by omega), tb_row_same, cpy0, if_pos hi]
    · rw [tb_row_same, cpy0, if_pos hi]
  · rw [bm_at _ _ _ (by omega), tb_up_ne (by omega), tb_up_ne (by omega), tb_up_ne (by omega), tb_up_ne (by omega), tb_up_ne (by omega), tb_row_same, cpy0, if_pos hi]
  · rw [bm_0]
    simp only [tb_up_same, upd]
    have hj : i = 8 ∨ i = 9 ∨ i = 10 ∨ i = 11 ∨ i = 12 := by omega
    rcases hj with e | e | e | e | e <;> subst e <;> simp
theorem BK.become {k p1 : Nat} {M' : tb_Mem} (hw : a 0 0 ≤ 8) (h : BK k a M p1) (e1 : ∀ j i, 1 ≤ j → j ≤ 7 → i < 8 → M' (p + j) i = M (p1 + j) i) (e2 : ∀ i, i < 20 → M' (p + 8) i = M (p1 + 8) i) (e3 : ∀ i, 8 ≤ i → i ≤ 12 → M' p i = M p1 i) : BK k a M' p :=
  RB.cg2 h hw (fun j i h1 h7 hi => e1 j i h1 h7 hi) (fun i hi => e2 i hi) (fun i h8 h11 => e3 i h8 (by omega))
theorem M_bec {k p1 : Nat} (hw : a 0 0 ≤ 8) (h : BK k a M p1) (hp : p + 9 ≤ p1 ∨ p1 + 9 ≤ p) : ∃ M', fX2_become p p1 M = some M' ∧ BK k a M' p ∧ Fr p M M' ∧ M' p 12 = M p1 12 ∧ M' p 8 = M p1 8 := by
  obtain ⟨M', e1, e2, e3, e4, e5⟩ := M_become (M := M) hp
  exact ⟨M', e1, h.become hw e3 e4 e5, e2, e5 12 (by omega) (by omega), e5 8 (by omega) (by omega)⟩
end FO
theorem fill_loop {q nn : Nat} {v : Int32} (hnn : nn ≤ 4000) (M : tb_Mem) : ∀ (n i : Nat) (f : Nat → Int32), i ≤ nn → nn - i < n → (∀ j, f j = if j < i then v else M q j) → fJ7_fill_53178_L5 q nn n v (nI i) (Int32.ofNat nn) (tb_row M q f) = some (tb_row M q (fun j => if j < nn then v else M q j)) := by
  intro n
  induction n with
  | zero => intro i f h1 h2; omega
  | succ n ih =>
    intro i f h1 h2 hf
    rw [fJ7_fill_53178_L5]
    by_cases hi : i < nn
    · have c : ¬ (Int32.ofNat nn) ≤ nI i := by
        show ¬ nI nn ≤ nI i
        rw [nI_leI (by omega) (by omega)]; omega
      rw [if_neg c, tb_in_t hi (by omega), tb_ck_t, nI_clamp (by omega)]
      dsimp only [tb_let]
      rw [tb_up_row, nI_1]
      refine ih (i + 1) _ (by omega) (by omega) (fun j => ?_)
      simp only [upd]
      by_cases e : j = i
      · rw [if_pos e, if_pos (by omega)]
      · rw [if_neg e, hf j]
        by_cases hlt : j < i
        · rw [if_pos hlt, if_pos (by omega)]
        · rw [if_neg hlt, if_neg (by omega)]
    · have c : (Int32.ofNat nn) ≤ nI i := by
        show nI nn ≤ nI i
        rw [nI_leI (by omega) (by omega)]; omega
      rw [if_pos c]
      congr 2
      funext j
      rw [hf j, show i = nn by omega]
theorem fill_ok (q : Nat) {nn : Nat} (v : Int32) (hnn : nn ≤ 4000) (M : tb_Mem) : fJ7_fill_53178 q nn v M = some (tb_row M q (fun j => if j < nn then v else M q j)) := by
  have h := fill_loop (q := q) (v := v) hnn M tb_N 0 (M q) (Nat.zero_le _) (by unfold tb_N; omega) (fun j => by rw [if_neg (by omega)])
  rw [tb_row_self] at h
  exact h
section FO2
variable {M : tb_Mem} {p : Nat} {a : St}
theorem M_back {k : Nat} (h : BK k a M p) : ∃ M', fX2_bringBack p M = some M' ∧ BK k (sBack a) M' p ∧ Fr p M M' ∧ M' p 12 = M p 12 := by
  have e : fX2_bringBack p (bm M p (rws M p)) = some (bm M p (tb_row (tb_up (rws M p) 0 11 0) 8 (fun j => if j < 20 then 0 else (tb_up (rws M p) 0 11 0) 8 j))) := by
    unfold fX2_bringBack
    dsimp only [tb_let]
    rw [bm_up0, fill_ok _ _ (by omega), tb_b1_some, bm_at _ _ _ (by omega), bm_row _ _ _ _ (by omega)]
  rw [bm_rws] at e
  refine ⟨_, e, BK_bm (RB_67 h (fun c h6 h7 => sBack_o h6 h7) (fun c c0 c8 => by rw [tb_row_ne c8, tb_up_ne c0]) (fun j j11 j12 => by rw [tb_row_ne (by omega), tb_up_same]; simp only [upd, if_neg j11]) ?_ (fun j hj => ?_)), Fr_bm, ?_⟩
  · rw [tb_row_ne (by omega), tb_up_same]
    simp [upd, sBack, sset]
    rfl
  · rw [tb_row_same, if_pos hj]
    simp [sBack, sset]
    rfl
  · rw [bm_0, tb_row_ne (by omega), tb_up_same]
    simp only [upd]
    rw [if_neg (by omega)]
    rfl
theorem M_cols {k : Nat} (hw : sWF a) (h : BK k a M p) : fX2_columnsPrinted p M = some (nI (fb_ct (fun j => decide (a 7 j ≠ 0)) 20), M) := by
  have h8 : ∀ j, j < 20 → M (p + 8) j = nI (a 7 j) := h.2.2.2.2.2
  have key : ∀ (n i : Nat), i ≤ 20 → 20 - i < n → fX2_columnsPrinted_L4 p n (nI (fb_ct (fun j => decide (a 7 j ≠ 0)) i)) (nI i) M = some (nI (fb_ct (fun j => decide (a 7 j ≠ 0)) 20), M) := by
    intro n
    induction n with
    | zero => intro i h1 h2; omega
    | succ n ih =>
      intro i h1 h2
      rw [fX2_columnsPrinted_L4, zl20]
      by_cases hi : i < 20
      · have hs := ih (i + 1) (by omega) (by omega)
        have l := hw.2.2.2.2 i hi
        rw [if_neg (by rw [nI_leI (by omega) (by omega)]; omega), tb_in_t hi (by omega), tb_ck_t, nI_clamp (by omega), h8 i hi, nI_1]
        rw [fb_ct_succ] at hs
        by_cases h0 : a 7 i = 0
        · rw [if_pos (by rw [h0]; rfl)]
          rw [if_neg (by simp [h0]), Nat.add_zero] at hs
          exact hs
        · rw [if_neg (fun z => h0 ((nI_is0 (by omega)).mp z)), nI_1]
          rw [if_pos (by simp [h0])] at hs
          exact hs
      · have : i = 20 := by omega
        subst this
        rw [if_pos (by decide)]
  exact key tb_N 0 (by omega) (by unfold tb_N; omega)
end FO2

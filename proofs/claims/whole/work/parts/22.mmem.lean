/-! the reference's moves over a memory -/
def Fq (q : Nat) (M M' : tb_Mem) : Prop := ∀ r, r ≠ q → M' r = M r
theorem Fq.trans {q : Nat} {M M1 M2 : tb_Mem} (h : Fq q M M1) (h2 : Fq q M1 M2) : Fq q M M2 := fun r hr => by rw [h2 r hr, h r hr]
theorem Fq.rf {q : Nat} {M : tb_Mem} : Fq q M M := fun _ _ => rfl
theorem Fq_row {q : Nat} {M : tb_Mem} {c : Nat → Int32} : Fq q M (tb_row M q c) := fun _ hr => tb_row_ne hr
theorem RM.cg {a : St} {c d : Nat → Int32} (h : RM a c) (hw : a 0 0 ≤ 8) (hd : ∀ k, 1 ≤ k → k < 63 → d k = c k) : RM a d := by
  obtain ⟨g1, g2, g3, g4⟩ := h
  refine ⟨by rw [hd 46 (by omega) (by omega)]; exact g1, fun i hi => ?_, by rw [hd 1 (by omega) (by omega)]; exact g3, fun k hk => by rw [hd _ (by omega) (by omega)]; exact g4 k hk⟩
  obtain ⟨f1, f2, f3, f4, f5⟩ := g2 i hi
  unfold RM1
  rw [hd _ (by omega) (by omega), hd _ (by omega) (by omega), hd _ (by omega) (by omega), hd _ (by omega) (by omega), hd _ (by omega) (by omega)]
  exact ⟨f1, f2, f3, f4, f5⟩
section GA
variable {M : tb_Mem} {q : Nat} {a : St}
theorem N_tick (hw : sWF a) (h : RM a (M q)) : ∃ M', fX7_tick q M = some (nI (sTc a), M') ∧ RM (sTk a) (M' q) ∧ Fq q M M' ∧ M' q 0 = M q 0 + 1 := by
  obtain ⟨c', e1, e2, e3⟩ := X7_tick (M := M) (q := q) hw h
  rw [tb_row_self] at e1
  exact ⟨_, e1, by rw [tb_row_same]; exact e2, Fq_row, by rw [tb_row_same]; exact e3⟩
theorem N_high {i : Nat} (hg : sGood a) (h : RM a (M q)) (hi : i < a 0 0) : fX7_high q (nI i) M = some (nI (sHg a i), M) := by
  have hw := hg.1
  have hn := hw.1
  by_cases hp : 0 < sHg a i ∨ a 4 i = 0
  · have := X7_high (M := M) (q := q) (c := M q) hw h hi (fun h4 => hp.resolve_right h4)
    rw [tb_row_self] at this
    exact this
  · have h4 : a 4 i ≠ 0 := fun z => hp (Or.inr z)
    have h1 : a 4 i = 1 := (hg.2 i hi h4).resolve_right (fun z => hp (Or.inl z))
    have ok := hw.2.1 i hi
    have h5 : a 5 i = 0 := by have := ok.2.2.2.2.2.2.2; omega
    obtain ⟨b1, b2, b3, b4, b5⟩ := h.2.1 i hi
    have lt := sTop_le ok
    have e : sHg a i = 0 := by
      by_cases z : sHg a i = 0
      · exact z
      · exact absurd (Or.inl (by omega)) hp
    have tp := X7_top (M := M) (q := q) (a := a) (c := M q) (i := i) (by omega) b4 b5 ok.2.1
    rw [tb_row_self] at tp
    unfold fX7_high
    rw [show (2 : Int32) + nI i = nI (2 + i) from by rw [zl2, nI_add], show (10 : Int32) + nI i = nI (10 + i) from by rw [zl10, nI_add], tb_in_t (by omega) (by omega), tb_ck_t, nI_clamp (by omega), nI_clamp (by omega)]
    dsimp only [tb_let]
    rw [tb_in_t (by omega) (by omega), tb_ck_t, b2, b1, h5, h1, if_neg (by decide), if_pos (by decide), tp, tb_b2_some, show (55 : Int32) + nI i = nI (55 + i) from by rw [zl55, nI_add], tb_in_t (by omega) (by omega), tb_ck_t, if_neg (by rw [show tm 1 = nI 0 from rfl, nI_ltI (by omega) (by omega)]; omega), e]
    rfl
theorem N_top {i : Nat} (hw : sWF a) (h : RM a (M q)) (hi : i < a 0 0) : fX7_top q (nI i) M = some (nI (sTop a i), M) := by
  have hn := hw.1
  obtain ⟨b1, b2, b3, b4, b5⟩ := h.2.1 i hi
  have := X7_top (M := M) (q := q) (a := a) (c := M q) (i := i) (by omega) b4 b5 (hw.2.1 i hi).2.1
  rw [tb_row_self] at this
  exact this
theorem N_hanging (hw : sWF a) (h : RM a (M q)) : ∃ x, fX7_hanging q M = some (x, M) ∧ Mk x (sHn a) (a 0 0) := by
  have hn := hw.1
  have key : ∀ (n i : Nat) (x : Int32), i ≤ a 0 0 → a 0 0 - i < n → Mk x (sHn a) i → ∃ y, fX7_hanging_L4 q n x (nI i) M = some (y, M) ∧ Mk y (sHn a) (a 0 0) := by
    intro n
    induction n with
    | zero => intro i x h1 h2; omega
    | succ n ih =>
      intro i x h1 h2 hx
      rw [fX7_hanging_L4, h.1]
      by_cases hi : i < a 0 0
      · have b2 := (h.2.1 i hi).2.1
        have l5 := (hw.2.1 i hi).2.2.2.2.2.2.1
        rw [if_neg (by rw [nI_leI (by omega) (by omega)]; omega), show (10 : Int32) + nI i = nI (10 + i) from by rw [zl10, nI_add], tb_in_t (by omega) (by omega), tb_ck_t, nI_clamp (by omega), b2, nI_1]
        dsimp only [tb_let]
        have hg := hx.grow (b := sHn a i) (by omega)
        have hg2 : Mk (x ||| (if sHn a i = true then (1 <<< (nI i &&& 31)) else 0)) (sHn a) (i + 1) := hg.congr (fun j hj => by
          by_cases e : j = i
          · subst e; simp
          · simp [e])
        by_cases h0 : a 5 i = 0
        · rw [if_pos ((nI_le0 (by omega)).mpr h0)]
          rw [if_neg (by simp [sHn, h0])] at hg2
          exact ih (i + 1) _ (by omega) (by omega) hg2
        · rw [if_neg (fun z => h0 ((nI_le0 (by omega)).mp z))]
          rw [if_pos (by simp [sHn, h0])] at hg2
          exact ih (i + 1) _ (by omega) (by omega) hg2
      · have hie : i = a 0 0 := by omega
        subst hie
        rw [if_pos (by rw [nI_leI (by omega) (by omega)]; omega)]
        exact ⟨x, rfl, hx⟩
  exact key tb_N 0 0 (Nat.zero_le _) (by unfold tb_N; omega) (Mk.zero (fun i hi => by omega))
theorem N_moving (hw : sWF a) (h : RM a (M q)) : ∃ x, fX7_moving q M = some (x, M) ∧ Mk x (sMv a) (a 0 0) := by
  have hn := hw.1
  have key : ∀ (n i : Nat) (x : Int32), i ≤ a 0 0 → a 0 0 - i < n → Mk x (sMv a) i → ∃ y, fX7_moving_L4 q n x (nI i) M = some (y, M) ∧ Mk y (sMv a) (a 0 0) := by
    intro n
    induction n with
    | zero => intro i x h1 h2; omega
    | succ n ih =>
      intro i x h1 h2 hx
      rw [fX7_moving_L4, h.1]
      by_cases hi : i < a 0 0
      · have b1 := (h.2.1 i hi).1
        have l4 := (hw.2.1 i hi).2.2.2.2.2.1
        rw [if_neg (by rw [nI_leI (by omega) (by omega)]; omega), show (2 : Int32) + nI i = nI (2 + i) from by rw [zl2, nI_add], tb_in_t (by omega) (by omega), tb_ck_t, nI_clamp (by omega), b1, nI_1]
        dsimp only [tb_let]
        have hg := hx.grow (b := sMv a i) (by omega)
        have hg2 : Mk (x ||| (if sMv a i = true then (1 <<< (nI i &&& 31)) else 0)) (sMv a) (i + 1) := hg.congr (fun j hj => by
          by_cases e : j = i
          · subst e; simp
          · simp [e])
        by_cases h0 : a 4 i = 0
        · rw [if_pos ((tm_lt (by omega)).mpr h0)]
          rw [if_neg (by simp [sMv, h0])] at hg2
          exact ih (i + 1) _ (by omega) (by omega) hg2
        · rw [if_neg (fun z => h0 ((tm_lt (by omega)).mp z))]
          rw [if_pos (by simp [sMv, h0])] at hg2
          exact ih (i + 1) _ (by omega) (by omega) hg2
      · have hie : i = a 0 0 := by omega
        subst hie
        rw [if_pos (by rw [nI_leI (by omega) (by omega)]; omega)]
        exact ⟨x, rfl, hx⟩
  exact key tb_N 0 0 (Nat.zero_le _) (by unfold tb_N; omega) (Mk.zero (fun i hi => by omega))
theorem N_rests {i : Nat} (hw : sWF a) (h : RM a (M q)) (hi : i < a 0 0) : ∃ r : Int32, fX7_rests q (nI i) M = some (r, M) ∧ (r = 0 ↔ ¬ sRst a i) := by
  have hn := hw.1
  obtain ⟨b1, b2, -⟩ := h.2.1 i hi
  have ok := hw.2.1 i hi
  have l4 := ok.2.2.2.2.2.1
  have l5 := ok.2.2.2.2.2.2.1
  unfold fX7_rests
  rw [show (2 : Int32) + nI i = nI (2 + i) from by rw [zl2, nI_add], show (10 : Int32) + nI i = nI (10 + i) from by rw [zl10, nI_add], tb_in_t (by omega) (by omega), tb_ck_t, nI_clamp (by omega), nI_clamp (by omega), tb_in_t (by omega) (by omega), tb_ck_t, b1, b2]
  by_cases h4 : a 4 i = 0
  · rw [if_neg (fun z => (tm_ge (by omega)).mp z h4)]
    refine ⟨_, rfl, ?_⟩
    by_cases h5 : a 5 i = 0
    · rw [if_pos (by rw [h5]; rfl)]
      constructor
      · intro z; exact absurd z (by decide)
      · intro z; exact absurd ⟨h4, h5⟩ z
    · rw [if_neg (fun z => h5 ((nI_is0 (by omega)).mp z))]
      exact ⟨fun _ z => h5 z.2, fun _ => rfl⟩
  · rw [if_pos ((tm_ge (by omega)).mpr h4)]
    exact ⟨0, rfl, fun _ z => h4 z.1, fun _ => rfl⟩
/-- TIME 0 (or v): the bar moves; it doesn't hang -/
theorem RM.start {c d : Nat → Int32} {i v : Nat} (hn : a 0 0 ≤ 8) (h : RM a c) (hi : i < a 0 0) (h5 : d (10 + i) = 0) (h2 : d (2 + i) = nI v) (hd : ∀ k, k ≠ 2 + i → k ≠ 10 + i → d k = c k) : RM (sStart a i v) d := by
  refine h.jk (i := i) hn (fun k k4 k5 => sStart_o k4 k5) (fun j _ hj => ⟨by rw [sStart_4, if_neg hj], by rw [sStart_5, if_neg hj]⟩) (fun k _ k2 k10 => hd k k2 k10) hi ?_ ?_
  · rw [h2, sStart_4, if_pos rfl, tm_s]
  · rw [h5, sStart_5, if_pos rfl]; rfl
theorem N_frees (hw : sWF a) (h : RM a (M q)) : ∃ M', fX7_frees q M = some M' ∧ RM (sLay a (sHn a)) (M' q) ∧ Fq q M M' ∧ M' q 0 = M q 0 := by
  have hn := hw.1
  have key : ∀ (n i : Nat) (c : Nat → Int32), i ≤ 8 → 8 - i < n → (∀ k, c k = if 10 ≤ k ∧ k < 10 + i then 0 else M q k) → fX7_frees_L2 q n (nI i) (tb_row M q c) = some (tb_row M q (fun k => if 10 ≤ k ∧ k < 18 then 0 else M q k)) := by
    intro n
    induction n with
    | zero => intro i c h1 h2; omega
    | succ n ih =>
      intro i c h1 h2 hc
      rw [fX7_frees_L2, zl8]
      by_cases hi : i < 8
      · rw [if_neg (by rw [nI_leI (by omega) (by omega)]; omega), show (10 : Int32) + nI i = nI (10 + i) from by rw [zl10, nI_add], tb_in_t (by omega) (by omega), tb_ck_t, nI_clamp (by omega), nI_1]
        dsimp only [tb_let]
        rw [tb_up_row]
        refine ih (i + 1) _ (by omega) (by omega) (fun k => ?_)
        simp only [upd]
        by_cases e : k = 10 + i
        · rw [if_pos e, if_pos (by omega)]
        · rw [if_neg e, hc k]
          by_cases h3 : 10 ≤ k ∧ k < 10 + i
          · rw [if_pos h3, if_pos (by omega)]
          · rw [if_neg h3, if_neg (by omega)]
      · have : i = 8 := by omega
        subst this
        rw [if_pos (by decide)]
        congr 2
        funext k
        exact hc k
  have k0 := key tb_N 0 (M q) (by omega) (by unfold tb_N; omega) (fun k => by rw [if_neg (by omega)])
  rw [tb_row_self] at k0
  refine ⟨_, k0, ?_, Fq_row, by rw [tb_row_same]; rfl⟩
  rw [tb_row_same]
  obtain ⟨g1, g2, g3, g4⟩ := h
  have e0 : (sLay a (sHn a)) 0 0 = a 0 0 := by rw [sLay_o (by omega) (by omega)]
  refine ⟨by rw [e0]; exact g1, fun i hi => ?_, by rw [sLay_o (by omega) (by omega)]; exact g3, fun k hk => by dsimp only; rw [if_neg (by omega), sLay_o (by omega) (by omega)]; exact g4 k hk⟩
  rw [e0] at hi
  obtain ⟨f1, f2, f3, f4, f5⟩ := g2 i hi
  unfold RM1
  dsimp only
  rw [if_neg (by omega), if_pos (by omega), if_neg (by omega), if_neg (by omega), if_neg (by omega), sLay_4, sLay_5, sLay_o (by omega) (by omega), sLay_o (show (2 : Nat) ≠ 4 by omega) (by omega), sLay_o (show (1 : Nat) ≠ 4 by omega) (by omega)]
  have ok := (hw.2.1 i hi).2.2.2.2.2.2.2
  refine ⟨?_, ?_, f3, f4, f5⟩
  · by_cases h5 : a 5 i = 0
    · rw [if_neg (by simp [sHn, h5])]; exact f1
    · rw [if_pos (by simp [sHn, h5]), f1, show a 4 i = 0 by omega]
  · by_cases h5 : a 5 i = 0
    · rw [if_neg (by simp [sHn, h5]), h5]; rfl
    · rw [if_pos (by simp [sHn, h5])]; rfl
theorem N_exch {i j : Nat} (hw : sWF a) (h : RM a (M q)) (hi : i < a 0 0) (hj : j < a 0 0) : ∃ M', fX7_exchanges q (nI i) (nI j) M = some M' ∧ RM (sSwap a i j) (M' q) ∧ Fq q M M' ∧ M' q 0 = M q 0 := by
  have hn := hw.1
  obtain ⟨g1, g2, g3, g4⟩ := h
  have e : fX7_exchanges q (nI i) (nI j) (tb_row M q (M q)) = some (tb_row M q (upd (upd (M q) (18 + i) (nI (a 3 j))) (18 + j) (nI (a 3 i)))) := by
    unfold fX7_exchanges
    dsimp only [tb_let]
    rw [show (18 : Int32) + nI i = nI (18 + i) from by rw [zl18, nI_add], show (18 : Int32) + nI j = nI (18 + j) from by rw [zl18, nI_add], tb_in_t (by omega) (by omega), tb_ck_t, tb_in_t (by omega) (by omega), tb_ck_t, nI_clamp (by omega), nI_clamp (by omega)]
    rw [tb_row_same, (g2 i hi).2.2.1, (g2 j hj).2.2.1, tb_up_row, tb_up_row]
  rw [tb_row_self] at e
  refine ⟨_, e, ?_, Fq_row, by rw [tb_row_same]; simp only [upd]; rw [if_neg (by omega), if_neg (by omega)]⟩
  rw [tb_row_same]
  have e0 : (sSwap a i j) 0 0 = a 0 0 := by rw [sSwap_o (by omega) (by omega)]
  have rd : ∀ k, k ≠ 18 + i → k ≠ 18 + j → upd (upd (M q) (18 + i) (nI (a 3 j))) (18 + j) (nI (a 3 i)) k = M q k := fun k h1 h2 => by simp only [upd]; rw [if_neg h2, if_neg h1]
  refine ⟨by rw [e0, rd _ (by omega) (by omega)]; exact g1, fun k hk => ?_, by rw [sSwap_o (by omega) (by omega), rd _ (by omega) (by omega)]; exact g3, fun k hk => by rw [sSwap_o (by omega) (by omega), rd _ (by omega) (by omega)]; exact g4 k hk⟩
  rw [e0] at hk
  obtain ⟨f1, f2, f3, f4, f5⟩ := g2 k hk
  unfold RM1
  rw [rd (2 + k) (by omega) (by omega), rd (10 + k) (by omega) (by omega), rd (47 + k) (by omega) (by omega), rd (55 + k) (by omega) (by omega), sSwap_o (show (4 : Nat) ≠ 3 by omega) (by omega), sSwap_o (show (5 : Nat) ≠ 3 by omega) (by omega), sSwap_o (show (2 : Nat) ≠ 3 by omega) (by omega), sSwap_o (show (1 : Nat) ≠ 3 by omega) (by omega), sSwap_3]
  refine ⟨f1, f2, ?_, f4, f5⟩
  simp only [upd]
  by_cases e1 : k = j
  · rw [if_pos (by omega), if_pos e1]
  · rw [if_neg (by omega), if_neg e1]
    by_cases e2 : k = i
    · rw [if_pos (by omega), if_pos e2]
    · rw [if_neg (by omega), if_neg e2]; exact f3
end GA
theorem N_copies {M : tb_Mem} {q0 q1 : Nat} (hq : q0 ≠ q1) : fX7_copies q0 q1 M = some (tb_row M q1 (fun k => if k < 63 then M q0 k else M q1 k)) := by
  have key : ∀ (n i : Nat) (c : Nat → Int32), i ≤ 63 → 63 - i < n → (∀ k, c k = if k < i then M q0 k else M q1 k) → fX7_copies_L2 q0 q1 n (nI i) (tb_row M q1 c) = some (tb_row M q1 (fun k => if k < 63 then M q0 k else M q1 k)) := by
    intro n
    induction n with
    | zero => intro i c h1 h2; omega
    | succ n ih =>
      intro i c h1 h2 hc
      rw [fX7_copies_L2, show (63 : Int32) = nI 63 from rfl]
      by_cases hi : i < 63
      · rw [if_neg (by rw [nI_leI (by omega) (by omega)]; omega), tb_in_t (by omega) (by omega), tb_ck_t, nI_clamp (by omega), nI_1]
        dsimp only [tb_let]
        rw [tb_up_row, tb_row_ne hq]
        refine ih (i + 1) _ (by omega) (by omega) (fun k => ?_)
        simp only [upd]
        by_cases e : k = i
        · rw [if_pos e, if_pos (by omega), e]
        · rw [if_neg e, hc k]
          by_cases h3 : k < i
          · rw [if_pos h3, if_pos (by omega)]
          · rw [if_neg h3, if_neg (by omega)]
      · have : i = 63 := by omega
        subst this
        rw [if_pos (by decide)]
        congr 2
        funext k
        exact hc k
  have k0 := key tb_N 0 (M q1) (by omega) (by unfold tb_N; omega) (fun k => by rw [if_neg (by omega)])
  rw [tb_row_self] at k0
  exact k0
theorem N_cop {M : tb_Mem} {a : St} (hw : a 0 0 ≤ 8) (h : RM a (M 303)) : ∃ M', fX7_copies 303 308 M = some M' ∧ RM a (M' 308) ∧ Fq 308 M M' := by
  refine ⟨_, N_copies (by omega), ?_, Fq_row⟩
  rw [tb_row_same]
  exact h.cg hw (fun k _ hk => by rw [if_pos hk])
theorem N_goesOn {M : tb_Mem} {a : St} {d : Nat} (hg : sGood a) (hd : d ≤ 100) (h : RM a (M 303)) : ∃ M', fX7_goesOn (nI d) M = some M' ∧ RM (sTn a d) (M' 308) ∧ Fq 308 M M' := by
  obtain ⟨M1, e1, e2, e3⟩ := N_cop hg.1.1 h
  unfold fX7_goesOn
  rw [e1, tb_b1_some]
  have key : ∀ (n i : Nat) (b : St) (M : tb_Mem), sGood b → i ≤ d → d - i < n → RM b (M 308) → ∃ M', fX7_goesOn_L13 n (nI d) (nI i) M = some M' ∧ RM (sTn b (d - i)) (M' 308) ∧ Fq 308 M M' := by
    intro n
    induction n with
    | zero => intro i b M _ h1 h2; omega
    | succ n ih =>
      intro i b M hb h1 h2 hr
      rw [fX7_goesOn_L13]
      by_cases hi : i < d
      · obtain ⟨M2, f1, f2, f3, -⟩ := N_tick hb.1 hr
        rw [if_neg (by rw [nI_leI (by omega) (by omega)]; omega), f1, tb_b2_some, nI_1]
        obtain ⟨M3, g1, g2, g3⟩ := ih (i + 1) (sTk b) M2 (sTk_good hb.1) (by omega) (by omega) f2
        refine ⟨M3, g1, ?_, f3.trans g3⟩
        rw [show d - i = (d - (i + 1)) + 1 by omega, sTn_s]
        exact g2
      · rw [if_pos (by rw [nI_leI (by omega) (by omega)]; omega)]
        refine ⟨M, rfl, ?_, Fq.rf⟩
        rw [show d - i = 0 by omega]
        exact hr
  obtain ⟨M2, f1, f2, f3⟩ := key tb_N 0 a M1 hg (Nat.zero_le _) (by unfold tb_N; omega) e2
  exact ⟨M2, f1, f2, e3.trans f3⟩

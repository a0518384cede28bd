/-! the class's basket over a memory -/
abbrev rws (M : tb_Mem) (p : Nat) : tb_Mem := fun j => M (p + j)
def BK (k : Nat) (a : St) (M : tb_Mem) (p : Nat) : Prop := RB k a (rws M p)
def Fr (p : Nat) (M M' : tb_Mem) : Prop := ∀ q, (q < p ∨ p + 9 ≤ q) → M' q = M q
theorem Fr.trans {p : Nat} {M M1 M2 : tb_Mem} (h : Fr p M M1) (h2 : Fr p M1 M2) : Fr p M M2 := fun q hq => by rw [h2 q hq, h q hq]
theorem Fr.rf {p : Nat} {M : tb_Mem} : Fr p M M := fun _ _ => rfl
theorem RB.cg2 {k : Nat} {a : St} {F G : tb_Mem} (h : RB k a F) (hw : a 0 0 ≤ 8) (h1 : ∀ j i, 1 ≤ j → j ≤ 7 → i < 8 → G j i = F j i) (h8 : ∀ i, i < 20 → G 8 i = F 8 i) (h0 : ∀ i, 8 ≤ i → i ≤ 11 → G 0 i = F 0 i) : RB k a G := by
  obtain ⟨g1, g2, g3, g4, g5, g6⟩ := h
  refine ⟨by rw [h0 8 (by omega) (by omega)]; exact g1, fun i hi => ?_, by rw [h0 9 (by omega) (by omega)]; exact g3, by rw [h0 10 (by omega) (by omega)]; exact g4, by rw [h0 11 (by omega) (by omega)]; exact g5, fun j hj => by rw [h8 j hj]; exact g6 j hj⟩
  obtain ⟨b1, b2, b3, b4, b5, b6, b7⟩ := g2 i hi
  unfold RB1
  rw [h1 1 i (by omega) (by omega) (by omega), h1 2 i (by omega) (by omega) (by omega), h1 3 i (by omega) (by omega) (by omega), h1 4 i (by omega) (by omega) (by omega), h1 5 i (by omega) (by omega) (by omega), h1 6 i (by omega) (by omega) (by omega), h1 7 i (by omega) (by omega) (by omega)]
  exact ⟨b1, b2, b3, b4, b5, b6, b7⟩
theorem RB.cg {k : Nat} {a : St} {F G : tb_Mem} (h : RB k a F) (hg : ∀ j, j < 9 → G j = F j) : RB k a G := by
  obtain ⟨g1, g2, g3, g4, g5, g6⟩ := h
  refine ⟨by rw [hg 0 (by omega)]; exact g1, fun i hi => ?_, by rw [hg 0 (by omega)]; exact g3, by rw [hg 0 (by omega)]; exact g4, by rw [hg 0 (by omega)]; exact g5, fun j hj => by rw [hg 8 (by omega)]; exact g6 j hj⟩
  obtain ⟨b1, b2, b3, b4, b5, b6, b7⟩ := g2 i hi
  unfold RB1
  rw [hg 1 (by omega), hg 2 (by omega), hg 3 (by omega), hg 4 (by omega), hg 5 (by omega), hg 6 (by omega), hg 7 (by omega)]
  exact ⟨b1, b2, b3, b4, b5, b6, b7⟩
theorem BK.fr {k p : Nat} {a : St} {M M' : tb_Mem} (h : BK k a M p) (hq : ∀ q, p ≤ q → q < p + 9 → M' q = M q) : BK k a M' p := RB.cg h (fun j hj => hq (p + j) (by omega) (by omega))
theorem BK_bm {k p : Nat} {a : St} {M F : tb_Mem} (h : RB k a F) : BK k a (bm M p F) p := RB.cg h (fun j hj => bm_at M p F hj)
theorem Fr_bm {p : Nat} {M F : tb_Mem} : Fr p M (bm M p F) := fun _ hq => bm_out hq
theorem bm_rws (M : tb_Mem) (p : Nat) : bm M p (rws M p) = M := bm_self M p
theorem RB.weak {k : Nat} {a : St} {F : tb_Mem} (h : RB k a F) : RB 0 a F := by
  obtain ⟨g1, g2, g3, g4, g5, g6⟩ := h
  refine ⟨g1, fun i hi => ?_, g3, g4, g5, g6⟩
  obtain ⟨b1, b2, b3, b4, b5, b6, b7⟩ := g2 i hi
  exact ⟨b1, b2, b3, b4, b5, b6, fun hc => b7 (hc.elim Or.inl (fun z => by omega))⟩
section FN
variable {M : tb_Mem} {p : Nat} {a : St}
theorem M_pass {k : Nat} (hw : sWF a) (h : BK k a M p) : ∃ M', fX2_pass p M = some (nI (sTc a), M') ∧ BK (a 0 0) (sTk a) M' p ∧ Fr p M M' ∧ M' p 12 = M p 12 + 1 := by
  obtain ⟨F', e1, e2, e3⟩ := X2_pass (M := M) (p := p) hw h.weak
  rw [bm_rws] at e1
  refine ⟨_, e1, BK_bm e2, Fr_bm, ?_⟩
  rw [bm_0, e3]
  rfl
/-- is there such a bar? -/
theorem M_has_t {k i : Nat} (hw : sWF a) (h : BK k a M p) (hi : i < a 0 0) : fX2_has p (nI i) M = some (1, M) := by
  have hn := hw.1
  have h8 : M p 8 = nI (a 0 0) := h.1
  unfold fX2_has
  rw [if_neg (by rw [nI_lt0 (by omega)]; exact id), h8, if_neg (by rw [nI_leI (by omega) (by omega)]; omega)]
theorem M_has_f {k : Nat} {x : Int32} (h : BK k a M p) (hx : x < 0 ∨ nI (a 0 0) ≤ x) : fX2_has p x M = some (0, M) := by
  have h8 : M p 8 = nI (a 0 0) := h.1
  unfold fX2_has
  by_cases h0 : x < 0
  · rw [if_pos h0]
  · rw [if_neg h0, h8, if_pos (hx.resolve_left h0)]
theorem M_moves {k i : Nat} (hw : sWF a) (h : BK k a M p) (hi : i < a 0 0) : fX2_moves p (nI i) M = some ((if a 4 i = 0 then 0 else 1), M) := by
  have := X2_moves (M := M) (p := p) (F := rws M p) (a := a) h.2.2.1 hw.1 hi
  rw [bm_rws] at this
  exact this
theorem M_hangs {k i : Nat} (hw : sWF a) (h : BK k a M p) (hi : i < a 0 0) : fX2_hangs p (nI i) M = some ((if a 5 i = 0 then 0 else 1), M) := by
  have hn := hw.1
  have h10 : Mk (M p 10) (sHn a) (a 0 0) := h.2.2.2.1
  unfold fX2_hangs
  have ht := h10.test (k := i) hi (by omega)
  by_cases h0 : a 5 i = 0
  · rw [if_pos (ht.mpr (by simp [sHn, h0])), if_pos h0]
  · rw [if_neg (fun z => h0 (by simpa [sHn] using ht.mp z)), if_neg h0]
def sRst (a : St) (i : Nat) : Prop := a 4 i = 0 ∧ a 5 i = 0
theorem M_rests_t {k i : Nat} (hw : sWF a) (h : BK k a M p) (hi : i < a 0 0) : ∃ r : Int32, fX2_rests p (nI i) M = some (r, M) ∧ (r = 0 ↔ ¬ sRst a i) := by
  have hn := hw.1
  have h9 : Mk (M p 9) (sMv a) (a 0 0) := h.2.2.1
  have h10 : Mk (M p 10) (sHn a) (a 0 0) := h.2.2.2.1
  unfold fX2_rests
  rw [M_has_t hw h hi, tb_b2_some, if_neg (by decide)]
  have ht := (h9.or h10).test (k := i) hi (by omega)
  refine ⟨_, rfl, ?_⟩
  by_cases h0 : sRst a i
  · rw [if_pos (ht.mpr (by simp [sMv, sHn, h0.1, h0.2]))]
    constructor
    · intro z; exact absurd z (by decide)
    · intro z; exact absurd h0 z
  · rw [if_neg (fun z => h0 (by have := ht.mp z; simpa [sMv, sHn, sRst] using this))]
    exact ⟨fun _ => h0, fun _ => rfl⟩
theorem M_rests_f {k : Nat} {x : Int32} (h : BK k a M p) (hx : x < 0 ∨ nI (a 0 0) ≤ x) : fX2_rests p x M = some (0, M) := by
  unfold fX2_rests
  rw [M_has_f h hx, tb_b2_some, if_pos rfl]
theorem RB.start {F G : tb_Mem} {k i v : Nat} (hn : a 0 0 ≤ 8) (h : RB k a F) (hi : i < a 0 0) (hk : v = 0 ∨ k = 0) (hG : ∀ c, c ≠ 0 → c ≠ 6 → c ≠ 7 → G c = F c) (h6 : G 6 = upd (F 6) i (nI v)) (h7 : G 7 = upd (F 7) i 0) (h0 : ∀ j, j ≠ 9 → j ≠ 10 → G 0 j = F 0 j) (h9 : G 0 9 = F 0 9 ||| (1 <<< (nI i &&& 31))) (h10 : G 0 10 = F 0 10 &&& ((1 <<< (nI i &&& 31)) ^^^ (-1))) : RB k (sStart a i v) G := by
  obtain ⟨g1, g2, g3, g4, g5, g6⟩ := h
  have e0 : (sStart a i v) 0 0 = a 0 0 := by rw [sStart_o (by omega) (by omega)]
  have o := Mk.one (n := a 0 0) hi (by omega)
  refine ⟨?_, fun j hj => ?_, ?_, ?_, ?_, fun j hj => ?_⟩
  · rw [e0, h0 8 (by omega) (by omega)]; exact g1
  · rw [e0] at hj
    obtain ⟨b1, b2, b3, b4, b5, b6, b7⟩ := g2 j hj
    unfold RB1
    rw [sStart_4, sStart_top, sStart_o (show (1 : Nat) ≠ 4 by omega) (by omega), sStart_o (show (2 : Nat) ≠ 4 by omega) (by omega), sStart_o (show (3 : Nat) ≠ 4 by omega) (by omega), sStart_o (show (8 : Nat) ≠ 4 by omega) (by omega), hG 1 (by omega) (by omega) (by omega), hG 2 (by omega) (by omega) (by omega), hG 3 (by omega) (by omega) (by omega), hG 4 (by omega) (by omega) (by omega), hG 5 (by omega) (by omega) (by omega), h6, h7]
    refine ⟨b1, b2, b3, b4, b5, ?_, ?_⟩
    · intro hne
      simp only [upd]
      by_cases e : j = i
      · rw [if_pos e, if_pos e]; rfl
      · rw [if_neg e] at hne ⊢
        rw [if_neg e]
        exact b6 hne
    · intro hc
      simp only [upd]
      by_cases e : j = i
      · rw [if_pos e]
        rw [if_pos e] at hc
        have hv0 : v = 0 := by omega
        subst hv0
        unfold sHg sHT
        rw [sStart_4, if_pos e]
        simp
        rfl
      · rw [if_neg e, sStart_hg e]
        rw [if_neg e] at hc
        exact b7 hc
  · rw [e0, h9]
    refine (Mk.or g3 o).congr (fun j _ => ?_)
    simp only [sMv, sStart_4]
    by_cases e : j = i
    · simp [e]
    · simp [e]
  · rw [e0, h10]
    refine (Mk.andn g4 o).congr (fun j _ => ?_)
    simp only [sHn, sStart_5]
    by_cases e : j = i
    · simp [e]
    · simp [e]
  · rw [sStart_o (by omega) (by omega), h0 11 (by omega) (by omega)]; exact g5
  · rw [sStart_o (by omega) (by omega), hG 8 (by omega) (by omega) (by omega)]; exact g6 j hj
theorem M_start {k i v : Nat} (hw : sWF a) (h : BK k a M p) (hi : i < a 0 0) (hk : v = 0 ∨ k = 0) : ∃ M', fX2_startAt p (nI i) (nI v) M = some M' ∧ BK k (sStart a i v) M' p ∧ Fr p M M' ∧ M' p 12 = M p 12 := by
  have hn := hw.1
  have e : fX2_startAt p (nI i) (nI v) (bm M p (rws M p)) = some (bm M p (tb_up (tb_up (tb_up (tb_up (rws M p) 0 10 (rws M p 0 10 &&& ((1 <<< (nI i &&& 31)) ^^^ (-1)))) 0 9 (tb_up (rws M p) 0 10 (rws M p 0 10 &&& ((1 <<< (nI i &&& 31)) ^^^ (-1))) 0 9 ||| (1 <<< (nI i &&& 31)))) 6 i (nI v)) 7 i 0)) := by
    unfold fX2_startAt
    dsimp only [tb_let]
    rw [bm_0, bm_up0, bm_0, bm_up0, tb_in_t (by omega) (by omega), tb_ck_t, nI_clamp (by omega), bm_up _ _ _ _ _ (by omega), bm_up _ _ _ _ _ (by omega)]
  rw [bm_rws] at e
  refine ⟨_, e, BK_bm (RB.start hn h hi hk (fun c c0 c6 c7 => by rw [tb_up_ne c7, tb_up_ne c6, tb_up_ne c0, tb_up_ne c0]) ?_ ?_ ?_ ?_ ?_), Fr_bm, ?_⟩
  · rw [tb_up_ne (show (6 : Nat) ≠ 7 by omega), tb_up_same, tb_up_ne (show (6 : Nat) ≠ 0 by omega), tb_up_ne (show (6 : Nat) ≠ 0 by omega)]
  · rw [tb_up_same, tb_up_ne (show (7 : Nat) ≠ 6 by omega), tb_up_ne (show (7 : Nat) ≠ 0 by omega), tb_up_ne (show (7 : Nat) ≠ 0 by omega)]
  · intro j j9 j10
    rw [tb_up_ne (show (0 : Nat) ≠ 7 by omega), tb_up_ne (show (0 : Nat) ≠ 6 by omega), tb_up_same]
    simp only [upd, if_neg j9]
    rw [tb_up_same]
    simp only [upd, if_neg j10]
  · rw [tb_up_ne (show (0 : Nat) ≠ 7 by omega), tb_up_ne (show (0 : Nat) ≠ 6 by omega), tb_up_same]
    simp only [upd, if_true]
    rw [tb_up_same]
    simp only [upd]
    rw [if_neg (by omega)]
  · rw [tb_up_ne (show (0 : Nat) ≠ 7 by omega), tb_up_ne (show (0 : Nat) ≠ 6 by omega), tb_up_same]
    simp only [upd]
    rw [if_neg (by omega), tb_up_same]
    simp only [upd, if_true]
  · rw [bm_0, tb_up_ne (show (0 : Nat) ≠ 7 by omega), tb_up_ne (show (0 : Nat) ≠ 6 by omega), tb_up_same]
    simp only [upd]
    rw [if_neg (by omega), tb_up_same]
    simp only [upd]
    rw [if_neg (by omega)]
    rfl
theorem M_press {k i : Nat} (hw : sWF a) (h : BK k a M p) (hi : i < a 0 0) : ∃ M', fX2_press p (nI i) M = some M' ∧ BK k (sStart a i 0) M' p ∧ Fr p M M' ∧ M' p 12 = M p 12 := by
  obtain ⟨M', e1, e2, e3, e4⟩ := M_start (v := 0) hw h hi (Or.inl rfl)
  unfold fX2_press
  have e1' : fX2_startAt p (nI i) 0 M = some M' := e1
  rw [e1', tb_b1_some]
  exact ⟨M', rfl, e2, e3, e4⟩
theorem M_foresee (hg : sGood a) (h : BK (a 0 0) a M p) : ∀ (d : Nat), d ≤ 100 → ∃ M', fX2_foresee p (nI d) M = some M' ∧ BK (a 0 0) (sTn a d) M' p ∧ Fr p M M' := by
  intro d hd
  unfold fX2_foresee
  have key : ∀ (n i : Nat) (b : St) (M : tb_Mem), sGood b → b 0 0 = a 0 0 → i ≤ d → d - i < n → BK (a 0 0) b M p → ∃ M', fX2_foresee_L2 p n (nI d) (nI i) M = some M' ∧ BK (a 0 0) (sTn b (d - i)) M' p ∧ Fr p M M' := by
    intro n
    induction n with
    | zero => intro i b M _ _ h1 h2; omega
    | succ n ih =>
      intro i b M hb hb0 h1 h2 hbk
      have hn := hb.1.1
      rw [fX2_foresee_L2]
      by_cases hi : i < d
      · rw [if_neg (by rw [nI_leI (by omega) (by omega)]; omega)]
        have h9 : Mk (M p 9) (sMv b) (b 0 0) := hbk.2.2.1
        have hz := h9.eq0 (by omega)
        by_cases h0 : M p 9 = 0
        · rw [if_pos h0]
          refine ⟨M, rfl, ?_, Fr.rf⟩
          rw [sTn_rest (fun j hj => by have := hz.mp h0 j hj; simpa [sMv] using this)]
          exact hbk
        · rw [if_neg h0]
          obtain ⟨M1, e1, e2, e3, -⟩ := M_pass hb.1 hbk
          rw [e1, tb_b2_some, nI_1]
          obtain ⟨M2, f1, f2, f3⟩ := ih (i + 1) (sTk b) M1 (sTk_good hb.1) (by rw [sTk_0]; exact hb0) (by omega) (by omega) (by rw [hb0] at e2; exact e2)
          refine ⟨M2, f1, ?_, e3.trans f3⟩
          rw [show d - i = (d - (i + 1)) + 1 by omega, sTn_s]
          exact f2
      · rw [if_pos (by rw [nI_leI (by omega) (by omega)]; omega)]
        refine ⟨M, rfl, ?_, Fr.rf⟩
        rw [show d - i = 0 by omega]
        exact hbk
  exact key tb_N 0 a M hg rfl (Nat.zero_le _) (by unfold tb_N; omega) h
end FN

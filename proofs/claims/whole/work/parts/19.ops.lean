/-! the other moves of a basket, abstractly, and over a memory -/
def sLive (a : St) : Prop := ∀ i, i < a 0 0 → a 4 i ≠ 0 → a 4 i = 1 ∨ 0 < sHg a i
def sGood (a : St) : Prop := sWF a ∧ sLive a
theorem sTk_live {a : St} (h : sWF a) : sLive (sTk a) := by
  intro i hi h4
  rw [sTk_0] at hi
  right
  have cs : ∀ c, c ≠ 6 → c ≠ 7 → sTk a c = sJam (sMix a (a 0 0)) c := fun c h6 h7 => by unfold sTk; exact sPs_o _ h6 h7 _
  rw [sHg_c i cs, sJam_hg]
  rw [cs 4 (by omega) (by omega), sJam_4] at h4
  cases hh : sHang (sMix a (a 0 0)) i
  · rw [hh] at h4
    simp only [Bool.false_eq_true, if_false] at h4
    unfold sHg
    rw [if_neg h4, sMix_HT]
    rw [sMix_4, if_pos hi] at h4 ⊢
    unfold sT1 at h4 ⊢
    by_cases z : a 4 i = 0
    · rw [if_pos z] at h4; exact absurd rfl h4
    · rw [if_neg z] at h4 ⊢
      by_cases z2 : sHT a i (a 4 i) = 0
      · rw [if_pos z2] at h4; exact absurd rfl h4
      · rw [if_neg z2]
        show 0 < sHT a i (a 4 i)
        omega
  · rw [hh] at h4; exact absurd rfl h4
theorem sTk_good {a : St} (h : sWF a) : sGood (sTk a) := ⟨sTk_wf h, sTk_live h⟩
/-- nothing moves: a tick changes nothing -/
theorem sTk_rest {a : St} (h : ∀ i, i < a 0 0 → a 4 i = 0) : sTk a = a := by
  have e1 : sMix a (a 0 0) = a := by
    funext c j
    by_cases hc : c = 4
    · subst hc
      rw [sMix_4]
      by_cases hj : j < a 0 0
      · rw [if_pos hj]; simp [sT1, h j hj]
      · rw [if_neg hj]
    · rw [sMix_o hc]
  have e2 : sJam a = a := by
    have hh : ∀ i, sHang a i = false := fun i => sHang_no (fun j hi hj _ hm => by
      rcases hm.2.2.1 with z | z
      · exact z (h i hi)
      · exact z (h j hj))
    funext c j
    by_cases h4 : c = 4
    · subst h4; rw [sJam_4, hh]; simp
    · by_cases h5 : c = 5
      · subst h5; rw [sJam_5, hh]; simp
      · rw [sJam_o h4 h5]
  unfold sTk
  rw [e1, e2]
  have : ∀ k, k ≤ a 0 0 → sPs a k = a := by
    intro k
    induction k with
    | zero => intro _; rfl
    | succ k ih => intro hk; rw [sPs, if_neg (by rw [h k (by omega)]; omega), ih (by omega)]
  exact this _ (Nat.le_refl _)
noncomputable def sTn (a : St) : Nat → St
  | 0 => a
  | d + 1 => sTk (sTn a d)
theorem sTn_0 (a : St) : ∀ d, sTn a d 0 = a 0
  | 0 => rfl
  | d + 1 => by rw [sTn, sTk_0, sTn_0 a d]
theorem sTn_good {a : St} (h : sGood a) : ∀ d, sGood (sTn a d)
  | 0 => h
  | d + 1 => sTk_good (sTn_good h d).1
theorem sTn_rest {a : St} (h : ∀ i, i < a 0 0 → a 4 i = 0) : ∀ d, sTn a d = a
  | 0 => rfl
  | d + 1 => by rw [sTn, sTn_rest h d, sTk_rest h]
theorem sTn_s (a : St) : ∀ d, sTn a (d + 1) = sTn (sTk a) d
  | 0 => rfl
  | d + 1 => by rw [sTn, sTn_s a d]; rfl
/-- a bar at TIME v, moving -/
def sStart (a : St) (i v : Nat) : St := sset (sset a 5 (fun j => if j = i then 0 else a 5 j)) 4 (fun j => if j = i then v + 1 else a 4 j)
theorem sStart_o {a : St} {i v c : Nat} (h4 : c ≠ 4) (h5 : c ≠ 5) : sStart a i v c = a c := by unfold sStart; rw [sset_n h4, sset_n h5]
theorem sStart_4 (a : St) (i v j : Nat) : sStart a i v 4 j = if j = i then v + 1 else a 4 j := by unfold sStart; rw [sset_s]
theorem sStart_5 (a : St) (i v j : Nat) : sStart a i v 5 j = if j = i then 0 else a 5 j := by unfold sStart; rw [sset_n (by omega), sset_s]
theorem sStart_top (a : St) (i v j : Nat) : sTop (sStart a i v) j = sTop a j := by simp [sTop, sStart_o]
theorem sStart_hg {a : St} {i v j : Nat} (h : j ≠ i) : sHg (sStart a i v) j = sHg a j := by
  unfold sHg sHT
  rw [sStart_4, sStart_5, sStart_top, sStart_o (show (1 : Nat) ≠ 4 by omega) (by omega), if_neg h, if_neg h]
theorem sStart_wf {a : St} {i v : Nat} (h : sWF a) (hi : i < a 0 0) (hv : v ≤ 9) : sWF (sStart a i v) := by
  obtain ⟨g1, g2, g3, g4, g5⟩ := h
  have e0 : (sStart a i v) 0 0 = a 0 0 := by rw [sStart_o (by omega) (by omega)]
  refine ⟨by omega, fun j hj => ?_, fun j hj => ?_, by rw [sStart_o (by omega) (by omega)]; exact g4, fun k hk => by rw [sStart_o (by omega) (by omega)]; exact g5 k hk⟩
  · have ok := g2 j (by omega)
    unfold sOK at ok ⊢
    rw [sStart_4, sStart_5, sStart_o (show (1 : Nat) ≠ 4 by omega) (by omega), sStart_o (show (2 : Nat) ≠ 4 by omega) (by omega), sStart_o (show (3 : Nat) ≠ 4 by omega) (by omega), e0]
    by_cases e : j = i
    · rw [if_pos e, if_pos e]; omega
    · rw [if_neg e, if_neg e]; exact ok
  · rw [sStart_o (show (8 : Nat) ≠ 4 by omega) (by omega), sStart_o (show (3 : Nat) ≠ 4 by omega) (by omega), e0]
    exact g3 j (by omega)
theorem sPress_good {a : St} {i : Nat} (h : sGood a) (hi : i < a 0 0) : sGood (sStart a i 0) := by
  refine ⟨sStart_wf h.1 hi (by omega), fun j hj h4 => ?_⟩
  rw [sStart_o (by omega) (by omega)] at hj
  by_cases e : j = i
  · left; rw [sStart_4, if_pos e]
  · rw [sStart_hg e, sStart_4, if_neg e]
    rw [sStart_4, if_neg e] at h4
    exact h.2 j hj h4
/-- the bars of a set fall -/
def sLay (a : St) (f : Nat → Bool) : St := sset (sset a 5 (fun j => if f j = true then 0 else a 5 j)) 4 (fun j => if f j = true then 0 else a 4 j)
theorem sLay_o {a : St} {f : Nat → Bool} {c : Nat} (h4 : c ≠ 4) (h5 : c ≠ 5) : sLay a f c = a c := by unfold sLay; rw [sset_n h4, sset_n h5]
theorem sLay_4 (a : St) (f : Nat → Bool) (j : Nat) : sLay a f 4 j = if f j = true then 0 else a 4 j := by unfold sLay; rw [sset_s]
theorem sLay_5 (a : St) (f : Nat → Bool) (j : Nat) : sLay a f 5 j = if f j = true then 0 else a 5 j := by unfold sLay; rw [sset_n (by omega), sset_s]
theorem sLay_top (a : St) (f : Nat → Bool) (j : Nat) : sTop (sLay a f) j = sTop a j := by simp [sTop, sLay_o]
theorem sLay_hg (a : St) (f : Nat → Bool) (j : Nat) : sHg (sLay a f) j = if f j = true then 0 else sHg a j := by
  unfold sHg sHT
  rw [sLay_4, sLay_5, sLay_top, sLay_o (show (1 : Nat) ≠ 4 by omega) (by omega)]
  by_cases h : f j = true
  · rw [if_pos h, if_pos h, if_pos h, if_pos rfl]
  · rw [if_neg h, if_neg h, if_neg h]
theorem sLay_good {a : St} {f : Nat → Bool} (h : sGood a) : sGood (sLay a f) := by
  obtain ⟨⟨g1, g2, g3, g4, g5⟩, hl⟩ := h
  have e0 : (sLay a f) 0 0 = a 0 0 := by rw [sLay_o (by omega) (by omega)]
  refine ⟨⟨by omega, fun j hj => ?_, fun j hj => ?_, by rw [sLay_o (by omega) (by omega)]; exact g4, fun k hk => by rw [sLay_o (by omega) (by omega)]; exact g5 k hk⟩, fun j hj h4 => ?_⟩
  · have ok := g2 j (by omega)
    unfold sOK at ok ⊢
    rw [sLay_4, sLay_5, sLay_o (show (1 : Nat) ≠ 4 by omega) (by omega), sLay_o (show (2 : Nat) ≠ 4 by omega) (by omega), sLay_o (show (3 : Nat) ≠ 4 by omega) (by omega), e0]
    by_cases e : f j = true
    · rw [if_pos e, if_pos e]; omega
    · rw [if_neg e, if_neg e]; exact ok
  · rw [sLay_o (show (8 : Nat) ≠ 4 by omega) (by omega), sLay_o (show (3 : Nat) ≠ 4 by omega) (by omega), e0]
    exact g3 j (by omega)
  · rw [e0] at hj
    rw [sLay_4] at h4
    by_cases e : f j = true
    · rw [if_pos e] at h4; exact absurd rfl h4
    · rw [if_neg e] at h4
      rw [sLay_hg, if_neg e, sLay_4, if_neg e]
      exact hl j hj h4
/-- two bars exchange their places -/
def sSwap (a : St) (i j : Nat) : St := sset (sset a 3 (fun k => if k = j then a 3 i else if k = i then a 3 j else a 3 k)) 8 (fun k => if k = a 3 i then j else if k = a 3 j then i else a 8 k)
theorem sSwap_o {a : St} {i j c : Nat} (h3 : c ≠ 3) (h8 : c ≠ 8) : sSwap a i j c = a c := by unfold sSwap; rw [sset_n h8, sset_n h3]
theorem sSwap_3 (a : St) (i j k : Nat) : sSwap a i j 3 k = if k = j then a 3 i else if k = i then a 3 j else a 3 k := by unfold sSwap; rw [sset_n (by omega), sset_s]
theorem sSwap_8 (a : St) (i j k : Nat) : sSwap a i j 8 k = if k = a 3 i then j else if k = a 3 j then i else a 8 k := by unfold sSwap; rw [sset_s]
theorem sSwap_top (a : St) (i j k : Nat) : sTop (sSwap a i j) k = sTop a k := by simp [sTop, sSwap_o]
theorem sSwap_hg (a : St) (i j k : Nat) : sHg (sSwap a i j) k = sHg a k := by simp [sHg, sHT, sSwap_top, sSwap_o]
theorem sSwap_good {a : St} {i j : Nat} (h : sGood a) (hi : i < a 0 0) (hj : j < a 0 0) : sGood (sSwap a i j) := by
  obtain ⟨⟨g1, g2, g3, g4, g5⟩, hl⟩ := h
  have e0 : (sSwap a i j) 0 0 = a 0 0 := by rw [sSwap_o (by omega) (by omega)]
  have pi := (g2 i hi).2.2.2.2.1
  have pj := (g2 j hj).2.2.2.2.1
  have inj : ∀ u v, u < a 0 0 → v < a 0 0 → a 3 u = a 3 v → u = v := fun u v hu hv e => by
    rw [← (g3 u hu).1, e, (g3 v hv).1]
  refine ⟨⟨by omega, fun k hk => ?_, fun k hk => ?_, by rw [sSwap_o (by omega) (by omega)]; exact g4, fun k hk => by rw [sSwap_o (by omega) (by omega)]; exact g5 k hk⟩, fun k hk h4 => ?_⟩
  · have ok := g2 k (by omega)
    unfold sOK at ok ⊢
    rw [sSwap_3, sSwap_o (show (1 : Nat) ≠ 3 by omega) (by omega), sSwap_o (show (2 : Nat) ≠ 3 by omega) (by omega), sSwap_o (show (4 : Nat) ≠ 3 by omega) (by omega), sSwap_o (show (5 : Nat) ≠ 3 by omega) (by omega), e0]
    refine ⟨ok.1, ok.2.1, ok.2.2.1, ok.2.2.2.1, ?_, ok.2.2.2.2.2⟩
    split
    · exact pi
    · split
      · exact pj
      · exact ok.2.2.2.2.1
  · rw [e0] at hk ⊢
    have gk := g3 k hk
    refine ⟨?_, ?_, ?_⟩
    · rw [sSwap_3, sSwap_8]
      by_cases e1 : k = j
      · rw [if_pos e1, if_pos rfl, e1]
      · rw [if_neg e1]
        by_cases e2 : k = i
        · rw [if_pos e2]
          by_cases e3 : a 3 j = a 3 i
          · exact absurd (e2.trans (inj i j hi hj e3.symm)) e1
          · rw [if_neg e3, if_pos rfl, e2]
        · rw [if_neg e2, if_neg (fun z => e2 (inj k i hk hi z)), if_neg (fun z => e1 (inj k j hk hj z))]
          exact gk.1
    · rw [sSwap_8]
      split
      · exact hj
      · split
        · exact hi
        · exact gk.2.1
    · rw [sSwap_8, sSwap_3]
      by_cases e1 : k = a 3 i
      · rw [if_pos e1, if_pos rfl, e1]
      · rw [if_neg e1]
        by_cases e2 : k = a 3 j
        · rw [if_pos e2]
          by_cases e3 : i = j
          · rw [if_pos e3, e3, e2]
          · rw [if_neg e3, if_pos rfl, e2]
        · rw [if_neg e2]
          have n1 : a 8 k ≠ j := fun z => e2 (by rw [← z, gk.2.2])
          have n2 : a 8 k ≠ i := fun z => e1 (by rw [← z, gk.2.2])
          rw [if_neg n1, if_neg n2]
          exact gk.2.2
  · rw [sSwap_o (by omega) (by omega)] at hk h4 ⊢
    rw [sSwap_hg]
    exact hl k hk h4
/-- the carriage is brought back -/
def sBack (a : St) : St := sset (sset a 7 (fun _ => 0)) 6 (fun _ => 0)
theorem sBack_o {a : St} {c : Nat} (h6 : c ≠ 6) (h7 : c ≠ 7) : sBack a c = a c := by unfold sBack; rw [sset_n h6, sset_n h7]
theorem sBack_good {a : St} (h : sGood a) : sGood (sBack a) := by
  refine ⟨sWF_67 h.1 (fun c h6 h7 => sBack_o h6 h7) (by simp [sBack, sset]) (fun k _ => by simp [sBack, sset]), fun i hi h4 => ?_⟩
  rw [sHg_c i (fun c h6 h7 => sBack_o h6 h7)]
  rw [sBack_o (by omega) (by omega)] at hi h4 ⊢
  exact h.2 i hi h4

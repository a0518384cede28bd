/-! asking -/
theorem upd_same (f : Nat → Int32) (k : Nat) (v : Int32) : upd f k v k = v := by simp [upd]
theorem upd_other (f : Nat → Int32) (k : Nat) (v : Int32) {j : Nat} (h : j ≠ k) : upd f k v j = f j := by simp [upd, h]
def AK (M0 M : tb_Mem) (L : List Int32) : Prop := M 261 1 = nI L.length ∧ (∀ j, j < L.length → M 262 j = L.getD j 0) ∧ ∀ q, q ≠ 261 → q ≠ 262 → M q = M0 q
def AT (M0 M : tb_Mem) (L : List Int32) : Prop := M 297 16 = nI L.length ∧ (∀ j, j < L.length → M 309 j = L.getD j 0) ∧ (∀ q, q ≠ 297 → q ≠ 309 → M q = M0 q) ∧ ∀ k, k ≠ 16 → M 297 k = M0 297 k
theorem getD_app (L : List Int32) (x : Int32) {j : Nat} (h : j < L.length + 1) : (L ++ [x]).getD j 0 = if j = L.length then x else L.getD j 0 := by
  by_cases hj : j = L.length
  · subst hj; simp
  · rw [if_neg hj]
    simp only [List.getD_eq_getElem?_getD]
    rw [List.getElem?_append_left (by omega)]
theorem leave_ok {M0 M : tb_Mem} {L : List Int32} (h : AK M0 M L) (hl : L.length < 16) (x : Int32) : ∃ M', fX1_leave x M = some M' ∧ AK M0 M' (L ++ [x]) := by
  obtain ⟨h1, h2, h3⟩ := h
  have q : ¬ (16 : Int32) ≤ nI L.length := by rw [show (16 : Int32) = nI 16 from rfl, nI_leI (by omega) (by omega)]; omega
  refine ⟨tb_up (tb_up M 262 L.length x) 261 1 (nI (L.length + 1)), ?_, ?_, ?_, ?_⟩
  · unfold fX1_leave
    rw [h1, if_neg q, tb_in_t hl (by omega), tb_ck_t, nI_clamp (by omega)]
    dsimp only [tb_let]
    rw [tb_up_ne (by omega), h1, nI_1]
  · rw [tb_up_same, upd_same, List.length_append]; rfl
  · intro j hj
    rw [List.length_append] at hj
    rw [tb_up_ne (by omega), tb_up_same, getD_app L x (by simpa using hj)]
    by_cases e : j = L.length
    · rw [e, upd_same, if_pos rfl]
    · rw [upd_other _ _ _ e, if_neg e]
      exact h2 j (by simp at hj; omega)
  · intro q q1 q2
    rw [tb_up_ne q1, tb_up_ne q2, h3 q q1 q2]
theorem begins_ok {M0 M : tb_Mem} {L : List Int32} (h : AT M0 M L) (hl : L.length < 16) (x : Int32) : ∃ M', fX7_begins x M = some M' ∧ AT M0 M' (L ++ [x]) := by
  obtain ⟨h1, h2, h3, h4⟩ := h
  have q : ¬ (16 : Int32) ≤ nI L.length := by rw [show (16 : Int32) = nI 16 from rfl, nI_leI (by omega) (by omega)]; omega
  refine ⟨tb_up (tb_up M 309 L.length x) 297 16 (nI (L.length + 1)), ?_, ?_, ?_, ?_, ?_⟩
  · unfold fX7_begins
    rw [h1, if_neg q, tb_in_t hl (by omega), tb_ck_t, nI_clamp (by omega)]
    dsimp only [tb_let]
    rw [tb_up_ne (by omega), h1, nI_1]
  · rw [tb_up_same, upd_same, List.length_append]; rfl
  · intro j hj
    rw [List.length_append] at hj
    rw [tb_up_ne (by omega), tb_up_same, getD_app L x (by simpa using hj)]
    by_cases e : j = L.length
    · rw [e, upd_same, if_pos rfl]
    · rw [upd_other _ _ _ e, if_neg e]
      exact h2 j (by simp at hj; omega)
  · intro q q1 q2
    rw [tb_up_ne q1, tb_up_ne q2, h3 q q1 q2]
  · intro k hk
    rw [tb_up_same, upd_other _ _ _ hk, tb_up_ne (by omega), h4 k hk]
section ask
variable {M0 M : tb_Mem} {L : List Int32} {b : Nat}
theorem dep (d : Nat) (hd : d ≤ 10) : nI d ≤ 16 := by rw [show (16 : Int32) = nI 16 from rfl, nI_leI (by omega) (by omega)]; omega
theorem g10 (hb : b < 8) (n d : Nat) (hd : d ≤ 10) (h : AK M0 M L) (hl : L.length < 16) : ∃ M', fX1_give 4 (n + 1) 10 (nI b) (nI d) M = some (M0 6 b, M') ∧ AK M0 M' (L ++ [10]) := by
  obtain ⟨M1, e1, h1⟩ := leave_ok h hl 10
  refine ⟨M1, ?_, h1⟩
  rw [fX1_give, if_pos (dep d hd), e1, tb_b1_some, tb_in_t hb (by omega), tb_ck_t]
  dsimp only [tb_let]
  rw [if_pos rfl, nI_clamp (by omega), h1.2.2 (4 + 2) (by omega) (by omega)]
theorem g20 (hb : b < 8) (n d : Nat) (hd : d ≤ 10) (h : AK M0 M L) (hl : L.length < 16) : ∃ M', fX1_give 4 (n + 1) 20 (nI b) (nI d) M = some (nI b, M') ∧ AK M0 M' (L ++ [20]) := by
  obtain ⟨M1, e1, h1⟩ := leave_ok h hl 20
  refine ⟨M1, ?_, h1⟩
  rw [fX1_give, if_pos (dep d hd), e1, tb_b1_some, tb_in_t hb (by omega), tb_ck_t]
  rfl
theorem g21 (hb : b < 8) (n d : Nat) (hd : d ≤ 9) (h : AK M0 M L) (hl : L.length < 15) : ∃ M', fX1_give 4 (n + 2) 21 (nI b) (nI d) M = some (nI b + M0 11 b, M') ∧ AK M0 M' (L ++ [21] ++ [20]) := by
  obtain ⟨M1, e1, h1⟩ := leave_ok h (by omega) 21
  obtain ⟨M2, e2, h2⟩ := g20 hb n (d + 1) (by omega) h1 (by simp; omega)
  refine ⟨M2, ?_, h2⟩
  rw [fX1_give, if_pos (dep d (by omega)), e1, tb_b1_some, tb_in_t hb (by omega), tb_ck_t]
  show tb_b2 (fX1_give 4 (n + 1) 20 (nI b) (nI d + 1) M1) _ = _
  rw [nI_1, e2, tb_b2_some, nI_clamp (by omega), h2.2.2 (4 + 7) (by omega) (by omega)]
theorem g22 (hb : b < 8) (n d : Nat) (hd : d ≤ 8) (h : AK M0 M L) (hl : L.length < 14) : ∃ M', fX1_give 4 (n + 3) 22 (nI b) (nI d) M = some (nI b + M0 11 b - 1000, M') ∧ AK M0 M' (L ++ [22] ++ [21] ++ [20]) := by
  obtain ⟨M1, e1, h1⟩ := leave_ok h (by omega) 22
  obtain ⟨M2, e2, h2⟩ := g21 hb n (d + 1) (by omega) h1 (by simp; omega)
  refine ⟨M2, ?_, h2⟩
  rw [fX1_give, if_pos (dep d (by omega)), e1, tb_b1_some, tb_in_t hb (by omega), tb_ck_t]
  show tb_b2 (fX1_give 4 (n + 2) 21 (nI b) (nI d + 1) M1) _ = _
  rw [nI_1, e2, tb_b2_some]
theorem g24 (hb : b < 8) (n d : Nat) (hd : d ≤ 8) (h : AK M0 M L) (hl : L.length < 14) : ∃ M', fX1_give 4 (n + 3) 24 (nI b) (nI d) M = some (2 * (nI b + M0 11 b), M') ∧ AK M0 M' (L ++ [24] ++ [21] ++ [20]) := by
  obtain ⟨M1, e1, h1⟩ := leave_ok h (by omega) 24
  obtain ⟨M2, e2, h2⟩ := g21 hb n (d + 1) (by omega) h1 (by simp; omega)
  refine ⟨M2, ?_, h2⟩
  rw [fX1_give, if_pos (dep d (by omega)), e1, tb_b1_some, tb_in_t hb (by omega), tb_ck_t]
  show tb_b2 (fX1_give 4 (n + 2) 21 (nI b) (nI d + 1) M1) _ = _
  rw [nI_1, e2, tb_b2_some]
theorem g13 (hb : b < 8) (n d : Nat) (hd : d ≤ 9) (h : AK M0 M L) (hl : L.length < 15) : ∃ M', fX1_give 4 (n + 2) 13 (nI b) (nI d) M = some (M0 6 b - 100, M') ∧ AK M0 M' (L ++ [13] ++ [10]) := by
  obtain ⟨M1, e1, h1⟩ := leave_ok h (by omega) 13
  obtain ⟨M2, e2, h2⟩ := g10 hb n (d + 1) (by omega) h1 (by simp; omega)
  refine ⟨M2, ?_, h2⟩
  rw [fX1_give, if_pos (dep d (by omega)), e1, tb_b1_some, tb_in_t hb (by omega), tb_ck_t]
  show tb_b2 (fX1_give 4 (n + 1) 10 (nI b) (nI d + 1) M1) _ = _
  rw [nI_1, e2, tb_b2_some]
theorem g14 (hb : b < 8) (n d : Nat) (hd : d ≤ 8) (h : AK M0 M L) (hl : L.length < 14) : ∃ M', fX1_give 4 (n + 3) 14 (nI b) (nI d) M = some (2 * (M0 6 b - 100), M') ∧ AK M0 M' (L ++ [14] ++ [13] ++ [10]) := by
  obtain ⟨M1, e1, h1⟩ := leave_ok h (by omega) 14
  obtain ⟨M2, e2, h2⟩ := g13 hb n (d + 1) (by omega) h1 (by simp; omega)
  refine ⟨M2, ?_, h2⟩
  rw [fX1_give, if_pos (dep d (by omega)), e1, tb_b1_some, tb_in_t hb (by omega), tb_ck_t]
  show tb_b2 (fX1_give 4 (n + 2) 13 (nI b) (nI d + 1) M1) _ = _
  rw [nI_1, e2, tb_b2_some]
/-- the mark of a plain one, by its kind -/
def mkL (s : Nat) : List Int32 := if s = 1 then [21, 20] else if s = 2 then [24, 21, 20] else [22, 21, 20]
def mkV (s : Nat) (x : Int32) : Int32 := if s = 2 then 2 * x else if s = 3 then x - 1000 else x
theorem gmk {s : Nat} (hs : 1 ≤ s) (hs3 : s ≤ 3) (hb : b < 8) (n d : Nat) (hd : d ≤ 8) (h : AK M0 M L) (hl : L.length < 13) : ∃ M', fX1_give 4 (n + 3) (tb_tab 2 s) (nI b) (nI d) M = some (mkV s (nI b + M0 11 b), M') ∧ AK M0 M' (L ++ mkL s) := by
  have : s = 1 ∨ s = 2 ∨ s = 3 := by omega
  rcases this with rfl | rfl | rfl
  · obtain ⟨M', e, h'⟩ := g21 hb (n + 1) d (by omega) h (by omega)
    exact ⟨M', e, by simpa [mkL] using h'⟩
  · obtain ⟨M', e, h'⟩ := g24 hb n d (by omega) h (by omega)
    exact ⟨M', e, by simpa [mkL] using h'⟩
  · obtain ⟨M', e, h'⟩ := g22 hb n d (by omega) h (by omega)
    exact ⟨M', e, by simpa [mkL] using h'⟩
theorem g11 {s : Nat} (hs : 1 ≤ s) (hs3 : s ≤ 3) (h5 : M0 5 b = nI s) (hb : b < 8) (n d : Nat) (hd : d ≤ 7) (h : AK M0 M L) (hl : L.length < 10) : ∃ M', fX1_give 4 (n + 4) 11 (nI b) (nI d) M = some (M0 6 b + mkV s (nI b + M0 11 b), M') ∧ AK M0 M' (L ++ [11] ++ [10] ++ mkL s) := by
  obtain ⟨M1, e1, h1⟩ := leave_ok h (by omega) 11
  obtain ⟨M2, e2, h2⟩ := g10 hb (n + 2) (d + 1) (by omega) h1 (by simp; omega)
  obtain ⟨M3, e3, h3⟩ := gmk hs hs3 hb n (d + 1) (by omega) h2 (by simp; omega)
  refine ⟨M3, ?_, h3⟩
  rw [fX1_give, if_pos (dep d (by omega)), e1, tb_b1_some, tb_in_t hb (by omega), tb_ck_t, nI_clamp (by omega), h1.2.2 (4 + 1) (by omega) (by omega), h5]
  show tb_b2 (fX1_give 4 (n + 3) 10 (nI b) (nI d + 1) M1) _ = _
  rw [nI_1, e2, tb_b2_some, tb_in_t (by omega) (by omega), tb_ck_t, nI_clamp (by omega), e3, tb_b2_some]
/-- the size, by the kind -/
def szL (s : Nat) : List Int32 := if s = 5 then [14, 13, 10] else if s = 4 then [13, 10] else (if s = 2 then [12] else []) ++ [11, 10] ++ mkL s
def szV (s : Nat) (r x : Int32) : Int32 := if s = 5 then 2 * (r - 100) else if s = 4 then r - 100 else if s = 2 then -(r + mkV s x) else r + mkV s x
theorem gsz {s : Nat} (hs : 1 ≤ s) (hs5 : s ≤ 5) (h5 : M0 5 b = nI s) (hb : b < 8) (n d : Nat) (hd : d ≤ 6) (h : AK M0 M L) (hl : L.length < 8) : ∃ M', fX1_give 4 (n + 5) (tb_tab 1 s) (nI b) (nI d) M = some (szV s (M0 6 b) (nI b + M0 11 b), M') ∧ AK M0 M' (L ++ szL s) := by
  have : s = 1 ∨ s = 2 ∨ s = 3 ∨ s = 4 ∨ s = 5 := by omega
  rcases this with rfl | rfl | rfl | rfl | rfl
  · obtain ⟨M', e, h'⟩ := g11 (s := 1) (by omega) (by omega) h5 hb (n + 1) d (by omega) h (by omega)
    exact ⟨M', e, by simpa [szL] using h'⟩
  · obtain ⟨M1, e1, h1⟩ := leave_ok h (by omega) 12
    obtain ⟨M2, e2, h2⟩ := g11 (s := 2) (by omega) (by omega) h5 hb n (d + 1) (by omega) h1 (by simp; omega)
    refine ⟨M2, ?_, by simpa [szL] using h2⟩
    show fX1_give 4 (n + 5) 12 (nI b) (nI d) M = _
    rw [fX1_give, if_pos (dep d (by omega)), e1, tb_b1_some, tb_in_t hb (by omega), tb_ck_t]
    show tb_b2 (fX1_give 4 (n + 4) 11 (nI b) (nI d + 1) M1) _ = _
    rw [nI_1, e2, tb_b2_some, Int32.zero_sub]
    rfl
  · obtain ⟨M', e, h'⟩ := g11 (s := 3) (by omega) (by omega) h5 hb (n + 1) d (by omega) h (by omega)
    exact ⟨M', e, by simpa [szL] using h'⟩
  · obtain ⟨M', e, h'⟩ := g13 hb (n + 3) d (by omega) h (by omega)
    exact ⟨M', e, by simpa [szL] using h'⟩
  · obtain ⟨M', e, h'⟩ := g14 hb (n + 2) d (by omega) h (by omega)
    exact ⟨M', e, by simpa [szL] using h'⟩
theorem g23 {s : Nat} (hs : 4 ≤ s) (hs5 : s ≤ 5) (h5 : M0 5 b = nI s) (hb : b < 8) (n d : Nat) (hd : d ≤ 5) (h : AK M0 M L) (hl : L.length < 6) : ∃ M', fX1_give 4 (n + 6) 23 (nI b) (nI d) M = some (nI b - szV s (M0 6 b) (nI b + M0 11 b), M') ∧ AK M0 M' (L ++ [23] ++ [20] ++ szL s) := by
  obtain ⟨M1, e1, h1⟩ := leave_ok h (by omega) 23
  obtain ⟨M2, e2, h2⟩ := g20 hb (n + 4) (d + 1) (by omega) h1 (by simp; omega)
  obtain ⟨M3, e3, h3⟩ := gsz (by omega) hs5 h5 hb n (d + 1) (by omega) h2 (by simp; omega)
  refine ⟨M3, ?_, h3⟩
  rw [fX1_give, if_pos (dep d (by omega)), e1, tb_b1_some, tb_in_t hb (by omega), tb_ck_t, nI_clamp (by omega), h1.2.2 (4 + 1) (by omega) (by omega), h5]
  show tb_b2 (fX1_give 4 (n + 5) 20 (nI b) (nI d + 1) M1) _ = _
  rw [nI_1, e2, tb_b2_some, tb_in_t (by omega) (by omega), tb_ck_t, nI_clamp (by omega), e3, tb_b2_some]
end ask

theorem plain_ok {M0 M : tb_Mem} {a : St} {L : List Int32} {b : Nat} (hg : sGood a) (hm : RM a (M0 303)) (hb : b < a 0 0) (hs : a 1 b ≤ 3) (h : AT M0 M L) (hl : L.length < 13) : ∃ M', fX7_plain (nI b) M = some (mkV (a 1 b) (nI b + nI (sHg a b)), M') ∧ AT M0 M' (L ++ mkL (a 1 b)) := by
  have hn := hg.1.1
  obtain ⟨o1, -⟩ := hg.1.2.1 b hb
  have e55 : M 303 (55 + b) = nI (a 1 b) := by rw [h.2.2.1 303 (by omega) (by omega)]; exact (hm.2.1 b hb).2.2.2.2
  have hJ : ∀ {M : tb_Mem} {L : List Int32}, AT M0 M L → L.length < 14 → ∃ M', fX7_plain_J31 (nI b) (nI (a 1 b)) M = some (mkV (a 1 b) (nI b + nI (sHg a b)), M') ∧ AT M0 M' (L ++ [21] ++ [20]) := by
    intro M L h hl
    obtain ⟨M1, e1, h1⟩ := begins_ok h (by omega) 21
    obtain ⟨M2, e2, h2⟩ := begins_ok h1 (by simp; omega) 20
    refine ⟨M2, ?_, h2⟩
    unfold fX7_plain_J31
    rw [e1, tb_b1_some, e2, tb_b1_some, N_high hg (by rw [h2.2.2.1 303 (by omega) (by omega)]; exact hm) hb, tb_b2_some]
    unfold mkV
    simp only [zl2, zl3, nI_eq (show a 1 b < 2 ^ 31 by omega) (show 2 < 2 ^ 31 by omega), nI_eq (show a 1 b < 2 ^ 31 by omega) (show 3 < 2 ^ 31 by omega)]
  unfold fX7_plain
  rw [zl55, nI_add, tb_in_t (by omega) (by omega), tb_ck_t, nI_clamp (by omega), e55]
  dsimp only [tb_let]
  have : a 1 b = 1 ∨ a 1 b = 2 ∨ a 1 b = 3 := by omega
  rcases this with e | e | e
  · obtain ⟨M', e1, h1⟩ := hJ h (by omega)
    rw [e] at e1 ⊢
    rw [if_pos (by decide)]
    exact ⟨M', e1, by simpa [mkL] using h1⟩
  · obtain ⟨M1, e1, h1⟩ := begins_ok h (by omega) 24
    obtain ⟨M2, e2, h2⟩ := hJ h1 (by simp; omega)
    rw [e] at e2 ⊢
    rw [if_neg (by decide), if_pos (by decide), e1, tb_b1_some]
    exact ⟨M2, e2, by simpa [mkL] using h2⟩
  · obtain ⟨M1, e1, h1⟩ := begins_ok h (by omega) 22
    obtain ⟨M2, e2, h2⟩ := hJ h1 (by simp; omega)
    rw [e] at e2 ⊢
    rw [if_neg (by decide), if_neg (by decide), e1, tb_b1_some]
    exact ⟨M2, e2, by simpa [mkL] using h2⟩
theorem size_ok {M0 M : tb_Mem} {a : St} {L : List Int32} {b : Nat} (hg : sGood a) (hm : RM a (M0 303)) (hb : b < a 0 0) (h : AT M0 M L) (hl : L.length < 8) : ∃ M', fX7_size (nI b) M = some (szV (a 1 b) (nI (a 2 b)) (nI b + nI (sHg a b)), M') ∧ AT M0 M' (L ++ szL (a 1 b)) := by
  have hn := hg.1.1
  obtain ⟨o1, o2, -⟩ := hg.1.2.1 b hb
  have e55 : M 303 (55 + b) = nI (a 1 b) := by rw [h.2.2.1 303 (by omega) (by omega)]; exact (hm.2.1 b hb).2.2.2.2
  have e47 : M 303 (47 + b) = nI (a 2 b) := by rw [h.2.2.1 303 (by omega) (by omega)]; exact (hm.2.1 b hb).2.2.2.1
  unfold fX7_size
  rw [zl55, nI_add, tb_in_t (by omega) (by omega), tb_ck_t, nI_clamp (by omega), e55]
  dsimp only [tb_let]
  rw [zl47, nI_add, tb_in_t (by omega) (by omega), tb_ck_t, nI_clamp (by omega), e47]
  have : a 1 b = 1 ∨ a 1 b = 2 ∨ a 1 b = 3 ∨ a 1 b = 4 ∨ a 1 b = 5 := by omega
  rcases this with e | e | e | e | e
  · obtain ⟨M1, e1, h1⟩ := begins_ok h (by omega) 11
    obtain ⟨M2, e2, h2⟩ := begins_ok h1 (by simp; omega) 10
    obtain ⟨M3, e3, h3⟩ := plain_ok hg hm hb (by omega) h2 (by simp; omega)
    rw [e] at e3 h3 ⊢
    refine ⟨M3, ?_, by simpa [szL] using h3⟩
    rw [if_neg (by decide)]
    unfold fX7_size_J31
    rw [if_pos (by decide), if_neg (by decide), e1, tb_b1_some, e2, tb_b1_some, e3, tb_b2_some]
    rfl
  · obtain ⟨M0', e0, h0⟩ := begins_ok h (by omega) 12
    obtain ⟨M1, e1, h1⟩ := begins_ok h0 (by simp; omega) 11
    obtain ⟨M2, e2, h2⟩ := begins_ok h1 (by simp; omega) 10
    obtain ⟨M3, e3, h3⟩ := plain_ok hg hm hb (by omega) h2 (by simp; omega)
    rw [e] at e3 h3 ⊢
    refine ⟨M3, ?_, by simpa [szL] using h3⟩
    rw [if_neg (by decide)]
    unfold fX7_size_J31
    rw [if_pos (by decide), if_pos (by decide), e0, tb_b1_some, e1, tb_b1_some, e2, tb_b1_some, e3, tb_b2_some]
    rfl
  · obtain ⟨M1, e1, h1⟩ := begins_ok h (by omega) 11
    obtain ⟨M2, e2, h2⟩ := begins_ok h1 (by simp; omega) 10
    obtain ⟨M3, e3, h3⟩ := plain_ok hg hm hb (by omega) h2 (by simp; omega)
    rw [e] at e3 h3 ⊢
    refine ⟨M3, ?_, by simpa [szL] using h3⟩
    rw [if_neg (by decide)]
    unfold fX7_size_J31
    rw [if_pos (by decide), if_neg (by decide), e1, tb_b1_some, e2, tb_b1_some, e3, tb_b2_some]
    rfl
  · obtain ⟨M1, e1, h1⟩ := begins_ok h (by omega) 13
    obtain ⟨M2, e2, h2⟩ := begins_ok h1 (by simp; omega) 10
    rw [e]
    refine ⟨M2, ?_, by simpa [szL] using h2⟩
    rw [if_neg (by decide)]
    unfold fX7_size_J31
    rw [if_neg (by decide), e1, tb_b1_some, e2, tb_b1_some]
    rfl
  · obtain ⟨M0', e0, h0⟩ := begins_ok h (by omega) 14
    obtain ⟨M1, e1, h1⟩ := begins_ok h0 (by simp; omega) 13
    obtain ⟨M2, e2, h2⟩ := begins_ok h1 (by simp; omega) 10
    rw [e]
    refine ⟨M2, ?_, by simpa [szL] using h2⟩
    rw [if_pos (by decide), e0, tb_b1_some]
    unfold fX7_size_J31
    rw [if_neg (by decide), e1, tb_b1_some, e2, tb_b1_some]
    rfl
theorem Inv.ask {M M1 M2 : tb_Mem} {L : List Int32} (h : Inv M) (hl : L.length ≤ 16) (h1 : AK M M1 L) (h2 : AT M1 M2 L) : Inv M2 := by
  obtain ⟨⟨a, g1, g2⟩, g3, g4, g5, g6, g7⟩ := h
  obtain ⟨u1, u2, u3⟩ := h1
  obtain ⟨w1, w2, w3, w4⟩ := h2
  have hs : ∀ q, q ≠ 261 → q ≠ 262 → q ≠ 297 → q ≠ 309 → M2 q = M q := fun q q1 q2 q3 q4 => by rw [w3 q q3 q4, u3 q q1 q2]
  have h7 : ∀ k, k ≠ 16 → M2 297 k = M 297 k := fun k hk => by rw [w4 k hk, u3 297 (by omega) (by omega)]
  refine ⟨⟨a, g1.fr (fun q q1 q2 => hs q (by omega) (by omega) (by omega) (by omega)) (hs 303 (by omega) (by omega) (by omega) (by omega)), g2.fr (fun q q1 q2 => hs q (by omega) (by omega) (by omega) (by omega)) (hs 22 (by omega) (by omega) (by omega) (by omega)) (hs 307 (by omega) (by omega) (by omega) (by omega)) (h7 13 (by omega))⟩, fun k hk => (g3 k hk).fr (fun q q1 q2 => hs q (by omega) (by omega) (by omega) (by omega)) (fun j _ => by rw [hs 305 (by omega) (by omega) (by omega) (by omega)]) (by rw [hs 306 (by omega) (by omega) (by omega) (by omega)]), fun r hr => (g4 r hr).fr (hs _ (by omega) (by omega) (by omega) (by omega)) (hs _ (by omega) (by omega) (by omega) (by omega)) (by rw [hs 298 (by omega) (by omega) (by omega) (by omega)]) (by rw [hs 299 (by omega) (by omega) (by omega) (by omega)]) (fun j _ => by rw [hs 300 (by omega) (by omega) (by omega) (by omega)]), g5.fr (by rw [hs 2 (by omega) (by omega) (by omega) (by omega)]) (hs 3 (by omega) (by omega) (by omega) (by omega)) (h7 6 (by omega)) (hs 302 (by omega) (by omega) (by omega) (by omega)), ⟨by rw [hs 0 (by omega) (by omega) (by omega) (by omega), h7 7 (by omega)]; exact g6.1, by rw [hs 0 (by omega) (by omega) (by omega) (by omega), h7 4 (by omega)]; exact g6.2⟩, ⟨L.length, hl, ?_, w1, fun j hj => ?_⟩⟩
  · rw [w3 261 (by omega) (by omega)]; exact u1
  · rw [w3 262 (by omega) (by omega), u2 j hj, w2 j hj]
theorem s_ask (x y : Int32) : Sim (fX6_ask x y) (fX7_ask x y) := by
  intro M h
  obtain ⟨⟨a, ⟨hg, hb, hm, ht⟩, -⟩, -⟩ := id h
  have hn := hg.1.1
  unfold fX6_ask fX7_ask
  rcases bar_both (M' := M) hg.1 hb hm x with ⟨c1, c2⟩ | ⟨i, hi, hx, c1, -⟩
  · exact ⟨_, M, M, by rw [c1, tb_b2_some, if_pos rfl], by rw [c2, tb_b2_some, if_pos rfl], h⟩
  subst hx
  have cc : ∀ M', M' 303 = M 303 → fX7_isBar (nI i) M' = some (1, M') := by
    intro M' e
    rcases bar_both (M' := M') hg.1 hb (by rw [e]; exact hm) (nI i) with ⟨z1, -⟩ | ⟨_, _, _, _, z2⟩
    · rw [c1] at z1; cases z1
    · exact z2
  by_cases hy : inV y 0 1 = 0
  · exact ⟨_, M, M, by rw [c1, tb_b2_some, if_neg (by decide), within_ok, tb_b2_some, if_pos hy], by rw [cc M rfl, tb_b2_some, if_neg (by decide), in_ok, tb_b2_some, if_pos hy], h⟩
  obtain ⟨o1, o2, -⟩ := hg.1.2.1 i hi
  obtain ⟨b1, b2, -, -, -, -, b7⟩ := hb.2.1 i hi
  have b1 : M 5 i = nI (a 1 i) := b1
  have b2 : M 6 i = nI (a 2 i) := b2
  have b7 : M 11 i = nI (sHg a i) := b7 (Or.inr hi)
  have k0 : AK M (tb_up M 261 1 0) [] := ⟨by rw [tb_up_same, upd_same]; rfl, fun j hj => absurd hj (Nat.not_lt_zero j), fun q q1 _ => tb_up_ne q1⟩
  have t0 : ∀ M1, AT M1 (tb_up M1 297 16 0) [] := fun M1 => ⟨by rw [tb_up_same, upd_same]; rfl, fun j hj => absurd hj (Nat.not_lt_zero j), fun q q1 _ => tb_up_ne q1, fun k hk => by rw [tb_up_same, upd_other _ _ _ hk]⟩
  by_cases y0 : y = 0
  · obtain ⟨M1, e1, h1⟩ := gsz o1 o2 b1 (by omega) 15 0 (by omega) k0 (by simp)
    have e1 : fX1_give 4 20 (tb_tab 1 (a 1 i)) (nI i) 0 (tb_up M 261 1 0) = some (szV (a 1 i) (M 6 i) (nI i + M 11 i), M1) := e1
    have m1 : RM a (M1 303) := by rw [h1.2.2 303 (by omega) (by omega)]; exact hm
    obtain ⟨M2, e2, h2⟩ := size_ok hg m1 hi (t0 M1) (by simp)
    refine ⟨szV (a 1 i) (M 6 i) (nI i + M 11 i), M1, M2, ?_, ?_, h.ask ?_ h1 h2⟩
    · rw [c1, tb_b2_some, if_neg (by decide), within_ok, tb_b2_some, if_neg hy, if_pos y0]
      unfold fX1_sizeOf
      dsimp only [tb_let]
      rw [tb_in_t (by omega) (by omega), tb_ck_t, tb_up_ne (by omega), nI_clamp (by omega), b1, tb_in_t (by omega) (by omega), tb_ck_t, nI_clamp (by omega), e1, tb_b2_some, tb_b2_some]
    · rw [cc M1 (h1.2.2 303 (by omega) (by omega)), tb_b2_some, if_neg (by decide), in_ok, tb_b2_some, if_neg hy]
      dsimp only [tb_let]
      rw [if_pos y0, e2, tb_b2_some, b2, b7]
    · have : a 1 i = 1 ∨ a 1 i = 2 ∨ a 1 i = 3 ∨ a 1 i = 4 ∨ a 1 i = 5 := by omega
      rcases this with e | e | e | e | e <;> rw [e] <;> decide
  · have hb1 : ∀ M1 : tb_Mem, M1 303 = M 303 → tb_in (55 + nI i) 63 = true ∧ tb_up M1 297 16 0 303 (55 + nI i).toNatClampNeg = nI (a 1 i) := fun M1 e => by
      rw [zl55, nI_add, tb_in_t (by omega) (by omega), nI_clamp (by omega), tb_up_ne (by omega), e]
      exact ⟨rfl, (hm.2.1 i hi).2.2.2.2⟩
    by_cases h4 : 4 ≤ a 1 i
    · have tt : tb_tab 2 (a 1 i) = 23 := by
        have : a 1 i = 4 ∨ a 1 i = 5 := by omega
        rcases this with e | e <;> rw [e] <;> rfl
      obtain ⟨M1, e1, h1⟩ := g23 h4 o2 b1 (by omega) 14 0 (by omega) k0 (by simp)
      have e1 : fX1_give 4 20 23 (nI i) 0 (tb_up M 261 1 0) = some (nI i - szV (a 1 i) (M 6 i) (nI i + M 11 i), M1) := e1
      have m1 : RM a (M1 303) := by rw [h1.2.2 303 (by omega) (by omega)]; exact hm
      obtain ⟨M2, e2, h2⟩ := begins_ok (t0 M1) (by simp) 23
      obtain ⟨M3, e3, h3⟩ := begins_ok h2 (by simp) 20
      obtain ⟨M4, e4, h4'⟩ := size_ok hg m1 hi h3 (by simp)
      refine ⟨nI i - szV (a 1 i) (M 6 i) (nI i + M 11 i), M1, M4, ?_, ?_, h.ask ?_ h1 h4'⟩
      · rw [c1, tb_b2_some, if_neg (by decide), within_ok, tb_b2_some, if_neg hy, if_neg y0]
        unfold fX1_markOf
        dsimp only [tb_let]
        rw [tb_in_t (by omega) (by omega), tb_ck_t, tb_up_ne (by omega), nI_clamp (by omega), b1, tb_in_t (by omega) (by omega), tb_ck_t, nI_clamp (by omega), tt, e1, tb_b2_some, tb_b2_some]
      · rw [cc M1 (h1.2.2 303 (by omega) (by omega)), tb_b2_some, if_neg (by decide), in_ok, tb_b2_some, if_neg hy]
        dsimp only [tb_let]
        obtain ⟨z1, z2⟩ := hb1 M1 (h1.2.2 303 (by omega) (by omega))
        rw [if_neg y0, z1, tb_ck_t, z2, if_pos (by rw [zl4, nI_leI (by omega) (by omega)]; omega), e2, tb_b1_some, e3, tb_b1_some, e4, tb_b2_some, b2, b7]
      · have : a 1 i = 4 ∨ a 1 i = 5 := by omega
        rcases this with e | e <;> rw [e] <;> decide
    · obtain ⟨M1, e1, h1⟩ := gmk (s := a 1 i) o1 (by omega) (show i < 8 by omega) 17 0 (by omega) k0 (by simp)
      have e1 : fX1_give 4 20 (tb_tab 2 (a 1 i)) (nI i) 0 (tb_up M 261 1 0) = some (mkV (a 1 i) (nI i + M 11 i), M1) := e1
      have m1 : RM a (M1 303) := by rw [h1.2.2 303 (by omega) (by omega)]; exact hm
      obtain ⟨M2, e2, h2⟩ := plain_ok hg m1 hi (by omega) (t0 M1) (by simp)
      refine ⟨mkV (a 1 i) (nI i + M 11 i), M1, M2, ?_, ?_, h.ask ?_ h1 h2⟩
      · rw [c1, tb_b2_some, if_neg (by decide), within_ok, tb_b2_some, if_neg hy, if_neg y0]
        unfold fX1_markOf
        dsimp only [tb_let]
        rw [tb_in_t (by omega) (by omega), tb_ck_t, tb_up_ne (by omega), nI_clamp (by omega), b1, tb_in_t (by omega) (by omega), tb_ck_t, nI_clamp (by omega), e1, tb_b2_some, tb_b2_some]
      · rw [cc M1 (h1.2.2 303 (by omega) (by omega)), tb_b2_some, if_neg (by decide), in_ok, tb_b2_some, if_neg hy]
        dsimp only [tb_let]
        obtain ⟨z1, z2⟩ := hb1 M1 (h1.2.2 303 (by omega) (by omega))
        rw [if_neg y0, z1, tb_ck_t, z2, if_neg (by rw [zl4, nI_leI (by omega) (by omega)]; omega), e2, tb_b2_some, b7]
      · have : a 1 i = 1 ∨ a 1 i = 2 ∨ a 1 i = 3 := by omega
        rcases this with e | e | e <;> rw [e] <;> decide

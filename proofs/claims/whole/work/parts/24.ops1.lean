/-! calls, one by one: the class's answer is the reference's, and the relation holds on -/
def Sim (f6 f7 : tb_Mem → Option (Int32 × tb_Mem)) : Prop := ∀ M, Inv M → ∃ r M1 M2, f6 M = some (r, M1) ∧ f7 M1 = some (r, M2) ∧ Inv M2
theorem s_fault : Sim fX6_fault fX7_fault := fun M h => ⟨_, M, M, rfl, by unfold fX7_fault; rw [h.2.2.2.2.1.1], h⟩
theorem s_status : Sim fX6_status fX7_status := fun M h => ⟨_, M, M, rfl, by unfold fX7_status; rw [h.2.2.2.2.1.2], h⟩
/-- both sides' finding, behind what else was done -/
def stt (M : tb_Mem) (k : Int32) : tb_Mem := tb_up (tb_up M 0 9 k) 297 4 k
theorem stt_inv {M : tb_Mem} (h : Inv M) (k : Int32) : Inv (stt M k) := by
  unfold stt
  refine h.stat (fun q q0 q7 => by rw [tb_up_ne q7, tb_up_ne q0]) (fun j hj => ?_) (fun j hj => ?_) ?_
  · rw [tb_up_ne (by omega), tb_up_same]; simp only [upd, if_neg hj]
  · rw [tb_up_same]; simp only [upd, if_neg hj]; rw [tb_up_ne (by omega)]
  · rw [tb_up_ne (by omega), tb_up_same, tb_up_same]; simp [upd]
theorem found_ok (k : Int32) (M : tb_Mem) : fX6_found k M = some ((-1000010) - k, tb_up M 0 9 k) := rfl
theorem found1 (M : tb_Mem) : fX6_found 1 M = some (-1000011, tb_up M 0 9 1) := by rw [found_ok, show (-1000010 : Int32) - 1 = -1000011 from by decide]
theorem found2 (M : tb_Mem) : fX6_found 2 M = some (-1000012, tb_up M 0 9 2) := by rw [found_ok, show (-1000010 : Int32) - 2 = -1000012 from by decide]
theorem found3 (M : tb_Mem) : fX6_found 3 M = some (-1000013, tb_up M 0 9 3) := by rw [found_ok, show (-1000010 : Int32) - 3 = -1000013 from by decide]
theorem found4 (M : tb_Mem) : fX6_found 4 M = some (-1000014, tb_up M 0 9 4) := by rw [found_ok, show (-1000010 : Int32) - 4 = -1000014 from by decide]
theorem found5 (M : tb_Mem) : fX6_found 5 M = some (-1000015, tb_up M 0 9 5) := by rw [found_ok, show (-1000010 : Int32) - 5 = -1000015 from by decide]
theorem fine_ok (v : Int32) (M : tb_Mem) : fX6_fine v M = some (v, tb_up M 0 9 0) := rfl
theorem ends_f {x k : Int32} (h1 : ¬ inV x (-1000015) (-1000011) = 0) (h2 : (-1000010) - x = k) (M : tb_Mem) : fX7_ends x M = some (x, tb_up M 297 4 k) := by
  unfold fX7_ends
  rw [in_ok, tb_b2_some]
  dsimp only [tb_let]
  rw [if_neg h1, h2]
theorem ends_0 {x : Int32} (h1 : inV x (-1000015) (-1000011) = 0) (M : tb_Mem) : fX7_ends x M = some (x, tb_up M 297 4 0) := by
  unfold fX7_ends
  rw [in_ok, tb_b2_some]
  dsimp only [tb_let]
  rw [if_pos h1]
theorem inV_nI {j : Nat} (hj : j < 2 ^ 31) : inV (nI j) (-1000015) (-1000011) = 0 := by
  have h1 : ¬ nI j < (-1000015 : Int32) := by
    rw [Int32.lt_iff_toInt_lt, nI_toInt hj, show (-1000015 : Int32).toInt = -1000015 from by decide]; omega
  have h2 : (-1000011 : Int32) < nI j := by
    rw [Int32.lt_iff_toInt_lt, nI_toInt hj, show (-1000011 : Int32).toInt = -1000011 from by decide]; omega
  unfold inV
  rw [if_neg h1, if_pos h2]
/-! rows -/
theorem up_hi {M : tb_Mem} {q k : Nat} {v : Int32} {r : Nat} (h : r ≠ q) : tb_up M q k v r = M r := tb_up_ne h
theorem make_ok (p : Nat) (l n : Int32) (M : tb_Mem) : fX4_make p l n M = some (tb_row (tb_up (tb_up (tb_up M p 1 0) p 2 l) p 3 n) (p + 1) (fun j => if j < 40 then 0 else tb_up (tb_up (tb_up M p 1 0) p 2 l) p 3 n (p + 1) j)) := by
  unfold fX4_make
  dsimp only [tb_let]
  rw [fill_ok _ _ (by omega), tb_b1_some]
theorem row7_loop (x3 : Int32) {r : Nat} (hr : r < 8) (M : tb_Mem) : ∀ (n i : Nat) (c : Nat → Int32), i ≤ 40 → 40 - i < n → (∀ k, c k = if 40 * r ≤ k ∧ k < 40 * r + i then 0 else M 300 k) → fX7_row_L53 n (nI r) x3 (nI i) (tb_row M 300 c) = tb_b2 (fX7_ends x3 (tb_row M 300 (fun k => if 40 * r ≤ k ∧ k < 40 * r + 40 then 0 else M 300 k))) (fun r22 M20 => some (r22, M20)) := by
  intro n
  induction n with
  | zero => intro i c h1 h2; omega
  | succ n ih =>
    intro i c h1 h2 hc
    have e40 : (40 : Int32) = nI 40 := rfl
    rw [fX7_row_L53, e40]
    by_cases hi : i < 40
    · rw [if_neg (by rw [nI_leI (by omega) (by omega)]; omega), pk_mul, nI_add, tb_in_t (by omega) (by omega), tb_ck_t, nI_clamp (by omega), nI_1]
      dsimp only [tb_let]
      rw [tb_up_row]
      refine ih (i + 1) _ (by omega) (by omega) (fun k => ?_)
      simp only [upd]
      by_cases e : k = 40 * r + i
      · rw [if_pos e, if_pos (by omega)]
      · rw [if_neg e, hc k]
        by_cases h3 : 40 * r ≤ k ∧ k < 40 * r + i
        · rw [if_pos h3, if_pos (by omega)]
        · rw [if_neg h3, if_neg (by omega)]
    · have : i = 40 := by omega
      subst this
      rw [if_pos (by decide)]
      congr 3
      funext k
      exact hc k
theorem row7_ok (x3 : Int32) {r : Nat} (hr : r < 8) (M : tb_Mem) : fX7_row_L53 tb_N (nI r) x3 0 M = tb_b2 (fX7_ends x3 (tb_row M 300 (fun k => if 40 * r ≤ k ∧ k < 40 * r + 40 then 0 else M 300 k))) (fun r22 M20 => some (r22, M20)) := by
  have h := row7_loop x3 hr M tb_N 0 (M 300) (by omega) (by unfold tb_N; omega) (fun k => by rw [if_neg (by omega)])
  rw [tb_row_self] at h
  exact h
theorem s_row (x y z : Int32) : Sim (fX6_row x y z) (fX7_row x y z) := by
  intro M h
  unfold fX6_row fX7_row
  by_cases h1 : inV x 0 7 = 0
  · exact ⟨_, M, M, by rw [isRow6, tb_b2_some, if_pos h1], by rw [isRow7, tb_b2_some, if_pos h1], h⟩
  obtain ⟨r, hr, hx⟩ := isRow_1 h1
  by_cases h2 : inV y 0 2 = 0
  · exact ⟨_, M, M, by rw [isRow6, tb_b2_some, if_neg h1, within_ok, tb_b2_some, if_pos h2], by rw [isRow7, tb_b2_some, if_neg h1, in_ok, tb_b2_some, if_pos h2], h⟩
  by_cases h3 : z ≤ 40
  · by_cases h4 : 0 ≤ z
    · obtain ⟨n, hn, hz⟩ := nI_of2 (x := z) (M := 40) (n := 40) (by decide) (by rw [Int32.lt_iff_toInt_lt]; rw [Int32.le_iff_toInt_le] at h4; have : (0 : Int32).toInt = 0 := rfl; omega) h3
      have hin : tb_in x 8 = true := by rw [hx]; exact tb_in_t hr (by omega)
      have hcl : x.toNatClampNeg = r := by rw [hx]; exact nI_clamp (by omega)
      refine ⟨_, _, _, by rw [isRow6, tb_b2_some, if_neg h1, within_ok, tb_b2_some, if_neg h2, if_pos h3, if_pos h4, hin, tb_ck_t, make_ok, tb_b1_some, fine_ok, tb_b2_some], by
        rw [isRow7, tb_b2_some, if_neg h1, in_ok, tb_b2_some, if_neg h2, if_pos h3, if_pos h4, hin, tb_ck_t, hcl]
        dsimp only [tb_let]
        rw [hx, row7_ok z hr, ends_0 (by rw [hz]; exact inV_nI (by omega)), tb_b2_some], ?_⟩
      obtain ⟨⟨a, g1, g2⟩, g3, g4, g5, g6, g7⟩ := h
      -- what each row holds behind it
      refine ⟨⟨a, g1.fr (fun q q1 q2 => ?_) ?_, g2.fr (fun q q1 q2 => ?_) ?_ ?_ ?_⟩, fun k hk => (g3 k hk).fr (fun q q1 q2 => ?_) (fun j _ => ?_) ?_, fun s hs => ?_, g5.fr ?_ ?_ ?_ ?_, ⟨?_, ?_⟩, g7.fr ?_ ?_ ?_ ?_⟩
      · simp (disch := omega) only [tb_up_ne, tb_row_ne]
      · simp (disch := omega) only [tb_up_ne, tb_row_ne]
      · simp (disch := omega) only [tb_up_ne, tb_row_ne]
      · simp (disch := omega) only [tb_up_ne, tb_row_ne]
      · simp (disch := omega) only [tb_up_ne, tb_row_ne]
      · rw [tb_up_same]; simp only [upd]; rw [if_neg (by omega), tb_row_ne (by omega), tb_up_ne (by omega), tb_up_ne (by omega), tb_up_ne (by omega), tb_row_ne (by omega), tb_up_ne (by omega), tb_up_ne (by omega), tb_up_ne (by omega)]
      · simp (disch := omega) only [tb_up_ne, tb_row_ne]
      · simp (disch := omega) only [tb_up_ne, tb_row_ne]
      · simp (disch := omega) only [tb_up_ne, tb_row_ne]
      · by_cases hsr : s = r
        · subst hsr
          right
          refine ⟨?_, ?_, fun j hj => ?_, n, hn, ?_, ?_⟩
          · rw [tb_up_ne (by omega), tb_row_ne (by omega), tb_up_ne (by omega), tb_up_ne (by omega), tb_up_ne (by omega), tb_row_ne (by omega), tb_up_same]
            simp only [upd]; rw [if_neg (by omega), tb_up_same]; simp only [upd]; rw [if_neg (by omega), tb_up_same]; simp [upd]
          · rw [tb_up_ne (by omega), tb_row_ne (by omega), tb_up_ne (by omega), tb_up_ne (by omega), tb_up_ne (by omega), tb_row_ne (by omega), tb_up_same]
            simp only [upd]; rw [if_neg (by omega), tb_up_same]; simp only [upd, if_true]
            rw [tb_up_ne (show (299 : Nat) ≠ 297 by omega), tb_row_ne (show (299 : Nat) ≠ 300 by omega), tb_up_same]; simp [upd]
          · rw [tb_up_ne (by omega), tb_row_ne (by omega), tb_up_ne (by omega), tb_up_ne (by omega), tb_up_ne (by omega), tb_row_same, if_pos hj]
            rw [tb_up_ne (show (300 : Nat) ≠ 297 by omega), tb_row_same, if_pos (by omega)]
          · rw [tb_up_ne (by omega), tb_row_ne (by omega), tb_up_ne (by omega), tb_up_ne (by omega), tb_up_ne (by omega), tb_row_ne (by omega), tb_up_same]
            simp [upd, hz]
          · rw [tb_up_ne (by omega), tb_row_ne (by omega), tb_up_ne (by omega), tb_up_same]
            simp [upd, hz]
        · refine (g4 s hs).fr ?_ ?_ ?_ ?_ (fun j hj => ?_)
          · simp (disch := omega) only [tb_up_ne, tb_row_ne]
          · simp (disch := omega) only [tb_up_ne, tb_row_ne]
          · rw [tb_up_ne (by omega), tb_row_ne (by omega), tb_up_ne (by omega), tb_up_same]; simp only [upd, if_neg hsr]
            rw [tb_up_ne (by omega), tb_row_ne (by omega), tb_up_ne (by omega), tb_up_ne (by omega), tb_up_ne (by omega)]
          · rw [tb_up_ne (by omega), tb_row_ne (by omega), tb_up_same]; simp only [upd, if_neg hsr]
            rw [tb_up_ne (by omega), tb_up_ne (by omega), tb_row_ne (by omega), tb_up_ne (by omega), tb_up_ne (by omega), tb_up_ne (by omega)]
          · rw [tb_up_ne (by omega), tb_row_same]
            show (if _ then _ else _) = _
            rw [if_neg (by omega), tb_up_ne (by omega), tb_up_ne (by omega), tb_up_ne (by omega), tb_row_ne (by omega), tb_up_ne (by omega), tb_up_ne (by omega), tb_up_ne (by omega)]
      · simp (disch := omega) only [tb_up_ne, tb_row_ne]
      · simp (disch := omega) only [tb_up_ne, tb_row_ne]
      · rw [tb_up_same]; simp only [upd]; rw [if_neg (by omega), tb_row_ne (by omega), tb_up_ne (by omega), tb_up_ne (by omega), tb_up_ne (by omega), tb_row_ne (by omega), tb_up_ne (by omega), tb_up_ne (by omega), tb_up_ne (by omega)]
      · simp (disch := omega) only [tb_up_ne, tb_row_ne]
      · rw [tb_up_ne (show (0 : Nat) ≠ 297 by omega), tb_row_ne (by omega), tb_up_ne (by omega), tb_up_ne (by omega), tb_up_same]; simp only [upd]; rw [if_neg (by omega), tb_row_ne (by omega), tb_up_ne (by omega), tb_up_ne (by omega), tb_up_ne (by omega), tb_up_same]; simp only [upd]; rw [if_neg (by omega), tb_row_ne (by omega), tb_up_ne (by omega), tb_up_ne (by omega), tb_up_ne (by omega), tb_row_ne (by omega), tb_up_ne (by omega), tb_up_ne (by omega), tb_up_ne (by omega)]; exact g6.1
      · rw [tb_up_ne (show (0 : Nat) ≠ 297 by omega), tb_row_ne (by omega), tb_up_ne (by omega), tb_up_ne (by omega), tb_up_same, tb_up_same]; simp [upd]
      · simp (disch := omega) only [tb_up_ne, tb_row_ne]
      · simp (disch := omega) only [tb_up_ne, tb_row_ne]
      · rw [tb_up_same]; simp only [upd]; rw [if_neg (by omega), tb_row_ne (by omega), tb_up_ne (by omega), tb_up_ne (by omega), tb_up_ne (by omega), tb_row_ne (by omega), tb_up_ne (by omega), tb_up_ne (by omega), tb_up_ne (by omega)]
      · simp (disch := omega) only [tb_up_ne, tb_row_ne]
    · exact ⟨_, _, _, by rw [isRow6, tb_b2_some, if_neg h1, within_ok, tb_b2_some, if_neg h2, if_pos h3, if_neg h4, found4, tb_b2_some], by rw [isRow7, tb_b2_some, if_neg h1, in_ok, tb_b2_some, if_neg h2, if_pos h3, if_neg h4, ends_f (k := 4) (by decide) (by decide), tb_b2_some]; rfl, stt_inv h 4⟩
  · exact ⟨_, M, M, by rw [isRow6, tb_b2_some, if_neg h1, within_ok, tb_b2_some, if_neg h2, if_neg h3], by rw [isRow7, tb_b2_some, if_neg h1, in_ok, tb_b2_some, if_neg h2, if_neg h3], h⟩
/-! set, drop, copy -/
/-- how a row stands: as one of three findings -/
theorem row_cases {M : tb_Mem} {r : Nat} (h : IRow M r) (hr : r < 8) (x : Int32) (hx : x = nI r) (y n : Int32) : (M (263 + 2 * r) 1 = 1 ∧ M 298 r = -1 ∧ fX6_findingOf x y n M = some (1, M)) ∨ (M (263 + 2 * r) 1 = 0 ∧ 0 ≤ M 298 r ∧ ¬ M 298 r < 0 ∧ ((fX4_has (263 + 2 * r) y n M = some (0, M) ∧ fX6_findingOf x y n M = some (2, M) ∧ ∀ M', M' 298 = M 298 → fX7_lies x y n M' = some (0, M')) ∨ (fX4_has (263 + 2 * r) y n M = some (1, M) ∧ fX6_findingOf x y n M = some (0, M) ∧ (∀ M', M' 298 = M 298 → fX7_lies x y n M' = some (1, M')) ∧ ∃ i k len : Nat, len ≤ 40 ∧ i + k ≤ len ∧ y = nI i ∧ n = nI k ∧ M 298 r = nI len ∧ M (263 + 2 * r) 3 = nI len))) := by
  have hin : tb_in x 8 = true := by rw [hx]; exact tb_in_t hr (by omega)
  have hcl : x.toNatClampNeg = r := by rw [hx]; exact nI_clamp (by omega)
  rcases h with ⟨g1, g2⟩ | ⟨g1, g2, g3, len, g4, g5, g6⟩
  · left
    refine ⟨g1, g2, ?_⟩
    unfold fX6_findingOf
    rw [hin, tb_ck_t, hcl, g1, if_neg (by decide)]
  · right
    have p0 : 0 ≤ M 298 r := by rw [g6]; exact (nI_ge0 (by omega)).mpr trivial
    refine ⟨g1, p0, by rw [g6, nI_lt0 (by omega)]; exact id, ?_⟩
    have fo : ∀ v : Int32, fX4_has (263 + 2 * r) y n M = some (v, M) → fX6_findingOf x y n M = some ((if v = 0 then 2 else 0), M) := by
      intro v hv
      unfold fX6_findingOf
      rw [hin, tb_ck_t, hcl, g1, if_pos rfl, hv, tb_b2_some]
    by_cases y0 : y < 0
    · left
      have e : fX4_has (263 + 2 * r) y n M = some (0, M) := by unfold fX4_has; rw [if_pos y0]
      exact ⟨e, by rw [fo 0 e]; rfl, fun M' _ => by unfold fX7_lies; rw [if_pos y0]⟩
    by_cases n0 : n < 0
    · left
      have e : fX4_has (263 + 2 * r) y n M = some (0, M) := by unfold fX4_has; rw [if_neg y0, if_pos n0]
      exact ⟨e, by rw [fo 0 e]; rfl, fun M' _ => by unfold fX7_lies; rw [if_neg y0, if_pos n0]⟩
    obtain ⟨i, i1, i2⟩ := nI_of y0
    obtain ⟨k, k1, k2⟩ := nI_of n0
    -- len - k, as a number
    have hs : (nI len - nI k).toInt = (len : Int) - k := by
      have a1 := nI_toInt (n := len) (by omega)
      have a2 := nI_toInt k1
      have := Int32.toInt_sub (nI len) (nI k)
      rw [this, a1, a2]
      exact Int.bmod_eq_of_le (by omega) (by omega)
    by_cases hc : i + k ≤ len
    · right
      have hn : ¬ (nI len - nI k < nI i) := by rw [Int32.lt_iff_toInt_lt, hs, nI_toInt i1]; omega
      have e : fX4_has (263 + 2 * r) y n M = some (1, M) := by unfold fX4_has; rw [if_neg y0, if_neg n0, g5, k2, i2, if_neg hn]
      refine ⟨e, by rw [fo 1 e]; rfl, fun M' hM => ?_, i, k, len, g4, hc, i2, k2, g6, g5⟩
      unfold fX7_lies
      rw [if_neg y0, if_neg n0, hin, tb_ck_t, hcl, hM, g6, k2, if_neg (by rw [nI_ltI (by omega) (by omega)]; omega), i2, if_neg hn]
    · left
      have hn : nI len - nI k < nI i := by rw [Int32.lt_iff_toInt_lt, hs, nI_toInt i1]; omega
      have e : fX4_has (263 + 2 * r) y n M = some (0, M) := by unfold fX4_has; rw [if_neg y0, if_neg n0, g5, k2, i2, if_pos hn]
      refine ⟨e, by rw [fo 0 e]; rfl, fun M' hM => ?_⟩
      unfold fX7_lies
      rw [if_neg y0, if_neg n0, hin, tb_ck_t, hcl, hM, g6, k2]
      by_cases hk : len < k
      · rw [if_pos (by rw [nI_ltI (by omega) (by omega)]; exact hk)]
      · rw [if_neg (by rw [nI_ltI (by omega) (by omega)]; exact hk), i2, if_pos hn]

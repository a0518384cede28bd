/-! set, drop, copy -/
theorem Inv.rowsU {M M' : tb_Mem} (h : Inv M) (hs : ∀ q, q ≠ 0 → q ≠ 297 → q ≠ 301 → ¬ (263 ≤ q ∧ q ≤ 278) → q ≠ 298 → q ≠ 299 → q ≠ 300 → M' q = M q) (h0 : ∀ k, k ≠ 9 → M' 0 k = M 0 k) (h7 : ∀ k, k ≠ 4 → M' 297 k = M 297 k) (he : M' 0 9 = M' 297 4) (hr : ∀ r, r < 8 → IRow M' r) : Inv M' := by
  obtain ⟨⟨a, g1, g2⟩, g3, g4, g5, g6, g7⟩ := h
  have s : ∀ q, (q ≠ 0 ∧ q ≠ 297 ∧ q ≠ 301 ∧ ¬ (263 ≤ q ∧ q ≤ 278) ∧ q ≠ 298 ∧ q ≠ 299 ∧ q ≠ 300) → M' q = M q := fun q z => hs q z.1 z.2.1 z.2.2.1 z.2.2.2.1 z.2.2.2.2.1 z.2.2.2.2.2.1 z.2.2.2.2.2.2
  exact ⟨⟨a, g1.fr (fun q q1 q2 => s q (by omega)) (s 303 (by omega)), g2.fr (fun q q1 q2 => s q (by omega)) (s 22 (by omega)) (s 307 (by omega)) (h7 13 (by omega))⟩, fun k hk => (g3 k hk).fr (fun q q1 q2 => s q (by omega)) (fun j _ => by rw [s 305 (by omega)]) (by rw [s 306 (by omega)]), hr, g5.fr (by rw [s 2 (by omega)]) (s 3 (by omega)) (h7 6 (by omega)) (s 302 (by omega)), ⟨by rw [h0 8 (by omega), h7 7 (by omega)]; exact g6.1, he⟩, g7.fr (s 261 (by omega)) (s 262 (by omega)) (h7 16 (by omega)) (s 309 (by omega))⟩
def cutV (l v : Int32) : Int32 := if l = 0 then (v.toInt8.toInt32) else (if l = 1 then (v.toInt16.toInt32) else v)
theorem put_ok {M : tb_Mem} {p i : Nat} (hi : i < 40) (v : Int32) : fX4_put p (nI i) v M = some (cutV (M p 2) v, tb_up M (p + 1) i (cutV (M p 2) v)) := by
  unfold fX4_put cutV
  rw [tb_in_t hi (by omega), nI_clamp (by omega)]
  simp only [tb_ck_t, tb_let]
  by_cases h0 : M p 2 = 0
  · rw [if_pos h0, if_pos h0]
  · rw [if_neg h0, if_neg h0]
    by_cases h1 : M p 2 = 1
    · rw [if_pos h1, if_pos h1]
    · rw [if_neg h1, if_neg h1]
theorem cut_ok (l v : Int32) (M : tb_Mem) : fX7_cut l v M = some (cutV l v, M) := rfl
theorem s_set (x y z : Int32) : Sim (fX6_set x y z) (fX7_set x y z) := by
  intro M h
  unfold fX6_set fX7_set
  by_cases h1 : inV x 0 7 = 0
  · exact ⟨_, M, M, by rw [isRow6, tb_b2_some, if_pos h1], by rw [isRow7, tb_b2_some, if_pos h1], h⟩
  obtain ⟨r, hr, hx⟩ := isRow_1 h1
  have hin : tb_in x 8 = true := by rw [hx]; exact tb_in_t hr (by omega)
  have hcl : x.toNatClampNeg = r := by rw [hx]; exact nI_clamp (by omega)
  have hrow := h.2.2.1 r hr
  rcases row_cases hrow hr x hx y 1 with ⟨c1, c2, c3⟩ | ⟨c1, c2, c3, ⟨c4, c5, c6⟩ | ⟨c4, c5, c6, i, k, len, c7, c8, c9, c10, c11, c12⟩⟩
  · exact ⟨_, _, _, by rw [isRow6, tb_b2_some, if_neg h1, c3, tb_b2_some, if_neg (by decide), found1, tb_b2_some], by rw [isRow7, tb_b2_some, if_neg h1, hin, tb_ck_t, hcl, tb_up_ne (by omega), c2, if_neg (by decide), ends_f (k := 1) (by decide) (by decide), tb_b2_some]; rfl, stt_inv h 1⟩
  · exact ⟨_, _, _, by rw [isRow6, tb_b2_some, if_neg h1, c5, tb_b2_some, if_neg (by decide), found2, tb_b2_some], by rw [isRow7, tb_b2_some, if_neg h1, hin, tb_ck_t, hcl, tb_up_ne (by omega), if_pos c2, c6 _ (tb_up_ne (by omega)), tb_b2_some, if_pos rfl, ends_f (k := 2) (by decide) (by decide), tb_b2_some]; rfl, stt_inv h 2⟩
  · have k1 : k = 1 := nI_inj (by omega) (by omega) c10.symm
    subst k1
    have e40 : (40 : Int32) * x + y = nI (40 * r + i) := by rw [hx, c9, show (40 : Int32) = nI 40 from rfl, pk_mul, nI_add]
    rcases hrow with ⟨d1, d2⟩ | ⟨d1, d2, d3, d4⟩
    · rw [d1] at c1; exact absurd c1 (by decide)
    refine ⟨_, _, _, by rw [isRow6, tb_b2_some, if_neg h1, c5, tb_b2_some, if_pos rfl, hin, tb_ck_t, hcl, c9, put_ok (by omega), tb_b2_some, fine_ok, tb_b2_some], by
      rw [isRow7, tb_b2_some, if_neg h1, hin, tb_ck_t, hcl, tb_up_ne (show (298 : Nat) ≠ 0 by omega), tb_up_ne (show (298 : Nat) ≠ 263 + 2 * r + 1 by omega), if_pos c2, c6 _ (by rw [tb_up_ne (by omega), tb_up_ne (by omega)]), tb_b2_some, if_neg (by decide), tb_up_ne (show (299 : Nat) ≠ 0 by omega), tb_up_ne (show (299 : Nat) ≠ 263 + 2 * r + 1 by omega), cut_ok, tb_b2_some, e40, tb_in_t (by omega) (by omega), tb_ck_t, nI_clamp (by omega)]
      dsimp only [tb_let]
      rw [← d2], ?_⟩
    refine h.rowsU (fun q q0 q7 q1 qr q8 q9 q3 => ?_) (fun j hj => ?_) (fun j hj => ?_) ?_ (fun s hs => ?_)
    · simp (disch := omega) only [tb_up_ne]
    · simp (disch := omega) only [tb_up_ne, tb_up_same]; simp only [upd, if_neg hj]
    · simp (disch := omega) only [tb_up_ne, tb_up_same]; simp only [upd, if_neg hj]
    · simp (disch := omega) only [tb_up_ne, tb_up_same]; simp [upd]
    · by_cases hsr : s = r
      · subst hsr
        right
        refine ⟨?_, ?_, fun j hj => ?_, ?_⟩
        · simp (disch := omega) only [tb_up_ne]; exact d1
        · simp (disch := omega) only [tb_up_ne]; exact d2
        · simp (disch := omega) only [tb_up_ne, tb_up_same]
          simp only [upd]
          by_cases hji : j = i
          · rw [if_pos hji, if_pos (by omega)]
          · rw [if_neg hji, if_neg (by omega)]
            exact d3 j hj
        · simp (disch := omega) only [tb_up_ne]; exact d4
      · refine (h.2.2.1 s hs).fr ?_ ?_ ?_ ?_ (fun j hj => ?_)
        · simp (disch := omega) only [tb_up_ne]
        · simp (disch := omega) only [tb_up_ne]
        · simp (disch := omega) only [tb_up_ne]
        · simp (disch := omega) only [tb_up_ne]
        · simp (disch := omega) only [tb_up_ne, tb_up_same]
          simp only [upd]
          rw [if_neg (by omega)]
          try simp (disch := omega) only [tb_up_ne]
theorem s_drop (x : Int32) : Sim (fX6_drop x) (fX7_drop x) := by
  intro M h
  unfold fX6_drop fX7_drop
  by_cases h1 : inV x 0 7 = 0
  · exact ⟨_, M, M, by rw [isRow6, tb_b2_some, if_pos h1], by rw [isRow7, tb_b2_some, if_pos h1], h⟩
  obtain ⟨r, hr, hx⟩ := isRow_1 h1
  have hin : tb_in x 8 = true := by rw [hx]; exact tb_in_t hr (by omega)
  have hcl : x.toNatClampNeg = r := by rw [hx]; exact nI_clamp (by omega)
  rcases h.2.2.1 r hr with ⟨d1, d2⟩ | ⟨d1, d2, d3, len, d4, d5, d6⟩
  · exact ⟨_, _, _, by rw [isRow6, tb_b2_some, if_neg h1, hin, tb_ck_t, hcl, d1, if_neg (by decide), found1, tb_b2_some], by rw [isRow7, tb_b2_some, if_neg h1, hin, tb_ck_t, hcl, tb_up_ne (by omega), d2, if_neg (by decide), ends_f (k := 1) (by decide) (by decide), tb_b2_some]; rfl, stt_inv h 1⟩
  · have r3 : tb_up M (263 + 2 * r) 1 1 (263 + 2 * r) 3 = nI len := by rw [tb_up_same]; simp only [upd]; rw [if_neg (by omega)]; exact d5
    refine ⟨_, _, _, by rw [isRow6, tb_b2_some, if_neg h1, hin, tb_ck_t, hcl, d1, if_pos rfl]; dsimp only [tb_let]; rw [r3, fine_ok, tb_b2_some], by
      rw [isRow7, tb_b2_some, if_neg h1, hin, tb_ck_t, hcl, tb_up_ne (show (298 : Nat) ≠ 0 by omega), tb_up_ne (show (298 : Nat) ≠ 263 + 2 * r by omega), d6, if_pos ((nI_ge0 (by omega)).mpr trivial)]
      dsimp only [tb_let]
      rw [ends_0 (inV_nI (by omega)), tb_b2_some], ?_⟩
    refine h.rowsU (fun q q0 q7 q1 qr q8 q9 q3 => ?_) (fun j hj => ?_) (fun j hj => ?_) ?_ (fun s hs => ?_)
    · simp (disch := omega) only [tb_up_ne]
    · simp (disch := omega) only [tb_up_ne, tb_up_same]; simp only [upd, if_neg hj]
    · simp (disch := omega) only [tb_up_ne, tb_up_same]; simp only [upd, if_neg hj]
    · simp (disch := omega) only [tb_up_ne, tb_up_same]; simp [upd]
    · by_cases hsr : s = r
      · subst hsr
        left
        constructor
        · simp (disch := omega) only [tb_up_ne, tb_up_same]; simp [upd]
        · simp (disch := omega) only [tb_up_ne, tb_up_same]; simp [upd]
      · refine (h.2.2.1 s hs).fr ?_ ?_ ?_ ?_ (fun j hj => ?_)
        · simp (disch := omega) only [tb_up_ne]
        · simp (disch := omega) only [tb_up_ne]
        · simp (disch := omega) only [tb_up_ne, tb_up_same]
          simp only [upd]
          rw [if_neg hsr]
          try simp (disch := omega) only [tb_up_ne]
        · simp (disch := omega) only [tb_up_ne]
        · simp (disch := omega) only [tb_up_ne]
theorem copy7_b {b j n : Nat} (hb : b < 8) (hj : j + n ≤ 40) (M : tb_Mem) : ∀ (m k : Nat) (c : Nat → Int32), k ≤ n → n - k < m → (∀ u, c u = if 40 * b + j ≤ u ∧ u < 40 * b + j + k then M 301 (u - (40 * b + j)) else M 300 u) → fX7_copy_L134 m (nI b) (nI j) (nI n) (nI k) (tb_row M 300 c) = tb_b2 (fX7_ends (nI n) (tb_row M 300 (fun u => if 40 * b + j ≤ u ∧ u < 40 * b + j + n then M 301 (u - (40 * b + j)) else M 300 u))) (fun r45 M43 => some (r45, M43)) := by
  intro m
  induction m with
  | zero => intro k c h1 h2; omega
  | succ m ih =>
    intro k c h1 h2 hc
    rw [fX7_copy_L134]
    by_cases hk : k < n
    · have e40 : (40 : Int32) = nI 40 := rfl
      rw [if_neg (by rw [nI_leI (by omega) (by omega)]; omega), tb_in_t (by omega) (by omega), tb_ck_t, e40, pk_mul, nI_add, nI_add, tb_in_t (by omega) (by omega), tb_ck_t, nI_clamp (by omega), nI_clamp (by omega), nI_1]
      dsimp only [tb_let]
      rw [tb_up_row, tb_row_ne (by omega)]
      refine ih (k + 1) _ (by omega) (by omega) (fun u => ?_)
      simp only [upd]
      by_cases e : u = 40 * b + j + k
      · rw [if_pos e, if_pos (by omega)]
        congr 1; omega
      · rw [if_neg e, hc u]
        by_cases h3 : 40 * b + j ≤ u ∧ u < 40 * b + j + k
        · rw [if_pos h3, if_pos (by omega)]
        · rw [if_neg h3, if_neg (by omega)]
    · have : k = n := by omega
      subst this
      rw [if_pos (by rw [nI_leI (by omega) (by omega)]; omega)]
      congr 3
      funext u
      exact hc u
theorem copy7_a {a i b j n : Nat} (ha : a < 8) (hi : i + n ≤ 40) (M : tb_Mem) : ∀ (m k : Nat) (c : Nat → Int32), k ≤ n → n - k < m → (∀ u, c u = if u < k then M 300 (40 * a + i + u) else M 301 u) → fX7_copy_L97 m (nI a) (nI i) (nI b) (nI j) (nI n) (nI k) (tb_row M 301 c) = fX7_copy_L134 tb_N (nI b) (nI j) (nI n) 0 (tb_row M 301 (fun u => if u < n then M 300 (40 * a + i + u) else M 301 u)) := by
  intro m
  induction m with
  | zero => intro k c h1 h2; omega
  | succ m ih =>
    intro k c h1 h2 hc
    rw [fX7_copy_L97]
    by_cases hk : k < n
    · have e40 : (40 : Int32) = nI 40 := rfl
      rw [if_neg (by rw [nI_leI (by omega) (by omega)]; omega), e40, pk_mul, nI_add, nI_add, tb_in_t (by omega) (by omega), tb_ck_t, tb_in_t (by omega) (by omega), tb_ck_t, nI_clamp (by omega), nI_clamp (by omega), nI_1]
      dsimp only [tb_let]
      rw [tb_up_row, tb_row_ne (by omega)]
      refine ih (k + 1) _ (by omega) (by omega) (fun u => ?_)
      simp only [upd]
      by_cases e : u = k
      · rw [if_pos e, if_pos (by omega), e]
      · rw [if_neg e, hc u]
        by_cases h3 : u < k
        · rw [if_pos h3, if_pos (by omega)]
        · rw [if_neg h3, if_neg (by omega)]
    · have : k = n := by omega
      subst this
      rw [if_pos (by rw [nI_leI (by omega) (by omega)]; omega)]
      congr 2
      funext u
      exact hc u
theorem copy7_ok {a i b j n : Nat} (ha : a < 8) (hi : i + n ≤ 40) (hb : b < 8) (hj : j + n ≤ 40) (M : tb_Mem) : ∃ M1, fX7_copy_L97 tb_N (nI a) (nI i) (nI b) (nI j) (nI n) 0 M = some (nI n, tb_up (tb_row M1 300 (fun u => if 40 * b + j ≤ u ∧ u < 40 * b + j + n then M 300 (40 * a + i + (u - (40 * b + j))) else M 300 u)) 297 4 0) ∧ ∀ q, q ≠ 301 → M1 q = M q := by
  have h1 := copy7_a (b := b) (j := j) ha hi M tb_N 0 (M 301) (by omega) (by unfold tb_N; omega) (fun u => by rw [if_neg (by omega)])
  rw [tb_row_self] at h1
  have h1' : fX7_copy_L97 tb_N (nI a) (nI i) (nI b) (nI j) (nI n) 0 M = _ := h1
  have h2 := copy7_b hb hj (tb_row M 301 (fun u => if u < n then M 300 (40 * a + i + u) else M 301 u)) tb_N 0 ((tb_row M 301 (fun u => if u < n then M 300 (40 * a + i + u) else M 301 u)) 300) (by omega) (by unfold tb_N; omega) (fun u => by rw [if_neg (by omega)])
  rw [tb_row_self] at h2
  have h2' : fX7_copy_L134 tb_N (nI b) (nI j) (nI n) 0 (tb_row M 301 (fun u => if u < n then M 300 (40 * a + i + u) else M 301 u)) = _ := h2
  refine ⟨tb_row M 301 (fun u => if u < n then M 300 (40 * a + i + u) else M 301 u), ?_, fun q hq => tb_row_ne hq⟩
  rw [h1', h2', ends_0 (inV_nI (by omega)), tb_b2_some]
  congr 4
  funext u
  rw [tb_row_same, tb_row_ne (by omega)]
  by_cases h3 : 40 * b + j ≤ u ∧ u < 40 * b + j + n
  · rw [if_pos h3, if_pos h3, if_pos (by omega)]
  · rw [if_neg h3, if_neg h3]
theorem s_copy (x y z w v : Int32) : Sim (fX6_copy x y z w v) (fX7_copy x y z w v) := by
  intro M h
  unfold fX6_copy fX7_copy
  by_cases h1 : inV x 0 7 = 0
  · exact ⟨_, M, M, by rw [isRow6, tb_b2_some, if_pos h1], by rw [isRow7, tb_b2_some, if_pos h1], h⟩
  by_cases h2 : inV z 0 7 = 0
  · exact ⟨_, M, M, by rw [isRow6, tb_b2_some, if_neg h1, isRow6, tb_b2_some, if_pos h2], by rw [isRow7, tb_b2_some, if_neg h1, isRow7, tb_b2_some, if_pos h2], h⟩
  obtain ⟨r, hr, hx⟩ := isRow_1 h1
  obtain ⟨s, hs, hz⟩ := isRow_1 h2
  have hin : tb_in x 8 = true := by rw [hx]; exact tb_in_t hr (by omega)
  have hcl : x.toNatClampNeg = r := by rw [hx]; exact nI_clamp (by omega)
  have hin2 : tb_in z 8 = true := by rw [hz]; exact tb_in_t hs (by omega)
  have hcl2 : z.toNatClampNeg = s := by rw [hz]; exact nI_clamp (by omega)
  have hrow := h.2.2.1 r hr
  have hrow2 := h.2.2.1 s hs
  rcases row_cases hrow hr x hx y v with ⟨c1, c2, c3⟩ | ⟨c1, c2, c3, cc⟩
  · exact ⟨_, _, _, by rw [isRow6, tb_b2_some, if_neg h1, isRow6, tb_b2_some, if_neg h2, hin, tb_ck_t, hin2, tb_ck_t, hcl, c1, if_neg (by decide), found1, tb_b2_some], by rw [isRow7, tb_b2_some, if_neg h1, isRow7, tb_b2_some, if_neg h2, hin, tb_ck_t, hcl, tb_up_ne (by omega), c2, if_pos (by decide), ends_f (k := 1) (by decide) (by decide), tb_b2_some]; rfl, stt_inv h 1⟩
  rcases row_cases hrow2 hs z hz w v with ⟨d1, d2, d3⟩ | ⟨d1, d2, d3, dd⟩
  · exact ⟨_, _, _, by rw [isRow6, tb_b2_some, if_neg h1, isRow6, tb_b2_some, if_neg h2, hin, tb_ck_t, hin2, tb_ck_t, hcl, hcl2, c1, if_pos rfl, d1, if_neg (by decide), found1, tb_b2_some], by rw [isRow7, tb_b2_some, if_neg h1, isRow7, tb_b2_some, if_neg h2, hin, tb_ck_t, hcl, hcl2, tb_up_ne (by omega), if_neg c3, hin2, tb_ck_t, d2, if_neg (by decide), ends_f (k := 1) (by decide) (by decide), tb_b2_some]; rfl, stt_inv h 1⟩
  rcases hrow with ⟨e1, e2⟩ | ⟨e1, e2, e3, e4⟩
  · rw [e1] at c1; exact absurd c1 (by decide)
  rcases hrow2 with ⟨f1, f2⟩ | ⟨f1, f2, f3, f4⟩
  · rw [f1] at d1; exact absurd d1 (by decide)
  by_cases hl : M (263 + 2 * r) 2 = M (263 + 2 * s) 2
  · have hl7 : M 299 r = M 299 s := by rw [← e2, ← f2]; exact hl
    rcases cc with ⟨c4, c5, c6⟩ | ⟨c4, c5, c6, i, k, len, c7, c8, c9, c10, c11, c12⟩
    · exact ⟨_, _, _, by rw [isRow6, tb_b2_some, if_neg h1, isRow6, tb_b2_some, if_neg h2, hin, tb_ck_t, hin2, tb_ck_t, hcl, hcl2, c1, if_pos rfl, d1, if_pos rfl, if_pos hl, c4, tb_b2_some, if_pos rfl, found2, tb_b2_some], by rw [isRow7, tb_b2_some, if_neg h1, isRow7, tb_b2_some, if_neg h2, hin, tb_ck_t, hcl, hcl2, tb_up_ne (show (298 : Nat) ≠ 0 by omega), tb_up_ne (show (299 : Nat) ≠ 0 by omega), if_neg c3, hin2, tb_ck_t, if_pos d2, if_pos hl7, c6 _ (tb_up_ne (by omega)), tb_b2_some, if_pos rfl, ends_f (k := 2) (by decide) (by decide), tb_b2_some]; rfl, stt_inv h 2⟩
    rcases dd with ⟨d4, d5, d6⟩ | ⟨d4, d5, d6, j, k', len', d7, d8, d9, d10, d11, d12⟩
    · exact ⟨_, _, _, by rw [isRow6, tb_b2_some, if_neg h1, isRow6, tb_b2_some, if_neg h2, hin, tb_ck_t, hin2, tb_ck_t, hcl, hcl2, c1, if_pos rfl, d1, if_pos rfl, if_pos hl, c4, tb_b2_some, if_neg (by decide), d4, tb_b2_some, if_pos rfl, found2, tb_b2_some], by rw [isRow7, tb_b2_some, if_neg h1, isRow7, tb_b2_some, if_neg h2, hin, tb_ck_t, hcl, hcl2, tb_up_ne (show (298 : Nat) ≠ 0 by omega), tb_up_ne (show (299 : Nat) ≠ 0 by omega), if_neg c3, hin2, tb_ck_t, if_pos d2, if_pos hl7, c6 _ (tb_up_ne (by omega)), tb_b2_some, if_neg (by decide), d6 _ (tb_up_ne (by omega)), tb_b2_some, if_pos rfl, ends_f (k := 2) (by decide) (by decide), tb_b2_some]; rfl, stt_inv h 2⟩
    have hkk : k' = k := nI_inj (by omega) (by omega) (d10.symm.trans c10)
    subst hkk
    have q1 : decide (¬ y < 0) = true := decide_eq_true (by rw [c9, nI_lt0 (by omega)]; exact id)
    have q2 : decide (¬ w < 0) = true := decide_eq_true (by rw [d9, nI_lt0 (by omega)]; exact id)
    have q3 : decide (¬ v < 0) = true := decide_eq_true (by rw [c10, nI_lt0 (by omega)]; exact id)
    have t1 : y.toNatClampNeg = i := by rw [c9]; exact nI_clamp (by omega)
    have t2 : w.toNatClampNeg = j := by rw [d9]; exact nI_clamp (by omega)
    have t3 : v.toNatClampNeg = k' := by rw [c10]; exact nI_clamp (by omega)
    have q4 : decide (y.toNatClampNeg + v.toNatClampNeg ≤ 40) = true := decide_eq_true (by rw [t1, t3]; omega)
    have q5 : decide (w.toNatClampNeg + v.toNatClampNeg ≤ 40) = true := decide_eq_true (by rw [t2, t3]; omega)
    obtain ⟨M1, m1, m2⟩ := copy7_ok (a := r) (i := i) (b := s) (j := j) (n := k') hr (by omega) hs (by omega) (tb_up (tb_row M (263 + 2 * s + 1) (va_cpy (M (263 + 2 * r + 1)) (M (263 + 2 * s + 1)) i j k')) 0 9 0)
    refine ⟨nI k', _, _, by rw [isRow6, tb_b2_some, if_neg h1, isRow6, tb_b2_some, if_neg h2, hin, tb_ck_t, hin2, tb_ck_t, hcl, hcl2, c1, if_pos rfl, d1, if_pos rfl, if_pos hl, c4, tb_b2_some, if_neg (by decide), d4, tb_b2_some, if_neg (by decide), q1, tb_ck_t, q2, tb_ck_t, q3, tb_ck_t, q4, tb_ck_t, q5, tb_ck_t]; dsimp only [tb_let]; rw [t1, t2, t3, fine_ok, tb_b2_some, c10], by
      rw [isRow7, tb_b2_some, if_neg h1, isRow7, tb_b2_some, if_neg h2, hin, tb_ck_t, hcl, hcl2, tb_up_ne (show (298 : Nat) ≠ 0 by omega), tb_row_ne (show (298 : Nat) ≠ 263 + 2 * s + 1 by omega), tb_up_ne (show (299 : Nat) ≠ 0 by omega), tb_row_ne (show (299 : Nat) ≠ 263 + 2 * s + 1 by omega), if_neg c3, hin2, tb_ck_t, if_pos d2, if_pos hl7, c6 _ (by rw [tb_up_ne (by omega), tb_row_ne (by omega)]), tb_b2_some, if_neg (by decide), d6 _ (by rw [tb_up_ne (by omega), tb_row_ne (by omega)]), tb_b2_some, if_neg (by decide), hx, hz, c9, d9, c10]
      exact m1, ?_⟩
    have n1 : ∀ q, q ≠ 301 → q ≠ 0 → q ≠ 263 + 2 * s + 1 → M1 q = M q := fun q z1 z2 z3 => by rw [m2 q z1, tb_up_ne z2, tb_row_ne z3]
    refine h.rowsU (fun q q0 q7 q1 qr q8 q9 q3 => ?_) (fun u hu => ?_) (fun u hu => ?_) ?_ (fun t ht => ?_)
    · rw [tb_up_ne q7, tb_row_ne q3, n1 q q1 q0 (by omega)]
    · rw [tb_up_ne (by omega), tb_row_ne (by omega), m2 0 (by omega), tb_up_same]; simp only [upd, if_neg hu]; rw [tb_row_ne (by omega)]
    · rw [tb_up_same]; simp only [upd, if_neg hu]; rw [tb_row_ne (by omega), n1 297 (by omega) (by omega) (by omega)]
    · rw [tb_up_ne (by omega), tb_row_ne (by omega), m2 0 (by omega), tb_up_same, tb_up_same]; simp [upd]
    · by_cases hts : t = s
      · subst hts
        right
        refine ⟨?_, ?_, fun u hu => ?_, ?_⟩
        · rw [tb_up_ne (by omega), tb_row_ne (by omega), n1 _ (by omega) (by omega) (by omega)]; exact f1
        · rw [tb_up_ne (by omega), tb_row_ne (by omega), n1 _ (by omega) (by omega) (by omega), tb_up_ne (by omega), tb_row_ne (by omega), n1 _ (by omega) (by omega) (by omega)]; exact f2
        · rw [tb_up_ne (by omega), tb_row_ne (by omega), m2 _ (by omega), tb_up_ne (by omega), tb_row_same, tb_up_ne (by omega), tb_row_same]
          unfold va_cpy
          rw [tb_up_ne (by omega), tb_row_ne (by omega)]
          by_cases hb : j ≤ u ∧ u < j + k'
          · rw [if_pos hb, if_pos (by omega)]
            rw [e3 _ (by omega)]
            congr 1; omega
          · rw [if_neg hb, if_neg (by omega)]
            exact f3 u hu
        · rw [tb_up_ne (by omega), tb_row_ne (by omega), n1 _ (by omega) (by omega) (by omega), tb_up_ne (by omega), tb_row_ne (by omega), n1 _ (by omega) (by omega) (by omega)]; exact f4
      · refine (h.2.2.1 t ht).fr ?_ ?_ ?_ ?_ (fun u hu => ?_)
        · rw [tb_up_ne (by omega), tb_row_ne (by omega), n1 _ (by omega) (by omega) (by omega)]
        · rw [tb_up_ne (by omega), tb_row_ne (by omega), n1 _ (by omega) (by omega) (by omega)]
        · rw [tb_up_ne (by omega), tb_row_ne (by omega), n1 _ (by omega) (by omega) (by omega)]
        · rw [tb_up_ne (by omega), tb_row_ne (by omega), n1 _ (by omega) (by omega) (by omega)]
        · rw [tb_up_ne (by omega), tb_row_same]
          show (if _ then _ else _) = _
          rw [if_neg (by omega), tb_up_ne (by omega), tb_row_ne (by omega)]
  · have hl7 : ¬ M 299 r = M 299 s := fun z => hl (by rw [e2, f2]; exact z)
    exact ⟨_, _, _, by rw [isRow6, tb_b2_some, if_neg h1, isRow6, tb_b2_some, if_neg h2, hin, tb_ck_t, hin2, tb_ck_t, hcl, hcl2, c1, if_pos rfl, d1, if_pos rfl, if_neg hl, found5, tb_b2_some], by rw [isRow7, tb_b2_some, if_neg h1, isRow7, tb_b2_some, if_neg h2, hin, tb_ck_t, hcl, hcl2, tb_up_ne (show (298 : Nat) ≠ 0 by omega), tb_up_ne (show (299 : Nat) ≠ 0 by omega), if_neg c3, hin2, tb_ck_t, if_pos d2, if_neg hl7, ends_f (k := 5) (by decide) (by decide), tb_b2_some]; rfl, stt_inv h 5⟩

/-! feed, bar, paper, kind, as, trace, count -/
theorem s_feed (x : Int32) : Sim (fX6_feed x) (fX7_feed x) := by
  intro M h
  unfold fX6_feed fX7_feed
  by_cases h1 : inV x 0 255 = 0
  · exact ⟨_, M, M, by rw [within_ok, tb_b2_some, if_pos h1], by rw [in_ok, tb_b2_some, if_pos h1], h⟩
  obtain ⟨⟨a, g1, g2⟩, g3, g4, ⟨t, t1, t2, t3, t4⟩, g6, g7⟩ := id h
  unfold fX5_take
  by_cases ht : t < 60
  · have c : nI t < 60 := by rw [show (60 : Int32) = nI 60 from rfl, nI_ltI (by omega) (by omega)]; exact ht
    have c2 : ¬ nI t = 60 := by rw [show (60 : Int32) = nI 60 from rfl, nI_eq (by omega) (by omega)]; omega
    have r1 : tb_up M 3 t x 2 1 = nI t := by rw [tb_up_ne (by omega)]; exact t2
    have r2 : tb_up (tb_up M 3 t x) 2 1 (nI t + 1) 2 1 = nI (t + 1) := by rw [tb_up_same]; simp only [upd, if_true]; rw [nI_1]
    have r3 : tb_up (tb_up M 3 t x) 2 1 (nI t + 1) 297 6 = nI t := by rw [tb_up_ne (by omega), tb_up_ne (by omega)]; exact t3
    refine ⟨nI (t + 1), _, _, by
      rw [within_ok, tb_b2_some, if_neg h1, t2, if_pos c, tb_in_t ht (by omega), tb_ck_t, nI_clamp (by omega)]
      dsimp only [tb_let]
      rw [r1, tb_b2_some, if_neg (by decide), r2], by
      rw [in_ok, tb_b2_some, if_neg h1, r3, if_neg c2, tb_in_t ht (by omega), tb_ck_t, nI_clamp (by omega)]
      dsimp only [tb_let]
      rw [tb_up_ne (show (297 : Nat) ≠ 302 by omega), r3, nI_1, tb_up_same]
      simp only [upd, if_true]
      rfl, ?_⟩
    refine ⟨⟨a, g1.fr (fun q q1 q2 => by simp (disch := omega) only [tb_up_ne]) (by simp (disch := omega) only [tb_up_ne]), g2.fr (fun q q1 q2 => by simp (disch := omega) only [tb_up_ne]) (by simp (disch := omega) only [tb_up_ne]) (by simp (disch := omega) only [tb_up_ne]) ?_⟩, fun k hk => (g3 k hk).fr (fun q q1 q2 => by simp (disch := omega) only [tb_up_ne]) (fun j _ => by simp (disch := omega) only [tb_up_ne]) (by simp (disch := omega) only [tb_up_ne]), fun r hr => (g4 r hr).fr (by simp (disch := omega) only [tb_up_ne]) (by simp (disch := omega) only [tb_up_ne]) (by simp (disch := omega) only [tb_up_ne]) (by simp (disch := omega) only [tb_up_ne]) (fun j _ => by simp (disch := omega) only [tb_up_ne]), ⟨t + 1, by omega, ?_, ?_, fun j hj => ?_⟩, ⟨?_, ?_⟩, g7.fr (by simp (disch := omega) only [tb_up_ne]) (by simp (disch := omega) only [tb_up_ne]) ?_ (by simp (disch := omega) only [tb_up_ne])⟩
    · rw [tb_up_same]; simp only [upd]; rw [if_neg (by omega)]; simp (disch := omega) only [tb_up_ne]
    · simp (disch := omega) only [tb_up_ne, tb_up_same]; simp [upd, nI_1]
    · rw [tb_up_same]; simp [upd]
    · simp (disch := omega) only [tb_up_ne, tb_up_same]
      simp only [upd]
      by_cases e : j = t
      · rw [if_pos e, if_pos e]
      · rw [if_neg e, if_neg e]; exact t4 j (by omega)
    · simp (disch := omega) only [tb_up_ne, tb_up_same]; simp only [upd]; rw [if_neg (by omega)]; exact g6.1
    · simp (disch := omega) only [tb_up_ne, tb_up_same]; simp only [upd]; rw [if_neg (by omega)]; exact g6.2
    · rw [tb_up_same]; simp only [upd]; rw [if_neg (by omega)]; simp (disch := omega) only [tb_up_ne]
  · have : t = 60 := by omega
    subst this
    exact ⟨_, M, M, by rw [within_ok, tb_b2_some, if_neg h1, t2, if_neg (by decide), tb_b2_some, if_pos rfl], by rw [in_ok, tb_b2_some, if_neg h1, t3, if_pos (by decide)], h⟩
theorem idx2 {k i : Nat} : nI k + nI i = nI (k + i) := nI_add k i
theorem s_bar (x y : Int32) : Sim (fX6_bar x y) (fX7_bar x y) := by
  intro M h
  obtain ⟨⟨a, ⟨hg, hb, hm, ht⟩, -⟩, -⟩ := id h
  have hn := hg.1.1
  suffices hh : ∃ r, fX6_bar x y M = some (r, M) ∧ fX7_bar x y M = some (r, M) by
    obtain ⟨r, e1, e2⟩ := hh
    exact ⟨r, M, M, e1, e2, h⟩
  unfold fX6_bar fX7_bar
  rcases bar_both hg.1 hb hm x with ⟨c1, c2⟩ | ⟨i, hi, hx, c1, c2⟩
  · exact ⟨_, by rw [c1, tb_b2_some, if_pos rfl], by rw [c2, tb_b2_some, if_pos rfl]⟩
  obtain ⟨b1, b2, b3, b4, b5, b6, b7⟩ := hb.2.1 i hi
  obtain ⟨m1, m2, m3, m4, m5⟩ := hm.2.1 i hi
  have ok := hg.1.2.1 i hi
  have l4 := ok.2.2.2.2.2.1
  have hin : tb_in x 8 = true := by rw [hx]; exact tb_in_t (by omega) (by omega)
  have hcl : x.toNatClampNeg = i := by rw [hx]; exact nI_clamp (by omega)
  have ex : ∀ k : Nat, k + i < 2 ^ 31 → (nI k + x).toNatClampNeg = k + i := fun k hk => by rw [hx, nI_add]; exact nI_clamp hk
  have iin : ∀ k : Nat, k + 8 ≤ 63 → tb_in (nI k + x) 63 = true := fun k hk => by rw [hx, nI_add]; exact tb_in_t (by omega) (by omega)
  rw [c1, c2]
  simp only [tb_b2_some]
  rw [if_neg (show ¬ (1 : Int32) = 0 by decide), if_neg (show ¬ (1 : Int32) = 0 by decide)]
  by_cases y0 : y = 0
  · refine ⟨_, by rw [if_pos y0, hin, tb_ck_t], ?_⟩
    rw [if_pos y0, show (47 : Int32) = nI 47 from rfl, iin 47 (by omega), tb_ck_t, ex 47 (by omega), m4, hcl]
    rw [show M (4 + 2) i = nI (a 2 i) from b2]
  rw [if_neg y0, if_neg y0]
  by_cases y1 : y = 1
  · refine ⟨_, by rw [if_pos y1, hin, tb_ck_t], ?_⟩
    rw [if_pos y1, show (18 : Int32) = nI 18 from rfl, iin 18 (by omega), tb_ck_t, ex 18 (by omega), m3, hcl]
    rw [show M (4 + 4) i = nI (a 3 i) from b4]
  rw [if_neg y1, if_neg y1]
  by_cases y2 : y = 2
  · refine ⟨_, by rw [if_pos y2, hin, tb_ck_t], ?_⟩
    rw [if_pos y2, hx, N_high hg hm hi, tb_b2_some, nI_clamp (by omega)]
    rw [show M (4 + 7) i = nI (sHg a i) from b7 (Or.inr hi)]
  rw [if_neg y2, if_neg y2]
  by_cases y3 : y = 3
  · rw [if_pos y3, if_pos y3, show (2 : Int32) = nI 2 from rfl, iin 2 (by omega), tb_ck_t, ex 2 (by omega), m1, hx, M_moves hg.1 hb hi, tb_b2_some, nI_clamp (by omega), tb_in_t (by omega) (by omega)]
    by_cases h4 : a 4 i = 0
    · refine ⟨_, by rw [if_pos h4, if_pos rfl], ?_⟩
      rw [if_neg (fun z => (tm_ge (by omega)).mp z h4)]
    · refine ⟨_, by rw [if_neg h4, if_neg (by decide), tb_ck_t], ?_⟩
      rw [if_pos ((tm_ge (by omega)).mpr h4)]
      rw [show M (4 + 6) i = nI (a 4 i - 1) from b6 h4, tm, if_neg h4]
  rw [if_neg y3, if_neg y3]
  by_cases y4 : y = 4
  · rw [if_pos y4, if_pos y4, show (10 : Int32) = nI 10 from rfl, iin 10 (by omega), tb_ck_t, ex 10 (by omega), m2, hx, M_hangs hg.1 hb hi, tb_b2_some]
    have l5 := ok.2.2.2.2.2.2.1
    by_cases h5 : a 5 i = 0
    · refine ⟨_, rfl, ?_⟩
      rw [if_pos ((nI_le0 (by omega)).mpr h5), if_pos h5, if_pos rfl]
    · refine ⟨_, rfl, ?_⟩
      rw [if_neg (fun z => h5 ((nI_le0 (by omega)).mp z)), if_neg h5, if_neg (by decide)]
  rw [if_neg y4, if_neg y4]
  by_cases y5 : y = 5
  · refine ⟨_, by rw [if_pos y5, hin, tb_ck_t], ?_⟩
    rw [if_pos y5, hx, N_top hg.1 hm hi, tb_b2_some, nI_clamp (by omega)]
    rw [show M (4 + 3) i = nI (sTop a i) from b3]
  rw [if_neg y5, if_neg y5]
  exact ⟨_, rfl, rfl⟩
theorem s_paper (x : Int32) : Sim (fX6_paper x) (fX7_paper x) := by
  intro M h
  obtain ⟨⟨a, ⟨hg, hb, hm, ht⟩, -⟩, -⟩ := id h
  unfold fX6_paper fX7_paper
  by_cases h1 : inV x 0 19 = 0
  · exact ⟨_, M, M, by rw [within_ok, tb_b2_some, if_pos h1], by rw [in_ok, tb_b2_some, if_pos h1], h⟩
  obtain ⟨j, -, hj, hx⟩ := inV_1 (l := 0) (h := 19) (by omega) (by omega) h1
  have p8 : M 12 j = nI (a 7 j) := hb.2.2.2.2.2 j (by omega)
  have m8 := hm.2.2.2 j (by omega)
  have l := hg.1.2.2.2.2 j (by omega)
  refine ⟨(if nI (a 7 j) = 0 then (-1000000) else nI (a 7 j) - 1), M, M, by
    rw [within_ok, tb_b2_some, if_neg h1, hx, tb_in_t (by omega) (by omega), tb_ck_t, nI_clamp (by omega), show M (4 + 8) j = nI (a 7 j) from p8]
    rfl, ?_, h⟩
  rw [in_ok, tb_b2_some, if_neg h1, hx, zl26, nI_add, tb_in_t (by omega) (by omega), tb_ck_t, nI_clamp (by omega), m8]
  by_cases h0 : nI (a 7 j) = 0
  · rw [if_pos h0, if_pos h0]
  · rw [if_neg h0, if_neg h0]
theorem s_kind (x : Int32) : Sim (fX6_kind x) (fX7_kind x) := by
  intro M h
  obtain ⟨⟨a, ⟨hg, hb, hm, ht⟩, -⟩, -⟩ := id h
  have hn := hg.1.1
  unfold fX6_kind fX7_kind
  rcases bar_both hg.1 hb hm x with ⟨c1, c2⟩ | ⟨i, hi, hx, c1, c2⟩
  · exact ⟨_, M, M, by rw [c1, tb_b2_some, if_pos rfl], by rw [c2, tb_b2_some, if_pos rfl], h⟩
  have b1 : M (4 + 1) i = nI (a 1 i) := (hb.2.1 i hi).1
  have m5 := (hm.2.1 i hi).2.2.2.2
  refine ⟨_, M, M, by rw [c1, tb_b2_some, if_neg (by decide), hx, tb_in_t (by omega) (by omega), tb_ck_t, nI_clamp (by omega), b1], ?_, h⟩
  rw [c2, tb_b2_some, if_neg (by decide), hx, zl55, nI_add, tb_in_t (by omega) (by omega), tb_ck_t, nI_clamp (by omega), m5]
/-- of which kinds a kind is, too -/
def isAV (s k : Nat) : Int32 := match fX6_isA (nI s) (nI k) (fun _ _ => 0) with
  | some (r, _) => r
  | none => 0
theorem isA_any : ∀ (n : Nat) (x1 x2 x3 : Int32) (M M' : tb_Mem), (fX6_isA_L4 n x1 x2 x3 M).map (fun q => q.1) = (fX6_isA_L4 n x1 x2 x3 M').map (fun q => q.1) ∧ ∀ r N, fX6_isA_L4 n x1 x2 x3 M = some (r, N) → N = M := by
  intro n
  induction n with
  | zero => intro x1 x2 x3 M M'; exact ⟨rfl, fun r N h => by cases h⟩
  | succ n ih =>
    intro x1 x2 x3 M M'
    rw [fX6_isA_L4, fX6_isA_L4]
    split
    · exact ⟨rfl, fun r N h => by cases h; rfl⟩
    · split
      · exact ⟨rfl, fun r N h => by cases h; rfl⟩
      · split
        · exact ⟨rfl, fun r N h => by cases h; rfl⟩
        · cases tb_in x2 6
          · exact ⟨rfl, fun r N h => by cases h⟩
          · exact ih _ _ _ M M'
def isA8 (s k : Nat) : Option (Int32 × tb_Mem) := fX6_isA_L4 8 (nI k) (nI s) 0 (fun _ _ => 0)
theorem isA_mono : ∀ (n m : Nat) (x1 x2 x3 : Int32) (M : tb_Mem) (r : Int32 × tb_Mem), fX6_isA_L4 n x1 x2 x3 M = some r → n ≤ m → fX6_isA_L4 m x1 x2 x3 M = some r := by
  intro n
  induction n with
  | zero => intro m x1 x2 x3 M r h; rw [fX6_isA_L4] at h; cases h
  | succ n ih =>
    intro m x1 x2 x3 M r h hm
    obtain ⟨m, rfl⟩ : ∃ k, m = k + 1 := ⟨m - 1, by omega⟩
    rw [fX6_isA_L4] at h ⊢
    split at h
    · rename_i q; rw [if_pos q]; exact h
    · rename_i q
      rw [if_neg q]
      split at h
      · rename_i q2; rw [if_pos q2]; exact h
      · rename_i q2
        rw [if_neg q2]
        split at h
        · rename_i q3; rw [if_pos q3]; exact h
        · rename_i q3
          rw [if_neg q3]
          cases hb : tb_in x2 6
          · rw [hb] at h; cases h
          · rw [hb] at h
            exact ih m _ _ _ M r h (by omega)
def isAB (s k : Nat) : Bool := decide (k = 0) || decide (k = s) || (decide (k = 1) && decide (s < 4)) || (decide (k = 4) && decide (s = 5))
theorem isA_tab : ∀ s, s < 6 → ∀ k, k < 6 → 1 ≤ s → (isA8 s k).map (fun q => q.1) = some (if isAB s k = true then 1 else 0) := by decide +kernel
theorem isA_ok {s k : Nat} (hs : 1 ≤ s) (hs2 : s < 6) (hk : k < 6) (M : tb_Mem) : fX6_isA (nI s) (nI k) M = some ((if isAB s k = true then 1 else 0), M) := by
  have h1 := isA_tab s hs2 k hk hs
  have h2 := (isA_any 8 (nI k) (nI s) 0 (fun _ _ => 0) M).1
  unfold isA8 at h1
  rw [h1] at h2
  cases h3 : fX6_isA_L4 8 (nI k) (nI s) 0 M with
  | none => rw [h3] at h2; cases h2
  | some q =>
    obtain ⟨r, N⟩ := q
    rw [h3] at h2
    have e : (if isAB s k = true then 1 else 0) = r := by simpa using h2
    have e2 := (isA_any 8 (nI k) (nI s) 0 M M).2 r N h3
    unfold fX6_isA
    rw [isA_mono 8 tb_N _ _ _ M _ h3 (by unfold tb_N; omega), e, e2]
theorem s_as (x y : Int32) : Sim (fX6_as x y) (fX7_as x y) := by
  intro M h
  obtain ⟨⟨a, ⟨hg, hb, hm, ht⟩, -⟩, -⟩ := id h
  have hn := hg.1.1
  unfold fX6_as fX7_as
  rcases bar_both hg.1 hb hm x with ⟨c1, c2⟩ | ⟨i, hi, hx, c1, c2⟩
  · exact ⟨_, M, M, by rw [c1, tb_b2_some, if_pos rfl], by rw [c2, tb_b2_some, if_pos rfl], h⟩
  by_cases h1 : inV y 0 5 = 0
  · exact ⟨_, M, M, by rw [c1, tb_b2_some, if_neg (by decide), within_ok, tb_b2_some, if_pos h1], by rw [c2, tb_b2_some, if_neg (by decide), in_ok, tb_b2_some, if_pos h1], h⟩
  obtain ⟨k, -, hk, hy⟩ := inV_1 (l := 0) (h := 5) (by omega) (by omega) h1
  have b1 : M (4 + 1) i = nI (a 1 i) := (hb.2.1 i hi).1
  have ok := hg.1.2.1 i hi
  have o1 := ok.1
  have o2 := ok.2.1
  have m5 := (hm.2.1 i hi).2.2.2.2
  have hin : tb_in x 8 = true := by rw [hx]; exact tb_in_t (by omega) (by omega)
  have hcl : x.toNatClampNeg = i := by rw [hx]; exact nI_clamp (by omega)
  -- the reference, for a memory that has this row and whatever finding
  have ref : ∀ M' : tb_Mem, M' 303 = M 303 → fX7_isBar x M' = some (1, M') → (tb_b2 (fX7_isBar x M') (fun r3 M1 => if r3 = 0 then (some ((-1000001), M1)) else (tb_b2 (fX7_in y 0 5 M1) (fun r7 M5 => if r7 = 0 then (some ((-1000001), M5)) else (tb_ck (tb_in (55 + x) 63) (tb_let ((M5 303 (55 + x).toNatClampNeg) : Int32) (fun v10 => if y = 0 then (tb_b2 (fX7_ends ((if (1 : Int32) = 0 then (-1000013) else x) : Int32) M5) (fun r16 M14 => some (r16, M14))) else (if y = v10 then (tb_b2 (fX7_ends ((if (1 : Int32) = 0 then (-1000013) else x) : Int32) M5) (fun r21 M19 => some (r21, M19))) else (if y = 1 then (tb_let (((if v10 < 4 then 1 else (if y = 4 then (if v10 = 5 then 1 else 0) else 0)) : Int32) : Int32) (fun v34 => tb_b2 (fX7_ends ((if v34 = 0 then (-1000013) else x) : Int32) M5) (fun r39 M37 => some (r39, M37)))) else (tb_let (((if y = 4 then (if v10 = 5 then 1 else 0) else 0) : Int32) : Int32) (fun v25 => tb_b2 (fX7_ends ((if v25 = 0 then (-1000013) else x) : Int32) M5) (fun r30 M28 => some (r30, M28))))))))))))) = if isAB (a 1 i) k = true then some (x, tb_up M' 297 4 0) else some (-1000013, tb_up M' 297 4 3) := by
    intro M' h303 hbar
    rw [hbar, tb_b2_some, if_neg (by decide), in_ok, tb_b2_some, if_neg h1, hx, zl55, nI_add, tb_in_t (by omega) (by omega), tb_ck_t, nI_clamp (by omega), h303, m5, hy]
    dsimp only [tb_let]
    have yes : ∀ N : tb_Mem, (tb_b2 (fX7_ends (nI i) N) fun r M => some (r, M)) = some (nI i, tb_up N 297 4 0) := fun N => by rw [ends_0 (inV_nI (by omega)), tb_b2_some]
    have no : ∀ N : tb_Mem, (tb_b2 (fX7_ends (-1000013) N) fun r M => some (r, M)) = some (-1000013, tb_up N 297 4 3) := fun N => by rw [ends_f (k := 3) (by decide) (by decide), tb_b2_some]
    rw [if_neg (show ¬ (1 : Int32) = 0 by decide)]
    by_cases k0 : k = 0
    · rw [if_pos (by rw [k0]; rfl), yes, if_pos (by simp [isAB, k0])]
    · rw [if_neg (fun z => k0 ((nI_is0 (by omega)).mp z))]
      by_cases ks : k = a 1 i
      · rw [if_pos (by rw [ks]), yes, if_pos (by simp [isAB, ks])]
      · rw [if_neg (fun z => ks (nI_inj (by omega) (by omega) z))]
        by_cases k1 : k = 1
        · rw [if_pos (by rw [k1]; rfl)]
          by_cases s4 : a 1 i < 4
          · have q : nI (a 1 i) < 4 := by rw [zl4, nI_ltI (by omega) (by omega)]; exact s4
            rw [if_pos q, if_neg (by decide), yes, if_pos (by simp [isAB, k1, s4])]
          · have q : ¬ nI (a 1 i) < 4 := by rw [zl4, nI_ltI (by omega) (by omega)]; exact s4
            have q4 : ¬ nI k = 4 := by rw [k1]; decide
            rw [if_neg q, if_neg q4, if_pos rfl, no, if_neg (by simp [isAB, k1, s4]; omega)]
        · rw [if_neg (show ¬ nI k = 1 from fun z => k1 (nI_inj (by omega) (by omega) z))]
          by_cases k4 : k = 4
          · have q4 : nI k = 4 := by rw [k4]; rfl
            rw [if_pos q4]
            by_cases s5 : a 1 i = 5
            · have q : nI (a 1 i) = 5 := by rw [s5]; rfl
              rw [if_pos q, if_neg (by decide), yes, if_pos (by simp [isAB, k4, s5])]
            · have q : ¬ nI (a 1 i) = 5 := by rw [zl5, nI_eq (by omega) (by omega)]; exact s5
              rw [if_neg q, if_pos rfl, no, if_neg (by simp [isAB, k4, s5]; omega)]
          · have q4 : ¬ nI k = 4 := by rw [zl4, nI_eq (by omega) (by omega)]; exact k4
            rw [if_neg q4, if_pos rfl, no, if_neg (by simp [isAB, k0, ks, k1, k4])]
  have hbar : ∀ v : Int32, fX7_isBar x (tb_up M 0 9 v) = some (1, tb_up M 0 9 v) := fun v => by
    rcases bar_both (M' := tb_up M 0 9 v) hg.1 hb (by rw [tb_up_ne (by omega)]; exact hm) x with ⟨z1, z2⟩ | ⟨_, _, _, _, z2⟩
    · rw [c1] at z1; cases z1
    · exact z2
  by_cases ha : isAB (a 1 i) k = true
  · refine ⟨x, _, _, by rw [c1, tb_b2_some, if_neg (by decide), within_ok, tb_b2_some, if_neg h1, hin, tb_ck_t, hcl, b1, hy, isA_ok o1 (by omega) (by omega), tb_b2_some, if_pos ha, if_neg (by decide), fine_ok, tb_b2_some], ?_, stt_inv h 0⟩
    rw [ref _ (tb_up_ne (by omega)) (hbar 0), if_pos ha]
    rfl
  · refine ⟨-1000013, _, _, by rw [c1, tb_b2_some, if_neg (by decide), within_ok, tb_b2_some, if_neg h1, hin, tb_ck_t, hcl, b1, hy, isA_ok o1 (by omega) (by omega), tb_b2_some, if_neg ha, if_pos rfl, found3, tb_b2_some], ?_, stt_inv h 3⟩
    rw [ref _ (tb_up_ne (by omega)) (hbar 3), if_neg ha]
    rfl
theorem s_trace (x : Int32) : Sim (fX6_trace x) (fX7_trace x) := by
  intro M h
  obtain ⟨-, -, -, -, -, t, t1, t2, t3, t4⟩ := id h
  unfold fX6_trace fX7_trace
  by_cases h1 : inV x 0 (nI t - 1) = 0
  · exact ⟨_, M, M, by rw [t2, within_ok, tb_b2_some, if_pos h1], by rw [t3, in_ok, tb_b2_some, if_pos h1], h⟩
  by_cases t0 : t = 0
  · exfalso
    apply h1
    subst t0
    unfold inV
    by_cases hx : x < 0
    · rw [if_pos hx]
    · rw [if_neg hx, if_pos ?_]
      rw [Int32.lt_iff_toInt_lt] at hx ⊢
      have e1 : (nI 0 - 1 : Int32).toInt = -1 := by decide
      have e2 : (0 : Int32).toInt = 0 := rfl
      omega
  rw [zl1, pk_sub (by omega)] at h1
  obtain ⟨j, -, hj, hx⟩ := inV_1 (l := 0) (h := t - 1) (by omega) (by omega) h1
  refine ⟨_, M, M, by rw [t2, zl1, pk_sub (by omega), within_ok, tb_b2_some, if_neg h1, hx, tb_in_t (by omega) (by omega), tb_ck_t, nI_clamp (by omega)], ?_, h⟩
  rw [t3, zl1, pk_sub (by omega), in_ok, tb_b2_some, if_neg h1, hx, tb_in_t (by omega) (by omega), tb_ck_t, nI_clamp (by omega), t4 j (by omega)]
theorem cnt7_rows {M : tb_Mem} (h : ∀ r, r < 8 → IRow M r) : ∃ v, fX6_countRows M = some (v, M) ∧ fX7_count_L54 tb_N 0 0 M = some (v, M) := by
  have key : ∀ (n i : Nat) (v : Int32), i ≤ 8 → 8 - i < n → ∃ w, fX6_countRows_L4 n v (nI i) M = some (w, M) ∧ fX7_count_L54 n v (nI i) M = some (w, M) := by
    intro n
    induction n with
    | zero => intro i v h1 h2; omega
    | succ n ih =>
      intro i v h1 h2
      rw [fX6_countRows_L4, fX7_count_L54, zl8]
      by_cases hi : i < 8
      · have q : ¬ nI 8 ≤ nI i := by rw [nI_leI (by omega) (by omega)]; omega
        rw [if_neg q, if_neg q, tb_in_t hi (by omega), tb_ck_t, tb_ck_t, nI_clamp (by omega), nI_1]
        dsimp only [tb_let]
        rcases h i hi with ⟨g1, g2⟩ | ⟨g1, g2, g3, len, g4, g5, g6⟩
        · rw [g1, g2, if_neg (by decide), if_neg (by decide), show v + (0 : Int32) = v from by rw [Int32.add_zero]]
          exact ih (i + 1) v (by omega) (by omega)
        · rw [g1, g6, if_pos rfl, if_pos ((nI_ge0 (by omega)).mpr trivial)]
          exact ih (i + 1) (v + 1) (by omega) (by omega)
      · have : i = 8 := by omega
        subst this
        have q : nI 8 ≤ nI 8 := by decide
        rw [if_pos q, if_pos q]
        exact ⟨v, rfl, rfl⟩
  exact key tb_N 0 0 (by omega) (by unfold tb_N; omega)
theorem cnt7_cols {M : tb_Mem} {a : St} (hw : sWF a) (h : RM a (M 303)) : fX7_count_L125 tb_N 0 0 M = some (nI (fb_ct (fun j => decide (a 7 j ≠ 0)) 20), M) := by
  have key : ∀ (n i : Nat), i ≤ 20 → 20 - i < n → fX7_count_L125 n (nI (fb_ct (fun j => decide (a 7 j ≠ 0)) i)) (nI i) M = some (nI (fb_ct (fun j => decide (a 7 j ≠ 0)) 20), M) := by
    intro n
    induction n with
    | zero => intro i h1 h2; omega
    | succ n ih =>
      intro i h1 h2
      rw [fX7_count_L125, zl20]
      by_cases hi : i < 20
      · have hs := ih (i + 1) (by omega) (by omega)
        have l := hw.2.2.2.2 i hi
        rw [if_neg (by rw [nI_leI (by omega) (by omega)]; omega), zl26, nI_add, tb_in_t (by omega) (by omega), tb_ck_t, nI_clamp (by omega), h.2.2.2 i hi, nI_1]
        dsimp only [tb_let]
        rw [fb_ct_succ] at hs
        by_cases h0 : a 7 i = 0
        · rw [if_pos (by rw [h0]; rfl), show nI (fb_ct (fun j => decide (a 7 j ≠ 0)) i) + (0 : Int32) = nI (fb_ct (fun j => decide (a 7 j ≠ 0)) i) from by rw [Int32.add_zero]]
          rw [if_neg (by simp [h0]), Nat.add_zero] at hs
          exact hs
        · rw [if_neg (fun z => h0 ((nI_is0 (by omega)).mp z)), nI_1]
          rw [if_pos (by simp [h0])] at hs
          exact hs
      · have : i = 20 := by omega
        subst this
        rw [if_pos (by decide)]
  exact key tb_N 0 (by omega) (by unfold tb_N; omega)
theorem s_count (x : Int32) : Sim (fX6_count x) (fX7_count x) := by
  intro M h
  suffices hh : ∃ r, fX6_count x M = some (r, M) ∧ fX7_count x M = some (r, M) by
    obtain ⟨r, e1, e2⟩ := hh
    exact ⟨r, M, M, e1, e2, h⟩
  obtain ⟨⟨a, ⟨hg, hb, hm, ht⟩, K, nx, hist, k1, k2, k3, k4, k5, k6⟩, -, hrows, ⟨t, t1, t2, t3, t4⟩, -⟩ := id h
  have hn := hg.1.1
  unfold fX6_count fX7_count
  by_cases x0 : x = 0
  · obtain ⟨v, e1, e2⟩ := cnt7_rows hrows
    rw [if_pos x0, if_pos x0, e1, e2, tb_b2_some]
    exact ⟨v, rfl, rfl⟩
  rw [if_neg x0, if_neg x0]
  by_cases x1 : x = 1
  · rw [if_pos x1, if_pos x1, hm.1, show M 4 8 = nI (a 0 0) from hb.1]
    exact ⟨_, rfl, rfl⟩
  rw [if_neg x1, if_neg x1]
  by_cases x2 : x = 2
  · rw [if_pos x2, if_pos x2, ht]
    exact ⟨_, rfl, rfl⟩
  rw [if_neg x2, if_neg x2]
  by_cases x3 : x = 3
  · rw [if_pos x3, if_pos x3, hm.2.2.1, show M 4 11 = nI (a 6 0) from hb.2.2.2.2.1]
    exact ⟨_, rfl, rfl⟩
  rw [if_neg x3, if_neg x3]
  by_cases x4 : x = 4
  · obtain ⟨y, e1, e2⟩ := N_moving (M := M) (q := 303) hg.1 hm
    have h9 : Mk (M 4 9) (sMv a) (a 0 0) := hb.2.2.1
    rw [if_pos x4, if_pos x4, e1, tb_b2_some, h9.eq e2]
    exact ⟨_, rfl, rfl⟩
  rw [if_neg x4, if_neg x4]
  by_cases x5 : x = 5
  · obtain ⟨y, e1, e2⟩ := N_hanging (M := M) (q := 303) hg.1 hm
    have h10 : Mk (M 4 10) (sHn a) (a 0 0) := hb.2.2.2.1
    rw [if_pos x5, if_pos x5, e1, tb_b2_some, h10.eq e2]
    exact ⟨_, rfl, rfl⟩
  rw [if_neg x5, if_neg x5]
  by_cases x6 : x = 6
  · rw [if_pos x6, if_pos x6, M_cols hg.1 hb, tb_b2_some, cnt7_cols hg.1 hm]
    exact ⟨_, rfl, rfl⟩
  rw [if_neg x6, if_neg x6]
  by_cases x7 : x = 7
  · rw [if_pos x7, if_pos x7, k4, k5]
    exact ⟨_, rfl, rfl⟩
  rw [if_neg x7, if_neg x7]
  by_cases x8 : x = 8
  · rw [if_pos x8, if_pos x8, t2, t3]
    exact ⟨_, rfl, rfl⟩
  rw [if_neg x8, if_neg x8]
  exact ⟨_, rfl, rfl⟩

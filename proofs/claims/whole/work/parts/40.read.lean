/-! reading a text -/
def LT (t : Nat) (B : Nat → Int32) (p : Nat) : Int32 := if p < t then B p else -1
theorem byteAt_ok {M : tb_Mem} {t p : Nat} (ht : t ≤ 60) (h : M 2 1 = nI t) (hp : p ≤ 1000) : fX5_byteAt (nI p) M = some (LT t (M 3) p, M) := by
  unfold fX5_byteAt LT
  rw [within_ok, tb_b2_some, h]
  by_cases hpt : p < t
  · rw [zl1, pk_sub (by omega), if_neg (by unfold inV; rw [if_neg (by rw [nI_lt0 (by omega)]; exact id), if_neg (by rw [nI_ltI (by omega) (by omega)]; omega)]; decide), tb_in_t (by omega) (by omega), tb_ck_t, nI_clamp (by omega), if_pos hpt]
  · rw [if_neg hpt, if_pos ?_]
    unfold inV
    rw [if_neg (by rw [nI_lt0 (by omega)]; exact id), if_pos ?_]
    rw [Int32.lt_iff_toInt_lt, zl1, pk_sub_toInt (by omega) (by omega), nI_toInt (by omega)]
    omega
theorem letterAt_ok {M : tb_Mem} {t p : Nat} (ht : t ≤ 60) (h : M 297 6 = nI t) (hp : p ≤ 1000) : fX7_letterAt (nI p) M = some (LT t (M 302) p, M) := by
  unfold fX7_letterAt LT
  rw [h]
  by_cases hpt : p < t
  · rw [if_neg (by rw [nI_leI (by omega) (by omega)]; omega), tb_in_t (by omega) (by omega), tb_ck_t, nI_clamp (by omega), if_pos hpt]
  · rw [if_pos (by rw [nI_leI (by omega) (by omega)]; omega), if_neg hpt]
def dg (x : Int32) : Bool := !decide (inV x 48 57 = 0)
theorem dg_f {x : Int32} : inV x 48 57 = 0 ↔ dg x = false := by unfold dg; simp
theorem dg_lt {t p : Nat} {B : Nat → Int32} (h : dg (LT t B p) = true) : p < t := by
  by_cases hp : p < t
  · exact hp
  · unfold LT at h
    rw [if_neg hp] at h
    exact absurd h (by decide)
def nd (L : Nat → Int32) (p : Nat) : Nat := if dg (L p) = false then 0 else if dg (L (p + 1)) = false then 1 else if dg (L (p + 2)) = false then 2 else 3
def num (L : Nat → Int32) (p d : Nat) : Int32 := if d = 0 then 0 else if d = 1 then 10 * 0 + L p - 48 else if d = 2 then 10 * (10 * 0 + L p - 48) + L (p + 1) - 48 else 10 * (10 * (10 * 0 + L p - 48) + L (p + 1) - 48) + L (p + 2) - 48
theorem fig_loop {M : tb_Mem} {t p : Nat} (ht : t ≤ 60) (hp : p ≤ 100) (h1 : M 2 1 = nI t) (h2 : M 2 2 = nI p) : ∀ (c m i : Nat), i + c = 60 → c < m → ∃ k, i ≤ k ∧ k ≤ 60 ∧ fX5_figuresHere_L2 m (nI i) M = some (nI k, M) ∧ (∀ j, i ≤ j → j < k → dg (LT t (M 3) (p + j)) = true) ∧ (k = 60 ∨ dg (LT t (M 3) (p + k)) = false) := by
  intro c
  induction c with
  | zero =>
    intro m i a1 a2
    obtain ⟨m, rfl⟩ : ∃ k, m = k + 1 := ⟨m - 1, by omega⟩
    have : i = 60 := by omega
    subst this
    exact ⟨60, by omega, by omega, by rw [fX5_figuresHere_L2, if_pos (by decide)], fun j j1 j2 => by omega, Or.inl rfl⟩
  | succ c ih =>
    intro m i a1 a2
    obtain ⟨m, rfl⟩ : ∃ k, m = k + 1 := ⟨m - 1, by omega⟩
    rw [fX5_figuresHere_L2, if_neg (by rw [show (60 : Int32) = nI 60 from rfl, nI_leI (by omega) (by omega)]; omega), h2, nI_add, byteAt_ok ht h1 (by omega), tb_b2_some, within_ok, tb_b2_some, nI_1]
    by_cases hd : dg (LT t (M 3) (p + i)) = false
    · rw [if_pos (dg_f.mpr hd)]
      exact ⟨i, by omega, by omega, rfl, fun j j1 j2 => by omega, Or.inr hd⟩
    · rw [if_neg (fun z => hd (dg_f.mp z))]
      obtain ⟨k, k1, k2, k3, k4, k5⟩ := ih m (i + 1) (by omega) (by omega)
      refine ⟨k, by omega, k2, k3, fun j j1 j2 => ?_, k5⟩
      by_cases hj : j = i
      · rw [hj]; simpa using hd
      · exact k4 j (by omega) j2
theorem fig_ok {M : tb_Mem} {t p : Nat} (ht : t ≤ 60) (hp : p ≤ 100) (h1 : M 2 1 = nI t) (h2 : M 2 2 = nI p) : ∃ k, k ≤ 60 ∧ fX5_figuresHere M = some (nI k, M) ∧ ((nd (LT t (M 3)) p < 3 ∧ k = nd (LT t (M 3)) p) ∨ (nd (LT t (M 3)) p = 3 ∧ 3 ≤ k)) := by
  obtain ⟨k, -, k2, k3, k4, k5⟩ := fig_loop ht hp h1 h2 60 tb_N 0 (by omega) (by unfold tb_N; omega)
  refine ⟨k, k2, k3, ?_⟩
  have no : ∀ j, j < k → ¬ dg (LT t (M 3) (p + j)) = false := fun j hj z => by rw [k4 j (by omega) hj] at z; cases z
  unfold nd
  by_cases h0 : k = 0
  · have z : dg (LT t (M 3) p) = false := by rcases k5 with z | z
                                             · omega
                                             · rw [h0] at z; exact z
    rw [if_pos z]; left; omega
  · have q0 := no 0 (by omega)
    rw [Nat.add_zero] at q0
    rw [if_neg q0]
    by_cases h1' : k = 1
    · have z : dg (LT t (M 3) (p + 1)) = false := by rcases k5 with z | z
                                                     · omega
                                                     · rw [h1'] at z; exact z
      rw [if_pos z]; left; omega
    · rw [if_neg (no 1 (by omega))]
      by_cases h2' : k = 2
      · have z : dg (LT t (M 3) (p + 2)) = false := by rcases k5 with z | z
                                                       · omega
                                                       · rw [h2'] at z; exact z
        rw [if_pos z]; left; omega
      · rw [if_neg (no 2 (by omega))]; right; omega
theorem numH_ok {M : tb_Mem} {t p d : Nat} (ht : t ≤ 60) (hp : p ≤ 100) (h1 : M 2 1 = nI t) (h2 : M 2 2 = nI p) (hd : d = 1 ∨ d = 2) : fX5_numberHere (nI d) M = some (num (LT t (M 3)) p d, M) := by
  obtain ⟨m, hm⟩ : ∃ m, tb_N = m + 3 := ⟨4997, rfl⟩
  unfold fX5_numberHere
  rw [hm]
  rcases hd with rfl | rfl
  · rw [fX5_numberHere_L4, if_neg (by decide), h2, show nI p + 0 = nI p from by rw [Int32.add_zero], byteAt_ok ht h1 (by omega), tb_b2_some, fX5_numberHere_L4, if_pos (by decide), Int32.mul_comm]
    rfl
  · rw [fX5_numberHere_L4, if_neg (by decide), h2, show nI p + 0 = nI p from by rw [Int32.add_zero], byteAt_ok ht h1 (by omega), tb_b2_some, fX5_numberHere_L4, if_neg (by decide), h2, show (0 + 1 : Int32) = nI 1 from rfl, nI_add, byteAt_ok ht h1 (by omega), tb_b2_some, fX5_numberHere_L4, if_pos (by decide), Int32.mul_comm, Int32.mul_comm 0 10]
    rfl
theorem reads_ok {M : tb_Mem} {t p q : Nat} (ht : t ≤ 60) (hp : p ≤ 100) (h1 : M 297 6 = nI t) (h2 : M 297 17 = nI p) : fX7_reads (nI q) M = fX7_reads_J51 (nI q) (nI (nd (LT t (M 302)) p)) (num (LT t (M 302)) p (nd (LT t (M 302)) p)) M := by
  obtain ⟨m, hm⟩ : ∃ m, tb_N = m + 4 := ⟨4996, rfl⟩
  have dig : ∀ x : Int32, fX7_isDigit x M = some (inV x 48 57, M) := fun x => by unfold fX7_isDigit; rw [in_ok, tb_b2_some, inV_bl, tb_ck_t]
  have rd : ∀ j, dg (LT t (M 302) j) = true → tb_in (nI j) 60 = true ∧ M 302 (nI j).toNatClampNeg = LT t (M 302) j := fun j hj => by
    have := dg_lt hj
    refine ⟨tb_in_t (by omega) (by omega), ?_⟩
    rw [nI_clamp (by omega)]
    unfold LT
    rw [if_pos this]
  unfold fX7_reads nd num
  rw [hm]
  rw [fX7_reads_L4, h2, show nI p + 0 = nI p from by rw [Int32.add_zero], letterAt_ok ht h1 (by omega), tb_b2_some, dig, tb_b2_some]
  by_cases d0 : dg (LT t (M 302) p) = false
  · rw [if_pos (dg_f.mpr d0), if_pos d0]; rfl
  have d0' : dg (LT t (M 302) p) = true := by simpa using d0
  obtain ⟨r1, r2⟩ := rd p d0'
  rw [if_neg (fun z => d0 (dg_f.mp z)), if_neg (by decide), if_neg d0, h2, show nI p + 0 = nI p from by rw [Int32.add_zero], r1, tb_ck_t, r2, tb_let_eq]
  rw [fX7_reads_L4, h2, show (0 + 1 : Int32) = nI 1 from rfl, nI_add, letterAt_ok ht h1 (by omega), tb_b2_some, dig, tb_b2_some]
  by_cases d1 : dg (LT t (M 302) (p + 1)) = false
  · rw [if_pos (dg_f.mpr d1), if_pos d1]; rfl
  have d1' : dg (LT t (M 302) (p + 1)) = true := by simpa using d1
  obtain ⟨r1, r2⟩ := rd (p + 1) d1'
  rw [if_neg (fun z => d1 (dg_f.mp z)), if_neg (by decide), if_neg d1, h2, nI_add, r1, tb_ck_t, r2, tb_let_eq]
  rw [fX7_reads_L4, h2, show (nI 1 + 1 : Int32) = nI 2 from by decide, nI_add, letterAt_ok ht h1 (by omega), tb_b2_some, dig, tb_b2_some]
  by_cases d2 : dg (LT t (M 302) (p + 2)) = false
  · rw [if_pos (dg_f.mpr d2), if_pos d2]; rfl
  have d2' : dg (LT t (M 302) (p + 2)) = true := by simpa using d2
  obtain ⟨r1, r2⟩ := rd (p + 2) d2'
  rw [if_neg (fun z => d2 (dg_f.mp z)), if_neg (by decide), if_neg d2, h2, nI_add, r1, tb_ck_t, r2, tb_let_eq]
  rw [fX7_reads_L4, h2, show (nI 2 + 1 : Int32) = nI 3 from by decide, nI_add, letterAt_ok ht h1 (by omega), tb_b2_some, dig, tb_b2_some]
  have e3 : (3 : Int32) ≤ nI 3 := by decide
  by_cases d3 : inV (LT t (M 302) (p + 3)) 48 57 = 0
  · rw [if_pos d3]; rfl
  · rw [if_neg d3, if_pos e3]; rfl
def kN (x : Int32) : Nat := if x = 112 then 1 else if x = 104 then 2 else if x = 115 then 3 else if x = 100 then 4 else if x = 98 then 5 else 0
theorem kN_le (x : Int32) : kN x ≤ 5 := by unfold kN; (repeat' split) <;> omega
theorem kindBy_ok (x : Int32) (M : tb_Mem) : fX7_kindBy x M = some (nI (kN x), M) := by
  unfold fX7_kindBy kN
  (repeat' split) <;> rfl
theorem sortOf_ok (x : Int32) (M : tb_Mem) : fX5_sortOf x M = some (nI (kN x), M) := by
  unfold fX5_sortOf kN
  by_cases h1 : x = 98
  · subst h1; rfl
  by_cases h2 : x = 100
  · subst h2; rfl
  by_cases h3 : x = 104
  · subst h3; rfl
  by_cases h4 : x = 112
  · subst h4; rfl
  by_cases h5 : x = 115
  · subst h5; rfl
  rw [if_neg h1, if_neg h2, if_neg h3, if_neg h4, if_neg h5, if_neg h4, if_neg h3, if_neg h5, if_neg h2, if_neg h1]
  rfl
/-- one bar of a text: fault and place; else how many figures -/
def rF (L : Nat → Int32) (p n : Nat) : Int32 × Nat :=
  if kN (L p) = 0 then (1, p) else if n = 8 then (3, p) else if nd L (p + 1) = 0 ∨ nd L (p + 1) = 3 then (1, p + 1)
  else if inV (num L (p + 1) (nd L (p + 1))) 1 4 = 0 then (2, p + 1) else if L (p + 1 + nd L (p + 1)) = 59 then (0, p + 1 + nd L (p + 1) + 1) else (1, p + 1 + nd L (p + 1))
theorem nd_le (L : Nat → Int32) (p : Nat) : nd L p ≤ 3 := by unfold nd; (repeat' split) <;> omega
def ext (S : Nat → Nat) (n s : Nat) : Nat → Nat := fun j => if j = n then s else S j
def CP (n : Nat) (S R : Nat → Nat) (M : tb_Mem) : Prop := M 13 8 = nI n ∧ M 13 9 = 0 ∧ M 13 10 = 0 ∧ M 13 11 = 0 ∧ M 13 12 = 0 ∧ (∀ j, j < 20 → M 21 j = 0) ∧ ∀ i, i < n → M 14 i = nI (S i) ∧ M 15 i = nI (R i) ∧ M 16 i = nI (R i + if S i = 2 then 1 else 0) ∧ M 17 i = nI i ∧ M 18 i = nI i ∧ M 20 i = 0
def DP (n : Nat) (S R : Nat → Nat) (M : tb_Mem) : Prop := M 304 46 = nI n ∧ M 304 0 = 0 ∧ M 304 1 = 0 ∧ (∀ i, i < 8 → M 304 (10 + i) = 0) ∧ (∀ k, k < 20 → M 304 (26 + k) = 0) ∧ ∀ i, i < n → M 304 (2 + i) = -1 ∧ M 304 (18 + i) = nI i ∧ M 304 (47 + i) = nI (R i) ∧ M 304 (55 + i) = nI (S i)
def vSR (n : Nat) (S R : Nat → Nat) : Prop := ∀ i, i < n → 1 ≤ S i ∧ S i ≤ 5 ∧ 1 ≤ R i ∧ R i ≤ 4
theorem CP.fr {n : Nat} {S R : Nat → Nat} {M M' : tb_Mem} (h : CP n S R M) (hq : ∀ q, 13 ≤ q → q ≤ 21 → M' q = M q) : CP n S R M' := by
  unfold CP at *
  rw [hq 13 (by omega) (by omega), hq 14 (by omega) (by omega), hq 15 (by omega) (by omega), hq 16 (by omega) (by omega), hq 17 (by omega) (by omega), hq 18 (by omega) (by omega), hq 20 (by omega) (by omega), hq 21 (by omega) (by omega)]
  exact h
theorem add_ok {M : tb_Mem} {n s r : Nat} {S R : Nat → Nat} (h : CP n S R M) (hn : n < 8) (hs : s ≤ 5) (hr : r ≤ 4) : ∃ M', fX2_addBar 13 (nI s) (nI r) M = some M' ∧ CP (n + 1) (ext S n s) (ext R n r) M' ∧ ∀ q, ¬ (13 ≤ q ∧ q ≤ 21) → M' q = M q := by
  obtain ⟨h8, h9, h10, h11, h12, h21, hi⟩ := h
  have tp : (if nI s = 2 then nI r + 1 else nI r) = nI (r + (if s = 2 then 1 else 0)) := by
    by_cases h2 : s = 2
    · rw [if_pos (by rw [h2]; rfl), if_pos h2, nI_1]
    · have q : ¬ nI s = 2 := fun z => h2 (nI_inj (by omega) (by omega) (show nI s = nI 2 from z))
      rw [if_neg q, if_neg h2]; rfl
  have hin : tb_in (nI n) 8 = true := tb_in_t hn (by omega)
  refine ⟨tb_up (tb_up (tb_up (tb_up (tb_up (tb_up (tb_up (tb_up M 14 n (nI s)) 15 n (nI r)) 16 n (nI (r + (if s = 2 then 1 else 0)))) 17 n (nI n)) 18 n (nI n)) 19 n 0) 20 n 0) 13 8 (nI (n + 1)), ?_, ⟨?_, ?_, ?_, ?_, ?_, fun j hj => ?_, fun i hin => ?_⟩, fun q hq => ?_⟩
  · unfold fX2_addBar fX2_shape
    rw [h8, if_pos (by rw [zl8, nI_ltI (by omega) (by omega)]; exact hn), hin, tb_ck_t, tb_let_eq, tb_let_eq, tb_let_eq, nI_clamp (by omega), tp, tb_b1_some]
    simp (disch := omega) only [tb_up_ne, tb_let_eq]
    rw [h8, hin, nI_clamp (by omega), nI_1]
    rfl
  · rw [tb_up_same, upd_same]
  · rw [tb_up_same, upd_other _ _ _ (by omega)]; simp (disch := omega) only [tb_up_ne]; exact h9
  · rw [tb_up_same, upd_other _ _ _ (by omega)]; simp (disch := omega) only [tb_up_ne]; exact h10
  · rw [tb_up_same, upd_other _ _ _ (by omega)]; simp (disch := omega) only [tb_up_ne]; exact h11
  · rw [tb_up_same, upd_other _ _ _ (by omega)]; simp (disch := omega) only [tb_up_ne]; exact h12
  · simp (disch := omega) only [tb_up_ne]; exact h21 j hj
  · simp (disch := omega) only [tb_up_ne, tb_up_same]
    unfold ext
    by_cases e : i = n
    · subst e
      simp only [upd_same, if_true, and_self]
    · simp only [upd_other _ _ _ e, if_neg e]
      exact hi i (by omega)
  · simp (disch := omega) only [tb_up_ne]

/-! sums over sets -/
def sumN (f : Nat → Nat) : Nat → Nat
  | 0 => 0
  | k + 1 => sumN f k + f k
theorem sumN_add (f : Nat → Nat) (m : Nat) : ∀ k, sumN f (m + k) = sumN f m + sumN (fun i => f (m + i)) k
  | 0 => rfl
  | k + 1 => by
    show sumN f (m + k) + f (m + k) = _
    rw [sumN_add f m k]
    show _ = sumN f m + (sumN (fun i => f (m + i)) k + f (m + k))
    omega
theorem sumN_cg {f g : Nat → Nat} : ∀ {k : Nat}, (∀ i, i < k → f i = g i) → sumN f k = sumN g k
  | 0, _ => rfl
  | k + 1, h => by
    show sumN f k + f k = sumN g k + g k
    rw [sumN_cg (fun i hi => h i (by omega)), h k (by omega)]
theorem sumN_le {f g : Nat → Nat} : ∀ {k : Nat}, (∀ i, i < k → f i ≤ g i) → sumN f k ≤ sumN g k
  | 0, _ => Nat.le_refl _
  | k + 1, h => Nat.add_le_add (sumN_le (fun i hi => h i (by omega))) (h k (by omega))
theorem sumN_mul (f : Nat → Nat) (c : Nat) : ∀ k, sumN (fun i => f i * c) k = sumN f k * c
  | 0 => by simp [sumN]
  | k + 1 => by
    show sumN (fun i => f i * c) k + f k * c = (sumN f k + f k) * c
    rw [sumN_mul f c k, Nat.add_mul]
theorem sumN_z {f : Nat → Nat} (m : Nat) : ∀ k, (∀ i, m ≤ i → i < m + k → f i = 0) → sumN f (m + k) = sumN f m
  | 0, _ => rfl
  | k + 1, h => by
    show sumN f (m + k) + f (m + k) = _
    rw [h (m + k) (by omega) (by omega), sumN_z m k (fun i h1 h2 => h i h1 (by omega))]
    rfl
/-- the weight of a bar: fallen or not -/
def wt (mv : Nat → Bool) (c j : Nat) (b : Bool) : Nat := if mv j = true then (if b = true then c else 10 - c) else (if b = true then 0 else 1)
def tW (mv : Nat → Bool) (c S : Nat) : Nat → Nat
  | 0 => 1
  | k + 1 => tW mv c S k * wt mv c k (S.testBit k)
theorem tW_cg {mv : Nat → Bool} {c S S' : Nat} : ∀ {k : Nat}, (∀ j, j < k → S.testBit j = S'.testBit j) → tW mv c S k = tW mv c S' k
  | 0, _ => rfl
  | k + 1, h => by
    show tW mv c S k * _ = tW mv c S' k * _
    rw [tW_cg (fun j hj => h j (by omega)), h k (by omega)]
theorem tW_sum {mv : Nat → Bool} {c : Nat} (hc : c ≤ 10) : ∀ k, sumN (fun S => tW mv c S k) (2 ^ k) = 10 ^ fb_ct mv k
  | 0 => rfl
  | k + 1 => by
    have e2 : 2 ^ (k + 1) = 2 ^ k + 2 ^ k := by rw [Nat.pow_succ]; omega
    rw [e2, sumN_add]
    have ih := tW_sum (mv := mv) hc k
    have a1 : sumN (fun S => tW mv c S (k + 1)) (2 ^ k) = sumN (fun S => tW mv c S k) (2 ^ k) * wt mv c k false := by
      rw [← sumN_mul]
      refine sumN_cg (fun S hS => ?_)
      show tW mv c S k * wt mv c k (S.testBit k) = _
      rw [Nat.testBit_lt_two_pow hS]
    have a2 : sumN (fun S => tW mv c (2 ^ k + S) (k + 1)) (2 ^ k) = sumN (fun S => tW mv c S k) (2 ^ k) * wt mv c k true := by
      rw [← sumN_mul]
      refine sumN_cg (fun S hS => ?_)
      show tW mv c (2 ^ k + S) k * wt mv c k ((2 ^ k + S).testBit k) = _
      rw [Nat.testBit_two_pow_add_eq, Nat.testBit_lt_two_pow hS, tW_cg (fun j hj => Nat.testBit_two_pow_add_gt hj S)]
      rfl
    rw [a1, a2, ih, ← Nat.mul_add, fb_ct_succ]
    unfold wt
    cases mv k with
    | true =>
      simp only [if_true, Bool.false_eq_true, if_false]
      rw [Nat.pow_succ]
      congr 1
      omega
    | false => simp
theorem tW_pw {mv : Nat → Bool} {c S : Nat} {f g : Nat → Bool} : ∀ {k : Nat}, (∀ j, j < k → f j = S.testBit j) → (∀ j, j < k → g j = (!f j && mv j)) → (∀ j, j < k → f j = true → mv j = true) → c ^ fb_ct f k * (10 - c) ^ fb_ct g k = tW mv c S k
  | 0, _, _, _ => rfl
  | k + 1, hf, hg, hs => by
    have ih := tW_pw (c := c) (S := S) (mv := mv) (f := f) (g := g) (k := k) (fun j hj => hf j (by omega)) (fun j hj => hg j (by omega)) (fun j hj => hs j (by omega))
    rw [fb_ct_succ, fb_ct_succ]
    show _ = tW mv c S k * wt mv c k (S.testBit k)
    rw [← ih, ← hf k (by omega), hg k (by omega)]
    unfold wt
    have := hs k (by omega)
    cases h1 : f k <;> cases h2 : mv k
    · simp
    · simp only [Bool.not_false, Bool.and_self, if_true, Bool.false_eq_true, if_false, Nat.add_zero, Nat.pow_succ]
      rw [Nat.mul_assoc]
    · rw [h1, h2] at this; cases this rfl
    · simp only [Bool.not_true, Bool.false_and, if_true, Bool.false_eq_true, if_false, Nat.add_zero, Nat.pow_succ]
      rw [Nat.mul_right_comm]
/-- the reference's product -/
theorem tW_sub {mv : Nat → Bool} {c S k : Nat} (h : S.testBit k = true → mv k = true) : wt mv c k (S.testBit k) = if mv k = true then (if S.testBit k = true then c else 10 - c) else 1 := by
  unfold wt
  cases h1 : S.testBit k <;> cases h2 : mv k
  · simp
  · simp
  · rw [h1, h2] at h; cases h rfl
  · simp
/-! the divisor -/
theorem gcd_step {a b : Nat} (h : 0 < b) : Nat.gcd a b = Nat.gcd b (a % b) := by
  rw [Nat.gcd_comm a b, Nat.gcd_rec b a, Nat.gcd_comm (a % b) b]
theorem two_steps {b r : Nat} (h : 0 < r) (hr : r < b) : 2 * (b % r) < b := by
  have h1 := Nat.mod_lt b h
  have h2 := Nat.div_add_mod b r
  have h3 : 1 ≤ b / r := (Nat.one_le_div_iff h).mpr (by omega)
  have h4 : r * 1 ≤ r * (b / r) := Nat.mul_le_mul_left r h3
  omega
theorem cd_loop : ∀ (k a b n s : Nat) (M : tb_Mem), b < 2 ^ k → a < 2 ^ 62 → b < 2 ^ 62 → 2 * k + 1 < n → s + 2 * k + 1 ≤ 128 → fX6_commonDivisor_L9 n (lN a) (lN b) (nI s) M = some (lN (Nat.gcd a b), M) := by
  have z : ∀ (a n s : Nat) (M : tb_Mem), s < 128 → fX6_commonDivisor_L9 (n + 1) (lN a) (lN 0) (nI s) M = some (lN (Nat.gcd a 0), M) := by
    intro a n s M hs
    rw [fX6_commonDivisor_L9, if_neg (by rw [show (128 : Int32) = nI 128 from rfl, nI_leI (by omega) (by omega)]; omega), if_pos (by rw [lg_cmp_eq]; rfl), Nat.gcd_zero_right]
  have st : ∀ (a b n s : Nat) (M : tb_Mem), 0 < b → a < 2 ^ 62 → b < 2 ^ 62 → s < 128 → fX6_commonDivisor_L9 (n + 1) (lN a) (lN b) (nI s) M = fX6_commonDivisor_L9 n (lN b) (lN (a % b)) (nI (s + 1)) M := by
    intro a b n s M h0 ha hb hs
    have nz : ¬ lN b = 0 := fun z => by
      have z : lN b = lN 0 := z
      rw [pk_lEQ (by omega) (by omega)] at z
      omega
    rw [fX6_commonDivisor_L9, if_neg (by rw [show (128 : Int32) = nI 128 from rfl, nI_leI (by omega) (by omega)]; omega), if_neg (by rw [lg_cmp_eq]; exact nz), show (lN b != 0) = true from by simpa using nz, tb_ck_t, pk_lRem (by omega) h0 (by omega), nI_1]
  intro k
  induction k with
  | zero =>
    intro a b n s M h1 h2 h3 h4 h5
    obtain ⟨n, rfl⟩ : ∃ j, n = j + 1 := ⟨n - 1, by omega⟩
    have : b = 0 := by simpa using h1
    subst this
    exact z a n s M (by omega)
  | succ k ih =>
    intro a b n s M h1 h2 h3 h4 h5
    obtain ⟨n, rfl⟩ : ∃ j, n = j + 2 := ⟨n - 2, by omega⟩
    by_cases hb : b = 0
    · subst hb; exact z a (n + 1) s M (by omega)
    · have hb : 0 < b := by omega
      rw [show n + 2 = (n + 1) + 1 from rfl, st a b (n + 1) s M hb h2 h3 (by omega), gcd_step hb]
      have hlt := Nat.mod_lt a hb
      by_cases hr : a % b = 0
      · rw [hr]; exact z b n (s + 1) M (by omega)
      · have hr : 0 < a % b := by omega
        rw [st b (a % b) n (s + 1) M hr h3 (by omega) (by omega), gcd_step hr]
        have h6 := two_steps hr hlt
        have h7 := Nat.mod_lt b hr
        refine ih _ _ n (s + 1 + 1) M ?_ (by omega) (by omega) (by omega) (by omega)
        rw [Nat.pow_succ] at h1
        omega
theorem md_loop (x3 x5 x6 : Int32) : ∀ (k a b n : Nat) (M : tb_Mem), b < 2 ^ k → a < 2 ^ 31 → b < 2 ^ 31 → 2 * k + 1 < n → 0 < Nat.gcd a b → fX7_chance_L288 n x3 x5 x6 (nI a) (nI b) M = some ((if x3 = 0 then x5 / nI (Nat.gcd a b) else x6 / nI (Nat.gcd a b)), M) := by
  have z : ∀ (a n : Nat) (M : tb_Mem), 0 < a → a < 2 ^ 31 → fX7_chance_L288 (n + 1) x3 x5 x6 (nI a) (nI 0) M = some ((if x3 = 0 then x5 / nI (Nat.gcd a 0) else x6 / nI (Nat.gcd a 0)), M) := by
    intro a n M h0 ha
    have nz : ¬ nI a = 0 := fun z => by rw [nI_is0 ha] at z; omega
    have e : (nI a != 0) = true := by simpa using nz
    rw [fX7_chance_L288, if_pos (by decide), Nat.gcd_zero_right, e, tb_ck_t, tb_ck_t]
    by_cases h3 : x3 = 0
    · rw [if_pos h3, if_pos h3]
    · rw [if_neg h3, if_neg h3]
  have st : ∀ (a b n : Nat) (M : tb_Mem), 0 < b → a < 2 ^ 31 → b < 2 ^ 31 → fX7_chance_L288 (n + 1) x3 x5 x6 (nI a) (nI b) M = fX7_chance_L288 n x3 x5 x6 (nI b) (nI (a % b)) M := by
    intro a b n M h0 ha hb
    have nz : ¬ nI b = 0 := fun z => by rw [nI_is0 hb] at z; omega
    rw [fX7_chance_L288, if_neg (by rw [nI_le0 hb]; omega), show (nI b != 0) = true from by simpa using nz, tb_ck_t, pk_rem ha h0 hb]
  intro k
  induction k with
  | zero =>
    intro a b n M h1 h2 h3 h4 h5
    obtain ⟨n, rfl⟩ : ∃ j, n = j + 1 := ⟨n - 1, by omega⟩
    have : b = 0 := by simpa using h1
    subst this
    rw [Nat.gcd_zero_right] at h5
    exact z a n M h5 h2
  | succ k ih =>
    intro a b n M h1 h2 h3 h4 h5
    obtain ⟨n, rfl⟩ : ∃ j, n = j + 2 := ⟨n - 2, by omega⟩
    by_cases hb : b = 0
    · subst hb
      rw [Nat.gcd_zero_right] at h5
      exact z a (n + 1) M h5 h2
    · have hb : 0 < b := by omega
      rw [gcd_step hb] at h5 ⊢
      rw [show n + 2 = (n + 1) + 1 from rfl, st a b (n + 1) M hb h2 h3]
      have hlt := Nat.mod_lt a hb
      by_cases hr : a % b = 0
      · rw [hr] at h5 ⊢
        exact z b n M hb h3
      · have hr : 0 < a % b := by omega
        rw [gcd_step hr] at h5 ⊢
        rw [st b (a % b) n M hr h3 (by omega)]
        have h6 := two_steps hr hlt
        have h7 := Nat.mod_lt b hr
        refine ih _ _ n M ?_ (by omega) (by omega) (by omega) h5
        rw [Nat.pow_succ] at h1
        omega
theorem pw_loop {c k : Nat} (hc : c ≤ 10) (hk : k ≤ 100) (M : tb_Mem) : ∀ (n m i : Nat), i + n = k → n < m → fX6_power_L5 m (nI c) (nI k) (lN (c ^ i)) (nI i) M = some (lN (c ^ k), M) := by
  intro n
  induction n with
  | zero =>
    intro m i h1 h2
    obtain ⟨m, rfl⟩ : ∃ j, m = j + 1 := ⟨m - 1, by omega⟩
    have : i = k := by omega
    subst this
    rw [fX6_power_L5, if_pos (by rw [nI_leI (by omega) (by omega)]; omega)]
  | succ n ih =>
    intro m i h1 h2
    obtain ⟨m, rfl⟩ : ∃ j, m = j + 1 := ⟨m - 1, by omega⟩
    rw [fX6_power_L5, if_neg (by rw [nI_leI (by omega) (by omega)]; omega), tb_let_eq, nI_l (by omega), lN_mul, ← Nat.pow_succ, nI_1]
    exact ih m (i + 1) (by omega) (by omega)
theorem power_ok {c k : Nat} (hc : c ≤ 10) (hk : k ≤ 100) (M : tb_Mem) : fX6_power (nI c) (nI k) M = some (lN (c ^ k), M) := by
  have := pw_loop hc hk M k tb_N 0 (by omega) (by unfold tb_N; omega)
  exact this
/-! sets as numbers -/
theorem bt_nI (k i : Nat) (hi : i < 32) : bt (nI k) i = k.testBit i := by
  unfold bt
  show (BitVec.ofNat 32 k).getLsbD i = _
  rw [BitVec.getLsbD_ofNat]
  simp [hi]
theorem Mk.nI (k : Nat) (hk : k < 256) : Mk (nI k) (fun i => k.testBit i) 8 := fun i hi => by
  rw [bt_nI k i hi]
  by_cases h8 : i < 8
  · simp [h8]
  · simp only [h8, decide_false, Bool.false_and]
    exact Nat.testBit_lt_two_pow (Nat.lt_of_lt_of_le hk (Nat.pow_le_pow_right (n := 2) (by omega) (show 8 ≤ i by omega)))
theorem Mk.to8 {x : Int32} {f : Nat → Bool} {n : Nat} (h : Mk x f n) (hn : n ≤ 8) : Mk x (fun i => decide (i < n) && f i) 8 := fun i hi => by
  rw [h i hi]
  by_cases h8 : i < 8
  · simp [h8]
  · simp [h8, show ¬ i < n by omega]
theorem has_ok (x : Int32) {k : Nat} (hk : k < 32) (M : tb_Mem) : fX7_has x (nI k) M = some ((if bt x k = true then 1 else 0), M) := by
  unfold fX7_has
  rw [b_has hk]
  cases bt x k <;> rfl

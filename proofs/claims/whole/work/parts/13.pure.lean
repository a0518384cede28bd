/-! pure part: bits -/
def bt (x : Int32) (i : Nat) : Bool := x.toBitVec.getLsbD i
theorem b_ext {x y : Int32} (h : ∀ i, i < 32 → bt x i = bt y i) : x = y := Int32.toBitVec_inj.mp (BitVec.eq_of_getLsbD_eq (fun i hi => h i hi))
theorem b_or (x y : Int32) (i : Nat) : bt (x ||| y) i = (bt x i || bt y i) := by unfold bt; rw [Int32.toBitVec_or, BitVec.getLsbD_or]
theorem b_and (x y : Int32) (i : Nat) : bt (x &&& y) i = (bt x i && bt y i) := by unfold bt; rw [Int32.toBitVec_and, BitVec.getLsbD_and]
theorem b_xor (x y : Int32) (i : Nat) : bt (x ^^^ y) i = (bt x i ^^ bt y i) := by unfold bt; rw [Int32.toBitVec_xor, BitVec.getLsbD_xor]
theorem b_m1 : ∀ i, i < 32 → bt (-1) i = true := by decide +kernel
theorem b_0 (i : Nat) : bt 0 i = false := BitVec.getLsbD_zero
theorem b_one : ∀ k, k < 32 → ∀ i, i < 32 → bt (1 <<< (nI k &&& 31)) i = decide (i = k) := by decide +kernel
theorem b_test {x : Int32} {k : Nat} (hk : k < 32) : (x &&& (1 <<< (nI k &&& 31))) = 0 ↔ bt x k = false := by
  constructor
  · intro h
    have h1 := congrArg (fun z => bt z k) h
    simp only [b_and, b_one k hk k hk, b_0] at h1
    simpa using h1
  · intro h
    apply b_ext
    intro i hi
    rw [b_and, b_one k hk i hi, b_0]
    by_cases hik : i = k
    · subst hik; simp [h]
    · simp [hik]
/-- the bits of x are those i below n with f i -/
def Mk (x : Int32) (f : Nat → Bool) (n : Nat) : Prop := ∀ i, i < 32 → bt x i = (decide (i < n) && f i)
theorem Mk.eq {x y : Int32} {f : Nat → Bool} {n : Nat} (hx : Mk x f n) (hy : Mk y f n) : x = y := b_ext (fun i hi => by rw [hx i hi, hy i hi])
theorem Mk.congr {x : Int32} {f g : Nat → Bool} {n : Nat} (hx : Mk x f n) (h : ∀ i, i < n → f i = g i) : Mk x g n := fun i hi => by
  rw [hx i hi]
  by_cases hn : i < n
  · rw [h i hn]
  · simp [hn]
theorem Mk.zero {f : Nat → Bool} {n : Nat} (h : ∀ i, i < n → f i = false) : Mk 0 f n := fun i hi => by
  rw [b_0]
  by_cases hn : i < n
  · simp [h i hn]
  · simp [hn]
theorem Mk.or {x y : Int32} {f g : Nat → Bool} {n : Nat} (hx : Mk x f n) (hy : Mk y g n) : Mk (x ||| y) (fun i => f i || g i) n := fun i hi => by
  rw [b_or, hx i hi, hy i hi]
  dsimp only
  cases decide (i < n) <;> rfl
theorem Mk.andn {x y : Int32} {f g : Nat → Bool} {n : Nat} (hx : Mk x f n) (hy : Mk y g n) : Mk (x &&& (y ^^^ (-1))) (fun i => f i && !g i) n := fun i hi => by
  rw [b_and, b_xor, b_m1 i hi, hx i hi, hy i hi]
  dsimp only
  cases decide (i < n) <;> cases f i <;> cases g i <;> rfl
theorem Mk.and {x y : Int32} {f g : Nat → Bool} {n : Nat} (hx : Mk x f n) (hy : Mk y g n) : Mk (x &&& y) (fun i => f i && g i) n := fun i hi => by
  rw [b_and, hx i hi, hy i hi]
  dsimp only
  cases decide (i < n) <;> cases f i <;> cases g i <;> rfl
theorem Mk.one {n k : Nat} (hk : k < n) (hn : n ≤ 32) : Mk (1 <<< (nI k &&& 31)) (fun i => decide (i = k)) n := fun i hi => by
  rw [b_one k (by omega) i hi]
  by_cases hik : i = k
  · subst hik; simp [hk]
  · simp [hik]
theorem Mk.test {x : Int32} {f : Nat → Bool} {n k : Nat} (hx : Mk x f n) (hk : k < n) (hn : n ≤ 32) : (x &&& (1 <<< (nI k &&& 31))) = 0 ↔ f k = false := by
  rw [b_test (by omega), hx k (by omega)]
  simp [hk]
theorem Mk.test0 {x : Int32} {f : Nat → Bool} {n k : Nat} (hx : Mk x f n) (hk : n ≤ k) (hn : k < 32) : (x &&& (1 <<< (nI k &&& 31))) = 0 := by
  rw [b_test hn, hx k hn]
  simp [Nat.not_lt.mpr hk]
theorem Mk.eq0 {x : Int32} {f : Nat → Bool} {n : Nat} (hx : Mk x f n) (hn : n ≤ 32) : x = 0 ↔ ∀ i, i < n → f i = false := by
  constructor
  · intro h i hi
    have h1 := hx i (by omega)
    rw [h, b_0] at h1
    simpa [hi] using h1.symm
  · intro h
    exact hx.eq (Mk.zero h)
theorem Mk.grow {x : Int32} {f : Nat → Bool} {n : Nat} {b : Bool} (hx : Mk x f n) (hn : n < 32) : Mk (x ||| (if b = true then (1 <<< (nI n &&& 31)) else 0)) (fun i => if i = n then b else f i) (n + 1) := fun i hi => by
  rw [b_or, hx i hi]
  by_cases hb : b = true
  · rw [if_pos hb, b_one n hn i hi]
    by_cases hin : i = n
    · subst hin; simp [hb]
    · have : decide (i < n + 1) = decide (i < n) := by
        by_cases h : i < n
        · simp [h, Nat.lt_succ_of_lt h]
        · simp [h]; omega
      simp [hin, this]
  · rw [if_neg hb, b_0]
    by_cases hin : i = n
    · subst hin; simp [hb]
    · have : decide (i < n + 1) = decide (i < n) := by
        by_cases h : i < n
        · simp [h, Nat.lt_succ_of_lt h]
        · simp [h]; omega
      simp [hin, this]
/-! numbers -/
theorem tb_in_nI {i n : Nat} (hi : i < 2 ^ 31) : tb_in (nI i) n = decide (i < n) := by
  unfold tb_in
  rw [nI_toInt hi]
  by_cases h : i < n
  · rw [decide_eq_true (show (0 : Int) ≤ (i : Int) by omega), decide_eq_true (show (i : Int) < (n : Int) by omega), decide_eq_true h]; rfl
  · rw [decide_eq_true (show (0 : Int) ≤ (i : Int) by omega), decide_eq_false (show ¬ (i : Int) < (n : Int) by omega), decide_eq_false h]; rfl
theorem tb_in_t {i n : Nat} (h : i < n) (hn : i < 2 ^ 31) : tb_in (nI i) n = true := by rw [tb_in_nI hn]; simp [h]
theorem nI_lit (n : Nat) : (OfNat.ofNat n : Int32) = nI n := rfl
theorem zl0 : (0 : Int32) = nI 0 := rfl
theorem zl1 : (1 : Int32) = nI 1 := rfl
theorem zl2 : (2 : Int32) = nI 2 := rfl
theorem zl3 : (3 : Int32) = nI 3 := rfl
theorem zl4 : (4 : Int32) = nI 4 := rfl
theorem zl5 : (5 : Int32) = nI 5 := rfl
theorem zl8 : (8 : Int32) = nI 8 := rfl
theorem zl10 : (10 : Int32) = nI 10 := rfl
theorem zl18 : (18 : Int32) = nI 18 := rfl
theorem zl20 : (20 : Int32) = nI 20 := rfl
theorem zl26 : (26 : Int32) = nI 26 := rfl
theorem zl46 : (46 : Int32) = nI 46 := rfl
theorem zl47 : (47 : Int32) = nI 47 := rfl
theorem zl55 : (55 : Int32) = nI 55 := rfl
theorem nI_inj {a b : Nat} (ha : a < 2 ^ 31) (hb : b < 2 ^ 31) (h : nI a = nI b) : a = b := (nI_eq ha hb).mp h
theorem nI_is0 {a : Nat} (ha : a < 2 ^ 31) : nI a = 0 ↔ a = 0 := by rw [zl0, nI_eq ha (by omega)]
theorem nI_gt0 {a : Nat} (ha : a < 2 ^ 31) : 0 < nI a ↔ 0 < a := by rw [zl0, nI_ltI (by omega) ha]
theorem nI_le0 {a : Nat} (ha : a < 2 ^ 31) : nI a ≤ 0 ↔ a = 0 := by rw [zl0, nI_leI ha (by omega)]; omega
theorem nI_ge0 {a : Nat} (ha : a < 2 ^ 31) : 0 ≤ nI a ↔ True := by rw [zl0, nI_leI (by omega) ha]; simp
theorem nI_lt0 {a : Nat} (ha : a < 2 ^ 31) : nI a < 0 ↔ False := by simp [nI_pos ha]
theorem nI_m1 {a : Nat} (ha : a < 2 ^ 31) : nI a ≠ (-1) := by
  intro h
  have h1 := congrArg Int32.toInt h
  rw [nI_toInt ha] at h1
  have h2 : (-1 : Int32).toInt = -1 := by decide
  rw [h2] at h1
  omega
/-! memories -/
theorem tb_ck_t {α : Type} (x : Option α) : tb_ck true x = x := rfl
theorem tb_b1_some {α β : Type} (a : α) (k : α → Option β) : tb_b1 (some a) k = k a := rfl
theorem tb_b2_some {α β γ : Type} (a : α) (b : β) (k : α → β → Option γ) : tb_b2 (some (a, b)) k = k a b := rfl
theorem tb_row_same (M : tb_Mem) (p : Nat) (f : Nat → Int32) : tb_row M p f p = f := by simp [tb_row]
theorem tb_row_ne {M : tb_Mem} {p q : Nat} {f : Nat → Int32} (h : q ≠ p) : tb_row M p f q = M q := by simp [tb_row, h]
theorem tb_row_self (M : tb_Mem) (p : Nat) : tb_row M p (M p) = M := by
  funext q
  by_cases h : q = p
  · subst h; simp [tb_row]
  · simp [tb_row, h]
theorem tb_row_row (M : tb_Mem) (p : Nat) (f g : Nat → Int32) : tb_row (tb_row M p f) p g = tb_row M p g := by
  funext q
  by_cases h : q = p <;> simp [tb_row, h]
theorem tb_up_row (M : tb_Mem) (p k : Nat) (f : Nat → Int32) (v : Int32) : tb_up (tb_row M p f) p k v = tb_row M p (upd f k v) := by
  rw [tb_up, tb_row_same, tb_row_row]
theorem tb_up_same (M : tb_Mem) (p k : Nat) (v : Int32) : tb_up M p k v p = upd (M p) k v := by simp [tb_up, tb_row]
theorem tb_up_ne {M : tb_Mem} {p q k : Nat} {v : Int32} (h : q ≠ p) : tb_up M p k v q = M q := by simp [tb_up, tb_row, h]
/-- the memory M with the nine rows from p on being F -/
def bm (M : tb_Mem) (p : Nat) (F : tb_Mem) : tb_Mem := fun q => if p ≤ q ∧ q < p + 9 then F (q - p) else M q
theorem bm_at (M : tb_Mem) (p : Nat) (F : tb_Mem) {k : Nat} (h : k < 9) : bm M p F (p + k) = F k := by
  unfold bm
  rw [if_pos ⟨by omega, by omega⟩]
  congr 1
  omega
theorem bm_0 (M : tb_Mem) (p : Nat) (F : tb_Mem) : bm M p F p = F 0 := bm_at M p F (k := 0) (by omega)
theorem bm_out {M : tb_Mem} {p q : Nat} {F : tb_Mem} (h : q < p ∨ p + 9 ≤ q) : bm M p F q = M q := by
  unfold bm
  rw [if_neg (by omega)]
theorem bm_row (M : tb_Mem) (p : Nat) (F : tb_Mem) (f : Nat → Int32) {k : Nat} (h : k < 9) : tb_row (bm M p F) (p + k) f = bm M p (tb_row F k f) := by
  funext q
  by_cases hq : q = p + k
  · subst hq
    rw [tb_row_same, bm_at _ _ _ h, tb_row_same]
  · rw [tb_row_ne hq]
    unfold bm
    by_cases hc : p ≤ q ∧ q < p + 9
    · rw [if_pos hc, if_pos hc, tb_row_ne (by omega)]
    · rw [if_neg hc, if_neg hc]
theorem bm_up (M : tb_Mem) (p : Nat) (F : tb_Mem) (i : Nat) (v : Int32) {k : Nat} (h : k < 9) : tb_up (bm M p F) (p + k) i v = bm M p (tb_up F k i v) := by
  rw [tb_up, bm_at _ _ _ h, bm_row _ _ _ _ h]
  rfl
theorem bm_up0 (M : tb_Mem) (p : Nat) (F : tb_Mem) (i : Nat) (v : Int32) : tb_up (bm M p F) p i v = bm M p (tb_up F 0 i v) := bm_up M p F i v (k := 0) (by omega)
theorem bm_self (M : tb_Mem) (p : Nat) : bm M p (fun k => M (p + k)) = M := by
  funext q
  unfold bm
  by_cases hc : p ≤ q ∧ q < p + 9
  · rw [if_pos hc]
    show M (p + (q - p)) = M q
    rw [show p + (q - p) = q by omega]
  · rw [if_neg hc]
theorem bm_bm (M : tb_Mem) (p : Nat) (F G : tb_Mem) : bm (bm M p F) p G = bm M p G := by
  funext q
  unfold bm
  by_cases hc : p ≤ q ∧ q < p + 9 <;> simp [hc]

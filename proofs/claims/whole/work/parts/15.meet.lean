/-! counts (rows of kit/laws/COUNTS.to-paste) -/
def fb_ct (p : Nat → Bool) : Nat → Nat
  | 0 => 0
  | n + 1 => fb_ct p n + (if p n then 1 else 0)
theorem fb_ct_succ (p : Nat → Bool) (n : Nat) : fb_ct p (n + 1) = fb_ct p n + (if p n then 1 else 0) := rfl
theorem fb_ct_cong {p q : Nat → Bool} : ∀ {n : Nat}, (∀ k, k < n → p k = q k) → fb_ct p n = fb_ct q n
  | 0, _ => rfl
  | n + 1, h => by
    rw [fb_ct_succ, fb_ct_succ, fb_ct_cong (fun k hk => h k (by omega)), h n (by omega)]
theorem fb_ct_out (p : Nat → Bool) (b : Bool) {i n : Nat} (h : n ≤ i) : fb_ct (fun k => if k = i then b else p k) n = fb_ct p n :=
  fb_ct_cong fun k hk => if_neg (by omega)
theorem fb_ct_upd (p : Nat → Bool) (b : Bool) {i : Nat} : ∀ {n : Nat}, i < n → fb_ct (fun k => if k = i then b else p k) n + (if p i then 1 else 0) = fb_ct p n + (if b then 1 else 0)
  | 0, h => absurd h (Nat.not_lt_zero i)
  | n + 1, h => by
    rw [fb_ct_succ, fb_ct_succ]
    rcases Nat.lt_or_ge i n with q | q
    · have := fb_ct_upd p b q
      have e : (if n = i then b else p n) = p n := if_neg (by omega)
      rw [e]
      omega
    · have e : i = n := by omega
      subst e
      rw [fb_ct_out p b (Nat.le_refl _)]
      simp only [if_true]
      omega
theorem fb_ct_zero {p : Nat → Bool} : ∀ {n : Nat}, fb_ct p n = 0 ↔ ∀ k, k < n → p k = false
  | 0 => ⟨fun _ k hk => absurd hk (Nat.not_lt_zero k), fun _ => rfl⟩
  | n + 1 => by
    have h := fb_ct_zero (p := p) (n := n)
    rw [fb_ct_succ]
    constructor
    · intro e k hk
      have e1 : fb_ct p n = 0 := by omega
      rcases Nat.lt_or_ge k n with q | q
      · exact h.mp e1 k q
      · have ek : k = n := by omega
        subst ek
        cases hp : p k
        · rfl
        · simp [hp] at e
    · intro a
      rw [h.mpr (fun k hk => a k (by omega)), a n (by omega)]
      rfl
theorem fb_ct_pos {p : Nat → Bool} {n : Nat} : 0 < fb_ct p n ↔ ∃ k, k < n ∧ p k = true := by
  constructor
  · intro h
    refine Classical.byContradiction fun hx => ?_
    have := fb_ct_zero.mpr (fun k hk => by
      cases hp : p k
      · rfl
      · exact absurd ⟨k, hk, hp⟩ hx : ∀ k, k < n → p k = false)
    omega
  · rintro ⟨k, hk, hp⟩
    rcases Nat.eq_zero_or_pos (fb_ct p n) with e | e
    · have := fb_ct_zero.mp e k hk
      rw [this] at hp
      cases hp
    · exact e
/-! bit counts -/
def pc8 (k : Nat) : Nat := fb_ct (fun i => k.testBit i) 8
theorem Mk.nat {x : Int32} {f : Nat → Bool} {n : Nat} (h : Mk x f n) (hn : n ≤ 8) : ∃ k, k < 256 ∧ x = nI k ∧ ∀ i, k.testBit i = (decide (i < n) && f i) := by
  have tb : ∀ i, x.toBitVec.toNat.testBit i = (decide (i < n) && f i) := by
    intro i
    by_cases hi : i < 32
    · exact h i hi
    · have : x.toBitVec.toNat.testBit i = false := Nat.testBit_lt_two_pow (Nat.lt_of_lt_of_le x.toBitVec.isLt (Nat.pow_le_pow_right (by omega) (by omega)))
      rw [this, decide_eq_false (by omega)]
      rfl
  refine ⟨x.toBitVec.toNat, ?_, ?_, tb⟩
  · apply Nat.lt_pow_two_of_testBit (n := 8)
    intro i hi
    rw [tb i, decide_eq_false (by omega)]
    rfl
  · apply Int32.toBitVec_inj.1
    show x.toBitVec = BitVec.ofNat 32 x.toBitVec.toNat
    simp
def bcV (a0 : Int32) : Int32 := match fJ6_bitCount_0f7a4 a0 (fun _ _ => 0) with
  | some (r, _) => r
  | none => 0
theorem bc_any (a0 : Int32) (M : tb_Mem) : fJ6_bitCount_0f7a4 a0 M = some (bcV a0, M) := rfl
theorem bc_val : ∀ k, k < 256 → bcV (nI k) = nI (pc8 k) := by decide +kernel
theorem Mk.pc {x : Int32} {f : Nat → Bool} {n : Nat} (h : Mk x f n) (hn : n ≤ 8) : bcV x = nI (fb_ct f n) := by
  obtain ⟨k, h1, h2, h3⟩ := h.nat hn
  rw [h2, bc_val k h1]
  congr 1
  unfold pc8
  have : ∀ m, n ≤ m → fb_ct (fun i => k.testBit i) m = fb_ct f n := by
    intro m
    induction m with
    | zero => intro hm; have : n = 0 := by omega
              subst this; rfl
    | succ m ih =>
      intro hm
      rcases Nat.lt_or_ge m n with q | q
      · have : n = m + 1 := by omega
        subst this
        exact fb_ct_cong (fun i hi => by rw [h3 i]; simp [hi])
      · rw [fb_ct_succ, ih q, h3 m, decide_eq_false (by omega)]
        simp
  exact this 8 hn
theorem fb_ct_le (p : Nat → Bool) : ∀ n, fb_ct p n ≤ n
  | 0 => Nat.le_refl _
  | n + 1 => by have h := fb_ct_le p n; rw [fb_ct_succ]; split <;> omega
/-- more than one, one being there -/
theorem fb_two {p : Nat → Bool} {n i : Nat} (hi : i < n) (hp : p i = true) : 1 < fb_ct p n ↔ ∃ j, j < n ∧ j ≠ i ∧ p j = true := by
  have h := fb_ct_upd p false hi
  rw [hp] at h
  rw [show (if (true : Bool) = true then 1 else 0) = 1 from rfl, show (if (false : Bool) = true then 1 else 0) = 0 from rfl] at h
  have e : (1 < fb_ct p n) ↔ 0 < fb_ct (fun k => if k = i then false else p k) n := by
    omega
  rw [e, fb_ct_pos]
  constructor
  · rintro ⟨k, h1, h2⟩
    by_cases hk : k = i
    · simp [hk] at h2
    · exact ⟨k, h1, hk, by simpa [hk] using h2⟩
  · rintro ⟨k, h1, h2, h3⟩
    exact ⟨k, h1, by simp [h2, h3]⟩
/-! what meets -/
def sMeet (a : St) (i j : Nat) : Prop := 0 < sHg a i ∧ 0 < sHg a j ∧ (a 4 i ≠ 0 ∨ a 4 j ≠ 0) ∧ ((sHg a i = sTop a i ∧ sHg a j = sTop a j) ∨ (sHg a i = sHg a j ∧ (a 3 i = a 3 j + 1 ∨ a 3 j = a 3 i + 1)))
theorem sMeet.symm {a : St} {i j : Nat} (h : sMeet a i j) : sMeet a j i := by
  obtain ⟨h1, h2, h3, h4⟩ := h
  refine ⟨h2, h1, h3.symm, ?_⟩
  rcases h4 with h4 | h4
  · exact Or.inl ⟨h4.2, h4.1⟩
  · exact Or.inr ⟨h4.1.symm, h4.2.symm⟩
noncomputable def sHang (a : St) : Nat → Bool := fun i => @decide (i < a 0 0 ∧ ∃ j, j < a 0 0 ∧ j ≠ i ∧ sMeet a i j) (Classical.propDecidable _)
theorem sHang_iff {a : St} {i : Nat} (hi : i < a 0 0) : sHang a i = true ↔ ∃ j, j < a 0 0 ∧ j ≠ i ∧ sMeet a i j := by
  unfold sHang
  rw [@decide_eq_true_iff _ (Classical.propDecidable _)]
  exact ⟨fun h => h.2, fun h => ⟨hi, h⟩⟩
theorem sHang_no {a : St} {i : Nat} (h : ∀ j, i < a 0 0 → j < a 0 0 → j ≠ i → ¬ sMeet a i j) : sHang a i = false := by
  unfold sHang
  rw [@decide_eq_false_iff_not _ (Classical.propDecidable _)]
  rintro ⟨h1, j, h2, h3, h4⟩
  exact h j h1 h2 h3 h4
def sTp (a : St) : Nat → Bool := fun i => decide (sHg a i = sTop a i)
/-- beside each other at places q - 1, q, and meet -/
def sAdj (a : St) (q : Nat) : Prop := 0 < sHg a (a 8 q) ∧ sHg a (a 8 q) = sHg a (a 8 (q - 1)) ∧ (a 4 (a 8 q) ≠ 0 ∨ a 4 (a 8 (q - 1)) ≠ 0)
section FM
variable {M : tb_Mem} {p : Nat} {F : tb_Mem} {a : St}
theorem X2_meet75 (hw : sWF a) (h : RB (a 0 0) a F) : ∀ (n q : Nat) (x : Int32) (f : Nat → Bool), 1 ≤ q → q ≤ a 0 0 → a 0 0 - q < n → Mk x f (a 0 0) →
    ∃ y g, fX2_meeting_L75 p n x (nI q) (bm M p F) = some (y, bm M p F) ∧ Mk y g (a 0 0) ∧ ∀ j, j < a 0 0 → (g j = true ↔ f j = true ∨ ∃ r, q ≤ r ∧ r < a 0 0 ∧ sAdj a r ∧ (j = a 8 r ∨ j = a 8 (r - 1))) := by
  intro n
  induction n with
  | zero => intro q x f h1 h2 h3; omega
  | succ n ih =>
    intro q x f h1 h2 h3 hx
    have hn := hw.1
    rw [fX2_meeting_L75, bm_0, h.1]
    by_cases hq : q < a 0 0
    · rw [if_neg (by rw [nI_leI (by omega) (by omega)]; omega)]
      have hp := hw.2.2.1 q hq
      have hp1 := hw.2.2.1 (q - 1) (by omega)
      have b5 := (h.2.1 q hq).2.2.2.2.1
      have b51 := (h.2.1 (q - 1) (by omega)).2.2.2.2.1
      have b7 := (h.2.1 (a 8 q) hp.2.1).2.2.2.2.2.2 (Or.inr hp.2.1)
      have b71 := (h.2.1 (a 8 (q - 1)) hp1.2.1).2.2.2.2.2.2 (Or.inr hp1.2.1)
      have l7 := sHg_le (hw.2.1 (a 8 q) hp.2.1)
      have l71 := sHg_le (hw.2.1 (a 8 (q - 1)) hp1.2.1)
      have eq1 : nI q - 1 = nI (q - 1) := by rw [zl1, pk_sub h1]
      have lt8 : a 8 q < 8 := by omega
      have lt81 : a 8 (q - 1) < 8 := by omega
      rw [eq1, tb_in_t (by omega) (by omega), tb_ck_t, tb_in_t (by omega) (by omega), tb_ck_t, nI_clamp (by omega), nI_clamp (by omega), bm_at _ _ _ (by omega), bm_at _ _ _ (by omega), b5, b51]
      dsimp only [tb_let]
      rw [tb_in_t lt8 (by omega), tb_ck_t, nI_clamp (by omega), b7, tb_in_t lt81 (by omega), tb_ck_t, nI_clamp (by omega), b71, nI_1]
      have hm2 : Mk ((1 <<< (nI (a 8 (q - 1)) &&& 31)) ||| (1 <<< (nI (a 8 q) &&& 31))) (fun i => decide (i = a 8 (q - 1)) || decide (i = a 8 q)) (a 0 0) := (Mk.one hp1.2.1 (by omega)).or (Mk.one hp.2.1 (by omega))
      have hmv := (hm2.and h.2.2.1).eq0 (by omega)
      have key : (((1 <<< (nI (a 8 (q - 1)) &&& 31)) ||| (1 <<< (nI (a 8 q) &&& 31))) &&& F 0 9 = 0) ↔ ¬ (a 4 (a 8 q) ≠ 0 ∨ a 4 (a 8 (q - 1)) ≠ 0) := by
        rw [hmv]
        constructor
        · intro z hc
          have z1 := z (a 8 q) hp.2.1
          have z2 := z (a 8 (q - 1)) hp1.2.1
          simp [sMv] at z1 z2
          rcases hc with hc | hc
          · exact hc z1
          · exact hc z2
        · intro hc i hi
          simp only [sMv, Bool.and_eq_false_iff, Bool.or_eq_false_iff, decide_eq_false_iff_not]
          by_cases i1 : i = a 8 (q - 1)
          · subst i1
            exact Or.inr (fun z => hc (Or.inr z))
          · by_cases i2 : i = a 8 q
            · subst i2
              exact Or.inr (fun z => hc (Or.inl z))
            · exact Or.inl ⟨i1, i2⟩
      have next : ∀ (x' : Int32) (f' : Nat → Bool), Mk x' f' (a 0 0) → (∀ j, j < a 0 0 → (f' j = true ↔ f j = true ∨ (sAdj a q ∧ (j = a 8 q ∨ j = a 8 (q - 1))))) → ∃ y g, fX2_meeting_L75 p n x' (nI (q + 1)) (bm M p F) = some (y, bm M p F) ∧ Mk y g (a 0 0) ∧ ∀ j, j < a 0 0 → (g j = true ↔ f j = true ∨ ∃ r, q ≤ r ∧ r < a 0 0 ∧ sAdj a r ∧ (j = a 8 r ∨ j = a 8 (r - 1))) := by
        intro x' f' hx' hf'
        obtain ⟨y, g, e1, e2, e3⟩ := ih (q + 1) x' f' (by omega) (by omega) (by omega) hx'
        refine ⟨y, g, e1, e2, fun j hj => ?_⟩
        rw [e3 j hj, hf' j hj]
        constructor
        · rintro ((z | z) | ⟨r, z1, z2, z3⟩)
          · exact Or.inl z
          · exact Or.inr ⟨q, Nat.le_refl _, hq, z⟩
          · exact Or.inr ⟨r, by omega, z2, z3⟩
        · rintro (z | ⟨r, z1, z2, z3⟩)
          · exact Or.inl (Or.inl z)
          · rcases Nat.eq_or_lt_of_le z1 with e | e
            · subst e; exact Or.inl (Or.inr z3)
            · exact Or.inr ⟨r, e, z2, z3⟩
      have no : ¬ sAdj a q → ∀ j, j < a 0 0 → (f j = true ↔ f j = true ∨ (sAdj a q ∧ (j = a 8 q ∨ j = a 8 (q - 1)))) := fun z j _ => ⟨fun w => Or.inl w, fun w => w.elim id (fun w => absurd w.1 z)⟩
      by_cases h0 : sHg a (a 8 q) = 0
      · rw [if_pos ((nI_le0 (by omega)).mpr h0)]
        exact next x f hx (no (fun z => by have := z.1; omega))
      · rw [if_neg (fun z => h0 ((nI_le0 (by omega)).mp z))]
        by_cases hl : sHg a (a 8 q) = sHg a (a 8 (q - 1))
        · rw [if_pos (by rw [hl])]
          by_cases hmo : (a 4 (a 8 q) ≠ 0 ∨ a 4 (a 8 (q - 1)) ≠ 0)
          · rw [if_neg (fun z => key.mp z hmo)]
            refine next _ _ (hx.or hm2) (fun j hj => ?_)
            have hadj : sAdj a q := ⟨by omega, hl, hmo⟩
            simp only [Bool.or_eq_true, decide_eq_true_eq]
            constructor
            · rintro (z | z | z)
              · exact Or.inl z
              · exact Or.inr ⟨hadj, Or.inr z⟩
              · exact Or.inr ⟨hadj, Or.inl z⟩
            · rintro (z | ⟨-, z | z⟩)
              · exact Or.inl z
              · exact Or.inr (Or.inr z)
              · exact Or.inr (Or.inl z)
          · rw [if_pos (key.mpr hmo)]
            exact next x f hx (no (fun z => hmo z.2.2))
        · rw [if_neg (fun z => hl (nI_inj (by omega) (by omega) z))]
          exact next x f hx (no (fun z => hl z.2.1))
    · rw [if_pos (by rw [nI_leI (by omega) (by omega)]; omega)]
      exact ⟨x, f, rfl, hx, fun j hj => ⟨fun z => Or.inl z, fun z => z.elim id (fun ⟨r, z1, z2, _⟩ => by omega)⟩⟩
theorem X2_meet4 (hw : sWF a) (h : RB (a 0 0) a F) : ∀ (n i : Nat) (x : Int32), i ≤ a 0 0 → a 0 0 - i < n → Mk x (sTp a) i → ∃ y, fX2_meeting_L4 p n x (nI i) (bm M p F) = some (y, bm M p F) ∧ Mk y (sHang a) (a 0 0) := by
  intro n
  induction n with
  | zero => intro i x h1 h2; omega
  | succ n ih =>
    intro i x h1 h2 hx
    have hn := hw.1
    rw [fX2_meeting_L4, bm_0, h.1]
    by_cases hi : i < a 0 0
    · rw [if_neg (by rw [nI_leI (by omega) (by omega)]; omega)]
      have b7 := (h.2.1 i hi).2.2.2.2.2.2 (Or.inr hi)
      have b3 := (h.2.1 i hi).2.2.1
      have l7 := sHg_le (hw.2.1 i hi)
      have l3 := sTop_le (hw.2.1 i hi)
      rw [tb_in_t (by omega) (by omega), tb_ck_t, nI_clamp (by omega), bm_at _ _ _ (by omega), bm_at _ _ _ (by omega), b7, b3, nI_1]
      have hg := hx.grow (b := sTp a i) (by omega)
      have hg2 : Mk (x ||| (if sTp a i = true then (1 <<< (nI i &&& 31)) else 0)) (sTp a) (i + 1) := hg.congr (fun j hj => by
        by_cases e : j = i
        · subst e; simp
        · simp [e])
      by_cases ht : sHg a i = sTop a i
      · rw [if_pos (by rw [ht])]
        rw [if_pos (by simp [sTp, ht])] at hg2
        exact ih (i + 1) _ (by omega) (by omega) hg2
      · rw [if_neg (fun z => ht (nI_inj (by omega) (by omega) z))]
        rw [if_neg (by simp [sTp, ht])] at hg2
        have e0 : x ||| 0 = x := b_ext (fun j _ => by rw [b_or, b_0]; simp)
        rw [e0] at hg2
        exact ih (i + 1) _ (by omega) (by omega) hg2
    · have hie : i = a 0 0 := by omega
      subst hie
      rw [if_pos (by rw [nI_leI (by omega) (by omega)]; omega)]
      have fin : ∀ (z : Int32) (f : Nat → Bool), Mk z f (a 0 0) → (∀ j, j < a 0 0 → (f j = true ↔ (sTp a j = true ∧ ∃ k, k < a 0 0 ∧ k ≠ j ∧ sTp a k = true ∧ (a 4 j ≠ 0 ∨ a 4 k ≠ 0)))) → ∃ y, fX2_meeting_L75 p tb_N z 1 (bm M p F) = some (y, bm M p F) ∧ Mk y (sHang a) (a 0 0) := by
        intro z f hz hf
        by_cases hq : 1 ≤ a 0 0
        · obtain ⟨y, g, e1, e2, e3⟩ := X2_meet75 (M := M) (p := p) hw h tb_N 1 z f (by omega) hq (by unfold tb_N; omega) hz
          refine ⟨y, e1, e2.congr (fun j hj => ?_)⟩
          rw [Bool.eq_iff_iff, e3 j hj, hf j hj, sHang_iff hj]
          have wj := hw.2.2.1 j hj
          have oj := hw.2.1 j hj
          have tj := sTop_le oj
          constructor
          · rintro (⟨t1, k, k1, k2, k3, k4⟩ | ⟨r, r1, r2, r3, r4⟩)
            · simp only [sTp, decide_eq_true_eq] at t1 k3
              have tk := sTop_le (hw.2.1 k k1)
              exact ⟨k, k1, k2, by omega, by omega, k4, Or.inl ⟨t1, k3⟩⟩
            · obtain ⟨s1, s2, s3⟩ := r3
              have w1 := hw.2.2.1 r r2
              have w2 := hw.2.2.1 (r - 1) (by omega)
              rcases r4 with e | e
              · subst e
                refine ⟨a 8 (r - 1), w2.2.1, ?_, s1, by omega, s3, Or.inr ⟨s2, Or.inl ?_⟩⟩
                · intro z
                  have := congrArg (a 3) z
                  rw [w1.2.2, w2.2.2] at this
                  omega
                · rw [w1.2.2, w2.2.2]; omega
              · subst e
                refine ⟨a 8 r, w1.2.1, ?_, by omega, s1, s3.symm, Or.inr ⟨s2.symm, Or.inr ?_⟩⟩
                · intro z
                  have := congrArg (a 3) z
                  rw [w1.2.2, w2.2.2] at this
                  omega
                · rw [w1.2.2, w2.2.2]; omega
          · rintro ⟨k, k1, k2, m1, m2, m3, m4⟩
            have wk := hw.2.2.1 k k1
            have ok := hw.2.1 k k1
            rcases m4 with m4 | ⟨m4, m5⟩
            · exact Or.inl ⟨by simp [sTp, m4.1], k, k1, k2, by simp [sTp, m4.2], m3⟩
            · have pj := oj.2.2.2.2.1
              have pk := ok.2.2.2.2.1
              rcases m5 with m5 | m5
              · refine Or.inr ⟨a 3 j, by omega, pj, ⟨?_, ?_, ?_⟩, Or.inl wj.1.symm⟩
                · rw [wj.1]; exact m1
                · rw [wj.1, m5, show a 3 k + 1 - 1 = a 3 k by omega, wk.1]; exact m4
                · rw [wj.1, m5, show a 3 k + 1 - 1 = a 3 k by omega, wk.1]; exact m3
              · refine Or.inr ⟨a 3 k, by omega, pk, ⟨?_, ?_, ?_⟩, Or.inr ?_⟩
                · rw [wk.1]; exact m2
                · rw [wk.1, m5, show a 3 j + 1 - 1 = a 3 j by omega, wj.1]; exact m4.symm
                · rw [wk.1, m5, show a 3 j + 1 - 1 = a 3 j by omega, wj.1]; exact m3.symm
                · rw [m5, show a 3 j + 1 - 1 = a 3 j by omega, wj.1]
        · have h0 : a 0 0 = 0 := by omega
          refine ⟨z, ?_, fun j hj => ?_⟩
          · rw [show tb_N = 4999 + 1 from rfl, fX2_meeting_L75, bm_0, h.1, h0, if_pos (by decide)]
          · rw [hz j hj, h0]; rfl
      have hand := (hx.and h.2.2.1).eq0 (by omega)
      by_cases hc : (x &&& F 0 9) = 0
      · rw [if_pos hc]
        dsimp only [tb_let]
        rw [if_pos rfl]
        have hno := hand.mp hc
        refine fin 0 (fun _ => false) (Mk.zero (fun _ _ => rfl)) (fun j hj => ⟨fun z => absurd z (by decide), ?_⟩)
        rintro ⟨t1, k, k1, k2, k3, k4⟩
        rcases k4 with k4 | k4
        · have := hno j hj
          simp [t1, sMv, k4] at this
        · have := hno k k1
          simp [k3, sMv, k4] at this
      · rw [if_neg hc, bc_any, tb_b2_some, hx.pc (by omega)]
        dsimp only [tb_let]
        have hex : ∃ k, k < a 0 0 ∧ sTp a k = true ∧ a 4 k ≠ 0 := Classical.byContradiction (fun z => hc (hand.mpr (fun k hk => by
          cases e1 : sTp a k
          · rfl
          · by_cases e2 : a 4 k = 0
            · simp [sMv, e2]
            · exact absurd ⟨k, hk, e1, e2⟩ z)))
        obtain ⟨k, k1, k2, k3⟩ := hex
        have two := fb_two k1 k2
        have lct := fb_ct_le (sTp a) (a 0 0)
        by_cases h1 : fb_ct (sTp a) (a 0 0) ≤ 1
        · have q : nI (fb_ct (sTp a) (a 0 0)) ≤ 1 := by rw [zl1, nI_leI (by omega) (by omega)]; exact h1
          rw [if_pos q, if_pos rfl]
          refine fin 0 (fun _ => false) (Mk.zero (fun _ _ => rfl)) (fun j hj => ⟨fun z => absurd z (by decide), ?_⟩)
          rintro ⟨t1, k', k1', k2', k3', k4'⟩
          have := (fb_two hj t1).mpr ⟨k', k1', k2', k3'⟩
          omega
        · have q : ¬ nI (fb_ct (sTp a) (a 0 0)) ≤ 1 := by rw [zl1, nI_leI (by omega) (by omega)]; exact h1
          rw [if_neg q, if_neg (by decide)]
          refine fin x (sTp a) hx (fun j hj => ⟨fun t1 => ⟨t1, ?_⟩, fun z => z.1⟩)
          by_cases hjk : j = k
          · subst hjk
            obtain ⟨k', q1, q2, q3⟩ := two.mp (by omega)
            exact ⟨k', q1, q2, q3, Or.inl k3⟩
          · exact ⟨k, k1, fun z => hjk z.symm, k2, Or.inr k3⟩
theorem X2_meeting (hw : sWF a) (h : RB (a 0 0) a F) : ∃ y, fX2_meeting p (bm M p F) = some (y, bm M p F) ∧ Mk y (sHang a) (a 0 0) := by
  have hn := hw.1
  exact X2_meet4 hw h tb_N 0 0 (Nat.zero_le _) (by unfold tb_N; omega) (Mk.zero (fun i hi => by omega))
end FM

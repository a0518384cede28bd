/-! the relation between the class's memory and the reference's -/
def RMh (b : St) (c : Nat → Int32) : Prop := (∀ i, i < b 0 0 → c (2 + i) = tm (b 4 i) ∧ c (10 + i) = nI (b 5 i) ∧ c (18 + i) = nI (b 3 i)) ∧ c 1 = nI (b 6 0) ∧ ∀ k, k < 20 → c (26 + k) = nI (b 7 k)
def INow (a : St) (M : tb_Mem) : Prop := sGood a ∧ BK (a 0 0) a M 4 ∧ RM a (M 303) ∧ M 4 12 = M 303 0
def HS (a b : St) (M : tb_Mem) (p o : Nat) : Prop := sGood b ∧ b 0 0 = a 0 0 ∧ (∀ i, i < a 0 0 → b 1 i = a 1 i ∧ b 2 i = a 2 i) ∧ BK (b 0 0) b M p ∧ RMh b (fun k => M 307 (o + k)) ∧ M p 12 = M 307 o
def IHist (a : St) (M : tb_Mem) : Prop := ∃ (K nx : Nat) (hist : Nat → St), K ≤ 24 ∧ nx < 24 ∧ M 22 1 = nI nx ∧ M 22 2 = nI K ∧ M 297 13 = nI K ∧ ∀ j, j < K → HS a (hist j) M (24 + 9 * ((nx + 24 - K + j) % 24)) (46 * j)
def IImg1 (M : tb_Mem) (k : Nat) : Prop := (M (279 + 9 * k) 8 = 0 ∧ M 306 k = 0) ∨ ∃ b : St, sGood b ∧ 0 < b 0 0 ∧ BK (b 0 0) b M (279 + 9 * k) ∧ RM b (fun j => M 305 (63 * k + j)) ∧ M (279 + 9 * k) 12 = M 305 (63 * k) ∧ M 306 k = 1
def IRow (M : tb_Mem) (r : Nat) : Prop := (M (263 + 2 * r) 1 = 1 ∧ M 298 r = -1) ∨ (M (263 + 2 * r) 1 = 0 ∧ M (263 + 2 * r) 2 = M 299 r ∧ (∀ j, j < 40 → M (263 + 2 * r + 1) j = M 300 (40 * r + j)) ∧ ∃ len, len ≤ 40 ∧ M (263 + 2 * r) 3 = nI len ∧ M 298 r = nI len)
def ITape (M : tb_Mem) : Prop := ∃ t, t ≤ 60 ∧ M 2 1 = nI t ∧ M 297 6 = nI t ∧ ∀ j, j < t → M 3 j = M 302 j
def IMisc (M : tb_Mem) : Prop := M 0 8 = M 297 7 ∧ M 0 9 = M 297 4
def IAsk (M : tb_Mem) : Prop := ∃ t, t ≤ 16 ∧ M 261 1 = nI t ∧ M 297 16 = nI t ∧ ∀ j, j < t → M 262 j = M 309 j
def Inv (M : tb_Mem) : Prop := (∃ a, INow a M ∧ IHist a M) ∧ (∀ k, k < 2 → IImg1 M k) ∧ (∀ r, r < 8 → IRow M r) ∧ ITape M ∧ IMisc M ∧ IAsk M
theorem INow.fr {a : St} {M M' : tb_Mem} (h : INow a M) (h1 : ∀ q, 4 ≤ q → q ≤ 12 → M' q = M q) (h2 : M' 303 = M 303) : INow a M' := by
  obtain ⟨g1, g2, g3, g4⟩ := h
  exact ⟨g1, g2.fr (fun q q1 q2 => h1 q q1 (by omega)), by rw [h2]; exact g3, by rw [h1 4 (by omega) (by omega), h2]; exact g4⟩
theorem HS.fr {a b : St} {M M' : tb_Mem} {p o : Nat} (h : HS a b M p o) (h1 : ∀ q, p ≤ q → q < p + 9 → M' q = M q) (h2 : M' 307 = M 307) : HS a b M' p o := by
  obtain ⟨g1, g2, g3, g4, g5, g6⟩ := h
  exact ⟨g1, g2, g3, g4.fr h1, by rw [h2]; exact g5, by rw [h1 p (by omega) (by omega), h2]; exact g6⟩
theorem IHist.fr {a : St} {M M' : tb_Mem} (h : IHist a M) (h1 : ∀ q, 24 ≤ q → q < 240 → M' q = M q) (h2 : M' 22 = M 22) (h3 : M' 307 = M 307) (h4 : M' 297 13 = M 297 13) : IHist a M' := by
  obtain ⟨K, nx, hist, k1, k2, k3, k4, k5, k6⟩ := h
  refine ⟨K, nx, hist, k1, k2, by rw [h2]; exact k3, by rw [h2]; exact k4, by rw [h4]; exact k5, fun j hj => (k6 j hj).fr (fun q q1 q2 => ?_) h3⟩
  have : (nx + 24 - K + j) % 24 < 24 := Nat.mod_lt _ (by omega)
  exact h1 q (by omega) (by omega)
theorem IImg1.fr {M M' : tb_Mem} {k : Nat} (h : IImg1 M k) (h1 : ∀ q, 279 + 9 * k ≤ q → q < 279 + 9 * k + 9 → M' q = M q) (h2 : ∀ j, j < 63 → M' 305 (63 * k + j) = M 305 (63 * k + j)) (h3 : M' 306 k = M 306 k) : IImg1 M' k := by
  rcases h with ⟨g1, g2⟩ | ⟨b, g1, g2, g3, g4, g5, g6⟩
  · exact Or.inl ⟨by rw [h1 _ (by omega) (by omega)]; exact g1, by rw [h3]; exact g2⟩
  · refine Or.inr ⟨b, g1, g2, g3.fr h1, g4.cg g1.1.1 (fun j _ hj => h2 j hj), ?_, by rw [h3]; exact g6⟩
    rw [h1 _ (by omega) (by omega), g5]
    have := h2 0 (by omega)
    simpa using this.symm
theorem IRow.fr {M M' : tb_Mem} {r : Nat} (h : IRow M r) (h1 : M' (263 + 2 * r) = M (263 + 2 * r)) (h2 : M' (263 + 2 * r + 1) = M (263 + 2 * r + 1)) (h3 : M' 298 r = M 298 r) (h4 : M' 299 r = M 299 r) (h5 : ∀ j, j < 40 → M' 300 (40 * r + j) = M 300 (40 * r + j)) : IRow M' r := by
  rcases h with ⟨g1, g2⟩ | ⟨g1, g2, g3, len, g4, g5, g6⟩
  · exact Or.inl ⟨by rw [h1]; exact g1, by rw [h3]; exact g2⟩
  · exact Or.inr ⟨by rw [h1]; exact g1, by rw [h1, h4]; exact g2, fun j hj => by rw [h2, h5 j hj]; exact g3 j hj, len, g4, by rw [h1]; exact g5, by rw [h3]; exact g6⟩
theorem ITape.fr {M M' : tb_Mem} (h : ITape M) (h1 : M' 2 1 = M 2 1) (h2 : M' 3 = M 3) (h3 : M' 297 6 = M 297 6) (h4 : M' 302 = M 302) : ITape M' := by
  obtain ⟨t, g1, g2, g3, g4⟩ := h
  exact ⟨t, g1, by rw [h1]; exact g2, by rw [h3]; exact g3, fun j hj => by rw [h2, h4]; exact g4 j hj⟩
theorem IAsk.fr {M M' : tb_Mem} (h : IAsk M) (h1 : M' 261 = M 261) (h2 : M' 262 = M 262) (h3 : M' 297 16 = M 297 16) (h4 : M' 309 = M 309) : IAsk M' := by
  obtain ⟨t, g1, g2, g3, g4⟩ := h
  exact ⟨t, g1, by rw [h1]; exact g2, by rw [h3]; exact g3, fun j hj => by rw [h2, h4]; exact g4 j hj⟩
/-- rows that nobody reads between calls -/
def Scr (q : Nat) : Prop := (13 ≤ q ∧ q ≤ 21) ∨ (240 ≤ q ∧ q ≤ 259) ∨ q = 301 ∨ q = 304 ∨ q = 308
theorem Inv.scr {M M' : tb_Mem} (h : Inv M) (hs : ∀ q, ¬ Scr q → M' q = M q) : Inv M' := by
  obtain ⟨⟨a, g1, g2⟩, g3, g4, g5, g6, g7⟩ := h
  have s : ∀ q, ¬ Scr q → M' q = M q := hs
  refine ⟨⟨a, g1.fr (fun q q1 q2 => s q (by unfold Scr; omega)) (s 303 (by unfold Scr; omega)), g2.fr (fun q q1 q2 => s q (by unfold Scr; omega)) (s 22 (by unfold Scr; omega)) (s 307 (by unfold Scr; omega)) (by rw [s 297 (by unfold Scr; omega)])⟩, fun k hk => (g3 k hk).fr (fun q q1 q2 => s q (by unfold Scr; omega)) (fun j _ => by rw [s 305 (by unfold Scr; omega)]) (by rw [s 306 (by unfold Scr; omega)]), fun r hr => (g4 r hr).fr (s _ (by unfold Scr; omega)) (s _ (by unfold Scr; omega)) (by rw [s 298 (by unfold Scr; omega)]) (by rw [s 299 (by unfold Scr; omega)]) (fun j _ => by rw [s 300 (by unfold Scr; omega)]), g5.fr (by rw [s 2 (by unfold Scr; omega)]) (s 3 (by unfold Scr; omega)) (by rw [s 297 (by unfold Scr; omega)]) (s 302 (by unfold Scr; omega)), ?_, g7.fr (s 261 (by unfold Scr; omega)) (s 262 (by unfold Scr; omega)) (by rw [s 297 (by unfold Scr; omega)]) (s 309 (by unfold Scr; omega))⟩
  unfold IMisc
  rw [s 0 (by unfold Scr; omega), s 297 (by unfold Scr; omega)]
  exact g6
/-- the memory with another finding: both sides -/
theorem Inv.stat {M M' : tb_Mem} (h : Inv M) (hs : ∀ q, q ≠ 0 → q ≠ 297 → M' q = M q) (h0 : ∀ k, k ≠ 9 → M' 0 k = M 0 k) (h7 : ∀ k, k ≠ 4 → M' 297 k = M 297 k) (he : M' 0 9 = M' 297 4) : Inv M' := by
  obtain ⟨⟨a, g1, g2⟩, g3, g4, g5, g6, g7⟩ := h
  exact ⟨⟨a, g1.fr (fun q q1 q2 => hs q (by omega) (by omega)) (hs 303 (by omega) (by omega)), g2.fr (fun q q1 q2 => hs q (by omega) (by omega)) (hs 22 (by omega) (by omega)) (hs 307 (by omega) (by omega)) (h7 13 (by omega))⟩, fun k hk => (g3 k hk).fr (fun q q1 q2 => hs q (by omega) (by omega)) (fun j _ => by rw [hs 305 (by omega) (by omega)]) (by rw [hs 306 (by omega) (by omega)]), fun r hr => (g4 r hr).fr (hs _ (by omega) (by omega)) (hs _ (by omega) (by omega)) (by rw [hs 298 (by omega) (by omega)]) (by rw [hs 299 (by omega) (by omega)]) (fun j _ => by rw [hs 300 (by omega) (by omega)]), g5.fr (by rw [hs 2 (by omega) (by omega)]) (hs 3 (by omega) (by omega)) (h7 6 (by omega)) (hs 302 (by omega) (by omega)), ⟨by rw [h0 8 (by omega), h7 7 (by omega)]; exact g6.1, he⟩, g7.fr (hs 261 (by omega) (by omega)) (hs 262 (by omega) (by omega)) (h7 16 (by omega)) (hs 309 (by omega) (by omega))⟩
/-! the small questions -/
def inV (x l h : Int32) : Int32 := if x < l then 0 else if h < x then 0 else 1
theorem within_ok (x l h : Int32) (M : tb_Mem) : fX6_within x l h M = some (inV x l h, M) := by
  unfold fX6_within inV
  by_cases h1 : x < l
  · simp [h1]
  · simp [h1]
theorem in_ok (x l h : Int32) (M : tb_Mem) : fX7_in x l h M = some (inV x l h, M) := rfl
theorem inV_bl (x l h : Int32) : tb_bl (inV x l h) = true := by
  unfold inV
  (repeat' split) <;> decide
theorem inV_or (x l h : Int32) : inV x l h = 0 ∨ inV x l h = 1 := by
  unfold inV
  (repeat' split) <;> simp
theorem inV_1 {x : Int32} {l h : Nat} (hl : l < 2 ^ 31) (hh : h < 2 ^ 31) (hv : ¬ inV x (nI l) (nI h) = 0) : ∃ j, l ≤ j ∧ j ≤ h ∧ x = nI j := by
  unfold inV at hv
  by_cases h1 : x < nI l
  · rw [if_pos h1] at hv; exact absurd rfl hv
  · rw [if_neg h1] at hv
    by_cases h2 : nI h < x
    · rw [if_pos h2] at hv; exact absurd rfl hv
    · have a1 : (nI l).toInt ≤ x.toInt := by rw [Int32.lt_iff_toInt_lt] at h1; omega
      have a2 : x.toInt ≤ (nI h).toInt := by rw [Int32.lt_iff_toInt_lt] at h2; omega
      rw [nI_toInt hl] at a1
      rw [nI_toInt hh] at a2
      obtain ⟨j, j1, j2⟩ := nI_of (x := x) (by rw [Int32.lt_iff_toInt_lt]; have : (0 : Int32).toInt = 0 := rfl; omega)
      rw [j2, nI_toInt j1] at a1 a2
      exact ⟨j, by omega, by omega, j2⟩
theorem isRow6 (x : Int32) (M : tb_Mem) : fX6_isRow x M = some (inV x 0 7, M) := by
  unfold fX6_isRow
  rw [within_ok, tb_b2_some, inV_bl, tb_ck_t]
theorem isRow7 (x : Int32) (M : tb_Mem) : fX7_isRow x M = some (inV x 0 7, M) := by
  unfold fX7_isRow
  rw [in_ok, tb_b2_some, inV_bl, tb_ck_t]
theorem isRow_1 {x : Int32} (h : ¬ inV x 0 7 = 0) : ∃ r, r < 8 ∧ x = nI r := by
  obtain ⟨j, -, h2, h3⟩ := inV_1 (l := 0) (h := 7) (by omega) (by omega) h
  exact ⟨j, by omega, h3⟩
/-- is there such a bar: the same on both sides -/
theorem bar_both {a : St} {M M' : tb_Mem} {k : Nat} (hw : sWF a) (h : BK k a M 4) (h' : RM a (M' 303)) (x : Int32) : (fX2_has 4 x M = some (0, M) ∧ fX7_isBar x M' = some (0, M')) ∨ ∃ i, i < a 0 0 ∧ x = nI i ∧ fX2_has 4 x M = some (1, M) ∧ fX7_isBar x M' = some (1, M') := by
  have hn := hw.1
  have key : fX7_isBar x M' = some (inV x 0 (nI (a 0 0) - 1), M') := by
    unfold fX7_isBar
    rw [h'.1, in_ok, tb_b2_some, inV_bl, tb_ck_t]
  rcases pk_ix x (n := a 0 0) (by omega) with hx | hx | ⟨i, hi, hx⟩
  · left
    refine ⟨M_has_f h (Or.inl hx), ?_⟩
    rw [key]; unfold inV; rw [if_pos hx]
  · left
    refine ⟨M_has_f h (Or.inr hx), ?_⟩
    rw [key]; unfold inV
    by_cases h0 : x < 0
    · rw [if_pos h0]
    · rw [if_neg h0, if_pos ?_]
      rw [Int32.lt_iff_toInt_lt]
      rw [Int32.le_iff_toInt_le, nI_toInt (by omega)] at hx
      have e := pk_sub_toInt (a := a 0 0) (b := 1) (by omega) (by omega)
      rw [zl1, e]
      omega
  · right
    refine ⟨i, hi, hx, by rw [hx]; exact M_has_t hw h hi, ?_⟩
    rw [key, hx]; unfold inV
    rw [if_neg (by rw [nI_lt0 (by omega)]; exact id), if_neg ?_]
    rw [zl1, pk_sub (by omega), nI_ltI (by omega) (by omega)]
    omega
theorem isBask {a : St} {M : tb_Mem} (hn : a 0 0 ≤ 8) (h : RM a (M 303)) : fX7_isBasket M = some ((if a 0 0 = 0 then 0 else 1), M) := by
  unfold fX7_isBasket
  rw [h.1]
  by_cases h0 : a 0 0 = 0
  · rw [if_pos ((nI_le0 (by omega)).mpr h0), if_pos h0]
  · rw [if_neg (fun z => h0 ((nI_le0 (by omega)).mp z)), if_neg h0]
theorem noBask {a : St} {M : tb_Mem} {k : Nat} (hn : a 0 0 ≤ 8) (h : BK k a M 4) : M 4 8 = 0 ↔ a 0 0 = 0 := by
  have : M 4 8 = nI (a 0 0) := h.1
  rw [this, nI_is0 (by omega)]

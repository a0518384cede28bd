theorem tb_ltOf {i : Int32} {n : Nat} (h : tb_in i n = true) : i.toNatClampNeg < n := Nat.not_le.mp (fun q => tb_inv h (Or.inr q))
def tb_bB (p : Nat) : Bool := decide (tb_lay p = tb_bo p) && (decide (tb_lay (p + 1) = tb_ar 8) && (decide (tb_lay (p + 2) = tb_ar 8) && (decide (tb_lay (p + 3) = tb_ar 8) && (decide (tb_lay (p + 4) = tb_ar 8) && (decide (tb_lay (p + 5) = tb_ar 8) && (decide (tb_lay (p + 6) = tb_ar 8) && (decide (tb_lay (p + 7) = tb_ar 8) && decide (tb_lay (p + 8) = tb_ar 20))))))))
theorem tb_bB_ok {p : Nat} (h : tb_bB p = true) : tb_B p := by
  simp only [tb_bB, Bool.and_eq_true, decide_eq_true_eq] at h
  exact h
def tb_bR (p : Nat) : Bool := decide (tb_lay p = tb_ro p) && decide (tb_lay (p + 1) = tb_ar 40)
theorem tb_bR_ok {p : Nat} (h : tb_bR p = true) : tb_R p := by
  simp only [tb_bR, Bool.and_eq_true, decide_eq_true_eq] at h
  exact h
theorem tb_l0 : tb_lay 0 = tb_o0 := by decide +kernel
theorem tb_l1 : tb_lay 1 = .inr (.inl (2, tb_rowsL)) := by decide +kernel
theorem tb_l2 : tb_lay 2 = tb_ob 5 [some 3, none, none] := by decide +kernel
theorem tb_l3 : tb_lay 3 = tb_ar 60 := by decide +kernel
theorem tb_B4 : tb_B 4 := tb_bB_ok (by decide +kernel)
theorem tb_B13 : tb_B 13 := tb_bB_ok (by decide +kernel)
theorem tb_l22 : tb_lay 22 = tb_ob 0 [some 23, none, none] := by decide +kernel
theorem tb_l23 : tb_lay 23 = .inr (.inl (3, tb_beforeL)) := by decide +kernel
theorem tb_l240 : tb_lay 240 = tb_oF := by decide +kernel
theorem tb_B241 : tb_B 241 := tb_bB_ok (by decide +kernel)
theorem tb_B250 : tb_B 250 := tb_bB_ok (by decide +kernel)
theorem tb_l259 : tb_lay 259 = tb_ar 12 := by decide +kernel
theorem tb_l260 : tb_lay 260 = .inr (.inl (3, tb_imagesL)) := by decide +kernel
theorem tb_l261 : tb_lay 261 = tb_ob 1 [some 262, none] := by decide +kernel
theorem tb_l262 : tb_lay 262 = tb_ar 16 := by decide +kernel
theorem tb_l297 : tb_lay 297 = tb_oM := by decide +kernel
theorem tb_l298 : tb_lay 298 = tb_ar 8 := by decide +kernel
theorem tb_l299 : tb_lay 299 = tb_ar 8 := by decide +kernel
theorem tb_l300 : tb_lay 300 = tb_ar 320 := by decide +kernel
theorem tb_l301 : tb_lay 301 = tb_ar 40 := by decide +kernel
theorem tb_l302 : tb_lay 302 = tb_ar 60 := by decide +kernel
theorem tb_l303 : tb_lay 303 = tb_ar 63 := by decide +kernel
theorem tb_l304 : tb_lay 304 = tb_ar 63 := by decide +kernel
theorem tb_l305 : tb_lay 305 = tb_ar 126 := by decide +kernel
theorem tb_l307 : tb_lay 307 = tb_ar 1104 := by decide +kernel
theorem tb_l308 : tb_lay 308 = tb_ar 63 := by decide +kernel
theorem tb_l309 : tb_lay 309 = tb_ar 16 := by decide +kernel
theorem tb_l306 : tb_lay 306 = .inl (1, 2) := by decide +kernel
theorem tb_Bact : ∀ {i : Nat}, i < 24 → tb_B (24 + 9 * i) := by
  have h : ∀ i, i < 24 → tb_bB (24 + 9 * i) = true := by decide +kernel
  exact fun {i} hi => tb_bB_ok (h i hi)
theorem tb_Bimg : ∀ {i : Nat}, i < 2 → tb_B (279 + 9 * i) := by
  have h : ∀ i, i < 2 → tb_bB (279 + 9 * i) = true := by decide +kernel
  exact fun {i} hi => tb_bB_ok (h i hi)
theorem tb_Rrow : ∀ {i : Nat}, i < 8 → tb_R (263 + 2 * i) := by
  have h : ∀ i, i < 8 → tb_bR (263 + 2 * i) = true := by decide +kernel
  exact fun {i} hi => tb_bR_ok (h i hi)
theorem tb_rowsG : ∀ {i : Nat}, i < 8 → tb_rowsL[i]? = some (263 + 2 * i) := by
  have h : ∀ i, i < 8 → tb_rowsL[i]? = some (263 + 2 * i) := by decide +kernel
  exact fun {i} hi => h i hi
theorem tb_imagesG : ∀ {i : Nat}, i < 2 → tb_imagesL[i]? = some (279 + 9 * i) := by
  have h : ∀ i, i < 2 → tb_imagesL[i]? = some (279 + 9 * i) := by decide +kernel
  exact fun {i} hi => h i hi
theorem tb_beforeG : ∀ {i : Nat}, i < 24 → tb_beforeL[i]? = some (24 + 9 * i) := by
  have h : ∀ i, i < 24 → tb_beforeL[i]? = some (24 + 9 * i) := by decide +kernel
  exact fun {i} hi => h i hi

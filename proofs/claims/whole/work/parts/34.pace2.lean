/-! the pace, the reference's side -/
theorem N_bar {a : St} {M : tb_Mem} (hw : sWF a) (h : RM a (M 303)) (x : Int32) : (fX7_isBar x M = some (0, M) ∧ (x < 0 ∨ nI (a 0 0) ≤ x)) ∨ ∃ i, i < a 0 0 ∧ x = nI i ∧ fX7_isBar x M = some (1, M) := by
  have hn := hw.1
  have key : fX7_isBar x M = some (inV x 0 (nI (a 0 0) - 1), M) := by
    unfold fX7_isBar
    rw [h.1, in_ok, tb_b2_some, inV_bl, tb_ck_t]
  rcases pk_ix x (n := a 0 0) (by omega) with hx | hx | ⟨i, hi, hx⟩
  · left
    refine ⟨?_, Or.inl hx⟩
    rw [key]; unfold inV; rw [if_pos hx]
  · left
    refine ⟨?_, Or.inr hx⟩
    rw [key]; unfold inV
    by_cases h0 : x < 0
    · rw [if_pos h0]
    · rw [if_neg h0, if_pos ?_]
      rw [Int32.lt_iff_toInt_lt]
      rw [Int32.le_iff_toInt_le, nI_toInt (by omega)] at hx
      have e := pk_sub_toInt (a := a 0 0) (b := 1) (by omega) (by omega)
      rw [zl1, e]
      omega
  · right
    refine ⟨i, hi, hx, ?_⟩
    rw [key, hx]; unfold inV
    rw [if_neg (by rw [nI_lt0 (by omega)]; exact id), if_neg ?_]
    rw [zl1, pk_sub (by omega), nI_ltI (by omega) (by omega)]
    omega
theorem N_press {b : St} {M : tb_Mem} {i : Nat} (hn : b 0 0 ≤ 8) (h : RM b (M 308)) (hi : i < b 0 0) (hr : sRst b i) : RM (sStart b i 0) (tb_up M 308 (2 + i) 0 308) := RM.start hn h hi (by rw [tb_up_same, upd_other _ _ _ (by omega), (h.2.1 i hi).2.1, hr.2]; rfl) (by rw [tb_up_same, upd_same]; rfl) (fun k q1 q2 => by rw [tb_up_same, upd_other _ _ _ q1])
theorem L50_0 (K3 : Int32 → Int32 → Int32 → Int32 → Int32 → tb_Mem → Option (Int32 × tb_Mem)) (m : Nat) (x1 x2 x3 x4 x5 x6 x8 : Int32) (M : tb_Mem) : fX7_paceBy_L50 K3 (m + 1) x1 x2 x3 x4 x5 x6 0 x8 M = K3 x1 x2 x3 x4 (x5 + 1) M := by
  rw [fX7_paceBy_L50]
  by_cases h : x2 ≤ x8
  · rw [if_pos h, if_pos rfl]
  · rw [if_neg h, if_pos rfl, if_pos rfl]
theorem pm_loop {w : Nat → Int32} {n p o : Nat} {f : Nat → Bool} {H x3 x4 : Int32} {a0 : St} {K3 : Int32 → Int32 → Int32 → Int32 → Int32 → tb_Mem → Option (Int32 × tb_Mem)} (hn : n ≤ 12) (ho : o + n ≤ 320) (hp : p ≤ 100) (ha : sWF a0) (hH : Mk H f (a0 0 0)) : ∀ (cnt m k : Nat) (b : St) (M : tb_Mem), k + (cnt + 1) = n → cnt + 1 < m → sGood b → b 0 0 = a0 0 0 → hEq f b → RM b (M 308) → RM a0 (M 303) → (∀ j, j < n → M 300 (o + j) = w j) → ∃ M', Fq 308 M M' ∧ ((gP w n p f cnt b ∧ fX7_paceBy_L50 K3 m (nI o) (nI n) x3 x4 (nI p) H 1 (nI k) M = some (nI p, M')) ∨ (¬ gP w n p f cnt b ∧ fX7_paceBy_L50 K3 m (nI o) (nI n) x3 x4 (nI p) H 1 (nI k) M = K3 (nI o) (nI n) x3 x4 (nI p + 1) M')) := by
  have hn8 := ha.1
  intro cnt
  induction cnt with
  | zero =>
    intro m k b M h1 h2 hg hb hE hm hm0 hw
    obtain ⟨m, rfl⟩ : ∃ k, m = k + 2 := ⟨m - 2, by omega⟩
    have hk : n - (0 + 1) = k := by omega
    rw [fX7_paceBy_L50, if_neg (by rw [nI_leI (by omega) (by omega)]; omega), if_neg (by decide), nI_add, tb_in_t (by omega) (by omega), tb_ck_t, nI_clamp (by omega), hw k (by omega), tb_let_eq]
    rcases N_bar ha hm0 (w k) with ⟨e1, hx⟩ | ⟨i, hi, hx, e1⟩
    · refine ⟨M, Fq.rf, Or.inr ⟨?_, ?_⟩⟩
      · rintro ⟨i, hi, e, -⟩
        rw [hk] at e
        rw [hb] at hi
        rcases hx with hx | hx
        · rw [e, nI_lt0 (by omega)] at hx; exact hx
        · rw [e, nI_leI (by omega) (by omega)] at hx; omega
      · rw [e1, tb_b2_some, if_pos rfl, if_pos rfl, L50_0]
    · have hib : i < b 0 0 := by rw [hb]; exact hi
      obtain ⟨r, e2, z2⟩ := N_rests hg.1 hm hib
      rw [e1, tb_b2_some, if_neg (by decide), hx, e2, tb_b2_some, tb_let_eq]
      by_cases hr : sRst b i
      · have q0 : ¬ r = 0 := fun z => z2.mp z hr
        have q1 : (if r = 0 then (0 : Int32) else 1) = 1 := if_neg q0
        have m1 := N_press (by omega) hm hib hr
        obtain ⟨M2, e3, m3, f3⟩ := clr_ok (f := f) (H := H) (N := 12) (b := sStart b i 0) (M := tb_up M 308 (2 + i) 0) (by omega) (by rw [(lkStart _ _ _).1, hb]; exact hH) (sPress_good hg hib) (fun j hj => by rw [hn_start hr.2]; exact hE j (by rw [(lkStart _ _ _).1] at hj; exact hj)) m1
        have ff : Fq 308 M M2 := Fq.trans (fun q hq => tb_up_ne hq) f3
        rw [q1, if_neg (by decide), zl2, nI_add, tb_in_t (by omega) (by omega), tb_ck_t, nI_clamp (by omega), tb_let_eq, nI_1, if_pos (by rw [nI_leI (by omega) (by omega)]; omega), show (12 : Int32) = nI 12 from rfl, e3, tb_b2_some]
        refine ⟨M2, ff, ?_⟩
        by_cases hq : hEq f (sTn (sStart b i 0) 12)
        · left
          refine ⟨⟨i, hib, by rw [hk]; exact hx, hr, hq⟩, ?_⟩
          rw [bI_t hq, fX7_paceBy_L50, if_pos (by rw [nI_leI (by omega) (by omega)]; omega), if_neg (by decide)]
        · right
          refine ⟨?_, by rw [bI_f hq, L50_0]⟩
          rintro ⟨j, hj, e, -, z⟩
          rw [hk, hx] at e
          rw [← nI_inj (by omega) (by omega) e] at z
          exact hq z
      · have q1 : (if r = 0 then (0 : Int32) else 1) = 0 := if_pos (z2.mpr hr)
        refine ⟨M, Fq.rf, Or.inr ⟨?_, ?_⟩⟩
        · rintro ⟨j, hj, e, z, -⟩
          rw [hk, hx] at e
          rw [← nI_inj (by omega) (by omega) e] at z
          exact hr z
        · rw [q1, if_pos rfl, L50_0]
  | succ cnt ih =>
    intro m k b M h1 h2 hg hb hE hm hm0 hw
    obtain ⟨m, rfl⟩ : ∃ k, m = k + 2 := ⟨m - 2, by omega⟩
    have hk : n - (cnt + 1 + 1) = k := by omega
    rw [fX7_paceBy_L50, if_neg (by rw [nI_leI (by omega) (by omega)]; omega), if_neg (by decide), nI_add, tb_in_t (by omega) (by omega), tb_ck_t, nI_clamp (by omega), hw k (by omega), tb_let_eq]
    rcases N_bar ha hm0 (w k) with ⟨e1, hx⟩ | ⟨i, hi, hx, e1⟩
    · refine ⟨M, Fq.rf, Or.inr ⟨?_, ?_⟩⟩
      · rintro ⟨i, hi, e, -⟩
        rw [hk] at e
        rw [hb] at hi
        rcases hx with hx | hx
        · rw [e, nI_lt0 (by omega)] at hx; exact hx
        · rw [e, nI_leI (by omega) (by omega)] at hx; omega
      · rw [e1, tb_b2_some, if_pos rfl, if_pos rfl, L50_0]
    · have hib : i < b 0 0 := by rw [hb]; exact hi
      obtain ⟨r, e2, z2⟩ := N_rests hg.1 hm hib
      rw [e1, tb_b2_some, if_neg (by decide), hx, e2, tb_b2_some, tb_let_eq]
      by_cases hr : sRst b i
      · have q0 : ¬ r = 0 := fun z => z2.mp z hr
        have q1 : (if r = 0 then (0 : Int32) else 1) = 1 := if_neg q0
        have m1 := N_press (by omega) hm hib hr
        have gs := sPress_good hg hib
        obtain ⟨M2, e3, m3, f3⟩ := clr_ok (f := f) (H := H) (N := p) (b := sStart b i 0) (M := tb_up M 308 (2 + i) 0) (by omega) (by rw [(lkStart _ _ _).1, hb]; exact hH) gs (fun j hj => by rw [hn_start hr.2]; exact hE j (by rw [(lkStart _ _ _).1] at hj; exact hj)) m1
        have ff : Fq 308 M M2 := Fq.trans (fun q hq => tb_up_ne hq) f3
        have n3 : sTn (sStart b i 0) p 0 0 = a0 0 0 := by rw [sTn_0, (lkStart _ _ _).1, hb]
        rw [q1, if_neg (by decide), zl2, nI_add, tb_in_t (by omega) (by omega), tb_ck_t, nI_clamp (by omega), tb_let_eq, nI_1, if_neg (by rw [nI_leI (by omega) (by omega)]; omega), e3, tb_b2_some]
        by_cases hq : hEq f (sTn (sStart b i 0) p)
        · obtain ⟨M3, f4, h4⟩ := ih (m + 1) (k + 1) (sTn (sStart b i 0) p) M2 (by omega) (by omega) (sTn_good gs p) n3 hq m3 (by rw [ff 303 (by omega)]; exact hm0) (fun j hj => by rw [ff 300 (by omega)]; exact hw j hj)
          refine ⟨M3, ff.trans f4, ?_⟩
          rw [bI_t hq]
          have hiff : gP w n p f (cnt + 1) b ↔ gP w n p f cnt (sTn (sStart b i 0) p) := by
            constructor
            · rintro ⟨j, hj, e, -, z⟩
              rw [hk, hx] at e
              rw [← nI_inj (by omega) (by omega) e] at z
              exact z.2
            · intro z
              exact ⟨i, hib, by rw [hk]; exact hx, hr, hq, z⟩
          rcases h4 with ⟨z1, z2⟩ | ⟨z1, z2⟩
          · exact Or.inl ⟨hiff.mpr z1, z2⟩
          · exact Or.inr ⟨fun z => z1 (hiff.mp z), z2⟩
        · refine ⟨M2, ff, Or.inr ⟨?_, by rw [bI_f hq, L50_0]⟩⟩
          rintro ⟨j, hj, e, -, z⟩
          rw [hk, hx] at e
          rw [← nI_inj (by omega) (by omega) e] at z
          exact hq z.1
      · have q1 : (if r = 0 then (0 : Int32) else 1) = 0 := if_pos (z2.mpr hr)
        refine ⟨M, Fq.rf, Or.inr ⟨?_, ?_⟩⟩
        · rintro ⟨j, hj, e, z, -⟩
          rw [hk, hx] at e
          rw [← nI_inj (by omega) (by omega) e] at z
          exact hr z
        · rw [q1, if_pos rfl, L50_0]
/-- the basket as it is, or with two exchanged -/
def xB (a : St) (e : Option (Nat × Nat)) : St := match e with
  | none => a
  | some (i, j) => sSwap a i j
def xI (e : Option (Nat × Nat)) : Int32 × Int32 := match e with
  | none => (-1, -1)
  | some (i, j) => (nI i, nI j)
def xOK (a : St) (e : Option (Nat × Nat)) : Prop := match e with
  | none => True
  | some (i, j) => i < a 0 0 ∧ j < a 0 0
theorem xB_good {a : St} {e : Option (Nat × Nat)} (h : sGood a) (he : xOK a e) : sGood (xB a e) := by
  match e, he with
  | none, _ => exact h
  | some (i, j), he => exact sSwap_good h he.1 he.2
theorem xB_0 {a : St} {e : Option (Nat × Nat)} : xB a e 0 0 = a 0 0 := by
  match e with
  | none => rfl
  | some (i, j) => exact (lkSwap _ _ _).1
theorem pB_loop {w : Nat → Int32} {n o r : Nat} {a : St} {e : Option (Nat × Nat)} (hn1 : 1 ≤ n) (hn : n ≤ 12) (ho : o + n ≤ 320) (ha : sGood a) (he : xOK a e) (hr : FP (fun p => gP w n p (sHn (xB a e)) (n - 1) (xB a e)) 12 r) : ∀ (c m p : Nat) (M : tb_Mem), p + c = 13 → 1 ≤ p → c < m → (∀ q, 1 ≤ q → q < p → ¬ gP w n q (sHn (xB a e)) (n - 1) (xB a e)) → RM a (M 303) → (∀ j, j < n → M 300 (o + j) = w j) → ∃ M', fX7_paceBy_L3 m (nI o) (nI n) (xI e).1 (xI e).2 (nI p) M = some (pv r, M') ∧ Fq 308 M M' := by
  have hn8 := ha.1.1
  intro c
  induction c with
  | zero =>
    intro m p M h1 h2 h3 h4 hm hw
    obtain ⟨m, rfl⟩ : ∃ k, m = k + 1 := ⟨m - 1, by omega⟩
    have : r = 0 := hr.un (Or.inl ⟨rfl, fun q q1 q2 => h4 q q1 (by omega)⟩)
    subst this
    have hp : p = 13 := by omega
    subst hp
    exact ⟨M, by rw [fX7_paceBy_L3, if_pos (by decide)]; rfl, Fq.rf⟩
  | succ c ih =>
    intro m p M h1 h2 h3 h4 hm hw
    obtain ⟨m, rfl⟩ : ∃ k, m = k + 1 := ⟨m - 1, by omega⟩
    obtain ⟨M1, e1, m1, f1⟩ := N_cop hn8 hm
    have st : ∃ M2, RM (xB a e) (M2 308) ∧ Fq 308 M M2 ∧ fX7_paceBy_L3 (m + 1) (nI o) (nI n) (xI e).1 (xI e).2 (nI p) M = tb_b2 (fX7_hanging 308 M2) (fun r7 M5 => fX7_paceBy_L50 (fun z1 z2 z3 z4 z5 M => fX7_paceBy_L3 m z1 z2 z3 z4 z5 M) tb_N (nI o) (nI n) (xI e).1 (xI e).2 (nI p) r7 1 0 M5) := by
      match e, he with
      | none, _ =>
        refine ⟨M1, m1, f1, ?_⟩
        rw [fX7_paceBy_L3, if_neg (by rw [show (13 : Int32) = nI 13 from rfl, nI_leI (by omega) (by omega)]; omega), e1, tb_b1_some, if_pos (by decide)]
      | some (i, j), he =>
        obtain ⟨M2, e2, m2, f2, -⟩ := N_exch (q := 308) ha.1 m1 he.1 he.2
        refine ⟨M2, m2, f1.trans f2, ?_⟩
        rw [fX7_paceBy_L3, if_neg (by rw [show (13 : Int32) = nI 13 from rfl, nI_leI (by omega) (by omega)]; omega), e1, tb_b1_some, if_neg (by show ¬ nI i < 0; rw [nI_lt0 (by have := he.1; omega)]; exact id)]
        show tb_b1 (fX7_exchanges 308 (nI i) (nI j) M1) _ = _
        rw [e2, tb_b1_some]
    obtain ⟨M2, m2, f2, e2⟩ := st
    have hgb := xB_good ha he
    obtain ⟨v, e3, k3⟩ := N_hanging (M := M2) (q := 308) hgb.1 m2
    obtain ⟨M3, f3, h3'⟩ := pm_loop (w := w) (n := n) (p := p) (o := o) (f := sHn (xB a e)) (H := v) (x3 := (xI e).1) (x4 := (xI e).2) (a0 := a) (K3 := fun z1 z2 z3 z4 z5 M => fX7_paceBy_L3 m z1 z2 z3 z4 z5 M) hn ho (by omega) ha.1 (by rw [xB_0] at k3; exact k3) (n - 1) tb_N 0 (xB a e) M2 (by omega) (by unfold tb_N; omega) hgb xB_0 (fun i _ => rfl) m2 (by rw [f2 303 (by omega)]; exact hm) (fun j hj => by rw [f2 300 (by omega)]; exact hw j hj)
    have h3' : (gP w n p (sHn (xB a e)) (n - 1) (xB a e) ∧ fX7_paceBy_L50 (fun z1 z2 z3 z4 z5 M => fX7_paceBy_L3 m z1 z2 z3 z4 z5 M) tb_N (nI o) (nI n) (xI e).1 (xI e).2 (nI p) v 1 0 M2 = some (nI p, M3)) ∨ (¬ gP w n p (sHn (xB a e)) (n - 1) (xB a e) ∧ fX7_paceBy_L50 (fun z1 z2 z3 z4 z5 M => fX7_paceBy_L3 m z1 z2 z3 z4 z5 M) tb_N (nI o) (nI n) (xI e).1 (xI e).2 (nI p) v 1 0 M2 = fX7_paceBy_L3 m (nI o) (nI n) (xI e).1 (xI e).2 (nI p + 1) M3) := h3'
    rw [e2, e3, tb_b2_some]
    rcases h3' with ⟨z1, z2⟩ | ⟨z1, z2⟩
    · have : r = p := hr.un (Or.inr ⟨h2, by omega, z1, h4⟩)
      subst this
      exact ⟨M3, by rw [z2]; unfold pv; rw [if_neg (by omega)], f2.trans f3⟩
    · have f23 := f2.trans f3
      obtain ⟨M4, e4, f4⟩ := ih m (p + 1) M3 (by omega) (by omega) (by omega) (fun q q1 q2 => by
        by_cases hq : q = p
        · rw [hq]; exact z1
        · exact h4 q q1 (by omega)) (by rw [f23 303 (by omega)]; exact hm) (fun j hj => by rw [f23 300 (by omega)]; exact hw j hj)
      exact ⟨M4, by rw [z2, nI_1, e4], f23.trans f4⟩
theorem pB_ok {w : Nat → Int32} {n o r : Nat} {a : St} {e : Option (Nat × Nat)} {M : tb_Mem} (hn1 : 1 ≤ n) (hn : n ≤ 12) (ho : o + n ≤ 320) (ha : sGood a) (he : xOK a e) (hr : FP (fun p => gP w n p (sHn (xB a e)) (n - 1) (xB a e)) 12 r) (hm : RM a (M 303)) (hw : ∀ j, j < n → M 300 (o + j) = w j) : ∃ M', fX7_paceBy (nI o) (nI n) (xI e).1 (xI e).2 M = some (pv r, M') ∧ Fq 308 M M' :=
  pB_loop hn1 hn ho ha he hr 12 tb_N 1 M (by omega) (by omega) (by unfold tb_N; omega) (fun q q1 q2 => by omega) hm hw

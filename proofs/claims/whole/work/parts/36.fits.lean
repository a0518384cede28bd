/-! what fits -/
def sShp (a : St) (i s r : Nat) : St := sset (sset a 1 (fun j => if j = i then s else a 1 j)) 2 (fun j => if j = i then r else a 2 j)
theorem sShp_o {a : St} {i s r c : Nat} (h1 : c ≠ 1) (h2 : c ≠ 2) : sShp a i s r c = a c := by unfold sShp; rw [sset_n h2, sset_n h1]
theorem sShp_1 (a : St) (i s r j : Nat) : sShp a i s r 1 j = if j = i then s else a 1 j := by unfold sShp; rw [sset_n (by omega), sset_s]
theorem sShp_2 (a : St) (i s r j : Nat) : sShp a i s r 2 j = if j = i then r else a 2 j := by unfold sShp; rw [sset_s]
theorem sShp_wf {a : St} {i s r : Nat} (h : sWF a) (s1 : 1 ≤ s) (s5 : s ≤ 5) (r1 : 1 ≤ r) (r4 : r ≤ 4) : sWF (sShp a i s r) := by
  obtain ⟨g1, g2, g3, g4, g5⟩ := h
  have e0 : sShp a i s r 0 = a 0 := sShp_o (by omega) (by omega)
  have e3 : sShp a i s r 3 = a 3 := sShp_o (by omega) (by omega)
  have e4 : sShp a i s r 4 = a 4 := sShp_o (by omega) (by omega)
  have e5 : sShp a i s r 5 = a 5 := sShp_o (by omega) (by omega)
  have e6 : sShp a i s r 6 = a 6 := sShp_o (by omega) (by omega)
  have e7 : sShp a i s r 7 = a 7 := sShp_o (by omega) (by omega)
  have e8 : sShp a i s r 8 = a 8 := sShp_o (by omega) (by omega)
  unfold sWF
  rw [e0, e3, e6, e7, e8]
  refine ⟨g1, fun j hj => ?_, g3, g4, g5⟩
  obtain ⟨o1, o2, o3, o4, o5⟩ := g2 j hj
  unfold sOK
  rw [e0, e3, e4, e5, sShp_1, sShp_2]
  by_cases hji : j = i
  · rw [if_pos hji, if_pos hji]; exact ⟨s1, s5, r1, r4, o5⟩
  · rw [if_neg hji, if_neg hji]; exact ⟨o1, o2, o3, o4, o5⟩
theorem M_shape {a : St} {M : tb_Mem} {p i s r k : Nat} (hn : a 0 0 ≤ 8) (h : BK k a M p) (hi : i < a 0 0) (hs : s ≤ 5) (hr : r ≤ 4) : ∃ M', fX2_shape p (nI i) (nI s) (nI r) M = some M' ∧ BK 0 (sShp a i s r) M' p ∧ Fr p M M' := by
  have tp : (if nI s = 2 then nI r + 1 else nI r) = nI (r + (if s = 2 then 1 else 0)) := by
    by_cases h2 : s = 2
    · rw [if_pos (by rw [h2]; rfl), if_pos h2, nI_1]
    · have q : ¬ nI s = 2 := fun z => h2 (nI_inj (by omega) (by omega) (show nI s = nI 2 from z))
      rw [if_neg q, if_neg h2]; rfl
  refine ⟨tb_up (tb_up (tb_up M (p + 1) i (nI s)) (p + 2) i (nI r)) (p + 3) i (nI (r + (if s = 2 then 1 else 0))), ?_, ?_, ?_⟩
  · unfold fX2_shape
    rw [tb_in_t (by omega) (by omega), tb_ck_t, tb_let_eq, tb_let_eq, tb_let_eq, nI_clamp (by omega), tp]
  · have h' := RB.weak h
    obtain ⟨g1, g2, g3, g4, g5, g6⟩ := h'
    have e0 : sShp a i s r 0 = a 0 := sShp_o (by omega) (by omega)
    have e4 : sShp a i s r 4 = a 4 := sShp_o (by omega) (by omega)
    have e5 : sShp a i s r 5 = a 5 := sShp_o (by omega) (by omega)
    have r0 : rws (tb_up (tb_up (tb_up M (p + 1) i (nI s)) (p + 2) i (nI r)) (p + 3) i (nI (r + (if s = 2 then 1 else 0)))) p 0 = rws M p 0 := by
      show tb_up _ _ _ _ (p + 0) = M (p + 0)
      rw [tb_up_ne (by omega), tb_up_ne (by omega), tb_up_ne (by omega)]
    have r8 : ∀ c, 4 ≤ c → rws (tb_up (tb_up (tb_up M (p + 1) i (nI s)) (p + 2) i (nI r)) (p + 3) i (nI (r + (if s = 2 then 1 else 0)))) p c = rws M p c := fun c hc => by
      show tb_up _ _ _ _ (p + c) = M (p + c)
      rw [tb_up_ne (by omega), tb_up_ne (by omega), tb_up_ne (by omega)]
    have r1 : rws (tb_up (tb_up (tb_up M (p + 1) i (nI s)) (p + 2) i (nI r)) (p + 3) i (nI (r + (if s = 2 then 1 else 0)))) p 1 = upd (M (p + 1)) i (nI s) := by
      show tb_up _ _ _ _ (p + 1) = _
      rw [tb_up_ne (by omega), tb_up_ne (by omega), tb_up_same]
    have r2 : rws (tb_up (tb_up (tb_up M (p + 1) i (nI s)) (p + 2) i (nI r)) (p + 3) i (nI (r + (if s = 2 then 1 else 0)))) p 2 = upd (M (p + 2)) i (nI r) := by
      show tb_up _ _ _ _ (p + 2) = _
      rw [tb_up_ne (by omega), tb_up_same, tb_up_ne (by omega)]
    have r3 : rws (tb_up (tb_up (tb_up M (p + 1) i (nI s)) (p + 2) i (nI r)) (p + 3) i (nI (r + (if s = 2 then 1 else 0)))) p 3 = upd (M (p + 3)) i (nI (r + (if s = 2 then 1 else 0))) := by
      show tb_up _ _ _ _ (p + 3) = _
      rw [tb_up_same, tb_up_ne (by omega), tb_up_ne (by omega)]
    refine ⟨?_, fun j hj => ?_, ?_, ?_, ?_, fun j hj => ?_⟩
    · rw [r0, e0]; exact g1
    · rw [e0] at hj
      obtain ⟨u1, u2, u3, u4, u5, u6, u7⟩ := g2 j hj
      unfold RB1
      rw [r1, r2, r3, r8 4 (by omega), r8 5 (by omega), r8 6 (by omega), r8 7 (by omega), e4, sShp_o (show (3 : Nat) ≠ 1 by omega) (by omega), sShp_o (show (8 : Nat) ≠ 1 by omega) (by omega), sShp_1, sShp_2]
      refine ⟨?_, ?_, ?_, u4, u5, u6, fun hh => ?_⟩
      · by_cases hji : j = i
        · rw [hji, upd_same, if_pos rfl]
        · rw [upd_other _ _ _ hji, if_neg hji]; exact u1
      · by_cases hji : j = i
        · rw [hji, upd_same, if_pos rfl]
        · rw [upd_other _ _ _ hji, if_neg hji]; exact u2
      · unfold sTop
        rw [sShp_1, sShp_2]
        by_cases hji : j = i
        · rw [hji, upd_same, if_pos rfl, if_pos rfl]
        · rw [upd_other _ _ _ hji, if_neg hji, if_neg hji]; exact u3
      · have h4 : a 4 j = 0 := by rcases hh with hh | hh
                                  · exact hh
                                  · omega
        rw [u7 (Or.inl h4)]
        unfold sHg
        rw [e4, e5, if_pos h4, if_pos h4]
    · rw [r0, e0]
      unfold sMv
      rw [e4]; exact g3
    · rw [r0, e0]
      unfold sHn
      rw [e5]; exact g4
    · rw [r0, sShp_o (by omega) (by omega)]; exact g5
    · rw [r8 8 (by omega), sShp_o (by omega) (by omega)]; exact g6 j hj
  · intro q hq
    rw [tb_up_ne (by omega), tb_up_ne (by omega), tb_up_ne (by omega)]
def sSup (a : St) (i wh v : Nat) : St := if wh = 0 then sShp a i v (a 2 i) else if wh = 1 then sShp a i (a 1 i) v else if wh = 2 then sStart a i v else sSwap a i (a 8 v)
def vOK (a : St) (wh v : Nat) : Prop := (wh = 0 ∧ 1 ≤ v ∧ v ≤ 5) ∨ (wh = 1 ∧ 1 ≤ v ∧ v ≤ 4) ∨ (wh = 2 ∧ v ≤ 9) ∨ (wh = 3 ∧ v < a 0 0)
theorem sSup_wf {a : St} {i wh v : Nat} (hg : sGood a) (hi : i < a 0 0) (hv : vOK a wh v) : sWF (sSup a i wh v) := by
  obtain ⟨o1, o2, o3, o4, -⟩ := hg.1.2.1 i hi
  rcases hv with ⟨rfl, v1, v2⟩ | ⟨rfl, v1, v2⟩ | ⟨rfl, v1⟩ | ⟨rfl, v1⟩
  · exact sShp_wf hg.1 v1 v2 o3 o4
  · exact sShp_wf hg.1 o1 o2 v1 v2
  · exact sStart_wf hg.1 hi v1
  · exact (sSwap_good hg hi (hg.1.2.2.1 v v1).2.1).1
theorem sSup_0 (a : St) (i wh v : Nat) : sSup a i wh v 0 = a 0 := by
  unfold sSup
  split
  · exact sShp_o (by omega) (by omega)
  · split
    · exact sShp_o (by omega) (by omega)
    · split
      · exact sStart_o (by omega) (by omega)
      · exact sSwap_o (by omega) (by omega)
theorem sup_c {a : St} {i wh v : Nat} {M : tb_Mem} (hg : sGood a) (hi : i < a 0 0) (hv : vOK a wh v) (hb : BK (a 0 0) a M 241) : ∃ M', fX3_suppose (nI i) (nI wh) (nI v) M = some M' ∧ BK 0 (sSup a i wh v) M' 241 ∧ Fr 241 M M' := by
  have hn := hg.1.1
  obtain ⟨o1, o2, o3, o4, -⟩ := hg.1.2.1 i hi
  obtain ⟨u1, u2, -, -, -, -, -⟩ := hb.2.1 i hi
  have u1 : M 242 i = nI (a 1 i) := u1
  have u2 : M 243 i = nI (a 2 i) := u2
  unfold fX3_suppose
  rcases hv with ⟨rfl, v1, v2⟩ | ⟨rfl, v1, v2⟩ | ⟨rfl, v1⟩ | ⟨rfl, v1⟩
  · obtain ⟨M1, e1, b1, f1⟩ := M_shape hn hb hi (s := v) (r := a 2 i) v2 o4
    refine ⟨M1, ?_, b1, f1⟩
    rw [if_pos (by decide), tb_in_t (by omega) (by omega), tb_ck_t, nI_clamp (by omega), u2, e1, tb_b1_some]
  · obtain ⟨M1, e1, b1, f1⟩ := M_shape hn hb hi (s := a 1 i) (r := v) o2 v2
    refine ⟨M1, ?_, b1, f1⟩
    rw [if_neg (by decide), if_pos (by decide), tb_in_t (by omega) (by omega), tb_ck_t, nI_clamp (by omega), u1, e1, tb_b1_some]
  · obtain ⟨M1, e1, b1, f1, -⟩ := M_start (k := 0) (v := v) hg.1 (show BK 0 a M 241 from RB.weak hb) hi (Or.inr rfl)
    refine ⟨M1, ?_, b1, f1⟩
    rw [if_neg (by decide), if_neg (by decide), if_pos (by decide), e1, tb_b1_some]
  · have h8 := (hg.1.2.2.1 v v1).2.1
    obtain ⟨M1, e1, b1, f1, -⟩ := M_swap hg.1 hb hi h8
    refine ⟨M1, ?_, RB.weak b1, f1⟩
    rw [if_neg (by decide), if_neg (by decide), if_neg (by decide), tb_in_t (by omega) (by omega), tb_ck_t, nI_clamp (by omega), show M 246 v = nI (a 8 v) from (hb.2.1 v v1).2.2.2.2.1, e1, tb_b1_some]
theorem sSwap_ii {a : St} {i : Nat} (hw : sWF a) (hi : i < a 0 0) : sSwap a i i = a := by
  funext c k
  by_cases h3 : c = 3
  · subst h3
    rw [sSwap_3]
    by_cases hk : k = i
    · rw [if_pos hk, hk]
    · rw [if_neg hk, if_neg hk]
  · by_cases h8 : c = 8
    · subst h8
      rw [sSwap_8]
      by_cases hk : k = a 3 i
      · rw [if_pos hk, hk, (hw.2.2.1 i hi).1]
      · rw [if_neg hk, if_neg hk]
    · rw [sSwap_o h3 h8]
theorem sup_L65 {a : St} {i v : Nat} (hg : sGood a) (hi : i < a 0 0) (hv : v < a 0 0) : ∀ (c m b : Nat) (M : tb_Mem), b + c = a 0 0 → c < m → RM (if b ≤ a 8 v then a else sSwap a i (a 8 v)) (M 308) → RM a (M 303) → ∃ M', fX7_becomes_L65 m (nI i) (nI v) (nI b) M = some M' ∧ RM (sSwap a i (a 8 v)) (M' 308) ∧ Fq 308 M M' := by
  have hn := hg.1.1
  have h8 := (hg.1.2.2.1 v hv).2.1
  have h83 := (hg.1.2.2.1 v hv).2.2
  intro c
  induction c with
  | zero =>
    intro m b M h1 h2 hm hm0
    obtain ⟨m, rfl⟩ : ∃ k, m = k + 1 := ⟨m - 1, by omega⟩
    rw [if_neg (by omega)] at hm
    refine ⟨M, ?_, hm, Fq.rf⟩
    rw [fX7_becomes_L65, hm.1, (lkSwap _ _ _).1, if_pos (by rw [nI_leI (by omega) (by omega)]; omega)]
  | succ c ih =>
    intro m b M h1 h2 hm hm0
    obtain ⟨m, rfl⟩ : ∃ k, m = k + 1 := ⟨m - 1, by omega⟩
    have h46 : M 308 46 = nI (a 0 0) := by
      rw [hm.1]
      split
      · rfl
      · rw [(lkSwap _ _ _).1]
    have hb3 := hg.1.2.1 b (by omega)
    rw [fX7_becomes_L65, h46, if_neg (by rw [nI_leI (by omega) (by omega)]; omega), zl18, nI_add, tb_in_t (by omega) (by omega), tb_ck_t, nI_clamp (by omega), (hm0.2.1 b (by omega)).2.2.1, nI_1]
    have lt3 : a 3 b < a 0 0 := hb3.2.2.2.2.1
    by_cases h3 : a 3 b = v
    · have hbv : b = a 8 v := by rw [← h3, (hg.1.2.2.1 b (by omega)).1]
      rw [if_pos (by rw [h3])]
      rw [if_pos (by omega)] at hm
      by_cases hbi : b = i
      · rw [if_pos (by rw [hbi])]
        exact ih m (b + 1) M (by omega) (by omega) (by rw [if_neg (by omega), ← hbv, hbi, sSwap_ii hg.1 hi]; exact hm) hm0
      · obtain ⟨M1, e1, m1, f1, -⟩ := N_exch (q := 308) hg.1 hm hi (show b < a 0 0 by omega)
        rw [if_neg (fun z => hbi (nI_inj (by omega) (by omega) z)), e1, tb_b1_some]
        obtain ⟨M2, e2, m2, f2⟩ := ih m (b + 1) M1 (by omega) (by omega) (by rw [if_neg (by omega), ← hbv]; exact m1) (by rw [f1 303 (by omega)]; exact hm0)
        exact ⟨M2, e2, m2, f1.trans f2⟩
    · have hbv : b ≠ a 8 v := fun z => h3 (by rw [z, h83])
      rw [if_neg (fun z => h3 (nI_inj (by omega) (by omega) z))]
      refine ih m (b + 1) M (by omega) (by omega) ?_ hm0
      by_cases hle : b ≤ a 8 v
      · rw [if_pos hle] at hm; rw [if_pos (by omega)]; exact hm
      · rw [if_neg hle] at hm; rw [if_neg (by omega)]; exact hm
theorem sup_d {a : St} {i wh v : Nat} {M : tb_Mem} (hg : sGood a) (hi : i < a 0 0) (hv : vOK a wh v) (hm : RM a (M 308)) (hm0 : RM a (M 303)) : ∃ M', fX7_becomes (nI i) (nI wh) (nI v) M = some M' ∧ RM (sSup a i wh v) (M' 308) ∧ Fq 308 M M' := by
  have hn := hg.1.1
  unfold fX7_becomes
  have shp : ∀ (s r : Nat) (d : Nat → Int32), d (55 + i) = nI s → d (47 + i) = nI r → (∀ k, k ≠ 55 + i → k ≠ 47 + i → d k = M 308 k) → RM (sShp a i s r) d := by
    intro s r d d1 d2 d3
    refine ⟨?_, fun j hj => ?_, ?_, fun k hk => ?_⟩
    · rw [d3 46 (by omega) (by omega), sShp_o (by omega) (by omega)]; exact hm.1
    · rw [sShp_o (show (0 : Nat) ≠ 1 by omega) (by omega)] at hj
      obtain ⟨g1, g2, g3, g4, g5⟩ := hm.2.1 j hj
      unfold RM1
      rw [sShp_o (show (4 : Nat) ≠ 1 by omega) (by omega), sShp_o (show (5 : Nat) ≠ 1 by omega) (by omega), sShp_o (show (3 : Nat) ≠ 1 by omega) (by omega), sShp_1, sShp_2, d3 (2 + j) (by omega) (by omega), d3 (10 + j) (by omega) (by omega), d3 (18 + j) (by omega) (by omega)]
      refine ⟨g1, g2, g3, ?_, ?_⟩
      · by_cases hji : j = i
        · rw [hji, if_pos rfl]; exact d2
        · rw [if_neg hji, d3 (47 + j) (by omega) (by omega)]; exact g4
      · by_cases hji : j = i
        · rw [hji, if_pos rfl]; exact d1
        · rw [if_neg hji, d3 (55 + j) (by omega) (by omega)]; exact g5
    · rw [d3 1 (by omega) (by omega), sShp_o (by omega) (by omega)]; exact hm.2.2.1
    · rw [d3 (26 + k) (by omega) (by omega), sShp_o (by omega) (by omega)]; exact hm.2.2.2 k hk
  rcases hv with ⟨rfl, v1, v2⟩ | ⟨rfl, v1, v2⟩ | ⟨rfl, v1⟩ | ⟨rfl, v1⟩
  · refine ⟨tb_up M 308 (55 + i) (nI v), ?_, ?_, fun q hq => tb_up_ne hq⟩
    · rw [if_pos (by decide), zl55, nI_add, tb_in_t (by omega) (by omega), tb_ck_t, nI_clamp (by omega), tb_let_eq]
    · exact shp v (a 2 i) _ (by rw [tb_up_same, upd_same]) (by rw [tb_up_same, upd_other _ _ _ (by omega)]; exact (hm.2.1 i hi).2.2.2.1) (fun k k1 _ => by rw [tb_up_same, upd_other _ _ _ k1])
  · refine ⟨tb_up M 308 (47 + i) (nI v), ?_, ?_, fun q hq => tb_up_ne hq⟩
    · rw [if_neg (by decide), if_pos (by decide), zl47, nI_add, tb_in_t (by omega) (by omega), tb_ck_t, nI_clamp (by omega), tb_let_eq]
    · exact shp (a 1 i) v _ (by rw [tb_up_same, upd_other _ _ _ (by omega)]; exact (hm.2.1 i hi).2.2.2.2) (by rw [tb_up_same, upd_same]) (fun k _ k2 => by rw [tb_up_same, upd_other _ _ _ k2])
  · refine ⟨tb_up (tb_up M 308 (2 + i) (nI v)) 308 (10 + i) 0, ?_, ?_, fun q hq => by rw [tb_up_ne hq, tb_up_ne hq]⟩
    · rw [if_neg (by decide), if_neg (by decide), if_pos (by decide), zl2, nI_add, tb_in_t (by omega) (by omega), tb_ck_t, nI_clamp (by omega), tb_let_eq, zl10, nI_add, tb_in_t (by omega) (by omega), tb_ck_t, nI_clamp (by omega), tb_let_eq]
    · exact RM.start hn hm hi (by rw [tb_up_same, upd_same]) (by rw [tb_up_same, upd_other _ _ _ (by omega), tb_up_same, upd_same]) (fun k k1 k2 => by rw [tb_up_same, upd_other _ _ _ k2, tb_up_same, upd_other _ _ _ k1])
  · obtain ⟨M1, e1, m1, f1⟩ := sup_L65 hg hi v1 (a 0 0) tb_N 0 M (by omega) (by unfold tb_N; omega) (by rw [if_pos (by omega)]; exact hm) hm0
    refine ⟨M1, ?_, m1, f1⟩
    rw [if_neg (by decide), if_neg (by decide), if_neg (by decide)]
    exact e1
/-- it rises so -/
def rsP (w : Nat → Int32) (i : Nat) : Nat → Nat → St → Prop
  | 0, _, _ => True
  | c + 1, k, b => nI (sHg (sTk b) i) = w k ∧ rsP w i c (k + 1) (sTk b)
theorem rs_c {w : Nat → Int32} {n i : Nat} (hn : n ≤ 12) : ∀ (c m k kk : Nat) (b : St) (M : tb_Mem), k + c = n → c < m → sWF b → i < b 0 0 → BK kk b M 241 → CW w n M → ∃ M', fX3_risesAsHeard_L2 m (nI i) (nI k) M = some (bI (rsP w i c k b), M') ∧ Fr 241 M M' := by
  intro c
  induction c with
  | zero =>
    intro m k kk b M h1 h2 hw hi hb hc
    obtain ⟨m, rfl⟩ : ∃ k, m = k + 1 := ⟨m - 1, by omega⟩
    refine ⟨M, ?_, Fr.rf⟩
    rw [fX3_risesAsHeard_L2, hc.1, if_pos (by rw [nI_leI (by omega) (by omega)]; omega), bI_t]
    trivial
  | succ c ih =>
    intro m k kk b M h1 h2 hw hi hb hc
    obtain ⟨m, rfl⟩ : ∃ k, m = k + 1 := ⟨m - 1, by omega⟩
    have hn8 := hw.1
    obtain ⟨M1, e1, b1, f1, -⟩ := M_pass (p := 241) hw hb
    have nb : sTk b 0 0 = b 0 0 := by rw [sTk_0]
    have c1 : CW w n M1 := hc.fr (by rw [f1 240 (by omega)]) (f1 259 (by omega))
    have h7 : M1 248 i = nI (sHg (sTk b) i) := (b1.2.1 i (by rw [nb]; exact hi)).2.2.2.2.2.2 (Or.inr hi)
    rw [fX3_risesAsHeard_L2, hc.1, if_neg (by rw [nI_leI (by omega) (by omega)]; omega), e1, tb_b2_some, tb_in_t (show i < 8 by omega) (by omega), tb_ck_t, tb_in_t (show k < 12 by omega) (by omega), tb_ck_t, nI_clamp (by omega), nI_clamp (by omega), h7, c1.2 k (by omega), nI_1]
    by_cases he : nI (sHg (sTk b) i) = w k
    · rw [if_pos he]
      obtain ⟨M2, e2, f2⟩ := ih m (k + 1) (b 0 0) (sTk b) M1 (by omega) (by omega) (sTk_wf hw) (by rw [nb]; exact hi) b1 c1
      refine ⟨M2, ?_, f1.trans f2⟩
      rw [e2]
      congr 2
      exact bI_cg ⟨fun z => ⟨he, z⟩, fun z => z.2⟩
    · rw [if_neg he]
      exact ⟨M1, by rw [bI_f (fun z => he z.1)], f1⟩
theorem rs_d {w : Nat → Int32} {n o i : Nat} (hn : n ≤ 12) (ho : o + n ≤ 320) : ∀ (c m k : Nat) (b : St) (M : tb_Mem) (fl : Prop), k + c = n → c < m → sWF b → i < b 0 0 → RM b (M 308) → (∀ j, j < n → M 300 (o + j) = w j) → ∃ M', fX7_isSo_L6 m (nI i) (nI o) (nI n) (bI fl) (nI k) M = some (bI (fl ∧ rsP w i c k b), M') ∧ Fq 308 M M' := by
  intro c
  induction c with
  | zero =>
    intro m k b M fl h1 h2 hw hi hm hv
    obtain ⟨m, rfl⟩ : ∃ k, m = k + 1 := ⟨m - 1, by omega⟩
    refine ⟨M, ?_, Fq.rf⟩
    rw [fX7_isSo_L6, if_pos (by rw [nI_leI (by omega) (by omega)]; omega), bI_bl, tb_ck_t]
    congr 2
    exact bI_cg ⟨fun z => ⟨z, trivial⟩, fun z => z.1⟩
  | succ c ih =>
    intro m k b M fl h1 h2 hw hi hm hv
    obtain ⟨m, rfl⟩ : ∃ k, m = k + 1 := ⟨m - 1, by omega⟩
    have hn8 := hw.1
    obtain ⟨M1, e1, m1, f1, -⟩ := N_tick (q := 308) hw hm
    have nb : sTk b 0 0 = b 0 0 := by rw [sTk_0]
    have v1 : ∀ j, j < n → M1 300 (o + j) = w j := fun j hj => by rw [f1 300 (by omega)]; exact hv j hj
    rw [fX7_isSo_L6, if_neg (by rw [nI_leI (by omega) (by omega)]; omega), e1, tb_b2_some, nI_1]
    by_cases hf : fl
    · rw [bI_t hf, if_neg (by decide), N_high (sTk_good hw) m1 (by rw [nb]; exact hi), tb_b2_some, nI_add, tb_in_t (by omega) (by omega), tb_ck_t, nI_clamp (by omega), v1 k (by omega), tb_let_eq]
      have : (if nI (sHg (sTk b) i) = w k then (1 : Int32) else 0) = bI (nI (sHg (sTk b) i) = w k) := by
        by_cases he : nI (sHg (sTk b) i) = w k
        · rw [if_pos he, bI_t he]
        · rw [if_neg he, bI_f he]
      rw [this]
      obtain ⟨M2, e2, f2⟩ := ih m (k + 1) (sTk b) M1 (nI (sHg (sTk b) i) = w k) (by omega) (by omega) (sTk_wf hw) (by rw [nb]; exact hi) m1 v1
      refine ⟨M2, ?_, f1.trans f2⟩
      rw [e2]
      congr 2
      exact bI_cg ⟨fun z => ⟨hf, z⟩, fun z => z.2⟩
    · rw [bI_f hf, if_pos rfl]
      obtain ⟨M2, e2, f2⟩ := ih m (k + 1) (sTk b) M1 fl (by omega) (by omega) (sTk_wf hw) (by rw [nb]; exact hi) m1 v1
      rw [bI_f hf] at e2
      refine ⟨M2, ?_, f1.trans f2⟩
      rw [e2]
      congr 2
      exact bI_cg ⟨fun z => absurd z.1 hf, fun z => absurd z.1 hf⟩
noncomputable def ftF (w : Nat → Int32) (n : Nat) (a : St) (i wh : Nat) : Nat → Nat → Int32 → Int32
  | 0, _, x => x
  | c + 1, v, x => ftF w n a i wh c (v + 1) (if bI (rsP w i n 0 (sSup a i wh v)) = 0 then x else x ||| (1 <<< (nI v &&& 31)))
theorem ft_c {w : Nat → Int32} {n i wh most : Nat} {a : St} (hn : n ≤ 12) (hg : sGood a) (hi : i < a 0 0) (hmo : most ≤ 100) : ∀ (c m v : Nat) (x : Int32) (M : tb_Mem), v + c = most + 1 → c < m → (∀ u, v ≤ u → u ≤ most → vOK a wh u) → BK (a 0 0) a M 4 → CW w n M → ∃ M', fX3_fitting_L29 4 m (nI i) (nI wh) (nI most) x (nI v) M = some (ftF w n a i wh c v x, M') ∧ Sc M M' := by
  have hn8 := hg.1.1
  intro c
  induction c with
  | zero =>
    intro m v x M h1 h2 h3 hb hc
    obtain ⟨m, rfl⟩ : ∃ k, m = k + 1 := ⟨m - 1, by omega⟩
    refine ⟨M, ?_, Sc.rf⟩
    rw [fX3_fitting_L29, if_pos (by rw [nI_ltI (by omega) (by omega)]; omega)]
    rfl
  | succ c ih =>
    intro m v x M h1 h2 h3 hb hc
    obtain ⟨m, rfl⟩ : ∃ k, m = k + 1 := ⟨m - 1, by omega⟩
    have hv := h3 v (by omega) (by omega)
    obtain ⟨M1, e1, b1, f1, -, -⟩ := M_bec (p := 241) (p1 := 4) hn8 hb (by omega)
    obtain ⟨M2, e2, b2, f2⟩ := sup_c hg hi hv b1
    have f12 := f1.trans f2
    obtain ⟨M3, e3, f3⟩ := rs_c (w := w) hn n tb_N 0 0 (sSup a i wh v) M2 (by omega) (by unfold tb_N; omega) (sSup_wf hg hi hv) (by rw [sSup_0]; exact hi) b2 (hc.fr (by rw [f12 240 (by omega)]) (f12 259 (by omega)))
    have e3 : fX3_risesAsHeard (nI i) M2 = some (bI (rsP w i n 0 (sSup a i wh v)), M3) := e3
    have f13 := f12.trans f3
    have s3 : Sc M M3 := Sc.f241 f13
    obtain ⟨M4, e4, s4⟩ := ih m (v + 1) (if bI (rsP w i n 0 (sSup a i wh v)) = 0 then x else x ||| (1 <<< (nI v &&& 31))) M3 (by omega) (by omega) (fun u u1 u2 => h3 u (by omega) u2) (hb.sc s3) (hc.fr (by rw [f13 240 (by omega)]) (f13 259 (by omega)))
    refine ⟨M4, ?_, s3.tr s4⟩
    rw [fX3_fitting_L29, if_neg (by rw [nI_ltI (by omega) (by omega)]; omega), e1, tb_b1_some, e2, tb_b1_some, e3, tb_b2_some, nI_1]
    show _ = some (ftF w n a i wh c (v + 1) (if bI (rsP w i n 0 (sSup a i wh v)) = 0 then x else x ||| (1 <<< (nI v &&& 31))), M4)
    rw [← e4]
    by_cases hz : bI (rsP w i n 0 (sSup a i wh v)) = 0
    · rw [if_pos hz, if_pos hz]
    · rw [if_neg hz, if_neg hz, tb_let_eq]
theorem ft_d {w : Nat → Int32} {n o r i0 i wh most : Nat} {a : St} (hn : n ≤ 12) (ho : o + n ≤ 320) (hoe : o = 40 * r + i0) (hg : sGood a) (hi : i < a 0 0) (hmo : most ≤ 100) : ∀ (c m v : Nat) (x : Int32) (M : tb_Mem), v + c = most + 1 → c < m → (∀ u, v ≤ u → u ≤ most → vOK a wh u) → RM a (M 303) → (∀ j, j < n → M 300 (o + j) = w j) → ∃ M', fX7_fits_L130 m (nI i) (nI r) (nI i0) (nI n) (nI wh) x (nI most) (nI v) M = tb_b2 (fX7_ends (ftF w n a i wh c v x) M') (fun r47 M45 => some (r47, M45)) ∧ Fq 308 M M' := by
  have hn8 := hg.1.1
  intro c
  induction c with
  | zero =>
    intro m v x M h1 h2 h3 hm hw
    obtain ⟨m, rfl⟩ : ∃ k, m = k + 1 := ⟨m - 1, by omega⟩
    refine ⟨M, ?_, Fq.rf⟩
    rw [fX7_fits_L130, if_pos (by rw [nI_ltI (by omega) (by omega)]; omega)]
    rfl
  | succ c ih =>
    intro m v x M h1 h2 h3 hm hw
    obtain ⟨m, rfl⟩ : ∃ k, m = k + 1 := ⟨m - 1, by omega⟩
    have hv := h3 v (by omega) (by omega)
    obtain ⟨M1, e1, m1, f1⟩ := N_cop hn8 hm
    obtain ⟨M2, e2, m2, f2⟩ := sup_d hg hi hv m1 (by rw [f1 303 (by omega)]; exact hm)
    have f12 := f1.trans f2
    have w2 : ∀ j, j < n → M2 300 (o + j) = w j := fun j hj => by rw [f12 300 (by omega)]; exact hw j hj
    obtain ⟨M3, e3, f3⟩ := rs_d (w := w) hn ho n tb_N 0 (sSup a i wh v) M2 True (by omega) (by unfold tb_N; omega) (sSup_wf hg hi hv) (by rw [sSup_0]; exact hi) m2 w2
    rw [bI_t trivial, bI_cg (show (True ∧ rsP w i n 0 (sSup a i wh v)) ↔ rsP w i n 0 (sSup a i wh v) from ⟨fun z => z.2, fun z => ⟨trivial, z⟩⟩)] at e3
    have e3 : fX7_isSo (nI i) (nI o) (nI n) M2 = some (bI (rsP w i n 0 (sSup a i wh v)), M3) := e3
    have f13 := f12.trans f3
    obtain ⟨M4, e4, f4⟩ := ih m (v + 1) (if bI (rsP w i n 0 (sSup a i wh v)) = 0 then x else x ||| (1 <<< (nI v &&& 31))) M3 (by omega) (by omega) (fun u u1 u2 => h3 u (by omega) u2) (by rw [f13 303 (by omega)]; exact hm) (fun j hj => by rw [f13 300 (by omega)]; exact hw j hj)
    refine ⟨M4, ?_, f13.trans f4⟩
    have e40 : (40 : Int32) * nI r + nI i0 = nI o := by rw [hoe, show (40 : Int32) = nI 40 from rfl, pk_mul, nI_add]
    rw [fX7_fits_L130, if_neg (by rw [nI_ltI (by omega) (by omega)]; omega), e1, tb_b1_some, e2, tb_b1_some, e40, e3, tb_b2_some, nI_1, tb_let_eq]
    show _ = tb_b2 (fX7_ends (ftF w n a i wh c (v + 1) (if bI (rsP w i n 0 (sSup a i wh v)) = 0 then x else x ||| (1 <<< (nI v &&& 31)))) M4) _
    rw [← e4]
    by_cases hz : bI (rsP w i n 0 (sSup a i wh v)) = 0
    · rw [if_pos hz, if_pos hz, Int32.or_zero]
    · rw [if_neg hz, if_neg hz]
theorem ft_in {w : Nat → Int32} {n i wh : Nat} {a : St} : ∀ (c v : Nat) (x : Int32) (f : Nat → Bool), v + c ≤ 10 → Mk x f 10 → ∃ g, Mk (ftF w n a i wh c v x) g 10
  | 0, _, _, f, _, h => ⟨f, h⟩
  | c + 1, v, x, f, hc, h => by
    unfold ftF
    by_cases hz : bI (rsP w i n 0 (sSup a i wh v)) = 0
    · rw [if_pos hz]; exact ft_in c (v + 1) x f (by omega) h
    · rw [if_neg hz]; exact ft_in c (v + 1) _ _ (by omega) (h.or (Mk.one (show v < 10 by omega) (by omega)))
theorem Mk.pos {x : Int32} {f : Nat → Bool} {n : Nat} (h : Mk x f n) (hn : n ≤ 31) : inV x (-1000015) (-1000011) = 0 := by
  have h31 : bt x 31 = false := by rw [h 31 (by omega)]; simp; omega
  have : ¬ x.toInt < 0 := by
    unfold bt at h31
    rw [← Int32.toInt_toBitVec, BitVec.toInt_neg_iff]
    rw [BitVec.getLsbD_eq_getElem (by omega)] at h31
    have := BitVec.msb_eq_getLsbD_last x.toBitVec
    rw [BitVec.getLsbD_eq_getElem (by omega)] at this
    rw [BitVec.msb_eq_decide] at this
    simp only [Nat.add_one_sub_one] at this
    rw [h31] at this
    simp at this
    omega
  unfold inV
  rw [if_neg ?_, if_pos ?_]
  · rw [Int32.lt_iff_toInt_lt]
    have e : (-1000011 : Int32).toInt = -1000011 := by decide
    omega
  · rw [Int32.lt_iff_toInt_lt]
    have e : (-1000015 : Int32).toInt = -1000015 := by decide
    omega

theorem s_fits (u x y z t : Int32) : Sim (fX6_fits u x y z t) (fX7_fits u x y z t) := by
  intro M h
  obtain ⟨⟨a, ⟨hg, hb, hm, ht⟩, -⟩, -⟩ := id h
  have hn := hg.1.1
  unfold fX6_fits fX7_fits
  rcases bar_both (M' := M) hg.1 hb hm u with ⟨p1, p2⟩ | ⟨bi, hbi, rfl, p1, p2⟩
  · exact ⟨_, M, M, by rw [p1, tb_b2_some, if_pos rfl], by rw [p2, tb_b2_some, if_pos rfl], h⟩
  have pb : ∀ M', RM a (M' 303) → fX7_isBar (nI bi) M' = some (1, M') := by
    intro M' m1
    rcases bar_both (M' := M') hg.1 hb m1 (nI bi) with ⟨u1, -⟩ | ⟨_, _, _, _, u2⟩
    · rw [p1] at u1; cases u1
    · exact u2
  by_cases h1 : inV x 0 7 = 0
  · exact ⟨_, M, M, by rw [p1, tb_b2_some, if_neg (by decide), isRow6, tb_b2_some, if_pos h1], by rw [p2, tb_b2_some, if_neg (by decide), isRow7, tb_b2_some, if_pos h1], h⟩
  by_cases h2 : inV z 1 12 = 0
  · exact ⟨_, M, M, by rw [p1, tb_b2_some, if_neg (by decide), isRow6, tb_b2_some, if_neg h1, within_ok, tb_b2_some, if_pos h2], by rw [p2, tb_b2_some, if_neg (by decide), isRow7, tb_b2_some, if_neg h1, in_ok, tb_b2_some, if_pos h2], h⟩
  by_cases h3 : inV t 0 3 = 0
  · exact ⟨_, M, M, by rw [p1, tb_b2_some, if_neg (by decide), isRow6, tb_b2_some, if_neg h1, within_ok, tb_b2_some, if_neg h2, within_ok, tb_b2_some, if_pos h3], by rw [p2, tb_b2_some, if_neg (by decide), isRow7, tb_b2_some, if_neg h1, in_ok, tb_b2_some, if_neg h2, in_ok, tb_b2_some, if_pos h3], h⟩
  obtain ⟨r, hr, hx⟩ := isRow_1 h1
  obtain ⟨n, n1, n2, hz⟩ := inV_1 (l := 1) (h := 12) (by omega) (by omega) h2
  obtain ⟨wh, -, hwh, htt⟩ := inV_1 (l := 0) (h := 3) (by omega) (by omega) h3
  have hin : tb_in x 8 = true := by rw [hx]; exact tb_in_t hr (by omega)
  have hcl : x.toNatClampNeg = r := by rw [hx]; exact nI_clamp (by omega)
  have hrow := h.2.2.1 r hr
  have up9 : ∀ (v : Int32), RM a (tb_up M 0 9 v 303) := fun v => by rw [tb_up_ne (by omega)]; exact hm
  rcases row_cases hrow hr x hx y z with ⟨c1, c2, c3⟩ | ⟨c1, c2, c3, ⟨c4, c5, c6⟩ | ⟨c4, c5, c6, i, k, len, c7, c8, c9, c10, c11, c12⟩⟩
  · exact ⟨_, _, _, by rw [p1, tb_b2_some, if_neg (by decide), isRow6, tb_b2_some, if_neg h1, within_ok, tb_b2_some, if_neg h2, within_ok, tb_b2_some, if_neg h3, c3, tb_b2_some, if_neg (by decide), found1, tb_b2_some], by rw [pb _ (up9 1), tb_b2_some, if_neg (by decide), isRow7, tb_b2_some, if_neg h1, in_ok, tb_b2_some, if_neg h2, in_ok, tb_b2_some, if_neg h3, hin, tb_ck_t, hcl, tb_up_ne (by omega), c2, if_neg (by decide), ends_f (k := 1) (by decide) (by decide), tb_b2_some]; rfl, stt_inv h 1⟩
  · exact ⟨_, _, _, by rw [p1, tb_b2_some, if_neg (by decide), isRow6, tb_b2_some, if_neg h1, within_ok, tb_b2_some, if_neg h2, within_ok, tb_b2_some, if_neg h3, c5, tb_b2_some, if_neg (by decide), found2, tb_b2_some], by rw [pb _ (up9 2), tb_b2_some, if_neg (by decide), isRow7, tb_b2_some, if_neg h1, in_ok, tb_b2_some, if_neg h2, in_ok, tb_b2_some, if_neg h3, hin, tb_ck_t, hcl, tb_up_ne (by omega), if_pos c2, c6 _ (tb_up_ne (by omega)), tb_b2_some, if_pos rfl, ends_f (k := 2) (by decide) (by decide), tb_b2_some]; rfl, stt_inv h 2⟩
  · have kn : k = n := nI_inj (by rw [Nat.pow_succ] at *; omega) (by omega) (by rw [← c10, hz])
    subst kn
    rcases hrow with ⟨d1, d2⟩ | ⟨d1, d2, d3, d4⟩
    · rw [d1] at c1; exact absurd c1 (by decide)
    obtain ⟨M1, e1, w1, f1⟩ := hear_ok hr n2 c8 c7 c12
    have s1 : Sc M M1 := Sc.hear f1
    have b1 := hb.sc s1
    obtain ⟨most, least, hmo, hml, hv, hla, hm6⟩ : ∃ most least : Nat, most ≤ 9 ∧ least ≤ most + 1 ∧ (∀ u, least ≤ u → u ≤ most → vOK a wh u) ∧ (if (2 : Int32) ≤ nI wh then (0 : Int32) else 1) = nI least ∧ (∀ M' : tb_Mem, fX3_mostOf (nI wh) (nI (a 0 0)) M' = some (nI most, M')) ∧ (∀ (M' : tb_Mem) (F : Int32 → Int32 → Option (Int32 × tb_Mem)), M' 303 46 = nI (a 0 0) → (if nI wh = 0 then (tb_let (((if 2 ≤ nI wh then 0 else 1) : Int32) : Int32) (fun v36 => F 5 v36)) else (if nI wh = 1 then (tb_let (((if 2 ≤ nI wh then 0 else 1) : Int32) : Int32) (fun v33 => F 4 v33)) else (if nI wh = 2 then (tb_let (((if 2 ≤ nI wh then 0 else 1) : Int32) : Int32) (fun v30 => F 9 v30)) else (tb_let (((if 2 ≤ nI wh then 0 else 1) : Int32) : Int32) (fun v27 => F ((M' 303 46) - 1) v27))))) = F (nI most) (nI least)) := by
      have : wh = 0 ∨ wh = 1 ∨ wh = 2 ∨ wh = 3 := by omega
      rcases this with rfl | rfl | rfl | rfl
      · exact ⟨5, 1, by omega, by omega, fun u u1 u2 => Or.inl ⟨rfl, u1, u2⟩, by decide, fun _ => rfl, fun _ _ _ => rfl⟩
      · exact ⟨4, 1, by omega, by omega, fun u u1 u2 => Or.inr (Or.inl ⟨rfl, u1, u2⟩), by decide, fun _ => rfl, fun _ _ _ => rfl⟩
      · exact ⟨9, 0, by omega, by omega, fun u u1 u2 => Or.inr (Or.inr (Or.inl ⟨rfl, u2⟩)), by decide, fun _ => rfl, fun _ _ _ => rfl⟩
      · have hsub : nI (a 0 0) - 1 = nI (a 0 0 - 1) := by rw [zl1, pk_sub (by omega)]
        refine ⟨a 0 0 - 1, 0, by omega, by omega, fun u u1 u2 => Or.inr (Or.inr (Or.inr ⟨rfl, by omega⟩)), by decide, fun M' => ?_, fun M' F hF => ?_⟩
        · unfold fX3_mostOf
          rw [if_neg (by decide), if_neg (by decide), if_neg (by decide), hsub]
        · rw [if_neg (by decide), if_neg (by decide), if_neg (by decide), tb_let_eq, hF, hsub]; rfl
    obtain ⟨M3, e3, s3⟩ := ft_c (w := fun j => M (263 + 2 * r + 1) (i + j)) (n := k) (i := bi) (wh := wh) (most := most) n2 hg hbi (by omega) (most + 1 - least) tb_N least 0 M1 (by omega) (by unfold tb_N; omega) hv b1 w1
    have sC : Sc M M3 := s1.tr s3
    have sU : ∀ q, q ≠ 0 → ¬ Scr q → tb_up M3 0 9 0 q = M q := fun q q0 q1 => by rw [tb_up_ne q0, sC q q1]
    have hmU : RM a (tb_up M3 0 9 0 303) := by rw [sU 303 (by omega) (by unfold Scr; omega)]; exact hm
    have hwU : ∀ j, j < k → tb_up M3 0 9 0 300 (40 * r + i + j) = M (263 + 2 * r + 1) (i + j) := fun j hj => by
      rw [sU 300 (by omega) (by unfold Scr; omega), d3 (i + j) (by omega), Nat.add_assoc]
    obtain ⟨M4, e4, f4⟩ := ft_d (w := fun j => M (263 + 2 * r + 1) (i + j)) (o := 40 * r + i) (r := r) (i0 := i) (i := bi) (wh := wh) (most := most) n2 (by omega) rfl hg hbi (by omega) (most + 1 - least) tb_N least 0 (tb_up M3 0 9 0) (by omega) (by unfold tb_N; omega) hv hmU hwU
    obtain ⟨gg, hgg⟩ := ft_in (w := fun j => M (263 + 2 * r + 1) (i + j)) (n := k) (i := bi) (wh := wh) (a := a) (most + 1 - least) least 0 (fun _ => false) (by omega) (Mk.zero (fun _ _ => rfl))
    have hv0 := hgg.pos (by omega)
    generalize ftF (fun j => M (263 + 2 * r + 1) (i + j)) k a bi wh (most + 1 - least) least 0 = val at e3 e4 hv0
    refine ⟨val, tb_up M3 0 9 0, tb_up M4 297 4 0, ?_, ?_, fin_ok h sC (Sc.f308 f4)⟩
    · rw [p1, tb_b2_some, if_neg (by decide), isRow6, tb_b2_some, if_neg h1, within_ok, tb_b2_some, if_neg h2, within_ok, tb_b2_some, if_neg h3, c5, tb_b2_some, if_pos rfl, hin, tb_ck_t, hcl, c9, hz, e1, tb_b1_some]
      unfold fX3_fitting
      rw [htt, hla, tb_let_eq, show M1 4 8 = nI (a 0 0) from b1.1, hm6.1, tb_b2_some, e3, tb_b2_some, fine_ok, tb_b2_some]
    · rw [pb _ hmU, tb_b2_some, if_neg (by decide), isRow7, tb_b2_some, if_neg h1, in_ok, tb_b2_some, if_neg h2, in_ok, tb_b2_some, if_neg h3, hin, tb_ck_t, hcl, sU 298 (by omega) (by unfold Scr; omega), if_pos c2, c6 _ (sU 298 (by omega) (by unfold Scr; omega)), tb_b2_some, if_neg (by decide), htt]
      have := hm6.2 (tb_up M3 0 9 0) (fun u6 u7 => fX7_fits_L130 tb_N (nI bi) x y z (nI wh) 0 u6 u7 (tb_up M3 0 9 0)) hmU.1
      refine this.trans ?_
      show fX7_fits_L130 tb_N (nI bi) x y z (nI wh) 0 (nI most) (nI least) (tb_up M3 0 9 0) = _
      rw [hx, c9, hz, e4, ends_0 hv0, tb_b2_some]

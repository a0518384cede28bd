/-! what is kept: both sides over one abstract course -/
theorem tb_let_eq {α β : Type} (a : α) (k : α → Option β) : tb_let a k = k a := rfl
abbrev AS : Type := St × Int32 × Nat × (Nat → St × Int32)
def kPush (K : Nat) : Nat := if K < 24 then K + 1 else 24
def hPush (K : Nat) (h : Nat → St × Int32) (x : St × Int32) : Nat → St × Int32 := fun j => if K < 24 then (if j = K then x else h j) else (if j = 23 then x else h (j + 1))
def kp (x : AS) : AS := (x.1, x.2.1, kPush x.2.2.1, hPush x.2.2.1 x.2.2.2 (x.1, x.2.1))
def sLike (a b : St) : Prop := b 0 0 = a 0 0 ∧ ∀ i, i < a 0 0 → b 1 i = a 1 i ∧ b 2 i = a 2 i
theorem sLike.rf (a : St) : sLike a a := ⟨rfl, fun _ _ => ⟨rfl, rfl⟩⟩
theorem sLike.tr {a b c : St} (h : sLike a b) (h2 : sLike b c) : sLike a c := ⟨by rw [h2.1, h.1], fun i hi => by
  have := h2.2 i (by rw [h.1]; exact hi)
  rw [this.1, this.2]
  exact h.2 i hi⟩
theorem sLike.sy {a b : St} (h : sLike a b) : sLike b a := ⟨h.1.symm, fun i hi => by
  have := h.2 i (by rw [← h.1]; exact hi)
  exact ⟨this.1.symm, this.2.symm⟩⟩
def HG (x : AS) : Prop := ∀ j, j < x.2.2.1 → sGood (x.2.2.2 j).1 ∧ sLike x.1 (x.2.2.2 j).1
def slot (nx K j : Nat) : Nat := 24 + 9 * ((nx + 24 - K + j) % 24)
def CH (x : AS) (M : tb_Mem) : Prop := ∃ nx, nx < 24 ∧ x.2.2.1 ≤ 24 ∧ M 22 1 = nI nx ∧ M 22 2 = nI x.2.2.1 ∧ ∀ j, j < x.2.2.1 → BK ((x.2.2.2 j).1 0 0) (x.2.2.2 j).1 M (slot nx x.2.2.1 j) ∧ M (slot nx x.2.2.1 j) 12 = (x.2.2.2 j).2
def CS (x : AS) (M : tb_Mem) : Prop := sGood x.1 ∧ BK (x.1 0 0) x.1 M 4 ∧ M 4 12 = x.2.1 ∧ HG x ∧ CH x M
def DH (x : AS) (M : tb_Mem) : Prop := x.2.2.1 ≤ 24 ∧ M 297 13 = nI x.2.2.1 ∧ ∀ j, j < x.2.2.1 → RMh (x.2.2.2 j).1 (fun k => M 307 (46 * j + k)) ∧ M 307 (46 * j) = (x.2.2.2 j).2
def DS (x : AS) (M : tb_Mem) : Prop := RM x.1 (M 303) ∧ M 303 0 = x.2.1 ∧ DH x M
theorem Inv.split {M : tb_Mem} (h : Inv M) : ∃ x, CS x M ∧ DS x M := by
  obtain ⟨⟨a, ⟨hg, hb, hm, ht⟩, K, nx, hist, k1, k2, k3, k4, k5, k6⟩, -⟩ := h
  refine ⟨(a, M 4 12, K, fun j => (hist j, M (slot nx K j) 12)), ⟨hg, hb, rfl, fun j hj => ⟨(k6 j hj).1, (k6 j hj).2.1, (k6 j hj).2.2.1⟩, nx, k2, k1, k3, k4, fun j hj => ⟨(k6 j hj).2.2.2.1, rfl⟩⟩, hm, ht.symm, k1, k5, fun j hj => ⟨(k6 j hj).2.2.2.2.1, ?_⟩⟩
  exact (k6 j hj).2.2.2.2.2.symm
theorem Inv.join {M M1 M2 : tb_Mem} {x : AS} (h : Inv M) (hs : ∀ q, ¬ (4 ≤ q ∧ q < 240) → M1 q = M q) (hc : CS x M1) (ht : ∀ q, q ≠ 297 → q ≠ 303 → q ≠ 307 → M2 q = M1 q) (h7 : ∀ k, k ≠ 13 → M2 297 k = M1 297 k) (hd : DS x M2) : Inv M2 := by
  obtain ⟨hg, hb, htk, hG, nx, c1, c2, c3, c4, c5⟩ := hc
  obtain ⟨hm, hmt, d1, d2, d3⟩ := hd
  refine h.now (fun q q1 q2 q3 q4 q5 q6 q7 => ?_) (fun k hk => ?_) ⟨x.1, ⟨hg, hb.fr (fun q q1 q2 => ht q (by omega) (by omega) (by omega)), hm, ?_⟩, x.2.2.1, nx, fun j => (x.2.2.2 j).1, c2, c1, ?_, ?_, d2, fun j hj => ⟨(hG j hj).1, (hG j hj).2.1, (hG j hj).2.2, (c5 j hj).1.fr (fun q q1 q2 => ht q ?_ ?_ ?_), (d3 j hj).1, ?_⟩⟩
  · rw [ht q q7 q3 q5, hs q (by omega)]
  · rw [h7 k hk, hs 297 (by omega)]
  · rw [ht 4 (by omega) (by omega) (by omega), htk, hmt]
  · rw [ht 22 (by omega) (by omega) (by omega)]; exact c3
  · rw [ht 22 (by omega) (by omega) (by omega)]; exact c4
  · have : (nx + 24 - x.2.2.1 + j) % 24 < 24 := Nat.mod_lt _ (by omega)
    unfold slot at q2; omega
  · have : (nx + 24 - x.2.2.1 + j) % 24 < 24 := Nat.mod_lt _ (by omega)
    unfold slot at q2; omega
  · have : (nx + 24 - x.2.2.1 + j) % 24 < 24 := Nat.mod_lt _ (by omega)
    unfold slot at q2; omega
  · have : (nx + 24 - x.2.2.1 + j) % 24 < 24 := Nat.mod_lt _ (by omega)
    rw [ht _ (by omega) (by omega) (by omega), (d3 j hj).2]
    exact (c5 j hj).2
theorem DS.fr {x : AS} {M M' : tb_Mem} (h : DS x M) (h1 : M' 303 = M 303) (h2 : M' 307 = M 307) (h3 : M' 297 13 = M 297 13) : DS x M' := by
  unfold DS DH at *
  rw [h1, h2, h3]
  exact h
theorem HG.kp {x : AS} (h : HG x) (hg : sGood x.1) (hK : x.2.2.1 ≤ 24) : HG (kp x) := by
  intro j hj
  show sGood (hPush _ _ _ j).1 ∧ sLike x.1 (hPush _ _ _ j).1
  have hj : j < kPush x.2.2.1 := hj
  unfold kPush at hj
  unfold hPush
  by_cases h1 : x.2.2.1 < 24
  · rw [if_pos h1] at hj ⊢
    by_cases h2 : j = x.2.2.1
    · rw [if_pos h2]; exact ⟨hg, sLike.rf _⟩
    · rw [if_neg h2]; exact h j (by omega)
  · rw [if_neg h1] at hj ⊢
    by_cases h2 : j = 23
    · rw [if_pos h2]; exact ⟨hg, sLike.rf _⟩
    · rw [if_neg h2]; exact h (j + 1) (by omega)
theorem nx_up : ∀ n, n < 24 → ((nI n + 1) - (nI n + 1) / 24 * 24 : Int32) = nI ((n + 1) % 24) := by decide +kernel
theorem nx_dn : ∀ n, n < 24 → (((nI n + 24) - 1) - ((nI n + 24) - 1) / 24 * 24 : Int32) = nI ((n + 23) % 24) := by decide +kernel
theorem c_keep {x : AS} {M : tb_Mem} (h : CS x M) : ∃ M', fX0_keep 4 M = some M' ∧ CS (kp x) M' ∧ ∀ q, ¬ (22 ≤ q ∧ q < 240) → M' q = M q := by
  obtain ⟨hg, hb, htk, hG, nx, c1, c2, c3, c4, c5⟩ := h
  obtain ⟨M1, e1, h1, f1, t1, -⟩ := M_bec (p := 24 + 9 * nx) (p1 := 4) hg.1.1 hb (by omega)
  refine ⟨tb_up (tb_up M1 22 1 (nI ((nx + 1) % 24))) 22 2 (nI (kPush x.2.2.1)), ?_, ⟨hg, hb.fr (fun q q1 q2 => ?_), ?_, hG.kp hg c2, (nx + 1) % 24, Nat.mod_lt _ (by omega), ?_, ?_, ?_, fun j hj => ?_⟩, fun q hq => ?_⟩
  · unfold fX0_keep
    rw [c3, tb_in_t c1 (by omega), tb_ck_t, nI_clamp (by omega), e1, tb_b1_some]
    dsimp only [tb_let]
    rw [f1 22 (by omega), c3, nx_up nx c1, tb_up_same, upd_other _ _ _ (by omega), f1 22 (by omega), c4, nI_1]
    have : (if (24 : Int32) < nI (x.2.2.1 + 1) then (24 : Int32) else nI (x.2.2.1 + 1)) = nI (kPush x.2.2.1) := by
      unfold kPush
      by_cases hK : x.2.2.1 < 24
      · rw [if_pos hK, if_neg (by rw [show (24 : Int32) = nI 24 from rfl, nI_ltI (by omega) (by omega)]; omega)]
      · rw [if_neg hK, if_pos (by rw [show (24 : Int32) = nI 24 from rfl, nI_ltI (by omega) (by omega)]; omega)]; rfl
    rw [this]
  · rw [tb_up_ne (by omega), tb_up_ne (by omega), f1 q (by omega)]
  · rw [tb_up_ne (by omega), tb_up_ne (by omega), f1 4 (by omega)]; exact htk
  · show kPush x.2.2.1 ≤ 24
    unfold kPush; split <;> omega
  · rw [tb_up_same, upd_other _ _ _ (by omega), tb_up_same, upd_same]
  · rw [tb_up_same, upd_same]; rfl
  · have hj : j < kPush x.2.2.1 := hj
    dsimp only [kp]
    have old : ∀ i, i < x.2.2.1 → slot ((nx + 1) % 24) (kPush x.2.2.1) j = slot nx x.2.2.1 i → slot nx x.2.2.1 i ≠ 24 + 9 * nx → BK ((x.2.2.2 i).1 0 0) (x.2.2.2 i).1 (tb_up (tb_up M1 22 1 (nI ((nx + 1) % 24))) 22 2 (nI (kPush x.2.2.1))) (slot ((nx + 1) % 24) (kPush x.2.2.1) j) ∧ (tb_up (tb_up M1 22 1 (nI ((nx + 1) % 24))) 22 2 (nI (kPush x.2.2.1))) (slot ((nx + 1) % 24) (kPush x.2.2.1) j) 12 = (x.2.2.2 i).2 := by
      intro i hi e ne
      rw [e]
      have : (nx + 24 - x.2.2.1 + i) % 24 < 24 := Nat.mod_lt _ (by omega)
      have sb : slot nx x.2.2.1 i = 24 + 9 * ((nx + 24 - x.2.2.1 + i) % 24) := rfl
      refine ⟨(c5 i hi).1.fr (fun q q1 q2 => ?_), ?_⟩
      · rw [tb_up_ne (by omega), tb_up_ne (by omega), f1 q (by omega)]
      · rw [tb_up_ne (by omega), tb_up_ne (by omega), f1 _ (by omega)]
        exact (c5 i hi).2
    have new : slot ((nx + 1) % 24) (kPush x.2.2.1) j = 24 + 9 * nx → BK (x.1 0 0) x.1 (tb_up (tb_up M1 22 1 (nI ((nx + 1) % 24))) 22 2 (nI (kPush x.2.2.1))) (slot ((nx + 1) % 24) (kPush x.2.2.1) j) ∧ (tb_up (tb_up M1 22 1 (nI ((nx + 1) % 24))) 22 2 (nI (kPush x.2.2.1))) (slot ((nx + 1) % 24) (kPush x.2.2.1) j) 12 = x.2.1 := by
      intro e
      rw [e]
      refine ⟨h1.fr (fun q q1 q2 => ?_), ?_⟩
      · rw [tb_up_ne (by omega), tb_up_ne (by omega)]
      · rw [tb_up_ne (by omega), tb_up_ne (by omega), t1]; exact htk
    unfold hPush
    unfold kPush at hj
    by_cases hK : x.2.2.1 < 24
    · rw [if_pos hK] at hj ⊢
      by_cases h2 : j = x.2.2.1
      · rw [if_pos h2]
        exact new (by unfold slot kPush; rw [if_pos hK]; omega)
      · rw [if_neg h2]
        exact old j (by omega) (by unfold slot kPush; rw [if_pos hK]; omega) (by unfold slot; omega)
    · rw [if_neg hK] at hj ⊢
      by_cases h2 : j = 23
      · rw [if_pos h2]
        exact new (by unfold slot kPush; rw [if_neg hK]; omega)
      · rw [if_neg h2]
        exact old (j + 1) (by omega) (by unfold slot kPush; rw [if_neg hK]; omega) (by unfold slot; omega)
  · rw [tb_up_ne (by omega), tb_up_ne (by omega), f1 q (by omega)]

theorem kps_loop {K : Nat} (hK : K < 24) (M : tb_Mem) (h13 : M 297 13 = nI K) : ∀ (m i : Nat) (c : Nat → Int32), i ≤ 46 → 46 - i < m → (∀ u, c u = if 46 * K ≤ u ∧ u < 46 * K + i then M 303 (u - 46 * K) else M 307 u) → fX7_keeps_L51 m (nI i) (tb_row M 307 c) = some (tb_up (tb_row M 307 (fun u => if 46 * K ≤ u ∧ u < 46 * K + 46 then M 303 (u - 46 * K) else M 307 u)) 297 13 (nI (K + 1))) := by
  intro m
  induction m with
  | zero => intro i c h1 h2; omega
  | succ m ih =>
    intro i c h1 h2 hc
    rw [fX7_keeps_L51, zl46]
    by_cases hi : i < 46
    · rw [if_neg (by rw [nI_leI (by omega) (by omega)]; omega), tb_in_t (show i < 63 by omega) (by omega), tb_ck_t, tb_row_ne (show 297 ≠ 307 by omega), h13, pk_mul, nI_add, tb_in_t (by omega) (by omega), tb_ck_t, nI_clamp (by omega), nI_clamp (by omega), nI_1]
      dsimp only [tb_let]
      rw [tb_up_row, tb_row_ne (by omega)]
      refine ih (i + 1) _ (by omega) (by omega) (fun u => ?_)
      simp only [upd]
      by_cases hu : u = 46 * K + i
      · rw [if_pos hu, if_pos (by omega), hu]
        congr 1
        omega
      · rw [if_neg hu, hc u]
        by_cases h3 : 46 * K ≤ u ∧ u < 46 * K + i
        · rw [if_pos h3, if_pos (by omega)]
        · rw [if_neg h3, if_neg (by omega)]
    · have : i = 46 := by omega
      subst this
      rw [if_pos (by decide)]
      dsimp only [tb_let]
      rw [tb_row_ne (show 297 ≠ 307 by omega), h13, nI_1, show c = (fun u => if 46 * K ≤ u ∧ u < 46 * K + 46 then M 303 (u - 46 * K) else M 307 u) from funext hc]
theorem kps_ok {K : Nat} (hK : K < 24) (M : tb_Mem) (h13 : M 297 13 = nI K) : fX7_keeps_L51 tb_N 0 M = some (tb_up (tb_row M 307 (fun u => if 46 * K ≤ u ∧ u < 46 * K + 46 then M 303 (u - 46 * K) else M 307 u)) 297 13 (nI (K + 1))) := by
  have := kps_loop hK M h13 tb_N 0 (M 307) (by omega) (by unfold tb_N; omega) (fun u => by rw [if_neg (by omega)])
  rw [tb_row_self] at this
  exact this
theorem shf_loop (M : tb_Mem) (h13 : M 297 13 = nI 24) : ∀ (m i : Nat) (c : Nat → Int32), i ≤ 1058 → 1058 - i < m → (∀ u, c u = if u < i then M 307 (u + 46) else M 307 u) → fX7_keeps_L11 m (nI i) (tb_row M 307 c) = fX7_keeps_L51 tb_N 0 (tb_up (tb_row M 307 (fun u => if u < 1058 then M 307 (u + 46) else M 307 u)) 297 13 (nI 23)) := by
  intro m
  induction m with
  | zero => intro i c h1 h2; omega
  | succ m ih =>
    intro i c h1 h2 hc
    rw [fX7_keeps_L11, show (1058 : Int32) = nI 1058 from nI_lit 1058, zl46]
    by_cases hi : i < 1058
    · rw [if_neg (by rw [nI_leI (by omega) (by omega)]; omega), nI_add, tb_in_t (by omega) (by omega), tb_ck_t, tb_in_t (show i < 1104 by omega) (by omega), tb_ck_t, nI_clamp (by omega), nI_clamp (by omega), nI_1]
      dsimp only [tb_let]
      rw [tb_up_row, tb_row_same]
      refine ih (i + 1) _ (by omega) (by omega) (fun u => ?_)
      simp only [upd]
      by_cases hu : u = i
      · rw [if_pos hu, if_pos (by omega), hu, hc, if_neg (by omega)]
      · rw [if_neg hu, hc u]
        by_cases h3 : u < i
        · rw [if_pos h3, if_pos (by omega)]
        · rw [if_neg h3, if_neg (by omega)]
    · have hi2 : i = 1058 := by omega
      rw [if_pos (by rw [nI_leI (by omega) (by omega)]; omega)]
      rw [hi2] at hc
      rw [tb_let_eq, tb_row_ne (show 297 ≠ 307 by omega), h13, show nI 24 - 1 = nI 23 from by decide, show c = (fun u => if u < 1058 then M 307 (u + 46) else M 307 u) from funext hc]
theorem RMh.cg {b : St} {c d : Nat → Int32} (hn : b 0 0 ≤ 8) (h : RMh b c) (e : ∀ k, k < 46 → d k = c k) : RMh b d := by
  refine ⟨fun i hi => ?_, ?_, fun k hk => ?_⟩
  · rw [e _ (by omega), e _ (by omega), e _ (by omega)]
    exact h.1 i hi
  · rw [e 1 (by omega)]; exact h.2.1
  · rw [e _ (by omega)]; exact h.2.2 k hk
theorem RM.h {a : St} {c : Nat → Int32} (h : RM a c) : RMh a c := ⟨fun i hi => ⟨(h.2.1 i hi).1, (h.2.1 i hi).2.1, (h.2.1 i hi).2.2.1⟩, h.2.2.1, h.2.2.2⟩
theorem d_keep {x : AS} {M : tb_Mem} (hn : x.1 0 0 ≤ 8) (hG : ∀ j, j < x.2.2.1 → (x.2.2.2 j).1 0 0 ≤ 8) (h : DS x M) : ∃ M', fX7_keeps M = some M' ∧ DS (kp x) M' ∧ (∀ q, q ≠ 297 → q ≠ 307 → M' q = M q) ∧ ∀ k, k ≠ 13 → M' 297 k = M 297 k := by
  obtain ⟨hm, ht, d1, d2, d3⟩ := h
  unfold fX7_keeps
  by_cases hK : x.2.2.1 < 24
  · rw [d2, if_neg (by rw [show (24 : Int32) = nI 24 from rfl, nI_eq (by omega) (by omega)]; omega), kps_ok hK M d2]
    refine ⟨_, rfl, ⟨?_, ?_, ?_, ?_, fun j hj => ?_⟩, fun q q1 q2 => ?_, fun k hk => ?_⟩
    · show RM x.1 _
      rw [tb_up_ne (by omega), tb_row_ne (by omega)]; exact hm
    · rw [tb_up_ne (by omega), tb_row_ne (by omega)]; exact ht
    · show kPush _ ≤ 24
      unfold kPush; rw [if_pos hK]; omega
    · show _ = nI (kPush _)
      unfold kPush; rw [if_pos hK, tb_up_same, upd_same]
    · have hj : j < kPush x.2.2.1 := hj
      dsimp only [kp]
      unfold kPush at hj
      rw [if_pos hK] at hj
      unfold hPush
      rw [if_pos hK]
      by_cases h2 : j = x.2.2.1
      · rw [if_pos h2, h2]
        refine ⟨hm.h.cg hn (fun k hk => ?_), ?_⟩
        · rw [tb_up_ne (by omega), tb_row_same, if_pos (by omega)]
          congr 1; omega
        · rw [tb_up_ne (by omega), tb_row_same, if_pos (by omega), Nat.sub_self]; exact ht
      · rw [if_neg h2]
        refine ⟨(d3 j (by omega)).1.cg (hG j (by omega)) (fun k hk => ?_), ?_⟩
        · rw [tb_up_ne (by omega), tb_row_same, if_neg (by omega)]
        · rw [tb_up_ne (by omega), tb_row_same, if_neg (by omega)]; exact (d3 j (by omega)).2
    · rw [tb_up_ne q1, tb_row_ne q2]
    · rw [tb_up_same, upd_other _ _ _ hk, tb_row_ne (by omega)]
  · have k24 : x.2.2.1 = 24 := by omega
    have h13 : M 297 13 = nI 24 := by rw [d2, k24]
    have e1 := shf_loop M h13 tb_N 0 (M 307) (by omega) (by unfold tb_N; omega) (fun u => by rw [if_neg (by omega)])
    rw [tb_row_self] at e1
    rw [h13, if_pos (by decide), show (0 : Int32) = nI 0 from rfl, e1, kps_ok (K := 23) (by omega) _ (by rw [tb_up_same, upd_same])]
    refine ⟨_, rfl, ⟨?_, ?_, ?_, ?_, fun j hj => ?_⟩, fun q q1 q2 => ?_, fun k hk => ?_⟩
    · show RM x.1 _
      rw [tb_up_ne (by omega), tb_row_ne (by omega), tb_up_ne (by omega), tb_row_ne (by omega)]; exact hm
    · rw [tb_up_ne (by omega), tb_row_ne (by omega), tb_up_ne (by omega), tb_row_ne (by omega)]; exact ht
    · show kPush _ ≤ 24
      unfold kPush; rw [if_neg hK]; omega
    · show _ = nI (kPush _)
      unfold kPush; rw [if_neg hK, tb_up_same, upd_same]
    · have hj : j < kPush x.2.2.1 := hj
      dsimp only [kp]
      unfold kPush at hj
      rw [if_neg hK] at hj
      unfold hPush
      rw [if_neg hK]
      by_cases h2 : j = 23
      · rw [if_pos h2, h2]
        refine ⟨hm.h.cg hn (fun k hk => ?_), ?_⟩
        · rw [tb_up_ne (by omega), tb_row_same, if_pos (by omega), tb_up_ne (by omega), tb_row_ne (by omega), Nat.add_sub_cancel_left]
        · rw [tb_up_ne (by omega), tb_row_same, if_pos (by omega), tb_up_ne (by omega), tb_row_ne (by omega), Nat.sub_self]; exact ht
      · rw [if_neg h2]
        refine ⟨(d3 (j + 1) (by omega)).1.cg (hG (j + 1) (by omega)) (fun k hk => ?_), ?_⟩
        · rw [tb_up_ne (by omega), tb_row_same, if_neg (by omega), tb_up_ne (by omega), tb_row_same, if_pos (by omega), show 46 * j + k + 46 = 46 * (j + 1) + k by omega]
        · rw [tb_up_ne (by omega), tb_row_same, if_neg (by omega), tb_up_ne (by omega), tb_row_same, if_pos (by omega)]; exact (d3 (j + 1) (by omega)).2
    · rw [tb_up_ne q1, tb_row_ne q2, tb_up_ne q1, tb_row_ne q2]
    · rw [tb_up_same, upd_other _ _ _ hk, tb_row_ne (by omega), tb_up_same, upd_other _ _ _ hk, tb_row_ne (by omega)]
theorem CS.now {x : AS} {M M' : tb_Mem} {b : St} (h : CS x M) (hf : Fr 4 M M') (hg : sGood b) (hl : sLike x.1 b) (hb : BK (b 0 0) b M' 4) : CS (b, M' 4 12, x.2.2) M' := by
  obtain ⟨-, -, -, hG, nx, c1, c2, c3, c4, c5⟩ := h
  refine ⟨hg, hb, rfl, fun j hj => ⟨(hG j hj).1, hl.sy.tr (hG j hj).2⟩, nx, c1, c2, ?_, ?_, fun j hj => ?_⟩
  · rw [hf 22 (by omega)]; exact c3
  · rw [hf 22 (by omega)]; exact c4
  · have : (nx + 24 - x.2.2.1 + j) % 24 < 24 := Nat.mod_lt _ (by omega)
    have sb : slot nx x.2.2.1 j = 24 + 9 * ((nx + 24 - x.2.2.1 + j) % 24) := rfl
    have hj : j < x.2.2.1 := hj
    refine ⟨(c5 j hj).1.fr (fun q q1 q2 => hf q (by omega)), ?_⟩
    show M' (slot nx x.2.2.1 j) 12 = _
    rw [hf _ (by omega)]
    exact (c5 j hj).2
theorem DS.now {x : AS} {M M' : tb_Mem} {b : St} (h : DS x M) (hf : Fq 303 M M') (hb : RM b (M' 303)) : DS (b, M' 303 0, x.2.2) M' := by
  obtain ⟨-, -, d⟩ := h
  refine ⟨hb, rfl, ?_⟩
  unfold DH at *
  rw [hf 297 (by omega), hf 307 (by omega)]
  exact d
theorem CS.n8 {x : AS} {M : tb_Mem} (h : CS x M) : x.1 0 0 ≤ 8 ∧ ∀ j, j < x.2.2.1 → (x.2.2.2 j).1 0 0 ≤ 8 := ⟨h.1.1.1, fun j hj => (h.2.2.2.1 j hj).1.1.1⟩

/-! what is foretold -/
def Sc (M M' : tb_Mem) : Prop := ∀ q, ¬ Scr q → M' q = M q
theorem Sc.tr {M M1 M2 : tb_Mem} (h : Sc M M1) (h2 : Sc M1 M2) : Sc M M2 := fun q hq => by rw [h2 q hq, h q hq]
theorem Sc.rf {M : tb_Mem} : Sc M M := fun _ _ => rfl
theorem Sc.f241 {M M1 : tb_Mem} (h : Fr 241 M M1) : Sc M M1 := fun q hq => h q (by unfold Scr at hq; omega)
theorem Sc.f250 {M M1 : tb_Mem} (h : Fr 250 M M1) : Sc M M1 := fun q hq => h q (by unfold Scr at hq; omega)
theorem Sc.f308 {M M1 : tb_Mem} (h : Fq 308 M M1) : Sc M M1 := fun q hq => h q (by unfold Scr at hq; omega)
theorem Sc.at {M M1 : tb_Mem} (h : Sc M M1) (q : Nat) (hq : q ≤ 12 ∨ (22 ≤ q ∧ q < 240) ∨ (260 ≤ q ∧ q ≤ 300) ∨ q = 302 ∨ q = 303) : M1 q = M q := h q (by unfold Scr; omega)
theorem BK.sc {k : Nat} {a : St} {M M1 : tb_Mem} (h : BK k a M 4) (hs : Sc M M1) : BK k a M1 4 := h.fr (fun q q1 q2 => hs.at q (by omega))
theorem RM.sc {a : St} {M M1 : tb_Mem} (h : RM a (M 303)) (hs : Sc M M1) : RM a (M1 303) := by rw [hs.at 303 (by omega)]; exact h
theorem M_tkOn {a : St} {M : tb_Mem} {d : Nat} (hg : sGood a) (h : BK (a 0 0) a M 4) (hd : d ≤ 100) : ∃ M', fX3_ticksOn 4 (nI d) M = some M' ∧ BK (a 0 0) (sTn a d) M' 241 ∧ Sc M M' := by
  obtain ⟨M1, e1, b1, f1, -, -⟩ := M_bec (p := 241) (p1 := 4) hg.1.1 h (by omega)
  obtain ⟨M2, e2, b2, f2⟩ := M_foresee hg b1 d hd
  exact ⟨M2, by unfold fX3_ticksOn; rw [e1, tb_b1_some, e2, tb_b1_some], b2, (Sc.f241 f1).tr (Sc.f241 f2)⟩
theorem s_height (y z : Int32) : Sim (fX6_height y z) (fX7_height y z) := by
  intro M h
  obtain ⟨⟨a, ⟨hg, hb, hm, ht⟩, -⟩, -⟩ := id h
  have hn := hg.1.1
  unfold fX6_height fX7_height
  rcases bar_both (M' := M) hg.1 hb hm y with ⟨c1, c2⟩ | ⟨i, hi, rfl, c1, c2⟩
  · exact ⟨_, M, M, by rw [c1, tb_b2_some, if_pos rfl], by rw [c2, tb_b2_some, if_pos rfl], h⟩
  by_cases hz : inV z 0 60 = 0
  · exact ⟨_, M, M, by rw [c1, tb_b2_some, if_neg (by decide), within_ok, tb_b2_some, if_pos hz], by rw [c2, tb_b2_some, if_neg (by decide), in_ok, tb_b2_some, if_pos hz], h⟩
  obtain ⟨d, -, hd, rfl⟩ := inV_1 (l := 0) (h := 60) (by omega) (by omega) hz
  obtain ⟨M1, e1, b1, s1⟩ := M_tkOn hg hb (d := d) (by omega)
  have m1 := hm.sc s1
  obtain ⟨M2, e2, m2, f2⟩ := N_goesOn hg (d := d) (by omega) m1
  have n0 : sTn a d 0 0 = a 0 0 := by rw [sTn_0]
  have hi2 : i < sTn a d 0 0 := by rw [n0]; exact hi
  rcases bar_both (M' := M1) hg.1 hb m1 (nI i) with ⟨u1, -⟩ | ⟨_, _, _, _, u2⟩
  · rw [c1] at u1; cases u1
  refine ⟨M1 248 i, M1, M2, ?_, ?_, h.scr (s1.tr (Sc.f308 f2))⟩
  · rw [c1, tb_b2_some, if_neg (by decide), within_ok, tb_b2_some, if_neg hz, e1, tb_b1_some, tb_in_t (by omega) (by omega), tb_ck_t, nI_clamp (by omega)]
  · rw [u2, tb_b2_some, if_neg (by decide), in_ok, tb_b2_some, if_neg hz, e2, tb_b1_some, N_high (sTn_good hg d) m2 hi2, tb_b2_some, show M1 248 i = nI (sHg (sTn a d) i) from (b1.2.1 i hi2).2.2.2.2.2.2 (Or.inr hi)]
theorem s_later (y z : Int32) : Sim (fX6_later y z) (fX7_later y z) := by
  intro M h
  obtain ⟨⟨a, ⟨hg, hb, hm, ht⟩, -⟩, -⟩ := id h
  have hn := hg.1.1
  unfold fX6_later fX7_later
  by_cases h0 : a 0 0 = 0
  · exact ⟨-1000002, M, M, by rw [if_pos ((noBask hn hb).mpr h0)], by rw [isBask hn hm, tb_b2_some, if_pos h0, if_pos rfl], h⟩
  have z0 := fun z => h0 ((noBask hn hb).mp z)
  by_cases hy : inV y 0 60 = 0
  · exact ⟨_, M, M, by rw [if_neg z0, within_ok, tb_b2_some, if_pos hy], by rw [isBask hn hm, tb_b2_some, if_neg h0, if_neg (by decide), in_ok, tb_b2_some, if_pos hy], h⟩
  by_cases hz : inV z 0 2 = 0
  · exact ⟨_, M, M, by rw [if_neg z0, within_ok, tb_b2_some, if_neg hy, within_ok, tb_b2_some, if_pos hz], by rw [isBask hn hm, tb_b2_some, if_neg h0, if_neg (by decide), in_ok, tb_b2_some, if_neg hy, in_ok, tb_b2_some, if_pos hz], h⟩
  obtain ⟨d, -, hd, rfl⟩ := inV_1 (l := 0) (h := 60) (by omega) (by omega) hy
  obtain ⟨M1, e1, b1, s1⟩ := M_tkOn hg hb (d := d) (by omega)
  have m1 := hm.sc s1
  obtain ⟨M2, e2, m2, f2⟩ := N_goesOn hg (d := d) (by omega) m1
  have n0 : sTn a d 0 0 = a 0 0 := by rw [sTn_0]
  have hI := h.scr (s1.tr (Sc.f308 f2))
  have l6 : ∀ v, (if z = 0 then some ((M1 241 10), M1) else (if z = 1 then some ((M1 241 9), M1) else some ((M1 241 11), M1))) = some (v, M1) → (if (M 4 8) = 0 then (some ((-1000002), M)) else (tb_b2 (fX6_within (nI d) 0 60 M) (fun r4 M2 => if r4 = 0 then (some ((-1000001), M2)) else (tb_b2 (fX6_within z 0 2 M2) (fun r8 M6 => if r8 = 0 then (some ((-1000001), M6)) else (tb_b1 (fX3_ticksOn 4 (nI d) M6) (fun M10 => if z = 0 then (some ((M10 241 10), M10)) else (if z = 1 then (some ((M10 241 9), M10)) else (some ((M10 241 11), M10)))))))))) = some (v, M1) := by
    intro v hv
    rw [if_neg z0, within_ok, tb_b2_some, if_neg hy, within_ok, tb_b2_some, if_neg hz, e1, tb_b1_some, hv]
  by_cases z1 : z = 0
  · obtain ⟨w, e3, k3⟩ := N_hanging (M := M2) (q := 308) (sTn_good hg d).1 m2
    refine ⟨_, M1, M2, l6 _ (by rw [if_pos z1]), ?_, hI⟩
    rw [isBask hn m1, tb_b2_some, if_neg h0, if_neg (by decide), in_ok, tb_b2_some, if_neg hy, in_ok, tb_b2_some, if_neg hz, e2, tb_b1_some, if_pos z1, e3, tb_b2_some, k3.eq b1.2.2.2.1]
  by_cases z2 : z = 1
  · obtain ⟨w, e3, k3⟩ := N_moving (M := M2) (q := 308) (sTn_good hg d).1 m2
    refine ⟨_, M1, M2, l6 _ (by rw [if_neg z1, if_pos z2]), ?_, hI⟩
    rw [isBask hn m1, tb_b2_some, if_neg h0, if_neg (by decide), in_ok, tb_b2_some, if_neg hy, in_ok, tb_b2_some, if_neg hz, e2, tb_b1_some, if_neg z1, if_pos z2, e3, tb_b2_some, k3.eq b1.2.2.1]
  · refine ⟨_, M1, M2, l6 _ (by rw [if_neg z1, if_neg z2]), ?_, hI⟩
    rw [isBask hn m1, tb_b2_some, if_neg h0, if_neg (by decide), in_ok, tb_b2_some, if_neg hy, in_ok, tb_b2_some, if_neg hz, e2, tb_b1_some, if_neg z1, if_neg z2, m2.2.2.1, show M1 241 11 = nI (sTn a d 6 0) from b1.2.2.2.2.1]
/-! jam -/
def hNo (a : St) : Prop := ∀ i, i < a 0 0 → sHn a i = false
theorem jam_c {a : St} : ∀ (c m d : Nat) (b : St) (M : tb_Mem), d + c = 61 → c < m → sGood b → BK (b 0 0) b M 241 → ∃ (r : Nat) (b' : St) (M' : tb_Mem), fX3_ticksToJam_L10 4 m (nI d) M = some ((if r = 61 then -1000000 else nI r), M') ∧ r ≤ 61 ∧ BK (b' 0 0) b' M' 241 ∧ Fr 241 M M' ∧ sGood b' ∧ b' 0 0 = b 0 0 ∧
    ∀ (x : Int32) (m2 : Nat) (M2 : tb_Mem), c < m2 → RM b (M2 308) → ∃ M3, Fq 308 M2 M3 ∧ (fX7_jam_L35 m2 x (nI d) M2 = some ((if r = 61 then -1000000 else if x = 0 then nI r else M' 241 10), M3)) := by
  intro c
  induction c with
  | zero =>
    intro m d b M h1 h2 hg hb
    obtain ⟨m, rfl⟩ : ∃ k, m = k + 1 := ⟨m - 1, by omega⟩
    have : d = 61 := by omega
    subst this
    refine ⟨61, b, M, ?_, by omega, hb, Fr.rf, hg, rfl, fun x m2 M2 h3 hm => ⟨M2, Fq.rf, ?_⟩⟩
    · rw [fX3_ticksToJam_L10, if_pos (by decide), if_pos rfl]
    · obtain ⟨m2, rfl⟩ : ∃ k, m2 = k + 1 := ⟨m2 - 1, by omega⟩
      rw [fX7_jam_L35, if_pos (by decide), if_pos rfl]
  | succ c ih =>
    intro m d b M h1 h2 hg hb
    obtain ⟨m, rfl⟩ : ∃ k, m = k + 1 := ⟨m - 1, by omega⟩
    have q : ¬ (60 : Int32) < nI d := by rw [show (60 : Int32) = nI 60 from rfl, nI_ltI (by omega) (by omega)]; omega
    by_cases h0 : M 241 10 = 0
    · obtain ⟨M1, e1, b1, f1, -⟩ := M_pass (p := 241) hg.1 hb
      have nb : sTk b 0 0 = b 0 0 := by rw [sTk_0]
      obtain ⟨r, b', M', e2, r1, b2, f2, g2, n2, h3⟩ := ih m (d + 1) (sTk b) M1 (by omega) (by omega) (sTk_good hg.1) (by rw [nb]; exact b1)
      refine ⟨r, b', M', ?_, r1, b2, f1.trans f2, g2, by rw [n2, nb], fun x m2 M2 k1 hm => ?_⟩
      · rw [fX3_ticksToJam_L10, if_neg q, if_pos h0, e1, tb_b2_some, nI_1, e2]
      · obtain ⟨m2, rfl⟩ : ∃ k, m2 = k + 1 := ⟨m2 - 1, by omega⟩
        obtain ⟨w, k2, k3⟩ := N_hanging (M := M2) (q := 308) hg.1 hm
        obtain ⟨M3, e3, m3, f3, -⟩ := N_tick (q := 308) hg.1 hm
        obtain ⟨M4, f4, e4⟩ := h3 x m2 M3 (by omega) m3
        refine ⟨M4, f3.trans f4, ?_⟩
        rw [fX7_jam_L35, if_neg q, k2, tb_b2_some, if_pos (by rw [k3.eq hb.2.2.2.1]; exact h0), e3, tb_b2_some, nI_1, e4]
    · refine ⟨d, b, M, ?_, by omega, hb, Fr.rf, hg, rfl, fun x m2 M2 k1 hm => ⟨M2, Fq.rf, ?_⟩⟩
      · rw [fX3_ticksToJam_L10, if_neg q, if_neg h0, if_neg (by omega)]
      · obtain ⟨m2, rfl⟩ : ∃ k, m2 = k + 1 := ⟨m2 - 1, by omega⟩
        obtain ⟨w, k2, k3⟩ := N_hanging (M := M2) (q := 308) hg.1 hm
        have we : w = M 241 10 := k3.eq hb.2.2.2.1
        rw [fX7_jam_L35, if_neg q, k2, tb_b2_some, if_neg (by rw [we]; exact h0), if_neg (show ¬ d = 61 by omega)]
        by_cases hx : x = 0
        · rw [if_pos hx, if_pos hx]
        · rw [if_neg hx, if_neg hx, k2, tb_b2_some, we]
theorem s_jam (y : Int32) : Sim (fX6_jam y) (fX7_jam y) := by
  intro M h
  obtain ⟨⟨a, ⟨hg, hb, hm, ht⟩, -⟩, -⟩ := id h
  have hn := hg.1.1
  unfold fX6_jam fX7_jam
  by_cases h0 : a 0 0 = 0
  · exact ⟨-1000002, M, M, by rw [if_pos ((noBask hn hb).mpr h0)], by rw [isBask hn hm, tb_b2_some, if_pos h0, if_pos rfl], h⟩
  have z0 := fun z => h0 ((noBask hn hb).mp z)
  by_cases hy : inV y 0 1 = 0
  · exact ⟨_, M, M, by rw [if_neg z0, within_ok, tb_b2_some, if_pos hy], by rw [isBask hn hm, tb_b2_some, if_neg h0, if_neg (by decide), in_ok, tb_b2_some, if_pos hy], h⟩
  obtain ⟨M1, e1, b1, f1, -, -⟩ := M_bec (p := 241) (p1 := 4) hn hb (by omega)
  obtain ⟨r, b', M2, e2, r1, b2, f2, g2, n2, h3⟩ := jam_c (a := a) 61 tb_N 0 a M1 (by omega) (by unfold tb_N; omega) hg b1
  have s2 : Sc M M2 := (Sc.f241 f1).tr (Sc.f241 f2)
  obtain ⟨M3, e3, m3, f3⟩ := N_cop hn (hm.sc s2)
  obtain ⟨M4, f4, e4⟩ := h3 y tb_N M3 (by unfold tb_N; omega) m3
  have hr : fX3_ticksToJam 4 M = some ((if r = 61 then -1000000 else nI r), M2) := by
    unfold fX3_ticksToJam
    rw [e1, tb_b1_some]
    exact e2
  refine ⟨(if r = 61 then -1000000 else if y = 0 then nI r else M2 241 10), M2, M4, ?_, ?_, h.scr (s2.tr ((Sc.f308 f3).tr (Sc.f308 f4)))⟩
  · rw [if_neg z0, within_ok, tb_b2_some, if_neg hy, hr, tb_b2_some]
    by_cases hr61 : r = 61
    · rw [if_pos hr61, if_pos rfl, if_pos hr61]
    · have ne : ¬ nI r = -1000000 := by
        intro z
        have := congrArg Int32.toInt z
        rw [nI_toInt (by omega)] at this
        have e : (-1000000 : Int32).toInt = -1000000 := by decide
        omega
      rw [if_neg hr61, if_neg ne, if_neg hr61]
      by_cases y0 : y = 0
      · rw [if_pos y0, if_pos y0]
      · rw [if_neg y0, if_neg y0]
  · rw [isBask hn (hm.sc s2), tb_b2_some, if_neg h0, if_neg (by decide), in_ok, tb_b2_some, if_neg hy, e3, tb_b1_some]
    exact e4

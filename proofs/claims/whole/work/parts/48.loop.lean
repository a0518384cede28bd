/-! the law's loop -/
theorem lw_gt {i L : Nat} (hi : i ≤ 6200) (hL : L ≤ 3072) : (Int32.ofNat L - 6 < nI i) ↔ L < i + 6 := by
  rw [Int32.lt_iff_toInt_lt, show (Int32.ofNat L - 6).toInt = (L : Int) - 6 from pk_sub_toInt (a := L) (b := 6) (by omega) (by omega), nI_toInt (by omega)]
  omega
section LAWL
variable {p : Program} {l : Launch} {e : Env} {s : State} {m : MethodId} {below : List Frame} {meth : Method} {c : Code}
variable {g : tb_GT} {cw : Cond} {b L : Nat} {xs : Nat → Int32}
set_option maxHeartbeats 4000000 in
set_option maxRecDepth 100000 in
theorem law_step {H : Heap} {locs : List Loc} {Q : State → Prop} {ls : Array Slot} {M : tb_Mem} {i : Nat} (F : tb_F g cL_law 4 RL ret cw p s m #[Value.ref b] meth c) (X : lw_X g b L xs s) (hI : Inv M) (hP : tb_P g M H) (hS : va_S (tb_A g) s.heap H locs) (hl : lv_has ls 4 (lw_lv g b i)) (hi : i + 6 ≤ L)
    (kk : ∀ (M2 : tb_Mem) (H2 : Heap) (locs2 : List Loc), Inv M2 → tb_P g M2 H2 → va_S (tb_A g) s.heap H2 locs2 → W p l e room_1 s m #[Value.ref b] below meth c H2 locs2 600000 7302250 Q (F0 m 1122 ls [])) : W p l e room_1 s m #[Value.ref b] below meth c H locs 600000 7302250 Q (F0 m 27 ls []) := by
  have hx := F.1.1
  have hb := F.1.2.1
  have hL := X.2.2.2
  refine lv_aload_n hx hb dL_law_27 rfl (lv_at hl 3 rfl) ?_
  refine lv_iload_n hx hb dL_law_28 rfl (lv_at hl 0 rfl) ?_
  refine va_sld hx hb X.1 X.2.1 X.2.2.1 hS (vp_in_nI (by omega) (by omega)) dL_law_29 ?_
  refine lv_bipush (v := 31) hx hb dL_law_30 (by decide) ?_
  refine lv_iand hx hb dL_law_32 ?_
  obtain ⟨j, hj, hw⟩ := and31 (xs (nI i).toNatClampNeg)
  rw [hw]
  have h32 : j = 0 ∨ j = 1 ∨ j = 2 ∨ j = 3 ∨ j = 4 ∨ j = 5 ∨ j = 6 ∨ j = 7 ∨ j = 8 ∨ j = 9 ∨ j = 10 ∨ j = 11 ∨ j = 12 ∨ j = 13 ∨ j = 14 ∨ j = 15 ∨ j = 16 ∨ j = 17 ∨ j = 18 ∨ j = 19 ∨ j = 20 ∨ j = 21 ∨ j = 22 ∨ j = 23 ∨ j = 24 ∨ j = 25 ∨ j = 26 ∨ j = 27 ∨ j = 28 ∨ j = 29 ∨ j = 30 ∨ j = 31 := by omega
  rcases h32 with rfl | rfl | rfl | rfl | rfl | rfl | rfl | rfl | rfl | rfl | rfl | rfl | rfl | rfl | rfl | rfl | rfl | rfl | rfl | rfl | rfl | rfl | rfl | rfl | rfl | rfl | rfl | rfl | rfl | rfl | rfl | rfl
  · refine lv_tableIn (tgt := 176) hx hb dL_law_33 (by decide) (by decide) rfl (by decide) ?_
    exact law_k0 F X hI hP hS hl hi kk
  · refine lv_tableIn (tgt := 219) hx hb dL_law_33 (by decide) (by decide) rfl (by decide) ?_
    exact law_k1 F X hI hP hS hl hi kk
  · refine lv_tableIn (tgt := 262) hx hb dL_law_33 (by decide) (by decide) rfl (by decide) ?_
    exact law_k2 F X hI hP hS hl hi kk
  · refine lv_tableIn (tgt := 325) hx hb dL_law_33 (by decide) (by decide) rfl (by decide) ?_
    exact law_k3 F X hI hP hS hl hi kk
  · refine lv_tableIn (tgt := 348) hx hb dL_law_33 (by decide) (by decide) rfl (by decide) ?_
    exact law_k4 F X hI hP hS hl hi kk
  · refine lv_tableIn (tgt := 371) hx hb dL_law_33 (by decide) (by decide) rfl (by decide) ?_
    exact law_k5 F X hI hP hS hl hi kk
  · refine lv_tableIn (tgt := 384) hx hb dL_law_33 (by decide) (by decide) rfl (by decide) ?_
    exact law_k6 F X hI hP hS hl hi kk
  · refine lv_tableIn (tgt := 397) hx hb dL_law_33 (by decide) (by decide) rfl (by decide) ?_
    exact law_k7 F X hI hP hS hl hi kk
  · refine lv_tableIn (tgt := 420) hx hb dL_law_33 (by decide) (by decide) rfl (by decide) ?_
    exact law_k8 F X hI hP hS hl hi kk
  · refine lv_tableIn (tgt := 443) hx hb dL_law_33 (by decide) (by decide) rfl (by decide) ?_
    exact law_k9 F X hI hP hS hl hi kk
  · refine lv_tableIn (tgt := 456) hx hb dL_law_33 (by decide) (by decide) rfl (by decide) ?_
    exact law_k10 F X hI hP hS hl hi kk
  · refine lv_tableIn (tgt := 469) hx hb dL_law_33 (by decide) (by decide) rfl (by decide) ?_
    exact law_k11 F X hI hP hS hl hi kk
  · refine lv_tableIn (tgt := 502) hx hb dL_law_33 (by decide) (by decide) rfl (by decide) ?_
    exact law_k12 F X hI hP hS hl hi kk
  · refine lv_tableIn (tgt := 515) hx hb dL_law_33 (by decide) (by decide) rfl (by decide) ?_
    exact law_k13 F X hI hP hS hl hi kk
  · refine lv_tableIn (tgt := 548) hx hb dL_law_33 (by decide) (by decide) rfl (by decide) ?_
    exact law_k14 F X hI hP hS hl hi kk
  · refine lv_tableIn (tgt := 571) hx hb dL_law_33 (by decide) (by decide) rfl (by decide) ?_
    exact law_k15 F X hI hP hS hl hi kk
  · refine lv_tableIn (tgt := 604) hx hb dL_law_33 (by decide) (by decide) rfl (by decide) ?_
    exact law_k16 F X hI hP hS hl hi kk
  · refine lv_tableIn (tgt := 637) hx hb dL_law_33 (by decide) (by decide) rfl (by decide) ?_
    exact law_k17 F X hI hP hS hl hi kk
  · refine lv_tableIn (tgt := 660) hx hb dL_law_33 (by decide) (by decide) rfl (by decide) ?_
    exact law_k18 F X hI hP hS hl hi kk
  · refine lv_tableIn (tgt := 683) hx hb dL_law_33 (by decide) (by decide) rfl (by decide) ?_
    exact law_k19 F X hI hP hS hl hi kk
  · refine lv_tableIn (tgt := 726) hx hb dL_law_33 (by decide) (by decide) rfl (by decide) ?_
    exact law_k20 F X hI hP hS hl hi kk
  · refine lv_tableIn (tgt := 779) hx hb dL_law_33 (by decide) (by decide) rfl (by decide) ?_
    exact law_k21 F X hI hP hS hl hi kk
  · refine lv_tableIn (tgt := 842) hx hb dL_law_33 (by decide) (by decide) rfl (by decide) ?_
    exact law_k22 F X hI hP hS hl hi kk
  · refine lv_tableIn (tgt := 885) hx hb dL_law_33 (by decide) (by decide) rfl (by decide) ?_
    exact law_k23 F X hI hP hS hl hi kk
  · refine lv_tableIn (tgt := 928) hx hb dL_law_33 (by decide) (by decide) rfl (by decide) ?_
    exact law_k24 F X hI hP hS hl hi kk
  · refine lv_tableIn (tgt := 951) hx hb dL_law_33 (by decide) (by decide) rfl (by decide) ?_
    exact law_k25 F X hI hP hS hl hi kk
  · refine lv_tableIn (tgt := 974) hx hb dL_law_33 (by decide) (by decide) rfl (by decide) ?_
    exact law_k26 F X hI hP hS hl hi kk
  · refine lv_tableIn (tgt := 997) hx hb dL_law_33 (by decide) (by decide) rfl (by decide) ?_
    exact law_k27 F X hI hP hS hl hi kk
  · refine lv_tableIn (tgt := 1030) hx hb dL_law_33 (by decide) (by decide) rfl (by decide) ?_
    exact law_k28 F X hI hP hS hl hi kk
  · refine lv_tableIn (tgt := 1063) hx hb dL_law_33 (by decide) (by decide) rfl (by decide) ?_
    exact law_k29 F X hI hP hS hl hi kk
  · refine lv_tableIn (tgt := 1086) hx hb dL_law_33 (by decide) (by decide) rfl (by decide) ?_
    exact law_k30 F X hI hP hS hl hi kk
  · refine lv_tableIn (tgt := 1109) hx hb dL_law_33 (by decide) (by decide) rfl (by decide) ?_
    exact law_k31 F X hI hP hS hl hi kk
theorem lw_ret {b : Nat} (hx : p.tables.exec = Jvm.exec) (hb : c.code = code) (hr : meth.sig.returnType = ret) (hlocks : meth.locks = false) {pc : Nat} {H : Heap} {ls : Array Slot} (hdg : decode code pc = .ok (.ireturn, 1)) : W p l e room_1 s m #[Value.ref b] below meth c H [] 600000 7302250 (lw_Z below #[Value.ref b] s) (F0 m pc ls [.int 1]) := by
  intro T hT X
  obtain ⟨fs, hret, hrun, hended, hW, hframe⟩ := X.leave (v := some (.int 1)) (hlocks := hlocks) (fun h => by rw [hr] at h; cases h)
  have hmeth' : T.vm.method? m = some meth := X.method'
  refine ⟨T.setFrames fs, ?_, .returned (some (.int 1)), hrun, hended, rfl, ⟨_, rfl⟩, hW, hframe⟩
  jvm_step X.here [X.here.top, hx, hb, hdg, hmeth', hr, ret, narrow_b1]
  (try refine ⟨rfl, ?_⟩); (try refine ⟨rfl, ?_⟩)
  first | (intro acts; rw [hret _ acts rfl rfl rfl]) | rw [hret _ _ rfl rfl rfl]
  exact Steps.refl _
set_option maxHeartbeats 4000000 in
set_option maxRecDepth 100000 in
theorem law_loop (F : tb_F g cL_law 4 RL ret cw p s m #[Value.ref b] meth c) (X : lw_X g b L xs s) (hAs : ∀ q, tb_A g q → s.heap.size ≤ q) : ∀ (n i : Nat), L < i + 6 + n → i ≤ 3072 → ∀ (M : tb_Mem) (H : Heap) (locs : List Loc) (ls : Array Slot), Inv M → tb_P g M H → va_S (tb_A g) s.heap H locs → lv_has ls 4 (lw_lv g b i) → W p l e room_1 s m #[Value.ref b] below meth c H locs 600000 7302250 (lw_Z below #[Value.ref b] s) (F0 m 18 ls []) := by
  have hx := F.1.1
  have hb := F.1.2.1
  have hL := X.2.2.2
  intro n
  induction n with
  | zero =>
    intro i hn hi0 M H locs ls hI hP hS hl
    refine lv_iload_n hx hb dL_law_18 rfl (lv_at hl 0 rfl) ?_
    refine lv_aload_n hx hb dL_law_19 rfl (lv_at hl 3 rfl) ?_
    refine va_slen hx hb X.1 X.2.1 X.2.2.1 hS dL_law_20 ?_
    refine lv_bipush (v := 6) hx hb dL_law_21 (by decide) ?_
    refine lv_isub hx hb dL_law_23 ?_
    refine lv_icmp_gt (tgt := 1128) hx hb dL_law_24 (by decide) (fun c1 => ?_) (fun c1 => absurd ((lw_gt (by omega) hL).mpr (by omega)) c1)
    refine lv_iconst (v := 1) hx hb dL_law_1128 (by decide) ?_
    refine va_forget (fun q hq => hAs _ (hS.2.2 q hq)) ?_
    exact lw_ret hx hb F.2.1 F.2.2.1 dL_law_1129
  | succ n ih =>
    intro i hn hi0 M H locs ls hI hP hS hl
    refine lv_iload_n hx hb dL_law_18 rfl (lv_at hl 0 rfl) ?_
    refine lv_aload_n hx hb dL_law_19 rfl (lv_at hl 3 rfl) ?_
    refine va_slen hx hb X.1 X.2.1 X.2.2.1 hS dL_law_20 ?_
    refine lv_bipush (v := 6) hx hb dL_law_21 (by decide) ?_
    refine lv_isub hx hb dL_law_23 ?_
    refine lv_icmp_gt (tgt := 1128) hx hb dL_law_24 (by decide) (fun c1 => ?_) (fun c1 => ?_)
    · refine lv_iconst (v := 1) hx hb dL_law_1128 (by decide) ?_
      refine va_forget (fun q hq => hAs _ (hS.2.2 q hq)) ?_
      exact lw_ret hx hb F.2.1 F.2.2.1 dL_law_1129
    · have hi : i + 6 ≤ L := by
        rcases Nat.lt_or_ge L (i + 6) with q | q
        · exact absurd ((lw_gt (by omega) hL).mpr q) c1
        · exact q
      refine law_step F X hI hP hS hl hi (fun M2 H2 locs2 hI2 hP2 hS2 => ?_)
      refine lv_iinc (v := nI (i + 6)) (lv' := lw_lv g b (i + 6)) hx hb dL_law_1122 hl (k := 0) rfl (nI_add i 6) (by decide) rfl (fun ls hl => ?_)
      refine lv_goto (tgt := 18) hx hb dL_law_1125 (by decide) ?_
      exact ih (i + 6) (by omega) (by omega) M2 H2 locs2 ls hI2 hP2 hS2 hl
end LAWL

def fX1_leave (a1 : Int32) (M : tb_Mem) : Option (tb_Mem) :=
  if 16 ≤ (M 261 1) then (some M) else (tb_ck (tb_in (M 261 1) 16) (tb_let (tb_up M 262 ((M 261 1).toNatClampNeg) a1) (fun M3 => tb_let (tb_up M3 261 1 ((M3 261 1) + 1)) (fun M5 => some M5))))
abbrev rmX1_leave : Room := { frames := 0, cells := 0, slots := 0, locals := 0 }
set_option maxHeartbeats 4000000 in
set_option maxRecDepth 100000 in
theorem tX1_leave (g : tb_GT) (l : Launch) (a1 : Int32) (M M' : tb_Mem) (h : fX1_leave a1 M = some M') : tb_C g l yX1_leave (Cond.code yX1_leave cX1_leave 2 none) rmX1_leave [.ref (tb_ad g 261), .int a1] M M' none := by
  refine tb_entry (by decide) (Nat.le_of_ble_eq_true rfl) ?_
  intro P e s m below meth c F hP hS ls hl
  have F : tb_F g cX1_leave 2 RX1 none (Cond.code yX1_leave cX1_leave 2 none) P s m ([.ref (tb_ad g 261), .int a1] : List Value).toArray meth c := F
  have hx := F.1.1
  have hb := F.1.2.1
  have hl : lv_has ls 2 [(0, .ref (tb_ad g 261)), (1, .int a1)] := hl
  unfold fX1_leave at h
  refine lv_aload_n hx hb dX1_leave_0 rfl (lv_at hl 0 rfl) ?_
  refine tb_geti F hP tb_l261 (ci := 1) rfl inlX1 1 (by decide) rfl kf_X1_13 dX1_leave_1 ?_
  refine lv_bipush (v := 16) hx hb dX1_leave_4 (by decide) ?_
  refine lv_icmp_ge (tgt := 29) hx hb dX1_leave_6 (by decide) (fun c1 => ?_) (fun c1 => ?_)
  · have h := tb_ip c1 h
    exact tb_vret h F hP hS dX1_leave_29
  · have h := tb_ineg c1 h
    refine lv_aload_n hx hb dX1_leave_9 rfl (lv_at hl 0 rfl) ?_
    refine tb_getr F hP tb_l261 (ci := 1) rfl inlX1 0 (by decide) rfl kf_X1_9 dX1_leave_10 ?_
    refine lv_aload_n hx hb dX1_leave_13 rfl (lv_at hl 0 rfl) ?_
    refine tb_geti F hP tb_l261 (ci := 1) rfl inlX1 1 (by decide) rfl kf_X1_13 dX1_leave_14 ?_
    refine lv_iload_n hx hb dX1_leave_17 rfl (lv_at hl 1 rfl) ?_
    obtain ⟨k2, h⟩ := tb_cks h
    obtain ⟨M3, e4, h⟩ := tb_lets h
    refine tb_iast F hP hS tb_l262 rfl (tb_inv k2) dX1_leave_18 (fun H locs hP hS => ?_)
    rw [← e4] at hP
    refine lv_aload_n hx hb dX1_leave_19 rfl (lv_at hl 0 rfl) ?_
    refine lv_dup hx hb dX1_leave_20 rfl ?_
    refine tb_geti F hP tb_l261 (ci := 1) rfl inlX1 1 (by decide) rfl kf_X1_13 dX1_leave_21 ?_
    refine lv_iconst (v := 1) hx hb dX1_leave_24 (by decide) ?_
    refine lv_iadd hx hb dX1_leave_25 ?_
    obtain ⟨M5, e6, h⟩ := tb_lets h
    refine tb_puti F hP hS tb_l261 (ci := 1) rfl inlX1 tyX1 tyX1_ok nmX1 1 (by decide) rfl rfl rfl rfl kf_X1_13 dX1_leave_26 (fun H locs hP hS => ?_)
    rw [← e6] at hP
    exact tb_vret h F hP hS dX1_leave_29

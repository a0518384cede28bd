def fX4_make (p : Nat) (a1 : Int32) (a2 : Int32) (M : tb_Mem) : Option (tb_Mem) :=
  tb_let (tb_up M p 1 0) (fun M1 => tb_let (tb_up M1 p 2 a1) (fun M3 => tb_let (tb_up M3 p 3 a2) (fun M5 => tb_b1 (fJ7_fill_53178 (p + 1) 40 0 M5) (fun M7 => some M7))))
abbrev rmX4_make : Room := { frames := 1, cells := 0, slots := 0, locals := 23 }
set_option maxHeartbeats 4000000 in
set_option maxRecDepth 100000 in
theorem tX4_make (g : tb_GT) (l : Launch) (p : Nat) (hR : tb_R p) (a1 : Int32) (a2 : Int32) (M M' : tb_Mem) (h : fX4_make p a1 a2 M = some M') : tb_C g l yX4_make (Cond.code yX4_make cX4_make 3 none) rmX4_make [.ref (tb_ad g p), .int a1, .int a2] M M' none := by
  refine tb_entry (by decide) (Nat.le_of_ble_eq_true rfl) ?_
  intro P e s m below meth c F hP hS ls hl
  have F : tb_F g cX4_make 3 RX4 none (Cond.code yX4_make cX4_make 3 none) P s m ([.ref (tb_ad g p), .int a1, .int a2] : List Value).toArray meth c := F
  have hx := F.1.1
  have hb := F.1.2.1
  have hl : lv_has ls 3 [(0, .ref (tb_ad g p)), (1, .int a1), (2, .int a2)] := hl
  unfold fX4_make at h
  refine lv_aload_n hx hb dX4_make_0 rfl (lv_at hl 0 rfl) ?_
  refine lv_iconst (v := 0) hx hb dX4_make_1 (by decide) ?_
  obtain ⟨M1, e2, h⟩ := tb_lets h
  refine tb_puti F hP hS hR.1 (ci := 4) rfl inlX4 tyX4 tyX4_ok nmX4 1 (by decide) rfl rfl rfl rfl kf_X4_15 dX4_make_2 (fun H locs hP hS => ?_)
  rw [← e2] at hP
  refine lv_aload_n hx hb dX4_make_5 rfl (lv_at hl 0 rfl) ?_
  refine lv_iload_n hx hb dX4_make_6 rfl (lv_at hl 1 rfl) ?_
  obtain ⟨M3, e4, h⟩ := tb_lets h
  refine tb_puti F hP hS hR.1 (ci := 4) rfl inlX4 tyX4 tyX4_ok nmX4 2 (by decide) rfl rfl rfl rfl kf_X4_19 dX4_make_7 (fun H locs hP hS => ?_)
  rw [← e4] at hP
  refine lv_aload_n hx hb dX4_make_10 rfl (lv_at hl 0 rfl) ?_
  refine lv_iload_n hx hb dX4_make_11 rfl (lv_at hl 2 rfl) ?_
  obtain ⟨M5, e6, h⟩ := tb_lets h
  refine tb_puti F hP hS hR.1 (ci := 4) rfl inlX4 tyX4 tyX4_ok nmX4 3 (by decide) rfl rfl rfl rfl kf_X4_23 dX4_make_12 (fun H locs hP hS => ?_)
  rw [← e6] at hP
  refine lv_aload_n hx hb dX4_make_15 rfl (lv_at hl 0 rfl) ?_
  refine tb_getr F hP hR.1 (ci := 4) rfl inlX4 0 (by decide) rfl kf_X4_9 dX4_make_16 ?_
  refine lv_iconst (v := 0) hx hb dX4_make_19 (by decide) ?_
  obtain ⟨M7, e8, h⟩ := tb_b1s h
  refine tb_callS F hP hS hl.1 kJ7_fill_53178 km_X4_26 (as := [.ref (tb_ad g (p + 1)), .int 0]) (tJ7_fill_53178 g l (p + 1) 40 hR.2 0 M5 M7 e8) ⟨rfl, rfl, Nat.le_of_ble_eq_true rfl, Nat.le_of_ble_eq_true rfl⟩ rfl (rest := []) rfl (st1 := []) rfl (Nat.le_of_ble_eq_true rfl) ⟨Nat.zero_le _, Nat.zero_le _⟩ dX4_make_20 (fun H locs hP hS => ?_)
  exact tb_vret h F hP hS dX4_make_23
def fX4_has (p : Nat) (a1 : Int32) (a2 : Int32) (M : tb_Mem) : Option (Int32 × tb_Mem) :=
  if a1 < 0 then (some (0, M)) else (if a2 < 0 then (some (0, M)) else (some (((if ((M p 3) - a2) < a1 then 0 else 1) : Int32), M)))
abbrev rmX4_has : Room := { frames := 0, cells := 0, slots := 0, locals := 0 }
set_option maxHeartbeats 4000000 in
set_option maxRecDepth 100000 in
theorem tX4_has (g : tb_GT) (l : Launch) (p : Nat) (hR : tb_R p) (a1 : Int32) (a2 : Int32) (M M' : tb_Mem) (r : Int32) (h : fX4_has p a1 a2 M = some (r, M')) : tb_C g l yX4_has (Cond.code yX4_has cX4_has 3 (some .boolean)) rmX4_has [.ref (tb_ad g p), .int a1, .int a2] M M' (some (.int r)) := by
  refine tb_entry (by decide) (Nat.le_of_ble_eq_true rfl) ?_
  intro P e s m below meth c F hP hS ls hl
  have F : tb_F g cX4_has 3 RX4 (some .boolean) (Cond.code yX4_has cX4_has 3 (some .boolean)) P s m ([.ref (tb_ad g p), .int a1, .int a2] : List Value).toArray meth c := F
  have hx := F.1.1
  have hb := F.1.2.1
  have hl : lv_has ls 3 [(0, .ref (tb_ad g p)), (1, .int a1), (2, .int a2)] := hl
  unfold fX4_has at h
  refine lv_iload_n hx hb dX4_has_0 rfl (lv_at hl 1 rfl) ?_
  refine lv_if_lt (tgt := 22) hx hb dX4_has_1 (by decide) (fun c1 => ?_) (fun c1 => ?_)
  · have h := tb_ip c1 h
    refine lv_iconst (v := 0) hx hb dX4_has_22 (by decide) ?_
    exact tb_zret h F rfl hP hS dX4_has_23
  · have h := tb_ineg c1 h
    refine lv_iload_n hx hb dX4_has_4 rfl (lv_at hl 2 rfl) ?_
    refine lv_if_lt (tgt := 22) hx hb dX4_has_5 (by decide) (fun c2 => ?_) (fun c2 => ?_)
    · have h := tb_ip c2 h
      refine lv_iconst (v := 0) hx hb dX4_has_22 (by decide) ?_
      exact tb_zret h F rfl hP hS dX4_has_23
    · have h := tb_ineg c2 h
      refine lv_iload_n hx hb dX4_has_8 rfl (lv_at hl 1 rfl) ?_
      refine lv_aload_n hx hb dX4_has_9 rfl (lv_at hl 0 rfl) ?_
      refine tb_geti F hP hR.1 (ci := 4) rfl inlX4 3 (by decide) rfl kf_X4_23 dX4_has_10 ?_
      refine lv_iload_n hx hb dX4_has_13 rfl (lv_at hl 2 rfl) ?_
      refine lv_isub hx hb dX4_has_14 ?_
      refine tb_mrg (g2 := F0 m 23 ls [.int ((if ((M p 3) - a2) < a1 then 0 else 1) : Int32)]) (fun hJ => ?_) ?_
      · refine lv_icmp_gt (tgt := 22) hx hb dX4_has_15 (by decide) (fun c3 => ?_) (fun c3 => ?_)
        · refine lv_iconst (v := 0) hx hb dX4_has_22 (by decide) ?_
          rw [if_pos c3] at hJ
          exact hJ
        · refine lv_iconst (v := 1) hx hb dX4_has_18 (by decide) ?_
          refine lv_goto (tgt := 23) hx hb dX4_has_19 (by decide) ?_
          rw [if_neg c3] at hJ
          exact hJ
      exact tb_zret h F (tb_bln (by (repeat' split) <;> decide)) hP hS dX4_has_23
def fX4_put (p : Nat) (a1 : Int32) (a2 : Int32) (M : tb_Mem) : Option (Int32 × tb_Mem) :=
  if (M p 2) = 0 then (tb_ck (tb_in a1 40) (tb_let (tb_up M (p + 1) a1.toNatClampNeg (a2.toInt8.toInt32)) (fun M10 => some ((a2.toInt8.toInt32), M10)))) else (if (M p 2) = 1 then (tb_ck (tb_in a1 40) (tb_let (tb_up M (p + 1) a1.toNatClampNeg (a2.toInt16.toInt32)) (fun M7 => some ((a2.toInt16.toInt32), M7)))) else (tb_ck (tb_in a1 40) (tb_let (tb_up M (p + 1) a1.toNatClampNeg a2) (fun M4 => some (a2, M4)))))
abbrev rmX4_put : Room := { frames := 0, cells := 0, slots := 0, locals := 0 }
set_option maxHeartbeats 4000000 in
set_option maxRecDepth 100000 in
theorem tX4_put (g : tb_GT) (l : Launch) (p : Nat) (hR : tb_R p) (a1 : Int32) (a2 : Int32) (M M' : tb_Mem) (r : Int32) (h : fX4_put p a1 a2 M = some (r, M')) : tb_C g l yX4_put (Cond.code yX4_put cX4_put 4 (some .int)) rmX4_put [.ref (tb_ad g p), .int a1, .int a2] M M' (some (.int r)) := by
  refine tb_entry (by decide) (Nat.le_of_ble_eq_true rfl) ?_
  intro P e s m below meth c F hP hS ls hl
  have F : tb_F g cX4_put 4 RX4 (some .int) (Cond.code yX4_put cX4_put 4 (some .int)) P s m ([.ref (tb_ad g p), .int a1, .int a2] : List Value).toArray meth c := F
  have hx := F.1.1
  have hb := F.1.2.1
  have hl : lv_has ls 4 [(0, .ref (tb_ad g p)), (1, .int a1), (2, .int a2)] := hl
  unfold fX4_put at h
  refine lv_iload_n hx hb dX4_put_0 rfl (lv_at hl 2 rfl) ?_
  refine lv_istore_n (lv' := [(3, .int a2), (0, .ref (tb_ad g p)), (1, .int a1), (2, .int a2)]) hx hb dX4_put_1 rfl hl (by decide) rfl (fun ls hl => ?_)
  refine lv_aload_n hx hb dX4_put_2 rfl (lv_at hl 1 rfl) ?_
  refine tb_geti F hP hR.1 (ci := 4) rfl inlX4 2 (by decide) rfl kf_X4_19 dX4_put_3 ?_
  refine lv_if_ne (tgt := 15) hx hb dX4_put_6 (by decide) (fun c1 => ?_) (fun c1 => ?_)
  · have h := tb_ineg c1 h
    refine lv_aload_n hx hb dX4_put_15 rfl (lv_at hl 1 rfl) ?_
    refine tb_geti F hP hR.1 (ci := 4) rfl inlX4 2 (by decide) rfl kf_X4_19 dX4_put_16 ?_
    refine lv_iconst (v := 1) hx hb dX4_put_19 (by decide) ?_
    refine lv_icmp_ne (tgt := 26) hx hb dX4_put_20 (by decide) (fun c2 => ?_) (fun c2 => ?_)
    · have h := tb_ineg c2 h
      refine lv_aload_n hx hb dX4_put_26 rfl (lv_at hl 1 rfl) ?_
      refine tb_getr F hP hR.1 (ci := 4) rfl inlX4 0 (by decide) rfl kf_X4_9 dX4_put_27 ?_
      refine lv_iload_n hx hb dX4_put_30 rfl (lv_at hl 2 rfl) ?_
      refine lv_iload_n hx hb dX4_put_31 rfl (lv_at hl 0 rfl) ?_
      obtain ⟨k3, h⟩ := tb_cks h
      obtain ⟨M4, e5, h⟩ := tb_lets h
      refine tb_iast F hP hS hR.2 rfl (tb_inv k3) dX4_put_32 (fun H locs hP hS => ?_)
      rw [← e5] at hP
      refine lv_iload_n hx hb dX4_put_33 rfl (lv_at hl 0 rfl) ?_
      exact tb_iret h F hP hS dX4_put_34
    · have h := tb_ip c2 h
      refine lv_iload_n hx hb dX4_put_23 rfl (lv_at hl 3 rfl) ?_
      refine lv_i2s (v := (a2.toInt16.toInt32)) hx hb dX4_put_24 rfl ?_
      refine lv_istore_n (lv' := [(3, .int (a2.toInt16.toInt32)), (0, .ref (tb_ad g p)), (1, .int a1), (2, .int a2)]) hx hb dX4_put_25 rfl hl (by decide) rfl (fun ls hl => ?_)
      refine lv_aload_n hx hb dX4_put_26 rfl (lv_at hl 1 rfl) ?_
      refine tb_getr F hP hR.1 (ci := 4) rfl inlX4 0 (by decide) rfl kf_X4_9 dX4_put_27 ?_
      refine lv_iload_n hx hb dX4_put_30 rfl (lv_at hl 2 rfl) ?_
      refine lv_iload_n hx hb dX4_put_31 rfl (lv_at hl 0 rfl) ?_
      obtain ⟨k6, h⟩ := tb_cks h
      obtain ⟨M7, e8, h⟩ := tb_lets h
      refine tb_iast F hP hS hR.2 rfl (tb_inv k6) dX4_put_32 (fun H locs hP hS => ?_)
      rw [← e8] at hP
      refine lv_iload_n hx hb dX4_put_33 rfl (lv_at hl 0 rfl) ?_
      exact tb_iret h F hP hS dX4_put_34
  · have h := tb_ip c1 h
    refine lv_iload_n hx hb dX4_put_9 rfl (lv_at hl 3 rfl) ?_
    refine lv_i2b (v := (a2.toInt8.toInt32)) hx hb dX4_put_10 rfl ?_
    refine lv_istore_n (lv' := [(3, .int (a2.toInt8.toInt32)), (0, .ref (tb_ad g p)), (1, .int a1), (2, .int a2)]) hx hb dX4_put_11 rfl hl (by decide) rfl (fun ls hl => ?_)
    refine lv_goto (tgt := 26) hx hb dX4_put_12 (by decide) ?_
    refine lv_aload_n hx hb dX4_put_26 rfl (lv_at hl 1 rfl) ?_
    refine tb_getr F hP hR.1 (ci := 4) rfl inlX4 0 (by decide) rfl kf_X4_9 dX4_put_27 ?_
    refine lv_iload_n hx hb dX4_put_30 rfl (lv_at hl 2 rfl) ?_
    refine lv_iload_n hx hb dX4_put_31 rfl (lv_at hl 0 rfl) ?_
    obtain ⟨k9, h⟩ := tb_cks h
    obtain ⟨M10, e11, h⟩ := tb_lets h
    refine tb_iast F hP hS hR.2 rfl (tb_inv k9) dX4_put_32 (fun H locs hP hS => ?_)
    rw [← e11] at hP
    refine lv_iload_n hx hb dX4_put_33 rfl (lv_at hl 0 rfl) ?_
    exact tb_iret h F hP hS dX4_put_34
def fX0_keep (p1 : Nat) (M : tb_Mem) : Option (tb_Mem) :=
  tb_ck (tb_in (M 22 1) 24) (tb_b1 (fX2_become (24 + 9 * (M 22 1).toNatClampNeg) p1 M) (fun M2 => tb_let (tb_up M2 22 1 (((M2 22 1) + 1) - ((M2 22 1) + 1) / 24 * 24)) (fun M4 => tb_let (tb_up M4 22 2 (if 24 < ((M4 22 2) + 1) then 24 else ((M4 22 2) + 1))) (fun M6 => some M6))))
abbrev rmX0_keep : Room := { frames := 2, cells := 0, slots := 0, locals := 85 }
set_option maxHeartbeats 4000000 in
set_option maxRecDepth 100000 in
theorem tX0_keep (g : tb_GT) (l : Launch) (p1 : Nat) (hB1 : tb_B p1) (M M' : tb_Mem) (h : fX0_keep p1 M = some M') : tb_C g l yX0_keep (Cond.code yX0_keep cX0_keep 2 none) rmX0_keep [.ref (tb_ad g 22), .ref (tb_ad g p1)] M M' none := by
  refine tb_entry (by decide) (Nat.le_of_ble_eq_true rfl) ?_
  intro P e s m below meth c F hP hS ls hl
  have F : tb_F g cX0_keep 2 RX0 none (Cond.code yX0_keep cX0_keep 2 none) P s m ([.ref (tb_ad g 22), .ref (tb_ad g p1)] : List Value).toArray meth c := F
  have hx := F.1.1
  have hb := F.1.2.1
  have hl : lv_has ls 2 [(0, .ref (tb_ad g 22)), (1, .ref (tb_ad g p1))] := hl
  unfold fX0_keep at h
  refine lv_aload_n hx hb dX0_keep_0 rfl (lv_at hl 0 rfl) ?_
  refine tb_getr F hP tb_l22 (ci := 0) rfl inlX0 0 (by decide) rfl kf_X0_11 dX0_keep_1 ?_
  refine lv_aload_n hx hb dX0_keep_4 rfl (lv_at hl 0 rfl) ?_
  refine tb_geti F hP tb_l22 (ci := 0) rfl inlX0 1 (by decide) rfl kf_X0_18 dX0_keep_5 ?_
  obtain ⟨k1, h⟩ := tb_cks h
  refine tb_aald F hP tb_l23 (C := RX2) rfl (tb_inv k1) (tb_beforeG (tb_ltOf k1)) dX0_keep_8 ?_
  refine lv_aload_n hx hb dX0_keep_9 rfl (lv_at hl 1 rfl) ?_
  obtain ⟨M2, e3, h⟩ := tb_b1s h
  refine tb_callV F hP hS hl.1 kX2_become km_X0_22 (as := [.ref (tb_ad g p1)]) (tX2_become g l (24 + 9 * (M 22 1).toNatClampNeg) p1 (tb_Bact (tb_ltOf k1)) hB1 M M2 e3) (tb_Bact (tb_ltOf k1)).1 ⟨rfl, rfl, Nat.le_of_ble_eq_true rfl, Nat.le_of_ble_eq_true rfl⟩ rfl (rest := []) rfl (st1 := []) rfl (Nat.le_of_ble_eq_true rfl) ⟨Nat.zero_le _, Nat.zero_le _⟩ dX0_keep_10 (fun H locs hP hS => ?_)
  refine lv_aload_n hx hb dX0_keep_13 rfl (lv_at hl 0 rfl) ?_
  refine lv_aload_n hx hb dX0_keep_14 rfl (lv_at hl 0 rfl) ?_
  refine tb_geti F hP tb_l22 (ci := 0) rfl inlX0 1 (by decide) rfl kf_X0_18 dX0_keep_15 ?_
  refine lv_iconst (v := 1) hx hb dX0_keep_18 (by decide) ?_
  refine lv_iadd hx hb dX0_keep_19 ?_
  refine lv_bipush (v := 24) hx hb dX0_keep_20 (by decide) ?_
  refine lv_irem hx hb dX0_keep_22 (by decide) ?_
  obtain ⟨M4, e5, h⟩ := tb_lets h
  refine tb_puti F hP hS tb_l22 (ci := 0) rfl inlX0 tyX0 tyX0_ok nmX0 1 (by decide) rfl rfl rfl rfl kf_X0_18 dX0_keep_23 (fun H locs hP hS => ?_)
  rw [← e5] at hP
  refine lv_aload_n hx hb dX0_keep_26 rfl (lv_at hl 0 rfl) ?_
  refine lv_aload_n hx hb dX0_keep_27 rfl (lv_at hl 0 rfl) ?_
  refine tb_geti F hP tb_l22 (ci := 0) rfl inlX0 2 (by decide) rfl kf_X0_26 dX0_keep_28 ?_
  refine lv_iconst (v := 1) hx hb dX0_keep_31 (by decide) ?_
  refine lv_iadd hx hb dX0_keep_32 ?_
  refine lv_bipush (v := 24) hx hb dX0_keep_33 (by decide) ?_
  refine tb_mmin F hl.1 km_X0_29 (Nat.le_of_ble_eq_true rfl) (Nat.le_of_ble_eq_true rfl) ⟨Nat.zero_le _, Nat.zero_le _⟩ dX0_keep_35 ?_
  obtain ⟨M6, e7, h⟩ := tb_lets h
  refine tb_puti F hP hS tb_l22 (ci := 0) rfl inlX0 tyX0 tyX0_ok nmX0 2 (by decide) rfl rfl rfl rfl kf_X0_26 dX0_keep_38 (fun H locs hP hS => ?_)
  rw [← e7] at hP
  exact tb_vret h F hP hS dX0_keep_41
def fX0_takeBack (p1 : Nat) (M : tb_Mem) : Option (tb_Mem) :=
  tb_let (tb_up M 22 1 ((((M 22 1) + 24) - 1) - (((M 22 1) + 24) - 1) / 24 * 24)) (fun M1 => tb_let (tb_up M1 22 2 (if ((M1 22 2) - 1) < 0 then 0 else ((M1 22 2) - 1))) (fun M3 => tb_ck (tb_in (M3 22 1) 24) (tb_b1 (fX2_become p1 (24 + 9 * (M3 22 1).toNatClampNeg) M3) (fun M6 => some M6))))
abbrev rmX0_takeBack : Room := { frames := 2, cells := 0, slots := 0, locals := 85 }
set_option maxHeartbeats 4000000 in
set_option maxRecDepth 100000 in
theorem tX0_takeBack (g : tb_GT) (l : Launch) (p1 : Nat) (hB1 : tb_B p1) (M M' : tb_Mem) (h : fX0_takeBack p1 M = some M') : tb_C g l yX0_takeBack (Cond.code yX0_takeBack cX0_takeBack 2 none) rmX0_takeBack [.ref (tb_ad g 22), .ref (tb_ad g p1)] M M' none := by
  refine tb_entry (by decide) (Nat.le_of_ble_eq_true rfl) ?_
  intro P e s m below meth c F hP hS ls hl
  have F : tb_F g cX0_takeBack 2 RX0 none (Cond.code yX0_takeBack cX0_takeBack 2 none) P s m ([.ref (tb_ad g 22), .ref (tb_ad g p1)] : List Value).toArray meth c := F
  have hx := F.1.1
  have hb := F.1.2.1
  have hl : lv_has ls 2 [(0, .ref (tb_ad g 22)), (1, .ref (tb_ad g p1))] := hl
  unfold fX0_takeBack at h
  refine lv_aload_n hx hb dX0_takeBack_0 rfl (lv_at hl 0 rfl) ?_
  refine lv_aload_n hx hb dX0_takeBack_1 rfl (lv_at hl 0 rfl) ?_
  refine tb_geti F hP tb_l22 (ci := 0) rfl inlX0 1 (by decide) rfl kf_X0_18 dX0_takeBack_2 ?_
  refine lv_bipush (v := 24) hx hb dX0_takeBack_5 (by decide) ?_
  refine lv_iadd hx hb dX0_takeBack_7 ?_
  refine lv_iconst (v := 1) hx hb dX0_takeBack_8 (by decide) ?_
  refine lv_isub hx hb dX0_takeBack_9 ?_
  refine lv_bipush (v := 24) hx hb dX0_takeBack_10 (by decide) ?_
  refine lv_irem hx hb dX0_takeBack_12 (by decide) ?_
  obtain ⟨M1, e2, h⟩ := tb_lets h
  refine tb_puti F hP hS tb_l22 (ci := 0) rfl inlX0 tyX0 tyX0_ok nmX0 1 (by decide) rfl rfl rfl rfl kf_X0_18 dX0_takeBack_13 (fun H locs hP hS => ?_)
  rw [← e2] at hP
  refine lv_aload_n hx hb dX0_takeBack_16 rfl (lv_at hl 0 rfl) ?_
  refine lv_aload_n hx hb dX0_takeBack_17 rfl (lv_at hl 0 rfl) ?_
  refine tb_geti F hP tb_l22 (ci := 0) rfl inlX0 2 (by decide) rfl kf_X0_26 dX0_takeBack_18 ?_
  refine lv_iconst (v := 1) hx hb dX0_takeBack_21 (by decide) ?_
  refine lv_isub hx hb dX0_takeBack_22 ?_
  refine lv_iconst (v := 0) hx hb dX0_takeBack_23 (by decide) ?_
  refine tb_mmax F hl.1 km_X0_35 (Nat.le_of_ble_eq_true rfl) (Nat.le_of_ble_eq_true rfl) ⟨Nat.zero_le _, Nat.zero_le _⟩ dX0_takeBack_24 ?_
  obtain ⟨M3, e4, h⟩ := tb_lets h
  refine tb_puti F hP hS tb_l22 (ci := 0) rfl inlX0 tyX0 tyX0_ok nmX0 2 (by decide) rfl rfl rfl rfl kf_X0_26 dX0_takeBack_27 (fun H locs hP hS => ?_)
  rw [← e4] at hP
  refine lv_aload_n hx hb dX0_takeBack_30 rfl (lv_at hl 1 rfl) ?_
  refine lv_aload_n hx hb dX0_takeBack_31 rfl (lv_at hl 0 rfl) ?_
  refine tb_getr F hP tb_l22 (ci := 0) rfl inlX0 0 (by decide) rfl kf_X0_11 dX0_takeBack_32 ?_
  refine lv_aload_n hx hb dX0_takeBack_35 rfl (lv_at hl 0 rfl) ?_
  refine tb_geti F hP tb_l22 (ci := 0) rfl inlX0 1 (by decide) rfl kf_X0_18 dX0_takeBack_36 ?_
  obtain ⟨k5, h⟩ := tb_cks h
  refine tb_aald F hP tb_l23 (C := RX2) rfl (tb_inv k5) (tb_beforeG (tb_ltOf k5)) dX0_takeBack_39 ?_
  obtain ⟨M6, e7, h⟩ := tb_b1s h
  refine tb_callV F hP hS hl.1 kX2_become km_X0_22 (as := [.ref (tb_ad g (24 + 9 * (M3 22 1).toNatClampNeg))]) (tX2_become g l p1 (24 + 9 * (M3 22 1).toNatClampNeg) hB1 (tb_Bact (tb_ltOf k5)) M3 M6 e7) hB1.1 ⟨rfl, rfl, Nat.le_of_ble_eq_true rfl, Nat.le_of_ble_eq_true rfl⟩ rfl (rest := []) rfl (st1 := []) rfl (Nat.le_of_ble_eq_true rfl) ⟨Nat.zero_le _, Nat.zero_le _⟩ dX0_takeBack_40 (fun H locs hP hS => ?_)
  exact tb_vret h F hP hS dX0_takeBack_43
def fX0_forget (M : tb_Mem) : Option (tb_Mem) :=
  tb_let (tb_up M 22 2 0) (fun M1 => some M1)
abbrev rmX0_forget : Room := { frames := 0, cells := 0, slots := 0, locals := 0 }
set_option maxHeartbeats 4000000 in
set_option maxRecDepth 100000 in
theorem tX0_forget (g : tb_GT) (l : Launch) (M M' : tb_Mem) (h : fX0_forget M = some M') : tb_C g l yX0_forget (Cond.code yX0_forget cX0_forget 1 none) rmX0_forget [.ref (tb_ad g 22)] M M' none := by
  refine tb_entry (by decide) (Nat.le_of_ble_eq_true rfl) ?_
  intro P e s m below meth c F hP hS ls hl
  have F : tb_F g cX0_forget 1 RX0 none (Cond.code yX0_forget cX0_forget 1 none) P s m ([.ref (tb_ad g 22)] : List Value).toArray meth c := F
  have hx := F.1.1
  have hb := F.1.2.1
  have hl : lv_has ls 1 [(0, .ref (tb_ad g 22))] := hl
  unfold fX0_forget at h
  refine lv_aload_n hx hb dX0_forget_0 rfl (lv_at hl 0 rfl) ?_
  refine lv_iconst (v := 0) hx hb dX0_forget_1 (by decide) ?_
  obtain ⟨M1, e2, h⟩ := tb_lets h
  refine tb_puti F hP hS tb_l22 (ci := 0) rfl inlX0 tyX0 tyX0_ok nmX0 2 (by decide) rfl rfl rfl rfl kf_X0_26 dX0_forget_2 (fun H locs hP hS => ?_)
  rw [← e2] at hP
  exact tb_vret h F hP hS dX0_forget_5
def fX5_take (a1 : Int32) (M : tb_Mem) : Option (Int32 × tb_Mem) :=
  if (M 2 1) < 60 then (tb_ck (tb_in (M 2 1) 60) (tb_let (tb_up M 3 ((M 2 1).toNatClampNeg) a1) (fun M3 => tb_let (tb_up M3 2 1 ((M3 2 1) + 1)) (fun M5 => some (1, M5))))) else (some (0, M))
abbrev rmX5_take : Room := { frames := 0, cells := 0, slots := 0, locals := 0 }
set_option maxHeartbeats 4000000 in
set_option maxRecDepth 100000 in
theorem tX5_take (g : tb_GT) (l : Launch) (a1 : Int32) (M M' : tb_Mem) (r : Int32) (h : fX5_take a1 M = some (r, M')) : tb_C g l yX5_take (Cond.code yX5_take cX5_take 2 (some .boolean)) rmX5_take [.ref (tb_ad g 2), .int a1] M M' (some (.int r)) := by
  refine tb_entry (by decide) (Nat.le_of_ble_eq_true rfl) ?_
  intro P e s m below meth c F hP hS ls hl
  have F : tb_F g cX5_take 2 RX5 (some .boolean) (Cond.code yX5_take cX5_take 2 (some .boolean)) P s m ([.ref (tb_ad g 2), .int a1] : List Value).toArray meth c := F
  have hx := F.1.1
  have hb := F.1.2.1
  have hl : lv_has ls 2 [(0, .ref (tb_ad g 2)), (1, .int a1)] := hl
  unfold fX5_take at h
  refine lv_aload_n hx hb dX5_take_0 rfl (lv_at hl 0 rfl) ?_
  refine tb_geti F hP tb_l2 (ci := 5) rfl inlX5 1 (by decide) rfl kf_X5_15 dX5_take_1 ?_
  refine lv_bipush (v := 60) hx hb dX5_take_4 (by decide) ?_
  refine lv_icmp_lt (tgt := 11) hx hb dX5_take_6 (by decide) (fun c1 => ?_) (fun c1 => ?_)
  · have h := tb_ip c1 h
    refine lv_aload_n hx hb dX5_take_11 rfl (lv_at hl 0 rfl) ?_
    refine tb_getr F hP tb_l2 (ci := 5) rfl inlX5 0 (by decide) rfl kf_X5_9 dX5_take_12 ?_
    refine lv_aload_n hx hb dX5_take_15 rfl (lv_at hl 0 rfl) ?_
    refine tb_geti F hP tb_l2 (ci := 5) rfl inlX5 1 (by decide) rfl kf_X5_15 dX5_take_16 ?_
    refine lv_iload_n hx hb dX5_take_19 rfl (lv_at hl 1 rfl) ?_
    obtain ⟨k2, h⟩ := tb_cks h
    obtain ⟨M3, e4, h⟩ := tb_lets h
    refine tb_iast F hP hS tb_l3 rfl (tb_inv k2) dX5_take_20 (fun H locs hP hS => ?_)
    rw [← e4] at hP
    refine lv_aload_n hx hb dX5_take_21 rfl (lv_at hl 0 rfl) ?_
    refine lv_dup hx hb dX5_take_22 rfl ?_
    refine tb_geti F hP tb_l2 (ci := 5) rfl inlX5 1 (by decide) rfl kf_X5_15 dX5_take_23 ?_
    refine lv_iconst (v := 1) hx hb dX5_take_26 (by decide) ?_
    refine lv_iadd hx hb dX5_take_27 ?_
    obtain ⟨M5, e6, h⟩ := tb_lets h
    refine tb_puti F hP hS tb_l2 (ci := 5) rfl inlX5 tyX5 tyX5_ok nmX5 1 (by decide) rfl rfl rfl rfl kf_X5_15 dX5_take_28 (fun H locs hP hS => ?_)
    rw [← e6] at hP
    refine lv_iconst (v := 1) hx hb dX5_take_31 (by decide) ?_
    exact tb_zret h F rfl hP hS dX5_take_32
  · have h := tb_ineg c1 h
    refine lv_iconst (v := 0) hx hb dX5_take_9 (by decide) ?_
    exact tb_zret h F rfl hP hS dX5_take_10
def fX5_byteAt (a1 : Int32) (M : tb_Mem) : Option (Int32 × tb_Mem) :=
  tb_b2 (fX6_within a1 0 ((M 2 1) - 1) M) (fun r3 M1 => if r3 = 0 then (some ((-1), M1)) else (tb_ck (tb_in a1 60) (some ((M1 3 a1.toNatClampNeg), M1))))
abbrev rmX5_byteAt : Room := { frames := 1, cells := 0, slots := 0, locals := 22 }
set_option maxHeartbeats 4000000 in
set_option maxRecDepth 100000 in
theorem tX5_byteAt (g : tb_GT) (l : Launch) (a1 : Int32) (M M' : tb_Mem) (r : Int32) (h : fX5_byteAt a1 M = some (r, M')) : tb_C g l yX5_byteAt (Cond.code yX5_byteAt cX5_byteAt 2 (some .int)) rmX5_byteAt [.ref (tb_ad g 2), .int a1] M M' (some (.int r)) := by
  refine tb_entry (by decide) (Nat.le_of_ble_eq_true rfl) ?_
  intro P e s m below meth c F hP hS ls hl
  have F : tb_F g cX5_byteAt 2 RX5 (some .int) (Cond.code yX5_byteAt cX5_byteAt 2 (some .int)) P s m ([.ref (tb_ad g 2), .int a1] : List Value).toArray meth c := F
  have hx := F.1.1
  have hb := F.1.2.1
  have hl : lv_has ls 2 [(0, .ref (tb_ad g 2)), (1, .int a1)] := hl
  unfold fX5_byteAt at h
  refine lv_iload_n hx hb dX5_byteAt_0 rfl (lv_at hl 1 rfl) ?_
  refine lv_iconst (v := 0) hx hb dX5_byteAt_1 (by decide) ?_
  refine lv_aload_n hx hb dX5_byteAt_2 rfl (lv_at hl 0 rfl) ?_
  refine tb_geti F hP tb_l2 (ci := 5) rfl inlX5 1 (by decide) rfl kf_X5_15 dX5_byteAt_3 ?_
  refine lv_iconst (v := 1) hx hb dX5_byteAt_6 (by decide) ?_
  refine lv_isub hx hb dX5_byteAt_7 ?_
  obtain ⟨r3, M1, e2, h⟩ := tb_b2s h
  refine tb_callSN F hP hS hl.1 kX6_within (index := 48) F.2.2.2.2.2.2.1 (as := [.int a1, .int 0, .int ((M 2 1) - 1)]) (tX6_within g l a1 0 ((M 2 1) - 1) M M1 r3 e2) ⟨rfl, rfl, Nat.le_of_ble_eq_true rfl, Nat.le_of_ble_eq_true rfl⟩ rfl (rest := []) rfl (st1 := [.int r3]) rfl (Nat.le_of_ble_eq_true rfl) ⟨Nat.zero_le _, Nat.zero_le _⟩ dX5_byteAt_8 (fun H locs hP hS => ?_)
  refine lv_if_eq (tgt := 23) hx hb dX5_byteAt_11 (by decide) (fun c4 => ?_) (fun c4 => ?_)
  · have h := tb_ip c4 h
    refine lv_iconst (v := (-1)) hx hb dX5_byteAt_23 (by decide) ?_
    exact tb_iret h F hP hS dX5_byteAt_24
  · have h := tb_ineg c4 h
    refine lv_aload_n hx hb dX5_byteAt_14 rfl (lv_at hl 0 rfl) ?_
    refine tb_getr F hP tb_l2 (ci := 5) rfl inlX5 0 (by decide) rfl kf_X5_9 dX5_byteAt_15 ?_
    refine lv_iload_n hx hb dX5_byteAt_18 rfl (lv_at hl 1 rfl) ?_
    obtain ⟨k5, h⟩ := tb_cks h
    refine tb_iald F hP tb_l3 rfl (tb_inv k5) dX5_byteAt_19 ?_
    refine lv_goto (tgt := 24) hx hb dX5_byteAt_20 (by decide) ?_
    exact tb_iret h F hP hS dX5_byteAt_24
def fX5_sortOf (a0 : Int32) (M : tb_Mem) : Option (Int32 × tb_Mem) :=
  if a0 = 98 then (some (5, M)) else (if a0 = 100 then (some (4, M)) else (if a0 = 104 then (some (2, M)) else (if a0 = 112 then (some (1, M)) else (if a0 = 115 then (some (3, M)) else (some (0, M))))))
abbrev rmX5_sortOf : Room := { frames := 0, cells := 0, slots := 0, locals := 0 }
set_option maxHeartbeats 4000000 in
set_option maxRecDepth 100000 in
theorem tX5_sortOf (g : tb_GT) (l : Launch) (a0 : Int32) (M M' : tb_Mem) (r : Int32) (h : fX5_sortOf a0 M = some (r, M')) : tb_C g l yX5_sortOf (Cond.code yX5_sortOf cX5_sortOf 1 (some .int)) rmX5_sortOf [.int a0] M M' (some (.int r)) := by
  refine tb_entry (by decide) (Nat.le_of_ble_eq_true rfl) ?_
  intro P e s m below meth c F hP hS ls hl
  have F : tb_F g cX5_sortOf 1 RX5 (some .int) (Cond.code yX5_sortOf cX5_sortOf 1 (some .int)) P s m ([.int a0] : List Value).toArray meth c := F
  have hx := F.1.1
  have hb := F.1.2.1
  have hl : lv_has ls 1 [(0, .int a0)] := hl
  unfold fX5_sortOf at h
  refine lv_iload_n hx hb dX5_sortOf_0 rfl (lv_at hl 0 rfl) ?_
  by_cases c1 : a0 = 98
  · have h := tb_ip c1 h
    refine lv_lookup (off := 59) (tgt := 60) hx hb dX5_sortOf_1 (by decide) (by rw [c1] <;> rfl) (by decide) ?_
    refine lv_iconst (v := 5) hx hb dX5_sortOf_60 (by decide) ?_
    exact tb_iret h F hP hS dX5_sortOf_61
  have h := tb_ineg c1 h
  by_cases c2 : a0 = 100
  · have h := tb_ip c2 h
    refine lv_lookup (off := 57) (tgt := 58) hx hb dX5_sortOf_1 (by decide) (by rw [c2] <;> rfl) (by decide) ?_
    refine lv_iconst (v := 4) hx hb dX5_sortOf_58 (by decide) ?_
    exact tb_iret h F hP hS dX5_sortOf_59
  have h := tb_ineg c2 h
  by_cases c3 : a0 = 104
  · have h := tb_ip c3 h
    refine lv_lookup (off := 53) (tgt := 54) hx hb dX5_sortOf_1 (by decide) (by rw [c3] <;> rfl) (by decide) ?_
    refine lv_iconst (v := 2) hx hb dX5_sortOf_54 (by decide) ?_
    exact tb_iret h F hP hS dX5_sortOf_55
  have h := tb_ineg c3 h
  by_cases c4 : a0 = 112
  · have h := tb_ip c4 h
    refine lv_lookup (off := 51) (tgt := 52) hx hb dX5_sortOf_1 (by decide) (by rw [c4] <;> rfl) (by decide) ?_
    refine lv_iconst (v := 1) hx hb dX5_sortOf_52 (by decide) ?_
    exact tb_iret h F hP hS dX5_sortOf_53
  have h := tb_ineg c4 h
  by_cases c5 : a0 = 115
  · have h := tb_ip c5 h
    refine lv_lookup (off := 55) (tgt := 56) hx hb dX5_sortOf_1 (by decide) (by rw [c5] <;> rfl) (by decide) ?_
    refine lv_iconst (v := 3) hx hb dX5_sortOf_56 (by decide) ?_
    exact tb_iret h F hP hS dX5_sortOf_57
  have h := tb_ineg c5 h
  refine lv_lookup (off := 61) (tgt := 62) hx hb dX5_sortOf_1 (by decide) ((lv_osw c1 (by decide)).trans ((lv_osw c2 (by decide)).trans ((lv_osw c3 (by decide)).trans ((lv_osw c4 (by decide)).trans ((lv_osw c5 (by decide)).trans (rfl)))))) (by decide) ?_
  refine lv_iconst (v := 0) hx hb dX5_sortOf_62 (by decide) ?_
  exact tb_iret h F hP hS dX5_sortOf_63
def fX5_figuresHere_L2 : Nat → Int32 → tb_Mem → Option (Int32 × tb_Mem)
  | 0, _, _ => none
  | n + 1, x1, M => if 60 ≤ x1 then (some (x1, M)) else (tb_b2 (fX5_byteAt ((M 2 2) + x1) M) (fun r4 M2 => tb_b2 (fX6_within r4 48 57 M2) (fun r7 M5 => if r7 = 0 then (some (x1, M5)) else (fX5_figuresHere_L2 n (x1 + 1) M5))))
def fX5_figuresHere (M : tb_Mem) : Option (Int32 × tb_Mem) :=
  fX5_figuresHere_L2 tb_N 0 M
abbrev rmX5_figuresHere : Room := { frames := 2, cells := 0, slots := 0, locals := 43 }
set_option maxHeartbeats 4000000 in
set_option maxRecDepth 100000 in
theorem tX5_figuresHere_L2 {g : tb_GT} {l : Launch} {P : Program} {e : Env} {s : State} {m : MethodId} {below : List Frame} {meth : Method} {c : Code} {M' : tb_Mem} {r : Int32} (F : tb_F g cX5_figuresHere 2 RX5 (some .int) (Cond.code yX5_figuresHere cX5_figuresHere 2 (some .int)) P s m ([.ref (tb_ad g 2)] : List Value).toArray meth c) :
    ∀ (n : Nat) (x1 : Int32) (M : tb_Mem) (H : Heap) (locs : List Loc) (ls : Array Slot), tb_P g M H → va_S (tb_A g) s.heap H locs → lv_has ls 2 [(0, .ref (tb_ad g 2)), (1, .int x1)] → fX5_figuresHere_L2 n x1 M = some (r, M') → W P l e rmX5_figuresHere s m ([.ref (tb_ad g 2)] : List Value).toArray below meth c H locs 0 0 (MQ below (tb_Q g M' (some (.int r))) ([.ref (tb_ad g 2)] : List Value).toArray s 0 0 (tb_A g)) (F0 m 2 ls []) := by
  have hx := F.1.1
  have hb := F.1.2.1
  intro n
  induction n with
  | zero =>
    intro x1 M H locs ls hP hS hl h
    rw [fX5_figuresHere_L2] at h
    exact tb_none h
  | succ n ih =>
    intro x1 M H locs ls hP hS hl h
    rw [fX5_figuresHere_L2] at h
    refine lv_iload_n hx hb dX5_figuresHere_2 rfl (lv_at hl 1 rfl) ?_
    refine lv_bipush (v := 60) hx hb dX5_figuresHere_3 (by decide) ?_
    refine lv_icmp_ge (tgt := 34) hx hb dX5_figuresHere_5 (by decide) (fun c1 => ?_) (fun c1 => ?_)
    · have h := tb_ip c1 h
      refine lv_iload_n hx hb dX5_figuresHere_34 rfl (lv_at hl 1 rfl) ?_
      exact tb_iret h F hP hS dX5_figuresHere_35
    · have h := tb_ineg c1 h
      refine lv_aload_n hx hb dX5_figuresHere_8 rfl (lv_at hl 0 rfl) ?_
      refine lv_aload_n hx hb dX5_figuresHere_9 rfl (lv_at hl 0 rfl) ?_
      refine tb_geti F hP tb_l2 (ci := 5) rfl inlX5 2 (by decide) rfl kf_X5_24 dX5_figuresHere_10 ?_
      refine lv_iload_n hx hb dX5_figuresHere_13 rfl (lv_at hl 1 rfl) ?_
      refine lv_iadd hx hb dX5_figuresHere_14 ?_
      obtain ⟨r4, M2, e3, h⟩ := tb_b2s h
      refine tb_callV F hP hS hl.1 kX5_byteAt km_X5_31 (as := [.int ((M 2 2) + x1)]) (tX5_byteAt g l ((M 2 2) + x1) M M2 r4 e3) tb_l2 ⟨rfl, rfl, Nat.le_of_ble_eq_true rfl, Nat.le_of_ble_eq_true rfl⟩ rfl (rest := []) rfl (st1 := [.int r4]) rfl (Nat.le_of_ble_eq_true rfl) ⟨Nat.zero_le _, Nat.zero_le _⟩ dX5_figuresHere_15 (fun H locs hP hS => ?_)
      refine lv_bipush (v := 48) hx hb dX5_figuresHere_18 (by decide) ?_
      refine lv_bipush (v := 57) hx hb dX5_figuresHere_20 (by decide) ?_
      obtain ⟨r7, M5, e6, h⟩ := tb_b2s h
      refine tb_callSN F hP hS hl.1 kX6_within (index := 48) F.2.2.2.2.2.2.1 (as := [.int r4, .int 48, .int 57]) (tX6_within g l r4 48 57 M2 M5 r7 e6) ⟨rfl, rfl, Nat.le_of_ble_eq_true rfl, Nat.le_of_ble_eq_true rfl⟩ rfl (rest := []) rfl (st1 := [.int r7]) rfl (Nat.le_of_ble_eq_true rfl) ⟨Nat.zero_le _, Nat.zero_le _⟩ dX5_figuresHere_22 (fun H locs hP hS => ?_)
      refine lv_if_eq (tgt := 34) hx hb dX5_figuresHere_25 (by decide) (fun c8 => ?_) (fun c8 => ?_)
      · have h := tb_ip c8 h
        refine lv_iload_n hx hb dX5_figuresHere_34 rfl (lv_at hl 1 rfl) ?_
        exact tb_iret h F hP hS dX5_figuresHere_35
      · have h := tb_ineg c8 h
        refine lv_iinc (v := (x1 + 1)) (lv' := [(1, .int (x1 + 1)), (0, .ref (tb_ad g 2))]) hx hb dX5_figuresHere_28 hl (k := 1) rfl rfl (by decide) rfl (fun ls hl => ?_)
        refine lv_goto (tgt := 2) hx hb dX5_figuresHere_31 (by decide) ?_
        exact ih (x1 + 1) M5 _ _ _ hP hS (lv_sub hl [1, 0] rfl) h
set_option maxHeartbeats 4000000 in
set_option maxRecDepth 100000 in
theorem tX5_figuresHere (g : tb_GT) (l : Launch) (M M' : tb_Mem) (r : Int32) (h : fX5_figuresHere M = some (r, M')) : tb_C g l yX5_figuresHere (Cond.code yX5_figuresHere cX5_figuresHere 2 (some .int)) rmX5_figuresHere [.ref (tb_ad g 2)] M M' (some (.int r)) := by
  refine tb_entry (by decide) (Nat.le_of_ble_eq_true rfl) ?_
  intro P e s m below meth c F hP hS ls hl
  have F : tb_F g cX5_figuresHere 2 RX5 (some .int) (Cond.code yX5_figuresHere cX5_figuresHere 2 (some .int)) P s m ([.ref (tb_ad g 2)] : List Value).toArray meth c := F
  have hx := F.1.1
  have hb := F.1.2.1
  have hl : lv_has ls 2 [(0, .ref (tb_ad g 2))] := hl
  unfold fX5_figuresHere at h
  refine lv_iconst (v := 0) hx hb dX5_figuresHere_0 (by decide) ?_
  refine lv_istore_n (lv' := [(1, .int 0), (0, .ref (tb_ad g 2))]) hx hb dX5_figuresHere_1 rfl hl (by decide) rfl (fun ls hl => ?_)
  exact tX5_figuresHere_L2 F tb_N 0 M _ _ _ hP hS (lv_sub hl [1, 0] rfl) h
def fX5_numberHere_L4 : Nat → Int32 → Int32 → Int32 → tb_Mem → Option (Int32 × tb_Mem)
  | 0, _, _, _, _ => none
  | n + 1, x1, x2, x3, M => if x1 ≤ x3 then (some (x2, M)) else (tb_b2 (fX5_byteAt ((M 2 2) + x3) M) (fun r4 M2 => fX5_numberHere_L4 n x1 (((x2 * 10) + r4) - 48) (x3 + 1) M2))
def fX5_numberHere (a1 : Int32) (M : tb_Mem) : Option (Int32 × tb_Mem) :=
  fX5_numberHere_L4 tb_N a1 0 0 M
abbrev rmX5_numberHere : Room := { frames := 2, cells := 0, slots := 0, locals := 43 }
set_option maxHeartbeats 4000000 in
set_option maxRecDepth 100000 in
theorem tX5_numberHere_L4 {g : tb_GT} {l : Launch} {P : Program} {e : Env} {s : State} {m : MethodId} {below : List Frame} {meth : Method} {c : Code} {a1 : Int32} {M' : tb_Mem} {r : Int32} (F : tb_F g cX5_numberHere 4 RX5 (some .int) (Cond.code yX5_numberHere cX5_numberHere 4 (some .int)) P s m ([.ref (tb_ad g 2), .int a1] : List Value).toArray meth c) :
    ∀ (n : Nat) (x1 : Int32) (x2 : Int32) (x3 : Int32) (M : tb_Mem) (H : Heap) (locs : List Loc) (ls : Array Slot), tb_P g M H → va_S (tb_A g) s.heap H locs → lv_has ls 4 [(0, .ref (tb_ad g 2)), (1, .int x1), (2, .int x2), (3, .int x3)] → fX5_numberHere_L4 n x1 x2 x3 M = some (r, M') → W P l e rmX5_numberHere s m ([.ref (tb_ad g 2), .int a1] : List Value).toArray below meth c H locs 0 0 (MQ below (tb_Q g M' (some (.int r))) ([.ref (tb_ad g 2), .int a1] : List Value).toArray s 0 0 (tb_A g)) (F0 m 4 ls []) := by
  have hx := F.1.1
  have hb := F.1.2.1
  intro n
  induction n with
  | zero =>
    intro x1 x2 x3 M H locs ls hP hS hl h
    rw [fX5_numberHere_L4] at h
    exact tb_none h
  | succ n ih =>
    intro x1 x2 x3 M H locs ls hP hS hl h
    rw [fX5_numberHere_L4] at h
    refine lv_iload_n hx hb dX5_numberHere_4 rfl (lv_at hl 3 rfl) ?_
    refine lv_iload_n hx hb dX5_numberHere_5 rfl (lv_at hl 1 rfl) ?_
    refine lv_icmp_ge (tgt := 34) hx hb dX5_numberHere_6 (by decide) (fun c1 => ?_) (fun c1 => ?_)
    · have h := tb_ip c1 h
      refine lv_iload_n hx hb dX5_numberHere_34 rfl (lv_at hl 2 rfl) ?_
      exact tb_iret h F hP hS dX5_numberHere_35
    · have h := tb_ineg c1 h
      refine lv_iload_n hx hb dX5_numberHere_9 rfl (lv_at hl 2 rfl) ?_
      refine lv_bipush (v := 10) hx hb dX5_numberHere_10 (by decide) ?_
      refine lv_imul hx hb dX5_numberHere_12 ?_
      refine lv_aload_n hx hb dX5_numberHere_13 rfl (lv_at hl 0 rfl) ?_
      refine lv_aload_n hx hb dX5_numberHere_14 rfl (lv_at hl 0 rfl) ?_
      refine tb_geti F hP tb_l2 (ci := 5) rfl inlX5 2 (by decide) rfl kf_X5_24 dX5_numberHere_15 ?_
      refine lv_iload_n hx hb dX5_numberHere_18 rfl (lv_at hl 3 rfl) ?_
      refine lv_iadd hx hb dX5_numberHere_19 ?_
      obtain ⟨r4, M2, e3, h⟩ := tb_b2s h
      refine tb_callV F hP hS hl.1 kX5_byteAt km_X5_31 (as := [.int ((M 2 2) + x3)]) (tX5_byteAt g l ((M 2 2) + x3) M M2 r4 e3) tb_l2 ⟨rfl, rfl, Nat.le_of_ble_eq_true rfl, Nat.le_of_ble_eq_true rfl⟩ rfl (rest := [.int (x2 * 10)]) rfl (st1 := [.int r4, .int (x2 * 10)]) rfl (Nat.le_of_ble_eq_true rfl) ⟨Nat.zero_le _, Nat.zero_le _⟩ dX5_numberHere_20 (fun H locs hP hS => ?_)
      refine lv_iadd hx hb dX5_numberHere_23 ?_
      refine lv_bipush (v := 48) hx hb dX5_numberHere_24 (by decide) ?_
      refine lv_isub hx hb dX5_numberHere_26 ?_
      refine lv_istore_n (lv' := [(2, .int (((x2 * 10) + r4) - 48)), (0, .ref (tb_ad g 2)), (1, .int x1), (3, .int x3)]) hx hb dX5_numberHere_27 rfl hl (by decide) rfl (fun ls hl => ?_)
      refine lv_iinc (v := (x3 + 1)) (lv' := [(3, .int (x3 + 1)), (2, .int (((x2 * 10) + r4) - 48)), (0, .ref (tb_ad g 2)), (1, .int x1)]) hx hb dX5_numberHere_28 hl (k := 3) rfl rfl (by decide) rfl (fun ls hl => ?_)
      refine lv_goto (tgt := 4) hx hb dX5_numberHere_31 (by decide) ?_
      exact ih x1 (((x2 * 10) + r4) - 48) (x3 + 1) M2 _ _ _ hP hS (lv_sub hl [2, 3, 1, 0] rfl) h
set_option maxHeartbeats 4000000 in
set_option maxRecDepth 100000 in
theorem tX5_numberHere (g : tb_GT) (l : Launch) (a1 : Int32) (M M' : tb_Mem) (r : Int32) (h : fX5_numberHere a1 M = some (r, M')) : tb_C g l yX5_numberHere (Cond.code yX5_numberHere cX5_numberHere 4 (some .int)) rmX5_numberHere [.ref (tb_ad g 2), .int a1] M M' (some (.int r)) := by
  refine tb_entry (by decide) (Nat.le_of_ble_eq_true rfl) ?_
  intro P e s m below meth c F hP hS ls hl
  have F : tb_F g cX5_numberHere 4 RX5 (some .int) (Cond.code yX5_numberHere cX5_numberHere 4 (some .int)) P s m ([.ref (tb_ad g 2), .int a1] : List Value).toArray meth c := F
  have hx := F.1.1
  have hb := F.1.2.1
  have hl : lv_has ls 4 [(0, .ref (tb_ad g 2)), (1, .int a1)] := hl
  unfold fX5_numberHere at h
  refine lv_iconst (v := 0) hx hb dX5_numberHere_0 (by decide) ?_
  refine lv_istore_n (lv' := [(2, .int 0), (0, .ref (tb_ad g 2)), (1, .int a1)]) hx hb dX5_numberHere_1 rfl hl (by decide) rfl (fun ls hl => ?_)
  refine lv_iconst (v := 0) hx hb dX5_numberHere_2 (by decide) ?_
  refine lv_istore_n (lv' := [(3, .int 0), (2, .int 0), (0, .ref (tb_ad g 2)), (1, .int a1)]) hx hb dX5_numberHere_3 rfl hl (by decide) rfl (fun ls hl => ?_)
  exact tX5_numberHere_L4 F tb_N a1 0 0 M _ _ _ hP hS (lv_sub hl [2, 3, 1, 0] rfl) h
def fX5_readBar (p1 : Nat) (M : tb_Mem) : Option (Int32 × tb_Mem) :=
  tb_b2 (fX5_byteAt (M 2 2) M) (fun r3 M1 => tb_b2 (fX5_sortOf r3 M1) (fun r6 M4 => if r6 = 0 then (some (1, M4)) else (if (M4 p1 8) < 8 then (tb_let (tb_up M4 2 2 ((M4 2 2) + 1)) (fun M9 => tb_b2 (fX5_figuresHere M9) (fun r13 M11 => if r13 < 1 then (some (1, M11)) else (if r13 ≤ 2 then (tb_b2 (fX5_numberHere r13 M11) (fun r18 M16 => tb_b2 (fX6_within r18 1 4 M16) (fun r21 M19 => if r21 = 0 then (some (2, M19)) else (tb_let (tb_up M19 2 2 ((M19 2 2) + r13)) (fun M23 => tb_b2 (fX5_byteAt (M23 2 2) M23) (fun r27 M25 => if r27 = 59 then (tb_let (tb_up M25 2 2 ((M25 2 2) + 1)) (fun M29 => tb_b1 (fX2_addBar p1 r6 r18 M29) (fun M31 => some (0, M31)))) else (some (1, M25)))))))) else (some (1, M11)))))) else (some (3, M4)))))
abbrev rmX5_readBar : Room := { frames := 3, cells := 0, slots := 0, locals := 66 }
set_option maxHeartbeats 4000000 in
set_option maxRecDepth 100000 in
theorem tX5_readBar (g : tb_GT) (l : Launch) (p1 : Nat) (hB1 : tb_B p1) (M M' : tb_Mem) (r : Int32) (h : fX5_readBar p1 M = some (r, M')) : tb_C g l yX5_readBar (Cond.code yX5_readBar cX5_readBar 5 (some .int)) rmX5_readBar [.ref (tb_ad g 2), .ref (tb_ad g p1)] M M' (some (.int r)) := by
  refine tb_entry (by decide) (Nat.le_of_ble_eq_true rfl) ?_
  intro P e s m below meth c F hP hS ls hl
  have F : tb_F g cX5_readBar 5 RX5 (some .int) (Cond.code yX5_readBar cX5_readBar 5 (some .int)) P s m ([.ref (tb_ad g 2), .ref (tb_ad g p1)] : List Value).toArray meth c := F
  have hx := F.1.1
  have hb := F.1.2.1
  have hl : lv_has ls 5 [(0, .ref (tb_ad g 2)), (1, .ref (tb_ad g p1))] := hl
  unfold fX5_readBar at h
  refine lv_aload_n hx hb dX5_readBar_0 rfl (lv_at hl 0 rfl) ?_
  refine lv_aload_n hx hb dX5_readBar_1 rfl (lv_at hl 0 rfl) ?_
  refine tb_geti F hP tb_l2 (ci := 5) rfl inlX5 2 (by decide) rfl kf_X5_24 dX5_readBar_2 ?_
  obtain ⟨r3, M1, e2, h⟩ := tb_b2s h
  refine tb_callV F hP hS hl.1 kX5_byteAt km_X5_31 (as := [.int (M 2 2)]) (tX5_byteAt g l (M 2 2) M M1 r3 e2) tb_l2 ⟨rfl, rfl, Nat.le_of_ble_eq_true rfl, Nat.le_of_ble_eq_true rfl⟩ rfl (rest := []) rfl (st1 := [.int r3]) rfl (Nat.le_of_ble_eq_true rfl) ⟨Nat.zero_le _, Nat.zero_le _⟩ dX5_readBar_5 (fun H locs hP hS => ?_)
  obtain ⟨r6, M4, e5, h⟩ := tb_b2s h
  refine tb_callS F hP hS hl.1 kX5_sortOf km_X5_35 (as := [.int r3]) (tX5_sortOf g l r3 M1 M4 r6 e5) ⟨rfl, rfl, Nat.le_of_ble_eq_true rfl, Nat.le_of_ble_eq_true rfl⟩ rfl (rest := []) rfl (st1 := [.int r6]) rfl (Nat.le_of_ble_eq_true rfl) ⟨Nat.zero_le _, Nat.zero_le _⟩ dX5_readBar_8 (fun H locs hP hS => ?_)
  refine lv_istore_n (lv' := [(2, .int r6), (0, .ref (tb_ad g 2)), (1, .ref (tb_ad g p1))]) hx hb dX5_readBar_11 rfl hl (by decide) rfl (fun ls hl => ?_)
  refine lv_iload_n hx hb dX5_readBar_12 rfl (lv_at hl 0 rfl) ?_
  refine lv_if_ne (tgt := 18) hx hb dX5_readBar_13 (by decide) (fun c7 => ?_) (fun c7 => ?_)
  · have h := tb_ineg c7 h
    refine lv_aload_n hx hb dX5_readBar_18 rfl (lv_at hl 2 rfl) ?_
    refine tb_geti F hP hB1.1 (ci := 2) rfl inlX2 8 (by decide) rfl kf_X5_38 dX5_readBar_19 ?_
    refine lv_bipush (v := 8) hx hb dX5_readBar_22 (by decide) ?_
    refine lv_icmp_lt (tgt := 29) hx hb dX5_readBar_24 (by decide) (fun c8 => ?_) (fun c8 => ?_)
    · have h := tb_ip c8 h
      refine lv_aload_n hx hb dX5_readBar_29 rfl (lv_at hl 1 rfl) ?_
      refine lv_dup hx hb dX5_readBar_30 rfl ?_
      refine tb_geti F hP tb_l2 (ci := 5) rfl inlX5 2 (by decide) rfl kf_X5_24 dX5_readBar_31 ?_
      refine lv_iconst (v := 1) hx hb dX5_readBar_34 (by decide) ?_
      refine lv_iadd hx hb dX5_readBar_35 ?_
      obtain ⟨M9, e10, h⟩ := tb_lets h
      refine tb_puti F hP hS tb_l2 (ci := 5) rfl inlX5 tyX5 tyX5_ok nmX5 2 (by decide) rfl rfl rfl rfl kf_X5_24 dX5_readBar_36 (fun H locs hP hS => ?_)
      rw [← e10] at hP
      refine lv_aload_n hx hb dX5_readBar_39 rfl (lv_at hl 1 rfl) ?_
      obtain ⟨r13, M11, e12, h⟩ := tb_b2s h
      refine tb_callV F hP hS hl.1 kX5_figuresHere km_X5_41 (as := []) (tX5_figuresHere g l M9 M11 r13 e12) tb_l2 ⟨rfl, rfl, Nat.le_of_ble_eq_true rfl, Nat.le_of_ble_eq_true rfl⟩ rfl (rest := []) rfl (st1 := [.int r13]) rfl (Nat.le_of_ble_eq_true rfl) ⟨Nat.zero_le _, Nat.zero_le _⟩ dX5_readBar_40 (fun H locs hP hS => ?_)
      refine lv_istore_n (lv' := [(3, .int r13), (2, .int r6), (0, .ref (tb_ad g 2)), (1, .ref (tb_ad g p1))]) hx hb dX5_readBar_43 rfl hl (by decide) rfl (fun ls hl => ?_)
      refine lv_iload_n hx hb dX5_readBar_44 rfl (lv_at hl 0 rfl) ?_
      refine lv_iconst (v := 1) hx hb dX5_readBar_45 (by decide) ?_
      refine lv_icmp_lt (tgt := 54) hx hb dX5_readBar_46 (by decide) (fun c14 => ?_) (fun c14 => ?_)
      · have h := tb_ip c14 h
        refine lv_iconst (v := 1) hx hb dX5_readBar_54 (by decide) ?_
        exact tb_iret h F hP hS dX5_readBar_55
      · have h := tb_ineg c14 h
        refine lv_iload_n hx hb dX5_readBar_49 rfl (lv_at hl 0 rfl) ?_
        refine lv_iconst (v := 2) hx hb dX5_readBar_50 (by decide) ?_
        refine lv_icmp_le (tgt := 56) hx hb dX5_readBar_51 (by decide) (fun c15 => ?_) (fun c15 => ?_)
        · have h := tb_ip c15 h
          refine lv_aload_n hx hb dX5_readBar_56 rfl (lv_at hl 2 rfl) ?_
          refine lv_iload_n hx hb dX5_readBar_57 rfl (lv_at hl 0 rfl) ?_
          obtain ⟨r18, M16, e17, h⟩ := tb_b2s h
          refine tb_callV F hP hS hl.1 kX5_numberHere km_X5_45 (as := [.int r13]) (tX5_numberHere g l r13 M11 M16 r18 e17) tb_l2 ⟨rfl, rfl, Nat.le_of_ble_eq_true rfl, Nat.le_of_ble_eq_true rfl⟩ rfl (rest := []) rfl (st1 := [.int r18]) rfl (Nat.le_of_ble_eq_true rfl) ⟨Nat.zero_le _, Nat.zero_le _⟩ dX5_readBar_58 (fun H locs hP hS => ?_)
          refine lv_istore (lv' := [(4, .int r18), (3, .int r13), (2, .int r6), (0, .ref (tb_ad g 2)), (1, .ref (tb_ad g p1))]) hx hb dX5_readBar_61 hl (by decide) rfl (fun ls hl => ?_)
          refine lv_iload hx hb dX5_readBar_63 (lv_at hl 0 rfl) ?_
          refine lv_iconst (v := 1) hx hb dX5_readBar_65 (by decide) ?_
          refine lv_iconst (v := 4) hx hb dX5_readBar_66 (by decide) ?_
          obtain ⟨r21, M19, e20, h⟩ := tb_b2s h
          refine tb_callSN F hP hS hl.1 kX6_within (index := 48) F.2.2.2.2.2.2.1 (as := [.int r18, .int 1, .int 4]) (tX6_within g l r18 1 4 M16 M19 r21 e20) ⟨rfl, rfl, Nat.le_of_ble_eq_true rfl, Nat.le_of_ble_eq_true rfl⟩ rfl (rest := []) rfl (st1 := [.int r21]) rfl (Nat.le_of_ble_eq_true rfl) ⟨Nat.zero_le _, Nat.zero_le _⟩ dX5_readBar_67 (fun H locs hP hS => ?_)
          refine lv_if_ne (tgt := 75) hx hb dX5_readBar_70 (by decide) (fun c22 => ?_) (fun c22 => ?_)
          · have h := tb_ineg c22 h
            refine lv_aload_n hx hb dX5_readBar_75 rfl (lv_at hl 3 rfl) ?_
            refine lv_dup hx hb dX5_readBar_76 rfl ?_
            refine tb_geti F hP tb_l2 (ci := 5) rfl inlX5 2 (by decide) rfl kf_X5_24 dX5_readBar_77 ?_
            refine lv_iload_n hx hb dX5_readBar_80 rfl (lv_at hl 1 rfl) ?_
            refine lv_iadd hx hb dX5_readBar_81 ?_
            obtain ⟨M23, e24, h⟩ := tb_lets h
            refine tb_puti F hP hS tb_l2 (ci := 5) rfl inlX5 tyX5 tyX5_ok nmX5 2 (by decide) rfl rfl rfl rfl kf_X5_24 dX5_readBar_82 (fun H locs hP hS => ?_)
            rw [← e24] at hP
            refine lv_aload_n hx hb dX5_readBar_85 rfl (lv_at hl 3 rfl) ?_
            refine lv_aload_n hx hb dX5_readBar_86 rfl (lv_at hl 3 rfl) ?_
            refine tb_geti F hP tb_l2 (ci := 5) rfl inlX5 2 (by decide) rfl kf_X5_24 dX5_readBar_87 ?_
            obtain ⟨r27, M25, e26, h⟩ := tb_b2s h
            refine tb_callV F hP hS hl.1 kX5_byteAt km_X5_31 (as := [.int (M23 2 2)]) (tX5_byteAt g l (M23 2 2) M23 M25 r27 e26) tb_l2 ⟨rfl, rfl, Nat.le_of_ble_eq_true rfl, Nat.le_of_ble_eq_true rfl⟩ rfl (rest := []) rfl (st1 := [.int r27]) rfl (Nat.le_of_ble_eq_true rfl) ⟨Nat.zero_le _, Nat.zero_le _⟩ dX5_readBar_90 (fun H locs hP hS => ?_)
            refine lv_bipush (v := 59) hx hb dX5_readBar_93 (by decide) ?_
            refine lv_icmp_eq (tgt := 100) hx hb dX5_readBar_95 (by decide) (fun c28 => ?_) (fun c28 => ?_)
            · have h := tb_ip c28 h
              refine lv_aload_n hx hb dX5_readBar_100 rfl (lv_at hl 3 rfl) ?_
              refine lv_dup hx hb dX5_readBar_101 rfl ?_
              refine tb_geti F hP tb_l2 (ci := 5) rfl inlX5 2 (by decide) rfl kf_X5_24 dX5_readBar_102 ?_
              refine lv_iconst (v := 1) hx hb dX5_readBar_105 (by decide) ?_
              refine lv_iadd hx hb dX5_readBar_106 ?_
              obtain ⟨M29, e30, h⟩ := tb_lets h
              refine tb_puti F hP hS tb_l2 (ci := 5) rfl inlX5 tyX5 tyX5_ok nmX5 2 (by decide) rfl rfl rfl rfl kf_X5_24 dX5_readBar_107 (fun H locs hP hS => ?_)
              rw [← e30] at hP
              refine lv_aload_n hx hb dX5_readBar_110 rfl (lv_at hl 4 rfl) ?_
              refine lv_iload_n hx hb dX5_readBar_111 rfl (lv_at hl 2 rfl) ?_
              refine lv_iload hx hb dX5_readBar_112 (lv_at hl 0 rfl) ?_
              obtain ⟨M31, e32, h⟩ := tb_b1s h
              refine tb_callV F hP hS hl.1 kX2_addBar km_X5_52 (as := [.int r6, .int r18]) (tX2_addBar g l p1 hB1 r6 r18 M29 M31 e32) hB1.1 ⟨rfl, rfl, Nat.le_of_ble_eq_true rfl, Nat.le_of_ble_eq_true rfl⟩ rfl (rest := []) rfl (st1 := []) rfl (Nat.le_of_ble_eq_true rfl) ⟨Nat.zero_le _, Nat.zero_le _⟩ dX5_readBar_114 (fun H locs hP hS => ?_)
              refine lv_iconst (v := 0) hx hb dX5_readBar_117 (by decide) ?_
              exact tb_iret h F hP hS dX5_readBar_118
            · have h := tb_ineg c28 h
              refine lv_iconst (v := 1) hx hb dX5_readBar_98 (by decide) ?_
              exact tb_iret h F hP hS dX5_readBar_99
          · have h := tb_ip c22 h
            refine lv_iconst (v := 2) hx hb dX5_readBar_73 (by decide) ?_
            exact tb_iret h F hP hS dX5_readBar_74
        · have h := tb_ineg c15 h
          refine lv_iconst (v := 1) hx hb dX5_readBar_54 (by decide) ?_
          exact tb_iret h F hP hS dX5_readBar_55
    · have h := tb_ineg c8 h
      refine lv_iconst (v := 3) hx hb dX5_readBar_27 (by decide) ?_
      exact tb_iret h F hP hS dX5_readBar_28
  · have h := tb_ip c7 h
    refine lv_iconst (v := 1) hx hb dX5_readBar_16 (by decide) ?_
    exact tb_iret h F hP hS dX5_readBar_17
def fX5_readInto_L17 (p1 : Nat) : Nat → Int32 → Int32 → tb_Mem → Option (Int32 × tb_Mem)
  | 0, _, _, _ => none
  | n + 1, x2, x3, M => if 8 ≤ x3 then (tb_let (tb_up M 2 1 0) (fun M9 => some (x2, M9))) else (if x2 = 0 then (if (M 2 1) ≤ (M 2 2) then (tb_let (tb_up M 2 1 0) (fun M15 => some (x2, M15))) else (tb_b2 (fX5_readBar p1 M) (fun r19 M17 => fX5_readInto_L17 p1 n r19 (x3 + 1) M17))) else (tb_let (tb_up M 2 1 0) (fun M12 => some (x2, M12))))
def fX5_readInto (p1 : Nat) (M : tb_Mem) : Option (Int32 × tb_Mem) :=
  tb_b1 (fX2_clear p1 M) (fun M1 => tb_let (tb_up M1 2 2 0) (fun M3 => tb_b2 (fX5_readBar p1 M3) (fun r7 M5 => fX5_readInto_L17 p1 tb_N r7 0 M5)))
abbrev rmX5_readInto : Room := { frames := 4, cells := 0, slots := 0, locals := 90 }
set_option maxHeartbeats 4000000 in
set_option maxRecDepth 100000 in
theorem tX5_readInto_L17 {g : tb_GT} {l : Launch} {P : Program} {e : Env} {s : State} {m : MethodId} {below : List Frame} {meth : Method} {c : Code} (p1 : Nat) (hB1 : tb_B p1) {M' : tb_Mem} {r : Int32} (F : tb_F g cX5_readInto 4 RX5 (some .int) (Cond.code yX5_readInto cX5_readInto 4 (some .int)) P s m ([.ref (tb_ad g 2), .ref (tb_ad g p1)] : List Value).toArray meth c) :
    ∀ (n : Nat) (x2 : Int32) (x3 : Int32) (M : tb_Mem) (H : Heap) (locs : List Loc) (ls : Array Slot), tb_P g M H → va_S (tb_A g) s.heap H locs → lv_has ls 4 [(0, .ref (tb_ad g 2)), (1, .ref (tb_ad g p1)), (2, .int x2), (3, .int x3)] → fX5_readInto_L17 p1 n x2 x3 M = some (r, M') → W P l e rmX5_readInto s m ([.ref (tb_ad g 2), .ref (tb_ad g p1)] : List Value).toArray below meth c H locs 0 0 (MQ below (tb_Q g M' (some (.int r))) ([.ref (tb_ad g 2), .ref (tb_ad g p1)] : List Value).toArray s 0 0 (tb_A g)) (F0 m 17 ls []) := by
  have hx := F.1.1
  have hb := F.1.2.1
  intro n
  induction n with
  | zero =>
    intro x2 x3 M H locs ls hP hS hl h
    rw [fX5_readInto_L17] at h
    exact tb_none h
  | succ n ih =>
    intro x2 x3 M H locs ls hP hS hl h
    rw [fX5_readInto_L17] at h
    refine lv_iload_n hx hb dX5_readInto_17 rfl (lv_at hl 3 rfl) ?_
    refine lv_bipush (v := 8) hx hb dX5_readInto_18 (by decide) ?_
    refine lv_icmp_ge (tgt := 50) hx hb dX5_readInto_20 (by decide) (fun c8 => ?_) (fun c8 => ?_)
    · have h := tb_ip c8 h
      refine lv_aload_n hx hb dX5_readInto_50 rfl (lv_at hl 0 rfl) ?_
      refine lv_iconst (v := 0) hx hb dX5_readInto_51 (by decide) ?_
      obtain ⟨M9, e10, h⟩ := tb_lets h
      refine tb_puti F hP hS tb_l2 (ci := 5) rfl inlX5 tyX5 tyX5_ok nmX5 1 (by decide) rfl rfl rfl rfl kf_X5_15 dX5_readInto_52 (fun H locs hP hS => ?_)
      rw [← e10] at hP
      refine lv_iload_n hx hb dX5_readInto_55 rfl (lv_at hl 2 rfl) ?_
      exact tb_iret h F hP hS dX5_readInto_56
    · have h := tb_ineg c8 h
      refine lv_iload_n hx hb dX5_readInto_23 rfl (lv_at hl 2 rfl) ?_
      refine lv_if_ne (tgt := 50) hx hb dX5_readInto_24 (by decide) (fun c11 => ?_) (fun c11 => ?_)
      · have h := tb_ineg c11 h
        refine lv_aload_n hx hb dX5_readInto_50 rfl (lv_at hl 0 rfl) ?_
        refine lv_iconst (v := 0) hx hb dX5_readInto_51 (by decide) ?_
        obtain ⟨M12, e13, h⟩ := tb_lets h
        refine tb_puti F hP hS tb_l2 (ci := 5) rfl inlX5 tyX5 tyX5_ok nmX5 1 (by decide) rfl rfl rfl rfl kf_X5_15 dX5_readInto_52 (fun H locs hP hS => ?_)
        rw [← e13] at hP
        refine lv_iload_n hx hb dX5_readInto_55 rfl (lv_at hl 2 rfl) ?_
        exact tb_iret h F hP hS dX5_readInto_56
      · have h := tb_ip c11 h
        refine lv_aload_n hx hb dX5_readInto_27 rfl (lv_at hl 0 rfl) ?_
        refine tb_geti F hP tb_l2 (ci := 5) rfl inlX5 2 (by decide) rfl kf_X5_24 dX5_readInto_28 ?_
        refine lv_aload_n hx hb dX5_readInto_31 rfl (lv_at hl 0 rfl) ?_
        refine tb_geti F hP tb_l2 (ci := 5) rfl inlX5 1 (by decide) rfl kf_X5_15 dX5_readInto_32 ?_
        refine lv_icmp_ge (tgt := 50) hx hb dX5_readInto_35 (by decide) (fun c14 => ?_) (fun c14 => ?_)
        · have h := tb_ip c14 h
          refine lv_aload_n hx hb dX5_readInto_50 rfl (lv_at hl 0 rfl) ?_
          refine lv_iconst (v := 0) hx hb dX5_readInto_51 (by decide) ?_
          obtain ⟨M15, e16, h⟩ := tb_lets h
          refine tb_puti F hP hS tb_l2 (ci := 5) rfl inlX5 tyX5 tyX5_ok nmX5 1 (by decide) rfl rfl rfl rfl kf_X5_15 dX5_readInto_52 (fun H locs hP hS => ?_)
          rw [← e16] at hP
          refine lv_iload_n hx hb dX5_readInto_55 rfl (lv_at hl 2 rfl) ?_
          exact tb_iret h F hP hS dX5_readInto_56
        · have h := tb_ineg c14 h
          refine lv_aload_n hx hb dX5_readInto_38 rfl (lv_at hl 0 rfl) ?_
          refine lv_aload_n hx hb dX5_readInto_39 rfl (lv_at hl 1 rfl) ?_
          obtain ⟨r19, M17, e18, h⟩ := tb_b2s h
          refine tb_callV F hP hS hl.1 kX5_readBar km_X5_27 (as := [.ref (tb_ad g p1)]) (tX5_readBar g l p1 hB1 M M17 r19 e18) tb_l2 ⟨rfl, rfl, Nat.le_of_ble_eq_true rfl, Nat.le_of_ble_eq_true rfl⟩ rfl (rest := []) rfl (st1 := [.int r19]) rfl (Nat.le_of_ble_eq_true rfl) ⟨Nat.zero_le _, Nat.zero_le _⟩ dX5_readInto_40 (fun H locs hP hS => ?_)
          refine lv_istore_n (lv' := [(2, .int r19), (0, .ref (tb_ad g 2)), (1, .ref (tb_ad g p1)), (3, .int x3)]) hx hb dX5_readInto_43 rfl hl (by decide) rfl (fun ls hl => ?_)
          refine lv_iinc (v := (x3 + 1)) (lv' := [(3, .int (x3 + 1)), (2, .int r19), (0, .ref (tb_ad g 2)), (1, .ref (tb_ad g p1))]) hx hb dX5_readInto_44 hl (k := 3) rfl rfl (by decide) rfl (fun ls hl => ?_)
          refine lv_goto (tgt := 17) hx hb dX5_readInto_47 (by decide) ?_
          exact ih r19 (x3 + 1) M17 _ _ _ hP hS (lv_sub hl [2, 3, 1, 0] rfl) h
set_option maxHeartbeats 4000000 in
set_option maxRecDepth 100000 in
theorem tX5_readInto (g : tb_GT) (l : Launch) (p1 : Nat) (hB1 : tb_B p1) (M M' : tb_Mem) (r : Int32) (h : fX5_readInto p1 M = some (r, M')) : tb_C g l yX5_readInto (Cond.code yX5_readInto cX5_readInto 4 (some .int)) rmX5_readInto [.ref (tb_ad g 2), .ref (tb_ad g p1)] M M' (some (.int r)) := by
  refine tb_entry (by decide) (Nat.le_of_ble_eq_true rfl) ?_
  intro P e s m below meth c F hP hS ls hl
  have F : tb_F g cX5_readInto 4 RX5 (some .int) (Cond.code yX5_readInto cX5_readInto 4 (some .int)) P s m ([.ref (tb_ad g 2), .ref (tb_ad g p1)] : List Value).toArray meth c := F
  have hx := F.1.1
  have hb := F.1.2.1
  have hl : lv_has ls 4 [(0, .ref (tb_ad g 2)), (1, .ref (tb_ad g p1))] := hl
  unfold fX5_readInto at h
  refine lv_aload_n hx hb dX5_readInto_0 rfl (lv_at hl 1 rfl) ?_
  obtain ⟨M1, e2, h⟩ := tb_b1s h
  refine tb_callV F hP hS hl.1 kX2_clear km_X5_19 (as := []) (tX2_clear g l p1 hB1 M M1 e2) hB1.1 ⟨rfl, rfl, Nat.le_of_ble_eq_true rfl, Nat.le_of_ble_eq_true rfl⟩ rfl (rest := []) rfl (st1 := []) rfl (Nat.le_of_ble_eq_true rfl) ⟨Nat.zero_le _, Nat.zero_le _⟩ dX5_readInto_1 (fun H locs hP hS => ?_)
  refine lv_aload_n hx hb dX5_readInto_4 rfl (lv_at hl 0 rfl) ?_
  refine lv_iconst (v := 0) hx hb dX5_readInto_5 (by decide) ?_
  obtain ⟨M3, e4, h⟩ := tb_lets h
  refine tb_puti F hP hS tb_l2 (ci := 5) rfl inlX5 tyX5 tyX5_ok nmX5 2 (by decide) rfl rfl rfl rfl kf_X5_24 dX5_readInto_6 (fun H locs hP hS => ?_)
  rw [← e4] at hP
  refine lv_aload_n hx hb dX5_readInto_9 rfl (lv_at hl 0 rfl) ?_
  refine lv_aload_n hx hb dX5_readInto_10 rfl (lv_at hl 1 rfl) ?_
  obtain ⟨r7, M5, e6, h⟩ := tb_b2s h
  refine tb_callV F hP hS hl.1 kX5_readBar km_X5_27 (as := [.ref (tb_ad g p1)]) (tX5_readBar g l p1 hB1 M3 M5 r7 e6) tb_l2 ⟨rfl, rfl, Nat.le_of_ble_eq_true rfl, Nat.le_of_ble_eq_true rfl⟩ rfl (rest := []) rfl (st1 := [.int r7]) rfl (Nat.le_of_ble_eq_true rfl) ⟨Nat.zero_le _, Nat.zero_le _⟩ dX5_readInto_11 (fun H locs hP hS => ?_)
  refine lv_istore_n (lv' := [(2, .int r7), (0, .ref (tb_ad g 2)), (1, .ref (tb_ad g p1))]) hx hb dX5_readInto_14 rfl hl (by decide) rfl (fun ls hl => ?_)
  refine lv_iconst (v := 0) hx hb dX5_readInto_15 (by decide) ?_
  refine lv_istore_n (lv' := [(3, .int 0), (2, .int r7), (0, .ref (tb_ad g 2)), (1, .ref (tb_ad g p1))]) hx hb dX5_readInto_16 rfl hl (by decide) rfl (fun ls hl => ?_)
  exact tX5_readInto_L17 p1 hB1 F tb_N r7 0 M5 _ _ _ hP hS (lv_sub hl [2, 3, 1, 0] rfl) h

def fX2_bringBack (p : Nat) (M : tb_Mem) : Option (tb_Mem) :=
  tb_let (tb_up M p 11 0) (fun M1 => tb_b1 (fJ7_fill_53178 (p + 8) 20 0 M1) (fun M3 => some M3))
abbrev rmX2_bringBack : Room := { frames := 1, cells := 0, slots := 0, locals := 23 }
set_option maxHeartbeats 4000000 in
set_option maxRecDepth 100000 in
theorem tX2_bringBack (g : tb_GT) (l : Launch) (p : Nat) (hB : tb_B p) (M M' : tb_Mem) (h : fX2_bringBack p M = some M') : tb_C g l yX2_bringBack (Cond.code yX2_bringBack cX2_bringBack 1 none) rmX2_bringBack [.ref (tb_ad g p)] M M' none := by
  refine tb_entry (by decide) (Nat.le_of_ble_eq_true rfl) ?_
  intro P e s m below meth c F hP hS ls hl
  have F : tb_F g cX2_bringBack 1 RX2 none (Cond.code yX2_bringBack cX2_bringBack 1 none) P s m ([.ref (tb_ad g p)] : List Value).toArray meth c := F
  have hx := F.1.1
  have hb := F.1.2.1
  have hl : lv_has ls 1 [(0, .ref (tb_ad g p))] := hl
  unfold fX2_bringBack at h
  refine lv_aload_n hx hb dX2_bringBack_0 rfl (lv_at hl 0 rfl) ?_
  refine lv_iconst (v := 0) hx hb dX2_bringBack_1 (by decide) ?_
  obtain ⟨M1, e2, h⟩ := tb_lets h
  refine tb_puti F hP hS hB.1 (ci := 2) rfl inlX2 tyX2 tyX2_ok nmX2 11 (by decide) rfl rfl rfl rfl kf_X2_62 dX2_bringBack_2 (fun H locs hP hS => ?_)
  rw [← e2] at hP
  refine lv_aload_n hx hb dX2_bringBack_5 rfl (lv_at hl 0 rfl) ?_
  refine tb_getr F hP hB.1 (ci := 2) rfl inlX2 7 (by decide) rfl kf_X2_33 dX2_bringBack_6 ?_
  refine lv_iconst (v := 0) hx hb dX2_bringBack_9 (by decide) ?_
  obtain ⟨M3, e4, h⟩ := tb_b1s h
  refine tb_callS F hP hS hl.1 kJ7_fill_53178 km_X2_73 (as := [.ref (tb_ad g (p + 8)), .int 0]) (tJ7_fill_53178 g l (p + 8) 20 hB.2.2.2.2.2.2.2.2 0 M1 M3 e4) ⟨rfl, rfl, Nat.le_of_ble_eq_true rfl, Nat.le_of_ble_eq_true rfl⟩ rfl (rest := []) rfl (st1 := []) rfl (Nat.le_of_ble_eq_true rfl) ⟨Nat.zero_le _, Nat.zero_le _⟩ dX2_bringBack_10 (fun H locs hP hS => ?_)
  exact tb_vret h F hP hS dX2_bringBack_13
def fX2_clear (p : Nat) (M : tb_Mem) : Option (tb_Mem) :=
  tb_let (tb_up M p 8 0) (fun M1 => tb_let (tb_up M1 p 9 0) (fun M3 => tb_let (tb_up M3 p 10 0) (fun M5 => tb_let (tb_up M5 p 12 0) (fun M7 => tb_b1 (fX2_bringBack p M7) (fun M9 => some M9)))))
abbrev rmX2_clear : Room := { frames := 2, cells := 0, slots := 0, locals := 43 }
set_option maxHeartbeats 4000000 in
set_option maxRecDepth 100000 in
theorem tX2_clear (g : tb_GT) (l : Launch) (p : Nat) (hB : tb_B p) (M M' : tb_Mem) (h : fX2_clear p M = some M') : tb_C g l yX2_clear (Cond.code yX2_clear cX2_clear 1 none) rmX2_clear [.ref (tb_ad g p)] M M' none := by
  refine tb_entry (by decide) (Nat.le_of_ble_eq_true rfl) ?_
  intro P e s m below meth c F hP hS ls hl
  have F : tb_F g cX2_clear 1 RX2 none (Cond.code yX2_clear cX2_clear 1 none) P s m ([.ref (tb_ad g p)] : List Value).toArray meth c := F
  have hx := F.1.1
  have hb := F.1.2.1
  have hl : lv_has ls 1 [(0, .ref (tb_ad g p))] := hl
  unfold fX2_clear at h
  refine lv_aload_n hx hb dX2_clear_0 rfl (lv_at hl 0 rfl) ?_
  refine lv_iconst (v := 0) hx hb dX2_clear_1 (by decide) ?_
  obtain ⟨M1, e2, h⟩ := tb_lets h
  refine tb_puti F hP hS hB.1 (ci := 2) rfl inlX2 tyX2 tyX2_ok nmX2 8 (by decide) rfl rfl rfl rfl kf_X2_36 dX2_clear_2 (fun H locs hP hS => ?_)
  rw [← e2] at hP
  refine lv_aload_n hx hb dX2_clear_5 rfl (lv_at hl 0 rfl) ?_
  refine lv_iconst (v := 0) hx hb dX2_clear_6 (by decide) ?_
  obtain ⟨M3, e4, h⟩ := tb_lets h
  refine tb_puti F hP hS hB.1 (ci := 2) rfl inlX2 tyX2 tyX2_ok nmX2 9 (by decide) rfl rfl rfl rfl kf_X2_40 dX2_clear_7 (fun H locs hP hS => ?_)
  rw [← e4] at hP
  refine lv_aload_n hx hb dX2_clear_10 rfl (lv_at hl 0 rfl) ?_
  refine lv_iconst (v := 0) hx hb dX2_clear_11 (by decide) ?_
  obtain ⟨M5, e6, h⟩ := tb_lets h
  refine tb_puti F hP hS hB.1 (ci := 2) rfl inlX2 tyX2 tyX2_ok nmX2 10 (by decide) rfl rfl rfl rfl kf_X2_43 dX2_clear_12 (fun H locs hP hS => ?_)
  rw [← e6] at hP
  refine lv_aload_n hx hb dX2_clear_15 rfl (lv_at hl 0 rfl) ?_
  refine lv_iconst (v := 0) hx hb dX2_clear_16 (by decide) ?_
  obtain ⟨M7, e8, h⟩ := tb_lets h
  refine tb_puti F hP hS hB.1 (ci := 2) rfl inlX2 tyX2 tyX2_ok nmX2 12 (by decide) rfl rfl rfl rfl kf_X2_46 dX2_clear_17 (fun H locs hP hS => ?_)
  rw [← e8] at hP
  refine lv_aload_n hx hb dX2_clear_20 rfl (lv_at hl 0 rfl) ?_
  obtain ⟨M9, e10, h⟩ := tb_b1s h
  refine tb_callV F hP hS hl.1 kX2_bringBack km_X2_49 (as := []) (tX2_bringBack g l p hB M7 M9 e10) hB.1 ⟨rfl, rfl, Nat.le_of_ble_eq_true rfl, Nat.le_of_ble_eq_true rfl⟩ rfl (rest := []) rfl (st1 := []) rfl (Nat.le_of_ble_eq_true rfl) ⟨Nat.zero_le _, Nat.zero_le _⟩ dX2_clear_21 (fun H locs hP hS => ?_)
  exact tb_vret h F hP hS dX2_clear_24
def fX2_shape (p : Nat) (a1 : Int32) (a2 : Int32) (a3 : Int32) (M : tb_Mem) : Option (tb_Mem) :=
  tb_ck (tb_in a1 8) (tb_let (tb_up M (p + 1) a1.toNatClampNeg a2) (fun M2 => tb_let (tb_up M2 (p + 2) a1.toNatClampNeg a3) (fun M4 => tb_let (tb_up M4 (p + 3) a1.toNatClampNeg ((if a2 = 2 then (a3 + 1) else a3) : Int32)) (fun M7 => some M7))))
abbrev rmX2_shape : Room := { frames := 0, cells := 0, slots := 0, locals := 0 }
set_option maxHeartbeats 4000000 in
set_option maxRecDepth 100000 in
theorem tX2_shape (g : tb_GT) (l : Launch) (p : Nat) (hB : tb_B p) (a1 : Int32) (a2 : Int32) (a3 : Int32) (M M' : tb_Mem) (h : fX2_shape p a1 a2 a3 M = some M') : tb_C g l yX2_shape (Cond.code yX2_shape cX2_shape 4 none) rmX2_shape [.ref (tb_ad g p), .int a1, .int a2, .int a3] M M' none := by
  refine tb_entry (by decide) (Nat.le_of_ble_eq_true rfl) ?_
  intro P e s m below meth c F hP hS ls hl
  have F : tb_F g cX2_shape 4 RX2 none (Cond.code yX2_shape cX2_shape 4 none) P s m ([.ref (tb_ad g p), .int a1, .int a2, .int a3] : List Value).toArray meth c := F
  have hx := F.1.1
  have hb := F.1.2.1
  have hl : lv_has ls 4 [(0, .ref (tb_ad g p)), (1, .int a1), (2, .int a2), (3, .int a3)] := hl
  unfold fX2_shape at h
  refine lv_aload_n hx hb dX2_shape_0 rfl (lv_at hl 0 rfl) ?_
  refine tb_getr F hP hB.1 (ci := 2) rfl inlX2 0 (by decide) rfl kf_X2_9 dX2_shape_1 ?_
  refine lv_iload_n hx hb dX2_shape_4 rfl (lv_at hl 1 rfl) ?_
  refine lv_iload_n hx hb dX2_shape_5 rfl (lv_at hl 2 rfl) ?_
  obtain ⟨k1, h⟩ := tb_cks h
  obtain ⟨M2, e3, h⟩ := tb_lets h
  refine tb_iast F hP hS hB.2.1 rfl (tb_inv k1) dX2_shape_6 (fun H locs hP hS => ?_)
  rw [← e3] at hP
  refine lv_aload_n hx hb dX2_shape_7 rfl (lv_at hl 0 rfl) ?_
  refine tb_getr F hP hB.1 (ci := 2) rfl inlX2 1 (by decide) rfl kf_X2_15 dX2_shape_8 ?_
  refine lv_iload_n hx hb dX2_shape_11 rfl (lv_at hl 1 rfl) ?_
  refine lv_iload_n hx hb dX2_shape_12 rfl (lv_at hl 3 rfl) ?_
  obtain ⟨M4, e5, h⟩ := tb_lets h
  refine tb_iast F hP hS hB.2.2.1 rfl (tb_inv k1) dX2_shape_13 (fun H locs hP hS => ?_)
  rw [← e5] at hP
  refine lv_aload_n hx hb dX2_shape_14 rfl (lv_at hl 0 rfl) ?_
  refine tb_getr F hP hB.1 (ci := 2) rfl inlX2 2 (by decide) rfl kf_X2_18 dX2_shape_15 ?_
  refine lv_iload_n hx hb dX2_shape_18 rfl (lv_at hl 1 rfl) ?_
  refine lv_iload_n hx hb dX2_shape_19 rfl (lv_at hl 2 rfl) ?_
  refine lv_iconst (v := 2) hx hb dX2_shape_20 (by decide) ?_
  refine tb_mrg (g2 := F0 m 31 ls [.int ((if a2 = 2 then (a3 + 1) else a3) : Int32), .int a1, .ref (tb_ad g (p + 3))]) (fun hJ => ?_) ?_
  · refine lv_icmp_ne (tgt := 30) hx hb dX2_shape_21 (by decide) (fun c6 => ?_) (fun c6 => ?_)
    · refine lv_iload_n hx hb dX2_shape_30 rfl (lv_at hl 3 rfl) ?_
      rw [if_neg c6] at hJ
      exact hJ
    · refine lv_iload_n hx hb dX2_shape_24 rfl (lv_at hl 3 rfl) ?_
      refine lv_iconst (v := 1) hx hb dX2_shape_25 (by decide) ?_
      refine lv_iadd hx hb dX2_shape_26 ?_
      refine lv_goto (tgt := 31) hx hb dX2_shape_27 (by decide) ?_
      rw [if_pos c6] at hJ
      exact hJ
  obtain ⟨M7, e8, h⟩ := tb_lets h
  refine tb_iast F hP hS hB.2.2.2.1 rfl (tb_inv k1) dX2_shape_31 (fun H locs hP hS => ?_)
  rw [← e8] at hP
  exact tb_vret h F hP hS dX2_shape_32
def fX2_addBar (p : Nat) (a1 : Int32) (a2 : Int32) (M : tb_Mem) : Option (tb_Mem) :=
  if (M p 8) < 8 then (tb_b1 (fX2_shape p (M p 8) a1 a2 M) (fun M2 => tb_ck (tb_in (M2 p 8) 8) (tb_let (tb_up M2 (p + 4) ((M2 p 8).toNatClampNeg) (M2 p 8)) (fun M5 => tb_ck (tb_in (M5 p 8) 8) (tb_let (tb_up M5 (p + 5) ((M5 p 8).toNatClampNeg) (M5 p 8)) (fun M8 => tb_ck (tb_in (M8 p 8) 8) (tb_let (tb_up M8 (p + 6) ((M8 p 8).toNatClampNeg) 0) (fun M11 => tb_ck (tb_in (M11 p 8) 8) (tb_let (tb_up M11 (p + 7) ((M11 p 8).toNatClampNeg) 0) (fun M14 => tb_let (tb_up M14 p 8 ((M14 p 8) + 1)) (fun M16 => some M16))))))))))) else (some M)
abbrev rmX2_addBar : Room := { frames := 1, cells := 0, slots := 0, locals := 23 }
set_option maxHeartbeats 4000000 in
set_option maxRecDepth 100000 in
theorem tX2_addBar (g : tb_GT) (l : Launch) (p : Nat) (hB : tb_B p) (a1 : Int32) (a2 : Int32) (M M' : tb_Mem) (h : fX2_addBar p a1 a2 M = some M') : tb_C g l yX2_addBar (Cond.code yX2_addBar cX2_addBar 3 none) rmX2_addBar [.ref (tb_ad g p), .int a1, .int a2] M M' none := by
  refine tb_entry (by decide) (Nat.le_of_ble_eq_true rfl) ?_
  intro P e s m below meth c F hP hS ls hl
  have F : tb_F g cX2_addBar 3 RX2 none (Cond.code yX2_addBar cX2_addBar 3 none) P s m ([.ref (tb_ad g p), .int a1, .int a2] : List Value).toArray meth c := F
  have hx := F.1.1
  have hb := F.1.2.1
  have hl : lv_has ls 3 [(0, .ref (tb_ad g p)), (1, .int a1), (2, .int a2)] := hl
  unfold fX2_addBar at h
  refine lv_aload_n hx hb dX2_addBar_0 rfl (lv_at hl 0 rfl) ?_
  refine tb_geti F hP hB.1 (ci := 2) rfl inlX2 8 (by decide) rfl kf_X2_36 dX2_addBar_1 ?_
  refine lv_bipush (v := 8) hx hb dX2_addBar_4 (by decide) ?_
  refine lv_icmp_lt (tgt := 10) hx hb dX2_addBar_6 (by decide) (fun c1 => ?_) (fun c1 => ?_)
  · have h := tb_ip c1 h
    refine lv_aload_n hx hb dX2_addBar_10 rfl (lv_at hl 0 rfl) ?_
    refine lv_aload_n hx hb dX2_addBar_11 rfl (lv_at hl 0 rfl) ?_
    refine tb_geti F hP hB.1 (ci := 2) rfl inlX2 8 (by decide) rfl kf_X2_36 dX2_addBar_12 ?_
    refine lv_iload_n hx hb dX2_addBar_15 rfl (lv_at hl 1 rfl) ?_
    refine lv_iload_n hx hb dX2_addBar_16 rfl (lv_at hl 2 rfl) ?_
    obtain ⟨M2, e3, h⟩ := tb_b1s h
    refine tb_callV F hP hS hl.1 kX2_shape km_X2_52 (as := [.int (M p 8), .int a1, .int a2]) (tX2_shape g l p hB (M p 8) a1 a2 M M2 e3) hB.1 ⟨rfl, rfl, Nat.le_of_ble_eq_true rfl, Nat.le_of_ble_eq_true rfl⟩ rfl (rest := []) rfl (st1 := []) rfl (Nat.le_of_ble_eq_true rfl) ⟨Nat.zero_le _, Nat.zero_le _⟩ dX2_addBar_17 (fun H locs hP hS => ?_)
    refine lv_aload_n hx hb dX2_addBar_20 rfl (lv_at hl 0 rfl) ?_
    refine tb_getr F hP hB.1 (ci := 2) rfl inlX2 3 (by decide) rfl kf_X2_21 dX2_addBar_21 ?_
    refine lv_aload_n hx hb dX2_addBar_24 rfl (lv_at hl 0 rfl) ?_
    refine tb_geti F hP hB.1 (ci := 2) rfl inlX2 8 (by decide) rfl kf_X2_36 dX2_addBar_25 ?_
    refine lv_aload_n hx hb dX2_addBar_28 rfl (lv_at hl 0 rfl) ?_
    refine tb_geti F hP hB.1 (ci := 2) rfl inlX2 8 (by decide) rfl kf_X2_36 dX2_addBar_29 ?_
    obtain ⟨k4, h⟩ := tb_cks h
    obtain ⟨M5, e6, h⟩ := tb_lets h
    refine tb_iast F hP hS hB.2.2.2.2.1 rfl (tb_inv k4) dX2_addBar_32 (fun H locs hP hS => ?_)
    rw [← e6] at hP
    refine lv_aload_n hx hb dX2_addBar_33 rfl (lv_at hl 0 rfl) ?_
    refine tb_getr F hP hB.1 (ci := 2) rfl inlX2 4 (by decide) rfl kf_X2_24 dX2_addBar_34 ?_
    refine lv_aload_n hx hb dX2_addBar_37 rfl (lv_at hl 0 rfl) ?_
    refine tb_geti F hP hB.1 (ci := 2) rfl inlX2 8 (by decide) rfl kf_X2_36 dX2_addBar_38 ?_
    refine lv_aload_n hx hb dX2_addBar_41 rfl (lv_at hl 0 rfl) ?_
    refine tb_geti F hP hB.1 (ci := 2) rfl inlX2 8 (by decide) rfl kf_X2_36 dX2_addBar_42 ?_
    obtain ⟨k7, h⟩ := tb_cks h
    obtain ⟨M8, e9, h⟩ := tb_lets h
    refine tb_iast F hP hS hB.2.2.2.2.2.1 rfl (tb_inv k7) dX2_addBar_45 (fun H locs hP hS => ?_)
    rw [← e9] at hP
    refine lv_aload_n hx hb dX2_addBar_46 rfl (lv_at hl 0 rfl) ?_
    refine tb_getr F hP hB.1 (ci := 2) rfl inlX2 5 (by decide) rfl kf_X2_27 dX2_addBar_47 ?_
    refine lv_aload_n hx hb dX2_addBar_50 rfl (lv_at hl 0 rfl) ?_
    refine tb_geti F hP hB.1 (ci := 2) rfl inlX2 8 (by decide) rfl kf_X2_36 dX2_addBar_51 ?_
    refine lv_iconst (v := 0) hx hb dX2_addBar_54 (by decide) ?_
    obtain ⟨k10, h⟩ := tb_cks h
    obtain ⟨M11, e12, h⟩ := tb_lets h
    refine tb_iast F hP hS hB.2.2.2.2.2.2.1 rfl (tb_inv k10) dX2_addBar_55 (fun H locs hP hS => ?_)
    rw [← e12] at hP
    refine lv_aload_n hx hb dX2_addBar_56 rfl (lv_at hl 0 rfl) ?_
    refine tb_getr F hP hB.1 (ci := 2) rfl inlX2 6 (by decide) rfl kf_X2_30 dX2_addBar_57 ?_
    refine lv_aload_n hx hb dX2_addBar_60 rfl (lv_at hl 0 rfl) ?_
    refine tb_geti F hP hB.1 (ci := 2) rfl inlX2 8 (by decide) rfl kf_X2_36 dX2_addBar_61 ?_
    refine lv_iconst (v := 0) hx hb dX2_addBar_64 (by decide) ?_
    obtain ⟨k13, h⟩ := tb_cks h
    obtain ⟨M14, e15, h⟩ := tb_lets h
    refine tb_iast F hP hS hB.2.2.2.2.2.2.2.1 rfl (tb_inv k13) dX2_addBar_65 (fun H locs hP hS => ?_)
    rw [← e15] at hP
    refine lv_aload_n hx hb dX2_addBar_66 rfl (lv_at hl 0 rfl) ?_
    refine lv_dup hx hb dX2_addBar_67 rfl ?_
    refine tb_geti F hP hB.1 (ci := 2) rfl inlX2 8 (by decide) rfl kf_X2_36 dX2_addBar_68 ?_
    refine lv_iconst (v := 1) hx hb dX2_addBar_71 (by decide) ?_
    refine lv_iadd hx hb dX2_addBar_72 ?_
    obtain ⟨M16, e17, h⟩ := tb_lets h
    refine tb_puti F hP hS hB.1 (ci := 2) rfl inlX2 tyX2 tyX2_ok nmX2 8 (by decide) rfl rfl rfl rfl kf_X2_36 dX2_addBar_73 (fun H locs hP hS => ?_)
    rw [← e17] at hP
    exact tb_vret h F hP hS dX2_addBar_76
  · have h := tb_ineg c1 h
    exact tb_vret h F hP hS dX2_addBar_9
def fX2_become (p : Nat) (p1 : Nat) (M : tb_Mem) : Option (tb_Mem) :=
  tb_let (tb_row M (p + 1) (va_cpy (M (p1 + 1)) (M (p + 1)) ((0 : Int32).toNatClampNeg) ((0 : Int32).toNatClampNeg) ((8 : Int32).toNatClampNeg))) (fun M1 => tb_let (tb_row M1 (p + 2) (va_cpy (M1 (p1 + 2)) (M1 (p + 2)) ((0 : Int32).toNatClampNeg) ((0 : Int32).toNatClampNeg) ((8 : Int32).toNatClampNeg))) (fun M3 => tb_let (tb_row M3 (p + 3) (va_cpy (M3 (p1 + 3)) (M3 (p + 3)) ((0 : Int32).toNatClampNeg) ((0 : Int32).toNatClampNeg) ((8 : Int32).toNatClampNeg))) (fun M5 => tb_let (tb_row M5 (p + 4) (va_cpy (M5 (p1 + 4)) (M5 (p + 4)) ((0 : Int32).toNatClampNeg) ((0 : Int32).toNatClampNeg) ((8 : Int32).toNatClampNeg))) (fun M7 => tb_let (tb_row M7 (p + 5) (va_cpy (M7 (p1 + 5)) (M7 (p + 5)) ((0 : Int32).toNatClampNeg) ((0 : Int32).toNatClampNeg) ((8 : Int32).toNatClampNeg))) (fun M9 => tb_let (tb_row M9 (p + 6) (va_cpy (M9 (p1 + 6)) (M9 (p + 6)) ((0 : Int32).toNatClampNeg) ((0 : Int32).toNatClampNeg) ((8 : Int32).toNatClampNeg))) (fun M11 => tb_let (tb_row M11 (p + 7) (va_cpy (M11 (p1 + 7)) (M11 (p + 7)) ((0 : Int32).toNatClampNeg) ((0 : Int32).toNatClampNeg) ((8 : Int32).toNatClampNeg))) (fun M13 => tb_let (tb_row M13 (p + 8) (va_cpy (M13 (p1 + 8)) (M13 (p + 8)) ((0 : Int32).toNatClampNeg) ((0 : Int32).toNatClampNeg) ((20 : Int32).toNatClampNeg))) (fun M15 => tb_let (tb_up M15 p 8 (M15 p1 8)) (fun M17 => tb_let (tb_up M17 p 9 (M17 p1 9)) (fun M19 => tb_let (tb_up M19 p 10 (M19 p1 10)) (fun M21 => tb_let (tb_up M21 p 11 (M21 p1 11)) (fun M23 => tb_let (tb_up M23 p 12 (M23 p1 12)) (fun M25 => some M25)))))))))))))
abbrev rmX2_become : Room := { frames := 1, cells := 0, slots := 0, locals := 64 }
set_option maxHeartbeats 4000000 in
set_option maxRecDepth 100000 in
theorem tX2_become (g : tb_GT) (l : Launch) (p : Nat) (p1 : Nat) (hB : tb_B p) (hB1 : tb_B p1) (M M' : tb_Mem) (h : fX2_become p p1 M = some M') : tb_C g l yX2_become (Cond.code yX2_become cX2_become 2 none) rmX2_become [.ref (tb_ad g p), .ref (tb_ad g p1)] M M' none := by
  refine tb_entry (by decide) (Nat.le_of_ble_eq_true rfl) ?_
  intro P e s m below meth c F hP hS ls hl
  have F : tb_F g cX2_become 2 RX2 none (Cond.code yX2_become cX2_become 2 none) P s m ([.ref (tb_ad g p), .ref (tb_ad g p1)] : List Value).toArray meth c := F
  have hx := F.1.1
  have hb := F.1.2.1
  have hl : lv_has ls 2 [(0, .ref (tb_ad g p)), (1, .ref (tb_ad g p1))] := hl
  unfold fX2_become at h
  refine lv_aload_n hx hb dX2_become_0 rfl (lv_at hl 1 rfl) ?_
  refine tb_getr F hP hB1.1 (ci := 2) rfl inlX2 0 (by decide) rfl kf_X2_9 dX2_become_1 ?_
  refine lv_iconst (v := 0) hx hb dX2_become_4 (by decide) ?_
  refine lv_aload_n hx hb dX2_become_5 rfl (lv_at hl 0 rfl) ?_
  refine tb_getr F hP hB.1 (ci := 2) rfl inlX2 0 (by decide) rfl kf_X2_9 dX2_become_6 ?_
  refine lv_iconst (v := 0) hx hb dX2_become_9 (by decide) ?_
  refine lv_bipush (v := 8) hx hb dX2_become_10 (by decide) ?_
  obtain ⟨M1, e2, h⟩ := tb_lets h
  refine tb_copy F hP hS hl.1 hB1.2.1 hB.2.1 km_X2_56 kn_cpN kn_cpS ki_J10 (by decide) (by decide) (by decide) (by decide +kernel) (by decide +kernel) (Nat.le_of_ble_eq_true rfl) (Nat.le_of_ble_eq_true rfl) dX2_become_12 (fun H locs hP hS => ?_)
  rw [← e2] at hP
  refine lv_aload_n hx hb dX2_become_15 rfl (lv_at hl 1 rfl) ?_
  refine tb_getr F hP hB1.1 (ci := 2) rfl inlX2 1 (by decide) rfl kf_X2_15 dX2_become_16 ?_
  refine lv_iconst (v := 0) hx hb dX2_become_19 (by decide) ?_
  refine lv_aload_n hx hb dX2_become_20 rfl (lv_at hl 0 rfl) ?_
  refine tb_getr F hP hB.1 (ci := 2) rfl inlX2 1 (by decide) rfl kf_X2_15 dX2_become_21 ?_
  refine lv_iconst (v := 0) hx hb dX2_become_24 (by decide) ?_
  refine lv_bipush (v := 8) hx hb dX2_become_25 (by decide) ?_
  obtain ⟨M3, e4, h⟩ := tb_lets h
  refine tb_copy F hP hS hl.1 hB1.2.2.1 hB.2.2.1 km_X2_56 kn_cpN kn_cpS ki_J10 (by decide) (by decide) (by decide) (by decide +kernel) (by decide +kernel) (Nat.le_of_ble_eq_true rfl) (Nat.le_of_ble_eq_true rfl) dX2_become_27 (fun H locs hP hS => ?_)
  rw [← e4] at hP
  refine lv_aload_n hx hb dX2_become_30 rfl (lv_at hl 1 rfl) ?_
  refine tb_getr F hP hB1.1 (ci := 2) rfl inlX2 2 (by decide) rfl kf_X2_18 dX2_become_31 ?_
  refine lv_iconst (v := 0) hx hb dX2_become_34 (by decide) ?_
  refine lv_aload_n hx hb dX2_become_35 rfl (lv_at hl 0 rfl) ?_
  refine tb_getr F hP hB.1 (ci := 2) rfl inlX2 2 (by decide) rfl kf_X2_18 dX2_become_36 ?_
  refine lv_iconst (v := 0) hx hb dX2_become_39 (by decide) ?_
  refine lv_bipush (v := 8) hx hb dX2_become_40 (by decide) ?_
  obtain ⟨M5, e6, h⟩ := tb_lets h
  refine tb_copy F hP hS hl.1 hB1.2.2.2.1 hB.2.2.2.1 km_X2_56 kn_cpN kn_cpS ki_J10 (by decide) (by decide) (by decide) (by decide +kernel) (by decide +kernel) (Nat.le_of_ble_eq_true rfl) (Nat.le_of_ble_eq_true rfl) dX2_become_42 (fun H locs hP hS => ?_)
  rw [← e6] at hP
  refine lv_aload_n hx hb dX2_become_45 rfl (lv_at hl 1 rfl) ?_
  refine tb_getr F hP hB1.1 (ci := 2) rfl inlX2 3 (by decide) rfl kf_X2_21 dX2_become_46 ?_
  refine lv_iconst (v := 0) hx hb dX2_become_49 (by decide) ?_
  refine lv_aload_n hx hb dX2_become_50 rfl (lv_at hl 0 rfl) ?_
  refine tb_getr F hP hB.1 (ci := 2) rfl inlX2 3 (by decide) rfl kf_X2_21 dX2_become_51 ?_
  refine lv_iconst (v := 0) hx hb dX2_become_54 (by decide) ?_
  refine lv_bipush (v := 8) hx hb dX2_become_55 (by decide) ?_
  obtain ⟨M7, e8, h⟩ := tb_lets h
  refine tb_copy F hP hS hl.1 hB1.2.2.2.2.1 hB.2.2.2.2.1 km_X2_56 kn_cpN kn_cpS ki_J10 (by decide) (by decide) (by decide) (by decide +kernel) (by decide +kernel) (Nat.le_of_ble_eq_true rfl) (Nat.le_of_ble_eq_true rfl) dX2_become_57 (fun H locs hP hS => ?_)
  rw [← e8] at hP
  refine lv_aload_n hx hb dX2_become_60 rfl (lv_at hl 1 rfl) ?_
  refine tb_getr F hP hB1.1 (ci := 2) rfl inlX2 4 (by decide) rfl kf_X2_24 dX2_become_61 ?_
  refine lv_iconst (v := 0) hx hb dX2_become_64 (by decide) ?_
  refine lv_aload_n hx hb dX2_become_65 rfl (lv_at hl 0 rfl) ?_
  refine tb_getr F hP hB.1 (ci := 2) rfl inlX2 4 (by decide) rfl kf_X2_24 dX2_become_66 ?_
  refine lv_iconst (v := 0) hx hb dX2_become_69 (by decide) ?_
  refine lv_bipush (v := 8) hx hb dX2_become_70 (by decide) ?_
  obtain ⟨M9, e10, h⟩ := tb_lets h
  refine tb_copy F hP hS hl.1 hB1.2.2.2.2.2.1 hB.2.2.2.2.2.1 km_X2_56 kn_cpN kn_cpS ki_J10 (by decide) (by decide) (by decide) (by decide +kernel) (by decide +kernel) (Nat.le_of_ble_eq_true rfl) (Nat.le_of_ble_eq_true rfl) dX2_become_72 (fun H locs hP hS => ?_)
  rw [← e10] at hP
  refine lv_aload_n hx hb dX2_become_75 rfl (lv_at hl 1 rfl) ?_
  refine tb_getr F hP hB1.1 (ci := 2) rfl inlX2 5 (by decide) rfl kf_X2_27 dX2_become_76 ?_
  refine lv_iconst (v := 0) hx hb dX2_become_79 (by decide) ?_
  refine lv_aload_n hx hb dX2_become_80 rfl (lv_at hl 0 rfl) ?_
  refine tb_getr F hP hB.1 (ci := 2) rfl inlX2 5 (by decide) rfl kf_X2_27 dX2_become_81 ?_
  refine lv_iconst (v := 0) hx hb dX2_become_84 (by decide) ?_
  refine lv_bipush (v := 8) hx hb dX2_become_85 (by decide) ?_
  obtain ⟨M11, e12, h⟩ := tb_lets h
  refine tb_copy F hP hS hl.1 hB1.2.2.2.2.2.2.1 hB.2.2.2.2.2.2.1 km_X2_56 kn_cpN kn_cpS ki_J10 (by decide) (by decide) (by decide) (by decide +kernel) (by decide +kernel) (Nat.le_of_ble_eq_true rfl) (Nat.le_of_ble_eq_true rfl) dX2_become_87 (fun H locs hP hS => ?_)
  rw [← e12] at hP
  refine lv_aload_n hx hb dX2_become_90 rfl (lv_at hl 1 rfl) ?_
  refine tb_getr F hP hB1.1 (ci := 2) rfl inlX2 6 (by decide) rfl kf_X2_30 dX2_become_91 ?_
  refine lv_iconst (v := 0) hx hb dX2_become_94 (by decide) ?_
  refine lv_aload_n hx hb dX2_become_95 rfl (lv_at hl 0 rfl) ?_
  refine tb_getr F hP hB.1 (ci := 2) rfl inlX2 6 (by decide) rfl kf_X2_30 dX2_become_96 ?_
  refine lv_iconst (v := 0) hx hb dX2_become_99 (by decide) ?_
  refine lv_bipush (v := 8) hx hb dX2_become_100 (by decide) ?_
  obtain ⟨M13, e14, h⟩ := tb_lets h
  refine tb_copy F hP hS hl.1 hB1.2.2.2.2.2.2.2.1 hB.2.2.2.2.2.2.2.1 km_X2_56 kn_cpN kn_cpS ki_J10 (by decide) (by decide) (by decide) (by decide +kernel) (by decide +kernel) (Nat.le_of_ble_eq_true rfl) (Nat.le_of_ble_eq_true rfl) dX2_become_102 (fun H locs hP hS => ?_)
  rw [← e14] at hP
  refine lv_aload_n hx hb dX2_become_105 rfl (lv_at hl 1 rfl) ?_
  refine tb_getr F hP hB1.1 (ci := 2) rfl inlX2 7 (by decide) rfl kf_X2_33 dX2_become_106 ?_
  refine lv_iconst (v := 0) hx hb dX2_become_109 (by decide) ?_
  refine lv_aload_n hx hb dX2_become_110 rfl (lv_at hl 0 rfl) ?_
  refine tb_getr F hP hB.1 (ci := 2) rfl inlX2 7 (by decide) rfl kf_X2_33 dX2_become_111 ?_
  refine lv_iconst (v := 0) hx hb dX2_become_114 (by decide) ?_
  refine lv_bipush (v := 20) hx hb dX2_become_115 (by decide) ?_
  obtain ⟨M15, e16, h⟩ := tb_lets h
  refine tb_copy F hP hS hl.1 hB1.2.2.2.2.2.2.2.2 hB.2.2.2.2.2.2.2.2 km_X2_56 kn_cpN kn_cpS ki_J10 (by decide) (by decide) (by decide) (by decide +kernel) (by decide +kernel) (Nat.le_of_ble_eq_true rfl) (Nat.le_of_ble_eq_true rfl) dX2_become_117 (fun H locs hP hS => ?_)
  rw [← e16] at hP
  refine lv_aload_n hx hb dX2_become_120 rfl (lv_at hl 0 rfl) ?_
  refine lv_aload_n hx hb dX2_become_121 rfl (lv_at hl 1 rfl) ?_
  refine tb_geti F hP hB1.1 (ci := 2) rfl inlX2 8 (by decide) rfl kf_X2_36 dX2_become_122 ?_
  obtain ⟨M17, e18, h⟩ := tb_lets h
  refine tb_puti F hP hS hB.1 (ci := 2) rfl inlX2 tyX2 tyX2_ok nmX2 8 (by decide) rfl rfl rfl rfl kf_X2_36 dX2_become_125 (fun H locs hP hS => ?_)
  rw [← e18] at hP
  refine lv_aload_n hx hb dX2_become_128 rfl (lv_at hl 0 rfl) ?_
  refine lv_aload_n hx hb dX2_become_129 rfl (lv_at hl 1 rfl) ?_
  refine tb_geti F hP hB1.1 (ci := 2) rfl inlX2 9 (by decide) rfl kf_X2_40 dX2_become_130 ?_
  obtain ⟨M19, e20, h⟩ := tb_lets h
  refine tb_puti F hP hS hB.1 (ci := 2) rfl inlX2 tyX2 tyX2_ok nmX2 9 (by decide) rfl rfl rfl rfl kf_X2_40 dX2_become_133 (fun H locs hP hS => ?_)
  rw [← e20] at hP
  refine lv_aload_n hx hb dX2_become_136 rfl (lv_at hl 0 rfl) ?_
  refine lv_aload_n hx hb dX2_become_137 rfl (lv_at hl 1 rfl) ?_
  refine tb_geti F hP hB1.1 (ci := 2) rfl inlX2 10 (by decide) rfl kf_X2_43 dX2_become_138 ?_
  obtain ⟨M21, e22, h⟩ := tb_lets h
  refine tb_puti F hP hS hB.1 (ci := 2) rfl inlX2 tyX2 tyX2_ok nmX2 10 (by decide) rfl rfl rfl rfl kf_X2_43 dX2_become_141 (fun H locs hP hS => ?_)
  rw [← e22] at hP
  refine lv_aload_n hx hb dX2_become_144 rfl (lv_at hl 0 rfl) ?_
  refine lv_aload_n hx hb dX2_become_145 rfl (lv_at hl 1 rfl) ?_
  refine tb_geti F hP hB1.1 (ci := 2) rfl inlX2 11 (by decide) rfl kf_X2_62 dX2_become_146 ?_
  obtain ⟨M23, e24, h⟩ := tb_lets h
  refine tb_puti F hP hS hB.1 (ci := 2) rfl inlX2 tyX2 tyX2_ok nmX2 11 (by decide) rfl rfl rfl rfl kf_X2_62 dX2_become_149 (fun H locs hP hS => ?_)
  rw [← e24] at hP
  refine lv_aload_n hx hb dX2_become_152 rfl (lv_at hl 0 rfl) ?_
  refine lv_aload_n hx hb dX2_become_153 rfl (lv_at hl 1 rfl) ?_
  refine tb_geti F hP hB1.1 (ci := 2) rfl inlX2 12 (by decide) rfl kf_X2_46 dX2_become_154 ?_
  obtain ⟨M25, e26, h⟩ := tb_lets h
  refine tb_puti F hP hS hB.1 (ci := 2) rfl inlX2 tyX2 tyX2_ok nmX2 12 (by decide) rfl rfl rfl rfl kf_X2_46 dX2_become_157 (fun H locs hP hS => ?_)
  rw [← e26] at hP
  exact tb_vret h F hP hS dX2_become_160
def fX2_has (p : Nat) (a1 : Int32) (M : tb_Mem) : Option (Int32 × tb_Mem) :=
  if a1 < 0 then (some (0, M)) else (some (((if (M p 8) ≤ a1 then 0 else 1) : Int32), M))
abbrev rmX2_has : Room := { frames := 0, cells := 0, slots := 0, locals := 0 }
set_option maxHeartbeats 4000000 in
set_option maxRecDepth 100000 in
theorem tX2_has (g : tb_GT) (l : Launch) (p : Nat) (hB : tb_B p) (a1 : Int32) (M M' : tb_Mem) (r : Int32) (h : fX2_has p a1 M = some (r, M')) : tb_C g l yX2_has (Cond.code yX2_has cX2_has 2 (some .boolean)) rmX2_has [.ref (tb_ad g p), .int a1] M M' (some (.int r)) := by
  refine tb_entry (by decide) (Nat.le_of_ble_eq_true rfl) ?_
  intro P e s m below meth c F hP hS ls hl
  have F : tb_F g cX2_has 2 RX2 (some .boolean) (Cond.code yX2_has cX2_has 2 (some .boolean)) P s m ([.ref (tb_ad g p), .int a1] : List Value).toArray meth c := F
  have hx := F.1.1
  have hb := F.1.2.1
  have hl : lv_has ls 2 [(0, .ref (tb_ad g p)), (1, .int a1)] := hl
  unfold fX2_has at h
  refine lv_iload_n hx hb dX2_has_0 rfl (lv_at hl 1 rfl) ?_
  refine lv_if_lt (tgt := 16) hx hb dX2_has_1 (by decide) (fun c1 => ?_) (fun c1 => ?_)
  · have h := tb_ip c1 h
    refine lv_iconst (v := 0) hx hb dX2_has_16 (by decide) ?_
    exact tb_zret h F rfl hP hS dX2_has_17
  · have h := tb_ineg c1 h
    refine lv_iload_n hx hb dX2_has_4 rfl (lv_at hl 1 rfl) ?_
    refine lv_aload_n hx hb dX2_has_5 rfl (lv_at hl 0 rfl) ?_
    refine tb_geti F hP hB.1 (ci := 2) rfl inlX2 8 (by decide) rfl kf_X2_36 dX2_has_6 ?_
    refine tb_mrg (g2 := F0 m 17 ls [.int ((if (M p 8) ≤ a1 then 0 else 1) : Int32)]) (fun hJ => ?_) ?_
    · refine lv_icmp_ge (tgt := 16) hx hb dX2_has_9 (by decide) (fun c2 => ?_) (fun c2 => ?_)
      · refine lv_iconst (v := 0) hx hb dX2_has_16 (by decide) ?_
        rw [if_pos c2] at hJ
        exact hJ
      · refine lv_iconst (v := 1) hx hb dX2_has_12 (by decide) ?_
        refine lv_goto (tgt := 17) hx hb dX2_has_13 (by decide) ?_
        rw [if_neg c2] at hJ
        exact hJ
    exact tb_zret h F (tb_bln (by (repeat' split) <;> decide)) hP hS dX2_has_17
def fX2_moves (p : Nat) (a1 : Int32) (M : tb_Mem) : Option (Int32 × tb_Mem) :=
  some (((if ((M p 9) &&& (1 <<< (a1 &&& 31))) = 0 then 0 else 1) : Int32), M)
abbrev rmX2_moves : Room := { frames := 0, cells := 0, slots := 0, locals := 0 }
set_option maxHeartbeats 4000000 in
set_option maxRecDepth 100000 in
theorem tX2_moves (g : tb_GT) (l : Launch) (p : Nat) (hB : tb_B p) (a1 : Int32) (M M' : tb_Mem) (r : Int32) (h : fX2_moves p a1 M = some (r, M')) : tb_C g l yX2_moves (Cond.code yX2_moves cX2_moves 2 (some .boolean)) rmX2_moves [.ref (tb_ad g p), .int a1] M M' (some (.int r)) := by
  refine tb_entry (by decide) (Nat.le_of_ble_eq_true rfl) ?_
  intro P e s m below meth c F hP hS ls hl
  have F : tb_F g cX2_moves 2 RX2 (some .boolean) (Cond.code yX2_moves cX2_moves 2 (some .boolean)) P s m ([.ref (tb_ad g p), .int a1] : List Value).toArray meth c := F
  have hx := F.1.1
  have hb := F.1.2.1
  have hl : lv_has ls 2 [(0, .ref (tb_ad g p)), (1, .int a1)] := hl
  unfold fX2_moves at h
  refine lv_aload_n hx hb dX2_moves_0 rfl (lv_at hl 0 rfl) ?_
  refine tb_geti F hP hB.1 (ci := 2) rfl inlX2 9 (by decide) rfl kf_X2_40 dX2_moves_1 ?_
  refine lv_iconst (v := 1) hx hb dX2_moves_4 (by decide) ?_
  refine lv_iload_n hx hb dX2_moves_5 rfl (lv_at hl 1 rfl) ?_
  refine lv_ishl hx hb dX2_moves_6 ?_
  refine lv_iand hx hb dX2_moves_7 ?_
  refine tb_mrg (g2 := F0 m 16 ls [.int ((if ((M p 9) &&& (1 <<< (a1 &&& 31))) = 0 then 0 else 1) : Int32)]) (fun hJ => ?_) ?_
  · refine lv_if_eq (tgt := 15) hx hb dX2_moves_8 (by decide) (fun c1 => ?_) (fun c1 => ?_)
    · refine lv_iconst (v := 0) hx hb dX2_moves_15 (by decide) ?_
      rw [if_pos c1] at hJ
      exact hJ
    · refine lv_iconst (v := 1) hx hb dX2_moves_11 (by decide) ?_
      refine lv_goto (tgt := 16) hx hb dX2_moves_12 (by decide) ?_
      rw [if_neg c1] at hJ
      exact hJ
  exact tb_zret h F (tb_bln (by (repeat' split) <;> decide)) hP hS dX2_moves_16
def fX2_hangs (p : Nat) (a1 : Int32) (M : tb_Mem) : Option (Int32 × tb_Mem) :=
  some (((if ((M p 10) &&& (1 <<< (a1 &&& 31))) = 0 then 0 else 1) : Int32), M)
abbrev rmX2_hangs : Room := { frames := 0, cells := 0, slots := 0, locals := 0 }
set_option maxHeartbeats 4000000 in
set_option maxRecDepth 100000 in
theorem tX2_hangs (g : tb_GT) (l : Launch) (p : Nat) (hB : tb_B p) (a1 : Int32) (M M' : tb_Mem) (r : Int32) (h : fX2_hangs p a1 M = some (r, M')) : tb_C g l yX2_hangs (Cond.code yX2_hangs cX2_hangs 2 (some .boolean)) rmX2_hangs [.ref (tb_ad g p), .int a1] M M' (some (.int r)) := by
  refine tb_entry (by decide) (Nat.le_of_ble_eq_true rfl) ?_
  intro P e s m below meth c F hP hS ls hl
  have F : tb_F g cX2_hangs 2 RX2 (some .boolean) (Cond.code yX2_hangs cX2_hangs 2 (some .boolean)) P s m ([.ref (tb_ad g p), .int a1] : List Value).toArray meth c := F
  have hx := F.1.1
  have hb := F.1.2.1
  have hl : lv_has ls 2 [(0, .ref (tb_ad g p)), (1, .int a1)] := hl
  unfold fX2_hangs at h
  refine lv_aload_n hx hb dX2_hangs_0 rfl (lv_at hl 0 rfl) ?_
  refine tb_geti F hP hB.1 (ci := 2) rfl inlX2 10 (by decide) rfl kf_X2_43 dX2_hangs_1 ?_
  refine lv_iconst (v := 1) hx hb dX2_hangs_4 (by decide) ?_
  refine lv_iload_n hx hb dX2_hangs_5 rfl (lv_at hl 1 rfl) ?_
  refine lv_ishl hx hb dX2_hangs_6 ?_
  refine lv_iand hx hb dX2_hangs_7 ?_
  refine tb_mrg (g2 := F0 m 16 ls [.int ((if ((M p 10) &&& (1 <<< (a1 &&& 31))) = 0 then 0 else 1) : Int32)]) (fun hJ => ?_) ?_
  · refine lv_if_eq (tgt := 15) hx hb dX2_hangs_8 (by decide) (fun c1 => ?_) (fun c1 => ?_)
    · refine lv_iconst (v := 0) hx hb dX2_hangs_15 (by decide) ?_
      rw [if_pos c1] at hJ
      exact hJ
    · refine lv_iconst (v := 1) hx hb dX2_hangs_11 (by decide) ?_
      refine lv_goto (tgt := 16) hx hb dX2_hangs_12 (by decide) ?_
      rw [if_neg c1] at hJ
      exact hJ
  exact tb_zret h F (tb_bln (by (repeat' split) <;> decide)) hP hS dX2_hangs_16
def fX2_rests (p : Nat) (a1 : Int32) (M : tb_Mem) : Option (Int32 × tb_Mem) :=
  tb_b2 (fX2_has p a1 M) (fun r3 M1 => if r3 = 0 then (some (0, M1)) else (some (((if (((M1 p 9) ||| (M1 p 10)) &&& (1 <<< (a1 &&& 31))) = 0 then 1 else 0) : Int32), M1)))
abbrev rmX2_rests : Room := { frames := 1, cells := 0, slots := 0, locals := 21 }
set_option maxHeartbeats 4000000 in
set_option maxRecDepth 100000 in
theorem tX2_rests (g : tb_GT) (l : Launch) (p : Nat) (hB : tb_B p) (a1 : Int32) (M M' : tb_Mem) (r : Int32) (h : fX2_rests p a1 M = some (r, M')) : tb_C g l yX2_rests (Cond.code yX2_rests cX2_rests 2 (some .boolean)) rmX2_rests [.ref (tb_ad g p), .int a1] M M' (some (.int r)) := by
  refine tb_entry (by decide) (Nat.le_of_ble_eq_true rfl) ?_
  intro P e s m below meth c F hP hS ls hl
  have F : tb_F g cX2_rests 2 RX2 (some .boolean) (Cond.code yX2_rests cX2_rests 2 (some .boolean)) P s m ([.ref (tb_ad g p), .int a1] : List Value).toArray meth c := F
  have hx := F.1.1
  have hb := F.1.2.1
  have hl : lv_has ls 2 [(0, .ref (tb_ad g p)), (1, .int a1)] := hl
  unfold fX2_rests at h
  refine lv_aload_n hx hb dX2_rests_0 rfl (lv_at hl 0 rfl) ?_
  refine lv_iload_n hx hb dX2_rests_1 rfl (lv_at hl 1 rfl) ?_
  obtain ⟨r3, M1, e2, h⟩ := tb_b2s h
  refine tb_callV F hP hS hl.1 kX2_has km_X2_65 (as := [.int a1]) (tX2_has g l p hB a1 M M1 r3 e2) hB.1 ⟨rfl, rfl, Nat.le_of_ble_eq_true rfl, Nat.le_of_ble_eq_true rfl⟩ rfl (rest := []) rfl (st1 := [.int r3]) rfl (Nat.le_of_ble_eq_true rfl) ⟨Nat.zero_le _, Nat.zero_le _⟩ dX2_rests_2 (fun H locs hP hS => ?_)
  refine lv_if_eq (tgt := 28) hx hb dX2_rests_5 (by decide) (fun c4 => ?_) (fun c4 => ?_)
  · have h := tb_ip c4 h
    refine lv_iconst (v := 0) hx hb dX2_rests_28 (by decide) ?_
    exact tb_zret h F rfl hP hS dX2_rests_29
  · have h := tb_ineg c4 h
    refine lv_aload_n hx hb dX2_rests_8 rfl (lv_at hl 0 rfl) ?_
    refine tb_geti F hP hB.1 (ci := 2) rfl inlX2 9 (by decide) rfl kf_X2_40 dX2_rests_9 ?_
    refine lv_aload_n hx hb dX2_rests_12 rfl (lv_at hl 0 rfl) ?_
    refine tb_geti F hP hB.1 (ci := 2) rfl inlX2 10 (by decide) rfl kf_X2_43 dX2_rests_13 ?_
    refine lv_ior hx hb dX2_rests_16 ?_
    refine lv_iconst (v := 1) hx hb dX2_rests_17 (by decide) ?_
    refine lv_iload_n hx hb dX2_rests_18 rfl (lv_at hl 1 rfl) ?_
    refine lv_ishl hx hb dX2_rests_19 ?_
    refine lv_iand hx hb dX2_rests_20 ?_
    refine tb_mrg (g2 := F0 m 29 ls [.int ((if (((M1 p 9) ||| (M1 p 10)) &&& (1 <<< (a1 &&& 31))) = 0 then 1 else 0) : Int32)]) (fun hJ => ?_) ?_
    · refine lv_if_ne (tgt := 28) hx hb dX2_rests_21 (by decide) (fun c5 => ?_) (fun c5 => ?_)
      · refine lv_iconst (v := 0) hx hb dX2_rests_28 (by decide) ?_
        rw [if_neg c5] at hJ
        exact hJ
      · refine lv_iconst (v := 1) hx hb dX2_rests_24 (by decide) ?_
        refine lv_goto (tgt := 29) hx hb dX2_rests_25 (by decide) ?_
        rw [if_pos c5] at hJ
        exact hJ
    exact tb_zret h F (tb_bln (by (repeat' split) <;> decide)) hP hS dX2_rests_29
def fX2_startAt (p : Nat) (a1 : Int32) (a2 : Int32) (M : tb_Mem) : Option (tb_Mem) :=
  tb_let (tb_up M p 10 ((M p 10) &&& ((1 <<< (a1 &&& 31)) ^^^ (-1)))) (fun M1 => tb_let (tb_up M1 p 9 ((M1 p 9) ||| (1 <<< (a1 &&& 31)))) (fun M3 => tb_ck (tb_in a1 8) (tb_let (tb_up M3 (p + 6) a1.toNatClampNeg a2) (fun M6 => tb_let (tb_up M6 (p + 7) a1.toNatClampNeg 0) (fun M8 => some M8)))))
abbrev rmX2_startAt : Room := { frames := 0, cells := 0, slots := 0, locals := 0 }
set_option maxHeartbeats 4000000 in
set_option maxRecDepth 100000 in
theorem tX2_startAt (g : tb_GT) (l : Launch) (p : Nat) (hB : tb_B p) (a1 : Int32) (a2 : Int32) (M M' : tb_Mem) (h : fX2_startAt p a1 a2 M = some M') : tb_C g l yX2_startAt (Cond.code yX2_startAt cX2_startAt 3 none) rmX2_startAt [.ref (tb_ad g p), .int a1, .int a2] M M' none := by
  refine tb_entry (by decide) (Nat.le_of_ble_eq_true rfl) ?_
  intro P e s m below meth c F hP hS ls hl
  have F : tb_F g cX2_startAt 3 RX2 none (Cond.code yX2_startAt cX2_startAt 3 none) P s m ([.ref (tb_ad g p), .int a1, .int a2] : List Value).toArray meth c := F
  have hx := F.1.1
  have hb := F.1.2.1
  have hl : lv_has ls 3 [(0, .ref (tb_ad g p)), (1, .int a1), (2, .int a2)] := hl
  unfold fX2_startAt at h
  refine lv_aload_n hx hb dX2_startAt_0 rfl (lv_at hl 0 rfl) ?_
  refine lv_dup hx hb dX2_startAt_1 rfl ?_
  refine tb_geti F hP hB.1 (ci := 2) rfl inlX2 10 (by decide) rfl kf_X2_43 dX2_startAt_2 ?_
  refine lv_iconst (v := 1) hx hb dX2_startAt_5 (by decide) ?_
  refine lv_iload_n hx hb dX2_startAt_6 rfl (lv_at hl 1 rfl) ?_
  refine lv_ishl hx hb dX2_startAt_7 ?_
  refine lv_iconst (v := (-1)) hx hb dX2_startAt_8 (by decide) ?_
  refine lv_ixor hx hb dX2_startAt_9 ?_
  refine lv_iand hx hb dX2_startAt_10 ?_
  obtain ⟨M1, e2, h⟩ := tb_lets h
  refine tb_puti F hP hS hB.1 (ci := 2) rfl inlX2 tyX2 tyX2_ok nmX2 10 (by decide) rfl rfl rfl rfl kf_X2_43 dX2_startAt_11 (fun H locs hP hS => ?_)
  rw [← e2] at hP
  refine lv_aload_n hx hb dX2_startAt_14 rfl (lv_at hl 0 rfl) ?_
  refine lv_dup hx hb dX2_startAt_15 rfl ?_
  refine tb_geti F hP hB.1 (ci := 2) rfl inlX2 9 (by decide) rfl kf_X2_40 dX2_startAt_16 ?_
  refine lv_iconst (v := 1) hx hb dX2_startAt_19 (by decide) ?_
  refine lv_iload_n hx hb dX2_startAt_20 rfl (lv_at hl 1 rfl) ?_
  refine lv_ishl hx hb dX2_startAt_21 ?_
  refine lv_ior hx hb dX2_startAt_22 ?_
  obtain ⟨M3, e4, h⟩ := tb_lets h
  refine tb_puti F hP hS hB.1 (ci := 2) rfl inlX2 tyX2 tyX2_ok nmX2 9 (by decide) rfl rfl rfl rfl kf_X2_40 dX2_startAt_23 (fun H locs hP hS => ?_)
  rw [← e4] at hP
  refine lv_aload_n hx hb dX2_startAt_26 rfl (lv_at hl 0 rfl) ?_
  refine tb_getr F hP hB.1 (ci := 2) rfl inlX2 5 (by decide) rfl kf_X2_27 dX2_startAt_27 ?_
  refine lv_iload_n hx hb dX2_startAt_30 rfl (lv_at hl 1 rfl) ?_
  refine lv_iload_n hx hb dX2_startAt_31 rfl (lv_at hl 2 rfl) ?_
  obtain ⟨k5, h⟩ := tb_cks h
  obtain ⟨M6, e7, h⟩ := tb_lets h
  refine tb_iast F hP hS hB.2.2.2.2.2.2.1 rfl (tb_inv k5) dX2_startAt_32 (fun H locs hP hS => ?_)
  rw [← e7] at hP
  refine lv_aload_n hx hb dX2_startAt_33 rfl (lv_at hl 0 rfl) ?_
  refine tb_getr F hP hB.1 (ci := 2) rfl inlX2 6 (by decide) rfl kf_X2_30 dX2_startAt_34 ?_
  refine lv_iload_n hx hb dX2_startAt_37 rfl (lv_at hl 1 rfl) ?_
  refine lv_iconst (v := 0) hx hb dX2_startAt_38 (by decide) ?_
  obtain ⟨M8, e9, h⟩ := tb_lets h
  refine tb_iast F hP hS hB.2.2.2.2.2.2.2.1 rfl (tb_inv k5) dX2_startAt_39 (fun H locs hP hS => ?_)
  rw [← e9] at hP
  exact tb_vret h F hP hS dX2_startAt_40
def fX2_press (p : Nat) (a1 : Int32) (M : tb_Mem) : Option (tb_Mem) :=
  tb_b1 (fX2_startAt p a1 0 M) (fun M1 => some M1)
abbrev rmX2_press : Room := { frames := 1, cells := 0, slots := 0, locals := 22 }
set_option maxHeartbeats 4000000 in
set_option maxRecDepth 100000 in
theorem tX2_press (g : tb_GT) (l : Launch) (p : Nat) (hB : tb_B p) (a1 : Int32) (M M' : tb_Mem) (h : fX2_press p a1 M = some M') : tb_C g l yX2_press (Cond.code yX2_press cX2_press 2 none) rmX2_press [.ref (tb_ad g p), .int a1] M M' none := by
  refine tb_entry (by decide) (Nat.le_of_ble_eq_true rfl) ?_
  intro P e s m below meth c F hP hS ls hl
  have F : tb_F g cX2_press 2 RX2 none (Cond.code yX2_press cX2_press 2 none) P s m ([.ref (tb_ad g p), .int a1] : List Value).toArray meth c := F
  have hx := F.1.1
  have hb := F.1.2.1
  have hl : lv_has ls 2 [(0, .ref (tb_ad g p)), (1, .int a1)] := hl
  unfold fX2_press at h
  refine lv_aload_n hx hb dX2_press_0 rfl (lv_at hl 0 rfl) ?_
  refine lv_iload_n hx hb dX2_press_1 rfl (lv_at hl 1 rfl) ?_
  refine lv_iconst (v := 0) hx hb dX2_press_2 (by decide) ?_
  obtain ⟨M1, e2, h⟩ := tb_b1s h
  refine tb_callV F hP hS hl.1 kX2_startAt km_X2_69 (as := [.int a1, .int 0]) (tX2_startAt g l p hB a1 0 M M1 e2) hB.1 ⟨rfl, rfl, Nat.le_of_ble_eq_true rfl, Nat.le_of_ble_eq_true rfl⟩ rfl (rest := []) rfl (st1 := []) rfl (Nat.le_of_ble_eq_true rfl) ⟨Nat.zero_le _, Nat.zero_le _⟩ dX2_press_3 (fun H locs hP hS => ?_)
  exact tb_vret h F hP hS dX2_press_6
def fX2_layDown_L2 (p : Nat) : Nat → Int32 → Int32 → tb_Mem → Option (tb_Mem)
  | 0, _, _, _ => none
  | n + 1, x1, x2, M => if (M p 8) ≤ x2 then (tb_let (tb_up M p 9 ((M p 9) &&& (x1 ^^^ (-1)))) (fun M2 => tb_let (tb_up M2 p 10 ((M2 p 10) &&& (x1 ^^^ (-1)))) (fun M4 => some M4))) else (if (x1 &&& (1 <<< (x2 &&& 31))) = 0 then (fX2_layDown_L2 p n x1 (x2 + 1) M) else (tb_ck (tb_in x2 8) (tb_let (tb_up M (p + 7) x2.toNatClampNeg 0) (fun M8 => fX2_layDown_L2 p n x1 (x2 + 1) M8))))
def fX2_layDown (p : Nat) (a1 : Int32) (M : tb_Mem) : Option (tb_Mem) :=
  fX2_layDown_L2 p tb_N a1 0 M
abbrev rmX2_layDown : Room := { frames := 0, cells := 0, slots := 0, locals := 0 }
set_option maxHeartbeats 4000000 in
set_option maxRecDepth 100000 in
theorem tX2_layDown_L2 {g : tb_GT} {l : Launch} {P : Program} {e : Env} {s : State} {m : MethodId} {below : List Frame} {meth : Method} {c : Code} (p : Nat) (hB : tb_B p) {a1 : Int32} {M' : tb_Mem} (F : tb_F g cX2_layDown 3 RX2 none (Cond.code yX2_layDown cX2_layDown 3 none) P s m ([.ref (tb_ad g p), .int a1] : List Value).toArray meth c) :
    ∀ (n : Nat) (x1 : Int32) (x2 : Int32) (M : tb_Mem) (H : Heap) (locs : List Loc) (ls : Array Slot), tb_P g M H → va_S (tb_A g) s.heap H locs → lv_has ls 3 [(0, .ref (tb_ad g p)), (1, .int x1), (2, .int x2)] → fX2_layDown_L2 p n x1 x2 M = some M' → W P l e rmX2_layDown s m ([.ref (tb_ad g p), .int a1] : List Value).toArray below meth c H locs 0 0 (MQ below (tb_Q g M' none) ([.ref (tb_ad g p), .int a1] : List Value).toArray s 0 0 (tb_A g)) (F0 m 2 ls []) := by
  have hx := F.1.1
  have hb := F.1.2.1
  intro n
  induction n with
  | zero =>
    intro x1 x2 M H locs ls hP hS hl h
    rw [fX2_layDown_L2] at h
    exact tb_none h
  | succ n ih =>
    intro x1 x2 M H locs ls hP hS hl h
    rw [fX2_layDown_L2] at h
    refine lv_iload_n hx hb dX2_layDown_2 rfl (lv_at hl 2 rfl) ?_
    refine lv_aload_n hx hb dX2_layDown_3 rfl (lv_at hl 0 rfl) ?_
    refine tb_geti F hP hB.1 (ci := 2) rfl inlX2 8 (by decide) rfl kf_X2_36 dX2_layDown_4 ?_
    refine lv_icmp_ge (tgt := 31) hx hb dX2_layDown_7 (by decide) (fun c1 => ?_) (fun c1 => ?_)
    · have h := tb_ip c1 h
      refine lv_aload_n hx hb dX2_layDown_31 rfl (lv_at hl 0 rfl) ?_
      refine lv_dup hx hb dX2_layDown_32 rfl ?_
      refine tb_geti F hP hB.1 (ci := 2) rfl inlX2 9 (by decide) rfl kf_X2_40 dX2_layDown_33 ?_
      refine lv_iload_n hx hb dX2_layDown_36 rfl (lv_at hl 1 rfl) ?_
      refine lv_iconst (v := (-1)) hx hb dX2_layDown_37 (by decide) ?_
      refine lv_ixor hx hb dX2_layDown_38 ?_
      refine lv_iand hx hb dX2_layDown_39 ?_
      obtain ⟨M2, e3, h⟩ := tb_lets h
      refine tb_puti F hP hS hB.1 (ci := 2) rfl inlX2 tyX2 tyX2_ok nmX2 9 (by decide) rfl rfl rfl rfl kf_X2_40 dX2_layDown_40 (fun H locs hP hS => ?_)
      rw [← e3] at hP
      refine lv_aload_n hx hb dX2_layDown_43 rfl (lv_at hl 0 rfl) ?_
      refine lv_dup hx hb dX2_layDown_44 rfl ?_
      refine tb_geti F hP hB.1 (ci := 2) rfl inlX2 10 (by decide) rfl kf_X2_43 dX2_layDown_45 ?_
      refine lv_iload_n hx hb dX2_layDown_48 rfl (lv_at hl 1 rfl) ?_
      refine lv_iconst (v := (-1)) hx hb dX2_layDown_49 (by decide) ?_
      refine lv_ixor hx hb dX2_layDown_50 ?_
      refine lv_iand hx hb dX2_layDown_51 ?_
      obtain ⟨M4, e5, h⟩ := tb_lets h
      refine tb_puti F hP hS hB.1 (ci := 2) rfl inlX2 tyX2 tyX2_ok nmX2 10 (by decide) rfl rfl rfl rfl kf_X2_43 dX2_layDown_52 (fun H locs hP hS => ?_)
      rw [← e5] at hP
      exact tb_vret h F hP hS dX2_layDown_55
    · have h := tb_ineg c1 h
      refine lv_iload_n hx hb dX2_layDown_10 rfl (lv_at hl 1 rfl) ?_
      refine lv_iconst (v := 1) hx hb dX2_layDown_11 (by decide) ?_
      refine lv_iload_n hx hb dX2_layDown_12 rfl (lv_at hl 2 rfl) ?_
      refine lv_ishl hx hb dX2_layDown_13 ?_
      refine lv_iand hx hb dX2_layDown_14 ?_
      refine lv_if_eq (tgt := 25) hx hb dX2_layDown_15 (by decide) (fun c6 => ?_) (fun c6 => ?_)
      · have h := tb_ip c6 h
        refine lv_iinc (v := (x2 + 1)) (lv' := [(2, .int (x2 + 1)), (0, .ref (tb_ad g p)), (1, .int x1)]) hx hb dX2_layDown_25 hl (k := 2) rfl rfl (by decide) rfl (fun ls hl => ?_)
        refine lv_goto (tgt := 2) hx hb dX2_layDown_28 (by decide) ?_
        exact ih x1 (x2 + 1) M _ _ _ hP hS (lv_sub hl [1, 2, 0] rfl) h
      · have h := tb_ineg c6 h
        refine lv_aload_n hx hb dX2_layDown_18 rfl (lv_at hl 0 rfl) ?_
        refine tb_getr F hP hB.1 (ci := 2) rfl inlX2 6 (by decide) rfl kf_X2_30 dX2_layDown_19 ?_
        refine lv_iload_n hx hb dX2_layDown_22 rfl (lv_at hl 2 rfl) ?_
        refine lv_iconst (v := 0) hx hb dX2_layDown_23 (by decide) ?_
        obtain ⟨k7, h⟩ := tb_cks h
        obtain ⟨M8, e9, h⟩ := tb_lets h
        refine tb_iast F hP hS hB.2.2.2.2.2.2.2.1 rfl (tb_inv k7) dX2_layDown_24 (fun H locs hP hS => ?_)
        rw [← e9] at hP
        refine lv_iinc (v := (x2 + 1)) (lv' := [(2, .int (x2 + 1)), (0, .ref (tb_ad g p)), (1, .int x1)]) hx hb dX2_layDown_25 hl (k := 2) rfl rfl (by decide) rfl (fun ls hl => ?_)
        refine lv_goto (tgt := 2) hx hb dX2_layDown_28 (by decide) ?_
        exact ih x1 (x2 + 1) M8 _ _ _ hP hS (lv_sub hl [1, 2, 0] rfl) h
set_option maxHeartbeats 4000000 in
set_option maxRecDepth 100000 in
theorem tX2_layDown (g : tb_GT) (l : Launch) (p : Nat) (hB : tb_B p) (a1 : Int32) (M M' : tb_Mem) (h : fX2_layDown p a1 M = some M') : tb_C g l yX2_layDown (Cond.code yX2_layDown cX2_layDown 3 none) rmX2_layDown [.ref (tb_ad g p), .int a1] M M' none := by
  refine tb_entry (by decide) (Nat.le_of_ble_eq_true rfl) ?_
  intro P e s m below meth c F hP hS ls hl
  have F : tb_F g cX2_layDown 3 RX2 none (Cond.code yX2_layDown cX2_layDown 3 none) P s m ([.ref (tb_ad g p), .int a1] : List Value).toArray meth c := F
  have hx := F.1.1
  have hb := F.1.2.1
  have hl : lv_has ls 3 [(0, .ref (tb_ad g p)), (1, .int a1)] := hl
  unfold fX2_layDown at h
  refine lv_iconst (v := 0) hx hb dX2_layDown_0 (by decide) ?_
  refine lv_istore_n (lv' := [(2, .int 0), (0, .ref (tb_ad g p)), (1, .int a1)]) hx hb dX2_layDown_1 rfl hl (by decide) rfl (fun ls hl => ?_)
  exact tX2_layDown_L2 p hB F tb_N a1 0 M _ _ _ hP hS (lv_sub hl [1, 2, 0] rfl) h
def fX2_exchange (p : Nat) (a1 : Int32) (a2 : Int32) (M : tb_Mem) : Option (tb_Mem) :=
  tb_ck (tb_in a1 8) (tb_let ((M (p + 4) a1.toNatClampNeg) : Int32) (fun v2 => tb_ck (tb_in a2 8) (tb_let (tb_up M (p + 4) a1.toNatClampNeg (M (p + 4) a2.toNatClampNeg)) (fun M5 => tb_let (tb_up M5 (p + 4) a2.toNatClampNeg v2) (fun M7 => tb_ck (tb_in (M7 (p + 4) a1.toNatClampNeg) 8) (tb_let (tb_up M7 (p + 5) ((M7 (p + 4) a1.toNatClampNeg).toNatClampNeg) a1) (fun M10 => tb_ck (tb_in (M10 (p + 4) a2.toNatClampNeg) 8) (tb_let (tb_up M10 (p + 5) ((M10 (p + 4) a2.toNatClampNeg).toNatClampNeg) a2) (fun M13 => some M13)))))))))
abbrev rmX2_exchange : Room := { frames := 0, cells := 0, slots := 0, locals := 0 }
set_option maxHeartbeats 4000000 in
set_option maxRecDepth 100000 in
theorem tX2_exchange (g : tb_GT) (l : Launch) (p : Nat) (hB : tb_B p) (a1 : Int32) (a2 : Int32) (M M' : tb_Mem) (h : fX2_exchange p a1 a2 M = some M') : tb_C g l yX2_exchange (Cond.code yX2_exchange cX2_exchange 4 none) rmX2_exchange [.ref (tb_ad g p), .int a1, .int a2] M M' none := by
  refine tb_entry (by decide) (Nat.le_of_ble_eq_true rfl) ?_
  intro P e s m below meth c F hP hS ls hl
  have F : tb_F g cX2_exchange 4 RX2 none (Cond.code yX2_exchange cX2_exchange 4 none) P s m ([.ref (tb_ad g p), .int a1, .int a2] : List Value).toArray meth c := F
  have hx := F.1.1
  have hb := F.1.2.1
  have hl : lv_has ls 4 [(0, .ref (tb_ad g p)), (1, .int a1), (2, .int a2)] := hl
  unfold fX2_exchange at h
  refine lv_aload_n hx hb dX2_exchange_0 rfl (lv_at hl 0 rfl) ?_
  refine tb_getr F hP hB.1 (ci := 2) rfl inlX2 3 (by decide) rfl kf_X2_21 dX2_exchange_1 ?_
  refine lv_iload_n hx hb dX2_exchange_4 rfl (lv_at hl 1 rfl) ?_
  obtain ⟨k1, h⟩ := tb_cks h
  refine tb_iald F hP hB.2.2.2.2.1 rfl (tb_inv k1) dX2_exchange_5 ?_
  obtain ⟨v2, e3, h⟩ := tb_lets h
  refine tb_nmi e3 ?_
  refine lv_istore_n (lv' := [(3, .int v2), (0, .ref (tb_ad g p)), (1, .int a1), (2, .int a2)]) hx hb dX2_exchange_6 rfl hl (by decide) rfl (fun ls hl => ?_)
  refine lv_aload_n hx hb dX2_exchange_7 rfl (lv_at hl 1 rfl) ?_
  refine tb_getr F hP hB.1 (ci := 2) rfl inlX2 3 (by decide) rfl kf_X2_21 dX2_exchange_8 ?_
  refine lv_iload_n hx hb dX2_exchange_11 rfl (lv_at hl 2 rfl) ?_
  refine lv_aload_n hx hb dX2_exchange_12 rfl (lv_at hl 1 rfl) ?_
  refine tb_getr F hP hB.1 (ci := 2) rfl inlX2 3 (by decide) rfl kf_X2_21 dX2_exchange_13 ?_
  refine lv_iload_n hx hb dX2_exchange_16 rfl (lv_at hl 3 rfl) ?_
  obtain ⟨k4, h⟩ := tb_cks h
  refine tb_iald F hP hB.2.2.2.2.1 rfl (tb_inv k4) dX2_exchange_17 ?_
  obtain ⟨M5, e6, h⟩ := tb_lets h
  refine tb_iast F hP hS hB.2.2.2.2.1 rfl (tb_inv k1) dX2_exchange_18 (fun H locs hP hS => ?_)
  rw [← e6] at hP
  refine lv_aload_n hx hb dX2_exchange_19 rfl (lv_at hl 1 rfl) ?_
  refine tb_getr F hP hB.1 (ci := 2) rfl inlX2 3 (by decide) rfl kf_X2_21 dX2_exchange_20 ?_
  refine lv_iload_n hx hb dX2_exchange_23 rfl (lv_at hl 3 rfl) ?_
  refine lv_iload_n hx hb dX2_exchange_24 rfl (lv_at hl 0 rfl) ?_
  obtain ⟨M7, e8, h⟩ := tb_lets h
  refine tb_iast F hP hS hB.2.2.2.2.1 rfl (tb_inv k4) dX2_exchange_25 (fun H locs hP hS => ?_)
  rw [← e8] at hP
  refine lv_aload_n hx hb dX2_exchange_26 rfl (lv_at hl 1 rfl) ?_
  refine tb_getr F hP hB.1 (ci := 2) rfl inlX2 4 (by decide) rfl kf_X2_24 dX2_exchange_27 ?_
  refine lv_aload_n hx hb dX2_exchange_30 rfl (lv_at hl 1 rfl) ?_
  refine tb_getr F hP hB.1 (ci := 2) rfl inlX2 3 (by decide) rfl kf_X2_21 dX2_exchange_31 ?_
  refine lv_iload_n hx hb dX2_exchange_34 rfl (lv_at hl 2 rfl) ?_
  refine tb_iald F hP hB.2.2.2.2.1 rfl (tb_inv k1) dX2_exchange_35 ?_
  refine lv_iload_n hx hb dX2_exchange_36 rfl (lv_at hl 2 rfl) ?_
  obtain ⟨k9, h⟩ := tb_cks h
  obtain ⟨M10, e11, h⟩ := tb_lets h
  refine tb_iast F hP hS hB.2.2.2.2.2.1 rfl (tb_inv k9) dX2_exchange_37 (fun H locs hP hS => ?_)
  rw [← e11] at hP
  refine lv_aload_n hx hb dX2_exchange_38 rfl (lv_at hl 1 rfl) ?_
  refine tb_getr F hP hB.1 (ci := 2) rfl inlX2 4 (by decide) rfl kf_X2_24 dX2_exchange_39 ?_
  refine lv_aload_n hx hb dX2_exchange_42 rfl (lv_at hl 1 rfl) ?_
  refine tb_getr F hP hB.1 (ci := 2) rfl inlX2 3 (by decide) rfl kf_X2_21 dX2_exchange_43 ?_
  refine lv_iload_n hx hb dX2_exchange_46 rfl (lv_at hl 3 rfl) ?_
  refine tb_iald F hP hB.2.2.2.2.1 rfl (tb_inv k4) dX2_exchange_47 ?_
  refine lv_iload_n hx hb dX2_exchange_48 rfl (lv_at hl 3 rfl) ?_
  obtain ⟨k12, h⟩ := tb_cks h
  obtain ⟨M13, e14, h⟩ := tb_lets h
  refine tb_iast F hP hS hB.2.2.2.2.2.1 rfl (tb_inv k12) dX2_exchange_49 (fun H locs hP hS => ?_)
  rw [← e14] at hP
  exact tb_vret h F hP hS dX2_exchange_50
def fX2_heightByTime (p : Nat) (a1 : Int32) (M : tb_Mem) : Option (Int32 × tb_Mem) :=
  tb_ck (tb_in a1 8) (tb_let (((M (p + 6) a1.toNatClampNeg) - (M (p + 3) a1.toNatClampNeg)) : Int32) (fun v2 => if 0 < v2 then (if (M (p + 1) a1.toNatClampNeg) = 3 then (some (((M (p + 3) a1.toNatClampNeg) - (2 * v2)), M)) else (some (((M (p + 3) a1.toNatClampNeg) - v2), M))) else (some ((M (p + 6) a1.toNatClampNeg), M))))
abbrev rmX2_heightByTime : Room := { frames := 0, cells := 0, slots := 0, locals := 0 }
set_option maxHeartbeats 4000000 in
set_option maxRecDepth 100000 in
theorem tX2_heightByTime (g : tb_GT) (l : Launch) (p : Nat) (hB : tb_B p) (a1 : Int32) (M M' : tb_Mem) (r : Int32) (h : fX2_heightByTime p a1 M = some (r, M')) : tb_C g l yX2_heightByTime (Cond.code yX2_heightByTime cX2_heightByTime 3 (some .int)) rmX2_heightByTime [.ref (tb_ad g p), .int a1] M M' (some (.int r)) := by
  refine tb_entry (by decide) (Nat.le_of_ble_eq_true rfl) ?_
  intro P e s m below meth c F hP hS ls hl
  have F : tb_F g cX2_heightByTime 3 RX2 (some .int) (Cond.code yX2_heightByTime cX2_heightByTime 3 (some .int)) P s m ([.ref (tb_ad g p), .int a1] : List Value).toArray meth c := F
  have hx := F.1.1
  have hb := F.1.2.1
  have hl : lv_has ls 3 [(0, .ref (tb_ad g p)), (1, .int a1)] := hl
  unfold fX2_heightByTime at h
  refine lv_aload_n hx hb dX2_heightByTime_0 rfl (lv_at hl 0 rfl) ?_
  refine tb_getr F hP hB.1 (ci := 2) rfl inlX2 5 (by decide) rfl kf_X2_27 dX2_heightByTime_1 ?_
  refine lv_iload_n hx hb dX2_heightByTime_4 rfl (lv_at hl 1 rfl) ?_
  obtain ⟨k1, h⟩ := tb_cks h
  refine tb_iald F hP hB.2.2.2.2.2.2.1 rfl (tb_inv k1) dX2_heightByTime_5 ?_
  refine lv_aload_n hx hb dX2_heightByTime_6 rfl (lv_at hl 0 rfl) ?_
  refine tb_getr F hP hB.1 (ci := 2) rfl inlX2 2 (by decide) rfl kf_X2_18 dX2_heightByTime_7 ?_
  refine lv_iload_n hx hb dX2_heightByTime_10 rfl (lv_at hl 1 rfl) ?_
  refine tb_iald F hP hB.2.2.2.1 rfl (tb_inv k1) dX2_heightByTime_11 ?_
  refine lv_isub hx hb dX2_heightByTime_12 ?_
  obtain ⟨v2, e3, h⟩ := tb_lets h
  refine tb_nmi e3 ?_
  refine lv_istore_n (lv' := [(2, .int v2), (0, .ref (tb_ad g p)), (1, .int a1)]) hx hb dX2_heightByTime_13 rfl hl (by decide) rfl (fun ls hl => ?_)
  refine lv_iload_n hx hb dX2_heightByTime_14 rfl (lv_at hl 0 rfl) ?_
  refine lv_if_gt (tgt := 25) hx hb dX2_heightByTime_15 (by decide) (fun c4 => ?_) (fun c4 => ?_)
  · have h := tb_ip c4 h
    refine lv_aload_n hx hb dX2_heightByTime_25 rfl (lv_at hl 1 rfl) ?_
    refine tb_getr F hP hB.1 (ci := 2) rfl inlX2 0 (by decide) rfl kf_X2_9 dX2_heightByTime_26 ?_
    refine lv_iload_n hx hb dX2_heightByTime_29 rfl (lv_at hl 2 rfl) ?_
    refine tb_iald F hP hB.2.1 rfl (tb_inv k1) dX2_heightByTime_30 ?_
    refine lv_iconst (v := 3) hx hb dX2_heightByTime_31 (by decide) ?_
    refine lv_icmp_ne (tgt := 48) hx hb dX2_heightByTime_32 (by decide) (fun c5 => ?_) (fun c5 => ?_)
    · have h := tb_ineg c5 h
      refine lv_aload_n hx hb dX2_heightByTime_48 rfl (lv_at hl 1 rfl) ?_
      refine tb_getr F hP hB.1 (ci := 2) rfl inlX2 2 (by decide) rfl kf_X2_18 dX2_heightByTime_49 ?_
      refine lv_iload_n hx hb dX2_heightByTime_52 rfl (lv_at hl 2 rfl) ?_
      refine tb_iald F hP hB.2.2.2.1 rfl (tb_inv k1) dX2_heightByTime_53 ?_
      refine lv_iload_n hx hb dX2_heightByTime_54 rfl (lv_at hl 0 rfl) ?_
      refine lv_isub hx hb dX2_heightByTime_55 ?_
      exact tb_iret h F hP hS dX2_heightByTime_56
    · have h := tb_ip c5 h
      refine lv_aload_n hx hb dX2_heightByTime_35 rfl (lv_at hl 1 rfl) ?_
      refine tb_getr F hP hB.1 (ci := 2) rfl inlX2 2 (by decide) rfl kf_X2_18 dX2_heightByTime_36 ?_
      refine lv_iload_n hx hb dX2_heightByTime_39 rfl (lv_at hl 2 rfl) ?_
      refine tb_iald F hP hB.2.2.2.1 rfl (tb_inv k1) dX2_heightByTime_40 ?_
      refine lv_iconst (v := 2) hx hb dX2_heightByTime_41 (by decide) ?_
      refine lv_iload_n hx hb dX2_heightByTime_42 rfl (lv_at hl 0 rfl) ?_
      refine lv_imul hx hb dX2_heightByTime_43 ?_
      refine lv_isub hx hb dX2_heightByTime_44 ?_
      refine lv_goto (tgt := 56) hx hb dX2_heightByTime_45 (by decide) ?_
      exact tb_iret h F hP hS dX2_heightByTime_56
  · have h := tb_ineg c4 h
    refine lv_aload_n hx hb dX2_heightByTime_18 rfl (lv_at hl 1 rfl) ?_
    refine tb_getr F hP hB.1 (ci := 2) rfl inlX2 5 (by decide) rfl kf_X2_27 dX2_heightByTime_19 ?_
    refine lv_iload_n hx hb dX2_heightByTime_22 rfl (lv_at hl 2 rfl) ?_
    refine tb_iald F hP hB.2.2.2.2.2.2.1 rfl (tb_inv k1) dX2_heightByTime_23 ?_
    exact tb_iret h F hP hS dX2_heightByTime_24
def fX2_riseAndFall_L2 (p : Nat) : Nat → Int32 → tb_Mem → Option (tb_Mem)
  | 0, _, _ => none
  | n + 1, x1, M => if (M p 8) ≤ x1 then (some M) else (tb_b2 (fX2_moves p x1 M) (fun r4 M2 => if r4 = 0 then (fX2_riseAndFall_L2 p n (x1 + 1) M2) else (tb_ck (tb_in x1 8) (tb_let (tb_up M2 (p + 6) x1.toNatClampNeg ((M2 (p + 6) x1.toNatClampNeg) + 1)) (fun M7 => tb_b2 (fX2_heightByTime p x1 M7) (fun r11 M9 => tb_let (tb_up M9 (p + 7) x1.toNatClampNeg (if 0 < r11 then r11 else 0)) (fun M12 => if (M12 (p + 7) x1.toNatClampNeg) = 0 then (tb_let (tb_up M12 p 9 ((M12 p 9) &&& ((1 <<< (x1 &&& 31)) ^^^ (-1)))) (fun M15 => fX2_riseAndFall_L2 p n (x1 + 1) M15)) else (fX2_riseAndFall_L2 p n (x1 + 1) M12))))))))
def fX2_riseAndFall (p : Nat) (M : tb_Mem) : Option (tb_Mem) :=
  fX2_riseAndFall_L2 p tb_N 0 M
abbrev rmX2_riseAndFall : Room := { frames := 1, cells := 0, slots := 0, locals := 64 }
set_option maxHeartbeats 4000000 in
set_option maxRecDepth 100000 in
theorem tX2_riseAndFall_L2 {g : tb_GT} {l : Launch} {P : Program} {e : Env} {s : State} {m : MethodId} {below : List Frame} {meth : Method} {c : Code} (p : Nat) (hB : tb_B p) {M' : tb_Mem} (F : tb_F g cX2_riseAndFall 2 RX2 none (Cond.code yX2_riseAndFall cX2_riseAndFall 2 none) P s m ([.ref (tb_ad g p)] : List Value).toArray meth c) :
    ∀ (n : Nat) (x1 : Int32) (M : tb_Mem) (H : Heap) (locs : List Loc) (ls : Array Slot), tb_P g M H → va_S (tb_A g) s.heap H locs → lv_has ls 2 [(0, .ref (tb_ad g p)), (1, .int x1)] → fX2_riseAndFall_L2 p n x1 M = some M' → W P l e rmX2_riseAndFall s m ([.ref (tb_ad g p)] : List Value).toArray below meth c H locs 0 0 (MQ below (tb_Q g M' none) ([.ref (tb_ad g p)] : List Value).toArray s 0 0 (tb_A g)) (F0 m 2 ls []) := by
  have hx := F.1.1
  have hb := F.1.2.1
  intro n
  induction n with
  | zero =>
    intro x1 M H locs ls hP hS hl h
    rw [fX2_riseAndFall_L2] at h
    exact tb_none h
  | succ n ih =>
    intro x1 M H locs ls hP hS hl h
    rw [fX2_riseAndFall_L2] at h
    refine lv_iload_n hx hb dX2_riseAndFall_2 rfl (lv_at hl 1 rfl) ?_
    refine lv_aload_n hx hb dX2_riseAndFall_3 rfl (lv_at hl 0 rfl) ?_
    refine tb_geti F hP hB.1 (ci := 2) rfl inlX2 8 (by decide) rfl kf_X2_36 dX2_riseAndFall_4 ?_
    refine lv_icmp_ge (tgt := 72) hx hb dX2_riseAndFall_7 (by decide) (fun c1 => ?_) (fun c1 => ?_)
    · have h := tb_ip c1 h
      exact tb_vret h F hP hS dX2_riseAndFall_72
    · have h := tb_ineg c1 h
      refine lv_aload_n hx hb dX2_riseAndFall_10 rfl (lv_at hl 0 rfl) ?_
      refine lv_iload_n hx hb dX2_riseAndFall_11 rfl (lv_at hl 1 rfl) ?_
      obtain ⟨r4, M2, e3, h⟩ := tb_b2s h
      refine tb_callV F hP hS hl.1 kX2_moves km_X2_92 (as := [.int x1]) (tX2_moves g l p hB x1 M M2 r4 e3) hB.1 ⟨rfl, rfl, Nat.le_of_ble_eq_true rfl, Nat.le_of_ble_eq_true rfl⟩ rfl (rest := []) rfl (st1 := [.int r4]) rfl (Nat.le_of_ble_eq_true rfl) ⟨Nat.zero_le _, Nat.zero_le _⟩ dX2_riseAndFall_12 (fun H locs hP hS => ?_)
      refine lv_if_eq (tgt := 66) hx hb dX2_riseAndFall_15 (by decide) (fun c5 => ?_) (fun c5 => ?_)
      · have h := tb_ip c5 h
        refine lv_iinc (v := (x1 + 1)) (lv' := [(1, .int (x1 + 1)), (0, .ref (tb_ad g p))]) hx hb dX2_riseAndFall_66 hl (k := 1) rfl rfl (by decide) rfl (fun ls hl => ?_)
        refine lv_goto (tgt := 2) hx hb dX2_riseAndFall_69 (by decide) ?_
        exact ih (x1 + 1) M2 _ _ _ hP hS (lv_sub hl [1, 0] rfl) h
      · have h := tb_ineg c5 h
        refine lv_aload_n hx hb dX2_riseAndFall_18 rfl (lv_at hl 0 rfl) ?_
        refine tb_getr F hP hB.1 (ci := 2) rfl inlX2 5 (by decide) rfl kf_X2_27 dX2_riseAndFall_19 ?_
        refine lv_iload_n hx hb dX2_riseAndFall_22 rfl (lv_at hl 1 rfl) ?_
        refine lv_dup2_11 hx hb dX2_riseAndFall_23 rfl rfl ?_
        obtain ⟨k6, h⟩ := tb_cks h
        refine tb_iald F hP hB.2.2.2.2.2.2.1 rfl (tb_inv k6) dX2_riseAndFall_24 ?_
        refine lv_iconst (v := 1) hx hb dX2_riseAndFall_25 (by decide) ?_
        refine lv_iadd hx hb dX2_riseAndFall_26 ?_
        obtain ⟨M7, e8, h⟩ := tb_lets h
        refine tb_iast F hP hS hB.2.2.2.2.2.2.1 rfl (tb_inv k6) dX2_riseAndFall_27 (fun H locs hP hS => ?_)
        rw [← e8] at hP
        refine lv_aload_n hx hb dX2_riseAndFall_28 rfl (lv_at hl 0 rfl) ?_
        refine tb_getr F hP hB.1 (ci := 2) rfl inlX2 6 (by decide) rfl kf_X2_30 dX2_riseAndFall_29 ?_
        refine lv_iload_n hx hb dX2_riseAndFall_32 rfl (lv_at hl 1 rfl) ?_
        refine lv_iconst (v := 0) hx hb dX2_riseAndFall_33 (by decide) ?_
        refine lv_aload_n hx hb dX2_riseAndFall_34 rfl (lv_at hl 0 rfl) ?_
        refine lv_iload_n hx hb dX2_riseAndFall_35 rfl (lv_at hl 1 rfl) ?_
        obtain ⟨r11, M9, e10, h⟩ := tb_b2s h
        refine tb_callV F hP hS hl.1 kX2_heightByTime km_X2_95 (as := [.int x1]) (tX2_heightByTime g l p hB x1 M7 M9 r11 e10) hB.1 ⟨rfl, rfl, Nat.le_of_ble_eq_true rfl, Nat.le_of_ble_eq_true rfl⟩ rfl (rest := [.int 0, .int x1, .ref (tb_ad g (p + 7))]) rfl (st1 := [.int r11, .int 0, .int x1, .ref (tb_ad g (p + 7))]) rfl (Nat.le_of_ble_eq_true rfl) ⟨Nat.zero_le _, Nat.zero_le _⟩ dX2_riseAndFall_36 (fun H locs hP hS => ?_)
        refine tb_mmax F hl.1 km_X2_99 (Nat.le_of_ble_eq_true rfl) (Nat.le_of_ble_eq_true rfl) ⟨Nat.zero_le _, Nat.zero_le _⟩ dX2_riseAndFall_39 ?_
        obtain ⟨M12, e13, h⟩ := tb_lets h
        refine tb_iast F hP hS hB.2.2.2.2.2.2.2.1 rfl (tb_inv k6) dX2_riseAndFall_42 (fun H locs hP hS => ?_)
        rw [← e13] at hP
        refine lv_aload_n hx hb dX2_riseAndFall_43 rfl (lv_at hl 0 rfl) ?_
        refine tb_getr F hP hB.1 (ci := 2) rfl inlX2 6 (by decide) rfl kf_X2_30 dX2_riseAndFall_44 ?_
        refine lv_iload_n hx hb dX2_riseAndFall_47 rfl (lv_at hl 1 rfl) ?_
        refine tb_iald F hP hB.2.2.2.2.2.2.2.1 rfl (tb_inv k6) dX2_riseAndFall_48 ?_
        refine lv_if_ne (tgt := 66) hx hb dX2_riseAndFall_49 (by decide) (fun c14 => ?_) (fun c14 => ?_)
        · have h := tb_ineg c14 h
          refine lv_iinc (v := (x1 + 1)) (lv' := [(1, .int (x1 + 1)), (0, .ref (tb_ad g p))]) hx hb dX2_riseAndFall_66 hl (k := 1) rfl rfl (by decide) rfl (fun ls hl => ?_)
          refine lv_goto (tgt := 2) hx hb dX2_riseAndFall_69 (by decide) ?_
          exact ih (x1 + 1) M12 _ _ _ hP hS (lv_sub hl [1, 0] rfl) h
        · have h := tb_ip c14 h
          refine lv_aload_n hx hb dX2_riseAndFall_52 rfl (lv_at hl 0 rfl) ?_
          refine lv_dup hx hb dX2_riseAndFall_53 rfl ?_
          refine tb_geti F hP hB.1 (ci := 2) rfl inlX2 9 (by decide) rfl kf_X2_40 dX2_riseAndFall_54 ?_
          refine lv_iconst (v := 1) hx hb dX2_riseAndFall_57 (by decide) ?_
          refine lv_iload_n hx hb dX2_riseAndFall_58 rfl (lv_at hl 1 rfl) ?_
          refine lv_ishl hx hb dX2_riseAndFall_59 ?_
          refine lv_iconst (v := (-1)) hx hb dX2_riseAndFall_60 (by decide) ?_
          refine lv_ixor hx hb dX2_riseAndFall_61 ?_
          refine lv_iand hx hb dX2_riseAndFall_62 ?_
          obtain ⟨M15, e16, h⟩ := tb_lets h
          refine tb_puti F hP hS hB.1 (ci := 2) rfl inlX2 tyX2 tyX2_ok nmX2 9 (by decide) rfl rfl rfl rfl kf_X2_40 dX2_riseAndFall_63 (fun H locs hP hS => ?_)
          rw [← e16] at hP
          refine lv_iinc (v := (x1 + 1)) (lv' := [(1, .int (x1 + 1)), (0, .ref (tb_ad g p))]) hx hb dX2_riseAndFall_66 hl (k := 1) rfl rfl (by decide) rfl (fun ls hl => ?_)
          refine lv_goto (tgt := 2) hx hb dX2_riseAndFall_69 (by decide) ?_
          exact ih (x1 + 1) M15 _ _ _ hP hS (lv_sub hl [1, 0] rfl) h
set_option maxHeartbeats 4000000 in
set_option maxRecDepth 100000 in
theorem tX2_riseAndFall (g : tb_GT) (l : Launch) (p : Nat) (hB : tb_B p) (M M' : tb_Mem) (h : fX2_riseAndFall p M = some M') : tb_C g l yX2_riseAndFall (Cond.code yX2_riseAndFall cX2_riseAndFall 2 none) rmX2_riseAndFall [.ref (tb_ad g p)] M M' none := by
  refine tb_entry (by decide) (Nat.le_of_ble_eq_true rfl) ?_
  intro P e s m below meth c F hP hS ls hl
  have F : tb_F g cX2_riseAndFall 2 RX2 none (Cond.code yX2_riseAndFall cX2_riseAndFall 2 none) P s m ([.ref (tb_ad g p)] : List Value).toArray meth c := F
  have hx := F.1.1
  have hb := F.1.2.1
  have hl : lv_has ls 2 [(0, .ref (tb_ad g p))] := hl
  unfold fX2_riseAndFall at h
  refine lv_iconst (v := 0) hx hb dX2_riseAndFall_0 (by decide) ?_
  refine lv_istore_n (lv' := [(1, .int 0), (0, .ref (tb_ad g p))]) hx hb dX2_riseAndFall_1 rfl hl (by decide) rfl (fun ls hl => ?_)
  exact tX2_riseAndFall_L2 p hB F tb_N 0 M _ _ _ hP hS (lv_sub hl [1, 0] rfl) h
def fX2_meeting_L75 (p : Nat) : Nat → Int32 → Int32 → tb_Mem → Option (Int32 × tb_Mem)
  | 0, _, _, _ => none
  | n + 1, x3, x4, M => if (M p 8) ≤ x4 then (some (x3, M)) else (tb_ck (tb_in (x4 - 1) 8) (tb_ck (tb_in x4 8) (tb_let (((1 <<< ((M (p + 5) (x4 - 1).toNatClampNeg) &&& 31)) ||| (1 <<< ((M (p + 5) x4.toNatClampNeg) &&& 31))) : Int32) (fun v22 => tb_ck (tb_in (M (p + 5) x4.toNatClampNeg) 8) (tb_let ((M (p + 7) (M (p + 5) x4.toNatClampNeg).toNatClampNeg) : Int32) (fun v25 => if v25 ≤ 0 then (fX2_meeting_L75 p n x3 (x4 + 1) M) else (tb_ck (tb_in (M (p + 5) (x4 - 1).toNatClampNeg) 8) (if v25 = (M (p + 7) (M (p + 5) (x4 - 1).toNatClampNeg).toNatClampNeg) then (if (v22 &&& (M p 9)) = 0 then (fX2_meeting_L75 p n x3 (x4 + 1) M) else (fX2_meeting_L75 p n (x3 ||| v22) (x4 + 1) M)) else (fX2_meeting_L75 p n x3 (x4 + 1) M)))))))))
def fX2_meeting_L4 (p : Nat) : Nat → Int32 → Int32 → tb_Mem → Option (Int32 × tb_Mem)
  | 0, _, _, _ => none
  | n + 1, x1, x2, M => if (M p 8) ≤ x2 then (if (x1 &&& (M p 9)) = 0 then (tb_let (((if (0 : Int32) = 0 then 0 else x1) : Int32) : Int32) (fun v4 => fX2_meeting_L75 p tb_N v4 1 M)) else (tb_b2 (fJ6_bitCount_0f7a4 x1 M) (fun r8 M6 => tb_let (((if r8 ≤ 1 then 0 else 1) : Int32) : Int32) (fun v10 => tb_let (((if v10 = 0 then 0 else x1) : Int32) : Int32) (fun v13 => fX2_meeting_L75 p tb_N v13 1 M6))))) else (tb_ck (tb_in x2 8) (if (M (p + 7) x2.toNatClampNeg) = (M (p + 3) x2.toNatClampNeg) then (tb_let ((x1 ||| (1 <<< (x2 &&& 31))) : Int32) (fun v17 => fX2_meeting_L4 p n v17 (x2 + 1) M)) else (fX2_meeting_L4 p n x1 (x2 + 1) M)))
def fX2_meeting (p : Nat) (M : tb_Mem) : Option (Int32 × tb_Mem) :=
  fX2_meeting_L4 p tb_N 0 0 M
abbrev rmX2_meeting : Room := { frames := 1, cells := 0, slots := 0, locals := 20 }
set_option maxHeartbeats 4000000 in
set_option maxRecDepth 100000 in
theorem tX2_meeting_L75 {g : tb_GT} {l : Launch} {P : Program} {e : Env} {s : State} {m : MethodId} {below : List Frame} {meth : Method} {c : Code} (p : Nat) (hB : tb_B p) {M' : tb_Mem} {r : Int32} (F : tb_F g cX2_meeting 7 RX2 (some .int) (Cond.code yX2_meeting cX2_meeting 7 (some .int)) P s m ([.ref (tb_ad g p)] : List Value).toArray meth c) :
    ∀ (n : Nat) (x3 : Int32) (x4 : Int32) (M : tb_Mem) (H : Heap) (locs : List Loc) (ls : Array Slot), tb_P g M H → va_S (tb_A g) s.heap H locs → lv_has ls 7 [(0, .ref (tb_ad g p)), (3, .int x3), (4, .int x4)] → fX2_meeting_L75 p n x3 x4 M = some (r, M') → W P l e rmX2_meeting s m ([.ref (tb_ad g p)] : List Value).toArray below meth c H locs 0 0 (MQ below (tb_Q g M' (some (.int r))) ([.ref (tb_ad g p)] : List Value).toArray s 0 0 (tb_A g)) (F0 m 75 ls []) := by
  have hx := F.1.1
  have hb := F.1.2.1
  intro n
  induction n with
  | zero =>
    intro x3 x4 M H locs ls hP hS hl h
    rw [fX2_meeting_L75] at h
    exact tb_none h
  | succ n ih =>
    intro x3 x4 M H locs ls hP hS hl h
    rw [fX2_meeting_L75] at h
    refine lv_iload hx hb dX2_meeting_75 (lv_at hl 2 rfl) ?_
    refine lv_aload_n hx hb dX2_meeting_77 rfl (lv_at hl 0 rfl) ?_
    refine tb_geti F hP hB.1 (ci := 2) rfl inlX2 8 (by decide) rfl kf_X2_36 dX2_meeting_78 ?_
    refine lv_icmp_ge (tgt := 166) hx hb dX2_meeting_81 (by decide) (fun c19 => ?_) (fun c19 => ?_)
    · have h := tb_ip c19 h
      refine lv_iload_n hx hb dX2_meeting_166 rfl (lv_at hl 1 rfl) ?_
      exact tb_iret h F hP hS dX2_meeting_167
    · have h := tb_ineg c19 h
      refine lv_iconst (v := 1) hx hb dX2_meeting_84 (by decide) ?_
      refine lv_aload_n hx hb dX2_meeting_85 rfl (lv_at hl 0 rfl) ?_
      refine tb_getr F hP hB.1 (ci := 2) rfl inlX2 4 (by decide) rfl kf_X2_24 dX2_meeting_86 ?_
      refine lv_iload hx hb dX2_meeting_89 (lv_at hl 2 rfl) ?_
      refine lv_iconst (v := 1) hx hb dX2_meeting_91 (by decide) ?_
      refine lv_isub hx hb dX2_meeting_92 ?_
      obtain ⟨k20, h⟩ := tb_cks h
      refine tb_iald F hP hB.2.2.2.2.2.1 rfl (tb_inv k20) dX2_meeting_93 ?_
      refine lv_ishl hx hb dX2_meeting_94 ?_
      refine lv_iconst (v := 1) hx hb dX2_meeting_95 (by decide) ?_
      refine lv_aload_n hx hb dX2_meeting_96 rfl (lv_at hl 0 rfl) ?_
      refine tb_getr F hP hB.1 (ci := 2) rfl inlX2 4 (by decide) rfl kf_X2_24 dX2_meeting_97 ?_
      refine lv_iload hx hb dX2_meeting_100 (lv_at hl 2 rfl) ?_
      obtain ⟨k21, h⟩ := tb_cks h
      refine tb_iald F hP hB.2.2.2.2.2.1 rfl (tb_inv k21) dX2_meeting_102 ?_
      refine lv_ishl hx hb dX2_meeting_103 ?_
      refine lv_ior hx hb dX2_meeting_104 ?_
      obtain ⟨v22, e23, h⟩ := tb_lets h
      refine tb_nmi e23 ?_
      refine lv_istore (lv' := [(5, .int v22), (0, .ref (tb_ad g p)), (3, .int x3), (4, .int x4)]) hx hb dX2_meeting_105 hl (by decide) rfl (fun ls hl => ?_)
      refine lv_aload_n hx hb dX2_meeting_107 rfl (lv_at hl 1 rfl) ?_
      refine tb_getr F hP hB.1 (ci := 2) rfl inlX2 6 (by decide) rfl kf_X2_30 dX2_meeting_108 ?_
      refine lv_aload_n hx hb dX2_meeting_111 rfl (lv_at hl 1 rfl) ?_
      refine tb_getr F hP hB.1 (ci := 2) rfl inlX2 4 (by decide) rfl kf_X2_24 dX2_meeting_112 ?_
      refine lv_iload hx hb dX2_meeting_115 (lv_at hl 3 rfl) ?_
      refine tb_iald F hP hB.2.2.2.2.2.1 rfl (tb_inv k21) dX2_meeting_117 ?_
      obtain ⟨k24, h⟩ := tb_cks h
      refine tb_iald F hP hB.2.2.2.2.2.2.2.1 rfl (tb_inv k24) dX2_meeting_118 ?_
      obtain ⟨v25, e26, h⟩ := tb_lets h
      refine tb_nmi e26 ?_
      refine lv_istore (lv' := [(6, .int v25), (5, .int v22), (0, .ref (tb_ad g p)), (3, .int x3), (4, .int x4)]) hx hb dX2_meeting_119 hl (by decide) rfl (fun ls hl => ?_)
      refine lv_iload hx hb dX2_meeting_121 (lv_at hl 0 rfl) ?_
      refine lv_if_le (tgt := 160) hx hb dX2_meeting_123 (by decide) (fun c27 => ?_) (fun c27 => ?_)
      · have h := tb_ip c27 h
        refine lv_iinc (v := (x4 + 1)) (lv' := [(4, .int (x4 + 1)), (6, .int v25), (5, .int v22), (0, .ref (tb_ad g p)), (3, .int x3)]) hx hb dX2_meeting_160 hl (k := 4) rfl rfl (by decide) rfl (fun ls hl => ?_)
        refine lv_goto (tgt := 75) hx hb dX2_meeting_163 (by decide) ?_
        exact ih x3 (x4 + 1) M _ _ _ hP hS (lv_sub hl [3, 4, 0] rfl) h
      · have h := tb_ineg c27 h
        refine lv_iload hx hb dX2_meeting_126 (lv_at hl 0 rfl) ?_
        refine lv_aload_n hx hb dX2_meeting_128 rfl (lv_at hl 2 rfl) ?_
        refine tb_getr F hP hB.1 (ci := 2) rfl inlX2 6 (by decide) rfl kf_X2_30 dX2_meeting_129 ?_
        refine lv_aload_n hx hb dX2_meeting_132 rfl (lv_at hl 2 rfl) ?_
        refine tb_getr F hP hB.1 (ci := 2) rfl inlX2 4 (by decide) rfl kf_X2_24 dX2_meeting_133 ?_
        refine lv_iload hx hb dX2_meeting_136 (lv_at hl 4 rfl) ?_
        refine lv_iconst (v := 1) hx hb dX2_meeting_138 (by decide) ?_
        refine lv_isub hx hb dX2_meeting_139 ?_
        refine tb_iald F hP hB.2.2.2.2.2.1 rfl (tb_inv k20) dX2_meeting_140 ?_
        obtain ⟨k28, h⟩ := tb_cks h
        refine tb_iald F hP hB.2.2.2.2.2.2.2.1 rfl (tb_inv k28) dX2_meeting_141 ?_
        refine lv_icmp_ne (tgt := 160) hx hb dX2_meeting_142 (by decide) (fun c29 => ?_) (fun c29 => ?_)
        · have h := tb_ineg c29 h
          refine lv_iinc (v := (x4 + 1)) (lv' := [(4, .int (x4 + 1)), (6, .int v25), (5, .int v22), (0, .ref (tb_ad g p)), (3, .int x3)]) hx hb dX2_meeting_160 hl (k := 4) rfl rfl (by decide) rfl (fun ls hl => ?_)
          refine lv_goto (tgt := 75) hx hb dX2_meeting_163 (by decide) ?_
          exact ih x3 (x4 + 1) M _ _ _ hP hS (lv_sub hl [3, 4, 0] rfl) h
        · have h := tb_ip c29 h
          refine lv_iload hx hb dX2_meeting_145 (lv_at hl 1 rfl) ?_
          refine lv_aload_n hx hb dX2_meeting_147 rfl (lv_at hl 2 rfl) ?_
          refine tb_geti F hP hB.1 (ci := 2) rfl inlX2 9 (by decide) rfl kf_X2_40 dX2_meeting_148 ?_
          refine lv_iand hx hb dX2_meeting_151 ?_
          refine lv_if_eq (tgt := 160) hx hb dX2_meeting_152 (by decide) (fun c30 => ?_) (fun c30 => ?_)
          · have h := tb_ip c30 h
            refine lv_iinc (v := (x4 + 1)) (lv' := [(4, .int (x4 + 1)), (6, .int v25), (5, .int v22), (0, .ref (tb_ad g p)), (3, .int x3)]) hx hb dX2_meeting_160 hl (k := 4) rfl rfl (by decide) rfl (fun ls hl => ?_)
            refine lv_goto (tgt := 75) hx hb dX2_meeting_163 (by decide) ?_
            exact ih x3 (x4 + 1) M _ _ _ hP hS (lv_sub hl [3, 4, 0] rfl) h
          · have h := tb_ineg c30 h
            refine lv_iload_n hx hb dX2_meeting_155 rfl (lv_at hl 3 rfl) ?_
            refine lv_iload hx hb dX2_meeting_156 (lv_at hl 1 rfl) ?_
            refine lv_ior hx hb dX2_meeting_158 ?_
            refine lv_istore_n (lv' := [(3, .int (x3 ||| v22)), (6, .int v25), (5, .int v22), (0, .ref (tb_ad g p)), (4, .int x4)]) hx hb dX2_meeting_159 rfl hl (by decide) rfl (fun ls hl => ?_)
            refine lv_iinc (v := (x4 + 1)) (lv' := [(4, .int (x4 + 1)), (3, .int (x3 ||| v22)), (6, .int v25), (5, .int v22), (0, .ref (tb_ad g p))]) hx hb dX2_meeting_160 hl (k := 4) rfl rfl (by decide) rfl (fun ls hl => ?_)
            refine lv_goto (tgt := 75) hx hb dX2_meeting_163 (by decide) ?_
            exact ih (x3 ||| v22) (x4 + 1) M _ _ _ hP hS (lv_sub hl [4, 1, 0] rfl) h
set_option maxHeartbeats 4000000 in
set_option maxRecDepth 100000 in
theorem tX2_meeting_L4 {g : tb_GT} {l : Launch} {P : Program} {e : Env} {s : State} {m : MethodId} {below : List Frame} {meth : Method} {c : Code} (p : Nat) (hB : tb_B p) {M' : tb_Mem} {r : Int32} (F : tb_F g cX2_meeting 7 RX2 (some .int) (Cond.code yX2_meeting cX2_meeting 7 (some .int)) P s m ([.ref (tb_ad g p)] : List Value).toArray meth c) :
    ∀ (n : Nat) (x1 : Int32) (x2 : Int32) (M : tb_Mem) (H : Heap) (locs : List Loc) (ls : Array Slot), tb_P g M H → va_S (tb_A g) s.heap H locs → lv_has ls 7 [(0, .ref (tb_ad g p)), (1, .int x1), (2, .int x2)] → fX2_meeting_L4 p n x1 x2 M = some (r, M') → W P l e rmX2_meeting s m ([.ref (tb_ad g p)] : List Value).toArray below meth c H locs 0 0 (MQ below (tb_Q g M' (some (.int r))) ([.ref (tb_ad g p)] : List Value).toArray s 0 0 (tb_A g)) (F0 m 4 ls []) := by
  have hx := F.1.1
  have hb := F.1.2.1
  intro n
  induction n with
  | zero =>
    intro x1 x2 M H locs ls hP hS hl h
    rw [fX2_meeting_L4] at h
    exact tb_none h
  | succ n ih =>
    intro x1 x2 M H locs ls hP hS hl h
    rw [fX2_meeting_L4] at h
    refine lv_iload_n hx hb dX2_meeting_4 rfl (lv_at hl 2 rfl) ?_
    refine lv_aload_n hx hb dX2_meeting_5 rfl (lv_at hl 0 rfl) ?_
    refine tb_geti F hP hB.1 (ci := 2) rfl inlX2 8 (by decide) rfl kf_X2_36 dX2_meeting_6 ?_
    refine lv_icmp_ge (tgt := 39) hx hb dX2_meeting_9 (by decide) (fun c1 => ?_) (fun c1 => ?_)
    · have h := tb_ip c1 h
      refine lv_iload_n hx hb dX2_meeting_39 rfl (lv_at hl 1 rfl) ?_
      refine lv_aload_n hx hb dX2_meeting_40 rfl (lv_at hl 0 rfl) ?_
      refine tb_geti F hP hB.1 (ci := 2) rfl inlX2 9 (by decide) rfl kf_X2_40 dX2_meeting_41 ?_
      refine lv_iand hx hb dX2_meeting_44 ?_
      refine lv_if_eq (tgt := 60) hx hb dX2_meeting_45 (by decide) (fun c2 => ?_) (fun c2 => ?_)
      · have h := tb_ip c2 h
        refine lv_iconst (v := 0) hx hb dX2_meeting_60 (by decide) ?_
        refine lv_istore_n (lv' := [(2, .int 0), (0, .ref (tb_ad g p)), (1, .int x1)]) hx hb dX2_meeting_61 rfl hl (by decide) rfl (fun ls hl => ?_)
        refine lv_iload_n hx hb dX2_meeting_62 rfl (lv_at hl 0 rfl) ?_
        refine tb_mrg (g2 := F0 m 71 ls [.int ((if (0 : Int32) = 0 then 0 else x1) : Int32)]) (fun hJ => ?_) ?_
        · refine lv_if_eq (tgt := 70) hx hb dX2_meeting_63 (by decide) (fun c3 => ?_) (fun c3 => ?_)
          · refine lv_iconst (v := 0) hx hb dX2_meeting_70 (by decide) ?_
            rw [if_pos c3] at hJ
            exact hJ
          · refine lv_iload_n hx hb dX2_meeting_66 rfl (lv_at hl 2 rfl) ?_
            refine lv_goto (tgt := 71) hx hb dX2_meeting_67 (by decide) ?_
            rw [if_neg c3] at hJ
            exact hJ
        obtain ⟨v4, e5, h⟩ := tb_lets h
        refine tb_nmi e5 ?_
        refine lv_istore_n (lv' := [(3, .int v4), (2, .int 0), (0, .ref (tb_ad g p)), (1, .int x1)]) hx hb dX2_meeting_71 rfl hl (by decide) rfl (fun ls hl => ?_)
        refine lv_iconst (v := 1) hx hb dX2_meeting_72 (by decide) ?_
        refine lv_istore (lv' := [(4, .int 1), (3, .int v4), (2, .int 0), (0, .ref (tb_ad g p)), (1, .int x1)]) hx hb dX2_meeting_73 hl (by decide) rfl (fun ls hl => ?_)
        exact tX2_meeting_L75 p hB F tb_N v4 1 M _ _ _ hP hS (lv_sub hl [3, 1, 0] rfl) h
      · have h := tb_ineg c2 h
        refine lv_iload_n hx hb dX2_meeting_48 rfl (lv_at hl 1 rfl) ?_
        obtain ⟨r8, M6, e7, h⟩ := tb_b2s h
        refine tb_callS F hP hS hl.1 kJ6_bitCount_0f7a4 km_X2_105 (as := [.int x1]) (tJ6_bitCount_0f7a4 g l x1 M M6 r8 e7) ⟨rfl, rfl, Nat.le_of_ble_eq_true rfl, Nat.le_of_ble_eq_true rfl⟩ rfl (rest := []) rfl (st1 := [.int r8]) rfl (Nat.le_of_ble_eq_true rfl) ⟨Nat.zero_le _, Nat.zero_le _⟩ dX2_meeting_49 (fun H locs hP hS => ?_)
        refine lv_iconst (v := 1) hx hb dX2_meeting_52 (by decide) ?_
        refine tb_mrg (g2 := F0 m 61 ls [.int ((if r8 ≤ 1 then 0 else 1) : Int32)]) (fun hJ => ?_) ?_
        · refine lv_icmp_le (tgt := 60) hx hb dX2_meeting_53 (by decide) (fun c9 => ?_) (fun c9 => ?_)
          · refine lv_iconst (v := 0) hx hb dX2_meeting_60 (by decide) ?_
            rw [if_pos c9] at hJ
            exact hJ
          · refine lv_iconst (v := 1) hx hb dX2_meeting_56 (by decide) ?_
            refine lv_goto (tgt := 61) hx hb dX2_meeting_57 (by decide) ?_
            rw [if_neg c9] at hJ
            exact hJ
        obtain ⟨v10, e11, h⟩ := tb_lets h
        refine tb_nmi e11 ?_
        refine lv_istore_n (lv' := [(2, .int v10), (0, .ref (tb_ad g p)), (1, .int x1)]) hx hb dX2_meeting_61 rfl hl (by decide) rfl (fun ls hl => ?_)
        refine lv_iload_n hx hb dX2_meeting_62 rfl (lv_at hl 0 rfl) ?_
        refine tb_mrg (g2 := F0 m 71 ls [.int ((if v10 = 0 then 0 else x1) : Int32)]) (fun hJ => ?_) ?_
        · refine lv_if_eq (tgt := 70) hx hb dX2_meeting_63 (by decide) (fun c12 => ?_) (fun c12 => ?_)
          · refine lv_iconst (v := 0) hx hb dX2_meeting_70 (by decide) ?_
            rw [if_pos c12] at hJ
            exact hJ
          · refine lv_iload_n hx hb dX2_meeting_66 rfl (lv_at hl 2 rfl) ?_
            refine lv_goto (tgt := 71) hx hb dX2_meeting_67 (by decide) ?_
            rw [if_neg c12] at hJ
            exact hJ
        obtain ⟨v13, e14, h⟩ := tb_lets h
        refine tb_nmi e14 ?_
        refine lv_istore_n (lv' := [(3, .int v13), (2, .int v10), (0, .ref (tb_ad g p)), (1, .int x1)]) hx hb dX2_meeting_71 rfl hl (by decide) rfl (fun ls hl => ?_)
        refine lv_iconst (v := 1) hx hb dX2_meeting_72 (by decide) ?_
        refine lv_istore (lv' := [(4, .int 1), (3, .int v13), (2, .int v10), (0, .ref (tb_ad g p)), (1, .int x1)]) hx hb dX2_meeting_73 hl (by decide) rfl (fun ls hl => ?_)
        exact tX2_meeting_L75 p hB F tb_N v13 1 M6 _ _ _ hP hS (lv_sub hl [3, 1, 0] rfl) h
    · have h := tb_ineg c1 h
      refine lv_aload_n hx hb dX2_meeting_12 rfl (lv_at hl 0 rfl) ?_
      refine tb_getr F hP hB.1 (ci := 2) rfl inlX2 6 (by decide) rfl kf_X2_30 dX2_meeting_13 ?_
      refine lv_iload_n hx hb dX2_meeting_16 rfl (lv_at hl 2 rfl) ?_
      obtain ⟨k15, h⟩ := tb_cks h
      refine tb_iald F hP hB.2.2.2.2.2.2.2.1 rfl (tb_inv k15) dX2_meeting_17 ?_
      refine lv_aload_n hx hb dX2_meeting_18 rfl (lv_at hl 0 rfl) ?_
      refine tb_getr F hP hB.1 (ci := 2) rfl inlX2 2 (by decide) rfl kf_X2_18 dX2_meeting_19 ?_
      refine lv_iload_n hx hb dX2_meeting_22 rfl (lv_at hl 2 rfl) ?_
      refine tb_iald F hP hB.2.2.2.1 rfl (tb_inv k15) dX2_meeting_23 ?_
      refine lv_icmp_ne (tgt := 33) hx hb dX2_meeting_24 (by decide) (fun c16 => ?_) (fun c16 => ?_)
      · have h := tb_ineg c16 h
        refine lv_iinc (v := (x2 + 1)) (lv' := [(2, .int (x2 + 1)), (0, .ref (tb_ad g p)), (1, .int x1)]) hx hb dX2_meeting_33 hl (k := 2) rfl rfl (by decide) rfl (fun ls hl => ?_)
        refine lv_goto (tgt := 4) hx hb dX2_meeting_36 (by decide) ?_
        exact ih x1 (x2 + 1) M _ _ _ hP hS (lv_sub hl [1, 2, 0] rfl) h
      · have h := tb_ip c16 h
        refine lv_iload_n hx hb dX2_meeting_27 rfl (lv_at hl 1 rfl) ?_
        refine lv_iconst (v := 1) hx hb dX2_meeting_28 (by decide) ?_
        refine lv_iload_n hx hb dX2_meeting_29 rfl (lv_at hl 2 rfl) ?_
        refine lv_ishl hx hb dX2_meeting_30 ?_
        refine lv_ior hx hb dX2_meeting_31 ?_
        obtain ⟨v17, e18, h⟩ := tb_lets h
        refine tb_nmi e18 ?_
        refine lv_istore_n (lv' := [(1, .int v17), (0, .ref (tb_ad g p)), (2, .int x2)]) hx hb dX2_meeting_32 rfl hl (by decide) rfl (fun ls hl => ?_)
        refine lv_iinc (v := (x2 + 1)) (lv' := [(2, .int (x2 + 1)), (1, .int v17), (0, .ref (tb_ad g p))]) hx hb dX2_meeting_33 hl (k := 2) rfl rfl (by decide) rfl (fun ls hl => ?_)
        refine lv_goto (tgt := 4) hx hb dX2_meeting_36 (by decide) ?_
        exact ih v17 (x2 + 1) M _ _ _ hP hS (lv_sub hl [2, 1, 0] rfl) h
set_option maxHeartbeats 4000000 in
set_option maxRecDepth 100000 in
theorem tX2_meeting (g : tb_GT) (l : Launch) (p : Nat) (hB : tb_B p) (M M' : tb_Mem) (r : Int32) (h : fX2_meeting p M = some (r, M')) : tb_C g l yX2_meeting (Cond.code yX2_meeting cX2_meeting 7 (some .int)) rmX2_meeting [.ref (tb_ad g p)] M M' (some (.int r)) := by
  refine tb_entry (by decide) (Nat.le_of_ble_eq_true rfl) ?_
  intro P e s m below meth c F hP hS ls hl
  have F : tb_F g cX2_meeting 7 RX2 (some .int) (Cond.code yX2_meeting cX2_meeting 7 (some .int)) P s m ([.ref (tb_ad g p)] : List Value).toArray meth c := F
  have hx := F.1.1
  have hb := F.1.2.1
  have hl : lv_has ls 7 [(0, .ref (tb_ad g p))] := hl
  unfold fX2_meeting at h
  refine lv_iconst (v := 0) hx hb dX2_meeting_0 (by decide) ?_
  refine lv_istore_n (lv' := [(1, .int 0), (0, .ref (tb_ad g p))]) hx hb dX2_meeting_1 rfl hl (by decide) rfl (fun ls hl => ?_)
  refine lv_iconst (v := 0) hx hb dX2_meeting_2 (by decide) ?_
  refine lv_istore_n (lv' := [(2, .int 0), (1, .int 0), (0, .ref (tb_ad g p))]) hx hb dX2_meeting_3 rfl hl (by decide) rfl (fun ls hl => ?_)
  exact tX2_meeting_L4 p hB F tb_N 0 0 M _ _ _ hP hS (lv_sub hl [2, 1, 0] rfl) h
def fX2_strike (p : Nat) (a1 : Int32) (M : tb_Mem) : Option (tb_Mem) :=
  if (M p 11) < 20 then (tb_ck (tb_in a1 8) (if (M (p + 1) a1.toNatClampNeg) = 5 then (if (M (p + 1) a1.toNatClampNeg) = 4 then (some M) else (tb_let (tb_up M p 11 ((M p 11) + 1)) (fun M5 => some M5))) else (tb_ck (tb_in (M p 11) 20) (tb_let (tb_up M (p + 8) ((M p 11).toNatClampNeg) (a1 + 1)) (fun M8 => if (M8 (p + 1) a1.toNatClampNeg) = 4 then (some M8) else (tb_let (tb_up M8 p 11 ((M8 p 11) + 1)) (fun M11 => some M11))))))) else (some M)
abbrev rmX2_strike : Room := { frames := 0, cells := 0, slots := 0, locals := 0 }
set_option maxHeartbeats 4000000 in
set_option maxRecDepth 100000 in
theorem tX2_strike (g : tb_GT) (l : Launch) (p : Nat) (hB : tb_B p) (a1 : Int32) (M M' : tb_Mem) (h : fX2_strike p a1 M = some M') : tb_C g l yX2_strike (Cond.code yX2_strike cX2_strike 2 none) rmX2_strike [.ref (tb_ad g p), .int a1] M M' none := by
  refine tb_entry (by decide) (Nat.le_of_ble_eq_true rfl) ?_
  intro P e s m below meth c F hP hS ls hl
  have F : tb_F g cX2_strike 2 RX2 none (Cond.code yX2_strike cX2_strike 2 none) P s m ([.ref (tb_ad g p), .int a1] : List Value).toArray meth c := F
  have hx := F.1.1
  have hb := F.1.2.1
  have hl : lv_has ls 2 [(0, .ref (tb_ad g p)), (1, .int a1)] := hl
  unfold fX2_strike at h
  refine lv_aload_n hx hb dX2_strike_0 rfl (lv_at hl 0 rfl) ?_
  refine tb_geti F hP hB.1 (ci := 2) rfl inlX2 11 (by decide) rfl kf_X2_62 dX2_strike_1 ?_
  refine lv_bipush (v := 20) hx hb dX2_strike_4 (by decide) ?_
  refine lv_icmp_lt (tgt := 10) hx hb dX2_strike_6 (by decide) (fun c1 => ?_) (fun c1 => ?_)
  · have h := tb_ip c1 h
    refine lv_aload_n hx hb dX2_strike_10 rfl (lv_at hl 0 rfl) ?_
    refine tb_getr F hP hB.1 (ci := 2) rfl inlX2 0 (by decide) rfl kf_X2_9 dX2_strike_11 ?_
    refine lv_iload_n hx hb dX2_strike_14 rfl (lv_at hl 1 rfl) ?_
    obtain ⟨k2, h⟩ := tb_cks h
    refine tb_iald F hP hB.2.1 rfl (tb_inv k2) dX2_strike_15 ?_
    refine lv_iconst (v := 5) hx hb dX2_strike_16 (by decide) ?_
    refine lv_icmp_eq (tgt := 32) hx hb dX2_strike_17 (by decide) (fun c3 => ?_) (fun c3 => ?_)
    · have h := tb_ip c3 h
      refine lv_aload_n hx hb dX2_strike_32 rfl (lv_at hl 0 rfl) ?_
      refine tb_getr F hP hB.1 (ci := 2) rfl inlX2 0 (by decide) rfl kf_X2_9 dX2_strike_33 ?_
      refine lv_iload_n hx hb dX2_strike_36 rfl (lv_at hl 1 rfl) ?_
      refine tb_iald F hP hB.2.1 rfl (tb_inv k2) dX2_strike_37 ?_
      refine lv_iconst (v := 4) hx hb dX2_strike_38 (by decide) ?_
      refine lv_icmp_eq (tgt := 52) hx hb dX2_strike_39 (by decide) (fun c4 => ?_) (fun c4 => ?_)
      · have h := tb_ip c4 h
        exact tb_vret h F hP hS dX2_strike_52
      · have h := tb_ineg c4 h
        refine lv_aload_n hx hb dX2_strike_42 rfl (lv_at hl 0 rfl) ?_
        refine lv_dup hx hb dX2_strike_43 rfl ?_
        refine tb_geti F hP hB.1 (ci := 2) rfl inlX2 11 (by decide) rfl kf_X2_62 dX2_strike_44 ?_
        refine lv_iconst (v := 1) hx hb dX2_strike_47 (by decide) ?_
        refine lv_iadd hx hb dX2_strike_48 ?_
        obtain ⟨M5, e6, h⟩ := tb_lets h
        refine tb_puti F hP hS hB.1 (ci := 2) rfl inlX2 tyX2 tyX2_ok nmX2 11 (by decide) rfl rfl rfl rfl kf_X2_62 dX2_strike_49 (fun H locs hP hS => ?_)
        rw [← e6] at hP
        exact tb_vret h F hP hS dX2_strike_52
    · have h := tb_ineg c3 h
      refine lv_aload_n hx hb dX2_strike_20 rfl (lv_at hl 0 rfl) ?_
      refine tb_getr F hP hB.1 (ci := 2) rfl inlX2 7 (by decide) rfl kf_X2_33 dX2_strike_21 ?_
      refine lv_aload_n hx hb dX2_strike_24 rfl (lv_at hl 0 rfl) ?_
      refine tb_geti F hP hB.1 (ci := 2) rfl inlX2 11 (by decide) rfl kf_X2_62 dX2_strike_25 ?_
      refine lv_iload_n hx hb dX2_strike_28 rfl (lv_at hl 1 rfl) ?_
      refine lv_iconst (v := 1) hx hb dX2_strike_29 (by decide) ?_
      refine lv_iadd hx hb dX2_strike_30 ?_
      obtain ⟨k7, h⟩ := tb_cks h
      obtain ⟨M8, e9, h⟩ := tb_lets h
      refine tb_iast F hP hS hB.2.2.2.2.2.2.2.2 rfl (tb_inv k7) dX2_strike_31 (fun H locs hP hS => ?_)
      rw [← e9] at hP
      refine lv_aload_n hx hb dX2_strike_32 rfl (lv_at hl 0 rfl) ?_
      refine tb_getr F hP hB.1 (ci := 2) rfl inlX2 0 (by decide) rfl kf_X2_9 dX2_strike_33 ?_
      refine lv_iload_n hx hb dX2_strike_36 rfl (lv_at hl 1 rfl) ?_
      refine tb_iald F hP hB.2.1 rfl (tb_inv k2) dX2_strike_37 ?_
      refine lv_iconst (v := 4) hx hb dX2_strike_38 (by decide) ?_
      refine lv_icmp_eq (tgt := 52) hx hb dX2_strike_39 (by decide) (fun c10 => ?_) (fun c10 => ?_)
      · have h := tb_ip c10 h
        exact tb_vret h F hP hS dX2_strike_52
      · have h := tb_ineg c10 h
        refine lv_aload_n hx hb dX2_strike_42 rfl (lv_at hl 0 rfl) ?_
        refine lv_dup hx hb dX2_strike_43 rfl ?_
        refine tb_geti F hP hB.1 (ci := 2) rfl inlX2 11 (by decide) rfl kf_X2_62 dX2_strike_44 ?_
        refine lv_iconst (v := 1) hx hb dX2_strike_47 (by decide) ?_
        refine lv_iadd hx hb dX2_strike_48 ?_
        obtain ⟨M11, e12, h⟩ := tb_lets h
        refine tb_puti F hP hS hB.1 (ci := 2) rfl inlX2 tyX2 tyX2_ok nmX2 11 (by decide) rfl rfl rfl rfl kf_X2_62 dX2_strike_49 (fun H locs hP hS => ?_)
        rw [← e12] at hP
        exact tb_vret h F hP hS dX2_strike_52
  · have h := tb_ineg c1 h
    exact tb_vret h F hP hS dX2_strike_9
def fX2_print_L4 (p : Nat) : Nat → Int32 → Int32 → tb_Mem → Option (Int32 × tb_Mem)
  | 0, _, _, _ => none
  | n + 1, x1, x2, M => if (M p 8) ≤ x2 then (some (x1, M)) else (tb_b2 (fX2_moves p x2 M) (fun r4 M2 => if r4 = 0 then (fX2_print_L4 p n x1 (x2 + 1) M2) else (tb_ck (tb_in x2 8) (if (M2 (p + 7) x2.toNatClampNeg) = (M2 (p + 3) x2.toNatClampNeg) then (tb_b1 (fX2_strike p x2 M2) (fun M8 => fX2_print_L4 p n (x1 + 1) (x2 + 1) M8)) else (fX2_print_L4 p n x1 (x2 + 1) M2)))))
def fX2_print (p : Nat) (M : tb_Mem) : Option (Int32 × tb_Mem) :=
  fX2_print_L4 p tb_N 0 0 M
abbrev rmX2_print : Room := { frames := 1, cells := 0, slots := 0, locals := 21 }
set_option maxHeartbeats 4000000 in
set_option maxRecDepth 100000 in
theorem tX2_print_L4 {g : tb_GT} {l : Launch} {P : Program} {e : Env} {s : State} {m : MethodId} {below : List Frame} {meth : Method} {c : Code} (p : Nat) (hB : tb_B p) {M' : tb_Mem} {r : Int32} (F : tb_F g cX2_print 3 RX2 (some .int) (Cond.code yX2_print cX2_print 3 (some .int)) P s m ([.ref (tb_ad g p)] : List Value).toArray meth c) :
    ∀ (n : Nat) (x1 : Int32) (x2 : Int32) (M : tb_Mem) (H : Heap) (locs : List Loc) (ls : Array Slot), tb_P g M H → va_S (tb_A g) s.heap H locs → lv_has ls 3 [(0, .ref (tb_ad g p)), (1, .int x1), (2, .int x2)] → fX2_print_L4 p n x1 x2 M = some (r, M') → W P l e rmX2_print s m ([.ref (tb_ad g p)] : List Value).toArray below meth c H locs 0 0 (MQ below (tb_Q g M' (some (.int r))) ([.ref (tb_ad g p)] : List Value).toArray s 0 0 (tb_A g)) (F0 m 4 ls []) := by
  have hx := F.1.1
  have hb := F.1.2.1
  intro n
  induction n with
  | zero =>
    intro x1 x2 M H locs ls hP hS hl h
    rw [fX2_print_L4] at h
    exact tb_none h
  | succ n ih =>
    intro x1 x2 M H locs ls hP hS hl h
    rw [fX2_print_L4] at h
    refine lv_iload_n hx hb dX2_print_4 rfl (lv_at hl 2 rfl) ?_
    refine lv_aload_n hx hb dX2_print_5 rfl (lv_at hl 0 rfl) ?_
    refine tb_geti F hP hB.1 (ci := 2) rfl inlX2 8 (by decide) rfl kf_X2_36 dX2_print_6 ?_
    refine lv_icmp_ge (tgt := 49) hx hb dX2_print_9 (by decide) (fun c1 => ?_) (fun c1 => ?_)
    · have h := tb_ip c1 h
      refine lv_iload_n hx hb dX2_print_49 rfl (lv_at hl 1 rfl) ?_
      exact tb_iret h F hP hS dX2_print_50
    · have h := tb_ineg c1 h
      refine lv_aload_n hx hb dX2_print_12 rfl (lv_at hl 0 rfl) ?_
      refine lv_iload_n hx hb dX2_print_13 rfl (lv_at hl 2 rfl) ?_
      obtain ⟨r4, M2, e3, h⟩ := tb_b2s h
      refine tb_callV F hP hS hl.1 kX2_moves km_X2_92 (as := [.int x2]) (tX2_moves g l p hB x2 M M2 r4 e3) hB.1 ⟨rfl, rfl, Nat.le_of_ble_eq_true rfl, Nat.le_of_ble_eq_true rfl⟩ rfl (rest := []) rfl (st1 := [.int r4]) rfl (Nat.le_of_ble_eq_true rfl) ⟨Nat.zero_le _, Nat.zero_le _⟩ dX2_print_14 (fun H locs hP hS => ?_)
      refine lv_if_eq (tgt := 43) hx hb dX2_print_17 (by decide) (fun c5 => ?_) (fun c5 => ?_)
      · have h := tb_ip c5 h
        refine lv_iinc (v := (x2 + 1)) (lv' := [(2, .int (x2 + 1)), (0, .ref (tb_ad g p)), (1, .int x1)]) hx hb dX2_print_43 hl (k := 2) rfl rfl (by decide) rfl (fun ls hl => ?_)
        refine lv_goto (tgt := 4) hx hb dX2_print_46 (by decide) ?_
        exact ih x1 (x2 + 1) M2 _ _ _ hP hS (lv_sub hl [1, 2, 0] rfl) h
      · have h := tb_ineg c5 h
        refine lv_aload_n hx hb dX2_print_20 rfl (lv_at hl 0 rfl) ?_
        refine tb_getr F hP hB.1 (ci := 2) rfl inlX2 6 (by decide) rfl kf_X2_30 dX2_print_21 ?_
        refine lv_iload_n hx hb dX2_print_24 rfl (lv_at hl 2 rfl) ?_
        obtain ⟨k6, h⟩ := tb_cks h
        refine tb_iald F hP hB.2.2.2.2.2.2.2.1 rfl (tb_inv k6) dX2_print_25 ?_
        refine lv_aload_n hx hb dX2_print_26 rfl (lv_at hl 0 rfl) ?_
        refine tb_getr F hP hB.1 (ci := 2) rfl inlX2 2 (by decide) rfl kf_X2_18 dX2_print_27 ?_
        refine lv_iload_n hx hb dX2_print_30 rfl (lv_at hl 2 rfl) ?_
        refine tb_iald F hP hB.2.2.2.1 rfl (tb_inv k6) dX2_print_31 ?_
        refine lv_icmp_ne (tgt := 43) hx hb dX2_print_32 (by decide) (fun c7 => ?_) (fun c7 => ?_)
        · have h := tb_ineg c7 h
          refine lv_iinc (v := (x2 + 1)) (lv' := [(2, .int (x2 + 1)), (0, .ref (tb_ad g p)), (1, .int x1)]) hx hb dX2_print_43 hl (k := 2) rfl rfl (by decide) rfl (fun ls hl => ?_)
          refine lv_goto (tgt := 4) hx hb dX2_print_46 (by decide) ?_
          exact ih x1 (x2 + 1) M2 _ _ _ hP hS (lv_sub hl [1, 2, 0] rfl) h
        · have h := tb_ip c7 h
          refine lv_iinc (v := (x1 + 1)) (lv' := [(1, .int (x1 + 1)), (0, .ref (tb_ad g p)), (2, .int x2)]) hx hb dX2_print_35 hl (k := 1) rfl rfl (by decide) rfl (fun ls hl => ?_)
          refine lv_aload_n hx hb dX2_print_38 rfl (lv_at hl 1 rfl) ?_
          refine lv_iload_n hx hb dX2_print_39 rfl (lv_at hl 2 rfl) ?_
          obtain ⟨M8, e9, h⟩ := tb_b1s h
          refine tb_callV F hP hS hl.1 kX2_strike km_X2_110 (as := [.int x2]) (tX2_strike g l p hB x2 M2 M8 e9) hB.1 ⟨rfl, rfl, Nat.le_of_ble_eq_true rfl, Nat.le_of_ble_eq_true rfl⟩ rfl (rest := []) rfl (st1 := []) rfl (Nat.le_of_ble_eq_true rfl) ⟨Nat.zero_le _, Nat.zero_le _⟩ dX2_print_40 (fun H locs hP hS => ?_)
          refine lv_iinc (v := (x2 + 1)) (lv' := [(2, .int (x2 + 1)), (1, .int (x1 + 1)), (0, .ref (tb_ad g p))]) hx hb dX2_print_43 hl (k := 2) rfl rfl (by decide) rfl (fun ls hl => ?_)
          refine lv_goto (tgt := 4) hx hb dX2_print_46 (by decide) ?_
          exact ih (x1 + 1) (x2 + 1) M8 _ _ _ hP hS (lv_sub hl [2, 1, 0] rfl) h
set_option maxHeartbeats 4000000 in
set_option maxRecDepth 100000 in
theorem tX2_print (g : tb_GT) (l : Launch) (p : Nat) (hB : tb_B p) (M M' : tb_Mem) (r : Int32) (h : fX2_print p M = some (r, M')) : tb_C g l yX2_print (Cond.code yX2_print cX2_print 3 (some .int)) rmX2_print [.ref (tb_ad g p)] M M' (some (.int r)) := by
  refine tb_entry (by decide) (Nat.le_of_ble_eq_true rfl) ?_
  intro P e s m below meth c F hP hS ls hl
  have F : tb_F g cX2_print 3 RX2 (some .int) (Cond.code yX2_print cX2_print 3 (some .int)) P s m ([.ref (tb_ad g p)] : List Value).toArray meth c := F
  have hx := F.1.1
  have hb := F.1.2.1
  have hl : lv_has ls 3 [(0, .ref (tb_ad g p))] := hl
  unfold fX2_print at h
  refine lv_iconst (v := 0) hx hb dX2_print_0 (by decide) ?_
  refine lv_istore_n (lv' := [(1, .int 0), (0, .ref (tb_ad g p))]) hx hb dX2_print_1 rfl hl (by decide) rfl (fun ls hl => ?_)
  refine lv_iconst (v := 0) hx hb dX2_print_2 (by decide) ?_
  refine lv_istore_n (lv' := [(2, .int 0), (1, .int 0), (0, .ref (tb_ad g p))]) hx hb dX2_print_3 rfl hl (by decide) rfl (fun ls hl => ?_)
  exact tX2_print_L4 p hB F tb_N 0 0 M _ _ _ hP hS (lv_sub hl [2, 1, 0] rfl) h
def fX2_pass (p : Nat) (M : tb_Mem) : Option (Int32 × tb_Mem) :=
  tb_b1 (fX2_riseAndFall p M) (fun M1 => tb_b2 (fX2_meeting p M1) (fun r5 M3 => tb_let (tb_up M3 p 10 ((M3 p 10) ||| r5)) (fun M6 => tb_let (tb_up M6 p 9 ((M6 p 9) &&& (r5 ^^^ (-1)))) (fun M8 => tb_let (tb_up M8 p 12 ((M8 p 12) + 1)) (fun M10 => tb_b2 (fX2_print p M10) (fun r14 M12 => some (r14, M12)))))))
abbrev rmX2_pass : Room := { frames := 2, cells := 0, slots := 0, locals := 85 }
set_option maxHeartbeats 4000000 in
set_option maxRecDepth 100000 in
theorem tX2_pass (g : tb_GT) (l : Launch) (p : Nat) (hB : tb_B p) (M M' : tb_Mem) (r : Int32) (h : fX2_pass p M = some (r, M')) : tb_C g l yX2_pass (Cond.code yX2_pass cX2_pass 2 (some .int)) rmX2_pass [.ref (tb_ad g p)] M M' (some (.int r)) := by
  refine tb_entry (by decide) (Nat.le_of_ble_eq_true rfl) ?_
  intro P e s m below meth c F hP hS ls hl
  have F : tb_F g cX2_pass 2 RX2 (some .int) (Cond.code yX2_pass cX2_pass 2 (some .int)) P s m ([.ref (tb_ad g p)] : List Value).toArray meth c := F
  have hx := F.1.1
  have hb := F.1.2.1
  have hl : lv_has ls 2 [(0, .ref (tb_ad g p))] := hl
  unfold fX2_pass at h
  refine lv_aload_n hx hb dX2_pass_0 rfl (lv_at hl 0 rfl) ?_
  obtain ⟨M1, e2, h⟩ := tb_b1s h
  refine tb_callV F hP hS hl.1 kX2_riseAndFall km_X2_79 (as := []) (tX2_riseAndFall g l p hB M M1 e2) hB.1 ⟨rfl, rfl, Nat.le_of_ble_eq_true rfl, Nat.le_of_ble_eq_true rfl⟩ rfl (rest := []) rfl (st1 := []) rfl (Nat.le_of_ble_eq_true rfl) ⟨Nat.zero_le _, Nat.zero_le _⟩ dX2_pass_1 (fun H locs hP hS => ?_)
  refine lv_aload_n hx hb dX2_pass_4 rfl (lv_at hl 0 rfl) ?_
  obtain ⟨r5, M3, e4, h⟩ := tb_b2s h
  refine tb_callV F hP hS hl.1 kX2_meeting km_X2_82 (as := []) (tX2_meeting g l p hB M1 M3 r5 e4) hB.1 ⟨rfl, rfl, Nat.le_of_ble_eq_true rfl, Nat.le_of_ble_eq_true rfl⟩ rfl (rest := []) rfl (st1 := [.int r5]) rfl (Nat.le_of_ble_eq_true rfl) ⟨Nat.zero_le _, Nat.zero_le _⟩ dX2_pass_5 (fun H locs hP hS => ?_)
  refine lv_istore_n (lv' := [(1, .int r5), (0, .ref (tb_ad g p))]) hx hb dX2_pass_8 rfl hl (by decide) rfl (fun ls hl => ?_)
  refine lv_aload_n hx hb dX2_pass_9 rfl (lv_at hl 1 rfl) ?_
  refine lv_dup hx hb dX2_pass_10 rfl ?_
  refine tb_geti F hP hB.1 (ci := 2) rfl inlX2 10 (by decide) rfl kf_X2_43 dX2_pass_11 ?_
  refine lv_iload_n hx hb dX2_pass_14 rfl (lv_at hl 0 rfl) ?_
  refine lv_ior hx hb dX2_pass_15 ?_
  obtain ⟨M6, e7, h⟩ := tb_lets h
  refine tb_puti F hP hS hB.1 (ci := 2) rfl inlX2 tyX2 tyX2_ok nmX2 10 (by decide) rfl rfl rfl rfl kf_X2_43 dX2_pass_16 (fun H locs hP hS => ?_)
  rw [← e7] at hP
  refine lv_aload_n hx hb dX2_pass_19 rfl (lv_at hl 1 rfl) ?_
  refine lv_dup hx hb dX2_pass_20 rfl ?_
  refine tb_geti F hP hB.1 (ci := 2) rfl inlX2 9 (by decide) rfl kf_X2_40 dX2_pass_21 ?_
  refine lv_iload_n hx hb dX2_pass_24 rfl (lv_at hl 0 rfl) ?_
  refine lv_iconst (v := (-1)) hx hb dX2_pass_25 (by decide) ?_
  refine lv_ixor hx hb dX2_pass_26 ?_
  refine lv_iand hx hb dX2_pass_27 ?_
  obtain ⟨M8, e9, h⟩ := tb_lets h
  refine tb_puti F hP hS hB.1 (ci := 2) rfl inlX2 tyX2 tyX2_ok nmX2 9 (by decide) rfl rfl rfl rfl kf_X2_40 dX2_pass_28 (fun H locs hP hS => ?_)
  rw [← e9] at hP
  refine lv_aload_n hx hb dX2_pass_31 rfl (lv_at hl 1 rfl) ?_
  refine lv_dup hx hb dX2_pass_32 rfl ?_
  refine tb_geti F hP hB.1 (ci := 2) rfl inlX2 12 (by decide) rfl kf_X2_46 dX2_pass_33 ?_
  refine lv_iconst (v := 1) hx hb dX2_pass_36 (by decide) ?_
  refine lv_iadd hx hb dX2_pass_37 ?_
  obtain ⟨M10, e11, h⟩ := tb_lets h
  refine tb_puti F hP hS hB.1 (ci := 2) rfl inlX2 tyX2 tyX2_ok nmX2 12 (by decide) rfl rfl rfl rfl kf_X2_46 dX2_pass_38 (fun H locs hP hS => ?_)
  rw [← e11] at hP
  refine lv_aload_n hx hb dX2_pass_41 rfl (lv_at hl 1 rfl) ?_
  obtain ⟨r14, M12, e13, h⟩ := tb_b2s h
  refine tb_callV F hP hS hl.1 kX2_print km_X2_86 (as := []) (tX2_print g l p hB M10 M12 r14 e13) hB.1 ⟨rfl, rfl, Nat.le_of_ble_eq_true rfl, Nat.le_of_ble_eq_true rfl⟩ rfl (rest := []) rfl (st1 := [.int r14]) rfl (Nat.le_of_ble_eq_true rfl) ⟨Nat.zero_le _, Nat.zero_le _⟩ dX2_pass_42 (fun H locs hP hS => ?_)
  exact tb_iret h F hP hS dX2_pass_45
def fX2_foresee_L2 (p : Nat) : Nat → Int32 → Int32 → tb_Mem → Option (tb_Mem)
  | 0, _, _, _ => none
  | n + 1, x1, x2, M => if x1 ≤ x2 then (some M) else (if (M p 9) = 0 then (some M) else (tb_b2 (fX2_pass p M) (fun r5 M3 => fX2_foresee_L2 p n x1 (x2 + 1) M3)))
def fX2_foresee (p : Nat) (a1 : Int32) (M : tb_Mem) : Option (tb_Mem) :=
  fX2_foresee_L2 p tb_N a1 0 M
abbrev rmX2_foresee : Room := { frames := 3, cells := 0, slots := 0, locals := 106 }
set_option maxHeartbeats 4000000 in
set_option maxRecDepth 100000 in
theorem tX2_foresee_L2 {g : tb_GT} {l : Launch} {P : Program} {e : Env} {s : State} {m : MethodId} {below : List Frame} {meth : Method} {c : Code} (p : Nat) (hB : tb_B p) {a1 : Int32} {M' : tb_Mem} (F : tb_F g cX2_foresee 3 RX2 none (Cond.code yX2_foresee cX2_foresee 3 none) P s m ([.ref (tb_ad g p), .int a1] : List Value).toArray meth c) :
    ∀ (n : Nat) (x1 : Int32) (x2 : Int32) (M : tb_Mem) (H : Heap) (locs : List Loc) (ls : Array Slot), tb_P g M H → va_S (tb_A g) s.heap H locs → lv_has ls 3 [(0, .ref (tb_ad g p)), (1, .int x1), (2, .int x2)] → fX2_foresee_L2 p n x1 x2 M = some M' → W P l e rmX2_foresee s m ([.ref (tb_ad g p), .int a1] : List Value).toArray below meth c H locs 0 0 (MQ below (tb_Q g M' none) ([.ref (tb_ad g p), .int a1] : List Value).toArray s 0 0 (tb_A g)) (F0 m 2 ls []) := by
  have hx := F.1.1
  have hb := F.1.2.1
  intro n
  induction n with
  | zero =>
    intro x1 x2 M H locs ls hP hS hl h
    rw [fX2_foresee_L2] at h
    exact tb_none h
  | succ n ih =>
    intro x1 x2 M H locs ls hP hS hl h
    rw [fX2_foresee_L2] at h
    refine lv_iload_n hx hb dX2_foresee_2 rfl (lv_at hl 2 rfl) ?_
    refine lv_iload_n hx hb dX2_foresee_3 rfl (lv_at hl 1 rfl) ?_
    refine lv_icmp_ge (tgt := 25) hx hb dX2_foresee_4 (by decide) (fun c1 => ?_) (fun c1 => ?_)
    · have h := tb_ip c1 h
      exact tb_vret h F hP hS dX2_foresee_25
    · have h := tb_ineg c1 h
      refine lv_aload_n hx hb dX2_foresee_7 rfl (lv_at hl 0 rfl) ?_
      refine tb_geti F hP hB.1 (ci := 2) rfl inlX2 9 (by decide) rfl kf_X2_40 dX2_foresee_8 ?_
      refine lv_if_eq (tgt := 25) hx hb dX2_foresee_11 (by decide) (fun c2 => ?_) (fun c2 => ?_)
      · have h := tb_ip c2 h
        exact tb_vret h F hP hS dX2_foresee_25
      · have h := tb_ineg c2 h
        refine lv_aload_n hx hb dX2_foresee_14 rfl (lv_at hl 0 rfl) ?_
        obtain ⟨r5, M3, e4, h⟩ := tb_b2s h
        refine tb_callV F hP hS hl.1 kX2_pass km_X2_89 (as := []) (tX2_pass g l p hB M M3 r5 e4) hB.1 ⟨rfl, rfl, Nat.le_of_ble_eq_true rfl, Nat.le_of_ble_eq_true rfl⟩ rfl (rest := []) rfl (st1 := [.int r5]) rfl (Nat.le_of_ble_eq_true rfl) ⟨Nat.zero_le _, Nat.zero_le _⟩ dX2_foresee_15 (fun H locs hP hS => ?_)
        refine lv_pop hx hb dX2_foresee_18 rfl ?_
        refine lv_iinc (v := (x2 + 1)) (lv' := [(2, .int (x2 + 1)), (0, .ref (tb_ad g p)), (1, .int x1)]) hx hb dX2_foresee_19 hl (k := 2) rfl rfl (by decide) rfl (fun ls hl => ?_)
        refine lv_goto (tgt := 2) hx hb dX2_foresee_22 (by decide) ?_
        exact ih x1 (x2 + 1) M3 _ _ _ hP hS (lv_sub hl [1, 2, 0] rfl) h
set_option maxHeartbeats 4000000 in
set_option maxRecDepth 100000 in
theorem tX2_foresee (g : tb_GT) (l : Launch) (p : Nat) (hB : tb_B p) (a1 : Int32) (M M' : tb_Mem) (h : fX2_foresee p a1 M = some M') : tb_C g l yX2_foresee (Cond.code yX2_foresee cX2_foresee 3 none) rmX2_foresee [.ref (tb_ad g p), .int a1] M M' none := by
  refine tb_entry (by decide) (Nat.le_of_ble_eq_true rfl) ?_
  intro P e s m below meth c F hP hS ls hl
  have F : tb_F g cX2_foresee 3 RX2 none (Cond.code yX2_foresee cX2_foresee 3 none) P s m ([.ref (tb_ad g p), .int a1] : List Value).toArray meth c := F
  have hx := F.1.1
  have hb := F.1.2.1
  have hl : lv_has ls 3 [(0, .ref (tb_ad g p)), (1, .int a1)] := hl
  unfold fX2_foresee at h
  refine lv_iconst (v := 0) hx hb dX2_foresee_0 (by decide) ?_
  refine lv_istore_n (lv' := [(2, .int 0), (0, .ref (tb_ad g p)), (1, .int a1)]) hx hb dX2_foresee_1 rfl hl (by decide) rfl (fun ls hl => ?_)
  exact tX2_foresee_L2 p hB F tb_N a1 0 M _ _ _ hP hS (lv_sub hl [1, 2, 0] rfl) h
def fX2_columnsPrinted_L4 (p : Nat) : Nat → Int32 → Int32 → tb_Mem → Option (Int32 × tb_Mem)
  | 0, _, _, _ => none
  | n + 1, x1, x2, M => if 20 ≤ x2 then (some (x1, M)) else (tb_ck (tb_in x2 20) (if (M (p + 8) x2.toNatClampNeg) = 0 then (fX2_columnsPrinted_L4 p n x1 (x2 + 1) M) else (fX2_columnsPrinted_L4 p n (x1 + 1) (x2 + 1) M)))
def fX2_columnsPrinted (p : Nat) (M : tb_Mem) : Option (Int32 × tb_Mem) :=
  fX2_columnsPrinted_L4 p tb_N 0 0 M
abbrev rmX2_columnsPrinted : Room := { frames := 0, cells := 0, slots := 0, locals := 0 }
set_option maxHeartbeats 4000000 in
set_option maxRecDepth 100000 in
theorem tX2_columnsPrinted_L4 {g : tb_GT} {l : Launch} {P : Program} {e : Env} {s : State} {m : MethodId} {below : List Frame} {meth : Method} {c : Code} (p : Nat) (hB : tb_B p) {M' : tb_Mem} {r : Int32} (F : tb_F g cX2_columnsPrinted 3 RX2 (some .int) (Cond.code yX2_columnsPrinted cX2_columnsPrinted 3 (some .int)) P s m ([.ref (tb_ad g p)] : List Value).toArray meth c) :
    ∀ (n : Nat) (x1 : Int32) (x2 : Int32) (M : tb_Mem) (H : Heap) (locs : List Loc) (ls : Array Slot), tb_P g M H → va_S (tb_A g) s.heap H locs → lv_has ls 3 [(0, .ref (tb_ad g p)), (1, .int x1), (2, .int x2)] → fX2_columnsPrinted_L4 p n x1 x2 M = some (r, M') → W P l e rmX2_columnsPrinted s m ([.ref (tb_ad g p)] : List Value).toArray below meth c H locs 0 0 (MQ below (tb_Q g M' (some (.int r))) ([.ref (tb_ad g p)] : List Value).toArray s 0 0 (tb_A g)) (F0 m 4 ls []) := by
  have hx := F.1.1
  have hb := F.1.2.1
  intro n
  induction n with
  | zero =>
    intro x1 x2 M H locs ls hP hS hl h
    rw [fX2_columnsPrinted_L4] at h
    exact tb_none h
  | succ n ih =>
    intro x1 x2 M H locs ls hP hS hl h
    rw [fX2_columnsPrinted_L4] at h
    refine lv_iload_n hx hb dX2_columnsPrinted_4 rfl (lv_at hl 2 rfl) ?_
    refine lv_bipush (v := 20) hx hb dX2_columnsPrinted_5 (by decide) ?_
    refine lv_icmp_ge (tgt := 28) hx hb dX2_columnsPrinted_7 (by decide) (fun c1 => ?_) (fun c1 => ?_)
    · have h := tb_ip c1 h
      refine lv_iload_n hx hb dX2_columnsPrinted_28 rfl (lv_at hl 1 rfl) ?_
      exact tb_iret h F hP hS dX2_columnsPrinted_29
    · have h := tb_ineg c1 h
      refine lv_aload_n hx hb dX2_columnsPrinted_10 rfl (lv_at hl 0 rfl) ?_
      refine tb_getr F hP hB.1 (ci := 2) rfl inlX2 7 (by decide) rfl kf_X2_33 dX2_columnsPrinted_11 ?_
      refine lv_iload_n hx hb dX2_columnsPrinted_14 rfl (lv_at hl 2 rfl) ?_
      obtain ⟨k2, h⟩ := tb_cks h
      refine tb_iald F hP hB.2.2.2.2.2.2.2.2 rfl (tb_inv k2) dX2_columnsPrinted_15 ?_
      refine lv_if_eq (tgt := 22) hx hb dX2_columnsPrinted_16 (by decide) (fun c3 => ?_) (fun c3 => ?_)
      · have h := tb_ip c3 h
        refine lv_iinc (v := (x2 + 1)) (lv' := [(2, .int (x2 + 1)), (0, .ref (tb_ad g p)), (1, .int x1)]) hx hb dX2_columnsPrinted_22 hl (k := 2) rfl rfl (by decide) rfl (fun ls hl => ?_)
        refine lv_goto (tgt := 4) hx hb dX2_columnsPrinted_25 (by decide) ?_
        exact ih x1 (x2 + 1) M _ _ _ hP hS (lv_sub hl [1, 2, 0] rfl) h
      · have h := tb_ineg c3 h
        refine lv_iinc (v := (x1 + 1)) (lv' := [(1, .int (x1 + 1)), (0, .ref (tb_ad g p)), (2, .int x2)]) hx hb dX2_columnsPrinted_19 hl (k := 1) rfl rfl (by decide) rfl (fun ls hl => ?_)
        refine lv_iinc (v := (x2 + 1)) (lv' := [(2, .int (x2 + 1)), (1, .int (x1 + 1)), (0, .ref (tb_ad g p))]) hx hb dX2_columnsPrinted_22 hl (k := 2) rfl rfl (by decide) rfl (fun ls hl => ?_)
        refine lv_goto (tgt := 4) hx hb dX2_columnsPrinted_25 (by decide) ?_
        exact ih (x1 + 1) (x2 + 1) M _ _ _ hP hS (lv_sub hl [2, 1, 0] rfl) h
set_option maxHeartbeats 4000000 in
set_option maxRecDepth 100000 in
theorem tX2_columnsPrinted (g : tb_GT) (l : Launch) (p : Nat) (hB : tb_B p) (M M' : tb_Mem) (r : Int32) (h : fX2_columnsPrinted p M = some (r, M')) : tb_C g l yX2_columnsPrinted (Cond.code yX2_columnsPrinted cX2_columnsPrinted 3 (some .int)) rmX2_columnsPrinted [.ref (tb_ad g p)] M M' (some (.int r)) := by
  refine tb_entry (by decide) (Nat.le_of_ble_eq_true rfl) ?_
  intro P e s m below meth c F hP hS ls hl
  have F : tb_F g cX2_columnsPrinted 3 RX2 (some .int) (Cond.code yX2_columnsPrinted cX2_columnsPrinted 3 (some .int)) P s m ([.ref (tb_ad g p)] : List Value).toArray meth c := F
  have hx := F.1.1
  have hb := F.1.2.1
  have hl : lv_has ls 3 [(0, .ref (tb_ad g p))] := hl
  unfold fX2_columnsPrinted at h
  refine lv_iconst (v := 0) hx hb dX2_columnsPrinted_0 (by decide) ?_
  refine lv_istore_n (lv' := [(1, .int 0), (0, .ref (tb_ad g p))]) hx hb dX2_columnsPrinted_1 rfl hl (by decide) rfl (fun ls hl => ?_)
  refine lv_iconst (v := 0) hx hb dX2_columnsPrinted_2 (by decide) ?_
  refine lv_istore_n (lv' := [(2, .int 0), (1, .int 0), (0, .ref (tb_ad g p))]) hx hb dX2_columnsPrinted_3 rfl hl (by decide) rfl (fun ls hl => ?_)
  exact tX2_columnsPrinted_L4 p hB F tb_N 0 0 M _ _ _ hP hS (lv_sub hl [2, 1, 0] rfl) h

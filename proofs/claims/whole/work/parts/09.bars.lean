def fX6_isRow (a0 : Int32) (M : tb_Mem) : Option (Int32 × tb_Mem) :=
  tb_b2 (fX6_within a0 0 7 M) (fun r3 M1 => tb_ck (tb_bl r3) (some (r3, M1)))
abbrev rmX6_isRow : Room := { frames := 1, cells := 0, slots := 0, locals := 22 }
set_option maxHeartbeats 4000000 in
set_option maxRecDepth 100000 in
theorem tX6_isRow (g : tb_GT) (l : Launch) (a0 : Int32) (M M' : tb_Mem) (r : Int32) (h : fX6_isRow a0 M = some (r, M')) : tb_C g l yX6_isRow (Cond.code yX6_isRow cX6_isRow 1 (some .boolean)) rmX6_isRow [.int a0] M M' (some (.int r)) := by
  refine tb_entry (by decide) (Nat.le_of_ble_eq_true rfl) ?_
  intro P e s m below meth c F hP hS ls hl
  have F : tb_F g cX6_isRow 1 RX6 (some .boolean) (Cond.code yX6_isRow cX6_isRow 1 (some .boolean)) P s m ([.int a0] : List Value).toArray meth c := F
  have hx := F.1.1
  have hb := F.1.2.1
  have hl : lv_has ls 1 [(0, .int a0)] := hl
  unfold fX6_isRow at h
  refine lv_iload_n hx hb dX6_isRow_0 rfl (lv_at hl 0 rfl) ?_
  refine lv_iconst (v := 0) hx hb dX6_isRow_1 (by decide) ?_
  refine lv_bipush (v := 7) hx hb dX6_isRow_2 (by decide) ?_
  obtain ⟨r3, M1, e2, h⟩ := tb_b2s h
  refine tb_callS F hP hS hl.1 kX6_within km_X6_62 (as := [.int a0, .int 0, .int 7]) (tX6_within g l a0 0 7 M M1 r3 e2) ⟨rfl, rfl, Nat.le_of_ble_eq_true rfl, Nat.le_of_ble_eq_true rfl⟩ rfl (rest := []) rfl (st1 := [.int r3]) rfl (Nat.le_of_ble_eq_true rfl) ⟨Nat.zero_le _, Nat.zero_le _⟩ dX6_isRow_4 (fun H locs hP hS => ?_)
  obtain ⟨k4, h⟩ := tb_cks h
  exact tb_zret h F (tb_bln k4) hP hS dX6_isRow_7
def fX6_found (a1 : Int32) (M : tb_Mem) : Option (Int32 × tb_Mem) :=
  tb_let (tb_up M 0 9 a1) (fun M1 => some (((-1000010) - a1), M1))
abbrev rmX6_found : Room := { frames := 0, cells := 0, slots := 0, locals := 0 }
set_option maxHeartbeats 4000000 in
set_option maxRecDepth 100000 in
theorem tX6_found (g : tb_GT) (l : Launch) (a1 : Int32) (M M' : tb_Mem) (r : Int32) (h : fX6_found a1 M = some (r, M')) : tb_C g l yX6_found (Cond.code yX6_found cX6_found 2 (some .int)) rmX6_found [.ref (tb_ad g 0), .int a1] M M' (some (.int r)) := by
  refine tb_entry (by decide) (Nat.le_of_ble_eq_true rfl) ?_
  intro P e s m below meth c F hP hS ls hl
  have F : tb_F g cX6_found 2 RX6 (some .int) (Cond.code yX6_found cX6_found 2 (some .int)) P s m ([.ref (tb_ad g 0), .int a1] : List Value).toArray meth c := F
  have hx := F.1.1
  have hb := F.1.2.1
  have hl : lv_has ls 2 [(0, .ref (tb_ad g 0)), (1, .int a1)] := hl
  unfold fX6_found at h
  refine lv_aload_n hx hb dX6_found_0 rfl (lv_at hl 0 rfl) ?_
  refine lv_iload_n hx hb dX6_found_1 rfl (lv_at hl 1 rfl) ?_
  obtain ⟨M1, e2, h⟩ := tb_lets h
  refine tb_puti F hP hS tb_l0 (ci := 6) rfl inlX6 tyX6 tyX6_ok nmX6 9 (by decide) rfl rfl rfl rfl kf_X6_282 dX6_found_2 (fun H locs hP hS => ?_)
  rw [← e2] at hP
  refine lv_ldcw (v := (-1000010)) hx hb F.1.2.2.2.1 (tb_hts F kc_X6_285) dX6_found_5 ?_
  refine lv_iload_n hx hb dX6_found_8 rfl (lv_at hl 1 rfl) ?_
  refine lv_isub hx hb dX6_found_9 ?_
  exact tb_iret h F hP hS dX6_found_10
def fX6_fine (a1 : Int32) (M : tb_Mem) : Option (Int32 × tb_Mem) :=
  tb_let (tb_up M 0 9 0) (fun M1 => some (a1, M1))
abbrev rmX6_fine : Room := { frames := 0, cells := 0, slots := 0, locals := 0 }
set_option maxHeartbeats 4000000 in
set_option maxRecDepth 100000 in
theorem tX6_fine (g : tb_GT) (l : Launch) (a1 : Int32) (M M' : tb_Mem) (r : Int32) (h : fX6_fine a1 M = some (r, M')) : tb_C g l yX6_fine (Cond.code yX6_fine cX6_fine 2 (some .int)) rmX6_fine [.ref (tb_ad g 0), .int a1] M M' (some (.int r)) := by
  refine tb_entry (by decide) (Nat.le_of_ble_eq_true rfl) ?_
  intro P e s m below meth c F hP hS ls hl
  have F : tb_F g cX6_fine 2 RX6 (some .int) (Cond.code yX6_fine cX6_fine 2 (some .int)) P s m ([.ref (tb_ad g 0), .int a1] : List Value).toArray meth c := F
  have hx := F.1.1
  have hb := F.1.2.1
  have hl : lv_has ls 2 [(0, .ref (tb_ad g 0)), (1, .int a1)] := hl
  unfold fX6_fine at h
  refine lv_aload_n hx hb dX6_fine_0 rfl (lv_at hl 0 rfl) ?_
  refine lv_iconst (v := 0) hx hb dX6_fine_1 (by decide) ?_
  obtain ⟨M1, e2, h⟩ := tb_lets h
  refine tb_puti F hP hS tb_l0 (ci := 6) rfl inlX6 tyX6 tyX6_ok nmX6 9 (by decide) rfl rfl rfl rfl kf_X6_282 dX6_fine_2 (fun H locs hP hS => ?_)
  rw [← e2] at hP
  refine lv_iload_n hx hb dX6_fine_5 rfl (lv_at hl 1 rfl) ?_
  exact tb_iret h F hP hS dX6_fine_6
def fX6_row (a1 : Int32) (a2 : Int32) (a3 : Int32) (M : tb_Mem) : Option (Int32 × tb_Mem) :=
  tb_b2 (fX6_isRow a1 M) (fun r3 M1 => if r3 = 0 then (some ((-1000001), M1)) else (tb_b2 (fX6_within a2 0 2 M1) (fun r7 M5 => if r7 = 0 then (some ((-1000001), M5)) else (if a3 ≤ 40 then (if 0 ≤ a3 then (tb_ck (tb_in a1 8) (tb_b1 (fX4_make (263 + 2 * a1.toNatClampNeg) a2 a3 M5) (fun M12 => tb_b2 (fX6_fine a3 M12) (fun r16 M14 => some (r16, M14))))) else (tb_b2 (fX6_found 4 M5) (fun r19 M17 => some (r19, M17)))) else (some ((-1000001), M5))))))
abbrev rmX6_row : Room := { frames := 2, cells := 0, slots := 0, locals := 45 }
set_option maxHeartbeats 4000000 in
set_option maxRecDepth 100000 in
theorem tX6_row (g : tb_GT) (l : Launch) (a1 : Int32) (a2 : Int32) (a3 : Int32) (M M' : tb_Mem) (r : Int32) (h : fX6_row a1 a2 a3 M = some (r, M')) : tb_C g l yX6_row (Cond.code yX6_row cX6_row 4 (some .int)) rmX6_row [.ref (tb_ad g 0), .int a1, .int a2, .int a3] M M' (some (.int r)) := by
  refine tb_entry (by decide) (Nat.le_of_ble_eq_true rfl) ?_
  intro P e s m below meth c F hP hS ls hl
  have F : tb_F g cX6_row 4 RX6 (some .int) (Cond.code yX6_row cX6_row 4 (some .int)) P s m ([.ref (tb_ad g 0), .int a1, .int a2, .int a3] : List Value).toArray meth c := F
  have hx := F.1.1
  have hb := F.1.2.1
  have hl : lv_has ls 4 [(0, .ref (tb_ad g 0)), (1, .int a1), (2, .int a2), (3, .int a3)] := hl
  unfold fX6_row at h
  refine lv_iload_n hx hb dX6_row_0 rfl (lv_at hl 1 rfl) ?_
  obtain ⟨r3, M1, e2, h⟩ := tb_b2s h
  refine tb_callS F hP hS hl.1 kX6_isRow km_X6_58 (as := [.int a1]) (tX6_isRow g l a1 M M1 r3 e2) ⟨rfl, rfl, Nat.le_of_ble_eq_true rfl, Nat.le_of_ble_eq_true rfl⟩ rfl (rest := []) rfl (st1 := [.int r3]) rfl (Nat.le_of_ble_eq_true rfl) ⟨Nat.zero_le _, Nat.zero_le _⟩ dX6_row_1 (fun H locs hP hS => ?_)
  refine lv_if_eq (tgt := 22) hx hb dX6_row_4 (by decide) (fun c4 => ?_) (fun c4 => ?_)
  · have h := tb_ip c4 h
    refine lv_ldc (v := (-1000001)) hx hb F.1.2.2.2.1 (tb_hts F kc_X6_66) dX6_row_22 ?_
    exact tb_iret h F hP hS dX6_row_24
  · have h := tb_ineg c4 h
    refine lv_iload_n hx hb dX6_row_7 rfl (lv_at hl 2 rfl) ?_
    refine lv_iconst (v := 0) hx hb dX6_row_8 (by decide) ?_
    refine lv_iconst (v := 2) hx hb dX6_row_9 (by decide) ?_
    obtain ⟨r7, M5, e6, h⟩ := tb_b2s h
    refine tb_callS F hP hS hl.1 kX6_within km_X6_62 (as := [.int a2, .int 0, .int 2]) (tX6_within g l a2 0 2 M1 M5 r7 e6) ⟨rfl, rfl, Nat.le_of_ble_eq_true rfl, Nat.le_of_ble_eq_true rfl⟩ rfl (rest := []) rfl (st1 := [.int r7]) rfl (Nat.le_of_ble_eq_true rfl) ⟨Nat.zero_le _, Nat.zero_le _⟩ dX6_row_10 (fun H locs hP hS => ?_)
    refine lv_if_eq (tgt := 22) hx hb dX6_row_13 (by decide) (fun c8 => ?_) (fun c8 => ?_)
    · have h := tb_ip c8 h
      refine lv_ldc (v := (-1000001)) hx hb F.1.2.2.2.1 (tb_hts F kc_X6_66) dX6_row_22 ?_
      exact tb_iret h F hP hS dX6_row_24
    · have h := tb_ineg c8 h
      refine lv_iload_n hx hb dX6_row_16 rfl (lv_at hl 3 rfl) ?_
      refine lv_bipush (v := 40) hx hb dX6_row_17 (by decide) ?_
      refine lv_icmp_le (tgt := 25) hx hb dX6_row_19 (by decide) (fun c9 => ?_) (fun c9 => ?_)
      · have h := tb_ip c9 h
        refine lv_iload_n hx hb dX6_row_25 rfl (lv_at hl 3 rfl) ?_
        refine lv_if_ge (tgt := 35) hx hb dX6_row_26 (by decide) (fun c10 => ?_) (fun c10 => ?_)
        · have h := tb_ip c10 h
          refine lv_aload_n hx hb dX6_row_35 rfl (lv_at hl 0 rfl) ?_
          refine tb_getr F hP tb_l0 (ci := 6) rfl inlX6 0 (by decide) rfl kf_X6_11 dX6_row_36 ?_
          refine lv_iload_n hx hb dX6_row_39 rfl (lv_at hl 1 rfl) ?_
          obtain ⟨k11, h⟩ := tb_cks h
          refine tb_aald F hP tb_l1 (C := RX4) rfl (tb_inv k11) (tb_rowsG (tb_ltOf k11)) dX6_row_40 ?_
          refine lv_iload_n hx hb dX6_row_41 rfl (lv_at hl 2 rfl) ?_
          refine lv_iload_n hx hb dX6_row_42 rfl (lv_at hl 3 rfl) ?_
          obtain ⟨M12, e13, h⟩ := tb_b1s h
          refine tb_callV F hP hS hl.1 kX4_make km_X6_71 (as := [.int a2, .int a3]) (tX4_make g l (263 + 2 * a1.toNatClampNeg) (tb_Rrow (tb_ltOf k11)) a2 a3 M5 M12 e13) (tb_Rrow (tb_ltOf k11)).1 ⟨rfl, rfl, Nat.le_of_ble_eq_true rfl, Nat.le_of_ble_eq_true rfl⟩ rfl (rest := []) rfl (st1 := []) rfl (Nat.le_of_ble_eq_true rfl) ⟨Nat.zero_le _, Nat.zero_le _⟩ dX6_row_43 (fun H locs hP hS => ?_)
          refine lv_aload_n hx hb dX6_row_46 rfl (lv_at hl 0 rfl) ?_
          refine lv_iload_n hx hb dX6_row_47 rfl (lv_at hl 3 rfl) ?_
          obtain ⟨r16, M14, e15, h⟩ := tb_b2s h
          refine tb_callV F hP hS hl.1 kX6_fine km_X6_75 (as := [.int a3]) (tX6_fine g l a3 M12 M14 r16 e15) tb_l0 ⟨rfl, rfl, Nat.le_of_ble_eq_true rfl, Nat.le_of_ble_eq_true rfl⟩ rfl (rest := []) rfl (st1 := [.int r16]) rfl (Nat.le_of_ble_eq_true rfl) ⟨Nat.zero_le _, Nat.zero_le _⟩ dX6_row_48 (fun H locs hP hS => ?_)
          exact tb_iret h F hP hS dX6_row_51
        · have h := tb_ineg c10 h
          refine lv_aload_n hx hb dX6_row_29 rfl (lv_at hl 0 rfl) ?_
          refine lv_iconst (v := 4) hx hb dX6_row_30 (by decide) ?_
          obtain ⟨r19, M17, e18, h⟩ := tb_b2s h
          refine tb_callV F hP hS hl.1 kX6_found km_X6_67 (as := [.int 4]) (tX6_found g l 4 M5 M17 r19 e18) tb_l0 ⟨rfl, rfl, Nat.le_of_ble_eq_true rfl, Nat.le_of_ble_eq_true rfl⟩ rfl (rest := []) rfl (st1 := [.int r19]) rfl (Nat.le_of_ble_eq_true rfl) ⟨Nat.zero_le _, Nat.zero_le _⟩ dX6_row_31 (fun H locs hP hS => ?_)
          exact tb_iret h F hP hS dX6_row_34
      · have h := tb_ineg c9 h
        refine lv_ldc (v := (-1000001)) hx hb F.1.2.2.2.1 (tb_hts F kc_X6_66) dX6_row_22 ?_
        exact tb_iret h F hP hS dX6_row_24
def fX6_findingOf (a1 : Int32) (a2 : Int32) (a3 : Int32) (M : tb_Mem) : Option (Int32 × tb_Mem) :=
  tb_ck (tb_in a1 8) (if (M (263 + 2 * a1.toNatClampNeg) 1) = 0 then (tb_b2 (fX4_has (263 + 2 * a1.toNatClampNeg) a2 a3 M) (fun r5 M3 => some (((if r5 = 0 then 2 else 0) : Int32), M3))) else (some (1, M)))
abbrev rmX6_findingOf : Room := { frames := 1, cells := 0, slots := 0, locals := 22 }
set_option maxHeartbeats 4000000 in
set_option maxRecDepth 100000 in
theorem tX6_findingOf (g : tb_GT) (l : Launch) (a1 : Int32) (a2 : Int32) (a3 : Int32) (M M' : tb_Mem) (r : Int32) (h : fX6_findingOf a1 a2 a3 M = some (r, M')) : tb_C g l yX6_findingOf (Cond.code yX6_findingOf cX6_findingOf 4 (some .int)) rmX6_findingOf [.ref (tb_ad g 0), .int a1, .int a2, .int a3] M M' (some (.int r)) := by
  refine tb_entry (by decide) (Nat.le_of_ble_eq_true rfl) ?_
  intro P e s m below meth c F hP hS ls hl
  have F : tb_F g cX6_findingOf 4 RX6 (some .int) (Cond.code yX6_findingOf cX6_findingOf 4 (some .int)) P s m ([.ref (tb_ad g 0), .int a1, .int a2, .int a3] : List Value).toArray meth c := F
  have hx := F.1.1
  have hb := F.1.2.1
  have hl : lv_has ls 4 [(0, .ref (tb_ad g 0)), (1, .int a1), (2, .int a2), (3, .int a3)] := hl
  unfold fX6_findingOf at h
  refine lv_aload_n hx hb dX6_findingOf_0 rfl (lv_at hl 0 rfl) ?_
  refine tb_getr F hP tb_l0 (ci := 6) rfl inlX6 0 (by decide) rfl kf_X6_11 dX6_findingOf_1 ?_
  refine lv_iload_n hx hb dX6_findingOf_4 rfl (lv_at hl 1 rfl) ?_
  obtain ⟨k1, h⟩ := tb_cks h
  refine tb_aald F hP tb_l1 (C := RX4) rfl (tb_inv k1) (tb_rowsG (tb_ltOf k1)) dX6_findingOf_5 ?_
  refine tb_geti F hP (tb_Rrow (tb_ltOf k1)).1 (ci := 4) rfl inlX4 1 (by decide) rfl kf_X6_86 dX6_findingOf_6 ?_
  refine lv_if_eq (tgt := 14) hx hb dX6_findingOf_9 (by decide) (fun c2 => ?_) (fun c2 => ?_)
  · have h := tb_ip c2 h
    refine lv_aload_n hx hb dX6_findingOf_14 rfl (lv_at hl 0 rfl) ?_
    refine tb_getr F hP tb_l0 (ci := 6) rfl inlX6 0 (by decide) rfl kf_X6_11 dX6_findingOf_15 ?_
    refine lv_iload_n hx hb dX6_findingOf_18 rfl (lv_at hl 1 rfl) ?_
    refine tb_aald F hP tb_l1 (C := RX4) rfl (tb_inv k1) (tb_rowsG (tb_ltOf k1)) dX6_findingOf_19 ?_
    refine lv_iload_n hx hb dX6_findingOf_20 rfl (lv_at hl 2 rfl) ?_
    refine lv_iload_n hx hb dX6_findingOf_21 rfl (lv_at hl 3 rfl) ?_
    obtain ⟨r5, M3, e4, h⟩ := tb_b2s h
    refine tb_callV F hP hS hl.1 kX4_has km_X6_94 (as := [.int a2, .int a3]) (tX4_has g l (263 + 2 * a1.toNatClampNeg) (tb_Rrow (tb_ltOf k1)) a2 a3 M M3 r5 e4) (tb_Rrow (tb_ltOf k1)).1 ⟨rfl, rfl, Nat.le_of_ble_eq_true rfl, Nat.le_of_ble_eq_true rfl⟩ rfl (rest := []) rfl (st1 := [.int r5]) rfl (Nat.le_of_ble_eq_true rfl) ⟨Nat.zero_le _, Nat.zero_le _⟩ dX6_findingOf_22 (fun H locs hP hS => ?_)
    refine tb_mrg (g2 := F0 m 33 ls [.int ((if r5 = 0 then 2 else 0) : Int32)]) (fun hJ => ?_) ?_
    · refine lv_if_eq (tgt := 32) hx hb dX6_findingOf_25 (by decide) (fun c6 => ?_) (fun c6 => ?_)
      · refine lv_iconst (v := 2) hx hb dX6_findingOf_32 (by decide) ?_
        rw [if_pos c6] at hJ
        exact hJ
      · refine lv_iconst (v := 0) hx hb dX6_findingOf_28 (by decide) ?_
        refine lv_goto (tgt := 33) hx hb dX6_findingOf_29 (by decide) ?_
        rw [if_neg c6] at hJ
        exact hJ
    exact tb_iret h F hP hS dX6_findingOf_33
  · have h := tb_ineg c2 h
    refine lv_iconst (v := 1) hx hb dX6_findingOf_12 (by decide) ?_
    exact tb_iret h F hP hS dX6_findingOf_13
def fX6_set (a1 : Int32) (a2 : Int32) (a3 : Int32) (M : tb_Mem) : Option (Int32 × tb_Mem) :=
  tb_b2 (fX6_isRow a1 M) (fun r3 M1 => if r3 = 0 then (some ((-1000001), M1)) else (tb_b2 (fX6_findingOf a1 a2 1 M1) (fun r7 M5 => if r7 = 0 then (tb_ck (tb_in a1 8) (tb_b2 (fX4_put (263 + 2 * a1.toNatClampNeg) a2 a3 M5) (fun r12 M10 => tb_b2 (fX6_fine r12 M10) (fun r15 M13 => some (r15, M13))))) else (tb_b2 (fX6_found r7 M5) (fun r18 M16 => some (r18, M16))))))
abbrev rmX6_set : Room := { frames := 2, cells := 0, slots := 0, locals := 45 }
set_option maxHeartbeats 4000000 in
set_option maxRecDepth 100000 in
theorem tX6_set (g : tb_GT) (l : Launch) (a1 : Int32) (a2 : Int32) (a3 : Int32) (M M' : tb_Mem) (r : Int32) (h : fX6_set a1 a2 a3 M = some (r, M')) : tb_C g l yX6_set (Cond.code yX6_set cX6_set 5 (some .int)) rmX6_set [.ref (tb_ad g 0), .int a1, .int a2, .int a3] M M' (some (.int r)) := by
  refine tb_entry (by decide) (Nat.le_of_ble_eq_true rfl) ?_
  intro P e s m below meth c F hP hS ls hl
  have F : tb_F g cX6_set 5 RX6 (some .int) (Cond.code yX6_set cX6_set 5 (some .int)) P s m ([.ref (tb_ad g 0), .int a1, .int a2, .int a3] : List Value).toArray meth c := F
  have hx := F.1.1
  have hb := F.1.2.1
  have hl : lv_has ls 5 [(0, .ref (tb_ad g 0)), (1, .int a1), (2, .int a2), (3, .int a3)] := hl
  unfold fX6_set at h
  refine lv_iload_n hx hb dX6_set_0 rfl (lv_at hl 1 rfl) ?_
  obtain ⟨r3, M1, e2, h⟩ := tb_b2s h
  refine tb_callS F hP hS hl.1 kX6_isRow km_X6_58 (as := [.int a1]) (tX6_isRow g l a1 M M1 r3 e2) ⟨rfl, rfl, Nat.le_of_ble_eq_true rfl, Nat.le_of_ble_eq_true rfl⟩ rfl (rest := []) rfl (st1 := [.int r3]) rfl (Nat.le_of_ble_eq_true rfl) ⟨Nat.zero_le _, Nat.zero_le _⟩ dX6_set_1 (fun H locs hP hS => ?_)
  refine lv_if_ne (tgt := 10) hx hb dX6_set_4 (by decide) (fun c4 => ?_) (fun c4 => ?_)
  · have h := tb_ineg c4 h
    refine lv_aload_n hx hb dX6_set_10 rfl (lv_at hl 0 rfl) ?_
    refine lv_iload_n hx hb dX6_set_11 rfl (lv_at hl 1 rfl) ?_
    refine lv_iload_n hx hb dX6_set_12 rfl (lv_at hl 2 rfl) ?_
    refine lv_iconst (v := 1) hx hb dX6_set_13 (by decide) ?_
    obtain ⟨r7, M5, e6, h⟩ := tb_b2s h
    refine tb_callV F hP hS hl.1 kX6_findingOf km_X6_78 (as := [.int a1, .int a2, .int 1]) (tX6_findingOf g l a1 a2 1 M1 M5 r7 e6) tb_l0 ⟨rfl, rfl, Nat.le_of_ble_eq_true rfl, Nat.le_of_ble_eq_true rfl⟩ rfl (rest := []) rfl (st1 := [.int r7]) rfl (Nat.le_of_ble_eq_true rfl) ⟨Nat.zero_le _, Nat.zero_le _⟩ dX6_set_14 (fun H locs hP hS => ?_)
    refine lv_istore (lv' := [(4, .int r7), (0, .ref (tb_ad g 0)), (1, .int a1), (2, .int a2), (3, .int a3)]) hx hb dX6_set_17 hl (by decide) rfl (fun ls hl => ?_)
    refine lv_iload hx hb dX6_set_19 (lv_at hl 0 rfl) ?_
    refine lv_if_eq (tgt := 31) hx hb dX6_set_21 (by decide) (fun c8 => ?_) (fun c8 => ?_)
    · have h := tb_ip c8 h
      refine lv_aload_n hx hb dX6_set_31 rfl (lv_at hl 1 rfl) ?_
      refine lv_aload_n hx hb dX6_set_32 rfl (lv_at hl 1 rfl) ?_
      refine tb_getr F hP tb_l0 (ci := 6) rfl inlX6 0 (by decide) rfl kf_X6_11 dX6_set_33 ?_
      refine lv_iload_n hx hb dX6_set_36 rfl (lv_at hl 2 rfl) ?_
      obtain ⟨k9, h⟩ := tb_cks h
      refine tb_aald F hP tb_l1 (C := RX4) rfl (tb_inv k9) (tb_rowsG (tb_ltOf k9)) dX6_set_37 ?_
      refine lv_iload_n hx hb dX6_set_38 rfl (lv_at hl 3 rfl) ?_
      refine lv_iload_n hx hb dX6_set_39 rfl (lv_at hl 4 rfl) ?_
      obtain ⟨r12, M10, e11, h⟩ := tb_b2s h
      refine tb_callV F hP hS hl.1 kX4_put km_X6_82 (as := [.int a2, .int a3]) (tX4_put g l (263 + 2 * a1.toNatClampNeg) (tb_Rrow (tb_ltOf k9)) a2 a3 M5 M10 r12 e11) (tb_Rrow (tb_ltOf k9)).1 ⟨rfl, rfl, Nat.le_of_ble_eq_true rfl, Nat.le_of_ble_eq_true rfl⟩ rfl (rest := [.ref (tb_ad g 0)]) rfl (st1 := [.int r12, .ref (tb_ad g 0)]) rfl (Nat.le_of_ble_eq_true rfl) ⟨Nat.zero_le _, Nat.zero_le _⟩ dX6_set_40 (fun H locs hP hS => ?_)
      obtain ⟨r15, M13, e14, h⟩ := tb_b2s h
      refine tb_callV F hP hS hl.1 kX6_fine km_X6_75 (as := [.int r12]) (tX6_fine g l r12 M10 M13 r15 e14) tb_l0 ⟨rfl, rfl, Nat.le_of_ble_eq_true rfl, Nat.le_of_ble_eq_true rfl⟩ rfl (rest := []) rfl (st1 := [.int r15]) rfl (Nat.le_of_ble_eq_true rfl) ⟨Nat.zero_le _, Nat.zero_le _⟩ dX6_set_43 (fun H locs hP hS => ?_)
      exact tb_iret h F hP hS dX6_set_46
    · have h := tb_ineg c8 h
      refine lv_aload_n hx hb dX6_set_24 rfl (lv_at hl 1 rfl) ?_
      refine lv_iload hx hb dX6_set_25 (lv_at hl 0 rfl) ?_
      obtain ⟨r18, M16, e17, h⟩ := tb_b2s h
      refine tb_callV F hP hS hl.1 kX6_found km_X6_67 (as := [.int r7]) (tX6_found g l r7 M5 M16 r18 e17) tb_l0 ⟨rfl, rfl, Nat.le_of_ble_eq_true rfl, Nat.le_of_ble_eq_true rfl⟩ rfl (rest := []) rfl (st1 := [.int r18]) rfl (Nat.le_of_ble_eq_true rfl) ⟨Nat.zero_le _, Nat.zero_le _⟩ dX6_set_27 (fun H locs hP hS => ?_)
      exact tb_iret h F hP hS dX6_set_30
  · have h := tb_ip c4 h
    refine lv_ldc (v := (-1000001)) hx hb F.1.2.2.2.1 (tb_hts F kc_X6_66) dX6_set_7 ?_
    exact tb_iret h F hP hS dX6_set_9
def fX6_copy (a1 : Int32) (a2 : Int32) (a3 : Int32) (a4 : Int32) (a5 : Int32) (M : tb_Mem) : Option (Int32 × tb_Mem) :=
  tb_b2 (fX6_isRow a1 M) (fun r3 M1 => if r3 = 0 then (some ((-1000001), M1)) else (tb_b2 (fX6_isRow a3 M1) (fun r7 M5 => if r7 = 0 then (some ((-1000001), M5)) else (tb_ck (tb_in a1 8) (tb_ck (tb_in a3 8) (if (M5 (263 + 2 * a1.toNatClampNeg) 1) = 0 then (if (M5 (263 + 2 * a3.toNatClampNeg) 1) = 0 then (if (M5 (263 + 2 * a1.toNatClampNeg) 2) = (M5 (263 + 2 * a3.toNatClampNeg) 2) then (tb_b2 (fX4_has (263 + 2 * a1.toNatClampNeg) a2 a5 M5) (fun r19 M17 => if r19 = 0 then (tb_b2 (fX6_found 2 M17) (fun r23 M21 => some (r23, M21))) else (tb_b2 (fX4_has (263 + 2 * a3.toNatClampNeg) a4 a5 M17) (fun r26 M24 => if r26 = 0 then (tb_b2 (fX6_found 2 M24) (fun r40 M38 => some (r40, M38))) else (tb_ck (decide (¬ a2 < 0)) (tb_ck (decide (¬ a4 < 0)) (tb_ck (decide (¬ a5 < 0)) (tb_ck (decide (a2.toNatClampNeg + a5.toNatClampNeg ≤ 40)) (tb_ck (decide (a4.toNatClampNeg + a5.toNatClampNeg ≤ 40)) (tb_let (tb_row M24 ((263 + 2 * a3.toNatClampNeg) + 1) (va_cpy (M24 ((263 + 2 * a1.toNatClampNeg) + 1)) (M24 ((263 + 2 * a3.toNatClampNeg) + 1)) ((a2 : Int32).toNatClampNeg) ((a4 : Int32).toNatClampNeg) ((a5 : Int32).toNatClampNeg))) (fun M33 => tb_b2 (fX6_fine a5 M33) (fun r37 M35 => some (r37, M35))))))))))))) else (tb_b2 (fX6_found 5 M5) (fun r43 M41 => some (r43, M41)))) else (tb_b2 (fX6_found 1 M5) (fun r46 M44 => some (r46, M44)))) else (tb_b2 (fX6_found 1 M5) (fun r14 M12 => some (r14, M12)))))))))
abbrev rmX6_copy : Room := { frames := 2, cells := 0, slots := 0, locals := 64 }
set_option maxHeartbeats 4000000 in
set_option maxRecDepth 100000 in
theorem tX6_copy (g : tb_GT) (l : Launch) (a1 : Int32) (a2 : Int32) (a3 : Int32) (a4 : Int32) (a5 : Int32) (M M' : tb_Mem) (r : Int32) (h : fX6_copy a1 a2 a3 a4 a5 M = some (r, M')) : tb_C g l yX6_copy (Cond.code yX6_copy cX6_copy 8 (some .int)) rmX6_copy [.ref (tb_ad g 0), .int a1, .int a2, .int a3, .int a4, .int a5] M M' (some (.int r)) := by
  refine tb_entry (by decide) (Nat.le_of_ble_eq_true rfl) ?_
  intro P e s m below meth c F hP hS ls hl
  have F : tb_F g cX6_copy 8 RX6 (some .int) (Cond.code yX6_copy cX6_copy 8 (some .int)) P s m ([.ref (tb_ad g 0), .int a1, .int a2, .int a3, .int a4, .int a5] : List Value).toArray meth c := F
  have hx := F.1.1
  have hb := F.1.2.1
  have hl : lv_has ls 8 [(0, .ref (tb_ad g 0)), (1, .int a1), (2, .int a2), (3, .int a3), (4, .int a4), (5, .int a5)] := hl
  unfold fX6_copy at h
  refine lv_iload_n hx hb dX6_copy_0 rfl (lv_at hl 1 rfl) ?_
  obtain ⟨r3, M1, e2, h⟩ := tb_b2s h
  refine tb_callS F hP hS hl.1 kX6_isRow km_X6_58 (as := [.int a1]) (tX6_isRow g l a1 M M1 r3 e2) ⟨rfl, rfl, Nat.le_of_ble_eq_true rfl, Nat.le_of_ble_eq_true rfl⟩ rfl (rest := []) rfl (st1 := [.int r3]) rfl (Nat.le_of_ble_eq_true rfl) ⟨Nat.zero_le _, Nat.zero_le _⟩ dX6_copy_1 (fun H locs hP hS => ?_)
  refine lv_if_eq (tgt := 14) hx hb dX6_copy_4 (by decide) (fun c4 => ?_) (fun c4 => ?_)
  · have h := tb_ip c4 h
    refine lv_ldc (v := (-1000001)) hx hb F.1.2.2.2.1 (tb_hts F kc_X6_66) dX6_copy_14 ?_
    exact tb_iret h F hP hS dX6_copy_16
  · have h := tb_ineg c4 h
    refine lv_iload_n hx hb dX6_copy_7 rfl (lv_at hl 3 rfl) ?_
    obtain ⟨r7, M5, e6, h⟩ := tb_b2s h
    refine tb_callS F hP hS hl.1 kX6_isRow km_X6_58 (as := [.int a3]) (tX6_isRow g l a3 M1 M5 r7 e6) ⟨rfl, rfl, Nat.le_of_ble_eq_true rfl, Nat.le_of_ble_eq_true rfl⟩ rfl (rest := []) rfl (st1 := [.int r7]) rfl (Nat.le_of_ble_eq_true rfl) ⟨Nat.zero_le _, Nat.zero_le _⟩ dX6_copy_8 (fun H locs hP hS => ?_)
    refine lv_if_ne (tgt := 17) hx hb dX6_copy_11 (by decide) (fun c8 => ?_) (fun c8 => ?_)
    · have h := tb_ineg c8 h
      refine lv_aload_n hx hb dX6_copy_17 rfl (lv_at hl 0 rfl) ?_
      refine tb_getr F hP tb_l0 (ci := 6) rfl inlX6 0 (by decide) rfl kf_X6_11 dX6_copy_18 ?_
      refine lv_iload_n hx hb dX6_copy_21 rfl (lv_at hl 1 rfl) ?_
      obtain ⟨k9, h⟩ := tb_cks h
      refine tb_aald F hP tb_l1 (C := RX4) rfl (tb_inv k9) (tb_rowsG (tb_ltOf k9)) dX6_copy_22 ?_
      refine lv_astore (lv' := [(6, .ref (tb_ad g (263 + 2 * a1.toNatClampNeg))), (0, .ref (tb_ad g 0)), (1, .int a1), (2, .int a2), (3, .int a3), (4, .int a4), (5, .int a5)]) hx hb dX6_copy_23 hl (by decide) rfl (fun ls hl => ?_)
      refine lv_aload_n hx hb dX6_copy_25 rfl (lv_at hl 1 rfl) ?_
      refine tb_getr F hP tb_l0 (ci := 6) rfl inlX6 0 (by decide) rfl kf_X6_11 dX6_copy_26 ?_
      refine lv_iload_n hx hb dX6_copy_29 rfl (lv_at hl 4 rfl) ?_
      obtain ⟨k10, h⟩ := tb_cks h
      refine tb_aald F hP tb_l1 (C := RX4) rfl (tb_inv k10) (tb_rowsG (tb_ltOf k10)) dX6_copy_30 ?_
      refine lv_astore (lv' := [(7, .ref (tb_ad g (263 + 2 * a3.toNatClampNeg))), (6, .ref (tb_ad g (263 + 2 * a1.toNatClampNeg))), (0, .ref (tb_ad g 0)), (1, .int a1), (2, .int a2), (3, .int a3), (4, .int a4), (5, .int a5)]) hx hb dX6_copy_31 hl (by decide) rfl (fun ls hl => ?_)
      refine lv_aload hx hb dX6_copy_33 (lv_at hl 1 rfl) ?_
      refine tb_geti F hP (tb_Rrow (tb_ltOf k9)).1 (ci := 4) rfl inlX4 1 (by decide) rfl kf_X6_86 dX6_copy_35 ?_
      refine lv_if_ne (tgt := 49) hx hb dX6_copy_38 (by decide) (fun c11 => ?_) (fun c11 => ?_)
      · have h := tb_ineg c11 h
        refine lv_aload_n hx hb dX6_copy_49 rfl (lv_at hl 2 rfl) ?_
        refine lv_iconst (v := 1) hx hb dX6_copy_50 (by decide) ?_
        obtain ⟨r14, M12, e13, h⟩ := tb_b2s h
        refine tb_callV F hP hS hl.1 kX6_found km_X6_67 (as := [.int 1]) (tX6_found g l 1 M5 M12 r14 e13) tb_l0 ⟨rfl, rfl, Nat.le_of_ble_eq_true rfl, Nat.le_of_ble_eq_true rfl⟩ rfl (rest := []) rfl (st1 := [.int r14]) rfl (Nat.le_of_ble_eq_true rfl) ⟨Nat.zero_le _, Nat.zero_le _⟩ dX6_copy_51 (fun H locs hP hS => ?_)
        exact tb_iret h F hP hS dX6_copy_54
      · have h := tb_ip c11 h
        refine lv_aload hx hb dX6_copy_41 (lv_at hl 0 rfl) ?_
        refine tb_geti F hP (tb_Rrow (tb_ltOf k10)).1 (ci := 4) rfl inlX4 1 (by decide) rfl kf_X6_86 dX6_copy_43 ?_
        refine lv_if_eq (tgt := 55) hx hb dX6_copy_46 (by decide) (fun c15 => ?_) (fun c15 => ?_)
        · have h := tb_ip c15 h
          refine lv_aload hx hb dX6_copy_55 (lv_at hl 1 rfl) ?_
          refine tb_geti F hP (tb_Rrow (tb_ltOf k9)).1 (ci := 4) rfl inlX4 2 (by decide) rfl kf_X6_90 dX6_copy_57 ?_
          refine lv_aload hx hb dX6_copy_60 (lv_at hl 0 rfl) ?_
          refine tb_geti F hP (tb_Rrow (tb_ltOf k10)).1 (ci := 4) rfl inlX4 2 (by decide) rfl kf_X6_90 dX6_copy_62 ?_
          refine lv_icmp_eq (tgt := 74) hx hb dX6_copy_65 (by decide) (fun c16 => ?_) (fun c16 => ?_)
          · have h := tb_ip c16 h
            refine lv_aload hx hb dX6_copy_74 (lv_at hl 1 rfl) ?_
            refine lv_iload_n hx hb dX6_copy_76 rfl (lv_at hl 4 rfl) ?_
            refine lv_iload hx hb dX6_copy_77 (lv_at hl 7 rfl) ?_
            obtain ⟨r19, M17, e18, h⟩ := tb_b2s h
            refine tb_callV F hP hS hl.1 kX4_has km_X6_94 (as := [.int a2, .int a5]) (tX4_has g l (263 + 2 * a1.toNatClampNeg) (tb_Rrow (tb_ltOf k9)) a2 a5 M5 M17 r19 e18) (tb_Rrow (tb_ltOf k9)).1 ⟨rfl, rfl, Nat.le_of_ble_eq_true rfl, Nat.le_of_ble_eq_true rfl⟩ rfl (rest := []) rfl (st1 := [.int r19]) rfl (Nat.le_of_ble_eq_true rfl) ⟨Nat.zero_le _, Nat.zero_le _⟩ dX6_copy_79 (fun H locs hP hS => ?_)
            refine lv_if_eq (tgt := 97) hx hb dX6_copy_82 (by decide) (fun c20 => ?_) (fun c20 => ?_)
            · have h := tb_ip c20 h
              refine lv_aload_n hx hb dX6_copy_97 rfl (lv_at hl 2 rfl) ?_
              refine lv_iconst (v := 2) hx hb dX6_copy_98 (by decide) ?_
              obtain ⟨r23, M21, e22, h⟩ := tb_b2s h
              refine tb_callV F hP hS hl.1 kX6_found km_X6_67 (as := [.int 2]) (tX6_found g l 2 M17 M21 r23 e22) tb_l0 ⟨rfl, rfl, Nat.le_of_ble_eq_true rfl, Nat.le_of_ble_eq_true rfl⟩ rfl (rest := []) rfl (st1 := [.int r23]) rfl (Nat.le_of_ble_eq_true rfl) ⟨Nat.zero_le _, Nat.zero_le _⟩ dX6_copy_99 (fun H locs hP hS => ?_)
              exact tb_iret h F hP hS dX6_copy_102
            · have h := tb_ineg c20 h
              refine lv_aload hx hb dX6_copy_85 (lv_at hl 0 rfl) ?_
              refine lv_iload hx hb dX6_copy_87 (lv_at hl 6 rfl) ?_
              refine lv_iload hx hb dX6_copy_89 (lv_at hl 7 rfl) ?_
              obtain ⟨r26, M24, e25, h⟩ := tb_b2s h
              refine tb_callV F hP hS hl.1 kX4_has km_X6_94 (as := [.int a4, .int a5]) (tX4_has g l (263 + 2 * a3.toNatClampNeg) (tb_Rrow (tb_ltOf k10)) a4 a5 M17 M24 r26 e25) (tb_Rrow (tb_ltOf k10)).1 ⟨rfl, rfl, Nat.le_of_ble_eq_true rfl, Nat.le_of_ble_eq_true rfl⟩ rfl (rest := []) rfl (st1 := [.int r26]) rfl (Nat.le_of_ble_eq_true rfl) ⟨Nat.zero_le _, Nat.zero_le _⟩ dX6_copy_91 (fun H locs hP hS => ?_)
              refine lv_if_ne (tgt := 103) hx hb dX6_copy_94 (by decide) (fun c27 => ?_) (fun c27 => ?_)
              · have h := tb_ineg c27 h
                refine lv_aload hx hb dX6_copy_103 (lv_at hl 1 rfl) ?_
                refine tb_getr F hP (tb_Rrow (tb_ltOf k9)).1 (ci := 4) rfl inlX4 0 (by decide) rfl kf_X6_98 dX6_copy_105 ?_
                refine lv_iload_n hx hb dX6_copy_108 rfl (lv_at hl 4 rfl) ?_
                refine lv_aload hx hb dX6_copy_109 (lv_at hl 0 rfl) ?_
                refine tb_getr F hP (tb_Rrow (tb_ltOf k10)).1 (ci := 4) rfl inlX4 0 (by decide) rfl kf_X6_98 dX6_copy_111 ?_
                refine lv_iload hx hb dX6_copy_114 (lv_at hl 6 rfl) ?_
                refine lv_iload hx hb dX6_copy_116 (lv_at hl 7 rfl) ?_
                obtain ⟨k28, h⟩ := tb_cks h
                obtain ⟨k29, h⟩ := tb_cks h
                obtain ⟨k30, h⟩ := tb_cks h
                obtain ⟨k31, h⟩ := tb_cks h
                obtain ⟨k32, h⟩ := tb_cks h
                obtain ⟨M33, e34, h⟩ := tb_lets h
                refine tb_copy F hP hS hl.1 (tb_Rrow (tb_ltOf k9)).2 (tb_Rrow (tb_ltOf k10)).2 km_X6_102 kn_cpN kn_cpS ki_J10 (of_decide_eq_true k28) (of_decide_eq_true k29) (of_decide_eq_true k30) (of_decide_eq_true k31) (of_decide_eq_true k32) (Nat.le_of_ble_eq_true rfl) (Nat.le_of_ble_eq_true rfl) dX6_copy_118 (fun H locs hP hS => ?_)
                rw [← e34] at hP
                refine lv_aload_n hx hb dX6_copy_121 rfl (lv_at hl 2 rfl) ?_
                refine lv_iload hx hb dX6_copy_122 (lv_at hl 7 rfl) ?_
                obtain ⟨r37, M35, e36, h⟩ := tb_b2s h
                refine tb_callV F hP hS hl.1 kX6_fine km_X6_75 (as := [.int a5]) (tX6_fine g l a5 M33 M35 r37 e36) tb_l0 ⟨rfl, rfl, Nat.le_of_ble_eq_true rfl, Nat.le_of_ble_eq_true rfl⟩ rfl (rest := []) rfl (st1 := [.int r37]) rfl (Nat.le_of_ble_eq_true rfl) ⟨Nat.zero_le _, Nat.zero_le _⟩ dX6_copy_124 (fun H locs hP hS => ?_)
                exact tb_iret h F hP hS dX6_copy_127
              · have h := tb_ip c27 h
                refine lv_aload_n hx hb dX6_copy_97 rfl (lv_at hl 2 rfl) ?_
                refine lv_iconst (v := 2) hx hb dX6_copy_98 (by decide) ?_
                obtain ⟨r40, M38, e39, h⟩ := tb_b2s h
                refine tb_callV F hP hS hl.1 kX6_found km_X6_67 (as := [.int 2]) (tX6_found g l 2 M24 M38 r40 e39) tb_l0 ⟨rfl, rfl, Nat.le_of_ble_eq_true rfl, Nat.le_of_ble_eq_true rfl⟩ rfl (rest := []) rfl (st1 := [.int r40]) rfl (Nat.le_of_ble_eq_true rfl) ⟨Nat.zero_le _, Nat.zero_le _⟩ dX6_copy_99 (fun H locs hP hS => ?_)
                exact tb_iret h F hP hS dX6_copy_102
          · have h := tb_ineg c16 h
            refine lv_aload_n hx hb dX6_copy_68 rfl (lv_at hl 2 rfl) ?_
            refine lv_iconst (v := 5) hx hb dX6_copy_69 (by decide) ?_
            obtain ⟨r43, M41, e42, h⟩ := tb_b2s h
            refine tb_callV F hP hS hl.1 kX6_found km_X6_67 (as := [.int 5]) (tX6_found g l 5 M5 M41 r43 e42) tb_l0 ⟨rfl, rfl, Nat.le_of_ble_eq_true rfl, Nat.le_of_ble_eq_true rfl⟩ rfl (rest := []) rfl (st1 := [.int r43]) rfl (Nat.le_of_ble_eq_true rfl) ⟨Nat.zero_le _, Nat.zero_le _⟩ dX6_copy_70 (fun H locs hP hS => ?_)
            exact tb_iret h F hP hS dX6_copy_73
        · have h := tb_ineg c15 h
          refine lv_aload_n hx hb dX6_copy_49 rfl (lv_at hl 2 rfl) ?_
          refine lv_iconst (v := 1) hx hb dX6_copy_50 (by decide) ?_
          obtain ⟨r46, M44, e45, h⟩ := tb_b2s h
          refine tb_callV F hP hS hl.1 kX6_found km_X6_67 (as := [.int 1]) (tX6_found g l 1 M5 M44 r46 e45) tb_l0 ⟨rfl, rfl, Nat.le_of_ble_eq_true rfl, Nat.le_of_ble_eq_true rfl⟩ rfl (rest := []) rfl (st1 := [.int r46]) rfl (Nat.le_of_ble_eq_true rfl) ⟨Nat.zero_le _, Nat.zero_le _⟩ dX6_copy_51 (fun H locs hP hS => ?_)
          exact tb_iret h F hP hS dX6_copy_54
    · have h := tb_ip c8 h
      refine lv_ldc (v := (-1000001)) hx hb F.1.2.2.2.1 (tb_hts F kc_X6_66) dX6_copy_14 ?_
      exact tb_iret h F hP hS dX6_copy_16
def fX6_drop (a1 : Int32) (M : tb_Mem) : Option (Int32 × tb_Mem) :=
  tb_b2 (fX6_isRow a1 M) (fun r3 M1 => if r3 = 0 then (some ((-1000001), M1)) else (tb_ck (tb_in a1 8) (if (M1 (263 + 2 * a1.toNatClampNeg) 1) = 0 then (tb_let (tb_up M1 (263 + 2 * a1.toNatClampNeg) 1 1) (fun M7 => tb_b2 (fX6_fine (M7 (263 + 2 * a1.toNatClampNeg) 3) M7) (fun r11 M9 => some (r11, M9)))) else (tb_b2 (fX6_found 1 M1) (fun r14 M12 => some (r14, M12))))))
abbrev rmX6_drop : Room := { frames := 2, cells := 0, slots := 0, locals := 42 }
set_option maxHeartbeats 4000000 in
set_option maxRecDepth 100000 in
theorem tX6_drop (g : tb_GT) (l : Launch) (a1 : Int32) (M M' : tb_Mem) (r : Int32) (h : fX6_drop a1 M = some (r, M')) : tb_C g l yX6_drop (Cond.code yX6_drop cX6_drop 2 (some .int)) rmX6_drop [.ref (tb_ad g 0), .int a1] M M' (some (.int r)) := by
  refine tb_entry (by decide) (Nat.le_of_ble_eq_true rfl) ?_
  intro P e s m below meth c F hP hS ls hl
  have F : tb_F g cX6_drop 2 RX6 (some .int) (Cond.code yX6_drop cX6_drop 2 (some .int)) P s m ([.ref (tb_ad g 0), .int a1] : List Value).toArray meth c := F
  have hx := F.1.1
  have hb := F.1.2.1
  have hl : lv_has ls 2 [(0, .ref (tb_ad g 0)), (1, .int a1)] := hl
  unfold fX6_drop at h
  refine lv_iload_n hx hb dX6_drop_0 rfl (lv_at hl 1 rfl) ?_
  obtain ⟨r3, M1, e2, h⟩ := tb_b2s h
  refine tb_callS F hP hS hl.1 kX6_isRow km_X6_58 (as := [.int a1]) (tX6_isRow g l a1 M M1 r3 e2) ⟨rfl, rfl, Nat.le_of_ble_eq_true rfl, Nat.le_of_ble_eq_true rfl⟩ rfl (rest := []) rfl (st1 := [.int r3]) rfl (Nat.le_of_ble_eq_true rfl) ⟨Nat.zero_le _, Nat.zero_le _⟩ dX6_drop_1 (fun H locs hP hS => ?_)
  refine lv_if_ne (tgt := 10) hx hb dX6_drop_4 (by decide) (fun c4 => ?_) (fun c4 => ?_)
  · have h := tb_ineg c4 h
    refine lv_aload_n hx hb dX6_drop_10 rfl (lv_at hl 0 rfl) ?_
    refine tb_getr F hP tb_l0 (ci := 6) rfl inlX6 0 (by decide) rfl kf_X6_11 dX6_drop_11 ?_
    refine lv_iload_n hx hb dX6_drop_14 rfl (lv_at hl 1 rfl) ?_
    obtain ⟨k5, h⟩ := tb_cks h
    refine tb_aald F hP tb_l1 (C := RX4) rfl (tb_inv k5) (tb_rowsG (tb_ltOf k5)) dX6_drop_15 ?_
    refine tb_geti F hP (tb_Rrow (tb_ltOf k5)).1 (ci := 4) rfl inlX4 1 (by decide) rfl kf_X6_86 dX6_drop_16 ?_
    refine lv_if_eq (tgt := 28) hx hb dX6_drop_19 (by decide) (fun c6 => ?_) (fun c6 => ?_)
    · have h := tb_ip c6 h
      refine lv_aload_n hx hb dX6_drop_28 rfl (lv_at hl 0 rfl) ?_
      refine tb_getr F hP tb_l0 (ci := 6) rfl inlX6 0 (by decide) rfl kf_X6_11 dX6_drop_29 ?_
      refine lv_iload_n hx hb dX6_drop_32 rfl (lv_at hl 1 rfl) ?_
      refine tb_aald F hP tb_l1 (C := RX4) rfl (tb_inv k5) (tb_rowsG (tb_ltOf k5)) dX6_drop_33 ?_
      refine lv_iconst (v := 1) hx hb dX6_drop_34 (by decide) ?_
      obtain ⟨M7, e8, h⟩ := tb_lets h
      refine tb_puti F hP hS (tb_Rrow (tb_ltOf k5)).1 (ci := 4) rfl inlX4 tyX4 tyX4_ok nmX4 1 (by decide) rfl rfl rfl rfl kf_X6_86 dX6_drop_35 (fun H locs hP hS => ?_)
      rw [← e8] at hP
      refine lv_aload_n hx hb dX6_drop_38 rfl (lv_at hl 0 rfl) ?_
      refine lv_aload_n hx hb dX6_drop_39 rfl (lv_at hl 0 rfl) ?_
      refine tb_getr F hP tb_l0 (ci := 6) rfl inlX6 0 (by decide) rfl kf_X6_11 dX6_drop_40 ?_
      refine lv_iload_n hx hb dX6_drop_43 rfl (lv_at hl 1 rfl) ?_
      refine tb_aald F hP tb_l1 (C := RX4) rfl (tb_inv k5) (tb_rowsG (tb_ltOf k5)) dX6_drop_44 ?_
      refine tb_geti F hP (tb_Rrow (tb_ltOf k5)).1 (ci := 4) rfl inlX4 3 (by decide) rfl kf_X6_108 dX6_drop_45 ?_
      obtain ⟨r11, M9, e10, h⟩ := tb_b2s h
      refine tb_callV F hP hS hl.1 kX6_fine km_X6_75 (as := [.int (M7 (263 + 2 * a1.toNatClampNeg) 3)]) (tX6_fine g l (M7 (263 + 2 * a1.toNatClampNeg) 3) M7 M9 r11 e10) tb_l0 ⟨rfl, rfl, Nat.le_of_ble_eq_true rfl, Nat.le_of_ble_eq_true rfl⟩ rfl (rest := []) rfl (st1 := [.int r11]) rfl (Nat.le_of_ble_eq_true rfl) ⟨Nat.zero_le _, Nat.zero_le _⟩ dX6_drop_48 (fun H locs hP hS => ?_)
      exact tb_iret h F hP hS dX6_drop_51
    · have h := tb_ineg c6 h
      refine lv_aload_n hx hb dX6_drop_22 rfl (lv_at hl 0 rfl) ?_
      refine lv_iconst (v := 1) hx hb dX6_drop_23 (by decide) ?_
      obtain ⟨r14, M12, e13, h⟩ := tb_b2s h
      refine tb_callV F hP hS hl.1 kX6_found km_X6_67 (as := [.int 1]) (tX6_found g l 1 M1 M12 r14 e13) tb_l0 ⟨rfl, rfl, Nat.le_of_ble_eq_true rfl, Nat.le_of_ble_eq_true rfl⟩ rfl (rest := []) rfl (st1 := [.int r14]) rfl (Nat.le_of_ble_eq_true rfl) ⟨Nat.zero_le _, Nat.zero_le _⟩ dX6_drop_24 (fun H locs hP hS => ?_)
      exact tb_iret h F hP hS dX6_drop_27
  · have h := tb_ip c4 h
    refine lv_ldc (v := (-1000001)) hx hb F.1.2.2.2.1 (tb_hts F kc_X6_66) dX6_drop_7 ?_
    exact tb_iret h F hP hS dX6_drop_9
def fX6_feed (a1 : Int32) (M : tb_Mem) : Option (Int32 × tb_Mem) :=
  tb_b2 (fX6_within a1 0 255 M) (fun r3 M1 => if r3 = 0 then (some ((-1000001), M1)) else (tb_b2 (fX5_take a1 M1) (fun r7 M5 => if r7 = 0 then (some ((-1000003), M5)) else (some ((M5 2 1), M5)))))
abbrev rmX6_feed : Room := { frames := 1, cells := 0, slots := 0, locals := 22 }
set_option maxHeartbeats 4000000 in
set_option maxRecDepth 100000 in
theorem tX6_feed (g : tb_GT) (l : Launch) (a1 : Int32) (M M' : tb_Mem) (r : Int32) (h : fX6_feed a1 M = some (r, M')) : tb_C g l yX6_feed (Cond.code yX6_feed cX6_feed 2 (some .int)) rmX6_feed [.ref (tb_ad g 0), .int a1] M M' (some (.int r)) := by
  refine tb_entry (by decide) (Nat.le_of_ble_eq_true rfl) ?_
  intro P e s m below meth c F hP hS ls hl
  have F : tb_F g cX6_feed 2 RX6 (some .int) (Cond.code yX6_feed cX6_feed 2 (some .int)) P s m ([.ref (tb_ad g 0), .int a1] : List Value).toArray meth c := F
  have hx := F.1.1
  have hb := F.1.2.1
  have hl : lv_has ls 2 [(0, .ref (tb_ad g 0)), (1, .int a1)] := hl
  unfold fX6_feed at h
  refine lv_iload_n hx hb dX6_feed_0 rfl (lv_at hl 1 rfl) ?_
  refine lv_iconst (v := 0) hx hb dX6_feed_1 (by decide) ?_
  refine lv_sipush (v := 255) hx hb dX6_feed_2 (by decide) ?_
  obtain ⟨r3, M1, e2, h⟩ := tb_b2s h
  refine tb_callS F hP hS hl.1 kX6_within km_X6_62 (as := [.int a1, .int 0, .int 255]) (tX6_within g l a1 0 255 M M1 r3 e2) ⟨rfl, rfl, Nat.le_of_ble_eq_true rfl, Nat.le_of_ble_eq_true rfl⟩ rfl (rest := []) rfl (st1 := [.int r3]) rfl (Nat.le_of_ble_eq_true rfl) ⟨Nat.zero_le _, Nat.zero_le _⟩ dX6_feed_5 (fun H locs hP hS => ?_)
  refine lv_if_ne (tgt := 14) hx hb dX6_feed_8 (by decide) (fun c4 => ?_) (fun c4 => ?_)
  · have h := tb_ineg c4 h
    refine lv_aload_n hx hb dX6_feed_14 rfl (lv_at hl 0 rfl) ?_
    refine tb_getr F hP tb_l0 (ci := 6) rfl inlX6 1 (by decide) rfl kf_X6_18 dX6_feed_15 ?_
    refine lv_iload_n hx hb dX6_feed_18 rfl (lv_at hl 1 rfl) ?_
    obtain ⟨r7, M5, e6, h⟩ := tb_b2s h
    refine tb_callV F hP hS hl.1 kX5_take km_X6_111 (as := [.int a1]) (tX5_take g l a1 M1 M5 r7 e6) tb_l2 ⟨rfl, rfl, Nat.le_of_ble_eq_true rfl, Nat.le_of_ble_eq_true rfl⟩ rfl (rest := []) rfl (st1 := [.int r7]) rfl (Nat.le_of_ble_eq_true rfl) ⟨Nat.zero_le _, Nat.zero_le _⟩ dX6_feed_19 (fun H locs hP hS => ?_)
    refine lv_if_eq (tgt := 35) hx hb dX6_feed_22 (by decide) (fun c8 => ?_) (fun c8 => ?_)
    · have h := tb_ip c8 h
      refine lv_ldc (v := (-1000003)) hx hb F.1.2.2.2.1 (tb_hts F kc_X6_115) dX6_feed_35 ?_
      exact tb_iret h F hP hS dX6_feed_37
    · have h := tb_ineg c8 h
      refine lv_aload_n hx hb dX6_feed_25 rfl (lv_at hl 0 rfl) ?_
      refine tb_getr F hP tb_l0 (ci := 6) rfl inlX6 1 (by decide) rfl kf_X6_18 dX6_feed_26 ?_
      refine tb_geti F hP tb_l2 (ci := 5) rfl inlX5 1 (by decide) rfl kf_X6_114 dX6_feed_29 ?_
      refine lv_goto (tgt := 37) hx hb dX6_feed_32 (by decide) ?_
      exact tb_iret h F hP hS dX6_feed_37
  · have h := tb_ip c4 h
    refine lv_ldc (v := (-1000001)) hx hb F.1.2.2.2.1 (tb_hts F kc_X6_66) dX6_feed_11 ?_
    exact tb_iret h F hP hS dX6_feed_13
def fX6_basket (M : tb_Mem) : Option (Int32 × tb_Mem) :=
  tb_b2 (fX5_readInto 13 M) (fun r3 M1 => if r3 = 0 then (tb_b1 (fX2_become 4 13 M1) (fun M5 => tb_b1 (fX0_forget M5) (fun M7 => some ((M7 4 8), M7)))) else (tb_let (tb_up M1 0 8 r3) (fun M9 => some (((-1000100) - (M9 2 2)), M9))))
abbrev rmX6_basket : Room := { frames := 5, cells := 0, slots := 0, locals := 113 }
set_option maxHeartbeats 4000000 in
set_option maxRecDepth 100000 in
theorem tX6_basket (g : tb_GT) (l : Launch) (M M' : tb_Mem) (r : Int32) (h : fX6_basket M = some (r, M')) : tb_C g l yX6_basket (Cond.code yX6_basket cX6_basket 2 (some .int)) rmX6_basket [.ref (tb_ad g 0)] M M' (some (.int r)) := by
  refine tb_entry (by decide) (Nat.le_of_ble_eq_true rfl) ?_
  intro P e s m below meth c F hP hS ls hl
  have F : tb_F g cX6_basket 2 RX6 (some .int) (Cond.code yX6_basket cX6_basket 2 (some .int)) P s m ([.ref (tb_ad g 0)] : List Value).toArray meth c := F
  have hx := F.1.1
  have hb := F.1.2.1
  have hl : lv_has ls 2 [(0, .ref (tb_ad g 0))] := hl
  unfold fX6_basket at h
  refine lv_aload_n hx hb dX6_basket_0 rfl (lv_at hl 0 rfl) ?_
  refine tb_getr F hP tb_l0 (ci := 6) rfl inlX6 1 (by decide) rfl kf_X6_18 dX6_basket_1 ?_
  refine lv_aload_n hx hb dX6_basket_4 rfl (lv_at hl 0 rfl) ?_
  refine tb_getr F hP tb_l0 (ci := 6) rfl inlX6 3 (by decide) rfl kf_X6_29 dX6_basket_5 ?_
  obtain ⟨r3, M1, e2, h⟩ := tb_b2s h
  refine tb_callV F hP hS hl.1 kX5_readInto km_X6_116 (as := [.ref (tb_ad g 13)]) (tX5_readInto g l 13 tb_B13 M M1 r3 e2) tb_l2 ⟨rfl, rfl, Nat.le_of_ble_eq_true rfl, Nat.le_of_ble_eq_true rfl⟩ rfl (rest := []) rfl (st1 := [.int r3]) rfl (Nat.le_of_ble_eq_true rfl) ⟨Nat.zero_le _, Nat.zero_le _⟩ dX6_basket_8 (fun H locs hP hS => ?_)
  refine lv_istore_n (lv' := [(1, .int r3), (0, .ref (tb_ad g 0))]) hx hb dX6_basket_11 rfl hl (by decide) rfl (fun ls hl => ?_)
  refine lv_iload_n hx hb dX6_basket_12 rfl (lv_at hl 0 rfl) ?_
  refine lv_if_eq (tgt := 32) hx hb dX6_basket_13 (by decide) (fun c4 => ?_) (fun c4 => ?_)
  · have h := tb_ip c4 h
    refine lv_aload_n hx hb dX6_basket_32 rfl (lv_at hl 1 rfl) ?_
    refine tb_getr F hP tb_l0 (ci := 6) rfl inlX6 2 (by decide) rfl kf_X6_25 dX6_basket_33 ?_
    refine lv_aload_n hx hb dX6_basket_36 rfl (lv_at hl 1 rfl) ?_
    refine tb_getr F hP tb_l0 (ci := 6) rfl inlX6 3 (by decide) rfl kf_X6_29 dX6_basket_37 ?_
    obtain ⟨M5, e6, h⟩ := tb_b1s h
    refine tb_callV F hP hS hl.1 kX2_become km_X6_127 (as := [.ref (tb_ad g 13)]) (tX2_become g l 4 13 tb_B4 tb_B13 M1 M5 e6) tb_B4.1 ⟨rfl, rfl, Nat.le_of_ble_eq_true rfl, Nat.le_of_ble_eq_true rfl⟩ rfl (rest := []) rfl (st1 := []) rfl (Nat.le_of_ble_eq_true rfl) ⟨Nat.zero_le _, Nat.zero_le _⟩ dX6_basket_40 (fun H locs hP hS => ?_)
    refine lv_aload_n hx hb dX6_basket_43 rfl (lv_at hl 1 rfl) ?_
    refine tb_getr F hP tb_l0 (ci := 6) rfl inlX6 4 (by decide) rfl kf_X6_35 dX6_basket_44 ?_
    obtain ⟨M7, e8, h⟩ := tb_b1s h
    refine tb_callV F hP hS hl.1 kX0_forget km_X6_131 (as := []) (tX0_forget g l M5 M7 e8) tb_l22 ⟨rfl, rfl, Nat.le_of_ble_eq_true rfl, Nat.le_of_ble_eq_true rfl⟩ rfl (rest := []) rfl (st1 := []) rfl (Nat.le_of_ble_eq_true rfl) ⟨Nat.zero_le _, Nat.zero_le _⟩ dX6_basket_47 (fun H locs hP hS => ?_)
    refine lv_aload_n hx hb dX6_basket_50 rfl (lv_at hl 1 rfl) ?_
    refine tb_getr F hP tb_l0 (ci := 6) rfl inlX6 2 (by decide) rfl kf_X6_25 dX6_basket_51 ?_
    refine tb_geti F hP tb_B4.1 (ci := 2) rfl inlX2 8 (by decide) rfl kf_X6_134 dX6_basket_54 ?_
    exact tb_iret h F hP hS dX6_basket_57
  · have h := tb_ineg c4 h
    refine lv_aload_n hx hb dX6_basket_16 rfl (lv_at hl 1 rfl) ?_
    refine lv_iload_n hx hb dX6_basket_17 rfl (lv_at hl 0 rfl) ?_
    obtain ⟨M9, e10, h⟩ := tb_lets h
    refine tb_puti F hP hS tb_l0 (ci := 6) rfl inlX6 tyX6 tyX6_ok nmX6 8 (by decide) rfl rfl rfl rfl kf_X6_120 dX6_basket_18 (fun H locs hP hS => ?_)
    rw [← e10] at hP
    refine lv_ldc (v := (-1000100)) hx hb F.1.2.2.2.1 (tb_hts F kc_X6_123) dX6_basket_21 ?_
    refine lv_aload_n hx hb dX6_basket_23 rfl (lv_at hl 1 rfl) ?_
    refine tb_getr F hP tb_l0 (ci := 6) rfl inlX6 1 (by decide) rfl kf_X6_18 dX6_basket_24 ?_
    refine tb_geti F hP tb_l2 (ci := 5) rfl inlX5 2 (by decide) rfl kf_X6_124 dX6_basket_27 ?_
    refine lv_isub hx hb dX6_basket_30 ?_
    exact tb_iret h F hP hS dX6_basket_31
def fX6_fault (M : tb_Mem) : Option (Int32 × tb_Mem) :=
  some ((M 0 8), M)
abbrev rmX6_fault : Room := { frames := 0, cells := 0, slots := 0, locals := 0 }
set_option maxHeartbeats 4000000 in
set_option maxRecDepth 100000 in
theorem tX6_fault (g : tb_GT) (l : Launch) (M M' : tb_Mem) (r : Int32) (h : fX6_fault M = some (r, M')) : tb_C g l yX6_fault (Cond.code yX6_fault cX6_fault 1 (some .int)) rmX6_fault [.ref (tb_ad g 0)] M M' (some (.int r)) := by
  refine tb_entry (by decide) (Nat.le_of_ble_eq_true rfl) ?_
  intro P e s m below meth c F hP hS ls hl
  have F : tb_F g cX6_fault 1 RX6 (some .int) (Cond.code yX6_fault cX6_fault 1 (some .int)) P s m ([.ref (tb_ad g 0)] : List Value).toArray meth c := F
  have hx := F.1.1
  have hb := F.1.2.1
  have hl : lv_has ls 1 [(0, .ref (tb_ad g 0))] := hl
  unfold fX6_fault at h
  refine lv_aload_n hx hb dX6_fault_0 rfl (lv_at hl 0 rfl) ?_
  refine tb_geti F hP tb_l0 (ci := 6) rfl inlX6 8 (by decide) rfl kf_X6_120 dX6_fault_1 ?_
  exact tb_iret h F hP hS dX6_fault_4
def fX6_ticks_L46 : Nat → Int32 → Int32 → tb_Mem → Option (Int32 × tb_Mem)
  | 0, _, _, _ => none
  | n + 1, x1, x2, M => if x1 ≤ x2 then (some ((M 4 10), M)) else (tb_b1 (fX0_keep 4 M) (fun M8 => tb_b2 (fX2_pass 4 M8) (fun r12 M10 => fX6_ticks_L46 n x1 (x2 + 1) M10)))
def fX6_ticks (a1 : Int32) (M : tb_Mem) : Option (Int32 × tb_Mem) :=
  if (M 4 8) = 0 then (some ((-1000002), M)) else (tb_b2 (fX6_within a1 1 24 M) (fun r4 M2 => if r4 = 0 then (some ((-1000001), M2)) else (if ((M2 4 12) + a1) ≤ 9999 then (fX6_ticks_L46 tb_N a1 0 M2) else (some ((-1000003), M2)))))
abbrev rmX6_ticks : Room := { frames := 3, cells := 0, slots := 0, locals := 106 }
set_option maxHeartbeats 4000000 in
set_option maxRecDepth 100000 in
theorem tX6_ticks_L46 {g : tb_GT} {l : Launch} {P : Program} {e : Env} {s : State} {m : MethodId} {below : List Frame} {meth : Method} {c : Code} {a1 : Int32} {M' : tb_Mem} {r : Int32} (F : tb_F g cX6_ticks 3 RX6 (some .int) (Cond.code yX6_ticks cX6_ticks 3 (some .int)) P s m ([.ref (tb_ad g 0), .int a1] : List Value).toArray meth c) :
    ∀ (n : Nat) (x1 : Int32) (x2 : Int32) (M : tb_Mem) (H : Heap) (locs : List Loc) (ls : Array Slot), tb_P g M H → va_S (tb_A g) s.heap H locs → lv_has ls 3 [(0, .ref (tb_ad g 0)), (1, .int x1), (2, .int x2)] → fX6_ticks_L46 n x1 x2 M = some (r, M') → W P l e rmX6_ticks s m ([.ref (tb_ad g 0), .int a1] : List Value).toArray below meth c H locs 0 0 (MQ below (tb_Q g M' (some (.int r))) ([.ref (tb_ad g 0), .int a1] : List Value).toArray s 0 0 (tb_A g)) (F0 m 46 ls []) := by
  have hx := F.1.1
  have hb := F.1.2.1
  intro n
  induction n with
  | zero =>
    intro x1 x2 M H locs ls hP hS hl h
    rw [fX6_ticks_L46] at h
    exact tb_none h
  | succ n ih =>
    intro x1 x2 M H locs ls hP hS hl h
    rw [fX6_ticks_L46] at h
    refine lv_iload_n hx hb dX6_ticks_46 rfl (lv_at hl 2 rfl) ?_
    refine lv_iload_n hx hb dX6_ticks_47 rfl (lv_at hl 1 rfl) ?_
    refine lv_icmp_ge (tgt := 76) hx hb dX6_ticks_48 (by decide) (fun c7 => ?_) (fun c7 => ?_)
    · have h := tb_ip c7 h
      refine lv_aload_n hx hb dX6_ticks_76 rfl (lv_at hl 0 rfl) ?_
      refine tb_getr F hP tb_l0 (ci := 6) rfl inlX6 2 (by decide) rfl kf_X6_25 dX6_ticks_77 ?_
      refine tb_geti F hP tb_B4.1 (ci := 2) rfl inlX2 10 (by decide) rfl kf_X6_148 dX6_ticks_80 ?_
      exact tb_iret h F hP hS dX6_ticks_83
    · have h := tb_ineg c7 h
      refine lv_aload_n hx hb dX6_ticks_51 rfl (lv_at hl 0 rfl) ?_
      refine tb_getr F hP tb_l0 (ci := 6) rfl inlX6 4 (by decide) rfl kf_X6_35 dX6_ticks_52 ?_
      refine lv_aload_n hx hb dX6_ticks_55 rfl (lv_at hl 0 rfl) ?_
      refine tb_getr F hP tb_l0 (ci := 6) rfl inlX6 2 (by decide) rfl kf_X6_25 dX6_ticks_56 ?_
      obtain ⟨M8, e9, h⟩ := tb_b1s h
      refine tb_callV F hP hS hl.1 kX0_keep km_X6_141 (as := [.ref (tb_ad g 4)]) (tX0_keep g l 4 tb_B4 M M8 e9) tb_l22 ⟨rfl, rfl, Nat.le_of_ble_eq_true rfl, Nat.le_of_ble_eq_true rfl⟩ rfl (rest := []) rfl (st1 := []) rfl (Nat.le_of_ble_eq_true rfl) ⟨Nat.zero_le _, Nat.zero_le _⟩ dX6_ticks_59 (fun H locs hP hS => ?_)
      refine lv_aload_n hx hb dX6_ticks_62 rfl (lv_at hl 0 rfl) ?_
      refine tb_getr F hP tb_l0 (ci := 6) rfl inlX6 2 (by decide) rfl kf_X6_25 dX6_ticks_63 ?_
      obtain ⟨r12, M10, e11, h⟩ := tb_b2s h
      refine tb_callV F hP hS hl.1 kX2_pass km_X6_144 (as := []) (tX2_pass g l 4 tb_B4 M8 M10 r12 e11) tb_B4.1 ⟨rfl, rfl, Nat.le_of_ble_eq_true rfl, Nat.le_of_ble_eq_true rfl⟩ rfl (rest := []) rfl (st1 := [.int r12]) rfl (Nat.le_of_ble_eq_true rfl) ⟨Nat.zero_le _, Nat.zero_le _⟩ dX6_ticks_66 (fun H locs hP hS => ?_)
      refine lv_pop hx hb dX6_ticks_69 rfl ?_
      refine lv_iinc (v := (x2 + 1)) (lv' := [(2, .int (x2 + 1)), (0, .ref (tb_ad g 0)), (1, .int x1)]) hx hb dX6_ticks_70 hl (k := 2) rfl rfl (by decide) rfl (fun ls hl => ?_)
      refine lv_goto (tgt := 46) hx hb dX6_ticks_73 (by decide) ?_
      exact ih x1 (x2 + 1) M10 _ _ _ hP hS (lv_sub hl [1, 2, 0] rfl) h
set_option maxHeartbeats 4000000 in
set_option maxRecDepth 100000 in
theorem tX6_ticks (g : tb_GT) (l : Launch) (a1 : Int32) (M M' : tb_Mem) (r : Int32) (h : fX6_ticks a1 M = some (r, M')) : tb_C g l yX6_ticks (Cond.code yX6_ticks cX6_ticks 3 (some .int)) rmX6_ticks [.ref (tb_ad g 0), .int a1] M M' (some (.int r)) := by
  refine tb_entry (by decide) (Nat.le_of_ble_eq_true rfl) ?_
  intro P e s m below meth c F hP hS ls hl
  have F : tb_F g cX6_ticks 3 RX6 (some .int) (Cond.code yX6_ticks cX6_ticks 3 (some .int)) P s m ([.ref (tb_ad g 0), .int a1] : List Value).toArray meth c := F
  have hx := F.1.1
  have hb := F.1.2.1
  have hl : lv_has ls 3 [(0, .ref (tb_ad g 0)), (1, .int a1)] := hl
  unfold fX6_ticks at h
  refine lv_aload_n hx hb dX6_ticks_0 rfl (lv_at hl 0 rfl) ?_
  refine tb_getr F hP tb_l0 (ci := 6) rfl inlX6 2 (by decide) rfl kf_X6_25 dX6_ticks_1 ?_
  refine tb_geti F hP tb_B4.1 (ci := 2) rfl inlX2 8 (by decide) rfl kf_X6_134 dX6_ticks_4 ?_
  refine lv_if_ne (tgt := 13) hx hb dX6_ticks_7 (by decide) (fun c1 => ?_) (fun c1 => ?_)
  · have h := tb_ineg c1 h
    refine lv_iload_n hx hb dX6_ticks_13 rfl (lv_at hl 1 rfl) ?_
    refine lv_iconst (v := 1) hx hb dX6_ticks_14 (by decide) ?_
    refine lv_bipush (v := 24) hx hb dX6_ticks_15 (by decide) ?_
    obtain ⟨r4, M2, e3, h⟩ := tb_b2s h
    refine tb_callS F hP hS hl.1 kX6_within km_X6_62 (as := [.int a1, .int 1, .int 24]) (tX6_within g l a1 1 24 M M2 r4 e3) ⟨rfl, rfl, Nat.le_of_ble_eq_true rfl, Nat.le_of_ble_eq_true rfl⟩ rfl (rest := []) rfl (st1 := [.int r4]) rfl (Nat.le_of_ble_eq_true rfl) ⟨Nat.zero_le _, Nat.zero_le _⟩ dX6_ticks_17 (fun H locs hP hS => ?_)
    refine lv_if_ne (tgt := 26) hx hb dX6_ticks_20 (by decide) (fun c5 => ?_) (fun c5 => ?_)
    · have h := tb_ineg c5 h
      refine lv_aload_n hx hb dX6_ticks_26 rfl (lv_at hl 0 rfl) ?_
      refine tb_getr F hP tb_l0 (ci := 6) rfl inlX6 2 (by decide) rfl kf_X6_25 dX6_ticks_27 ?_
      refine tb_geti F hP tb_B4.1 (ci := 2) rfl inlX2 12 (by decide) rfl kf_X6_138 dX6_ticks_30 ?_
      refine lv_iload_n hx hb dX6_ticks_33 rfl (lv_at hl 1 rfl) ?_
      refine lv_iadd hx hb dX6_ticks_34 ?_
      refine lv_sipush (v := 9999) hx hb dX6_ticks_35 (by decide) ?_
      refine lv_icmp_le (tgt := 44) hx hb dX6_ticks_38 (by decide) (fun c6 => ?_) (fun c6 => ?_)
      · have h := tb_ip c6 h
        refine lv_iconst (v := 0) hx hb dX6_ticks_44 (by decide) ?_
        refine lv_istore_n (lv' := [(2, .int 0), (0, .ref (tb_ad g 0)), (1, .int a1)]) hx hb dX6_ticks_45 rfl hl (by decide) rfl (fun ls hl => ?_)
        exact tX6_ticks_L46 F tb_N a1 0 M2 _ _ _ hP hS (lv_sub hl [1, 2, 0] rfl) h
      · have h := tb_ineg c6 h
        refine lv_ldc (v := (-1000003)) hx hb F.1.2.2.2.1 (tb_hts F kc_X6_115) dX6_ticks_41 ?_
        exact tb_iret h F hP hS dX6_ticks_43
    · have h := tb_ip c5 h
      refine lv_ldc (v := (-1000001)) hx hb F.1.2.2.2.1 (tb_hts F kc_X6_66) dX6_ticks_23 ?_
      exact tb_iret h F hP hS dX6_ticks_25
  · have h := tb_ip c1 h
    refine lv_ldc (v := (-1000002)) hx hb F.1.2.2.2.1 (tb_hts F kc_X6_137) dX6_ticks_10 ?_
    exact tb_iret h F hP hS dX6_ticks_12
def fX6_key (a1 : Int32) (M : tb_Mem) : Option (Int32 × tb_Mem) :=
  tb_b2 (fX2_has 4 a1 M) (fun r3 M1 => if r3 = 0 then (some ((-1000001), M1)) else (tb_b2 (fX2_rests 4 a1 M1) (fun r7 M5 => if r7 = 0 then (some ((-1000002), M5)) else (tb_b1 (fX0_keep 4 M5) (fun M9 => tb_b1 (fX2_press 4 a1 M9) (fun M11 => some ((M11 4 9), M11)))))))
abbrev rmX6_key : Room := { frames := 3, cells := 0, slots := 0, locals := 106 }
set_option maxHeartbeats 4000000 in
set_option maxRecDepth 100000 in
theorem tX6_key (g : tb_GT) (l : Launch) (a1 : Int32) (M M' : tb_Mem) (r : Int32) (h : fX6_key a1 M = some (r, M')) : tb_C g l yX6_key (Cond.code yX6_key cX6_key 2 (some .int)) rmX6_key [.ref (tb_ad g 0), .int a1] M M' (some (.int r)) := by
  refine tb_entry (by decide) (Nat.le_of_ble_eq_true rfl) ?_
  intro P e s m below meth c F hP hS ls hl
  have F : tb_F g cX6_key 2 RX6 (some .int) (Cond.code yX6_key cX6_key 2 (some .int)) P s m ([.ref (tb_ad g 0), .int a1] : List Value).toArray meth c := F
  have hx := F.1.1
  have hb := F.1.2.1
  have hl : lv_has ls 2 [(0, .ref (tb_ad g 0)), (1, .int a1)] := hl
  unfold fX6_key at h
  refine lv_aload_n hx hb dX6_key_0 rfl (lv_at hl 0 rfl) ?_
  refine tb_getr F hP tb_l0 (ci := 6) rfl inlX6 2 (by decide) rfl kf_X6_25 dX6_key_1 ?_
  refine lv_iload_n hx hb dX6_key_4 rfl (lv_at hl 1 rfl) ?_
  obtain ⟨r3, M1, e2, h⟩ := tb_b2s h
  refine tb_callV F hP hS hl.1 kX2_has km_X6_151 (as := [.int a1]) (tX2_has g l 4 tb_B4 a1 M M1 r3 e2) tb_B4.1 ⟨rfl, rfl, Nat.le_of_ble_eq_true rfl, Nat.le_of_ble_eq_true rfl⟩ rfl (rest := []) rfl (st1 := [.int r3]) rfl (Nat.le_of_ble_eq_true rfl) ⟨Nat.zero_le _, Nat.zero_le _⟩ dX6_key_5 (fun H locs hP hS => ?_)
  refine lv_if_ne (tgt := 14) hx hb dX6_key_8 (by decide) (fun c4 => ?_) (fun c4 => ?_)
  · have h := tb_ineg c4 h
    refine lv_aload_n hx hb dX6_key_14 rfl (lv_at hl 0 rfl) ?_
    refine tb_getr F hP tb_l0 (ci := 6) rfl inlX6 2 (by decide) rfl kf_X6_25 dX6_key_15 ?_
    refine lv_iload_n hx hb dX6_key_18 rfl (lv_at hl 1 rfl) ?_
    obtain ⟨r7, M5, e6, h⟩ := tb_b2s h
    refine tb_callV F hP hS hl.1 kX2_rests km_X6_153 (as := [.int a1]) (tX2_rests g l 4 tb_B4 a1 M1 M5 r7 e6) tb_B4.1 ⟨rfl, rfl, Nat.le_of_ble_eq_true rfl, Nat.le_of_ble_eq_true rfl⟩ rfl (rest := []) rfl (st1 := [.int r7]) rfl (Nat.le_of_ble_eq_true rfl) ⟨Nat.zero_le _, Nat.zero_le _⟩ dX6_key_19 (fun H locs hP hS => ?_)
    refine lv_if_ne (tgt := 28) hx hb dX6_key_22 (by decide) (fun c8 => ?_) (fun c8 => ?_)
    · have h := tb_ineg c8 h
      refine lv_aload_n hx hb dX6_key_28 rfl (lv_at hl 0 rfl) ?_
      refine tb_getr F hP tb_l0 (ci := 6) rfl inlX6 4 (by decide) rfl kf_X6_35 dX6_key_29 ?_
      refine lv_aload_n hx hb dX6_key_32 rfl (lv_at hl 0 rfl) ?_
      refine tb_getr F hP tb_l0 (ci := 6) rfl inlX6 2 (by decide) rfl kf_X6_25 dX6_key_33 ?_
      obtain ⟨M9, e10, h⟩ := tb_b1s h
      refine tb_callV F hP hS hl.1 kX0_keep km_X6_141 (as := [.ref (tb_ad g 4)]) (tX0_keep g l 4 tb_B4 M5 M9 e10) tb_l22 ⟨rfl, rfl, Nat.le_of_ble_eq_true rfl, Nat.le_of_ble_eq_true rfl⟩ rfl (rest := []) rfl (st1 := []) rfl (Nat.le_of_ble_eq_true rfl) ⟨Nat.zero_le _, Nat.zero_le _⟩ dX6_key_36 (fun H locs hP hS => ?_)
      refine lv_aload_n hx hb dX6_key_39 rfl (lv_at hl 0 rfl) ?_
      refine tb_getr F hP tb_l0 (ci := 6) rfl inlX6 2 (by decide) rfl kf_X6_25 dX6_key_40 ?_
      refine lv_iload_n hx hb dX6_key_43 rfl (lv_at hl 1 rfl) ?_
      obtain ⟨M11, e12, h⟩ := tb_b1s h
      refine tb_callV F hP hS hl.1 kX2_press km_X6_156 (as := [.int a1]) (tX2_press g l 4 tb_B4 a1 M9 M11 e12) tb_B4.1 ⟨rfl, rfl, Nat.le_of_ble_eq_true rfl, Nat.le_of_ble_eq_true rfl⟩ rfl (rest := []) rfl (st1 := []) rfl (Nat.le_of_ble_eq_true rfl) ⟨Nat.zero_le _, Nat.zero_le _⟩ dX6_key_44 (fun H locs hP hS => ?_)
      refine lv_aload_n hx hb dX6_key_47 rfl (lv_at hl 0 rfl) ?_
      refine tb_getr F hP tb_l0 (ci := 6) rfl inlX6 2 (by decide) rfl kf_X6_25 dX6_key_48 ?_
      refine tb_geti F hP tb_B4.1 (ci := 2) rfl inlX2 9 (by decide) rfl kf_X6_160 dX6_key_51 ?_
      exact tb_iret h F hP hS dX6_key_54
    · have h := tb_ip c8 h
      refine lv_ldc (v := (-1000002)) hx hb F.1.2.2.2.1 (tb_hts F kc_X6_137) dX6_key_25 ?_
      exact tb_iret h F hP hS dX6_key_27
  · have h := tb_ip c4 h
    refine lv_ldc (v := (-1000001)) hx hb F.1.2.2.2.1 (tb_hts F kc_X6_66) dX6_key_11 ?_
    exact tb_iret h F hP hS dX6_key_13
def fX6_free (M : tb_Mem) : Option (Int32 × tb_Mem) :=
  if (M 4 10) = 0 then (some ((-1000002), M)) else (tb_b2 (fJ6_bitCount_0f7a4 (M 4 10) M) (fun r4 M2 => tb_b1 (fX0_keep 4 M2) (fun M5 => tb_b1 (fX2_layDown 4 (M5 4 10) M5) (fun M7 => some (r4, M7)))))
abbrev rmX6_free : Room := { frames := 3, cells := 0, slots := 0, locals := 106 }
set_option maxHeartbeats 4000000 in
set_option maxRecDepth 100000 in
theorem tX6_free (g : tb_GT) (l : Launch) (M M' : tb_Mem) (r : Int32) (h : fX6_free M = some (r, M')) : tb_C g l yX6_free (Cond.code yX6_free cX6_free 2 (some .int)) rmX6_free [.ref (tb_ad g 0)] M M' (some (.int r)) := by
  refine tb_entry (by decide) (Nat.le_of_ble_eq_true rfl) ?_
  intro P e s m below meth c F hP hS ls hl
  have F : tb_F g cX6_free 2 RX6 (some .int) (Cond.code yX6_free cX6_free 2 (some .int)) P s m ([.ref (tb_ad g 0)] : List Value).toArray meth c := F
  have hx := F.1.1
  have hb := F.1.2.1
  have hl : lv_has ls 2 [(0, .ref (tb_ad g 0))] := hl
  unfold fX6_free at h
  refine lv_aload_n hx hb dX6_free_0 rfl (lv_at hl 0 rfl) ?_
  refine tb_getr F hP tb_l0 (ci := 6) rfl inlX6 2 (by decide) rfl kf_X6_25 dX6_free_1 ?_
  refine tb_geti F hP tb_B4.1 (ci := 2) rfl inlX2 10 (by decide) rfl kf_X6_148 dX6_free_4 ?_
  refine lv_if_ne (tgt := 13) hx hb dX6_free_7 (by decide) (fun c1 => ?_) (fun c1 => ?_)
  · have h := tb_ineg c1 h
    refine lv_aload_n hx hb dX6_free_13 rfl (lv_at hl 0 rfl) ?_
    refine tb_getr F hP tb_l0 (ci := 6) rfl inlX6 2 (by decide) rfl kf_X6_25 dX6_free_14 ?_
    refine tb_geti F hP tb_B4.1 (ci := 2) rfl inlX2 10 (by decide) rfl kf_X6_148 dX6_free_17 ?_
    obtain ⟨r4, M2, e3, h⟩ := tb_b2s h
    refine tb_callS F hP hS hl.1 kJ6_bitCount_0f7a4 km_X6_163 (as := [.int (M 4 10)]) (tJ6_bitCount_0f7a4 g l (M 4 10) M M2 r4 e3) ⟨rfl, rfl, Nat.le_of_ble_eq_true rfl, Nat.le_of_ble_eq_true rfl⟩ rfl (rest := []) rfl (st1 := [.int r4]) rfl (Nat.le_of_ble_eq_true rfl) ⟨Nat.zero_le _, Nat.zero_le _⟩ dX6_free_20 (fun H locs hP hS => ?_)
    refine lv_istore_n (lv' := [(1, .int r4), (0, .ref (tb_ad g 0))]) hx hb dX6_free_23 rfl hl (by decide) rfl (fun ls hl => ?_)
    refine lv_aload_n hx hb dX6_free_24 rfl (lv_at hl 1 rfl) ?_
    refine tb_getr F hP tb_l0 (ci := 6) rfl inlX6 4 (by decide) rfl kf_X6_35 dX6_free_25 ?_
    refine lv_aload_n hx hb dX6_free_28 rfl (lv_at hl 1 rfl) ?_
    refine tb_getr F hP tb_l0 (ci := 6) rfl inlX6 2 (by decide) rfl kf_X6_25 dX6_free_29 ?_
    obtain ⟨M5, e6, h⟩ := tb_b1s h
    refine tb_callV F hP hS hl.1 kX0_keep km_X6_141 (as := [.ref (tb_ad g 4)]) (tX0_keep g l 4 tb_B4 M2 M5 e6) tb_l22 ⟨rfl, rfl, Nat.le_of_ble_eq_true rfl, Nat.le_of_ble_eq_true rfl⟩ rfl (rest := []) rfl (st1 := []) rfl (Nat.le_of_ble_eq_true rfl) ⟨Nat.zero_le _, Nat.zero_le _⟩ dX6_free_32 (fun H locs hP hS => ?_)
    refine lv_aload_n hx hb dX6_free_35 rfl (lv_at hl 1 rfl) ?_
    refine tb_getr F hP tb_l0 (ci := 6) rfl inlX6 2 (by decide) rfl kf_X6_25 dX6_free_36 ?_
    refine lv_aload_n hx hb dX6_free_39 rfl (lv_at hl 1 rfl) ?_
    refine tb_getr F hP tb_l0 (ci := 6) rfl inlX6 2 (by decide) rfl kf_X6_25 dX6_free_40 ?_
    refine tb_geti F hP tb_B4.1 (ci := 2) rfl inlX2 10 (by decide) rfl kf_X6_148 dX6_free_43 ?_
    obtain ⟨M7, e8, h⟩ := tb_b1s h
    refine tb_callV F hP hS hl.1 kX2_layDown km_X6_168 (as := [.int (M5 4 10)]) (tX2_layDown g l 4 tb_B4 (M5 4 10) M5 M7 e8) tb_B4.1 ⟨rfl, rfl, Nat.le_of_ble_eq_true rfl, Nat.le_of_ble_eq_true rfl⟩ rfl (rest := []) rfl (st1 := []) rfl (Nat.le_of_ble_eq_true rfl) ⟨Nat.zero_le _, Nat.zero_le _⟩ dX6_free_46 (fun H locs hP hS => ?_)
    refine lv_iload_n hx hb dX6_free_49 rfl (lv_at hl 0 rfl) ?_
    exact tb_iret h F hP hS dX6_free_50
  · have h := tb_ip c1 h
    refine lv_ldc (v := (-1000002)) hx hb F.1.2.2.2.1 (tb_hts F kc_X6_137) dX6_free_10 ?_
    exact tb_iret h F hP hS dX6_free_12
def fX6_back (M : tb_Mem) : Option (Int32 × tb_Mem) :=
  if (M 4 8) = 0 then (some ((-1000002), M)) else (tb_b1 (fX0_keep 4 M) (fun M2 => tb_b1 (fX2_bringBack 4 M2) (fun M4 => some ((M 4 11), M4))))
abbrev rmX6_back : Room := { frames := 3, cells := 0, slots := 0, locals := 106 }
set_option maxHeartbeats 4000000 in
set_option maxRecDepth 100000 in
theorem tX6_back (g : tb_GT) (l : Launch) (M M' : tb_Mem) (r : Int32) (h : fX6_back M = some (r, M')) : tb_C g l yX6_back (Cond.code yX6_back cX6_back 2 (some .int)) rmX6_back [.ref (tb_ad g 0)] M M' (some (.int r)) := by
  refine tb_entry (by decide) (Nat.le_of_ble_eq_true rfl) ?_
  intro P e s m below meth c F hP hS ls hl
  have F : tb_F g cX6_back 2 RX6 (some .int) (Cond.code yX6_back cX6_back 2 (some .int)) P s m ([.ref (tb_ad g 0)] : List Value).toArray meth c := F
  have hx := F.1.1
  have hb := F.1.2.1
  have hl : lv_has ls 2 [(0, .ref (tb_ad g 0))] := hl
  unfold fX6_back at h
  refine lv_aload_n hx hb dX6_back_0 rfl (lv_at hl 0 rfl) ?_
  refine tb_getr F hP tb_l0 (ci := 6) rfl inlX6 2 (by decide) rfl kf_X6_25 dX6_back_1 ?_
  refine tb_geti F hP tb_B4.1 (ci := 2) rfl inlX2 8 (by decide) rfl kf_X6_134 dX6_back_4 ?_
  refine lv_if_ne (tgt := 13) hx hb dX6_back_7 (by decide) (fun c1 => ?_) (fun c1 => ?_)
  · have h := tb_ineg c1 h
    refine lv_aload_n hx hb dX6_back_13 rfl (lv_at hl 0 rfl) ?_
    refine tb_getr F hP tb_l0 (ci := 6) rfl inlX6 2 (by decide) rfl kf_X6_25 dX6_back_14 ?_
    refine tb_geti F hP tb_B4.1 (ci := 2) rfl inlX2 11 (by decide) rfl kf_X6_171 dX6_back_17 ?_
    refine lv_istore_n (lv' := [(1, .int (M 4 11)), (0, .ref (tb_ad g 0))]) hx hb dX6_back_20 rfl hl (by decide) rfl (fun ls hl => ?_)
    refine lv_aload_n hx hb dX6_back_21 rfl (lv_at hl 1 rfl) ?_
    refine tb_getr F hP tb_l0 (ci := 6) rfl inlX6 4 (by decide) rfl kf_X6_35 dX6_back_22 ?_
    refine lv_aload_n hx hb dX6_back_25 rfl (lv_at hl 1 rfl) ?_
    refine tb_getr F hP tb_l0 (ci := 6) rfl inlX6 2 (by decide) rfl kf_X6_25 dX6_back_26 ?_
    obtain ⟨M2, e3, h⟩ := tb_b1s h
    refine tb_callV F hP hS hl.1 kX0_keep km_X6_141 (as := [.ref (tb_ad g 4)]) (tX0_keep g l 4 tb_B4 M M2 e3) tb_l22 ⟨rfl, rfl, Nat.le_of_ble_eq_true rfl, Nat.le_of_ble_eq_true rfl⟩ rfl (rest := []) rfl (st1 := []) rfl (Nat.le_of_ble_eq_true rfl) ⟨Nat.zero_le _, Nat.zero_le _⟩ dX6_back_29 (fun H locs hP hS => ?_)
    refine lv_aload_n hx hb dX6_back_32 rfl (lv_at hl 1 rfl) ?_
    refine tb_getr F hP tb_l0 (ci := 6) rfl inlX6 2 (by decide) rfl kf_X6_25 dX6_back_33 ?_
    obtain ⟨M4, e5, h⟩ := tb_b1s h
    refine tb_callV F hP hS hl.1 kX2_bringBack km_X6_174 (as := []) (tX2_bringBack g l 4 tb_B4 M2 M4 e5) tb_B4.1 ⟨rfl, rfl, Nat.le_of_ble_eq_true rfl, Nat.le_of_ble_eq_true rfl⟩ rfl (rest := []) rfl (st1 := []) rfl (Nat.le_of_ble_eq_true rfl) ⟨Nat.zero_le _, Nat.zero_le _⟩ dX6_back_36 (fun H locs hP hS => ?_)
    refine lv_iload_n hx hb dX6_back_39 rfl (lv_at hl 0 rfl) ?_
    exact tb_iret h F hP hS dX6_back_40
  · have h := tb_ip c1 h
    refine lv_ldc (v := (-1000002)) hx hb F.1.2.2.2.1 (tb_hts F kc_X6_137) dX6_back_10 ?_
    exact tb_iret h F hP hS dX6_back_12
def fX6_swap (a1 : Int32) (a2 : Int32) (M : tb_Mem) : Option (Int32 × tb_Mem) :=
  tb_b2 (fX2_has 4 a1 M) (fun r3 M1 => if r3 = 0 then (some ((-1000001), M1)) else (tb_b2 (fX2_has 4 a2 M1) (fun r7 M5 => if r7 = 0 then (some ((-1000001), M5)) else (if a1 = a2 then (some ((-1000001), M5)) else (tb_b1 (fX0_keep 4 M5) (fun M10 => tb_b1 (fX2_exchange 4 a1 a2 M10) (fun M12 => tb_ck (tb_in a1 8) (some ((M12 (4 + 4) a1.toNatClampNeg), M12)))))))))
abbrev rmX6_swap : Room := { frames := 3, cells := 0, slots := 0, locals := 106 }
set_option maxHeartbeats 4000000 in
set_option maxRecDepth 100000 in
theorem tX6_swap (g : tb_GT) (l : Launch) (a1 : Int32) (a2 : Int32) (M M' : tb_Mem) (r : Int32) (h : fX6_swap a1 a2 M = some (r, M')) : tb_C g l yX6_swap (Cond.code yX6_swap cX6_swap 3 (some .int)) rmX6_swap [.ref (tb_ad g 0), .int a1, .int a2] M M' (some (.int r)) := by
  refine tb_entry (by decide) (Nat.le_of_ble_eq_true rfl) ?_
  intro P e s m below meth c F hP hS ls hl
  have F : tb_F g cX6_swap 3 RX6 (some .int) (Cond.code yX6_swap cX6_swap 3 (some .int)) P s m ([.ref (tb_ad g 0), .int a1, .int a2] : List Value).toArray meth c := F
  have hx := F.1.1
  have hb := F.1.2.1
  have hl : lv_has ls 3 [(0, .ref (tb_ad g 0)), (1, .int a1), (2, .int a2)] := hl
  unfold fX6_swap at h
  refine lv_aload_n hx hb dX6_swap_0 rfl (lv_at hl 0 rfl) ?_
  refine tb_getr F hP tb_l0 (ci := 6) rfl inlX6 2 (by decide) rfl kf_X6_25 dX6_swap_1 ?_
  refine lv_iload_n hx hb dX6_swap_4 rfl (lv_at hl 1 rfl) ?_
  obtain ⟨r3, M1, e2, h⟩ := tb_b2s h
  refine tb_callV F hP hS hl.1 kX2_has km_X6_151 (as := [.int a1]) (tX2_has g l 4 tb_B4 a1 M M1 r3 e2) tb_B4.1 ⟨rfl, rfl, Nat.le_of_ble_eq_true rfl, Nat.le_of_ble_eq_true rfl⟩ rfl (rest := []) rfl (st1 := [.int r3]) rfl (Nat.le_of_ble_eq_true rfl) ⟨Nat.zero_le _, Nat.zero_le _⟩ dX6_swap_5 (fun H locs hP hS => ?_)
  refine lv_if_eq (tgt := 27) hx hb dX6_swap_8 (by decide) (fun c4 => ?_) (fun c4 => ?_)
  · have h := tb_ip c4 h
    refine lv_ldc (v := (-1000001)) hx hb F.1.2.2.2.1 (tb_hts F kc_X6_66) dX6_swap_27 ?_
    exact tb_iret h F hP hS dX6_swap_29
  · have h := tb_ineg c4 h
    refine lv_aload_n hx hb dX6_swap_11 rfl (lv_at hl 0 rfl) ?_
    refine tb_getr F hP tb_l0 (ci := 6) rfl inlX6 2 (by decide) rfl kf_X6_25 dX6_swap_12 ?_
    refine lv_iload_n hx hb dX6_swap_15 rfl (lv_at hl 2 rfl) ?_
    obtain ⟨r7, M5, e6, h⟩ := tb_b2s h
    refine tb_callV F hP hS hl.1 kX2_has km_X6_151 (as := [.int a2]) (tX2_has g l 4 tb_B4 a2 M1 M5 r7 e6) tb_B4.1 ⟨rfl, rfl, Nat.le_of_ble_eq_true rfl, Nat.le_of_ble_eq_true rfl⟩ rfl (rest := []) rfl (st1 := [.int r7]) rfl (Nat.le_of_ble_eq_true rfl) ⟨Nat.zero_le _, Nat.zero_le _⟩ dX6_swap_16 (fun H locs hP hS => ?_)
    refine lv_if_eq (tgt := 27) hx hb dX6_swap_19 (by decide) (fun c8 => ?_) (fun c8 => ?_)
    · have h := tb_ip c8 h
      refine lv_ldc (v := (-1000001)) hx hb F.1.2.2.2.1 (tb_hts F kc_X6_66) dX6_swap_27 ?_
      exact tb_iret h F hP hS dX6_swap_29
    · have h := tb_ineg c8 h
      refine lv_iload_n hx hb dX6_swap_22 rfl (lv_at hl 1 rfl) ?_
      refine lv_iload_n hx hb dX6_swap_23 rfl (lv_at hl 2 rfl) ?_
      refine lv_icmp_ne (tgt := 30) hx hb dX6_swap_24 (by decide) (fun c9 => ?_) (fun c9 => ?_)
      · have h := tb_ineg c9 h
        refine lv_aload_n hx hb dX6_swap_30 rfl (lv_at hl 0 rfl) ?_
        refine tb_getr F hP tb_l0 (ci := 6) rfl inlX6 4 (by decide) rfl kf_X6_35 dX6_swap_31 ?_
        refine lv_aload_n hx hb dX6_swap_34 rfl (lv_at hl 0 rfl) ?_
        refine tb_getr F hP tb_l0 (ci := 6) rfl inlX6 2 (by decide) rfl kf_X6_25 dX6_swap_35 ?_
        obtain ⟨M10, e11, h⟩ := tb_b1s h
        refine tb_callV F hP hS hl.1 kX0_keep km_X6_141 (as := [.ref (tb_ad g 4)]) (tX0_keep g l 4 tb_B4 M5 M10 e11) tb_l22 ⟨rfl, rfl, Nat.le_of_ble_eq_true rfl, Nat.le_of_ble_eq_true rfl⟩ rfl (rest := []) rfl (st1 := []) rfl (Nat.le_of_ble_eq_true rfl) ⟨Nat.zero_le _, Nat.zero_le _⟩ dX6_swap_38 (fun H locs hP hS => ?_)
        refine lv_aload_n hx hb dX6_swap_41 rfl (lv_at hl 0 rfl) ?_
        refine tb_getr F hP tb_l0 (ci := 6) rfl inlX6 2 (by decide) rfl kf_X6_25 dX6_swap_42 ?_
        refine lv_iload_n hx hb dX6_swap_45 rfl (lv_at hl 1 rfl) ?_
        refine lv_iload_n hx hb dX6_swap_46 rfl (lv_at hl 2 rfl) ?_
        obtain ⟨M12, e13, h⟩ := tb_b1s h
        refine tb_callV F hP hS hl.1 kX2_exchange km_X6_177 (as := [.int a1, .int a2]) (tX2_exchange g l 4 tb_B4 a1 a2 M10 M12 e13) tb_B4.1 ⟨rfl, rfl, Nat.le_of_ble_eq_true rfl, Nat.le_of_ble_eq_true rfl⟩ rfl (rest := []) rfl (st1 := []) rfl (Nat.le_of_ble_eq_true rfl) ⟨Nat.zero_le _, Nat.zero_le _⟩ dX6_swap_47 (fun H locs hP hS => ?_)
        refine lv_aload_n hx hb dX6_swap_50 rfl (lv_at hl 0 rfl) ?_
        refine tb_getr F hP tb_l0 (ci := 6) rfl inlX6 2 (by decide) rfl kf_X6_25 dX6_swap_51 ?_
        refine tb_getr F hP tb_B4.1 (ci := 2) rfl inlX2 3 (by decide) rfl kf_X6_180 dX6_swap_54 ?_
        refine lv_iload_n hx hb dX6_swap_57 rfl (lv_at hl 1 rfl) ?_
        obtain ⟨k14, h⟩ := tb_cks h
        refine tb_iald F hP tb_B4.2.2.2.2.1 rfl (tb_inv k14) dX6_swap_58 ?_
        exact tb_iret h F hP hS dX6_swap_59
      · have h := tb_ip c9 h
        refine lv_ldc (v := (-1000001)) hx hb F.1.2.2.2.1 (tb_hts F kc_X6_66) dX6_swap_27 ?_
        exact tb_iret h F hP hS dX6_swap_29
def fX6_undo (M : tb_Mem) : Option (Int32 × tb_Mem) :=
  if (M 22 2) = 0 then (some ((-1000002), M)) else (tb_b1 (fX0_takeBack 4 M) (fun M2 => some ((M2 22 2), M2)))
abbrev rmX6_undo : Room := { frames := 3, cells := 0, slots := 0, locals := 106 }
set_option maxHeartbeats 4000000 in
set_option maxRecDepth 100000 in
theorem tX6_undo (g : tb_GT) (l : Launch) (M M' : tb_Mem) (r : Int32) (h : fX6_undo M = some (r, M')) : tb_C g l yX6_undo (Cond.code yX6_undo cX6_undo 1 (some .int)) rmX6_undo [.ref (tb_ad g 0)] M M' (some (.int r)) := by
  refine tb_entry (by decide) (Nat.le_of_ble_eq_true rfl) ?_
  intro P e s m below meth c F hP hS ls hl
  have F : tb_F g cX6_undo 1 RX6 (some .int) (Cond.code yX6_undo cX6_undo 1 (some .int)) P s m ([.ref (tb_ad g 0)] : List Value).toArray meth c := F
  have hx := F.1.1
  have hb := F.1.2.1
  have hl : lv_has ls 1 [(0, .ref (tb_ad g 0))] := hl
  unfold fX6_undo at h
  refine lv_aload_n hx hb dX6_undo_0 rfl (lv_at hl 0 rfl) ?_
  refine tb_getr F hP tb_l0 (ci := 6) rfl inlX6 4 (by decide) rfl kf_X6_35 dX6_undo_1 ?_
  refine tb_geti F hP tb_l22 (ci := 0) rfl inlX0 2 (by decide) rfl kf_X6_183 dX6_undo_4 ?_
  refine lv_if_ne (tgt := 13) hx hb dX6_undo_7 (by decide) (fun c1 => ?_) (fun c1 => ?_)
  · have h := tb_ineg c1 h
    refine lv_aload_n hx hb dX6_undo_13 rfl (lv_at hl 0 rfl) ?_
    refine tb_getr F hP tb_l0 (ci := 6) rfl inlX6 4 (by decide) rfl kf_X6_35 dX6_undo_14 ?_
    refine lv_aload_n hx hb dX6_undo_17 rfl (lv_at hl 0 rfl) ?_
    refine tb_getr F hP tb_l0 (ci := 6) rfl inlX6 2 (by decide) rfl kf_X6_25 dX6_undo_18 ?_
    obtain ⟨M2, e3, h⟩ := tb_b1s h
    refine tb_callV F hP hS hl.1 kX0_takeBack km_X6_186 (as := [.ref (tb_ad g 4)]) (tX0_takeBack g l 4 tb_B4 M M2 e3) tb_l22 ⟨rfl, rfl, Nat.le_of_ble_eq_true rfl, Nat.le_of_ble_eq_true rfl⟩ rfl (rest := []) rfl (st1 := []) rfl (Nat.le_of_ble_eq_true rfl) ⟨Nat.zero_le _, Nat.zero_le _⟩ dX6_undo_21 (fun H locs hP hS => ?_)
    refine lv_aload_n hx hb dX6_undo_24 rfl (lv_at hl 0 rfl) ?_
    refine tb_getr F hP tb_l0 (ci := 6) rfl inlX6 4 (by decide) rfl kf_X6_35 dX6_undo_25 ?_
    refine tb_geti F hP tb_l22 (ci := 0) rfl inlX0 2 (by decide) rfl kf_X6_183 dX6_undo_28 ?_
    exact tb_iret h F hP hS dX6_undo_31
  · have h := tb_ip c1 h
    refine lv_ldc (v := (-1000002)) hx hb F.1.2.2.2.1 (tb_hts F kc_X6_137) dX6_undo_10 ?_
    exact tb_iret h F hP hS dX6_undo_12
def fX6_bar (a1 : Int32) (a2 : Int32) (M : tb_Mem) : Option (Int32 × tb_Mem) :=
  tb_b2 (fX2_has 4 a1 M) (fun r3 M1 => if r3 = 0 then (some ((-1000001), M1)) else (if a2 = 0 then (tb_ck (tb_in a1 8) (some ((M1 (4 + 2) a1.toNatClampNeg), M1))) else (if a2 = 1 then (tb_ck (tb_in a1 8) (some ((M1 (4 + 4) a1.toNatClampNeg), M1))) else (if a2 = 2 then (tb_ck (tb_in a1 8) (some ((M1 (4 + 7) a1.toNatClampNeg), M1))) else (if a2 = 3 then (tb_b2 (fX2_moves 4 a1 M1) (fun r14 M12 => if r14 = 0 then (some ((-1000000), M12)) else (tb_ck (tb_in a1 8) (some ((M12 (4 + 6) a1.toNatClampNeg), M12))))) else (if a2 = 4 then (tb_b2 (fX2_hangs 4 a1 M1) (fun r20 M18 => some (((if r20 = 0 then 0 else 1) : Int32), M18))) else (if a2 = 5 then (tb_ck (tb_in a1 8) (some ((M1 (4 + 3) a1.toNatClampNeg), M1))) else (some ((-1000001), M1)))))))))
abbrev rmX6_bar : Room := { frames := 1, cells := 0, slots := 0, locals := 21 }
set_option maxHeartbeats 4000000 in
set_option maxRecDepth 100000 in
theorem tX6_bar (g : tb_GT) (l : Launch) (a1 : Int32) (a2 : Int32) (M M' : tb_Mem) (r : Int32) (h : fX6_bar a1 a2 M = some (r, M')) : tb_C g l yX6_bar (Cond.code yX6_bar cX6_bar 3 (some .int)) rmX6_bar [.ref (tb_ad g 0), .int a1, .int a2] M M' (some (.int r)) := by
  refine tb_entry (by decide) (Nat.le_of_ble_eq_true rfl) ?_
  intro P e s m below meth c F hP hS ls hl
  have F : tb_F g cX6_bar 3 RX6 (some .int) (Cond.code yX6_bar cX6_bar 3 (some .int)) P s m ([.ref (tb_ad g 0), .int a1, .int a2] : List Value).toArray meth c := F
  have hx := F.1.1
  have hb := F.1.2.1
  have hl : lv_has ls 3 [(0, .ref (tb_ad g 0)), (1, .int a1), (2, .int a2)] := hl
  unfold fX6_bar at h
  refine lv_aload_n hx hb dX6_bar_0 rfl (lv_at hl 0 rfl) ?_
  refine tb_getr F hP tb_l0 (ci := 6) rfl inlX6 2 (by decide) rfl kf_X6_25 dX6_bar_1 ?_
  refine lv_iload_n hx hb dX6_bar_4 rfl (lv_at hl 1 rfl) ?_
  obtain ⟨r3, M1, e2, h⟩ := tb_b2s h
  refine tb_callV F hP hS hl.1 kX2_has km_X6_151 (as := [.int a1]) (tX2_has g l 4 tb_B4 a1 M M1 r3 e2) tb_B4.1 ⟨rfl, rfl, Nat.le_of_ble_eq_true rfl, Nat.le_of_ble_eq_true rfl⟩ rfl (rest := []) rfl (st1 := [.int r3]) rfl (Nat.le_of_ble_eq_true rfl) ⟨Nat.zero_le _, Nat.zero_le _⟩ dX6_bar_5 (fun H locs hP hS => ?_)
  refine lv_if_ne (tgt := 14) hx hb dX6_bar_8 (by decide) (fun c4 => ?_) (fun c4 => ?_)
  · have h := tb_ineg c4 h
    refine lv_iload_n hx hb dX6_bar_14 rfl (lv_at hl 2 rfl) ?_
    by_cases c5 : a2 = 0
    · have h := tb_ip c5 h
      refine lv_tableIn (tgt := 52) hx hb dX6_bar_15 (by rw [c5]; decide) (by rw [c5]; decide) (by rw [c5]; rfl) (by decide) ?_
      refine lv_aload_n hx hb dX6_bar_52 rfl (lv_at hl 0 rfl) ?_
      refine tb_getr F hP tb_l0 (ci := 6) rfl inlX6 2 (by decide) rfl kf_X6_25 dX6_bar_53 ?_
      refine tb_getr F hP tb_B4.1 (ci := 2) rfl inlX2 1 (by decide) rfl kf_X6_189 dX6_bar_56 ?_
      refine lv_iload_n hx hb dX6_bar_59 rfl (lv_at hl 1 rfl) ?_
      obtain ⟨k6, h⟩ := tb_cks h
      refine tb_iald F hP tb_B4.2.2.1 rfl (tb_inv k6) dX6_bar_60 ?_
      exact tb_iret h F hP hS dX6_bar_61
    have h := tb_ineg c5 h
    by_cases c7 : a2 = 1
    · have h := tb_ip c7 h
      refine lv_tableIn (tgt := 62) hx hb dX6_bar_15 (by rw [c7]; decide) (by rw [c7]; decide) (by rw [c7]; rfl) (by decide) ?_
      refine lv_aload_n hx hb dX6_bar_62 rfl (lv_at hl 0 rfl) ?_
      refine tb_getr F hP tb_l0 (ci := 6) rfl inlX6 2 (by decide) rfl kf_X6_25 dX6_bar_63 ?_
      refine tb_getr F hP tb_B4.1 (ci := 2) rfl inlX2 3 (by decide) rfl kf_X6_180 dX6_bar_66 ?_
      refine lv_iload_n hx hb dX6_bar_69 rfl (lv_at hl 1 rfl) ?_
      obtain ⟨k8, h⟩ := tb_cks h
      refine tb_iald F hP tb_B4.2.2.2.2.1 rfl (tb_inv k8) dX6_bar_70 ?_
      exact tb_iret h F hP hS dX6_bar_71
    have h := tb_ineg c7 h
    by_cases c9 : a2 = 2
    · have h := tb_ip c9 h
      refine lv_tableIn (tgt := 72) hx hb dX6_bar_15 (by rw [c9]; decide) (by rw [c9]; decide) (by rw [c9]; rfl) (by decide) ?_
      refine lv_aload_n hx hb dX6_bar_72 rfl (lv_at hl 0 rfl) ?_
      refine tb_getr F hP tb_l0 (ci := 6) rfl inlX6 2 (by decide) rfl kf_X6_25 dX6_bar_73 ?_
      refine tb_getr F hP tb_B4.1 (ci := 2) rfl inlX2 6 (by decide) rfl kf_X6_192 dX6_bar_76 ?_
      refine lv_iload_n hx hb dX6_bar_79 rfl (lv_at hl 1 rfl) ?_
      obtain ⟨k10, h⟩ := tb_cks h
      refine tb_iald F hP tb_B4.2.2.2.2.2.2.2.1 rfl (tb_inv k10) dX6_bar_80 ?_
      exact tb_iret h F hP hS dX6_bar_81
    have h := tb_ineg c9 h
    by_cases c11 : a2 = 3
    · have h := tb_ip c11 h
      refine lv_tableIn (tgt := 82) hx hb dX6_bar_15 (by rw [c11]; decide) (by rw [c11]; decide) (by rw [c11]; rfl) (by decide) ?_
      refine lv_aload_n hx hb dX6_bar_82 rfl (lv_at hl 0 rfl) ?_
      refine tb_getr F hP tb_l0 (ci := 6) rfl inlX6 2 (by decide) rfl kf_X6_25 dX6_bar_83 ?_
      refine lv_iload_n hx hb dX6_bar_86 rfl (lv_at hl 1 rfl) ?_
      obtain ⟨r14, M12, e13, h⟩ := tb_b2s h
      refine tb_callV F hP hS hl.1 kX2_moves km_X6_195 (as := [.int a1]) (tX2_moves g l 4 tb_B4 a1 M1 M12 r14 e13) tb_B4.1 ⟨rfl, rfl, Nat.le_of_ble_eq_true rfl, Nat.le_of_ble_eq_true rfl⟩ rfl (rest := []) rfl (st1 := [.int r14]) rfl (Nat.le_of_ble_eq_true rfl) ⟨Nat.zero_le _, Nat.zero_le _⟩ dX6_bar_87 (fun H locs hP hS => ?_)
      refine lv_if_eq (tgt := 105) hx hb dX6_bar_90 (by decide) (fun c15 => ?_) (fun c15 => ?_)
      · have h := tb_ip c15 h
        refine lv_ldc (v := (-1000000)) hx hb F.1.2.2.2.1 (tb_hts F kc_X6_201) dX6_bar_105 ?_
        exact tb_iret h F hP hS dX6_bar_107
      · have h := tb_ineg c15 h
        refine lv_aload_n hx hb dX6_bar_93 rfl (lv_at hl 0 rfl) ?_
        refine tb_getr F hP tb_l0 (ci := 6) rfl inlX6 2 (by decide) rfl kf_X6_25 dX6_bar_94 ?_
        refine tb_getr F hP tb_B4.1 (ci := 2) rfl inlX2 5 (by decide) rfl kf_X6_198 dX6_bar_97 ?_
        refine lv_iload_n hx hb dX6_bar_100 rfl (lv_at hl 1 rfl) ?_
        obtain ⟨k16, h⟩ := tb_cks h
        refine tb_iald F hP tb_B4.2.2.2.2.2.2.1 rfl (tb_inv k16) dX6_bar_101 ?_
        refine lv_goto (tgt := 107) hx hb dX6_bar_102 (by decide) ?_
        exact tb_iret h F hP hS dX6_bar_107
    have h := tb_ineg c11 h
    by_cases c17 : a2 = 4
    · have h := tb_ip c17 h
      refine lv_tableIn (tgt := 108) hx hb dX6_bar_15 (by rw [c17]; decide) (by rw [c17]; decide) (by rw [c17]; rfl) (by decide) ?_
      refine lv_aload_n hx hb dX6_bar_108 rfl (lv_at hl 0 rfl) ?_
      refine tb_getr F hP tb_l0 (ci := 6) rfl inlX6 2 (by decide) rfl kf_X6_25 dX6_bar_109 ?_
      refine lv_iload_n hx hb dX6_bar_112 rfl (lv_at hl 1 rfl) ?_
      obtain ⟨r20, M18, e19, h⟩ := tb_b2s h
      refine tb_callV F hP hS hl.1 kX2_hangs km_X6_202 (as := [.int a1]) (tX2_hangs g l 4 tb_B4 a1 M1 M18 r20 e19) tb_B4.1 ⟨rfl, rfl, Nat.le_of_ble_eq_true rfl, Nat.le_of_ble_eq_true rfl⟩ rfl (rest := []) rfl (st1 := [.int r20]) rfl (Nat.le_of_ble_eq_true rfl) ⟨Nat.zero_le _, Nat.zero_le _⟩ dX6_bar_113 (fun H locs hP hS => ?_)
      refine tb_mrg (g2 := F0 m 124 ls [.int ((if r20 = 0 then 0 else 1) : Int32)]) (fun hJ => ?_) ?_
      · refine lv_if_eq (tgt := 123) hx hb dX6_bar_116 (by decide) (fun c21 => ?_) (fun c21 => ?_)
        · refine lv_iconst (v := 0) hx hb dX6_bar_123 (by decide) ?_
          rw [if_pos c21] at hJ
          exact hJ
        · refine lv_iconst (v := 1) hx hb dX6_bar_119 (by decide) ?_
          refine lv_goto (tgt := 124) hx hb dX6_bar_120 (by decide) ?_
          rw [if_neg c21] at hJ
          exact hJ
      exact tb_iret h F hP hS dX6_bar_124
    have h := tb_ineg c17 h
    by_cases c22 : a2 = 5
    · have h := tb_ip c22 h
      refine lv_tableIn (tgt := 125) hx hb dX6_bar_15 (by rw [c22]; decide) (by rw [c22]; decide) (by rw [c22]; rfl) (by decide) ?_
      refine lv_aload_n hx hb dX6_bar_125 rfl (lv_at hl 0 rfl) ?_
      refine tb_getr F hP tb_l0 (ci := 6) rfl inlX6 2 (by decide) rfl kf_X6_25 dX6_bar_126 ?_
      refine tb_getr F hP tb_B4.1 (ci := 2) rfl inlX2 2 (by decide) rfl kf_X6_205 dX6_bar_129 ?_
      refine lv_iload_n hx hb dX6_bar_132 rfl (lv_at hl 1 rfl) ?_
      obtain ⟨k23, h⟩ := tb_cks h
      refine tb_iald F hP tb_B4.2.2.2.1 rfl (tb_inv k23) dX6_bar_133 ?_
      exact tb_iret h F hP hS dX6_bar_134
    have h := tb_ineg c22 h
    have uc5 := lv_neT c5 (show (0 : Int32).toInt = 0 by decide)
    have uc7 := lv_neT c7 (show (1 : Int32).toInt = 1 by decide)
    have uc9 := lv_neT c9 (show (2 : Int32).toInt = 2 by decide)
    have uc11 := lv_neT c11 (show (3 : Int32).toInt = 3 by decide)
    have uc17 := lv_neT c17 (show (4 : Int32).toInt = 4 by decide)
    have uc22 := lv_neT c22 (show (5 : Int32).toInt = 5 by decide)
    refine lv_tableOut (tgt := 135) hx hb dX6_bar_15 (by omega) (by decide) ?_
    refine lv_ldc (v := (-1000001)) hx hb F.1.2.2.2.1 (tb_hts F kc_X6_66) dX6_bar_135 ?_
    exact tb_iret h F hP hS dX6_bar_137
  · have h := tb_ip c4 h
    refine lv_ldc (v := (-1000001)) hx hb F.1.2.2.2.1 (tb_hts F kc_X6_66) dX6_bar_11 ?_
    exact tb_iret h F hP hS dX6_bar_13
def fX6_paper (a1 : Int32) (M : tb_Mem) : Option (Int32 × tb_Mem) :=
  tb_b2 (fX6_within a1 0 19 M) (fun r3 M1 => if r3 = 0 then (some ((-1000001), M1)) else (tb_ck (tb_in a1 20) (tb_let ((M1 (4 + 8) a1.toNatClampNeg) : Int32) (fun v6 => some (((if v6 = 0 then (-1000000) else (v6 - 1)) : Int32), M1)))))
abbrev rmX6_paper : Room := { frames := 1, cells := 0, slots := 0, locals := 22 }
set_option maxHeartbeats 4000000 in
set_option maxRecDepth 100000 in
theorem tX6_paper (g : tb_GT) (l : Launch) (a1 : Int32) (M M' : tb_Mem) (r : Int32) (h : fX6_paper a1 M = some (r, M')) : tb_C g l yX6_paper (Cond.code yX6_paper cX6_paper 3 (some .int)) rmX6_paper [.ref (tb_ad g 0), .int a1] M M' (some (.int r)) := by
  refine tb_entry (by decide) (Nat.le_of_ble_eq_true rfl) ?_
  intro P e s m below meth c F hP hS ls hl
  have F : tb_F g cX6_paper 3 RX6 (some .int) (Cond.code yX6_paper cX6_paper 3 (some .int)) P s m ([.ref (tb_ad g 0), .int a1] : List Value).toArray meth c := F
  have hx := F.1.1
  have hb := F.1.2.1
  have hl : lv_has ls 3 [(0, .ref (tb_ad g 0)), (1, .int a1)] := hl
  unfold fX6_paper at h
  refine lv_iload_n hx hb dX6_paper_0 rfl (lv_at hl 1 rfl) ?_
  refine lv_iconst (v := 0) hx hb dX6_paper_1 (by decide) ?_
  refine lv_bipush (v := 19) hx hb dX6_paper_2 (by decide) ?_
  obtain ⟨r3, M1, e2, h⟩ := tb_b2s h
  refine tb_callS F hP hS hl.1 kX6_within km_X6_62 (as := [.int a1, .int 0, .int 19]) (tX6_within g l a1 0 19 M M1 r3 e2) ⟨rfl, rfl, Nat.le_of_ble_eq_true rfl, Nat.le_of_ble_eq_true rfl⟩ rfl (rest := []) rfl (st1 := [.int r3]) rfl (Nat.le_of_ble_eq_true rfl) ⟨Nat.zero_le _, Nat.zero_le _⟩ dX6_paper_4 (fun H locs hP hS => ?_)
  refine lv_if_ne (tgt := 13) hx hb dX6_paper_7 (by decide) (fun c4 => ?_) (fun c4 => ?_)
  · have h := tb_ineg c4 h
    refine lv_aload_n hx hb dX6_paper_13 rfl (lv_at hl 0 rfl) ?_
    refine tb_getr F hP tb_l0 (ci := 6) rfl inlX6 2 (by decide) rfl kf_X6_25 dX6_paper_14 ?_
    refine tb_getr F hP tb_B4.1 (ci := 2) rfl inlX2 7 (by decide) rfl kf_X6_208 dX6_paper_17 ?_
    refine lv_iload_n hx hb dX6_paper_20 rfl (lv_at hl 1 rfl) ?_
    obtain ⟨k5, h⟩ := tb_cks h
    refine tb_iald F hP tb_B4.2.2.2.2.2.2.2.2 rfl (tb_inv k5) dX6_paper_21 ?_
    obtain ⟨v6, e7, h⟩ := tb_lets h
    refine tb_nmi e7 ?_
    refine lv_istore_n (lv' := [(2, .int v6), (0, .ref (tb_ad g 0)), (1, .int a1)]) hx hb dX6_paper_22 rfl hl (by decide) rfl (fun ls hl => ?_)
    refine lv_iload_n hx hb dX6_paper_23 rfl (lv_at hl 0 rfl) ?_
    refine tb_mrg (g2 := F0 m 35 ls [.int ((if v6 = 0 then (-1000000) else (v6 - 1)) : Int32)]) (fun hJ => ?_) ?_
    · refine lv_if_ne (tgt := 32) hx hb dX6_paper_24 (by decide) (fun c8 => ?_) (fun c8 => ?_)
      · refine lv_iload_n hx hb dX6_paper_32 rfl (lv_at hl 0 rfl) ?_
        refine lv_iconst (v := 1) hx hb dX6_paper_33 (by decide) ?_
        refine lv_isub hx hb dX6_paper_34 ?_
        rw [if_neg c8] at hJ
        exact hJ
      · refine lv_ldc (v := (-1000000)) hx hb F.1.2.2.2.1 (tb_hts F kc_X6_201) dX6_paper_27 ?_
        refine lv_goto (tgt := 35) hx hb dX6_paper_29 (by decide) ?_
        rw [if_pos c8] at hJ
        exact hJ
    exact tb_iret h F hP hS dX6_paper_35
  · have h := tb_ip c4 h
    refine lv_ldc (v := (-1000001)) hx hb F.1.2.2.2.1 (tb_hts F kc_X6_66) dX6_paper_10 ?_
    exact tb_iret h F hP hS dX6_paper_12
def fX6_height (a1 : Int32) (a2 : Int32) (M : tb_Mem) : Option (Int32 × tb_Mem) :=
  tb_b2 (fX2_has 4 a1 M) (fun r3 M1 => if r3 = 0 then (some ((-1000001), M1)) else (tb_b2 (fX6_within a2 0 60 M1) (fun r7 M5 => if r7 = 0 then (some ((-1000001), M5)) else (tb_b1 (fX3_ticksOn 4 a2 M5) (fun M9 => tb_ck (tb_in a1 8) (some ((M9 (241 + 7) a1.toNatClampNeg), M9)))))))
abbrev rmX6_height : Room := { frames := 5, cells := 0, slots := 0, locals := 150 }
set_option maxHeartbeats 4000000 in
set_option maxRecDepth 100000 in
theorem tX6_height (g : tb_GT) (l : Launch) (a1 : Int32) (a2 : Int32) (M M' : tb_Mem) (r : Int32) (h : fX6_height a1 a2 M = some (r, M')) : tb_C g l yX6_height (Cond.code yX6_height cX6_height 3 (some .int)) rmX6_height [.ref (tb_ad g 0), .int a1, .int a2] M M' (some (.int r)) := by
  refine tb_entry (by decide) (Nat.le_of_ble_eq_true rfl) ?_
  intro P e s m below meth c F hP hS ls hl
  have F : tb_F g cX6_height 3 RX6 (some .int) (Cond.code yX6_height cX6_height 3 (some .int)) P s m ([.ref (tb_ad g 0), .int a1, .int a2] : List Value).toArray meth c := F
  have hx := F.1.1
  have hb := F.1.2.1
  have hl : lv_has ls 3 [(0, .ref (tb_ad g 0)), (1, .int a1), (2, .int a2)] := hl
  unfold fX6_height at h
  refine lv_aload_n hx hb dX6_height_0 rfl (lv_at hl 0 rfl) ?_
  refine tb_getr F hP tb_l0 (ci := 6) rfl inlX6 2 (by decide) rfl kf_X6_25 dX6_height_1 ?_
  refine lv_iload_n hx hb dX6_height_4 rfl (lv_at hl 1 rfl) ?_
  obtain ⟨r3, M1, e2, h⟩ := tb_b2s h
  refine tb_callV F hP hS hl.1 kX2_has km_X6_151 (as := [.int a1]) (tX2_has g l 4 tb_B4 a1 M M1 r3 e2) tb_B4.1 ⟨rfl, rfl, Nat.le_of_ble_eq_true rfl, Nat.le_of_ble_eq_true rfl⟩ rfl (rest := []) rfl (st1 := [.int r3]) rfl (Nat.le_of_ble_eq_true rfl) ⟨Nat.zero_le _, Nat.zero_le _⟩ dX6_height_5 (fun H locs hP hS => ?_)
  refine lv_if_eq (tgt := 21) hx hb dX6_height_8 (by decide) (fun c4 => ?_) (fun c4 => ?_)
  · have h := tb_ip c4 h
    refine lv_ldc (v := (-1000001)) hx hb F.1.2.2.2.1 (tb_hts F kc_X6_66) dX6_height_21 ?_
    exact tb_iret h F hP hS dX6_height_23
  · have h := tb_ineg c4 h
    refine lv_iload_n hx hb dX6_height_11 rfl (lv_at hl 2 rfl) ?_
    refine lv_iconst (v := 0) hx hb dX6_height_12 (by decide) ?_
    refine lv_bipush (v := 60) hx hb dX6_height_13 (by decide) ?_
    obtain ⟨r7, M5, e6, h⟩ := tb_b2s h
    refine tb_callS F hP hS hl.1 kX6_within km_X6_62 (as := [.int a2, .int 0, .int 60]) (tX6_within g l a2 0 60 M1 M5 r7 e6) ⟨rfl, rfl, Nat.le_of_ble_eq_true rfl, Nat.le_of_ble_eq_true rfl⟩ rfl (rest := []) rfl (st1 := [.int r7]) rfl (Nat.le_of_ble_eq_true rfl) ⟨Nat.zero_le _, Nat.zero_le _⟩ dX6_height_15 (fun H locs hP hS => ?_)
    refine lv_if_ne (tgt := 24) hx hb dX6_height_18 (by decide) (fun c8 => ?_) (fun c8 => ?_)
    · have h := tb_ineg c8 h
      refine lv_aload_n hx hb dX6_height_24 rfl (lv_at hl 0 rfl) ?_
      refine tb_getr F hP tb_l0 (ci := 6) rfl inlX6 5 (by decide) rfl kf_X6_42 dX6_height_25 ?_
      refine lv_aload_n hx hb dX6_height_28 rfl (lv_at hl 0 rfl) ?_
      refine tb_getr F hP tb_l0 (ci := 6) rfl inlX6 2 (by decide) rfl kf_X6_25 dX6_height_29 ?_
      refine lv_iload_n hx hb dX6_height_32 rfl (lv_at hl 2 rfl) ?_
      obtain ⟨M9, e10, h⟩ := tb_b1s h
      refine tb_callV F hP hS hl.1 kX3_ticksOn km_X6_211 (as := [.ref (tb_ad g 4), .int a2]) (tX3_ticksOn g l 4 tb_B4 a2 M5 M9 e10) tb_l240 ⟨rfl, rfl, Nat.le_of_ble_eq_true rfl, Nat.le_of_ble_eq_true rfl⟩ rfl (rest := []) rfl (st1 := [.ref (tb_ad g 241)]) rfl (Nat.le_of_ble_eq_true rfl) ⟨Nat.zero_le _, Nat.zero_le _⟩ dX6_height_33 (fun H locs hP hS => ?_)
      refine tb_getr F hP tb_B241.1 (ci := 2) rfl inlX2 6 (by decide) rfl kf_X6_192 dX6_height_36 ?_
      refine lv_iload_n hx hb dX6_height_39 rfl (lv_at hl 1 rfl) ?_
      obtain ⟨k11, h⟩ := tb_cks h
      refine tb_iald F hP tb_B241.2.2.2.2.2.2.2.1 rfl (tb_inv k11) dX6_height_40 ?_
      exact tb_iret h F hP hS dX6_height_41
    · have h := tb_ip c8 h
      refine lv_ldc (v := (-1000001)) hx hb F.1.2.2.2.1 (tb_hts F kc_X6_66) dX6_height_21 ?_
      exact tb_iret h F hP hS dX6_height_23
def fX6_later (a1 : Int32) (a2 : Int32) (M : tb_Mem) : Option (Int32 × tb_Mem) :=
  if (M 4 8) = 0 then (some ((-1000002), M)) else (tb_b2 (fX6_within a1 0 60 M) (fun r4 M2 => if r4 = 0 then (some ((-1000001), M2)) else (tb_b2 (fX6_within a2 0 2 M2) (fun r8 M6 => if r8 = 0 then (some ((-1000001), M6)) else (tb_b1 (fX3_ticksOn 4 a1 M6) (fun M10 => if a2 = 0 then (some ((M10 241 10), M10)) else (if a2 = 1 then (some ((M10 241 9), M10)) else (some ((M10 241 11), M10)))))))))
abbrev rmX6_later : Room := { frames := 5, cells := 0, slots := 0, locals := 150 }
set_option maxHeartbeats 4000000 in
set_option maxRecDepth 100000 in
theorem tX6_later (g : tb_GT) (l : Launch) (a1 : Int32) (a2 : Int32) (M M' : tb_Mem) (r : Int32) (h : fX6_later a1 a2 M = some (r, M')) : tb_C g l yX6_later (Cond.code yX6_later cX6_later 4 (some .int)) rmX6_later [.ref (tb_ad g 0), .int a1, .int a2] M M' (some (.int r)) := by
  refine tb_entry (by decide) (Nat.le_of_ble_eq_true rfl) ?_
  intro P e s m below meth c F hP hS ls hl
  have F : tb_F g cX6_later 4 RX6 (some .int) (Cond.code yX6_later cX6_later 4 (some .int)) P s m ([.ref (tb_ad g 0), .int a1, .int a2] : List Value).toArray meth c := F
  have hx := F.1.1
  have hb := F.1.2.1
  have hl : lv_has ls 4 [(0, .ref (tb_ad g 0)), (1, .int a1), (2, .int a2)] := hl
  unfold fX6_later at h
  refine lv_aload_n hx hb dX6_later_0 rfl (lv_at hl 0 rfl) ?_
  refine tb_getr F hP tb_l0 (ci := 6) rfl inlX6 2 (by decide) rfl kf_X6_25 dX6_later_1 ?_
  refine tb_geti F hP tb_B4.1 (ci := 2) rfl inlX2 8 (by decide) rfl kf_X6_134 dX6_later_4 ?_
  refine lv_if_ne (tgt := 13) hx hb dX6_later_7 (by decide) (fun c1 => ?_) (fun c1 => ?_)
  · have h := tb_ineg c1 h
    refine lv_iload_n hx hb dX6_later_13 rfl (lv_at hl 1 rfl) ?_
    refine lv_iconst (v := 0) hx hb dX6_later_14 (by decide) ?_
    refine lv_bipush (v := 60) hx hb dX6_later_15 (by decide) ?_
    obtain ⟨r4, M2, e3, h⟩ := tb_b2s h
    refine tb_callS F hP hS hl.1 kX6_within km_X6_62 (as := [.int a1, .int 0, .int 60]) (tX6_within g l a1 0 60 M M2 r4 e3) ⟨rfl, rfl, Nat.le_of_ble_eq_true rfl, Nat.le_of_ble_eq_true rfl⟩ rfl (rest := []) rfl (st1 := [.int r4]) rfl (Nat.le_of_ble_eq_true rfl) ⟨Nat.zero_le _, Nat.zero_le _⟩ dX6_later_17 (fun H locs hP hS => ?_)
    refine lv_if_eq (tgt := 32) hx hb dX6_later_20 (by decide) (fun c5 => ?_) (fun c5 => ?_)
    · have h := tb_ip c5 h
      refine lv_ldc (v := (-1000001)) hx hb F.1.2.2.2.1 (tb_hts F kc_X6_66) dX6_later_32 ?_
      exact tb_iret h F hP hS dX6_later_34
    · have h := tb_ineg c5 h
      refine lv_iload_n hx hb dX6_later_23 rfl (lv_at hl 2 rfl) ?_
      refine lv_iconst (v := 0) hx hb dX6_later_24 (by decide) ?_
      refine lv_iconst (v := 2) hx hb dX6_later_25 (by decide) ?_
      obtain ⟨r8, M6, e7, h⟩ := tb_b2s h
      refine tb_callS F hP hS hl.1 kX6_within km_X6_62 (as := [.int a2, .int 0, .int 2]) (tX6_within g l a2 0 2 M2 M6 r8 e7) ⟨rfl, rfl, Nat.le_of_ble_eq_true rfl, Nat.le_of_ble_eq_true rfl⟩ rfl (rest := []) rfl (st1 := [.int r8]) rfl (Nat.le_of_ble_eq_true rfl) ⟨Nat.zero_le _, Nat.zero_le _⟩ dX6_later_26 (fun H locs hP hS => ?_)
      refine lv_if_ne (tgt := 35) hx hb dX6_later_29 (by decide) (fun c9 => ?_) (fun c9 => ?_)
      · have h := tb_ineg c9 h
        refine lv_aload_n hx hb dX6_later_35 rfl (lv_at hl 0 rfl) ?_
        refine tb_getr F hP tb_l0 (ci := 6) rfl inlX6 5 (by decide) rfl kf_X6_42 dX6_later_36 ?_
        refine lv_aload_n hx hb dX6_later_39 rfl (lv_at hl 0 rfl) ?_
        refine tb_getr F hP tb_l0 (ci := 6) rfl inlX6 2 (by decide) rfl kf_X6_25 dX6_later_40 ?_
        refine lv_iload_n hx hb dX6_later_43 rfl (lv_at hl 1 rfl) ?_
        obtain ⟨M10, e11, h⟩ := tb_b1s h
        refine tb_callV F hP hS hl.1 kX3_ticksOn km_X6_211 (as := [.ref (tb_ad g 4), .int a1]) (tX3_ticksOn g l 4 tb_B4 a1 M6 M10 e11) tb_l240 ⟨rfl, rfl, Nat.le_of_ble_eq_true rfl, Nat.le_of_ble_eq_true rfl⟩ rfl (rest := []) rfl (st1 := [.ref (tb_ad g 241)]) rfl (Nat.le_of_ble_eq_true rfl) ⟨Nat.zero_le _, Nat.zero_le _⟩ dX6_later_44 (fun H locs hP hS => ?_)
        refine lv_astore_n (lv' := [(3, .ref (tb_ad g 241)), (0, .ref (tb_ad g 0)), (1, .int a1), (2, .int a2)]) hx hb dX6_later_47 rfl hl (by decide) rfl (fun ls hl => ?_)
        refine lv_iload_n hx hb dX6_later_48 rfl (lv_at hl 3 rfl) ?_
        refine lv_if_ne (tgt := 57) hx hb dX6_later_49 (by decide) (fun c12 => ?_) (fun c12 => ?_)
        · have h := tb_ineg c12 h
          refine lv_iload_n hx hb dX6_later_57 rfl (lv_at hl 3 rfl) ?_
          refine lv_iconst (v := 1) hx hb dX6_later_58 (by decide) ?_
          refine lv_icmp_ne (tgt := 69) hx hb dX6_later_59 (by decide) (fun c13 => ?_) (fun c13 => ?_)
          · have h := tb_ineg c13 h
            refine lv_aload_n hx hb dX6_later_69 rfl (lv_at hl 0 rfl) ?_
            refine tb_geti F hP tb_B241.1 (ci := 2) rfl inlX2 11 (by decide) rfl kf_X6_171 dX6_later_70 ?_
            exact tb_iret h F hP hS dX6_later_73
          · have h := tb_ip c13 h
            refine lv_aload_n hx hb dX6_later_62 rfl (lv_at hl 0 rfl) ?_
            refine tb_geti F hP tb_B241.1 (ci := 2) rfl inlX2 9 (by decide) rfl kf_X6_160 dX6_later_63 ?_
            refine lv_goto (tgt := 73) hx hb dX6_later_66 (by decide) ?_
            exact tb_iret h F hP hS dX6_later_73
        · have h := tb_ip c12 h
          refine lv_aload_n hx hb dX6_later_52 rfl (lv_at hl 0 rfl) ?_
          refine tb_geti F hP tb_B241.1 (ci := 2) rfl inlX2 10 (by decide) rfl kf_X6_148 dX6_later_53 ?_
          exact tb_iret h F hP hS dX6_later_56
      · have h := tb_ip c9 h
        refine lv_ldc (v := (-1000001)) hx hb F.1.2.2.2.1 (tb_hts F kc_X6_66) dX6_later_32 ?_
        exact tb_iret h F hP hS dX6_later_34
  · have h := tb_ip c1 h
    refine lv_ldc (v := (-1000002)) hx hb F.1.2.2.2.1 (tb_hts F kc_X6_137) dX6_later_10 ?_
    exact tb_iret h F hP hS dX6_later_12
def fX6_jam (a1 : Int32) (M : tb_Mem) : Option (Int32 × tb_Mem) :=
  if (M 4 8) = 0 then (some ((-1000002), M)) else (tb_b2 (fX6_within a1 0 1 M) (fun r4 M2 => if r4 = 0 then (some ((-1000001), M2)) else (tb_b2 (fX3_ticksToJam 4 M2) (fun r8 M6 => if r8 = (-1000000) then (some (r8, M6)) else (if a1 = 0 then (some (r8, M6)) else (some ((M6 241 10), M6)))))))
abbrev rmX6_jam : Room := { frames := 4, cells := 0, slots := 0, locals := 128 }
set_option maxHeartbeats 4000000 in
set_option maxRecDepth 100000 in
theorem tX6_jam (g : tb_GT) (l : Launch) (a1 : Int32) (M M' : tb_Mem) (r : Int32) (h : fX6_jam a1 M = some (r, M')) : tb_C g l yX6_jam (Cond.code yX6_jam cX6_jam 3 (some .int)) rmX6_jam [.ref (tb_ad g 0), .int a1] M M' (some (.int r)) := by
  refine tb_entry (by decide) (Nat.le_of_ble_eq_true rfl) ?_
  intro P e s m below meth c F hP hS ls hl
  have F : tb_F g cX6_jam 3 RX6 (some .int) (Cond.code yX6_jam cX6_jam 3 (some .int)) P s m ([.ref (tb_ad g 0), .int a1] : List Value).toArray meth c := F
  have hx := F.1.1
  have hb := F.1.2.1
  have hl : lv_has ls 3 [(0, .ref (tb_ad g 0)), (1, .int a1)] := hl
  unfold fX6_jam at h
  refine lv_aload_n hx hb dX6_jam_0 rfl (lv_at hl 0 rfl) ?_
  refine tb_getr F hP tb_l0 (ci := 6) rfl inlX6 2 (by decide) rfl kf_X6_25 dX6_jam_1 ?_
  refine tb_geti F hP tb_B4.1 (ci := 2) rfl inlX2 8 (by decide) rfl kf_X6_134 dX6_jam_4 ?_
  refine lv_if_ne (tgt := 13) hx hb dX6_jam_7 (by decide) (fun c1 => ?_) (fun c1 => ?_)
  · have h := tb_ineg c1 h
    refine lv_iload_n hx hb dX6_jam_13 rfl (lv_at hl 1 rfl) ?_
    refine lv_iconst (v := 0) hx hb dX6_jam_14 (by decide) ?_
    refine lv_iconst (v := 1) hx hb dX6_jam_15 (by decide) ?_
    obtain ⟨r4, M2, e3, h⟩ := tb_b2s h
    refine tb_callS F hP hS hl.1 kX6_within km_X6_62 (as := [.int a1, .int 0, .int 1]) (tX6_within g l a1 0 1 M M2 r4 e3) ⟨rfl, rfl, Nat.le_of_ble_eq_true rfl, Nat.le_of_ble_eq_true rfl⟩ rfl (rest := []) rfl (st1 := [.int r4]) rfl (Nat.le_of_ble_eq_true rfl) ⟨Nat.zero_le _, Nat.zero_le _⟩ dX6_jam_16 (fun H locs hP hS => ?_)
    refine lv_if_ne (tgt := 25) hx hb dX6_jam_19 (by decide) (fun c5 => ?_) (fun c5 => ?_)
    · have h := tb_ineg c5 h
      refine lv_aload_n hx hb dX6_jam_25 rfl (lv_at hl 0 rfl) ?_
      refine tb_getr F hP tb_l0 (ci := 6) rfl inlX6 5 (by decide) rfl kf_X6_42 dX6_jam_26 ?_
      refine lv_aload_n hx hb dX6_jam_29 rfl (lv_at hl 0 rfl) ?_
      refine tb_getr F hP tb_l0 (ci := 6) rfl inlX6 2 (by decide) rfl kf_X6_25 dX6_jam_30 ?_
      obtain ⟨r8, M6, e7, h⟩ := tb_b2s h
      refine tb_callV F hP hS hl.1 kX3_ticksToJam km_X6_215 (as := [.ref (tb_ad g 4)]) (tX3_ticksToJam g l 4 tb_B4 M2 M6 r8 e7) tb_l240 ⟨rfl, rfl, Nat.le_of_ble_eq_true rfl, Nat.le_of_ble_eq_true rfl⟩ rfl (rest := []) rfl (st1 := [.int r8]) rfl (Nat.le_of_ble_eq_true rfl) ⟨Nat.zero_le _, Nat.zero_le _⟩ dX6_jam_33 (fun H locs hP hS => ?_)
      refine lv_istore_n (lv' := [(2, .int r8), (0, .ref (tb_ad g 0)), (1, .int a1)]) hx hb dX6_jam_36 rfl hl (by decide) rfl (fun ls hl => ?_)
      refine lv_iload_n hx hb dX6_jam_37 rfl (lv_at hl 0 rfl) ?_
      refine lv_ldc (v := (-1000000)) hx hb F.1.2.2.2.1 (tb_hts F kc_X6_201) dX6_jam_38 ?_
      refine lv_icmp_eq (tgt := 47) hx hb dX6_jam_40 (by decide) (fun c9 => ?_) (fun c9 => ?_)
      · have h := tb_ip c9 h
        refine lv_iload_n hx hb dX6_jam_47 rfl (lv_at hl 0 rfl) ?_
        refine lv_goto (tgt := 61) hx hb dX6_jam_48 (by decide) ?_
        exact tb_iret h F hP hS dX6_jam_61
      · have h := tb_ineg c9 h
        refine lv_iload_n hx hb dX6_jam_43 rfl (lv_at hl 2 rfl) ?_
        refine lv_if_ne (tgt := 51) hx hb dX6_jam_44 (by decide) (fun c10 => ?_) (fun c10 => ?_)
        · have h := tb_ineg c10 h
          refine lv_aload_n hx hb dX6_jam_51 rfl (lv_at hl 1 rfl) ?_
          refine tb_getr F hP tb_l0 (ci := 6) rfl inlX6 5 (by decide) rfl kf_X6_42 dX6_jam_52 ?_
          refine tb_getr F hP tb_l240 (ci := 3) rfl inlX3 0 (by decide) rfl kf_X6_218 dX6_jam_55 ?_
          refine tb_geti F hP tb_B241.1 (ci := 2) rfl inlX2 10 (by decide) rfl kf_X6_148 dX6_jam_58 ?_
          exact tb_iret h F hP hS dX6_jam_61
        · have h := tb_ip c10 h
          refine lv_iload_n hx hb dX6_jam_47 rfl (lv_at hl 0 rfl) ?_
          refine lv_goto (tgt := 61) hx hb dX6_jam_48 (by decide) ?_
          exact tb_iret h F hP hS dX6_jam_61
    · have h := tb_ip c5 h
      refine lv_ldc (v := (-1000001)) hx hb F.1.2.2.2.1 (tb_hts F kc_X6_66) dX6_jam_22 ?_
      exact tb_iret h F hP hS dX6_jam_24
  · have h := tb_ip c1 h
    refine lv_ldc (v := (-1000002)) hx hb F.1.2.2.2.1 (tb_hts F kc_X6_137) dX6_jam_10 ?_
    exact tb_iret h F hP hS dX6_jam_12

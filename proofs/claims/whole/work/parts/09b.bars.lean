def fX6_waits (a1 : Int32) (M : tb_Mem) : Option (Int32 × tb_Mem) :=
  tb_b2 (fX2_has 4 a1 M) (fun r3 M1 => if r3 = 0 then (some ((-1000001), M1)) else (tb_b2 (fX3_leastWait 4 a1 M1) (fun r7 M5 => some (r7, M5))))
abbrev rmX6_waits : Room := { frames := 6, cells := 0, slots := 0, locals := 172 }
set_option maxHeartbeats 4000000 in
set_option maxRecDepth 100000 in
theorem tX6_waits (g : tb_GT) (l : Launch) (a1 : Int32) (M M' : tb_Mem) (r : Int32) (h : fX6_waits a1 M = some (r, M')) : tb_C g l yX6_waits (Cond.code yX6_waits cX6_waits 2 (some .int)) rmX6_waits [.ref (tb_ad g 0), .int a1] M M' (some (.int r)) := by
  refine tb_entry (by decide) (Nat.le_of_ble_eq_true rfl) ?_
  intro P e s m below meth c F hP hS ls hl
  have F : tb_F g cX6_waits 2 RX6 (some .int) (Cond.code yX6_waits cX6_waits 2 (some .int)) P s m ([.ref (tb_ad g 0), .int a1] : List Value).toArray meth c := F
  have hx := F.1.1
  have hb := F.1.2.1
  have hl : lv_has ls 2 [(0, .ref (tb_ad g 0)), (1, .int a1)] := hl
  unfold fX6_waits at h
  refine lv_aload_n hx hb dX6_waits_0 rfl (lv_at hl 0 rfl) ?_
  refine tb_getr F hP tb_l0 (ci := 6) rfl inlX6 2 (by decide) rfl kf_X6_25 dX6_waits_1 ?_
  refine lv_iload_n hx hb dX6_waits_4 rfl (lv_at hl 1 rfl) ?_
  obtain ⟨r3, M1, e2, h⟩ := tb_b2s h
  refine tb_callV F hP hS hl.1 kX2_has km_X6_151 (as := [.int a1]) (tX2_has g l 4 tb_B4 a1 M M1 r3 e2) tb_B4.1 ⟨rfl, rfl, Nat.le_of_ble_eq_true rfl, Nat.le_of_ble_eq_true rfl⟩ rfl (rest := []) rfl (st1 := [.int r3]) rfl (Nat.le_of_ble_eq_true rfl) ⟨Nat.zero_le _, Nat.zero_le _⟩ dX6_waits_5 (fun H locs hP hS => ?_)
  refine lv_if_ne (tgt := 14) hx hb dX6_waits_8 (by decide) (fun c4 => ?_) (fun c4 => ?_)
  · have h := tb_ineg c4 h
    refine lv_aload_n hx hb dX6_waits_14 rfl (lv_at hl 0 rfl) ?_
    refine tb_getr F hP tb_l0 (ci := 6) rfl inlX6 5 (by decide) rfl kf_X6_42 dX6_waits_15 ?_
    refine lv_aload_n hx hb dX6_waits_18 rfl (lv_at hl 0 rfl) ?_
    refine tb_getr F hP tb_l0 (ci := 6) rfl inlX6 2 (by decide) rfl kf_X6_25 dX6_waits_19 ?_
    refine lv_iload_n hx hb dX6_waits_22 rfl (lv_at hl 1 rfl) ?_
    obtain ⟨r7, M5, e6, h⟩ := tb_b2s h
    refine tb_callV F hP hS hl.1 kX3_leastWait km_X6_221 (as := [.ref (tb_ad g 4), .int a1]) (tX3_leastWait g l 4 tb_B4 a1 M1 M5 r7 e6) tb_l240 ⟨rfl, rfl, Nat.le_of_ble_eq_true rfl, Nat.le_of_ble_eq_true rfl⟩ rfl (rest := []) rfl (st1 := [.int r7]) rfl (Nat.le_of_ble_eq_true rfl) ⟨Nat.zero_le _, Nat.zero_le _⟩ dX6_waits_23 (fun H locs hP hS => ?_)
    exact tb_iret h F hP hS dX6_waits_26
  · have h := tb_ip c4 h
    refine lv_ldc (v := (-1000001)) hx hb F.1.2.2.2.1 (tb_hts F kc_X6_66) dX6_waits_11 ?_
    exact tb_iret h F hP hS dX6_waits_13
def fX6_pace (a1 : Int32) (a2 : Int32) (a3 : Int32) (M : tb_Mem) : Option (Int32 × tb_Mem) :=
  tb_b2 (fX6_isRow a1 M) (fun r3 M1 => if r3 = 0 then (some ((-1000001), M1)) else (tb_b2 (fX6_within a3 1 12 M1) (fun r7 M5 => if r7 = 0 then (some ((-1000001), M5)) else (if (M5 4 8) = 0 then (some ((-1000002), M5)) else (tb_b2 (fX6_findingOf a1 a2 a3 M5) (fun r12 M10 => if r12 = 0 then (tb_ck (tb_in a1 8) (tb_b1 (fX3_hear (263 + 2 * a1.toNatClampNeg) a2 a3 M10) (fun M15 => tb_b2 (fX3_paceAsItIs 4 M15) (fun r19 M17 => tb_b2 (fX6_fine r19 M17) (fun r22 M20 => some (r22, M20)))))) else (tb_b2 (fX6_found r12 M10) (fun r25 M23 => some (r25, M23)))))))))
abbrev rmX6_pace : Room := { frames := 7, cells := 0, slots := 0, locals := 193 }
set_option maxHeartbeats 4000000 in
set_option maxRecDepth 100000 in
theorem tX6_pace (g : tb_GT) (l : Launch) (a1 : Int32) (a2 : Int32) (a3 : Int32) (M M' : tb_Mem) (r : Int32) (h : fX6_pace a1 a2 a3 M = some (r, M')) : tb_C g l yX6_pace (Cond.code yX6_pace cX6_pace 5 (some .int)) rmX6_pace [.ref (tb_ad g 0), .int a1, .int a2, .int a3] M M' (some (.int r)) := by
  refine tb_entry (by decide) (Nat.le_of_ble_eq_true rfl) ?_
  intro P e s m below meth c F hP hS ls hl
  have F : tb_F g cX6_pace 5 RX6 (some .int) (Cond.code yX6_pace cX6_pace 5 (some .int)) P s m ([.ref (tb_ad g 0), .int a1, .int a2, .int a3] : List Value).toArray meth c := F
  have hx := F.1.1
  have hb := F.1.2.1
  have hl : lv_has ls 5 [(0, .ref (tb_ad g 0)), (1, .int a1), (2, .int a2), (3, .int a3)] := hl
  unfold fX6_pace at h
  refine lv_iload_n hx hb dX6_pace_0 rfl (lv_at hl 1 rfl) ?_
  obtain ⟨r3, M1, e2, h⟩ := tb_b2s h
  refine tb_callS F hP hS hl.1 kX6_isRow km_X6_58 (as := [.int a1]) (tX6_isRow g l a1 M M1 r3 e2) ⟨rfl, rfl, Nat.le_of_ble_eq_true rfl, Nat.le_of_ble_eq_true rfl⟩ rfl (rest := []) rfl (st1 := [.int r3]) rfl (Nat.le_of_ble_eq_true rfl) ⟨Nat.zero_le _, Nat.zero_le _⟩ dX6_pace_1 (fun H locs hP hS => ?_)
  refine lv_if_eq (tgt := 17) hx hb dX6_pace_4 (by decide) (fun c4 => ?_) (fun c4 => ?_)
  · have h := tb_ip c4 h
    refine lv_ldc (v := (-1000001)) hx hb F.1.2.2.2.1 (tb_hts F kc_X6_66) dX6_pace_17 ?_
    exact tb_iret h F hP hS dX6_pace_19
  · have h := tb_ineg c4 h
    refine lv_iload_n hx hb dX6_pace_7 rfl (lv_at hl 3 rfl) ?_
    refine lv_iconst (v := 1) hx hb dX6_pace_8 (by decide) ?_
    refine lv_bipush (v := 12) hx hb dX6_pace_9 (by decide) ?_
    obtain ⟨r7, M5, e6, h⟩ := tb_b2s h
    refine tb_callS F hP hS hl.1 kX6_within km_X6_62 (as := [.int a3, .int 1, .int 12]) (tX6_within g l a3 1 12 M1 M5 r7 e6) ⟨rfl, rfl, Nat.le_of_ble_eq_true rfl, Nat.le_of_ble_eq_true rfl⟩ rfl (rest := []) rfl (st1 := [.int r7]) rfl (Nat.le_of_ble_eq_true rfl) ⟨Nat.zero_le _, Nat.zero_le _⟩ dX6_pace_11 (fun H locs hP hS => ?_)
    refine lv_if_ne (tgt := 20) hx hb dX6_pace_14 (by decide) (fun c8 => ?_) (fun c8 => ?_)
    · have h := tb_ineg c8 h
      refine lv_aload_n hx hb dX6_pace_20 rfl (lv_at hl 0 rfl) ?_
      refine tb_getr F hP tb_l0 (ci := 6) rfl inlX6 2 (by decide) rfl kf_X6_25 dX6_pace_21 ?_
      refine tb_geti F hP tb_B4.1 (ci := 2) rfl inlX2 8 (by decide) rfl kf_X6_134 dX6_pace_24 ?_
      refine lv_if_ne (tgt := 33) hx hb dX6_pace_27 (by decide) (fun c9 => ?_) (fun c9 => ?_)
      · have h := tb_ineg c9 h
        refine lv_aload_n hx hb dX6_pace_33 rfl (lv_at hl 0 rfl) ?_
        refine lv_iload_n hx hb dX6_pace_34 rfl (lv_at hl 1 rfl) ?_
        refine lv_iload_n hx hb dX6_pace_35 rfl (lv_at hl 2 rfl) ?_
        refine lv_iload_n hx hb dX6_pace_36 rfl (lv_at hl 3 rfl) ?_
        obtain ⟨r12, M10, e11, h⟩ := tb_b2s h
        refine tb_callV F hP hS hl.1 kX6_findingOf km_X6_78 (as := [.int a1, .int a2, .int a3]) (tX6_findingOf g l a1 a2 a3 M5 M10 r12 e11) tb_l0 ⟨rfl, rfl, Nat.le_of_ble_eq_true rfl, Nat.le_of_ble_eq_true rfl⟩ rfl (rest := []) rfl (st1 := [.int r12]) rfl (Nat.le_of_ble_eq_true rfl) ⟨Nat.zero_le _, Nat.zero_le _⟩ dX6_pace_37 (fun H locs hP hS => ?_)
        refine lv_istore (lv' := [(4, .int r12), (0, .ref (tb_ad g 0)), (1, .int a1), (2, .int a2), (3, .int a3)]) hx hb dX6_pace_40 hl (by decide) rfl (fun ls hl => ?_)
        refine lv_iload hx hb dX6_pace_42 (lv_at hl 0 rfl) ?_
        refine lv_if_eq (tgt := 54) hx hb dX6_pace_44 (by decide) (fun c13 => ?_) (fun c13 => ?_)
        · have h := tb_ip c13 h
          refine lv_aload_n hx hb dX6_pace_54 rfl (lv_at hl 1 rfl) ?_
          refine tb_getr F hP tb_l0 (ci := 6) rfl inlX6 5 (by decide) rfl kf_X6_42 dX6_pace_55 ?_
          refine lv_aload_n hx hb dX6_pace_58 rfl (lv_at hl 1 rfl) ?_
          refine tb_getr F hP tb_l0 (ci := 6) rfl inlX6 0 (by decide) rfl kf_X6_11 dX6_pace_59 ?_
          refine lv_iload_n hx hb dX6_pace_62 rfl (lv_at hl 2 rfl) ?_
          obtain ⟨k14, h⟩ := tb_cks h
          refine tb_aald F hP tb_l1 (C := RX4) rfl (tb_inv k14) (tb_rowsG (tb_ltOf k14)) dX6_pace_63 ?_
          refine lv_iload_n hx hb dX6_pace_64 rfl (lv_at hl 3 rfl) ?_
          refine lv_iload_n hx hb dX6_pace_65 rfl (lv_at hl 4 rfl) ?_
          obtain ⟨M15, e16, h⟩ := tb_b1s h
          refine tb_callV F hP hS hl.1 kX3_hear km_X6_225 (as := [.ref (tb_ad g (263 + 2 * a1.toNatClampNeg)), .int a2, .int a3]) (tX3_hear g l (263 + 2 * a1.toNatClampNeg) (tb_Rrow (tb_ltOf k14)) a2 a3 M10 M15 e16) tb_l240 ⟨rfl, rfl, Nat.le_of_ble_eq_true rfl, Nat.le_of_ble_eq_true rfl⟩ rfl (rest := []) rfl (st1 := []) rfl (Nat.le_of_ble_eq_true rfl) ⟨Nat.zero_le _, Nat.zero_le _⟩ dX6_pace_66 (fun H locs hP hS => ?_)
          refine lv_aload_n hx hb dX6_pace_69 rfl (lv_at hl 1 rfl) ?_
          refine lv_aload_n hx hb dX6_pace_70 rfl (lv_at hl 1 rfl) ?_
          refine tb_getr F hP tb_l0 (ci := 6) rfl inlX6 5 (by decide) rfl kf_X6_42 dX6_pace_71 ?_
          refine lv_aload_n hx hb dX6_pace_74 rfl (lv_at hl 1 rfl) ?_
          refine tb_getr F hP tb_l0 (ci := 6) rfl inlX6 2 (by decide) rfl kf_X6_25 dX6_pace_75 ?_
          obtain ⟨r19, M17, e18, h⟩ := tb_b2s h
          refine tb_callV F hP hS hl.1 kX3_paceAsItIs km_X6_229 (as := [.ref (tb_ad g 4)]) (tX3_paceAsItIs g l 4 tb_B4 M15 M17 r19 e18) tb_l240 ⟨rfl, rfl, Nat.le_of_ble_eq_true rfl, Nat.le_of_ble_eq_true rfl⟩ rfl (rest := [.ref (tb_ad g 0)]) rfl (st1 := [.int r19, .ref (tb_ad g 0)]) rfl (Nat.le_of_ble_eq_true rfl) ⟨Nat.zero_le _, Nat.zero_le _⟩ dX6_pace_78 (fun H locs hP hS => ?_)
          obtain ⟨r22, M20, e21, h⟩ := tb_b2s h
          refine tb_callV F hP hS hl.1 kX6_fine km_X6_75 (as := [.int r19]) (tX6_fine g l r19 M17 M20 r22 e21) tb_l0 ⟨rfl, rfl, Nat.le_of_ble_eq_true rfl, Nat.le_of_ble_eq_true rfl⟩ rfl (rest := []) rfl (st1 := [.int r22]) rfl (Nat.le_of_ble_eq_true rfl) ⟨Nat.zero_le _, Nat.zero_le _⟩ dX6_pace_81 (fun H locs hP hS => ?_)
          exact tb_iret h F hP hS dX6_pace_84
        · have h := tb_ineg c13 h
          refine lv_aload_n hx hb dX6_pace_47 rfl (lv_at hl 1 rfl) ?_
          refine lv_iload hx hb dX6_pace_48 (lv_at hl 0 rfl) ?_
          obtain ⟨r25, M23, e24, h⟩ := tb_b2s h
          refine tb_callV F hP hS hl.1 kX6_found km_X6_67 (as := [.int r12]) (tX6_found g l r12 M10 M23 r25 e24) tb_l0 ⟨rfl, rfl, Nat.le_of_ble_eq_true rfl, Nat.le_of_ble_eq_true rfl⟩ rfl (rest := []) rfl (st1 := [.int r25]) rfl (Nat.le_of_ble_eq_true rfl) ⟨Nat.zero_le _, Nat.zero_le _⟩ dX6_pace_50 (fun H locs hP hS => ?_)
          exact tb_iret h F hP hS dX6_pace_53
      · have h := tb_ip c9 h
        refine lv_ldc (v := (-1000002)) hx hb F.1.2.2.2.1 (tb_hts F kc_X6_137) dX6_pace_30 ?_
        exact tb_iret h F hP hS dX6_pace_32
    · have h := tb_ip c8 h
      refine lv_ldc (v := (-1000001)) hx hb F.1.2.2.2.1 (tb_hts F kc_X6_66) dX6_pace_17 ?_
      exact tb_iret h F hP hS dX6_pace_19
def fX6_better (a1 : Int32) (a2 : Int32) (a3 : Int32) (a4 : Int32) (M : tb_Mem) : Option (Int32 × tb_Mem) :=
  tb_b2 (fX6_isRow a1 M) (fun r3 M1 => if r3 = 0 then (some ((-1000001), M1)) else (tb_b2 (fX6_within a3 1 12 M1) (fun r7 M5 => if r7 = 0 then (some ((-1000001), M5)) else (tb_b2 (fX6_within a4 0 1 M5) (fun r11 M9 => if r11 = 0 then (some ((-1000001), M9)) else (if (M9 4 8) = 0 then (some ((-1000002), M9)) else (tb_b2 (fX6_findingOf a1 a2 a3 M9) (fun r16 M14 => if r16 = 0 then (tb_ck (tb_in a1 8) (tb_b1 (fX3_hear (263 + 2 * a1.toNatClampNeg) a2 a3 M14) (fun M19 => tb_b2 (fX3_bestSwap 4 M19) (fun r23 M21 => if r23 = (-1000000) then (tb_b2 (fX6_fine r23 M21) (fun r27 M25 => some (r27, M25))) else (if a4 = 0 then (tb_b2 (fX6_fine r23 M21) (fun r34 M32 => some (r34, M32))) else (tb_b2 (fX6_fine (M21 240 4) M21) (fun r31 M29 => some (r31, M29)))))))) else (tb_b2 (fX6_found r16 M14) (fun r37 M35 => some (r37, M35)))))))))))
abbrev rmX6_better : Room := { frames := 7, cells := 0, slots := 0, locals := 198 }
set_option maxHeartbeats 4000000 in
set_option maxRecDepth 100000 in
theorem tX6_better (g : tb_GT) (l : Launch) (a1 : Int32) (a2 : Int32) (a3 : Int32) (a4 : Int32) (M M' : tb_Mem) (r : Int32) (h : fX6_better a1 a2 a3 a4 M = some (r, M')) : tb_C g l yX6_better (Cond.code yX6_better cX6_better 7 (some .int)) rmX6_better [.ref (tb_ad g 0), .int a1, .int a2, .int a3, .int a4] M M' (some (.int r)) := by
  refine tb_entry (by decide) (Nat.le_of_ble_eq_true rfl) ?_
  intro P e s m below meth c F hP hS ls hl
  have F : tb_F g cX6_better 7 RX6 (some .int) (Cond.code yX6_better cX6_better 7 (some .int)) P s m ([.ref (tb_ad g 0), .int a1, .int a2, .int a3, .int a4] : List Value).toArray meth c := F
  have hx := F.1.1
  have hb := F.1.2.1
  have hl : lv_has ls 7 [(0, .ref (tb_ad g 0)), (1, .int a1), (2, .int a2), (3, .int a3), (4, .int a4)] := hl
  unfold fX6_better at h
  refine lv_iload_n hx hb dX6_better_0 rfl (lv_at hl 1 rfl) ?_
  obtain ⟨r3, M1, e2, h⟩ := tb_b2s h
  refine tb_callS F hP hS hl.1 kX6_isRow km_X6_58 (as := [.int a1]) (tX6_isRow g l a1 M M1 r3 e2) ⟨rfl, rfl, Nat.le_of_ble_eq_true rfl, Nat.le_of_ble_eq_true rfl⟩ rfl (rest := []) rfl (st1 := [.int r3]) rfl (Nat.le_of_ble_eq_true rfl) ⟨Nat.zero_le _, Nat.zero_le _⟩ dX6_better_1 (fun H locs hP hS => ?_)
  refine lv_if_eq (tgt := 27) hx hb dX6_better_4 (by decide) (fun c4 => ?_) (fun c4 => ?_)
  · have h := tb_ip c4 h
    refine lv_ldc (v := (-1000001)) hx hb F.1.2.2.2.1 (tb_hts F kc_X6_66) dX6_better_27 ?_
    exact tb_iret h F hP hS dX6_better_29
  · have h := tb_ineg c4 h
    refine lv_iload_n hx hb dX6_better_7 rfl (lv_at hl 3 rfl) ?_
    refine lv_iconst (v := 1) hx hb dX6_better_8 (by decide) ?_
    refine lv_bipush (v := 12) hx hb dX6_better_9 (by decide) ?_
    obtain ⟨r7, M5, e6, h⟩ := tb_b2s h
    refine tb_callS F hP hS hl.1 kX6_within km_X6_62 (as := [.int a3, .int 1, .int 12]) (tX6_within g l a3 1 12 M1 M5 r7 e6) ⟨rfl, rfl, Nat.le_of_ble_eq_true rfl, Nat.le_of_ble_eq_true rfl⟩ rfl (rest := []) rfl (st1 := [.int r7]) rfl (Nat.le_of_ble_eq_true rfl) ⟨Nat.zero_le _, Nat.zero_le _⟩ dX6_better_11 (fun H locs hP hS => ?_)
    refine lv_if_eq (tgt := 27) hx hb dX6_better_14 (by decide) (fun c8 => ?_) (fun c8 => ?_)
    · have h := tb_ip c8 h
      refine lv_ldc (v := (-1000001)) hx hb F.1.2.2.2.1 (tb_hts F kc_X6_66) dX6_better_27 ?_
      exact tb_iret h F hP hS dX6_better_29
    · have h := tb_ineg c8 h
      refine lv_iload hx hb dX6_better_17 (lv_at hl 4 rfl) ?_
      refine lv_iconst (v := 0) hx hb dX6_better_19 (by decide) ?_
      refine lv_iconst (v := 1) hx hb dX6_better_20 (by decide) ?_
      obtain ⟨r11, M9, e10, h⟩ := tb_b2s h
      refine tb_callS F hP hS hl.1 kX6_within km_X6_62 (as := [.int a4, .int 0, .int 1]) (tX6_within g l a4 0 1 M5 M9 r11 e10) ⟨rfl, rfl, Nat.le_of_ble_eq_true rfl, Nat.le_of_ble_eq_true rfl⟩ rfl (rest := []) rfl (st1 := [.int r11]) rfl (Nat.le_of_ble_eq_true rfl) ⟨Nat.zero_le _, Nat.zero_le _⟩ dX6_better_21 (fun H locs hP hS => ?_)
      refine lv_if_ne (tgt := 30) hx hb dX6_better_24 (by decide) (fun c12 => ?_) (fun c12 => ?_)
      · have h := tb_ineg c12 h
        refine lv_aload_n hx hb dX6_better_30 rfl (lv_at hl 0 rfl) ?_
        refine tb_getr F hP tb_l0 (ci := 6) rfl inlX6 2 (by decide) rfl kf_X6_25 dX6_better_31 ?_
        refine tb_geti F hP tb_B4.1 (ci := 2) rfl inlX2 8 (by decide) rfl kf_X6_134 dX6_better_34 ?_
        refine lv_if_ne (tgt := 43) hx hb dX6_better_37 (by decide) (fun c13 => ?_) (fun c13 => ?_)
        · have h := tb_ineg c13 h
          refine lv_aload_n hx hb dX6_better_43 rfl (lv_at hl 0 rfl) ?_
          refine lv_iload_n hx hb dX6_better_44 rfl (lv_at hl 1 rfl) ?_
          refine lv_iload_n hx hb dX6_better_45 rfl (lv_at hl 2 rfl) ?_
          refine lv_iload_n hx hb dX6_better_46 rfl (lv_at hl 3 rfl) ?_
          obtain ⟨r16, M14, e15, h⟩ := tb_b2s h
          refine tb_callV F hP hS hl.1 kX6_findingOf km_X6_78 (as := [.int a1, .int a2, .int a3]) (tX6_findingOf g l a1 a2 a3 M9 M14 r16 e15) tb_l0 ⟨rfl, rfl, Nat.le_of_ble_eq_true rfl, Nat.le_of_ble_eq_true rfl⟩ rfl (rest := []) rfl (st1 := [.int r16]) rfl (Nat.le_of_ble_eq_true rfl) ⟨Nat.zero_le _, Nat.zero_le _⟩ dX6_better_47 (fun H locs hP hS => ?_)
          refine lv_istore (lv' := [(5, .int r16), (0, .ref (tb_ad g 0)), (1, .int a1), (2, .int a2), (3, .int a3), (4, .int a4)]) hx hb dX6_better_50 hl (by decide) rfl (fun ls hl => ?_)
          refine lv_iload hx hb dX6_better_52 (lv_at hl 0 rfl) ?_
          refine lv_if_eq (tgt := 64) hx hb dX6_better_54 (by decide) (fun c17 => ?_) (fun c17 => ?_)
          · have h := tb_ip c17 h
            refine lv_aload_n hx hb dX6_better_64 rfl (lv_at hl 1 rfl) ?_
            refine tb_getr F hP tb_l0 (ci := 6) rfl inlX6 5 (by decide) rfl kf_X6_42 dX6_better_65 ?_
            refine lv_aload_n hx hb dX6_better_68 rfl (lv_at hl 1 rfl) ?_
            refine tb_getr F hP tb_l0 (ci := 6) rfl inlX6 0 (by decide) rfl kf_X6_11 dX6_better_69 ?_
            refine lv_iload_n hx hb dX6_better_72 rfl (lv_at hl 2 rfl) ?_
            obtain ⟨k18, h⟩ := tb_cks h
            refine tb_aald F hP tb_l1 (C := RX4) rfl (tb_inv k18) (tb_rowsG (tb_ltOf k18)) dX6_better_73 ?_
            refine lv_iload_n hx hb dX6_better_74 rfl (lv_at hl 3 rfl) ?_
            refine lv_iload_n hx hb dX6_better_75 rfl (lv_at hl 4 rfl) ?_
            obtain ⟨M19, e20, h⟩ := tb_b1s h
            refine tb_callV F hP hS hl.1 kX3_hear km_X6_225 (as := [.ref (tb_ad g (263 + 2 * a1.toNatClampNeg)), .int a2, .int a3]) (tX3_hear g l (263 + 2 * a1.toNatClampNeg) (tb_Rrow (tb_ltOf k18)) a2 a3 M14 M19 e20) tb_l240 ⟨rfl, rfl, Nat.le_of_ble_eq_true rfl, Nat.le_of_ble_eq_true rfl⟩ rfl (rest := []) rfl (st1 := []) rfl (Nat.le_of_ble_eq_true rfl) ⟨Nat.zero_le _, Nat.zero_le _⟩ dX6_better_76 (fun H locs hP hS => ?_)
            refine lv_aload_n hx hb dX6_better_79 rfl (lv_at hl 1 rfl) ?_
            refine tb_getr F hP tb_l0 (ci := 6) rfl inlX6 5 (by decide) rfl kf_X6_42 dX6_better_80 ?_
            refine lv_aload_n hx hb dX6_better_83 rfl (lv_at hl 1 rfl) ?_
            refine tb_getr F hP tb_l0 (ci := 6) rfl inlX6 2 (by decide) rfl kf_X6_25 dX6_better_84 ?_
            obtain ⟨r23, M21, e22, h⟩ := tb_b2s h
            refine tb_callV F hP hS hl.1 kX3_bestSwap km_X6_232 (as := [.ref (tb_ad g 4)]) (tX3_bestSwap g l 4 tb_B4 M19 M21 r23 e22) tb_l240 ⟨rfl, rfl, Nat.le_of_ble_eq_true rfl, Nat.le_of_ble_eq_true rfl⟩ rfl (rest := []) rfl (st1 := [.int r23]) rfl (Nat.le_of_ble_eq_true rfl) ⟨Nat.zero_le _, Nat.zero_le _⟩ dX6_better_87 (fun H locs hP hS => ?_)
            refine lv_istore (lv' := [(6, .int r23), (5, .int r16), (0, .ref (tb_ad g 0)), (1, .int a1), (2, .int a2), (3, .int a3), (4, .int a4)]) hx hb dX6_better_90 hl (by decide) rfl (fun ls hl => ?_)
            refine lv_aload_n hx hb dX6_better_92 rfl (lv_at hl 2 rfl) ?_
            refine lv_iload hx hb dX6_better_93 (lv_at hl 0 rfl) ?_
            refine lv_ldc (v := (-1000000)) hx hb F.1.2.2.2.1 (tb_hts F kc_X6_201) dX6_better_95 ?_
            refine lv_icmp_eq (tgt := 105) hx hb dX6_better_97 (by decide) (fun c24 => ?_) (fun c24 => ?_)
            · have h := tb_ip c24 h
              refine lv_iload hx hb dX6_better_105 (lv_at hl 0 rfl) ?_
              refine lv_goto (tgt := 117) hx hb dX6_better_107 (by decide) ?_
              obtain ⟨r27, M25, e26, h⟩ := tb_b2s h
              refine tb_callV F hP hS hl.1 kX6_fine km_X6_75 (as := [.int r23]) (tX6_fine g l r23 M21 M25 r27 e26) tb_l0 ⟨rfl, rfl, Nat.le_of_ble_eq_true rfl, Nat.le_of_ble_eq_true rfl⟩ rfl (rest := []) rfl (st1 := [.int r27]) rfl (Nat.le_of_ble_eq_true rfl) ⟨Nat.zero_le _, Nat.zero_le _⟩ dX6_better_117 (fun H locs hP hS => ?_)
              exact tb_iret h F hP hS dX6_better_120
            · have h := tb_ineg c24 h
              refine lv_iload hx hb dX6_better_100 (lv_at hl 6 rfl) ?_
              refine lv_if_ne (tgt := 110) hx hb dX6_better_102 (by decide) (fun c28 => ?_) (fun c28 => ?_)
              · have h := tb_ineg c28 h
                refine lv_aload_n hx hb dX6_better_110 rfl (lv_at hl 2 rfl) ?_
                refine tb_getr F hP tb_l0 (ci := 6) rfl inlX6 5 (by decide) rfl kf_X6_42 dX6_better_111 ?_
                refine tb_geti F hP tb_l240 (ci := 3) rfl inlX3 4 (by decide) rfl kf_X6_235 dX6_better_114 ?_
                obtain ⟨r31, M29, e30, h⟩ := tb_b2s h
                refine tb_callV F hP hS hl.1 kX6_fine km_X6_75 (as := [.int (M21 240 4)]) (tX6_fine g l (M21 240 4) M21 M29 r31 e30) tb_l0 ⟨rfl, rfl, Nat.le_of_ble_eq_true rfl, Nat.le_of_ble_eq_true rfl⟩ rfl (rest := []) rfl (st1 := [.int r31]) rfl (Nat.le_of_ble_eq_true rfl) ⟨Nat.zero_le _, Nat.zero_le _⟩ dX6_better_117 (fun H locs hP hS => ?_)
                exact tb_iret h F hP hS dX6_better_120
              · have h := tb_ip c28 h
                refine lv_iload hx hb dX6_better_105 (lv_at hl 0 rfl) ?_
                refine lv_goto (tgt := 117) hx hb dX6_better_107 (by decide) ?_
                obtain ⟨r34, M32, e33, h⟩ := tb_b2s h
                refine tb_callV F hP hS hl.1 kX6_fine km_X6_75 (as := [.int r23]) (tX6_fine g l r23 M21 M32 r34 e33) tb_l0 ⟨rfl, rfl, Nat.le_of_ble_eq_true rfl, Nat.le_of_ble_eq_true rfl⟩ rfl (rest := []) rfl (st1 := [.int r34]) rfl (Nat.le_of_ble_eq_true rfl) ⟨Nat.zero_le _, Nat.zero_le _⟩ dX6_better_117 (fun H locs hP hS => ?_)
                exact tb_iret h F hP hS dX6_better_120
          · have h := tb_ineg c17 h
            refine lv_aload_n hx hb dX6_better_57 rfl (lv_at hl 1 rfl) ?_
            refine lv_iload hx hb dX6_better_58 (lv_at hl 0 rfl) ?_
            obtain ⟨r37, M35, e36, h⟩ := tb_b2s h
            refine tb_callV F hP hS hl.1 kX6_found km_X6_67 (as := [.int r16]) (tX6_found g l r16 M14 M35 r37 e36) tb_l0 ⟨rfl, rfl, Nat.le_of_ble_eq_true rfl, Nat.le_of_ble_eq_true rfl⟩ rfl (rest := []) rfl (st1 := [.int r37]) rfl (Nat.le_of_ble_eq_true rfl) ⟨Nat.zero_le _, Nat.zero_le _⟩ dX6_better_60 (fun H locs hP hS => ?_)
            exact tb_iret h F hP hS dX6_better_63
        · have h := tb_ip c13 h
          refine lv_ldc (v := (-1000002)) hx hb F.1.2.2.2.1 (tb_hts F kc_X6_137) dX6_better_40 ?_
          exact tb_iret h F hP hS dX6_better_42
      · have h := tb_ip c12 h
        refine lv_ldc (v := (-1000001)) hx hb F.1.2.2.2.1 (tb_hts F kc_X6_66) dX6_better_27 ?_
        exact tb_iret h F hP hS dX6_better_29
def fX6_fits (a1 : Int32) (a2 : Int32) (a3 : Int32) (a4 : Int32) (a5 : Int32) (M : tb_Mem) : Option (Int32 × tb_Mem) :=
  tb_b2 (fX2_has 4 a1 M) (fun r3 M1 => if r3 = 0 then (some ((-1000001), M1)) else (tb_b2 (fX6_isRow a2 M1) (fun r7 M5 => if r7 = 0 then (some ((-1000001), M5)) else (tb_b2 (fX6_within a4 1 12 M5) (fun r11 M9 => if r11 = 0 then (some ((-1000001), M9)) else (tb_b2 (fX6_within a5 0 3 M9) (fun r15 M13 => if r15 = 0 then (some ((-1000001), M13)) else (tb_b2 (fX6_findingOf a2 a3 a4 M13) (fun r19 M17 => if r19 = 0 then (tb_ck (tb_in a2 8) (tb_b1 (fX3_hear (263 + 2 * a2.toNatClampNeg) a3 a4 M17) (fun M22 => tb_b2 (fX3_fitting 4 a1 a5 M22) (fun r26 M24 => tb_b2 (fX6_fine r26 M24) (fun r29 M27 => some (r29, M27)))))) else (tb_b2 (fX6_found r19 M17) (fun r32 M30 => some (r32, M30))))))))))))
abbrev rmX6_fits : Room := { frames := 5, cells := 0, slots := 0, locals := 155 }
set_option maxHeartbeats 4000000 in
set_option maxRecDepth 100000 in
theorem tX6_fits (g : tb_GT) (l : Launch) (a1 : Int32) (a2 : Int32) (a3 : Int32) (a4 : Int32) (a5 : Int32) (M M' : tb_Mem) (r : Int32) (h : fX6_fits a1 a2 a3 a4 a5 M = some (r, M')) : tb_C g l yX6_fits (Cond.code yX6_fits cX6_fits 7 (some .int)) rmX6_fits [.ref (tb_ad g 0), .int a1, .int a2, .int a3, .int a4, .int a5] M M' (some (.int r)) := by
  refine tb_entry (by decide) (Nat.le_of_ble_eq_true rfl) ?_
  intro P e s m below meth c F hP hS ls hl
  have F : tb_F g cX6_fits 7 RX6 (some .int) (Cond.code yX6_fits cX6_fits 7 (some .int)) P s m ([.ref (tb_ad g 0), .int a1, .int a2, .int a3, .int a4, .int a5] : List Value).toArray meth c := F
  have hx := F.1.1
  have hb := F.1.2.1
  have hl : lv_has ls 7 [(0, .ref (tb_ad g 0)), (1, .int a1), (2, .int a2), (3, .int a3), (4, .int a4), (5, .int a5)] := hl
  unfold fX6_fits at h
  refine lv_aload_n hx hb dX6_fits_0 rfl (lv_at hl 0 rfl) ?_
  refine tb_getr F hP tb_l0 (ci := 6) rfl inlX6 2 (by decide) rfl kf_X6_25 dX6_fits_1 ?_
  refine lv_iload_n hx hb dX6_fits_4 rfl (lv_at hl 1 rfl) ?_
  obtain ⟨r3, M1, e2, h⟩ := tb_b2s h
  refine tb_callV F hP hS hl.1 kX2_has km_X6_151 (as := [.int a1]) (tX2_has g l 4 tb_B4 a1 M M1 r3 e2) tb_B4.1 ⟨rfl, rfl, Nat.le_of_ble_eq_true rfl, Nat.le_of_ble_eq_true rfl⟩ rfl (rest := []) rfl (st1 := [.int r3]) rfl (Nat.le_of_ble_eq_true rfl) ⟨Nat.zero_le _, Nat.zero_le _⟩ dX6_fits_5 (fun H locs hP hS => ?_)
  refine lv_if_eq (tgt := 39) hx hb dX6_fits_8 (by decide) (fun c4 => ?_) (fun c4 => ?_)
  · have h := tb_ip c4 h
    refine lv_ldc (v := (-1000001)) hx hb F.1.2.2.2.1 (tb_hts F kc_X6_66) dX6_fits_39 ?_
    exact tb_iret h F hP hS dX6_fits_41
  · have h := tb_ineg c4 h
    refine lv_iload_n hx hb dX6_fits_11 rfl (lv_at hl 2 rfl) ?_
    obtain ⟨r7, M5, e6, h⟩ := tb_b2s h
    refine tb_callS F hP hS hl.1 kX6_isRow km_X6_58 (as := [.int a2]) (tX6_isRow g l a2 M1 M5 r7 e6) ⟨rfl, rfl, Nat.le_of_ble_eq_true rfl, Nat.le_of_ble_eq_true rfl⟩ rfl (rest := []) rfl (st1 := [.int r7]) rfl (Nat.le_of_ble_eq_true rfl) ⟨Nat.zero_le _, Nat.zero_le _⟩ dX6_fits_12 (fun H locs hP hS => ?_)
    refine lv_if_eq (tgt := 39) hx hb dX6_fits_15 (by decide) (fun c8 => ?_) (fun c8 => ?_)
    · have h := tb_ip c8 h
      refine lv_ldc (v := (-1000001)) hx hb F.1.2.2.2.1 (tb_hts F kc_X6_66) dX6_fits_39 ?_
      exact tb_iret h F hP hS dX6_fits_41
    · have h := tb_ineg c8 h
      refine lv_iload hx hb dX6_fits_18 (lv_at hl 4 rfl) ?_
      refine lv_iconst (v := 1) hx hb dX6_fits_20 (by decide) ?_
      refine lv_bipush (v := 12) hx hb dX6_fits_21 (by decide) ?_
      obtain ⟨r11, M9, e10, h⟩ := tb_b2s h
      refine tb_callS F hP hS hl.1 kX6_within km_X6_62 (as := [.int a4, .int 1, .int 12]) (tX6_within g l a4 1 12 M5 M9 r11 e10) ⟨rfl, rfl, Nat.le_of_ble_eq_true rfl, Nat.le_of_ble_eq_true rfl⟩ rfl (rest := []) rfl (st1 := [.int r11]) rfl (Nat.le_of_ble_eq_true rfl) ⟨Nat.zero_le _, Nat.zero_le _⟩ dX6_fits_23 (fun H locs hP hS => ?_)
      refine lv_if_eq (tgt := 39) hx hb dX6_fits_26 (by decide) (fun c12 => ?_) (fun c12 => ?_)
      · have h := tb_ip c12 h
        refine lv_ldc (v := (-1000001)) hx hb F.1.2.2.2.1 (tb_hts F kc_X6_66) dX6_fits_39 ?_
        exact tb_iret h F hP hS dX6_fits_41
      · have h := tb_ineg c12 h
        refine lv_iload hx hb dX6_fits_29 (lv_at hl 5 rfl) ?_
        refine lv_iconst (v := 0) hx hb dX6_fits_31 (by decide) ?_
        refine lv_iconst (v := 3) hx hb dX6_fits_32 (by decide) ?_
        obtain ⟨r15, M13, e14, h⟩ := tb_b2s h
        refine tb_callS F hP hS hl.1 kX6_within km_X6_62 (as := [.int a5, .int 0, .int 3]) (tX6_within g l a5 0 3 M9 M13 r15 e14) ⟨rfl, rfl, Nat.le_of_ble_eq_true rfl, Nat.le_of_ble_eq_true rfl⟩ rfl (rest := []) rfl (st1 := [.int r15]) rfl (Nat.le_of_ble_eq_true rfl) ⟨Nat.zero_le _, Nat.zero_le _⟩ dX6_fits_33 (fun H locs hP hS => ?_)
        refine lv_if_ne (tgt := 42) hx hb dX6_fits_36 (by decide) (fun c16 => ?_) (fun c16 => ?_)
        · have h := tb_ineg c16 h
          refine lv_aload_n hx hb dX6_fits_42 rfl (lv_at hl 0 rfl) ?_
          refine lv_iload_n hx hb dX6_fits_43 rfl (lv_at hl 2 rfl) ?_
          refine lv_iload_n hx hb dX6_fits_44 rfl (lv_at hl 3 rfl) ?_
          refine lv_iload hx hb dX6_fits_45 (lv_at hl 4 rfl) ?_
          obtain ⟨r19, M17, e18, h⟩ := tb_b2s h
          refine tb_callV F hP hS hl.1 kX6_findingOf km_X6_78 (as := [.int a2, .int a3, .int a4]) (tX6_findingOf g l a2 a3 a4 M13 M17 r19 e18) tb_l0 ⟨rfl, rfl, Nat.le_of_ble_eq_true rfl, Nat.le_of_ble_eq_true rfl⟩ rfl (rest := []) rfl (st1 := [.int r19]) rfl (Nat.le_of_ble_eq_true rfl) ⟨Nat.zero_le _, Nat.zero_le _⟩ dX6_fits_47 (fun H locs hP hS => ?_)
          refine lv_istore (lv' := [(6, .int r19), (0, .ref (tb_ad g 0)), (1, .int a1), (2, .int a2), (3, .int a3), (4, .int a4), (5, .int a5)]) hx hb dX6_fits_50 hl (by decide) rfl (fun ls hl => ?_)
          refine lv_iload hx hb dX6_fits_52 (lv_at hl 0 rfl) ?_
          refine lv_if_eq (tgt := 64) hx hb dX6_fits_54 (by decide) (fun c20 => ?_) (fun c20 => ?_)
          · have h := tb_ip c20 h
            refine lv_aload_n hx hb dX6_fits_64 rfl (lv_at hl 1 rfl) ?_
            refine tb_getr F hP tb_l0 (ci := 6) rfl inlX6 5 (by decide) rfl kf_X6_42 dX6_fits_65 ?_
            refine lv_aload_n hx hb dX6_fits_68 rfl (lv_at hl 1 rfl) ?_
            refine tb_getr F hP tb_l0 (ci := 6) rfl inlX6 0 (by decide) rfl kf_X6_11 dX6_fits_69 ?_
            refine lv_iload_n hx hb dX6_fits_72 rfl (lv_at hl 3 rfl) ?_
            obtain ⟨k21, h⟩ := tb_cks h
            refine tb_aald F hP tb_l1 (C := RX4) rfl (tb_inv k21) (tb_rowsG (tb_ltOf k21)) dX6_fits_73 ?_
            refine lv_iload_n hx hb dX6_fits_74 rfl (lv_at hl 4 rfl) ?_
            refine lv_iload hx hb dX6_fits_75 (lv_at hl 5 rfl) ?_
            obtain ⟨M22, e23, h⟩ := tb_b1s h
            refine tb_callV F hP hS hl.1 kX3_hear km_X6_225 (as := [.ref (tb_ad g (263 + 2 * a2.toNatClampNeg)), .int a3, .int a4]) (tX3_hear g l (263 + 2 * a2.toNatClampNeg) (tb_Rrow (tb_ltOf k21)) a3 a4 M17 M22 e23) tb_l240 ⟨rfl, rfl, Nat.le_of_ble_eq_true rfl, Nat.le_of_ble_eq_true rfl⟩ rfl (rest := []) rfl (st1 := []) rfl (Nat.le_of_ble_eq_true rfl) ⟨Nat.zero_le _, Nat.zero_le _⟩ dX6_fits_77 (fun H locs hP hS => ?_)
            refine lv_aload_n hx hb dX6_fits_80 rfl (lv_at hl 1 rfl) ?_
            refine lv_aload_n hx hb dX6_fits_81 rfl (lv_at hl 1 rfl) ?_
            refine tb_getr F hP tb_l0 (ci := 6) rfl inlX6 5 (by decide) rfl kf_X6_42 dX6_fits_82 ?_
            refine lv_aload_n hx hb dX6_fits_85 rfl (lv_at hl 1 rfl) ?_
            refine tb_getr F hP tb_l0 (ci := 6) rfl inlX6 2 (by decide) rfl kf_X6_25 dX6_fits_86 ?_
            refine lv_iload_n hx hb dX6_fits_89 rfl (lv_at hl 2 rfl) ?_
            refine lv_iload hx hb dX6_fits_90 (lv_at hl 6 rfl) ?_
            obtain ⟨r26, M24, e25, h⟩ := tb_b2s h
            refine tb_callV F hP hS hl.1 kX3_fitting km_X6_238 (as := [.ref (tb_ad g 4), .int a1, .int a5]) (tX3_fitting g l 4 tb_B4 a1 a5 M22 M24 r26 e25) tb_l240 ⟨rfl, rfl, Nat.le_of_ble_eq_true rfl, Nat.le_of_ble_eq_true rfl⟩ rfl (rest := [.ref (tb_ad g 0)]) rfl (st1 := [.int r26, .ref (tb_ad g 0)]) rfl (Nat.le_of_ble_eq_true rfl) ⟨Nat.zero_le _, Nat.zero_le _⟩ dX6_fits_92 (fun H locs hP hS => ?_)
            obtain ⟨r29, M27, e28, h⟩ := tb_b2s h
            refine tb_callV F hP hS hl.1 kX6_fine km_X6_75 (as := [.int r26]) (tX6_fine g l r26 M24 M27 r29 e28) tb_l0 ⟨rfl, rfl, Nat.le_of_ble_eq_true rfl, Nat.le_of_ble_eq_true rfl⟩ rfl (rest := []) rfl (st1 := [.int r29]) rfl (Nat.le_of_ble_eq_true rfl) ⟨Nat.zero_le _, Nat.zero_le _⟩ dX6_fits_95 (fun H locs hP hS => ?_)
            exact tb_iret h F hP hS dX6_fits_98
          · have h := tb_ineg c20 h
            refine lv_aload_n hx hb dX6_fits_57 rfl (lv_at hl 1 rfl) ?_
            refine lv_iload hx hb dX6_fits_58 (lv_at hl 0 rfl) ?_
            obtain ⟨r32, M30, e31, h⟩ := tb_b2s h
            refine tb_callV F hP hS hl.1 kX6_found km_X6_67 (as := [.int r19]) (tX6_found g l r19 M17 M30 r32 e31) tb_l0 ⟨rfl, rfl, Nat.le_of_ble_eq_true rfl, Nat.le_of_ble_eq_true rfl⟩ rfl (rest := []) rfl (st1 := [.int r32]) rfl (Nat.le_of_ble_eq_true rfl) ⟨Nat.zero_le _, Nat.zero_le _⟩ dX6_fits_60 (fun H locs hP hS => ?_)
            exact tb_iret h F hP hS dX6_fits_63
        · have h := tb_ip c16 h
          refine lv_ldc (v := (-1000001)) hx hb F.1.2.2.2.1 (tb_hts F kc_X6_66) dX6_fits_39 ?_
          exact tb_iret h F hP hS dX6_fits_41
def fX6_commonDivisor_L9 : Nat → Int64 → Int64 → Int32 → tb_Mem → Option (Int64 × tb_Mem)
  | 0, _, _, _, _ => none
  | n + 1, x4, x6, x8, M => if 128 ≤ x8 then (some (x4, M)) else (if (lg_cmp x6 0) = 0 then (some (x4, M)) else (tb_ck (x6 != 0) (fX6_commonDivisor_L9 n x6 (x4 - x4 / x6 * x6) (x8 + 1) M)))
def fX6_commonDivisor (a0 : Int64) (a2 : Int64) (M : tb_Mem) : Option (Int64 × tb_Mem) :=
  fX6_commonDivisor_L9 tb_N a0 a2 0 M
abbrev rmX6_commonDivisor : Room := { frames := 0, cells := 0, slots := 0, locals := 0 }
set_option maxHeartbeats 4000000 in
set_option maxRecDepth 100000 in
theorem tX6_commonDivisor_L9 {g : tb_GT} {l : Launch} {P : Program} {e : Env} {s : State} {m : MethodId} {below : List Frame} {meth : Method} {c : Code} {a0 : Int64} {a2 : Int64} {M' : tb_Mem} {r : Int64} (F : tb_F g cX6_commonDivisor 11 RX6 (some .long) (Cond.code yX6_commonDivisor cX6_commonDivisor 11 (some .long)) P s m ([.long a0, .long a2] : List Value).toArray meth c) :
    ∀ (n : Nat) (x4 : Int64) (x6 : Int64) (x8 : Int32) (M : tb_Mem) (H : Heap) (locs : List Loc) (ls : Array Slot), tb_P g M H → va_S (tb_A g) s.heap H locs → lv_has ls 11 [(4, .long x4), (6, .long x6), (8, .int x8)] → fX6_commonDivisor_L9 n x4 x6 x8 M = some (r, M') → W P l e rmX6_commonDivisor s m ([.long a0, .long a2] : List Value).toArray below meth c H locs 0 0 (MQ below (tb_Q g M' (some (.long r))) ([.long a0, .long a2] : List Value).toArray s 0 0 (tb_A g)) (F0 m 9 ls []) := by
  have hx := F.1.1
  have hb := F.1.2.1
  intro n
  induction n with
  | zero =>
    intro x4 x6 x8 M H locs ls hP hS hl h
    rw [fX6_commonDivisor_L9] at h
    exact tb_none h
  | succ n ih =>
    intro x4 x6 x8 M H locs ls hP hS hl h
    rw [fX6_commonDivisor_L9] at h
    refine lv_iload hx hb dX6_commonDivisor_9 (lv_at hl 2 rfl) ?_
    refine lv_sipush (v := 128) hx hb dX6_commonDivisor_11 (by decide) ?_
    refine lv_icmp_ge (tgt := 45) hx hb dX6_commonDivisor_14 (by decide) (fun c1 => ?_) (fun c1 => ?_)
    · have h := tb_ip c1 h
      refine lv_lload hx hb dX6_commonDivisor_45 (lv_at hl 0 rfl) ?_
      exact tb_lret h F hP hS dX6_commonDivisor_47
    · have h := tb_ineg c1 h
      refine lv_lload hx hb dX6_commonDivisor_17 (lv_at hl 1 rfl) ?_
      refine lv_lconst (v := 0) hx hb dX6_commonDivisor_19 (by decide) ?_
      refine W.lcmp hx hb dX6_commonDivisor_20 ?_
      refine lv_if_eq (tgt := 45) hx hb dX6_commonDivisor_21 (by decide) (fun c2 => ?_) (fun c2 => ?_)
      · have h := tb_ip c2 h
        refine lv_lload hx hb dX6_commonDivisor_45 (lv_at hl 0 rfl) ?_
        exact tb_lret h F hP hS dX6_commonDivisor_47
      · have h := tb_ineg c2 h
        refine lv_lload hx hb dX6_commonDivisor_24 (lv_at hl 0 rfl) ?_
        refine lv_lload hx hb dX6_commonDivisor_26 (lv_at hl 1 rfl) ?_
        obtain ⟨k3, h⟩ := tb_cks h
        refine lv_lrem hx hb dX6_commonDivisor_28 (tb_ne0l k3) ?_
        refine lv_lstore (lv' := [(9, .long (x4 - x4 / x6 * x6)), (4, .long x4), (6, .long x6), (8, .int x8)]) hx hb dX6_commonDivisor_29 hl (by decide) rfl (fun ls hl => ?_)
        refine lv_lload hx hb dX6_commonDivisor_31 (lv_at hl 2 rfl) ?_
        refine lv_lstore (lv' := [(4, .long x6), (9, .long (x4 - x4 / x6 * x6)), (6, .long x6), (8, .int x8)]) hx hb dX6_commonDivisor_33 hl (by decide) rfl (fun ls hl => ?_)
        refine lv_lload hx hb dX6_commonDivisor_35 (lv_at hl 1 rfl) ?_
        refine lv_lstore (lv' := [(6, .long (x4 - x4 / x6 * x6)), (4, .long x6), (9, .long (x4 - x4 / x6 * x6)), (8, .int x8)]) hx hb dX6_commonDivisor_37 hl (by decide) rfl (fun ls hl => ?_)
        refine lv_iinc (v := (x8 + 1)) (lv' := [(8, .int (x8 + 1)), (6, .long (x4 - x4 / x6 * x6)), (4, .long x6), (9, .long (x4 - x4 / x6 * x6))]) hx hb dX6_commonDivisor_39 hl (k := 3) rfl rfl (by decide) rfl (fun ls hl => ?_)
        refine lv_goto (tgt := 9) hx hb dX6_commonDivisor_42 (by decide) ?_
        exact ih x6 (x4 - x4 / x6 * x6) (x8 + 1) M _ _ _ hP hS (lv_sub hl [2, 1, 0] rfl) h
set_option maxHeartbeats 4000000 in
set_option maxRecDepth 100000 in
theorem tX6_commonDivisor (g : tb_GT) (l : Launch) (a0 : Int64) (a2 : Int64) (M M' : tb_Mem) (r : Int64) (h : fX6_commonDivisor a0 a2 M = some (r, M')) : tb_C g l yX6_commonDivisor (Cond.code yX6_commonDivisor cX6_commonDivisor 11 (some .long)) rmX6_commonDivisor [.long a0, .long a2] M M' (some (.long r)) := by
  refine tb_entry (by decide) (Nat.le_of_ble_eq_true rfl) ?_
  intro P e s m below meth c F hP hS ls hl
  have F : tb_F g cX6_commonDivisor 11 RX6 (some .long) (Cond.code yX6_commonDivisor cX6_commonDivisor 11 (some .long)) P s m ([.long a0, .long a2] : List Value).toArray meth c := F
  have hx := F.1.1
  have hb := F.1.2.1
  have hl : lv_has ls 11 [(0, .long a0), (2, .long a2)] := hl
  unfold fX6_commonDivisor at h
  refine lv_lload_n hx hb dX6_commonDivisor_0 rfl (lv_at hl 0 rfl) ?_
  refine lv_lstore (lv' := [(4, .long a0), (0, .long a0), (2, .long a2)]) hx hb dX6_commonDivisor_1 hl (by decide) rfl (fun ls hl => ?_)
  refine lv_lload_n hx hb dX6_commonDivisor_3 rfl (lv_at hl 2 rfl) ?_
  refine lv_lstore (lv' := [(6, .long a2), (4, .long a0), (0, .long a0), (2, .long a2)]) hx hb dX6_commonDivisor_4 hl (by decide) rfl (fun ls hl => ?_)
  refine lv_iconst (v := 0) hx hb dX6_commonDivisor_6 (by decide) ?_
  refine lv_istore (lv' := [(8, .int 0), (6, .long a2), (4, .long a0), (0, .long a0), (2, .long a2)]) hx hb dX6_commonDivisor_7 hl (by decide) rfl (fun ls hl => ?_)
  exact tX6_commonDivisor_L9 F tb_N a0 a2 0 M _ _ _ hP hS (lv_sub hl [2, 1, 0] rfl) h
def fX6_chance (a1 : Int32) (a2 : Int32) (a3 : Int32) (M : tb_Mem) : Option (Int32 × tb_Mem) :=
  if (M 4 8) = 0 then (some ((-1000002), M)) else (tb_b2 (fX6_within a1 0 60 M) (fun r4 M2 => if r4 = 0 then (some ((-1000001), M2)) else (tb_b2 (fX6_within a2 0 10 M2) (fun r8 M6 => if r8 = 0 then (some ((-1000001), M6)) else (tb_b2 (fX6_within a3 0 1 M6) (fun r12 M10 => if r12 = 0 then (some ((-1000001), M10)) else (tb_b2 (fX3_waysClear 4 a1 a2 M10) (fun r16 M14 => tb_b2 (fJ6_bitCount_0f7a4 (M14 4 9) M14) (fun r19 M17 => tb_b2 (fX6_power 10 r19 M17) (fun r22 M20 => tb_b2 (fX6_commonDivisor r16 r22 M20) (fun r25 M23 => if (lg_cmp r25 0) = 0 then (some ((-1000000), M23)) else (if a3 = 0 then (tb_ck (r25 != 0) (some (((r16 / r25).toInt32), M23))) else (tb_ck (r25 != 0) (some (((r22 / r25).toInt32), M23)))))))))))))))
abbrev rmX6_chance : Room := { frames := 5, cells := 0, slots := 0, locals := 155 }
set_option maxHeartbeats 4000000 in
set_option maxRecDepth 100000 in
theorem tX6_chance (g : tb_GT) (l : Launch) (a1 : Int32) (a2 : Int32) (a3 : Int32) (M M' : tb_Mem) (r : Int32) (h : fX6_chance a1 a2 a3 M = some (r, M')) : tb_C g l yX6_chance (Cond.code yX6_chance cX6_chance 10 (some .int)) rmX6_chance [.ref (tb_ad g 0), .int a1, .int a2, .int a3] M M' (some (.int r)) := by
  refine tb_entry (by decide) (Nat.le_of_ble_eq_true rfl) ?_
  intro P e s m below meth c F hP hS ls hl
  have F : tb_F g cX6_chance 10 RX6 (some .int) (Cond.code yX6_chance cX6_chance 10 (some .int)) P s m ([.ref (tb_ad g 0), .int a1, .int a2, .int a3] : List Value).toArray meth c := F
  have hx := F.1.1
  have hb := F.1.2.1
  have hl : lv_has ls 10 [(0, .ref (tb_ad g 0)), (1, .int a1), (2, .int a2), (3, .int a3)] := hl
  unfold fX6_chance at h
  refine lv_aload_n hx hb dX6_chance_0 rfl (lv_at hl 0 rfl) ?_
  refine tb_getr F hP tb_l0 (ci := 6) rfl inlX6 2 (by decide) rfl kf_X6_25 dX6_chance_1 ?_
  refine tb_geti F hP tb_B4.1 (ci := 2) rfl inlX2 8 (by decide) rfl kf_X6_134 dX6_chance_4 ?_
  refine lv_if_ne (tgt := 13) hx hb dX6_chance_7 (by decide) (fun c1 => ?_) (fun c1 => ?_)
  · have h := tb_ineg c1 h
    refine lv_iload_n hx hb dX6_chance_13 rfl (lv_at hl 1 rfl) ?_
    refine lv_iconst (v := 0) hx hb dX6_chance_14 (by decide) ?_
    refine lv_bipush (v := 60) hx hb dX6_chance_15 (by decide) ?_
    obtain ⟨r4, M2, e3, h⟩ := tb_b2s h
    refine tb_callS F hP hS hl.1 kX6_within km_X6_62 (as := [.int a1, .int 0, .int 60]) (tX6_within g l a1 0 60 M M2 r4 e3) ⟨rfl, rfl, Nat.le_of_ble_eq_true rfl, Nat.le_of_ble_eq_true rfl⟩ rfl (rest := []) rfl (st1 := [.int r4]) rfl (Nat.le_of_ble_eq_true rfl) ⟨Nat.zero_le _, Nat.zero_le _⟩ dX6_chance_17 (fun H locs hP hS => ?_)
    refine lv_if_eq (tgt := 42) hx hb dX6_chance_20 (by decide) (fun c5 => ?_) (fun c5 => ?_)
    · have h := tb_ip c5 h
      refine lv_ldc (v := (-1000001)) hx hb F.1.2.2.2.1 (tb_hts F kc_X6_66) dX6_chance_42 ?_
      exact tb_iret h F hP hS dX6_chance_44
    · have h := tb_ineg c5 h
      refine lv_iload_n hx hb dX6_chance_23 rfl (lv_at hl 2 rfl) ?_
      refine lv_iconst (v := 0) hx hb dX6_chance_24 (by decide) ?_
      refine lv_bipush (v := 10) hx hb dX6_chance_25 (by decide) ?_
      obtain ⟨r8, M6, e7, h⟩ := tb_b2s h
      refine tb_callS F hP hS hl.1 kX6_within km_X6_62 (as := [.int a2, .int 0, .int 10]) (tX6_within g l a2 0 10 M2 M6 r8 e7) ⟨rfl, rfl, Nat.le_of_ble_eq_true rfl, Nat.le_of_ble_eq_true rfl⟩ rfl (rest := []) rfl (st1 := [.int r8]) rfl (Nat.le_of_ble_eq_true rfl) ⟨Nat.zero_le _, Nat.zero_le _⟩ dX6_chance_27 (fun H locs hP hS => ?_)
      refine lv_if_eq (tgt := 42) hx hb dX6_chance_30 (by decide) (fun c9 => ?_) (fun c9 => ?_)
      · have h := tb_ip c9 h
        refine lv_ldc (v := (-1000001)) hx hb F.1.2.2.2.1 (tb_hts F kc_X6_66) dX6_chance_42 ?_
        exact tb_iret h F hP hS dX6_chance_44
      · have h := tb_ineg c9 h
        refine lv_iload_n hx hb dX6_chance_33 rfl (lv_at hl 3 rfl) ?_
        refine lv_iconst (v := 0) hx hb dX6_chance_34 (by decide) ?_
        refine lv_iconst (v := 1) hx hb dX6_chance_35 (by decide) ?_
        obtain ⟨r12, M10, e11, h⟩ := tb_b2s h
        refine tb_callS F hP hS hl.1 kX6_within km_X6_62 (as := [.int a3, .int 0, .int 1]) (tX6_within g l a3 0 1 M6 M10 r12 e11) ⟨rfl, rfl, Nat.le_of_ble_eq_true rfl, Nat.le_of_ble_eq_true rfl⟩ rfl (rest := []) rfl (st1 := [.int r12]) rfl (Nat.le_of_ble_eq_true rfl) ⟨Nat.zero_le _, Nat.zero_le _⟩ dX6_chance_36 (fun H locs hP hS => ?_)
        refine lv_if_ne (tgt := 45) hx hb dX6_chance_39 (by decide) (fun c13 => ?_) (fun c13 => ?_)
        · have h := tb_ineg c13 h
          refine lv_aload_n hx hb dX6_chance_45 rfl (lv_at hl 0 rfl) ?_
          refine tb_getr F hP tb_l0 (ci := 6) rfl inlX6 5 (by decide) rfl kf_X6_42 dX6_chance_46 ?_
          refine lv_aload_n hx hb dX6_chance_49 rfl (lv_at hl 0 rfl) ?_
          refine tb_getr F hP tb_l0 (ci := 6) rfl inlX6 2 (by decide) rfl kf_X6_25 dX6_chance_50 ?_
          refine lv_iload_n hx hb dX6_chance_53 rfl (lv_at hl 1 rfl) ?_
          refine lv_iload_n hx hb dX6_chance_54 rfl (lv_at hl 2 rfl) ?_
          obtain ⟨r16, M14, e15, h⟩ := tb_b2s h
          refine tb_callV F hP hS hl.1 kX3_waysClear km_X6_242 (as := [.ref (tb_ad g 4), .int a1, .int a2]) (tX3_waysClear g l 4 tb_B4 a1 a2 M10 M14 r16 e15) tb_l240 ⟨rfl, rfl, Nat.le_of_ble_eq_true rfl, Nat.le_of_ble_eq_true rfl⟩ rfl (rest := []) rfl (st1 := [.long r16]) rfl (Nat.le_of_ble_eq_true rfl) ⟨Nat.zero_le _, Nat.zero_le _⟩ dX6_chance_55 (fun H locs hP hS => ?_)
          refine lv_lstore (lv' := [(4, .long r16), (0, .ref (tb_ad g 0)), (1, .int a1), (2, .int a2), (3, .int a3)]) hx hb dX6_chance_58 hl (by decide) rfl (fun ls hl => ?_)
          refine lv_bipush (v := 10) hx hb dX6_chance_60 (by decide) ?_
          refine lv_aload_n hx hb dX6_chance_62 rfl (lv_at hl 1 rfl) ?_
          refine tb_getr F hP tb_l0 (ci := 6) rfl inlX6 2 (by decide) rfl kf_X6_25 dX6_chance_63 ?_
          refine tb_geti F hP tb_B4.1 (ci := 2) rfl inlX2 9 (by decide) rfl kf_X6_160 dX6_chance_66 ?_
          obtain ⟨r19, M17, e18, h⟩ := tb_b2s h
          refine tb_callS F hP hS hl.1 kJ6_bitCount_0f7a4 km_X6_163 (as := [.int (M14 4 9)]) (tJ6_bitCount_0f7a4 g l (M14 4 9) M14 M17 r19 e18) ⟨rfl, rfl, Nat.le_of_ble_eq_true rfl, Nat.le_of_ble_eq_true rfl⟩ rfl (rest := [.int 10]) rfl (st1 := [.int r19, .int 10]) rfl (Nat.le_of_ble_eq_true rfl) ⟨Nat.zero_le _, Nat.zero_le _⟩ dX6_chance_69 (fun H locs hP hS => ?_)
          obtain ⟨r22, M20, e21, h⟩ := tb_b2s h
          refine tb_callS F hP hS hl.1 kX6_power km_X6_246 (as := [.int 10, .int r19]) (tX6_power g l 10 r19 M17 M20 r22 e21) ⟨rfl, rfl, Nat.le_of_ble_eq_true rfl, Nat.le_of_ble_eq_true rfl⟩ rfl (rest := []) rfl (st1 := [.long r22]) rfl (Nat.le_of_ble_eq_true rfl) ⟨Nat.zero_le _, Nat.zero_le _⟩ dX6_chance_72 (fun H locs hP hS => ?_)
          refine lv_lstore (lv' := [(6, .long r22), (4, .long r16), (0, .ref (tb_ad g 0)), (1, .int a1), (2, .int a2), (3, .int a3)]) hx hb dX6_chance_75 hl (by decide) rfl (fun ls hl => ?_)
          refine lv_lload hx hb dX6_chance_77 (lv_at hl 1 rfl) ?_
          refine lv_lload hx hb dX6_chance_79 (lv_at hl 0 rfl) ?_
          obtain ⟨r25, M23, e24, h⟩ := tb_b2s h
          refine tb_callS F hP hS hl.1 kX6_commonDivisor km_X6_250 (as := [.long r16, .long r22]) (tX6_commonDivisor g l r16 r22 M20 M23 r25 e24) ⟨rfl, rfl, Nat.le_of_ble_eq_true rfl, Nat.le_of_ble_eq_true rfl⟩ rfl (rest := []) rfl (st1 := [.long r25]) rfl (Nat.le_of_ble_eq_true rfl) ⟨Nat.zero_le _, Nat.zero_le _⟩ dX6_chance_81 (fun H locs hP hS => ?_)
          refine lv_lstore (lv' := [(8, .long r25), (6, .long r22), (4, .long r16), (0, .ref (tb_ad g 0)), (1, .int a1), (2, .int a2), (3, .int a3)]) hx hb dX6_chance_84 hl (by decide) rfl (fun ls hl => ?_)
          refine lv_lload hx hb dX6_chance_86 (lv_at hl 0 rfl) ?_
          refine lv_lconst (v := 0) hx hb dX6_chance_88 (by decide) ?_
          refine W.lcmp hx hb dX6_chance_89 ?_
          refine lv_if_ne (tgt := 96) hx hb dX6_chance_90 (by decide) (fun c26 => ?_) (fun c26 => ?_)
          · have h := tb_ineg c26 h
            refine lv_iload_n hx hb dX6_chance_96 rfl (lv_at hl 6 rfl) ?_
            refine lv_if_ne (tgt := 105) hx hb dX6_chance_97 (by decide) (fun c27 => ?_) (fun c27 => ?_)
            · have h := tb_ineg c27 h
              refine lv_lload hx hb dX6_chance_105 (lv_at hl 1 rfl) ?_
              refine lv_lload hx hb dX6_chance_107 (lv_at hl 0 rfl) ?_
              obtain ⟨k28, h⟩ := tb_cks h
              refine lv_ldiv hx hb dX6_chance_109 (tb_ne0l k28) ?_
              refine lv_l2i (v := ((r22 / r25).toInt32)) hx hb dX6_chance_110 rfl ?_
              exact tb_iret h F hP hS dX6_chance_111
            · have h := tb_ip c27 h
              refine lv_lload hx hb dX6_chance_100 (lv_at hl 2 rfl) ?_
              refine lv_goto (tgt := 107) hx hb dX6_chance_102 (by decide) ?_
              refine lv_lload hx hb dX6_chance_107 (lv_at hl 0 rfl) ?_
              obtain ⟨k29, h⟩ := tb_cks h
              refine lv_ldiv hx hb dX6_chance_109 (tb_ne0l k29) ?_
              refine lv_l2i (v := ((r16 / r25).toInt32)) hx hb dX6_chance_110 rfl ?_
              exact tb_iret h F hP hS dX6_chance_111
          · have h := tb_ip c26 h
            refine lv_ldc (v := (-1000000)) hx hb F.1.2.2.2.1 (tb_hts F kc_X6_201) dX6_chance_93 ?_
            exact tb_iret h F hP hS dX6_chance_95
        · have h := tb_ip c13 h
          refine lv_ldc (v := (-1000001)) hx hb F.1.2.2.2.1 (tb_hts F kc_X6_66) dX6_chance_42 ?_
          exact tb_iret h F hP hS dX6_chance_44
  · have h := tb_ip c1 h
    refine lv_ldc (v := (-1000002)) hx hb F.1.2.2.2.1 (tb_hts F kc_X6_137) dX6_chance_10 ?_
    exact tb_iret h F hP hS dX6_chance_12
def fX6_drawn (a1 : Int32) (a2 : Int32) (a3 : Int32) (M : tb_Mem) : Option (Int32 × tb_Mem) :=
  if (M 4 8) = 0 then (some ((-1000002), M)) else (tb_b2 (fX6_within a1 0 60 M) (fun r4 M2 => if r4 = 0 then (some ((-1000001), M2)) else (tb_b2 (fX6_within a2 1 999999 M2) (fun r8 M6 => if r8 = 0 then (some ((-1000001), M6)) else (tb_b2 (fX6_within a3 0 1 M6) (fun r12 M10 => if r12 = 0 then (some ((-1000001), M10)) else (tb_b2 (fX3_printedByDraws 4 a1 a2 M10) (fun r16 M14 => if a3 = 0 then (some (r16, M14)) else (tb_b2 (fJ6_bitCount_0f7a4 (M14 241 10) M14) (fun r20 M18 => some (r20, M18)))))))))))
abbrev rmX6_drawn : Room := { frames := 4, cells := 0, slots := 0, locals := 134 }
set_option maxHeartbeats 4000000 in
set_option maxRecDepth 100000 in
theorem tX6_drawn (g : tb_GT) (l : Launch) (a1 : Int32) (a2 : Int32) (a3 : Int32) (M M' : tb_Mem) (r : Int32) (h : fX6_drawn a1 a2 a3 M = some (r, M')) : tb_C g l yX6_drawn (Cond.code yX6_drawn cX6_drawn 5 (some .int)) rmX6_drawn [.ref (tb_ad g 0), .int a1, .int a2, .int a3] M M' (some (.int r)) := by
  refine tb_entry (by decide) (Nat.le_of_ble_eq_true rfl) ?_
  intro P e s m below meth c F hP hS ls hl
  have F : tb_F g cX6_drawn 5 RX6 (some .int) (Cond.code yX6_drawn cX6_drawn 5 (some .int)) P s m ([.ref (tb_ad g 0), .int a1, .int a2, .int a3] : List Value).toArray meth c := F
  have hx := F.1.1
  have hb := F.1.2.1
  have hl : lv_has ls 5 [(0, .ref (tb_ad g 0)), (1, .int a1), (2, .int a2), (3, .int a3)] := hl
  unfold fX6_drawn at h
  refine lv_aload_n hx hb dX6_drawn_0 rfl (lv_at hl 0 rfl) ?_
  refine tb_getr F hP tb_l0 (ci := 6) rfl inlX6 2 (by decide) rfl kf_X6_25 dX6_drawn_1 ?_
  refine tb_geti F hP tb_B4.1 (ci := 2) rfl inlX2 8 (by decide) rfl kf_X6_134 dX6_drawn_4 ?_
  refine lv_if_ne (tgt := 13) hx hb dX6_drawn_7 (by decide) (fun c1 => ?_) (fun c1 => ?_)
  · have h := tb_ineg c1 h
    refine lv_iload_n hx hb dX6_drawn_13 rfl (lv_at hl 1 rfl) ?_
    refine lv_iconst (v := 0) hx hb dX6_drawn_14 (by decide) ?_
    refine lv_bipush (v := 60) hx hb dX6_drawn_15 (by decide) ?_
    obtain ⟨r4, M2, e3, h⟩ := tb_b2s h
    refine tb_callS F hP hS hl.1 kX6_within km_X6_62 (as := [.int a1, .int 0, .int 60]) (tX6_within g l a1 0 60 M M2 r4 e3) ⟨rfl, rfl, Nat.le_of_ble_eq_true rfl, Nat.le_of_ble_eq_true rfl⟩ rfl (rest := []) rfl (st1 := [.int r4]) rfl (Nat.le_of_ble_eq_true rfl) ⟨Nat.zero_le _, Nat.zero_le _⟩ dX6_drawn_17 (fun H locs hP hS => ?_)
    refine lv_if_eq (tgt := 42) hx hb dX6_drawn_20 (by decide) (fun c5 => ?_) (fun c5 => ?_)
    · have h := tb_ip c5 h
      refine lv_ldc (v := (-1000001)) hx hb F.1.2.2.2.1 (tb_hts F kc_X6_66) dX6_drawn_42 ?_
      exact tb_iret h F hP hS dX6_drawn_44
    · have h := tb_ineg c5 h
      refine lv_iload_n hx hb dX6_drawn_23 rfl (lv_at hl 2 rfl) ?_
      refine lv_iconst (v := 1) hx hb dX6_drawn_24 (by decide) ?_
      refine lv_ldc (v := 999999) hx hb F.1.2.2.2.1 (tb_hts F kc_X6_254) dX6_drawn_25 ?_
      obtain ⟨r8, M6, e7, h⟩ := tb_b2s h
      refine tb_callS F hP hS hl.1 kX6_within km_X6_62 (as := [.int a2, .int 1, .int 999999]) (tX6_within g l a2 1 999999 M2 M6 r8 e7) ⟨rfl, rfl, Nat.le_of_ble_eq_true rfl, Nat.le_of_ble_eq_true rfl⟩ rfl (rest := []) rfl (st1 := [.int r8]) rfl (Nat.le_of_ble_eq_true rfl) ⟨Nat.zero_le _, Nat.zero_le _⟩ dX6_drawn_27 (fun H locs hP hS => ?_)
      refine lv_if_eq (tgt := 42) hx hb dX6_drawn_30 (by decide) (fun c9 => ?_) (fun c9 => ?_)
      · have h := tb_ip c9 h
        refine lv_ldc (v := (-1000001)) hx hb F.1.2.2.2.1 (tb_hts F kc_X6_66) dX6_drawn_42 ?_
        exact tb_iret h F hP hS dX6_drawn_44
      · have h := tb_ineg c9 h
        refine lv_iload_n hx hb dX6_drawn_33 rfl (lv_at hl 3 rfl) ?_
        refine lv_iconst (v := 0) hx hb dX6_drawn_34 (by decide) ?_
        refine lv_iconst (v := 1) hx hb dX6_drawn_35 (by decide) ?_
        obtain ⟨r12, M10, e11, h⟩ := tb_b2s h
        refine tb_callS F hP hS hl.1 kX6_within km_X6_62 (as := [.int a3, .int 0, .int 1]) (tX6_within g l a3 0 1 M6 M10 r12 e11) ⟨rfl, rfl, Nat.le_of_ble_eq_true rfl, Nat.le_of_ble_eq_true rfl⟩ rfl (rest := []) rfl (st1 := [.int r12]) rfl (Nat.le_of_ble_eq_true rfl) ⟨Nat.zero_le _, Nat.zero_le _⟩ dX6_drawn_36 (fun H locs hP hS => ?_)
        refine lv_if_ne (tgt := 45) hx hb dX6_drawn_39 (by decide) (fun c13 => ?_) (fun c13 => ?_)
        · have h := tb_ineg c13 h
          refine lv_aload_n hx hb dX6_drawn_45 rfl (lv_at hl 0 rfl) ?_
          refine tb_getr F hP tb_l0 (ci := 6) rfl inlX6 5 (by decide) rfl kf_X6_42 dX6_drawn_46 ?_
          refine lv_aload_n hx hb dX6_drawn_49 rfl (lv_at hl 0 rfl) ?_
          refine tb_getr F hP tb_l0 (ci := 6) rfl inlX6 2 (by decide) rfl kf_X6_25 dX6_drawn_50 ?_
          refine lv_iload_n hx hb dX6_drawn_53 rfl (lv_at hl 1 rfl) ?_
          refine lv_iload_n hx hb dX6_drawn_54 rfl (lv_at hl 2 rfl) ?_
          obtain ⟨r16, M14, e15, h⟩ := tb_b2s h
          refine tb_callV F hP hS hl.1 kX3_printedByDraws km_X6_255 (as := [.ref (tb_ad g 4), .int a1, .int a2]) (tX3_printedByDraws g l 4 tb_B4 a1 a2 M10 M14 r16 e15) tb_l240 ⟨rfl, rfl, Nat.le_of_ble_eq_true rfl, Nat.le_of_ble_eq_true rfl⟩ rfl (rest := []) rfl (st1 := [.int r16]) rfl (Nat.le_of_ble_eq_true rfl) ⟨Nat.zero_le _, Nat.zero_le _⟩ dX6_drawn_55 (fun H locs hP hS => ?_)
          refine lv_istore (lv' := [(4, .int r16), (0, .ref (tb_ad g 0)), (1, .int a1), (2, .int a2), (3, .int a3)]) hx hb dX6_drawn_58 hl (by decide) rfl (fun ls hl => ?_)
          refine lv_iload_n hx hb dX6_drawn_60 rfl (lv_at hl 4 rfl) ?_
          refine lv_if_ne (tgt := 69) hx hb dX6_drawn_61 (by decide) (fun c17 => ?_) (fun c17 => ?_)
          · have h := tb_ineg c17 h
            refine lv_aload_n hx hb dX6_drawn_69 rfl (lv_at hl 1 rfl) ?_
            refine tb_getr F hP tb_l0 (ci := 6) rfl inlX6 5 (by decide) rfl kf_X6_42 dX6_drawn_70 ?_
            refine tb_getr F hP tb_l240 (ci := 3) rfl inlX3 0 (by decide) rfl kf_X6_218 dX6_drawn_73 ?_
            refine tb_geti F hP tb_B241.1 (ci := 2) rfl inlX2 10 (by decide) rfl kf_X6_148 dX6_drawn_76 ?_
            obtain ⟨r20, M18, e19, h⟩ := tb_b2s h
            refine tb_callS F hP hS hl.1 kJ6_bitCount_0f7a4 km_X6_163 (as := [.int (M14 241 10)]) (tJ6_bitCount_0f7a4 g l (M14 241 10) M14 M18 r20 e19) ⟨rfl, rfl, Nat.le_of_ble_eq_true rfl, Nat.le_of_ble_eq_true rfl⟩ rfl (rest := []) rfl (st1 := [.int r20]) rfl (Nat.le_of_ble_eq_true rfl) ⟨Nat.zero_le _, Nat.zero_le _⟩ dX6_drawn_79 (fun H locs hP hS => ?_)
            exact tb_iret h F hP hS dX6_drawn_82
          · have h := tb_ip c17 h
            refine lv_iload hx hb dX6_drawn_64 (lv_at hl 0 rfl) ?_
            refine lv_goto (tgt := 82) hx hb dX6_drawn_66 (by decide) ?_
            exact tb_iret h F hP hS dX6_drawn_82
        · have h := tb_ip c13 h
          refine lv_ldc (v := (-1000001)) hx hb F.1.2.2.2.1 (tb_hts F kc_X6_66) dX6_drawn_42 ?_
          exact tb_iret h F hP hS dX6_drawn_44
  · have h := tb_ip c1 h
    refine lv_ldc (v := (-1000002)) hx hb F.1.2.2.2.1 (tb_hts F kc_X6_137) dX6_drawn_10 ?_
    exact tb_iret h F hP hS dX6_drawn_12
def fX6_image (a1 : Int32) (M : tb_Mem) : Option (Int32 × tb_Mem) :=
  tb_b2 (fX6_within a1 0 1 M) (fun r3 M1 => if r3 = 0 then (some ((-1000001), M1)) else (if (M1 4 8) = 0 then (some ((-1000002), M1)) else (tb_ck (tb_in a1 2) (tb_b1 (fX2_become (279 + 9 * a1.toNatClampNeg) 4 M1) (fun M7 => some (1, M7))))))
abbrev rmX6_image : Room := { frames := 2, cells := 0, slots := 0, locals := 85 }
set_option maxHeartbeats 4000000 in
set_option maxRecDepth 100000 in
theorem tX6_image (g : tb_GT) (l : Launch) (a1 : Int32) (M M' : tb_Mem) (r : Int32) (h : fX6_image a1 M = some (r, M')) : tb_C g l yX6_image (Cond.code yX6_image cX6_image 2 (some .int)) rmX6_image [.ref (tb_ad g 0), .int a1] M M' (some (.int r)) := by
  refine tb_entry (by decide) (Nat.le_of_ble_eq_true rfl) ?_
  intro P e s m below meth c F hP hS ls hl
  have F : tb_F g cX6_image 2 RX6 (some .int) (Cond.code yX6_image cX6_image 2 (some .int)) P s m ([.ref (tb_ad g 0), .int a1] : List Value).toArray meth c := F
  have hx := F.1.1
  have hb := F.1.2.1
  have hl : lv_has ls 2 [(0, .ref (tb_ad g 0)), (1, .int a1)] := hl
  unfold fX6_image at h
  refine lv_iload_n hx hb dX6_image_0 rfl (lv_at hl 1 rfl) ?_
  refine lv_iconst (v := 0) hx hb dX6_image_1 (by decide) ?_
  refine lv_iconst (v := 1) hx hb dX6_image_2 (by decide) ?_
  obtain ⟨r3, M1, e2, h⟩ := tb_b2s h
  refine tb_callS F hP hS hl.1 kX6_within km_X6_62 (as := [.int a1, .int 0, .int 1]) (tX6_within g l a1 0 1 M M1 r3 e2) ⟨rfl, rfl, Nat.le_of_ble_eq_true rfl, Nat.le_of_ble_eq_true rfl⟩ rfl (rest := []) rfl (st1 := [.int r3]) rfl (Nat.le_of_ble_eq_true rfl) ⟨Nat.zero_le _, Nat.zero_le _⟩ dX6_image_3 (fun H locs hP hS => ?_)
  refine lv_if_ne (tgt := 12) hx hb dX6_image_6 (by decide) (fun c4 => ?_) (fun c4 => ?_)
  · have h := tb_ineg c4 h
    refine lv_aload_n hx hb dX6_image_12 rfl (lv_at hl 0 rfl) ?_
    refine tb_getr F hP tb_l0 (ci := 6) rfl inlX6 2 (by decide) rfl kf_X6_25 dX6_image_13 ?_
    refine tb_geti F hP tb_B4.1 (ci := 2) rfl inlX2 8 (by decide) rfl kf_X6_134 dX6_image_16 ?_
    refine lv_if_ne (tgt := 25) hx hb dX6_image_19 (by decide) (fun c5 => ?_) (fun c5 => ?_)
    · have h := tb_ineg c5 h
      refine lv_aload_n hx hb dX6_image_25 rfl (lv_at hl 0 rfl) ?_
      refine tb_getr F hP tb_l0 (ci := 6) rfl inlX6 6 (by decide) rfl kf_X6_46 dX6_image_26 ?_
      refine lv_iload_n hx hb dX6_image_29 rfl (lv_at hl 1 rfl) ?_
      obtain ⟨k6, h⟩ := tb_cks h
      refine tb_aald F hP tb_l260 (C := RX2) rfl (tb_inv k6) (tb_imagesG (tb_ltOf k6)) dX6_image_30 ?_
      refine lv_aload_n hx hb dX6_image_31 rfl (lv_at hl 0 rfl) ?_
      refine tb_getr F hP tb_l0 (ci := 6) rfl inlX6 2 (by decide) rfl kf_X6_25 dX6_image_32 ?_
      obtain ⟨M7, e8, h⟩ := tb_b1s h
      refine tb_callV F hP hS hl.1 kX2_become km_X6_127 (as := [.ref (tb_ad g 4)]) (tX2_become g l (279 + 9 * a1.toNatClampNeg) 4 (tb_Bimg (tb_ltOf k6)) tb_B4 M1 M7 e8) (tb_Bimg (tb_ltOf k6)).1 ⟨rfl, rfl, Nat.le_of_ble_eq_true rfl, Nat.le_of_ble_eq_true rfl⟩ rfl (rest := []) rfl (st1 := []) rfl (Nat.le_of_ble_eq_true rfl) ⟨Nat.zero_le _, Nat.zero_le _⟩ dX6_image_35 (fun H locs hP hS => ?_)
      refine lv_iconst (v := 1) hx hb dX6_image_38 (by decide) ?_
      exact tb_iret h F hP hS dX6_image_39
    · have h := tb_ip c5 h
      refine lv_ldc (v := (-1000002)) hx hb F.1.2.2.2.1 (tb_hts F kc_X6_137) dX6_image_22 ?_
      exact tb_iret h F hP hS dX6_image_24
  · have h := tb_ip c4 h
    refine lv_ldc (v := (-1000001)) hx hb F.1.2.2.2.1 (tb_hts F kc_X6_66) dX6_image_9 ?_
    exact tb_iret h F hP hS dX6_image_11
def fX6_restore (a1 : Int32) (M : tb_Mem) : Option (Int32 × tb_Mem) :=
  tb_b2 (fX6_within a1 0 1 M) (fun r3 M1 => if r3 = 0 then (some ((-1000001), M1)) else (tb_ck (tb_in a1 2) (if (M1 (279 + 9 * a1.toNatClampNeg) 8) = 0 then (some ((-1000002), M1)) else (tb_b1 (fX2_become 4 (279 + 9 * a1.toNatClampNeg) M1) (fun M7 => tb_b1 (fX0_forget M7) (fun M9 => some (1, M9)))))))
abbrev rmX6_restore : Room := { frames := 2, cells := 0, slots := 0, locals := 85 }
set_option maxHeartbeats 4000000 in
set_option maxRecDepth 100000 in
theorem tX6_restore (g : tb_GT) (l : Launch) (a1 : Int32) (M M' : tb_Mem) (r : Int32) (h : fX6_restore a1 M = some (r, M')) : tb_C g l yX6_restore (Cond.code yX6_restore cX6_restore 2 (some .int)) rmX6_restore [.ref (tb_ad g 0), .int a1] M M' (some (.int r)) := by
  refine tb_entry (by decide) (Nat.le_of_ble_eq_true rfl) ?_
  intro P e s m below meth c F hP hS ls hl
  have F : tb_F g cX6_restore 2 RX6 (some .int) (Cond.code yX6_restore cX6_restore 2 (some .int)) P s m ([.ref (tb_ad g 0), .int a1] : List Value).toArray meth c := F
  have hx := F.1.1
  have hb := F.1.2.1
  have hl : lv_has ls 2 [(0, .ref (tb_ad g 0)), (1, .int a1)] := hl
  unfold fX6_restore at h
  refine lv_iload_n hx hb dX6_restore_0 rfl (lv_at hl 1 rfl) ?_
  refine lv_iconst (v := 0) hx hb dX6_restore_1 (by decide) ?_
  refine lv_iconst (v := 1) hx hb dX6_restore_2 (by decide) ?_
  obtain ⟨r3, M1, e2, h⟩ := tb_b2s h
  refine tb_callS F hP hS hl.1 kX6_within km_X6_62 (as := [.int a1, .int 0, .int 1]) (tX6_within g l a1 0 1 M M1 r3 e2) ⟨rfl, rfl, Nat.le_of_ble_eq_true rfl, Nat.le_of_ble_eq_true rfl⟩ rfl (rest := []) rfl (st1 := [.int r3]) rfl (Nat.le_of_ble_eq_true rfl) ⟨Nat.zero_le _, Nat.zero_le _⟩ dX6_restore_3 (fun H locs hP hS => ?_)
  refine lv_if_ne (tgt := 12) hx hb dX6_restore_6 (by decide) (fun c4 => ?_) (fun c4 => ?_)
  · have h := tb_ineg c4 h
    refine lv_aload_n hx hb dX6_restore_12 rfl (lv_at hl 0 rfl) ?_
    refine tb_getr F hP tb_l0 (ci := 6) rfl inlX6 6 (by decide) rfl kf_X6_46 dX6_restore_13 ?_
    refine lv_iload_n hx hb dX6_restore_16 rfl (lv_at hl 1 rfl) ?_
    obtain ⟨k5, h⟩ := tb_cks h
    refine tb_aald F hP tb_l260 (C := RX2) rfl (tb_inv k5) (tb_imagesG (tb_ltOf k5)) dX6_restore_17 ?_
    refine tb_geti F hP (tb_Bimg (tb_ltOf k5)).1 (ci := 2) rfl inlX2 8 (by decide) rfl kf_X6_134 dX6_restore_18 ?_
    refine lv_if_ne (tgt := 27) hx hb dX6_restore_21 (by decide) (fun c6 => ?_) (fun c6 => ?_)
    · have h := tb_ineg c6 h
      refine lv_aload_n hx hb dX6_restore_27 rfl (lv_at hl 0 rfl) ?_
      refine tb_getr F hP tb_l0 (ci := 6) rfl inlX6 2 (by decide) rfl kf_X6_25 dX6_restore_28 ?_
      refine lv_aload_n hx hb dX6_restore_31 rfl (lv_at hl 0 rfl) ?_
      refine tb_getr F hP tb_l0 (ci := 6) rfl inlX6 6 (by decide) rfl kf_X6_46 dX6_restore_32 ?_
      refine lv_iload_n hx hb dX6_restore_35 rfl (lv_at hl 1 rfl) ?_
      refine tb_aald F hP tb_l260 (C := RX2) rfl (tb_inv k5) (tb_imagesG (tb_ltOf k5)) dX6_restore_36 ?_
      obtain ⟨M7, e8, h⟩ := tb_b1s h
      refine tb_callV F hP hS hl.1 kX2_become km_X6_127 (as := [.ref (tb_ad g (279 + 9 * a1.toNatClampNeg))]) (tX2_become g l 4 (279 + 9 * a1.toNatClampNeg) tb_B4 (tb_Bimg (tb_ltOf k5)) M1 M7 e8) tb_B4.1 ⟨rfl, rfl, Nat.le_of_ble_eq_true rfl, Nat.le_of_ble_eq_true rfl⟩ rfl (rest := []) rfl (st1 := []) rfl (Nat.le_of_ble_eq_true rfl) ⟨Nat.zero_le _, Nat.zero_le _⟩ dX6_restore_37 (fun H locs hP hS => ?_)
      refine lv_aload_n hx hb dX6_restore_40 rfl (lv_at hl 0 rfl) ?_
      refine tb_getr F hP tb_l0 (ci := 6) rfl inlX6 4 (by decide) rfl kf_X6_35 dX6_restore_41 ?_
      obtain ⟨M9, e10, h⟩ := tb_b1s h
      refine tb_callV F hP hS hl.1 kX0_forget km_X6_131 (as := []) (tX0_forget g l M7 M9 e10) tb_l22 ⟨rfl, rfl, Nat.le_of_ble_eq_true rfl, Nat.le_of_ble_eq_true rfl⟩ rfl (rest := []) rfl (st1 := []) rfl (Nat.le_of_ble_eq_true rfl) ⟨Nat.zero_le _, Nat.zero_le _⟩ dX6_restore_44 (fun H locs hP hS => ?_)
      refine lv_iconst (v := 1) hx hb dX6_restore_47 (by decide) ?_
      exact tb_iret h F hP hS dX6_restore_48
    · have h := tb_ip c6 h
      refine lv_ldc (v := (-1000002)) hx hb F.1.2.2.2.1 (tb_hts F kc_X6_137) dX6_restore_24 ?_
      exact tb_iret h F hP hS dX6_restore_26
  · have h := tb_ip c4 h
    refine lv_ldc (v := (-1000001)) hx hb F.1.2.2.2.1 (tb_hts F kc_X6_66) dX6_restore_9 ?_
    exact tb_iret h F hP hS dX6_restore_11
def fX6_kind (a1 : Int32) (M : tb_Mem) : Option (Int32 × tb_Mem) :=
  tb_b2 (fX2_has 4 a1 M) (fun r3 M1 => if r3 = 0 then (some ((-1000001), M1)) else (tb_ck (tb_in a1 8) (some ((M1 (4 + 1) a1.toNatClampNeg), M1))))
abbrev rmX6_kind : Room := { frames := 1, cells := 0, slots := 0, locals := 21 }
set_option maxHeartbeats 4000000 in
set_option maxRecDepth 100000 in
theorem tX6_kind (g : tb_GT) (l : Launch) (a1 : Int32) (M M' : tb_Mem) (r : Int32) (h : fX6_kind a1 M = some (r, M')) : tb_C g l yX6_kind (Cond.code yX6_kind cX6_kind 2 (some .int)) rmX6_kind [.ref (tb_ad g 0), .int a1] M M' (some (.int r)) := by
  refine tb_entry (by decide) (Nat.le_of_ble_eq_true rfl) ?_
  intro P e s m below meth c F hP hS ls hl
  have F : tb_F g cX6_kind 2 RX6 (some .int) (Cond.code yX6_kind cX6_kind 2 (some .int)) P s m ([.ref (tb_ad g 0), .int a1] : List Value).toArray meth c := F
  have hx := F.1.1
  have hb := F.1.2.1
  have hl : lv_has ls 2 [(0, .ref (tb_ad g 0)), (1, .int a1)] := hl
  unfold fX6_kind at h
  refine lv_aload_n hx hb dX6_kind_0 rfl (lv_at hl 0 rfl) ?_
  refine tb_getr F hP tb_l0 (ci := 6) rfl inlX6 2 (by decide) rfl kf_X6_25 dX6_kind_1 ?_
  refine lv_iload_n hx hb dX6_kind_4 rfl (lv_at hl 1 rfl) ?_
  obtain ⟨r3, M1, e2, h⟩ := tb_b2s h
  refine tb_callV F hP hS hl.1 kX2_has km_X6_151 (as := [.int a1]) (tX2_has g l 4 tb_B4 a1 M M1 r3 e2) tb_B4.1 ⟨rfl, rfl, Nat.le_of_ble_eq_true rfl, Nat.le_of_ble_eq_true rfl⟩ rfl (rest := []) rfl (st1 := [.int r3]) rfl (Nat.le_of_ble_eq_true rfl) ⟨Nat.zero_le _, Nat.zero_le _⟩ dX6_kind_5 (fun H locs hP hS => ?_)
  refine lv_if_eq (tgt := 23) hx hb dX6_kind_8 (by decide) (fun c4 => ?_) (fun c4 => ?_)
  · have h := tb_ip c4 h
    refine lv_ldc (v := (-1000001)) hx hb F.1.2.2.2.1 (tb_hts F kc_X6_66) dX6_kind_23 ?_
    exact tb_iret h F hP hS dX6_kind_25
  · have h := tb_ineg c4 h
    refine lv_aload_n hx hb dX6_kind_11 rfl (lv_at hl 0 rfl) ?_
    refine tb_getr F hP tb_l0 (ci := 6) rfl inlX6 2 (by decide) rfl kf_X6_25 dX6_kind_12 ?_
    refine tb_getr F hP tb_B4.1 (ci := 2) rfl inlX2 0 (by decide) rfl kf_X6_258 dX6_kind_15 ?_
    refine lv_iload_n hx hb dX6_kind_18 rfl (lv_at hl 1 rfl) ?_
    obtain ⟨k5, h⟩ := tb_cks h
    refine tb_iald F hP tb_B4.2.1 rfl (tb_inv k5) dX6_kind_19 ?_
    refine lv_goto (tgt := 25) hx hb dX6_kind_20 (by decide) ?_
    exact tb_iret h F hP hS dX6_kind_25
def fX6_isA_L4 : Nat → Int32 → Int32 → Int32 → tb_Mem → Option (Int32 × tb_Mem)
  | 0, _, _, _, _ => none
  | n + 1, x1, x2, x3, M => if 5 < x3 then (some (0, M)) else (if x2 < 0 then (some (0, M)) else (if x2 = x1 then (some (1, M)) else (tb_ck (tb_in x2 6) (tb_let ((tb_tab 0 x2.toNatClampNeg) : Int32) (fun v5 => fX6_isA_L4 n x1 v5 (x3 + 1) M)))))
def fX6_isA (a0 : Int32) (a1 : Int32) (M : tb_Mem) : Option (Int32 × tb_Mem) :=
  fX6_isA_L4 tb_N a1 a0 0 M
abbrev rmX6_isA : Room := { frames := 0, cells := 0, slots := 0, locals := 0 }
set_option maxHeartbeats 4000000 in
set_option maxRecDepth 100000 in
theorem tX6_isA_L4 {g : tb_GT} {l : Launch} {P : Program} {e : Env} {s : State} {m : MethodId} {below : List Frame} {meth : Method} {c : Code} {a0 : Int32} {a1 : Int32} {M' : tb_Mem} {r : Int32} (F : tb_F g cX6_isA 4 RX6 (some .boolean) (Cond.code yX6_isA cX6_isA 4 (some .boolean)) P s m ([.int a0, .int a1] : List Value).toArray meth c) :
    ∀ (n : Nat) (x1 : Int32) (x2 : Int32) (x3 : Int32) (M : tb_Mem) (H : Heap) (locs : List Loc) (ls : Array Slot), tb_P g M H → va_S (tb_A g) s.heap H locs → lv_has ls 4 [(1, .int x1), (2, .int x2), (3, .int x3)] → fX6_isA_L4 n x1 x2 x3 M = some (r, M') → W P l e rmX6_isA s m ([.int a0, .int a1] : List Value).toArray below meth c H locs 0 0 (MQ below (tb_Q g M' (some (.int r))) ([.int a0, .int a1] : List Value).toArray s 0 0 (tb_A g)) (F0 m 4 ls []) := by
  have hx := F.1.1
  have hb := F.1.2.1
  intro n
  induction n with
  | zero =>
    intro x1 x2 x3 M H locs ls hP hS hl h
    rw [fX6_isA_L4] at h
    exact tb_none h
  | succ n ih =>
    intro x1 x2 x3 M H locs ls hP hS hl h
    rw [fX6_isA_L4] at h
    refine lv_iload_n hx hb dX6_isA_4 rfl (lv_at hl 2 rfl) ?_
    refine lv_iconst (v := 5) hx hb dX6_isA_5 (by decide) ?_
    refine lv_icmp_gt (tgt := 32) hx hb dX6_isA_6 (by decide) (fun c1 => ?_) (fun c1 => ?_)
    · have h := tb_ip c1 h
      refine lv_iconst (v := 0) hx hb dX6_isA_32 (by decide) ?_
      exact tb_zret h F rfl hP hS dX6_isA_33
    · have h := tb_ineg c1 h
      refine lv_iload_n hx hb dX6_isA_9 rfl (lv_at hl 1 rfl) ?_
      refine lv_if_lt (tgt := 32) hx hb dX6_isA_10 (by decide) (fun c2 => ?_) (fun c2 => ?_)
      · have h := tb_ip c2 h
        refine lv_iconst (v := 0) hx hb dX6_isA_32 (by decide) ?_
        exact tb_zret h F rfl hP hS dX6_isA_33
      · have h := tb_ineg c2 h
        refine lv_iload_n hx hb dX6_isA_13 rfl (lv_at hl 1 rfl) ?_
        refine lv_iload_n hx hb dX6_isA_14 rfl (lv_at hl 0 rfl) ?_
        refine lv_icmp_ne (tgt := 20) hx hb dX6_isA_15 (by decide) (fun c3 => ?_) (fun c3 => ?_)
        · have h := tb_ineg c3 h
          refine tb_gets F hS (k := 0) F.2.2.2.2.2.2.2.2.1.1 kf_X6_286 dX6_isA_20 ?_
          refine lv_iload_n hx hb dX6_isA_23 rfl (lv_at hl 1 rfl) ?_
          obtain ⟨k4, h⟩ := tb_cks h
          refine tb_ti F hS F.2.2.2.2.2.2.2.2.1.2 rfl (tb_inv k4) dX6_isA_24 ?_
          obtain ⟨v5, e6, h⟩ := tb_lets h
          refine tb_nmi e6 ?_
          refine lv_istore_n (lv' := [(2, .int v5), (1, .int x1), (3, .int x3)]) hx hb dX6_isA_25 rfl hl (by decide) rfl (fun ls hl => ?_)
          refine lv_iinc (v := (x3 + 1)) (lv' := [(3, .int (x3 + 1)), (2, .int v5), (1, .int x1)]) hx hb dX6_isA_26 hl (k := 2) rfl rfl (by decide) rfl (fun ls hl => ?_)
          refine lv_goto (tgt := 4) hx hb dX6_isA_29 (by decide) ?_
          exact ih x1 v5 (x3 + 1) M _ _ _ hP hS (lv_sub hl [2, 1, 0] rfl) h
        · have h := tb_ip c3 h
          refine lv_iconst (v := 1) hx hb dX6_isA_18 (by decide) ?_
          exact tb_zret h F rfl hP hS dX6_isA_19
set_option maxHeartbeats 4000000 in
set_option maxRecDepth 100000 in
theorem tX6_isA (g : tb_GT) (l : Launch) (a0 : Int32) (a1 : Int32) (M M' : tb_Mem) (r : Int32) (h : fX6_isA a0 a1 M = some (r, M')) : tb_C g l yX6_isA (Cond.code yX6_isA cX6_isA 4 (some .boolean)) rmX6_isA [.int a0, .int a1] M M' (some (.int r)) := by
  refine tb_entry (by decide) (Nat.le_of_ble_eq_true rfl) ?_
  intro P e s m below meth c F hP hS ls hl
  have F : tb_F g cX6_isA 4 RX6 (some .boolean) (Cond.code yX6_isA cX6_isA 4 (some .boolean)) P s m ([.int a0, .int a1] : List Value).toArray meth c := F
  have hx := F.1.1
  have hb := F.1.2.1
  have hl : lv_has ls 4 [(0, .int a0), (1, .int a1)] := hl
  unfold fX6_isA at h
  refine lv_iload_n hx hb dX6_isA_0 rfl (lv_at hl 0 rfl) ?_
  refine lv_istore_n (lv' := [(2, .int a0), (0, .int a0), (1, .int a1)]) hx hb dX6_isA_1 rfl hl (by decide) rfl (fun ls hl => ?_)
  refine lv_iconst (v := 0) hx hb dX6_isA_2 (by decide) ?_
  refine lv_istore_n (lv' := [(3, .int 0), (2, .int a0), (0, .int a0), (1, .int a1)]) hx hb dX6_isA_3 rfl hl (by decide) rfl (fun ls hl => ?_)
  exact tX6_isA_L4 F tb_N a1 a0 0 M _ _ _ hP hS (lv_sub hl [3, 1, 0] rfl) h
def fX6_as (a1 : Int32) (a2 : Int32) (M : tb_Mem) : Option (Int32 × tb_Mem) :=
  tb_b2 (fX2_has 4 a1 M) (fun r3 M1 => if r3 = 0 then (some ((-1000001), M1)) else (tb_b2 (fX6_within a2 0 5 M1) (fun r7 M5 => if r7 = 0 then (some ((-1000001), M5)) else (tb_ck (tb_in a1 8) (tb_b2 (fX6_isA (M5 (4 + 1) a1.toNatClampNeg) a2 M5) (fun r12 M10 => if r12 = 0 then (tb_b2 (fX6_found 3 M10) (fun r16 M14 => some (r16, M14))) else (tb_b2 (fX6_fine a1 M10) (fun r19 M17 => some (r19, M17)))))))))
abbrev rmX6_as : Room := { frames := 1, cells := 0, slots := 0, locals := 23 }
set_option maxHeartbeats 4000000 in
set_option maxRecDepth 100000 in
theorem tX6_as (g : tb_GT) (l : Launch) (a1 : Int32) (a2 : Int32) (M M' : tb_Mem) (r : Int32) (h : fX6_as a1 a2 M = some (r, M')) : tb_C g l yX6_as (Cond.code yX6_as cX6_as 3 (some .int)) rmX6_as [.ref (tb_ad g 0), .int a1, .int a2] M M' (some (.int r)) := by
  refine tb_entry (by decide) (Nat.le_of_ble_eq_true rfl) ?_
  intro P e s m below meth c F hP hS ls hl
  have F : tb_F g cX6_as 3 RX6 (some .int) (Cond.code yX6_as cX6_as 3 (some .int)) P s m ([.ref (tb_ad g 0), .int a1, .int a2] : List Value).toArray meth c := F
  have hx := F.1.1
  have hb := F.1.2.1
  have hl : lv_has ls 3 [(0, .ref (tb_ad g 0)), (1, .int a1), (2, .int a2)] := hl
  unfold fX6_as at h
  refine lv_aload_n hx hb dX6_as_0 rfl (lv_at hl 0 rfl) ?_
  refine tb_getr F hP tb_l0 (ci := 6) rfl inlX6 2 (by decide) rfl kf_X6_25 dX6_as_1 ?_
  refine lv_iload_n hx hb dX6_as_4 rfl (lv_at hl 1 rfl) ?_
  obtain ⟨r3, M1, e2, h⟩ := tb_b2s h
  refine tb_callV F hP hS hl.1 kX2_has km_X6_151 (as := [.int a1]) (tX2_has g l 4 tb_B4 a1 M M1 r3 e2) tb_B4.1 ⟨rfl, rfl, Nat.le_of_ble_eq_true rfl, Nat.le_of_ble_eq_true rfl⟩ rfl (rest := []) rfl (st1 := [.int r3]) rfl (Nat.le_of_ble_eq_true rfl) ⟨Nat.zero_le _, Nat.zero_le _⟩ dX6_as_5 (fun H locs hP hS => ?_)
  refine lv_if_eq (tgt := 20) hx hb dX6_as_8 (by decide) (fun c4 => ?_) (fun c4 => ?_)
  · have h := tb_ip c4 h
    refine lv_ldc (v := (-1000001)) hx hb F.1.2.2.2.1 (tb_hts F kc_X6_66) dX6_as_20 ?_
    exact tb_iret h F hP hS dX6_as_22
  · have h := tb_ineg c4 h
    refine lv_iload_n hx hb dX6_as_11 rfl (lv_at hl 2 rfl) ?_
    refine lv_iconst (v := 0) hx hb dX6_as_12 (by decide) ?_
    refine lv_iconst (v := 5) hx hb dX6_as_13 (by decide) ?_
    obtain ⟨r7, M5, e6, h⟩ := tb_b2s h
    refine tb_callS F hP hS hl.1 kX6_within km_X6_62 (as := [.int a2, .int 0, .int 5]) (tX6_within g l a2 0 5 M1 M5 r7 e6) ⟨rfl, rfl, Nat.le_of_ble_eq_true rfl, Nat.le_of_ble_eq_true rfl⟩ rfl (rest := []) rfl (st1 := [.int r7]) rfl (Nat.le_of_ble_eq_true rfl) ⟨Nat.zero_le _, Nat.zero_le _⟩ dX6_as_14 (fun H locs hP hS => ?_)
    refine lv_if_ne (tgt := 23) hx hb dX6_as_17 (by decide) (fun c8 => ?_) (fun c8 => ?_)
    · have h := tb_ineg c8 h
      refine lv_aload_n hx hb dX6_as_23 rfl (lv_at hl 0 rfl) ?_
      refine tb_getr F hP tb_l0 (ci := 6) rfl inlX6 2 (by decide) rfl kf_X6_25 dX6_as_24 ?_
      refine tb_getr F hP tb_B4.1 (ci := 2) rfl inlX2 0 (by decide) rfl kf_X6_258 dX6_as_27 ?_
      refine lv_iload_n hx hb dX6_as_30 rfl (lv_at hl 1 rfl) ?_
      obtain ⟨k9, h⟩ := tb_cks h
      refine tb_iald F hP tb_B4.2.1 rfl (tb_inv k9) dX6_as_31 ?_
      refine lv_iload_n hx hb dX6_as_32 rfl (lv_at hl 2 rfl) ?_
      obtain ⟨r12, M10, e11, h⟩ := tb_b2s h
      refine tb_callS F hP hS hl.1 kX6_isA km_X6_261 (as := [.int (M5 (4 + 1) a1.toNatClampNeg), .int a2]) (tX6_isA g l (M5 (4 + 1) a1.toNatClampNeg) a2 M5 M10 r12 e11) ⟨rfl, rfl, Nat.le_of_ble_eq_true rfl, Nat.le_of_ble_eq_true rfl⟩ rfl (rest := []) rfl (st1 := [.int r12]) rfl (Nat.le_of_ble_eq_true rfl) ⟨Nat.zero_le _, Nat.zero_le _⟩ dX6_as_33 (fun H locs hP hS => ?_)
      refine lv_if_eq (tgt := 47) hx hb dX6_as_36 (by decide) (fun c13 => ?_) (fun c13 => ?_)
      · have h := tb_ip c13 h
        refine lv_aload_n hx hb dX6_as_47 rfl (lv_at hl 0 rfl) ?_
        refine lv_iconst (v := 3) hx hb dX6_as_48 (by decide) ?_
        obtain ⟨r16, M14, e15, h⟩ := tb_b2s h
        refine tb_callV F hP hS hl.1 kX6_found km_X6_67 (as := [.int 3]) (tX6_found g l 3 M10 M14 r16 e15) tb_l0 ⟨rfl, rfl, Nat.le_of_ble_eq_true rfl, Nat.le_of_ble_eq_true rfl⟩ rfl (rest := []) rfl (st1 := [.int r16]) rfl (Nat.le_of_ble_eq_true rfl) ⟨Nat.zero_le _, Nat.zero_le _⟩ dX6_as_49 (fun H locs hP hS => ?_)
        exact tb_iret h F hP hS dX6_as_52
      · have h := tb_ineg c13 h
        refine lv_aload_n hx hb dX6_as_39 rfl (lv_at hl 0 rfl) ?_
        refine lv_iload_n hx hb dX6_as_40 rfl (lv_at hl 1 rfl) ?_
        obtain ⟨r19, M17, e18, h⟩ := tb_b2s h
        refine tb_callV F hP hS hl.1 kX6_fine km_X6_75 (as := [.int a1]) (tX6_fine g l a1 M10 M17 r19 e18) tb_l0 ⟨rfl, rfl, Nat.le_of_ble_eq_true rfl, Nat.le_of_ble_eq_true rfl⟩ rfl (rest := []) rfl (st1 := [.int r19]) rfl (Nat.le_of_ble_eq_true rfl) ⟨Nat.zero_le _, Nat.zero_le _⟩ dX6_as_41 (fun H locs hP hS => ?_)
        refine lv_goto (tgt := 52) hx hb dX6_as_44 (by decide) ?_
        exact tb_iret h F hP hS dX6_as_52
    · have h := tb_ip c8 h
      refine lv_ldc (v := (-1000001)) hx hb F.1.2.2.2.1 (tb_hts F kc_X6_66) dX6_as_20 ?_
      exact tb_iret h F hP hS dX6_as_22
def fX6_ask (a1 : Int32) (a2 : Int32) (M : tb_Mem) : Option (Int32 × tb_Mem) :=
  tb_b2 (fX2_has 4 a1 M) (fun r3 M1 => if r3 = 0 then (some ((-1000001), M1)) else (tb_b2 (fX6_within a2 0 1 M1) (fun r7 M5 => if r7 = 0 then (some ((-1000001), M5)) else (if a2 = 0 then (tb_b2 (fX1_sizeOf 4 a1 M5) (fun r15 M13 => some (r15, M13))) else (tb_b2 (fX1_markOf 4 a1 M5) (fun r12 M10 => some (r12, M10)))))))
abbrev rmX6_ask : Room := { frames := 24, cells := 0, slots := 0, locals := 948 }
set_option maxHeartbeats 4000000 in
set_option maxRecDepth 100000 in
theorem tX6_ask (g : tb_GT) (l : Launch) (a1 : Int32) (a2 : Int32) (M M' : tb_Mem) (r : Int32) (h : fX6_ask a1 a2 M = some (r, M')) : tb_C g l yX6_ask (Cond.code yX6_ask cX6_ask 3 (some .int)) rmX6_ask [.ref (tb_ad g 0), .int a1, .int a2] M M' (some (.int r)) := by
  refine tb_entry (by decide) (Nat.le_of_ble_eq_true rfl) ?_
  intro P e s m below meth c F hP hS ls hl
  have F : tb_F g cX6_ask 3 RX6 (some .int) (Cond.code yX6_ask cX6_ask 3 (some .int)) P s m ([.ref (tb_ad g 0), .int a1, .int a2] : List Value).toArray meth c := F
  have hx := F.1.1
  have hb := F.1.2.1
  have hl : lv_has ls 3 [(0, .ref (tb_ad g 0)), (1, .int a1), (2, .int a2)] := hl
  unfold fX6_ask at h
  refine lv_aload_n hx hb dX6_ask_0 rfl (lv_at hl 0 rfl) ?_
  refine tb_getr F hP tb_l0 (ci := 6) rfl inlX6 2 (by decide) rfl kf_X6_25 dX6_ask_1 ?_
  refine lv_iload_n hx hb dX6_ask_4 rfl (lv_at hl 1 rfl) ?_
  obtain ⟨r3, M1, e2, h⟩ := tb_b2s h
  refine tb_callV F hP hS hl.1 kX2_has km_X6_151 (as := [.int a1]) (tX2_has g l 4 tb_B4 a1 M M1 r3 e2) tb_B4.1 ⟨rfl, rfl, Nat.le_of_ble_eq_true rfl, Nat.le_of_ble_eq_true rfl⟩ rfl (rest := []) rfl (st1 := [.int r3]) rfl (Nat.le_of_ble_eq_true rfl) ⟨Nat.zero_le _, Nat.zero_le _⟩ dX6_ask_5 (fun H locs hP hS => ?_)
  refine lv_if_eq (tgt := 20) hx hb dX6_ask_8 (by decide) (fun c4 => ?_) (fun c4 => ?_)
  · have h := tb_ip c4 h
    refine lv_ldc (v := (-1000001)) hx hb F.1.2.2.2.1 (tb_hts F kc_X6_66) dX6_ask_20 ?_
    exact tb_iret h F hP hS dX6_ask_22
  · have h := tb_ineg c4 h
    refine lv_iload_n hx hb dX6_ask_11 rfl (lv_at hl 2 rfl) ?_
    refine lv_iconst (v := 0) hx hb dX6_ask_12 (by decide) ?_
    refine lv_iconst (v := 1) hx hb dX6_ask_13 (by decide) ?_
    obtain ⟨r7, M5, e6, h⟩ := tb_b2s h
    refine tb_callS F hP hS hl.1 kX6_within km_X6_62 (as := [.int a2, .int 0, .int 1]) (tX6_within g l a2 0 1 M1 M5 r7 e6) ⟨rfl, rfl, Nat.le_of_ble_eq_true rfl, Nat.le_of_ble_eq_true rfl⟩ rfl (rest := []) rfl (st1 := [.int r7]) rfl (Nat.le_of_ble_eq_true rfl) ⟨Nat.zero_le _, Nat.zero_le _⟩ dX6_ask_14 (fun H locs hP hS => ?_)
    refine lv_if_ne (tgt := 23) hx hb dX6_ask_17 (by decide) (fun c8 => ?_) (fun c8 => ?_)
    · have h := tb_ineg c8 h
      refine lv_iload_n hx hb dX6_ask_23 rfl (lv_at hl 2 rfl) ?_
      refine lv_if_ne (tgt := 42) hx hb dX6_ask_24 (by decide) (fun c9 => ?_) (fun c9 => ?_)
      · have h := tb_ineg c9 h
        refine lv_aload_n hx hb dX6_ask_42 rfl (lv_at hl 0 rfl) ?_
        refine tb_getr F hP tb_l0 (ci := 6) rfl inlX6 7 (by decide) rfl kf_X6_53 dX6_ask_43 ?_
        refine lv_aload_n hx hb dX6_ask_46 rfl (lv_at hl 0 rfl) ?_
        refine tb_getr F hP tb_l0 (ci := 6) rfl inlX6 2 (by decide) rfl kf_X6_25 dX6_ask_47 ?_
        refine lv_iload_n hx hb dX6_ask_50 rfl (lv_at hl 1 rfl) ?_
        obtain ⟨r12, M10, e11, h⟩ := tb_b2s h
        refine tb_callV F hP hS hl.1 kX1_markOf km_X6_267 (as := [.ref (tb_ad g 4), .int a1]) (tX1_markOf g l 4 tb_B4 a1 M5 M10 r12 e11) tb_l261 ⟨rfl, rfl, Nat.le_of_ble_eq_true rfl, Nat.le_of_ble_eq_true rfl⟩ rfl (rest := []) rfl (st1 := [.int r12]) rfl (Nat.le_of_ble_eq_true rfl) ⟨Nat.zero_le _, Nat.zero_le _⟩ dX6_ask_51 (fun H locs hP hS => ?_)
        exact tb_iret h F hP hS dX6_ask_54
      · have h := tb_ip c9 h
        refine lv_aload_n hx hb dX6_ask_27 rfl (lv_at hl 0 rfl) ?_
        refine tb_getr F hP tb_l0 (ci := 6) rfl inlX6 7 (by decide) rfl kf_X6_53 dX6_ask_28 ?_
        refine lv_aload_n hx hb dX6_ask_31 rfl (lv_at hl 0 rfl) ?_
        refine tb_getr F hP tb_l0 (ci := 6) rfl inlX6 2 (by decide) rfl kf_X6_25 dX6_ask_32 ?_
        refine lv_iload_n hx hb dX6_ask_35 rfl (lv_at hl 1 rfl) ?_
        obtain ⟨r15, M13, e14, h⟩ := tb_b2s h
        refine tb_callV F hP hS hl.1 kX1_sizeOf km_X6_264 (as := [.ref (tb_ad g 4), .int a1]) (tX1_sizeOf g l 4 tb_B4 a1 M5 M13 r15 e14) tb_l261 ⟨rfl, rfl, Nat.le_of_ble_eq_true rfl, Nat.le_of_ble_eq_true rfl⟩ rfl (rest := []) rfl (st1 := [.int r15]) rfl (Nat.le_of_ble_eq_true rfl) ⟨Nat.zero_le _, Nat.zero_le _⟩ dX6_ask_36 (fun H locs hP hS => ?_)
        refine lv_goto (tgt := 54) hx hb dX6_ask_39 (by decide) ?_
        exact tb_iret h F hP hS dX6_ask_54
    · have h := tb_ip c8 h
      refine lv_ldc (v := (-1000001)) hx hb F.1.2.2.2.1 (tb_hts F kc_X6_66) dX6_ask_20 ?_
      exact tb_iret h F hP hS dX6_ask_22
def fX6_trace (a1 : Int32) (M : tb_Mem) : Option (Int32 × tb_Mem) :=
  tb_b2 (fX6_within a1 0 ((M 261 1) - 1) M) (fun r3 M1 => if r3 = 0 then (some ((-1000000), M1)) else (tb_ck (tb_in a1 16) (some ((M1 262 a1.toNatClampNeg), M1))))
abbrev rmX6_trace : Room := { frames := 1, cells := 0, slots := 0, locals := 22 }
set_option maxHeartbeats 4000000 in
set_option maxRecDepth 100000 in
theorem tX6_trace (g : tb_GT) (l : Launch) (a1 : Int32) (M M' : tb_Mem) (r : Int32) (h : fX6_trace a1 M = some (r, M')) : tb_C g l yX6_trace (Cond.code yX6_trace cX6_trace 2 (some .int)) rmX6_trace [.ref (tb_ad g 0), .int a1] M M' (some (.int r)) := by
  refine tb_entry (by decide) (Nat.le_of_ble_eq_true rfl) ?_
  intro P e s m below meth c F hP hS ls hl
  have F : tb_F g cX6_trace 2 RX6 (some .int) (Cond.code yX6_trace cX6_trace 2 (some .int)) P s m ([.ref (tb_ad g 0), .int a1] : List Value).toArray meth c := F
  have hx := F.1.1
  have hb := F.1.2.1
  have hl : lv_has ls 2 [(0, .ref (tb_ad g 0)), (1, .int a1)] := hl
  unfold fX6_trace at h
  refine lv_iload_n hx hb dX6_trace_0 rfl (lv_at hl 1 rfl) ?_
  refine lv_iconst (v := 0) hx hb dX6_trace_1 (by decide) ?_
  refine lv_aload_n hx hb dX6_trace_2 rfl (lv_at hl 0 rfl) ?_
  refine tb_getr F hP tb_l0 (ci := 6) rfl inlX6 7 (by decide) rfl kf_X6_53 dX6_trace_3 ?_
  refine tb_geti F hP tb_l261 (ci := 1) rfl inlX1 1 (by decide) rfl kf_X6_270 dX6_trace_6 ?_
  refine lv_iconst (v := 1) hx hb dX6_trace_9 (by decide) ?_
  refine lv_isub hx hb dX6_trace_10 ?_
  obtain ⟨r3, M1, e2, h⟩ := tb_b2s h
  refine tb_callS F hP hS hl.1 kX6_within km_X6_62 (as := [.int a1, .int 0, .int ((M 261 1) - 1)]) (tX6_within g l a1 0 ((M 261 1) - 1) M M1 r3 e2) ⟨rfl, rfl, Nat.le_of_ble_eq_true rfl, Nat.le_of_ble_eq_true rfl⟩ rfl (rest := []) rfl (st1 := [.int r3]) rfl (Nat.le_of_ble_eq_true rfl) ⟨Nat.zero_le _, Nat.zero_le _⟩ dX6_trace_11 (fun H locs hP hS => ?_)
  refine lv_if_eq (tgt := 29) hx hb dX6_trace_14 (by decide) (fun c4 => ?_) (fun c4 => ?_)
  · have h := tb_ip c4 h
    refine lv_ldc (v := (-1000000)) hx hb F.1.2.2.2.1 (tb_hts F kc_X6_201) dX6_trace_29 ?_
    exact tb_iret h F hP hS dX6_trace_31
  · have h := tb_ineg c4 h
    refine lv_aload_n hx hb dX6_trace_17 rfl (lv_at hl 0 rfl) ?_
    refine tb_getr F hP tb_l0 (ci := 6) rfl inlX6 7 (by decide) rfl kf_X6_53 dX6_trace_18 ?_
    refine tb_getr F hP tb_l261 (ci := 1) rfl inlX1 0 (by decide) rfl kf_X6_273 dX6_trace_21 ?_
    refine lv_iload_n hx hb dX6_trace_24 rfl (lv_at hl 1 rfl) ?_
    obtain ⟨k5, h⟩ := tb_cks h
    refine tb_iald F hP tb_l262 rfl (tb_inv k5) dX6_trace_25 ?_
    refine lv_goto (tgt := 31) hx hb dX6_trace_26 (by decide) ?_
    exact tb_iret h F hP hS dX6_trace_31
def fX6_countRows_L4 : Nat → Int32 → Int32 → tb_Mem → Option (Int32 × tb_Mem)
  | 0, _, _, _ => none
  | n + 1, x1, x2, M => if 8 ≤ x2 then (some (x1, M)) else (tb_ck (tb_in x2 8) (if (M (263 + 2 * x2.toNatClampNeg) 1) = 0 then (fX6_countRows_L4 n (x1 + 1) (x2 + 1) M) else (fX6_countRows_L4 n x1 (x2 + 1) M)))
def fX6_countRows (M : tb_Mem) : Option (Int32 × tb_Mem) :=
  fX6_countRows_L4 tb_N 0 0 M
abbrev rmX6_countRows : Room := { frames := 0, cells := 0, slots := 0, locals := 0 }
set_option maxHeartbeats 4000000 in
set_option maxRecDepth 100000 in
theorem tX6_countRows_L4 {g : tb_GT} {l : Launch} {P : Program} {e : Env} {s : State} {m : MethodId} {below : List Frame} {meth : Method} {c : Code} {M' : tb_Mem} {r : Int32} (F : tb_F g cX6_countRows 3 RX6 (some .int) (Cond.code yX6_countRows cX6_countRows 3 (some .int)) P s m ([.ref (tb_ad g 0)] : List Value).toArray meth c) :
    ∀ (n : Nat) (x1 : Int32) (x2 : Int32) (M : tb_Mem) (H : Heap) (locs : List Loc) (ls : Array Slot), tb_P g M H → va_S (tb_A g) s.heap H locs → lv_has ls 3 [(0, .ref (tb_ad g 0)), (1, .int x1), (2, .int x2)] → fX6_countRows_L4 n x1 x2 M = some (r, M') → W P l e rmX6_countRows s m ([.ref (tb_ad g 0)] : List Value).toArray below meth c H locs 0 0 (MQ below (tb_Q g M' (some (.int r))) ([.ref (tb_ad g 0)] : List Value).toArray s 0 0 (tb_A g)) (F0 m 4 ls []) := by
  have hx := F.1.1
  have hb := F.1.2.1
  intro n
  induction n with
  | zero =>
    intro x1 x2 M H locs ls hP hS hl h
    rw [fX6_countRows_L4] at h
    exact tb_none h
  | succ n ih =>
    intro x1 x2 M H locs ls hP hS hl h
    rw [fX6_countRows_L4] at h
    refine lv_iload_n hx hb dX6_countRows_4 rfl (lv_at hl 2 rfl) ?_
    refine lv_bipush (v := 8) hx hb dX6_countRows_5 (by decide) ?_
    refine lv_icmp_ge (tgt := 31) hx hb dX6_countRows_7 (by decide) (fun c1 => ?_) (fun c1 => ?_)
    · have h := tb_ip c1 h
      refine lv_iload_n hx hb dX6_countRows_31 rfl (lv_at hl 1 rfl) ?_
      exact tb_iret h F hP hS dX6_countRows_32
    · have h := tb_ineg c1 h
      refine lv_aload_n hx hb dX6_countRows_10 rfl (lv_at hl 0 rfl) ?_
      refine tb_getr F hP tb_l0 (ci := 6) rfl inlX6 0 (by decide) rfl kf_X6_11 dX6_countRows_11 ?_
      refine lv_iload_n hx hb dX6_countRows_14 rfl (lv_at hl 2 rfl) ?_
      obtain ⟨k2, h⟩ := tb_cks h
      refine tb_aald F hP tb_l1 (C := RX4) rfl (tb_inv k2) (tb_rowsG (tb_ltOf k2)) dX6_countRows_15 ?_
      refine tb_geti F hP (tb_Rrow (tb_ltOf k2)).1 (ci := 4) rfl inlX4 1 (by decide) rfl kf_X6_86 dX6_countRows_16 ?_
      refine lv_if_ne (tgt := 25) hx hb dX6_countRows_19 (by decide) (fun c3 => ?_) (fun c3 => ?_)
      · have h := tb_ineg c3 h
        refine lv_iinc (v := (x2 + 1)) (lv' := [(2, .int (x2 + 1)), (0, .ref (tb_ad g 0)), (1, .int x1)]) hx hb dX6_countRows_25 hl (k := 2) rfl rfl (by decide) rfl (fun ls hl => ?_)
        refine lv_goto (tgt := 4) hx hb dX6_countRows_28 (by decide) ?_
        exact ih x1 (x2 + 1) M _ _ _ hP hS (lv_sub hl [1, 2, 0] rfl) h
      · have h := tb_ip c3 h
        refine lv_iinc (v := (x1 + 1)) (lv' := [(1, .int (x1 + 1)), (0, .ref (tb_ad g 0)), (2, .int x2)]) hx hb dX6_countRows_22 hl (k := 1) rfl rfl (by decide) rfl (fun ls hl => ?_)
        refine lv_iinc (v := (x2 + 1)) (lv' := [(2, .int (x2 + 1)), (1, .int (x1 + 1)), (0, .ref (tb_ad g 0))]) hx hb dX6_countRows_25 hl (k := 2) rfl rfl (by decide) rfl (fun ls hl => ?_)
        refine lv_goto (tgt := 4) hx hb dX6_countRows_28 (by decide) ?_
        exact ih (x1 + 1) (x2 + 1) M _ _ _ hP hS (lv_sub hl [2, 1, 0] rfl) h
set_option maxHeartbeats 4000000 in
set_option maxRecDepth 100000 in
theorem tX6_countRows (g : tb_GT) (l : Launch) (M M' : tb_Mem) (r : Int32) (h : fX6_countRows M = some (r, M')) : tb_C g l yX6_countRows (Cond.code yX6_countRows cX6_countRows 3 (some .int)) rmX6_countRows [.ref (tb_ad g 0)] M M' (some (.int r)) := by
  refine tb_entry (by decide) (Nat.le_of_ble_eq_true rfl) ?_
  intro P e s m below meth c F hP hS ls hl
  have F : tb_F g cX6_countRows 3 RX6 (some .int) (Cond.code yX6_countRows cX6_countRows 3 (some .int)) P s m ([.ref (tb_ad g 0)] : List Value).toArray meth c := F
  have hx := F.1.1
  have hb := F.1.2.1
  have hl : lv_has ls 3 [(0, .ref (tb_ad g 0))] := hl
  unfold fX6_countRows at h
  refine lv_iconst (v := 0) hx hb dX6_countRows_0 (by decide) ?_
  refine lv_istore_n (lv' := [(1, .int 0), (0, .ref (tb_ad g 0))]) hx hb dX6_countRows_1 rfl hl (by decide) rfl (fun ls hl => ?_)
  refine lv_iconst (v := 0) hx hb dX6_countRows_2 (by decide) ?_
  refine lv_istore_n (lv' := [(2, .int 0), (1, .int 0), (0, .ref (tb_ad g 0))]) hx hb dX6_countRows_3 rfl hl (by decide) rfl (fun ls hl => ?_)
  exact tX6_countRows_L4 F tb_N 0 0 M _ _ _ hP hS (lv_sub hl [2, 1, 0] rfl) h
def fX6_count (a1 : Int32) (M : tb_Mem) : Option (Int32 × tb_Mem) :=
  if a1 = 0 then (tb_b2 (fX6_countRows M) (fun r4 M2 => some (r4, M2))) else (if a1 = 1 then (some ((M 4 8), M)) else (if a1 = 2 then (some ((M 4 12), M)) else (if a1 = 3 then (some ((M 4 11), M)) else (if a1 = 4 then (some ((M 4 9), M)) else (if a1 = 5 then (some ((M 4 10), M)) else (if a1 = 6 then (tb_b2 (fX2_columnsPrinted 4 M) (fun r13 M11 => some (r13, M11))) else (if a1 = 7 then (some ((M 22 2), M)) else (if a1 = 8 then (some ((M 2 1), M)) else (some ((-1000001), M))))))))))
abbrev rmX6_count : Room := { frames := 1, cells := 0, slots := 0, locals := 22 }
set_option maxHeartbeats 4000000 in
set_option maxRecDepth 100000 in
theorem tX6_count (g : tb_GT) (l : Launch) (a1 : Int32) (M M' : tb_Mem) (r : Int32) (h : fX6_count a1 M = some (r, M')) : tb_C g l yX6_count (Cond.code yX6_count cX6_count 2 (some .int)) rmX6_count [.ref (tb_ad g 0), .int a1] M M' (some (.int r)) := by
  refine tb_entry (by decide) (Nat.le_of_ble_eq_true rfl) ?_
  intro P e s m below meth c F hP hS ls hl
  have F : tb_F g cX6_count 2 RX6 (some .int) (Cond.code yX6_count cX6_count 2 (some .int)) P s m ([.ref (tb_ad g 0), .int a1] : List Value).toArray meth c := F
  have hx := F.1.1
  have hb := F.1.2.1
  have hl : lv_has ls 2 [(0, .ref (tb_ad g 0)), (1, .int a1)] := hl
  unfold fX6_count at h
  refine lv_iload_n hx hb dX6_count_0 rfl (lv_at hl 1 rfl) ?_
  by_cases c1 : a1 = 0
  · have h := tb_ip c1 h
    refine lv_tableIn (tgt := 52) hx hb dX6_count_1 (by rw [c1]; decide) (by rw [c1]; decide) (by rw [c1]; rfl) (by decide) ?_
    refine lv_aload_n hx hb dX6_count_52 rfl (lv_at hl 0 rfl) ?_
    obtain ⟨r4, M2, e3, h⟩ := tb_b2s h
    refine tb_callV F hP hS hl.1 kX6_countRows km_X6_276 (as := []) (tX6_countRows g l M M2 r4 e3) tb_l0 ⟨rfl, rfl, Nat.le_of_ble_eq_true rfl, Nat.le_of_ble_eq_true rfl⟩ rfl (rest := []) rfl (st1 := [.int r4]) rfl (Nat.le_of_ble_eq_true rfl) ⟨Nat.zero_le _, Nat.zero_le _⟩ dX6_count_53 (fun H locs hP hS => ?_)
    exact tb_iret h F hP hS dX6_count_56
  have h := tb_ineg c1 h
  by_cases c5 : a1 = 1
  · have h := tb_ip c5 h
    refine lv_tableIn (tgt := 57) hx hb dX6_count_1 (by rw [c5]; decide) (by rw [c5]; decide) (by rw [c5]; rfl) (by decide) ?_
    refine lv_aload_n hx hb dX6_count_57 rfl (lv_at hl 0 rfl) ?_
    refine tb_getr F hP tb_l0 (ci := 6) rfl inlX6 2 (by decide) rfl kf_X6_25 dX6_count_58 ?_
    refine tb_geti F hP tb_B4.1 (ci := 2) rfl inlX2 8 (by decide) rfl kf_X6_134 dX6_count_61 ?_
    exact tb_iret h F hP hS dX6_count_64
  have h := tb_ineg c5 h
  by_cases c6 : a1 = 2
  · have h := tb_ip c6 h
    refine lv_tableIn (tgt := 65) hx hb dX6_count_1 (by rw [c6]; decide) (by rw [c6]; decide) (by rw [c6]; rfl) (by decide) ?_
    refine lv_aload_n hx hb dX6_count_65 rfl (lv_at hl 0 rfl) ?_
    refine tb_getr F hP tb_l0 (ci := 6) rfl inlX6 2 (by decide) rfl kf_X6_25 dX6_count_66 ?_
    refine tb_geti F hP tb_B4.1 (ci := 2) rfl inlX2 12 (by decide) rfl kf_X6_138 dX6_count_69 ?_
    exact tb_iret h F hP hS dX6_count_72
  have h := tb_ineg c6 h
  by_cases c7 : a1 = 3
  · have h := tb_ip c7 h
    refine lv_tableIn (tgt := 73) hx hb dX6_count_1 (by rw [c7]; decide) (by rw [c7]; decide) (by rw [c7]; rfl) (by decide) ?_
    refine lv_aload_n hx hb dX6_count_73 rfl (lv_at hl 0 rfl) ?_
    refine tb_getr F hP tb_l0 (ci := 6) rfl inlX6 2 (by decide) rfl kf_X6_25 dX6_count_74 ?_
    refine tb_geti F hP tb_B4.1 (ci := 2) rfl inlX2 11 (by decide) rfl kf_X6_171 dX6_count_77 ?_
    exact tb_iret h F hP hS dX6_count_80
  have h := tb_ineg c7 h
  by_cases c8 : a1 = 4
  · have h := tb_ip c8 h
    refine lv_tableIn (tgt := 81) hx hb dX6_count_1 (by rw [c8]; decide) (by rw [c8]; decide) (by rw [c8]; rfl) (by decide) ?_
    refine lv_aload_n hx hb dX6_count_81 rfl (lv_at hl 0 rfl) ?_
    refine tb_getr F hP tb_l0 (ci := 6) rfl inlX6 2 (by decide) rfl kf_X6_25 dX6_count_82 ?_
    refine tb_geti F hP tb_B4.1 (ci := 2) rfl inlX2 9 (by decide) rfl kf_X6_160 dX6_count_85 ?_
    exact tb_iret h F hP hS dX6_count_88
  have h := tb_ineg c8 h
  by_cases c9 : a1 = 5
  · have h := tb_ip c9 h
    refine lv_tableIn (tgt := 89) hx hb dX6_count_1 (by rw [c9]; decide) (by rw [c9]; decide) (by rw [c9]; rfl) (by decide) ?_
    refine lv_aload_n hx hb dX6_count_89 rfl (lv_at hl 0 rfl) ?_
    refine tb_getr F hP tb_l0 (ci := 6) rfl inlX6 2 (by decide) rfl kf_X6_25 dX6_count_90 ?_
    refine tb_geti F hP tb_B4.1 (ci := 2) rfl inlX2 10 (by decide) rfl kf_X6_148 dX6_count_93 ?_
    exact tb_iret h F hP hS dX6_count_96
  have h := tb_ineg c9 h
  by_cases c10 : a1 = 6
  · have h := tb_ip c10 h
    refine lv_tableIn (tgt := 97) hx hb dX6_count_1 (by rw [c10]; decide) (by rw [c10]; decide) (by rw [c10]; rfl) (by decide) ?_
    refine lv_aload_n hx hb dX6_count_97 rfl (lv_at hl 0 rfl) ?_
    refine tb_getr F hP tb_l0 (ci := 6) rfl inlX6 2 (by decide) rfl kf_X6_25 dX6_count_98 ?_
    obtain ⟨r13, M11, e12, h⟩ := tb_b2s h
    refine tb_callV F hP hS hl.1 kX2_columnsPrinted km_X6_279 (as := []) (tX2_columnsPrinted g l 4 tb_B4 M M11 r13 e12) tb_B4.1 ⟨rfl, rfl, Nat.le_of_ble_eq_true rfl, Nat.le_of_ble_eq_true rfl⟩ rfl (rest := []) rfl (st1 := [.int r13]) rfl (Nat.le_of_ble_eq_true rfl) ⟨Nat.zero_le _, Nat.zero_le _⟩ dX6_count_101 (fun H locs hP hS => ?_)
    exact tb_iret h F hP hS dX6_count_104
  have h := tb_ineg c10 h
  by_cases c14 : a1 = 7
  · have h := tb_ip c14 h
    refine lv_tableIn (tgt := 105) hx hb dX6_count_1 (by rw [c14]; decide) (by rw [c14]; decide) (by rw [c14]; rfl) (by decide) ?_
    refine lv_aload_n hx hb dX6_count_105 rfl (lv_at hl 0 rfl) ?_
    refine tb_getr F hP tb_l0 (ci := 6) rfl inlX6 4 (by decide) rfl kf_X6_35 dX6_count_106 ?_
    refine tb_geti F hP tb_l22 (ci := 0) rfl inlX0 2 (by decide) rfl kf_X6_183 dX6_count_109 ?_
    exact tb_iret h F hP hS dX6_count_112
  have h := tb_ineg c14 h
  by_cases c15 : a1 = 8
  · have h := tb_ip c15 h
    refine lv_tableIn (tgt := 113) hx hb dX6_count_1 (by rw [c15]; decide) (by rw [c15]; decide) (by rw [c15]; rfl) (by decide) ?_
    refine lv_aload_n hx hb dX6_count_113 rfl (lv_at hl 0 rfl) ?_
    refine tb_getr F hP tb_l0 (ci := 6) rfl inlX6 1 (by decide) rfl kf_X6_18 dX6_count_114 ?_
    refine tb_geti F hP tb_l2 (ci := 5) rfl inlX5 1 (by decide) rfl kf_X6_114 dX6_count_117 ?_
    exact tb_iret h F hP hS dX6_count_120
  have h := tb_ineg c15 h
  have uc1 := lv_neT c1 (show (0 : Int32).toInt = 0 by decide)
  have uc5 := lv_neT c5 (show (1 : Int32).toInt = 1 by decide)
  have uc6 := lv_neT c6 (show (2 : Int32).toInt = 2 by decide)
  have uc7 := lv_neT c7 (show (3 : Int32).toInt = 3 by decide)
  have uc8 := lv_neT c8 (show (4 : Int32).toInt = 4 by decide)
  have uc9 := lv_neT c9 (show (5 : Int32).toInt = 5 by decide)
  have uc10 := lv_neT c10 (show (6 : Int32).toInt = 6 by decide)
  have uc14 := lv_neT c14 (show (7 : Int32).toInt = 7 by decide)
  have uc15 := lv_neT c15 (show (8 : Int32).toInt = 8 by decide)
  refine lv_tableOut (tgt := 121) hx hb dX6_count_1 (by omega) (by decide) ?_
  refine lv_ldc (v := (-1000001)) hx hb F.1.2.2.2.1 (tb_hts F kc_X6_66) dX6_count_121 ?_
  exact tb_iret h F hP hS dX6_count_123
def fX6_status (M : tb_Mem) : Option (Int32 × tb_Mem) :=
  some ((M 0 9), M)
abbrev rmX6_status : Room := { frames := 0, cells := 0, slots := 0, locals := 0 }
set_option maxHeartbeats 4000000 in
set_option maxRecDepth 100000 in
theorem tX6_status (g : tb_GT) (l : Launch) (M M' : tb_Mem) (r : Int32) (h : fX6_status M = some (r, M')) : tb_C g l yX6_status (Cond.code yX6_status cX6_status 1 (some .int)) rmX6_status [.ref (tb_ad g 0)] M M' (some (.int r)) := by
  refine tb_entry (by decide) (Nat.le_of_ble_eq_true rfl) ?_
  intro P e s m below meth c F hP hS ls hl
  have F : tb_F g cX6_status 1 RX6 (some .int) (Cond.code yX6_status cX6_status 1 (some .int)) P s m ([.ref (tb_ad g 0)] : List Value).toArray meth c := F
  have hx := F.1.1
  have hb := F.1.2.1
  have hl : lv_has ls 1 [(0, .ref (tb_ad g 0))] := hl
  unfold fX6_status at h
  refine lv_aload_n hx hb dX6_status_0 rfl (lv_at hl 0 rfl) ?_
  refine tb_geti F hP tb_l0 (ci := 6) rfl inlX6 9 (by decide) rfl kf_X6_282 dX6_status_1 ?_
  exact tb_iret h F hP hS dX6_status_4

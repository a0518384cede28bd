def fX3_ticksOn (p1 : Nat) (a2 : Int32) (M : tb_Mem) : Option (tb_Mem) :=
  tb_b1 (fX2_become 241 p1 M) (fun M1 => tb_b1 (fX2_foresee 241 a2 M1) (fun M3 => some M3))
abbrev rmX3_ticksOn : Room := { frames := 4, cells := 0, slots := 0, locals := 128 }
set_option maxHeartbeats 4000000 in
set_option maxRecDepth 100000 in
theorem tX3_ticksOn (g : tb_GT) (l : Launch) (p1 : Nat) (hB1 : tb_B p1) (a2 : Int32) (M M' : tb_Mem) (h : fX3_ticksOn p1 a2 M = some M') : tb_C g l yX3_ticksOn (Cond.code yX3_ticksOn cX3_ticksOn 3 (some (.object "TypeBars$Basket"))) rmX3_ticksOn [.ref (tb_ad g 240), .ref (tb_ad g p1), .int a2] M M' (some (.ref (tb_ad g 241))) := by
  refine tb_entry (by decide) (Nat.le_of_ble_eq_true rfl) ?_
  intro P e s m below meth c F hP hS ls hl
  have F : tb_F g cX3_ticksOn 3 RX3 (some (.object "TypeBars$Basket")) (Cond.code yX3_ticksOn cX3_ticksOn 3 (some (.object "TypeBars$Basket"))) P s m ([.ref (tb_ad g 240), .ref (tb_ad g p1), .int a2] : List Value).toArray meth c := F
  have hx := F.1.1
  have hb := F.1.2.1
  have hl : lv_has ls 3 [(0, .ref (tb_ad g 240)), (1, .ref (tb_ad g p1)), (2, .int a2)] := hl
  unfold fX3_ticksOn at h
  refine lv_aload_n hx hb dX3_ticksOn_0 rfl (lv_at hl 0 rfl) ?_
  refine tb_getr F hP tb_l240 (ci := 3) rfl inlX3 0 (by decide) rfl kf_X3_12 dX3_ticksOn_1 ?_
  refine lv_aload_n hx hb dX3_ticksOn_4 rfl (lv_at hl 1 rfl) ?_
  obtain ⟨M1, e2, h⟩ := tb_b1s h
  refine tb_callV F hP hS hl.1 kX2_become km_X3_25 (as := [.ref (tb_ad g p1)]) (tX2_become g l 241 p1 tb_B241 hB1 M M1 e2) tb_B241.1 ⟨rfl, rfl, Nat.le_of_ble_eq_true rfl, Nat.le_of_ble_eq_true rfl⟩ rfl (rest := []) rfl (st1 := []) rfl (Nat.le_of_ble_eq_true rfl) ⟨Nat.zero_le _, Nat.zero_le _⟩ dX3_ticksOn_5 (fun H locs hP hS => ?_)
  refine lv_aload_n hx hb dX3_ticksOn_8 rfl (lv_at hl 0 rfl) ?_
  refine tb_getr F hP tb_l240 (ci := 3) rfl inlX3 0 (by decide) rfl kf_X3_12 dX3_ticksOn_9 ?_
  refine lv_iload_n hx hb dX3_ticksOn_12 rfl (lv_at hl 2 rfl) ?_
  obtain ⟨M3, e4, h⟩ := tb_b1s h
  refine tb_callV F hP hS hl.1 kX2_foresee km_X3_29 (as := [.int a2]) (tX2_foresee g l 241 tb_B241 a2 M1 M3 e4) tb_B241.1 ⟨rfl, rfl, Nat.le_of_ble_eq_true rfl, Nat.le_of_ble_eq_true rfl⟩ rfl (rest := []) rfl (st1 := []) rfl (Nat.le_of_ble_eq_true rfl) ⟨Nat.zero_le _, Nat.zero_le _⟩ dX3_ticksOn_13 (fun H locs hP hS => ?_)
  refine lv_aload_n hx hb dX3_ticksOn_16 rfl (lv_at hl 0 rfl) ?_
  refine tb_getr F hP tb_l240 (ci := 3) rfl inlX3 0 (by decide) rfl kf_X3_12 dX3_ticksOn_17 ?_
  exact tb_aret h F hP hS dX3_ticksOn_20
def fX3_ticksToJam_L10 (p1 : Nat) : Nat → Int32 → tb_Mem → Option (Int32 × tb_Mem)
  | 0, _, _ => none
  | n + 1, x2, M => if 60 < x2 then (some ((-1000000), M)) else (if (M 241 10) = 0 then (tb_b2 (fX2_pass 241 M) (fun r7 M5 => fX3_ticksToJam_L10 p1 n (x2 + 1) M5)) else (some (x2, M)))
def fX3_ticksToJam (p1 : Nat) (M : tb_Mem) : Option (Int32 × tb_Mem) :=
  tb_b1 (fX2_become 241 p1 M) (fun M1 => fX3_ticksToJam_L10 p1 tb_N 0 M1)
abbrev rmX3_ticksToJam : Room := { frames := 3, cells := 0, slots := 0, locals := 106 }
set_option maxHeartbeats 4000000 in
set_option maxRecDepth 100000 in
theorem tX3_ticksToJam_L10 {g : tb_GT} {l : Launch} {P : Program} {e : Env} {s : State} {m : MethodId} {below : List Frame} {meth : Method} {c : Code} (p1 : Nat) (hB1 : tb_B p1) {M' : tb_Mem} {r : Int32} (F : tb_F g cX3_ticksToJam 3 RX3 (some .int) (Cond.code yX3_ticksToJam cX3_ticksToJam 3 (some .int)) P s m ([.ref (tb_ad g 240), .ref (tb_ad g p1)] : List Value).toArray meth c) :
    ∀ (n : Nat) (x2 : Int32) (M : tb_Mem) (H : Heap) (locs : List Loc) (ls : Array Slot), tb_P g M H → va_S (tb_A g) s.heap H locs → lv_has ls 3 [(0, .ref (tb_ad g 240)), (2, .int x2)] → fX3_ticksToJam_L10 p1 n x2 M = some (r, M') → W P l e rmX3_ticksToJam s m ([.ref (tb_ad g 240), .ref (tb_ad g p1)] : List Value).toArray below meth c H locs 0 0 (MQ below (tb_Q g M' (some (.int r))) ([.ref (tb_ad g 240), .ref (tb_ad g p1)] : List Value).toArray s 0 0 (tb_A g)) (F0 m 10 ls []) := by
  have hx := F.1.1
  have hb := F.1.2.1
  intro n
  induction n with
  | zero =>
    intro x2 M H locs ls hP hS hl h
    rw [fX3_ticksToJam_L10] at h
    exact tb_none h
  | succ n ih =>
    intro x2 M H locs ls hP hS hl h
    rw [fX3_ticksToJam_L10] at h
    refine lv_iload_n hx hb dX3_ticksToJam_10 rfl (lv_at hl 1 rfl) ?_
    refine lv_bipush (v := 60) hx hb dX3_ticksToJam_11 (by decide) ?_
    refine lv_icmp_gt (tgt := 42) hx hb dX3_ticksToJam_13 (by decide) (fun c3 => ?_) (fun c3 => ?_)
    · have h := tb_ip c3 h
      refine lv_ldc (v := (-1000000)) hx hb F.1.2.2.2.1 (tb_hts F kc_X3_41) dX3_ticksToJam_42 ?_
      exact tb_iret h F hP hS dX3_ticksToJam_44
    · have h := tb_ineg c3 h
      refine lv_aload_n hx hb dX3_ticksToJam_16 rfl (lv_at hl 0 rfl) ?_
      refine tb_getr F hP tb_l240 (ci := 3) rfl inlX3 0 (by decide) rfl kf_X3_12 dX3_ticksToJam_17 ?_
      refine tb_geti F hP tb_B241.1 (ci := 2) rfl inlX2 10 (by decide) rfl kf_X3_33 dX3_ticksToJam_20 ?_
      refine lv_if_eq (tgt := 28) hx hb dX3_ticksToJam_23 (by decide) (fun c4 => ?_) (fun c4 => ?_)
      · have h := tb_ip c4 h
        refine lv_aload_n hx hb dX3_ticksToJam_28 rfl (lv_at hl 0 rfl) ?_
        refine tb_getr F hP tb_l240 (ci := 3) rfl inlX3 0 (by decide) rfl kf_X3_12 dX3_ticksToJam_29 ?_
        obtain ⟨r7, M5, e6, h⟩ := tb_b2s h
        refine tb_callV F hP hS hl.1 kX2_pass km_X3_37 (as := []) (tX2_pass g l 241 tb_B241 M M5 r7 e6) tb_B241.1 ⟨rfl, rfl, Nat.le_of_ble_eq_true rfl, Nat.le_of_ble_eq_true rfl⟩ rfl (rest := []) rfl (st1 := [.int r7]) rfl (Nat.le_of_ble_eq_true rfl) ⟨Nat.zero_le _, Nat.zero_le _⟩ dX3_ticksToJam_32 (fun H locs hP hS => ?_)
        refine lv_pop hx hb dX3_ticksToJam_35 rfl ?_
        refine lv_iinc (v := (x2 + 1)) (lv' := [(2, .int (x2 + 1)), (0, .ref (tb_ad g 240))]) hx hb dX3_ticksToJam_36 hl (k := 1) rfl rfl (by decide) rfl (fun ls hl => ?_)
        refine lv_goto (tgt := 10) hx hb dX3_ticksToJam_39 (by decide) ?_
        exact ih (x2 + 1) M5 _ _ _ hP hS (lv_sub hl [1, 0] rfl) h
      · have h := tb_ineg c4 h
        refine lv_iload_n hx hb dX3_ticksToJam_26 rfl (lv_at hl 1 rfl) ?_
        exact tb_iret h F hP hS dX3_ticksToJam_27
set_option maxHeartbeats 4000000 in
set_option maxRecDepth 100000 in
theorem tX3_ticksToJam (g : tb_GT) (l : Launch) (p1 : Nat) (hB1 : tb_B p1) (M M' : tb_Mem) (r : Int32) (h : fX3_ticksToJam p1 M = some (r, M')) : tb_C g l yX3_ticksToJam (Cond.code yX3_ticksToJam cX3_ticksToJam 3 (some .int)) rmX3_ticksToJam [.ref (tb_ad g 240), .ref (tb_ad g p1)] M M' (some (.int r)) := by
  refine tb_entry (by decide) (Nat.le_of_ble_eq_true rfl) ?_
  intro P e s m below meth c F hP hS ls hl
  have F : tb_F g cX3_ticksToJam 3 RX3 (some .int) (Cond.code yX3_ticksToJam cX3_ticksToJam 3 (some .int)) P s m ([.ref (tb_ad g 240), .ref (tb_ad g p1)] : List Value).toArray meth c := F
  have hx := F.1.1
  have hb := F.1.2.1
  have hl : lv_has ls 3 [(0, .ref (tb_ad g 240)), (1, .ref (tb_ad g p1))] := hl
  unfold fX3_ticksToJam at h
  refine lv_aload_n hx hb dX3_ticksToJam_0 rfl (lv_at hl 0 rfl) ?_
  refine tb_getr F hP tb_l240 (ci := 3) rfl inlX3 0 (by decide) rfl kf_X3_12 dX3_ticksToJam_1 ?_
  refine lv_aload_n hx hb dX3_ticksToJam_4 rfl (lv_at hl 1 rfl) ?_
  obtain ⟨M1, e2, h⟩ := tb_b1s h
  refine tb_callV F hP hS hl.1 kX2_become km_X3_25 (as := [.ref (tb_ad g p1)]) (tX2_become g l 241 p1 tb_B241 hB1 M M1 e2) tb_B241.1 ⟨rfl, rfl, Nat.le_of_ble_eq_true rfl, Nat.le_of_ble_eq_true rfl⟩ rfl (rest := []) rfl (st1 := []) rfl (Nat.le_of_ble_eq_true rfl) ⟨Nat.zero_le _, Nat.zero_le _⟩ dX3_ticksToJam_5 (fun H locs hP hS => ?_)
  refine lv_iconst (v := 0) hx hb dX3_ticksToJam_8 (by decide) ?_
  refine lv_istore_n (lv' := [(2, .int 0), (0, .ref (tb_ad g 240)), (1, .ref (tb_ad g p1))]) hx hb dX3_ticksToJam_9 rfl hl (by decide) rfl (fun ls hl => ?_)
  exact tX3_ticksToJam_L10 p1 hB1 F tb_N 0 M1 _ _ _ hP hS (lv_sub hl [1, 0] rfl) h
def fX3_staysClear (a1 : Int32) (M : tb_Mem) : Option (Int32 × tb_Mem) :=
  tb_b1 (fX2_become 250 241 M) (fun M1 => tb_b1 (fX2_press 250 a1 M1) (fun M3 => tb_b1 (fX2_foresee 250 12 M3) (fun M5 => some (((if (M5 250 10) = (M5 241 10) then 1 else 0) : Int32), M5))))
abbrev rmX3_staysClear : Room := { frames := 4, cells := 0, slots := 0, locals := 128 }
set_option maxHeartbeats 4000000 in
set_option maxRecDepth 100000 in
theorem tX3_staysClear (g : tb_GT) (l : Launch) (a1 : Int32) (M M' : tb_Mem) (r : Int32) (h : fX3_staysClear a1 M = some (r, M')) : tb_C g l yX3_staysClear (Cond.code yX3_staysClear cX3_staysClear 2 (some .boolean)) rmX3_staysClear [.ref (tb_ad g 240), .int a1] M M' (some (.int r)) := by
  refine tb_entry (by decide) (Nat.le_of_ble_eq_true rfl) ?_
  intro P e s m below meth c F hP hS ls hl
  have F : tb_F g cX3_staysClear 2 RX3 (some .boolean) (Cond.code yX3_staysClear cX3_staysClear 2 (some .boolean)) P s m ([.ref (tb_ad g 240), .int a1] : List Value).toArray meth c := F
  have hx := F.1.1
  have hb := F.1.2.1
  have hl : lv_has ls 2 [(0, .ref (tb_ad g 240)), (1, .int a1)] := hl
  unfold fX3_staysClear at h
  refine lv_aload_n hx hb dX3_staysClear_0 rfl (lv_at hl 0 rfl) ?_
  refine tb_getr F hP tb_l240 (ci := 3) rfl inlX3 1 (by decide) rfl kf_X3_18 dX3_staysClear_1 ?_
  refine lv_aload_n hx hb dX3_staysClear_4 rfl (lv_at hl 0 rfl) ?_
  refine tb_getr F hP tb_l240 (ci := 3) rfl inlX3 0 (by decide) rfl kf_X3_12 dX3_staysClear_5 ?_
  obtain ⟨M1, e2, h⟩ := tb_b1s h
  refine tb_callV F hP hS hl.1 kX2_become km_X3_25 (as := [.ref (tb_ad g 241)]) (tX2_become g l 250 241 tb_B250 tb_B241 M M1 e2) tb_B250.1 ⟨rfl, rfl, Nat.le_of_ble_eq_true rfl, Nat.le_of_ble_eq_true rfl⟩ rfl (rest := []) rfl (st1 := []) rfl (Nat.le_of_ble_eq_true rfl) ⟨Nat.zero_le _, Nat.zero_le _⟩ dX3_staysClear_8 (fun H locs hP hS => ?_)
  refine lv_aload_n hx hb dX3_staysClear_11 rfl (lv_at hl 0 rfl) ?_
  refine tb_getr F hP tb_l240 (ci := 3) rfl inlX3 1 (by decide) rfl kf_X3_18 dX3_staysClear_12 ?_
  refine lv_iload_n hx hb dX3_staysClear_15 rfl (lv_at hl 1 rfl) ?_
  obtain ⟨M3, e4, h⟩ := tb_b1s h
  refine tb_callV F hP hS hl.1 kX2_press km_X3_49 (as := [.int a1]) (tX2_press g l 250 tb_B250 a1 M1 M3 e4) tb_B250.1 ⟨rfl, rfl, Nat.le_of_ble_eq_true rfl, Nat.le_of_ble_eq_true rfl⟩ rfl (rest := []) rfl (st1 := []) rfl (Nat.le_of_ble_eq_true rfl) ⟨Nat.zero_le _, Nat.zero_le _⟩ dX3_staysClear_16 (fun H locs hP hS => ?_)
  refine lv_aload_n hx hb dX3_staysClear_19 rfl (lv_at hl 0 rfl) ?_
  refine tb_getr F hP tb_l240 (ci := 3) rfl inlX3 1 (by decide) rfl kf_X3_18 dX3_staysClear_20 ?_
  refine lv_bipush (v := 12) hx hb dX3_staysClear_23 (by decide) ?_
  obtain ⟨M5, e6, h⟩ := tb_b1s h
  refine tb_callV F hP hS hl.1 kX2_foresee km_X3_29 (as := [.int 12]) (tX2_foresee g l 250 tb_B250 12 M3 M5 e6) tb_B250.1 ⟨rfl, rfl, Nat.le_of_ble_eq_true rfl, Nat.le_of_ble_eq_true rfl⟩ rfl (rest := []) rfl (st1 := []) rfl (Nat.le_of_ble_eq_true rfl) ⟨Nat.zero_le _, Nat.zero_le _⟩ dX3_staysClear_25 (fun H locs hP hS => ?_)
  refine lv_aload_n hx hb dX3_staysClear_28 rfl (lv_at hl 0 rfl) ?_
  refine tb_getr F hP tb_l240 (ci := 3) rfl inlX3 1 (by decide) rfl kf_X3_18 dX3_staysClear_29 ?_
  refine tb_geti F hP tb_B250.1 (ci := 2) rfl inlX2 10 (by decide) rfl kf_X3_33 dX3_staysClear_32 ?_
  refine lv_aload_n hx hb dX3_staysClear_35 rfl (lv_at hl 0 rfl) ?_
  refine tb_getr F hP tb_l240 (ci := 3) rfl inlX3 0 (by decide) rfl kf_X3_12 dX3_staysClear_36 ?_
  refine tb_geti F hP tb_B241.1 (ci := 2) rfl inlX2 10 (by decide) rfl kf_X3_33 dX3_staysClear_39 ?_
  refine tb_mrg (g2 := F0 m 50 ls [.int ((if (M5 250 10) = (M5 241 10) then 1 else 0) : Int32)]) (fun hJ => ?_) ?_
  · refine lv_icmp_ne (tgt := 49) hx hb dX3_staysClear_42 (by decide) (fun c7 => ?_) (fun c7 => ?_)
    · refine lv_iconst (v := 0) hx hb dX3_staysClear_49 (by decide) ?_
      rw [if_neg c7] at hJ
      exact hJ
    · refine lv_iconst (v := 1) hx hb dX3_staysClear_45 (by decide) ?_
      refine lv_goto (tgt := 50) hx hb dX3_staysClear_46 (by decide) ?_
      rw [if_pos c7] at hJ
      exact hJ
  exact tb_zret h F (tb_bln (by (repeat' split) <;> decide)) hP hS dX3_staysClear_50
def fX3_leastWait_L10 (p1 : Nat) : Nat → Int32 → Int32 → tb_Mem → Option (Int32 × tb_Mem)
  | 0, _, _, _ => none
  | n + 1, x2, x3, M => if 20 < x3 then (some ((-1000000), M)) else (tb_b2 (fX2_rests 241 x2 M) (fun r6 M4 => if r6 = 0 then (tb_b2 (fX2_pass 241 M4) (fun r10 M8 => fX3_leastWait_L10 p1 n x2 (x3 + 1) M8)) else (tb_b2 (fX3_staysClear x2 M4) (fun r13 M11 => if r13 = 0 then (tb_b2 (fX2_pass 241 M11) (fun r17 M15 => fX3_leastWait_L10 p1 n x2 (x3 + 1) M15)) else (some (x3, M11))))))
def fX3_leastWait (p1 : Nat) (a2 : Int32) (M : tb_Mem) : Option (Int32 × tb_Mem) :=
  tb_b1 (fX2_become 241 p1 M) (fun M1 => fX3_leastWait_L10 p1 tb_N a2 0 M1)
abbrev rmX3_leastWait : Room := { frames := 5, cells := 0, slots := 0, locals := 149 }
set_option maxHeartbeats 4000000 in
set_option maxRecDepth 100000 in
theorem tX3_leastWait_L10 {g : tb_GT} {l : Launch} {P : Program} {e : Env} {s : State} {m : MethodId} {below : List Frame} {meth : Method} {c : Code} (p1 : Nat) (hB1 : tb_B p1) {a2 : Int32} {M' : tb_Mem} {r : Int32} (F : tb_F g cX3_leastWait 4 RX3 (some .int) (Cond.code yX3_leastWait cX3_leastWait 4 (some .int)) P s m ([.ref (tb_ad g 240), .ref (tb_ad g p1), .int a2] : List Value).toArray meth c) :
    ∀ (n : Nat) (x2 : Int32) (x3 : Int32) (M : tb_Mem) (H : Heap) (locs : List Loc) (ls : Array Slot), tb_P g M H → va_S (tb_A g) s.heap H locs → lv_has ls 4 [(0, .ref (tb_ad g 240)), (2, .int x2), (3, .int x3)] → fX3_leastWait_L10 p1 n x2 x3 M = some (r, M') → W P l e rmX3_leastWait s m ([.ref (tb_ad g 240), .ref (tb_ad g p1), .int a2] : List Value).toArray below meth c H locs 0 0 (MQ below (tb_Q g M' (some (.int r))) ([.ref (tb_ad g 240), .ref (tb_ad g p1), .int a2] : List Value).toArray s 0 0 (tb_A g)) (F0 m 10 ls []) := by
  have hx := F.1.1
  have hb := F.1.2.1
  intro n
  induction n with
  | zero =>
    intro x2 x3 M H locs ls hP hS hl h
    rw [fX3_leastWait_L10] at h
    exact tb_none h
  | succ n ih =>
    intro x2 x3 M H locs ls hP hS hl h
    rw [fX3_leastWait_L10] at h
    refine lv_iload_n hx hb dX3_leastWait_10 rfl (lv_at hl 2 rfl) ?_
    refine lv_bipush (v := 20) hx hb dX3_leastWait_11 (by decide) ?_
    refine lv_icmp_gt (tgt := 51) hx hb dX3_leastWait_13 (by decide) (fun c3 => ?_) (fun c3 => ?_)
    · have h := tb_ip c3 h
      refine lv_ldc (v := (-1000000)) hx hb F.1.2.2.2.1 (tb_hts F kc_X3_41) dX3_leastWait_51 ?_
      exact tb_iret h F hP hS dX3_leastWait_53
    · have h := tb_ineg c3 h
      refine lv_aload_n hx hb dX3_leastWait_16 rfl (lv_at hl 0 rfl) ?_
      refine tb_getr F hP tb_l240 (ci := 3) rfl inlX3 0 (by decide) rfl kf_X3_12 dX3_leastWait_17 ?_
      refine lv_iload_n hx hb dX3_leastWait_20 rfl (lv_at hl 1 rfl) ?_
      obtain ⟨r6, M4, e5, h⟩ := tb_b2s h
      refine tb_callV F hP hS hl.1 kX2_rests km_X3_42 (as := [.int x2]) (tX2_rests g l 241 tb_B241 x2 M M4 r6 e5) tb_B241.1 ⟨rfl, rfl, Nat.le_of_ble_eq_true rfl, Nat.le_of_ble_eq_true rfl⟩ rfl (rest := []) rfl (st1 := [.int r6]) rfl (Nat.le_of_ble_eq_true rfl) ⟨Nat.zero_le _, Nat.zero_le _⟩ dX3_leastWait_21 (fun H locs hP hS => ?_)
      refine lv_if_eq (tgt := 37) hx hb dX3_leastWait_24 (by decide) (fun c7 => ?_) (fun c7 => ?_)
      · have h := tb_ip c7 h
        refine lv_aload_n hx hb dX3_leastWait_37 rfl (lv_at hl 0 rfl) ?_
        refine tb_getr F hP tb_l240 (ci := 3) rfl inlX3 0 (by decide) rfl kf_X3_12 dX3_leastWait_38 ?_
        obtain ⟨r10, M8, e9, h⟩ := tb_b2s h
        refine tb_callV F hP hS hl.1 kX2_pass km_X3_37 (as := []) (tX2_pass g l 241 tb_B241 M4 M8 r10 e9) tb_B241.1 ⟨rfl, rfl, Nat.le_of_ble_eq_true rfl, Nat.le_of_ble_eq_true rfl⟩ rfl (rest := []) rfl (st1 := [.int r10]) rfl (Nat.le_of_ble_eq_true rfl) ⟨Nat.zero_le _, Nat.zero_le _⟩ dX3_leastWait_41 (fun H locs hP hS => ?_)
        refine lv_pop hx hb dX3_leastWait_44 rfl ?_
        refine lv_iinc (v := (x3 + 1)) (lv' := [(3, .int (x3 + 1)), (0, .ref (tb_ad g 240)), (2, .int x2)]) hx hb dX3_leastWait_45 hl (k := 2) rfl rfl (by decide) rfl (fun ls hl => ?_)
        refine lv_goto (tgt := 10) hx hb dX3_leastWait_48 (by decide) ?_
        exact ih x2 (x3 + 1) M8 _ _ _ hP hS (lv_sub hl [1, 2, 0] rfl) h
      · have h := tb_ineg c7 h
        refine lv_aload_n hx hb dX3_leastWait_27 rfl (lv_at hl 0 rfl) ?_
        refine lv_iload_n hx hb dX3_leastWait_28 rfl (lv_at hl 1 rfl) ?_
        obtain ⟨r13, M11, e12, h⟩ := tb_b2s h
        refine tb_callV F hP hS hl.1 kX3_staysClear km_X3_46 (as := [.int x2]) (tX3_staysClear g l x2 M4 M11 r13 e12) tb_l240 ⟨rfl, rfl, Nat.le_of_ble_eq_true rfl, Nat.le_of_ble_eq_true rfl⟩ rfl (rest := []) rfl (st1 := [.int r13]) rfl (Nat.le_of_ble_eq_true rfl) ⟨Nat.zero_le _, Nat.zero_le _⟩ dX3_leastWait_29 (fun H locs hP hS => ?_)
        refine lv_if_eq (tgt := 37) hx hb dX3_leastWait_32 (by decide) (fun c14 => ?_) (fun c14 => ?_)
        · have h := tb_ip c14 h
          refine lv_aload_n hx hb dX3_leastWait_37 rfl (lv_at hl 0 rfl) ?_
          refine tb_getr F hP tb_l240 (ci := 3) rfl inlX3 0 (by decide) rfl kf_X3_12 dX3_leastWait_38 ?_
          obtain ⟨r17, M15, e16, h⟩ := tb_b2s h
          refine tb_callV F hP hS hl.1 kX2_pass km_X3_37 (as := []) (tX2_pass g l 241 tb_B241 M11 M15 r17 e16) tb_B241.1 ⟨rfl, rfl, Nat.le_of_ble_eq_true rfl, Nat.le_of_ble_eq_true rfl⟩ rfl (rest := []) rfl (st1 := [.int r17]) rfl (Nat.le_of_ble_eq_true rfl) ⟨Nat.zero_le _, Nat.zero_le _⟩ dX3_leastWait_41 (fun H locs hP hS => ?_)
          refine lv_pop hx hb dX3_leastWait_44 rfl ?_
          refine lv_iinc (v := (x3 + 1)) (lv' := [(3, .int (x3 + 1)), (0, .ref (tb_ad g 240)), (2, .int x2)]) hx hb dX3_leastWait_45 hl (k := 2) rfl rfl (by decide) rfl (fun ls hl => ?_)
          refine lv_goto (tgt := 10) hx hb dX3_leastWait_48 (by decide) ?_
          exact ih x2 (x3 + 1) M15 _ _ _ hP hS (lv_sub hl [1, 2, 0] rfl) h
        · have h := tb_ineg c14 h
          refine lv_iload_n hx hb dX3_leastWait_35 rfl (lv_at hl 2 rfl) ?_
          exact tb_iret h F hP hS dX3_leastWait_36
set_option maxHeartbeats 4000000 in
set_option maxRecDepth 100000 in
theorem tX3_leastWait (g : tb_GT) (l : Launch) (p1 : Nat) (hB1 : tb_B p1) (a2 : Int32) (M M' : tb_Mem) (r : Int32) (h : fX3_leastWait p1 a2 M = some (r, M')) : tb_C g l yX3_leastWait (Cond.code yX3_leastWait cX3_leastWait 4 (some .int)) rmX3_leastWait [.ref (tb_ad g 240), .ref (tb_ad g p1), .int a2] M M' (some (.int r)) := by
  refine tb_entry (by decide) (Nat.le_of_ble_eq_true rfl) ?_
  intro P e s m below meth c F hP hS ls hl
  have F : tb_F g cX3_leastWait 4 RX3 (some .int) (Cond.code yX3_leastWait cX3_leastWait 4 (some .int)) P s m ([.ref (tb_ad g 240), .ref (tb_ad g p1), .int a2] : List Value).toArray meth c := F
  have hx := F.1.1
  have hb := F.1.2.1
  have hl : lv_has ls 4 [(0, .ref (tb_ad g 240)), (1, .ref (tb_ad g p1)), (2, .int a2)] := hl
  unfold fX3_leastWait at h
  refine lv_aload_n hx hb dX3_leastWait_0 rfl (lv_at hl 0 rfl) ?_
  refine tb_getr F hP tb_l240 (ci := 3) rfl inlX3 0 (by decide) rfl kf_X3_12 dX3_leastWait_1 ?_
  refine lv_aload_n hx hb dX3_leastWait_4 rfl (lv_at hl 1 rfl) ?_
  obtain ⟨M1, e2, h⟩ := tb_b1s h
  refine tb_callV F hP hS hl.1 kX2_become km_X3_25 (as := [.ref (tb_ad g p1)]) (tX2_become g l 241 p1 tb_B241 hB1 M M1 e2) tb_B241.1 ⟨rfl, rfl, Nat.le_of_ble_eq_true rfl, Nat.le_of_ble_eq_true rfl⟩ rfl (rest := []) rfl (st1 := []) rfl (Nat.le_of_ble_eq_true rfl) ⟨Nat.zero_le _, Nat.zero_le _⟩ dX3_leastWait_5 (fun H locs hP hS => ?_)
  refine lv_iconst (v := 0) hx hb dX3_leastWait_8 (by decide) ?_
  refine lv_istore_n (lv' := [(3, .int 0), (0, .ref (tb_ad g 240)), (1, .ref (tb_ad g p1)), (2, .int a2)]) hx hb dX3_leastWait_9 rfl hl (by decide) rfl (fun ls hl => ?_)
  exact tX3_leastWait_L10 p1 hB1 F tb_N a2 0 M1 _ _ _ hP hS (lv_sub hl [1, 3, 0] rfl) h
def fX3_hear_L8 (p1 : Nat) : Nat → Int32 → Int32 → Int32 → tb_Mem → Option (tb_Mem)
  | 0, _, _, _, _ => none
  | n + 1, x2, x3, x4, M => if x3 ≤ x4 then (some M) else (if 12 ≤ x4 then (some M) else (tb_b2 (fX4_has p1 (x2 + x4) 1 M) (fun r7 M5 => if r7 = 0 then (some M5) else (tb_ck (tb_in (x2 + x4) 40) (tb_ck (tb_in x4 12) (tb_let (tb_up M5 259 x4.toNatClampNeg (M5 (p1 + 1) (x2 + x4).toNatClampNeg)) (fun M11 => tb_let (tb_up M11 240 3 (x4 + 1)) (fun M13 => fX3_hear_L8 p1 n x2 x3 (x4 + 1) M13))))))))
def fX3_hear (p1 : Nat) (a2 : Int32) (a3 : Int32) (M : tb_Mem) : Option (tb_Mem) :=
  tb_let (tb_up M 240 3 0) (fun M1 => fX3_hear_L8 p1 tb_N a2 a3 0 M1)
abbrev rmX3_hear : Room := { frames := 1, cells := 0, slots := 0, locals := 22 }
set_option maxHeartbeats 4000000 in
set_option maxRecDepth 100000 in
theorem tX3_hear_L8 {g : tb_GT} {l : Launch} {P : Program} {e : Env} {s : State} {m : MethodId} {below : List Frame} {meth : Method} {c : Code} (p1 : Nat) (hR1 : tb_R p1) {a2 : Int32} {a3 : Int32} {M' : tb_Mem} (F : tb_F g cX3_hear 5 RX3 none (Cond.code yX3_hear cX3_hear 5 none) P s m ([.ref (tb_ad g 240), .ref (tb_ad g p1), .int a2, .int a3] : List Value).toArray meth c) :
    ∀ (n : Nat) (x2 : Int32) (x3 : Int32) (x4 : Int32) (M : tb_Mem) (H : Heap) (locs : List Loc) (ls : Array Slot), tb_P g M H → va_S (tb_A g) s.heap H locs → lv_has ls 5 [(0, .ref (tb_ad g 240)), (1, .ref (tb_ad g p1)), (2, .int x2), (3, .int x3), (4, .int x4)] → fX3_hear_L8 p1 n x2 x3 x4 M = some M' → W P l e rmX3_hear s m ([.ref (tb_ad g 240), .ref (tb_ad g p1), .int a2, .int a3] : List Value).toArray below meth c H locs 0 0 (MQ below (tb_Q g M' none) ([.ref (tb_ad g 240), .ref (tb_ad g p1), .int a2, .int a3] : List Value).toArray s 0 0 (tb_A g)) (F0 m 8 ls []) := by
  have hx := F.1.1
  have hb := F.1.2.1
  intro n
  induction n with
  | zero =>
    intro x2 x3 x4 M H locs ls hP hS hl h
    rw [fX3_hear_L8] at h
    exact tb_none h
  | succ n ih =>
    intro x2 x3 x4 M H locs ls hP hS hl h
    rw [fX3_hear_L8] at h
    refine lv_iload hx hb dX3_hear_8 (lv_at hl 4 rfl) ?_
    refine lv_iload_n hx hb dX3_hear_10 rfl (lv_at hl 3 rfl) ?_
    refine lv_icmp_ge (tgt := 63) hx hb dX3_hear_11 (by decide) (fun c3 => ?_) (fun c3 => ?_)
    · have h := tb_ip c3 h
      exact tb_vret h F hP hS dX3_hear_63
    · have h := tb_ineg c3 h
      refine lv_iload hx hb dX3_hear_14 (lv_at hl 4 rfl) ?_
      refine lv_bipush (v := 12) hx hb dX3_hear_16 (by decide) ?_
      refine lv_icmp_ge (tgt := 63) hx hb dX3_hear_18 (by decide) (fun c4 => ?_) (fun c4 => ?_)
      · have h := tb_ip c4 h
        exact tb_vret h F hP hS dX3_hear_63
      · have h := tb_ineg c4 h
        refine lv_aload_n hx hb dX3_hear_21 rfl (lv_at hl 1 rfl) ?_
        refine lv_iload_n hx hb dX3_hear_22 rfl (lv_at hl 2 rfl) ?_
        refine lv_iload hx hb dX3_hear_23 (lv_at hl 4 rfl) ?_
        refine lv_iadd hx hb dX3_hear_25 ?_
        refine lv_iconst (v := 1) hx hb dX3_hear_26 (by decide) ?_
        obtain ⟨r7, M5, e6, h⟩ := tb_b2s h
        refine tb_callV F hP hS hl.1 kX4_has km_X3_55 (as := [.int (x2 + x4), .int 1]) (tX4_has g l p1 hR1 (x2 + x4) 1 M M5 r7 e6) hR1.1 ⟨rfl, rfl, Nat.le_of_ble_eq_true rfl, Nat.le_of_ble_eq_true rfl⟩ rfl (rest := []) rfl (st1 := [.int r7]) rfl (Nat.le_of_ble_eq_true rfl) ⟨Nat.zero_le _, Nat.zero_le _⟩ dX3_hear_27 (fun H locs hP hS => ?_)
        refine lv_if_eq (tgt := 63) hx hb dX3_hear_30 (by decide) (fun c8 => ?_) (fun c8 => ?_)
        · have h := tb_ip c8 h
          exact tb_vret h F hP hS dX3_hear_63
        · have h := tb_ineg c8 h
          refine lv_aload_n hx hb dX3_hear_33 rfl (lv_at hl 0 rfl) ?_
          refine tb_getr F hP tb_l240 (ci := 3) rfl inlX3 2 (by decide) rfl kf_X3_21 dX3_hear_34 ?_
          refine lv_iload hx hb dX3_hear_37 (lv_at hl 4 rfl) ?_
          refine lv_aload_n hx hb dX3_hear_39 rfl (lv_at hl 1 rfl) ?_
          refine tb_getr F hP hR1.1 (ci := 4) rfl inlX4 0 (by decide) rfl kf_X3_61 dX3_hear_40 ?_
          refine lv_iload_n hx hb dX3_hear_43 rfl (lv_at hl 2 rfl) ?_
          refine lv_iload hx hb dX3_hear_44 (lv_at hl 4 rfl) ?_
          refine lv_iadd hx hb dX3_hear_46 ?_
          obtain ⟨k9, h⟩ := tb_cks h
          refine tb_iald F hP hR1.2 rfl (tb_inv k9) dX3_hear_47 ?_
          obtain ⟨k10, h⟩ := tb_cks h
          obtain ⟨M11, e12, h⟩ := tb_lets h
          refine tb_iast F hP hS tb_l259 rfl (tb_inv k10) dX3_hear_48 (fun H locs hP hS => ?_)
          rw [← e12] at hP
          refine lv_aload_n hx hb dX3_hear_49 rfl (lv_at hl 0 rfl) ?_
          refine lv_iload hx hb dX3_hear_50 (lv_at hl 4 rfl) ?_
          refine lv_iconst (v := 1) hx hb dX3_hear_52 (by decide) ?_
          refine lv_iadd hx hb dX3_hear_53 ?_
          obtain ⟨M13, e14, h⟩ := tb_lets h
          refine tb_puti F hP hS tb_l240 (ci := 3) rfl inlX3 tyX3 tyX3_ok nmX3 3 (by decide) rfl rfl rfl rfl kf_X3_52 dX3_hear_54 (fun H locs hP hS => ?_)
          rw [← e14] at hP
          refine lv_iinc (v := (x4 + 1)) (lv' := [(4, .int (x4 + 1)), (0, .ref (tb_ad g 240)), (1, .ref (tb_ad g p1)), (2, .int x2), (3, .int x3)]) hx hb dX3_hear_57 hl (k := 4) rfl rfl (by decide) rfl (fun ls hl => ?_)
          refine lv_goto (tgt := 8) hx hb dX3_hear_60 (by decide) ?_
          exact ih x2 x3 (x4 + 1) M13 _ _ _ hP hS (lv_sub hl [1, 2, 3, 4, 0] rfl) h
set_option maxHeartbeats 4000000 in
set_option maxRecDepth 100000 in
theorem tX3_hear (g : tb_GT) (l : Launch) (p1 : Nat) (hR1 : tb_R p1) (a2 : Int32) (a3 : Int32) (M M' : tb_Mem) (h : fX3_hear p1 a2 a3 M = some M') : tb_C g l yX3_hear (Cond.code yX3_hear cX3_hear 5 none) rmX3_hear [.ref (tb_ad g 240), .ref (tb_ad g p1), .int a2, .int a3] M M' none := by
  refine tb_entry (by decide) (Nat.le_of_ble_eq_true rfl) ?_
  intro P e s m below meth c F hP hS ls hl
  have F : tb_F g cX3_hear 5 RX3 none (Cond.code yX3_hear cX3_hear 5 none) P s m ([.ref (tb_ad g 240), .ref (tb_ad g p1), .int a2, .int a3] : List Value).toArray meth c := F
  have hx := F.1.1
  have hb := F.1.2.1
  have hl : lv_has ls 5 [(0, .ref (tb_ad g 240)), (1, .ref (tb_ad g p1)), (2, .int a2), (3, .int a3)] := hl
  unfold fX3_hear at h
  refine lv_aload_n hx hb dX3_hear_0 rfl (lv_at hl 0 rfl) ?_
  refine lv_iconst (v := 0) hx hb dX3_hear_1 (by decide) ?_
  obtain ⟨M1, e2, h⟩ := tb_lets h
  refine tb_puti F hP hS tb_l240 (ci := 3) rfl inlX3 tyX3 tyX3_ok nmX3 3 (by decide) rfl rfl rfl rfl kf_X3_52 dX3_hear_2 (fun H locs hP hS => ?_)
  rw [← e2] at hP
  refine lv_iconst (v := 0) hx hb dX3_hear_5 (by decide) ?_
  refine lv_istore (lv' := [(4, .int 0), (0, .ref (tb_ad g 240)), (1, .ref (tb_ad g p1)), (2, .int a2), (3, .int a3)]) hx hb dX3_hear_6 hl (by decide) rfl (fun ls hl => ?_)
  exact tX3_hear_L8 p1 hR1 F tb_N a2 a3 0 M1 _ _ _ hP hS (lv_sub hl [1, 2, 3, 4, 0] rfl) h
def fX3_goesAt_J33 (K13 : Int32 → Int32 → tb_Mem → Option (Int32 × tb_Mem)) (x1 : Int32) (x2 : Int32) (M : tb_Mem) : Option (Int32 × tb_Mem) :=
  if (M 250 10) = (M 241 10) then (tb_ck (tb_in x2 12) (tb_b2 (fX2_rests 250 (M 259 x2.toNatClampNeg) M) (fun r14 M12 => if r14 = 0 then (some (0, M12)) else (tb_b1 (fX2_press 250 (M12 259 x2.toNatClampNeg) M12) (fun M16 => K13 x1 (x2 + 1) M16))))) else (some (0, M))
def fX3_goesAt_L13 : Nat → Int32 → Int32 → tb_Mem → Option (Int32 × tb_Mem)
  | 0, _, _, _ => none
  | n + 1, x1, x2, M => if (M 240 3) ≤ x2 then (tb_b1 (fX2_foresee 250 12 M) (fun M4 => some (((if (M4 250 10) = (M4 241 10) then 1 else 0) : Int32), M4))) else (if x2 ≤ 0 then (fX3_goesAt_J33 (fun z1 z2 M => fX3_goesAt_L13 n z1 z2 M) x1 x2 M) else (tb_b1 (fX2_foresee 250 x1 M) (fun M8 => fX3_goesAt_J33 (fun z1 z2 M => fX3_goesAt_L13 n z1 z2 M) x1 x2 M8)))
def fX3_goesAt (a1 : Int32) (M : tb_Mem) : Option (Int32 × tb_Mem) :=
  tb_b1 (fX2_become 250 241 M) (fun M1 => fX3_goesAt_L13 tb_N a1 0 M1)
abbrev rmX3_goesAt : Room := { frames := 4, cells := 0, slots := 0, locals := 128 }
set_option maxHeartbeats 4000000 in
set_option maxRecDepth 100000 in
theorem tX3_goesAt_J33 {g : tb_GT} {l : Launch} {P : Program} {e : Env} {s : State} {m : MethodId} {below : List Frame} {meth : Method} {c : Code} {a1 : Int32} {M' : tb_Mem} {r : Int32} (F : tb_F g cX3_goesAt 3 RX3 (some .boolean) (Cond.code yX3_goesAt cX3_goesAt 3 (some .boolean)) P s m ([.ref (tb_ad g 240), .int a1] : List Value).toArray meth c) (K13 : Int32 → Int32 → tb_Mem → Option (Int32 × tb_Mem)) (hK13 : ∀ (x1 : Int32) (x2 : Int32) (M : tb_Mem) (H : Heap) (locs : List Loc) (ls : Array Slot), tb_P g M H → va_S (tb_A g) s.heap H locs → lv_has ls 3 [(0, .ref (tb_ad g 240)), (1, .int x1), (2, .int x2)] → K13 x1 x2 M = some (r, M') → W P l e rmX3_goesAt s m ([.ref (tb_ad g 240), .int a1] : List Value).toArray below meth c H locs 0 0 (MQ below (tb_Q g M' (some (.int r))) ([.ref (tb_ad g 240), .int a1] : List Value).toArray s 0 0 (tb_A g)) (F0 m 13 ls [])) (x1 : Int32) (x2 : Int32) (M : tb_Mem) {H : Heap} {locs : List Loc} {ls : Array Slot} (hP : tb_P g M H) (hS : va_S (tb_A g) s.heap H locs) (hl : lv_has ls 3 [(0, .ref (tb_ad g 240)), (1, .int x1), (2, .int x2)]) (h : fX3_goesAt_J33 K13 x1 x2 M = some (r, M')) : W P l e rmX3_goesAt s m ([.ref (tb_ad g 240), .int a1] : List Value).toArray below meth c H locs 0 0 (MQ below (tb_Q g M' (some (.int r))) ([.ref (tb_ad g 240), .int a1] : List Value).toArray s 0 0 (tb_A g)) (F0 m 33 ls []) := by
  have hx := F.1.1
  have hb := F.1.2.1
  unfold fX3_goesAt_J33 at h
  refine lv_aload_n hx hb dX3_goesAt_33 rfl (lv_at hl 0 rfl) ?_
  refine tb_getr F hP tb_l240 (ci := 3) rfl inlX3 1 (by decide) rfl kf_X3_18 dX3_goesAt_34 ?_
  refine tb_geti F hP tb_B250.1 (ci := 2) rfl inlX2 10 (by decide) rfl kf_X3_33 dX3_goesAt_37 ?_
  refine lv_aload_n hx hb dX3_goesAt_40 rfl (lv_at hl 0 rfl) ?_
  refine tb_getr F hP tb_l240 (ci := 3) rfl inlX3 0 (by decide) rfl kf_X3_12 dX3_goesAt_41 ?_
  refine tb_geti F hP tb_B241.1 (ci := 2) rfl inlX2 10 (by decide) rfl kf_X3_33 dX3_goesAt_44 ?_
  refine lv_icmp_ne (tgt := 66) hx hb dX3_goesAt_47 (by decide) (fun c10 => ?_) (fun c10 => ?_)
  · have h := tb_ineg c10 h
    refine lv_iconst (v := 0) hx hb dX3_goesAt_66 (by decide) ?_
    exact tb_zret h F rfl hP hS dX3_goesAt_67
  · have h := tb_ip c10 h
    refine lv_aload_n hx hb dX3_goesAt_50 rfl (lv_at hl 0 rfl) ?_
    refine tb_getr F hP tb_l240 (ci := 3) rfl inlX3 1 (by decide) rfl kf_X3_18 dX3_goesAt_51 ?_
    refine lv_aload_n hx hb dX3_goesAt_54 rfl (lv_at hl 0 rfl) ?_
    refine tb_getr F hP tb_l240 (ci := 3) rfl inlX3 2 (by decide) rfl kf_X3_21 dX3_goesAt_55 ?_
    refine lv_iload_n hx hb dX3_goesAt_58 rfl (lv_at hl 2 rfl) ?_
    obtain ⟨k11, h⟩ := tb_cks h
    refine tb_iald F hP tb_l259 rfl (tb_inv k11) dX3_goesAt_59 ?_
    obtain ⟨r14, M12, e13, h⟩ := tb_b2s h
    refine tb_callV F hP hS hl.1 kX2_rests km_X3_42 (as := [.int (M 259 x2.toNatClampNeg)]) (tX2_rests g l 250 tb_B250 (M 259 x2.toNatClampNeg) M M12 r14 e13) tb_B250.1 ⟨rfl, rfl, Nat.le_of_ble_eq_true rfl, Nat.le_of_ble_eq_true rfl⟩ rfl (rest := []) rfl (st1 := [.int r14]) rfl (Nat.le_of_ble_eq_true rfl) ⟨Nat.zero_le _, Nat.zero_le _⟩ dX3_goesAt_60 (fun H locs hP hS => ?_)
    refine lv_if_ne (tgt := 68) hx hb dX3_goesAt_63 (by decide) (fun c15 => ?_) (fun c15 => ?_)
    · have h := tb_ineg c15 h
      refine lv_aload_n hx hb dX3_goesAt_68 rfl (lv_at hl 0 rfl) ?_
      refine tb_getr F hP tb_l240 (ci := 3) rfl inlX3 1 (by decide) rfl kf_X3_18 dX3_goesAt_69 ?_
      refine lv_aload_n hx hb dX3_goesAt_72 rfl (lv_at hl 0 rfl) ?_
      refine tb_getr F hP tb_l240 (ci := 3) rfl inlX3 2 (by decide) rfl kf_X3_21 dX3_goesAt_73 ?_
      refine lv_iload_n hx hb dX3_goesAt_76 rfl (lv_at hl 2 rfl) ?_
      refine tb_iald F hP tb_l259 rfl (tb_inv k11) dX3_goesAt_77 ?_
      obtain ⟨M16, e17, h⟩ := tb_b1s h
      refine tb_callV F hP hS hl.1 kX2_press km_X3_49 (as := [.int (M12 259 x2.toNatClampNeg)]) (tX2_press g l 250 tb_B250 (M12 259 x2.toNatClampNeg) M12 M16 e17) tb_B250.1 ⟨rfl, rfl, Nat.le_of_ble_eq_true rfl, Nat.le_of_ble_eq_true rfl⟩ rfl (rest := []) rfl (st1 := []) rfl (Nat.le_of_ble_eq_true rfl) ⟨Nat.zero_le _, Nat.zero_le _⟩ dX3_goesAt_78 (fun H locs hP hS => ?_)
      refine lv_iinc (v := (x2 + 1)) (lv' := [(2, .int (x2 + 1)), (0, .ref (tb_ad g 240)), (1, .int x1)]) hx hb dX3_goesAt_81 hl (k := 2) rfl rfl (by decide) rfl (fun ls hl => ?_)
      refine lv_goto (tgt := 13) hx hb dX3_goesAt_84 (by decide) ?_
      exact hK13 x1 (x2 + 1) M16 _ _ _ hP hS (lv_sub hl [1, 2, 0] rfl) h
    · have h := tb_ip c15 h
      refine lv_iconst (v := 0) hx hb dX3_goesAt_66 (by decide) ?_
      exact tb_zret h F rfl hP hS dX3_goesAt_67
set_option maxHeartbeats 4000000 in
set_option maxRecDepth 100000 in
theorem tX3_goesAt_L13 {g : tb_GT} {l : Launch} {P : Program} {e : Env} {s : State} {m : MethodId} {below : List Frame} {meth : Method} {c : Code} {a1 : Int32} {M' : tb_Mem} {r : Int32} (F : tb_F g cX3_goesAt 3 RX3 (some .boolean) (Cond.code yX3_goesAt cX3_goesAt 3 (some .boolean)) P s m ([.ref (tb_ad g 240), .int a1] : List Value).toArray meth c) :
    ∀ (n : Nat) (x1 : Int32) (x2 : Int32) (M : tb_Mem) (H : Heap) (locs : List Loc) (ls : Array Slot), tb_P g M H → va_S (tb_A g) s.heap H locs → lv_has ls 3 [(0, .ref (tb_ad g 240)), (1, .int x1), (2, .int x2)] → fX3_goesAt_L13 n x1 x2 M = some (r, M') → W P l e rmX3_goesAt s m ([.ref (tb_ad g 240), .int a1] : List Value).toArray below meth c H locs 0 0 (MQ below (tb_Q g M' (some (.int r))) ([.ref (tb_ad g 240), .int a1] : List Value).toArray s 0 0 (tb_A g)) (F0 m 13 ls []) := by
  have hx := F.1.1
  have hb := F.1.2.1
  intro n
  induction n with
  | zero =>
    intro x1 x2 M H locs ls hP hS hl h
    rw [fX3_goesAt_L13] at h
    exact tb_none h
  | succ n ih =>
    intro x1 x2 M H locs ls hP hS hl h
    rw [fX3_goesAt_L13] at h
    refine lv_iload_n hx hb dX3_goesAt_13 rfl (lv_at hl 2 rfl) ?_
    refine lv_aload_n hx hb dX3_goesAt_14 rfl (lv_at hl 0 rfl) ?_
    refine tb_geti F hP tb_l240 (ci := 3) rfl inlX3 3 (by decide) rfl kf_X3_52 dX3_goesAt_15 ?_
    refine lv_icmp_ge (tgt := 87) hx hb dX3_goesAt_18 (by decide) (fun c3 => ?_) (fun c3 => ?_)
    · have h := tb_ip c3 h
      refine lv_aload_n hx hb dX3_goesAt_87 rfl (lv_at hl 0 rfl) ?_
      refine tb_getr F hP tb_l240 (ci := 3) rfl inlX3 1 (by decide) rfl kf_X3_18 dX3_goesAt_88 ?_
      refine lv_bipush (v := 12) hx hb dX3_goesAt_91 (by decide) ?_
      obtain ⟨M4, e5, h⟩ := tb_b1s h
      refine tb_callV F hP hS hl.1 kX2_foresee km_X3_29 (as := [.int 12]) (tX2_foresee g l 250 tb_B250 12 M M4 e5) tb_B250.1 ⟨rfl, rfl, Nat.le_of_ble_eq_true rfl, Nat.le_of_ble_eq_true rfl⟩ rfl (rest := []) rfl (st1 := []) rfl (Nat.le_of_ble_eq_true rfl) ⟨Nat.zero_le _, Nat.zero_le _⟩ dX3_goesAt_93 (fun H locs hP hS => ?_)
      refine lv_aload_n hx hb dX3_goesAt_96 rfl (lv_at hl 0 rfl) ?_
      refine tb_getr F hP tb_l240 (ci := 3) rfl inlX3 1 (by decide) rfl kf_X3_18 dX3_goesAt_97 ?_
      refine tb_geti F hP tb_B250.1 (ci := 2) rfl inlX2 10 (by decide) rfl kf_X3_33 dX3_goesAt_100 ?_
      refine lv_aload_n hx hb dX3_goesAt_103 rfl (lv_at hl 0 rfl) ?_
      refine tb_getr F hP tb_l240 (ci := 3) rfl inlX3 0 (by decide) rfl kf_X3_12 dX3_goesAt_104 ?_
      refine tb_geti F hP tb_B241.1 (ci := 2) rfl inlX2 10 (by decide) rfl kf_X3_33 dX3_goesAt_107 ?_
      refine tb_mrg (g2 := F0 m 118 ls [.int ((if (M4 250 10) = (M4 241 10) then 1 else 0) : Int32)]) (fun hJ => ?_) ?_
      · refine lv_icmp_ne (tgt := 117) hx hb dX3_goesAt_110 (by decide) (fun c6 => ?_) (fun c6 => ?_)
        · refine lv_iconst (v := 0) hx hb dX3_goesAt_117 (by decide) ?_
          rw [if_neg c6] at hJ
          exact hJ
        · refine lv_iconst (v := 1) hx hb dX3_goesAt_113 (by decide) ?_
          refine lv_goto (tgt := 118) hx hb dX3_goesAt_114 (by decide) ?_
          rw [if_pos c6] at hJ
          exact hJ
      exact tb_zret h F (tb_bln (by (repeat' split) <;> decide)) hP hS dX3_goesAt_118
    · have h := tb_ineg c3 h
      refine lv_iload_n hx hb dX3_goesAt_21 rfl (lv_at hl 2 rfl) ?_
      refine lv_if_le (tgt := 33) hx hb dX3_goesAt_22 (by decide) (fun c7 => ?_) (fun c7 => ?_)
      · have h := tb_ip c7 h
        exact tX3_goesAt_J33 F (fun z1 z2 M => fX3_goesAt_L13 n z1 z2 M) ih x1 x2 M hP hS (lv_sub hl [0, 1, 2] rfl) h
      · have h := tb_ineg c7 h
        refine lv_aload_n hx hb dX3_goesAt_25 rfl (lv_at hl 0 rfl) ?_
        refine tb_getr F hP tb_l240 (ci := 3) rfl inlX3 1 (by decide) rfl kf_X3_18 dX3_goesAt_26 ?_
        refine lv_iload_n hx hb dX3_goesAt_29 rfl (lv_at hl 1 rfl) ?_
        obtain ⟨M8, e9, h⟩ := tb_b1s h
        refine tb_callV F hP hS hl.1 kX2_foresee km_X3_29 (as := [.int x1]) (tX2_foresee g l 250 tb_B250 x1 M M8 e9) tb_B250.1 ⟨rfl, rfl, Nat.le_of_ble_eq_true rfl, Nat.le_of_ble_eq_true rfl⟩ rfl (rest := []) rfl (st1 := []) rfl (Nat.le_of_ble_eq_true rfl) ⟨Nat.zero_le _, Nat.zero_le _⟩ dX3_goesAt_30 (fun H locs hP hS => ?_)
        exact tX3_goesAt_J33 F (fun z1 z2 M => fX3_goesAt_L13 n z1 z2 M) ih x1 x2 M8 hP hS (lv_sub hl [0, 1, 2] rfl) h
set_option maxHeartbeats 4000000 in
set_option maxRecDepth 100000 in
theorem tX3_goesAt (g : tb_GT) (l : Launch) (a1 : Int32) (M M' : tb_Mem) (r : Int32) (h : fX3_goesAt a1 M = some (r, M')) : tb_C g l yX3_goesAt (Cond.code yX3_goesAt cX3_goesAt 3 (some .boolean)) rmX3_goesAt [.ref (tb_ad g 240), .int a1] M M' (some (.int r)) := by
  refine tb_entry (by decide) (Nat.le_of_ble_eq_true rfl) ?_
  intro P e s m below meth c F hP hS ls hl
  have F : tb_F g cX3_goesAt 3 RX3 (some .boolean) (Cond.code yX3_goesAt cX3_goesAt 3 (some .boolean)) P s m ([.ref (tb_ad g 240), .int a1] : List Value).toArray meth c := F
  have hx := F.1.1
  have hb := F.1.2.1
  have hl : lv_has ls 3 [(0, .ref (tb_ad g 240)), (1, .int a1)] := hl
  unfold fX3_goesAt at h
  refine lv_aload_n hx hb dX3_goesAt_0 rfl (lv_at hl 0 rfl) ?_
  refine tb_getr F hP tb_l240 (ci := 3) rfl inlX3 1 (by decide) rfl kf_X3_18 dX3_goesAt_1 ?_
  refine lv_aload_n hx hb dX3_goesAt_4 rfl (lv_at hl 0 rfl) ?_
  refine tb_getr F hP tb_l240 (ci := 3) rfl inlX3 0 (by decide) rfl kf_X3_12 dX3_goesAt_5 ?_
  obtain ⟨M1, e2, h⟩ := tb_b1s h
  refine tb_callV F hP hS hl.1 kX2_become km_X3_25 (as := [.ref (tb_ad g 241)]) (tX2_become g l 250 241 tb_B250 tb_B241 M M1 e2) tb_B250.1 ⟨rfl, rfl, Nat.le_of_ble_eq_true rfl, Nat.le_of_ble_eq_true rfl⟩ rfl (rest := []) rfl (st1 := []) rfl (Nat.le_of_ble_eq_true rfl) ⟨Nat.zero_le _, Nat.zero_le _⟩ dX3_goesAt_8 (fun H locs hP hS => ?_)
  refine lv_iconst (v := 0) hx hb dX3_goesAt_11 (by decide) ?_
  refine lv_istore_n (lv' := [(2, .int 0), (0, .ref (tb_ad g 240)), (1, .int a1)]) hx hb dX3_goesAt_12 rfl hl (by decide) rfl (fun ls hl => ?_)
  exact tX3_goesAt_L13 F tb_N a1 0 M1 _ _ _ hP hS (lv_sub hl [1, 2, 0] rfl) h
def fX3_leastPace_L2 : Nat → Int32 → Int32 → tb_Mem → Option (Int32 × tb_Mem)
  | 0, _, _, _ => none
  | n + 1, x1, x2, M => if x1 < x2 then (some ((-1000000), M)) else (tb_b2 (fX3_goesAt x2 M) (fun r4 M2 => if r4 = 0 then (fX3_leastPace_L2 n x1 (x2 + 1) M2) else (some (x2, M2))))
def fX3_leastPace (a1 : Int32) (M : tb_Mem) : Option (Int32 × tb_Mem) :=
  fX3_leastPace_L2 tb_N a1 1 M
abbrev rmX3_leastPace : Room := { frames := 5, cells := 0, slots := 0, locals := 150 }
set_option maxHeartbeats 4000000 in
set_option maxRecDepth 100000 in
theorem tX3_leastPace_L2 {g : tb_GT} {l : Launch} {P : Program} {e : Env} {s : State} {m : MethodId} {below : List Frame} {meth : Method} {c : Code} {a1 : Int32} {M' : tb_Mem} {r : Int32} (F : tb_F g cX3_leastPace 3 RX3 (some .int) (Cond.code yX3_leastPace cX3_leastPace 3 (some .int)) P s m ([.ref (tb_ad g 240), .int a1] : List Value).toArray meth c) :
    ∀ (n : Nat) (x1 : Int32) (x2 : Int32) (M : tb_Mem) (H : Heap) (locs : List Loc) (ls : Array Slot), tb_P g M H → va_S (tb_A g) s.heap H locs → lv_has ls 3 [(0, .ref (tb_ad g 240)), (1, .int x1), (2, .int x2)] → fX3_leastPace_L2 n x1 x2 M = some (r, M') → W P l e rmX3_leastPace s m ([.ref (tb_ad g 240), .int a1] : List Value).toArray below meth c H locs 0 0 (MQ below (tb_Q g M' (some (.int r))) ([.ref (tb_ad g 240), .int a1] : List Value).toArray s 0 0 (tb_A g)) (F0 m 2 ls []) := by
  have hx := F.1.1
  have hb := F.1.2.1
  intro n
  induction n with
  | zero =>
    intro x1 x2 M H locs ls hP hS hl h
    rw [fX3_leastPace_L2] at h
    exact tb_none h
  | succ n ih =>
    intro x1 x2 M H locs ls hP hS hl h
    rw [fX3_leastPace_L2] at h
    refine lv_iload_n hx hb dX3_leastPace_2 rfl (lv_at hl 2 rfl) ?_
    refine lv_iload_n hx hb dX3_leastPace_3 rfl (lv_at hl 1 rfl) ?_
    refine lv_icmp_gt (tgt := 23) hx hb dX3_leastPace_4 (by decide) (fun c1 => ?_) (fun c1 => ?_)
    · have h := tb_ip c1 h
      refine lv_ldc (v := (-1000000)) hx hb F.1.2.2.2.1 (tb_hts F kc_X3_41) dX3_leastPace_23 ?_
      exact tb_iret h F hP hS dX3_leastPace_25
    · have h := tb_ineg c1 h
      refine lv_aload_n hx hb dX3_leastPace_7 rfl (lv_at hl 0 rfl) ?_
      refine lv_iload_n hx hb dX3_leastPace_8 rfl (lv_at hl 2 rfl) ?_
      obtain ⟨r4, M2, e3, h⟩ := tb_b2s h
      refine tb_callV F hP hS hl.1 kX3_goesAt km_X3_78 (as := [.int x2]) (tX3_goesAt g l x2 M M2 r4 e3) tb_l240 ⟨rfl, rfl, Nat.le_of_ble_eq_true rfl, Nat.le_of_ble_eq_true rfl⟩ rfl (rest := []) rfl (st1 := [.int r4]) rfl (Nat.le_of_ble_eq_true rfl) ⟨Nat.zero_le _, Nat.zero_le _⟩ dX3_leastPace_9 (fun H locs hP hS => ?_)
      refine lv_if_eq (tgt := 17) hx hb dX3_leastPace_12 (by decide) (fun c5 => ?_) (fun c5 => ?_)
      · have h := tb_ip c5 h
        refine lv_iinc (v := (x2 + 1)) (lv' := [(2, .int (x2 + 1)), (0, .ref (tb_ad g 240)), (1, .int x1)]) hx hb dX3_leastPace_17 hl (k := 2) rfl rfl (by decide) rfl (fun ls hl => ?_)
        refine lv_goto (tgt := 2) hx hb dX3_leastPace_20 (by decide) ?_
        exact ih x1 (x2 + 1) M2 _ _ _ hP hS (lv_sub hl [1, 2, 0] rfl) h
      · have h := tb_ineg c5 h
        refine lv_iload_n hx hb dX3_leastPace_15 rfl (lv_at hl 2 rfl) ?_
        exact tb_iret h F hP hS dX3_leastPace_16
set_option maxHeartbeats 4000000 in
set_option maxRecDepth 100000 in
theorem tX3_leastPace (g : tb_GT) (l : Launch) (a1 : Int32) (M M' : tb_Mem) (r : Int32) (h : fX3_leastPace a1 M = some (r, M')) : tb_C g l yX3_leastPace (Cond.code yX3_leastPace cX3_leastPace 3 (some .int)) rmX3_leastPace [.ref (tb_ad g 240), .int a1] M M' (some (.int r)) := by
  refine tb_entry (by decide) (Nat.le_of_ble_eq_true rfl) ?_
  intro P e s m below meth c F hP hS ls hl
  have F : tb_F g cX3_leastPace 3 RX3 (some .int) (Cond.code yX3_leastPace cX3_leastPace 3 (some .int)) P s m ([.ref (tb_ad g 240), .int a1] : List Value).toArray meth c := F
  have hx := F.1.1
  have hb := F.1.2.1
  have hl : lv_has ls 3 [(0, .ref (tb_ad g 240)), (1, .int a1)] := hl
  unfold fX3_leastPace at h
  refine lv_iconst (v := 1) hx hb dX3_leastPace_0 (by decide) ?_
  refine lv_istore_n (lv' := [(2, .int 1), (0, .ref (tb_ad g 240)), (1, .int a1)]) hx hb dX3_leastPace_1 rfl hl (by decide) rfl (fun ls hl => ?_)
  exact tX3_leastPace_L2 F tb_N a1 1 M _ _ _ hP hS (lv_sub hl [1, 2, 0] rfl) h
def fX3_paceAsItIs (p1 : Nat) (M : tb_Mem) : Option (Int32 × tb_Mem) :=
  tb_b1 (fX2_become 241 p1 M) (fun M1 => tb_b2 (fX3_leastPace 12 M1) (fun r5 M3 => some (r5, M3)))
abbrev rmX3_paceAsItIs : Room := { frames := 6, cells := 0, slots := 0, locals := 172 }
set_option maxHeartbeats 4000000 in
set_option maxRecDepth 100000 in
theorem tX3_paceAsItIs (g : tb_GT) (l : Launch) (p1 : Nat) (hB1 : tb_B p1) (M M' : tb_Mem) (r : Int32) (h : fX3_paceAsItIs p1 M = some (r, M')) : tb_C g l yX3_paceAsItIs (Cond.code yX3_paceAsItIs cX3_paceAsItIs 2 (some .int)) rmX3_paceAsItIs [.ref (tb_ad g 240), .ref (tb_ad g p1)] M M' (some (.int r)) := by
  refine tb_entry (by decide) (Nat.le_of_ble_eq_true rfl) ?_
  intro P e s m below meth c F hP hS ls hl
  have F : tb_F g cX3_paceAsItIs 2 RX3 (some .int) (Cond.code yX3_paceAsItIs cX3_paceAsItIs 2 (some .int)) P s m ([.ref (tb_ad g 240), .ref (tb_ad g p1)] : List Value).toArray meth c := F
  have hx := F.1.1
  have hb := F.1.2.1
  have hl : lv_has ls 2 [(0, .ref (tb_ad g 240)), (1, .ref (tb_ad g p1))] := hl
  unfold fX3_paceAsItIs at h
  refine lv_aload_n hx hb dX3_paceAsItIs_0 rfl (lv_at hl 0 rfl) ?_
  refine tb_getr F hP tb_l240 (ci := 3) rfl inlX3 0 (by decide) rfl kf_X3_12 dX3_paceAsItIs_1 ?_
  refine lv_aload_n hx hb dX3_paceAsItIs_4 rfl (lv_at hl 1 rfl) ?_
  obtain ⟨M1, e2, h⟩ := tb_b1s h
  refine tb_callV F hP hS hl.1 kX2_become km_X3_25 (as := [.ref (tb_ad g p1)]) (tX2_become g l 241 p1 tb_B241 hB1 M M1 e2) tb_B241.1 ⟨rfl, rfl, Nat.le_of_ble_eq_true rfl, Nat.le_of_ble_eq_true rfl⟩ rfl (rest := []) rfl (st1 := []) rfl (Nat.le_of_ble_eq_true rfl) ⟨Nat.zero_le _, Nat.zero_le _⟩ dX3_paceAsItIs_5 (fun H locs hP hS => ?_)
  refine lv_aload_n hx hb dX3_paceAsItIs_8 rfl (lv_at hl 0 rfl) ?_
  refine lv_bipush (v := 12) hx hb dX3_paceAsItIs_9 (by decide) ?_
  obtain ⟨r5, M3, e4, h⟩ := tb_b2s h
  refine tb_callV F hP hS hl.1 kX3_leastPace km_X3_64 (as := [.int 12]) (tX3_leastPace g l 12 M1 M3 r5 e4) tb_l240 ⟨rfl, rfl, Nat.le_of_ble_eq_true rfl, Nat.le_of_ble_eq_true rfl⟩ rfl (rest := []) rfl (st1 := [.int r5]) rfl (Nat.le_of_ble_eq_true rfl) ⟨Nat.zero_le _, Nat.zero_le _⟩ dX3_paceAsItIs_11 (fun H locs hP hS => ?_)
  exact tb_iret h F hP hS dX3_paceAsItIs_14
def fX3_bestSwap_L52 (p1 : Nat) (K37 : Int32 → Int32 → tb_Mem → Option (Int32 × tb_Mem)) : Nat → Int32 → Int32 → Int32 → tb_Mem → Option (Int32 × tb_Mem)
  | 0, _, _, _, _ => none
  | n + 1, x2, x4, x5, M => if (M p1 8) ≤ x5 then (K37 x2 (x4 + 1) M) else (tb_b1 (fX2_become 241 p1 M) (fun M11 => tb_b1 (fX2_exchange 241 x4 x5 M11) (fun M13 => tb_b2 (fX3_leastPace ((M13 240 4) - 1) M13) (fun r17 M15 => if r17 = (-1000000) then (fX3_bestSwap_L52 p1 K37 n x2 x4 (x5 + 1) M15) else (tb_let (tb_up M15 240 4 r17) (fun M19 => fX3_bestSwap_L52 p1 K37 n ((10 * x4) + x5) x4 (x5 + 1) M19))))))
def fX3_bestSwap_L37 (p1 : Nat) : Nat → Int32 → Int32 → tb_Mem → Option (Int32 × tb_Mem)
  | 0, _, _, _ => none
  | n + 1, x2, x4, M => if (M p1 8) ≤ x4 then (some (x2, M)) else (fX3_bestSwap_L52 p1 (fun z2 z4 M => fX3_bestSwap_L37 p1 n z2 z4 M) tb_N x2 x4 (x4 + 1) M)
def fX3_bestSwap (p1 : Nat) (M : tb_Mem) : Option (Int32 × tb_Mem) :=
  tb_b1 (fX2_become 241 p1 M) (fun M1 => tb_b2 (fX3_leastPace 12 M1) (fun r5 M3 => tb_let (tb_up M3 240 4 ((if r5 = (-1000000) then 13 else r5) : Int32)) (fun M7 => fX3_bestSwap_L37 p1 tb_N (-1000000) 0 M7)))
abbrev rmX3_bestSwap : Room := { frames := 6, cells := 0, slots := 0, locals := 172 }
set_option maxHeartbeats 4000000 in
set_option maxRecDepth 100000 in
theorem tX3_bestSwap_L52 {g : tb_GT} {l : Launch} {P : Program} {e : Env} {s : State} {m : MethodId} {below : List Frame} {meth : Method} {c : Code} (p1 : Nat) (hB1 : tb_B p1) {M' : tb_Mem} {r : Int32} (F : tb_F g cX3_bestSwap 7 RX3 (some .int) (Cond.code yX3_bestSwap cX3_bestSwap 7 (some .int)) P s m ([.ref (tb_ad g 240), .ref (tb_ad g p1)] : List Value).toArray meth c) (K37 : Int32 → Int32 → tb_Mem → Option (Int32 × tb_Mem)) (hK37 : ∀ (x2 : Int32) (x4 : Int32) (M : tb_Mem) (H : Heap) (locs : List Loc) (ls : Array Slot), tb_P g M H → va_S (tb_A g) s.heap H locs → lv_has ls 7 [(0, .ref (tb_ad g 240)), (1, .ref (tb_ad g p1)), (2, .int x2), (4, .int x4)] → K37 x2 x4 M = some (r, M') → W P l e rmX3_bestSwap s m ([.ref (tb_ad g 240), .ref (tb_ad g p1)] : List Value).toArray below meth c H locs 0 0 (MQ below (tb_Q g M' (some (.int r))) ([.ref (tb_ad g 240), .ref (tb_ad g p1)] : List Value).toArray s 0 0 (tb_A g)) (F0 m 37 ls [])) :
    ∀ (n : Nat) (x2 : Int32) (x4 : Int32) (x5 : Int32) (M : tb_Mem) (H : Heap) (locs : List Loc) (ls : Array Slot), tb_P g M H → va_S (tb_A g) s.heap H locs → lv_has ls 7 [(0, .ref (tb_ad g 240)), (1, .ref (tb_ad g p1)), (2, .int x2), (4, .int x4), (5, .int x5)] → fX3_bestSwap_L52 p1 K37 n x2 x4 x5 M = some (r, M') → W P l e rmX3_bestSwap s m ([.ref (tb_ad g 240), .ref (tb_ad g p1)] : List Value).toArray below meth c H locs 0 0 (MQ below (tb_Q g M' (some (.int r))) ([.ref (tb_ad g 240), .ref (tb_ad g p1)] : List Value).toArray s 0 0 (tb_A g)) (F0 m 52 ls []) := by
  have hx := F.1.1
  have hb := F.1.2.1
  intro n
  induction n with
  | zero =>
    intro x2 x4 x5 M H locs ls hP hS hl h
    rw [fX3_bestSwap_L52] at h
    exact tb_none h
  | succ n ih =>
    intro x2 x4 x5 M H locs ls hP hS hl h
    rw [fX3_bestSwap_L52] at h
    refine lv_iload hx hb dX3_bestSwap_52 (lv_at hl 4 rfl) ?_
    refine lv_aload_n hx hb dX3_bestSwap_54 rfl (lv_at hl 1 rfl) ?_
    refine tb_geti F hP hB1.1 (ci := 2) rfl inlX2 8 (by decide) rfl kf_X3_71 dX3_bestSwap_55 ?_
    refine lv_icmp_ge (tgt := 120) hx hb dX3_bestSwap_58 (by decide) (fun c10 => ?_) (fun c10 => ?_)
    · have h := tb_ip c10 h
      refine lv_iinc (v := (x4 + 1)) (lv' := [(4, .int (x4 + 1)), (0, .ref (tb_ad g 240)), (1, .ref (tb_ad g p1)), (2, .int x2), (5, .int x5)]) hx hb dX3_bestSwap_120 hl (k := 3) rfl rfl (by decide) rfl (fun ls hl => ?_)
      refine lv_goto (tgt := 37) hx hb dX3_bestSwap_123 (by decide) ?_
      exact hK37 x2 (x4 + 1) M _ _ _ hP hS (lv_sub hl [1, 2, 3, 0] rfl) h
    · have h := tb_ineg c10 h
      refine lv_aload_n hx hb dX3_bestSwap_61 rfl (lv_at hl 0 rfl) ?_
      refine tb_getr F hP tb_l240 (ci := 3) rfl inlX3 0 (by decide) rfl kf_X3_12 dX3_bestSwap_62 ?_
      refine lv_aload_n hx hb dX3_bestSwap_65 rfl (lv_at hl 1 rfl) ?_
      obtain ⟨M11, e12, h⟩ := tb_b1s h
      refine tb_callV F hP hS hl.1 kX2_become km_X3_25 (as := [.ref (tb_ad g p1)]) (tX2_become g l 241 p1 tb_B241 hB1 M M11 e12) tb_B241.1 ⟨rfl, rfl, Nat.le_of_ble_eq_true rfl, Nat.le_of_ble_eq_true rfl⟩ rfl (rest := []) rfl (st1 := []) rfl (Nat.le_of_ble_eq_true rfl) ⟨Nat.zero_le _, Nat.zero_le _⟩ dX3_bestSwap_66 (fun H locs hP hS => ?_)
      refine lv_aload_n hx hb dX3_bestSwap_69 rfl (lv_at hl 0 rfl) ?_
      refine tb_getr F hP tb_l240 (ci := 3) rfl inlX3 0 (by decide) rfl kf_X3_12 dX3_bestSwap_70 ?_
      refine lv_iload hx hb dX3_bestSwap_73 (lv_at hl 3 rfl) ?_
      refine lv_iload hx hb dX3_bestSwap_75 (lv_at hl 4 rfl) ?_
      obtain ⟨M13, e14, h⟩ := tb_b1s h
      refine tb_callV F hP hS hl.1 kX2_exchange km_X3_74 (as := [.int x4, .int x5]) (tX2_exchange g l 241 tb_B241 x4 x5 M11 M13 e14) tb_B241.1 ⟨rfl, rfl, Nat.le_of_ble_eq_true rfl, Nat.le_of_ble_eq_true rfl⟩ rfl (rest := []) rfl (st1 := []) rfl (Nat.le_of_ble_eq_true rfl) ⟨Nat.zero_le _, Nat.zero_le _⟩ dX3_bestSwap_77 (fun H locs hP hS => ?_)
      refine lv_aload_n hx hb dX3_bestSwap_80 rfl (lv_at hl 0 rfl) ?_
      refine lv_aload_n hx hb dX3_bestSwap_81 rfl (lv_at hl 0 rfl) ?_
      refine tb_geti F hP tb_l240 (ci := 3) rfl inlX3 4 (by decide) rfl kf_X3_68 dX3_bestSwap_82 ?_
      refine lv_iconst (v := 1) hx hb dX3_bestSwap_85 (by decide) ?_
      refine lv_isub hx hb dX3_bestSwap_86 ?_
      obtain ⟨r17, M15, e16, h⟩ := tb_b2s h
      refine tb_callV F hP hS hl.1 kX3_leastPace km_X3_64 (as := [.int ((M13 240 4) - 1)]) (tX3_leastPace g l ((M13 240 4) - 1) M13 M15 r17 e16) tb_l240 ⟨rfl, rfl, Nat.le_of_ble_eq_true rfl, Nat.le_of_ble_eq_true rfl⟩ rfl (rest := []) rfl (st1 := [.int r17]) rfl (Nat.le_of_ble_eq_true rfl) ⟨Nat.zero_le _, Nat.zero_le _⟩ dX3_bestSwap_87 (fun H locs hP hS => ?_)
      refine lv_istore (lv' := [(6, .int r17), (0, .ref (tb_ad g 240)), (1, .ref (tb_ad g p1)), (2, .int x2), (4, .int x4), (5, .int x5)]) hx hb dX3_bestSwap_90 hl (by decide) rfl (fun ls hl => ?_)
      refine lv_iload hx hb dX3_bestSwap_92 (lv_at hl 0 rfl) ?_
      refine lv_ldc (v := (-1000000)) hx hb F.1.2.2.2.1 (tb_hts F kc_X3_41) dX3_bestSwap_94 ?_
      refine lv_icmp_eq (tgt := 114) hx hb dX3_bestSwap_96 (by decide) (fun c18 => ?_) (fun c18 => ?_)
      · have h := tb_ip c18 h
        refine lv_iinc (v := (x5 + 1)) (lv' := [(5, .int (x5 + 1)), (6, .int r17), (0, .ref (tb_ad g 240)), (1, .ref (tb_ad g p1)), (2, .int x2), (4, .int x4)]) hx hb dX3_bestSwap_114 hl (k := 5) rfl rfl (by decide) rfl (fun ls hl => ?_)
        refine lv_goto (tgt := 52) hx hb dX3_bestSwap_117 (by decide) ?_
        exact ih x2 x4 (x5 + 1) M15 _ _ _ hP hS (lv_sub hl [2, 3, 4, 5, 0] rfl) h
      · have h := tb_ineg c18 h
        refine lv_aload_n hx hb dX3_bestSwap_99 rfl (lv_at hl 1 rfl) ?_
        refine lv_iload hx hb dX3_bestSwap_100 (lv_at hl 0 rfl) ?_
        obtain ⟨M19, e20, h⟩ := tb_lets h
        refine tb_puti F hP hS tb_l240 (ci := 3) rfl inlX3 tyX3 tyX3_ok nmX3 4 (by decide) rfl rfl rfl rfl kf_X3_68 dX3_bestSwap_102 (fun H locs hP hS => ?_)
        rw [← e20] at hP
        refine lv_bipush (v := 10) hx hb dX3_bestSwap_105 (by decide) ?_
        refine lv_iload hx hb dX3_bestSwap_107 (lv_at hl 4 rfl) ?_
        refine lv_imul hx hb dX3_bestSwap_109 ?_
        refine lv_iload hx hb dX3_bestSwap_110 (lv_at hl 5 rfl) ?_
        refine lv_iadd hx hb dX3_bestSwap_112 ?_
        refine lv_istore_n (lv' := [(2, .int ((10 * x4) + x5)), (6, .int r17), (0, .ref (tb_ad g 240)), (1, .ref (tb_ad g p1)), (4, .int x4), (5, .int x5)]) hx hb dX3_bestSwap_113 rfl hl (by decide) rfl (fun ls hl => ?_)
        refine lv_iinc (v := (x5 + 1)) (lv' := [(5, .int (x5 + 1)), (2, .int ((10 * x4) + x5)), (6, .int r17), (0, .ref (tb_ad g 240)), (1, .ref (tb_ad g p1)), (4, .int x4)]) hx hb dX3_bestSwap_114 hl (k := 5) rfl rfl (by decide) rfl (fun ls hl => ?_)
        refine lv_goto (tgt := 52) hx hb dX3_bestSwap_117 (by decide) ?_
        exact ih ((10 * x4) + x5) x4 (x5 + 1) M19 _ _ _ hP hS (lv_sub hl [3, 4, 1, 5, 0] rfl) h
set_option maxHeartbeats 4000000 in
set_option maxRecDepth 100000 in
theorem tX3_bestSwap_L37 {g : tb_GT} {l : Launch} {P : Program} {e : Env} {s : State} {m : MethodId} {below : List Frame} {meth : Method} {c : Code} (p1 : Nat) (hB1 : tb_B p1) {M' : tb_Mem} {r : Int32} (F : tb_F g cX3_bestSwap 7 RX3 (some .int) (Cond.code yX3_bestSwap cX3_bestSwap 7 (some .int)) P s m ([.ref (tb_ad g 240), .ref (tb_ad g p1)] : List Value).toArray meth c) :
    ∀ (n : Nat) (x2 : Int32) (x4 : Int32) (M : tb_Mem) (H : Heap) (locs : List Loc) (ls : Array Slot), tb_P g M H → va_S (tb_A g) s.heap H locs → lv_has ls 7 [(0, .ref (tb_ad g 240)), (1, .ref (tb_ad g p1)), (2, .int x2), (4, .int x4)] → fX3_bestSwap_L37 p1 n x2 x4 M = some (r, M') → W P l e rmX3_bestSwap s m ([.ref (tb_ad g 240), .ref (tb_ad g p1)] : List Value).toArray below meth c H locs 0 0 (MQ below (tb_Q g M' (some (.int r))) ([.ref (tb_ad g 240), .ref (tb_ad g p1)] : List Value).toArray s 0 0 (tb_A g)) (F0 m 37 ls []) := by
  have hx := F.1.1
  have hb := F.1.2.1
  intro n
  induction n with
  | zero =>
    intro x2 x4 M H locs ls hP hS hl h
    rw [fX3_bestSwap_L37] at h
    exact tb_none h
  | succ n ih =>
    intro x2 x4 M H locs ls hP hS hl h
    rw [fX3_bestSwap_L37] at h
    refine lv_iload hx hb dX3_bestSwap_37 (lv_at hl 3 rfl) ?_
    refine lv_aload_n hx hb dX3_bestSwap_39 rfl (lv_at hl 1 rfl) ?_
    refine tb_geti F hP hB1.1 (ci := 2) rfl inlX2 8 (by decide) rfl kf_X3_71 dX3_bestSwap_40 ?_
    refine lv_icmp_ge (tgt := 126) hx hb dX3_bestSwap_43 (by decide) (fun c9 => ?_) (fun c9 => ?_)
    · have h := tb_ip c9 h
      refine lv_iload_n hx hb dX3_bestSwap_126 rfl (lv_at hl 2 rfl) ?_
      exact tb_iret h F hP hS dX3_bestSwap_127
    · have h := tb_ineg c9 h
      refine lv_iload hx hb dX3_bestSwap_46 (lv_at hl 3 rfl) ?_
      refine lv_iconst (v := 1) hx hb dX3_bestSwap_48 (by decide) ?_
      refine lv_iadd hx hb dX3_bestSwap_49 ?_
      refine lv_istore (lv' := [(5, .int (x4 + 1)), (0, .ref (tb_ad g 240)), (1, .ref (tb_ad g p1)), (2, .int x2), (4, .int x4)]) hx hb dX3_bestSwap_50 hl (by decide) rfl (fun ls hl => ?_)
      exact tX3_bestSwap_L52 p1 hB1 F (fun z2 z4 M => fX3_bestSwap_L37 p1 n z2 z4 M) ih tb_N x2 x4 (x4 + 1) M _ _ _ hP hS (lv_sub hl [1, 2, 3, 4, 0] rfl) h
set_option maxHeartbeats 4000000 in
set_option maxRecDepth 100000 in
theorem tX3_bestSwap (g : tb_GT) (l : Launch) (p1 : Nat) (hB1 : tb_B p1) (M M' : tb_Mem) (r : Int32) (h : fX3_bestSwap p1 M = some (r, M')) : tb_C g l yX3_bestSwap (Cond.code yX3_bestSwap cX3_bestSwap 7 (some .int)) rmX3_bestSwap [.ref (tb_ad g 240), .ref (tb_ad g p1)] M M' (some (.int r)) := by
  refine tb_entry (by decide) (Nat.le_of_ble_eq_true rfl) ?_
  intro P e s m below meth c F hP hS ls hl
  have F : tb_F g cX3_bestSwap 7 RX3 (some .int) (Cond.code yX3_bestSwap cX3_bestSwap 7 (some .int)) P s m ([.ref (tb_ad g 240), .ref (tb_ad g p1)] : List Value).toArray meth c := F
  have hx := F.1.1
  have hb := F.1.2.1
  have hl : lv_has ls 7 [(0, .ref (tb_ad g 240)), (1, .ref (tb_ad g p1))] := hl
  unfold fX3_bestSwap at h
  refine lv_ldc (v := (-1000000)) hx hb F.1.2.2.2.1 (tb_hts F kc_X3_41) dX3_bestSwap_0 ?_
  refine lv_istore_n (lv' := [(2, .int (-1000000)), (0, .ref (tb_ad g 240)), (1, .ref (tb_ad g p1))]) hx hb dX3_bestSwap_2 rfl hl (by decide) rfl (fun ls hl => ?_)
  refine lv_aload_n hx hb dX3_bestSwap_3 rfl (lv_at hl 1 rfl) ?_
  refine tb_getr F hP tb_l240 (ci := 3) rfl inlX3 0 (by decide) rfl kf_X3_12 dX3_bestSwap_4 ?_
  refine lv_aload_n hx hb dX3_bestSwap_7 rfl (lv_at hl 2 rfl) ?_
  obtain ⟨M1, e2, h⟩ := tb_b1s h
  refine tb_callV F hP hS hl.1 kX2_become km_X3_25 (as := [.ref (tb_ad g p1)]) (tX2_become g l 241 p1 tb_B241 hB1 M M1 e2) tb_B241.1 ⟨rfl, rfl, Nat.le_of_ble_eq_true rfl, Nat.le_of_ble_eq_true rfl⟩ rfl (rest := []) rfl (st1 := []) rfl (Nat.le_of_ble_eq_true rfl) ⟨Nat.zero_le _, Nat.zero_le _⟩ dX3_bestSwap_8 (fun H locs hP hS => ?_)
  refine lv_aload_n hx hb dX3_bestSwap_11 rfl (lv_at hl 1 rfl) ?_
  refine lv_bipush (v := 12) hx hb dX3_bestSwap_12 (by decide) ?_
  obtain ⟨r5, M3, e4, h⟩ := tb_b2s h
  refine tb_callV F hP hS hl.1 kX3_leastPace km_X3_64 (as := [.int 12]) (tX3_leastPace g l 12 M1 M3 r5 e4) tb_l240 ⟨rfl, rfl, Nat.le_of_ble_eq_true rfl, Nat.le_of_ble_eq_true rfl⟩ rfl (rest := []) rfl (st1 := [.int r5]) rfl (Nat.le_of_ble_eq_true rfl) ⟨Nat.zero_le _, Nat.zero_le _⟩ dX3_bestSwap_14 (fun H locs hP hS => ?_)
  refine lv_istore_n (lv' := [(3, .int r5), (2, .int (-1000000)), (0, .ref (tb_ad g 240)), (1, .ref (tb_ad g p1))]) hx hb dX3_bestSwap_17 rfl hl (by decide) rfl (fun ls hl => ?_)
  refine lv_aload_n hx hb dX3_bestSwap_18 rfl (lv_at hl 2 rfl) ?_
  refine lv_iload_n hx hb dX3_bestSwap_19 rfl (lv_at hl 0 rfl) ?_
  refine lv_ldc (v := (-1000000)) hx hb F.1.2.2.2.1 (tb_hts F kc_X3_41) dX3_bestSwap_20 ?_
  refine tb_mrg (g2 := F0 m 31 ls [.int ((if r5 = (-1000000) then 13 else r5) : Int32), .ref (tb_ad g 240)]) (fun hJ => ?_) ?_
  · refine lv_icmp_ne (tgt := 30) hx hb dX3_bestSwap_22 (by decide) (fun c6 => ?_) (fun c6 => ?_)
    · refine lv_iload_n hx hb dX3_bestSwap_30 rfl (lv_at hl 0 rfl) ?_
      rw [if_neg c6] at hJ
      exact hJ
    · refine lv_bipush (v := 13) hx hb dX3_bestSwap_25 (by decide) ?_
      refine lv_goto (tgt := 31) hx hb dX3_bestSwap_27 (by decide) ?_
      rw [if_pos c6] at hJ
      exact hJ
  obtain ⟨M7, e8, h⟩ := tb_lets h
  refine tb_puti F hP hS tb_l240 (ci := 3) rfl inlX3 tyX3 tyX3_ok nmX3 4 (by decide) rfl rfl rfl rfl kf_X3_68 dX3_bestSwap_31 (fun H locs hP hS => ?_)
  rw [← e8] at hP
  refine lv_iconst (v := 0) hx hb dX3_bestSwap_34 (by decide) ?_
  refine lv_istore (lv' := [(4, .int 0), (3, .int r5), (2, .int (-1000000)), (0, .ref (tb_ad g 240)), (1, .ref (tb_ad g p1))]) hx hb dX3_bestSwap_35 hl (by decide) rfl (fun ls hl => ?_)
  exact tX3_bestSwap_L37 p1 hB1 F tb_N (-1000000) 0 M7 _ _ _ hP hS (lv_sub hl [3, 4, 2, 0] rfl) h
def fX3_mostOf (a0 : Int32) (a1 : Int32) (M : tb_Mem) : Option (Int32 × tb_Mem) :=
  if a0 = 0 then (some (5, M)) else (if a0 = 1 then (some (4, M)) else (if a0 = 2 then (some (9, M)) else (some ((a1 - 1), M))))
abbrev rmX3_mostOf : Room := { frames := 0, cells := 0, slots := 0, locals := 0 }
set_option maxHeartbeats 4000000 in
set_option maxRecDepth 100000 in
theorem tX3_mostOf (g : tb_GT) (l : Launch) (a0 : Int32) (a1 : Int32) (M M' : tb_Mem) (r : Int32) (h : fX3_mostOf a0 a1 M = some (r, M')) : tb_C g l yX3_mostOf (Cond.code yX3_mostOf cX3_mostOf 2 (some .int)) rmX3_mostOf [.int a0, .int a1] M M' (some (.int r)) := by
  refine tb_entry (by decide) (Nat.le_of_ble_eq_true rfl) ?_
  intro P e s m below meth c F hP hS ls hl
  have F : tb_F g cX3_mostOf 2 RX3 (some .int) (Cond.code yX3_mostOf cX3_mostOf 2 (some .int)) P s m ([.int a0, .int a1] : List Value).toArray meth c := F
  have hx := F.1.1
  have hb := F.1.2.1
  have hl : lv_has ls 2 [(0, .int a0), (1, .int a1)] := hl
  unfold fX3_mostOf at h
  refine lv_iload_n hx hb dX3_mostOf_0 rfl (lv_at hl 0 rfl) ?_
  by_cases c1 : a0 = 0
  · have h := tb_ip c1 h
    refine lv_tableIn (tgt := 28) hx hb dX3_mostOf_1 (by rw [c1]; decide) (by rw [c1]; decide) (by rw [c1]; rfl) (by decide) ?_
    refine lv_iconst (v := 5) hx hb dX3_mostOf_28 (by decide) ?_
    exact tb_iret h F hP hS dX3_mostOf_29
  have h := tb_ineg c1 h
  by_cases c2 : a0 = 1
  · have h := tb_ip c2 h
    refine lv_tableIn (tgt := 30) hx hb dX3_mostOf_1 (by rw [c2]; decide) (by rw [c2]; decide) (by rw [c2]; rfl) (by decide) ?_
    refine lv_iconst (v := 4) hx hb dX3_mostOf_30 (by decide) ?_
    exact tb_iret h F hP hS dX3_mostOf_31
  have h := tb_ineg c2 h
  by_cases c3 : a0 = 2
  · have h := tb_ip c3 h
    refine lv_tableIn (tgt := 32) hx hb dX3_mostOf_1 (by rw [c3]; decide) (by rw [c3]; decide) (by rw [c3]; rfl) (by decide) ?_
    refine lv_bipush (v := 9) hx hb dX3_mostOf_32 (by decide) ?_
    exact tb_iret h F hP hS dX3_mostOf_34
  have h := tb_ineg c3 h
  have uc1 := lv_neT c1 (show (0 : Int32).toInt = 0 by decide)
  have uc2 := lv_neT c2 (show (1 : Int32).toInt = 1 by decide)
  have uc3 := lv_neT c3 (show (2 : Int32).toInt = 2 by decide)
  refine lv_tableOut (tgt := 35) hx hb dX3_mostOf_1 (by omega) (by decide) ?_
  refine lv_iload_n hx hb dX3_mostOf_35 rfl (lv_at hl 1 rfl) ?_
  refine lv_iconst (v := 1) hx hb dX3_mostOf_36 (by decide) ?_
  refine lv_isub hx hb dX3_mostOf_37 ?_
  exact tb_iret h F hP hS dX3_mostOf_38
def fX3_suppose (a1 : Int32) (a2 : Int32) (a3 : Int32) (M : tb_Mem) : Option (tb_Mem) :=
  if a2 = 0 then (tb_ck (tb_in a1 8) (tb_b1 (fX2_shape 241 a1 a3 (M (241 + 2) a1.toNatClampNeg) M) (fun M3 => some M3))) else (if a2 = 1 then (tb_ck (tb_in a1 8) (tb_b1 (fX2_shape 241 a1 (M (241 + 1) a1.toNatClampNeg) a3 M) (fun M7 => some M7))) else (if a2 = 2 then (tb_b1 (fX2_startAt 241 a1 a3 M) (fun M10 => some M10)) else (tb_ck (tb_in a3 8) (tb_b1 (fX2_exchange 241 a1 (M (241 + 5) a3.toNatClampNeg) M) (fun M13 => some M13)))))
abbrev rmX3_suppose : Room := { frames := 1, cells := 0, slots := 0, locals := 23 }
set_option maxHeartbeats 4000000 in
set_option maxRecDepth 100000 in
theorem tX3_suppose (g : tb_GT) (l : Launch) (a1 : Int32) (a2 : Int32) (a3 : Int32) (M M' : tb_Mem) (h : fX3_suppose a1 a2 a3 M = some M') : tb_C g l yX3_suppose (Cond.code yX3_suppose cX3_suppose 4 none) rmX3_suppose [.ref (tb_ad g 240), .int a1, .int a2, .int a3] M M' none := by
  refine tb_entry (by decide) (Nat.le_of_ble_eq_true rfl) ?_
  intro P e s m below meth c F hP hS ls hl
  have F : tb_F g cX3_suppose 4 RX3 none (Cond.code yX3_suppose cX3_suppose 4 none) P s m ([.ref (tb_ad g 240), .int a1, .int a2, .int a3] : List Value).toArray meth c := F
  have hx := F.1.1
  have hb := F.1.2.1
  have hl : lv_has ls 4 [(0, .ref (tb_ad g 240)), (1, .int a1), (2, .int a2), (3, .int a3)] := hl
  unfold fX3_suppose at h
  refine lv_iload_n hx hb dX3_suppose_0 rfl (lv_at hl 2 rfl) ?_
  by_cases c1 : a2 = 0
  · have h := tb_ip c1 h
    refine lv_tableIn (tgt := 28) hx hb dX3_suppose_1 (by rw [c1]; decide) (by rw [c1]; decide) (by rw [c1]; rfl) (by decide) ?_
    refine lv_aload_n hx hb dX3_suppose_28 rfl (lv_at hl 0 rfl) ?_
    refine tb_getr F hP tb_l240 (ci := 3) rfl inlX3 0 (by decide) rfl kf_X3_12 dX3_suppose_29 ?_
    refine lv_iload_n hx hb dX3_suppose_32 rfl (lv_at hl 1 rfl) ?_
    refine lv_iload_n hx hb dX3_suppose_33 rfl (lv_at hl 3 rfl) ?_
    refine lv_aload_n hx hb dX3_suppose_34 rfl (lv_at hl 0 rfl) ?_
    refine tb_getr F hP tb_l240 (ci := 3) rfl inlX3 0 (by decide) rfl kf_X3_12 dX3_suppose_35 ?_
    refine tb_getr F hP tb_B241.1 (ci := 2) rfl inlX2 1 (by decide) rfl kf_X3_92 dX3_suppose_38 ?_
    refine lv_iload_n hx hb dX3_suppose_41 rfl (lv_at hl 1 rfl) ?_
    obtain ⟨k2, h⟩ := tb_cks h
    refine tb_iald F hP tb_B241.2.2.1 rfl (tb_inv k2) dX3_suppose_42 ?_
    obtain ⟨M3, e4, h⟩ := tb_b1s h
    refine tb_callV F hP hS hl.1 kX2_shape km_X3_95 (as := [.int a1, .int a3, .int (M (241 + 2) a1.toNatClampNeg)]) (tX2_shape g l 241 tb_B241 a1 a3 (M (241 + 2) a1.toNatClampNeg) M M3 e4) tb_B241.1 ⟨rfl, rfl, Nat.le_of_ble_eq_true rfl, Nat.le_of_ble_eq_true rfl⟩ rfl (rest := []) rfl (st1 := []) rfl (Nat.le_of_ble_eq_true rfl) ⟨Nat.zero_le _, Nat.zero_le _⟩ dX3_suppose_43 (fun H locs hP hS => ?_)
    refine lv_goto (tgt := 99) hx hb dX3_suppose_46 (by decide) ?_
    exact tb_vret h F hP hS dX3_suppose_99
  have h := tb_ineg c1 h
  by_cases c5 : a2 = 1
  · have h := tb_ip c5 h
    refine lv_tableIn (tgt := 49) hx hb dX3_suppose_1 (by rw [c5]; decide) (by rw [c5]; decide) (by rw [c5]; rfl) (by decide) ?_
    refine lv_aload_n hx hb dX3_suppose_49 rfl (lv_at hl 0 rfl) ?_
    refine tb_getr F hP tb_l240 (ci := 3) rfl inlX3 0 (by decide) rfl kf_X3_12 dX3_suppose_50 ?_
    refine lv_iload_n hx hb dX3_suppose_53 rfl (lv_at hl 1 rfl) ?_
    refine lv_aload_n hx hb dX3_suppose_54 rfl (lv_at hl 0 rfl) ?_
    refine tb_getr F hP tb_l240 (ci := 3) rfl inlX3 0 (by decide) rfl kf_X3_12 dX3_suppose_55 ?_
    refine tb_getr F hP tb_B241.1 (ci := 2) rfl inlX2 0 (by decide) rfl kf_X3_98 dX3_suppose_58 ?_
    refine lv_iload_n hx hb dX3_suppose_61 rfl (lv_at hl 1 rfl) ?_
    obtain ⟨k6, h⟩ := tb_cks h
    refine tb_iald F hP tb_B241.2.1 rfl (tb_inv k6) dX3_suppose_62 ?_
    refine lv_iload_n hx hb dX3_suppose_63 rfl (lv_at hl 3 rfl) ?_
    obtain ⟨M7, e8, h⟩ := tb_b1s h
    refine tb_callV F hP hS hl.1 kX2_shape km_X3_95 (as := [.int a1, .int (M (241 + 1) a1.toNatClampNeg), .int a3]) (tX2_shape g l 241 tb_B241 a1 (M (241 + 1) a1.toNatClampNeg) a3 M M7 e8) tb_B241.1 ⟨rfl, rfl, Nat.le_of_ble_eq_true rfl, Nat.le_of_ble_eq_true rfl⟩ rfl (rest := []) rfl (st1 := []) rfl (Nat.le_of_ble_eq_true rfl) ⟨Nat.zero_le _, Nat.zero_le _⟩ dX3_suppose_64 (fun H locs hP hS => ?_)
    refine lv_goto (tgt := 99) hx hb dX3_suppose_67 (by decide) ?_
    exact tb_vret h F hP hS dX3_suppose_99
  have h := tb_ineg c5 h
  by_cases c9 : a2 = 2
  · have h := tb_ip c9 h
    refine lv_tableIn (tgt := 70) hx hb dX3_suppose_1 (by rw [c9]; decide) (by rw [c9]; decide) (by rw [c9]; rfl) (by decide) ?_
    refine lv_aload_n hx hb dX3_suppose_70 rfl (lv_at hl 0 rfl) ?_
    refine tb_getr F hP tb_l240 (ci := 3) rfl inlX3 0 (by decide) rfl kf_X3_12 dX3_suppose_71 ?_
    refine lv_iload_n hx hb dX3_suppose_74 rfl (lv_at hl 1 rfl) ?_
    refine lv_iload_n hx hb dX3_suppose_75 rfl (lv_at hl 3 rfl) ?_
    obtain ⟨M10, e11, h⟩ := tb_b1s h
    refine tb_callV F hP hS hl.1 kX2_startAt km_X3_101 (as := [.int a1, .int a3]) (tX2_startAt g l 241 tb_B241 a1 a3 M M10 e11) tb_B241.1 ⟨rfl, rfl, Nat.le_of_ble_eq_true rfl, Nat.le_of_ble_eq_true rfl⟩ rfl (rest := []) rfl (st1 := []) rfl (Nat.le_of_ble_eq_true rfl) ⟨Nat.zero_le _, Nat.zero_le _⟩ dX3_suppose_76 (fun H locs hP hS => ?_)
    refine lv_goto (tgt := 99) hx hb dX3_suppose_79 (by decide) ?_
    exact tb_vret h F hP hS dX3_suppose_99
  have h := tb_ineg c9 h
  have uc1 := lv_neT c1 (show (0 : Int32).toInt = 0 by decide)
  have uc5 := lv_neT c5 (show (1 : Int32).toInt = 1 by decide)
  have uc9 := lv_neT c9 (show (2 : Int32).toInt = 2 by decide)
  refine lv_tableOut (tgt := 82) hx hb dX3_suppose_1 (by omega) (by decide) ?_
  refine lv_aload_n hx hb dX3_suppose_82 rfl (lv_at hl 0 rfl) ?_
  refine tb_getr F hP tb_l240 (ci := 3) rfl inlX3 0 (by decide) rfl kf_X3_12 dX3_suppose_83 ?_
  refine lv_iload_n hx hb dX3_suppose_86 rfl (lv_at hl 1 rfl) ?_
  refine lv_aload_n hx hb dX3_suppose_87 rfl (lv_at hl 0 rfl) ?_
  refine tb_getr F hP tb_l240 (ci := 3) rfl inlX3 0 (by decide) rfl kf_X3_12 dX3_suppose_88 ?_
  refine tb_getr F hP tb_B241.1 (ci := 2) rfl inlX2 4 (by decide) rfl kf_X3_104 dX3_suppose_91 ?_
  refine lv_iload_n hx hb dX3_suppose_94 rfl (lv_at hl 3 rfl) ?_
  obtain ⟨k12, h⟩ := tb_cks h
  refine tb_iald F hP tb_B241.2.2.2.2.2.1 rfl (tb_inv k12) dX3_suppose_95 ?_
  obtain ⟨M13, e14, h⟩ := tb_b1s h
  refine tb_callV F hP hS hl.1 kX2_exchange km_X3_74 (as := [.int a1, .int (M (241 + 5) a3.toNatClampNeg)]) (tX2_exchange g l 241 tb_B241 a1 (M (241 + 5) a3.toNatClampNeg) M M13 e14) tb_B241.1 ⟨rfl, rfl, Nat.le_of_ble_eq_true rfl, Nat.le_of_ble_eq_true rfl⟩ rfl (rest := []) rfl (st1 := []) rfl (Nat.le_of_ble_eq_true rfl) ⟨Nat.zero_le _, Nat.zero_le _⟩ dX3_suppose_96 (fun H locs hP hS => ?_)
  exact tb_vret h F hP hS dX3_suppose_99
def fX3_risesAsHeard_L2 : Nat → Int32 → Int32 → tb_Mem → Option (Int32 × tb_Mem)
  | 0, _, _, _ => none
  | n + 1, x1, x2, M => if (M 240 3) ≤ x2 then (some (1, M)) else (tb_b2 (fX2_pass 241 M) (fun r4 M2 => tb_ck (tb_in x1 8) (tb_ck (tb_in x2 12) (if (M2 (241 + 7) x1.toNatClampNeg) = (M2 259 x2.toNatClampNeg) then (fX3_risesAsHeard_L2 n x1 (x2 + 1) M2) else (some (0, M2))))))
def fX3_risesAsHeard (a1 : Int32) (M : tb_Mem) : Option (Int32 × tb_Mem) :=
  fX3_risesAsHeard_L2 tb_N a1 0 M
abbrev rmX3_risesAsHeard : Room := { frames := 3, cells := 0, slots := 0, locals := 106 }
set_option maxHeartbeats 4000000 in
set_option maxRecDepth 100000 in
theorem tX3_risesAsHeard_L2 {g : tb_GT} {l : Launch} {P : Program} {e : Env} {s : State} {m : MethodId} {below : List Frame} {meth : Method} {c : Code} {a1 : Int32} {M' : tb_Mem} {r : Int32} (F : tb_F g cX3_risesAsHeard 3 RX3 (some .boolean) (Cond.code yX3_risesAsHeard cX3_risesAsHeard 3 (some .boolean)) P s m ([.ref (tb_ad g 240), .int a1] : List Value).toArray meth c) :
    ∀ (n : Nat) (x1 : Int32) (x2 : Int32) (M : tb_Mem) (H : Heap) (locs : List Loc) (ls : Array Slot), tb_P g M H → va_S (tb_A g) s.heap H locs → lv_has ls 3 [(0, .ref (tb_ad g 240)), (1, .int x1), (2, .int x2)] → fX3_risesAsHeard_L2 n x1 x2 M = some (r, M') → W P l e rmX3_risesAsHeard s m ([.ref (tb_ad g 240), .int a1] : List Value).toArray below meth c H locs 0 0 (MQ below (tb_Q g M' (some (.int r))) ([.ref (tb_ad g 240), .int a1] : List Value).toArray s 0 0 (tb_A g)) (F0 m 2 ls []) := by
  have hx := F.1.1
  have hb := F.1.2.1
  intro n
  induction n with
  | zero =>
    intro x1 x2 M H locs ls hP hS hl h
    rw [fX3_risesAsHeard_L2] at h
    exact tb_none h
  | succ n ih =>
    intro x1 x2 M H locs ls hP hS hl h
    rw [fX3_risesAsHeard_L2] at h
    refine lv_iload_n hx hb dX3_risesAsHeard_2 rfl (lv_at hl 2 rfl) ?_
    refine lv_aload_n hx hb dX3_risesAsHeard_3 rfl (lv_at hl 0 rfl) ?_
    refine tb_geti F hP tb_l240 (ci := 3) rfl inlX3 3 (by decide) rfl kf_X3_52 dX3_risesAsHeard_4 ?_
    refine lv_icmp_ge (tgt := 44) hx hb dX3_risesAsHeard_7 (by decide) (fun c1 => ?_) (fun c1 => ?_)
    · have h := tb_ip c1 h
      refine lv_iconst (v := 1) hx hb dX3_risesAsHeard_44 (by decide) ?_
      exact tb_zret h F rfl hP hS dX3_risesAsHeard_45
    · have h := tb_ineg c1 h
      refine lv_aload_n hx hb dX3_risesAsHeard_10 rfl (lv_at hl 0 rfl) ?_
      refine tb_getr F hP tb_l240 (ci := 3) rfl inlX3 0 (by decide) rfl kf_X3_12 dX3_risesAsHeard_11 ?_
      obtain ⟨r4, M2, e3, h⟩ := tb_b2s h
      refine tb_callV F hP hS hl.1 kX2_pass km_X3_37 (as := []) (tX2_pass g l 241 tb_B241 M M2 r4 e3) tb_B241.1 ⟨rfl, rfl, Nat.le_of_ble_eq_true rfl, Nat.le_of_ble_eq_true rfl⟩ rfl (rest := []) rfl (st1 := [.int r4]) rfl (Nat.le_of_ble_eq_true rfl) ⟨Nat.zero_le _, Nat.zero_le _⟩ dX3_risesAsHeard_14 (fun H locs hP hS => ?_)
      refine lv_pop hx hb dX3_risesAsHeard_17 rfl ?_
      refine lv_aload_n hx hb dX3_risesAsHeard_18 rfl (lv_at hl 0 rfl) ?_
      refine tb_getr F hP tb_l240 (ci := 3) rfl inlX3 0 (by decide) rfl kf_X3_12 dX3_risesAsHeard_19 ?_
      refine tb_getr F hP tb_B241.1 (ci := 2) rfl inlX2 6 (by decide) rfl kf_X3_107 dX3_risesAsHeard_22 ?_
      refine lv_iload_n hx hb dX3_risesAsHeard_25 rfl (lv_at hl 1 rfl) ?_
      obtain ⟨k5, h⟩ := tb_cks h
      refine tb_iald F hP tb_B241.2.2.2.2.2.2.2.1 rfl (tb_inv k5) dX3_risesAsHeard_26 ?_
      refine lv_aload_n hx hb dX3_risesAsHeard_27 rfl (lv_at hl 0 rfl) ?_
      refine tb_getr F hP tb_l240 (ci := 3) rfl inlX3 2 (by decide) rfl kf_X3_21 dX3_risesAsHeard_28 ?_
      refine lv_iload_n hx hb dX3_risesAsHeard_31 rfl (lv_at hl 2 rfl) ?_
      obtain ⟨k6, h⟩ := tb_cks h
      refine tb_iald F hP tb_l259 rfl (tb_inv k6) dX3_risesAsHeard_32 ?_
      refine lv_icmp_eq (tgt := 38) hx hb dX3_risesAsHeard_33 (by decide) (fun c7 => ?_) (fun c7 => ?_)
      · have h := tb_ip c7 h
        refine lv_iinc (v := (x2 + 1)) (lv' := [(2, .int (x2 + 1)), (0, .ref (tb_ad g 240)), (1, .int x1)]) hx hb dX3_risesAsHeard_38 hl (k := 2) rfl rfl (by decide) rfl (fun ls hl => ?_)
        refine lv_goto (tgt := 2) hx hb dX3_risesAsHeard_41 (by decide) ?_
        exact ih x1 (x2 + 1) M2 _ _ _ hP hS (lv_sub hl [1, 2, 0] rfl) h
      · have h := tb_ineg c7 h
        refine lv_iconst (v := 0) hx hb dX3_risesAsHeard_36 (by decide) ?_
        exact tb_zret h F rfl hP hS dX3_risesAsHeard_37
set_option maxHeartbeats 4000000 in
set_option maxRecDepth 100000 in
theorem tX3_risesAsHeard (g : tb_GT) (l : Launch) (a1 : Int32) (M M' : tb_Mem) (r : Int32) (h : fX3_risesAsHeard a1 M = some (r, M')) : tb_C g l yX3_risesAsHeard (Cond.code yX3_risesAsHeard cX3_risesAsHeard 3 (some .boolean)) rmX3_risesAsHeard [.ref (tb_ad g 240), .int a1] M M' (some (.int r)) := by
  refine tb_entry (by decide) (Nat.le_of_ble_eq_true rfl) ?_
  intro P e s m below meth c F hP hS ls hl
  have F : tb_F g cX3_risesAsHeard 3 RX3 (some .boolean) (Cond.code yX3_risesAsHeard cX3_risesAsHeard 3 (some .boolean)) P s m ([.ref (tb_ad g 240), .int a1] : List Value).toArray meth c := F
  have hx := F.1.1
  have hb := F.1.2.1
  have hl : lv_has ls 3 [(0, .ref (tb_ad g 240)), (1, .int a1)] := hl
  unfold fX3_risesAsHeard at h
  refine lv_iconst (v := 0) hx hb dX3_risesAsHeard_0 (by decide) ?_
  refine lv_istore_n (lv' := [(2, .int 0), (0, .ref (tb_ad g 240)), (1, .int a1)]) hx hb dX3_risesAsHeard_1 rfl hl (by decide) rfl (fun ls hl => ?_)
  exact tX3_risesAsHeard_L2 F tb_N a1 0 M _ _ _ hP hS (lv_sub hl [1, 2, 0] rfl) h
def fX3_fitting_L29 (p1 : Nat) : Nat → Int32 → Int32 → Int32 → Int32 → Int32 → tb_Mem → Option (Int32 × tb_Mem)
  | 0, _, _, _, _, _, _ => none
  | n + 1, x2, x3, x5, x6, x7, M => if x5 < x7 then (some (x6, M)) else (tb_b1 (fX2_become 241 p1 M) (fun M8 => tb_b1 (fX3_suppose x2 x3 x7 M8) (fun M10 => tb_b2 (fX3_risesAsHeard x2 M10) (fun r14 M12 => if r14 = 0 then (fX3_fitting_L29 p1 n x2 x3 x5 x6 (x7 + 1) M12) else (tb_let ((x6 ||| (1 <<< (x7 &&& 31))) : Int32) (fun v16 => fX3_fitting_L29 p1 n x2 x3 x5 v16 (x7 + 1) M12))))))
def fX3_fitting (p1 : Nat) (a2 : Int32) (a3 : Int32) (M : tb_Mem) : Option (Int32 × tb_Mem) :=
  tb_let (((if 2 ≤ a3 then 0 else 1) : Int32) : Int32) (fun v2 => tb_b2 (fX3_mostOf a3 (M p1 8) M) (fun r6 M4 => fX3_fitting_L29 p1 tb_N a2 a3 r6 0 v2 M4))
abbrev rmX3_fitting : Room := { frames := 4, cells := 0, slots := 0, locals := 128 }
set_option maxHeartbeats 4000000 in
set_option maxRecDepth 100000 in
theorem tX3_fitting_L29 {g : tb_GT} {l : Launch} {P : Program} {e : Env} {s : State} {m : MethodId} {below : List Frame} {meth : Method} {c : Code} (p1 : Nat) (hB1 : tb_B p1) {a2 : Int32} {a3 : Int32} {M' : tb_Mem} {r : Int32} (F : tb_F g cX3_fitting 8 RX3 (some .int) (Cond.code yX3_fitting cX3_fitting 8 (some .int)) P s m ([.ref (tb_ad g 240), .ref (tb_ad g p1), .int a2, .int a3] : List Value).toArray meth c) :
    ∀ (n : Nat) (x2 : Int32) (x3 : Int32) (x5 : Int32) (x6 : Int32) (x7 : Int32) (M : tb_Mem) (H : Heap) (locs : List Loc) (ls : Array Slot), tb_P g M H → va_S (tb_A g) s.heap H locs → lv_has ls 8 [(0, .ref (tb_ad g 240)), (1, .ref (tb_ad g p1)), (2, .int x2), (3, .int x3), (5, .int x5), (6, .int x6), (7, .int x7)] → fX3_fitting_L29 p1 n x2 x3 x5 x6 x7 M = some (r, M') → W P l e rmX3_fitting s m ([.ref (tb_ad g 240), .ref (tb_ad g p1), .int a2, .int a3] : List Value).toArray below meth c H locs 0 0 (MQ below (tb_Q g M' (some (.int r))) ([.ref (tb_ad g 240), .ref (tb_ad g p1), .int a2, .int a3] : List Value).toArray s 0 0 (tb_A g)) (F0 m 29 ls []) := by
  have hx := F.1.1
  have hb := F.1.2.1
  intro n
  induction n with
  | zero =>
    intro x2 x3 x5 x6 x7 M H locs ls hP hS hl h
    rw [fX3_fitting_L29] at h
    exact tb_none h
  | succ n ih =>
    intro x2 x3 x5 x6 x7 M H locs ls hP hS hl h
    rw [fX3_fitting_L29] at h
    refine lv_iload hx hb dX3_fitting_29 (lv_at hl 6 rfl) ?_
    refine lv_iload hx hb dX3_fitting_31 (lv_at hl 4 rfl) ?_
    refine lv_icmp_gt (tgt := 75) hx hb dX3_fitting_33 (by decide) (fun c7 => ?_) (fun c7 => ?_)
    · have h := tb_ip c7 h
      refine lv_iload hx hb dX3_fitting_75 (lv_at hl 5 rfl) ?_
      exact tb_iret h F hP hS dX3_fitting_77
    · have h := tb_ineg c7 h
      refine lv_aload_n hx hb dX3_fitting_36 rfl (lv_at hl 0 rfl) ?_
      refine tb_getr F hP tb_l240 (ci := 3) rfl inlX3 0 (by decide) rfl kf_X3_12 dX3_fitting_37 ?_
      refine lv_aload_n hx hb dX3_fitting_40 rfl (lv_at hl 1 rfl) ?_
      obtain ⟨M8, e9, h⟩ := tb_b1s h
      refine tb_callV F hP hS hl.1 kX2_become km_X3_25 (as := [.ref (tb_ad g p1)]) (tX2_become g l 241 p1 tb_B241 hB1 M M8 e9) tb_B241.1 ⟨rfl, rfl, Nat.le_of_ble_eq_true rfl, Nat.le_of_ble_eq_true rfl⟩ rfl (rest := []) rfl (st1 := []) rfl (Nat.le_of_ble_eq_true rfl) ⟨Nat.zero_le _, Nat.zero_le _⟩ dX3_fitting_41 (fun H locs hP hS => ?_)
      refine lv_aload_n hx hb dX3_fitting_44 rfl (lv_at hl 0 rfl) ?_
      refine lv_iload_n hx hb dX3_fitting_45 rfl (lv_at hl 2 rfl) ?_
      refine lv_iload_n hx hb dX3_fitting_46 rfl (lv_at hl 3 rfl) ?_
      refine lv_iload hx hb dX3_fitting_47 (lv_at hl 6 rfl) ?_
      obtain ⟨M10, e11, h⟩ := tb_b1s h
      refine tb_callV F hP hS hl.1 kX3_suppose km_X3_85 (as := [.int x2, .int x3, .int x7]) (tX3_suppose g l x2 x3 x7 M8 M10 e11) tb_l240 ⟨rfl, rfl, Nat.le_of_ble_eq_true rfl, Nat.le_of_ble_eq_true rfl⟩ rfl (rest := []) rfl (st1 := []) rfl (Nat.le_of_ble_eq_true rfl) ⟨Nat.zero_le _, Nat.zero_le _⟩ dX3_fitting_49 (fun H locs hP hS => ?_)
      refine lv_aload_n hx hb dX3_fitting_52 rfl (lv_at hl 0 rfl) ?_
      refine lv_iload_n hx hb dX3_fitting_53 rfl (lv_at hl 2 rfl) ?_
      obtain ⟨r14, M12, e13, h⟩ := tb_b2s h
      refine tb_callV F hP hS hl.1 kX3_risesAsHeard km_X3_89 (as := [.int x2]) (tX3_risesAsHeard g l x2 M10 M12 r14 e13) tb_l240 ⟨rfl, rfl, Nat.le_of_ble_eq_true rfl, Nat.le_of_ble_eq_true rfl⟩ rfl (rest := []) rfl (st1 := [.int r14]) rfl (Nat.le_of_ble_eq_true rfl) ⟨Nat.zero_le _, Nat.zero_le _⟩ dX3_fitting_54 (fun H locs hP hS => ?_)
      refine lv_if_eq (tgt := 69) hx hb dX3_fitting_57 (by decide) (fun c15 => ?_) (fun c15 => ?_)
      · have h := tb_ip c15 h
        refine lv_iinc (v := (x7 + 1)) (lv' := [(7, .int (x7 + 1)), (0, .ref (tb_ad g 240)), (1, .ref (tb_ad g p1)), (2, .int x2), (3, .int x3), (5, .int x5), (6, .int x6)]) hx hb dX3_fitting_69 hl (k := 6) rfl rfl (by decide) rfl (fun ls hl => ?_)
        refine lv_goto (tgt := 29) hx hb dX3_fitting_72 (by decide) ?_
        exact ih x2 x3 x5 x6 (x7 + 1) M12 _ _ _ hP hS (lv_sub hl [1, 2, 3, 4, 5, 6, 0] rfl) h
      · have h := tb_ineg c15 h
        refine lv_iload hx hb dX3_fitting_60 (lv_at hl 5 rfl) ?_
        refine lv_iconst (v := 1) hx hb dX3_fitting_62 (by decide) ?_
        refine lv_iload hx hb dX3_fitting_63 (lv_at hl 6 rfl) ?_
        refine lv_ishl hx hb dX3_fitting_65 ?_
        refine lv_ior hx hb dX3_fitting_66 ?_
        obtain ⟨v16, e17, h⟩ := tb_lets h
        refine tb_nmi e17 ?_
        refine lv_istore (lv' := [(6, .int v16), (0, .ref (tb_ad g 240)), (1, .ref (tb_ad g p1)), (2, .int x2), (3, .int x3), (5, .int x5), (7, .int x7)]) hx hb dX3_fitting_67 hl (by decide) rfl (fun ls hl => ?_)
        refine lv_iinc (v := (x7 + 1)) (lv' := [(7, .int (x7 + 1)), (6, .int v16), (0, .ref (tb_ad g 240)), (1, .ref (tb_ad g p1)), (2, .int x2), (3, .int x3), (5, .int x5)]) hx hb dX3_fitting_69 hl (k := 6) rfl rfl (by decide) rfl (fun ls hl => ?_)
        refine lv_goto (tgt := 29) hx hb dX3_fitting_72 (by decide) ?_
        exact ih x2 x3 x5 v16 (x7 + 1) M12 _ _ _ hP hS (lv_sub hl [2, 3, 4, 5, 6, 1, 0] rfl) h
set_option maxHeartbeats 4000000 in
set_option maxRecDepth 100000 in
theorem tX3_fitting (g : tb_GT) (l : Launch) (p1 : Nat) (hB1 : tb_B p1) (a2 : Int32) (a3 : Int32) (M M' : tb_Mem) (r : Int32) (h : fX3_fitting p1 a2 a3 M = some (r, M')) : tb_C g l yX3_fitting (Cond.code yX3_fitting cX3_fitting 8 (some .int)) rmX3_fitting [.ref (tb_ad g 240), .ref (tb_ad g p1), .int a2, .int a3] M M' (some (.int r)) := by
  refine tb_entry (by decide) (Nat.le_of_ble_eq_true rfl) ?_
  intro P e s m below meth c F hP hS ls hl
  have F : tb_F g cX3_fitting 8 RX3 (some .int) (Cond.code yX3_fitting cX3_fitting 8 (some .int)) P s m ([.ref (tb_ad g 240), .ref (tb_ad g p1), .int a2, .int a3] : List Value).toArray meth c := F
  have hx := F.1.1
  have hb := F.1.2.1
  have hl : lv_has ls 8 [(0, .ref (tb_ad g 240)), (1, .ref (tb_ad g p1)), (2, .int a2), (3, .int a3)] := hl
  unfold fX3_fitting at h
  refine lv_iload_n hx hb dX3_fitting_0 rfl (lv_at hl 3 rfl) ?_
  refine lv_iconst (v := 2) hx hb dX3_fitting_1 (by decide) ?_
  refine tb_mrg (g2 := F0 m 10 ls [.int ((if 2 ≤ a3 then 0 else 1) : Int32)]) (fun hJ => ?_) ?_
  · refine lv_icmp_ge (tgt := 9) hx hb dX3_fitting_2 (by decide) (fun c1 => ?_) (fun c1 => ?_)
    · refine lv_iconst (v := 0) hx hb dX3_fitting_9 (by decide) ?_
      rw [if_pos c1] at hJ
      exact hJ
    · refine lv_iconst (v := 1) hx hb dX3_fitting_5 (by decide) ?_
      refine lv_goto (tgt := 10) hx hb dX3_fitting_6 (by decide) ?_
      rw [if_neg c1] at hJ
      exact hJ
  obtain ⟨v2, e3, h⟩ := tb_lets h
  refine tb_nmi e3 ?_
  refine lv_istore (lv' := [(4, .int v2), (0, .ref (tb_ad g 240)), (1, .ref (tb_ad g p1)), (2, .int a2), (3, .int a3)]) hx hb dX3_fitting_10 hl (by decide) rfl (fun ls hl => ?_)
  refine lv_iload_n hx hb dX3_fitting_12 rfl (lv_at hl 4 rfl) ?_
  refine lv_aload_n hx hb dX3_fitting_13 rfl (lv_at hl 2 rfl) ?_
  refine tb_geti F hP hB1.1 (ci := 2) rfl inlX2 8 (by decide) rfl kf_X3_71 dX3_fitting_14 ?_
  obtain ⟨r6, M4, e5, h⟩ := tb_b2s h
  refine tb_callS F hP hS hl.1 kX3_mostOf km_X3_81 (as := [.int a3, .int (M p1 8)]) (tX3_mostOf g l a3 (M p1 8) M M4 r6 e5) ⟨rfl, rfl, Nat.le_of_ble_eq_true rfl, Nat.le_of_ble_eq_true rfl⟩ rfl (rest := []) rfl (st1 := [.int r6]) rfl (Nat.le_of_ble_eq_true rfl) ⟨Nat.zero_le _, Nat.zero_le _⟩ dX3_fitting_17 (fun H locs hP hS => ?_)
  refine lv_istore (lv' := [(5, .int r6), (4, .int v2), (0, .ref (tb_ad g 240)), (1, .ref (tb_ad g p1)), (2, .int a2), (3, .int a3)]) hx hb dX3_fitting_20 hl (by decide) rfl (fun ls hl => ?_)
  refine lv_iconst (v := 0) hx hb dX3_fitting_22 (by decide) ?_
  refine lv_istore (lv' := [(6, .int 0), (5, .int r6), (4, .int v2), (0, .ref (tb_ad g 240)), (1, .ref (tb_ad g p1)), (2, .int a2), (3, .int a3)]) hx hb dX3_fitting_23 hl (by decide) rfl (fun ls hl => ?_)
  refine lv_iload hx hb dX3_fitting_25 (lv_at hl 2 rfl) ?_
  refine lv_istore (lv' := [(7, .int v2), (6, .int 0), (5, .int r6), (4, .int v2), (0, .ref (tb_ad g 240)), (1, .ref (tb_ad g p1)), (2, .int a2), (3, .int a3)]) hx hb dX3_fitting_27 hl (by decide) rfl (fun ls hl => ?_)
  exact tX3_fitting_L29 p1 hB1 F tb_N a2 a3 r6 0 v2 M4 _ _ _ hP hS (lv_sub hl [4, 5, 6, 7, 2, 1, 0] rfl) h
def fX3_waysClear_L6 (p1 : Nat) : Nat → Int32 → Int32 → Int64 → Int32 → tb_Mem → Option (Int64 × tb_Mem)
  | 0, _, _, _, _, _ => none
  | n + 1, x2, x3, x4, x6, M => if (M p1 9) < x6 then (some (x4, M)) else (if (x6 &&& ((M p1 9) ^^^ (-1))) = 0 then (tb_b1 (fX2_become 241 p1 M) (fun M3 => tb_b1 (fX2_layDown 241 x6 M3) (fun M5 => tb_b2 (fJ6_bitCount_0f7a4 (M5 241 9) M5) (fun r9 M7 => tb_b1 (fX2_foresee 241 x2 M7) (fun M10 => if (M10 241 10) = 0 then (tb_b2 (fJ6_bitCount_0f7a4 x6 M10) (fun r15 M13 => tb_b2 (fX6_power x3 r15 M13) (fun r18 M16 => tb_b2 (fX6_power (10 - x3) r9 M16) (fun r21 M19 => fX3_waysClear_L6 p1 n x2 x3 (x4 + (r18 * r21)) (x6 + 1) M19)))) else (fX3_waysClear_L6 p1 n x2 x3 x4 (x6 + 1) M10)))))) else (fX3_waysClear_L6 p1 n x2 x3 x4 (x6 + 1) M))
def fX3_waysClear (p1 : Nat) (a2 : Int32) (a3 : Int32) (M : tb_Mem) : Option (Int64 × tb_Mem) :=
  fX3_waysClear_L6 p1 tb_N a2 a3 0 0 M
abbrev rmX3_waysClear : Room := { frames := 4, cells := 0, slots := 0, locals := 128 }
set_option maxHeartbeats 4000000 in
set_option maxRecDepth 100000 in
theorem tX3_waysClear_L6 {g : tb_GT} {l : Launch} {P : Program} {e : Env} {s : State} {m : MethodId} {below : List Frame} {meth : Method} {c : Code} (p1 : Nat) (hB1 : tb_B p1) {a2 : Int32} {a3 : Int32} {M' : tb_Mem} {r : Int64} (F : tb_F g cX3_waysClear 8 RX3 (some .long) (Cond.code yX3_waysClear cX3_waysClear 8 (some .long)) P s m ([.ref (tb_ad g 240), .ref (tb_ad g p1), .int a2, .int a3] : List Value).toArray meth c) :
    ∀ (n : Nat) (x2 : Int32) (x3 : Int32) (x4 : Int64) (x6 : Int32) (M : tb_Mem) (H : Heap) (locs : List Loc) (ls : Array Slot), tb_P g M H → va_S (tb_A g) s.heap H locs → lv_has ls 8 [(0, .ref (tb_ad g 240)), (1, .ref (tb_ad g p1)), (2, .int x2), (3, .int x3), (4, .long x4), (6, .int x6)] → fX3_waysClear_L6 p1 n x2 x3 x4 x6 M = some (r, M') → W P l e rmX3_waysClear s m ([.ref (tb_ad g 240), .ref (tb_ad g p1), .int a2, .int a3] : List Value).toArray below meth c H locs 0 0 (MQ below (tb_Q g M' (some (.long r))) ([.ref (tb_ad g 240), .ref (tb_ad g p1), .int a2, .int a3] : List Value).toArray s 0 0 (tb_A g)) (F0 m 6 ls []) := by
  have hx := F.1.1
  have hb := F.1.2.1
  intro n
  induction n with
  | zero =>
    intro x2 x3 x4 x6 M H locs ls hP hS hl h
    rw [fX3_waysClear_L6] at h
    exact tb_none h
  | succ n ih =>
    intro x2 x3 x4 x6 M H locs ls hP hS hl h
    rw [fX3_waysClear_L6] at h
    refine lv_iload hx hb dX3_waysClear_6 (lv_at hl 5 rfl) ?_
    refine lv_aload_n hx hb dX3_waysClear_8 rfl (lv_at hl 1 rfl) ?_
    refine tb_geti F hP hB1.1 (ci := 2) rfl inlX2 9 (by decide) rfl kf_X3_110 dX3_waysClear_9 ?_
    refine lv_icmp_gt (tgt := 104) hx hb dX3_waysClear_12 (by decide) (fun c1 => ?_) (fun c1 => ?_)
    · have h := tb_ip c1 h
      refine lv_lload hx hb dX3_waysClear_104 (lv_at hl 4 rfl) ?_
      exact tb_lret h F hP hS dX3_waysClear_106
    · have h := tb_ineg c1 h
      refine lv_iload hx hb dX3_waysClear_15 (lv_at hl 5 rfl) ?_
      refine lv_aload_n hx hb dX3_waysClear_17 rfl (lv_at hl 1 rfl) ?_
      refine tb_geti F hP hB1.1 (ci := 2) rfl inlX2 9 (by decide) rfl kf_X3_110 dX3_waysClear_18 ?_
      refine lv_iconst (v := (-1)) hx hb dX3_waysClear_21 (by decide) ?_
      refine lv_ixor hx hb dX3_waysClear_22 ?_
      refine lv_iand hx hb dX3_waysClear_23 ?_
      refine lv_if_ne (tgt := 98) hx hb dX3_waysClear_24 (by decide) (fun c2 => ?_) (fun c2 => ?_)
      · have h := tb_ineg c2 h
        refine lv_iinc (v := (x6 + 1)) (lv' := [(6, .int (x6 + 1)), (0, .ref (tb_ad g 240)), (1, .ref (tb_ad g p1)), (2, .int x2), (3, .int x3), (4, .long x4)]) hx hb dX3_waysClear_98 hl (k := 5) rfl rfl (by decide) rfl (fun ls hl => ?_)
        refine lv_goto (tgt := 6) hx hb dX3_waysClear_101 (by decide) ?_
        exact ih x2 x3 x4 (x6 + 1) M _ _ _ hP hS (lv_sub hl [1, 2, 3, 4, 5, 0] rfl) h
      · have h := tb_ip c2 h
        refine lv_aload_n hx hb dX3_waysClear_27 rfl (lv_at hl 0 rfl) ?_
        refine tb_getr F hP tb_l240 (ci := 3) rfl inlX3 0 (by decide) rfl kf_X3_12 dX3_waysClear_28 ?_
        refine lv_aload_n hx hb dX3_waysClear_31 rfl (lv_at hl 1 rfl) ?_
        obtain ⟨M3, e4, h⟩ := tb_b1s h
        refine tb_callV F hP hS hl.1 kX2_become km_X3_25 (as := [.ref (tb_ad g p1)]) (tX2_become g l 241 p1 tb_B241 hB1 M M3 e4) tb_B241.1 ⟨rfl, rfl, Nat.le_of_ble_eq_true rfl, Nat.le_of_ble_eq_true rfl⟩ rfl (rest := []) rfl (st1 := []) rfl (Nat.le_of_ble_eq_true rfl) ⟨Nat.zero_le _, Nat.zero_le _⟩ dX3_waysClear_32 (fun H locs hP hS => ?_)
        refine lv_aload_n hx hb dX3_waysClear_35 rfl (lv_at hl 0 rfl) ?_
        refine tb_getr F hP tb_l240 (ci := 3) rfl inlX3 0 (by decide) rfl kf_X3_12 dX3_waysClear_36 ?_
        refine lv_iload hx hb dX3_waysClear_39 (lv_at hl 5 rfl) ?_
        obtain ⟨M5, e6, h⟩ := tb_b1s h
        refine tb_callV F hP hS hl.1 kX2_layDown km_X3_113 (as := [.int x6]) (tX2_layDown g l 241 tb_B241 x6 M3 M5 e6) tb_B241.1 ⟨rfl, rfl, Nat.le_of_ble_eq_true rfl, Nat.le_of_ble_eq_true rfl⟩ rfl (rest := []) rfl (st1 := []) rfl (Nat.le_of_ble_eq_true rfl) ⟨Nat.zero_le _, Nat.zero_le _⟩ dX3_waysClear_41 (fun H locs hP hS => ?_)
        refine lv_aload_n hx hb dX3_waysClear_44 rfl (lv_at hl 0 rfl) ?_
        refine tb_getr F hP tb_l240 (ci := 3) rfl inlX3 0 (by decide) rfl kf_X3_12 dX3_waysClear_45 ?_
        refine tb_geti F hP tb_B241.1 (ci := 2) rfl inlX2 9 (by decide) rfl kf_X3_110 dX3_waysClear_48 ?_
        obtain ⟨r9, M7, e8, h⟩ := tb_b2s h
        refine tb_callS F hP hS hl.1 kJ6_bitCount_0f7a4 km_X3_116 (as := [.int (M5 241 9)]) (tJ6_bitCount_0f7a4 g l (M5 241 9) M5 M7 r9 e8) ⟨rfl, rfl, Nat.le_of_ble_eq_true rfl, Nat.le_of_ble_eq_true rfl⟩ rfl (rest := []) rfl (st1 := [.int r9]) rfl (Nat.le_of_ble_eq_true rfl) ⟨Nat.zero_le _, Nat.zero_le _⟩ dX3_waysClear_51 (fun H locs hP hS => ?_)
        refine lv_istore (lv' := [(7, .int r9), (0, .ref (tb_ad g 240)), (1, .ref (tb_ad g p1)), (2, .int x2), (3, .int x3), (4, .long x4), (6, .int x6)]) hx hb dX3_waysClear_54 hl (by decide) rfl (fun ls hl => ?_)
        refine lv_aload_n hx hb dX3_waysClear_56 rfl (lv_at hl 1 rfl) ?_
        refine tb_getr F hP tb_l240 (ci := 3) rfl inlX3 0 (by decide) rfl kf_X3_12 dX3_waysClear_57 ?_
        refine lv_iload_n hx hb dX3_waysClear_60 rfl (lv_at hl 3 rfl) ?_
        obtain ⟨M10, e11, h⟩ := tb_b1s h
        refine tb_callV F hP hS hl.1 kX2_foresee km_X3_29 (as := [.int x2]) (tX2_foresee g l 241 tb_B241 x2 M7 M10 e11) tb_B241.1 ⟨rfl, rfl, Nat.le_of_ble_eq_true rfl, Nat.le_of_ble_eq_true rfl⟩ rfl (rest := []) rfl (st1 := []) rfl (Nat.le_of_ble_eq_true rfl) ⟨Nat.zero_le _, Nat.zero_le _⟩ dX3_waysClear_61 (fun H locs hP hS => ?_)
        refine lv_aload_n hx hb dX3_waysClear_64 rfl (lv_at hl 1 rfl) ?_
        refine tb_getr F hP tb_l240 (ci := 3) rfl inlX3 0 (by decide) rfl kf_X3_12 dX3_waysClear_65 ?_
        refine tb_geti F hP tb_B241.1 (ci := 2) rfl inlX2 10 (by decide) rfl kf_X3_33 dX3_waysClear_68 ?_
        refine lv_if_ne (tgt := 98) hx hb dX3_waysClear_71 (by decide) (fun c12 => ?_) (fun c12 => ?_)
        · have h := tb_ineg c12 h
          refine lv_iinc (v := (x6 + 1)) (lv' := [(6, .int (x6 + 1)), (7, .int r9), (0, .ref (tb_ad g 240)), (1, .ref (tb_ad g p1)), (2, .int x2), (3, .int x3), (4, .long x4)]) hx hb dX3_waysClear_98 hl (k := 6) rfl rfl (by decide) rfl (fun ls hl => ?_)
          refine lv_goto (tgt := 6) hx hb dX3_waysClear_101 (by decide) ?_
          exact ih x2 x3 x4 (x6 + 1) M10 _ _ _ hP hS (lv_sub hl [2, 3, 4, 5, 6, 0] rfl) h
        · have h := tb_ip c12 h
          refine lv_lload hx hb dX3_waysClear_74 (lv_at hl 5 rfl) ?_
          refine lv_iload_n hx hb dX3_waysClear_76 rfl (lv_at hl 4 rfl) ?_
          refine lv_iload hx hb dX3_waysClear_77 (lv_at hl 6 rfl) ?_
          obtain ⟨r15, M13, e14, h⟩ := tb_b2s h
          refine tb_callS F hP hS hl.1 kJ6_bitCount_0f7a4 km_X3_116 (as := [.int x6]) (tJ6_bitCount_0f7a4 g l x6 M10 M13 r15 e14) ⟨rfl, rfl, Nat.le_of_ble_eq_true rfl, Nat.le_of_ble_eq_true rfl⟩ rfl (rest := [.int x3, .long x4]) rfl (st1 := [.int r15, .int x3, .long x4]) rfl (Nat.le_of_ble_eq_true rfl) ⟨Nat.zero_le _, Nat.zero_le _⟩ dX3_waysClear_79 (fun H locs hP hS => ?_)
          obtain ⟨r18, M16, e17, h⟩ := tb_b2s h
          refine tb_callSN F hP hS hl.1 kX6_power (index := 121) F.2.2.2.2.2.2.2.1 (as := [.int x3, .int r15]) (tX6_power g l x3 r15 M13 M16 r18 e17) ⟨rfl, rfl, Nat.le_of_ble_eq_true rfl, Nat.le_of_ble_eq_true rfl⟩ rfl (rest := [.long x4]) rfl (st1 := [.long r18, .long x4]) rfl (Nat.le_of_ble_eq_true rfl) ⟨Nat.zero_le _, Nat.zero_le _⟩ dX3_waysClear_82 (fun H locs hP hS => ?_)
          refine lv_bipush (v := 10) hx hb dX3_waysClear_85 (by decide) ?_
          refine lv_iload_n hx hb dX3_waysClear_87 rfl (lv_at hl 4 rfl) ?_
          refine lv_isub hx hb dX3_waysClear_88 ?_
          refine lv_iload hx hb dX3_waysClear_89 (lv_at hl 0 rfl) ?_
          obtain ⟨r21, M19, e20, h⟩ := tb_b2s h
          refine tb_callSN F hP hS hl.1 kX6_power (index := 121) F.2.2.2.2.2.2.2.1 (as := [.int (10 - x3), .int r9]) (tX6_power g l (10 - x3) r9 M16 M19 r21 e20) ⟨rfl, rfl, Nat.le_of_ble_eq_true rfl, Nat.le_of_ble_eq_true rfl⟩ rfl (rest := [.long r18, .long x4]) rfl (st1 := [.long r21, .long r18, .long x4]) rfl (Nat.le_of_ble_eq_true rfl) ⟨Nat.zero_le _, Nat.zero_le _⟩ dX3_waysClear_91 (fun H locs hP hS => ?_)
          refine lv_lmul hx hb dX3_waysClear_94 ?_
          refine lv_ladd hx hb dX3_waysClear_95 ?_
          refine lv_lstore (lv' := [(4, .long (x4 + (r18 * r21))), (7, .int r9), (0, .ref (tb_ad g 240)), (1, .ref (tb_ad g p1)), (2, .int x2), (3, .int x3), (6, .int x6)]) hx hb dX3_waysClear_96 hl (by decide) rfl (fun ls hl => ?_)
          refine lv_iinc (v := (x6 + 1)) (lv' := [(6, .int (x6 + 1)), (4, .long (x4 + (r18 * r21))), (7, .int r9), (0, .ref (tb_ad g 240)), (1, .ref (tb_ad g p1)), (2, .int x2), (3, .int x3)]) hx hb dX3_waysClear_98 hl (k := 6) rfl rfl (by decide) rfl (fun ls hl => ?_)
          refine lv_goto (tgt := 6) hx hb dX3_waysClear_101 (by decide) ?_
          exact ih x2 x3 (x4 + (r18 * r21)) (x6 + 1) M19 _ _ _ hP hS (lv_sub hl [3, 4, 5, 6, 1, 0] rfl) h
set_option maxHeartbeats 4000000 in
set_option maxRecDepth 100000 in
theorem tX3_waysClear (g : tb_GT) (l : Launch) (p1 : Nat) (hB1 : tb_B p1) (a2 : Int32) (a3 : Int32) (M M' : tb_Mem) (r : Int64) (h : fX3_waysClear p1 a2 a3 M = some (r, M')) : tb_C g l yX3_waysClear (Cond.code yX3_waysClear cX3_waysClear 8 (some .long)) rmX3_waysClear [.ref (tb_ad g 240), .ref (tb_ad g p1), .int a2, .int a3] M M' (some (.long r)) := by
  refine tb_entry (by decide) (Nat.le_of_ble_eq_true rfl) ?_
  intro P e s m below meth c F hP hS ls hl
  have F : tb_F g cX3_waysClear 8 RX3 (some .long) (Cond.code yX3_waysClear cX3_waysClear 8 (some .long)) P s m ([.ref (tb_ad g 240), .ref (tb_ad g p1), .int a2, .int a3] : List Value).toArray meth c := F
  have hx := F.1.1
  have hb := F.1.2.1
  have hl : lv_has ls 8 [(0, .ref (tb_ad g 240)), (1, .ref (tb_ad g p1)), (2, .int a2), (3, .int a3)] := hl
  unfold fX3_waysClear at h
  refine lv_lconst (v := 0) hx hb dX3_waysClear_0 (by decide) ?_
  refine lv_lstore (lv' := [(4, .long 0), (0, .ref (tb_ad g 240)), (1, .ref (tb_ad g p1)), (2, .int a2), (3, .int a3)]) hx hb dX3_waysClear_1 hl (by decide) rfl (fun ls hl => ?_)
  refine lv_iconst (v := 0) hx hb dX3_waysClear_3 (by decide) ?_
  refine lv_istore (lv' := [(6, .int 0), (4, .long 0), (0, .ref (tb_ad g 240)), (1, .ref (tb_ad g p1)), (2, .int a2), (3, .int a3)]) hx hb dX3_waysClear_4 hl (by decide) rfl (fun ls hl => ?_)
  exact tX3_waysClear_L6 p1 hB1 F tb_N a2 a3 0 0 M _ _ _ hP hS (lv_sub hl [2, 3, 4, 5, 1, 0] rfl) h
def fX3_printedByDraws_J70 (p1 : Nat) (K27 : Int32 → Int32 → Int64 → Int32 → tb_Mem → Option (Int32 × tb_Mem)) (x2 : Int32) (x4 : Int32) (x5 : Int64) (x7 : Int32) (M : tb_Mem) : Option (Int32 × tb_Mem) :=
  tb_ck ((((M p1 8) : Int32).toInt64) != 0) (tb_let (((x5 - x5 / (((M p1 8) : Int32).toInt64) * (((M p1 8) : Int32).toInt64)).toInt32) : Int32) (fun v11 => if (lg_cmp (x5 - x5 / 3 * 3) 0) = 0 then (tb_b2 (fX2_rests 241 v11 M) (fun r19 M17 => if r19 = 0 then (tb_b2 (fX2_pass 241 M17) (fun r23 M21 => K27 x2 (x4 + r23) x5 (x7 + 1) M21)) else (tb_b1 (fX2_press 241 v11 M17) (fun M24 => tb_b2 (fX2_pass 241 M24) (fun r28 M26 => K27 x2 (x4 + r28) x5 (x7 + 1) M26))))) else (tb_b2 (fX2_pass 241 M) (fun r16 M14 => K27 x2 (x4 + r16) x5 (x7 + 1) M14))))
def fX3_printedByDraws_L27 (p1 : Nat) : Nat → Int32 → Int32 → Int64 → Int32 → tb_Mem → Option (Int32 × tb_Mem)
  | 0, _, _, _, _, _ => none
  | n + 1, x2, x4, x5, x7, M => if x2 ≤ x7 then (some (x4, M)) else (tb_let (((x5 * 16807) - (x5 * 16807) / 2147483647 * 2147483647) : Int64) (fun v5 => if (lg_cmp (v5 - v5 / 11 * 11) 0) = 0 then (tb_b1 (fX2_layDown 241 (M 241 10) M) (fun M8 => fX3_printedByDraws_J70 p1 (fun z2 z4 z5 z7 M => fX3_printedByDraws_L27 p1 n z2 z4 z5 z7 M) x2 x4 v5 x7 M8)) else (fX3_printedByDraws_J70 p1 (fun z2 z4 z5 z7 M => fX3_printedByDraws_L27 p1 n z2 z4 z5 z7 M) x2 x4 v5 x7 M)))
def fX3_printedByDraws (p1 : Nat) (a2 : Int32) (a3 : Int32) (M : tb_Mem) : Option (Int32 × tb_Mem) :=
  tb_b1 (fX2_become 241 p1 M) (fun M1 => if 0 < (M1 p1 8) then (fX3_printedByDraws_L27 p1 tb_N a2 0 ((a3 : Int32).toInt64) 0 M1) else (some (0, M1)))
abbrev rmX3_printedByDraws : Room := { frames := 3, cells := 0, slots := 0, locals := 106 }
set_option maxHeartbeats 4000000 in
set_option maxRecDepth 100000 in
theorem tX3_printedByDraws_J70 {g : tb_GT} {l : Launch} {P : Program} {e : Env} {s : State} {m : MethodId} {below : List Frame} {meth : Method} {c : Code} (p1 : Nat) (hB1 : tb_B p1) {a2 : Int32} {a3 : Int32} {M' : tb_Mem} {r : Int32} (F : tb_F g cX3_printedByDraws 9 RX3 (some .int) (Cond.code yX3_printedByDraws cX3_printedByDraws 9 (some .int)) P s m ([.ref (tb_ad g 240), .ref (tb_ad g p1), .int a2, .int a3] : List Value).toArray meth c) (K27 : Int32 → Int32 → Int64 → Int32 → tb_Mem → Option (Int32 × tb_Mem)) (hK27 : ∀ (x2 : Int32) (x4 : Int32) (x5 : Int64) (x7 : Int32) (M : tb_Mem) (H : Heap) (locs : List Loc) (ls : Array Slot), tb_P g M H → va_S (tb_A g) s.heap H locs → lv_has ls 9 [(0, .ref (tb_ad g 240)), (1, .ref (tb_ad g p1)), (2, .int x2), (4, .int x4), (5, .long x5), (7, .int x7)] → K27 x2 x4 x5 x7 M = some (r, M') → W P l e rmX3_printedByDraws s m ([.ref (tb_ad g 240), .ref (tb_ad g p1), .int a2, .int a3] : List Value).toArray below meth c H locs 0 0 (MQ below (tb_Q g M' (some (.int r))) ([.ref (tb_ad g 240), .ref (tb_ad g p1), .int a2, .int a3] : List Value).toArray s 0 0 (tb_A g)) (F0 m 27 ls [])) (x2 : Int32) (x4 : Int32) (x5 : Int64) (x7 : Int32) (M : tb_Mem) {H : Heap} {locs : List Loc} {ls : Array Slot} (hP : tb_P g M H) (hS : va_S (tb_A g) s.heap H locs) (hl : lv_has ls 9 [(0, .ref (tb_ad g 240)), (1, .ref (tb_ad g p1)), (2, .int x2), (4, .int x4), (5, .long x5), (7, .int x7)]) (h : fX3_printedByDraws_J70 p1 K27 x2 x4 x5 x7 M = some (r, M')) : W P l e rmX3_printedByDraws s m ([.ref (tb_ad g 240), .ref (tb_ad g p1), .int a2, .int a3] : List Value).toArray below meth c H locs 0 0 (MQ below (tb_Q g M' (some (.int r))) ([.ref (tb_ad g 240), .ref (tb_ad g p1), .int a2, .int a3] : List Value).toArray s 0 0 (tb_A g)) (F0 m 70 ls []) := by
  have hx := F.1.1
  have hb := F.1.2.1
  unfold fX3_printedByDraws_J70 at h
  refine lv_lload hx hb dX3_printedByDraws_70 (lv_at hl 4 rfl) ?_
  refine lv_aload_n hx hb dX3_printedByDraws_72 rfl (lv_at hl 1 rfl) ?_
  refine tb_geti F hP hB1.1 (ci := 2) rfl inlX2 8 (by decide) rfl kf_X3_71 dX3_printedByDraws_73 ?_
  refine lv_i2l (v := (((M p1 8) : Int32).toInt64)) hx hb dX3_printedByDraws_76 rfl ?_
  obtain ⟨k10, h⟩ := tb_cks h
  refine lv_lrem hx hb dX3_printedByDraws_77 (tb_ne0l k10) ?_
  refine lv_l2i (v := ((x5 - x5 / (((M p1 8) : Int32).toInt64) * (((M p1 8) : Int32).toInt64)).toInt32)) hx hb dX3_printedByDraws_78 rfl ?_
  obtain ⟨v11, e12, h⟩ := tb_lets h
  refine tb_nmi e12 ?_
  refine lv_istore (lv' := [(8, .int v11), (0, .ref (tb_ad g 240)), (1, .ref (tb_ad g p1)), (2, .int x2), (4, .int x4), (5, .long x5), (7, .int x7)]) hx hb dX3_printedByDraws_79 hl (by decide) rfl (fun ls hl => ?_)
  refine lv_lload hx hb dX3_printedByDraws_81 (lv_at hl 5 rfl) ?_
  refine lv_ldc2 (v := 3) hx hb F.1.2.2.2.1 (tb_hts F kd_X3_131) dX3_printedByDraws_83 ?_
  refine lv_lrem hx hb dX3_printedByDraws_86 (by decide) ?_
  refine lv_lconst (v := 0) hx hb dX3_printedByDraws_87 (by decide) ?_
  refine W.lcmp hx hb dX3_printedByDraws_88 ?_
  refine lv_if_ne (tgt := 113) hx hb dX3_printedByDraws_89 (by decide) (fun c13 => ?_) (fun c13 => ?_)
  · have h := tb_ineg c13 h
    refine lv_iload hx hb dX3_printedByDraws_113 (lv_at hl 4 rfl) ?_
    refine lv_aload_n hx hb dX3_printedByDraws_115 rfl (lv_at hl 1 rfl) ?_
    refine tb_getr F hP tb_l240 (ci := 3) rfl inlX3 0 (by decide) rfl kf_X3_12 dX3_printedByDraws_116 ?_
    obtain ⟨r16, M14, e15, h⟩ := tb_b2s h
    refine tb_callV F hP hS hl.1 kX2_pass km_X3_37 (as := []) (tX2_pass g l 241 tb_B241 M M14 r16 e15) tb_B241.1 ⟨rfl, rfl, Nat.le_of_ble_eq_true rfl, Nat.le_of_ble_eq_true rfl⟩ rfl (rest := [.int x4]) rfl (st1 := [.int r16, .int x4]) rfl (Nat.le_of_ble_eq_true rfl) ⟨Nat.zero_le _, Nat.zero_le _⟩ dX3_printedByDraws_119 (fun H locs hP hS => ?_)
    refine lv_iadd hx hb dX3_printedByDraws_122 ?_
    refine lv_istore (lv' := [(4, .int (x4 + r16)), (8, .int v11), (0, .ref (tb_ad g 240)), (1, .ref (tb_ad g p1)), (2, .int x2), (5, .long x5), (7, .int x7)]) hx hb dX3_printedByDraws_123 hl (by decide) rfl (fun ls hl => ?_)
    refine lv_iinc (v := (x7 + 1)) (lv' := [(7, .int (x7 + 1)), (4, .int (x4 + r16)), (8, .int v11), (0, .ref (tb_ad g 240)), (1, .ref (tb_ad g p1)), (2, .int x2), (5, .long x5)]) hx hb dX3_printedByDraws_125 hl (k := 6) rfl rfl (by decide) rfl (fun ls hl => ?_)
    refine lv_goto (tgt := 27) hx hb dX3_printedByDraws_128 (by decide) ?_
    exact hK27 x2 (x4 + r16) x5 (x7 + 1) M14 _ _ _ hP hS (lv_sub hl [3, 4, 5, 1, 6, 0] rfl) h
  · have h := tb_ip c13 h
    refine lv_aload_n hx hb dX3_printedByDraws_92 rfl (lv_at hl 1 rfl) ?_
    refine tb_getr F hP tb_l240 (ci := 3) rfl inlX3 0 (by decide) rfl kf_X3_12 dX3_printedByDraws_93 ?_
    refine lv_iload hx hb dX3_printedByDraws_96 (lv_at hl 0 rfl) ?_
    obtain ⟨r19, M17, e18, h⟩ := tb_b2s h
    refine tb_callV F hP hS hl.1 kX2_rests km_X3_42 (as := [.int v11]) (tX2_rests g l 241 tb_B241 v11 M M17 r19 e18) tb_B241.1 ⟨rfl, rfl, Nat.le_of_ble_eq_true rfl, Nat.le_of_ble_eq_true rfl⟩ rfl (rest := []) rfl (st1 := [.int r19]) rfl (Nat.le_of_ble_eq_true rfl) ⟨Nat.zero_le _, Nat.zero_le _⟩ dX3_printedByDraws_98 (fun H locs hP hS => ?_)
    refine lv_if_eq (tgt := 113) hx hb dX3_printedByDraws_101 (by decide) (fun c20 => ?_) (fun c20 => ?_)
    · have h := tb_ip c20 h
      refine lv_iload hx hb dX3_printedByDraws_113 (lv_at hl 4 rfl) ?_
      refine lv_aload_n hx hb dX3_printedByDraws_115 rfl (lv_at hl 1 rfl) ?_
      refine tb_getr F hP tb_l240 (ci := 3) rfl inlX3 0 (by decide) rfl kf_X3_12 dX3_printedByDraws_116 ?_
      obtain ⟨r23, M21, e22, h⟩ := tb_b2s h
      refine tb_callV F hP hS hl.1 kX2_pass km_X3_37 (as := []) (tX2_pass g l 241 tb_B241 M17 M21 r23 e22) tb_B241.1 ⟨rfl, rfl, Nat.le_of_ble_eq_true rfl, Nat.le_of_ble_eq_true rfl⟩ rfl (rest := [.int x4]) rfl (st1 := [.int r23, .int x4]) rfl (Nat.le_of_ble_eq_true rfl) ⟨Nat.zero_le _, Nat.zero_le _⟩ dX3_printedByDraws_119 (fun H locs hP hS => ?_)
      refine lv_iadd hx hb dX3_printedByDraws_122 ?_
      refine lv_istore (lv' := [(4, .int (x4 + r23)), (8, .int v11), (0, .ref (tb_ad g 240)), (1, .ref (tb_ad g p1)), (2, .int x2), (5, .long x5), (7, .int x7)]) hx hb dX3_printedByDraws_123 hl (by decide) rfl (fun ls hl => ?_)
      refine lv_iinc (v := (x7 + 1)) (lv' := [(7, .int (x7 + 1)), (4, .int (x4 + r23)), (8, .int v11), (0, .ref (tb_ad g 240)), (1, .ref (tb_ad g p1)), (2, .int x2), (5, .long x5)]) hx hb dX3_printedByDraws_125 hl (k := 6) rfl rfl (by decide) rfl (fun ls hl => ?_)
      refine lv_goto (tgt := 27) hx hb dX3_printedByDraws_128 (by decide) ?_
      exact hK27 x2 (x4 + r23) x5 (x7 + 1) M21 _ _ _ hP hS (lv_sub hl [3, 4, 5, 1, 6, 0] rfl) h
    · have h := tb_ineg c20 h
      refine lv_aload_n hx hb dX3_printedByDraws_104 rfl (lv_at hl 1 rfl) ?_
      refine tb_getr F hP tb_l240 (ci := 3) rfl inlX3 0 (by decide) rfl kf_X3_12 dX3_printedByDraws_105 ?_
      refine lv_iload hx hb dX3_printedByDraws_108 (lv_at hl 0 rfl) ?_
      obtain ⟨M24, e25, h⟩ := tb_b1s h
      refine tb_callV F hP hS hl.1 kX2_press km_X3_49 (as := [.int v11]) (tX2_press g l 241 tb_B241 v11 M17 M24 e25) tb_B241.1 ⟨rfl, rfl, Nat.le_of_ble_eq_true rfl, Nat.le_of_ble_eq_true rfl⟩ rfl (rest := []) rfl (st1 := []) rfl (Nat.le_of_ble_eq_true rfl) ⟨Nat.zero_le _, Nat.zero_le _⟩ dX3_printedByDraws_110 (fun H locs hP hS => ?_)
      refine lv_iload hx hb dX3_printedByDraws_113 (lv_at hl 4 rfl) ?_
      refine lv_aload_n hx hb dX3_printedByDraws_115 rfl (lv_at hl 1 rfl) ?_
      refine tb_getr F hP tb_l240 (ci := 3) rfl inlX3 0 (by decide) rfl kf_X3_12 dX3_printedByDraws_116 ?_
      obtain ⟨r28, M26, e27, h⟩ := tb_b2s h
      refine tb_callV F hP hS hl.1 kX2_pass km_X3_37 (as := []) (tX2_pass g l 241 tb_B241 M24 M26 r28 e27) tb_B241.1 ⟨rfl, rfl, Nat.le_of_ble_eq_true rfl, Nat.le_of_ble_eq_true rfl⟩ rfl (rest := [.int x4]) rfl (st1 := [.int r28, .int x4]) rfl (Nat.le_of_ble_eq_true rfl) ⟨Nat.zero_le _, Nat.zero_le _⟩ dX3_printedByDraws_119 (fun H locs hP hS => ?_)
      refine lv_iadd hx hb dX3_printedByDraws_122 ?_
      refine lv_istore (lv' := [(4, .int (x4 + r28)), (8, .int v11), (0, .ref (tb_ad g 240)), (1, .ref (tb_ad g p1)), (2, .int x2), (5, .long x5), (7, .int x7)]) hx hb dX3_printedByDraws_123 hl (by decide) rfl (fun ls hl => ?_)
      refine lv_iinc (v := (x7 + 1)) (lv' := [(7, .int (x7 + 1)), (4, .int (x4 + r28)), (8, .int v11), (0, .ref (tb_ad g 240)), (1, .ref (tb_ad g p1)), (2, .int x2), (5, .long x5)]) hx hb dX3_printedByDraws_125 hl (k := 6) rfl rfl (by decide) rfl (fun ls hl => ?_)
      refine lv_goto (tgt := 27) hx hb dX3_printedByDraws_128 (by decide) ?_
      exact hK27 x2 (x4 + r28) x5 (x7 + 1) M26 _ _ _ hP hS (lv_sub hl [3, 4, 5, 1, 6, 0] rfl) h
set_option maxHeartbeats 4000000 in
set_option maxRecDepth 100000 in
theorem tX3_printedByDraws_L27 {g : tb_GT} {l : Launch} {P : Program} {e : Env} {s : State} {m : MethodId} {below : List Frame} {meth : Method} {c : Code} (p1 : Nat) (hB1 : tb_B p1) {a2 : Int32} {a3 : Int32} {M' : tb_Mem} {r : Int32} (F : tb_F g cX3_printedByDraws 9 RX3 (some .int) (Cond.code yX3_printedByDraws cX3_printedByDraws 9 (some .int)) P s m ([.ref (tb_ad g 240), .ref (tb_ad g p1), .int a2, .int a3] : List Value).toArray meth c) :
    ∀ (n : Nat) (x2 : Int32) (x4 : Int32) (x5 : Int64) (x7 : Int32) (M : tb_Mem) (H : Heap) (locs : List Loc) (ls : Array Slot), tb_P g M H → va_S (tb_A g) s.heap H locs → lv_has ls 9 [(0, .ref (tb_ad g 240)), (1, .ref (tb_ad g p1)), (2, .int x2), (4, .int x4), (5, .long x5), (7, .int x7)] → fX3_printedByDraws_L27 p1 n x2 x4 x5 x7 M = some (r, M') → W P l e rmX3_printedByDraws s m ([.ref (tb_ad g 240), .ref (tb_ad g p1), .int a2, .int a3] : List Value).toArray below meth c H locs 0 0 (MQ below (tb_Q g M' (some (.int r))) ([.ref (tb_ad g 240), .ref (tb_ad g p1), .int a2, .int a3] : List Value).toArray s 0 0 (tb_A g)) (F0 m 27 ls []) := by
  have hx := F.1.1
  have hb := F.1.2.1
  intro n
  induction n with
  | zero =>
    intro x2 x4 x5 x7 M H locs ls hP hS hl h
    rw [fX3_printedByDraws_L27] at h
    exact tb_none h
  | succ n ih =>
    intro x2 x4 x5 x7 M H locs ls hP hS hl h
    rw [fX3_printedByDraws_L27] at h
    refine lv_iload hx hb dX3_printedByDraws_27 (lv_at hl 5 rfl) ?_
    refine lv_iload_n hx hb dX3_printedByDraws_29 rfl (lv_at hl 2 rfl) ?_
    refine lv_icmp_ge (tgt := 131) hx hb dX3_printedByDraws_30 (by decide) (fun c4 => ?_) (fun c4 => ?_)
    · have h := tb_ip c4 h
      refine lv_iload hx hb dX3_printedByDraws_131 (lv_at hl 3 rfl) ?_
      exact tb_iret h F hP hS dX3_printedByDraws_133
    · have h := tb_ineg c4 h
      refine lv_lload hx hb dX3_printedByDraws_33 (lv_at hl 4 rfl) ?_
      refine lv_ldc2 (v := 16807) hx hb F.1.2.2.2.1 (tb_hts F kd_X3_125) dX3_printedByDraws_35 ?_
      refine lv_lmul hx hb dX3_printedByDraws_38 ?_
      refine lv_ldc2 (v := 2147483647) hx hb F.1.2.2.2.1 (tb_hts F kd_X3_127) dX3_printedByDraws_39 ?_
      refine lv_lrem hx hb dX3_printedByDraws_42 (by decide) ?_
      obtain ⟨v5, e6, h⟩ := tb_lets h
      refine tb_nml e6 ?_
      refine lv_lstore (lv' := [(5, .long v5), (0, .ref (tb_ad g 240)), (1, .ref (tb_ad g p1)), (2, .int x2), (4, .int x4), (7, .int x7)]) hx hb dX3_printedByDraws_43 hl (by decide) rfl (fun ls hl => ?_)
      refine lv_lload hx hb dX3_printedByDraws_45 (lv_at hl 0 rfl) ?_
      refine lv_ldc2 (v := 11) hx hb F.1.2.2.2.1 (tb_hts F kd_X3_129) dX3_printedByDraws_47 ?_
      refine lv_lrem hx hb dX3_printedByDraws_50 (by decide) ?_
      refine lv_lconst (v := 0) hx hb dX3_printedByDraws_51 (by decide) ?_
      refine W.lcmp hx hb dX3_printedByDraws_52 ?_
      refine lv_if_ne (tgt := 70) hx hb dX3_printedByDraws_53 (by decide) (fun c7 => ?_) (fun c7 => ?_)
      · have h := tb_ineg c7 h
        exact tX3_printedByDraws_J70 p1 hB1 F (fun z2 z4 z5 z7 M => fX3_printedByDraws_L27 p1 n z2 z4 z5 z7 M) ih x2 x4 v5 x7 M hP hS (lv_sub hl [1, 2, 3, 4, 0, 5] rfl) h
      · have h := tb_ip c7 h
        refine lv_aload_n hx hb dX3_printedByDraws_56 rfl (lv_at hl 1 rfl) ?_
        refine tb_getr F hP tb_l240 (ci := 3) rfl inlX3 0 (by decide) rfl kf_X3_12 dX3_printedByDraws_57 ?_
        refine lv_aload_n hx hb dX3_printedByDraws_60 rfl (lv_at hl 1 rfl) ?_
        refine tb_getr F hP tb_l240 (ci := 3) rfl inlX3 0 (by decide) rfl kf_X3_12 dX3_printedByDraws_61 ?_
        refine tb_geti F hP tb_B241.1 (ci := 2) rfl inlX2 10 (by decide) rfl kf_X3_33 dX3_printedByDraws_64 ?_
        obtain ⟨M8, e9, h⟩ := tb_b1s h
        refine tb_callV F hP hS hl.1 kX2_layDown km_X3_113 (as := [.int (M 241 10)]) (tX2_layDown g l 241 tb_B241 (M 241 10) M M8 e9) tb_B241.1 ⟨rfl, rfl, Nat.le_of_ble_eq_true rfl, Nat.le_of_ble_eq_true rfl⟩ rfl (rest := []) rfl (st1 := []) rfl (Nat.le_of_ble_eq_true rfl) ⟨Nat.zero_le _, Nat.zero_le _⟩ dX3_printedByDraws_67 (fun H locs hP hS => ?_)
        exact tX3_printedByDraws_J70 p1 hB1 F (fun z2 z4 z5 z7 M => fX3_printedByDraws_L27 p1 n z2 z4 z5 z7 M) ih x2 x4 v5 x7 M8 hP hS (lv_sub hl [1, 2, 3, 4, 0, 5] rfl) h
set_option maxHeartbeats 4000000 in
set_option maxRecDepth 100000 in
theorem tX3_printedByDraws (g : tb_GT) (l : Launch) (p1 : Nat) (hB1 : tb_B p1) (a2 : Int32) (a3 : Int32) (M M' : tb_Mem) (r : Int32) (h : fX3_printedByDraws p1 a2 a3 M = some (r, M')) : tb_C g l yX3_printedByDraws (Cond.code yX3_printedByDraws cX3_printedByDraws 9 (some .int)) rmX3_printedByDraws [.ref (tb_ad g 240), .ref (tb_ad g p1), .int a2, .int a3] M M' (some (.int r)) := by
  refine tb_entry (by decide) (Nat.le_of_ble_eq_true rfl) ?_
  intro P e s m below meth c F hP hS ls hl
  have F : tb_F g cX3_printedByDraws 9 RX3 (some .int) (Cond.code yX3_printedByDraws cX3_printedByDraws 9 (some .int)) P s m ([.ref (tb_ad g 240), .ref (tb_ad g p1), .int a2, .int a3] : List Value).toArray meth c := F
  have hx := F.1.1
  have hb := F.1.2.1
  have hl : lv_has ls 9 [(0, .ref (tb_ad g 240)), (1, .ref (tb_ad g p1)), (2, .int a2), (3, .int a3)] := hl
  unfold fX3_printedByDraws at h
  refine lv_aload_n hx hb dX3_printedByDraws_0 rfl (lv_at hl 0 rfl) ?_
  refine tb_getr F hP tb_l240 (ci := 3) rfl inlX3 0 (by decide) rfl kf_X3_12 dX3_printedByDraws_1 ?_
  refine lv_aload_n hx hb dX3_printedByDraws_4 rfl (lv_at hl 1 rfl) ?_
  obtain ⟨M1, e2, h⟩ := tb_b1s h
  refine tb_callV F hP hS hl.1 kX2_become km_X3_25 (as := [.ref (tb_ad g p1)]) (tX2_become g l 241 p1 tb_B241 hB1 M M1 e2) tb_B241.1 ⟨rfl, rfl, Nat.le_of_ble_eq_true rfl, Nat.le_of_ble_eq_true rfl⟩ rfl (rest := []) rfl (st1 := []) rfl (Nat.le_of_ble_eq_true rfl) ⟨Nat.zero_le _, Nat.zero_le _⟩ dX3_printedByDraws_5 (fun H locs hP hS => ?_)
  refine lv_aload_n hx hb dX3_printedByDraws_8 rfl (lv_at hl 1 rfl) ?_
  refine tb_geti F hP hB1.1 (ci := 2) rfl inlX2 8 (by decide) rfl kf_X3_71 dX3_printedByDraws_9 ?_
  refine lv_if_gt (tgt := 17) hx hb dX3_printedByDraws_12 (by decide) (fun c3 => ?_) (fun c3 => ?_)
  · have h := tb_ip c3 h
    refine lv_iconst (v := 0) hx hb dX3_printedByDraws_17 (by decide) ?_
    refine lv_istore (lv' := [(4, .int 0), (0, .ref (tb_ad g 240)), (1, .ref (tb_ad g p1)), (2, .int a2), (3, .int a3)]) hx hb dX3_printedByDraws_18 hl (by decide) rfl (fun ls hl => ?_)
    refine lv_iload_n hx hb dX3_printedByDraws_20 rfl (lv_at hl 4 rfl) ?_
    refine lv_i2l (v := ((a3 : Int32).toInt64)) hx hb dX3_printedByDraws_21 rfl ?_
    refine lv_lstore (lv' := [(5, .long ((a3 : Int32).toInt64)), (4, .int 0), (0, .ref (tb_ad g 240)), (1, .ref (tb_ad g p1)), (2, .int a2), (3, .int a3)]) hx hb dX3_printedByDraws_22 hl (by decide) rfl (fun ls hl => ?_)
    refine lv_iconst (v := 0) hx hb dX3_printedByDraws_24 (by decide) ?_
    refine lv_istore (lv' := [(7, .int 0), (5, .long ((a3 : Int32).toInt64)), (4, .int 0), (0, .ref (tb_ad g 240)), (1, .ref (tb_ad g p1)), (2, .int a2), (3, .int a3)]) hx hb dX3_printedByDraws_25 hl (by decide) rfl (fun ls hl => ?_)
    exact tX3_printedByDraws_L27 p1 hB1 F tb_N a2 0 ((a3 : Int32).toInt64) 0 M1 _ _ _ hP hS (lv_sub hl [3, 4, 5, 2, 1, 0] rfl) h
  · have h := tb_ineg c3 h
    refine lv_iconst (v := 0) hx hb dX3_printedByDraws_15 (by decide) ?_
    exact tb_iret h F hP hS dX3_printedByDraws_16

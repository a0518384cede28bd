def fX7_jam_L35 : Nat → Int32 → Int32 → tb_Mem → Option (Int32 × tb_Mem)
  | 0, _, _, _ => none
  | n + 1, x1, x2, M => if 60 < x2 then (some ((-1000000), M)) else (tb_b2 (fX7_hanging 308 M) (fun r14 M12 => if r14 = 0 then (tb_b2 (fX7_tick 308 M12) (fun r18 M16 => fX7_jam_L35 n x1 (x2 + 1) M16)) else (if x1 = 0 then (some (x2, M12)) else (tb_b2 (fX7_hanging 308 M12) (fun r22 M20 => some (r22, M20))))))
def fX7_jam (a1 : Int32) (M : tb_Mem) : Option (Int32 × tb_Mem) :=
  tb_b2 (fX7_isBasket M) (fun r3 M1 => if r3 = 0 then (some ((-1000002), M1)) else (tb_b2 (fX7_in a1 0 1 M1) (fun r7 M5 => if r7 = 0 then (some ((-1000001), M5)) else (tb_b1 (fX7_copies 303 308 M5) (fun M9 => fX7_jam_L35 tb_N a1 0 M9)))))
abbrev rmX7_jam : Room := { frames := 4, cells := 0, slots := 0, locals := 95 }
set_option maxHeartbeats 4000000 in
set_option maxRecDepth 100000 in
theorem tX7_jam_L35 {g : tb_GT} {l : Launch} {P : Program} {e : Env} {s : State} {m : MethodId} {below : List Frame} {meth : Method} {c : Code} {a1 : Int32} {M' : tb_Mem} {r : Int32} (F : tb_F g cX7_jam 3 RX7 (some .int) (Cond.code yX7_jam cX7_jam 3 (some .int)) P s m ([.ref (tb_ad g 297), .int a1] : List Value).toArray meth c) :
    ∀ (n : Nat) (x1 : Int32) (x2 : Int32) (M : tb_Mem) (H : Heap) (locs : List Loc) (ls : Array Slot), tb_P g M H → va_S (tb_A g) s.heap H locs → lv_has ls 3 [(0, .ref (tb_ad g 297)), (1, .int x1), (2, .int x2)] → fX7_jam_L35 n x1 x2 M = some (r, M') → W P l e rmX7_jam s m ([.ref (tb_ad g 297), .int a1] : List Value).toArray below meth c H locs 0 0 (MQ below (tb_Q g M' (some (.int r))) ([.ref (tb_ad g 297), .int a1] : List Value).toArray s 0 0 (tb_A g)) (F0 m 35 ls []) := by
  have hx := F.1.1
  have hb := F.1.2.1
  intro n
  induction n with
  | zero =>
    intro x1 x2 M H locs ls hP hS hl h
    rw [fX7_jam_L35] at h
    exact tb_none h
  | succ n ih =>
    intro x1 x2 M H locs ls hP hS hl h
    rw [fX7_jam_L35] at h
    refine lv_iload_n hx hb dX7_jam_35 rfl (lv_at hl 2 rfl) ?_
    refine lv_bipush (v := 60) hx hb dX7_jam_36 (by decide) ?_
    refine lv_icmp_gt (tgt := 81) hx hb dX7_jam_38 (by decide) (fun c11 => ?_) (fun c11 => ?_)
    · have h := tb_ip c11 h
      refine lv_ldc (v := (-1000000)) hx hb F.1.2.2.2.1 (tb_hts F kc_X7_166) dX7_jam_81 ?_
      exact tb_iret h F hP hS dX7_jam_83
    · have h := tb_ineg c11 h
      refine lv_aload_n hx hb dX7_jam_41 rfl (lv_at hl 0 rfl) ?_
      refine tb_getr F hP tb_l297 (ci := 7) rfl inlX7 14 (by decide) rfl kf_X7_41 dX7_jam_42 ?_
      obtain ⟨r14, M12, e13, h⟩ := tb_b2s h
      refine tb_callS F hP hS hl.1 kX7_hanging km_X7_142 (as := [.ref (tb_ad g 308)]) (tX7_hanging g l 308 tb_l308 M M12 r14 e13) ⟨rfl, rfl, Nat.le_of_ble_eq_true rfl, Nat.le_of_ble_eq_true rfl⟩ rfl (rest := []) rfl (st1 := [.int r14]) rfl (Nat.le_of_ble_eq_true rfl) ⟨Nat.zero_le _, Nat.zero_le _⟩ dX7_jam_45 (fun H locs hP hS => ?_)
      refine lv_if_eq (tgt := 67) hx hb dX7_jam_48 (by decide) (fun c15 => ?_) (fun c15 => ?_)
      · have h := tb_ip c15 h
        refine lv_aload_n hx hb dX7_jam_67 rfl (lv_at hl 0 rfl) ?_
        refine tb_getr F hP tb_l297 (ci := 7) rfl inlX7 14 (by decide) rfl kf_X7_41 dX7_jam_68 ?_
        obtain ⟨r18, M16, e17, h⟩ := tb_b2s h
        refine tb_callS F hP hS hl.1 kX7_tick km_X7_138 (as := [.ref (tb_ad g 308)]) (tX7_tick g l 308 tb_l308 M12 M16 r18 e17) ⟨rfl, rfl, Nat.le_of_ble_eq_true rfl, Nat.le_of_ble_eq_true rfl⟩ rfl (rest := []) rfl (st1 := [.int r18]) rfl (Nat.le_of_ble_eq_true rfl) ⟨Nat.zero_le _, Nat.zero_le _⟩ dX7_jam_71 (fun H locs hP hS => ?_)
        refine lv_pop hx hb dX7_jam_74 rfl ?_
        refine lv_iinc (v := (x2 + 1)) (lv' := [(2, .int (x2 + 1)), (0, .ref (tb_ad g 297)), (1, .int x1)]) hx hb dX7_jam_75 hl (k := 2) rfl rfl (by decide) rfl (fun ls hl => ?_)
        refine lv_goto (tgt := 35) hx hb dX7_jam_78 (by decide) ?_
        exact ih x1 (x2 + 1) M16 _ _ _ hP hS (lv_sub hl [1, 2, 0] rfl) h
      · have h := tb_ineg c15 h
        refine lv_iload_n hx hb dX7_jam_51 rfl (lv_at hl 1 rfl) ?_
        refine lv_if_ne (tgt := 59) hx hb dX7_jam_52 (by decide) (fun c19 => ?_) (fun c19 => ?_)
        · have h := tb_ineg c19 h
          refine lv_aload_n hx hb dX7_jam_59 rfl (lv_at hl 0 rfl) ?_
          refine tb_getr F hP tb_l297 (ci := 7) rfl inlX7 14 (by decide) rfl kf_X7_41 dX7_jam_60 ?_
          obtain ⟨r22, M20, e21, h⟩ := tb_b2s h
          refine tb_callS F hP hS hl.1 kX7_hanging km_X7_142 (as := [.ref (tb_ad g 308)]) (tX7_hanging g l 308 tb_l308 M12 M20 r22 e21) ⟨rfl, rfl, Nat.le_of_ble_eq_true rfl, Nat.le_of_ble_eq_true rfl⟩ rfl (rest := []) rfl (st1 := [.int r22]) rfl (Nat.le_of_ble_eq_true rfl) ⟨Nat.zero_le _, Nat.zero_le _⟩ dX7_jam_63 (fun H locs hP hS => ?_)
          exact tb_iret h F hP hS dX7_jam_66
        · have h := tb_ip c19 h
          refine lv_iload_n hx hb dX7_jam_55 rfl (lv_at hl 2 rfl) ?_
          refine lv_goto (tgt := 66) hx hb dX7_jam_56 (by decide) ?_
          exact tb_iret h F hP hS dX7_jam_66
set_option maxHeartbeats 4000000 in
set_option maxRecDepth 100000 in
theorem tX7_jam (g : tb_GT) (l : Launch) (a1 : Int32) (M M' : tb_Mem) (r : Int32) (h : fX7_jam a1 M = some (r, M')) : tb_C g l yX7_jam (Cond.code yX7_jam cX7_jam 3 (some .int)) rmX7_jam [.ref (tb_ad g 297), .int a1] M M' (some (.int r)) := by
  refine tb_entry (by decide) (Nat.le_of_ble_eq_true rfl) ?_
  intro P e s m below meth c F hP hS ls hl
  have F : tb_F g cX7_jam 3 RX7 (some .int) (Cond.code yX7_jam cX7_jam 3 (some .int)) P s m ([.ref (tb_ad g 297), .int a1] : List Value).toArray meth c := F
  have hx := F.1.1
  have hb := F.1.2.1
  have hl : lv_has ls 3 [(0, .ref (tb_ad g 297)), (1, .int a1)] := hl
  unfold fX7_jam at h
  refine lv_aload_n hx hb dX7_jam_0 rfl (lv_at hl 0 rfl) ?_
  obtain ⟨r3, M1, e2, h⟩ := tb_b2s h
  refine tb_callV F hP hS hl.1 kX7_isBasket km_X7_131 (as := []) (tX7_isBasket g l M M1 r3 e2) tb_l297 ⟨rfl, rfl, Nat.le_of_ble_eq_true rfl, Nat.le_of_ble_eq_true rfl⟩ rfl (rest := []) rfl (st1 := [.int r3]) rfl (Nat.le_of_ble_eq_true rfl) ⟨Nat.zero_le _, Nat.zero_le _⟩ dX7_jam_1 (fun H locs hP hS => ?_)
  refine lv_if_ne (tgt := 10) hx hb dX7_jam_4 (by decide) (fun c4 => ?_) (fun c4 => ?_)
  · have h := tb_ineg c4 h
    refine lv_iload_n hx hb dX7_jam_10 rfl (lv_at hl 1 rfl) ?_
    refine lv_iconst (v := 0) hx hb dX7_jam_11 (by decide) ?_
    refine lv_iconst (v := 1) hx hb dX7_jam_12 (by decide) ?_
    obtain ⟨r7, M5, e6, h⟩ := tb_b2s h
    refine tb_callS F hP hS hl.1 kX7_in km_X7_47 (as := [.int a1, .int 0, .int 1]) (tX7_in g l a1 0 1 M1 M5 r7 e6) ⟨rfl, rfl, Nat.le_of_ble_eq_true rfl, Nat.le_of_ble_eq_true rfl⟩ rfl (rest := []) rfl (st1 := [.int r7]) rfl (Nat.le_of_ble_eq_true rfl) ⟨Nat.zero_le _, Nat.zero_le _⟩ dX7_jam_13 (fun H locs hP hS => ?_)
    refine lv_if_ne (tgt := 22) hx hb dX7_jam_16 (by decide) (fun c8 => ?_) (fun c8 => ?_)
    · have h := tb_ineg c8 h
      refine lv_aload_n hx hb dX7_jam_22 rfl (lv_at hl 0 rfl) ?_
      refine tb_getr F hP tb_l297 (ci := 7) rfl inlX7 8 (by decide) rfl kf_X7_25 dX7_jam_23 ?_
      refine lv_aload_n hx hb dX7_jam_26 rfl (lv_at hl 0 rfl) ?_
      refine tb_getr F hP tb_l297 (ci := 7) rfl inlX7 14 (by decide) rfl kf_X7_41 dX7_jam_27 ?_
      obtain ⟨M9, e10, h⟩ := tb_b1s h
      refine tb_callS F hP hS hl.1 kX7_copies km_X7_167 (as := [.ref (tb_ad g 303), .ref (tb_ad g 308)]) (tX7_copies g l 303 308 tb_l303 tb_l308 M5 M9 e10) ⟨rfl, rfl, Nat.le_of_ble_eq_true rfl, Nat.le_of_ble_eq_true rfl⟩ rfl (rest := []) rfl (st1 := []) rfl (Nat.le_of_ble_eq_true rfl) ⟨Nat.zero_le _, Nat.zero_le _⟩ dX7_jam_30 (fun H locs hP hS => ?_)
      refine lv_iconst (v := 0) hx hb dX7_jam_33 (by decide) ?_
      refine lv_istore_n (lv' := [(2, .int 0), (0, .ref (tb_ad g 297)), (1, .int a1)]) hx hb dX7_jam_34 rfl hl (by decide) rfl (fun ls hl => ?_)
      exact tX7_jam_L35 F tb_N a1 0 M9 _ _ _ hP hS (lv_sub hl [1, 2, 0] rfl) h
    · have h := tb_ip c8 h
      refine lv_ldc (v := (-1000001)) hx hb F.1.2.2.2.1 (tb_hts F kc_X7_62) dX7_jam_19 ?_
      exact tb_iret h F hP hS dX7_jam_21
  · have h := tb_ip c4 h
    refine lv_ldc (v := (-1000002)) hx hb F.1.2.2.2.1 (tb_hts F kc_X7_134) dX7_jam_7 ?_
    exact tb_iret h F hP hS dX7_jam_9
def fX7_clear_L5 : Nat → Int32 → Int32 → Int32 → Int32 → tb_Mem → Option (Int32 × tb_Mem)
  | 0, _, _, _, _, _ => none
  | n + 1, x1, x2, x3, x4, M => if x1 ≤ x4 then (tb_ck (tb_bl x3) (some (x3, M))) else (tb_b2 (fX7_tick 308 M) (fun r5 M3 => if x3 = 0 then (fX7_clear_L5 n x1 x2 0 (x4 + 1) M3) else (tb_b2 (fX7_hanging 308 M3) (fun r9 M7 => tb_let (((if (r9 &&& (x2 ^^^ (-1))) = 0 then 1 else 0) : Int32) : Int32) (fun v11 => fX7_clear_L5 n x1 x2 v11 (x4 + 1) M7)))))
def fX7_clear (a1 : Int32) (a2 : Int32) (M : tb_Mem) : Option (Int32 × tb_Mem) :=
  fX7_clear_L5 tb_N a1 a2 1 0 M
abbrev rmX7_clear : Room := { frames := 4, cells := 0, slots := 0, locals := 95 }
set_option maxHeartbeats 4000000 in
set_option maxRecDepth 100000 in
theorem tX7_clear_L5 {g : tb_GT} {l : Launch} {P : Program} {e : Env} {s : State} {m : MethodId} {below : List Frame} {meth : Method} {c : Code} {a1 : Int32} {a2 : Int32} {M' : tb_Mem} {r : Int32} (F : tb_F g cX7_clear 5 RX7 (some .boolean) (Cond.code yX7_clear cX7_clear 5 (some .boolean)) P s m ([.ref (tb_ad g 297), .int a1, .int a2] : List Value).toArray meth c) :
    ∀ (n : Nat) (x1 : Int32) (x2 : Int32) (x3 : Int32) (x4 : Int32) (M : tb_Mem) (H : Heap) (locs : List Loc) (ls : Array Slot), tb_P g M H → va_S (tb_A g) s.heap H locs → lv_has ls 5 [(0, .ref (tb_ad g 297)), (1, .int x1), (2, .int x2), (3, .int x3), (4, .int x4)] → fX7_clear_L5 n x1 x2 x3 x4 M = some (r, M') → W P l e rmX7_clear s m ([.ref (tb_ad g 297), .int a1, .int a2] : List Value).toArray below meth c H locs 0 0 (MQ below (tb_Q g M' (some (.int r))) ([.ref (tb_ad g 297), .int a1, .int a2] : List Value).toArray s 0 0 (tb_A g)) (F0 m 5 ls []) := by
  have hx := F.1.1
  have hb := F.1.2.1
  intro n
  induction n with
  | zero =>
    intro x1 x2 x3 x4 M H locs ls hP hS hl h
    rw [fX7_clear_L5] at h
    exact tb_none h
  | succ n ih =>
    intro x1 x2 x3 x4 M H locs ls hP hS hl h
    rw [fX7_clear_L5] at h
    refine lv_iload hx hb dX7_clear_5 (lv_at hl 4 rfl) ?_
    refine lv_iload_n hx hb dX7_clear_7 rfl (lv_at hl 1 rfl) ?_
    refine lv_icmp_ge (tgt := 49) hx hb dX7_clear_8 (by decide) (fun c1 => ?_) (fun c1 => ?_)
    · have h := tb_ip c1 h
      refine lv_iload_n hx hb dX7_clear_49 rfl (lv_at hl 3 rfl) ?_
      obtain ⟨k2, h⟩ := tb_cks h
      exact tb_zret h F (tb_bln k2) hP hS dX7_clear_50
    · have h := tb_ineg c1 h
      refine lv_aload_n hx hb dX7_clear_11 rfl (lv_at hl 0 rfl) ?_
      refine tb_getr F hP tb_l297 (ci := 7) rfl inlX7 14 (by decide) rfl kf_X7_41 dX7_clear_12 ?_
      obtain ⟨r5, M3, e4, h⟩ := tb_b2s h
      refine tb_callS F hP hS hl.1 kX7_tick km_X7_138 (as := [.ref (tb_ad g 308)]) (tX7_tick g l 308 tb_l308 M M3 r5 e4) ⟨rfl, rfl, Nat.le_of_ble_eq_true rfl, Nat.le_of_ble_eq_true rfl⟩ rfl (rest := []) rfl (st1 := [.int r5]) rfl (Nat.le_of_ble_eq_true rfl) ⟨Nat.zero_le _, Nat.zero_le _⟩ dX7_clear_15 (fun H locs hP hS => ?_)
      refine lv_pop hx hb dX7_clear_18 rfl ?_
      refine lv_iload_n hx hb dX7_clear_19 rfl (lv_at hl 3 rfl) ?_
      refine lv_if_eq (tgt := 41) hx hb dX7_clear_20 (by decide) (fun c6 => ?_) (fun c6 => ?_)
      · have h := tb_ip c6 h
        refine lv_iconst (v := 0) hx hb dX7_clear_41 (by decide) ?_
        refine lv_istore_n (lv' := [(3, .int 0), (0, .ref (tb_ad g 297)), (1, .int x1), (2, .int x2), (4, .int x4)]) hx hb dX7_clear_42 rfl hl (by decide) rfl (fun ls hl => ?_)
        refine lv_iinc (v := (x4 + 1)) (lv' := [(4, .int (x4 + 1)), (3, .int 0), (0, .ref (tb_ad g 297)), (1, .int x1), (2, .int x2)]) hx hb dX7_clear_43 hl (k := 4) rfl rfl (by decide) rfl (fun ls hl => ?_)
        refine lv_goto (tgt := 5) hx hb dX7_clear_46 (by decide) ?_
        exact ih x1 x2 0 (x4 + 1) M3 _ _ _ hP hS (lv_sub hl [2, 3, 4, 1, 0] rfl) h
      · have h := tb_ineg c6 h
        refine lv_aload_n hx hb dX7_clear_23 rfl (lv_at hl 0 rfl) ?_
        refine tb_getr F hP tb_l297 (ci := 7) rfl inlX7 14 (by decide) rfl kf_X7_41 dX7_clear_24 ?_
        obtain ⟨r9, M7, e8, h⟩ := tb_b2s h
        refine tb_callS F hP hS hl.1 kX7_hanging km_X7_142 (as := [.ref (tb_ad g 308)]) (tX7_hanging g l 308 tb_l308 M3 M7 r9 e8) ⟨rfl, rfl, Nat.le_of_ble_eq_true rfl, Nat.le_of_ble_eq_true rfl⟩ rfl (rest := []) rfl (st1 := [.int r9]) rfl (Nat.le_of_ble_eq_true rfl) ⟨Nat.zero_le _, Nat.zero_le _⟩ dX7_clear_27 (fun H locs hP hS => ?_)
        refine lv_iload_n hx hb dX7_clear_30 rfl (lv_at hl 2 rfl) ?_
        refine lv_iconst (v := (-1)) hx hb dX7_clear_31 (by decide) ?_
        refine lv_ixor hx hb dX7_clear_32 ?_
        refine lv_iand hx hb dX7_clear_33 ?_
        refine tb_mrg (g2 := F0 m 42 ls [.int ((if (r9 &&& (x2 ^^^ (-1))) = 0 then 1 else 0) : Int32)]) (fun hJ => ?_) ?_
        · refine lv_if_ne (tgt := 41) hx hb dX7_clear_34 (by decide) (fun c10 => ?_) (fun c10 => ?_)
          · refine lv_iconst (v := 0) hx hb dX7_clear_41 (by decide) ?_
            rw [if_neg c10] at hJ
            exact hJ
          · refine lv_iconst (v := 1) hx hb dX7_clear_37 (by decide) ?_
            refine lv_goto (tgt := 42) hx hb dX7_clear_38 (by decide) ?_
            rw [if_pos c10] at hJ
            exact hJ
        obtain ⟨v11, e12, h⟩ := tb_lets h
        refine tb_nmi e12 ?_
        refine lv_istore_n (lv' := [(3, .int v11), (0, .ref (tb_ad g 297)), (1, .int x1), (2, .int x2), (4, .int x4)]) hx hb dX7_clear_42 rfl hl (by decide) rfl (fun ls hl => ?_)
        refine lv_iinc (v := (x4 + 1)) (lv' := [(4, .int (x4 + 1)), (3, .int v11), (0, .ref (tb_ad g 297)), (1, .int x1), (2, .int x2)]) hx hb dX7_clear_43 hl (k := 4) rfl rfl (by decide) rfl (fun ls hl => ?_)
        refine lv_goto (tgt := 5) hx hb dX7_clear_46 (by decide) ?_
        exact ih x1 x2 v11 (x4 + 1) M7 _ _ _ hP hS (lv_sub hl [2, 3, 4, 1, 0] rfl) h
set_option maxHeartbeats 4000000 in
set_option maxRecDepth 100000 in
theorem tX7_clear (g : tb_GT) (l : Launch) (a1 : Int32) (a2 : Int32) (M M' : tb_Mem) (r : Int32) (h : fX7_clear a1 a2 M = some (r, M')) : tb_C g l yX7_clear (Cond.code yX7_clear cX7_clear 5 (some .boolean)) rmX7_clear [.ref (tb_ad g 297), .int a1, .int a2] M M' (some (.int r)) := by
  refine tb_entry (by decide) (Nat.le_of_ble_eq_true rfl) ?_
  intro P e s m below meth c F hP hS ls hl
  have F : tb_F g cX7_clear 5 RX7 (some .boolean) (Cond.code yX7_clear cX7_clear 5 (some .boolean)) P s m ([.ref (tb_ad g 297), .int a1, .int a2] : List Value).toArray meth c := F
  have hx := F.1.1
  have hb := F.1.2.1
  have hl : lv_has ls 5 [(0, .ref (tb_ad g 297)), (1, .int a1), (2, .int a2)] := hl
  unfold fX7_clear at h
  refine lv_iconst (v := 1) hx hb dX7_clear_0 (by decide) ?_
  refine lv_istore_n (lv' := [(3, .int 1), (0, .ref (tb_ad g 297)), (1, .int a1), (2, .int a2)]) hx hb dX7_clear_1 rfl hl (by decide) rfl (fun ls hl => ?_)
  refine lv_iconst (v := 0) hx hb dX7_clear_2 (by decide) ?_
  refine lv_istore (lv' := [(4, .int 0), (3, .int 1), (0, .ref (tb_ad g 297)), (1, .int a1), (2, .int a2)]) hx hb dX7_clear_3 hl (by decide) rfl (fun ls hl => ?_)
  exact tX7_clear_L5 F tb_N a1 a2 1 0 M _ _ _ hP hS (lv_sub hl [2, 3, 4, 1, 0] rfl) h
def fX7_waits_L13 : Nat → Int32 → Int32 → tb_Mem → Option (Int32 × tb_Mem)
  | 0, _, _, _ => none
  | n + 1, x1, x2, M => if 21 ≤ x2 then (some ((-1000000), M)) else (tb_b1 (fX7_goesOn x2 M) (fun M6 => tb_b2 (fX7_rests 308 x1 M6) (fun r10 M8 => if r10 = 0 then (fX7_waits_L13 n x1 (x2 + 1) M8) else (tb_ck (tb_in (2 + x1) 63) (tb_let (tb_up M8 308 ((2 + x1).toNatClampNeg) 0) (fun M13 => tb_b2 (fX7_hanging 308 M13) (fun r17 M15 => tb_b2 (fX7_clear 12 r17 M15) (fun r20 M18 => if r20 = 0 then (fX7_waits_L13 n x1 (x2 + 1) M18) else (some (x2, M18))))))))))
def fX7_waits (a1 : Int32) (M : tb_Mem) : Option (Int32 × tb_Mem) :=
  tb_b2 (fX7_isBar a1 M) (fun r3 M1 => if r3 = 0 then (some ((-1000001), M1)) else (fX7_waits_L13 tb_N a1 0 M1))
abbrev rmX7_waits : Room := { frames := 5, cells := 0, slots := 0, locals := 119 }
set_option maxHeartbeats 4000000 in
set_option maxRecDepth 100000 in
theorem tX7_waits_L13 {g : tb_GT} {l : Launch} {P : Program} {e : Env} {s : State} {m : MethodId} {below : List Frame} {meth : Method} {c : Code} {a1 : Int32} {M' : tb_Mem} {r : Int32} (F : tb_F g cX7_waits 4 RX7 (some .int) (Cond.code yX7_waits cX7_waits 4 (some .int)) P s m ([.ref (tb_ad g 297), .int a1] : List Value).toArray meth c) :
    ∀ (n : Nat) (x1 : Int32) (x2 : Int32) (M : tb_Mem) (H : Heap) (locs : List Loc) (ls : Array Slot), tb_P g M H → va_S (tb_A g) s.heap H locs → lv_has ls 4 [(0, .ref (tb_ad g 297)), (1, .int x1), (2, .int x2)] → fX7_waits_L13 n x1 x2 M = some (r, M') → W P l e rmX7_waits s m ([.ref (tb_ad g 297), .int a1] : List Value).toArray below meth c H locs 0 0 (MQ below (tb_Q g M' (some (.int r))) ([.ref (tb_ad g 297), .int a1] : List Value).toArray s 0 0 (tb_A g)) (F0 m 13 ls []) := by
  have hx := F.1.1
  have hb := F.1.2.1
  intro n
  induction n with
  | zero =>
    intro x1 x2 M H locs ls hP hS hl h
    rw [fX7_waits_L13] at h
    exact tb_none h
  | succ n ih =>
    intro x1 x2 M H locs ls hP hS hl h
    rw [fX7_waits_L13] at h
    refine lv_iload_n hx hb dX7_waits_13 rfl (lv_at hl 2 rfl) ?_
    refine lv_bipush (v := 21) hx hb dX7_waits_14 (by decide) ?_
    refine lv_icmp_ge (tgt := 70) hx hb dX7_waits_16 (by decide) (fun c5 => ?_) (fun c5 => ?_)
    · have h := tb_ip c5 h
      refine lv_ldc (v := (-1000000)) hx hb F.1.2.2.2.1 (tb_hts F kc_X7_166) dX7_waits_70 ?_
      exact tb_iret h F hP hS dX7_waits_72
    · have h := tb_ineg c5 h
      refine lv_aload_n hx hb dX7_waits_19 rfl (lv_at hl 0 rfl) ?_
      refine lv_iload_n hx hb dX7_waits_20 rfl (lv_at hl 2 rfl) ?_
      obtain ⟨M6, e7, h⟩ := tb_b1s h
      refine tb_callV F hP hS hl.1 kX7_goesOn km_X7_171 (as := [.int x2]) (tX7_goesOn g l x2 M M6 e7) tb_l297 ⟨rfl, rfl, Nat.le_of_ble_eq_true rfl, Nat.le_of_ble_eq_true rfl⟩ rfl (rest := []) rfl (st1 := []) rfl (Nat.le_of_ble_eq_true rfl) ⟨Nat.zero_le _, Nat.zero_le _⟩ dX7_waits_21 (fun H locs hP hS => ?_)
      refine lv_aload_n hx hb dX7_waits_24 rfl (lv_at hl 0 rfl) ?_
      refine tb_getr F hP tb_l297 (ci := 7) rfl inlX7 14 (by decide) rfl kf_X7_41 dX7_waits_25 ?_
      refine lv_iload_n hx hb dX7_waits_28 rfl (lv_at hl 1 rfl) ?_
      obtain ⟨r10, M8, e9, h⟩ := tb_b2s h
      refine tb_callS F hP hS hl.1 kX7_rests km_X7_148 (as := [.ref (tb_ad g 308), .int x1]) (tX7_rests g l 308 tb_l308 x1 M6 M8 r10 e9) ⟨rfl, rfl, Nat.le_of_ble_eq_true rfl, Nat.le_of_ble_eq_true rfl⟩ rfl (rest := []) rfl (st1 := [.int r10]) rfl (Nat.le_of_ble_eq_true rfl) ⟨Nat.zero_le _, Nat.zero_le _⟩ dX7_waits_29 (fun H locs hP hS => ?_)
      refine lv_istore_n (lv' := [(3, .int r10), (0, .ref (tb_ad g 297)), (1, .int x1), (2, .int x2)]) hx hb dX7_waits_32 rfl hl (by decide) rfl (fun ls hl => ?_)
      refine lv_iload_n hx hb dX7_waits_33 rfl (lv_at hl 0 rfl) ?_
      refine lv_if_eq (tgt := 64) hx hb dX7_waits_34 (by decide) (fun c11 => ?_) (fun c11 => ?_)
      · have h := tb_ip c11 h
        refine lv_iinc (v := (x2 + 1)) (lv' := [(2, .int (x2 + 1)), (3, .int r10), (0, .ref (tb_ad g 297)), (1, .int x1)]) hx hb dX7_waits_64 hl (k := 3) rfl rfl (by decide) rfl (fun ls hl => ?_)
        refine lv_goto (tgt := 13) hx hb dX7_waits_67 (by decide) ?_
        exact ih x1 (x2 + 1) M8 _ _ _ hP hS (lv_sub hl [2, 3, 0] rfl) h
      · have h := tb_ineg c11 h
        refine lv_aload_n hx hb dX7_waits_37 rfl (lv_at hl 1 rfl) ?_
        refine tb_getr F hP tb_l297 (ci := 7) rfl inlX7 14 (by decide) rfl kf_X7_41 dX7_waits_38 ?_
        refine lv_iconst (v := 2) hx hb dX7_waits_41 (by decide) ?_
        refine lv_iload_n hx hb dX7_waits_42 rfl (lv_at hl 2 rfl) ?_
        refine lv_iadd hx hb dX7_waits_43 ?_
        refine lv_iconst (v := 0) hx hb dX7_waits_44 (by decide) ?_
        obtain ⟨k12, h⟩ := tb_cks h
        obtain ⟨M13, e14, h⟩ := tb_lets h
        refine tb_iast F hP hS tb_l308 rfl (tb_inv k12) dX7_waits_45 (fun H locs hP hS => ?_)
        rw [← e14] at hP
        refine lv_aload_n hx hb dX7_waits_46 rfl (lv_at hl 1 rfl) ?_
        refine lv_bipush (v := 12) hx hb dX7_waits_47 (by decide) ?_
        refine lv_aload_n hx hb dX7_waits_49 rfl (lv_at hl 1 rfl) ?_
        refine tb_getr F hP tb_l297 (ci := 7) rfl inlX7 14 (by decide) rfl kf_X7_41 dX7_waits_50 ?_
        obtain ⟨r17, M15, e16, h⟩ := tb_b2s h
        refine tb_callS F hP hS hl.1 kX7_hanging km_X7_142 (as := [.ref (tb_ad g 308)]) (tX7_hanging g l 308 tb_l308 M13 M15 r17 e16) ⟨rfl, rfl, Nat.le_of_ble_eq_true rfl, Nat.le_of_ble_eq_true rfl⟩ rfl (rest := [.int 12, .ref (tb_ad g 297)]) rfl (st1 := [.int r17, .int 12, .ref (tb_ad g 297)]) rfl (Nat.le_of_ble_eq_true rfl) ⟨Nat.zero_le _, Nat.zero_le _⟩ dX7_waits_53 (fun H locs hP hS => ?_)
        obtain ⟨r20, M18, e19, h⟩ := tb_b2s h
        refine tb_callV F hP hS hl.1 kX7_clear km_X7_175 (as := [.int 12, .int r17]) (tX7_clear g l 12 r17 M15 M18 r20 e19) tb_l297 ⟨rfl, rfl, Nat.le_of_ble_eq_true rfl, Nat.le_of_ble_eq_true rfl⟩ rfl (rest := []) rfl (st1 := [.int r20]) rfl (Nat.le_of_ble_eq_true rfl) ⟨Nat.zero_le _, Nat.zero_le _⟩ dX7_waits_56 (fun H locs hP hS => ?_)
        refine lv_if_eq (tgt := 64) hx hb dX7_waits_59 (by decide) (fun c21 => ?_) (fun c21 => ?_)
        · have h := tb_ip c21 h
          refine lv_iinc (v := (x2 + 1)) (lv' := [(2, .int (x2 + 1)), (3, .int r10), (0, .ref (tb_ad g 297)), (1, .int x1)]) hx hb dX7_waits_64 hl (k := 3) rfl rfl (by decide) rfl (fun ls hl => ?_)
          refine lv_goto (tgt := 13) hx hb dX7_waits_67 (by decide) ?_
          exact ih x1 (x2 + 1) M18 _ _ _ hP hS (lv_sub hl [2, 3, 0] rfl) h
        · have h := tb_ineg c21 h
          refine lv_iload_n hx hb dX7_waits_62 rfl (lv_at hl 3 rfl) ?_
          exact tb_iret h F hP hS dX7_waits_63
set_option maxHeartbeats 4000000 in
set_option maxRecDepth 100000 in
theorem tX7_waits (g : tb_GT) (l : Launch) (a1 : Int32) (M M' : tb_Mem) (r : Int32) (h : fX7_waits a1 M = some (r, M')) : tb_C g l yX7_waits (Cond.code yX7_waits cX7_waits 4 (some .int)) rmX7_waits [.ref (tb_ad g 297), .int a1] M M' (some (.int r)) := by
  refine tb_entry (by decide) (Nat.le_of_ble_eq_true rfl) ?_
  intro P e s m below meth c F hP hS ls hl
  have F : tb_F g cX7_waits 4 RX7 (some .int) (Cond.code yX7_waits cX7_waits 4 (some .int)) P s m ([.ref (tb_ad g 297), .int a1] : List Value).toArray meth c := F
  have hx := F.1.1
  have hb := F.1.2.1
  have hl : lv_has ls 4 [(0, .ref (tb_ad g 297)), (1, .int a1)] := hl
  unfold fX7_waits at h
  refine lv_aload_n hx hb dX7_waits_0 rfl (lv_at hl 0 rfl) ?_
  refine lv_iload_n hx hb dX7_waits_1 rfl (lv_at hl 1 rfl) ?_
  obtain ⟨r3, M1, e2, h⟩ := tb_b2s h
  refine tb_callV F hP hS hl.1 kX7_isBar km_X7_145 (as := [.int a1]) (tX7_isBar g l a1 M M1 r3 e2) tb_l297 ⟨rfl, rfl, Nat.le_of_ble_eq_true rfl, Nat.le_of_ble_eq_true rfl⟩ rfl (rest := []) rfl (st1 := [.int r3]) rfl (Nat.le_of_ble_eq_true rfl) ⟨Nat.zero_le _, Nat.zero_le _⟩ dX7_waits_2 (fun H locs hP hS => ?_)
  refine lv_if_ne (tgt := 11) hx hb dX7_waits_5 (by decide) (fun c4 => ?_) (fun c4 => ?_)
  · have h := tb_ineg c4 h
    refine lv_iconst (v := 0) hx hb dX7_waits_11 (by decide) ?_
    refine lv_istore_n (lv' := [(2, .int 0), (0, .ref (tb_ad g 297)), (1, .int a1)]) hx hb dX7_waits_12 rfl hl (by decide) rfl (fun ls hl => ?_)
    exact tX7_waits_L13 F tb_N a1 0 M1 _ _ _ hP hS (lv_sub hl [1, 2, 0] rfl) h
  · have h := tb_ip c4 h
    refine lv_ldc (v := (-1000001)) hx hb F.1.2.2.2.1 (tb_hts F kc_X7_62) dX7_waits_8 ?_
    exact tb_iret h F hP hS dX7_waits_10
def fX7_paceBy_L50 (K3 : Int32 → Int32 → Int32 → Int32 → Int32 → tb_Mem → Option (Int32 × tb_Mem)) : Nat → Int32 → Int32 → Int32 → Int32 → Int32 → Int32 → Int32 → Int32 → tb_Mem → Option (Int32 × tb_Mem)
  | 0, _, _, _, _, _, _, _, _, _ => none
  | n + 1, x1, x2, x3, x4, x5, x6, x7, x8, M => if x2 ≤ x8 then (if x7 = 0 then (K3 x1 x2 x3 x4 (x5 + 1) M) else (some (x5, M))) else (if x7 = 0 then (if x7 = 0 then (K3 x1 x2 x3 x4 (x5 + 1) M) else (some (x5, M))) else (tb_ck (tb_in (x1 + x8) 320) (tb_let ((M 300 (x1 + x8).toNatClampNeg) : Int32) (fun v18 => tb_b2 (fX7_isBar v18 M) (fun r22 M20 => if r22 = 0 then (if (0 : Int32) = 0 then (fX7_paceBy_L50 K3 n x1 x2 x3 x4 x5 x6 0 (x8 + 1) M20) else (tb_ck (tb_in (2 + v18) 63) (tb_let (tb_up M20 308 ((2 + v18).toNatClampNeg) 0) (fun M26 => tb_b2 (fX7_clear ((if x2 ≤ (x8 + 1) then 12 else x5) : Int32) x6 M26) (fun r31 M29 => fX7_paceBy_L50 K3 n x1 x2 x3 x4 x5 x6 r31 (x8 + 1) M29))))) else (tb_b2 (fX7_rests 308 v18 M20) (fun r34 M32 => tb_let (((if r34 = 0 then 0 else 1) : Int32) : Int32) (fun v36 => if v36 = 0 then (fX7_paceBy_L50 K3 n x1 x2 x3 x4 x5 x6 v36 (x8 + 1) M32) else (tb_ck (tb_in (2 + v18) 63) (tb_let (tb_up M32 308 ((2 + v18).toNatClampNeg) 0) (fun M40 => tb_b2 (fX7_clear ((if x2 ≤ (x8 + 1) then 12 else x5) : Int32) x6 M40) (fun r45 M43 => fX7_paceBy_L50 K3 n x1 x2 x3 x4 x5 x6 r45 (x8 + 1) M43))))))))))))
def fX7_paceBy_L3 : Nat → Int32 → Int32 → Int32 → Int32 → Int32 → tb_Mem → Option (Int32 × tb_Mem)
  | 0, _, _, _, _, _, _ => none
  | n + 1, x1, x2, x3, x4, x5, M => if 13 ≤ x5 then (some ((-1000000), M)) else (tb_b1 (fX7_copies 303 308 M) (fun M2 => if x3 < 0 then (tb_b2 (fX7_hanging 308 M2) (fun r7 M5 => fX7_paceBy_L50 (fun z1 z2 z3 z4 z5 M => fX7_paceBy_L3 n z1 z2 z3 z4 z5 M) tb_N x1 x2 x3 x4 x5 r7 1 0 M5)) else (tb_b1 (fX7_exchanges 308 x3 x4 M2) (fun M8 => tb_b2 (fX7_hanging 308 M8) (fun r12 M10 => fX7_paceBy_L50 (fun z1 z2 z3 z4 z5 M => fX7_paceBy_L3 n z1 z2 z3 z4 z5 M) tb_N x1 x2 x3 x4 x5 r12 1 0 M10)))))
def fX7_paceBy (a1 : Int32) (a2 : Int32) (a3 : Int32) (a4 : Int32) (M : tb_Mem) : Option (Int32 × tb_Mem) :=
  fX7_paceBy_L3 tb_N a1 a2 a3 a4 1 M
abbrev rmX7_paceBy : Room := { frames := 5, cells := 0, slots := 0, locals := 119 }
set_option maxHeartbeats 4000000 in
set_option maxRecDepth 100000 in
theorem tX7_paceBy_L50 {g : tb_GT} {l : Launch} {P : Program} {e : Env} {s : State} {m : MethodId} {below : List Frame} {meth : Method} {c : Code} {a1 : Int32} {a2 : Int32} {a3 : Int32} {a4 : Int32} {M' : tb_Mem} {r : Int32} (F : tb_F g cX7_paceBy 10 RX7 (some .int) (Cond.code yX7_paceBy cX7_paceBy 10 (some .int)) P s m ([.ref (tb_ad g 297), .int a1, .int a2, .int a3, .int a4] : List Value).toArray meth c) (K3 : Int32 → Int32 → Int32 → Int32 → Int32 → tb_Mem → Option (Int32 × tb_Mem)) (hK3 : ∀ (x1 : Int32) (x2 : Int32) (x3 : Int32) (x4 : Int32) (x5 : Int32) (M : tb_Mem) (H : Heap) (locs : List Loc) (ls : Array Slot), tb_P g M H → va_S (tb_A g) s.heap H locs → lv_has ls 10 [(0, .ref (tb_ad g 297)), (1, .int x1), (2, .int x2), (3, .int x3), (4, .int x4), (5, .int x5)] → K3 x1 x2 x3 x4 x5 M = some (r, M') → W P l e rmX7_paceBy s m ([.ref (tb_ad g 297), .int a1, .int a2, .int a3, .int a4] : List Value).toArray below meth c H locs 0 0 (MQ below (tb_Q g M' (some (.int r))) ([.ref (tb_ad g 297), .int a1, .int a2, .int a3, .int a4] : List Value).toArray s 0 0 (tb_A g)) (F0 m 3 ls [])) :
    ∀ (n : Nat) (x1 : Int32) (x2 : Int32) (x3 : Int32) (x4 : Int32) (x5 : Int32) (x6 : Int32) (x7 : Int32) (x8 : Int32) (M : tb_Mem) (H : Heap) (locs : List Loc) (ls : Array Slot), tb_P g M H → va_S (tb_A g) s.heap H locs → lv_has ls 10 [(0, .ref (tb_ad g 297)), (1, .int x1), (2, .int x2), (3, .int x3), (4, .int x4), (5, .int x5), (6, .int x6), (7, .int x7), (8, .int x8)] → fX7_paceBy_L50 K3 n x1 x2 x3 x4 x5 x6 x7 x8 M = some (r, M') → W P l e rmX7_paceBy s m ([.ref (tb_ad g 297), .int a1, .int a2, .int a3, .int a4] : List Value).toArray below meth c H locs 0 0 (MQ below (tb_Q g M' (some (.int r))) ([.ref (tb_ad g 297), .int a1, .int a2, .int a3, .int a4] : List Value).toArray s 0 0 (tb_A g)) (F0 m 50 ls []) := by
  have hx := F.1.1
  have hb := F.1.2.1
  intro n
  induction n with
  | zero =>
    intro x1 x2 x3 x4 x5 x6 x7 x8 M H locs ls hP hS hl h
    rw [fX7_paceBy_L50] at h
    exact tb_none h
  | succ n ih =>
    intro x1 x2 x3 x4 x5 x6 x7 x8 M H locs ls hP hS hl h
    rw [fX7_paceBy_L50] at h
    refine lv_iload hx hb dX7_paceBy_50 (lv_at hl 8 rfl) ?_
    refine lv_iload_n hx hb dX7_paceBy_52 rfl (lv_at hl 2 rfl) ?_
    refine lv_icmp_ge (tgt := 144) hx hb dX7_paceBy_53 (by decide) (fun c13 => ?_) (fun c13 => ?_)
    · have h := tb_ip c13 h
      refine lv_iload hx hb dX7_paceBy_144 (lv_at hl 7 rfl) ?_
      refine lv_if_eq (tgt := 152) hx hb dX7_paceBy_146 (by decide) (fun c14 => ?_) (fun c14 => ?_)
      · have h := tb_ip c14 h
        refine lv_iinc (v := (x5 + 1)) (lv' := [(5, .int (x5 + 1)), (0, .ref (tb_ad g 297)), (1, .int x1), (2, .int x2), (3, .int x3), (4, .int x4), (6, .int x6), (7, .int x7), (8, .int x8)]) hx hb dX7_paceBy_152 hl (k := 5) rfl rfl (by decide) rfl (fun ls hl => ?_)
        refine lv_goto (tgt := 3) hx hb dX7_paceBy_155 (by decide) ?_
        exact hK3 x1 x2 x3 x4 (x5 + 1) M _ _ _ hP hS (lv_sub hl [1, 2, 3, 4, 5, 0] rfl) h
      · have h := tb_ineg c14 h
        refine lv_iload hx hb dX7_paceBy_149 (lv_at hl 5 rfl) ?_
        exact tb_iret h F hP hS dX7_paceBy_151
    · have h := tb_ineg c13 h
      refine lv_iload hx hb dX7_paceBy_56 (lv_at hl 7 rfl) ?_
      refine lv_if_eq (tgt := 144) hx hb dX7_paceBy_58 (by decide) (fun c15 => ?_) (fun c15 => ?_)
      · have h := tb_ip c15 h
        refine lv_iload hx hb dX7_paceBy_144 (lv_at hl 7 rfl) ?_
        refine lv_if_eq (tgt := 152) hx hb dX7_paceBy_146 (by decide) (fun c16 => ?_) (fun c16 => ?_)
        · have h := tb_ip c16 h
          refine lv_iinc (v := (x5 + 1)) (lv' := [(5, .int (x5 + 1)), (0, .ref (tb_ad g 297)), (1, .int x1), (2, .int x2), (3, .int x3), (4, .int x4), (6, .int x6), (7, .int x7), (8, .int x8)]) hx hb dX7_paceBy_152 hl (k := 5) rfl rfl (by decide) rfl (fun ls hl => ?_)
          refine lv_goto (tgt := 3) hx hb dX7_paceBy_155 (by decide) ?_
          exact hK3 x1 x2 x3 x4 (x5 + 1) M _ _ _ hP hS (lv_sub hl [1, 2, 3, 4, 5, 0] rfl) h
        · have h := tb_ineg c16 h
          refine lv_iload hx hb dX7_paceBy_149 (lv_at hl 5 rfl) ?_
          exact tb_iret h F hP hS dX7_paceBy_151
      · have h := tb_ineg c15 h
        refine lv_aload_n hx hb dX7_paceBy_61 rfl (lv_at hl 0 rfl) ?_
        refine tb_getr F hP tb_l297 (ci := 7) rfl inlX7 2 (by decide) rfl kf_X7_16 dX7_paceBy_62 ?_
        refine lv_iload_n hx hb dX7_paceBy_65 rfl (lv_at hl 1 rfl) ?_
        refine lv_iload hx hb dX7_paceBy_66 (lv_at hl 8 rfl) ?_
        refine lv_iadd hx hb dX7_paceBy_68 ?_
        obtain ⟨k17, h⟩ := tb_cks h
        refine tb_iald F hP tb_l300 rfl (tb_inv k17) dX7_paceBy_69 ?_
        obtain ⟨v18, e19, h⟩ := tb_lets h
        refine tb_nmi e19 ?_
        refine lv_istore (lv' := [(9, .int v18), (0, .ref (tb_ad g 297)), (1, .int x1), (2, .int x2), (3, .int x3), (4, .int x4), (5, .int x5), (6, .int x6), (7, .int x7), (8, .int x8)]) hx hb dX7_paceBy_70 hl (by decide) rfl (fun ls hl => ?_)
        refine lv_aload_n hx hb dX7_paceBy_72 rfl (lv_at hl 1 rfl) ?_
        refine lv_iload hx hb dX7_paceBy_73 (lv_at hl 0 rfl) ?_
        obtain ⟨r22, M20, e21, h⟩ := tb_b2s h
        refine tb_callV F hP hS hl.1 kX7_isBar km_X7_145 (as := [.int v18]) (tX7_isBar g l v18 M M20 r22 e21) tb_l297 ⟨rfl, rfl, Nat.le_of_ble_eq_true rfl, Nat.le_of_ble_eq_true rfl⟩ rfl (rest := []) rfl (st1 := [.int r22]) rfl (Nat.le_of_ble_eq_true rfl) ⟨Nat.zero_le _, Nat.zero_le _⟩ dX7_paceBy_75 (fun H locs hP hS => ?_)
        refine lv_if_eq (tgt := 97) hx hb dX7_paceBy_78 (by decide) (fun c23 => ?_) (fun c23 => ?_)
        · have h := tb_ip c23 h
          refine lv_iconst (v := 0) hx hb dX7_paceBy_97 (by decide) ?_
          refine lv_istore (lv' := [(7, .int 0), (9, .int v18), (0, .ref (tb_ad g 297)), (1, .int x1), (2, .int x2), (3, .int x3), (4, .int x4), (5, .int x5), (6, .int x6), (8, .int x8)]) hx hb dX7_paceBy_98 hl (by decide) rfl (fun ls hl => ?_)
          refine lv_iload hx hb dX7_paceBy_100 (lv_at hl 0 rfl) ?_
          refine lv_if_eq (tgt := 138) hx hb dX7_paceBy_102 (by decide) (fun c24 => ?_) (fun c24 => ?_)
          · have h := tb_ip c24 h
            refine lv_iinc (v := (x8 + 1)) (lv' := [(8, .int (x8 + 1)), (7, .int 0), (9, .int v18), (0, .ref (tb_ad g 297)), (1, .int x1), (2, .int x2), (3, .int x3), (4, .int x4), (5, .int x5), (6, .int x6)]) hx hb dX7_paceBy_138 hl (k := 9) rfl rfl (by decide) rfl (fun ls hl => ?_)
            refine lv_goto (tgt := 50) hx hb dX7_paceBy_141 (by decide) ?_
            exact ih x1 x2 x3 x4 x5 x6 0 (x8 + 1) M20 _ _ _ hP hS (lv_sub hl [3, 4, 5, 6, 7, 8, 9, 1, 0] rfl) h
          · have h := tb_ineg c24 h
            refine lv_aload_n hx hb dX7_paceBy_105 rfl (lv_at hl 2 rfl) ?_
            refine tb_getr F hP tb_l297 (ci := 7) rfl inlX7 14 (by decide) rfl kf_X7_41 dX7_paceBy_106 ?_
            refine lv_iconst (v := 2) hx hb dX7_paceBy_109 (by decide) ?_
            refine lv_iload hx hb dX7_paceBy_110 (lv_at hl 1 rfl) ?_
            refine lv_iadd hx hb dX7_paceBy_112 ?_
            refine lv_iconst (v := 0) hx hb dX7_paceBy_113 (by decide) ?_
            obtain ⟨k25, h⟩ := tb_cks h
            obtain ⟨M26, e27, h⟩ := tb_lets h
            refine tb_iast F hP hS tb_l308 rfl (tb_inv k25) dX7_paceBy_114 (fun H locs hP hS => ?_)
            rw [← e27] at hP
            refine lv_aload_n hx hb dX7_paceBy_115 rfl (lv_at hl 2 rfl) ?_
            refine lv_iload hx hb dX7_paceBy_116 (lv_at hl 9 rfl) ?_
            refine lv_iconst (v := 1) hx hb dX7_paceBy_118 (by decide) ?_
            refine lv_iadd hx hb dX7_paceBy_119 ?_
            refine lv_iload_n hx hb dX7_paceBy_120 rfl (lv_at hl 4 rfl) ?_
            refine tb_mrg (g2 := F0 m 131 ls [.int ((if x2 ≤ (x8 + 1) then 12 else x5) : Int32), .ref (tb_ad g 297)]) (fun hJ => ?_) ?_
            · refine lv_icmp_ge (tgt := 129) hx hb dX7_paceBy_121 (by decide) (fun c28 => ?_) (fun c28 => ?_)
              · refine lv_bipush (v := 12) hx hb dX7_paceBy_129 (by decide) ?_
                rw [if_pos c28] at hJ
                exact hJ
              · refine lv_iload hx hb dX7_paceBy_124 (lv_at hl 7 rfl) ?_
                refine lv_goto (tgt := 131) hx hb dX7_paceBy_126 (by decide) ?_
                rw [if_neg c28] at hJ
                exact hJ
            refine lv_iload hx hb dX7_paceBy_131 (lv_at hl 8 rfl) ?_
            obtain ⟨r31, M29, e30, h⟩ := tb_b2s h
            refine tb_callV F hP hS hl.1 kX7_clear km_X7_175 (as := [.int ((if x2 ≤ (x8 + 1) then 12 else x5) : Int32), .int x6]) (tX7_clear g l ((if x2 ≤ (x8 + 1) then 12 else x5) : Int32) x6 M26 M29 r31 e30) tb_l297 ⟨rfl, rfl, Nat.le_of_ble_eq_true rfl, Nat.le_of_ble_eq_true rfl⟩ rfl (rest := []) rfl (st1 := [.int r31]) rfl (Nat.le_of_ble_eq_true rfl) ⟨Nat.zero_le _, Nat.zero_le _⟩ dX7_paceBy_133 (fun H locs hP hS => ?_)
            refine lv_istore (lv' := [(7, .int r31), (9, .int v18), (0, .ref (tb_ad g 297)), (1, .int x1), (2, .int x2), (3, .int x3), (4, .int x4), (5, .int x5), (6, .int x6), (8, .int x8)]) hx hb dX7_paceBy_136 hl (by decide) rfl (fun ls hl => ?_)
            refine lv_iinc (v := (x8 + 1)) (lv' := [(8, .int (x8 + 1)), (7, .int r31), (9, .int v18), (0, .ref (tb_ad g 297)), (1, .int x1), (2, .int x2), (3, .int x3), (4, .int x4), (5, .int x5), (6, .int x6)]) hx hb dX7_paceBy_138 hl (k := 9) rfl rfl (by decide) rfl (fun ls hl => ?_)
            refine lv_goto (tgt := 50) hx hb dX7_paceBy_141 (by decide) ?_
            exact ih x1 x2 x3 x4 x5 x6 r31 (x8 + 1) M29 _ _ _ hP hS (lv_sub hl [3, 4, 5, 6, 7, 8, 9, 1, 0] rfl) h
        · have h := tb_ineg c23 h
          refine lv_aload_n hx hb dX7_paceBy_81 rfl (lv_at hl 1 rfl) ?_
          refine tb_getr F hP tb_l297 (ci := 7) rfl inlX7 14 (by decide) rfl kf_X7_41 dX7_paceBy_82 ?_
          refine lv_iload hx hb dX7_paceBy_85 (lv_at hl 0 rfl) ?_
          obtain ⟨r34, M32, e33, h⟩ := tb_b2s h
          refine tb_callS F hP hS hl.1 kX7_rests km_X7_148 (as := [.ref (tb_ad g 308), .int v18]) (tX7_rests g l 308 tb_l308 v18 M20 M32 r34 e33) ⟨rfl, rfl, Nat.le_of_ble_eq_true rfl, Nat.le_of_ble_eq_true rfl⟩ rfl (rest := []) rfl (st1 := [.int r34]) rfl (Nat.le_of_ble_eq_true rfl) ⟨Nat.zero_le _, Nat.zero_le _⟩ dX7_paceBy_87 (fun H locs hP hS => ?_)
          refine tb_mrg (g2 := F0 m 98 ls [.int ((if r34 = 0 then 0 else 1) : Int32)]) (fun hJ => ?_) ?_
          · refine lv_if_eq (tgt := 97) hx hb dX7_paceBy_90 (by decide) (fun c35 => ?_) (fun c35 => ?_)
            · refine lv_iconst (v := 0) hx hb dX7_paceBy_97 (by decide) ?_
              rw [if_pos c35] at hJ
              exact hJ
            · refine lv_iconst (v := 1) hx hb dX7_paceBy_93 (by decide) ?_
              refine lv_goto (tgt := 98) hx hb dX7_paceBy_94 (by decide) ?_
              rw [if_neg c35] at hJ
              exact hJ
          obtain ⟨v36, e37, h⟩ := tb_lets h
          refine tb_nmi e37 ?_
          refine lv_istore (lv' := [(7, .int v36), (9, .int v18), (0, .ref (tb_ad g 297)), (1, .int x1), (2, .int x2), (3, .int x3), (4, .int x4), (5, .int x5), (6, .int x6), (8, .int x8)]) hx hb dX7_paceBy_98 hl (by decide) rfl (fun ls hl => ?_)
          refine lv_iload hx hb dX7_paceBy_100 (lv_at hl 0 rfl) ?_
          refine lv_if_eq (tgt := 138) hx hb dX7_paceBy_102 (by decide) (fun c38 => ?_) (fun c38 => ?_)
          · have h := tb_ip c38 h
            refine lv_iinc (v := (x8 + 1)) (lv' := [(8, .int (x8 + 1)), (7, .int v36), (9, .int v18), (0, .ref (tb_ad g 297)), (1, .int x1), (2, .int x2), (3, .int x3), (4, .int x4), (5, .int x5), (6, .int x6)]) hx hb dX7_paceBy_138 hl (k := 9) rfl rfl (by decide) rfl (fun ls hl => ?_)
            refine lv_goto (tgt := 50) hx hb dX7_paceBy_141 (by decide) ?_
            exact ih x1 x2 x3 x4 x5 x6 v36 (x8 + 1) M32 _ _ _ hP hS (lv_sub hl [3, 4, 5, 6, 7, 8, 9, 1, 0] rfl) h
          · have h := tb_ineg c38 h
            refine lv_aload_n hx hb dX7_paceBy_105 rfl (lv_at hl 2 rfl) ?_
            refine tb_getr F hP tb_l297 (ci := 7) rfl inlX7 14 (by decide) rfl kf_X7_41 dX7_paceBy_106 ?_
            refine lv_iconst (v := 2) hx hb dX7_paceBy_109 (by decide) ?_
            refine lv_iload hx hb dX7_paceBy_110 (lv_at hl 1 rfl) ?_
            refine lv_iadd hx hb dX7_paceBy_112 ?_
            refine lv_iconst (v := 0) hx hb dX7_paceBy_113 (by decide) ?_
            obtain ⟨k39, h⟩ := tb_cks h
            obtain ⟨M40, e41, h⟩ := tb_lets h
            refine tb_iast F hP hS tb_l308 rfl (tb_inv k39) dX7_paceBy_114 (fun H locs hP hS => ?_)
            rw [← e41] at hP
            refine lv_aload_n hx hb dX7_paceBy_115 rfl (lv_at hl 2 rfl) ?_
            refine lv_iload hx hb dX7_paceBy_116 (lv_at hl 9 rfl) ?_
            refine lv_iconst (v := 1) hx hb dX7_paceBy_118 (by decide) ?_
            refine lv_iadd hx hb dX7_paceBy_119 ?_
            refine lv_iload_n hx hb dX7_paceBy_120 rfl (lv_at hl 4 rfl) ?_
            refine tb_mrg (g2 := F0 m 131 ls [.int ((if x2 ≤ (x8 + 1) then 12 else x5) : Int32), .ref (tb_ad g 297)]) (fun hJ => ?_) ?_
            · refine lv_icmp_ge (tgt := 129) hx hb dX7_paceBy_121 (by decide) (fun c42 => ?_) (fun c42 => ?_)
              · refine lv_bipush (v := 12) hx hb dX7_paceBy_129 (by decide) ?_
                rw [if_pos c42] at hJ
                exact hJ
              · refine lv_iload hx hb dX7_paceBy_124 (lv_at hl 7 rfl) ?_
                refine lv_goto (tgt := 131) hx hb dX7_paceBy_126 (by decide) ?_
                rw [if_neg c42] at hJ
                exact hJ
            refine lv_iload hx hb dX7_paceBy_131 (lv_at hl 8 rfl) ?_
            obtain ⟨r45, M43, e44, h⟩ := tb_b2s h
            refine tb_callV F hP hS hl.1 kX7_clear km_X7_175 (as := [.int ((if x2 ≤ (x8 + 1) then 12 else x5) : Int32), .int x6]) (tX7_clear g l ((if x2 ≤ (x8 + 1) then 12 else x5) : Int32) x6 M40 M43 r45 e44) tb_l297 ⟨rfl, rfl, Nat.le_of_ble_eq_true rfl, Nat.le_of_ble_eq_true rfl⟩ rfl (rest := []) rfl (st1 := [.int r45]) rfl (Nat.le_of_ble_eq_true rfl) ⟨Nat.zero_le _, Nat.zero_le _⟩ dX7_paceBy_133 (fun H locs hP hS => ?_)
            refine lv_istore (lv' := [(7, .int r45), (9, .int v18), (0, .ref (tb_ad g 297)), (1, .int x1), (2, .int x2), (3, .int x3), (4, .int x4), (5, .int x5), (6, .int x6), (8, .int x8)]) hx hb dX7_paceBy_136 hl (by decide) rfl (fun ls hl => ?_)
            refine lv_iinc (v := (x8 + 1)) (lv' := [(8, .int (x8 + 1)), (7, .int r45), (9, .int v18), (0, .ref (tb_ad g 297)), (1, .int x1), (2, .int x2), (3, .int x3), (4, .int x4), (5, .int x5), (6, .int x6)]) hx hb dX7_paceBy_138 hl (k := 9) rfl rfl (by decide) rfl (fun ls hl => ?_)
            refine lv_goto (tgt := 50) hx hb dX7_paceBy_141 (by decide) ?_
            exact ih x1 x2 x3 x4 x5 x6 r45 (x8 + 1) M43 _ _ _ hP hS (lv_sub hl [3, 4, 5, 6, 7, 8, 9, 1, 0] rfl) h
set_option maxHeartbeats 4000000 in
set_option maxRecDepth 100000 in
theorem tX7_paceBy_L3 {g : tb_GT} {l : Launch} {P : Program} {e : Env} {s : State} {m : MethodId} {below : List Frame} {meth : Method} {c : Code} {a1 : Int32} {a2 : Int32} {a3 : Int32} {a4 : Int32} {M' : tb_Mem} {r : Int32} (F : tb_F g cX7_paceBy 10 RX7 (some .int) (Cond.code yX7_paceBy cX7_paceBy 10 (some .int)) P s m ([.ref (tb_ad g 297), .int a1, .int a2, .int a3, .int a4] : List Value).toArray meth c) :
    ∀ (n : Nat) (x1 : Int32) (x2 : Int32) (x3 : Int32) (x4 : Int32) (x5 : Int32) (M : tb_Mem) (H : Heap) (locs : List Loc) (ls : Array Slot), tb_P g M H → va_S (tb_A g) s.heap H locs → lv_has ls 10 [(0, .ref (tb_ad g 297)), (1, .int x1), (2, .int x2), (3, .int x3), (4, .int x4), (5, .int x5)] → fX7_paceBy_L3 n x1 x2 x3 x4 x5 M = some (r, M') → W P l e rmX7_paceBy s m ([.ref (tb_ad g 297), .int a1, .int a2, .int a3, .int a4] : List Value).toArray below meth c H locs 0 0 (MQ below (tb_Q g M' (some (.int r))) ([.ref (tb_ad g 297), .int a1, .int a2, .int a3, .int a4] : List Value).toArray s 0 0 (tb_A g)) (F0 m 3 ls []) := by
  have hx := F.1.1
  have hb := F.1.2.1
  intro n
  induction n with
  | zero =>
    intro x1 x2 x3 x4 x5 M H locs ls hP hS hl h
    rw [fX7_paceBy_L3] at h
    exact tb_none h
  | succ n ih =>
    intro x1 x2 x3 x4 x5 M H locs ls hP hS hl h
    rw [fX7_paceBy_L3] at h
    refine lv_iload hx hb dX7_paceBy_3 (lv_at hl 5 rfl) ?_
    refine lv_bipush (v := 13) hx hb dX7_paceBy_5 (by decide) ?_
    refine lv_icmp_ge (tgt := 158) hx hb dX7_paceBy_7 (by decide) (fun c1 => ?_) (fun c1 => ?_)
    · have h := tb_ip c1 h
      refine lv_ldc (v := (-1000000)) hx hb F.1.2.2.2.1 (tb_hts F kc_X7_166) dX7_paceBy_158 ?_
      exact tb_iret h F hP hS dX7_paceBy_160
    · have h := tb_ineg c1 h
      refine lv_aload_n hx hb dX7_paceBy_10 rfl (lv_at hl 0 rfl) ?_
      refine tb_getr F hP tb_l297 (ci := 7) rfl inlX7 8 (by decide) rfl kf_X7_25 dX7_paceBy_11 ?_
      refine lv_aload_n hx hb dX7_paceBy_14 rfl (lv_at hl 0 rfl) ?_
      refine tb_getr F hP tb_l297 (ci := 7) rfl inlX7 14 (by decide) rfl kf_X7_41 dX7_paceBy_15 ?_
      obtain ⟨M2, e3, h⟩ := tb_b1s h
      refine tb_callS F hP hS hl.1 kX7_copies km_X7_167 (as := [.ref (tb_ad g 303), .ref (tb_ad g 308)]) (tX7_copies g l 303 308 tb_l303 tb_l308 M M2 e3) ⟨rfl, rfl, Nat.le_of_ble_eq_true rfl, Nat.le_of_ble_eq_true rfl⟩ rfl (rest := []) rfl (st1 := []) rfl (Nat.le_of_ble_eq_true rfl) ⟨Nat.zero_le _, Nat.zero_le _⟩ dX7_paceBy_18 (fun H locs hP hS => ?_)
      refine lv_iload_n hx hb dX7_paceBy_21 rfl (lv_at hl 3 rfl) ?_
      refine lv_if_lt (tgt := 35) hx hb dX7_paceBy_22 (by decide) (fun c4 => ?_) (fun c4 => ?_)
      · have h := tb_ip c4 h
        refine lv_aload_n hx hb dX7_paceBy_35 rfl (lv_at hl 0 rfl) ?_
        refine tb_getr F hP tb_l297 (ci := 7) rfl inlX7 14 (by decide) rfl kf_X7_41 dX7_paceBy_36 ?_
        obtain ⟨r7, M5, e6, h⟩ := tb_b2s h
        refine tb_callS F hP hS hl.1 kX7_hanging km_X7_142 (as := [.ref (tb_ad g 308)]) (tX7_hanging g l 308 tb_l308 M2 M5 r7 e6) ⟨rfl, rfl, Nat.le_of_ble_eq_true rfl, Nat.le_of_ble_eq_true rfl⟩ rfl (rest := []) rfl (st1 := [.int r7]) rfl (Nat.le_of_ble_eq_true rfl) ⟨Nat.zero_le _, Nat.zero_le _⟩ dX7_paceBy_39 (fun H locs hP hS => ?_)
        refine lv_istore (lv' := [(6, .int r7), (0, .ref (tb_ad g 297)), (1, .int x1), (2, .int x2), (3, .int x3), (4, .int x4), (5, .int x5)]) hx hb dX7_paceBy_42 hl (by decide) rfl (fun ls hl => ?_)
        refine lv_iconst (v := 1) hx hb dX7_paceBy_44 (by decide) ?_
        refine lv_istore (lv' := [(7, .int 1), (6, .int r7), (0, .ref (tb_ad g 297)), (1, .int x1), (2, .int x2), (3, .int x3), (4, .int x4), (5, .int x5)]) hx hb dX7_paceBy_45 hl (by decide) rfl (fun ls hl => ?_)
        refine lv_iconst (v := 0) hx hb dX7_paceBy_47 (by decide) ?_
        refine lv_istore (lv' := [(8, .int 0), (7, .int 1), (6, .int r7), (0, .ref (tb_ad g 297)), (1, .int x1), (2, .int x2), (3, .int x3), (4, .int x4), (5, .int x5)]) hx hb dX7_paceBy_48 hl (by decide) rfl (fun ls hl => ?_)
        exact tX7_paceBy_L50 F (fun z1 z2 z3 z4 z5 M => fX7_paceBy_L3 n z1 z2 z3 z4 z5 M) ih tb_N x1 x2 x3 x4 x5 r7 1 0 M5 _ _ _ hP hS (lv_sub hl [3, 4, 5, 6, 7, 8, 2, 1, 0] rfl) h
      · have h := tb_ineg c4 h
        refine lv_aload_n hx hb dX7_paceBy_25 rfl (lv_at hl 0 rfl) ?_
        refine tb_getr F hP tb_l297 (ci := 7) rfl inlX7 14 (by decide) rfl kf_X7_41 dX7_paceBy_26 ?_
        refine lv_iload_n hx hb dX7_paceBy_29 rfl (lv_at hl 3 rfl) ?_
        refine lv_iload hx hb dX7_paceBy_30 (lv_at hl 4 rfl) ?_
        obtain ⟨M8, e9, h⟩ := tb_b1s h
        refine tb_callS F hP hS hl.1 kX7_exchanges km_X7_162 (as := [.ref (tb_ad g 308), .int x3, .int x4]) (tX7_exchanges g l 308 tb_l308 x3 x4 M2 M8 e9) ⟨rfl, rfl, Nat.le_of_ble_eq_true rfl, Nat.le_of_ble_eq_true rfl⟩ rfl (rest := []) rfl (st1 := []) rfl (Nat.le_of_ble_eq_true rfl) ⟨Nat.zero_le _, Nat.zero_le _⟩ dX7_paceBy_32 (fun H locs hP hS => ?_)
        refine lv_aload_n hx hb dX7_paceBy_35 rfl (lv_at hl 0 rfl) ?_
        refine tb_getr F hP tb_l297 (ci := 7) rfl inlX7 14 (by decide) rfl kf_X7_41 dX7_paceBy_36 ?_
        obtain ⟨r12, M10, e11, h⟩ := tb_b2s h
        refine tb_callS F hP hS hl.1 kX7_hanging km_X7_142 (as := [.ref (tb_ad g 308)]) (tX7_hanging g l 308 tb_l308 M8 M10 r12 e11) ⟨rfl, rfl, Nat.le_of_ble_eq_true rfl, Nat.le_of_ble_eq_true rfl⟩ rfl (rest := []) rfl (st1 := [.int r12]) rfl (Nat.le_of_ble_eq_true rfl) ⟨Nat.zero_le _, Nat.zero_le _⟩ dX7_paceBy_39 (fun H locs hP hS => ?_)
        refine lv_istore (lv' := [(6, .int r12), (0, .ref (tb_ad g 297)), (1, .int x1), (2, .int x2), (3, .int x3), (4, .int x4), (5, .int x5)]) hx hb dX7_paceBy_42 hl (by decide) rfl (fun ls hl => ?_)
        refine lv_iconst (v := 1) hx hb dX7_paceBy_44 (by decide) ?_
        refine lv_istore (lv' := [(7, .int 1), (6, .int r12), (0, .ref (tb_ad g 297)), (1, .int x1), (2, .int x2), (3, .int x3), (4, .int x4), (5, .int x5)]) hx hb dX7_paceBy_45 hl (by decide) rfl (fun ls hl => ?_)
        refine lv_iconst (v := 0) hx hb dX7_paceBy_47 (by decide) ?_
        refine lv_istore (lv' := [(8, .int 0), (7, .int 1), (6, .int r12), (0, .ref (tb_ad g 297)), (1, .int x1), (2, .int x2), (3, .int x3), (4, .int x4), (5, .int x5)]) hx hb dX7_paceBy_48 hl (by decide) rfl (fun ls hl => ?_)
        exact tX7_paceBy_L50 F (fun z1 z2 z3 z4 z5 M => fX7_paceBy_L3 n z1 z2 z3 z4 z5 M) ih tb_N x1 x2 x3 x4 x5 r12 1 0 M10 _ _ _ hP hS (lv_sub hl [3, 4, 5, 6, 7, 8, 2, 1, 0] rfl) h
set_option maxHeartbeats 4000000 in
set_option maxRecDepth 100000 in
theorem tX7_paceBy (g : tb_GT) (l : Launch) (a1 : Int32) (a2 : Int32) (a3 : Int32) (a4 : Int32) (M M' : tb_Mem) (r : Int32) (h : fX7_paceBy a1 a2 a3 a4 M = some (r, M')) : tb_C g l yX7_paceBy (Cond.code yX7_paceBy cX7_paceBy 10 (some .int)) rmX7_paceBy [.ref (tb_ad g 297), .int a1, .int a2, .int a3, .int a4] M M' (some (.int r)) := by
  refine tb_entry (by decide) (Nat.le_of_ble_eq_true rfl) ?_
  intro P e s m below meth c F hP hS ls hl
  have F : tb_F g cX7_paceBy 10 RX7 (some .int) (Cond.code yX7_paceBy cX7_paceBy 10 (some .int)) P s m ([.ref (tb_ad g 297), .int a1, .int a2, .int a3, .int a4] : List Value).toArray meth c := F
  have hx := F.1.1
  have hb := F.1.2.1
  have hl : lv_has ls 10 [(0, .ref (tb_ad g 297)), (1, .int a1), (2, .int a2), (3, .int a3), (4, .int a4)] := hl
  unfold fX7_paceBy at h
  refine lv_iconst (v := 1) hx hb dX7_paceBy_0 (by decide) ?_
  refine lv_istore (lv' := [(5, .int 1), (0, .ref (tb_ad g 297)), (1, .int a1), (2, .int a2), (3, .int a3), (4, .int a4)]) hx hb dX7_paceBy_1 hl (by decide) rfl (fun ls hl => ?_)
  exact tX7_paceBy_L3 F tb_N a1 a2 a3 a4 1 M _ _ _ hP hS (lv_sub hl [1, 2, 3, 4, 5, 0] rfl) h
def fX7_pace (a1 : Int32) (a2 : Int32) (a3 : Int32) (M : tb_Mem) : Option (Int32 × tb_Mem) :=
  tb_b2 (fX7_isRow a1 M) (fun r3 M1 => if r3 = 0 then (some ((-1000001), M1)) else (tb_b2 (fX7_in a3 1 12 M1) (fun r7 M5 => if r7 = 0 then (some ((-1000001), M5)) else (tb_b2 (fX7_isBasket M5) (fun r11 M9 => if r11 = 0 then (some ((-1000002), M9)) else (tb_ck (tb_in a1 8) (if 0 ≤ (M9 298 a1.toNatClampNeg) then (tb_b2 (fX7_lies a1 a2 a3 M9) (fun r17 M15 => if r17 = 0 then (tb_b2 (fX7_ends (-1000012) M15) (fun r21 M19 => some (r21, M19))) else (tb_b2 (fX7_paceBy ((40 * a1) + a2) a3 (-1) (-1) M15) (fun r24 M22 => tb_b2 (fX7_ends r24 M22) (fun r27 M25 => some (r27, M25)))))) else (tb_b2 (fX7_ends (-1000011) M9) (fun r30 M28 => some (r30, M28))))))))))
abbrev rmX7_pace : Room := { frames := 6, cells := 0, slots := 0, locals := 148 }
set_option maxHeartbeats 4000000 in
set_option maxRecDepth 100000 in
theorem tX7_pace (g : tb_GT) (l : Launch) (a1 : Int32) (a2 : Int32) (a3 : Int32) (M M' : tb_Mem) (r : Int32) (h : fX7_pace a1 a2 a3 M = some (r, M')) : tb_C g l yX7_pace (Cond.code yX7_pace cX7_pace 4 (some .int)) rmX7_pace [.ref (tb_ad g 297), .int a1, .int a2, .int a3] M M' (some (.int r)) := by
  refine tb_entry (by decide) (Nat.le_of_ble_eq_true rfl) ?_
  intro P e s m below meth c F hP hS ls hl
  have F : tb_F g cX7_pace 4 RX7 (some .int) (Cond.code yX7_pace cX7_pace 4 (some .int)) P s m ([.ref (tb_ad g 297), .int a1, .int a2, .int a3] : List Value).toArray meth c := F
  have hx := F.1.1
  have hb := F.1.2.1
  have hl : lv_has ls 4 [(0, .ref (tb_ad g 297)), (1, .int a1), (2, .int a2), (3, .int a3)] := hl
  unfold fX7_pace at h
  refine lv_iload_n hx hb dX7_pace_0 rfl (lv_at hl 1 rfl) ?_
  obtain ⟨r3, M1, e2, h⟩ := tb_b2s h
  refine tb_callS F hP hS hl.1 kX7_isRow km_X7_58 (as := [.int a1]) (tX7_isRow g l a1 M M1 r3 e2) ⟨rfl, rfl, Nat.le_of_ble_eq_true rfl, Nat.le_of_ble_eq_true rfl⟩ rfl (rest := []) rfl (st1 := [.int r3]) rfl (Nat.le_of_ble_eq_true rfl) ⟨Nat.zero_le _, Nat.zero_le _⟩ dX7_pace_1 (fun H locs hP hS => ?_)
  refine lv_if_eq (tgt := 17) hx hb dX7_pace_4 (by decide) (fun c4 => ?_) (fun c4 => ?_)
  · have h := tb_ip c4 h
    refine lv_ldc (v := (-1000001)) hx hb F.1.2.2.2.1 (tb_hts F kc_X7_62) dX7_pace_17 ?_
    exact tb_iret h F hP hS dX7_pace_19
  · have h := tb_ineg c4 h
    refine lv_iload_n hx hb dX7_pace_7 rfl (lv_at hl 3 rfl) ?_
    refine lv_iconst (v := 1) hx hb dX7_pace_8 (by decide) ?_
    refine lv_bipush (v := 12) hx hb dX7_pace_9 (by decide) ?_
    obtain ⟨r7, M5, e6, h⟩ := tb_b2s h
    refine tb_callS F hP hS hl.1 kX7_in km_X7_47 (as := [.int a3, .int 1, .int 12]) (tX7_in g l a3 1 12 M1 M5 r7 e6) ⟨rfl, rfl, Nat.le_of_ble_eq_true rfl, Nat.le_of_ble_eq_true rfl⟩ rfl (rest := []) rfl (st1 := [.int r7]) rfl (Nat.le_of_ble_eq_true rfl) ⟨Nat.zero_le _, Nat.zero_le _⟩ dX7_pace_11 (fun H locs hP hS => ?_)
    refine lv_if_ne (tgt := 20) hx hb dX7_pace_14 (by decide) (fun c8 => ?_) (fun c8 => ?_)
    · have h := tb_ineg c8 h
      refine lv_aload_n hx hb dX7_pace_20 rfl (lv_at hl 0 rfl) ?_
      obtain ⟨r11, M9, e10, h⟩ := tb_b2s h
      refine tb_callV F hP hS hl.1 kX7_isBasket km_X7_131 (as := []) (tX7_isBasket g l M5 M9 r11 e10) tb_l297 ⟨rfl, rfl, Nat.le_of_ble_eq_true rfl, Nat.le_of_ble_eq_true rfl⟩ rfl (rest := []) rfl (st1 := [.int r11]) rfl (Nat.le_of_ble_eq_true rfl) ⟨Nat.zero_le _, Nat.zero_le _⟩ dX7_pace_21 (fun H locs hP hS => ?_)
      refine lv_if_ne (tgt := 30) hx hb dX7_pace_24 (by decide) (fun c12 => ?_) (fun c12 => ?_)
      · have h := tb_ineg c12 h
        refine lv_aload_n hx hb dX7_pace_30 rfl (lv_at hl 0 rfl) ?_
        refine tb_getr F hP tb_l297 (ci := 7) rfl inlX7 0 (by decide) rfl kf_X7_7 dX7_pace_31 ?_
        refine lv_iload_n hx hb dX7_pace_34 rfl (lv_at hl 1 rfl) ?_
        obtain ⟨k13, h⟩ := tb_cks h
        refine tb_iald F hP tb_l298 rfl (tb_inv k13) dX7_pace_35 ?_
        refine lv_if_ge (tgt := 46) hx hb dX7_pace_36 (by decide) (fun c14 => ?_) (fun c14 => ?_)
        · have h := tb_ip c14 h
          refine lv_aload_n hx hb dX7_pace_46 rfl (lv_at hl 0 rfl) ?_
          refine lv_aload_n hx hb dX7_pace_47 rfl (lv_at hl 0 rfl) ?_
          refine lv_iload_n hx hb dX7_pace_48 rfl (lv_at hl 1 rfl) ?_
          refine lv_iload_n hx hb dX7_pace_49 rfl (lv_at hl 2 rfl) ?_
          refine lv_iload_n hx hb dX7_pace_50 rfl (lv_at hl 3 rfl) ?_
          obtain ⟨r17, M15, e16, h⟩ := tb_b2s h
          refine tb_callV F hP hS hl.1 kX7_lies km_X7_68 (as := [.int a1, .int a2, .int a3]) (tX7_lies g l a1 a2 a3 M9 M15 r17 e16) tb_l297 ⟨rfl, rfl, Nat.le_of_ble_eq_true rfl, Nat.le_of_ble_eq_true rfl⟩ rfl (rest := [.ref (tb_ad g 297)]) rfl (st1 := [.int r17, .ref (tb_ad g 297)]) rfl (Nat.le_of_ble_eq_true rfl) ⟨Nat.zero_le _, Nat.zero_le _⟩ dX7_pace_51 (fun H locs hP hS => ?_)
          refine lv_if_eq (tgt := 73) hx hb dX7_pace_54 (by decide) (fun c18 => ?_) (fun c18 => ?_)
          · have h := tb_ip c18 h
            refine lv_ldc (v := (-1000012)) hx hb F.1.2.2.2.1 (tb_hts F kc_X7_71) dX7_pace_73 ?_
            obtain ⟨r21, M19, e20, h⟩ := tb_b2s h
            refine tb_callV F hP hS hl.1 kX7_ends km_X7_64 (as := [.int (-1000012)]) (tX7_ends g l (-1000012) M15 M19 r21 e20) tb_l297 ⟨rfl, rfl, Nat.le_of_ble_eq_true rfl, Nat.le_of_ble_eq_true rfl⟩ rfl (rest := []) rfl (st1 := [.int r21]) rfl (Nat.le_of_ble_eq_true rfl) ⟨Nat.zero_le _, Nat.zero_le _⟩ dX7_pace_75 (fun H locs hP hS => ?_)
            exact tb_iret h F hP hS dX7_pace_78
          · have h := tb_ineg c18 h
            refine lv_aload_n hx hb dX7_pace_57 rfl (lv_at hl 0 rfl) ?_
            refine lv_bipush (v := 40) hx hb dX7_pace_58 (by decide) ?_
            refine lv_iload_n hx hb dX7_pace_60 rfl (lv_at hl 1 rfl) ?_
            refine lv_imul hx hb dX7_pace_61 ?_
            refine lv_iload_n hx hb dX7_pace_62 rfl (lv_at hl 2 rfl) ?_
            refine lv_iadd hx hb dX7_pace_63 ?_
            refine lv_iload_n hx hb dX7_pace_64 rfl (lv_at hl 3 rfl) ?_
            refine lv_iconst (v := (-1)) hx hb dX7_pace_65 (by decide) ?_
            refine lv_iconst (v := (-1)) hx hb dX7_pace_66 (by decide) ?_
            obtain ⟨r24, M22, e23, h⟩ := tb_b2s h
            refine tb_callV F hP hS hl.1 kX7_paceBy km_X7_178 (as := [.int ((40 * a1) + a2), .int a3, .int (-1), .int (-1)]) (tX7_paceBy g l ((40 * a1) + a2) a3 (-1) (-1) M15 M22 r24 e23) tb_l297 ⟨rfl, rfl, Nat.le_of_ble_eq_true rfl, Nat.le_of_ble_eq_true rfl⟩ rfl (rest := [.ref (tb_ad g 297)]) rfl (st1 := [.int r24, .ref (tb_ad g 297)]) rfl (Nat.le_of_ble_eq_true rfl) ⟨Nat.zero_le _, Nat.zero_le _⟩ dX7_pace_67 (fun H locs hP hS => ?_)
            refine lv_goto (tgt := 75) hx hb dX7_pace_70 (by decide) ?_
            obtain ⟨r27, M25, e26, h⟩ := tb_b2s h
            refine tb_callV F hP hS hl.1 kX7_ends km_X7_64 (as := [.int r24]) (tX7_ends g l r24 M22 M25 r27 e26) tb_l297 ⟨rfl, rfl, Nat.le_of_ble_eq_true rfl, Nat.le_of_ble_eq_true rfl⟩ rfl (rest := []) rfl (st1 := [.int r27]) rfl (Nat.le_of_ble_eq_true rfl) ⟨Nat.zero_le _, Nat.zero_le _⟩ dX7_pace_75 (fun H locs hP hS => ?_)
            exact tb_iret h F hP hS dX7_pace_78
        · have h := tb_ineg c14 h
          refine lv_aload_n hx hb dX7_pace_39 rfl (lv_at hl 0 rfl) ?_
          refine lv_ldc (v := (-1000011)) hx hb F.1.2.2.2.1 (tb_hts F kc_X7_52) dX7_pace_40 ?_
          obtain ⟨r30, M28, e29, h⟩ := tb_b2s h
          refine tb_callV F hP hS hl.1 kX7_ends km_X7_64 (as := [.int (-1000011)]) (tX7_ends g l (-1000011) M9 M28 r30 e29) tb_l297 ⟨rfl, rfl, Nat.le_of_ble_eq_true rfl, Nat.le_of_ble_eq_true rfl⟩ rfl (rest := []) rfl (st1 := [.int r30]) rfl (Nat.le_of_ble_eq_true rfl) ⟨Nat.zero_le _, Nat.zero_le _⟩ dX7_pace_42 (fun H locs hP hS => ?_)
          exact tb_iret h F hP hS dX7_pace_45
      · have h := tb_ip c12 h
        refine lv_ldc (v := (-1000002)) hx hb F.1.2.2.2.1 (tb_hts F kc_X7_134) dX7_pace_27 ?_
        exact tb_iret h F hP hS dX7_pace_29
    · have h := tb_ip c8 h
      refine lv_ldc (v := (-1000001)) hx hb F.1.2.2.2.1 (tb_hts F kc_X7_62) dX7_pace_17 ?_
      exact tb_iret h F hP hS dX7_pace_19
def fX7_better_L113 (K95 : Int32 → Int32 → Int32 → Int32 → Int32 → Int32 → Int32 → tb_Mem → Option (Int32 × tb_Mem)) : Nat → Int32 → Int32 → Int32 → Int32 → Int32 → Int32 → Int32 → Int32 → tb_Mem → Option (Int32 × tb_Mem)
  | 0, _, _, _, _, _, _, _, _, _ => none
  | n + 1, x1, x2, x3, x4, x5, x6, x7, x8, M => if (M 303 46) ≤ x8 then (K95 x1 x2 x3 x4 x5 x6 (x7 + 1) M) else (tb_b2 (fX7_paceBy ((40 * x1) + x2) x3 x7 x8 M) (fun r41 M39 => if r41 = (-1000000) then (fX7_better_L113 K95 n x1 x2 x3 x4 x5 x6 x7 (x8 + 1) M39) else (if x5 = (-1000000) then (fX7_better_L113 K95 n x1 x2 x3 x4 r41 ((10 * x7) + x8) x7 (x8 + 1) M39) else (if x5 ≤ r41 then (fX7_better_L113 K95 n x1 x2 x3 x4 x5 x6 x7 (x8 + 1) M39) else (fX7_better_L113 K95 n x1 x2 x3 x4 r41 ((10 * x7) + x8) x7 (x8 + 1) M39)))))
def fX7_better_L95 : Nat → Int32 → Int32 → Int32 → Int32 → Int32 → Int32 → Int32 → tb_Mem → Option (Int32 × tb_Mem)
  | 0, _, _, _, _, _, _, _, _ => none
  | n + 1, x1, x2, x3, x4, x5, x6, x7, M => if (M 303 46) ≤ x7 then (tb_b2 (fX7_ends ((if x6 = (-1000000) then x6 else (if x4 = 0 then x6 else x5)) : Int32) M) (fun r37 M35 => some (r37, M35))) else (fX7_better_L113 (fun z1 z2 z3 z4 z5 z6 z7 M => fX7_better_L95 n z1 z2 z3 z4 z5 z6 z7 M) tb_N x1 x2 x3 x4 x5 x6 x7 (x7 + 1) M)
def fX7_better (a1 : Int32) (a2 : Int32) (a3 : Int32) (a4 : Int32) (M : tb_Mem) : Option (Int32 × tb_Mem) :=
  tb_b2 (fX7_isRow a1 M) (fun r3 M1 => if r3 = 0 then (some ((-1000001), M1)) else (tb_b2 (fX7_in a3 1 12 M1) (fun r7 M5 => if r7 = 0 then (some ((-1000001), M5)) else (tb_b2 (fX7_in a4 0 1 M5) (fun r11 M9 => if r11 = 0 then (some ((-1000001), M9)) else (tb_b2 (fX7_isBasket M9) (fun r15 M13 => if r15 = 0 then (some ((-1000002), M13)) else (tb_ck (tb_in a1 8) (if 0 ≤ (M13 298 a1.toNatClampNeg) then (tb_b2 (fX7_lies a1 a2 a3 M13) (fun r21 M19 => if r21 = 0 then (tb_b2 (fX7_ends (-1000012) M19) (fun r28 M26 => some (r28, M26))) else (tb_b2 (fX7_paceBy ((40 * a1) + a2) a3 (-1) (-1) M19) (fun r25 M23 => fX7_better_L95 tb_N a1 a2 a3 a4 r25 (-1000000) 0 M23)))) else (tb_b2 (fX7_ends (-1000011) M13) (fun r31 M29 => some (r31, M29))))))))))))
abbrev rmX7_better : Room := { frames := 6, cells := 0, slots := 0, locals := 148 }
set_option maxHeartbeats 4000000 in
set_option maxRecDepth 100000 in
theorem tX7_better_L113 {g : tb_GT} {l : Launch} {P : Program} {e : Env} {s : State} {m : MethodId} {below : List Frame} {meth : Method} {c : Code} {a1 : Int32} {a2 : Int32} {a3 : Int32} {a4 : Int32} {M' : tb_Mem} {r : Int32} (F : tb_F g cX7_better 10 RX7 (some .int) (Cond.code yX7_better cX7_better 10 (some .int)) P s m ([.ref (tb_ad g 297), .int a1, .int a2, .int a3, .int a4] : List Value).toArray meth c) (K95 : Int32 → Int32 → Int32 → Int32 → Int32 → Int32 → Int32 → tb_Mem → Option (Int32 × tb_Mem)) (hK95 : ∀ (x1 : Int32) (x2 : Int32) (x3 : Int32) (x4 : Int32) (x5 : Int32) (x6 : Int32) (x7 : Int32) (M : tb_Mem) (H : Heap) (locs : List Loc) (ls : Array Slot), tb_P g M H → va_S (tb_A g) s.heap H locs → lv_has ls 10 [(0, .ref (tb_ad g 297)), (1, .int x1), (2, .int x2), (3, .int x3), (4, .int x4), (5, .int x5), (6, .int x6), (7, .int x7)] → K95 x1 x2 x3 x4 x5 x6 x7 M = some (r, M') → W P l e rmX7_better s m ([.ref (tb_ad g 297), .int a1, .int a2, .int a3, .int a4] : List Value).toArray below meth c H locs 0 0 (MQ below (tb_Q g M' (some (.int r))) ([.ref (tb_ad g 297), .int a1, .int a2, .int a3, .int a4] : List Value).toArray s 0 0 (tb_A g)) (F0 m 95 ls [])) :
    ∀ (n : Nat) (x1 : Int32) (x2 : Int32) (x3 : Int32) (x4 : Int32) (x5 : Int32) (x6 : Int32) (x7 : Int32) (x8 : Int32) (M : tb_Mem) (H : Heap) (locs : List Loc) (ls : Array Slot), tb_P g M H → va_S (tb_A g) s.heap H locs → lv_has ls 10 [(0, .ref (tb_ad g 297)), (1, .int x1), (2, .int x2), (3, .int x3), (4, .int x4), (5, .int x5), (6, .int x6), (7, .int x7), (8, .int x8)] → fX7_better_L113 K95 n x1 x2 x3 x4 x5 x6 x7 x8 M = some (r, M') → W P l e rmX7_better s m ([.ref (tb_ad g 297), .int a1, .int a2, .int a3, .int a4] : List Value).toArray below meth c H locs 0 0 (MQ below (tb_Q g M' (some (.int r))) ([.ref (tb_ad g 297), .int a1, .int a2, .int a3, .int a4] : List Value).toArray s 0 0 (tb_A g)) (F0 m 113 ls []) := by
  have hx := F.1.1
  have hb := F.1.2.1
  intro n
  induction n with
  | zero =>
    intro x1 x2 x3 x4 x5 x6 x7 x8 M H locs ls hP hS hl h
    rw [fX7_better_L113] at h
    exact tb_none h
  | succ n ih =>
    intro x1 x2 x3 x4 x5 x6 x7 x8 M H locs ls hP hS hl h
    rw [fX7_better_L113] at h
    refine lv_iload hx hb dX7_better_113 (lv_at hl 8 rfl) ?_
    refine lv_aload_n hx hb dX7_better_115 rfl (lv_at hl 0 rfl) ?_
    refine tb_getr F hP tb_l297 (ci := 7) rfl inlX7 8 (by decide) rfl kf_X7_25 dX7_better_116 ?_
    refine lv_bipush (v := 46) hx hb dX7_better_119 (by decide) ?_
    refine tb_iald F hP tb_l303 (k := 46) (by decide +kernel) (tb_inv (i := 46) (n := 63) (by decide +kernel)) dX7_better_121 ?_
    refine lv_icmp_ge (tgt := 183) hx hb dX7_better_122 (by decide) (fun c38 => ?_) (fun c38 => ?_)
    · have h := tb_ip c38 h
      refine lv_iinc (v := (x7 + 1)) (lv' := [(7, .int (x7 + 1)), (0, .ref (tb_ad g 297)), (1, .int x1), (2, .int x2), (3, .int x3), (4, .int x4), (5, .int x5), (6, .int x6), (8, .int x8)]) hx hb dX7_better_183 hl (k := 7) rfl rfl (by decide) rfl (fun ls hl => ?_)
      refine lv_goto (tgt := 95) hx hb dX7_better_186 (by decide) ?_
      exact hK95 x1 x2 x3 x4 x5 x6 (x7 + 1) M _ _ _ hP hS (lv_sub hl [1, 2, 3, 4, 5, 6, 7, 0] rfl) h
    · have h := tb_ineg c38 h
      refine lv_aload_n hx hb dX7_better_125 rfl (lv_at hl 0 rfl) ?_
      refine lv_bipush (v := 40) hx hb dX7_better_126 (by decide) ?_
      refine lv_iload_n hx hb dX7_better_128 rfl (lv_at hl 1 rfl) ?_
      refine lv_imul hx hb dX7_better_129 ?_
      refine lv_iload_n hx hb dX7_better_130 rfl (lv_at hl 2 rfl) ?_
      refine lv_iadd hx hb dX7_better_131 ?_
      refine lv_iload_n hx hb dX7_better_132 rfl (lv_at hl 3 rfl) ?_
      refine lv_iload hx hb dX7_better_133 (lv_at hl 7 rfl) ?_
      refine lv_iload hx hb dX7_better_135 (lv_at hl 8 rfl) ?_
      obtain ⟨r41, M39, e40, h⟩ := tb_b2s h
      refine tb_callV F hP hS hl.1 kX7_paceBy km_X7_178 (as := [.int ((40 * x1) + x2), .int x3, .int x7, .int x8]) (tX7_paceBy g l ((40 * x1) + x2) x3 x7 x8 M M39 r41 e40) tb_l297 ⟨rfl, rfl, Nat.le_of_ble_eq_true rfl, Nat.le_of_ble_eq_true rfl⟩ rfl (rest := []) rfl (st1 := [.int r41]) rfl (Nat.le_of_ble_eq_true rfl) ⟨Nat.zero_le _, Nat.zero_le _⟩ dX7_better_137 (fun H locs hP hS => ?_)
      refine lv_istore (lv' := [(9, .int r41), (0, .ref (tb_ad g 297)), (1, .int x1), (2, .int x2), (3, .int x3), (4, .int x4), (5, .int x5), (6, .int x6), (7, .int x7), (8, .int x8)]) hx hb dX7_better_140 hl (by decide) rfl (fun ls hl => ?_)
      refine lv_iload hx hb dX7_better_142 (lv_at hl 0 rfl) ?_
      refine lv_ldc (v := (-1000000)) hx hb F.1.2.2.2.1 (tb_hts F kc_X7_166) dX7_better_144 ?_
      refine lv_icmp_eq (tgt := 177) hx hb dX7_better_146 (by decide) (fun c42 => ?_) (fun c42 => ?_)
      · have h := tb_ip c42 h
        refine lv_iinc (v := (x8 + 1)) (lv' := [(8, .int (x8 + 1)), (9, .int r41), (0, .ref (tb_ad g 297)), (1, .int x1), (2, .int x2), (3, .int x3), (4, .int x4), (5, .int x5), (6, .int x6), (7, .int x7)]) hx hb dX7_better_177 hl (k := 9) rfl rfl (by decide) rfl (fun ls hl => ?_)
        refine lv_goto (tgt := 113) hx hb dX7_better_180 (by decide) ?_
        exact ih x1 x2 x3 x4 x5 x6 x7 (x8 + 1) M39 _ _ _ hP hS (lv_sub hl [2, 3, 4, 5, 6, 7, 8, 9, 0] rfl) h
      · have h := tb_ineg c42 h
        refine lv_iload hx hb dX7_better_149 (lv_at hl 6 rfl) ?_
        refine lv_ldc (v := (-1000000)) hx hb F.1.2.2.2.1 (tb_hts F kc_X7_166) dX7_better_151 ?_
        refine lv_icmp_eq (tgt := 163) hx hb dX7_better_153 (by decide) (fun c43 => ?_) (fun c43 => ?_)
        · have h := tb_ip c43 h
          refine lv_bipush (v := 10) hx hb dX7_better_163 (by decide) ?_
          refine lv_iload hx hb dX7_better_165 (lv_at hl 8 rfl) ?_
          refine lv_imul hx hb dX7_better_167 ?_
          refine lv_iload hx hb dX7_better_168 (lv_at hl 9 rfl) ?_
          refine lv_iadd hx hb dX7_better_170 ?_
          refine lv_istore (lv' := [(6, .int ((10 * x7) + x8)), (9, .int r41), (0, .ref (tb_ad g 297)), (1, .int x1), (2, .int x2), (3, .int x3), (4, .int x4), (5, .int x5), (7, .int x7), (8, .int x8)]) hx hb dX7_better_171 hl (by decide) rfl (fun ls hl => ?_)
          refine lv_iload hx hb dX7_better_173 (lv_at hl 1 rfl) ?_
          refine lv_istore (lv' := [(5, .int r41), (6, .int ((10 * x7) + x8)), (9, .int r41), (0, .ref (tb_ad g 297)), (1, .int x1), (2, .int x2), (3, .int x3), (4, .int x4), (7, .int x7), (8, .int x8)]) hx hb dX7_better_175 hl (by decide) rfl (fun ls hl => ?_)
          refine lv_iinc (v := (x8 + 1)) (lv' := [(8, .int (x8 + 1)), (5, .int r41), (6, .int ((10 * x7) + x8)), (9, .int r41), (0, .ref (tb_ad g 297)), (1, .int x1), (2, .int x2), (3, .int x3), (4, .int x4), (7, .int x7)]) hx hb dX7_better_177 hl (k := 9) rfl rfl (by decide) rfl (fun ls hl => ?_)
          refine lv_goto (tgt := 113) hx hb dX7_better_180 (by decide) ?_
          exact ih x1 x2 x3 x4 r41 ((10 * x7) + x8) x7 (x8 + 1) M39 _ _ _ hP hS (lv_sub hl [4, 5, 6, 7, 8, 1, 2, 9, 0] rfl) h
        · have h := tb_ineg c43 h
          refine lv_iload hx hb dX7_better_156 (lv_at hl 0 rfl) ?_
          refine lv_iload hx hb dX7_better_158 (lv_at hl 6 rfl) ?_
          refine lv_icmp_ge (tgt := 177) hx hb dX7_better_160 (by decide) (fun c44 => ?_) (fun c44 => ?_)
          · have h := tb_ip c44 h
            refine lv_iinc (v := (x8 + 1)) (lv' := [(8, .int (x8 + 1)), (9, .int r41), (0, .ref (tb_ad g 297)), (1, .int x1), (2, .int x2), (3, .int x3), (4, .int x4), (5, .int x5), (6, .int x6), (7, .int x7)]) hx hb dX7_better_177 hl (k := 9) rfl rfl (by decide) rfl (fun ls hl => ?_)
            refine lv_goto (tgt := 113) hx hb dX7_better_180 (by decide) ?_
            exact ih x1 x2 x3 x4 x5 x6 x7 (x8 + 1) M39 _ _ _ hP hS (lv_sub hl [2, 3, 4, 5, 6, 7, 8, 9, 0] rfl) h
          · have h := tb_ineg c44 h
            refine lv_bipush (v := 10) hx hb dX7_better_163 (by decide) ?_
            refine lv_iload hx hb dX7_better_165 (lv_at hl 8 rfl) ?_
            refine lv_imul hx hb dX7_better_167 ?_
            refine lv_iload hx hb dX7_better_168 (lv_at hl 9 rfl) ?_
            refine lv_iadd hx hb dX7_better_170 ?_
            refine lv_istore (lv' := [(6, .int ((10 * x7) + x8)), (9, .int r41), (0, .ref (tb_ad g 297)), (1, .int x1), (2, .int x2), (3, .int x3), (4, .int x4), (5, .int x5), (7, .int x7), (8, .int x8)]) hx hb dX7_better_171 hl (by decide) rfl (fun ls hl => ?_)
            refine lv_iload hx hb dX7_better_173 (lv_at hl 1 rfl) ?_
            refine lv_istore (lv' := [(5, .int r41), (6, .int ((10 * x7) + x8)), (9, .int r41), (0, .ref (tb_ad g 297)), (1, .int x1), (2, .int x2), (3, .int x3), (4, .int x4), (7, .int x7), (8, .int x8)]) hx hb dX7_better_175 hl (by decide) rfl (fun ls hl => ?_)
            refine lv_iinc (v := (x8 + 1)) (lv' := [(8, .int (x8 + 1)), (5, .int r41), (6, .int ((10 * x7) + x8)), (9, .int r41), (0, .ref (tb_ad g 297)), (1, .int x1), (2, .int x2), (3, .int x3), (4, .int x4), (7, .int x7)]) hx hb dX7_better_177 hl (k := 9) rfl rfl (by decide) rfl (fun ls hl => ?_)
            refine lv_goto (tgt := 113) hx hb dX7_better_180 (by decide) ?_
            exact ih x1 x2 x3 x4 r41 ((10 * x7) + x8) x7 (x8 + 1) M39 _ _ _ hP hS (lv_sub hl [4, 5, 6, 7, 8, 1, 2, 9, 0] rfl) h
set_option maxHeartbeats 4000000 in
set_option maxRecDepth 100000 in
theorem tX7_better_L95 {g : tb_GT} {l : Launch} {P : Program} {e : Env} {s : State} {m : MethodId} {below : List Frame} {meth : Method} {c : Code} {a1 : Int32} {a2 : Int32} {a3 : Int32} {a4 : Int32} {M' : tb_Mem} {r : Int32} (F : tb_F g cX7_better 10 RX7 (some .int) (Cond.code yX7_better cX7_better 10 (some .int)) P s m ([.ref (tb_ad g 297), .int a1, .int a2, .int a3, .int a4] : List Value).toArray meth c) :
    ∀ (n : Nat) (x1 : Int32) (x2 : Int32) (x3 : Int32) (x4 : Int32) (x5 : Int32) (x6 : Int32) (x7 : Int32) (M : tb_Mem) (H : Heap) (locs : List Loc) (ls : Array Slot), tb_P g M H → va_S (tb_A g) s.heap H locs → lv_has ls 10 [(0, .ref (tb_ad g 297)), (1, .int x1), (2, .int x2), (3, .int x3), (4, .int x4), (5, .int x5), (6, .int x6), (7, .int x7)] → fX7_better_L95 n x1 x2 x3 x4 x5 x6 x7 M = some (r, M') → W P l e rmX7_better s m ([.ref (tb_ad g 297), .int a1, .int a2, .int a3, .int a4] : List Value).toArray below meth c H locs 0 0 (MQ below (tb_Q g M' (some (.int r))) ([.ref (tb_ad g 297), .int a1, .int a2, .int a3, .int a4] : List Value).toArray s 0 0 (tb_A g)) (F0 m 95 ls []) := by
  have hx := F.1.1
  have hb := F.1.2.1
  intro n
  induction n with
  | zero =>
    intro x1 x2 x3 x4 x5 x6 x7 M H locs ls hP hS hl h
    rw [fX7_better_L95] at h
    exact tb_none h
  | succ n ih =>
    intro x1 x2 x3 x4 x5 x6 x7 M H locs ls hP hS hl h
    rw [fX7_better_L95] at h
    refine lv_iload hx hb dX7_better_95 (lv_at hl 7 rfl) ?_
    refine lv_aload_n hx hb dX7_better_97 rfl (lv_at hl 0 rfl) ?_
    refine tb_getr F hP tb_l297 (ci := 7) rfl inlX7 8 (by decide) rfl kf_X7_25 dX7_better_98 ?_
    refine lv_bipush (v := 46) hx hb dX7_better_101 (by decide) ?_
    refine tb_iald F hP tb_l303 (k := 46) (by decide +kernel) (tb_inv (i := 46) (n := 63) (by decide +kernel)) dX7_better_103 ?_
    refine lv_icmp_ge (tgt := 189) hx hb dX7_better_104 (by decide) (fun c32 => ?_) (fun c32 => ?_)
    · have h := tb_ip c32 h
      refine lv_aload_n hx hb dX7_better_189 rfl (lv_at hl 0 rfl) ?_
      refine lv_iload hx hb dX7_better_190 (lv_at hl 6 rfl) ?_
      refine lv_ldc (v := (-1000000)) hx hb F.1.2.2.2.1 (tb_hts F kc_X7_166) dX7_better_192 ?_
      refine tb_mrg (g2 := F0 m 209 ls [.int ((if x6 = (-1000000) then x6 else (if x4 = 0 then x6 else x5)) : Int32), .ref (tb_ad g 297)]) (fun hJ => ?_) ?_
      · refine lv_icmp_eq (tgt := 202) hx hb dX7_better_194 (by decide) (fun c33 => ?_) (fun c33 => ?_)
        · refine lv_iload hx hb dX7_better_202 (lv_at hl 6 rfl) ?_
          refine lv_goto (tgt := 209) hx hb dX7_better_204 (by decide) ?_
          rw [if_pos c33] at hJ
          exact hJ
        · refine lv_iload hx hb dX7_better_197 (lv_at hl 4 rfl) ?_
          refine lv_if_ne (tgt := 207) hx hb dX7_better_199 (by decide) (fun c34 => ?_) (fun c34 => ?_)
          · refine lv_iload hx hb dX7_better_207 (lv_at hl 5 rfl) ?_
            rw [if_neg c33, if_neg c34] at hJ
            exact hJ
          · refine lv_iload hx hb dX7_better_202 (lv_at hl 6 rfl) ?_
            refine lv_goto (tgt := 209) hx hb dX7_better_204 (by decide) ?_
            rw [if_neg c33, if_pos c34] at hJ
            exact hJ
      obtain ⟨r37, M35, e36, h⟩ := tb_b2s h
      refine tb_callV F hP hS hl.1 kX7_ends km_X7_64 (as := [.int ((if x6 = (-1000000) then x6 else (if x4 = 0 then x6 else x5)) : Int32)]) (tX7_ends g l ((if x6 = (-1000000) then x6 else (if x4 = 0 then x6 else x5)) : Int32) M M35 r37 e36) tb_l297 ⟨rfl, rfl, Nat.le_of_ble_eq_true rfl, Nat.le_of_ble_eq_true rfl⟩ rfl (rest := []) rfl (st1 := [.int r37]) rfl (Nat.le_of_ble_eq_true rfl) ⟨Nat.zero_le _, Nat.zero_le _⟩ dX7_better_209 (fun H locs hP hS => ?_)
      exact tb_iret h F hP hS dX7_better_212
    · have h := tb_ineg c32 h
      refine lv_iload hx hb dX7_better_107 (lv_at hl 7 rfl) ?_
      refine lv_iconst (v := 1) hx hb dX7_better_109 (by decide) ?_
      refine lv_iadd hx hb dX7_better_110 ?_
      refine lv_istore (lv' := [(8, .int (x7 + 1)), (0, .ref (tb_ad g 297)), (1, .int x1), (2, .int x2), (3, .int x3), (4, .int x4), (5, .int x5), (6, .int x6), (7, .int x7)]) hx hb dX7_better_111 hl (by decide) rfl (fun ls hl => ?_)
      exact tX7_better_L113 F (fun z1 z2 z3 z4 z5 z6 z7 M => fX7_better_L95 n z1 z2 z3 z4 z5 z6 z7 M) ih tb_N x1 x2 x3 x4 x5 x6 x7 (x7 + 1) M _ _ _ hP hS (lv_sub hl [1, 2, 3, 4, 5, 6, 7, 8, 0] rfl) h
set_option maxHeartbeats 4000000 in
set_option maxRecDepth 100000 in
theorem tX7_better (g : tb_GT) (l : Launch) (a1 : Int32) (a2 : Int32) (a3 : Int32) (a4 : Int32) (M M' : tb_Mem) (r : Int32) (h : fX7_better a1 a2 a3 a4 M = some (r, M')) : tb_C g l yX7_better (Cond.code yX7_better cX7_better 10 (some .int)) rmX7_better [.ref (tb_ad g 297), .int a1, .int a2, .int a3, .int a4] M M' (some (.int r)) := by
  refine tb_entry (by decide) (Nat.le_of_ble_eq_true rfl) ?_
  intro P e s m below meth c F hP hS ls hl
  have F : tb_F g cX7_better 10 RX7 (some .int) (Cond.code yX7_better cX7_better 10 (some .int)) P s m ([.ref (tb_ad g 297), .int a1, .int a2, .int a3, .int a4] : List Value).toArray meth c := F
  have hx := F.1.1
  have hb := F.1.2.1
  have hl : lv_has ls 10 [(0, .ref (tb_ad g 297)), (1, .int a1), (2, .int a2), (3, .int a3), (4, .int a4)] := hl
  unfold fX7_better at h
  refine lv_iload_n hx hb dX7_better_0 rfl (lv_at hl 1 rfl) ?_
  obtain ⟨r3, M1, e2, h⟩ := tb_b2s h
  refine tb_callS F hP hS hl.1 kX7_isRow km_X7_58 (as := [.int a1]) (tX7_isRow g l a1 M M1 r3 e2) ⟨rfl, rfl, Nat.le_of_ble_eq_true rfl, Nat.le_of_ble_eq_true rfl⟩ rfl (rest := []) rfl (st1 := [.int r3]) rfl (Nat.le_of_ble_eq_true rfl) ⟨Nat.zero_le _, Nat.zero_le _⟩ dX7_better_1 (fun H locs hP hS => ?_)
  refine lv_if_eq (tgt := 27) hx hb dX7_better_4 (by decide) (fun c4 => ?_) (fun c4 => ?_)
  · have h := tb_ip c4 h
    refine lv_ldc (v := (-1000001)) hx hb F.1.2.2.2.1 (tb_hts F kc_X7_62) dX7_better_27 ?_
    exact tb_iret h F hP hS dX7_better_29
  · have h := tb_ineg c4 h
    refine lv_iload_n hx hb dX7_better_7 rfl (lv_at hl 3 rfl) ?_
    refine lv_iconst (v := 1) hx hb dX7_better_8 (by decide) ?_
    refine lv_bipush (v := 12) hx hb dX7_better_9 (by decide) ?_
    obtain ⟨r7, M5, e6, h⟩ := tb_b2s h
    refine tb_callS F hP hS hl.1 kX7_in km_X7_47 (as := [.int a3, .int 1, .int 12]) (tX7_in g l a3 1 12 M1 M5 r7 e6) ⟨rfl, rfl, Nat.le_of_ble_eq_true rfl, Nat.le_of_ble_eq_true rfl⟩ rfl (rest := []) rfl (st1 := [.int r7]) rfl (Nat.le_of_ble_eq_true rfl) ⟨Nat.zero_le _, Nat.zero_le _⟩ dX7_better_11 (fun H locs hP hS => ?_)
    refine lv_if_eq (tgt := 27) hx hb dX7_better_14 (by decide) (fun c8 => ?_) (fun c8 => ?_)
    · have h := tb_ip c8 h
      refine lv_ldc (v := (-1000001)) hx hb F.1.2.2.2.1 (tb_hts F kc_X7_62) dX7_better_27 ?_
      exact tb_iret h F hP hS dX7_better_29
    · have h := tb_ineg c8 h
      refine lv_iload hx hb dX7_better_17 (lv_at hl 4 rfl) ?_
      refine lv_iconst (v := 0) hx hb dX7_better_19 (by decide) ?_
      refine lv_iconst (v := 1) hx hb dX7_better_20 (by decide) ?_
      obtain ⟨r11, M9, e10, h⟩ := tb_b2s h
      refine tb_callS F hP hS hl.1 kX7_in km_X7_47 (as := [.int a4, .int 0, .int 1]) (tX7_in g l a4 0 1 M5 M9 r11 e10) ⟨rfl, rfl, Nat.le_of_ble_eq_true rfl, Nat.le_of_ble_eq_true rfl⟩ rfl (rest := []) rfl (st1 := [.int r11]) rfl (Nat.le_of_ble_eq_true rfl) ⟨Nat.zero_le _, Nat.zero_le _⟩ dX7_better_21 (fun H locs hP hS => ?_)
      refine lv_if_ne (tgt := 30) hx hb dX7_better_24 (by decide) (fun c12 => ?_) (fun c12 => ?_)
      · have h := tb_ineg c12 h
        refine lv_aload_n hx hb dX7_better_30 rfl (lv_at hl 0 rfl) ?_
        obtain ⟨r15, M13, e14, h⟩ := tb_b2s h
        refine tb_callV F hP hS hl.1 kX7_isBasket km_X7_131 (as := []) (tX7_isBasket g l M9 M13 r15 e14) tb_l297 ⟨rfl, rfl, Nat.le_of_ble_eq_true rfl, Nat.le_of_ble_eq_true rfl⟩ rfl (rest := []) rfl (st1 := [.int r15]) rfl (Nat.le_of_ble_eq_true rfl) ⟨Nat.zero_le _, Nat.zero_le _⟩ dX7_better_31 (fun H locs hP hS => ?_)
        refine lv_if_ne (tgt := 40) hx hb dX7_better_34 (by decide) (fun c16 => ?_) (fun c16 => ?_)
        · have h := tb_ineg c16 h
          refine lv_aload_n hx hb dX7_better_40 rfl (lv_at hl 0 rfl) ?_
          refine tb_getr F hP tb_l297 (ci := 7) rfl inlX7 0 (by decide) rfl kf_X7_7 dX7_better_41 ?_
          refine lv_iload_n hx hb dX7_better_44 rfl (lv_at hl 1 rfl) ?_
          obtain ⟨k17, h⟩ := tb_cks h
          refine tb_iald F hP tb_l298 rfl (tb_inv k17) dX7_better_45 ?_
          refine lv_if_ge (tgt := 56) hx hb dX7_better_46 (by decide) (fun c18 => ?_) (fun c18 => ?_)
          · have h := tb_ip c18 h
            refine lv_aload_n hx hb dX7_better_56 rfl (lv_at hl 0 rfl) ?_
            refine lv_iload_n hx hb dX7_better_57 rfl (lv_at hl 1 rfl) ?_
            refine lv_iload_n hx hb dX7_better_58 rfl (lv_at hl 2 rfl) ?_
            refine lv_iload_n hx hb dX7_better_59 rfl (lv_at hl 3 rfl) ?_
            obtain ⟨r21, M19, e20, h⟩ := tb_b2s h
            refine tb_callV F hP hS hl.1 kX7_lies km_X7_68 (as := [.int a1, .int a2, .int a3]) (tX7_lies g l a1 a2 a3 M13 M19 r21 e20) tb_l297 ⟨rfl, rfl, Nat.le_of_ble_eq_true rfl, Nat.le_of_ble_eq_true rfl⟩ rfl (rest := []) rfl (st1 := [.int r21]) rfl (Nat.le_of_ble_eq_true rfl) ⟨Nat.zero_le _, Nat.zero_le _⟩ dX7_better_60 (fun H locs hP hS => ?_)
            refine lv_if_ne (tgt := 73) hx hb dX7_better_63 (by decide) (fun c22 => ?_) (fun c22 => ?_)
            · have h := tb_ineg c22 h
              refine lv_aload_n hx hb dX7_better_73 rfl (lv_at hl 0 rfl) ?_
              refine lv_bipush (v := 40) hx hb dX7_better_74 (by decide) ?_
              refine lv_iload_n hx hb dX7_better_76 rfl (lv_at hl 1 rfl) ?_
              refine lv_imul hx hb dX7_better_77 ?_
              refine lv_iload_n hx hb dX7_better_78 rfl (lv_at hl 2 rfl) ?_
              refine lv_iadd hx hb dX7_better_79 ?_
              refine lv_iload_n hx hb dX7_better_80 rfl (lv_at hl 3 rfl) ?_
              refine lv_iconst (v := (-1)) hx hb dX7_better_81 (by decide) ?_
              refine lv_iconst (v := (-1)) hx hb dX7_better_82 (by decide) ?_
              obtain ⟨r25, M23, e24, h⟩ := tb_b2s h
              refine tb_callV F hP hS hl.1 kX7_paceBy km_X7_178 (as := [.int ((40 * a1) + a2), .int a3, .int (-1), .int (-1)]) (tX7_paceBy g l ((40 * a1) + a2) a3 (-1) (-1) M19 M23 r25 e24) tb_l297 ⟨rfl, rfl, Nat.le_of_ble_eq_true rfl, Nat.le_of_ble_eq_true rfl⟩ rfl (rest := []) rfl (st1 := [.int r25]) rfl (Nat.le_of_ble_eq_true rfl) ⟨Nat.zero_le _, Nat.zero_le _⟩ dX7_better_83 (fun H locs hP hS => ?_)
              refine lv_istore (lv' := [(5, .int r25), (0, .ref (tb_ad g 297)), (1, .int a1), (2, .int a2), (3, .int a3), (4, .int a4)]) hx hb dX7_better_86 hl (by decide) rfl (fun ls hl => ?_)
              refine lv_ldc (v := (-1000000)) hx hb F.1.2.2.2.1 (tb_hts F kc_X7_166) dX7_better_88 ?_
              refine lv_istore (lv' := [(6, .int (-1000000)), (5, .int r25), (0, .ref (tb_ad g 297)), (1, .int a1), (2, .int a2), (3, .int a3), (4, .int a4)]) hx hb dX7_better_90 hl (by decide) rfl (fun ls hl => ?_)
              refine lv_iconst (v := 0) hx hb dX7_better_92 (by decide) ?_
              refine lv_istore (lv' := [(7, .int 0), (6, .int (-1000000)), (5, .int r25), (0, .ref (tb_ad g 297)), (1, .int a1), (2, .int a2), (3, .int a3), (4, .int a4)]) hx hb dX7_better_93 hl (by decide) rfl (fun ls hl => ?_)
              exact tX7_better_L95 F tb_N a1 a2 a3 a4 r25 (-1000000) 0 M23 _ _ _ hP hS (lv_sub hl [3, 4, 5, 6, 7, 2, 1, 0] rfl) h
            · have h := tb_ip c22 h
              refine lv_aload_n hx hb dX7_better_66 rfl (lv_at hl 0 rfl) ?_
              refine lv_ldc (v := (-1000012)) hx hb F.1.2.2.2.1 (tb_hts F kc_X7_71) dX7_better_67 ?_
              obtain ⟨r28, M26, e27, h⟩ := tb_b2s h
              refine tb_callV F hP hS hl.1 kX7_ends km_X7_64 (as := [.int (-1000012)]) (tX7_ends g l (-1000012) M19 M26 r28 e27) tb_l297 ⟨rfl, rfl, Nat.le_of_ble_eq_true rfl, Nat.le_of_ble_eq_true rfl⟩ rfl (rest := []) rfl (st1 := [.int r28]) rfl (Nat.le_of_ble_eq_true rfl) ⟨Nat.zero_le _, Nat.zero_le _⟩ dX7_better_69 (fun H locs hP hS => ?_)
              exact tb_iret h F hP hS dX7_better_72
          · have h := tb_ineg c18 h
            refine lv_aload_n hx hb dX7_better_49 rfl (lv_at hl 0 rfl) ?_
            refine lv_ldc (v := (-1000011)) hx hb F.1.2.2.2.1 (tb_hts F kc_X7_52) dX7_better_50 ?_
            obtain ⟨r31, M29, e30, h⟩ := tb_b2s h
            refine tb_callV F hP hS hl.1 kX7_ends km_X7_64 (as := [.int (-1000011)]) (tX7_ends g l (-1000011) M13 M29 r31 e30) tb_l297 ⟨rfl, rfl, Nat.le_of_ble_eq_true rfl, Nat.le_of_ble_eq_true rfl⟩ rfl (rest := []) rfl (st1 := [.int r31]) rfl (Nat.le_of_ble_eq_true rfl) ⟨Nat.zero_le _, Nat.zero_le _⟩ dX7_better_52 (fun H locs hP hS => ?_)
            exact tb_iret h F hP hS dX7_better_55
        · have h := tb_ip c16 h
          refine lv_ldc (v := (-1000002)) hx hb F.1.2.2.2.1 (tb_hts F kc_X7_134) dX7_better_37 ?_
          exact tb_iret h F hP hS dX7_better_39
      · have h := tb_ip c12 h
        refine lv_ldc (v := (-1000001)) hx hb F.1.2.2.2.1 (tb_hts F kc_X7_62) dX7_better_27 ?_
        exact tb_iret h F hP hS dX7_better_29
def fX7_isSo_L6 : Nat → Int32 → Int32 → Int32 → Int32 → Int32 → tb_Mem → Option (Int32 × tb_Mem)
  | 0, _, _, _, _, _, _ => none
  | n + 1, x1, x2, x3, x4, x5, M => if x3 ≤ x5 then (tb_ck (tb_bl x4) (some (x4, M))) else (tb_b2 (fX7_tick 308 M) (fun r5 M3 => if x4 = 0 then (fX7_isSo_L6 n x1 x2 x3 0 (x5 + 1) M3) else (tb_b2 (fX7_high 308 x1 M3) (fun r9 M7 => tb_ck (tb_in (x2 + x5) 320) (tb_let (((if r9 = (M7 300 (x2 + x5).toNatClampNeg) then 1 else 0) : Int32) : Int32) (fun v12 => fX7_isSo_L6 n x1 x2 x3 v12 (x5 + 1) M7))))))
def fX7_isSo (a1 : Int32) (a2 : Int32) (a3 : Int32) (M : tb_Mem) : Option (Int32 × tb_Mem) :=
  fX7_isSo_L6 tb_N a1 a2 a3 1 0 M
abbrev rmX7_isSo : Room := { frames := 4, cells := 0, slots := 0, locals := 95 }
set_option maxHeartbeats 4000000 in
set_option maxRecDepth 100000 in
theorem tX7_isSo_L6 {g : tb_GT} {l : Launch} {P : Program} {e : Env} {s : State} {m : MethodId} {below : List Frame} {meth : Method} {c : Code} {a1 : Int32} {a2 : Int32} {a3 : Int32} {M' : tb_Mem} {r : Int32} (F : tb_F g cX7_isSo 6 RX7 (some .boolean) (Cond.code yX7_isSo cX7_isSo 6 (some .boolean)) P s m ([.ref (tb_ad g 297), .int a1, .int a2, .int a3] : List Value).toArray meth c) :
    ∀ (n : Nat) (x1 : Int32) (x2 : Int32) (x3 : Int32) (x4 : Int32) (x5 : Int32) (M : tb_Mem) (H : Heap) (locs : List Loc) (ls : Array Slot), tb_P g M H → va_S (tb_A g) s.heap H locs → lv_has ls 6 [(0, .ref (tb_ad g 297)), (1, .int x1), (2, .int x2), (3, .int x3), (4, .int x4), (5, .int x5)] → fX7_isSo_L6 n x1 x2 x3 x4 x5 M = some (r, M') → W P l e rmX7_isSo s m ([.ref (tb_ad g 297), .int a1, .int a2, .int a3] : List Value).toArray below meth c H locs 0 0 (MQ below (tb_Q g M' (some (.int r))) ([.ref (tb_ad g 297), .int a1, .int a2, .int a3] : List Value).toArray s 0 0 (tb_A g)) (F0 m 6 ls []) := by
  have hx := F.1.1
  have hb := F.1.2.1
  intro n
  induction n with
  | zero =>
    intro x1 x2 x3 x4 x5 M H locs ls hP hS hl h
    rw [fX7_isSo_L6] at h
    exact tb_none h
  | succ n ih =>
    intro x1 x2 x3 x4 x5 M H locs ls hP hS hl h
    rw [fX7_isSo_L6] at h
    refine lv_iload hx hb dX7_isSo_6 (lv_at hl 5 rfl) ?_
    refine lv_iload_n hx hb dX7_isSo_8 rfl (lv_at hl 3 rfl) ?_
    refine lv_icmp_ge (tgt := 58) hx hb dX7_isSo_9 (by decide) (fun c1 => ?_) (fun c1 => ?_)
    · have h := tb_ip c1 h
      refine lv_iload hx hb dX7_isSo_58 (lv_at hl 4 rfl) ?_
      obtain ⟨k2, h⟩ := tb_cks h
      exact tb_zret h F (tb_bln k2) hP hS dX7_isSo_60
    · have h := tb_ineg c1 h
      refine lv_aload_n hx hb dX7_isSo_12 rfl (lv_at hl 0 rfl) ?_
      refine tb_getr F hP tb_l297 (ci := 7) rfl inlX7 14 (by decide) rfl kf_X7_41 dX7_isSo_13 ?_
      obtain ⟨r5, M3, e4, h⟩ := tb_b2s h
      refine tb_callS F hP hS hl.1 kX7_tick km_X7_138 (as := [.ref (tb_ad g 308)]) (tX7_tick g l 308 tb_l308 M M3 r5 e4) ⟨rfl, rfl, Nat.le_of_ble_eq_true rfl, Nat.le_of_ble_eq_true rfl⟩ rfl (rest := []) rfl (st1 := [.int r5]) rfl (Nat.le_of_ble_eq_true rfl) ⟨Nat.zero_le _, Nat.zero_le _⟩ dX7_isSo_16 (fun H locs hP hS => ?_)
      refine lv_pop hx hb dX7_isSo_19 rfl ?_
      refine lv_iload hx hb dX7_isSo_20 (lv_at hl 4 rfl) ?_
      refine lv_if_eq (tgt := 49) hx hb dX7_isSo_22 (by decide) (fun c6 => ?_) (fun c6 => ?_)
      · have h := tb_ip c6 h
        refine lv_iconst (v := 0) hx hb dX7_isSo_49 (by decide) ?_
        refine lv_istore (lv' := [(4, .int 0), (0, .ref (tb_ad g 297)), (1, .int x1), (2, .int x2), (3, .int x3), (5, .int x5)]) hx hb dX7_isSo_50 hl (by decide) rfl (fun ls hl => ?_)
        refine lv_iinc (v := (x5 + 1)) (lv' := [(5, .int (x5 + 1)), (4, .int 0), (0, .ref (tb_ad g 297)), (1, .int x1), (2, .int x2), (3, .int x3)]) hx hb dX7_isSo_52 hl (k := 5) rfl rfl (by decide) rfl (fun ls hl => ?_)
        refine lv_goto (tgt := 6) hx hb dX7_isSo_55 (by decide) ?_
        exact ih x1 x2 x3 0 (x5 + 1) M3 _ _ _ hP hS (lv_sub hl [2, 3, 4, 5, 1, 0] rfl) h
      · have h := tb_ineg c6 h
        refine lv_aload_n hx hb dX7_isSo_25 rfl (lv_at hl 0 rfl) ?_
        refine tb_getr F hP tb_l297 (ci := 7) rfl inlX7 14 (by decide) rfl kf_X7_41 dX7_isSo_26 ?_
        refine lv_iload_n hx hb dX7_isSo_29 rfl (lv_at hl 1 rfl) ?_
        obtain ⟨r9, M7, e8, h⟩ := tb_b2s h
        refine tb_callS F hP hS hl.1 kX7_high km_X7_116 (as := [.ref (tb_ad g 308), .int x1]) (tX7_high g l 308 tb_l308 x1 M3 M7 r9 e8) ⟨rfl, rfl, Nat.le_of_ble_eq_true rfl, Nat.le_of_ble_eq_true rfl⟩ rfl (rest := []) rfl (st1 := [.int r9]) rfl (Nat.le_of_ble_eq_true rfl) ⟨Nat.zero_le _, Nat.zero_le _⟩ dX7_isSo_30 (fun H locs hP hS => ?_)
        refine lv_aload_n hx hb dX7_isSo_33 rfl (lv_at hl 0 rfl) ?_
        refine tb_getr F hP tb_l297 (ci := 7) rfl inlX7 2 (by decide) rfl kf_X7_16 dX7_isSo_34 ?_
        refine lv_iload_n hx hb dX7_isSo_37 rfl (lv_at hl 2 rfl) ?_
        refine lv_iload hx hb dX7_isSo_38 (lv_at hl 5 rfl) ?_
        refine lv_iadd hx hb dX7_isSo_40 ?_
        obtain ⟨k10, h⟩ := tb_cks h
        refine tb_iald F hP tb_l300 rfl (tb_inv k10) dX7_isSo_41 ?_
        refine tb_mrg (g2 := F0 m 50 ls [.int ((if r9 = (M7 300 (x2 + x5).toNatClampNeg) then 1 else 0) : Int32)]) (fun hJ => ?_) ?_
        · refine lv_icmp_ne (tgt := 49) hx hb dX7_isSo_42 (by decide) (fun c11 => ?_) (fun c11 => ?_)
          · refine lv_iconst (v := 0) hx hb dX7_isSo_49 (by decide) ?_
            rw [if_neg c11] at hJ
            exact hJ
          · refine lv_iconst (v := 1) hx hb dX7_isSo_45 (by decide) ?_
            refine lv_goto (tgt := 50) hx hb dX7_isSo_46 (by decide) ?_
            rw [if_pos c11] at hJ
            exact hJ
        obtain ⟨v12, e13, h⟩ := tb_lets h
        refine tb_nmi e13 ?_
        refine lv_istore (lv' := [(4, .int v12), (0, .ref (tb_ad g 297)), (1, .int x1), (2, .int x2), (3, .int x3), (5, .int x5)]) hx hb dX7_isSo_50 hl (by decide) rfl (fun ls hl => ?_)
        refine lv_iinc (v := (x5 + 1)) (lv' := [(5, .int (x5 + 1)), (4, .int v12), (0, .ref (tb_ad g 297)), (1, .int x1), (2, .int x2), (3, .int x3)]) hx hb dX7_isSo_52 hl (k := 5) rfl rfl (by decide) rfl (fun ls hl => ?_)
        refine lv_goto (tgt := 6) hx hb dX7_isSo_55 (by decide) ?_
        exact ih x1 x2 x3 v12 (x5 + 1) M7 _ _ _ hP hS (lv_sub hl [2, 3, 4, 5, 1, 0] rfl) h
set_option maxHeartbeats 4000000 in
set_option maxRecDepth 100000 in
theorem tX7_isSo (g : tb_GT) (l : Launch) (a1 : Int32) (a2 : Int32) (a3 : Int32) (M M' : tb_Mem) (r : Int32) (h : fX7_isSo a1 a2 a3 M = some (r, M')) : tb_C g l yX7_isSo (Cond.code yX7_isSo cX7_isSo 6 (some .boolean)) rmX7_isSo [.ref (tb_ad g 297), .int a1, .int a2, .int a3] M M' (some (.int r)) := by
  refine tb_entry (by decide) (Nat.le_of_ble_eq_true rfl) ?_
  intro P e s m below meth c F hP hS ls hl
  have F : tb_F g cX7_isSo 6 RX7 (some .boolean) (Cond.code yX7_isSo cX7_isSo 6 (some .boolean)) P s m ([.ref (tb_ad g 297), .int a1, .int a2, .int a3] : List Value).toArray meth c := F
  have hx := F.1.1
  have hb := F.1.2.1
  have hl : lv_has ls 6 [(0, .ref (tb_ad g 297)), (1, .int a1), (2, .int a2), (3, .int a3)] := hl
  unfold fX7_isSo at h
  refine lv_iconst (v := 1) hx hb dX7_isSo_0 (by decide) ?_
  refine lv_istore (lv' := [(4, .int 1), (0, .ref (tb_ad g 297)), (1, .int a1), (2, .int a2), (3, .int a3)]) hx hb dX7_isSo_1 hl (by decide) rfl (fun ls hl => ?_)
  refine lv_iconst (v := 0) hx hb dX7_isSo_3 (by decide) ?_
  refine lv_istore (lv' := [(5, .int 0), (4, .int 1), (0, .ref (tb_ad g 297)), (1, .int a1), (2, .int a2), (3, .int a3)]) hx hb dX7_isSo_4 hl (by decide) rfl (fun ls hl => ?_)
  exact tX7_isSo_L6 F tb_N a1 a2 a3 1 0 M _ _ _ hP hS (lv_sub hl [2, 3, 4, 5, 1, 0] rfl) h
def fX7_becomes_L65 : Nat → Int32 → Int32 → Int32 → tb_Mem → Option (tb_Mem)
  | 0, _, _, _, _ => none
  | n + 1, x1, x3, x4, M => if (M 308 46) ≤ x4 then (some M) else (tb_ck (tb_in (18 + x4) 63) (if (M 303 (18 + x4).toNatClampNeg) = x3 then (if x4 = x1 then (fX7_becomes_L65 n x1 x3 (x4 + 1) M) else (tb_b1 (fX7_exchanges 308 x1 x4 M) (fun M20 => fX7_becomes_L65 n x1 x3 (x4 + 1) M20))) else (fX7_becomes_L65 n x1 x3 (x4 + 1) M)))
def fX7_becomes (a1 : Int32) (a2 : Int32) (a3 : Int32) (M : tb_Mem) : Option (tb_Mem) :=
  if a2 = 0 then (tb_ck (tb_in (55 + a1) 63) (tb_let (tb_up M 308 ((55 + a1).toNatClampNeg) a3) (fun M14 => some M14))) else (if a2 = 1 then (tb_ck (tb_in (47 + a1) 63) (tb_let (tb_up M 308 ((47 + a1).toNatClampNeg) a3) (fun M11 => some M11))) else (if a2 = 2 then (tb_ck (tb_in (2 + a1) 63) (tb_let (tb_up M 308 ((2 + a1).toNatClampNeg) a3) (fun M5 => tb_ck (tb_in (10 + a1) 63) (tb_let (tb_up M5 308 ((10 + a1).toNatClampNeg) 0) (fun M8 => some M8))))) else (fX7_becomes_L65 tb_N a1 a3 0 M)))
abbrev rmX7_becomes : Room := { frames := 1, cells := 0, slots := 0, locals := 23 }
set_option maxHeartbeats 4000000 in
set_option maxRecDepth 100000 in
theorem tX7_becomes_L65 {g : tb_GT} {l : Launch} {P : Program} {e : Env} {s : State} {m : MethodId} {below : List Frame} {meth : Method} {c : Code} {a1 : Int32} {a2 : Int32} {a3 : Int32} {M' : tb_Mem} (F : tb_F g cX7_becomes 5 RX7 none (Cond.code yX7_becomes cX7_becomes 5 none) P s m ([.ref (tb_ad g 297), .int a1, .int a2, .int a3] : List Value).toArray meth c) :
    ∀ (n : Nat) (x1 : Int32) (x3 : Int32) (x4 : Int32) (M : tb_Mem) (H : Heap) (locs : List Loc) (ls : Array Slot), tb_P g M H → va_S (tb_A g) s.heap H locs → lv_has ls 5 [(0, .ref (tb_ad g 297)), (1, .int x1), (3, .int x3), (4, .int x4)] → fX7_becomes_L65 n x1 x3 x4 M = some M' → W P l e rmX7_becomes s m ([.ref (tb_ad g 297), .int a1, .int a2, .int a3] : List Value).toArray below meth c H locs 0 0 (MQ below (tb_Q g M' none) ([.ref (tb_ad g 297), .int a1, .int a2, .int a3] : List Value).toArray s 0 0 (tb_A g)) (F0 m 65 ls []) := by
  have hx := F.1.1
  have hb := F.1.2.1
  intro n
  induction n with
  | zero =>
    intro x1 x3 x4 M H locs ls hP hS hl h
    rw [fX7_becomes_L65] at h
    exact tb_none h
  | succ n ih =>
    intro x1 x3 x4 M H locs ls hP hS hl h
    rw [fX7_becomes_L65] at h
    refine lv_iload hx hb dX7_becomes_65 (lv_at hl 3 rfl) ?_
    refine lv_aload_n hx hb dX7_becomes_67 rfl (lv_at hl 0 rfl) ?_
    refine tb_getr F hP tb_l297 (ci := 7) rfl inlX7 14 (by decide) rfl kf_X7_41 dX7_becomes_68 ?_
    refine lv_bipush (v := 46) hx hb dX7_becomes_71 (by decide) ?_
    refine tb_iald F hP tb_l308 (k := 46) (by decide +kernel) (tb_inv (i := 46) (n := 63) (by decide +kernel)) dX7_becomes_73 ?_
    refine lv_icmp_ge (tgt := 113) hx hb dX7_becomes_74 (by decide) (fun c16 => ?_) (fun c16 => ?_)
    · have h := tb_ip c16 h
      exact tb_vret h F hP hS dX7_becomes_113
    · have h := tb_ineg c16 h
      refine lv_aload_n hx hb dX7_becomes_77 rfl (lv_at hl 0 rfl) ?_
      refine tb_getr F hP tb_l297 (ci := 7) rfl inlX7 8 (by decide) rfl kf_X7_25 dX7_becomes_78 ?_
      refine lv_bipush (v := 18) hx hb dX7_becomes_81 (by decide) ?_
      refine lv_iload hx hb dX7_becomes_83 (lv_at hl 3 rfl) ?_
      refine lv_iadd hx hb dX7_becomes_85 ?_
      obtain ⟨k17, h⟩ := tb_cks h
      refine tb_iald F hP tb_l303 rfl (tb_inv k17) dX7_becomes_86 ?_
      refine lv_iload_n hx hb dX7_becomes_87 rfl (lv_at hl 2 rfl) ?_
      refine lv_icmp_ne (tgt := 107) hx hb dX7_becomes_88 (by decide) (fun c18 => ?_) (fun c18 => ?_)
      · have h := tb_ineg c18 h
        refine lv_iinc (v := (x4 + 1)) (lv' := [(4, .int (x4 + 1)), (0, .ref (tb_ad g 297)), (1, .int x1), (3, .int x3)]) hx hb dX7_becomes_107 hl (k := 3) rfl rfl (by decide) rfl (fun ls hl => ?_)
        refine lv_goto (tgt := 65) hx hb dX7_becomes_110 (by decide) ?_
        exact ih x1 x3 (x4 + 1) M _ _ _ hP hS (lv_sub hl [1, 2, 3, 0] rfl) h
      · have h := tb_ip c18 h
        refine lv_iload hx hb dX7_becomes_91 (lv_at hl 3 rfl) ?_
        refine lv_iload_n hx hb dX7_becomes_93 rfl (lv_at hl 1 rfl) ?_
        refine lv_icmp_eq (tgt := 107) hx hb dX7_becomes_94 (by decide) (fun c19 => ?_) (fun c19 => ?_)
        · have h := tb_ip c19 h
          refine lv_iinc (v := (x4 + 1)) (lv' := [(4, .int (x4 + 1)), (0, .ref (tb_ad g 297)), (1, .int x1), (3, .int x3)]) hx hb dX7_becomes_107 hl (k := 3) rfl rfl (by decide) rfl (fun ls hl => ?_)
          refine lv_goto (tgt := 65) hx hb dX7_becomes_110 (by decide) ?_
          exact ih x1 x3 (x4 + 1) M _ _ _ hP hS (lv_sub hl [1, 2, 3, 0] rfl) h
        · have h := tb_ineg c19 h
          refine lv_aload_n hx hb dX7_becomes_97 rfl (lv_at hl 0 rfl) ?_
          refine tb_getr F hP tb_l297 (ci := 7) rfl inlX7 14 (by decide) rfl kf_X7_41 dX7_becomes_98 ?_
          refine lv_iload_n hx hb dX7_becomes_101 rfl (lv_at hl 1 rfl) ?_
          refine lv_iload hx hb dX7_becomes_102 (lv_at hl 3 rfl) ?_
          obtain ⟨M20, e21, h⟩ := tb_b1s h
          refine tb_callS F hP hS hl.1 kX7_exchanges km_X7_162 (as := [.ref (tb_ad g 308), .int x1, .int x4]) (tX7_exchanges g l 308 tb_l308 x1 x4 M M20 e21) ⟨rfl, rfl, Nat.le_of_ble_eq_true rfl, Nat.le_of_ble_eq_true rfl⟩ rfl (rest := []) rfl (st1 := []) rfl (Nat.le_of_ble_eq_true rfl) ⟨Nat.zero_le _, Nat.zero_le _⟩ dX7_becomes_104 (fun H locs hP hS => ?_)
          refine lv_iinc (v := (x4 + 1)) (lv' := [(4, .int (x4 + 1)), (0, .ref (tb_ad g 297)), (1, .int x1), (3, .int x3)]) hx hb dX7_becomes_107 hl (k := 3) rfl rfl (by decide) rfl (fun ls hl => ?_)
          refine lv_goto (tgt := 65) hx hb dX7_becomes_110 (by decide) ?_
          exact ih x1 x3 (x4 + 1) M20 _ _ _ hP hS (lv_sub hl [1, 2, 3, 0] rfl) h
set_option maxHeartbeats 4000000 in
set_option maxRecDepth 100000 in
theorem tX7_becomes (g : tb_GT) (l : Launch) (a1 : Int32) (a2 : Int32) (a3 : Int32) (M M' : tb_Mem) (h : fX7_becomes a1 a2 a3 M = some M') : tb_C g l yX7_becomes (Cond.code yX7_becomes cX7_becomes 5 none) rmX7_becomes [.ref (tb_ad g 297), .int a1, .int a2, .int a3] M M' none := by
  refine tb_entry (by decide) (Nat.le_of_ble_eq_true rfl) ?_
  intro P e s m below meth c F hP hS ls hl
  have F : tb_F g cX7_becomes 5 RX7 none (Cond.code yX7_becomes cX7_becomes 5 none) P s m ([.ref (tb_ad g 297), .int a1, .int a2, .int a3] : List Value).toArray meth c := F
  have hx := F.1.1
  have hb := F.1.2.1
  have hl : lv_has ls 5 [(0, .ref (tb_ad g 297)), (1, .int a1), (2, .int a2), (3, .int a3)] := hl
  unfold fX7_becomes at h
  refine lv_iload_n hx hb dX7_becomes_0 rfl (lv_at hl 2 rfl) ?_
  refine lv_if_ne (tgt := 17) hx hb dX7_becomes_1 (by decide) (fun c1 => ?_) (fun c1 => ?_)
  · have h := tb_ineg c1 h
    refine lv_iload_n hx hb dX7_becomes_17 rfl (lv_at hl 2 rfl) ?_
    refine lv_iconst (v := 1) hx hb dX7_becomes_18 (by decide) ?_
    refine lv_icmp_ne (tgt := 35) hx hb dX7_becomes_19 (by decide) (fun c2 => ?_) (fun c2 => ?_)
    · have h := tb_ineg c2 h
      refine lv_iload_n hx hb dX7_becomes_35 rfl (lv_at hl 2 rfl) ?_
      refine lv_iconst (v := 2) hx hb dX7_becomes_36 (by decide) ?_
      refine lv_icmp_ne (tgt := 62) hx hb dX7_becomes_37 (by decide) (fun c3 => ?_) (fun c3 => ?_)
      · have h := tb_ineg c3 h
        refine lv_iconst (v := 0) hx hb dX7_becomes_62 (by decide) ?_
        refine lv_istore (lv' := [(4, .int 0), (0, .ref (tb_ad g 297)), (1, .int a1), (2, .int a2), (3, .int a3)]) hx hb dX7_becomes_63 hl (by decide) rfl (fun ls hl => ?_)
        exact tX7_becomes_L65 F tb_N a1 a3 0 M _ _ _ hP hS (lv_sub hl [1, 2, 4, 0] rfl) h
      · have h := tb_ip c3 h
        refine lv_aload_n hx hb dX7_becomes_40 rfl (lv_at hl 0 rfl) ?_
        refine tb_getr F hP tb_l297 (ci := 7) rfl inlX7 14 (by decide) rfl kf_X7_41 dX7_becomes_41 ?_
        refine lv_iconst (v := 2) hx hb dX7_becomes_44 (by decide) ?_
        refine lv_iload_n hx hb dX7_becomes_45 rfl (lv_at hl 1 rfl) ?_
        refine lv_iadd hx hb dX7_becomes_46 ?_
        refine lv_iload_n hx hb dX7_becomes_47 rfl (lv_at hl 3 rfl) ?_
        obtain ⟨k4, h⟩ := tb_cks h
        obtain ⟨M5, e6, h⟩ := tb_lets h
        refine tb_iast F hP hS tb_l308 rfl (tb_inv k4) dX7_becomes_48 (fun H locs hP hS => ?_)
        rw [← e6] at hP
        refine lv_aload_n hx hb dX7_becomes_49 rfl (lv_at hl 0 rfl) ?_
        refine tb_getr F hP tb_l297 (ci := 7) rfl inlX7 14 (by decide) rfl kf_X7_41 dX7_becomes_50 ?_
        refine lv_bipush (v := 10) hx hb dX7_becomes_53 (by decide) ?_
        refine lv_iload_n hx hb dX7_becomes_55 rfl (lv_at hl 1 rfl) ?_
        refine lv_iadd hx hb dX7_becomes_56 ?_
        refine lv_iconst (v := 0) hx hb dX7_becomes_57 (by decide) ?_
        obtain ⟨k7, h⟩ := tb_cks h
        obtain ⟨M8, e9, h⟩ := tb_lets h
        refine tb_iast F hP hS tb_l308 rfl (tb_inv k7) dX7_becomes_58 (fun H locs hP hS => ?_)
        rw [← e9] at hP
        refine lv_goto (tgt := 113) hx hb dX7_becomes_59 (by decide) ?_
        exact tb_vret h F hP hS dX7_becomes_113
    · have h := tb_ip c2 h
      refine lv_aload_n hx hb dX7_becomes_22 rfl (lv_at hl 0 rfl) ?_
      refine tb_getr F hP tb_l297 (ci := 7) rfl inlX7 14 (by decide) rfl kf_X7_41 dX7_becomes_23 ?_
      refine lv_bipush (v := 47) hx hb dX7_becomes_26 (by decide) ?_
      refine lv_iload_n hx hb dX7_becomes_28 rfl (lv_at hl 1 rfl) ?_
      refine lv_iadd hx hb dX7_becomes_29 ?_
      refine lv_iload_n hx hb dX7_becomes_30 rfl (lv_at hl 3 rfl) ?_
      obtain ⟨k10, h⟩ := tb_cks h
      obtain ⟨M11, e12, h⟩ := tb_lets h
      refine tb_iast F hP hS tb_l308 rfl (tb_inv k10) dX7_becomes_31 (fun H locs hP hS => ?_)
      rw [← e12] at hP
      refine lv_goto (tgt := 113) hx hb dX7_becomes_32 (by decide) ?_
      exact tb_vret h F hP hS dX7_becomes_113
  · have h := tb_ip c1 h
    refine lv_aload_n hx hb dX7_becomes_4 rfl (lv_at hl 0 rfl) ?_
    refine tb_getr F hP tb_l297 (ci := 7) rfl inlX7 14 (by decide) rfl kf_X7_41 dX7_becomes_5 ?_
    refine lv_bipush (v := 55) hx hb dX7_becomes_8 (by decide) ?_
    refine lv_iload_n hx hb dX7_becomes_10 rfl (lv_at hl 1 rfl) ?_
    refine lv_iadd hx hb dX7_becomes_11 ?_
    refine lv_iload_n hx hb dX7_becomes_12 rfl (lv_at hl 3 rfl) ?_
    obtain ⟨k13, h⟩ := tb_cks h
    obtain ⟨M14, e15, h⟩ := tb_lets h
    refine tb_iast F hP hS tb_l308 rfl (tb_inv k13) dX7_becomes_13 (fun H locs hP hS => ?_)
    rw [← e15] at hP
    refine lv_goto (tgt := 113) hx hb dX7_becomes_14 (by decide) ?_
    exact tb_vret h F hP hS dX7_becomes_113
def fX7_fits_L130 : Nat → Int32 → Int32 → Int32 → Int32 → Int32 → Int32 → Int32 → Int32 → tb_Mem → Option (Int32 × tb_Mem)
  | 0, _, _, _, _, _, _, _, _, _ => none
  | n + 1, x1, x2, x3, x4, x5, x6, x7, x8, M => if x7 < x8 then (tb_b2 (fX7_ends x6 M) (fun r47 M45 => some (r47, M45))) else (tb_b1 (fX7_copies 303 308 M) (fun M48 => tb_b1 (fX7_becomes x1 x5 x8 M48) (fun M50 => tb_b2 (fX7_isSo x1 ((40 * x2) + x3) x4 M50) (fun r54 M52 => tb_let ((x6 ||| ((if r54 = 0 then 0 else (1 <<< (x8 &&& 31))) : Int32)) : Int32) (fun v56 => fX7_fits_L130 n x1 x2 x3 x4 x5 v56 x7 (x8 + 1) M52)))))
def fX7_fits (a1 : Int32) (a2 : Int32) (a3 : Int32) (a4 : Int32) (a5 : Int32) (M : tb_Mem) : Option (Int32 × tb_Mem) :=
  tb_b2 (fX7_isBar a1 M) (fun r3 M1 => if r3 = 0 then (some ((-1000001), M1)) else (tb_b2 (fX7_isRow a2 M1) (fun r7 M5 => if r7 = 0 then (some ((-1000001), M5)) else (tb_b2 (fX7_in a4 1 12 M5) (fun r11 M9 => if r11 = 0 then (some ((-1000001), M9)) else (tb_b2 (fX7_in a5 0 3 M9) (fun r15 M13 => if r15 = 0 then (some ((-1000001), M13)) else (tb_ck (tb_in a2 8) (if 0 ≤ (M13 298 a2.toNatClampNeg) then (tb_b2 (fX7_lies a2 a3 a4 M13) (fun r21 M19 => if r21 = 0 then (tb_b2 (fX7_ends (-1000012) M19) (fun r40 M38 => some (r40, M38))) else (if a5 = 0 then (tb_let (((if 2 ≤ a5 then 0 else 1) : Int32) : Int32) (fun v36 => fX7_fits_L130 tb_N a1 a2 a3 a4 a5 0 5 v36 M19)) else (if a5 = 1 then (tb_let (((if 2 ≤ a5 then 0 else 1) : Int32) : Int32) (fun v33 => fX7_fits_L130 tb_N a1 a2 a3 a4 a5 0 4 v33 M19)) else (if a5 = 2 then (tb_let (((if 2 ≤ a5 then 0 else 1) : Int32) : Int32) (fun v30 => fX7_fits_L130 tb_N a1 a2 a3 a4 a5 0 9 v30 M19)) else (tb_let (((if 2 ≤ a5 then 0 else 1) : Int32) : Int32) (fun v27 => fX7_fits_L130 tb_N a1 a2 a3 a4 a5 0 ((M19 303 46) - 1) v27 M19))))))) else (tb_b2 (fX7_ends (-1000011) M13) (fun r43 M41 => some (r43, M41))))))))))))
abbrev rmX7_fits : Room := { frames := 5, cells := 0, slots := 0, locals := 120 }
set_option maxHeartbeats 4000000 in
set_option maxRecDepth 100000 in
theorem tX7_fits_L130 {g : tb_GT} {l : Launch} {P : Program} {e : Env} {s : State} {m : MethodId} {below : List Frame} {meth : Method} {c : Code} {a1 : Int32} {a2 : Int32} {a3 : Int32} {a4 : Int32} {a5 : Int32} {M' : tb_Mem} {r : Int32} (F : tb_F g cX7_fits 9 RX7 (some .int) (Cond.code yX7_fits cX7_fits 9 (some .int)) P s m ([.ref (tb_ad g 297), .int a1, .int a2, .int a3, .int a4, .int a5] : List Value).toArray meth c) :
    ∀ (n : Nat) (x1 : Int32) (x2 : Int32) (x3 : Int32) (x4 : Int32) (x5 : Int32) (x6 : Int32) (x7 : Int32) (x8 : Int32) (M : tb_Mem) (H : Heap) (locs : List Loc) (ls : Array Slot), tb_P g M H → va_S (tb_A g) s.heap H locs → lv_has ls 9 [(0, .ref (tb_ad g 297)), (1, .int x1), (2, .int x2), (3, .int x3), (4, .int x4), (5, .int x5), (6, .int x6), (7, .int x7), (8, .int x8)] → fX7_fits_L130 n x1 x2 x3 x4 x5 x6 x7 x8 M = some (r, M') → W P l e rmX7_fits s m ([.ref (tb_ad g 297), .int a1, .int a2, .int a3, .int a4, .int a5] : List Value).toArray below meth c H locs 0 0 (MQ below (tb_Q g M' (some (.int r))) ([.ref (tb_ad g 297), .int a1, .int a2, .int a3, .int a4, .int a5] : List Value).toArray s 0 0 (tb_A g)) (F0 m 130 ls []) := by
  have hx := F.1.1
  have hb := F.1.2.1
  intro n
  induction n with
  | zero =>
    intro x1 x2 x3 x4 x5 x6 x7 x8 M H locs ls hP hS hl h
    rw [fX7_fits_L130] at h
    exact tb_none h
  | succ n ih =>
    intro x1 x2 x3 x4 x5 x6 x7 x8 M H locs ls hP hS hl h
    rw [fX7_fits_L130] at h
    refine lv_iload hx hb dX7_fits_130 (lv_at hl 8 rfl) ?_
    refine lv_iload hx hb dX7_fits_132 (lv_at hl 7 rfl) ?_
    refine lv_icmp_gt (tgt := 192) hx hb dX7_fits_134 (by decide) (fun c44 => ?_) (fun c44 => ?_)
    · have h := tb_ip c44 h
      refine lv_aload_n hx hb dX7_fits_192 rfl (lv_at hl 0 rfl) ?_
      refine lv_iload hx hb dX7_fits_193 (lv_at hl 6 rfl) ?_
      obtain ⟨r47, M45, e46, h⟩ := tb_b2s h
      refine tb_callV F hP hS hl.1 kX7_ends km_X7_64 (as := [.int x6]) (tX7_ends g l x6 M M45 r47 e46) tb_l297 ⟨rfl, rfl, Nat.le_of_ble_eq_true rfl, Nat.le_of_ble_eq_true rfl⟩ rfl (rest := []) rfl (st1 := [.int r47]) rfl (Nat.le_of_ble_eq_true rfl) ⟨Nat.zero_le _, Nat.zero_le _⟩ dX7_fits_195 (fun H locs hP hS => ?_)
      exact tb_iret h F hP hS dX7_fits_198
    · have h := tb_ineg c44 h
      refine lv_aload_n hx hb dX7_fits_137 rfl (lv_at hl 0 rfl) ?_
      refine tb_getr F hP tb_l297 (ci := 7) rfl inlX7 8 (by decide) rfl kf_X7_25 dX7_fits_138 ?_
      refine lv_aload_n hx hb dX7_fits_141 rfl (lv_at hl 0 rfl) ?_
      refine tb_getr F hP tb_l297 (ci := 7) rfl inlX7 14 (by decide) rfl kf_X7_41 dX7_fits_142 ?_
      obtain ⟨M48, e49, h⟩ := tb_b1s h
      refine tb_callS F hP hS hl.1 kX7_copies km_X7_167 (as := [.ref (tb_ad g 303), .ref (tb_ad g 308)]) (tX7_copies g l 303 308 tb_l303 tb_l308 M M48 e49) ⟨rfl, rfl, Nat.le_of_ble_eq_true rfl, Nat.le_of_ble_eq_true rfl⟩ rfl (rest := []) rfl (st1 := []) rfl (Nat.le_of_ble_eq_true rfl) ⟨Nat.zero_le _, Nat.zero_le _⟩ dX7_fits_145 (fun H locs hP hS => ?_)
      refine lv_aload_n hx hb dX7_fits_148 rfl (lv_at hl 0 rfl) ?_
      refine lv_iload_n hx hb dX7_fits_149 rfl (lv_at hl 1 rfl) ?_
      refine lv_iload hx hb dX7_fits_150 (lv_at hl 5 rfl) ?_
      refine lv_iload hx hb dX7_fits_152 (lv_at hl 8 rfl) ?_
      obtain ⟨M50, e51, h⟩ := tb_b1s h
      refine tb_callV F hP hS hl.1 kX7_becomes km_X7_182 (as := [.int x1, .int x5, .int x8]) (tX7_becomes g l x1 x5 x8 M48 M50 e51) tb_l297 ⟨rfl, rfl, Nat.le_of_ble_eq_true rfl, Nat.le_of_ble_eq_true rfl⟩ rfl (rest := []) rfl (st1 := []) rfl (Nat.le_of_ble_eq_true rfl) ⟨Nat.zero_le _, Nat.zero_le _⟩ dX7_fits_154 (fun H locs hP hS => ?_)
      refine lv_iload hx hb dX7_fits_157 (lv_at hl 6 rfl) ?_
      refine lv_aload_n hx hb dX7_fits_159 rfl (lv_at hl 0 rfl) ?_
      refine lv_iload_n hx hb dX7_fits_160 rfl (lv_at hl 1 rfl) ?_
      refine lv_bipush (v := 40) hx hb dX7_fits_161 (by decide) ?_
      refine lv_iload_n hx hb dX7_fits_163 rfl (lv_at hl 2 rfl) ?_
      refine lv_imul hx hb dX7_fits_164 ?_
      refine lv_iload_n hx hb dX7_fits_165 rfl (lv_at hl 3 rfl) ?_
      refine lv_iadd hx hb dX7_fits_166 ?_
      refine lv_iload hx hb dX7_fits_167 (lv_at hl 4 rfl) ?_
      obtain ⟨r54, M52, e53, h⟩ := tb_b2s h
      refine tb_callV F hP hS hl.1 kX7_isSo km_X7_186 (as := [.int x1, .int ((40 * x2) + x3), .int x4]) (tX7_isSo g l x1 ((40 * x2) + x3) x4 M50 M52 r54 e53) tb_l297 ⟨rfl, rfl, Nat.le_of_ble_eq_true rfl, Nat.le_of_ble_eq_true rfl⟩ rfl (rest := [.int x6]) rfl (st1 := [.int r54, .int x6]) rfl (Nat.le_of_ble_eq_true rfl) ⟨Nat.zero_le _, Nat.zero_le _⟩ dX7_fits_169 (fun H locs hP hS => ?_)
      refine tb_mrg (g2 := F0 m 183 ls [.int ((if r54 = 0 then 0 else (1 <<< (x8 &&& 31))) : Int32), .int x6]) (fun hJ => ?_) ?_
      · refine lv_if_eq (tgt := 182) hx hb dX7_fits_172 (by decide) (fun c55 => ?_) (fun c55 => ?_)
        · refine lv_iconst (v := 0) hx hb dX7_fits_182 (by decide) ?_
          rw [if_pos c55] at hJ
          exact hJ
        · refine lv_iconst (v := 1) hx hb dX7_fits_175 (by decide) ?_
          refine lv_iload hx hb dX7_fits_176 (lv_at hl 8 rfl) ?_
          refine lv_ishl hx hb dX7_fits_178 ?_
          refine lv_goto (tgt := 183) hx hb dX7_fits_179 (by decide) ?_
          rw [if_neg c55] at hJ
          exact hJ
      refine lv_ior hx hb dX7_fits_183 ?_
      obtain ⟨v56, e57, h⟩ := tb_lets h
      refine tb_nmi e57 ?_
      refine lv_istore (lv' := [(6, .int v56), (0, .ref (tb_ad g 297)), (1, .int x1), (2, .int x2), (3, .int x3), (4, .int x4), (5, .int x5), (7, .int x7), (8, .int x8)]) hx hb dX7_fits_184 hl (by decide) rfl (fun ls hl => ?_)
      refine lv_iinc (v := (x8 + 1)) (lv' := [(8, .int (x8 + 1)), (6, .int v56), (0, .ref (tb_ad g 297)), (1, .int x1), (2, .int x2), (3, .int x3), (4, .int x4), (5, .int x5), (7, .int x7)]) hx hb dX7_fits_186 hl (k := 8) rfl rfl (by decide) rfl (fun ls hl => ?_)
      refine lv_goto (tgt := 130) hx hb dX7_fits_189 (by decide) ?_
      exact ih x1 x2 x3 x4 x5 v56 x7 (x8 + 1) M52 _ _ _ hP hS (lv_sub hl [2, 3, 4, 5, 6, 7, 1, 8, 0] rfl) h
set_option maxHeartbeats 4000000 in
set_option maxRecDepth 100000 in
theorem tX7_fits (g : tb_GT) (l : Launch) (a1 : Int32) (a2 : Int32) (a3 : Int32) (a4 : Int32) (a5 : Int32) (M M' : tb_Mem) (r : Int32) (h : fX7_fits a1 a2 a3 a4 a5 M = some (r, M')) : tb_C g l yX7_fits (Cond.code yX7_fits cX7_fits 9 (some .int)) rmX7_fits [.ref (tb_ad g 297), .int a1, .int a2, .int a3, .int a4, .int a5] M M' (some (.int r)) := by
  refine tb_entry (by decide) (Nat.le_of_ble_eq_true rfl) ?_
  intro P e s m below meth c F hP hS ls hl
  have F : tb_F g cX7_fits 9 RX7 (some .int) (Cond.code yX7_fits cX7_fits 9 (some .int)) P s m ([.ref (tb_ad g 297), .int a1, .int a2, .int a3, .int a4, .int a5] : List Value).toArray meth c := F
  have hx := F.1.1
  have hb := F.1.2.1
  have hl : lv_has ls 9 [(0, .ref (tb_ad g 297)), (1, .int a1), (2, .int a2), (3, .int a3), (4, .int a4), (5, .int a5)] := hl
  unfold fX7_fits at h
  refine lv_aload_n hx hb dX7_fits_0 rfl (lv_at hl 0 rfl) ?_
  refine lv_iload_n hx hb dX7_fits_1 rfl (lv_at hl 1 rfl) ?_
  obtain ⟨r3, M1, e2, h⟩ := tb_b2s h
  refine tb_callV F hP hS hl.1 kX7_isBar km_X7_145 (as := [.int a1]) (tX7_isBar g l a1 M M1 r3 e2) tb_l297 ⟨rfl, rfl, Nat.le_of_ble_eq_true rfl, Nat.le_of_ble_eq_true rfl⟩ rfl (rest := []) rfl (st1 := [.int r3]) rfl (Nat.le_of_ble_eq_true rfl) ⟨Nat.zero_le _, Nat.zero_le _⟩ dX7_fits_2 (fun H locs hP hS => ?_)
  refine lv_if_eq (tgt := 36) hx hb dX7_fits_5 (by decide) (fun c4 => ?_) (fun c4 => ?_)
  · have h := tb_ip c4 h
    refine lv_ldc (v := (-1000001)) hx hb F.1.2.2.2.1 (tb_hts F kc_X7_62) dX7_fits_36 ?_
    exact tb_iret h F hP hS dX7_fits_38
  · have h := tb_ineg c4 h
    refine lv_iload_n hx hb dX7_fits_8 rfl (lv_at hl 2 rfl) ?_
    obtain ⟨r7, M5, e6, h⟩ := tb_b2s h
    refine tb_callS F hP hS hl.1 kX7_isRow km_X7_58 (as := [.int a2]) (tX7_isRow g l a2 M1 M5 r7 e6) ⟨rfl, rfl, Nat.le_of_ble_eq_true rfl, Nat.le_of_ble_eq_true rfl⟩ rfl (rest := []) rfl (st1 := [.int r7]) rfl (Nat.le_of_ble_eq_true rfl) ⟨Nat.zero_le _, Nat.zero_le _⟩ dX7_fits_9 (fun H locs hP hS => ?_)
    refine lv_if_eq (tgt := 36) hx hb dX7_fits_12 (by decide) (fun c8 => ?_) (fun c8 => ?_)
    · have h := tb_ip c8 h
      refine lv_ldc (v := (-1000001)) hx hb F.1.2.2.2.1 (tb_hts F kc_X7_62) dX7_fits_36 ?_
      exact tb_iret h F hP hS dX7_fits_38
    · have h := tb_ineg c8 h
      refine lv_iload hx hb dX7_fits_15 (lv_at hl 4 rfl) ?_
      refine lv_iconst (v := 1) hx hb dX7_fits_17 (by decide) ?_
      refine lv_bipush (v := 12) hx hb dX7_fits_18 (by decide) ?_
      obtain ⟨r11, M9, e10, h⟩ := tb_b2s h
      refine tb_callS F hP hS hl.1 kX7_in km_X7_47 (as := [.int a4, .int 1, .int 12]) (tX7_in g l a4 1 12 M5 M9 r11 e10) ⟨rfl, rfl, Nat.le_of_ble_eq_true rfl, Nat.le_of_ble_eq_true rfl⟩ rfl (rest := []) rfl (st1 := [.int r11]) rfl (Nat.le_of_ble_eq_true rfl) ⟨Nat.zero_le _, Nat.zero_le _⟩ dX7_fits_20 (fun H locs hP hS => ?_)
      refine lv_if_eq (tgt := 36) hx hb dX7_fits_23 (by decide) (fun c12 => ?_) (fun c12 => ?_)
      · have h := tb_ip c12 h
        refine lv_ldc (v := (-1000001)) hx hb F.1.2.2.2.1 (tb_hts F kc_X7_62) dX7_fits_36 ?_
        exact tb_iret h F hP hS dX7_fits_38
      · have h := tb_ineg c12 h
        refine lv_iload hx hb dX7_fits_26 (lv_at hl 5 rfl) ?_
        refine lv_iconst (v := 0) hx hb dX7_fits_28 (by decide) ?_
        refine lv_iconst (v := 3) hx hb dX7_fits_29 (by decide) ?_
        obtain ⟨r15, M13, e14, h⟩ := tb_b2s h
        refine tb_callS F hP hS hl.1 kX7_in km_X7_47 (as := [.int a5, .int 0, .int 3]) (tX7_in g l a5 0 3 M9 M13 r15 e14) ⟨rfl, rfl, Nat.le_of_ble_eq_true rfl, Nat.le_of_ble_eq_true rfl⟩ rfl (rest := []) rfl (st1 := [.int r15]) rfl (Nat.le_of_ble_eq_true rfl) ⟨Nat.zero_le _, Nat.zero_le _⟩ dX7_fits_30 (fun H locs hP hS => ?_)
        refine lv_if_ne (tgt := 39) hx hb dX7_fits_33 (by decide) (fun c16 => ?_) (fun c16 => ?_)
        · have h := tb_ineg c16 h
          refine lv_aload_n hx hb dX7_fits_39 rfl (lv_at hl 0 rfl) ?_
          refine tb_getr F hP tb_l297 (ci := 7) rfl inlX7 0 (by decide) rfl kf_X7_7 dX7_fits_40 ?_
          refine lv_iload_n hx hb dX7_fits_43 rfl (lv_at hl 2 rfl) ?_
          obtain ⟨k17, h⟩ := tb_cks h
          refine tb_iald F hP tb_l298 rfl (tb_inv k17) dX7_fits_44 ?_
          refine lv_if_ge (tgt := 55) hx hb dX7_fits_45 (by decide) (fun c18 => ?_) (fun c18 => ?_)
          · have h := tb_ip c18 h
            refine lv_aload_n hx hb dX7_fits_55 rfl (lv_at hl 0 rfl) ?_
            refine lv_iload_n hx hb dX7_fits_56 rfl (lv_at hl 2 rfl) ?_
            refine lv_iload_n hx hb dX7_fits_57 rfl (lv_at hl 3 rfl) ?_
            refine lv_iload hx hb dX7_fits_58 (lv_at hl 4 rfl) ?_
            obtain ⟨r21, M19, e20, h⟩ := tb_b2s h
            refine tb_callV F hP hS hl.1 kX7_lies km_X7_68 (as := [.int a2, .int a3, .int a4]) (tX7_lies g l a2 a3 a4 M13 M19 r21 e20) tb_l297 ⟨rfl, rfl, Nat.le_of_ble_eq_true rfl, Nat.le_of_ble_eq_true rfl⟩ rfl (rest := []) rfl (st1 := [.int r21]) rfl (Nat.le_of_ble_eq_true rfl) ⟨Nat.zero_le _, Nat.zero_le _⟩ dX7_fits_60 (fun H locs hP hS => ?_)
            refine lv_if_ne (tgt := 73) hx hb dX7_fits_63 (by decide) (fun c22 => ?_) (fun c22 => ?_)
            · have h := tb_ineg c22 h
              refine lv_iconst (v := 0) hx hb dX7_fits_73 (by decide) ?_
              refine lv_istore (lv' := [(6, .int 0), (0, .ref (tb_ad g 297)), (1, .int a1), (2, .int a2), (3, .int a3), (4, .int a4), (5, .int a5)]) hx hb dX7_fits_74 hl (by decide) rfl (fun ls hl => ?_)
              refine lv_iload hx hb dX7_fits_76 (lv_at hl 6 rfl) ?_
              refine lv_if_ne (tgt := 85) hx hb dX7_fits_78 (by decide) (fun c23 => ?_) (fun c23 => ?_)
              · have h := tb_ineg c23 h
                refine lv_iload hx hb dX7_fits_85 (lv_at hl 6 rfl) ?_
                refine lv_iconst (v := 1) hx hb dX7_fits_87 (by decide) ?_
                refine lv_icmp_ne (tgt := 95) hx hb dX7_fits_88 (by decide) (fun c24 => ?_) (fun c24 => ?_)
                · have h := tb_ineg c24 h
                  refine lv_iload hx hb dX7_fits_95 (lv_at hl 6 rfl) ?_
                  refine lv_iconst (v := 2) hx hb dX7_fits_97 (by decide) ?_
                  refine lv_icmp_ne (tgt := 106) hx hb dX7_fits_98 (by decide) (fun c25 => ?_) (fun c25 => ?_)
                  · have h := tb_ineg c25 h
                    refine lv_aload_n hx hb dX7_fits_106 rfl (lv_at hl 1 rfl) ?_
                    refine tb_getr F hP tb_l297 (ci := 7) rfl inlX7 8 (by decide) rfl kf_X7_25 dX7_fits_107 ?_
                    refine lv_bipush (v := 46) hx hb dX7_fits_110 (by decide) ?_
                    refine tb_iald F hP tb_l303 (k := 46) (by decide +kernel) (tb_inv (i := 46) (n := 63) (by decide +kernel)) dX7_fits_112 ?_
                    refine lv_iconst (v := 1) hx hb dX7_fits_113 (by decide) ?_
                    refine lv_isub hx hb dX7_fits_114 ?_
                    refine lv_istore (lv' := [(7, .int ((M19 303 46) - 1)), (6, .int 0), (0, .ref (tb_ad g 297)), (1, .int a1), (2, .int a2), (3, .int a3), (4, .int a4), (5, .int a5)]) hx hb dX7_fits_115 hl (by decide) rfl (fun ls hl => ?_)
                    refine lv_iload hx hb dX7_fits_117 (lv_at hl 7 rfl) ?_
                    refine lv_iconst (v := 2) hx hb dX7_fits_119 (by decide) ?_
                    refine tb_mrg (g2 := F0 m 128 ls [.int ((if 2 ≤ a5 then 0 else 1) : Int32)]) (fun hJ => ?_) ?_
                    · refine lv_icmp_ge (tgt := 127) hx hb dX7_fits_120 (by decide) (fun c26 => ?_) (fun c26 => ?_)
                      · refine lv_iconst (v := 0) hx hb dX7_fits_127 (by decide) ?_
                        rw [if_pos c26] at hJ
                        exact hJ
                      · refine lv_iconst (v := 1) hx hb dX7_fits_123 (by decide) ?_
                        refine lv_goto (tgt := 128) hx hb dX7_fits_124 (by decide) ?_
                        rw [if_neg c26] at hJ
                        exact hJ
                    obtain ⟨v27, e28, h⟩ := tb_lets h
                    refine tb_nmi e28 ?_
                    refine lv_istore (lv' := [(8, .int v27), (7, .int ((M19 303 46) - 1)), (6, .int 0), (0, .ref (tb_ad g 297)), (1, .int a1), (2, .int a2), (3, .int a3), (4, .int a4), (5, .int a5)]) hx hb dX7_fits_128 hl (by decide) rfl (fun ls hl => ?_)
                    exact tX7_fits_L130 F tb_N a1 a2 a3 a4 a5 0 ((M19 303 46) - 1) v27 M19 _ _ _ hP hS (lv_sub hl [3, 4, 5, 6, 7, 8, 2, 1, 0] rfl) h
                  · have h := tb_ip c25 h
                    refine lv_bipush (v := 9) hx hb dX7_fits_101 (by decide) ?_
                    refine lv_goto (tgt := 115) hx hb dX7_fits_103 (by decide) ?_
                    refine lv_istore (lv' := [(7, .int 9), (6, .int 0), (0, .ref (tb_ad g 297)), (1, .int a1), (2, .int a2), (3, .int a3), (4, .int a4), (5, .int a5)]) hx hb dX7_fits_115 hl (by decide) rfl (fun ls hl => ?_)
                    refine lv_iload hx hb dX7_fits_117 (lv_at hl 7 rfl) ?_
                    refine lv_iconst (v := 2) hx hb dX7_fits_119 (by decide) ?_
                    refine tb_mrg (g2 := F0 m 128 ls [.int ((if 2 ≤ a5 then 0 else 1) : Int32)]) (fun hJ => ?_) ?_
                    · refine lv_icmp_ge (tgt := 127) hx hb dX7_fits_120 (by decide) (fun c29 => ?_) (fun c29 => ?_)
                      · refine lv_iconst (v := 0) hx hb dX7_fits_127 (by decide) ?_
                        rw [if_pos c29] at hJ
                        exact hJ
                      · refine lv_iconst (v := 1) hx hb dX7_fits_123 (by decide) ?_
                        refine lv_goto (tgt := 128) hx hb dX7_fits_124 (by decide) ?_
                        rw [if_neg c29] at hJ
                        exact hJ
                    obtain ⟨v30, e31, h⟩ := tb_lets h
                    refine tb_nmi e31 ?_
                    refine lv_istore (lv' := [(8, .int v30), (7, .int 9), (6, .int 0), (0, .ref (tb_ad g 297)), (1, .int a1), (2, .int a2), (3, .int a3), (4, .int a4), (5, .int a5)]) hx hb dX7_fits_128 hl (by decide) rfl (fun ls hl => ?_)
                    exact tX7_fits_L130 F tb_N a1 a2 a3 a4 a5 0 9 v30 M19 _ _ _ hP hS (lv_sub hl [3, 4, 5, 6, 7, 8, 2, 1, 0] rfl) h
                · have h := tb_ip c24 h
                  refine lv_iconst (v := 4) hx hb dX7_fits_91 (by decide) ?_
                  refine lv_goto (tgt := 115) hx hb dX7_fits_92 (by decide) ?_
                  refine lv_istore (lv' := [(7, .int 4), (6, .int 0), (0, .ref (tb_ad g 297)), (1, .int a1), (2, .int a2), (3, .int a3), (4, .int a4), (5, .int a5)]) hx hb dX7_fits_115 hl (by decide) rfl (fun ls hl => ?_)
                  refine lv_iload hx hb dX7_fits_117 (lv_at hl 7 rfl) ?_
                  refine lv_iconst (v := 2) hx hb dX7_fits_119 (by decide) ?_
                  refine tb_mrg (g2 := F0 m 128 ls [.int ((if 2 ≤ a5 then 0 else 1) : Int32)]) (fun hJ => ?_) ?_
                  · refine lv_icmp_ge (tgt := 127) hx hb dX7_fits_120 (by decide) (fun c32 => ?_) (fun c32 => ?_)
                    · refine lv_iconst (v := 0) hx hb dX7_fits_127 (by decide) ?_
                      rw [if_pos c32] at hJ
                      exact hJ
                    · refine lv_iconst (v := 1) hx hb dX7_fits_123 (by decide) ?_
                      refine lv_goto (tgt := 128) hx hb dX7_fits_124 (by decide) ?_
                      rw [if_neg c32] at hJ
                      exact hJ
                  obtain ⟨v33, e34, h⟩ := tb_lets h
                  refine tb_nmi e34 ?_
                  refine lv_istore (lv' := [(8, .int v33), (7, .int 4), (6, .int 0), (0, .ref (tb_ad g 297)), (1, .int a1), (2, .int a2), (3, .int a3), (4, .int a4), (5, .int a5)]) hx hb dX7_fits_128 hl (by decide) rfl (fun ls hl => ?_)
                  exact tX7_fits_L130 F tb_N a1 a2 a3 a4 a5 0 4 v33 M19 _ _ _ hP hS (lv_sub hl [3, 4, 5, 6, 7, 8, 2, 1, 0] rfl) h
              · have h := tb_ip c23 h
                refine lv_iconst (v := 5) hx hb dX7_fits_81 (by decide) ?_
                refine lv_goto (tgt := 115) hx hb dX7_fits_82 (by decide) ?_
                refine lv_istore (lv' := [(7, .int 5), (6, .int 0), (0, .ref (tb_ad g 297)), (1, .int a1), (2, .int a2), (3, .int a3), (4, .int a4), (5, .int a5)]) hx hb dX7_fits_115 hl (by decide) rfl (fun ls hl => ?_)
                refine lv_iload hx hb dX7_fits_117 (lv_at hl 7 rfl) ?_
                refine lv_iconst (v := 2) hx hb dX7_fits_119 (by decide) ?_
                refine tb_mrg (g2 := F0 m 128 ls [.int ((if 2 ≤ a5 then 0 else 1) : Int32)]) (fun hJ => ?_) ?_
                · refine lv_icmp_ge (tgt := 127) hx hb dX7_fits_120 (by decide) (fun c35 => ?_) (fun c35 => ?_)
                  · refine lv_iconst (v := 0) hx hb dX7_fits_127 (by decide) ?_
                    rw [if_pos c35] at hJ
                    exact hJ
                  · refine lv_iconst (v := 1) hx hb dX7_fits_123 (by decide) ?_
                    refine lv_goto (tgt := 128) hx hb dX7_fits_124 (by decide) ?_
                    rw [if_neg c35] at hJ
                    exact hJ
                obtain ⟨v36, e37, h⟩ := tb_lets h
                refine tb_nmi e37 ?_
                refine lv_istore (lv' := [(8, .int v36), (7, .int 5), (6, .int 0), (0, .ref (tb_ad g 297)), (1, .int a1), (2, .int a2), (3, .int a3), (4, .int a4), (5, .int a5)]) hx hb dX7_fits_128 hl (by decide) rfl (fun ls hl => ?_)
                exact tX7_fits_L130 F tb_N a1 a2 a3 a4 a5 0 5 v36 M19 _ _ _ hP hS (lv_sub hl [3, 4, 5, 6, 7, 8, 2, 1, 0] rfl) h
            · have h := tb_ip c22 h
              refine lv_aload_n hx hb dX7_fits_66 rfl (lv_at hl 0 rfl) ?_
              refine lv_ldc (v := (-1000012)) hx hb F.1.2.2.2.1 (tb_hts F kc_X7_71) dX7_fits_67 ?_
              obtain ⟨r40, M38, e39, h⟩ := tb_b2s h
              refine tb_callV F hP hS hl.1 kX7_ends km_X7_64 (as := [.int (-1000012)]) (tX7_ends g l (-1000012) M19 M38 r40 e39) tb_l297 ⟨rfl, rfl, Nat.le_of_ble_eq_true rfl, Nat.le_of_ble_eq_true rfl⟩ rfl (rest := []) rfl (st1 := [.int r40]) rfl (Nat.le_of_ble_eq_true rfl) ⟨Nat.zero_le _, Nat.zero_le _⟩ dX7_fits_69 (fun H locs hP hS => ?_)
              exact tb_iret h F hP hS dX7_fits_72
          · have h := tb_ineg c18 h
            refine lv_aload_n hx hb dX7_fits_48 rfl (lv_at hl 0 rfl) ?_
            refine lv_ldc (v := (-1000011)) hx hb F.1.2.2.2.1 (tb_hts F kc_X7_52) dX7_fits_49 ?_
            obtain ⟨r43, M41, e42, h⟩ := tb_b2s h
            refine tb_callV F hP hS hl.1 kX7_ends km_X7_64 (as := [.int (-1000011)]) (tX7_ends g l (-1000011) M13 M41 r43 e42) tb_l297 ⟨rfl, rfl, Nat.le_of_ble_eq_true rfl, Nat.le_of_ble_eq_true rfl⟩ rfl (rest := []) rfl (st1 := [.int r43]) rfl (Nat.le_of_ble_eq_true rfl) ⟨Nat.zero_le _, Nat.zero_le _⟩ dX7_fits_51 (fun H locs hP hS => ?_)
            exact tb_iret h F hP hS dX7_fits_54
        · have h := tb_ip c16 h
          refine lv_ldc (v := (-1000001)) hx hb F.1.2.2.2.1 (tb_hts F kc_X7_62) dX7_fits_36 ?_
          exact tb_iret h F hP hS dX7_fits_38
def fX7_chance_L288 : Nat → Int32 → Int32 → Int32 → Int32 → Int32 → tb_Mem → Option (Int32 × tb_Mem)
  | 0, _, _, _, _, _, _ => none
  | n + 1, x3, x5, x6, x7, x8, M => if x8 ≤ 0 then (if x3 = 0 then (tb_ck (x7 != 0) (some ((x5 / x7), M))) else (tb_ck (x7 != 0) (some ((x6 / x7), M)))) else (tb_ck (x8 != 0) (fX7_chance_L288 n x3 x5 x6 x8 (x7 - x7 / x8 * x8) M))
def fX7_chance_L233 (K102 : Int32 → Int32 → Int32 → Int32 → Int32 → Int32 → Int32 → tb_Mem → Option (Int32 × tb_Mem)) : Nat → Int32 → Int32 → Int32 → Int32 → Int32 → Int32 → Int32 → Int32 → Int32 → tb_Mem → Option (Int32 × tb_Mem)
  | 0, _, _, _, _, _, _, _, _, _, _ => none
  | n + 1, x1, x2, x3, x4, x5, x6, x7, x8, x9, M => if x1 ≤ x9 then (tb_b2 (fX7_hanging 308 M) (fun r65 M63 => tb_let ((x5 + ((if r65 = 0 then x8 else 0) : Int32)) : Int32) (fun v67 => K102 x1 x2 x3 x4 v67 x6 (x7 + 1) M63))) else (tb_b2 (fX7_tick 308 M) (fun r71 M69 => fX7_chance_L233 K102 n x1 x2 x3 x4 x5 x6 x7 x8 (x9 + 1) M69))
def fX7_chance_L143 (K102 : Int32 → Int32 → Int32 → Int32 → Int32 → Int32 → Int32 → tb_Mem → Option (Int32 × tb_Mem)) : Nat → Int32 → Int32 → Int32 → Int32 → Int32 → Int32 → Int32 → Int32 → Int32 → tb_Mem → Option (Int32 × tb_Mem)
  | 0, _, _, _, _, _, _, _, _, _, _ => none
  | n + 1, x1, x2, x3, x4, x5, x6, x7, x8, x9, M => if (M 303 46) ≤ x9 then (fX7_chance_L233 K102 tb_N x1 x2 x3 x4 x5 x6 x7 x8 0 M) else (tb_b2 (fX7_has x4 x9 M) (fun r34 M32 => if r34 = 0 then (tb_b2 (fX7_has x7 x9 M32) (fun r54 M52 => if r54 = 0 then (tb_ck (tb_in (2 + x9) 63) (tb_let (tb_up M52 308 ((2 + x9).toNatClampNeg) (M52 308 (2 + x9).toNatClampNeg)) (fun M57 => fX7_chance_L143 K102 n x1 x2 x3 x4 x5 x6 x7 (x8 * 1) (x9 + 1) M57))) else (tb_ck (tb_in (2 + x9) 63) (tb_let (tb_up M52 308 ((2 + x9).toNatClampNeg) (-1)) (fun M60 => fX7_chance_L143 K102 n x1 x2 x3 x4 x5 x6 x7 (x8 * 1) (x9 + 1) M60))))) else (tb_b2 (fX7_has x7 x9 M32) (fun r38 M36 => tb_let ((x8 * ((if r38 = 0 then (10 - x2) else x2) : Int32)) : Int32) (fun v40 => tb_b2 (fX7_has x7 x9 M36) (fun r44 M42 => if r44 = 0 then (tb_ck (tb_in (2 + x9) 63) (tb_let (tb_up M42 308 ((2 + x9).toNatClampNeg) (M42 308 (2 + x9).toNatClampNeg)) (fun M47 => fX7_chance_L143 K102 n x1 x2 x3 x4 x5 x6 x7 v40 (x9 + 1) M47))) else (tb_ck (tb_in (2 + x9) 63) (tb_let (tb_up M42 308 ((2 + x9).toNatClampNeg) (-1)) (fun M50 => fX7_chance_L143 K102 n x1 x2 x3 x4 x5 x6 x7 v40 (x9 + 1) M50)))))))))
def fX7_chance_L102 : Nat → Int32 → Int32 → Int32 → Int32 → Int32 → Int32 → Int32 → tb_Mem → Option (Int32 × tb_Mem)
  | 0, _, _, _, _, _, _, _, _ => none
  | n + 1, x1, x2, x3, x4, x5, x6, x7, M => if (1 <<< ((M 303 46) &&& 31)) ≤ x7 then (fX7_chance_L288 tb_N x3 x5 x6 x5 x6 M) else (if (x7 &&& (x4 ^^^ (-1))) = 0 then (tb_b1 (fX7_copies 303 308 M) (fun M29 => fX7_chance_L143 (fun z1 z2 z3 z4 z5 z6 z7 M => fX7_chance_L102 n z1 z2 z3 z4 z5 z6 z7 M) tb_N x1 x2 x3 x4 x5 x6 x7 1 0 M29)) else (fX7_chance_L102 n x1 x2 x3 x4 x5 x6 (x7 + 1) M))
def fX7_chance_L60 : Nat → Int32 → Int32 → Int32 → Int32 → Int32 → Int32 → Int32 → tb_Mem → Option (Int32 × tb_Mem)
  | 0, _, _, _, _, _, _, _, _ => none
  | n + 1, x1, x2, x3, x4, x5, x6, x7, M => if (M 303 46) ≤ x7 then (fX7_chance_L102 tb_N x1 x2 x3 x4 x5 x6 0 M) else (tb_b2 (fX7_has x4 x7 M) (fun r23 M21 => tb_let ((x6 * ((if r23 = 0 then 1 else 10) : Int32)) : Int32) (fun v25 => fX7_chance_L60 n x1 x2 x3 x4 x5 v25 (x7 + 1) M21)))
def fX7_chance (a1 : Int32) (a2 : Int32) (a3 : Int32) (M : tb_Mem) : Option (Int32 × tb_Mem) :=
  tb_b2 (fX7_isBasket M) (fun r3 M1 => if r3 = 0 then (some ((-1000002), M1)) else (tb_b2 (fX7_in a1 0 60 M1) (fun r7 M5 => if r7 = 0 then (some ((-1000001), M5)) else (tb_b2 (fX7_in a2 0 10 M5) (fun r11 M9 => if r11 = 0 then (some ((-1000001), M9)) else (tb_b2 (fX7_in a3 0 1 M9) (fun r15 M13 => if r15 = 0 then (some ((-1000001), M13)) else (tb_b2 (fX7_moving 303 M13) (fun r19 M17 => fX7_chance_L60 tb_N a1 a2 a3 r19 0 1 0 M17)))))))))
abbrev rmX7_chance : Room := { frames := 4, cells := 0, slots := 0, locals := 95 }
set_option maxHeartbeats 4000000 in
set_option maxRecDepth 100000 in
theorem tX7_chance_L288 {g : tb_GT} {l : Launch} {P : Program} {e : Env} {s : State} {m : MethodId} {below : List Frame} {meth : Method} {c : Code} {a1 : Int32} {a2 : Int32} {a3 : Int32} {M' : tb_Mem} {r : Int32} (F : tb_F g cX7_chance 10 RX7 (some .int) (Cond.code yX7_chance cX7_chance 10 (some .int)) P s m ([.ref (tb_ad g 297), .int a1, .int a2, .int a3] : List Value).toArray meth c) :
    ∀ (n : Nat) (x3 : Int32) (x5 : Int32) (x6 : Int32) (x7 : Int32) (x8 : Int32) (M : tb_Mem) (H : Heap) (locs : List Loc) (ls : Array Slot), tb_P g M H → va_S (tb_A g) s.heap H locs → lv_has ls 10 [(3, .int x3), (5, .int x5), (6, .int x6), (7, .int x7), (8, .int x8)] → fX7_chance_L288 n x3 x5 x6 x7 x8 M = some (r, M') → W P l e rmX7_chance s m ([.ref (tb_ad g 297), .int a1, .int a2, .int a3] : List Value).toArray below meth c H locs 0 0 (MQ below (tb_Q g M' (some (.int r))) ([.ref (tb_ad g 297), .int a1, .int a2, .int a3] : List Value).toArray s 0 0 (tb_A g)) (F0 m 288 ls []) := by
  have hx := F.1.1
  have hb := F.1.2.1
  intro n
  induction n with
  | zero =>
    intro x3 x5 x6 x7 x8 M H locs ls hP hS hl h
    rw [fX7_chance_L288] at h
    exact tb_none h
  | succ n ih =>
    intro x3 x5 x6 x7 x8 M H locs ls hP hS hl h
    rw [fX7_chance_L288] at h
    refine lv_iload hx hb dX7_chance_288 (lv_at hl 4 rfl) ?_
    refine lv_if_le (tgt := 311) hx hb dX7_chance_290 (by decide) (fun c72 => ?_) (fun c72 => ?_)
    · have h := tb_ip c72 h
      refine lv_iload_n hx hb dX7_chance_311 rfl (lv_at hl 0 rfl) ?_
      refine lv_if_ne (tgt := 323) hx hb dX7_chance_312 (by decide) (fun c73 => ?_) (fun c73 => ?_)
      · have h := tb_ineg c73 h
        refine lv_iload hx hb dX7_chance_323 (lv_at hl 2 rfl) ?_
        refine lv_iload hx hb dX7_chance_325 (lv_at hl 3 rfl) ?_
        obtain ⟨k74, h⟩ := tb_cks h
        refine lv_idiv hx hb dX7_chance_327 (tb_ne0 k74) ?_
        exact tb_iret h F hP hS dX7_chance_328
      · have h := tb_ip c73 h
        refine lv_iload hx hb dX7_chance_315 (lv_at hl 1 rfl) ?_
        refine lv_iload hx hb dX7_chance_317 (lv_at hl 3 rfl) ?_
        obtain ⟨k75, h⟩ := tb_cks h
        refine lv_idiv hx hb dX7_chance_319 (tb_ne0 k75) ?_
        refine lv_goto (tgt := 328) hx hb dX7_chance_320 (by decide) ?_
        exact tb_iret h F hP hS dX7_chance_328
    · have h := tb_ineg c72 h
      refine lv_iload hx hb dX7_chance_293 (lv_at hl 3 rfl) ?_
      refine lv_iload hx hb dX7_chance_295 (lv_at hl 4 rfl) ?_
      obtain ⟨k76, h⟩ := tb_cks h
      refine lv_irem hx hb dX7_chance_297 (tb_ne0 k76) ?_
      refine lv_istore (lv' := [(9, .int (x7 - x7 / x8 * x8)), (3, .int x3), (5, .int x5), (6, .int x6), (7, .int x7), (8, .int x8)]) hx hb dX7_chance_298 hl (by decide) rfl (fun ls hl => ?_)
      refine lv_iload hx hb dX7_chance_300 (lv_at hl 5 rfl) ?_
      refine lv_istore (lv' := [(7, .int x8), (9, .int (x7 - x7 / x8 * x8)), (3, .int x3), (5, .int x5), (6, .int x6), (8, .int x8)]) hx hb dX7_chance_302 hl (by decide) rfl (fun ls hl => ?_)
      refine lv_iload hx hb dX7_chance_304 (lv_at hl 1 rfl) ?_
      refine lv_istore (lv' := [(8, .int (x7 - x7 / x8 * x8)), (7, .int x8), (9, .int (x7 - x7 / x8 * x8)), (3, .int x3), (5, .int x5), (6, .int x6)]) hx hb dX7_chance_306 hl (by decide) rfl (fun ls hl => ?_)
      refine lv_goto (tgt := 288) hx hb dX7_chance_308 (by decide) ?_
      exact ih x3 x5 x6 x8 (x7 - x7 / x8 * x8) M _ _ _ hP hS (lv_sub hl [3, 4, 5, 1, 0] rfl) h
set_option maxHeartbeats 4000000 in
set_option maxRecDepth 100000 in
theorem tX7_chance_L233 {g : tb_GT} {l : Launch} {P : Program} {e : Env} {s : State} {m : MethodId} {below : List Frame} {meth : Method} {c : Code} {a1 : Int32} {a2 : Int32} {a3 : Int32} {M' : tb_Mem} {r : Int32} (F : tb_F g cX7_chance 10 RX7 (some .int) (Cond.code yX7_chance cX7_chance 10 (some .int)) P s m ([.ref (tb_ad g 297), .int a1, .int a2, .int a3] : List Value).toArray meth c) (K102 : Int32 → Int32 → Int32 → Int32 → Int32 → Int32 → Int32 → tb_Mem → Option (Int32 × tb_Mem)) (hK102 : ∀ (x1 : Int32) (x2 : Int32) (x3 : Int32) (x4 : Int32) (x5 : Int32) (x6 : Int32) (x7 : Int32) (M : tb_Mem) (H : Heap) (locs : List Loc) (ls : Array Slot), tb_P g M H → va_S (tb_A g) s.heap H locs → lv_has ls 10 [(0, .ref (tb_ad g 297)), (1, .int x1), (2, .int x2), (3, .int x3), (4, .int x4), (5, .int x5), (6, .int x6), (7, .int x7)] → K102 x1 x2 x3 x4 x5 x6 x7 M = some (r, M') → W P l e rmX7_chance s m ([.ref (tb_ad g 297), .int a1, .int a2, .int a3] : List Value).toArray below meth c H locs 0 0 (MQ below (tb_Q g M' (some (.int r))) ([.ref (tb_ad g 297), .int a1, .int a2, .int a3] : List Value).toArray s 0 0 (tb_A g)) (F0 m 102 ls [])) :
    ∀ (n : Nat) (x1 : Int32) (x2 : Int32) (x3 : Int32) (x4 : Int32) (x5 : Int32) (x6 : Int32) (x7 : Int32) (x8 : Int32) (x9 : Int32) (M : tb_Mem) (H : Heap) (locs : List Loc) (ls : Array Slot), tb_P g M H → va_S (tb_A g) s.heap H locs → lv_has ls 10 [(0, .ref (tb_ad g 297)), (1, .int x1), (2, .int x2), (3, .int x3), (4, .int x4), (5, .int x5), (6, .int x6), (7, .int x7), (8, .int x8), (9, .int x9)] → fX7_chance_L233 K102 n x1 x2 x3 x4 x5 x6 x7 x8 x9 M = some (r, M') → W P l e rmX7_chance s m ([.ref (tb_ad g 297), .int a1, .int a2, .int a3] : List Value).toArray below meth c H locs 0 0 (MQ below (tb_Q g M' (some (.int r))) ([.ref (tb_ad g 297), .int a1, .int a2, .int a3] : List Value).toArray s 0 0 (tb_A g)) (F0 m 233 ls []) := by
  have hx := F.1.1
  have hb := F.1.2.1
  intro n
  induction n with
  | zero =>
    intro x1 x2 x3 x4 x5 x6 x7 x8 x9 M H locs ls hP hS hl h
    rw [fX7_chance_L233] at h
    exact tb_none h
  | succ n ih =>
    intro x1 x2 x3 x4 x5 x6 x7 x8 x9 M H locs ls hP hS hl h
    rw [fX7_chance_L233] at h
    refine lv_iload hx hb dX7_chance_233 (lv_at hl 9 rfl) ?_
    refine lv_iload_n hx hb dX7_chance_235 rfl (lv_at hl 1 rfl) ?_
    refine lv_icmp_ge (tgt := 253) hx hb dX7_chance_236 (by decide) (fun c62 => ?_) (fun c62 => ?_)
    · have h := tb_ip c62 h
      refine lv_iload hx hb dX7_chance_253 (lv_at hl 5 rfl) ?_
      refine lv_aload_n hx hb dX7_chance_255 rfl (lv_at hl 0 rfl) ?_
      refine tb_getr F hP tb_l297 (ci := 7) rfl inlX7 14 (by decide) rfl kf_X7_41 dX7_chance_256 ?_
      obtain ⟨r65, M63, e64, h⟩ := tb_b2s h
      refine tb_callS F hP hS hl.1 kX7_hanging km_X7_142 (as := [.ref (tb_ad g 308)]) (tX7_hanging g l 308 tb_l308 M M63 r65 e64) ⟨rfl, rfl, Nat.le_of_ble_eq_true rfl, Nat.le_of_ble_eq_true rfl⟩ rfl (rest := [.int x5]) rfl (st1 := [.int r65, .int x5]) rfl (Nat.le_of_ble_eq_true rfl) ⟨Nat.zero_le _, Nat.zero_le _⟩ dX7_chance_259 (fun H locs hP hS => ?_)
      refine tb_mrg (g2 := F0 m 271 ls [.int ((if r65 = 0 then x8 else 0) : Int32), .int x5]) (fun hJ => ?_) ?_
      · refine lv_if_ne (tgt := 270) hx hb dX7_chance_262 (by decide) (fun c66 => ?_) (fun c66 => ?_)
        · refine lv_iconst (v := 0) hx hb dX7_chance_270 (by decide) ?_
          rw [if_neg c66] at hJ
          exact hJ
        · refine lv_iload hx hb dX7_chance_265 (lv_at hl 8 rfl) ?_
          refine lv_goto (tgt := 271) hx hb dX7_chance_267 (by decide) ?_
          rw [if_pos c66] at hJ
          exact hJ
      refine lv_iadd hx hb dX7_chance_271 ?_
      obtain ⟨v67, e68, h⟩ := tb_lets h
      refine tb_nmi e68 ?_
      refine lv_istore (lv' := [(5, .int v67), (0, .ref (tb_ad g 297)), (1, .int x1), (2, .int x2), (3, .int x3), (4, .int x4), (6, .int x6), (7, .int x7), (8, .int x8), (9, .int x9)]) hx hb dX7_chance_272 hl (by decide) rfl (fun ls hl => ?_)
      refine lv_iinc (v := (x7 + 1)) (lv' := [(7, .int (x7 + 1)), (5, .int v67), (0, .ref (tb_ad g 297)), (1, .int x1), (2, .int x2), (3, .int x3), (4, .int x4), (6, .int x6), (8, .int x8), (9, .int x9)]) hx hb dX7_chance_274 hl (k := 7) rfl rfl (by decide) rfl (fun ls hl => ?_)
      refine lv_goto (tgt := 102) hx hb dX7_chance_277 (by decide) ?_
      exact hK102 x1 x2 x3 x4 v67 x6 (x7 + 1) M63 _ _ _ hP hS (lv_sub hl [2, 3, 4, 5, 6, 1, 7, 0] rfl) h
    · have h := tb_ineg c62 h
      refine lv_aload_n hx hb dX7_chance_239 rfl (lv_at hl 0 rfl) ?_
      refine tb_getr F hP tb_l297 (ci := 7) rfl inlX7 14 (by decide) rfl kf_X7_41 dX7_chance_240 ?_
      obtain ⟨r71, M69, e70, h⟩ := tb_b2s h
      refine tb_callS F hP hS hl.1 kX7_tick km_X7_138 (as := [.ref (tb_ad g 308)]) (tX7_tick g l 308 tb_l308 M M69 r71 e70) ⟨rfl, rfl, Nat.le_of_ble_eq_true rfl, Nat.le_of_ble_eq_true rfl⟩ rfl (rest := []) rfl (st1 := [.int r71]) rfl (Nat.le_of_ble_eq_true rfl) ⟨Nat.zero_le _, Nat.zero_le _⟩ dX7_chance_243 (fun H locs hP hS => ?_)
      refine lv_pop hx hb dX7_chance_246 rfl ?_
      refine lv_iinc (v := (x9 + 1)) (lv' := [(9, .int (x9 + 1)), (0, .ref (tb_ad g 297)), (1, .int x1), (2, .int x2), (3, .int x3), (4, .int x4), (5, .int x5), (6, .int x6), (7, .int x7), (8, .int x8)]) hx hb dX7_chance_247 hl (k := 9) rfl rfl (by decide) rfl (fun ls hl => ?_)
      refine lv_goto (tgt := 233) hx hb dX7_chance_250 (by decide) ?_
      exact ih x1 x2 x3 x4 x5 x6 x7 x8 (x9 + 1) M69 _ _ _ hP hS (lv_sub hl [1, 2, 3, 4, 5, 6, 7, 8, 9, 0] rfl) h
set_option maxHeartbeats 4000000 in
set_option maxRecDepth 100000 in
theorem tX7_chance_L143 {g : tb_GT} {l : Launch} {P : Program} {e : Env} {s : State} {m : MethodId} {below : List Frame} {meth : Method} {c : Code} {a1 : Int32} {a2 : Int32} {a3 : Int32} {M' : tb_Mem} {r : Int32} (F : tb_F g cX7_chance 10 RX7 (some .int) (Cond.code yX7_chance cX7_chance 10 (some .int)) P s m ([.ref (tb_ad g 297), .int a1, .int a2, .int a3] : List Value).toArray meth c) (K102 : Int32 → Int32 → Int32 → Int32 → Int32 → Int32 → Int32 → tb_Mem → Option (Int32 × tb_Mem)) (hK102 : ∀ (x1 : Int32) (x2 : Int32) (x3 : Int32) (x4 : Int32) (x5 : Int32) (x6 : Int32) (x7 : Int32) (M : tb_Mem) (H : Heap) (locs : List Loc) (ls : Array Slot), tb_P g M H → va_S (tb_A g) s.heap H locs → lv_has ls 10 [(0, .ref (tb_ad g 297)), (1, .int x1), (2, .int x2), (3, .int x3), (4, .int x4), (5, .int x5), (6, .int x6), (7, .int x7)] → K102 x1 x2 x3 x4 x5 x6 x7 M = some (r, M') → W P l e rmX7_chance s m ([.ref (tb_ad g 297), .int a1, .int a2, .int a3] : List Value).toArray below meth c H locs 0 0 (MQ below (tb_Q g M' (some (.int r))) ([.ref (tb_ad g 297), .int a1, .int a2, .int a3] : List Value).toArray s 0 0 (tb_A g)) (F0 m 102 ls [])) :
    ∀ (n : Nat) (x1 : Int32) (x2 : Int32) (x3 : Int32) (x4 : Int32) (x5 : Int32) (x6 : Int32) (x7 : Int32) (x8 : Int32) (x9 : Int32) (M : tb_Mem) (H : Heap) (locs : List Loc) (ls : Array Slot), tb_P g M H → va_S (tb_A g) s.heap H locs → lv_has ls 10 [(0, .ref (tb_ad g 297)), (1, .int x1), (2, .int x2), (3, .int x3), (4, .int x4), (5, .int x5), (6, .int x6), (7, .int x7), (8, .int x8), (9, .int x9)] → fX7_chance_L143 K102 n x1 x2 x3 x4 x5 x6 x7 x8 x9 M = some (r, M') → W P l e rmX7_chance s m ([.ref (tb_ad g 297), .int a1, .int a2, .int a3] : List Value).toArray below meth c H locs 0 0 (MQ below (tb_Q g M' (some (.int r))) ([.ref (tb_ad g 297), .int a1, .int a2, .int a3] : List Value).toArray s 0 0 (tb_A g)) (F0 m 143 ls []) := by
  have hx := F.1.1
  have hb := F.1.2.1
  intro n
  induction n with
  | zero =>
    intro x1 x2 x3 x4 x5 x6 x7 x8 x9 M H locs ls hP hS hl h
    rw [fX7_chance_L143] at h
    exact tb_none h
  | succ n ih =>
    intro x1 x2 x3 x4 x5 x6 x7 x8 x9 M H locs ls hP hS hl h
    rw [fX7_chance_L143] at h
    refine lv_iload hx hb dX7_chance_143 (lv_at hl 9 rfl) ?_
    refine lv_aload_n hx hb dX7_chance_145 rfl (lv_at hl 0 rfl) ?_
    refine tb_getr F hP tb_l297 (ci := 7) rfl inlX7 8 (by decide) rfl kf_X7_25 dX7_chance_146 ?_
    refine lv_bipush (v := 46) hx hb dX7_chance_149 (by decide) ?_
    refine tb_iald F hP tb_l303 (k := 46) (by decide +kernel) (tb_inv (i := 46) (n := 63) (by decide +kernel)) dX7_chance_151 ?_
    refine lv_icmp_ge (tgt := 230) hx hb dX7_chance_152 (by decide) (fun c31 => ?_) (fun c31 => ?_)
    · have h := tb_ip c31 h
      refine lv_iconst (v := 0) hx hb dX7_chance_230 (by decide) ?_
      refine lv_istore (lv' := [(9, .int 0), (0, .ref (tb_ad g 297)), (1, .int x1), (2, .int x2), (3, .int x3), (4, .int x4), (5, .int x5), (6, .int x6), (7, .int x7), (8, .int x8)]) hx hb dX7_chance_231 hl (by decide) rfl (fun ls hl => ?_)
      exact tX7_chance_L233 F K102 hK102 tb_N x1 x2 x3 x4 x5 x6 x7 x8 0 M _ _ _ hP hS (lv_sub hl [1, 2, 3, 4, 5, 6, 7, 8, 9, 0] rfl) h
    · have h := tb_ineg c31 h
      refine lv_iload hx hb dX7_chance_155 (lv_at hl 8 rfl) ?_
      refine lv_iload hx hb dX7_chance_157 (lv_at hl 4 rfl) ?_
      refine lv_iload hx hb dX7_chance_159 (lv_at hl 9 rfl) ?_
      obtain ⟨r34, M32, e33, h⟩ := tb_b2s h
      refine tb_callS F hP hS hl.1 kX7_has km_X7_123 (as := [.int x4, .int x9]) (tX7_has g l x4 x9 M M32 r34 e33) ⟨rfl, rfl, Nat.le_of_ble_eq_true rfl, Nat.le_of_ble_eq_true rfl⟩ rfl (rest := [.int x8]) rfl (st1 := [.int r34, .int x8]) rfl (Nat.le_of_ble_eq_true rfl) ⟨Nat.zero_le _, Nat.zero_le _⟩ dX7_chance_161 (fun H locs hP hS => ?_)
      refine lv_if_ne (tgt := 171) hx hb dX7_chance_164 (by decide) (fun c35 => ?_) (fun c35 => ?_)
      · have h := tb_ineg c35 h
        refine lv_iload hx hb dX7_chance_171 (lv_at hl 7 rfl) ?_
        refine lv_iload hx hb dX7_chance_173 (lv_at hl 9 rfl) ?_
        obtain ⟨r38, M36, e37, h⟩ := tb_b2s h
        refine tb_callS F hP hS hl.1 kX7_has km_X7_123 (as := [.int x7, .int x9]) (tX7_has g l x7 x9 M32 M36 r38 e37) ⟨rfl, rfl, Nat.le_of_ble_eq_true rfl, Nat.le_of_ble_eq_true rfl⟩ rfl (rest := [.int x8]) rfl (st1 := [.int r38, .int x8]) rfl (Nat.le_of_ble_eq_true rfl) ⟨Nat.zero_le _, Nat.zero_le _⟩ dX7_chance_175 (fun H locs hP hS => ?_)
        refine tb_mrg (g2 := F0 m 189 ls [.int ((if r38 = 0 then (10 - x2) else x2) : Int32), .int x8]) (fun hJ => ?_) ?_
        · refine lv_if_eq (tgt := 185) hx hb dX7_chance_178 (by decide) (fun c39 => ?_) (fun c39 => ?_)
          · refine lv_bipush (v := 10) hx hb dX7_chance_185 (by decide) ?_
            refine lv_iload_n hx hb dX7_chance_187 rfl (lv_at hl 2 rfl) ?_
            refine lv_isub hx hb dX7_chance_188 ?_
            rw [if_pos c39] at hJ
            exact hJ
          · refine lv_iload_n hx hb dX7_chance_181 rfl (lv_at hl 2 rfl) ?_
            refine lv_goto (tgt := 189) hx hb dX7_chance_182 (by decide) ?_
            rw [if_neg c39] at hJ
            exact hJ
        refine lv_imul hx hb dX7_chance_189 ?_
        obtain ⟨v40, e41, h⟩ := tb_lets h
        refine tb_nmi e41 ?_
        refine lv_istore (lv' := [(8, .int v40), (0, .ref (tb_ad g 297)), (1, .int x1), (2, .int x2), (3, .int x3), (4, .int x4), (5, .int x5), (6, .int x6), (7, .int x7), (9, .int x9)]) hx hb dX7_chance_190 hl (by decide) rfl (fun ls hl => ?_)
        refine lv_aload_n hx hb dX7_chance_192 rfl (lv_at hl 1 rfl) ?_
        refine tb_getr F hP tb_l297 (ci := 7) rfl inlX7 14 (by decide) rfl kf_X7_41 dX7_chance_193 ?_
        refine lv_iconst (v := 2) hx hb dX7_chance_196 (by decide) ?_
        refine lv_iload hx hb dX7_chance_197 (lv_at hl 9 rfl) ?_
        refine lv_iadd hx hb dX7_chance_199 ?_
        refine lv_iload hx hb dX7_chance_200 (lv_at hl 8 rfl) ?_
        refine lv_iload hx hb dX7_chance_202 (lv_at hl 9 rfl) ?_
        obtain ⟨r44, M42, e43, h⟩ := tb_b2s h
        refine tb_callS F hP hS hl.1 kX7_has km_X7_123 (as := [.int x7, .int x9]) (tX7_has g l x7 x9 M36 M42 r44 e43) ⟨rfl, rfl, Nat.le_of_ble_eq_true rfl, Nat.le_of_ble_eq_true rfl⟩ rfl (rest := [.int (2 + x9), .ref (tb_ad g 308)]) rfl (st1 := [.int r44, .int (2 + x9), .ref (tb_ad g 308)]) rfl (Nat.le_of_ble_eq_true rfl) ⟨Nat.zero_le _, Nat.zero_le _⟩ dX7_chance_204 (fun H locs hP hS => ?_)
        refine lv_if_eq (tgt := 214) hx hb dX7_chance_207 (by decide) (fun c45 => ?_) (fun c45 => ?_)
        · have h := tb_ip c45 h
          refine lv_aload_n hx hb dX7_chance_214 rfl (lv_at hl 1 rfl) ?_
          refine tb_getr F hP tb_l297 (ci := 7) rfl inlX7 14 (by decide) rfl kf_X7_41 dX7_chance_215 ?_
          refine lv_iconst (v := 2) hx hb dX7_chance_218 (by decide) ?_
          refine lv_iload hx hb dX7_chance_219 (lv_at hl 9 rfl) ?_
          refine lv_iadd hx hb dX7_chance_221 ?_
          obtain ⟨k46, h⟩ := tb_cks h
          refine tb_iald F hP tb_l308 rfl (tb_inv k46) dX7_chance_222 ?_
          obtain ⟨M47, e48, h⟩ := tb_lets h
          refine tb_iast F hP hS tb_l308 rfl (tb_inv k46) dX7_chance_223 (fun H locs hP hS => ?_)
          rw [← e48] at hP
          refine lv_iinc (v := (x9 + 1)) (lv' := [(9, .int (x9 + 1)), (8, .int v40), (0, .ref (tb_ad g 297)), (1, .int x1), (2, .int x2), (3, .int x3), (4, .int x4), (5, .int x5), (6, .int x6), (7, .int x7)]) hx hb dX7_chance_224 hl (k := 9) rfl rfl (by decide) rfl (fun ls hl => ?_)
          refine lv_goto (tgt := 143) hx hb dX7_chance_227 (by decide) ?_
          exact ih x1 x2 x3 x4 x5 x6 x7 v40 (x9 + 1) M47 _ _ _ hP hS (lv_sub hl [2, 3, 4, 5, 6, 7, 8, 9, 1, 0] rfl) h
        · have h := tb_ineg c45 h
          refine lv_iconst (v := (-1)) hx hb dX7_chance_210 (by decide) ?_
          refine lv_goto (tgt := 223) hx hb dX7_chance_211 (by decide) ?_
          obtain ⟨k49, h⟩ := tb_cks h
          obtain ⟨M50, e51, h⟩ := tb_lets h
          refine tb_iast F hP hS tb_l308 rfl (tb_inv k49) dX7_chance_223 (fun H locs hP hS => ?_)
          rw [← e51] at hP
          refine lv_iinc (v := (x9 + 1)) (lv' := [(9, .int (x9 + 1)), (8, .int v40), (0, .ref (tb_ad g 297)), (1, .int x1), (2, .int x2), (3, .int x3), (4, .int x4), (5, .int x5), (6, .int x6), (7, .int x7)]) hx hb dX7_chance_224 hl (k := 9) rfl rfl (by decide) rfl (fun ls hl => ?_)
          refine lv_goto (tgt := 143) hx hb dX7_chance_227 (by decide) ?_
          exact ih x1 x2 x3 x4 x5 x6 x7 v40 (x9 + 1) M50 _ _ _ hP hS (lv_sub hl [2, 3, 4, 5, 6, 7, 8, 9, 1, 0] rfl) h
      · have h := tb_ip c35 h
        refine lv_iconst (v := 1) hx hb dX7_chance_167 (by decide) ?_
        refine lv_goto (tgt := 189) hx hb dX7_chance_168 (by decide) ?_
        refine lv_imul hx hb dX7_chance_189 ?_
        refine lv_istore (lv' := [(8, .int (x8 * 1)), (0, .ref (tb_ad g 297)), (1, .int x1), (2, .int x2), (3, .int x3), (4, .int x4), (5, .int x5), (6, .int x6), (7, .int x7), (9, .int x9)]) hx hb dX7_chance_190 hl (by decide) rfl (fun ls hl => ?_)
        refine lv_aload_n hx hb dX7_chance_192 rfl (lv_at hl 1 rfl) ?_
        refine tb_getr F hP tb_l297 (ci := 7) rfl inlX7 14 (by decide) rfl kf_X7_41 dX7_chance_193 ?_
        refine lv_iconst (v := 2) hx hb dX7_chance_196 (by decide) ?_
        refine lv_iload hx hb dX7_chance_197 (lv_at hl 9 rfl) ?_
        refine lv_iadd hx hb dX7_chance_199 ?_
        refine lv_iload hx hb dX7_chance_200 (lv_at hl 8 rfl) ?_
        refine lv_iload hx hb dX7_chance_202 (lv_at hl 9 rfl) ?_
        obtain ⟨r54, M52, e53, h⟩ := tb_b2s h
        refine tb_callS F hP hS hl.1 kX7_has km_X7_123 (as := [.int x7, .int x9]) (tX7_has g l x7 x9 M32 M52 r54 e53) ⟨rfl, rfl, Nat.le_of_ble_eq_true rfl, Nat.le_of_ble_eq_true rfl⟩ rfl (rest := [.int (2 + x9), .ref (tb_ad g 308)]) rfl (st1 := [.int r54, .int (2 + x9), .ref (tb_ad g 308)]) rfl (Nat.le_of_ble_eq_true rfl) ⟨Nat.zero_le _, Nat.zero_le _⟩ dX7_chance_204 (fun H locs hP hS => ?_)
        refine lv_if_eq (tgt := 214) hx hb dX7_chance_207 (by decide) (fun c55 => ?_) (fun c55 => ?_)
        · have h := tb_ip c55 h
          refine lv_aload_n hx hb dX7_chance_214 rfl (lv_at hl 1 rfl) ?_
          refine tb_getr F hP tb_l297 (ci := 7) rfl inlX7 14 (by decide) rfl kf_X7_41 dX7_chance_215 ?_
          refine lv_iconst (v := 2) hx hb dX7_chance_218 (by decide) ?_
          refine lv_iload hx hb dX7_chance_219 (lv_at hl 9 rfl) ?_
          refine lv_iadd hx hb dX7_chance_221 ?_
          obtain ⟨k56, h⟩ := tb_cks h
          refine tb_iald F hP tb_l308 rfl (tb_inv k56) dX7_chance_222 ?_
          obtain ⟨M57, e58, h⟩ := tb_lets h
          refine tb_iast F hP hS tb_l308 rfl (tb_inv k56) dX7_chance_223 (fun H locs hP hS => ?_)
          rw [← e58] at hP
          refine lv_iinc (v := (x9 + 1)) (lv' := [(9, .int (x9 + 1)), (8, .int (x8 * 1)), (0, .ref (tb_ad g 297)), (1, .int x1), (2, .int x2), (3, .int x3), (4, .int x4), (5, .int x5), (6, .int x6), (7, .int x7)]) hx hb dX7_chance_224 hl (k := 9) rfl rfl (by decide) rfl (fun ls hl => ?_)
          refine lv_goto (tgt := 143) hx hb dX7_chance_227 (by decide) ?_
          exact ih x1 x2 x3 x4 x5 x6 x7 (x8 * 1) (x9 + 1) M57 _ _ _ hP hS (lv_sub hl [2, 3, 4, 5, 6, 7, 8, 9, 1, 0] rfl) h
        · have h := tb_ineg c55 h
          refine lv_iconst (v := (-1)) hx hb dX7_chance_210 (by decide) ?_
          refine lv_goto (tgt := 223) hx hb dX7_chance_211 (by decide) ?_
          obtain ⟨k59, h⟩ := tb_cks h
          obtain ⟨M60, e61, h⟩ := tb_lets h
          refine tb_iast F hP hS tb_l308 rfl (tb_inv k59) dX7_chance_223 (fun H locs hP hS => ?_)
          rw [← e61] at hP
          refine lv_iinc (v := (x9 + 1)) (lv' := [(9, .int (x9 + 1)), (8, .int (x8 * 1)), (0, .ref (tb_ad g 297)), (1, .int x1), (2, .int x2), (3, .int x3), (4, .int x4), (5, .int x5), (6, .int x6), (7, .int x7)]) hx hb dX7_chance_224 hl (k := 9) rfl rfl (by decide) rfl (fun ls hl => ?_)
          refine lv_goto (tgt := 143) hx hb dX7_chance_227 (by decide) ?_
          exact ih x1 x2 x3 x4 x5 x6 x7 (x8 * 1) (x9 + 1) M60 _ _ _ hP hS (lv_sub hl [2, 3, 4, 5, 6, 7, 8, 9, 1, 0] rfl) h
set_option maxHeartbeats 4000000 in
set_option maxRecDepth 100000 in
theorem tX7_chance_L102 {g : tb_GT} {l : Launch} {P : Program} {e : Env} {s : State} {m : MethodId} {below : List Frame} {meth : Method} {c : Code} {a1 : Int32} {a2 : Int32} {a3 : Int32} {M' : tb_Mem} {r : Int32} (F : tb_F g cX7_chance 10 RX7 (some .int) (Cond.code yX7_chance cX7_chance 10 (some .int)) P s m ([.ref (tb_ad g 297), .int a1, .int a2, .int a3] : List Value).toArray meth c) :
    ∀ (n : Nat) (x1 : Int32) (x2 : Int32) (x3 : Int32) (x4 : Int32) (x5 : Int32) (x6 : Int32) (x7 : Int32) (M : tb_Mem) (H : Heap) (locs : List Loc) (ls : Array Slot), tb_P g M H → va_S (tb_A g) s.heap H locs → lv_has ls 10 [(0, .ref (tb_ad g 297)), (1, .int x1), (2, .int x2), (3, .int x3), (4, .int x4), (5, .int x5), (6, .int x6), (7, .int x7)] → fX7_chance_L102 n x1 x2 x3 x4 x5 x6 x7 M = some (r, M') → W P l e rmX7_chance s m ([.ref (tb_ad g 297), .int a1, .int a2, .int a3] : List Value).toArray below meth c H locs 0 0 (MQ below (tb_Q g M' (some (.int r))) ([.ref (tb_ad g 297), .int a1, .int a2, .int a3] : List Value).toArray s 0 0 (tb_A g)) (F0 m 102 ls []) := by
  have hx := F.1.1
  have hb := F.1.2.1
  intro n
  induction n with
  | zero =>
    intro x1 x2 x3 x4 x5 x6 x7 M H locs ls hP hS hl h
    rw [fX7_chance_L102] at h
    exact tb_none h
  | succ n ih =>
    intro x1 x2 x3 x4 x5 x6 x7 M H locs ls hP hS hl h
    rw [fX7_chance_L102] at h
    refine lv_iload hx hb dX7_chance_102 (lv_at hl 7 rfl) ?_
    refine lv_iconst (v := 1) hx hb dX7_chance_104 (by decide) ?_
    refine lv_aload_n hx hb dX7_chance_105 rfl (lv_at hl 0 rfl) ?_
    refine tb_getr F hP tb_l297 (ci := 7) rfl inlX7 8 (by decide) rfl kf_X7_25 dX7_chance_106 ?_
    refine lv_bipush (v := 46) hx hb dX7_chance_109 (by decide) ?_
    refine tb_iald F hP tb_l303 (k := 46) (by decide +kernel) (tb_inv (i := 46) (n := 63) (by decide +kernel)) dX7_chance_111 ?_
    refine lv_ishl hx hb dX7_chance_112 ?_
    refine lv_icmp_ge (tgt := 280) hx hb dX7_chance_113 (by decide) (fun c27 => ?_) (fun c27 => ?_)
    · have h := tb_ip c27 h
      refine lv_iload hx hb dX7_chance_280 (lv_at hl 5 rfl) ?_
      refine lv_istore (lv' := [(7, .int x5), (0, .ref (tb_ad g 297)), (1, .int x1), (2, .int x2), (3, .int x3), (4, .int x4), (5, .int x5), (6, .int x6)]) hx hb dX7_chance_282 hl (by decide) rfl (fun ls hl => ?_)
      refine lv_iload hx hb dX7_chance_284 (lv_at hl 7 rfl) ?_
      refine lv_istore (lv' := [(8, .int x6), (7, .int x5), (0, .ref (tb_ad g 297)), (1, .int x1), (2, .int x2), (3, .int x3), (4, .int x4), (5, .int x5), (6, .int x6)]) hx hb dX7_chance_286 hl (by decide) rfl (fun ls hl => ?_)
      exact tX7_chance_L288 F tb_N x3 x5 x6 x5 x6 M _ _ _ hP hS (lv_sub hl [5, 7, 8, 1, 0] rfl) h
    · have h := tb_ineg c27 h
      refine lv_iload hx hb dX7_chance_116 (lv_at hl 7 rfl) ?_
      refine lv_iload hx hb dX7_chance_118 (lv_at hl 4 rfl) ?_
      refine lv_iconst (v := (-1)) hx hb dX7_chance_120 (by decide) ?_
      refine lv_ixor hx hb dX7_chance_121 ?_
      refine lv_iand hx hb dX7_chance_122 ?_
      refine lv_if_ne (tgt := 274) hx hb dX7_chance_123 (by decide) (fun c28 => ?_) (fun c28 => ?_)
      · have h := tb_ineg c28 h
        refine lv_iinc (v := (x7 + 1)) (lv' := [(7, .int (x7 + 1)), (0, .ref (tb_ad g 297)), (1, .int x1), (2, .int x2), (3, .int x3), (4, .int x4), (5, .int x5), (6, .int x6)]) hx hb dX7_chance_274 hl (k := 7) rfl rfl (by decide) rfl (fun ls hl => ?_)
        refine lv_goto (tgt := 102) hx hb dX7_chance_277 (by decide) ?_
        exact ih x1 x2 x3 x4 x5 x6 (x7 + 1) M _ _ _ hP hS (lv_sub hl [1, 2, 3, 4, 5, 6, 7, 0] rfl) h
      · have h := tb_ip c28 h
        refine lv_aload_n hx hb dX7_chance_126 rfl (lv_at hl 0 rfl) ?_
        refine tb_getr F hP tb_l297 (ci := 7) rfl inlX7 8 (by decide) rfl kf_X7_25 dX7_chance_127 ?_
        refine lv_aload_n hx hb dX7_chance_130 rfl (lv_at hl 0 rfl) ?_
        refine tb_getr F hP tb_l297 (ci := 7) rfl inlX7 14 (by decide) rfl kf_X7_41 dX7_chance_131 ?_
        obtain ⟨M29, e30, h⟩ := tb_b1s h
        refine tb_callS F hP hS hl.1 kX7_copies km_X7_167 (as := [.ref (tb_ad g 303), .ref (tb_ad g 308)]) (tX7_copies g l 303 308 tb_l303 tb_l308 M M29 e30) ⟨rfl, rfl, Nat.le_of_ble_eq_true rfl, Nat.le_of_ble_eq_true rfl⟩ rfl (rest := []) rfl (st1 := []) rfl (Nat.le_of_ble_eq_true rfl) ⟨Nat.zero_le _, Nat.zero_le _⟩ dX7_chance_134 (fun H locs hP hS => ?_)
        refine lv_iconst (v := 1) hx hb dX7_chance_137 (by decide) ?_
        refine lv_istore (lv' := [(8, .int 1), (0, .ref (tb_ad g 297)), (1, .int x1), (2, .int x2), (3, .int x3), (4, .int x4), (5, .int x5), (6, .int x6), (7, .int x7)]) hx hb dX7_chance_138 hl (by decide) rfl (fun ls hl => ?_)
        refine lv_iconst (v := 0) hx hb dX7_chance_140 (by decide) ?_
        refine lv_istore (lv' := [(9, .int 0), (8, .int 1), (0, .ref (tb_ad g 297)), (1, .int x1), (2, .int x2), (3, .int x3), (4, .int x4), (5, .int x5), (6, .int x6), (7, .int x7)]) hx hb dX7_chance_141 hl (by decide) rfl (fun ls hl => ?_)
        exact tX7_chance_L143 F (fun z1 z2 z3 z4 z5 z6 z7 M => fX7_chance_L102 n z1 z2 z3 z4 z5 z6 z7 M) ih tb_N x1 x2 x3 x4 x5 x6 x7 1 0 M29 _ _ _ hP hS (lv_sub hl [2, 3, 4, 5, 6, 7, 8, 9, 1, 0] rfl) h
set_option maxHeartbeats 4000000 in
set_option maxRecDepth 100000 in
theorem tX7_chance_L60 {g : tb_GT} {l : Launch} {P : Program} {e : Env} {s : State} {m : MethodId} {below : List Frame} {meth : Method} {c : Code} {a1 : Int32} {a2 : Int32} {a3 : Int32} {M' : tb_Mem} {r : Int32} (F : tb_F g cX7_chance 10 RX7 (some .int) (Cond.code yX7_chance cX7_chance 10 (some .int)) P s m ([.ref (tb_ad g 297), .int a1, .int a2, .int a3] : List Value).toArray meth c) :
    ∀ (n : Nat) (x1 : Int32) (x2 : Int32) (x3 : Int32) (x4 : Int32) (x5 : Int32) (x6 : Int32) (x7 : Int32) (M : tb_Mem) (H : Heap) (locs : List Loc) (ls : Array Slot), tb_P g M H → va_S (tb_A g) s.heap H locs → lv_has ls 10 [(0, .ref (tb_ad g 297)), (1, .int x1), (2, .int x2), (3, .int x3), (4, .int x4), (5, .int x5), (6, .int x6), (7, .int x7)] → fX7_chance_L60 n x1 x2 x3 x4 x5 x6 x7 M = some (r, M') → W P l e rmX7_chance s m ([.ref (tb_ad g 297), .int a1, .int a2, .int a3] : List Value).toArray below meth c H locs 0 0 (MQ below (tb_Q g M' (some (.int r))) ([.ref (tb_ad g 297), .int a1, .int a2, .int a3] : List Value).toArray s 0 0 (tb_A g)) (F0 m 60 ls []) := by
  have hx := F.1.1
  have hb := F.1.2.1
  intro n
  induction n with
  | zero =>
    intro x1 x2 x3 x4 x5 x6 x7 M H locs ls hP hS hl h
    rw [fX7_chance_L60] at h
    exact tb_none h
  | succ n ih =>
    intro x1 x2 x3 x4 x5 x6 x7 M H locs ls hP hS hl h
    rw [fX7_chance_L60] at h
    refine lv_iload hx hb dX7_chance_60 (lv_at hl 7 rfl) ?_
    refine lv_aload_n hx hb dX7_chance_62 rfl (lv_at hl 0 rfl) ?_
    refine tb_getr F hP tb_l297 (ci := 7) rfl inlX7 8 (by decide) rfl kf_X7_25 dX7_chance_63 ?_
    refine lv_bipush (v := 46) hx hb dX7_chance_66 (by decide) ?_
    refine tb_iald F hP tb_l303 (k := 46) (by decide +kernel) (tb_inv (i := 46) (n := 63) (by decide +kernel)) dX7_chance_68 ?_
    refine lv_icmp_ge (tgt := 99) hx hb dX7_chance_69 (by decide) (fun c20 => ?_) (fun c20 => ?_)
    · have h := tb_ip c20 h
      refine lv_iconst (v := 0) hx hb dX7_chance_99 (by decide) ?_
      refine lv_istore (lv' := [(7, .int 0), (0, .ref (tb_ad g 297)), (1, .int x1), (2, .int x2), (3, .int x3), (4, .int x4), (5, .int x5), (6, .int x6)]) hx hb dX7_chance_100 hl (by decide) rfl (fun ls hl => ?_)
      exact tX7_chance_L102 F tb_N x1 x2 x3 x4 x5 x6 0 M _ _ _ hP hS (lv_sub hl [1, 2, 3, 4, 5, 6, 7, 0] rfl) h
    · have h := tb_ineg c20 h
      refine lv_iload hx hb dX7_chance_72 (lv_at hl 6 rfl) ?_
      refine lv_iload hx hb dX7_chance_74 (lv_at hl 4 rfl) ?_
      refine lv_iload hx hb dX7_chance_76 (lv_at hl 7 rfl) ?_
      obtain ⟨r23, M21, e22, h⟩ := tb_b2s h
      refine tb_callS F hP hS hl.1 kX7_has km_X7_123 (as := [.int x4, .int x7]) (tX7_has g l x4 x7 M M21 r23 e22) ⟨rfl, rfl, Nat.le_of_ble_eq_true rfl, Nat.le_of_ble_eq_true rfl⟩ rfl (rest := [.int x6]) rfl (st1 := [.int r23, .int x6]) rfl (Nat.le_of_ble_eq_true rfl) ⟨Nat.zero_le _, Nat.zero_le _⟩ dX7_chance_78 (fun H locs hP hS => ?_)
      refine tb_mrg (g2 := F0 m 90 ls [.int ((if r23 = 0 then 1 else 10) : Int32), .int x6]) (fun hJ => ?_) ?_
      · refine lv_if_eq (tgt := 89) hx hb dX7_chance_81 (by decide) (fun c24 => ?_) (fun c24 => ?_)
        · refine lv_iconst (v := 1) hx hb dX7_chance_89 (by decide) ?_
          rw [if_pos c24] at hJ
          exact hJ
        · refine lv_bipush (v := 10) hx hb dX7_chance_84 (by decide) ?_
          refine lv_goto (tgt := 90) hx hb dX7_chance_86 (by decide) ?_
          rw [if_neg c24] at hJ
          exact hJ
      refine lv_imul hx hb dX7_chance_90 ?_
      obtain ⟨v25, e26, h⟩ := tb_lets h
      refine tb_nmi e26 ?_
      refine lv_istore (lv' := [(6, .int v25), (0, .ref (tb_ad g 297)), (1, .int x1), (2, .int x2), (3, .int x3), (4, .int x4), (5, .int x5), (7, .int x7)]) hx hb dX7_chance_91 hl (by decide) rfl (fun ls hl => ?_)
      refine lv_iinc (v := (x7 + 1)) (lv' := [(7, .int (x7 + 1)), (6, .int v25), (0, .ref (tb_ad g 297)), (1, .int x1), (2, .int x2), (3, .int x3), (4, .int x4), (5, .int x5)]) hx hb dX7_chance_93 hl (k := 7) rfl rfl (by decide) rfl (fun ls hl => ?_)
      refine lv_goto (tgt := 60) hx hb dX7_chance_96 (by decide) ?_
      exact ih x1 x2 x3 x4 x5 v25 (x7 + 1) M21 _ _ _ hP hS (lv_sub hl [2, 3, 4, 5, 6, 7, 1, 0] rfl) h
set_option maxHeartbeats 4000000 in
set_option maxRecDepth 100000 in
theorem tX7_chance (g : tb_GT) (l : Launch) (a1 : Int32) (a2 : Int32) (a3 : Int32) (M M' : tb_Mem) (r : Int32) (h : fX7_chance a1 a2 a3 M = some (r, M')) : tb_C g l yX7_chance (Cond.code yX7_chance cX7_chance 10 (some .int)) rmX7_chance [.ref (tb_ad g 297), .int a1, .int a2, .int a3] M M' (some (.int r)) := by
  refine tb_entry (by decide) (Nat.le_of_ble_eq_true rfl) ?_
  intro P e s m below meth c F hP hS ls hl
  have F : tb_F g cX7_chance 10 RX7 (some .int) (Cond.code yX7_chance cX7_chance 10 (some .int)) P s m ([.ref (tb_ad g 297), .int a1, .int a2, .int a3] : List Value).toArray meth c := F
  have hx := F.1.1
  have hb := F.1.2.1
  have hl : lv_has ls 10 [(0, .ref (tb_ad g 297)), (1, .int a1), (2, .int a2), (3, .int a3)] := hl
  unfold fX7_chance at h
  refine lv_aload_n hx hb dX7_chance_0 rfl (lv_at hl 0 rfl) ?_
  obtain ⟨r3, M1, e2, h⟩ := tb_b2s h
  refine tb_callV F hP hS hl.1 kX7_isBasket km_X7_131 (as := []) (tX7_isBasket g l M M1 r3 e2) tb_l297 ⟨rfl, rfl, Nat.le_of_ble_eq_true rfl, Nat.le_of_ble_eq_true rfl⟩ rfl (rest := []) rfl (st1 := [.int r3]) rfl (Nat.le_of_ble_eq_true rfl) ⟨Nat.zero_le _, Nat.zero_le _⟩ dX7_chance_1 (fun H locs hP hS => ?_)
  refine lv_if_ne (tgt := 10) hx hb dX7_chance_4 (by decide) (fun c4 => ?_) (fun c4 => ?_)
  · have h := tb_ineg c4 h
    refine lv_iload_n hx hb dX7_chance_10 rfl (lv_at hl 1 rfl) ?_
    refine lv_iconst (v := 0) hx hb dX7_chance_11 (by decide) ?_
    refine lv_bipush (v := 60) hx hb dX7_chance_12 (by decide) ?_
    obtain ⟨r7, M5, e6, h⟩ := tb_b2s h
    refine tb_callS F hP hS hl.1 kX7_in km_X7_47 (as := [.int a1, .int 0, .int 60]) (tX7_in g l a1 0 60 M1 M5 r7 e6) ⟨rfl, rfl, Nat.le_of_ble_eq_true rfl, Nat.le_of_ble_eq_true rfl⟩ rfl (rest := []) rfl (st1 := [.int r7]) rfl (Nat.le_of_ble_eq_true rfl) ⟨Nat.zero_le _, Nat.zero_le _⟩ dX7_chance_14 (fun H locs hP hS => ?_)
    refine lv_if_eq (tgt := 39) hx hb dX7_chance_17 (by decide) (fun c8 => ?_) (fun c8 => ?_)
    · have h := tb_ip c8 h
      refine lv_ldc (v := (-1000001)) hx hb F.1.2.2.2.1 (tb_hts F kc_X7_62) dX7_chance_39 ?_
      exact tb_iret h F hP hS dX7_chance_41
    · have h := tb_ineg c8 h
      refine lv_iload_n hx hb dX7_chance_20 rfl (lv_at hl 2 rfl) ?_
      refine lv_iconst (v := 0) hx hb dX7_chance_21 (by decide) ?_
      refine lv_bipush (v := 10) hx hb dX7_chance_22 (by decide) ?_
      obtain ⟨r11, M9, e10, h⟩ := tb_b2s h
      refine tb_callS F hP hS hl.1 kX7_in km_X7_47 (as := [.int a2, .int 0, .int 10]) (tX7_in g l a2 0 10 M5 M9 r11 e10) ⟨rfl, rfl, Nat.le_of_ble_eq_true rfl, Nat.le_of_ble_eq_true rfl⟩ rfl (rest := []) rfl (st1 := [.int r11]) rfl (Nat.le_of_ble_eq_true rfl) ⟨Nat.zero_le _, Nat.zero_le _⟩ dX7_chance_24 (fun H locs hP hS => ?_)
      refine lv_if_eq (tgt := 39) hx hb dX7_chance_27 (by decide) (fun c12 => ?_) (fun c12 => ?_)
      · have h := tb_ip c12 h
        refine lv_ldc (v := (-1000001)) hx hb F.1.2.2.2.1 (tb_hts F kc_X7_62) dX7_chance_39 ?_
        exact tb_iret h F hP hS dX7_chance_41
      · have h := tb_ineg c12 h
        refine lv_iload_n hx hb dX7_chance_30 rfl (lv_at hl 3 rfl) ?_
        refine lv_iconst (v := 0) hx hb dX7_chance_31 (by decide) ?_
        refine lv_iconst (v := 1) hx hb dX7_chance_32 (by decide) ?_
        obtain ⟨r15, M13, e14, h⟩ := tb_b2s h
        refine tb_callS F hP hS hl.1 kX7_in km_X7_47 (as := [.int a3, .int 0, .int 1]) (tX7_in g l a3 0 1 M9 M13 r15 e14) ⟨rfl, rfl, Nat.le_of_ble_eq_true rfl, Nat.le_of_ble_eq_true rfl⟩ rfl (rest := []) rfl (st1 := [.int r15]) rfl (Nat.le_of_ble_eq_true rfl) ⟨Nat.zero_le _, Nat.zero_le _⟩ dX7_chance_33 (fun H locs hP hS => ?_)
        refine lv_if_ne (tgt := 42) hx hb dX7_chance_36 (by decide) (fun c16 => ?_) (fun c16 => ?_)
        · have h := tb_ineg c16 h
          refine lv_aload_n hx hb dX7_chance_42 rfl (lv_at hl 0 rfl) ?_
          refine tb_getr F hP tb_l297 (ci := 7) rfl inlX7 8 (by decide) rfl kf_X7_25 dX7_chance_43 ?_
          obtain ⟨r19, M17, e18, h⟩ := tb_b2s h
          refine tb_callS F hP hS hl.1 kX7_moving km_X7_152 (as := [.ref (tb_ad g 303)]) (tX7_moving g l 303 tb_l303 M13 M17 r19 e18) ⟨rfl, rfl, Nat.le_of_ble_eq_true rfl, Nat.le_of_ble_eq_true rfl⟩ rfl (rest := []) rfl (st1 := [.int r19]) rfl (Nat.le_of_ble_eq_true rfl) ⟨Nat.zero_le _, Nat.zero_le _⟩ dX7_chance_46 (fun H locs hP hS => ?_)
          refine lv_istore (lv' := [(4, .int r19), (0, .ref (tb_ad g 297)), (1, .int a1), (2, .int a2), (3, .int a3)]) hx hb dX7_chance_49 hl (by decide) rfl (fun ls hl => ?_)
          refine lv_iconst (v := 0) hx hb dX7_chance_51 (by decide) ?_
          refine lv_istore (lv' := [(5, .int 0), (4, .int r19), (0, .ref (tb_ad g 297)), (1, .int a1), (2, .int a2), (3, .int a3)]) hx hb dX7_chance_52 hl (by decide) rfl (fun ls hl => ?_)
          refine lv_iconst (v := 1) hx hb dX7_chance_54 (by decide) ?_
          refine lv_istore (lv' := [(6, .int 1), (5, .int 0), (4, .int r19), (0, .ref (tb_ad g 297)), (1, .int a1), (2, .int a2), (3, .int a3)]) hx hb dX7_chance_55 hl (by decide) rfl (fun ls hl => ?_)
          refine lv_iconst (v := 0) hx hb dX7_chance_57 (by decide) ?_
          refine lv_istore (lv' := [(7, .int 0), (6, .int 1), (5, .int 0), (4, .int r19), (0, .ref (tb_ad g 297)), (1, .int a1), (2, .int a2), (3, .int a3)]) hx hb dX7_chance_58 hl (by decide) rfl (fun ls hl => ?_)
          exact tX7_chance_L60 F tb_N a1 a2 a3 r19 0 1 0 M17 _ _ _ hP hS (lv_sub hl [4, 5, 6, 7, 3, 2, 1, 0] rfl) h
        · have h := tb_ip c16 h
          refine lv_ldc (v := (-1000001)) hx hb F.1.2.2.2.1 (tb_hts F kc_X7_62) dX7_chance_39 ?_
          exact tb_iret h F hP hS dX7_chance_41
  · have h := tb_ip c4 h
    refine lv_ldc (v := (-1000002)) hx hb F.1.2.2.2.1 (tb_hts F kc_X7_134) dX7_chance_7 ?_
    exact tb_iret h F hP hS dX7_chance_9
def fX7_drawn_J99 (K63 : Int32 → Int32 → Int64 → Int32 → Int32 → tb_Mem → Option (Int32 × tb_Mem)) (x1 : Int32) (x3 : Int32) (x4 : Int64) (x6 : Int32) (x7 : Int32) (M : tb_Mem) : Option (Int32 × tb_Mem) :=
  tb_ck ((((M 308 46) : Int32).toInt64) != 0) (tb_let (((x4 - x4 / (((M 308 46) : Int32).toInt64) * (((M 308 46) : Int32).toInt64)).toInt32) : Int32) (fun v33 => if (lg_cmp (x4 - x4 / 3 * 3) 0) = 0 then (tb_b2 (fX7_rests 308 v33 M) (fun r41 M39 => if r41 = 0 then (tb_b2 (fX7_tick 308 M39) (fun r45 M43 => K63 x1 x3 x4 (x6 + r45) (x7 + 1) M43)) else (tb_ck (tb_in (2 + v33) 63) (tb_let (tb_up M39 308 ((2 + v33).toNatClampNeg) 0) (fun M47 => tb_b2 (fX7_tick 308 M47) (fun r51 M49 => K63 x1 x3 x4 (x6 + r51) (x7 + 1) M49)))))) else (tb_b2 (fX7_tick 308 M) (fun r38 M36 => K63 x1 x3 x4 (x6 + r38) (x7 + 1) M36))))
def fX7_drawn_L63 : Nat → Int32 → Int32 → Int64 → Int32 → Int32 → tb_Mem → Option (Int32 × tb_Mem)
  | 0, _, _, _, _, _, _ => none
  | n + 1, x1, x3, x4, x6, x7, M => if x1 ≤ x7 then (if x3 = 0 then (some (x6, M)) else (tb_b2 (fX7_hanging 308 M) (fun r23 M21 => tb_b2 (fX7_ones r23 M21) (fun r26 M24 => some (r26, M24))))) else (tb_let (((x4 * 16807) - (x4 * 16807) / 2147483647 * 2147483647) : Int64) (fun v27 => if (lg_cmp (v27 - v27 / 11 * 11) 0) = 0 then (tb_b1 (fX7_frees 308 M) (fun M30 => fX7_drawn_J99 (fun z1 z3 z4 z6 z7 M => fX7_drawn_L63 n z1 z3 z4 z6 z7 M) x1 x3 v27 x6 x7 M30)) else (fX7_drawn_J99 (fun z1 z3 z4 z6 z7 M => fX7_drawn_L63 n z1 z3 z4 z6 z7 M) x1 x3 v27 x6 x7 M)))
def fX7_drawn (a1 : Int32) (a2 : Int32) (a3 : Int32) (M : tb_Mem) : Option (Int32 × tb_Mem) :=
  tb_b2 (fX7_isBasket M) (fun r3 M1 => if r3 = 0 then (some ((-1000002), M1)) else (tb_b2 (fX7_in a1 0 60 M1) (fun r7 M5 => if r7 = 0 then (some ((-1000001), M5)) else (tb_b2 (fX7_in a2 1 999999 M5) (fun r11 M9 => if r11 = 0 then (some ((-1000001), M9)) else (tb_b2 (fX7_in a3 0 1 M9) (fun r15 M13 => if r15 = 0 then (some ((-1000001), M13)) else (tb_b1 (fX7_copies 303 308 M13) (fun M17 => fX7_drawn_L63 tb_N a1 a3 ((a2 : Int32).toInt64) 0 0 M17)))))))))
abbrev rmX7_drawn : Room := { frames := 4, cells := 0, slots := 0, locals := 95 }
set_option maxHeartbeats 4000000 in
set_option maxRecDepth 100000 in
theorem tX7_drawn_J99 {g : tb_GT} {l : Launch} {P : Program} {e : Env} {s : State} {m : MethodId} {below : List Frame} {meth : Method} {c : Code} {a1 : Int32} {a2 : Int32} {a3 : Int32} {M' : tb_Mem} {r : Int32} (F : tb_F g cX7_drawn 9 RX7 (some .int) (Cond.code yX7_drawn cX7_drawn 9 (some .int)) P s m ([.ref (tb_ad g 297), .int a1, .int a2, .int a3] : List Value).toArray meth c) (K63 : Int32 → Int32 → Int64 → Int32 → Int32 → tb_Mem → Option (Int32 × tb_Mem)) (hK63 : ∀ (x1 : Int32) (x3 : Int32) (x4 : Int64) (x6 : Int32) (x7 : Int32) (M : tb_Mem) (H : Heap) (locs : List Loc) (ls : Array Slot), tb_P g M H → va_S (tb_A g) s.heap H locs → lv_has ls 9 [(0, .ref (tb_ad g 297)), (1, .int x1), (3, .int x3), (4, .long x4), (6, .int x6), (7, .int x7)] → K63 x1 x3 x4 x6 x7 M = some (r, M') → W P l e rmX7_drawn s m ([.ref (tb_ad g 297), .int a1, .int a2, .int a3] : List Value).toArray below meth c H locs 0 0 (MQ below (tb_Q g M' (some (.int r))) ([.ref (tb_ad g 297), .int a1, .int a2, .int a3] : List Value).toArray s 0 0 (tb_A g)) (F0 m 63 ls [])) (x1 : Int32) (x3 : Int32) (x4 : Int64) (x6 : Int32) (x7 : Int32) (M : tb_Mem) {H : Heap} {locs : List Loc} {ls : Array Slot} (hP : tb_P g M H) (hS : va_S (tb_A g) s.heap H locs) (hl : lv_has ls 9 [(0, .ref (tb_ad g 297)), (1, .int x1), (3, .int x3), (4, .long x4), (6, .int x6), (7, .int x7)]) (h : fX7_drawn_J99 K63 x1 x3 x4 x6 x7 M = some (r, M')) : W P l e rmX7_drawn s m ([.ref (tb_ad g 297), .int a1, .int a2, .int a3] : List Value).toArray below meth c H locs 0 0 (MQ below (tb_Q g M' (some (.int r))) ([.ref (tb_ad g 297), .int a1, .int a2, .int a3] : List Value).toArray s 0 0 (tb_A g)) (F0 m 99 ls []) := by
  have hx := F.1.1
  have hb := F.1.2.1
  unfold fX7_drawn_J99 at h
  refine lv_lload hx hb dX7_drawn_99 (lv_at hl 3 rfl) ?_
  refine lv_aload_n hx hb dX7_drawn_101 rfl (lv_at hl 0 rfl) ?_
  refine tb_getr F hP tb_l297 (ci := 7) rfl inlX7 14 (by decide) rfl kf_X7_41 dX7_drawn_102 ?_
  refine lv_bipush (v := 46) hx hb dX7_drawn_105 (by decide) ?_
  refine tb_iald F hP tb_l308 (k := 46) (by decide +kernel) (tb_inv (i := 46) (n := 63) (by decide +kernel)) dX7_drawn_107 ?_
  refine lv_i2l (v := (((M 308 46) : Int32).toInt64)) hx hb dX7_drawn_108 rfl ?_
  obtain ⟨k32, h⟩ := tb_cks h
  refine lv_lrem hx hb dX7_drawn_109 (tb_ne0l k32) ?_
  refine lv_l2i (v := ((x4 - x4 / (((M 308 46) : Int32).toInt64) * (((M 308 46) : Int32).toInt64)).toInt32)) hx hb dX7_drawn_110 rfl ?_
  obtain ⟨v33, e34, h⟩ := tb_lets h
  refine tb_nmi e34 ?_
  refine lv_istore (lv' := [(8, .int v33), (0, .ref (tb_ad g 297)), (1, .int x1), (3, .int x3), (4, .long x4), (6, .int x6), (7, .int x7)]) hx hb dX7_drawn_111 hl (by decide) rfl (fun ls hl => ?_)
  refine lv_lload hx hb dX7_drawn_113 (lv_at hl 4 rfl) ?_
  refine lv_ldc2 (v := 3) hx hb F.1.2.2.2.1 (tb_hts F kd_X7_196) dX7_drawn_115 ?_
  refine lv_lrem hx hb dX7_drawn_118 (by decide) ?_
  refine lv_lconst (v := 0) hx hb dX7_drawn_119 (by decide) ?_
  refine W.lcmp hx hb dX7_drawn_120 ?_
  refine lv_if_ne (tgt := 146) hx hb dX7_drawn_121 (by decide) (fun c35 => ?_) (fun c35 => ?_)
  · have h := tb_ineg c35 h
    refine lv_iload hx hb dX7_drawn_146 (lv_at hl 5 rfl) ?_
    refine lv_aload_n hx hb dX7_drawn_148 rfl (lv_at hl 1 rfl) ?_
    refine tb_getr F hP tb_l297 (ci := 7) rfl inlX7 14 (by decide) rfl kf_X7_41 dX7_drawn_149 ?_
    obtain ⟨r38, M36, e37, h⟩ := tb_b2s h
    refine tb_callS F hP hS hl.1 kX7_tick km_X7_138 (as := [.ref (tb_ad g 308)]) (tX7_tick g l 308 tb_l308 M M36 r38 e37) ⟨rfl, rfl, Nat.le_of_ble_eq_true rfl, Nat.le_of_ble_eq_true rfl⟩ rfl (rest := [.int x6]) rfl (st1 := [.int r38, .int x6]) rfl (Nat.le_of_ble_eq_true rfl) ⟨Nat.zero_le _, Nat.zero_le _⟩ dX7_drawn_152 (fun H locs hP hS => ?_)
    refine lv_iadd hx hb dX7_drawn_155 ?_
    refine lv_istore (lv' := [(6, .int (x6 + r38)), (8, .int v33), (0, .ref (tb_ad g 297)), (1, .int x1), (3, .int x3), (4, .long x4), (7, .int x7)]) hx hb dX7_drawn_156 hl (by decide) rfl (fun ls hl => ?_)
    refine lv_iinc (v := (x7 + 1)) (lv' := [(7, .int (x7 + 1)), (6, .int (x6 + r38)), (8, .int v33), (0, .ref (tb_ad g 297)), (1, .int x1), (3, .int x3), (4, .long x4)]) hx hb dX7_drawn_158 hl (k := 6) rfl rfl (by decide) rfl (fun ls hl => ?_)
    refine lv_goto (tgt := 63) hx hb dX7_drawn_161 (by decide) ?_
    exact hK63 x1 x3 x4 (x6 + r38) (x7 + 1) M36 _ _ _ hP hS (lv_sub hl [3, 4, 5, 6, 1, 0] rfl) h
  · have h := tb_ip c35 h
    refine lv_aload_n hx hb dX7_drawn_124 rfl (lv_at hl 1 rfl) ?_
    refine tb_getr F hP tb_l297 (ci := 7) rfl inlX7 14 (by decide) rfl kf_X7_41 dX7_drawn_125 ?_
    refine lv_iload hx hb dX7_drawn_128 (lv_at hl 0 rfl) ?_
    obtain ⟨r41, M39, e40, h⟩ := tb_b2s h
    refine tb_callS F hP hS hl.1 kX7_rests km_X7_148 (as := [.ref (tb_ad g 308), .int v33]) (tX7_rests g l 308 tb_l308 v33 M M39 r41 e40) ⟨rfl, rfl, Nat.le_of_ble_eq_true rfl, Nat.le_of_ble_eq_true rfl⟩ rfl (rest := []) rfl (st1 := [.int r41]) rfl (Nat.le_of_ble_eq_true rfl) ⟨Nat.zero_le _, Nat.zero_le _⟩ dX7_drawn_130 (fun H locs hP hS => ?_)
    refine lv_if_eq (tgt := 146) hx hb dX7_drawn_133 (by decide) (fun c42 => ?_) (fun c42 => ?_)
    · have h := tb_ip c42 h
      refine lv_iload hx hb dX7_drawn_146 (lv_at hl 5 rfl) ?_
      refine lv_aload_n hx hb dX7_drawn_148 rfl (lv_at hl 1 rfl) ?_
      refine tb_getr F hP tb_l297 (ci := 7) rfl inlX7 14 (by decide) rfl kf_X7_41 dX7_drawn_149 ?_
      obtain ⟨r45, M43, e44, h⟩ := tb_b2s h
      refine tb_callS F hP hS hl.1 kX7_tick km_X7_138 (as := [.ref (tb_ad g 308)]) (tX7_tick g l 308 tb_l308 M39 M43 r45 e44) ⟨rfl, rfl, Nat.le_of_ble_eq_true rfl, Nat.le_of_ble_eq_true rfl⟩ rfl (rest := [.int x6]) rfl (st1 := [.int r45, .int x6]) rfl (Nat.le_of_ble_eq_true rfl) ⟨Nat.zero_le _, Nat.zero_le _⟩ dX7_drawn_152 (fun H locs hP hS => ?_)
      refine lv_iadd hx hb dX7_drawn_155 ?_
      refine lv_istore (lv' := [(6, .int (x6 + r45)), (8, .int v33), (0, .ref (tb_ad g 297)), (1, .int x1), (3, .int x3), (4, .long x4), (7, .int x7)]) hx hb dX7_drawn_156 hl (by decide) rfl (fun ls hl => ?_)
      refine lv_iinc (v := (x7 + 1)) (lv' := [(7, .int (x7 + 1)), (6, .int (x6 + r45)), (8, .int v33), (0, .ref (tb_ad g 297)), (1, .int x1), (3, .int x3), (4, .long x4)]) hx hb dX7_drawn_158 hl (k := 6) rfl rfl (by decide) rfl (fun ls hl => ?_)
      refine lv_goto (tgt := 63) hx hb dX7_drawn_161 (by decide) ?_
      exact hK63 x1 x3 x4 (x6 + r45) (x7 + 1) M43 _ _ _ hP hS (lv_sub hl [3, 4, 5, 6, 1, 0] rfl) h
    · have h := tb_ineg c42 h
      refine lv_aload_n hx hb dX7_drawn_136 rfl (lv_at hl 1 rfl) ?_
      refine tb_getr F hP tb_l297 (ci := 7) rfl inlX7 14 (by decide) rfl kf_X7_41 dX7_drawn_137 ?_
      refine lv_iconst (v := 2) hx hb dX7_drawn_140 (by decide) ?_
      refine lv_iload hx hb dX7_drawn_141 (lv_at hl 0 rfl) ?_
      refine lv_iadd hx hb dX7_drawn_143 ?_
      refine lv_iconst (v := 0) hx hb dX7_drawn_144 (by decide) ?_
      obtain ⟨k46, h⟩ := tb_cks h
      obtain ⟨M47, e48, h⟩ := tb_lets h
      refine tb_iast F hP hS tb_l308 rfl (tb_inv k46) dX7_drawn_145 (fun H locs hP hS => ?_)
      rw [← e48] at hP
      refine lv_iload hx hb dX7_drawn_146 (lv_at hl 5 rfl) ?_
      refine lv_aload_n hx hb dX7_drawn_148 rfl (lv_at hl 1 rfl) ?_
      refine tb_getr F hP tb_l297 (ci := 7) rfl inlX7 14 (by decide) rfl kf_X7_41 dX7_drawn_149 ?_
      obtain ⟨r51, M49, e50, h⟩ := tb_b2s h
      refine tb_callS F hP hS hl.1 kX7_tick km_X7_138 (as := [.ref (tb_ad g 308)]) (tX7_tick g l 308 tb_l308 M47 M49 r51 e50) ⟨rfl, rfl, Nat.le_of_ble_eq_true rfl, Nat.le_of_ble_eq_true rfl⟩ rfl (rest := [.int x6]) rfl (st1 := [.int r51, .int x6]) rfl (Nat.le_of_ble_eq_true rfl) ⟨Nat.zero_le _, Nat.zero_le _⟩ dX7_drawn_152 (fun H locs hP hS => ?_)
      refine lv_iadd hx hb dX7_drawn_155 ?_
      refine lv_istore (lv' := [(6, .int (x6 + r51)), (8, .int v33), (0, .ref (tb_ad g 297)), (1, .int x1), (3, .int x3), (4, .long x4), (7, .int x7)]) hx hb dX7_drawn_156 hl (by decide) rfl (fun ls hl => ?_)
      refine lv_iinc (v := (x7 + 1)) (lv' := [(7, .int (x7 + 1)), (6, .int (x6 + r51)), (8, .int v33), (0, .ref (tb_ad g 297)), (1, .int x1), (3, .int x3), (4, .long x4)]) hx hb dX7_drawn_158 hl (k := 6) rfl rfl (by decide) rfl (fun ls hl => ?_)
      refine lv_goto (tgt := 63) hx hb dX7_drawn_161 (by decide) ?_
      exact hK63 x1 x3 x4 (x6 + r51) (x7 + 1) M49 _ _ _ hP hS (lv_sub hl [3, 4, 5, 6, 1, 0] rfl) h
set_option maxHeartbeats 4000000 in
set_option maxRecDepth 100000 in
theorem tX7_drawn_L63 {g : tb_GT} {l : Launch} {P : Program} {e : Env} {s : State} {m : MethodId} {below : List Frame} {meth : Method} {c : Code} {a1 : Int32} {a2 : Int32} {a3 : Int32} {M' : tb_Mem} {r : Int32} (F : tb_F g cX7_drawn 9 RX7 (some .int) (Cond.code yX7_drawn cX7_drawn 9 (some .int)) P s m ([.ref (tb_ad g 297), .int a1, .int a2, .int a3] : List Value).toArray meth c) :
    ∀ (n : Nat) (x1 : Int32) (x3 : Int32) (x4 : Int64) (x6 : Int32) (x7 : Int32) (M : tb_Mem) (H : Heap) (locs : List Loc) (ls : Array Slot), tb_P g M H → va_S (tb_A g) s.heap H locs → lv_has ls 9 [(0, .ref (tb_ad g 297)), (1, .int x1), (3, .int x3), (4, .long x4), (6, .int x6), (7, .int x7)] → fX7_drawn_L63 n x1 x3 x4 x6 x7 M = some (r, M') → W P l e rmX7_drawn s m ([.ref (tb_ad g 297), .int a1, .int a2, .int a3] : List Value).toArray below meth c H locs 0 0 (MQ below (tb_Q g M' (some (.int r))) ([.ref (tb_ad g 297), .int a1, .int a2, .int a3] : List Value).toArray s 0 0 (tb_A g)) (F0 m 63 ls []) := by
  have hx := F.1.1
  have hb := F.1.2.1
  intro n
  induction n with
  | zero =>
    intro x1 x3 x4 x6 x7 M H locs ls hP hS hl h
    rw [fX7_drawn_L63] at h
    exact tb_none h
  | succ n ih =>
    intro x1 x3 x4 x6 x7 M H locs ls hP hS hl h
    rw [fX7_drawn_L63] at h
    refine lv_iload hx hb dX7_drawn_63 (lv_at hl 5 rfl) ?_
    refine lv_iload_n hx hb dX7_drawn_65 rfl (lv_at hl 1 rfl) ?_
    refine lv_icmp_ge (tgt := 164) hx hb dX7_drawn_66 (by decide) (fun c19 => ?_) (fun c19 => ?_)
    · have h := tb_ip c19 h
      refine lv_iload_n hx hb dX7_drawn_164 rfl (lv_at hl 2 rfl) ?_
      refine lv_if_ne (tgt := 173) hx hb dX7_drawn_165 (by decide) (fun c20 => ?_) (fun c20 => ?_)
      · have h := tb_ineg c20 h
        refine lv_aload_n hx hb dX7_drawn_173 rfl (lv_at hl 0 rfl) ?_
        refine tb_getr F hP tb_l297 (ci := 7) rfl inlX7 14 (by decide) rfl kf_X7_41 dX7_drawn_174 ?_
        obtain ⟨r23, M21, e22, h⟩ := tb_b2s h
        refine tb_callS F hP hS hl.1 kX7_hanging km_X7_142 (as := [.ref (tb_ad g 308)]) (tX7_hanging g l 308 tb_l308 M M21 r23 e22) ⟨rfl, rfl, Nat.le_of_ble_eq_true rfl, Nat.le_of_ble_eq_true rfl⟩ rfl (rest := []) rfl (st1 := [.int r23]) rfl (Nat.le_of_ble_eq_true rfl) ⟨Nat.zero_le _, Nat.zero_le _⟩ dX7_drawn_177 (fun H locs hP hS => ?_)
        obtain ⟨r26, M24, e25, h⟩ := tb_b2s h
        refine tb_callS F hP hS hl.1 kX7_ones km_X7_155 (as := [.int r23]) (tX7_ones g l r23 M21 M24 r26 e25) ⟨rfl, rfl, Nat.le_of_ble_eq_true rfl, Nat.le_of_ble_eq_true rfl⟩ rfl (rest := []) rfl (st1 := [.int r26]) rfl (Nat.le_of_ble_eq_true rfl) ⟨Nat.zero_le _, Nat.zero_le _⟩ dX7_drawn_180 (fun H locs hP hS => ?_)
        exact tb_iret h F hP hS dX7_drawn_183
      · have h := tb_ip c20 h
        refine lv_iload hx hb dX7_drawn_168 (lv_at hl 4 rfl) ?_
        refine lv_goto (tgt := 183) hx hb dX7_drawn_170 (by decide) ?_
        exact tb_iret h F hP hS dX7_drawn_183
    · have h := tb_ineg c19 h
      refine lv_lload hx hb dX7_drawn_69 (lv_at hl 3 rfl) ?_
      refine lv_ldc2 (v := 16807) hx hb F.1.2.2.2.1 (tb_hts F kd_X7_190) dX7_drawn_71 ?_
      refine lv_lmul hx hb dX7_drawn_74 ?_
      refine lv_ldc2 (v := 2147483647) hx hb F.1.2.2.2.1 (tb_hts F kd_X7_192) dX7_drawn_75 ?_
      refine lv_lrem hx hb dX7_drawn_78 (by decide) ?_
      obtain ⟨v27, e28, h⟩ := tb_lets h
      refine tb_nml e28 ?_
      refine lv_lstore (lv' := [(4, .long v27), (0, .ref (tb_ad g 297)), (1, .int x1), (3, .int x3), (6, .int x6), (7, .int x7)]) hx hb dX7_drawn_79 hl (by decide) rfl (fun ls hl => ?_)
      refine lv_lload hx hb dX7_drawn_81 (lv_at hl 0 rfl) ?_
      refine lv_ldc2 (v := 11) hx hb F.1.2.2.2.1 (tb_hts F kd_X7_194) dX7_drawn_83 ?_
      refine lv_lrem hx hb dX7_drawn_86 (by decide) ?_
      refine lv_lconst (v := 0) hx hb dX7_drawn_87 (by decide) ?_
      refine W.lcmp hx hb dX7_drawn_88 ?_
      refine lv_if_ne (tgt := 99) hx hb dX7_drawn_89 (by decide) (fun c29 => ?_) (fun c29 => ?_)
      · have h := tb_ineg c29 h
        exact tX7_drawn_J99 F (fun z1 z3 z4 z6 z7 M => fX7_drawn_L63 n z1 z3 z4 z6 z7 M) ih x1 x3 v27 x6 x7 M hP hS (lv_sub hl [1, 2, 3, 0, 4, 5] rfl) h
      · have h := tb_ip c29 h
        refine lv_aload_n hx hb dX7_drawn_92 rfl (lv_at hl 1 rfl) ?_
        refine tb_getr F hP tb_l297 (ci := 7) rfl inlX7 14 (by decide) rfl kf_X7_41 dX7_drawn_93 ?_
        obtain ⟨M30, e31, h⟩ := tb_b1s h
        refine tb_callS F hP hS hl.1 kX7_frees km_X7_158 (as := [.ref (tb_ad g 308)]) (tX7_frees g l 308 tb_l308 M M30 e31) ⟨rfl, rfl, Nat.le_of_ble_eq_true rfl, Nat.le_of_ble_eq_true rfl⟩ rfl (rest := []) rfl (st1 := []) rfl (Nat.le_of_ble_eq_true rfl) ⟨Nat.zero_le _, Nat.zero_le _⟩ dX7_drawn_96 (fun H locs hP hS => ?_)
        exact tX7_drawn_J99 F (fun z1 z3 z4 z6 z7 M => fX7_drawn_L63 n z1 z3 z4 z6 z7 M) ih x1 x3 v27 x6 x7 M30 hP hS (lv_sub hl [1, 2, 3, 0, 4, 5] rfl) h
set_option maxHeartbeats 4000000 in
set_option maxRecDepth 100000 in
theorem tX7_drawn (g : tb_GT) (l : Launch) (a1 : Int32) (a2 : Int32) (a3 : Int32) (M M' : tb_Mem) (r : Int32) (h : fX7_drawn a1 a2 a3 M = some (r, M')) : tb_C g l yX7_drawn (Cond.code yX7_drawn cX7_drawn 9 (some .int)) rmX7_drawn [.ref (tb_ad g 297), .int a1, .int a2, .int a3] M M' (some (.int r)) := by
  refine tb_entry (by decide) (Nat.le_of_ble_eq_true rfl) ?_
  intro P e s m below meth c F hP hS ls hl
  have F : tb_F g cX7_drawn 9 RX7 (some .int) (Cond.code yX7_drawn cX7_drawn 9 (some .int)) P s m ([.ref (tb_ad g 297), .int a1, .int a2, .int a3] : List Value).toArray meth c := F
  have hx := F.1.1
  have hb := F.1.2.1
  have hl : lv_has ls 9 [(0, .ref (tb_ad g 297)), (1, .int a1), (2, .int a2), (3, .int a3)] := hl
  unfold fX7_drawn at h
  refine lv_aload_n hx hb dX7_drawn_0 rfl (lv_at hl 0 rfl) ?_
  obtain ⟨r3, M1, e2, h⟩ := tb_b2s h
  refine tb_callV F hP hS hl.1 kX7_isBasket km_X7_131 (as := []) (tX7_isBasket g l M M1 r3 e2) tb_l297 ⟨rfl, rfl, Nat.le_of_ble_eq_true rfl, Nat.le_of_ble_eq_true rfl⟩ rfl (rest := []) rfl (st1 := [.int r3]) rfl (Nat.le_of_ble_eq_true rfl) ⟨Nat.zero_le _, Nat.zero_le _⟩ dX7_drawn_1 (fun H locs hP hS => ?_)
  refine lv_if_ne (tgt := 10) hx hb dX7_drawn_4 (by decide) (fun c4 => ?_) (fun c4 => ?_)
  · have h := tb_ineg c4 h
    refine lv_iload_n hx hb dX7_drawn_10 rfl (lv_at hl 1 rfl) ?_
    refine lv_iconst (v := 0) hx hb dX7_drawn_11 (by decide) ?_
    refine lv_bipush (v := 60) hx hb dX7_drawn_12 (by decide) ?_
    obtain ⟨r7, M5, e6, h⟩ := tb_b2s h
    refine tb_callS F hP hS hl.1 kX7_in km_X7_47 (as := [.int a1, .int 0, .int 60]) (tX7_in g l a1 0 60 M1 M5 r7 e6) ⟨rfl, rfl, Nat.le_of_ble_eq_true rfl, Nat.le_of_ble_eq_true rfl⟩ rfl (rest := []) rfl (st1 := [.int r7]) rfl (Nat.le_of_ble_eq_true rfl) ⟨Nat.zero_le _, Nat.zero_le _⟩ dX7_drawn_14 (fun H locs hP hS => ?_)
    refine lv_if_eq (tgt := 39) hx hb dX7_drawn_17 (by decide) (fun c8 => ?_) (fun c8 => ?_)
    · have h := tb_ip c8 h
      refine lv_ldc (v := (-1000001)) hx hb F.1.2.2.2.1 (tb_hts F kc_X7_62) dX7_drawn_39 ?_
      exact tb_iret h F hP hS dX7_drawn_41
    · have h := tb_ineg c8 h
      refine lv_iload_n hx hb dX7_drawn_20 rfl (lv_at hl 2 rfl) ?_
      refine lv_iconst (v := 1) hx hb dX7_drawn_21 (by decide) ?_
      refine lv_ldc (v := 999999) hx hb F.1.2.2.2.1 (tb_hts F kc_X7_189) dX7_drawn_22 ?_
      obtain ⟨r11, M9, e10, h⟩ := tb_b2s h
      refine tb_callS F hP hS hl.1 kX7_in km_X7_47 (as := [.int a2, .int 1, .int 999999]) (tX7_in g l a2 1 999999 M5 M9 r11 e10) ⟨rfl, rfl, Nat.le_of_ble_eq_true rfl, Nat.le_of_ble_eq_true rfl⟩ rfl (rest := []) rfl (st1 := [.int r11]) rfl (Nat.le_of_ble_eq_true rfl) ⟨Nat.zero_le _, Nat.zero_le _⟩ dX7_drawn_24 (fun H locs hP hS => ?_)
      refine lv_if_eq (tgt := 39) hx hb dX7_drawn_27 (by decide) (fun c12 => ?_) (fun c12 => ?_)
      · have h := tb_ip c12 h
        refine lv_ldc (v := (-1000001)) hx hb F.1.2.2.2.1 (tb_hts F kc_X7_62) dX7_drawn_39 ?_
        exact tb_iret h F hP hS dX7_drawn_41
      · have h := tb_ineg c12 h
        refine lv_iload_n hx hb dX7_drawn_30 rfl (lv_at hl 3 rfl) ?_
        refine lv_iconst (v := 0) hx hb dX7_drawn_31 (by decide) ?_
        refine lv_iconst (v := 1) hx hb dX7_drawn_32 (by decide) ?_
        obtain ⟨r15, M13, e14, h⟩ := tb_b2s h
        refine tb_callS F hP hS hl.1 kX7_in km_X7_47 (as := [.int a3, .int 0, .int 1]) (tX7_in g l a3 0 1 M9 M13 r15 e14) ⟨rfl, rfl, Nat.le_of_ble_eq_true rfl, Nat.le_of_ble_eq_true rfl⟩ rfl (rest := []) rfl (st1 := [.int r15]) rfl (Nat.le_of_ble_eq_true rfl) ⟨Nat.zero_le _, Nat.zero_le _⟩ dX7_drawn_33 (fun H locs hP hS => ?_)
        refine lv_if_ne (tgt := 42) hx hb dX7_drawn_36 (by decide) (fun c16 => ?_) (fun c16 => ?_)
        · have h := tb_ineg c16 h
          refine lv_aload_n hx hb dX7_drawn_42 rfl (lv_at hl 0 rfl) ?_
          refine tb_getr F hP tb_l297 (ci := 7) rfl inlX7 8 (by decide) rfl kf_X7_25 dX7_drawn_43 ?_
          refine lv_aload_n hx hb dX7_drawn_46 rfl (lv_at hl 0 rfl) ?_
          refine tb_getr F hP tb_l297 (ci := 7) rfl inlX7 14 (by decide) rfl kf_X7_41 dX7_drawn_47 ?_
          obtain ⟨M17, e18, h⟩ := tb_b1s h
          refine tb_callS F hP hS hl.1 kX7_copies km_X7_167 (as := [.ref (tb_ad g 303), .ref (tb_ad g 308)]) (tX7_copies g l 303 308 tb_l303 tb_l308 M13 M17 e18) ⟨rfl, rfl, Nat.le_of_ble_eq_true rfl, Nat.le_of_ble_eq_true rfl⟩ rfl (rest := []) rfl (st1 := []) rfl (Nat.le_of_ble_eq_true rfl) ⟨Nat.zero_le _, Nat.zero_le _⟩ dX7_drawn_50 (fun H locs hP hS => ?_)
          refine lv_iload_n hx hb dX7_drawn_53 rfl (lv_at hl 2 rfl) ?_
          refine lv_i2l (v := ((a2 : Int32).toInt64)) hx hb dX7_drawn_54 rfl ?_
          refine lv_lstore (lv' := [(4, .long ((a2 : Int32).toInt64)), (0, .ref (tb_ad g 297)), (1, .int a1), (2, .int a2), (3, .int a3)]) hx hb dX7_drawn_55 hl (by decide) rfl (fun ls hl => ?_)
          refine lv_iconst (v := 0) hx hb dX7_drawn_57 (by decide) ?_
          refine lv_istore (lv' := [(6, .int 0), (4, .long ((a2 : Int32).toInt64)), (0, .ref (tb_ad g 297)), (1, .int a1), (2, .int a2), (3, .int a3)]) hx hb dX7_drawn_58 hl (by decide) rfl (fun ls hl => ?_)
          refine lv_iconst (v := 0) hx hb dX7_drawn_60 (by decide) ?_
          refine lv_istore (lv' := [(7, .int 0), (6, .int 0), (4, .long ((a2 : Int32).toInt64)), (0, .ref (tb_ad g 297)), (1, .int a1), (2, .int a2), (3, .int a3)]) hx hb dX7_drawn_61 hl (by decide) rfl (fun ls hl => ?_)
          exact tX7_drawn_L63 F tb_N a1 a3 ((a2 : Int32).toInt64) 0 0 M17 _ _ _ hP hS (lv_sub hl [3, 4, 6, 2, 1, 0] rfl) h
        · have h := tb_ip c16 h
          refine lv_ldc (v := (-1000001)) hx hb F.1.2.2.2.1 (tb_hts F kc_X7_62) dX7_drawn_39 ?_
          exact tb_iret h F hP hS dX7_drawn_41
  · have h := tb_ip c4 h
    refine lv_ldc (v := (-1000002)) hx hb F.1.2.2.2.1 (tb_hts F kc_X7_134) dX7_drawn_7 ?_
    exact tb_iret h F hP hS dX7_drawn_9
def fX7_image_L24 : Nat → Int32 → Int32 → tb_Mem → Option (Int32 × tb_Mem)
  | 0, _, _, _ => none
  | n + 1, x1, x2, M => if 63 ≤ x2 then (tb_ck (tb_in x1 2) (tb_let (tb_up M 306 x1.toNatClampNeg 1) (fun M11 => some (1, M11)))) else (tb_ck (tb_in x2 63) (tb_ck (tb_in ((63 * x1) + x2) 126) (tb_let (tb_up M 305 (((63 * x1) + x2).toNatClampNeg) (M 303 x2.toNatClampNeg)) (fun M15 => fX7_image_L24 n x1 (x2 + 1) M15))))
def fX7_image (a1 : Int32) (M : tb_Mem) : Option (Int32 × tb_Mem) :=
  tb_b2 (fX7_in a1 0 1 M) (fun r3 M1 => if r3 = 0 then (some ((-1000001), M1)) else (tb_b2 (fX7_isBasket M1) (fun r7 M5 => if r7 = 0 then (some ((-1000002), M5)) else (fX7_image_L24 tb_N a1 0 M5))))
abbrev rmX7_image : Room := { frames := 1, cells := 0, slots := 0, locals := 22 }
set_option maxHeartbeats 4000000 in
set_option maxRecDepth 100000 in
theorem tX7_image_L24 {g : tb_GT} {l : Launch} {P : Program} {e : Env} {s : State} {m : MethodId} {below : List Frame} {meth : Method} {c : Code} {a1 : Int32} {M' : tb_Mem} {r : Int32} (F : tb_F g cX7_image 3 RX7 (some .int) (Cond.code yX7_image cX7_image 3 (some .int)) P s m ([.ref (tb_ad g 297), .int a1] : List Value).toArray meth c) :
    ∀ (n : Nat) (x1 : Int32) (x2 : Int32) (M : tb_Mem) (H : Heap) (locs : List Loc) (ls : Array Slot), tb_P g M H → va_S (tb_A g) s.heap H locs → lv_has ls 3 [(0, .ref (tb_ad g 297)), (1, .int x1), (2, .int x2)] → fX7_image_L24 n x1 x2 M = some (r, M') → W P l e rmX7_image s m ([.ref (tb_ad g 297), .int a1] : List Value).toArray below meth c H locs 0 0 (MQ below (tb_Q g M' (some (.int r))) ([.ref (tb_ad g 297), .int a1] : List Value).toArray s 0 0 (tb_A g)) (F0 m 24 ls []) := by
  have hx := F.1.1
  have hb := F.1.2.1
  intro n
  induction n with
  | zero =>
    intro x1 x2 M H locs ls hP hS hl h
    rw [fX7_image_L24] at h
    exact tb_none h
  | succ n ih =>
    intro x1 x2 M H locs ls hP hS hl h
    rw [fX7_image_L24] at h
    refine lv_iload_n hx hb dX7_image_24 rfl (lv_at hl 2 rfl) ?_
    refine lv_bipush (v := 63) hx hb dX7_image_25 (by decide) ?_
    refine lv_icmp_ge (tgt := 53) hx hb dX7_image_27 (by decide) (fun c9 => ?_) (fun c9 => ?_)
    · have h := tb_ip c9 h
      refine lv_aload_n hx hb dX7_image_53 rfl (lv_at hl 0 rfl) ?_
      refine tb_getr F hP tb_l297 (ci := 7) rfl inlX7 11 (by decide) rfl kf_X7_34 dX7_image_54 ?_
      refine lv_iload_n hx hb dX7_image_57 rfl (lv_at hl 1 rfl) ?_
      refine lv_iconst (v := 1) hx hb dX7_image_58 (by decide) ?_
      obtain ⟨k10, h⟩ := tb_cks h
      obtain ⟨M11, e12, h⟩ := tb_lets h
      refine tb_zast F hP hS tb_l306 (x := 1) rfl (by decide +kernel) (tb_inv k10) dX7_image_59 (fun H locs hP hS => ?_)
      rw [← e12] at hP
      refine lv_iconst (v := 1) hx hb dX7_image_60 (by decide) ?_
      exact tb_iret h F hP hS dX7_image_61
    · have h := tb_ineg c9 h
      refine lv_aload_n hx hb dX7_image_30 rfl (lv_at hl 0 rfl) ?_
      refine tb_getr F hP tb_l297 (ci := 7) rfl inlX7 10 (by decide) rfl kf_X7_31 dX7_image_31 ?_
      refine lv_bipush (v := 63) hx hb dX7_image_34 (by decide) ?_
      refine lv_iload_n hx hb dX7_image_36 rfl (lv_at hl 1 rfl) ?_
      refine lv_imul hx hb dX7_image_37 ?_
      refine lv_iload_n hx hb dX7_image_38 rfl (lv_at hl 2 rfl) ?_
      refine lv_iadd hx hb dX7_image_39 ?_
      refine lv_aload_n hx hb dX7_image_40 rfl (lv_at hl 0 rfl) ?_
      refine tb_getr F hP tb_l297 (ci := 7) rfl inlX7 8 (by decide) rfl kf_X7_25 dX7_image_41 ?_
      refine lv_iload_n hx hb dX7_image_44 rfl (lv_at hl 2 rfl) ?_
      obtain ⟨k13, h⟩ := tb_cks h
      refine tb_iald F hP tb_l303 rfl (tb_inv k13) dX7_image_45 ?_
      obtain ⟨k14, h⟩ := tb_cks h
      obtain ⟨M15, e16, h⟩ := tb_lets h
      refine tb_iast F hP hS tb_l305 rfl (tb_inv k14) dX7_image_46 (fun H locs hP hS => ?_)
      rw [← e16] at hP
      refine lv_iinc (v := (x2 + 1)) (lv' := [(2, .int (x2 + 1)), (0, .ref (tb_ad g 297)), (1, .int x1)]) hx hb dX7_image_47 hl (k := 2) rfl rfl (by decide) rfl (fun ls hl => ?_)
      refine lv_goto (tgt := 24) hx hb dX7_image_50 (by decide) ?_
      exact ih x1 (x2 + 1) M15 _ _ _ hP hS (lv_sub hl [1, 2, 0] rfl) h
set_option maxHeartbeats 4000000 in
set_option maxRecDepth 100000 in
theorem tX7_image (g : tb_GT) (l : Launch) (a1 : Int32) (M M' : tb_Mem) (r : Int32) (h : fX7_image a1 M = some (r, M')) : tb_C g l yX7_image (Cond.code yX7_image cX7_image 3 (some .int)) rmX7_image [.ref (tb_ad g 297), .int a1] M M' (some (.int r)) := by
  refine tb_entry (by decide) (Nat.le_of_ble_eq_true rfl) ?_
  intro P e s m below meth c F hP hS ls hl
  have F : tb_F g cX7_image 3 RX7 (some .int) (Cond.code yX7_image cX7_image 3 (some .int)) P s m ([.ref (tb_ad g 297), .int a1] : List Value).toArray meth c := F
  have hx := F.1.1
  have hb := F.1.2.1
  have hl : lv_has ls 3 [(0, .ref (tb_ad g 297)), (1, .int a1)] := hl
  unfold fX7_image at h
  refine lv_iload_n hx hb dX7_image_0 rfl (lv_at hl 1 rfl) ?_
  refine lv_iconst (v := 0) hx hb dX7_image_1 (by decide) ?_
  refine lv_iconst (v := 1) hx hb dX7_image_2 (by decide) ?_
  obtain ⟨r3, M1, e2, h⟩ := tb_b2s h
  refine tb_callS F hP hS hl.1 kX7_in km_X7_47 (as := [.int a1, .int 0, .int 1]) (tX7_in g l a1 0 1 M M1 r3 e2) ⟨rfl, rfl, Nat.le_of_ble_eq_true rfl, Nat.le_of_ble_eq_true rfl⟩ rfl (rest := []) rfl (st1 := [.int r3]) rfl (Nat.le_of_ble_eq_true rfl) ⟨Nat.zero_le _, Nat.zero_le _⟩ dX7_image_3 (fun H locs hP hS => ?_)
  refine lv_if_ne (tgt := 12) hx hb dX7_image_6 (by decide) (fun c4 => ?_) (fun c4 => ?_)
  · have h := tb_ineg c4 h
    refine lv_aload_n hx hb dX7_image_12 rfl (lv_at hl 0 rfl) ?_
    obtain ⟨r7, M5, e6, h⟩ := tb_b2s h
    refine tb_callV F hP hS hl.1 kX7_isBasket km_X7_131 (as := []) (tX7_isBasket g l M1 M5 r7 e6) tb_l297 ⟨rfl, rfl, Nat.le_of_ble_eq_true rfl, Nat.le_of_ble_eq_true rfl⟩ rfl (rest := []) rfl (st1 := [.int r7]) rfl (Nat.le_of_ble_eq_true rfl) ⟨Nat.zero_le _, Nat.zero_le _⟩ dX7_image_13 (fun H locs hP hS => ?_)
    refine lv_if_ne (tgt := 22) hx hb dX7_image_16 (by decide) (fun c8 => ?_) (fun c8 => ?_)
    · have h := tb_ineg c8 h
      refine lv_iconst (v := 0) hx hb dX7_image_22 (by decide) ?_
      refine lv_istore_n (lv' := [(2, .int 0), (0, .ref (tb_ad g 297)), (1, .int a1)]) hx hb dX7_image_23 rfl hl (by decide) rfl (fun ls hl => ?_)
      exact tX7_image_L24 F tb_N a1 0 M5 _ _ _ hP hS (lv_sub hl [1, 2, 0] rfl) h
    · have h := tb_ip c8 h
      refine lv_ldc (v := (-1000002)) hx hb F.1.2.2.2.1 (tb_hts F kc_X7_134) dX7_image_19 ?_
      exact tb_iret h F hP hS dX7_image_21
  · have h := tb_ip c4 h
    refine lv_ldc (v := (-1000001)) hx hb F.1.2.2.2.1 (tb_hts F kc_X7_62) dX7_image_9 ?_
    exact tb_iret h F hP hS dX7_image_11
def fX7_restore_L26 : Nat → Int32 → Int32 → tb_Mem → Option (Int32 × tb_Mem)
  | 0, _, _, _ => none
  | n + 1, x1, x2, M => if 63 ≤ x2 then (tb_let (tb_up M 297 13 0) (fun M8 => some (1, M8))) else (tb_ck (tb_in ((63 * x1) + x2) 126) (tb_ck (tb_in x2 63) (tb_let (tb_up M 303 x2.toNatClampNeg (M 305 ((63 * x1) + x2).toNatClampNeg)) (fun M12 => fX7_restore_L26 n x1 (x2 + 1) M12))))
def fX7_restore (a1 : Int32) (M : tb_Mem) : Option (Int32 × tb_Mem) :=
  tb_b2 (fX7_in a1 0 1 M) (fun r3 M1 => if r3 = 0 then (some ((-1000001), M1)) else (tb_ck (tb_in a1 2) (if (M1 306 a1.toNatClampNeg) = 0 then (some ((-1000002), M1)) else (fX7_restore_L26 tb_N a1 0 M1))))
abbrev rmX7_restore : Room := { frames := 1, cells := 0, slots := 0, locals := 22 }
set_option maxHeartbeats 4000000 in
set_option maxRecDepth 100000 in
theorem tX7_restore_L26 {g : tb_GT} {l : Launch} {P : Program} {e : Env} {s : State} {m : MethodId} {below : List Frame} {meth : Method} {c : Code} {a1 : Int32} {M' : tb_Mem} {r : Int32} (F : tb_F g cX7_restore 3 RX7 (some .int) (Cond.code yX7_restore cX7_restore 3 (some .int)) P s m ([.ref (tb_ad g 297), .int a1] : List Value).toArray meth c) :
    ∀ (n : Nat) (x1 : Int32) (x2 : Int32) (M : tb_Mem) (H : Heap) (locs : List Loc) (ls : Array Slot), tb_P g M H → va_S (tb_A g) s.heap H locs → lv_has ls 3 [(0, .ref (tb_ad g 297)), (1, .int x1), (2, .int x2)] → fX7_restore_L26 n x1 x2 M = some (r, M') → W P l e rmX7_restore s m ([.ref (tb_ad g 297), .int a1] : List Value).toArray below meth c H locs 0 0 (MQ below (tb_Q g M' (some (.int r))) ([.ref (tb_ad g 297), .int a1] : List Value).toArray s 0 0 (tb_A g)) (F0 m 26 ls []) := by
  have hx := F.1.1
  have hb := F.1.2.1
  intro n
  induction n with
  | zero =>
    intro x1 x2 M H locs ls hP hS hl h
    rw [fX7_restore_L26] at h
    exact tb_none h
  | succ n ih =>
    intro x1 x2 M H locs ls hP hS hl h
    rw [fX7_restore_L26] at h
    refine lv_iload_n hx hb dX7_restore_26 rfl (lv_at hl 2 rfl) ?_
    refine lv_bipush (v := 63) hx hb dX7_restore_27 (by decide) ?_
    refine lv_icmp_ge (tgt := 55) hx hb dX7_restore_29 (by decide) (fun c7 => ?_) (fun c7 => ?_)
    · have h := tb_ip c7 h
      refine lv_aload_n hx hb dX7_restore_55 rfl (lv_at hl 0 rfl) ?_
      refine lv_iconst (v := 0) hx hb dX7_restore_56 (by decide) ?_
      obtain ⟨M8, e9, h⟩ := tb_lets h
      refine tb_puti F hP hS tb_l297 (ci := 7) rfl inlX7 tyX7 tyX7_ok nmX7 13 (by decide) rfl rfl rfl rfl kf_X7_109 dX7_restore_57 (fun H locs hP hS => ?_)
      rw [← e9] at hP
      refine lv_iconst (v := 1) hx hb dX7_restore_60 (by decide) ?_
      exact tb_iret h F hP hS dX7_restore_61
    · have h := tb_ineg c7 h
      refine lv_aload_n hx hb dX7_restore_32 rfl (lv_at hl 0 rfl) ?_
      refine tb_getr F hP tb_l297 (ci := 7) rfl inlX7 8 (by decide) rfl kf_X7_25 dX7_restore_33 ?_
      refine lv_iload_n hx hb dX7_restore_36 rfl (lv_at hl 2 rfl) ?_
      refine lv_aload_n hx hb dX7_restore_37 rfl (lv_at hl 0 rfl) ?_
      refine tb_getr F hP tb_l297 (ci := 7) rfl inlX7 10 (by decide) rfl kf_X7_31 dX7_restore_38 ?_
      refine lv_bipush (v := 63) hx hb dX7_restore_41 (by decide) ?_
      refine lv_iload_n hx hb dX7_restore_43 rfl (lv_at hl 1 rfl) ?_
      refine lv_imul hx hb dX7_restore_44 ?_
      refine lv_iload_n hx hb dX7_restore_45 rfl (lv_at hl 2 rfl) ?_
      refine lv_iadd hx hb dX7_restore_46 ?_
      obtain ⟨k10, h⟩ := tb_cks h
      refine tb_iald F hP tb_l305 rfl (tb_inv k10) dX7_restore_47 ?_
      obtain ⟨k11, h⟩ := tb_cks h
      obtain ⟨M12, e13, h⟩ := tb_lets h
      refine tb_iast F hP hS tb_l303 rfl (tb_inv k11) dX7_restore_48 (fun H locs hP hS => ?_)
      rw [← e13] at hP
      refine lv_iinc (v := (x2 + 1)) (lv' := [(2, .int (x2 + 1)), (0, .ref (tb_ad g 297)), (1, .int x1)]) hx hb dX7_restore_49 hl (k := 2) rfl rfl (by decide) rfl (fun ls hl => ?_)
      refine lv_goto (tgt := 26) hx hb dX7_restore_52 (by decide) ?_
      exact ih x1 (x2 + 1) M12 _ _ _ hP hS (lv_sub hl [1, 2, 0] rfl) h
set_option maxHeartbeats 4000000 in
set_option maxRecDepth 100000 in
theorem tX7_restore (g : tb_GT) (l : Launch) (a1 : Int32) (M M' : tb_Mem) (r : Int32) (h : fX7_restore a1 M = some (r, M')) : tb_C g l yX7_restore (Cond.code yX7_restore cX7_restore 3 (some .int)) rmX7_restore [.ref (tb_ad g 297), .int a1] M M' (some (.int r)) := by
  refine tb_entry (by decide) (Nat.le_of_ble_eq_true rfl) ?_
  intro P e s m below meth c F hP hS ls hl
  have F : tb_F g cX7_restore 3 RX7 (some .int) (Cond.code yX7_restore cX7_restore 3 (some .int)) P s m ([.ref (tb_ad g 297), .int a1] : List Value).toArray meth c := F
  have hx := F.1.1
  have hb := F.1.2.1
  have hl : lv_has ls 3 [(0, .ref (tb_ad g 297)), (1, .int a1)] := hl
  unfold fX7_restore at h
  refine lv_iload_n hx hb dX7_restore_0 rfl (lv_at hl 1 rfl) ?_
  refine lv_iconst (v := 0) hx hb dX7_restore_1 (by decide) ?_
  refine lv_iconst (v := 1) hx hb dX7_restore_2 (by decide) ?_
  obtain ⟨r3, M1, e2, h⟩ := tb_b2s h
  refine tb_callS F hP hS hl.1 kX7_in km_X7_47 (as := [.int a1, .int 0, .int 1]) (tX7_in g l a1 0 1 M M1 r3 e2) ⟨rfl, rfl, Nat.le_of_ble_eq_true rfl, Nat.le_of_ble_eq_true rfl⟩ rfl (rest := []) rfl (st1 := [.int r3]) rfl (Nat.le_of_ble_eq_true rfl) ⟨Nat.zero_le _, Nat.zero_le _⟩ dX7_restore_3 (fun H locs hP hS => ?_)
  refine lv_if_ne (tgt := 12) hx hb dX7_restore_6 (by decide) (fun c4 => ?_) (fun c4 => ?_)
  · have h := tb_ineg c4 h
    refine lv_aload_n hx hb dX7_restore_12 rfl (lv_at hl 0 rfl) ?_
    refine tb_getr F hP tb_l297 (ci := 7) rfl inlX7 11 (by decide) rfl kf_X7_34 dX7_restore_13 ?_
    refine lv_iload_n hx hb dX7_restore_16 rfl (lv_at hl 1 rfl) ?_
    obtain ⟨k5, h⟩ := tb_cks h
    refine tb_zald F hP tb_l306 rfl (tb_inv k5) dX7_restore_17 ?_
    refine lv_if_ne (tgt := 24) hx hb dX7_restore_18 (by decide) (fun c6 => ?_) (fun c6 => ?_)
    · have h := tb_ineg c6 h
      refine lv_iconst (v := 0) hx hb dX7_restore_24 (by decide) ?_
      refine lv_istore_n (lv' := [(2, .int 0), (0, .ref (tb_ad g 297)), (1, .int a1)]) hx hb dX7_restore_25 rfl hl (by decide) rfl (fun ls hl => ?_)
      exact tX7_restore_L26 F tb_N a1 0 M1 _ _ _ hP hS (lv_sub hl [1, 2, 0] rfl) h
    · have h := tb_ip c6 h
      refine lv_ldc (v := (-1000002)) hx hb F.1.2.2.2.1 (tb_hts F kc_X7_134) dX7_restore_21 ?_
      exact tb_iret h F hP hS dX7_restore_23
  · have h := tb_ip c4 h
    refine lv_ldc (v := (-1000001)) hx hb F.1.2.2.2.1 (tb_hts F kc_X7_62) dX7_restore_9 ?_
    exact tb_iret h F hP hS dX7_restore_11
def fX7_kind (a1 : Int32) (M : tb_Mem) : Option (Int32 × tb_Mem) :=
  tb_b2 (fX7_isBar a1 M) (fun r3 M1 => if r3 = 0 then (some ((-1000001), M1)) else (tb_ck (tb_in (55 + a1) 63) (some ((M1 303 (55 + a1).toNatClampNeg), M1))))
abbrev rmX7_kind : Room := { frames := 2, cells := 0, slots := 0, locals := 43 }
set_option maxHeartbeats 4000000 in
set_option maxRecDepth 100000 in
theorem tX7_kind (g : tb_GT) (l : Launch) (a1 : Int32) (M M' : tb_Mem) (r : Int32) (h : fX7_kind a1 M = some (r, M')) : tb_C g l yX7_kind (Cond.code yX7_kind cX7_kind 2 (some .int)) rmX7_kind [.ref (tb_ad g 297), .int a1] M M' (some (.int r)) := by
  refine tb_entry (by decide) (Nat.le_of_ble_eq_true rfl) ?_
  intro P e s m below meth c F hP hS ls hl
  have F : tb_F g cX7_kind 2 RX7 (some .int) (Cond.code yX7_kind cX7_kind 2 (some .int)) P s m ([.ref (tb_ad g 297), .int a1] : List Value).toArray meth c := F
  have hx := F.1.1
  have hb := F.1.2.1
  have hl : lv_has ls 2 [(0, .ref (tb_ad g 297)), (1, .int a1)] := hl
  unfold fX7_kind at h
  refine lv_aload_n hx hb dX7_kind_0 rfl (lv_at hl 0 rfl) ?_
  refine lv_iload_n hx hb dX7_kind_1 rfl (lv_at hl 1 rfl) ?_
  obtain ⟨r3, M1, e2, h⟩ := tb_b2s h
  refine tb_callV F hP hS hl.1 kX7_isBar km_X7_145 (as := [.int a1]) (tX7_isBar g l a1 M M1 r3 e2) tb_l297 ⟨rfl, rfl, Nat.le_of_ble_eq_true rfl, Nat.le_of_ble_eq_true rfl⟩ rfl (rest := []) rfl (st1 := [.int r3]) rfl (Nat.le_of_ble_eq_true rfl) ⟨Nat.zero_le _, Nat.zero_le _⟩ dX7_kind_2 (fun H locs hP hS => ?_)
  refine lv_if_eq (tgt := 20) hx hb dX7_kind_5 (by decide) (fun c4 => ?_) (fun c4 => ?_)
  · have h := tb_ip c4 h
    refine lv_ldc (v := (-1000001)) hx hb F.1.2.2.2.1 (tb_hts F kc_X7_62) dX7_kind_20 ?_
    exact tb_iret h F hP hS dX7_kind_22
  · have h := tb_ineg c4 h
    refine lv_aload_n hx hb dX7_kind_8 rfl (lv_at hl 0 rfl) ?_
    refine tb_getr F hP tb_l297 (ci := 7) rfl inlX7 8 (by decide) rfl kf_X7_25 dX7_kind_9 ?_
    refine lv_bipush (v := 55) hx hb dX7_kind_12 (by decide) ?_
    refine lv_iload_n hx hb dX7_kind_14 rfl (lv_at hl 1 rfl) ?_
    refine lv_iadd hx hb dX7_kind_15 ?_
    obtain ⟨k5, h⟩ := tb_cks h
    refine tb_iald F hP tb_l303 rfl (tb_inv k5) dX7_kind_16 ?_
    refine lv_goto (tgt := 22) hx hb dX7_kind_17 (by decide) ?_
    exact tb_iret h F hP hS dX7_kind_22
def fX7_as (a1 : Int32) (a2 : Int32) (M : tb_Mem) : Option (Int32 × tb_Mem) :=
  tb_b2 (fX7_isBar a1 M) (fun r3 M1 => if r3 = 0 then (some ((-1000001), M1)) else (tb_b2 (fX7_in a2 0 5 M1) (fun r7 M5 => if r7 = 0 then (some ((-1000001), M5)) else (tb_ck (tb_in (55 + a1) 63) (tb_let ((M5 303 (55 + a1).toNatClampNeg) : Int32) (fun v10 => if a2 = 0 then (tb_b2 (fX7_ends ((if (1 : Int32) = 0 then (-1000013) else a1) : Int32) M5) (fun r16 M14 => some (r16, M14))) else (if a2 = v10 then (tb_b2 (fX7_ends ((if (1 : Int32) = 0 then (-1000013) else a1) : Int32) M5) (fun r21 M19 => some (r21, M19))) else (if a2 = 1 then (tb_let (((if v10 < 4 then 1 else (if a2 = 4 then (if v10 = 5 then 1 else 0) else 0)) : Int32) : Int32) (fun v34 => tb_b2 (fX7_ends ((if v34 = 0 then (-1000013) else a1) : Int32) M5) (fun r39 M37 => some (r39, M37)))) else (tb_let (((if a2 = 4 then (if v10 = 5 then 1 else 0) else 0) : Int32) : Int32) (fun v25 => tb_b2 (fX7_ends ((if v25 = 0 then (-1000013) else a1) : Int32) M5) (fun r30 M28 => some (r30, M28))))))))))))
abbrev rmX7_as : Room := { frames := 2, cells := 0, slots := 0, locals := 43 }
set_option maxHeartbeats 4000000 in
set_option maxRecDepth 100000 in
theorem tX7_as (g : tb_GT) (l : Launch) (a1 : Int32) (a2 : Int32) (M M' : tb_Mem) (r : Int32) (h : fX7_as a1 a2 M = some (r, M')) : tb_C g l yX7_as (Cond.code yX7_as cX7_as 5 (some .int)) rmX7_as [.ref (tb_ad g 297), .int a1, .int a2] M M' (some (.int r)) := by
  refine tb_entry (by decide) (Nat.le_of_ble_eq_true rfl) ?_
  intro P e s m below meth c F hP hS ls hl
  have F : tb_F g cX7_as 5 RX7 (some .int) (Cond.code yX7_as cX7_as 5 (some .int)) P s m ([.ref (tb_ad g 297), .int a1, .int a2] : List Value).toArray meth c := F
  have hx := F.1.1
  have hb := F.1.2.1
  have hl : lv_has ls 5 [(0, .ref (tb_ad g 297)), (1, .int a1), (2, .int a2)] := hl
  unfold fX7_as at h
  refine lv_aload_n hx hb dX7_as_0 rfl (lv_at hl 0 rfl) ?_
  refine lv_iload_n hx hb dX7_as_1 rfl (lv_at hl 1 rfl) ?_
  obtain ⟨r3, M1, e2, h⟩ := tb_b2s h
  refine tb_callV F hP hS hl.1 kX7_isBar km_X7_145 (as := [.int a1]) (tX7_isBar g l a1 M M1 r3 e2) tb_l297 ⟨rfl, rfl, Nat.le_of_ble_eq_true rfl, Nat.le_of_ble_eq_true rfl⟩ rfl (rest := []) rfl (st1 := [.int r3]) rfl (Nat.le_of_ble_eq_true rfl) ⟨Nat.zero_le _, Nat.zero_le _⟩ dX7_as_2 (fun H locs hP hS => ?_)
  refine lv_if_eq (tgt := 17) hx hb dX7_as_5 (by decide) (fun c4 => ?_) (fun c4 => ?_)
  · have h := tb_ip c4 h
    refine lv_ldc (v := (-1000001)) hx hb F.1.2.2.2.1 (tb_hts F kc_X7_62) dX7_as_17 ?_
    exact tb_iret h F hP hS dX7_as_19
  · have h := tb_ineg c4 h
    refine lv_iload_n hx hb dX7_as_8 rfl (lv_at hl 2 rfl) ?_
    refine lv_iconst (v := 0) hx hb dX7_as_9 (by decide) ?_
    refine lv_iconst (v := 5) hx hb dX7_as_10 (by decide) ?_
    obtain ⟨r7, M5, e6, h⟩ := tb_b2s h
    refine tb_callS F hP hS hl.1 kX7_in km_X7_47 (as := [.int a2, .int 0, .int 5]) (tX7_in g l a2 0 5 M1 M5 r7 e6) ⟨rfl, rfl, Nat.le_of_ble_eq_true rfl, Nat.le_of_ble_eq_true rfl⟩ rfl (rest := []) rfl (st1 := [.int r7]) rfl (Nat.le_of_ble_eq_true rfl) ⟨Nat.zero_le _, Nat.zero_le _⟩ dX7_as_11 (fun H locs hP hS => ?_)
    refine lv_if_ne (tgt := 20) hx hb dX7_as_14 (by decide) (fun c8 => ?_) (fun c8 => ?_)
    · have h := tb_ineg c8 h
      refine lv_aload_n hx hb dX7_as_20 rfl (lv_at hl 0 rfl) ?_
      refine tb_getr F hP tb_l297 (ci := 7) rfl inlX7 8 (by decide) rfl kf_X7_25 dX7_as_21 ?_
      refine lv_bipush (v := 55) hx hb dX7_as_24 (by decide) ?_
      refine lv_iload_n hx hb dX7_as_26 rfl (lv_at hl 1 rfl) ?_
      refine lv_iadd hx hb dX7_as_27 ?_
      obtain ⟨k9, h⟩ := tb_cks h
      refine tb_iald F hP tb_l303 rfl (tb_inv k9) dX7_as_28 ?_
      obtain ⟨v10, e11, h⟩ := tb_lets h
      refine tb_nmi e11 ?_
      refine lv_istore_n (lv' := [(3, .int v10), (0, .ref (tb_ad g 297)), (1, .int a1), (2, .int a2)]) hx hb dX7_as_29 rfl hl (by decide) rfl (fun ls hl => ?_)
      refine lv_iload_n hx hb dX7_as_30 rfl (lv_at hl 3 rfl) ?_
      refine lv_if_eq (tgt := 59) hx hb dX7_as_31 (by decide) (fun c12 => ?_) (fun c12 => ?_)
      · have h := tb_ip c12 h
        refine lv_iconst (v := 1) hx hb dX7_as_59 (by decide) ?_
        refine lv_goto (tgt := 64) hx hb dX7_as_60 (by decide) ?_
        refine lv_istore (lv' := [(4, .int 1), (3, .int v10), (0, .ref (tb_ad g 297)), (1, .int a1), (2, .int a2)]) hx hb dX7_as_64 hl (by decide) rfl (fun ls hl => ?_)
        refine lv_aload_n hx hb dX7_as_66 rfl (lv_at hl 2 rfl) ?_
        refine lv_iload hx hb dX7_as_67 (lv_at hl 0 rfl) ?_
        refine tb_mrg (g2 := F0 m 78 ls [.int ((if (1 : Int32) = 0 then (-1000013) else a1) : Int32), .ref (tb_ad g 297)]) (fun hJ => ?_) ?_
        · refine lv_if_eq (tgt := 76) hx hb dX7_as_69 (by decide) (fun c13 => ?_) (fun c13 => ?_)
          · refine lv_ldc (v := (-1000013)) hx hb F.1.2.2.2.1 (tb_hts F kc_X7_198) dX7_as_76 ?_
            rw [if_pos c13] at hJ
            exact hJ
          · refine lv_iload_n hx hb dX7_as_72 rfl (lv_at hl 3 rfl) ?_
            refine lv_goto (tgt := 78) hx hb dX7_as_73 (by decide) ?_
            rw [if_neg c13] at hJ
            exact hJ
        obtain ⟨r16, M14, e15, h⟩ := tb_b2s h
        refine tb_callV F hP hS hl.1 kX7_ends km_X7_64 (as := [.int ((if (1 : Int32) = 0 then (-1000013) else a1) : Int32)]) (tX7_ends g l ((if (1 : Int32) = 0 then (-1000013) else a1) : Int32) M5 M14 r16 e15) tb_l297 ⟨rfl, rfl, Nat.le_of_ble_eq_true rfl, Nat.le_of_ble_eq_true rfl⟩ rfl (rest := []) rfl (st1 := [.int r16]) rfl (Nat.le_of_ble_eq_true rfl) ⟨Nat.zero_le _, Nat.zero_le _⟩ dX7_as_78 (fun H locs hP hS => ?_)
        exact tb_iret h F hP hS dX7_as_81
      · have h := tb_ineg c12 h
        refine lv_iload_n hx hb dX7_as_34 rfl (lv_at hl 3 rfl) ?_
        refine lv_iload_n hx hb dX7_as_35 rfl (lv_at hl 0 rfl) ?_
        refine lv_icmp_eq (tgt := 59) hx hb dX7_as_36 (by decide) (fun c17 => ?_) (fun c17 => ?_)
        · have h := tb_ip c17 h
          refine lv_iconst (v := 1) hx hb dX7_as_59 (by decide) ?_
          refine lv_goto (tgt := 64) hx hb dX7_as_60 (by decide) ?_
          refine lv_istore (lv' := [(4, .int 1), (3, .int v10), (0, .ref (tb_ad g 297)), (1, .int a1), (2, .int a2)]) hx hb dX7_as_64 hl (by decide) rfl (fun ls hl => ?_)
          refine lv_aload_n hx hb dX7_as_66 rfl (lv_at hl 2 rfl) ?_
          refine lv_iload hx hb dX7_as_67 (lv_at hl 0 rfl) ?_
          refine tb_mrg (g2 := F0 m 78 ls [.int ((if (1 : Int32) = 0 then (-1000013) else a1) : Int32), .ref (tb_ad g 297)]) (fun hJ => ?_) ?_
          · refine lv_if_eq (tgt := 76) hx hb dX7_as_69 (by decide) (fun c18 => ?_) (fun c18 => ?_)
            · refine lv_ldc (v := (-1000013)) hx hb F.1.2.2.2.1 (tb_hts F kc_X7_198) dX7_as_76 ?_
              rw [if_pos c18] at hJ
              exact hJ
            · refine lv_iload_n hx hb dX7_as_72 rfl (lv_at hl 3 rfl) ?_
              refine lv_goto (tgt := 78) hx hb dX7_as_73 (by decide) ?_
              rw [if_neg c18] at hJ
              exact hJ
          obtain ⟨r21, M19, e20, h⟩ := tb_b2s h
          refine tb_callV F hP hS hl.1 kX7_ends km_X7_64 (as := [.int ((if (1 : Int32) = 0 then (-1000013) else a1) : Int32)]) (tX7_ends g l ((if (1 : Int32) = 0 then (-1000013) else a1) : Int32) M5 M19 r21 e20) tb_l297 ⟨rfl, rfl, Nat.le_of_ble_eq_true rfl, Nat.le_of_ble_eq_true rfl⟩ rfl (rest := []) rfl (st1 := [.int r21]) rfl (Nat.le_of_ble_eq_true rfl) ⟨Nat.zero_le _, Nat.zero_le _⟩ dX7_as_78 (fun H locs hP hS => ?_)
          exact tb_iret h F hP hS dX7_as_81
        · have h := tb_ineg c17 h
          refine lv_iload_n hx hb dX7_as_39 rfl (lv_at hl 3 rfl) ?_
          refine lv_iconst (v := 1) hx hb dX7_as_40 (by decide) ?_
          refine lv_icmp_ne (tgt := 49) hx hb dX7_as_41 (by decide) (fun c22 => ?_) (fun c22 => ?_)
          · have h := tb_ineg c22 h
            refine lv_iload_n hx hb dX7_as_49 rfl (lv_at hl 3 rfl) ?_
            refine lv_iconst (v := 4) hx hb dX7_as_50 (by decide) ?_
            refine tb_mrg (g2 := F0 m 64 ls [.int ((if a2 = 4 then (if v10 = 5 then 1 else 0) else 0) : Int32)]) (fun hJ => ?_) ?_
            · refine lv_icmp_ne (tgt := 63) hx hb dX7_as_51 (by decide) (fun c23 => ?_) (fun c23 => ?_)
              · refine lv_iconst (v := 0) hx hb dX7_as_63 (by decide) ?_
                rw [if_neg c23] at hJ
                exact hJ
              · refine lv_iload_n hx hb dX7_as_54 rfl (lv_at hl 0 rfl) ?_
                refine lv_iconst (v := 5) hx hb dX7_as_55 (by decide) ?_
                refine lv_icmp_ne (tgt := 63) hx hb dX7_as_56 (by decide) (fun c24 => ?_) (fun c24 => ?_)
                · refine lv_iconst (v := 0) hx hb dX7_as_63 (by decide) ?_
                  rw [if_pos c23, if_neg c24] at hJ
                  exact hJ
                · refine lv_iconst (v := 1) hx hb dX7_as_59 (by decide) ?_
                  refine lv_goto (tgt := 64) hx hb dX7_as_60 (by decide) ?_
                  rw [if_pos c23, if_pos c24] at hJ
                  exact hJ
            obtain ⟨v25, e26, h⟩ := tb_lets h
            refine tb_nmi e26 ?_
            refine lv_istore (lv' := [(4, .int v25), (3, .int v10), (0, .ref (tb_ad g 297)), (1, .int a1), (2, .int a2)]) hx hb dX7_as_64 hl (by decide) rfl (fun ls hl => ?_)
            refine lv_aload_n hx hb dX7_as_66 rfl (lv_at hl 2 rfl) ?_
            refine lv_iload hx hb dX7_as_67 (lv_at hl 0 rfl) ?_
            refine tb_mrg (g2 := F0 m 78 ls [.int ((if v25 = 0 then (-1000013) else a1) : Int32), .ref (tb_ad g 297)]) (fun hJ => ?_) ?_
            · refine lv_if_eq (tgt := 76) hx hb dX7_as_69 (by decide) (fun c27 => ?_) (fun c27 => ?_)
              · refine lv_ldc (v := (-1000013)) hx hb F.1.2.2.2.1 (tb_hts F kc_X7_198) dX7_as_76 ?_
                rw [if_pos c27] at hJ
                exact hJ
              · refine lv_iload_n hx hb dX7_as_72 rfl (lv_at hl 3 rfl) ?_
                refine lv_goto (tgt := 78) hx hb dX7_as_73 (by decide) ?_
                rw [if_neg c27] at hJ
                exact hJ
            obtain ⟨r30, M28, e29, h⟩ := tb_b2s h
            refine tb_callV F hP hS hl.1 kX7_ends km_X7_64 (as := [.int ((if v25 = 0 then (-1000013) else a1) : Int32)]) (tX7_ends g l ((if v25 = 0 then (-1000013) else a1) : Int32) M5 M28 r30 e29) tb_l297 ⟨rfl, rfl, Nat.le_of_ble_eq_true rfl, Nat.le_of_ble_eq_true rfl⟩ rfl (rest := []) rfl (st1 := [.int r30]) rfl (Nat.le_of_ble_eq_true rfl) ⟨Nat.zero_le _, Nat.zero_le _⟩ dX7_as_78 (fun H locs hP hS => ?_)
            exact tb_iret h F hP hS dX7_as_81
          · have h := tb_ip c22 h
            refine lv_iload_n hx hb dX7_as_44 rfl (lv_at hl 0 rfl) ?_
            refine lv_iconst (v := 4) hx hb dX7_as_45 (by decide) ?_
            refine tb_mrg (g2 := F0 m 64 ls [.int ((if v10 < 4 then 1 else (if a2 = 4 then (if v10 = 5 then 1 else 0) else 0)) : Int32)]) (fun hJ => ?_) ?_
            · refine lv_icmp_lt (tgt := 59) hx hb dX7_as_46 (by decide) (fun c31 => ?_) (fun c31 => ?_)
              · refine lv_iconst (v := 1) hx hb dX7_as_59 (by decide) ?_
                refine lv_goto (tgt := 64) hx hb dX7_as_60 (by decide) ?_
                rw [if_pos c31] at hJ
                exact hJ
              · refine lv_iload_n hx hb dX7_as_49 rfl (lv_at hl 3 rfl) ?_
                refine lv_iconst (v := 4) hx hb dX7_as_50 (by decide) ?_
                refine lv_icmp_ne (tgt := 63) hx hb dX7_as_51 (by decide) (fun c32 => ?_) (fun c32 => ?_)
                · refine lv_iconst (v := 0) hx hb dX7_as_63 (by decide) ?_
                  rw [if_neg c31, if_neg c32] at hJ
                  exact hJ
                · refine lv_iload_n hx hb dX7_as_54 rfl (lv_at hl 0 rfl) ?_
                  refine lv_iconst (v := 5) hx hb dX7_as_55 (by decide) ?_
                  refine lv_icmp_ne (tgt := 63) hx hb dX7_as_56 (by decide) (fun c33 => ?_) (fun c33 => ?_)
                  · refine lv_iconst (v := 0) hx hb dX7_as_63 (by decide) ?_
                    rw [if_neg c31, if_pos c32, if_neg c33] at hJ
                    exact hJ
                  · refine lv_iconst (v := 1) hx hb dX7_as_59 (by decide) ?_
                    refine lv_goto (tgt := 64) hx hb dX7_as_60 (by decide) ?_
                    rw [if_neg c31, if_pos c32, if_pos c33] at hJ
                    exact hJ
            obtain ⟨v34, e35, h⟩ := tb_lets h
            refine tb_nmi e35 ?_
            refine lv_istore (lv' := [(4, .int v34), (3, .int v10), (0, .ref (tb_ad g 297)), (1, .int a1), (2, .int a2)]) hx hb dX7_as_64 hl (by decide) rfl (fun ls hl => ?_)
            refine lv_aload_n hx hb dX7_as_66 rfl (lv_at hl 2 rfl) ?_
            refine lv_iload hx hb dX7_as_67 (lv_at hl 0 rfl) ?_
            refine tb_mrg (g2 := F0 m 78 ls [.int ((if v34 = 0 then (-1000013) else a1) : Int32), .ref (tb_ad g 297)]) (fun hJ => ?_) ?_
            · refine lv_if_eq (tgt := 76) hx hb dX7_as_69 (by decide) (fun c36 => ?_) (fun c36 => ?_)
              · refine lv_ldc (v := (-1000013)) hx hb F.1.2.2.2.1 (tb_hts F kc_X7_198) dX7_as_76 ?_
                rw [if_pos c36] at hJ
                exact hJ
              · refine lv_iload_n hx hb dX7_as_72 rfl (lv_at hl 3 rfl) ?_
                refine lv_goto (tgt := 78) hx hb dX7_as_73 (by decide) ?_
                rw [if_neg c36] at hJ
                exact hJ
            obtain ⟨r39, M37, e38, h⟩ := tb_b2s h
            refine tb_callV F hP hS hl.1 kX7_ends km_X7_64 (as := [.int ((if v34 = 0 then (-1000013) else a1) : Int32)]) (tX7_ends g l ((if v34 = 0 then (-1000013) else a1) : Int32) M5 M37 r39 e38) tb_l297 ⟨rfl, rfl, Nat.le_of_ble_eq_true rfl, Nat.le_of_ble_eq_true rfl⟩ rfl (rest := []) rfl (st1 := [.int r39]) rfl (Nat.le_of_ble_eq_true rfl) ⟨Nat.zero_le _, Nat.zero_le _⟩ dX7_as_78 (fun H locs hP hS => ?_)
            exact tb_iret h F hP hS dX7_as_81
    · have h := tb_ip c8 h
      refine lv_ldc (v := (-1000001)) hx hb F.1.2.2.2.1 (tb_hts F kc_X7_62) dX7_as_17 ?_
      exact tb_iret h F hP hS dX7_as_19
def fX7_begins (a1 : Int32) (M : tb_Mem) : Option (tb_Mem) :=
  if 16 ≤ (M 297 16) then (some M) else (tb_ck (tb_in (M 297 16) 16) (tb_let (tb_up M 309 ((M 297 16).toNatClampNeg) a1) (fun M3 => tb_let (tb_up M3 297 16 ((M3 297 16) + 1)) (fun M5 => some M5))))
abbrev rmX7_begins : Room := { frames := 0, cells := 0, slots := 0, locals := 0 }
set_option maxHeartbeats 4000000 in
set_option maxRecDepth 100000 in
theorem tX7_begins (g : tb_GT) (l : Launch) (a1 : Int32) (M M' : tb_Mem) (h : fX7_begins a1 M = some M') : tb_C g l yX7_begins (Cond.code yX7_begins cX7_begins 2 none) rmX7_begins [.ref (tb_ad g 297), .int a1] M M' none := by
  refine tb_entry (by decide) (Nat.le_of_ble_eq_true rfl) ?_
  intro P e s m below meth c F hP hS ls hl
  have F : tb_F g cX7_begins 2 RX7 none (Cond.code yX7_begins cX7_begins 2 none) P s m ([.ref (tb_ad g 297), .int a1] : List Value).toArray meth c := F
  have hx := F.1.1
  have hb := F.1.2.1
  have hl : lv_has ls 2 [(0, .ref (tb_ad g 297)), (1, .int a1)] := hl
  unfold fX7_begins at h
  refine lv_aload_n hx hb dX7_begins_0 rfl (lv_at hl 0 rfl) ?_
  refine tb_geti F hP tb_l297 (ci := 7) rfl inlX7 16 (by decide) rfl kf_X7_199 dX7_begins_1 ?_
  refine lv_aload_n hx hb dX7_begins_4 rfl (lv_at hl 0 rfl) ?_
  refine tb_getr F hP tb_l297 (ci := 7) rfl inlX7 15 (by decide) rfl kf_X7_44 dX7_begins_5 ?_
  refine tb_alen F hP tb_l309 (v := 16) (by decide +kernel) dX7_begins_8 ?_
  refine lv_icmp_ge (tgt := 32) hx hb dX7_begins_9 (by decide) (fun c1 => ?_) (fun c1 => ?_)
  · have h := tb_ip c1 h
    exact tb_vret h F hP hS dX7_begins_32
  · have h := tb_ineg c1 h
    refine lv_aload_n hx hb dX7_begins_12 rfl (lv_at hl 0 rfl) ?_
    refine tb_getr F hP tb_l297 (ci := 7) rfl inlX7 15 (by decide) rfl kf_X7_44 dX7_begins_13 ?_
    refine lv_aload_n hx hb dX7_begins_16 rfl (lv_at hl 0 rfl) ?_
    refine tb_geti F hP tb_l297 (ci := 7) rfl inlX7 16 (by decide) rfl kf_X7_199 dX7_begins_17 ?_
    refine lv_iload_n hx hb dX7_begins_20 rfl (lv_at hl 1 rfl) ?_
    obtain ⟨k2, h⟩ := tb_cks h
    obtain ⟨M3, e4, h⟩ := tb_lets h
    refine tb_iast F hP hS tb_l309 rfl (tb_inv k2) dX7_begins_21 (fun H locs hP hS => ?_)
    rw [← e4] at hP
    refine lv_aload_n hx hb dX7_begins_22 rfl (lv_at hl 0 rfl) ?_
    refine lv_dup hx hb dX7_begins_23 rfl ?_
    refine tb_geti F hP tb_l297 (ci := 7) rfl inlX7 16 (by decide) rfl kf_X7_199 dX7_begins_24 ?_
    refine lv_iconst (v := 1) hx hb dX7_begins_27 (by decide) ?_
    refine lv_iadd hx hb dX7_begins_28 ?_
    obtain ⟨M5, e6, h⟩ := tb_lets h
    refine tb_puti F hP hS tb_l297 (ci := 7) rfl inlX7 tyX7 tyX7_ok nmX7 16 (by decide) rfl rfl rfl rfl kf_X7_199 dX7_begins_29 (fun H locs hP hS => ?_)
    rw [← e6] at hP
    exact tb_vret h F hP hS dX7_begins_32
def fX7_plain_J31 (x1 : Int32) (x2 : Int32) (M : tb_Mem) : Option (Int32 × tb_Mem) :=
  tb_b1 (fX7_begins 21 M) (fun M8 => tb_b1 (fX7_begins 20 M8) (fun M10 => tb_b2 (fX7_high 303 x1 M10) (fun r14 M12 => some (((if x2 = 2 then (2 * (x1 + r14)) else (if x2 = 3 then ((x1 + r14) - 1000) else (x1 + r14))) : Int32), M12))))
def fX7_plain (a1 : Int32) (M : tb_Mem) : Option (Int32 × tb_Mem) :=
  tb_ck (tb_in (55 + a1) 63) (tb_let ((M 303 (55 + a1).toNatClampNeg) : Int32) (fun v2 => if v2 = 1 then (fX7_plain_J31 a1 v2 M) else (tb_b1 (fX7_begins ((if v2 = 2 then 24 else 22) : Int32) M) (fun M6 => fX7_plain_J31 a1 v2 M6))))
abbrev rmX7_plain : Room := { frames := 2, cells := 0, slots := 0, locals := 45 }
set_option maxHeartbeats 4000000 in
set_option maxRecDepth 100000 in
theorem tX7_plain_J31 {g : tb_GT} {l : Launch} {P : Program} {e : Env} {s : State} {m : MethodId} {below : List Frame} {meth : Method} {c : Code} {a1 : Int32} {M' : tb_Mem} {r : Int32} (F : tb_F g cX7_plain 4 RX7 (some .int) (Cond.code yX7_plain cX7_plain 4 (some .int)) P s m ([.ref (tb_ad g 297), .int a1] : List Value).toArray meth c) (x1 : Int32) (x2 : Int32) (M : tb_Mem) {H : Heap} {locs : List Loc} {ls : Array Slot} (hP : tb_P g M H) (hS : va_S (tb_A g) s.heap H locs) (hl : lv_has ls 4 [(0, .ref (tb_ad g 297)), (1, .int x1), (2, .int x2)]) (h : fX7_plain_J31 x1 x2 M = some (r, M')) : W P l e rmX7_plain s m ([.ref (tb_ad g 297), .int a1] : List Value).toArray below meth c H locs 0 0 (MQ below (tb_Q g M' (some (.int r))) ([.ref (tb_ad g 297), .int a1] : List Value).toArray s 0 0 (tb_A g)) (F0 m 31 ls []) := by
  have hx := F.1.1
  have hb := F.1.2.1
  unfold fX7_plain_J31 at h
  refine lv_aload_n hx hb dX7_plain_31 rfl (lv_at hl 0 rfl) ?_
  refine lv_bipush (v := 21) hx hb dX7_plain_32 (by decide) ?_
  obtain ⟨M8, e9, h⟩ := tb_b1s h
  refine tb_callV F hP hS hl.1 kX7_begins km_X7_202 (as := [.int 21]) (tX7_begins g l 21 M M8 e9) tb_l297 ⟨rfl, rfl, Nat.le_of_ble_eq_true rfl, Nat.le_of_ble_eq_true rfl⟩ rfl (rest := []) rfl (st1 := []) rfl (Nat.le_of_ble_eq_true rfl) ⟨Nat.zero_le _, Nat.zero_le _⟩ dX7_plain_34 (fun H locs hP hS => ?_)
  refine lv_aload_n hx hb dX7_plain_37 rfl (lv_at hl 0 rfl) ?_
  refine lv_bipush (v := 20) hx hb dX7_plain_38 (by decide) ?_
  obtain ⟨M10, e11, h⟩ := tb_b1s h
  refine tb_callV F hP hS hl.1 kX7_begins km_X7_202 (as := [.int 20]) (tX7_begins g l 20 M8 M10 e11) tb_l297 ⟨rfl, rfl, Nat.le_of_ble_eq_true rfl, Nat.le_of_ble_eq_true rfl⟩ rfl (rest := []) rfl (st1 := []) rfl (Nat.le_of_ble_eq_true rfl) ⟨Nat.zero_le _, Nat.zero_le _⟩ dX7_plain_40 (fun H locs hP hS => ?_)
  refine lv_iload_n hx hb dX7_plain_43 rfl (lv_at hl 1 rfl) ?_
  refine lv_aload_n hx hb dX7_plain_44 rfl (lv_at hl 0 rfl) ?_
  refine tb_getr F hP tb_l297 (ci := 7) rfl inlX7 8 (by decide) rfl kf_X7_25 dX7_plain_45 ?_
  refine lv_iload_n hx hb dX7_plain_48 rfl (lv_at hl 1 rfl) ?_
  obtain ⟨r14, M12, e13, h⟩ := tb_b2s h
  refine tb_callS F hP hS hl.1 kX7_high km_X7_116 (as := [.ref (tb_ad g 303), .int x1]) (tX7_high g l 303 tb_l303 x1 M10 M12 r14 e13) ⟨rfl, rfl, Nat.le_of_ble_eq_true rfl, Nat.le_of_ble_eq_true rfl⟩ rfl (rest := [.int x1]) rfl (st1 := [.int r14, .int x1]) rfl (Nat.le_of_ble_eq_true rfl) ⟨Nat.zero_le _, Nat.zero_le _⟩ dX7_plain_49 (fun H locs hP hS => ?_)
  refine lv_iadd hx hb dX7_plain_52 ?_
  refine lv_istore_n (lv' := [(3, .int (x1 + r14)), (0, .ref (tb_ad g 297)), (1, .int x1), (2, .int x2)]) hx hb dX7_plain_53 rfl hl (by decide) rfl (fun ls hl => ?_)
  refine lv_iload_n hx hb dX7_plain_54 rfl (lv_at hl 3 rfl) ?_
  refine lv_iconst (v := 2) hx hb dX7_plain_55 (by decide) ?_
  refine tb_mrg (g2 := F0 m 79 ls [.int ((if x2 = 2 then (2 * (x1 + r14)) else (if x2 = 3 then ((x1 + r14) - 1000) else (x1 + r14))) : Int32)]) (fun hJ => ?_) ?_
  · refine lv_icmp_ne (tgt := 65) hx hb dX7_plain_56 (by decide) (fun c15 => ?_) (fun c15 => ?_)
    · refine lv_iload_n hx hb dX7_plain_65 rfl (lv_at hl 3 rfl) ?_
      refine lv_iconst (v := 3) hx hb dX7_plain_66 (by decide) ?_
      refine lv_icmp_ne (tgt := 78) hx hb dX7_plain_67 (by decide) (fun c16 => ?_) (fun c16 => ?_)
      · refine lv_iload_n hx hb dX7_plain_78 rfl (lv_at hl 0 rfl) ?_
        rw [if_neg c15, if_neg c16] at hJ
        exact hJ
      · refine lv_iload_n hx hb dX7_plain_70 rfl (lv_at hl 0 rfl) ?_
        refine lv_sipush (v := 1000) hx hb dX7_plain_71 (by decide) ?_
        refine lv_isub hx hb dX7_plain_74 ?_
        refine lv_goto (tgt := 79) hx hb dX7_plain_75 (by decide) ?_
        rw [if_neg c15, if_pos c16] at hJ
        exact hJ
    · refine lv_iconst (v := 2) hx hb dX7_plain_59 (by decide) ?_
      refine lv_iload_n hx hb dX7_plain_60 rfl (lv_at hl 0 rfl) ?_
      refine lv_imul hx hb dX7_plain_61 ?_
      refine lv_goto (tgt := 79) hx hb dX7_plain_62 (by decide) ?_
      rw [if_pos c15] at hJ
      exact hJ
  exact tb_iret h F hP hS dX7_plain_79
set_option maxHeartbeats 4000000 in
set_option maxRecDepth 100000 in
theorem tX7_plain (g : tb_GT) (l : Launch) (a1 : Int32) (M M' : tb_Mem) (r : Int32) (h : fX7_plain a1 M = some (r, M')) : tb_C g l yX7_plain (Cond.code yX7_plain cX7_plain 4 (some .int)) rmX7_plain [.ref (tb_ad g 297), .int a1] M M' (some (.int r)) := by
  refine tb_entry (by decide) (Nat.le_of_ble_eq_true rfl) ?_
  intro P e s m below meth c F hP hS ls hl
  have F : tb_F g cX7_plain 4 RX7 (some .int) (Cond.code yX7_plain cX7_plain 4 (some .int)) P s m ([.ref (tb_ad g 297), .int a1] : List Value).toArray meth c := F
  have hx := F.1.1
  have hb := F.1.2.1
  have hl : lv_has ls 4 [(0, .ref (tb_ad g 297)), (1, .int a1)] := hl
  unfold fX7_plain at h
  refine lv_aload_n hx hb dX7_plain_0 rfl (lv_at hl 0 rfl) ?_
  refine tb_getr F hP tb_l297 (ci := 7) rfl inlX7 8 (by decide) rfl kf_X7_25 dX7_plain_1 ?_
  refine lv_bipush (v := 55) hx hb dX7_plain_4 (by decide) ?_
  refine lv_iload_n hx hb dX7_plain_6 rfl (lv_at hl 1 rfl) ?_
  refine lv_iadd hx hb dX7_plain_7 ?_
  obtain ⟨k1, h⟩ := tb_cks h
  refine tb_iald F hP tb_l303 rfl (tb_inv k1) dX7_plain_8 ?_
  obtain ⟨v2, e3, h⟩ := tb_lets h
  refine tb_nmi e3 ?_
  refine lv_istore_n (lv' := [(2, .int v2), (0, .ref (tb_ad g 297)), (1, .int a1)]) hx hb dX7_plain_9 rfl hl (by decide) rfl (fun ls hl => ?_)
  refine lv_iload_n hx hb dX7_plain_10 rfl (lv_at hl 0 rfl) ?_
  refine lv_iconst (v := 1) hx hb dX7_plain_11 (by decide) ?_
  refine lv_icmp_eq (tgt := 31) hx hb dX7_plain_12 (by decide) (fun c4 => ?_) (fun c4 => ?_)
  · have h := tb_ip c4 h
    exact tX7_plain_J31 F a1 v2 M hP hS (lv_sub hl [1, 2, 0] rfl) h
  · have h := tb_ineg c4 h
    refine lv_aload_n hx hb dX7_plain_15 rfl (lv_at hl 1 rfl) ?_
    refine lv_iload_n hx hb dX7_plain_16 rfl (lv_at hl 0 rfl) ?_
    refine lv_iconst (v := 2) hx hb dX7_plain_17 (by decide) ?_
    refine tb_mrg (g2 := F0 m 28 ls [.int ((if v2 = 2 then 24 else 22) : Int32), .ref (tb_ad g 297)]) (fun hJ => ?_) ?_
    · refine lv_icmp_ne (tgt := 26) hx hb dX7_plain_18 (by decide) (fun c5 => ?_) (fun c5 => ?_)
      · refine lv_bipush (v := 22) hx hb dX7_plain_26 (by decide) ?_
        rw [if_neg c5] at hJ
        exact hJ
      · refine lv_bipush (v := 24) hx hb dX7_plain_21 (by decide) ?_
        refine lv_goto (tgt := 28) hx hb dX7_plain_23 (by decide) ?_
        rw [if_pos c5] at hJ
        exact hJ
    obtain ⟨M6, e7, h⟩ := tb_b1s h
    refine tb_callV F hP hS hl.1 kX7_begins km_X7_202 (as := [.int ((if v2 = 2 then 24 else 22) : Int32)]) (tX7_begins g l ((if v2 = 2 then 24 else 22) : Int32) M M6 e7) tb_l297 ⟨rfl, rfl, Nat.le_of_ble_eq_true rfl, Nat.le_of_ble_eq_true rfl⟩ rfl (rest := []) rfl (st1 := []) rfl (Nat.le_of_ble_eq_true rfl) ⟨Nat.zero_le _, Nat.zero_le _⟩ dX7_plain_28 (fun H locs hP hS => ?_)
    exact tX7_plain_J31 F a1 v2 M6 hP hS (lv_sub hl [1, 2, 0] rfl) h
def fX7_size_J31 (x1 : Int32) (x2 : Int32) (x3 : Int32) (M : tb_Mem) : Option (Int32 × tb_Mem) :=
  if x2 < 4 then (if x2 = 2 then (tb_b1 (fX7_begins 12 M) (fun M20 => tb_b1 (fX7_begins 11 M20) (fun M22 => tb_b1 (fX7_begins 10 M22) (fun M24 => tb_b2 (fX7_plain x1 M24) (fun r28 M26 => some (((if x2 = 2 then (-(x3 + r28)) else (x3 + r28)) : Int32), M26)))))) else (tb_b1 (fX7_begins 11 M) (fun M12 => tb_b1 (fX7_begins 10 M12) (fun M14 => tb_b2 (fX7_plain x1 M14) (fun r18 M16 => some (((if x2 = 2 then (-(x3 + r18)) else (x3 + r18)) : Int32), M16)))))) else (tb_b1 (fX7_begins 13 M) (fun M30 => tb_b1 (fX7_begins 10 M30) (fun M32 => some (((if x2 = 5 then (2 * (x3 - 100)) else (x3 - 100)) : Int32), M32))))
def fX7_size (a1 : Int32) (M : tb_Mem) : Option (Int32 × tb_Mem) :=
  tb_ck (tb_in (55 + a1) 63) (tb_let ((M 303 (55 + a1).toNatClampNeg) : Int32) (fun v2 => tb_ck (tb_in (47 + a1) 63) (tb_let ((M 303 (47 + a1).toNatClampNeg) : Int32) (fun v5 => if v2 = 5 then (tb_b1 (fX7_begins 14 M) (fun M8 => fX7_size_J31 a1 v2 v5 M8)) else (fX7_size_J31 a1 v2 v5 M)))))
abbrev rmX7_size : Room := { frames := 3, cells := 0, slots := 0, locals := 68 }
set_option maxHeartbeats 4000000 in
set_option maxRecDepth 100000 in
theorem tX7_size_J31 {g : tb_GT} {l : Launch} {P : Program} {e : Env} {s : State} {m : MethodId} {below : List Frame} {meth : Method} {c : Code} {a1 : Int32} {M' : tb_Mem} {r : Int32} (F : tb_F g cX7_size 5 RX7 (some .int) (Cond.code yX7_size cX7_size 5 (some .int)) P s m ([.ref (tb_ad g 297), .int a1] : List Value).toArray meth c) (x1 : Int32) (x2 : Int32) (x3 : Int32) (M : tb_Mem) {H : Heap} {locs : List Loc} {ls : Array Slot} (hP : tb_P g M H) (hS : va_S (tb_A g) s.heap H locs) (hl : lv_has ls 5 [(0, .ref (tb_ad g 297)), (1, .int x1), (2, .int x2), (3, .int x3)]) (h : fX7_size_J31 x1 x2 x3 M = some (r, M')) : W P l e rmX7_size s m ([.ref (tb_ad g 297), .int a1] : List Value).toArray below meth c H locs 0 0 (MQ below (tb_Q g M' (some (.int r))) ([.ref (tb_ad g 297), .int a1] : List Value).toArray s 0 0 (tb_A g)) (F0 m 31 ls []) := by
  have hx := F.1.1
  have hb := F.1.2.1
  unfold fX7_size_J31 at h
  refine lv_iload_n hx hb dX7_size_31 rfl (lv_at hl 2 rfl) ?_
  refine lv_iconst (v := 4) hx hb dX7_size_32 (by decide) ?_
  refine lv_icmp_lt (tgt := 67) hx hb dX7_size_33 (by decide) (fun c10 => ?_) (fun c10 => ?_)
  · have h := tb_ip c10 h
    refine lv_iload_n hx hb dX7_size_67 rfl (lv_at hl 2 rfl) ?_
    refine lv_iconst (v := 2) hx hb dX7_size_68 (by decide) ?_
    refine lv_icmp_ne (tgt := 78) hx hb dX7_size_69 (by decide) (fun c11 => ?_) (fun c11 => ?_)
    · have h := tb_ineg c11 h
      refine lv_aload_n hx hb dX7_size_78 rfl (lv_at hl 0 rfl) ?_
      refine lv_bipush (v := 11) hx hb dX7_size_79 (by decide) ?_
      obtain ⟨M12, e13, h⟩ := tb_b1s h
      refine tb_callV F hP hS hl.1 kX7_begins km_X7_202 (as := [.int 11]) (tX7_begins g l 11 M M12 e13) tb_l297 ⟨rfl, rfl, Nat.le_of_ble_eq_true rfl, Nat.le_of_ble_eq_true rfl⟩ rfl (rest := []) rfl (st1 := []) rfl (Nat.le_of_ble_eq_true rfl) ⟨Nat.zero_le _, Nat.zero_le _⟩ dX7_size_81 (fun H locs hP hS => ?_)
      refine lv_aload_n hx hb dX7_size_84 rfl (lv_at hl 0 rfl) ?_
      refine lv_bipush (v := 10) hx hb dX7_size_85 (by decide) ?_
      obtain ⟨M14, e15, h⟩ := tb_b1s h
      refine tb_callV F hP hS hl.1 kX7_begins km_X7_202 (as := [.int 10]) (tX7_begins g l 10 M12 M14 e15) tb_l297 ⟨rfl, rfl, Nat.le_of_ble_eq_true rfl, Nat.le_of_ble_eq_true rfl⟩ rfl (rest := []) rfl (st1 := []) rfl (Nat.le_of_ble_eq_true rfl) ⟨Nat.zero_le _, Nat.zero_le _⟩ dX7_size_87 (fun H locs hP hS => ?_)
      refine lv_iload_n hx hb dX7_size_90 rfl (lv_at hl 3 rfl) ?_
      refine lv_aload_n hx hb dX7_size_91 rfl (lv_at hl 0 rfl) ?_
      refine lv_iload_n hx hb dX7_size_92 rfl (lv_at hl 1 rfl) ?_
      obtain ⟨r18, M16, e17, h⟩ := tb_b2s h
      refine tb_callV F hP hS hl.1 kX7_plain km_X7_205 (as := [.int x1]) (tX7_plain g l x1 M14 M16 r18 e17) tb_l297 ⟨rfl, rfl, Nat.le_of_ble_eq_true rfl, Nat.le_of_ble_eq_true rfl⟩ rfl (rest := [.int x3]) rfl (st1 := [.int r18, .int x3]) rfl (Nat.le_of_ble_eq_true rfl) ⟨Nat.zero_le _, Nat.zero_le _⟩ dX7_size_93 (fun H locs hP hS => ?_)
      refine lv_iadd hx hb dX7_size_96 ?_
      refine lv_istore (lv' := [(4, .int (x3 + r18)), (0, .ref (tb_ad g 297)), (1, .int x1), (2, .int x2), (3, .int x3)]) hx hb dX7_size_97 hl (by decide) rfl (fun ls hl => ?_)
      refine lv_iload_n hx hb dX7_size_99 rfl (lv_at hl 3 rfl) ?_
      refine lv_iconst (v := 2) hx hb dX7_size_100 (by decide) ?_
      refine tb_mrg (g2 := F0 m 112 ls [.int ((if x2 = 2 then (-(x3 + r18)) else (x3 + r18)) : Int32)]) (fun hJ => ?_) ?_
      · refine lv_icmp_ne (tgt := 110) hx hb dX7_size_101 (by decide) (fun c19 => ?_) (fun c19 => ?_)
        · refine lv_iload hx hb dX7_size_110 (lv_at hl 0 rfl) ?_
          rw [if_neg c19] at hJ
          exact hJ
        · refine lv_iload hx hb dX7_size_104 (lv_at hl 0 rfl) ?_
          refine lv_ineg hx hb dX7_size_106 ?_
          refine lv_goto (tgt := 112) hx hb dX7_size_107 (by decide) ?_
          rw [if_pos c19] at hJ
          exact hJ
      exact tb_iret h F hP hS dX7_size_112
    · have h := tb_ip c11 h
      refine lv_aload_n hx hb dX7_size_72 rfl (lv_at hl 0 rfl) ?_
      refine lv_bipush (v := 12) hx hb dX7_size_73 (by decide) ?_
      obtain ⟨M20, e21, h⟩ := tb_b1s h
      refine tb_callV F hP hS hl.1 kX7_begins km_X7_202 (as := [.int 12]) (tX7_begins g l 12 M M20 e21) tb_l297 ⟨rfl, rfl, Nat.le_of_ble_eq_true rfl, Nat.le_of_ble_eq_true rfl⟩ rfl (rest := []) rfl (st1 := []) rfl (Nat.le_of_ble_eq_true rfl) ⟨Nat.zero_le _, Nat.zero_le _⟩ dX7_size_75 (fun H locs hP hS => ?_)
      refine lv_aload_n hx hb dX7_size_78 rfl (lv_at hl 0 rfl) ?_
      refine lv_bipush (v := 11) hx hb dX7_size_79 (by decide) ?_
      obtain ⟨M22, e23, h⟩ := tb_b1s h
      refine tb_callV F hP hS hl.1 kX7_begins km_X7_202 (as := [.int 11]) (tX7_begins g l 11 M20 M22 e23) tb_l297 ⟨rfl, rfl, Nat.le_of_ble_eq_true rfl, Nat.le_of_ble_eq_true rfl⟩ rfl (rest := []) rfl (st1 := []) rfl (Nat.le_of_ble_eq_true rfl) ⟨Nat.zero_le _, Nat.zero_le _⟩ dX7_size_81 (fun H locs hP hS => ?_)
      refine lv_aload_n hx hb dX7_size_84 rfl (lv_at hl 0 rfl) ?_
      refine lv_bipush (v := 10) hx hb dX7_size_85 (by decide) ?_
      obtain ⟨M24, e25, h⟩ := tb_b1s h
      refine tb_callV F hP hS hl.1 kX7_begins km_X7_202 (as := [.int 10]) (tX7_begins g l 10 M22 M24 e25) tb_l297 ⟨rfl, rfl, Nat.le_of_ble_eq_true rfl, Nat.le_of_ble_eq_true rfl⟩ rfl (rest := []) rfl (st1 := []) rfl (Nat.le_of_ble_eq_true rfl) ⟨Nat.zero_le _, Nat.zero_le _⟩ dX7_size_87 (fun H locs hP hS => ?_)
      refine lv_iload_n hx hb dX7_size_90 rfl (lv_at hl 3 rfl) ?_
      refine lv_aload_n hx hb dX7_size_91 rfl (lv_at hl 0 rfl) ?_
      refine lv_iload_n hx hb dX7_size_92 rfl (lv_at hl 1 rfl) ?_
      obtain ⟨r28, M26, e27, h⟩ := tb_b2s h
      refine tb_callV F hP hS hl.1 kX7_plain km_X7_205 (as := [.int x1]) (tX7_plain g l x1 M24 M26 r28 e27) tb_l297 ⟨rfl, rfl, Nat.le_of_ble_eq_true rfl, Nat.le_of_ble_eq_true rfl⟩ rfl (rest := [.int x3]) rfl (st1 := [.int r28, .int x3]) rfl (Nat.le_of_ble_eq_true rfl) ⟨Nat.zero_le _, Nat.zero_le _⟩ dX7_size_93 (fun H locs hP hS => ?_)
      refine lv_iadd hx hb dX7_size_96 ?_
      refine lv_istore (lv' := [(4, .int (x3 + r28)), (0, .ref (tb_ad g 297)), (1, .int x1), (2, .int x2), (3, .int x3)]) hx hb dX7_size_97 hl (by decide) rfl (fun ls hl => ?_)
      refine lv_iload_n hx hb dX7_size_99 rfl (lv_at hl 3 rfl) ?_
      refine lv_iconst (v := 2) hx hb dX7_size_100 (by decide) ?_
      refine tb_mrg (g2 := F0 m 112 ls [.int ((if x2 = 2 then (-(x3 + r28)) else (x3 + r28)) : Int32)]) (fun hJ => ?_) ?_
      · refine lv_icmp_ne (tgt := 110) hx hb dX7_size_101 (by decide) (fun c29 => ?_) (fun c29 => ?_)
        · refine lv_iload hx hb dX7_size_110 (lv_at hl 0 rfl) ?_
          rw [if_neg c29] at hJ
          exact hJ
        · refine lv_iload hx hb dX7_size_104 (lv_at hl 0 rfl) ?_
          refine lv_ineg hx hb dX7_size_106 ?_
          refine lv_goto (tgt := 112) hx hb dX7_size_107 (by decide) ?_
          rw [if_pos c29] at hJ
          exact hJ
      exact tb_iret h F hP hS dX7_size_112
  · have h := tb_ineg c10 h
    refine lv_aload_n hx hb dX7_size_36 rfl (lv_at hl 0 rfl) ?_
    refine lv_bipush (v := 13) hx hb dX7_size_37 (by decide) ?_
    obtain ⟨M30, e31, h⟩ := tb_b1s h
    refine tb_callV F hP hS hl.1 kX7_begins km_X7_202 (as := [.int 13]) (tX7_begins g l 13 M M30 e31) tb_l297 ⟨rfl, rfl, Nat.le_of_ble_eq_true rfl, Nat.le_of_ble_eq_true rfl⟩ rfl (rest := []) rfl (st1 := []) rfl (Nat.le_of_ble_eq_true rfl) ⟨Nat.zero_le _, Nat.zero_le _⟩ dX7_size_39 (fun H locs hP hS => ?_)
    refine lv_aload_n hx hb dX7_size_42 rfl (lv_at hl 0 rfl) ?_
    refine lv_bipush (v := 10) hx hb dX7_size_43 (by decide) ?_
    obtain ⟨M32, e33, h⟩ := tb_b1s h
    refine tb_callV F hP hS hl.1 kX7_begins km_X7_202 (as := [.int 10]) (tX7_begins g l 10 M30 M32 e33) tb_l297 ⟨rfl, rfl, Nat.le_of_ble_eq_true rfl, Nat.le_of_ble_eq_true rfl⟩ rfl (rest := []) rfl (st1 := []) rfl (Nat.le_of_ble_eq_true rfl) ⟨Nat.zero_le _, Nat.zero_le _⟩ dX7_size_45 (fun H locs hP hS => ?_)
    refine lv_iload_n hx hb dX7_size_48 rfl (lv_at hl 2 rfl) ?_
    refine lv_iconst (v := 5) hx hb dX7_size_49 (by decide) ?_
    refine tb_mrg (g2 := F0 m 66 ls [.int ((if x2 = 5 then (2 * (x3 - 100)) else (x3 - 100)) : Int32)]) (fun hJ => ?_) ?_
    · refine lv_icmp_ne (tgt := 62) hx hb dX7_size_50 (by decide) (fun c34 => ?_) (fun c34 => ?_)
      · refine lv_iload_n hx hb dX7_size_62 rfl (lv_at hl 3 rfl) ?_
        refine lv_bipush (v := 100) hx hb dX7_size_63 (by decide) ?_
        refine lv_isub hx hb dX7_size_65 ?_
        rw [if_neg c34] at hJ
        exact hJ
      · refine lv_iconst (v := 2) hx hb dX7_size_53 (by decide) ?_
        refine lv_iload_n hx hb dX7_size_54 rfl (lv_at hl 3 rfl) ?_
        refine lv_bipush (v := 100) hx hb dX7_size_55 (by decide) ?_
        refine lv_isub hx hb dX7_size_57 ?_
        refine lv_imul hx hb dX7_size_58 ?_
        refine lv_goto (tgt := 66) hx hb dX7_size_59 (by decide) ?_
        rw [if_pos c34] at hJ
        exact hJ
    exact tb_iret h F hP hS dX7_size_66
set_option maxHeartbeats 4000000 in
set_option maxRecDepth 100000 in
theorem tX7_size (g : tb_GT) (l : Launch) (a1 : Int32) (M M' : tb_Mem) (r : Int32) (h : fX7_size a1 M = some (r, M')) : tb_C g l yX7_size (Cond.code yX7_size cX7_size 5 (some .int)) rmX7_size [.ref (tb_ad g 297), .int a1] M M' (some (.int r)) := by
  refine tb_entry (by decide) (Nat.le_of_ble_eq_true rfl) ?_
  intro P e s m below meth c F hP hS ls hl
  have F : tb_F g cX7_size 5 RX7 (some .int) (Cond.code yX7_size cX7_size 5 (some .int)) P s m ([.ref (tb_ad g 297), .int a1] : List Value).toArray meth c := F
  have hx := F.1.1
  have hb := F.1.2.1
  have hl : lv_has ls 5 [(0, .ref (tb_ad g 297)), (1, .int a1)] := hl
  unfold fX7_size at h
  refine lv_aload_n hx hb dX7_size_0 rfl (lv_at hl 0 rfl) ?_
  refine tb_getr F hP tb_l297 (ci := 7) rfl inlX7 8 (by decide) rfl kf_X7_25 dX7_size_1 ?_
  refine lv_bipush (v := 55) hx hb dX7_size_4 (by decide) ?_
  refine lv_iload_n hx hb dX7_size_6 rfl (lv_at hl 1 rfl) ?_
  refine lv_iadd hx hb dX7_size_7 ?_
  obtain ⟨k1, h⟩ := tb_cks h
  refine tb_iald F hP tb_l303 rfl (tb_inv k1) dX7_size_8 ?_
  obtain ⟨v2, e3, h⟩ := tb_lets h
  refine tb_nmi e3 ?_
  refine lv_istore_n (lv' := [(2, .int v2), (0, .ref (tb_ad g 297)), (1, .int a1)]) hx hb dX7_size_9 rfl hl (by decide) rfl (fun ls hl => ?_)
  refine lv_aload_n hx hb dX7_size_10 rfl (lv_at hl 1 rfl) ?_
  refine tb_getr F hP tb_l297 (ci := 7) rfl inlX7 8 (by decide) rfl kf_X7_25 dX7_size_11 ?_
  refine lv_bipush (v := 47) hx hb dX7_size_14 (by decide) ?_
  refine lv_iload_n hx hb dX7_size_16 rfl (lv_at hl 2 rfl) ?_
  refine lv_iadd hx hb dX7_size_17 ?_
  obtain ⟨k4, h⟩ := tb_cks h
  refine tb_iald F hP tb_l303 rfl (tb_inv k4) dX7_size_18 ?_
  obtain ⟨v5, e6, h⟩ := tb_lets h
  refine tb_nmi e6 ?_
  refine lv_istore_n (lv' := [(3, .int v5), (2, .int v2), (0, .ref (tb_ad g 297)), (1, .int a1)]) hx hb dX7_size_19 rfl hl (by decide) rfl (fun ls hl => ?_)
  refine lv_iload_n hx hb dX7_size_20 rfl (lv_at hl 1 rfl) ?_
  refine lv_iconst (v := 5) hx hb dX7_size_21 (by decide) ?_
  refine lv_icmp_ne (tgt := 31) hx hb dX7_size_22 (by decide) (fun c7 => ?_) (fun c7 => ?_)
  · have h := tb_ineg c7 h
    exact tX7_size_J31 F a1 v2 v5 M hP hS (lv_sub hl [2, 3, 1, 0] rfl) h
  · have h := tb_ip c7 h
    refine lv_aload_n hx hb dX7_size_25 rfl (lv_at hl 2 rfl) ?_
    refine lv_bipush (v := 14) hx hb dX7_size_26 (by decide) ?_
    obtain ⟨M8, e9, h⟩ := tb_b1s h
    refine tb_callV F hP hS hl.1 kX7_begins km_X7_202 (as := [.int 14]) (tX7_begins g l 14 M M8 e9) tb_l297 ⟨rfl, rfl, Nat.le_of_ble_eq_true rfl, Nat.le_of_ble_eq_true rfl⟩ rfl (rest := []) rfl (st1 := []) rfl (Nat.le_of_ble_eq_true rfl) ⟨Nat.zero_le _, Nat.zero_le _⟩ dX7_size_28 (fun H locs hP hS => ?_)
    exact tX7_size_J31 F a1 v2 v5 M8 hP hS (lv_sub hl [2, 3, 1, 0] rfl) h
def fX7_ask (a1 : Int32) (a2 : Int32) (M : tb_Mem) : Option (Int32 × tb_Mem) :=
  tb_b2 (fX7_isBar a1 M) (fun r3 M1 => if r3 = 0 then (some ((-1000001), M1)) else (tb_b2 (fX7_in a2 0 1 M1) (fun r7 M5 => if r7 = 0 then (some ((-1000001), M5)) else (tb_let (tb_up M5 297 16 0) (fun M9 => if a2 = 0 then (tb_b2 (fX7_size a1 M9) (fun r26 M24 => some (r26, M24))) else (tb_ck (tb_in (55 + a1) 63) (if 4 ≤ (M9 303 (55 + a1).toNatClampNeg) then (tb_b1 (fX7_begins 23 M9) (fun M14 => tb_b1 (fX7_begins 20 M14) (fun M16 => tb_b2 (fX7_size a1 M16) (fun r20 M18 => some ((a1 - r20), M18))))) else (tb_b2 (fX7_plain a1 M9) (fun r23 M21 => some (r23, M21))))))))))
abbrev rmX7_ask : Room := { frames := 4, cells := 0, slots := 0, locals := 92 }
set_option maxHeartbeats 4000000 in
set_option maxRecDepth 100000 in
theorem tX7_ask (g : tb_GT) (l : Launch) (a1 : Int32) (a2 : Int32) (M M' : tb_Mem) (r : Int32) (h : fX7_ask a1 a2 M = some (r, M')) : tb_C g l yX7_ask (Cond.code yX7_ask cX7_ask 3 (some .int)) rmX7_ask [.ref (tb_ad g 297), .int a1, .int a2] M M' (some (.int r)) := by
  refine tb_entry (by decide) (Nat.le_of_ble_eq_true rfl) ?_
  intro P e s m below meth c F hP hS ls hl
  have F : tb_F g cX7_ask 3 RX7 (some .int) (Cond.code yX7_ask cX7_ask 3 (some .int)) P s m ([.ref (tb_ad g 297), .int a1, .int a2] : List Value).toArray meth c := F
  have hx := F.1.1
  have hb := F.1.2.1
  have hl : lv_has ls 3 [(0, .ref (tb_ad g 297)), (1, .int a1), (2, .int a2)] := hl
  unfold fX7_ask at h
  refine lv_aload_n hx hb dX7_ask_0 rfl (lv_at hl 0 rfl) ?_
  refine lv_iload_n hx hb dX7_ask_1 rfl (lv_at hl 1 rfl) ?_
  obtain ⟨r3, M1, e2, h⟩ := tb_b2s h
  refine tb_callV F hP hS hl.1 kX7_isBar km_X7_145 (as := [.int a1]) (tX7_isBar g l a1 M M1 r3 e2) tb_l297 ⟨rfl, rfl, Nat.le_of_ble_eq_true rfl, Nat.le_of_ble_eq_true rfl⟩ rfl (rest := []) rfl (st1 := [.int r3]) rfl (Nat.le_of_ble_eq_true rfl) ⟨Nat.zero_le _, Nat.zero_le _⟩ dX7_ask_2 (fun H locs hP hS => ?_)
  refine lv_if_eq (tgt := 17) hx hb dX7_ask_5 (by decide) (fun c4 => ?_) (fun c4 => ?_)
  · have h := tb_ip c4 h
    refine lv_ldc (v := (-1000001)) hx hb F.1.2.2.2.1 (tb_hts F kc_X7_62) dX7_ask_17 ?_
    exact tb_iret h F hP hS dX7_ask_19
  · have h := tb_ineg c4 h
    refine lv_iload_n hx hb dX7_ask_8 rfl (lv_at hl 2 rfl) ?_
    refine lv_iconst (v := 0) hx hb dX7_ask_9 (by decide) ?_
    refine lv_iconst (v := 1) hx hb dX7_ask_10 (by decide) ?_
    obtain ⟨r7, M5, e6, h⟩ := tb_b2s h
    refine tb_callS F hP hS hl.1 kX7_in km_X7_47 (as := [.int a2, .int 0, .int 1]) (tX7_in g l a2 0 1 M1 M5 r7 e6) ⟨rfl, rfl, Nat.le_of_ble_eq_true rfl, Nat.le_of_ble_eq_true rfl⟩ rfl (rest := []) rfl (st1 := [.int r7]) rfl (Nat.le_of_ble_eq_true rfl) ⟨Nat.zero_le _, Nat.zero_le _⟩ dX7_ask_11 (fun H locs hP hS => ?_)
    refine lv_if_ne (tgt := 20) hx hb dX7_ask_14 (by decide) (fun c8 => ?_) (fun c8 => ?_)
    · have h := tb_ineg c8 h
      refine lv_aload_n hx hb dX7_ask_20 rfl (lv_at hl 0 rfl) ?_
      refine lv_iconst (v := 0) hx hb dX7_ask_21 (by decide) ?_
      obtain ⟨M9, e10, h⟩ := tb_lets h
      refine tb_puti F hP hS tb_l297 (ci := 7) rfl inlX7 tyX7 tyX7_ok nmX7 16 (by decide) rfl rfl rfl rfl kf_X7_199 dX7_ask_22 (fun H locs hP hS => ?_)
      rw [← e10] at hP
      refine lv_iload_n hx hb dX7_ask_25 rfl (lv_at hl 2 rfl) ?_
      refine lv_if_ne (tgt := 35) hx hb dX7_ask_26 (by decide) (fun c11 => ?_) (fun c11 => ?_)
      · have h := tb_ineg c11 h
        refine lv_aload_n hx hb dX7_ask_35 rfl (lv_at hl 0 rfl) ?_
        refine tb_getr F hP tb_l297 (ci := 7) rfl inlX7 8 (by decide) rfl kf_X7_25 dX7_ask_36 ?_
        refine lv_bipush (v := 55) hx hb dX7_ask_39 (by decide) ?_
        refine lv_iload_n hx hb dX7_ask_41 rfl (lv_at hl 1 rfl) ?_
        refine lv_iadd hx hb dX7_ask_42 ?_
        obtain ⟨k12, h⟩ := tb_cks h
        refine tb_iald F hP tb_l303 rfl (tb_inv k12) dX7_ask_43 ?_
        refine lv_iconst (v := 4) hx hb dX7_ask_44 (by decide) ?_
        refine lv_icmp_ge (tgt := 54) hx hb dX7_ask_45 (by decide) (fun c13 => ?_) (fun c13 => ?_)
        · have h := tb_ip c13 h
          refine lv_aload_n hx hb dX7_ask_54 rfl (lv_at hl 0 rfl) ?_
          refine lv_bipush (v := 23) hx hb dX7_ask_55 (by decide) ?_
          obtain ⟨M14, e15, h⟩ := tb_b1s h
          refine tb_callV F hP hS hl.1 kX7_begins km_X7_202 (as := [.int 23]) (tX7_begins g l 23 M9 M14 e15) tb_l297 ⟨rfl, rfl, Nat.le_of_ble_eq_true rfl, Nat.le_of_ble_eq_true rfl⟩ rfl (rest := []) rfl (st1 := []) rfl (Nat.le_of_ble_eq_true rfl) ⟨Nat.zero_le _, Nat.zero_le _⟩ dX7_ask_57 (fun H locs hP hS => ?_)
          refine lv_aload_n hx hb dX7_ask_60 rfl (lv_at hl 0 rfl) ?_
          refine lv_bipush (v := 20) hx hb dX7_ask_61 (by decide) ?_
          obtain ⟨M16, e17, h⟩ := tb_b1s h
          refine tb_callV F hP hS hl.1 kX7_begins km_X7_202 (as := [.int 20]) (tX7_begins g l 20 M14 M16 e17) tb_l297 ⟨rfl, rfl, Nat.le_of_ble_eq_true rfl, Nat.le_of_ble_eq_true rfl⟩ rfl (rest := []) rfl (st1 := []) rfl (Nat.le_of_ble_eq_true rfl) ⟨Nat.zero_le _, Nat.zero_le _⟩ dX7_ask_63 (fun H locs hP hS => ?_)
          refine lv_iload_n hx hb dX7_ask_66 rfl (lv_at hl 1 rfl) ?_
          refine lv_aload_n hx hb dX7_ask_67 rfl (lv_at hl 0 rfl) ?_
          refine lv_iload_n hx hb dX7_ask_68 rfl (lv_at hl 1 rfl) ?_
          obtain ⟨r20, M18, e19, h⟩ := tb_b2s h
          refine tb_callV F hP hS hl.1 kX7_size km_X7_208 (as := [.int a1]) (tX7_size g l a1 M16 M18 r20 e19) tb_l297 ⟨rfl, rfl, Nat.le_of_ble_eq_true rfl, Nat.le_of_ble_eq_true rfl⟩ rfl (rest := [.int a1]) rfl (st1 := [.int r20, .int a1]) rfl (Nat.le_of_ble_eq_true rfl) ⟨Nat.zero_le _, Nat.zero_le _⟩ dX7_ask_69 (fun H locs hP hS => ?_)
          refine lv_isub hx hb dX7_ask_72 ?_
          exact tb_iret h F hP hS dX7_ask_73
        · have h := tb_ineg c13 h
          refine lv_aload_n hx hb dX7_ask_48 rfl (lv_at hl 0 rfl) ?_
          refine lv_iload_n hx hb dX7_ask_49 rfl (lv_at hl 1 rfl) ?_
          obtain ⟨r23, M21, e22, h⟩ := tb_b2s h
          refine tb_callV F hP hS hl.1 kX7_plain km_X7_205 (as := [.int a1]) (tX7_plain g l a1 M9 M21 r23 e22) tb_l297 ⟨rfl, rfl, Nat.le_of_ble_eq_true rfl, Nat.le_of_ble_eq_true rfl⟩ rfl (rest := []) rfl (st1 := [.int r23]) rfl (Nat.le_of_ble_eq_true rfl) ⟨Nat.zero_le _, Nat.zero_le _⟩ dX7_ask_50 (fun H locs hP hS => ?_)
          exact tb_iret h F hP hS dX7_ask_53
      · have h := tb_ip c11 h
        refine lv_aload_n hx hb dX7_ask_29 rfl (lv_at hl 0 rfl) ?_
        refine lv_iload_n hx hb dX7_ask_30 rfl (lv_at hl 1 rfl) ?_
        obtain ⟨r26, M24, e25, h⟩ := tb_b2s h
        refine tb_callV F hP hS hl.1 kX7_size km_X7_208 (as := [.int a1]) (tX7_size g l a1 M9 M24 r26 e25) tb_l297 ⟨rfl, rfl, Nat.le_of_ble_eq_true rfl, Nat.le_of_ble_eq_true rfl⟩ rfl (rest := []) rfl (st1 := [.int r26]) rfl (Nat.le_of_ble_eq_true rfl) ⟨Nat.zero_le _, Nat.zero_le _⟩ dX7_ask_31 (fun H locs hP hS => ?_)
        exact tb_iret h F hP hS dX7_ask_34
    · have h := tb_ip c8 h
      refine lv_ldc (v := (-1000001)) hx hb F.1.2.2.2.1 (tb_hts F kc_X7_62) dX7_ask_17 ?_
      exact tb_iret h F hP hS dX7_ask_19
def fX7_trace (a1 : Int32) (M : tb_Mem) : Option (Int32 × tb_Mem) :=
  tb_b2 (fX7_in a1 0 ((M 297 16) - 1) M) (fun r3 M1 => if r3 = 0 then (some ((-1000000), M1)) else (tb_ck (tb_in a1 16) (some ((M1 309 a1.toNatClampNeg), M1))))
abbrev rmX7_trace : Room := { frames := 1, cells := 0, slots := 0, locals := 22 }
set_option maxHeartbeats 4000000 in
set_option maxRecDepth 100000 in
theorem tX7_trace (g : tb_GT) (l : Launch) (a1 : Int32) (M M' : tb_Mem) (r : Int32) (h : fX7_trace a1 M = some (r, M')) : tb_C g l yX7_trace (Cond.code yX7_trace cX7_trace 2 (some .int)) rmX7_trace [.ref (tb_ad g 297), .int a1] M M' (some (.int r)) := by
  refine tb_entry (by decide) (Nat.le_of_ble_eq_true rfl) ?_
  intro P e s m below meth c F hP hS ls hl
  have F : tb_F g cX7_trace 2 RX7 (some .int) (Cond.code yX7_trace cX7_trace 2 (some .int)) P s m ([.ref (tb_ad g 297), .int a1] : List Value).toArray meth c := F
  have hx := F.1.1
  have hb := F.1.2.1
  have hl : lv_has ls 2 [(0, .ref (tb_ad g 297)), (1, .int a1)] := hl
  unfold fX7_trace at h
  refine lv_iload_n hx hb dX7_trace_0 rfl (lv_at hl 1 rfl) ?_
  refine lv_iconst (v := 0) hx hb dX7_trace_1 (by decide) ?_
  refine lv_aload_n hx hb dX7_trace_2 rfl (lv_at hl 0 rfl) ?_
  refine tb_geti F hP tb_l297 (ci := 7) rfl inlX7 16 (by decide) rfl kf_X7_199 dX7_trace_3 ?_
  refine lv_iconst (v := 1) hx hb dX7_trace_6 (by decide) ?_
  refine lv_isub hx hb dX7_trace_7 ?_
  obtain ⟨r3, M1, e2, h⟩ := tb_b2s h
  refine tb_callS F hP hS hl.1 kX7_in km_X7_47 (as := [.int a1, .int 0, .int ((M 297 16) - 1)]) (tX7_in g l a1 0 ((M 297 16) - 1) M M1 r3 e2) ⟨rfl, rfl, Nat.le_of_ble_eq_true rfl, Nat.le_of_ble_eq_true rfl⟩ rfl (rest := []) rfl (st1 := [.int r3]) rfl (Nat.le_of_ble_eq_true rfl) ⟨Nat.zero_le _, Nat.zero_le _⟩ dX7_trace_8 (fun H locs hP hS => ?_)
  refine lv_if_eq (tgt := 23) hx hb dX7_trace_11 (by decide) (fun c4 => ?_) (fun c4 => ?_)
  · have h := tb_ip c4 h
    refine lv_ldc (v := (-1000000)) hx hb F.1.2.2.2.1 (tb_hts F kc_X7_166) dX7_trace_23 ?_
    exact tb_iret h F hP hS dX7_trace_25
  · have h := tb_ineg c4 h
    refine lv_aload_n hx hb dX7_trace_14 rfl (lv_at hl 0 rfl) ?_
    refine tb_getr F hP tb_l297 (ci := 7) rfl inlX7 15 (by decide) rfl kf_X7_44 dX7_trace_15 ?_
    refine lv_iload_n hx hb dX7_trace_18 rfl (lv_at hl 1 rfl) ?_
    obtain ⟨k5, h⟩ := tb_cks h
    refine tb_iald F hP tb_l309 rfl (tb_inv k5) dX7_trace_19 ?_
    refine lv_goto (tgt := 25) hx hb dX7_trace_20 (by decide) ?_
    exact tb_iret h F hP hS dX7_trace_25
def fX7_count_L125 : Nat → Int32 → Int32 → tb_Mem → Option (Int32 × tb_Mem)
  | 0, _, _, _ => none
  | n + 1, x2, x3, M => if 20 ≤ x3 then (some (x2, M)) else (tb_ck (tb_in (26 + x3) 63) (tb_let ((x2 + ((if (M 303 (26 + x3).toNatClampNeg) = 0 then 0 else 1) : Int32)) : Int32) (fun v24 => fX7_count_L125 n v24 (x3 + 1) M)))
def fX7_count_L54 : Nat → Int32 → Int32 → tb_Mem → Option (Int32 × tb_Mem)
  | 0, _, _, _ => none
  | n + 1, x2, x3, M => if 8 ≤ x3 then (some (x2, M)) else (tb_ck (tb_in x3 8) (tb_let ((x2 + ((if 0 ≤ (M 298 x3.toNatClampNeg) then 1 else 0) : Int32)) : Int32) (fun v19 => fX7_count_L54 n v19 (x3 + 1) M)))
def fX7_count (a1 : Int32) (M : tb_Mem) : Option (Int32 × tb_Mem) :=
  if a1 = 0 then (fX7_count_L54 tb_N 0 0 M) else (if a1 = 1 then (some ((M 303 46), M)) else (if a1 = 2 then (some ((M 303 0), M)) else (if a1 = 3 then (some ((M 303 1), M)) else (if a1 = 4 then (tb_b2 (fX7_moving 303 M) (fun r8 M6 => some (r8, M6))) else (if a1 = 5 then (tb_b2 (fX7_hanging 303 M) (fun r12 M10 => some (r12, M10))) else (if a1 = 6 then (fX7_count_L125 tb_N 0 0 M) else (if a1 = 7 then (some ((M 297 13), M)) else (if a1 = 8 then (some ((M 297 6), M)) else (some ((-1000001), M))))))))))
abbrev rmX7_count : Room := { frames := 1, cells := 0, slots := 0, locals := 22 }
set_option maxHeartbeats 4000000 in
set_option maxRecDepth 100000 in
theorem tX7_count_L125 {g : tb_GT} {l : Launch} {P : Program} {e : Env} {s : State} {m : MethodId} {below : List Frame} {meth : Method} {c : Code} {a1 : Int32} {M' : tb_Mem} {r : Int32} (F : tb_F g cX7_count 4 RX7 (some .int) (Cond.code yX7_count cX7_count 4 (some .int)) P s m ([.ref (tb_ad g 297), .int a1] : List Value).toArray meth c) :
    ∀ (n : Nat) (x2 : Int32) (x3 : Int32) (M : tb_Mem) (H : Heap) (locs : List Loc) (ls : Array Slot), tb_P g M H → va_S (tb_A g) s.heap H locs → lv_has ls 4 [(0, .ref (tb_ad g 297)), (2, .int x2), (3, .int x3)] → fX7_count_L125 n x2 x3 M = some (r, M') → W P l e rmX7_count s m ([.ref (tb_ad g 297), .int a1] : List Value).toArray below meth c H locs 0 0 (MQ below (tb_Q g M' (some (.int r))) ([.ref (tb_ad g 297), .int a1] : List Value).toArray s 0 0 (tb_A g)) (F0 m 125 ls []) := by
  have hx := F.1.1
  have hb := F.1.2.1
  intro n
  induction n with
  | zero =>
    intro x2 x3 M H locs ls hP hS hl h
    rw [fX7_count_L125] at h
    exact tb_none h
  | succ n ih =>
    intro x2 x3 M H locs ls hP hS hl h
    rw [fX7_count_L125] at h
    refine lv_iload_n hx hb dX7_count_125 rfl (lv_at hl 2 rfl) ?_
    refine lv_bipush (v := 20) hx hb dX7_count_126 (by decide) ?_
    refine lv_icmp_ge (tgt := 157) hx hb dX7_count_128 (by decide) (fun c21 => ?_) (fun c21 => ?_)
    · have h := tb_ip c21 h
      refine lv_iload_n hx hb dX7_count_157 rfl (lv_at hl 1 rfl) ?_
      exact tb_iret h F hP hS dX7_count_158
    · have h := tb_ineg c21 h
      refine lv_iload_n hx hb dX7_count_131 rfl (lv_at hl 1 rfl) ?_
      refine lv_aload_n hx hb dX7_count_132 rfl (lv_at hl 0 rfl) ?_
      refine tb_getr F hP tb_l297 (ci := 7) rfl inlX7 8 (by decide) rfl kf_X7_25 dX7_count_133 ?_
      refine lv_bipush (v := 26) hx hb dX7_count_136 (by decide) ?_
      refine lv_iload_n hx hb dX7_count_138 rfl (lv_at hl 2 rfl) ?_
      refine lv_iadd hx hb dX7_count_139 ?_
      obtain ⟨k22, h⟩ := tb_cks h
      refine tb_iald F hP tb_l303 rfl (tb_inv k22) dX7_count_140 ?_
      refine tb_mrg (g2 := F0 m 149 ls [.int ((if (M 303 (26 + x3).toNatClampNeg) = 0 then 0 else 1) : Int32), .int x2]) (fun hJ => ?_) ?_
      · refine lv_if_ne (tgt := 148) hx hb dX7_count_141 (by decide) (fun c23 => ?_) (fun c23 => ?_)
        · refine lv_iconst (v := 1) hx hb dX7_count_148 (by decide) ?_
          rw [if_neg c23] at hJ
          exact hJ
        · refine lv_iconst (v := 0) hx hb dX7_count_144 (by decide) ?_
          refine lv_goto (tgt := 149) hx hb dX7_count_145 (by decide) ?_
          rw [if_pos c23] at hJ
          exact hJ
      refine lv_iadd hx hb dX7_count_149 ?_
      obtain ⟨v24, e25, h⟩ := tb_lets h
      refine tb_nmi e25 ?_
      refine lv_istore_n (lv' := [(2, .int v24), (0, .ref (tb_ad g 297)), (3, .int x3)]) hx hb dX7_count_150 rfl hl (by decide) rfl (fun ls hl => ?_)
      refine lv_iinc (v := (x3 + 1)) (lv' := [(3, .int (x3 + 1)), (2, .int v24), (0, .ref (tb_ad g 297))]) hx hb dX7_count_151 hl (k := 2) rfl rfl (by decide) rfl (fun ls hl => ?_)
      refine lv_goto (tgt := 125) hx hb dX7_count_154 (by decide) ?_
      exact ih v24 (x3 + 1) M _ _ _ hP hS (lv_sub hl [2, 1, 0] rfl) h
set_option maxHeartbeats 4000000 in
set_option maxRecDepth 100000 in
theorem tX7_count_L54 {g : tb_GT} {l : Launch} {P : Program} {e : Env} {s : State} {m : MethodId} {below : List Frame} {meth : Method} {c : Code} {a1 : Int32} {M' : tb_Mem} {r : Int32} (F : tb_F g cX7_count 4 RX7 (some .int) (Cond.code yX7_count cX7_count 4 (some .int)) P s m ([.ref (tb_ad g 297), .int a1] : List Value).toArray meth c) :
    ∀ (n : Nat) (x2 : Int32) (x3 : Int32) (M : tb_Mem) (H : Heap) (locs : List Loc) (ls : Array Slot), tb_P g M H → va_S (tb_A g) s.heap H locs → lv_has ls 4 [(0, .ref (tb_ad g 297)), (2, .int x2), (3, .int x3)] → fX7_count_L54 n x2 x3 M = some (r, M') → W P l e rmX7_count s m ([.ref (tb_ad g 297), .int a1] : List Value).toArray below meth c H locs 0 0 (MQ below (tb_Q g M' (some (.int r))) ([.ref (tb_ad g 297), .int a1] : List Value).toArray s 0 0 (tb_A g)) (F0 m 54 ls []) := by
  have hx := F.1.1
  have hb := F.1.2.1
  intro n
  induction n with
  | zero =>
    intro x2 x3 M H locs ls hP hS hl h
    rw [fX7_count_L54] at h
    exact tb_none h
  | succ n ih =>
    intro x2 x3 M H locs ls hP hS hl h
    rw [fX7_count_L54] at h
    refine lv_iload_n hx hb dX7_count_54 rfl (lv_at hl 2 rfl) ?_
    refine lv_bipush (v := 8) hx hb dX7_count_55 (by decide) ?_
    refine lv_icmp_ge (tgt := 83) hx hb dX7_count_57 (by decide) (fun c16 => ?_) (fun c16 => ?_)
    · have h := tb_ip c16 h
      refine lv_iload_n hx hb dX7_count_83 rfl (lv_at hl 1 rfl) ?_
      exact tb_iret h F hP hS dX7_count_84
    · have h := tb_ineg c16 h
      refine lv_iload_n hx hb dX7_count_60 rfl (lv_at hl 1 rfl) ?_
      refine lv_aload_n hx hb dX7_count_61 rfl (lv_at hl 0 rfl) ?_
      refine tb_getr F hP tb_l297 (ci := 7) rfl inlX7 0 (by decide) rfl kf_X7_7 dX7_count_62 ?_
      refine lv_iload_n hx hb dX7_count_65 rfl (lv_at hl 2 rfl) ?_
      obtain ⟨k17, h⟩ := tb_cks h
      refine tb_iald F hP tb_l298 rfl (tb_inv k17) dX7_count_66 ?_
      refine tb_mrg (g2 := F0 m 75 ls [.int ((if 0 ≤ (M 298 x3.toNatClampNeg) then 1 else 0) : Int32), .int x2]) (fun hJ => ?_) ?_
      · refine lv_if_ge (tgt := 74) hx hb dX7_count_67 (by decide) (fun c18 => ?_) (fun c18 => ?_)
        · refine lv_iconst (v := 1) hx hb dX7_count_74 (by decide) ?_
          rw [if_pos c18] at hJ
          exact hJ
        · refine lv_iconst (v := 0) hx hb dX7_count_70 (by decide) ?_
          refine lv_goto (tgt := 75) hx hb dX7_count_71 (by decide) ?_
          rw [if_neg c18] at hJ
          exact hJ
      refine lv_iadd hx hb dX7_count_75 ?_
      obtain ⟨v19, e20, h⟩ := tb_lets h
      refine tb_nmi e20 ?_
      refine lv_istore_n (lv' := [(2, .int v19), (0, .ref (tb_ad g 297)), (3, .int x3)]) hx hb dX7_count_76 rfl hl (by decide) rfl (fun ls hl => ?_)
      refine lv_iinc (v := (x3 + 1)) (lv' := [(3, .int (x3 + 1)), (2, .int v19), (0, .ref (tb_ad g 297))]) hx hb dX7_count_77 hl (k := 2) rfl rfl (by decide) rfl (fun ls hl => ?_)
      refine lv_goto (tgt := 54) hx hb dX7_count_80 (by decide) ?_
      exact ih v19 (x3 + 1) M _ _ _ hP hS (lv_sub hl [2, 1, 0] rfl) h
set_option maxHeartbeats 4000000 in
set_option maxRecDepth 100000 in
theorem tX7_count (g : tb_GT) (l : Launch) (a1 : Int32) (M M' : tb_Mem) (r : Int32) (h : fX7_count a1 M = some (r, M')) : tb_C g l yX7_count (Cond.code yX7_count cX7_count 4 (some .int)) rmX7_count [.ref (tb_ad g 297), .int a1] M M' (some (.int r)) := by
  refine tb_entry (by decide) (Nat.le_of_ble_eq_true rfl) ?_
  intro P e s m below meth c F hP hS ls hl
  have F : tb_F g cX7_count 4 RX7 (some .int) (Cond.code yX7_count cX7_count 4 (some .int)) P s m ([.ref (tb_ad g 297), .int a1] : List Value).toArray meth c := F
  have hx := F.1.1
  have hb := F.1.2.1
  have hl : lv_has ls 4 [(0, .ref (tb_ad g 297)), (1, .int a1)] := hl
  unfold fX7_count at h
  refine lv_iconst (v := 0) hx hb dX7_count_0 (by decide) ?_
  refine lv_istore_n (lv' := [(2, .int 0), (0, .ref (tb_ad g 297)), (1, .int a1)]) hx hb dX7_count_1 rfl hl (by decide) rfl (fun ls hl => ?_)
  refine lv_iload_n hx hb dX7_count_2 rfl (lv_at hl 2 rfl) ?_
  by_cases c1 : a1 = 0
  · have h := tb_ip c1 h
    refine lv_tableIn (tgt := 52) hx hb dX7_count_3 (by rw [c1]; decide) (by rw [c1]; decide) (by rw [c1]; rfl) (by decide) ?_
    refine lv_iconst (v := 0) hx hb dX7_count_52 (by decide) ?_
    refine lv_istore_n (lv' := [(3, .int 0), (2, .int 0), (0, .ref (tb_ad g 297)), (1, .int a1)]) hx hb dX7_count_53 rfl hl (by decide) rfl (fun ls hl => ?_)
    exact tX7_count_L54 F tb_N 0 0 M _ _ _ hP hS (lv_sub hl [2, 1, 0] rfl) h
  have h := tb_ineg c1 h
  by_cases c2 : a1 = 1
  · have h := tb_ip c2 h
    refine lv_tableIn (tgt := 85) hx hb dX7_count_3 (by rw [c2]; decide) (by rw [c2]; decide) (by rw [c2]; rfl) (by decide) ?_
    refine lv_aload_n hx hb dX7_count_85 rfl (lv_at hl 1 rfl) ?_
    refine tb_getr F hP tb_l297 (ci := 7) rfl inlX7 8 (by decide) rfl kf_X7_25 dX7_count_86 ?_
    refine lv_bipush (v := 46) hx hb dX7_count_89 (by decide) ?_
    refine tb_iald F hP tb_l303 (k := 46) (by decide +kernel) (tb_inv (i := 46) (n := 63) (by decide +kernel)) dX7_count_91 ?_
    exact tb_iret h F hP hS dX7_count_92
  have h := tb_ineg c2 h
  by_cases c3 : a1 = 2
  · have h := tb_ip c3 h
    refine lv_tableIn (tgt := 93) hx hb dX7_count_3 (by rw [c3]; decide) (by rw [c3]; decide) (by rw [c3]; rfl) (by decide) ?_
    refine lv_aload_n hx hb dX7_count_93 rfl (lv_at hl 1 rfl) ?_
    refine tb_getr F hP tb_l297 (ci := 7) rfl inlX7 8 (by decide) rfl kf_X7_25 dX7_count_94 ?_
    refine lv_iconst (v := 0) hx hb dX7_count_97 (by decide) ?_
    refine tb_iald F hP tb_l303 (k := 0) (by decide +kernel) (tb_inv (i := 0) (n := 63) (by decide +kernel)) dX7_count_98 ?_
    exact tb_iret h F hP hS dX7_count_99
  have h := tb_ineg c3 h
  by_cases c4 : a1 = 3
  · have h := tb_ip c4 h
    refine lv_tableIn (tgt := 100) hx hb dX7_count_3 (by rw [c4]; decide) (by rw [c4]; decide) (by rw [c4]; rfl) (by decide) ?_
    refine lv_aload_n hx hb dX7_count_100 rfl (lv_at hl 1 rfl) ?_
    refine tb_getr F hP tb_l297 (ci := 7) rfl inlX7 8 (by decide) rfl kf_X7_25 dX7_count_101 ?_
    refine lv_iconst (v := 1) hx hb dX7_count_104 (by decide) ?_
    refine tb_iald F hP tb_l303 (k := 1) (by decide +kernel) (tb_inv (i := 1) (n := 63) (by decide +kernel)) dX7_count_105 ?_
    exact tb_iret h F hP hS dX7_count_106
  have h := tb_ineg c4 h
  by_cases c5 : a1 = 4
  · have h := tb_ip c5 h
    refine lv_tableIn (tgt := 107) hx hb dX7_count_3 (by rw [c5]; decide) (by rw [c5]; decide) (by rw [c5]; rfl) (by decide) ?_
    refine lv_aload_n hx hb dX7_count_107 rfl (lv_at hl 1 rfl) ?_
    refine tb_getr F hP tb_l297 (ci := 7) rfl inlX7 8 (by decide) rfl kf_X7_25 dX7_count_108 ?_
    obtain ⟨r8, M6, e7, h⟩ := tb_b2s h
    refine tb_callS F hP hS hl.1 kX7_moving km_X7_152 (as := [.ref (tb_ad g 303)]) (tX7_moving g l 303 tb_l303 M M6 r8 e7) ⟨rfl, rfl, Nat.le_of_ble_eq_true rfl, Nat.le_of_ble_eq_true rfl⟩ rfl (rest := []) rfl (st1 := [.int r8]) rfl (Nat.le_of_ble_eq_true rfl) ⟨Nat.zero_le _, Nat.zero_le _⟩ dX7_count_111 (fun H locs hP hS => ?_)
    exact tb_iret h F hP hS dX7_count_114
  have h := tb_ineg c5 h
  by_cases c9 : a1 = 5
  · have h := tb_ip c9 h
    refine lv_tableIn (tgt := 115) hx hb dX7_count_3 (by rw [c9]; decide) (by rw [c9]; decide) (by rw [c9]; rfl) (by decide) ?_
    refine lv_aload_n hx hb dX7_count_115 rfl (lv_at hl 1 rfl) ?_
    refine tb_getr F hP tb_l297 (ci := 7) rfl inlX7 8 (by decide) rfl kf_X7_25 dX7_count_116 ?_
    obtain ⟨r12, M10, e11, h⟩ := tb_b2s h
    refine tb_callS F hP hS hl.1 kX7_hanging km_X7_142 (as := [.ref (tb_ad g 303)]) (tX7_hanging g l 303 tb_l303 M M10 r12 e11) ⟨rfl, rfl, Nat.le_of_ble_eq_true rfl, Nat.le_of_ble_eq_true rfl⟩ rfl (rest := []) rfl (st1 := [.int r12]) rfl (Nat.le_of_ble_eq_true rfl) ⟨Nat.zero_le _, Nat.zero_le _⟩ dX7_count_119 (fun H locs hP hS => ?_)
    exact tb_iret h F hP hS dX7_count_122
  have h := tb_ineg c9 h
  by_cases c13 : a1 = 6
  · have h := tb_ip c13 h
    refine lv_tableIn (tgt := 123) hx hb dX7_count_3 (by rw [c13]; decide) (by rw [c13]; decide) (by rw [c13]; rfl) (by decide) ?_
    refine lv_iconst (v := 0) hx hb dX7_count_123 (by decide) ?_
    refine lv_istore_n (lv' := [(3, .int 0), (2, .int 0), (0, .ref (tb_ad g 297)), (1, .int a1)]) hx hb dX7_count_124 rfl hl (by decide) rfl (fun ls hl => ?_)
    exact tX7_count_L125 F tb_N 0 0 M _ _ _ hP hS (lv_sub hl [2, 1, 0] rfl) h
  have h := tb_ineg c13 h
  by_cases c14 : a1 = 7
  · have h := tb_ip c14 h
    refine lv_tableIn (tgt := 159) hx hb dX7_count_3 (by rw [c14]; decide) (by rw [c14]; decide) (by rw [c14]; rfl) (by decide) ?_
    refine lv_aload_n hx hb dX7_count_159 rfl (lv_at hl 1 rfl) ?_
    refine tb_geti F hP tb_l297 (ci := 7) rfl inlX7 13 (by decide) rfl kf_X7_109 dX7_count_160 ?_
    exact tb_iret h F hP hS dX7_count_163
  have h := tb_ineg c14 h
  by_cases c15 : a1 = 8
  · have h := tb_ip c15 h
    refine lv_tableIn (tgt := 164) hx hb dX7_count_3 (by rw [c15]; decide) (by rw [c15]; decide) (by rw [c15]; rfl) (by decide) ?_
    refine lv_aload_n hx hb dX7_count_164 rfl (lv_at hl 1 rfl) ?_
    refine tb_geti F hP tb_l297 (ci := 7) rfl inlX7 6 (by decide) rfl kf_X7_76 dX7_count_165 ?_
    exact tb_iret h F hP hS dX7_count_168
  have h := tb_ineg c15 h
  have uc1 := lv_neT c1 (show (0 : Int32).toInt = 0 by decide)
  have uc2 := lv_neT c2 (show (1 : Int32).toInt = 1 by decide)
  have uc3 := lv_neT c3 (show (2 : Int32).toInt = 2 by decide)
  have uc4 := lv_neT c4 (show (3 : Int32).toInt = 3 by decide)
  have uc5 := lv_neT c5 (show (4 : Int32).toInt = 4 by decide)
  have uc9 := lv_neT c9 (show (5 : Int32).toInt = 5 by decide)
  have uc13 := lv_neT c13 (show (6 : Int32).toInt = 6 by decide)
  have uc14 := lv_neT c14 (show (7 : Int32).toInt = 7 by decide)
  have uc15 := lv_neT c15 (show (8 : Int32).toInt = 8 by decide)
  refine lv_tableOut (tgt := 169) hx hb dX7_count_3 (by omega) (by decide) ?_
  refine lv_ldc (v := (-1000001)) hx hb F.1.2.2.2.1 (tb_hts F kc_X7_62) dX7_count_169 ?_
  exact tb_iret h F hP hS dX7_count_171
def fX7_status (M : tb_Mem) : Option (Int32 × tb_Mem) :=
  some ((M 297 4), M)
abbrev rmX7_status : Room := { frames := 0, cells := 0, slots := 0, locals := 0 }
set_option maxHeartbeats 4000000 in
set_option maxRecDepth 100000 in
theorem tX7_status (g : tb_GT) (l : Launch) (M M' : tb_Mem) (r : Int32) (h : fX7_status M = some (r, M')) : tb_C g l yX7_status (Cond.code yX7_status cX7_status 1 (some .int)) rmX7_status [.ref (tb_ad g 297)] M M' (some (.int r)) := by
  refine tb_entry (by decide) (Nat.le_of_ble_eq_true rfl) ?_
  intro P e s m below meth c F hP hS ls hl
  have F : tb_F g cX7_status 1 RX7 (some .int) (Cond.code yX7_status cX7_status 1 (some .int)) P s m ([.ref (tb_ad g 297)] : List Value).toArray meth c := F
  have hx := F.1.1
  have hb := F.1.2.1
  have hl : lv_has ls 1 [(0, .ref (tb_ad g 297))] := hl
  unfold fX7_status at h
  refine lv_aload_n hx hb dX7_status_0 rfl (lv_at hl 0 rfl) ?_
  refine tb_geti F hP tb_l297 (ci := 7) rfl inlX7 4 (by decide) rfl kf_X7_54 dX7_status_1 ?_
  exact tb_iret h F hP hS dX7_status_4

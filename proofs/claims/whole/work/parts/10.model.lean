def fX7_in (a0 : Int32) (a1 : Int32) (a2 : Int32) (M : tb_Mem) : Option (Int32 × tb_Mem) :=
  some (((if a0 < a1 then 0 else (if a2 < a0 then 0 else 1)) : Int32), M)
abbrev rmX7_in : Room := { frames := 0, cells := 0, slots := 0, locals := 0 }
set_option maxHeartbeats 4000000 in
set_option maxRecDepth 100000 in
theorem tX7_in (g : tb_GT) (l : Launch) (a0 : Int32) (a1 : Int32) (a2 : Int32) (M M' : tb_Mem) (r : Int32) (h : fX7_in a0 a1 a2 M = some (r, M')) : tb_C g l yX7_in (Cond.code yX7_in cX7_in 3 (some .boolean)) rmX7_in [.int a0, .int a1, .int a2] M M' (some (.int r)) := by
  refine tb_entry (by decide) (Nat.le_of_ble_eq_true rfl) ?_
  intro P e s m below meth c F hP hS ls hl
  have F : tb_F g cX7_in 3 RX7 (some .boolean) (Cond.code yX7_in cX7_in 3 (some .boolean)) P s m ([.int a0, .int a1, .int a2] : List Value).toArray meth c := F
  have hx := F.1.1
  have hb := F.1.2.1
  have hl : lv_has ls 3 [(0, .int a0), (1, .int a1), (2, .int a2)] := hl
  unfold fX7_in at h
  refine lv_iload_n hx hb dX7_in_0 rfl (lv_at hl 0 rfl) ?_
  refine lv_iload_n hx hb dX7_in_1 rfl (lv_at hl 1 rfl) ?_
  refine tb_mrg (g2 := F0 m 15 ls [.int ((if a0 < a1 then 0 else (if a2 < a0 then 0 else 1)) : Int32)]) (fun hJ => ?_) ?_
  · refine lv_icmp_lt (tgt := 14) hx hb dX7_in_2 (by decide) (fun c1 => ?_) (fun c1 => ?_)
    · refine lv_iconst (v := 0) hx hb dX7_in_14 (by decide) ?_
      rw [if_pos c1] at hJ
      exact hJ
    · refine lv_iload_n hx hb dX7_in_5 rfl (lv_at hl 0 rfl) ?_
      refine lv_iload_n hx hb dX7_in_6 rfl (lv_at hl 2 rfl) ?_
      refine lv_icmp_gt (tgt := 14) hx hb dX7_in_7 (by decide) (fun c2 => ?_) (fun c2 => ?_)
      · refine lv_iconst (v := 0) hx hb dX7_in_14 (by decide) ?_
        rw [if_neg c1, if_pos c2] at hJ
        exact hJ
      · refine lv_iconst (v := 1) hx hb dX7_in_10 (by decide) ?_
        refine lv_goto (tgt := 15) hx hb dX7_in_11 (by decide) ?_
        rw [if_neg c1, if_neg c2] at hJ
        exact hJ
  exact tb_zret h F (tb_bln (by (repeat' split) <;> decide)) hP hS dX7_in_15
def fX7_isRow (a0 : Int32) (M : tb_Mem) : Option (Int32 × tb_Mem) :=
  tb_b2 (fX7_in a0 0 7 M) (fun r3 M1 => tb_ck (tb_bl r3) (some (r3, M1)))
abbrev rmX7_isRow : Room := { frames := 1, cells := 0, slots := 0, locals := 22 }
set_option maxHeartbeats 4000000 in
set_option maxRecDepth 100000 in
theorem tX7_isRow (g : tb_GT) (l : Launch) (a0 : Int32) (M M' : tb_Mem) (r : Int32) (h : fX7_isRow a0 M = some (r, M')) : tb_C g l yX7_isRow (Cond.code yX7_isRow cX7_isRow 1 (some .boolean)) rmX7_isRow [.int a0] M M' (some (.int r)) := by
  refine tb_entry (by decide) (Nat.le_of_ble_eq_true rfl) ?_
  intro P e s m below meth c F hP hS ls hl
  have F : tb_F g cX7_isRow 1 RX7 (some .boolean) (Cond.code yX7_isRow cX7_isRow 1 (some .boolean)) P s m ([.int a0] : List Value).toArray meth c := F
  have hx := F.1.1
  have hb := F.1.2.1
  have hl : lv_has ls 1 [(0, .int a0)] := hl
  unfold fX7_isRow at h
  refine lv_iload_n hx hb dX7_isRow_0 rfl (lv_at hl 0 rfl) ?_
  refine lv_iconst (v := 0) hx hb dX7_isRow_1 (by decide) ?_
  refine lv_bipush (v := 7) hx hb dX7_isRow_2 (by decide) ?_
  obtain ⟨r3, M1, e2, h⟩ := tb_b2s h
  refine tb_callS F hP hS hl.1 kX7_in km_X7_47 (as := [.int a0, .int 0, .int 7]) (tX7_in g l a0 0 7 M M1 r3 e2) ⟨rfl, rfl, Nat.le_of_ble_eq_true rfl, Nat.le_of_ble_eq_true rfl⟩ rfl (rest := []) rfl (st1 := [.int r3]) rfl (Nat.le_of_ble_eq_true rfl) ⟨Nat.zero_le _, Nat.zero_le _⟩ dX7_isRow_4 (fun H locs hP hS => ?_)
  obtain ⟨k4, h⟩ := tb_cks h
  exact tb_zret h F (tb_bln k4) hP hS dX7_isRow_7
def fX7_ends (a1 : Int32) (M : tb_Mem) : Option (Int32 × tb_Mem) :=
  tb_b2 (fX7_in a1 (-1000015) (-1000011) M) (fun r3 M1 => tb_let (tb_up M1 297 4 ((if r3 = 0 then 0 else ((-1000010) - a1)) : Int32)) (fun M5 => some (a1, M5)))
abbrev rmX7_ends : Room := { frames := 1, cells := 0, slots := 0, locals := 22 }
set_option maxHeartbeats 4000000 in
set_option maxRecDepth 100000 in
theorem tX7_ends (g : tb_GT) (l : Launch) (a1 : Int32) (M M' : tb_Mem) (r : Int32) (h : fX7_ends a1 M = some (r, M')) : tb_C g l yX7_ends (Cond.code yX7_ends cX7_ends 2 (some .int)) rmX7_ends [.ref (tb_ad g 297), .int a1] M M' (some (.int r)) := by
  refine tb_entry (by decide) (Nat.le_of_ble_eq_true rfl) ?_
  intro P e s m below meth c F hP hS ls hl
  have F : tb_F g cX7_ends 2 RX7 (some .int) (Cond.code yX7_ends cX7_ends 2 (some .int)) P s m ([.ref (tb_ad g 297), .int a1] : List Value).toArray meth c := F
  have hx := F.1.1
  have hb := F.1.2.1
  have hl : lv_has ls 2 [(0, .ref (tb_ad g 297)), (1, .int a1)] := hl
  unfold fX7_ends at h
  refine lv_aload_n hx hb dX7_ends_0 rfl (lv_at hl 0 rfl) ?_
  refine lv_iload_n hx hb dX7_ends_1 rfl (lv_at hl 1 rfl) ?_
  refine lv_ldc (v := (-1000015)) hx hb F.1.2.2.2.1 (tb_hts F kc_X7_51) dX7_ends_2 ?_
  refine lv_ldc (v := (-1000011)) hx hb F.1.2.2.2.1 (tb_hts F kc_X7_52) dX7_ends_4 ?_
  obtain ⟨r3, M1, e2, h⟩ := tb_b2s h
  refine tb_callS F hP hS hl.1 kX7_in km_X7_47 (as := [.int a1, .int (-1000015), .int (-1000011)]) (tX7_in g l a1 (-1000015) (-1000011) M M1 r3 e2) ⟨rfl, rfl, Nat.le_of_ble_eq_true rfl, Nat.le_of_ble_eq_true rfl⟩ rfl (rest := [.ref (tb_ad g 297)]) rfl (st1 := [.int r3, .ref (tb_ad g 297)]) rfl (Nat.le_of_ble_eq_true rfl) ⟨Nat.zero_le _, Nat.zero_le _⟩ dX7_ends_6 (fun H locs hP hS => ?_)
  refine tb_mrg (g2 := F0 m 20 ls [.int ((if r3 = 0 then 0 else ((-1000010) - a1)) : Int32), .ref (tb_ad g 297)]) (fun hJ => ?_) ?_
  · refine lv_if_eq (tgt := 19) hx hb dX7_ends_9 (by decide) (fun c4 => ?_) (fun c4 => ?_)
    · refine lv_iconst (v := 0) hx hb dX7_ends_19 (by decide) ?_
      rw [if_pos c4] at hJ
      exact hJ
    · refine lv_ldc (v := (-1000010)) hx hb F.1.2.2.2.1 (tb_hts F kc_X7_53) dX7_ends_12 ?_
      refine lv_iload_n hx hb dX7_ends_14 rfl (lv_at hl 1 rfl) ?_
      refine lv_isub hx hb dX7_ends_15 ?_
      refine lv_goto (tgt := 20) hx hb dX7_ends_16 (by decide) ?_
      rw [if_neg c4] at hJ
      exact hJ
  obtain ⟨M5, e6, h⟩ := tb_lets h
  refine tb_puti F hP hS tb_l297 (ci := 7) rfl inlX7 tyX7 tyX7_ok nmX7 4 (by decide) rfl rfl rfl rfl kf_X7_54 dX7_ends_20 (fun H locs hP hS => ?_)
  rw [← e6] at hP
  refine lv_iload_n hx hb dX7_ends_23 rfl (lv_at hl 1 rfl) ?_
  exact tb_iret h F hP hS dX7_ends_24
def fX7_cut (a0 : Int32) (a1 : Int32) (M : tb_Mem) : Option (Int32 × tb_Mem) :=
  some (((if a0 = 0 then (a1.toInt8.toInt32) else (if a0 = 1 then (a1.toInt16.toInt32) else a1)) : Int32), M)
abbrev rmX7_cut : Room := { frames := 0, cells := 0, slots := 0, locals := 0 }
set_option maxHeartbeats 4000000 in
set_option maxRecDepth 100000 in
theorem tX7_cut (g : tb_GT) (l : Launch) (a0 : Int32) (a1 : Int32) (M M' : tb_Mem) (r : Int32) (h : fX7_cut a0 a1 M = some (r, M')) : tb_C g l yX7_cut (Cond.code yX7_cut cX7_cut 2 (some .int)) rmX7_cut [.int a0, .int a1] M M' (some (.int r)) := by
  refine tb_entry (by decide) (Nat.le_of_ble_eq_true rfl) ?_
  intro P e s m below meth c F hP hS ls hl
  have F : tb_F g cX7_cut 2 RX7 (some .int) (Cond.code yX7_cut cX7_cut 2 (some .int)) P s m ([.int a0, .int a1] : List Value).toArray meth c := F
  have hx := F.1.1
  have hb := F.1.2.1
  have hl : lv_has ls 2 [(0, .int a0), (1, .int a1)] := hl
  unfold fX7_cut at h
  refine lv_iload_n hx hb dX7_cut_0 rfl (lv_at hl 0 rfl) ?_
  refine tb_mrg (g2 := F0 m 20 ls [.int ((if a0 = 0 then (a1.toInt8.toInt32) else (if a0 = 1 then (a1.toInt16.toInt32) else a1)) : Int32)]) (fun hJ => ?_) ?_
  · refine lv_if_ne (tgt := 9) hx hb dX7_cut_1 (by decide) (fun c1 => ?_) (fun c1 => ?_)
    · refine lv_iload_n hx hb dX7_cut_9 rfl (lv_at hl 0 rfl) ?_
      refine lv_iconst (v := 1) hx hb dX7_cut_10 (by decide) ?_
      refine lv_icmp_ne (tgt := 19) hx hb dX7_cut_11 (by decide) (fun c2 => ?_) (fun c2 => ?_)
      · refine lv_iload_n hx hb dX7_cut_19 rfl (lv_at hl 1 rfl) ?_
        rw [if_neg c1, if_neg c2] at hJ
        exact hJ
      · refine lv_iload_n hx hb dX7_cut_14 rfl (lv_at hl 1 rfl) ?_
        refine lv_i2s (v := (a1.toInt16.toInt32)) hx hb dX7_cut_15 rfl ?_
        refine lv_goto (tgt := 20) hx hb dX7_cut_16 (by decide) ?_
        rw [if_neg c1, if_pos c2] at hJ
        exact hJ
    · refine lv_iload_n hx hb dX7_cut_4 rfl (lv_at hl 1 rfl) ?_
      refine lv_i2b (v := (a1.toInt8.toInt32)) hx hb dX7_cut_5 rfl ?_
      refine lv_goto (tgt := 20) hx hb dX7_cut_6 (by decide) ?_
      rw [if_pos c1] at hJ
      exact hJ
  exact tb_iret h F hP hS dX7_cut_20
def fX7_row_L53 : Nat → Int32 → Int32 → Int32 → tb_Mem → Option (Int32 × tb_Mem)
  | 0, _, _, _, _ => none
  | n + 1, x1, x3, x4, M => if 40 ≤ x4 then (tb_b2 (fX7_ends x3 M) (fun r22 M20 => some (r22, M20))) else (tb_ck (tb_in ((40 * x1) + x4) 320) (tb_let (tb_up M 300 (((40 * x1) + x4).toNatClampNeg) 0) (fun M24 => fX7_row_L53 n x1 x3 (x4 + 1) M24)))
def fX7_row (a1 : Int32) (a2 : Int32) (a3 : Int32) (M : tb_Mem) : Option (Int32 × tb_Mem) :=
  tb_b2 (fX7_isRow a1 M) (fun r3 M1 => if r3 = 0 then (some ((-1000001), M1)) else (tb_b2 (fX7_in a2 0 2 M1) (fun r7 M5 => if r7 = 0 then (some ((-1000001), M5)) else (if a3 ≤ 40 then (if 0 ≤ a3 then (tb_ck (tb_in a1 8) (tb_let (tb_up M5 298 a1.toNatClampNeg a3) (fun M12 => tb_let (tb_up M12 299 a1.toNatClampNeg a2) (fun M14 => fX7_row_L53 tb_N a1 a3 0 M14)))) else (tb_b2 (fX7_ends (-1000014) M5) (fun r18 M16 => some (r18, M16)))) else (some ((-1000001), M5))))))
abbrev rmX7_row : Room := { frames := 2, cells := 0, slots := 0, locals := 43 }
set_option maxHeartbeats 4000000 in
set_option maxRecDepth 100000 in
theorem tX7_row_L53 {g : tb_GT} {l : Launch} {P : Program} {e : Env} {s : State} {m : MethodId} {below : List Frame} {meth : Method} {c : Code} {a1 : Int32} {a2 : Int32} {a3 : Int32} {M' : tb_Mem} {r : Int32} (F : tb_F g cX7_row 5 RX7 (some .int) (Cond.code yX7_row cX7_row 5 (some .int)) P s m ([.ref (tb_ad g 297), .int a1, .int a2, .int a3] : List Value).toArray meth c) :
    ∀ (n : Nat) (x1 : Int32) (x3 : Int32) (x4 : Int32) (M : tb_Mem) (H : Heap) (locs : List Loc) (ls : Array Slot), tb_P g M H → va_S (tb_A g) s.heap H locs → lv_has ls 5 [(0, .ref (tb_ad g 297)), (1, .int x1), (3, .int x3), (4, .int x4)] → fX7_row_L53 n x1 x3 x4 M = some (r, M') → W P l e rmX7_row s m ([.ref (tb_ad g 297), .int a1, .int a2, .int a3] : List Value).toArray below meth c H locs 0 0 (MQ below (tb_Q g M' (some (.int r))) ([.ref (tb_ad g 297), .int a1, .int a2, .int a3] : List Value).toArray s 0 0 (tb_A g)) (F0 m 53 ls []) := by
  have hx := F.1.1
  have hb := F.1.2.1
  intro n
  induction n with
  | zero =>
    intro x1 x3 x4 M H locs ls hP hS hl h
    rw [fX7_row_L53] at h
    exact tb_none h
  | succ n ih =>
    intro x1 x3 x4 M H locs ls hP hS hl h
    rw [fX7_row_L53] at h
    refine lv_iload hx hb dX7_row_53 (lv_at hl 3 rfl) ?_
    refine lv_bipush (v := 40) hx hb dX7_row_55 (by decide) ?_
    refine lv_icmp_ge (tgt := 79) hx hb dX7_row_57 (by decide) (fun c19 => ?_) (fun c19 => ?_)
    · have h := tb_ip c19 h
      refine lv_aload_n hx hb dX7_row_79 rfl (lv_at hl 0 rfl) ?_
      refine lv_iload_n hx hb dX7_row_80 rfl (lv_at hl 2 rfl) ?_
      obtain ⟨r22, M20, e21, h⟩ := tb_b2s h
      refine tb_callV F hP hS hl.1 kX7_ends km_X7_64 (as := [.int x3]) (tX7_ends g l x3 M M20 r22 e21) tb_l297 ⟨rfl, rfl, Nat.le_of_ble_eq_true rfl, Nat.le_of_ble_eq_true rfl⟩ rfl (rest := []) rfl (st1 := [.int r22]) rfl (Nat.le_of_ble_eq_true rfl) ⟨Nat.zero_le _, Nat.zero_le _⟩ dX7_row_81 (fun H locs hP hS => ?_)
      exact tb_iret h F hP hS dX7_row_84
    · have h := tb_ineg c19 h
      refine lv_aload_n hx hb dX7_row_60 rfl (lv_at hl 0 rfl) ?_
      refine tb_getr F hP tb_l297 (ci := 7) rfl inlX7 2 (by decide) rfl kf_X7_16 dX7_row_61 ?_
      refine lv_bipush (v := 40) hx hb dX7_row_64 (by decide) ?_
      refine lv_iload_n hx hb dX7_row_66 rfl (lv_at hl 1 rfl) ?_
      refine lv_imul hx hb dX7_row_67 ?_
      refine lv_iload hx hb dX7_row_68 (lv_at hl 3 rfl) ?_
      refine lv_iadd hx hb dX7_row_70 ?_
      refine lv_iconst (v := 0) hx hb dX7_row_71 (by decide) ?_
      obtain ⟨k23, h⟩ := tb_cks h
      obtain ⟨M24, e25, h⟩ := tb_lets h
      refine tb_iast F hP hS tb_l300 rfl (tb_inv k23) dX7_row_72 (fun H locs hP hS => ?_)
      rw [← e25] at hP
      refine lv_iinc (v := (x4 + 1)) (lv' := [(4, .int (x4 + 1)), (0, .ref (tb_ad g 297)), (1, .int x1), (3, .int x3)]) hx hb dX7_row_73 hl (k := 3) rfl rfl (by decide) rfl (fun ls hl => ?_)
      refine lv_goto (tgt := 53) hx hb dX7_row_76 (by decide) ?_
      exact ih x1 x3 (x4 + 1) M24 _ _ _ hP hS (lv_sub hl [1, 2, 3, 0] rfl) h
set_option maxHeartbeats 4000000 in
set_option maxRecDepth 100000 in
theorem tX7_row (g : tb_GT) (l : Launch) (a1 : Int32) (a2 : Int32) (a3 : Int32) (M M' : tb_Mem) (r : Int32) (h : fX7_row a1 a2 a3 M = some (r, M')) : tb_C g l yX7_row (Cond.code yX7_row cX7_row 5 (some .int)) rmX7_row [.ref (tb_ad g 297), .int a1, .int a2, .int a3] M M' (some (.int r)) := by
  refine tb_entry (by decide) (Nat.le_of_ble_eq_true rfl) ?_
  intro P e s m below meth c F hP hS ls hl
  have F : tb_F g cX7_row 5 RX7 (some .int) (Cond.code yX7_row cX7_row 5 (some .int)) P s m ([.ref (tb_ad g 297), .int a1, .int a2, .int a3] : List Value).toArray meth c := F
  have hx := F.1.1
  have hb := F.1.2.1
  have hl : lv_has ls 5 [(0, .ref (tb_ad g 297)), (1, .int a1), (2, .int a2), (3, .int a3)] := hl
  unfold fX7_row at h
  refine lv_iload_n hx hb dX7_row_0 rfl (lv_at hl 1 rfl) ?_
  obtain ⟨r3, M1, e2, h⟩ := tb_b2s h
  refine tb_callS F hP hS hl.1 kX7_isRow km_X7_58 (as := [.int a1]) (tX7_isRow g l a1 M M1 r3 e2) ⟨rfl, rfl, Nat.le_of_ble_eq_true rfl, Nat.le_of_ble_eq_true rfl⟩ rfl (rest := []) rfl (st1 := [.int r3]) rfl (Nat.le_of_ble_eq_true rfl) ⟨Nat.zero_le _, Nat.zero_le _⟩ dX7_row_1 (fun H locs hP hS => ?_)
  refine lv_if_eq (tgt := 22) hx hb dX7_row_4 (by decide) (fun c4 => ?_) (fun c4 => ?_)
  · have h := tb_ip c4 h
    refine lv_ldc (v := (-1000001)) hx hb F.1.2.2.2.1 (tb_hts F kc_X7_62) dX7_row_22 ?_
    exact tb_iret h F hP hS dX7_row_24
  · have h := tb_ineg c4 h
    refine lv_iload_n hx hb dX7_row_7 rfl (lv_at hl 2 rfl) ?_
    refine lv_iconst (v := 0) hx hb dX7_row_8 (by decide) ?_
    refine lv_iconst (v := 2) hx hb dX7_row_9 (by decide) ?_
    obtain ⟨r7, M5, e6, h⟩ := tb_b2s h
    refine tb_callS F hP hS hl.1 kX7_in km_X7_47 (as := [.int a2, .int 0, .int 2]) (tX7_in g l a2 0 2 M1 M5 r7 e6) ⟨rfl, rfl, Nat.le_of_ble_eq_true rfl, Nat.le_of_ble_eq_true rfl⟩ rfl (rest := []) rfl (st1 := [.int r7]) rfl (Nat.le_of_ble_eq_true rfl) ⟨Nat.zero_le _, Nat.zero_le _⟩ dX7_row_10 (fun H locs hP hS => ?_)
    refine lv_if_eq (tgt := 22) hx hb dX7_row_13 (by decide) (fun c8 => ?_) (fun c8 => ?_)
    · have h := tb_ip c8 h
      refine lv_ldc (v := (-1000001)) hx hb F.1.2.2.2.1 (tb_hts F kc_X7_62) dX7_row_22 ?_
      exact tb_iret h F hP hS dX7_row_24
    · have h := tb_ineg c8 h
      refine lv_iload_n hx hb dX7_row_16 rfl (lv_at hl 3 rfl) ?_
      refine lv_bipush (v := 40) hx hb dX7_row_17 (by decide) ?_
      refine lv_icmp_le (tgt := 25) hx hb dX7_row_19 (by decide) (fun c9 => ?_) (fun c9 => ?_)
      · have h := tb_ip c9 h
        refine lv_iload_n hx hb dX7_row_25 rfl (lv_at hl 3 rfl) ?_
        refine lv_if_ge (tgt := 36) hx hb dX7_row_26 (by decide) (fun c10 => ?_) (fun c10 => ?_)
        · have h := tb_ip c10 h
          refine lv_aload_n hx hb dX7_row_36 rfl (lv_at hl 0 rfl) ?_
          refine tb_getr F hP tb_l297 (ci := 7) rfl inlX7 0 (by decide) rfl kf_X7_7 dX7_row_37 ?_
          refine lv_iload_n hx hb dX7_row_40 rfl (lv_at hl 1 rfl) ?_
          refine lv_iload_n hx hb dX7_row_41 rfl (lv_at hl 3 rfl) ?_
          obtain ⟨k11, h⟩ := tb_cks h
          obtain ⟨M12, e13, h⟩ := tb_lets h
          refine tb_iast F hP hS tb_l298 rfl (tb_inv k11) dX7_row_42 (fun H locs hP hS => ?_)
          rw [← e13] at hP
          refine lv_aload_n hx hb dX7_row_43 rfl (lv_at hl 0 rfl) ?_
          refine tb_getr F hP tb_l297 (ci := 7) rfl inlX7 1 (by decide) rfl kf_X7_13 dX7_row_44 ?_
          refine lv_iload_n hx hb dX7_row_47 rfl (lv_at hl 1 rfl) ?_
          refine lv_iload_n hx hb dX7_row_48 rfl (lv_at hl 2 rfl) ?_
          obtain ⟨M14, e15, h⟩ := tb_lets h
          refine tb_iast F hP hS tb_l299 rfl (tb_inv k11) dX7_row_49 (fun H locs hP hS => ?_)
          rw [← e15] at hP
          refine lv_iconst (v := 0) hx hb dX7_row_50 (by decide) ?_
          refine lv_istore (lv' := [(4, .int 0), (0, .ref (tb_ad g 297)), (1, .int a1), (2, .int a2), (3, .int a3)]) hx hb dX7_row_51 hl (by decide) rfl (fun ls hl => ?_)
          exact tX7_row_L53 F tb_N a1 a3 0 M14 _ _ _ hP hS (lv_sub hl [1, 2, 4, 0] rfl) h
        · have h := tb_ineg c10 h
          refine lv_aload_n hx hb dX7_row_29 rfl (lv_at hl 0 rfl) ?_
          refine lv_ldc (v := (-1000014)) hx hb F.1.2.2.2.1 (tb_hts F kc_X7_63) dX7_row_30 ?_
          obtain ⟨r18, M16, e17, h⟩ := tb_b2s h
          refine tb_callV F hP hS hl.1 kX7_ends km_X7_64 (as := [.int (-1000014)]) (tX7_ends g l (-1000014) M5 M16 r18 e17) tb_l297 ⟨rfl, rfl, Nat.le_of_ble_eq_true rfl, Nat.le_of_ble_eq_true rfl⟩ rfl (rest := []) rfl (st1 := [.int r18]) rfl (Nat.le_of_ble_eq_true rfl) ⟨Nat.zero_le _, Nat.zero_le _⟩ dX7_row_32 (fun H locs hP hS => ?_)
          exact tb_iret h F hP hS dX7_row_35
      · have h := tb_ineg c9 h
        refine lv_ldc (v := (-1000001)) hx hb F.1.2.2.2.1 (tb_hts F kc_X7_62) dX7_row_22 ?_
        exact tb_iret h F hP hS dX7_row_24
def fX7_lies (a1 : Int32) (a2 : Int32) (a3 : Int32) (M : tb_Mem) : Option (Int32 × tb_Mem) :=
  if a2 < 0 then (some (0, M)) else (if a3 < 0 then (some (0, M)) else (tb_ck (tb_in a1 8) (if (M 298 a1.toNatClampNeg) < a3 then (some (0, M)) else (some (((if ((M 298 a1.toNatClampNeg) - a3) < a2 then 0 else 1) : Int32), M)))))
abbrev rmX7_lies : Room := { frames := 0, cells := 0, slots := 0, locals := 0 }
set_option maxHeartbeats 4000000 in
set_option maxRecDepth 100000 in
theorem tX7_lies (g : tb_GT) (l : Launch) (a1 : Int32) (a2 : Int32) (a3 : Int32) (M M' : tb_Mem) (r : Int32) (h : fX7_lies a1 a2 a3 M = some (r, M')) : tb_C g l yX7_lies (Cond.code yX7_lies cX7_lies 4 (some .boolean)) rmX7_lies [.ref (tb_ad g 297), .int a1, .int a2, .int a3] M M' (some (.int r)) := by
  refine tb_entry (by decide) (Nat.le_of_ble_eq_true rfl) ?_
  intro P e s m below meth c F hP hS ls hl
  have F : tb_F g cX7_lies 4 RX7 (some .boolean) (Cond.code yX7_lies cX7_lies 4 (some .boolean)) P s m ([.ref (tb_ad g 297), .int a1, .int a2, .int a3] : List Value).toArray meth c := F
  have hx := F.1.1
  have hb := F.1.2.1
  have hl : lv_has ls 4 [(0, .ref (tb_ad g 297)), (1, .int a1), (2, .int a2), (3, .int a3)] := hl
  unfold fX7_lies at h
  refine lv_iload_n hx hb dX7_lies_0 rfl (lv_at hl 2 rfl) ?_
  refine lv_if_lt (tgt := 34) hx hb dX7_lies_1 (by decide) (fun c1 => ?_) (fun c1 => ?_)
  · have h := tb_ip c1 h
    refine lv_iconst (v := 0) hx hb dX7_lies_34 (by decide) ?_
    exact tb_zret h F rfl hP hS dX7_lies_35
  · have h := tb_ineg c1 h
    refine lv_iload_n hx hb dX7_lies_4 rfl (lv_at hl 3 rfl) ?_
    refine lv_if_lt (tgt := 34) hx hb dX7_lies_5 (by decide) (fun c2 => ?_) (fun c2 => ?_)
    · have h := tb_ip c2 h
      refine lv_iconst (v := 0) hx hb dX7_lies_34 (by decide) ?_
      exact tb_zret h F rfl hP hS dX7_lies_35
    · have h := tb_ineg c2 h
      refine lv_iload_n hx hb dX7_lies_8 rfl (lv_at hl 3 rfl) ?_
      refine lv_aload_n hx hb dX7_lies_9 rfl (lv_at hl 0 rfl) ?_
      refine tb_getr F hP tb_l297 (ci := 7) rfl inlX7 0 (by decide) rfl kf_X7_7 dX7_lies_10 ?_
      refine lv_iload_n hx hb dX7_lies_13 rfl (lv_at hl 1 rfl) ?_
      obtain ⟨k3, h⟩ := tb_cks h
      refine tb_iald F hP tb_l298 rfl (tb_inv k3) dX7_lies_14 ?_
      refine lv_icmp_gt (tgt := 34) hx hb dX7_lies_15 (by decide) (fun c4 => ?_) (fun c4 => ?_)
      · have h := tb_ip c4 h
        refine lv_iconst (v := 0) hx hb dX7_lies_34 (by decide) ?_
        exact tb_zret h F rfl hP hS dX7_lies_35
      · have h := tb_ineg c4 h
        refine lv_iload_n hx hb dX7_lies_18 rfl (lv_at hl 2 rfl) ?_
        refine lv_aload_n hx hb dX7_lies_19 rfl (lv_at hl 0 rfl) ?_
        refine tb_getr F hP tb_l297 (ci := 7) rfl inlX7 0 (by decide) rfl kf_X7_7 dX7_lies_20 ?_
        refine lv_iload_n hx hb dX7_lies_23 rfl (lv_at hl 1 rfl) ?_
        refine tb_iald F hP tb_l298 rfl (tb_inv k3) dX7_lies_24 ?_
        refine lv_iload_n hx hb dX7_lies_25 rfl (lv_at hl 3 rfl) ?_
        refine lv_isub hx hb dX7_lies_26 ?_
        refine tb_mrg (g2 := F0 m 35 ls [.int ((if ((M 298 a1.toNatClampNeg) - a3) < a2 then 0 else 1) : Int32)]) (fun hJ => ?_) ?_
        · refine lv_icmp_gt (tgt := 34) hx hb dX7_lies_27 (by decide) (fun c5 => ?_) (fun c5 => ?_)
          · refine lv_iconst (v := 0) hx hb dX7_lies_34 (by decide) ?_
            rw [if_pos c5] at hJ
            exact hJ
          · refine lv_iconst (v := 1) hx hb dX7_lies_30 (by decide) ?_
            refine lv_goto (tgt := 35) hx hb dX7_lies_31 (by decide) ?_
            rw [if_neg c5] at hJ
            exact hJ
        exact tb_zret h F (tb_bln (by (repeat' split) <;> decide)) hP hS dX7_lies_35
def fX7_set (a1 : Int32) (a2 : Int32) (a3 : Int32) (M : tb_Mem) : Option (Int32 × tb_Mem) :=
  tb_b2 (fX7_isRow a1 M) (fun r3 M1 => if r3 = 0 then (some ((-1000001), M1)) else (tb_ck (tb_in a1 8) (if 0 ≤ (M1 298 a1.toNatClampNeg) then (tb_b2 (fX7_lies a1 a2 1 M1) (fun r9 M7 => if r9 = 0 then (tb_b2 (fX7_ends (-1000012) M7) (fun r21 M19 => some (r21, M19))) else (tb_b2 (fX7_cut (M7 299 a1.toNatClampNeg) a3 M7) (fun r13 M11 => tb_ck (tb_in ((40 * a1) + a2) 320) (tb_let (tb_up M11 300 (((40 * a1) + a2).toNatClampNeg) r13) (fun M15 => tb_let (tb_up M15 297 4 0) (fun M17 => some (r13, M17)))))))) else (tb_b2 (fX7_ends (-1000011) M1) (fun r24 M22 => some (r24, M22))))))
abbrev rmX7_set : Room := { frames := 2, cells := 0, slots := 0, locals := 43 }
set_option maxHeartbeats 4000000 in
set_option maxRecDepth 100000 in
theorem tX7_set (g : tb_GT) (l : Launch) (a1 : Int32) (a2 : Int32) (a3 : Int32) (M M' : tb_Mem) (r : Int32) (h : fX7_set a1 a2 a3 M = some (r, M')) : tb_C g l yX7_set (Cond.code yX7_set cX7_set 5 (some .int)) rmX7_set [.ref (tb_ad g 297), .int a1, .int a2, .int a3] M M' (some (.int r)) := by
  refine tb_entry (by decide) (Nat.le_of_ble_eq_true rfl) ?_
  intro P e s m below meth c F hP hS ls hl
  have F : tb_F g cX7_set 5 RX7 (some .int) (Cond.code yX7_set cX7_set 5 (some .int)) P s m ([.ref (tb_ad g 297), .int a1, .int a2, .int a3] : List Value).toArray meth c := F
  have hx := F.1.1
  have hb := F.1.2.1
  have hl : lv_has ls 5 [(0, .ref (tb_ad g 297)), (1, .int a1), (2, .int a2), (3, .int a3)] := hl
  unfold fX7_set at h
  refine lv_iload_n hx hb dX7_set_0 rfl (lv_at hl 1 rfl) ?_
  obtain ⟨r3, M1, e2, h⟩ := tb_b2s h
  refine tb_callS F hP hS hl.1 kX7_isRow km_X7_58 (as := [.int a1]) (tX7_isRow g l a1 M M1 r3 e2) ⟨rfl, rfl, Nat.le_of_ble_eq_true rfl, Nat.le_of_ble_eq_true rfl⟩ rfl (rest := []) rfl (st1 := [.int r3]) rfl (Nat.le_of_ble_eq_true rfl) ⟨Nat.zero_le _, Nat.zero_le _⟩ dX7_set_1 (fun H locs hP hS => ?_)
  refine lv_if_ne (tgt := 10) hx hb dX7_set_4 (by decide) (fun c4 => ?_) (fun c4 => ?_)
  · have h := tb_ineg c4 h
    refine lv_aload_n hx hb dX7_set_10 rfl (lv_at hl 0 rfl) ?_
    refine tb_getr F hP tb_l297 (ci := 7) rfl inlX7 0 (by decide) rfl kf_X7_7 dX7_set_11 ?_
    refine lv_iload_n hx hb dX7_set_14 rfl (lv_at hl 1 rfl) ?_
    obtain ⟨k5, h⟩ := tb_cks h
    refine tb_iald F hP tb_l298 rfl (tb_inv k5) dX7_set_15 ?_
    refine lv_if_ge (tgt := 26) hx hb dX7_set_16 (by decide) (fun c6 => ?_) (fun c6 => ?_)
    · have h := tb_ip c6 h
      refine lv_aload_n hx hb dX7_set_26 rfl (lv_at hl 0 rfl) ?_
      refine lv_iload_n hx hb dX7_set_27 rfl (lv_at hl 1 rfl) ?_
      refine lv_iload_n hx hb dX7_set_28 rfl (lv_at hl 2 rfl) ?_
      refine lv_iconst (v := 1) hx hb dX7_set_29 (by decide) ?_
      obtain ⟨r9, M7, e8, h⟩ := tb_b2s h
      refine tb_callV F hP hS hl.1 kX7_lies km_X7_68 (as := [.int a1, .int a2, .int 1]) (tX7_lies g l a1 a2 1 M1 M7 r9 e8) tb_l297 ⟨rfl, rfl, Nat.le_of_ble_eq_true rfl, Nat.le_of_ble_eq_true rfl⟩ rfl (rest := []) rfl (st1 := [.int r9]) rfl (Nat.le_of_ble_eq_true rfl) ⟨Nat.zero_le _, Nat.zero_le _⟩ dX7_set_30 (fun H locs hP hS => ?_)
      refine lv_if_ne (tgt := 43) hx hb dX7_set_33 (by decide) (fun c10 => ?_) (fun c10 => ?_)
      · have h := tb_ineg c10 h
        refine lv_aload_n hx hb dX7_set_43 rfl (lv_at hl 0 rfl) ?_
        refine tb_getr F hP tb_l297 (ci := 7) rfl inlX7 1 (by decide) rfl kf_X7_13 dX7_set_44 ?_
        refine lv_iload_n hx hb dX7_set_47 rfl (lv_at hl 1 rfl) ?_
        refine tb_iald F hP tb_l299 rfl (tb_inv k5) dX7_set_48 ?_
        refine lv_iload_n hx hb dX7_set_49 rfl (lv_at hl 3 rfl) ?_
        obtain ⟨r13, M11, e12, h⟩ := tb_b2s h
        refine tb_callS F hP hS hl.1 kX7_cut km_X7_72 (as := [.int (M7 299 a1.toNatClampNeg), .int a3]) (tX7_cut g l (M7 299 a1.toNatClampNeg) a3 M7 M11 r13 e12) ⟨rfl, rfl, Nat.le_of_ble_eq_true rfl, Nat.le_of_ble_eq_true rfl⟩ rfl (rest := []) rfl (st1 := [.int r13]) rfl (Nat.le_of_ble_eq_true rfl) ⟨Nat.zero_le _, Nat.zero_le _⟩ dX7_set_50 (fun H locs hP hS => ?_)
        refine lv_istore (lv' := [(4, .int r13), (0, .ref (tb_ad g 297)), (1, .int a1), (2, .int a2), (3, .int a3)]) hx hb dX7_set_53 hl (by decide) rfl (fun ls hl => ?_)
        refine lv_aload_n hx hb dX7_set_55 rfl (lv_at hl 1 rfl) ?_
        refine tb_getr F hP tb_l297 (ci := 7) rfl inlX7 2 (by decide) rfl kf_X7_16 dX7_set_56 ?_
        refine lv_bipush (v := 40) hx hb dX7_set_59 (by decide) ?_
        refine lv_iload_n hx hb dX7_set_61 rfl (lv_at hl 2 rfl) ?_
        refine lv_imul hx hb dX7_set_62 ?_
        refine lv_iload_n hx hb dX7_set_63 rfl (lv_at hl 3 rfl) ?_
        refine lv_iadd hx hb dX7_set_64 ?_
        refine lv_iload hx hb dX7_set_65 (lv_at hl 0 rfl) ?_
        obtain ⟨k14, h⟩ := tb_cks h
        obtain ⟨M15, e16, h⟩ := tb_lets h
        refine tb_iast F hP hS tb_l300 rfl (tb_inv k14) dX7_set_67 (fun H locs hP hS => ?_)
        rw [← e16] at hP
        refine lv_aload_n hx hb dX7_set_68 rfl (lv_at hl 1 rfl) ?_
        refine lv_iconst (v := 0) hx hb dX7_set_69 (by decide) ?_
        obtain ⟨M17, e18, h⟩ := tb_lets h
        refine tb_puti F hP hS tb_l297 (ci := 7) rfl inlX7 tyX7 tyX7_ok nmX7 4 (by decide) rfl rfl rfl rfl kf_X7_54 dX7_set_70 (fun H locs hP hS => ?_)
        rw [← e18] at hP
        refine lv_iload hx hb dX7_set_73 (lv_at hl 0 rfl) ?_
        exact tb_iret h F hP hS dX7_set_75
      · have h := tb_ip c10 h
        refine lv_aload_n hx hb dX7_set_36 rfl (lv_at hl 0 rfl) ?_
        refine lv_ldc (v := (-1000012)) hx hb F.1.2.2.2.1 (tb_hts F kc_X7_71) dX7_set_37 ?_
        obtain ⟨r21, M19, e20, h⟩ := tb_b2s h
        refine tb_callV F hP hS hl.1 kX7_ends km_X7_64 (as := [.int (-1000012)]) (tX7_ends g l (-1000012) M7 M19 r21 e20) tb_l297 ⟨rfl, rfl, Nat.le_of_ble_eq_true rfl, Nat.le_of_ble_eq_true rfl⟩ rfl (rest := []) rfl (st1 := [.int r21]) rfl (Nat.le_of_ble_eq_true rfl) ⟨Nat.zero_le _, Nat.zero_le _⟩ dX7_set_39 (fun H locs hP hS => ?_)
        exact tb_iret h F hP hS dX7_set_42
    · have h := tb_ineg c6 h
      refine lv_aload_n hx hb dX7_set_19 rfl (lv_at hl 0 rfl) ?_
      refine lv_ldc (v := (-1000011)) hx hb F.1.2.2.2.1 (tb_hts F kc_X7_52) dX7_set_20 ?_
      obtain ⟨r24, M22, e23, h⟩ := tb_b2s h
      refine tb_callV F hP hS hl.1 kX7_ends km_X7_64 (as := [.int (-1000011)]) (tX7_ends g l (-1000011) M1 M22 r24 e23) tb_l297 ⟨rfl, rfl, Nat.le_of_ble_eq_true rfl, Nat.le_of_ble_eq_true rfl⟩ rfl (rest := []) rfl (st1 := [.int r24]) rfl (Nat.le_of_ble_eq_true rfl) ⟨Nat.zero_le _, Nat.zero_le _⟩ dX7_set_22 (fun H locs hP hS => ?_)
      exact tb_iret h F hP hS dX7_set_25
  · have h := tb_ip c4 h
    refine lv_ldc (v := (-1000001)) hx hb F.1.2.2.2.1 (tb_hts F kc_X7_62) dX7_set_7 ?_
    exact tb_iret h F hP hS dX7_set_9
def fX7_copy_L134 : Nat → Int32 → Int32 → Int32 → Int32 → tb_Mem → Option (Int32 × tb_Mem)
  | 0, _, _, _, _, _ => none
  | n + 1, x3, x4, x5, x6, M => if x5 ≤ x6 then (tb_b2 (fX7_ends x5 M) (fun r45 M43 => some (r45, M43))) else (tb_ck (tb_in x6 40) (tb_ck (tb_in (((40 * x3) + x4) + x6) 320) (tb_let (tb_up M 300 ((((40 * x3) + x4) + x6).toNatClampNeg) (M 301 x6.toNatClampNeg)) (fun M48 => fX7_copy_L134 n x3 x4 x5 (x6 + 1) M48))))
def fX7_copy_L97 : Nat → Int32 → Int32 → Int32 → Int32 → Int32 → Int32 → tb_Mem → Option (Int32 × tb_Mem)
  | 0, _, _, _, _, _, _, _ => none
  | n + 1, x1, x2, x3, x4, x5, x6, M => if x5 ≤ x6 then (fX7_copy_L134 tb_N x3 x4 x5 0 M) else (tb_ck (tb_in (((40 * x1) + x2) + x6) 320) (tb_ck (tb_in x6 40) (tb_let (tb_up M 301 x6.toNatClampNeg (M 300 (((40 * x1) + x2) + x6).toNatClampNeg)) (fun M40 => fX7_copy_L97 n x1 x2 x3 x4 x5 (x6 + 1) M40))))
def fX7_copy (a1 : Int32) (a2 : Int32) (a3 : Int32) (a4 : Int32) (a5 : Int32) (M : tb_Mem) : Option (Int32 × tb_Mem) :=
  tb_b2 (fX7_isRow a1 M) (fun r3 M1 => if r3 = 0 then (some ((-1000001), M1)) else (tb_b2 (fX7_isRow a3 M1) (fun r7 M5 => if r7 = 0 then (some ((-1000001), M5)) else (tb_ck (tb_in a1 8) (if (M5 298 a1.toNatClampNeg) < 0 then (tb_b2 (fX7_ends (-1000011) M5) (fun r13 M11 => some (r13, M11))) else (tb_ck (tb_in a3 8) (if 0 ≤ (M5 298 a3.toNatClampNeg) then (if (M5 299 a1.toNatClampNeg) = (M5 299 a3.toNatClampNeg) then (tb_b2 (fX7_lies a1 a2 a5 M5) (fun r19 M17 => if r19 = 0 then (tb_b2 (fX7_ends (-1000012) M17) (fun r23 M21 => some (r23, M21))) else (tb_b2 (fX7_lies a3 a4 a5 M17) (fun r26 M24 => if r26 = 0 then (tb_b2 (fX7_ends (-1000012) M24) (fun r30 M28 => some (r30, M28))) else (fX7_copy_L97 tb_N a1 a2 a3 a4 a5 0 M24))))) else (tb_b2 (fX7_ends (-1000015) M5) (fun r33 M31 => some (r33, M31)))) else (tb_b2 (fX7_ends (-1000011) M5) (fun r36 M34 => some (r36, M34))))))))))
abbrev rmX7_copy : Room := { frames := 2, cells := 0, slots := 0, locals := 43 }
set_option maxHeartbeats 4000000 in
set_option maxRecDepth 100000 in
theorem tX7_copy_L134 {g : tb_GT} {l : Launch} {P : Program} {e : Env} {s : State} {m : MethodId} {below : List Frame} {meth : Method} {c : Code} {a1 : Int32} {a2 : Int32} {a3 : Int32} {a4 : Int32} {a5 : Int32} {M' : tb_Mem} {r : Int32} (F : tb_F g cX7_copy 7 RX7 (some .int) (Cond.code yX7_copy cX7_copy 7 (some .int)) P s m ([.ref (tb_ad g 297), .int a1, .int a2, .int a3, .int a4, .int a5] : List Value).toArray meth c) :
    ∀ (n : Nat) (x3 : Int32) (x4 : Int32) (x5 : Int32) (x6 : Int32) (M : tb_Mem) (H : Heap) (locs : List Loc) (ls : Array Slot), tb_P g M H → va_S (tb_A g) s.heap H locs → lv_has ls 7 [(0, .ref (tb_ad g 297)), (3, .int x3), (4, .int x4), (5, .int x5), (6, .int x6)] → fX7_copy_L134 n x3 x4 x5 x6 M = some (r, M') → W P l e rmX7_copy s m ([.ref (tb_ad g 297), .int a1, .int a2, .int a3, .int a4, .int a5] : List Value).toArray below meth c H locs 0 0 (MQ below (tb_Q g M' (some (.int r))) ([.ref (tb_ad g 297), .int a1, .int a2, .int a3, .int a4, .int a5] : List Value).toArray s 0 0 (tb_A g)) (F0 m 134 ls []) := by
  have hx := F.1.1
  have hb := F.1.2.1
  intro n
  induction n with
  | zero =>
    intro x3 x4 x5 x6 M H locs ls hP hS hl h
    rw [fX7_copy_L134] at h
    exact tb_none h
  | succ n ih =>
    intro x3 x4 x5 x6 M H locs ls hP hS hl h
    rw [fX7_copy_L134] at h
    refine lv_iload hx hb dX7_copy_134 (lv_at hl 4 rfl) ?_
    refine lv_iload hx hb dX7_copy_136 (lv_at hl 3 rfl) ?_
    refine lv_icmp_ge (tgt := 169) hx hb dX7_copy_138 (by decide) (fun c42 => ?_) (fun c42 => ?_)
    · have h := tb_ip c42 h
      refine lv_aload_n hx hb dX7_copy_169 rfl (lv_at hl 0 rfl) ?_
      refine lv_iload hx hb dX7_copy_170 (lv_at hl 3 rfl) ?_
      obtain ⟨r45, M43, e44, h⟩ := tb_b2s h
      refine tb_callV F hP hS hl.1 kX7_ends km_X7_64 (as := [.int x5]) (tX7_ends g l x5 M M43 r45 e44) tb_l297 ⟨rfl, rfl, Nat.le_of_ble_eq_true rfl, Nat.le_of_ble_eq_true rfl⟩ rfl (rest := []) rfl (st1 := [.int r45]) rfl (Nat.le_of_ble_eq_true rfl) ⟨Nat.zero_le _, Nat.zero_le _⟩ dX7_copy_172 (fun H locs hP hS => ?_)
      exact tb_iret h F hP hS dX7_copy_175
    · have h := tb_ineg c42 h
      refine lv_aload_n hx hb dX7_copy_141 rfl (lv_at hl 0 rfl) ?_
      refine tb_getr F hP tb_l297 (ci := 7) rfl inlX7 2 (by decide) rfl kf_X7_16 dX7_copy_142 ?_
      refine lv_bipush (v := 40) hx hb dX7_copy_145 (by decide) ?_
      refine lv_iload_n hx hb dX7_copy_147 rfl (lv_at hl 1 rfl) ?_
      refine lv_imul hx hb dX7_copy_148 ?_
      refine lv_iload hx hb dX7_copy_149 (lv_at hl 2 rfl) ?_
      refine lv_iadd hx hb dX7_copy_151 ?_
      refine lv_iload hx hb dX7_copy_152 (lv_at hl 4 rfl) ?_
      refine lv_iadd hx hb dX7_copy_154 ?_
      refine lv_aload_n hx hb dX7_copy_155 rfl (lv_at hl 0 rfl) ?_
      refine tb_getr F hP tb_l297 (ci := 7) rfl inlX7 3 (by decide) rfl kf_X7_19 dX7_copy_156 ?_
      refine lv_iload hx hb dX7_copy_159 (lv_at hl 4 rfl) ?_
      obtain ⟨k46, h⟩ := tb_cks h
      refine tb_iald F hP tb_l301 rfl (tb_inv k46) dX7_copy_161 ?_
      obtain ⟨k47, h⟩ := tb_cks h
      obtain ⟨M48, e49, h⟩ := tb_lets h
      refine tb_iast F hP hS tb_l300 rfl (tb_inv k47) dX7_copy_162 (fun H locs hP hS => ?_)
      rw [← e49] at hP
      refine lv_iinc (v := (x6 + 1)) (lv' := [(6, .int (x6 + 1)), (0, .ref (tb_ad g 297)), (3, .int x3), (4, .int x4), (5, .int x5)]) hx hb dX7_copy_163 hl (k := 4) rfl rfl (by decide) rfl (fun ls hl => ?_)
      refine lv_goto (tgt := 134) hx hb dX7_copy_166 (by decide) ?_
      exact ih x3 x4 x5 (x6 + 1) M48 _ _ _ hP hS (lv_sub hl [1, 2, 3, 4, 0] rfl) h
set_option maxHeartbeats 4000000 in
set_option maxRecDepth 100000 in
theorem tX7_copy_L97 {g : tb_GT} {l : Launch} {P : Program} {e : Env} {s : State} {m : MethodId} {below : List Frame} {meth : Method} {c : Code} {a1 : Int32} {a2 : Int32} {a3 : Int32} {a4 : Int32} {a5 : Int32} {M' : tb_Mem} {r : Int32} (F : tb_F g cX7_copy 7 RX7 (some .int) (Cond.code yX7_copy cX7_copy 7 (some .int)) P s m ([.ref (tb_ad g 297), .int a1, .int a2, .int a3, .int a4, .int a5] : List Value).toArray meth c) :
    ∀ (n : Nat) (x1 : Int32) (x2 : Int32) (x3 : Int32) (x4 : Int32) (x5 : Int32) (x6 : Int32) (M : tb_Mem) (H : Heap) (locs : List Loc) (ls : Array Slot), tb_P g M H → va_S (tb_A g) s.heap H locs → lv_has ls 7 [(0, .ref (tb_ad g 297)), (1, .int x1), (2, .int x2), (3, .int x3), (4, .int x4), (5, .int x5), (6, .int x6)] → fX7_copy_L97 n x1 x2 x3 x4 x5 x6 M = some (r, M') → W P l e rmX7_copy s m ([.ref (tb_ad g 297), .int a1, .int a2, .int a3, .int a4, .int a5] : List Value).toArray below meth c H locs 0 0 (MQ below (tb_Q g M' (some (.int r))) ([.ref (tb_ad g 297), .int a1, .int a2, .int a3, .int a4, .int a5] : List Value).toArray s 0 0 (tb_A g)) (F0 m 97 ls []) := by
  have hx := F.1.1
  have hb := F.1.2.1
  intro n
  induction n with
  | zero =>
    intro x1 x2 x3 x4 x5 x6 M H locs ls hP hS hl h
    rw [fX7_copy_L97] at h
    exact tb_none h
  | succ n ih =>
    intro x1 x2 x3 x4 x5 x6 M H locs ls hP hS hl h
    rw [fX7_copy_L97] at h
    refine lv_iload hx hb dX7_copy_97 (lv_at hl 6 rfl) ?_
    refine lv_iload hx hb dX7_copy_99 (lv_at hl 5 rfl) ?_
    refine lv_icmp_ge (tgt := 131) hx hb dX7_copy_101 (by decide) (fun c37 => ?_) (fun c37 => ?_)
    · have h := tb_ip c37 h
      refine lv_iconst (v := 0) hx hb dX7_copy_131 (by decide) ?_
      refine lv_istore (lv' := [(6, .int 0), (0, .ref (tb_ad g 297)), (1, .int x1), (2, .int x2), (3, .int x3), (4, .int x4), (5, .int x5)]) hx hb dX7_copy_132 hl (by decide) rfl (fun ls hl => ?_)
      exact tX7_copy_L134 F tb_N x3 x4 x5 0 M _ _ _ hP hS (lv_sub hl [1, 4, 5, 6, 0] rfl) h
    · have h := tb_ineg c37 h
      refine lv_aload_n hx hb dX7_copy_104 rfl (lv_at hl 0 rfl) ?_
      refine tb_getr F hP tb_l297 (ci := 7) rfl inlX7 3 (by decide) rfl kf_X7_19 dX7_copy_105 ?_
      refine lv_iload hx hb dX7_copy_108 (lv_at hl 6 rfl) ?_
      refine lv_aload_n hx hb dX7_copy_110 rfl (lv_at hl 0 rfl) ?_
      refine tb_getr F hP tb_l297 (ci := 7) rfl inlX7 2 (by decide) rfl kf_X7_16 dX7_copy_111 ?_
      refine lv_bipush (v := 40) hx hb dX7_copy_114 (by decide) ?_
      refine lv_iload_n hx hb dX7_copy_116 rfl (lv_at hl 1 rfl) ?_
      refine lv_imul hx hb dX7_copy_117 ?_
      refine lv_iload_n hx hb dX7_copy_118 rfl (lv_at hl 2 rfl) ?_
      refine lv_iadd hx hb dX7_copy_119 ?_
      refine lv_iload hx hb dX7_copy_120 (lv_at hl 6 rfl) ?_
      refine lv_iadd hx hb dX7_copy_122 ?_
      obtain ⟨k38, h⟩ := tb_cks h
      refine tb_iald F hP tb_l300 rfl (tb_inv k38) dX7_copy_123 ?_
      obtain ⟨k39, h⟩ := tb_cks h
      obtain ⟨M40, e41, h⟩ := tb_lets h
      refine tb_iast F hP hS tb_l301 rfl (tb_inv k39) dX7_copy_124 (fun H locs hP hS => ?_)
      rw [← e41] at hP
      refine lv_iinc (v := (x6 + 1)) (lv' := [(6, .int (x6 + 1)), (0, .ref (tb_ad g 297)), (1, .int x1), (2, .int x2), (3, .int x3), (4, .int x4), (5, .int x5)]) hx hb dX7_copy_125 hl (k := 6) rfl rfl (by decide) rfl (fun ls hl => ?_)
      refine lv_goto (tgt := 97) hx hb dX7_copy_128 (by decide) ?_
      exact ih x1 x2 x3 x4 x5 (x6 + 1) M40 _ _ _ hP hS (lv_sub hl [1, 2, 3, 4, 5, 6, 0] rfl) h
set_option maxHeartbeats 4000000 in
set_option maxRecDepth 100000 in
theorem tX7_copy (g : tb_GT) (l : Launch) (a1 : Int32) (a2 : Int32) (a3 : Int32) (a4 : Int32) (a5 : Int32) (M M' : tb_Mem) (r : Int32) (h : fX7_copy a1 a2 a3 a4 a5 M = some (r, M')) : tb_C g l yX7_copy (Cond.code yX7_copy cX7_copy 7 (some .int)) rmX7_copy [.ref (tb_ad g 297), .int a1, .int a2, .int a3, .int a4, .int a5] M M' (some (.int r)) := by
  refine tb_entry (by decide) (Nat.le_of_ble_eq_true rfl) ?_
  intro P e s m below meth c F hP hS ls hl
  have F : tb_F g cX7_copy 7 RX7 (some .int) (Cond.code yX7_copy cX7_copy 7 (some .int)) P s m ([.ref (tb_ad g 297), .int a1, .int a2, .int a3, .int a4, .int a5] : List Value).toArray meth c := F
  have hx := F.1.1
  have hb := F.1.2.1
  have hl : lv_has ls 7 [(0, .ref (tb_ad g 297)), (1, .int a1), (2, .int a2), (3, .int a3), (4, .int a4), (5, .int a5)] := hl
  unfold fX7_copy at h
  refine lv_iload_n hx hb dX7_copy_0 rfl (lv_at hl 1 rfl) ?_
  obtain ⟨r3, M1, e2, h⟩ := tb_b2s h
  refine tb_callS F hP hS hl.1 kX7_isRow km_X7_58 (as := [.int a1]) (tX7_isRow g l a1 M M1 r3 e2) ⟨rfl, rfl, Nat.le_of_ble_eq_true rfl, Nat.le_of_ble_eq_true rfl⟩ rfl (rest := []) rfl (st1 := [.int r3]) rfl (Nat.le_of_ble_eq_true rfl) ⟨Nat.zero_le _, Nat.zero_le _⟩ dX7_copy_1 (fun H locs hP hS => ?_)
  refine lv_if_eq (tgt := 14) hx hb dX7_copy_4 (by decide) (fun c4 => ?_) (fun c4 => ?_)
  · have h := tb_ip c4 h
    refine lv_ldc (v := (-1000001)) hx hb F.1.2.2.2.1 (tb_hts F kc_X7_62) dX7_copy_14 ?_
    exact tb_iret h F hP hS dX7_copy_16
  · have h := tb_ineg c4 h
    refine lv_iload_n hx hb dX7_copy_7 rfl (lv_at hl 3 rfl) ?_
    obtain ⟨r7, M5, e6, h⟩ := tb_b2s h
    refine tb_callS F hP hS hl.1 kX7_isRow km_X7_58 (as := [.int a3]) (tX7_isRow g l a3 M1 M5 r7 e6) ⟨rfl, rfl, Nat.le_of_ble_eq_true rfl, Nat.le_of_ble_eq_true rfl⟩ rfl (rest := []) rfl (st1 := [.int r7]) rfl (Nat.le_of_ble_eq_true rfl) ⟨Nat.zero_le _, Nat.zero_le _⟩ dX7_copy_8 (fun H locs hP hS => ?_)
    refine lv_if_ne (tgt := 17) hx hb dX7_copy_11 (by decide) (fun c8 => ?_) (fun c8 => ?_)
    · have h := tb_ineg c8 h
      refine lv_aload_n hx hb dX7_copy_17 rfl (lv_at hl 0 rfl) ?_
      refine tb_getr F hP tb_l297 (ci := 7) rfl inlX7 0 (by decide) rfl kf_X7_7 dX7_copy_18 ?_
      refine lv_iload_n hx hb dX7_copy_21 rfl (lv_at hl 1 rfl) ?_
      obtain ⟨k9, h⟩ := tb_cks h
      refine tb_iald F hP tb_l298 rfl (tb_inv k9) dX7_copy_22 ?_
      refine lv_if_lt (tgt := 35) hx hb dX7_copy_23 (by decide) (fun c10 => ?_) (fun c10 => ?_)
      · have h := tb_ip c10 h
        refine lv_aload_n hx hb dX7_copy_35 rfl (lv_at hl 0 rfl) ?_
        refine lv_ldc (v := (-1000011)) hx hb F.1.2.2.2.1 (tb_hts F kc_X7_52) dX7_copy_36 ?_
        obtain ⟨r13, M11, e12, h⟩ := tb_b2s h
        refine tb_callV F hP hS hl.1 kX7_ends km_X7_64 (as := [.int (-1000011)]) (tX7_ends g l (-1000011) M5 M11 r13 e12) tb_l297 ⟨rfl, rfl, Nat.le_of_ble_eq_true rfl, Nat.le_of_ble_eq_true rfl⟩ rfl (rest := []) rfl (st1 := [.int r13]) rfl (Nat.le_of_ble_eq_true rfl) ⟨Nat.zero_le _, Nat.zero_le _⟩ dX7_copy_38 (fun H locs hP hS => ?_)
        exact tb_iret h F hP hS dX7_copy_41
      · have h := tb_ineg c10 h
        refine lv_aload_n hx hb dX7_copy_26 rfl (lv_at hl 0 rfl) ?_
        refine tb_getr F hP tb_l297 (ci := 7) rfl inlX7 0 (by decide) rfl kf_X7_7 dX7_copy_27 ?_
        refine lv_iload_n hx hb dX7_copy_30 rfl (lv_at hl 3 rfl) ?_
        obtain ⟨k14, h⟩ := tb_cks h
        refine tb_iald F hP tb_l298 rfl (tb_inv k14) dX7_copy_31 ?_
        refine lv_if_ge (tgt := 42) hx hb dX7_copy_32 (by decide) (fun c15 => ?_) (fun c15 => ?_)
        · have h := tb_ip c15 h
          refine lv_aload_n hx hb dX7_copy_42 rfl (lv_at hl 0 rfl) ?_
          refine tb_getr F hP tb_l297 (ci := 7) rfl inlX7 1 (by decide) rfl kf_X7_13 dX7_copy_43 ?_
          refine lv_iload_n hx hb dX7_copy_46 rfl (lv_at hl 1 rfl) ?_
          refine tb_iald F hP tb_l299 rfl (tb_inv k9) dX7_copy_47 ?_
          refine lv_aload_n hx hb dX7_copy_48 rfl (lv_at hl 0 rfl) ?_
          refine tb_getr F hP tb_l297 (ci := 7) rfl inlX7 1 (by decide) rfl kf_X7_13 dX7_copy_49 ?_
          refine lv_iload_n hx hb dX7_copy_52 rfl (lv_at hl 3 rfl) ?_
          refine tb_iald F hP tb_l299 rfl (tb_inv k14) dX7_copy_53 ?_
          refine lv_icmp_eq (tgt := 64) hx hb dX7_copy_54 (by decide) (fun c16 => ?_) (fun c16 => ?_)
          · have h := tb_ip c16 h
            refine lv_aload_n hx hb dX7_copy_64 rfl (lv_at hl 0 rfl) ?_
            refine lv_iload_n hx hb dX7_copy_65 rfl (lv_at hl 1 rfl) ?_
            refine lv_iload_n hx hb dX7_copy_66 rfl (lv_at hl 2 rfl) ?_
            refine lv_iload hx hb dX7_copy_67 (lv_at hl 5 rfl) ?_
            obtain ⟨r19, M17, e18, h⟩ := tb_b2s h
            refine tb_callV F hP hS hl.1 kX7_lies km_X7_68 (as := [.int a1, .int a2, .int a5]) (tX7_lies g l a1 a2 a5 M5 M17 r19 e18) tb_l297 ⟨rfl, rfl, Nat.le_of_ble_eq_true rfl, Nat.le_of_ble_eq_true rfl⟩ rfl (rest := []) rfl (st1 := [.int r19]) rfl (Nat.le_of_ble_eq_true rfl) ⟨Nat.zero_le _, Nat.zero_le _⟩ dX7_copy_69 (fun H locs hP hS => ?_)
            refine lv_if_eq (tgt := 87) hx hb dX7_copy_72 (by decide) (fun c20 => ?_) (fun c20 => ?_)
            · have h := tb_ip c20 h
              refine lv_aload_n hx hb dX7_copy_87 rfl (lv_at hl 0 rfl) ?_
              refine lv_ldc (v := (-1000012)) hx hb F.1.2.2.2.1 (tb_hts F kc_X7_71) dX7_copy_88 ?_
              obtain ⟨r23, M21, e22, h⟩ := tb_b2s h
              refine tb_callV F hP hS hl.1 kX7_ends km_X7_64 (as := [.int (-1000012)]) (tX7_ends g l (-1000012) M17 M21 r23 e22) tb_l297 ⟨rfl, rfl, Nat.le_of_ble_eq_true rfl, Nat.le_of_ble_eq_true rfl⟩ rfl (rest := []) rfl (st1 := [.int r23]) rfl (Nat.le_of_ble_eq_true rfl) ⟨Nat.zero_le _, Nat.zero_le _⟩ dX7_copy_90 (fun H locs hP hS => ?_)
              exact tb_iret h F hP hS dX7_copy_93
            · have h := tb_ineg c20 h
              refine lv_aload_n hx hb dX7_copy_75 rfl (lv_at hl 0 rfl) ?_
              refine lv_iload_n hx hb dX7_copy_76 rfl (lv_at hl 3 rfl) ?_
              refine lv_iload hx hb dX7_copy_77 (lv_at hl 4 rfl) ?_
              refine lv_iload hx hb dX7_copy_79 (lv_at hl 5 rfl) ?_
              obtain ⟨r26, M24, e25, h⟩ := tb_b2s h
              refine tb_callV F hP hS hl.1 kX7_lies km_X7_68 (as := [.int a3, .int a4, .int a5]) (tX7_lies g l a3 a4 a5 M17 M24 r26 e25) tb_l297 ⟨rfl, rfl, Nat.le_of_ble_eq_true rfl, Nat.le_of_ble_eq_true rfl⟩ rfl (rest := []) rfl (st1 := [.int r26]) rfl (Nat.le_of_ble_eq_true rfl) ⟨Nat.zero_le _, Nat.zero_le _⟩ dX7_copy_81 (fun H locs hP hS => ?_)
              refine lv_if_ne (tgt := 94) hx hb dX7_copy_84 (by decide) (fun c27 => ?_) (fun c27 => ?_)
              · have h := tb_ineg c27 h
                refine lv_iconst (v := 0) hx hb dX7_copy_94 (by decide) ?_
                refine lv_istore (lv' := [(6, .int 0), (0, .ref (tb_ad g 297)), (1, .int a1), (2, .int a2), (3, .int a3), (4, .int a4), (5, .int a5)]) hx hb dX7_copy_95 hl (by decide) rfl (fun ls hl => ?_)
                exact tX7_copy_L97 F tb_N a1 a2 a3 a4 a5 0 M24 _ _ _ hP hS (lv_sub hl [1, 2, 3, 4, 5, 6, 0] rfl) h
              · have h := tb_ip c27 h
                refine lv_aload_n hx hb dX7_copy_87 rfl (lv_at hl 0 rfl) ?_
                refine lv_ldc (v := (-1000012)) hx hb F.1.2.2.2.1 (tb_hts F kc_X7_71) dX7_copy_88 ?_
                obtain ⟨r30, M28, e29, h⟩ := tb_b2s h
                refine tb_callV F hP hS hl.1 kX7_ends km_X7_64 (as := [.int (-1000012)]) (tX7_ends g l (-1000012) M24 M28 r30 e29) tb_l297 ⟨rfl, rfl, Nat.le_of_ble_eq_true rfl, Nat.le_of_ble_eq_true rfl⟩ rfl (rest := []) rfl (st1 := [.int r30]) rfl (Nat.le_of_ble_eq_true rfl) ⟨Nat.zero_le _, Nat.zero_le _⟩ dX7_copy_90 (fun H locs hP hS => ?_)
                exact tb_iret h F hP hS dX7_copy_93
          · have h := tb_ineg c16 h
            refine lv_aload_n hx hb dX7_copy_57 rfl (lv_at hl 0 rfl) ?_
            refine lv_ldc (v := (-1000015)) hx hb F.1.2.2.2.1 (tb_hts F kc_X7_51) dX7_copy_58 ?_
            obtain ⟨r33, M31, e32, h⟩ := tb_b2s h
            refine tb_callV F hP hS hl.1 kX7_ends km_X7_64 (as := [.int (-1000015)]) (tX7_ends g l (-1000015) M5 M31 r33 e32) tb_l297 ⟨rfl, rfl, Nat.le_of_ble_eq_true rfl, Nat.le_of_ble_eq_true rfl⟩ rfl (rest := []) rfl (st1 := [.int r33]) rfl (Nat.le_of_ble_eq_true rfl) ⟨Nat.zero_le _, Nat.zero_le _⟩ dX7_copy_60 (fun H locs hP hS => ?_)
            exact tb_iret h F hP hS dX7_copy_63
        · have h := tb_ineg c15 h
          refine lv_aload_n hx hb dX7_copy_35 rfl (lv_at hl 0 rfl) ?_
          refine lv_ldc (v := (-1000011)) hx hb F.1.2.2.2.1 (tb_hts F kc_X7_52) dX7_copy_36 ?_
          obtain ⟨r36, M34, e35, h⟩ := tb_b2s h
          refine tb_callV F hP hS hl.1 kX7_ends km_X7_64 (as := [.int (-1000011)]) (tX7_ends g l (-1000011) M5 M34 r36 e35) tb_l297 ⟨rfl, rfl, Nat.le_of_ble_eq_true rfl, Nat.le_of_ble_eq_true rfl⟩ rfl (rest := []) rfl (st1 := [.int r36]) rfl (Nat.le_of_ble_eq_true rfl) ⟨Nat.zero_le _, Nat.zero_le _⟩ dX7_copy_38 (fun H locs hP hS => ?_)
          exact tb_iret h F hP hS dX7_copy_41
    · have h := tb_ip c8 h
      refine lv_ldc (v := (-1000001)) hx hb F.1.2.2.2.1 (tb_hts F kc_X7_62) dX7_copy_14 ?_
      exact tb_iret h F hP hS dX7_copy_16
def fX7_drop (a1 : Int32) (M : tb_Mem) : Option (Int32 × tb_Mem) :=
  tb_b2 (fX7_isRow a1 M) (fun r3 M1 => if r3 = 0 then (some ((-1000001), M1)) else (tb_ck (tb_in a1 8) (if 0 ≤ (M1 298 a1.toNatClampNeg) then (tb_let ((M1 298 a1.toNatClampNeg) : Int32) (fun v7 => tb_let (tb_up M1 298 a1.toNatClampNeg (-1)) (fun M9 => tb_b2 (fX7_ends v7 M9) (fun r13 M11 => some (r13, M11))))) else (tb_b2 (fX7_ends (-1000011) M1) (fun r16 M14 => some (r16, M14))))))
abbrev rmX7_drop : Room := { frames := 2, cells := 0, slots := 0, locals := 43 }
set_option maxHeartbeats 4000000 in
set_option maxRecDepth 100000 in
theorem tX7_drop (g : tb_GT) (l : Launch) (a1 : Int32) (M M' : tb_Mem) (r : Int32) (h : fX7_drop a1 M = some (r, M')) : tb_C g l yX7_drop (Cond.code yX7_drop cX7_drop 3 (some .int)) rmX7_drop [.ref (tb_ad g 297), .int a1] M M' (some (.int r)) := by
  refine tb_entry (by decide) (Nat.le_of_ble_eq_true rfl) ?_
  intro P e s m below meth c F hP hS ls hl
  have F : tb_F g cX7_drop 3 RX7 (some .int) (Cond.code yX7_drop cX7_drop 3 (some .int)) P s m ([.ref (tb_ad g 297), .int a1] : List Value).toArray meth c := F
  have hx := F.1.1
  have hb := F.1.2.1
  have hl : lv_has ls 3 [(0, .ref (tb_ad g 297)), (1, .int a1)] := hl
  unfold fX7_drop at h
  refine lv_iload_n hx hb dX7_drop_0 rfl (lv_at hl 1 rfl) ?_
  obtain ⟨r3, M1, e2, h⟩ := tb_b2s h
  refine tb_callS F hP hS hl.1 kX7_isRow km_X7_58 (as := [.int a1]) (tX7_isRow g l a1 M M1 r3 e2) ⟨rfl, rfl, Nat.le_of_ble_eq_true rfl, Nat.le_of_ble_eq_true rfl⟩ rfl (rest := []) rfl (st1 := [.int r3]) rfl (Nat.le_of_ble_eq_true rfl) ⟨Nat.zero_le _, Nat.zero_le _⟩ dX7_drop_1 (fun H locs hP hS => ?_)
  refine lv_if_ne (tgt := 10) hx hb dX7_drop_4 (by decide) (fun c4 => ?_) (fun c4 => ?_)
  · have h := tb_ineg c4 h
    refine lv_aload_n hx hb dX7_drop_10 rfl (lv_at hl 0 rfl) ?_
    refine tb_getr F hP tb_l297 (ci := 7) rfl inlX7 0 (by decide) rfl kf_X7_7 dX7_drop_11 ?_
    refine lv_iload_n hx hb dX7_drop_14 rfl (lv_at hl 1 rfl) ?_
    obtain ⟨k5, h⟩ := tb_cks h
    refine tb_iald F hP tb_l298 rfl (tb_inv k5) dX7_drop_15 ?_
    refine lv_if_ge (tgt := 26) hx hb dX7_drop_16 (by decide) (fun c6 => ?_) (fun c6 => ?_)
    · have h := tb_ip c6 h
      refine lv_aload_n hx hb dX7_drop_26 rfl (lv_at hl 0 rfl) ?_
      refine tb_getr F hP tb_l297 (ci := 7) rfl inlX7 0 (by decide) rfl kf_X7_7 dX7_drop_27 ?_
      refine lv_iload_n hx hb dX7_drop_30 rfl (lv_at hl 1 rfl) ?_
      refine tb_iald F hP tb_l298 rfl (tb_inv k5) dX7_drop_31 ?_
      obtain ⟨v7, e8, h⟩ := tb_lets h
      refine tb_nmi e8 ?_
      refine lv_istore_n (lv' := [(2, .int v7), (0, .ref (tb_ad g 297)), (1, .int a1)]) hx hb dX7_drop_32 rfl hl (by decide) rfl (fun ls hl => ?_)
      refine lv_aload_n hx hb dX7_drop_33 rfl (lv_at hl 1 rfl) ?_
      refine tb_getr F hP tb_l297 (ci := 7) rfl inlX7 0 (by decide) rfl kf_X7_7 dX7_drop_34 ?_
      refine lv_iload_n hx hb dX7_drop_37 rfl (lv_at hl 2 rfl) ?_
      refine lv_iconst (v := (-1)) hx hb dX7_drop_38 (by decide) ?_
      obtain ⟨M9, e10, h⟩ := tb_lets h
      refine tb_iast F hP hS tb_l298 rfl (tb_inv k5) dX7_drop_39 (fun H locs hP hS => ?_)
      rw [← e10] at hP
      refine lv_aload_n hx hb dX7_drop_40 rfl (lv_at hl 1 rfl) ?_
      refine lv_iload_n hx hb dX7_drop_41 rfl (lv_at hl 0 rfl) ?_
      obtain ⟨r13, M11, e12, h⟩ := tb_b2s h
      refine tb_callV F hP hS hl.1 kX7_ends km_X7_64 (as := [.int v7]) (tX7_ends g l v7 M9 M11 r13 e12) tb_l297 ⟨rfl, rfl, Nat.le_of_ble_eq_true rfl, Nat.le_of_ble_eq_true rfl⟩ rfl (rest := []) rfl (st1 := [.int r13]) rfl (Nat.le_of_ble_eq_true rfl) ⟨Nat.zero_le _, Nat.zero_le _⟩ dX7_drop_42 (fun H locs hP hS => ?_)
      exact tb_iret h F hP hS dX7_drop_45
    · have h := tb_ineg c6 h
      refine lv_aload_n hx hb dX7_drop_19 rfl (lv_at hl 0 rfl) ?_
      refine lv_ldc (v := (-1000011)) hx hb F.1.2.2.2.1 (tb_hts F kc_X7_52) dX7_drop_20 ?_
      obtain ⟨r16, M14, e15, h⟩ := tb_b2s h
      refine tb_callV F hP hS hl.1 kX7_ends km_X7_64 (as := [.int (-1000011)]) (tX7_ends g l (-1000011) M1 M14 r16 e15) tb_l297 ⟨rfl, rfl, Nat.le_of_ble_eq_true rfl, Nat.le_of_ble_eq_true rfl⟩ rfl (rest := []) rfl (st1 := [.int r16]) rfl (Nat.le_of_ble_eq_true rfl) ⟨Nat.zero_le _, Nat.zero_le _⟩ dX7_drop_22 (fun H locs hP hS => ?_)
      exact tb_iret h F hP hS dX7_drop_25
  · have h := tb_ip c4 h
    refine lv_ldc (v := (-1000001)) hx hb F.1.2.2.2.1 (tb_hts F kc_X7_62) dX7_drop_7 ?_
    exact tb_iret h F hP hS dX7_drop_9
def fX7_feed (a1 : Int32) (M : tb_Mem) : Option (Int32 × tb_Mem) :=
  tb_b2 (fX7_in a1 0 255 M) (fun r3 M1 => if r3 = 0 then (some ((-1000001), M1)) else (if (M1 297 6) = 60 then (some ((-1000003), M1)) else (tb_ck (tb_in (M1 297 6) 60) (tb_let (tb_up M1 302 ((M1 297 6).toNatClampNeg) a1) (fun M7 => tb_let (tb_up M7 297 6 ((M7 297 6) + 1)) (fun M9 => some ((M9 297 6), M9)))))))
abbrev rmX7_feed : Room := { frames := 1, cells := 0, slots := 0, locals := 22 }
set_option maxHeartbeats 4000000 in
set_option maxRecDepth 100000 in
theorem tX7_feed (g : tb_GT) (l : Launch) (a1 : Int32) (M M' : tb_Mem) (r : Int32) (h : fX7_feed a1 M = some (r, M')) : tb_C g l yX7_feed (Cond.code yX7_feed cX7_feed 2 (some .int)) rmX7_feed [.ref (tb_ad g 297), .int a1] M M' (some (.int r)) := by
  refine tb_entry (by decide) (Nat.le_of_ble_eq_true rfl) ?_
  intro P e s m below meth c F hP hS ls hl
  have F : tb_F g cX7_feed 2 RX7 (some .int) (Cond.code yX7_feed cX7_feed 2 (some .int)) P s m ([.ref (tb_ad g 297), .int a1] : List Value).toArray meth c := F
  have hx := F.1.1
  have hb := F.1.2.1
  have hl : lv_has ls 2 [(0, .ref (tb_ad g 297)), (1, .int a1)] := hl
  unfold fX7_feed at h
  refine lv_iload_n hx hb dX7_feed_0 rfl (lv_at hl 1 rfl) ?_
  refine lv_iconst (v := 0) hx hb dX7_feed_1 (by decide) ?_
  refine lv_sipush (v := 255) hx hb dX7_feed_2 (by decide) ?_
  obtain ⟨r3, M1, e2, h⟩ := tb_b2s h
  refine tb_callS F hP hS hl.1 kX7_in km_X7_47 (as := [.int a1, .int 0, .int 255]) (tX7_in g l a1 0 255 M M1 r3 e2) ⟨rfl, rfl, Nat.le_of_ble_eq_true rfl, Nat.le_of_ble_eq_true rfl⟩ rfl (rest := []) rfl (st1 := [.int r3]) rfl (Nat.le_of_ble_eq_true rfl) ⟨Nat.zero_le _, Nat.zero_le _⟩ dX7_feed_5 (fun H locs hP hS => ?_)
  refine lv_if_ne (tgt := 14) hx hb dX7_feed_8 (by decide) (fun c4 => ?_) (fun c4 => ?_)
  · have h := tb_ineg c4 h
    refine lv_aload_n hx hb dX7_feed_14 rfl (lv_at hl 0 rfl) ?_
    refine tb_geti F hP tb_l297 (ci := 7) rfl inlX7 6 (by decide) rfl kf_X7_76 dX7_feed_15 ?_
    refine lv_bipush (v := 60) hx hb dX7_feed_18 (by decide) ?_
    refine lv_icmp_ne (tgt := 26) hx hb dX7_feed_20 (by decide) (fun c5 => ?_) (fun c5 => ?_)
    · have h := tb_ineg c5 h
      refine lv_aload_n hx hb dX7_feed_26 rfl (lv_at hl 0 rfl) ?_
      refine tb_getr F hP tb_l297 (ci := 7) rfl inlX7 5 (by decide) rfl kf_X7_22 dX7_feed_27 ?_
      refine lv_aload_n hx hb dX7_feed_30 rfl (lv_at hl 0 rfl) ?_
      refine tb_geti F hP tb_l297 (ci := 7) rfl inlX7 6 (by decide) rfl kf_X7_76 dX7_feed_31 ?_
      refine lv_iload_n hx hb dX7_feed_34 rfl (lv_at hl 1 rfl) ?_
      obtain ⟨k6, h⟩ := tb_cks h
      obtain ⟨M7, e8, h⟩ := tb_lets h
      refine tb_iast F hP hS tb_l302 rfl (tb_inv k6) dX7_feed_35 (fun H locs hP hS => ?_)
      rw [← e8] at hP
      refine lv_aload_n hx hb dX7_feed_36 rfl (lv_at hl 0 rfl) ?_
      refine lv_dup hx hb dX7_feed_37 rfl ?_
      refine tb_geti F hP tb_l297 (ci := 7) rfl inlX7 6 (by decide) rfl kf_X7_76 dX7_feed_38 ?_
      refine lv_iconst (v := 1) hx hb dX7_feed_41 (by decide) ?_
      refine lv_iadd hx hb dX7_feed_42 ?_
      obtain ⟨M9, e10, h⟩ := tb_lets h
      refine tb_puti F hP hS tb_l297 (ci := 7) rfl inlX7 tyX7 tyX7_ok nmX7 6 (by decide) rfl rfl rfl rfl kf_X7_76 dX7_feed_43 (fun H locs hP hS => ?_)
      rw [← e10] at hP
      refine lv_aload_n hx hb dX7_feed_46 rfl (lv_at hl 0 rfl) ?_
      refine tb_geti F hP tb_l297 (ci := 7) rfl inlX7 6 (by decide) rfl kf_X7_76 dX7_feed_47 ?_
      exact tb_iret h F hP hS dX7_feed_50
    · have h := tb_ip c5 h
      refine lv_ldc (v := (-1000003)) hx hb F.1.2.2.2.1 (tb_hts F kc_X7_79) dX7_feed_23 ?_
      exact tb_iret h F hP hS dX7_feed_25
  · have h := tb_ip c4 h
    refine lv_ldc (v := (-1000001)) hx hb F.1.2.2.2.1 (tb_hts F kc_X7_62) dX7_feed_11 ?_
    exact tb_iret h F hP hS dX7_feed_13
def fX7_letterAt (a1 : Int32) (M : tb_Mem) : Option (Int32 × tb_Mem) :=
  if (M 297 6) ≤ a1 then (some ((-1), M)) else (tb_ck (tb_in a1 60) (some ((M 302 a1.toNatClampNeg), M)))
abbrev rmX7_letterAt : Room := { frames := 0, cells := 0, slots := 0, locals := 0 }
set_option maxHeartbeats 4000000 in
set_option maxRecDepth 100000 in
theorem tX7_letterAt (g : tb_GT) (l : Launch) (a1 : Int32) (M M' : tb_Mem) (r : Int32) (h : fX7_letterAt a1 M = some (r, M')) : tb_C g l yX7_letterAt (Cond.code yX7_letterAt cX7_letterAt 2 (some .int)) rmX7_letterAt [.ref (tb_ad g 297), .int a1] M M' (some (.int r)) := by
  refine tb_entry (by decide) (Nat.le_of_ble_eq_true rfl) ?_
  intro P e s m below meth c F hP hS ls hl
  have F : tb_F g cX7_letterAt 2 RX7 (some .int) (Cond.code yX7_letterAt cX7_letterAt 2 (some .int)) P s m ([.ref (tb_ad g 297), .int a1] : List Value).toArray meth c := F
  have hx := F.1.1
  have hb := F.1.2.1
  have hl : lv_has ls 2 [(0, .ref (tb_ad g 297)), (1, .int a1)] := hl
  unfold fX7_letterAt at h
  refine lv_iload_n hx hb dX7_letterAt_0 rfl (lv_at hl 1 rfl) ?_
  refine lv_aload_n hx hb dX7_letterAt_1 rfl (lv_at hl 0 rfl) ?_
  refine tb_geti F hP tb_l297 (ci := 7) rfl inlX7 6 (by decide) rfl kf_X7_76 dX7_letterAt_2 ?_
  refine lv_icmp_ge (tgt := 17) hx hb dX7_letterAt_5 (by decide) (fun c1 => ?_) (fun c1 => ?_)
  · have h := tb_ip c1 h
    refine lv_iconst (v := (-1)) hx hb dX7_letterAt_17 (by decide) ?_
    exact tb_iret h F hP hS dX7_letterAt_18
  · have h := tb_ineg c1 h
    refine lv_aload_n hx hb dX7_letterAt_8 rfl (lv_at hl 0 rfl) ?_
    refine tb_getr F hP tb_l297 (ci := 7) rfl inlX7 5 (by decide) rfl kf_X7_22 dX7_letterAt_9 ?_
    refine lv_iload_n hx hb dX7_letterAt_12 rfl (lv_at hl 1 rfl) ?_
    obtain ⟨k2, h⟩ := tb_cks h
    refine tb_iald F hP tb_l302 rfl (tb_inv k2) dX7_letterAt_13 ?_
    refine lv_goto (tgt := 18) hx hb dX7_letterAt_14 (by decide) ?_
    exact tb_iret h F hP hS dX7_letterAt_18
def fX7_isDigit (a0 : Int32) (M : tb_Mem) : Option (Int32 × tb_Mem) :=
  tb_b2 (fX7_in a0 48 57 M) (fun r3 M1 => tb_ck (tb_bl r3) (some (r3, M1)))
abbrev rmX7_isDigit : Room := { frames := 1, cells := 0, slots := 0, locals := 22 }
set_option maxHeartbeats 4000000 in
set_option maxRecDepth 100000 in
theorem tX7_isDigit (g : tb_GT) (l : Launch) (a0 : Int32) (M M' : tb_Mem) (r : Int32) (h : fX7_isDigit a0 M = some (r, M')) : tb_C g l yX7_isDigit (Cond.code yX7_isDigit cX7_isDigit 1 (some .boolean)) rmX7_isDigit [.int a0] M M' (some (.int r)) := by
  refine tb_entry (by decide) (Nat.le_of_ble_eq_true rfl) ?_
  intro P e s m below meth c F hP hS ls hl
  have F : tb_F g cX7_isDigit 1 RX7 (some .boolean) (Cond.code yX7_isDigit cX7_isDigit 1 (some .boolean)) P s m ([.int a0] : List Value).toArray meth c := F
  have hx := F.1.1
  have hb := F.1.2.1
  have hl : lv_has ls 1 [(0, .int a0)] := hl
  unfold fX7_isDigit at h
  refine lv_iload_n hx hb dX7_isDigit_0 rfl (lv_at hl 0 rfl) ?_
  refine lv_bipush (v := 48) hx hb dX7_isDigit_1 (by decide) ?_
  refine lv_bipush (v := 57) hx hb dX7_isDigit_3 (by decide) ?_
  obtain ⟨r3, M1, e2, h⟩ := tb_b2s h
  refine tb_callS F hP hS hl.1 kX7_in km_X7_47 (as := [.int a0, .int 48, .int 57]) (tX7_in g l a0 48 57 M M1 r3 e2) ⟨rfl, rfl, Nat.le_of_ble_eq_true rfl, Nat.le_of_ble_eq_true rfl⟩ rfl (rest := []) rfl (st1 := [.int r3]) rfl (Nat.le_of_ble_eq_true rfl) ⟨Nat.zero_le _, Nat.zero_le _⟩ dX7_isDigit_5 (fun H locs hP hS => ?_)
  obtain ⟨k4, h⟩ := tb_cks h
  exact tb_zret h F (tb_bln k4) hP hS dX7_isDigit_8
def fX7_fails (a1 : Int32) (M : tb_Mem) : Option (Int32 × tb_Mem) :=
  tb_let (tb_up M 297 18 a1) (fun M1 => some (0, M1))
abbrev rmX7_fails : Room := { frames := 0, cells := 0, slots := 0, locals := 0 }
set_option maxHeartbeats 4000000 in
set_option maxRecDepth 100000 in
theorem tX7_fails (g : tb_GT) (l : Launch) (a1 : Int32) (M M' : tb_Mem) (r : Int32) (h : fX7_fails a1 M = some (r, M')) : tb_C g l yX7_fails (Cond.code yX7_fails cX7_fails 2 (some .boolean)) rmX7_fails [.ref (tb_ad g 297), .int a1] M M' (some (.int r)) := by
  refine tb_entry (by decide) (Nat.le_of_ble_eq_true rfl) ?_
  intro P e s m below meth c F hP hS ls hl
  have F : tb_F g cX7_fails 2 RX7 (some .boolean) (Cond.code yX7_fails cX7_fails 2 (some .boolean)) P s m ([.ref (tb_ad g 297), .int a1] : List Value).toArray meth c := F
  have hx := F.1.1
  have hb := F.1.2.1
  have hl : lv_has ls 2 [(0, .ref (tb_ad g 297)), (1, .int a1)] := hl
  unfold fX7_fails at h
  refine lv_aload_n hx hb dX7_fails_0 rfl (lv_at hl 0 rfl) ?_
  refine lv_iload_n hx hb dX7_fails_1 rfl (lv_at hl 1 rfl) ?_
  obtain ⟨M1, e2, h⟩ := tb_lets h
  refine tb_puti F hP hS tb_l297 (ci := 7) rfl inlX7 tyX7 tyX7_ok nmX7 18 (by decide) rfl rfl rfl rfl kf_X7_80 dX7_fails_2 (fun H locs hP hS => ?_)
  rw [← e2] at hP
  refine lv_iconst (v := 0) hx hb dX7_fails_5 (by decide) ?_
  exact tb_zret h F rfl hP hS dX7_fails_6
def fX7_reads_J51 (x1 : Int32) (x2 : Int32) (x3 : Int32) (M : tb_Mem) : Option (Int32 × tb_Mem) :=
  if x2 = 0 then (tb_b2 (fX7_fails 1 M) (fun r15 M13 => tb_ck (tb_bl r15) (some (r15, M13)))) else (if x2 = 3 then (tb_b2 (fX7_fails 1 M) (fun r33 M31 => tb_ck (tb_bl r33) (some (r33, M31)))) else (tb_b2 (fX7_in x3 1 4 M) (fun r20 M18 => if r20 = 0 then (tb_b2 (fX7_fails 2 M18) (fun r29 M27 => tb_ck (tb_bl r29) (some (r29, M27)))) else (tb_let (tb_up M18 297 17 ((M18 297 17) + x2)) (fun M22 => tb_ck (tb_in x1 63) (tb_let (tb_up M22 304 x1.toNatClampNeg x3) (fun M25 => some (1, M25))))))))
def fX7_reads_L4 : Nat → Int32 → Int32 → Int32 → tb_Mem → Option (Int32 × tb_Mem)
  | 0, _, _, _, _ => none
  | n + 1, x1, x2, x3, M => tb_b2 (fX7_letterAt ((M 297 17) + x2) M) (fun r3 M1 => tb_b2 (fX7_isDigit r3 M1) (fun r6 M4 => if r6 = 0 then (fX7_reads_J51 x1 x2 x3 M4) else (if 3 ≤ x2 then (fX7_reads_J51 x1 x2 x3 M4) else (tb_ck (tb_in ((M4 297 17) + x2) 60) (tb_let ((((10 * x3) + (M4 302 ((M4 297 17) + x2).toNatClampNeg)) - 48) : Int32) (fun v10 => fX7_reads_L4 n x1 (x2 + 1) v10 M4))))))
def fX7_reads (a1 : Int32) (M : tb_Mem) : Option (Int32 × tb_Mem) :=
  fX7_reads_L4 tb_N a1 0 0 M
abbrev rmX7_reads : Room := { frames := 2, cells := 0, slots := 0, locals := 42 }
set_option maxHeartbeats 4000000 in
set_option maxRecDepth 100000 in
theorem tX7_reads_J51 {g : tb_GT} {l : Launch} {P : Program} {e : Env} {s : State} {m : MethodId} {below : List Frame} {meth : Method} {c : Code} {a1 : Int32} {M' : tb_Mem} {r : Int32} (F : tb_F g cX7_reads 4 RX7 (some .boolean) (Cond.code yX7_reads cX7_reads 4 (some .boolean)) P s m ([.ref (tb_ad g 297), .int a1] : List Value).toArray meth c) (x1 : Int32) (x2 : Int32) (x3 : Int32) (M : tb_Mem) {H : Heap} {locs : List Loc} {ls : Array Slot} (hP : tb_P g M H) (hS : va_S (tb_A g) s.heap H locs) (hl : lv_has ls 4 [(0, .ref (tb_ad g 297)), (1, .int x1), (2, .int x2), (3, .int x3)]) (h : fX7_reads_J51 x1 x2 x3 M = some (r, M')) : W P l e rmX7_reads s m ([.ref (tb_ad g 297), .int a1] : List Value).toArray below meth c H locs 0 0 (MQ below (tb_Q g M' (some (.int r))) ([.ref (tb_ad g 297), .int a1] : List Value).toArray s 0 0 (tb_A g)) (F0 m 51 ls []) := by
  have hx := F.1.1
  have hb := F.1.2.1
  unfold fX7_reads_J51 at h
  refine lv_iload_n hx hb dX7_reads_51 rfl (lv_at hl 2 rfl) ?_
  refine lv_if_eq (tgt := 60) hx hb dX7_reads_52 (by decide) (fun c12 => ?_) (fun c12 => ?_)
  · have h := tb_ip c12 h
    refine lv_aload_n hx hb dX7_reads_60 rfl (lv_at hl 0 rfl) ?_
    refine lv_iconst (v := 1) hx hb dX7_reads_61 (by decide) ?_
    obtain ⟨r15, M13, e14, h⟩ := tb_b2s h
    refine tb_callV F hP hS hl.1 kX7_fails km_X7_92 (as := [.int 1]) (tX7_fails g l 1 M M13 r15 e14) tb_l297 ⟨rfl, rfl, Nat.le_of_ble_eq_true rfl, Nat.le_of_ble_eq_true rfl⟩ rfl (rest := []) rfl (st1 := [.int r15]) rfl (Nat.le_of_ble_eq_true rfl) ⟨Nat.zero_le _, Nat.zero_le _⟩ dX7_reads_62 (fun H locs hP hS => ?_)
    obtain ⟨k16, h⟩ := tb_cks h
    exact tb_zret h F (tb_bln k16) hP hS dX7_reads_65
  · have h := tb_ineg c12 h
    refine lv_iload_n hx hb dX7_reads_55 rfl (lv_at hl 2 rfl) ?_
    refine lv_iconst (v := 3) hx hb dX7_reads_56 (by decide) ?_
    refine lv_icmp_ne (tgt := 66) hx hb dX7_reads_57 (by decide) (fun c17 => ?_) (fun c17 => ?_)
    · have h := tb_ineg c17 h
      refine lv_iload_n hx hb dX7_reads_66 rfl (lv_at hl 3 rfl) ?_
      refine lv_iconst (v := 1) hx hb dX7_reads_67 (by decide) ?_
      refine lv_iconst (v := 4) hx hb dX7_reads_68 (by decide) ?_
      obtain ⟨r20, M18, e19, h⟩ := tb_b2s h
      refine tb_callS F hP hS hl.1 kX7_in km_X7_47 (as := [.int x3, .int 1, .int 4]) (tX7_in g l x3 1 4 M M18 r20 e19) ⟨rfl, rfl, Nat.le_of_ble_eq_true rfl, Nat.le_of_ble_eq_true rfl⟩ rfl (rest := []) rfl (st1 := [.int r20]) rfl (Nat.le_of_ble_eq_true rfl) ⟨Nat.zero_le _, Nat.zero_le _⟩ dX7_reads_69 (fun H locs hP hS => ?_)
      refine lv_if_ne (tgt := 81) hx hb dX7_reads_72 (by decide) (fun c21 => ?_) (fun c21 => ?_)
      · have h := tb_ineg c21 h
        refine lv_aload_n hx hb dX7_reads_81 rfl (lv_at hl 0 rfl) ?_
        refine lv_dup hx hb dX7_reads_82 rfl ?_
        refine tb_geti F hP tb_l297 (ci := 7) rfl inlX7 17 (by decide) rfl kf_X7_83 dX7_reads_83 ?_
        refine lv_iload_n hx hb dX7_reads_86 rfl (lv_at hl 2 rfl) ?_
        refine lv_iadd hx hb dX7_reads_87 ?_
        obtain ⟨M22, e23, h⟩ := tb_lets h
        refine tb_puti F hP hS tb_l297 (ci := 7) rfl inlX7 tyX7 tyX7_ok nmX7 17 (by decide) rfl rfl rfl rfl kf_X7_83 dX7_reads_88 (fun H locs hP hS => ?_)
        rw [← e23] at hP
        refine lv_aload_n hx hb dX7_reads_91 rfl (lv_at hl 0 rfl) ?_
        refine tb_getr F hP tb_l297 (ci := 7) rfl inlX7 9 (by decide) rfl kf_X7_28 dX7_reads_92 ?_
        refine lv_iload_n hx hb dX7_reads_95 rfl (lv_at hl 1 rfl) ?_
        refine lv_iload_n hx hb dX7_reads_96 rfl (lv_at hl 3 rfl) ?_
        obtain ⟨k24, h⟩ := tb_cks h
        obtain ⟨M25, e26, h⟩ := tb_lets h
        refine tb_iast F hP hS tb_l304 rfl (tb_inv k24) dX7_reads_97 (fun H locs hP hS => ?_)
        rw [← e26] at hP
        refine lv_iconst (v := 1) hx hb dX7_reads_98 (by decide) ?_
        exact tb_zret h F rfl hP hS dX7_reads_99
      · have h := tb_ip c21 h
        refine lv_aload_n hx hb dX7_reads_75 rfl (lv_at hl 0 rfl) ?_
        refine lv_iconst (v := 2) hx hb dX7_reads_76 (by decide) ?_
        obtain ⟨r29, M27, e28, h⟩ := tb_b2s h
        refine tb_callV F hP hS hl.1 kX7_fails km_X7_92 (as := [.int 2]) (tX7_fails g l 2 M18 M27 r29 e28) tb_l297 ⟨rfl, rfl, Nat.le_of_ble_eq_true rfl, Nat.le_of_ble_eq_true rfl⟩ rfl (rest := []) rfl (st1 := [.int r29]) rfl (Nat.le_of_ble_eq_true rfl) ⟨Nat.zero_le _, Nat.zero_le _⟩ dX7_reads_77 (fun H locs hP hS => ?_)
        obtain ⟨k30, h⟩ := tb_cks h
        exact tb_zret h F (tb_bln k30) hP hS dX7_reads_80
    · have h := tb_ip c17 h
      refine lv_aload_n hx hb dX7_reads_60 rfl (lv_at hl 0 rfl) ?_
      refine lv_iconst (v := 1) hx hb dX7_reads_61 (by decide) ?_
      obtain ⟨r33, M31, e32, h⟩ := tb_b2s h
      refine tb_callV F hP hS hl.1 kX7_fails km_X7_92 (as := [.int 1]) (tX7_fails g l 1 M M31 r33 e32) tb_l297 ⟨rfl, rfl, Nat.le_of_ble_eq_true rfl, Nat.le_of_ble_eq_true rfl⟩ rfl (rest := []) rfl (st1 := [.int r33]) rfl (Nat.le_of_ble_eq_true rfl) ⟨Nat.zero_le _, Nat.zero_le _⟩ dX7_reads_62 (fun H locs hP hS => ?_)
      obtain ⟨k34, h⟩ := tb_cks h
      exact tb_zret h F (tb_bln k34) hP hS dX7_reads_65
set_option maxHeartbeats 4000000 in
set_option maxRecDepth 100000 in
theorem tX7_reads_L4 {g : tb_GT} {l : Launch} {P : Program} {e : Env} {s : State} {m : MethodId} {below : List Frame} {meth : Method} {c : Code} {a1 : Int32} {M' : tb_Mem} {r : Int32} (F : tb_F g cX7_reads 4 RX7 (some .boolean) (Cond.code yX7_reads cX7_reads 4 (some .boolean)) P s m ([.ref (tb_ad g 297), .int a1] : List Value).toArray meth c) :
    ∀ (n : Nat) (x1 : Int32) (x2 : Int32) (x3 : Int32) (M : tb_Mem) (H : Heap) (locs : List Loc) (ls : Array Slot), tb_P g M H → va_S (tb_A g) s.heap H locs → lv_has ls 4 [(0, .ref (tb_ad g 297)), (1, .int x1), (2, .int x2), (3, .int x3)] → fX7_reads_L4 n x1 x2 x3 M = some (r, M') → W P l e rmX7_reads s m ([.ref (tb_ad g 297), .int a1] : List Value).toArray below meth c H locs 0 0 (MQ below (tb_Q g M' (some (.int r))) ([.ref (tb_ad g 297), .int a1] : List Value).toArray s 0 0 (tb_A g)) (F0 m 4 ls []) := by
  have hx := F.1.1
  have hb := F.1.2.1
  intro n
  induction n with
  | zero =>
    intro x1 x2 x3 M H locs ls hP hS hl h
    rw [fX7_reads_L4] at h
    exact tb_none h
  | succ n ih =>
    intro x1 x2 x3 M H locs ls hP hS hl h
    rw [fX7_reads_L4] at h
    refine lv_aload_n hx hb dX7_reads_4 rfl (lv_at hl 0 rfl) ?_
    refine lv_aload_n hx hb dX7_reads_5 rfl (lv_at hl 0 rfl) ?_
    refine tb_geti F hP tb_l297 (ci := 7) rfl inlX7 17 (by decide) rfl kf_X7_83 dX7_reads_6 ?_
    refine lv_iload_n hx hb dX7_reads_9 rfl (lv_at hl 2 rfl) ?_
    refine lv_iadd hx hb dX7_reads_10 ?_
    obtain ⟨r3, M1, e2, h⟩ := tb_b2s h
    refine tb_callV F hP hS hl.1 kX7_letterAt km_X7_86 (as := [.int ((M 297 17) + x2)]) (tX7_letterAt g l ((M 297 17) + x2) M M1 r3 e2) tb_l297 ⟨rfl, rfl, Nat.le_of_ble_eq_true rfl, Nat.le_of_ble_eq_true rfl⟩ rfl (rest := []) rfl (st1 := [.int r3]) rfl (Nat.le_of_ble_eq_true rfl) ⟨Nat.zero_le _, Nat.zero_le _⟩ dX7_reads_11 (fun H locs hP hS => ?_)
    obtain ⟨r6, M4, e5, h⟩ := tb_b2s h
    refine tb_callS F hP hS hl.1 kX7_isDigit km_X7_89 (as := [.int r3]) (tX7_isDigit g l r3 M1 M4 r6 e5) ⟨rfl, rfl, Nat.le_of_ble_eq_true rfl, Nat.le_of_ble_eq_true rfl⟩ rfl (rest := []) rfl (st1 := [.int r6]) rfl (Nat.le_of_ble_eq_true rfl) ⟨Nat.zero_le _, Nat.zero_le _⟩ dX7_reads_14 (fun H locs hP hS => ?_)
    refine lv_if_eq (tgt := 51) hx hb dX7_reads_17 (by decide) (fun c7 => ?_) (fun c7 => ?_)
    · have h := tb_ip c7 h
      exact tX7_reads_J51 F x1 x2 x3 M4 hP hS (lv_sub hl [0, 1, 2, 3] rfl) h
    · have h := tb_ineg c7 h
      refine lv_iload_n hx hb dX7_reads_20 rfl (lv_at hl 2 rfl) ?_
      refine lv_iconst (v := 3) hx hb dX7_reads_21 (by decide) ?_
      refine lv_icmp_ge (tgt := 51) hx hb dX7_reads_22 (by decide) (fun c8 => ?_) (fun c8 => ?_)
      · have h := tb_ip c8 h
        exact tX7_reads_J51 F x1 x2 x3 M4 hP hS (lv_sub hl [0, 1, 2, 3] rfl) h
      · have h := tb_ineg c8 h
        refine lv_bipush (v := 10) hx hb dX7_reads_25 (by decide) ?_
        refine lv_iload_n hx hb dX7_reads_27 rfl (lv_at hl 3 rfl) ?_
        refine lv_imul hx hb dX7_reads_28 ?_
        refine lv_aload_n hx hb dX7_reads_29 rfl (lv_at hl 0 rfl) ?_
        refine tb_getr F hP tb_l297 (ci := 7) rfl inlX7 5 (by decide) rfl kf_X7_22 dX7_reads_30 ?_
        refine lv_aload_n hx hb dX7_reads_33 rfl (lv_at hl 0 rfl) ?_
        refine tb_geti F hP tb_l297 (ci := 7) rfl inlX7 17 (by decide) rfl kf_X7_83 dX7_reads_34 ?_
        refine lv_iload_n hx hb dX7_reads_37 rfl (lv_at hl 2 rfl) ?_
        refine lv_iadd hx hb dX7_reads_38 ?_
        obtain ⟨k9, h⟩ := tb_cks h
        refine tb_iald F hP tb_l302 rfl (tb_inv k9) dX7_reads_39 ?_
        refine lv_iadd hx hb dX7_reads_40 ?_
        refine lv_bipush (v := 48) hx hb dX7_reads_41 (by decide) ?_
        refine lv_isub hx hb dX7_reads_43 ?_
        obtain ⟨v10, e11, h⟩ := tb_lets h
        refine tb_nmi e11 ?_
        refine lv_istore_n (lv' := [(3, .int v10), (0, .ref (tb_ad g 297)), (1, .int x1), (2, .int x2)]) hx hb dX7_reads_44 rfl hl (by decide) rfl (fun ls hl => ?_)
        refine lv_iinc (v := (x2 + 1)) (lv' := [(2, .int (x2 + 1)), (3, .int v10), (0, .ref (tb_ad g 297)), (1, .int x1)]) hx hb dX7_reads_45 hl (k := 3) rfl rfl (by decide) rfl (fun ls hl => ?_)
        refine lv_goto (tgt := 4) hx hb dX7_reads_48 (by decide) ?_
        exact ih x1 (x2 + 1) v10 M4 _ _ _ hP hS (lv_sub hl [2, 3, 0, 1] rfl) h
set_option maxHeartbeats 4000000 in
set_option maxRecDepth 100000 in
theorem tX7_reads (g : tb_GT) (l : Launch) (a1 : Int32) (M M' : tb_Mem) (r : Int32) (h : fX7_reads a1 M = some (r, M')) : tb_C g l yX7_reads (Cond.code yX7_reads cX7_reads 4 (some .boolean)) rmX7_reads [.ref (tb_ad g 297), .int a1] M M' (some (.int r)) := by
  refine tb_entry (by decide) (Nat.le_of_ble_eq_true rfl) ?_
  intro P e s m below meth c F hP hS ls hl
  have F : tb_F g cX7_reads 4 RX7 (some .boolean) (Cond.code yX7_reads cX7_reads 4 (some .boolean)) P s m ([.ref (tb_ad g 297), .int a1] : List Value).toArray meth c := F
  have hx := F.1.1
  have hb := F.1.2.1
  have hl : lv_has ls 4 [(0, .ref (tb_ad g 297)), (1, .int a1)] := hl
  unfold fX7_reads at h
  refine lv_iconst (v := 0) hx hb dX7_reads_0 (by decide) ?_
  refine lv_istore_n (lv' := [(2, .int 0), (0, .ref (tb_ad g 297)), (1, .int a1)]) hx hb dX7_reads_1 rfl hl (by decide) rfl (fun ls hl => ?_)
  refine lv_iconst (v := 0) hx hb dX7_reads_2 (by decide) ?_
  refine lv_istore_n (lv' := [(3, .int 0), (2, .int 0), (0, .ref (tb_ad g 297)), (1, .int a1)]) hx hb dX7_reads_3 rfl hl (by decide) rfl (fun ls hl => ?_)
  exact tX7_reads_L4 F tb_N a1 0 0 M _ _ _ hP hS (lv_sub hl [2, 3, 1, 0] rfl) h
def fX7_kindBy (a0 : Int32) (M : tb_Mem) : Option (Int32 × tb_Mem) :=
  some (((if a0 = 112 then 1 else (if a0 = 104 then 2 else (if a0 = 115 then 3 else (if a0 = 100 then 4 else (if a0 = 98 then 5 else 0))))) : Int32), M)
abbrev rmX7_kindBy : Room := { frames := 0, cells := 0, slots := 0, locals := 0 }
set_option maxHeartbeats 4000000 in
set_option maxRecDepth 100000 in
theorem tX7_kindBy (g : tb_GT) (l : Launch) (a0 : Int32) (M M' : tb_Mem) (r : Int32) (h : fX7_kindBy a0 M = some (r, M')) : tb_C g l yX7_kindBy (Cond.code yX7_kindBy cX7_kindBy 1 (some .int)) rmX7_kindBy [.int a0] M M' (some (.int r)) := by
  refine tb_entry (by decide) (Nat.le_of_ble_eq_true rfl) ?_
  intro P e s m below meth c F hP hS ls hl
  have F : tb_F g cX7_kindBy 1 RX7 (some .int) (Cond.code yX7_kindBy cX7_kindBy 1 (some .int)) P s m ([.int a0] : List Value).toArray meth c := F
  have hx := F.1.1
  have hb := F.1.2.1
  have hl : lv_has ls 1 [(0, .int a0)] := hl
  unfold fX7_kindBy at h
  refine lv_iload_n hx hb dX7_kindBy_0 rfl (lv_at hl 0 rfl) ?_
  refine lv_bipush (v := 112) hx hb dX7_kindBy_1 (by decide) ?_
  refine tb_mrg (g2 := F0 m 51 ls [.int ((if a0 = 112 then 1 else (if a0 = 104 then 2 else (if a0 = 115 then 3 else (if a0 = 100 then 4 else (if a0 = 98 then 5 else 0))))) : Int32)]) (fun hJ => ?_) ?_
  · refine lv_icmp_ne (tgt := 10) hx hb dX7_kindBy_3 (by decide) (fun c1 => ?_) (fun c1 => ?_)
    · refine lv_iload_n hx hb dX7_kindBy_10 rfl (lv_at hl 0 rfl) ?_
      refine lv_bipush (v := 104) hx hb dX7_kindBy_11 (by decide) ?_
      refine lv_icmp_ne (tgt := 20) hx hb dX7_kindBy_13 (by decide) (fun c2 => ?_) (fun c2 => ?_)
      · refine lv_iload_n hx hb dX7_kindBy_20 rfl (lv_at hl 0 rfl) ?_
        refine lv_bipush (v := 115) hx hb dX7_kindBy_21 (by decide) ?_
        refine lv_icmp_ne (tgt := 30) hx hb dX7_kindBy_23 (by decide) (fun c3 => ?_) (fun c3 => ?_)
        · refine lv_iload_n hx hb dX7_kindBy_30 rfl (lv_at hl 0 rfl) ?_
          refine lv_bipush (v := 100) hx hb dX7_kindBy_31 (by decide) ?_
          refine lv_icmp_ne (tgt := 40) hx hb dX7_kindBy_33 (by decide) (fun c4 => ?_) (fun c4 => ?_)
          · refine lv_iload_n hx hb dX7_kindBy_40 rfl (lv_at hl 0 rfl) ?_
            refine lv_bipush (v := 98) hx hb dX7_kindBy_41 (by decide) ?_
            refine lv_icmp_ne (tgt := 50) hx hb dX7_kindBy_43 (by decide) (fun c5 => ?_) (fun c5 => ?_)
            · refine lv_iconst (v := 0) hx hb dX7_kindBy_50 (by decide) ?_
              rw [if_neg c1, if_neg c2, if_neg c3, if_neg c4, if_neg c5] at hJ
              exact hJ
            · refine lv_iconst (v := 5) hx hb dX7_kindBy_46 (by decide) ?_
              refine lv_goto (tgt := 51) hx hb dX7_kindBy_47 (by decide) ?_
              rw [if_neg c1, if_neg c2, if_neg c3, if_neg c4, if_pos c5] at hJ
              exact hJ
          · refine lv_iconst (v := 4) hx hb dX7_kindBy_36 (by decide) ?_
            refine lv_goto (tgt := 51) hx hb dX7_kindBy_37 (by decide) ?_
            rw [if_neg c1, if_neg c2, if_neg c3, if_pos c4] at hJ
            exact hJ
        · refine lv_iconst (v := 3) hx hb dX7_kindBy_26 (by decide) ?_
          refine lv_goto (tgt := 51) hx hb dX7_kindBy_27 (by decide) ?_
          rw [if_neg c1, if_neg c2, if_pos c3] at hJ
          exact hJ
      · refine lv_iconst (v := 2) hx hb dX7_kindBy_16 (by decide) ?_
        refine lv_goto (tgt := 51) hx hb dX7_kindBy_17 (by decide) ?_
        rw [if_neg c1, if_pos c2] at hJ
        exact hJ
    · refine lv_iconst (v := 1) hx hb dX7_kindBy_6 (by decide) ?_
      refine lv_goto (tgt := 51) hx hb dX7_kindBy_7 (by decide) ?_
      rw [if_pos c1] at hJ
      exact hJ
  exact tb_iret h F hP hS dX7_kindBy_51
def fX7_readsAll_J26 (K5 : tb_Mem → Option (Int32 × tb_Mem)) (M : tb_Mem) : Option (Int32 × tb_Mem) :=
  tb_b2 (fX7_letterAt (M 297 17) M) (fun r7 M5 => tb_b2 (fX7_kindBy r7 M5) (fun r10 M8 => if r10 = 0 then (tb_b2 (fX7_fails 1 M8) (fun r46 M44 => tb_ck (tb_bl r46) (some (r46, M44)))) else (if (M8 304 46) = 8 then (tb_b2 (fX7_fails 3 M8) (fun r42 M40 => tb_ck (tb_bl r42) (some (r42, M40)))) else (tb_let (tb_up M8 297 17 ((M8 297 17) + 1)) (fun M13 => tb_ck (tb_in (55 + (M8 304 46)) 63) (tb_let (tb_up M13 304 ((55 + (M8 304 46)).toNatClampNeg) r10) (fun M16 => tb_ck (tb_in (2 + (M8 304 46)) 63) (tb_let (tb_up M16 304 ((2 + (M8 304 46)).toNatClampNeg) (-1)) (fun M19 => tb_ck (tb_in (18 + (M8 304 46)) 63) (tb_let (tb_up M19 304 ((18 + (M8 304 46)).toNatClampNeg) (M8 304 46)) (fun M22 => tb_b2 (fX7_reads (47 + (M8 304 46)) M22) (fun r26 M24 => if r26 = 0 then (some (0, M24)) else (tb_b2 (fX7_letterAt (M24 297 17) M24) (fun r30 M28 => if r30 = 59 then (tb_let (tb_up M28 297 17 ((M28 297 17) + 1)) (fun M32 => tb_let (tb_up M32 304 46 ((M32 304 46) + 1)) (fun M34 => K5 M34))) else (tb_b2 (fX7_fails 1 M28) (fun r38 M36 => tb_ck (tb_bl r38) (some (r38, M36))))))))))))))))))
def fX7_readsAll_L5 : Nat → tb_Mem → Option (Int32 × tb_Mem)
  | 0, _ => none
  | n + 1, M => if (M 297 17) < (M 297 6) then (fX7_readsAll_J26 (fun  M => fX7_readsAll_L5 n  M) M) else (if (M 304 46) = 0 then (fX7_readsAll_J26 (fun  M => fX7_readsAll_L5 n  M) M) else (some (1, M)))
def fX7_readsAll (M : tb_Mem) : Option (Int32 × tb_Mem) :=
  tb_let (tb_up M 297 17 0) (fun M1 => fX7_readsAll_L5 tb_N M1)
abbrev rmX7_readsAll : Room := { frames := 3, cells := 0, slots := 0, locals := 65 }
set_option maxHeartbeats 4000000 in
set_option maxRecDepth 100000 in
theorem tX7_readsAll_J26 {g : tb_GT} {l : Launch} {P : Program} {e : Env} {s : State} {m : MethodId} {below : List Frame} {meth : Method} {c : Code} {M' : tb_Mem} {r : Int32} (F : tb_F g cX7_readsAll 3 RX7 (some .boolean) (Cond.code yX7_readsAll cX7_readsAll 3 (some .boolean)) P s m ([.ref (tb_ad g 297)] : List Value).toArray meth c) (K5 : tb_Mem → Option (Int32 × tb_Mem)) (hK5 : ∀ (M : tb_Mem) (H : Heap) (locs : List Loc) (ls : Array Slot), tb_P g M H → va_S (tb_A g) s.heap H locs → lv_has ls 3 [(0, .ref (tb_ad g 297))] → K5  M = some (r, M') → W P l e rmX7_readsAll s m ([.ref (tb_ad g 297)] : List Value).toArray below meth c H locs 0 0 (MQ below (tb_Q g M' (some (.int r))) ([.ref (tb_ad g 297)] : List Value).toArray s 0 0 (tb_A g)) (F0 m 5 ls [])) (M : tb_Mem) {H : Heap} {locs : List Loc} {ls : Array Slot} (hP : tb_P g M H) (hS : va_S (tb_A g) s.heap H locs) (hl : lv_has ls 3 [(0, .ref (tb_ad g 297))]) (h : fX7_readsAll_J26 K5 M = some (r, M')) : W P l e rmX7_readsAll s m ([.ref (tb_ad g 297)] : List Value).toArray below meth c H locs 0 0 (MQ below (tb_Q g M' (some (.int r))) ([.ref (tb_ad g 297)] : List Value).toArray s 0 0 (tb_A g)) (F0 m 26 ls []) := by
  have hx := F.1.1
  have hb := F.1.2.1
  unfold fX7_readsAll_J26 at h
  refine lv_aload_n hx hb dX7_readsAll_26 rfl (lv_at hl 0 rfl) ?_
  refine lv_aload_n hx hb dX7_readsAll_27 rfl (lv_at hl 0 rfl) ?_
  refine tb_geti F hP tb_l297 (ci := 7) rfl inlX7 17 (by decide) rfl kf_X7_83 dX7_readsAll_28 ?_
  obtain ⟨r7, M5, e6, h⟩ := tb_b2s h
  refine tb_callV F hP hS hl.1 kX7_letterAt km_X7_86 (as := [.int (M 297 17)]) (tX7_letterAt g l (M 297 17) M M5 r7 e6) tb_l297 ⟨rfl, rfl, Nat.le_of_ble_eq_true rfl, Nat.le_of_ble_eq_true rfl⟩ rfl (rest := []) rfl (st1 := [.int r7]) rfl (Nat.le_of_ble_eq_true rfl) ⟨Nat.zero_le _, Nat.zero_le _⟩ dX7_readsAll_31 (fun H locs hP hS => ?_)
  obtain ⟨r10, M8, e9, h⟩ := tb_b2s h
  refine tb_callS F hP hS hl.1 kX7_kindBy km_X7_95 (as := [.int r7]) (tX7_kindBy g l r7 M5 M8 r10 e9) ⟨rfl, rfl, Nat.le_of_ble_eq_true rfl, Nat.le_of_ble_eq_true rfl⟩ rfl (rest := []) rfl (st1 := [.int r10]) rfl (Nat.le_of_ble_eq_true rfl) ⟨Nat.zero_le _, Nat.zero_le _⟩ dX7_readsAll_34 (fun H locs hP hS => ?_)
  refine lv_istore_n (lv' := [(1, .int r10), (0, .ref (tb_ad g 297))]) hx hb dX7_readsAll_37 rfl hl (by decide) rfl (fun ls hl => ?_)
  refine lv_iload_n hx hb dX7_readsAll_38 rfl (lv_at hl 0 rfl) ?_
  refine lv_if_ne (tgt := 48) hx hb dX7_readsAll_39 (by decide) (fun c11 => ?_) (fun c11 => ?_)
  · have h := tb_ineg c11 h
    refine lv_aload_n hx hb dX7_readsAll_48 rfl (lv_at hl 1 rfl) ?_
    refine tb_getr F hP tb_l297 (ci := 7) rfl inlX7 9 (by decide) rfl kf_X7_28 dX7_readsAll_49 ?_
    refine lv_bipush (v := 46) hx hb dX7_readsAll_52 (by decide) ?_
    refine tb_iald F hP tb_l304 (k := 46) (by decide +kernel) (tb_inv (i := 46) (n := 63) (by decide +kernel)) dX7_readsAll_54 ?_
    refine lv_istore_n (lv' := [(2, .int (M8 304 46)), (1, .int r10), (0, .ref (tb_ad g 297))]) hx hb dX7_readsAll_55 rfl hl (by decide) rfl (fun ls hl => ?_)
    refine lv_iload_n hx hb dX7_readsAll_56 rfl (lv_at hl 0 rfl) ?_
    refine lv_bipush (v := 8) hx hb dX7_readsAll_57 (by decide) ?_
    refine lv_icmp_ne (tgt := 68) hx hb dX7_readsAll_59 (by decide) (fun c12 => ?_) (fun c12 => ?_)
    · have h := tb_ineg c12 h
      refine lv_aload_n hx hb dX7_readsAll_68 rfl (lv_at hl 2 rfl) ?_
      refine lv_dup hx hb dX7_readsAll_69 rfl ?_
      refine tb_geti F hP tb_l297 (ci := 7) rfl inlX7 17 (by decide) rfl kf_X7_83 dX7_readsAll_70 ?_
      refine lv_iconst (v := 1) hx hb dX7_readsAll_73 (by decide) ?_
      refine lv_iadd hx hb dX7_readsAll_74 ?_
      obtain ⟨M13, e14, h⟩ := tb_lets h
      refine tb_puti F hP hS tb_l297 (ci := 7) rfl inlX7 tyX7 tyX7_ok nmX7 17 (by decide) rfl rfl rfl rfl kf_X7_83 dX7_readsAll_75 (fun H locs hP hS => ?_)
      rw [← e14] at hP
      refine lv_aload_n hx hb dX7_readsAll_78 rfl (lv_at hl 2 rfl) ?_
      refine tb_getr F hP tb_l297 (ci := 7) rfl inlX7 9 (by decide) rfl kf_X7_28 dX7_readsAll_79 ?_
      refine lv_bipush (v := 55) hx hb dX7_readsAll_82 (by decide) ?_
      refine lv_iload_n hx hb dX7_readsAll_84 rfl (lv_at hl 0 rfl) ?_
      refine lv_iadd hx hb dX7_readsAll_85 ?_
      refine lv_iload_n hx hb dX7_readsAll_86 rfl (lv_at hl 1 rfl) ?_
      obtain ⟨k15, h⟩ := tb_cks h
      obtain ⟨M16, e17, h⟩ := tb_lets h
      refine tb_iast F hP hS tb_l304 rfl (tb_inv k15) dX7_readsAll_87 (fun H locs hP hS => ?_)
      rw [← e17] at hP
      refine lv_aload_n hx hb dX7_readsAll_88 rfl (lv_at hl 2 rfl) ?_
      refine tb_getr F hP tb_l297 (ci := 7) rfl inlX7 9 (by decide) rfl kf_X7_28 dX7_readsAll_89 ?_
      refine lv_iconst (v := 2) hx hb dX7_readsAll_92 (by decide) ?_
      refine lv_iload_n hx hb dX7_readsAll_93 rfl (lv_at hl 0 rfl) ?_
      refine lv_iadd hx hb dX7_readsAll_94 ?_
      refine lv_iconst (v := (-1)) hx hb dX7_readsAll_95 (by decide) ?_
      obtain ⟨k18, h⟩ := tb_cks h
      obtain ⟨M19, e20, h⟩ := tb_lets h
      refine tb_iast F hP hS tb_l304 rfl (tb_inv k18) dX7_readsAll_96 (fun H locs hP hS => ?_)
      rw [← e20] at hP
      refine lv_aload_n hx hb dX7_readsAll_97 rfl (lv_at hl 2 rfl) ?_
      refine tb_getr F hP tb_l297 (ci := 7) rfl inlX7 9 (by decide) rfl kf_X7_28 dX7_readsAll_98 ?_
      refine lv_bipush (v := 18) hx hb dX7_readsAll_101 (by decide) ?_
      refine lv_iload_n hx hb dX7_readsAll_103 rfl (lv_at hl 0 rfl) ?_
      refine lv_iadd hx hb dX7_readsAll_104 ?_
      refine lv_iload_n hx hb dX7_readsAll_105 rfl (lv_at hl 0 rfl) ?_
      obtain ⟨k21, h⟩ := tb_cks h
      obtain ⟨M22, e23, h⟩ := tb_lets h
      refine tb_iast F hP hS tb_l304 rfl (tb_inv k21) dX7_readsAll_106 (fun H locs hP hS => ?_)
      rw [← e23] at hP
      refine lv_aload_n hx hb dX7_readsAll_107 rfl (lv_at hl 2 rfl) ?_
      refine lv_bipush (v := 47) hx hb dX7_readsAll_108 (by decide) ?_
      refine lv_iload_n hx hb dX7_readsAll_110 rfl (lv_at hl 0 rfl) ?_
      refine lv_iadd hx hb dX7_readsAll_111 ?_
      obtain ⟨r26, M24, e25, h⟩ := tb_b2s h
      refine tb_callV F hP hS hl.1 kX7_reads km_X7_98 (as := [.int (47 + (M8 304 46))]) (tX7_reads g l (47 + (M8 304 46)) M22 M24 r26 e25) tb_l297 ⟨rfl, rfl, Nat.le_of_ble_eq_true rfl, Nat.le_of_ble_eq_true rfl⟩ rfl (rest := []) rfl (st1 := [.int r26]) rfl (Nat.le_of_ble_eq_true rfl) ⟨Nat.zero_le _, Nat.zero_le _⟩ dX7_readsAll_112 (fun H locs hP hS => ?_)
      refine lv_if_ne (tgt := 120) hx hb dX7_readsAll_115 (by decide) (fun c27 => ?_) (fun c27 => ?_)
      · have h := tb_ineg c27 h
        refine lv_aload_n hx hb dX7_readsAll_120 rfl (lv_at hl 2 rfl) ?_
        refine lv_aload_n hx hb dX7_readsAll_121 rfl (lv_at hl 2 rfl) ?_
        refine tb_geti F hP tb_l297 (ci := 7) rfl inlX7 17 (by decide) rfl kf_X7_83 dX7_readsAll_122 ?_
        obtain ⟨r30, M28, e29, h⟩ := tb_b2s h
        refine tb_callV F hP hS hl.1 kX7_letterAt km_X7_86 (as := [.int (M24 297 17)]) (tX7_letterAt g l (M24 297 17) M24 M28 r30 e29) tb_l297 ⟨rfl, rfl, Nat.le_of_ble_eq_true rfl, Nat.le_of_ble_eq_true rfl⟩ rfl (rest := []) rfl (st1 := [.int r30]) rfl (Nat.le_of_ble_eq_true rfl) ⟨Nat.zero_le _, Nat.zero_le _⟩ dX7_readsAll_125 (fun H locs hP hS => ?_)
        refine lv_bipush (v := 59) hx hb dX7_readsAll_128 (by decide) ?_
        refine lv_icmp_eq (tgt := 139) hx hb dX7_readsAll_130 (by decide) (fun c31 => ?_) (fun c31 => ?_)
        · have h := tb_ip c31 h
          refine lv_aload_n hx hb dX7_readsAll_139 rfl (lv_at hl 2 rfl) ?_
          refine lv_dup hx hb dX7_readsAll_140 rfl ?_
          refine tb_geti F hP tb_l297 (ci := 7) rfl inlX7 17 (by decide) rfl kf_X7_83 dX7_readsAll_141 ?_
          refine lv_iconst (v := 1) hx hb dX7_readsAll_144 (by decide) ?_
          refine lv_iadd hx hb dX7_readsAll_145 ?_
          obtain ⟨M32, e33, h⟩ := tb_lets h
          refine tb_puti F hP hS tb_l297 (ci := 7) rfl inlX7 tyX7 tyX7_ok nmX7 17 (by decide) rfl rfl rfl rfl kf_X7_83 dX7_readsAll_146 (fun H locs hP hS => ?_)
          rw [← e33] at hP
          refine lv_aload_n hx hb dX7_readsAll_149 rfl (lv_at hl 2 rfl) ?_
          refine tb_getr F hP tb_l297 (ci := 7) rfl inlX7 9 (by decide) rfl kf_X7_28 dX7_readsAll_150 ?_
          refine lv_bipush (v := 46) hx hb dX7_readsAll_153 (by decide) ?_
          refine lv_dup2_11 hx hb dX7_readsAll_155 rfl rfl ?_
          refine tb_iald F hP tb_l304 (k := 46) (by decide +kernel) (tb_inv (i := 46) (n := 63) (by decide +kernel)) dX7_readsAll_156 ?_
          refine lv_iconst (v := 1) hx hb dX7_readsAll_157 (by decide) ?_
          refine lv_iadd hx hb dX7_readsAll_158 ?_
          obtain ⟨M34, e35, h⟩ := tb_lets h
          refine tb_iast F hP hS tb_l304 (k := 46) (by decide +kernel) (tb_inv (i := 46) (n := 63) (by decide +kernel)) dX7_readsAll_159 (fun H locs hP hS => ?_)
          rw [← e35] at hP
          refine lv_goto (tgt := 5) hx hb dX7_readsAll_160 (by decide) ?_
          exact hK5 M34 _ _ _ hP hS (lv_sub hl [2] rfl) h
        · have h := tb_ineg c31 h
          refine lv_aload_n hx hb dX7_readsAll_133 rfl (lv_at hl 2 rfl) ?_
          refine lv_iconst (v := 1) hx hb dX7_readsAll_134 (by decide) ?_
          obtain ⟨r38, M36, e37, h⟩ := tb_b2s h
          refine tb_callV F hP hS hl.1 kX7_fails km_X7_92 (as := [.int 1]) (tX7_fails g l 1 M28 M36 r38 e37) tb_l297 ⟨rfl, rfl, Nat.le_of_ble_eq_true rfl, Nat.le_of_ble_eq_true rfl⟩ rfl (rest := []) rfl (st1 := [.int r38]) rfl (Nat.le_of_ble_eq_true rfl) ⟨Nat.zero_le _, Nat.zero_le _⟩ dX7_readsAll_135 (fun H locs hP hS => ?_)
          obtain ⟨k39, h⟩ := tb_cks h
          exact tb_zret h F (tb_bln k39) hP hS dX7_readsAll_138
      · have h := tb_ip c27 h
        refine lv_iconst (v := 0) hx hb dX7_readsAll_118 (by decide) ?_
        exact tb_zret h F rfl hP hS dX7_readsAll_119
    · have h := tb_ip c12 h
      refine lv_aload_n hx hb dX7_readsAll_62 rfl (lv_at hl 2 rfl) ?_
      refine lv_iconst (v := 3) hx hb dX7_readsAll_63 (by decide) ?_
      obtain ⟨r42, M40, e41, h⟩ := tb_b2s h
      refine tb_callV F hP hS hl.1 kX7_fails km_X7_92 (as := [.int 3]) (tX7_fails g l 3 M8 M40 r42 e41) tb_l297 ⟨rfl, rfl, Nat.le_of_ble_eq_true rfl, Nat.le_of_ble_eq_true rfl⟩ rfl (rest := []) rfl (st1 := [.int r42]) rfl (Nat.le_of_ble_eq_true rfl) ⟨Nat.zero_le _, Nat.zero_le _⟩ dX7_readsAll_64 (fun H locs hP hS => ?_)
      obtain ⟨k43, h⟩ := tb_cks h
      exact tb_zret h F (tb_bln k43) hP hS dX7_readsAll_67
  · have h := tb_ip c11 h
    refine lv_aload_n hx hb dX7_readsAll_42 rfl (lv_at hl 1 rfl) ?_
    refine lv_iconst (v := 1) hx hb dX7_readsAll_43 (by decide) ?_
    obtain ⟨r46, M44, e45, h⟩ := tb_b2s h
    refine tb_callV F hP hS hl.1 kX7_fails km_X7_92 (as := [.int 1]) (tX7_fails g l 1 M8 M44 r46 e45) tb_l297 ⟨rfl, rfl, Nat.le_of_ble_eq_true rfl, Nat.le_of_ble_eq_true rfl⟩ rfl (rest := []) rfl (st1 := [.int r46]) rfl (Nat.le_of_ble_eq_true rfl) ⟨Nat.zero_le _, Nat.zero_le _⟩ dX7_readsAll_44 (fun H locs hP hS => ?_)
    obtain ⟨k47, h⟩ := tb_cks h
    exact tb_zret h F (tb_bln k47) hP hS dX7_readsAll_47
set_option maxHeartbeats 4000000 in
set_option maxRecDepth 100000 in
theorem tX7_readsAll_L5 {g : tb_GT} {l : Launch} {P : Program} {e : Env} {s : State} {m : MethodId} {below : List Frame} {meth : Method} {c : Code} {M' : tb_Mem} {r : Int32} (F : tb_F g cX7_readsAll 3 RX7 (some .boolean) (Cond.code yX7_readsAll cX7_readsAll 3 (some .boolean)) P s m ([.ref (tb_ad g 297)] : List Value).toArray meth c) :
    ∀ (n : Nat) (M : tb_Mem) (H : Heap) (locs : List Loc) (ls : Array Slot), tb_P g M H → va_S (tb_A g) s.heap H locs → lv_has ls 3 [(0, .ref (tb_ad g 297))] → fX7_readsAll_L5 n M = some (r, M') → W P l e rmX7_readsAll s m ([.ref (tb_ad g 297)] : List Value).toArray below meth c H locs 0 0 (MQ below (tb_Q g M' (some (.int r))) ([.ref (tb_ad g 297)] : List Value).toArray s 0 0 (tb_A g)) (F0 m 5 ls []) := by
  have hx := F.1.1
  have hb := F.1.2.1
  intro n
  induction n with
  | zero =>
    intro M H locs ls hP hS hl h
    rw [fX7_readsAll_L5] at h
    exact tb_none h
  | succ n ih =>
    intro M H locs ls hP hS hl h
    rw [fX7_readsAll_L5] at h
    refine lv_aload_n hx hb dX7_readsAll_5 rfl (lv_at hl 0 rfl) ?_
    refine tb_geti F hP tb_l297 (ci := 7) rfl inlX7 17 (by decide) rfl kf_X7_83 dX7_readsAll_6 ?_
    refine lv_aload_n hx hb dX7_readsAll_9 rfl (lv_at hl 0 rfl) ?_
    refine tb_geti F hP tb_l297 (ci := 7) rfl inlX7 6 (by decide) rfl kf_X7_76 dX7_readsAll_10 ?_
    refine lv_icmp_lt (tgt := 26) hx hb dX7_readsAll_13 (by decide) (fun c3 => ?_) (fun c3 => ?_)
    · have h := tb_ip c3 h
      exact tX7_readsAll_J26 F (fun  M => fX7_readsAll_L5 n  M) ih M hP hS (lv_sub hl [0] rfl) h
    · have h := tb_ineg c3 h
      refine lv_aload_n hx hb dX7_readsAll_16 rfl (lv_at hl 0 rfl) ?_
      refine tb_getr F hP tb_l297 (ci := 7) rfl inlX7 9 (by decide) rfl kf_X7_28 dX7_readsAll_17 ?_
      refine lv_bipush (v := 46) hx hb dX7_readsAll_20 (by decide) ?_
      refine tb_iald F hP tb_l304 (k := 46) (by decide +kernel) (tb_inv (i := 46) (n := 63) (by decide +kernel)) dX7_readsAll_22 ?_
      refine lv_if_ne (tgt := 163) hx hb dX7_readsAll_23 (by decide) (fun c4 => ?_) (fun c4 => ?_)
      · have h := tb_ineg c4 h
        refine lv_iconst (v := 1) hx hb dX7_readsAll_163 (by decide) ?_
        exact tb_zret h F rfl hP hS dX7_readsAll_164
      · have h := tb_ip c4 h
        exact tX7_readsAll_J26 F (fun  M => fX7_readsAll_L5 n  M) ih M hP hS (lv_sub hl [0] rfl) h
set_option maxHeartbeats 4000000 in
set_option maxRecDepth 100000 in
theorem tX7_readsAll (g : tb_GT) (l : Launch) (M M' : tb_Mem) (r : Int32) (h : fX7_readsAll M = some (r, M')) : tb_C g l yX7_readsAll (Cond.code yX7_readsAll cX7_readsAll 3 (some .boolean)) rmX7_readsAll [.ref (tb_ad g 297)] M M' (some (.int r)) := by
  refine tb_entry (by decide) (Nat.le_of_ble_eq_true rfl) ?_
  intro P e s m below meth c F hP hS ls hl
  have F : tb_F g cX7_readsAll 3 RX7 (some .boolean) (Cond.code yX7_readsAll cX7_readsAll 3 (some .boolean)) P s m ([.ref (tb_ad g 297)] : List Value).toArray meth c := F
  have hx := F.1.1
  have hb := F.1.2.1
  have hl : lv_has ls 3 [(0, .ref (tb_ad g 297))] := hl
  unfold fX7_readsAll at h
  refine lv_aload_n hx hb dX7_readsAll_0 rfl (lv_at hl 0 rfl) ?_
  refine lv_iconst (v := 0) hx hb dX7_readsAll_1 (by decide) ?_
  obtain ⟨M1, e2, h⟩ := tb_lets h
  refine tb_puti F hP hS tb_l297 (ci := 7) rfl inlX7 tyX7 tyX7_ok nmX7 17 (by decide) rfl rfl rfl rfl kf_X7_83 dX7_readsAll_2 (fun H locs hP hS => ?_)
  rw [← e2] at hP
  exact tX7_readsAll_L5 F tb_N M1 _ _ _ hP hS (lv_sub hl [0] rfl) h
def fX7_basket_L53 : Nat → Int32 → tb_Mem → Option (Int32 × tb_Mem)
  | 0, _, _ => none
  | n + 1, x2, M => if 63 ≤ x2 then (tb_let (tb_up M 297 13 0) (fun M14 => some ((M14 303 46), M14))) else (tb_ck (tb_in x2 63) (tb_let (tb_up M 303 x2.toNatClampNeg (M 304 x2.toNatClampNeg)) (fun M17 => fX7_basket_L53 n (x2 + 1) M17)))
def fX7_basket_L2 : Nat → Int32 → tb_Mem → Option (Int32 × tb_Mem)
  | 0, _, _ => none
  | n + 1, x1, M => if 63 ≤ x1 then (tb_b2 (fX7_readsAll M) (fun r4 M2 => tb_let (tb_up M2 297 6 0) (fun M5 => if r4 = 0 then (tb_let (tb_up M5 297 7 (M5 297 18)) (fun M8 => some (((-1000100) - (M8 297 17)), M8))) else (fX7_basket_L53 tb_N 0 M5)))) else (tb_ck (tb_in x1 63) (tb_let (tb_up M 304 x1.toNatClampNeg 0) (fun M11 => fX7_basket_L2 n (x1 + 1) M11)))
def fX7_basket (M : tb_Mem) : Option (Int32 × tb_Mem) :=
  fX7_basket_L2 tb_N 0 M
abbrev rmX7_basket : Room := { frames := 4, cells := 0, slots := 0, locals := 87 }
set_option maxHeartbeats 4000000 in
set_option maxRecDepth 100000 in
theorem tX7_basket_L53 {g : tb_GT} {l : Launch} {P : Program} {e : Env} {s : State} {m : MethodId} {below : List Frame} {meth : Method} {c : Code} {M' : tb_Mem} {r : Int32} (F : tb_F g cX7_basket 3 RX7 (some .int) (Cond.code yX7_basket cX7_basket 3 (some .int)) P s m ([.ref (tb_ad g 297)] : List Value).toArray meth c) :
    ∀ (n : Nat) (x2 : Int32) (M : tb_Mem) (H : Heap) (locs : List Loc) (ls : Array Slot), tb_P g M H → va_S (tb_A g) s.heap H locs → lv_has ls 3 [(0, .ref (tb_ad g 297)), (2, .int x2)] → fX7_basket_L53 n x2 M = some (r, M') → W P l e rmX7_basket s m ([.ref (tb_ad g 297)] : List Value).toArray below meth c H locs 0 0 (MQ below (tb_Q g M' (some (.int r))) ([.ref (tb_ad g 297)] : List Value).toArray s 0 0 (tb_A g)) (F0 m 53 ls []) := by
  have hx := F.1.1
  have hb := F.1.2.1
  intro n
  induction n with
  | zero =>
    intro x2 M H locs ls hP hS hl h
    rw [fX7_basket_L53] at h
    exact tb_none h
  | succ n ih =>
    intro x2 M H locs ls hP hS hl h
    rw [fX7_basket_L53] at h
    refine lv_iload_n hx hb dX7_basket_53 rfl (lv_at hl 1 rfl) ?_
    refine lv_bipush (v := 63) hx hb dX7_basket_54 (by decide) ?_
    refine lv_icmp_ge (tgt := 77) hx hb dX7_basket_56 (by decide) (fun c13 => ?_) (fun c13 => ?_)
    · have h := tb_ip c13 h
      refine lv_aload_n hx hb dX7_basket_77 rfl (lv_at hl 0 rfl) ?_
      refine lv_iconst (v := 0) hx hb dX7_basket_78 (by decide) ?_
      obtain ⟨M14, e15, h⟩ := tb_lets h
      refine tb_puti F hP hS tb_l297 (ci := 7) rfl inlX7 tyX7 tyX7_ok nmX7 13 (by decide) rfl rfl rfl rfl kf_X7_109 dX7_basket_79 (fun H locs hP hS => ?_)
      rw [← e15] at hP
      refine lv_aload_n hx hb dX7_basket_82 rfl (lv_at hl 0 rfl) ?_
      refine tb_getr F hP tb_l297 (ci := 7) rfl inlX7 8 (by decide) rfl kf_X7_25 dX7_basket_83 ?_
      refine lv_bipush (v := 46) hx hb dX7_basket_86 (by decide) ?_
      refine tb_iald F hP tb_l303 (k := 46) (by decide +kernel) (tb_inv (i := 46) (n := 63) (by decide +kernel)) dX7_basket_88 ?_
      exact tb_iret h F hP hS dX7_basket_89
    · have h := tb_ineg c13 h
      refine lv_aload_n hx hb dX7_basket_59 rfl (lv_at hl 0 rfl) ?_
      refine tb_getr F hP tb_l297 (ci := 7) rfl inlX7 8 (by decide) rfl kf_X7_25 dX7_basket_60 ?_
      refine lv_iload_n hx hb dX7_basket_63 rfl (lv_at hl 1 rfl) ?_
      refine lv_aload_n hx hb dX7_basket_64 rfl (lv_at hl 0 rfl) ?_
      refine tb_getr F hP tb_l297 (ci := 7) rfl inlX7 9 (by decide) rfl kf_X7_28 dX7_basket_65 ?_
      refine lv_iload_n hx hb dX7_basket_68 rfl (lv_at hl 1 rfl) ?_
      obtain ⟨k16, h⟩ := tb_cks h
      refine tb_iald F hP tb_l304 rfl (tb_inv k16) dX7_basket_69 ?_
      obtain ⟨M17, e18, h⟩ := tb_lets h
      refine tb_iast F hP hS tb_l303 rfl (tb_inv k16) dX7_basket_70 (fun H locs hP hS => ?_)
      rw [← e18] at hP
      refine lv_iinc (v := (x2 + 1)) (lv' := [(2, .int (x2 + 1)), (0, .ref (tb_ad g 297))]) hx hb dX7_basket_71 hl (k := 1) rfl rfl (by decide) rfl (fun ls hl => ?_)
      refine lv_goto (tgt := 53) hx hb dX7_basket_74 (by decide) ?_
      exact ih (x2 + 1) M17 _ _ _ hP hS (lv_sub hl [1, 0] rfl) h
set_option maxHeartbeats 4000000 in
set_option maxRecDepth 100000 in
theorem tX7_basket_L2 {g : tb_GT} {l : Launch} {P : Program} {e : Env} {s : State} {m : MethodId} {below : List Frame} {meth : Method} {c : Code} {M' : tb_Mem} {r : Int32} (F : tb_F g cX7_basket 3 RX7 (some .int) (Cond.code yX7_basket cX7_basket 3 (some .int)) P s m ([.ref (tb_ad g 297)] : List Value).toArray meth c) :
    ∀ (n : Nat) (x1 : Int32) (M : tb_Mem) (H : Heap) (locs : List Loc) (ls : Array Slot), tb_P g M H → va_S (tb_A g) s.heap H locs → lv_has ls 3 [(0, .ref (tb_ad g 297)), (1, .int x1)] → fX7_basket_L2 n x1 M = some (r, M') → W P l e rmX7_basket s m ([.ref (tb_ad g 297)] : List Value).toArray below meth c H locs 0 0 (MQ below (tb_Q g M' (some (.int r))) ([.ref (tb_ad g 297)] : List Value).toArray s 0 0 (tb_A g)) (F0 m 2 ls []) := by
  have hx := F.1.1
  have hb := F.1.2.1
  intro n
  induction n with
  | zero =>
    intro x1 M H locs ls hP hS hl h
    rw [fX7_basket_L2] at h
    exact tb_none h
  | succ n ih =>
    intro x1 M H locs ls hP hS hl h
    rw [fX7_basket_L2] at h
    refine lv_iload_n hx hb dX7_basket_2 rfl (lv_at hl 1 rfl) ?_
    refine lv_bipush (v := 63) hx hb dX7_basket_3 (by decide) ?_
    refine lv_icmp_ge (tgt := 21) hx hb dX7_basket_5 (by decide) (fun c1 => ?_) (fun c1 => ?_)
    · have h := tb_ip c1 h
      refine lv_aload_n hx hb dX7_basket_21 rfl (lv_at hl 0 rfl) ?_
      obtain ⟨r4, M2, e3, h⟩ := tb_b2s h
      refine tb_callV F hP hS hl.1 kX7_readsAll km_X7_101 (as := []) (tX7_readsAll g l M M2 r4 e3) tb_l297 ⟨rfl, rfl, Nat.le_of_ble_eq_true rfl, Nat.le_of_ble_eq_true rfl⟩ rfl (rest := []) rfl (st1 := [.int r4]) rfl (Nat.le_of_ble_eq_true rfl) ⟨Nat.zero_le _, Nat.zero_le _⟩ dX7_basket_22 (fun H locs hP hS => ?_)
      refine lv_istore_n (lv' := [(1, .int r4), (0, .ref (tb_ad g 297))]) hx hb dX7_basket_25 rfl hl (by decide) rfl (fun ls hl => ?_)
      refine lv_aload_n hx hb dX7_basket_26 rfl (lv_at hl 1 rfl) ?_
      refine lv_iconst (v := 0) hx hb dX7_basket_27 (by decide) ?_
      obtain ⟨M5, e6, h⟩ := tb_lets h
      refine tb_puti F hP hS tb_l297 (ci := 7) rfl inlX7 tyX7 tyX7_ok nmX7 6 (by decide) rfl rfl rfl rfl kf_X7_76 dX7_basket_28 (fun H locs hP hS => ?_)
      rw [← e6] at hP
      refine lv_iload_n hx hb dX7_basket_31 rfl (lv_at hl 0 rfl) ?_
      refine lv_if_ne (tgt := 51) hx hb dX7_basket_32 (by decide) (fun c7 => ?_) (fun c7 => ?_)
      · have h := tb_ineg c7 h
        refine lv_iconst (v := 0) hx hb dX7_basket_51 (by decide) ?_
        refine lv_istore_n (lv' := [(2, .int 0), (1, .int r4), (0, .ref (tb_ad g 297))]) hx hb dX7_basket_52 rfl hl (by decide) rfl (fun ls hl => ?_)
        exact tX7_basket_L53 F tb_N 0 M5 _ _ _ hP hS (lv_sub hl [2, 0] rfl) h
      · have h := tb_ip c7 h
        refine lv_aload_n hx hb dX7_basket_35 rfl (lv_at hl 1 rfl) ?_
        refine lv_aload_n hx hb dX7_basket_36 rfl (lv_at hl 1 rfl) ?_
        refine tb_geti F hP tb_l297 (ci := 7) rfl inlX7 18 (by decide) rfl kf_X7_80 dX7_basket_37 ?_
        obtain ⟨M8, e9, h⟩ := tb_lets h
        refine tb_puti F hP hS tb_l297 (ci := 7) rfl inlX7 tyX7 tyX7_ok nmX7 7 (by decide) rfl rfl rfl rfl kf_X7_105 dX7_basket_40 (fun H locs hP hS => ?_)
        rw [← e9] at hP
        refine lv_ldc (v := (-1000100)) hx hb F.1.2.2.2.1 (tb_hts F kc_X7_108) dX7_basket_43 ?_
        refine lv_aload_n hx hb dX7_basket_45 rfl (lv_at hl 1 rfl) ?_
        refine tb_geti F hP tb_l297 (ci := 7) rfl inlX7 17 (by decide) rfl kf_X7_83 dX7_basket_46 ?_
        refine lv_isub hx hb dX7_basket_49 ?_
        exact tb_iret h F hP hS dX7_basket_50
    · have h := tb_ineg c1 h
      refine lv_aload_n hx hb dX7_basket_8 rfl (lv_at hl 0 rfl) ?_
      refine tb_getr F hP tb_l297 (ci := 7) rfl inlX7 9 (by decide) rfl kf_X7_28 dX7_basket_9 ?_
      refine lv_iload_n hx hb dX7_basket_12 rfl (lv_at hl 1 rfl) ?_
      refine lv_iconst (v := 0) hx hb dX7_basket_13 (by decide) ?_
      obtain ⟨k10, h⟩ := tb_cks h
      obtain ⟨M11, e12, h⟩ := tb_lets h
      refine tb_iast F hP hS tb_l304 rfl (tb_inv k10) dX7_basket_14 (fun H locs hP hS => ?_)
      rw [← e12] at hP
      refine lv_iinc (v := (x1 + 1)) (lv' := [(1, .int (x1 + 1)), (0, .ref (tb_ad g 297))]) hx hb dX7_basket_15 hl (k := 1) rfl rfl (by decide) rfl (fun ls hl => ?_)
      refine lv_goto (tgt := 2) hx hb dX7_basket_18 (by decide) ?_
      exact ih (x1 + 1) M11 _ _ _ hP hS (lv_sub hl [1, 0] rfl) h
set_option maxHeartbeats 4000000 in
set_option maxRecDepth 100000 in
theorem tX7_basket (g : tb_GT) (l : Launch) (M M' : tb_Mem) (r : Int32) (h : fX7_basket M = some (r, M')) : tb_C g l yX7_basket (Cond.code yX7_basket cX7_basket 3 (some .int)) rmX7_basket [.ref (tb_ad g 297)] M M' (some (.int r)) := by
  refine tb_entry (by decide) (Nat.le_of_ble_eq_true rfl) ?_
  intro P e s m below meth c F hP hS ls hl
  have F : tb_F g cX7_basket 3 RX7 (some .int) (Cond.code yX7_basket cX7_basket 3 (some .int)) P s m ([.ref (tb_ad g 297)] : List Value).toArray meth c := F
  have hx := F.1.1
  have hb := F.1.2.1
  have hl : lv_has ls 3 [(0, .ref (tb_ad g 297))] := hl
  unfold fX7_basket at h
  refine lv_iconst (v := 0) hx hb dX7_basket_0 (by decide) ?_
  refine lv_istore_n (lv' := [(1, .int 0), (0, .ref (tb_ad g 297))]) hx hb dX7_basket_1 rfl hl (by decide) rfl (fun ls hl => ?_)
  exact tX7_basket_L2 F tb_N 0 M _ _ _ hP hS (lv_sub hl [1, 0] rfl) h
def fX7_fault (M : tb_Mem) : Option (Int32 × tb_Mem) :=
  some ((M 297 7), M)
abbrev rmX7_fault : Room := { frames := 0, cells := 0, slots := 0, locals := 0 }
set_option maxHeartbeats 4000000 in
set_option maxRecDepth 100000 in
theorem tX7_fault (g : tb_GT) (l : Launch) (M M' : tb_Mem) (r : Int32) (h : fX7_fault M = some (r, M')) : tb_C g l yX7_fault (Cond.code yX7_fault cX7_fault 1 (some .int)) rmX7_fault [.ref (tb_ad g 297)] M M' (some (.int r)) := by
  refine tb_entry (by decide) (Nat.le_of_ble_eq_true rfl) ?_
  intro P e s m below meth c F hP hS ls hl
  have F : tb_F g cX7_fault 1 RX7 (some .int) (Cond.code yX7_fault cX7_fault 1 (some .int)) P s m ([.ref (tb_ad g 297)] : List Value).toArray meth c := F
  have hx := F.1.1
  have hb := F.1.2.1
  have hl : lv_has ls 1 [(0, .ref (tb_ad g 297))] := hl
  unfold fX7_fault at h
  refine lv_aload_n hx hb dX7_fault_0 rfl (lv_at hl 0 rfl) ?_
  refine tb_geti F hP tb_l297 (ci := 7) rfl inlX7 7 (by decide) rfl kf_X7_105 dX7_fault_1 ?_
  exact tb_iret h F hP hS dX7_fault_4
def fX7_isBasket (M : tb_Mem) : Option (Int32 × tb_Mem) :=
  some (((if (M 303 46) ≤ 0 then 0 else 1) : Int32), M)
abbrev rmX7_isBasket : Room := { frames := 0, cells := 0, slots := 0, locals := 0 }
set_option maxHeartbeats 4000000 in
set_option maxRecDepth 100000 in
theorem tX7_isBasket (g : tb_GT) (l : Launch) (M M' : tb_Mem) (r : Int32) (h : fX7_isBasket M = some (r, M')) : tb_C g l yX7_isBasket (Cond.code yX7_isBasket cX7_isBasket 1 (some .boolean)) rmX7_isBasket [.ref (tb_ad g 297)] M M' (some (.int r)) := by
  refine tb_entry (by decide) (Nat.le_of_ble_eq_true rfl) ?_
  intro P e s m below meth c F hP hS ls hl
  have F : tb_F g cX7_isBasket 1 RX7 (some .boolean) (Cond.code yX7_isBasket cX7_isBasket 1 (some .boolean)) P s m ([.ref (tb_ad g 297)] : List Value).toArray meth c := F
  have hx := F.1.1
  have hb := F.1.2.1
  have hl : lv_has ls 1 [(0, .ref (tb_ad g 297))] := hl
  unfold fX7_isBasket at h
  refine lv_aload_n hx hb dX7_isBasket_0 rfl (lv_at hl 0 rfl) ?_
  refine tb_getr F hP tb_l297 (ci := 7) rfl inlX7 8 (by decide) rfl kf_X7_25 dX7_isBasket_1 ?_
  refine lv_bipush (v := 46) hx hb dX7_isBasket_4 (by decide) ?_
  refine tb_iald F hP tb_l303 (k := 46) (by decide +kernel) (tb_inv (i := 46) (n := 63) (by decide +kernel)) dX7_isBasket_6 ?_
  refine tb_mrg (g2 := F0 m 15 ls [.int ((if (M 303 46) ≤ 0 then 0 else 1) : Int32)]) (fun hJ => ?_) ?_
  · refine lv_if_le (tgt := 14) hx hb dX7_isBasket_7 (by decide) (fun c1 => ?_) (fun c1 => ?_)
    · refine lv_iconst (v := 0) hx hb dX7_isBasket_14 (by decide) ?_
      rw [if_pos c1] at hJ
      exact hJ
    · refine lv_iconst (v := 1) hx hb dX7_isBasket_10 (by decide) ?_
      refine lv_goto (tgt := 15) hx hb dX7_isBasket_11 (by decide) ?_
      rw [if_neg c1] at hJ
      exact hJ
  exact tb_zret h F (tb_bln (by (repeat' split) <;> decide)) hP hS dX7_isBasket_15
def fX7_isBar (a1 : Int32) (M : tb_Mem) : Option (Int32 × tb_Mem) :=
  tb_b2 (fX7_in a1 0 ((M 303 46) - 1) M) (fun r3 M1 => tb_ck (tb_bl r3) (some (r3, M1)))
abbrev rmX7_isBar : Room := { frames := 1, cells := 0, slots := 0, locals := 22 }
set_option maxHeartbeats 4000000 in
set_option maxRecDepth 100000 in
theorem tX7_isBar (g : tb_GT) (l : Launch) (a1 : Int32) (M M' : tb_Mem) (r : Int32) (h : fX7_isBar a1 M = some (r, M')) : tb_C g l yX7_isBar (Cond.code yX7_isBar cX7_isBar 2 (some .boolean)) rmX7_isBar [.ref (tb_ad g 297), .int a1] M M' (some (.int r)) := by
  refine tb_entry (by decide) (Nat.le_of_ble_eq_true rfl) ?_
  intro P e s m below meth c F hP hS ls hl
  have F : tb_F g cX7_isBar 2 RX7 (some .boolean) (Cond.code yX7_isBar cX7_isBar 2 (some .boolean)) P s m ([.ref (tb_ad g 297), .int a1] : List Value).toArray meth c := F
  have hx := F.1.1
  have hb := F.1.2.1
  have hl : lv_has ls 2 [(0, .ref (tb_ad g 297)), (1, .int a1)] := hl
  unfold fX7_isBar at h
  refine lv_iload_n hx hb dX7_isBar_0 rfl (lv_at hl 1 rfl) ?_
  refine lv_iconst (v := 0) hx hb dX7_isBar_1 (by decide) ?_
  refine lv_aload_n hx hb dX7_isBar_2 rfl (lv_at hl 0 rfl) ?_
  refine tb_getr F hP tb_l297 (ci := 7) rfl inlX7 8 (by decide) rfl kf_X7_25 dX7_isBar_3 ?_
  refine lv_bipush (v := 46) hx hb dX7_isBar_6 (by decide) ?_
  refine tb_iald F hP tb_l303 (k := 46) (by decide +kernel) (tb_inv (i := 46) (n := 63) (by decide +kernel)) dX7_isBar_8 ?_
  refine lv_iconst (v := 1) hx hb dX7_isBar_9 (by decide) ?_
  refine lv_isub hx hb dX7_isBar_10 ?_
  obtain ⟨r3, M1, e2, h⟩ := tb_b2s h
  refine tb_callS F hP hS hl.1 kX7_in km_X7_47 (as := [.int a1, .int 0, .int ((M 303 46) - 1)]) (tX7_in g l a1 0 ((M 303 46) - 1) M M1 r3 e2) ⟨rfl, rfl, Nat.le_of_ble_eq_true rfl, Nat.le_of_ble_eq_true rfl⟩ rfl (rest := []) rfl (st1 := [.int r3]) rfl (Nat.le_of_ble_eq_true rfl) ⟨Nat.zero_le _, Nat.zero_le _⟩ dX7_isBar_11 (fun H locs hP hS => ?_)
  obtain ⟨k4, h⟩ := tb_cks h
  exact tb_zret h F (tb_bln k4) hP hS dX7_isBar_14
def fX7_keeps_L51 : Nat → Int32 → tb_Mem → Option (tb_Mem)
  | 0, _, _ => none
  | n + 1, x1, M => if 46 ≤ x1 then (tb_let (tb_up M 297 13 ((M 297 13) + 1)) (fun M10 => some M10)) else (tb_ck (tb_in x1 63) (tb_ck (tb_in ((46 * (M 297 13)) + x1) 1104) (tb_let (tb_up M 307 (((46 * (M 297 13)) + x1).toNatClampNeg) (M 303 x1.toNatClampNeg)) (fun M14 => fX7_keeps_L51 n (x1 + 1) M14))))
def fX7_keeps_L11 : Nat → Int32 → tb_Mem → Option (tb_Mem)
  | 0, _, _ => none
  | n + 1, x1, M => if 1058 ≤ x1 then (tb_let (tb_up M 297 13 ((M 297 13) - 1)) (fun M3 => fX7_keeps_L51 tb_N 0 M3)) else (tb_ck (tb_in (x1 + 46) 1104) (tb_ck (tb_in x1 1104) (tb_let (tb_up M 307 x1.toNatClampNeg (M 307 (x1 + 46).toNatClampNeg)) (fun M7 => fX7_keeps_L11 n (x1 + 1) M7))))
def fX7_keeps (M : tb_Mem) : Option (tb_Mem) :=
  if (M 297 13) = 24 then (fX7_keeps_L11 tb_N 0 M) else (fX7_keeps_L51 tb_N 0 M)
abbrev rmX7_keeps : Room := { frames := 0, cells := 0, slots := 0, locals := 0 }
set_option maxHeartbeats 4000000 in
set_option maxRecDepth 100000 in
theorem tX7_keeps_L51 {g : tb_GT} {l : Launch} {P : Program} {e : Env} {s : State} {m : MethodId} {below : List Frame} {meth : Method} {c : Code} {M' : tb_Mem} (F : tb_F g cX7_keeps 2 RX7 none (Cond.code yX7_keeps cX7_keeps 2 none) P s m ([.ref (tb_ad g 297)] : List Value).toArray meth c) :
    ∀ (n : Nat) (x1 : Int32) (M : tb_Mem) (H : Heap) (locs : List Loc) (ls : Array Slot), tb_P g M H → va_S (tb_A g) s.heap H locs → lv_has ls 2 [(0, .ref (tb_ad g 297)), (1, .int x1)] → fX7_keeps_L51 n x1 M = some M' → W P l e rmX7_keeps s m ([.ref (tb_ad g 297)] : List Value).toArray below meth c H locs 0 0 (MQ below (tb_Q g M' none) ([.ref (tb_ad g 297)] : List Value).toArray s 0 0 (tb_A g)) (F0 m 51 ls []) := by
  have hx := F.1.1
  have hb := F.1.2.1
  intro n
  induction n with
  | zero =>
    intro x1 M H locs ls hP hS hl h
    rw [fX7_keeps_L51] at h
    exact tb_none h
  | succ n ih =>
    intro x1 M H locs ls hP hS hl h
    rw [fX7_keeps_L51] at h
    refine lv_iload_n hx hb dX7_keeps_51 rfl (lv_at hl 1 rfl) ?_
    refine lv_bipush (v := 46) hx hb dX7_keeps_52 (by decide) ?_
    refine lv_icmp_ge (tgt := 83) hx hb dX7_keeps_54 (by decide) (fun c9 => ?_) (fun c9 => ?_)
    · have h := tb_ip c9 h
      refine lv_aload_n hx hb dX7_keeps_83 rfl (lv_at hl 0 rfl) ?_
      refine lv_dup hx hb dX7_keeps_84 rfl ?_
      refine tb_geti F hP tb_l297 (ci := 7) rfl inlX7 13 (by decide) rfl kf_X7_109 dX7_keeps_85 ?_
      refine lv_iconst (v := 1) hx hb dX7_keeps_88 (by decide) ?_
      refine lv_iadd hx hb dX7_keeps_89 ?_
      obtain ⟨M10, e11, h⟩ := tb_lets h
      refine tb_puti F hP hS tb_l297 (ci := 7) rfl inlX7 tyX7 tyX7_ok nmX7 13 (by decide) rfl rfl rfl rfl kf_X7_109 dX7_keeps_90 (fun H locs hP hS => ?_)
      rw [← e11] at hP
      exact tb_vret h F hP hS dX7_keeps_93
    · have h := tb_ineg c9 h
      refine lv_aload_n hx hb dX7_keeps_57 rfl (lv_at hl 0 rfl) ?_
      refine tb_getr F hP tb_l297 (ci := 7) rfl inlX7 12 (by decide) rfl kf_X7_38 dX7_keeps_58 ?_
      refine lv_bipush (v := 46) hx hb dX7_keeps_61 (by decide) ?_
      refine lv_aload_n hx hb dX7_keeps_63 rfl (lv_at hl 0 rfl) ?_
      refine tb_geti F hP tb_l297 (ci := 7) rfl inlX7 13 (by decide) rfl kf_X7_109 dX7_keeps_64 ?_
      refine lv_imul hx hb dX7_keeps_67 ?_
      refine lv_iload_n hx hb dX7_keeps_68 rfl (lv_at hl 1 rfl) ?_
      refine lv_iadd hx hb dX7_keeps_69 ?_
      refine lv_aload_n hx hb dX7_keeps_70 rfl (lv_at hl 0 rfl) ?_
      refine tb_getr F hP tb_l297 (ci := 7) rfl inlX7 8 (by decide) rfl kf_X7_25 dX7_keeps_71 ?_
      refine lv_iload_n hx hb dX7_keeps_74 rfl (lv_at hl 1 rfl) ?_
      obtain ⟨k12, h⟩ := tb_cks h
      refine tb_iald F hP tb_l303 rfl (tb_inv k12) dX7_keeps_75 ?_
      obtain ⟨k13, h⟩ := tb_cks h
      obtain ⟨M14, e15, h⟩ := tb_lets h
      refine tb_iast F hP hS tb_l307 rfl (tb_inv k13) dX7_keeps_76 (fun H locs hP hS => ?_)
      rw [← e15] at hP
      refine lv_iinc (v := (x1 + 1)) (lv' := [(1, .int (x1 + 1)), (0, .ref (tb_ad g 297))]) hx hb dX7_keeps_77 hl (k := 1) rfl rfl (by decide) rfl (fun ls hl => ?_)
      refine lv_goto (tgt := 51) hx hb dX7_keeps_80 (by decide) ?_
      exact ih (x1 + 1) M14 _ _ _ hP hS (lv_sub hl [1, 0] rfl) h
set_option maxHeartbeats 4000000 in
set_option maxRecDepth 100000 in
theorem tX7_keeps_L11 {g : tb_GT} {l : Launch} {P : Program} {e : Env} {s : State} {m : MethodId} {below : List Frame} {meth : Method} {c : Code} {M' : tb_Mem} (F : tb_F g cX7_keeps 2 RX7 none (Cond.code yX7_keeps cX7_keeps 2 none) P s m ([.ref (tb_ad g 297)] : List Value).toArray meth c) :
    ∀ (n : Nat) (x1 : Int32) (M : tb_Mem) (H : Heap) (locs : List Loc) (ls : Array Slot), tb_P g M H → va_S (tb_A g) s.heap H locs → lv_has ls 2 [(0, .ref (tb_ad g 297)), (1, .int x1)] → fX7_keeps_L11 n x1 M = some M' → W P l e rmX7_keeps s m ([.ref (tb_ad g 297)] : List Value).toArray below meth c H locs 0 0 (MQ below (tb_Q g M' none) ([.ref (tb_ad g 297)] : List Value).toArray s 0 0 (tb_A g)) (F0 m 11 ls []) := by
  have hx := F.1.1
  have hb := F.1.2.1
  intro n
  induction n with
  | zero =>
    intro x1 M H locs ls hP hS hl h
    rw [fX7_keeps_L11] at h
    exact tb_none h
  | succ n ih =>
    intro x1 M H locs ls hP hS hl h
    rw [fX7_keeps_L11] at h
    refine lv_iload_n hx hb dX7_keeps_11 rfl (lv_at hl 1 rfl) ?_
    refine lv_sipush (v := 1058) hx hb dX7_keeps_12 (by decide) ?_
    refine lv_icmp_ge (tgt := 39) hx hb dX7_keeps_15 (by decide) (fun c2 => ?_) (fun c2 => ?_)
    · have h := tb_ip c2 h
      refine lv_aload_n hx hb dX7_keeps_39 rfl (lv_at hl 0 rfl) ?_
      refine lv_dup hx hb dX7_keeps_40 rfl ?_
      refine tb_geti F hP tb_l297 (ci := 7) rfl inlX7 13 (by decide) rfl kf_X7_109 dX7_keeps_41 ?_
      refine lv_iconst (v := 1) hx hb dX7_keeps_44 (by decide) ?_
      refine lv_isub hx hb dX7_keeps_45 ?_
      obtain ⟨M3, e4, h⟩ := tb_lets h
      refine tb_puti F hP hS tb_l297 (ci := 7) rfl inlX7 tyX7 tyX7_ok nmX7 13 (by decide) rfl rfl rfl rfl kf_X7_109 dX7_keeps_46 (fun H locs hP hS => ?_)
      rw [← e4] at hP
      refine lv_iconst (v := 0) hx hb dX7_keeps_49 (by decide) ?_
      refine lv_istore_n (lv' := [(1, .int 0), (0, .ref (tb_ad g 297))]) hx hb dX7_keeps_50 rfl hl (by decide) rfl (fun ls hl => ?_)
      exact tX7_keeps_L51 F tb_N 0 M3 _ _ _ hP hS (lv_sub hl [1, 0] rfl) h
    · have h := tb_ineg c2 h
      refine lv_aload_n hx hb dX7_keeps_18 rfl (lv_at hl 0 rfl) ?_
      refine tb_getr F hP tb_l297 (ci := 7) rfl inlX7 12 (by decide) rfl kf_X7_38 dX7_keeps_19 ?_
      refine lv_iload_n hx hb dX7_keeps_22 rfl (lv_at hl 1 rfl) ?_
      refine lv_aload_n hx hb dX7_keeps_23 rfl (lv_at hl 0 rfl) ?_
      refine tb_getr F hP tb_l297 (ci := 7) rfl inlX7 12 (by decide) rfl kf_X7_38 dX7_keeps_24 ?_
      refine lv_iload_n hx hb dX7_keeps_27 rfl (lv_at hl 1 rfl) ?_
      refine lv_bipush (v := 46) hx hb dX7_keeps_28 (by decide) ?_
      refine lv_iadd hx hb dX7_keeps_30 ?_
      obtain ⟨k5, h⟩ := tb_cks h
      refine tb_iald F hP tb_l307 rfl (tb_inv k5) dX7_keeps_31 ?_
      obtain ⟨k6, h⟩ := tb_cks h
      obtain ⟨M7, e8, h⟩ := tb_lets h
      refine tb_iast F hP hS tb_l307 rfl (tb_inv k6) dX7_keeps_32 (fun H locs hP hS => ?_)
      rw [← e8] at hP
      refine lv_iinc (v := (x1 + 1)) (lv' := [(1, .int (x1 + 1)), (0, .ref (tb_ad g 297))]) hx hb dX7_keeps_33 hl (k := 1) rfl rfl (by decide) rfl (fun ls hl => ?_)
      refine lv_goto (tgt := 11) hx hb dX7_keeps_36 (by decide) ?_
      exact ih (x1 + 1) M7 _ _ _ hP hS (lv_sub hl [1, 0] rfl) h
set_option maxHeartbeats 4000000 in
set_option maxRecDepth 100000 in
theorem tX7_keeps (g : tb_GT) (l : Launch) (M M' : tb_Mem) (h : fX7_keeps M = some M') : tb_C g l yX7_keeps (Cond.code yX7_keeps cX7_keeps 2 none) rmX7_keeps [.ref (tb_ad g 297)] M M' none := by
  refine tb_entry (by decide) (Nat.le_of_ble_eq_true rfl) ?_
  intro P e s m below meth c F hP hS ls hl
  have F : tb_F g cX7_keeps 2 RX7 none (Cond.code yX7_keeps cX7_keeps 2 none) P s m ([.ref (tb_ad g 297)] : List Value).toArray meth c := F
  have hx := F.1.1
  have hb := F.1.2.1
  have hl : lv_has ls 2 [(0, .ref (tb_ad g 297))] := hl
  unfold fX7_keeps at h
  refine lv_aload_n hx hb dX7_keeps_0 rfl (lv_at hl 0 rfl) ?_
  refine tb_geti F hP tb_l297 (ci := 7) rfl inlX7 13 (by decide) rfl kf_X7_109 dX7_keeps_1 ?_
  refine lv_bipush (v := 24) hx hb dX7_keeps_4 (by decide) ?_
  refine lv_icmp_ne (tgt := 49) hx hb dX7_keeps_6 (by decide) (fun c1 => ?_) (fun c1 => ?_)
  · have h := tb_ineg c1 h
    refine lv_iconst (v := 0) hx hb dX7_keeps_49 (by decide) ?_
    refine lv_istore_n (lv' := [(1, .int 0), (0, .ref (tb_ad g 297))]) hx hb dX7_keeps_50 rfl hl (by decide) rfl (fun ls hl => ?_)
    exact tX7_keeps_L51 F tb_N 0 M _ _ _ hP hS (lv_sub hl [1, 0] rfl) h
  · have h := tb_ip c1 h
    refine lv_iconst (v := 0) hx hb dX7_keeps_9 (by decide) ?_
    refine lv_istore_n (lv' := [(1, .int 0), (0, .ref (tb_ad g 297))]) hx hb dX7_keeps_10 rfl hl (by decide) rfl (fun ls hl => ?_)
    exact tX7_keeps_L11 F tb_N 0 M _ _ _ hP hS (lv_sub hl [1, 0] rfl) h
def fX7_top (q0 : Nat) (a1 : Int32) (M : tb_Mem) : Option (Int32 × tb_Mem) :=
  tb_ck (tb_in (47 + a1) 63) (tb_ck (tb_in (55 + a1) 63) (some (((M q0 (47 + a1).toNatClampNeg) + ((if (M q0 (55 + a1).toNatClampNeg) = 2 then 1 else 0) : Int32)), M)))
abbrev rmX7_top : Room := { frames := 0, cells := 0, slots := 0, locals := 0 }
set_option maxHeartbeats 4000000 in
set_option maxRecDepth 100000 in
theorem tX7_top (g : tb_GT) (l : Launch) (q0 : Nat) (hq0 : tb_lay q0 = tb_ar 63) (a1 : Int32) (M M' : tb_Mem) (r : Int32) (h : fX7_top q0 a1 M = some (r, M')) : tb_C g l yX7_top (Cond.code yX7_top cX7_top 2 (some .int)) rmX7_top [.ref (tb_ad g q0), .int a1] M M' (some (.int r)) := by
  refine tb_entry (by decide) (Nat.le_of_ble_eq_true rfl) ?_
  intro P e s m below meth c F hP hS ls hl
  have F : tb_F g cX7_top 2 RX7 (some .int) (Cond.code yX7_top cX7_top 2 (some .int)) P s m ([.ref (tb_ad g q0), .int a1] : List Value).toArray meth c := F
  have hx := F.1.1
  have hb := F.1.2.1
  have hl : lv_has ls 2 [(0, .ref (tb_ad g q0)), (1, .int a1)] := hl
  unfold fX7_top at h
  refine lv_aload_n hx hb dX7_top_0 rfl (lv_at hl 0 rfl) ?_
  refine lv_bipush (v := 47) hx hb dX7_top_1 (by decide) ?_
  refine lv_iload_n hx hb dX7_top_3 rfl (lv_at hl 1 rfl) ?_
  refine lv_iadd hx hb dX7_top_4 ?_
  obtain ⟨k1, h⟩ := tb_cks h
  refine tb_iald F hP hq0 rfl (tb_inv k1) dX7_top_5 ?_
  refine lv_aload_n hx hb dX7_top_6 rfl (lv_at hl 0 rfl) ?_
  refine lv_bipush (v := 55) hx hb dX7_top_7 (by decide) ?_
  refine lv_iload_n hx hb dX7_top_9 rfl (lv_at hl 1 rfl) ?_
  refine lv_iadd hx hb dX7_top_10 ?_
  obtain ⟨k2, h⟩ := tb_cks h
  refine tb_iald F hP hq0 rfl (tb_inv k2) dX7_top_11 ?_
  refine lv_iconst (v := 2) hx hb dX7_top_12 (by decide) ?_
  refine tb_mrg (g2 := F0 m 21 ls [.int ((if (M q0 (55 + a1).toNatClampNeg) = 2 then 1 else 0) : Int32), .int (M q0 (47 + a1).toNatClampNeg)]) (fun hJ => ?_) ?_
  · refine lv_icmp_ne (tgt := 20) hx hb dX7_top_13 (by decide) (fun c3 => ?_) (fun c3 => ?_)
    · refine lv_iconst (v := 0) hx hb dX7_top_20 (by decide) ?_
      rw [if_neg c3] at hJ
      exact hJ
    · refine lv_iconst (v := 1) hx hb dX7_top_16 (by decide) ?_
      refine lv_goto (tgt := 21) hx hb dX7_top_17 (by decide) ?_
      rw [if_pos c3] at hJ
      exact hJ
  refine lv_iadd hx hb dX7_top_21 ?_
  exact tb_iret h F hP hS dX7_top_22
def fX7_high (q0 : Nat) (a1 : Int32) (M : tb_Mem) : Option (Int32 × tb_Mem) :=
  tb_ck (tb_in (2 + a1) 63) (tb_let ((M q0 (2 + a1).toNatClampNeg) : Int32) (fun v2 => tb_ck (tb_in (10 + a1) 63) (if 0 < (M q0 (10 + a1).toNatClampNeg) then (some ((M q0 (10 + a1).toNatClampNeg), M)) else (if 0 ≤ v2 then (tb_b2 (fX7_top q0 a1 M) (fun r9 M7 => tb_ck (tb_in (55 + a1) 63) (tb_let (((if (M7 q0 (55 + a1).toNatClampNeg) = 3 then 2 else 1) : Int32) : Int32) (fun v12 => some (((if r9 < v2 then (r9 - (v12 * (v2 - r9))) else v2) : Int32), M7))))) else (some ((M q0 (10 + a1).toNatClampNeg), M))))))
abbrev rmX7_high : Room := { frames := 1, cells := 0, slots := 0, locals := 21 }
set_option maxHeartbeats 4000000 in
set_option maxRecDepth 100000 in
theorem tX7_high (g : tb_GT) (l : Launch) (q0 : Nat) (hq0 : tb_lay q0 = tb_ar 63) (a1 : Int32) (M M' : tb_Mem) (r : Int32) (h : fX7_high q0 a1 M = some (r, M')) : tb_C g l yX7_high (Cond.code yX7_high cX7_high 5 (some .int)) rmX7_high [.ref (tb_ad g q0), .int a1] M M' (some (.int r)) := by
  refine tb_entry (by decide) (Nat.le_of_ble_eq_true rfl) ?_
  intro P e s m below meth c F hP hS ls hl
  have F : tb_F g cX7_high 5 RX7 (some .int) (Cond.code yX7_high cX7_high 5 (some .int)) P s m ([.ref (tb_ad g q0), .int a1] : List Value).toArray meth c := F
  have hx := F.1.1
  have hb := F.1.2.1
  have hl : lv_has ls 5 [(0, .ref (tb_ad g q0)), (1, .int a1)] := hl
  unfold fX7_high at h
  refine lv_aload_n hx hb dX7_high_0 rfl (lv_at hl 0 rfl) ?_
  refine lv_iconst (v := 2) hx hb dX7_high_1 (by decide) ?_
  refine lv_iload_n hx hb dX7_high_2 rfl (lv_at hl 1 rfl) ?_
  refine lv_iadd hx hb dX7_high_3 ?_
  obtain ⟨k1, h⟩ := tb_cks h
  refine tb_iald F hP hq0 rfl (tb_inv k1) dX7_high_4 ?_
  obtain ⟨v2, e3, h⟩ := tb_lets h
  refine tb_nmi e3 ?_
  refine lv_istore_n (lv' := [(2, .int v2), (0, .ref (tb_ad g q0)), (1, .int a1)]) hx hb dX7_high_5 rfl hl (by decide) rfl (fun ls hl => ?_)
  refine lv_aload_n hx hb dX7_high_6 rfl (lv_at hl 1 rfl) ?_
  refine lv_bipush (v := 10) hx hb dX7_high_7 (by decide) ?_
  refine lv_iload_n hx hb dX7_high_9 rfl (lv_at hl 2 rfl) ?_
  refine lv_iadd hx hb dX7_high_10 ?_
  obtain ⟨k4, h⟩ := tb_cks h
  refine tb_iald F hP hq0 rfl (tb_inv k4) dX7_high_11 ?_
  refine lv_if_gt (tgt := 19) hx hb dX7_high_12 (by decide) (fun c5 => ?_) (fun c5 => ?_)
  · have h := tb_ip c5 h
    refine lv_aload_n hx hb dX7_high_19 rfl (lv_at hl 1 rfl) ?_
    refine lv_bipush (v := 10) hx hb dX7_high_20 (by decide) ?_
    refine lv_iload_n hx hb dX7_high_22 rfl (lv_at hl 2 rfl) ?_
    refine lv_iadd hx hb dX7_high_23 ?_
    refine tb_iald F hP hq0 rfl (tb_inv k4) dX7_high_24 ?_
    exact tb_iret h F hP hS dX7_high_25
  · have h := tb_ineg c5 h
    refine lv_iload_n hx hb dX7_high_15 rfl (lv_at hl 0 rfl) ?_
    refine lv_if_ge (tgt := 26) hx hb dX7_high_16 (by decide) (fun c6 => ?_) (fun c6 => ?_)
    · have h := tb_ip c6 h
      refine lv_aload_n hx hb dX7_high_26 rfl (lv_at hl 1 rfl) ?_
      refine lv_iload_n hx hb dX7_high_27 rfl (lv_at hl 2 rfl) ?_
      obtain ⟨r9, M7, e8, h⟩ := tb_b2s h
      refine tb_callS F hP hS hl.1 kX7_top km_X7_112 (as := [.ref (tb_ad g q0), .int a1]) (tX7_top g l q0 hq0 a1 M M7 r9 e8) ⟨rfl, rfl, Nat.le_of_ble_eq_true rfl, Nat.le_of_ble_eq_true rfl⟩ rfl (rest := []) rfl (st1 := [.int r9]) rfl (Nat.le_of_ble_eq_true rfl) ⟨Nat.zero_le _, Nat.zero_le _⟩ dX7_high_28 (fun H locs hP hS => ?_)
      refine lv_istore_n (lv' := [(3, .int r9), (2, .int v2), (0, .ref (tb_ad g q0)), (1, .int a1)]) hx hb dX7_high_31 rfl hl (by decide) rfl (fun ls hl => ?_)
      refine lv_aload_n hx hb dX7_high_32 rfl (lv_at hl 2 rfl) ?_
      refine lv_bipush (v := 55) hx hb dX7_high_33 (by decide) ?_
      refine lv_iload_n hx hb dX7_high_35 rfl (lv_at hl 3 rfl) ?_
      refine lv_iadd hx hb dX7_high_36 ?_
      obtain ⟨k10, h⟩ := tb_cks h
      refine tb_iald F hP hq0 rfl (tb_inv k10) dX7_high_37 ?_
      refine lv_iconst (v := 3) hx hb dX7_high_38 (by decide) ?_
      refine tb_mrg (g2 := F0 m 47 ls [.int ((if (M7 q0 (55 + a1).toNatClampNeg) = 3 then 2 else 1) : Int32)]) (fun hJ => ?_) ?_
      · refine lv_icmp_ne (tgt := 46) hx hb dX7_high_39 (by decide) (fun c11 => ?_) (fun c11 => ?_)
        · refine lv_iconst (v := 1) hx hb dX7_high_46 (by decide) ?_
          rw [if_neg c11] at hJ
          exact hJ
        · refine lv_iconst (v := 2) hx hb dX7_high_42 (by decide) ?_
          refine lv_goto (tgt := 47) hx hb dX7_high_43 (by decide) ?_
          rw [if_pos c11] at hJ
          exact hJ
      obtain ⟨v12, e13, h⟩ := tb_lets h
      refine tb_nmi e13 ?_
      refine lv_istore (lv' := [(4, .int v12), (3, .int r9), (2, .int v2), (0, .ref (tb_ad g q0)), (1, .int a1)]) hx hb dX7_high_47 hl (by decide) rfl (fun ls hl => ?_)
      refine lv_iload_n hx hb dX7_high_49 rfl (lv_at hl 2 rfl) ?_
      refine lv_iload_n hx hb dX7_high_50 rfl (lv_at hl 1 rfl) ?_
      refine tb_mrg (g2 := F0 m 66 ls [.int ((if r9 < v2 then (r9 - (v12 * (v2 - r9))) else v2) : Int32)]) (fun hJ => ?_) ?_
      · refine lv_icmp_gt (tgt := 58) hx hb dX7_high_51 (by decide) (fun c14 => ?_) (fun c14 => ?_)
        · refine lv_iload_n hx hb dX7_high_58 rfl (lv_at hl 1 rfl) ?_
          refine lv_iload hx hb dX7_high_59 (lv_at hl 0 rfl) ?_
          refine lv_iload_n hx hb dX7_high_61 rfl (lv_at hl 2 rfl) ?_
          refine lv_iload_n hx hb dX7_high_62 rfl (lv_at hl 1 rfl) ?_
          refine lv_isub hx hb dX7_high_63 ?_
          refine lv_imul hx hb dX7_high_64 ?_
          refine lv_isub hx hb dX7_high_65 ?_
          rw [if_pos c14] at hJ
          exact hJ
        · refine lv_iload_n hx hb dX7_high_54 rfl (lv_at hl 2 rfl) ?_
          refine lv_goto (tgt := 66) hx hb dX7_high_55 (by decide) ?_
          rw [if_neg c14] at hJ
          exact hJ
      exact tb_iret h F hP hS dX7_high_66
    · have h := tb_ineg c6 h
      refine lv_aload_n hx hb dX7_high_19 rfl (lv_at hl 1 rfl) ?_
      refine lv_bipush (v := 10) hx hb dX7_high_20 (by decide) ?_
      refine lv_iload_n hx hb dX7_high_22 rfl (lv_at hl 2 rfl) ?_
      refine lv_iadd hx hb dX7_high_23 ?_
      refine tb_iald F hP hq0 rfl (tb_inv k4) dX7_high_24 ?_
      exact tb_iret h F hP hS dX7_high_25
def fX7_meets_J52 (q0 : Nat) (x1 : Int32) (x2 : Int32) (x3 : Int32) (x4 : Int32) (x5 : Int32) (y0 : Int32) (M : tb_Mem) : Option (Int32 × tb_Mem) :=
  if x3 ≤ 0 then (some (0, M)) else (if x4 ≤ 0 then (some (0, M)) else (tb_ck (tb_in (2 + x1) 63) (if 0 ≤ (M q0 (2 + x1).toNatClampNeg) then (some (((if y0 = 0 then (if x3 = x4 then (if x5 = 1 then 1 else (if x5 = (-1) then 1 else 0)) else 0) else 1) : Int32), M)) else (tb_ck (tb_in (2 + x2) 63) (some (((if (M q0 (2 + x2).toNatClampNeg) < 0 then 0 else (if y0 = 0 then (if x3 = x4 then (if x5 = 1 then 1 else (if x5 = (-1) then 1 else 0)) else 0) else 1)) : Int32), M))))))
def fX7_meets_J51 (q0 : Nat) (x1 : Int32) (x2 : Int32) (x3 : Int32) (x4 : Int32) (x5 : Int32) (M : tb_Mem) : Option (Int32 × tb_Mem) :=
  fX7_meets_J52 q0 x1 x2 x3 x4 x5 0 M
def fX7_meets (q0 : Nat) (a1 : Int32) (a2 : Int32) (M : tb_Mem) : Option (Int32 × tb_Mem) :=
  tb_b2 (fX7_high q0 a1 M) (fun r3 M1 => tb_b2 (fX7_high q0 a2 M1) (fun r6 M4 => tb_ck (tb_in (18 + a1) 63) (tb_ck (tb_in (18 + a2) 63) (tb_let (((M4 q0 (18 + a1).toNatClampNeg) - (M4 q0 (18 + a2).toNatClampNeg)) : Int32) (fun v9 => tb_b2 (fX7_top q0 a1 M4) (fun r13 M11 => if r3 = r13 then (tb_b2 (fX7_top q0 a2 M11) (fun r17 M15 => tb_let (((if r6 = r17 then 1 else 0) : Int32) : Int32) (fun v19 => if r3 ≤ 0 then (some (0, M15)) else (if r6 ≤ 0 then (some (0, M15)) else (tb_ck (tb_in (2 + a1) 63) (if 0 ≤ (M15 q0 (2 + a1).toNatClampNeg) then (some (((if v19 = 0 then (if r3 = r6 then (if v9 = 1 then 1 else (if v9 = (-1) then 1 else 0)) else 0) else 1) : Int32), M15)) else (tb_ck (tb_in (2 + a2) 63) (some (((if (M15 q0 (2 + a2).toNatClampNeg) < 0 then 0 else (if v19 = 0 then (if r3 = r6 then (if v9 = 1 then 1 else (if v9 = (-1) then 1 else 0)) else 0) else 1)) : Int32), M15))))))))) else (fX7_meets_J51 q0 a1 a2 r3 r6 v9 M11)))))))
abbrev rmX7_meets : Room := { frames := 2, cells := 0, slots := 0, locals := 45 }
set_option maxHeartbeats 4000000 in
set_option maxRecDepth 100000 in
theorem tX7_meets_J52 {g : tb_GT} {l : Launch} {P : Program} {e : Env} {s : State} {m : MethodId} {below : List Frame} {meth : Method} {c : Code} (q0 : Nat) (hq0 : tb_lay q0 = tb_ar 63) {a1 : Int32} {a2 : Int32} {M' : tb_Mem} {r : Int32} (F : tb_F g cX7_meets 7 RX7 (some .boolean) (Cond.code yX7_meets cX7_meets 7 (some .boolean)) P s m ([.ref (tb_ad g q0), .int a1, .int a2] : List Value).toArray meth c) (x1 : Int32) (x2 : Int32) (x3 : Int32) (x4 : Int32) (x5 : Int32) (y0 : Int32) (M : tb_Mem) {H : Heap} {locs : List Loc} {ls : Array Slot} (hP : tb_P g M H) (hS : va_S (tb_A g) s.heap H locs) (hl : lv_has ls 7 [(0, .ref (tb_ad g q0)), (1, .int x1), (2, .int x2), (3, .int x3), (4, .int x4), (5, .int x5)]) (h : fX7_meets_J52 q0 x1 x2 x3 x4 x5 y0 M = some (r, M')) : W P l e rmX7_meets s m ([.ref (tb_ad g q0), .int a1, .int a2] : List Value).toArray below meth c H locs 0 0 (MQ below (tb_Q g M' (some (.int r))) ([.ref (tb_ad g q0), .int a1, .int a2] : List Value).toArray s 0 0 (tb_A g)) (F0 m 52 ls [.int y0]) := by
  have hx := F.1.1
  have hb := F.1.2.1
  unfold fX7_meets_J52 at h
  refine lv_istore (lv' := [(6, .int y0), (0, .ref (tb_ad g q0)), (1, .int x1), (2, .int x2), (3, .int x3), (4, .int x4), (5, .int x5)]) hx hb dX7_meets_52 hl (by decide) rfl (fun ls hl => ?_)
  refine lv_iload_n hx hb dX7_meets_54 rfl (lv_at hl 4 rfl) ?_
  refine lv_if_le (tgt := 106) hx hb dX7_meets_55 (by decide) (fun c35 => ?_) (fun c35 => ?_)
  · have h := tb_ip c35 h
    refine lv_iconst (v := 0) hx hb dX7_meets_106 (by decide) ?_
    exact tb_zret h F rfl hP hS dX7_meets_107
  · have h := tb_ineg c35 h
    refine lv_iload hx hb dX7_meets_58 (lv_at hl 5 rfl) ?_
    refine lv_if_le (tgt := 106) hx hb dX7_meets_60 (by decide) (fun c36 => ?_) (fun c36 => ?_)
    · have h := tb_ip c36 h
      refine lv_iconst (v := 0) hx hb dX7_meets_106 (by decide) ?_
      exact tb_zret h F rfl hP hS dX7_meets_107
    · have h := tb_ineg c36 h
      refine lv_aload_n hx hb dX7_meets_63 rfl (lv_at hl 1 rfl) ?_
      refine lv_iconst (v := 2) hx hb dX7_meets_64 (by decide) ?_
      refine lv_iload_n hx hb dX7_meets_65 rfl (lv_at hl 2 rfl) ?_
      refine lv_iadd hx hb dX7_meets_66 ?_
      obtain ⟨k37, h⟩ := tb_cks h
      refine tb_iald F hP hq0 rfl (tb_inv k37) dX7_meets_67 ?_
      refine lv_if_ge (tgt := 79) hx hb dX7_meets_68 (by decide) (fun c38 => ?_) (fun c38 => ?_)
      · have h := tb_ip c38 h
        refine lv_iload hx hb dX7_meets_79 (lv_at hl 0 rfl) ?_
        refine tb_mrg (g2 := F0 m 107 ls [.int ((if y0 = 0 then (if x3 = x4 then (if x5 = 1 then 1 else (if x5 = (-1) then 1 else 0)) else 0) else 1) : Int32)]) (fun hJ => ?_) ?_
        · refine lv_if_ne (tgt := 102) hx hb dX7_meets_81 (by decide) (fun c39 => ?_) (fun c39 => ?_)
          · refine lv_iconst (v := 1) hx hb dX7_meets_102 (by decide) ?_
            refine lv_goto (tgt := 107) hx hb dX7_meets_103 (by decide) ?_
            rw [if_neg c39] at hJ
            exact hJ
          · refine lv_iload_n hx hb dX7_meets_84 rfl (lv_at hl 4 rfl) ?_
            refine lv_iload hx hb dX7_meets_85 (lv_at hl 5 rfl) ?_
            refine lv_icmp_ne (tgt := 106) hx hb dX7_meets_87 (by decide) (fun c40 => ?_) (fun c40 => ?_)
            · refine lv_iconst (v := 0) hx hb dX7_meets_106 (by decide) ?_
              rw [if_pos c39, if_neg c40] at hJ
              exact hJ
            · refine lv_iload hx hb dX7_meets_90 (lv_at hl 6 rfl) ?_
              refine lv_iconst (v := 1) hx hb dX7_meets_92 (by decide) ?_
              refine lv_icmp_eq (tgt := 102) hx hb dX7_meets_93 (by decide) (fun c41 => ?_) (fun c41 => ?_)
              · refine lv_iconst (v := 1) hx hb dX7_meets_102 (by decide) ?_
                refine lv_goto (tgt := 107) hx hb dX7_meets_103 (by decide) ?_
                rw [if_pos c39, if_pos c40, if_pos c41] at hJ
                exact hJ
              · refine lv_iload hx hb dX7_meets_96 (lv_at hl 6 rfl) ?_
                refine lv_iconst (v := (-1)) hx hb dX7_meets_98 (by decide) ?_
                refine lv_icmp_ne (tgt := 106) hx hb dX7_meets_99 (by decide) (fun c42 => ?_) (fun c42 => ?_)
                · refine lv_iconst (v := 0) hx hb dX7_meets_106 (by decide) ?_
                  rw [if_pos c39, if_pos c40, if_neg c41, if_neg c42] at hJ
                  exact hJ
                · refine lv_iconst (v := 1) hx hb dX7_meets_102 (by decide) ?_
                  refine lv_goto (tgt := 107) hx hb dX7_meets_103 (by decide) ?_
                  rw [if_pos c39, if_pos c40, if_neg c41, if_pos c42] at hJ
                  exact hJ
        exact tb_zret h F (tb_bln (by (repeat' split) <;> decide)) hP hS dX7_meets_107
      · have h := tb_ineg c38 h
        refine lv_aload_n hx hb dX7_meets_71 rfl (lv_at hl 1 rfl) ?_
        refine lv_iconst (v := 2) hx hb dX7_meets_72 (by decide) ?_
        refine lv_iload_n hx hb dX7_meets_73 rfl (lv_at hl 3 rfl) ?_
        refine lv_iadd hx hb dX7_meets_74 ?_
        obtain ⟨k43, h⟩ := tb_cks h
        refine tb_iald F hP hq0 rfl (tb_inv k43) dX7_meets_75 ?_
        refine tb_mrg (g2 := F0 m 107 ls [.int ((if (M q0 (2 + x2).toNatClampNeg) < 0 then 0 else (if y0 = 0 then (if x3 = x4 then (if x5 = 1 then 1 else (if x5 = (-1) then 1 else 0)) else 0) else 1)) : Int32)]) (fun hJ => ?_) ?_
        · refine lv_if_lt (tgt := 106) hx hb dX7_meets_76 (by decide) (fun c44 => ?_) (fun c44 => ?_)
          · refine lv_iconst (v := 0) hx hb dX7_meets_106 (by decide) ?_
            rw [if_pos c44] at hJ
            exact hJ
          · refine lv_iload hx hb dX7_meets_79 (lv_at hl 0 rfl) ?_
            refine lv_if_ne (tgt := 102) hx hb dX7_meets_81 (by decide) (fun c45 => ?_) (fun c45 => ?_)
            · refine lv_iconst (v := 1) hx hb dX7_meets_102 (by decide) ?_
              refine lv_goto (tgt := 107) hx hb dX7_meets_103 (by decide) ?_
              rw [if_neg c44, if_neg c45] at hJ
              exact hJ
            · refine lv_iload_n hx hb dX7_meets_84 rfl (lv_at hl 4 rfl) ?_
              refine lv_iload hx hb dX7_meets_85 (lv_at hl 5 rfl) ?_
              refine lv_icmp_ne (tgt := 106) hx hb dX7_meets_87 (by decide) (fun c46 => ?_) (fun c46 => ?_)
              · refine lv_iconst (v := 0) hx hb dX7_meets_106 (by decide) ?_
                rw [if_neg c44, if_pos c45, if_neg c46] at hJ
                exact hJ
              · refine lv_iload hx hb dX7_meets_90 (lv_at hl 6 rfl) ?_
                refine lv_iconst (v := 1) hx hb dX7_meets_92 (by decide) ?_
                refine lv_icmp_eq (tgt := 102) hx hb dX7_meets_93 (by decide) (fun c47 => ?_) (fun c47 => ?_)
                · refine lv_iconst (v := 1) hx hb dX7_meets_102 (by decide) ?_
                  refine lv_goto (tgt := 107) hx hb dX7_meets_103 (by decide) ?_
                  rw [if_neg c44, if_pos c45, if_pos c46, if_pos c47] at hJ
                  exact hJ
                · refine lv_iload hx hb dX7_meets_96 (lv_at hl 6 rfl) ?_
                  refine lv_iconst (v := (-1)) hx hb dX7_meets_98 (by decide) ?_
                  refine lv_icmp_ne (tgt := 106) hx hb dX7_meets_99 (by decide) (fun c48 => ?_) (fun c48 => ?_)
                  · refine lv_iconst (v := 0) hx hb dX7_meets_106 (by decide) ?_
                    rw [if_neg c44, if_pos c45, if_pos c46, if_neg c47, if_neg c48] at hJ
                    exact hJ
                  · refine lv_iconst (v := 1) hx hb dX7_meets_102 (by decide) ?_
                    refine lv_goto (tgt := 107) hx hb dX7_meets_103 (by decide) ?_
                    rw [if_neg c44, if_pos c45, if_pos c46, if_neg c47, if_pos c48] at hJ
                    exact hJ
        exact tb_zret h F (tb_bln (by (repeat' split) <;> decide)) hP hS dX7_meets_107
set_option maxHeartbeats 4000000 in
set_option maxRecDepth 100000 in
theorem tX7_meets_J51 {g : tb_GT} {l : Launch} {P : Program} {e : Env} {s : State} {m : MethodId} {below : List Frame} {meth : Method} {c : Code} (q0 : Nat) (hq0 : tb_lay q0 = tb_ar 63) {a1 : Int32} {a2 : Int32} {M' : tb_Mem} {r : Int32} (F : tb_F g cX7_meets 7 RX7 (some .boolean) (Cond.code yX7_meets cX7_meets 7 (some .boolean)) P s m ([.ref (tb_ad g q0), .int a1, .int a2] : List Value).toArray meth c) (x1 : Int32) (x2 : Int32) (x3 : Int32) (x4 : Int32) (x5 : Int32) (M : tb_Mem) {H : Heap} {locs : List Loc} {ls : Array Slot} (hP : tb_P g M H) (hS : va_S (tb_A g) s.heap H locs) (hl : lv_has ls 7 [(0, .ref (tb_ad g q0)), (1, .int x1), (2, .int x2), (3, .int x3), (4, .int x4), (5, .int x5)]) (h : fX7_meets_J51 q0 x1 x2 x3 x4 x5 M = some (r, M')) : W P l e rmX7_meets s m ([.ref (tb_ad g q0), .int a1, .int a2] : List Value).toArray below meth c H locs 0 0 (MQ below (tb_Q g M' (some (.int r))) ([.ref (tb_ad g q0), .int a1, .int a2] : List Value).toArray s 0 0 (tb_A g)) (F0 m 51 ls []) := by
  have hx := F.1.1
  have hb := F.1.2.1
  unfold fX7_meets_J51 at h
  refine lv_iconst (v := 0) hx hb dX7_meets_51 (by decide) ?_
  exact tX7_meets_J52 q0 hq0 F x1 x2 x3 x4 x5 0 M hP hS (lv_sub hl [0, 1, 2, 3, 4, 5] rfl) h
set_option maxHeartbeats 4000000 in
set_option maxRecDepth 100000 in
theorem tX7_meets (g : tb_GT) (l : Launch) (q0 : Nat) (hq0 : tb_lay q0 = tb_ar 63) (a1 : Int32) (a2 : Int32) (M M' : tb_Mem) (r : Int32) (h : fX7_meets q0 a1 a2 M = some (r, M')) : tb_C g l yX7_meets (Cond.code yX7_meets cX7_meets 7 (some .boolean)) rmX7_meets [.ref (tb_ad g q0), .int a1, .int a2] M M' (some (.int r)) := by
  refine tb_entry (by decide) (Nat.le_of_ble_eq_true rfl) ?_
  intro P e s m below meth c F hP hS ls hl
  have F : tb_F g cX7_meets 7 RX7 (some .boolean) (Cond.code yX7_meets cX7_meets 7 (some .boolean)) P s m ([.ref (tb_ad g q0), .int a1, .int a2] : List Value).toArray meth c := F
  have hx := F.1.1
  have hb := F.1.2.1
  have hl : lv_has ls 7 [(0, .ref (tb_ad g q0)), (1, .int a1), (2, .int a2)] := hl
  unfold fX7_meets at h
  refine lv_aload_n hx hb dX7_meets_0 rfl (lv_at hl 0 rfl) ?_
  refine lv_iload_n hx hb dX7_meets_1 rfl (lv_at hl 1 rfl) ?_
  obtain ⟨r3, M1, e2, h⟩ := tb_b2s h
  refine tb_callS F hP hS hl.1 kX7_high km_X7_116 (as := [.ref (tb_ad g q0), .int a1]) (tX7_high g l q0 hq0 a1 M M1 r3 e2) ⟨rfl, rfl, Nat.le_of_ble_eq_true rfl, Nat.le_of_ble_eq_true rfl⟩ rfl (rest := []) rfl (st1 := [.int r3]) rfl (Nat.le_of_ble_eq_true rfl) ⟨Nat.zero_le _, Nat.zero_le _⟩ dX7_meets_2 (fun H locs hP hS => ?_)
  refine lv_istore_n (lv' := [(3, .int r3), (0, .ref (tb_ad g q0)), (1, .int a1), (2, .int a2)]) hx hb dX7_meets_5 rfl hl (by decide) rfl (fun ls hl => ?_)
  refine lv_aload_n hx hb dX7_meets_6 rfl (lv_at hl 1 rfl) ?_
  refine lv_iload_n hx hb dX7_meets_7 rfl (lv_at hl 3 rfl) ?_
  obtain ⟨r6, M4, e5, h⟩ := tb_b2s h
  refine tb_callS F hP hS hl.1 kX7_high km_X7_116 (as := [.ref (tb_ad g q0), .int a2]) (tX7_high g l q0 hq0 a2 M1 M4 r6 e5) ⟨rfl, rfl, Nat.le_of_ble_eq_true rfl, Nat.le_of_ble_eq_true rfl⟩ rfl (rest := []) rfl (st1 := [.int r6]) rfl (Nat.le_of_ble_eq_true rfl) ⟨Nat.zero_le _, Nat.zero_le _⟩ dX7_meets_8 (fun H locs hP hS => ?_)
  refine lv_istore (lv' := [(4, .int r6), (3, .int r3), (0, .ref (tb_ad g q0)), (1, .int a1), (2, .int a2)]) hx hb dX7_meets_11 hl (by decide) rfl (fun ls hl => ?_)
  refine lv_aload_n hx hb dX7_meets_13 rfl (lv_at hl 2 rfl) ?_
  refine lv_bipush (v := 18) hx hb dX7_meets_14 (by decide) ?_
  refine lv_iload_n hx hb dX7_meets_16 rfl (lv_at hl 3 rfl) ?_
  refine lv_iadd hx hb dX7_meets_17 ?_
  obtain ⟨k7, h⟩ := tb_cks h
  refine tb_iald F hP hq0 rfl (tb_inv k7) dX7_meets_18 ?_
  refine lv_aload_n hx hb dX7_meets_19 rfl (lv_at hl 2 rfl) ?_
  refine lv_bipush (v := 18) hx hb dX7_meets_20 (by decide) ?_
  refine lv_iload_n hx hb dX7_meets_22 rfl (lv_at hl 4 rfl) ?_
  refine lv_iadd hx hb dX7_meets_23 ?_
  obtain ⟨k8, h⟩ := tb_cks h
  refine tb_iald F hP hq0 rfl (tb_inv k8) dX7_meets_24 ?_
  refine lv_isub hx hb dX7_meets_25 ?_
  obtain ⟨v9, e10, h⟩ := tb_lets h
  refine tb_nmi e10 ?_
  refine lv_istore (lv' := [(5, .int v9), (4, .int r6), (3, .int r3), (0, .ref (tb_ad g q0)), (1, .int a1), (2, .int a2)]) hx hb dX7_meets_26 hl (by decide) rfl (fun ls hl => ?_)
  refine lv_iload_n hx hb dX7_meets_28 rfl (lv_at hl 2 rfl) ?_
  refine lv_aload_n hx hb dX7_meets_29 rfl (lv_at hl 3 rfl) ?_
  refine lv_iload_n hx hb dX7_meets_30 rfl (lv_at hl 4 rfl) ?_
  obtain ⟨r13, M11, e12, h⟩ := tb_b2s h
  refine tb_callS F hP hS hl.1 kX7_top km_X7_112 (as := [.ref (tb_ad g q0), .int a1]) (tX7_top g l q0 hq0 a1 M4 M11 r13 e12) ⟨rfl, rfl, Nat.le_of_ble_eq_true rfl, Nat.le_of_ble_eq_true rfl⟩ rfl (rest := [.int r3]) rfl (st1 := [.int r13, .int r3]) rfl (Nat.le_of_ble_eq_true rfl) ⟨Nat.zero_le _, Nat.zero_le _⟩ dX7_meets_31 (fun H locs hP hS => ?_)
  refine lv_icmp_ne (tgt := 51) hx hb dX7_meets_34 (by decide) (fun c14 => ?_) (fun c14 => ?_)
  · have h := tb_ineg c14 h
    exact tX7_meets_J51 q0 hq0 F a1 a2 r3 r6 v9 M11 hP hS (lv_sub hl [3, 4, 5, 2, 1, 0] rfl) h
  · have h := tb_ip c14 h
    refine lv_iload hx hb dX7_meets_37 (lv_at hl 1 rfl) ?_
    refine lv_aload_n hx hb dX7_meets_39 rfl (lv_at hl 3 rfl) ?_
    refine lv_iload_n hx hb dX7_meets_40 rfl (lv_at hl 5 rfl) ?_
    obtain ⟨r17, M15, e16, h⟩ := tb_b2s h
    refine tb_callS F hP hS hl.1 kX7_top km_X7_112 (as := [.ref (tb_ad g q0), .int a2]) (tX7_top g l q0 hq0 a2 M11 M15 r17 e16) ⟨rfl, rfl, Nat.le_of_ble_eq_true rfl, Nat.le_of_ble_eq_true rfl⟩ rfl (rest := [.int r6]) rfl (st1 := [.int r17, .int r6]) rfl (Nat.le_of_ble_eq_true rfl) ⟨Nat.zero_le _, Nat.zero_le _⟩ dX7_meets_41 (fun H locs hP hS => ?_)
    refine tb_mrg (g2 := F0 m 52 ls [.int ((if r6 = r17 then 1 else 0) : Int32)]) (fun hJ => ?_) ?_
    · refine lv_icmp_ne (tgt := 51) hx hb dX7_meets_44 (by decide) (fun c18 => ?_) (fun c18 => ?_)
      · refine lv_iconst (v := 0) hx hb dX7_meets_51 (by decide) ?_
        rw [if_neg c18] at hJ
        exact hJ
      · refine lv_iconst (v := 1) hx hb dX7_meets_47 (by decide) ?_
        refine lv_goto (tgt := 52) hx hb dX7_meets_48 (by decide) ?_
        rw [if_pos c18] at hJ
        exact hJ
    obtain ⟨v19, e20, h⟩ := tb_lets h
    refine tb_nmi e20 ?_
    refine lv_istore (lv' := [(6, .int v19), (5, .int v9), (4, .int r6), (3, .int r3), (0, .ref (tb_ad g q0)), (1, .int a1), (2, .int a2)]) hx hb dX7_meets_52 hl (by decide) rfl (fun ls hl => ?_)
    refine lv_iload_n hx hb dX7_meets_54 rfl (lv_at hl 3 rfl) ?_
    refine lv_if_le (tgt := 106) hx hb dX7_meets_55 (by decide) (fun c21 => ?_) (fun c21 => ?_)
    · have h := tb_ip c21 h
      refine lv_iconst (v := 0) hx hb dX7_meets_106 (by decide) ?_
      exact tb_zret h F rfl hP hS dX7_meets_107
    · have h := tb_ineg c21 h
      refine lv_iload hx hb dX7_meets_58 (lv_at hl 2 rfl) ?_
      refine lv_if_le (tgt := 106) hx hb dX7_meets_60 (by decide) (fun c22 => ?_) (fun c22 => ?_)
      · have h := tb_ip c22 h
        refine lv_iconst (v := 0) hx hb dX7_meets_106 (by decide) ?_
        exact tb_zret h F rfl hP hS dX7_meets_107
      · have h := tb_ineg c22 h
        refine lv_aload_n hx hb dX7_meets_63 rfl (lv_at hl 4 rfl) ?_
        refine lv_iconst (v := 2) hx hb dX7_meets_64 (by decide) ?_
        refine lv_iload_n hx hb dX7_meets_65 rfl (lv_at hl 5 rfl) ?_
        refine lv_iadd hx hb dX7_meets_66 ?_
        obtain ⟨k23, h⟩ := tb_cks h
        refine tb_iald F hP hq0 rfl (tb_inv k23) dX7_meets_67 ?_
        refine lv_if_ge (tgt := 79) hx hb dX7_meets_68 (by decide) (fun c24 => ?_) (fun c24 => ?_)
        · have h := tb_ip c24 h
          refine lv_iload hx hb dX7_meets_79 (lv_at hl 0 rfl) ?_
          refine tb_mrg (g2 := F0 m 107 ls [.int ((if v19 = 0 then (if r3 = r6 then (if v9 = 1 then 1 else (if v9 = (-1) then 1 else 0)) else 0) else 1) : Int32)]) (fun hJ => ?_) ?_
          · refine lv_if_ne (tgt := 102) hx hb dX7_meets_81 (by decide) (fun c25 => ?_) (fun c25 => ?_)
            · refine lv_iconst (v := 1) hx hb dX7_meets_102 (by decide) ?_
              refine lv_goto (tgt := 107) hx hb dX7_meets_103 (by decide) ?_
              rw [if_neg c25] at hJ
              exact hJ
            · refine lv_iload_n hx hb dX7_meets_84 rfl (lv_at hl 3 rfl) ?_
              refine lv_iload hx hb dX7_meets_85 (lv_at hl 2 rfl) ?_
              refine lv_icmp_ne (tgt := 106) hx hb dX7_meets_87 (by decide) (fun c26 => ?_) (fun c26 => ?_)
              · refine lv_iconst (v := 0) hx hb dX7_meets_106 (by decide) ?_
                rw [if_pos c25, if_neg c26] at hJ
                exact hJ
              · refine lv_iload hx hb dX7_meets_90 (lv_at hl 1 rfl) ?_
                refine lv_iconst (v := 1) hx hb dX7_meets_92 (by decide) ?_
                refine lv_icmp_eq (tgt := 102) hx hb dX7_meets_93 (by decide) (fun c27 => ?_) (fun c27 => ?_)
                · refine lv_iconst (v := 1) hx hb dX7_meets_102 (by decide) ?_
                  refine lv_goto (tgt := 107) hx hb dX7_meets_103 (by decide) ?_
                  rw [if_pos c25, if_pos c26, if_pos c27] at hJ
                  exact hJ
                · refine lv_iload hx hb dX7_meets_96 (lv_at hl 1 rfl) ?_
                  refine lv_iconst (v := (-1)) hx hb dX7_meets_98 (by decide) ?_
                  refine lv_icmp_ne (tgt := 106) hx hb dX7_meets_99 (by decide) (fun c28 => ?_) (fun c28 => ?_)
                  · refine lv_iconst (v := 0) hx hb dX7_meets_106 (by decide) ?_
                    rw [if_pos c25, if_pos c26, if_neg c27, if_neg c28] at hJ
                    exact hJ
                  · refine lv_iconst (v := 1) hx hb dX7_meets_102 (by decide) ?_
                    refine lv_goto (tgt := 107) hx hb dX7_meets_103 (by decide) ?_
                    rw [if_pos c25, if_pos c26, if_neg c27, if_pos c28] at hJ
                    exact hJ
          exact tb_zret h F (tb_bln (by (repeat' split) <;> decide)) hP hS dX7_meets_107
        · have h := tb_ineg c24 h
          refine lv_aload_n hx hb dX7_meets_71 rfl (lv_at hl 4 rfl) ?_
          refine lv_iconst (v := 2) hx hb dX7_meets_72 (by decide) ?_
          refine lv_iload_n hx hb dX7_meets_73 rfl (lv_at hl 6 rfl) ?_
          refine lv_iadd hx hb dX7_meets_74 ?_
          obtain ⟨k29, h⟩ := tb_cks h
          refine tb_iald F hP hq0 rfl (tb_inv k29) dX7_meets_75 ?_
          refine tb_mrg (g2 := F0 m 107 ls [.int ((if (M15 q0 (2 + a2).toNatClampNeg) < 0 then 0 else (if v19 = 0 then (if r3 = r6 then (if v9 = 1 then 1 else (if v9 = (-1) then 1 else 0)) else 0) else 1)) : Int32)]) (fun hJ => ?_) ?_
          · refine lv_if_lt (tgt := 106) hx hb dX7_meets_76 (by decide) (fun c30 => ?_) (fun c30 => ?_)
            · refine lv_iconst (v := 0) hx hb dX7_meets_106 (by decide) ?_
              rw [if_pos c30] at hJ
              exact hJ
            · refine lv_iload hx hb dX7_meets_79 (lv_at hl 0 rfl) ?_
              refine lv_if_ne (tgt := 102) hx hb dX7_meets_81 (by decide) (fun c31 => ?_) (fun c31 => ?_)
              · refine lv_iconst (v := 1) hx hb dX7_meets_102 (by decide) ?_
                refine lv_goto (tgt := 107) hx hb dX7_meets_103 (by decide) ?_
                rw [if_neg c30, if_neg c31] at hJ
                exact hJ
              · refine lv_iload_n hx hb dX7_meets_84 rfl (lv_at hl 3 rfl) ?_
                refine lv_iload hx hb dX7_meets_85 (lv_at hl 2 rfl) ?_
                refine lv_icmp_ne (tgt := 106) hx hb dX7_meets_87 (by decide) (fun c32 => ?_) (fun c32 => ?_)
                · refine lv_iconst (v := 0) hx hb dX7_meets_106 (by decide) ?_
                  rw [if_neg c30, if_pos c31, if_neg c32] at hJ
                  exact hJ
                · refine lv_iload hx hb dX7_meets_90 (lv_at hl 1 rfl) ?_
                  refine lv_iconst (v := 1) hx hb dX7_meets_92 (by decide) ?_
                  refine lv_icmp_eq (tgt := 102) hx hb dX7_meets_93 (by decide) (fun c33 => ?_) (fun c33 => ?_)
                  · refine lv_iconst (v := 1) hx hb dX7_meets_102 (by decide) ?_
                    refine lv_goto (tgt := 107) hx hb dX7_meets_103 (by decide) ?_
                    rw [if_neg c30, if_pos c31, if_pos c32, if_pos c33] at hJ
                    exact hJ
                  · refine lv_iload hx hb dX7_meets_96 (lv_at hl 1 rfl) ?_
                    refine lv_iconst (v := (-1)) hx hb dX7_meets_98 (by decide) ?_
                    refine lv_icmp_ne (tgt := 106) hx hb dX7_meets_99 (by decide) (fun c34 => ?_) (fun c34 => ?_)
                    · refine lv_iconst (v := 0) hx hb dX7_meets_106 (by decide) ?_
                      rw [if_neg c30, if_pos c31, if_pos c32, if_neg c33, if_neg c34] at hJ
                      exact hJ
                    · refine lv_iconst (v := 1) hx hb dX7_meets_102 (by decide) ?_
                      refine lv_goto (tgt := 107) hx hb dX7_meets_103 (by decide) ?_
                      rw [if_neg c30, if_pos c31, if_pos c32, if_neg c33, if_pos c34] at hJ
                      exact hJ
          exact tb_zret h F (tb_bln (by (repeat' split) <;> decide)) hP hS dX7_meets_107
def fX7_prints (q0 : Nat) (a1 : Int32) (M : tb_Mem) : Option (tb_Mem) :=
  if 20 ≤ (M q0 1) then (some M) else (tb_ck (tb_in (55 + a1) 63) (if (M q0 (55 + a1).toNatClampNeg) = 5 then (tb_ck (tb_in (26 + (M q0 1)) 63) (tb_let (tb_up M q0 ((26 + (M q0 1)).toNatClampNeg) (M q0 (26 + (M q0 1)).toNatClampNeg)) (fun M11 => tb_let (tb_up M11 q0 1 ((M11 q0 1) + ((if (M11 q0 (55 + a1).toNatClampNeg) = 4 then 0 else 1) : Int32))) (fun M14 => some M14)))) else (tb_ck (tb_in (26 + (M q0 1)) 63) (tb_let (tb_up M q0 ((26 + (M q0 1)).toNatClampNeg) (a1 + 1)) (fun M5 => tb_let (tb_up M5 q0 1 ((M5 q0 1) + ((if (M5 q0 (55 + a1).toNatClampNeg) = 4 then 0 else 1) : Int32))) (fun M8 => some M8))))))
abbrev rmX7_prints : Room := { frames := 0, cells := 0, slots := 0, locals := 0 }
set_option maxHeartbeats 4000000 in
set_option maxRecDepth 100000 in
theorem tX7_prints (g : tb_GT) (l : Launch) (q0 : Nat) (hq0 : tb_lay q0 = tb_ar 63) (a1 : Int32) (M M' : tb_Mem) (h : fX7_prints q0 a1 M = some M') : tb_C g l yX7_prints (Cond.code yX7_prints cX7_prints 3 none) rmX7_prints [.ref (tb_ad g q0), .int a1] M M' none := by
  refine tb_entry (by decide) (Nat.le_of_ble_eq_true rfl) ?_
  intro P e s m below meth c F hP hS ls hl
  have F : tb_F g cX7_prints 3 RX7 none (Cond.code yX7_prints cX7_prints 3 none) P s m ([.ref (tb_ad g q0), .int a1] : List Value).toArray meth c := F
  have hx := F.1.1
  have hb := F.1.2.1
  have hl : lv_has ls 3 [(0, .ref (tb_ad g q0)), (1, .int a1)] := hl
  unfold fX7_prints at h
  refine lv_aload_n hx hb dX7_prints_0 rfl (lv_at hl 0 rfl) ?_
  refine lv_iconst (v := 1) hx hb dX7_prints_1 (by decide) ?_
  refine tb_iald F hP hq0 (k := 1) (by decide +kernel) (tb_inv (i := 1) (n := 63) (by decide +kernel)) dX7_prints_2 ?_
  refine lv_istore_n (lv' := [(2, .int (M q0 1)), (0, .ref (tb_ad g q0)), (1, .int a1)]) hx hb dX7_prints_3 rfl hl (by decide) rfl (fun ls hl => ?_)
  refine lv_iload_n hx hb dX7_prints_4 rfl (lv_at hl 0 rfl) ?_
  refine lv_bipush (v := 20) hx hb dX7_prints_5 (by decide) ?_
  refine lv_icmp_ge (tgt := 59) hx hb dX7_prints_7 (by decide) (fun c1 => ?_) (fun c1 => ?_)
  · have h := tb_ip c1 h
    exact tb_vret h F hP hS dX7_prints_59
  · have h := tb_ineg c1 h
    refine lv_aload_n hx hb dX7_prints_10 rfl (lv_at hl 1 rfl) ?_
    refine lv_bipush (v := 26) hx hb dX7_prints_11 (by decide) ?_
    refine lv_iload_n hx hb dX7_prints_13 rfl (lv_at hl 0 rfl) ?_
    refine lv_iadd hx hb dX7_prints_14 ?_
    refine lv_aload_n hx hb dX7_prints_15 rfl (lv_at hl 1 rfl) ?_
    refine lv_bipush (v := 55) hx hb dX7_prints_16 (by decide) ?_
    refine lv_iload_n hx hb dX7_prints_18 rfl (lv_at hl 2 rfl) ?_
    refine lv_iadd hx hb dX7_prints_19 ?_
    obtain ⟨k2, h⟩ := tb_cks h
    refine tb_iald F hP hq0 rfl (tb_inv k2) dX7_prints_20 ?_
    refine lv_iconst (v := 5) hx hb dX7_prints_21 (by decide) ?_
    refine lv_icmp_ne (tgt := 34) hx hb dX7_prints_22 (by decide) (fun c3 => ?_) (fun c3 => ?_)
    · have h := tb_ineg c3 h
      refine lv_iload_n hx hb dX7_prints_34 rfl (lv_at hl 2 rfl) ?_
      refine lv_iconst (v := 1) hx hb dX7_prints_35 (by decide) ?_
      refine lv_iadd hx hb dX7_prints_36 ?_
      obtain ⟨k4, h⟩ := tb_cks h
      obtain ⟨M5, e6, h⟩ := tb_lets h
      refine tb_iast F hP hS hq0 rfl (tb_inv k4) dX7_prints_37 (fun H locs hP hS => ?_)
      rw [← e6] at hP
      refine lv_aload_n hx hb dX7_prints_38 rfl (lv_at hl 1 rfl) ?_
      refine lv_iconst (v := 1) hx hb dX7_prints_39 (by decide) ?_
      refine lv_dup2_11 hx hb dX7_prints_40 rfl rfl ?_
      refine tb_iald F hP hq0 (k := 1) (by decide +kernel) (tb_inv (i := 1) (n := 63) (by decide +kernel)) dX7_prints_41 ?_
      refine lv_aload_n hx hb dX7_prints_42 rfl (lv_at hl 1 rfl) ?_
      refine lv_bipush (v := 55) hx hb dX7_prints_43 (by decide) ?_
      refine lv_iload_n hx hb dX7_prints_45 rfl (lv_at hl 2 rfl) ?_
      refine lv_iadd hx hb dX7_prints_46 ?_
      refine tb_iald F hP hq0 rfl (tb_inv k2) dX7_prints_47 ?_
      refine lv_iconst (v := 4) hx hb dX7_prints_48 (by decide) ?_
      refine tb_mrg (g2 := F0 m 57 ls [.int ((if (M5 q0 (55 + a1).toNatClampNeg) = 4 then 0 else 1) : Int32), .int (M5 q0 1), .int 1, .ref (tb_ad g q0)]) (fun hJ => ?_) ?_
      · refine lv_icmp_ne (tgt := 56) hx hb dX7_prints_49 (by decide) (fun c7 => ?_) (fun c7 => ?_)
        · refine lv_iconst (v := 1) hx hb dX7_prints_56 (by decide) ?_
          rw [if_neg c7] at hJ
          exact hJ
        · refine lv_iconst (v := 0) hx hb dX7_prints_52 (by decide) ?_
          refine lv_goto (tgt := 57) hx hb dX7_prints_53 (by decide) ?_
          rw [if_pos c7] at hJ
          exact hJ
      refine lv_iadd hx hb dX7_prints_57 ?_
      obtain ⟨M8, e9, h⟩ := tb_lets h
      refine tb_iast F hP hS hq0 (k := 1) (by decide +kernel) (tb_inv (i := 1) (n := 63) (by decide +kernel)) dX7_prints_58 (fun H locs hP hS => ?_)
      rw [← e9] at hP
      exact tb_vret h F hP hS dX7_prints_59
    · have h := tb_ip c3 h
      refine lv_aload_n hx hb dX7_prints_25 rfl (lv_at hl 1 rfl) ?_
      refine lv_bipush (v := 26) hx hb dX7_prints_26 (by decide) ?_
      refine lv_iload_n hx hb dX7_prints_28 rfl (lv_at hl 0 rfl) ?_
      refine lv_iadd hx hb dX7_prints_29 ?_
      obtain ⟨k10, h⟩ := tb_cks h
      refine tb_iald F hP hq0 rfl (tb_inv k10) dX7_prints_30 ?_
      refine lv_goto (tgt := 37) hx hb dX7_prints_31 (by decide) ?_
      obtain ⟨M11, e12, h⟩ := tb_lets h
      refine tb_iast F hP hS hq0 rfl (tb_inv k10) dX7_prints_37 (fun H locs hP hS => ?_)
      rw [← e12] at hP
      refine lv_aload_n hx hb dX7_prints_38 rfl (lv_at hl 1 rfl) ?_
      refine lv_iconst (v := 1) hx hb dX7_prints_39 (by decide) ?_
      refine lv_dup2_11 hx hb dX7_prints_40 rfl rfl ?_
      refine tb_iald F hP hq0 (k := 1) (by decide +kernel) (tb_inv (i := 1) (n := 63) (by decide +kernel)) dX7_prints_41 ?_
      refine lv_aload_n hx hb dX7_prints_42 rfl (lv_at hl 1 rfl) ?_
      refine lv_bipush (v := 55) hx hb dX7_prints_43 (by decide) ?_
      refine lv_iload_n hx hb dX7_prints_45 rfl (lv_at hl 2 rfl) ?_
      refine lv_iadd hx hb dX7_prints_46 ?_
      refine tb_iald F hP hq0 rfl (tb_inv k2) dX7_prints_47 ?_
      refine lv_iconst (v := 4) hx hb dX7_prints_48 (by decide) ?_
      refine tb_mrg (g2 := F0 m 57 ls [.int ((if (M11 q0 (55 + a1).toNatClampNeg) = 4 then 0 else 1) : Int32), .int (M11 q0 1), .int 1, .ref (tb_ad g q0)]) (fun hJ => ?_) ?_
      · refine lv_icmp_ne (tgt := 56) hx hb dX7_prints_49 (by decide) (fun c13 => ?_) (fun c13 => ?_)
        · refine lv_iconst (v := 1) hx hb dX7_prints_56 (by decide) ?_
          rw [if_neg c13] at hJ
          exact hJ
        · refine lv_iconst (v := 0) hx hb dX7_prints_52 (by decide) ?_
          refine lv_goto (tgt := 57) hx hb dX7_prints_53 (by decide) ?_
          rw [if_pos c13] at hJ
          exact hJ
      refine lv_iadd hx hb dX7_prints_57 ?_
      obtain ⟨M14, e15, h⟩ := tb_lets h
      refine tb_iast F hP hS hq0 (k := 1) (by decide +kernel) (tb_inv (i := 1) (n := 63) (by decide +kernel)) dX7_prints_58 (fun H locs hP hS => ?_)
      rw [← e15] at hP
      exact tb_vret h F hP hS dX7_prints_59
def fX7_has (a0 : Int32) (a1 : Int32) (M : tb_Mem) : Option (Int32 × tb_Mem) :=
  some (((if ((a0 >>> (a1 &&& 31)) &&& 1) = 1 then 1 else 0) : Int32), M)
abbrev rmX7_has : Room := { frames := 0, cells := 0, slots := 0, locals := 0 }
set_option maxHeartbeats 4000000 in
set_option maxRecDepth 100000 in
theorem tX7_has (g : tb_GT) (l : Launch) (a0 : Int32) (a1 : Int32) (M M' : tb_Mem) (r : Int32) (h : fX7_has a0 a1 M = some (r, M')) : tb_C g l yX7_has (Cond.code yX7_has cX7_has 2 (some .boolean)) rmX7_has [.int a0, .int a1] M M' (some (.int r)) := by
  refine tb_entry (by decide) (Nat.le_of_ble_eq_true rfl) ?_
  intro P e s m below meth c F hP hS ls hl
  have F : tb_F g cX7_has 2 RX7 (some .boolean) (Cond.code yX7_has cX7_has 2 (some .boolean)) P s m ([.int a0, .int a1] : List Value).toArray meth c := F
  have hx := F.1.1
  have hb := F.1.2.1
  have hl : lv_has ls 2 [(0, .int a0), (1, .int a1)] := hl
  unfold fX7_has at h
  refine lv_iload_n hx hb dX7_has_0 rfl (lv_at hl 0 rfl) ?_
  refine lv_iload_n hx hb dX7_has_1 rfl (lv_at hl 1 rfl) ?_
  refine lv_ishr hx hb dX7_has_2 ?_
  refine lv_iconst (v := 1) hx hb dX7_has_3 (by decide) ?_
  refine lv_iand hx hb dX7_has_4 ?_
  refine lv_iconst (v := 1) hx hb dX7_has_5 (by decide) ?_
  refine tb_mrg (g2 := F0 m 14 ls [.int ((if ((a0 >>> (a1 &&& 31)) &&& 1) = 1 then 1 else 0) : Int32)]) (fun hJ => ?_) ?_
  · refine lv_icmp_ne (tgt := 13) hx hb dX7_has_6 (by decide) (fun c1 => ?_) (fun c1 => ?_)
    · refine lv_iconst (v := 0) hx hb dX7_has_13 (by decide) ?_
      rw [if_neg c1] at hJ
      exact hJ
    · refine lv_iconst (v := 1) hx hb dX7_has_9 (by decide) ?_
      refine lv_goto (tgt := 14) hx hb dX7_has_10 (by decide) ?_
      rw [if_pos c1] at hJ
      exact hJ
  exact tb_zret h F (tb_bln (by (repeat' split) <;> decide)) hP hS dX7_has_14
def fX7_tick_L177 (q0 : Nat) : Nat → Int32 → Int32 → Int32 → tb_Mem → Option (Int32 × tb_Mem)
  | 0, _, _, _, _ => none
  | n + 1, x1, x3, x4, M => if x1 ≤ x4 then (tb_let (tb_up M q0 0 ((M q0 0) + 1)) (fun M41 => some (x3, M41))) else (tb_ck (tb_in (2 + x4) 63) (if (M q0 (2 + x4).toNatClampNeg) < 0 then (fX7_tick_L177 q0 n x1 x3 (x4 + 1) M) else (tb_b2 (fX7_top q0 x4 M) (fun r47 M45 => if (M q0 (2 + x4).toNatClampNeg) = r47 then (tb_b1 (fX7_prints q0 x4 M45) (fun M49 => fX7_tick_L177 q0 n x1 (x3 + 1) (x4 + 1) M49)) else (fX7_tick_L177 q0 n x1 x3 (x4 + 1) M45)))))
def fX7_tick_L128 (q0 : Nat) : Nat → Int32 → Int32 → Int32 → tb_Mem → Option (Int32 × tb_Mem)
  | 0, _, _, _, _ => none
  | n + 1, x1, x2, x3, M => if x1 ≤ x3 then (fX7_tick_L177 q0 tb_N x1 0 0 M) else (tb_b2 (fX7_has x2 x3 M) (fun r28 M26 => if r28 = 0 then (fX7_tick_L128 q0 n x1 x2 (x3 + 1) M26) else (tb_ck (tb_in (2 + x3) 63) (if (M26 q0 (2 + x3).toNatClampNeg) < 0 then (fX7_tick_L128 q0 n x1 x2 (x3 + 1) M26) else (tb_b2 (fX7_high q0 x3 M26) (fun r34 M32 => tb_ck (tb_in (10 + x3) 63) (tb_let (tb_up M32 q0 ((10 + x3).toNatClampNeg) r34) (fun M36 => tb_let (tb_up M36 q0 ((2 + x3).toNatClampNeg) (-1)) (fun M38 => fX7_tick_L128 q0 n x1 x2 (x3 + 1) M38)))))))))
def fX7_tick_L83 (q0 : Nat) (K73 : Int32 → Int32 → Int32 → tb_Mem → Option (Int32 × tb_Mem)) : Nat → Int32 → Int32 → Int32 → Int32 → tb_Mem → Option (Int32 × tb_Mem)
  | 0, _, _, _, _, _ => none
  | n + 1, x1, x2, x3, x4, M => if x1 ≤ x4 then (K73 x1 x2 (x3 + 1) M) else (tb_b2 (fX7_meets q0 x3 x4 M) (fun r21 M19 => tb_let ((x2 ||| ((if r21 = 0 then 0 else ((1 <<< (x3 &&& 31)) ||| (1 <<< (x4 &&& 31)))) : Int32)) : Int32) (fun v23 => fX7_tick_L83 q0 K73 n x1 v23 x3 (x4 + 1) M19)))
def fX7_tick_L73 (q0 : Nat) : Nat → Int32 → Int32 → Int32 → tb_Mem → Option (Int32 × tb_Mem)
  | 0, _, _, _, _ => none
  | n + 1, x1, x2, x3, M => if x1 ≤ x3 then (fX7_tick_L128 q0 tb_N x1 x2 0 M) else (fX7_tick_L83 q0 (fun z1 z2 z3 M => fX7_tick_L73 q0 n z1 z2 z3 M) tb_N x1 x2 x3 (x3 + 1) M)
def fX7_tick_L7 (q0 : Nat) : Nat → Int32 → Int32 → tb_Mem → Option (Int32 × tb_Mem)
  | 0, _, _, _ => none
  | n + 1, x1, x2, M => if x1 ≤ x2 then (fX7_tick_L73 q0 tb_N x1 0 0 M) else (tb_ck (tb_in (2 + x2) 63) (tb_let (tb_up M q0 ((2 + x2).toNatClampNeg) ((M q0 (2 + x2).toNatClampNeg) + ((if 0 ≤ (M q0 (2 + x2).toNatClampNeg) then 1 else 0) : Int32))) (fun M4 => if (M4 q0 (2 + x2).toNatClampNeg) < 0 then (tb_let (tb_up M4 q0 ((2 + x2).toNatClampNeg) (M4 q0 (2 + x2).toNatClampNeg)) (fun M7 => fX7_tick_L7 q0 n x1 (x2 + 1) M7)) else (tb_b2 (fX7_high q0 x2 M4) (fun r11 M9 => if 0 < r11 then (tb_let (tb_up M9 q0 ((2 + x2).toNatClampNeg) (M9 q0 (2 + x2).toNatClampNeg)) (fun M13 => fX7_tick_L7 q0 n x1 (x2 + 1) M13)) else (tb_let (tb_up M9 q0 ((2 + x2).toNatClampNeg) (-1)) (fun M15 => fX7_tick_L7 q0 n x1 (x2 + 1) M15)))))))
def fX7_tick (q0 : Nat) (M : tb_Mem) : Option (Int32 × tb_Mem) :=
  fX7_tick_L7 q0 tb_N (M q0 46) 0 M
abbrev rmX7_tick : Room := { frames := 3, cells := 0, slots := 0, locals := 71 }
set_option maxHeartbeats 4000000 in
set_option maxRecDepth 100000 in
theorem tX7_tick_L177 {g : tb_GT} {l : Launch} {P : Program} {e : Env} {s : State} {m : MethodId} {below : List Frame} {meth : Method} {c : Code} (q0 : Nat) (hq0 : tb_lay q0 = tb_ar 63) {M' : tb_Mem} {r : Int32} (F : tb_F g cX7_tick 5 RX7 (some .int) (Cond.code yX7_tick cX7_tick 5 (some .int)) P s m ([.ref (tb_ad g q0)] : List Value).toArray meth c) :
    ∀ (n : Nat) (x1 : Int32) (x3 : Int32) (x4 : Int32) (M : tb_Mem) (H : Heap) (locs : List Loc) (ls : Array Slot), tb_P g M H → va_S (tb_A g) s.heap H locs → lv_has ls 5 [(0, .ref (tb_ad g q0)), (1, .int x1), (3, .int x3), (4, .int x4)] → fX7_tick_L177 q0 n x1 x3 x4 M = some (r, M') → W P l e rmX7_tick s m ([.ref (tb_ad g q0)] : List Value).toArray below meth c H locs 0 0 (MQ below (tb_Q g M' (some (.int r))) ([.ref (tb_ad g q0)] : List Value).toArray s 0 0 (tb_A g)) (F0 m 177 ls []) := by
  have hx := F.1.1
  have hb := F.1.2.1
  intro n
  induction n with
  | zero =>
    intro x1 x3 x4 M H locs ls hP hS hl h
    rw [fX7_tick_L177] at h
    exact tb_none h
  | succ n ih =>
    intro x1 x3 x4 M H locs ls hP hS hl h
    rw [fX7_tick_L177] at h
    refine lv_iload hx hb dX7_tick_177 (lv_at hl 3 rfl) ?_
    refine lv_iload_n hx hb dX7_tick_179 rfl (lv_at hl 1 rfl) ?_
    refine lv_icmp_ge (tgt := 222) hx hb dX7_tick_180 (by decide) (fun c40 => ?_) (fun c40 => ?_)
    · have h := tb_ip c40 h
      refine lv_aload_n hx hb dX7_tick_222 rfl (lv_at hl 0 rfl) ?_
      refine lv_iconst (v := 0) hx hb dX7_tick_223 (by decide) ?_
      refine lv_dup2_11 hx hb dX7_tick_224 rfl rfl ?_
      refine tb_iald F hP hq0 (k := 0) (by decide +kernel) (tb_inv (i := 0) (n := 63) (by decide +kernel)) dX7_tick_225 ?_
      refine lv_iconst (v := 1) hx hb dX7_tick_226 (by decide) ?_
      refine lv_iadd hx hb dX7_tick_227 ?_
      obtain ⟨M41, e42, h⟩ := tb_lets h
      refine tb_iast F hP hS hq0 (k := 0) (by decide +kernel) (tb_inv (i := 0) (n := 63) (by decide +kernel)) dX7_tick_228 (fun H locs hP hS => ?_)
      rw [← e42] at hP
      refine lv_iload_n hx hb dX7_tick_229 rfl (lv_at hl 2 rfl) ?_
      exact tb_iret h F hP hS dX7_tick_230
    · have h := tb_ineg c40 h
      refine lv_aload_n hx hb dX7_tick_183 rfl (lv_at hl 0 rfl) ?_
      refine lv_iconst (v := 2) hx hb dX7_tick_184 (by decide) ?_
      refine lv_iload hx hb dX7_tick_185 (lv_at hl 3 rfl) ?_
      refine lv_iadd hx hb dX7_tick_187 ?_
      obtain ⟨k43, h⟩ := tb_cks h
      refine tb_iald F hP hq0 rfl (tb_inv k43) dX7_tick_188 ?_
      refine lv_if_lt (tgt := 216) hx hb dX7_tick_189 (by decide) (fun c44 => ?_) (fun c44 => ?_)
      · have h := tb_ip c44 h
        refine lv_iinc (v := (x4 + 1)) (lv' := [(4, .int (x4 + 1)), (0, .ref (tb_ad g q0)), (1, .int x1), (3, .int x3)]) hx hb dX7_tick_216 hl (k := 3) rfl rfl (by decide) rfl (fun ls hl => ?_)
        refine lv_goto (tgt := 177) hx hb dX7_tick_219 (by decide) ?_
        exact ih x1 x3 (x4 + 1) M _ _ _ hP hS (lv_sub hl [1, 2, 3, 0] rfl) h
      · have h := tb_ineg c44 h
        refine lv_aload_n hx hb dX7_tick_192 rfl (lv_at hl 0 rfl) ?_
        refine lv_iconst (v := 2) hx hb dX7_tick_193 (by decide) ?_
        refine lv_iload hx hb dX7_tick_194 (lv_at hl 3 rfl) ?_
        refine lv_iadd hx hb dX7_tick_196 ?_
        refine tb_iald F hP hq0 rfl (tb_inv k43) dX7_tick_197 ?_
        refine lv_aload_n hx hb dX7_tick_198 rfl (lv_at hl 0 rfl) ?_
        refine lv_iload hx hb dX7_tick_199 (lv_at hl 3 rfl) ?_
        obtain ⟨r47, M45, e46, h⟩ := tb_b2s h
        refine tb_callS F hP hS hl.1 kX7_top km_X7_112 (as := [.ref (tb_ad g q0), .int x4]) (tX7_top g l q0 hq0 x4 M M45 r47 e46) ⟨rfl, rfl, Nat.le_of_ble_eq_true rfl, Nat.le_of_ble_eq_true rfl⟩ rfl (rest := [.int (M q0 (2 + x4).toNatClampNeg)]) rfl (st1 := [.int r47, .int (M q0 (2 + x4).toNatClampNeg)]) rfl (Nat.le_of_ble_eq_true rfl) ⟨Nat.zero_le _, Nat.zero_le _⟩ dX7_tick_201 (fun H locs hP hS => ?_)
        refine lv_icmp_ne (tgt := 216) hx hb dX7_tick_204 (by decide) (fun c48 => ?_) (fun c48 => ?_)
        · have h := tb_ineg c48 h
          refine lv_iinc (v := (x4 + 1)) (lv' := [(4, .int (x4 + 1)), (0, .ref (tb_ad g q0)), (1, .int x1), (3, .int x3)]) hx hb dX7_tick_216 hl (k := 3) rfl rfl (by decide) rfl (fun ls hl => ?_)
          refine lv_goto (tgt := 177) hx hb dX7_tick_219 (by decide) ?_
          exact ih x1 x3 (x4 + 1) M45 _ _ _ hP hS (lv_sub hl [1, 2, 3, 0] rfl) h
        · have h := tb_ip c48 h
          refine lv_aload_n hx hb dX7_tick_207 rfl (lv_at hl 0 rfl) ?_
          refine lv_iload hx hb dX7_tick_208 (lv_at hl 3 rfl) ?_
          obtain ⟨M49, e50, h⟩ := tb_b1s h
          refine tb_callS F hP hS hl.1 kX7_prints km_X7_127 (as := [.ref (tb_ad g q0), .int x4]) (tX7_prints g l q0 hq0 x4 M45 M49 e50) ⟨rfl, rfl, Nat.le_of_ble_eq_true rfl, Nat.le_of_ble_eq_true rfl⟩ rfl (rest := []) rfl (st1 := []) rfl (Nat.le_of_ble_eq_true rfl) ⟨Nat.zero_le _, Nat.zero_le _⟩ dX7_tick_210 (fun H locs hP hS => ?_)
          refine lv_iinc (v := (x3 + 1)) (lv' := [(3, .int (x3 + 1)), (0, .ref (tb_ad g q0)), (1, .int x1), (4, .int x4)]) hx hb dX7_tick_213 hl (k := 2) rfl rfl (by decide) rfl (fun ls hl => ?_)
          refine lv_iinc (v := (x4 + 1)) (lv' := [(4, .int (x4 + 1)), (3, .int (x3 + 1)), (0, .ref (tb_ad g q0)), (1, .int x1)]) hx hb dX7_tick_216 hl (k := 3) rfl rfl (by decide) rfl (fun ls hl => ?_)
          refine lv_goto (tgt := 177) hx hb dX7_tick_219 (by decide) ?_
          exact ih x1 (x3 + 1) (x4 + 1) M49 _ _ _ hP hS (lv_sub hl [2, 3, 1, 0] rfl) h
set_option maxHeartbeats 4000000 in
set_option maxRecDepth 100000 in
theorem tX7_tick_L128 {g : tb_GT} {l : Launch} {P : Program} {e : Env} {s : State} {m : MethodId} {below : List Frame} {meth : Method} {c : Code} (q0 : Nat) (hq0 : tb_lay q0 = tb_ar 63) {M' : tb_Mem} {r : Int32} (F : tb_F g cX7_tick 5 RX7 (some .int) (Cond.code yX7_tick cX7_tick 5 (some .int)) P s m ([.ref (tb_ad g q0)] : List Value).toArray meth c) :
    ∀ (n : Nat) (x1 : Int32) (x2 : Int32) (x3 : Int32) (M : tb_Mem) (H : Heap) (locs : List Loc) (ls : Array Slot), tb_P g M H → va_S (tb_A g) s.heap H locs → lv_has ls 5 [(0, .ref (tb_ad g q0)), (1, .int x1), (2, .int x2), (3, .int x3)] → fX7_tick_L128 q0 n x1 x2 x3 M = some (r, M') → W P l e rmX7_tick s m ([.ref (tb_ad g q0)] : List Value).toArray below meth c H locs 0 0 (MQ below (tb_Q g M' (some (.int r))) ([.ref (tb_ad g q0)] : List Value).toArray s 0 0 (tb_A g)) (F0 m 128 ls []) := by
  have hx := F.1.1
  have hb := F.1.2.1
  intro n
  induction n with
  | zero =>
    intro x1 x2 x3 M H locs ls hP hS hl h
    rw [fX7_tick_L128] at h
    exact tb_none h
  | succ n ih =>
    intro x1 x2 x3 M H locs ls hP hS hl h
    rw [fX7_tick_L128] at h
    refine lv_iload_n hx hb dX7_tick_128 rfl (lv_at hl 3 rfl) ?_
    refine lv_iload_n hx hb dX7_tick_129 rfl (lv_at hl 1 rfl) ?_
    refine lv_icmp_ge (tgt := 172) hx hb dX7_tick_130 (by decide) (fun c25 => ?_) (fun c25 => ?_)
    · have h := tb_ip c25 h
      refine lv_iconst (v := 0) hx hb dX7_tick_172 (by decide) ?_
      refine lv_istore_n (lv' := [(3, .int 0), (0, .ref (tb_ad g q0)), (1, .int x1), (2, .int x2)]) hx hb dX7_tick_173 rfl hl (by decide) rfl (fun ls hl => ?_)
      refine lv_iconst (v := 0) hx hb dX7_tick_174 (by decide) ?_
      refine lv_istore (lv' := [(4, .int 0), (3, .int 0), (0, .ref (tb_ad g q0)), (1, .int x1), (2, .int x2)]) hx hb dX7_tick_175 hl (by decide) rfl (fun ls hl => ?_)
      exact tX7_tick_L177 q0 hq0 F tb_N x1 0 0 M _ _ _ hP hS (lv_sub hl [2, 3, 1, 0] rfl) h
    · have h := tb_ineg c25 h
      refine lv_iload_n hx hb dX7_tick_133 rfl (lv_at hl 2 rfl) ?_
      refine lv_iload_n hx hb dX7_tick_134 rfl (lv_at hl 3 rfl) ?_
      obtain ⟨r28, M26, e27, h⟩ := tb_b2s h
      refine tb_callS F hP hS hl.1 kX7_has km_X7_123 (as := [.int x2, .int x3]) (tX7_has g l x2 x3 M M26 r28 e27) ⟨rfl, rfl, Nat.le_of_ble_eq_true rfl, Nat.le_of_ble_eq_true rfl⟩ rfl (rest := []) rfl (st1 := [.int r28]) rfl (Nat.le_of_ble_eq_true rfl) ⟨Nat.zero_le _, Nat.zero_le _⟩ dX7_tick_135 (fun H locs hP hS => ?_)
      refine lv_if_eq (tgt := 166) hx hb dX7_tick_138 (by decide) (fun c29 => ?_) (fun c29 => ?_)
      · have h := tb_ip c29 h
        refine lv_iinc (v := (x3 + 1)) (lv' := [(3, .int (x3 + 1)), (0, .ref (tb_ad g q0)), (1, .int x1), (2, .int x2)]) hx hb dX7_tick_166 hl (k := 3) rfl rfl (by decide) rfl (fun ls hl => ?_)
        refine lv_goto (tgt := 128) hx hb dX7_tick_169 (by decide) ?_
        exact ih x1 x2 (x3 + 1) M26 _ _ _ hP hS (lv_sub hl [1, 2, 3, 0] rfl) h
      · have h := tb_ineg c29 h
        refine lv_aload_n hx hb dX7_tick_141 rfl (lv_at hl 0 rfl) ?_
        refine lv_iconst (v := 2) hx hb dX7_tick_142 (by decide) ?_
        refine lv_iload_n hx hb dX7_tick_143 rfl (lv_at hl 3 rfl) ?_
        refine lv_iadd hx hb dX7_tick_144 ?_
        obtain ⟨k30, h⟩ := tb_cks h
        refine tb_iald F hP hq0 rfl (tb_inv k30) dX7_tick_145 ?_
        refine lv_if_lt (tgt := 166) hx hb dX7_tick_146 (by decide) (fun c31 => ?_) (fun c31 => ?_)
        · have h := tb_ip c31 h
          refine lv_iinc (v := (x3 + 1)) (lv' := [(3, .int (x3 + 1)), (0, .ref (tb_ad g q0)), (1, .int x1), (2, .int x2)]) hx hb dX7_tick_166 hl (k := 3) rfl rfl (by decide) rfl (fun ls hl => ?_)
          refine lv_goto (tgt := 128) hx hb dX7_tick_169 (by decide) ?_
          exact ih x1 x2 (x3 + 1) M26 _ _ _ hP hS (lv_sub hl [1, 2, 3, 0] rfl) h
        · have h := tb_ineg c31 h
          refine lv_aload_n hx hb dX7_tick_149 rfl (lv_at hl 0 rfl) ?_
          refine lv_bipush (v := 10) hx hb dX7_tick_150 (by decide) ?_
          refine lv_iload_n hx hb dX7_tick_152 rfl (lv_at hl 3 rfl) ?_
          refine lv_iadd hx hb dX7_tick_153 ?_
          refine lv_aload_n hx hb dX7_tick_154 rfl (lv_at hl 0 rfl) ?_
          refine lv_iload_n hx hb dX7_tick_155 rfl (lv_at hl 3 rfl) ?_
          obtain ⟨r34, M32, e33, h⟩ := tb_b2s h
          refine tb_callS F hP hS hl.1 kX7_high km_X7_116 (as := [.ref (tb_ad g q0), .int x3]) (tX7_high g l q0 hq0 x3 M26 M32 r34 e33) ⟨rfl, rfl, Nat.le_of_ble_eq_true rfl, Nat.le_of_ble_eq_true rfl⟩ rfl (rest := [.int (10 + x3), .ref (tb_ad g q0)]) rfl (st1 := [.int r34, .int (10 + x3), .ref (tb_ad g q0)]) rfl (Nat.le_of_ble_eq_true rfl) ⟨Nat.zero_le _, Nat.zero_le _⟩ dX7_tick_156 (fun H locs hP hS => ?_)
          obtain ⟨k35, h⟩ := tb_cks h
          obtain ⟨M36, e37, h⟩ := tb_lets h
          refine tb_iast F hP hS hq0 rfl (tb_inv k35) dX7_tick_159 (fun H locs hP hS => ?_)
          rw [← e37] at hP
          refine lv_aload_n hx hb dX7_tick_160 rfl (lv_at hl 0 rfl) ?_
          refine lv_iconst (v := 2) hx hb dX7_tick_161 (by decide) ?_
          refine lv_iload_n hx hb dX7_tick_162 rfl (lv_at hl 3 rfl) ?_
          refine lv_iadd hx hb dX7_tick_163 ?_
          refine lv_iconst (v := (-1)) hx hb dX7_tick_164 (by decide) ?_
          obtain ⟨M38, e39, h⟩ := tb_lets h
          refine tb_iast F hP hS hq0 rfl (tb_inv k30) dX7_tick_165 (fun H locs hP hS => ?_)
          rw [← e39] at hP
          refine lv_iinc (v := (x3 + 1)) (lv' := [(3, .int (x3 + 1)), (0, .ref (tb_ad g q0)), (1, .int x1), (2, .int x2)]) hx hb dX7_tick_166 hl (k := 3) rfl rfl (by decide) rfl (fun ls hl => ?_)
          refine lv_goto (tgt := 128) hx hb dX7_tick_169 (by decide) ?_
          exact ih x1 x2 (x3 + 1) M38 _ _ _ hP hS (lv_sub hl [1, 2, 3, 0] rfl) h
set_option maxHeartbeats 4000000 in
set_option maxRecDepth 100000 in
theorem tX7_tick_L83 {g : tb_GT} {l : Launch} {P : Program} {e : Env} {s : State} {m : MethodId} {below : List Frame} {meth : Method} {c : Code} (q0 : Nat) (hq0 : tb_lay q0 = tb_ar 63) {M' : tb_Mem} {r : Int32} (F : tb_F g cX7_tick 5 RX7 (some .int) (Cond.code yX7_tick cX7_tick 5 (some .int)) P s m ([.ref (tb_ad g q0)] : List Value).toArray meth c) (K73 : Int32 → Int32 → Int32 → tb_Mem → Option (Int32 × tb_Mem)) (hK73 : ∀ (x1 : Int32) (x2 : Int32) (x3 : Int32) (M : tb_Mem) (H : Heap) (locs : List Loc) (ls : Array Slot), tb_P g M H → va_S (tb_A g) s.heap H locs → lv_has ls 5 [(0, .ref (tb_ad g q0)), (1, .int x1), (2, .int x2), (3, .int x3)] → K73 x1 x2 x3 M = some (r, M') → W P l e rmX7_tick s m ([.ref (tb_ad g q0)] : List Value).toArray below meth c H locs 0 0 (MQ below (tb_Q g M' (some (.int r))) ([.ref (tb_ad g q0)] : List Value).toArray s 0 0 (tb_A g)) (F0 m 73 ls [])) :
    ∀ (n : Nat) (x1 : Int32) (x2 : Int32) (x3 : Int32) (x4 : Int32) (M : tb_Mem) (H : Heap) (locs : List Loc) (ls : Array Slot), tb_P g M H → va_S (tb_A g) s.heap H locs → lv_has ls 5 [(0, .ref (tb_ad g q0)), (1, .int x1), (2, .int x2), (3, .int x3), (4, .int x4)] → fX7_tick_L83 q0 K73 n x1 x2 x3 x4 M = some (r, M') → W P l e rmX7_tick s m ([.ref (tb_ad g q0)] : List Value).toArray below meth c H locs 0 0 (MQ below (tb_Q g M' (some (.int r))) ([.ref (tb_ad g q0)] : List Value).toArray s 0 0 (tb_A g)) (F0 m 83 ls []) := by
  have hx := F.1.1
  have hb := F.1.2.1
  intro n
  induction n with
  | zero =>
    intro x1 x2 x3 x4 M H locs ls hP hS hl h
    rw [fX7_tick_L83] at h
    exact tb_none h
  | succ n ih =>
    intro x1 x2 x3 x4 M H locs ls hP hS hl h
    rw [fX7_tick_L83] at h
    refine lv_iload hx hb dX7_tick_83 (lv_at hl 4 rfl) ?_
    refine lv_iload_n hx hb dX7_tick_85 rfl (lv_at hl 1 rfl) ?_
    refine lv_icmp_ge (tgt := 120) hx hb dX7_tick_86 (by decide) (fun c18 => ?_) (fun c18 => ?_)
    · have h := tb_ip c18 h
      refine lv_iinc (v := (x3 + 1)) (lv' := [(3, .int (x3 + 1)), (0, .ref (tb_ad g q0)), (1, .int x1), (2, .int x2), (4, .int x4)]) hx hb dX7_tick_120 hl (k := 3) rfl rfl (by decide) rfl (fun ls hl => ?_)
      refine lv_goto (tgt := 73) hx hb dX7_tick_123 (by decide) ?_
      exact hK73 x1 x2 (x3 + 1) M _ _ _ hP hS (lv_sub hl [1, 2, 3, 0] rfl) h
    · have h := tb_ineg c18 h
      refine lv_iload_n hx hb dX7_tick_89 rfl (lv_at hl 2 rfl) ?_
      refine lv_aload_n hx hb dX7_tick_90 rfl (lv_at hl 0 rfl) ?_
      refine lv_iload_n hx hb dX7_tick_91 rfl (lv_at hl 3 rfl) ?_
      refine lv_iload hx hb dX7_tick_92 (lv_at hl 4 rfl) ?_
      obtain ⟨r21, M19, e20, h⟩ := tb_b2s h
      refine tb_callS F hP hS hl.1 kX7_meets km_X7_119 (as := [.ref (tb_ad g q0), .int x3, .int x4]) (tX7_meets g l q0 hq0 x3 x4 M M19 r21 e20) ⟨rfl, rfl, Nat.le_of_ble_eq_true rfl, Nat.le_of_ble_eq_true rfl⟩ rfl (rest := [.int x2]) rfl (st1 := [.int r21, .int x2]) rfl (Nat.le_of_ble_eq_true rfl) ⟨Nat.zero_le _, Nat.zero_le _⟩ dX7_tick_94 (fun H locs hP hS => ?_)
      refine tb_mrg (g2 := F0 m 112 ls [.int ((if r21 = 0 then 0 else ((1 <<< (x3 &&& 31)) ||| (1 <<< (x4 &&& 31)))) : Int32), .int x2]) (fun hJ => ?_) ?_
      · refine lv_if_eq (tgt := 111) hx hb dX7_tick_97 (by decide) (fun c22 => ?_) (fun c22 => ?_)
        · refine lv_iconst (v := 0) hx hb dX7_tick_111 (by decide) ?_
          rw [if_pos c22] at hJ
          exact hJ
        · refine lv_iconst (v := 1) hx hb dX7_tick_100 (by decide) ?_
          refine lv_iload_n hx hb dX7_tick_101 rfl (lv_at hl 3 rfl) ?_
          refine lv_ishl hx hb dX7_tick_102 ?_
          refine lv_iconst (v := 1) hx hb dX7_tick_103 (by decide) ?_
          refine lv_iload hx hb dX7_tick_104 (lv_at hl 4 rfl) ?_
          refine lv_ishl hx hb dX7_tick_106 ?_
          refine lv_ior hx hb dX7_tick_107 ?_
          refine lv_goto (tgt := 112) hx hb dX7_tick_108 (by decide) ?_
          rw [if_neg c22] at hJ
          exact hJ
      refine lv_ior hx hb dX7_tick_112 ?_
      obtain ⟨v23, e24, h⟩ := tb_lets h
      refine tb_nmi e24 ?_
      refine lv_istore_n (lv' := [(2, .int v23), (0, .ref (tb_ad g q0)), (1, .int x1), (3, .int x3), (4, .int x4)]) hx hb dX7_tick_113 rfl hl (by decide) rfl (fun ls hl => ?_)
      refine lv_iinc (v := (x4 + 1)) (lv' := [(4, .int (x4 + 1)), (2, .int v23), (0, .ref (tb_ad g q0)), (1, .int x1), (3, .int x3)]) hx hb dX7_tick_114 hl (k := 4) rfl rfl (by decide) rfl (fun ls hl => ?_)
      refine lv_goto (tgt := 83) hx hb dX7_tick_117 (by decide) ?_
      exact ih x1 v23 x3 (x4 + 1) M19 _ _ _ hP hS (lv_sub hl [2, 3, 1, 4, 0] rfl) h
set_option maxHeartbeats 4000000 in
set_option maxRecDepth 100000 in
theorem tX7_tick_L73 {g : tb_GT} {l : Launch} {P : Program} {e : Env} {s : State} {m : MethodId} {below : List Frame} {meth : Method} {c : Code} (q0 : Nat) (hq0 : tb_lay q0 = tb_ar 63) {M' : tb_Mem} {r : Int32} (F : tb_F g cX7_tick 5 RX7 (some .int) (Cond.code yX7_tick cX7_tick 5 (some .int)) P s m ([.ref (tb_ad g q0)] : List Value).toArray meth c) :
    ∀ (n : Nat) (x1 : Int32) (x2 : Int32) (x3 : Int32) (M : tb_Mem) (H : Heap) (locs : List Loc) (ls : Array Slot), tb_P g M H → va_S (tb_A g) s.heap H locs → lv_has ls 5 [(0, .ref (tb_ad g q0)), (1, .int x1), (2, .int x2), (3, .int x3)] → fX7_tick_L73 q0 n x1 x2 x3 M = some (r, M') → W P l e rmX7_tick s m ([.ref (tb_ad g q0)] : List Value).toArray below meth c H locs 0 0 (MQ below (tb_Q g M' (some (.int r))) ([.ref (tb_ad g q0)] : List Value).toArray s 0 0 (tb_A g)) (F0 m 73 ls []) := by
  have hx := F.1.1
  have hb := F.1.2.1
  intro n
  induction n with
  | zero =>
    intro x1 x2 x3 M H locs ls hP hS hl h
    rw [fX7_tick_L73] at h
    exact tb_none h
  | succ n ih =>
    intro x1 x2 x3 M H locs ls hP hS hl h
    rw [fX7_tick_L73] at h
    refine lv_iload_n hx hb dX7_tick_73 rfl (lv_at hl 3 rfl) ?_
    refine lv_iload_n hx hb dX7_tick_74 rfl (lv_at hl 1 rfl) ?_
    refine lv_icmp_ge (tgt := 126) hx hb dX7_tick_75 (by decide) (fun c17 => ?_) (fun c17 => ?_)
    · have h := tb_ip c17 h
      refine lv_iconst (v := 0) hx hb dX7_tick_126 (by decide) ?_
      refine lv_istore_n (lv' := [(3, .int 0), (0, .ref (tb_ad g q0)), (1, .int x1), (2, .int x2)]) hx hb dX7_tick_127 rfl hl (by decide) rfl (fun ls hl => ?_)
      exact tX7_tick_L128 q0 hq0 F tb_N x1 x2 0 M _ _ _ hP hS (lv_sub hl [1, 2, 3, 0] rfl) h
    · have h := tb_ineg c17 h
      refine lv_iload_n hx hb dX7_tick_78 rfl (lv_at hl 3 rfl) ?_
      refine lv_iconst (v := 1) hx hb dX7_tick_79 (by decide) ?_
      refine lv_iadd hx hb dX7_tick_80 ?_
      refine lv_istore (lv' := [(4, .int (x3 + 1)), (0, .ref (tb_ad g q0)), (1, .int x1), (2, .int x2), (3, .int x3)]) hx hb dX7_tick_81 hl (by decide) rfl (fun ls hl => ?_)
      exact tX7_tick_L83 q0 hq0 F (fun z1 z2 z3 M => fX7_tick_L73 q0 n z1 z2 z3 M) ih tb_N x1 x2 x3 (x3 + 1) M _ _ _ hP hS (lv_sub hl [1, 2, 3, 4, 0] rfl) h
set_option maxHeartbeats 4000000 in
set_option maxRecDepth 100000 in
theorem tX7_tick_L7 {g : tb_GT} {l : Launch} {P : Program} {e : Env} {s : State} {m : MethodId} {below : List Frame} {meth : Method} {c : Code} (q0 : Nat) (hq0 : tb_lay q0 = tb_ar 63) {M' : tb_Mem} {r : Int32} (F : tb_F g cX7_tick 5 RX7 (some .int) (Cond.code yX7_tick cX7_tick 5 (some .int)) P s m ([.ref (tb_ad g q0)] : List Value).toArray meth c) :
    ∀ (n : Nat) (x1 : Int32) (x2 : Int32) (M : tb_Mem) (H : Heap) (locs : List Loc) (ls : Array Slot), tb_P g M H → va_S (tb_A g) s.heap H locs → lv_has ls 5 [(0, .ref (tb_ad g q0)), (1, .int x1), (2, .int x2)] → fX7_tick_L7 q0 n x1 x2 M = some (r, M') → W P l e rmX7_tick s m ([.ref (tb_ad g q0)] : List Value).toArray below meth c H locs 0 0 (MQ below (tb_Q g M' (some (.int r))) ([.ref (tb_ad g q0)] : List Value).toArray s 0 0 (tb_A g)) (F0 m 7 ls []) := by
  have hx := F.1.1
  have hb := F.1.2.1
  intro n
  induction n with
  | zero =>
    intro x1 x2 M H locs ls hP hS hl h
    rw [fX7_tick_L7] at h
    exact tb_none h
  | succ n ih =>
    intro x1 x2 M H locs ls hP hS hl h
    rw [fX7_tick_L7] at h
    refine lv_iload_n hx hb dX7_tick_7 rfl (lv_at hl 2 rfl) ?_
    refine lv_iload_n hx hb dX7_tick_8 rfl (lv_at hl 1 rfl) ?_
    refine lv_icmp_ge (tgt := 69) hx hb dX7_tick_9 (by decide) (fun c1 => ?_) (fun c1 => ?_)
    · have h := tb_ip c1 h
      refine lv_iconst (v := 0) hx hb dX7_tick_69 (by decide) ?_
      refine lv_istore_n (lv' := [(2, .int 0), (0, .ref (tb_ad g q0)), (1, .int x1)]) hx hb dX7_tick_70 rfl hl (by decide) rfl (fun ls hl => ?_)
      refine lv_iconst (v := 0) hx hb dX7_tick_71 (by decide) ?_
      refine lv_istore_n (lv' := [(3, .int 0), (2, .int 0), (0, .ref (tb_ad g q0)), (1, .int x1)]) hx hb dX7_tick_72 rfl hl (by decide) rfl (fun ls hl => ?_)
      exact tX7_tick_L73 q0 hq0 F tb_N x1 0 0 M _ _ _ hP hS (lv_sub hl [2, 3, 1, 0] rfl) h
    · have h := tb_ineg c1 h
      refine lv_aload_n hx hb dX7_tick_12 rfl (lv_at hl 0 rfl) ?_
      refine lv_iconst (v := 2) hx hb dX7_tick_13 (by decide) ?_
      refine lv_iload_n hx hb dX7_tick_14 rfl (lv_at hl 2 rfl) ?_
      refine lv_iadd hx hb dX7_tick_15 ?_
      refine lv_dup2_11 hx hb dX7_tick_16 rfl rfl ?_
      obtain ⟨k2, h⟩ := tb_cks h
      refine tb_iald F hP hq0 rfl (tb_inv k2) dX7_tick_17 ?_
      refine lv_aload_n hx hb dX7_tick_18 rfl (lv_at hl 0 rfl) ?_
      refine lv_iconst (v := 2) hx hb dX7_tick_19 (by decide) ?_
      refine lv_iload_n hx hb dX7_tick_20 rfl (lv_at hl 2 rfl) ?_
      refine lv_iadd hx hb dX7_tick_21 ?_
      refine tb_iald F hP hq0 rfl (tb_inv k2) dX7_tick_22 ?_
      refine tb_mrg (g2 := F0 m 31 ls [.int ((if 0 ≤ (M q0 (2 + x2).toNatClampNeg) then 1 else 0) : Int32), .int (M q0 (2 + x2).toNatClampNeg), .int (2 + x2), .ref (tb_ad g q0)]) (fun hJ => ?_) ?_
      · refine lv_if_ge (tgt := 30) hx hb dX7_tick_23 (by decide) (fun c3 => ?_) (fun c3 => ?_)
        · refine lv_iconst (v := 1) hx hb dX7_tick_30 (by decide) ?_
          rw [if_pos c3] at hJ
          exact hJ
        · refine lv_iconst (v := 0) hx hb dX7_tick_26 (by decide) ?_
          refine lv_goto (tgt := 31) hx hb dX7_tick_27 (by decide) ?_
          rw [if_neg c3] at hJ
          exact hJ
      refine lv_iadd hx hb dX7_tick_31 ?_
      obtain ⟨M4, e5, h⟩ := tb_lets h
      refine tb_iast F hP hS hq0 rfl (tb_inv k2) dX7_tick_32 (fun H locs hP hS => ?_)
      rw [← e5] at hP
      refine lv_aload_n hx hb dX7_tick_33 rfl (lv_at hl 0 rfl) ?_
      refine lv_iconst (v := 2) hx hb dX7_tick_34 (by decide) ?_
      refine lv_iload_n hx hb dX7_tick_35 rfl (lv_at hl 2 rfl) ?_
      refine lv_iadd hx hb dX7_tick_36 ?_
      refine lv_aload_n hx hb dX7_tick_37 rfl (lv_at hl 0 rfl) ?_
      refine lv_iconst (v := 2) hx hb dX7_tick_38 (by decide) ?_
      refine lv_iload_n hx hb dX7_tick_39 rfl (lv_at hl 2 rfl) ?_
      refine lv_iadd hx hb dX7_tick_40 ?_
      refine tb_iald F hP hq0 rfl (tb_inv k2) dX7_tick_41 ?_
      refine lv_if_lt (tgt := 57) hx hb dX7_tick_42 (by decide) (fun c6 => ?_) (fun c6 => ?_)
      · have h := tb_ip c6 h
        refine lv_aload_n hx hb dX7_tick_57 rfl (lv_at hl 0 rfl) ?_
        refine lv_iconst (v := 2) hx hb dX7_tick_58 (by decide) ?_
        refine lv_iload_n hx hb dX7_tick_59 rfl (lv_at hl 2 rfl) ?_
        refine lv_iadd hx hb dX7_tick_60 ?_
        refine tb_iald F hP hq0 rfl (tb_inv k2) dX7_tick_61 ?_
        obtain ⟨M7, e8, h⟩ := tb_lets h
        refine tb_iast F hP hS hq0 rfl (tb_inv k2) dX7_tick_62 (fun H locs hP hS => ?_)
        rw [← e8] at hP
        refine lv_iinc (v := (x2 + 1)) (lv' := [(2, .int (x2 + 1)), (0, .ref (tb_ad g q0)), (1, .int x1)]) hx hb dX7_tick_63 hl (k := 2) rfl rfl (by decide) rfl (fun ls hl => ?_)
        refine lv_goto (tgt := 7) hx hb dX7_tick_66 (by decide) ?_
        exact ih x1 (x2 + 1) M7 _ _ _ hP hS (lv_sub hl [1, 2, 0] rfl) h
      · have h := tb_ineg c6 h
        refine lv_aload_n hx hb dX7_tick_45 rfl (lv_at hl 0 rfl) ?_
        refine lv_iload_n hx hb dX7_tick_46 rfl (lv_at hl 2 rfl) ?_
        obtain ⟨r11, M9, e10, h⟩ := tb_b2s h
        refine tb_callS F hP hS hl.1 kX7_high km_X7_116 (as := [.ref (tb_ad g q0), .int x2]) (tX7_high g l q0 hq0 x2 M4 M9 r11 e10) ⟨rfl, rfl, Nat.le_of_ble_eq_true rfl, Nat.le_of_ble_eq_true rfl⟩ rfl (rest := [.int (2 + x2), .ref (tb_ad g q0)]) rfl (st1 := [.int r11, .int (2 + x2), .ref (tb_ad g q0)]) rfl (Nat.le_of_ble_eq_true rfl) ⟨Nat.zero_le _, Nat.zero_le _⟩ dX7_tick_47 (fun H locs hP hS => ?_)
        refine lv_if_gt (tgt := 57) hx hb dX7_tick_50 (by decide) (fun c12 => ?_) (fun c12 => ?_)
        · have h := tb_ip c12 h
          refine lv_aload_n hx hb dX7_tick_57 rfl (lv_at hl 0 rfl) ?_
          refine lv_iconst (v := 2) hx hb dX7_tick_58 (by decide) ?_
          refine lv_iload_n hx hb dX7_tick_59 rfl (lv_at hl 2 rfl) ?_
          refine lv_iadd hx hb dX7_tick_60 ?_
          refine tb_iald F hP hq0 rfl (tb_inv k2) dX7_tick_61 ?_
          obtain ⟨M13, e14, h⟩ := tb_lets h
          refine tb_iast F hP hS hq0 rfl (tb_inv k2) dX7_tick_62 (fun H locs hP hS => ?_)
          rw [← e14] at hP
          refine lv_iinc (v := (x2 + 1)) (lv' := [(2, .int (x2 + 1)), (0, .ref (tb_ad g q0)), (1, .int x1)]) hx hb dX7_tick_63 hl (k := 2) rfl rfl (by decide) rfl (fun ls hl => ?_)
          refine lv_goto (tgt := 7) hx hb dX7_tick_66 (by decide) ?_
          exact ih x1 (x2 + 1) M13 _ _ _ hP hS (lv_sub hl [1, 2, 0] rfl) h
        · have h := tb_ineg c12 h
          refine lv_iconst (v := (-1)) hx hb dX7_tick_53 (by decide) ?_
          refine lv_goto (tgt := 62) hx hb dX7_tick_54 (by decide) ?_
          obtain ⟨M15, e16, h⟩ := tb_lets h
          refine tb_iast F hP hS hq0 rfl (tb_inv k2) dX7_tick_62 (fun H locs hP hS => ?_)
          rw [← e16] at hP
          refine lv_iinc (v := (x2 + 1)) (lv' := [(2, .int (x2 + 1)), (0, .ref (tb_ad g q0)), (1, .int x1)]) hx hb dX7_tick_63 hl (k := 2) rfl rfl (by decide) rfl (fun ls hl => ?_)
          refine lv_goto (tgt := 7) hx hb dX7_tick_66 (by decide) ?_
          exact ih x1 (x2 + 1) M15 _ _ _ hP hS (lv_sub hl [1, 2, 0] rfl) h
set_option maxHeartbeats 4000000 in
set_option maxRecDepth 100000 in
theorem tX7_tick (g : tb_GT) (l : Launch) (q0 : Nat) (hq0 : tb_lay q0 = tb_ar 63) (M M' : tb_Mem) (r : Int32) (h : fX7_tick q0 M = some (r, M')) : tb_C g l yX7_tick (Cond.code yX7_tick cX7_tick 5 (some .int)) rmX7_tick [.ref (tb_ad g q0)] M M' (some (.int r)) := by
  refine tb_entry (by decide) (Nat.le_of_ble_eq_true rfl) ?_
  intro P e s m below meth c F hP hS ls hl
  have F : tb_F g cX7_tick 5 RX7 (some .int) (Cond.code yX7_tick cX7_tick 5 (some .int)) P s m ([.ref (tb_ad g q0)] : List Value).toArray meth c := F
  have hx := F.1.1
  have hb := F.1.2.1
  have hl : lv_has ls 5 [(0, .ref (tb_ad g q0))] := hl
  unfold fX7_tick at h
  refine lv_aload_n hx hb dX7_tick_0 rfl (lv_at hl 0 rfl) ?_
  refine lv_bipush (v := 46) hx hb dX7_tick_1 (by decide) ?_
  refine tb_iald F hP hq0 (k := 46) (by decide +kernel) (tb_inv (i := 46) (n := 63) (by decide +kernel)) dX7_tick_3 ?_
  refine lv_istore_n (lv' := [(1, .int (M q0 46)), (0, .ref (tb_ad g q0))]) hx hb dX7_tick_4 rfl hl (by decide) rfl (fun ls hl => ?_)
  refine lv_iconst (v := 0) hx hb dX7_tick_5 (by decide) ?_
  refine lv_istore_n (lv' := [(2, .int 0), (1, .int (M q0 46)), (0, .ref (tb_ad g q0))]) hx hb dX7_tick_6 rfl hl (by decide) rfl (fun ls hl => ?_)
  exact tX7_tick_L7 q0 hq0 F tb_N (M q0 46) 0 M _ _ _ hP hS (lv_sub hl [2, 1, 0] rfl) h

def fX7_hanging_L4 (q0 : Nat) : Nat → Int32 → Int32 → tb_Mem → Option (Int32 × tb_Mem)
  | 0, _, _, _ => none
  | n + 1, x1, x2, M => if (M q0 46) ≤ x2 then (some (x1, M)) else (tb_ck (tb_in (10 + x2) 63) (tb_let ((x1 ||| ((if (M q0 (10 + x2).toNatClampNeg) ≤ 0 then 0 else (1 <<< (x2 &&& 31))) : Int32)) : Int32) (fun v4 => fX7_hanging_L4 q0 n v4 (x2 + 1) M)))
def fX7_hanging (q0 : Nat) (M : tb_Mem) : Option (Int32 × tb_Mem) :=
  fX7_hanging_L4 q0 tb_N 0 0 M
abbrev rmX7_hanging : Room := { frames := 0, cells := 0, slots := 0, locals := 0 }
set_option maxHeartbeats 4000000 in
set_option maxRecDepth 100000 in
theorem tX7_hanging_L4 {g : tb_GT} {l : Launch} {P : Program} {e : Env} {s : State} {m : MethodId} {below : List Frame} {meth : Method} {c : Code} (q0 : Nat) (hq0 : tb_lay q0 = tb_ar 63) {M' : tb_Mem} {r : Int32} (F : tb_F g cX7_hanging 3 RX7 (some .int) (Cond.code yX7_hanging cX7_hanging 3 (some .int)) P s m ([.ref (tb_ad g q0)] : List Value).toArray meth c) :
    ∀ (n : Nat) (x1 : Int32) (x2 : Int32) (M : tb_Mem) (H : Heap) (locs : List Loc) (ls : Array Slot), tb_P g M H → va_S (tb_A g) s.heap H locs → lv_has ls 3 [(0, .ref (tb_ad g q0)), (1, .int x1), (2, .int x2)] → fX7_hanging_L4 q0 n x1 x2 M = some (r, M') → W P l e rmX7_hanging s m ([.ref (tb_ad g q0)] : List Value).toArray below meth c H locs 0 0 (MQ below (tb_Q g M' (some (.int r))) ([.ref (tb_ad g q0)] : List Value).toArray s 0 0 (tb_A g)) (F0 m 4 ls []) := by
  have hx := F.1.1
  have hb := F.1.2.1
  intro n
  induction n with
  | zero =>
    intro x1 x2 M H locs ls hP hS hl h
    rw [fX7_hanging_L4] at h
    exact tb_none h
  | succ n ih =>
    intro x1 x2 M H locs ls hP hS hl h
    rw [fX7_hanging_L4] at h
    refine lv_iload_n hx hb dX7_hanging_4 rfl (lv_at hl 2 rfl) ?_
    refine lv_aload_n hx hb dX7_hanging_5 rfl (lv_at hl 0 rfl) ?_
    refine lv_bipush (v := 46) hx hb dX7_hanging_6 (by decide) ?_
    refine tb_iald F hP hq0 (k := 46) (by decide +kernel) (tb_inv (i := 46) (n := 63) (by decide +kernel)) dX7_hanging_8 ?_
    refine lv_icmp_ge (tgt := 37) hx hb dX7_hanging_9 (by decide) (fun c1 => ?_) (fun c1 => ?_)
    · have h := tb_ip c1 h
      refine lv_iload_n hx hb dX7_hanging_37 rfl (lv_at hl 1 rfl) ?_
      exact tb_iret h F hP hS dX7_hanging_38
    · have h := tb_ineg c1 h
      refine lv_iload_n hx hb dX7_hanging_12 rfl (lv_at hl 1 rfl) ?_
      refine lv_aload_n hx hb dX7_hanging_13 rfl (lv_at hl 0 rfl) ?_
      refine lv_bipush (v := 10) hx hb dX7_hanging_14 (by decide) ?_
      refine lv_iload_n hx hb dX7_hanging_16 rfl (lv_at hl 2 rfl) ?_
      refine lv_iadd hx hb dX7_hanging_17 ?_
      obtain ⟨k2, h⟩ := tb_cks h
      refine tb_iald F hP hq0 rfl (tb_inv k2) dX7_hanging_18 ?_
      refine tb_mrg (g2 := F0 m 29 ls [.int ((if (M q0 (10 + x2).toNatClampNeg) ≤ 0 then 0 else (1 <<< (x2 &&& 31))) : Int32), .int x1]) (fun hJ => ?_) ?_
      · refine lv_if_le (tgt := 28) hx hb dX7_hanging_19 (by decide) (fun c3 => ?_) (fun c3 => ?_)
        · refine lv_iconst (v := 0) hx hb dX7_hanging_28 (by decide) ?_
          rw [if_pos c3] at hJ
          exact hJ
        · refine lv_iconst (v := 1) hx hb dX7_hanging_22 (by decide) ?_
          refine lv_iload_n hx hb dX7_hanging_23 rfl (lv_at hl 2 rfl) ?_
          refine lv_ishl hx hb dX7_hanging_24 ?_
          refine lv_goto (tgt := 29) hx hb dX7_hanging_25 (by decide) ?_
          rw [if_neg c3] at hJ
          exact hJ
      refine lv_ior hx hb dX7_hanging_29 ?_
      obtain ⟨v4, e5, h⟩ := tb_lets h
      refine tb_nmi e5 ?_
      refine lv_istore_n (lv' := [(1, .int v4), (0, .ref (tb_ad g q0)), (2, .int x2)]) hx hb dX7_hanging_30 rfl hl (by decide) rfl (fun ls hl => ?_)
      refine lv_iinc (v := (x2 + 1)) (lv' := [(2, .int (x2 + 1)), (1, .int v4), (0, .ref (tb_ad g q0))]) hx hb dX7_hanging_31 hl (k := 2) rfl rfl (by decide) rfl (fun ls hl => ?_)
      refine lv_goto (tgt := 4) hx hb dX7_hanging_34 (by decide) ?_
      exact ih v4 (x2 + 1) M _ _ _ hP hS (lv_sub hl [2, 1, 0] rfl) h
set_option maxHeartbeats 4000000 in
set_option maxRecDepth 100000 in
theorem tX7_hanging (g : tb_GT) (l : Launch) (q0 : Nat) (hq0 : tb_lay q0 = tb_ar 63) (M M' : tb_Mem) (r : Int32) (h : fX7_hanging q0 M = some (r, M')) : tb_C g l yX7_hanging (Cond.code yX7_hanging cX7_hanging 3 (some .int)) rmX7_hanging [.ref (tb_ad g q0)] M M' (some (.int r)) := by
  refine tb_entry (by decide) (Nat.le_of_ble_eq_true rfl) ?_
  intro P e s m below meth c F hP hS ls hl
  have F : tb_F g cX7_hanging 3 RX7 (some .int) (Cond.code yX7_hanging cX7_hanging 3 (some .int)) P s m ([.ref (tb_ad g q0)] : List Value).toArray meth c := F
  have hx := F.1.1
  have hb := F.1.2.1
  have hl : lv_has ls 3 [(0, .ref (tb_ad g q0))] := hl
  unfold fX7_hanging at h
  refine lv_iconst (v := 0) hx hb dX7_hanging_0 (by decide) ?_
  refine lv_istore_n (lv' := [(1, .int 0), (0, .ref (tb_ad g q0))]) hx hb dX7_hanging_1 rfl hl (by decide) rfl (fun ls hl => ?_)
  refine lv_iconst (v := 0) hx hb dX7_hanging_2 (by decide) ?_
  refine lv_istore_n (lv' := [(2, .int 0), (1, .int 0), (0, .ref (tb_ad g q0))]) hx hb dX7_hanging_3 rfl hl (by decide) rfl (fun ls hl => ?_)
  exact tX7_hanging_L4 q0 hq0 F tb_N 0 0 M _ _ _ hP hS (lv_sub hl [2, 1, 0] rfl) h
def fX7_moving_L4 (q0 : Nat) : Nat → Int32 → Int32 → tb_Mem → Option (Int32 × tb_Mem)
  | 0, _, _, _ => none
  | n + 1, x1, x2, M => if (M q0 46) ≤ x2 then (some (x1, M)) else (tb_ck (tb_in (2 + x2) 63) (tb_let ((x1 ||| ((if (M q0 (2 + x2).toNatClampNeg) < 0 then 0 else (1 <<< (x2 &&& 31))) : Int32)) : Int32) (fun v4 => fX7_moving_L4 q0 n v4 (x2 + 1) M)))
def fX7_moving (q0 : Nat) (M : tb_Mem) : Option (Int32 × tb_Mem) :=
  fX7_moving_L4 q0 tb_N 0 0 M
abbrev rmX7_moving : Room := { frames := 0, cells := 0, slots := 0, locals := 0 }
set_option maxHeartbeats 4000000 in
set_option maxRecDepth 100000 in
theorem tX7_moving_L4 {g : tb_GT} {l : Launch} {P : Program} {e : Env} {s : State} {m : MethodId} {below : List Frame} {meth : Method} {c : Code} (q0 : Nat) (hq0 : tb_lay q0 = tb_ar 63) {M' : tb_Mem} {r : Int32} (F : tb_F g cX7_moving 3 RX7 (some .int) (Cond.code yX7_moving cX7_moving 3 (some .int)) P s m ([.ref (tb_ad g q0)] : List Value).toArray meth c) :
    ∀ (n : Nat) (x1 : Int32) (x2 : Int32) (M : tb_Mem) (H : Heap) (locs : List Loc) (ls : Array Slot), tb_P g M H → va_S (tb_A g) s.heap H locs → lv_has ls 3 [(0, .ref (tb_ad g q0)), (1, .int x1), (2, .int x2)] → fX7_moving_L4 q0 n x1 x2 M = some (r, M') → W P l e rmX7_moving s m ([.ref (tb_ad g q0)] : List Value).toArray below meth c H locs 0 0 (MQ below (tb_Q g M' (some (.int r))) ([.ref (tb_ad g q0)] : List Value).toArray s 0 0 (tb_A g)) (F0 m 4 ls []) := by
  have hx := F.1.1
  have hb := F.1.2.1
  intro n
  induction n with
  | zero =>
    intro x1 x2 M H locs ls hP hS hl h
    rw [fX7_moving_L4] at h
    exact tb_none h
  | succ n ih =>
    intro x1 x2 M H locs ls hP hS hl h
    rw [fX7_moving_L4] at h
    refine lv_iload_n hx hb dX7_moving_4 rfl (lv_at hl 2 rfl) ?_
    refine lv_aload_n hx hb dX7_moving_5 rfl (lv_at hl 0 rfl) ?_
    refine lv_bipush (v := 46) hx hb dX7_moving_6 (by decide) ?_
    refine tb_iald F hP hq0 (k := 46) (by decide +kernel) (tb_inv (i := 46) (n := 63) (by decide +kernel)) dX7_moving_8 ?_
    refine lv_icmp_ge (tgt := 36) hx hb dX7_moving_9 (by decide) (fun c1 => ?_) (fun c1 => ?_)
    · have h := tb_ip c1 h
      refine lv_iload_n hx hb dX7_moving_36 rfl (lv_at hl 1 rfl) ?_
      exact tb_iret h F hP hS dX7_moving_37
    · have h := tb_ineg c1 h
      refine lv_iload_n hx hb dX7_moving_12 rfl (lv_at hl 1 rfl) ?_
      refine lv_aload_n hx hb dX7_moving_13 rfl (lv_at hl 0 rfl) ?_
      refine lv_iconst (v := 2) hx hb dX7_moving_14 (by decide) ?_
      refine lv_iload_n hx hb dX7_moving_15 rfl (lv_at hl 2 rfl) ?_
      refine lv_iadd hx hb dX7_moving_16 ?_
      obtain ⟨k2, h⟩ := tb_cks h
      refine tb_iald F hP hq0 rfl (tb_inv k2) dX7_moving_17 ?_
      refine tb_mrg (g2 := F0 m 28 ls [.int ((if (M q0 (2 + x2).toNatClampNeg) < 0 then 0 else (1 <<< (x2 &&& 31))) : Int32), .int x1]) (fun hJ => ?_) ?_
      · refine lv_if_lt (tgt := 27) hx hb dX7_moving_18 (by decide) (fun c3 => ?_) (fun c3 => ?_)
        · refine lv_iconst (v := 0) hx hb dX7_moving_27 (by decide) ?_
          rw [if_pos c3] at hJ
          exact hJ
        · refine lv_iconst (v := 1) hx hb dX7_moving_21 (by decide) ?_
          refine lv_iload_n hx hb dX7_moving_22 rfl (lv_at hl 2 rfl) ?_
          refine lv_ishl hx hb dX7_moving_23 ?_
          refine lv_goto (tgt := 28) hx hb dX7_moving_24 (by decide) ?_
          rw [if_neg c3] at hJ
          exact hJ
      refine lv_ior hx hb dX7_moving_28 ?_
      obtain ⟨v4, e5, h⟩ := tb_lets h
      refine tb_nmi e5 ?_
      refine lv_istore_n (lv' := [(1, .int v4), (0, .ref (tb_ad g q0)), (2, .int x2)]) hx hb dX7_moving_29 rfl hl (by decide) rfl (fun ls hl => ?_)
      refine lv_iinc (v := (x2 + 1)) (lv' := [(2, .int (x2 + 1)), (1, .int v4), (0, .ref (tb_ad g q0))]) hx hb dX7_moving_30 hl (k := 2) rfl rfl (by decide) rfl (fun ls hl => ?_)
      refine lv_goto (tgt := 4) hx hb dX7_moving_33 (by decide) ?_
      exact ih v4 (x2 + 1) M _ _ _ hP hS (lv_sub hl [2, 1, 0] rfl) h
set_option maxHeartbeats 4000000 in
set_option maxRecDepth 100000 in
theorem tX7_moving (g : tb_GT) (l : Launch) (q0 : Nat) (hq0 : tb_lay q0 = tb_ar 63) (M M' : tb_Mem) (r : Int32) (h : fX7_moving q0 M = some (r, M')) : tb_C g l yX7_moving (Cond.code yX7_moving cX7_moving 3 (some .int)) rmX7_moving [.ref (tb_ad g q0)] M M' (some (.int r)) := by
  refine tb_entry (by decide) (Nat.le_of_ble_eq_true rfl) ?_
  intro P e s m below meth c F hP hS ls hl
  have F : tb_F g cX7_moving 3 RX7 (some .int) (Cond.code yX7_moving cX7_moving 3 (some .int)) P s m ([.ref (tb_ad g q0)] : List Value).toArray meth c := F
  have hx := F.1.1
  have hb := F.1.2.1
  have hl : lv_has ls 3 [(0, .ref (tb_ad g q0))] := hl
  unfold fX7_moving at h
  refine lv_iconst (v := 0) hx hb dX7_moving_0 (by decide) ?_
  refine lv_istore_n (lv' := [(1, .int 0), (0, .ref (tb_ad g q0))]) hx hb dX7_moving_1 rfl hl (by decide) rfl (fun ls hl => ?_)
  refine lv_iconst (v := 0) hx hb dX7_moving_2 (by decide) ?_
  refine lv_istore_n (lv' := [(2, .int 0), (1, .int 0), (0, .ref (tb_ad g q0))]) hx hb dX7_moving_3 rfl hl (by decide) rfl (fun ls hl => ?_)
  exact tX7_moving_L4 q0 hq0 F tb_N 0 0 M _ _ _ hP hS (lv_sub hl [2, 1, 0] rfl) h
def fX7_rests (q0 : Nat) (a1 : Int32) (M : tb_Mem) : Option (Int32 × tb_Mem) :=
  tb_ck (tb_in (2 + a1) 63) (if 0 ≤ (M q0 (2 + a1).toNatClampNeg) then (some (0, M)) else (tb_ck (tb_in (10 + a1) 63) (some (((if (M q0 (10 + a1).toNatClampNeg) = 0 then 1 else 0) : Int32), M))))
abbrev rmX7_rests : Room := { frames := 0, cells := 0, slots := 0, locals := 0 }
set_option maxHeartbeats 4000000 in
set_option maxRecDepth 100000 in
theorem tX7_rests (g : tb_GT) (l : Launch) (q0 : Nat) (hq0 : tb_lay q0 = tb_ar 63) (a1 : Int32) (M M' : tb_Mem) (r : Int32) (h : fX7_rests q0 a1 M = some (r, M')) : tb_C g l yX7_rests (Cond.code yX7_rests cX7_rests 2 (some .boolean)) rmX7_rests [.ref (tb_ad g q0), .int a1] M M' (some (.int r)) := by
  refine tb_entry (by decide) (Nat.le_of_ble_eq_true rfl) ?_
  intro P e s m below meth c F hP hS ls hl
  have F : tb_F g cX7_rests 2 RX7 (some .boolean) (Cond.code yX7_rests cX7_rests 2 (some .boolean)) P s m ([.ref (tb_ad g q0), .int a1] : List Value).toArray meth c := F
  have hx := F.1.1
  have hb := F.1.2.1
  have hl : lv_has ls 2 [(0, .ref (tb_ad g q0)), (1, .int a1)] := hl
  unfold fX7_rests at h
  refine lv_aload_n hx hb dX7_rests_0 rfl (lv_at hl 0 rfl) ?_
  refine lv_iconst (v := 2) hx hb dX7_rests_1 (by decide) ?_
  refine lv_iload_n hx hb dX7_rests_2 rfl (lv_at hl 1 rfl) ?_
  refine lv_iadd hx hb dX7_rests_3 ?_
  obtain ⟨k1, h⟩ := tb_cks h
  refine tb_iald F hP hq0 rfl (tb_inv k1) dX7_rests_4 ?_
  refine lv_if_ge (tgt := 21) hx hb dX7_rests_5 (by decide) (fun c2 => ?_) (fun c2 => ?_)
  · have h := tb_ip c2 h
    refine lv_iconst (v := 0) hx hb dX7_rests_21 (by decide) ?_
    exact tb_zret h F rfl hP hS dX7_rests_22
  · have h := tb_ineg c2 h
    refine lv_aload_n hx hb dX7_rests_8 rfl (lv_at hl 0 rfl) ?_
    refine lv_bipush (v := 10) hx hb dX7_rests_9 (by decide) ?_
    refine lv_iload_n hx hb dX7_rests_11 rfl (lv_at hl 1 rfl) ?_
    refine lv_iadd hx hb dX7_rests_12 ?_
    obtain ⟨k3, h⟩ := tb_cks h
    refine tb_iald F hP hq0 rfl (tb_inv k3) dX7_rests_13 ?_
    refine tb_mrg (g2 := F0 m 22 ls [.int ((if (M q0 (10 + a1).toNatClampNeg) = 0 then 1 else 0) : Int32)]) (fun hJ => ?_) ?_
    · refine lv_if_ne (tgt := 21) hx hb dX7_rests_14 (by decide) (fun c4 => ?_) (fun c4 => ?_)
      · refine lv_iconst (v := 0) hx hb dX7_rests_21 (by decide) ?_
        rw [if_neg c4] at hJ
        exact hJ
      · refine lv_iconst (v := 1) hx hb dX7_rests_17 (by decide) ?_
        refine lv_goto (tgt := 22) hx hb dX7_rests_18 (by decide) ?_
        rw [if_pos c4] at hJ
        exact hJ
    exact tb_zret h F (tb_bln (by (repeat' split) <;> decide)) hP hS dX7_rests_22
def fX7_frees_L2 (q0 : Nat) : Nat → Int32 → tb_Mem → Option (tb_Mem)
  | 0, _, _ => none
  | n + 1, x1, M => if 8 ≤ x1 then (some M) else (tb_ck (tb_in (10 + x1) 63) (tb_let (tb_up M q0 ((10 + x1).toNatClampNeg) 0) (fun M3 => fX7_frees_L2 q0 n (x1 + 1) M3)))
def fX7_frees (q0 : Nat) (M : tb_Mem) : Option (tb_Mem) :=
  fX7_frees_L2 q0 tb_N 0 M
abbrev rmX7_frees : Room := { frames := 0, cells := 0, slots := 0, locals := 0 }
set_option maxHeartbeats 4000000 in
set_option maxRecDepth 100000 in
theorem tX7_frees_L2 {g : tb_GT} {l : Launch} {P : Program} {e : Env} {s : State} {m : MethodId} {below : List Frame} {meth : Method} {c : Code} (q0 : Nat) (hq0 : tb_lay q0 = tb_ar 63) {M' : tb_Mem} (F : tb_F g cX7_frees 2 RX7 none (Cond.code yX7_frees cX7_frees 2 none) P s m ([.ref (tb_ad g q0)] : List Value).toArray meth c) :
    ∀ (n : Nat) (x1 : Int32) (M : tb_Mem) (H : Heap) (locs : List Loc) (ls : Array Slot), tb_P g M H → va_S (tb_A g) s.heap H locs → lv_has ls 2 [(0, .ref (tb_ad g q0)), (1, .int x1)] → fX7_frees_L2 q0 n x1 M = some M' → W P l e rmX7_frees s m ([.ref (tb_ad g q0)] : List Value).toArray below meth c H locs 0 0 (MQ below (tb_Q g M' none) ([.ref (tb_ad g q0)] : List Value).toArray s 0 0 (tb_A g)) (F0 m 2 ls []) := by
  have hx := F.1.1
  have hb := F.1.2.1
  intro n
  induction n with
  | zero =>
    intro x1 M H locs ls hP hS hl h
    rw [fX7_frees_L2] at h
    exact tb_none h
  | succ n ih =>
    intro x1 M H locs ls hP hS hl h
    rw [fX7_frees_L2] at h
    refine lv_iload_n hx hb dX7_frees_2 rfl (lv_at hl 1 rfl) ?_
    refine lv_bipush (v := 8) hx hb dX7_frees_3 (by decide) ?_
    refine lv_icmp_ge (tgt := 21) hx hb dX7_frees_5 (by decide) (fun c1 => ?_) (fun c1 => ?_)
    · have h := tb_ip c1 h
      exact tb_vret h F hP hS dX7_frees_21
    · have h := tb_ineg c1 h
      refine lv_aload_n hx hb dX7_frees_8 rfl (lv_at hl 0 rfl) ?_
      refine lv_bipush (v := 10) hx hb dX7_frees_9 (by decide) ?_
      refine lv_iload_n hx hb dX7_frees_11 rfl (lv_at hl 1 rfl) ?_
      refine lv_iadd hx hb dX7_frees_12 ?_
      refine lv_iconst (v := 0) hx hb dX7_frees_13 (by decide) ?_
      obtain ⟨k2, h⟩ := tb_cks h
      obtain ⟨M3, e4, h⟩ := tb_lets h
      refine tb_iast F hP hS hq0 rfl (tb_inv k2) dX7_frees_14 (fun H locs hP hS => ?_)
      rw [← e4] at hP
      refine lv_iinc (v := (x1 + 1)) (lv' := [(1, .int (x1 + 1)), (0, .ref (tb_ad g q0))]) hx hb dX7_frees_15 hl (k := 1) rfl rfl (by decide) rfl (fun ls hl => ?_)
      refine lv_goto (tgt := 2) hx hb dX7_frees_18 (by decide) ?_
      exact ih (x1 + 1) M3 _ _ _ hP hS (lv_sub hl [1, 0] rfl) h
set_option maxHeartbeats 4000000 in
set_option maxRecDepth 100000 in
theorem tX7_frees (g : tb_GT) (l : Launch) (q0 : Nat) (hq0 : tb_lay q0 = tb_ar 63) (M M' : tb_Mem) (h : fX7_frees q0 M = some M') : tb_C g l yX7_frees (Cond.code yX7_frees cX7_frees 2 none) rmX7_frees [.ref (tb_ad g q0)] M M' none := by
  refine tb_entry (by decide) (Nat.le_of_ble_eq_true rfl) ?_
  intro P e s m below meth c F hP hS ls hl
  have F : tb_F g cX7_frees 2 RX7 none (Cond.code yX7_frees cX7_frees 2 none) P s m ([.ref (tb_ad g q0)] : List Value).toArray meth c := F
  have hx := F.1.1
  have hb := F.1.2.1
  have hl : lv_has ls 2 [(0, .ref (tb_ad g q0))] := hl
  unfold fX7_frees at h
  refine lv_iconst (v := 0) hx hb dX7_frees_0 (by decide) ?_
  refine lv_istore_n (lv' := [(1, .int 0), (0, .ref (tb_ad g q0))]) hx hb dX7_frees_1 rfl hl (by decide) rfl (fun ls hl => ?_)
  exact tX7_frees_L2 q0 hq0 F tb_N 0 M _ _ _ hP hS (lv_sub hl [1, 0] rfl) h
def fX7_exchanges (q0 : Nat) (a1 : Int32) (a2 : Int32) (M : tb_Mem) : Option (tb_Mem) :=
  tb_ck (tb_in (18 + a1) 63) (tb_let ((M q0 (18 + a1).toNatClampNeg) : Int32) (fun v2 => tb_ck (tb_in (18 + a2) 63) (tb_let (tb_up M q0 ((18 + a1).toNatClampNeg) (M q0 (18 + a2).toNatClampNeg)) (fun M5 => tb_let (tb_up M5 q0 ((18 + a2).toNatClampNeg) v2) (fun M7 => some M7)))))
abbrev rmX7_exchanges : Room := { frames := 0, cells := 0, slots := 0, locals := 0 }
set_option maxHeartbeats 4000000 in
set_option maxRecDepth 100000 in
theorem tX7_exchanges (g : tb_GT) (l : Launch) (q0 : Nat) (hq0 : tb_lay q0 = tb_ar 63) (a1 : Int32) (a2 : Int32) (M M' : tb_Mem) (h : fX7_exchanges q0 a1 a2 M = some M') : tb_C g l yX7_exchanges (Cond.code yX7_exchanges cX7_exchanges 4 none) rmX7_exchanges [.ref (tb_ad g q0), .int a1, .int a2] M M' none := by
  refine tb_entry (by decide) (Nat.le_of_ble_eq_true rfl) ?_
  intro P e s m below meth c F hP hS ls hl
  have F : tb_F g cX7_exchanges 4 RX7 none (Cond.code yX7_exchanges cX7_exchanges 4 none) P s m ([.ref (tb_ad g q0), .int a1, .int a2] : List Value).toArray meth c := F
  have hx := F.1.1
  have hb := F.1.2.1
  have hl : lv_has ls 4 [(0, .ref (tb_ad g q0)), (1, .int a1), (2, .int a2)] := hl
  unfold fX7_exchanges at h
  refine lv_aload_n hx hb dX7_exchanges_0 rfl (lv_at hl 0 rfl) ?_
  refine lv_bipush (v := 18) hx hb dX7_exchanges_1 (by decide) ?_
  refine lv_iload_n hx hb dX7_exchanges_3 rfl (lv_at hl 1 rfl) ?_
  refine lv_iadd hx hb dX7_exchanges_4 ?_
  obtain ⟨k1, h⟩ := tb_cks h
  refine tb_iald F hP hq0 rfl (tb_inv k1) dX7_exchanges_5 ?_
  obtain ⟨v2, e3, h⟩ := tb_lets h
  refine tb_nmi e3 ?_
  refine lv_istore_n (lv' := [(3, .int v2), (0, .ref (tb_ad g q0)), (1, .int a1), (2, .int a2)]) hx hb dX7_exchanges_6 rfl hl (by decide) rfl (fun ls hl => ?_)
  refine lv_aload_n hx hb dX7_exchanges_7 rfl (lv_at hl 1 rfl) ?_
  refine lv_bipush (v := 18) hx hb dX7_exchanges_8 (by decide) ?_
  refine lv_iload_n hx hb dX7_exchanges_10 rfl (lv_at hl 2 rfl) ?_
  refine lv_iadd hx hb dX7_exchanges_11 ?_
  refine lv_aload_n hx hb dX7_exchanges_12 rfl (lv_at hl 1 rfl) ?_
  refine lv_bipush (v := 18) hx hb dX7_exchanges_13 (by decide) ?_
  refine lv_iload_n hx hb dX7_exchanges_15 rfl (lv_at hl 3 rfl) ?_
  refine lv_iadd hx hb dX7_exchanges_16 ?_
  obtain ⟨k4, h⟩ := tb_cks h
  refine tb_iald F hP hq0 rfl (tb_inv k4) dX7_exchanges_17 ?_
  obtain ⟨M5, e6, h⟩ := tb_lets h
  refine tb_iast F hP hS hq0 rfl (tb_inv k1) dX7_exchanges_18 (fun H locs hP hS => ?_)
  rw [← e6] at hP
  refine lv_aload_n hx hb dX7_exchanges_19 rfl (lv_at hl 1 rfl) ?_
  refine lv_bipush (v := 18) hx hb dX7_exchanges_20 (by decide) ?_
  refine lv_iload_n hx hb dX7_exchanges_22 rfl (lv_at hl 3 rfl) ?_
  refine lv_iadd hx hb dX7_exchanges_23 ?_
  refine lv_iload_n hx hb dX7_exchanges_24 rfl (lv_at hl 0 rfl) ?_
  obtain ⟨M7, e8, h⟩ := tb_lets h
  refine tb_iast F hP hS hq0 rfl (tb_inv k4) dX7_exchanges_25 (fun H locs hP hS => ?_)
  rw [← e8] at hP
  exact tb_vret h F hP hS dX7_exchanges_26
def fX7_ticks_L42 : Nat → Int32 → Int32 → tb_Mem → Option (Int32 × tb_Mem)
  | 0, _, _, _ => none
  | n + 1, x1, x2, M => if x1 ≤ x2 then (tb_b2 (fX7_hanging 303 M) (fun r13 M11 => some (r13, M11))) else (tb_b1 (fX7_keeps M) (fun M14 => tb_b2 (fX7_tick 303 M14) (fun r18 M16 => fX7_ticks_L42 n x1 (x2 + 1) M16)))
def fX7_ticks (a1 : Int32) (M : tb_Mem) : Option (Int32 × tb_Mem) :=
  tb_b2 (fX7_isBasket M) (fun r3 M1 => if r3 = 0 then (some ((-1000002), M1)) else (tb_b2 (fX7_in a1 1 24 M1) (fun r7 M5 => if r7 = 0 then (some ((-1000001), M5)) else (if ((M5 303 0) + a1) ≤ 9999 then (fX7_ticks_L42 tb_N a1 0 M5) else (some ((-1000003), M5))))))
abbrev rmX7_ticks : Room := { frames := 4, cells := 0, slots := 0, locals := 95 }
set_option maxHeartbeats 4000000 in
set_option maxRecDepth 100000 in
theorem tX7_ticks_L42 {g : tb_GT} {l : Launch} {P : Program} {e : Env} {s : State} {m : MethodId} {below : List Frame} {meth : Method} {c : Code} {a1 : Int32} {M' : tb_Mem} {r : Int32} (F : tb_F g cX7_ticks 3 RX7 (some .int) (Cond.code yX7_ticks cX7_ticks 3 (some .int)) P s m ([.ref (tb_ad g 297), .int a1] : List Value).toArray meth c) :
    ∀ (n : Nat) (x1 : Int32) (x2 : Int32) (M : tb_Mem) (H : Heap) (locs : List Loc) (ls : Array Slot), tb_P g M H → va_S (tb_A g) s.heap H locs → lv_has ls 3 [(0, .ref (tb_ad g 297)), (1, .int x1), (2, .int x2)] → fX7_ticks_L42 n x1 x2 M = some (r, M') → W P l e rmX7_ticks s m ([.ref (tb_ad g 297), .int a1] : List Value).toArray below meth c H locs 0 0 (MQ below (tb_Q g M' (some (.int r))) ([.ref (tb_ad g 297), .int a1] : List Value).toArray s 0 0 (tb_A g)) (F0 m 42 ls []) := by
  have hx := F.1.1
  have hb := F.1.2.1
  intro n
  induction n with
  | zero =>
    intro x1 x2 M H locs ls hP hS hl h
    rw [fX7_ticks_L42] at h
    exact tb_none h
  | succ n ih =>
    intro x1 x2 M H locs ls hP hS hl h
    rw [fX7_ticks_L42] at h
    refine lv_iload_n hx hb dX7_ticks_42 rfl (lv_at hl 2 rfl) ?_
    refine lv_iload_n hx hb dX7_ticks_43 rfl (lv_at hl 1 rfl) ?_
    refine lv_icmp_ge (tgt := 65) hx hb dX7_ticks_44 (by decide) (fun c10 => ?_) (fun c10 => ?_)
    · have h := tb_ip c10 h
      refine lv_aload_n hx hb dX7_ticks_65 rfl (lv_at hl 0 rfl) ?_
      refine tb_getr F hP tb_l297 (ci := 7) rfl inlX7 8 (by decide) rfl kf_X7_25 dX7_ticks_66 ?_
      obtain ⟨r13, M11, e12, h⟩ := tb_b2s h
      refine tb_callS F hP hS hl.1 kX7_hanging km_X7_142 (as := [.ref (tb_ad g 303)]) (tX7_hanging g l 303 tb_l303 M M11 r13 e12) ⟨rfl, rfl, Nat.le_of_ble_eq_true rfl, Nat.le_of_ble_eq_true rfl⟩ rfl (rest := []) rfl (st1 := [.int r13]) rfl (Nat.le_of_ble_eq_true rfl) ⟨Nat.zero_le _, Nat.zero_le _⟩ dX7_ticks_69 (fun H locs hP hS => ?_)
      exact tb_iret h F hP hS dX7_ticks_72
    · have h := tb_ineg c10 h
      refine lv_aload_n hx hb dX7_ticks_47 rfl (lv_at hl 0 rfl) ?_
      obtain ⟨M14, e15, h⟩ := tb_b1s h
      refine tb_callV F hP hS hl.1 kX7_keeps km_X7_135 (as := []) (tX7_keeps g l M M14 e15) tb_l297 ⟨rfl, rfl, Nat.le_of_ble_eq_true rfl, Nat.le_of_ble_eq_true rfl⟩ rfl (rest := []) rfl (st1 := []) rfl (Nat.le_of_ble_eq_true rfl) ⟨Nat.zero_le _, Nat.zero_le _⟩ dX7_ticks_48 (fun H locs hP hS => ?_)
      refine lv_aload_n hx hb dX7_ticks_51 rfl (lv_at hl 0 rfl) ?_
      refine tb_getr F hP tb_l297 (ci := 7) rfl inlX7 8 (by decide) rfl kf_X7_25 dX7_ticks_52 ?_
      obtain ⟨r18, M16, e17, h⟩ := tb_b2s h
      refine tb_callS F hP hS hl.1 kX7_tick km_X7_138 (as := [.ref (tb_ad g 303)]) (tX7_tick g l 303 tb_l303 M14 M16 r18 e17) ⟨rfl, rfl, Nat.le_of_ble_eq_true rfl, Nat.le_of_ble_eq_true rfl⟩ rfl (rest := []) rfl (st1 := [.int r18]) rfl (Nat.le_of_ble_eq_true rfl) ⟨Nat.zero_le _, Nat.zero_le _⟩ dX7_ticks_55 (fun H locs hP hS => ?_)
      refine lv_pop hx hb dX7_ticks_58 rfl ?_
      refine lv_iinc (v := (x2 + 1)) (lv' := [(2, .int (x2 + 1)), (0, .ref (tb_ad g 297)), (1, .int x1)]) hx hb dX7_ticks_59 hl (k := 2) rfl rfl (by decide) rfl (fun ls hl => ?_)
      refine lv_goto (tgt := 42) hx hb dX7_ticks_62 (by decide) ?_
      exact ih x1 (x2 + 1) M16 _ _ _ hP hS (lv_sub hl [1, 2, 0] rfl) h
set_option maxHeartbeats 4000000 in
set_option maxRecDepth 100000 in
theorem tX7_ticks (g : tb_GT) (l : Launch) (a1 : Int32) (M M' : tb_Mem) (r : Int32) (h : fX7_ticks a1 M = some (r, M')) : tb_C g l yX7_ticks (Cond.code yX7_ticks cX7_ticks 3 (some .int)) rmX7_ticks [.ref (tb_ad g 297), .int a1] M M' (some (.int r)) := by
  refine tb_entry (by decide) (Nat.le_of_ble_eq_true rfl) ?_
  intro P e s m below meth c F hP hS ls hl
  have F : tb_F g cX7_ticks 3 RX7 (some .int) (Cond.code yX7_ticks cX7_ticks 3 (some .int)) P s m ([.ref (tb_ad g 297), .int a1] : List Value).toArray meth c := F
  have hx := F.1.1
  have hb := F.1.2.1
  have hl : lv_has ls 3 [(0, .ref (tb_ad g 297)), (1, .int a1)] := hl
  unfold fX7_ticks at h
  refine lv_aload_n hx hb dX7_ticks_0 rfl (lv_at hl 0 rfl) ?_
  obtain ⟨r3, M1, e2, h⟩ := tb_b2s h
  refine tb_callV F hP hS hl.1 kX7_isBasket km_X7_131 (as := []) (tX7_isBasket g l M M1 r3 e2) tb_l297 ⟨rfl, rfl, Nat.le_of_ble_eq_true rfl, Nat.le_of_ble_eq_true rfl⟩ rfl (rest := []) rfl (st1 := [.int r3]) rfl (Nat.le_of_ble_eq_true rfl) ⟨Nat.zero_le _, Nat.zero_le _⟩ dX7_ticks_1 (fun H locs hP hS => ?_)
  refine lv_if_ne (tgt := 10) hx hb dX7_ticks_4 (by decide) (fun c4 => ?_) (fun c4 => ?_)
  · have h := tb_ineg c4 h
    refine lv_iload_n hx hb dX7_ticks_10 rfl (lv_at hl 1 rfl) ?_
    refine lv_iconst (v := 1) hx hb dX7_ticks_11 (by decide) ?_
    refine lv_bipush (v := 24) hx hb dX7_ticks_12 (by decide) ?_
    obtain ⟨r7, M5, e6, h⟩ := tb_b2s h
    refine tb_callS F hP hS hl.1 kX7_in km_X7_47 (as := [.int a1, .int 1, .int 24]) (tX7_in g l a1 1 24 M1 M5 r7 e6) ⟨rfl, rfl, Nat.le_of_ble_eq_true rfl, Nat.le_of_ble_eq_true rfl⟩ rfl (rest := []) rfl (st1 := [.int r7]) rfl (Nat.le_of_ble_eq_true rfl) ⟨Nat.zero_le _, Nat.zero_le _⟩ dX7_ticks_14 (fun H locs hP hS => ?_)
    refine lv_if_ne (tgt := 23) hx hb dX7_ticks_17 (by decide) (fun c8 => ?_) (fun c8 => ?_)
    · have h := tb_ineg c8 h
      refine lv_aload_n hx hb dX7_ticks_23 rfl (lv_at hl 0 rfl) ?_
      refine tb_getr F hP tb_l297 (ci := 7) rfl inlX7 8 (by decide) rfl kf_X7_25 dX7_ticks_24 ?_
      refine lv_iconst (v := 0) hx hb dX7_ticks_27 (by decide) ?_
      refine tb_iald F hP tb_l303 (k := 0) (by decide +kernel) (tb_inv (i := 0) (n := 63) (by decide +kernel)) dX7_ticks_28 ?_
      refine lv_iload_n hx hb dX7_ticks_29 rfl (lv_at hl 1 rfl) ?_
      refine lv_iadd hx hb dX7_ticks_30 ?_
      refine lv_sipush (v := 9999) hx hb dX7_ticks_31 (by decide) ?_
      refine lv_icmp_le (tgt := 40) hx hb dX7_ticks_34 (by decide) (fun c9 => ?_) (fun c9 => ?_)
      · have h := tb_ip c9 h
        refine lv_iconst (v := 0) hx hb dX7_ticks_40 (by decide) ?_
        refine lv_istore_n (lv' := [(2, .int 0), (0, .ref (tb_ad g 297)), (1, .int a1)]) hx hb dX7_ticks_41 rfl hl (by decide) rfl (fun ls hl => ?_)
        exact tX7_ticks_L42 F tb_N a1 0 M5 _ _ _ hP hS (lv_sub hl [1, 2, 0] rfl) h
      · have h := tb_ineg c9 h
        refine lv_ldc (v := (-1000003)) hx hb F.1.2.2.2.1 (tb_hts F kc_X7_79) dX7_ticks_37 ?_
        exact tb_iret h F hP hS dX7_ticks_39
    · have h := tb_ip c8 h
      refine lv_ldc (v := (-1000001)) hx hb F.1.2.2.2.1 (tb_hts F kc_X7_62) dX7_ticks_20 ?_
      exact tb_iret h F hP hS dX7_ticks_22
  · have h := tb_ip c4 h
    refine lv_ldc (v := (-1000002)) hx hb F.1.2.2.2.1 (tb_hts F kc_X7_134) dX7_ticks_7 ?_
    exact tb_iret h F hP hS dX7_ticks_9
def fX7_key (a1 : Int32) (M : tb_Mem) : Option (Int32 × tb_Mem) :=
  tb_b2 (fX7_isBar a1 M) (fun r3 M1 => if r3 = 0 then (some ((-1000001), M1)) else (tb_b2 (fX7_rests 303 a1 M1) (fun r7 M5 => if r7 = 0 then (some ((-1000002), M5)) else (tb_b1 (fX7_keeps M5) (fun M9 => tb_ck (tb_in (2 + a1) 63) (tb_let (tb_up M9 303 ((2 + a1).toNatClampNeg) 0) (fun M12 => tb_b2 (fX7_moving 303 M12) (fun r16 M14 => some (r16, M14)))))))))
abbrev rmX7_key : Room := { frames := 2, cells := 0, slots := 0, locals := 43 }
set_option maxHeartbeats 4000000 in
set_option maxRecDepth 100000 in
theorem tX7_key (g : tb_GT) (l : Launch) (a1 : Int32) (M M' : tb_Mem) (r : Int32) (h : fX7_key a1 M = some (r, M')) : tb_C g l yX7_key (Cond.code yX7_key cX7_key 2 (some .int)) rmX7_key [.ref (tb_ad g 297), .int a1] M M' (some (.int r)) := by
  refine tb_entry (by decide) (Nat.le_of_ble_eq_true rfl) ?_
  intro P e s m below meth c F hP hS ls hl
  have F : tb_F g cX7_key 2 RX7 (some .int) (Cond.code yX7_key cX7_key 2 (some .int)) P s m ([.ref (tb_ad g 297), .int a1] : List Value).toArray meth c := F
  have hx := F.1.1
  have hb := F.1.2.1
  have hl : lv_has ls 2 [(0, .ref (tb_ad g 297)), (1, .int a1)] := hl
  unfold fX7_key at h
  refine lv_aload_n hx hb dX7_key_0 rfl (lv_at hl 0 rfl) ?_
  refine lv_iload_n hx hb dX7_key_1 rfl (lv_at hl 1 rfl) ?_
  obtain ⟨r3, M1, e2, h⟩ := tb_b2s h
  refine tb_callV F hP hS hl.1 kX7_isBar km_X7_145 (as := [.int a1]) (tX7_isBar g l a1 M M1 r3 e2) tb_l297 ⟨rfl, rfl, Nat.le_of_ble_eq_true rfl, Nat.le_of_ble_eq_true rfl⟩ rfl (rest := []) rfl (st1 := [.int r3]) rfl (Nat.le_of_ble_eq_true rfl) ⟨Nat.zero_le _, Nat.zero_le _⟩ dX7_key_2 (fun H locs hP hS => ?_)
  refine lv_if_ne (tgt := 11) hx hb dX7_key_5 (by decide) (fun c4 => ?_) (fun c4 => ?_)
  · have h := tb_ineg c4 h
    refine lv_aload_n hx hb dX7_key_11 rfl (lv_at hl 0 rfl) ?_
    refine tb_getr F hP tb_l297 (ci := 7) rfl inlX7 8 (by decide) rfl kf_X7_25 dX7_key_12 ?_
    refine lv_iload_n hx hb dX7_key_15 rfl (lv_at hl 1 rfl) ?_
    obtain ⟨r7, M5, e6, h⟩ := tb_b2s h
    refine tb_callS F hP hS hl.1 kX7_rests km_X7_148 (as := [.ref (tb_ad g 303), .int a1]) (tX7_rests g l 303 tb_l303 a1 M1 M5 r7 e6) ⟨rfl, rfl, Nat.le_of_ble_eq_true rfl, Nat.le_of_ble_eq_true rfl⟩ rfl (rest := []) rfl (st1 := [.int r7]) rfl (Nat.le_of_ble_eq_true rfl) ⟨Nat.zero_le _, Nat.zero_le _⟩ dX7_key_16 (fun H locs hP hS => ?_)
    refine lv_if_ne (tgt := 25) hx hb dX7_key_19 (by decide) (fun c8 => ?_) (fun c8 => ?_)
    · have h := tb_ineg c8 h
      refine lv_aload_n hx hb dX7_key_25 rfl (lv_at hl 0 rfl) ?_
      obtain ⟨M9, e10, h⟩ := tb_b1s h
      refine tb_callV F hP hS hl.1 kX7_keeps km_X7_135 (as := []) (tX7_keeps g l M5 M9 e10) tb_l297 ⟨rfl, rfl, Nat.le_of_ble_eq_true rfl, Nat.le_of_ble_eq_true rfl⟩ rfl (rest := []) rfl (st1 := []) rfl (Nat.le_of_ble_eq_true rfl) ⟨Nat.zero_le _, Nat.zero_le _⟩ dX7_key_26 (fun H locs hP hS => ?_)
      refine lv_aload_n hx hb dX7_key_29 rfl (lv_at hl 0 rfl) ?_
      refine tb_getr F hP tb_l297 (ci := 7) rfl inlX7 8 (by decide) rfl kf_X7_25 dX7_key_30 ?_
      refine lv_iconst (v := 2) hx hb dX7_key_33 (by decide) ?_
      refine lv_iload_n hx hb dX7_key_34 rfl (lv_at hl 1 rfl) ?_
      refine lv_iadd hx hb dX7_key_35 ?_
      refine lv_iconst (v := 0) hx hb dX7_key_36 (by decide) ?_
      obtain ⟨k11, h⟩ := tb_cks h
      obtain ⟨M12, e13, h⟩ := tb_lets h
      refine tb_iast F hP hS tb_l303 rfl (tb_inv k11) dX7_key_37 (fun H locs hP hS => ?_)
      rw [← e13] at hP
      refine lv_aload_n hx hb dX7_key_38 rfl (lv_at hl 0 rfl) ?_
      refine tb_getr F hP tb_l297 (ci := 7) rfl inlX7 8 (by decide) rfl kf_X7_25 dX7_key_39 ?_
      obtain ⟨r16, M14, e15, h⟩ := tb_b2s h
      refine tb_callS F hP hS hl.1 kX7_moving km_X7_152 (as := [.ref (tb_ad g 303)]) (tX7_moving g l 303 tb_l303 M12 M14 r16 e15) ⟨rfl, rfl, Nat.le_of_ble_eq_true rfl, Nat.le_of_ble_eq_true rfl⟩ rfl (rest := []) rfl (st1 := [.int r16]) rfl (Nat.le_of_ble_eq_true rfl) ⟨Nat.zero_le _, Nat.zero_le _⟩ dX7_key_42 (fun H locs hP hS => ?_)
      exact tb_iret h F hP hS dX7_key_45
    · have h := tb_ip c8 h
      refine lv_ldc (v := (-1000002)) hx hb F.1.2.2.2.1 (tb_hts F kc_X7_134) dX7_key_22 ?_
      exact tb_iret h F hP hS dX7_key_24
  · have h := tb_ip c4 h
    refine lv_ldc (v := (-1000001)) hx hb F.1.2.2.2.1 (tb_hts F kc_X7_62) dX7_key_8 ?_
    exact tb_iret h F hP hS dX7_key_10
def fX7_ones_L4 : Nat → Int32 → Int32 → Int32 → tb_Mem → Option (Int32 × tb_Mem)
  | 0, _, _, _, _ => none
  | n + 1, x0, x1, x2, M => if 8 ≤ x2 then (some (x1, M)) else (tb_let ((x1 + ((x0 >>> (x2 &&& 31)) &&& 1)) : Int32) (fun v2 => fX7_ones_L4 n x0 v2 (x2 + 1) M))
def fX7_ones (a0 : Int32) (M : tb_Mem) : Option (Int32 × tb_Mem) :=
  fX7_ones_L4 tb_N a0 0 0 M
abbrev rmX7_ones : Room := { frames := 0, cells := 0, slots := 0, locals := 0 }
set_option maxHeartbeats 4000000 in
set_option maxRecDepth 100000 in
theorem tX7_ones_L4 {g : tb_GT} {l : Launch} {P : Program} {e : Env} {s : State} {m : MethodId} {below : List Frame} {meth : Method} {c : Code} {a0 : Int32} {M' : tb_Mem} {r : Int32} (F : tb_F g cX7_ones 3 RX7 (some .int) (Cond.code yX7_ones cX7_ones 3 (some .int)) P s m ([.int a0] : List Value).toArray meth c) :
    ∀ (n : Nat) (x0 : Int32) (x1 : Int32) (x2 : Int32) (M : tb_Mem) (H : Heap) (locs : List Loc) (ls : Array Slot), tb_P g M H → va_S (tb_A g) s.heap H locs → lv_has ls 3 [(0, .int x0), (1, .int x1), (2, .int x2)] → fX7_ones_L4 n x0 x1 x2 M = some (r, M') → W P l e rmX7_ones s m ([.int a0] : List Value).toArray below meth c H locs 0 0 (MQ below (tb_Q g M' (some (.int r))) ([.int a0] : List Value).toArray s 0 0 (tb_A g)) (F0 m 4 ls []) := by
  have hx := F.1.1
  have hb := F.1.2.1
  intro n
  induction n with
  | zero =>
    intro x0 x1 x2 M H locs ls hP hS hl h
    rw [fX7_ones_L4] at h
    exact tb_none h
  | succ n ih =>
    intro x0 x1 x2 M H locs ls hP hS hl h
    rw [fX7_ones_L4] at h
    refine lv_iload_n hx hb dX7_ones_4 rfl (lv_at hl 2 rfl) ?_
    refine lv_bipush (v := 8) hx hb dX7_ones_5 (by decide) ?_
    refine lv_icmp_ge (tgt := 24) hx hb dX7_ones_7 (by decide) (fun c1 => ?_) (fun c1 => ?_)
    · have h := tb_ip c1 h
      refine lv_iload_n hx hb dX7_ones_24 rfl (lv_at hl 1 rfl) ?_
      exact tb_iret h F hP hS dX7_ones_25
    · have h := tb_ineg c1 h
      refine lv_iload_n hx hb dX7_ones_10 rfl (lv_at hl 1 rfl) ?_
      refine lv_iload_n hx hb dX7_ones_11 rfl (lv_at hl 0 rfl) ?_
      refine lv_iload_n hx hb dX7_ones_12 rfl (lv_at hl 2 rfl) ?_
      refine lv_ishr hx hb dX7_ones_13 ?_
      refine lv_iconst (v := 1) hx hb dX7_ones_14 (by decide) ?_
      refine lv_iand hx hb dX7_ones_15 ?_
      refine lv_iadd hx hb dX7_ones_16 ?_
      obtain ⟨v2, e3, h⟩ := tb_lets h
      refine tb_nmi e3 ?_
      refine lv_istore_n (lv' := [(1, .int v2), (0, .int x0), (2, .int x2)]) hx hb dX7_ones_17 rfl hl (by decide) rfl (fun ls hl => ?_)
      refine lv_iinc (v := (x2 + 1)) (lv' := [(2, .int (x2 + 1)), (1, .int v2), (0, .int x0)]) hx hb dX7_ones_18 hl (k := 2) rfl rfl (by decide) rfl (fun ls hl => ?_)
      refine lv_goto (tgt := 4) hx hb dX7_ones_21 (by decide) ?_
      exact ih x0 v2 (x2 + 1) M _ _ _ hP hS (lv_sub hl [2, 1, 0] rfl) h
set_option maxHeartbeats 4000000 in
set_option maxRecDepth 100000 in
theorem tX7_ones (g : tb_GT) (l : Launch) (a0 : Int32) (M M' : tb_Mem) (r : Int32) (h : fX7_ones a0 M = some (r, M')) : tb_C g l yX7_ones (Cond.code yX7_ones cX7_ones 3 (some .int)) rmX7_ones [.int a0] M M' (some (.int r)) := by
  refine tb_entry (by decide) (Nat.le_of_ble_eq_true rfl) ?_
  intro P e s m below meth c F hP hS ls hl
  have F : tb_F g cX7_ones 3 RX7 (some .int) (Cond.code yX7_ones cX7_ones 3 (some .int)) P s m ([.int a0] : List Value).toArray meth c := F
  have hx := F.1.1
  have hb := F.1.2.1
  have hl : lv_has ls 3 [(0, .int a0)] := hl
  unfold fX7_ones at h
  refine lv_iconst (v := 0) hx hb dX7_ones_0 (by decide) ?_
  refine lv_istore_n (lv' := [(1, .int 0), (0, .int a0)]) hx hb dX7_ones_1 rfl hl (by decide) rfl (fun ls hl => ?_)
  refine lv_iconst (v := 0) hx hb dX7_ones_2 (by decide) ?_
  refine lv_istore_n (lv' := [(2, .int 0), (1, .int 0), (0, .int a0)]) hx hb dX7_ones_3 rfl hl (by decide) rfl (fun ls hl => ?_)
  exact tX7_ones_L4 F tb_N a0 0 0 M _ _ _ hP hS (lv_sub hl [2, 1, 0] rfl) h
def fX7_free (M : tb_Mem) : Option (Int32 × tb_Mem) :=
  tb_b2 (fX7_hanging 303 M) (fun r3 M1 => tb_b2 (fX7_ones r3 M1) (fun r6 M4 => if r6 = 0 then (some ((-1000002), M4)) else (tb_b1 (fX7_keeps M4) (fun M8 => tb_b1 (fX7_frees 303 M8) (fun M10 => some (r6, M10))))))
abbrev rmX7_free : Room := { frames := 1, cells := 0, slots := 0, locals := 22 }
set_option maxHeartbeats 4000000 in
set_option maxRecDepth 100000 in
theorem tX7_free (g : tb_GT) (l : Launch) (M M' : tb_Mem) (r : Int32) (h : fX7_free M = some (r, M')) : tb_C g l yX7_free (Cond.code yX7_free cX7_free 2 (some .int)) rmX7_free [.ref (tb_ad g 297)] M M' (some (.int r)) := by
  refine tb_entry (by decide) (Nat.le_of_ble_eq_true rfl) ?_
  intro P e s m below meth c F hP hS ls hl
  have F : tb_F g cX7_free 2 RX7 (some .int) (Cond.code yX7_free cX7_free 2 (some .int)) P s m ([.ref (tb_ad g 297)] : List Value).toArray meth c := F
  have hx := F.1.1
  have hb := F.1.2.1
  have hl : lv_has ls 2 [(0, .ref (tb_ad g 297))] := hl
  unfold fX7_free at h
  refine lv_aload_n hx hb dX7_free_0 rfl (lv_at hl 0 rfl) ?_
  refine tb_getr F hP tb_l297 (ci := 7) rfl inlX7 8 (by decide) rfl kf_X7_25 dX7_free_1 ?_
  obtain ⟨r3, M1, e2, h⟩ := tb_b2s h
  refine tb_callS F hP hS hl.1 kX7_hanging km_X7_142 (as := [.ref (tb_ad g 303)]) (tX7_hanging g l 303 tb_l303 M M1 r3 e2) ⟨rfl, rfl, Nat.le_of_ble_eq_true rfl, Nat.le_of_ble_eq_true rfl⟩ rfl (rest := []) rfl (st1 := [.int r3]) rfl (Nat.le_of_ble_eq_true rfl) ⟨Nat.zero_le _, Nat.zero_le _⟩ dX7_free_4 (fun H locs hP hS => ?_)
  obtain ⟨r6, M4, e5, h⟩ := tb_b2s h
  refine tb_callS F hP hS hl.1 kX7_ones km_X7_155 (as := [.int r3]) (tX7_ones g l r3 M1 M4 r6 e5) ⟨rfl, rfl, Nat.le_of_ble_eq_true rfl, Nat.le_of_ble_eq_true rfl⟩ rfl (rest := []) rfl (st1 := [.int r6]) rfl (Nat.le_of_ble_eq_true rfl) ⟨Nat.zero_le _, Nat.zero_le _⟩ dX7_free_7 (fun H locs hP hS => ?_)
  refine lv_istore_n (lv' := [(1, .int r6), (0, .ref (tb_ad g 297))]) hx hb dX7_free_10 rfl hl (by decide) rfl (fun ls hl => ?_)
  refine lv_iload_n hx hb dX7_free_11 rfl (lv_at hl 0 rfl) ?_
  refine lv_if_ne (tgt := 18) hx hb dX7_free_12 (by decide) (fun c7 => ?_) (fun c7 => ?_)
  · have h := tb_ineg c7 h
    refine lv_aload_n hx hb dX7_free_18 rfl (lv_at hl 1 rfl) ?_
    obtain ⟨M8, e9, h⟩ := tb_b1s h
    refine tb_callV F hP hS hl.1 kX7_keeps km_X7_135 (as := []) (tX7_keeps g l M4 M8 e9) tb_l297 ⟨rfl, rfl, Nat.le_of_ble_eq_true rfl, Nat.le_of_ble_eq_true rfl⟩ rfl (rest := []) rfl (st1 := []) rfl (Nat.le_of_ble_eq_true rfl) ⟨Nat.zero_le _, Nat.zero_le _⟩ dX7_free_19 (fun H locs hP hS => ?_)
    refine lv_aload_n hx hb dX7_free_22 rfl (lv_at hl 1 rfl) ?_
    refine tb_getr F hP tb_l297 (ci := 7) rfl inlX7 8 (by decide) rfl kf_X7_25 dX7_free_23 ?_
    obtain ⟨M10, e11, h⟩ := tb_b1s h
    refine tb_callS F hP hS hl.1 kX7_frees km_X7_158 (as := [.ref (tb_ad g 303)]) (tX7_frees g l 303 tb_l303 M8 M10 e11) ⟨rfl, rfl, Nat.le_of_ble_eq_true rfl, Nat.le_of_ble_eq_true rfl⟩ rfl (rest := []) rfl (st1 := []) rfl (Nat.le_of_ble_eq_true rfl) ⟨Nat.zero_le _, Nat.zero_le _⟩ dX7_free_26 (fun H locs hP hS => ?_)
    refine lv_iload_n hx hb dX7_free_29 rfl (lv_at hl 0 rfl) ?_
    exact tb_iret h F hP hS dX7_free_30
  · have h := tb_ip c7 h
    refine lv_ldc (v := (-1000002)) hx hb F.1.2.2.2.1 (tb_hts F kc_X7_134) dX7_free_15 ?_
    exact tb_iret h F hP hS dX7_free_17
def fX7_back_L30 : Nat → Int32 → Int32 → tb_Mem → Option (Int32 × tb_Mem)
  | 0, _, _, _ => none
  | n + 1, x1, x2, M => if 20 ≤ x2 then (some (x1, M)) else (tb_ck (tb_in (26 + x2) 63) (tb_let (tb_up M 303 ((26 + x2).toNatClampNeg) 0) (fun M11 => fX7_back_L30 n x1 (x2 + 1) M11)))
def fX7_back (M : tb_Mem) : Option (Int32 × tb_Mem) :=
  tb_b2 (fX7_isBasket M) (fun r3 M1 => if r3 = 0 then (some ((-1000002), M1)) else (tb_b1 (fX7_keeps M1) (fun M5 => tb_let (tb_up M5 303 1 0) (fun M7 => fX7_back_L30 tb_N (M5 303 1) 0 M7))))
abbrev rmX7_back : Room := { frames := 1, cells := 0, slots := 0, locals := 21 }
set_option maxHeartbeats 4000000 in
set_option maxRecDepth 100000 in
theorem tX7_back_L30 {g : tb_GT} {l : Launch} {P : Program} {e : Env} {s : State} {m : MethodId} {below : List Frame} {meth : Method} {c : Code} {M' : tb_Mem} {r : Int32} (F : tb_F g cX7_back 3 RX7 (some .int) (Cond.code yX7_back cX7_back 3 (some .int)) P s m ([.ref (tb_ad g 297)] : List Value).toArray meth c) :
    ∀ (n : Nat) (x1 : Int32) (x2 : Int32) (M : tb_Mem) (H : Heap) (locs : List Loc) (ls : Array Slot), tb_P g M H → va_S (tb_A g) s.heap H locs → lv_has ls 3 [(0, .ref (tb_ad g 297)), (1, .int x1), (2, .int x2)] → fX7_back_L30 n x1 x2 M = some (r, M') → W P l e rmX7_back s m ([.ref (tb_ad g 297)] : List Value).toArray below meth c H locs 0 0 (MQ below (tb_Q g M' (some (.int r))) ([.ref (tb_ad g 297)] : List Value).toArray s 0 0 (tb_A g)) (F0 m 30 ls []) := by
  have hx := F.1.1
  have hb := F.1.2.1
  intro n
  induction n with
  | zero =>
    intro x1 x2 M H locs ls hP hS hl h
    rw [fX7_back_L30] at h
    exact tb_none h
  | succ n ih =>
    intro x1 x2 M H locs ls hP hS hl h
    rw [fX7_back_L30] at h
    refine lv_iload_n hx hb dX7_back_30 rfl (lv_at hl 2 rfl) ?_
    refine lv_bipush (v := 20) hx hb dX7_back_31 (by decide) ?_
    refine lv_icmp_ge (tgt := 52) hx hb dX7_back_33 (by decide) (fun c9 => ?_) (fun c9 => ?_)
    · have h := tb_ip c9 h
      refine lv_iload_n hx hb dX7_back_52 rfl (lv_at hl 1 rfl) ?_
      exact tb_iret h F hP hS dX7_back_53
    · have h := tb_ineg c9 h
      refine lv_aload_n hx hb dX7_back_36 rfl (lv_at hl 0 rfl) ?_
      refine tb_getr F hP tb_l297 (ci := 7) rfl inlX7 8 (by decide) rfl kf_X7_25 dX7_back_37 ?_
      refine lv_bipush (v := 26) hx hb dX7_back_40 (by decide) ?_
      refine lv_iload_n hx hb dX7_back_42 rfl (lv_at hl 2 rfl) ?_
      refine lv_iadd hx hb dX7_back_43 ?_
      refine lv_iconst (v := 0) hx hb dX7_back_44 (by decide) ?_
      obtain ⟨k10, h⟩ := tb_cks h
      obtain ⟨M11, e12, h⟩ := tb_lets h
      refine tb_iast F hP hS tb_l303 rfl (tb_inv k10) dX7_back_45 (fun H locs hP hS => ?_)
      rw [← e12] at hP
      refine lv_iinc (v := (x2 + 1)) (lv' := [(2, .int (x2 + 1)), (0, .ref (tb_ad g 297)), (1, .int x1)]) hx hb dX7_back_46 hl (k := 2) rfl rfl (by decide) rfl (fun ls hl => ?_)
      refine lv_goto (tgt := 30) hx hb dX7_back_49 (by decide) ?_
      exact ih x1 (x2 + 1) M11 _ _ _ hP hS (lv_sub hl [1, 2, 0] rfl) h
set_option maxHeartbeats 4000000 in
set_option maxRecDepth 100000 in
theorem tX7_back (g : tb_GT) (l : Launch) (M M' : tb_Mem) (r : Int32) (h : fX7_back M = some (r, M')) : tb_C g l yX7_back (Cond.code yX7_back cX7_back 3 (some .int)) rmX7_back [.ref (tb_ad g 297)] M M' (some (.int r)) := by
  refine tb_entry (by decide) (Nat.le_of_ble_eq_true rfl) ?_
  intro P e s m below meth c F hP hS ls hl
  have F : tb_F g cX7_back 3 RX7 (some .int) (Cond.code yX7_back cX7_back 3 (some .int)) P s m ([.ref (tb_ad g 297)] : List Value).toArray meth c := F
  have hx := F.1.1
  have hb := F.1.2.1
  have hl : lv_has ls 3 [(0, .ref (tb_ad g 297))] := hl
  unfold fX7_back at h
  refine lv_aload_n hx hb dX7_back_0 rfl (lv_at hl 0 rfl) ?_
  obtain ⟨r3, M1, e2, h⟩ := tb_b2s h
  refine tb_callV F hP hS hl.1 kX7_isBasket km_X7_131 (as := []) (tX7_isBasket g l M M1 r3 e2) tb_l297 ⟨rfl, rfl, Nat.le_of_ble_eq_true rfl, Nat.le_of_ble_eq_true rfl⟩ rfl (rest := []) rfl (st1 := [.int r3]) rfl (Nat.le_of_ble_eq_true rfl) ⟨Nat.zero_le _, Nat.zero_le _⟩ dX7_back_1 (fun H locs hP hS => ?_)
  refine lv_if_ne (tgt := 10) hx hb dX7_back_4 (by decide) (fun c4 => ?_) (fun c4 => ?_)
  · have h := tb_ineg c4 h
    refine lv_aload_n hx hb dX7_back_10 rfl (lv_at hl 0 rfl) ?_
    obtain ⟨M5, e6, h⟩ := tb_b1s h
    refine tb_callV F hP hS hl.1 kX7_keeps km_X7_135 (as := []) (tX7_keeps g l M1 M5 e6) tb_l297 ⟨rfl, rfl, Nat.le_of_ble_eq_true rfl, Nat.le_of_ble_eq_true rfl⟩ rfl (rest := []) rfl (st1 := []) rfl (Nat.le_of_ble_eq_true rfl) ⟨Nat.zero_le _, Nat.zero_le _⟩ dX7_back_11 (fun H locs hP hS => ?_)
    refine lv_aload_n hx hb dX7_back_14 rfl (lv_at hl 0 rfl) ?_
    refine tb_getr F hP tb_l297 (ci := 7) rfl inlX7 8 (by decide) rfl kf_X7_25 dX7_back_15 ?_
    refine lv_iconst (v := 1) hx hb dX7_back_18 (by decide) ?_
    refine tb_iald F hP tb_l303 (k := 1) (by decide +kernel) (tb_inv (i := 1) (n := 63) (by decide +kernel)) dX7_back_19 ?_
    refine lv_istore_n (lv' := [(1, .int (M5 303 1)), (0, .ref (tb_ad g 297))]) hx hb dX7_back_20 rfl hl (by decide) rfl (fun ls hl => ?_)
    refine lv_aload_n hx hb dX7_back_21 rfl (lv_at hl 1 rfl) ?_
    refine tb_getr F hP tb_l297 (ci := 7) rfl inlX7 8 (by decide) rfl kf_X7_25 dX7_back_22 ?_
    refine lv_iconst (v := 1) hx hb dX7_back_25 (by decide) ?_
    refine lv_iconst (v := 0) hx hb dX7_back_26 (by decide) ?_
    obtain ⟨M7, e8, h⟩ := tb_lets h
    refine tb_iast F hP hS tb_l303 (k := 1) (by decide +kernel) (tb_inv (i := 1) (n := 63) (by decide +kernel)) dX7_back_27 (fun H locs hP hS => ?_)
    rw [← e8] at hP
    refine lv_iconst (v := 0) hx hb dX7_back_28 (by decide) ?_
    refine lv_istore_n (lv' := [(2, .int 0), (1, .int (M5 303 1)), (0, .ref (tb_ad g 297))]) hx hb dX7_back_29 rfl hl (by decide) rfl (fun ls hl => ?_)
    exact tX7_back_L30 F tb_N (M5 303 1) 0 M7 _ _ _ hP hS (lv_sub hl [2, 1, 0] rfl) h
  · have h := tb_ip c4 h
    refine lv_ldc (v := (-1000002)) hx hb F.1.2.2.2.1 (tb_hts F kc_X7_134) dX7_back_7 ?_
    exact tb_iret h F hP hS dX7_back_9
def fX7_swap (a1 : Int32) (a2 : Int32) (M : tb_Mem) : Option (Int32 × tb_Mem) :=
  tb_b2 (fX7_isBar a1 M) (fun r3 M1 => if r3 = 0 then (some ((-1000001), M1)) else (tb_b2 (fX7_isBar a2 M1) (fun r7 M5 => if r7 = 0 then (some ((-1000001), M5)) else (if a1 = a2 then (some ((-1000001), M5)) else (tb_b1 (fX7_keeps M5) (fun M10 => tb_b1 (fX7_exchanges 303 a1 a2 M10) (fun M12 => tb_ck (tb_in (18 + a1) 63) (some ((M12 303 (18 + a1).toNatClampNeg), M12)))))))))
abbrev rmX7_swap : Room := { frames := 2, cells := 0, slots := 0, locals := 43 }
set_option maxHeartbeats 4000000 in
set_option maxRecDepth 100000 in
theorem tX7_swap (g : tb_GT) (l : Launch) (a1 : Int32) (a2 : Int32) (M M' : tb_Mem) (r : Int32) (h : fX7_swap a1 a2 M = some (r, M')) : tb_C g l yX7_swap (Cond.code yX7_swap cX7_swap 3 (some .int)) rmX7_swap [.ref (tb_ad g 297), .int a1, .int a2] M M' (some (.int r)) := by
  refine tb_entry (by decide) (Nat.le_of_ble_eq_true rfl) ?_
  intro P e s m below meth c F hP hS ls hl
  have F : tb_F g cX7_swap 3 RX7 (some .int) (Cond.code yX7_swap cX7_swap 3 (some .int)) P s m ([.ref (tb_ad g 297), .int a1, .int a2] : List Value).toArray meth c := F
  have hx := F.1.1
  have hb := F.1.2.1
  have hl : lv_has ls 3 [(0, .ref (tb_ad g 297)), (1, .int a1), (2, .int a2)] := hl
  unfold fX7_swap at h
  refine lv_aload_n hx hb dX7_swap_0 rfl (lv_at hl 0 rfl) ?_
  refine lv_iload_n hx hb dX7_swap_1 rfl (lv_at hl 1 rfl) ?_
  obtain ⟨r3, M1, e2, h⟩ := tb_b2s h
  refine tb_callV F hP hS hl.1 kX7_isBar km_X7_145 (as := [.int a1]) (tX7_isBar g l a1 M M1 r3 e2) tb_l297 ⟨rfl, rfl, Nat.le_of_ble_eq_true rfl, Nat.le_of_ble_eq_true rfl⟩ rfl (rest := []) rfl (st1 := [.int r3]) rfl (Nat.le_of_ble_eq_true rfl) ⟨Nat.zero_le _, Nat.zero_le _⟩ dX7_swap_2 (fun H locs hP hS => ?_)
  refine lv_if_eq (tgt := 21) hx hb dX7_swap_5 (by decide) (fun c4 => ?_) (fun c4 => ?_)
  · have h := tb_ip c4 h
    refine lv_ldc (v := (-1000001)) hx hb F.1.2.2.2.1 (tb_hts F kc_X7_62) dX7_swap_21 ?_
    exact tb_iret h F hP hS dX7_swap_23
  · have h := tb_ineg c4 h
    refine lv_aload_n hx hb dX7_swap_8 rfl (lv_at hl 0 rfl) ?_
    refine lv_iload_n hx hb dX7_swap_9 rfl (lv_at hl 2 rfl) ?_
    obtain ⟨r7, M5, e6, h⟩ := tb_b2s h
    refine tb_callV F hP hS hl.1 kX7_isBar km_X7_145 (as := [.int a2]) (tX7_isBar g l a2 M1 M5 r7 e6) tb_l297 ⟨rfl, rfl, Nat.le_of_ble_eq_true rfl, Nat.le_of_ble_eq_true rfl⟩ rfl (rest := []) rfl (st1 := [.int r7]) rfl (Nat.le_of_ble_eq_true rfl) ⟨Nat.zero_le _, Nat.zero_le _⟩ dX7_swap_10 (fun H locs hP hS => ?_)
    refine lv_if_eq (tgt := 21) hx hb dX7_swap_13 (by decide) (fun c8 => ?_) (fun c8 => ?_)
    · have h := tb_ip c8 h
      refine lv_ldc (v := (-1000001)) hx hb F.1.2.2.2.1 (tb_hts F kc_X7_62) dX7_swap_21 ?_
      exact tb_iret h F hP hS dX7_swap_23
    · have h := tb_ineg c8 h
      refine lv_iload_n hx hb dX7_swap_16 rfl (lv_at hl 1 rfl) ?_
      refine lv_iload_n hx hb dX7_swap_17 rfl (lv_at hl 2 rfl) ?_
      refine lv_icmp_ne (tgt := 24) hx hb dX7_swap_18 (by decide) (fun c9 => ?_) (fun c9 => ?_)
      · have h := tb_ineg c9 h
        refine lv_aload_n hx hb dX7_swap_24 rfl (lv_at hl 0 rfl) ?_
        obtain ⟨M10, e11, h⟩ := tb_b1s h
        refine tb_callV F hP hS hl.1 kX7_keeps km_X7_135 (as := []) (tX7_keeps g l M5 M10 e11) tb_l297 ⟨rfl, rfl, Nat.le_of_ble_eq_true rfl, Nat.le_of_ble_eq_true rfl⟩ rfl (rest := []) rfl (st1 := []) rfl (Nat.le_of_ble_eq_true rfl) ⟨Nat.zero_le _, Nat.zero_le _⟩ dX7_swap_25 (fun H locs hP hS => ?_)
        refine lv_aload_n hx hb dX7_swap_28 rfl (lv_at hl 0 rfl) ?_
        refine tb_getr F hP tb_l297 (ci := 7) rfl inlX7 8 (by decide) rfl kf_X7_25 dX7_swap_29 ?_
        refine lv_iload_n hx hb dX7_swap_32 rfl (lv_at hl 1 rfl) ?_
        refine lv_iload_n hx hb dX7_swap_33 rfl (lv_at hl 2 rfl) ?_
        obtain ⟨M12, e13, h⟩ := tb_b1s h
        refine tb_callS F hP hS hl.1 kX7_exchanges km_X7_162 (as := [.ref (tb_ad g 303), .int a1, .int a2]) (tX7_exchanges g l 303 tb_l303 a1 a2 M10 M12 e13) ⟨rfl, rfl, Nat.le_of_ble_eq_true rfl, Nat.le_of_ble_eq_true rfl⟩ rfl (rest := []) rfl (st1 := []) rfl (Nat.le_of_ble_eq_true rfl) ⟨Nat.zero_le _, Nat.zero_le _⟩ dX7_swap_34 (fun H locs hP hS => ?_)
        refine lv_aload_n hx hb dX7_swap_37 rfl (lv_at hl 0 rfl) ?_
        refine tb_getr F hP tb_l297 (ci := 7) rfl inlX7 8 (by decide) rfl kf_X7_25 dX7_swap_38 ?_
        refine lv_bipush (v := 18) hx hb dX7_swap_41 (by decide) ?_
        refine lv_iload_n hx hb dX7_swap_43 rfl (lv_at hl 1 rfl) ?_
        refine lv_iadd hx hb dX7_swap_44 ?_
        obtain ⟨k14, h⟩ := tb_cks h
        refine tb_iald F hP tb_l303 rfl (tb_inv k14) dX7_swap_45 ?_
        exact tb_iret h F hP hS dX7_swap_46
      · have h := tb_ip c9 h
        refine lv_ldc (v := (-1000001)) hx hb F.1.2.2.2.1 (tb_hts F kc_X7_62) dX7_swap_21 ?_
        exact tb_iret h F hP hS dX7_swap_23
def fX7_undo_L22 : Nat → Int32 → tb_Mem → Option (Int32 × tb_Mem)
  | 0, _, _ => none
  | n + 1, x1, M => if 46 ≤ x1 then (some ((M 297 13), M)) else (tb_ck (tb_in ((46 * (M 297 13)) + x1) 1104) (tb_ck (tb_in x1 63) (tb_let (tb_up M 303 x1.toNatClampNeg (M 307 ((46 * (M 297 13)) + x1).toNatClampNeg)) (fun M7 => fX7_undo_L22 n (x1 + 1) M7))))
def fX7_undo (M : tb_Mem) : Option (Int32 × tb_Mem) :=
  if (M 297 13) = 0 then (some ((-1000002), M)) else (tb_let (tb_up M 297 13 ((M 297 13) - 1)) (fun M2 => fX7_undo_L22 tb_N 0 M2))
abbrev rmX7_undo : Room := { frames := 0, cells := 0, slots := 0, locals := 0 }
set_option maxHeartbeats 4000000 in
set_option maxRecDepth 100000 in
theorem tX7_undo_L22 {g : tb_GT} {l : Launch} {P : Program} {e : Env} {s : State} {m : MethodId} {below : List Frame} {meth : Method} {c : Code} {M' : tb_Mem} {r : Int32} (F : tb_F g cX7_undo 2 RX7 (some .int) (Cond.code yX7_undo cX7_undo 2 (some .int)) P s m ([.ref (tb_ad g 297)] : List Value).toArray meth c) :
    ∀ (n : Nat) (x1 : Int32) (M : tb_Mem) (H : Heap) (locs : List Loc) (ls : Array Slot), tb_P g M H → va_S (tb_A g) s.heap H locs → lv_has ls 2 [(0, .ref (tb_ad g 297)), (1, .int x1)] → fX7_undo_L22 n x1 M = some (r, M') → W P l e rmX7_undo s m ([.ref (tb_ad g 297)] : List Value).toArray below meth c H locs 0 0 (MQ below (tb_Q g M' (some (.int r))) ([.ref (tb_ad g 297)] : List Value).toArray s 0 0 (tb_A g)) (F0 m 22 ls []) := by
  have hx := F.1.1
  have hb := F.1.2.1
  intro n
  induction n with
  | zero =>
    intro x1 M H locs ls hP hS hl h
    rw [fX7_undo_L22] at h
    exact tb_none h
  | succ n ih =>
    intro x1 M H locs ls hP hS hl h
    rw [fX7_undo_L22] at h
    refine lv_iload_n hx hb dX7_undo_22 rfl (lv_at hl 1 rfl) ?_
    refine lv_bipush (v := 46) hx hb dX7_undo_23 (by decide) ?_
    refine lv_icmp_ge (tgt := 54) hx hb dX7_undo_25 (by decide) (fun c4 => ?_) (fun c4 => ?_)
    · have h := tb_ip c4 h
      refine lv_aload_n hx hb dX7_undo_54 rfl (lv_at hl 0 rfl) ?_
      refine tb_geti F hP tb_l297 (ci := 7) rfl inlX7 13 (by decide) rfl kf_X7_109 dX7_undo_55 ?_
      exact tb_iret h F hP hS dX7_undo_58
    · have h := tb_ineg c4 h
      refine lv_aload_n hx hb dX7_undo_28 rfl (lv_at hl 0 rfl) ?_
      refine tb_getr F hP tb_l297 (ci := 7) rfl inlX7 8 (by decide) rfl kf_X7_25 dX7_undo_29 ?_
      refine lv_iload_n hx hb dX7_undo_32 rfl (lv_at hl 1 rfl) ?_
      refine lv_aload_n hx hb dX7_undo_33 rfl (lv_at hl 0 rfl) ?_
      refine tb_getr F hP tb_l297 (ci := 7) rfl inlX7 12 (by decide) rfl kf_X7_38 dX7_undo_34 ?_
      refine lv_bipush (v := 46) hx hb dX7_undo_37 (by decide) ?_
      refine lv_aload_n hx hb dX7_undo_39 rfl (lv_at hl 0 rfl) ?_
      refine tb_geti F hP tb_l297 (ci := 7) rfl inlX7 13 (by decide) rfl kf_X7_109 dX7_undo_40 ?_
      refine lv_imul hx hb dX7_undo_43 ?_
      refine lv_iload_n hx hb dX7_undo_44 rfl (lv_at hl 1 rfl) ?_
      refine lv_iadd hx hb dX7_undo_45 ?_
      obtain ⟨k5, h⟩ := tb_cks h
      refine tb_iald F hP tb_l307 rfl (tb_inv k5) dX7_undo_46 ?_
      obtain ⟨k6, h⟩ := tb_cks h
      obtain ⟨M7, e8, h⟩ := tb_lets h
      refine tb_iast F hP hS tb_l303 rfl (tb_inv k6) dX7_undo_47 (fun H locs hP hS => ?_)
      rw [← e8] at hP
      refine lv_iinc (v := (x1 + 1)) (lv' := [(1, .int (x1 + 1)), (0, .ref (tb_ad g 297))]) hx hb dX7_undo_48 hl (k := 1) rfl rfl (by decide) rfl (fun ls hl => ?_)
      refine lv_goto (tgt := 22) hx hb dX7_undo_51 (by decide) ?_
      exact ih (x1 + 1) M7 _ _ _ hP hS (lv_sub hl [1, 0] rfl) h
set_option maxHeartbeats 4000000 in
set_option maxRecDepth 100000 in
theorem tX7_undo (g : tb_GT) (l : Launch) (M M' : tb_Mem) (r : Int32) (h : fX7_undo M = some (r, M')) : tb_C g l yX7_undo (Cond.code yX7_undo cX7_undo 2 (some .int)) rmX7_undo [.ref (tb_ad g 297)] M M' (some (.int r)) := by
  refine tb_entry (by decide) (Nat.le_of_ble_eq_true rfl) ?_
  intro P e s m below meth c F hP hS ls hl
  have F : tb_F g cX7_undo 2 RX7 (some .int) (Cond.code yX7_undo cX7_undo 2 (some .int)) P s m ([.ref (tb_ad g 297)] : List Value).toArray meth c := F
  have hx := F.1.1
  have hb := F.1.2.1
  have hl : lv_has ls 2 [(0, .ref (tb_ad g 297))] := hl
  unfold fX7_undo at h
  refine lv_aload_n hx hb dX7_undo_0 rfl (lv_at hl 0 rfl) ?_
  refine tb_geti F hP tb_l297 (ci := 7) rfl inlX7 13 (by decide) rfl kf_X7_109 dX7_undo_1 ?_
  refine lv_if_ne (tgt := 10) hx hb dX7_undo_4 (by decide) (fun c1 => ?_) (fun c1 => ?_)
  · have h := tb_ineg c1 h
    refine lv_aload_n hx hb dX7_undo_10 rfl (lv_at hl 0 rfl) ?_
    refine lv_dup hx hb dX7_undo_11 rfl ?_
    refine tb_geti F hP tb_l297 (ci := 7) rfl inlX7 13 (by decide) rfl kf_X7_109 dX7_undo_12 ?_
    refine lv_iconst (v := 1) hx hb dX7_undo_15 (by decide) ?_
    refine lv_isub hx hb dX7_undo_16 ?_
    obtain ⟨M2, e3, h⟩ := tb_lets h
    refine tb_puti F hP hS tb_l297 (ci := 7) rfl inlX7 tyX7 tyX7_ok nmX7 13 (by decide) rfl rfl rfl rfl kf_X7_109 dX7_undo_17 (fun H locs hP hS => ?_)
    rw [← e3] at hP
    refine lv_iconst (v := 0) hx hb dX7_undo_20 (by decide) ?_
    refine lv_istore_n (lv' := [(1, .int 0), (0, .ref (tb_ad g 297))]) hx hb dX7_undo_21 rfl hl (by decide) rfl (fun ls hl => ?_)
    exact tX7_undo_L22 F tb_N 0 M2 _ _ _ hP hS (lv_sub hl [1, 0] rfl) h
  · have h := tb_ip c1 h
    refine lv_ldc (v := (-1000002)) hx hb F.1.2.2.2.1 (tb_hts F kc_X7_134) dX7_undo_7 ?_
    exact tb_iret h F hP hS dX7_undo_9
def fX7_bar (a1 : Int32) (a2 : Int32) (M : tb_Mem) : Option (Int32 × tb_Mem) :=
  tb_b2 (fX7_isBar a1 M) (fun r3 M1 => if r3 = 0 then (some ((-1000001), M1)) else (if a2 = 0 then (tb_ck (tb_in (47 + a1) 63) (some ((M1 303 (47 + a1).toNatClampNeg), M1))) else (if a2 = 1 then (tb_ck (tb_in (18 + a1) 63) (some ((M1 303 (18 + a1).toNatClampNeg), M1))) else (if a2 = 2 then (tb_b2 (fX7_high 303 a1 M1) (fun r12 M10 => some (r12, M10))) else (if a2 = 3 then (tb_ck (tb_in (2 + a1) 63) (if 0 ≤ (M1 303 (2 + a1).toNatClampNeg) then (some ((M1 303 (2 + a1).toNatClampNeg), M1)) else (some ((-1000000), M1)))) else (if a2 = 4 then (tb_ck (tb_in (10 + a1) 63) (some (((if (M1 303 (10 + a1).toNatClampNeg) ≤ 0 then 0 else 1) : Int32), M1))) else (if a2 = 5 then (tb_b2 (fX7_top 303 a1 M1) (fun r22 M20 => some (r22, M20))) else (some ((-1000001), M1)))))))))
abbrev rmX7_bar : Room := { frames := 2, cells := 0, slots := 0, locals := 45 }
set_option maxHeartbeats 4000000 in
set_option maxRecDepth 100000 in
theorem tX7_bar (g : tb_GT) (l : Launch) (a1 : Int32) (a2 : Int32) (M M' : tb_Mem) (r : Int32) (h : fX7_bar a1 a2 M = some (r, M')) : tb_C g l yX7_bar (Cond.code yX7_bar cX7_bar 3 (some .int)) rmX7_bar [.ref (tb_ad g 297), .int a1, .int a2] M M' (some (.int r)) := by
  refine tb_entry (by decide) (Nat.le_of_ble_eq_true rfl) ?_
  intro P e s m below meth c F hP hS ls hl
  have F : tb_F g cX7_bar 3 RX7 (some .int) (Cond.code yX7_bar cX7_bar 3 (some .int)) P s m ([.ref (tb_ad g 297), .int a1, .int a2] : List Value).toArray meth c := F
  have hx := F.1.1
  have hb := F.1.2.1
  have hl : lv_has ls 3 [(0, .ref (tb_ad g 297)), (1, .int a1), (2, .int a2)] := hl
  unfold fX7_bar at h
  refine lv_aload_n hx hb dX7_bar_0 rfl (lv_at hl 0 rfl) ?_
  refine lv_iload_n hx hb dX7_bar_1 rfl (lv_at hl 1 rfl) ?_
  obtain ⟨r3, M1, e2, h⟩ := tb_b2s h
  refine tb_callV F hP hS hl.1 kX7_isBar km_X7_145 (as := [.int a1]) (tX7_isBar g l a1 M M1 r3 e2) tb_l297 ⟨rfl, rfl, Nat.le_of_ble_eq_true rfl, Nat.le_of_ble_eq_true rfl⟩ rfl (rest := []) rfl (st1 := [.int r3]) rfl (Nat.le_of_ble_eq_true rfl) ⟨Nat.zero_le _, Nat.zero_le _⟩ dX7_bar_2 (fun H locs hP hS => ?_)
  refine lv_if_ne (tgt := 11) hx hb dX7_bar_5 (by decide) (fun c4 => ?_) (fun c4 => ?_)
  · have h := tb_ineg c4 h
    refine lv_iload_n hx hb dX7_bar_11 rfl (lv_at hl 2 rfl) ?_
    by_cases c5 : a2 = 0
    · have h := tb_ip c5 h
      refine lv_tableIn (tgt := 52) hx hb dX7_bar_12 (by rw [c5]; decide) (by rw [c5]; decide) (by rw [c5]; rfl) (by decide) ?_
      refine lv_aload_n hx hb dX7_bar_52 rfl (lv_at hl 0 rfl) ?_
      refine tb_getr F hP tb_l297 (ci := 7) rfl inlX7 8 (by decide) rfl kf_X7_25 dX7_bar_53 ?_
      refine lv_bipush (v := 47) hx hb dX7_bar_56 (by decide) ?_
      refine lv_iload_n hx hb dX7_bar_58 rfl (lv_at hl 1 rfl) ?_
      refine lv_iadd hx hb dX7_bar_59 ?_
      obtain ⟨k6, h⟩ := tb_cks h
      refine tb_iald F hP tb_l303 rfl (tb_inv k6) dX7_bar_60 ?_
      exact tb_iret h F hP hS dX7_bar_61
    have h := tb_ineg c5 h
    by_cases c7 : a2 = 1
    · have h := tb_ip c7 h
      refine lv_tableIn (tgt := 62) hx hb dX7_bar_12 (by rw [c7]; decide) (by rw [c7]; decide) (by rw [c7]; rfl) (by decide) ?_
      refine lv_aload_n hx hb dX7_bar_62 rfl (lv_at hl 0 rfl) ?_
      refine tb_getr F hP tb_l297 (ci := 7) rfl inlX7 8 (by decide) rfl kf_X7_25 dX7_bar_63 ?_
      refine lv_bipush (v := 18) hx hb dX7_bar_66 (by decide) ?_
      refine lv_iload_n hx hb dX7_bar_68 rfl (lv_at hl 1 rfl) ?_
      refine lv_iadd hx hb dX7_bar_69 ?_
      obtain ⟨k8, h⟩ := tb_cks h
      refine tb_iald F hP tb_l303 rfl (tb_inv k8) dX7_bar_70 ?_
      exact tb_iret h F hP hS dX7_bar_71
    have h := tb_ineg c7 h
    by_cases c9 : a2 = 2
    · have h := tb_ip c9 h
      refine lv_tableIn (tgt := 72) hx hb dX7_bar_12 (by rw [c9]; decide) (by rw [c9]; decide) (by rw [c9]; rfl) (by decide) ?_
      refine lv_aload_n hx hb dX7_bar_72 rfl (lv_at hl 0 rfl) ?_
      refine tb_getr F hP tb_l297 (ci := 7) rfl inlX7 8 (by decide) rfl kf_X7_25 dX7_bar_73 ?_
      refine lv_iload_n hx hb dX7_bar_76 rfl (lv_at hl 1 rfl) ?_
      obtain ⟨r12, M10, e11, h⟩ := tb_b2s h
      refine tb_callS F hP hS hl.1 kX7_high km_X7_116 (as := [.ref (tb_ad g 303), .int a1]) (tX7_high g l 303 tb_l303 a1 M1 M10 r12 e11) ⟨rfl, rfl, Nat.le_of_ble_eq_true rfl, Nat.le_of_ble_eq_true rfl⟩ rfl (rest := []) rfl (st1 := [.int r12]) rfl (Nat.le_of_ble_eq_true rfl) ⟨Nat.zero_le _, Nat.zero_le _⟩ dX7_bar_77 (fun H locs hP hS => ?_)
      exact tb_iret h F hP hS dX7_bar_80
    have h := tb_ineg c9 h
    by_cases c13 : a2 = 3
    · have h := tb_ip c13 h
      refine lv_tableIn (tgt := 81) hx hb dX7_bar_12 (by rw [c13]; decide) (by rw [c13]; decide) (by rw [c13]; rfl) (by decide) ?_
      refine lv_aload_n hx hb dX7_bar_81 rfl (lv_at hl 0 rfl) ?_
      refine tb_getr F hP tb_l297 (ci := 7) rfl inlX7 8 (by decide) rfl kf_X7_25 dX7_bar_82 ?_
      refine lv_iconst (v := 2) hx hb dX7_bar_85 (by decide) ?_
      refine lv_iload_n hx hb dX7_bar_86 rfl (lv_at hl 1 rfl) ?_
      refine lv_iadd hx hb dX7_bar_87 ?_
      obtain ⟨k14, h⟩ := tb_cks h
      refine tb_iald F hP tb_l303 rfl (tb_inv k14) dX7_bar_88 ?_
      refine lv_if_ge (tgt := 97) hx hb dX7_bar_89 (by decide) (fun c15 => ?_) (fun c15 => ?_)
      · have h := tb_ip c15 h
        refine lv_aload_n hx hb dX7_bar_97 rfl (lv_at hl 0 rfl) ?_
        refine tb_getr F hP tb_l297 (ci := 7) rfl inlX7 8 (by decide) rfl kf_X7_25 dX7_bar_98 ?_
        refine lv_iconst (v := 2) hx hb dX7_bar_101 (by decide) ?_
        refine lv_iload_n hx hb dX7_bar_102 rfl (lv_at hl 1 rfl) ?_
        refine lv_iadd hx hb dX7_bar_103 ?_
        refine tb_iald F hP tb_l303 rfl (tb_inv k14) dX7_bar_104 ?_
        exact tb_iret h F hP hS dX7_bar_105
      · have h := tb_ineg c15 h
        refine lv_ldc (v := (-1000000)) hx hb F.1.2.2.2.1 (tb_hts F kc_X7_166) dX7_bar_92 ?_
        refine lv_goto (tgt := 105) hx hb dX7_bar_94 (by decide) ?_
        exact tb_iret h F hP hS dX7_bar_105
    have h := tb_ineg c13 h
    by_cases c16 : a2 = 4
    · have h := tb_ip c16 h
      refine lv_tableIn (tgt := 106) hx hb dX7_bar_12 (by rw [c16]; decide) (by rw [c16]; decide) (by rw [c16]; rfl) (by decide) ?_
      refine lv_aload_n hx hb dX7_bar_106 rfl (lv_at hl 0 rfl) ?_
      refine tb_getr F hP tb_l297 (ci := 7) rfl inlX7 8 (by decide) rfl kf_X7_25 dX7_bar_107 ?_
      refine lv_bipush (v := 10) hx hb dX7_bar_110 (by decide) ?_
      refine lv_iload_n hx hb dX7_bar_112 rfl (lv_at hl 1 rfl) ?_
      refine lv_iadd hx hb dX7_bar_113 ?_
      obtain ⟨k17, h⟩ := tb_cks h
      refine tb_iald F hP tb_l303 rfl (tb_inv k17) dX7_bar_114 ?_
      refine tb_mrg (g2 := F0 m 123 ls [.int ((if (M1 303 (10 + a1).toNatClampNeg) ≤ 0 then 0 else 1) : Int32)]) (fun hJ => ?_) ?_
      · refine lv_if_le (tgt := 122) hx hb dX7_bar_115 (by decide) (fun c18 => ?_) (fun c18 => ?_)
        · refine lv_iconst (v := 0) hx hb dX7_bar_122 (by decide) ?_
          rw [if_pos c18] at hJ
          exact hJ
        · refine lv_iconst (v := 1) hx hb dX7_bar_118 (by decide) ?_
          refine lv_goto (tgt := 123) hx hb dX7_bar_119 (by decide) ?_
          rw [if_neg c18] at hJ
          exact hJ
      exact tb_iret h F hP hS dX7_bar_123
    have h := tb_ineg c16 h
    by_cases c19 : a2 = 5
    · have h := tb_ip c19 h
      refine lv_tableIn (tgt := 124) hx hb dX7_bar_12 (by rw [c19]; decide) (by rw [c19]; decide) (by rw [c19]; rfl) (by decide) ?_
      refine lv_aload_n hx hb dX7_bar_124 rfl (lv_at hl 0 rfl) ?_
      refine tb_getr F hP tb_l297 (ci := 7) rfl inlX7 8 (by decide) rfl kf_X7_25 dX7_bar_125 ?_
      refine lv_iload_n hx hb dX7_bar_128 rfl (lv_at hl 1 rfl) ?_
      obtain ⟨r22, M20, e21, h⟩ := tb_b2s h
      refine tb_callS F hP hS hl.1 kX7_top km_X7_112 (as := [.ref (tb_ad g 303), .int a1]) (tX7_top g l 303 tb_l303 a1 M1 M20 r22 e21) ⟨rfl, rfl, Nat.le_of_ble_eq_true rfl, Nat.le_of_ble_eq_true rfl⟩ rfl (rest := []) rfl (st1 := [.int r22]) rfl (Nat.le_of_ble_eq_true rfl) ⟨Nat.zero_le _, Nat.zero_le _⟩ dX7_bar_129 (fun H locs hP hS => ?_)
      exact tb_iret h F hP hS dX7_bar_132
    have h := tb_ineg c19 h
    have uc5 := lv_neT c5 (show (0 : Int32).toInt = 0 by decide)
    have uc7 := lv_neT c7 (show (1 : Int32).toInt = 1 by decide)
    have uc9 := lv_neT c9 (show (2 : Int32).toInt = 2 by decide)
    have uc13 := lv_neT c13 (show (3 : Int32).toInt = 3 by decide)
    have uc16 := lv_neT c16 (show (4 : Int32).toInt = 4 by decide)
    have uc19 := lv_neT c19 (show (5 : Int32).toInt = 5 by decide)
    refine lv_tableOut (tgt := 133) hx hb dX7_bar_12 (by omega) (by decide) ?_
    refine lv_ldc (v := (-1000001)) hx hb F.1.2.2.2.1 (tb_hts F kc_X7_62) dX7_bar_133 ?_
    exact tb_iret h F hP hS dX7_bar_135
  · have h := tb_ip c4 h
    refine lv_ldc (v := (-1000001)) hx hb F.1.2.2.2.1 (tb_hts F kc_X7_62) dX7_bar_8 ?_
    exact tb_iret h F hP hS dX7_bar_10
def fX7_paper (a1 : Int32) (M : tb_Mem) : Option (Int32 × tb_Mem) :=
  tb_b2 (fX7_in a1 0 19 M) (fun r3 M1 => if r3 = 0 then (some ((-1000001), M1)) else (tb_ck (tb_in (26 + a1) 63) (if (M1 303 (26 + a1).toNatClampNeg) = 0 then (some ((-1000000), M1)) else (some (((M1 303 (26 + a1).toNatClampNeg) - 1), M1)))))
abbrev rmX7_paper : Room := { frames := 1, cells := 0, slots := 0, locals := 22 }
set_option maxHeartbeats 4000000 in
set_option maxRecDepth 100000 in
theorem tX7_paper (g : tb_GT) (l : Launch) (a1 : Int32) (M M' : tb_Mem) (r : Int32) (h : fX7_paper a1 M = some (r, M')) : tb_C g l yX7_paper (Cond.code yX7_paper cX7_paper 2 (some .int)) rmX7_paper [.ref (tb_ad g 297), .int a1] M M' (some (.int r)) := by
  refine tb_entry (by decide) (Nat.le_of_ble_eq_true rfl) ?_
  intro P e s m below meth c F hP hS ls hl
  have F : tb_F g cX7_paper 2 RX7 (some .int) (Cond.code yX7_paper cX7_paper 2 (some .int)) P s m ([.ref (tb_ad g 297), .int a1] : List Value).toArray meth c := F
  have hx := F.1.1
  have hb := F.1.2.1
  have hl : lv_has ls 2 [(0, .ref (tb_ad g 297)), (1, .int a1)] := hl
  unfold fX7_paper at h
  refine lv_iload_n hx hb dX7_paper_0 rfl (lv_at hl 1 rfl) ?_
  refine lv_iconst (v := 0) hx hb dX7_paper_1 (by decide) ?_
  refine lv_bipush (v := 19) hx hb dX7_paper_2 (by decide) ?_
  obtain ⟨r3, M1, e2, h⟩ := tb_b2s h
  refine tb_callS F hP hS hl.1 kX7_in km_X7_47 (as := [.int a1, .int 0, .int 19]) (tX7_in g l a1 0 19 M M1 r3 e2) ⟨rfl, rfl, Nat.le_of_ble_eq_true rfl, Nat.le_of_ble_eq_true rfl⟩ rfl (rest := []) rfl (st1 := [.int r3]) rfl (Nat.le_of_ble_eq_true rfl) ⟨Nat.zero_le _, Nat.zero_le _⟩ dX7_paper_4 (fun H locs hP hS => ?_)
  refine lv_if_ne (tgt := 13) hx hb dX7_paper_7 (by decide) (fun c4 => ?_) (fun c4 => ?_)
  · have h := tb_ineg c4 h
    refine lv_aload_n hx hb dX7_paper_13 rfl (lv_at hl 0 rfl) ?_
    refine tb_getr F hP tb_l297 (ci := 7) rfl inlX7 8 (by decide) rfl kf_X7_25 dX7_paper_14 ?_
    refine lv_bipush (v := 26) hx hb dX7_paper_17 (by decide) ?_
    refine lv_iload_n hx hb dX7_paper_19 rfl (lv_at hl 1 rfl) ?_
    refine lv_iadd hx hb dX7_paper_20 ?_
    obtain ⟨k5, h⟩ := tb_cks h
    refine tb_iald F hP tb_l303 rfl (tb_inv k5) dX7_paper_21 ?_
    refine lv_if_ne (tgt := 30) hx hb dX7_paper_22 (by decide) (fun c6 => ?_) (fun c6 => ?_)
    · have h := tb_ineg c6 h
      refine lv_aload_n hx hb dX7_paper_30 rfl (lv_at hl 0 rfl) ?_
      refine tb_getr F hP tb_l297 (ci := 7) rfl inlX7 8 (by decide) rfl kf_X7_25 dX7_paper_31 ?_
      refine lv_bipush (v := 26) hx hb dX7_paper_34 (by decide) ?_
      refine lv_iload_n hx hb dX7_paper_36 rfl (lv_at hl 1 rfl) ?_
      refine lv_iadd hx hb dX7_paper_37 ?_
      refine tb_iald F hP tb_l303 rfl (tb_inv k5) dX7_paper_38 ?_
      refine lv_iconst (v := 1) hx hb dX7_paper_39 (by decide) ?_
      refine lv_isub hx hb dX7_paper_40 ?_
      exact tb_iret h F hP hS dX7_paper_41
    · have h := tb_ip c6 h
      refine lv_ldc (v := (-1000000)) hx hb F.1.2.2.2.1 (tb_hts F kc_X7_166) dX7_paper_25 ?_
      refine lv_goto (tgt := 41) hx hb dX7_paper_27 (by decide) ?_
      exact tb_iret h F hP hS dX7_paper_41
  · have h := tb_ip c4 h
    refine lv_ldc (v := (-1000001)) hx hb F.1.2.2.2.1 (tb_hts F kc_X7_62) dX7_paper_10 ?_
    exact tb_iret h F hP hS dX7_paper_12
def fX7_copies_L2 (q0 : Nat) (q1 : Nat) : Nat → Int32 → tb_Mem → Option (tb_Mem)
  | 0, _, _ => none
  | n + 1, x2, M => if 63 ≤ x2 then (some M) else (tb_ck (tb_in x2 63) (tb_let (tb_up M q1 x2.toNatClampNeg (M q0 x2.toNatClampNeg)) (fun M3 => fX7_copies_L2 q0 q1 n (x2 + 1) M3)))
def fX7_copies (q0 : Nat) (q1 : Nat) (M : tb_Mem) : Option (tb_Mem) :=
  fX7_copies_L2 q0 q1 tb_N 0 M
abbrev rmX7_copies : Room := { frames := 0, cells := 0, slots := 0, locals := 0 }
set_option maxHeartbeats 4000000 in
set_option maxRecDepth 100000 in
theorem tX7_copies_L2 {g : tb_GT} {l : Launch} {P : Program} {e : Env} {s : State} {m : MethodId} {below : List Frame} {meth : Method} {c : Code} (q0 : Nat) (q1 : Nat) (hq0 : tb_lay q0 = tb_ar 63) (hq1 : tb_lay q1 = tb_ar 63) {M' : tb_Mem} (F : tb_F g cX7_copies 3 RX7 none (Cond.code yX7_copies cX7_copies 3 none) P s m ([.ref (tb_ad g q0), .ref (tb_ad g q1)] : List Value).toArray meth c) :
    ∀ (n : Nat) (x2 : Int32) (M : tb_Mem) (H : Heap) (locs : List Loc) (ls : Array Slot), tb_P g M H → va_S (tb_A g) s.heap H locs → lv_has ls 3 [(0, .ref (tb_ad g q0)), (1, .ref (tb_ad g q1)), (2, .int x2)] → fX7_copies_L2 q0 q1 n x2 M = some M' → W P l e rmX7_copies s m ([.ref (tb_ad g q0), .ref (tb_ad g q1)] : List Value).toArray below meth c H locs 0 0 (MQ below (tb_Q g M' none) ([.ref (tb_ad g q0), .ref (tb_ad g q1)] : List Value).toArray s 0 0 (tb_A g)) (F0 m 2 ls []) := by
  have hx := F.1.1
  have hb := F.1.2.1
  intro n
  induction n with
  | zero =>
    intro x2 M H locs ls hP hS hl h
    rw [fX7_copies_L2] at h
    exact tb_none h
  | succ n ih =>
    intro x2 M H locs ls hP hS hl h
    rw [fX7_copies_L2] at h
    refine lv_iload_n hx hb dX7_copies_2 rfl (lv_at hl 2 rfl) ?_
    refine lv_bipush (v := 63) hx hb dX7_copies_3 (by decide) ?_
    refine lv_icmp_ge (tgt := 20) hx hb dX7_copies_5 (by decide) (fun c1 => ?_) (fun c1 => ?_)
    · have h := tb_ip c1 h
      exact tb_vret h F hP hS dX7_copies_20
    · have h := tb_ineg c1 h
      refine lv_aload_n hx hb dX7_copies_8 rfl (lv_at hl 1 rfl) ?_
      refine lv_iload_n hx hb dX7_copies_9 rfl (lv_at hl 2 rfl) ?_
      refine lv_aload_n hx hb dX7_copies_10 rfl (lv_at hl 0 rfl) ?_
      refine lv_iload_n hx hb dX7_copies_11 rfl (lv_at hl 2 rfl) ?_
      obtain ⟨k2, h⟩ := tb_cks h
      refine tb_iald F hP hq0 rfl (tb_inv k2) dX7_copies_12 ?_
      obtain ⟨M3, e4, h⟩ := tb_lets h
      refine tb_iast F hP hS hq1 rfl (tb_inv k2) dX7_copies_13 (fun H locs hP hS => ?_)
      rw [← e4] at hP
      refine lv_iinc (v := (x2 + 1)) (lv' := [(2, .int (x2 + 1)), (0, .ref (tb_ad g q0)), (1, .ref (tb_ad g q1))]) hx hb dX7_copies_14 hl (k := 2) rfl rfl (by decide) rfl (fun ls hl => ?_)
      refine lv_goto (tgt := 2) hx hb dX7_copies_17 (by decide) ?_
      exact ih (x2 + 1) M3 _ _ _ hP hS (lv_sub hl [1, 2, 0] rfl) h
set_option maxHeartbeats 4000000 in
set_option maxRecDepth 100000 in
theorem tX7_copies (g : tb_GT) (l : Launch) (q0 : Nat) (q1 : Nat) (hq0 : tb_lay q0 = tb_ar 63) (hq1 : tb_lay q1 = tb_ar 63) (M M' : tb_Mem) (h : fX7_copies q0 q1 M = some M') : tb_C g l yX7_copies (Cond.code yX7_copies cX7_copies 3 none) rmX7_copies [.ref (tb_ad g q0), .ref (tb_ad g q1)] M M' none := by
  refine tb_entry (by decide) (Nat.le_of_ble_eq_true rfl) ?_
  intro P e s m below meth c F hP hS ls hl
  have F : tb_F g cX7_copies 3 RX7 none (Cond.code yX7_copies cX7_copies 3 none) P s m ([.ref (tb_ad g q0), .ref (tb_ad g q1)] : List Value).toArray meth c := F
  have hx := F.1.1
  have hb := F.1.2.1
  have hl : lv_has ls 3 [(0, .ref (tb_ad g q0)), (1, .ref (tb_ad g q1))] := hl
  unfold fX7_copies at h
  refine lv_iconst (v := 0) hx hb dX7_copies_0 (by decide) ?_
  refine lv_istore_n (lv' := [(2, .int 0), (0, .ref (tb_ad g q0)), (1, .ref (tb_ad g q1))]) hx hb dX7_copies_1 rfl hl (by decide) rfl (fun ls hl => ?_)
  exact tX7_copies_L2 q0 q1 hq0 hq1 F tb_N 0 M _ _ _ hP hS (lv_sub hl [1, 2, 0] rfl) h
def fX7_goesOn_L13 : Nat → Int32 → Int32 → tb_Mem → Option (tb_Mem)
  | 0, _, _, _ => none
  | n + 1, x1, x2, M => if x1 ≤ x2 then (some M) else (tb_b2 (fX7_tick 308 M) (fun r6 M4 => fX7_goesOn_L13 n x1 (x2 + 1) M4))
def fX7_goesOn (a1 : Int32) (M : tb_Mem) : Option (tb_Mem) :=
  tb_b1 (fX7_copies 303 308 M) (fun M1 => fX7_goesOn_L13 tb_N a1 0 M1)
abbrev rmX7_goesOn : Room := { frames := 4, cells := 0, slots := 0, locals := 95 }
set_option maxHeartbeats 4000000 in
set_option maxRecDepth 100000 in
theorem tX7_goesOn_L13 {g : tb_GT} {l : Launch} {P : Program} {e : Env} {s : State} {m : MethodId} {below : List Frame} {meth : Method} {c : Code} {a1 : Int32} {M' : tb_Mem} (F : tb_F g cX7_goesOn 3 RX7 none (Cond.code yX7_goesOn cX7_goesOn 3 none) P s m ([.ref (tb_ad g 297), .int a1] : List Value).toArray meth c) :
    ∀ (n : Nat) (x1 : Int32) (x2 : Int32) (M : tb_Mem) (H : Heap) (locs : List Loc) (ls : Array Slot), tb_P g M H → va_S (tb_A g) s.heap H locs → lv_has ls 3 [(0, .ref (tb_ad g 297)), (1, .int x1), (2, .int x2)] → fX7_goesOn_L13 n x1 x2 M = some M' → W P l e rmX7_goesOn s m ([.ref (tb_ad g 297), .int a1] : List Value).toArray below meth c H locs 0 0 (MQ below (tb_Q g M' none) ([.ref (tb_ad g 297), .int a1] : List Value).toArray s 0 0 (tb_A g)) (F0 m 13 ls []) := by
  have hx := F.1.1
  have hb := F.1.2.1
  intro n
  induction n with
  | zero =>
    intro x1 x2 M H locs ls hP hS hl h
    rw [fX7_goesOn_L13] at h
    exact tb_none h
  | succ n ih =>
    intro x1 x2 M H locs ls hP hS hl h
    rw [fX7_goesOn_L13] at h
    refine lv_iload_n hx hb dX7_goesOn_13 rfl (lv_at hl 2 rfl) ?_
    refine lv_iload_n hx hb dX7_goesOn_14 rfl (lv_at hl 1 rfl) ?_
    refine lv_icmp_ge (tgt := 32) hx hb dX7_goesOn_15 (by decide) (fun c3 => ?_) (fun c3 => ?_)
    · have h := tb_ip c3 h
      exact tb_vret h F hP hS dX7_goesOn_32
    · have h := tb_ineg c3 h
      refine lv_aload_n hx hb dX7_goesOn_18 rfl (lv_at hl 0 rfl) ?_
      refine tb_getr F hP tb_l297 (ci := 7) rfl inlX7 14 (by decide) rfl kf_X7_41 dX7_goesOn_19 ?_
      obtain ⟨r6, M4, e5, h⟩ := tb_b2s h
      refine tb_callS F hP hS hl.1 kX7_tick km_X7_138 (as := [.ref (tb_ad g 308)]) (tX7_tick g l 308 tb_l308 M M4 r6 e5) ⟨rfl, rfl, Nat.le_of_ble_eq_true rfl, Nat.le_of_ble_eq_true rfl⟩ rfl (rest := []) rfl (st1 := [.int r6]) rfl (Nat.le_of_ble_eq_true rfl) ⟨Nat.zero_le _, Nat.zero_le _⟩ dX7_goesOn_22 (fun H locs hP hS => ?_)
      refine lv_pop hx hb dX7_goesOn_25 rfl ?_
      refine lv_iinc (v := (x2 + 1)) (lv' := [(2, .int (x2 + 1)), (0, .ref (tb_ad g 297)), (1, .int x1)]) hx hb dX7_goesOn_26 hl (k := 2) rfl rfl (by decide) rfl (fun ls hl => ?_)
      refine lv_goto (tgt := 13) hx hb dX7_goesOn_29 (by decide) ?_
      exact ih x1 (x2 + 1) M4 _ _ _ hP hS (lv_sub hl [1, 2, 0] rfl) h
set_option maxHeartbeats 4000000 in
set_option maxRecDepth 100000 in
theorem tX7_goesOn (g : tb_GT) (l : Launch) (a1 : Int32) (M M' : tb_Mem) (h : fX7_goesOn a1 M = some M') : tb_C g l yX7_goesOn (Cond.code yX7_goesOn cX7_goesOn 3 none) rmX7_goesOn [.ref (tb_ad g 297), .int a1] M M' none := by
  refine tb_entry (by decide) (Nat.le_of_ble_eq_true rfl) ?_
  intro P e s m below meth c F hP hS ls hl
  have F : tb_F g cX7_goesOn 3 RX7 none (Cond.code yX7_goesOn cX7_goesOn 3 none) P s m ([.ref (tb_ad g 297), .int a1] : List Value).toArray meth c := F
  have hx := F.1.1
  have hb := F.1.2.1
  have hl : lv_has ls 3 [(0, .ref (tb_ad g 297)), (1, .int a1)] := hl
  unfold fX7_goesOn at h
  refine lv_aload_n hx hb dX7_goesOn_0 rfl (lv_at hl 0 rfl) ?_
  refine tb_getr F hP tb_l297 (ci := 7) rfl inlX7 8 (by decide) rfl kf_X7_25 dX7_goesOn_1 ?_
  refine lv_aload_n hx hb dX7_goesOn_4 rfl (lv_at hl 0 rfl) ?_
  refine tb_getr F hP tb_l297 (ci := 7) rfl inlX7 14 (by decide) rfl kf_X7_41 dX7_goesOn_5 ?_
  obtain ⟨M1, e2, h⟩ := tb_b1s h
  refine tb_callS F hP hS hl.1 kX7_copies km_X7_167 (as := [.ref (tb_ad g 303), .ref (tb_ad g 308)]) (tX7_copies g l 303 308 tb_l303 tb_l308 M M1 e2) ⟨rfl, rfl, Nat.le_of_ble_eq_true rfl, Nat.le_of_ble_eq_true rfl⟩ rfl (rest := []) rfl (st1 := []) rfl (Nat.le_of_ble_eq_true rfl) ⟨Nat.zero_le _, Nat.zero_le _⟩ dX7_goesOn_8 (fun H locs hP hS => ?_)
  refine lv_iconst (v := 0) hx hb dX7_goesOn_11 (by decide) ?_
  refine lv_istore_n (lv' := [(2, .int 0), (0, .ref (tb_ad g 297)), (1, .int a1)]) hx hb dX7_goesOn_12 rfl hl (by decide) rfl (fun ls hl => ?_)
  exact tX7_goesOn_L13 F tb_N a1 0 M1 _ _ _ hP hS (lv_sub hl [1, 2, 0] rfl) h
def fX7_height (a1 : Int32) (a2 : Int32) (M : tb_Mem) : Option (Int32 × tb_Mem) :=
  tb_b2 (fX7_isBar a1 M) (fun r3 M1 => if r3 = 0 then (some ((-1000001), M1)) else (tb_b2 (fX7_in a2 0 60 M1) (fun r7 M5 => if r7 = 0 then (some ((-1000001), M5)) else (tb_b1 (fX7_goesOn a2 M5) (fun M9 => tb_b2 (fX7_high 308 a1 M9) (fun r13 M11 => some (r13, M11)))))))
abbrev rmX7_height : Room := { frames := 5, cells := 0, slots := 0, locals := 117 }
set_option maxHeartbeats 4000000 in
set_option maxRecDepth 100000 in
theorem tX7_height (g : tb_GT) (l : Launch) (a1 : Int32) (a2 : Int32) (M M' : tb_Mem) (r : Int32) (h : fX7_height a1 a2 M = some (r, M')) : tb_C g l yX7_height (Cond.code yX7_height cX7_height 3 (some .int)) rmX7_height [.ref (tb_ad g 297), .int a1, .int a2] M M' (some (.int r)) := by
  refine tb_entry (by decide) (Nat.le_of_ble_eq_true rfl) ?_
  intro P e s m below meth c F hP hS ls hl
  have F : tb_F g cX7_height 3 RX7 (some .int) (Cond.code yX7_height cX7_height 3 (some .int)) P s m ([.ref (tb_ad g 297), .int a1, .int a2] : List Value).toArray meth c := F
  have hx := F.1.1
  have hb := F.1.2.1
  have hl : lv_has ls 3 [(0, .ref (tb_ad g 297)), (1, .int a1), (2, .int a2)] := hl
  unfold fX7_height at h
  refine lv_aload_n hx hb dX7_height_0 rfl (lv_at hl 0 rfl) ?_
  refine lv_iload_n hx hb dX7_height_1 rfl (lv_at hl 1 rfl) ?_
  obtain ⟨r3, M1, e2, h⟩ := tb_b2s h
  refine tb_callV F hP hS hl.1 kX7_isBar km_X7_145 (as := [.int a1]) (tX7_isBar g l a1 M M1 r3 e2) tb_l297 ⟨rfl, rfl, Nat.le_of_ble_eq_true rfl, Nat.le_of_ble_eq_true rfl⟩ rfl (rest := []) rfl (st1 := [.int r3]) rfl (Nat.le_of_ble_eq_true rfl) ⟨Nat.zero_le _, Nat.zero_le _⟩ dX7_height_2 (fun H locs hP hS => ?_)
  refine lv_if_eq (tgt := 18) hx hb dX7_height_5 (by decide) (fun c4 => ?_) (fun c4 => ?_)
  · have h := tb_ip c4 h
    refine lv_ldc (v := (-1000001)) hx hb F.1.2.2.2.1 (tb_hts F kc_X7_62) dX7_height_18 ?_
    exact tb_iret h F hP hS dX7_height_20
  · have h := tb_ineg c4 h
    refine lv_iload_n hx hb dX7_height_8 rfl (lv_at hl 2 rfl) ?_
    refine lv_iconst (v := 0) hx hb dX7_height_9 (by decide) ?_
    refine lv_bipush (v := 60) hx hb dX7_height_10 (by decide) ?_
    obtain ⟨r7, M5, e6, h⟩ := tb_b2s h
    refine tb_callS F hP hS hl.1 kX7_in km_X7_47 (as := [.int a2, .int 0, .int 60]) (tX7_in g l a2 0 60 M1 M5 r7 e6) ⟨rfl, rfl, Nat.le_of_ble_eq_true rfl, Nat.le_of_ble_eq_true rfl⟩ rfl (rest := []) rfl (st1 := [.int r7]) rfl (Nat.le_of_ble_eq_true rfl) ⟨Nat.zero_le _, Nat.zero_le _⟩ dX7_height_12 (fun H locs hP hS => ?_)
    refine lv_if_ne (tgt := 21) hx hb dX7_height_15 (by decide) (fun c8 => ?_) (fun c8 => ?_)
    · have h := tb_ineg c8 h
      refine lv_aload_n hx hb dX7_height_21 rfl (lv_at hl 0 rfl) ?_
      refine lv_iload_n hx hb dX7_height_22 rfl (lv_at hl 2 rfl) ?_
      obtain ⟨M9, e10, h⟩ := tb_b1s h
      refine tb_callV F hP hS hl.1 kX7_goesOn km_X7_171 (as := [.int a2]) (tX7_goesOn g l a2 M5 M9 e10) tb_l297 ⟨rfl, rfl, Nat.le_of_ble_eq_true rfl, Nat.le_of_ble_eq_true rfl⟩ rfl (rest := []) rfl (st1 := []) rfl (Nat.le_of_ble_eq_true rfl) ⟨Nat.zero_le _, Nat.zero_le _⟩ dX7_height_23 (fun H locs hP hS => ?_)
      refine lv_aload_n hx hb dX7_height_26 rfl (lv_at hl 0 rfl) ?_
      refine tb_getr F hP tb_l297 (ci := 7) rfl inlX7 14 (by decide) rfl kf_X7_41 dX7_height_27 ?_
      refine lv_iload_n hx hb dX7_height_30 rfl (lv_at hl 1 rfl) ?_
      obtain ⟨r13, M11, e12, h⟩ := tb_b2s h
      refine tb_callS F hP hS hl.1 kX7_high km_X7_116 (as := [.ref (tb_ad g 308), .int a1]) (tX7_high g l 308 tb_l308 a1 M9 M11 r13 e12) ⟨rfl, rfl, Nat.le_of_ble_eq_true rfl, Nat.le_of_ble_eq_true rfl⟩ rfl (rest := []) rfl (st1 := [.int r13]) rfl (Nat.le_of_ble_eq_true rfl) ⟨Nat.zero_le _, Nat.zero_le _⟩ dX7_height_31 (fun H locs hP hS => ?_)
      exact tb_iret h F hP hS dX7_height_34
    · have h := tb_ip c8 h
      refine lv_ldc (v := (-1000001)) hx hb F.1.2.2.2.1 (tb_hts F kc_X7_62) dX7_height_18 ?_
      exact tb_iret h F hP hS dX7_height_20
def fX7_later (a1 : Int32) (a2 : Int32) (M : tb_Mem) : Option (Int32 × tb_Mem) :=
  tb_b2 (fX7_isBasket M) (fun r3 M1 => if r3 = 0 then (some ((-1000002), M1)) else (tb_b2 (fX7_in a1 0 60 M1) (fun r7 M5 => if r7 = 0 then (some ((-1000001), M5)) else (tb_b2 (fX7_in a2 0 2 M5) (fun r11 M9 => if r11 = 0 then (some ((-1000001), M9)) else (tb_b1 (fX7_goesOn a1 M9) (fun M13 => if a2 = 0 then (tb_b2 (fX7_hanging 308 M13) (fun r22 M20 => some (r22, M20))) else (if a2 = 1 then (tb_b2 (fX7_moving 308 M13) (fun r19 M17 => some (r19, M17))) else (some ((M13 308 1), M13))))))))))
abbrev rmX7_later : Room := { frames := 5, cells := 0, slots := 0, locals := 117 }
set_option maxHeartbeats 4000000 in
set_option maxRecDepth 100000 in
theorem tX7_later (g : tb_GT) (l : Launch) (a1 : Int32) (a2 : Int32) (M M' : tb_Mem) (r : Int32) (h : fX7_later a1 a2 M = some (r, M')) : tb_C g l yX7_later (Cond.code yX7_later cX7_later 3 (some .int)) rmX7_later [.ref (tb_ad g 297), .int a1, .int a2] M M' (some (.int r)) := by
  refine tb_entry (by decide) (Nat.le_of_ble_eq_true rfl) ?_
  intro P e s m below meth c F hP hS ls hl
  have F : tb_F g cX7_later 3 RX7 (some .int) (Cond.code yX7_later cX7_later 3 (some .int)) P s m ([.ref (tb_ad g 297), .int a1, .int a2] : List Value).toArray meth c := F
  have hx := F.1.1
  have hb := F.1.2.1
  have hl : lv_has ls 3 [(0, .ref (tb_ad g 297)), (1, .int a1), (2, .int a2)] := hl
  unfold fX7_later at h
  refine lv_aload_n hx hb dX7_later_0 rfl (lv_at hl 0 rfl) ?_
  obtain ⟨r3, M1, e2, h⟩ := tb_b2s h
  refine tb_callV F hP hS hl.1 kX7_isBasket km_X7_131 (as := []) (tX7_isBasket g l M M1 r3 e2) tb_l297 ⟨rfl, rfl, Nat.le_of_ble_eq_true rfl, Nat.le_of_ble_eq_true rfl⟩ rfl (rest := []) rfl (st1 := [.int r3]) rfl (Nat.le_of_ble_eq_true rfl) ⟨Nat.zero_le _, Nat.zero_le _⟩ dX7_later_1 (fun H locs hP hS => ?_)
  refine lv_if_ne (tgt := 10) hx hb dX7_later_4 (by decide) (fun c4 => ?_) (fun c4 => ?_)
  · have h := tb_ineg c4 h
    refine lv_iload_n hx hb dX7_later_10 rfl (lv_at hl 1 rfl) ?_
    refine lv_iconst (v := 0) hx hb dX7_later_11 (by decide) ?_
    refine lv_bipush (v := 60) hx hb dX7_later_12 (by decide) ?_
    obtain ⟨r7, M5, e6, h⟩ := tb_b2s h
    refine tb_callS F hP hS hl.1 kX7_in km_X7_47 (as := [.int a1, .int 0, .int 60]) (tX7_in g l a1 0 60 M1 M5 r7 e6) ⟨rfl, rfl, Nat.le_of_ble_eq_true rfl, Nat.le_of_ble_eq_true rfl⟩ rfl (rest := []) rfl (st1 := [.int r7]) rfl (Nat.le_of_ble_eq_true rfl) ⟨Nat.zero_le _, Nat.zero_le _⟩ dX7_later_14 (fun H locs hP hS => ?_)
    refine lv_if_eq (tgt := 29) hx hb dX7_later_17 (by decide) (fun c8 => ?_) (fun c8 => ?_)
    · have h := tb_ip c8 h
      refine lv_ldc (v := (-1000001)) hx hb F.1.2.2.2.1 (tb_hts F kc_X7_62) dX7_later_29 ?_
      exact tb_iret h F hP hS dX7_later_31
    · have h := tb_ineg c8 h
      refine lv_iload_n hx hb dX7_later_20 rfl (lv_at hl 2 rfl) ?_
      refine lv_iconst (v := 0) hx hb dX7_later_21 (by decide) ?_
      refine lv_iconst (v := 2) hx hb dX7_later_22 (by decide) ?_
      obtain ⟨r11, M9, e10, h⟩ := tb_b2s h
      refine tb_callS F hP hS hl.1 kX7_in km_X7_47 (as := [.int a2, .int 0, .int 2]) (tX7_in g l a2 0 2 M5 M9 r11 e10) ⟨rfl, rfl, Nat.le_of_ble_eq_true rfl, Nat.le_of_ble_eq_true rfl⟩ rfl (rest := []) rfl (st1 := [.int r11]) rfl (Nat.le_of_ble_eq_true rfl) ⟨Nat.zero_le _, Nat.zero_le _⟩ dX7_later_23 (fun H locs hP hS => ?_)
      refine lv_if_ne (tgt := 32) hx hb dX7_later_26 (by decide) (fun c12 => ?_) (fun c12 => ?_)
      · have h := tb_ineg c12 h
        refine lv_aload_n hx hb dX7_later_32 rfl (lv_at hl 0 rfl) ?_
        refine lv_iload_n hx hb dX7_later_33 rfl (lv_at hl 1 rfl) ?_
        obtain ⟨M13, e14, h⟩ := tb_b1s h
        refine tb_callV F hP hS hl.1 kX7_goesOn km_X7_171 (as := [.int a1]) (tX7_goesOn g l a1 M9 M13 e14) tb_l297 ⟨rfl, rfl, Nat.le_of_ble_eq_true rfl, Nat.le_of_ble_eq_true rfl⟩ rfl (rest := []) rfl (st1 := []) rfl (Nat.le_of_ble_eq_true rfl) ⟨Nat.zero_le _, Nat.zero_le _⟩ dX7_later_34 (fun H locs hP hS => ?_)
        refine lv_iload_n hx hb dX7_later_37 rfl (lv_at hl 2 rfl) ?_
        refine lv_if_ne (tgt := 51) hx hb dX7_later_38 (by decide) (fun c15 => ?_) (fun c15 => ?_)
        · have h := tb_ineg c15 h
          refine lv_iload_n hx hb dX7_later_51 rfl (lv_at hl 2 rfl) ?_
          refine lv_iconst (v := 1) hx hb dX7_later_52 (by decide) ?_
          refine lv_icmp_ne (tgt := 66) hx hb dX7_later_53 (by decide) (fun c16 => ?_) (fun c16 => ?_)
          · have h := tb_ineg c16 h
            refine lv_aload_n hx hb dX7_later_66 rfl (lv_at hl 0 rfl) ?_
            refine tb_getr F hP tb_l297 (ci := 7) rfl inlX7 14 (by decide) rfl kf_X7_41 dX7_later_67 ?_
            refine lv_iconst (v := 1) hx hb dX7_later_70 (by decide) ?_
            refine tb_iald F hP tb_l308 (k := 1) (by decide +kernel) (tb_inv (i := 1) (n := 63) (by decide +kernel)) dX7_later_71 ?_
            exact tb_iret h F hP hS dX7_later_72
          · have h := tb_ip c16 h
            refine lv_aload_n hx hb dX7_later_56 rfl (lv_at hl 0 rfl) ?_
            refine tb_getr F hP tb_l297 (ci := 7) rfl inlX7 14 (by decide) rfl kf_X7_41 dX7_later_57 ?_
            obtain ⟨r19, M17, e18, h⟩ := tb_b2s h
            refine tb_callS F hP hS hl.1 kX7_moving km_X7_152 (as := [.ref (tb_ad g 308)]) (tX7_moving g l 308 tb_l308 M13 M17 r19 e18) ⟨rfl, rfl, Nat.le_of_ble_eq_true rfl, Nat.le_of_ble_eq_true rfl⟩ rfl (rest := []) rfl (st1 := [.int r19]) rfl (Nat.le_of_ble_eq_true rfl) ⟨Nat.zero_le _, Nat.zero_le _⟩ dX7_later_60 (fun H locs hP hS => ?_)
            refine lv_goto (tgt := 72) hx hb dX7_later_63 (by decide) ?_
            exact tb_iret h F hP hS dX7_later_72
        · have h := tb_ip c15 h
          refine lv_aload_n hx hb dX7_later_41 rfl (lv_at hl 0 rfl) ?_
          refine tb_getr F hP tb_l297 (ci := 7) rfl inlX7 14 (by decide) rfl kf_X7_41 dX7_later_42 ?_
          obtain ⟨r22, M20, e21, h⟩ := tb_b2s h
          refine tb_callS F hP hS hl.1 kX7_hanging km_X7_142 (as := [.ref (tb_ad g 308)]) (tX7_hanging g l 308 tb_l308 M13 M20 r22 e21) ⟨rfl, rfl, Nat.le_of_ble_eq_true rfl, Nat.le_of_ble_eq_true rfl⟩ rfl (rest := []) rfl (st1 := [.int r22]) rfl (Nat.le_of_ble_eq_true rfl) ⟨Nat.zero_le _, Nat.zero_le _⟩ dX7_later_45 (fun H locs hP hS => ?_)
          refine lv_goto (tgt := 72) hx hb dX7_later_48 (by decide) ?_
          exact tb_iret h F hP hS dX7_later_72
      · have h := tb_ip c12 h
        refine lv_ldc (v := (-1000001)) hx hb F.1.2.2.2.1 (tb_hts F kc_X7_62) dX7_later_29 ?_
        exact tb_iret h F hP hS dX7_later_31
  · have h := tb_ip c4 h
    refine lv_ldc (v := (-1000002)) hx hb F.1.2.2.2.1 (tb_hts F kc_X7_134) dX7_later_7 ?_
    exact tb_iret h F hP hS dX7_later_9

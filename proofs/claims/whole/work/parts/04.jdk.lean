def fX6_within (a0 : Int32) (a1 : Int32) (a2 : Int32) (M : tb_Mem) : Option (Int32 × tb_Mem) :=
  some (((if a0 < a1 then 0 else (if a2 < a0 then 0 else 1)) : Int32), M)
abbrev rmX6_within : Room := { frames := 0, cells := 0, slots := 0, locals := 0 }
set_option maxHeartbeats 4000000 in
set_option maxRecDepth 100000 in
theorem tX6_within (g : tb_GT) (l : Launch) (a0 : Int32) (a1 : Int32) (a2 : Int32) (M M' : tb_Mem) (r : Int32) (h : fX6_within a0 a1 a2 M = some (r, M')) : tb_C g l yX6_within (Cond.code yX6_within cX6_within 3 (some .boolean)) rmX6_within [.int a0, .int a1, .int a2] M M' (some (.int r)) := by
  refine tb_entry (by decide) (Nat.le_of_ble_eq_true rfl) ?_
  intro P e s m below meth c F hP hS ls hl
  have F : tb_F g cX6_within 3 RX6 (some .boolean) (Cond.code yX6_within cX6_within 3 (some .boolean)) P s m ([.int a0, .int a1, .int a2] : List Value).toArray meth c := F
  have hx := F.1.1
  have hb := F.1.2.1
  have hl : lv_has ls 3 [(0, .int a0), (1, .int a1), (2, .int a2)] := hl
  unfold fX6_within at h
  refine lv_iload_n hx hb dX6_within_0 rfl (lv_at hl 0 rfl) ?_
  refine lv_iload_n hx hb dX6_within_1 rfl (lv_at hl 1 rfl) ?_
  refine tb_mrg (g2 := F0 m 15 ls [.int ((if a0 < a1 then 0 else (if a2 < a0 then 0 else 1)) : Int32)]) (fun hJ => ?_) ?_
  · refine lv_icmp_lt (tgt := 14) hx hb dX6_within_2 (by decide) (fun c1 => ?_) (fun c1 => ?_)
    · refine lv_iconst (v := 0) hx hb dX6_within_14 (by decide) ?_
      rw [if_pos c1] at hJ
      exact hJ
    · refine lv_iload_n hx hb dX6_within_5 rfl (lv_at hl 0 rfl) ?_
      refine lv_iload_n hx hb dX6_within_6 rfl (lv_at hl 2 rfl) ?_
      refine lv_icmp_gt (tgt := 14) hx hb dX6_within_7 (by decide) (fun c2 => ?_) (fun c2 => ?_)
      · refine lv_iconst (v := 0) hx hb dX6_within_14 (by decide) ?_
        rw [if_neg c1, if_pos c2] at hJ
        exact hJ
      · refine lv_iconst (v := 1) hx hb dX6_within_10 (by decide) ?_
        refine lv_goto (tgt := 15) hx hb dX6_within_11 (by decide) ?_
        rw [if_neg c1, if_neg c2] at hJ
        exact hJ
  exact tb_zret h F (tb_bln (by (repeat' split) <;> decide)) hP hS dX6_within_15
def fX6_power_L5 : Nat → Int32 → Int32 → Int64 → Int32 → tb_Mem → Option (Int64 × tb_Mem)
  | 0, _, _, _, _, _ => none
  | n + 1, x0, x1, x2, x4, M => if x1 ≤ x4 then (some (x2, M)) else (tb_let ((x2 * ((x0 : Int32).toInt64)) : Int64) (fun v2 => fX6_power_L5 n x0 x1 v2 (x4 + 1) M))
def fX6_power (a0 : Int32) (a1 : Int32) (M : tb_Mem) : Option (Int64 × tb_Mem) :=
  fX6_power_L5 tb_N a0 a1 1 0 M
abbrev rmX6_power : Room := { frames := 0, cells := 0, slots := 0, locals := 0 }
set_option maxHeartbeats 4000000 in
set_option maxRecDepth 100000 in
theorem tX6_power_L5 {g : tb_GT} {l : Launch} {P : Program} {e : Env} {s : State} {m : MethodId} {below : List Frame} {meth : Method} {c : Code} {a0 : Int32} {a1 : Int32} {M' : tb_Mem} {r : Int64} (F : tb_F g cX6_power 5 RX6 (some .long) (Cond.code yX6_power cX6_power 5 (some .long)) P s m ([.int a0, .int a1] : List Value).toArray meth c) :
    ∀ (n : Nat) (x0 : Int32) (x1 : Int32) (x2 : Int64) (x4 : Int32) (M : tb_Mem) (H : Heap) (locs : List Loc) (ls : Array Slot), tb_P g M H → va_S (tb_A g) s.heap H locs → lv_has ls 5 [(0, .int x0), (1, .int x1), (2, .long x2), (4, .int x4)] → fX6_power_L5 n x0 x1 x2 x4 M = some (r, M') → W P l e rmX6_power s m ([.int a0, .int a1] : List Value).toArray below meth c H locs 0 0 (MQ below (tb_Q g M' (some (.long r))) ([.int a0, .int a1] : List Value).toArray s 0 0 (tb_A g)) (F0 m 5 ls []) := by
  have hx := F.1.1
  have hb := F.1.2.1
  intro n
  induction n with
  | zero =>
    intro x0 x1 x2 x4 M H locs ls hP hS hl h
    rw [fX6_power_L5] at h
    exact tb_none h
  | succ n ih =>
    intro x0 x1 x2 x4 M H locs ls hP hS hl h
    rw [fX6_power_L5] at h
    refine lv_iload hx hb dX6_power_5 (lv_at hl 3 rfl) ?_
    refine lv_iload_n hx hb dX6_power_7 rfl (lv_at hl 1 rfl) ?_
    refine lv_icmp_ge (tgt := 22) hx hb dX6_power_8 (by decide) (fun c1 => ?_) (fun c1 => ?_)
    · have h := tb_ip c1 h
      refine lv_lload_n hx hb dX6_power_22 rfl (lv_at hl 2 rfl) ?_
      exact tb_lret h F hP hS dX6_power_23
    · have h := tb_ineg c1 h
      refine lv_lload_n hx hb dX6_power_11 rfl (lv_at hl 2 rfl) ?_
      refine lv_iload_n hx hb dX6_power_12 rfl (lv_at hl 0 rfl) ?_
      refine lv_i2l (v := ((x0 : Int32).toInt64)) hx hb dX6_power_13 rfl ?_
      refine lv_lmul hx hb dX6_power_14 ?_
      obtain ⟨v2, e3, h⟩ := tb_lets h
      refine tb_nml e3 ?_
      refine lv_lstore_n (lv' := [(2, .long v2), (0, .int x0), (1, .int x1), (4, .int x4)]) hx hb dX6_power_15 rfl hl (by decide) rfl (fun ls hl => ?_)
      refine lv_iinc (v := (x4 + 1)) (lv' := [(4, .int (x4 + 1)), (2, .long v2), (0, .int x0), (1, .int x1)]) hx hb dX6_power_16 hl (k := 3) rfl rfl (by decide) rfl (fun ls hl => ?_)
      refine lv_goto (tgt := 5) hx hb dX6_power_19 (by decide) ?_
      exact ih x0 x1 v2 (x4 + 1) M _ _ _ hP hS (lv_sub hl [2, 3, 1, 0] rfl) h
set_option maxHeartbeats 4000000 in
set_option maxRecDepth 100000 in
theorem tX6_power (g : tb_GT) (l : Launch) (a0 : Int32) (a1 : Int32) (M M' : tb_Mem) (r : Int64) (h : fX6_power a0 a1 M = some (r, M')) : tb_C g l yX6_power (Cond.code yX6_power cX6_power 5 (some .long)) rmX6_power [.int a0, .int a1] M M' (some (.long r)) := by
  refine tb_entry (by decide) (Nat.le_of_ble_eq_true rfl) ?_
  intro P e s m below meth c F hP hS ls hl
  have F : tb_F g cX6_power 5 RX6 (some .long) (Cond.code yX6_power cX6_power 5 (some .long)) P s m ([.int a0, .int a1] : List Value).toArray meth c := F
  have hx := F.1.1
  have hb := F.1.2.1
  have hl : lv_has ls 5 [(0, .int a0), (1, .int a1)] := hl
  unfold fX6_power at h
  refine lv_lconst (v := 1) hx hb dX6_power_0 (by decide) ?_
  refine lv_lstore_n (lv' := [(2, .long 1), (0, .int a0), (1, .int a1)]) hx hb dX6_power_1 rfl hl (by decide) rfl (fun ls hl => ?_)
  refine lv_iconst (v := 0) hx hb dX6_power_2 (by decide) ?_
  refine lv_istore (lv' := [(4, .int 0), (2, .long 1), (0, .int a0), (1, .int a1)]) hx hb dX6_power_3 hl (by decide) rfl (fun ls hl => ?_)
  exact tX6_power_L5 F tb_N a0 a1 1 0 M _ _ _ hP hS (lv_sub hl [2, 3, 1, 0] rfl) h
def fJ7_fill_53178_L5 (q0 : Nat) (nn : Nat) : Nat → Int32 → Int32 → Int32 → tb_Mem → Option (tb_Mem)
  | 0, _, _, _, _ => none
  | n + 1, x1, x2, x3, M => if x3 ≤ x2 then (some M) else (tb_ck (tb_in x2 nn) (tb_let (tb_up M q0 x2.toNatClampNeg x1) (fun M3 => fJ7_fill_53178_L5 q0 nn n x1 (x2 + 1) x3 M3)))
def fJ7_fill_53178 (q0 : Nat) (nn : Nat) (a1 : Int32) (M : tb_Mem) : Option (tb_Mem) :=
  fJ7_fill_53178_L5 q0 nn tb_N a1 0 (Int32.ofNat nn) M
abbrev rmJ7_fill_53178 : Room := { frames := 0, cells := 0, slots := 0, locals := 0 }
set_option maxHeartbeats 4000000 in
set_option maxRecDepth 100000 in
theorem tJ7_fill_53178_L5 {g : tb_GT} {l : Launch} {P : Program} {e : Env} {s : State} {m : MethodId} {below : List Frame} {meth : Method} {c : Code} (q0 : Nat) (nn : Nat) (hq0 : tb_lay q0 = tb_ar nn) {a1 : Int32} {M' : tb_Mem} (F : tb_F g cJ7_fill_53178 4 RJ7 none (Cond.code yJ7_fill_53178 cJ7_fill_53178 4 none) P s m ([.ref (tb_ad g q0), .int a1] : List Value).toArray meth c) :
    ∀ (n : Nat) (x1 : Int32) (x2 : Int32) (x3 : Int32) (M : tb_Mem) (H : Heap) (locs : List Loc) (ls : Array Slot), tb_P g M H → va_S (tb_A g) s.heap H locs → lv_has ls 4 [(0, .ref (tb_ad g q0)), (1, .int x1), (2, .int x2), (3, .int x3)] → fJ7_fill_53178_L5 q0 nn n x1 x2 x3 M = some M' → W P l e rmJ7_fill_53178 s m ([.ref (tb_ad g q0), .int a1] : List Value).toArray below meth c H locs 0 0 (MQ below (tb_Q g M' none) ([.ref (tb_ad g q0), .int a1] : List Value).toArray s 0 0 (tb_A g)) (F0 m 5 ls []) := by
  have hx := F.1.1
  have hb := F.1.2.1
  intro n
  induction n with
  | zero =>
    intro x1 x2 x3 M H locs ls hP hS hl h
    rw [fJ7_fill_53178_L5] at h
    exact tb_none h
  | succ n ih =>
    intro x1 x2 x3 M H locs ls hP hS hl h
    rw [fJ7_fill_53178_L5] at h
    refine lv_iload_n hx hb dJ7_fill_53178_5 rfl (lv_at hl 2 rfl) ?_
    refine lv_iload_n hx hb dJ7_fill_53178_6 rfl (lv_at hl 3 rfl) ?_
    refine lv_icmp_ge (tgt := 20) hx hb dJ7_fill_53178_7 (by decide) (fun c1 => ?_) (fun c1 => ?_)
    · have h := tb_ip c1 h
      exact tb_vret h F hP hS dJ7_fill_53178_20
    · have h := tb_ineg c1 h
      refine lv_aload_n hx hb dJ7_fill_53178_10 rfl (lv_at hl 0 rfl) ?_
      refine lv_iload_n hx hb dJ7_fill_53178_11 rfl (lv_at hl 2 rfl) ?_
      refine lv_iload_n hx hb dJ7_fill_53178_12 rfl (lv_at hl 1 rfl) ?_
      obtain ⟨k2, h⟩ := tb_cks h
      obtain ⟨M3, e4, h⟩ := tb_lets h
      refine tb_iast F hP hS hq0 rfl (tb_inv k2) dJ7_fill_53178_13 (fun H locs hP hS => ?_)
      rw [← e4] at hP
      refine lv_iinc (v := (x2 + 1)) (lv' := [(2, .int (x2 + 1)), (0, .ref (tb_ad g q0)), (1, .int x1), (3, .int x3)]) hx hb dJ7_fill_53178_14 hl (k := 2) rfl rfl (by decide) rfl (fun ls hl => ?_)
      refine lv_goto (tgt := 5) hx hb dJ7_fill_53178_17 (by decide) ?_
      exact ih x1 (x2 + 1) x3 M3 _ _ _ hP hS (lv_sub hl [1, 2, 0, 3] rfl) h
set_option maxHeartbeats 4000000 in
set_option maxRecDepth 100000 in
theorem tJ7_fill_53178 (g : tb_GT) (l : Launch) (q0 : Nat) (nn : Nat) (hq0 : tb_lay q0 = tb_ar nn) (a1 : Int32) (M M' : tb_Mem) (h : fJ7_fill_53178 q0 nn a1 M = some M') : tb_C g l yJ7_fill_53178 (Cond.code yJ7_fill_53178 cJ7_fill_53178 4 none) rmJ7_fill_53178 [.ref (tb_ad g q0), .int a1] M M' none := by
  refine tb_entry (by decide) (Nat.le_of_ble_eq_true rfl) ?_
  intro P e s m below meth c F hP hS ls hl
  have F : tb_F g cJ7_fill_53178 4 RJ7 none (Cond.code yJ7_fill_53178 cJ7_fill_53178 4 none) P s m ([.ref (tb_ad g q0), .int a1] : List Value).toArray meth c := F
  have hx := F.1.1
  have hb := F.1.2.1
  have hl : lv_has ls 4 [(0, .ref (tb_ad g q0)), (1, .int a1)] := hl
  unfold fJ7_fill_53178 at h
  refine lv_iconst (v := 0) hx hb dJ7_fill_53178_0 (by decide) ?_
  refine lv_istore_n (lv' := [(2, .int 0), (0, .ref (tb_ad g q0)), (1, .int a1)]) hx hb dJ7_fill_53178_1 rfl hl (by decide) rfl (fun ls hl => ?_)
  refine lv_aload_n hx hb dJ7_fill_53178_2 rfl (lv_at hl 1 rfl) ?_
  refine tb_alen F hP hq0 (v := (Int32.ofNat nn)) rfl dJ7_fill_53178_3 ?_
  refine lv_istore_n (lv' := [(3, .int (Int32.ofNat nn)), (2, .int 0), (0, .ref (tb_ad g q0)), (1, .int a1)]) hx hb dJ7_fill_53178_4 rfl hl (by decide) rfl (fun ls hl => ?_)
  exact tJ7_fill_53178_L5 q0 nn hq0 F tb_N a1 0 (Int32.ofNat nn) M _ _ _ hP hS (lv_sub hl [2, 3, 1, 0] rfl) h
def fJ6_bitCount_0f7a4 (a0 : Int32) (M : tb_Mem) : Option (Int32 × tb_Mem) :=
  tb_let ((a0 - (((a0.toUInt32 >>> (((1 : Int32)).toUInt32 &&& Int32.toUInt32 31)).toInt32) &&& 1431655765)) : Int32) (fun v1 => tb_let (((v1 &&& 858993459) + (((v1.toUInt32 >>> (((2 : Int32)).toUInt32 &&& Int32.toUInt32 31)).toInt32) &&& 858993459)) : Int32) (fun v3 => tb_let (((v3 + ((v3.toUInt32 >>> (((4 : Int32)).toUInt32 &&& Int32.toUInt32 31)).toInt32)) &&& 252645135) : Int32) (fun v5 => tb_let ((v5 + ((v5.toUInt32 >>> (((8 : Int32)).toUInt32 &&& Int32.toUInt32 31)).toInt32)) : Int32) (fun v7 => tb_let ((v7 + ((v7.toUInt32 >>> (((16 : Int32)).toUInt32 &&& Int32.toUInt32 31)).toInt32)) : Int32) (fun v9 => some ((v9 &&& 63), M))))))
abbrev rmJ6_bitCount_0f7a4 : Room := { frames := 0, cells := 0, slots := 0, locals := 0 }
set_option maxHeartbeats 4000000 in
set_option maxRecDepth 100000 in
theorem tJ6_bitCount_0f7a4 (g : tb_GT) (l : Launch) (a0 : Int32) (M M' : tb_Mem) (r : Int32) (h : fJ6_bitCount_0f7a4 a0 M = some (r, M')) : tb_C g l yJ6_bitCount_0f7a4 (Cond.code yJ6_bitCount_0f7a4 cJ6_bitCount_0f7a4 1 (some .int)) rmJ6_bitCount_0f7a4 [.int a0] M M' (some (.int r)) := by
  refine tb_entry (by decide) (Nat.le_of_ble_eq_true rfl) ?_
  intro P e s m below meth c F hP hS ls hl
  have F : tb_F g cJ6_bitCount_0f7a4 1 RJ6 (some .int) (Cond.code yJ6_bitCount_0f7a4 cJ6_bitCount_0f7a4 1 (some .int)) P s m ([.int a0] : List Value).toArray meth c := F
  have hx := F.1.1
  have hb := F.1.2.1
  have hl : lv_has ls 1 [(0, .int a0)] := hl
  unfold fJ6_bitCount_0f7a4 at h
  refine lv_iload_n hx hb dJ6_bitCount_0f7a4_0 rfl (lv_at hl 0 rfl) ?_
  refine lv_iload_n hx hb dJ6_bitCount_0f7a4_1 rfl (lv_at hl 0 rfl) ?_
  refine lv_iconst (v := 1) hx hb dJ6_bitCount_0f7a4_2 (by decide) ?_
  refine lv_iushr (v := (a0.toUInt32 >>> (((1 : Int32)).toUInt32 &&& Int32.toUInt32 31)).toInt32) hx hb dJ6_bitCount_0f7a4_3 rfl ?_
  refine lv_ldcw (v := 1431655765) hx hb F.1.2.2.2.1 (tb_hts F kc_J6_265) dJ6_bitCount_0f7a4_4 ?_
  refine lv_iand hx hb dJ6_bitCount_0f7a4_7 ?_
  refine lv_isub hx hb dJ6_bitCount_0f7a4_8 ?_
  obtain ⟨v1, e2, h⟩ := tb_lets h
  refine tb_nmi e2 ?_
  refine lv_istore_n (lv' := [(0, .int v1)]) hx hb dJ6_bitCount_0f7a4_9 rfl hl (by decide) rfl (fun ls hl => ?_)
  refine lv_iload_n hx hb dJ6_bitCount_0f7a4_10 rfl (lv_at hl 0 rfl) ?_
  refine lv_ldcw (v := 858993459) hx hb F.1.2.2.2.1 (tb_hts F kc_J6_266) dJ6_bitCount_0f7a4_11 ?_
  refine lv_iand hx hb dJ6_bitCount_0f7a4_14 ?_
  refine lv_iload_n hx hb dJ6_bitCount_0f7a4_15 rfl (lv_at hl 0 rfl) ?_
  refine lv_iconst (v := 2) hx hb dJ6_bitCount_0f7a4_16 (by decide) ?_
  refine lv_iushr (v := (v1.toUInt32 >>> (((2 : Int32)).toUInt32 &&& Int32.toUInt32 31)).toInt32) hx hb dJ6_bitCount_0f7a4_17 rfl ?_
  refine lv_ldcw (v := 858993459) hx hb F.1.2.2.2.1 (tb_hts F kc_J6_266) dJ6_bitCount_0f7a4_18 ?_
  refine lv_iand hx hb dJ6_bitCount_0f7a4_21 ?_
  refine lv_iadd hx hb dJ6_bitCount_0f7a4_22 ?_
  obtain ⟨v3, e4, h⟩ := tb_lets h
  refine tb_nmi e4 ?_
  refine lv_istore_n (lv' := [(0, .int v3)]) hx hb dJ6_bitCount_0f7a4_23 rfl hl (by decide) rfl (fun ls hl => ?_)
  refine lv_iload_n hx hb dJ6_bitCount_0f7a4_24 rfl (lv_at hl 0 rfl) ?_
  refine lv_iload_n hx hb dJ6_bitCount_0f7a4_25 rfl (lv_at hl 0 rfl) ?_
  refine lv_iconst (v := 4) hx hb dJ6_bitCount_0f7a4_26 (by decide) ?_
  refine lv_iushr (v := (v3.toUInt32 >>> (((4 : Int32)).toUInt32 &&& Int32.toUInt32 31)).toInt32) hx hb dJ6_bitCount_0f7a4_27 rfl ?_
  refine lv_iadd hx hb dJ6_bitCount_0f7a4_28 ?_
  refine lv_ldcw (v := 252645135) hx hb F.1.2.2.2.1 (tb_hts F kc_J6_267) dJ6_bitCount_0f7a4_29 ?_
  refine lv_iand hx hb dJ6_bitCount_0f7a4_32 ?_
  obtain ⟨v5, e6, h⟩ := tb_lets h
  refine tb_nmi e6 ?_
  refine lv_istore_n (lv' := [(0, .int v5)]) hx hb dJ6_bitCount_0f7a4_33 rfl hl (by decide) rfl (fun ls hl => ?_)
  refine lv_iload_n hx hb dJ6_bitCount_0f7a4_34 rfl (lv_at hl 0 rfl) ?_
  refine lv_iload_n hx hb dJ6_bitCount_0f7a4_35 rfl (lv_at hl 0 rfl) ?_
  refine lv_bipush (v := 8) hx hb dJ6_bitCount_0f7a4_36 (by decide) ?_
  refine lv_iushr (v := (v5.toUInt32 >>> (((8 : Int32)).toUInt32 &&& Int32.toUInt32 31)).toInt32) hx hb dJ6_bitCount_0f7a4_38 rfl ?_
  refine lv_iadd hx hb dJ6_bitCount_0f7a4_39 ?_
  obtain ⟨v7, e8, h⟩ := tb_lets h
  refine tb_nmi e8 ?_
  refine lv_istore_n (lv' := [(0, .int v7)]) hx hb dJ6_bitCount_0f7a4_40 rfl hl (by decide) rfl (fun ls hl => ?_)
  refine lv_iload_n hx hb dJ6_bitCount_0f7a4_41 rfl (lv_at hl 0 rfl) ?_
  refine lv_iload_n hx hb dJ6_bitCount_0f7a4_42 rfl (lv_at hl 0 rfl) ?_
  refine lv_bipush (v := 16) hx hb dJ6_bitCount_0f7a4_43 (by decide) ?_
  refine lv_iushr (v := (v7.toUInt32 >>> (((16 : Int32)).toUInt32 &&& Int32.toUInt32 31)).toInt32) hx hb dJ6_bitCount_0f7a4_45 rfl ?_
  refine lv_iadd hx hb dJ6_bitCount_0f7a4_46 ?_
  obtain ⟨v9, e10, h⟩ := tb_lets h
  refine tb_nmi e10 ?_
  refine lv_istore_n (lv' := [(0, .int v9)]) hx hb dJ6_bitCount_0f7a4_47 rfl hl (by decide) rfl (fun ls hl => ?_)
  refine lv_iload_n hx hb dJ6_bitCount_0f7a4_48 rfl (lv_at hl 0 rfl) ?_
  refine lv_bipush (v := 63) hx hb dJ6_bitCount_0f7a4_49 (by decide) ?_
  refine lv_iand hx hb dJ6_bitCount_0f7a4_51 ?_
  exact tb_iret h F hP hS dJ6_bitCount_0f7a4_52

def fX1_leave (a1 : Int32) (M : tb_Mem) : Option (tb_Mem) :=
  if 16 ≤ (M 261 1) then (some M) else (tb_ck (tb_in (M 261 1) 16) (tb_let (tb_up M 262 ((M 261 1).toNatClampNeg) a1) (fun M3 => tb_let (tb_up M3 261 1 ((M3 261 1) + 1)) (fun M5 => some M5))))
abbrev rmX1_leave : Room := { frames := 0, cells := 0, slots := 0, locals := 0 }
set_option maxHeartbeats 4000000 in
set_option maxRecDepth 100000 in
theorem tX1_leave (g : tb_GT) (l : Launch) (a1 : Int32) (M M' : tb_Mem) (h : fX1_leave a1 M = some M') : tb_C g l yX1_leave (Cond.code yX1_leave cX1_leave 2 none) rmX1_leave [.ref (tb_ad g 261), .int a1] M M' none := by
  refine tb_entry (by decide) (Nat.le_of_ble_eq_true rfl) ?_
  intro P e s m below meth c F hP hS ls hl
  have F : tb_F g cX1_leave 2 RX1 none (Cond.code yX1_leave cX1_leave 2 none) P s m ([.ref (tb_ad g 261), .int a1] : List Value).toArray meth c := F
  have hx := F.1.1
  have hb := F.1.2.1
  have hl : lv_has ls 2 [(0, .ref (tb_ad g 261)), (1, .int a1)] := hl
  unfold fX1_leave at h
  refine lv_aload_n hx hb dX1_leave_0 rfl (lv_at hl 0 rfl) ?_
  refine tb_geti F hP tb_l261 (ci := 1) rfl inlX1 1 (by decide) rfl kf_X1_13 dX1_leave_1 ?_
  refine lv_bipush (v := 16) hx hb dX1_leave_4 (by decide) ?_
  refine lv_icmp_ge (tgt := 29) hx hb dX1_leave_6 (by decide) (fun c1 => ?_) (fun c1 => ?_)
  · have h := tb_ip c1 h
    exact tb_vret h F hP hS dX1_leave_29
  · have h := tb_ineg c1 h
    refine lv_aload_n hx hb dX1_leave_9 rfl (lv_at hl 0 rfl) ?_
    refine tb_getr F hP tb_l261 (ci := 1) rfl inlX1 0 (by decide) rfl kf_X1_9 dX1_leave_10 ?_
    refine lv_aload_n hx hb dX1_leave_13 rfl (lv_at hl 0 rfl) ?_
    refine tb_geti F hP tb_l261 (ci := 1) rfl inlX1 1 (by decide) rfl kf_X1_13 dX1_leave_14 ?_
    refine lv_iload_n hx hb dX1_leave_17 rfl (lv_at hl 1 rfl) ?_
    obtain ⟨k2, h⟩ := tb_cks h
    obtain ⟨M3, e4, h⟩ := tb_lets h
    refine tb_iast F hP hS tb_l262 rfl (tb_inv k2) dX1_leave_18 (fun H locs hP hS => ?_)
    rw [← e4] at hP
    refine lv_aload_n hx hb dX1_leave_19 rfl (lv_at hl 0 rfl) ?_
    refine lv_dup hx hb dX1_leave_20 rfl ?_
    refine tb_geti F hP tb_l261 (ci := 1) rfl inlX1 1 (by decide) rfl kf_X1_13 dX1_leave_21 ?_
    refine lv_iconst (v := 1) hx hb dX1_leave_24 (by decide) ?_
    refine lv_iadd hx hb dX1_leave_25 ?_
    obtain ⟨M5, e6, h⟩ := tb_lets h
    refine tb_puti F hP hS tb_l261 (ci := 1) rfl inlX1 tyX1 tyX1_ok nmX1 1 (by decide) rfl rfl rfl rfl kf_X1_13 dX1_leave_26 (fun H locs hP hS => ?_)
    rw [← e6] at hP
    exact tb_vret h F hP hS dX1_leave_29
def fX1_give (p2 : Nat) : Nat → Int32 → Int32 → Int32 → tb_Mem → Option (Int32 × tb_Mem)
  | 0, _, _, _, _ => none
  | n + 1, a1, a3, a4, M => if a4 ≤ 16 then (tb_b1 (fX1_leave a1 M) (fun M2 => tb_ck (tb_in a3 8) (tb_let ((M2 (p2 + 1) a3.toNatClampNeg) : Int32) (fun v5 => if a1 = 10 then (some ((M2 (p2 + 2) a3.toNatClampNeg), M2)) else (if a1 = 11 then (tb_b2 (fX1_give p2 n 10 a3 (a4 + 1) M2) (fun r11 M9 => tb_ck (tb_in v5 6) (tb_b2 (fX1_give p2 n (tb_tab 2 v5.toNatClampNeg) a3 (a4 + 1) M9) (fun r15 M13 => some ((r11 + r15), M13))))) else (if a1 = 12 then (tb_b2 (fX1_give p2 n 11 a3 (a4 + 1) M2) (fun r19 M17 => some ((0 - r19), M17))) else (if a1 = 13 then (tb_b2 (fX1_give p2 n 10 a3 (a4 + 1) M2) (fun r23 M21 => some ((r23 - 100), M21))) else (if a1 = 14 then (tb_b2 (fX1_give p2 n 13 a3 (a4 + 1) M2) (fun r27 M25 => some ((2 * r27), M25))) else (if a1 = 15 then (some (0, M2)) else (if a1 = 16 then (some (0, M2)) else (if a1 = 17 then (some (0, M2)) else (if a1 = 18 then (some (0, M2)) else (if a1 = 19 then (some (0, M2)) else (if a1 = 20 then (some (a3, M2)) else (if a1 = 21 then (tb_b2 (fX1_give p2 n 20 a3 (a4 + 1) M2) (fun r37 M35 => some ((r37 + (M35 (p2 + 7) a3.toNatClampNeg)), M35))) else (if a1 = 22 then (tb_b2 (fX1_give p2 n 21 a3 (a4 + 1) M2) (fun r41 M39 => some ((r41 - 1000), M39))) else (if a1 = 23 then (tb_b2 (fX1_give p2 n 20 a3 (a4 + 1) M2) (fun r45 M43 => tb_ck (tb_in v5 6) (tb_b2 (fX1_give p2 n (tb_tab 1 v5.toNatClampNeg) a3 (a4 + 1) M43) (fun r49 M47 => some ((r45 - r49), M47))))) else (if a1 = 24 then (tb_b2 (fX1_give p2 n 21 a3 (a4 + 1) M2) (fun r53 M51 => some ((2 * r53), M51))) else (some (0, M2)))))))))))))))))))) else (some (0, M))
abbrev rmX1_give (n : Nat) : Room := { frames := n + 2, cells := 0, slots := 0, locals := 40 * n + 100 }
set_option maxHeartbeats 4000000 in
set_option maxRecDepth 100000 in
theorem tX1_give (g : tb_GT) (l : Launch) (p2 : Nat) (hB2 : tb_B p2) : ∀ (n : Nat) (a1 : Int32) (a3 : Int32) (a4 : Int32) (M M' : tb_Mem) (r : Int32) (h : fX1_give p2 n a1 a3 a4 M = some (r, M')), tb_C g l yX1_give (Cond.code yX1_give cX1_give 7 (some .int)) (rmX1_give n) [.ref (tb_ad g 261), .int a1, .ref (tb_ad g p2), .int a3, .int a4] M M' (some (.int r)) := by
  intro n
  induction n with
  | zero =>
    intro a1 a3 a4 M M' r h
    rw [fX1_give] at h
    exact tb_none h
  | succ n ih =>
    intro a1 a3 a4 M M' r h
    refine tb_entry (by decide) (Nat.le_of_ble_eq_true rfl) ?_
    intro P e s m below meth c F hP hS ls hl
    have F : tb_F g cX1_give 7 RX1 (some .int) (Cond.code yX1_give cX1_give 7 (some .int)) P s m ([.ref (tb_ad g 261), .int a1, .ref (tb_ad g p2), .int a3, .int a4] : List Value).toArray meth c := F
    have hx := F.1.1
    have hb := F.1.2.1
    have hl : lv_has ls 7 [(0, .ref (tb_ad g 261)), (1, .int a1), (2, .ref (tb_ad g p2)), (3, .int a3), (4, .int a4)] := hl
    rw [fX1_give] at h
    refine lv_iload hx hb dX1_give_0 (lv_at hl 4 rfl) ?_
    refine lv_bipush (v := 16) hx hb dX1_give_2 (by decide) ?_
    refine lv_icmp_le (tgt := 9) hx hb dX1_give_4 (by decide) (fun c1 => ?_) (fun c1 => ?_)
    · have h := tb_ip c1 h
      refine lv_aload_n hx hb dX1_give_9 rfl (lv_at hl 0 rfl) ?_
      refine lv_iload_n hx hb dX1_give_10 rfl (lv_at hl 1 rfl) ?_
      obtain ⟨M2, e3, h⟩ := tb_b1s h
      refine tb_callV F hP hS hl.1 kX1_leave km_X1_32 (as := [.int a1]) (tX1_leave g l a1 M M2 e3) tb_l261 ⟨rfl, rfl, by simp only [rmX1_leave, rmX1_give]; omega, by simp only [rmX1_leave, rmX1_give]; omega⟩ rfl (rest := []) rfl (st1 := []) rfl (Nat.le_of_ble_eq_true rfl) ⟨Nat.zero_le _, Nat.zero_le _⟩ dX1_give_11 (fun H locs hP hS => ?_)
      refine lv_iload hx hb dX1_give_14 (lv_at hl 4 rfl) ?_
      refine lv_iconst (v := 1) hx hb dX1_give_16 (by decide) ?_
      refine lv_iadd hx hb dX1_give_17 ?_
      refine lv_istore (lv' := [(5, .int (a4 + 1)), (0, .ref (tb_ad g 261)), (1, .int a1), (2, .ref (tb_ad g p2)), (3, .int a3), (4, .int a4)]) hx hb dX1_give_18 hl (by decide) rfl (fun ls hl => ?_)
      refine lv_aload_n hx hb dX1_give_20 rfl (lv_at hl 3 rfl) ?_
      refine tb_getr F hP hB2.1 (ci := 2) rfl inlX2 0 (by decide) rfl kf_X1_20 dX1_give_21 ?_
      refine lv_iload_n hx hb dX1_give_24 rfl (lv_at hl 4 rfl) ?_
      obtain ⟨k4, h⟩ := tb_cks h
      refine tb_iald F hP hB2.2.1 rfl (tb_inv k4) dX1_give_25 ?_
      obtain ⟨v5, e6, h⟩ := tb_lets h
      refine tb_nmi e6 ?_
      refine lv_istore (lv' := [(6, .int v5), (5, .int (a4 + 1)), (0, .ref (tb_ad g 261)), (1, .int a1), (2, .ref (tb_ad g p2)), (3, .int a3), (4, .int a4)]) hx hb dX1_give_26 hl (by decide) rfl (fun ls hl => ?_)
      refine lv_iload_n hx hb dX1_give_28 rfl (lv_at hl 3 rfl) ?_
      by_cases c7 : a1 = 10
      · have h := tb_ip c7 h
        refine lv_tableIn (tgt := 104) hx hb dX1_give_29 (by rw [c7]; decide) (by rw [c7]; decide) (by rw [c7]; rfl) (by decide) ?_
        refine lv_aload_n hx hb dX1_give_104 rfl (lv_at hl 4 rfl) ?_
        refine tb_getr F hP hB2.1 (ci := 2) rfl inlX2 1 (by decide) rfl kf_X1_36 dX1_give_105 ?_
        refine lv_iload_n hx hb dX1_give_108 rfl (lv_at hl 5 rfl) ?_
        refine tb_iald F hP hB2.2.2.1 rfl (tb_inv k4) dX1_give_109 ?_
        exact tb_iret h F hP hS dX1_give_110
      have h := tb_ineg c7 h
      by_cases c8 : a1 = 11
      · have h := tb_ip c8 h
        refine lv_tableIn (tgt := 111) hx hb dX1_give_29 (by rw [c8]; decide) (by rw [c8]; decide) (by rw [c8]; rfl) (by decide) ?_
        refine lv_aload_n hx hb dX1_give_111 rfl (lv_at hl 2 rfl) ?_
        refine lv_bipush (v := 10) hx hb dX1_give_112 (by decide) ?_
        refine lv_aload_n hx hb dX1_give_114 rfl (lv_at hl 4 rfl) ?_
        refine lv_iload_n hx hb dX1_give_115 rfl (lv_at hl 5 rfl) ?_
        refine lv_iload hx hb dX1_give_116 (lv_at hl 1 rfl) ?_
        obtain ⟨r11, M9, e10, h⟩ := tb_b2s h
        refine tb_callV F hP hS hl.1 kX1_give km_X1_25 (as := [.int 10, .ref (tb_ad g p2), .int a3, .int (a4 + 1)]) (ih 10 a3 (a4 + 1) M2 M9 r11 e10) tb_l261 ⟨rfl, rfl, by simp only [rmX1_give, rmX1_give]; omega, by simp only [rmX1_give, rmX1_give]; omega⟩ rfl (rest := []) rfl (st1 := [.int r11]) rfl (Nat.le_of_ble_eq_true rfl) ⟨Nat.zero_le _, Nat.zero_le _⟩ dX1_give_118 (fun H locs hP hS => ?_)
        refine lv_aload_n hx hb dX1_give_121 rfl (lv_at hl 2 rfl) ?_
        refine tb_gets F hS (k := 2) F.2.2.2.2.2.2.2.2.2.2.1 kf_X1_29 dX1_give_122 ?_
        refine lv_iload hx hb dX1_give_125 (lv_at hl 0 rfl) ?_
        obtain ⟨k12, h⟩ := tb_cks h
        refine tb_ti F hS F.2.2.2.2.2.2.2.2.2.2.2 rfl (tb_inv k12) dX1_give_127 ?_
        refine lv_aload_n hx hb dX1_give_128 rfl (lv_at hl 4 rfl) ?_
        refine lv_iload_n hx hb dX1_give_129 rfl (lv_at hl 5 rfl) ?_
        refine lv_iload hx hb dX1_give_130 (lv_at hl 1 rfl) ?_
        obtain ⟨r15, M13, e14, h⟩ := tb_b2s h
        refine tb_callV F hP hS hl.1 kX1_give km_X1_25 (as := [.int (tb_tab 2 v5.toNatClampNeg), .ref (tb_ad g p2), .int a3, .int (a4 + 1)]) (ih (tb_tab 2 v5.toNatClampNeg) a3 (a4 + 1) M9 M13 r15 e14) tb_l261 ⟨rfl, rfl, by simp only [rmX1_give, rmX1_give]; omega, by simp only [rmX1_give, rmX1_give]; omega⟩ rfl (rest := [.int r11]) rfl (st1 := [.int r15, .int r11]) rfl (Nat.le_of_ble_eq_true rfl) ⟨Nat.zero_le _, Nat.zero_le _⟩ dX1_give_132 (fun H locs hP hS => ?_)
        refine lv_iadd hx hb dX1_give_135 ?_
        exact tb_iret h F hP hS dX1_give_136
      have h := tb_ineg c8 h
      by_cases c16 : a1 = 12
      · have h := tb_ip c16 h
        refine lv_tableIn (tgt := 137) hx hb dX1_give_29 (by rw [c16]; decide) (by rw [c16]; decide) (by rw [c16]; rfl) (by decide) ?_
        refine lv_iconst (v := 0) hx hb dX1_give_137 (by decide) ?_
        refine lv_aload_n hx hb dX1_give_138 rfl (lv_at hl 2 rfl) ?_
        refine lv_bipush (v := 11) hx hb dX1_give_139 (by decide) ?_
        refine lv_aload_n hx hb dX1_give_141 rfl (lv_at hl 4 rfl) ?_
        refine lv_iload_n hx hb dX1_give_142 rfl (lv_at hl 5 rfl) ?_
        refine lv_iload hx hb dX1_give_143 (lv_at hl 1 rfl) ?_
        obtain ⟨r19, M17, e18, h⟩ := tb_b2s h
        refine tb_callV F hP hS hl.1 kX1_give km_X1_25 (as := [.int 11, .ref (tb_ad g p2), .int a3, .int (a4 + 1)]) (ih 11 a3 (a4 + 1) M2 M17 r19 e18) tb_l261 ⟨rfl, rfl, by simp only [rmX1_give, rmX1_give]; omega, by simp only [rmX1_give, rmX1_give]; omega⟩ rfl (rest := [.int 0]) rfl (st1 := [.int r19, .int 0]) rfl (Nat.le_of_ble_eq_true rfl) ⟨Nat.zero_le _, Nat.zero_le _⟩ dX1_give_145 (fun H locs hP hS => ?_)
        refine lv_isub hx hb dX1_give_148 ?_
        exact tb_iret h F hP hS dX1_give_149
      have h := tb_ineg c16 h
      by_cases c20 : a1 = 13
      · have h := tb_ip c20 h
        refine lv_tableIn (tgt := 150) hx hb dX1_give_29 (by rw [c20]; decide) (by rw [c20]; decide) (by rw [c20]; rfl) (by decide) ?_
        refine lv_aload_n hx hb dX1_give_150 rfl (lv_at hl 2 rfl) ?_
        refine lv_bipush (v := 10) hx hb dX1_give_151 (by decide) ?_
        refine lv_aload_n hx hb dX1_give_153 rfl (lv_at hl 4 rfl) ?_
        refine lv_iload_n hx hb dX1_give_154 rfl (lv_at hl 5 rfl) ?_
        refine lv_iload hx hb dX1_give_155 (lv_at hl 1 rfl) ?_
        obtain ⟨r23, M21, e22, h⟩ := tb_b2s h
        refine tb_callV F hP hS hl.1 kX1_give km_X1_25 (as := [.int 10, .ref (tb_ad g p2), .int a3, .int (a4 + 1)]) (ih 10 a3 (a4 + 1) M2 M21 r23 e22) tb_l261 ⟨rfl, rfl, by simp only [rmX1_give, rmX1_give]; omega, by simp only [rmX1_give, rmX1_give]; omega⟩ rfl (rest := []) rfl (st1 := [.int r23]) rfl (Nat.le_of_ble_eq_true rfl) ⟨Nat.zero_le _, Nat.zero_le _⟩ dX1_give_157 (fun H locs hP hS => ?_)
        refine lv_bipush (v := 100) hx hb dX1_give_160 (by decide) ?_
        refine lv_isub hx hb dX1_give_162 ?_
        exact tb_iret h F hP hS dX1_give_163
      have h := tb_ineg c20 h
      by_cases c24 : a1 = 14
      · have h := tb_ip c24 h
        refine lv_tableIn (tgt := 164) hx hb dX1_give_29 (by rw [c24]; decide) (by rw [c24]; decide) (by rw [c24]; rfl) (by decide) ?_
        refine lv_iconst (v := 2) hx hb dX1_give_164 (by decide) ?_
        refine lv_aload_n hx hb dX1_give_165 rfl (lv_at hl 2 rfl) ?_
        refine lv_bipush (v := 13) hx hb dX1_give_166 (by decide) ?_
        refine lv_aload_n hx hb dX1_give_168 rfl (lv_at hl 4 rfl) ?_
        refine lv_iload_n hx hb dX1_give_169 rfl (lv_at hl 5 rfl) ?_
        refine lv_iload hx hb dX1_give_170 (lv_at hl 1 rfl) ?_
        obtain ⟨r27, M25, e26, h⟩ := tb_b2s h
        refine tb_callV F hP hS hl.1 kX1_give km_X1_25 (as := [.int 13, .ref (tb_ad g p2), .int a3, .int (a4 + 1)]) (ih 13 a3 (a4 + 1) M2 M25 r27 e26) tb_l261 ⟨rfl, rfl, by simp only [rmX1_give, rmX1_give]; omega, by simp only [rmX1_give, rmX1_give]; omega⟩ rfl (rest := [.int 2]) rfl (st1 := [.int r27, .int 2]) rfl (Nat.le_of_ble_eq_true rfl) ⟨Nat.zero_le _, Nat.zero_le _⟩ dX1_give_172 (fun H locs hP hS => ?_)
        refine lv_imul hx hb dX1_give_175 ?_
        exact tb_iret h F hP hS dX1_give_176
      have h := tb_ineg c24 h
      by_cases c28 : a1 = 15
      · have h := tb_ip c28 h
        refine lv_tableIn (tgt := 251) hx hb dX1_give_29 (by rw [c28]; decide) (by rw [c28]; decide) (by rw [c28]; rfl) (by decide) ?_
        refine lv_iconst (v := 0) hx hb dX1_give_251 (by decide) ?_
        exact tb_iret h F hP hS dX1_give_252
      have h := tb_ineg c28 h
      by_cases c29 : a1 = 16
      · have h := tb_ip c29 h
        refine lv_tableIn (tgt := 251) hx hb dX1_give_29 (by rw [c29]; decide) (by rw [c29]; decide) (by rw [c29]; rfl) (by decide) ?_
        refine lv_iconst (v := 0) hx hb dX1_give_251 (by decide) ?_
        exact tb_iret h F hP hS dX1_give_252
      have h := tb_ineg c29 h
      by_cases c30 : a1 = 17
      · have h := tb_ip c30 h
        refine lv_tableIn (tgt := 251) hx hb dX1_give_29 (by rw [c30]; decide) (by rw [c30]; decide) (by rw [c30]; rfl) (by decide) ?_
        refine lv_iconst (v := 0) hx hb dX1_give_251 (by decide) ?_
        exact tb_iret h F hP hS dX1_give_252
      have h := tb_ineg c30 h
      by_cases c31 : a1 = 18
      · have h := tb_ip c31 h
        refine lv_tableIn (tgt := 251) hx hb dX1_give_29 (by rw [c31]; decide) (by rw [c31]; decide) (by rw [c31]; rfl) (by decide) ?_
        refine lv_iconst (v := 0) hx hb dX1_give_251 (by decide) ?_
        exact tb_iret h F hP hS dX1_give_252
      have h := tb_ineg c31 h
      by_cases c32 : a1 = 19
      · have h := tb_ip c32 h
        refine lv_tableIn (tgt := 251) hx hb dX1_give_29 (by rw [c32]; decide) (by rw [c32]; decide) (by rw [c32]; rfl) (by decide) ?_
        refine lv_iconst (v := 0) hx hb dX1_give_251 (by decide) ?_
        exact tb_iret h F hP hS dX1_give_252
      have h := tb_ineg c32 h
      by_cases c33 : a1 = 20
      · have h := tb_ip c33 h
        refine lv_tableIn (tgt := 177) hx hb dX1_give_29 (by rw [c33]; decide) (by rw [c33]; decide) (by rw [c33]; rfl) (by decide) ?_
        refine lv_iload_n hx hb dX1_give_177 rfl (lv_at hl 5 rfl) ?_
        exact tb_iret h F hP hS dX1_give_178
      have h := tb_ineg c33 h
      by_cases c34 : a1 = 21
      · have h := tb_ip c34 h
        refine lv_tableIn (tgt := 179) hx hb dX1_give_29 (by rw [c34]; decide) (by rw [c34]; decide) (by rw [c34]; rfl) (by decide) ?_
        refine lv_aload_n hx hb dX1_give_179 rfl (lv_at hl 2 rfl) ?_
        refine lv_bipush (v := 20) hx hb dX1_give_180 (by decide) ?_
        refine lv_aload_n hx hb dX1_give_182 rfl (lv_at hl 4 rfl) ?_
        refine lv_iload_n hx hb dX1_give_183 rfl (lv_at hl 5 rfl) ?_
        refine lv_iload hx hb dX1_give_184 (lv_at hl 1 rfl) ?_
        obtain ⟨r37, M35, e36, h⟩ := tb_b2s h
        refine tb_callV F hP hS hl.1 kX1_give km_X1_25 (as := [.int 20, .ref (tb_ad g p2), .int a3, .int (a4 + 1)]) (ih 20 a3 (a4 + 1) M2 M35 r37 e36) tb_l261 ⟨rfl, rfl, by simp only [rmX1_give, rmX1_give]; omega, by simp only [rmX1_give, rmX1_give]; omega⟩ rfl (rest := []) rfl (st1 := [.int r37]) rfl (Nat.le_of_ble_eq_true rfl) ⟨Nat.zero_le _, Nat.zero_le _⟩ dX1_give_186 (fun H locs hP hS => ?_)
        refine lv_aload_n hx hb dX1_give_189 rfl (lv_at hl 4 rfl) ?_
        refine tb_getr F hP hB2.1 (ci := 2) rfl inlX2 6 (by decide) rfl kf_X1_39 dX1_give_190 ?_
        refine lv_iload_n hx hb dX1_give_193 rfl (lv_at hl 5 rfl) ?_
        refine tb_iald F hP hB2.2.2.2.2.2.2.2.1 rfl (tb_inv k4) dX1_give_194 ?_
        refine lv_iadd hx hb dX1_give_195 ?_
        exact tb_iret h F hP hS dX1_give_196
      have h := tb_ineg c34 h
      by_cases c38 : a1 = 22
      · have h := tb_ip c38 h
        refine lv_tableIn (tgt := 197) hx hb dX1_give_29 (by rw [c38]; decide) (by rw [c38]; decide) (by rw [c38]; rfl) (by decide) ?_
        refine lv_aload_n hx hb dX1_give_197 rfl (lv_at hl 2 rfl) ?_
        refine lv_bipush (v := 21) hx hb dX1_give_198 (by decide) ?_
        refine lv_aload_n hx hb dX1_give_200 rfl (lv_at hl 4 rfl) ?_
        refine lv_iload_n hx hb dX1_give_201 rfl (lv_at hl 5 rfl) ?_
        refine lv_iload hx hb dX1_give_202 (lv_at hl 1 rfl) ?_
        obtain ⟨r41, M39, e40, h⟩ := tb_b2s h
        refine tb_callV F hP hS hl.1 kX1_give km_X1_25 (as := [.int 21, .ref (tb_ad g p2), .int a3, .int (a4 + 1)]) (ih 21 a3 (a4 + 1) M2 M39 r41 e40) tb_l261 ⟨rfl, rfl, by simp only [rmX1_give, rmX1_give]; omega, by simp only [rmX1_give, rmX1_give]; omega⟩ rfl (rest := []) rfl (st1 := [.int r41]) rfl (Nat.le_of_ble_eq_true rfl) ⟨Nat.zero_le _, Nat.zero_le _⟩ dX1_give_204 (fun H locs hP hS => ?_)
        refine lv_sipush (v := 1000) hx hb dX1_give_207 (by decide) ?_
        refine lv_isub hx hb dX1_give_210 ?_
        exact tb_iret h F hP hS dX1_give_211
      have h := tb_ineg c38 h
      by_cases c42 : a1 = 23
      · have h := tb_ip c42 h
        refine lv_tableIn (tgt := 212) hx hb dX1_give_29 (by rw [c42]; decide) (by rw [c42]; decide) (by rw [c42]; rfl) (by decide) ?_
        refine lv_aload_n hx hb dX1_give_212 rfl (lv_at hl 2 rfl) ?_
        refine lv_bipush (v := 20) hx hb dX1_give_213 (by decide) ?_
        refine lv_aload_n hx hb dX1_give_215 rfl (lv_at hl 4 rfl) ?_
        refine lv_iload_n hx hb dX1_give_216 rfl (lv_at hl 5 rfl) ?_
        refine lv_iload hx hb dX1_give_217 (lv_at hl 1 rfl) ?_
        obtain ⟨r45, M43, e44, h⟩ := tb_b2s h
        refine tb_callV F hP hS hl.1 kX1_give km_X1_25 (as := [.int 20, .ref (tb_ad g p2), .int a3, .int (a4 + 1)]) (ih 20 a3 (a4 + 1) M2 M43 r45 e44) tb_l261 ⟨rfl, rfl, by simp only [rmX1_give, rmX1_give]; omega, by simp only [rmX1_give, rmX1_give]; omega⟩ rfl (rest := []) rfl (st1 := [.int r45]) rfl (Nat.le_of_ble_eq_true rfl) ⟨Nat.zero_le _, Nat.zero_le _⟩ dX1_give_219 (fun H locs hP hS => ?_)
        refine lv_aload_n hx hb dX1_give_222 rfl (lv_at hl 2 rfl) ?_
        refine tb_gets F hS (k := 1) F.2.2.2.2.2.2.2.2.2.1.1 kf_X1_17 dX1_give_223 ?_
        refine lv_iload hx hb dX1_give_226 (lv_at hl 0 rfl) ?_
        obtain ⟨k46, h⟩ := tb_cks h
        refine tb_ti F hS F.2.2.2.2.2.2.2.2.2.1.2 rfl (tb_inv k46) dX1_give_228 ?_
        refine lv_aload_n hx hb dX1_give_229 rfl (lv_at hl 4 rfl) ?_
        refine lv_iload_n hx hb dX1_give_230 rfl (lv_at hl 5 rfl) ?_
        refine lv_iload hx hb dX1_give_231 (lv_at hl 1 rfl) ?_
        obtain ⟨r49, M47, e48, h⟩ := tb_b2s h
        refine tb_callV F hP hS hl.1 kX1_give km_X1_25 (as := [.int (tb_tab 1 v5.toNatClampNeg), .ref (tb_ad g p2), .int a3, .int (a4 + 1)]) (ih (tb_tab 1 v5.toNatClampNeg) a3 (a4 + 1) M43 M47 r49 e48) tb_l261 ⟨rfl, rfl, by simp only [rmX1_give, rmX1_give]; omega, by simp only [rmX1_give, rmX1_give]; omega⟩ rfl (rest := [.int r45]) rfl (st1 := [.int r49, .int r45]) rfl (Nat.le_of_ble_eq_true rfl) ⟨Nat.zero_le _, Nat.zero_le _⟩ dX1_give_233 (fun H locs hP hS => ?_)
        refine lv_isub hx hb dX1_give_236 ?_
        exact tb_iret h F hP hS dX1_give_237
      have h := tb_ineg c42 h
      by_cases c50 : a1 = 24
      · have h := tb_ip c50 h
        refine lv_tableIn (tgt := 238) hx hb dX1_give_29 (by rw [c50]; decide) (by rw [c50]; decide) (by rw [c50]; rfl) (by decide) ?_
        refine lv_iconst (v := 2) hx hb dX1_give_238 (by decide) ?_
        refine lv_aload_n hx hb dX1_give_239 rfl (lv_at hl 2 rfl) ?_
        refine lv_bipush (v := 21) hx hb dX1_give_240 (by decide) ?_
        refine lv_aload_n hx hb dX1_give_242 rfl (lv_at hl 4 rfl) ?_
        refine lv_iload_n hx hb dX1_give_243 rfl (lv_at hl 5 rfl) ?_
        refine lv_iload hx hb dX1_give_244 (lv_at hl 1 rfl) ?_
        obtain ⟨r53, M51, e52, h⟩ := tb_b2s h
        refine tb_callV F hP hS hl.1 kX1_give km_X1_25 (as := [.int 21, .ref (tb_ad g p2), .int a3, .int (a4 + 1)]) (ih 21 a3 (a4 + 1) M2 M51 r53 e52) tb_l261 ⟨rfl, rfl, by simp only [rmX1_give, rmX1_give]; omega, by simp only [rmX1_give, rmX1_give]; omega⟩ rfl (rest := [.int 2]) rfl (st1 := [.int r53, .int 2]) rfl (Nat.le_of_ble_eq_true rfl) ⟨Nat.zero_le _, Nat.zero_le _⟩ dX1_give_246 (fun H locs hP hS => ?_)
        refine lv_imul hx hb dX1_give_249 ?_
        exact tb_iret h F hP hS dX1_give_250
      have h := tb_ineg c50 h
      have uc7 := lv_neT c7 (show (10 : Int32).toInt = 10 by decide)
      have uc8 := lv_neT c8 (show (11 : Int32).toInt = 11 by decide)
      have uc16 := lv_neT c16 (show (12 : Int32).toInt = 12 by decide)
      have uc20 := lv_neT c20 (show (13 : Int32).toInt = 13 by decide)
      have uc24 := lv_neT c24 (show (14 : Int32).toInt = 14 by decide)
      have uc28 := lv_neT c28 (show (15 : Int32).toInt = 15 by decide)
      have uc29 := lv_neT c29 (show (16 : Int32).toInt = 16 by decide)
      have uc30 := lv_neT c30 (show (17 : Int32).toInt = 17 by decide)
      have uc31 := lv_neT c31 (show (18 : Int32).toInt = 18 by decide)
      have uc32 := lv_neT c32 (show (19 : Int32).toInt = 19 by decide)
      have uc33 := lv_neT c33 (show (20 : Int32).toInt = 20 by decide)
      have uc34 := lv_neT c34 (show (21 : Int32).toInt = 21 by decide)
      have uc38 := lv_neT c38 (show (22 : Int32).toInt = 22 by decide)
      have uc42 := lv_neT c42 (show (23 : Int32).toInt = 23 by decide)
      have uc50 := lv_neT c50 (show (24 : Int32).toInt = 24 by decide)
      refine lv_tableOut (tgt := 251) hx hb dX1_give_29 (by omega) (by decide) ?_
      refine lv_iconst (v := 0) hx hb dX1_give_251 (by decide) ?_
      exact tb_iret h F hP hS dX1_give_252
    · have h := tb_ineg c1 h
      refine lv_iconst (v := 0) hx hb dX1_give_7 (by decide) ?_
      exact tb_iret h F hP hS dX1_give_8
def fX1_sizeOf (p1 : Nat) (a2 : Int32) (M : tb_Mem) : Option (Int32 × tb_Mem) :=
  tb_let (tb_up M 261 1 0) (fun M1 => tb_ck (tb_in a2 8) (tb_ck (tb_in (M1 (p1 + 1) a2.toNatClampNeg) 6) (tb_b2 (fX1_give p1 20 (tb_tab 1 (M1 (p1 + 1) a2.toNatClampNeg).toNatClampNeg) a2 0 M1) (fun r7 M5 => some (r7, M5)))))
abbrev rmX1_sizeOf : Room := { frames := 23, cells := 0, slots := 0, locals := 926 }
set_option maxHeartbeats 4000000 in
set_option maxRecDepth 100000 in
theorem tX1_sizeOf (g : tb_GT) (l : Launch) (p1 : Nat) (hB1 : tb_B p1) (a2 : Int32) (M M' : tb_Mem) (r : Int32) (h : fX1_sizeOf p1 a2 M = some (r, M')) : tb_C g l yX1_sizeOf (Cond.code yX1_sizeOf cX1_sizeOf 3 (some .int)) rmX1_sizeOf [.ref (tb_ad g 261), .ref (tb_ad g p1), .int a2] M M' (some (.int r)) := by
  refine tb_entry (by decide) (Nat.le_of_ble_eq_true rfl) ?_
  intro P e s m below meth c F hP hS ls hl
  have F : tb_F g cX1_sizeOf 3 RX1 (some .int) (Cond.code yX1_sizeOf cX1_sizeOf 3 (some .int)) P s m ([.ref (tb_ad g 261), .ref (tb_ad g p1), .int a2] : List Value).toArray meth c := F
  have hx := F.1.1
  have hb := F.1.2.1
  have hl : lv_has ls 3 [(0, .ref (tb_ad g 261)), (1, .ref (tb_ad g p1)), (2, .int a2)] := hl
  unfold fX1_sizeOf at h
  refine lv_aload_n hx hb dX1_sizeOf_0 rfl (lv_at hl 0 rfl) ?_
  refine lv_iconst (v := 0) hx hb dX1_sizeOf_1 (by decide) ?_
  obtain ⟨M1, e2, h⟩ := tb_lets h
  refine tb_puti F hP hS tb_l261 (ci := 1) rfl inlX1 tyX1 tyX1_ok nmX1 1 (by decide) rfl rfl rfl rfl kf_X1_13 dX1_sizeOf_2 (fun H locs hP hS => ?_)
  rw [← e2] at hP
  refine lv_aload_n hx hb dX1_sizeOf_5 rfl (lv_at hl 0 rfl) ?_
  refine tb_gets F hS (k := 1) F.2.2.2.2.2.2.2.2.2.1.1 kf_X1_17 dX1_sizeOf_6 ?_
  refine lv_aload_n hx hb dX1_sizeOf_9 rfl (lv_at hl 1 rfl) ?_
  refine tb_getr F hP hB1.1 (ci := 2) rfl inlX2 0 (by decide) rfl kf_X1_20 dX1_sizeOf_10 ?_
  refine lv_iload_n hx hb dX1_sizeOf_13 rfl (lv_at hl 2 rfl) ?_
  obtain ⟨k3, h⟩ := tb_cks h
  refine tb_iald F hP hB1.2.1 rfl (tb_inv k3) dX1_sizeOf_14 ?_
  obtain ⟨k4, h⟩ := tb_cks h
  refine tb_ti F hS F.2.2.2.2.2.2.2.2.2.1.2 rfl (tb_inv k4) dX1_sizeOf_15 ?_
  refine lv_aload_n hx hb dX1_sizeOf_16 rfl (lv_at hl 1 rfl) ?_
  refine lv_iload_n hx hb dX1_sizeOf_17 rfl (lv_at hl 2 rfl) ?_
  refine lv_iconst (v := 0) hx hb dX1_sizeOf_18 (by decide) ?_
  obtain ⟨r7, M5, e6, h⟩ := tb_b2s h
  refine tb_callV F hP hS hl.1 kX1_give km_X1_25 (as := [.int (tb_tab 1 (M1 (p1 + 1) a2.toNatClampNeg).toNatClampNeg), .ref (tb_ad g p1), .int a2, .int 0]) (tX1_give g l p1 hB1 20 (tb_tab 1 (M1 (p1 + 1) a2.toNatClampNeg).toNatClampNeg) a2 0 M1 M5 r7 e6) tb_l261 ⟨rfl, rfl, Nat.le_of_ble_eq_true rfl, Nat.le_of_ble_eq_true rfl⟩ rfl (rest := []) rfl (st1 := [.int r7]) rfl (Nat.le_of_ble_eq_true rfl) ⟨Nat.zero_le _, Nat.zero_le _⟩ dX1_sizeOf_19 (fun H locs hP hS => ?_)
  exact tb_iret h F hP hS dX1_sizeOf_22
def fX1_markOf (p1 : Nat) (a2 : Int32) (M : tb_Mem) : Option (Int32 × tb_Mem) :=
  tb_let (tb_up M 261 1 0) (fun M1 => tb_ck (tb_in a2 8) (tb_ck (tb_in (M1 (p1 + 1) a2.toNatClampNeg) 6) (tb_b2 (fX1_give p1 20 (tb_tab 2 (M1 (p1 + 1) a2.toNatClampNeg).toNatClampNeg) a2 0 M1) (fun r7 M5 => some (r7, M5)))))
abbrev rmX1_markOf : Room := { frames := 23, cells := 0, slots := 0, locals := 926 }
set_option maxHeartbeats 4000000 in
set_option maxRecDepth 100000 in
theorem tX1_markOf (g : tb_GT) (l : Launch) (p1 : Nat) (hB1 : tb_B p1) (a2 : Int32) (M M' : tb_Mem) (r : Int32) (h : fX1_markOf p1 a2 M = some (r, M')) : tb_C g l yX1_markOf (Cond.code yX1_markOf cX1_markOf 3 (some .int)) rmX1_markOf [.ref (tb_ad g 261), .ref (tb_ad g p1), .int a2] M M' (some (.int r)) := by
  refine tb_entry (by decide) (Nat.le_of_ble_eq_true rfl) ?_
  intro P e s m below meth c F hP hS ls hl
  have F : tb_F g cX1_markOf 3 RX1 (some .int) (Cond.code yX1_markOf cX1_markOf 3 (some .int)) P s m ([.ref (tb_ad g 261), .ref (tb_ad g p1), .int a2] : List Value).toArray meth c := F
  have hx := F.1.1
  have hb := F.1.2.1
  have hl : lv_has ls 3 [(0, .ref (tb_ad g 261)), (1, .ref (tb_ad g p1)), (2, .int a2)] := hl
  unfold fX1_markOf at h
  refine lv_aload_n hx hb dX1_markOf_0 rfl (lv_at hl 0 rfl) ?_
  refine lv_iconst (v := 0) hx hb dX1_markOf_1 (by decide) ?_
  obtain ⟨M1, e2, h⟩ := tb_lets h
  refine tb_puti F hP hS tb_l261 (ci := 1) rfl inlX1 tyX1 tyX1_ok nmX1 1 (by decide) rfl rfl rfl rfl kf_X1_13 dX1_markOf_2 (fun H locs hP hS => ?_)
  rw [← e2] at hP
  refine lv_aload_n hx hb dX1_markOf_5 rfl (lv_at hl 0 rfl) ?_
  refine tb_gets F hS (k := 2) F.2.2.2.2.2.2.2.2.2.2.1 kf_X1_29 dX1_markOf_6 ?_
  refine lv_aload_n hx hb dX1_markOf_9 rfl (lv_at hl 1 rfl) ?_
  refine tb_getr F hP hB1.1 (ci := 2) rfl inlX2 0 (by decide) rfl kf_X1_20 dX1_markOf_10 ?_
  refine lv_iload_n hx hb dX1_markOf_13 rfl (lv_at hl 2 rfl) ?_
  obtain ⟨k3, h⟩ := tb_cks h
  refine tb_iald F hP hB1.2.1 rfl (tb_inv k3) dX1_markOf_14 ?_
  obtain ⟨k4, h⟩ := tb_cks h
  refine tb_ti F hS F.2.2.2.2.2.2.2.2.2.2.2 rfl (tb_inv k4) dX1_markOf_15 ?_
  refine lv_aload_n hx hb dX1_markOf_16 rfl (lv_at hl 1 rfl) ?_
  refine lv_iload_n hx hb dX1_markOf_17 rfl (lv_at hl 2 rfl) ?_
  refine lv_iconst (v := 0) hx hb dX1_markOf_18 (by decide) ?_
  obtain ⟨r7, M5, e6, h⟩ := tb_b2s h
  refine tb_callV F hP hS hl.1 kX1_give km_X1_25 (as := [.int (tb_tab 2 (M1 (p1 + 1) a2.toNatClampNeg).toNatClampNeg), .ref (tb_ad g p1), .int a2, .int 0]) (tX1_give g l p1 hB1 20 (tb_tab 2 (M1 (p1 + 1) a2.toNatClampNeg).toNatClampNeg) a2 0 M1 M5 r7 e6) tb_l261 ⟨rfl, rfl, Nat.le_of_ble_eq_true rfl, Nat.le_of_ble_eq_true rfl⟩ rfl (rest := []) rfl (st1 := [.int r7]) rfl (Nat.le_of_ble_eq_true rfl) ⟨Nat.zero_le _, Nat.zero_le _⟩ dX1_markOf_19 (fun H locs hP hS => ?_)
  exact tb_iret h F hP hS dX1_markOf_22

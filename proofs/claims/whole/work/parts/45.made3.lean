/-! TypeBars() and TypeBarsModel() -/
def cb_TX (g : tb_GT) (i k : Nat) : Nat → va_E := cb_up (cb_up (cb_T g) 1 (.inl (g.2.1 2, 8, .inr (.inr (.inr (.inr (cb_pt g 263 2 i))))))) 260 (.inl (g.2.1 3, 2, .inr (.inr (.inr (.inr (cb_pt g 279 9 k))))))
theorem cb_TX_n {g : tb_GT} {i k q : Nat} (h1 : q ≠ 1) (h2 : q ≠ 260) : cb_TX g i k q = cb_T g q := by
  unfold cb_TX
  rw [cb_up_n h2, cb_up_n h1]
theorem cb_TX_1 (g : tb_GT) (i k : Nat) : cb_TX g i k 1 = .inl (g.2.1 2, 8, .inr (.inr (.inr (.inr (cb_pt g 263 2 i))))) := by
  unfold cb_TX
  rw [cb_up_n (by omega), cb_up_s]
theorem cb_TX_2 (g : tb_GT) (i k : Nat) : cb_TX g i k 260 = .inl (g.2.1 3, 2, .inr (.inr (.inr (.inr (cb_pt g 279 9 k))))) := by
  unfold cb_TX
  rw [cb_up_s]
abbrev rmX6_init : Room := { frames := 3, cells := 296, slots := 3157, locals := 53 }
set_option maxHeartbeats 4000000 in
set_option maxRecDepth 100000 in
theorem uX6_init (g : tb_GT) (b0 : Nat) (hg : cb_g g b0) (l : Launch) (E : Nat → va_E) (hE : E 0 = .inr (6, bf6)) : cb_C g l yX6_init (Cond.code yX6_init cX6_init 2 none) rmX6_init [.ref (tb_ad g 0)] 1 297 E (cb_cut g 0 E) 296 3157 := by
  refine cb_entry hg (by decide) (Nat.le_of_ble_eq_true rfl) rfl ?_
  intro P e s m below meth c F hin hP hS ls hl
  have F : cb_F g b0 cX6_init 2 RX6 none (Cond.code yX6_init cX6_init 2 none) P s m ([.ref (tb_ad g 0)] : List Value).toArray meth c := F
  have hx := F.1.1.1
  have hb := F.1.1.2.1
  have hl : lv_has ls 2 [(0, .ref (tb_ad g 0))] := hl
  refine lv_aload_n hx hb dX6_init_0 rfl (lv_at hl 0 rfl) ?_
  refine cb_obj F hl.1 km_X6_1 ko_inst ko_code (Nat.le_of_ble_eq_true rfl) (Nat.le_of_ble_eq_true rfl) dX6_init_1 ?_
  have hP := cb_o1 (cb_TX g 0 0) rfl hE hP
  refine lv_aload_n hx hb dX6_init_4 rfl (lv_at hl 0 rfl) ?_
  refine lv_bipush (v := 8) hx hb dX6_init_5 (by decide) ?_
  refine cb_newq F hP hS kl_X6_9 F.2.1.2.2.2.2.2.2.2.1 (t0 := 2) rfl (by decide) (N := 8) (by decide) (by decide) (Nat.le_of_ble_eq_true rfl) (Nat.le_of_ble_eq_true rfl) dX6_init_7 (fun H hP hS => ?_)
  have hP : cb_P g 2 (cb_up (cb_Ob (cb_TX g 0 0) 0 6 [.null, .null, .null, .null, .null, .null, .null, .null, .int 0, .int 0] E) 1 (.inl (g.2.1 2, 8, .inr (.inr (.inr (.inr (fun _ => none))))))) H := hP
  refine cb_putF F hin hP hS (q := 0) (fs := [.null, .null, .null, .null, .null, .null, .null, .null, .int 0, .int 0]) (by omega) (by rw [cb_up_n (by omega), cb_Ob_p]) (ci := 6) rfl inlX6 tyX6 tyX6_ok nmX6 0 (by decide) rfl rfl rfl rfl (Nat.le_of_ble_eq_true rfl) kf_X6_11 dX6_init_10 (fun H locs hP hS => ?_)
  have hP := cb_o2 (by omega) (by rw [cb_TX_1, cb_pt_0]) hP
  have hP : cb_P g 2 (cb_Ob (cb_TX g 0 0) 0 6 [.ref (tb_ad g 1), .null, .null, .null, .null, .null, .null, .null, .int 0, .int 0] E) H := hP
  refine lv_aload_n hx hb dX6_init_13 rfl (lv_at hl 0 rfl) ?_
  refine cb_new F hP hS (ci := 5) rfl inlX5 tyX5 tyX5_ok kl_X6_15 kq_X5 ki_X5 (fs := bf5) bf5_ok (Nat.le_of_ble_eq_true rfl) (Nat.le_of_ble_eq_true rfl) dX6_init_14 (fun H hP hS => ?_)
  refine lv_dup hx hb dX6_init_17 rfl ?_
  refine cb_callN F hP hS hl.1 kX5_init_code kX5_init_inst ki_X5 rfl (by decide +kernel) F.2.1.1 (uX5_init g b0 hg l (cb_up (cb_Ob (cb_TX g 0 0) 0 6 [.ref (tb_ad g 1), .null, .null, .null, .null, .null, .null, .null, .int 0, .int 0] E) 2 (.inr (5, bf5))) (cb_up_s _ _ _)) ⟨rfl, rfl, Nat.le_of_ble_eq_true rfl, Nat.le_of_ble_eq_true rfl⟩ (rest := [.ref (tb_ad g 2), .ref (tb_ad g 0)]) (Nat.le_of_ble_eq_true rfl) ⟨Nat.le_of_ble_eq_true rfl, Nat.le_of_ble_eq_true rfl⟩ dX6_init_18 (fun H locs hP hS => ?_)
  have hP := cb_o3 (by omega) (fun q h1 h2 => (cb_TX_n (by omega) (by omega)).symm) hP
  have hP : cb_P g 4 (cb_Ob (cb_TX g 0 0) 0 6 [.ref (tb_ad g 1), .null, .null, .null, .null, .null, .null, .null, .int 0, .int 0] E) H := hP
  refine cb_putF F hin hP hS (q := 0) (fs := [.ref (tb_ad g 1), .null, .null, .null, .null, .null, .null, .null, .int 0, .int 0]) (by omega) (cb_Ob_p _ _ _ _ _) (ci := 6) rfl inlX6 tyX6 tyX6_ok nmX6 1 (by decide) rfl rfl rfl rfl (Nat.le_of_ble_eq_true rfl) kf_X6_18 dX6_init_21 (fun H locs hP hS => ?_)
  have hP := cb_o4 hP
  have hP : cb_P g 4 (cb_Ob (cb_TX g 0 0) 0 6 [.ref (tb_ad g 1), .ref (tb_ad g 2), .null, .null, .null, .null, .null, .null, .int 0, .int 0] E) H := hP
  refine lv_aload_n hx hb dX6_init_24 rfl (lv_at hl 0 rfl) ?_
  refine cb_new F hP hS (ci := 2) rfl inlX2 tyX2 tyX2_ok kl_X6_22 kq_X2 ki_X2 (fs := bf2) bf2_ok (Nat.le_of_ble_eq_true rfl) (Nat.le_of_ble_eq_true rfl) dX6_init_25 (fun H hP hS => ?_)
  refine lv_dup hx hb dX6_init_28 rfl ?_
  refine cb_callN F hP hS hl.1 kX2_init_code kX2_init_inst ki_X2 rfl (by decide +kernel) F.2.1.2.1 (uX2_init g b0 hg l 4 tb_B4 (by omega) (cb_up (cb_Ob (cb_TX g 0 0) 0 6 [.ref (tb_ad g 1), .ref (tb_ad g 2), .null, .null, .null, .null, .null, .null, .int 0, .int 0] E) 4 (.inr (2, bf2))) (cb_up_s _ _ _)) ⟨rfl, rfl, Nat.le_of_ble_eq_true rfl, Nat.le_of_ble_eq_true rfl⟩ (rest := [.ref (tb_ad g 4), .ref (tb_ad g 0)]) (Nat.le_of_ble_eq_true rfl) ⟨Nat.le_of_ble_eq_true rfl, Nat.le_of_ble_eq_true rfl⟩ dX6_init_29 (fun H locs hP hS => ?_)
  have hP := cb_o3 (by omega) (fun q h1 h2 => (cb_TX_n (by omega) (by omega)).symm) hP
  have hP : cb_P g 13 (cb_Ob (cb_TX g 0 0) 0 6 [.ref (tb_ad g 1), .ref (tb_ad g 2), .null, .null, .null, .null, .null, .null, .int 0, .int 0] E) H := hP
  refine cb_putF F hin hP hS (q := 0) (fs := [.ref (tb_ad g 1), .ref (tb_ad g 2), .null, .null, .null, .null, .null, .null, .int 0, .int 0]) (by omega) (cb_Ob_p _ _ _ _ _) (ci := 6) rfl inlX6 tyX6 tyX6_ok nmX6 2 (by decide) rfl rfl rfl rfl (Nat.le_of_ble_eq_true rfl) kf_X6_25 dX6_init_32 (fun H locs hP hS => ?_)
  have hP := cb_o4 hP
  have hP : cb_P g 13 (cb_Ob (cb_TX g 0 0) 0 6 [.ref (tb_ad g 1), .ref (tb_ad g 2), .ref (tb_ad g 4), .null, .null, .null, .null, .null, .int 0, .int 0] E) H := hP
  refine lv_aload_n hx hb dX6_init_35 rfl (lv_at hl 0 rfl) ?_
  refine cb_new F hP hS (ci := 2) rfl inlX2 tyX2 tyX2_ok kl_X6_22 kq_X2 ki_X2 (fs := bf2) bf2_ok (Nat.le_of_ble_eq_true rfl) (Nat.le_of_ble_eq_true rfl) dX6_init_36 (fun H hP hS => ?_)
  refine lv_dup hx hb dX6_init_39 rfl ?_
  refine cb_callN F hP hS hl.1 kX2_init_code kX2_init_inst ki_X2 rfl (by decide +kernel) F.2.1.2.1 (uX2_init g b0 hg l 13 tb_B13 (by omega) (cb_up (cb_Ob (cb_TX g 0 0) 0 6 [.ref (tb_ad g 1), .ref (tb_ad g 2), .ref (tb_ad g 4), .null, .null, .null, .null, .null, .int 0, .int 0] E) 13 (.inr (2, bf2))) (cb_up_s _ _ _)) ⟨rfl, rfl, Nat.le_of_ble_eq_true rfl, Nat.le_of_ble_eq_true rfl⟩ (rest := [.ref (tb_ad g 13), .ref (tb_ad g 0)]) (Nat.le_of_ble_eq_true rfl) ⟨Nat.le_of_ble_eq_true rfl, Nat.le_of_ble_eq_true rfl⟩ dX6_init_40 (fun H locs hP hS => ?_)
  have hP := cb_o3 (by omega) (fun q h1 h2 => (cb_TX_n (by omega) (by omega)).symm) hP
  have hP : cb_P g 22 (cb_Ob (cb_TX g 0 0) 0 6 [.ref (tb_ad g 1), .ref (tb_ad g 2), .ref (tb_ad g 4), .null, .null, .null, .null, .null, .int 0, .int 0] E) H := hP
  refine cb_putF F hin hP hS (q := 0) (fs := [.ref (tb_ad g 1), .ref (tb_ad g 2), .ref (tb_ad g 4), .null, .null, .null, .null, .null, .int 0, .int 0]) (by omega) (cb_Ob_p _ _ _ _ _) (ci := 6) rfl inlX6 tyX6 tyX6_ok nmX6 3 (by decide) rfl rfl rfl rfl (Nat.le_of_ble_eq_true rfl) kf_X6_29 dX6_init_43 (fun H locs hP hS => ?_)
  have hP := cb_o4 hP
  have hP : cb_P g 22 (cb_Ob (cb_TX g 0 0) 0 6 [.ref (tb_ad g 1), .ref (tb_ad g 2), .ref (tb_ad g 4), .ref (tb_ad g 13), .null, .null, .null, .null, .int 0, .int 0] E) H := hP
  refine lv_aload_n hx hb dX6_init_46 rfl (lv_at hl 0 rfl) ?_
  refine cb_new F hP hS (ci := 0) rfl inlX0 tyX0 tyX0_ok kl_X6_32 kq_X0 ki_X0 (fs := bf0) bf0_ok (Nat.le_of_ble_eq_true rfl) (Nat.le_of_ble_eq_true rfl) dX6_init_47 (fun H hP hS => ?_)
  refine lv_dup hx hb dX6_init_50 rfl ?_
  refine cb_callI F hP hS hl.1 kX0_init_code kX0_init_inst ki_X0 rfl (by decide +kernel) km_X6_34 (uX0_init g b0 hg l (cb_up (cb_Ob (cb_TX g 0 0) 0 6 [.ref (tb_ad g 1), .ref (tb_ad g 2), .ref (tb_ad g 4), .ref (tb_ad g 13), .null, .null, .null, .null, .int 0, .int 0] E) 22 (.inr (0, bf0))) (cb_up_s _ _ _)) ⟨rfl, rfl, Nat.le_of_ble_eq_true rfl, Nat.le_of_ble_eq_true rfl⟩ (rest := [.ref (tb_ad g 22), .ref (tb_ad g 0)]) (Nat.le_of_ble_eq_true rfl) ⟨Nat.le_of_ble_eq_true rfl, Nat.le_of_ble_eq_true rfl⟩ dX6_init_51 (fun H locs hP hS => ?_)
  have hP := cb_o3 (by omega) (fun q h1 h2 => (cb_TX_n (by omega) (by omega)).symm) hP
  have hP : cb_P g 240 (cb_Ob (cb_TX g 0 0) 0 6 [.ref (tb_ad g 1), .ref (tb_ad g 2), .ref (tb_ad g 4), .ref (tb_ad g 13), .null, .null, .null, .null, .int 0, .int 0] E) H := hP
  refine cb_putF F hin hP hS (q := 0) (fs := [.ref (tb_ad g 1), .ref (tb_ad g 2), .ref (tb_ad g 4), .ref (tb_ad g 13), .null, .null, .null, .null, .int 0, .int 0]) (by omega) (cb_Ob_p _ _ _ _ _) (ci := 6) rfl inlX6 tyX6 tyX6_ok nmX6 4 (by decide) rfl rfl rfl rfl (Nat.le_of_ble_eq_true rfl) kf_X6_35 dX6_init_54 (fun H locs hP hS => ?_)
  have hP := cb_o4 hP
  have hP : cb_P g 240 (cb_Ob (cb_TX g 0 0) 0 6 [.ref (tb_ad g 1), .ref (tb_ad g 2), .ref (tb_ad g 4), .ref (tb_ad g 13), .ref (tb_ad g 22), .null, .null, .null, .int 0, .int 0] E) H := hP
  refine lv_aload_n hx hb dX6_init_57 rfl (lv_at hl 0 rfl) ?_
  refine cb_new F hP hS (ci := 3) rfl inlX3 tyX3 tyX3_ok kl_X6_39 kq_X3 ki_X3 (fs := bf3) bf3_ok (Nat.le_of_ble_eq_true rfl) (Nat.le_of_ble_eq_true rfl) dX6_init_58 (fun H hP hS => ?_)
  refine lv_dup hx hb dX6_init_61 rfl ?_
  refine cb_callN F hP hS hl.1 kX3_init_code kX3_init_inst ki_X3 rfl (by decide +kernel) F.2.1.2.2.1 (uX3_init g b0 hg l (cb_up (cb_Ob (cb_TX g 0 0) 0 6 [.ref (tb_ad g 1), .ref (tb_ad g 2), .ref (tb_ad g 4), .ref (tb_ad g 13), .ref (tb_ad g 22), .null, .null, .null, .int 0, .int 0] E) 240 (.inr (3, bf3))) (cb_up_s _ _ _)) ⟨rfl, rfl, Nat.le_of_ble_eq_true rfl, Nat.le_of_ble_eq_true rfl⟩ (rest := [.ref (tb_ad g 240), .ref (tb_ad g 0)]) (Nat.le_of_ble_eq_true rfl) ⟨Nat.le_of_ble_eq_true rfl, Nat.le_of_ble_eq_true rfl⟩ dX6_init_62 (fun H locs hP hS => ?_)
  have hP := cb_o3 (by omega) (fun q h1 h2 => (cb_TX_n (by omega) (by omega)).symm) hP
  have hP : cb_P g 260 (cb_Ob (cb_TX g 0 0) 0 6 [.ref (tb_ad g 1), .ref (tb_ad g 2), .ref (tb_ad g 4), .ref (tb_ad g 13), .ref (tb_ad g 22), .null, .null, .null, .int 0, .int 0] E) H := hP
  refine cb_putF F hin hP hS (q := 0) (fs := [.ref (tb_ad g 1), .ref (tb_ad g 2), .ref (tb_ad g 4), .ref (tb_ad g 13), .ref (tb_ad g 22), .null, .null, .null, .int 0, .int 0]) (by omega) (cb_Ob_p _ _ _ _ _) (ci := 6) rfl inlX6 tyX6 tyX6_ok nmX6 5 (by decide) rfl rfl rfl rfl (Nat.le_of_ble_eq_true rfl) kf_X6_42 dX6_init_65 (fun H locs hP hS => ?_)
  have hP := cb_o4 hP
  have hP : cb_P g 260 (cb_Ob (cb_TX g 0 0) 0 6 [.ref (tb_ad g 1), .ref (tb_ad g 2), .ref (tb_ad g 4), .ref (tb_ad g 13), .ref (tb_ad g 22), .ref (tb_ad g 240), .null, .null, .int 0, .int 0] E) H := hP
  refine lv_aload_n hx hb dX6_init_68 rfl (lv_at hl 0 rfl) ?_
  refine lv_iconst (v := 2) hx hb dX6_init_69 (by decide) ?_
  refine cb_newq F hP hS kl_X6_22 F.2.1.2.2.2.2.2.2.2.2 (t0 := 3) rfl (by decide) (N := 2) (by decide) (by decide) (Nat.le_of_ble_eq_true rfl) (Nat.le_of_ble_eq_true rfl) dX6_init_70 (fun H hP hS => ?_)
  have hP : cb_P g 261 (cb_up (cb_Ob (cb_TX g 0 0) 0 6 [.ref (tb_ad g 1), .ref (tb_ad g 2), .ref (tb_ad g 4), .ref (tb_ad g 13), .ref (tb_ad g 22), .ref (tb_ad g 240), .null, .null, .int 0, .int 0] E) 260 (.inl (g.2.1 3, 2, .inr (.inr (.inr (.inr (fun _ => none))))))) H := hP
  refine cb_putF F hin hP hS (q := 0) (fs := [.ref (tb_ad g 1), .ref (tb_ad g 2), .ref (tb_ad g 4), .ref (tb_ad g 13), .ref (tb_ad g 22), .ref (tb_ad g 240), .null, .null, .int 0, .int 0]) (by omega) (by rw [cb_up_n (by omega), cb_Ob_p]) (ci := 6) rfl inlX6 tyX6 tyX6_ok nmX6 6 (by decide) rfl rfl rfl rfl (Nat.le_of_ble_eq_true rfl) kf_X6_46 dX6_init_73 (fun H locs hP hS => ?_)
  have hP := cb_o2 (by omega) (by rw [cb_TX_2, cb_pt_0]) hP
  have hP : cb_P g 261 (cb_Ob (cb_TX g 0 0) 0 6 [.ref (tb_ad g 1), .ref (tb_ad g 2), .ref (tb_ad g 4), .ref (tb_ad g 13), .ref (tb_ad g 22), .ref (tb_ad g 240), .ref (tb_ad g 260), .null, .int 0, .int 0] E) H := hP
  refine lv_aload_n hx hb dX6_init_76 rfl (lv_at hl 0 rfl) ?_
  refine cb_new F hP hS (ci := 1) rfl inlX1 tyX1 tyX1_ok kl_X6_50 kq_X1 ki_X1 (fs := bf1) bf1_ok (Nat.le_of_ble_eq_true rfl) (Nat.le_of_ble_eq_true rfl) dX6_init_77 (fun H hP hS => ?_)
  refine lv_dup hx hb dX6_init_80 rfl ?_
  refine cb_callN F hP hS hl.1 kX1_init_code kX1_init_inst ki_X1 rfl (by decide +kernel) F.2.1.2.2.2.1 (uX1_init g b0 hg l (cb_up (cb_Ob (cb_TX g 0 0) 0 6 [.ref (tb_ad g 1), .ref (tb_ad g 2), .ref (tb_ad g 4), .ref (tb_ad g 13), .ref (tb_ad g 22), .ref (tb_ad g 240), .ref (tb_ad g 260), .null, .int 0, .int 0] E) 261 (.inr (1, bf1))) (cb_up_s _ _ _)) ⟨rfl, rfl, Nat.le_of_ble_eq_true rfl, Nat.le_of_ble_eq_true rfl⟩ (rest := [.ref (tb_ad g 261), .ref (tb_ad g 0)]) (Nat.le_of_ble_eq_true rfl) ⟨Nat.le_of_ble_eq_true rfl, Nat.le_of_ble_eq_true rfl⟩ dX6_init_81 (fun H locs hP hS => ?_)
  have hP := cb_o3 (by omega) (fun q h1 h2 => (cb_TX_n (by omega) (by omega)).symm) hP
  have hP : cb_P g 263 (cb_Ob (cb_TX g 0 0) 0 6 [.ref (tb_ad g 1), .ref (tb_ad g 2), .ref (tb_ad g 4), .ref (tb_ad g 13), .ref (tb_ad g 22), .ref (tb_ad g 240), .ref (tb_ad g 260), .null, .int 0, .int 0] E) H := hP
  refine cb_putF F hin hP hS (q := 0) (fs := [.ref (tb_ad g 1), .ref (tb_ad g 2), .ref (tb_ad g 4), .ref (tb_ad g 13), .ref (tb_ad g 22), .ref (tb_ad g 240), .ref (tb_ad g 260), .null, .int 0, .int 0]) (by omega) (cb_Ob_p _ _ _ _ _) (ci := 6) rfl inlX6 tyX6 tyX6_ok nmX6 7 (by decide) rfl rfl rfl rfl (Nat.le_of_ble_eq_true rfl) kf_X6_53 dX6_init_84 (fun H locs hP hS => ?_)
  have hP := cb_o4 hP
  have hP : cb_P g 263 (cb_Ob (cb_TX g 0 0) 0 6 [.ref (tb_ad g 1), .ref (tb_ad g 2), .ref (tb_ad g 4), .ref (tb_ad g 13), .ref (tb_ad g 22), .ref (tb_ad g 240), .ref (tb_ad g 260), .ref (tb_ad g 261), .int 0, .int 0] E) H := hP
  have loop2 : ∀ (k i : Nat), i + k = 2 → ∀ (H : Heap) (locs : List Loc) (ls : Array Slot), cb_P g (279 + 9 * i) (cb_Ob (cb_TX g 8 i) 0 6 [.ref (tb_ad g 1), .ref (tb_ad g 2), .ref (tb_ad g 4), .ref (tb_ad g 13), .ref (tb_ad g 22), .ref (tb_ad g 240), .ref (tb_ad g 260), .ref (tb_ad g 261), .int 0, .int 0] E) H → va_S (tb_A g) s.heap H locs → lv_has ls 2 [(1, .int (nI i)), (0, .ref (tb_ad g 0))] → W P l e rmX6_init s m ([.ref (tb_ad g 0)] : List Value).toArray below meth c H locs (278 + 9 * i) (2979 + 89 * i) (MQ below (cb_Q g 297 (cb_cut g 0 E)) ([.ref (tb_ad g 0)] : List Value).toArray s 296 3157 (tb_A g)) (F0 m 116 ls []) := by
    intro k
    induction k with
    | zero =>
      intro i hi H locs ls hP hS hl
      have hi : i = 2 := by omega
      subst hi
      refine lv_iload_n hx hb dX6_init_116 rfl (lv_at hl 0 rfl) ?_
      refine lv_iconst (v := 2) hx hb dX6_init_117 (by decide) ?_
      refine lv_icmp_ge (tgt := 140) hx hb dX6_init_118 (by decide) (fun c1 => ?_) (fun c1 => absurd (show nI 2 ≤ nI 2 from nI_le (by omega) (by omega)) c1)
      refine cb_vret F (cb_o5 ?_ (fun q h1 h2 => ?_) hP) hS (Nat.le_of_ble_eq_true rfl) (Nat.le_of_ble_eq_true rfl) dX6_init_140
      · unfold cb_T
        rw [tb_l0, cb_M0z (by omega) (by omega)]
        rfl
      · by_cases h3 : q = 1
        · subst h3
          rw [cb_TX_1, cb_pt_e (L := tb_rowsL) (by decide) tb_rowsG]
          unfold cb_T
          rw [tb_l1]
          rfl
        · by_cases h4 : q = 260
          · subst h4
            rw [cb_TX_2, cb_pt_e (L := tb_imagesL) (by decide) tb_imagesG]
            unfold cb_T
            rw [tb_l260]
            rfl
          · exact cb_TX_n h3 h4
    | succ k ih =>
      intro i hi H locs ls hP hS hl
      refine lv_iload_n hx hb dX6_init_116 rfl (lv_at hl 0 rfl) ?_
      refine lv_iconst (v := 2) hx hb dX6_init_117 (by decide) ?_
      refine lv_icmp_ge (tgt := 140) hx hb dX6_init_118 (by decide) (fun c1 => absurd (show nI 2 ≤ nI i from c1) (nI_ge (by omega) (by omega))) (fun c1 => ?_)
      refine lv_aload_n hx hb dX6_init_121 rfl (lv_at hl 1 rfl) ?_
      refine cb_get F hP (q := 0) (by omega) (cb_Ob_p _ _ _ _ _) (ci := 6) rfl inlX6 6 (by decide) rfl kf_X6_46 dX6_init_122 ?_
      refine lv_iload_n hx hb dX6_init_125 rfl (lv_at hl 0 rfl) ?_
      refine cb_new F hP hS (ci := 2) rfl inlX2 tyX2 tyX2_ok kl_X6_22 kq_X2 ki_X2 (fs := bf2) bf2_ok (by show 278 + 9 * i + 1 ≤ 296; omega) (by show 2979 + 89 * i + 13 ≤ 3157; omega) dX6_init_126 (fun H hP hS => ?_)
      refine lv_dup hx hb dX6_init_129 rfl ?_
      refine cb_callN F hP hS hl.1 kX2_init_code kX2_init_inst ki_X2 rfl (by decide +kernel) F.2.1.2.1 (uX2_init g b0 hg l (279 + 9 * i) (tb_Bimg (by omega)) (by omega) (cb_up (cb_Ob (cb_TX g 8 i) 0 6 [.ref (tb_ad g 1), .ref (tb_ad g 2), .ref (tb_ad g 4), .ref (tb_ad g 13), .ref (tb_ad g 22), .ref (tb_ad g 240), .ref (tb_ad g 260), .ref (tb_ad g 261), .int 0, .int 0] E) (279 + 9 * i) (.inr (2, bf2))) (cb_up_s _ _ _)) ⟨rfl, rfl, Nat.le_of_ble_eq_true rfl, Nat.le_of_ble_eq_true rfl⟩ (rest := [.ref (tb_ad g (279 + 9 * i)), .int (nI i), .ref (tb_ad g 260)]) (Nat.le_of_ble_eq_true rfl) ⟨by show 278 + 9 * i + 1 + 8 ≤ 296; omega, by show 2979 + 89 * i + 13 + 76 ≤ 3157; omega⟩ dX6_init_130 (fun H locs hP hS => ?_)
      have hP := cb_o3 (by omega) (fun q h1 h2 => (cb_TX_n (by omega) (by omega)).symm) hP
      refine cb_ast F hP hS (q := 260) (t0 := 3) (r := 279 + 9 * i) (ci := 2) (by omega) (by rw [cb_Ob_r (by omega), cb_TX_2]) rfl (by omega) (by rw [cb_Ob_r (by omega), cb_TX_n (by omega) (by omega)]; unfold cb_T; rw [(tb_Bimg (show i < 2 by omega)).1]; rfl) rfl (k := i) (nI_clamp (by omega)) (nI_in (by omega) (by omega)) dX6_init_133 (fun H locs hP hS => ?_)
      have hP := cb_o6 (T' := cb_TX g 8 (i + 1)) (by omega) (fun q h1 => by
        by_cases h3 : q = 260
        · subst h3; rw [cb_up_s, cb_TX_2, cb_pt_s]
        · rw [cb_up_n h3]
          unfold cb_TX
          rw [cb_up_n h3, cb_up_n h3]) hP
      refine lv_iinc (v := nI (i + 1)) (lv' := [(1, .int (nI (i + 1))), (0, .ref (tb_ad g 0))]) hx hb dX6_init_134 hl (k := 0) rfl (nI_1 i) (by decide) rfl (fun ls hl => ?_)
      refine lv_goto (tgt := 116) hx hb dX6_init_137 (by decide) ?_
      refine W.widen (k := 278 + 9 * (i + 1)) (n := 2979 + 89 * (i + 1)) (by omega) (by omega) ?_
      exact ih (i + 1) (by omega) H locs ls (by rw [show 279 + 9 * (i + 1) = 279 + 9 * i + 9 by omega]; exact hP) hS hl
  have loop1 : ∀ (k i : Nat), i + k = 8 → ∀ (H : Heap) (locs : List Loc) (ls : Array Slot), cb_P g (263 + 2 * i) (cb_Ob (cb_TX g i 0) 0 6 [.ref (tb_ad g 1), .ref (tb_ad g 2), .ref (tb_ad g 4), .ref (tb_ad g 13), .ref (tb_ad g 22), .ref (tb_ad g 240), .ref (tb_ad g 260), .ref (tb_ad g 261), .int 0, .int 0] E) H → va_S (tb_A g) s.heap H locs → lv_has ls 2 [(1, .int (nI i)), (0, .ref (tb_ad g 0))] → W P l e rmX6_init s m ([.ref (tb_ad g 0)] : List Value).toArray below meth c H locs (262 + 2 * i) (2627 + 44 * i) (MQ below (cb_Q g 297 (cb_cut g 0 E)) ([.ref (tb_ad g 0)] : List Value).toArray s 296 3157 (tb_A g)) (F0 m 89 ls []) := by
    intro k
    induction k with
    | zero =>
      intro i hi H locs ls hP hS hl
      have hi : i = 8 := by omega
      subst hi
      refine lv_iload_n hx hb dX6_init_89 rfl (lv_at hl 0 rfl) ?_
      refine lv_bipush (v := 8) hx hb dX6_init_90 (by decide) ?_
      refine lv_icmp_ge (tgt := 114) hx hb dX6_init_92 (by decide) (fun c1 => ?_) (fun c1 => absurd (show nI 8 ≤ nI 8 from nI_le (by omega) (by omega)) c1)
      refine lv_iconst (v := 0) hx hb dX6_init_114 (by decide) ?_
      refine lv_istore_n (lv' := [(1, .int 0), (0, .ref (tb_ad g 0))]) hx hb dX6_init_115 rfl hl (by decide) rfl (fun ls hl => ?_)
      exact loop2 2 0 rfl H locs ls hP hS hl
    | succ k ih =>
      intro i hi H locs ls hP hS hl
      refine lv_iload_n hx hb dX6_init_89 rfl (lv_at hl 0 rfl) ?_
      refine lv_bipush (v := 8) hx hb dX6_init_90 (by decide) ?_
      refine lv_icmp_ge (tgt := 114) hx hb dX6_init_92 (by decide) (fun c1 => absurd (show nI 8 ≤ nI i from c1) (nI_ge (by omega) (by omega))) (fun c1 => ?_)
      refine lv_aload_n hx hb dX6_init_95 rfl (lv_at hl 1 rfl) ?_
      refine cb_get F hP (q := 0) (by omega) (cb_Ob_p _ _ _ _ _) (ci := 6) rfl inlX6 0 (by decide) rfl kf_X6_11 dX6_init_96 ?_
      refine lv_iload_n hx hb dX6_init_99 rfl (lv_at hl 0 rfl) ?_
      refine cb_new F hP hS (ci := 4) rfl inlX4 tyX4 tyX4_ok kl_X6_9 kq_X4 ki_X4 (fs := bf4) bf4_ok (by show 262 + 2 * i + 1 ≤ 296; omega) (by show 2627 + 44 * i + 4 ≤ 3157; omega) dX6_init_100 (fun H hP hS => ?_)
      refine lv_dup hx hb dX6_init_103 rfl ?_
      refine cb_callN F hP hS hl.1 kX4_init_code kX4_init_inst ki_X4 rfl (by decide +kernel) F.2.1.2.2.2.2.1 (uX4_init g b0 hg l (263 + 2 * i) (tb_Rrow (by omega)) (by omega) (cb_up (cb_Ob (cb_TX g i 0) 0 6 [.ref (tb_ad g 1), .ref (tb_ad g 2), .ref (tb_ad g 4), .ref (tb_ad g 13), .ref (tb_ad g 22), .ref (tb_ad g 240), .ref (tb_ad g 260), .ref (tb_ad g 261), .int 0, .int 0] E) (263 + 2 * i) (.inr (4, bf4))) (cb_up_s _ _ _)) ⟨rfl, rfl, Nat.le_of_ble_eq_true rfl, Nat.le_of_ble_eq_true rfl⟩ (rest := [.ref (tb_ad g (263 + 2 * i)), .int (nI i), .ref (tb_ad g 1)]) (Nat.le_of_ble_eq_true rfl) ⟨by show 262 + 2 * i + 1 + 1 ≤ 296; omega, by show 2627 + 44 * i + 4 + 40 ≤ 3157; omega⟩ dX6_init_104 (fun H locs hP hS => ?_)
      have hP := cb_o3 (by omega) (fun q h1 h2 => (cb_TX_n (by omega) (by omega)).symm) hP
      refine cb_ast F hP hS (q := 1) (t0 := 2) (r := 263 + 2 * i) (ci := 4) (by omega) (by rw [cb_Ob_r (by omega), cb_TX_1]) rfl (by omega) (by rw [cb_Ob_r (by omega), cb_TX_n (by omega) (by omega)]; unfold cb_T; rw [(tb_Rrow (show i < 8 by omega)).1]; rfl) rfl (k := i) (nI_clamp (by omega)) (nI_in (by omega) (by omega)) dX6_init_107 (fun H locs hP hS => ?_)
      have hP := cb_o6 (T' := cb_TX g (i + 1) 0) (by omega) (fun q h1 => by
        by_cases h3 : q = 1
        · subst h3; rw [cb_up_s, cb_TX_1, cb_pt_s]
        · rw [cb_up_n h3]
          unfold cb_TX
          by_cases h4 : q = 260
          · rw [h4, cb_up_s, cb_up_s]
          · rw [cb_up_n h4, cb_up_n h4, cb_up_n h3, cb_up_n h3]) hP
      refine lv_iinc (v := nI (i + 1)) (lv' := [(1, .int (nI (i + 1))), (0, .ref (tb_ad g 0))]) hx hb dX6_init_108 hl (k := 0) rfl (nI_1 i) (by decide) rfl (fun ls hl => ?_)
      refine lv_goto (tgt := 89) hx hb dX6_init_111 (by decide) ?_
      refine W.widen (k := 262 + 2 * (i + 1)) (n := 2627 + 44 * (i + 1)) (by omega) (by omega) ?_
      exact ih (i + 1) (by omega) H locs ls (by rw [show 263 + 2 * (i + 1) = 263 + 2 * i + 2 by omega]; exact hP) hS hl
  refine lv_iconst (v := 0) hx hb dX6_init_87 (by decide) ?_
  refine lv_istore_n (lv' := [(1, .int 0), (0, .ref (tb_ad g 0))]) hx hb dX6_init_88 rfl hl (by decide) rfl (fun ls hl => ?_)
  exact loop1 8 0 rfl H locs ls hP hS hl
def cb_sz (i : Nat) : Nat → Int32 := fun j => if j < i then -1 else 0
theorem cb_sz_0 : cb_sz 0 = fun _ => 0 := by
  funext j
  unfold cb_sz
  rw [if_neg (by omega)]
theorem cb_sz_s (i : Nat) : upd (cb_sz i) i (-1) = cb_sz (i + 1) := by
  funext j
  unfold upd cb_sz
  by_cases hj : j = i
  · rw [if_pos hj, if_pos (by omega)]
  · rw [if_neg hj]
    by_cases hj2 : j < i
    · rw [if_pos hj2, if_pos (by omega)]
    · rw [if_neg hj2, if_neg (by omega)]
theorem cb_sz_8 : cb_sz 8 = cb_M0 298 := by
  funext j
  unfold cb_M0 cb_sz
  by_cases hj : j < 8
  · rw [if_pos hj, if_neg (by omega), if_pos ⟨rfl, hj⟩]
  · rw [if_neg hj, if_neg (by omega), if_neg (by omega)]
def cb_TM (g : tb_GT) (i : Nat) : Nat → va_E := cb_up (cb_T g) 298 (.inl (g.2.1 0, 8, .inl (cb_sz i)))
abbrev rmX7_init : Room := { frames := 1, cells := 12, slots := 1873, locals := 12 }
set_option maxHeartbeats 4000000 in
set_option maxRecDepth 100000 in
theorem uX7_init (g : tb_GT) (b0 : Nat) (hg : cb_g g b0) (l : Launch) (E : Nat → va_E) (hE : E 297 = .inr (7, bf7)) : cb_C g l yX7_init (Cond.code yX7_init cX7_init 2 none) rmX7_init [.ref (tb_ad g 297)] 298 310 E (cb_cut g 297 E) 12 1873 := by
  refine cb_entry hg (by decide) (Nat.le_of_ble_eq_true rfl) rfl ?_
  intro P e s m below meth c F hin hP hS ls hl
  have F : cb_F g b0 cX7_init 2 RX7 none (Cond.code yX7_init cX7_init 2 none) P s m ([.ref (tb_ad g 297)] : List Value).toArray meth c := F
  have hx := F.1.1.1
  have hb := F.1.1.2.1
  have hl : lv_has ls 2 [(0, .ref (tb_ad g 297))] := hl
  refine lv_aload_n hx hb dX7_init_0 rfl (lv_at hl 0 rfl) ?_
  refine cb_obj F hl.1 km_X7_1 ko_inst ko_code (Nat.le_of_ble_eq_true rfl) (Nat.le_of_ble_eq_true rfl) dX7_init_1 ?_
  have hP := cb_o1 (cb_TM g 0) rfl hE hP
  refine lv_aload_n hx hb dX7_init_4 rfl (lv_at hl 0 rfl) ?_
  refine lv_bipush (v := 8) hx hb dX7_init_5 (by decide) ?_
  refine cb_newi F hP hS ka_int (by decide) (N := 8) (by decide) (by decide) (Nat.le_of_ble_eq_true rfl) (Nat.le_of_ble_eq_true rfl) dX7_init_7 (fun H hP hS => ?_)
  have hP : cb_P g 299 (cb_up (cb_Ob (cb_TM g 0) 297 7 [.null, .null, .null, .null, .int 0, .null, .int 0, .int 0, .null, .null, .null, .null, .null, .int 0, .null, .null, .int 0, .int 0, .int 0] E) 298 (.inl (g.2.1 0, 8, .inl (fun _ => 0)))) H := hP
  refine cb_putF F hin hP hS (q := 297) (fs := [.null, .null, .null, .null, .int 0, .null, .int 0, .int 0, .null, .null, .null, .null, .null, .int 0, .null, .null, .int 0, .int 0, .int 0]) (by omega) (by rw [cb_up_n (by omega), cb_Ob_p]) (ci := 7) rfl inlX7 tyX7 tyX7_ok nmX7 0 (by decide) rfl rfl rfl rfl (Nat.le_of_ble_eq_true rfl) kf_X7_7 dX7_init_9 (fun H locs hP hS => ?_)
  have hP := cb_o2 (by omega) (by unfold cb_TM; rw [cb_up_s, cb_sz_0]) hP
  have hP : cb_P g 299 (cb_Ob (cb_TM g 0) 297 7 [.ref (tb_ad g 298), .null, .null, .null, .int 0, .null, .int 0, .int 0, .null, .null, .null, .null, .null, .int 0, .null, .null, .int 0, .int 0, .int 0] E) H := hP
  refine lv_aload_n hx hb dX7_init_12 rfl (lv_at hl 0 rfl) ?_
  refine lv_bipush (v := 8) hx hb dX7_init_13 (by decide) ?_
  refine cb_newi F hP hS ka_int (by decide) (N := 8) (by decide) (by decide) (Nat.le_of_ble_eq_true rfl) (Nat.le_of_ble_eq_true rfl) dX7_init_15 (fun H hP hS => ?_)
  have hP : cb_P g 300 (cb_up (cb_Ob (cb_TM g 0) 297 7 [.ref (tb_ad g 298), .null, .null, .null, .int 0, .null, .int 0, .int 0, .null, .null, .null, .null, .null, .int 0, .null, .null, .int 0, .int 0, .int 0] E) 299 (.inl (g.2.1 0, 8, .inl (fun _ => 0)))) H := hP
  refine cb_putF F hin hP hS (q := 297) (fs := [.ref (tb_ad g 298), .null, .null, .null, .int 0, .null, .int 0, .int 0, .null, .null, .null, .null, .null, .int 0, .null, .null, .int 0, .int 0, .int 0]) (by omega) (by rw [cb_up_n (by omega), cb_Ob_p]) (ci := 7) rfl inlX7 tyX7 tyX7_ok nmX7 1 (by decide) rfl rfl rfl rfl (Nat.le_of_ble_eq_true rfl) kf_X7_13 dX7_init_17 (fun H locs hP hS => ?_)
  have hP := cb_o2 (by omega) (by unfold cb_TM; rw [cb_up_n (by omega), cb_Tar tb_l299 (by omega) (by omega)]) hP
  have hP : cb_P g 300 (cb_Ob (cb_TM g 0) 297 7 [.ref (tb_ad g 298), .ref (tb_ad g 299), .null, .null, .int 0, .null, .int 0, .int 0, .null, .null, .null, .null, .null, .int 0, .null, .null, .int 0, .int 0, .int 0] E) H := hP
  refine lv_aload_n hx hb dX7_init_20 rfl (lv_at hl 0 rfl) ?_
  refine lv_sipush (v := 320) hx hb dX7_init_21 (by decide) ?_
  refine cb_newi F hP hS ka_int (by decide) (N := 320) (by decide) (by decide) (Nat.le_of_ble_eq_true rfl) (Nat.le_of_ble_eq_true rfl) dX7_init_24 (fun H hP hS => ?_)
  have hP : cb_P g 301 (cb_up (cb_Ob (cb_TM g 0) 297 7 [.ref (tb_ad g 298), .ref (tb_ad g 299), .null, .null, .int 0, .null, .int 0, .int 0, .null, .null, .null, .null, .null, .int 0, .null, .null, .int 0, .int 0, .int 0] E) 300 (.inl (g.2.1 0, 320, .inl (fun _ => 0)))) H := hP
  refine cb_putF F hin hP hS (q := 297) (fs := [.ref (tb_ad g 298), .ref (tb_ad g 299), .null, .null, .int 0, .null, .int 0, .int 0, .null, .null, .null, .null, .null, .int 0, .null, .null, .int 0, .int 0, .int 0]) (by omega) (by rw [cb_up_n (by omega), cb_Ob_p]) (ci := 7) rfl inlX7 tyX7 tyX7_ok nmX7 2 (by decide) rfl rfl rfl rfl (Nat.le_of_ble_eq_true rfl) kf_X7_16 dX7_init_26 (fun H locs hP hS => ?_)
  have hP := cb_o2 (by omega) (by unfold cb_TM; rw [cb_up_n (by omega), cb_Tar tb_l300 (by omega) (by omega)]) hP
  have hP : cb_P g 301 (cb_Ob (cb_TM g 0) 297 7 [.ref (tb_ad g 298), .ref (tb_ad g 299), .ref (tb_ad g 300), .null, .int 0, .null, .int 0, .int 0, .null, .null, .null, .null, .null, .int 0, .null, .null, .int 0, .int 0, .int 0] E) H := hP
  refine lv_aload_n hx hb dX7_init_29 rfl (lv_at hl 0 rfl) ?_
  refine lv_bipush (v := 40) hx hb dX7_init_30 (by decide) ?_
  refine cb_newi F hP hS ka_int (by decide) (N := 40) (by decide) (by decide) (Nat.le_of_ble_eq_true rfl) (Nat.le_of_ble_eq_true rfl) dX7_init_32 (fun H hP hS => ?_)
  have hP : cb_P g 302 (cb_up (cb_Ob (cb_TM g 0) 297 7 [.ref (tb_ad g 298), .ref (tb_ad g 299), .ref (tb_ad g 300), .null, .int 0, .null, .int 0, .int 0, .null, .null, .null, .null, .null, .int 0, .null, .null, .int 0, .int 0, .int 0] E) 301 (.inl (g.2.1 0, 40, .inl (fun _ => 0)))) H := hP
  refine cb_putF F hin hP hS (q := 297) (fs := [.ref (tb_ad g 298), .ref (tb_ad g 299), .ref (tb_ad g 300), .null, .int 0, .null, .int 0, .int 0, .null, .null, .null, .null, .null, .int 0, .null, .null, .int 0, .int 0, .int 0]) (by omega) (by rw [cb_up_n (by omega), cb_Ob_p]) (ci := 7) rfl inlX7 tyX7 tyX7_ok nmX7 3 (by decide) rfl rfl rfl rfl (Nat.le_of_ble_eq_true rfl) kf_X7_19 dX7_init_34 (fun H locs hP hS => ?_)
  have hP := cb_o2 (by omega) (by unfold cb_TM; rw [cb_up_n (by omega), cb_Tar tb_l301 (by omega) (by omega)]) hP
  have hP : cb_P g 302 (cb_Ob (cb_TM g 0) 297 7 [.ref (tb_ad g 298), .ref (tb_ad g 299), .ref (tb_ad g 300), .ref (tb_ad g 301), .int 0, .null, .int 0, .int 0, .null, .null, .null, .null, .null, .int 0, .null, .null, .int 0, .int 0, .int 0] E) H := hP
  refine lv_aload_n hx hb dX7_init_37 rfl (lv_at hl 0 rfl) ?_
  refine lv_bipush (v := 60) hx hb dX7_init_38 (by decide) ?_
  refine cb_newi F hP hS ka_int (by decide) (N := 60) (by decide) (by decide) (Nat.le_of_ble_eq_true rfl) (Nat.le_of_ble_eq_true rfl) dX7_init_40 (fun H hP hS => ?_)
  have hP : cb_P g 303 (cb_up (cb_Ob (cb_TM g 0) 297 7 [.ref (tb_ad g 298), .ref (tb_ad g 299), .ref (tb_ad g 300), .ref (tb_ad g 301), .int 0, .null, .int 0, .int 0, .null, .null, .null, .null, .null, .int 0, .null, .null, .int 0, .int 0, .int 0] E) 302 (.inl (g.2.1 0, 60, .inl (fun _ => 0)))) H := hP
  refine cb_putF F hin hP hS (q := 297) (fs := [.ref (tb_ad g 298), .ref (tb_ad g 299), .ref (tb_ad g 300), .ref (tb_ad g 301), .int 0, .null, .int 0, .int 0, .null, .null, .null, .null, .null, .int 0, .null, .null, .int 0, .int 0, .int 0]) (by omega) (by rw [cb_up_n (by omega), cb_Ob_p]) (ci := 7) rfl inlX7 tyX7 tyX7_ok nmX7 5 (by decide) rfl rfl rfl rfl (Nat.le_of_ble_eq_true rfl) kf_X7_22 dX7_init_42 (fun H locs hP hS => ?_)
  have hP := cb_o2 (by omega) (by unfold cb_TM; rw [cb_up_n (by omega), cb_Tar tb_l302 (by omega) (by omega)]) hP
  have hP : cb_P g 303 (cb_Ob (cb_TM g 0) 297 7 [.ref (tb_ad g 298), .ref (tb_ad g 299), .ref (tb_ad g 300), .ref (tb_ad g 301), .int 0, .ref (tb_ad g 302), .int 0, .int 0, .null, .null, .null, .null, .null, .int 0, .null, .null, .int 0, .int 0, .int 0] E) H := hP
  refine lv_aload_n hx hb dX7_init_45 rfl (lv_at hl 0 rfl) ?_
  refine lv_bipush (v := 63) hx hb dX7_init_46 (by decide) ?_
  refine cb_newi F hP hS ka_int (by decide) (N := 63) (by decide) (by decide) (Nat.le_of_ble_eq_true rfl) (Nat.le_of_ble_eq_true rfl) dX7_init_48 (fun H hP hS => ?_)
  have hP : cb_P g 304 (cb_up (cb_Ob (cb_TM g 0) 297 7 [.ref (tb_ad g 298), .ref (tb_ad g 299), .ref (tb_ad g 300), .ref (tb_ad g 301), .int 0, .ref (tb_ad g 302), .int 0, .int 0, .null, .null, .null, .null, .null, .int 0, .null, .null, .int 0, .int 0, .int 0] E) 303 (.inl (g.2.1 0, 63, .inl (fun _ => 0)))) H := hP
  refine cb_putF F hin hP hS (q := 297) (fs := [.ref (tb_ad g 298), .ref (tb_ad g 299), .ref (tb_ad g 300), .ref (tb_ad g 301), .int 0, .ref (tb_ad g 302), .int 0, .int 0, .null, .null, .null, .null, .null, .int 0, .null, .null, .int 0, .int 0, .int 0]) (by omega) (by rw [cb_up_n (by omega), cb_Ob_p]) (ci := 7) rfl inlX7 tyX7 tyX7_ok nmX7 8 (by decide) rfl rfl rfl rfl (Nat.le_of_ble_eq_true rfl) kf_X7_25 dX7_init_50 (fun H locs hP hS => ?_)
  have hP := cb_o2 (by omega) (by unfold cb_TM; rw [cb_up_n (by omega), cb_Tar tb_l303 (by omega) (by omega)]) hP
  have hP : cb_P g 304 (cb_Ob (cb_TM g 0) 297 7 [.ref (tb_ad g 298), .ref (tb_ad g 299), .ref (tb_ad g 300), .ref (tb_ad g 301), .int 0, .ref (tb_ad g 302), .int 0, .int 0, .ref (tb_ad g 303), .null, .null, .null, .null, .int 0, .null, .null, .int 0, .int 0, .int 0] E) H := hP
  refine lv_aload_n hx hb dX7_init_53 rfl (lv_at hl 0 rfl) ?_
  refine lv_bipush (v := 63) hx hb dX7_init_54 (by decide) ?_
  refine cb_newi F hP hS ka_int (by decide) (N := 63) (by decide) (by decide) (Nat.le_of_ble_eq_true rfl) (Nat.le_of_ble_eq_true rfl) dX7_init_56 (fun H hP hS => ?_)
  have hP : cb_P g 305 (cb_up (cb_Ob (cb_TM g 0) 297 7 [.ref (tb_ad g 298), .ref (tb_ad g 299), .ref (tb_ad g 300), .ref (tb_ad g 301), .int 0, .ref (tb_ad g 302), .int 0, .int 0, .ref (tb_ad g 303), .null, .null, .null, .null, .int 0, .null, .null, .int 0, .int 0, .int 0] E) 304 (.inl (g.2.1 0, 63, .inl (fun _ => 0)))) H := hP
  refine cb_putF F hin hP hS (q := 297) (fs := [.ref (tb_ad g 298), .ref (tb_ad g 299), .ref (tb_ad g 300), .ref (tb_ad g 301), .int 0, .ref (tb_ad g 302), .int 0, .int 0, .ref (tb_ad g 303), .null, .null, .null, .null, .int 0, .null, .null, .int 0, .int 0, .int 0]) (by omega) (by rw [cb_up_n (by omega), cb_Ob_p]) (ci := 7) rfl inlX7 tyX7 tyX7_ok nmX7 9 (by decide) rfl rfl rfl rfl (Nat.le_of_ble_eq_true rfl) kf_X7_28 dX7_init_58 (fun H locs hP hS => ?_)
  have hP := cb_o2 (by omega) (by unfold cb_TM; rw [cb_up_n (by omega), cb_Tar tb_l304 (by omega) (by omega)]) hP
  have hP : cb_P g 305 (cb_Ob (cb_TM g 0) 297 7 [.ref (tb_ad g 298), .ref (tb_ad g 299), .ref (tb_ad g 300), .ref (tb_ad g 301), .int 0, .ref (tb_ad g 302), .int 0, .int 0, .ref (tb_ad g 303), .ref (tb_ad g 304), .null, .null, .null, .int 0, .null, .null, .int 0, .int 0, .int 0] E) H := hP
  refine lv_aload_n hx hb dX7_init_61 rfl (lv_at hl 0 rfl) ?_
  refine lv_bipush (v := 126) hx hb dX7_init_62 (by decide) ?_
  refine cb_newi F hP hS ka_int (by decide) (N := 126) (by decide) (by decide) (Nat.le_of_ble_eq_true rfl) (Nat.le_of_ble_eq_true rfl) dX7_init_64 (fun H hP hS => ?_)
  have hP : cb_P g 306 (cb_up (cb_Ob (cb_TM g 0) 297 7 [.ref (tb_ad g 298), .ref (tb_ad g 299), .ref (tb_ad g 300), .ref (tb_ad g 301), .int 0, .ref (tb_ad g 302), .int 0, .int 0, .ref (tb_ad g 303), .ref (tb_ad g 304), .null, .null, .null, .int 0, .null, .null, .int 0, .int 0, .int 0] E) 305 (.inl (g.2.1 0, 126, .inl (fun _ => 0)))) H := hP
  refine cb_putF F hin hP hS (q := 297) (fs := [.ref (tb_ad g 298), .ref (tb_ad g 299), .ref (tb_ad g 300), .ref (tb_ad g 301), .int 0, .ref (tb_ad g 302), .int 0, .int 0, .ref (tb_ad g 303), .ref (tb_ad g 304), .null, .null, .null, .int 0, .null, .null, .int 0, .int 0, .int 0]) (by omega) (by rw [cb_up_n (by omega), cb_Ob_p]) (ci := 7) rfl inlX7 tyX7 tyX7_ok nmX7 10 (by decide) rfl rfl rfl rfl (Nat.le_of_ble_eq_true rfl) kf_X7_31 dX7_init_66 (fun H locs hP hS => ?_)
  have hP := cb_o2 (by omega) (by unfold cb_TM; rw [cb_up_n (by omega), cb_Tar tb_l305 (by omega) (by omega)]) hP
  have hP : cb_P g 306 (cb_Ob (cb_TM g 0) 297 7 [.ref (tb_ad g 298), .ref (tb_ad g 299), .ref (tb_ad g 300), .ref (tb_ad g 301), .int 0, .ref (tb_ad g 302), .int 0, .int 0, .ref (tb_ad g 303), .ref (tb_ad g 304), .ref (tb_ad g 305), .null, .null, .int 0, .null, .null, .int 0, .int 0, .int 0] E) H := hP
  refine lv_aload_n hx hb dX7_init_69 rfl (lv_at hl 0 rfl) ?_
  refine lv_iconst (v := 2) hx hb dX7_init_70 (by decide) ?_
  refine cb_newz F hP hS ka_bool (by decide) (N := 2) (by decide) (by decide) (Nat.le_of_ble_eq_true rfl) (Nat.le_of_ble_eq_true rfl) dX7_init_71 (fun H hP hS => ?_)
  have hP : cb_P g 307 (cb_up (cb_Ob (cb_TM g 0) 297 7 [.ref (tb_ad g 298), .ref (tb_ad g 299), .ref (tb_ad g 300), .ref (tb_ad g 301), .int 0, .ref (tb_ad g 302), .int 0, .int 0, .ref (tb_ad g 303), .ref (tb_ad g 304), .ref (tb_ad g 305), .null, .null, .int 0, .null, .null, .int 0, .int 0, .int 0] E) 306 (.inl (g.2.1 1, 2, .inl (fun _ => 0)))) H := hP
  refine cb_putF F hin hP hS (q := 297) (fs := [.ref (tb_ad g 298), .ref (tb_ad g 299), .ref (tb_ad g 300), .ref (tb_ad g 301), .int 0, .ref (tb_ad g 302), .int 0, .int 0, .ref (tb_ad g 303), .ref (tb_ad g 304), .ref (tb_ad g 305), .null, .null, .int 0, .null, .null, .int 0, .int 0, .int 0]) (by omega) (by rw [cb_up_n (by omega), cb_Ob_p]) (ci := 7) rfl inlX7 tyX7 tyX7_ok nmX7 11 (by decide) rfl rfl rfl rfl (Nat.le_of_ble_eq_true rfl) kf_X7_34 dX7_init_73 (fun H locs hP hS => ?_)
  have hP := cb_o2 (by omega) (by unfold cb_TM; rw [cb_up_n (by omega)]; unfold cb_T; rw [tb_l306, cb_M0z (by omega) (by omega)]; rfl) hP
  have hP : cb_P g 307 (cb_Ob (cb_TM g 0) 297 7 [.ref (tb_ad g 298), .ref (tb_ad g 299), .ref (tb_ad g 300), .ref (tb_ad g 301), .int 0, .ref (tb_ad g 302), .int 0, .int 0, .ref (tb_ad g 303), .ref (tb_ad g 304), .ref (tb_ad g 305), .ref (tb_ad g 306), .null, .int 0, .null, .null, .int 0, .int 0, .int 0] E) H := hP
  refine lv_aload_n hx hb dX7_init_76 rfl (lv_at hl 0 rfl) ?_
  refine lv_sipush (v := 1104) hx hb dX7_init_77 (by decide) ?_
  refine cb_newi F hP hS ka_int (by decide) (N := 1104) (by decide) (by decide) (Nat.le_of_ble_eq_true rfl) (Nat.le_of_ble_eq_true rfl) dX7_init_80 (fun H hP hS => ?_)
  have hP : cb_P g 308 (cb_up (cb_Ob (cb_TM g 0) 297 7 [.ref (tb_ad g 298), .ref (tb_ad g 299), .ref (tb_ad g 300), .ref (tb_ad g 301), .int 0, .ref (tb_ad g 302), .int 0, .int 0, .ref (tb_ad g 303), .ref (tb_ad g 304), .ref (tb_ad g 305), .ref (tb_ad g 306), .null, .int 0, .null, .null, .int 0, .int 0, .int 0] E) 307 (.inl (g.2.1 0, 1104, .inl (fun _ => 0)))) H := hP
  refine cb_putF F hin hP hS (q := 297) (fs := [.ref (tb_ad g 298), .ref (tb_ad g 299), .ref (tb_ad g 300), .ref (tb_ad g 301), .int 0, .ref (tb_ad g 302), .int 0, .int 0, .ref (tb_ad g 303), .ref (tb_ad g 304), .ref (tb_ad g 305), .ref (tb_ad g 306), .null, .int 0, .null, .null, .int 0, .int 0, .int 0]) (by omega) (by rw [cb_up_n (by omega), cb_Ob_p]) (ci := 7) rfl inlX7 tyX7 tyX7_ok nmX7 12 (by decide) rfl rfl rfl rfl (Nat.le_of_ble_eq_true rfl) kf_X7_38 dX7_init_82 (fun H locs hP hS => ?_)
  have hP := cb_o2 (by omega) (by unfold cb_TM; rw [cb_up_n (by omega), cb_Tar tb_l307 (by omega) (by omega)]) hP
  have hP : cb_P g 308 (cb_Ob (cb_TM g 0) 297 7 [.ref (tb_ad g 298), .ref (tb_ad g 299), .ref (tb_ad g 300), .ref (tb_ad g 301), .int 0, .ref (tb_ad g 302), .int 0, .int 0, .ref (tb_ad g 303), .ref (tb_ad g 304), .ref (tb_ad g 305), .ref (tb_ad g 306), .ref (tb_ad g 307), .int 0, .null, .null, .int 0, .int 0, .int 0] E) H := hP
  refine lv_aload_n hx hb dX7_init_85 rfl (lv_at hl 0 rfl) ?_
  refine lv_bipush (v := 63) hx hb dX7_init_86 (by decide) ?_
  refine cb_newi F hP hS ka_int (by decide) (N := 63) (by decide) (by decide) (Nat.le_of_ble_eq_true rfl) (Nat.le_of_ble_eq_true rfl) dX7_init_88 (fun H hP hS => ?_)
  have hP : cb_P g 309 (cb_up (cb_Ob (cb_TM g 0) 297 7 [.ref (tb_ad g 298), .ref (tb_ad g 299), .ref (tb_ad g 300), .ref (tb_ad g 301), .int 0, .ref (tb_ad g 302), .int 0, .int 0, .ref (tb_ad g 303), .ref (tb_ad g 304), .ref (tb_ad g 305), .ref (tb_ad g 306), .ref (tb_ad g 307), .int 0, .null, .null, .int 0, .int 0, .int 0] E) 308 (.inl (g.2.1 0, 63, .inl (fun _ => 0)))) H := hP
  refine cb_putF F hin hP hS (q := 297) (fs := [.ref (tb_ad g 298), .ref (tb_ad g 299), .ref (tb_ad g 300), .ref (tb_ad g 301), .int 0, .ref (tb_ad g 302), .int 0, .int 0, .ref (tb_ad g 303), .ref (tb_ad g 304), .ref (tb_ad g 305), .ref (tb_ad g 306), .ref (tb_ad g 307), .int 0, .null, .null, .int 0, .int 0, .int 0]) (by omega) (by rw [cb_up_n (by omega), cb_Ob_p]) (ci := 7) rfl inlX7 tyX7 tyX7_ok nmX7 14 (by decide) rfl rfl rfl rfl (Nat.le_of_ble_eq_true rfl) kf_X7_41 dX7_init_90 (fun H locs hP hS => ?_)
  have hP := cb_o2 (by omega) (by unfold cb_TM; rw [cb_up_n (by omega), cb_Tar tb_l308 (by omega) (by omega)]) hP
  have hP : cb_P g 309 (cb_Ob (cb_TM g 0) 297 7 [.ref (tb_ad g 298), .ref (tb_ad g 299), .ref (tb_ad g 300), .ref (tb_ad g 301), .int 0, .ref (tb_ad g 302), .int 0, .int 0, .ref (tb_ad g 303), .ref (tb_ad g 304), .ref (tb_ad g 305), .ref (tb_ad g 306), .ref (tb_ad g 307), .int 0, .ref (tb_ad g 308), .null, .int 0, .int 0, .int 0] E) H := hP
  refine lv_aload_n hx hb dX7_init_93 rfl (lv_at hl 0 rfl) ?_
  refine lv_bipush (v := 16) hx hb dX7_init_94 (by decide) ?_
  refine cb_newi F hP hS ka_int (by decide) (N := 16) (by decide) (by decide) (Nat.le_of_ble_eq_true rfl) (Nat.le_of_ble_eq_true rfl) dX7_init_96 (fun H hP hS => ?_)
  have hP : cb_P g 310 (cb_up (cb_Ob (cb_TM g 0) 297 7 [.ref (tb_ad g 298), .ref (tb_ad g 299), .ref (tb_ad g 300), .ref (tb_ad g 301), .int 0, .ref (tb_ad g 302), .int 0, .int 0, .ref (tb_ad g 303), .ref (tb_ad g 304), .ref (tb_ad g 305), .ref (tb_ad g 306), .ref (tb_ad g 307), .int 0, .ref (tb_ad g 308), .null, .int 0, .int 0, .int 0] E) 309 (.inl (g.2.1 0, 16, .inl (fun _ => 0)))) H := hP
  refine cb_putF F hin hP hS (q := 297) (fs := [.ref (tb_ad g 298), .ref (tb_ad g 299), .ref (tb_ad g 300), .ref (tb_ad g 301), .int 0, .ref (tb_ad g 302), .int 0, .int 0, .ref (tb_ad g 303), .ref (tb_ad g 304), .ref (tb_ad g 305), .ref (tb_ad g 306), .ref (tb_ad g 307), .int 0, .ref (tb_ad g 308), .null, .int 0, .int 0, .int 0]) (by omega) (by rw [cb_up_n (by omega), cb_Ob_p]) (ci := 7) rfl inlX7 tyX7 tyX7_ok nmX7 15 (by decide) rfl rfl rfl rfl (Nat.le_of_ble_eq_true rfl) kf_X7_44 dX7_init_98 (fun H locs hP hS => ?_)
  have hP := cb_o2 (by omega) (by unfold cb_TM; rw [cb_up_n (by omega), cb_Tar tb_l309 (by omega) (by omega)]) hP
  have hP : cb_P g 310 (cb_Ob (cb_TM g 0) 297 7 [.ref (tb_ad g 298), .ref (tb_ad g 299), .ref (tb_ad g 300), .ref (tb_ad g 301), .int 0, .ref (tb_ad g 302), .int 0, .int 0, .ref (tb_ad g 303), .ref (tb_ad g 304), .ref (tb_ad g 305), .ref (tb_ad g 306), .ref (tb_ad g 307), .int 0, .ref (tb_ad g 308), .ref (tb_ad g 309), .int 0, .int 0, .int 0] E) H := hP
  refine lv_iconst (v := 0) hx hb dX7_init_101 (by decide) ?_
  refine lv_istore_n (lv' := [(1, .int 0), (0, .ref (tb_ad g 297))]) hx hb dX7_init_102 rfl hl (by decide) rfl (fun ls hl => ?_)
  refine W.widen (k := 12) (n := 1873) (Nat.le_of_ble_eq_true rfl) (Nat.le_of_ble_eq_true rfl) ?_
  have loop : ∀ (k i : Nat), i + k = 8 → ∀ (H : Heap) (locs : List Loc) (ls : Array Slot), cb_P g 310 (cb_Ob (cb_TM g i) 297 7 [.ref (tb_ad g 298), .ref (tb_ad g 299), .ref (tb_ad g 300), .ref (tb_ad g 301), .int 0, .ref (tb_ad g 302), .int 0, .int 0, .ref (tb_ad g 303), .ref (tb_ad g 304), .ref (tb_ad g 305), .ref (tb_ad g 306), .ref (tb_ad g 307), .int 0, .ref (tb_ad g 308), .ref (tb_ad g 309), .int 0, .int 0, .int 0] E) H → va_S (tb_A g) s.heap H locs → lv_has ls 2 [(1, .int (nI i)), (0, .ref (tb_ad g 297))] → W P l e rmX7_init s m ([.ref (tb_ad g 297)] : List Value).toArray below meth c H locs 12 1873 (MQ below (cb_Q g 310 (cb_cut g 297 E)) ([.ref (tb_ad g 297)] : List Value).toArray s 12 1873 (tb_A g)) (F0 m 103 ls []) := by
    intro k
    induction k with
    | zero =>
      intro i hi H locs ls hP hS hl
      have hi : i = 8 := by omega
      subst hi
      refine lv_iload_n hx hb dX7_init_103 rfl (lv_at hl 0 rfl) ?_
      refine lv_bipush (v := 8) hx hb dX7_init_104 (by decide) ?_
      refine lv_icmp_ge (tgt := 122) hx hb dX7_init_106 (by decide) (fun c1 => ?_) (fun c1 => absurd (show nI 8 ≤ nI 8 from nI_le (by omega) (by omega)) c1)
      refine cb_vret F (cb_o5 ?_ (fun q h1 h2 => ?_) hP) hS (Nat.le_of_ble_eq_true rfl) (Nat.le_of_ble_eq_true rfl) dX7_init_122
      · unfold cb_T
        rw [tb_l297, cb_M0z (by omega) (by omega)]
        rfl
      · unfold cb_TM
        by_cases h3 : q = 298
        · subst h3
          rw [cb_up_s, cb_sz_8]
          unfold cb_T
          rw [tb_l298]
          rfl
        · rw [cb_up_n h3]
    | succ k ih =>
      intro i hi H locs ls hP hS hl
      refine lv_iload_n hx hb dX7_init_103 rfl (lv_at hl 0 rfl) ?_
      refine lv_bipush (v := 8) hx hb dX7_init_104 (by decide) ?_
      refine lv_icmp_ge (tgt := 122) hx hb dX7_init_106 (by decide) (fun c1 => absurd (show nI 8 ≤ nI i from c1) (nI_ge (by omega) (by omega))) (fun c1 => ?_)
      refine lv_aload_n hx hb dX7_init_109 rfl (lv_at hl 1 rfl) ?_
      refine cb_get F hP (q := 297) (by omega) (cb_Ob_p _ _ _ _ _) (ci := 7) rfl inlX7 0 (by decide) rfl kf_X7_7 dX7_init_110 ?_
      refine lv_iload_n hx hb dX7_init_113 rfl (lv_at hl 0 rfl) ?_
      refine lv_iconst (v := -1) hx hb dX7_init_114 (by decide) ?_
      refine cb_ist F hP hS (q := 298) (N := 8) (f := cb_sz i) (by omega) (by rw [cb_Ob_r (by omega)]; unfold cb_TM; rw [cb_up_s]) (k := i) (nI_clamp (by omega)) (nI_in (by omega) (by omega)) dX7_init_115 (fun H locs hP hS => ?_)
      have hP := cb_o6 (T' := cb_TM g (i + 1)) (by omega) (fun q h1 => by
        unfold cb_TM
        by_cases h3 : q = 298
        · subst h3
          rw [cb_up_s, cb_up_s, cb_sz_s]
        · rw [cb_up_n h3, cb_up_n h3, cb_up_n h3]) hP
      refine lv_iinc (v := nI (i + 1)) (lv' := [(1, .int (nI (i + 1))), (0, .ref (tb_ad g 297))]) hx hb dX7_init_116 hl (k := 0) rfl (nI_1 i) (by decide) rfl (fun ls hl => ?_)
      refine lv_goto (tgt := 103) hx hb dX7_init_119 (by decide) ?_
      exact ih (i + 1) (by omega) H locs ls hP hS hl
  exact loop 8 0 rfl H locs ls hP hS hl

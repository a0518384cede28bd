/-! contracts of the constructors -/
def cb_M0 : tb_Mem := fun q k => if 263 ≤ q ∧ q < 279 ∧ q % 2 = 1 ∧ k = 1 then 1 else if q = 298 ∧ k < 8 then -1 else 0
def cb_T (g : tb_GT) (q : Nat) : va_E := tb_cell g.2.1 (tb_ad g) (tb_lay q) (cb_M0 q)
def cb_cut (g : tb_GT) (p : Nat) (E : Nat → va_E) : Nat → va_E := fun q => if q < p then E q else cb_T g q
def cb_Ob (T : Nat → va_E) (p ci : Nat) (fs : List Value) (E : Nat → va_E) : Nat → va_E := fun q => if q < p then E q else if q = p then .inr (ci, fs) else T q
theorem cb_M0z {q : Nat} (h1 : q < 263 ∨ 279 ≤ q ∨ q % 2 = 0) (h2 : q ≠ 298) : cb_M0 q = fun _ => 0 := by
  funext k
  unfold cb_M0
  rw [if_neg (by omega), if_neg (by omega)]
theorem cb_M0r {q : Nat} (h1 : 263 ≤ q) (h2 : q < 279) (h3 : q % 2 = 1) : cb_M0 q = fun k => if k = 1 then 1 else 0 := by
  funext k
  unfold cb_M0
  by_cases hk : k = 1
  · rw [if_pos ⟨h1, h2, h3, hk⟩, if_pos hk]
  · rw [if_neg (by omega), if_neg (by omega), if_neg hk]
theorem cb_Ob_p (T : Nat → va_E) (p ci : Nat) (fs : List Value) (E : Nat → va_E) : cb_Ob T p ci fs E p = .inr (ci, fs) := by simp [cb_Ob]
theorem cb_Ob_r {T : Nat → va_E} {p ci r : Nat} {fs : List Value} {E : Nat → va_E} (h : p < r) : cb_Ob T p ci fs E r = T r := by
  unfold cb_Ob
  rw [if_neg (by omega), if_neg (by omega)]
theorem cb_o1 {g : tb_GT} {p ci n : Nat} {fs : List Value} {E : Nat → va_E} {H : Heap} (T : Nat → va_E) (hn : n = p + 1) (hE : E p = .inr (ci, fs)) (h : cb_P g n E H) : cb_P g n (cb_Ob T p ci fs E) H := by
  refine h.cg (fun q hq => ?_)
  unfold cb_Ob
  by_cases h1 : q < p
  · rw [if_pos h1]
  · have : q = p := by omega
    subst this
    rw [if_neg h1, if_pos rfl, hE]
theorem cb_o2 {g : tb_GT} {p ci n r : Nat} {fs fs' : List Value} {E T : Nat → va_E} {e : va_E} {H : Heap} (hr : p < r) (hT : T r = e) (h : cb_P g n (cb_up (cb_up (cb_Ob T p ci fs E) r e) p (.inr (ci, fs'))) H) : cb_P g n (cb_Ob T p ci fs' E) H := by
  refine h.cg (fun q hq => ?_)
  unfold cb_Ob cb_up
  dsimp only
  by_cases h1 : q < p
  · rw [if_neg (by omega), if_neg (by omega), if_pos h1, if_pos h1]
  · by_cases h2 : q = p
    · rw [if_pos h2, if_neg h1, if_pos h2]
    · rw [if_neg h2, if_neg h1, if_neg h2, if_neg h1, if_neg h2]
      by_cases h3 : q = r
      · rw [if_pos h3, h3, hT]
      · rw [if_neg h3]
theorem cb_o3 {g : tb_GT} {p ci n r : Nat} {fs : List Value} {E T : Nat → va_E} {e : va_E} {H : Heap} (hr : p < r) (hT : ∀ q, r ≤ q → q < n → cb_T g q = T q) (h : cb_P g n (cb_cut g r (cb_up (cb_Ob T p ci fs E) r e)) H) : cb_P g n (cb_Ob T p ci fs E) H := by
  refine h.cg (fun q hq => ?_)
  unfold cb_cut
  by_cases h1 : q < r
  · rw [if_pos h1, cb_up_n (by omega)]
  · rw [if_neg h1, cb_Ob_r (by omega), hT q (by omega) hq]
theorem cb_o4 {g : tb_GT} {p ci n : Nat} {fs fs' : List Value} {E T : Nat → va_E} {H : Heap} (h : cb_P g n (cb_up (cb_Ob T p ci fs E) p (.inr (ci, fs'))) H) : cb_P g n (cb_Ob T p ci fs' E) H := by
  refine h.cg (fun q hq => ?_)
  unfold cb_Ob cb_up
  dsimp only
  by_cases h1 : q < p
  · rw [if_neg (by omega), if_pos h1, if_pos h1]
  · by_cases h2 : q = p
    · rw [if_pos h2, if_neg h1, if_pos h2]
    · rw [if_neg h2, if_neg h1, if_neg h2, if_neg h1, if_neg h2]
theorem cb_o5 {g : tb_GT} {p ci n : Nat} {fs : List Value} {E T : Nat → va_E} {H : Heap} (hp : cb_T g p = .inr (ci, fs)) (hT : ∀ q, p < q → q < n → T q = cb_T g q) (h : cb_P g n (cb_Ob T p ci fs E) H) : cb_P g n (cb_cut g p E) H := by
  refine h.cg (fun q hq => ?_)
  unfold cb_Ob cb_cut
  by_cases h1 : q < p
  · rw [if_pos h1, if_pos h1]
  · rw [if_neg h1, if_neg h1]
    by_cases h2 : q = p
    · rw [if_pos h2, h2, hp]
    · rw [if_neg h2]
      exact hT q (by omega) hq
theorem cb_o6 {g : tb_GT} {p ci n r : Nat} {fs : List Value} {E T T' : Nat → va_E} {e : va_E} {H : Heap} (hr : p < r) (hT : ∀ q, p < q → cb_up T r e q = T' q) (h : cb_P g n (cb_up (cb_Ob T p ci fs E) r e) H) : cb_P g n (cb_Ob T' p ci fs E) H := by
  refine h.cg (fun q hq => ?_)
  by_cases h0 : p < q
  · rw [cb_Ob_r h0, ← hT q h0]
    by_cases h3 : q = r
    · rw [h3, cb_up_s, cb_up_s]
    · rw [cb_up_n h3, cb_up_n h3, cb_Ob_r h0]
  · rw [cb_up_n (by omega)]
    unfold cb_Ob
    by_cases h1 : q < p
    · rw [if_pos h1, if_pos h1]
    · rw [if_neg h1, if_neg h1, if_pos (by omega), if_pos (by omega)]
def cb_pt (g : tb_GT) (a d i : Nat) : Nat → Option Nat := fun j => if j < i then some (tb_ad g (a + d * j)) else none
theorem cb_pt_0 (g : tb_GT) (a d : Nat) : cb_pt g a d 0 = fun _ => none := by
  funext j
  unfold cb_pt
  rw [if_neg (by omega)]
theorem cb_pt_s (g : tb_GT) (a d i : Nat) : va_up (cb_pt g a d i) i (some (tb_ad g (a + d * i))) = cb_pt g a d (i + 1) := by
  funext j
  unfold cb_pt va_up
  dsimp only
  by_cases h1 : j = i
  · subst h1; rw [if_pos rfl, if_pos (by omega)]
  · rw [if_neg h1]
    by_cases h2 : j < i
    · rw [if_pos h2, if_pos (by omega)]
    · rw [if_neg h2, if_neg (by omega)]
theorem cb_pt_e {g : tb_GT} {a d N : Nat} {L : List Nat} (hl : L.length = N) (h : ∀ {i}, i < N → L[i]? = some (a + d * i)) : cb_pt g a d N = fun j => (L[j]?).map (tb_ad g) := by
  funext j
  unfold cb_pt
  by_cases hj : j < N
  · rw [if_pos hj, h hj]; rfl
  · rw [if_neg hj, List.getElem?_eq_none (by omega)]; rfl
theorem cb_Tar {g : tb_GT} {q n : Nat} (hl : tb_lay q = tb_ar n) (h1 : q < 263 ∨ 279 ≤ q ∨ q % 2 = 0) (h2 : q ≠ 298) : cb_T g q = .inl (g.2.1 0, n, .inl (fun _ => 0)) := by
  unfold cb_T
  rw [hl, cb_M0z h1 h2]
  rfl

abbrev bf0 : List Value := [.null, .int 0, .int 0]
theorem bf0_ok : ∀ j, j < 3 → defaultValue (tyX0 j) = vp_V bf0 j := by
  intro j hj
  rcases (show j = 0 ∨ j = 1 ∨ j = 2 by omega) with rfl | rfl | rfl <;> rfl
abbrev bf1 : List Value := [.null, .int 0]
theorem bf1_ok : ∀ j, j < 2 → defaultValue (tyX1 j) = vp_V bf1 j := by
  intro j hj
  rcases (show j = 0 ∨ j = 1 by omega) with rfl | rfl <;> rfl
abbrev bf2 : List Value := [.null, .null, .null, .null, .null, .null, .null, .null, .int 0, .int 0, .int 0, .int 0, .int 0]
theorem bf2_ok : ∀ j, j < 13 → defaultValue (tyX2 j) = vp_V bf2 j := by
  intro j hj
  rcases (show j = 0 ∨ j = 1 ∨ j = 2 ∨ j = 3 ∨ j = 4 ∨ j = 5 ∨ j = 6 ∨ j = 7 ∨ j = 8 ∨ j = 9 ∨ j = 10 ∨ j = 11 ∨ j = 12 by omega) with rfl | rfl | rfl | rfl | rfl | rfl | rfl | rfl | rfl | rfl | rfl | rfl | rfl <;> rfl
abbrev bf3 : List Value := [.null, .null, .null, .int 0, .int 0]
theorem bf3_ok : ∀ j, j < 5 → defaultValue (tyX3 j) = vp_V bf3 j := by
  intro j hj
  rcases (show j = 0 ∨ j = 1 ∨ j = 2 ∨ j = 3 ∨ j = 4 by omega) with rfl | rfl | rfl | rfl | rfl <;> rfl
abbrev bf4 : List Value := [.null, .int 0, .int 0, .int 0]
theorem bf4_ok : ∀ j, j < 4 → defaultValue (tyX4 j) = vp_V bf4 j := by
  intro j hj
  rcases (show j = 0 ∨ j = 1 ∨ j = 2 ∨ j = 3 by omega) with rfl | rfl | rfl | rfl <;> rfl
abbrev bf5 : List Value := [.null, .int 0, .int 0]
theorem bf5_ok : ∀ j, j < 3 → defaultValue (tyX5 j) = vp_V bf5 j := by
  intro j hj
  rcases (show j = 0 ∨ j = 1 ∨ j = 2 by omega) with rfl | rfl | rfl <;> rfl
abbrev bf6 : List Value := [.null, .null, .null, .null, .null, .null, .null, .null, .int 0, .int 0]
theorem bf6_ok : ∀ j, j < 10 → defaultValue (tyX6 j) = vp_V bf6 j := by
  intro j hj
  rcases (show j = 0 ∨ j = 1 ∨ j = 2 ∨ j = 3 ∨ j = 4 ∨ j = 5 ∨ j = 6 ∨ j = 7 ∨ j = 8 ∨ j = 9 by omega) with rfl | rfl | rfl | rfl | rfl | rfl | rfl | rfl | rfl | rfl <;> rfl
abbrev bf7 : List Value := [.null, .null, .null, .null, .int 0, .null, .int 0, .int 0, .null, .null, .null, .null, .null, .int 0, .null, .null, .int 0, .int 0, .int 0]
theorem bf7_ok : ∀ j, j < 19 → defaultValue (tyX7 j) = vp_V bf7 j := by
  intro j hj
  rcases (show j = 0 ∨ j = 1 ∨ j = 2 ∨ j = 3 ∨ j = 4 ∨ j = 5 ∨ j = 6 ∨ j = 7 ∨ j = 8 ∨ j = 9 ∨ j = 10 ∨ j = 11 ∨ j = 12 ∨ j = 13 ∨ j = 14 ∨ j = 15 ∨ j = 16 ∨ j = 17 ∨ j = 18 by omega) with rfl | rfl | rfl | rfl | rfl | rfl | rfl | rfl | rfl | rfl | rfl | rfl | rfl | rfl | rfl | rfl | rfl | rfl | rfl <;> rfl
abbrev rmX2_init : Room := { frames := 1, cells := 8, slots := 76, locals := 12 }
set_option maxHeartbeats 4000000 in
set_option maxRecDepth 100000 in
theorem uX2_init (g : tb_GT) (b0 : Nat) (hg : cb_g g b0) (l : Launch) (p : Nat) (hB : tb_B p) (hp : p + 9 ≤ 263 ∨ (279 ≤ p ∧ p + 9 ≤ 298)) (E : Nat → va_E) (hE : E p = .inr (2, bf2)) : cb_C g l yX2_init (Cond.code yX2_init cX2_init 1 none) rmX2_init [.ref (tb_ad g p)] (p + 1) (p + 9) E (cb_cut g p E) 8 76 := by
  refine cb_entry hg (by decide) (Nat.le_of_ble_eq_true rfl) rfl ?_
  intro P e s m below meth c F hin hP hS ls hl
  have F : cb_F g b0 cX2_init 1 RX2 none (Cond.code yX2_init cX2_init 1 none) P s m ([.ref (tb_ad g p)] : List Value).toArray meth c := F
  have hx := F.1.1.1
  have hb := F.1.1.2.1
  have hl : lv_has ls 1 [(0, .ref (tb_ad g p))] := hl
  refine lv_aload_n hx hb dX2_init_0 rfl (lv_at hl 0 rfl) ?_
  refine cb_obj F hl.1 km_X2_3 ko_inst ko_code (Nat.le_of_ble_eq_true rfl) (Nat.le_of_ble_eq_true rfl) dX2_init_1 ?_
  have hP := cb_o1 (cb_T g) rfl hE hP
  refine lv_aload_n hx hb dX2_init_4 rfl (lv_at hl 0 rfl) ?_
  refine lv_bipush (v := 8) hx hb dX2_init_5 (by decide) ?_
  refine cb_newi F hP hS ka_int (by decide) (N := 8) (by decide) (by decide) (Nat.le_of_ble_eq_true rfl) (Nat.le_of_ble_eq_true rfl) dX2_init_7 (fun H hP hS => ?_)
  have hP : cb_P g (p + 2) (cb_up (cb_Ob (cb_T g) p 2 [.null, .null, .null, .null, .null, .null, .null, .null, .int 0, .int 0, .int 0, .int 0, .int 0] E) (p + 1) (.inl (g.2.1 0, 8, .inl (fun _ => 0)))) H := hP
  refine cb_putF F hin hP hS (q := p) (fs := [.null, .null, .null, .null, .null, .null, .null, .null, .int 0, .int 0, .int 0, .int 0, .int 0]) (by omega) (by rw [cb_up_n (by omega), cb_Ob_p]) (ci := 2) rfl inlX2 tyX2 tyX2_ok nmX2 0 (by decide) rfl rfl rfl rfl (Nat.le_of_ble_eq_true rfl) kf_X2_9 dX2_init_9 (fun H locs hP hS => ?_)
  have hP := cb_o2 (by omega) (cb_Tar hB.2.1 (by omega) (by omega)) hP
  have hP : cb_P g (p + 2) (cb_Ob (cb_T g) p 2 [.ref (tb_ad g (p + 1)), .null, .null, .null, .null, .null, .null, .null, .int 0, .int 0, .int 0, .int 0, .int 0] E) H := hP
  refine lv_aload_n hx hb dX2_init_12 rfl (lv_at hl 0 rfl) ?_
  refine lv_bipush (v := 8) hx hb dX2_init_13 (by decide) ?_
  refine cb_newi F hP hS ka_int (by decide) (N := 8) (by decide) (by decide) (Nat.le_of_ble_eq_true rfl) (Nat.le_of_ble_eq_true rfl) dX2_init_15 (fun H hP hS => ?_)
  have hP : cb_P g (p + 3) (cb_up (cb_Ob (cb_T g) p 2 [.ref (tb_ad g (p + 1)), .null, .null, .null, .null, .null, .null, .null, .int 0, .int 0, .int 0, .int 0, .int 0] E) (p + 2) (.inl (g.2.1 0, 8, .inl (fun _ => 0)))) H := hP
  refine cb_putF F hin hP hS (q := p) (fs := [.ref (tb_ad g (p + 1)), .null, .null, .null, .null, .null, .null, .null, .int 0, .int 0, .int 0, .int 0, .int 0]) (by omega) (by rw [cb_up_n (by omega), cb_Ob_p]) (ci := 2) rfl inlX2 tyX2 tyX2_ok nmX2 1 (by decide) rfl rfl rfl rfl (Nat.le_of_ble_eq_true rfl) kf_X2_15 dX2_init_17 (fun H locs hP hS => ?_)
  have hP := cb_o2 (by omega) (cb_Tar hB.2.2.1 (by omega) (by omega)) hP
  have hP : cb_P g (p + 3) (cb_Ob (cb_T g) p 2 [.ref (tb_ad g (p + 1)), .ref (tb_ad g (p + 2)), .null, .null, .null, .null, .null, .null, .int 0, .int 0, .int 0, .int 0, .int 0] E) H := hP
  refine lv_aload_n hx hb dX2_init_20 rfl (lv_at hl 0 rfl) ?_
  refine lv_bipush (v := 8) hx hb dX2_init_21 (by decide) ?_
  refine cb_newi F hP hS ka_int (by decide) (N := 8) (by decide) (by decide) (Nat.le_of_ble_eq_true rfl) (Nat.le_of_ble_eq_true rfl) dX2_init_23 (fun H hP hS => ?_)
  have hP : cb_P g (p + 4) (cb_up (cb_Ob (cb_T g) p 2 [.ref (tb_ad g (p + 1)), .ref (tb_ad g (p + 2)), .null, .null, .null, .null, .null, .null, .int 0, .int 0, .int 0, .int 0, .int 0] E) (p + 3) (.inl (g.2.1 0, 8, .inl (fun _ => 0)))) H := hP
  refine cb_putF F hin hP hS (q := p) (fs := [.ref (tb_ad g (p + 1)), .ref (tb_ad g (p + 2)), .null, .null, .null, .null, .null, .null, .int 0, .int 0, .int 0, .int 0, .int 0]) (by omega) (by rw [cb_up_n (by omega), cb_Ob_p]) (ci := 2) rfl inlX2 tyX2 tyX2_ok nmX2 2 (by decide) rfl rfl rfl rfl (Nat.le_of_ble_eq_true rfl) kf_X2_18 dX2_init_25 (fun H locs hP hS => ?_)
  have hP := cb_o2 (by omega) (cb_Tar hB.2.2.2.1 (by omega) (by omega)) hP
  have hP : cb_P g (p + 4) (cb_Ob (cb_T g) p 2 [.ref (tb_ad g (p + 1)), .ref (tb_ad g (p + 2)), .ref (tb_ad g (p + 3)), .null, .null, .null, .null, .null, .int 0, .int 0, .int 0, .int 0, .int 0] E) H := hP
  refine lv_aload_n hx hb dX2_init_28 rfl (lv_at hl 0 rfl) ?_
  refine lv_bipush (v := 8) hx hb dX2_init_29 (by decide) ?_
  refine cb_newi F hP hS ka_int (by decide) (N := 8) (by decide) (by decide) (Nat.le_of_ble_eq_true rfl) (Nat.le_of_ble_eq_true rfl) dX2_init_31 (fun H hP hS => ?_)
  have hP : cb_P g (p + 5) (cb_up (cb_Ob (cb_T g) p 2 [.ref (tb_ad g (p + 1)), .ref (tb_ad g (p + 2)), .ref (tb_ad g (p + 3)), .null, .null, .null, .null, .null, .int 0, .int 0, .int 0, .int 0, .int 0] E) (p + 4) (.inl (g.2.1 0, 8, .inl (fun _ => 0)))) H := hP
  refine cb_putF F hin hP hS (q := p) (fs := [.ref (tb_ad g (p + 1)), .ref (tb_ad g (p + 2)), .ref (tb_ad g (p + 3)), .null, .null, .null, .null, .null, .int 0, .int 0, .int 0, .int 0, .int 0]) (by omega) (by rw [cb_up_n (by omega), cb_Ob_p]) (ci := 2) rfl inlX2 tyX2 tyX2_ok nmX2 3 (by decide) rfl rfl rfl rfl (Nat.le_of_ble_eq_true rfl) kf_X2_21 dX2_init_33 (fun H locs hP hS => ?_)
  have hP := cb_o2 (by omega) (cb_Tar hB.2.2.2.2.1 (by omega) (by omega)) hP
  have hP : cb_P g (p + 5) (cb_Ob (cb_T g) p 2 [.ref (tb_ad g (p + 1)), .ref (tb_ad g (p + 2)), .ref (tb_ad g (p + 3)), .ref (tb_ad g (p + 4)), .null, .null, .null, .null, .int 0, .int 0, .int 0, .int 0, .int 0] E) H := hP
  refine lv_aload_n hx hb dX2_init_36 rfl (lv_at hl 0 rfl) ?_
  refine lv_bipush (v := 8) hx hb dX2_init_37 (by decide) ?_
  refine cb_newi F hP hS ka_int (by decide) (N := 8) (by decide) (by decide) (Nat.le_of_ble_eq_true rfl) (Nat.le_of_ble_eq_true rfl) dX2_init_39 (fun H hP hS => ?_)
  have hP : cb_P g (p + 6) (cb_up (cb_Ob (cb_T g) p 2 [.ref (tb_ad g (p + 1)), .ref (tb_ad g (p + 2)), .ref (tb_ad g (p + 3)), .ref (tb_ad g (p + 4)), .null, .null, .null, .null, .int 0, .int 0, .int 0, .int 0, .int 0] E) (p + 5) (.inl (g.2.1 0, 8, .inl (fun _ => 0)))) H := hP
  refine cb_putF F hin hP hS (q := p) (fs := [.ref (tb_ad g (p + 1)), .ref (tb_ad g (p + 2)), .ref (tb_ad g (p + 3)), .ref (tb_ad g (p + 4)), .null, .null, .null, .null, .int 0, .int 0, .int 0, .int 0, .int 0]) (by omega) (by rw [cb_up_n (by omega), cb_Ob_p]) (ci := 2) rfl inlX2 tyX2 tyX2_ok nmX2 4 (by decide) rfl rfl rfl rfl (Nat.le_of_ble_eq_true rfl) kf_X2_24 dX2_init_41 (fun H locs hP hS => ?_)
  have hP := cb_o2 (by omega) (cb_Tar hB.2.2.2.2.2.1 (by omega) (by omega)) hP
  have hP : cb_P g (p + 6) (cb_Ob (cb_T g) p 2 [.ref (tb_ad g (p + 1)), .ref (tb_ad g (p + 2)), .ref (tb_ad g (p + 3)), .ref (tb_ad g (p + 4)), .ref (tb_ad g (p + 5)), .null, .null, .null, .int 0, .int 0, .int 0, .int 0, .int 0] E) H := hP
  refine lv_aload_n hx hb dX2_init_44 rfl (lv_at hl 0 rfl) ?_
  refine lv_bipush (v := 8) hx hb dX2_init_45 (by decide) ?_
  refine cb_newi F hP hS ka_int (by decide) (N := 8) (by decide) (by decide) (Nat.le_of_ble_eq_true rfl) (Nat.le_of_ble_eq_true rfl) dX2_init_47 (fun H hP hS => ?_)
  have hP : cb_P g (p + 7) (cb_up (cb_Ob (cb_T g) p 2 [.ref (tb_ad g (p + 1)), .ref (tb_ad g (p + 2)), .ref (tb_ad g (p + 3)), .ref (tb_ad g (p + 4)), .ref (tb_ad g (p + 5)), .null, .null, .null, .int 0, .int 0, .int 0, .int 0, .int 0] E) (p + 6) (.inl (g.2.1 0, 8, .inl (fun _ => 0)))) H := hP
  refine cb_putF F hin hP hS (q := p) (fs := [.ref (tb_ad g (p + 1)), .ref (tb_ad g (p + 2)), .ref (tb_ad g (p + 3)), .ref (tb_ad g (p + 4)), .ref (tb_ad g (p + 5)), .null, .null, .null, .int 0, .int 0, .int 0, .int 0, .int 0]) (by omega) (by rw [cb_up_n (by omega), cb_Ob_p]) (ci := 2) rfl inlX2 tyX2 tyX2_ok nmX2 5 (by decide) rfl rfl rfl rfl (Nat.le_of_ble_eq_true rfl) kf_X2_27 dX2_init_49 (fun H locs hP hS => ?_)
  have hP := cb_o2 (by omega) (cb_Tar hB.2.2.2.2.2.2.1 (by omega) (by omega)) hP
  have hP : cb_P g (p + 7) (cb_Ob (cb_T g) p 2 [.ref (tb_ad g (p + 1)), .ref (tb_ad g (p + 2)), .ref (tb_ad g (p + 3)), .ref (tb_ad g (p + 4)), .ref (tb_ad g (p + 5)), .ref (tb_ad g (p + 6)), .null, .null, .int 0, .int 0, .int 0, .int 0, .int 0] E) H := hP
  refine lv_aload_n hx hb dX2_init_52 rfl (lv_at hl 0 rfl) ?_
  refine lv_bipush (v := 8) hx hb dX2_init_53 (by decide) ?_
  refine cb_newi F hP hS ka_int (by decide) (N := 8) (by decide) (by decide) (Nat.le_of_ble_eq_true rfl) (Nat.le_of_ble_eq_true rfl) dX2_init_55 (fun H hP hS => ?_)
  have hP : cb_P g (p + 8) (cb_up (cb_Ob (cb_T g) p 2 [.ref (tb_ad g (p + 1)), .ref (tb_ad g (p + 2)), .ref (tb_ad g (p + 3)), .ref (tb_ad g (p + 4)), .ref (tb_ad g (p + 5)), .ref (tb_ad g (p + 6)), .null, .null, .int 0, .int 0, .int 0, .int 0, .int 0] E) (p + 7) (.inl (g.2.1 0, 8, .inl (fun _ => 0)))) H := hP
  refine cb_putF F hin hP hS (q := p) (fs := [.ref (tb_ad g (p + 1)), .ref (tb_ad g (p + 2)), .ref (tb_ad g (p + 3)), .ref (tb_ad g (p + 4)), .ref (tb_ad g (p + 5)), .ref (tb_ad g (p + 6)), .null, .null, .int 0, .int 0, .int 0, .int 0, .int 0]) (by omega) (by rw [cb_up_n (by omega), cb_Ob_p]) (ci := 2) rfl inlX2 tyX2 tyX2_ok nmX2 6 (by decide) rfl rfl rfl rfl (Nat.le_of_ble_eq_true rfl) kf_X2_30 dX2_init_57 (fun H locs hP hS => ?_)
  have hP := cb_o2 (by omega) (cb_Tar hB.2.2.2.2.2.2.2.1 (by omega) (by omega)) hP
  have hP : cb_P g (p + 8) (cb_Ob (cb_T g) p 2 [.ref (tb_ad g (p + 1)), .ref (tb_ad g (p + 2)), .ref (tb_ad g (p + 3)), .ref (tb_ad g (p + 4)), .ref (tb_ad g (p + 5)), .ref (tb_ad g (p + 6)), .ref (tb_ad g (p + 7)), .null, .int 0, .int 0, .int 0, .int 0, .int 0] E) H := hP
  refine lv_aload_n hx hb dX2_init_60 rfl (lv_at hl 0 rfl) ?_
  refine lv_bipush (v := 20) hx hb dX2_init_61 (by decide) ?_
  refine cb_newi F hP hS ka_int (by decide) (N := 20) (by decide) (by decide) (Nat.le_of_ble_eq_true rfl) (Nat.le_of_ble_eq_true rfl) dX2_init_63 (fun H hP hS => ?_)
  have hP : cb_P g (p + 9) (cb_up (cb_Ob (cb_T g) p 2 [.ref (tb_ad g (p + 1)), .ref (tb_ad g (p + 2)), .ref (tb_ad g (p + 3)), .ref (tb_ad g (p + 4)), .ref (tb_ad g (p + 5)), .ref (tb_ad g (p + 6)), .ref (tb_ad g (p + 7)), .null, .int 0, .int 0, .int 0, .int 0, .int 0] E) (p + 8) (.inl (g.2.1 0, 20, .inl (fun _ => 0)))) H := hP
  refine cb_putF F hin hP hS (q := p) (fs := [.ref (tb_ad g (p + 1)), .ref (tb_ad g (p + 2)), .ref (tb_ad g (p + 3)), .ref (tb_ad g (p + 4)), .ref (tb_ad g (p + 5)), .ref (tb_ad g (p + 6)), .ref (tb_ad g (p + 7)), .null, .int 0, .int 0, .int 0, .int 0, .int 0]) (by omega) (by rw [cb_up_n (by omega), cb_Ob_p]) (ci := 2) rfl inlX2 tyX2 tyX2_ok nmX2 7 (by decide) rfl rfl rfl rfl (Nat.le_of_ble_eq_true rfl) kf_X2_33 dX2_init_65 (fun H locs hP hS => ?_)
  have hP := cb_o2 (by omega) (cb_Tar hB.2.2.2.2.2.2.2.2 (by omega) (by omega)) hP
  have hP : cb_P g (p + 9) (cb_Ob (cb_T g) p 2 [.ref (tb_ad g (p + 1)), .ref (tb_ad g (p + 2)), .ref (tb_ad g (p + 3)), .ref (tb_ad g (p + 4)), .ref (tb_ad g (p + 5)), .ref (tb_ad g (p + 6)), .ref (tb_ad g (p + 7)), .ref (tb_ad g (p + 8)), .int 0, .int 0, .int 0, .int 0, .int 0] E) H := hP
  refine cb_vret F (cb_o5 ?_ (fun q _ _ => rfl) hP) hS (Nat.le_of_ble_eq_true rfl) (Nat.le_of_ble_eq_true rfl) dX2_init_68
  unfold cb_T
  rw [hB.1, cb_M0z (by omega) (by omega)]
  rfl
abbrev rmX5_init : Room := { frames := 1, cells := 1, slots := 60, locals := 12 }
set_option maxHeartbeats 4000000 in
set_option maxRecDepth 100000 in
theorem uX5_init (g : tb_GT) (b0 : Nat) (hg : cb_g g b0) (l : Launch) (E : Nat → va_E) (hE : E 2 = .inr (5, bf5)) : cb_C g l yX5_init (Cond.code yX5_init cX5_init 1 none) rmX5_init [.ref (tb_ad g 2)] 3 4 E (cb_cut g 2 E) 1 60 := by
  refine cb_entry hg (by decide) (Nat.le_of_ble_eq_true rfl) rfl ?_
  intro P e s m below meth c F hin hP hS ls hl
  have F : cb_F g b0 cX5_init 1 RX5 none (Cond.code yX5_init cX5_init 1 none) P s m ([.ref (tb_ad g 2)] : List Value).toArray meth c := F
  have hx := F.1.1.1
  have hb := F.1.1.2.1
  have hl : lv_has ls 1 [(0, .ref (tb_ad g 2))] := hl
  refine lv_aload_n hx hb dX5_init_0 rfl (lv_at hl 0 rfl) ?_
  refine cb_obj F hl.1 km_X5_3 ko_inst ko_code (Nat.le_of_ble_eq_true rfl) (Nat.le_of_ble_eq_true rfl) dX5_init_1 ?_
  have hP := cb_o1 (cb_T g) rfl hE hP
  refine lv_aload_n hx hb dX5_init_4 rfl (lv_at hl 0 rfl) ?_
  refine lv_bipush (v := 60) hx hb dX5_init_5 (by decide) ?_
  refine cb_newi F hP hS ka_int (by decide) (N := 60) (by decide) (by decide) (Nat.le_of_ble_eq_true rfl) (Nat.le_of_ble_eq_true rfl) dX5_init_7 (fun H hP hS => ?_)
  have hP : cb_P g 4 (cb_up (cb_Ob (cb_T g) 2 5 [.null, .int 0, .int 0] E) 3 (.inl (g.2.1 0, 60, .inl (fun _ => 0)))) H := hP
  refine cb_putF F hin hP hS (q := 2) (fs := [.null, .int 0, .int 0]) (by omega) (by rw [cb_up_n (by omega), cb_Ob_p]) (ci := 5) rfl inlX5 tyX5 tyX5_ok nmX5 0 (by decide) rfl rfl rfl rfl (Nat.le_of_ble_eq_true rfl) kf_X5_9 dX5_init_9 (fun H locs hP hS => ?_)
  have hP := cb_o2 (by omega) (cb_Tar tb_l3 (by omega) (by omega)) hP
  refine cb_vret F (cb_o5 ?_ (fun q _ _ => rfl) hP) hS (Nat.le_of_ble_eq_true rfl) (Nat.le_of_ble_eq_true rfl) dX5_init_12
  unfold cb_T
  rw [tb_l2, cb_M0z (by omega) (by omega)]
  rfl
abbrev rmX1_init : Room := { frames := 1, cells := 1, slots := 16, locals := 12 }
set_option maxHeartbeats 4000000 in
set_option maxRecDepth 100000 in
theorem uX1_init (g : tb_GT) (b0 : Nat) (hg : cb_g g b0) (l : Launch) (E : Nat → va_E) (hE : E 261 = .inr (1, bf1)) : cb_C g l yX1_init (Cond.code yX1_init cX1_init 1 none) rmX1_init [.ref (tb_ad g 261)] 262 263 E (cb_cut g 261 E) 1 16 := by
  refine cb_entry hg (by decide) (Nat.le_of_ble_eq_true rfl) rfl ?_
  intro P e s m below meth c F hin hP hS ls hl
  have F : cb_F g b0 cX1_init 1 RX1 none (Cond.code yX1_init cX1_init 1 none) P s m ([.ref (tb_ad g 261)] : List Value).toArray meth c := F
  have hx := F.1.1.1
  have hb := F.1.1.2.1
  have hl : lv_has ls 1 [(0, .ref (tb_ad g 261))] := hl
  refine lv_aload_n hx hb dX1_init_0 rfl (lv_at hl 0 rfl) ?_
  refine cb_obj F hl.1 km_X1_1 ko_inst ko_code (Nat.le_of_ble_eq_true rfl) (Nat.le_of_ble_eq_true rfl) dX1_init_1 ?_
  have hP := cb_o1 (cb_T g) rfl hE hP
  refine lv_aload_n hx hb dX1_init_4 rfl (lv_at hl 0 rfl) ?_
  refine lv_bipush (v := 16) hx hb dX1_init_5 (by decide) ?_
  refine cb_newi F hP hS ka_int (by decide) (N := 16) (by decide) (by decide) (Nat.le_of_ble_eq_true rfl) (Nat.le_of_ble_eq_true rfl) dX1_init_7 (fun H hP hS => ?_)
  have hP : cb_P g 263 (cb_up (cb_Ob (cb_T g) 261 1 [.null, .int 0] E) 262 (.inl (g.2.1 0, 16, .inl (fun _ => 0)))) H := hP
  refine cb_putF F hin hP hS (q := 261) (fs := [.null, .int 0]) (by omega) (by rw [cb_up_n (by omega), cb_Ob_p]) (ci := 1) rfl inlX1 tyX1 tyX1_ok nmX1 0 (by decide) rfl rfl rfl rfl (Nat.le_of_ble_eq_true rfl) kf_X1_9 dX1_init_9 (fun H locs hP hS => ?_)
  have hP := cb_o2 (by omega) (cb_Tar tb_l262 (by omega) (by omega)) hP
  refine cb_vret F (cb_o5 ?_ (fun q _ _ => rfl) hP) hS (Nat.le_of_ble_eq_true rfl) (Nat.le_of_ble_eq_true rfl) dX1_init_12
  unfold cb_T
  rw [tb_l261, cb_M0z (by omega) (by omega)]
  rfl
abbrev rmX4_init : Room := { frames := 1, cells := 1, slots := 40, locals := 12 }
set_option maxHeartbeats 4000000 in
set_option maxRecDepth 100000 in
theorem uX4_init (g : tb_GT) (b0 : Nat) (hg : cb_g g b0) (l : Launch) (p : Nat) (hB : tb_R p) (hp : 263 ≤ p ∧ p < 279 ∧ p % 2 = 1) (E : Nat → va_E) (hE : E p = .inr (4, bf4)) : cb_C g l yX4_init (Cond.code yX4_init cX4_init 1 none) rmX4_init [.ref (tb_ad g p)] (p + 1) (p + 2) E (cb_cut g p E) 1 40 := by
  refine cb_entry hg (by decide) (Nat.le_of_ble_eq_true rfl) rfl ?_
  intro P e s m below meth c F hin hP hS ls hl
  have F : cb_F g b0 cX4_init 1 RX4 none (Cond.code yX4_init cX4_init 1 none) P s m ([.ref (tb_ad g p)] : List Value).toArray meth c := F
  have hx := F.1.1.1
  have hb := F.1.1.2.1
  have hl : lv_has ls 1 [(0, .ref (tb_ad g p))] := hl
  refine lv_aload_n hx hb dX4_init_0 rfl (lv_at hl 0 rfl) ?_
  refine cb_obj F hl.1 km_X4_3 ko_inst ko_code (Nat.le_of_ble_eq_true rfl) (Nat.le_of_ble_eq_true rfl) dX4_init_1 ?_
  have hP := cb_o1 (cb_T g) rfl hE hP
  refine lv_aload_n hx hb dX4_init_4 rfl (lv_at hl 0 rfl) ?_
  refine lv_bipush (v := 40) hx hb dX4_init_5 (by decide) ?_
  refine cb_newi F hP hS ka_int (by decide) (N := 40) (by decide) (by decide) (Nat.le_of_ble_eq_true rfl) (Nat.le_of_ble_eq_true rfl) dX4_init_7 (fun H hP hS => ?_)
  have hP : cb_P g (p + 2) (cb_up (cb_Ob (cb_T g) p 4 [.null, .int 0, .int 0, .int 0] E) (p + 1) (.inl (g.2.1 0, 40, .inl (fun _ => 0)))) H := hP
  refine cb_putF F hin hP hS (q := p) (fs := [.null, .int 0, .int 0, .int 0]) (by omega) (by rw [cb_up_n (by omega), cb_Ob_p]) (ci := 4) rfl inlX4 tyX4 tyX4_ok nmX4 0 (by decide) rfl rfl rfl rfl (Nat.le_of_ble_eq_true rfl) kf_X4_9 dX4_init_9 (fun H locs hP hS => ?_)
  have hP := cb_o2 (by omega) (cb_Tar hB.2 (by omega) (by omega)) hP
  have hP : cb_P g (p + 2) (cb_Ob (cb_T g) p 4 [.ref (tb_ad g (p + 1)), .int 0, .int 0, .int 0] E) H := hP
  refine lv_aload_n hx hb dX4_init_12 rfl (lv_at hl 0 rfl) ?_
  refine lv_iconst (v := 1) hx hb dX4_init_13 (by decide) ?_
  refine cb_put F hP hS (q := p) (fs := [.ref (tb_ad g (p + 1)), .int 0, .int 0, .int 0]) (by omega) (by rw [cb_Ob_p]) (ci := 4) rfl inlX4 tyX4 tyX4_ok nmX4 1 (by decide) rfl rfl rfl (Nat.le_of_ble_eq_true rfl) kf_X4_15 dX4_init_14 (fun H locs hP hS => ?_)
  have hP := cb_o4 hP
  refine cb_vret F (cb_o5 ?_ (fun q _ _ => rfl) hP) hS (Nat.le_of_ble_eq_true rfl) (Nat.le_of_ble_eq_true rfl) dX4_init_17
  unfold cb_T
  rw [hB.1, cb_M0r (by omega) (by omega) (by omega)]
  rfl
abbrev rmX3_init : Room := { frames := 2, cells := 19, slots := 190, locals := 32 }
set_option maxHeartbeats 4000000 in
set_option maxRecDepth 100000 in
theorem uX3_init (g : tb_GT) (b0 : Nat) (hg : cb_g g b0) (l : Launch) (E : Nat → va_E) (hE : E 240 = .inr (3, bf3)) : cb_C g l yX3_init (Cond.code yX3_init cX3_init 1 none) rmX3_init [.ref (tb_ad g 240)] 241 260 E (cb_cut g 240 E) 19 190 := by
  refine cb_entry hg (by decide) (Nat.le_of_ble_eq_true rfl) rfl ?_
  intro P e s m below meth c F hin hP hS ls hl
  have F : cb_F g b0 cX3_init 1 RX3 none (Cond.code yX3_init cX3_init 1 none) P s m ([.ref (tb_ad g 240)] : List Value).toArray meth c := F
  have hx := F.1.1.1
  have hb := F.1.1.2.1
  have hl : lv_has ls 1 [(0, .ref (tb_ad g 240))] := hl
  refine lv_aload_n hx hb dX3_init_0 rfl (lv_at hl 0 rfl) ?_
  refine cb_obj F hl.1 km_X3_3 ko_inst ko_code (Nat.le_of_ble_eq_true rfl) (Nat.le_of_ble_eq_true rfl) dX3_init_1 ?_
  have hP := cb_o1 (cb_T g) rfl hE hP
  refine lv_aload_n hx hb dX3_init_4 rfl (lv_at hl 0 rfl) ?_
  refine cb_new F hP hS (ci := 2) rfl inlX2 tyX2 tyX2_ok kl_X3_9 kq_X2 ki_X2 (fs := bf2) bf2_ok (Nat.le_of_ble_eq_true rfl) (Nat.le_of_ble_eq_true rfl) dX3_init_5 (fun H hP hS => ?_)
  refine lv_dup hx hb dX3_init_8 rfl ?_
  refine cb_callN F hP hS hl.1 kX2_init_code kX2_init_inst ki_X2 rfl (by decide +kernel) F.2.1.2.2.2.2.2.2.1 (uX2_init g b0 hg l 241 tb_B241 (by omega) (cb_up (cb_Ob (cb_T g) 240 3 [.null, .null, .null, .int 0, .int 0] E) 241 (.inr (2, bf2))) (cb_up_s _ _ _)) ⟨rfl, rfl, Nat.le_of_ble_eq_true rfl, Nat.le_of_ble_eq_true rfl⟩ (rest := [.ref (tb_ad g 241), .ref (tb_ad g 240)]) (Nat.le_of_ble_eq_true rfl) ⟨Nat.le_of_ble_eq_true rfl, Nat.le_of_ble_eq_true rfl⟩ dX3_init_9 (fun H locs hP hS => ?_)
  have hP := cb_o3 (by omega) (fun q _ _ => rfl) hP
  have hP : cb_P g 250 (cb_Ob (cb_T g) 240 3 [.null, .null, .null, .int 0, .int 0] E) H := hP
  refine cb_putF F hin hP hS (q := 240) (fs := [.null, .null, .null, .int 0, .int 0]) (by omega) (cb_Ob_p _ _ _ _ _) (ci := 3) rfl inlX3 tyX3 tyX3_ok nmX3 0 (by decide) rfl rfl rfl rfl (Nat.le_of_ble_eq_true rfl) kf_X3_12 dX3_init_12 (fun H locs hP hS => ?_)
  have hP := cb_o4 hP
  have hP : cb_P g 250 (cb_Ob (cb_T g) 240 3 [.ref (tb_ad g 241), .null, .null, .int 0, .int 0] E) H := hP
  refine lv_aload_n hx hb dX3_init_15 rfl (lv_at hl 0 rfl) ?_
  refine cb_new F hP hS (ci := 2) rfl inlX2 tyX2 tyX2_ok kl_X3_9 kq_X2 ki_X2 (fs := bf2) bf2_ok (Nat.le_of_ble_eq_true rfl) (Nat.le_of_ble_eq_true rfl) dX3_init_16 (fun H hP hS => ?_)
  refine lv_dup hx hb dX3_init_19 rfl ?_
  refine cb_callN F hP hS hl.1 kX2_init_code kX2_init_inst ki_X2 rfl (by decide +kernel) F.2.1.2.2.2.2.2.2.1 (uX2_init g b0 hg l 250 tb_B250 (by omega) (cb_up (cb_Ob (cb_T g) 240 3 [.ref (tb_ad g 241), .null, .null, .int 0, .int 0] E) 250 (.inr (2, bf2))) (cb_up_s _ _ _)) ⟨rfl, rfl, Nat.le_of_ble_eq_true rfl, Nat.le_of_ble_eq_true rfl⟩ (rest := [.ref (tb_ad g 250), .ref (tb_ad g 240)]) (Nat.le_of_ble_eq_true rfl) ⟨Nat.le_of_ble_eq_true rfl, Nat.le_of_ble_eq_true rfl⟩ dX3_init_20 (fun H locs hP hS => ?_)
  have hP := cb_o3 (by omega) (fun q _ _ => rfl) hP
  have hP : cb_P g 259 (cb_Ob (cb_T g) 240 3 [.ref (tb_ad g 241), .null, .null, .int 0, .int 0] E) H := hP
  refine cb_putF F hin hP hS (q := 240) (fs := [.ref (tb_ad g 241), .null, .null, .int 0, .int 0]) (by omega) (cb_Ob_p _ _ _ _ _) (ci := 3) rfl inlX3 tyX3 tyX3_ok nmX3 1 (by decide) rfl rfl rfl rfl (Nat.le_of_ble_eq_true rfl) kf_X3_18 dX3_init_23 (fun H locs hP hS => ?_)
  have hP := cb_o4 hP
  have hP : cb_P g 259 (cb_Ob (cb_T g) 240 3 [.ref (tb_ad g 241), .ref (tb_ad g 250), .null, .int 0, .int 0] E) H := hP
  refine lv_aload_n hx hb dX3_init_26 rfl (lv_at hl 0 rfl) ?_
  refine lv_bipush (v := 12) hx hb dX3_init_27 (by decide) ?_
  refine cb_newi F hP hS ka_int (by decide) (N := 12) (by decide) (by decide) (Nat.le_of_ble_eq_true rfl) (Nat.le_of_ble_eq_true rfl) dX3_init_29 (fun H hP hS => ?_)
  have hP : cb_P g 260 (cb_up (cb_Ob (cb_T g) 240 3 [.ref (tb_ad g 241), .ref (tb_ad g 250), .null, .int 0, .int 0] E) 259 (.inl (g.2.1 0, 12, .inl (fun _ => 0)))) H := hP
  refine cb_putF F hin hP hS (q := 240) (fs := [.ref (tb_ad g 241), .ref (tb_ad g 250), .null, .int 0, .int 0]) (by omega) (by rw [cb_up_n (by omega), cb_Ob_p]) (ci := 3) rfl inlX3 tyX3 tyX3_ok nmX3 2 (by decide) rfl rfl rfl rfl (Nat.le_of_ble_eq_true rfl) kf_X3_21 dX3_init_31 (fun H locs hP hS => ?_)
  have hP := cb_o2 (by omega) (cb_Tar tb_l259 (by omega) (by omega)) hP
  refine cb_vret F (cb_o5 ?_ (fun q _ _ => rfl) hP) hS (Nat.le_of_ble_eq_true rfl) (Nat.le_of_ble_eq_true rfl) dX3_init_34
  unfold cb_T
  rw [tb_l240, cb_M0z (by omega) (by omega)]
  rfl
def cb_TA (g : tb_GT) (i : Nat) : Nat → va_E := cb_up (cb_T g) 23 (.inl (g.2.1 3, 24, .inr (.inr (.inr (.inr (cb_pt g 24 9 i))))))
abbrev rmX0_init : Room := { frames := 2, cells := 217, slots := 2160, locals := 32 }
set_option maxHeartbeats 4000000 in
set_option maxRecDepth 100000 in
theorem uX0_init (g : tb_GT) (b0 : Nat) (hg : cb_g g b0) (l : Launch) (E : Nat → va_E) (hE : E 22 = .inr (0, bf0)) : cb_C g l yX0_init (Cond.code yX0_init cX0_init 2 none) rmX0_init [.ref (tb_ad g 22)] 23 240 E (cb_cut g 22 E) 217 2160 := by
  refine cb_entry hg (by decide) (Nat.le_of_ble_eq_true rfl) rfl ?_
  intro P e s m below meth c F hin hP hS ls hl
  have F : cb_F g b0 cX0_init 2 RX0 none (Cond.code yX0_init cX0_init 2 none) P s m ([.ref (tb_ad g 22)] : List Value).toArray meth c := F
  have hx := F.1.1.1
  have hb := F.1.1.2.1
  have hl : lv_has ls 2 [(0, .ref (tb_ad g 22))] := hl
  refine lv_aload_n hx hb dX0_init_0 rfl (lv_at hl 0 rfl) ?_
  refine cb_obj F hl.1 km_X0_3 ko_inst ko_code (Nat.le_of_ble_eq_true rfl) (Nat.le_of_ble_eq_true rfl) dX0_init_1 ?_
  have hP := cb_o1 (cb_TA g 0) rfl hE hP
  refine lv_aload_n hx hb dX0_init_4 rfl (lv_at hl 0 rfl) ?_
  refine lv_bipush (v := 24) hx hb dX0_init_5 (by decide) ?_
  refine cb_newq F hP hS kl_X0_9 F.2.1.2.2.2.2.2.2.2.2 (t0 := 3) rfl (by decide) (N := 24) (by decide) (by decide) (Nat.le_of_ble_eq_true rfl) (Nat.le_of_ble_eq_true rfl) dX0_init_7 (fun H hP hS => ?_)
  have hP : cb_P g 24 (cb_up (cb_Ob (cb_TA g 0) 22 0 [.null, .int 0, .int 0] E) 23 (.inl (g.2.1 3, 24, .inr (.inr (.inr (.inr (fun _ => none))))))) H := hP
  refine cb_putF F hin hP hS (q := 22) (fs := [.null, .int 0, .int 0]) (by omega) (by rw [cb_up_n (by omega), cb_Ob_p]) (ci := 0) rfl inlX0 tyX0 tyX0_ok nmX0 0 (by decide) rfl rfl rfl rfl (Nat.le_of_ble_eq_true rfl) kf_X0_11 dX0_init_10 (fun H locs hP hS => ?_)
  have hP := cb_o2 (by omega) (by unfold cb_TA; rw [cb_up_s, cb_pt_0]) hP
  refine lv_iconst (v := 0) hx hb dX0_init_13 (by decide) ?_
  refine lv_istore_n (lv' := [(1, .int 0), (0, .ref (tb_ad g 22))]) hx hb dX0_init_14 rfl hl (by decide) rfl (fun ls hl => ?_)
  have loop : ∀ (k i : Nat), i + k = 24 → ∀ (H : Heap) (locs : List Loc) (ls : Array Slot), cb_P g (24 + 9 * i) (cb_Ob (cb_TA g i) 22 0 [.ref (tb_ad g 23), .int 0, .int 0] E) H → va_S (tb_A g) s.heap H locs → lv_has ls 2 [(1, .int (nI i)), (0, .ref (tb_ad g 22))] → W P l e rmX0_init s m ([.ref (tb_ad g 22)] : List Value).toArray below meth c H locs (1 + 9 * i) (24 + 89 * i) (MQ below (cb_Q g 240 (cb_cut g 22 E)) ([.ref (tb_ad g 22)] : List Value).toArray s 217 2160 (tb_A g)) (F0 m 15 ls []) := by
    intro k
    induction k with
    | zero =>
      intro i hi H locs ls hP hS hl
      have hi : i = 24 := by omega
      subst hi
      refine lv_iload_n hx hb dX0_init_15 rfl (lv_at hl 0 rfl) ?_
      refine lv_bipush (v := 24) hx hb dX0_init_16 (by decide) ?_
      refine lv_icmp_ge (tgt := 40) hx hb dX0_init_18 (by decide) (fun c1 => ?_) (fun c1 => absurd (show nI 24 ≤ nI 24 from nI_le (by omega) (by omega)) c1)
      refine cb_vret F (cb_o5 ?_ (fun q h1 h2 => ?_) hP) hS (Nat.le_of_ble_eq_true rfl) (Nat.le_of_ble_eq_true rfl) dX0_init_40
      · unfold cb_T
        rw [tb_l22, cb_M0z (by omega) (by omega)]
        rfl
      · unfold cb_TA
        by_cases h3 : q = 23
        · subst h3
          rw [cb_up_s, cb_pt_e (L := tb_beforeL) (by decide) tb_beforeG]
          unfold cb_T
          rw [tb_l23]
          rfl
        · rw [cb_up_n h3]
    | succ k ih =>
      intro i hi H locs ls hP hS hl
      refine lv_iload_n hx hb dX0_init_15 rfl (lv_at hl 0 rfl) ?_
      refine lv_bipush (v := 24) hx hb dX0_init_16 (by decide) ?_
      refine lv_icmp_ge (tgt := 40) hx hb dX0_init_18 (by decide) (fun c1 => absurd (show nI 24 ≤ nI i from c1) (nI_ge (by omega) (by omega))) (fun c1 => ?_)
      refine lv_aload_n hx hb dX0_init_21 rfl (lv_at hl 1 rfl) ?_
      refine cb_get F hP (q := 22) (by omega) (cb_Ob_p _ _ _ _ _) (ci := 0) rfl inlX0 0 (by decide) rfl kf_X0_11 dX0_init_22 ?_
      refine lv_iload_n hx hb dX0_init_25 rfl (lv_at hl 0 rfl) ?_
      refine cb_new F hP hS (ci := 2) rfl inlX2 tyX2 tyX2_ok kl_X0_9 kq_X2 ki_X2 (fs := bf2) bf2_ok (by show 1 + 9 * i + 1 ≤ 217; omega) (by show 24 + 89 * i + 13 ≤ 2160; omega) dX0_init_26 (fun H hP hS => ?_)
      refine lv_dup hx hb dX0_init_29 rfl ?_
      refine cb_callN F hP hS hl.1 kX2_init_code kX2_init_inst ki_X2 rfl (by decide +kernel) F.2.1.2.2.2.2.2.1 (uX2_init g b0 hg l (24 + 9 * i) (tb_Bact (by omega)) (by omega) (cb_up (cb_Ob (cb_TA g i) 22 0 [.ref (tb_ad g 23), .int 0, .int 0] E) (24 + 9 * i) (.inr (2, bf2))) (cb_up_s _ _ _)) ⟨rfl, rfl, Nat.le_of_ble_eq_true rfl, Nat.le_of_ble_eq_true rfl⟩ (rest := [.ref (tb_ad g (24 + 9 * i)), .int (nI i), .ref (tb_ad g 23)]) (Nat.le_of_ble_eq_true rfl) ⟨by show 1 + 9 * i + 1 + 8 ≤ 217; omega, by show 24 + 89 * i + 13 + 76 ≤ 2160; omega⟩ dX0_init_30 (fun H locs hP hS => ?_)
      have hP := cb_o3 (by omega) (fun q h1 h2 => by unfold cb_TA; rw [cb_up_n (by omega)]) hP
      refine cb_ast F hP hS (q := 23) (t0 := 3) (r := 24 + 9 * i) (ci := 2) (by omega) (by rw [cb_Ob_r (by omega)]; unfold cb_TA; rw [cb_up_s]) rfl (by omega) (by rw [cb_Ob_r (by omega)]; unfold cb_TA; rw [cb_up_n (by omega)]; unfold cb_T; rw [(tb_Bact (show i < 24 by omega)).1]; rfl) rfl (k := i) (nI_clamp (by omega)) (nI_in (by omega) (by omega)) dX0_init_33 (fun H locs hP hS => ?_)
      have hP := cb_o6 (T' := cb_TA g (i + 1)) (by omega) (fun q h1 => by
        unfold cb_TA
        by_cases h3 : q = 23
        · subst h3; rw [cb_up_s, cb_up_s, cb_pt_s]
        · rw [cb_up_n h3, cb_up_n h3, cb_up_n h3]) hP
      refine lv_iinc (v := nI (i + 1)) (lv' := [(1, .int (nI (i + 1))), (0, .ref (tb_ad g 22))]) hx hb dX0_init_34 hl (k := 0) rfl (nI_1 i) (by decide) rfl (fun ls hl => ?_)
      refine lv_goto (tgt := 15) hx hb dX0_init_37 (by decide) ?_
      refine W.widen (k := 1 + 9 * (i + 1)) (n := 24 + 89 * (i + 1)) (by omega) (by omega) ?_
      exact ih (i + 1) (by omega) H locs ls (by rw [show 24 + 9 * (i + 1) = 24 + 9 * i + 9 by omega]; exact hP) hS hl
  exact loop 24 0 rfl H locs ls hP hS hl

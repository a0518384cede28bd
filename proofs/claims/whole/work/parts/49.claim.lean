/-! the claim -/
theorem lw_t1 {w : Cond} (i : Nat) (h : tables_1_1[i]? = some w) : w ∈ lw_tbl := List.mem_append_right _ (List.mem_append_left _ (List.mem_of_getElem? h))
theorem lw_t2 {w : Cond} (i : Nat) (h : tables_1_2[i]? = some w) : w ∈ lw_tbl := List.mem_append_right _ (List.mem_append_right _ (List.mem_append_left _ (List.mem_of_getElem? h)))
theorem lw_t3 {w : Cond} (i : Nat) (h : tables_1_3[i]? = some w) : w ∈ lw_tbl := List.mem_append_right _ (List.mem_append_right _ (List.mem_append_right _ (List.mem_append_left _ (List.mem_of_getElem? h))))
theorem lw_arrI {args : Array Value} {s : State} (h : (Cond.arrayClass .int).before args s = true) : ∃ cA : ClassId, ArrOfT s cA .int ∧ va_RA s cA .int := by
  obtain ⟨cA, k, comp, h1, h2, h3⟩ := Cond.arrayClass_spec h
  exact ⟨cA, fun n z => ⟨(fun k h => by cases h), k, h2, comp, h3⟩, h1⟩
theorem lw_arrZ {args : Array Value} {s : State} (h : (Cond.arrayClass .boolean).before args s = true) : ∃ cA : ClassId, ArrOfT s cA .boolean ∧ va_RA s cA .boolean := by
  obtain ⟨cA, k, comp, h1, h2, h3⟩ := Cond.arrayClass_spec h
  exact ⟨cA, fun n z => ⟨(fun k h => by cases h), k, h2, comp, h3⟩, h1⟩
theorem lw_arrO {args : Array Value} {s : State} {C : String} (h : (Cond.arrayOver (.object C)).before args s = true) : ∃ cA : ClassId, ArrOfT s cA (.object C) ∧ va_RA s cA (.object C) := by
  obtain ⟨comp, cA, k, h1, h2, h3, h4, h5⟩ := Cond.arrayOver_spec h
  exact ⟨cA, fun n z => ⟨(fun k h => by cases h), k, h3, comp, h4⟩, k, comp, h3, h4, h1, h5⟩
def lw_tm (k : Nat) : Term := match k with
  | 0 => .static "TypeBars" "PARENT" "[I"
  | 1 => .static "TypeBars$Asking" "SIZE_BODY" "[I"
  | _ => .static "TypeBars$Asking" "MARK_BODY" "[I"
set_option maxHeartbeats 4000000 in
set_option maxRecDepth 100000 in
theorem lw_st0 {s : State} {b : Nat} {A : Nat → Prop} (hts : ∀ w ∈ lw_tbl, w.before #[Value.ref b] s = true) (hgv : (Jvm.Cond.and given_1 narrow_1).before #[Value.ref b] s = true) (hA : ∀ a : Nat, a < s.heap.size → ¬ A a) : ∃ t : Nat, va_Z "TypeBars" "PARENT" "[I" (.ref t) A s s.heap ∧ va_T .int t 6 (fun j => .int (tb_tab 0 j)) A s s.heap := by
  have hs := flat_of_before _ hgv
  obtain ⟨t, ht, hT⟩ := va_Tof (tm := (.static "TypeBars" "PARENT" "[I")) (ty := .int) (N := 6) (f := fun j => .int (tb_tab 0 j)) (A := A) (by omega) (hs _ (by decide +kernel)) (va_eqt (hs (.eq (.length (.static "TypeBars" "PARENT" "[I")) (.int 6)) (by decide +kernel))) (fun j hj => by
    rcases (show j = 0 ∨ j = 1 ∨ j = 2 ∨ j = 3 ∨ j = 4 ∨ j = 5 by omega) with rfl | rfl | rfl | rfl | rfl | rfl
    · exact va_eqt (hs (.eq (.elem (.static "TypeBars" "PARENT" "[I") (.int 0)) (.int (-1))) (by decide +kernel))
    · exact va_eqt (hs (.eq (.elem (.static "TypeBars" "PARENT" "[I") (.int 1)) (.int 0)) (by decide +kernel))
    · exact va_eqt (hs (.eq (.elem (.static "TypeBars" "PARENT" "[I") (.int 2)) (.int 1)) (by decide +kernel))
    · exact va_eqt (hs (.eq (.elem (.static "TypeBars" "PARENT" "[I") (.int 3)) (.int 1)) (by decide +kernel))
    · exact va_eqt (hs (.eq (.elem (.static "TypeBars" "PARENT" "[I") (.int 4)) (.int 0)) (by decide +kernel))
    · exact va_eqt (hs (.eq (.elem (.static "TypeBars" "PARENT" "[I") (.int 5)) (.int 4)) (by decide +kernel))) hA
  exact ⟨t, va_Zof (hts _ (lw_t3 127 (by decide +kernel))) (hts _ (tb_all ki_X6).1) ht hA, hT⟩
set_option maxHeartbeats 4000000 in
set_option maxRecDepth 100000 in
theorem lw_st1 {s : State} {b : Nat} {A : Nat → Prop} (hts : ∀ w ∈ lw_tbl, w.before #[Value.ref b] s = true) (hgv : (Jvm.Cond.and given_1 narrow_1).before #[Value.ref b] s = true) (hA : ∀ a : Nat, a < s.heap.size → ¬ A a) : ∃ t : Nat, va_Z "TypeBars$Asking" "SIZE_BODY" "[I" (.ref t) A s s.heap ∧ va_T .int t 6 (fun j => .int (tb_tab 1 j)) A s s.heap := by
  have hs := flat_of_before _ hgv
  obtain ⟨t, ht, hT⟩ := va_Tof (tm := (.static "TypeBars$Asking" "SIZE_BODY" "[I")) (ty := .int) (N := 6) (f := fun j => .int (tb_tab 1 j)) (A := A) (by omega) (hs _ (by decide +kernel)) (va_eqt (hs (.eq (.length (.static "TypeBars$Asking" "SIZE_BODY" "[I")) (.int 6)) (by decide +kernel))) (fun j hj => by
    rcases (show j = 0 ∨ j = 1 ∨ j = 2 ∨ j = 3 ∨ j = 4 ∨ j = 5 by omega) with rfl | rfl | rfl | rfl | rfl | rfl
    · exact va_eqt (hs (.eq (.elem (.static "TypeBars$Asking" "SIZE_BODY" "[I") (.int 0)) (.int 10)) (by decide +kernel))
    · exact va_eqt (hs (.eq (.elem (.static "TypeBars$Asking" "SIZE_BODY" "[I") (.int 1)) (.int 11)) (by decide +kernel))
    · exact va_eqt (hs (.eq (.elem (.static "TypeBars$Asking" "SIZE_BODY" "[I") (.int 2)) (.int 12)) (by decide +kernel))
    · exact va_eqt (hs (.eq (.elem (.static "TypeBars$Asking" "SIZE_BODY" "[I") (.int 3)) (.int 11)) (by decide +kernel))
    · exact va_eqt (hs (.eq (.elem (.static "TypeBars$Asking" "SIZE_BODY" "[I") (.int 4)) (.int 13)) (by decide +kernel))
    · exact va_eqt (hs (.eq (.elem (.static "TypeBars$Asking" "SIZE_BODY" "[I") (.int 5)) (.int 14)) (by decide +kernel))) hA
  exact ⟨t, va_Zof (hts _ (lw_t3 137 (by decide +kernel))) (hts _ (tb_all ki_X1).1) ht hA, hT⟩
set_option maxHeartbeats 4000000 in
set_option maxRecDepth 100000 in
theorem lw_st2 {s : State} {b : Nat} {A : Nat → Prop} (hts : ∀ w ∈ lw_tbl, w.before #[Value.ref b] s = true) (hgv : (Jvm.Cond.and given_1 narrow_1).before #[Value.ref b] s = true) (hA : ∀ a : Nat, a < s.heap.size → ¬ A a) : ∃ t : Nat, va_Z "TypeBars$Asking" "MARK_BODY" "[I" (.ref t) A s s.heap ∧ va_T .int t 6 (fun j => .int (tb_tab 2 j)) A s s.heap := by
  have hs := flat_of_before _ hgv
  obtain ⟨t, ht, hT⟩ := va_Tof (tm := (.static "TypeBars$Asking" "MARK_BODY" "[I")) (ty := .int) (N := 6) (f := fun j => .int (tb_tab 2 j)) (A := A) (by omega) (hs _ (by decide +kernel)) (va_eqt (hs (.eq (.length (.static "TypeBars$Asking" "MARK_BODY" "[I")) (.int 6)) (by decide +kernel))) (fun j hj => by
    rcases (show j = 0 ∨ j = 1 ∨ j = 2 ∨ j = 3 ∨ j = 4 ∨ j = 5 by omega) with rfl | rfl | rfl | rfl | rfl | rfl
    · exact va_eqt (hs (.eq (.elem (.static "TypeBars$Asking" "MARK_BODY" "[I") (.int 0)) (.int 20)) (by decide +kernel))
    · exact va_eqt (hs (.eq (.elem (.static "TypeBars$Asking" "MARK_BODY" "[I") (.int 1)) (.int 21)) (by decide +kernel))
    · exact va_eqt (hs (.eq (.elem (.static "TypeBars$Asking" "MARK_BODY" "[I") (.int 2)) (.int 24)) (by decide +kernel))
    · exact va_eqt (hs (.eq (.elem (.static "TypeBars$Asking" "MARK_BODY" "[I") (.int 3)) (.int 22)) (by decide +kernel))
    · exact va_eqt (hs (.eq (.elem (.static "TypeBars$Asking" "MARK_BODY" "[I") (.int 4)) (.int 23)) (by decide +kernel))
    · exact va_eqt (hs (.eq (.elem (.static "TypeBars$Asking" "MARK_BODY" "[I") (.int 5)) (.int 23)) (by decide +kernel))) hA
  exact ⟨t, va_Zof (hts _ (lw_t3 147 (by decide +kernel))) (hts _ (tb_all ki_X1).1) ht hA, hT⟩
set_option maxHeartbeats 4000000 in
set_option maxRecDepth 100000 in
theorem lw_world {s : State} {b : Nat} (hts : ∀ w ∈ lw_tbl, w.before #[Value.ref b] s = true) (hgv : (Jvm.Cond.and given_1 narrow_1).before #[Value.ref b] s = true) : ∃ g : tb_GT, cb_g g s.heap.size ∧ tb_G g s ∧ cb_N s := by
  have hN : cb_N s := ⟨va_Nw.of rfl (hts _ (lw_t1 25 (by decide +kernel))), va_Nw.of rfl (hts _ (lw_t1 44 (by decide +kernel))), va_Nw.of rfl (hts _ (lw_t1 133 (by decide +kernel))), va_Nw.of rfl (hts _ (lw_t1 159 (by decide +kernel))), va_Nw.of rfl (hts _ (lw_t1 173 (by decide +kernel))), va_Nw.of rfl (hts _ (lw_t1 119 (by decide +kernel))), va_Nw.of rfl (hts _ (lw_t1 138 (by decide +kernel))), va_AO.of (hts _ (lw_t1 22 (by decide +kernel))), va_AO.of (hts _ (lw_t1 118 (by decide +kernel)))⟩
  obtain ⟨c0, iS0, hKn0⟩ := u_known (C := RX0) (T := TX0) (N := 3) (n := 3) hts (fun w h => (tb_all (inlX0 w h)).1) (hts _ (tb_all kq_X0).1)
  obtain ⟨c1, iS1, hKn1⟩ := u_known (C := RX1) (T := TX1) (N := 2) (n := 2) hts (fun w h => (tb_all (inlX1 w h)).1) (hts _ (tb_all kq_X1).1)
  obtain ⟨c2, iS2, hKn2⟩ := u_known (C := RX2) (T := TX2) (N := 13) (n := 13) hts (fun w h => (tb_all (inlX2 w h)).1) (hts _ (tb_all kq_X2).1)
  obtain ⟨c3, iS3, hKn3⟩ := u_known (C := RX3) (T := TX3) (N := 5) (n := 5) hts (fun w h => (tb_all (inlX3 w h)).1) (hts _ (tb_all kq_X3).1)
  obtain ⟨c4, iS4, hKn4⟩ := u_known (C := RX4) (T := TX4) (N := 4) (n := 4) hts (fun w h => (tb_all (inlX4 w h)).1) (hts _ (tb_all kq_X4).1)
  obtain ⟨c5, iS5, hKn5⟩ := u_known (C := RX5) (T := TX5) (N := 3) (n := 3) hts (fun w h => (tb_all (inlX5 w h)).1) (hts _ (tb_all kq_X5).1)
  obtain ⟨c6, iS6, hKn6⟩ := u_known (C := RX6) (T := TX6) (N := 10) (n := 10) hts (fun w h => (tb_all (inlX6 w h)).1) (hts _ (tb_all kq_X6).1)
  obtain ⟨c7, iS7, hKn7⟩ := u_known (C := RX7) (T := TX7) (N := 19) (n := 19) hts (fun w h => (tb_all (inlX7 w h)).1) (hts _ (tb_all kq_X7).1)
  obtain ⟨dC, dI, hKc⟩ : ∃ (dC : Nat → ClassId) (dI : Nat → Nat → Nat), ∀ (k : Nat) (q : vw_C), vwCl[k]? = some q → u_Kn s q.1 q.2.1 q.2.2 (dC k) (dI k) := by
    refine ⟨fun k => if k = 0 then c0 else if k = 1 then c1 else if k = 2 then c2 else if k = 3 then c3 else if k = 4 then c4 else if k = 5 then c5 else if k = 6 then c6 else c7, fun k => if k = 0 then iS0 else if k = 1 then iS1 else if k = 2 then iS2 else if k = 3 then iS3 else if k = 4 then iS4 else if k = 5 then iS5 else if k = 6 then iS6 else iS7, ?_⟩
    intro k q hq
    match k, hq with
    | 0, hq => cases hq; exact hKn0
    | 1, hq => cases hq; exact hKn1
    | 2, hq => cases hq; exact hKn2
    | 3, hq => cases hq; exact hKn3
    | 4, hq => cases hq; exact hKn4
    | 5, hq => cases hq; exact hKn5
    | 6, hq => cases hq; exact hKn6
    | 7, hq => cases hq; exact hKn7
    | k + 8, hq => simp [vwCl] at hq
  obtain ⟨a0, hA0⟩ := lw_arrI (hts _ (tb_all ka_int).1)
  obtain ⟨a1, hA1⟩ := lw_arrZ (hts _ (tb_all ka_bool).1)
  obtain ⟨a2, hA2⟩ := lw_arrO (args := #[]) (C := RX4) (va_AO.use hN.2.2.2.2.2.2.2.1)
  obtain ⟨a3, hA3⟩ := lw_arrO (args := #[]) (C := RX2) (va_AO.use hN.2.2.2.2.2.2.2.2)
  have hA : ∀ a : Nat, a < s.heap.size → ¬ (fun q : Nat => s.heap.size ≤ q) a := fun a h => Nat.not_le.mpr h
  obtain ⟨t0, hZ0, hT0⟩ := lw_st0 hts hgv hA
  obtain ⟨t1, hZ1, hT1⟩ := lw_st1 hts hgv hA
  obtain ⟨t2, hZ2, hT2⟩ := lw_st2 hts hgv hA
  refine ⟨((dC, dI), (fun k => if k = 0 then a0 else if k = 1 then a1 else if k = 2 then a2 else a3), (fun q => s.heap.size + q), (fun q => s.heap.size ≤ q), (fun k => if k = 0 then t0 else if k = 1 then t1 else t2)), ⟨fun q => rfl, fun q => Iff.rfl⟩, ⟨⟨hKc, ?_⟩, ?_, ?_, va_Nw.of rfl (hts _ (lw_t2 74 (by decide +kernel))), va_Nw.of rfl (hts _ (lw_t3 87 (by decide +kernel))), ⟨hZ0, hT0⟩, ⟨hZ1, hT1⟩, hZ2, hT2⟩, hN⟩
  · intro k q hk
    match k, hk with
    | 0, hk => cases hk; exact hA0
    | 1, hk => cases hk; exact hA1
    | 2, hk => cases hk; exact hA2
    | 3, hk => cases hk; exact hA3
    | k + 4, hk => simp [tb_tys] at hk
  · intro i j _ _ h
    have h : s.heap.size + i = s.heap.size + j := h
    omega
  · intro i _
    show s.heap.size ≤ s.heap.size + i
    omega
/-- what holds at the law's entry: the machine, the code, the tables' words (any of lw_tbl by 'hts w (by decide +kernel)'), the script of L ints xs at the cell b, what the Statement gives of the start (any of its parts by flat_of_before) -/
def lw_At (p : Program) (s : State) (m : MethodId) (meth : Method) (c : Code) (b L : Nat) (xs : Nat → Int32) : Prop :=
  p.tables.exec = Jvm.exec ∧ c.code = code ∧ meth.sig.returnType = ret ∧ c.maxLocals = 4 ∧ s.vm.findClass R_law = some m.cls ∧ (∀ w ∈ lw_tbl, w.before #[Value.ref b] s = true) ∧ va_X b L xs s s.heap ∧ b < s.heap.size ∧ meth.locks = false ∧ (Jvm.Cond.and given_1 narrow_1).before #[Value.ref b] s = true
set_option maxHeartbeats 4000000 in
set_option maxRecDepth 100000 in
/-- from the entry, for every script of at most 3072 ints, the law comes to its end with true -/
theorem whole_start {p : Program} {e : Env} {s : State} {m : MethodId} {below : List Frame} {meth : Method} {c : Code} (l : Launch) (hflags : l.flags = flags0) {b L : Nat} {xs : Nat → Int32} (hL : L ≤ 3072) (C0 : lw_At p s m meth c b L xs) : W p l e room_1 s m #[Value.ref b] below meth c s.heap [] 0 0 (lw_Z below #[Value.ref b] s) (entryFrame m ([Value.ref b] : List Value).toArray 4) := by
  obtain ⟨hx, hb, hr, hml, hown, hts, hX, hbl, hlocks, hgv⟩ := id C0
  obtain ⟨g, hg, hG, hN⟩ := lw_world hts hgv
  have hAll : ∀ w ∈ Cond.initialized RL :: tb_ALL, w.before #[Value.ref b] s = true := by
    intro w hw
    rcases List.mem_cons.mp hw with h | h
    · rw [h]; exact hts _ (tb_all ki_L).1
    · exact hts _ (tb_all h).1
  have F : cb_F g s.heap.size cL_law 4 RL ret (Cond.initialized RL) p s m #[Value.ref b] meth c := ⟨⟨⟨hx, hb, hml, hown, hAll⟩, hr, hlocks, hG⟩, hN, hg, Nat.le_refl _⟩
  have hl := lv_entry ([.ref b]) (n := 4) (Nat.le_of_ble_eq_true rfl)
  rw [lg_entry_eq]
  generalize (lg_sl ([.ref b]) ++ List.replicate (4 - (lg_sl ([.ref b])).length) Slot.unset).toArray = ls at hl ⊢
  have hl : lv_has ls 4 [(0, .ref b)] := hl
  have hS : va_S (tb_A g) s.heap s.heap [] := va_S.rf
  have hP : cb_P g 0 (cb_T g) s.heap := ⟨by rw [hg.1]; rfl, fun q hq => absurd hq (Nat.not_lt_zero q)⟩
  refine cb_new F hP hS (ci := 6) rfl inlX6 tyX6 tyX6_ok kl_L_7 kq_X6 ki_X6 (fs := bf6) bf6_ok (Nat.le_of_ble_eq_true rfl) (Nat.le_of_ble_eq_true rfl) dL_law_0 (fun H hP hS => ?_)
  refine lv_dup hx hb dL_law_3 rfl ?_
  refine cb_callI F hP hS hl.1 kX6_init_code kX6_init_inst ki_X6 rfl (by decide +kernel) km_L_9 (uX6_init g s.heap.size hg l (cb_up (cb_T g) 0 (.inr (6, bf6))) (cb_up_s _ _ _)) ⟨rfl, rfl, Nat.le_of_ble_eq_true rfl, Nat.le_of_ble_eq_true rfl⟩ (rest := [.ref (tb_ad g 0)]) (Nat.le_of_ble_eq_true rfl) ⟨Nat.le_of_ble_eq_true rfl, Nat.le_of_ble_eq_true rfl⟩ dL_law_4 (fun H locs hP hS => ?_)
  refine lv_astore_n (lv' := [(1, .ref (tb_ad g 0)), (0, .ref b)]) hx hb dL_law_7 rfl hl (by decide) rfl (fun ls hl => ?_)
  refine cb_new F hP hS (ci := 7) rfl inlX7 tyX7 tyX7_ok kl_L_10 kq_X7 ki_X7 (fs := bf7) bf7_ok (Nat.le_of_ble_eq_true rfl) (Nat.le_of_ble_eq_true rfl) dL_law_8 (fun H hP hS => ?_)
  refine lv_dup hx hb dL_law_11 rfl ?_
  refine cb_callI F hP hS hl.1 kX7_init_code kX7_init_inst ki_X7 rfl (by decide +kernel) km_L_12 (uX7_init g s.heap.size hg l (cb_up (cb_cut g 0 (cb_up (cb_T g) 0 (.inr (6, bf6)))) 297 (.inr (7, bf7))) (cb_up_s _ _ _)) ⟨rfl, rfl, Nat.le_of_ble_eq_true rfl, Nat.le_of_ble_eq_true rfl⟩ (rest := [.ref (tb_ad g 297)]) (Nat.le_of_ble_eq_true rfl) ⟨Nat.le_of_ble_eq_true rfl, Nat.le_of_ble_eq_true rfl⟩ dL_law_12 (fun H locs hP hS => ?_)
  have hP : cb_P g 310 (cb_T g) H := by
    refine hP.cg (fun q hq => ?_)
    unfold cb_cut
    by_cases h1 : q < 297
    · rw [if_pos h1, cb_up_n (by omega), if_neg (Nat.not_lt_zero q)]
    · rw [if_neg h1]
  have hP : tb_P g cb_M0 H := hP.list
  refine lv_astore_n (lv' := [(2, .ref (tb_ad g 297)), (1, .ref (tb_ad g 0)), (0, .ref b)]) hx hb dL_law_15 rfl hl (by decide) rfl (fun ls hl => ?_)
  refine lv_iconst (v := 0) hx hb dL_law_16 (by decide) ?_
  refine lv_istore_n (lv' := lw_lv g b 0) hx hb dL_law_17 rfl hl (by decide) rfl (fun ls hl => ?_)
  refine W.widen (k := 600000) (n := 7302250) (Nat.le_of_ble_eq_true rfl) (Nat.le_of_ble_eq_true rfl) ?_
  exact law_loop F.1 ⟨hX, hbl, fun h => Nat.not_le.mpr hbl ((hg.2 b).mp h), hL⟩ (fun q h => (hg.2 q).mp h) L 0 (by omega) (by omega) cb_M0 H locs ls cb_inv hP hS hl
set_option maxHeartbeats 4000000 in
theorem lw_walk (l : Launch) (hflags : l.flags = flags0) (b : Addr) (xs : List Int32) : MetFree l x (headSpec (Jvm.Cond.code x code maxLocals ret :: tables_1) room_1) (lw_P b xs) (fun _ _ _ _ _ => True) lw_Q := by
  refine MetFree.of_bodyS (code := code) (maxLocals := maxLocals) (ret := ret) (by decide) ?_ ?_
  · intro args s m h hn
    obtain ⟨meth, c, h1, h2, h3, h4, h5, h6, -, -⟩ := Cond.code_spec hn (atoms_spec (ws := Jvm.Cond.code x code maxLocals ret :: tables_1) h _ List.mem_cons_self)
    exact ⟨meth, c, h1, h2, h3, h4, h5, h6⟩
  · intro p e s m args below meth c s₁ B hml0 hP _
    obtain ⟨rfl, hx, hbd, hgv⟩ := hP
    obtain ⟨scr, harrAt, hlist, hof, hsmall⟩ := hx
    obtain ⟨hcb, hkn, -, -⟩ := State.arrayAt?_spec harrAt
    have hown : s.vm.findClass R_law = some m.cls := findClass_of_methodNamed B.named
    have hts0 : ∀ c ∈ (Jvm.Cond.code x code maxLocals ret :: tables_1), c.before #[Value.ref b] s = true := atoms_spec (ws := Jvm.Cond.code x code maxLocals ret :: tables_1) B.pre
    have hts : ∀ w ∈ lw_tbl, w.before #[Value.ref b] s = true := k2_hts_sels lw_privs (fun w hw => hts0 w (List.mem_cons_of_mem _ hw)) lw_privs_ok
    have hml : c.maxLocals = 4 := B.maxLocals_eq (hts0 _ List.mem_cons_self)
    have X₀ : Stand p l e room_1 s m #[Value.ref b] below meth c s₁ [] 0 0 := Stand.of_body B
    have hh0 : s₁.heap = s.heap := by rw [B.state]; rfl
    have hsz : scr.slots.size = xs.length := by rw [← Array.length_toList, hlist, List.length_map]
    have hval : ∀ j : Nat, j < xs.length → scr.slots[j]? = some (.int (xs.getD j 0)) := fun j hj => by
      rw [← Array.getElem?_toList, hlist]
      simp [hj]
    have hbl : b < s.heap.size := (Array.getElem?_eq_some_iff.mp hcb).1
    have hX : va_X b xs.length (fun j => xs.getD j 0) s s.heap := ⟨scr, hcb, hof, hkn, hsz, hval⟩
    have K : W p l e room_1 s m #[Value.ref b] below meth c s₁.heap [] 0 0 (lw_Z below #[Value.ref b] s) (entryFrame m ([Value.ref b] : List Value).toArray 4) := by
      rw [hh0]
      exact whole_start l hflags hbd ⟨B.exec, B.bytes, B.returns, hml, hown, hts, hX, hbl, B.notSynchronized, hgv⟩
    obtain ⟨t, a1, o, b1, b2, b3⟩ := K s₁ rfl X₀
    exact ⟨t, o, a1, b1, b2, b3⟩
theorem lw_pre_spec {args : Array Value} {s : State} (h : (Jvm.Cond.and given_1 narrow_1).before args s = true) (hr : rest_1_c.before args s = true) : ∃ (b : Addr) (xs : List Int32), lw_P b xs args s := by
  have hs := flat_of_before _ h
  have hq := flat_of_before _ hr
  have hc : (Cond.count 1).before args s = true := hs _ (by decide +kernel)
  have harr : (Cond.arrayOf (.arg 0) .int).before args s = true := hs _ (by decide +kernel)
  have hle : (Cond.le (.length (.arg 0)) (.int 3072)).before args s = true := hs _ (by decide +kernel)
  have hlen : (Cond.isInt (.length (.arg 0))).before args s = true := hq _ (by decide +kernel)
  have hall : (Cond.all (.arg 0) (.isInt (.elem (.arg 0) (.index 0)))).before args s = true := hq _ (by decide +kernel)
  obtain ⟨b, xs, hb, hx⟩ := State.ints_of_pre rfl harr hlen hall
  have hsm : xs.length < 2 ^ 31 := hx.choose_spec.2.2.2
  have hev : (Term.length (.arg 0)).eval args s none [] s = some (.int xs.length.toInt32) := hx.length_eval hb
  have hv := Cond.le_ints hev (show (Term.int 3072).eval args s none [] s = some (.int 3072) from rfl)
  have hd : xs.length.toInt32 ≤ 3072 := by
    simpa [Cond.before, Cond.holds, hv] using hle
  have hN : xs.length ≤ 3072 := (Int32.ofNat_le_ofNat hsm (by decide)).mp (show Int32.ofNat xs.length ≤ Int32.ofNat 3072 from hd)
  exact ⟨b, xs, Cond.one_arg hc (show args[0]? = some (.ref b) from hb), hx, hN, h⟩
theorem lw_comes (l : Launch) (hflags : l.flags = flags0) : Comes l x (Jvm.Cond.code x code maxLocals ret :: tables_1) room_1 (fun tb e args s => Calls_1 tb e args s ∧ rest_1 tb e args s ∧ Pre_1 tb e args s)
    (fun _ _ args s o t => lw_Q args s o t) := by
  intro p e ha hc hk s m args below hf hfit hheap happ hpre
  obtain ⟨b, xs, hP⟩ := lw_pre_spec hpre.2.2 hpre.2.1
  obtain ⟨k, o, h1, h2, h3, hQ⟩ := lw_walk l hflags b xs p e ha hc hk s m args below hf ((Spec.applies_iff_loose hf).mp happ).1 hP trivial
  exact ⟨k, o, h1, h2, h3, hQ⟩
theorem lw_frame {s t : State} {o : Outcome} {args : Array Value} (h : Framed s o t [] 600000 7302250) :
    Framed s o t (fieldLocs frame_1_writes args s ++ arrayLocs frame_1_arrays args s ++ staticLocs frame_1_statics s) 600000 7302250 := h
theorem lw_limb (L : Cond) (hL : ∀ (args : Array Value) (s t : State), L.after args s (.returned (some (.int 1))) t = true) :
    ArmFor flags0 classFile x code maxLocals ret World_1 tables_1 room_1 Calls_1 rest_1 Pre_1
      (fun tb e a s o t => postC L tb e a s o t ∧ Framed s o t (fieldLocs frame_1_writes a s ++ arrayLocs frame_1_arrays a s ++ staticLocs frame_1_statics s) 600000 7302250) := by
  intro l hflags _ _ p e ha hc hk s m args below hf hfit hheap happ hpre
  obtain ⟨k, o, h1, h2, h3, rfl, hF⟩ := lw_comes l hflags p e ha hc hk s m args below hf hfit hheap happ hpre
  exact ⟨k, _, h1, h2, h3, hL args s _, lw_frame hF⟩
theorem i_vc : Claimed_1_1 ∧ Claimed_1_2 := ⟨lw_limb limb_1_1 (fun args s t => by simp [limb_1_1, Cond.after, Cond.holds, Cond.value]), lw_limb limb_1_2 (fun args s t => Cond.after_iff.mpr (by
  first | (rw [show limb_1_2 = Cond.eq .result (.int 1) from rfl, Cond.eq_ints (x := 1) (y := 1) rfl rfl]; simp; done) | (simp [limb_1_2, Cond.value, Term.eval]; done)))⟩

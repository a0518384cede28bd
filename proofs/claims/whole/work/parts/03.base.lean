/-! the heap of the system, its shape fixed: place p of tb_layL is a cell; what changes is a memory of ints, M place index -/
abbrev tb_LE : Type := (Nat × Nat) ⊕ ((Nat × List Nat) ⊕ (Nat × List (Option Nat)))
abbrev tb_Mem : Type := Nat → Nat → Int32
/-- an int array -/
abbrev tb_ar (n : Nat) : tb_LE := .inl (0, n)
abbrev tb_ob (ci : Nat) (fl : List (Option Nat)) : tb_LE := .inr (.inr (ci, fl))
abbrev tb_bo (p : Nat) : tb_LE := tb_ob 2 [some (p + 1), some (p + 2), some (p + 3), some (p + 4), some (p + 5), some (p + 6), some (p + 7), some (p + 8), none, none, none, none, none]
def tb_bk (p : Nat) : List tb_LE := [tb_bo p, tb_ar 8, tb_ar 8, tb_ar 8, tb_ar 8, tb_ar 8, tb_ar 8, tb_ar 8, tb_ar 20]
abbrev tb_beforeL : List Nat := (List.range 24).map (fun i => 24 + 9 * i)
abbrev tb_rowsL : List Nat := (List.range 8).map (fun i => 263 + 2 * i)
abbrev tb_imagesL : List Nat := (List.range 2).map (fun i => 279 + 9 * i)
abbrev tb_o0 : tb_LE := tb_ob 6 [some 1, some 2, some 4, some 13, some 22, some 240, some 260, some 261, none, none]
abbrev tb_oM : tb_LE := tb_ob 7 [some 298, some 299, some 300, some 301, none, some 302, none, none, some 303, some 304, some 305, some 306, some 307, none, some 308, some 309, none, none, none]
abbrev tb_oF : tb_LE := tb_ob 3 [some 241, some 250, some 259, none, none]
abbrev tb_ro (p : Nat) : tb_LE := tb_ob 4 [some (p + 1), none, none, none]
def tb_layL : List tb_LE :=
  [tb_o0, .inr (.inl (2, tb_rowsL)), tb_ob 5 [some 3, none, none], tb_ar 60] ++ (tb_bk 4 ++ (tb_bk 13 ++
  ([tb_ob 0 [some 23, none, none], .inr (.inl (3, tb_beforeL))] ++ ((List.range 24).flatMap (fun i => tb_bk (24 + 9 * i)) ++
  ([tb_oF] ++ (tb_bk 241 ++ (tb_bk 250 ++ ([tb_ar 12, .inr (.inl (3, tb_imagesL)), tb_ob 1 [some 262, none], tb_ar 16] ++
  ((List.range 8).flatMap (fun i => [tb_ro (263 + 2 * i), tb_ar 40]) ++ (tb_bk 279 ++ (tb_bk 288 ++
  [tb_oM, tb_ar 8, tb_ar 8, tb_ar 320, tb_ar 40, tb_ar 60, tb_ar 63, tb_ar 63, tb_ar 126, .inl (1, 2), tb_ar 1104, tb_ar 63, tb_ar 16])))))))))))
theorem tb_layL_len : tb_layL.length = 310 := by decide +kernel
def tb_lay (p : Nat) : tb_LE := tb_layL.getD p (.inl (9, 0))
theorem tb_lay_lt {p : Nat} {e : tb_LE} (h : tb_lay p = e) (he : e ≠ .inl (9, 0)) : p < 310 := by
  rcases Nat.lt_or_ge p 310 with q | q
  · exact q
  · exfalso
    apply he
    have hn : tb_layL[p]? = none := List.getElem?_eq_none (by rw [tb_layL_len]; exact q)
    rw [← h, tb_lay, List.getD_eq_getElem?_getD, hn]
    rfl
/-- a basket stands at place p -/
abbrev tb_B (p : Nat) : Prop := tb_lay p = tb_bo p ∧ tb_lay (p + 1) = tb_ar 8 ∧ tb_lay (p + 2) = tb_ar 8 ∧ tb_lay (p + 3) = tb_ar 8 ∧ tb_lay (p + 4) = tb_ar 8 ∧ tb_lay (p + 5) = tb_ar 8 ∧ tb_lay (p + 6) = tb_ar 8 ∧ tb_lay (p + 7) = tb_ar 8 ∧ tb_lay (p + 8) = tb_ar 20
abbrev tb_R (p : Nat) : Prop := tb_lay p = tb_ro p ∧ tb_lay (p + 1) = tb_ar 40
/-- the machine's own numbers: classes, array classes, addresses by place, which addresses are ours, the static tables' addresses -/
abbrev tb_GT : Type := va_G × (Nat → ClassId) × (Nat → Nat) × (Nat → Prop) × (Nat → Nat)
abbrev tb_ad (g : tb_GT) : Nat → Nat := g.2.2.1
abbrev tb_A (g : tb_GT) : Nat → Prop := g.2.2.2.1
def tb_fs (ad : Nat → Nat) (m : Nat → Int32) : Nat → List (Option Nat) → List Value
  | _, [] => []
  | k, none :: t => .int (m k) :: tb_fs ad m (k + 1) t
  | k, some q :: t => .ref (ad q) :: tb_fs ad m (k + 1) t
def tb_cell (cA : Nat → ClassId) (ad : Nat → Nat) (e : tb_LE) (m : Nat → Int32) : va_E := match e with
  | .inl (k, n) => .inl (cA k, n, .inl m)
  | .inr (.inl (k, l)) => .inl (cA k, l.length, .inr (.inr (.inr (.inr (fun i => (l[i]?).map ad)))))
  | .inr (.inr (ci, fl)) => .inr (ci, tb_fs ad m 0 fl)
def tb_w (g : tb_GT) (M : tb_Mem) : va_W := (List.range 310).map (fun p => (tb_ad g p, tb_cell g.2.1 (tb_ad g) (tb_lay p) (M p)))
def tb_tys (g : tb_GT) : List (ClassId × FieldType) := [(g.2.1 0, .int), (g.2.1 1, .boolean), (g.2.1 2, .object RX4), (g.2.1 3, .object RX2)]
def tb_P (g : tb_GT) (M : tb_Mem) (H : Heap) : Prop := va_P g.1 vwCl (tb_w g M) H
def tb_row (M : tb_Mem) (p : Nat) (f : Nat → Int32) : tb_Mem := fun q => if q = p then f else M q
def tb_up (M : tb_Mem) (p k : Nat) (v : Int32) : tb_Mem := tb_row M p (upd (M p) k v)
theorem tb_fs_get (ad : Nat → Nat) (m : Nat → Int32) : ∀ (fl : List (Option Nat)) (k0 k : Nat), (tb_fs ad m k0 fl)[k]? = (fl[k]?).map (fun o => match o with | none => .int (m (k0 + k)) | some q => .ref (ad q))
  | [], k0, k => by simp [tb_fs]
  | none :: t, k0, 0 => by simp [tb_fs]
  | some q :: t, k0, 0 => by simp [tb_fs]
  | none :: t, k0, k + 1 => by
    have h := tb_fs_get ad m t (k0 + 1) k
    simp only [tb_fs, List.getElem?_cons_succ, h, show k0 + 1 + k = k0 + (k + 1) by omega]
  | some q :: t, k0, k + 1 => by
    have h := tb_fs_get ad m t (k0 + 1) k
    simp only [tb_fs, List.getElem?_cons_succ, h, show k0 + 1 + k = k0 + (k + 1) by omega]
theorem tb_fs_set (ad : Nat → Nat) (m : Nat → Int32) (fl : List (Option Nat)) (k : Nat) (v : Int32) (h : fl[k]? = some none) : (tb_fs ad m 0 fl).set k (.int v) = tb_fs ad (upd m k v) 0 fl := by
  apply List.ext_getElem?
  intro j
  have hlt : k < (tb_fs ad m 0 fl).length := by
    have h1 := tb_fs_get ad m fl 0 k
    rw [h] at h1
    exact (List.getElem?_eq_some_iff.mp h1).1
  rw [tb_fs_get]
  by_cases hj : j = k
  · subst hj
    rw [List.getElem?_set_self hlt, h]
    simp [upd]
  · rw [List.getElem?_set_ne (Ne.symm hj), tb_fs_get]
    cases fl[j]? with
    | none => rfl
    | some o => cases o with
      | none => simp [upd, hj]
      | some q => rfl
theorem tb_w_get (g : tb_GT) (M : tb_Mem) {p : Nat} (h : p < 310) : (tb_w g M)[p]? = some (tb_ad g p, tb_cell g.2.1 (tb_ad g) (tb_lay p) (M p)) := by
  simp [tb_w, h]
theorem tb_w_set (g : tb_GT) (M : tb_Mem) (p : Nat) (f : Nat → Int32) {e : va_E} (he : e = tb_cell g.2.1 (tb_ad g) (tb_lay p) f) (h : p < 310) : (tb_w g M).set p (tb_ad g p, e) = tb_w g (tb_row M p f) := by
  apply List.ext_getElem?
  intro j
  have hlt : p < (tb_w g M).length := by simp [tb_w, h]
  by_cases hj : j = p
  · subst hj
    rw [List.getElem?_set_self hlt, tb_w_get g _ h, he]
    simp [tb_row]
  · rw [List.getElem?_set_ne (Ne.symm hj)]
    by_cases hj2 : j < 310
    · rw [tb_w_get g _ hj2, tb_w_get g _ hj2]
      simp [tb_row, hj]
    · simp [tb_w, hj2]
/-- the static tables: 0 PARENT, 1 SIZE_BODY, 2 MARK_BODY -/
def tb_tab (k j : Nat) : Int32 := (([[-1, 0, 1, 1, 0, 4], [10, 11, 12, 11, 13, 14], [20, 21, 24, 22, 23, 23]] : List (List Int32)).getD k []).getD j 0
def tb_St (g : tb_GT) (U : State) : Prop :=
  (va_Z RX6 "PARENT" "[I" (.ref (g.2.2.2.2 0)) (tb_A g) U U.heap ∧ va_T .int (g.2.2.2.2 0) 6 (fun j => .int (tb_tab 0 j)) (tb_A g) U U.heap) ∧
  (va_Z RX1 "SIZE_BODY" "[I" (.ref (g.2.2.2.2 1)) (tb_A g) U U.heap ∧ va_T .int (g.2.2.2.2 1) 6 (fun j => .int (tb_tab 1 j)) (tb_A g) U U.heap) ∧
  (va_Z RX1 "MARK_BODY" "[I" (.ref (g.2.2.2.2 2)) (tb_A g) U U.heap ∧ va_T .int (g.2.2.2.2 2) 6 (fun j => .int (tb_tab 2 j)) (tb_A g) U U.heap)
/-- what the tables say of a state -/
def tb_G (g : tb_GT) (U : State) : Prop :=
  va_K g.1 vwCl (tb_tys g) U ∧ (∀ i j, i < 310 → j < 310 → tb_ad g i = tb_ad g j → i = j) ∧ (∀ i, i < 310 → tb_A g (tb_ad g i)) ∧
  va_Nw (.methodLinkNest RX5 48 yX6_within RX6) U ∧ va_Nw (.methodLinkNest RX3 121 yX6_power RX6) U ∧ tb_St g U
theorem tb_St.mv {g : tb_GT} {s U : State} {H : Heap} {locs : List Loc} (h : tb_St g s) (hS : va_S (tb_A g) s.heap H locs) (hU : U.heap = H) (hW : s.vm.Alike U.vm) : tb_St g U := by
  subst hU
  obtain ⟨⟨a1, a2⟩, ⟨b1, b2⟩, c1, c2⟩ := h
  exact ⟨⟨(a1.kept hS.2.1).moved hW, (a2.kept hS.2.1).moved hW⟩, ⟨(b1.kept hS.2.1).moved hW, (b2.kept hS.2.1).moved hW⟩, (c1.kept hS.2.1).moved hW, (c2.kept hS.2.1).moved hW⟩
theorem tb_G.mv {g : tb_GT} {s U : State} {H : Heap} {locs : List Loc} (h : tb_G g s) (hS : va_S (tb_A g) s.heap H locs) (hU : U.heap = H) (hW : s.WarmedH U.vm) : tb_G g U := by
  obtain ⟨h1, h2, h3, h4, h5, h6⟩ := h
  exact ⟨h1.moved hW.alike, h2, h3, h4.warmM hW, h5.warmM hW, h6.mv hS hU hW.alike⟩
theorem tb_G.calling {g : tb_GT} {U : State} (gf : JFrame) (mk : MethodId) (a : Array Value) (h : tb_G g U) : tb_G g (U.calling gf mk a) := by
  obtain ⟨h1, h2, h3, h4, h5, h6⟩ := h
  exact ⟨va_K.moved (u := U) (U := U.calling gf mk a) (Vm.Alike.refl U.vm) h1, h2, h3, va_Nw.same rfl (u := U) (U := U.calling gf mk a) rfl h4, va_Nw.same rfl (u := U) (U := U.calling gf mk a) rfl h5, tb_St.mv (s := U) (U := U.calling gf mk a) h6 va_S.rf rfl (Vm.Alike.refl U.vm)⟩
theorem tb_G.D {g : tb_GT} {U : State} (h : tb_G g U) (M : tb_Mem) : va_D (tb_A g) (tb_w g M) := by
  have key : ∀ (k : Nat) (q : Nat × va_E), (tb_w g M)[k]? = some q → k < 310 ∧ q.1 = tb_ad g k := by
    intro k q hk
    have hl : k < (tb_w g M).length := (List.getElem?_eq_some_iff.mp hk).1
    have hl2 : k < 310 := by simpa [tb_w] using hl
    rw [tb_w_get g M hl2] at hk
    cases hk
    exact ⟨hl2, rfl⟩
  refine ⟨fun i j x y hi hj hxy => ?_, fun k q hk => ?_⟩
  · obtain ⟨a1, a2⟩ := key i x hi
    obtain ⟨b1, b2⟩ := key j y hj
    exact h.2.1 i j a1 b1 (by rw [← a2, ← b2]; exact hxy)
  · obtain ⟨a1, a2⟩ := key k q hk
    rw [a2]
    exact h.2.2.1 k a1
/-- a method's contract: from memory M with the arguments as it comes to memory M' and the answer o -/
def tb_Q (g : tb_GT) (M' : tb_Mem) (o : Option Value) : Array Value → State → Outcome → State → Prop := fun _ st oc t => oc = .returned o ∧ tb_P g M' t.heap ∧ va_F (tb_A g) st t
def tb_Pre (g : tb_GT) (M : tb_Mem) (as : List Value) : Array Value → State → Prop := va_Pc as (fun U => tb_P g M U.heap ∧ tb_G g U)
def tb_C (g : tb_GT) (l : Launch) (y : MethodName) (cw : Cond) (rm : Room) (as : List Value) (M M' : tb_Mem) (o : Option Value) : Prop :=
  Met l y (cw :: tb_ALL) rm (tb_Pre g M as) (tb_Q g M' o) 0 0 (tb_A g)
theorem tb_blind (g : tb_GT) (M : tb_Mem) (as : List Value) : FrameBlind (tb_Pre g M as) := fun a U gf mk h => ⟨h.1, h.2.1, h.2.2.calling gf mk a⟩
/-- what stands fast in a method's walk -/
def tb_F (g : tb_GT) (cc : ByteArray) (nL : Nat) (own : String) (ret : Option FieldType) (cw : Cond) (p : Program) (s : State) (m : MethodId) (args : Array Value) (meth : Method) (c : Code) : Prop :=
  CallFix p m c cc nL s args (cw :: tb_ALL) own ∧ meth.sig.returnType = ret ∧ meth.locks = false ∧ tb_G g s
theorem tb_entry {g : tb_GT} {l : Launch} {y : MethodName} {cc : ByteArray} {nL : Nat} {ret : Option FieldType} {rm : Room} {as : List Value} {M M' : tb_Mem} {o : Option Value} (hy : plainName y.cls = true) (hn : (lg_sl as).length ≤ nL)
    (body : ∀ (p : Program) (e : Env) (s : State) (m : MethodId) (below : List Frame) (meth : Method) (c : Code), tb_F g cc nL y.cls ret (Cond.code y cc nL ret) p s m as.toArray meth c → tb_P g M s.heap → va_S (tb_A g) s.heap s.heap [] → ∀ ls : Array Slot, lv_has ls nL (lv_args 0 as) → W p l e rm s m as.toArray below meth c s.heap [] 0 0 (MQ below (tb_Q g M' o) as.toArray s 0 0 (tb_A g)) (F0 m 0 ls [])) :
    tb_C g l y (Cond.code y cc nL ret) rm as M M' o := by
  refine Met.ofW (cc := cc) (maxL := nL) (ret := ret) hy rfl ?_
  intro p e s m args below meth c s₁ B hml hv
  obtain ⟨rfl, hP, hG⟩ := hv
  have hts := atoms_spec (ws := Cond.code y cc nL ret :: tb_ALL) B.pre
  rw [lg_entry_eq]
  exact body p e s m below meth c ⟨⟨B.exec, B.bytes, hml, findClass_of_methodNamed B.named, hts⟩, B.returns, B.notSynchronized, hG⟩ hP va_S.rf _ (lv_entry as hn)
section TBW
variable {p : Program} {l : Launch} {e : Env} {R : Room} {s : State} {m : MethodId} {args : Array Value} {below : List Frame} {meth : Method} {c : Code} {H : Heap} {locs : List Loc} {cells slots : Nat} {Q : State → Prop}
variable {g : tb_GT} {cc : ByteArray} {nL : Nat} {own : String} {ret : Option FieldType} {cw : Cond} {pc : Nat} {ls : Array Slot} {rest : List Value} {M : tb_Mem}
theorem tb_hts (F : tb_F g cc nL own ret cw p s m args meth c) {w : Cond} (h : w ∈ tb_ALL) : w.before args s = true := F.1.2.2.2.2 w (List.mem_cons_of_mem _ h)
theorem tb_at (hP : tb_P g M H) {q : Nat} {x : tb_LE} (hl : tb_lay q = x) (hx : x ≠ .inl (9, 0)) : (tb_w g M)[q]? = some (tb_ad g q, tb_cell g.2.1 (tb_ad g) x (M q)) := by
  rw [tb_w_get g M (tb_lay_lt hl hx), hl]
theorem tb_iald (F : tb_F g cc nL own ret cw p s m args meth c) (hP : tb_P g M H) {q n : Nat} (hl : tb_lay q = tb_ar n) {i : Int32} {k : Nat} (hk : i.toNatClampNeg = k) (hin : vp_in i n) (hdg : decode cc pc = .ok (.iaload, 1))
    (kk : W p l e R s m args below meth c H locs cells slots Q (F0 m (pc + 1) ls (.int (M q k) :: rest))) : W p l e R s m args below meth c H locs cells slots Q (F0 m pc ls (.int i :: .ref (tb_ad g q) :: rest)) := by
  subst hk
  exact va_iald F.1.1 F.1.2.1 F.2.2.2.1 hP q 0 (tb_at hP hl (by simp)) rfl hin hdg kk
theorem tb_zald (F : tb_F g cc nL own ret cw p s m args meth c) (hP : tb_P g M H) {q n : Nat} (hl : tb_lay q = .inl (1, n)) {i : Int32} {k : Nat} (hk : i.toNatClampNeg = k) (hin : vp_in i n) (hdg : decode cc pc = .ok (.baload, 1))
    (kk : W p l e R s m args below meth c H locs cells slots Q (F0 m (pc + 1) ls (.int (M q k) :: rest))) : W p l e R s m args below meth c H locs cells slots Q (F0 m pc ls (.int i :: .ref (tb_ad g q) :: rest)) := by
  subst hk
  exact va_zald F.1.1 F.1.2.1 F.2.2.2.1 hP q 1 (tb_at hP hl (by simp)) rfl hin hdg kk
theorem tb_iast (F : tb_F g cc nL own ret cw p s m args meth c) (hP : tb_P g M H) (hS : va_S (tb_A g) s.heap H locs) {q n : Nat} (hl : tb_lay q = tb_ar n) {i x : Int32} {k : Nat} (hk : i.toNatClampNeg = k) (hin : vp_in i n) (hdg : decode cc pc = .ok (.iastore, 1))
    (kk : ∀ (H1 : Heap) (locs1 : List Loc), tb_P g (tb_up M q k x) H1 → va_S (tb_A g) s.heap H1 locs1 → W p l e R s m args below meth c H1 locs1 cells slots Q (F0 m (pc + 1) ls rest)) : W p l e R s m args below meth c H locs cells slots Q (F0 m pc ls (.int x :: .int i :: .ref (tb_ad g q) :: rest)) := by
  subst hk
  have hq := tb_lay_lt hl (by simp)
  refine va_iast F.1.1 F.1.2.1 F.2.2.2.1 hP (F.2.2.2.D M) hS q 0 (tb_at hP hl (by simp)) rfl hin hdg (fun H1 locs1 a1 a2 a3 => kk H1 locs1 ?_ a3)
  rw [tb_w_set g M q (upd (M q) i.toNatClampNeg x) (by rw [hl]; rfl) hq] at a1
  exact a1
theorem tb_zast (F : tb_F g cc nL own ret cw p s m args meth c) (hP : tb_P g M H) (hS : va_S (tb_A g) s.heap H locs) {q n : Nat} (hl : tb_lay q = .inl (1, n)) {i x : Int32} {k : Nat} (hk : i.toNatClampNeg = k) (hx : vp_nar .boolean x = x) (hin : vp_in i n) (hdg : decode cc pc = .ok (.bastore, 1))
    (kk : ∀ (H1 : Heap) (locs1 : List Loc), tb_P g (tb_up M q k x) H1 → va_S (tb_A g) s.heap H1 locs1 → W p l e R s m args below meth c H1 locs1 cells slots Q (F0 m (pc + 1) ls rest)) : W p l e R s m args below meth c H locs cells slots Q (F0 m pc ls (.int x :: .int i :: .ref (tb_ad g q) :: rest)) := by
  subst hk
  have hq := tb_lay_lt hl (by simp)
  refine va_zast F.1.1 F.1.2.1 F.2.2.2.1 hP (F.2.2.2.D M) hS q 1 (tb_at hP hl (by simp)) rfl hin hdg (fun H1 locs1 a1 a2 a3 => kk H1 locs1 ?_ a3)
  rw [hx, tb_w_set g M q (upd (M q) i.toNatClampNeg x) (by rw [hl]; rfl) hq] at a1
  exact a1
theorem tb_aald (F : tb_F g cc nL own ret cw p s m args meth c) (hP : tb_P g M H) {q k : Nat} {L : List Nat} {C : String} (hl : tb_lay q = .inr (.inl (k, L))) (ht : (tb_tys g)[k]? = some (g.2.1 k, .object C)) {i : Int32} (hin : vp_in i L.length) {r : Nat} (hr : L[i.toNatClampNeg]? = some r) (hdg : decode cc pc = .ok (.aaload, 1))
    (kk : W p l e R s m args below meth c H locs cells slots Q (F0 m (pc + 1) ls (.ref (tb_ad g r) :: rest))) : W p l e R s m args below meth c H locs cells slots Q (F0 m pc ls (.int i :: .ref (tb_ad g q) :: rest)) := by
  refine va_aldq F.1.1 F.1.2.1 F.2.2.2.1 hP q k (tb_at hP hl (by simp)) ht hin hdg ?_
  rw [hr]
  exact kk
theorem tb_alen (F : tb_F g cc nL own ret cw p s m args meth c) (hP : tb_P g M H) {q n : Nat} (hl : tb_lay q = tb_ar n) {v : Int32} (hv : Int32.ofNat n = v) (hdg : decode cc pc = .ok (.arraylength, 1))
    (kk : W p l e R s m args below meth c H locs cells slots Q (F0 m (pc + 1) ls (.int v :: rest))) : W p l e R s m args below meth c H locs cells slots Q (F0 m pc ls (.ref (tb_ad g q) :: rest)) :=
  va_alen F.1.1 F.1.2.1 F.2.2.2.1 hP q 0 (tb_at hP hl (by simp)) rfl hv hdg kk
theorem tb_geti (F : tb_F g cc nL own ret cw p s m args meth c) (hP : tb_P g M H) {q ci N : Nat} {C : String} {T : u_T} {fl : List (Option Nat)} (hl : tb_lay q = tb_ob ci fl) (hc : vwCl[ci]? = some (C, T, N)) (hin : ∀ w ∈ u_ws C T N, w ∈ tb_ALL) (k : Nat) (hk : k < N) (hf : fl[k]? = some none) {index : Nat} (hlink : Cond.fieldLink own index (T k).1 (T k).2.1 (T k).2.2.1 ∈ tb_ALL) (hdg : decode cc pc = .ok (.getfield index, 3))
    (kk : W p l e R s m args below meth c H locs cells slots Q (F0 m (pc + 3) ls (.int (M q k) :: rest))) : W p l e R s m args below meth c H locs cells slots Q (F0 m pc ls (.ref (tb_ad g q) :: rest)) := by
  refine va_get F.1.1 F.1.2.1 (fun w h => F.1.2.2.2.2 w h) (fun w h => List.mem_cons_of_mem _ (hin w h)) F.1.2.2.2.1 F.2.2.2.1 hP q (tb_at hP hl (by simp)) hc k hk (tb_hts F hlink) (fun _ h9 => h9) (v := .int (M q k)) ?_ hdg kk
  rw [tb_fs_get, hf]
  simp
theorem tb_getr (F : tb_F g cc nL own ret cw p s m args meth c) (hP : tb_P g M H) {q ci N : Nat} {C : String} {T : u_T} {fl : List (Option Nat)} (hl : tb_lay q = tb_ob ci fl) (hc : vwCl[ci]? = some (C, T, N)) (hin : ∀ w ∈ u_ws C T N, w ∈ tb_ALL) (k : Nat) (hk : k < N) {r : Nat} (hf : fl[k]? = some (some r)) {index : Nat} (hlink : Cond.fieldLink own index (T k).1 (T k).2.1 (T k).2.2.1 ∈ tb_ALL) (hdg : decode cc pc = .ok (.getfield index, 3))
    (kk : W p l e R s m args below meth c H locs cells slots Q (F0 m (pc + 3) ls (.ref (tb_ad g r) :: rest))) : W p l e R s m args below meth c H locs cells slots Q (F0 m pc ls (.ref (tb_ad g q) :: rest)) := by
  refine va_get F.1.1 F.1.2.1 (fun w h => F.1.2.2.2.2 w h) (fun w h => List.mem_cons_of_mem _ (hin w h)) F.1.2.2.2.1 F.2.2.2.1 hP q (tb_at hP hl (by simp)) hc k hk (tb_hts F hlink) (fun _ h9 => h9) (v := .ref (tb_ad g r)) ?_ hdg kk
  rw [tb_fs_get, hf]
  rfl
theorem tb_puti (F : tb_F g cc nL own ret cw p s m args meth c) (hP : tb_P g M H) (hS : va_S (tb_A g) s.heap H locs) {q ci N : Nat} {C : String} {T : u_T} {fl : List (Option Nat)} (hl : tb_lay q = tb_ob ci fl) (hc : vwCl[ci]? = some (C, T, N)) (hin : ∀ w ∈ u_ws C T N, w ∈ tb_ALL) (ty0 : Nat → FieldType) (hty : ∀ k, k < N → parseFieldDescriptor (T k).2.2.1 = some (ty0 k)) (hnm : ∀ a, a < N → ∀ b, b < N → a ≠ b → (T a).2.1 ≠ (T b).2.1) (k : Nat) (hk : k < N) (hf : fl[k]? = some none) (hfin : (T k).2.2.2 = false) {x : Int32} (hn : narrow (ty0 k) (.int x) = .int x) (hfit : fits (ty0 k) (.int x) = true) {index : Nat} (hlink : Cond.fieldLink own index (T k).1 (T k).2.1 (T k).2.2.1 ∈ tb_ALL) (hdg : decode cc pc = .ok (.putfield index, 3))
    (kk : ∀ (H1 : Heap) (locs1 : List Loc), tb_P g (tb_up M q k x) H1 → va_S (tb_A g) s.heap H1 locs1 → W p l e R s m args below meth c H1 locs1 cells slots Q (F0 m (pc + 3) ls rest)) : W p l e R s m args below meth c H locs cells slots Q (F0 m pc ls (.int x :: .ref (tb_ad g q) :: rest)) := by
  have hq := tb_lay_lt hl (by simp)
  refine va_put F.1.1 F.1.2.1 (fun w h => F.1.2.2.2.2 w h) (fun w h => List.mem_cons_of_mem _ (hin w h)) ty0 hty hnm F.1.2.2.2.1 F.2.2.2.1 hP (F.2.2.2.D M) hS q (tb_at hP hl (by simp)) hc k hk (tb_hts F hlink) (fun _ h9 => h9) hfin (hty k hk) hn hfit ?_ hdg (fun H1 locs1 a1 a2 a3 => kk H1 locs1 ?_ a3)
  · have h1 := tb_fs_get (tb_ad g) (M q) fl 0 k
    rw [hf] at h1
    exact (List.getElem?_eq_some_iff.mp h1).1
  · rw [tb_fs_set _ _ _ _ _ hf, tb_w_set g M q (upd (M q) k x) (by rw [hl]; rfl) hq] at a1
    exact a1
theorem tb_gets (F : tb_F g cc nL own ret cw p s m args meth c) (hS : va_S (tb_A g) s.heap H locs) {k index : Nat} {C n d : String} (hZ : va_Z C n d (.ref (g.2.2.2.2 k)) (tb_A g) s s.heap) (hlink : Cond.fieldLink own index C n d ∈ tb_ALL) (hdg : decode cc pc = .ok (.getstatic index, 3))
    (kk : W p l e R s m args below meth c H locs cells slots Q (F0 m (pc + 3) ls (.ref (g.2.2.2.2 k) :: rest))) : W p l e R s m args below meth c H locs cells slots Q (F0 m pc ls rest) :=
  va_gets F.1.1 F.1.2.1 hZ hS F.1.2.2.2.1 (tb_hts F hlink) (fun _ h9 => h9) hdg kk
theorem tb_ti (F : tb_F g cc nL own ret cw p s m args meth c) (hS : va_S (tb_A g) s.heap H locs) {k : Nat} (hT : va_T .int (g.2.2.2.2 k) 6 (fun j => .int (tb_tab k j)) (tb_A g) s s.heap) {i : Int32} {j : Nat} (hk : i.toNatClampNeg = j) (hin : vp_in i 6) (hdg : decode cc pc = .ok (.iaload, 1))
    (kk : W p l e R s m args below meth c H locs cells slots Q (F0 m (pc + 1) ls (.int (tb_tab k j) :: rest))) : W p l e R s m args below meth c H locs cells slots Q (F0 m pc ls (.int i :: .ref (g.2.2.2.2 k) :: rest)) := by
  subst hk
  exact va_ti F.1.1 F.1.2.1 hT hS hin rfl hdg kk
theorem tb_mmax (F : tb_F g cc nL own ret cw p s m args meth c) (hsz : ls.size = nL) {index : Nat} (hlink : Cond.methodLink own index Lib.Math.max.name ∈ tb_ALL) (hframes : 1 ≤ R.frames) (hlocals : (rest.map fun v => v.category).sum + 13 ≤ R.locals) (hcs : cells ≤ R.cells ∧ slots ≤ R.slots) {x y : Int32} (hdg : decode cc pc = .ok (.invokestatic index, 3))
    (kk : W p l e R s m args below meth c H locs cells slots Q (F0 m (pc + 3) ls (.int (if x < y then y else x) :: rest))) : W p l e R s m args below meth c H locs cells slots Q (F0 m pc ls (.int y :: .int x :: rest)) :=
  va_mmax F.1.1 F.1.2.1 (F.1.2.2.1.trans hsz.symm) F.1.2.2.2.1 (tb_hts F hlink) (tb_hts F kn_maxS) (tb_hts F ki_J9) (tb_hts F kn_maxC) hframes hlocals hcs.1 hcs.2 hdg kk
theorem tb_mmin (F : tb_F g cc nL own ret cw p s m args meth c) (hsz : ls.size = nL) {index : Nat} (hlink : Cond.methodLink own index Lib.Math.min.name ∈ tb_ALL) (hframes : 1 ≤ R.frames) (hlocals : (rest.map fun v => v.category).sum + 13 ≤ R.locals) (hcs : cells ≤ R.cells ∧ slots ≤ R.slots) {x y : Int32} (hdg : decode cc pc = .ok (.invokestatic index, 3))
    (kk : W p l e R s m args below meth c H locs cells slots Q (F0 m (pc + 3) ls (.int (if y < x then y else x) :: rest))) : W p l e R s m args below meth c H locs cells slots Q (F0 m pc ls (.int y :: .int x :: rest)) :=
  va_mmin F.1.1 F.1.2.1 (F.1.2.2.1.trans hsz.symm) F.1.2.2.2.1 (tb_hts F hlink) (tb_hts F kn_minS) (tb_hts F ki_J9) (tb_hts F kn_minC) hframes hlocals hcs.1 hcs.2 hdg kk
/-- behind a call -/
theorem tb_call {M' : tb_Mem} {o : Option Value} {st0 : List Value} {a : Array Value} (hr : va_Run p l e R s m args below meth c H locs cells slots 0 0 (F0 m pc ls st0) rest (tb_Q g M' o a) (tb_A g)) (hS : va_S (tb_A g) s.heap H locs)
    (kk : ∀ (H1 : Heap) (locs1 : List Loc), tb_P g M' H1 → va_S (tb_A g) s.heap H1 locs1 → W p l e R s m args below meth c H1 locs1 cells slots Q (F0 m (pc + 3) ls (o.toList ++ rest))) : W p l e R s m args below meth c H locs cells slots Q (F0 m pc ls st0) := by
  intro T hT X
  obtain ⟨v, st₀, t, T', L, h0, X', hL, e1, e2, ⟨hv, hp, hz, hk⟩, st⟩ := hr T hT X
  cases hv
  rw [h0] at hz hk
  obtain ⟨t2, a1, b1⟩ := kk T'.heap (locs ++ L) (by rw [e1]; exact hp)
    ⟨Nat.le_trans hS.1 (by rw [e1]; exact hz), fun q h1 h2 => by rw [e1, hk q (Nat.lt_of_lt_of_le h1 hS.1) h2]; exact hS.2.1 q h1 h2, fun q hq => by
      rcases List.mem_append.mp hq with h | h
      · exact hS.2.2 q h
      · exact hL q h⟩ T' rfl X'
  exact ⟨t2, st t2 a1, b1⟩
theorem tb_goodC {z : MethodName} {zc : ByteArray} {zL : Nat} {zr : Option FieldType} (hcode : Cond.code z zc zL zr ∈ tb_ALL) {pre : List Cond} (hpre : ∀ w ∈ pre, w ∈ tb_ALL) : GoodIn (cw :: tb_ALL) (pre ++ (Cond.code z zc zL zr :: tb_ALL)) := by
  intro w hw
  have h1 : w ∈ tb_ALL := by
    rcases List.mem_append.mp hw with h | h
    · exact hpre w h
    · rcases List.mem_cons.mp h with h | h
      · rw [h]; exact hcode
      · exact h
  exact ⟨List.mem_cons_of_mem _ h1, good_of_word (tb_all h1).2⟩
theorem tb_pre (F : tb_F g cc nL own ret cw p s m args meth c) (hP : tb_P g M H) (hS : va_S (tb_A g) s.heap H locs) (as : List Value) : ∀ U : State, U.heap = H → s.WarmedH U.vm → tb_Pre g M as as.toArray U := fun U hU hW => ⟨rfl, by rw [hU]; exact hP, F.2.2.2.mv hS hU hW⟩
theorem tb_callV (F : tb_F g cc nL own ret cw p s m args meth c) (hP : tb_P g M H) (hS : va_S (tb_A g) s.heap H locs) (hsz : ls.size = nL) {z : MethodName} {zc : ByteArray} {zL : Nat} {zr : Option FieldType} {ci n q : Nat} {fl : List (Option Nat)} (Z : tb_MV z zc zL zr ci n) {index : Nat} (hlink : Cond.methodLink own index z ∈ tb_ALL) {zrm : Room} {as : List Value} {M' : tb_Mem} {o : Option Value} (C : tb_C g l z (Cond.code z zc zL zr) zrm (.ref (tb_ad g q) :: as) M M' o) (hl : tb_lay q = tb_ob ci fl)
    (hrm : zrm.cells = 0 ∧ zrm.slots = 0 ∧ zrm.frames + 1 ≤ R.frames ∧ 8 + (zL + 11) + zrm.locals ≤ R.locals) (hn : as.length = n) {st0 : List Value} (hst : st0 = as.reverse ++ .ref (tb_ad g q) :: rest) {st1 : List Value} (hst1 : o.toList ++ rest = st1) (hcat : (rest.map fun v => v.category).sum ≤ 8) (hcs : cells ≤ R.cells ∧ slots ≤ R.slots) (hdg : decode cc pc = .ok (.invokevirtual index, 3))
    (kk : ∀ (H1 : Heap) (locs1 : List Loc), tb_P g M' H1 → va_S (tb_A g) s.heap H1 locs1 → W p l e R s m args below meth c H1 locs1 cells slots Q (F0 m (pc + 3) ls st1)) : W p l e R s m args below meth c H locs cells slots Q (F0 m pc ls st0) := by
  subst hst1
  obtain ⟨T, N, hc⟩ := Z.2.2.2.2.2
  refine tb_call (va_runV (As := as) (rest := rest) F.1 C (cwV n F.1.2.2.2.2 (tb_goodC Z.2.2.2.1 (pre := [.methodLink own index z, .instanceMethod z, .selects z.cls z z, .initialized z.cls]) ?_) rfl hrm.1 hrm.2.1 Z.2.2.2.2.1 hrm.2.2) ⟨tb_blind g M _, va_recv F.2.2.2.1 hP hc (tb_at hP hl (by simp)), tb_pre F hP hS _⟩ rfl hn hsz hst (lv_room hcat) hdg hcs) hS kk
  intro w hw
  simp only [List.mem_cons, List.not_mem_nil, or_false] at hw
  rcases hw with h | h | h | h
  · rw [h]; exact hlink
  · rw [h]; exact Z.1
  · rw [h]; exact Z.2.1
  · rw [h]; exact Z.2.2.1
theorem tb_callS (F : tb_F g cc nL own ret cw p s m args meth c) (hP : tb_P g M H) (hS : va_S (tb_A g) s.heap H locs) (hsz : ls.size = nL) {z : MethodName} {zc : ByteArray} {zL : Nat} {zr : Option FieldType} {n : Nat} (Z : tb_MS z zc zL zr n) {index : Nat} (hlink : Cond.methodLink own index z ∈ tb_ALL) {zrm : Room} {as : List Value} {M' : tb_Mem} {o : Option Value} (C : tb_C g l z (Cond.code z zc zL zr) zrm as M M' o)
    (hrm : zrm.cells = 0 ∧ zrm.slots = 0 ∧ zrm.frames + 1 ≤ R.frames ∧ 8 + (zL + 11) + zrm.locals ≤ R.locals) (hn : as.length = n) {st0 : List Value} (hst : st0 = as.reverse ++ rest) {st1 : List Value} (hst1 : o.toList ++ rest = st1) (hcat : (rest.map fun v => v.category).sum ≤ 8) (hcs : cells ≤ R.cells ∧ slots ≤ R.slots) (hdg : decode cc pc = .ok (.invokestatic index, 3))
    (kk : ∀ (H1 : Heap) (locs1 : List Loc), tb_P g M' H1 → va_S (tb_A g) s.heap H1 locs1 → W p l e R s m args below meth c H1 locs1 cells slots Q (F0 m (pc + 3) ls st1)) : W p l e R s m args below meth c H locs cells slots Q (F0 m pc ls st0) := by
  subst hst1
  refine tb_call (va_runS (As := as) (rest := rest) F.1 C (va_cwS n F.1.2.2.2.2 (tb_goodC Z.2.2.1 (pre := [.methodLink own index z, .static z, .initialized z.cls]) ?_) rfl hrm.1 hrm.2.1 Z.2.2.2 hrm.2.2) ⟨tb_blind g M _, tb_pre F hP hS _⟩ rfl hn hsz hst (lv_room hcat) hdg hcs) hS kk
  intro w hw
  simp only [List.mem_cons, List.not_mem_nil, or_false] at hw
  rcases hw with h | h | h
  · rw [h]; exact hlink
  · rw [h]; exact Z.1
  · rw [h]; exact Z.2.1
theorem tb_callSN (F : tb_F g cc nL own ret cw p s m args meth c) (hP : tb_P g M H) (hS : va_S (tb_A g) s.heap H locs) (hsz : ls.size = nL) {z : MethodName} {zc : ByteArray} {zL : Nat} {zr : Option FieldType} {n : Nat} (Z : tb_MS z zc zL zr n) {index : Nat} {host : String} (hlink : va_Nw (.methodLinkNest own index z host) s) {zrm : Room} {as : List Value} {M' : tb_Mem} {o : Option Value} (C : tb_C g l z (Cond.code z zc zL zr) zrm as M M' o)
    (hrm : zrm.cells = 0 ∧ zrm.slots = 0 ∧ zrm.frames + 1 ≤ R.frames ∧ 8 + (zL + 11) + zrm.locals ≤ R.locals) (hn : as.length = n) {st0 : List Value} (hst : st0 = as.reverse ++ rest) {st1 : List Value} (hst1 : o.toList ++ rest = st1) (hcat : (rest.map fun v => v.category).sum ≤ 8) (hcs : cells ≤ R.cells ∧ slots ≤ R.slots) (hdg : decode cc pc = .ok (.invokestatic index, 3))
    (kk : ∀ (H1 : Heap) (locs1 : List Loc), tb_P g M' H1 → va_S (tb_A g) s.heap H1 locs1 → W p l e R s m args below meth c H1 locs1 cells slots Q (F0 m (pc + 3) ls st1)) : W p l e R s m args below meth c H locs cells slots Q (F0 m pc ls st0) := by
  subst hst1
  refine tb_call (va_runSN (As := as) (rest := rest) F.1 C ⟨va_cnB n F.1.2.2.2.2 (tb_goodC Z.2.2.1 (pre := []) (fun w hw => absurd hw List.not_mem_nil)) rfl hrm.1 hrm.2.1 hlink (tb_hts F Z.2.1) Z.2.2.2 hrm.2.2, tb_hts F Z.1, trivial⟩ ⟨tb_blind g M _, tb_pre F hP hS _⟩ rfl hn hsz hst (lv_room hcat) hdg hcs) hS kk
/-- the ends -/
theorem tb_iret {M0 M' : tb_Mem} {v r : Int32} (h : some (v, M0) = some (r, M')) (F : tb_F g cc nL own (some .int) cw p s m args meth c) (hP : tb_P g M0 H) (hS : va_S (tb_A g) s.heap H locs) (hdg : decode cc pc = .ok (.ireturn, 1)) : W p l e R s m args below meth c H locs cells slots (MQ below (tb_Q g M' (some (.int r))) args s cells slots (tb_A g)) (F0 m pc ls [.int v]) := by
  cases h
  exact W.iret F.1.1 F.1.2.1 F.2.1 (fun t ht hW => ⟨rfl, by rw [ht]; exact hP, hS.F ht⟩) hS.2.2 hdg F.2.2.1
theorem tb_zret {M0 M' : tb_Mem} {v r : Int32} (h : some (v, M0) = some (r, M')) (F : tb_F g cc nL own (some .boolean) cw p s m args meth c) (hn : narrow .boolean (.int v) = .int v) (hP : tb_P g M0 H) (hS : va_S (tb_A g) s.heap H locs) (hdg : decode cc pc = .ok (.ireturn, 1)) : W p l e R s m args below meth c H locs cells slots (MQ below (tb_Q g M' (some (.int r))) args s cells slots (tb_A g)) (F0 m pc ls [.int v]) := by
  cases h
  exact W.zret F.1.1 F.1.2.1 F.2.1 hn (fun t ht hW => ⟨rfl, by rw [ht]; exact hP, hS.F ht⟩) hS.2.2 hdg F.2.2.1
theorem tb_lret {M0 M' : tb_Mem} {v r : Int64} (h : some (v, M0) = some (r, M')) (F : tb_F g cc nL own (some .long) cw p s m args meth c) (hP : tb_P g M0 H) (hS : va_S (tb_A g) s.heap H locs) (hdg : decode cc pc = .ok (.lreturn, 1)) : W p l e R s m args below meth c H locs cells slots (MQ below (tb_Q g M' (some (.long r))) args s cells slots (tb_A g)) (F0 m pc ls [.long v]) := by
  cases h
  exact W.lret F.1.1 F.1.2.1 F.2.1 (fun t ht hW => ⟨rfl, by rw [ht]; exact hP, hS.F ht⟩) hS.2.2 hdg F.2.2.1
theorem tb_vret {M0 M' : tb_Mem} (h : some M0 = some M') (F : tb_F g cc nL own none cw p s m args meth c) (hP : tb_P g M0 H) (hS : va_S (tb_A g) s.heap H locs) (hdg : decode cc pc = .ok (.return_, 1)) : W p l e R s m args below meth c H locs cells slots (MQ below (tb_Q g M' none) args s cells slots (tb_A g)) (F0 m pc ls []) := by
  cases h
  exact W.vret F.1.1 F.1.2.1 F.2.1 (fun t ht hW => ⟨rfl, by rw [ht]; exact hP, hS.F ht⟩) hS.2.2 hdg F.2.2.1
theorem tb_aret {M0 M' : tb_Mem} {r : Nat} {C : String} (h : some M0 = some M') (F : tb_F g cc nL own (some (.object C)) cw p s m args meth c) (hP : tb_P g M0 H) (hS : va_S (tb_A g) s.heap H locs) (hdg : decode cc pc = .ok (.areturn, 1)) : W p l e R s m args below meth c H locs cells slots (MQ below (tb_Q g M' (some (.ref (tb_ad g r)))) args s cells slots (tb_A g)) (F0 m pc ls [.ref (tb_ad g r)]) := by
  cases h
  exact W.aret F.1.1 F.1.2.1 F.2.1 (Or.inl ⟨_, rfl⟩) (Or.inr ⟨_, rfl⟩) (fun t ht hW => ⟨rfl, by rw [ht]; exact hP, hS.F ht⟩) hS.2.2 hdg F.2.2.1
/-- System.arraycopy between int arrays -/
theorem tb_copy (F : tb_F g cc nL own ret cw p s m args meth c) (hP : tb_P g M H) (hS : va_S (tb_A g) s.heap H locs) (hsz : ls.size = nL) {q0 q1 n0 n1 : Nat} (hl0 : tb_lay q0 = tb_ar n0) (hl1 : tb_lay q1 = tb_ar n1) {index : Nat} (hlink : Cond.methodLink own index arraycopyName ∈ tb_ALL) (hnat : Cond.native arraycopyName ∈ tb_ALL) (hstat : Cond.static arraycopyName ∈ tb_ALL) (hini : Cond.initialized "java/lang/System" ∈ tb_ALL)
    {sp dp n : Int32} (h1 : ¬ sp < 0) (h2 : ¬ dp < 0) (h3 : ¬ n < 0) (h4 : sp.toNatClampNeg + n.toNatClampNeg ≤ n0) (h5 : dp.toNatClampNeg + n.toNatClampNeg ≤ n1) (hframes : 1 ≤ R.frames) (hlocals : (rest.map fun v => v.category).sum + (nativeFrameWords "java/lang/System" "arraycopy" 5 + 11) ≤ R.locals) (hdg : decode cc pc = .ok (.invokestatic index, 3))
    (kk : ∀ (H1 : Heap) (locs1 : List Loc), tb_P g (tb_row M q1 (va_cpy (M q0) (M q1) sp.toNatClampNeg dp.toNatClampNeg n.toNatClampNeg)) H1 → va_S (tb_A g) s.heap H1 locs1 → W p l e R s m args below meth c H1 locs1 cells slots Q (F0 m (pc + 3) ls rest)) : W p l e R s m args below meth c H locs cells slots Q (F0 m pc ls (.int n :: .int dp :: .ref (tb_ad g q1) :: .int sp :: .ref (tb_ad g q0) :: rest)) := by
  have hq := tb_lay_lt hl1 (by simp)
  refine va_copyi F.1.1 F.1.2.1 (F.1.2.2.1.trans hsz.symm) F.1.2.2.2.1 (tb_hts F hlink) (tb_hts F hnat) (tb_hts F hstat) (tb_hts F hini) F.2.2.2.1 hP (F.2.2.2.D M) hS q0 q1 0 0 (ty := .int) (tb_at hP hl0 (by simp)) (tb_at hP hl1 (by simp)) rfl rfl rfl h1 h2 h3 h4 h5 (fun i hi => rfl) hframes hlocals hdg (fun H1 locs1 a1 a2 a3 => kk H1 locs1 ?_ a3)
  rw [tb_w_set g M q1 (va_cpy (M q0) (M q1) sp.toNatClampNeg dp.toNatClampNeg n.toNatClampNeg) (by rw [hl1]; rfl) hq] at a1
  exact a1
theorem tb_mrg {g1 g2 : JFrame} (hb : W p l e R s m args below meth c H locs cells slots Q g2 → W p l e R s m args below meth c H locs cells slots Q g1) (hJ : W p l e R s m args below meth c H locs cells slots Q g2) : W p l e R s m args below meth c H locs cells slots Q g1 := hb hJ
theorem tb_nmi {x y : Int32} (hy : y = x) (k : W p l e R s m args below meth c H locs cells slots Q (F0 m pc ls (.int y :: rest))) : W p l e R s m args below meth c H locs cells slots Q (F0 m pc ls (.int x :: rest)) := by
  subst hy
  exact k
theorem tb_nml {x y : Int64} (hy : y = x) (k : W p l e R s m args below meth c H locs cells slots Q (F0 m pc ls (.long y :: rest))) : W p l e R s m args below meth c H locs cells slots Q (F0 m pc ls (.long x :: rest)) := by
  subst hy
  exact k
end TBW
/-! the words of the functions that the methods are -/
def tb_N : Nat := 5000
def tb_in (i : Int32) (n : Nat) : Bool := decide (0 ≤ i.toInt) && decide (i.toInt < n)
def tb_ck {α : Type} (b : Bool) (x : Option α) : Option α := match b with
  | true => x
  | false => none
def tb_b1 {α β : Type} (o : Option α) (k : α → Option β) : Option β := match o with
  | some a => k a
  | none => none
def tb_b2 {α β γ : Type} (o : Option (α × β)) (k : α → β → Option γ) : Option γ := match o with
  | some (a, b) => k a b
  | none => none
def tb_let {α β : Type} (v : α) (k : α → β) : β := k v
def tb_bl (v : Int32) : Bool := decide (v = 0 ∨ v = 1)
theorem tb_ip {α : Type} {c : Prop} [Decidable c] {a b x : α} (hc : c) (h : (if c then a else b) = x) : a = x := by rw [if_pos hc] at h; exact h
theorem tb_ineg {α : Type} {c : Prop} [Decidable c] {a b x : α} (hc : ¬ c) (h : (if c then a else b) = x) : b = x := by rw [if_neg hc] at h; exact h
theorem tb_cks {α : Type} {b : Bool} {x : Option α} {r : α} (h : tb_ck b x = some r) : b = true ∧ x = some r := by
  cases b with
  | true => exact ⟨rfl, h⟩
  | false => cases h
theorem tb_b1s {α β : Type} {o : Option α} {k : α → Option β} {r : β} (h : tb_b1 o k = some r) : ∃ a, o = some a ∧ k a = some r := by
  cases o with
  | none => cases h
  | some a => exact ⟨a, rfl, h⟩
theorem tb_b2s {α β γ : Type} {o : Option (α × β)} {k : α → β → Option γ} {r : γ} (h : tb_b2 o k = some r) : ∃ a b, o = some (a, b) ∧ k a b = some r := by
  cases o with
  | none => cases h
  | some q => exact ⟨q.1, q.2, rfl, h⟩
theorem tb_lets {α β : Type} {v : α} {k : α → Option β} {r : β} (h : tb_let v k = some r) : ∃ x, x = v ∧ k x = some r := ⟨v, rfl, h⟩
theorem tb_inv {i : Int32} {n : Nat} (h : tb_in i n = true) : vp_in i n := by
  simp only [tb_in, Bool.and_eq_true, decide_eq_true_eq] at h
  exact vp_in_iff.mpr h
theorem tb_bln {v : Int32} (h : tb_bl v = true) : narrow .boolean (.int v) = .int v := by
  simp only [tb_bl, decide_eq_true_eq] at h
  rcases h with h | h <;> rw [h] <;> rfl
theorem tb_none {α : Type} {r : α} {P : Prop} (h : (none : Option α) = some r) : P := by cases h
theorem tb_ne0 {x : Int32} (h : (x != 0) = true) : ¬ x = 0 := by simpa using h
theorem tb_ne0l {x : Int64} (h : (x != 0) = true) : ¬ x = 0 := by simpa using h

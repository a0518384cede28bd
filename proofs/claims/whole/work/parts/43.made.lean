/-! the making of the world: cells side by side, at the addresses tb_ad g 0, tb_ad g 1 .. -/
def cb_g (g : tb_GT) (b0 : Nat) : Prop := (∀ q, tb_ad g q = b0 + q) ∧ (∀ q, tb_A g q ↔ b0 ≤ q)
def cb_N (U : State) : Prop :=
  va_Nw (.methodLinkNest RX6 17 yX5_init RX6) U ∧ va_Nw (.methodLinkNest RX6 24 yX2_init RX6) U ∧ va_Nw (.methodLinkNest RX6 41 yX3_init RX6) U ∧ va_Nw (.methodLinkNest RX6 52 yX1_init RX6) U ∧ va_Nw (.methodLinkNest RX6 57 yX4_init RX6) U ∧ va_Nw (.methodLinkNest RX0 17 yX2_init RX6) U ∧ va_Nw (.methodLinkNest RX3 11 yX2_init RX6) U ∧ va_AO RX4 U ∧ va_AO RX2 U
theorem cb_N.mv {s U : State} (h : cb_N s) (hW : s.WarmedH U.vm) : cb_N U := by
  obtain ⟨h1, h2, h3, h4, h5, h6, h7, h8, h9⟩ := h
  exact ⟨h1.warmM hW, h2.warmM hW, h3.warmM hW, h4.warmM hW, h5.warmM hW, h6.warmM hW, h7.warmM hW, h8.moved hW.alike, h9.moved hW.alike⟩
theorem cb_N.same {s U : State} (h : cb_N s) (e : s.vm = U.vm) : cb_N U := by
  obtain ⟨h1, h2, h3, h4, h5, h6, h7, h8, h9⟩ := h
  have ha : s.vm.Alike U.vm := by rw [e]; exact Vm.Alike.refl U.vm
  exact ⟨h1.same rfl e, h2.same rfl e, h3.same rfl e, h4.same rfl e, h5.same rfl e, h6.same rfl e, h7.same rfl e, h8.moved ha, h9.moved ha⟩
def cb_up (E : Nat → va_E) (p : Nat) (e : va_E) : Nat → va_E := fun q => if q = p then e else E q
theorem cb_up_s (E : Nat → va_E) (p : Nat) (e : va_E) : cb_up E p e p = e := by simp [cb_up]
theorem cb_up_n {E : Nat → va_E} {p q : Nat} {e : va_E} (h : q ≠ p) : cb_up E p e q = E q := by simp [cb_up, h]
def cb_P (g : tb_GT) (n : Nat) (E : Nat → va_E) (H : Heap) : Prop := H.size = tb_ad g n ∧ ∀ q, q < n → va_at g.1 vwCl (tb_ad g q, E q) H
def cb_w (g : tb_GT) (n : Nat) (E : Nat → va_E) : va_W := (List.range n).map (fun q => (tb_ad g q, E q))
theorem cb_w_get (g : tb_GT) {n q : Nat} (E : Nat → va_E) (h : q < n) : (cb_w g n E)[q]? = some (tb_ad g q, E q) := by simp [cb_w, h]
theorem cb_P.list {g : tb_GT} {n : Nat} {E : Nat → va_E} {H : Heap} (h : cb_P g n E H) : va_P g.1 vwCl (cb_w g n E) H := by
  intro k q hk
  have hl : k < (cb_w g n E).length := (List.getElem?_eq_some_iff.mp hk).1
  have hl2 : k < n := by simpa [cb_w] using hl
  rw [cb_w_get g E hl2] at hk
  cases hk
  exact h.2 k hl2
theorem cb_P.cg {g : tb_GT} {n : Nat} {E E' : Nat → va_E} {H : Heap} (h : cb_P g n E H) (he : ∀ q, q < n → E q = E' q) : cb_P g n E' H := ⟨h.1, fun q hq => by rw [← he q hq]; exact h.2 q hq⟩
theorem cb_P.push {g : tb_GT} {b0 n : Nat} {E : Nat → va_E} {H H1 : Heap} {e : va_E} (hg : cb_g g b0) (h : cb_P g n E H) (z : H1.size = H.size + 1) (o : ∀ q, q < H.size → H1[q]? = H[q]?) (he : va_at g.1 vwCl (tb_ad g n, e) H1) : cb_P g (n + 1) (cb_up E n e) H1 := by
  refine ⟨by rw [z, h.1, hg.1, hg.1]; omega, fun q hq => ?_⟩
  by_cases hn : q = n
  · subst hn; rw [cb_up_s]; exact he
  · rw [cb_up_n hn]
    exact (h.2 q (by omega)).kept (o _ (h.2 q (by omega)).lt)
theorem cb_P.set {g : tb_GT} {b0 n p : Nat} {E : Nat → va_E} {H H1 : Heap} {e : va_E} (hg : cb_g g b0) (h : cb_P g n E H) (z : H1.size = H.size) (o : ∀ q : Nat, q ≠ tb_ad g p → H1[q]? = H[q]?) (he : va_at g.1 vwCl (tb_ad g p, e) H1) : cb_P g n (cb_up E p e) H1 := by
  refine ⟨by rw [z]; exact h.1, fun q hq => ?_⟩
  by_cases hn : q = p
  · subst hn; rw [cb_up_s]; exact he
  · rw [cb_up_n hn]
    exact (h.2 q hq).kept (o _ (by rw [hg.1, hg.1]; omega))
/-- a maker's contract: the world of n cells E becomes the world of n' cells E' -/
def cb_Pre (g : tb_GT) (n : Nat) (E : Nat → va_E) (as : List Value) : Array Value → State → Prop := va_Pc as (fun U => cb_P g n E U.heap ∧ tb_G g U ∧ cb_N U)
def cb_Q (g : tb_GT) (n' : Nat) (E' : Nat → va_E) : Array Value → State → Outcome → State → Prop := fun _ st oc t => oc = .returned none ∧ cb_P g n' E' t.heap ∧ va_F (tb_A g) st t
def cb_C (g : tb_GT) (l : Launch) (y : MethodName) (cw : Cond) (rm : Room) (as : List Value) (n n' : Nat) (E E' : Nat → va_E) (mc ms : Nat) : Prop := Met l y (cw :: tb_ALL) rm (cb_Pre g n E as) (cb_Q g n' E') mc ms (tb_A g)
theorem cb_blind (g : tb_GT) (n : Nat) (E : Nat → va_E) (as : List Value) : FrameBlind (cb_Pre g n E as) := fun a U gf mk h => ⟨h.1, h.2.1, h.2.2.1.calling gf mk a, h.2.2.2.same rfl⟩
def cb_F (g : tb_GT) (b0 : Nat) (cc : ByteArray) (nL : Nat) (own : String) (ret : Option FieldType) (cw : Cond) (p : Program) (s : State) (m : MethodId) (args : Array Value) (meth : Method) (c : Code) : Prop :=
  tb_F g cc nL own ret cw p s m args meth c ∧ cb_N s ∧ cb_g g b0 ∧ b0 ≤ s.heap.size
theorem cb_entry {g : tb_GT} {b0 : Nat} {l : Launch} {y : MethodName} {cc : ByteArray} {nL : Nat} {rm : Room} {as : List Value} {n n' : Nat} {E E' : Nat → va_E} {mc ms : Nat} (hg : cb_g g b0) (hy : plainName y.cls = true) (hn : (lg_sl as).length ≤ nL) (hi : y.name = "<init>")
    (body : ∀ (p : Program) (e : Env) (s : State) (m : MethodId) (below : List Frame) (meth : Method) (c : Code), cb_F g b0 cc nL y.cls none (Cond.code y cc nL none) p s m as.toArray meth c → meth.name = "<init>" → cb_P g n E s.heap → va_S (tb_A g) s.heap s.heap [] → ∀ ls : Array Slot, lv_has ls nL (lv_args 0 as) → W p l e rm s m as.toArray below meth c s.heap [] 0 0 (MQ below (cb_Q g n' E') as.toArray s mc ms (tb_A g)) (F0 m 0 ls [])) :
    cb_C g l y (Cond.code y cc nL none) rm as n n' E E' mc ms := by
  refine Met.ofW (cc := cc) (maxL := nL) (ret := none) hy rfl ?_
  intro p e s m args below meth c s₁ B hml hv
  obtain ⟨rfl, hP, hG, hN⟩ := hv
  have hts := atoms_spec (ws := Cond.code y cc nL none :: tb_ALL) B.pre
  have hin : meth.name = y.name := (name_of_methodNamed B.named B.method).1
  rw [lg_entry_eq]
  exact body p e s m below meth c ⟨⟨⟨B.exec, B.bytes, hml, findClass_of_methodNamed B.named, hts⟩, B.returns, B.notSynchronized, hG⟩, hN, hg, by rw [hP.1, hg.1]; omega⟩ (hin.trans hi) hP va_S.rf _ (lv_entry as hn)
theorem cb_S.push {A : Nat → Prop} {H0 H H1 : Heap} {locs : List Loc} (hS : va_S A H0 H locs) (z : H1.size = H.size + 1) (o : ∀ q, q < H.size → H1[q]? = H[q]?) : va_S A H0 H1 locs :=
  ⟨Nat.le_trans hS.1 (by omega), fun x h1 h2 => (o x (Nat.lt_of_lt_of_le h1 hS.1)).trans (hS.2.1 x h1 h2), hS.2.2⟩
theorem cb_hts {g : tb_GT} {b0 : Nat} {cc : ByteArray} {nL : Nat} {own : String} {ret : Option FieldType} {cw : Cond} {p : Program} {s : State} {m : MethodId} {args : Array Value} {meth : Method} {c : Code} (F : cb_F g b0 cc nL own ret cw p s m args meth c) {w : Cond} (h : w ∈ tb_ALL) : w.before args s = true := tb_hts F.1 h
section CBW
variable {p : Program} {l : Launch} {e : Env} {R : Room} {s : State} {m : MethodId} {args : Array Value} {below : List Frame} {meth : Method} {c : Code} {H : Heap} {locs : List Loc} {cells slots : Nat} {Q : State → Prop}
variable {g : tb_GT} {b0 : Nat} {cc : ByteArray} {nL : Nat} {own : String} {ret : Option FieldType} {cw : Cond} {pc : Nat} {ls : Array Slot} {rest : List Value} {n : Nat} {E : Nat → va_E}
theorem cb_new (F : cb_F g b0 cc nL own ret cw p s m args meth c) (hP : cb_P g n E H) (hS : va_S (tb_A g) s.heap H locs) {ci N index : Nat} {C : String} {T : u_T} (hc : vwCl[ci]? = some (C, T, N)) (hin : ∀ w ∈ u_ws C T N, w ∈ tb_ALL) (ty : Nat → FieldType) (hty : ∀ k, k < N → parseFieldDescriptor (T k).2.2.1 = some (ty k)) (hcl : Cond.classLink own index C ∈ tb_ALL) (hinst : Cond.instantiable C N ∈ tb_ALL) (hini : Cond.initialized C ∈ tb_ALL) {fs : List Value} (hfs : ∀ j, j < N → defaultValue (ty j) = vp_V fs j) (hcells : cells + 1 ≤ R.cells) (hslots : slots + N ≤ R.slots) (hdg : decode cc pc = .ok (.new index, 3))
    (kk : ∀ H1 : Heap, cb_P g (n + 1) (cb_up E n (.inr (ci, fs))) H1 → va_S (tb_A g) s.heap H1 locs → W p l e R s m args below meth c H1 locs (cells + 1) (slots + N) Q (F0 m (pc + 3) ls (.ref (tb_ad g n) :: rest))) : W p l e R s m args below meth c H locs cells slots Q (F0 m pc ls rest) := by
  have hKn := F.1.2.2.2.1.1 ci _ hc
  refine W.newcK F.1.1.1 F.1.1.2.1 F.1.1.2.2.2.1 (cb_hts F hcl) (cb_hts F hinst) (cb_hts F hini) rfl hdg hcells hslots hKn.2.1 hP.1 fun H1 kC hkC e1 z1 o1 => ?_
  rw [← hP.1] at z1 o1
  exact kk H1 (hP.push F.2.2.1 z1 o1 ⟨_, hc, (u_born ty (fun w h => F.1.1.2.2.2.2 w h) (fun w h => List.mem_cons_of_mem _ (hin w h)) hKn hkC e1 hty).to hfs⟩) (cb_S.push hS z1 o1)
theorem cb_newi (F : cb_F g b0 cc nL own ret cw p s m args meth c) (hP : cb_P g n E H) (hS : va_S (tb_A g) s.heap H locs) {x : Int32} {N : Nat} (harr : Cond.arrayClass .int ∈ tb_ALL) (hx0 : ¬ x < 0) (hN : x.toNatClampNeg = N) (hbytes : N * 4 ≤ 536870912) (hcells : cells + 1 ≤ R.cells) (hslots : slots + N ≤ R.slots) (hdg : decode cc pc = .ok (.newarray .int, 2))
    (kk : ∀ H1 : Heap, cb_P g (n + 1) (cb_up E n (.inl (g.2.1 0, N, .inl (fun _ => 0)))) H1 → va_S (tb_A g) s.heap H1 locs → W p l e R s m args below meth c H1 locs (cells + 1) (slots + N) Q (F0 m (pc + 2) ls (.ref (tb_ad g n) :: rest))) : W p l e R s m args below meth c H locs cells slots Q (F0 m pc ls (.int x :: rest)) := by
  refine va_newaK (atype := .int) F.1.1.1 F.1.1.2.1 (cb_hts F harr) rfl hdg rfl hx0 hN hbytes hcells hslots hP.1 fun H1 cA e1 z1 o1 hAr hNm => ?_
  rw [← hP.1] at z1 o1
  have h0 : s.vm.findClass ("[" ++ (FieldType.int).toString) = some (g.2.1 0) := (F.1.2.2.2.1.2 0 (g.2.1 0, .int) rfl).2
  have hcA : cA = g.2.1 0 := Option.some.inj (hNm.symm.trans h0)
  subst hcA
  exact kk H1 (hP.push F.2.2.1 z1 o1 e1) (cb_S.push hS z1 o1)
theorem cb_newz (F : cb_F g b0 cc nL own ret cw p s m args meth c) (hP : cb_P g n E H) (hS : va_S (tb_A g) s.heap H locs) {x : Int32} {N : Nat} (harr : Cond.arrayClass .boolean ∈ tb_ALL) (hx0 : ¬ x < 0) (hN : x.toNatClampNeg = N) (hbytes : N * 1 ≤ 536870912) (hcells : cells + 1 ≤ R.cells) (hslots : slots + N ≤ R.slots) (hdg : decode cc pc = .ok (.newarray .boolean, 2))
    (kk : ∀ H1 : Heap, cb_P g (n + 1) (cb_up E n (.inl (g.2.1 1, N, .inl (fun _ => 0)))) H1 → va_S (tb_A g) s.heap H1 locs → W p l e R s m args below meth c H1 locs (cells + 1) (slots + N) Q (F0 m (pc + 2) ls (.ref (tb_ad g n) :: rest))) : W p l e R s m args below meth c H locs cells slots Q (F0 m pc ls (.int x :: rest)) := by
  refine va_newaK (atype := .boolean) F.1.1.1 F.1.1.2.1 (cb_hts F harr) rfl hdg rfl hx0 hN hbytes hcells hslots hP.1 fun H1 cA e1 z1 o1 hAr hNm => ?_
  rw [← hP.1] at z1 o1
  have h0 : s.vm.findClass ("[" ++ (FieldType.boolean).toString) = some (g.2.1 1) := (F.1.2.2.2.1.2 1 (g.2.1 1, .boolean) rfl).2
  have hcA : cA = g.2.1 1 := Option.some.inj (hNm.symm.trans h0)
  subst hcA
  exact kk H1 (hP.push F.2.2.1 z1 o1 e1) (cb_S.push hS z1 o1)
theorem cb_newq (F : cb_F g b0 cc nL own ret cw p s m args meth c) (hP : cb_P g n E H) (hS : va_S (tb_A g) s.heap H locs) {C : String} {index t0 : Nat} (hcl : Cond.classLink own index C ∈ tb_ALL) (hover : va_AO C s) (ht : (tb_tys g)[t0]? = some (g.2.1 t0, .object C)) {x : Int32} {N : Nat} (hx0 : ¬ x < 0) (hN : x.toNatClampNeg = N) (hbytes : N * 4 ≤ 536870912) (hcells : cells + 1 ≤ R.cells) (hslots : slots + N ≤ R.slots) (hdg : decode cc pc = .ok (.anewarray index, 3))
    (kk : ∀ H1 : Heap, cb_P g (n + 1) (cb_up E n (.inl (g.2.1 t0, N, .inr (.inr (.inr (.inr (fun _ => none))))))) H1 → va_S (tb_A g) s.heap H1 locs → W p l e R s m args below meth c H1 locs (cells + 1) (slots + N) Q (F0 m (pc + 3) ls (.ref (tb_ad g n) :: rest))) : W p l e R s m args below meth c H locs cells slots Q (F0 m pc ls (.int x :: rest)) := by
  subst hN
  refine W.anew F.1.1.1 F.1.1.2.1 F.1.1.2.2.2.1 (cb_hts F hcl) (va_AO.use hover) rfl hdg rfl hx0 hbytes hcells hslots fun cA kA comp f1 f2 f3 f4 => ?_
  generalize hH1 : H.push ({ cls := cA, slots := Array.replicate x.toNatClampNeg .null, vm := .none } : Cell) = H1
  have z1 : H1.size = H.size + 1 := by rw [← hH1, Array.size_push]
  have e1 : H1[H.size]? = some (arrV cA x.toNatClampNeg (fun _ => .null)) := by rw [← hH1, Array.getElem?_push_size, ← arrV_new]
  have o1 : ∀ q : Nat, q < H.size → H1[q]? = H[q]? := fun q hq => by rw [← hH1, Array.getElem?_push, if_neg (Nat.ne_of_lt hq)]
  obtain ⟨kA', comp', -, -, -, h0⟩ := (F.1.2.2.2.1.2 t0 (g.2.1 t0, .object C) ht).2
  have hcA : cA = g.2.1 t0 := Option.some.inj (f1.symm.trans h0)
  subst hcA
  rw [hP.1] at e1
  have k1 := kk H1 (hP.push F.2.2.1 z1 o1 e1) (cb_S.push hS z1 o1)
  rw [← hP.1] at k1
  exact k1
theorem cb_get (F : cb_F g b0 cc nL own ret cw p s m args meth c) (hP : cb_P g n E H) {q ci N : Nat} {C : String} {T : u_T} {fs : List Value} (hq : q < n) (he : E q = .inr (ci, fs)) (hc : vwCl[ci]? = some (C, T, N)) (hin : ∀ w ∈ u_ws C T N, w ∈ tb_ALL) (k : Nat) (hk : k < N) {v : Value} (hv : fs[k]? = some v) {index : Nat} (hlink : Cond.fieldLink own index (T k).1 (T k).2.1 (T k).2.2.1 ∈ tb_ALL) (hdg : decode cc pc = .ok (.getfield index, 3))
    (kk : W p l e R s m args below meth c H locs cells slots Q (F0 m (pc + 3) ls (v :: rest))) : W p l e R s m args below meth c H locs cells slots Q (F0 m pc ls (.ref (tb_ad g q) :: rest)) :=
  va_get F.1.1.1 F.1.1.2.1 (fun w h => F.1.1.2.2.2.2 w h) (fun w h => List.mem_cons_of_mem _ (hin w h)) F.1.1.2.2.2.1 F.1.2.2.2.1 hP.list q (by rw [cb_w_get g E hq, he]) hc k hk (cb_hts F hlink) (fun _ h9 => h9) hv hdg kk
theorem cb_putF (F : cb_F g b0 cc nL own ret cw p s m args meth c) (hin2 : meth.name = "<init>") (hP : cb_P g n E H) (hS : va_S (tb_A g) s.heap H locs) {q ci N : Nat} {C : String} {T : u_T} {fs : List Value} (hq : q < n) (he : E q = .inr (ci, fs)) (hc : vwCl[ci]? = some (C, T, N)) (hin : ∀ w ∈ u_ws C T N, w ∈ tb_ALL) (ty0 : Nat → FieldType) (hty : ∀ k, k < N → parseFieldDescriptor (T k).2.2.1 = some (ty0 k)) (hnm : ∀ a, a < N → ∀ b, b < N → a ≠ b → (T a).2.1 ≠ (T b).2.1) (k : Nat) (hk : k < N) (hfin : (T k).2.2.2 = true) (hdecl : (T k).1 = own) {v : Value} (hn : narrow (ty0 k) v = v) (hfit : fits (ty0 k) v = true) (hl : k < fs.length) {index : Nat} (hlink : Cond.fieldLink own index (T k).1 (T k).2.1 (T k).2.2.1 ∈ tb_ALL) (hdg : decode cc pc = .ok (.putfield index, 3))
    (kk : ∀ (H1 : Heap) (locs1 : List Loc), cb_P g n (cb_up E q (.inr (ci, fs.set k v))) H1 → va_S (tb_A g) s.heap H1 locs1 → W p l e R s m args below meth c H1 locs1 cells slots Q (F0 m (pc + 3) ls rest)) : W p l e R s m args below meth c H locs cells slots Q (F0 m pc ls (v :: .ref (tb_ad g q) :: rest)) := by
  have hts : ∀ w ∈ cw :: tb_ALL, w.before args s = true := F.1.1.2.2.2.2
  have hin' : ∀ w ∈ u_ws C T N, w ∈ cw :: tb_ALL := fun w h => List.mem_cons_of_mem _ (hin w h)
  have hK := F.1.2.2.2.1
  have hown := F.1.1.2.2.2.1
  have hap := va_apart (own := own) hts hin' ty0 hty hnm hK hc
  obtain ⟨r, h1, cell, q1, q2, q3, q4⟩ : va_at g.1 vwCl (tb_ad g q, .inr (ci, fs)) H := by rw [← he]; exact hP.2 q hq
  have hr : r = (C, T, N) := Option.some.inj (h1.symm.trans hc)
  subst hr
  obtain ⟨hSl, hfc, kC, hkC, hkind⟩ := hK.1 ci _ hc
  obtain ⟨cf, kf, fi, f, hi, hsl⟩ := hSl k hk
  have hlay := hts _ (hin' _ (u_in_lay hk))
  unfold u_lay at hlay
  rw [if_pos hfin] at hlay
  have hst := (u_facts hfc hkC (u_lays hts hin' hk) hi).1
  have hcf : m.cls = cf := by
    obtain ⟨_, _, c', _, _, _, -, -, hf', -, -, -, hown2, -⟩ := Cond.laysFinal_spec hlay
    have e1 : c' = cf := by have := hi.symm.trans hf'; simp at this; exact this.1.symm
    rw [hdecl] at hown2
    rw [← e1]; exact Option.some.inj (hown.symm.trans hown2)
  have h6 := u_fits hfc hkC hkind (Or.inr hlay) hi (hty k hk) hn hfit
  refine W.putFinK F.1.1.1 F.1.1.2.1 hown (cb_hts F hlink) hi hst hcf hin2 (by rw [q2]; exact h6) q1 q3 (by rw [hsl]; exact k2_hasslot (q4 k hk)) rfl rfl hdg fun H' e1 e2 e3 => ?_
  rw [hsl] at e1 ⊢
  exact kk H' _ (hP.set F.2.2.1 e2 e3 ⟨_, hc, t_OB.to (V := updV (vp_V fs) k v) ⟨_, e1, q2, q3, t_set q4 hap hk v⟩ (fun j _ => vp_updV_set hl v j)⟩) (hS.put e2 e3 ((F.2.2.1.2 _).mpr (by rw [F.2.2.1.1]; omega)))
theorem cb_put (F : cb_F g b0 cc nL own ret cw p s m args meth c) (hP : cb_P g n E H) (hS : va_S (tb_A g) s.heap H locs) {q ci N : Nat} {C : String} {T : u_T} {fs : List Value} (hq : q < n) (he : E q = .inr (ci, fs)) (hc : vwCl[ci]? = some (C, T, N)) (hin : ∀ w ∈ u_ws C T N, w ∈ tb_ALL) (ty0 : Nat → FieldType) (hty : ∀ k, k < N → parseFieldDescriptor (T k).2.2.1 = some (ty0 k)) (hnm : ∀ a, a < N → ∀ b, b < N → a ≠ b → (T a).2.1 ≠ (T b).2.1) (k : Nat) (hk : k < N) (hfin : (T k).2.2.2 = false) {v : Value} (hn : narrow (ty0 k) v = v) (hfit : fits (ty0 k) v = true) (hl : k < fs.length) {index : Nat} (hlink : Cond.fieldLink own index (T k).1 (T k).2.1 (T k).2.2.1 ∈ tb_ALL) (hdg : decode cc pc = .ok (.putfield index, 3))
    (kk : ∀ (H1 : Heap) (locs1 : List Loc), cb_P g n (cb_up E q (.inr (ci, fs.set k v))) H1 → va_S (tb_A g) s.heap H1 locs1 → W p l e R s m args below meth c H1 locs1 cells slots Q (F0 m (pc + 3) ls rest)) : W p l e R s m args below meth c H locs cells slots Q (F0 m pc ls (v :: .ref (tb_ad g q) :: rest)) := by
  have hts : ∀ w ∈ cw :: tb_ALL, w.before args s = true := F.1.1.2.2.2.2
  have hin' : ∀ w ∈ u_ws C T N, w ∈ cw :: tb_ALL := fun w h => List.mem_cons_of_mem _ (hin w h)
  have hK := F.1.2.2.2.1
  have hown := F.1.1.2.2.2.1
  have hap := va_apart (own := own) hts hin' ty0 hty hnm hK hc
  obtain ⟨r, h1, cell, q1, q2, q3, q4⟩ : va_at g.1 vwCl (tb_ad g q, .inr (ci, fs)) H := by rw [← he]; exact hP.2 q hq
  have hr : r = (C, T, N) := Option.some.inj (h1.symm.trans hc)
  subst hr
  obtain ⟨hSl, hfc, kC, hkC, hkind⟩ := hK.1 ci _ hc
  obtain ⟨cf, kf, fi, f, hi, hsl⟩ := hSl k hk
  have hlay := hts _ (hin' _ (u_in_lay hk))
  unfold u_lay at hlay
  rw [if_neg (by rw [hfin]; decide)] at hlay
  have hst := (u_facts hfc hkC (u_lays hts hin' hk) hi).1
  have h6 := u_store hfc hkC hkind hlay hi (hty k hk) hn hfit
  refine W.putK F.1.1.1 F.1.1.2.1 (f := f) ⟨hown, cb_hts F hlink, ⟨_, _, _, hi⟩, hst⟩ (by rw [q2]; exact h6) q1 q3 (by rw [hsl]; exact k2_hasslot (q4 k hk)) rfl rfl hdg fun H' e1 e2 e3 => ?_
  rw [hsl] at e1 ⊢
  exact kk H' _ (hP.set F.2.2.1 e2 e3 ⟨_, hc, t_OB.to (V := updV (vp_V fs) k v) ⟨_, e1, q2, q3, t_set q4 hap hk v⟩ (fun j _ => vp_updV_set hl v j)⟩) (hS.put e2 e3 ((F.2.2.1.2 _).mpr (by rw [F.2.2.1.1]; omega)))
theorem cb_ast (F : cb_F g b0 cc nL own ret cw p s m args meth c) (hP : cb_P g n E H) (hS : va_S (tb_A g) s.heap H locs) {q t0 r ci N : Nat} {C : String} {T : u_T} {K : Nat} {vs : List Value} {f : Nat → Option Nat} (hq : q < n) (he : E q = .inl (g.2.1 t0, N, .inr (.inr (.inr (.inr f))))) (ht : (tb_tys g)[t0]? = some (g.2.1 t0, .object C)) (hr : r < n) (hv : E r = .inr (ci, vs)) (hc : vwCl[ci]? = some (C, T, K)) {i : Int32} {k : Nat} (hk : i.toNatClampNeg = k) (hin : vp_in i N) (hdg : decode cc pc = .ok (.aastore, 1))
    (kk : ∀ (H1 : Heap) (locs1 : List Loc), cb_P g n (cb_up E q (.inl (g.2.1 t0, N, .inr (.inr (.inr (.inr (va_up f k (some (tb_ad g r))))))))) H1 → va_S (tb_A g) s.heap H1 locs1 → W p l e R s m args below meth c H1 locs1 cells slots Q (F0 m (pc + 1) ls rest)) : W p l e R s m args below meth c H locs cells slots Q (F0 m pc ls (.ref (tb_ad g r) :: .int i :: .ref (tb_ad g q) :: rest)) := by
  subst hk
  have hK := F.1.2.2.2.1
  have hlt : i.toNatClampNeg < N := Nat.not_le.mp fun q => hin (Or.inr q)
  have h0 : ¬ i < 0 := fun q => hin (Or.inl q)
  obtain ⟨r', hr', cellV, g1, g2, g3, -⟩ : va_at g.1 vwCl (tb_ad g r, .inr (ci, vs)) H := by rw [← hv]; exact hP.2 r hr
  have ha : H[tb_ad g q]? = some (vp_cell (g.2.1 t0) (N, .inr (.inr (.inr (.inr f))))) := by
    have := hP.2 q hq
    rw [he] at this
    exact this
  have hcls := (hK.1 ci _ hc).2
  obtain ⟨kA, comp, k1, k2, k3, -⟩ := (hK.2 t0 _ ht).2
  have hcomp : comp = g.1.1 ci := Option.some.inj (k3.symm.trans hcls.1)
  subst hcomp
  obtain ⟨kC, hkC, -⟩ := hcls.2
  refine W.aast F.1.1.1 F.1.1.2.1 ha (fun q h => by cases h) (fun h => by cases h) k1 k2 rfl hkC ⟨h0, by show _ < (arrV _ _ _).slots.size; rw [arrV_size]; exact hlt⟩ g1 (fun q h => by rw [g3] at h; cases h) (by rw [g2]; exact hkC) (by rw [g2]; exact va_assign hcls) rfl rfl hdg fun H1 e z oq => ?_
  refine kk H1 _ (hP.set F.2.2.1 z oq ?_) (hS.put z oq ((F.2.2.1.2 _).mpr (by rw [F.2.2.1.1]; omega)))
  show H1[tb_ad g q]? = some (vp_cell _ _)
  rw [e]
  rw [vp_cell_q, vp_cell_q, arrV_store]
  congr 2
  funext q
  by_cases hq : q = i.toNatClampNeg
  · subst hq
    simp [updV, va_up, va_rf]
  · simp [updV, va_up, hq]
theorem cb_ist (F : cb_F g b0 cc nL own ret cw p s m args meth c) (hP : cb_P g n E H) (hS : va_S (tb_A g) s.heap H locs) {q N : Nat} {f : Nat → Int32} (hq : q < n) (he : E q = .inl (g.2.1 0, N, .inl f)) {i x : Int32} {k : Nat} (hk : i.toNatClampNeg = k) (hin : vp_in i N) (hdg : decode cc pc = .ok (.iastore, 1))
    (kk : ∀ (H1 : Heap) (locs1 : List Loc), cb_P g n (cb_up E q (.inl (g.2.1 0, N, .inl (upd f k x)))) H1 → va_S (tb_A g) s.heap H1 locs1 → W p l e R s m args below meth c H1 locs1 cells slots Q (F0 m (pc + 1) ls rest)) : W p l e R s m args below meth c H locs cells slots Q (F0 m pc ls (.int x :: .int i :: .ref (tb_ad g q) :: rest)) := by
  subst hk
  have hK := F.1.2.2.2.1
  have hlt : i.toNatClampNeg < N := Nat.not_le.mp fun q => hin (Or.inr q)
  have ha : H[tb_ad g q]? = some (vp_cell (g.2.1 0) (N, .inl f)) := by
    have := hP.2 q hq
    rw [he] at this
    exact this
  refine W.iast F.1.1.1 F.1.1.2.1 ha ((hK.2 0 (g.2.1 0, .int) rfl).1 N (fun j => .int (f j))) (fun h => by cases h) (by show ¬ (i < 0 ∨ (arrV _ _ _).slots.size ≤ _); rw [arrV_size]; exact hin) rfl rfl hdg fun H1 e z oq => ?_
  refine kk H1 _ (hP.set F.2.2.1 z oq ?_) (hS.put z oq ((F.2.2.1.2 _).mpr (by rw [F.2.2.1.1]; omega)))
  show H1[tb_ad g q]? = some (vp_cell _ _)
  rw [e]
  rw [vp_cell_i, vp_cell_i, arrV_store]
  congr 2
  funext q
  by_cases hq : q = i.toNatClampNeg
  · subst hq
    simp [updV, upd]
  · simp [updV, upd, hq]
theorem cb_obj (F : cb_F g b0 cc nL own ret cw p s m args meth c) (hsz : ls.size = nL) {index : Nat} (hlink : Cond.methodLink own index objectInit ∈ tb_ALL) (hinst : Cond.instanceMethod objectInit ∈ tb_ALL) (hcode : Cond.code objectInit ⟨#[0xb1]⟩ 1 none ∈ tb_ALL) (hfr : 1 ≤ R.frames) (hlo : 12 ≤ R.locals) {a : Nat} (hdg : decode cc pc = .ok (.invokespecial index, 3))
    (kk : W p l e R s m args below meth c H locs cells slots Q (F0 m (pc + 3) ls [])) : W p l e R s m args below meth c H locs cells slots Q (F0 m pc ls [.ref a]) := by
  refine W.objInit F.1.1.1 F.1.1.2.1 F.1.1.2.2.2.1 (cb_hts F hlink) (cb_hts F hinst) (cb_hts F hcode) rfl (by rw [F.1.1.2.2.1]; exact hsz) rfl hdg hfr (by show 2 * 0 + 0 + 12 ≤ _; omega) ?_
  exact kk
theorem cb_call {n' : Nat} {E' : Nat → va_E} {mc ms : Nat} {st0 : List Value} {a : Array Value} (hr : va_Run p l e R s m args below meth c H locs cells slots mc ms (F0 m pc ls st0) rest (cb_Q g n' E' a) (tb_A g)) (hS : va_S (tb_A g) s.heap H locs)
    (kk : ∀ (H1 : Heap) (locs1 : List Loc), cb_P g n' E' H1 → va_S (tb_A g) s.heap H1 locs1 → W p l e R s m args below meth c H1 locs1 (cells + mc) (slots + ms) Q (F0 m (pc + 3) ls rest)) : W p l e R s m args below meth c H locs cells slots Q (F0 m pc ls st0) := by
  intro T hT X
  obtain ⟨v, st₀, t, T', L, h0, X', hL, e1, e2, ⟨hv, hp, hz, hk⟩, st⟩ := hr T hT X
  cases hv
  rw [h0] at hz hk
  obtain ⟨t2, a1, b1⟩ := kk T'.heap (locs ++ L) (by rw [e1]; exact hp)
    ⟨Nat.le_trans hS.1 (by rw [e1]; exact hz), fun q h1 h2 => by rw [e1, hk q (Nat.lt_of_lt_of_le h1 hS.1) h2]; exact hS.2.1 q h1 h2, fun q hq => by
      rcases List.mem_append.mp hq with h | h
      · exact hS.2.2 q h
      · exact hL q h⟩ T' rfl X'
  exact ⟨t2, st t2 a1, b1⟩
theorem cb_pre (F : cb_F g b0 cc nL own ret cw p s m args meth c) (hP : cb_P g n E H) (hS : va_S (tb_A g) s.heap H locs) (as : List Value) : ∀ U : State, U.heap = H → s.WarmedH U.vm → cb_Pre g n E as as.toArray U := fun U hU hW => ⟨rfl, by rw [hU]; exact hP, F.1.2.2.2.mv hS hU hW, F.2.1.mv hW⟩
theorem cb_callI (F : cb_F g b0 cc nL own ret cw p s m args meth c) (hP : cb_P g n E H) (hS : va_S (tb_A g) s.heap H locs) (hsz : ls.size = nL) {z : MethodName} {zc : ByteArray} {zL q : Nat} (hcode : Cond.code z zc zL none ∈ tb_ALL) (hinst : Cond.instanceMethod z ∈ tb_ALL) (hini : Cond.initialized z.cls ∈ tb_ALL) (hnm : z.name = "<init>") (hd : z.cls ≠ "java/lang/invoke/MethodHandle" ∧ z.cls ≠ "java/lang/invoke/VarHandle" ∧ (parseMethodDescriptor z.desc).map (fun d => d.parameters.length) = some 0) {index : Nat} (hlink : Cond.methodLink own index z ∈ tb_ALL) {zrm : Room} {n' mc ms : Nat} {E' : Nat → va_E} (C : cb_C g l z (Cond.code z zc zL none) zrm [.ref (tb_ad g q)] n n' E E' mc ms)
    (hrm : zrm.cells = mc ∧ zrm.slots = ms ∧ zrm.frames + 1 ≤ R.frames ∧ 8 + (zL + 11) + zrm.locals ≤ R.locals) (hcat : (rest.map fun v => v.category).sum ≤ 8) (hcs : cells + mc ≤ R.cells ∧ slots + ms ≤ R.slots) (hdg : decode cc pc = .ok (.invokespecial index, 3))
    (kk : ∀ (H1 : Heap) (locs1 : List Loc), cb_P g n' E' H1 → va_S (tb_A g) s.heap H1 locs1 → W p l e R s m args below meth c H1 locs1 (cells + mc) (slots + ms) Q (F0 m (pc + 3) ls rest)) : W p l e R s m args below meth c H locs cells slots Q (F0 m pc ls (.ref (tb_ad g q) :: rest)) :=
  cb_call (va_runI (As := []) (rest := rest) F.1.1 C (cwI 0 F.1.1.2.2.2.2 (tb_goodC hcode (pre := []) (fun w hw => absurd hw List.not_mem_nil)) rfl hrm.1 hrm.2.1 (cb_hts F hini) (cb_hts F hlink) (cb_hts F hinst) hnm hd hrm.2.2) ⟨cb_blind g n E _, cb_pre F hP hS _⟩ rfl rfl hsz rfl (lv_room hcat) hdg hcs) hS kk
theorem cb_callN (F : cb_F g b0 cc nL own ret cw p s m args meth c) (hP : cb_P g n E H) (hS : va_S (tb_A g) s.heap H locs) (hsz : ls.size = nL) {z : MethodName} {zc : ByteArray} {zL q : Nat} (hcode : Cond.code z zc zL none ∈ tb_ALL) (hinst : Cond.instanceMethod z ∈ tb_ALL) (hini : Cond.initialized z.cls ∈ tb_ALL) (hnm : z.name = "<init>") (hd : z.cls ≠ "java/lang/invoke/MethodHandle" ∧ z.cls ≠ "java/lang/invoke/VarHandle" ∧ (parseMethodDescriptor z.desc).map (fun d => d.parameters.length) = some 0) {index : Nat} {host : String} (hlink : va_Nw (.methodLinkNest own index z host) s) {zrm : Room} {n' mc ms : Nat} {E' : Nat → va_E} (C : cb_C g l z (Cond.code z zc zL none) zrm [.ref (tb_ad g q)] n n' E E' mc ms)
    (hrm : zrm.cells = mc ∧ zrm.slots = ms ∧ zrm.frames + 1 ≤ R.frames ∧ 8 + (zL + 11) + zrm.locals ≤ R.locals) (hcat : (rest.map fun v => v.category).sum ≤ 8) (hcs : cells + mc ≤ R.cells ∧ slots + ms ≤ R.slots) (hdg : decode cc pc = .ok (.invokespecial index, 3))
    (kk : ∀ (H1 : Heap) (locs1 : List Loc), cb_P g n' E' H1 → va_S (tb_A g) s.heap H1 locs1 → W p l e R s m args below meth c H1 locs1 (cells + mc) (slots + ms) Q (F0 m (pc + 3) ls rest)) : W p l e R s m args below meth c H locs cells slots Q (F0 m pc ls (.ref (tb_ad g q) :: rest)) :=
  cb_call (va_runIN (As := []) (rest := rest) F.1.1 C ⟨va_cnB 0 F.1.1.2.2.2.2 (tb_goodC hcode (pre := []) (fun w hw => absurd hw List.not_mem_nil)) rfl hrm.1 hrm.2.1 hlink (cb_hts F hini) hd hrm.2.2, hnm, cb_hts F hinst⟩ ⟨cb_blind g n E _, cb_pre F hP hS _⟩ rfl rfl hsz rfl (lv_room hcat) hdg hcs) hS kk
theorem cb_vret {n' : Nat} {E' : Nat → va_E} (F : cb_F g b0 cc nL own none cw p s m args meth c) (hP : cb_P g n' E' H) (hS : va_S (tb_A g) s.heap H locs) {mc ms : Nat} (hc : cells ≤ mc) (hs : slots ≤ ms) (hdg : decode cc pc = .ok (.return_, 1)) : W p l e R s m args below meth c H locs cells slots (MQ below (cb_Q g n' E') args s mc ms (tb_A g)) (F0 m pc ls []) := by
  refine W.widen (k := mc) (n := ms) hc hs ?_
  exact W.vret F.1.1.1 F.1.1.2.1 F.1.2.1 (fun t ht hW => ⟨rfl, by rw [ht]; exact hP, hS.F ht⟩) hS.2.2 hdg F.1.2.2.1
end CBW
/-! words of the makers -/
theorem ko_inst : Cond.instanceMethod objectInit ∈ tb_ALL := tb_k1 19 (by decide +kernel) rfl
theorem ko_code : Cond.code objectInit ⟨#[0xb1]⟩ 1 none ∈ tb_ALL := tb_k1 20 rfl rfl
theorem ka_int : Cond.arrayClass .int ∈ tb_ALL := tb_k1 41 (by decide +kernel) rfl
theorem ka_bool : Cond.arrayClass .boolean ∈ tb_ALL := tb_k3 236 (by decide +kernel) rfl
theorem kl_L_7 : Cond.classLink RL 7 RX6 ∈ tb_ALL := tb_k1 13 (by decide +kernel) rfl
theorem kl_L_10 : Cond.classLink RL 10 RX7 ∈ tb_ALL := tb_k3 172 (by decide +kernel) rfl
theorem kl_X6_9 : Cond.classLink RX6 9 RX4 ∈ tb_ALL := tb_k1 21 (by decide +kernel) rfl
theorem kl_X6_15 : Cond.classLink RX6 15 RX5 ∈ tb_ALL := tb_k1 23 (by decide +kernel) rfl
theorem kl_X6_22 : Cond.classLink RX6 22 RX2 ∈ tb_ALL := tb_k1 42 (by decide +kernel) rfl
theorem kl_X6_32 : Cond.classLink RX6 32 RX0 ∈ tb_ALL := tb_k1 111 (by decide +kernel) rfl
theorem kl_X6_39 : Cond.classLink RX6 39 RX3 ∈ tb_ALL := tb_k1 131 (by decide +kernel) rfl
theorem kl_X6_50 : Cond.classLink RX6 50 RX1 ∈ tb_ALL := tb_k1 157 (by decide +kernel) rfl
theorem kl_X0_9 : Cond.classLink RX0 9 RX2 ∈ tb_ALL := tb_k1 117 (by decide +kernel) rfl
theorem kl_X3_9 : Cond.classLink RX3 9 RX2 ∈ tb_ALL := tb_k1 137 (by decide +kernel) rfl
theorem kq_X6 : Cond.instantiable RX6 10 ∈ tb_ALL := tb_k1 14 (by decide +kernel) rfl
theorem kq_X5 : Cond.instantiable RX5 3 ∈ tb_ALL := tb_k1 24 (by decide +kernel) rfl
theorem kq_X2 : Cond.instantiable RX2 13 ∈ tb_ALL := tb_k1 43 (by decide +kernel) rfl
theorem kq_X0 : Cond.instantiable RX0 3 ∈ tb_ALL := tb_k1 112 (by decide +kernel) rfl
theorem kq_X3 : Cond.instantiable RX3 5 ∈ tb_ALL := tb_k1 132 (by decide +kernel) rfl
theorem kq_X1 : Cond.instantiable RX1 2 ∈ tb_ALL := tb_k1 158 (by decide +kernel) rfl
theorem kq_X4 : Cond.instantiable RX4 4 ∈ tb_ALL := tb_k1 172 (by decide +kernel) rfl
theorem kq_X7 : Cond.instantiable RX7 19 ∈ tb_ALL := tb_k3 173 (by decide +kernel) rfl

-- ===== PART A: goes FIRST, ahead of the names: the tables' words, and 'selects' of the private methods out of them =====
/-- a private method of a class that the tables say can be made, by its rows of tables_1 -/
def lw_okq (q : MethodName × Nat) : Prop := (q.1.cls ≠ "java/lang/invoke/MethodHandle" ∧ q.1.cls ≠ "java/lang/invoke/VarHandle") ∧ Cond.instantiable q.1.cls q.2 ∈ tables_1 ∧ Cond.privateMethod q.1 ∈ tables_1 ∧ Cond.instanceMethod q.1 ∈ tables_1
theorem lw_p0 : lw_okq (⟨"TypeBars", "found", "(I)I"⟩, 10) := ⟨⟨by decide +kernel, by decide +kernel⟩, List.mem_of_getElem? (i := 14) (by decide +kernel), List.mem_of_getElem? (i := 238) (by decide +kernel), List.mem_of_getElem? (i := 239) (by decide +kernel)⟩
theorem lw_p1 : lw_okq (⟨"TypeBars", "fine", "(I)I"⟩, 10) := ⟨⟨by decide +kernel, by decide +kernel⟩, List.mem_of_getElem? (i := 14) (by decide +kernel), List.mem_of_getElem? (i := 250) (by decide +kernel), List.mem_of_getElem? (i := 251) (by decide +kernel)⟩
theorem lw_p2 : lw_okq (⟨"TypeBars", "findingOf", "(III)I"⟩, 10) := ⟨⟨by decide +kernel, by decide +kernel⟩, List.mem_of_getElem? (i := 14) (by decide +kernel), List.mem_of_getElem? (i := 258) (by decide +kernel), List.mem_of_getElem? (i := 259) (by decide +kernel)⟩
theorem lw_p3 : lw_okq (⟨"TypeBars$Tape", "readBar", "(LTypeBars$Basket;)I"⟩, 3) := ⟨⟨by decide +kernel, by decide +kernel⟩, List.mem_of_getElem? (i := 24) (by decide +kernel), List.mem_of_getElem? (i := 307) (by decide +kernel), List.mem_of_getElem? (i := 308) (by decide +kernel)⟩
theorem lw_p4 : lw_okq (⟨"TypeBars$Tape", "byteAt", "(I)I"⟩, 3) := ⟨⟨by decide +kernel, by decide +kernel⟩, List.mem_of_getElem? (i := 24) (by decide +kernel), List.mem_of_getElem? (i := 311) (by decide +kernel), List.mem_of_getElem? (i := 312) (by decide +kernel)⟩
theorem lw_p5 : lw_okq (⟨"TypeBars$Tape", "figuresHere", "()I"⟩, 3) := ⟨⟨by decide +kernel, by decide +kernel⟩, List.mem_of_getElem? (i := 24) (by decide +kernel), List.mem_of_getElem? (i := 319) (by decide +kernel), List.mem_of_getElem? (i := 320) (by decide +kernel)⟩
theorem lw_p6 : lw_okq (⟨"TypeBars$Tape", "numberHere", "(I)I"⟩, 3) := ⟨⟨by decide +kernel, by decide +kernel⟩, List.mem_of_getElem? (i := 24) (by decide +kernel), List.mem_of_getElem? (i := 323) (by decide +kernel), List.mem_of_getElem? (i := 324) (by decide +kernel)⟩
theorem lw_p7 : lw_okq (⟨"TypeBars$Basket", "riseAndFall", "()V"⟩, 13) := ⟨⟨by decide +kernel, by decide +kernel⟩, List.mem_of_getElem? (i := 43) (by decide +kernel), List.mem_of_getElem? (i := 366) (by decide +kernel), List.mem_of_getElem? (i := 367) (by decide +kernel)⟩
theorem lw_p8 : lw_okq (⟨"TypeBars$Basket", "heightByTime", "(I)I"⟩, 13) := ⟨⟨by decide +kernel, by decide +kernel⟩, List.mem_of_getElem? (i := 43) (by decide +kernel), List.mem_of_getElem? (i := 374) (by decide +kernel), List.mem_of_getElem? (i := 375) (by decide +kernel)⟩
theorem lw_p9 : lw_okq (⟨"TypeBars$Basket", "meeting", "()I"⟩, 13) := ⟨⟨by decide +kernel, by decide +kernel⟩, List.mem_of_getElem? (i := 43) (by decide +kernel), List.mem_of_getElem? (i := 381) (by decide +kernel), List.mem_of_getElem? (i := 382) (by decide +kernel)⟩
theorem lw_p10 : lw_okq (⟨"TypeBars$Basket", "print", "()I"⟩, 13) := ⟨⟨by decide +kernel, by decide +kernel⟩, List.mem_of_getElem? (i := 43) (by decide +kernel), List.mem_of_getElem? (i := 391) (by decide +kernel), List.mem_of_getElem? (i := 392) (by decide +kernel)⟩
theorem lw_p11 : lw_okq (⟨"TypeBars$Basket", "strike", "(I)V"⟩, 13) := ⟨⟨by decide +kernel, by decide +kernel⟩, List.mem_of_getElem? (i := 43) (by decide +kernel), List.mem_of_getElem? (i := 395) (by decide +kernel), List.mem_of_getElem? (i := 396) (by decide +kernel)⟩
theorem lw_p12 : lw_okq (⟨"TypeBars$Foretelling", "staysClear", "(I)Z"⟩, 5) := ⟨⟨by decide +kernel, by decide +kernel⟩, List.mem_of_getElem? (i := 132) (by decide +kernel), List.mem_of_getElem? (i := 502) (by decide +kernel), List.mem_of_getElem? (i := 503) (by decide +kernel)⟩
theorem lw_p13 : lw_okq (⟨"TypeBars$Foretelling", "leastPace", "(I)I"⟩, 5) := ⟨⟨by decide +kernel, by decide +kernel⟩, List.mem_of_getElem? (i := 132) (by decide +kernel), List.mem_of_getElem? (i := 520) (by decide +kernel), List.mem_of_getElem? (i := 521) (by decide +kernel)⟩
theorem lw_p14 : lw_okq (⟨"TypeBars$Foretelling", "goesAt", "(I)Z"⟩, 5) := ⟨⟨by decide +kernel, by decide +kernel⟩, List.mem_of_getElem? (i := 132) (by decide +kernel), List.mem_of_getElem? (i := 524) (by decide +kernel), List.mem_of_getElem? (i := 525) (by decide +kernel)⟩
theorem lw_p15 : lw_okq (⟨"TypeBars$Foretelling", "suppose", "(III)V"⟩, 5) := ⟨⟨by decide +kernel, by decide +kernel⟩, List.mem_of_getElem? (i := 132) (by decide +kernel), List.mem_of_getElem? (i := 548) (by decide +kernel), List.mem_of_getElem? (i := 549) (by decide +kernel)⟩
def lw_privs_1 : List (MethodName × Nat) := [(⟨"TypeBars", "found", "(I)I"⟩, 10), (⟨"TypeBars", "fine", "(I)I"⟩, 10), (⟨"TypeBars", "findingOf", "(III)I"⟩, 10), (⟨"TypeBars$Tape", "readBar", "(LTypeBars$Basket;)I"⟩, 3), (⟨"TypeBars$Tape", "byteAt", "(I)I"⟩, 3), (⟨"TypeBars$Tape", "figuresHere", "()I"⟩, 3), (⟨"TypeBars$Tape", "numberHere", "(I)I"⟩, 3), (⟨"TypeBars$Basket", "riseAndFall", "()V"⟩, 13), (⟨"TypeBars$Basket", "heightByTime", "(I)I"⟩, 13), (⟨"TypeBars$Basket", "meeting", "()I"⟩, 13), (⟨"TypeBars$Basket", "print", "()I"⟩, 13), (⟨"TypeBars$Basket", "strike", "(I)V"⟩, 13), (⟨"TypeBars$Foretelling", "staysClear", "(I)Z"⟩, 5), (⟨"TypeBars$Foretelling", "leastPace", "(I)I"⟩, 5), (⟨"TypeBars$Foretelling", "goesAt", "(I)Z"⟩, 5), (⟨"TypeBars$Foretelling", "suppose", "(III)V"⟩, 5)]
theorem lw_r1 : ∀ q ∈ lw_privs_1, lw_okq q := List.forall_mem_cons.mpr ⟨lw_p0, List.forall_mem_cons.mpr ⟨lw_p1, List.forall_mem_cons.mpr ⟨lw_p2, List.forall_mem_cons.mpr ⟨lw_p3, List.forall_mem_cons.mpr ⟨lw_p4, List.forall_mem_cons.mpr ⟨lw_p5, List.forall_mem_cons.mpr ⟨lw_p6, List.forall_mem_cons.mpr ⟨lw_p7, List.forall_mem_cons.mpr ⟨lw_p8, List.forall_mem_cons.mpr ⟨lw_p9, List.forall_mem_cons.mpr ⟨lw_p10, List.forall_mem_cons.mpr ⟨lw_p11, List.forall_mem_cons.mpr ⟨lw_p12, List.forall_mem_cons.mpr ⟨lw_p13, List.forall_mem_cons.mpr ⟨lw_p14, List.forall_mem_cons.mpr ⟨lw_p15, fun _ h => absurd h List.not_mem_nil⟩⟩⟩⟩⟩⟩⟩⟩⟩⟩⟩⟩⟩⟩⟩⟩
theorem lw_p16 : lw_okq (⟨"TypeBars$Foretelling", "risesAsHeard", "(I)Z"⟩, 5) := ⟨⟨by decide +kernel, by decide +kernel⟩, List.mem_of_getElem? (i := 132) (by decide +kernel), List.mem_of_getElem? (i := 554) (by decide +kernel), List.mem_of_getElem? (i := 555) (by decide +kernel)⟩
theorem lw_p17 : lw_okq (⟨"TypeBars$Asking", "give", "(ILTypeBars$Basket;II)I"⟩, 2) := ⟨⟨by decide +kernel, by decide +kernel⟩, List.mem_of_getElem? (i := 158) (by decide +kernel), List.mem_of_getElem? (i := 619) (by decide +kernel), List.mem_of_getElem? (i := 620) (by decide +kernel)⟩
theorem lw_p18 : lw_okq (⟨"TypeBars$Asking", "leave", "(I)V"⟩, 2) := ⟨⟨by decide +kernel, by decide +kernel⟩, List.mem_of_getElem? (i := 158) (by decide +kernel), List.mem_of_getElem? (i := 623) (by decide +kernel), List.mem_of_getElem? (i := 624) (by decide +kernel)⟩
theorem lw_p19 : lw_okq (⟨"TypeBars", "countRows", "()I"⟩, 10) := ⟨⟨by decide +kernel, by decide +kernel⟩, List.mem_of_getElem? (i := 14) (by decide +kernel), List.mem_of_getElem? (i := 641) (by decide +kernel), List.mem_of_getElem? (i := 642) (by decide +kernel)⟩
theorem lw_p20 : lw_okq (⟨"TypeBarsModel", "ends", "(I)I"⟩, 19) := ⟨⟨by decide +kernel, by decide +kernel⟩, List.mem_of_getElem? (i := 653) (by decide +kernel), List.mem_of_getElem? (i := 730) (by decide +kernel), List.mem_of_getElem? (i := 731) (by decide +kernel)⟩
theorem lw_p21 : lw_okq (⟨"TypeBarsModel", "lies", "(III)Z"⟩, 19) := ⟨⟨by decide +kernel, by decide +kernel⟩, List.mem_of_getElem? (i := 653) (by decide +kernel), List.mem_of_getElem? (i := 741) (by decide +kernel), List.mem_of_getElem? (i := 742) (by decide +kernel)⟩
theorem lw_p22 : lw_okq (⟨"TypeBarsModel", "readsAll", "()Z"⟩, 19) := ⟨⟨by decide +kernel, by decide +kernel⟩, List.mem_of_getElem? (i := 653) (by decide +kernel), List.mem_of_getElem? (i := 766) (by decide +kernel), List.mem_of_getElem? (i := 767) (by decide +kernel)⟩
theorem lw_p23 : lw_okq (⟨"TypeBarsModel", "letterAt", "(I)I"⟩, 19) := ⟨⟨by decide +kernel, by decide +kernel⟩, List.mem_of_getElem? (i := 653) (by decide +kernel), List.mem_of_getElem? (i := 770) (by decide +kernel), List.mem_of_getElem? (i := 771) (by decide +kernel)⟩
theorem lw_p24 : lw_okq (⟨"TypeBarsModel", "fails", "(I)Z"⟩, 19) := ⟨⟨by decide +kernel, by decide +kernel⟩, List.mem_of_getElem? (i := 653) (by decide +kernel), List.mem_of_getElem? (i := 777) (by decide +kernel), List.mem_of_getElem? (i := 778) (by decide +kernel)⟩
theorem lw_p25 : lw_okq (⟨"TypeBarsModel", "reads", "(I)Z"⟩, 19) := ⟨⟨by decide +kernel, by decide +kernel⟩, List.mem_of_getElem? (i := 653) (by decide +kernel), List.mem_of_getElem? (i := 781) (by decide +kernel), List.mem_of_getElem? (i := 782) (by decide +kernel)⟩
theorem lw_p26 : lw_okq (⟨"TypeBarsModel", "isBasket", "()Z"⟩, 19) := ⟨⟨by decide +kernel, by decide +kernel⟩, List.mem_of_getElem? (i := 653) (by decide +kernel), List.mem_of_getElem? (i := 797) (by decide +kernel), List.mem_of_getElem? (i := 798) (by decide +kernel)⟩
theorem lw_p27 : lw_okq (⟨"TypeBarsModel", "keeps", "()V"⟩, 19) := ⟨⟨by decide +kernel, by decide +kernel⟩, List.mem_of_getElem? (i := 653) (by decide +kernel), List.mem_of_getElem? (i := 802) (by decide +kernel), List.mem_of_getElem? (i := 803) (by decide +kernel)⟩
theorem lw_p28 : lw_okq (⟨"TypeBarsModel", "isBar", "(I)Z"⟩, 19) := ⟨⟨by decide +kernel, by decide +kernel⟩, List.mem_of_getElem? (i := 653) (by decide +kernel), List.mem_of_getElem? (i := 831) (by decide +kernel), List.mem_of_getElem? (i := 832) (by decide +kernel)⟩
theorem lw_p29 : lw_okq (⟨"TypeBarsModel", "goesOn", "(I)V"⟩, 19) := ⟨⟨by decide +kernel, by decide +kernel⟩, List.mem_of_getElem? (i := 653) (by decide +kernel), List.mem_of_getElem? (i := 879) (by decide +kernel), List.mem_of_getElem? (i := 880) (by decide +kernel)⟩
theorem lw_p30 : lw_okq (⟨"TypeBarsModel", "clear", "(II)Z"⟩, 19) := ⟨⟨by decide +kernel, by decide +kernel⟩, List.mem_of_getElem? (i := 653) (by decide +kernel), List.mem_of_getElem? (i := 898) (by decide +kernel), List.mem_of_getElem? (i := 899) (by decide +kernel)⟩
theorem lw_p31 : lw_okq (⟨"TypeBarsModel", "paceBy", "(IIII)I"⟩, 19) := ⟨⟨by decide +kernel, by decide +kernel⟩, List.mem_of_getElem? (i := 653) (by decide +kernel), List.mem_of_getElem? (i := 906) (by decide +kernel), List.mem_of_getElem? (i := 907) (by decide +kernel)⟩
def lw_privs_2 : List (MethodName × Nat) := [(⟨"TypeBars$Foretelling", "risesAsHeard", "(I)Z"⟩, 5), (⟨"TypeBars$Asking", "give", "(ILTypeBars$Basket;II)I"⟩, 2), (⟨"TypeBars$Asking", "leave", "(I)V"⟩, 2), (⟨"TypeBars", "countRows", "()I"⟩, 10), (⟨"TypeBarsModel", "ends", "(I)I"⟩, 19), (⟨"TypeBarsModel", "lies", "(III)Z"⟩, 19), (⟨"TypeBarsModel", "readsAll", "()Z"⟩, 19), (⟨"TypeBarsModel", "letterAt", "(I)I"⟩, 19), (⟨"TypeBarsModel", "fails", "(I)Z"⟩, 19), (⟨"TypeBarsModel", "reads", "(I)Z"⟩, 19), (⟨"TypeBarsModel", "isBasket", "()Z"⟩, 19), (⟨"TypeBarsModel", "keeps", "()V"⟩, 19), (⟨"TypeBarsModel", "isBar", "(I)Z"⟩, 19), (⟨"TypeBarsModel", "goesOn", "(I)V"⟩, 19), (⟨"TypeBarsModel", "clear", "(II)Z"⟩, 19), (⟨"TypeBarsModel", "paceBy", "(IIII)I"⟩, 19)]
theorem lw_r2 : ∀ q ∈ lw_privs_2, lw_okq q := List.forall_mem_cons.mpr ⟨lw_p16, List.forall_mem_cons.mpr ⟨lw_p17, List.forall_mem_cons.mpr ⟨lw_p18, List.forall_mem_cons.mpr ⟨lw_p19, List.forall_mem_cons.mpr ⟨lw_p20, List.forall_mem_cons.mpr ⟨lw_p21, List.forall_mem_cons.mpr ⟨lw_p22, List.forall_mem_cons.mpr ⟨lw_p23, List.forall_mem_cons.mpr ⟨lw_p24, List.forall_mem_cons.mpr ⟨lw_p25, List.forall_mem_cons.mpr ⟨lw_p26, List.forall_mem_cons.mpr ⟨lw_p27, List.forall_mem_cons.mpr ⟨lw_p28, List.forall_mem_cons.mpr ⟨lw_p29, List.forall_mem_cons.mpr ⟨lw_p30, List.forall_mem_cons.mpr ⟨lw_p31, fun _ h => absurd h List.not_mem_nil⟩⟩⟩⟩⟩⟩⟩⟩⟩⟩⟩⟩⟩⟩⟩⟩
theorem lw_p32 : lw_okq (⟨"TypeBarsModel", "becomes", "(III)V"⟩, 19) := ⟨⟨by decide +kernel, by decide +kernel⟩, List.mem_of_getElem? (i := 653) (by decide +kernel), List.mem_of_getElem? (i := 918) (by decide +kernel), List.mem_of_getElem? (i := 919) (by decide +kernel)⟩
theorem lw_p33 : lw_okq (⟨"TypeBarsModel", "isSo", "(III)Z"⟩, 19) := ⟨⟨by decide +kernel, by decide +kernel⟩, List.mem_of_getElem? (i := 653) (by decide +kernel), List.mem_of_getElem? (i := 922) (by decide +kernel), List.mem_of_getElem? (i := 923) (by decide +kernel)⟩
theorem lw_p34 : lw_okq (⟨"TypeBarsModel", "size", "(I)I"⟩, 19) := ⟨⟨by decide +kernel, by decide +kernel⟩, List.mem_of_getElem? (i := 653) (by decide +kernel), List.mem_of_getElem? (i := 960) (by decide +kernel), List.mem_of_getElem? (i := 961) (by decide +kernel)⟩
theorem lw_p35 : lw_okq (⟨"TypeBarsModel", "begins", "(I)V"⟩, 19) := ⟨⟨by decide +kernel, by decide +kernel⟩, List.mem_of_getElem? (i := 653) (by decide +kernel), List.mem_of_getElem? (i := 964) (by decide +kernel), List.mem_of_getElem? (i := 965) (by decide +kernel)⟩
theorem lw_p36 : lw_okq (⟨"TypeBarsModel", "plain", "(I)I"⟩, 19) := ⟨⟨by decide +kernel, by decide +kernel⟩, List.mem_of_getElem? (i := 653) (by decide +kernel), List.mem_of_getElem? (i := 968) (by decide +kernel), List.mem_of_getElem? (i := 969) (by decide +kernel)⟩
def lw_privs_3 : List (MethodName × Nat) := [(⟨"TypeBarsModel", "becomes", "(III)V"⟩, 19), (⟨"TypeBarsModel", "isSo", "(III)Z"⟩, 19), (⟨"TypeBarsModel", "size", "(I)I"⟩, 19), (⟨"TypeBarsModel", "begins", "(I)V"⟩, 19), (⟨"TypeBarsModel", "plain", "(I)I"⟩, 19)]
theorem lw_r3 : ∀ q ∈ lw_privs_3, lw_okq q := List.forall_mem_cons.mpr ⟨lw_p32, List.forall_mem_cons.mpr ⟨lw_p33, List.forall_mem_cons.mpr ⟨lw_p34, List.forall_mem_cons.mpr ⟨lw_p35, List.forall_mem_cons.mpr ⟨lw_p36, fun _ h => absurd h List.not_mem_nil⟩⟩⟩⟩⟩
def lw_privs : List (MethodName × Nat) := lw_privs_1 ++ (lw_privs_2 ++ (lw_privs_3))
def lw_tbl : List Cond := k2_sels lw_privs ++ tables_1
theorem lw_privs_ok : ∀ q ∈ lw_privs, lw_okq q := by
  show ∀ q ∈ lw_privs_1 ++ (lw_privs_2 ++ (lw_privs_3)), lw_okq q
  exact List.forall_mem_append.mpr ⟨lw_r1, List.forall_mem_append.mpr ⟨lw_r2, lw_r3⟩⟩
/-! ===== BEGIN words of one list among another's, by their places ===== -/
theorem goodIn_r {big : List Cond} (ws : List Cond) (ps : List Nat) (hp : ws = ps.filterMap (fun i => big[i]?)) (h : ws.all goodWord = true) : GoodIn big ws := by
  intro w hw
  have h1 := List.all_eq_true.mp h w hw
  rw [hp] at hw
  obtain ⟨i, -, hi⟩ := List.mem_filterMap.mp hw
  have hm : w ∈ big := by first | exact List.mem_of_getElem? hi | exact List.getElem?_mem hi
  exact ⟨hm, good_of_word h1⟩
theorem goodIn_app {big a b : List Cond} (ha : GoodIn big a) (hb : GoodIn big b) : GoodIn big (a ++ b) := fun w h => (List.mem_append.mp h).elim (ha w) (hb w)
theorem goodIn_ca {big a b : List Cond} {c : Cond} (ha : GoodIn big (c :: a)) (hb : GoodIn big b) : GoodIn big (c :: (a ++ b)) := fun w h => (List.mem_cons.mp h).elim (fun e => ha w (List.mem_cons.mpr (Or.inl e))) (fun h => (List.mem_append.mp h).elim (fun h => ha w (List.mem_cons.mpr (Or.inr h))) (hb w))
theorem goodIn_sub {big ws : List Cond} (hm : ∀ w ∈ ws, w ∈ big) (h : ws.all goodWord = true) : GoodIn big ws := fun w hw => ⟨hm w hw, good_of_word (List.all_eq_true.mp h w hw)⟩
/-! ===== END ===== -/

/-! ===== BEGIN printed: names, fields, word lists, decode rows ===== -/
def RX0 : String := "TypeBars$Acts"
def TX0 : u_T := fun k => match k with
  | 0 => ("TypeBars$Acts", "before", "[LTypeBars$Basket;", true)
  | 1 => ("TypeBars$Acts", "next", "I", false)
  | _ => ("TypeBars$Acts", "kept", "I", false)
def tyX0 : Nat → FieldType := fun k => match k with
  | 0 => .array (.object "TypeBars$Basket")
  | 1 => .int
  | _ => .int
abbrev wsX00 : List Cond := u_ws RX0 TX0 3
theorem nmX0 : ∀ a, a < 3 → ∀ b, b < 3 → a ≠ b → (TX0 a).2.1 ≠ (TX0 b).2.1 := by decide +kernel
theorem tyX0_ok : ∀ k, k < 3 → parseFieldDescriptor (TX0 k).2.2.1 = some (tyX0 k) := by decide +kernel
abbrev cX0_init : ByteArray := prog_2_method_1_code
def yX0_init : MethodName := ⟨RX0, "<init>", "()V"⟩
abbrev cX0_keep : ByteArray := prog_2_method_2_code
def yX0_keep : MethodName := ⟨RX0, "keep", "(LTypeBars$Basket;)V"⟩
abbrev cX0_takeBack : ByteArray := prog_2_method_3_code
def yX0_takeBack : MethodName := ⟨RX0, "takeBack", "(LTypeBars$Basket;)V"⟩
abbrev cX0_forget : ByteArray := prog_2_method_4_code
def yX0_forget : MethodName := ⟨RX0, "forget", "()V"⟩
def RX1 : String := "TypeBars$Asking"
def TX1 : u_T := fun k => match k with
  | 0 => ("TypeBars$Asking", "bodies", "[I", true)
  | _ => ("TypeBars$Asking", "left", "I", false)
def tyX1 : Nat → FieldType := fun k => match k with
  | 0 => .array .int
  | _ => .int
abbrev wsX10 : List Cond := u_ws RX1 TX1 2
theorem nmX1 : ∀ a, a < 2 → ∀ b, b < 2 → a ≠ b → (TX1 a).2.1 ≠ (TX1 b).2.1 := by decide +kernel
theorem tyX1_ok : ∀ k, k < 2 → parseFieldDescriptor (TX1 k).2.2.1 = some (tyX1 k) := by decide +kernel
abbrev cX1_init : ByteArray := prog_3_method_1_code
def yX1_init : MethodName := ⟨RX1, "<init>", "()V"⟩
abbrev cX1_sizeOf : ByteArray := prog_3_method_2_code
def yX1_sizeOf : MethodName := ⟨RX1, "sizeOf", "(LTypeBars$Basket;I)I"⟩
abbrev cX1_markOf : ByteArray := prog_3_method_3_code
def yX1_markOf : MethodName := ⟨RX1, "markOf", "(LTypeBars$Basket;I)I"⟩
abbrev cX1_give : ByteArray := prog_3_method_4_code
def yX1_give : MethodName := ⟨RX1, "give", "(ILTypeBars$Basket;II)I"⟩
abbrev cX1_leave : ByteArray := prog_3_method_5_code
def yX1_leave : MethodName := ⟨RX1, "leave", "(I)V"⟩
def RX2 : String := "TypeBars$Basket"
def TX2 : u_T := fun k => match k with
  | 0 => ("TypeBars$Basket", "sort", "[I", true)
  | 1 => ("TypeBars$Basket", "rise", "[I", true)
  | 2 => ("TypeBars$Basket", "top", "[I", true)
  | 3 => ("TypeBars$Basket", "place", "[I", true)
  | 4 => ("TypeBars$Basket", "at", "[I", true)
  | 5 => ("TypeBars$Basket", "time", "[I", true)
  | 6 => ("TypeBars$Basket", "height", "[I", true)
  | 7 => ("TypeBars$Basket", "sheet", "[I", true)
  | 8 => ("TypeBars$Basket", "bars", "I", false)
  | 9 => ("TypeBars$Basket", "moving", "I", false)
  | 10 => ("TypeBars$Basket", "hanging", "I", false)
  | 11 => ("TypeBars$Basket", "column", "I", false)
  | _ => ("TypeBars$Basket", "tick", "I", false)
def tyX2 : Nat → FieldType := fun k => match k with
  | 0 => .array .int
  | 1 => .array .int
  | 2 => .array .int
  | 3 => .array .int
  | 4 => .array .int
  | 5 => .array .int
  | 6 => .array .int
  | 7 => .array .int
  | 8 => .int
  | 9 => .int
  | 10 => .int
  | 11 => .int
  | _ => .int
abbrev wsX20 : List Cond := u_ws RX2 TX2 13
theorem nmX2 : ∀ a, a < 13 → ∀ b, b < 13 → a ≠ b → (TX2 a).2.1 ≠ (TX2 b).2.1 := by decide +kernel
theorem tyX2_ok : ∀ k, k < 13 → parseFieldDescriptor (TX2 k).2.2.1 = some (tyX2 k) := by decide +kernel
abbrev cX2_init : ByteArray := prog_4_method_1_code
def yX2_init : MethodName := ⟨RX2, "<init>", "()V"⟩
abbrev cX2_clear : ByteArray := prog_4_method_2_code
def yX2_clear : MethodName := ⟨RX2, "clear", "()V"⟩
abbrev cX2_addBar : ByteArray := prog_4_method_3_code
def yX2_addBar : MethodName := ⟨RX2, "addBar", "(II)V"⟩
abbrev cX2_become : ByteArray := prog_4_method_4_code
def yX2_become : MethodName := ⟨RX2, "become", "(LTypeBars$Basket;)V"⟩
abbrev cX2_has : ByteArray := prog_4_method_5_code
def yX2_has : MethodName := ⟨RX2, "has", "(I)Z"⟩
abbrev cX2_moves : ByteArray := prog_4_method_6_code
def yX2_moves : MethodName := ⟨RX2, "moves", "(I)Z"⟩
abbrev cX2_hangs : ByteArray := prog_4_method_7_code
def yX2_hangs : MethodName := ⟨RX2, "hangs", "(I)Z"⟩
abbrev cX2_rests : ByteArray := prog_4_method_8_code
def yX2_rests : MethodName := ⟨RX2, "rests", "(I)Z"⟩
abbrev cX2_shape : ByteArray := prog_4_method_9_code
def yX2_shape : MethodName := ⟨RX2, "shape", "(III)V"⟩
abbrev cX2_press : ByteArray := prog_4_method_10_code
def yX2_press : MethodName := ⟨RX2, "press", "(I)V"⟩
abbrev cX2_startAt : ByteArray := prog_4_method_11_code
def yX2_startAt : MethodName := ⟨RX2, "startAt", "(II)V"⟩
abbrev cX2_layDown : ByteArray := prog_4_method_12_code
def yX2_layDown : MethodName := ⟨RX2, "layDown", "(I)V"⟩
abbrev cX2_bringBack : ByteArray := prog_4_method_13_code
def yX2_bringBack : MethodName := ⟨RX2, "bringBack", "()V"⟩
abbrev cX2_exchange : ByteArray := prog_4_method_14_code
def yX2_exchange : MethodName := ⟨RX2, "exchange", "(II)V"⟩
abbrev cX2_pass : ByteArray := prog_4_method_15_code
def yX2_pass : MethodName := ⟨RX2, "pass", "()I"⟩
abbrev cX2_foresee : ByteArray := prog_4_method_16_code
def yX2_foresee : MethodName := ⟨RX2, "foresee", "(I)V"⟩
abbrev cX2_riseAndFall : ByteArray := prog_4_method_17_code
def yX2_riseAndFall : MethodName := ⟨RX2, "riseAndFall", "()V"⟩
abbrev cX2_heightByTime : ByteArray := prog_4_method_18_code
def yX2_heightByTime : MethodName := ⟨RX2, "heightByTime", "(I)I"⟩
abbrev cX2_meeting : ByteArray := prog_4_method_19_code
def yX2_meeting : MethodName := ⟨RX2, "meeting", "()I"⟩
abbrev cX2_print : ByteArray := prog_4_method_20_code
def yX2_print : MethodName := ⟨RX2, "print", "()I"⟩
abbrev cX2_strike : ByteArray := prog_4_method_21_code
def yX2_strike : MethodName := ⟨RX2, "strike", "(I)V"⟩
abbrev cX2_columnsPrinted : ByteArray := prog_4_method_22_code
def yX2_columnsPrinted : MethodName := ⟨RX2, "columnsPrinted", "()I"⟩
def RX3 : String := "TypeBars$Foretelling"
def TX3 : u_T := fun k => match k with
  | 0 => ("TypeBars$Foretelling", "ahead", "LTypeBars$Basket;", true)
  | 1 => ("TypeBars$Foretelling", "trial", "LTypeBars$Basket;", true)
  | 2 => ("TypeBars$Foretelling", "word", "[I", true)
  | 3 => ("TypeBars$Foretelling", "wordLength", "I", false)
  | _ => ("TypeBars$Foretelling", "bestPace", "I", false)
def tyX3 : Nat → FieldType := fun k => match k with
  | 0 => .object "TypeBars$Basket"
  | 1 => .object "TypeBars$Basket"
  | 2 => .array .int
  | 3 => .int
  | _ => .int
abbrev wsX30 : List Cond := u_ws RX3 TX3 5
theorem nmX3 : ∀ a, a < 5 → ∀ b, b < 5 → a ≠ b → (TX3 a).2.1 ≠ (TX3 b).2.1 := by decide +kernel
theorem tyX3_ok : ∀ k, k < 5 → parseFieldDescriptor (TX3 k).2.2.1 = some (tyX3 k) := by decide +kernel
abbrev cX3_init : ByteArray := prog_5_method_1_code
def yX3_init : MethodName := ⟨RX3, "<init>", "()V"⟩
abbrev cX3_ticksOn : ByteArray := prog_5_method_2_code
def yX3_ticksOn : MethodName := ⟨RX3, "ticksOn", "(LTypeBars$Basket;I)LTypeBars$Basket;"⟩
abbrev cX3_ticksToJam : ByteArray := prog_5_method_3_code
def yX3_ticksToJam : MethodName := ⟨RX3, "ticksToJam", "(LTypeBars$Basket;)I"⟩
abbrev cX3_leastWait : ByteArray := prog_5_method_4_code
def yX3_leastWait : MethodName := ⟨RX3, "leastWait", "(LTypeBars$Basket;I)I"⟩
abbrev cX3_staysClear : ByteArray := prog_5_method_5_code
def yX3_staysClear : MethodName := ⟨RX3, "staysClear", "(I)Z"⟩
abbrev cX3_hear : ByteArray := prog_5_method_6_code
def yX3_hear : MethodName := ⟨RX3, "hear", "(LTypeBars$Row;II)V"⟩
abbrev cX3_paceAsItIs : ByteArray := prog_5_method_7_code
def yX3_paceAsItIs : MethodName := ⟨RX3, "paceAsItIs", "(LTypeBars$Basket;)I"⟩
abbrev cX3_bestSwap : ByteArray := prog_5_method_8_code
def yX3_bestSwap : MethodName := ⟨RX3, "bestSwap", "(LTypeBars$Basket;)I"⟩
abbrev cX3_leastPace : ByteArray := prog_5_method_9_code
def yX3_leastPace : MethodName := ⟨RX3, "leastPace", "(I)I"⟩
abbrev cX3_goesAt : ByteArray := prog_5_method_10_code
def yX3_goesAt : MethodName := ⟨RX3, "goesAt", "(I)Z"⟩
abbrev cX3_fitting : ByteArray := prog_5_method_11_code
def yX3_fitting : MethodName := ⟨RX3, "fitting", "(LTypeBars$Basket;II)I"⟩
abbrev cX3_mostOf : ByteArray := prog_5_method_12_code
def yX3_mostOf : MethodName := ⟨RX3, "mostOf", "(II)I"⟩
abbrev cX3_suppose : ByteArray := prog_5_method_13_code
def yX3_suppose : MethodName := ⟨RX3, "suppose", "(III)V"⟩
abbrev cX3_risesAsHeard : ByteArray := prog_5_method_14_code
def yX3_risesAsHeard : MethodName := ⟨RX3, "risesAsHeard", "(I)Z"⟩
abbrev cX3_waysClear : ByteArray := prog_5_method_15_code
def yX3_waysClear : MethodName := ⟨RX3, "waysClear", "(LTypeBars$Basket;II)J"⟩
abbrev cX3_printedByDraws : ByteArray := prog_5_method_16_code
def yX3_printedByDraws : MethodName := ⟨RX3, "printedByDraws", "(LTypeBars$Basket;II)I"⟩
def RX4 : String := "TypeBars$Row"
def TX4 : u_T := fun k => match k with
  | 0 => ("TypeBars$Row", "items", "[I", true)
  | 1 => ("TypeBars$Row", "missing", "Z", false)
  | 2 => ("TypeBars$Row", "lane", "I", false)
  | _ => ("TypeBars$Row", "length", "I", false)
def tyX4 : Nat → FieldType := fun k => match k with
  | 0 => .array .int
  | 1 => .boolean
  | 2 => .int
  | _ => .int
abbrev wsX40 : List Cond := u_ws RX4 TX4 4
theorem nmX4 : ∀ a, a < 4 → ∀ b, b < 4 → a ≠ b → (TX4 a).2.1 ≠ (TX4 b).2.1 := by decide +kernel
theorem tyX4_ok : ∀ k, k < 4 → parseFieldDescriptor (TX4 k).2.2.1 = some (tyX4 k) := by decide +kernel
abbrev cX4_init : ByteArray := prog_6_method_1_code
def yX4_init : MethodName := ⟨RX4, "<init>", "()V"⟩
abbrev cX4_make : ByteArray := prog_6_method_2_code
def yX4_make : MethodName := ⟨RX4, "make", "(II)V"⟩
abbrev cX4_has : ByteArray := prog_6_method_3_code
def yX4_has : MethodName := ⟨RX4, "has", "(II)Z"⟩
abbrev cX4_put : ByteArray := prog_6_method_4_code
def yX4_put : MethodName := ⟨RX4, "put", "(II)I"⟩
def RX5 : String := "TypeBars$Tape"
def TX5 : u_T := fun k => match k with
  | 0 => ("TypeBars$Tape", "bytes", "[I", true)
  | 1 => ("TypeBars$Tape", "length", "I", false)
  | _ => ("TypeBars$Tape", "reading", "I", false)
def tyX5 : Nat → FieldType := fun k => match k with
  | 0 => .array .int
  | 1 => .int
  | _ => .int
abbrev wsX50 : List Cond := u_ws RX5 TX5 3
theorem nmX5 : ∀ a, a < 3 → ∀ b, b < 3 → a ≠ b → (TX5 a).2.1 ≠ (TX5 b).2.1 := by decide +kernel
theorem tyX5_ok : ∀ k, k < 3 → parseFieldDescriptor (TX5 k).2.2.1 = some (tyX5 k) := by decide +kernel
abbrev cX5_init : ByteArray := prog_7_method_1_code
def yX5_init : MethodName := ⟨RX5, "<init>", "()V"⟩
abbrev cX5_take : ByteArray := prog_7_method_2_code
def yX5_take : MethodName := ⟨RX5, "take", "(I)Z"⟩
abbrev cX5_readInto : ByteArray := prog_7_method_3_code
def yX5_readInto : MethodName := ⟨RX5, "readInto", "(LTypeBars$Basket;)I"⟩
abbrev cX5_readBar : ByteArray := prog_7_method_4_code
def yX5_readBar : MethodName := ⟨RX5, "readBar", "(LTypeBars$Basket;)I"⟩
abbrev cX5_byteAt : ByteArray := prog_7_method_5_code
def yX5_byteAt : MethodName := ⟨RX5, "byteAt", "(I)I"⟩
abbrev cX5_figuresHere : ByteArray := prog_7_method_6_code
def yX5_figuresHere : MethodName := ⟨RX5, "figuresHere", "()I"⟩
abbrev cX5_numberHere : ByteArray := prog_7_method_7_code
def yX5_numberHere : MethodName := ⟨RX5, "numberHere", "(I)I"⟩
abbrev cX5_sortOf : ByteArray := prog_7_method_8_code
def yX5_sortOf : MethodName := ⟨RX5, "sortOf", "(I)I"⟩
def RX6 : String := "TypeBars"
def TX6 : u_T := fun k => match k with
  | 0 => ("TypeBars", "rows", "[LTypeBars$Row;", true)
  | 1 => ("TypeBars", "tape", "LTypeBars$Tape;", true)
  | 2 => ("TypeBars", "now", "LTypeBars$Basket;", true)
  | 3 => ("TypeBars", "read", "LTypeBars$Basket;", true)
  | 4 => ("TypeBars", "acts", "LTypeBars$Acts;", true)
  | 5 => ("TypeBars", "foretelling", "LTypeBars$Foretelling;", true)
  | 6 => ("TypeBars", "images", "[LTypeBars$Basket;", true)
  | 7 => ("TypeBars", "asking", "LTypeBars$Asking;", true)
  | 8 => ("TypeBars", "latestFault", "I", false)
  | _ => ("TypeBars", "latestFinding", "I", false)
def tyX6 : Nat → FieldType := fun k => match k with
  | 0 => .array (.object "TypeBars$Row")
  | 1 => .object "TypeBars$Tape"
  | 2 => .object "TypeBars$Basket"
  | 3 => .object "TypeBars$Basket"
  | 4 => .object "TypeBars$Acts"
  | 5 => .object "TypeBars$Foretelling"
  | 6 => .array (.object "TypeBars$Basket")
  | 7 => .object "TypeBars$Asking"
  | 8 => .int
  | _ => .int
abbrev wsX60 : List Cond := u_ws RX6 TX6 10
theorem nmX6 : ∀ a, a < 10 → ∀ b, b < 10 → a ≠ b → (TX6 a).2.1 ≠ (TX6 b).2.1 := by decide +kernel
theorem tyX6_ok : ∀ k, k < 10 → parseFieldDescriptor (TX6 k).2.2.1 = some (tyX6 k) := by decide +kernel
abbrev cX6_init : ByteArray := prog_1_method_1_code
def yX6_init : MethodName := ⟨RX6, "<init>", "()V"⟩
abbrev cX6_row : ByteArray := prog_1_method_2_code
def yX6_row : MethodName := ⟨RX6, "row", "(III)I"⟩
abbrev cX6_set : ByteArray := prog_1_method_3_code
def yX6_set : MethodName := ⟨RX6, "set", "(III)I"⟩
abbrev cX6_copy : ByteArray := prog_1_method_4_code
def yX6_copy : MethodName := ⟨RX6, "copy", "(IIIII)I"⟩
abbrev cX6_drop : ByteArray := prog_1_method_5_code
def yX6_drop : MethodName := ⟨RX6, "drop", "(I)I"⟩
abbrev cX6_feed : ByteArray := prog_1_method_6_code
def yX6_feed : MethodName := ⟨RX6, "feed", "(I)I"⟩
abbrev cX6_basket : ByteArray := prog_1_method_7_code
def yX6_basket : MethodName := ⟨RX6, "basket", "()I"⟩
abbrev cX6_fault : ByteArray := prog_1_method_8_code
def yX6_fault : MethodName := ⟨RX6, "fault", "()I"⟩
abbrev cX6_ticks : ByteArray := prog_1_method_9_code
def yX6_ticks : MethodName := ⟨RX6, "ticks", "(I)I"⟩
abbrev cX6_key : ByteArray := prog_1_method_10_code
def yX6_key : MethodName := ⟨RX6, "key", "(I)I"⟩
abbrev cX6_free : ByteArray := prog_1_method_11_code
def yX6_free : MethodName := ⟨RX6, "free", "()I"⟩
abbrev cX6_back : ByteArray := prog_1_method_12_code
def yX6_back : MethodName := ⟨RX6, "back", "()I"⟩
abbrev cX6_swap : ByteArray := prog_1_method_13_code
def yX6_swap : MethodName := ⟨RX6, "swap", "(II)I"⟩
abbrev cX6_undo : ByteArray := prog_1_method_14_code
def yX6_undo : MethodName := ⟨RX6, "undo", "()I"⟩
abbrev cX6_bar : ByteArray := prog_1_method_15_code
def yX6_bar : MethodName := ⟨RX6, "bar", "(II)I"⟩
abbrev cX6_paper : ByteArray := prog_1_method_16_code
def yX6_paper : MethodName := ⟨RX6, "paper", "(I)I"⟩
abbrev cX6_height : ByteArray := prog_1_method_17_code
def yX6_height : MethodName := ⟨RX6, "height", "(II)I"⟩
abbrev cX6_later : ByteArray := prog_1_method_18_code
def yX6_later : MethodName := ⟨RX6, "later", "(II)I"⟩
abbrev cX6_jam : ByteArray := prog_1_method_19_code
def yX6_jam : MethodName := ⟨RX6, "jam", "(I)I"⟩
abbrev cX6_waits : ByteArray := prog_1_method_20_code
def yX6_waits : MethodName := ⟨RX6, "waits", "(I)I"⟩
abbrev cX6_pace : ByteArray := prog_1_method_21_code
def yX6_pace : MethodName := ⟨RX6, "pace", "(III)I"⟩
abbrev cX6_better : ByteArray := prog_1_method_22_code
def yX6_better : MethodName := ⟨RX6, "better", "(IIII)I"⟩
abbrev cX6_fits : ByteArray := prog_1_method_23_code
def yX6_fits : MethodName := ⟨RX6, "fits", "(IIIII)I"⟩
abbrev cX6_chance : ByteArray := prog_1_method_24_code
def yX6_chance : MethodName := ⟨RX6, "chance", "(III)I"⟩
abbrev cX6_drawn : ByteArray := prog_1_method_25_code
def yX6_drawn : MethodName := ⟨RX6, "drawn", "(III)I"⟩
abbrev cX6_image : ByteArray := prog_1_method_26_code
def yX6_image : MethodName := ⟨RX6, "image", "(I)I"⟩
abbrev cX6_restore : ByteArray := prog_1_method_27_code
def yX6_restore : MethodName := ⟨RX6, "restore", "(I)I"⟩
abbrev cX6_kind : ByteArray := prog_1_method_28_code
def yX6_kind : MethodName := ⟨RX6, "kind", "(I)I"⟩
abbrev cX6_as : ByteArray := prog_1_method_29_code
def yX6_as : MethodName := ⟨RX6, "as", "(II)I"⟩
abbrev cX6_ask : ByteArray := prog_1_method_30_code
def yX6_ask : MethodName := ⟨RX6, "ask", "(II)I"⟩
abbrev cX6_trace : ByteArray := prog_1_method_31_code
def yX6_trace : MethodName := ⟨RX6, "trace", "(I)I"⟩
abbrev cX6_count : ByteArray := prog_1_method_32_code
def yX6_count : MethodName := ⟨RX6, "count", "(I)I"⟩
abbrev cX6_status : ByteArray := prog_1_method_33_code
def yX6_status : MethodName := ⟨RX6, "status", "()I"⟩
abbrev cX6_found : ByteArray := prog_1_method_34_code
def yX6_found : MethodName := ⟨RX6, "found", "(I)I"⟩
abbrev cX6_fine : ByteArray := prog_1_method_35_code
def yX6_fine : MethodName := ⟨RX6, "fine", "(I)I"⟩
abbrev cX6_findingOf : ByteArray := prog_1_method_36_code
def yX6_findingOf : MethodName := ⟨RX6, "findingOf", "(III)I"⟩
abbrev cX6_countRows : ByteArray := prog_1_method_37_code
def yX6_countRows : MethodName := ⟨RX6, "countRows", "()I"⟩
abbrev cX6_isRow : ByteArray := prog_1_method_38_code
def yX6_isRow : MethodName := ⟨RX6, "isRow", "(I)Z"⟩
abbrev cX6_within : ByteArray := prog_1_method_39_code
def yX6_within : MethodName := ⟨RX6, "within", "(III)Z"⟩
abbrev cX6_isA : ByteArray := prog_1_method_40_code
def yX6_isA : MethodName := ⟨RX6, "isA", "(II)Z"⟩
abbrev cX6_power : ByteArray := prog_1_method_41_code
def yX6_power : MethodName := ⟨RX6, "power", "(II)J"⟩
abbrev cX6_commonDivisor : ByteArray := prog_1_method_42_code
def yX6_commonDivisor : MethodName := ⟨RX6, "commonDivisor", "(JJ)J"⟩
def RX7 : String := "TypeBarsModel"
def TX7 : u_T := fun k => match k with
  | 0 => ("TypeBarsModel", "sizes", "[I", true)
  | 1 => ("TypeBarsModel", "lanes", "[I", true)
  | 2 => ("TypeBarsModel", "items", "[I", true)
  | 3 => ("TypeBarsModel", "moved", "[I", true)
  | 4 => ("TypeBarsModel", "status", "I", false)
  | 5 => ("TypeBarsModel", "tape", "[I", true)
  | 6 => ("TypeBarsModel", "typed", "I", false)
  | 7 => ("TypeBarsModel", "fault", "I", false)
  | 8 => ("TypeBarsModel", "s", "[I", true)
  | 9 => ("TypeBarsModel", "draft", "[I", true)
  | 10 => ("TypeBarsModel", "images", "[I", true)
  | 11 => ("TypeBarsModel", "kept", "[Z", true)
  | 12 => ("TypeBarsModel", "past", "[I", true)
  | 13 => ("TypeBarsModel", "known", "I", false)
  | 14 => ("TypeBarsModel", "then", "[I", true)
  | 15 => ("TypeBarsModel", "traces", "[I", true)
  | 16 => ("TypeBarsModel", "traced", "I", false)
  | 17 => ("TypeBarsModel", "at", "I", false)
  | _ => ("TypeBarsModel", "wrong", "I", false)
def tyX7 : Nat → FieldType := fun k => match k with
  | 0 => .array .int
  | 1 => .array .int
  | 2 => .array .int
  | 3 => .array .int
  | 4 => .int
  | 5 => .array .int
  | 6 => .int
  | 7 => .int
  | 8 => .array .int
  | 9 => .array .int
  | 10 => .array .int
  | 11 => .array .boolean
  | 12 => .array .int
  | 13 => .int
  | 14 => .array .int
  | 15 => .array .int
  | 16 => .int
  | 17 => .int
  | _ => .int
abbrev wsX70 : List Cond := u_ws RX7 TX7 19
theorem nmX7 : ∀ a, a < 19 → ∀ b, b < 19 → a ≠ b → (TX7 a).2.1 ≠ (TX7 b).2.1 := by decide +kernel
theorem tyX7_ok : ∀ k, k < 19 → parseFieldDescriptor (TX7 k).2.2.1 = some (tyX7 k) := by decide +kernel
abbrev cX7_init : ByteArray := prog_9_method_1_code
def yX7_init : MethodName := ⟨RX7, "<init>", "()V"⟩
abbrev cX7_in : ByteArray := prog_9_method_3_code
def yX7_in : MethodName := ⟨RX7, "in", "(III)Z"⟩
abbrev cX7_isRow : ByteArray := prog_9_method_4_code
def yX7_isRow : MethodName := ⟨RX7, "isRow", "(I)Z"⟩
abbrev cX7_ends : ByteArray := prog_9_method_5_code
def yX7_ends : MethodName := ⟨RX7, "ends", "(I)I"⟩
abbrev cX7_cut : ByteArray := prog_9_method_6_code
def yX7_cut : MethodName := ⟨RX7, "cut", "(II)I"⟩
abbrev cX7_row : ByteArray := prog_9_method_7_code
def yX7_row : MethodName := ⟨RX7, "row", "(III)I"⟩
abbrev cX7_lies : ByteArray := prog_9_method_8_code
def yX7_lies : MethodName := ⟨RX7, "lies", "(III)Z"⟩
abbrev cX7_set : ByteArray := prog_9_method_9_code
def yX7_set : MethodName := ⟨RX7, "set", "(III)I"⟩
abbrev cX7_copy : ByteArray := prog_9_method_10_code
def yX7_copy : MethodName := ⟨RX7, "copy", "(IIIII)I"⟩
abbrev cX7_drop : ByteArray := prog_9_method_11_code
def yX7_drop : MethodName := ⟨RX7, "drop", "(I)I"⟩
abbrev cX7_feed : ByteArray := prog_9_method_12_code
def yX7_feed : MethodName := ⟨RX7, "feed", "(I)I"⟩
abbrev cX7_letterAt : ByteArray := prog_9_method_13_code
def yX7_letterAt : MethodName := ⟨RX7, "letterAt", "(I)I"⟩
abbrev cX7_isDigit : ByteArray := prog_9_method_14_code
def yX7_isDigit : MethodName := ⟨RX7, "isDigit", "(I)Z"⟩
abbrev cX7_fails : ByteArray := prog_9_method_15_code
def yX7_fails : MethodName := ⟨RX7, "fails", "(I)Z"⟩
abbrev cX7_reads : ByteArray := prog_9_method_16_code
def yX7_reads : MethodName := ⟨RX7, "reads", "(I)Z"⟩
abbrev cX7_kindBy : ByteArray := prog_9_method_17_code
def yX7_kindBy : MethodName := ⟨RX7, "kindBy", "(I)I"⟩
abbrev cX7_readsAll : ByteArray := prog_9_method_18_code
def yX7_readsAll : MethodName := ⟨RX7, "readsAll", "()Z"⟩
abbrev cX7_basket : ByteArray := prog_9_method_19_code
def yX7_basket : MethodName := ⟨RX7, "basket", "()I"⟩
abbrev cX7_fault : ByteArray := prog_9_method_20_code
def yX7_fault : MethodName := ⟨RX7, "fault", "()I"⟩
abbrev cX7_isBasket : ByteArray := prog_9_method_21_code
def yX7_isBasket : MethodName := ⟨RX7, "isBasket", "()Z"⟩
abbrev cX7_isBar : ByteArray := prog_9_method_22_code
def yX7_isBar : MethodName := ⟨RX7, "isBar", "(I)Z"⟩
abbrev cX7_keeps : ByteArray := prog_9_method_23_code
def yX7_keeps : MethodName := ⟨RX7, "keeps", "()V"⟩
abbrev cX7_top : ByteArray := prog_9_method_24_code
def yX7_top : MethodName := ⟨RX7, "top", "([II)I"⟩
abbrev cX7_high : ByteArray := prog_9_method_25_code
def yX7_high : MethodName := ⟨RX7, "high", "([II)I"⟩
abbrev cX7_meets : ByteArray := prog_9_method_26_code
def yX7_meets : MethodName := ⟨RX7, "meets", "([III)Z"⟩
abbrev cX7_prints : ByteArray := prog_9_method_27_code
def yX7_prints : MethodName := ⟨RX7, "prints", "([II)V"⟩
abbrev cX7_tick : ByteArray := prog_9_method_28_code
def yX7_tick : MethodName := ⟨RX7, "tick", "([I)I"⟩
abbrev cX7_has : ByteArray := prog_9_method_29_code
def yX7_has : MethodName := ⟨RX7, "has", "(II)Z"⟩
abbrev cX7_hanging : ByteArray := prog_9_method_30_code
def yX7_hanging : MethodName := ⟨RX7, "hanging", "([I)I"⟩
abbrev cX7_moving : ByteArray := prog_9_method_31_code
def yX7_moving : MethodName := ⟨RX7, "moving", "([I)I"⟩
abbrev cX7_rests : ByteArray := prog_9_method_32_code
def yX7_rests : MethodName := ⟨RX7, "rests", "([II)Z"⟩
abbrev cX7_frees : ByteArray := prog_9_method_33_code
def yX7_frees : MethodName := ⟨RX7, "frees", "([I)V"⟩
abbrev cX7_exchanges : ByteArray := prog_9_method_34_code
def yX7_exchanges : MethodName := ⟨RX7, "exchanges", "([III)V"⟩
abbrev cX7_ticks : ByteArray := prog_9_method_35_code
def yX7_ticks : MethodName := ⟨RX7, "ticks", "(I)I"⟩
abbrev cX7_key : ByteArray := prog_9_method_36_code
def yX7_key : MethodName := ⟨RX7, "key", "(I)I"⟩
abbrev cX7_ones : ByteArray := prog_9_method_37_code
def yX7_ones : MethodName := ⟨RX7, "ones", "(I)I"⟩
abbrev cX7_free : ByteArray := prog_9_method_38_code
def yX7_free : MethodName := ⟨RX7, "free", "()I"⟩
abbrev cX7_back : ByteArray := prog_9_method_39_code
def yX7_back : MethodName := ⟨RX7, "back", "()I"⟩
abbrev cX7_swap : ByteArray := prog_9_method_40_code
def yX7_swap : MethodName := ⟨RX7, "swap", "(II)I"⟩
abbrev cX7_undo : ByteArray := prog_9_method_41_code
def yX7_undo : MethodName := ⟨RX7, "undo", "()I"⟩
abbrev cX7_bar : ByteArray := prog_9_method_42_code
def yX7_bar : MethodName := ⟨RX7, "bar", "(II)I"⟩
abbrev cX7_paper : ByteArray := prog_9_method_43_code
def yX7_paper : MethodName := ⟨RX7, "paper", "(I)I"⟩
abbrev cX7_copies : ByteArray := prog_9_method_44_code
def yX7_copies : MethodName := ⟨RX7, "copies", "([I[I)V"⟩
abbrev cX7_goesOn : ByteArray := prog_9_method_45_code
def yX7_goesOn : MethodName := ⟨RX7, "goesOn", "(I)V"⟩
abbrev cX7_height : ByteArray := prog_9_method_46_code
def yX7_height : MethodName := ⟨RX7, "height", "(II)I"⟩
abbrev cX7_later : ByteArray := prog_9_method_47_code
def yX7_later : MethodName := ⟨RX7, "later", "(II)I"⟩
abbrev cX7_jam : ByteArray := prog_9_method_48_code
def yX7_jam : MethodName := ⟨RX7, "jam", "(I)I"⟩
abbrev cX7_clear : ByteArray := prog_9_method_49_code
def yX7_clear : MethodName := ⟨RX7, "clear", "(II)Z"⟩
abbrev cX7_waits : ByteArray := prog_9_method_50_code
def yX7_waits : MethodName := ⟨RX7, "waits", "(I)I"⟩
abbrev cX7_paceBy : ByteArray := prog_9_method_51_code
def yX7_paceBy : MethodName := ⟨RX7, "paceBy", "(IIII)I"⟩
abbrev cX7_pace : ByteArray := prog_9_method_52_code
def yX7_pace : MethodName := ⟨RX7, "pace", "(III)I"⟩
abbrev cX7_better : ByteArray := prog_9_method_53_code
def yX7_better : MethodName := ⟨RX7, "better", "(IIII)I"⟩
abbrev cX7_isSo : ByteArray := prog_9_method_54_code
def yX7_isSo : MethodName := ⟨RX7, "isSo", "(III)Z"⟩
abbrev cX7_becomes : ByteArray := prog_9_method_55_code
def yX7_becomes : MethodName := ⟨RX7, "becomes", "(III)V"⟩
abbrev cX7_fits : ByteArray := prog_9_method_56_code
def yX7_fits : MethodName := ⟨RX7, "fits", "(IIIII)I"⟩
abbrev cX7_chance : ByteArray := prog_9_method_57_code
def yX7_chance : MethodName := ⟨RX7, "chance", "(III)I"⟩
abbrev cX7_drawn : ByteArray := prog_9_method_58_code
def yX7_drawn : MethodName := ⟨RX7, "drawn", "(III)I"⟩
abbrev cX7_image : ByteArray := prog_9_method_59_code
def yX7_image : MethodName := ⟨RX7, "image", "(I)I"⟩
abbrev cX7_restore : ByteArray := prog_9_method_60_code
def yX7_restore : MethodName := ⟨RX7, "restore", "(I)I"⟩
abbrev cX7_kind : ByteArray := prog_9_method_61_code
def yX7_kind : MethodName := ⟨RX7, "kind", "(I)I"⟩
abbrev cX7_as : ByteArray := prog_9_method_62_code
def yX7_as : MethodName := ⟨RX7, "as", "(II)I"⟩
abbrev cX7_begins : ByteArray := prog_9_method_63_code
def yX7_begins : MethodName := ⟨RX7, "begins", "(I)V"⟩
abbrev cX7_size : ByteArray := prog_9_method_64_code
def yX7_size : MethodName := ⟨RX7, "size", "(I)I"⟩
abbrev cX7_plain : ByteArray := prog_9_method_65_code
def yX7_plain : MethodName := ⟨RX7, "plain", "(I)I"⟩
abbrev cX7_ask : ByteArray := prog_9_method_66_code
def yX7_ask : MethodName := ⟨RX7, "ask", "(II)I"⟩
abbrev cX7_trace : ByteArray := prog_9_method_67_code
def yX7_trace : MethodName := ⟨RX7, "trace", "(I)I"⟩
abbrev cX7_count : ByteArray := prog_9_method_68_code
def yX7_count : MethodName := ⟨RX7, "count", "(I)I"⟩
abbrev cX7_status : ByteArray := prog_9_method_69_code
def yX7_status : MethodName := ⟨RX7, "status", "()I"⟩
def RJ6 : String := "java/lang/Integer"
def TJ6 : u_T := fun k => match k with
  | _ => ("", "", "", false)
def tyJ6 : Nat → FieldType := fun k => match k with
  | _ => .int
abbrev wsJ60 : List Cond := u_ws RJ6 TJ6 0
theorem nmJ6 : ∀ a, a < 0 → ∀ b, b < 0 → a ≠ b → (TJ6 a).2.1 ≠ (TJ6 b).2.1 := by decide +kernel
theorem tyJ6_ok : ∀ k, k < 0 → parseFieldDescriptor (TJ6 k).2.2.1 = some (tyJ6 k) := by decide +kernel
abbrev cJ6_bitCount_0f7a4 : ByteArray := prog_10_method_49_code
def yJ6_bitCount_0f7a4 : MethodName := ⟨RJ6, "bitCount", "(I)I"⟩
def RJ9 : String := "java/lang/Math"
def TJ9 : u_T := fun k => match k with
  | _ => ("", "", "", false)
def tyJ9 : Nat → FieldType := fun k => match k with
  | _ => .int
abbrev wsJ90 : List Cond := u_ws RJ9 TJ9 0
theorem nmJ9 : ∀ a, a < 0 → ∀ b, b < 0 → a ≠ b → (TJ9 a).2.1 ≠ (TJ9 b).2.1 := by decide +kernel
theorem tyJ9_ok : ∀ k, k < 0 → parseFieldDescriptor (TJ9 k).2.2.1 = some (tyJ9 k) := by decide +kernel
abbrev cJ9_max_7cf53 : ByteArray := prog_11_method_65_code
def yJ9_max_7cf53 : MethodName := ⟨RJ9, "max", "(II)I"⟩
abbrev cJ9_min_7cf53 : ByteArray := prog_11_method_69_code
def yJ9_min_7cf53 : MethodName := ⟨RJ9, "min", "(II)I"⟩
def RJ10 : String := "java/lang/System"
def TJ10 : u_T := fun k => match k with
  | _ => ("", "", "", false)
def tyJ10 : Nat → FieldType := fun k => match k with
  | _ => .int
abbrev wsJ100 : List Cond := u_ws RJ10 TJ10 0
theorem nmJ10 : ∀ a, a < 0 → ∀ b, b < 0 → a ≠ b → (TJ10 a).2.1 ≠ (TJ10 b).2.1 := by decide +kernel
theorem tyJ10_ok : ∀ k, k < 0 → parseFieldDescriptor (TJ10 k).2.2.1 = some (tyJ10 k) := by decide +kernel
def RJ7 : String := "java/util/Arrays"
def TJ7 : u_T := fun k => match k with
  | _ => ("", "", "", false)
def tyJ7 : Nat → FieldType := fun k => match k with
  | _ => .int
abbrev wsJ70 : List Cond := u_ws RJ7 TJ7 0
theorem nmJ7 : ∀ a, a < 0 → ∀ b, b < 0 → a ≠ b → (TJ7 a).2.1 ≠ (TJ7 b).2.1 := by decide +kernel
theorem tyJ7_ok : ∀ k, k < 0 → parseFieldDescriptor (TJ7 k).2.2.1 = some (tyJ7 k) := by decide +kernel
abbrev cJ7_fill_53178 : ByteArray := prog_13_method_103_code
def yJ7_fill_53178 : MethodName := ⟨RJ7, "fill", "([II)V"⟩
def RL : String := "TypeBarsLaw"
abbrev cL_law : ByteArray := code
def yL_law : MethodName := ⟨RL, "law", "([I)Z"⟩
abbrev vwCl : List vw_C := [(RX0, TX0, 3), (RX1, TX1, 2), (RX2, TX2, 13), (RX3, TX3, 5), (RX4, TX4, 4), (RX5, TX5, 3), (RX6, TX6, 10), (RX7, TX7, 19)]

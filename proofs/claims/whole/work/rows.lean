section
-- ===== PART A: goes FIRST, ahead of the names: the tables' words, and 'selects' of the private methods out of them =====
/-- a private method of a class that the tables say can be made, by its rows of tables_1 -/
def lw_okq (q : MethodName × Nat) : Prop := (q.1.cls ≠ "java/lang/invoke/MethodHandle" ∧ q.1.cls ≠ "java/lang/invoke/VarHandle") ∧ Cond.instantiable q.1.cls q.2 ∈ tables_1 ∧ Cond.privateMethod q.1 ∈ tables_1 ∧ Cond.instanceMethod q.1 ∈ tables_1
theorem lw_p0 : lw_okq (⟨"TypeBars", "found", "(I)I"⟩, 10) := ⟨⟨by decide +kernel, by decide +kernel⟩, List.mem_of_getElem? (i := 14) (by decide +kernel), List.mem_of_getElem? (i := 238) (by decide +kernel), List.mem_of_getElem? (i := 239) (by decide +kernel)⟩
theorem lw_p1 : lw_okq (⟨"TypeBars", "fine", "(I)I"⟩, 10) := ⟨⟨by decide +kernel, by decide +kernel⟩, List.mem_of_getElem? (i := 14) (by decide +kernel), List.mem_of_getElem? (i := 250) (by decide +kernel), List.mem_of_getElem? (i := 251) (by decide +kernel)⟩
theorem lw_p2 : lw_okq (⟨"TypeBars", "findingOf", "(III)I"⟩, 10) := ⟨⟨by decide +kernel, by decide +kernel⟩, List.mem_of_getElem? (i := 14) (by decide +kernel), List.mem_of_getElem? (i := 258) (by decide +kernel), List.mem_of_getElem? (i := 259) (by decide +kernel)⟩
theorem lw_p3 : lw_okq (⟨"TypeBars$Tape", "readBar", "(LTypeBars$Basket;)I"⟩, 3) := ⟨⟨by decide +kernel, by decide +kernel⟩, List.mem_of_getElem? (i := 24) (by decide +kernel), List.mem_of_getElem? (i := 307) (by decide +kernel), List.mem_of_getElem? (i := 308) (by decide +kernel)⟩
theorem lw_p4 : lw_okq (⟨"TypeBars$Tape", "byteAt", "(I)I"⟩, 3) := ⟨⟨by decide +kernel, by decide +kernel⟩, List.mem_of_getElem? (i := 24) (by decide +kernel), List.mem_of_getElem? (i := 311) (by decide +kernel), List.mem_of_getElem? (i := 312) (by decide +kernel)⟩
theorem lw_p5 : lw_okq (⟨"TypeBars$Tape", "figuresHere", "()I"⟩, 3) := ⟨⟨by decide +kernel, by decide +kernel⟩, List.mem_of_getElem? (i := 24) (by decide +kernel), List.mem_of_getElem? (i := 319) (by decide +kernel), List.mem_of_getElem? (i := 320) (by decide +kernel)⟩
theorem lw_p6 : lw_okq (⟨"TypeBars$Tape", "numberHere", "(I)I"⟩, 3) := ⟨⟨by decide +kernel, by decide +kernel⟩, List.mem_of_getElem? (i := 24) (by decide +kernel), List.mem_of_getElem? (i := 323) (by decide +kernel), List.mem_of_getElem? (i := 324) (by decide +kernel)⟩
theorem lw_p7 : lw_okq (⟨"TypeBars$Basket", "riseAndFall", "()V"⟩, 13) := ⟨⟨by decide +kernel, by decide +kernel⟩, List.mem_of_getElem? (i := 43) (by decide +kernel), List.mem_of_getElem? (i := 366) (by decide +kernel), List.mem_of_getElem? (i := 367) (by decide +kernel)⟩
theorem lw_p8 : lw_okq (⟨"TypeBars$Basket", "heightByTime", "(I)I"⟩, 13) := ⟨⟨by decide +kernel, by decide +kernel⟩, List.mem_of_getElem? (i := 43) (by decide +kernel), List.mem_of_getElem? (i := 374) (by decide +kernel), List.mem_of_getElem? (i := 375) (by decide +kernel)⟩
theorem lw_p9 : lw_okq (⟨"TypeBars$Basket", "meeting", "()I"⟩, 13) := ⟨⟨by decide +kernel, by decide +kernel⟩, List.mem_of_getElem? (i := 43) (by decide +kernel), List.mem_of_getElem? (i := 381) (by decide +kernel), List.mem_of_getElem? (i := 382) (by decide +kernel)⟩
theorem lw_p10 : lw_okq (⟨"TypeBars$Basket", "print", "()I"⟩, 13) := ⟨⟨by decide +kernel, by decide +kernel⟩, List.mem_of_getElem? (i := 43) (by decide +kernel), List.mem_of_getElem? (i := 391) (by decide +kernel), List.mem_of_getElem? (i := 392) (by decide +kernel)⟩
theorem lw_p11 : lw_okq (⟨"TypeBars$Basket", "strike", "(I)V"⟩, 13) := ⟨⟨by decide +kernel, by decide +kernel⟩, List.mem_of_getElem? (i := 43) (by decide +kernel), List.mem_of_getElem? (i := 395) (by decide +kernel), List.mem_of_getElem? (i := 396) (by decide +kernel)⟩
theorem lw_p12 : lw_okq (⟨"TypeBars$Foretelling", "staysClear", "(I)Z"⟩, 5) := ⟨⟨by decide +kernel, by decide +kernel⟩, List.mem_of_getElem? (i := 132) (by decide +kernel), List.mem_of_getElem? (i := 502) (by decide +kernel), List.mem_of_getElem? (i := 503) (by decide +kernel)⟩
theorem lw_p13 : lw_okq (⟨"TypeBars$Foretelling", "leastPace", "(I)I"⟩, 5) := ⟨⟨by decide +kernel, by decide +kernel⟩, List.mem_of_getElem? (i := 132) (by decide +kernel), List.mem_of_getElem? (i := 520) (by decide +kernel), List.mem_of_getElem? (i := 521) (by decide +kernel)⟩
theorem lw_p14 : lw_okq (⟨"TypeBars$Foretelling", "goesAt", "(I)Z"⟩, 5) := ⟨⟨by decide +kernel, by decide +kernel⟩, List.mem_of_getElem? (i := 132) (by decide +kernel), List.mem_of_getElem? (i := 524) (by decide +kernel), List.mem_of_getElem? (i := 525) (by decide +kernel)⟩
theorem lw_p15 : lw_okq (⟨"TypeBars$Foretelling", "suppose", "(III)V"⟩, 5) := ⟨⟨by decide +kernel, by decide +kernel⟩, List.mem_of_getElem? (i := 132) (by decide +kernel), List.mem_of_getElem? (i := 548) (by decide +kernel), List.mem_of_getElem? (i := 549) (by decide +kernel)⟩
def lw_privs_1 : List (MethodName × Nat) := [(⟨"TypeBars", "found", "(I)I"⟩, 10), (⟨"TypeBars", "fine", "(I)I"⟩, 10), (⟨"TypeBars", "findingOf", "(III)I"⟩, 10), (⟨"TypeBars$Tape", "readBar", "(LTypeBars$Basket;)I"⟩, 3), (⟨"TypeBars$Tape", "byteAt", "(I)I"⟩, 3), (⟨"TypeBars$Tape", "figuresHere", "()I"⟩, 3), (⟨"TypeBars$Tape", "numberHere", "(I)I"⟩, 3), (⟨"TypeBars$Basket", "riseAndFall", "()V"⟩, 13), (⟨"TypeBars$Basket", "heightByTime", "(I)I"⟩, 13), (⟨"TypeBars$Basket", "meeting", "()I"⟩, 13), (⟨"TypeBars$Basket", "print", "()I"⟩, 13), (⟨"TypeBars$Basket", "strike", "(I)V"⟩, 13), (⟨"TypeBars$Foretelling", "staysClear", "(I)Z"⟩, 5), (⟨"TypeBars$Foretelling", "leastPace", "(I)I"⟩, 5), (⟨"TypeBars$Foretelling", "goesAt", "(I)Z"⟩, 5), (⟨"TypeBars$Foretelling", "suppose", "(III)V"⟩, 5)]
theorem lw_r1 : ∀ q ∈ lw_privs_1, lw_okq q := List.forall_mem_cons.mpr ⟨lw_p0, List.forall_mem_cons.mpr ⟨lw_p1, List.forall_mem_cons.mpr ⟨lw_p2, List.forall_mem_cons.mpr ⟨lw_p3, List.forall_mem_cons.mpr ⟨lw_p4, List.forall_mem_cons.mpr ⟨lw_p5, List.forall_mem_cons.mpr ⟨lw_p6, List.forall_mem_cons.mpr ⟨lw_p7, List.forall_mem_cons.mpr ⟨lw_p8, List.forall_mem_cons.mpr ⟨lw_p9, List.forall_mem_cons.mpr ⟨lw_p10, List.forall_mem_cons.mpr ⟨lw_p11, List.forall_mem_cons.mpr ⟨lw_p12, List.forall_mem_cons.mpr ⟨lw_p13, List.forall_mem_cons.mpr ⟨lw_p14, List.forall_mem_cons.mpr ⟨lw_p15, fun _ h => absurd h List.not_mem_nil⟩⟩⟩⟩⟩⟩⟩⟩⟩⟩⟩⟩⟩⟩⟩⟩
theorem lw_p16 : lw_okq (⟨"TypeBars$Foretelling", "risesAsHeard", "(I)Z"⟩, 5) := ⟨⟨by decide +kernel, by decide +kernel⟩, List.mem_of_getElem? (i := 132) (by decide +kernel), List.mem_of_getElem? (i := 554) (by decide +kernel), List.mem_of_getElem? (i := 555) (by decide +kernel)⟩
theorem lw_p17 : lw_okq (⟨"TypeBars$Asking", "give", "(ILTypeBars$Basket;II)I"⟩, 2) := ⟨⟨by decide +kernel, by decide +kernel⟩, List.mem_of_getElem? (i := 158) (by decide +kernel), List.mem_of_getElem? (i := 619) (by decide +kernel), List.mem_of_getElem? (i := 620) (by decide +kernel)⟩
theorem lw_p18 : lw_okq (⟨"TypeBars$Asking", "leave", "(I)V"⟩, 2) := ⟨⟨by decide +kernel, by decide +kernel⟩, List.mem_of_getElem? (i := 158) (by decide +kernel), List.mem_of_getElem? (i := 623) (by decide +kernel), List.mem_of_getElem? (i := 624) (by decide +kernel)⟩
theorem lw_p19 : lw_okq (⟨"TypeBars", "countRows", "()I"⟩, 10) := ⟨⟨by decide +kernel, by decide +kernel⟩, List.mem_of_getElem? (i := 14) (by decide +kernel), List.mem_of_getElem? (i := 641) (by decide +kernel), List.mem_of_getElem? (i := 642) (by decide +kernel)⟩
theorem lw_p20 : lw_okq (⟨"TypeBarsModel", "ends", "(I)I"⟩, 19) := ⟨⟨by decide +kernel, by decide +kernel⟩, List.mem_of_getElem? (i := 653) (by decide +kernel), List.mem_of_getElem? (i := 730) (by decide +kernel), List.mem_of_getElem? (i := 731) (by decide +kernel)⟩
theorem lw_p21 : lw_okq (⟨"TypeBarsModel", "lies", "(III)Z"⟩, 19) := ⟨⟨by decide +kernel, by decide +kernel⟩, List.mem_of_getElem? (i := 653) (by decide +kernel), List.mem_of_getElem? (i := 741) (by decide +kernel), List.mem_of_getElem? (i := 742) (by decide +kernel)⟩
theorem lw_p22 : lw_okq (⟨"TypeBarsModel", "readsAll", "()Z"⟩, 19) := ⟨⟨by decide +kernel, by decide +kernel⟩, List.mem_of_getElem? (i := 653) (by decide +kernel), List.mem_of_getElem? (i := 766) (by decide +kernel), List.mem_of_getElem? (i := 767) (by decide +kernel)⟩
theorem lw_p23 : lw_okq (⟨"TypeBarsModel", "letterAt", "(I)I"⟩, 19) := ⟨⟨by decide +kernel, by decide +kernel⟩, List.mem_of_getElem? (i := 653) (by decide +kernel), List.mem_of_getElem? (i := 770) (by decide +kernel), List.mem_of_getElem? (i := 771) (by decide +kernel)⟩
theorem lw_p24 : lw_okq (⟨"TypeBarsModel", "fails", "(I)Z"⟩, 19) := ⟨⟨by decide +kernel, by decide +kernel⟩, List.mem_of_getElem? (i := 653) (by decide +kernel), List.mem_of_getElem? (i := 777) (by decide +kernel), List.mem_of_getElem? (i := 778) (by decide +kernel)⟩
theorem lw_p25 : lw_okq (⟨"TypeBarsModel", "reads", "(I)Z"⟩, 19) := ⟨⟨by decide +kernel, by decide +kernel⟩, List.mem_of_getElem? (i := 653) (by decide +kernel), List.mem_of_getElem? (i := 781) (by decide +kernel), List.mem_of_getElem? (i := 782) (by decide +kernel)⟩
theorem lw_p26 : lw_okq (⟨"TypeBarsModel", "isBasket", "()Z"⟩, 19) := ⟨⟨by decide +kernel, by decide +kernel⟩, List.mem_of_getElem? (i := 653) (by decide +kernel), List.mem_of_getElem? (i := 797) (by decide +kernel), List.mem_of_getElem? (i := 798) (by decide +kernel)⟩
theorem lw_p27 : lw_okq (⟨"TypeBarsModel", "keeps", "()V"⟩, 19) := ⟨⟨by decide +kernel, by decide +kernel⟩, List.mem_of_getElem? (i := 653) (by decide +kernel), List.mem_of_getElem? (i := 802) (by decide +kernel), List.mem_of_getElem? (i := 803) (by decide +kernel)⟩
theorem lw_p28 : lw_okq (⟨"TypeBarsModel", "isBar", "(I)Z"⟩, 19) := ⟨⟨by decide +kernel, by decide +kernel⟩, List.mem_of_getElem? (i := 653) (by decide +kernel), List.mem_of_getElem? (i := 831) (by decide +kernel), List.mem_of_getElem? (i := 832) (by decide +kernel)⟩
theorem lw_p29 : lw_okq (⟨"TypeBarsModel", "goesOn", "(I)V"⟩, 19) := ⟨⟨by decide +kernel, by decide +kernel⟩, List.mem_of_getElem? (i := 653) (by decide +kernel), List.mem_of_getElem? (i := 879) (by decide +kernel), List.mem_of_getElem? (i := 880) (by decide +kernel)⟩
theorem lw_p30 : lw_okq (⟨"TypeBarsModel", "clear", "(II)Z"⟩, 19) := ⟨⟨by decide +kernel, by decide +kernel⟩, List.mem_of_getElem? (i := 653) (by decide +kernel), List.mem_of_getElem? (i := 898) (by decide +kernel), List.mem_of_getElem? (i := 899) (by decide +kernel)⟩
theorem lw_p31 : lw_okq (⟨"TypeBarsModel", "paceBy", "(IIII)I"⟩, 19) := ⟨⟨by decide +kernel, by decide +kernel⟩, List.mem_of_getElem? (i := 653) (by decide +kernel), List.mem_of_getElem? (i := 906) (by decide +kernel), List.mem_of_getElem? (i := 907) (by decide +kernel)⟩
def lw_privs_2 : List (MethodName × Nat) := [(⟨"TypeBars$Foretelling", "risesAsHeard", "(I)Z"⟩, 5), (⟨"TypeBars$Asking", "give", "(ILTypeBars$Basket;II)I"⟩, 2), (⟨"TypeBars$Asking", "leave", "(I)V"⟩, 2), (⟨"TypeBars", "countRows", "()I"⟩, 10), (⟨"TypeBarsModel", "ends", "(I)I"⟩, 19), (⟨"TypeBarsModel", "lies", "(III)Z"⟩, 19), (⟨"TypeBarsModel", "readsAll", "()Z"⟩, 19), (⟨"TypeBarsModel", "letterAt", "(I)I"⟩, 19), (⟨"TypeBarsModel", "fails", "(I)Z"⟩, 19), (⟨"TypeBarsModel", "reads", "(I)Z"⟩, 19), (⟨"TypeBarsModel", "isBasket", "()Z"⟩, 19), (⟨"TypeBarsModel", "keeps", "()V"⟩, 19), (⟨"TypeBarsModel", "isBar", "(I)Z"⟩, 19), (⟨"TypeBarsModel", "goesOn", "(I)V"⟩, 19), (⟨"TypeBarsModel", "clear", "(II)Z"⟩, 19), (⟨"TypeBarsModel", "paceBy", "(IIII)I"⟩, 19)]
theorem lw_r2 : ∀ q ∈ lw_privs_2, lw_okq q := List.forall_mem_cons.mpr ⟨lw_p16, List.forall_mem_cons.mpr ⟨lw_p17, List.forall_mem_cons.mpr ⟨lw_p18, List.forall_mem_cons.mpr ⟨lw_p19, List.forall_mem_cons.mpr ⟨lw_p20, List.forall_mem_cons.mpr ⟨lw_p21, List.forall_mem_cons.mpr ⟨lw_p22, List.forall_mem_cons.mpr ⟨lw_p23, List.forall_mem_cons.mpr ⟨lw_p24, List.forall_mem_cons.mpr ⟨lw_p25, List.forall_mem_cons.mpr ⟨lw_p26, List.forall_mem_cons.mpr ⟨lw_p27, List.forall_mem_cons.mpr ⟨lw_p28, List.forall_mem_cons.mpr ⟨lw_p29, List.forall_mem_cons.mpr ⟨lw_p30, List.forall_mem_cons.mpr ⟨lw_p31, fun _ h => absurd h List.not_mem_nil⟩⟩⟩⟩⟩⟩⟩⟩⟩⟩⟩⟩⟩⟩⟩⟩
theorem lw_p32 : lw_okq (⟨"TypeBarsModel", "becomes", "(III)V"⟩, 19) := ⟨⟨by decide +kernel, by decide +kernel⟩, List.mem_of_getElem? (i := 653) (by decide +kernel), List.mem_of_getElem? (i := 918) (by decide +kernel), List.mem_of_getElem? (i := 919) (by decide +kernel)⟩
theorem lw_p33 : lw_okq (⟨"TypeBarsModel", "isSo", "(III)Z"⟩, 19) := ⟨⟨by decide +kernel, by decide +kernel⟩, List.mem_of_getElem? (i := 653) (by decide +kernel), List.mem_of_getElem? (i := 922) (by decide +kernel), List.mem_of_getElem? (i := 923) (by decide +kernel)⟩
theorem lw_p34 : lw_okq (⟨"TypeBarsModel", "size", "(I)I"⟩, 19) := ⟨⟨by decide +kernel, by decide +kernel⟩, List.mem_of_getElem? (i := 653) (by decide +kernel), List.mem_of_getElem? (i := 960) (by decide +kernel), List.mem_of_getElem? (i := 961) (by decide +kernel)⟩
theorem lw_p35 : lw_okq (⟨"TypeBarsModel", "begins", "(I)V"⟩, 19) := ⟨⟨by decide +kernel, by decide +kernel⟩, List.mem_of_getElem? (i := 653) (by decide +kernel), List.mem_of_getElem? (i := 964) (by decide +kernel), List.mem_of_getElem? (i := 965) (by decide +kernel)⟩
theorem lw_p36 : lw_okq (⟨"TypeBarsModel", "plain", "(I)I"⟩, 19) := ⟨⟨by decide +kernel, by decide +kernel⟩, List.mem_of_getElem? (i := 653) (by decide +kernel), List.mem_of_getElem? (i := 968) (by decide +kernel), List.mem_of_getElem? (i := 969) (by decide +kernel)⟩
def lw_privs_3 : List (MethodName × Nat) := [(⟨"TypeBarsModel", "becomes", "(III)V"⟩, 19), (⟨"TypeBarsModel", "isSo", "(III)Z"⟩, 19), (⟨"TypeBarsModel", "size", "(I)I"⟩, 19), (⟨"TypeBarsModel", "begins", "(I)V"⟩, 19), (⟨"TypeBarsModel", "plain", "(I)I"⟩, 19)]
theorem lw_r3 : ∀ q ∈ lw_privs_3, lw_okq q := List.forall_mem_cons.mpr ⟨lw_p32, List.forall_mem_cons.mpr ⟨lw_p33, List.forall_mem_cons.mpr ⟨lw_p34, List.forall_mem_cons.mpr ⟨lw_p35, List.forall_mem_cons.mpr ⟨lw_p36, fun _ h => absurd h List.not_mem_nil⟩⟩⟩⟩⟩
def lw_privs : List (MethodName × Nat) := lw_privs_1 ++ (lw_privs_2 ++ (lw_privs_3))
def lw_tbl : List Cond := k2_sels lw_privs ++ tables_1
theorem lw_privs_ok : ∀ q ∈ lw_privs, lw_okq q := by
  show ∀ q ∈ lw_privs_1 ++ (lw_privs_2 ++ (lw_privs_3)), lw_okq q
  exact List.forall_mem_append.mpr ⟨lw_r1, List.forall_mem_append.mpr ⟨lw_r2, lw_r3⟩⟩
/-! ===== BEGIN words of one list among another's, by their places ===== -/
theorem goodIn_r {big : List Cond} (ws : List Cond) (ps : List Nat) (hp : ws = ps.filterMap (fun i => big[i]?)) (h : ws.all goodWord = true) : GoodIn big ws := by
  intro w hw
  have h1 := List.all_eq_true.mp h w hw
  rw [hp] at hw
  obtain ⟨i, -, hi⟩ := List.mem_filterMap.mp hw
  have hm : w ∈ big := by first | exact List.mem_of_getElem? hi | exact List.getElem?_mem hi
  exact ⟨hm, good_of_word h1⟩
theorem goodIn_app {big a b : List Cond} (ha : GoodIn big a) (hb : GoodIn big b) : GoodIn big (a ++ b) := fun w h => (List.mem_append.mp h).elim (ha w) (hb w)
theorem goodIn_ca {big a b : List Cond} {c : Cond} (ha : GoodIn big (c :: a)) (hb : GoodIn big b) : GoodIn big (c :: (a ++ b)) := fun w h => (List.mem_cons.mp h).elim (fun e => ha w (List.mem_cons.mpr (Or.inl e))) (fun h => (List.mem_append.mp h).elim (fun h => ha w (List.mem_cons.mpr (Or.inr h))) (hb w))
theorem goodIn_sub {big ws : List Cond} (hm : ∀ w ∈ ws, w ∈ big) (h : ws.all goodWord = true) : GoodIn big ws := fun w hw => ⟨hm w hw, good_of_word (List.all_eq_true.mp h w hw)⟩
/-! ===== END ===== -/

/-! ===== BEGIN printed: names, fields, word lists, decode rows ===== -/
def RX0 : String := "TypeBars$Acts"
def TX0 : u_T := fun k => match k with
  | 0 => ("TypeBars$Acts", "before", "[LTypeBars$Basket;", true)
  | 1 => ("TypeBars$Acts", "next", "I", false)
  | _ => ("TypeBars$Acts", "kept", "I", false)
def tyX0 : Nat → FieldType := fun k => match k with
  | 0 => .array (.object "TypeBars$Basket")
  | 1 => .int
  | _ => .int
abbrev wsX00 : List Cond := u_ws RX0 TX0 3
theorem nmX0 : ∀ a, a < 3 → ∀ b, b < 3 → a ≠ b → (TX0 a).2.1 ≠ (TX0 b).2.1 := by decide +kernel
theorem tyX0_ok : ∀ k, k < 3 → parseFieldDescriptor (TX0 k).2.2.1 = some (tyX0 k) := by decide +kernel
abbrev cX0_init : ByteArray := prog_2_method_1_code
def yX0_init : MethodName := ⟨RX0, "<init>", "()V"⟩
abbrev cX0_keep : ByteArray := prog_2_method_2_code
def yX0_keep : MethodName := ⟨RX0, "keep", "(LTypeBars$Basket;)V"⟩
abbrev cX0_takeBack : ByteArray := prog_2_method_3_code
def yX0_takeBack : MethodName := ⟨RX0, "takeBack", "(LTypeBars$Basket;)V"⟩
abbrev cX0_forget : ByteArray := prog_2_method_4_code
def yX0_forget : MethodName := ⟨RX0, "forget", "()V"⟩
def RX1 : String := "TypeBars$Asking"
def TX1 : u_T := fun k => match k with
  | 0 => ("TypeBars$Asking", "bodies", "[I", true)
  | _ => ("TypeBars$Asking", "left", "I", false)
def tyX1 : Nat → FieldType := fun k => match k with
  | 0 => .array .int
  | _ => .int
abbrev wsX10 : List Cond := u_ws RX1 TX1 2
theorem nmX1 : ∀ a, a < 2 → ∀ b, b < 2 → a ≠ b → (TX1 a).2.1 ≠ (TX1 b).2.1 := by decide +kernel
theorem tyX1_ok : ∀ k, k < 2 → parseFieldDescriptor (TX1 k).2.2.1 = some (tyX1 k) := by decide +kernel
abbrev cX1_init : ByteArray := prog_3_method_1_code
def yX1_init : MethodName := ⟨RX1, "<init>", "()V"⟩
abbrev cX1_sizeOf : ByteArray := prog_3_method_2_code
def yX1_sizeOf : MethodName := ⟨RX1, "sizeOf", "(LTypeBars$Basket;I)I"⟩
abbrev cX1_markOf : ByteArray := prog_3_method_3_code
def yX1_markOf : MethodName := ⟨RX1, "markOf", "(LTypeBars$Basket;I)I"⟩
abbrev cX1_give : ByteArray := prog_3_method_4_code
def yX1_give : MethodName := ⟨RX1, "give", "(ILTypeBars$Basket;II)I"⟩
abbrev cX1_leave : ByteArray := prog_3_method_5_code
def yX1_leave : MethodName := ⟨RX1, "leave", "(I)V"⟩
def RX2 : String := "TypeBars$Basket"
def TX2 : u_T := fun k => match k with
  | 0 => ("TypeBars$Basket", "sort", "[I", true)
  | 1 => ("TypeBars$Basket", "rise", "[I", true)
  | 2 => ("TypeBars$Basket", "top", "[I", true)
  | 3 => ("TypeBars$Basket", "place", "[I", true)
  | 4 => ("TypeBars$Basket", "at", "[I", true)
  | 5 => ("TypeBars$Basket", "time", "[I", true)
  | 6 => ("TypeBars$Basket", "height", "[I", true)
  | 7 => ("TypeBars$Basket", "sheet", "[I", true)
  | 8 => ("TypeBars$Basket", "bars", "I", false)
  | 9 => ("TypeBars$Basket", "moving", "I", false)
  | 10 => ("TypeBars$Basket", "hanging", "I", false)
  | 11 => ("TypeBars$Basket", "column", "I", false)
  | _ => ("TypeBars$Basket", "tick", "I", false)
def tyX2 : Nat → FieldType := fun k => match k with
  | 0 => .array .int
  | 1 => .array .int
  | 2 => .array .int
  | 3 => .array .int
  | 4 => .array .int
  | 5 => .array .int
  | 6 => .array .int
  | 7 => .array .int
  | 8 => .int
  | 9 => .int
  | 10 => .int
  | 11 => .int
  | _ => .int
abbrev wsX20 : List Cond := u_ws RX2 TX2 13
theorem nmX2 : ∀ a, a < 13 → ∀ b, b < 13 → a ≠ b → (TX2 a).2.1 ≠ (TX2 b).2.1 := by decide +kernel
theorem tyX2_ok : ∀ k, k < 13 → parseFieldDescriptor (TX2 k).2.2.1 = some (tyX2 k) := by decide +kernel
abbrev cX2_init : ByteArray := prog_4_method_1_code
def yX2_init : MethodName := ⟨RX2, "<init>", "()V"⟩
abbrev cX2_clear : ByteArray := prog_4_method_2_code
def yX2_clear : MethodName := ⟨RX2, "clear", "()V"⟩
abbrev cX2_addBar : ByteArray := prog_4_method_3_code
def yX2_addBar : MethodName := ⟨RX2, "addBar", "(II)V"⟩
abbrev cX2_become : ByteArray := prog_4_method_4_code
def yX2_become : MethodName := ⟨RX2, "become", "(LTypeBars$Basket;)V"⟩
abbrev cX2_has : ByteArray := prog_4_method_5_code
def yX2_has : MethodName := ⟨RX2, "has", "(I)Z"⟩
abbrev cX2_moves : ByteArray := prog_4_method_6_code
def yX2_moves : MethodName := ⟨RX2, "moves", "(I)Z"⟩
abbrev cX2_hangs : ByteArray := prog_4_method_7_code
def yX2_hangs : MethodName := ⟨RX2, "hangs", "(I)Z"⟩
abbrev cX2_rests : ByteArray := prog_4_method_8_code
def yX2_rests : MethodName := ⟨RX2, "rests", "(I)Z"⟩
abbrev cX2_shape : ByteArray := prog_4_method_9_code
def yX2_shape : MethodName := ⟨RX2, "shape", "(III)V"⟩
abbrev cX2_press : ByteArray := prog_4_method_10_code
def yX2_press : MethodName := ⟨RX2, "press", "(I)V"⟩
abbrev cX2_startAt : ByteArray := prog_4_method_11_code
def yX2_startAt : MethodName := ⟨RX2, "startAt", "(II)V"⟩
abbrev cX2_layDown : ByteArray := prog_4_method_12_code
def yX2_layDown : MethodName := ⟨RX2, "layDown", "(I)V"⟩
abbrev cX2_bringBack : ByteArray := prog_4_method_13_code
def yX2_bringBack : MethodName := ⟨RX2, "bringBack", "()V"⟩
abbrev cX2_exchange : ByteArray := prog_4_method_14_code
def yX2_exchange : MethodName := ⟨RX2, "exchange", "(II)V"⟩
abbrev cX2_pass : ByteArray := prog_4_method_15_code
def yX2_pass : MethodName := ⟨RX2, "pass", "()I"⟩
abbrev cX2_foresee : ByteArray := prog_4_method_16_code
def yX2_foresee : MethodName := ⟨RX2, "foresee", "(I)V"⟩
abbrev cX2_riseAndFall : ByteArray := prog_4_method_17_code
def yX2_riseAndFall : MethodName := ⟨RX2, "riseAndFall", "()V"⟩
abbrev cX2_heightByTime : ByteArray := prog_4_method_18_code
def yX2_heightByTime : MethodName := ⟨RX2, "heightByTime", "(I)I"⟩
abbrev cX2_meeting : ByteArray := prog_4_method_19_code
def yX2_meeting : MethodName := ⟨RX2, "meeting", "()I"⟩
abbrev cX2_print : ByteArray := prog_4_method_20_code
def yX2_print : MethodName := ⟨RX2, "print", "()I"⟩
abbrev cX2_strike : ByteArray := prog_4_method_21_code
def yX2_strike : MethodName := ⟨RX2, "strike", "(I)V"⟩
abbrev cX2_columnsPrinted : ByteArray := prog_4_method_22_code
def yX2_columnsPrinted : MethodName := ⟨RX2, "columnsPrinted", "()I"⟩
def RX3 : String := "TypeBars$Foretelling"
def TX3 : u_T := fun k => match k with
  | 0 => ("TypeBars$Foretelling", "ahead", "LTypeBars$Basket;", true)
  | 1 => ("TypeBars$Foretelling", "trial", "LTypeBars$Basket;", true)
  | 2 => ("TypeBars$Foretelling", "word", "[I", true)
  | 3 => ("TypeBars$Foretelling", "wordLength", "I", false)
  | _ => ("TypeBars$Foretelling", "bestPace", "I", false)
def tyX3 : Nat → FieldType := fun k => match k with
  | 0 => .object "TypeBars$Basket"
  | 1 => .object "TypeBars$Basket"
  | 2 => .array .int
  | 3 => .int
  | _ => .int
abbrev wsX30 : List Cond := u_ws RX3 TX3 5
theorem nmX3 : ∀ a, a < 5 → ∀ b, b < 5 → a ≠ b → (TX3 a).2.1 ≠ (TX3 b).2.1 := by decide +kernel
theorem tyX3_ok : ∀ k, k < 5 → parseFieldDescriptor (TX3 k).2.2.1 = some (tyX3 k) := by decide +kernel
abbrev cX3_init : ByteArray := prog_5_method_1_code
def yX3_init : MethodName := ⟨RX3, "<init>", "()V"⟩
abbrev cX3_ticksOn : ByteArray := prog_5_method_2_code
def yX3_ticksOn : MethodName := ⟨RX3, "ticksOn", "(LTypeBars$Basket;I)LTypeBars$Basket;"⟩
abbrev cX3_ticksToJam : ByteArray := prog_5_method_3_code
def yX3_ticksToJam : MethodName := ⟨RX3, "ticksToJam", "(LTypeBars$Basket;)I"⟩
abbrev cX3_leastWait : ByteArray := prog_5_method_4_code
def yX3_leastWait : MethodName := ⟨RX3, "leastWait", "(LTypeBars$Basket;I)I"⟩
abbrev cX3_staysClear : ByteArray := prog_5_method_5_code
def yX3_staysClear : MethodName := ⟨RX3, "staysClear", "(I)Z"⟩
abbrev cX3_hear : ByteArray := prog_5_method_6_code
def yX3_hear : MethodName := ⟨RX3, "hear", "(LTypeBars$Row;II)V"⟩
abbrev cX3_paceAsItIs : ByteArray := prog_5_method_7_code
def yX3_paceAsItIs : MethodName := ⟨RX3, "paceAsItIs", "(LTypeBars$Basket;)I"⟩
abbrev cX3_bestSwap : ByteArray := prog_5_method_8_code
def yX3_bestSwap : MethodName := ⟨RX3, "bestSwap", "(LTypeBars$Basket;)I"⟩
abbrev cX3_leastPace : ByteArray := prog_5_method_9_code
def yX3_leastPace : MethodName := ⟨RX3, "leastPace", "(I)I"⟩
abbrev cX3_goesAt : ByteArray := prog_5_method_10_code
def yX3_goesAt : MethodName := ⟨RX3, "goesAt", "(I)Z"⟩
abbrev cX3_fitting : ByteArray := prog_5_method_11_code
def yX3_fitting : MethodName := ⟨RX3, "fitting", "(LTypeBars$Basket;II)I"⟩
abbrev cX3_mostOf : ByteArray := prog_5_method_12_code
def yX3_mostOf : MethodName := ⟨RX3, "mostOf", "(II)I"⟩
abbrev cX3_suppose : ByteArray := prog_5_method_13_code
def yX3_suppose : MethodName := ⟨RX3, "suppose", "(III)V"⟩
abbrev cX3_risesAsHeard : ByteArray := prog_5_method_14_code
def yX3_risesAsHeard : MethodName := ⟨RX3, "risesAsHeard", "(I)Z"⟩
abbrev cX3_waysClear : ByteArray := prog_5_method_15_code
def yX3_waysClear : MethodName := ⟨RX3, "waysClear", "(LTypeBars$Basket;II)J"⟩
abbrev cX3_printedByDraws : ByteArray := prog_5_method_16_code
def yX3_printedByDraws : MethodName := ⟨RX3, "printedByDraws", "(LTypeBars$Basket;II)I"⟩
def RX4 : String := "TypeBars$Row"
def TX4 : u_T := fun k => match k with
  | 0 => ("TypeBars$Row", "items", "[I", true)
  | 1 => ("TypeBars$Row", "missing", "Z", false)
  | 2 => ("TypeBars$Row", "lane", "I", false)
  | _ => ("TypeBars$Row", "length", "I", false)
def tyX4 : Nat → FieldType := fun k => match k with
  | 0 => .array .int
  | 1 => .boolean
  | 2 => .int
  | _ => .int
abbrev wsX40 : List Cond := u_ws RX4 TX4 4
theorem nmX4 : ∀ a, a < 4 → ∀ b, b < 4 → a ≠ b → (TX4 a).2.1 ≠ (TX4 b).2.1 := by decide +kernel
theorem tyX4_ok : ∀ k, k < 4 → parseFieldDescriptor (TX4 k).2.2.1 = some (tyX4 k) := by decide +kernel
abbrev cX4_init : ByteArray := prog_6_method_1_code
def yX4_init : MethodName := ⟨RX4, "<init>", "()V"⟩
abbrev cX4_make : ByteArray := prog_6_method_2_code
def yX4_make : MethodName := ⟨RX4, "make", "(II)V"⟩
abbrev cX4_has : ByteArray := prog_6_method_3_code
def yX4_has : MethodName := ⟨RX4, "has", "(II)Z"⟩
abbrev cX4_put : ByteArray := prog_6_method_4_code
def yX4_put : MethodName := ⟨RX4, "put", "(II)I"⟩
def RX5 : String := "TypeBars$Tape"
def TX5 : u_T := fun k => match k with
  | 0 => ("TypeBars$Tape", "bytes", "[I", true)
  | 1 => ("TypeBars$Tape", "length", "I", false)
  | _ => ("TypeBars$Tape", "reading", "I", false)
def tyX5 : Nat → FieldType := fun k => match k with
  | 0 => .array .int
  | 1 => .int
  | _ => .int
abbrev wsX50 : List Cond := u_ws RX5 TX5 3
theorem nmX5 : ∀ a, a < 3 → ∀ b, b < 3 → a ≠ b → (TX5 a).2.1 ≠ (TX5 b).2.1 := by decide +kernel
theorem tyX5_ok : ∀ k, k < 3 → parseFieldDescriptor (TX5 k).2.2.1 = some (tyX5 k) := by decide +kernel
abbrev cX5_init : ByteArray := prog_7_method_1_code
def yX5_init : MethodName := ⟨RX5, "<init>", "()V"⟩
abbrev cX5_take : ByteArray := prog_7_method_2_code
def yX5_take : MethodName := ⟨RX5, "take", "(I)Z"⟩
abbrev cX5_readInto : ByteArray := prog_7_method_3_code
def yX5_readInto : MethodName := ⟨RX5, "readInto", "(LTypeBars$Basket;)I"⟩
abbrev cX5_readBar : ByteArray := prog_7_method_4_code
def yX5_readBar : MethodName := ⟨RX5, "readBar", "(LTypeBars$Basket;)I"⟩
abbrev cX5_byteAt : ByteArray := prog_7_method_5_code
def yX5_byteAt : MethodName := ⟨RX5, "byteAt", "(I)I"⟩
abbrev cX5_figuresHere : ByteArray := prog_7_method_6_code
def yX5_figuresHere : MethodName := ⟨RX5, "figuresHere", "()I"⟩
abbrev cX5_numberHere : ByteArray := prog_7_method_7_code
def yX5_numberHere : MethodName := ⟨RX5, "numberHere", "(I)I"⟩
abbrev cX5_sortOf : ByteArray := prog_7_method_8_code
def yX5_sortOf : MethodName := ⟨RX5, "sortOf", "(I)I"⟩
def RX6 : String := "TypeBars"
def TX6 : u_T := fun k => match k with
  | 0 => ("TypeBars", "rows", "[LTypeBars$Row;", true)
  | 1 => ("TypeBars", "tape", "LTypeBars$Tape;", true)
  | 2 => ("TypeBars", "now", "LTypeBars$Basket;", true)
  | 3 => ("TypeBars", "read", "LTypeBars$Basket;", true)
  | 4 => ("TypeBars", "acts", "LTypeBars$Acts;", true)
  | 5 => ("TypeBars", "foretelling", "LTypeBars$Foretelling;", true)
  | 6 => ("TypeBars", "images", "[LTypeBars$Basket;", true)
  | 7 => ("TypeBars", "asking", "LTypeBars$Asking;", true)
  | 8 => ("TypeBars", "latestFault", "I", false)
  | _ => ("TypeBars", "latestFinding", "I", false)
def tyX6 : Nat → FieldType := fun k => match k with
  | 0 => .array (.object "TypeBars$Row")
  | 1 => .object "TypeBars$Tape"
  | 2 => .object "TypeBars$Basket"
  | 3 => .object "TypeBars$Basket"
  | 4 => .object "TypeBars$Acts"
  | 5 => .object "TypeBars$Foretelling"
  | 6 => .array (.object "TypeBars$Basket")
  | 7 => .object "TypeBars$Asking"
  | 8 => .int
  | _ => .int
abbrev wsX60 : List Cond := u_ws RX6 TX6 10
theorem nmX6 : ∀ a, a < 10 → ∀ b, b < 10 → a ≠ b → (TX6 a).2.1 ≠ (TX6 b).2.1 := by decide +kernel
theorem tyX6_ok : ∀ k, k < 10 → parseFieldDescriptor (TX6 k).2.2.1 = some (tyX6 k) := by decide +kernel
abbrev cX6_init : ByteArray := prog_1_method_1_code
def yX6_init : MethodName := ⟨RX6, "<init>", "()V"⟩
abbrev cX6_row : ByteArray := prog_1_method_2_code
def yX6_row : MethodName := ⟨RX6, "row", "(III)I"⟩
abbrev cX6_set : ByteArray := prog_1_method_3_code
def yX6_set : MethodName := ⟨RX6, "set", "(III)I"⟩
abbrev cX6_copy : ByteArray := prog_1_method_4_code
def yX6_copy : MethodName := ⟨RX6, "copy", "(IIIII)I"⟩
abbrev cX6_drop : ByteArray := prog_1_method_5_code
def yX6_drop : MethodName := ⟨RX6, "drop", "(I)I"⟩
abbrev cX6_feed : ByteArray := prog_1_method_6_code
def yX6_feed : MethodName := ⟨RX6, "feed", "(I)I"⟩
abbrev cX6_basket : ByteArray := prog_1_method_7_code
def yX6_basket : MethodName := ⟨RX6, "basket", "()I"⟩
abbrev cX6_fault : ByteArray := prog_1_method_8_code
def yX6_fault : MethodName := ⟨RX6, "fault", "()I"⟩
abbrev cX6_ticks : ByteArray := prog_1_method_9_code
def yX6_ticks : MethodName := ⟨RX6, "ticks", "(I)I"⟩
abbrev cX6_key : ByteArray := prog_1_method_10_code
def yX6_key : MethodName := ⟨RX6, "key", "(I)I"⟩
abbrev cX6_free : ByteArray := prog_1_method_11_code
def yX6_free : MethodName := ⟨RX6, "free", "()I"⟩
abbrev cX6_back : ByteArray := prog_1_method_12_code
def yX6_back : MethodName := ⟨RX6, "back", "()I"⟩
abbrev cX6_swap : ByteArray := prog_1_method_13_code
def yX6_swap : MethodName := ⟨RX6, "swap", "(II)I"⟩
abbrev cX6_undo : ByteArray := prog_1_method_14_code
def yX6_undo : MethodName := ⟨RX6, "undo", "()I"⟩
abbrev cX6_bar : ByteArray := prog_1_method_15_code
def yX6_bar : MethodName := ⟨RX6, "bar", "(II)I"⟩
abbrev cX6_paper : ByteArray := prog_1_method_16_code
def yX6_paper : MethodName := ⟨RX6, "paper", "(I)I"⟩
abbrev cX6_height : ByteArray := prog_1_method_17_code
def yX6_height : MethodName := ⟨RX6, "height", "(II)I"⟩
abbrev cX6_later : ByteArray := prog_1_method_18_code
def yX6_later : MethodName := ⟨RX6, "later", "(II)I"⟩
abbrev cX6_jam : ByteArray := prog_1_method_19_code
def yX6_jam : MethodName := ⟨RX6, "jam", "(I)I"⟩
abbrev cX6_waits : ByteArray := prog_1_method_20_code
def yX6_waits : MethodName := ⟨RX6, "waits", "(I)I"⟩
abbrev cX6_pace : ByteArray := prog_1_method_21_code
def yX6_pace : MethodName := ⟨RX6, "pace", "(III)I"⟩
abbrev cX6_better : ByteArray := prog_1_method_22_code
def yX6_better : MethodName := ⟨RX6, "better", "(IIII)I"⟩
abbrev cX6_fits : ByteArray := prog_1_method_23_code
def yX6_fits : MethodName := ⟨RX6, "fits", "(IIIII)I"⟩
abbrev cX6_chance : ByteArray := prog_1_method_24_code
def yX6_chance : MethodName := ⟨RX6, "chance", "(III)I"⟩
abbrev cX6_drawn : ByteArray := prog_1_method_25_code
def yX6_drawn : MethodName := ⟨RX6, "drawn", "(III)I"⟩
abbrev cX6_image : ByteArray := prog_1_method_26_code
def yX6_image : MethodName := ⟨RX6, "image", "(I)I"⟩
abbrev cX6_restore : ByteArray := prog_1_method_27_code
def yX6_restore : MethodName := ⟨RX6, "restore", "(I)I"⟩
abbrev cX6_kind : ByteArray := prog_1_method_28_code
def yX6_kind : MethodName := ⟨RX6, "kind", "(I)I"⟩
abbrev cX6_as : ByteArray := prog_1_method_29_code
def yX6_as : MethodName := ⟨RX6, "as", "(II)I"⟩
abbrev cX6_ask : ByteArray := prog_1_method_30_code
def yX6_ask : MethodName := ⟨RX6, "ask", "(II)I"⟩
abbrev cX6_trace : ByteArray := prog_1_method_31_code
def yX6_trace : MethodName := ⟨RX6, "trace", "(I)I"⟩
abbrev cX6_count : ByteArray := prog_1_method_32_code
def yX6_count : MethodName := ⟨RX6, "count", "(I)I"⟩
abbrev cX6_status : ByteArray := prog_1_method_33_code
def yX6_status : MethodName := ⟨RX6, "status", "()I"⟩
abbrev cX6_found : ByteArray := prog_1_method_34_code
def yX6_found : MethodName := ⟨RX6, "found", "(I)I"⟩
abbrev cX6_fine : ByteArray := prog_1_method_35_code
def yX6_fine : MethodName := ⟨RX6, "fine", "(I)I"⟩
abbrev cX6_findingOf : ByteArray := prog_1_method_36_code
def yX6_findingOf : MethodName := ⟨RX6, "findingOf", "(III)I"⟩
abbrev cX6_countRows : ByteArray := prog_1_method_37_code
def yX6_countRows : MethodName := ⟨RX6, "countRows", "()I"⟩
abbrev cX6_isRow : ByteArray := prog_1_method_38_code
def yX6_isRow : MethodName := ⟨RX6, "isRow", "(I)Z"⟩
abbrev cX6_within : ByteArray := prog_1_method_39_code
def yX6_within : MethodName := ⟨RX6, "within", "(III)Z"⟩
abbrev cX6_isA : ByteArray := prog_1_method_40_code
def yX6_isA : MethodName := ⟨RX6, "isA", "(II)Z"⟩
abbrev cX6_power : ByteArray := prog_1_method_41_code
def yX6_power : MethodName := ⟨RX6, "power", "(II)J"⟩
abbrev cX6_commonDivisor : ByteArray := prog_1_method_42_code
def yX6_commonDivisor : MethodName := ⟨RX6, "commonDivisor", "(JJ)J"⟩
def RX7 : String := "TypeBarsModel"
def TX7 : u_T := fun k => match k with
  | 0 => ("TypeBarsModel", "sizes", "[I", true)
  | 1 => ("TypeBarsModel", "lanes", "[I", true)
  | 2 => ("TypeBarsModel", "items", "[I", true)
  | 3 => ("TypeBarsModel", "moved", "[I", true)
  | 4 => ("TypeBarsModel", "status", "I", false)
  | 5 => ("TypeBarsModel", "tape", "[I", true)
  | 6 => ("TypeBarsModel", "typed", "I", false)
  | 7 => ("TypeBarsModel", "fault", "I", false)
  | 8 => ("TypeBarsModel", "s", "[I", true)
  | 9 => ("TypeBarsModel", "draft", "[I", true)
  | 10 => ("TypeBarsModel", "images", "[I", true)
  | 11 => ("TypeBarsModel", "kept", "[Z", true)
  | 12 => ("TypeBarsModel", "past", "[I", true)
  | 13 => ("TypeBarsModel", "known", "I", false)
  | 14 => ("TypeBarsModel", "then", "[I", true)
  | 15 => ("TypeBarsModel", "traces", "[I", true)
  | 16 => ("TypeBarsModel", "traced", "I", false)
  | 17 => ("TypeBarsModel", "at", "I", false)
  | _ => ("TypeBarsModel", "wrong", "I", false)
def tyX7 : Nat → FieldType := fun k => match k with
  | 0 => .array .int
  | 1 => .array .int
  | 2 => .array .int
  | 3 => .array .int
  | 4 => .int
  | 5 => .array .int
  | 6 => .int
  | 7 => .int
  | 8 => .array .int
  | 9 => .array .int
  | 10 => .array .int
  | 11 => .array .boolean
  | 12 => .array .int
  | 13 => .int
  | 14 => .array .int
  | 15 => .array .int
  | 16 => .int
  | 17 => .int
  | _ => .int
abbrev wsX70 : List Cond := u_ws RX7 TX7 19
theorem nmX7 : ∀ a, a < 19 → ∀ b, b < 19 → a ≠ b → (TX7 a).2.1 ≠ (TX7 b).2.1 := by decide +kernel
theorem tyX7_ok : ∀ k, k < 19 → parseFieldDescriptor (TX7 k).2.2.1 = some (tyX7 k) := by decide +kernel
abbrev cX7_init : ByteArray := prog_9_method_1_code
def yX7_init : MethodName := ⟨RX7, "<init>", "()V"⟩
abbrev cX7_in : ByteArray := prog_9_method_3_code
def yX7_in : MethodName := ⟨RX7, "in", "(III)Z"⟩
abbrev cX7_isRow : ByteArray := prog_9_method_4_code
def yX7_isRow : MethodName := ⟨RX7, "isRow", "(I)Z"⟩
abbrev cX7_ends : ByteArray := prog_9_method_5_code
def yX7_ends : MethodName := ⟨RX7, "ends", "(I)I"⟩
abbrev cX7_cut : ByteArray := prog_9_method_6_code
def yX7_cut : MethodName := ⟨RX7, "cut", "(II)I"⟩
abbrev cX7_row : ByteArray := prog_9_method_7_code
def yX7_row : MethodName := ⟨RX7, "row", "(III)I"⟩
abbrev cX7_lies : ByteArray := prog_9_method_8_code
def yX7_lies : MethodName := ⟨RX7, "lies", "(III)Z"⟩
abbrev cX7_set : ByteArray := prog_9_method_9_code
def yX7_set : MethodName := ⟨RX7, "set", "(III)I"⟩
abbrev cX7_copy : ByteArray := prog_9_method_10_code
def yX7_copy : MethodName := ⟨RX7, "copy", "(IIIII)I"⟩
abbrev cX7_drop : ByteArray := prog_9_method_11_code
def yX7_drop : MethodName := ⟨RX7, "drop", "(I)I"⟩
abbrev cX7_feed : ByteArray := prog_9_method_12_code
def yX7_feed : MethodName := ⟨RX7, "feed", "(I)I"⟩
abbrev cX7_letterAt : ByteArray := prog_9_method_13_code
def yX7_letterAt : MethodName := ⟨RX7, "letterAt", "(I)I"⟩
abbrev cX7_isDigit : ByteArray := prog_9_method_14_code
def yX7_isDigit : MethodName := ⟨RX7, "isDigit", "(I)Z"⟩
abbrev cX7_fails : ByteArray := prog_9_method_15_code
def yX7_fails : MethodName := ⟨RX7, "fails", "(I)Z"⟩
abbrev cX7_reads : ByteArray := prog_9_method_16_code
def yX7_reads : MethodName := ⟨RX7, "reads", "(I)Z"⟩
abbrev cX7_kindBy : ByteArray := prog_9_method_17_code
def yX7_kindBy : MethodName := ⟨RX7, "kindBy", "(I)I"⟩
abbrev cX7_readsAll : ByteArray := prog_9_method_18_code
def yX7_readsAll : MethodName := ⟨RX7, "readsAll", "()Z"⟩
abbrev cX7_basket : ByteArray := prog_9_method_19_code
def yX7_basket : MethodName := ⟨RX7, "basket", "()I"⟩
abbrev cX7_fault : ByteArray := prog_9_method_20_code
def yX7_fault : MethodName := ⟨RX7, "fault", "()I"⟩
abbrev cX7_isBasket : ByteArray := prog_9_method_21_code
def yX7_isBasket : MethodName := ⟨RX7, "isBasket", "()Z"⟩
abbrev cX7_isBar : ByteArray := prog_9_method_22_code
def yX7_isBar : MethodName := ⟨RX7, "isBar", "(I)Z"⟩
abbrev cX7_keeps : ByteArray := prog_9_method_23_code
def yX7_keeps : MethodName := ⟨RX7, "keeps", "()V"⟩
abbrev cX7_top : ByteArray := prog_9_method_24_code
def yX7_top : MethodName := ⟨RX7, "top", "([II)I"⟩
abbrev cX7_high : ByteArray := prog_9_method_25_code
def yX7_high : MethodName := ⟨RX7, "high", "([II)I"⟩
abbrev cX7_meets : ByteArray := prog_9_method_26_code
def yX7_meets : MethodName := ⟨RX7, "meets", "([III)Z"⟩
abbrev cX7_prints : ByteArray := prog_9_method_27_code
def yX7_prints : MethodName := ⟨RX7, "prints", "([II)V"⟩
abbrev cX7_tick : ByteArray := prog_9_method_28_code
def yX7_tick : MethodName := ⟨RX7, "tick", "([I)I"⟩
abbrev cX7_has : ByteArray := prog_9_method_29_code
def yX7_has : MethodName := ⟨RX7, "has", "(II)Z"⟩
abbrev cX7_hanging : ByteArray := prog_9_method_30_code
def yX7_hanging : MethodName := ⟨RX7, "hanging", "([I)I"⟩
abbrev cX7_moving : ByteArray := prog_9_method_31_code
def yX7_moving : MethodName := ⟨RX7, "moving", "([I)I"⟩
abbrev cX7_rests : ByteArray := prog_9_method_32_code
def yX7_rests : MethodName := ⟨RX7, "rests", "([II)Z"⟩
abbrev cX7_frees : ByteArray := prog_9_method_33_code
def yX7_frees : MethodName := ⟨RX7, "frees", "([I)V"⟩
abbrev cX7_exchanges : ByteArray := prog_9_method_34_code
def yX7_exchanges : MethodName := ⟨RX7, "exchanges", "([III)V"⟩
abbrev cX7_ticks : ByteArray := prog_9_method_35_code
def yX7_ticks : MethodName := ⟨RX7, "ticks", "(I)I"⟩
abbrev cX7_key : ByteArray := prog_9_method_36_code
def yX7_key : MethodName := ⟨RX7, "key", "(I)I"⟩
abbrev cX7_ones : ByteArray := prog_9_method_37_code
def yX7_ones : MethodName := ⟨RX7, "ones", "(I)I"⟩
abbrev cX7_free : ByteArray := prog_9_method_38_code
def yX7_free : MethodName := ⟨RX7, "free", "()I"⟩
abbrev cX7_back : ByteArray := prog_9_method_39_code
def yX7_back : MethodName := ⟨RX7, "back", "()I"⟩
abbrev cX7_swap : ByteArray := prog_9_method_40_code
def yX7_swap : MethodName := ⟨RX7, "swap", "(II)I"⟩
abbrev cX7_undo : ByteArray := prog_9_method_41_code
def yX7_undo : MethodName := ⟨RX7, "undo", "()I"⟩
abbrev cX7_bar : ByteArray := prog_9_method_42_code
def yX7_bar : MethodName := ⟨RX7, "bar", "(II)I"⟩
abbrev cX7_paper : ByteArray := prog_9_method_43_code
def yX7_paper : MethodName := ⟨RX7, "paper", "(I)I"⟩
abbrev cX7_copies : ByteArray := prog_9_method_44_code
def yX7_copies : MethodName := ⟨RX7, "copies", "([I[I)V"⟩
abbrev cX7_goesOn : ByteArray := prog_9_method_45_code
def yX7_goesOn : MethodName := ⟨RX7, "goesOn", "(I)V"⟩
abbrev cX7_height : ByteArray := prog_9_method_46_code
def yX7_height : MethodName := ⟨RX7, "height", "(II)I"⟩
abbrev cX7_later : ByteArray := prog_9_method_47_code
def yX7_later : MethodName := ⟨RX7, "later", "(II)I"⟩
abbrev cX7_jam : ByteArray := prog_9_method_48_code
def yX7_jam : MethodName := ⟨RX7, "jam", "(I)I"⟩
abbrev cX7_clear : ByteArray := prog_9_method_49_code
def yX7_clear : MethodName := ⟨RX7, "clear", "(II)Z"⟩
abbrev cX7_waits : ByteArray := prog_9_method_50_code
def yX7_waits : MethodName := ⟨RX7, "waits", "(I)I"⟩
abbrev cX7_paceBy : ByteArray := prog_9_method_51_code
def yX7_paceBy : MethodName := ⟨RX7, "paceBy", "(IIII)I"⟩
abbrev cX7_pace : ByteArray := prog_9_method_52_code
def yX7_pace : MethodName := ⟨RX7, "pace", "(III)I"⟩
abbrev cX7_better : ByteArray := prog_9_method_53_code
def yX7_better : MethodName := ⟨RX7, "better", "(IIII)I"⟩
abbrev cX7_isSo : ByteArray := prog_9_method_54_code
def yX7_isSo : MethodName := ⟨RX7, "isSo", "(III)Z"⟩
abbrev cX7_becomes : ByteArray := prog_9_method_55_code
def yX7_becomes : MethodName := ⟨RX7, "becomes", "(III)V"⟩
abbrev cX7_fits : ByteArray := prog_9_method_56_code
def yX7_fits : MethodName := ⟨RX7, "fits", "(IIIII)I"⟩
abbrev cX7_chance : ByteArray := prog_9_method_57_code
def yX7_chance : MethodName := ⟨RX7, "chance", "(III)I"⟩
abbrev cX7_drawn : ByteArray := prog_9_method_58_code
def yX7_drawn : MethodName := ⟨RX7, "drawn", "(III)I"⟩
abbrev cX7_image : ByteArray := prog_9_method_59_code
def yX7_image : MethodName := ⟨RX7, "image", "(I)I"⟩
abbrev cX7_restore : ByteArray := prog_9_method_60_code
def yX7_restore : MethodName := ⟨RX7, "restore", "(I)I"⟩
abbrev cX7_kind : ByteArray := prog_9_method_61_code
def yX7_kind : MethodName := ⟨RX7, "kind", "(I)I"⟩
abbrev cX7_as : ByteArray := prog_9_method_62_code
def yX7_as : MethodName := ⟨RX7, "as", "(II)I"⟩
abbrev cX7_begins : ByteArray := prog_9_method_63_code
def yX7_begins : MethodName := ⟨RX7, "begins", "(I)V"⟩
abbrev cX7_size : ByteArray := prog_9_method_64_code
def yX7_size : MethodName := ⟨RX7, "size", "(I)I"⟩
abbrev cX7_plain : ByteArray := prog_9_method_65_code
def yX7_plain : MethodName := ⟨RX7, "plain", "(I)I"⟩
abbrev cX7_ask : ByteArray := prog_9_method_66_code
def yX7_ask : MethodName := ⟨RX7, "ask", "(II)I"⟩
abbrev cX7_trace : ByteArray := prog_9_method_67_code
def yX7_trace : MethodName := ⟨RX7, "trace", "(I)I"⟩
abbrev cX7_count : ByteArray := prog_9_method_68_code
def yX7_count : MethodName := ⟨RX7, "count", "(I)I"⟩
abbrev cX7_status : ByteArray := prog_9_method_69_code
def yX7_status : MethodName := ⟨RX7, "status", "()I"⟩
def RJ6 : String := "java/lang/Integer"
def TJ6 : u_T := fun k => match k with
  | _ => ("", "", "", false)
def tyJ6 : Nat → FieldType := fun k => match k with
  | _ => .int
abbrev wsJ60 : List Cond := u_ws RJ6 TJ6 0
theorem nmJ6 : ∀ a, a < 0 → ∀ b, b < 0 → a ≠ b → (TJ6 a).2.1 ≠ (TJ6 b).2.1 := by decide +kernel
theorem tyJ6_ok : ∀ k, k < 0 → parseFieldDescriptor (TJ6 k).2.2.1 = some (tyJ6 k) := by decide +kernel
abbrev cJ6_bitCount_0f7a4 : ByteArray := prog_10_method_49_code
def yJ6_bitCount_0f7a4 : MethodName := ⟨RJ6, "bitCount", "(I)I"⟩
def RJ9 : String := "java/lang/Math"
def TJ9 : u_T := fun k => match k with
  | _ => ("", "", "", false)
def tyJ9 : Nat → FieldType := fun k => match k with
  | _ => .int
abbrev wsJ90 : List Cond := u_ws RJ9 TJ9 0
theorem nmJ9 : ∀ a, a < 0 → ∀ b, b < 0 → a ≠ b → (TJ9 a).2.1 ≠ (TJ9 b).2.1 := by decide +kernel
theorem tyJ9_ok : ∀ k, k < 0 → parseFieldDescriptor (TJ9 k).2.2.1 = some (tyJ9 k) := by decide +kernel
abbrev cJ9_max_7cf53 : ByteArray := prog_11_method_65_code
def yJ9_max_7cf53 : MethodName := ⟨RJ9, "max", "(II)I"⟩
abbrev cJ9_min_7cf53 : ByteArray := prog_11_method_69_code
def yJ9_min_7cf53 : MethodName := ⟨RJ9, "min", "(II)I"⟩
def RJ10 : String := "java/lang/System"
def TJ10 : u_T := fun k => match k with
  | _ => ("", "", "", false)
def tyJ10 : Nat → FieldType := fun k => match k with
  | _ => .int
abbrev wsJ100 : List Cond := u_ws RJ10 TJ10 0
theorem nmJ10 : ∀ a, a < 0 → ∀ b, b < 0 → a ≠ b → (TJ10 a).2.1 ≠ (TJ10 b).2.1 := by decide +kernel
theorem tyJ10_ok : ∀ k, k < 0 → parseFieldDescriptor (TJ10 k).2.2.1 = some (tyJ10 k) := by decide +kernel
def RJ7 : String := "java/util/Arrays"
def TJ7 : u_T := fun k => match k with
  | _ => ("", "", "", false)
def tyJ7 : Nat → FieldType := fun k => match k with
  | _ => .int
abbrev wsJ70 : List Cond := u_ws RJ7 TJ7 0
theorem nmJ7 : ∀ a, a < 0 → ∀ b, b < 0 → a ≠ b → (TJ7 a).2.1 ≠ (TJ7 b).2.1 := by decide +kernel
theorem tyJ7_ok : ∀ k, k < 0 → parseFieldDescriptor (TJ7 k).2.2.1 = some (tyJ7 k) := by decide +kernel
abbrev cJ7_fill_53178 : ByteArray := prog_13_method_103_code
def yJ7_fill_53178 : MethodName := ⟨RJ7, "fill", "([II)V"⟩
def RL : String := "TypeBarsLaw"
abbrev cL_law : ByteArray := code
def yL_law : MethodName := ⟨RL, "law", "([I)Z"⟩
abbrev vwCl : List vw_C := [(RX0, TX0, 3), (RX1, TX1, 2), (RX2, TX2, 13), (RX3, TX3, 5), (RX4, TX4, 4), (RX5, TX5, 3), (RX6, TX6, 10), (RX7, TX7, 19)]
end
section
/-! the tables' words that stay: one list for every method -/
def tb_ALL : List Cond := lw_tbl.filter goodWord
theorem tb_all {w : Cond} (h : w ∈ tb_ALL) : w ∈ lw_tbl ∧ goodWord w = true := List.mem_filter.mp h
theorem tb_k0 {w : Cond} (h : w ∈ tables_1) (hg : goodWord w = true) : w ∈ tb_ALL := List.mem_filter.mpr ⟨List.mem_append_right _ h, hg⟩
theorem tb_k1 {w : Cond} (i : Nat) (h : tables_1_1[i]? = some w) (hg : goodWord w = true) : w ∈ tb_ALL := tb_k0 (List.mem_append_left _ (List.mem_of_getElem? h)) hg
theorem tb_k2 {w : Cond} (i : Nat) (h : tables_1_2[i]? = some w) (hg : goodWord w = true) : w ∈ tb_ALL := tb_k0 (List.mem_append_right _ (List.mem_append_left _ (List.mem_of_getElem? h))) hg
theorem tb_k3 {w : Cond} (i : Nat) (h : tables_1_3[i]? = some w) (hg : goodWord w = true) : w ∈ tb_ALL := tb_k0 (List.mem_append_right _ (List.mem_append_right _ (List.mem_append_left _ (List.mem_of_getElem? h)))) hg
theorem tb_k4 {w : Cond} (i : Nat) (h : tables_1_4[i]? = some w) (hg : goodWord w = true) : w ∈ tb_ALL := tb_k0 (List.mem_append_right _ (List.mem_append_right _ (List.mem_append_right _ (List.mem_append_left _ (List.mem_of_getElem? h))))) hg
theorem tb_k5 {w : Cond} (i : Nat) (h : tables_1_5[i]? = some w) (hg : goodWord w = true) : w ∈ tb_ALL := tb_k0 (List.mem_append_right _ (List.mem_append_right _ (List.mem_append_right _ (List.mem_append_right _ (List.mem_of_getElem? h))))) hg
theorem tb_kp {q : MethodName × Nat} (h : q ∈ lw_privs) : Cond.selects q.1.cls q.1 q.1 ∈ tb_ALL := List.mem_filter.mpr ⟨List.mem_append_left _ (List.mem_map.mpr ⟨q, h, rfl⟩), rfl⟩
/-- facts of a method that is called on an object -/
def tb_MV (z : MethodName) (zc : ByteArray) (zL : Nat) (zr : Option FieldType) (ci n : Nat) : Prop :=
  Cond.instanceMethod z ∈ tb_ALL ∧ Cond.selects z.cls z z ∈ tb_ALL ∧ Cond.initialized z.cls ∈ tb_ALL ∧ Cond.code z zc zL zr ∈ tb_ALL ∧ (z.cls = z.cls ∧ z.cls ≠ "java/lang/invoke/MethodHandle" ∧ z.cls ≠ "java/lang/invoke/VarHandle" ∧ (parseMethodDescriptor z.desc).map (fun d => d.parameters.length) = some n) ∧ ∃ T N, vwCl[ci]? = some (z.cls, T, N)
def tb_MS (z : MethodName) (zc : ByteArray) (zL : Nat) (zr : Option FieldType) (n : Nat) : Prop :=
  Cond.static z ∈ tb_ALL ∧ Cond.initialized z.cls ∈ tb_ALL ∧ Cond.code z zc zL zr ∈ tb_ALL ∧ (z.cls ≠ "java/lang/invoke/MethodHandle" ∧ z.cls ≠ "java/lang/invoke/VarHandle" ∧ (parseMethodDescriptor z.desc).map (fun d => d.parameters.length) = some n)
theorem ki_L : Cond.initialized RL ∈ tb_ALL := tb_k1 0 (by decide +kernel) rfl
theorem ki_X6 : Cond.initialized RX6 ∈ tb_ALL := tb_k1 1 (by decide +kernel) rfl
theorem ki_X5 : Cond.initialized RX5 ∈ tb_ALL := tb_k1 2 (by decide +kernel) rfl
theorem ki_X2 : Cond.initialized RX2 ∈ tb_ALL := tb_k1 3 (by decide +kernel) rfl
theorem ki_X0 : Cond.initialized RX0 ∈ tb_ALL := tb_k1 4 (by decide +kernel) rfl
theorem ki_X3 : Cond.initialized RX3 ∈ tb_ALL := tb_k1 5 (by decide +kernel) rfl
theorem ki_X1 : Cond.initialized RX1 ∈ tb_ALL := tb_k1 6 (by decide +kernel) rfl
theorem ki_X4 : Cond.initialized RX4 ∈ tb_ALL := tb_k1 7 (by decide +kernel) rfl
theorem ki_X7 : Cond.initialized RX7 ∈ tb_ALL := tb_k1 8 (by decide +kernel) rfl
theorem ki_J7 : Cond.initialized RJ7 ∈ tb_ALL := tb_k1 9 (by decide +kernel) rfl
theorem ki_J10 : Cond.initialized RJ10 ∈ tb_ALL := tb_k1 10 (by decide +kernel) rfl
theorem ki_J9 : Cond.initialized RJ9 ∈ tb_ALL := tb_k1 11 (by decide +kernel) rfl
theorem ki_J6 : Cond.initialized RJ6 ∈ tb_ALL := tb_k1 12 (by decide +kernel) rfl
theorem km_L_9 : Cond.methodLink RL 9 yX6_init ∈ tb_ALL := tb_k1 15 (by decide +kernel) rfl
theorem km_X6_1 : Cond.methodLink RX6 1 objectInit ∈ tb_ALL := tb_k1 18 (by decide +kernel) rfl
theorem km_X5_3 : Cond.methodLink RX5 3 objectInit ∈ tb_ALL := tb_k1 28 (by decide +kernel) rfl
theorem kf_X5_9 : Cond.fieldLink RX5 9 "TypeBars$Tape" "bytes" "[I" ∈ tb_ALL := tb_k1 29 (by decide +kernel) rfl
theorem kf_X5_15 : Cond.fieldLink RX5 15 "TypeBars$Tape" "length" "I" ∈ tb_ALL := tb_k1 30 (by decide +kernel) rfl
theorem kf_X6_114 : Cond.fieldLink RX6 114 "TypeBars$Tape" "length" "I" ∈ tb_ALL := tb_k1 31 (by decide +kernel) rfl
theorem kf_X5_24 : Cond.fieldLink RX5 24 "TypeBars$Tape" "reading" "I" ∈ tb_ALL := tb_k1 32 (by decide +kernel) rfl
theorem kf_X6_124 : Cond.fieldLink RX6 124 "TypeBars$Tape" "reading" "I" ∈ tb_ALL := tb_k1 33 (by decide +kernel) rfl
theorem km_X2_3 : Cond.methodLink RX2 3 objectInit ∈ tb_ALL := tb_k1 47 (by decide +kernel) rfl
theorem kf_X2_9 : Cond.fieldLink RX2 9 "TypeBars$Basket" "sort" "[I" ∈ tb_ALL := tb_k1 48 (by decide +kernel) rfl
theorem kf_X1_20 : Cond.fieldLink RX1 20 "TypeBars$Basket" "sort" "[I" ∈ tb_ALL := tb_k1 49 (by decide +kernel) rfl
theorem kf_X3_98 : Cond.fieldLink RX3 98 "TypeBars$Basket" "sort" "[I" ∈ tb_ALL := tb_k1 50 (by decide +kernel) rfl
theorem kf_X6_258 : Cond.fieldLink RX6 258 "TypeBars$Basket" "sort" "[I" ∈ tb_ALL := tb_k1 51 (by decide +kernel) rfl
theorem kf_X2_15 : Cond.fieldLink RX2 15 "TypeBars$Basket" "rise" "[I" ∈ tb_ALL := tb_k1 52 (by decide +kernel) rfl
theorem kf_X1_36 : Cond.fieldLink RX1 36 "TypeBars$Basket" "rise" "[I" ∈ tb_ALL := tb_k1 53 (by decide +kernel) rfl
theorem kf_X3_92 : Cond.fieldLink RX3 92 "TypeBars$Basket" "rise" "[I" ∈ tb_ALL := tb_k1 54 (by decide +kernel) rfl
theorem kf_X6_189 : Cond.fieldLink RX6 189 "TypeBars$Basket" "rise" "[I" ∈ tb_ALL := tb_k1 55 (by decide +kernel) rfl
theorem kf_X2_18 : Cond.fieldLink RX2 18 "TypeBars$Basket" "top" "[I" ∈ tb_ALL := tb_k1 56 (by decide +kernel) rfl
theorem kf_X6_205 : Cond.fieldLink RX6 205 "TypeBars$Basket" "top" "[I" ∈ tb_ALL := tb_k1 57 (by decide +kernel) rfl
theorem kf_X2_21 : Cond.fieldLink RX2 21 "TypeBars$Basket" "place" "[I" ∈ tb_ALL := tb_k1 58 (by decide +kernel) rfl
theorem kf_X6_180 : Cond.fieldLink RX6 180 "TypeBars$Basket" "place" "[I" ∈ tb_ALL := tb_k1 59 (by decide +kernel) rfl
theorem kf_X2_24 : Cond.fieldLink RX2 24 "TypeBars$Basket" "at" "[I" ∈ tb_ALL := tb_k1 60 (by decide +kernel) rfl
theorem kf_X3_104 : Cond.fieldLink RX3 104 "TypeBars$Basket" "at" "[I" ∈ tb_ALL := tb_k1 61 (by decide +kernel) rfl
theorem kf_X2_27 : Cond.fieldLink RX2 27 "TypeBars$Basket" "time" "[I" ∈ tb_ALL := tb_k1 62 (by decide +kernel) rfl
theorem kf_X6_198 : Cond.fieldLink RX6 198 "TypeBars$Basket" "time" "[I" ∈ tb_ALL := tb_k1 63 (by decide +kernel) rfl
theorem kf_X2_30 : Cond.fieldLink RX2 30 "TypeBars$Basket" "height" "[I" ∈ tb_ALL := tb_k1 64 (by decide +kernel) rfl
theorem kf_X1_39 : Cond.fieldLink RX1 39 "TypeBars$Basket" "height" "[I" ∈ tb_ALL := tb_k1 65 (by decide +kernel) rfl
theorem kf_X3_107 : Cond.fieldLink RX3 107 "TypeBars$Basket" "height" "[I" ∈ tb_ALL := tb_k1 66 (by decide +kernel) rfl
theorem kf_X6_192 : Cond.fieldLink RX6 192 "TypeBars$Basket" "height" "[I" ∈ tb_ALL := tb_k1 67 (by decide +kernel) rfl
theorem kf_X2_33 : Cond.fieldLink RX2 33 "TypeBars$Basket" "sheet" "[I" ∈ tb_ALL := tb_k1 68 (by decide +kernel) rfl
theorem kf_X6_208 : Cond.fieldLink RX6 208 "TypeBars$Basket" "sheet" "[I" ∈ tb_ALL := tb_k1 69 (by decide +kernel) rfl
theorem kf_X2_36 : Cond.fieldLink RX2 36 "TypeBars$Basket" "bars" "I" ∈ tb_ALL := tb_k1 70 (by decide +kernel) rfl
theorem kf_X5_38 : Cond.fieldLink RX5 38 "TypeBars$Basket" "bars" "I" ∈ tb_ALL := tb_k1 71 (by decide +kernel) rfl
theorem kf_X6_134 : Cond.fieldLink RX6 134 "TypeBars$Basket" "bars" "I" ∈ tb_ALL := tb_k1 72 (by decide +kernel) rfl
theorem kf_X3_71 : Cond.fieldLink RX3 71 "TypeBars$Basket" "bars" "I" ∈ tb_ALL := tb_k1 73 (by decide +kernel) rfl
theorem kf_X2_40 : Cond.fieldLink RX2 40 "TypeBars$Basket" "moving" "I" ∈ tb_ALL := tb_k1 74 (by decide +kernel) rfl
theorem kf_X6_160 : Cond.fieldLink RX6 160 "TypeBars$Basket" "moving" "I" ∈ tb_ALL := tb_k1 75 (by decide +kernel) rfl
theorem kf_X3_110 : Cond.fieldLink RX3 110 "TypeBars$Basket" "moving" "I" ∈ tb_ALL := tb_k1 76 (by decide +kernel) rfl
theorem kf_X2_43 : Cond.fieldLink RX2 43 "TypeBars$Basket" "hanging" "I" ∈ tb_ALL := tb_k1 77 (by decide +kernel) rfl
theorem kf_X3_33 : Cond.fieldLink RX3 33 "TypeBars$Basket" "hanging" "I" ∈ tb_ALL := tb_k1 78 (by decide +kernel) rfl
theorem kf_X6_148 : Cond.fieldLink RX6 148 "TypeBars$Basket" "hanging" "I" ∈ tb_ALL := tb_k1 79 (by decide +kernel) rfl
theorem kf_X2_62 : Cond.fieldLink RX2 62 "TypeBars$Basket" "column" "I" ∈ tb_ALL := tb_k1 80 (by decide +kernel) rfl
theorem kf_X6_171 : Cond.fieldLink RX6 171 "TypeBars$Basket" "column" "I" ∈ tb_ALL := tb_k1 81 (by decide +kernel) rfl
theorem kf_X2_46 : Cond.fieldLink RX2 46 "TypeBars$Basket" "tick" "I" ∈ tb_ALL := tb_k1 82 (by decide +kernel) rfl
theorem kf_X6_138 : Cond.fieldLink RX6 138 "TypeBars$Basket" "tick" "I" ∈ tb_ALL := tb_k1 83 (by decide +kernel) rfl
theorem km_X6_34 : Cond.methodLink RX6 34 yX0_init ∈ tb_ALL := tb_k1 113 (by decide +kernel) rfl
theorem km_X0_3 : Cond.methodLink RX0 3 objectInit ∈ tb_ALL := tb_k1 116 (by decide +kernel) rfl
theorem kf_X0_11 : Cond.fieldLink RX0 11 "TypeBars$Acts" "before" "[LTypeBars$Basket;" ∈ tb_ALL := tb_k1 120 (by decide +kernel) rfl
theorem kf_X0_18 : Cond.fieldLink RX0 18 "TypeBars$Acts" "next" "I" ∈ tb_ALL := tb_k1 121 (by decide +kernel) rfl
theorem kf_X0_26 : Cond.fieldLink RX0 26 "TypeBars$Acts" "kept" "I" ∈ tb_ALL := tb_k1 122 (by decide +kernel) rfl
theorem kf_X6_183 : Cond.fieldLink RX6 183 "TypeBars$Acts" "kept" "I" ∈ tb_ALL := tb_k1 123 (by decide +kernel) rfl
theorem km_X3_3 : Cond.methodLink RX3 3 objectInit ∈ tb_ALL := tb_k1 136 (by decide +kernel) rfl
theorem kf_X3_12 : Cond.fieldLink RX3 12 "TypeBars$Foretelling" "ahead" "LTypeBars$Basket;" ∈ tb_ALL := tb_k1 139 (by decide +kernel) rfl
theorem kf_X6_218 : Cond.fieldLink RX6 218 "TypeBars$Foretelling" "ahead" "LTypeBars$Basket;" ∈ tb_ALL := tb_k1 140 (by decide +kernel) rfl
theorem kf_X3_18 : Cond.fieldLink RX3 18 "TypeBars$Foretelling" "trial" "LTypeBars$Basket;" ∈ tb_ALL := tb_k1 141 (by decide +kernel) rfl
theorem kf_X3_21 : Cond.fieldLink RX3 21 "TypeBars$Foretelling" "word" "[I" ∈ tb_ALL := tb_k1 142 (by decide +kernel) rfl
theorem kf_X3_52 : Cond.fieldLink RX3 52 "TypeBars$Foretelling" "wordLength" "I" ∈ tb_ALL := tb_k1 143 (by decide +kernel) rfl
theorem kf_X3_68 : Cond.fieldLink RX3 68 "TypeBars$Foretelling" "bestPace" "I" ∈ tb_ALL := tb_k1 144 (by decide +kernel) rfl
theorem kf_X6_235 : Cond.fieldLink RX6 235 "TypeBars$Foretelling" "bestPace" "I" ∈ tb_ALL := tb_k1 145 (by decide +kernel) rfl
theorem km_X1_1 : Cond.methodLink RX1 1 objectInit ∈ tb_ALL := tb_k1 162 (by decide +kernel) rfl
theorem kf_X1_9 : Cond.fieldLink RX1 9 "TypeBars$Asking" "bodies" "[I" ∈ tb_ALL := tb_k1 163 (by decide +kernel) rfl
theorem kf_X6_273 : Cond.fieldLink RX6 273 "TypeBars$Asking" "bodies" "[I" ∈ tb_ALL := tb_k1 164 (by decide +kernel) rfl
theorem kf_X1_13 : Cond.fieldLink RX1 13 "TypeBars$Asking" "left" "I" ∈ tb_ALL := tb_k1 165 (by decide +kernel) rfl
theorem kf_X6_270 : Cond.fieldLink RX6 270 "TypeBars$Asking" "left" "I" ∈ tb_ALL := tb_k1 166 (by decide +kernel) rfl
theorem km_X4_3 : Cond.methodLink RX4 3 objectInit ∈ tb_ALL := tb_k1 176 (by decide +kernel) rfl
theorem kf_X4_9 : Cond.fieldLink RX4 9 "TypeBars$Row" "items" "[I" ∈ tb_ALL := tb_k1 177 (by decide +kernel) rfl
theorem kf_X6_98 : Cond.fieldLink RX6 98 "TypeBars$Row" "items" "[I" ∈ tb_ALL := tb_k1 178 (by decide +kernel) rfl
theorem kf_X3_61 : Cond.fieldLink RX3 61 "TypeBars$Row" "items" "[I" ∈ tb_ALL := tb_k1 179 (by decide +kernel) rfl
theorem kf_X4_15 : Cond.fieldLink RX4 15 "TypeBars$Row" "missing" "Z" ∈ tb_ALL := tb_k1 180 (by decide +kernel) rfl
theorem kf_X6_86 : Cond.fieldLink RX6 86 "TypeBars$Row" "missing" "Z" ∈ tb_ALL := tb_k1 181 (by decide +kernel) rfl
theorem kf_X4_19 : Cond.fieldLink RX4 19 "TypeBars$Row" "lane" "I" ∈ tb_ALL := tb_k1 182 (by decide +kernel) rfl
theorem kf_X6_90 : Cond.fieldLink RX6 90 "TypeBars$Row" "lane" "I" ∈ tb_ALL := tb_k1 183 (by decide +kernel) rfl
theorem kf_X4_23 : Cond.fieldLink RX4 23 "TypeBars$Row" "length" "I" ∈ tb_ALL := tb_k1 184 (by decide +kernel) rfl
theorem kf_X6_108 : Cond.fieldLink RX6 108 "TypeBars$Row" "length" "I" ∈ tb_ALL := tb_k1 185 (by decide +kernel) rfl
theorem kf_X6_11 : Cond.fieldLink RX6 11 "TypeBars" "rows" "[LTypeBars$Row;" ∈ tb_ALL := tb_k1 195 (by decide +kernel) rfl
theorem kf_X6_18 : Cond.fieldLink RX6 18 "TypeBars" "tape" "LTypeBars$Tape;" ∈ tb_ALL := tb_k1 196 (by decide +kernel) rfl
theorem kf_X6_25 : Cond.fieldLink RX6 25 "TypeBars" "now" "LTypeBars$Basket;" ∈ tb_ALL := tb_k1 197 (by decide +kernel) rfl
theorem kf_X6_29 : Cond.fieldLink RX6 29 "TypeBars" "read" "LTypeBars$Basket;" ∈ tb_ALL := tb_k1 198 (by decide +kernel) rfl
theorem kf_X6_35 : Cond.fieldLink RX6 35 "TypeBars" "acts" "LTypeBars$Acts;" ∈ tb_ALL := tb_k1 199 (by decide +kernel) rfl
theorem kf_X6_42 : Cond.fieldLink RX6 42 "TypeBars" "foretelling" "LTypeBars$Foretelling;" ∈ tb_ALL := tb_k1 200 (by decide +kernel) rfl
theorem kf_X6_46 : Cond.fieldLink RX6 46 "TypeBars" "images" "[LTypeBars$Basket;" ∈ tb_ALL := tb_k1 201 (by decide +kernel) rfl
theorem kf_X6_53 : Cond.fieldLink RX6 53 "TypeBars" "asking" "LTypeBars$Asking;" ∈ tb_ALL := tb_k1 202 (by decide +kernel) rfl
theorem kf_X6_120 : Cond.fieldLink RX6 120 "TypeBars" "latestFault" "I" ∈ tb_ALL := tb_k1 203 (by decide +kernel) rfl
theorem kf_X6_282 : Cond.fieldLink RX6 282 "TypeBars" "latestFinding" "I" ∈ tb_ALL := tb_k1 204 (by decide +kernel) rfl
theorem km_L_13 : Cond.methodLink RL 13 yX6_row ∈ tb_ALL := tb_k1 226 (by decide +kernel) rfl
theorem km_X6_58 : Cond.methodLink RX6 58 yX6_isRow ∈ tb_ALL := tb_k1 230 (by decide +kernel) rfl
theorem km_X6_62 : Cond.methodLink RX6 62 yX6_within ∈ tb_ALL := tb_k1 233 (by decide +kernel) rfl
theorem kc_X6_66 : Cond.constant RX6 66 (-1000001) ∈ tb_ALL := tb_k1 236 (by decide +kernel) rfl
theorem km_X6_67 : Cond.methodLink RX6 67 yX6_found ∈ tb_ALL := tb_k1 237 (by decide +kernel) rfl
theorem kc_X6_285 : Cond.constant RX6 285 (-1000010) ∈ tb_ALL := tb_k2 1 (by decide +kernel) rfl
theorem km_X6_71 : Cond.methodLink RX6 71 yX4_make ∈ tb_ALL := tb_k2 2 (by decide +kernel) rfl
theorem km_X4_26 : Cond.methodLink RX4 26 yJ7_fill_53178 ∈ tb_ALL := tb_k2 6 (by decide +kernel) rfl
theorem km_X6_75 : Cond.methodLink RX6 75 yX6_fine ∈ tb_ALL := tb_k2 9 (by decide +kernel) rfl
theorem km_L_18 : Cond.methodLink RL 18 yX6_set ∈ tb_ALL := tb_k2 13 (by decide +kernel) rfl
theorem km_X6_78 : Cond.methodLink RX6 78 yX6_findingOf ∈ tb_ALL := tb_k2 17 (by decide +kernel) rfl
theorem km_X6_94 : Cond.methodLink RX6 94 yX4_has ∈ tb_ALL := tb_k2 21 (by decide +kernel) rfl
theorem km_X6_82 : Cond.methodLink RX6 82 yX4_put ∈ tb_ALL := tb_k2 25 (by decide +kernel) rfl
theorem km_L_22 : Cond.methodLink RL 22 yX6_copy ∈ tb_ALL := tb_k2 29 (by decide +kernel) rfl
theorem km_X6_102 : Cond.methodLink RX6 102 arraycopyName ∈ tb_ALL := tb_k2 33 (by decide +kernel) rfl
theorem km_L_27 : Cond.methodLink RL 27 yX6_drop ∈ tb_ALL := tb_k2 36 (by decide +kernel) rfl
theorem km_L_32 : Cond.methodLink RL 32 yX6_feed ∈ tb_ALL := tb_k2 40 (by decide +kernel) rfl
theorem km_X6_111 : Cond.methodLink RX6 111 yX5_take ∈ tb_ALL := tb_k2 44 (by decide +kernel) rfl
theorem kc_X6_115 : Cond.constant RX6 115 (-1000003) ∈ tb_ALL := tb_k2 48 (by decide +kernel) rfl
theorem km_L_36 : Cond.methodLink RL 36 yX6_basket ∈ tb_ALL := tb_k2 49 (by decide +kernel) rfl
theorem km_X6_116 : Cond.methodLink RX6 116 yX5_readInto ∈ tb_ALL := tb_k2 53 (by decide +kernel) rfl
theorem km_X5_19 : Cond.methodLink RX5 19 yX2_clear ∈ tb_ALL := tb_k2 57 (by decide +kernel) rfl
theorem km_X2_49 : Cond.methodLink RX2 49 yX2_bringBack ∈ tb_ALL := tb_k2 61 (by decide +kernel) rfl
theorem km_X2_73 : Cond.methodLink RX2 73 yJ7_fill_53178 ∈ tb_ALL := tb_k2 65 (by decide +kernel) rfl
theorem km_X5_27 : Cond.methodLink RX5 27 yX5_readBar ∈ tb_ALL := tb_k2 66 (by decide +kernel) rfl
theorem km_X5_31 : Cond.methodLink RX5 31 yX5_byteAt ∈ tb_ALL := tb_k2 70 (by decide +kernel) rfl
theorem km_X5_35 : Cond.methodLink RX5 35 yX5_sortOf ∈ tb_ALL := tb_k2 75 (by decide +kernel) rfl
theorem km_X5_41 : Cond.methodLink RX5 41 yX5_figuresHere ∈ tb_ALL := tb_k2 78 (by decide +kernel) rfl
theorem km_X5_45 : Cond.methodLink RX5 45 yX5_numberHere ∈ tb_ALL := tb_k2 82 (by decide +kernel) rfl
theorem km_X5_52 : Cond.methodLink RX5 52 yX2_addBar ∈ tb_ALL := tb_k2 86 (by decide +kernel) rfl
theorem km_X2_52 : Cond.methodLink RX2 52 yX2_shape ∈ tb_ALL := tb_k2 90 (by decide +kernel) rfl
theorem kc_X6_123 : Cond.constant RX6 123 (-1000100) ∈ tb_ALL := tb_k2 94 (by decide +kernel) rfl
theorem km_X6_127 : Cond.methodLink RX6 127 yX2_become ∈ tb_ALL := tb_k2 95 (by decide +kernel) rfl
theorem km_X2_56 : Cond.methodLink RX2 56 arraycopyName ∈ tb_ALL := tb_k2 99 (by decide +kernel) rfl
theorem km_X6_131 : Cond.methodLink RX6 131 yX0_forget ∈ tb_ALL := tb_k2 100 (by decide +kernel) rfl
theorem km_L_41 : Cond.methodLink RL 41 yX6_fault ∈ tb_ALL := tb_k2 104 (by decide +kernel) rfl
theorem km_L_45 : Cond.methodLink RL 45 yX6_ticks ∈ tb_ALL := tb_k2 108 (by decide +kernel) rfl
theorem kc_X6_137 : Cond.constant RX6 137 (-1000002) ∈ tb_ALL := tb_k2 112 (by decide +kernel) rfl
theorem km_X6_141 : Cond.methodLink RX6 141 yX0_keep ∈ tb_ALL := tb_k2 113 (by decide +kernel) rfl
theorem km_X0_22 : Cond.methodLink RX0 22 yX2_become ∈ tb_ALL := tb_k2 117 (by decide +kernel) rfl
theorem km_X0_29 : Cond.methodLink RX0 29 Lib.Math.min.name ∈ tb_ALL := tb_k2 118 (by decide +kernel) rfl
theorem km_X6_144 : Cond.methodLink RX6 144 yX2_pass ∈ tb_ALL := tb_k2 121 (by decide +kernel) rfl
theorem km_X2_79 : Cond.methodLink RX2 79 yX2_riseAndFall ∈ tb_ALL := tb_k2 125 (by decide +kernel) rfl
theorem km_X2_92 : Cond.methodLink RX2 92 yX2_moves ∈ tb_ALL := tb_k2 129 (by decide +kernel) rfl
theorem km_X2_95 : Cond.methodLink RX2 95 yX2_heightByTime ∈ tb_ALL := tb_k2 133 (by decide +kernel) rfl
theorem km_X2_99 : Cond.methodLink RX2 99 Lib.Math.max.name ∈ tb_ALL := tb_k2 137 (by decide +kernel) rfl
theorem km_X2_82 : Cond.methodLink RX2 82 yX2_meeting ∈ tb_ALL := tb_k2 140 (by decide +kernel) rfl
theorem km_X2_105 : Cond.methodLink RX2 105 yJ6_bitCount_0f7a4 ∈ tb_ALL := tb_k2 144 (by decide +kernel) rfl
theorem kc_J6_265 : Cond.constant RJ6 265 (1431655765) ∈ tb_ALL := tb_k2 147 (by decide +kernel) rfl
theorem kc_J6_266 : Cond.constant RJ6 266 (858993459) ∈ tb_ALL := tb_k2 148 (by decide +kernel) rfl
theorem kc_J6_267 : Cond.constant RJ6 267 (252645135) ∈ tb_ALL := tb_k2 149 (by decide +kernel) rfl
theorem km_X2_86 : Cond.methodLink RX2 86 yX2_print ∈ tb_ALL := tb_k2 150 (by decide +kernel) rfl
theorem km_X2_110 : Cond.methodLink RX2 110 yX2_strike ∈ tb_ALL := tb_k2 154 (by decide +kernel) rfl
theorem km_L_49 : Cond.methodLink RL 49 yX6_key ∈ tb_ALL := tb_k2 158 (by decide +kernel) rfl
theorem km_X6_151 : Cond.methodLink RX6 151 yX2_has ∈ tb_ALL := tb_k2 162 (by decide +kernel) rfl
theorem km_X6_153 : Cond.methodLink RX6 153 yX2_rests ∈ tb_ALL := tb_k2 166 (by decide +kernel) rfl
theorem km_X2_65 : Cond.methodLink RX2 65 yX2_has ∈ tb_ALL := tb_k2 170 (by decide +kernel) rfl
theorem km_X6_156 : Cond.methodLink RX6 156 yX2_press ∈ tb_ALL := tb_k2 171 (by decide +kernel) rfl
theorem km_X2_69 : Cond.methodLink RX2 69 yX2_startAt ∈ tb_ALL := tb_k2 175 (by decide +kernel) rfl
theorem km_L_53 : Cond.methodLink RL 53 yX6_free ∈ tb_ALL := tb_k2 179 (by decide +kernel) rfl
theorem km_X6_163 : Cond.methodLink RX6 163 yJ6_bitCount_0f7a4 ∈ tb_ALL := tb_k2 183 (by decide +kernel) rfl
theorem km_X6_168 : Cond.methodLink RX6 168 yX2_layDown ∈ tb_ALL := tb_k2 184 (by decide +kernel) rfl
theorem km_L_57 : Cond.methodLink RL 57 yX6_back ∈ tb_ALL := tb_k2 188 (by decide +kernel) rfl
theorem km_X6_174 : Cond.methodLink RX6 174 yX2_bringBack ∈ tb_ALL := tb_k2 192 (by decide +kernel) rfl
theorem km_L_61 : Cond.methodLink RL 61 yX6_swap ∈ tb_ALL := tb_k2 193 (by decide +kernel) rfl
theorem km_X6_177 : Cond.methodLink RX6 177 yX2_exchange ∈ tb_ALL := tb_k2 197 (by decide +kernel) rfl
theorem km_L_66 : Cond.methodLink RL 66 yX6_undo ∈ tb_ALL := tb_k2 201 (by decide +kernel) rfl
theorem km_X6_186 : Cond.methodLink RX6 186 yX0_takeBack ∈ tb_ALL := tb_k2 205 (by decide +kernel) rfl
theorem km_X0_35 : Cond.methodLink RX0 35 Lib.Math.max.name ∈ tb_ALL := tb_k2 209 (by decide +kernel) rfl
theorem km_L_70 : Cond.methodLink RL 70 yX6_bar ∈ tb_ALL := tb_k2 210 (by decide +kernel) rfl
theorem km_X6_195 : Cond.methodLink RX6 195 yX2_moves ∈ tb_ALL := tb_k2 214 (by decide +kernel) rfl
theorem kc_X6_201 : Cond.constant RX6 201 (-1000000) ∈ tb_ALL := tb_k2 215 (by decide +kernel) rfl
theorem km_X6_202 : Cond.methodLink RX6 202 yX2_hangs ∈ tb_ALL := tb_k2 216 (by decide +kernel) rfl
theorem km_L_74 : Cond.methodLink RL 74 yX6_paper ∈ tb_ALL := tb_k2 220 (by decide +kernel) rfl
theorem km_L_78 : Cond.methodLink RL 78 yX6_height ∈ tb_ALL := tb_k2 224 (by decide +kernel) rfl
theorem km_X6_211 : Cond.methodLink RX6 211 yX3_ticksOn ∈ tb_ALL := tb_k2 228 (by decide +kernel) rfl
theorem km_X3_25 : Cond.methodLink RX3 25 yX2_become ∈ tb_ALL := tb_k2 232 (by decide +kernel) rfl
theorem km_X3_29 : Cond.methodLink RX3 29 yX2_foresee ∈ tb_ALL := tb_k2 233 (by decide +kernel) rfl
theorem km_X2_89 : Cond.methodLink RX2 89 yX2_pass ∈ tb_ALL := tb_k2 237 (by decide +kernel) rfl
theorem km_L_82 : Cond.methodLink RL 82 yX6_later ∈ tb_ALL := tb_k2 238 (by decide +kernel) rfl
theorem km_L_86 : Cond.methodLink RL 86 yX6_jam ∈ tb_ALL := tb_k3 2 (by decide +kernel) rfl
theorem km_X6_215 : Cond.methodLink RX6 215 yX3_ticksToJam ∈ tb_ALL := tb_k3 6 (by decide +kernel) rfl
theorem km_X3_37 : Cond.methodLink RX3 37 yX2_pass ∈ tb_ALL := tb_k3 10 (by decide +kernel) rfl
theorem kc_X3_41 : Cond.constant RX3 41 (-1000000) ∈ tb_ALL := tb_k3 11 (by decide +kernel) rfl
theorem km_L_90 : Cond.methodLink RL 90 yX6_waits ∈ tb_ALL := tb_k3 12 (by decide +kernel) rfl
theorem km_X6_221 : Cond.methodLink RX6 221 yX3_leastWait ∈ tb_ALL := tb_k3 16 (by decide +kernel) rfl
theorem km_X3_42 : Cond.methodLink RX3 42 yX2_rests ∈ tb_ALL := tb_k3 20 (by decide +kernel) rfl
theorem km_X3_46 : Cond.methodLink RX3 46 yX3_staysClear ∈ tb_ALL := tb_k3 21 (by decide +kernel) rfl
theorem km_X3_49 : Cond.methodLink RX3 49 yX2_press ∈ tb_ALL := tb_k3 25 (by decide +kernel) rfl
theorem km_L_94 : Cond.methodLink RL 94 yX6_pace ∈ tb_ALL := tb_k3 26 (by decide +kernel) rfl
theorem km_X6_225 : Cond.methodLink RX6 225 yX3_hear ∈ tb_ALL := tb_k3 30 (by decide +kernel) rfl
theorem km_X3_55 : Cond.methodLink RX3 55 yX4_has ∈ tb_ALL := tb_k3 34 (by decide +kernel) rfl
theorem km_X6_229 : Cond.methodLink RX6 229 yX3_paceAsItIs ∈ tb_ALL := tb_k3 35 (by decide +kernel) rfl
theorem km_X3_64 : Cond.methodLink RX3 64 yX3_leastPace ∈ tb_ALL := tb_k3 39 (by decide +kernel) rfl
theorem km_X3_78 : Cond.methodLink RX3 78 yX3_goesAt ∈ tb_ALL := tb_k3 43 (by decide +kernel) rfl
theorem km_L_98 : Cond.methodLink RL 98 yX6_better ∈ tb_ALL := tb_k3 47 (by decide +kernel) rfl
theorem km_X6_232 : Cond.methodLink RX6 232 yX3_bestSwap ∈ tb_ALL := tb_k3 51 (by decide +kernel) rfl
theorem km_X3_74 : Cond.methodLink RX3 74 yX2_exchange ∈ tb_ALL := tb_k3 55 (by decide +kernel) rfl
theorem km_L_103 : Cond.methodLink RL 103 yX6_fits ∈ tb_ALL := tb_k3 56 (by decide +kernel) rfl
theorem km_X6_238 : Cond.methodLink RX6 238 yX3_fitting ∈ tb_ALL := tb_k3 60 (by decide +kernel) rfl
theorem km_X3_81 : Cond.methodLink RX3 81 yX3_mostOf ∈ tb_ALL := tb_k3 64 (by decide +kernel) rfl
theorem km_X3_85 : Cond.methodLink RX3 85 yX3_suppose ∈ tb_ALL := tb_k3 67 (by decide +kernel) rfl
theorem km_X3_95 : Cond.methodLink RX3 95 yX2_shape ∈ tb_ALL := tb_k3 71 (by decide +kernel) rfl
theorem km_X3_101 : Cond.methodLink RX3 101 yX2_startAt ∈ tb_ALL := tb_k3 72 (by decide +kernel) rfl
theorem km_X3_89 : Cond.methodLink RX3 89 yX3_risesAsHeard ∈ tb_ALL := tb_k3 73 (by decide +kernel) rfl
theorem km_L_107 : Cond.methodLink RL 107 yX6_chance ∈ tb_ALL := tb_k3 77 (by decide +kernel) rfl
theorem km_X6_242 : Cond.methodLink RX6 242 yX3_waysClear ∈ tb_ALL := tb_k3 81 (by decide +kernel) rfl
theorem km_X3_113 : Cond.methodLink RX3 113 yX2_layDown ∈ tb_ALL := tb_k3 85 (by decide +kernel) rfl
theorem km_X3_116 : Cond.methodLink RX3 116 yJ6_bitCount_0f7a4 ∈ tb_ALL := tb_k3 86 (by decide +kernel) rfl
theorem km_X6_246 : Cond.methodLink RX6 246 yX6_power ∈ tb_ALL := tb_k3 90 (by decide +kernel) rfl
theorem km_X6_250 : Cond.methodLink RX6 250 yX6_commonDivisor ∈ tb_ALL := tb_k3 91 (by decide +kernel) rfl
theorem km_L_111 : Cond.methodLink RL 111 yX6_drawn ∈ tb_ALL := tb_k3 94 (by decide +kernel) rfl
theorem kc_X6_254 : Cond.constant RX6 254 (999999) ∈ tb_ALL := tb_k3 98 (by decide +kernel) rfl
theorem km_X6_255 : Cond.methodLink RX6 255 yX3_printedByDraws ∈ tb_ALL := tb_k3 99 (by decide +kernel) rfl
theorem kd_X3_125 : Cond.constantLong RX3 125 (16807) ∈ tb_ALL := tb_k3 103 (by decide +kernel) rfl
theorem kd_X3_127 : Cond.constantLong RX3 127 (2147483647) ∈ tb_ALL := tb_k3 104 (by decide +kernel) rfl
theorem kd_X3_129 : Cond.constantLong RX3 129 (11) ∈ tb_ALL := tb_k3 105 (by decide +kernel) rfl
theorem kd_X3_131 : Cond.constantLong RX3 131 (3) ∈ tb_ALL := tb_k3 106 (by decide +kernel) rfl
theorem km_L_115 : Cond.methodLink RL 115 yX6_image ∈ tb_ALL := tb_k3 107 (by decide +kernel) rfl
theorem km_L_119 : Cond.methodLink RL 119 yX6_restore ∈ tb_ALL := tb_k3 111 (by decide +kernel) rfl
theorem km_L_123 : Cond.methodLink RL 123 yX6_kind ∈ tb_ALL := tb_k3 115 (by decide +kernel) rfl
theorem km_L_127 : Cond.methodLink RL 127 yX6_as ∈ tb_ALL := tb_k3 119 (by decide +kernel) rfl
theorem km_X6_261 : Cond.methodLink RX6 261 yX6_isA ∈ tb_ALL := tb_k3 123 (by decide +kernel) rfl
theorem kf_X6_286 : Cond.fieldLink RX6 286 "TypeBars" "PARENT" "[I" ∈ tb_ALL := tb_k3 126 (by decide +kernel) rfl
theorem km_L_131 : Cond.methodLink RL 131 yX6_ask ∈ tb_ALL := tb_k3 128 (by decide +kernel) rfl
theorem km_X6_264 : Cond.methodLink RX6 264 yX1_sizeOf ∈ tb_ALL := tb_k3 132 (by decide +kernel) rfl
theorem kf_X1_17 : Cond.fieldLink RX1 17 "TypeBars$Asking" "SIZE_BODY" "[I" ∈ tb_ALL := tb_k3 136 (by decide +kernel) rfl
theorem km_X1_25 : Cond.methodLink RX1 25 yX1_give ∈ tb_ALL := tb_k3 138 (by decide +kernel) rfl
theorem km_X1_32 : Cond.methodLink RX1 32 yX1_leave ∈ tb_ALL := tb_k3 142 (by decide +kernel) rfl
theorem kf_X1_29 : Cond.fieldLink RX1 29 "TypeBars$Asking" "MARK_BODY" "[I" ∈ tb_ALL := tb_k3 146 (by decide +kernel) rfl
theorem km_X6_267 : Cond.methodLink RX6 267 yX1_markOf ∈ tb_ALL := tb_k3 148 (by decide +kernel) rfl
theorem km_L_135 : Cond.methodLink RL 135 yX6_trace ∈ tb_ALL := tb_k3 152 (by decide +kernel) rfl
theorem km_L_139 : Cond.methodLink RL 139 yX6_count ∈ tb_ALL := tb_k3 156 (by decide +kernel) rfl
theorem km_X6_276 : Cond.methodLink RX6 276 yX6_countRows ∈ tb_ALL := tb_k3 160 (by decide +kernel) rfl
theorem km_X6_279 : Cond.methodLink RX6 279 yX2_columnsPrinted ∈ tb_ALL := tb_k3 164 (by decide +kernel) rfl
theorem km_L_143 : Cond.methodLink RL 143 yX6_status ∈ tb_ALL := tb_k3 168 (by decide +kernel) rfl
theorem km_L_12 : Cond.methodLink RL 12 yX7_init ∈ tb_ALL := tb_k3 174 (by decide +kernel) rfl
theorem km_X7_1 : Cond.methodLink RX7 1 objectInit ∈ tb_ALL := tb_k3 177 (by decide +kernel) rfl
theorem kf_X7_7 : Cond.fieldLink RX7 7 "TypeBarsModel" "sizes" "[I" ∈ tb_ALL := tb_k3 178 (by decide +kernel) rfl
theorem kf_X7_13 : Cond.fieldLink RX7 13 "TypeBarsModel" "lanes" "[I" ∈ tb_ALL := tb_k3 179 (by decide +kernel) rfl
theorem kf_X7_16 : Cond.fieldLink RX7 16 "TypeBarsModel" "items" "[I" ∈ tb_ALL := tb_k3 180 (by decide +kernel) rfl
theorem kf_X7_19 : Cond.fieldLink RX7 19 "TypeBarsModel" "moved" "[I" ∈ tb_ALL := tb_k3 181 (by decide +kernel) rfl
theorem kf_X7_54 : Cond.fieldLink RX7 54 "TypeBarsModel" "status" "I" ∈ tb_ALL := tb_k3 182 (by decide +kernel) rfl
theorem kf_X7_22 : Cond.fieldLink RX7 22 "TypeBarsModel" "tape" "[I" ∈ tb_ALL := tb_k3 183 (by decide +kernel) rfl
theorem kf_X7_76 : Cond.fieldLink RX7 76 "TypeBarsModel" "typed" "I" ∈ tb_ALL := tb_k3 184 (by decide +kernel) rfl
theorem kf_X7_105 : Cond.fieldLink RX7 105 "TypeBarsModel" "fault" "I" ∈ tb_ALL := tb_k3 185 (by decide +kernel) rfl
theorem kf_X7_25 : Cond.fieldLink RX7 25 "TypeBarsModel" "s" "[I" ∈ tb_ALL := tb_k3 186 (by decide +kernel) rfl
theorem kf_X7_28 : Cond.fieldLink RX7 28 "TypeBarsModel" "draft" "[I" ∈ tb_ALL := tb_k3 187 (by decide +kernel) rfl
theorem kf_X7_31 : Cond.fieldLink RX7 31 "TypeBarsModel" "images" "[I" ∈ tb_ALL := tb_k3 188 (by decide +kernel) rfl
theorem kf_X7_34 : Cond.fieldLink RX7 34 "TypeBarsModel" "kept" "[Z" ∈ tb_ALL := tb_k3 189 (by decide +kernel) rfl
theorem kf_X7_38 : Cond.fieldLink RX7 38 "TypeBarsModel" "past" "[I" ∈ tb_ALL := tb_k3 190 (by decide +kernel) rfl
theorem kf_X7_109 : Cond.fieldLink RX7 109 "TypeBarsModel" "known" "I" ∈ tb_ALL := tb_k3 191 (by decide +kernel) rfl
theorem kf_X7_41 : Cond.fieldLink RX7 41 "TypeBarsModel" "then" "[I" ∈ tb_ALL := tb_k3 192 (by decide +kernel) rfl
theorem kf_X7_44 : Cond.fieldLink RX7 44 "TypeBarsModel" "traces" "[I" ∈ tb_ALL := tb_k3 193 (by decide +kernel) rfl
theorem kf_X7_199 : Cond.fieldLink RX7 199 "TypeBarsModel" "traced" "I" ∈ tb_ALL := tb_k3 194 (by decide +kernel) rfl
theorem kf_X7_83 : Cond.fieldLink RX7 83 "TypeBarsModel" "at" "I" ∈ tb_ALL := tb_k3 195 (by decide +kernel) rfl
theorem kf_X7_80 : Cond.fieldLink RX7 80 "TypeBarsModel" "wrong" "I" ∈ tb_ALL := tb_k3 196 (by decide +kernel) rfl
theorem km_L_17 : Cond.methodLink RL 17 yX7_row ∈ tb_ALL := tb_k3 237 (by decide +kernel) rfl
theorem km_X7_58 : Cond.methodLink RX7 58 yX7_isRow ∈ tb_ALL := tb_k4 1 (by decide +kernel) rfl
theorem km_X7_47 : Cond.methodLink RX7 47 yX7_in ∈ tb_ALL := tb_k4 4 (by decide +kernel) rfl
theorem kc_X7_62 : Cond.constant RX7 62 (-1000001) ∈ tb_ALL := tb_k4 7 (by decide +kernel) rfl
theorem kc_X7_63 : Cond.constant RX7 63 (-1000014) ∈ tb_ALL := tb_k4 8 (by decide +kernel) rfl
theorem km_X7_64 : Cond.methodLink RX7 64 yX7_ends ∈ tb_ALL := tb_k4 9 (by decide +kernel) rfl
theorem kc_X7_51 : Cond.constant RX7 51 (-1000015) ∈ tb_ALL := tb_k4 13 (by decide +kernel) rfl
theorem kc_X7_52 : Cond.constant RX7 52 (-1000011) ∈ tb_ALL := tb_k4 14 (by decide +kernel) rfl
theorem kc_X7_53 : Cond.constant RX7 53 (-1000010) ∈ tb_ALL := tb_k4 15 (by decide +kernel) rfl
theorem km_L_21 : Cond.methodLink RL 21 yX7_set ∈ tb_ALL := tb_k4 16 (by decide +kernel) rfl
theorem km_X7_68 : Cond.methodLink RX7 68 yX7_lies ∈ tb_ALL := tb_k4 20 (by decide +kernel) rfl
theorem kc_X7_71 : Cond.constant RX7 71 (-1000012) ∈ tb_ALL := tb_k4 24 (by decide +kernel) rfl
theorem km_X7_72 : Cond.methodLink RX7 72 yX7_cut ∈ tb_ALL := tb_k4 25 (by decide +kernel) rfl
theorem km_L_26 : Cond.methodLink RL 26 yX7_copy ∈ tb_ALL := tb_k4 28 (by decide +kernel) rfl
theorem km_L_31 : Cond.methodLink RL 31 yX7_drop ∈ tb_ALL := tb_k4 32 (by decide +kernel) rfl
theorem km_L_35 : Cond.methodLink RL 35 yX7_feed ∈ tb_ALL := tb_k4 36 (by decide +kernel) rfl
theorem kc_X7_79 : Cond.constant RX7 79 (-1000003) ∈ tb_ALL := tb_k4 40 (by decide +kernel) rfl
theorem km_L_40 : Cond.methodLink RL 40 yX7_basket ∈ tb_ALL := tb_k4 41 (by decide +kernel) rfl
theorem km_X7_101 : Cond.methodLink RX7 101 yX7_readsAll ∈ tb_ALL := tb_k4 45 (by decide +kernel) rfl
theorem km_X7_86 : Cond.methodLink RX7 86 yX7_letterAt ∈ tb_ALL := tb_k4 49 (by decide +kernel) rfl
theorem km_X7_95 : Cond.methodLink RX7 95 yX7_kindBy ∈ tb_ALL := tb_k4 53 (by decide +kernel) rfl
theorem km_X7_92 : Cond.methodLink RX7 92 yX7_fails ∈ tb_ALL := tb_k4 56 (by decide +kernel) rfl
theorem km_X7_98 : Cond.methodLink RX7 98 yX7_reads ∈ tb_ALL := tb_k4 60 (by decide +kernel) rfl
theorem km_X7_89 : Cond.methodLink RX7 89 yX7_isDigit ∈ tb_ALL := tb_k4 64 (by decide +kernel) rfl
theorem kc_X7_108 : Cond.constant RX7 108 (-1000100) ∈ tb_ALL := tb_k4 67 (by decide +kernel) rfl
theorem km_L_44 : Cond.methodLink RL 44 yX7_fault ∈ tb_ALL := tb_k4 68 (by decide +kernel) rfl
theorem km_L_48 : Cond.methodLink RL 48 yX7_ticks ∈ tb_ALL := tb_k4 72 (by decide +kernel) rfl
theorem km_X7_131 : Cond.methodLink RX7 131 yX7_isBasket ∈ tb_ALL := tb_k4 76 (by decide +kernel) rfl
theorem kc_X7_134 : Cond.constant RX7 134 (-1000002) ∈ tb_ALL := tb_k4 80 (by decide +kernel) rfl
theorem km_X7_135 : Cond.methodLink RX7 135 yX7_keeps ∈ tb_ALL := tb_k4 81 (by decide +kernel) rfl
theorem km_X7_138 : Cond.methodLink RX7 138 yX7_tick ∈ tb_ALL := tb_k4 85 (by decide +kernel) rfl
theorem km_X7_116 : Cond.methodLink RX7 116 yX7_high ∈ tb_ALL := tb_k4 88 (by decide +kernel) rfl
theorem km_X7_112 : Cond.methodLink RX7 112 yX7_top ∈ tb_ALL := tb_k4 91 (by decide +kernel) rfl
theorem km_X7_119 : Cond.methodLink RX7 119 yX7_meets ∈ tb_ALL := tb_k4 94 (by decide +kernel) rfl
theorem km_X7_123 : Cond.methodLink RX7 123 yX7_has ∈ tb_ALL := tb_k4 97 (by decide +kernel) rfl
theorem km_X7_127 : Cond.methodLink RX7 127 yX7_prints ∈ tb_ALL := tb_k4 100 (by decide +kernel) rfl
theorem km_X7_142 : Cond.methodLink RX7 142 yX7_hanging ∈ tb_ALL := tb_k4 103 (by decide +kernel) rfl
theorem km_L_52 : Cond.methodLink RL 52 yX7_key ∈ tb_ALL := tb_k4 106 (by decide +kernel) rfl
theorem km_X7_145 : Cond.methodLink RX7 145 yX7_isBar ∈ tb_ALL := tb_k4 110 (by decide +kernel) rfl
theorem km_X7_148 : Cond.methodLink RX7 148 yX7_rests ∈ tb_ALL := tb_k4 114 (by decide +kernel) rfl
theorem km_X7_152 : Cond.methodLink RX7 152 yX7_moving ∈ tb_ALL := tb_k4 117 (by decide +kernel) rfl
theorem km_L_56 : Cond.methodLink RL 56 yX7_free ∈ tb_ALL := tb_k4 120 (by decide +kernel) rfl
theorem km_X7_155 : Cond.methodLink RX7 155 yX7_ones ∈ tb_ALL := tb_k4 124 (by decide +kernel) rfl
theorem km_X7_158 : Cond.methodLink RX7 158 yX7_frees ∈ tb_ALL := tb_k4 127 (by decide +kernel) rfl
theorem km_L_60 : Cond.methodLink RL 60 yX7_back ∈ tb_ALL := tb_k4 130 (by decide +kernel) rfl
theorem km_L_65 : Cond.methodLink RL 65 yX7_swap ∈ tb_ALL := tb_k4 134 (by decide +kernel) rfl
theorem km_X7_162 : Cond.methodLink RX7 162 yX7_exchanges ∈ tb_ALL := tb_k4 138 (by decide +kernel) rfl
theorem km_L_69 : Cond.methodLink RL 69 yX7_undo ∈ tb_ALL := tb_k4 141 (by decide +kernel) rfl
theorem km_L_73 : Cond.methodLink RL 73 yX7_bar ∈ tb_ALL := tb_k4 145 (by decide +kernel) rfl
theorem kc_X7_166 : Cond.constant RX7 166 (-1000000) ∈ tb_ALL := tb_k4 149 (by decide +kernel) rfl
theorem km_L_77 : Cond.methodLink RL 77 yX7_paper ∈ tb_ALL := tb_k4 150 (by decide +kernel) rfl
theorem km_L_81 : Cond.methodLink RL 81 yX7_height ∈ tb_ALL := tb_k4 154 (by decide +kernel) rfl
theorem km_X7_171 : Cond.methodLink RX7 171 yX7_goesOn ∈ tb_ALL := tb_k4 158 (by decide +kernel) rfl
theorem km_X7_167 : Cond.methodLink RX7 167 yX7_copies ∈ tb_ALL := tb_k4 162 (by decide +kernel) rfl
theorem km_L_85 : Cond.methodLink RL 85 yX7_later ∈ tb_ALL := tb_k4 165 (by decide +kernel) rfl
theorem km_L_89 : Cond.methodLink RL 89 yX7_jam ∈ tb_ALL := tb_k4 169 (by decide +kernel) rfl
theorem km_L_93 : Cond.methodLink RL 93 yX7_waits ∈ tb_ALL := tb_k4 173 (by decide +kernel) rfl
theorem km_X7_175 : Cond.methodLink RX7 175 yX7_clear ∈ tb_ALL := tb_k4 177 (by decide +kernel) rfl
theorem km_L_97 : Cond.methodLink RL 97 yX7_pace ∈ tb_ALL := tb_k4 181 (by decide +kernel) rfl
theorem km_X7_178 : Cond.methodLink RX7 178 yX7_paceBy ∈ tb_ALL := tb_k4 185 (by decide +kernel) rfl
theorem km_L_102 : Cond.methodLink RL 102 yX7_better ∈ tb_ALL := tb_k4 189 (by decide +kernel) rfl
theorem km_L_106 : Cond.methodLink RL 106 yX7_fits ∈ tb_ALL := tb_k4 193 (by decide +kernel) rfl
theorem km_X7_182 : Cond.methodLink RX7 182 yX7_becomes ∈ tb_ALL := tb_k4 197 (by decide +kernel) rfl
theorem km_X7_186 : Cond.methodLink RX7 186 yX7_isSo ∈ tb_ALL := tb_k4 201 (by decide +kernel) rfl
theorem km_L_110 : Cond.methodLink RL 110 yX7_chance ∈ tb_ALL := tb_k4 205 (by decide +kernel) rfl
theorem km_L_114 : Cond.methodLink RL 114 yX7_drawn ∈ tb_ALL := tb_k4 209 (by decide +kernel) rfl
theorem kc_X7_189 : Cond.constant RX7 189 (999999) ∈ tb_ALL := tb_k4 213 (by decide +kernel) rfl
theorem kd_X7_190 : Cond.constantLong RX7 190 (16807) ∈ tb_ALL := tb_k4 214 (by decide +kernel) rfl
theorem kd_X7_192 : Cond.constantLong RX7 192 (2147483647) ∈ tb_ALL := tb_k4 215 (by decide +kernel) rfl
theorem kd_X7_194 : Cond.constantLong RX7 194 (11) ∈ tb_ALL := tb_k4 216 (by decide +kernel) rfl
theorem kd_X7_196 : Cond.constantLong RX7 196 (3) ∈ tb_ALL := tb_k4 217 (by decide +kernel) rfl
theorem km_L_118 : Cond.methodLink RL 118 yX7_image ∈ tb_ALL := tb_k4 218 (by decide +kernel) rfl
theorem km_L_122 : Cond.methodLink RL 122 yX7_restore ∈ tb_ALL := tb_k4 222 (by decide +kernel) rfl
theorem km_L_126 : Cond.methodLink RL 126 yX7_kind ∈ tb_ALL := tb_k4 226 (by decide +kernel) rfl
theorem km_L_130 : Cond.methodLink RL 130 yX7_as ∈ tb_ALL := tb_k4 230 (by decide +kernel) rfl
theorem kc_X7_198 : Cond.constant RX7 198 (-1000013) ∈ tb_ALL := tb_k4 234 (by decide +kernel) rfl
theorem km_L_134 : Cond.methodLink RL 134 yX7_ask ∈ tb_ALL := tb_k4 235 (by decide +kernel) rfl
theorem km_X7_208 : Cond.methodLink RX7 208 yX7_size ∈ tb_ALL := tb_k4 239 (by decide +kernel) rfl
theorem km_X7_202 : Cond.methodLink RX7 202 yX7_begins ∈ tb_ALL := tb_k5 3 (by decide +kernel) rfl
theorem km_X7_205 : Cond.methodLink RX7 205 yX7_plain ∈ tb_ALL := tb_k5 7 (by decide +kernel) rfl
theorem km_L_138 : Cond.methodLink RL 138 yX7_trace ∈ tb_ALL := tb_k5 11 (by decide +kernel) rfl
theorem km_L_142 : Cond.methodLink RL 142 yX7_count ∈ tb_ALL := tb_k5 15 (by decide +kernel) rfl
theorem km_L_146 : Cond.methodLink RL 146 yX7_status ∈ tb_ALL := tb_k5 19 (by decide +kernel) rfl
theorem kn_cpN : Cond.native arraycopyName ∈ tb_ALL := tb_k2 35 (by decide +kernel) rfl
theorem kn_cpS : Cond.static arraycopyName ∈ tb_ALL := tb_k2 34 (by decide +kernel) rfl
theorem kn_maxS : Cond.static Lib.Math.max.name ∈ tb_ALL := tb_k2 138 (by decide +kernel) rfl
theorem kn_maxC : Cond.code Lib.Math.max.name Lib.Math.max.code 2 (some .int) ∈ tb_ALL := tb_k2 139 rfl rfl
theorem kn_minS : Cond.static Lib.Math.min.name ∈ tb_ALL := tb_k2 119 (by decide +kernel) rfl
theorem kn_minC : Cond.code Lib.Math.min.name Lib.Math.min.code 2 (some .int) ∈ tb_ALL := tb_k2 120 rfl rfl
theorem kX0_init_code : Cond.code yX0_init cX0_init 2 none ∈ tb_ALL := tb_k1 115 rfl rfl
theorem kX0_init_inst : Cond.instanceMethod yX0_init ∈ tb_ALL := tb_k1 114 (by decide +kernel) rfl
theorem kX0_keep : tb_MV yX0_keep cX0_keep 2 none 0 1 := ⟨(tb_k2 114 (by decide +kernel) rfl), (tb_k2 115 (by decide +kernel) rfl), ki_X0, (tb_k2 116 rfl rfl), by decide +kernel, ⟨_, _, rfl⟩⟩
theorem kX0_takeBack : tb_MV yX0_takeBack cX0_takeBack 2 none 0 1 := ⟨(tb_k2 206 (by decide +kernel) rfl), (tb_k2 207 (by decide +kernel) rfl), ki_X0, (tb_k2 208 rfl rfl), by decide +kernel, ⟨_, _, rfl⟩⟩
theorem kX0_forget : tb_MV yX0_forget cX0_forget 1 none 0 0 := ⟨(tb_k2 101 (by decide +kernel) rfl), (tb_k2 102 (by decide +kernel) rfl), ki_X0, (tb_k2 103 rfl rfl), by decide +kernel, ⟨_, _, rfl⟩⟩
theorem kX1_init_code : Cond.code yX1_init cX1_init 1 none ∈ tb_ALL := tb_k1 161 rfl rfl
theorem kX1_init_inst : Cond.instanceMethod yX1_init ∈ tb_ALL := tb_k1 160 (by decide +kernel) rfl
theorem kX1_sizeOf : tb_MV yX1_sizeOf cX1_sizeOf 3 (some .int) 1 2 := ⟨(tb_k3 133 (by decide +kernel) rfl), (tb_k3 134 (by decide +kernel) rfl), ki_X1, (tb_k3 135 rfl rfl), by decide +kernel, ⟨_, _, rfl⟩⟩
theorem kX1_markOf : tb_MV yX1_markOf cX1_markOf 3 (some .int) 1 2 := ⟨(tb_k3 149 (by decide +kernel) rfl), (tb_k3 150 (by decide +kernel) rfl), ki_X1, (tb_k3 151 rfl rfl), by decide +kernel, ⟨_, _, rfl⟩⟩
theorem kX1_give : tb_MV yX1_give cX1_give 7 (some .int) 1 4 := ⟨(tb_k3 140 (by decide +kernel) rfl), (tb_kp (q := (yX1_give, 2)) (List.mem_of_getElem? (i := 17) (by decide +kernel))), ki_X1, (tb_k3 141 rfl rfl), by decide +kernel, ⟨_, _, rfl⟩⟩
theorem kX1_leave : tb_MV yX1_leave cX1_leave 2 none 1 1 := ⟨(tb_k3 144 (by decide +kernel) rfl), (tb_kp (q := (yX1_leave, 2)) (List.mem_of_getElem? (i := 18) (by decide +kernel))), ki_X1, (tb_k3 145 rfl rfl), by decide +kernel, ⟨_, _, rfl⟩⟩
theorem kX2_init_code : Cond.code yX2_init cX2_init 1 none ∈ tb_ALL := tb_k1 46 rfl rfl
theorem kX2_init_inst : Cond.instanceMethod yX2_init ∈ tb_ALL := tb_k1 45 (by decide +kernel) rfl
theorem kX2_clear : tb_MV yX2_clear cX2_clear 1 none 2 0 := ⟨(tb_k2 58 (by decide +kernel) rfl), (tb_k2 59 (by decide +kernel) rfl), ki_X2, (tb_k2 60 rfl rfl), by decide +kernel, ⟨_, _, rfl⟩⟩
theorem kX2_addBar : tb_MV yX2_addBar cX2_addBar 3 none 2 2 := ⟨(tb_k2 87 (by decide +kernel) rfl), (tb_k2 88 (by decide +kernel) rfl), ki_X2, (tb_k2 89 rfl rfl), by decide +kernel, ⟨_, _, rfl⟩⟩
theorem kX2_become : tb_MV yX2_become cX2_become 2 none 2 1 := ⟨(tb_k2 96 (by decide +kernel) rfl), (tb_k2 97 (by decide +kernel) rfl), ki_X2, (tb_k2 98 rfl rfl), by decide +kernel, ⟨_, _, rfl⟩⟩
theorem kX2_has : tb_MV yX2_has cX2_has 2 (some .boolean) 2 1 := ⟨(tb_k2 163 (by decide +kernel) rfl), (tb_k2 164 (by decide +kernel) rfl), ki_X2, (tb_k2 165 rfl rfl), by decide +kernel, ⟨_, _, rfl⟩⟩
theorem kX2_moves : tb_MV yX2_moves cX2_moves 2 (some .boolean) 2 1 := ⟨(tb_k2 130 (by decide +kernel) rfl), (tb_k2 131 (by decide +kernel) rfl), ki_X2, (tb_k2 132 rfl rfl), by decide +kernel, ⟨_, _, rfl⟩⟩
theorem kX2_hangs : tb_MV yX2_hangs cX2_hangs 2 (some .boolean) 2 1 := ⟨(tb_k2 217 (by decide +kernel) rfl), (tb_k2 218 (by decide +kernel) rfl), ki_X2, (tb_k2 219 rfl rfl), by decide +kernel, ⟨_, _, rfl⟩⟩
theorem kX2_rests : tb_MV yX2_rests cX2_rests 2 (some .boolean) 2 1 := ⟨(tb_k2 167 (by decide +kernel) rfl), (tb_k2 168 (by decide +kernel) rfl), ki_X2, (tb_k2 169 rfl rfl), by decide +kernel, ⟨_, _, rfl⟩⟩
theorem kX2_shape : tb_MV yX2_shape cX2_shape 4 none 2 3 := ⟨(tb_k2 91 (by decide +kernel) rfl), (tb_k2 92 (by decide +kernel) rfl), ki_X2, (tb_k2 93 rfl rfl), by decide +kernel, ⟨_, _, rfl⟩⟩
theorem kX2_press : tb_MV yX2_press cX2_press 2 none 2 1 := ⟨(tb_k2 172 (by decide +kernel) rfl), (tb_k2 173 (by decide +kernel) rfl), ki_X2, (tb_k2 174 rfl rfl), by decide +kernel, ⟨_, _, rfl⟩⟩
theorem kX2_startAt : tb_MV yX2_startAt cX2_startAt 3 none 2 2 := ⟨(tb_k2 176 (by decide +kernel) rfl), (tb_k2 177 (by decide +kernel) rfl), ki_X2, (tb_k2 178 rfl rfl), by decide +kernel, ⟨_, _, rfl⟩⟩
theorem kX2_layDown : tb_MV yX2_layDown cX2_layDown 3 none 2 1 := ⟨(tb_k2 185 (by decide +kernel) rfl), (tb_k2 186 (by decide +kernel) rfl), ki_X2, (tb_k2 187 rfl rfl), by decide +kernel, ⟨_, _, rfl⟩⟩
theorem kX2_bringBack : tb_MV yX2_bringBack cX2_bringBack 1 none 2 0 := ⟨(tb_k2 62 (by decide +kernel) rfl), (tb_k2 63 (by decide +kernel) rfl), ki_X2, (tb_k2 64 rfl rfl), by decide +kernel, ⟨_, _, rfl⟩⟩
theorem kX2_exchange : tb_MV yX2_exchange cX2_exchange 4 none 2 2 := ⟨(tb_k2 198 (by decide +kernel) rfl), (tb_k2 199 (by decide +kernel) rfl), ki_X2, (tb_k2 200 rfl rfl), by decide +kernel, ⟨_, _, rfl⟩⟩
theorem kX2_pass : tb_MV yX2_pass cX2_pass 2 (some .int) 2 0 := ⟨(tb_k2 122 (by decide +kernel) rfl), (tb_k2 123 (by decide +kernel) rfl), ki_X2, (tb_k2 124 rfl rfl), by decide +kernel, ⟨_, _, rfl⟩⟩
theorem kX2_foresee : tb_MV yX2_foresee cX2_foresee 3 none 2 1 := ⟨(tb_k2 234 (by decide +kernel) rfl), (tb_k2 235 (by decide +kernel) rfl), ki_X2, (tb_k2 236 rfl rfl), by decide +kernel, ⟨_, _, rfl⟩⟩
theorem kX2_riseAndFall : tb_MV yX2_riseAndFall cX2_riseAndFall 2 none 2 0 := ⟨(tb_k2 127 (by decide +kernel) rfl), (tb_kp (q := (yX2_riseAndFall, 13)) (List.mem_of_getElem? (i := 7) (by decide +kernel))), ki_X2, (tb_k2 128 rfl rfl), by decide +kernel, ⟨_, _, rfl⟩⟩
theorem kX2_heightByTime : tb_MV yX2_heightByTime cX2_heightByTime 3 (some .int) 2 1 := ⟨(tb_k2 135 (by decide +kernel) rfl), (tb_kp (q := (yX2_heightByTime, 13)) (List.mem_of_getElem? (i := 8) (by decide +kernel))), ki_X2, (tb_k2 136 rfl rfl), by decide +kernel, ⟨_, _, rfl⟩⟩
theorem kX2_meeting : tb_MV yX2_meeting cX2_meeting 7 (some .int) 2 0 := ⟨(tb_k2 142 (by decide +kernel) rfl), (tb_kp (q := (yX2_meeting, 13)) (List.mem_of_getElem? (i := 9) (by decide +kernel))), ki_X2, (tb_k2 143 rfl rfl), by decide +kernel, ⟨_, _, rfl⟩⟩
theorem kX2_print : tb_MV yX2_print cX2_print 3 (some .int) 2 0 := ⟨(tb_k2 152 (by decide +kernel) rfl), (tb_kp (q := (yX2_print, 13)) (List.mem_of_getElem? (i := 10) (by decide +kernel))), ki_X2, (tb_k2 153 rfl rfl), by decide +kernel, ⟨_, _, rfl⟩⟩
theorem kX2_strike : tb_MV yX2_strike cX2_strike 2 none 2 1 := ⟨(tb_k2 156 (by decide +kernel) rfl), (tb_kp (q := (yX2_strike, 13)) (List.mem_of_getElem? (i := 11) (by decide +kernel))), ki_X2, (tb_k2 157 rfl rfl), by decide +kernel, ⟨_, _, rfl⟩⟩
theorem kX2_columnsPrinted : tb_MV yX2_columnsPrinted cX2_columnsPrinted 3 (some .int) 2 0 := ⟨(tb_k3 165 (by decide +kernel) rfl), (tb_k3 166 (by decide +kernel) rfl), ki_X2, (tb_k3 167 rfl rfl), by decide +kernel, ⟨_, _, rfl⟩⟩
theorem kX3_init_code : Cond.code yX3_init cX3_init 1 none ∈ tb_ALL := tb_k1 135 rfl rfl
theorem kX3_init_inst : Cond.instanceMethod yX3_init ∈ tb_ALL := tb_k1 134 (by decide +kernel) rfl
theorem kX3_ticksOn : tb_MV yX3_ticksOn cX3_ticksOn 3 (some (.object "TypeBars$Basket")) 3 2 := ⟨(tb_k2 229 (by decide +kernel) rfl), (tb_k2 230 (by decide +kernel) rfl), ki_X3, (tb_k2 231 rfl rfl), by decide +kernel, ⟨_, _, rfl⟩⟩
theorem kX3_ticksToJam : tb_MV yX3_ticksToJam cX3_ticksToJam 3 (some .int) 3 1 := ⟨(tb_k3 7 (by decide +kernel) rfl), (tb_k3 8 (by decide +kernel) rfl), ki_X3, (tb_k3 9 rfl rfl), by decide +kernel, ⟨_, _, rfl⟩⟩
theorem kX3_leastWait : tb_MV yX3_leastWait cX3_leastWait 4 (some .int) 3 2 := ⟨(tb_k3 17 (by decide +kernel) rfl), (tb_k3 18 (by decide +kernel) rfl), ki_X3, (tb_k3 19 rfl rfl), by decide +kernel, ⟨_, _, rfl⟩⟩
theorem kX3_staysClear : tb_MV yX3_staysClear cX3_staysClear 2 (some .boolean) 3 1 := ⟨(tb_k3 23 (by decide +kernel) rfl), (tb_kp (q := (yX3_staysClear, 5)) (List.mem_of_getElem? (i := 12) (by decide +kernel))), ki_X3, (tb_k3 24 rfl rfl), by decide +kernel, ⟨_, _, rfl⟩⟩
theorem kX3_hear : tb_MV yX3_hear cX3_hear 5 none 3 3 := ⟨(tb_k3 31 (by decide +kernel) rfl), (tb_k3 32 (by decide +kernel) rfl), ki_X3, (tb_k3 33 rfl rfl), by decide +kernel, ⟨_, _, rfl⟩⟩
theorem kX3_paceAsItIs : tb_MV yX3_paceAsItIs cX3_paceAsItIs 2 (some .int) 3 1 := ⟨(tb_k3 36 (by decide +kernel) rfl), (tb_k3 37 (by decide +kernel) rfl), ki_X3, (tb_k3 38 rfl rfl), by decide +kernel, ⟨_, _, rfl⟩⟩
theorem kX3_bestSwap : tb_MV yX3_bestSwap cX3_bestSwap 7 (some .int) 3 1 := ⟨(tb_k3 52 (by decide +kernel) rfl), (tb_k3 53 (by decide +kernel) rfl), ki_X3, (tb_k3 54 rfl rfl), by decide +kernel, ⟨_, _, rfl⟩⟩
theorem kX3_leastPace : tb_MV yX3_leastPace cX3_leastPace 3 (some .int) 3 1 := ⟨(tb_k3 41 (by decide +kernel) rfl), (tb_kp (q := (yX3_leastPace, 5)) (List.mem_of_getElem? (i := 13) (by decide +kernel))), ki_X3, (tb_k3 42 rfl rfl), by decide +kernel, ⟨_, _, rfl⟩⟩
theorem kX3_goesAt : tb_MV yX3_goesAt cX3_goesAt 3 (some .boolean) 3 1 := ⟨(tb_k3 45 (by decide +kernel) rfl), (tb_kp (q := (yX3_goesAt, 5)) (List.mem_of_getElem? (i := 14) (by decide +kernel))), ki_X3, (tb_k3 46 rfl rfl), by decide +kernel, ⟨_, _, rfl⟩⟩
theorem kX3_fitting : tb_MV yX3_fitting cX3_fitting 8 (some .int) 3 3 := ⟨(tb_k3 61 (by decide +kernel) rfl), (tb_k3 62 (by decide +kernel) rfl), ki_X3, (tb_k3 63 rfl rfl), by decide +kernel, ⟨_, _, rfl⟩⟩
theorem kX3_mostOf : tb_MS yX3_mostOf cX3_mostOf 2 (some .int) 2 := ⟨(tb_k3 65 (by decide +kernel) rfl), ki_X3, (tb_k3 66 rfl rfl), by decide +kernel⟩
theorem kX3_suppose : tb_MV yX3_suppose cX3_suppose 4 none 3 3 := ⟨(tb_k3 69 (by decide +kernel) rfl), (tb_kp (q := (yX3_suppose, 5)) (List.mem_of_getElem? (i := 15) (by decide +kernel))), ki_X3, (tb_k3 70 rfl rfl), by decide +kernel, ⟨_, _, rfl⟩⟩
theorem kX3_risesAsHeard : tb_MV yX3_risesAsHeard cX3_risesAsHeard 3 (some .boolean) 3 1 := ⟨(tb_k3 75 (by decide +kernel) rfl), (tb_kp (q := (yX3_risesAsHeard, 5)) (List.mem_of_getElem? (i := 16) (by decide +kernel))), ki_X3, (tb_k3 76 rfl rfl), by decide +kernel, ⟨_, _, rfl⟩⟩
theorem kX3_waysClear : tb_MV yX3_waysClear cX3_waysClear 8 (some .long) 3 3 := ⟨(tb_k3 82 (by decide +kernel) rfl), (tb_k3 83 (by decide +kernel) rfl), ki_X3, (tb_k3 84 rfl rfl), by decide +kernel, ⟨_, _, rfl⟩⟩
theorem kX3_printedByDraws : tb_MV yX3_printedByDraws cX3_printedByDraws 9 (some .int) 3 3 := ⟨(tb_k3 100 (by decide +kernel) rfl), (tb_k3 101 (by decide +kernel) rfl), ki_X3, (tb_k3 102 rfl rfl), by decide +kernel, ⟨_, _, rfl⟩⟩
theorem kX4_init_code : Cond.code yX4_init cX4_init 1 none ∈ tb_ALL := tb_k1 175 rfl rfl
theorem kX4_init_inst : Cond.instanceMethod yX4_init ∈ tb_ALL := tb_k1 174 (by decide +kernel) rfl
theorem kX4_make : tb_MV yX4_make cX4_make 3 none 4 2 := ⟨(tb_k2 3 (by decide +kernel) rfl), (tb_k2 4 (by decide +kernel) rfl), ki_X4, (tb_k2 5 rfl rfl), by decide +kernel, ⟨_, _, rfl⟩⟩
theorem kX4_has : tb_MV yX4_has cX4_has 3 (some .boolean) 4 2 := ⟨(tb_k2 22 (by decide +kernel) rfl), (tb_k2 23 (by decide +kernel) rfl), ki_X4, (tb_k2 24 rfl rfl), by decide +kernel, ⟨_, _, rfl⟩⟩
theorem kX4_put : tb_MV yX4_put cX4_put 4 (some .int) 4 2 := ⟨(tb_k2 26 (by decide +kernel) rfl), (tb_k2 27 (by decide +kernel) rfl), ki_X4, (tb_k2 28 rfl rfl), by decide +kernel, ⟨_, _, rfl⟩⟩
theorem kX5_init_code : Cond.code yX5_init cX5_init 1 none ∈ tb_ALL := tb_k1 27 rfl rfl
theorem kX5_init_inst : Cond.instanceMethod yX5_init ∈ tb_ALL := tb_k1 26 (by decide +kernel) rfl
theorem kX5_take : tb_MV yX5_take cX5_take 2 (some .boolean) 5 1 := ⟨(tb_k2 45 (by decide +kernel) rfl), (tb_k2 46 (by decide +kernel) rfl), ki_X5, (tb_k2 47 rfl rfl), by decide +kernel, ⟨_, _, rfl⟩⟩
theorem kX5_readInto : tb_MV yX5_readInto cX5_readInto 4 (some .int) 5 1 := ⟨(tb_k2 54 (by decide +kernel) rfl), (tb_k2 55 (by decide +kernel) rfl), ki_X5, (tb_k2 56 rfl rfl), by decide +kernel, ⟨_, _, rfl⟩⟩
theorem kX5_readBar : tb_MV yX5_readBar cX5_readBar 5 (some .int) 5 1 := ⟨(tb_k2 68 (by decide +kernel) rfl), (tb_kp (q := (yX5_readBar, 3)) (List.mem_of_getElem? (i := 3) (by decide +kernel))), ki_X5, (tb_k2 69 rfl rfl), by decide +kernel, ⟨_, _, rfl⟩⟩
theorem kX5_byteAt : tb_MV yX5_byteAt cX5_byteAt 2 (some .int) 5 1 := ⟨(tb_k2 72 (by decide +kernel) rfl), (tb_kp (q := (yX5_byteAt, 3)) (List.mem_of_getElem? (i := 4) (by decide +kernel))), ki_X5, (tb_k2 73 rfl rfl), by decide +kernel, ⟨_, _, rfl⟩⟩
theorem kX5_figuresHere : tb_MV yX5_figuresHere cX5_figuresHere 2 (some .int) 5 0 := ⟨(tb_k2 80 (by decide +kernel) rfl), (tb_kp (q := (yX5_figuresHere, 3)) (List.mem_of_getElem? (i := 5) (by decide +kernel))), ki_X5, (tb_k2 81 rfl rfl), by decide +kernel, ⟨_, _, rfl⟩⟩
theorem kX5_numberHere : tb_MV yX5_numberHere cX5_numberHere 4 (some .int) 5 1 := ⟨(tb_k2 84 (by decide +kernel) rfl), (tb_kp (q := (yX5_numberHere, 3)) (List.mem_of_getElem? (i := 6) (by decide +kernel))), ki_X5, (tb_k2 85 rfl rfl), by decide +kernel, ⟨_, _, rfl⟩⟩
theorem kX5_sortOf : tb_MS yX5_sortOf cX5_sortOf 1 (some .int) 1 := ⟨(tb_k2 76 (by decide +kernel) rfl), ki_X5, (tb_k2 77 rfl rfl), by decide +kernel⟩
theorem kX6_init_code : Cond.code yX6_init cX6_init 2 none ∈ tb_ALL := tb_k1 17 rfl rfl
theorem kX6_init_inst : Cond.instanceMethod yX6_init ∈ tb_ALL := tb_k1 16 (by decide +kernel) rfl
theorem kX6_row : tb_MV yX6_row cX6_row 4 (some .int) 6 3 := ⟨(tb_k1 227 (by decide +kernel) rfl), (tb_k1 228 (by decide +kernel) rfl), ki_X6, (tb_k1 229 rfl rfl), by decide +kernel, ⟨_, _, rfl⟩⟩
theorem kX6_set : tb_MV yX6_set cX6_set 5 (some .int) 6 3 := ⟨(tb_k2 14 (by decide +kernel) rfl), (tb_k2 15 (by decide +kernel) rfl), ki_X6, (tb_k2 16 rfl rfl), by decide +kernel, ⟨_, _, rfl⟩⟩
theorem kX6_copy : tb_MV yX6_copy cX6_copy 8 (some .int) 6 5 := ⟨(tb_k2 30 (by decide +kernel) rfl), (tb_k2 31 (by decide +kernel) rfl), ki_X6, (tb_k2 32 rfl rfl), by decide +kernel, ⟨_, _, rfl⟩⟩
theorem kX6_drop : tb_MV yX6_drop cX6_drop 2 (some .int) 6 1 := ⟨(tb_k2 37 (by decide +kernel) rfl), (tb_k2 38 (by decide +kernel) rfl), ki_X6, (tb_k2 39 rfl rfl), by decide +kernel, ⟨_, _, rfl⟩⟩
theorem kX6_feed : tb_MV yX6_feed cX6_feed 2 (some .int) 6 1 := ⟨(tb_k2 41 (by decide +kernel) rfl), (tb_k2 42 (by decide +kernel) rfl), ki_X6, (tb_k2 43 rfl rfl), by decide +kernel, ⟨_, _, rfl⟩⟩
theorem kX6_basket : tb_MV yX6_basket cX6_basket 2 (some .int) 6 0 := ⟨(tb_k2 50 (by decide +kernel) rfl), (tb_k2 51 (by decide +kernel) rfl), ki_X6, (tb_k2 52 rfl rfl), by decide +kernel, ⟨_, _, rfl⟩⟩
theorem kX6_fault : tb_MV yX6_fault cX6_fault 1 (some .int) 6 0 := ⟨(tb_k2 105 (by decide +kernel) rfl), (tb_k2 106 (by decide +kernel) rfl), ki_X6, (tb_k2 107 rfl rfl), by decide +kernel, ⟨_, _, rfl⟩⟩
theorem kX6_ticks : tb_MV yX6_ticks cX6_ticks 3 (some .int) 6 1 := ⟨(tb_k2 109 (by decide +kernel) rfl), (tb_k2 110 (by decide +kernel) rfl), ki_X6, (tb_k2 111 rfl rfl), by decide +kernel, ⟨_, _, rfl⟩⟩
theorem kX6_key : tb_MV yX6_key cX6_key 2 (some .int) 6 1 := ⟨(tb_k2 159 (by decide +kernel) rfl), (tb_k2 160 (by decide +kernel) rfl), ki_X6, (tb_k2 161 rfl rfl), by decide +kernel, ⟨_, _, rfl⟩⟩
theorem kX6_free : tb_MV yX6_free cX6_free 2 (some .int) 6 0 := ⟨(tb_k2 180 (by decide +kernel) rfl), (tb_k2 181 (by decide +kernel) rfl), ki_X6, (tb_k2 182 rfl rfl), by decide +kernel, ⟨_, _, rfl⟩⟩
theorem kX6_back : tb_MV yX6_back cX6_back 2 (some .int) 6 0 := ⟨(tb_k2 189 (by decide +kernel) rfl), (tb_k2 190 (by decide +kernel) rfl), ki_X6, (tb_k2 191 rfl rfl), by decide +kernel, ⟨_, _, rfl⟩⟩
theorem kX6_swap : tb_MV yX6_swap cX6_swap 3 (some .int) 6 2 := ⟨(tb_k2 194 (by decide +kernel) rfl), (tb_k2 195 (by decide +kernel) rfl), ki_X6, (tb_k2 196 rfl rfl), by decide +kernel, ⟨_, _, rfl⟩⟩
theorem kX6_undo : tb_MV yX6_undo cX6_undo 1 (some .int) 6 0 := ⟨(tb_k2 202 (by decide +kernel) rfl), (tb_k2 203 (by decide +kernel) rfl), ki_X6, (tb_k2 204 rfl rfl), by decide +kernel, ⟨_, _, rfl⟩⟩
theorem kX6_bar : tb_MV yX6_bar cX6_bar 3 (some .int) 6 2 := ⟨(tb_k2 211 (by decide +kernel) rfl), (tb_k2 212 (by decide +kernel) rfl), ki_X6, (tb_k2 213 rfl rfl), by decide +kernel, ⟨_, _, rfl⟩⟩
theorem kX6_paper : tb_MV yX6_paper cX6_paper 3 (some .int) 6 1 := ⟨(tb_k2 221 (by decide +kernel) rfl), (tb_k2 222 (by decide +kernel) rfl), ki_X6, (tb_k2 223 rfl rfl), by decide +kernel, ⟨_, _, rfl⟩⟩
theorem kX6_height : tb_MV yX6_height cX6_height 3 (some .int) 6 2 := ⟨(tb_k2 225 (by decide +kernel) rfl), (tb_k2 226 (by decide +kernel) rfl), ki_X6, (tb_k2 227 rfl rfl), by decide +kernel, ⟨_, _, rfl⟩⟩
theorem kX6_later : tb_MV yX6_later cX6_later 4 (some .int) 6 2 := ⟨(tb_k2 239 (by decide +kernel) rfl), (tb_k3 0 (by decide +kernel) rfl), ki_X6, (tb_k3 1 rfl rfl), by decide +kernel, ⟨_, _, rfl⟩⟩
theorem kX6_jam : tb_MV yX6_jam cX6_jam 3 (some .int) 6 1 := ⟨(tb_k3 3 (by decide +kernel) rfl), (tb_k3 4 (by decide +kernel) rfl), ki_X6, (tb_k3 5 rfl rfl), by decide +kernel, ⟨_, _, rfl⟩⟩
theorem kX6_waits : tb_MV yX6_waits cX6_waits 2 (some .int) 6 1 := ⟨(tb_k3 13 (by decide +kernel) rfl), (tb_k3 14 (by decide +kernel) rfl), ki_X6, (tb_k3 15 rfl rfl), by decide +kernel, ⟨_, _, rfl⟩⟩
theorem kX6_pace : tb_MV yX6_pace cX6_pace 5 (some .int) 6 3 := ⟨(tb_k3 27 (by decide +kernel) rfl), (tb_k3 28 (by decide +kernel) rfl), ki_X6, (tb_k3 29 rfl rfl), by decide +kernel, ⟨_, _, rfl⟩⟩
theorem kX6_better : tb_MV yX6_better cX6_better 7 (some .int) 6 4 := ⟨(tb_k3 48 (by decide +kernel) rfl), (tb_k3 49 (by decide +kernel) rfl), ki_X6, (tb_k3 50 rfl rfl), by decide +kernel, ⟨_, _, rfl⟩⟩
theorem kX6_fits : tb_MV yX6_fits cX6_fits 7 (some .int) 6 5 := ⟨(tb_k3 57 (by decide +kernel) rfl), (tb_k3 58 (by decide +kernel) rfl), ki_X6, (tb_k3 59 rfl rfl), by decide +kernel, ⟨_, _, rfl⟩⟩
theorem kX6_chance : tb_MV yX6_chance cX6_chance 10 (some .int) 6 3 := ⟨(tb_k3 78 (by decide +kernel) rfl), (tb_k3 79 (by decide +kernel) rfl), ki_X6, (tb_k3 80 rfl rfl), by decide +kernel, ⟨_, _, rfl⟩⟩
theorem kX6_drawn : tb_MV yX6_drawn cX6_drawn 5 (some .int) 6 3 := ⟨(tb_k3 95 (by decide +kernel) rfl), (tb_k3 96 (by decide +kernel) rfl), ki_X6, (tb_k3 97 rfl rfl), by decide +kernel, ⟨_, _, rfl⟩⟩
theorem kX6_image : tb_MV yX6_image cX6_image 2 (some .int) 6 1 := ⟨(tb_k3 108 (by decide +kernel) rfl), (tb_k3 109 (by decide +kernel) rfl), ki_X6, (tb_k3 110 rfl rfl), by decide +kernel, ⟨_, _, rfl⟩⟩
theorem kX6_restore : tb_MV yX6_restore cX6_restore 2 (some .int) 6 1 := ⟨(tb_k3 112 (by decide +kernel) rfl), (tb_k3 113 (by decide +kernel) rfl), ki_X6, (tb_k3 114 rfl rfl), by decide +kernel, ⟨_, _, rfl⟩⟩
theorem kX6_kind : tb_MV yX6_kind cX6_kind 2 (some .int) 6 1 := ⟨(tb_k3 116 (by decide +kernel) rfl), (tb_k3 117 (by decide +kernel) rfl), ki_X6, (tb_k3 118 rfl rfl), by decide +kernel, ⟨_, _, rfl⟩⟩
theorem kX6_as : tb_MV yX6_as cX6_as 3 (some .int) 6 2 := ⟨(tb_k3 120 (by decide +kernel) rfl), (tb_k3 121 (by decide +kernel) rfl), ki_X6, (tb_k3 122 rfl rfl), by decide +kernel, ⟨_, _, rfl⟩⟩
theorem kX6_ask : tb_MV yX6_ask cX6_ask 3 (some .int) 6 2 := ⟨(tb_k3 129 (by decide +kernel) rfl), (tb_k3 130 (by decide +kernel) rfl), ki_X6, (tb_k3 131 rfl rfl), by decide +kernel, ⟨_, _, rfl⟩⟩
theorem kX6_trace : tb_MV yX6_trace cX6_trace 2 (some .int) 6 1 := ⟨(tb_k3 153 (by decide +kernel) rfl), (tb_k3 154 (by decide +kernel) rfl), ki_X6, (tb_k3 155 rfl rfl), by decide +kernel, ⟨_, _, rfl⟩⟩
theorem kX6_count : tb_MV yX6_count cX6_count 2 (some .int) 6 1 := ⟨(tb_k3 157 (by decide +kernel) rfl), (tb_k3 158 (by decide +kernel) rfl), ki_X6, (tb_k3 159 rfl rfl), by decide +kernel, ⟨_, _, rfl⟩⟩
theorem kX6_status : tb_MV yX6_status cX6_status 1 (some .int) 6 0 := ⟨(tb_k3 169 (by decide +kernel) rfl), (tb_k3 170 (by decide +kernel) rfl), ki_X6, (tb_k3 171 rfl rfl), by decide +kernel, ⟨_, _, rfl⟩⟩
theorem kX6_found : tb_MV yX6_found cX6_found 2 (some .int) 6 1 := ⟨(tb_k1 239 (by decide +kernel) rfl), (tb_kp (q := (yX6_found, 10)) (List.mem_of_getElem? (i := 0) (by decide +kernel))), ki_X6, (tb_k2 0 rfl rfl), by decide +kernel, ⟨_, _, rfl⟩⟩
theorem kX6_fine : tb_MV yX6_fine cX6_fine 2 (some .int) 6 1 := ⟨(tb_k2 11 (by decide +kernel) rfl), (tb_kp (q := (yX6_fine, 10)) (List.mem_of_getElem? (i := 1) (by decide +kernel))), ki_X6, (tb_k2 12 rfl rfl), by decide +kernel, ⟨_, _, rfl⟩⟩
theorem kX6_findingOf : tb_MV yX6_findingOf cX6_findingOf 4 (some .int) 6 3 := ⟨(tb_k2 19 (by decide +kernel) rfl), (tb_kp (q := (yX6_findingOf, 10)) (List.mem_of_getElem? (i := 2) (by decide +kernel))), ki_X6, (tb_k2 20 rfl rfl), by decide +kernel, ⟨_, _, rfl⟩⟩
theorem kX6_countRows : tb_MV yX6_countRows cX6_countRows 3 (some .int) 6 0 := ⟨(tb_k3 162 (by decide +kernel) rfl), (tb_kp (q := (yX6_countRows, 10)) (List.mem_of_getElem? (i := 19) (by decide +kernel))), ki_X6, (tb_k3 163 rfl rfl), by decide +kernel, ⟨_, _, rfl⟩⟩
theorem kX6_isRow : tb_MS yX6_isRow cX6_isRow 1 (some .boolean) 1 := ⟨(tb_k1 231 (by decide +kernel) rfl), ki_X6, (tb_k1 232 rfl rfl), by decide +kernel⟩
theorem kX6_within : tb_MS yX6_within cX6_within 3 (some .boolean) 3 := ⟨(tb_k1 234 (by decide +kernel) rfl), ki_X6, (tb_k1 235 rfl rfl), by decide +kernel⟩
theorem kX6_isA : tb_MS yX6_isA cX6_isA 4 (some .boolean) 2 := ⟨(tb_k3 124 (by decide +kernel) rfl), ki_X6, (tb_k3 125 rfl rfl), by decide +kernel⟩
theorem kX6_power : tb_MS yX6_power cX6_power 5 (some .long) 2 := ⟨(tb_k3 88 (by decide +kernel) rfl), ki_X6, (tb_k3 89 rfl rfl), by decide +kernel⟩
theorem kX6_commonDivisor : tb_MS yX6_commonDivisor cX6_commonDivisor 11 (some .long) 2 := ⟨(tb_k3 92 (by decide +kernel) rfl), ki_X6, (tb_k3 93 rfl rfl), by decide +kernel⟩
theorem kX7_init_code : Cond.code yX7_init cX7_init 2 none ∈ tb_ALL := tb_k3 176 rfl rfl
theorem kX7_init_inst : Cond.instanceMethod yX7_init ∈ tb_ALL := tb_k3 175 (by decide +kernel) rfl
theorem kX7_in : tb_MS yX7_in cX7_in 3 (some .boolean) 3 := ⟨(tb_k4 5 (by decide +kernel) rfl), ki_X7, (tb_k4 6 rfl rfl), by decide +kernel⟩
theorem kX7_isRow : tb_MS yX7_isRow cX7_isRow 1 (some .boolean) 1 := ⟨(tb_k4 2 (by decide +kernel) rfl), ki_X7, (tb_k4 3 rfl rfl), by decide +kernel⟩
theorem kX7_ends : tb_MV yX7_ends cX7_ends 2 (some .int) 7 1 := ⟨(tb_k4 11 (by decide +kernel) rfl), (tb_kp (q := (yX7_ends, 19)) (List.mem_of_getElem? (i := 20) (by decide +kernel))), ki_X7, (tb_k4 12 rfl rfl), by decide +kernel, ⟨_, _, rfl⟩⟩
theorem kX7_cut : tb_MS yX7_cut cX7_cut 2 (some .int) 2 := ⟨(tb_k4 26 (by decide +kernel) rfl), ki_X7, (tb_k4 27 rfl rfl), by decide +kernel⟩
theorem kX7_row : tb_MV yX7_row cX7_row 5 (some .int) 7 3 := ⟨(tb_k3 238 (by decide +kernel) rfl), (tb_k3 239 (by decide +kernel) rfl), ki_X7, (tb_k4 0 rfl rfl), by decide +kernel, ⟨_, _, rfl⟩⟩
theorem kX7_lies : tb_MV yX7_lies cX7_lies 4 (some .boolean) 7 3 := ⟨(tb_k4 22 (by decide +kernel) rfl), (tb_kp (q := (yX7_lies, 19)) (List.mem_of_getElem? (i := 21) (by decide +kernel))), ki_X7, (tb_k4 23 rfl rfl), by decide +kernel, ⟨_, _, rfl⟩⟩
theorem kX7_set : tb_MV yX7_set cX7_set 5 (some .int) 7 3 := ⟨(tb_k4 17 (by decide +kernel) rfl), (tb_k4 18 (by decide +kernel) rfl), ki_X7, (tb_k4 19 rfl rfl), by decide +kernel, ⟨_, _, rfl⟩⟩
theorem kX7_copy : tb_MV yX7_copy cX7_copy 7 (some .int) 7 5 := ⟨(tb_k4 29 (by decide +kernel) rfl), (tb_k4 30 (by decide +kernel) rfl), ki_X7, (tb_k4 31 rfl rfl), by decide +kernel, ⟨_, _, rfl⟩⟩
theorem kX7_drop : tb_MV yX7_drop cX7_drop 3 (some .int) 7 1 := ⟨(tb_k4 33 (by decide +kernel) rfl), (tb_k4 34 (by decide +kernel) rfl), ki_X7, (tb_k4 35 rfl rfl), by decide +kernel, ⟨_, _, rfl⟩⟩
theorem kX7_feed : tb_MV yX7_feed cX7_feed 2 (some .int) 7 1 := ⟨(tb_k4 37 (by decide +kernel) rfl), (tb_k4 38 (by decide +kernel) rfl), ki_X7, (tb_k4 39 rfl rfl), by decide +kernel, ⟨_, _, rfl⟩⟩
theorem kX7_letterAt : tb_MV yX7_letterAt cX7_letterAt 2 (some .int) 7 1 := ⟨(tb_k4 51 (by decide +kernel) rfl), (tb_kp (q := (yX7_letterAt, 19)) (List.mem_of_getElem? (i := 23) (by decide +kernel))), ki_X7, (tb_k4 52 rfl rfl), by decide +kernel, ⟨_, _, rfl⟩⟩
theorem kX7_isDigit : tb_MS yX7_isDigit cX7_isDigit 1 (some .boolean) 1 := ⟨(tb_k4 65 (by decide +kernel) rfl), ki_X7, (tb_k4 66 rfl rfl), by decide +kernel⟩
theorem kX7_fails : tb_MV yX7_fails cX7_fails 2 (some .boolean) 7 1 := ⟨(tb_k4 58 (by decide +kernel) rfl), (tb_kp (q := (yX7_fails, 19)) (List.mem_of_getElem? (i := 24) (by decide +kernel))), ki_X7, (tb_k4 59 rfl rfl), by decide +kernel, ⟨_, _, rfl⟩⟩
theorem kX7_reads : tb_MV yX7_reads cX7_reads 4 (some .boolean) 7 1 := ⟨(tb_k4 62 (by decide +kernel) rfl), (tb_kp (q := (yX7_reads, 19)) (List.mem_of_getElem? (i := 25) (by decide +kernel))), ki_X7, (tb_k4 63 rfl rfl), by decide +kernel, ⟨_, _, rfl⟩⟩
theorem kX7_kindBy : tb_MS yX7_kindBy cX7_kindBy 1 (some .int) 1 := ⟨(tb_k4 54 (by decide +kernel) rfl), ki_X7, (tb_k4 55 rfl rfl), by decide +kernel⟩
theorem kX7_readsAll : tb_MV yX7_readsAll cX7_readsAll 3 (some .boolean) 7 0 := ⟨(tb_k4 47 (by decide +kernel) rfl), (tb_kp (q := (yX7_readsAll, 19)) (List.mem_of_getElem? (i := 22) (by decide +kernel))), ki_X7, (tb_k4 48 rfl rfl), by decide +kernel, ⟨_, _, rfl⟩⟩
theorem kX7_basket : tb_MV yX7_basket cX7_basket 3 (some .int) 7 0 := ⟨(tb_k4 42 (by decide +kernel) rfl), (tb_k4 43 (by decide +kernel) rfl), ki_X7, (tb_k4 44 rfl rfl), by decide +kernel, ⟨_, _, rfl⟩⟩
theorem kX7_fault : tb_MV yX7_fault cX7_fault 1 (some .int) 7 0 := ⟨(tb_k4 69 (by decide +kernel) rfl), (tb_k4 70 (by decide +kernel) rfl), ki_X7, (tb_k4 71 rfl rfl), by decide +kernel, ⟨_, _, rfl⟩⟩
theorem kX7_isBasket : tb_MV yX7_isBasket cX7_isBasket 1 (some .boolean) 7 0 := ⟨(tb_k4 78 (by decide +kernel) rfl), (tb_kp (q := (yX7_isBasket, 19)) (List.mem_of_getElem? (i := 26) (by decide +kernel))), ki_X7, (tb_k4 79 rfl rfl), by decide +kernel, ⟨_, _, rfl⟩⟩
theorem kX7_isBar : tb_MV yX7_isBar cX7_isBar 2 (some .boolean) 7 1 := ⟨(tb_k4 112 (by decide +kernel) rfl), (tb_kp (q := (yX7_isBar, 19)) (List.mem_of_getElem? (i := 28) (by decide +kernel))), ki_X7, (tb_k4 113 rfl rfl), by decide +kernel, ⟨_, _, rfl⟩⟩
theorem kX7_keeps : tb_MV yX7_keeps cX7_keeps 2 none 7 0 := ⟨(tb_k4 83 (by decide +kernel) rfl), (tb_kp (q := (yX7_keeps, 19)) (List.mem_of_getElem? (i := 27) (by decide +kernel))), ki_X7, (tb_k4 84 rfl rfl), by decide +kernel, ⟨_, _, rfl⟩⟩
theorem kX7_top : tb_MS yX7_top cX7_top 2 (some .int) 2 := ⟨(tb_k4 92 (by decide +kernel) rfl), ki_X7, (tb_k4 93 rfl rfl), by decide +kernel⟩
theorem kX7_high : tb_MS yX7_high cX7_high 5 (some .int) 2 := ⟨(tb_k4 89 (by decide +kernel) rfl), ki_X7, (tb_k4 90 rfl rfl), by decide +kernel⟩
theorem kX7_meets : tb_MS yX7_meets cX7_meets 7 (some .boolean) 3 := ⟨(tb_k4 95 (by decide +kernel) rfl), ki_X7, (tb_k4 96 rfl rfl), by decide +kernel⟩
theorem kX7_prints : tb_MS yX7_prints cX7_prints 3 none 2 := ⟨(tb_k4 101 (by decide +kernel) rfl), ki_X7, (tb_k4 102 rfl rfl), by decide +kernel⟩
theorem kX7_tick : tb_MS yX7_tick cX7_tick 5 (some .int) 1 := ⟨(tb_k4 86 (by decide +kernel) rfl), ki_X7, (tb_k4 87 rfl rfl), by decide +kernel⟩
theorem kX7_has : tb_MS yX7_has cX7_has 2 (some .boolean) 2 := ⟨(tb_k4 98 (by decide +kernel) rfl), ki_X7, (tb_k4 99 rfl rfl), by decide +kernel⟩
theorem kX7_hanging : tb_MS yX7_hanging cX7_hanging 3 (some .int) 1 := ⟨(tb_k4 104 (by decide +kernel) rfl), ki_X7, (tb_k4 105 rfl rfl), by decide +kernel⟩
theorem kX7_moving : tb_MS yX7_moving cX7_moving 3 (some .int) 1 := ⟨(tb_k4 118 (by decide +kernel) rfl), ki_X7, (tb_k4 119 rfl rfl), by decide +kernel⟩
theorem kX7_rests : tb_MS yX7_rests cX7_rests 2 (some .boolean) 2 := ⟨(tb_k4 115 (by decide +kernel) rfl), ki_X7, (tb_k4 116 rfl rfl), by decide +kernel⟩
theorem kX7_frees : tb_MS yX7_frees cX7_frees 2 none 1 := ⟨(tb_k4 128 (by decide +kernel) rfl), ki_X7, (tb_k4 129 rfl rfl), by decide +kernel⟩
theorem kX7_exchanges : tb_MS yX7_exchanges cX7_exchanges 4 none 3 := ⟨(tb_k4 139 (by decide +kernel) rfl), ki_X7, (tb_k4 140 rfl rfl), by decide +kernel⟩
theorem kX7_ticks : tb_MV yX7_ticks cX7_ticks 3 (some .int) 7 1 := ⟨(tb_k4 73 (by decide +kernel) rfl), (tb_k4 74 (by decide +kernel) rfl), ki_X7, (tb_k4 75 rfl rfl), by decide +kernel, ⟨_, _, rfl⟩⟩
theorem kX7_key : tb_MV yX7_key cX7_key 2 (some .int) 7 1 := ⟨(tb_k4 107 (by decide +kernel) rfl), (tb_k4 108 (by decide +kernel) rfl), ki_X7, (tb_k4 109 rfl rfl), by decide +kernel, ⟨_, _, rfl⟩⟩
theorem kX7_ones : tb_MS yX7_ones cX7_ones 3 (some .int) 1 := ⟨(tb_k4 125 (by decide +kernel) rfl), ki_X7, (tb_k4 126 rfl rfl), by decide +kernel⟩
theorem kX7_free : tb_MV yX7_free cX7_free 2 (some .int) 7 0 := ⟨(tb_k4 121 (by decide +kernel) rfl), (tb_k4 122 (by decide +kernel) rfl), ki_X7, (tb_k4 123 rfl rfl), by decide +kernel, ⟨_, _, rfl⟩⟩
theorem kX7_back : tb_MV yX7_back cX7_back 3 (some .int) 7 0 := ⟨(tb_k4 131 (by decide +kernel) rfl), (tb_k4 132 (by decide +kernel) rfl), ki_X7, (tb_k4 133 rfl rfl), by decide +kernel, ⟨_, _, rfl⟩⟩
theorem kX7_swap : tb_MV yX7_swap cX7_swap 3 (some .int) 7 2 := ⟨(tb_k4 135 (by decide +kernel) rfl), (tb_k4 136 (by decide +kernel) rfl), ki_X7, (tb_k4 137 rfl rfl), by decide +kernel, ⟨_, _, rfl⟩⟩
theorem kX7_undo : tb_MV yX7_undo cX7_undo 2 (some .int) 7 0 := ⟨(tb_k4 142 (by decide +kernel) rfl), (tb_k4 143 (by decide +kernel) rfl), ki_X7, (tb_k4 144 rfl rfl), by decide +kernel, ⟨_, _, rfl⟩⟩
theorem kX7_bar : tb_MV yX7_bar cX7_bar 3 (some .int) 7 2 := ⟨(tb_k4 146 (by decide +kernel) rfl), (tb_k4 147 (by decide +kernel) rfl), ki_X7, (tb_k4 148 rfl rfl), by decide +kernel, ⟨_, _, rfl⟩⟩
theorem kX7_paper : tb_MV yX7_paper cX7_paper 2 (some .int) 7 1 := ⟨(tb_k4 151 (by decide +kernel) rfl), (tb_k4 152 (by decide +kernel) rfl), ki_X7, (tb_k4 153 rfl rfl), by decide +kernel, ⟨_, _, rfl⟩⟩
theorem kX7_copies : tb_MS yX7_copies cX7_copies 3 none 2 := ⟨(tb_k4 163 (by decide +kernel) rfl), ki_X7, (tb_k4 164 rfl rfl), by decide +kernel⟩
theorem kX7_goesOn : tb_MV yX7_goesOn cX7_goesOn 3 none 7 1 := ⟨(tb_k4 160 (by decide +kernel) rfl), (tb_kp (q := (yX7_goesOn, 19)) (List.mem_of_getElem? (i := 29) (by decide +kernel))), ki_X7, (tb_k4 161 rfl rfl), by decide +kernel, ⟨_, _, rfl⟩⟩
theorem kX7_height : tb_MV yX7_height cX7_height 3 (some .int) 7 2 := ⟨(tb_k4 155 (by decide +kernel) rfl), (tb_k4 156 (by decide +kernel) rfl), ki_X7, (tb_k4 157 rfl rfl), by decide +kernel, ⟨_, _, rfl⟩⟩
theorem kX7_later : tb_MV yX7_later cX7_later 3 (some .int) 7 2 := ⟨(tb_k4 166 (by decide +kernel) rfl), (tb_k4 167 (by decide +kernel) rfl), ki_X7, (tb_k4 168 rfl rfl), by decide +kernel, ⟨_, _, rfl⟩⟩
theorem kX7_jam : tb_MV yX7_jam cX7_jam 3 (some .int) 7 1 := ⟨(tb_k4 170 (by decide +kernel) rfl), (tb_k4 171 (by decide +kernel) rfl), ki_X7, (tb_k4 172 rfl rfl), by decide +kernel, ⟨_, _, rfl⟩⟩
theorem kX7_clear : tb_MV yX7_clear cX7_clear 5 (some .boolean) 7 2 := ⟨(tb_k4 179 (by decide +kernel) rfl), (tb_kp (q := (yX7_clear, 19)) (List.mem_of_getElem? (i := 30) (by decide +kernel))), ki_X7, (tb_k4 180 rfl rfl), by decide +kernel, ⟨_, _, rfl⟩⟩
theorem kX7_waits : tb_MV yX7_waits cX7_waits 4 (some .int) 7 1 := ⟨(tb_k4 174 (by decide +kernel) rfl), (tb_k4 175 (by decide +kernel) rfl), ki_X7, (tb_k4 176 rfl rfl), by decide +kernel, ⟨_, _, rfl⟩⟩
theorem kX7_paceBy : tb_MV yX7_paceBy cX7_paceBy 10 (some .int) 7 4 := ⟨(tb_k4 187 (by decide +kernel) rfl), (tb_kp (q := (yX7_paceBy, 19)) (List.mem_of_getElem? (i := 31) (by decide +kernel))), ki_X7, (tb_k4 188 rfl rfl), by decide +kernel, ⟨_, _, rfl⟩⟩
theorem kX7_pace : tb_MV yX7_pace cX7_pace 4 (some .int) 7 3 := ⟨(tb_k4 182 (by decide +kernel) rfl), (tb_k4 183 (by decide +kernel) rfl), ki_X7, (tb_k4 184 rfl rfl), by decide +kernel, ⟨_, _, rfl⟩⟩
theorem kX7_better : tb_MV yX7_better cX7_better 10 (some .int) 7 4 := ⟨(tb_k4 190 (by decide +kernel) rfl), (tb_k4 191 (by decide +kernel) rfl), ki_X7, (tb_k4 192 rfl rfl), by decide +kernel, ⟨_, _, rfl⟩⟩
theorem kX7_isSo : tb_MV yX7_isSo cX7_isSo 6 (some .boolean) 7 3 := ⟨(tb_k4 203 (by decide +kernel) rfl), (tb_kp (q := (yX7_isSo, 19)) (List.mem_of_getElem? (i := 33) (by decide +kernel))), ki_X7, (tb_k4 204 rfl rfl), by decide +kernel, ⟨_, _, rfl⟩⟩
theorem kX7_becomes : tb_MV yX7_becomes cX7_becomes 5 none 7 3 := ⟨(tb_k4 199 (by decide +kernel) rfl), (tb_kp (q := (yX7_becomes, 19)) (List.mem_of_getElem? (i := 32) (by decide +kernel))), ki_X7, (tb_k4 200 rfl rfl), by decide +kernel, ⟨_, _, rfl⟩⟩
theorem kX7_fits : tb_MV yX7_fits cX7_fits 9 (some .int) 7 5 := ⟨(tb_k4 194 (by decide +kernel) rfl), (tb_k4 195 (by decide +kernel) rfl), ki_X7, (tb_k4 196 rfl rfl), by decide +kernel, ⟨_, _, rfl⟩⟩
theorem kX7_chance : tb_MV yX7_chance cX7_chance 10 (some .int) 7 3 := ⟨(tb_k4 206 (by decide +kernel) rfl), (tb_k4 207 (by decide +kernel) rfl), ki_X7, (tb_k4 208 rfl rfl), by decide +kernel, ⟨_, _, rfl⟩⟩
theorem kX7_drawn : tb_MV yX7_drawn cX7_drawn 9 (some .int) 7 3 := ⟨(tb_k4 210 (by decide +kernel) rfl), (tb_k4 211 (by decide +kernel) rfl), ki_X7, (tb_k4 212 rfl rfl), by decide +kernel, ⟨_, _, rfl⟩⟩
theorem kX7_image : tb_MV yX7_image cX7_image 3 (some .int) 7 1 := ⟨(tb_k4 219 (by decide +kernel) rfl), (tb_k4 220 (by decide +kernel) rfl), ki_X7, (tb_k4 221 rfl rfl), by decide +kernel, ⟨_, _, rfl⟩⟩
theorem kX7_restore : tb_MV yX7_restore cX7_restore 3 (some .int) 7 1 := ⟨(tb_k4 223 (by decide +kernel) rfl), (tb_k4 224 (by decide +kernel) rfl), ki_X7, (tb_k4 225 rfl rfl), by decide +kernel, ⟨_, _, rfl⟩⟩
theorem kX7_kind : tb_MV yX7_kind cX7_kind 2 (some .int) 7 1 := ⟨(tb_k4 227 (by decide +kernel) rfl), (tb_k4 228 (by decide +kernel) rfl), ki_X7, (tb_k4 229 rfl rfl), by decide +kernel, ⟨_, _, rfl⟩⟩
theorem kX7_as : tb_MV yX7_as cX7_as 5 (some .int) 7 2 := ⟨(tb_k4 231 (by decide +kernel) rfl), (tb_k4 232 (by decide +kernel) rfl), ki_X7, (tb_k4 233 rfl rfl), by decide +kernel, ⟨_, _, rfl⟩⟩
theorem kX7_begins : tb_MV yX7_begins cX7_begins 2 none 7 1 := ⟨(tb_k5 5 (by decide +kernel) rfl), (tb_kp (q := (yX7_begins, 19)) (List.mem_of_getElem? (i := 35) (by decide +kernel))), ki_X7, (tb_k5 6 rfl rfl), by decide +kernel, ⟨_, _, rfl⟩⟩
theorem kX7_size : tb_MV yX7_size cX7_size 5 (some .int) 7 1 := ⟨(tb_k5 1 (by decide +kernel) rfl), (tb_kp (q := (yX7_size, 19)) (List.mem_of_getElem? (i := 34) (by decide +kernel))), ki_X7, (tb_k5 2 rfl rfl), by decide +kernel, ⟨_, _, rfl⟩⟩
theorem kX7_plain : tb_MV yX7_plain cX7_plain 4 (some .int) 7 1 := ⟨(tb_k5 9 (by decide +kernel) rfl), (tb_kp (q := (yX7_plain, 19)) (List.mem_of_getElem? (i := 36) (by decide +kernel))), ki_X7, (tb_k5 10 rfl rfl), by decide +kernel, ⟨_, _, rfl⟩⟩
theorem kX7_ask : tb_MV yX7_ask cX7_ask 3 (some .int) 7 2 := ⟨(tb_k4 236 (by decide +kernel) rfl), (tb_k4 237 (by decide +kernel) rfl), ki_X7, (tb_k4 238 rfl rfl), by decide +kernel, ⟨_, _, rfl⟩⟩
theorem kX7_trace : tb_MV yX7_trace cX7_trace 2 (some .int) 7 1 := ⟨(tb_k5 12 (by decide +kernel) rfl), (tb_k5 13 (by decide +kernel) rfl), ki_X7, (tb_k5 14 rfl rfl), by decide +kernel, ⟨_, _, rfl⟩⟩
theorem kX7_count : tb_MV yX7_count cX7_count 4 (some .int) 7 1 := ⟨(tb_k5 16 (by decide +kernel) rfl), (tb_k5 17 (by decide +kernel) rfl), ki_X7, (tb_k5 18 rfl rfl), by decide +kernel, ⟨_, _, rfl⟩⟩
theorem kX7_status : tb_MV yX7_status cX7_status 1 (some .int) 7 0 := ⟨(tb_k5 20 (by decide +kernel) rfl), (tb_k5 21 (by decide +kernel) rfl), ki_X7, (tb_k5 22 rfl rfl), by decide +kernel, ⟨_, _, rfl⟩⟩
theorem kJ6_bitCount_0f7a4 : tb_MS yJ6_bitCount_0f7a4 cJ6_bitCount_0f7a4 1 (some .int) 1 := ⟨(tb_k2 145 (by decide +kernel) rfl), ki_J6, (tb_k2 146 rfl rfl), by decide +kernel⟩
theorem kJ9_max_7cf53 : tb_MS yJ9_max_7cf53 cJ9_max_7cf53 2 (some .int) 2 := ⟨(tb_k2 138 (by decide +kernel) rfl), ki_J9, (tb_k2 139 rfl rfl), by decide +kernel⟩
theorem kJ9_min_7cf53 : tb_MS yJ9_min_7cf53 cJ9_min_7cf53 2 (some .int) 2 := ⟨(tb_k2 119 (by decide +kernel) rfl), ki_J9, (tb_k2 120 rfl rfl), by decide +kernel⟩
theorem kJ7_fill_53178 : tb_MS yJ7_fill_53178 cJ7_fill_53178 4 none 2 := ⟨(tb_k2 7 (by decide +kernel) rfl), ki_J7, (tb_k2 8 rfl rfl), by decide +kernel⟩
theorem inlX0 : ∀ w ∈ wsX00, w ∈ tb_ALL := fun w h => List.mem_filter.mpr ⟨((goodIn_r wsX00 [161, 163, 165] (by decide +kernel) (by decide +kernel)) w h).1, List.all_eq_true.mp (show wsX00.all goodWord = true from by decide +kernel) w h⟩
theorem inlX1 : ∀ w ∈ wsX10, w ∈ tb_ALL := fun w h => List.mem_filter.mpr ⟨((goodIn_r wsX10 [204, 206] (by decide +kernel) (by decide +kernel)) w h).1, List.all_eq_true.mp (show wsX10.all goodWord = true from by decide +kernel) w h⟩
theorem inlX2 : ∀ w ∈ wsX20, w ∈ tb_ALL := fun w h => List.mem_filter.mpr ⟨((goodIn_r wsX20 [121, 123, 125, 127, 129, 131, 133, 135, 137, 139, 141, 143, 145] (by decide +kernel) (by decide +kernel)) w h).1, List.all_eq_true.mp (show wsX20.all goodWord = true from by decide +kernel) w h⟩
theorem inlX3 : ∀ w ∈ wsX30, w ∈ tb_ALL := fun w h => List.mem_filter.mpr ⟨((goodIn_r wsX30 [183, 185, 187, 189, 191] (by decide +kernel) (by decide +kernel)) w h).1, List.all_eq_true.mp (show wsX30.all goodWord = true from by decide +kernel) w h⟩
theorem inlX4 : ∀ w ∈ wsX40, w ∈ tb_ALL := fun w h => List.mem_filter.mpr ⟨((goodIn_r wsX40 [223, 225, 227, 229] (by decide +kernel) (by decide +kernel)) w h).1, List.all_eq_true.mp (show wsX40.all goodWord = true from by decide +kernel) w h⟩
theorem inlX5 : ∀ w ∈ wsX50, w ∈ tb_ALL := fun w h => List.mem_filter.mpr ⟨((goodIn_r wsX50 [71, 73, 75] (by decide +kernel) (by decide +kernel)) w h).1, List.all_eq_true.mp (show wsX50.all goodWord = true from by decide +kernel) w h⟩
theorem inlX6 : ∀ w ∈ wsX60, w ∈ tb_ALL := fun w h => List.mem_filter.mpr ⟨((goodIn_r wsX60 [242, 244, 246, 248, 250, 252, 254, 256, 258, 260] (by decide +kernel) (by decide +kernel)) w h).1, List.all_eq_true.mp (show wsX60.all goodWord = true from by decide +kernel) w h⟩
theorem inlX7 : ∀ w ∈ wsX70, w ∈ tb_ALL := fun w h => List.mem_filter.mpr ⟨((goodIn_r wsX70 [714, 716, 718, 720, 722, 724, 726, 728, 730, 732, 734, 736, 738, 740, 742, 744, 746, 748, 750] (by decide +kernel) (by decide +kernel)) w h).1, List.all_eq_true.mp (show wsX70.all goodWord = true from by decide +kernel) w h⟩
end
section
/-! the heap of the system, its shape fixed: place p of tb_layL is a cell; what changes is a memory of ints, M place index -/
abbrev tb_LE : Type := (Nat × Nat) ⊕ ((Nat × List Nat) ⊕ (Nat × List (Option Nat)))
abbrev tb_Mem : Type := Nat → Nat → Int32
/-- an int array -/
abbrev tb_ar (n : Nat) : tb_LE := .inl (0, n)
abbrev tb_ob (ci : Nat) (fl : List (Option Nat)) : tb_LE := .inr (.inr (ci, fl))
abbrev tb_bo (p : Nat) : tb_LE := tb_ob 2 [some (p + 1), some (p + 2), some (p + 3), some (p + 4), some (p + 5), some (p + 6), some (p + 7), some (p + 8), none, none, none, none, none]
def tb_bk (p : Nat) : List tb_LE := [tb_bo p, tb_ar 8, tb_ar 8, tb_ar 8, tb_ar 8, tb_ar 8, tb_ar 8, tb_ar 8, tb_ar 20]
abbrev tb_beforeL : List Nat := (List.range 24).map (fun i => 24 + 9 * i)
abbrev tb_rowsL : List Nat := (List.range 8).map (fun i => 263 + 2 * i)
abbrev tb_imagesL : List Nat := (List.range 2).map (fun i => 279 + 9 * i)
abbrev tb_o0 : tb_LE := tb_ob 6 [some 1, some 2, some 4, some 13, some 22, some 240, some 260, some 261, none, none]
abbrev tb_oM : tb_LE := tb_ob 7 [some 298, some 299, some 300, some 301, none, some 302, none, none, some 303, some 304, some 305, some 306, some 307, none, some 308, some 309, none, none, none]
abbrev tb_oF : tb_LE := tb_ob 3 [some 241, some 250, some 259, none, none]
abbrev tb_ro (p : Nat) : tb_LE := tb_ob 4 [some (p + 1), none, none, none]
def tb_layL : List tb_LE :=
  [tb_o0, .inr (.inl (2, tb_rowsL)), tb_ob 5 [some 3, none, none], tb_ar 60] ++ (tb_bk 4 ++ (tb_bk 13 ++
  ([tb_ob 0 [some 23, none, none], .inr (.inl (3, tb_beforeL))] ++ ((List.range 24).flatMap (fun i => tb_bk (24 + 9 * i)) ++
  ([tb_oF] ++ (tb_bk 241 ++ (tb_bk 250 ++ ([tb_ar 12, .inr (.inl (3, tb_imagesL)), tb_ob 1 [some 262, none], tb_ar 16] ++
  ((List.range 8).flatMap (fun i => [tb_ro (263 + 2 * i), tb_ar 40]) ++ (tb_bk 279 ++ (tb_bk 288 ++
  [tb_oM, tb_ar 8, tb_ar 8, tb_ar 320, tb_ar 40, tb_ar 60, tb_ar 63, tb_ar 63, tb_ar 126, .inl (1, 2), tb_ar 1104, tb_ar 63, tb_ar 16])))))))))))
theorem tb_layL_len : tb_layL.length = 310 := by decide +kernel
def tb_lay (p : Nat) : tb_LE := tb_layL.getD p (.inl (9, 0))
theorem tb_lay_lt {p : Nat} {e : tb_LE} (h : tb_lay p = e) (he : e ≠ .inl (9, 0)) : p < 310 := by
  rcases Nat.lt_or_ge p 310 with q | q
  · exact q
  · exfalso
    apply he
    have hn : tb_layL[p]? = none := List.getElem?_eq_none (by rw [tb_layL_len]; exact q)
    rw [← h, tb_lay, List.getD_eq_getElem?_getD, hn]
    rfl
/-- a basket stands at place p -/
abbrev tb_B (p : Nat) : Prop := tb_lay p = tb_bo p ∧ tb_lay (p + 1) = tb_ar 8 ∧ tb_lay (p + 2) = tb_ar 8 ∧ tb_lay (p + 3) = tb_ar 8 ∧ tb_lay (p + 4) = tb_ar 8 ∧ tb_lay (p + 5) = tb_ar 8 ∧ tb_lay (p + 6) = tb_ar 8 ∧ tb_lay (p + 7) = tb_ar 8 ∧ tb_lay (p + 8) = tb_ar 20
abbrev tb_R (p : Nat) : Prop := tb_lay p = tb_ro p ∧ tb_lay (p + 1) = tb_ar 40
/-- the machine's own numbers: classes, array classes, addresses by place, which addresses are ours, the static tables' addresses -/
abbrev tb_GT : Type := va_G × (Nat → ClassId) × (Nat → Nat) × (Nat → Prop) × (Nat → Nat)
abbrev tb_ad (g : tb_GT) : Nat → Nat := g.2.2.1
abbrev tb_A (g : tb_GT) : Nat → Prop := g.2.2.2.1
def tb_fs (ad : Nat → Nat) (m : Nat → Int32) : Nat → List (Option Nat) → List Value
  | _, [] => []
  | k, none :: t => .int (m k) :: tb_fs ad m (k + 1) t
  | k, some q :: t => .ref (ad q) :: tb_fs ad m (k + 1) t
def tb_cell (cA : Nat → ClassId) (ad : Nat → Nat) (e : tb_LE) (m : Nat → Int32) : va_E := match e with
  | .inl (k, n) => .inl (cA k, n, .inl m)
  | .inr (.inl (k, l)) => .inl (cA k, l.length, .inr (.inr (.inr (.inr (fun i => (l[i]?).map ad)))))
  | .inr (.inr (ci, fl)) => .inr (ci, tb_fs ad m 0 fl)
def tb_w (g : tb_GT) (M : tb_Mem) : va_W := (List.range 310).map (fun p => (tb_ad g p, tb_cell g.2.1 (tb_ad g) (tb_lay p) (M p)))
def tb_tys (g : tb_GT) : List (ClassId × FieldType) := [(g.2.1 0, .int), (g.2.1 1, .boolean), (g.2.1 2, .object RX4), (g.2.1 3, .object RX2)]
def tb_P (g : tb_GT) (M : tb_Mem) (H : Heap) : Prop := va_P g.1 vwCl (tb_w g M) H
def tb_row (M : tb_Mem) (p : Nat) (f : Nat → Int32) : tb_Mem := fun q => if q = p then f else M q
def tb_up (M : tb_Mem) (p k : Nat) (v : Int32) : tb_Mem := tb_row M p (upd (M p) k v)
theorem tb_fs_get (ad : Nat → Nat) (m : Nat → Int32) : ∀ (fl : List (Option Nat)) (k0 k : Nat), (tb_fs ad m k0 fl)[k]? = (fl[k]?).map (fun o => match o with | none => .int (m (k0 + k)) | some q => .ref (ad q))
  | [], k0, k => by simp [tb_fs]
  | none :: t, k0, 0 => by simp [tb_fs]
  | some q :: t, k0, 0 => by simp [tb_fs]
  | none :: t, k0, k + 1 => by
    have h := tb_fs_get ad m t (k0 + 1) k
    simp only [tb_fs, List.getElem?_cons_succ, h, show k0 + 1 + k = k0 + (k + 1) by omega]
  | some q :: t, k0, k + 1 => by
    have h := tb_fs_get ad m t (k0 + 1) k
    simp only [tb_fs, List.getElem?_cons_succ, h, show k0 + 1 + k = k0 + (k + 1) by omega]
theorem tb_fs_set (ad : Nat → Nat) (m : Nat → Int32) (fl : List (Option Nat)) (k : Nat) (v : Int32) (h : fl[k]? = some none) : (tb_fs ad m 0 fl).set k (.int v) = tb_fs ad (upd m k v) 0 fl := by
  apply List.ext_getElem?
  intro j
  have hlt : k < (tb_fs ad m 0 fl).length := by
    have h1 := tb_fs_get ad m fl 0 k
    rw [h] at h1
    exact (List.getElem?_eq_some_iff.mp h1).1
  rw [tb_fs_get]
  by_cases hj : j = k
  · subst hj
    rw [List.getElem?_set_self hlt, h]
    simp [upd]
  · rw [List.getElem?_set_ne (Ne.symm hj), tb_fs_get]
    cases fl[j]? with
    | none => rfl
    | some o => cases o with
      | none => simp [upd, hj]
      | some q => rfl
theorem tb_w_get (g : tb_GT) (M : tb_Mem) {p : Nat} (h : p < 310) : (tb_w g M)[p]? = some (tb_ad g p, tb_cell g.2.1 (tb_ad g) (tb_lay p) (M p)) := by
  simp [tb_w, h]
theorem tb_w_set (g : tb_GT) (M : tb_Mem) (p : Nat) (f : Nat → Int32) {e : va_E} (he : e = tb_cell g.2.1 (tb_ad g) (tb_lay p) f) (h : p < 310) : (tb_w g M).set p (tb_ad g p, e) = tb_w g (tb_row M p f) := by
  apply List.ext_getElem?
  intro j
  have hlt : p < (tb_w g M).length := by simp [tb_w, h]
  by_cases hj : j = p
  · subst hj
    rw [List.getElem?_set_self hlt, tb_w_get g _ h, he]
    simp [tb_row]
  · rw [List.getElem?_set_ne (Ne.symm hj)]
    by_cases hj2 : j < 310
    · rw [tb_w_get g _ hj2, tb_w_get g _ hj2]
      simp [tb_row, hj]
    · simp [tb_w, hj2]
/-- the static tables: 0 PARENT, 1 SIZE_BODY, 2 MARK_BODY -/
def tb_tab (k j : Nat) : Int32 := (([[-1, 0, 1, 1, 0, 4], [10, 11, 12, 11, 13, 14], [20, 21, 24, 22, 23, 23]] : List (List Int32)).getD k []).getD j 0
def tb_St (g : tb_GT) (U : State) : Prop :=
  (va_Z RX6 "PARENT" "[I" (.ref (g.2.2.2.2 0)) (tb_A g) U U.heap ∧ va_T .int (g.2.2.2.2 0) 6 (fun j => .int (tb_tab 0 j)) (tb_A g) U U.heap) ∧
  (va_Z RX1 "SIZE_BODY" "[I" (.ref (g.2.2.2.2 1)) (tb_A g) U U.heap ∧ va_T .int (g.2.2.2.2 1) 6 (fun j => .int (tb_tab 1 j)) (tb_A g) U U.heap) ∧
  (va_Z RX1 "MARK_BODY" "[I" (.ref (g.2.2.2.2 2)) (tb_A g) U U.heap ∧ va_T .int (g.2.2.2.2 2) 6 (fun j => .int (tb_tab 2 j)) (tb_A g) U U.heap)
/-- what the tables say of a state -/
def tb_G (g : tb_GT) (U : State) : Prop :=
  va_K g.1 vwCl (tb_tys g) U ∧ (∀ i j, i < 310 → j < 310 → tb_ad g i = tb_ad g j → i = j) ∧ (∀ i, i < 310 → tb_A g (tb_ad g i)) ∧
  va_Nw (.methodLinkNest RX5 48 yX6_within RX6) U ∧ va_Nw (.methodLinkNest RX3 121 yX6_power RX6) U ∧ tb_St g U
theorem tb_St.mv {g : tb_GT} {s U : State} {H : Heap} {locs : List Loc} (h : tb_St g s) (hS : va_S (tb_A g) s.heap H locs) (hU : U.heap = H) (hW : s.vm.Alike U.vm) : tb_St g U := by
  subst hU
  obtain ⟨⟨a1, a2⟩, ⟨b1, b2⟩, c1, c2⟩ := h
  exact ⟨⟨(a1.kept hS.2.1).moved hW, (a2.kept hS.2.1).moved hW⟩, ⟨(b1.kept hS.2.1).moved hW, (b2.kept hS.2.1).moved hW⟩, (c1.kept hS.2.1).moved hW, (c2.kept hS.2.1).moved hW⟩
theorem tb_G.mv {g : tb_GT} {s U : State} {H : Heap} {locs : List Loc} (h : tb_G g s) (hS : va_S (tb_A g) s.heap H locs) (hU : U.heap = H) (hW : s.WarmedH U.vm) : tb_G g U := by
  obtain ⟨h1, h2, h3, h4, h5, h6⟩ := h
  exact ⟨h1.moved hW.alike, h2, h3, h4.warmM hW, h5.warmM hW, h6.mv hS hU hW.alike⟩
theorem tb_G.calling {g : tb_GT} {U : State} (gf : JFrame) (mk : MethodId) (a : Array Value) (h : tb_G g U) : tb_G g (U.calling gf mk a) := by
  obtain ⟨h1, h2, h3, h4, h5, h6⟩ := h
  exact ⟨va_K.moved (u := U) (U := U.calling gf mk a) (Vm.Alike.refl U.vm) h1, h2, h3, va_Nw.same rfl (u := U) (U := U.calling gf mk a) rfl h4, va_Nw.same rfl (u := U) (U := U.calling gf mk a) rfl h5, tb_St.mv (s := U) (U := U.calling gf mk a) h6 va_S.rf rfl (Vm.Alike.refl U.vm)⟩
theorem tb_G.D {g : tb_GT} {U : State} (h : tb_G g U) (M : tb_Mem) : va_D (tb_A g) (tb_w g M) := by
  have key : ∀ (k : Nat) (q : Nat × va_E), (tb_w g M)[k]? = some q → k < 310 ∧ q.1 = tb_ad g k := by
    intro k q hk
    have hl : k < (tb_w g M).length := (List.getElem?_eq_some_iff.mp hk).1
    have hl2 : k < 310 := by simpa [tb_w] using hl
    rw [tb_w_get g M hl2] at hk
    cases hk
    exact ⟨hl2, rfl⟩
  refine ⟨fun i j x y hi hj hxy => ?_, fun k q hk => ?_⟩
  · obtain ⟨a1, a2⟩ := key i x hi
    obtain ⟨b1, b2⟩ := key j y hj
    exact h.2.1 i j a1 b1 (by rw [← a2, ← b2]; exact hxy)
  · obtain ⟨a1, a2⟩ := key k q hk
    rw [a2]
    exact h.2.2.1 k a1
/-- a method's contract: from memory M with the arguments as it comes to memory M' and the answer o -/
def tb_Q (g : tb_GT) (M' : tb_Mem) (o : Option Value) : Array Value → State → Outcome → State → Prop := fun _ st oc t => oc = .returned o ∧ tb_P g M' t.heap ∧ va_F (tb_A g) st t
def tb_Pre (g : tb_GT) (M : tb_Mem) (as : List Value) : Array Value → State → Prop := va_Pc as (fun U => tb_P g M U.heap ∧ tb_G g U)
def tb_C (g : tb_GT) (l : Launch) (y : MethodName) (cw : Cond) (rm : Room) (as : List Value) (M M' : tb_Mem) (o : Option Value) : Prop :=
  Met l y (cw :: tb_ALL) rm (tb_Pre g M as) (tb_Q g M' o) 0 0 (tb_A g)
theorem tb_blind (g : tb_GT) (M : tb_Mem) (as : List Value) : FrameBlind (tb_Pre g M as) := fun a U gf mk h => ⟨h.1, h.2.1, h.2.2.calling gf mk a⟩
/-- what stands fast in a method's walk -/
def tb_F (g : tb_GT) (cc : ByteArray) (nL : Nat) (own : String) (ret : Option FieldType) (cw : Cond) (p : Program) (s : State) (m : MethodId) (args : Array Value) (meth : Method) (c : Code) : Prop :=
  CallFix p m c cc nL s args (cw :: tb_ALL) own ∧ meth.sig.returnType = ret ∧ meth.locks = false ∧ tb_G g s
theorem tb_entry {g : tb_GT} {l : Launch} {y : MethodName} {cc : ByteArray} {nL : Nat} {ret : Option FieldType} {rm : Room} {as : List Value} {M M' : tb_Mem} {o : Option Value} (hy : plainName y.cls = true) (hn : (lg_sl as).length ≤ nL)
    (body : ∀ (p : Program) (e : Env) (s : State) (m : MethodId) (below : List Frame) (meth : Method) (c : Code), tb_F g cc nL y.cls ret (Cond.code y cc nL ret) p s m as.toArray meth c → tb_P g M s.heap → va_S (tb_A g) s.heap s.heap [] → ∀ ls : Array Slot, lv_has ls nL (lv_args 0 as) → W p l e rm s m as.toArray below meth c s.heap [] 0 0 (MQ below (tb_Q g M' o) as.toArray s 0 0 (tb_A g)) (F0 m 0 ls [])) :
    tb_C g l y (Cond.code y cc nL ret) rm as M M' o := by
  refine Met.ofW (cc := cc) (maxL := nL) (ret := ret) hy rfl ?_
  intro p e s m args below meth c s₁ B hml hv
  obtain ⟨rfl, hP, hG⟩ := hv
  have hts := atoms_spec (ws := Cond.code y cc nL ret :: tb_ALL) B.pre
  rw [lg_entry_eq]
  exact body p e s m below meth c ⟨⟨B.exec, B.bytes, hml, findClass_of_methodNamed B.named, hts⟩, B.returns, B.notSynchronized, hG⟩ hP va_S.rf _ (lv_entry as hn)
section TBW
variable {p : Program} {l : Launch} {e : Env} {R : Room} {s : State} {m : MethodId} {args : Array Value} {below : List Frame} {meth : Method} {c : Code} {H : Heap} {locs : List Loc} {cells slots : Nat} {Q : State → Prop}
variable {g : tb_GT} {cc : ByteArray} {nL : Nat} {own : String} {ret : Option FieldType} {cw : Cond} {pc : Nat} {ls : Array Slot} {rest : List Value} {M : tb_Mem}
theorem tb_hts (F : tb_F g cc nL own ret cw p s m args meth c) {w : Cond} (h : w ∈ tb_ALL) : w.before args s = true := F.1.2.2.2.2 w (List.mem_cons_of_mem _ h)
theorem tb_at (hP : tb_P g M H) {q : Nat} {x : tb_LE} (hl : tb_lay q = x) (hx : x ≠ .inl (9, 0)) : (tb_w g M)[q]? = some (tb_ad g q, tb_cell g.2.1 (tb_ad g) x (M q)) := by
  rw [tb_w_get g M (tb_lay_lt hl hx), hl]
theorem tb_iald (F : tb_F g cc nL own ret cw p s m args meth c) (hP : tb_P g M H) {q n : Nat} (hl : tb_lay q = tb_ar n) {i : Int32} {k : Nat} (hk : i.toNatClampNeg = k) (hin : vp_in i n) (hdg : decode cc pc = .ok (.iaload, 1))
    (kk : W p l e R s m args below meth c H locs cells slots Q (F0 m (pc + 1) ls (.int (M q k) :: rest))) : W p l e R s m args below meth c H locs cells slots Q (F0 m pc ls (.int i :: .ref (tb_ad g q) :: rest)) := by
  subst hk
  exact va_iald F.1.1 F.1.2.1 F.2.2.2.1 hP q 0 (tb_at hP hl (by simp)) rfl hin hdg kk
theorem tb_zald (F : tb_F g cc nL own ret cw p s m args meth c) (hP : tb_P g M H) {q n : Nat} (hl : tb_lay q = .inl (1, n)) {i : Int32} {k : Nat} (hk : i.toNatClampNeg = k) (hin : vp_in i n) (hdg : decode cc pc = .ok (.baload, 1))
    (kk : W p l e R s m args below meth c H locs cells slots Q (F0 m (pc + 1) ls (.int (M q k) :: rest))) : W p l e R s m args below meth c H locs cells slots Q (F0 m pc ls (.int i :: .ref (tb_ad g q) :: rest)) := by
  subst hk
  exact va_zald F.1.1 F.1.2.1 F.2.2.2.1 hP q 1 (tb_at hP hl (by simp)) rfl hin hdg kk
theorem tb_iast (F : tb_F g cc nL own ret cw p s m args meth c) (hP : tb_P g M H) (hS : va_S (tb_A g) s.heap H locs) {q n : Nat} (hl : tb_lay q = tb_ar n) {i x : Int32} {k : Nat} (hk : i.toNatClampNeg = k) (hin : vp_in i n) (hdg : decode cc pc = .ok (.iastore, 1))
    (kk : ∀ (H1 : Heap) (locs1 : List Loc), tb_P g (tb_up M q k x) H1 → va_S (tb_A g) s.heap H1 locs1 → W p l e R s m args below meth c H1 locs1 cells slots Q (F0 m (pc + 1) ls rest)) : W p l e R s m args below meth c H locs cells slots Q (F0 m pc ls (.int x :: .int i :: .ref (tb_ad g q) :: rest)) := by
  subst hk
  have hq := tb_lay_lt hl (by simp)
  refine va_iast F.1.1 F.1.2.1 F.2.2.2.1 hP (F.2.2.2.D M) hS q 0 (tb_at hP hl (by simp)) rfl hin hdg (fun H1 locs1 a1 a2 a3 => kk H1 locs1 ?_ a3)
  rw [tb_w_set g M q (upd (M q) i.toNatClampNeg x) (by rw [hl]; rfl) hq] at a1
  exact a1
theorem tb_zast (F : tb_F g cc nL own ret cw p s m args meth c) (hP : tb_P g M H) (hS : va_S (tb_A g) s.heap H locs) {q n : Nat} (hl : tb_lay q = .inl (1, n)) {i x : Int32} {k : Nat} (hk : i.toNatClampNeg = k) (hx : vp_nar .boolean x = x) (hin : vp_in i n) (hdg : decode cc pc = .ok (.bastore, 1))
    (kk : ∀ (H1 : Heap) (locs1 : List Loc), tb_P g (tb_up M q k x) H1 → va_S (tb_A g) s.heap H1 locs1 → W p l e R s m args below meth c H1 locs1 cells slots Q (F0 m (pc + 1) ls rest)) : W p l e R s m args below meth c H locs cells slots Q (F0 m pc ls (.int x :: .int i :: .ref (tb_ad g q) :: rest)) := by
  subst hk
  have hq := tb_lay_lt hl (by simp)
  refine va_zast F.1.1 F.1.2.1 F.2.2.2.1 hP (F.2.2.2.D M) hS q 1 (tb_at hP hl (by simp)) rfl hin hdg (fun H1 locs1 a1 a2 a3 => kk H1 locs1 ?_ a3)
  rw [hx, tb_w_set g M q (upd (M q) i.toNatClampNeg x) (by rw [hl]; rfl) hq] at a1
  exact a1
theorem tb_aald (F : tb_F g cc nL own ret cw p s m args meth c) (hP : tb_P g M H) {q k : Nat} {L : List Nat} {C : String} (hl : tb_lay q = .inr (.inl (k, L))) (ht : (tb_tys g)[k]? = some (g.2.1 k, .object C)) {i : Int32} (hin : vp_in i L.length) {r : Nat} (hr : L[i.toNatClampNeg]? = some r) (hdg : decode cc pc = .ok (.aaload, 1))
    (kk : W p l e R s m args below meth c H locs cells slots Q (F0 m (pc + 1) ls (.ref (tb_ad g r) :: rest))) : W p l e R s m args below meth c H locs cells slots Q (F0 m pc ls (.int i :: .ref (tb_ad g q) :: rest)) := by
  refine va_aldq F.1.1 F.1.2.1 F.2.2.2.1 hP q k (tb_at hP hl (by simp)) ht hin hdg ?_
  rw [hr]
  exact kk
theorem tb_alen (F : tb_F g cc nL own ret cw p s m args meth c) (hP : tb_P g M H) {q n : Nat} (hl : tb_lay q = tb_ar n) {v : Int32} (hv : Int32.ofNat n = v) (hdg : decode cc pc = .ok (.arraylength, 1))
    (kk : W p l e R s m args below meth c H locs cells slots Q (F0 m (pc + 1) ls (.int v :: rest))) : W p l e R s m args below meth c H locs cells slots Q (F0 m pc ls (.ref (tb_ad g q) :: rest)) :=
  va_alen F.1.1 F.1.2.1 F.2.2.2.1 hP q 0 (tb_at hP hl (by simp)) rfl hv hdg kk
theorem tb_geti (F : tb_F g cc nL own ret cw p s m args meth c) (hP : tb_P g M H) {q ci N : Nat} {C : String} {T : u_T} {fl : List (Option Nat)} (hl : tb_lay q = tb_ob ci fl) (hc : vwCl[ci]? = some (C, T, N)) (hin : ∀ w ∈ u_ws C T N, w ∈ tb_ALL) (k : Nat) (hk : k < N) (hf : fl[k]? = some none) {index : Nat} (hlink : Cond.fieldLink own index (T k).1 (T k).2.1 (T k).2.2.1 ∈ tb_ALL) (hdg : decode cc pc = .ok (.getfield index, 3))
    (kk : W p l e R s m args below meth c H locs cells slots Q (F0 m (pc + 3) ls (.int (M q k) :: rest))) : W p l e R s m args below meth c H locs cells slots Q (F0 m pc ls (.ref (tb_ad g q) :: rest)) := by
  refine va_get F.1.1 F.1.2.1 (fun w h => F.1.2.2.2.2 w h) (fun w h => List.mem_cons_of_mem _ (hin w h)) F.1.2.2.2.1 F.2.2.2.1 hP q (tb_at hP hl (by simp)) hc k hk (tb_hts F hlink) (fun _ h9 => h9) (v := .int (M q k)) ?_ hdg kk
  rw [tb_fs_get, hf]
  simp
theorem tb_getr (F : tb_F g cc nL own ret cw p s m args meth c) (hP : tb_P g M H) {q ci N : Nat} {C : String} {T : u_T} {fl : List (Option Nat)} (hl : tb_lay q = tb_ob ci fl) (hc : vwCl[ci]? = some (C, T, N)) (hin : ∀ w ∈ u_ws C T N, w ∈ tb_ALL) (k : Nat) (hk : k < N) {r : Nat} (hf : fl[k]? = some (some r)) {index : Nat} (hlink : Cond.fieldLink own index (T k).1 (T k).2.1 (T k).2.2.1 ∈ tb_ALL) (hdg : decode cc pc = .ok (.getfield index, 3))
    (kk : W p l e R s m args below meth c H locs cells slots Q (F0 m (pc + 3) ls (.ref (tb_ad g r) :: rest))) : W p l e R s m args below meth c H locs cells slots Q (F0 m pc ls (.ref (tb_ad g q) :: rest)) := by
  refine va_get F.1.1 F.1.2.1 (fun w h => F.1.2.2.2.2 w h) (fun w h => List.mem_cons_of_mem _ (hin w h)) F.1.2.2.2.1 F.2.2.2.1 hP q (tb_at hP hl (by simp)) hc k hk (tb_hts F hlink) (fun _ h9 => h9) (v := .ref (tb_ad g r)) ?_ hdg kk
  rw [tb_fs_get, hf]
  rfl
theorem tb_puti (F : tb_F g cc nL own ret cw p s m args meth c) (hP : tb_P g M H) (hS : va_S (tb_A g) s.heap H locs) {q ci N : Nat} {C : String} {T : u_T} {fl : List (Option Nat)} (hl : tb_lay q = tb_ob ci fl) (hc : vwCl[ci]? = some (C, T, N)) (hin : ∀ w ∈ u_ws C T N, w ∈ tb_ALL) (ty0 : Nat → FieldType) (hty : ∀ k, k < N → parseFieldDescriptor (T k).2.2.1 = some (ty0 k)) (hnm : ∀ a, a < N → ∀ b, b < N → a ≠ b → (T a).2.1 ≠ (T b).2.1) (k : Nat) (hk : k < N) (hf : fl[k]? = some none) (hfin : (T k).2.2.2 = false) {x : Int32} (hn : narrow (ty0 k) (.int x) = .int x) (hfit : fits (ty0 k) (.int x) = true) {index : Nat} (hlink : Cond.fieldLink own index (T k).1 (T k).2.1 (T k).2.2.1 ∈ tb_ALL) (hdg : decode cc pc = .ok (.putfield index, 3))
    (kk : ∀ (H1 : Heap) (locs1 : List Loc), tb_P g (tb_up M q k x) H1 → va_S (tb_A g) s.heap H1 locs1 → W p l e R s m args below meth c H1 locs1 cells slots Q (F0 m (pc + 3) ls rest)) : W p l e R s m args below meth c H locs cells slots Q (F0 m pc ls (.int x :: .ref (tb_ad g q) :: rest)) := by
  have hq := tb_lay_lt hl (by simp)
  refine va_put F.1.1 F.1.2.1 (fun w h => F.1.2.2.2.2 w h) (fun w h => List.mem_cons_of_mem _ (hin w h)) ty0 hty hnm F.1.2.2.2.1 F.2.2.2.1 hP (F.2.2.2.D M) hS q (tb_at hP hl (by simp)) hc k hk (tb_hts F hlink) (fun _ h9 => h9) hfin (hty k hk) hn hfit ?_ hdg (fun H1 locs1 a1 a2 a3 => kk H1 locs1 ?_ a3)
  · have h1 := tb_fs_get (tb_ad g) (M q) fl 0 k
    rw [hf] at h1
    exact (List.getElem?_eq_some_iff.mp h1).1
  · rw [tb_fs_set _ _ _ _ _ hf, tb_w_set g M q (upd (M q) k x) (by rw [hl]; rfl) hq] at a1
    exact a1
theorem tb_gets (F : tb_F g cc nL own ret cw p s m args meth c) (hS : va_S (tb_A g) s.heap H locs) {k index : Nat} {C n d : String} (hZ : va_Z C n d (.ref (g.2.2.2.2 k)) (tb_A g) s s.heap) (hlink : Cond.fieldLink own index C n d ∈ tb_ALL) (hdg : decode cc pc = .ok (.getstatic index, 3))
    (kk : W p l e R s m args below meth c H locs cells slots Q (F0 m (pc + 3) ls (.ref (g.2.2.2.2 k) :: rest))) : W p l e R s m args below meth c H locs cells slots Q (F0 m pc ls rest) :=
  va_gets F.1.1 F.1.2.1 hZ hS F.1.2.2.2.1 (tb_hts F hlink) (fun _ h9 => h9) hdg kk
theorem tb_ti (F : tb_F g cc nL own ret cw p s m args meth c) (hS : va_S (tb_A g) s.heap H locs) {k : Nat} (hT : va_T .int (g.2.2.2.2 k) 6 (fun j => .int (tb_tab k j)) (tb_A g) s s.heap) {i : Int32} {j : Nat} (hk : i.toNatClampNeg = j) (hin : vp_in i 6) (hdg : decode cc pc = .ok (.iaload, 1))
    (kk : W p l e R s m args below meth c H locs cells slots Q (F0 m (pc + 1) ls (.int (tb_tab k j) :: rest))) : W p l e R s m args below meth c H locs cells slots Q (F0 m pc ls (.int i :: .ref (g.2.2.2.2 k) :: rest)) := by
  subst hk
  exact va_ti F.1.1 F.1.2.1 hT hS hin rfl hdg kk
theorem tb_mmax (F : tb_F g cc nL own ret cw p s m args meth c) (hsz : ls.size = nL) {index : Nat} (hlink : Cond.methodLink own index Lib.Math.max.name ∈ tb_ALL) (hframes : 1 ≤ R.frames) (hlocals : (rest.map fun v => v.category).sum + 13 ≤ R.locals) (hcs : cells ≤ R.cells ∧ slots ≤ R.slots) {x y : Int32} (hdg : decode cc pc = .ok (.invokestatic index, 3))
    (kk : W p l e R s m args below meth c H locs cells slots Q (F0 m (pc + 3) ls (.int (if x < y then y else x) :: rest))) : W p l e R s m args below meth c H locs cells slots Q (F0 m pc ls (.int y :: .int x :: rest)) :=
  va_mmax F.1.1 F.1.2.1 (F.1.2.2.1.trans hsz.symm) F.1.2.2.2.1 (tb_hts F hlink) (tb_hts F kn_maxS) (tb_hts F ki_J9) (tb_hts F kn_maxC) hframes hlocals hcs.1 hcs.2 hdg kk
theorem tb_mmin (F : tb_F g cc nL own ret cw p s m args meth c) (hsz : ls.size = nL) {index : Nat} (hlink : Cond.methodLink own index Lib.Math.min.name ∈ tb_ALL) (hframes : 1 ≤ R.frames) (hlocals : (rest.map fun v => v.category).sum + 13 ≤ R.locals) (hcs : cells ≤ R.cells ∧ slots ≤ R.slots) {x y : Int32} (hdg : decode cc pc = .ok (.invokestatic index, 3))
    (kk : W p l e R s m args below meth c H locs cells slots Q (F0 m (pc + 3) ls (.int (if y < x then y else x) :: rest))) : W p l e R s m args below meth c H locs cells slots Q (F0 m pc ls (.int y :: .int x :: rest)) :=
  va_mmin F.1.1 F.1.2.1 (F.1.2.2.1.trans hsz.symm) F.1.2.2.2.1 (tb_hts F hlink) (tb_hts F kn_minS) (tb_hts F ki_J9) (tb_hts F kn_minC) hframes hlocals hcs.1 hcs.2 hdg kk
/-- behind a call -/
theorem tb_call {M' : tb_Mem} {o : Option Value} {st0 : List Value} {a : Array Value} (hr : va_Run p l e R s m args below meth c H locs cells slots 0 0 (F0 m pc ls st0) rest (tb_Q g M' o a) (tb_A g)) (hS : va_S (tb_A g) s.heap H locs)
    (kk : ∀ (H1 : Heap) (locs1 : List Loc), tb_P g M' H1 → va_S (tb_A g) s.heap H1 locs1 → W p l e R s m args below meth c H1 locs1 cells slots Q (F0 m (pc + 3) ls (o.toList ++ rest))) : W p l e R s m args below meth c H locs cells slots Q (F0 m pc ls st0) := by
  intro T hT X
  obtain ⟨v, st₀, t, T', L, h0, X', hL, e1, e2, ⟨hv, hp, hz, hk⟩, st⟩ := hr T hT X
  cases hv
  rw [h0] at hz hk
  obtain ⟨t2, a1, b1⟩ := kk T'.heap (locs ++ L) (by rw [e1]; exact hp)
    ⟨Nat.le_trans hS.1 (by rw [e1]; exact hz), fun q h1 h2 => by rw [e1, hk q (Nat.lt_of_lt_of_le h1 hS.1) h2]; exact hS.2.1 q h1 h2, fun q hq => by
      rcases List.mem_append.mp hq with h | h
      · exact hS.2.2 q h
      · exact hL q h⟩ T' rfl X'
  exact ⟨t2, st t2 a1, b1⟩
theorem tb_goodC {z : MethodName} {zc : ByteArray} {zL : Nat} {zr : Option FieldType} (hcode : Cond.code z zc zL zr ∈ tb_ALL) {pre : List Cond} (hpre : ∀ w ∈ pre, w ∈ tb_ALL) : GoodIn (cw :: tb_ALL) (pre ++ (Cond.code z zc zL zr :: tb_ALL)) := by
  intro w hw
  have h1 : w ∈ tb_ALL := by
    rcases List.mem_append.mp hw with h | h
    · exact hpre w h
    · rcases List.mem_cons.mp h with h | h
      · rw [h]; exact hcode
      · exact h
  exact ⟨List.mem_cons_of_mem _ h1, good_of_word (tb_all h1).2⟩
theorem tb_pre (F : tb_F g cc nL own ret cw p s m args meth c) (hP : tb_P g M H) (hS : va_S (tb_A g) s.heap H locs) (as : List Value) : ∀ U : State, U.heap = H → s.WarmedH U.vm → tb_Pre g M as as.toArray U := fun U hU hW => ⟨rfl, by rw [hU]; exact hP, F.2.2.2.mv hS hU hW⟩
theorem tb_callV (F : tb_F g cc nL own ret cw p s m args meth c) (hP : tb_P g M H) (hS : va_S (tb_A g) s.heap H locs) (hsz : ls.size = nL) {z : MethodName} {zc : ByteArray} {zL : Nat} {zr : Option FieldType} {ci n q : Nat} {fl : List (Option Nat)} (Z : tb_MV z zc zL zr ci n) {index : Nat} (hlink : Cond.methodLink own index z ∈ tb_ALL) {zrm : Room} {as : List Value} {M' : tb_Mem} {o : Option Value} (C : tb_C g l z (Cond.code z zc zL zr) zrm (.ref (tb_ad g q) :: as) M M' o) (hl : tb_lay q = tb_ob ci fl)
    (hrm : zrm.cells = 0 ∧ zrm.slots = 0 ∧ zrm.frames + 1 ≤ R.frames ∧ 8 + (zL + 11) + zrm.locals ≤ R.locals) (hn : as.length = n) {st0 : List Value} (hst : st0 = as.reverse ++ .ref (tb_ad g q) :: rest) {st1 : List Value} (hst1 : o.toList ++ rest = st1) (hcat : (rest.map fun v => v.category).sum ≤ 8) (hcs : cells ≤ R.cells ∧ slots ≤ R.slots) (hdg : decode cc pc = .ok (.invokevirtual index, 3))
    (kk : ∀ (H1 : Heap) (locs1 : List Loc), tb_P g M' H1 → va_S (tb_A g) s.heap H1 locs1 → W p l e R s m args below meth c H1 locs1 cells slots Q (F0 m (pc + 3) ls st1)) : W p l e R s m args below meth c H locs cells slots Q (F0 m pc ls st0) := by
  subst hst1
  obtain ⟨T, N, hc⟩ := Z.2.2.2.2.2
  refine tb_call (va_runV (As := as) (rest := rest) F.1 C (cwV n F.1.2.2.2.2 (tb_goodC Z.2.2.2.1 (pre := [.methodLink own index z, .instanceMethod z, .selects z.cls z z, .initialized z.cls]) ?_) rfl hrm.1 hrm.2.1 Z.2.2.2.2.1 hrm.2.2) ⟨tb_blind g M _, va_recv F.2.2.2.1 hP hc (tb_at hP hl (by simp)), tb_pre F hP hS _⟩ rfl hn hsz hst (lv_room hcat) hdg hcs) hS kk
  intro w hw
  simp only [List.mem_cons, List.not_mem_nil, or_false] at hw
  rcases hw with h | h | h | h
  · rw [h]; exact hlink
  · rw [h]; exact Z.1
  · rw [h]; exact Z.2.1
  · rw [h]; exact Z.2.2.1
theorem tb_callS (F : tb_F g cc nL own ret cw p s m args meth c) (hP : tb_P g M H) (hS : va_S (tb_A g) s.heap H locs) (hsz : ls.size = nL) {z : MethodName} {zc : ByteArray} {zL : Nat} {zr : Option FieldType} {n : Nat} (Z : tb_MS z zc zL zr n) {index : Nat} (hlink : Cond.methodLink own index z ∈ tb_ALL) {zrm : Room} {as : List Value} {M' : tb_Mem} {o : Option Value} (C : tb_C g l z (Cond.code z zc zL zr) zrm as M M' o)
    (hrm : zrm.cells = 0 ∧ zrm.slots = 0 ∧ zrm.frames + 1 ≤ R.frames ∧ 8 + (zL + 11) + zrm.locals ≤ R.locals) (hn : as.length = n) {st0 : List Value} (hst : st0 = as.reverse ++ rest) {st1 : List Value} (hst1 : o.toList ++ rest = st1) (hcat : (rest.map fun v => v.category).sum ≤ 8) (hcs : cells ≤ R.cells ∧ slots ≤ R.slots) (hdg : decode cc pc = .ok (.invokestatic index, 3))
    (kk : ∀ (H1 : Heap) (locs1 : List Loc), tb_P g M' H1 → va_S (tb_A g) s.heap H1 locs1 → W p l e R s m args below meth c H1 locs1 cells slots Q (F0 m (pc + 3) ls st1)) : W p l e R s m args below meth c H locs cells slots Q (F0 m pc ls st0) := by
  subst hst1
  refine tb_call (va_runS (As := as) (rest := rest) F.1 C (va_cwS n F.1.2.2.2.2 (tb_goodC Z.2.2.1 (pre := [.methodLink own index z, .static z, .initialized z.cls]) ?_) rfl hrm.1 hrm.2.1 Z.2.2.2 hrm.2.2) ⟨tb_blind g M _, tb_pre F hP hS _⟩ rfl hn hsz hst (lv_room hcat) hdg hcs) hS kk
  intro w hw
  simp only [List.mem_cons, List.not_mem_nil, or_false] at hw
  rcases hw with h | h | h
  · rw [h]; exact hlink
  · rw [h]; exact Z.1
  · rw [h]; exact Z.2.1
theorem tb_callSN (F : tb_F g cc nL own ret cw p s m args meth c) (hP : tb_P g M H) (hS : va_S (tb_A g) s.heap H locs) (hsz : ls.size = nL) {z : MethodName} {zc : ByteArray} {zL : Nat} {zr : Option FieldType} {n : Nat} (Z : tb_MS z zc zL zr n) {index : Nat} {host : String} (hlink : va_Nw (.methodLinkNest own index z host) s) {zrm : Room} {as : List Value} {M' : tb_Mem} {o : Option Value} (C : tb_C g l z (Cond.code z zc zL zr) zrm as M M' o)
    (hrm : zrm.cells = 0 ∧ zrm.slots = 0 ∧ zrm.frames + 1 ≤ R.frames ∧ 8 + (zL + 11) + zrm.locals ≤ R.locals) (hn : as.length = n) {st0 : List Value} (hst : st0 = as.reverse ++ rest) {st1 : List Value} (hst1 : o.toList ++ rest = st1) (hcat : (rest.map fun v => v.category).sum ≤ 8) (hcs : cells ≤ R.cells ∧ slots ≤ R.slots) (hdg : decode cc pc = .ok (.invokestatic index, 3))
    (kk : ∀ (H1 : Heap) (locs1 : List Loc), tb_P g M' H1 → va_S (tb_A g) s.heap H1 locs1 → W p l e R s m args below meth c H1 locs1 cells slots Q (F0 m (pc + 3) ls st1)) : W p l e R s m args below meth c H locs cells slots Q (F0 m pc ls st0) := by
  subst hst1
  refine tb_call (va_runSN (As := as) (rest := rest) F.1 C ⟨va_cnB n F.1.2.2.2.2 (tb_goodC Z.2.2.1 (pre := []) (fun w hw => absurd hw List.not_mem_nil)) rfl hrm.1 hrm.2.1 hlink (tb_hts F Z.2.1) Z.2.2.2 hrm.2.2, tb_hts F Z.1, trivial⟩ ⟨tb_blind g M _, tb_pre F hP hS _⟩ rfl hn hsz hst (lv_room hcat) hdg hcs) hS kk
/-- the ends -/
theorem tb_iret {M0 M' : tb_Mem} {v r : Int32} (h : some (v, M0) = some (r, M')) (F : tb_F g cc nL own (some .int) cw p s m args meth c) (hP : tb_P g M0 H) (hS : va_S (tb_A g) s.heap H locs) (hdg : decode cc pc = .ok (.ireturn, 1)) : W p l e R s m args below meth c H locs cells slots (MQ below (tb_Q g M' (some (.int r))) args s cells slots (tb_A g)) (F0 m pc ls [.int v]) := by
  cases h
  exact W.iret F.1.1 F.1.2.1 F.2.1 (fun t ht hW => ⟨rfl, by rw [ht]; exact hP, hS.F ht⟩) hS.2.2 hdg F.2.2.1
theorem tb_zret {M0 M' : tb_Mem} {v r : Int32} (h : some (v, M0) = some (r, M')) (F : tb_F g cc nL own (some .boolean) cw p s m args meth c) (hn : narrow .boolean (.int v) = .int v) (hP : tb_P g M0 H) (hS : va_S (tb_A g) s.heap H locs) (hdg : decode cc pc = .ok (.ireturn, 1)) : W p l e R s m args below meth c H locs cells slots (MQ below (tb_Q g M' (some (.int r))) args s cells slots (tb_A g)) (F0 m pc ls [.int v]) := by
  cases h
  exact W.zret F.1.1 F.1.2.1 F.2.1 hn (fun t ht hW => ⟨rfl, by rw [ht]; exact hP, hS.F ht⟩) hS.2.2 hdg F.2.2.1
theorem tb_lret {M0 M' : tb_Mem} {v r : Int64} (h : some (v, M0) = some (r, M')) (F : tb_F g cc nL own (some .long) cw p s m args meth c) (hP : tb_P g M0 H) (hS : va_S (tb_A g) s.heap H locs) (hdg : decode cc pc = .ok (.lreturn, 1)) : W p l e R s m args below meth c H locs cells slots (MQ below (tb_Q g M' (some (.long r))) args s cells slots (tb_A g)) (F0 m pc ls [.long v]) := by
  cases h
  exact W.lret F.1.1 F.1.2.1 F.2.1 (fun t ht hW => ⟨rfl, by rw [ht]; exact hP, hS.F ht⟩) hS.2.2 hdg F.2.2.1
theorem tb_vret {M0 M' : tb_Mem} (h : some M0 = some M') (F : tb_F g cc nL own none cw p s m args meth c) (hP : tb_P g M0 H) (hS : va_S (tb_A g) s.heap H locs) (hdg : decode cc pc = .ok (.return_, 1)) : W p l e R s m args below meth c H locs cells slots (MQ below (tb_Q g M' none) args s cells slots (tb_A g)) (F0 m pc ls []) := by
  cases h
  exact W.vret F.1.1 F.1.2.1 F.2.1 (fun t ht hW => ⟨rfl, by rw [ht]; exact hP, hS.F ht⟩) hS.2.2 hdg F.2.2.1
theorem tb_aret {M0 M' : tb_Mem} {r : Nat} {C : String} (h : some M0 = some M') (F : tb_F g cc nL own (some (.object C)) cw p s m args meth c) (hP : tb_P g M0 H) (hS : va_S (tb_A g) s.heap H locs) (hdg : decode cc pc = .ok (.areturn, 1)) : W p l e R s m args below meth c H locs cells slots (MQ below (tb_Q g M' (some (.ref (tb_ad g r)))) args s cells slots (tb_A g)) (F0 m pc ls [.ref (tb_ad g r)]) := by
  cases h
  exact W.aret F.1.1 F.1.2.1 F.2.1 (Or.inl ⟨_, rfl⟩) (Or.inr ⟨_, rfl⟩) (fun t ht hW => ⟨rfl, by rw [ht]; exact hP, hS.F ht⟩) hS.2.2 hdg F.2.2.1
/-- System.arraycopy between int arrays -/
theorem tb_copy (F : tb_F g cc nL own ret cw p s m args meth c) (hP : tb_P g M H) (hS : va_S (tb_A g) s.heap H locs) (hsz : ls.size = nL) {q0 q1 n0 n1 : Nat} (hl0 : tb_lay q0 = tb_ar n0) (hl1 : tb_lay q1 = tb_ar n1) {index : Nat} (hlink : Cond.methodLink own index arraycopyName ∈ tb_ALL) (hnat : Cond.native arraycopyName ∈ tb_ALL) (hstat : Cond.static arraycopyName ∈ tb_ALL) (hini : Cond.initialized "java/lang/System" ∈ tb_ALL)
    {sp dp n : Int32} (h1 : ¬ sp < 0) (h2 : ¬ dp < 0) (h3 : ¬ n < 0) (h4 : sp.toNatClampNeg + n.toNatClampNeg ≤ n0) (h5 : dp.toNatClampNeg + n.toNatClampNeg ≤ n1) (hframes : 1 ≤ R.frames) (hlocals : (rest.map fun v => v.category).sum + (nativeFrameWords "java/lang/System" "arraycopy" 5 + 11) ≤ R.locals) (hdg : decode cc pc = .ok (.invokestatic index, 3))
    (kk : ∀ (H1 : Heap) (locs1 : List Loc), tb_P g (tb_row M q1 (va_cpy (M q0) (M q1) sp.toNatClampNeg dp.toNatClampNeg n.toNatClampNeg)) H1 → va_S (tb_A g) s.heap H1 locs1 → W p l e R s m args below meth c H1 locs1 cells slots Q (F0 m (pc + 3) ls rest)) : W p l e R s m args below meth c H locs cells slots Q (F0 m pc ls (.int n :: .int dp :: .ref (tb_ad g q1) :: .int sp :: .ref (tb_ad g q0) :: rest)) := by
  have hq := tb_lay_lt hl1 (by simp)
  refine va_copyi F.1.1 F.1.2.1 (F.1.2.2.1.trans hsz.symm) F.1.2.2.2.1 (tb_hts F hlink) (tb_hts F hnat) (tb_hts F hstat) (tb_hts F hini) F.2.2.2.1 hP (F.2.2.2.D M) hS q0 q1 0 0 (ty := .int) (tb_at hP hl0 (by simp)) (tb_at hP hl1 (by simp)) rfl rfl rfl h1 h2 h3 h4 h5 (fun i hi => rfl) hframes hlocals hdg (fun H1 locs1 a1 a2 a3 => kk H1 locs1 ?_ a3)
  rw [tb_w_set g M q1 (va_cpy (M q0) (M q1) sp.toNatClampNeg dp.toNatClampNeg n.toNatClampNeg) (by rw [hl1]; rfl) hq] at a1
  exact a1
theorem tb_mrg {g1 g2 : JFrame} (hb : W p l e R s m args below meth c H locs cells slots Q g2 → W p l e R s m args below meth c H locs cells slots Q g1) (hJ : W p l e R s m args below meth c H locs cells slots Q g2) : W p l e R s m args below meth c H locs cells slots Q g1 := hb hJ
theorem tb_nmi {x y : Int32} (hy : y = x) (k : W p l e R s m args below meth c H locs cells slots Q (F0 m pc ls (.int y :: rest))) : W p l e R s m args below meth c H locs cells slots Q (F0 m pc ls (.int x :: rest)) := by
  subst hy
  exact k
theorem tb_nml {x y : Int64} (hy : y = x) (k : W p l e R s m args below meth c H locs cells slots Q (F0 m pc ls (.long y :: rest))) : W p l e R s m args below meth c H locs cells slots Q (F0 m pc ls (.long x :: rest)) := by
  subst hy
  exact k
end TBW
/-! the words of the functions that the methods are -/
def tb_N : Nat := 5000
def tb_in (i : Int32) (n : Nat) : Bool := decide (0 ≤ i.toInt) && decide (i.toInt < n)
def tb_ck {α : Type} (b : Bool) (x : Option α) : Option α := match b with
  | true => x
  | false => none
def tb_b1 {α β : Type} (o : Option α) (k : α → Option β) : Option β := match o with
  | some a => k a
  | none => none
def tb_b2 {α β γ : Type} (o : Option (α × β)) (k : α → β → Option γ) : Option γ := match o with
  | some (a, b) => k a b
  | none => none
def tb_let {α β : Type} (v : α) (k : α → β) : β := k v
def tb_bl (v : Int32) : Bool := decide (v = 0 ∨ v = 1)
theorem tb_ip {α : Type} {c : Prop} [Decidable c] {a b x : α} (hc : c) (h : (if c then a else b) = x) : a = x := by rw [if_pos hc] at h; exact h
theorem tb_ineg {α : Type} {c : Prop} [Decidable c] {a b x : α} (hc : ¬ c) (h : (if c then a else b) = x) : b = x := by rw [if_neg hc] at h; exact h
theorem tb_cks {α : Type} {b : Bool} {x : Option α} {r : α} (h : tb_ck b x = some r) : b = true ∧ x = some r := by
  cases b with
  | true => exact ⟨rfl, h⟩
  | false => cases h
theorem tb_b1s {α β : Type} {o : Option α} {k : α → Option β} {r : β} (h : tb_b1 o k = some r) : ∃ a, o = some a ∧ k a = some r := by
  cases o with
  | none => cases h
  | some a => exact ⟨a, rfl, h⟩
theorem tb_b2s {α β γ : Type} {o : Option (α × β)} {k : α → β → Option γ} {r : γ} (h : tb_b2 o k = some r) : ∃ a b, o = some (a, b) ∧ k a b = some r := by
  cases o with
  | none => cases h
  | some q => exact ⟨q.1, q.2, rfl, h⟩
theorem tb_lets {α β : Type} {v : α} {k : α → Option β} {r : β} (h : tb_let v k = some r) : ∃ x, x = v ∧ k x = some r := ⟨v, rfl, h⟩
theorem tb_inv {i : Int32} {n : Nat} (h : tb_in i n = true) : vp_in i n := by
  simp only [tb_in, Bool.and_eq_true, decide_eq_true_eq] at h
  exact vp_in_iff.mpr h
theorem tb_bln {v : Int32} (h : tb_bl v = true) : narrow .boolean (.int v) = .int v := by
  simp only [tb_bl, decide_eq_true_eq] at h
  rcases h with h | h <;> rw [h] <;> rfl
theorem tb_none {α : Type} {r : α} {P : Prop} (h : (none : Option α) = some r) : P := by cases h
theorem tb_ne0 {x : Int32} (h : (x != 0) = true) : ¬ x = 0 := by simpa using h
theorem tb_ne0l {x : Int64} (h : (x != 0) = true) : ¬ x = 0 := by simpa using h
end

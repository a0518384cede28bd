section
-- ===== PART A: goes FIRST, ahead of the names: the tables' words, and 'selects' of the private methods out of them =====
/-- a private method of a class that the tables say can be made, by its rows of tables_1 -/
def lw_okq (q : MethodName × Nat) : Prop := (q.1.cls ≠ "java/lang/invoke/MethodHandle" ∧ q.1.cls ≠ "java/lang/invoke/VarHandle") ∧ Cond.instantiable q.1.cls q.2 ∈ tables_1 ∧ Cond.privateMethod q.1 ∈ tables_1 ∧ Cond.instanceMethod q.1 ∈ tables_1
theorem lw_p0 : lw_okq (⟨"TypeBars", "found", "(I)I"⟩, 10) := ⟨⟨by decide +kernel, by decide +kernel⟩, List.mem_of_getElem? (i := 14) (by decide +kernel), List.mem_of_getElem? (i := 238) (by decide +kernel), List.mem_of_getElem? (i := 239) (by decide +kernel)⟩
theorem lw_p1 : lw_okq (⟨"TypeBars", "fine", "(I)I"⟩, 10) := ⟨⟨by decide +kernel, by decide +kernel⟩, List.mem_of_getElem? (i := 14) (by decide +kernel), List.mem_of_getElem? (i := 250) (by decide +kernel), List.mem_of_getElem? (i := 251) (by decide +kernel)⟩
theorem lw_p2 : lw_okq (⟨"TypeBars", "findingOf", "(III)I"⟩, 10) := ⟨⟨by decide +kernel, by decide +kernel⟩, List.mem_of_getElem? (i := 14) (by decide +kernel), List.mem_of_getElem? (i := 258) (by decide +kernel), List.mem_of_getElem? (i := 259) (by decide +kernel)⟩
theorem lw_p3 : lw_okq (⟨"TypeBars$Tape", "readBar", "(LTypeBars$Basket;)I"⟩, 3) := ⟨⟨by decide +kernel, by decide +kernel⟩, List.mem_of_getElem? (i := 24) (by decide +kernel), List.mem_of_getElem? (i := 307) (by decide +kernel), List.mem_of_getElem? (i := 308) (by decide +kernel)⟩
theorem lw_p4 : lw_okq (⟨"TypeBars$Tape", "byteAt", "(I)I"⟩, 3) := ⟨⟨by decide +kernel, by decide +kernel⟩, List.mem_of_getElem? (i := 24) (by decide +kernel), List.mem_of_getElem? (i := 311) (by decide +kernel), List.mem_of_getElem? (i := 312) (by decide +kernel)⟩
theorem lw_p5 : lw_okq (⟨"TypeBars$Tape", "figuresHere", "()I"⟩, 3) := ⟨⟨by decide +kernel, by decide +kernel⟩, List.mem_of_getElem? (i := 24) (by decide +kernel), List.mem_of_getElem? (i := 319) (by decide +kernel), List.mem_of_getElem? (i := 320) (by decide +kernel)⟩
theorem lw_p6 : lw_okq (⟨"TypeBars$Tape", "numberHere", "(I)I"⟩, 3) := ⟨⟨by decide +kernel, by decide +kernel⟩, List.mem_of_getElem? (i := 24) (by decide +kernel), List.mem_of_getElem? (i := 323) (by decide +kernel), List.mem_of_getElem? (i := 324) (by decide +kernel)⟩
theorem lw_p7 : lw_okq (⟨"TypeBars$Basket", "riseAndFall", "()V"⟩, 13) := ⟨⟨by decide +kernel, by decide +kernel⟩, List.mem_of_getElem? (i := 43) (by decide +kernel), List.mem_of_getElem? (i := 366) (by decide +kernel), List.mem_of_getElem? (i := 367) (by decide +kernel)⟩
theorem lw_p8 : lw_okq (⟨"TypeBars$Basket", "heightByTime", "(I)I"⟩, 13) := ⟨⟨by decide +kernel, by decide +kernel⟩, List.mem_of_getElem? (i := 43) (by decide +kernel), List.mem_of_getElem? (i := 374) (by decide +kernel), List.mem_of_getElem? (i := 375) (by decide +kernel)⟩
theorem lw_p9 : lw_okq (⟨"TypeBars$Basket", "meeting", "()I"⟩, 13) := ⟨⟨by decide +kernel, by decide +kernel⟩, List.mem_of_getElem? (i := 43) (by decide +kernel), List.mem_of_getElem? (i := 381) (by decide +kernel), List.mem_of_getElem? (i := 382) (by decide +kernel)⟩
theorem lw_p10 : lw_okq (⟨"TypeBars$Basket", "print", "()I"⟩, 13) := ⟨⟨by decide +kernel, by decide +kernel⟩, List.mem_of_getElem? (i := 43) (by decide +kernel), List.mem_of_getElem? (i := 391) (by decide +kernel), List.mem_of_getElem? (i := 392) (by decide +kernel)⟩
theorem lw_p11 : lw_okq (⟨"TypeBars$Basket", "strike", "(I)V"⟩, 13) := ⟨⟨by decide +kernel, by decide +kernel⟩, List.mem_of_getElem? (i := 43) (by decide +kernel), List.mem_of_getElem? (i := 395) (by decide +kernel), List.mem_of_getElem? (i := 396) (by decide +kernel)⟩
theorem lw_p12 : lw_okq (⟨"TypeBars$Foretelling", "staysClear", "(I)Z"⟩, 5) := ⟨⟨by decide +kernel, by decide +kernel⟩, List.mem_of_getElem? (i := 132) (by decide +kernel), List.mem_of_getElem? (i := 502) (by decide +kernel), List.mem_of_getElem? (i := 503) (by decide +kernel)⟩
theorem lw_p13 : lw_okq (⟨"TypeBars$Foretelling", "leastPace", "(I)I"⟩, 5) := ⟨⟨by decide +kernel, by decide +kernel⟩, List.mem_of_getElem? (i := 132) (by decide +kernel), List.mem_of_getElem? (i := 520) (by decide +kernel), List.mem_of_getElem? (i := 521) (by decide +kernel)⟩
theorem lw_p14 : lw_okq (⟨"TypeBars$Foretelling", "goesAt", "(I)Z"⟩, 5) := ⟨⟨by decide +kernel, by decide +kernel⟩, List.mem_of_getElem? (i := 132) (by decide +kernel), List.mem_of_getElem? (i := 524) (by decide +kernel), List.mem_of_getElem? (i := 525) (by decide +kernel)⟩
theorem lw_p15 : lw_okq (⟨"TypeBars$Foretelling", "suppose", "(III)V"⟩, 5) := ⟨⟨by decide +kernel, by decide +kernel⟩, List.mem_of_getElem? (i := 132) (by decide +kernel), List.mem_of_getElem? (i := 548) (by decide +kernel), List.mem_of_getElem? (i := 549) (by decide +kernel)⟩
def lw_privs_1 : List (MethodName × Nat) := [(⟨"TypeBars", "found", "(I)I"⟩, 10), (⟨"TypeBars", "fine", "(I)I"⟩, 10), (⟨"TypeBars", "findingOf", "(III)I"⟩, 10), (⟨"TypeBars$Tape", "readBar", "(LTypeBars$Basket;)I"⟩, 3), (⟨"TypeBars$Tape", "byteAt", "(I)I"⟩, 3), (⟨"TypeBars$Tape", "figuresHere", "()I"⟩, 3), (⟨"TypeBars$Tape", "numberHere", "(I)I"⟩, 3), (⟨"TypeBars$Basket", "riseAndFall", "()V"⟩, 13), (⟨"TypeBars$Basket", "heightByTime", "(I)I"⟩, 13), (⟨"TypeBars$Basket", "meeting", "()I"⟩, 13), (⟨"TypeBars$Basket", "print", "()I"⟩, 13), (⟨"TypeBars$Basket", "strike", "(I)V"⟩, 13), (⟨"TypeBars$Foretelling", "staysClear", "(I)Z"⟩, 5), (⟨"TypeBars$Foretelling", "leastPace", "(I)I"⟩, 5), (⟨"TypeBars$Foretelling", "goesAt", "(I)Z"⟩, 5), (⟨"TypeBars$Foretelling", "suppose", "(III)V"⟩, 5)]
theorem lw_r1 : ∀ q ∈ lw_privs_1, lw_okq q := List.forall_mem_cons.mpr ⟨lw_p0, List.forall_mem_cons.mpr ⟨lw_p1, List.forall_mem_cons.mpr ⟨lw_p2, List.forall_mem_cons.mpr ⟨lw_p3, List.forall_mem_cons.mpr ⟨lw_p4, List.forall_mem_cons.mpr ⟨lw_p5, List.forall_mem_cons.mpr ⟨lw_p6, List.forall_mem_cons.mpr ⟨lw_p7, List.forall_mem_cons.mpr ⟨lw_p8, List.forall_mem_cons.mpr ⟨lw_p9, List.forall_mem_cons.mpr ⟨lw_p10, List.forall_mem_cons.mpr ⟨lw_p11, List.forall_mem_cons.mpr ⟨lw_p12, List.forall_mem_cons.mpr ⟨lw_p13, List.forall_mem_cons.mpr ⟨lw_p14, List.forall_mem_cons.mpr ⟨lw_p15, fun _ h => absurd h List.not_mem_nil⟩⟩⟩⟩⟩⟩⟩⟩⟩⟩⟩⟩⟩⟩⟩⟩
theorem lw_p16 : lw_okq (⟨"TypeBars$Foretelling", "risesAsHeard", "(I)Z"⟩, 5) := ⟨⟨by decide +kernel, by decide +kernel⟩, List.mem_of_getElem? (i := 132) (by decide +kernel), List.mem_of_getElem? (i := 554) (by decide +kernel), List.mem_of_getElem? (i := 555) (by decide +kernel)⟩
theorem lw_p17 : lw_okq (⟨"TypeBars$Asking", "give", "(ILTypeBars$Basket;II)I"⟩, 2) := ⟨⟨by decide +kernel, by decide +kernel⟩, List.mem_of_getElem? (i := 158) (by decide +kernel), List.mem_of_getElem? (i := 619) (by decide +kernel), List.mem_of_getElem? (i := 620) (by decide +kernel)⟩
theorem lw_p18 : lw_okq (⟨"TypeBars$Asking", "leave", "(I)V"⟩, 2) := ⟨⟨by decide +kernel, by decide +kernel⟩, List.mem_of_getElem? (i := 158) (by decide +kernel), List.mem_of_getElem? (i := 623) (by decide +kernel), List.mem_of_getElem? (i := 624) (by decide +kernel)⟩
theorem lw_p19 : lw_okq (⟨"TypeBars", "countRows", "()I"⟩, 10) := ⟨⟨by decide +kernel, by decide +kernel⟩, List.mem_of_getElem? (i := 14) (by decide +kernel), List.mem_of_getElem? (i := 641) (by decide +kernel), List.mem_of_getElem? (i := 642) (by decide +kernel)⟩
theorem lw_p20 : lw_okq (⟨"TypeBarsModel", "ends", "(I)I"⟩, 19) := ⟨⟨by decide +kernel, by decide +kernel⟩, List.mem_of_getElem? (i := 653) (by decide +kernel), List.mem_of_getElem? (i := 730) (by decide +kernel), List.mem_of_getElem? (i := 731) (by decide +kernel)⟩
theorem lw_p21 : lw_okq (⟨"TypeBarsModel", "lies", "(III)Z"⟩, 19) := ⟨⟨by decide +kernel, by decide +kernel⟩, List.mem_of_getElem? (i := 653) (by decide +kernel), List.mem_of_getElem? (i := 741) (by decide +kernel), List.mem_of_getElem? (i := 742) (by decide +kernel)⟩
theorem lw_p22 : lw_okq (⟨"TypeBarsModel", "readsAll", "()Z"⟩, 19) := ⟨⟨by decide +kernel, by decide +kernel⟩, List.mem_of_getElem? (i := 653) (by decide +kernel), List.mem_of_getElem? (i := 766) (by decide +kernel), List.mem_of_getElem? (i := 767) (by decide +kernel)⟩
theorem lw_p23 : lw_okq (⟨"TypeBarsModel", "letterAt", "(I)I"⟩, 19) := ⟨⟨by decide +kernel, by decide +kernel⟩, List.mem_of_getElem? (i := 653) (by decide +kernel), List.mem_of_getElem? (i := 770) (by decide +kernel), List.mem_of_getElem? (i := 771) (by decide +kernel)⟩
theorem lw_p24 : lw_okq (⟨"TypeBarsModel", "fails", "(I)Z"⟩, 19) := ⟨⟨by decide +kernel, by decide +kernel⟩, List.mem_of_getElem? (i := 653) (by decide +kernel), List.mem_of_getElem? (i := 777) (by decide +kernel), List.mem_of_getElem? (i := 778) (by decide +kernel)⟩
theorem lw_p25 : lw_okq (⟨"TypeBarsModel", "reads", "(I)Z"⟩, 19) := ⟨⟨by decide +kernel, by decide +kernel⟩, List.mem_of_getElem? (i := 653) (by decide +kernel), List.mem_of_getElem? (i := 781) (by decide +kernel), List.mem_of_getElem? (i := 782) (by decide +kernel)⟩
theorem lw_p26 : lw_okq (⟨"TypeBarsModel", "isBasket", "()Z"⟩, 19) := ⟨⟨by decide +kernel, by decide +kernel⟩, List.mem_of_getElem? (i := 653) (by decide +kernel), List.mem_of_getElem? (i := 797) (by decide +kernel), List.mem_of_getElem? (i := 798) (by decide +kernel)⟩
theorem lw_p27 : lw_okq (⟨"TypeBarsModel", "keeps", "()V"⟩, 19) := ⟨⟨by decide +kernel, by decide +kernel⟩, List.mem_of_getElem? (i := 653) (by decide +kernel), List.mem_of_getElem? (i := 802) (by decide +kernel), List.mem_of_getElem? (i := 803) (by decide +kernel)⟩
theorem lw_p28 : lw_okq (⟨"TypeBarsModel", "isBar", "(I)Z"⟩, 19) := ⟨⟨by decide +kernel, by decide +kernel⟩, List.mem_of_getElem? (i := 653) (by decide +kernel), List.mem_of_getElem? (i := 831) (by decide +kernel), List.mem_of_getElem? (i := 832) (by decide +kernel)⟩
theorem lw_p29 : lw_okq (⟨"TypeBarsModel", "goesOn", "(I)V"⟩, 19) := ⟨⟨by decide +kernel, by decide +kernel⟩, List.mem_of_getElem? (i := 653) (by decide +kernel), List.mem_of_getElem? (i := 879) (by decide +kernel), List.mem_of_getElem? (i := 880) (by decide +kernel)⟩
theorem lw_p30 : lw_okq (⟨"TypeBarsModel", "clear", "(II)Z"⟩, 19) := ⟨⟨by decide +kernel, by decide +kernel⟩, List.mem_of_getElem? (i := 653) (by decide +kernel), List.mem_of_getElem? (i := 898) (by decide +kernel), List.mem_of_getElem? (i := 899) (by decide +kernel)⟩
theorem lw_p31 : lw_okq (⟨"TypeBarsModel", "paceBy", "(IIII)I"⟩, 19) := ⟨⟨by decide +kernel, by decide +kernel⟩, List.mem_of_getElem? (i := 653) (by decide +kernel), List.mem_of_getElem? (i := 906) (by decide +kernel), List.mem_of_getElem? (i := 907) (by decide +kernel)⟩
def lw_privs_2 : List (MethodName × Nat) := [(⟨"TypeBars$Foretelling", "risesAsHeard", "(I)Z"⟩, 5), (⟨"TypeBars$Asking", "give", "(ILTypeBars$Basket;II)I"⟩, 2), (⟨"TypeBars$Asking", "leave", "(I)V"⟩, 2), (⟨"TypeBars", "countRows", "()I"⟩, 10), (⟨"TypeBarsModel", "ends", "(I)I"⟩, 19), (⟨"TypeBarsModel", "lies", "(III)Z"⟩, 19), (⟨"TypeBarsModel", "readsAll", "()Z"⟩, 19), (⟨"TypeBarsModel", "letterAt", "(I)I"⟩, 19), (⟨"TypeBarsModel", "fails", "(I)Z"⟩, 19), (⟨"TypeBarsModel", "reads", "(I)Z"⟩, 19), (⟨"TypeBarsModel", "isBasket", "()Z"⟩, 19), (⟨"TypeBarsModel", "keeps", "()V"⟩, 19), (⟨"TypeBarsModel", "isBar", "(I)Z"⟩, 19), (⟨"TypeBarsModel", "goesOn", "(I)V"⟩, 19), (⟨"TypeBarsModel", "clear", "(II)Z"⟩, 19), (⟨"TypeBarsModel", "paceBy", "(IIII)I"⟩, 19)]
theorem lw_r2 : ∀ q ∈ lw_privs_2, lw_okq q := List.forall_mem_cons.mpr ⟨lw_p16, List.forall_mem_cons.mpr ⟨lw_p17, List.forall_mem_cons.mpr ⟨lw_p18, List.forall_mem_cons.mpr ⟨lw_p19, List.forall_mem_cons.mpr ⟨lw_p20, List.forall_mem_cons.mpr ⟨lw_p21, List.forall_mem_cons.mpr ⟨lw_p22, List.forall_mem_cons.mpr ⟨lw_p23, List.forall_mem_cons.mpr ⟨lw_p24, List.forall_mem_cons.mpr ⟨lw_p25, List.forall_mem_cons.mpr ⟨lw_p26, List.forall_mem_cons.mpr ⟨lw_p27, List.forall_mem_cons.mpr ⟨lw_p28, List.forall_mem_cons.mpr ⟨lw_p29, List.forall_mem_cons.mpr ⟨lw_p30, List.forall_mem_cons.mpr ⟨lw_p31, fun _ h => absurd h List.not_mem_nil⟩⟩⟩⟩⟩⟩⟩⟩⟩⟩⟩⟩⟩⟩⟩⟩
theorem lw_p32 : lw_okq (⟨"TypeBarsModel", "becomes", "(III)V"⟩, 19) := ⟨⟨by decide +kernel, by decide +kernel⟩, List.mem_of_getElem? (i := 653) (by decide +kernel), List.mem_of_getElem? (i := 918) (by decide +kernel), List.mem_of_getElem? (i := 919) (by decide +kernel)⟩
theorem lw_p33 : lw_okq (⟨"TypeBarsModel", "isSo", "(III)Z"⟩, 19) := ⟨⟨by decide +kernel, by decide +kernel⟩, List.mem_of_getElem? (i := 653) (by decide +kernel), List.mem_of_getElem? (i := 922) (by decide +kernel), List.mem_of_getElem? (i := 923) (by decide +kernel)⟩
theorem lw_p34 : lw_okq (⟨"TypeBarsModel", "size", "(I)I"⟩, 19) := ⟨⟨by decide +kernel, by decide +kernel⟩, List.mem_of_getElem? (i := 653) (by decide +kernel), List.mem_of_getElem? (i := 960) (by decide +kernel), List.mem_of_getElem? (i := 961) (by decide +kernel)⟩
theorem lw_p35 : lw_okq (⟨"TypeBarsModel", "begins", "(I)V"⟩, 19) := ⟨⟨by decide +kernel, by decide +kernel⟩, List.mem_of_getElem? (i := 653) (by decide +kernel), List.mem_of_getElem? (i := 964) (by decide +kernel), List.mem_of_getElem? (i := 965) (by decide +kernel)⟩
theorem lw_p36 : lw_okq (⟨"TypeBarsModel", "plain", "(I)I"⟩, 19) := ⟨⟨by decide +kernel, by decide +kernel⟩, List.mem_of_getElem? (i := 653) (by decide +kernel), List.mem_of_getElem? (i := 968) (by decide +kernel), List.mem_of_getElem? (i := 969) (by decide +kernel)⟩
def lw_privs_3 : List (MethodName × Nat) := [(⟨"TypeBarsModel", "becomes", "(III)V"⟩, 19), (⟨"TypeBarsModel", "isSo", "(III)Z"⟩, 19), (⟨"TypeBarsModel", "size", "(I)I"⟩, 19), (⟨"TypeBarsModel", "begins", "(I)V"⟩, 19), (⟨"TypeBarsModel", "plain", "(I)I"⟩, 19)]
theorem lw_r3 : ∀ q ∈ lw_privs_3, lw_okq q := List.forall_mem_cons.mpr ⟨lw_p32, List.forall_mem_cons.mpr ⟨lw_p33, List.forall_mem_cons.mpr ⟨lw_p34, List.forall_mem_cons.mpr ⟨lw_p35, List.forall_mem_cons.mpr ⟨lw_p36, fun _ h => absurd h List.not_mem_nil⟩⟩⟩⟩⟩
def lw_privs : List (MethodName × Nat) := lw_privs_1 ++ (lw_privs_2 ++ (lw_privs_3))
def lw_tbl : List Cond := k2_sels lw_privs ++ tables_1
theorem lw_privs_ok : ∀ q ∈ lw_privs, lw_okq q := by
  show ∀ q ∈ lw_privs_1 ++ (lw_privs_2 ++ (lw_privs_3)), lw_okq q
  exact List.forall_mem_append.mpr ⟨lw_r1, List.forall_mem_append.mpr ⟨lw_r2, lw_r3⟩⟩
/-! ===== BEGIN words of one list among another's, by their places ===== -/
theorem goodIn_r {big : List Cond} (ws : List Cond) (ps : List Nat) (hp : ws = ps.filterMap (fun i => big[i]?)) (h : ws.all goodWord = true) : GoodIn big ws := by
  intro w hw
  have h1 := List.all_eq_true.mp h w hw
  rw [hp] at hw
  obtain ⟨i, -, hi⟩ := List.mem_filterMap.mp hw
  have hm : w ∈ big := by first | exact List.mem_of_getElem? hi | exact List.getElem?_mem hi
  exact ⟨hm, good_of_word h1⟩
theorem goodIn_app {big a b : List Cond} (ha : GoodIn big a) (hb : GoodIn big b) : GoodIn big (a ++ b) := fun w h => (List.mem_append.mp h).elim (ha w) (hb w)
theorem goodIn_ca {big a b : List Cond} {c : Cond} (ha : GoodIn big (c :: a)) (hb : GoodIn big b) : GoodIn big (c :: (a ++ b)) := fun w h => (List.mem_cons.mp h).elim (fun e => ha w (List.mem_cons.mpr (Or.inl e))) (fun h => (List.mem_append.mp h).elim (fun h => ha w (List.mem_cons.mpr (Or.inr h))) (hb w))
theorem goodIn_sub {big ws : List Cond} (hm : ∀ w ∈ ws, w ∈ big) (h : ws.all goodWord = true) : GoodIn big ws := fun w hw => ⟨hm w hw, good_of_word (List.all_eq_true.mp h w hw)⟩
/-! ===== END ===== -/

/-! ===== BEGIN printed: names, fields, word lists, decode rows ===== -/
def RX0 : String := "TypeBars$Acts"
def TX0 : u_T := fun k => match k with
  | 0 => ("TypeBars$Acts", "before", "[LTypeBars$Basket;", true)
  | 1 => ("TypeBars$Acts", "next", "I", false)
  | _ => ("TypeBars$Acts", "kept", "I", false)
def tyX0 : Nat → FieldType := fun k => match k with
  | 0 => .array (.object "TypeBars$Basket")
  | 1 => .int
  | _ => .int
abbrev wsX00 : List Cond := u_ws RX0 TX0 3
theorem nmX0 : ∀ a, a < 3 → ∀ b, b < 3 → a ≠ b → (TX0 a).2.1 ≠ (TX0 b).2.1 := by decide +kernel
theorem tyX0_ok : ∀ k, k < 3 → parseFieldDescriptor (TX0 k).2.2.1 = some (tyX0 k) := by decide +kernel
abbrev cX0_init : ByteArray := prog_2_method_1_code
def yX0_init : MethodName := ⟨RX0, "<init>", "()V"⟩
abbrev cX0_keep : ByteArray := prog_2_method_2_code
def yX0_keep : MethodName := ⟨RX0, "keep", "(LTypeBars$Basket;)V"⟩
abbrev cX0_takeBack : ByteArray := prog_2_method_3_code
def yX0_takeBack : MethodName := ⟨RX0, "takeBack", "(LTypeBars$Basket;)V"⟩
abbrev cX0_forget : ByteArray := prog_2_method_4_code
def yX0_forget : MethodName := ⟨RX0, "forget", "()V"⟩
def RX1 : String := "TypeBars$Asking"
def TX1 : u_T := fun k => match k with
  | 0 => ("TypeBars$Asking", "bodies", "[I", true)
  | _ => ("TypeBars$Asking", "left", "I", false)
def tyX1 : Nat → FieldType := fun k => match k with
  | 0 => .array .int
  | _ => .int
abbrev wsX10 : List Cond := u_ws RX1 TX1 2
theorem nmX1 : ∀ a, a < 2 → ∀ b, b < 2 → a ≠ b → (TX1 a).2.1 ≠ (TX1 b).2.1 := by decide +kernel
theorem tyX1_ok : ∀ k, k < 2 → parseFieldDescriptor (TX1 k).2.2.1 = some (tyX1 k) := by decide +kernel
abbrev cX1_init : ByteArray := prog_3_method_1_code
def yX1_init : MethodName := ⟨RX1, "<init>", "()V"⟩
abbrev cX1_sizeOf : ByteArray := prog_3_method_2_code
def yX1_sizeOf : MethodName := ⟨RX1, "sizeOf", "(LTypeBars$Basket;I)I"⟩
abbrev cX1_markOf : ByteArray := prog_3_method_3_code
def yX1_markOf : MethodName := ⟨RX1, "markOf", "(LTypeBars$Basket;I)I"⟩
abbrev cX1_give : ByteArray := prog_3_method_4_code
def yX1_give : MethodName := ⟨RX1, "give", "(ILTypeBars$Basket;II)I"⟩
abbrev cX1_leave : ByteArray := prog_3_method_5_code
def yX1_leave : MethodName := ⟨RX1, "leave", "(I)V"⟩
def RX2 : String := "TypeBars$Basket"
def TX2 : u_T := fun k => match k with
  | 0 => ("TypeBars$Basket", "sort", "[I", true)
  | 1 => ("TypeBars$Basket", "rise", "[I", true)
  | 2 => ("TypeBars$Basket", "top", "[I", true)
  | 3 => ("TypeBars$Basket", "place", "[I", true)
  | 4 => ("TypeBars$Basket", "at", "[I", true)
  | 5 => ("TypeBars$Basket", "time", "[I", true)
  | 6 => ("TypeBars$Basket", "height", "[I", true)
  | 7 => ("TypeBars$Basket", "sheet", "[I", true)
  | 8 => ("TypeBars$Basket", "bars", "I", false)
  | 9 => ("TypeBars$Basket", "moving", "I", false)
  | 10 => ("TypeBars$Basket", "hanging", "I", false)
  | 11 => ("TypeBars$Basket", "column", "I", false)
  | _ => ("TypeBars$Basket", "tick", "I", false)
def tyX2 : Nat → FieldType := fun k => match k with
  | 0 => .array .int
  | 1 => .array .int
  | 2 => .array .int
  | 3 => .array .int
  | 4 => .array .int
  | 5 => .array .int
  | 6 => .array .int
  | 7 => .array .int
  | 8 => .int
  | 9 => .int
  | 10 => .int
  | 11 => .int
  | _ => .int
abbrev wsX20 : List Cond := u_ws RX2 TX2 13
theorem nmX2 : ∀ a, a < 13 → ∀ b, b < 13 → a ≠ b → (TX2 a).2.1 ≠ (TX2 b).2.1 := by decide +kernel
theorem tyX2_ok : ∀ k, k < 13 → parseFieldDescriptor (TX2 k).2.2.1 = some (tyX2 k) := by decide +kernel
abbrev cX2_init : ByteArray := prog_4_method_1_code
def yX2_init : MethodName := ⟨RX2, "<init>", "()V"⟩
abbrev cX2_clear : ByteArray := prog_4_method_2_code
def yX2_clear : MethodName := ⟨RX2, "clear", "()V"⟩
abbrev cX2_addBar : ByteArray := prog_4_method_3_code
def yX2_addBar : MethodName := ⟨RX2, "addBar", "(II)V"⟩
abbrev cX2_become : ByteArray := prog_4_method_4_code
def yX2_become : MethodName := ⟨RX2, "become", "(LTypeBars$Basket;)V"⟩
abbrev cX2_has : ByteArray := prog_4_method_5_code
def yX2_has : MethodName := ⟨RX2, "has", "(I)Z"⟩
abbrev cX2_moves : ByteArray := prog_4_method_6_code
def yX2_moves : MethodName := ⟨RX2, "moves", "(I)Z"⟩
abbrev cX2_hangs : ByteArray := prog_4_method_7_code
def yX2_hangs : MethodName := ⟨RX2, "hangs", "(I)Z"⟩
abbrev cX2_rests : ByteArray := prog_4_method_8_code
def yX2_rests : MethodName := ⟨RX2, "rests", "(I)Z"⟩
abbrev cX2_shape : ByteArray := prog_4_method_9_code
def yX2_shape : MethodName := ⟨RX2, "shape", "(III)V"⟩
abbrev cX2_press : ByteArray := prog_4_method_10_code
def yX2_press : MethodName := ⟨RX2, "press", "(I)V"⟩
abbrev cX2_startAt : ByteArray := prog_4_method_11_code
def yX2_startAt : MethodName := ⟨RX2, "startAt", "(II)V"⟩
abbrev cX2_layDown : ByteArray := prog_4_method_12_code
def yX2_layDown : MethodName := ⟨RX2, "layDown", "(I)V"⟩
abbrev cX2_bringBack : ByteArray := prog_4_method_13_code
def yX2_bringBack : MethodName := ⟨RX2, "bringBack", "()V"⟩
abbrev cX2_exchange : ByteArray := prog_4_method_14_code
def yX2_exchange : MethodName := ⟨RX2, "exchange", "(II)V"⟩
abbrev cX2_pass : ByteArray := prog_4_method_15_code
def yX2_pass : MethodName := ⟨RX2, "pass", "()I"⟩
abbrev cX2_foresee : ByteArray := prog_4_method_16_code
def yX2_foresee : MethodName := ⟨RX2, "foresee", "(I)V"⟩
abbrev cX2_riseAndFall : ByteArray := prog_4_method_17_code
def yX2_riseAndFall : MethodName := ⟨RX2, "riseAndFall", "()V"⟩
abbrev cX2_heightByTime : ByteArray := prog_4_method_18_code
def yX2_heightByTime : MethodName := ⟨RX2, "heightByTime", "(I)I"⟩
abbrev cX2_meeting : ByteArray := prog_4_method_19_code
def yX2_meeting : MethodName := ⟨RX2, "meeting", "()I"⟩
abbrev cX2_print : ByteArray := prog_4_method_20_code
def yX2_print : MethodName := ⟨RX2, "print", "()I"⟩
abbrev cX2_strike : ByteArray := prog_4_method_21_code
def yX2_strike : MethodName := ⟨RX2, "strike", "(I)V"⟩
abbrev cX2_columnsPrinted : ByteArray := prog_4_method_22_code
def yX2_columnsPrinted : MethodName := ⟨RX2, "columnsPrinted", "()I"⟩
def RX3 : String := "TypeBars$Foretelling"
def TX3 : u_T := fun k => match k with
  | 0 => ("TypeBars$Foretelling", "ahead", "LTypeBars$Basket;", true)
  | 1 => ("TypeBars$Foretelling", "trial", "LTypeBars$Basket;", true)
  | 2 => ("TypeBars$Foretelling", "word", "[I", true)
  | 3 => ("TypeBars$Foretelling", "wordLength", "I", false)
  | _ => ("TypeBars$Foretelling", "bestPace", "I", false)
def tyX3 : Nat → FieldType := fun k => match k with
  | 0 => .object "TypeBars$Basket"
  | 1 => .object "TypeBars$Basket"
  | 2 => .array .int
  | 3 => .int
  | _ => .int
abbrev wsX30 : List Cond := u_ws RX3 TX3 5
theorem nmX3 : ∀ a, a < 5 → ∀ b, b < 5 → a ≠ b → (TX3 a).2.1 ≠ (TX3 b).2.1 := by decide +kernel
theorem tyX3_ok : ∀ k, k < 5 → parseFieldDescriptor (TX3 k).2.2.1 = some (tyX3 k) := by decide +kernel
abbrev cX3_init : ByteArray := prog_5_method_1_code
def yX3_init : MethodName := ⟨RX3, "<init>", "()V"⟩
abbrev cX3_ticksOn : ByteArray := prog_5_method_2_code
def yX3_ticksOn : MethodName := ⟨RX3, "ticksOn", "(LTypeBars$Basket;I)LTypeBars$Basket;"⟩
abbrev cX3_ticksToJam : ByteArray := prog_5_method_3_code
def yX3_ticksToJam : MethodName := ⟨RX3, "ticksToJam", "(LTypeBars$Basket;)I"⟩
abbrev cX3_leastWait : ByteArray := prog_5_method_4_code
def yX3_leastWait : MethodName := ⟨RX3, "leastWait", "(LTypeBars$Basket;I)I"⟩
abbrev cX3_staysClear : ByteArray := prog_5_method_5_code
def yX3_staysClear : MethodName := ⟨RX3, "staysClear", "(I)Z"⟩
abbrev cX3_hear : ByteArray := prog_5_method_6_code
def yX3_hear : MethodName := ⟨RX3, "hear", "(LTypeBars$Row;II)V"⟩
abbrev cX3_paceAsItIs : ByteArray := prog_5_method_7_code
def yX3_paceAsItIs : MethodName := ⟨RX3, "paceAsItIs", "(LTypeBars$Basket;)I"⟩
abbrev cX3_bestSwap : ByteArray := prog_5_method_8_code
def yX3_bestSwap : MethodName := ⟨RX3, "bestSwap", "(LTypeBars$Basket;)I"⟩
abbrev cX3_leastPace : ByteArray := prog_5_method_9_code
def yX3_leastPace : MethodName := ⟨RX3, "leastPace", "(I)I"⟩
abbrev cX3_goesAt : ByteArray := prog_5_method_10_code
def yX3_goesAt : MethodName := ⟨RX3, "goesAt", "(I)Z"⟩
abbrev cX3_fitting : ByteArray := prog_5_method_11_code
def yX3_fitting : MethodName := ⟨RX3, "fitting", "(LTypeBars$Basket;II)I"⟩
abbrev cX3_mostOf : ByteArray := prog_5_method_12_code
def yX3_mostOf : MethodName := ⟨RX3, "mostOf", "(II)I"⟩
abbrev cX3_suppose : ByteArray := prog_5_method_13_code
def yX3_suppose : MethodName := ⟨RX3, "suppose", "(III)V"⟩
abbrev cX3_risesAsHeard : ByteArray := prog_5_method_14_code
def yX3_risesAsHeard : MethodName := ⟨RX3, "risesAsHeard", "(I)Z"⟩
abbrev cX3_waysClear : ByteArray := prog_5_method_15_code
def yX3_waysClear : MethodName := ⟨RX3, "waysClear", "(LTypeBars$Basket;II)J"⟩
abbrev cX3_printedByDraws : ByteArray := prog_5_method_16_code
def yX3_printedByDraws : MethodName := ⟨RX3, "printedByDraws", "(LTypeBars$Basket;II)I"⟩
def RX4 : String := "TypeBars$Row"
def TX4 : u_T := fun k => match k with
  | 0 => ("TypeBars$Row", "items", "[I", true)
  | 1 => ("TypeBars$Row", "missing", "Z", false)
  | 2 => ("TypeBars$Row", "lane", "I", false)
  | _ => ("TypeBars$Row", "length", "I", false)
def tyX4 : Nat → FieldType := fun k => match k with
  | 0 => .array .int
  | 1 => .boolean
  | 2 => .int
  | _ => .int
abbrev wsX40 : List Cond := u_ws RX4 TX4 4
theorem nmX4 : ∀ a, a < 4 → ∀ b, b < 4 → a ≠ b → (TX4 a).2.1 ≠ (TX4 b).2.1 := by decide +kernel
theorem tyX4_ok : ∀ k, k < 4 → parseFieldDescriptor (TX4 k).2.2.1 = some (tyX4 k) := by decide +kernel
abbrev cX4_init : ByteArray := prog_6_method_1_code
def yX4_init : MethodName := ⟨RX4, "<init>", "()V"⟩
abbrev cX4_make : ByteArray := prog_6_method_2_code
def yX4_make : MethodName := ⟨RX4, "make", "(II)V"⟩
abbrev cX4_has : ByteArray := prog_6_method_3_code
def yX4_has : MethodName := ⟨RX4, "has", "(II)Z"⟩
abbrev cX4_put : ByteArray := prog_6_method_4_code
def yX4_put : MethodName := ⟨RX4, "put", "(II)I"⟩
def RX5 : String := "TypeBars$Tape"
def TX5 : u_T := fun k => match k with
  | 0 => ("TypeBars$Tape", "bytes", "[I", true)
  | 1 => ("TypeBars$Tape", "length", "I", false)
  | _ => ("TypeBars$Tape", "reading", "I", false)
def tyX5 : Nat → FieldType := fun k => match k with
  | 0 => .array .int
  | 1 => .int
  | _ => .int
abbrev wsX50 : List Cond := u_ws RX5 TX5 3
theorem nmX5 : ∀ a, a < 3 → ∀ b, b < 3 → a ≠ b → (TX5 a).2.1 ≠ (TX5 b).2.1 := by decide +kernel
theorem tyX5_ok : ∀ k, k < 3 → parseFieldDescriptor (TX5 k).2.2.1 = some (tyX5 k) := by decide +kernel
abbrev cX5_init : ByteArray := prog_7_method_1_code
def yX5_init : MethodName := ⟨RX5, "<init>", "()V"⟩
abbrev cX5_take : ByteArray := prog_7_method_2_code
def yX5_take : MethodName := ⟨RX5, "take", "(I)Z"⟩
abbrev cX5_readInto : ByteArray := prog_7_method_3_code
def yX5_readInto : MethodName := ⟨RX5, "readInto", "(LTypeBars$Basket;)I"⟩
abbrev cX5_readBar : ByteArray := prog_7_method_4_code
def yX5_readBar : MethodName := ⟨RX5, "readBar", "(LTypeBars$Basket;)I"⟩
abbrev cX5_byteAt : ByteArray := prog_7_method_5_code
def yX5_byteAt : MethodName := ⟨RX5, "byteAt", "(I)I"⟩
abbrev cX5_figuresHere : ByteArray := prog_7_method_6_code
def yX5_figuresHere : MethodName := ⟨RX5, "figuresHere", "()I"⟩
abbrev cX5_numberHere : ByteArray := prog_7_method_7_code
def yX5_numberHere : MethodName := ⟨RX5, "numberHere", "(I)I"⟩
abbrev cX5_sortOf : ByteArray := prog_7_method_8_code
def yX5_sortOf : MethodName := ⟨RX5, "sortOf", "(I)I"⟩
def RX6 : String := "TypeBars"
def TX6 : u_T := fun k => match k with
  | 0 => ("TypeBars", "rows", "[LTypeBars$Row;", true)
  | 1 => ("TypeBars", "tape", "LTypeBars$Tape;", true)
  | 2 => ("TypeBars", "now", "LTypeBars$Basket;", true)
  | 3 => ("TypeBars", "read", "LTypeBars$Basket;", true)
  | 4 => ("TypeBars", "acts", "LTypeBars$Acts;", true)
  | 5 => ("TypeBars", "foretelling", "LTypeBars$Foretelling;", true)
  | 6 => ("TypeBars", "images", "[LTypeBars$Basket;", true)
  | 7 => ("TypeBars", "asking", "LTypeBars$Asking;", true)
  | 8 => ("TypeBars", "latestFault", "I", false)
  | _ => ("TypeBars", "latestFinding", "I", false)
def tyX6 : Nat → FieldType := fun k => match k with
  | 0 => .array (.object "TypeBars$Row")
  | 1 => .object "TypeBars$Tape"
  | 2 => .object "TypeBars$Basket"
  | 3 => .object "TypeBars$Basket"
  | 4 => .object "TypeBars$Acts"
  | 5 => .object "TypeBars$Foretelling"
  | 6 => .array (.object "TypeBars$Basket")
  | 7 => .object "TypeBars$Asking"
  | 8 => .int
  | _ => .int
abbrev wsX60 : List Cond := u_ws RX6 TX6 10
theorem nmX6 : ∀ a, a < 10 → ∀ b, b < 10 → a ≠ b → (TX6 a).2.1 ≠ (TX6 b).2.1 := by decide +kernel
theorem tyX6_ok : ∀ k, k < 10 → parseFieldDescriptor (TX6 k).2.2.1 = some (tyX6 k) := by decide +kernel
abbrev cX6_init : ByteArray := prog_1_method_1_code
def yX6_init : MethodName := ⟨RX6, "<init>", "()V"⟩
abbrev cX6_row : ByteArray := prog_1_method_2_code
def yX6_row : MethodName := ⟨RX6, "row", "(III)I"⟩
abbrev cX6_set : ByteArray := prog_1_method_3_code
def yX6_set : MethodName := ⟨RX6, "set", "(III)I"⟩
abbrev cX6_copy : ByteArray := prog_1_method_4_code
def yX6_copy : MethodName := ⟨RX6, "copy", "(IIIII)I"⟩
abbrev cX6_drop : ByteArray := prog_1_method_5_code
def yX6_drop : MethodName := ⟨RX6, "drop", "(I)I"⟩
abbrev cX6_feed : ByteArray := prog_1_method_6_code
def yX6_feed : MethodName := ⟨RX6, "feed", "(I)I"⟩
abbrev cX6_basket : ByteArray := prog_1_method_7_code
def yX6_basket : MethodName := ⟨RX6, "basket", "()I"⟩
abbrev cX6_fault : ByteArray := prog_1_method_8_code
def yX6_fault : MethodName := ⟨RX6, "fault", "()I"⟩
abbrev cX6_ticks : ByteArray := prog_1_method_9_code
def yX6_ticks : MethodName := ⟨RX6, "ticks", "(I)I"⟩
abbrev cX6_key : ByteArray := prog_1_method_10_code
def yX6_key : MethodName := ⟨RX6, "key", "(I)I"⟩
abbrev cX6_free : ByteArray := prog_1_method_11_code
def yX6_free : MethodName := ⟨RX6, "free", "()I"⟩
abbrev cX6_back : ByteArray := prog_1_method_12_code
def yX6_back : MethodName := ⟨RX6, "back", "()I"⟩
abbrev cX6_swap : ByteArray := prog_1_method_13_code
def yX6_swap : MethodName := ⟨RX6, "swap", "(II)I"⟩
abbrev cX6_undo : ByteArray := prog_1_method_14_code
def yX6_undo : MethodName := ⟨RX6, "undo", "()I"⟩
abbrev cX6_bar : ByteArray := prog_1_method_15_code
def yX6_bar : MethodName := ⟨RX6, "bar", "(II)I"⟩
abbrev cX6_paper : ByteArray := prog_1_method_16_code
def yX6_paper : MethodName := ⟨RX6, "paper", "(I)I"⟩
abbrev cX6_height : ByteArray := prog_1_method_17_code
def yX6_height : MethodName := ⟨RX6, "height", "(II)I"⟩
abbrev cX6_later : ByteArray := prog_1_method_18_code
def yX6_later : MethodName := ⟨RX6, "later", "(II)I"⟩
abbrev cX6_jam : ByteArray := prog_1_method_19_code
def yX6_jam : MethodName := ⟨RX6, "jam", "(I)I"⟩
abbrev cX6_waits : ByteArray := prog_1_method_20_code
def yX6_waits : MethodName := ⟨RX6, "waits", "(I)I"⟩
abbrev cX6_pace : ByteArray := prog_1_method_21_code
def yX6_pace : MethodName := ⟨RX6, "pace", "(III)I"⟩
abbrev cX6_better : ByteArray := prog_1_method_22_code
def yX6_better : MethodName := ⟨RX6, "better", "(IIII)I"⟩
abbrev cX6_fits : ByteArray := prog_1_method_23_code
def yX6_fits : MethodName := ⟨RX6, "fits", "(IIIII)I"⟩
abbrev cX6_chance : ByteArray := prog_1_method_24_code
def yX6_chance : MethodName := ⟨RX6, "chance", "(III)I"⟩
abbrev cX6_drawn : ByteArray := prog_1_method_25_code
def yX6_drawn : MethodName := ⟨RX6, "drawn", "(III)I"⟩
abbrev cX6_image : ByteArray := prog_1_method_26_code
def yX6_image : MethodName := ⟨RX6, "image", "(I)I"⟩
abbrev cX6_restore : ByteArray := prog_1_method_27_code
def yX6_restore : MethodName := ⟨RX6, "restore", "(I)I"⟩
abbrev cX6_kind : ByteArray := prog_1_method_28_code
def yX6_kind : MethodName := ⟨RX6, "kind", "(I)I"⟩
abbrev cX6_as : ByteArray := prog_1_method_29_code
def yX6_as : MethodName := ⟨RX6, "as", "(II)I"⟩
abbrev cX6_ask : ByteArray := prog_1_method_30_code
def yX6_ask : MethodName := ⟨RX6, "ask", "(II)I"⟩
abbrev cX6_trace : ByteArray := prog_1_method_31_code
def yX6_trace : MethodName := ⟨RX6, "trace", "(I)I"⟩
abbrev cX6_count : ByteArray := prog_1_method_32_code
def yX6_count : MethodName := ⟨RX6, "count", "(I)I"⟩
abbrev cX6_status : ByteArray := prog_1_method_33_code
def yX6_status : MethodName := ⟨RX6, "status", "()I"⟩
abbrev cX6_found : ByteArray := prog_1_method_34_code
def yX6_found : MethodName := ⟨RX6, "found", "(I)I"⟩
abbrev cX6_fine : ByteArray := prog_1_method_35_code
def yX6_fine : MethodName := ⟨RX6, "fine", "(I)I"⟩
abbrev cX6_findingOf : ByteArray := prog_1_method_36_code
def yX6_findingOf : MethodName := ⟨RX6, "findingOf", "(III)I"⟩
abbrev cX6_countRows : ByteArray := prog_1_method_37_code
def yX6_countRows : MethodName := ⟨RX6, "countRows", "()I"⟩
abbrev cX6_isRow : ByteArray := prog_1_method_38_code
def yX6_isRow : MethodName := ⟨RX6, "isRow", "(I)Z"⟩
abbrev cX6_within : ByteArray := prog_1_method_39_code
def yX6_within : MethodName := ⟨RX6, "within", "(III)Z"⟩
abbrev cX6_isA : ByteArray := prog_1_method_40_code
def yX6_isA : MethodName := ⟨RX6, "isA", "(II)Z"⟩
abbrev cX6_power : ByteArray := prog_1_method_41_code
def yX6_power : MethodName := ⟨RX6, "power", "(II)J"⟩
abbrev cX6_commonDivisor : ByteArray := prog_1_method_42_code
def yX6_commonDivisor : MethodName := ⟨RX6, "commonDivisor", "(JJ)J"⟩
def RX7 : String := "TypeBarsModel"
def TX7 : u_T := fun k => match k with
  | 0 => ("TypeBarsModel", "sizes", "[I", true)
  | 1 => ("TypeBarsModel", "lanes", "[I", true)
  | 2 => ("TypeBarsModel", "items", "[I", true)
  | 3 => ("TypeBarsModel", "moved", "[I", true)
  | 4 => ("TypeBarsModel", "status", "I", false)
  | 5 => ("TypeBarsModel", "tape", "[I", true)
  | 6 => ("TypeBarsModel", "typed", "I", false)
  | 7 => ("TypeBarsModel", "fault", "I", false)
  | 8 => ("TypeBarsModel", "s", "[I", true)
  | 9 => ("TypeBarsModel", "draft", "[I", true)
  | 10 => ("TypeBarsModel", "images", "[I", true)
  | 11 => ("TypeBarsModel", "kept", "[Z", true)
  | 12 => ("TypeBarsModel", "past", "[I", true)
  | 13 => ("TypeBarsModel", "known", "I", false)
  | 14 => ("TypeBarsModel", "then", "[I", true)
  | 15 => ("TypeBarsModel", "traces", "[I", true)
  | 16 => ("TypeBarsModel", "traced", "I", false)
  | 17 => ("TypeBarsModel", "at", "I", false)
  | _ => ("TypeBarsModel", "wrong", "I", false)
def tyX7 : Nat → FieldType := fun k => match k with
  | 0 => .array .int
  | 1 => .array .int
  | 2 => .array .int
  | 3 => .array .int
  | 4 => .int
  | 5 => .array .int
  | 6 => .int
  | 7 => .int
  | 8 => .array .int
  | 9 => .array .int
  | 10 => .array .int
  | 11 => .array .boolean
  | 12 => .array .int
  | 13 => .int
  | 14 => .array .int
  | 15 => .array .int
  | 16 => .int
  | 17 => .int
  | _ => .int
abbrev wsX70 : List Cond := u_ws RX7 TX7 19
theorem nmX7 : ∀ a, a < 19 → ∀ b, b < 19 → a ≠ b → (TX7 a).2.1 ≠ (TX7 b).2.1 := by decide +kernel
theorem tyX7_ok : ∀ k, k < 19 → parseFieldDescriptor (TX7 k).2.2.1 = some (tyX7 k) := by decide +kernel
abbrev cX7_init : ByteArray := prog_9_method_1_code
def yX7_init : MethodName := ⟨RX7, "<init>", "()V"⟩
abbrev cX7_in : ByteArray := prog_9_method_3_code
def yX7_in : MethodName := ⟨RX7, "in", "(III)Z"⟩
abbrev cX7_isRow : ByteArray := prog_9_method_4_code
def yX7_isRow : MethodName := ⟨RX7, "isRow", "(I)Z"⟩
abbrev cX7_ends : ByteArray := prog_9_method_5_code
def yX7_ends : MethodName := ⟨RX7, "ends", "(I)I"⟩
abbrev cX7_cut : ByteArray := prog_9_method_6_code
def yX7_cut : MethodName := ⟨RX7, "cut", "(II)I"⟩
abbrev cX7_row : ByteArray := prog_9_method_7_code
def yX7_row : MethodName := ⟨RX7, "row", "(III)I"⟩
abbrev cX7_lies : ByteArray := prog_9_method_8_code
def yX7_lies : MethodName := ⟨RX7, "lies", "(III)Z"⟩
abbrev cX7_set : ByteArray := prog_9_method_9_code
def yX7_set : MethodName := ⟨RX7, "set", "(III)I"⟩
abbrev cX7_copy : ByteArray := prog_9_method_10_code
def yX7_copy : MethodName := ⟨RX7, "copy", "(IIIII)I"⟩
abbrev cX7_drop : ByteArray := prog_9_method_11_code
def yX7_drop : MethodName := ⟨RX7, "drop", "(I)I"⟩
abbrev cX7_feed : ByteArray := prog_9_method_12_code
def yX7_feed : MethodName := ⟨RX7, "feed", "(I)I"⟩
abbrev cX7_letterAt : ByteArray := prog_9_method_13_code
def yX7_letterAt : MethodName := ⟨RX7, "letterAt", "(I)I"⟩
abbrev cX7_isDigit : ByteArray := prog_9_method_14_code
def yX7_isDigit : MethodName := ⟨RX7, "isDigit", "(I)Z"⟩
abbrev cX7_fails : ByteArray := prog_9_method_15_code
def yX7_fails : MethodName := ⟨RX7, "fails", "(I)Z"⟩
abbrev cX7_reads : ByteArray := prog_9_method_16_code
def yX7_reads : MethodName := ⟨RX7, "reads", "(I)Z"⟩
abbrev cX7_kindBy : ByteArray := prog_9_method_17_code
def yX7_kindBy : MethodName := ⟨RX7, "kindBy", "(I)I"⟩
abbrev cX7_readsAll : ByteArray := prog_9_method_18_code
def yX7_readsAll : MethodName := ⟨RX7, "readsAll", "()Z"⟩
abbrev cX7_basket : ByteArray := prog_9_method_19_code
def yX7_basket : MethodName := ⟨RX7, "basket", "()I"⟩
abbrev cX7_fault : ByteArray := prog_9_method_20_code
def yX7_fault : MethodName := ⟨RX7, "fault", "()I"⟩
abbrev cX7_isBasket : ByteArray := prog_9_method_21_code
def yX7_isBasket : MethodName := ⟨RX7, "isBasket", "()Z"⟩
abbrev cX7_isBar : ByteArray := prog_9_method_22_code
def yX7_isBar : MethodName := ⟨RX7, "isBar", "(I)Z"⟩
abbrev cX7_keeps : ByteArray := prog_9_method_23_code
def yX7_keeps : MethodName := ⟨RX7, "keeps", "()V"⟩
abbrev cX7_top : ByteArray := prog_9_method_24_code
def yX7_top : MethodName := ⟨RX7, "top", "([II)I"⟩
abbrev cX7_high : ByteArray := prog_9_method_25_code
def yX7_high : MethodName := ⟨RX7, "high", "([II)I"⟩
abbrev cX7_meets : ByteArray := prog_9_method_26_code
def yX7_meets : MethodName := ⟨RX7, "meets", "([III)Z"⟩
abbrev cX7_prints : ByteArray := prog_9_method_27_code
def yX7_prints : MethodName := ⟨RX7, "prints", "([II)V"⟩
abbrev cX7_tick : ByteArray := prog_9_method_28_code
def yX7_tick : MethodName := ⟨RX7, "tick", "([I)I"⟩
abbrev cX7_has : ByteArray := prog_9_method_29_code
def yX7_has : MethodName := ⟨RX7, "has", "(II)Z"⟩
abbrev cX7_hanging : ByteArray := prog_9_method_30_code
def yX7_hanging : MethodName := ⟨RX7, "hanging", "([I)I"⟩
abbrev cX7_moving : ByteArray := prog_9_method_31_code
def yX7_moving : MethodName := ⟨RX7, "moving", "([I)I"⟩
abbrev cX7_rests : ByteArray := prog_9_method_32_code
def yX7_rests : MethodName := ⟨RX7, "rests", "([II)Z"⟩
abbrev cX7_frees : ByteArray := prog_9_method_33_code
def yX7_frees : MethodName := ⟨RX7, "frees", "([I)V"⟩
abbrev cX7_exchanges : ByteArray := prog_9_method_34_code
def yX7_exchanges : MethodName := ⟨RX7, "exchanges", "([III)V"⟩
abbrev cX7_ticks : ByteArray := prog_9_method_35_code
def yX7_ticks : MethodName := ⟨RX7, "ticks", "(I)I"⟩
abbrev cX7_key : ByteArray := prog_9_method_36_code
def yX7_key : MethodName := ⟨RX7, "key", "(I)I"⟩
abbrev cX7_ones : ByteArray := prog_9_method_37_code
def yX7_ones : MethodName := ⟨RX7, "ones", "(I)I"⟩
abbrev cX7_free : ByteArray := prog_9_method_38_code
def yX7_free : MethodName := ⟨RX7, "free", "()I"⟩
abbrev cX7_back : ByteArray := prog_9_method_39_code
def yX7_back : MethodName := ⟨RX7, "back", "()I"⟩
abbrev cX7_swap : ByteArray := prog_9_method_40_code
def yX7_swap : MethodName := ⟨RX7, "swap", "(II)I"⟩
abbrev cX7_undo : ByteArray := prog_9_method_41_code
def yX7_undo : MethodName := ⟨RX7, "undo", "()I"⟩
abbrev cX7_bar : ByteArray := prog_9_method_42_code
def yX7_bar : MethodName := ⟨RX7, "bar", "(II)I"⟩
abbrev cX7_paper : ByteArray := prog_9_method_43_code
def yX7_paper : MethodName := ⟨RX7, "paper", "(I)I"⟩
abbrev cX7_copies : ByteArray := prog_9_method_44_code
def yX7_copies : MethodName := ⟨RX7, "copies", "([I[I)V"⟩
abbrev cX7_goesOn : ByteArray := prog_9_method_45_code
def yX7_goesOn : MethodName := ⟨RX7, "goesOn", "(I)V"⟩
abbrev cX7_height : ByteArray := prog_9_method_46_code
def yX7_height : MethodName := ⟨RX7, "height", "(II)I"⟩
abbrev cX7_later : ByteArray := prog_9_method_47_code
def yX7_later : MethodName := ⟨RX7, "later", "(II)I"⟩
abbrev cX7_jam : ByteArray := prog_9_method_48_code
def yX7_jam : MethodName := ⟨RX7, "jam", "(I)I"⟩
abbrev cX7_clear : ByteArray := prog_9_method_49_code
def yX7_clear : MethodName := ⟨RX7, "clear", "(II)Z"⟩
abbrev cX7_waits : ByteArray := prog_9_method_50_code
def yX7_waits : MethodName := ⟨RX7, "waits", "(I)I"⟩
abbrev cX7_paceBy : ByteArray := prog_9_method_51_code
def yX7_paceBy : MethodName := ⟨RX7, "paceBy", "(IIII)I"⟩
abbrev cX7_pace : ByteArray := prog_9_method_52_code
def yX7_pace : MethodName := ⟨RX7, "pace", "(III)I"⟩
abbrev cX7_better : ByteArray := prog_9_method_53_code
def yX7_better : MethodName := ⟨RX7, "better", "(IIII)I"⟩
abbrev cX7_isSo : ByteArray := prog_9_method_54_code
def yX7_isSo : MethodName := ⟨RX7, "isSo", "(III)Z"⟩
abbrev cX7_becomes : ByteArray := prog_9_method_55_code
def yX7_becomes : MethodName := ⟨RX7, "becomes", "(III)V"⟩
abbrev cX7_fits : ByteArray := prog_9_method_56_code
def yX7_fits : MethodName := ⟨RX7, "fits", "(IIIII)I"⟩
abbrev cX7_chance : ByteArray := prog_9_method_57_code
def yX7_chance : MethodName := ⟨RX7, "chance", "(III)I"⟩
abbrev cX7_drawn : ByteArray := prog_9_method_58_code
def yX7_drawn : MethodName := ⟨RX7, "drawn", "(III)I"⟩
abbrev cX7_image : ByteArray := prog_9_method_59_code
def yX7_image : MethodName := ⟨RX7, "image", "(I)I"⟩
abbrev cX7_restore : ByteArray := prog_9_method_60_code
def yX7_restore : MethodName := ⟨RX7, "restore", "(I)I"⟩
abbrev cX7_kind : ByteArray := prog_9_method_61_code
def yX7_kind : MethodName := ⟨RX7, "kind", "(I)I"⟩
abbrev cX7_as : ByteArray := prog_9_method_62_code
def yX7_as : MethodName := ⟨RX7, "as", "(II)I"⟩
abbrev cX7_begins : ByteArray := prog_9_method_63_code
def yX7_begins : MethodName := ⟨RX7, "begins", "(I)V"⟩
abbrev cX7_size : ByteArray := prog_9_method_64_code
def yX7_size : MethodName := ⟨RX7, "size", "(I)I"⟩
abbrev cX7_plain : ByteArray := prog_9_method_65_code
def yX7_plain : MethodName := ⟨RX7, "plain", "(I)I"⟩
abbrev cX7_ask : ByteArray := prog_9_method_66_code
def yX7_ask : MethodName := ⟨RX7, "ask", "(II)I"⟩
abbrev cX7_trace : ByteArray := prog_9_method_67_code
def yX7_trace : MethodName := ⟨RX7, "trace", "(I)I"⟩
abbrev cX7_count : ByteArray := prog_9_method_68_code
def yX7_count : MethodName := ⟨RX7, "count", "(I)I"⟩
abbrev cX7_status : ByteArray := prog_9_method_69_code
def yX7_status : MethodName := ⟨RX7, "status", "()I"⟩
def RJ6 : String := "java/lang/Integer"
def TJ6 : u_T := fun k => match k with
  | _ => ("", "", "", false)
def tyJ6 : Nat → FieldType := fun k => match k with
  | _ => .int
abbrev wsJ60 : List Cond := u_ws RJ6 TJ6 0
theorem nmJ6 : ∀ a, a < 0 → ∀ b, b < 0 → a ≠ b → (TJ6 a).2.1 ≠ (TJ6 b).2.1 := by decide +kernel
theorem tyJ6_ok : ∀ k, k < 0 → parseFieldDescriptor (TJ6 k).2.2.1 = some (tyJ6 k) := by decide +kernel
abbrev cJ6_bitCount_0f7a4 : ByteArray := prog_10_method_49_code
def yJ6_bitCount_0f7a4 : MethodName := ⟨RJ6, "bitCount", "(I)I"⟩
def RJ9 : String := "java/lang/Math"
def TJ9 : u_T := fun k => match k with
  | _ => ("", "", "", false)
def tyJ9 : Nat → FieldType := fun k => match k with
  | _ => .int
abbrev wsJ90 : List Cond := u_ws RJ9 TJ9 0
theorem nmJ9 : ∀ a, a < 0 → ∀ b, b < 0 → a ≠ b → (TJ9 a).2.1 ≠ (TJ9 b).2.1 := by decide +kernel
theorem tyJ9_ok : ∀ k, k < 0 → parseFieldDescriptor (TJ9 k).2.2.1 = some (tyJ9 k) := by decide +kernel
abbrev cJ9_max_7cf53 : ByteArray := prog_11_method_65_code
def yJ9_max_7cf53 : MethodName := ⟨RJ9, "max", "(II)I"⟩
abbrev cJ9_min_7cf53 : ByteArray := prog_11_method_69_code
def yJ9_min_7cf53 : MethodName := ⟨RJ9, "min", "(II)I"⟩
def RJ10 : String := "java/lang/System"
def TJ10 : u_T := fun k => match k with
  | _ => ("", "", "", false)
def tyJ10 : Nat → FieldType := fun k => match k with
  | _ => .int
abbrev wsJ100 : List Cond := u_ws RJ10 TJ10 0
theorem nmJ10 : ∀ a, a < 0 → ∀ b, b < 0 → a ≠ b → (TJ10 a).2.1 ≠ (TJ10 b).2.1 := by decide +kernel
theorem tyJ10_ok : ∀ k, k < 0 → parseFieldDescriptor (TJ10 k).2.2.1 = some (tyJ10 k) := by decide +kernel
def RJ7 : String := "java/util/Arrays"
def TJ7 : u_T := fun k => match k with
  | _ => ("", "", "", false)
def tyJ7 : Nat → FieldType := fun k => match k with
  | _ => .int
abbrev wsJ70 : List Cond := u_ws RJ7 TJ7 0
theorem nmJ7 : ∀ a, a < 0 → ∀ b, b < 0 → a ≠ b → (TJ7 a).2.1 ≠ (TJ7 b).2.1 := by decide +kernel
theorem tyJ7_ok : ∀ k, k < 0 → parseFieldDescriptor (TJ7 k).2.2.1 = some (tyJ7 k) := by decide +kernel
abbrev cJ7_fill_53178 : ByteArray := prog_13_method_103_code
def yJ7_fill_53178 : MethodName := ⟨RJ7, "fill", "([II)V"⟩
def RL : String := "TypeBarsLaw"
abbrev cL_law : ByteArray := code
def yL_law : MethodName := ⟨RL, "law", "([I)Z"⟩
abbrev vwCl : List vw_C := [(RX0, TX0, 3), (RX1, TX1, 2), (RX2, TX2, 13), (RX3, TX3, 5), (RX4, TX4, 4), (RX5, TX5, 3), (RX6, TX6, 10), (RX7, TX7, 19)]
end
section
/-! the tables' words that stay: one list for every method -/
def tb_ALL : List Cond := lw_tbl.filter goodWord
theorem tb_all {w : Cond} (h : w ∈ tb_ALL) : w ∈ lw_tbl ∧ goodWord w = true := List.mem_filter.mp h
theorem tb_k0 {w : Cond} (h : w ∈ tables_1) (hg : goodWord w = true) : w ∈ tb_ALL := List.mem_filter.mpr ⟨List.mem_append_right _ h, hg⟩
theorem tb_k1 {w : Cond} (i : Nat) (h : tables_1_1[i]? = some w) (hg : goodWord w = true) : w ∈ tb_ALL := tb_k0 (List.mem_append_left _ (List.mem_of_getElem? h)) hg
theorem tb_k2 {w : Cond} (i : Nat) (h : tables_1_2[i]? = some w) (hg : goodWord w = true) : w ∈ tb_ALL := tb_k0 (List.mem_append_right _ (List.mem_append_left _ (List.mem_of_getElem? h))) hg
theorem tb_k3 {w : Cond} (i : Nat) (h : tables_1_3[i]? = some w) (hg : goodWord w = true) : w ∈ tb_ALL := tb_k0 (List.mem_append_right _ (List.mem_append_right _ (List.mem_append_left _ (List.mem_of_getElem? h)))) hg
theorem tb_k4 {w : Cond} (i : Nat) (h : tables_1_4[i]? = some w) (hg : goodWord w = true) : w ∈ tb_ALL := tb_k0 (List.mem_append_right _ (List.mem_append_right _ (List.mem_append_right _ (List.mem_append_left _ (List.mem_of_getElem? h))))) hg
theorem tb_k5 {w : Cond} (i : Nat) (h : tables_1_5[i]? = some w) (hg : goodWord w = true) : w ∈ tb_ALL := tb_k0 (List.mem_append_right _ (List.mem_append_right _ (List.mem_append_right _ (List.mem_append_right _ (List.mem_of_getElem? h))))) hg
theorem tb_kp {q : MethodName × Nat} (h : q ∈ lw_privs) : Cond.selects q.1.cls q.1 q.1 ∈ tb_ALL := List.mem_filter.mpr ⟨List.mem_append_left _ (List.mem_map.mpr ⟨q, h, rfl⟩), rfl⟩
/-- facts of a method that is called on an object -/
def tb_MV (z : MethodName) (zc : ByteArray) (zL : Nat) (zr : Option FieldType) (ci n : Nat) : Prop :=
  Cond.instanceMethod z ∈ tb_ALL ∧ Cond.selects z.cls z z ∈ tb_ALL ∧ Cond.initialized z.cls ∈ tb_ALL ∧ Cond.code z zc zL zr ∈ tb_ALL ∧ (z.cls = z.cls ∧ z.cls ≠ "java/lang/invoke/MethodHandle" ∧ z.cls ≠ "java/lang/invoke/VarHandle" ∧ (parseMethodDescriptor z.desc).map (fun d => d.parameters.length) = some n) ∧ ∃ T N, vwCl[ci]? = some (z.cls, T, N)
def tb_MS (z : MethodName) (zc : ByteArray) (zL : Nat) (zr : Option FieldType) (n : Nat) : Prop :=
  Cond.static z ∈ tb_ALL ∧ Cond.initialized z.cls ∈ tb_ALL ∧ Cond.code z zc zL zr ∈ tb_ALL ∧ (z.cls ≠ "java/lang/invoke/MethodHandle" ∧ z.cls ≠ "java/lang/invoke/VarHandle" ∧ (parseMethodDescriptor z.desc).map (fun d => d.parameters.length) = some n)
theorem ki_L : Cond.initialized RL ∈ tb_ALL := tb_k1 0 (by decide +kernel) rfl
theorem ki_X6 : Cond.initialized RX6 ∈ tb_ALL := tb_k1 1 (by decide +kernel) rfl
theorem ki_X5 : Cond.initialized RX5 ∈ tb_ALL := tb_k1 2 (by decide +kernel) rfl
theorem ki_X2 : Cond.initialized RX2 ∈ tb_ALL := tb_k1 3 (by decide +kernel) rfl
theorem ki_X0 : Cond.initialized RX0 ∈ tb_ALL := tb_k1 4 (by decide +kernel) rfl
theorem ki_X3 : Cond.initialized RX3 ∈ tb_ALL := tb_k1 5 (by decide +kernel) rfl
theorem ki_X1 : Cond.initialized RX1 ∈ tb_ALL := tb_k1 6 (by decide +kernel) rfl
theorem ki_X4 : Cond.initialized RX4 ∈ tb_ALL := tb_k1 7 (by decide +kernel) rfl
theorem ki_X7 : Cond.initialized RX7 ∈ tb_ALL := tb_k1 8 (by decide +kernel) rfl
theorem ki_J7 : Cond.initialized RJ7 ∈ tb_ALL := tb_k1 9 (by decide +kernel) rfl
theorem ki_J10 : Cond.initialized RJ10 ∈ tb_ALL := tb_k1 10 (by decide +kernel) rfl
theorem ki_J9 : Cond.initialized RJ9 ∈ tb_ALL := tb_k1 11 (by decide +kernel) rfl
theorem ki_J6 : Cond.initialized RJ6 ∈ tb_ALL := tb_k1 12 (by decide +kernel) rfl
theorem km_L_9 : Cond.methodLink RL 9 yX6_init ∈ tb_ALL := tb_k1 15 (by decide +kernel) rfl
theorem km_X6_1 : Cond.methodLink RX6 1 objectInit ∈ tb_ALL := tb_k1 18 (by decide +kernel) rfl
theorem km_X5_3 : Cond.methodLink RX5 3 objectInit ∈ tb_ALL := tb_k1 28 (by decide +kernel) rfl
theorem kf_X5_9 : Cond.fieldLink RX5 9 "TypeBars$Tape" "bytes" "[I" ∈ tb_ALL := tb_k1 29 (by decide +kernel) rfl
theorem kf_X5_15 : Cond.fieldLink RX5 15 "TypeBars$Tape" "length" "I" ∈ tb_ALL := tb_k1 30 (by decide +kernel) rfl
theorem kf_X6_114 : Cond.fieldLink RX6 114 "TypeBars$Tape" "length" "I" ∈ tb_ALL := tb_k1 31 (by decide +kernel) rfl
theorem kf_X5_24 : Cond.fieldLink RX5 24 "TypeBars$Tape" "reading" "I" ∈ tb_ALL := tb_k1 32 (by decide +kernel) rfl
theorem kf_X6_124 : Cond.fieldLink RX6 124 "TypeBars$Tape" "reading" "I" ∈ tb_ALL := tb_k1 33 (by decide +kernel) rfl
theorem km_X2_3 : Cond.methodLink RX2 3 objectInit ∈ tb_ALL := tb_k1 47 (by decide +kernel) rfl
theorem kf_X2_9 : Cond.fieldLink RX2 9 "TypeBars$Basket" "sort" "[I" ∈ tb_ALL := tb_k1 48 (by decide +kernel) rfl
theorem kf_X1_20 : Cond.fieldLink RX1 20 "TypeBars$Basket" "sort" "[I" ∈ tb_ALL := tb_k1 49 (by decide +kernel) rfl
theorem kf_X3_98 : Cond.fieldLink RX3 98 "TypeBars$Basket" "sort" "[I" ∈ tb_ALL := tb_k1 50 (by decide +kernel) rfl
theorem kf_X6_258 : Cond.fieldLink RX6 258 "TypeBars$Basket" "sort" "[I" ∈ tb_ALL := tb_k1 51 (by decide +kernel) rfl
theorem kf_X2_15 : Cond.fieldLink RX2 15 "TypeBars$Basket" "rise" "[I" ∈ tb_ALL := tb_k1 52 (by decide +kernel) rfl
theorem kf_X1_36 : Cond.fieldLink RX1 36 "TypeBars$Basket" "rise" "[I" ∈ tb_ALL := tb_k1 53 (by decide +kernel) rfl
theorem kf_X3_92 : Cond.fieldLink RX3 92 "TypeBars$Basket" "rise" "[I" ∈ tb_ALL := tb_k1 54 (by decide +kernel) rfl
theorem kf_X6_189 : Cond.fieldLink RX6 189 "TypeBars$Basket" "rise" "[I" ∈ tb_ALL := tb_k1 55 (by decide +kernel) rfl
theorem kf_X2_18 : Cond.fieldLink RX2 18 "TypeBars$Basket" "top" "[I" ∈ tb_ALL := tb_k1 56 (by decide +kernel) rfl
theorem kf_X6_205 : Cond.fieldLink RX6 205 "TypeBars$Basket" "top" "[I" ∈ tb_ALL := tb_k1 57 (by decide +kernel) rfl
theorem kf_X2_21 : Cond.fieldLink RX2 21 "TypeBars$Basket" "place" "[I" ∈ tb_ALL := tb_k1 58 (by decide +kernel) rfl
theorem kf_X6_180 : Cond.fieldLink RX6 180 "TypeBars$Basket" "place" "[I" ∈ tb_ALL := tb_k1 59 (by decide +kernel) rfl
theorem kf_X2_24 : Cond.fieldLink RX2 24 "TypeBars$Basket" "at" "[I" ∈ tb_ALL := tb_k1 60 (by decide +kernel) rfl
theorem kf_X3_104 : Cond.fieldLink RX3 104 "TypeBars$Basket" "at" "[I" ∈ tb_ALL := tb_k1 61 (by decide +kernel) rfl
theorem kf_X2_27 : Cond.fieldLink RX2 27 "TypeBars$Basket" "time" "[I" ∈ tb_ALL := tb_k1 62 (by decide +kernel) rfl
theorem kf_X6_198 : Cond.fieldLink RX6 198 "TypeBars$Basket" "time" "[I" ∈ tb_ALL := tb_k1 63 (by decide +kernel) rfl
theorem kf_X2_30 : Cond.fieldLink RX2 30 "TypeBars$Basket" "height" "[I" ∈ tb_ALL := tb_k1 64 (by decide +kernel) rfl
theorem kf_X1_39 : Cond.fieldLink RX1 39 "TypeBars$Basket" "height" "[I" ∈ tb_ALL := tb_k1 65 (by decide +kernel) rfl
theorem kf_X3_107 : Cond.fieldLink RX3 107 "TypeBars$Basket" "height" "[I" ∈ tb_ALL := tb_k1 66 (by decide +kernel) rfl
theorem kf_X6_192 : Cond.fieldLink RX6 192 "TypeBars$Basket" "height" "[I" ∈ tb_ALL := tb_k1 67 (by decide +kernel) rfl
theorem kf_X2_33 : Cond.fieldLink RX2 33 "TypeBars$Basket" "sheet" "[I" ∈ tb_ALL := tb_k1 68 (by decide +kernel) rfl
theorem kf_X6_208 : Cond.fieldLink RX6 208 "TypeBars$Basket" "sheet" "[I" ∈ tb_ALL := tb_k1 69 (by decide +kernel) rfl
theorem kf_X2_36 : Cond.fieldLink RX2 36 "TypeBars$Basket" "bars" "I" ∈ tb_ALL := tb_k1 70 (by decide +kernel) rfl
theorem kf_X5_38 : Cond.fieldLink RX5 38 "TypeBars$Basket" "bars" "I" ∈ tb_ALL := tb_k1 71 (by decide +kernel) rfl
theorem kf_X6_134 : Cond.fieldLink RX6 134 "TypeBars$Basket" "bars" "I" ∈ tb_ALL := tb_k1 72 (by decide +kernel) rfl
theorem kf_X3_71 : Cond.fieldLink RX3 71 "TypeBars$Basket" "bars" "I" ∈ tb_ALL := tb_k1 73 (by decide +kernel) rfl
theorem kf_X2_40 : Cond.fieldLink RX2 40 "TypeBars$Basket" "moving" "I" ∈ tb_ALL := tb_k1 74 (by decide +kernel) rfl
theorem kf_X6_160 : Cond.fieldLink RX6 160 "TypeBars$Basket" "moving" "I" ∈ tb_ALL := tb_k1 75 (by decide +kernel) rfl
theorem kf_X3_110 : Cond.fieldLink RX3 110 "TypeBars$Basket" "moving" "I" ∈ tb_ALL := tb_k1 76 (by decide +kernel) rfl
theorem kf_X2_43 : Cond.fieldLink RX2 43 "TypeBars$Basket" "hanging" "I" ∈ tb_ALL := tb_k1 77 (by decide +kernel) rfl
theorem kf_X3_33 : Cond.fieldLink RX3 33 "TypeBars$Basket" "hanging" "I" ∈ tb_ALL := tb_k1 78 (by decide +kernel) rfl
theorem kf_X6_148 : Cond.fieldLink RX6 148 "TypeBars$Basket" "hanging" "I" ∈ tb_ALL := tb_k1 79 (by decide +kernel) rfl
theorem kf_X2_62 : Cond.fieldLink RX2 62 "TypeBars$Basket" "column" "I" ∈ tb_ALL := tb_k1 80 (by decide +kernel) rfl
theorem kf_X6_171 : Cond.fieldLink RX6 171 "TypeBars$Basket" "column" "I" ∈ tb_ALL := tb_k1 81 (by decide +kernel) rfl
theorem kf_X2_46 : Cond.fieldLink RX2 46 "TypeBars$Basket" "tick" "I" ∈ tb_ALL := tb_k1 82 (by decide +kernel) rfl
theorem kf_X6_138 : Cond.fieldLink RX6 138 "TypeBars$Basket" "tick" "I" ∈ tb_ALL := tb_k1 83 (by decide +kernel) rfl
theorem km_X6_34 : Cond.methodLink RX6 34 yX0_init ∈ tb_ALL := tb_k1 113 (by decide +kernel) rfl
theorem km_X0_3 : Cond.methodLink RX0 3 objectInit ∈ tb_ALL := tb_k1 116 (by decide +kernel) rfl
theorem kf_X0_11 : Cond.fieldLink RX0 11 "TypeBars$Acts" "before" "[LTypeBars$Basket;" ∈ tb_ALL := tb_k1 120 (by decide +kernel) rfl
theorem kf_X0_18 : Cond.fieldLink RX0 18 "TypeBars$Acts" "next" "I" ∈ tb_ALL := tb_k1 121 (by decide +kernel) rfl
theorem kf_X0_26 : Cond.fieldLink RX0 26 "TypeBars$Acts" "kept" "I" ∈ tb_ALL := tb_k1 122 (by decide +kernel) rfl
theorem kf_X6_183 : Cond.fieldLink RX6 183 "TypeBars$Acts" "kept" "I" ∈ tb_ALL := tb_k1 123 (by decide +kernel) rfl
theorem km_X3_3 : Cond.methodLink RX3 3 objectInit ∈ tb_ALL := tb_k1 136 (by decide +kernel) rfl
theorem kf_X3_12 : Cond.fieldLink RX3 12 "TypeBars$Foretelling" "ahead" "LTypeBars$Basket;" ∈ tb_ALL := tb_k1 139 (by decide +kernel) rfl
theorem kf_X6_218 : Cond.fieldLink RX6 218 "TypeBars$Foretelling" "ahead" "LTypeBars$Basket;" ∈ tb_ALL := tb_k1 140 (by decide +kernel) rfl
theorem kf_X3_18 : Cond.fieldLink RX3 18 "TypeBars$Foretelling" "trial" "LTypeBars$Basket;" ∈ tb_ALL := tb_k1 141 (by decide +kernel) rfl
theorem kf_X3_21 : Cond.fieldLink RX3 21 "TypeBars$Foretelling" "word" "[I" ∈ tb_ALL := tb_k1 142 (by decide +kernel) rfl
theorem kf_X3_52 : Cond.fieldLink RX3 52 "TypeBars$Foretelling" "wordLength" "I" ∈ tb_ALL := tb_k1 143 (by decide +kernel) rfl
theorem kf_X3_68 : Cond.fieldLink RX3 68 "TypeBars$Foretelling" "bestPace" "I" ∈ tb_ALL := tb_k1 144 (by decide +kernel) rfl
theorem kf_X6_235 : Cond.fieldLink RX6 235 "TypeBars$Foretelling" "bestPace" "I" ∈ tb_ALL := tb_k1 145 (by decide +kernel) rfl
theorem km_X1_1 : Cond.methodLink RX1 1 objectInit ∈ tb_ALL := tb_k1 162 (by decide +kernel) rfl
theorem kf_X1_9 : Cond.fieldLink RX1 9 "TypeBars$Asking" "bodies" "[I" ∈ tb_ALL := tb_k1 163 (by decide +kernel) rfl
theorem kf_X6_273 : Cond.fieldLink RX6 273 "TypeBars$Asking" "bodies" "[I" ∈ tb_ALL := tb_k1 164 (by decide +kernel) rfl
theorem kf_X1_13 : Cond.fieldLink RX1 13 "TypeBars$Asking" "left" "I" ∈ tb_ALL := tb_k1 165 (by decide +kernel) rfl
theorem kf_X6_270 : Cond.fieldLink RX6 270 "TypeBars$Asking" "left" "I" ∈ tb_ALL := tb_k1 166 (by decide +kernel) rfl
theorem km_X4_3 : Cond.methodLink RX4 3 objectInit ∈ tb_ALL := tb_k1 176 (by decide +kernel) rfl
theorem kf_X4_9 : Cond.fieldLink RX4 9 "TypeBars$Row" "items" "[I" ∈ tb_ALL := tb_k1 177 (by decide +kernel) rfl
theorem kf_X6_98 : Cond.fieldLink RX6 98 "TypeBars$Row" "items" "[I" ∈ tb_ALL := tb_k1 178 (by decide +kernel) rfl
theorem kf_X3_61 : Cond.fieldLink RX3 61 "TypeBars$Row" "items" "[I" ∈ tb_ALL := tb_k1 179 (by decide +kernel) rfl
theorem kf_X4_15 : Cond.fieldLink RX4 15 "TypeBars$Row" "missing" "Z" ∈ tb_ALL := tb_k1 180 (by decide +kernel) rfl
theorem kf_X6_86 : Cond.fieldLink RX6 86 "TypeBars$Row" "missing" "Z" ∈ tb_ALL := tb_k1 181 (by decide +kernel) rfl
theorem kf_X4_19 : Cond.fieldLink RX4 19 "TypeBars$Row" "lane" "I" ∈ tb_ALL := tb_k1 182 (by decide +kernel) rfl
theorem kf_X6_90 : Cond.fieldLink RX6 90 "TypeBars$Row" "lane" "I" ∈ tb_ALL := tb_k1 183 (by decide +kernel) rfl
theorem kf_X4_23 : Cond.fieldLink RX4 23 "TypeBars$Row" "length" "I" ∈ tb_ALL := tb_k1 184 (by decide +kernel) rfl
theorem kf_X6_108 : Cond.fieldLink RX6 108 "TypeBars$Row" "length" "I" ∈ tb_ALL := tb_k1 185 (by decide +kernel) rfl
theorem kf_X6_11 : Cond.fieldLink RX6 11 "TypeBars" "rows" "[LTypeBars$Row;" ∈ tb_ALL := tb_k1 195 (by decide +kernel) rfl
theorem kf_X6_18 : Cond.fieldLink RX6 18 "TypeBars" "tape" "LTypeBars$Tape;" ∈ tb_ALL := tb_k1 196 (by decide +kernel) rfl
theorem kf_X6_25 : Cond.fieldLink RX6 25 "TypeBars" "now" "LTypeBars$Basket;" ∈ tb_ALL := tb_k1 197 (by decide +kernel) rfl
theorem kf_X6_29 : Cond.fieldLink RX6 29 "TypeBars" "read" "LTypeBars$Basket;" ∈ tb_ALL := tb_k1 198 (by decide +kernel) rfl
theorem kf_X6_35 : Cond.fieldLink RX6 35 "TypeBars" "acts" "LTypeBars$Acts;" ∈ tb_ALL := tb_k1 199 (by decide +kernel) rfl
theorem kf_X6_42 : Cond.fieldLink RX6 42 "TypeBars" "foretelling" "LTypeBars$Foretelling;" ∈ tb_ALL := tb_k1 200 (by decide +kernel) rfl
theorem kf_X6_46 : Cond.fieldLink RX6 46 "TypeBars" "images" "[LTypeBars$Basket;" ∈ tb_ALL := tb_k1 201 (by decide +kernel) rfl
theorem kf_X6_53 : Cond.fieldLink RX6 53 "TypeBars" "asking" "LTypeBars$Asking;" ∈ tb_ALL := tb_k1 202 (by decide +kernel) rfl
theorem kf_X6_120 : Cond.fieldLink RX6 120 "TypeBars" "latestFault" "I" ∈ tb_ALL := tb_k1 203 (by decide +kernel) rfl
theorem kf_X6_282 : Cond.fieldLink RX6 282 "TypeBars" "latestFinding" "I" ∈ tb_ALL := tb_k1 204 (by decide +kernel) rfl
theorem km_L_13 : Cond.methodLink RL 13 yX6_row ∈ tb_ALL := tb_k1 226 (by decide +kernel) rfl
theorem km_X6_58 : Cond.methodLink RX6 58 yX6_isRow ∈ tb_ALL := tb_k1 230 (by decide +kernel) rfl
theorem km_X6_62 : Cond.methodLink RX6 62 yX6_within ∈ tb_ALL := tb_k1 233 (by decide +kernel) rfl
theorem kc_X6_66 : Cond.constant RX6 66 (-1000001) ∈ tb_ALL := tb_k1 236 (by decide +kernel) rfl
theorem km_X6_67 : Cond.methodLink RX6 67 yX6_found ∈ tb_ALL := tb_k1 237 (by decide +kernel) rfl
theorem kc_X6_285 : Cond.constant RX6 285 (-1000010) ∈ tb_ALL := tb_k2 1 (by decide +kernel) rfl
theorem km_X6_71 : Cond.methodLink RX6 71 yX4_make ∈ tb_ALL := tb_k2 2 (by decide +kernel) rfl
theorem km_X4_26 : Cond.methodLink RX4 26 yJ7_fill_53178 ∈ tb_ALL := tb_k2 6 (by decide +kernel) rfl
theorem km_X6_75 : Cond.methodLink RX6 75 yX6_fine ∈ tb_ALL := tb_k2 9 (by decide +kernel) rfl
theorem km_L_18 : Cond.methodLink RL 18 yX6_set ∈ tb_ALL := tb_k2 13 (by decide +kernel) rfl
theorem km_X6_78 : Cond.methodLink RX6 78 yX6_findingOf ∈ tb_ALL := tb_k2 17 (by decide +kernel) rfl
theorem km_X6_94 : Cond.methodLink RX6 94 yX4_has ∈ tb_ALL := tb_k2 21 (by decide +kernel) rfl
theorem km_X6_82 : Cond.methodLink RX6 82 yX4_put ∈ tb_ALL := tb_k2 25 (by decide +kernel) rfl
theorem km_L_22 : Cond.methodLink RL 22 yX6_copy ∈ tb_ALL := tb_k2 29 (by decide +kernel) rfl
theorem km_X6_102 : Cond.methodLink RX6 102 arraycopyName ∈ tb_ALL := tb_k2 33 (by decide +kernel) rfl
theorem km_L_27 : Cond.methodLink RL 27 yX6_drop ∈ tb_ALL := tb_k2 36 (by decide +kernel) rfl
theorem km_L_32 : Cond.methodLink RL 32 yX6_feed ∈ tb_ALL := tb_k2 40 (by decide +kernel) rfl
theorem km_X6_111 : Cond.methodLink RX6 111 yX5_take ∈ tb_ALL := tb_k2 44 (by decide +kernel) rfl
theorem kc_X6_115 : Cond.constant RX6 115 (-1000003) ∈ tb_ALL := tb_k2 48 (by decide +kernel) rfl
theorem km_L_36 : Cond.methodLink RL 36 yX6_basket ∈ tb_ALL := tb_k2 49 (by decide +kernel) rfl
theorem km_X6_116 : Cond.methodLink RX6 116 yX5_readInto ∈ tb_ALL := tb_k2 53 (by decide +kernel) rfl
theorem km_X5_19 : Cond.methodLink RX5 19 yX2_clear ∈ tb_ALL := tb_k2 57 (by decide +kernel) rfl
theorem km_X2_49 : Cond.methodLink RX2 49 yX2_bringBack ∈ tb_ALL := tb_k2 61 (by decide +kernel) rfl
theorem km_X2_73 : Cond.methodLink RX2 73 yJ7_fill_53178 ∈ tb_ALL := tb_k2 65 (by decide +kernel) rfl
theorem km_X5_27 : Cond.methodLink RX5 27 yX5_readBar ∈ tb_ALL := tb_k2 66 (by decide +kernel) rfl
theorem km_X5_31 : Cond.methodLink RX5 31 yX5_byteAt ∈ tb_ALL := tb_k2 70 (by decide +kernel) rfl
theorem km_X5_35 : Cond.methodLink RX5 35 yX5_sortOf ∈ tb_ALL := tb_k2 75 (by decide +kernel) rfl
theorem km_X5_41 : Cond.methodLink RX5 41 yX5_figuresHere ∈ tb_ALL := tb_k2 78 (by decide +kernel) rfl
theorem km_X5_45 : Cond.methodLink RX5 45 yX5_numberHere ∈ tb_ALL := tb_k2 82 (by decide +kernel) rfl
theorem km_X5_52 : Cond.methodLink RX5 52 yX2_addBar ∈ tb_ALL := tb_k2 86 (by decide +kernel) rfl
theorem km_X2_52 : Cond.methodLink RX2 52 yX2_shape ∈ tb_ALL := tb_k2 90 (by decide +kernel) rfl
theorem kc_X6_123 : Cond.constant RX6 123 (-1000100) ∈ tb_ALL := tb_k2 94 (by decide +kernel) rfl
theorem km_X6_127 : Cond.methodLink RX6 127 yX2_become ∈ tb_ALL := tb_k2 95 (by decide +kernel) rfl
theorem km_X2_56 : Cond.methodLink RX2 56 arraycopyName ∈ tb_ALL := tb_k2 99 (by decide +kernel) rfl
theorem km_X6_131 : Cond.methodLink RX6 131 yX0_forget ∈ tb_ALL := tb_k2 100 (by decide +kernel) rfl
theorem km_L_41 : Cond.methodLink RL 41 yX6_fault ∈ tb_ALL := tb_k2 104 (by decide +kernel) rfl
theorem km_L_45 : Cond.methodLink RL 45 yX6_ticks ∈ tb_ALL := tb_k2 108 (by decide +kernel) rfl
theorem kc_X6_137 : Cond.constant RX6 137 (-1000002) ∈ tb_ALL := tb_k2 112 (by decide +kernel) rfl
theorem km_X6_141 : Cond.methodLink RX6 141 yX0_keep ∈ tb_ALL := tb_k2 113 (by decide +kernel) rfl
theorem km_X0_22 : Cond.methodLink RX0 22 yX2_become ∈ tb_ALL := tb_k2 117 (by decide +kernel) rfl
theorem km_X0_29 : Cond.methodLink RX0 29 Lib.Math.min.name ∈ tb_ALL := tb_k2 118 (by decide +kernel) rfl
theorem km_X6_144 : Cond.methodLink RX6 144 yX2_pass ∈ tb_ALL := tb_k2 121 (by decide +kernel) rfl
theorem km_X2_79 : Cond.methodLink RX2 79 yX2_riseAndFall ∈ tb_ALL := tb_k2 125 (by decide +kernel) rfl
theorem km_X2_92 : Cond.methodLink RX2 92 yX2_moves ∈ tb_ALL := tb_k2 129 (by decide +kernel) rfl
theorem km_X2_95 : Cond.methodLink RX2 95 yX2_heightByTime ∈ tb_ALL := tb_k2 133 (by decide +kernel) rfl
theorem km_X2_99 : Cond.methodLink RX2 99 Lib.Math.max.name ∈ tb_ALL := tb_k2 137 (by decide +kernel) rfl
theorem km_X2_82 : Cond.methodLink RX2 82 yX2_meeting ∈ tb_ALL := tb_k2 140 (by decide +kernel) rfl
theorem km_X2_105 : Cond.methodLink RX2 105 yJ6_bitCount_0f7a4 ∈ tb_ALL := tb_k2 144 (by decide +kernel) rfl
theorem kc_J6_265 : Cond.constant RJ6 265 (1431655765) ∈ tb_ALL := tb_k2 147 (by decide +kernel) rfl
theorem kc_J6_266 : Cond.constant RJ6 266 (858993459) ∈ tb_ALL := tb_k2 148 (by decide +kernel) rfl
theorem kc_J6_267 : Cond.constant RJ6 267 (252645135) ∈ tb_ALL := tb_k2 149 (by decide +kernel) rfl
theorem km_X2_86 : Cond.methodLink RX2 86 yX2_print ∈ tb_ALL := tb_k2 150 (by decide +kernel) rfl
theorem km_X2_110 : Cond.methodLink RX2 110 yX2_strike ∈ tb_ALL := tb_k2 154 (by decide +kernel) rfl
theorem km_L_49 : Cond.methodLink RL 49 yX6_key ∈ tb_ALL := tb_k2 158 (by decide +kernel) rfl
theorem km_X6_151 : Cond.methodLink RX6 151 yX2_has ∈ tb_ALL := tb_k2 162 (by decide +kernel) rfl
theorem km_X6_153 : Cond.methodLink RX6 153 yX2_rests ∈ tb_ALL := tb_k2 166 (by decide +kernel) rfl
theorem km_X2_65 : Cond.methodLink RX2 65 yX2_has ∈ tb_ALL := tb_k2 170 (by decide +kernel) rfl
theorem km_X6_156 : Cond.methodLink RX6 156 yX2_press ∈ tb_ALL := tb_k2 171 (by decide +kernel) rfl
theorem km_X2_69 : Cond.methodLink RX2 69 yX2_startAt ∈ tb_ALL := tb_k2 175 (by decide +kernel) rfl
theorem km_L_53 : Cond.methodLink RL 53 yX6_free ∈ tb_ALL := tb_k2 179 (by decide +kernel) rfl
theorem km_X6_163 : Cond.methodLink RX6 163 yJ6_bitCount_0f7a4 ∈ tb_ALL := tb_k2 183 (by decide +kernel) rfl
theorem km_X6_168 : Cond.methodLink RX6 168 yX2_layDown ∈ tb_ALL := tb_k2 184 (by decide +kernel) rfl
theorem km_L_57 : Cond.methodLink RL 57 yX6_back ∈ tb_ALL := tb_k2 188 (by decide +kernel) rfl
theorem km_X6_174 : Cond.methodLink RX6 174 yX2_bringBack ∈ tb_ALL := tb_k2 192 (by decide +kernel) rfl
theorem km_L_61 : Cond.methodLink RL 61 yX6_swap ∈ tb_ALL := tb_k2 193 (by decide +kernel) rfl
theorem km_X6_177 : Cond.methodLink RX6 177 yX2_exchange ∈ tb_ALL := tb_k2 197 (by decide +kernel) rfl
theorem km_L_66 : Cond.methodLink RL 66 yX6_undo ∈ tb_ALL := tb_k2 201 (by decide +kernel) rfl
theorem km_X6_186 : Cond.methodLink RX6 186 yX0_takeBack ∈ tb_ALL := tb_k2 205 (by decide +kernel) rfl
theorem km_X0_35 : Cond.methodLink RX0 35 Lib.Math.max.name ∈ tb_ALL := tb_k2 209 (by decide +kernel) rfl
theorem km_L_70 : Cond.methodLink RL 70 yX6_bar ∈ tb_ALL := tb_k2 210 (by decide +kernel) rfl
theorem km_X6_195 : Cond.methodLink RX6 195 yX2_moves ∈ tb_ALL := tb_k2 214 (by decide +kernel) rfl
theorem kc_X6_201 : Cond.constant RX6 201 (-1000000) ∈ tb_ALL := tb_k2 215 (by decide +kernel) rfl
theorem km_X6_202 : Cond.methodLink RX6 202 yX2_hangs ∈ tb_ALL := tb_k2 216 (by decide +kernel) rfl
theorem km_L_74 : Cond.methodLink RL 74 yX6_paper ∈ tb_ALL := tb_k2 220 (by decide +kernel) rfl
theorem km_L_78 : Cond.methodLink RL 78 yX6_height ∈ tb_ALL := tb_k2 224 (by decide +kernel) rfl
theorem km_X6_211 : Cond.methodLink RX6 211 yX3_ticksOn ∈ tb_ALL := tb_k2 228 (by decide +kernel) rfl
theorem km_X3_25 : Cond.methodLink RX3 25 yX2_become ∈ tb_ALL := tb_k2 232 (by decide +kernel) rfl
theorem km_X3_29 : Cond.methodLink RX3 29 yX2_foresee ∈ tb_ALL := tb_k2 233 (by decide +kernel) rfl
theorem km_X2_89 : Cond.methodLink RX2 89 yX2_pass ∈ tb_ALL := tb_k2 237 (by decide +kernel) rfl
theorem km_L_82 : Cond.methodLink RL 82 yX6_later ∈ tb_ALL := tb_k2 238 (by decide +kernel) rfl
theorem km_L_86 : Cond.methodLink RL 86 yX6_jam ∈ tb_ALL := tb_k3 2 (by decide +kernel) rfl
theorem km_X6_215 : Cond.methodLink RX6 215 yX3_ticksToJam ∈ tb_ALL := tb_k3 6 (by decide +kernel) rfl
theorem km_X3_37 : Cond.methodLink RX3 37 yX2_pass ∈ tb_ALL := tb_k3 10 (by decide +kernel) rfl
theorem kc_X3_41 : Cond.constant RX3 41 (-1000000) ∈ tb_ALL := tb_k3 11 (by decide +kernel) rfl
theorem km_L_90 : Cond.methodLink RL 90 yX6_waits ∈ tb_ALL := tb_k3 12 (by decide +kernel) rfl
theorem km_X6_221 : Cond.methodLink RX6 221 yX3_leastWait ∈ tb_ALL := tb_k3 16 (by decide +kernel) rfl
theorem km_X3_42 : Cond.methodLink RX3 42 yX2_rests ∈ tb_ALL := tb_k3 20 (by decide +kernel) rfl
theorem km_X3_46 : Cond.methodLink RX3 46 yX3_staysClear ∈ tb_ALL := tb_k3 21 (by decide +kernel) rfl
theorem km_X3_49 : Cond.methodLink RX3 49 yX2_press ∈ tb_ALL := tb_k3 25 (by decide +kernel) rfl
theorem km_L_94 : Cond.methodLink RL 94 yX6_pace ∈ tb_ALL := tb_k3 26 (by decide +kernel) rfl
theorem km_X6_225 : Cond.methodLink RX6 225 yX3_hear ∈ tb_ALL := tb_k3 30 (by decide +kernel) rfl
theorem km_X3_55 : Cond.methodLink RX3 55 yX4_has ∈ tb_ALL := tb_k3 34 (by decide +kernel) rfl
theorem km_X6_229 : Cond.methodLink RX6 229 yX3_paceAsItIs ∈ tb_ALL := tb_k3 35 (by decide +kernel) rfl
theorem km_X3_64 : Cond.methodLink RX3 64 yX3_leastPace ∈ tb_ALL := tb_k3 39 (by decide +kernel) rfl
theorem km_X3_78 : Cond.methodLink RX3 78 yX3_goesAt ∈ tb_ALL := tb_k3 43 (by decide +kernel) rfl
theorem km_L_98 : Cond.methodLink RL 98 yX6_better ∈ tb_ALL := tb_k3 47 (by decide +kernel) rfl
theorem km_X6_232 : Cond.methodLink RX6 232 yX3_bestSwap ∈ tb_ALL := tb_k3 51 (by decide +kernel) rfl
theorem km_X3_74 : Cond.methodLink RX3 74 yX2_exchange ∈ tb_ALL := tb_k3 55 (by decide +kernel) rfl
theorem km_L_103 : Cond.methodLink RL 103 yX6_fits ∈ tb_ALL := tb_k3 56 (by decide +kernel) rfl
theorem km_X6_238 : Cond.methodLink RX6 238 yX3_fitting ∈ tb_ALL := tb_k3 60 (by decide +kernel) rfl
theorem km_X3_81 : Cond.methodLink RX3 81 yX3_mostOf ∈ tb_ALL := tb_k3 64 (by decide +kernel) rfl
theorem km_X3_85 : Cond.methodLink RX3 85 yX3_suppose ∈ tb_ALL := tb_k3 67 (by decide +kernel) rfl
theorem km_X3_95 : Cond.methodLink RX3 95 yX2_shape ∈ tb_ALL := tb_k3 71 (by decide +kernel) rfl
theorem km_X3_101 : Cond.methodLink RX3 101 yX2_startAt ∈ tb_ALL := tb_k3 72 (by decide +kernel) rfl
theorem km_X3_89 : Cond.methodLink RX3 89 yX3_risesAsHeard ∈ tb_ALL := tb_k3 73 (by decide +kernel) rfl
theorem km_L_107 : Cond.methodLink RL 107 yX6_chance ∈ tb_ALL := tb_k3 77 (by decide +kernel) rfl
theorem km_X6_242 : Cond.methodLink RX6 242 yX3_waysClear ∈ tb_ALL := tb_k3 81 (by decide +kernel) rfl
theorem km_X3_113 : Cond.methodLink RX3 113 yX2_layDown ∈ tb_ALL := tb_k3 85 (by decide +kernel) rfl
theorem km_X3_116 : Cond.methodLink RX3 116 yJ6_bitCount_0f7a4 ∈ tb_ALL := tb_k3 86 (by decide +kernel) rfl
theorem km_X6_246 : Cond.methodLink RX6 246 yX6_power ∈ tb_ALL := tb_k3 90 (by decide +kernel) rfl
theorem km_X6_250 : Cond.methodLink RX6 250 yX6_commonDivisor ∈ tb_ALL := tb_k3 91 (by decide +kernel) rfl
theorem km_L_111 : Cond.methodLink RL 111 yX6_drawn ∈ tb_ALL := tb_k3 94 (by decide +kernel) rfl
theorem kc_X6_254 : Cond.constant RX6 254 (999999) ∈ tb_ALL := tb_k3 98 (by decide +kernel) rfl
theorem km_X6_255 : Cond.methodLink RX6 255 yX3_printedByDraws ∈ tb_ALL := tb_k3 99 (by decide +kernel) rfl
theorem kd_X3_125 : Cond.constantLong RX3 125 (16807) ∈ tb_ALL := tb_k3 103 (by decide +kernel) rfl
theorem kd_X3_127 : Cond.constantLong RX3 127 (2147483647) ∈ tb_ALL := tb_k3 104 (by decide +kernel) rfl
theorem kd_X3_129 : Cond.constantLong RX3 129 (11) ∈ tb_ALL := tb_k3 105 (by decide +kernel) rfl
theorem kd_X3_131 : Cond.constantLong RX3 131 (3) ∈ tb_ALL := tb_k3 106 (by decide +kernel) rfl
theorem km_L_115 : Cond.methodLink RL 115 yX6_image ∈ tb_ALL := tb_k3 107 (by decide +kernel) rfl
theorem km_L_119 : Cond.methodLink RL 119 yX6_restore ∈ tb_ALL := tb_k3 111 (by decide +kernel) rfl
theorem km_L_123 : Cond.methodLink RL 123 yX6_kind ∈ tb_ALL := tb_k3 115 (by decide +kernel) rfl
theorem km_L_127 : Cond.methodLink RL 127 yX6_as ∈ tb_ALL := tb_k3 119 (by decide +kernel) rfl
theorem km_X6_261 : Cond.methodLink RX6 261 yX6_isA ∈ tb_ALL := tb_k3 123 (by decide +kernel) rfl
theorem kf_X6_286 : Cond.fieldLink RX6 286 "TypeBars" "PARENT" "[I" ∈ tb_ALL := tb_k3 126 (by decide +kernel) rfl
theorem km_L_131 : Cond.methodLink RL 131 yX6_ask ∈ tb_ALL := tb_k3 128 (by decide +kernel) rfl
theorem km_X6_264 : Cond.methodLink RX6 264 yX1_sizeOf ∈ tb_ALL := tb_k3 132 (by decide +kernel) rfl
theorem kf_X1_17 : Cond.fieldLink RX1 17 "TypeBars$Asking" "SIZE_BODY" "[I" ∈ tb_ALL := tb_k3 136 (by decide +kernel) rfl
theorem km_X1_25 : Cond.methodLink RX1 25 yX1_give ∈ tb_ALL := tb_k3 138 (by decide +kernel) rfl
theorem km_X1_32 : Cond.methodLink RX1 32 yX1_leave ∈ tb_ALL := tb_k3 142 (by decide +kernel) rfl
theorem kf_X1_29 : Cond.fieldLink RX1 29 "TypeBars$Asking" "MARK_BODY" "[I" ∈ tb_ALL := tb_k3 146 (by decide +kernel) rfl
theorem km_X6_267 : Cond.methodLink RX6 267 yX1_markOf ∈ tb_ALL := tb_k3 148 (by decide +kernel) rfl
theorem km_L_135 : Cond.methodLink RL 135 yX6_trace ∈ tb_ALL := tb_k3 152 (by decide +kernel) rfl
theorem km_L_139 : Cond.methodLink RL 139 yX6_count ∈ tb_ALL := tb_k3 156 (by decide +kernel) rfl
theorem km_X6_276 : Cond.methodLink RX6 276 yX6_countRows ∈ tb_ALL := tb_k3 160 (by decide +kernel) rfl
theorem km_X6_279 : Cond.methodLink RX6 279 yX2_columnsPrinted ∈ tb_ALL := tb_k3 164 (by decide +kernel) rfl
theorem km_L_143 : Cond.methodLink RL 143 yX6_status ∈ tb_ALL := tb_k3 168 (by decide +kernel) rfl
theorem km_L_12 : Cond.methodLink RL 12 yX7_init ∈ tb_ALL := tb_k3 174 (by decide +kernel) rfl
theorem km_X7_1 : Cond.methodLink RX7 1 objectInit ∈ tb_ALL := tb_k3 177 (by decide +kernel) rfl
theorem kf_X7_7 : Cond.fieldLink RX7 7 "TypeBarsModel" "sizes" "[I" ∈ tb_ALL := tb_k3 178 (by decide +kernel) rfl
theorem kf_X7_13 : Cond.fieldLink RX7 13 "TypeBarsModel" "lanes" "[I" ∈ tb_ALL := tb_k3 179 (by decide +kernel) rfl
theorem kf_X7_16 : Cond.fieldLink RX7 16 "TypeBarsModel" "items" "[I" ∈ tb_ALL := tb_k3 180 (by decide +kernel) rfl
theorem kf_X7_19 : Cond.fieldLink RX7 19 "TypeBarsModel" "moved" "[I" ∈ tb_ALL := tb_k3 181 (by decide +kernel) rfl
theorem kf_X7_54 : Cond.fieldLink RX7 54 "TypeBarsModel" "status" "I" ∈ tb_ALL := tb_k3 182 (by decide +kernel) rfl
theorem kf_X7_22 : Cond.fieldLink RX7 22 "TypeBarsModel" "tape" "[I" ∈ tb_ALL := tb_k3 183 (by decide +kernel) rfl
theorem kf_X7_76 : Cond.fieldLink RX7 76 "TypeBarsModel" "typed" "I" ∈ tb_ALL := tb_k3 184 (by decide +kernel) rfl
theorem kf_X7_105 : Cond.fieldLink RX7 105 "TypeBarsModel" "fault" "I" ∈ tb_ALL := tb_k3 185 (by decide +kernel) rfl
theorem kf_X7_25 : Cond.fieldLink RX7 25 "TypeBarsModel" "s" "[I" ∈ tb_ALL := tb_k3 186 (by decide +kernel) rfl
theorem kf_X7_28 : Cond.fieldLink RX7 28 "TypeBarsModel" "draft" "[I" ∈ tb_ALL := tb_k3 187 (by decide +kernel) rfl
theorem kf_X7_31 : Cond.fieldLink RX7 31 "TypeBarsModel" "images" "[I" ∈ tb_ALL := tb_k3 188 (by decide +kernel) rfl
theorem kf_X7_34 : Cond.fieldLink RX7 34 "TypeBarsModel" "kept" "[Z" ∈ tb_ALL := tb_k3 189 (by decide +kernel) rfl
theorem kf_X7_38 : Cond.fieldLink RX7 38 "TypeBarsModel" "past" "[I" ∈ tb_ALL := tb_k3 190 (by decide +kernel) rfl
theorem kf_X7_109 : Cond.fieldLink RX7 109 "TypeBarsModel" "known" "I" ∈ tb_ALL := tb_k3 191 (by decide +kernel) rfl
theorem kf_X7_41 : Cond.fieldLink RX7 41 "TypeBarsModel" "then" "[I" ∈ tb_ALL := tb_k3 192 (by decide +kernel) rfl
theorem kf_X7_44 : Cond.fieldLink RX7 44 "TypeBarsModel" "traces" "[I" ∈ tb_ALL := tb_k3 193 (by decide +kernel) rfl
theorem kf_X7_199 : Cond.fieldLink RX7 199 "TypeBarsModel" "traced" "I" ∈ tb_ALL := tb_k3 194 (by decide +kernel) rfl
theorem kf_X7_83 : Cond.fieldLink RX7 83 "TypeBarsModel" "at" "I" ∈ tb_ALL := tb_k3 195 (by decide +kernel) rfl
theorem kf_X7_80 : Cond.fieldLink RX7 80 "TypeBarsModel" "wrong" "I" ∈ tb_ALL := tb_k3 196 (by decide +kernel) rfl
theorem km_L_17 : Cond.methodLink RL 17 yX7_row ∈ tb_ALL := tb_k3 237 (by decide +kernel) rfl
theorem km_X7_58 : Cond.methodLink RX7 58 yX7_isRow ∈ tb_ALL := tb_k4 1 (by decide +kernel) rfl
theorem km_X7_47 : Cond.methodLink RX7 47 yX7_in ∈ tb_ALL := tb_k4 4 (by decide +kernel) rfl
theorem kc_X7_62 : Cond.constant RX7 62 (-1000001) ∈ tb_ALL := tb_k4 7 (by decide +kernel) rfl
theorem kc_X7_63 : Cond.constant RX7 63 (-1000014) ∈ tb_ALL := tb_k4 8 (by decide +kernel) rfl
theorem km_X7_64 : Cond.methodLink RX7 64 yX7_ends ∈ tb_ALL := tb_k4 9 (by decide +kernel) rfl
theorem kc_X7_51 : Cond.constant RX7 51 (-1000015) ∈ tb_ALL := tb_k4 13 (by decide +kernel) rfl
theorem kc_X7_52 : Cond.constant RX7 52 (-1000011) ∈ tb_ALL := tb_k4 14 (by decide +kernel) rfl
theorem kc_X7_53 : Cond.constant RX7 53 (-1000010) ∈ tb_ALL := tb_k4 15 (by decide +kernel) rfl
theorem km_L_21 : Cond.methodLink RL 21 yX7_set ∈ tb_ALL := tb_k4 16 (by decide +kernel) rfl
theorem km_X7_68 : Cond.methodLink RX7 68 yX7_lies ∈ tb_ALL := tb_k4 20 (by decide +kernel) rfl
theorem kc_X7_71 : Cond.constant RX7 71 (-1000012) ∈ tb_ALL := tb_k4 24 (by decide +kernel) rfl
theorem km_X7_72 : Cond.methodLink RX7 72 yX7_cut ∈ tb_ALL := tb_k4 25 (by decide +kernel) rfl
theorem km_L_26 : Cond.methodLink RL 26 yX7_copy ∈ tb_ALL := tb_k4 28 (by decide +kernel) rfl
theorem km_L_31 : Cond.methodLink RL 31 yX7_drop ∈ tb_ALL := tb_k4 32 (by decide +kernel) rfl
theorem km_L_35 : Cond.methodLink RL 35 yX7_feed ∈ tb_ALL := tb_k4 36 (by decide +kernel) rfl
theorem kc_X7_79 : Cond.constant RX7 79 (-1000003) ∈ tb_ALL := tb_k4 40 (by decide +kernel) rfl
theorem km_L_40 : Cond.methodLink RL 40 yX7_basket ∈ tb_ALL := tb_k4 41 (by decide +kernel) rfl
theorem km_X7_101 : Cond.methodLink RX7 101 yX7_readsAll ∈ tb_ALL := tb_k4 45 (by decide +kernel) rfl
theorem km_X7_86 : Cond.methodLink RX7 86 yX7_letterAt ∈ tb_ALL := tb_k4 49 (by decide +kernel) rfl
theorem km_X7_95 : Cond.methodLink RX7 95 yX7_kindBy ∈ tb_ALL := tb_k4 53 (by decide +kernel) rfl
theorem km_X7_92 : Cond.methodLink RX7 92 yX7_fails ∈ tb_ALL := tb_k4 56 (by decide +kernel) rfl
theorem km_X7_98 : Cond.methodLink RX7 98 yX7_reads ∈ tb_ALL := tb_k4 60 (by decide +kernel) rfl
theorem km_X7_89 : Cond.methodLink RX7 89 yX7_isDigit ∈ tb_ALL := tb_k4 64 (by decide +kernel) rfl
theorem kc_X7_108 : Cond.constant RX7 108 (-1000100) ∈ tb_ALL := tb_k4 67 (by decide +kernel) rfl
theorem km_L_44 : Cond.methodLink RL 44 yX7_fault ∈ tb_ALL := tb_k4 68 (by decide +kernel) rfl
theorem km_L_48 : Cond.methodLink RL 48 yX7_ticks ∈ tb_ALL := tb_k4 72 (by decide +kernel) rfl
theorem km_X7_131 : Cond.methodLink RX7 131 yX7_isBasket ∈ tb_ALL := tb_k4 76 (by decide +kernel) rfl
theorem kc_X7_134 : Cond.constant RX7 134 (-1000002) ∈ tb_ALL := tb_k4 80 (by decide +kernel) rfl
theorem km_X7_135 : Cond.methodLink RX7 135 yX7_keeps ∈ tb_ALL := tb_k4 81 (by decide +kernel) rfl
theorem km_X7_138 : Cond.methodLink RX7 138 yX7_tick ∈ tb_ALL := tb_k4 85 (by decide +kernel) rfl
theorem km_X7_116 : Cond.methodLink RX7 116 yX7_high ∈ tb_ALL := tb_k4 88 (by decide +kernel) rfl
theorem km_X7_112 : Cond.methodLink RX7 112 yX7_top ∈ tb_ALL := tb_k4 91 (by decide +kernel) rfl
theorem km_X7_119 : Cond.methodLink RX7 119 yX7_meets ∈ tb_ALL := tb_k4 94 (by decide +kernel) rfl
theorem km_X7_123 : Cond.methodLink RX7 123 yX7_has ∈ tb_ALL := tb_k4 97 (by decide +kernel) rfl
theorem km_X7_127 : Cond.methodLink RX7 127 yX7_prints ∈ tb_ALL := tb_k4 100 (by decide +kernel) rfl
theorem km_X7_142 : Cond.methodLink RX7 142 yX7_hanging ∈ tb_ALL := tb_k4 103 (by decide +kernel) rfl
theorem km_L_52 : Cond.methodLink RL 52 yX7_key ∈ tb_ALL := tb_k4 106 (by decide +kernel) rfl
theorem km_X7_145 : Cond.methodLink RX7 145 yX7_isBar ∈ tb_ALL := tb_k4 110 (by decide +kernel) rfl
theorem km_X7_148 : Cond.methodLink RX7 148 yX7_rests ∈ tb_ALL := tb_k4 114 (by decide +kernel) rfl
theorem km_X7_152 : Cond.methodLink RX7 152 yX7_moving ∈ tb_ALL := tb_k4 117 (by decide +kernel) rfl
theorem km_L_56 : Cond.methodLink RL 56 yX7_free ∈ tb_ALL := tb_k4 120 (by decide +kernel) rfl
theorem km_X7_155 : Cond.methodLink RX7 155 yX7_ones ∈ tb_ALL := tb_k4 124 (by decide +kernel) rfl
theorem km_X7_158 : Cond.methodLink RX7 158 yX7_frees ∈ tb_ALL := tb_k4 127 (by decide +kernel) rfl
theorem km_L_60 : Cond.methodLink RL 60 yX7_back ∈ tb_ALL := tb_k4 130 (by decide +kernel) rfl
theorem km_L_65 : Cond.methodLink RL 65 yX7_swap ∈ tb_ALL := tb_k4 134 (by decide +kernel) rfl
theorem km_X7_162 : Cond.methodLink RX7 162 yX7_exchanges ∈ tb_ALL := tb_k4 138 (by decide +kernel) rfl
theorem km_L_69 : Cond.methodLink RL 69 yX7_undo ∈ tb_ALL := tb_k4 141 (by decide +kernel) rfl
theorem km_L_73 : Cond.methodLink RL 73 yX7_bar ∈ tb_ALL := tb_k4 145 (by decide +kernel) rfl
theorem kc_X7_166 : Cond.constant RX7 166 (-1000000) ∈ tb_ALL := tb_k4 149 (by decide +kernel) rfl
theorem km_L_77 : Cond.methodLink RL 77 yX7_paper ∈ tb_ALL := tb_k4 150 (by decide +kernel) rfl
theorem km_L_81 : Cond.methodLink RL 81 yX7_height ∈ tb_ALL := tb_k4 154 (by decide +kernel) rfl
theorem km_X7_171 : Cond.methodLink RX7 171 yX7_goesOn ∈ tb_ALL := tb_k4 158 (by decide +kernel) rfl
theorem km_X7_167 : Cond.methodLink RX7 167 yX7_copies ∈ tb_ALL := tb_k4 162 (by decide +kernel) rfl
theorem km_L_85 : Cond.methodLink RL 85 yX7_later ∈ tb_ALL := tb_k4 165 (by decide +kernel) rfl
theorem km_L_89 : Cond.methodLink RL 89 yX7_jam ∈ tb_ALL := tb_k4 169 (by decide +kernel) rfl
theorem km_L_93 : Cond.methodLink RL 93 yX7_waits ∈ tb_ALL := tb_k4 173 (by decide +kernel) rfl
theorem km_X7_175 : Cond.methodLink RX7 175 yX7_clear ∈ tb_ALL := tb_k4 177 (by decide +kernel) rfl
theorem km_L_97 : Cond.methodLink RL 97 yX7_pace ∈ tb_ALL := tb_k4 181 (by decide +kernel) rfl
theorem km_X7_178 : Cond.methodLink RX7 178 yX7_paceBy ∈ tb_ALL := tb_k4 185 (by decide +kernel) rfl
theorem km_L_102 : Cond.methodLink RL 102 yX7_better ∈ tb_ALL := tb_k4 189 (by decide +kernel) rfl
theorem km_L_106 : Cond.methodLink RL 106 yX7_fits ∈ tb_ALL := tb_k4 193 (by decide +kernel) rfl
theorem km_X7_182 : Cond.methodLink RX7 182 yX7_becomes ∈ tb_ALL := tb_k4 197 (by decide +kernel) rfl
theorem km_X7_186 : Cond.methodLink RX7 186 yX7_isSo ∈ tb_ALL := tb_k4 201 (by decide +kernel) rfl
theorem km_L_110 : Cond.methodLink RL 110 yX7_chance ∈ tb_ALL := tb_k4 205 (by decide +kernel) rfl
theorem km_L_114 : Cond.methodLink RL 114 yX7_drawn ∈ tb_ALL := tb_k4 209 (by decide +kernel) rfl
theorem kc_X7_189 : Cond.constant RX7 189 (999999) ∈ tb_ALL := tb_k4 213 (by decide +kernel) rfl
theorem kd_X7_190 : Cond.constantLong RX7 190 (16807) ∈ tb_ALL := tb_k4 214 (by decide +kernel) rfl
theorem kd_X7_192 : Cond.constantLong RX7 192 (2147483647) ∈ tb_ALL := tb_k4 215 (by decide +kernel) rfl
theorem kd_X7_194 : Cond.constantLong RX7 194 (11) ∈ tb_ALL := tb_k4 216 (by decide +kernel) rfl
theorem kd_X7_196 : Cond.constantLong RX7 196 (3) ∈ tb_ALL := tb_k4 217 (by decide +kernel) rfl
theorem km_L_118 : Cond.methodLink RL 118 yX7_image ∈ tb_ALL := tb_k4 218 (by decide +kernel) rfl
theorem km_L_122 : Cond.methodLink RL 122 yX7_restore ∈ tb_ALL := tb_k4 222 (by decide +kernel) rfl
theorem km_L_126 : Cond.methodLink RL 126 yX7_kind ∈ tb_ALL := tb_k4 226 (by decide +kernel) rfl
theorem km_L_130 : Cond.methodLink RL 130 yX7_as ∈ tb_ALL := tb_k4 230 (by decide +kernel) rfl
theorem kc_X7_198 : Cond.constant RX7 198 (-1000013) ∈ tb_ALL := tb_k4 234 (by decide +kernel) rfl
theorem km_L_134 : Cond.methodLink RL 134 yX7_ask ∈ tb_ALL := tb_k4 235 (by decide +kernel) rfl
theorem km_X7_208 : Cond.methodLink RX7 208 yX7_size ∈ tb_ALL := tb_k4 239 (by decide +kernel) rfl
theorem km_X7_202 : Cond.methodLink RX7 202 yX7_begins ∈ tb_ALL := tb_k5 3 (by decide +kernel) rfl
theorem km_X7_205 : Cond.methodLink RX7 205 yX7_plain ∈ tb_ALL := tb_k5 7 (by decide +kernel) rfl
theorem km_L_138 : Cond.methodLink RL 138 yX7_trace ∈ tb_ALL := tb_k5 11 (by decide +kernel) rfl
theorem km_L_142 : Cond.methodLink RL 142 yX7_count ∈ tb_ALL := tb_k5 15 (by decide +kernel) rfl
theorem km_L_146 : Cond.methodLink RL 146 yX7_status ∈ tb_ALL := tb_k5 19 (by decide +kernel) rfl
theorem kn_cpN : Cond.native arraycopyName ∈ tb_ALL := tb_k2 35 (by decide +kernel) rfl
theorem kn_cpS : Cond.static arraycopyName ∈ tb_ALL := tb_k2 34 (by decide +kernel) rfl
theorem kn_maxS : Cond.static Lib.Math.max.name ∈ tb_ALL := tb_k2 138 (by decide +kernel) rfl
theorem kn_maxC : Cond.code Lib.Math.max.name Lib.Math.max.code 2 (some .int) ∈ tb_ALL := tb_k2 139 rfl rfl
theorem kn_minS : Cond.static Lib.Math.min.name ∈ tb_ALL := tb_k2 119 (by decide +kernel) rfl
theorem kn_minC : Cond.code Lib.Math.min.name Lib.Math.min.code 2 (some .int) ∈ tb_ALL := tb_k2 120 rfl rfl
theorem kX0_init_code : Cond.code yX0_init cX0_init 2 none ∈ tb_ALL := tb_k1 115 rfl rfl
theorem kX0_init_inst : Cond.instanceMethod yX0_init ∈ tb_ALL := tb_k1 114 (by decide +kernel) rfl
theorem kX0_keep : tb_MV yX0_keep cX0_keep 2 none 0 1 := ⟨(tb_k2 114 (by decide +kernel) rfl), (tb_k2 115 (by decide +kernel) rfl), ki_X0, (tb_k2 116 rfl rfl), by decide +kernel, ⟨_, _, rfl⟩⟩
theorem kX0_takeBack : tb_MV yX0_takeBack cX0_takeBack 2 none 0 1 := ⟨(tb_k2 206 (by decide +kernel) rfl), (tb_k2 207 (by decide +kernel) rfl), ki_X0, (tb_k2 208 rfl rfl), by decide +kernel, ⟨_, _, rfl⟩⟩
theorem kX0_forget : tb_MV yX0_forget cX0_forget 1 none 0 0 := ⟨(tb_k2 101 (by decide +kernel) rfl), (tb_k2 102 (by decide +kernel) rfl), ki_X0, (tb_k2 103 rfl rfl), by decide +kernel, ⟨_, _, rfl⟩⟩
theorem kX1_init_code : Cond.code yX1_init cX1_init 1 none ∈ tb_ALL := tb_k1 161 rfl rfl
theorem kX1_init_inst : Cond.instanceMethod yX1_init ∈ tb_ALL := tb_k1 160 (by decide +kernel) rfl
theorem kX1_sizeOf : tb_MV yX1_sizeOf cX1_sizeOf 3 (some .int) 1 2 := ⟨(tb_k3 133 (by decide +kernel) rfl), (tb_k3 134 (by decide +kernel) rfl), ki_X1, (tb_k3 135 rfl rfl), by decide +kernel, ⟨_, _, rfl⟩⟩
theorem kX1_markOf : tb_MV yX1_markOf cX1_markOf 3 (some .int) 1 2 := ⟨(tb_k3 149 (by decide +kernel) rfl), (tb_k3 150 (by decide +kernel) rfl), ki_X1, (tb_k3 151 rfl rfl), by decide +kernel, ⟨_, _, rfl⟩⟩
theorem kX1_give : tb_MV yX1_give cX1_give 7 (some .int) 1 4 := ⟨(tb_k3 140 (by decide +kernel) rfl), (tb_kp (q := (yX1_give, 2)) (List.mem_of_getElem? (i := 17) (by decide +kernel))), ki_X1, (tb_k3 141 rfl rfl), by decide +kernel, ⟨_, _, rfl⟩⟩
theorem kX1_leave : tb_MV yX1_leave cX1_leave 2 none 1 1 := ⟨(tb_k3 144 (by decide +kernel) rfl), (tb_kp (q := (yX1_leave, 2)) (List.mem_of_getElem? (i := 18) (by decide +kernel))), ki_X1, (tb_k3 145 rfl rfl), by decide +kernel, ⟨_, _, rfl⟩⟩
theorem kX2_init_code : Cond.code yX2_init cX2_init 1 none ∈ tb_ALL := tb_k1 46 rfl rfl
theorem kX2_init_inst : Cond.instanceMethod yX2_init ∈ tb_ALL := tb_k1 45 (by decide +kernel) rfl
theorem kX2_clear : tb_MV yX2_clear cX2_clear 1 none 2 0 := ⟨(tb_k2 58 (by decide +kernel) rfl), (tb_k2 59 (by decide +kernel) rfl), ki_X2, (tb_k2 60 rfl rfl), by decide +kernel, ⟨_, _, rfl⟩⟩
theorem kX2_addBar : tb_MV yX2_addBar cX2_addBar 3 none 2 2 := ⟨(tb_k2 87 (by decide +kernel) rfl), (tb_k2 88 (by decide +kernel) rfl), ki_X2, (tb_k2 89 rfl rfl), by decide +kernel, ⟨_, _, rfl⟩⟩
theorem kX2_become : tb_MV yX2_become cX2_become 2 none 2 1 := ⟨(tb_k2 96 (by decide +kernel) rfl), (tb_k2 97 (by decide +kernel) rfl), ki_X2, (tb_k2 98 rfl rfl), by decide +kernel, ⟨_, _, rfl⟩⟩
theorem kX2_has : tb_MV yX2_has cX2_has 2 (some .boolean) 2 1 := ⟨(tb_k2 163 (by decide +kernel) rfl), (tb_k2 164 (by decide +kernel) rfl), ki_X2, (tb_k2 165 rfl rfl), by decide +kernel, ⟨_, _, rfl⟩⟩
theorem kX2_moves : tb_MV yX2_moves cX2_moves 2 (some .boolean) 2 1 := ⟨(tb_k2 130 (by decide +kernel) rfl), (tb_k2 131 (by decide +kernel) rfl), ki_X2, (tb_k2 132 rfl rfl), by decide +kernel, ⟨_, _, rfl⟩⟩
theorem kX2_hangs : tb_MV yX2_hangs cX2_hangs 2 (some .boolean) 2 1 := ⟨(tb_k2 217 (by decide +kernel) rfl), (tb_k2 218 (by decide +kernel) rfl), ki_X2, (tb_k2 219 rfl rfl), by decide +kernel, ⟨_, _, rfl⟩⟩
theorem kX2_rests : tb_MV yX2_rests cX2_rests 2 (some .boolean) 2 1 := ⟨(tb_k2 167 (by decide +kernel) rfl), (tb_k2 168 (by decide +kernel) rfl), ki_X2, (tb_k2 169 rfl rfl), by decide +kernel, ⟨_, _, rfl⟩⟩
theorem kX2_shape : tb_MV yX2_shape cX2_shape 4 none 2 3 := ⟨(tb_k2 91 (by decide +kernel) rfl), (tb_k2 92 (by decide +kernel) rfl), ki_X2, (tb_k2 93 rfl rfl), by decide +kernel, ⟨_, _, rfl⟩⟩
theorem kX2_press : tb_MV yX2_press cX2_press 2 none 2 1 := ⟨(tb_k2 172 (by decide +kernel) rfl), (tb_k2 173 (by decide +kernel) rfl), ki_X2, (tb_k2 174 rfl rfl), by decide +kernel, ⟨_, _, rfl⟩⟩
theorem kX2_startAt : tb_MV yX2_startAt cX2_startAt 3 none 2 2 := ⟨(tb_k2 176 (by decide +kernel) rfl), (tb_k2 177 (by decide +kernel) rfl), ki_X2, (tb_k2 178 rfl rfl), by decide +kernel, ⟨_, _, rfl⟩⟩
theorem kX2_layDown : tb_MV yX2_layDown cX2_layDown 3 none 2 1 := ⟨(tb_k2 185 (by decide +kernel) rfl), (tb_k2 186 (by decide +kernel) rfl), ki_X2, (tb_k2 187 rfl rfl), by decide +kernel, ⟨_, _, rfl⟩⟩
theorem kX2_bringBack : tb_MV yX2_bringBack cX2_bringBack 1 none 2 0 := ⟨(tb_k2 62 (by decide +kernel) rfl), (tb_k2 63 (by decide +kernel) rfl), ki_X2, (tb_k2 64 rfl rfl), by decide +kernel, ⟨_, _, rfl⟩⟩
theorem kX2_exchange : tb_MV yX2_exchange cX2_exchange 4 none 2 2 := ⟨(tb_k2 198 (by decide +kernel) rfl), (tb_k2 199 (by decide +kernel) rfl), ki_X2, (tb_k2 200 rfl rfl), by decide +kernel, ⟨_, _, rfl⟩⟩
theorem kX2_pass : tb_MV yX2_pass cX2_pass 2 (some .int) 2 0 := ⟨(tb_k2 122 (by decide +kernel) rfl), (tb_k2 123 (by decide +kernel) rfl), ki_X2, (tb_k2 124 rfl rfl), by decide +kernel, ⟨_, _, rfl⟩⟩
theorem kX2_foresee : tb_MV yX2_foresee cX2_foresee 3 none 2 1 := ⟨(tb_k2 234 (by decide +kernel) rfl), (tb_k2 235 (by decide +kernel) rfl), ki_X2, (tb_k2 236 rfl rfl), by decide +kernel, ⟨_, _, rfl⟩⟩
theorem kX2_riseAndFall : tb_MV yX2_riseAndFall cX2_riseAndFall 2 none 2 0 := ⟨(tb_k2 127 (by decide +kernel) rfl), (tb_kp (q := (yX2_riseAndFall, 13)) (List.mem_of_getElem? (i := 7) (by decide +kernel))), ki_X2, (tb_k2 128 rfl rfl), by decide +kernel, ⟨_, _, rfl⟩⟩
theorem kX2_heightByTime : tb_MV yX2_heightByTime cX2_heightByTime 3 (some .int) 2 1 := ⟨(tb_k2 135 (by decide +kernel) rfl), (tb_kp (q := (yX2_heightByTime, 13)) (List.mem_of_getElem? (i := 8) (by decide +kernel))), ki_X2, (tb_k2 136 rfl rfl), by decide +kernel, ⟨_, _, rfl⟩⟩
theorem kX2_meeting : tb_MV yX2_meeting cX2_meeting 7 (some .int) 2 0 := ⟨(tb_k2 142 (by decide +kernel) rfl), (tb_kp (q := (yX2_meeting, 13)) (List.mem_of_getElem? (i := 9) (by decide +kernel))), ki_X2, (tb_k2 143 rfl rfl), by decide +kernel, ⟨_, _, rfl⟩⟩
theorem kX2_print : tb_MV yX2_print cX2_print 3 (some .int) 2 0 := ⟨(tb_k2 152 (by decide +kernel) rfl), (tb_kp (q := (yX2_print, 13)) (List.mem_of_getElem? (i := 10) (by decide +kernel))), ki_X2, (tb_k2 153 rfl rfl), by decide +kernel, ⟨_, _, rfl⟩⟩
theorem kX2_strike : tb_MV yX2_strike cX2_strike 2 none 2 1 := ⟨(tb_k2 156 (by decide +kernel) rfl), (tb_kp (q := (yX2_strike, 13)) (List.mem_of_getElem? (i := 11) (by decide +kernel))), ki_X2, (tb_k2 157 rfl rfl), by decide +kernel, ⟨_, _, rfl⟩⟩
theorem kX2_columnsPrinted : tb_MV yX2_columnsPrinted cX2_columnsPrinted 3 (some .int) 2 0 := ⟨(tb_k3 165 (by decide +kernel) rfl), (tb_k3 166 (by decide +kernel) rfl), ki_X2, (tb_k3 167 rfl rfl), by decide +kernel, ⟨_, _, rfl⟩⟩
theorem kX3_init_code : Cond.code yX3_init cX3_init 1 none ∈ tb_ALL := tb_k1 135 rfl rfl
theorem kX3_init_inst : Cond.instanceMethod yX3_init ∈ tb_ALL := tb_k1 134 (by decide +kernel) rfl
theorem kX3_ticksOn : tb_MV yX3_ticksOn cX3_ticksOn 3 (some (.object "TypeBars$Basket")) 3 2 := ⟨(tb_k2 229 (by decide +kernel) rfl), (tb_k2 230 (by decide +kernel) rfl), ki_X3, (tb_k2 231 rfl rfl), by decide +kernel, ⟨_, _, rfl⟩⟩
theorem kX3_ticksToJam : tb_MV yX3_ticksToJam cX3_ticksToJam 3 (some .int) 3 1 := ⟨(tb_k3 7 (by decide +kernel) rfl), (tb_k3 8 (by decide +kernel) rfl), ki_X3, (tb_k3 9 rfl rfl), by decide +kernel, ⟨_, _, rfl⟩⟩
theorem kX3_leastWait : tb_MV yX3_leastWait cX3_leastWait 4 (some .int) 3 2 := ⟨(tb_k3 17 (by decide +kernel) rfl), (tb_k3 18 (by decide +kernel) rfl), ki_X3, (tb_k3 19 rfl rfl), by decide +kernel, ⟨_, _, rfl⟩⟩
theorem kX3_staysClear : tb_MV yX3_staysClear cX3_staysClear 2 (some .boolean) 3 1 := ⟨(tb_k3 23 (by decide +kernel) rfl), (tb_kp (q := (yX3_staysClear, 5)) (List.mem_of_getElem? (i := 12) (by decide +kernel))), ki_X3, (tb_k3 24 rfl rfl), by decide +kernel, ⟨_, _, rfl⟩⟩
theorem kX3_hear : tb_MV yX3_hear cX3_hear 5 none 3 3 := ⟨(tb_k3 31 (by decide +kernel) rfl), (tb_k3 32 (by decide +kernel) rfl), ki_X3, (tb_k3 33 rfl rfl), by decide +kernel, ⟨_, _, rfl⟩⟩
theorem kX3_paceAsItIs : tb_MV yX3_paceAsItIs cX3_paceAsItIs 2 (some .int) 3 1 := ⟨(tb_k3 36 (by decide +kernel) rfl), (tb_k3 37 (by decide +kernel) rfl), ki_X3, (tb_k3 38 rfl rfl), by decide +kernel, ⟨_, _, rfl⟩⟩
theorem kX3_bestSwap : tb_MV yX3_bestSwap cX3_bestSwap 7 (some .int) 3 1 := ⟨(tb_k3 52 (by decide +kernel) rfl), (tb_k3 53 (by decide +kernel) rfl), ki_X3, (tb_k3 54 rfl rfl), by decide +kernel, ⟨_, _, rfl⟩⟩
theorem kX3_leastPace : tb_MV yX3_leastPace cX3_leastPace 3 (some .int) 3 1 := ⟨(tb_k3 41 (by decide +kernel) rfl), (tb_kp (q := (yX3_leastPace, 5)) (List.mem_of_getElem? (i := 13) (by decide +kernel))), ki_X3, (tb_k3 42 rfl rfl), by decide +kernel, ⟨_, _, rfl⟩⟩
theorem kX3_goesAt : tb_MV yX3_goesAt cX3_goesAt 3 (some .boolean) 3 1 := ⟨(tb_k3 45 (by decide +kernel) rfl), (tb_kp (q := (yX3_goesAt, 5)) (List.mem_of_getElem? (i := 14) (by decide +kernel))), ki_X3, (tb_k3 46 rfl rfl), by decide +kernel, ⟨_, _, rfl⟩⟩
theorem kX3_fitting : tb_MV yX3_fitting cX3_fitting 8 (some .int) 3 3 := ⟨(tb_k3 61 (by decide +kernel) rfl), (tb_k3 62 (by decide +kernel) rfl), ki_X3, (tb_k3 63 rfl rfl), by decide +kernel, ⟨_, _, rfl⟩⟩
theorem kX3_mostOf : tb_MS yX3_mostOf cX3_mostOf 2 (some .int) 2 := ⟨(tb_k3 65 (by decide +kernel) rfl), ki_X3, (tb_k3 66 rfl rfl), by decide +kernel⟩
theorem kX3_suppose : tb_MV yX3_suppose cX3_suppose 4 none 3 3 := ⟨(tb_k3 69 (by decide +kernel) rfl), (tb_kp (q := (yX3_suppose, 5)) (List.mem_of_getElem? (i := 15) (by decide +kernel))), ki_X3, (tb_k3 70 rfl rfl), by decide +kernel, ⟨_, _, rfl⟩⟩
theorem kX3_risesAsHeard : tb_MV yX3_risesAsHeard cX3_risesAsHeard 3 (some .boolean) 3 1 := ⟨(tb_k3 75 (by decide +kernel) rfl), (tb_kp (q := (yX3_risesAsHeard, 5)) (List.mem_of_getElem? (i := 16) (by decide +kernel))), ki_X3, (tb_k3 76 rfl rfl), by decide +kernel, ⟨_, _, rfl⟩⟩
theorem kX3_waysClear : tb_MV yX3_waysClear cX3_waysClear 8 (some .long) 3 3 := ⟨(tb_k3 82 (by decide +kernel) rfl), (tb_k3 83 (by decide +kernel) rfl), ki_X3, (tb_k3 84 rfl rfl), by decide +kernel, ⟨_, _, rfl⟩⟩
theorem kX3_printedByDraws : tb_MV yX3_printedByDraws cX3_printedByDraws 9 (some .int) 3 3 := ⟨(tb_k3 100 (by decide +kernel) rfl), (tb_k3 101 (by decide +kernel) rfl), ki_X3, (tb_k3 102 rfl rfl), by decide +kernel, ⟨_, _, rfl⟩⟩
theorem kX4_init_code : Cond.code yX4_init cX4_init 1 none ∈ tb_ALL := tb_k1 175 rfl rfl
theorem kX4_init_inst : Cond.instanceMethod yX4_init ∈ tb_ALL := tb_k1 174 (by decide +kernel) rfl
theorem kX4_make : tb_MV yX4_make cX4_make 3 none 4 2 := ⟨(tb_k2 3 (by decide +kernel) rfl), (tb_k2 4 (by decide +kernel) rfl), ki_X4, (tb_k2 5 rfl rfl), by decide +kernel, ⟨_, _, rfl⟩⟩
theorem kX4_has : tb_MV yX4_has cX4_has 3 (some .boolean) 4 2 := ⟨(tb_k2 22 (by decide +kernel) rfl), (tb_k2 23 (by decide +kernel) rfl), ki_X4, (tb_k2 24 rfl rfl), by decide +kernel, ⟨_, _, rfl⟩⟩
theorem kX4_put : tb_MV yX4_put cX4_put 4 (some .int) 4 2 := ⟨(tb_k2 26 (by decide +kernel) rfl), (tb_k2 27 (by decide +kernel) rfl), ki_X4, (tb_k2 28 rfl rfl), by decide +kernel, ⟨_, _, rfl⟩⟩
theorem kX5_init_code : Cond.code yX5_init cX5_init 1 none ∈ tb_ALL := tb_k1 27 rfl rfl
theorem kX5_init_inst : Cond.instanceMethod yX5_init ∈ tb_ALL := tb_k1 26 (by decide +kernel) rfl
theorem kX5_take : tb_MV yX5_take cX5_take 2 (some .boolean) 5 1 := ⟨(tb_k2 45 (by decide +kernel) rfl), (tb_k2 46 (by decide +kernel) rfl), ki_X5, (tb_k2 47 rfl rfl), by decide +kernel, ⟨_, _, rfl⟩⟩
theorem kX5_readInto : tb_MV yX5_readInto cX5_readInto 4 (some .int) 5 1 := ⟨(tb_k2 54 (by decide +kernel) rfl), (tb_k2 55 (by decide +kernel) rfl), ki_X5, (tb_k2 56 rfl rfl), by decide +kernel, ⟨_, _, rfl⟩⟩
theorem kX5_readBar : tb_MV yX5_readBar cX5_readBar 5 (some .int) 5 1 := ⟨(tb_k2 68 (by decide +kernel) rfl), (tb_kp (q := (yX5_readBar, 3)) (List.mem_of_getElem? (i := 3) (by decide +kernel))), ki_X5, (tb_k2 69 rfl rfl), by decide +kernel, ⟨_, _, rfl⟩⟩
theorem kX5_byteAt : tb_MV yX5_byteAt cX5_byteAt 2 (some .int) 5 1 := ⟨(tb_k2 72 (by decide +kernel) rfl), (tb_kp (q := (yX5_byteAt, 3)) (List.mem_of_getElem? (i := 4) (by decide +kernel))), ki_X5, (tb_k2 73 rfl rfl), by decide +kernel, ⟨_, _, rfl⟩⟩
theorem kX5_figuresHere : tb_MV yX5_figuresHere cX5_figuresHere 2 (some .int) 5 0 := ⟨(tb_k2 80 (by decide +kernel) rfl), (tb_kp (q := (yX5_figuresHere, 3)) (List.mem_of_getElem? (i := 5) (by decide +kernel))), ki_X5, (tb_k2 81 rfl rfl), by decide +kernel, ⟨_, _, rfl⟩⟩
theorem kX5_numberHere : tb_MV yX5_numberHere cX5_numberHere 4 (some .int) 5 1 := ⟨(tb_k2 84 (by decide +kernel) rfl), (tb_kp (q := (yX5_numberHere, 3)) (List.mem_of_getElem? (i := 6) (by decide +kernel))), ki_X5, (tb_k2 85 rfl rfl), by decide +kernel, ⟨_, _, rfl⟩⟩
theorem kX5_sortOf : tb_MS yX5_sortOf cX5_sortOf 1 (some .int) 1 := ⟨(tb_k2 76 (by decide +kernel) rfl), ki_X5, (tb_k2 77 rfl rfl), by decide +kernel⟩
theorem kX6_init_code : Cond.code yX6_init cX6_init 2 none ∈ tb_ALL := tb_k1 17 rfl rfl
theorem kX6_init_inst : Cond.instanceMethod yX6_init ∈ tb_ALL := tb_k1 16 (by decide +kernel) rfl
theorem kX6_row : tb_MV yX6_row cX6_row 4 (some .int) 6 3 := ⟨(tb_k1 227 (by decide +kernel) rfl), (tb_k1 228 (by decide +kernel) rfl), ki_X6, (tb_k1 229 rfl rfl), by decide +kernel, ⟨_, _, rfl⟩⟩
theorem kX6_set : tb_MV yX6_set cX6_set 5 (some .int) 6 3 := ⟨(tb_k2 14 (by decide +kernel) rfl), (tb_k2 15 (by decide +kernel) rfl), ki_X6, (tb_k2 16 rfl rfl), by decide +kernel, ⟨_, _, rfl⟩⟩
theorem kX6_copy : tb_MV yX6_copy cX6_copy 8 (some .int) 6 5 := ⟨(tb_k2 30 (by decide +kernel) rfl), (tb_k2 31 (by decide +kernel) rfl), ki_X6, (tb_k2 32 rfl rfl), by decide +kernel, ⟨_, _, rfl⟩⟩
theorem kX6_drop : tb_MV yX6_drop cX6_drop 2 (some .int) 6 1 := ⟨(tb_k2 37 (by decide +kernel) rfl), (tb_k2 38 (by decide +kernel) rfl), ki_X6, (tb_k2 39 rfl rfl), by decide +kernel, ⟨_, _, rfl⟩⟩
theorem kX6_feed : tb_MV yX6_feed cX6_feed 2 (some .int) 6 1 := ⟨(tb_k2 41 (by decide +kernel) rfl), (tb_k2 42 (by decide +kernel) rfl), ki_X6, (tb_k2 43 rfl rfl), by decide +kernel, ⟨_, _, rfl⟩⟩
theorem kX6_basket : tb_MV yX6_basket cX6_basket 2 (some .int) 6 0 := ⟨(tb_k2 50 (by decide +kernel) rfl), (tb_k2 51 (by decide +kernel) rfl), ki_X6, (tb_k2 52 rfl rfl), by decide +kernel, ⟨_, _, rfl⟩⟩
theorem kX6_fault : tb_MV yX6_fault cX6_fault 1 (some .int) 6 0 := ⟨(tb_k2 105 (by decide +kernel) rfl), (tb_k2 106 (by decide +kernel) rfl), ki_X6, (tb_k2 107 rfl rfl), by decide +kernel, ⟨_, _, rfl⟩⟩
theorem kX6_ticks : tb_MV yX6_ticks cX6_ticks 3 (some .int) 6 1 := ⟨(tb_k2 109 (by decide +kernel) rfl), (tb_k2 110 (by decide +kernel) rfl), ki_X6, (tb_k2 111 rfl rfl), by decide +kernel, ⟨_, _, rfl⟩⟩
theorem kX6_key : tb_MV yX6_key cX6_key 2 (some .int) 6 1 := ⟨(tb_k2 159 (by decide +kernel) rfl), (tb_k2 160 (by decide +kernel) rfl), ki_X6, (tb_k2 161 rfl rfl), by decide +kernel, ⟨_, _, rfl⟩⟩
theorem kX6_free : tb_MV yX6_free cX6_free 2 (some .int) 6 0 := ⟨(tb_k2 180 (by decide +kernel) rfl), (tb_k2 181 (by decide +kernel) rfl), ki_X6, (tb_k2 182 rfl rfl), by decide +kernel, ⟨_, _, rfl⟩⟩
theorem kX6_back : tb_MV yX6_back cX6_back 2 (some .int) 6 0 := ⟨(tb_k2 189 (by decide +kernel) rfl), (tb_k2 190 (by decide +kernel) rfl), ki_X6, (tb_k2 191 rfl rfl), by decide +kernel, ⟨_, _, rfl⟩⟩
theorem kX6_swap : tb_MV yX6_swap cX6_swap 3 (some .int) 6 2 := ⟨(tb_k2 194 (by decide +kernel) rfl), (tb_k2 195 (by decide +kernel) rfl), ki_X6, (tb_k2 196 rfl rfl), by decide +kernel, ⟨_, _, rfl⟩⟩
theorem kX6_undo : tb_MV yX6_undo cX6_undo 1 (some .int) 6 0 := ⟨(tb_k2 202 (by decide +kernel) rfl), (tb_k2 203 (by decide +kernel) rfl), ki_X6, (tb_k2 204 rfl rfl), by decide +kernel, ⟨_, _, rfl⟩⟩
theorem kX6_bar : tb_MV yX6_bar cX6_bar 3 (some .int) 6 2 := ⟨(tb_k2 211 (by decide +kernel) rfl), (tb_k2 212 (by decide +kernel) rfl), ki_X6, (tb_k2 213 rfl rfl), by decide +kernel, ⟨_, _, rfl⟩⟩
theorem kX6_paper : tb_MV yX6_paper cX6_paper 3 (some .int) 6 1 := ⟨(tb_k2 221 (by decide +kernel) rfl), (tb_k2 222 (by decide +kernel) rfl), ki_X6, (tb_k2 223 rfl rfl), by decide +kernel, ⟨_, _, rfl⟩⟩
theorem kX6_height : tb_MV yX6_height cX6_height 3 (some .int) 6 2 := ⟨(tb_k2 225 (by decide +kernel) rfl), (tb_k2 226 (by decide +kernel) rfl), ki_X6, (tb_k2 227 rfl rfl), by decide +kernel, ⟨_, _, rfl⟩⟩
theorem kX6_later : tb_MV yX6_later cX6_later 4 (some .int) 6 2 := ⟨(tb_k2 239 (by decide +kernel) rfl), (tb_k3 0 (by decide +kernel) rfl), ki_X6, (tb_k3 1 rfl rfl), by decide +kernel, ⟨_, _, rfl⟩⟩
theorem kX6_jam : tb_MV yX6_jam cX6_jam 3 (some .int) 6 1 := ⟨(tb_k3 3 (by decide +kernel) rfl), (tb_k3 4 (by decide +kernel) rfl), ki_X6, (tb_k3 5 rfl rfl), by decide +kernel, ⟨_, _, rfl⟩⟩
theorem kX6_waits : tb_MV yX6_waits cX6_waits 2 (some .int) 6 1 := ⟨(tb_k3 13 (by decide +kernel) rfl), (tb_k3 14 (by decide +kernel) rfl), ki_X6, (tb_k3 15 rfl rfl), by decide +kernel, ⟨_, _, rfl⟩⟩
theorem kX6_pace : tb_MV yX6_pace cX6_pace 5 (some .int) 6 3 := ⟨(tb_k3 27 (by decide +kernel) rfl), (tb_k3 28 (by decide +kernel) rfl), ki_X6, (tb_k3 29 rfl rfl), by decide +kernel, ⟨_, _, rfl⟩⟩
theorem kX6_better : tb_MV yX6_better cX6_better 7 (some .int) 6 4 := ⟨(tb_k3 48 (by decide +kernel) rfl), (tb_k3 49 (by decide +kernel) rfl), ki_X6, (tb_k3 50 rfl rfl), by decide +kernel, ⟨_, _, rfl⟩⟩
theorem kX6_fits : tb_MV yX6_fits cX6_fits 7 (some .int) 6 5 := ⟨(tb_k3 57 (by decide +kernel) rfl), (tb_k3 58 (by decide +kernel) rfl), ki_X6, (tb_k3 59 rfl rfl), by decide +kernel, ⟨_, _, rfl⟩⟩
theorem kX6_chance : tb_MV yX6_chance cX6_chance 10 (some .int) 6 3 := ⟨(tb_k3 78 (by decide +kernel) rfl), (tb_k3 79 (by decide +kernel) rfl), ki_X6, (tb_k3 80 rfl rfl), by decide +kernel, ⟨_, _, rfl⟩⟩
theorem kX6_drawn : tb_MV yX6_drawn cX6_drawn 5 (some .int) 6 3 := ⟨(tb_k3 95 (by decide +kernel) rfl), (tb_k3 96 (by decide +kernel) rfl), ki_X6, (tb_k3 97 rfl rfl), by decide +kernel, ⟨_, _, rfl⟩⟩
theorem kX6_image : tb_MV yX6_image cX6_image 2 (some .int) 6 1 := ⟨(tb_k3 108 (by decide +kernel) rfl), (tb_k3 109 (by decide +kernel) rfl), ki_X6, (tb_k3 110 rfl rfl), by decide +kernel, ⟨_, _, rfl⟩⟩
theorem kX6_restore : tb_MV yX6_restore cX6_restore 2 (some .int) 6 1 := ⟨(tb_k3 112 (by decide +kernel) rfl), (tb_k3 113 (by decide +kernel) rfl), ki_X6, (tb_k3 114 rfl rfl), by decide +kernel, ⟨_, _, rfl⟩⟩
theorem kX6_kind : tb_MV yX6_kind cX6_kind 2 (some .int) 6 1 := ⟨(tb_k3 116 (by decide +kernel) rfl), (tb_k3 117 (by decide +kernel) rfl), ki_X6, (tb_k3 118 rfl rfl), by decide +kernel, ⟨_, _, rfl⟩⟩
theorem kX6_as : tb_MV yX6_as cX6_as 3 (some .int) 6 2 := ⟨(tb_k3 120 (by decide +kernel) rfl), (tb_k3 121 (by decide +kernel) rfl), ki_X6, (tb_k3 122 rfl rfl), by decide +kernel, ⟨_, _, rfl⟩⟩
theorem kX6_ask : tb_MV yX6_ask cX6_ask 3 (some .int) 6 2 := ⟨(tb_k3 129 (by decide +kernel) rfl), (tb_k3 130 (by decide +kernel) rfl), ki_X6, (tb_k3 131 rfl rfl), by decide +kernel, ⟨_, _, rfl⟩⟩
theorem kX6_trace : tb_MV yX6_trace cX6_trace 2 (some .int) 6 1 := ⟨(tb_k3 153 (by decide +kernel) rfl), (tb_k3 154 (by decide +kernel) rfl), ki_X6, (tb_k3 155 rfl rfl), by decide +kernel, ⟨_, _, rfl⟩⟩
theorem kX6_count : tb_MV yX6_count cX6_count 2 (some .int) 6 1 := ⟨(tb_k3 157 (by decide +kernel) rfl), (tb_k3 158 (by decide +kernel) rfl), ki_X6, (tb_k3 159 rfl rfl), by decide +kernel, ⟨_, _, rfl⟩⟩
theorem kX6_status : tb_MV yX6_status cX6_status 1 (some .int) 6 0 := ⟨(tb_k3 169 (by decide +kernel) rfl), (tb_k3 170 (by decide +kernel) rfl), ki_X6, (tb_k3 171 rfl rfl), by decide +kernel, ⟨_, _, rfl⟩⟩
theorem kX6_found : tb_MV yX6_found cX6_found 2 (some .int) 6 1 := ⟨(tb_k1 239 (by decide +kernel) rfl), (tb_kp (q := (yX6_found, 10)) (List.mem_of_getElem? (i := 0) (by decide +kernel))), ki_X6, (tb_k2 0 rfl rfl), by decide +kernel, ⟨_, _, rfl⟩⟩
theorem kX6_fine : tb_MV yX6_fine cX6_fine 2 (some .int) 6 1 := ⟨(tb_k2 11 (by decide +kernel) rfl), (tb_kp (q := (yX6_fine, 10)) (List.mem_of_getElem? (i := 1) (by decide +kernel))), ki_X6, (tb_k2 12 rfl rfl), by decide +kernel, ⟨_, _, rfl⟩⟩
theorem kX6_findingOf : tb_MV yX6_findingOf cX6_findingOf 4 (some .int) 6 3 := ⟨(tb_k2 19 (by decide +kernel) rfl), (tb_kp (q := (yX6_findingOf, 10)) (List.mem_of_getElem? (i := 2) (by decide +kernel))), ki_X6, (tb_k2 20 rfl rfl), by decide +kernel, ⟨_, _, rfl⟩⟩
theorem kX6_countRows : tb_MV yX6_countRows cX6_countRows 3 (some .int) 6 0 := ⟨(tb_k3 162 (by decide +kernel) rfl), (tb_kp (q := (yX6_countRows, 10)) (List.mem_of_getElem? (i := 19) (by decide +kernel))), ki_X6, (tb_k3 163 rfl rfl), by decide +kernel, ⟨_, _, rfl⟩⟩
theorem kX6_isRow : tb_MS yX6_isRow cX6_isRow 1 (some .boolean) 1 := ⟨(tb_k1 231 (by decide +kernel) rfl), ki_X6, (tb_k1 232 rfl rfl), by decide +kernel⟩
theorem kX6_within : tb_MS yX6_within cX6_within 3 (some .boolean) 3 := ⟨(tb_k1 234 (by decide +kernel) rfl), ki_X6, (tb_k1 235 rfl rfl), by decide +kernel⟩
theorem kX6_isA : tb_MS yX6_isA cX6_isA 4 (some .boolean) 2 := ⟨(tb_k3 124 (by decide +kernel) rfl), ki_X6, (tb_k3 125 rfl rfl), by decide +kernel⟩
theorem kX6_power : tb_MS yX6_power cX6_power 5 (some .long) 2 := ⟨(tb_k3 88 (by decide +kernel) rfl), ki_X6, (tb_k3 89 rfl rfl), by decide +kernel⟩
theorem kX6_commonDivisor : tb_MS yX6_commonDivisor cX6_commonDivisor 11 (some .long) 2 := ⟨(tb_k3 92 (by decide +kernel) rfl), ki_X6, (tb_k3 93 rfl rfl), by decide +kernel⟩
theorem kX7_init_code : Cond.code yX7_init cX7_init 2 none ∈ tb_ALL := tb_k3 176 rfl rfl
theorem kX7_init_inst : Cond.instanceMethod yX7_init ∈ tb_ALL := tb_k3 175 (by decide +kernel) rfl
theorem kX7_in : tb_MS yX7_in cX7_in 3 (some .boolean) 3 := ⟨(tb_k4 5 (by decide +kernel) rfl), ki_X7, (tb_k4 6 rfl rfl), by decide +kernel⟩
theorem kX7_isRow : tb_MS yX7_isRow cX7_isRow 1 (some .boolean) 1 := ⟨(tb_k4 2 (by decide +kernel) rfl), ki_X7, (tb_k4 3 rfl rfl), by decide +kernel⟩
theorem kX7_ends : tb_MV yX7_ends cX7_ends 2 (some .int) 7 1 := ⟨(tb_k4 11 (by decide +kernel) rfl), (tb_kp (q := (yX7_ends, 19)) (List.mem_of_getElem? (i := 20) (by decide +kernel))), ki_X7, (tb_k4 12 rfl rfl), by decide +kernel, ⟨_, _, rfl⟩⟩
theorem kX7_cut : tb_MS yX7_cut cX7_cut 2 (some .int) 2 := ⟨(tb_k4 26 (by decide +kernel) rfl), ki_X7, (tb_k4 27 rfl rfl), by decide +kernel⟩
theorem kX7_row : tb_MV yX7_row cX7_row 5 (some .int) 7 3 := ⟨(tb_k3 238 (by decide +kernel) rfl), (tb_k3 239 (by decide +kernel) rfl), ki_X7, (tb_k4 0 rfl rfl), by decide +kernel, ⟨_, _, rfl⟩⟩
theorem kX7_lies : tb_MV yX7_lies cX7_lies 4 (some .boolean) 7 3 := ⟨(tb_k4 22 (by decide +kernel) rfl), (tb_kp (q := (yX7_lies, 19)) (List.mem_of_getElem? (i := 21) (by decide +kernel))), ki_X7, (tb_k4 23 rfl rfl), by decide +kernel, ⟨_, _, rfl⟩⟩
theorem kX7_set : tb_MV yX7_set cX7_set 5 (some .int) 7 3 := ⟨(tb_k4 17 (by decide +kernel) rfl), (tb_k4 18 (by decide +kernel) rfl), ki_X7, (tb_k4 19 rfl rfl), by decide +kernel, ⟨_, _, rfl⟩⟩
theorem kX7_copy : tb_MV yX7_copy cX7_copy 7 (some .int) 7 5 := ⟨(tb_k4 29 (by decide +kernel) rfl), (tb_k4 30 (by decide +kernel) rfl), ki_X7, (tb_k4 31 rfl rfl), by decide +kernel, ⟨_, _, rfl⟩⟩
theorem kX7_drop : tb_MV yX7_drop cX7_drop 3 (some .int) 7 1 := ⟨(tb_k4 33 (by decide +kernel) rfl), (tb_k4 34 (by decide +kernel) rfl), ki_X7, (tb_k4 35 rfl rfl), by decide +kernel, ⟨_, _, rfl⟩⟩
theorem kX7_feed : tb_MV yX7_feed cX7_feed 2 (some .int) 7 1 := ⟨(tb_k4 37 (by decide +kernel) rfl), (tb_k4 38 (by decide +kernel) rfl), ki_X7, (tb_k4 39 rfl rfl), by decide +kernel, ⟨_, _, rfl⟩⟩
theorem kX7_letterAt : tb_MV yX7_letterAt cX7_letterAt 2 (some .int) 7 1 := ⟨(tb_k4 51 (by decide +kernel) rfl), (tb_kp (q := (yX7_letterAt, 19)) (List.mem_of_getElem? (i := 23) (by decide +kernel))), ki_X7, (tb_k4 52 rfl rfl), by decide +kernel, ⟨_, _, rfl⟩⟩
theorem kX7_isDigit : tb_MS yX7_isDigit cX7_isDigit 1 (some .boolean) 1 := ⟨(tb_k4 65 (by decide +kernel) rfl), ki_X7, (tb_k4 66 rfl rfl), by decide +kernel⟩
theorem kX7_fails : tb_MV yX7_fails cX7_fails 2 (some .boolean) 7 1 := ⟨(tb_k4 58 (by decide +kernel) rfl), (tb_kp (q := (yX7_fails, 19)) (List.mem_of_getElem? (i := 24) (by decide +kernel))), ki_X7, (tb_k4 59 rfl rfl), by decide +kernel, ⟨_, _, rfl⟩⟩
theorem kX7_reads : tb_MV yX7_reads cX7_reads 4 (some .boolean) 7 1 := ⟨(tb_k4 62 (by decide +kernel) rfl), (tb_kp (q := (yX7_reads, 19)) (List.mem_of_getElem? (i := 25) (by decide +kernel))), ki_X7, (tb_k4 63 rfl rfl), by decide +kernel, ⟨_, _, rfl⟩⟩
theorem kX7_kindBy : tb_MS yX7_kindBy cX7_kindBy 1 (some .int) 1 := ⟨(tb_k4 54 (by decide +kernel) rfl), ki_X7, (tb_k4 55 rfl rfl), by decide +kernel⟩
theorem kX7_readsAll : tb_MV yX7_readsAll cX7_readsAll 3 (some .boolean) 7 0 := ⟨(tb_k4 47 (by decide +kernel) rfl), (tb_kp (q := (yX7_readsAll, 19)) (List.mem_of_getElem? (i := 22) (by decide +kernel))), ki_X7, (tb_k4 48 rfl rfl), by decide +kernel, ⟨_, _, rfl⟩⟩
theorem kX7_basket : tb_MV yX7_basket cX7_basket 3 (some .int) 7 0 := ⟨(tb_k4 42 (by decide +kernel) rfl), (tb_k4 43 (by decide +kernel) rfl), ki_X7, (tb_k4 44 rfl rfl), by decide +kernel, ⟨_, _, rfl⟩⟩
theorem kX7_fault : tb_MV yX7_fault cX7_fault 1 (some .int) 7 0 := ⟨(tb_k4 69 (by decide +kernel) rfl), (tb_k4 70 (by decide +kernel) rfl), ki_X7, (tb_k4 71 rfl rfl), by decide +kernel, ⟨_, _, rfl⟩⟩
theorem kX7_isBasket : tb_MV yX7_isBasket cX7_isBasket 1 (some .boolean) 7 0 := ⟨(tb_k4 78 (by decide +kernel) rfl), (tb_kp (q := (yX7_isBasket, 19)) (List.mem_of_getElem? (i := 26) (by decide +kernel))), ki_X7, (tb_k4 79 rfl rfl), by decide +kernel, ⟨_, _, rfl⟩⟩
theorem kX7_isBar : tb_MV yX7_isBar cX7_isBar 2 (some .boolean) 7 1 := ⟨(tb_k4 112 (by decide +kernel) rfl), (tb_kp (q := (yX7_isBar, 19)) (List.mem_of_getElem? (i := 28) (by decide +kernel))), ki_X7, (tb_k4 113 rfl rfl), by decide +kernel, ⟨_, _, rfl⟩⟩
theorem kX7_keeps : tb_MV yX7_keeps cX7_keeps 2 none 7 0 := ⟨(tb_k4 83 (by decide +kernel) rfl), (tb_kp (q := (yX7_keeps, 19)) (List.mem_of_getElem? (i := 27) (by decide +kernel))), ki_X7, (tb_k4 84 rfl rfl), by decide +kernel, ⟨_, _, rfl⟩⟩
theorem kX7_top : tb_MS yX7_top cX7_top 2 (some .int) 2 := ⟨(tb_k4 92 (by decide +kernel) rfl), ki_X7, (tb_k4 93 rfl rfl), by decide +kernel⟩
theorem kX7_high : tb_MS yX7_high cX7_high 5 (some .int) 2 := ⟨(tb_k4 89 (by decide +kernel) rfl), ki_X7, (tb_k4 90 rfl rfl), by decide +kernel⟩
theorem kX7_meets : tb_MS yX7_meets cX7_meets 7 (some .boolean) 3 := ⟨(tb_k4 95 (by decide +kernel) rfl), ki_X7, (tb_k4 96 rfl rfl), by decide +kernel⟩
theorem kX7_prints : tb_MS yX7_prints cX7_prints 3 none 2 := ⟨(tb_k4 101 (by decide +kernel) rfl), ki_X7, (tb_k4 102 rfl rfl), by decide +kernel⟩
theorem kX7_tick : tb_MS yX7_tick cX7_tick 5 (some .int) 1 := ⟨(tb_k4 86 (by decide +kernel) rfl), ki_X7, (tb_k4 87 rfl rfl), by decide +kernel⟩
theorem kX7_has : tb_MS yX7_has cX7_has 2 (some .boolean) 2 := ⟨(tb_k4 98 (by decide +kernel) rfl), ki_X7, (tb_k4 99 rfl rfl), by decide +kernel⟩
theorem kX7_hanging : tb_MS yX7_hanging cX7_hanging 3 (some .int) 1 := ⟨(tb_k4 104 (by decide +kernel) rfl), ki_X7, (tb_k4 105 rfl rfl), by decide +kernel⟩
theorem kX7_moving : tb_MS yX7_moving cX7_moving 3 (some .int) 1 := ⟨(tb_k4 118 (by decide +kernel) rfl), ki_X7, (tb_k4 119 rfl rfl), by decide +kernel⟩
theorem kX7_rests : tb_MS yX7_rests cX7_rests 2 (some .boolean) 2 := ⟨(tb_k4 115 (by decide +kernel) rfl), ki_X7, (tb_k4 116 rfl rfl), by decide +kernel⟩
theorem kX7_frees : tb_MS yX7_frees cX7_frees 2 none 1 := ⟨(tb_k4 128 (by decide +kernel) rfl), ki_X7, (tb_k4 129 rfl rfl), by decide +kernel⟩
theorem kX7_exchanges : tb_MS yX7_exchanges cX7_exchanges 4 none 3 := ⟨(tb_k4 139 (by decide +kernel) rfl), ki_X7, (tb_k4 140 rfl rfl), by decide +kernel⟩
theorem kX7_ticks : tb_MV yX7_ticks cX7_ticks 3 (some .int) 7 1 := ⟨(tb_k4 73 (by decide +kernel) rfl), (tb_k4 74 (by decide +kernel) rfl), ki_X7, (tb_k4 75 rfl rfl), by decide +kernel, ⟨_, _, rfl⟩⟩
theorem kX7_key : tb_MV yX7_key cX7_key 2 (some .int) 7 1 := ⟨(tb_k4 107 (by decide +kernel) rfl), (tb_k4 108 (by decide +kernel) rfl), ki_X7, (tb_k4 109 rfl rfl), by decide +kernel, ⟨_, _, rfl⟩⟩
theorem kX7_ones : tb_MS yX7_ones cX7_ones 3 (some .int) 1 := ⟨(tb_k4 125 (by decide +kernel) rfl), ki_X7, (tb_k4 126 rfl rfl), by decide +kernel⟩
theorem kX7_free : tb_MV yX7_free cX7_free 2 (some .int) 7 0 := ⟨(tb_k4 121 (by decide +kernel) rfl), (tb_k4 122 (by decide +kernel) rfl), ki_X7, (tb_k4 123 rfl rfl), by decide +kernel, ⟨_, _, rfl⟩⟩
theorem kX7_back : tb_MV yX7_back cX7_back 3 (some .int) 7 0 := ⟨(tb_k4 131 (by decide +kernel) rfl), (tb_k4 132 (by decide +kernel) rfl), ki_X7, (tb_k4 133 rfl rfl), by decide +kernel, ⟨_, _, rfl⟩⟩
theorem kX7_swap : tb_MV yX7_swap cX7_swap 3 (some .int) 7 2 := ⟨(tb_k4 135 (by decide +kernel) rfl), (tb_k4 136 (by decide +kernel) rfl), ki_X7, (tb_k4 137 rfl rfl), by decide +kernel, ⟨_, _, rfl⟩⟩
theorem kX7_undo : tb_MV yX7_undo cX7_undo 2 (some .int) 7 0 := ⟨(tb_k4 142 (by decide +kernel) rfl), (tb_k4 143 (by decide +kernel) rfl), ki_X7, (tb_k4 144 rfl rfl), by decide +kernel, ⟨_, _, rfl⟩⟩
theorem kX7_bar : tb_MV yX7_bar cX7_bar 3 (some .int) 7 2 := ⟨(tb_k4 146 (by decide +kernel) rfl), (tb_k4 147 (by decide +kernel) rfl), ki_X7, (tb_k4 148 rfl rfl), by decide +kernel, ⟨_, _, rfl⟩⟩
theorem kX7_paper : tb_MV yX7_paper cX7_paper 2 (some .int) 7 1 := ⟨(tb_k4 151 (by decide +kernel) rfl), (tb_k4 152 (by decide +kernel) rfl), ki_X7, (tb_k4 153 rfl rfl), by decide +kernel, ⟨_, _, rfl⟩⟩
theorem kX7_copies : tb_MS yX7_copies cX7_copies 3 none 2 := ⟨(tb_k4 163 (by decide +kernel) rfl), ki_X7, (tb_k4 164 rfl rfl), by decide +kernel⟩
theorem kX7_goesOn : tb_MV yX7_goesOn cX7_goesOn 3 none 7 1 := ⟨(tb_k4 160 (by decide +kernel) rfl), (tb_kp (q := (yX7_goesOn, 19)) (List.mem_of_getElem? (i := 29) (by decide +kernel))), ki_X7, (tb_k4 161 rfl rfl), by decide +kernel, ⟨_, _, rfl⟩⟩
theorem kX7_height : tb_MV yX7_height cX7_height 3 (some .int) 7 2 := ⟨(tb_k4 155 (by decide +kernel) rfl), (tb_k4 156 (by decide +kernel) rfl), ki_X7, (tb_k4 157 rfl rfl), by decide +kernel, ⟨_, _, rfl⟩⟩
theorem kX7_later : tb_MV yX7_later cX7_later 3 (some .int) 7 2 := ⟨(tb_k4 166 (by decide +kernel) rfl), (tb_k4 167 (by decide +kernel) rfl), ki_X7, (tb_k4 168 rfl rfl), by decide +kernel, ⟨_, _, rfl⟩⟩
theorem kX7_jam : tb_MV yX7_jam cX7_jam 3 (some .int) 7 1 := ⟨(tb_k4 170 (by decide +kernel) rfl), (tb_k4 171 (by decide +kernel) rfl), ki_X7, (tb_k4 172 rfl rfl), by decide +kernel, ⟨_, _, rfl⟩⟩
theorem kX7_clear : tb_MV yX7_clear cX7_clear 5 (some .boolean) 7 2 := ⟨(tb_k4 179 (by decide +kernel) rfl), (tb_kp (q := (yX7_clear, 19)) (List.mem_of_getElem? (i := 30) (by decide +kernel))), ki_X7, (tb_k4 180 rfl rfl), by decide +kernel, ⟨_, _, rfl⟩⟩
theorem kX7_waits : tb_MV yX7_waits cX7_waits 4 (some .int) 7 1 := ⟨(tb_k4 174 (by decide +kernel) rfl), (tb_k4 175 (by decide +kernel) rfl), ki_X7, (tb_k4 176 rfl rfl), by decide +kernel, ⟨_, _, rfl⟩⟩
theorem kX7_paceBy : tb_MV yX7_paceBy cX7_paceBy 10 (some .int) 7 4 := ⟨(tb_k4 187 (by decide +kernel) rfl), (tb_kp (q := (yX7_paceBy, 19)) (List.mem_of_getElem? (i := 31) (by decide +kernel))), ki_X7, (tb_k4 188 rfl rfl), by decide +kernel, ⟨_, _, rfl⟩⟩
theorem kX7_pace : tb_MV yX7_pace cX7_pace 4 (some .int) 7 3 := ⟨(tb_k4 182 (by decide +kernel) rfl), (tb_k4 183 (by decide +kernel) rfl), ki_X7, (tb_k4 184 rfl rfl), by decide +kernel, ⟨_, _, rfl⟩⟩
theorem kX7_better : tb_MV yX7_better cX7_better 10 (some .int) 7 4 := ⟨(tb_k4 190 (by decide +kernel) rfl), (tb_k4 191 (by decide +kernel) rfl), ki_X7, (tb_k4 192 rfl rfl), by decide +kernel, ⟨_, _, rfl⟩⟩
theorem kX7_isSo : tb_MV yX7_isSo cX7_isSo 6 (some .boolean) 7 3 := ⟨(tb_k4 203 (by decide +kernel) rfl), (tb_kp (q := (yX7_isSo, 19)) (List.mem_of_getElem? (i := 33) (by decide +kernel))), ki_X7, (tb_k4 204 rfl rfl), by decide +kernel, ⟨_, _, rfl⟩⟩
theorem kX7_becomes : tb_MV yX7_becomes cX7_becomes 5 none 7 3 := ⟨(tb_k4 199 (by decide +kernel) rfl), (tb_kp (q := (yX7_becomes, 19)) (List.mem_of_getElem? (i := 32) (by decide +kernel))), ki_X7, (tb_k4 200 rfl rfl), by decide +kernel, ⟨_, _, rfl⟩⟩
theorem kX7_fits : tb_MV yX7_fits cX7_fits 9 (some .int) 7 5 := ⟨(tb_k4 194 (by decide +kernel) rfl), (tb_k4 195 (by decide +kernel) rfl), ki_X7, (tb_k4 196 rfl rfl), by decide +kernel, ⟨_, _, rfl⟩⟩
theorem kX7_chance : tb_MV yX7_chance cX7_chance 10 (some .int) 7 3 := ⟨(tb_k4 206 (by decide +kernel) rfl), (tb_k4 207 (by decide +kernel) rfl), ki_X7, (tb_k4 208 rfl rfl), by decide +kernel, ⟨_, _, rfl⟩⟩
theorem kX7_drawn : tb_MV yX7_drawn cX7_drawn 9 (some .int) 7 3 := ⟨(tb_k4 210 (by decide +kernel) rfl), (tb_k4 211 (by decide +kernel) rfl), ki_X7, (tb_k4 212 rfl rfl), by decide +kernel, ⟨_, _, rfl⟩⟩
theorem kX7_image : tb_MV yX7_image cX7_image 3 (some .int) 7 1 := ⟨(tb_k4 219 (by decide +kernel) rfl), (tb_k4 220 (by decide +kernel) rfl), ki_X7, (tb_k4 221 rfl rfl), by decide +kernel, ⟨_, _, rfl⟩⟩
theorem kX7_restore : tb_MV yX7_restore cX7_restore 3 (some .int) 7 1 := ⟨(tb_k4 223 (by decide +kernel) rfl), (tb_k4 224 (by decide +kernel) rfl), ki_X7, (tb_k4 225 rfl rfl), by decide +kernel, ⟨_, _, rfl⟩⟩
theorem kX7_kind : tb_MV yX7_kind cX7_kind 2 (some .int) 7 1 := ⟨(tb_k4 227 (by decide +kernel) rfl), (tb_k4 228 (by decide +kernel) rfl), ki_X7, (tb_k4 229 rfl rfl), by decide +kernel, ⟨_, _, rfl⟩⟩
theorem kX7_as : tb_MV yX7_as cX7_as 5 (some .int) 7 2 := ⟨(tb_k4 231 (by decide +kernel) rfl), (tb_k4 232 (by decide +kernel) rfl), ki_X7, (tb_k4 233 rfl rfl), by decide +kernel, ⟨_, _, rfl⟩⟩
theorem kX7_begins : tb_MV yX7_begins cX7_begins 2 none 7 1 := ⟨(tb_k5 5 (by decide +kernel) rfl), (tb_kp (q := (yX7_begins, 19)) (List.mem_of_getElem? (i := 35) (by decide +kernel))), ki_X7, (tb_k5 6 rfl rfl), by decide +kernel, ⟨_, _, rfl⟩⟩
theorem kX7_size : tb_MV yX7_size cX7_size 5 (some .int) 7 1 := ⟨(tb_k5 1 (by decide +kernel) rfl), (tb_kp (q := (yX7_size, 19)) (List.mem_of_getElem? (i := 34) (by decide +kernel))), ki_X7, (tb_k5 2 rfl rfl), by decide +kernel, ⟨_, _, rfl⟩⟩
theorem kX7_plain : tb_MV yX7_plain cX7_plain 4 (some .int) 7 1 := ⟨(tb_k5 9 (by decide +kernel) rfl), (tb_kp (q := (yX7_plain, 19)) (List.mem_of_getElem? (i := 36) (by decide +kernel))), ki_X7, (tb_k5 10 rfl rfl), by decide +kernel, ⟨_, _, rfl⟩⟩
theorem kX7_ask : tb_MV yX7_ask cX7_ask 3 (some .int) 7 2 := ⟨(tb_k4 236 (by decide +kernel) rfl), (tb_k4 237 (by decide +kernel) rfl), ki_X7, (tb_k4 238 rfl rfl), by decide +kernel, ⟨_, _, rfl⟩⟩
theorem kX7_trace : tb_MV yX7_trace cX7_trace 2 (some .int) 7 1 := ⟨(tb_k5 12 (by decide +kernel) rfl), (tb_k5 13 (by decide +kernel) rfl), ki_X7, (tb_k5 14 rfl rfl), by decide +kernel, ⟨_, _, rfl⟩⟩
theorem kX7_count : tb_MV yX7_count cX7_count 4 (some .int) 7 1 := ⟨(tb_k5 16 (by decide +kernel) rfl), (tb_k5 17 (by decide +kernel) rfl), ki_X7, (tb_k5 18 rfl rfl), by decide +kernel, ⟨_, _, rfl⟩⟩
theorem kX7_status : tb_MV yX7_status cX7_status 1 (some .int) 7 0 := ⟨(tb_k5 20 (by decide +kernel) rfl), (tb_k5 21 (by decide +kernel) rfl), ki_X7, (tb_k5 22 rfl rfl), by decide +kernel, ⟨_, _, rfl⟩⟩
theorem kJ6_bitCount_0f7a4 : tb_MS yJ6_bitCount_0f7a4 cJ6_bitCount_0f7a4 1 (some .int) 1 := ⟨(tb_k2 145 (by decide +kernel) rfl), ki_J6, (tb_k2 146 rfl rfl), by decide +kernel⟩
theorem kJ9_max_7cf53 : tb_MS yJ9_max_7cf53 cJ9_max_7cf53 2 (some .int) 2 := ⟨(tb_k2 138 (by decide +kernel) rfl), ki_J9, (tb_k2 139 rfl rfl), by decide +kernel⟩
theorem kJ9_min_7cf53 : tb_MS yJ9_min_7cf53 cJ9_min_7cf53 2 (some .int) 2 := ⟨(tb_k2 119 (by decide +kernel) rfl), ki_J9, (tb_k2 120 rfl rfl), by decide +kernel⟩
theorem kJ7_fill_53178 : tb_MS yJ7_fill_53178 cJ7_fill_53178 4 none 2 := ⟨(tb_k2 7 (by decide +kernel) rfl), ki_J7, (tb_k2 8 rfl rfl), by decide +kernel⟩
theorem inlX0 : ∀ w ∈ wsX00, w ∈ tb_ALL := fun w h => List.mem_filter.mpr ⟨((goodIn_r wsX00 [161, 163, 165] (by decide +kernel) (by decide +kernel)) w h).1, List.all_eq_true.mp (show wsX00.all goodWord = true from by decide +kernel) w h⟩
theorem inlX1 : ∀ w ∈ wsX10, w ∈ tb_ALL := fun w h => List.mem_filter.mpr ⟨((goodIn_r wsX10 [204, 206] (by decide +kernel) (by decide +kernel)) w h).1, List.all_eq_true.mp (show wsX10.all goodWord = true from by decide +kernel) w h⟩
theorem inlX2 : ∀ w ∈ wsX20, w ∈ tb_ALL := fun w h => List.mem_filter.mpr ⟨((goodIn_r wsX20 [121, 123, 125, 127, 129, 131, 133, 135, 137, 139, 141, 143, 145] (by decide +kernel) (by decide +kernel)) w h).1, List.all_eq_true.mp (show wsX20.all goodWord = true from by decide +kernel) w h⟩
theorem inlX3 : ∀ w ∈ wsX30, w ∈ tb_ALL := fun w h => List.mem_filter.mpr ⟨((goodIn_r wsX30 [183, 185, 187, 189, 191] (by decide +kernel) (by decide +kernel)) w h).1, List.all_eq_true.mp (show wsX30.all goodWord = true from by decide +kernel) w h⟩
theorem inlX4 : ∀ w ∈ wsX40, w ∈ tb_ALL := fun w h => List.mem_filter.mpr ⟨((goodIn_r wsX40 [223, 225, 227, 229] (by decide +kernel) (by decide +kernel)) w h).1, List.all_eq_true.mp (show wsX40.all goodWord = true from by decide +kernel) w h⟩
theorem inlX5 : ∀ w ∈ wsX50, w ∈ tb_ALL := fun w h => List.mem_filter.mpr ⟨((goodIn_r wsX50 [71, 73, 75] (by decide +kernel) (by decide +kernel)) w h).1, List.all_eq_true.mp (show wsX50.all goodWord = true from by decide +kernel) w h⟩
theorem inlX6 : ∀ w ∈ wsX60, w ∈ tb_ALL := fun w h => List.mem_filter.mpr ⟨((goodIn_r wsX60 [242, 244, 246, 248, 250, 252, 254, 256, 258, 260] (by decide +kernel) (by decide +kernel)) w h).1, List.all_eq_true.mp (show wsX60.all goodWord = true from by decide +kernel) w h⟩
theorem inlX7 : ∀ w ∈ wsX70, w ∈ tb_ALL := fun w h => List.mem_filter.mpr ⟨((goodIn_r wsX70 [714, 716, 718, 720, 722, 724, 726, 728, 730, 732, 734, 736, 738, 740, 742, 744, 746, 748, 750] (by decide +kernel) (by decide +kernel)) w h).1, List.all_eq_true.mp (show wsX70.all goodWord = true from by decide +kernel) w h⟩
end
section
theorem dJ6_bitCount_0f7a4_0 : decode cJ6_bitCount_0f7a4 0 = .ok (.iload_n 0, 1) := by decide +kernel
theorem dJ6_bitCount_0f7a4_1 : decode cJ6_bitCount_0f7a4 1 = .ok (.iload_n 0, 1) := by decide +kernel
theorem dJ6_bitCount_0f7a4_2 : decode cJ6_bitCount_0f7a4 2 = .ok (.iconst 1, 1) := by decide +kernel
theorem dJ6_bitCount_0f7a4_3 : decode cJ6_bitCount_0f7a4 3 = .ok (.iushr, 1) := by decide +kernel
theorem dJ6_bitCount_0f7a4_4 : decode cJ6_bitCount_0f7a4 4 = .ok (.ldc_w 265, 3) := by decide +kernel
theorem dJ6_bitCount_0f7a4_7 : decode cJ6_bitCount_0f7a4 7 = .ok (.iand, 1) := by decide +kernel
theorem dJ6_bitCount_0f7a4_8 : decode cJ6_bitCount_0f7a4 8 = .ok (.isub, 1) := by decide +kernel
theorem dJ6_bitCount_0f7a4_9 : decode cJ6_bitCount_0f7a4 9 = .ok (.istore_n 0, 1) := by decide +kernel
theorem dJ6_bitCount_0f7a4_10 : decode cJ6_bitCount_0f7a4 10 = .ok (.iload_n 0, 1) := by decide +kernel
theorem dJ6_bitCount_0f7a4_11 : decode cJ6_bitCount_0f7a4 11 = .ok (.ldc_w 266, 3) := by decide +kernel
theorem dJ6_bitCount_0f7a4_14 : decode cJ6_bitCount_0f7a4 14 = .ok (.iand, 1) := by decide +kernel
theorem dJ6_bitCount_0f7a4_15 : decode cJ6_bitCount_0f7a4 15 = .ok (.iload_n 0, 1) := by decide +kernel
theorem dJ6_bitCount_0f7a4_16 : decode cJ6_bitCount_0f7a4 16 = .ok (.iconst 2, 1) := by decide +kernel
theorem dJ6_bitCount_0f7a4_17 : decode cJ6_bitCount_0f7a4 17 = .ok (.iushr, 1) := by decide +kernel
theorem dJ6_bitCount_0f7a4_18 : decode cJ6_bitCount_0f7a4 18 = .ok (.ldc_w 266, 3) := by decide +kernel
theorem dJ6_bitCount_0f7a4_21 : decode cJ6_bitCount_0f7a4 21 = .ok (.iand, 1) := by decide +kernel
theorem dJ6_bitCount_0f7a4_22 : decode cJ6_bitCount_0f7a4 22 = .ok (.iadd, 1) := by decide +kernel
theorem dJ6_bitCount_0f7a4_23 : decode cJ6_bitCount_0f7a4 23 = .ok (.istore_n 0, 1) := by decide +kernel
theorem dJ6_bitCount_0f7a4_24 : decode cJ6_bitCount_0f7a4 24 = .ok (.iload_n 0, 1) := by decide +kernel
theorem dJ6_bitCount_0f7a4_25 : decode cJ6_bitCount_0f7a4 25 = .ok (.iload_n 0, 1) := by decide +kernel
theorem dJ6_bitCount_0f7a4_26 : decode cJ6_bitCount_0f7a4 26 = .ok (.iconst 4, 1) := by decide +kernel
theorem dJ6_bitCount_0f7a4_27 : decode cJ6_bitCount_0f7a4 27 = .ok (.iushr, 1) := by decide +kernel
theorem dJ6_bitCount_0f7a4_28 : decode cJ6_bitCount_0f7a4 28 = .ok (.iadd, 1) := by decide +kernel
theorem dJ6_bitCount_0f7a4_29 : decode cJ6_bitCount_0f7a4 29 = .ok (.ldc_w 267, 3) := by decide +kernel
theorem dJ6_bitCount_0f7a4_32 : decode cJ6_bitCount_0f7a4 32 = .ok (.iand, 1) := by decide +kernel
theorem dJ6_bitCount_0f7a4_33 : decode cJ6_bitCount_0f7a4 33 = .ok (.istore_n 0, 1) := by decide +kernel
theorem dJ6_bitCount_0f7a4_34 : decode cJ6_bitCount_0f7a4 34 = .ok (.iload_n 0, 1) := by decide +kernel
theorem dJ6_bitCount_0f7a4_35 : decode cJ6_bitCount_0f7a4 35 = .ok (.iload_n 0, 1) := by decide +kernel
theorem dJ6_bitCount_0f7a4_36 : decode cJ6_bitCount_0f7a4 36 = .ok (.bipush 8, 2) := by decide +kernel
theorem dJ6_bitCount_0f7a4_38 : decode cJ6_bitCount_0f7a4 38 = .ok (.iushr, 1) := by decide +kernel
theorem dJ6_bitCount_0f7a4_39 : decode cJ6_bitCount_0f7a4 39 = .ok (.iadd, 1) := by decide +kernel
theorem dJ6_bitCount_0f7a4_40 : decode cJ6_bitCount_0f7a4 40 = .ok (.istore_n 0, 1) := by decide +kernel
theorem dJ6_bitCount_0f7a4_41 : decode cJ6_bitCount_0f7a4 41 = .ok (.iload_n 0, 1) := by decide +kernel
theorem dJ6_bitCount_0f7a4_42 : decode cJ6_bitCount_0f7a4 42 = .ok (.iload_n 0, 1) := by decide +kernel
theorem dJ6_bitCount_0f7a4_43 : decode cJ6_bitCount_0f7a4 43 = .ok (.bipush 16, 2) := by decide +kernel
theorem dJ6_bitCount_0f7a4_45 : decode cJ6_bitCount_0f7a4 45 = .ok (.iushr, 1) := by decide +kernel
theorem dJ6_bitCount_0f7a4_46 : decode cJ6_bitCount_0f7a4 46 = .ok (.iadd, 1) := by decide +kernel
theorem dJ6_bitCount_0f7a4_47 : decode cJ6_bitCount_0f7a4 47 = .ok (.istore_n 0, 1) := by decide +kernel
theorem dJ6_bitCount_0f7a4_48 : decode cJ6_bitCount_0f7a4 48 = .ok (.iload_n 0, 1) := by decide +kernel
theorem dJ6_bitCount_0f7a4_49 : decode cJ6_bitCount_0f7a4 49 = .ok (.bipush 63, 2) := by decide +kernel
theorem dJ6_bitCount_0f7a4_51 : decode cJ6_bitCount_0f7a4 51 = .ok (.iand, 1) := by decide +kernel
theorem dJ6_bitCount_0f7a4_52 : decode cJ6_bitCount_0f7a4 52 = .ok (.ireturn, 1) := by decide +kernel
theorem dJ9_max_7cf53_0 : decode cJ9_max_7cf53 0 = .ok (.iload_n 0, 1) := by decide +kernel
theorem dJ9_max_7cf53_1 : decode cJ9_max_7cf53 1 = .ok (.iload_n 1, 1) := by decide +kernel
theorem dJ9_max_7cf53_2 : decode cJ9_max_7cf53 2 = .ok (.if_icmp .lt 7, 3) := by decide +kernel
theorem dJ9_max_7cf53_5 : decode cJ9_max_7cf53 5 = .ok (.iload_n 0, 1) := by decide +kernel
theorem dJ9_max_7cf53_6 : decode cJ9_max_7cf53 6 = .ok (.goto 4, 3) := by decide +kernel
theorem dJ9_max_7cf53_9 : decode cJ9_max_7cf53 9 = .ok (.iload_n 1, 1) := by decide +kernel
theorem dJ9_max_7cf53_10 : decode cJ9_max_7cf53 10 = .ok (.ireturn, 1) := by decide +kernel
theorem dJ9_min_7cf53_0 : decode cJ9_min_7cf53 0 = .ok (.iload_n 0, 1) := by decide +kernel
theorem dJ9_min_7cf53_1 : decode cJ9_min_7cf53 1 = .ok (.iload_n 1, 1) := by decide +kernel
theorem dJ9_min_7cf53_2 : decode cJ9_min_7cf53 2 = .ok (.if_icmp .gt 7, 3) := by decide +kernel
theorem dJ9_min_7cf53_5 : decode cJ9_min_7cf53 5 = .ok (.iload_n 0, 1) := by decide +kernel
theorem dJ9_min_7cf53_6 : decode cJ9_min_7cf53 6 = .ok (.goto 4, 3) := by decide +kernel
theorem dJ9_min_7cf53_9 : decode cJ9_min_7cf53 9 = .ok (.iload_n 1, 1) := by decide +kernel
theorem dJ9_min_7cf53_10 : decode cJ9_min_7cf53 10 = .ok (.ireturn, 1) := by decide +kernel
theorem dJ7_fill_53178_0 : decode cJ7_fill_53178 0 = .ok (.iconst 0, 1) := by decide +kernel
theorem dJ7_fill_53178_1 : decode cJ7_fill_53178 1 = .ok (.istore_n 2, 1) := by decide +kernel
theorem dJ7_fill_53178_2 : decode cJ7_fill_53178 2 = .ok (.aload_n 0, 1) := by decide +kernel
theorem dJ7_fill_53178_3 : decode cJ7_fill_53178 3 = .ok (.arraylength, 1) := by decide +kernel
theorem dJ7_fill_53178_4 : decode cJ7_fill_53178 4 = .ok (.istore_n 3, 1) := by decide +kernel
theorem dJ7_fill_53178_5 : decode cJ7_fill_53178 5 = .ok (.iload_n 2, 1) := by decide +kernel
theorem dJ7_fill_53178_6 : decode cJ7_fill_53178 6 = .ok (.iload_n 3, 1) := by decide +kernel
theorem dJ7_fill_53178_7 : decode cJ7_fill_53178 7 = .ok (.if_icmp .ge 13, 3) := by decide +kernel
theorem dJ7_fill_53178_10 : decode cJ7_fill_53178 10 = .ok (.aload_n 0, 1) := by decide +kernel
theorem dJ7_fill_53178_11 : decode cJ7_fill_53178 11 = .ok (.iload_n 2, 1) := by decide +kernel
theorem dJ7_fill_53178_12 : decode cJ7_fill_53178 12 = .ok (.iload_n 1, 1) := by decide +kernel
theorem dJ7_fill_53178_13 : decode cJ7_fill_53178 13 = .ok (.iastore, 1) := by decide +kernel
theorem dJ7_fill_53178_14 : decode cJ7_fill_53178 14 = .ok (.iinc 2 1, 3) := by decide +kernel
theorem dJ7_fill_53178_17 : decode cJ7_fill_53178 17 = .ok (.goto (-12), 3) := by decide +kernel
theorem dJ7_fill_53178_20 : decode cJ7_fill_53178 20 = .ok (.return_, 1) := by decide +kernel
end
section
theorem dX0_init_0 : decode cX0_init 0 = .ok (.aload_n 0, 1) := by decide +kernel
theorem dX0_init_1 : decode cX0_init 1 = .ok (.invokespecial 3, 3) := by decide +kernel
theorem dX0_init_4 : decode cX0_init 4 = .ok (.aload_n 0, 1) := by decide +kernel
theorem dX0_init_5 : decode cX0_init 5 = .ok (.bipush 24, 2) := by decide +kernel
theorem dX0_init_7 : decode cX0_init 7 = .ok (.anewarray 9, 3) := by decide +kernel
theorem dX0_init_10 : decode cX0_init 10 = .ok (.putfield 11, 3) := by decide +kernel
theorem dX0_init_13 : decode cX0_init 13 = .ok (.iconst 0, 1) := by decide +kernel
theorem dX0_init_14 : decode cX0_init 14 = .ok (.istore_n 1, 1) := by decide +kernel
theorem dX0_init_15 : decode cX0_init 15 = .ok (.iload_n 1, 1) := by decide +kernel
theorem dX0_init_16 : decode cX0_init 16 = .ok (.bipush 24, 2) := by decide +kernel
theorem dX0_init_18 : decode cX0_init 18 = .ok (.if_icmp .ge 22, 3) := by decide +kernel
theorem dX0_init_21 : decode cX0_init 21 = .ok (.aload_n 0, 1) := by decide +kernel
theorem dX0_init_22 : decode cX0_init 22 = .ok (.getfield 11, 3) := by decide +kernel
theorem dX0_init_25 : decode cX0_init 25 = .ok (.iload_n 1, 1) := by decide +kernel
theorem dX0_init_26 : decode cX0_init 26 = .ok (.new 9, 3) := by decide +kernel
theorem dX0_init_29 : decode cX0_init 29 = .ok (.dup, 1) := by decide +kernel
theorem dX0_init_30 : decode cX0_init 30 = .ok (.invokespecial 17, 3) := by decide +kernel
theorem dX0_init_33 : decode cX0_init 33 = .ok (.aastore, 1) := by decide +kernel
theorem dX0_init_34 : decode cX0_init 34 = .ok (.iinc 1 1, 3) := by decide +kernel
theorem dX0_init_37 : decode cX0_init 37 = .ok (.goto (-22), 3) := by decide +kernel
theorem dX0_init_40 : decode cX0_init 40 = .ok (.return_, 1) := by decide +kernel
theorem dX0_keep_0 : decode cX0_keep 0 = .ok (.aload_n 0, 1) := by decide +kernel
theorem dX0_keep_1 : decode cX0_keep 1 = .ok (.getfield 11, 3) := by decide +kernel
theorem dX0_keep_4 : decode cX0_keep 4 = .ok (.aload_n 0, 1) := by decide +kernel
theorem dX0_keep_5 : decode cX0_keep 5 = .ok (.getfield 18, 3) := by decide +kernel
theorem dX0_keep_8 : decode cX0_keep 8 = .ok (.aaload, 1) := by decide +kernel
theorem dX0_keep_9 : decode cX0_keep 9 = .ok (.aload_n 1, 1) := by decide +kernel
theorem dX0_keep_10 : decode cX0_keep 10 = .ok (.invokevirtual 22, 3) := by decide +kernel
theorem dX0_keep_13 : decode cX0_keep 13 = .ok (.aload_n 0, 1) := by decide +kernel
theorem dX0_keep_14 : decode cX0_keep 14 = .ok (.aload_n 0, 1) := by decide +kernel
theorem dX0_keep_15 : decode cX0_keep 15 = .ok (.getfield 18, 3) := by decide +kernel
theorem dX0_keep_18 : decode cX0_keep 18 = .ok (.iconst 1, 1) := by decide +kernel
theorem dX0_keep_19 : decode cX0_keep 19 = .ok (.iadd, 1) := by decide +kernel
theorem dX0_keep_20 : decode cX0_keep 20 = .ok (.bipush 24, 2) := by decide +kernel
theorem dX0_keep_22 : decode cX0_keep 22 = .ok (.irem, 1) := by decide +kernel
theorem dX0_keep_23 : decode cX0_keep 23 = .ok (.putfield 18, 3) := by decide +kernel
theorem dX0_keep_26 : decode cX0_keep 26 = .ok (.aload_n 0, 1) := by decide +kernel
theorem dX0_keep_27 : decode cX0_keep 27 = .ok (.aload_n 0, 1) := by decide +kernel
theorem dX0_keep_28 : decode cX0_keep 28 = .ok (.getfield 26, 3) := by decide +kernel
theorem dX0_keep_31 : decode cX0_keep 31 = .ok (.iconst 1, 1) := by decide +kernel
theorem dX0_keep_32 : decode cX0_keep 32 = .ok (.iadd, 1) := by decide +kernel
theorem dX0_keep_33 : decode cX0_keep 33 = .ok (.bipush 24, 2) := by decide +kernel
theorem dX0_keep_35 : decode cX0_keep 35 = .ok (.invokestatic 29, 3) := by decide +kernel
theorem dX0_keep_38 : decode cX0_keep 38 = .ok (.putfield 26, 3) := by decide +kernel
theorem dX0_keep_41 : decode cX0_keep 41 = .ok (.return_, 1) := by decide +kernel
theorem dX0_takeBack_0 : decode cX0_takeBack 0 = .ok (.aload_n 0, 1) := by decide +kernel
theorem dX0_takeBack_1 : decode cX0_takeBack 1 = .ok (.aload_n 0, 1) := by decide +kernel
theorem dX0_takeBack_2 : decode cX0_takeBack 2 = .ok (.getfield 18, 3) := by decide +kernel
theorem dX0_takeBack_5 : decode cX0_takeBack 5 = .ok (.bipush 24, 2) := by decide +kernel
theorem dX0_takeBack_7 : decode cX0_takeBack 7 = .ok (.iadd, 1) := by decide +kernel
theorem dX0_takeBack_8 : decode cX0_takeBack 8 = .ok (.iconst 1, 1) := by decide +kernel
theorem dX0_takeBack_9 : decode cX0_takeBack 9 = .ok (.isub, 1) := by decide +kernel
theorem dX0_takeBack_10 : decode cX0_takeBack 10 = .ok (.bipush 24, 2) := by decide +kernel
theorem dX0_takeBack_12 : decode cX0_takeBack 12 = .ok (.irem, 1) := by decide +kernel
theorem dX0_takeBack_13 : decode cX0_takeBack 13 = .ok (.putfield 18, 3) := by decide +kernel
theorem dX0_takeBack_16 : decode cX0_takeBack 16 = .ok (.aload_n 0, 1) := by decide +kernel
theorem dX0_takeBack_17 : decode cX0_takeBack 17 = .ok (.aload_n 0, 1) := by decide +kernel
theorem dX0_takeBack_18 : decode cX0_takeBack 18 = .ok (.getfield 26, 3) := by decide +kernel
theorem dX0_takeBack_21 : decode cX0_takeBack 21 = .ok (.iconst 1, 1) := by decide +kernel
theorem dX0_takeBack_22 : decode cX0_takeBack 22 = .ok (.isub, 1) := by decide +kernel
theorem dX0_takeBack_23 : decode cX0_takeBack 23 = .ok (.iconst 0, 1) := by decide +kernel
theorem dX0_takeBack_24 : decode cX0_takeBack 24 = .ok (.invokestatic 35, 3) := by decide +kernel
theorem dX0_takeBack_27 : decode cX0_takeBack 27 = .ok (.putfield 26, 3) := by decide +kernel
theorem dX0_takeBack_30 : decode cX0_takeBack 30 = .ok (.aload_n 1, 1) := by decide +kernel
theorem dX0_takeBack_31 : decode cX0_takeBack 31 = .ok (.aload_n 0, 1) := by decide +kernel
theorem dX0_takeBack_32 : decode cX0_takeBack 32 = .ok (.getfield 11, 3) := by decide +kernel
theorem dX0_takeBack_35 : decode cX0_takeBack 35 = .ok (.aload_n 0, 1) := by decide +kernel
theorem dX0_takeBack_36 : decode cX0_takeBack 36 = .ok (.getfield 18, 3) := by decide +kernel
theorem dX0_takeBack_39 : decode cX0_takeBack 39 = .ok (.aaload, 1) := by decide +kernel
theorem dX0_takeBack_40 : decode cX0_takeBack 40 = .ok (.invokevirtual 22, 3) := by decide +kernel
theorem dX0_takeBack_43 : decode cX0_takeBack 43 = .ok (.return_, 1) := by decide +kernel
theorem dX0_forget_0 : decode cX0_forget 0 = .ok (.aload_n 0, 1) := by decide +kernel
theorem dX0_forget_1 : decode cX0_forget 1 = .ok (.iconst 0, 1) := by decide +kernel
theorem dX0_forget_2 : decode cX0_forget 2 = .ok (.putfield 26, 3) := by decide +kernel
theorem dX0_forget_5 : decode cX0_forget 5 = .ok (.return_, 1) := by decide +kernel
theorem dX1_init_0 : decode cX1_init 0 = .ok (.aload_n 0, 1) := by decide +kernel
theorem dX1_init_1 : decode cX1_init 1 = .ok (.invokespecial 1, 3) := by decide +kernel
theorem dX1_init_4 : decode cX1_init 4 = .ok (.aload_n 0, 1) := by decide +kernel
theorem dX1_init_5 : decode cX1_init 5 = .ok (.bipush 16, 2) := by decide +kernel
theorem dX1_init_7 : decode cX1_init 7 = .ok (.newarray .int, 2) := by decide +kernel
theorem dX1_init_9 : decode cX1_init 9 = .ok (.putfield 9, 3) := by decide +kernel
theorem dX1_init_12 : decode cX1_init 12 = .ok (.return_, 1) := by decide +kernel
theorem dX1_sizeOf_0 : decode cX1_sizeOf 0 = .ok (.aload_n 0, 1) := by decide +kernel
theorem dX1_sizeOf_1 : decode cX1_sizeOf 1 = .ok (.iconst 0, 1) := by decide +kernel
theorem dX1_sizeOf_2 : decode cX1_sizeOf 2 = .ok (.putfield 13, 3) := by decide +kernel
theorem dX1_sizeOf_5 : decode cX1_sizeOf 5 = .ok (.aload_n 0, 1) := by decide +kernel
theorem dX1_sizeOf_6 : decode cX1_sizeOf 6 = .ok (.getstatic 17, 3) := by decide +kernel
theorem dX1_sizeOf_9 : decode cX1_sizeOf 9 = .ok (.aload_n 1, 1) := by decide +kernel
theorem dX1_sizeOf_10 : decode cX1_sizeOf 10 = .ok (.getfield 20, 3) := by decide +kernel
theorem dX1_sizeOf_13 : decode cX1_sizeOf 13 = .ok (.iload_n 2, 1) := by decide +kernel
theorem dX1_sizeOf_14 : decode cX1_sizeOf 14 = .ok (.iaload, 1) := by decide +kernel
theorem dX1_sizeOf_15 : decode cX1_sizeOf 15 = .ok (.iaload, 1) := by decide +kernel
theorem dX1_sizeOf_16 : decode cX1_sizeOf 16 = .ok (.aload_n 1, 1) := by decide +kernel
theorem dX1_sizeOf_17 : decode cX1_sizeOf 17 = .ok (.iload_n 2, 1) := by decide +kernel
theorem dX1_sizeOf_18 : decode cX1_sizeOf 18 = .ok (.iconst 0, 1) := by decide +kernel
theorem dX1_sizeOf_19 : decode cX1_sizeOf 19 = .ok (.invokevirtual 25, 3) := by decide +kernel
theorem dX1_sizeOf_22 : decode cX1_sizeOf 22 = .ok (.ireturn, 1) := by decide +kernel
theorem dX1_markOf_0 : decode cX1_markOf 0 = .ok (.aload_n 0, 1) := by decide +kernel
theorem dX1_markOf_1 : decode cX1_markOf 1 = .ok (.iconst 0, 1) := by decide +kernel
theorem dX1_markOf_2 : decode cX1_markOf 2 = .ok (.putfield 13, 3) := by decide +kernel
theorem dX1_markOf_5 : decode cX1_markOf 5 = .ok (.aload_n 0, 1) := by decide +kernel
theorem dX1_markOf_6 : decode cX1_markOf 6 = .ok (.getstatic 29, 3) := by decide +kernel
theorem dX1_markOf_9 : decode cX1_markOf 9 = .ok (.aload_n 1, 1) := by decide +kernel
theorem dX1_markOf_10 : decode cX1_markOf 10 = .ok (.getfield 20, 3) := by decide +kernel
theorem dX1_markOf_13 : decode cX1_markOf 13 = .ok (.iload_n 2, 1) := by decide +kernel
theorem dX1_markOf_14 : decode cX1_markOf 14 = .ok (.iaload, 1) := by decide +kernel
theorem dX1_markOf_15 : decode cX1_markOf 15 = .ok (.iaload, 1) := by decide +kernel
theorem dX1_markOf_16 : decode cX1_markOf 16 = .ok (.aload_n 1, 1) := by decide +kernel
theorem dX1_markOf_17 : decode cX1_markOf 17 = .ok (.iload_n 2, 1) := by decide +kernel
theorem dX1_markOf_18 : decode cX1_markOf 18 = .ok (.iconst 0, 1) := by decide +kernel
theorem dX1_markOf_19 : decode cX1_markOf 19 = .ok (.invokevirtual 25, 3) := by decide +kernel
theorem dX1_markOf_22 : decode cX1_markOf 22 = .ok (.ireturn, 1) := by decide +kernel
theorem dX1_give_0 : decode cX1_give 0 = .ok (.iload 4, 2) := by decide +kernel
theorem dX1_give_2 : decode cX1_give 2 = .ok (.bipush 16, 2) := by decide +kernel
theorem dX1_give_4 : decode cX1_give 4 = .ok (.if_icmp .le 5, 3) := by decide +kernel
theorem dX1_give_7 : decode cX1_give 7 = .ok (.iconst 0, 1) := by decide +kernel
theorem dX1_give_8 : decode cX1_give 8 = .ok (.ireturn, 1) := by decide +kernel
theorem dX1_give_9 : decode cX1_give 9 = .ok (.aload_n 0, 1) := by decide +kernel
theorem dX1_give_10 : decode cX1_give 10 = .ok (.iload_n 1, 1) := by decide +kernel
theorem dX1_give_11 : decode cX1_give 11 = .ok (.invokevirtual 32, 3) := by decide +kernel
theorem dX1_give_14 : decode cX1_give 14 = .ok (.iload 4, 2) := by decide +kernel
theorem dX1_give_16 : decode cX1_give 16 = .ok (.iconst 1, 1) := by decide +kernel
theorem dX1_give_17 : decode cX1_give 17 = .ok (.iadd, 1) := by decide +kernel
theorem dX1_give_18 : decode cX1_give 18 = .ok (.istore 5, 2) := by decide +kernel
theorem dX1_give_20 : decode cX1_give 20 = .ok (.aload_n 2, 1) := by decide +kernel
theorem dX1_give_21 : decode cX1_give 21 = .ok (.getfield 20, 3) := by decide +kernel
theorem dX1_give_24 : decode cX1_give 24 = .ok (.iload_n 3, 1) := by decide +kernel
theorem dX1_give_25 : decode cX1_give 25 = .ok (.iaload, 1) := by decide +kernel
theorem dX1_give_26 : decode cX1_give 26 = .ok (.istore 6, 2) := by decide +kernel
theorem dX1_give_28 : decode cX1_give 28 = .ok (.iload_n 1, 1) := by decide +kernel
theorem dX1_give_29 : decode cX1_give 29 = .ok (.tableswitch 222 10 24 #[75, 82, 108, 121, 135, 222, 222, 222, 222, 222, 148, 150, 168, 183, 209], 75) := by decide +kernel
theorem dX1_give_104 : decode cX1_give 104 = .ok (.aload_n 2, 1) := by decide +kernel
theorem dX1_give_105 : decode cX1_give 105 = .ok (.getfield 36, 3) := by decide +kernel
theorem dX1_give_108 : decode cX1_give 108 = .ok (.iload_n 3, 1) := by decide +kernel
theorem dX1_give_109 : decode cX1_give 109 = .ok (.iaload, 1) := by decide +kernel
theorem dX1_give_110 : decode cX1_give 110 = .ok (.ireturn, 1) := by decide +kernel
theorem dX1_give_111 : decode cX1_give 111 = .ok (.aload_n 0, 1) := by decide +kernel
theorem dX1_give_112 : decode cX1_give 112 = .ok (.bipush 10, 2) := by decide +kernel
theorem dX1_give_114 : decode cX1_give 114 = .ok (.aload_n 2, 1) := by decide +kernel
theorem dX1_give_115 : decode cX1_give 115 = .ok (.iload_n 3, 1) := by decide +kernel
theorem dX1_give_116 : decode cX1_give 116 = .ok (.iload 5, 2) := by decide +kernel
theorem dX1_give_118 : decode cX1_give 118 = .ok (.invokevirtual 25, 3) := by decide +kernel
theorem dX1_give_121 : decode cX1_give 121 = .ok (.aload_n 0, 1) := by decide +kernel
theorem dX1_give_122 : decode cX1_give 122 = .ok (.getstatic 29, 3) := by decide +kernel
theorem dX1_give_125 : decode cX1_give 125 = .ok (.iload 6, 2) := by decide +kernel
theorem dX1_give_127 : decode cX1_give 127 = .ok (.iaload, 1) := by decide +kernel
theorem dX1_give_128 : decode cX1_give 128 = .ok (.aload_n 2, 1) := by decide +kernel
theorem dX1_give_129 : decode cX1_give 129 = .ok (.iload_n 3, 1) := by decide +kernel
theorem dX1_give_130 : decode cX1_give 130 = .ok (.iload 5, 2) := by decide +kernel
theorem dX1_give_132 : decode cX1_give 132 = .ok (.invokevirtual 25, 3) := by decide +kernel
theorem dX1_give_135 : decode cX1_give 135 = .ok (.iadd, 1) := by decide +kernel
theorem dX1_give_136 : decode cX1_give 136 = .ok (.ireturn, 1) := by decide +kernel
theorem dX1_give_137 : decode cX1_give 137 = .ok (.iconst 0, 1) := by decide +kernel
theorem dX1_give_138 : decode cX1_give 138 = .ok (.aload_n 0, 1) := by decide +kernel
theorem dX1_give_139 : decode cX1_give 139 = .ok (.bipush 11, 2) := by decide +kernel
theorem dX1_give_141 : decode cX1_give 141 = .ok (.aload_n 2, 1) := by decide +kernel
theorem dX1_give_142 : decode cX1_give 142 = .ok (.iload_n 3, 1) := by decide +kernel
theorem dX1_give_143 : decode cX1_give 143 = .ok (.iload 5, 2) := by decide +kernel
theorem dX1_give_145 : decode cX1_give 145 = .ok (.invokevirtual 25, 3) := by decide +kernel
theorem dX1_give_148 : decode cX1_give 148 = .ok (.isub, 1) := by decide +kernel
theorem dX1_give_149 : decode cX1_give 149 = .ok (.ireturn, 1) := by decide +kernel
theorem dX1_give_150 : decode cX1_give 150 = .ok (.aload_n 0, 1) := by decide +kernel
theorem dX1_give_151 : decode cX1_give 151 = .ok (.bipush 10, 2) := by decide +kernel
theorem dX1_give_153 : decode cX1_give 153 = .ok (.aload_n 2, 1) := by decide +kernel
theorem dX1_give_154 : decode cX1_give 154 = .ok (.iload_n 3, 1) := by decide +kernel
theorem dX1_give_155 : decode cX1_give 155 = .ok (.iload 5, 2) := by decide +kernel
theorem dX1_give_157 : decode cX1_give 157 = .ok (.invokevirtual 25, 3) := by decide +kernel
theorem dX1_give_160 : decode cX1_give 160 = .ok (.bipush 100, 2) := by decide +kernel
theorem dX1_give_162 : decode cX1_give 162 = .ok (.isub, 1) := by decide +kernel
theorem dX1_give_163 : decode cX1_give 163 = .ok (.ireturn, 1) := by decide +kernel
theorem dX1_give_164 : decode cX1_give 164 = .ok (.iconst 2, 1) := by decide +kernel
theorem dX1_give_165 : decode cX1_give 165 = .ok (.aload_n 0, 1) := by decide +kernel
theorem dX1_give_166 : decode cX1_give 166 = .ok (.bipush 13, 2) := by decide +kernel
theorem dX1_give_168 : decode cX1_give 168 = .ok (.aload_n 2, 1) := by decide +kernel
theorem dX1_give_169 : decode cX1_give 169 = .ok (.iload_n 3, 1) := by decide +kernel
theorem dX1_give_170 : decode cX1_give 170 = .ok (.iload 5, 2) := by decide +kernel
theorem dX1_give_172 : decode cX1_give 172 = .ok (.invokevirtual 25, 3) := by decide +kernel
theorem dX1_give_175 : decode cX1_give 175 = .ok (.imul, 1) := by decide +kernel
theorem dX1_give_176 : decode cX1_give 176 = .ok (.ireturn, 1) := by decide +kernel
theorem dX1_give_177 : decode cX1_give 177 = .ok (.iload_n 3, 1) := by decide +kernel
theorem dX1_give_178 : decode cX1_give 178 = .ok (.ireturn, 1) := by decide +kernel
theorem dX1_give_179 : decode cX1_give 179 = .ok (.aload_n 0, 1) := by decide +kernel
theorem dX1_give_180 : decode cX1_give 180 = .ok (.bipush 20, 2) := by decide +kernel
theorem dX1_give_182 : decode cX1_give 182 = .ok (.aload_n 2, 1) := by decide +kernel
theorem dX1_give_183 : decode cX1_give 183 = .ok (.iload_n 3, 1) := by decide +kernel
theorem dX1_give_184 : decode cX1_give 184 = .ok (.iload 5, 2) := by decide +kernel
theorem dX1_give_186 : decode cX1_give 186 = .ok (.invokevirtual 25, 3) := by decide +kernel
theorem dX1_give_189 : decode cX1_give 189 = .ok (.aload_n 2, 1) := by decide +kernel
theorem dX1_give_190 : decode cX1_give 190 = .ok (.getfield 39, 3) := by decide +kernel
theorem dX1_give_193 : decode cX1_give 193 = .ok (.iload_n 3, 1) := by decide +kernel
theorem dX1_give_194 : decode cX1_give 194 = .ok (.iaload, 1) := by decide +kernel
theorem dX1_give_195 : decode cX1_give 195 = .ok (.iadd, 1) := by decide +kernel
theorem dX1_give_196 : decode cX1_give 196 = .ok (.ireturn, 1) := by decide +kernel
theorem dX1_give_197 : decode cX1_give 197 = .ok (.aload_n 0, 1) := by decide +kernel
theorem dX1_give_198 : decode cX1_give 198 = .ok (.bipush 21, 2) := by decide +kernel
theorem dX1_give_200 : decode cX1_give 200 = .ok (.aload_n 2, 1) := by decide +kernel
theorem dX1_give_201 : decode cX1_give 201 = .ok (.iload_n 3, 1) := by decide +kernel
theorem dX1_give_202 : decode cX1_give 202 = .ok (.iload 5, 2) := by decide +kernel
theorem dX1_give_204 : decode cX1_give 204 = .ok (.invokevirtual 25, 3) := by decide +kernel
theorem dX1_give_207 : decode cX1_give 207 = .ok (.sipush 1000, 3) := by decide +kernel
theorem dX1_give_210 : decode cX1_give 210 = .ok (.isub, 1) := by decide +kernel
theorem dX1_give_211 : decode cX1_give 211 = .ok (.ireturn, 1) := by decide +kernel
theorem dX1_give_212 : decode cX1_give 212 = .ok (.aload_n 0, 1) := by decide +kernel
theorem dX1_give_213 : decode cX1_give 213 = .ok (.bipush 20, 2) := by decide +kernel
theorem dX1_give_215 : decode cX1_give 215 = .ok (.aload_n 2, 1) := by decide +kernel
theorem dX1_give_216 : decode cX1_give 216 = .ok (.iload_n 3, 1) := by decide +kernel
theorem dX1_give_217 : decode cX1_give 217 = .ok (.iload 5, 2) := by decide +kernel
theorem dX1_give_219 : decode cX1_give 219 = .ok (.invokevirtual 25, 3) := by decide +kernel
theorem dX1_give_222 : decode cX1_give 222 = .ok (.aload_n 0, 1) := by decide +kernel
theorem dX1_give_223 : decode cX1_give 223 = .ok (.getstatic 17, 3) := by decide +kernel
theorem dX1_give_226 : decode cX1_give 226 = .ok (.iload 6, 2) := by decide +kernel
theorem dX1_give_228 : decode cX1_give 228 = .ok (.iaload, 1) := by decide +kernel
theorem dX1_give_229 : decode cX1_give 229 = .ok (.aload_n 2, 1) := by decide +kernel
theorem dX1_give_230 : decode cX1_give 230 = .ok (.iload_n 3, 1) := by decide +kernel
theorem dX1_give_231 : decode cX1_give 231 = .ok (.iload 5, 2) := by decide +kernel
theorem dX1_give_233 : decode cX1_give 233 = .ok (.invokevirtual 25, 3) := by decide +kernel
theorem dX1_give_236 : decode cX1_give 236 = .ok (.isub, 1) := by decide +kernel
theorem dX1_give_237 : decode cX1_give 237 = .ok (.ireturn, 1) := by decide +kernel
theorem dX1_give_238 : decode cX1_give 238 = .ok (.iconst 2, 1) := by decide +kernel
theorem dX1_give_239 : decode cX1_give 239 = .ok (.aload_n 0, 1) := by decide +kernel
theorem dX1_give_240 : decode cX1_give 240 = .ok (.bipush 21, 2) := by decide +kernel
theorem dX1_give_242 : decode cX1_give 242 = .ok (.aload_n 2, 1) := by decide +kernel
theorem dX1_give_243 : decode cX1_give 243 = .ok (.iload_n 3, 1) := by decide +kernel
theorem dX1_give_244 : decode cX1_give 244 = .ok (.iload 5, 2) := by decide +kernel
theorem dX1_give_246 : decode cX1_give 246 = .ok (.invokevirtual 25, 3) := by decide +kernel
theorem dX1_give_249 : decode cX1_give 249 = .ok (.imul, 1) := by decide +kernel
theorem dX1_give_250 : decode cX1_give 250 = .ok (.ireturn, 1) := by decide +kernel
theorem dX1_give_251 : decode cX1_give 251 = .ok (.iconst 0, 1) := by decide +kernel
theorem dX1_give_252 : decode cX1_give 252 = .ok (.ireturn, 1) := by decide +kernel
theorem dX1_leave_0 : decode cX1_leave 0 = .ok (.aload_n 0, 1) := by decide +kernel
theorem dX1_leave_1 : decode cX1_leave 1 = .ok (.getfield 13, 3) := by decide +kernel
theorem dX1_leave_4 : decode cX1_leave 4 = .ok (.bipush 16, 2) := by decide +kernel
theorem dX1_leave_6 : decode cX1_leave 6 = .ok (.if_icmp .ge 23, 3) := by decide +kernel
theorem dX1_leave_9 : decode cX1_leave 9 = .ok (.aload_n 0, 1) := by decide +kernel
theorem dX1_leave_10 : decode cX1_leave 10 = .ok (.getfield 9, 3) := by decide +kernel
theorem dX1_leave_13 : decode cX1_leave 13 = .ok (.aload_n 0, 1) := by decide +kernel
theorem dX1_leave_14 : decode cX1_leave 14 = .ok (.getfield 13, 3) := by decide +kernel
theorem dX1_leave_17 : decode cX1_leave 17 = .ok (.iload_n 1, 1) := by decide +kernel
theorem dX1_leave_18 : decode cX1_leave 18 = .ok (.iastore, 1) := by decide +kernel
theorem dX1_leave_19 : decode cX1_leave 19 = .ok (.aload_n 0, 1) := by decide +kernel
theorem dX1_leave_20 : decode cX1_leave 20 = .ok (.dup, 1) := by decide +kernel
theorem dX1_leave_21 : decode cX1_leave 21 = .ok (.getfield 13, 3) := by decide +kernel
theorem dX1_leave_24 : decode cX1_leave 24 = .ok (.iconst 1, 1) := by decide +kernel
theorem dX1_leave_25 : decode cX1_leave 25 = .ok (.iadd, 1) := by decide +kernel
theorem dX1_leave_26 : decode cX1_leave 26 = .ok (.putfield 13, 3) := by decide +kernel
theorem dX1_leave_29 : decode cX1_leave 29 = .ok (.return_, 1) := by decide +kernel
theorem dX2_init_0 : decode cX2_init 0 = .ok (.aload_n 0, 1) := by decide +kernel
theorem dX2_init_1 : decode cX2_init 1 = .ok (.invokespecial 3, 3) := by decide +kernel
theorem dX2_init_4 : decode cX2_init 4 = .ok (.aload_n 0, 1) := by decide +kernel
theorem dX2_init_5 : decode cX2_init 5 = .ok (.bipush 8, 2) := by decide +kernel
theorem dX2_init_7 : decode cX2_init 7 = .ok (.newarray .int, 2) := by decide +kernel
theorem dX2_init_9 : decode cX2_init 9 = .ok (.putfield 9, 3) := by decide +kernel
theorem dX2_init_12 : decode cX2_init 12 = .ok (.aload_n 0, 1) := by decide +kernel
theorem dX2_init_13 : decode cX2_init 13 = .ok (.bipush 8, 2) := by decide +kernel
theorem dX2_init_15 : decode cX2_init 15 = .ok (.newarray .int, 2) := by decide +kernel
theorem dX2_init_17 : decode cX2_init 17 = .ok (.putfield 15, 3) := by decide +kernel
theorem dX2_init_20 : decode cX2_init 20 = .ok (.aload_n 0, 1) := by decide +kernel
theorem dX2_init_21 : decode cX2_init 21 = .ok (.bipush 8, 2) := by decide +kernel
theorem dX2_init_23 : decode cX2_init 23 = .ok (.newarray .int, 2) := by decide +kernel
theorem dX2_init_25 : decode cX2_init 25 = .ok (.putfield 18, 3) := by decide +kernel
theorem dX2_init_28 : decode cX2_init 28 = .ok (.aload_n 0, 1) := by decide +kernel
theorem dX2_init_29 : decode cX2_init 29 = .ok (.bipush 8, 2) := by decide +kernel
theorem dX2_init_31 : decode cX2_init 31 = .ok (.newarray .int, 2) := by decide +kernel
theorem dX2_init_33 : decode cX2_init 33 = .ok (.putfield 21, 3) := by decide +kernel
theorem dX2_init_36 : decode cX2_init 36 = .ok (.aload_n 0, 1) := by decide +kernel
theorem dX2_init_37 : decode cX2_init 37 = .ok (.bipush 8, 2) := by decide +kernel
theorem dX2_init_39 : decode cX2_init 39 = .ok (.newarray .int, 2) := by decide +kernel
theorem dX2_init_41 : decode cX2_init 41 = .ok (.putfield 24, 3) := by decide +kernel
theorem dX2_init_44 : decode cX2_init 44 = .ok (.aload_n 0, 1) := by decide +kernel
theorem dX2_init_45 : decode cX2_init 45 = .ok (.bipush 8, 2) := by decide +kernel
theorem dX2_init_47 : decode cX2_init 47 = .ok (.newarray .int, 2) := by decide +kernel
theorem dX2_init_49 : decode cX2_init 49 = .ok (.putfield 27, 3) := by decide +kernel
theorem dX2_init_52 : decode cX2_init 52 = .ok (.aload_n 0, 1) := by decide +kernel
theorem dX2_init_53 : decode cX2_init 53 = .ok (.bipush 8, 2) := by decide +kernel
theorem dX2_init_55 : decode cX2_init 55 = .ok (.newarray .int, 2) := by decide +kernel
theorem dX2_init_57 : decode cX2_init 57 = .ok (.putfield 30, 3) := by decide +kernel
theorem dX2_init_60 : decode cX2_init 60 = .ok (.aload_n 0, 1) := by decide +kernel
theorem dX2_init_61 : decode cX2_init 61 = .ok (.bipush 20, 2) := by decide +kernel
theorem dX2_init_63 : decode cX2_init 63 = .ok (.newarray .int, 2) := by decide +kernel
theorem dX2_init_65 : decode cX2_init 65 = .ok (.putfield 33, 3) := by decide +kernel
theorem dX2_init_68 : decode cX2_init 68 = .ok (.return_, 1) := by decide +kernel
theorem dX2_clear_0 : decode cX2_clear 0 = .ok (.aload_n 0, 1) := by decide +kernel
theorem dX2_clear_1 : decode cX2_clear 1 = .ok (.iconst 0, 1) := by decide +kernel
theorem dX2_clear_2 : decode cX2_clear 2 = .ok (.putfield 36, 3) := by decide +kernel
theorem dX2_clear_5 : decode cX2_clear 5 = .ok (.aload_n 0, 1) := by decide +kernel
theorem dX2_clear_6 : decode cX2_clear 6 = .ok (.iconst 0, 1) := by decide +kernel
theorem dX2_clear_7 : decode cX2_clear 7 = .ok (.putfield 40, 3) := by decide +kernel
theorem dX2_clear_10 : decode cX2_clear 10 = .ok (.aload_n 0, 1) := by decide +kernel
theorem dX2_clear_11 : decode cX2_clear 11 = .ok (.iconst 0, 1) := by decide +kernel
theorem dX2_clear_12 : decode cX2_clear 12 = .ok (.putfield 43, 3) := by decide +kernel
theorem dX2_clear_15 : decode cX2_clear 15 = .ok (.aload_n 0, 1) := by decide +kernel
theorem dX2_clear_16 : decode cX2_clear 16 = .ok (.iconst 0, 1) := by decide +kernel
theorem dX2_clear_17 : decode cX2_clear 17 = .ok (.putfield 46, 3) := by decide +kernel
theorem dX2_clear_20 : decode cX2_clear 20 = .ok (.aload_n 0, 1) := by decide +kernel
theorem dX2_clear_21 : decode cX2_clear 21 = .ok (.invokevirtual 49, 3) := by decide +kernel
theorem dX2_clear_24 : decode cX2_clear 24 = .ok (.return_, 1) := by decide +kernel
theorem dX2_addBar_0 : decode cX2_addBar 0 = .ok (.aload_n 0, 1) := by decide +kernel
theorem dX2_addBar_1 : decode cX2_addBar 1 = .ok (.getfield 36, 3) := by decide +kernel
theorem dX2_addBar_4 : decode cX2_addBar 4 = .ok (.bipush 8, 2) := by decide +kernel
theorem dX2_addBar_6 : decode cX2_addBar 6 = .ok (.if_icmp .lt 4, 3) := by decide +kernel
theorem dX2_addBar_9 : decode cX2_addBar 9 = .ok (.return_, 1) := by decide +kernel
theorem dX2_addBar_10 : decode cX2_addBar 10 = .ok (.aload_n 0, 1) := by decide +kernel
theorem dX2_addBar_11 : decode cX2_addBar 11 = .ok (.aload_n 0, 1) := by decide +kernel
theorem dX2_addBar_12 : decode cX2_addBar 12 = .ok (.getfield 36, 3) := by decide +kernel
theorem dX2_addBar_15 : decode cX2_addBar 15 = .ok (.iload_n 1, 1) := by decide +kernel
theorem dX2_addBar_16 : decode cX2_addBar 16 = .ok (.iload_n 2, 1) := by decide +kernel
theorem dX2_addBar_17 : decode cX2_addBar 17 = .ok (.invokevirtual 52, 3) := by decide +kernel
theorem dX2_addBar_20 : decode cX2_addBar 20 = .ok (.aload_n 0, 1) := by decide +kernel
theorem dX2_addBar_21 : decode cX2_addBar 21 = .ok (.getfield 21, 3) := by decide +kernel
theorem dX2_addBar_24 : decode cX2_addBar 24 = .ok (.aload_n 0, 1) := by decide +kernel
theorem dX2_addBar_25 : decode cX2_addBar 25 = .ok (.getfield 36, 3) := by decide +kernel
theorem dX2_addBar_28 : decode cX2_addBar 28 = .ok (.aload_n 0, 1) := by decide +kernel
theorem dX2_addBar_29 : decode cX2_addBar 29 = .ok (.getfield 36, 3) := by decide +kernel
theorem dX2_addBar_32 : decode cX2_addBar 32 = .ok (.iastore, 1) := by decide +kernel
theorem dX2_addBar_33 : decode cX2_addBar 33 = .ok (.aload_n 0, 1) := by decide +kernel
theorem dX2_addBar_34 : decode cX2_addBar 34 = .ok (.getfield 24, 3) := by decide +kernel
theorem dX2_addBar_37 : decode cX2_addBar 37 = .ok (.aload_n 0, 1) := by decide +kernel
theorem dX2_addBar_38 : decode cX2_addBar 38 = .ok (.getfield 36, 3) := by decide +kernel
theorem dX2_addBar_41 : decode cX2_addBar 41 = .ok (.aload_n 0, 1) := by decide +kernel
theorem dX2_addBar_42 : decode cX2_addBar 42 = .ok (.getfield 36, 3) := by decide +kernel
theorem dX2_addBar_45 : decode cX2_addBar 45 = .ok (.iastore, 1) := by decide +kernel
theorem dX2_addBar_46 : decode cX2_addBar 46 = .ok (.aload_n 0, 1) := by decide +kernel
theorem dX2_addBar_47 : decode cX2_addBar 47 = .ok (.getfield 27, 3) := by decide +kernel
theorem dX2_addBar_50 : decode cX2_addBar 50 = .ok (.aload_n 0, 1) := by decide +kernel
theorem dX2_addBar_51 : decode cX2_addBar 51 = .ok (.getfield 36, 3) := by decide +kernel
theorem dX2_addBar_54 : decode cX2_addBar 54 = .ok (.iconst 0, 1) := by decide +kernel
theorem dX2_addBar_55 : decode cX2_addBar 55 = .ok (.iastore, 1) := by decide +kernel
theorem dX2_addBar_56 : decode cX2_addBar 56 = .ok (.aload_n 0, 1) := by decide +kernel
theorem dX2_addBar_57 : decode cX2_addBar 57 = .ok (.getfield 30, 3) := by decide +kernel
theorem dX2_addBar_60 : decode cX2_addBar 60 = .ok (.aload_n 0, 1) := by decide +kernel
theorem dX2_addBar_61 : decode cX2_addBar 61 = .ok (.getfield 36, 3) := by decide +kernel
theorem dX2_addBar_64 : decode cX2_addBar 64 = .ok (.iconst 0, 1) := by decide +kernel
theorem dX2_addBar_65 : decode cX2_addBar 65 = .ok (.iastore, 1) := by decide +kernel
theorem dX2_addBar_66 : decode cX2_addBar 66 = .ok (.aload_n 0, 1) := by decide +kernel
theorem dX2_addBar_67 : decode cX2_addBar 67 = .ok (.dup, 1) := by decide +kernel
theorem dX2_addBar_68 : decode cX2_addBar 68 = .ok (.getfield 36, 3) := by decide +kernel
theorem dX2_addBar_71 : decode cX2_addBar 71 = .ok (.iconst 1, 1) := by decide +kernel
theorem dX2_addBar_72 : decode cX2_addBar 72 = .ok (.iadd, 1) := by decide +kernel
theorem dX2_addBar_73 : decode cX2_addBar 73 = .ok (.putfield 36, 3) := by decide +kernel
theorem dX2_addBar_76 : decode cX2_addBar 76 = .ok (.return_, 1) := by decide +kernel
theorem dX2_become_0 : decode cX2_become 0 = .ok (.aload_n 1, 1) := by decide +kernel
theorem dX2_become_1 : decode cX2_become 1 = .ok (.getfield 9, 3) := by decide +kernel
theorem dX2_become_4 : decode cX2_become 4 = .ok (.iconst 0, 1) := by decide +kernel
theorem dX2_become_5 : decode cX2_become 5 = .ok (.aload_n 0, 1) := by decide +kernel
theorem dX2_become_6 : decode cX2_become 6 = .ok (.getfield 9, 3) := by decide +kernel
theorem dX2_become_9 : decode cX2_become 9 = .ok (.iconst 0, 1) := by decide +kernel
theorem dX2_become_10 : decode cX2_become 10 = .ok (.bipush 8, 2) := by decide +kernel
theorem dX2_become_12 : decode cX2_become 12 = .ok (.invokestatic 56, 3) := by decide +kernel
theorem dX2_become_15 : decode cX2_become 15 = .ok (.aload_n 1, 1) := by decide +kernel
theorem dX2_become_16 : decode cX2_become 16 = .ok (.getfield 15, 3) := by decide +kernel
theorem dX2_become_19 : decode cX2_become 19 = .ok (.iconst 0, 1) := by decide +kernel
theorem dX2_become_20 : decode cX2_become 20 = .ok (.aload_n 0, 1) := by decide +kernel
theorem dX2_become_21 : decode cX2_become 21 = .ok (.getfield 15, 3) := by decide +kernel
theorem dX2_become_24 : decode cX2_become 24 = .ok (.iconst 0, 1) := by decide +kernel
theorem dX2_become_25 : decode cX2_become 25 = .ok (.bipush 8, 2) := by decide +kernel
theorem dX2_become_27 : decode cX2_become 27 = .ok (.invokestatic 56, 3) := by decide +kernel
theorem dX2_become_30 : decode cX2_become 30 = .ok (.aload_n 1, 1) := by decide +kernel
theorem dX2_become_31 : decode cX2_become 31 = .ok (.getfield 18, 3) := by decide +kernel
theorem dX2_become_34 : decode cX2_become 34 = .ok (.iconst 0, 1) := by decide +kernel
theorem dX2_become_35 : decode cX2_become 35 = .ok (.aload_n 0, 1) := by decide +kernel
theorem dX2_become_36 : decode cX2_become 36 = .ok (.getfield 18, 3) := by decide +kernel
theorem dX2_become_39 : decode cX2_become 39 = .ok (.iconst 0, 1) := by decide +kernel
theorem dX2_become_40 : decode cX2_become 40 = .ok (.bipush 8, 2) := by decide +kernel
theorem dX2_become_42 : decode cX2_become 42 = .ok (.invokestatic 56, 3) := by decide +kernel
theorem dX2_become_45 : decode cX2_become 45 = .ok (.aload_n 1, 1) := by decide +kernel
theorem dX2_become_46 : decode cX2_become 46 = .ok (.getfield 21, 3) := by decide +kernel
theorem dX2_become_49 : decode cX2_become 49 = .ok (.iconst 0, 1) := by decide +kernel
theorem dX2_become_50 : decode cX2_become 50 = .ok (.aload_n 0, 1) := by decide +kernel
theorem dX2_become_51 : decode cX2_become 51 = .ok (.getfield 21, 3) := by decide +kernel
theorem dX2_become_54 : decode cX2_become 54 = .ok (.iconst 0, 1) := by decide +kernel
theorem dX2_become_55 : decode cX2_become 55 = .ok (.bipush 8, 2) := by decide +kernel
theorem dX2_become_57 : decode cX2_become 57 = .ok (.invokestatic 56, 3) := by decide +kernel
theorem dX2_become_60 : decode cX2_become 60 = .ok (.aload_n 1, 1) := by decide +kernel
theorem dX2_become_61 : decode cX2_become 61 = .ok (.getfield 24, 3) := by decide +kernel
theorem dX2_become_64 : decode cX2_become 64 = .ok (.iconst 0, 1) := by decide +kernel
theorem dX2_become_65 : decode cX2_become 65 = .ok (.aload_n 0, 1) := by decide +kernel
theorem dX2_become_66 : decode cX2_become 66 = .ok (.getfield 24, 3) := by decide +kernel
theorem dX2_become_69 : decode cX2_become 69 = .ok (.iconst 0, 1) := by decide +kernel
theorem dX2_become_70 : decode cX2_become 70 = .ok (.bipush 8, 2) := by decide +kernel
theorem dX2_become_72 : decode cX2_become 72 = .ok (.invokestatic 56, 3) := by decide +kernel
theorem dX2_become_75 : decode cX2_become 75 = .ok (.aload_n 1, 1) := by decide +kernel
theorem dX2_become_76 : decode cX2_become 76 = .ok (.getfield 27, 3) := by decide +kernel
theorem dX2_become_79 : decode cX2_become 79 = .ok (.iconst 0, 1) := by decide +kernel
theorem dX2_become_80 : decode cX2_become 80 = .ok (.aload_n 0, 1) := by decide +kernel
theorem dX2_become_81 : decode cX2_become 81 = .ok (.getfield 27, 3) := by decide +kernel
theorem dX2_become_84 : decode cX2_become 84 = .ok (.iconst 0, 1) := by decide +kernel
theorem dX2_become_85 : decode cX2_become 85 = .ok (.bipush 8, 2) := by decide +kernel
theorem dX2_become_87 : decode cX2_become 87 = .ok (.invokestatic 56, 3) := by decide +kernel
theorem dX2_become_90 : decode cX2_become 90 = .ok (.aload_n 1, 1) := by decide +kernel
theorem dX2_become_91 : decode cX2_become 91 = .ok (.getfield 30, 3) := by decide +kernel
theorem dX2_become_94 : decode cX2_become 94 = .ok (.iconst 0, 1) := by decide +kernel
theorem dX2_become_95 : decode cX2_become 95 = .ok (.aload_n 0, 1) := by decide +kernel
theorem dX2_become_96 : decode cX2_become 96 = .ok (.getfield 30, 3) := by decide +kernel
theorem dX2_become_99 : decode cX2_become 99 = .ok (.iconst 0, 1) := by decide +kernel
theorem dX2_become_100 : decode cX2_become 100 = .ok (.bipush 8, 2) := by decide +kernel
theorem dX2_become_102 : decode cX2_become 102 = .ok (.invokestatic 56, 3) := by decide +kernel
theorem dX2_become_105 : decode cX2_become 105 = .ok (.aload_n 1, 1) := by decide +kernel
theorem dX2_become_106 : decode cX2_become 106 = .ok (.getfield 33, 3) := by decide +kernel
theorem dX2_become_109 : decode cX2_become 109 = .ok (.iconst 0, 1) := by decide +kernel
theorem dX2_become_110 : decode cX2_become 110 = .ok (.aload_n 0, 1) := by decide +kernel
theorem dX2_become_111 : decode cX2_become 111 = .ok (.getfield 33, 3) := by decide +kernel
theorem dX2_become_114 : decode cX2_become 114 = .ok (.iconst 0, 1) := by decide +kernel
theorem dX2_become_115 : decode cX2_become 115 = .ok (.bipush 20, 2) := by decide +kernel
theorem dX2_become_117 : decode cX2_become 117 = .ok (.invokestatic 56, 3) := by decide +kernel
theorem dX2_become_120 : decode cX2_become 120 = .ok (.aload_n 0, 1) := by decide +kernel
theorem dX2_become_121 : decode cX2_become 121 = .ok (.aload_n 1, 1) := by decide +kernel
theorem dX2_become_122 : decode cX2_become 122 = .ok (.getfield 36, 3) := by decide +kernel
theorem dX2_become_125 : decode cX2_become 125 = .ok (.putfield 36, 3) := by decide +kernel
theorem dX2_become_128 : decode cX2_become 128 = .ok (.aload_n 0, 1) := by decide +kernel
theorem dX2_become_129 : decode cX2_become 129 = .ok (.aload_n 1, 1) := by decide +kernel
theorem dX2_become_130 : decode cX2_become 130 = .ok (.getfield 40, 3) := by decide +kernel
theorem dX2_become_133 : decode cX2_become 133 = .ok (.putfield 40, 3) := by decide +kernel
theorem dX2_become_136 : decode cX2_become 136 = .ok (.aload_n 0, 1) := by decide +kernel
theorem dX2_become_137 : decode cX2_become 137 = .ok (.aload_n 1, 1) := by decide +kernel
theorem dX2_become_138 : decode cX2_become 138 = .ok (.getfield 43, 3) := by decide +kernel
theorem dX2_become_141 : decode cX2_become 141 = .ok (.putfield 43, 3) := by decide +kernel
theorem dX2_become_144 : decode cX2_become 144 = .ok (.aload_n 0, 1) := by decide +kernel
theorem dX2_become_145 : decode cX2_become 145 = .ok (.aload_n 1, 1) := by decide +kernel
theorem dX2_become_146 : decode cX2_become 146 = .ok (.getfield 62, 3) := by decide +kernel
theorem dX2_become_149 : decode cX2_become 149 = .ok (.putfield 62, 3) := by decide +kernel
theorem dX2_become_152 : decode cX2_become 152 = .ok (.aload_n 0, 1) := by decide +kernel
theorem dX2_become_153 : decode cX2_become 153 = .ok (.aload_n 1, 1) := by decide +kernel
theorem dX2_become_154 : decode cX2_become 154 = .ok (.getfield 46, 3) := by decide +kernel
theorem dX2_become_157 : decode cX2_become 157 = .ok (.putfield 46, 3) := by decide +kernel
theorem dX2_become_160 : decode cX2_become 160 = .ok (.return_, 1) := by decide +kernel
theorem dX2_has_0 : decode cX2_has 0 = .ok (.iload_n 1, 1) := by decide +kernel
theorem dX2_has_1 : decode cX2_has 1 = .ok (.ifCond .lt 15, 3) := by decide +kernel
theorem dX2_has_4 : decode cX2_has 4 = .ok (.iload_n 1, 1) := by decide +kernel
theorem dX2_has_5 : decode cX2_has 5 = .ok (.aload_n 0, 1) := by decide +kernel
theorem dX2_has_6 : decode cX2_has 6 = .ok (.getfield 36, 3) := by decide +kernel
theorem dX2_has_9 : decode cX2_has 9 = .ok (.if_icmp .ge 7, 3) := by decide +kernel
theorem dX2_has_12 : decode cX2_has 12 = .ok (.iconst 1, 1) := by decide +kernel
theorem dX2_has_13 : decode cX2_has 13 = .ok (.goto 4, 3) := by decide +kernel
theorem dX2_has_16 : decode cX2_has 16 = .ok (.iconst 0, 1) := by decide +kernel
theorem dX2_has_17 : decode cX2_has 17 = .ok (.ireturn, 1) := by decide +kernel
theorem dX2_moves_0 : decode cX2_moves 0 = .ok (.aload_n 0, 1) := by decide +kernel
theorem dX2_moves_1 : decode cX2_moves 1 = .ok (.getfield 40, 3) := by decide +kernel
theorem dX2_moves_4 : decode cX2_moves 4 = .ok (.iconst 1, 1) := by decide +kernel
theorem dX2_moves_5 : decode cX2_moves 5 = .ok (.iload_n 1, 1) := by decide +kernel
theorem dX2_moves_6 : decode cX2_moves 6 = .ok (.ishl, 1) := by decide +kernel
theorem dX2_moves_7 : decode cX2_moves 7 = .ok (.iand, 1) := by decide +kernel
theorem dX2_moves_8 : decode cX2_moves 8 = .ok (.ifCond .eq 7, 3) := by decide +kernel
theorem dX2_moves_11 : decode cX2_moves 11 = .ok (.iconst 1, 1) := by decide +kernel
theorem dX2_moves_12 : decode cX2_moves 12 = .ok (.goto 4, 3) := by decide +kernel
theorem dX2_moves_15 : decode cX2_moves 15 = .ok (.iconst 0, 1) := by decide +kernel
theorem dX2_moves_16 : decode cX2_moves 16 = .ok (.ireturn, 1) := by decide +kernel
theorem dX2_hangs_0 : decode cX2_hangs 0 = .ok (.aload_n 0, 1) := by decide +kernel
theorem dX2_hangs_1 : decode cX2_hangs 1 = .ok (.getfield 43, 3) := by decide +kernel
theorem dX2_hangs_4 : decode cX2_hangs 4 = .ok (.iconst 1, 1) := by decide +kernel
theorem dX2_hangs_5 : decode cX2_hangs 5 = .ok (.iload_n 1, 1) := by decide +kernel
theorem dX2_hangs_6 : decode cX2_hangs 6 = .ok (.ishl, 1) := by decide +kernel
theorem dX2_hangs_7 : decode cX2_hangs 7 = .ok (.iand, 1) := by decide +kernel
theorem dX2_hangs_8 : decode cX2_hangs 8 = .ok (.ifCond .eq 7, 3) := by decide +kernel
theorem dX2_hangs_11 : decode cX2_hangs 11 = .ok (.iconst 1, 1) := by decide +kernel
theorem dX2_hangs_12 : decode cX2_hangs 12 = .ok (.goto 4, 3) := by decide +kernel
theorem dX2_hangs_15 : decode cX2_hangs 15 = .ok (.iconst 0, 1) := by decide +kernel
theorem dX2_hangs_16 : decode cX2_hangs 16 = .ok (.ireturn, 1) := by decide +kernel
theorem dX2_rests_0 : decode cX2_rests 0 = .ok (.aload_n 0, 1) := by decide +kernel
theorem dX2_rests_1 : decode cX2_rests 1 = .ok (.iload_n 1, 1) := by decide +kernel
theorem dX2_rests_2 : decode cX2_rests 2 = .ok (.invokevirtual 65, 3) := by decide +kernel
theorem dX2_rests_5 : decode cX2_rests 5 = .ok (.ifCond .eq 23, 3) := by decide +kernel
theorem dX2_rests_8 : decode cX2_rests 8 = .ok (.aload_n 0, 1) := by decide +kernel
theorem dX2_rests_9 : decode cX2_rests 9 = .ok (.getfield 40, 3) := by decide +kernel
theorem dX2_rests_12 : decode cX2_rests 12 = .ok (.aload_n 0, 1) := by decide +kernel
theorem dX2_rests_13 : decode cX2_rests 13 = .ok (.getfield 43, 3) := by decide +kernel
theorem dX2_rests_16 : decode cX2_rests 16 = .ok (.ior, 1) := by decide +kernel
theorem dX2_rests_17 : decode cX2_rests 17 = .ok (.iconst 1, 1) := by decide +kernel
theorem dX2_rests_18 : decode cX2_rests 18 = .ok (.iload_n 1, 1) := by decide +kernel
theorem dX2_rests_19 : decode cX2_rests 19 = .ok (.ishl, 1) := by decide +kernel
theorem dX2_rests_20 : decode cX2_rests 20 = .ok (.iand, 1) := by decide +kernel
theorem dX2_rests_21 : decode cX2_rests 21 = .ok (.ifCond .ne 7, 3) := by decide +kernel
theorem dX2_rests_24 : decode cX2_rests 24 = .ok (.iconst 1, 1) := by decide +kernel
theorem dX2_rests_25 : decode cX2_rests 25 = .ok (.goto 4, 3) := by decide +kernel
theorem dX2_rests_28 : decode cX2_rests 28 = .ok (.iconst 0, 1) := by decide +kernel
theorem dX2_rests_29 : decode cX2_rests 29 = .ok (.ireturn, 1) := by decide +kernel
theorem dX2_shape_0 : decode cX2_shape 0 = .ok (.aload_n 0, 1) := by decide +kernel
theorem dX2_shape_1 : decode cX2_shape 1 = .ok (.getfield 9, 3) := by decide +kernel
theorem dX2_shape_4 : decode cX2_shape 4 = .ok (.iload_n 1, 1) := by decide +kernel
theorem dX2_shape_5 : decode cX2_shape 5 = .ok (.iload_n 2, 1) := by decide +kernel
theorem dX2_shape_6 : decode cX2_shape 6 = .ok (.iastore, 1) := by decide +kernel
theorem dX2_shape_7 : decode cX2_shape 7 = .ok (.aload_n 0, 1) := by decide +kernel
theorem dX2_shape_8 : decode cX2_shape 8 = .ok (.getfield 15, 3) := by decide +kernel
theorem dX2_shape_11 : decode cX2_shape 11 = .ok (.iload_n 1, 1) := by decide +kernel
theorem dX2_shape_12 : decode cX2_shape 12 = .ok (.iload_n 3, 1) := by decide +kernel
theorem dX2_shape_13 : decode cX2_shape 13 = .ok (.iastore, 1) := by decide +kernel
theorem dX2_shape_14 : decode cX2_shape 14 = .ok (.aload_n 0, 1) := by decide +kernel
theorem dX2_shape_15 : decode cX2_shape 15 = .ok (.getfield 18, 3) := by decide +kernel
theorem dX2_shape_18 : decode cX2_shape 18 = .ok (.iload_n 1, 1) := by decide +kernel
theorem dX2_shape_19 : decode cX2_shape 19 = .ok (.iload_n 2, 1) := by decide +kernel
theorem dX2_shape_20 : decode cX2_shape 20 = .ok (.iconst 2, 1) := by decide +kernel
theorem dX2_shape_21 : decode cX2_shape 21 = .ok (.if_icmp .ne 9, 3) := by decide +kernel
theorem dX2_shape_24 : decode cX2_shape 24 = .ok (.iload_n 3, 1) := by decide +kernel
theorem dX2_shape_25 : decode cX2_shape 25 = .ok (.iconst 1, 1) := by decide +kernel
theorem dX2_shape_26 : decode cX2_shape 26 = .ok (.iadd, 1) := by decide +kernel
theorem dX2_shape_27 : decode cX2_shape 27 = .ok (.goto 4, 3) := by decide +kernel
theorem dX2_shape_30 : decode cX2_shape 30 = .ok (.iload_n 3, 1) := by decide +kernel
theorem dX2_shape_31 : decode cX2_shape 31 = .ok (.iastore, 1) := by decide +kernel
theorem dX2_shape_32 : decode cX2_shape 32 = .ok (.return_, 1) := by decide +kernel
theorem dX2_press_0 : decode cX2_press 0 = .ok (.aload_n 0, 1) := by decide +kernel
theorem dX2_press_1 : decode cX2_press 1 = .ok (.iload_n 1, 1) := by decide +kernel
theorem dX2_press_2 : decode cX2_press 2 = .ok (.iconst 0, 1) := by decide +kernel
theorem dX2_press_3 : decode cX2_press 3 = .ok (.invokevirtual 69, 3) := by decide +kernel
theorem dX2_press_6 : decode cX2_press 6 = .ok (.return_, 1) := by decide +kernel
theorem dX2_startAt_0 : decode cX2_startAt 0 = .ok (.aload_n 0, 1) := by decide +kernel
theorem dX2_startAt_1 : decode cX2_startAt 1 = .ok (.dup, 1) := by decide +kernel
theorem dX2_startAt_2 : decode cX2_startAt 2 = .ok (.getfield 43, 3) := by decide +kernel
theorem dX2_startAt_5 : decode cX2_startAt 5 = .ok (.iconst 1, 1) := by decide +kernel
theorem dX2_startAt_6 : decode cX2_startAt 6 = .ok (.iload_n 1, 1) := by decide +kernel
theorem dX2_startAt_7 : decode cX2_startAt 7 = .ok (.ishl, 1) := by decide +kernel
theorem dX2_startAt_8 : decode cX2_startAt 8 = .ok (.iconst (-1), 1) := by decide +kernel
theorem dX2_startAt_9 : decode cX2_startAt 9 = .ok (.ixor, 1) := by decide +kernel
theorem dX2_startAt_10 : decode cX2_startAt 10 = .ok (.iand, 1) := by decide +kernel
theorem dX2_startAt_11 : decode cX2_startAt 11 = .ok (.putfield 43, 3) := by decide +kernel
theorem dX2_startAt_14 : decode cX2_startAt 14 = .ok (.aload_n 0, 1) := by decide +kernel
theorem dX2_startAt_15 : decode cX2_startAt 15 = .ok (.dup, 1) := by decide +kernel
theorem dX2_startAt_16 : decode cX2_startAt 16 = .ok (.getfield 40, 3) := by decide +kernel
theorem dX2_startAt_19 : decode cX2_startAt 19 = .ok (.iconst 1, 1) := by decide +kernel
theorem dX2_startAt_20 : decode cX2_startAt 20 = .ok (.iload_n 1, 1) := by decide +kernel
theorem dX2_startAt_21 : decode cX2_startAt 21 = .ok (.ishl, 1) := by decide +kernel
theorem dX2_startAt_22 : decode cX2_startAt 22 = .ok (.ior, 1) := by decide +kernel
theorem dX2_startAt_23 : decode cX2_startAt 23 = .ok (.putfield 40, 3) := by decide +kernel
theorem dX2_startAt_26 : decode cX2_startAt 26 = .ok (.aload_n 0, 1) := by decide +kernel
theorem dX2_startAt_27 : decode cX2_startAt 27 = .ok (.getfield 27, 3) := by decide +kernel
theorem dX2_startAt_30 : decode cX2_startAt 30 = .ok (.iload_n 1, 1) := by decide +kernel
theorem dX2_startAt_31 : decode cX2_startAt 31 = .ok (.iload_n 2, 1) := by decide +kernel
theorem dX2_startAt_32 : decode cX2_startAt 32 = .ok (.iastore, 1) := by decide +kernel
theorem dX2_startAt_33 : decode cX2_startAt 33 = .ok (.aload_n 0, 1) := by decide +kernel
theorem dX2_startAt_34 : decode cX2_startAt 34 = .ok (.getfield 30, 3) := by decide +kernel
theorem dX2_startAt_37 : decode cX2_startAt 37 = .ok (.iload_n 1, 1) := by decide +kernel
theorem dX2_startAt_38 : decode cX2_startAt 38 = .ok (.iconst 0, 1) := by decide +kernel
theorem dX2_startAt_39 : decode cX2_startAt 39 = .ok (.iastore, 1) := by decide +kernel
theorem dX2_startAt_40 : decode cX2_startAt 40 = .ok (.return_, 1) := by decide +kernel
theorem dX2_layDown_0 : decode cX2_layDown 0 = .ok (.iconst 0, 1) := by decide +kernel
theorem dX2_layDown_1 : decode cX2_layDown 1 = .ok (.istore_n 2, 1) := by decide +kernel
theorem dX2_layDown_2 : decode cX2_layDown 2 = .ok (.iload_n 2, 1) := by decide +kernel
theorem dX2_layDown_3 : decode cX2_layDown 3 = .ok (.aload_n 0, 1) := by decide +kernel
theorem dX2_layDown_4 : decode cX2_layDown 4 = .ok (.getfield 36, 3) := by decide +kernel
theorem dX2_layDown_7 : decode cX2_layDown 7 = .ok (.if_icmp .ge 24, 3) := by decide +kernel
theorem dX2_layDown_10 : decode cX2_layDown 10 = .ok (.iload_n 1, 1) := by decide +kernel
theorem dX2_layDown_11 : decode cX2_layDown 11 = .ok (.iconst 1, 1) := by decide +kernel
theorem dX2_layDown_12 : decode cX2_layDown 12 = .ok (.iload_n 2, 1) := by decide +kernel
theorem dX2_layDown_13 : decode cX2_layDown 13 = .ok (.ishl, 1) := by decide +kernel
theorem dX2_layDown_14 : decode cX2_layDown 14 = .ok (.iand, 1) := by decide +kernel
theorem dX2_layDown_15 : decode cX2_layDown 15 = .ok (.ifCond .eq 10, 3) := by decide +kernel
theorem dX2_layDown_18 : decode cX2_layDown 18 = .ok (.aload_n 0, 1) := by decide +kernel
theorem dX2_layDown_19 : decode cX2_layDown 19 = .ok (.getfield 30, 3) := by decide +kernel
theorem dX2_layDown_22 : decode cX2_layDown 22 = .ok (.iload_n 2, 1) := by decide +kernel
theorem dX2_layDown_23 : decode cX2_layDown 23 = .ok (.iconst 0, 1) := by decide +kernel
theorem dX2_layDown_24 : decode cX2_layDown 24 = .ok (.iastore, 1) := by decide +kernel
theorem dX2_layDown_25 : decode cX2_layDown 25 = .ok (.iinc 2 1, 3) := by decide +kernel
theorem dX2_layDown_28 : decode cX2_layDown 28 = .ok (.goto (-26), 3) := by decide +kernel
theorem dX2_layDown_31 : decode cX2_layDown 31 = .ok (.aload_n 0, 1) := by decide +kernel
theorem dX2_layDown_32 : decode cX2_layDown 32 = .ok (.dup, 1) := by decide +kernel
theorem dX2_layDown_33 : decode cX2_layDown 33 = .ok (.getfield 40, 3) := by decide +kernel
theorem dX2_layDown_36 : decode cX2_layDown 36 = .ok (.iload_n 1, 1) := by decide +kernel
theorem dX2_layDown_37 : decode cX2_layDown 37 = .ok (.iconst (-1), 1) := by decide +kernel
theorem dX2_layDown_38 : decode cX2_layDown 38 = .ok (.ixor, 1) := by decide +kernel
theorem dX2_layDown_39 : decode cX2_layDown 39 = .ok (.iand, 1) := by decide +kernel
theorem dX2_layDown_40 : decode cX2_layDown 40 = .ok (.putfield 40, 3) := by decide +kernel
theorem dX2_layDown_43 : decode cX2_layDown 43 = .ok (.aload_n 0, 1) := by decide +kernel
theorem dX2_layDown_44 : decode cX2_layDown 44 = .ok (.dup, 1) := by decide +kernel
theorem dX2_layDown_45 : decode cX2_layDown 45 = .ok (.getfield 43, 3) := by decide +kernel
theorem dX2_layDown_48 : decode cX2_layDown 48 = .ok (.iload_n 1, 1) := by decide +kernel
theorem dX2_layDown_49 : decode cX2_layDown 49 = .ok (.iconst (-1), 1) := by decide +kernel
theorem dX2_layDown_50 : decode cX2_layDown 50 = .ok (.ixor, 1) := by decide +kernel
theorem dX2_layDown_51 : decode cX2_layDown 51 = .ok (.iand, 1) := by decide +kernel
theorem dX2_layDown_52 : decode cX2_layDown 52 = .ok (.putfield 43, 3) := by decide +kernel
theorem dX2_layDown_55 : decode cX2_layDown 55 = .ok (.return_, 1) := by decide +kernel
theorem dX2_bringBack_0 : decode cX2_bringBack 0 = .ok (.aload_n 0, 1) := by decide +kernel
theorem dX2_bringBack_1 : decode cX2_bringBack 1 = .ok (.iconst 0, 1) := by decide +kernel
theorem dX2_bringBack_2 : decode cX2_bringBack 2 = .ok (.putfield 62, 3) := by decide +kernel
theorem dX2_bringBack_5 : decode cX2_bringBack 5 = .ok (.aload_n 0, 1) := by decide +kernel
theorem dX2_bringBack_6 : decode cX2_bringBack 6 = .ok (.getfield 33, 3) := by decide +kernel
theorem dX2_bringBack_9 : decode cX2_bringBack 9 = .ok (.iconst 0, 1) := by decide +kernel
theorem dX2_bringBack_10 : decode cX2_bringBack 10 = .ok (.invokestatic 73, 3) := by decide +kernel
theorem dX2_bringBack_13 : decode cX2_bringBack 13 = .ok (.return_, 1) := by decide +kernel
theorem dX2_exchange_0 : decode cX2_exchange 0 = .ok (.aload_n 0, 1) := by decide +kernel
theorem dX2_exchange_1 : decode cX2_exchange 1 = .ok (.getfield 21, 3) := by decide +kernel
theorem dX2_exchange_4 : decode cX2_exchange 4 = .ok (.iload_n 1, 1) := by decide +kernel
theorem dX2_exchange_5 : decode cX2_exchange 5 = .ok (.iaload, 1) := by decide +kernel
theorem dX2_exchange_6 : decode cX2_exchange 6 = .ok (.istore_n 3, 1) := by decide +kernel
theorem dX2_exchange_7 : decode cX2_exchange 7 = .ok (.aload_n 0, 1) := by decide +kernel
theorem dX2_exchange_8 : decode cX2_exchange 8 = .ok (.getfield 21, 3) := by decide +kernel
theorem dX2_exchange_11 : decode cX2_exchange 11 = .ok (.iload_n 1, 1) := by decide +kernel
theorem dX2_exchange_12 : decode cX2_exchange 12 = .ok (.aload_n 0, 1) := by decide +kernel
theorem dX2_exchange_13 : decode cX2_exchange 13 = .ok (.getfield 21, 3) := by decide +kernel
theorem dX2_exchange_16 : decode cX2_exchange 16 = .ok (.iload_n 2, 1) := by decide +kernel
theorem dX2_exchange_17 : decode cX2_exchange 17 = .ok (.iaload, 1) := by decide +kernel
theorem dX2_exchange_18 : decode cX2_exchange 18 = .ok (.iastore, 1) := by decide +kernel
theorem dX2_exchange_19 : decode cX2_exchange 19 = .ok (.aload_n 0, 1) := by decide +kernel
theorem dX2_exchange_20 : decode cX2_exchange 20 = .ok (.getfield 21, 3) := by decide +kernel
theorem dX2_exchange_23 : decode cX2_exchange 23 = .ok (.iload_n 2, 1) := by decide +kernel
theorem dX2_exchange_24 : decode cX2_exchange 24 = .ok (.iload_n 3, 1) := by decide +kernel
theorem dX2_exchange_25 : decode cX2_exchange 25 = .ok (.iastore, 1) := by decide +kernel
theorem dX2_exchange_26 : decode cX2_exchange 26 = .ok (.aload_n 0, 1) := by decide +kernel
theorem dX2_exchange_27 : decode cX2_exchange 27 = .ok (.getfield 24, 3) := by decide +kernel
theorem dX2_exchange_30 : decode cX2_exchange 30 = .ok (.aload_n 0, 1) := by decide +kernel
theorem dX2_exchange_31 : decode cX2_exchange 31 = .ok (.getfield 21, 3) := by decide +kernel
theorem dX2_exchange_34 : decode cX2_exchange 34 = .ok (.iload_n 1, 1) := by decide +kernel
theorem dX2_exchange_35 : decode cX2_exchange 35 = .ok (.iaload, 1) := by decide +kernel
theorem dX2_exchange_36 : decode cX2_exchange 36 = .ok (.iload_n 1, 1) := by decide +kernel
theorem dX2_exchange_37 : decode cX2_exchange 37 = .ok (.iastore, 1) := by decide +kernel
theorem dX2_exchange_38 : decode cX2_exchange 38 = .ok (.aload_n 0, 1) := by decide +kernel
theorem dX2_exchange_39 : decode cX2_exchange 39 = .ok (.getfield 24, 3) := by decide +kernel
theorem dX2_exchange_42 : decode cX2_exchange 42 = .ok (.aload_n 0, 1) := by decide +kernel
theorem dX2_exchange_43 : decode cX2_exchange 43 = .ok (.getfield 21, 3) := by decide +kernel
theorem dX2_exchange_46 : decode cX2_exchange 46 = .ok (.iload_n 2, 1) := by decide +kernel
theorem dX2_exchange_47 : decode cX2_exchange 47 = .ok (.iaload, 1) := by decide +kernel
theorem dX2_exchange_48 : decode cX2_exchange 48 = .ok (.iload_n 2, 1) := by decide +kernel
theorem dX2_exchange_49 : decode cX2_exchange 49 = .ok (.iastore, 1) := by decide +kernel
theorem dX2_exchange_50 : decode cX2_exchange 50 = .ok (.return_, 1) := by decide +kernel
theorem dX2_pass_0 : decode cX2_pass 0 = .ok (.aload_n 0, 1) := by decide +kernel
theorem dX2_pass_1 : decode cX2_pass 1 = .ok (.invokevirtual 79, 3) := by decide +kernel
theorem dX2_pass_4 : decode cX2_pass 4 = .ok (.aload_n 0, 1) := by decide +kernel
theorem dX2_pass_5 : decode cX2_pass 5 = .ok (.invokevirtual 82, 3) := by decide +kernel
theorem dX2_pass_8 : decode cX2_pass 8 = .ok (.istore_n 1, 1) := by decide +kernel
theorem dX2_pass_9 : decode cX2_pass 9 = .ok (.aload_n 0, 1) := by decide +kernel
theorem dX2_pass_10 : decode cX2_pass 10 = .ok (.dup, 1) := by decide +kernel
theorem dX2_pass_11 : decode cX2_pass 11 = .ok (.getfield 43, 3) := by decide +kernel
theorem dX2_pass_14 : decode cX2_pass 14 = .ok (.iload_n 1, 1) := by decide +kernel
theorem dX2_pass_15 : decode cX2_pass 15 = .ok (.ior, 1) := by decide +kernel
theorem dX2_pass_16 : decode cX2_pass 16 = .ok (.putfield 43, 3) := by decide +kernel
theorem dX2_pass_19 : decode cX2_pass 19 = .ok (.aload_n 0, 1) := by decide +kernel
theorem dX2_pass_20 : decode cX2_pass 20 = .ok (.dup, 1) := by decide +kernel
theorem dX2_pass_21 : decode cX2_pass 21 = .ok (.getfield 40, 3) := by decide +kernel
theorem dX2_pass_24 : decode cX2_pass 24 = .ok (.iload_n 1, 1) := by decide +kernel
theorem dX2_pass_25 : decode cX2_pass 25 = .ok (.iconst (-1), 1) := by decide +kernel
theorem dX2_pass_26 : decode cX2_pass 26 = .ok (.ixor, 1) := by decide +kernel
theorem dX2_pass_27 : decode cX2_pass 27 = .ok (.iand, 1) := by decide +kernel
theorem dX2_pass_28 : decode cX2_pass 28 = .ok (.putfield 40, 3) := by decide +kernel
theorem dX2_pass_31 : decode cX2_pass 31 = .ok (.aload_n 0, 1) := by decide +kernel
theorem dX2_pass_32 : decode cX2_pass 32 = .ok (.dup, 1) := by decide +kernel
theorem dX2_pass_33 : decode cX2_pass 33 = .ok (.getfield 46, 3) := by decide +kernel
theorem dX2_pass_36 : decode cX2_pass 36 = .ok (.iconst 1, 1) := by decide +kernel
theorem dX2_pass_37 : decode cX2_pass 37 = .ok (.iadd, 1) := by decide +kernel
theorem dX2_pass_38 : decode cX2_pass 38 = .ok (.putfield 46, 3) := by decide +kernel
theorem dX2_pass_41 : decode cX2_pass 41 = .ok (.aload_n 0, 1) := by decide +kernel
theorem dX2_pass_42 : decode cX2_pass 42 = .ok (.invokevirtual 86, 3) := by decide +kernel
theorem dX2_pass_45 : decode cX2_pass 45 = .ok (.ireturn, 1) := by decide +kernel
theorem dX2_foresee_0 : decode cX2_foresee 0 = .ok (.iconst 0, 1) := by decide +kernel
theorem dX2_foresee_1 : decode cX2_foresee 1 = .ok (.istore_n 2, 1) := by decide +kernel
theorem dX2_foresee_2 : decode cX2_foresee 2 = .ok (.iload_n 2, 1) := by decide +kernel
theorem dX2_foresee_3 : decode cX2_foresee 3 = .ok (.iload_n 1, 1) := by decide +kernel
theorem dX2_foresee_4 : decode cX2_foresee 4 = .ok (.if_icmp .ge 21, 3) := by decide +kernel
theorem dX2_foresee_7 : decode cX2_foresee 7 = .ok (.aload_n 0, 1) := by decide +kernel
theorem dX2_foresee_8 : decode cX2_foresee 8 = .ok (.getfield 40, 3) := by decide +kernel
theorem dX2_foresee_11 : decode cX2_foresee 11 = .ok (.ifCond .eq 14, 3) := by decide +kernel
theorem dX2_foresee_14 : decode cX2_foresee 14 = .ok (.aload_n 0, 1) := by decide +kernel
theorem dX2_foresee_15 : decode cX2_foresee 15 = .ok (.invokevirtual 89, 3) := by decide +kernel
theorem dX2_foresee_18 : decode cX2_foresee 18 = .ok (.pop, 1) := by decide +kernel
theorem dX2_foresee_19 : decode cX2_foresee 19 = .ok (.iinc 2 1, 3) := by decide +kernel
theorem dX2_foresee_22 : decode cX2_foresee 22 = .ok (.goto (-20), 3) := by decide +kernel
theorem dX2_foresee_25 : decode cX2_foresee 25 = .ok (.return_, 1) := by decide +kernel
theorem dX2_riseAndFall_0 : decode cX2_riseAndFall 0 = .ok (.iconst 0, 1) := by decide +kernel
theorem dX2_riseAndFall_1 : decode cX2_riseAndFall 1 = .ok (.istore_n 1, 1) := by decide +kernel
theorem dX2_riseAndFall_2 : decode cX2_riseAndFall 2 = .ok (.iload_n 1, 1) := by decide +kernel
theorem dX2_riseAndFall_3 : decode cX2_riseAndFall 3 = .ok (.aload_n 0, 1) := by decide +kernel
theorem dX2_riseAndFall_4 : decode cX2_riseAndFall 4 = .ok (.getfield 36, 3) := by decide +kernel
theorem dX2_riseAndFall_7 : decode cX2_riseAndFall 7 = .ok (.if_icmp .ge 65, 3) := by decide +kernel
theorem dX2_riseAndFall_10 : decode cX2_riseAndFall 10 = .ok (.aload_n 0, 1) := by decide +kernel
theorem dX2_riseAndFall_11 : decode cX2_riseAndFall 11 = .ok (.iload_n 1, 1) := by decide +kernel
theorem dX2_riseAndFall_12 : decode cX2_riseAndFall 12 = .ok (.invokevirtual 92, 3) := by decide +kernel
theorem dX2_riseAndFall_15 : decode cX2_riseAndFall 15 = .ok (.ifCond .eq 51, 3) := by decide +kernel
theorem dX2_riseAndFall_18 : decode cX2_riseAndFall 18 = .ok (.aload_n 0, 1) := by decide +kernel
theorem dX2_riseAndFall_19 : decode cX2_riseAndFall 19 = .ok (.getfield 27, 3) := by decide +kernel
theorem dX2_riseAndFall_22 : decode cX2_riseAndFall 22 = .ok (.iload_n 1, 1) := by decide +kernel
theorem dX2_riseAndFall_23 : decode cX2_riseAndFall 23 = .ok (.dup2, 1) := by decide +kernel
theorem dX2_riseAndFall_24 : decode cX2_riseAndFall 24 = .ok (.iaload, 1) := by decide +kernel
theorem dX2_riseAndFall_25 : decode cX2_riseAndFall 25 = .ok (.iconst 1, 1) := by decide +kernel
theorem dX2_riseAndFall_26 : decode cX2_riseAndFall 26 = .ok (.iadd, 1) := by decide +kernel
theorem dX2_riseAndFall_27 : decode cX2_riseAndFall 27 = .ok (.iastore, 1) := by decide +kernel
theorem dX2_riseAndFall_28 : decode cX2_riseAndFall 28 = .ok (.aload_n 0, 1) := by decide +kernel
theorem dX2_riseAndFall_29 : decode cX2_riseAndFall 29 = .ok (.getfield 30, 3) := by decide +kernel
theorem dX2_riseAndFall_32 : decode cX2_riseAndFall 32 = .ok (.iload_n 1, 1) := by decide +kernel
theorem dX2_riseAndFall_33 : decode cX2_riseAndFall 33 = .ok (.iconst 0, 1) := by decide +kernel
theorem dX2_riseAndFall_34 : decode cX2_riseAndFall 34 = .ok (.aload_n 0, 1) := by decide +kernel
theorem dX2_riseAndFall_35 : decode cX2_riseAndFall 35 = .ok (.iload_n 1, 1) := by decide +kernel
theorem dX2_riseAndFall_36 : decode cX2_riseAndFall 36 = .ok (.invokevirtual 95, 3) := by decide +kernel
theorem dX2_riseAndFall_39 : decode cX2_riseAndFall 39 = .ok (.invokestatic 99, 3) := by decide +kernel
theorem dX2_riseAndFall_42 : decode cX2_riseAndFall 42 = .ok (.iastore, 1) := by decide +kernel
theorem dX2_riseAndFall_43 : decode cX2_riseAndFall 43 = .ok (.aload_n 0, 1) := by decide +kernel
theorem dX2_riseAndFall_44 : decode cX2_riseAndFall 44 = .ok (.getfield 30, 3) := by decide +kernel
theorem dX2_riseAndFall_47 : decode cX2_riseAndFall 47 = .ok (.iload_n 1, 1) := by decide +kernel
theorem dX2_riseAndFall_48 : decode cX2_riseAndFall 48 = .ok (.iaload, 1) := by decide +kernel
theorem dX2_riseAndFall_49 : decode cX2_riseAndFall 49 = .ok (.ifCond .ne 17, 3) := by decide +kernel
theorem dX2_riseAndFall_52 : decode cX2_riseAndFall 52 = .ok (.aload_n 0, 1) := by decide +kernel
theorem dX2_riseAndFall_53 : decode cX2_riseAndFall 53 = .ok (.dup, 1) := by decide +kernel
theorem dX2_riseAndFall_54 : decode cX2_riseAndFall 54 = .ok (.getfield 40, 3) := by decide +kernel
theorem dX2_riseAndFall_57 : decode cX2_riseAndFall 57 = .ok (.iconst 1, 1) := by decide +kernel
theorem dX2_riseAndFall_58 : decode cX2_riseAndFall 58 = .ok (.iload_n 1, 1) := by decide +kernel
theorem dX2_riseAndFall_59 : decode cX2_riseAndFall 59 = .ok (.ishl, 1) := by decide +kernel
theorem dX2_riseAndFall_60 : decode cX2_riseAndFall 60 = .ok (.iconst (-1), 1) := by decide +kernel
theorem dX2_riseAndFall_61 : decode cX2_riseAndFall 61 = .ok (.ixor, 1) := by decide +kernel
theorem dX2_riseAndFall_62 : decode cX2_riseAndFall 62 = .ok (.iand, 1) := by decide +kernel
theorem dX2_riseAndFall_63 : decode cX2_riseAndFall 63 = .ok (.putfield 40, 3) := by decide +kernel
theorem dX2_riseAndFall_66 : decode cX2_riseAndFall 66 = .ok (.iinc 1 1, 3) := by decide +kernel
theorem dX2_riseAndFall_69 : decode cX2_riseAndFall 69 = .ok (.goto (-67), 3) := by decide +kernel
theorem dX2_riseAndFall_72 : decode cX2_riseAndFall 72 = .ok (.return_, 1) := by decide +kernel
theorem dX2_heightByTime_0 : decode cX2_heightByTime 0 = .ok (.aload_n 0, 1) := by decide +kernel
theorem dX2_heightByTime_1 : decode cX2_heightByTime 1 = .ok (.getfield 27, 3) := by decide +kernel
theorem dX2_heightByTime_4 : decode cX2_heightByTime 4 = .ok (.iload_n 1, 1) := by decide +kernel
theorem dX2_heightByTime_5 : decode cX2_heightByTime 5 = .ok (.iaload, 1) := by decide +kernel
theorem dX2_heightByTime_6 : decode cX2_heightByTime 6 = .ok (.aload_n 0, 1) := by decide +kernel
theorem dX2_heightByTime_7 : decode cX2_heightByTime 7 = .ok (.getfield 18, 3) := by decide +kernel
theorem dX2_heightByTime_10 : decode cX2_heightByTime 10 = .ok (.iload_n 1, 1) := by decide +kernel
theorem dX2_heightByTime_11 : decode cX2_heightByTime 11 = .ok (.iaload, 1) := by decide +kernel
theorem dX2_heightByTime_12 : decode cX2_heightByTime 12 = .ok (.isub, 1) := by decide +kernel
theorem dX2_heightByTime_13 : decode cX2_heightByTime 13 = .ok (.istore_n 2, 1) := by decide +kernel
theorem dX2_heightByTime_14 : decode cX2_heightByTime 14 = .ok (.iload_n 2, 1) := by decide +kernel
theorem dX2_heightByTime_15 : decode cX2_heightByTime 15 = .ok (.ifCond .gt 10, 3) := by decide +kernel
theorem dX2_heightByTime_18 : decode cX2_heightByTime 18 = .ok (.aload_n 0, 1) := by decide +kernel
theorem dX2_heightByTime_19 : decode cX2_heightByTime 19 = .ok (.getfield 27, 3) := by decide +kernel
theorem dX2_heightByTime_22 : decode cX2_heightByTime 22 = .ok (.iload_n 1, 1) := by decide +kernel
theorem dX2_heightByTime_23 : decode cX2_heightByTime 23 = .ok (.iaload, 1) := by decide +kernel
theorem dX2_heightByTime_24 : decode cX2_heightByTime 24 = .ok (.ireturn, 1) := by decide +kernel
theorem dX2_heightByTime_25 : decode cX2_heightByTime 25 = .ok (.aload_n 0, 1) := by decide +kernel
theorem dX2_heightByTime_26 : decode cX2_heightByTime 26 = .ok (.getfield 9, 3) := by decide +kernel
theorem dX2_heightByTime_29 : decode cX2_heightByTime 29 = .ok (.iload_n 1, 1) := by decide +kernel
theorem dX2_heightByTime_30 : decode cX2_heightByTime 30 = .ok (.iaload, 1) := by decide +kernel
theorem dX2_heightByTime_31 : decode cX2_heightByTime 31 = .ok (.iconst 3, 1) := by decide +kernel
theorem dX2_heightByTime_32 : decode cX2_heightByTime 32 = .ok (.if_icmp .ne 16, 3) := by decide +kernel
theorem dX2_heightByTime_35 : decode cX2_heightByTime 35 = .ok (.aload_n 0, 1) := by decide +kernel
theorem dX2_heightByTime_36 : decode cX2_heightByTime 36 = .ok (.getfield 18, 3) := by decide +kernel
theorem dX2_heightByTime_39 : decode cX2_heightByTime 39 = .ok (.iload_n 1, 1) := by decide +kernel
theorem dX2_heightByTime_40 : decode cX2_heightByTime 40 = .ok (.iaload, 1) := by decide +kernel
theorem dX2_heightByTime_41 : decode cX2_heightByTime 41 = .ok (.iconst 2, 1) := by decide +kernel
theorem dX2_heightByTime_42 : decode cX2_heightByTime 42 = .ok (.iload_n 2, 1) := by decide +kernel
theorem dX2_heightByTime_43 : decode cX2_heightByTime 43 = .ok (.imul, 1) := by decide +kernel
theorem dX2_heightByTime_44 : decode cX2_heightByTime 44 = .ok (.isub, 1) := by decide +kernel
theorem dX2_heightByTime_45 : decode cX2_heightByTime 45 = .ok (.goto 11, 3) := by decide +kernel
theorem dX2_heightByTime_48 : decode cX2_heightByTime 48 = .ok (.aload_n 0, 1) := by decide +kernel
theorem dX2_heightByTime_49 : decode cX2_heightByTime 49 = .ok (.getfield 18, 3) := by decide +kernel
theorem dX2_heightByTime_52 : decode cX2_heightByTime 52 = .ok (.iload_n 1, 1) := by decide +kernel
theorem dX2_heightByTime_53 : decode cX2_heightByTime 53 = .ok (.iaload, 1) := by decide +kernel
theorem dX2_heightByTime_54 : decode cX2_heightByTime 54 = .ok (.iload_n 2, 1) := by decide +kernel
theorem dX2_heightByTime_55 : decode cX2_heightByTime 55 = .ok (.isub, 1) := by decide +kernel
theorem dX2_heightByTime_56 : decode cX2_heightByTime 56 = .ok (.ireturn, 1) := by decide +kernel
theorem dX2_meeting_0 : decode cX2_meeting 0 = .ok (.iconst 0, 1) := by decide +kernel
theorem dX2_meeting_1 : decode cX2_meeting 1 = .ok (.istore_n 1, 1) := by decide +kernel
theorem dX2_meeting_2 : decode cX2_meeting 2 = .ok (.iconst 0, 1) := by decide +kernel
theorem dX2_meeting_3 : decode cX2_meeting 3 = .ok (.istore_n 2, 1) := by decide +kernel
theorem dX2_meeting_4 : decode cX2_meeting 4 = .ok (.iload_n 2, 1) := by decide +kernel
theorem dX2_meeting_5 : decode cX2_meeting 5 = .ok (.aload_n 0, 1) := by decide +kernel
theorem dX2_meeting_6 : decode cX2_meeting 6 = .ok (.getfield 36, 3) := by decide +kernel
theorem dX2_meeting_9 : decode cX2_meeting 9 = .ok (.if_icmp .ge 30, 3) := by decide +kernel
theorem dX2_meeting_12 : decode cX2_meeting 12 = .ok (.aload_n 0, 1) := by decide +kernel
theorem dX2_meeting_13 : decode cX2_meeting 13 = .ok (.getfield 30, 3) := by decide +kernel
theorem dX2_meeting_16 : decode cX2_meeting 16 = .ok (.iload_n 2, 1) := by decide +kernel
theorem dX2_meeting_17 : decode cX2_meeting 17 = .ok (.iaload, 1) := by decide +kernel
theorem dX2_meeting_18 : decode cX2_meeting 18 = .ok (.aload_n 0, 1) := by decide +kernel
theorem dX2_meeting_19 : decode cX2_meeting 19 = .ok (.getfield 18, 3) := by decide +kernel
theorem dX2_meeting_22 : decode cX2_meeting 22 = .ok (.iload_n 2, 1) := by decide +kernel
theorem dX2_meeting_23 : decode cX2_meeting 23 = .ok (.iaload, 1) := by decide +kernel
theorem dX2_meeting_24 : decode cX2_meeting 24 = .ok (.if_icmp .ne 9, 3) := by decide +kernel
theorem dX2_meeting_27 : decode cX2_meeting 27 = .ok (.iload_n 1, 1) := by decide +kernel
theorem dX2_meeting_28 : decode cX2_meeting 28 = .ok (.iconst 1, 1) := by decide +kernel
theorem dX2_meeting_29 : decode cX2_meeting 29 = .ok (.iload_n 2, 1) := by decide +kernel
theorem dX2_meeting_30 : decode cX2_meeting 30 = .ok (.ishl, 1) := by decide +kernel
theorem dX2_meeting_31 : decode cX2_meeting 31 = .ok (.ior, 1) := by decide +kernel
theorem dX2_meeting_32 : decode cX2_meeting 32 = .ok (.istore_n 1, 1) := by decide +kernel
theorem dX2_meeting_33 : decode cX2_meeting 33 = .ok (.iinc 2 1, 3) := by decide +kernel
theorem dX2_meeting_36 : decode cX2_meeting 36 = .ok (.goto (-32), 3) := by decide +kernel
theorem dX2_meeting_39 : decode cX2_meeting 39 = .ok (.iload_n 1, 1) := by decide +kernel
theorem dX2_meeting_40 : decode cX2_meeting 40 = .ok (.aload_n 0, 1) := by decide +kernel
theorem dX2_meeting_41 : decode cX2_meeting 41 = .ok (.getfield 40, 3) := by decide +kernel
theorem dX2_meeting_44 : decode cX2_meeting 44 = .ok (.iand, 1) := by decide +kernel
theorem dX2_meeting_45 : decode cX2_meeting 45 = .ok (.ifCond .eq 15, 3) := by decide +kernel
theorem dX2_meeting_48 : decode cX2_meeting 48 = .ok (.iload_n 1, 1) := by decide +kernel
theorem dX2_meeting_49 : decode cX2_meeting 49 = .ok (.invokestatic 105, 3) := by decide +kernel
theorem dX2_meeting_52 : decode cX2_meeting 52 = .ok (.iconst 1, 1) := by decide +kernel
theorem dX2_meeting_53 : decode cX2_meeting 53 = .ok (.if_icmp .le 7, 3) := by decide +kernel
theorem dX2_meeting_56 : decode cX2_meeting 56 = .ok (.iconst 1, 1) := by decide +kernel
theorem dX2_meeting_57 : decode cX2_meeting 57 = .ok (.goto 4, 3) := by decide +kernel
theorem dX2_meeting_60 : decode cX2_meeting 60 = .ok (.iconst 0, 1) := by decide +kernel
theorem dX2_meeting_61 : decode cX2_meeting 61 = .ok (.istore_n 2, 1) := by decide +kernel
theorem dX2_meeting_62 : decode cX2_meeting 62 = .ok (.iload_n 2, 1) := by decide +kernel
theorem dX2_meeting_63 : decode cX2_meeting 63 = .ok (.ifCond .eq 7, 3) := by decide +kernel
theorem dX2_meeting_66 : decode cX2_meeting 66 = .ok (.iload_n 1, 1) := by decide +kernel
theorem dX2_meeting_67 : decode cX2_meeting 67 = .ok (.goto 4, 3) := by decide +kernel
theorem dX2_meeting_70 : decode cX2_meeting 70 = .ok (.iconst 0, 1) := by decide +kernel
theorem dX2_meeting_71 : decode cX2_meeting 71 = .ok (.istore_n 3, 1) := by decide +kernel
theorem dX2_meeting_72 : decode cX2_meeting 72 = .ok (.iconst 1, 1) := by decide +kernel
theorem dX2_meeting_73 : decode cX2_meeting 73 = .ok (.istore 4, 2) := by decide +kernel
theorem dX2_meeting_75 : decode cX2_meeting 75 = .ok (.iload 4, 2) := by decide +kernel
theorem dX2_meeting_77 : decode cX2_meeting 77 = .ok (.aload_n 0, 1) := by decide +kernel
theorem dX2_meeting_78 : decode cX2_meeting 78 = .ok (.getfield 36, 3) := by decide +kernel
theorem dX2_meeting_81 : decode cX2_meeting 81 = .ok (.if_icmp .ge 85, 3) := by decide +kernel
theorem dX2_meeting_84 : decode cX2_meeting 84 = .ok (.iconst 1, 1) := by decide +kernel
theorem dX2_meeting_85 : decode cX2_meeting 85 = .ok (.aload_n 0, 1) := by decide +kernel
theorem dX2_meeting_86 : decode cX2_meeting 86 = .ok (.getfield 24, 3) := by decide +kernel
theorem dX2_meeting_89 : decode cX2_meeting 89 = .ok (.iload 4, 2) := by decide +kernel
theorem dX2_meeting_91 : decode cX2_meeting 91 = .ok (.iconst 1, 1) := by decide +kernel
theorem dX2_meeting_92 : decode cX2_meeting 92 = .ok (.isub, 1) := by decide +kernel
theorem dX2_meeting_93 : decode cX2_meeting 93 = .ok (.iaload, 1) := by decide +kernel
theorem dX2_meeting_94 : decode cX2_meeting 94 = .ok (.ishl, 1) := by decide +kernel
theorem dX2_meeting_95 : decode cX2_meeting 95 = .ok (.iconst 1, 1) := by decide +kernel
theorem dX2_meeting_96 : decode cX2_meeting 96 = .ok (.aload_n 0, 1) := by decide +kernel
theorem dX2_meeting_97 : decode cX2_meeting 97 = .ok (.getfield 24, 3) := by decide +kernel
theorem dX2_meeting_100 : decode cX2_meeting 100 = .ok (.iload 4, 2) := by decide +kernel
theorem dX2_meeting_102 : decode cX2_meeting 102 = .ok (.iaload, 1) := by decide +kernel
theorem dX2_meeting_103 : decode cX2_meeting 103 = .ok (.ishl, 1) := by decide +kernel
theorem dX2_meeting_104 : decode cX2_meeting 104 = .ok (.ior, 1) := by decide +kernel
theorem dX2_meeting_105 : decode cX2_meeting 105 = .ok (.istore 5, 2) := by decide +kernel
theorem dX2_meeting_107 : decode cX2_meeting 107 = .ok (.aload_n 0, 1) := by decide +kernel
theorem dX2_meeting_108 : decode cX2_meeting 108 = .ok (.getfield 30, 3) := by decide +kernel
theorem dX2_meeting_111 : decode cX2_meeting 111 = .ok (.aload_n 0, 1) := by decide +kernel
theorem dX2_meeting_112 : decode cX2_meeting 112 = .ok (.getfield 24, 3) := by decide +kernel
theorem dX2_meeting_115 : decode cX2_meeting 115 = .ok (.iload 4, 2) := by decide +kernel
theorem dX2_meeting_117 : decode cX2_meeting 117 = .ok (.iaload, 1) := by decide +kernel
theorem dX2_meeting_118 : decode cX2_meeting 118 = .ok (.iaload, 1) := by decide +kernel
theorem dX2_meeting_119 : decode cX2_meeting 119 = .ok (.istore 6, 2) := by decide +kernel
theorem dX2_meeting_121 : decode cX2_meeting 121 = .ok (.iload 6, 2) := by decide +kernel
theorem dX2_meeting_123 : decode cX2_meeting 123 = .ok (.ifCond .le 37, 3) := by decide +kernel
theorem dX2_meeting_126 : decode cX2_meeting 126 = .ok (.iload 6, 2) := by decide +kernel
theorem dX2_meeting_128 : decode cX2_meeting 128 = .ok (.aload_n 0, 1) := by decide +kernel
theorem dX2_meeting_129 : decode cX2_meeting 129 = .ok (.getfield 30, 3) := by decide +kernel
theorem dX2_meeting_132 : decode cX2_meeting 132 = .ok (.aload_n 0, 1) := by decide +kernel
theorem dX2_meeting_133 : decode cX2_meeting 133 = .ok (.getfield 24, 3) := by decide +kernel
theorem dX2_meeting_136 : decode cX2_meeting 136 = .ok (.iload 4, 2) := by decide +kernel
theorem dX2_meeting_138 : decode cX2_meeting 138 = .ok (.iconst 1, 1) := by decide +kernel
theorem dX2_meeting_139 : decode cX2_meeting 139 = .ok (.isub, 1) := by decide +kernel
theorem dX2_meeting_140 : decode cX2_meeting 140 = .ok (.iaload, 1) := by decide +kernel
theorem dX2_meeting_141 : decode cX2_meeting 141 = .ok (.iaload, 1) := by decide +kernel
theorem dX2_meeting_142 : decode cX2_meeting 142 = .ok (.if_icmp .ne 18, 3) := by decide +kernel
theorem dX2_meeting_145 : decode cX2_meeting 145 = .ok (.iload 5, 2) := by decide +kernel
theorem dX2_meeting_147 : decode cX2_meeting 147 = .ok (.aload_n 0, 1) := by decide +kernel
theorem dX2_meeting_148 : decode cX2_meeting 148 = .ok (.getfield 40, 3) := by decide +kernel
theorem dX2_meeting_151 : decode cX2_meeting 151 = .ok (.iand, 1) := by decide +kernel
theorem dX2_meeting_152 : decode cX2_meeting 152 = .ok (.ifCond .eq 8, 3) := by decide +kernel
theorem dX2_meeting_155 : decode cX2_meeting 155 = .ok (.iload_n 3, 1) := by decide +kernel
theorem dX2_meeting_156 : decode cX2_meeting 156 = .ok (.iload 5, 2) := by decide +kernel
theorem dX2_meeting_158 : decode cX2_meeting 158 = .ok (.ior, 1) := by decide +kernel
theorem dX2_meeting_159 : decode cX2_meeting 159 = .ok (.istore_n 3, 1) := by decide +kernel
theorem dX2_meeting_160 : decode cX2_meeting 160 = .ok (.iinc 4 1, 3) := by decide +kernel
theorem dX2_meeting_163 : decode cX2_meeting 163 = .ok (.goto (-88), 3) := by decide +kernel
theorem dX2_meeting_166 : decode cX2_meeting 166 = .ok (.iload_n 3, 1) := by decide +kernel
theorem dX2_meeting_167 : decode cX2_meeting 167 = .ok (.ireturn, 1) := by decide +kernel
theorem dX2_print_0 : decode cX2_print 0 = .ok (.iconst 0, 1) := by decide +kernel
theorem dX2_print_1 : decode cX2_print 1 = .ok (.istore_n 1, 1) := by decide +kernel
theorem dX2_print_2 : decode cX2_print 2 = .ok (.iconst 0, 1) := by decide +kernel
theorem dX2_print_3 : decode cX2_print 3 = .ok (.istore_n 2, 1) := by decide +kernel
theorem dX2_print_4 : decode cX2_print 4 = .ok (.iload_n 2, 1) := by decide +kernel
theorem dX2_print_5 : decode cX2_print 5 = .ok (.aload_n 0, 1) := by decide +kernel
theorem dX2_print_6 : decode cX2_print 6 = .ok (.getfield 36, 3) := by decide +kernel
theorem dX2_print_9 : decode cX2_print 9 = .ok (.if_icmp .ge 40, 3) := by decide +kernel
theorem dX2_print_12 : decode cX2_print 12 = .ok (.aload_n 0, 1) := by decide +kernel
theorem dX2_print_13 : decode cX2_print 13 = .ok (.iload_n 2, 1) := by decide +kernel
theorem dX2_print_14 : decode cX2_print 14 = .ok (.invokevirtual 92, 3) := by decide +kernel
theorem dX2_print_17 : decode cX2_print 17 = .ok (.ifCond .eq 26, 3) := by decide +kernel
theorem dX2_print_20 : decode cX2_print 20 = .ok (.aload_n 0, 1) := by decide +kernel
theorem dX2_print_21 : decode cX2_print 21 = .ok (.getfield 30, 3) := by decide +kernel
theorem dX2_print_24 : decode cX2_print 24 = .ok (.iload_n 2, 1) := by decide +kernel
theorem dX2_print_25 : decode cX2_print 25 = .ok (.iaload, 1) := by decide +kernel
theorem dX2_print_26 : decode cX2_print 26 = .ok (.aload_n 0, 1) := by decide +kernel
theorem dX2_print_27 : decode cX2_print 27 = .ok (.getfield 18, 3) := by decide +kernel
theorem dX2_print_30 : decode cX2_print 30 = .ok (.iload_n 2, 1) := by decide +kernel
theorem dX2_print_31 : decode cX2_print 31 = .ok (.iaload, 1) := by decide +kernel
theorem dX2_print_32 : decode cX2_print 32 = .ok (.if_icmp .ne 11, 3) := by decide +kernel
theorem dX2_print_35 : decode cX2_print 35 = .ok (.iinc 1 1, 3) := by decide +kernel
theorem dX2_print_38 : decode cX2_print 38 = .ok (.aload_n 0, 1) := by decide +kernel
theorem dX2_print_39 : decode cX2_print 39 = .ok (.iload_n 2, 1) := by decide +kernel
theorem dX2_print_40 : decode cX2_print 40 = .ok (.invokevirtual 110, 3) := by decide +kernel
theorem dX2_print_43 : decode cX2_print 43 = .ok (.iinc 2 1, 3) := by decide +kernel
theorem dX2_print_46 : decode cX2_print 46 = .ok (.goto (-42), 3) := by decide +kernel
theorem dX2_print_49 : decode cX2_print 49 = .ok (.iload_n 1, 1) := by decide +kernel
theorem dX2_print_50 : decode cX2_print 50 = .ok (.ireturn, 1) := by decide +kernel
theorem dX2_strike_0 : decode cX2_strike 0 = .ok (.aload_n 0, 1) := by decide +kernel
theorem dX2_strike_1 : decode cX2_strike 1 = .ok (.getfield 62, 3) := by decide +kernel
theorem dX2_strike_4 : decode cX2_strike 4 = .ok (.bipush 20, 2) := by decide +kernel
theorem dX2_strike_6 : decode cX2_strike 6 = .ok (.if_icmp .lt 4, 3) := by decide +kernel
theorem dX2_strike_9 : decode cX2_strike 9 = .ok (.return_, 1) := by decide +kernel
theorem dX2_strike_10 : decode cX2_strike 10 = .ok (.aload_n 0, 1) := by decide +kernel
theorem dX2_strike_11 : decode cX2_strike 11 = .ok (.getfield 9, 3) := by decide +kernel
theorem dX2_strike_14 : decode cX2_strike 14 = .ok (.iload_n 1, 1) := by decide +kernel
theorem dX2_strike_15 : decode cX2_strike 15 = .ok (.iaload, 1) := by decide +kernel
theorem dX2_strike_16 : decode cX2_strike 16 = .ok (.iconst 5, 1) := by decide +kernel
theorem dX2_strike_17 : decode cX2_strike 17 = .ok (.if_icmp .eq 15, 3) := by decide +kernel
theorem dX2_strike_20 : decode cX2_strike 20 = .ok (.aload_n 0, 1) := by decide +kernel
theorem dX2_strike_21 : decode cX2_strike 21 = .ok (.getfield 33, 3) := by decide +kernel
theorem dX2_strike_24 : decode cX2_strike 24 = .ok (.aload_n 0, 1) := by decide +kernel
theorem dX2_strike_25 : decode cX2_strike 25 = .ok (.getfield 62, 3) := by decide +kernel
theorem dX2_strike_28 : decode cX2_strike 28 = .ok (.iload_n 1, 1) := by decide +kernel
theorem dX2_strike_29 : decode cX2_strike 29 = .ok (.iconst 1, 1) := by decide +kernel
theorem dX2_strike_30 : decode cX2_strike 30 = .ok (.iadd, 1) := by decide +kernel
theorem dX2_strike_31 : decode cX2_strike 31 = .ok (.iastore, 1) := by decide +kernel
theorem dX2_strike_32 : decode cX2_strike 32 = .ok (.aload_n 0, 1) := by decide +kernel
theorem dX2_strike_33 : decode cX2_strike 33 = .ok (.getfield 9, 3) := by decide +kernel
theorem dX2_strike_36 : decode cX2_strike 36 = .ok (.iload_n 1, 1) := by decide +kernel
theorem dX2_strike_37 : decode cX2_strike 37 = .ok (.iaload, 1) := by decide +kernel
theorem dX2_strike_38 : decode cX2_strike 38 = .ok (.iconst 4, 1) := by decide +kernel
theorem dX2_strike_39 : decode cX2_strike 39 = .ok (.if_icmp .eq 13, 3) := by decide +kernel
theorem dX2_strike_42 : decode cX2_strike 42 = .ok (.aload_n 0, 1) := by decide +kernel
theorem dX2_strike_43 : decode cX2_strike 43 = .ok (.dup, 1) := by decide +kernel
theorem dX2_strike_44 : decode cX2_strike 44 = .ok (.getfield 62, 3) := by decide +kernel
theorem dX2_strike_47 : decode cX2_strike 47 = .ok (.iconst 1, 1) := by decide +kernel
theorem dX2_strike_48 : decode cX2_strike 48 = .ok (.iadd, 1) := by decide +kernel
theorem dX2_strike_49 : decode cX2_strike 49 = .ok (.putfield 62, 3) := by decide +kernel
theorem dX2_strike_52 : decode cX2_strike 52 = .ok (.return_, 1) := by decide +kernel
theorem dX2_columnsPrinted_0 : decode cX2_columnsPrinted 0 = .ok (.iconst 0, 1) := by decide +kernel
theorem dX2_columnsPrinted_1 : decode cX2_columnsPrinted 1 = .ok (.istore_n 1, 1) := by decide +kernel
theorem dX2_columnsPrinted_2 : decode cX2_columnsPrinted 2 = .ok (.iconst 0, 1) := by decide +kernel
theorem dX2_columnsPrinted_3 : decode cX2_columnsPrinted 3 = .ok (.istore_n 2, 1) := by decide +kernel
theorem dX2_columnsPrinted_4 : decode cX2_columnsPrinted 4 = .ok (.iload_n 2, 1) := by decide +kernel
theorem dX2_columnsPrinted_5 : decode cX2_columnsPrinted 5 = .ok (.bipush 20, 2) := by decide +kernel
theorem dX2_columnsPrinted_7 : decode cX2_columnsPrinted 7 = .ok (.if_icmp .ge 21, 3) := by decide +kernel
theorem dX2_columnsPrinted_10 : decode cX2_columnsPrinted 10 = .ok (.aload_n 0, 1) := by decide +kernel
theorem dX2_columnsPrinted_11 : decode cX2_columnsPrinted 11 = .ok (.getfield 33, 3) := by decide +kernel
theorem dX2_columnsPrinted_14 : decode cX2_columnsPrinted 14 = .ok (.iload_n 2, 1) := by decide +kernel
theorem dX2_columnsPrinted_15 : decode cX2_columnsPrinted 15 = .ok (.iaload, 1) := by decide +kernel
theorem dX2_columnsPrinted_16 : decode cX2_columnsPrinted 16 = .ok (.ifCond .eq 6, 3) := by decide +kernel
theorem dX2_columnsPrinted_19 : decode cX2_columnsPrinted 19 = .ok (.iinc 1 1, 3) := by decide +kernel
theorem dX2_columnsPrinted_22 : decode cX2_columnsPrinted 22 = .ok (.iinc 2 1, 3) := by decide +kernel
theorem dX2_columnsPrinted_25 : decode cX2_columnsPrinted 25 = .ok (.goto (-21), 3) := by decide +kernel
theorem dX2_columnsPrinted_28 : decode cX2_columnsPrinted 28 = .ok (.iload_n 1, 1) := by decide +kernel
theorem dX2_columnsPrinted_29 : decode cX2_columnsPrinted 29 = .ok (.ireturn, 1) := by decide +kernel
theorem dX3_init_0 : decode cX3_init 0 = .ok (.aload_n 0, 1) := by decide +kernel
theorem dX3_init_1 : decode cX3_init 1 = .ok (.invokespecial 3, 3) := by decide +kernel
theorem dX3_init_4 : decode cX3_init 4 = .ok (.aload_n 0, 1) := by decide +kernel
theorem dX3_init_5 : decode cX3_init 5 = .ok (.new 9, 3) := by decide +kernel
theorem dX3_init_8 : decode cX3_init 8 = .ok (.dup, 1) := by decide +kernel
theorem dX3_init_9 : decode cX3_init 9 = .ok (.invokespecial 11, 3) := by decide +kernel
theorem dX3_init_12 : decode cX3_init 12 = .ok (.putfield 12, 3) := by decide +kernel
theorem dX3_init_15 : decode cX3_init 15 = .ok (.aload_n 0, 1) := by decide +kernel
theorem dX3_init_16 : decode cX3_init 16 = .ok (.new 9, 3) := by decide +kernel
theorem dX3_init_19 : decode cX3_init 19 = .ok (.dup, 1) := by decide +kernel
theorem dX3_init_20 : decode cX3_init 20 = .ok (.invokespecial 11, 3) := by decide +kernel
theorem dX3_init_23 : decode cX3_init 23 = .ok (.putfield 18, 3) := by decide +kernel
theorem dX3_init_26 : decode cX3_init 26 = .ok (.aload_n 0, 1) := by decide +kernel
theorem dX3_init_27 : decode cX3_init 27 = .ok (.bipush 12, 2) := by decide +kernel
theorem dX3_init_29 : decode cX3_init 29 = .ok (.newarray .int, 2) := by decide +kernel
theorem dX3_init_31 : decode cX3_init 31 = .ok (.putfield 21, 3) := by decide +kernel
theorem dX3_init_34 : decode cX3_init 34 = .ok (.return_, 1) := by decide +kernel
theorem dX3_ticksOn_0 : decode cX3_ticksOn 0 = .ok (.aload_n 0, 1) := by decide +kernel
theorem dX3_ticksOn_1 : decode cX3_ticksOn 1 = .ok (.getfield 12, 3) := by decide +kernel
theorem dX3_ticksOn_4 : decode cX3_ticksOn 4 = .ok (.aload_n 1, 1) := by decide +kernel
theorem dX3_ticksOn_5 : decode cX3_ticksOn 5 = .ok (.invokevirtual 25, 3) := by decide +kernel
theorem dX3_ticksOn_8 : decode cX3_ticksOn 8 = .ok (.aload_n 0, 1) := by decide +kernel
theorem dX3_ticksOn_9 : decode cX3_ticksOn 9 = .ok (.getfield 12, 3) := by decide +kernel
theorem dX3_ticksOn_12 : decode cX3_ticksOn 12 = .ok (.iload_n 2, 1) := by decide +kernel
theorem dX3_ticksOn_13 : decode cX3_ticksOn 13 = .ok (.invokevirtual 29, 3) := by decide +kernel
theorem dX3_ticksOn_16 : decode cX3_ticksOn 16 = .ok (.aload_n 0, 1) := by decide +kernel
theorem dX3_ticksOn_17 : decode cX3_ticksOn 17 = .ok (.getfield 12, 3) := by decide +kernel
theorem dX3_ticksOn_20 : decode cX3_ticksOn 20 = .ok (.areturn, 1) := by decide +kernel
theorem dX3_ticksToJam_0 : decode cX3_ticksToJam 0 = .ok (.aload_n 0, 1) := by decide +kernel
theorem dX3_ticksToJam_1 : decode cX3_ticksToJam 1 = .ok (.getfield 12, 3) := by decide +kernel
theorem dX3_ticksToJam_4 : decode cX3_ticksToJam 4 = .ok (.aload_n 1, 1) := by decide +kernel
theorem dX3_ticksToJam_5 : decode cX3_ticksToJam 5 = .ok (.invokevirtual 25, 3) := by decide +kernel
theorem dX3_ticksToJam_8 : decode cX3_ticksToJam 8 = .ok (.iconst 0, 1) := by decide +kernel
theorem dX3_ticksToJam_9 : decode cX3_ticksToJam 9 = .ok (.istore_n 2, 1) := by decide +kernel
theorem dX3_ticksToJam_10 : decode cX3_ticksToJam 10 = .ok (.iload_n 2, 1) := by decide +kernel
theorem dX3_ticksToJam_11 : decode cX3_ticksToJam 11 = .ok (.bipush 60, 2) := by decide +kernel
theorem dX3_ticksToJam_13 : decode cX3_ticksToJam 13 = .ok (.if_icmp .gt 29, 3) := by decide +kernel
theorem dX3_ticksToJam_16 : decode cX3_ticksToJam 16 = .ok (.aload_n 0, 1) := by decide +kernel
theorem dX3_ticksToJam_17 : decode cX3_ticksToJam 17 = .ok (.getfield 12, 3) := by decide +kernel
theorem dX3_ticksToJam_20 : decode cX3_ticksToJam 20 = .ok (.getfield 33, 3) := by decide +kernel
theorem dX3_ticksToJam_23 : decode cX3_ticksToJam 23 = .ok (.ifCond .eq 5, 3) := by decide +kernel
theorem dX3_ticksToJam_26 : decode cX3_ticksToJam 26 = .ok (.iload_n 2, 1) := by decide +kernel
theorem dX3_ticksToJam_27 : decode cX3_ticksToJam 27 = .ok (.ireturn, 1) := by decide +kernel
theorem dX3_ticksToJam_28 : decode cX3_ticksToJam 28 = .ok (.aload_n 0, 1) := by decide +kernel
theorem dX3_ticksToJam_29 : decode cX3_ticksToJam 29 = .ok (.getfield 12, 3) := by decide +kernel
theorem dX3_ticksToJam_32 : decode cX3_ticksToJam 32 = .ok (.invokevirtual 37, 3) := by decide +kernel
theorem dX3_ticksToJam_35 : decode cX3_ticksToJam 35 = .ok (.pop, 1) := by decide +kernel
theorem dX3_ticksToJam_36 : decode cX3_ticksToJam 36 = .ok (.iinc 2 1, 3) := by decide +kernel
theorem dX3_ticksToJam_39 : decode cX3_ticksToJam 39 = .ok (.goto (-29), 3) := by decide +kernel
theorem dX3_ticksToJam_42 : decode cX3_ticksToJam 42 = .ok (.ldc 41, 2) := by decide +kernel
theorem dX3_ticksToJam_44 : decode cX3_ticksToJam 44 = .ok (.ireturn, 1) := by decide +kernel
theorem dX3_leastWait_0 : decode cX3_leastWait 0 = .ok (.aload_n 0, 1) := by decide +kernel
theorem dX3_leastWait_1 : decode cX3_leastWait 1 = .ok (.getfield 12, 3) := by decide +kernel
theorem dX3_leastWait_4 : decode cX3_leastWait 4 = .ok (.aload_n 1, 1) := by decide +kernel
theorem dX3_leastWait_5 : decode cX3_leastWait 5 = .ok (.invokevirtual 25, 3) := by decide +kernel
theorem dX3_leastWait_8 : decode cX3_leastWait 8 = .ok (.iconst 0, 1) := by decide +kernel
theorem dX3_leastWait_9 : decode cX3_leastWait 9 = .ok (.istore_n 3, 1) := by decide +kernel
theorem dX3_leastWait_10 : decode cX3_leastWait 10 = .ok (.iload_n 3, 1) := by decide +kernel
theorem dX3_leastWait_11 : decode cX3_leastWait 11 = .ok (.bipush 20, 2) := by decide +kernel
theorem dX3_leastWait_13 : decode cX3_leastWait 13 = .ok (.if_icmp .gt 38, 3) := by decide +kernel
theorem dX3_leastWait_16 : decode cX3_leastWait 16 = .ok (.aload_n 0, 1) := by decide +kernel
theorem dX3_leastWait_17 : decode cX3_leastWait 17 = .ok (.getfield 12, 3) := by decide +kernel
theorem dX3_leastWait_20 : decode cX3_leastWait 20 = .ok (.iload_n 2, 1) := by decide +kernel
theorem dX3_leastWait_21 : decode cX3_leastWait 21 = .ok (.invokevirtual 42, 3) := by decide +kernel
theorem dX3_leastWait_24 : decode cX3_leastWait 24 = .ok (.ifCond .eq 13, 3) := by decide +kernel
theorem dX3_leastWait_27 : decode cX3_leastWait 27 = .ok (.aload_n 0, 1) := by decide +kernel
theorem dX3_leastWait_28 : decode cX3_leastWait 28 = .ok (.iload_n 2, 1) := by decide +kernel
theorem dX3_leastWait_29 : decode cX3_leastWait 29 = .ok (.invokevirtual 46, 3) := by decide +kernel
theorem dX3_leastWait_32 : decode cX3_leastWait 32 = .ok (.ifCond .eq 5, 3) := by decide +kernel
theorem dX3_leastWait_35 : decode cX3_leastWait 35 = .ok (.iload_n 3, 1) := by decide +kernel
theorem dX3_leastWait_36 : decode cX3_leastWait 36 = .ok (.ireturn, 1) := by decide +kernel
theorem dX3_leastWait_37 : decode cX3_leastWait 37 = .ok (.aload_n 0, 1) := by decide +kernel
theorem dX3_leastWait_38 : decode cX3_leastWait 38 = .ok (.getfield 12, 3) := by decide +kernel
theorem dX3_leastWait_41 : decode cX3_leastWait 41 = .ok (.invokevirtual 37, 3) := by decide +kernel
theorem dX3_leastWait_44 : decode cX3_leastWait 44 = .ok (.pop, 1) := by decide +kernel
theorem dX3_leastWait_45 : decode cX3_leastWait 45 = .ok (.iinc 3 1, 3) := by decide +kernel
theorem dX3_leastWait_48 : decode cX3_leastWait 48 = .ok (.goto (-38), 3) := by decide +kernel
theorem dX3_leastWait_51 : decode cX3_leastWait 51 = .ok (.ldc 41, 2) := by decide +kernel
theorem dX3_leastWait_53 : decode cX3_leastWait 53 = .ok (.ireturn, 1) := by decide +kernel
theorem dX3_staysClear_0 : decode cX3_staysClear 0 = .ok (.aload_n 0, 1) := by decide +kernel
theorem dX3_staysClear_1 : decode cX3_staysClear 1 = .ok (.getfield 18, 3) := by decide +kernel
theorem dX3_staysClear_4 : decode cX3_staysClear 4 = .ok (.aload_n 0, 1) := by decide +kernel
theorem dX3_staysClear_5 : decode cX3_staysClear 5 = .ok (.getfield 12, 3) := by decide +kernel
theorem dX3_staysClear_8 : decode cX3_staysClear 8 = .ok (.invokevirtual 25, 3) := by decide +kernel
theorem dX3_staysClear_11 : decode cX3_staysClear 11 = .ok (.aload_n 0, 1) := by decide +kernel
theorem dX3_staysClear_12 : decode cX3_staysClear 12 = .ok (.getfield 18, 3) := by decide +kernel
theorem dX3_staysClear_15 : decode cX3_staysClear 15 = .ok (.iload_n 1, 1) := by decide +kernel
theorem dX3_staysClear_16 : decode cX3_staysClear 16 = .ok (.invokevirtual 49, 3) := by decide +kernel
theorem dX3_staysClear_19 : decode cX3_staysClear 19 = .ok (.aload_n 0, 1) := by decide +kernel
theorem dX3_staysClear_20 : decode cX3_staysClear 20 = .ok (.getfield 18, 3) := by decide +kernel
theorem dX3_staysClear_23 : decode cX3_staysClear 23 = .ok (.bipush 12, 2) := by decide +kernel
theorem dX3_staysClear_25 : decode cX3_staysClear 25 = .ok (.invokevirtual 29, 3) := by decide +kernel
theorem dX3_staysClear_28 : decode cX3_staysClear 28 = .ok (.aload_n 0, 1) := by decide +kernel
theorem dX3_staysClear_29 : decode cX3_staysClear 29 = .ok (.getfield 18, 3) := by decide +kernel
theorem dX3_staysClear_32 : decode cX3_staysClear 32 = .ok (.getfield 33, 3) := by decide +kernel
theorem dX3_staysClear_35 : decode cX3_staysClear 35 = .ok (.aload_n 0, 1) := by decide +kernel
theorem dX3_staysClear_36 : decode cX3_staysClear 36 = .ok (.getfield 12, 3) := by decide +kernel
theorem dX3_staysClear_39 : decode cX3_staysClear 39 = .ok (.getfield 33, 3) := by decide +kernel
theorem dX3_staysClear_42 : decode cX3_staysClear 42 = .ok (.if_icmp .ne 7, 3) := by decide +kernel
theorem dX3_staysClear_45 : decode cX3_staysClear 45 = .ok (.iconst 1, 1) := by decide +kernel
theorem dX3_staysClear_46 : decode cX3_staysClear 46 = .ok (.goto 4, 3) := by decide +kernel
theorem dX3_staysClear_49 : decode cX3_staysClear 49 = .ok (.iconst 0, 1) := by decide +kernel
theorem dX3_staysClear_50 : decode cX3_staysClear 50 = .ok (.ireturn, 1) := by decide +kernel
theorem dX3_hear_0 : decode cX3_hear 0 = .ok (.aload_n 0, 1) := by decide +kernel
theorem dX3_hear_1 : decode cX3_hear 1 = .ok (.iconst 0, 1) := by decide +kernel
theorem dX3_hear_2 : decode cX3_hear 2 = .ok (.putfield 52, 3) := by decide +kernel
theorem dX3_hear_5 : decode cX3_hear 5 = .ok (.iconst 0, 1) := by decide +kernel
theorem dX3_hear_6 : decode cX3_hear 6 = .ok (.istore 4, 2) := by decide +kernel
theorem dX3_hear_8 : decode cX3_hear 8 = .ok (.iload 4, 2) := by decide +kernel
theorem dX3_hear_10 : decode cX3_hear 10 = .ok (.iload_n 3, 1) := by decide +kernel
theorem dX3_hear_11 : decode cX3_hear 11 = .ok (.if_icmp .ge 52, 3) := by decide +kernel
theorem dX3_hear_14 : decode cX3_hear 14 = .ok (.iload 4, 2) := by decide +kernel
theorem dX3_hear_16 : decode cX3_hear 16 = .ok (.bipush 12, 2) := by decide +kernel
theorem dX3_hear_18 : decode cX3_hear 18 = .ok (.if_icmp .ge 45, 3) := by decide +kernel
theorem dX3_hear_21 : decode cX3_hear 21 = .ok (.aload_n 1, 1) := by decide +kernel
theorem dX3_hear_22 : decode cX3_hear 22 = .ok (.iload_n 2, 1) := by decide +kernel
theorem dX3_hear_23 : decode cX3_hear 23 = .ok (.iload 4, 2) := by decide +kernel
theorem dX3_hear_25 : decode cX3_hear 25 = .ok (.iadd, 1) := by decide +kernel
theorem dX3_hear_26 : decode cX3_hear 26 = .ok (.iconst 1, 1) := by decide +kernel
theorem dX3_hear_27 : decode cX3_hear 27 = .ok (.invokevirtual 55, 3) := by decide +kernel
theorem dX3_hear_30 : decode cX3_hear 30 = .ok (.ifCond .eq 33, 3) := by decide +kernel
theorem dX3_hear_33 : decode cX3_hear 33 = .ok (.aload_n 0, 1) := by decide +kernel
theorem dX3_hear_34 : decode cX3_hear 34 = .ok (.getfield 21, 3) := by decide +kernel
theorem dX3_hear_37 : decode cX3_hear 37 = .ok (.iload 4, 2) := by decide +kernel
theorem dX3_hear_39 : decode cX3_hear 39 = .ok (.aload_n 1, 1) := by decide +kernel
theorem dX3_hear_40 : decode cX3_hear 40 = .ok (.getfield 61, 3) := by decide +kernel
theorem dX3_hear_43 : decode cX3_hear 43 = .ok (.iload_n 2, 1) := by decide +kernel
theorem dX3_hear_44 : decode cX3_hear 44 = .ok (.iload 4, 2) := by decide +kernel
theorem dX3_hear_46 : decode cX3_hear 46 = .ok (.iadd, 1) := by decide +kernel
theorem dX3_hear_47 : decode cX3_hear 47 = .ok (.iaload, 1) := by decide +kernel
theorem dX3_hear_48 : decode cX3_hear 48 = .ok (.iastore, 1) := by decide +kernel
theorem dX3_hear_49 : decode cX3_hear 49 = .ok (.aload_n 0, 1) := by decide +kernel
theorem dX3_hear_50 : decode cX3_hear 50 = .ok (.iload 4, 2) := by decide +kernel
theorem dX3_hear_52 : decode cX3_hear 52 = .ok (.iconst 1, 1) := by decide +kernel
theorem dX3_hear_53 : decode cX3_hear 53 = .ok (.iadd, 1) := by decide +kernel
theorem dX3_hear_54 : decode cX3_hear 54 = .ok (.putfield 52, 3) := by decide +kernel
theorem dX3_hear_57 : decode cX3_hear 57 = .ok (.iinc 4 1, 3) := by decide +kernel
theorem dX3_hear_60 : decode cX3_hear 60 = .ok (.goto (-52), 3) := by decide +kernel
theorem dX3_hear_63 : decode cX3_hear 63 = .ok (.return_, 1) := by decide +kernel
theorem dX3_paceAsItIs_0 : decode cX3_paceAsItIs 0 = .ok (.aload_n 0, 1) := by decide +kernel
theorem dX3_paceAsItIs_1 : decode cX3_paceAsItIs 1 = .ok (.getfield 12, 3) := by decide +kernel
theorem dX3_paceAsItIs_4 : decode cX3_paceAsItIs 4 = .ok (.aload_n 1, 1) := by decide +kernel
theorem dX3_paceAsItIs_5 : decode cX3_paceAsItIs 5 = .ok (.invokevirtual 25, 3) := by decide +kernel
theorem dX3_paceAsItIs_8 : decode cX3_paceAsItIs 8 = .ok (.aload_n 0, 1) := by decide +kernel
theorem dX3_paceAsItIs_9 : decode cX3_paceAsItIs 9 = .ok (.bipush 12, 2) := by decide +kernel
theorem dX3_paceAsItIs_11 : decode cX3_paceAsItIs 11 = .ok (.invokevirtual 64, 3) := by decide +kernel
theorem dX3_paceAsItIs_14 : decode cX3_paceAsItIs 14 = .ok (.ireturn, 1) := by decide +kernel
theorem dX3_bestSwap_0 : decode cX3_bestSwap 0 = .ok (.ldc 41, 2) := by decide +kernel
theorem dX3_bestSwap_2 : decode cX3_bestSwap 2 = .ok (.istore_n 2, 1) := by decide +kernel
theorem dX3_bestSwap_3 : decode cX3_bestSwap 3 = .ok (.aload_n 0, 1) := by decide +kernel
theorem dX3_bestSwap_4 : decode cX3_bestSwap 4 = .ok (.getfield 12, 3) := by decide +kernel
theorem dX3_bestSwap_7 : decode cX3_bestSwap 7 = .ok (.aload_n 1, 1) := by decide +kernel
theorem dX3_bestSwap_8 : decode cX3_bestSwap 8 = .ok (.invokevirtual 25, 3) := by decide +kernel
theorem dX3_bestSwap_11 : decode cX3_bestSwap 11 = .ok (.aload_n 0, 1) := by decide +kernel
theorem dX3_bestSwap_12 : decode cX3_bestSwap 12 = .ok (.bipush 12, 2) := by decide +kernel
theorem dX3_bestSwap_14 : decode cX3_bestSwap 14 = .ok (.invokevirtual 64, 3) := by decide +kernel
theorem dX3_bestSwap_17 : decode cX3_bestSwap 17 = .ok (.istore_n 3, 1) := by decide +kernel
theorem dX3_bestSwap_18 : decode cX3_bestSwap 18 = .ok (.aload_n 0, 1) := by decide +kernel
theorem dX3_bestSwap_19 : decode cX3_bestSwap 19 = .ok (.iload_n 3, 1) := by decide +kernel
theorem dX3_bestSwap_20 : decode cX3_bestSwap 20 = .ok (.ldc 41, 2) := by decide +kernel
theorem dX3_bestSwap_22 : decode cX3_bestSwap 22 = .ok (.if_icmp .ne 8, 3) := by decide +kernel
theorem dX3_bestSwap_25 : decode cX3_bestSwap 25 = .ok (.bipush 13, 2) := by decide +kernel
theorem dX3_bestSwap_27 : decode cX3_bestSwap 27 = .ok (.goto 4, 3) := by decide +kernel
theorem dX3_bestSwap_30 : decode cX3_bestSwap 30 = .ok (.iload_n 3, 1) := by decide +kernel
theorem dX3_bestSwap_31 : decode cX3_bestSwap 31 = .ok (.putfield 68, 3) := by decide +kernel
theorem dX3_bestSwap_34 : decode cX3_bestSwap 34 = .ok (.iconst 0, 1) := by decide +kernel
theorem dX3_bestSwap_35 : decode cX3_bestSwap 35 = .ok (.istore 4, 2) := by decide +kernel
theorem dX3_bestSwap_37 : decode cX3_bestSwap 37 = .ok (.iload 4, 2) := by decide +kernel
theorem dX3_bestSwap_39 : decode cX3_bestSwap 39 = .ok (.aload_n 1, 1) := by decide +kernel
theorem dX3_bestSwap_40 : decode cX3_bestSwap 40 = .ok (.getfield 71, 3) := by decide +kernel
theorem dX3_bestSwap_43 : decode cX3_bestSwap 43 = .ok (.if_icmp .ge 83, 3) := by decide +kernel
theorem dX3_bestSwap_46 : decode cX3_bestSwap 46 = .ok (.iload 4, 2) := by decide +kernel
theorem dX3_bestSwap_48 : decode cX3_bestSwap 48 = .ok (.iconst 1, 1) := by decide +kernel
theorem dX3_bestSwap_49 : decode cX3_bestSwap 49 = .ok (.iadd, 1) := by decide +kernel
theorem dX3_bestSwap_50 : decode cX3_bestSwap 50 = .ok (.istore 5, 2) := by decide +kernel
theorem dX3_bestSwap_52 : decode cX3_bestSwap 52 = .ok (.iload 5, 2) := by decide +kernel
theorem dX3_bestSwap_54 : decode cX3_bestSwap 54 = .ok (.aload_n 1, 1) := by decide +kernel
theorem dX3_bestSwap_55 : decode cX3_bestSwap 55 = .ok (.getfield 71, 3) := by decide +kernel
theorem dX3_bestSwap_58 : decode cX3_bestSwap 58 = .ok (.if_icmp .ge 62, 3) := by decide +kernel
theorem dX3_bestSwap_61 : decode cX3_bestSwap 61 = .ok (.aload_n 0, 1) := by decide +kernel
theorem dX3_bestSwap_62 : decode cX3_bestSwap 62 = .ok (.getfield 12, 3) := by decide +kernel
theorem dX3_bestSwap_65 : decode cX3_bestSwap 65 = .ok (.aload_n 1, 1) := by decide +kernel
theorem dX3_bestSwap_66 : decode cX3_bestSwap 66 = .ok (.invokevirtual 25, 3) := by decide +kernel
theorem dX3_bestSwap_69 : decode cX3_bestSwap 69 = .ok (.aload_n 0, 1) := by decide +kernel
theorem dX3_bestSwap_70 : decode cX3_bestSwap 70 = .ok (.getfield 12, 3) := by decide +kernel
theorem dX3_bestSwap_73 : decode cX3_bestSwap 73 = .ok (.iload 4, 2) := by decide +kernel
theorem dX3_bestSwap_75 : decode cX3_bestSwap 75 = .ok (.iload 5, 2) := by decide +kernel
theorem dX3_bestSwap_77 : decode cX3_bestSwap 77 = .ok (.invokevirtual 74, 3) := by decide +kernel
theorem dX3_bestSwap_80 : decode cX3_bestSwap 80 = .ok (.aload_n 0, 1) := by decide +kernel
theorem dX3_bestSwap_81 : decode cX3_bestSwap 81 = .ok (.aload_n 0, 1) := by decide +kernel
theorem dX3_bestSwap_82 : decode cX3_bestSwap 82 = .ok (.getfield 68, 3) := by decide +kernel
theorem dX3_bestSwap_85 : decode cX3_bestSwap 85 = .ok (.iconst 1, 1) := by decide +kernel
theorem dX3_bestSwap_86 : decode cX3_bestSwap 86 = .ok (.isub, 1) := by decide +kernel
theorem dX3_bestSwap_87 : decode cX3_bestSwap 87 = .ok (.invokevirtual 64, 3) := by decide +kernel
theorem dX3_bestSwap_90 : decode cX3_bestSwap 90 = .ok (.istore 6, 2) := by decide +kernel
theorem dX3_bestSwap_92 : decode cX3_bestSwap 92 = .ok (.iload 6, 2) := by decide +kernel
theorem dX3_bestSwap_94 : decode cX3_bestSwap 94 = .ok (.ldc 41, 2) := by decide +kernel
theorem dX3_bestSwap_96 : decode cX3_bestSwap 96 = .ok (.if_icmp .eq 18, 3) := by decide +kernel
theorem dX3_bestSwap_99 : decode cX3_bestSwap 99 = .ok (.aload_n 0, 1) := by decide +kernel
theorem dX3_bestSwap_100 : decode cX3_bestSwap 100 = .ok (.iload 6, 2) := by decide +kernel
theorem dX3_bestSwap_102 : decode cX3_bestSwap 102 = .ok (.putfield 68, 3) := by decide +kernel
theorem dX3_bestSwap_105 : decode cX3_bestSwap 105 = .ok (.bipush 10, 2) := by decide +kernel
theorem dX3_bestSwap_107 : decode cX3_bestSwap 107 = .ok (.iload 4, 2) := by decide +kernel
theorem dX3_bestSwap_109 : decode cX3_bestSwap 109 = .ok (.imul, 1) := by decide +kernel
theorem dX3_bestSwap_110 : decode cX3_bestSwap 110 = .ok (.iload 5, 2) := by decide +kernel
theorem dX3_bestSwap_112 : decode cX3_bestSwap 112 = .ok (.iadd, 1) := by decide +kernel
theorem dX3_bestSwap_113 : decode cX3_bestSwap 113 = .ok (.istore_n 2, 1) := by decide +kernel
theorem dX3_bestSwap_114 : decode cX3_bestSwap 114 = .ok (.iinc 5 1, 3) := by decide +kernel
theorem dX3_bestSwap_117 : decode cX3_bestSwap 117 = .ok (.goto (-65), 3) := by decide +kernel
theorem dX3_bestSwap_120 : decode cX3_bestSwap 120 = .ok (.iinc 4 1, 3) := by decide +kernel
theorem dX3_bestSwap_123 : decode cX3_bestSwap 123 = .ok (.goto (-86), 3) := by decide +kernel
theorem dX3_bestSwap_126 : decode cX3_bestSwap 126 = .ok (.iload_n 2, 1) := by decide +kernel
theorem dX3_bestSwap_127 : decode cX3_bestSwap 127 = .ok (.ireturn, 1) := by decide +kernel
theorem dX3_leastPace_0 : decode cX3_leastPace 0 = .ok (.iconst 1, 1) := by decide +kernel
theorem dX3_leastPace_1 : decode cX3_leastPace 1 = .ok (.istore_n 2, 1) := by decide +kernel
theorem dX3_leastPace_2 : decode cX3_leastPace 2 = .ok (.iload_n 2, 1) := by decide +kernel
theorem dX3_leastPace_3 : decode cX3_leastPace 3 = .ok (.iload_n 1, 1) := by decide +kernel
theorem dX3_leastPace_4 : decode cX3_leastPace 4 = .ok (.if_icmp .gt 19, 3) := by decide +kernel
theorem dX3_leastPace_7 : decode cX3_leastPace 7 = .ok (.aload_n 0, 1) := by decide +kernel
theorem dX3_leastPace_8 : decode cX3_leastPace 8 = .ok (.iload_n 2, 1) := by decide +kernel
theorem dX3_leastPace_9 : decode cX3_leastPace 9 = .ok (.invokevirtual 78, 3) := by decide +kernel
theorem dX3_leastPace_12 : decode cX3_leastPace 12 = .ok (.ifCond .eq 5, 3) := by decide +kernel
theorem dX3_leastPace_15 : decode cX3_leastPace 15 = .ok (.iload_n 2, 1) := by decide +kernel
theorem dX3_leastPace_16 : decode cX3_leastPace 16 = .ok (.ireturn, 1) := by decide +kernel
theorem dX3_leastPace_17 : decode cX3_leastPace 17 = .ok (.iinc 2 1, 3) := by decide +kernel
theorem dX3_leastPace_20 : decode cX3_leastPace 20 = .ok (.goto (-18), 3) := by decide +kernel
theorem dX3_leastPace_23 : decode cX3_leastPace 23 = .ok (.ldc 41, 2) := by decide +kernel
theorem dX3_leastPace_25 : decode cX3_leastPace 25 = .ok (.ireturn, 1) := by decide +kernel
theorem dX3_goesAt_0 : decode cX3_goesAt 0 = .ok (.aload_n 0, 1) := by decide +kernel
theorem dX3_goesAt_1 : decode cX3_goesAt 1 = .ok (.getfield 18, 3) := by decide +kernel
theorem dX3_goesAt_4 : decode cX3_goesAt 4 = .ok (.aload_n 0, 1) := by decide +kernel
theorem dX3_goesAt_5 : decode cX3_goesAt 5 = .ok (.getfield 12, 3) := by decide +kernel
theorem dX3_goesAt_8 : decode cX3_goesAt 8 = .ok (.invokevirtual 25, 3) := by decide +kernel
theorem dX3_goesAt_11 : decode cX3_goesAt 11 = .ok (.iconst 0, 1) := by decide +kernel
theorem dX3_goesAt_12 : decode cX3_goesAt 12 = .ok (.istore_n 2, 1) := by decide +kernel
theorem dX3_goesAt_13 : decode cX3_goesAt 13 = .ok (.iload_n 2, 1) := by decide +kernel
theorem dX3_goesAt_14 : decode cX3_goesAt 14 = .ok (.aload_n 0, 1) := by decide +kernel
theorem dX3_goesAt_15 : decode cX3_goesAt 15 = .ok (.getfield 52, 3) := by decide +kernel
theorem dX3_goesAt_18 : decode cX3_goesAt 18 = .ok (.if_icmp .ge 69, 3) := by decide +kernel
theorem dX3_goesAt_21 : decode cX3_goesAt 21 = .ok (.iload_n 2, 1) := by decide +kernel
theorem dX3_goesAt_22 : decode cX3_goesAt 22 = .ok (.ifCond .le 11, 3) := by decide +kernel
theorem dX3_goesAt_25 : decode cX3_goesAt 25 = .ok (.aload_n 0, 1) := by decide +kernel
theorem dX3_goesAt_26 : decode cX3_goesAt 26 = .ok (.getfield 18, 3) := by decide +kernel
theorem dX3_goesAt_29 : decode cX3_goesAt 29 = .ok (.iload_n 1, 1) := by decide +kernel
theorem dX3_goesAt_30 : decode cX3_goesAt 30 = .ok (.invokevirtual 29, 3) := by decide +kernel
theorem dX3_goesAt_33 : decode cX3_goesAt 33 = .ok (.aload_n 0, 1) := by decide +kernel
theorem dX3_goesAt_34 : decode cX3_goesAt 34 = .ok (.getfield 18, 3) := by decide +kernel
theorem dX3_goesAt_37 : decode cX3_goesAt 37 = .ok (.getfield 33, 3) := by decide +kernel
theorem dX3_goesAt_40 : decode cX3_goesAt 40 = .ok (.aload_n 0, 1) := by decide +kernel
theorem dX3_goesAt_41 : decode cX3_goesAt 41 = .ok (.getfield 12, 3) := by decide +kernel
theorem dX3_goesAt_44 : decode cX3_goesAt 44 = .ok (.getfield 33, 3) := by decide +kernel
theorem dX3_goesAt_47 : decode cX3_goesAt 47 = .ok (.if_icmp .ne 19, 3) := by decide +kernel
theorem dX3_goesAt_50 : decode cX3_goesAt 50 = .ok (.aload_n 0, 1) := by decide +kernel
theorem dX3_goesAt_51 : decode cX3_goesAt 51 = .ok (.getfield 18, 3) := by decide +kernel
theorem dX3_goesAt_54 : decode cX3_goesAt 54 = .ok (.aload_n 0, 1) := by decide +kernel
theorem dX3_goesAt_55 : decode cX3_goesAt 55 = .ok (.getfield 21, 3) := by decide +kernel
theorem dX3_goesAt_58 : decode cX3_goesAt 58 = .ok (.iload_n 2, 1) := by decide +kernel
theorem dX3_goesAt_59 : decode cX3_goesAt 59 = .ok (.iaload, 1) := by decide +kernel
theorem dX3_goesAt_60 : decode cX3_goesAt 60 = .ok (.invokevirtual 42, 3) := by decide +kernel
theorem dX3_goesAt_63 : decode cX3_goesAt 63 = .ok (.ifCond .ne 5, 3) := by decide +kernel
theorem dX3_goesAt_66 : decode cX3_goesAt 66 = .ok (.iconst 0, 1) := by decide +kernel
theorem dX3_goesAt_67 : decode cX3_goesAt 67 = .ok (.ireturn, 1) := by decide +kernel
theorem dX3_goesAt_68 : decode cX3_goesAt 68 = .ok (.aload_n 0, 1) := by decide +kernel
theorem dX3_goesAt_69 : decode cX3_goesAt 69 = .ok (.getfield 18, 3) := by decide +kernel
theorem dX3_goesAt_72 : decode cX3_goesAt 72 = .ok (.aload_n 0, 1) := by decide +kernel
theorem dX3_goesAt_73 : decode cX3_goesAt 73 = .ok (.getfield 21, 3) := by decide +kernel
theorem dX3_goesAt_76 : decode cX3_goesAt 76 = .ok (.iload_n 2, 1) := by decide +kernel
theorem dX3_goesAt_77 : decode cX3_goesAt 77 = .ok (.iaload, 1) := by decide +kernel
theorem dX3_goesAt_78 : decode cX3_goesAt 78 = .ok (.invokevirtual 49, 3) := by decide +kernel
theorem dX3_goesAt_81 : decode cX3_goesAt 81 = .ok (.iinc 2 1, 3) := by decide +kernel
theorem dX3_goesAt_84 : decode cX3_goesAt 84 = .ok (.goto (-71), 3) := by decide +kernel
theorem dX3_goesAt_87 : decode cX3_goesAt 87 = .ok (.aload_n 0, 1) := by decide +kernel
theorem dX3_goesAt_88 : decode cX3_goesAt 88 = .ok (.getfield 18, 3) := by decide +kernel
theorem dX3_goesAt_91 : decode cX3_goesAt 91 = .ok (.bipush 12, 2) := by decide +kernel
theorem dX3_goesAt_93 : decode cX3_goesAt 93 = .ok (.invokevirtual 29, 3) := by decide +kernel
theorem dX3_goesAt_96 : decode cX3_goesAt 96 = .ok (.aload_n 0, 1) := by decide +kernel
theorem dX3_goesAt_97 : decode cX3_goesAt 97 = .ok (.getfield 18, 3) := by decide +kernel
theorem dX3_goesAt_100 : decode cX3_goesAt 100 = .ok (.getfield 33, 3) := by decide +kernel
theorem dX3_goesAt_103 : decode cX3_goesAt 103 = .ok (.aload_n 0, 1) := by decide +kernel
theorem dX3_goesAt_104 : decode cX3_goesAt 104 = .ok (.getfield 12, 3) := by decide +kernel
theorem dX3_goesAt_107 : decode cX3_goesAt 107 = .ok (.getfield 33, 3) := by decide +kernel
theorem dX3_goesAt_110 : decode cX3_goesAt 110 = .ok (.if_icmp .ne 7, 3) := by decide +kernel
theorem dX3_goesAt_113 : decode cX3_goesAt 113 = .ok (.iconst 1, 1) := by decide +kernel
theorem dX3_goesAt_114 : decode cX3_goesAt 114 = .ok (.goto 4, 3) := by decide +kernel
theorem dX3_goesAt_117 : decode cX3_goesAt 117 = .ok (.iconst 0, 1) := by decide +kernel
theorem dX3_goesAt_118 : decode cX3_goesAt 118 = .ok (.ireturn, 1) := by decide +kernel
theorem dX3_fitting_0 : decode cX3_fitting 0 = .ok (.iload_n 3, 1) := by decide +kernel
theorem dX3_fitting_1 : decode cX3_fitting 1 = .ok (.iconst 2, 1) := by decide +kernel
theorem dX3_fitting_2 : decode cX3_fitting 2 = .ok (.if_icmp .ge 7, 3) := by decide +kernel
theorem dX3_fitting_5 : decode cX3_fitting 5 = .ok (.iconst 1, 1) := by decide +kernel
theorem dX3_fitting_6 : decode cX3_fitting 6 = .ok (.goto 4, 3) := by decide +kernel
theorem dX3_fitting_9 : decode cX3_fitting 9 = .ok (.iconst 0, 1) := by decide +kernel
theorem dX3_fitting_10 : decode cX3_fitting 10 = .ok (.istore 4, 2) := by decide +kernel
theorem dX3_fitting_12 : decode cX3_fitting 12 = .ok (.iload_n 3, 1) := by decide +kernel
theorem dX3_fitting_13 : decode cX3_fitting 13 = .ok (.aload_n 1, 1) := by decide +kernel
theorem dX3_fitting_14 : decode cX3_fitting 14 = .ok (.getfield 71, 3) := by decide +kernel
theorem dX3_fitting_17 : decode cX3_fitting 17 = .ok (.invokestatic 81, 3) := by decide +kernel
theorem dX3_fitting_20 : decode cX3_fitting 20 = .ok (.istore 5, 2) := by decide +kernel
theorem dX3_fitting_22 : decode cX3_fitting 22 = .ok (.iconst 0, 1) := by decide +kernel
theorem dX3_fitting_23 : decode cX3_fitting 23 = .ok (.istore 6, 2) := by decide +kernel
theorem dX3_fitting_25 : decode cX3_fitting 25 = .ok (.iload 4, 2) := by decide +kernel
theorem dX3_fitting_27 : decode cX3_fitting 27 = .ok (.istore 7, 2) := by decide +kernel
theorem dX3_fitting_29 : decode cX3_fitting 29 = .ok (.iload 7, 2) := by decide +kernel
theorem dX3_fitting_31 : decode cX3_fitting 31 = .ok (.iload 5, 2) := by decide +kernel
theorem dX3_fitting_33 : decode cX3_fitting 33 = .ok (.if_icmp .gt 42, 3) := by decide +kernel
theorem dX3_fitting_36 : decode cX3_fitting 36 = .ok (.aload_n 0, 1) := by decide +kernel
theorem dX3_fitting_37 : decode cX3_fitting 37 = .ok (.getfield 12, 3) := by decide +kernel
theorem dX3_fitting_40 : decode cX3_fitting 40 = .ok (.aload_n 1, 1) := by decide +kernel
theorem dX3_fitting_41 : decode cX3_fitting 41 = .ok (.invokevirtual 25, 3) := by decide +kernel
theorem dX3_fitting_44 : decode cX3_fitting 44 = .ok (.aload_n 0, 1) := by decide +kernel
theorem dX3_fitting_45 : decode cX3_fitting 45 = .ok (.iload_n 2, 1) := by decide +kernel
theorem dX3_fitting_46 : decode cX3_fitting 46 = .ok (.iload_n 3, 1) := by decide +kernel
theorem dX3_fitting_47 : decode cX3_fitting 47 = .ok (.iload 7, 2) := by decide +kernel
theorem dX3_fitting_49 : decode cX3_fitting 49 = .ok (.invokevirtual 85, 3) := by decide +kernel
theorem dX3_fitting_52 : decode cX3_fitting 52 = .ok (.aload_n 0, 1) := by decide +kernel
theorem dX3_fitting_53 : decode cX3_fitting 53 = .ok (.iload_n 2, 1) := by decide +kernel
theorem dX3_fitting_54 : decode cX3_fitting 54 = .ok (.invokevirtual 89, 3) := by decide +kernel
theorem dX3_fitting_57 : decode cX3_fitting 57 = .ok (.ifCond .eq 12, 3) := by decide +kernel
theorem dX3_fitting_60 : decode cX3_fitting 60 = .ok (.iload 6, 2) := by decide +kernel
theorem dX3_fitting_62 : decode cX3_fitting 62 = .ok (.iconst 1, 1) := by decide +kernel
theorem dX3_fitting_63 : decode cX3_fitting 63 = .ok (.iload 7, 2) := by decide +kernel
theorem dX3_fitting_65 : decode cX3_fitting 65 = .ok (.ishl, 1) := by decide +kernel
theorem dX3_fitting_66 : decode cX3_fitting 66 = .ok (.ior, 1) := by decide +kernel
theorem dX3_fitting_67 : decode cX3_fitting 67 = .ok (.istore 6, 2) := by decide +kernel
theorem dX3_fitting_69 : decode cX3_fitting 69 = .ok (.iinc 7 1, 3) := by decide +kernel
theorem dX3_fitting_72 : decode cX3_fitting 72 = .ok (.goto (-43), 3) := by decide +kernel
theorem dX3_fitting_75 : decode cX3_fitting 75 = .ok (.iload 6, 2) := by decide +kernel
theorem dX3_fitting_77 : decode cX3_fitting 77 = .ok (.ireturn, 1) := by decide +kernel
theorem dX3_mostOf_0 : decode cX3_mostOf 0 = .ok (.iload_n 0, 1) := by decide +kernel
theorem dX3_mostOf_1 : decode cX3_mostOf 1 = .ok (.tableswitch 34 0 2 #[27, 29, 31], 27) := by decide +kernel
theorem dX3_mostOf_28 : decode cX3_mostOf 28 = .ok (.iconst 5, 1) := by decide +kernel
theorem dX3_mostOf_29 : decode cX3_mostOf 29 = .ok (.ireturn, 1) := by decide +kernel
theorem dX3_mostOf_30 : decode cX3_mostOf 30 = .ok (.iconst 4, 1) := by decide +kernel
theorem dX3_mostOf_31 : decode cX3_mostOf 31 = .ok (.ireturn, 1) := by decide +kernel
theorem dX3_mostOf_32 : decode cX3_mostOf 32 = .ok (.bipush 9, 2) := by decide +kernel
theorem dX3_mostOf_34 : decode cX3_mostOf 34 = .ok (.ireturn, 1) := by decide +kernel
theorem dX3_mostOf_35 : decode cX3_mostOf 35 = .ok (.iload_n 1, 1) := by decide +kernel
theorem dX3_mostOf_36 : decode cX3_mostOf 36 = .ok (.iconst 1, 1) := by decide +kernel
theorem dX3_mostOf_37 : decode cX3_mostOf 37 = .ok (.isub, 1) := by decide +kernel
theorem dX3_mostOf_38 : decode cX3_mostOf 38 = .ok (.ireturn, 1) := by decide +kernel
theorem dX3_suppose_0 : decode cX3_suppose 0 = .ok (.iload_n 2, 1) := by decide +kernel
theorem dX3_suppose_1 : decode cX3_suppose 1 = .ok (.tableswitch 81 0 2 #[27, 48, 69], 27) := by decide +kernel
theorem dX3_suppose_28 : decode cX3_suppose 28 = .ok (.aload_n 0, 1) := by decide +kernel
theorem dX3_suppose_29 : decode cX3_suppose 29 = .ok (.getfield 12, 3) := by decide +kernel
theorem dX3_suppose_32 : decode cX3_suppose 32 = .ok (.iload_n 1, 1) := by decide +kernel
theorem dX3_suppose_33 : decode cX3_suppose 33 = .ok (.iload_n 3, 1) := by decide +kernel
theorem dX3_suppose_34 : decode cX3_suppose 34 = .ok (.aload_n 0, 1) := by decide +kernel
theorem dX3_suppose_35 : decode cX3_suppose 35 = .ok (.getfield 12, 3) := by decide +kernel
theorem dX3_suppose_38 : decode cX3_suppose 38 = .ok (.getfield 92, 3) := by decide +kernel
theorem dX3_suppose_41 : decode cX3_suppose 41 = .ok (.iload_n 1, 1) := by decide +kernel
theorem dX3_suppose_42 : decode cX3_suppose 42 = .ok (.iaload, 1) := by decide +kernel
theorem dX3_suppose_43 : decode cX3_suppose 43 = .ok (.invokevirtual 95, 3) := by decide +kernel
theorem dX3_suppose_46 : decode cX3_suppose 46 = .ok (.goto 53, 3) := by decide +kernel
theorem dX3_suppose_49 : decode cX3_suppose 49 = .ok (.aload_n 0, 1) := by decide +kernel
theorem dX3_suppose_50 : decode cX3_suppose 50 = .ok (.getfield 12, 3) := by decide +kernel
theorem dX3_suppose_53 : decode cX3_suppose 53 = .ok (.iload_n 1, 1) := by decide +kernel
theorem dX3_suppose_54 : decode cX3_suppose 54 = .ok (.aload_n 0, 1) := by decide +kernel
theorem dX3_suppose_55 : decode cX3_suppose 55 = .ok (.getfield 12, 3) := by decide +kernel
theorem dX3_suppose_58 : decode cX3_suppose 58 = .ok (.getfield 98, 3) := by decide +kernel
theorem dX3_suppose_61 : decode cX3_suppose 61 = .ok (.iload_n 1, 1) := by decide +kernel
theorem dX3_suppose_62 : decode cX3_suppose 62 = .ok (.iaload, 1) := by decide +kernel
theorem dX3_suppose_63 : decode cX3_suppose 63 = .ok (.iload_n 3, 1) := by decide +kernel
theorem dX3_suppose_64 : decode cX3_suppose 64 = .ok (.invokevirtual 95, 3) := by decide +kernel
theorem dX3_suppose_67 : decode cX3_suppose 67 = .ok (.goto 32, 3) := by decide +kernel
theorem dX3_suppose_70 : decode cX3_suppose 70 = .ok (.aload_n 0, 1) := by decide +kernel
theorem dX3_suppose_71 : decode cX3_suppose 71 = .ok (.getfield 12, 3) := by decide +kernel
theorem dX3_suppose_74 : decode cX3_suppose 74 = .ok (.iload_n 1, 1) := by decide +kernel
theorem dX3_suppose_75 : decode cX3_suppose 75 = .ok (.iload_n 3, 1) := by decide +kernel
theorem dX3_suppose_76 : decode cX3_suppose 76 = .ok (.invokevirtual 101, 3) := by decide +kernel
theorem dX3_suppose_79 : decode cX3_suppose 79 = .ok (.goto 20, 3) := by decide +kernel
theorem dX3_suppose_82 : decode cX3_suppose 82 = .ok (.aload_n 0, 1) := by decide +kernel
theorem dX3_suppose_83 : decode cX3_suppose 83 = .ok (.getfield 12, 3) := by decide +kernel
theorem dX3_suppose_86 : decode cX3_suppose 86 = .ok (.iload_n 1, 1) := by decide +kernel
theorem dX3_suppose_87 : decode cX3_suppose 87 = .ok (.aload_n 0, 1) := by decide +kernel
theorem dX3_suppose_88 : decode cX3_suppose 88 = .ok (.getfield 12, 3) := by decide +kernel
theorem dX3_suppose_91 : decode cX3_suppose 91 = .ok (.getfield 104, 3) := by decide +kernel
theorem dX3_suppose_94 : decode cX3_suppose 94 = .ok (.iload_n 3, 1) := by decide +kernel
theorem dX3_suppose_95 : decode cX3_suppose 95 = .ok (.iaload, 1) := by decide +kernel
theorem dX3_suppose_96 : decode cX3_suppose 96 = .ok (.invokevirtual 74, 3) := by decide +kernel
theorem dX3_suppose_99 : decode cX3_suppose 99 = .ok (.return_, 1) := by decide +kernel
theorem dX3_risesAsHeard_0 : decode cX3_risesAsHeard 0 = .ok (.iconst 0, 1) := by decide +kernel
theorem dX3_risesAsHeard_1 : decode cX3_risesAsHeard 1 = .ok (.istore_n 2, 1) := by decide +kernel
theorem dX3_risesAsHeard_2 : decode cX3_risesAsHeard 2 = .ok (.iload_n 2, 1) := by decide +kernel
theorem dX3_risesAsHeard_3 : decode cX3_risesAsHeard 3 = .ok (.aload_n 0, 1) := by decide +kernel
theorem dX3_risesAsHeard_4 : decode cX3_risesAsHeard 4 = .ok (.getfield 52, 3) := by decide +kernel
theorem dX3_risesAsHeard_7 : decode cX3_risesAsHeard 7 = .ok (.if_icmp .ge 37, 3) := by decide +kernel
theorem dX3_risesAsHeard_10 : decode cX3_risesAsHeard 10 = .ok (.aload_n 0, 1) := by decide +kernel
theorem dX3_risesAsHeard_11 : decode cX3_risesAsHeard 11 = .ok (.getfield 12, 3) := by decide +kernel
theorem dX3_risesAsHeard_14 : decode cX3_risesAsHeard 14 = .ok (.invokevirtual 37, 3) := by decide +kernel
theorem dX3_risesAsHeard_17 : decode cX3_risesAsHeard 17 = .ok (.pop, 1) := by decide +kernel
theorem dX3_risesAsHeard_18 : decode cX3_risesAsHeard 18 = .ok (.aload_n 0, 1) := by decide +kernel
theorem dX3_risesAsHeard_19 : decode cX3_risesAsHeard 19 = .ok (.getfield 12, 3) := by decide +kernel
theorem dX3_risesAsHeard_22 : decode cX3_risesAsHeard 22 = .ok (.getfield 107, 3) := by decide +kernel
theorem dX3_risesAsHeard_25 : decode cX3_risesAsHeard 25 = .ok (.iload_n 1, 1) := by decide +kernel
theorem dX3_risesAsHeard_26 : decode cX3_risesAsHeard 26 = .ok (.iaload, 1) := by decide +kernel
theorem dX3_risesAsHeard_27 : decode cX3_risesAsHeard 27 = .ok (.aload_n 0, 1) := by decide +kernel
theorem dX3_risesAsHeard_28 : decode cX3_risesAsHeard 28 = .ok (.getfield 21, 3) := by decide +kernel
theorem dX3_risesAsHeard_31 : decode cX3_risesAsHeard 31 = .ok (.iload_n 2, 1) := by decide +kernel
theorem dX3_risesAsHeard_32 : decode cX3_risesAsHeard 32 = .ok (.iaload, 1) := by decide +kernel
theorem dX3_risesAsHeard_33 : decode cX3_risesAsHeard 33 = .ok (.if_icmp .eq 5, 3) := by decide +kernel
theorem dX3_risesAsHeard_36 : decode cX3_risesAsHeard 36 = .ok (.iconst 0, 1) := by decide +kernel
theorem dX3_risesAsHeard_37 : decode cX3_risesAsHeard 37 = .ok (.ireturn, 1) := by decide +kernel
theorem dX3_risesAsHeard_38 : decode cX3_risesAsHeard 38 = .ok (.iinc 2 1, 3) := by decide +kernel
theorem dX3_risesAsHeard_41 : decode cX3_risesAsHeard 41 = .ok (.goto (-39), 3) := by decide +kernel
theorem dX3_risesAsHeard_44 : decode cX3_risesAsHeard 44 = .ok (.iconst 1, 1) := by decide +kernel
theorem dX3_risesAsHeard_45 : decode cX3_risesAsHeard 45 = .ok (.ireturn, 1) := by decide +kernel
theorem dX3_waysClear_0 : decode cX3_waysClear 0 = .ok (.lconst 0, 1) := by decide +kernel
theorem dX3_waysClear_1 : decode cX3_waysClear 1 = .ok (.lstore 4, 2) := by decide +kernel
theorem dX3_waysClear_3 : decode cX3_waysClear 3 = .ok (.iconst 0, 1) := by decide +kernel
theorem dX3_waysClear_4 : decode cX3_waysClear 4 = .ok (.istore 6, 2) := by decide +kernel
theorem dX3_waysClear_6 : decode cX3_waysClear 6 = .ok (.iload 6, 2) := by decide +kernel
theorem dX3_waysClear_8 : decode cX3_waysClear 8 = .ok (.aload_n 1, 1) := by decide +kernel
theorem dX3_waysClear_9 : decode cX3_waysClear 9 = .ok (.getfield 110, 3) := by decide +kernel
theorem dX3_waysClear_12 : decode cX3_waysClear 12 = .ok (.if_icmp .gt 92, 3) := by decide +kernel
theorem dX3_waysClear_15 : decode cX3_waysClear 15 = .ok (.iload 6, 2) := by decide +kernel
theorem dX3_waysClear_17 : decode cX3_waysClear 17 = .ok (.aload_n 1, 1) := by decide +kernel
theorem dX3_waysClear_18 : decode cX3_waysClear 18 = .ok (.getfield 110, 3) := by decide +kernel
theorem dX3_waysClear_21 : decode cX3_waysClear 21 = .ok (.iconst (-1), 1) := by decide +kernel
theorem dX3_waysClear_22 : decode cX3_waysClear 22 = .ok (.ixor, 1) := by decide +kernel
theorem dX3_waysClear_23 : decode cX3_waysClear 23 = .ok (.iand, 1) := by decide +kernel
theorem dX3_waysClear_24 : decode cX3_waysClear 24 = .ok (.ifCond .ne 74, 3) := by decide +kernel
theorem dX3_waysClear_27 : decode cX3_waysClear 27 = .ok (.aload_n 0, 1) := by decide +kernel
theorem dX3_waysClear_28 : decode cX3_waysClear 28 = .ok (.getfield 12, 3) := by decide +kernel
theorem dX3_waysClear_31 : decode cX3_waysClear 31 = .ok (.aload_n 1, 1) := by decide +kernel
theorem dX3_waysClear_32 : decode cX3_waysClear 32 = .ok (.invokevirtual 25, 3) := by decide +kernel
theorem dX3_waysClear_35 : decode cX3_waysClear 35 = .ok (.aload_n 0, 1) := by decide +kernel
theorem dX3_waysClear_36 : decode cX3_waysClear 36 = .ok (.getfield 12, 3) := by decide +kernel
theorem dX3_waysClear_39 : decode cX3_waysClear 39 = .ok (.iload 6, 2) := by decide +kernel
theorem dX3_waysClear_41 : decode cX3_waysClear 41 = .ok (.invokevirtual 113, 3) := by decide +kernel
theorem dX3_waysClear_44 : decode cX3_waysClear 44 = .ok (.aload_n 0, 1) := by decide +kernel
theorem dX3_waysClear_45 : decode cX3_waysClear 45 = .ok (.getfield 12, 3) := by decide +kernel
theorem dX3_waysClear_48 : decode cX3_waysClear 48 = .ok (.getfield 110, 3) := by decide +kernel
theorem dX3_waysClear_51 : decode cX3_waysClear 51 = .ok (.invokestatic 116, 3) := by decide +kernel
theorem dX3_waysClear_54 : decode cX3_waysClear 54 = .ok (.istore 7, 2) := by decide +kernel
theorem dX3_waysClear_56 : decode cX3_waysClear 56 = .ok (.aload_n 0, 1) := by decide +kernel
theorem dX3_waysClear_57 : decode cX3_waysClear 57 = .ok (.getfield 12, 3) := by decide +kernel
theorem dX3_waysClear_60 : decode cX3_waysClear 60 = .ok (.iload_n 2, 1) := by decide +kernel
theorem dX3_waysClear_61 : decode cX3_waysClear 61 = .ok (.invokevirtual 29, 3) := by decide +kernel
theorem dX3_waysClear_64 : decode cX3_waysClear 64 = .ok (.aload_n 0, 1) := by decide +kernel
theorem dX3_waysClear_65 : decode cX3_waysClear 65 = .ok (.getfield 12, 3) := by decide +kernel
theorem dX3_waysClear_68 : decode cX3_waysClear 68 = .ok (.getfield 33, 3) := by decide +kernel
theorem dX3_waysClear_71 : decode cX3_waysClear 71 = .ok (.ifCond .ne 27, 3) := by decide +kernel
theorem dX3_waysClear_74 : decode cX3_waysClear 74 = .ok (.lload 4, 2) := by decide +kernel
theorem dX3_waysClear_76 : decode cX3_waysClear 76 = .ok (.iload_n 3, 1) := by decide +kernel
theorem dX3_waysClear_77 : decode cX3_waysClear 77 = .ok (.iload 6, 2) := by decide +kernel
theorem dX3_waysClear_79 : decode cX3_waysClear 79 = .ok (.invokestatic 116, 3) := by decide +kernel
theorem dX3_waysClear_82 : decode cX3_waysClear 82 = .ok (.invokestatic 121, 3) := by decide +kernel
theorem dX3_waysClear_85 : decode cX3_waysClear 85 = .ok (.bipush 10, 2) := by decide +kernel
theorem dX3_waysClear_87 : decode cX3_waysClear 87 = .ok (.iload_n 3, 1) := by decide +kernel
theorem dX3_waysClear_88 : decode cX3_waysClear 88 = .ok (.isub, 1) := by decide +kernel
theorem dX3_waysClear_89 : decode cX3_waysClear 89 = .ok (.iload 7, 2) := by decide +kernel
theorem dX3_waysClear_91 : decode cX3_waysClear 91 = .ok (.invokestatic 121, 3) := by decide +kernel
theorem dX3_waysClear_94 : decode cX3_waysClear 94 = .ok (.lmul, 1) := by decide +kernel
theorem dX3_waysClear_95 : decode cX3_waysClear 95 = .ok (.ladd, 1) := by decide +kernel
theorem dX3_waysClear_96 : decode cX3_waysClear 96 = .ok (.lstore 4, 2) := by decide +kernel
theorem dX3_waysClear_98 : decode cX3_waysClear 98 = .ok (.iinc 6 1, 3) := by decide +kernel
theorem dX3_waysClear_101 : decode cX3_waysClear 101 = .ok (.goto (-95), 3) := by decide +kernel
theorem dX3_waysClear_104 : decode cX3_waysClear 104 = .ok (.lload 4, 2) := by decide +kernel
theorem dX3_waysClear_106 : decode cX3_waysClear 106 = .ok (.lreturn, 1) := by decide +kernel
theorem dX3_printedByDraws_0 : decode cX3_printedByDraws 0 = .ok (.aload_n 0, 1) := by decide +kernel
theorem dX3_printedByDraws_1 : decode cX3_printedByDraws 1 = .ok (.getfield 12, 3) := by decide +kernel
theorem dX3_printedByDraws_4 : decode cX3_printedByDraws 4 = .ok (.aload_n 1, 1) := by decide +kernel
theorem dX3_printedByDraws_5 : decode cX3_printedByDraws 5 = .ok (.invokevirtual 25, 3) := by decide +kernel
theorem dX3_printedByDraws_8 : decode cX3_printedByDraws 8 = .ok (.aload_n 1, 1) := by decide +kernel
theorem dX3_printedByDraws_9 : decode cX3_printedByDraws 9 = .ok (.getfield 71, 3) := by decide +kernel
theorem dX3_printedByDraws_12 : decode cX3_printedByDraws 12 = .ok (.ifCond .gt 5, 3) := by decide +kernel
theorem dX3_printedByDraws_15 : decode cX3_printedByDraws 15 = .ok (.iconst 0, 1) := by decide +kernel
theorem dX3_printedByDraws_16 : decode cX3_printedByDraws 16 = .ok (.ireturn, 1) := by decide +kernel
theorem dX3_printedByDraws_17 : decode cX3_printedByDraws 17 = .ok (.iconst 0, 1) := by decide +kernel
theorem dX3_printedByDraws_18 : decode cX3_printedByDraws 18 = .ok (.istore 4, 2) := by decide +kernel
theorem dX3_printedByDraws_20 : decode cX3_printedByDraws 20 = .ok (.iload_n 3, 1) := by decide +kernel
theorem dX3_printedByDraws_21 : decode cX3_printedByDraws 21 = .ok (.i2l, 1) := by decide +kernel
theorem dX3_printedByDraws_22 : decode cX3_printedByDraws 22 = .ok (.lstore 5, 2) := by decide +kernel
theorem dX3_printedByDraws_24 : decode cX3_printedByDraws 24 = .ok (.iconst 0, 1) := by decide +kernel
theorem dX3_printedByDraws_25 : decode cX3_printedByDraws 25 = .ok (.istore 7, 2) := by decide +kernel
theorem dX3_printedByDraws_27 : decode cX3_printedByDraws 27 = .ok (.iload 7, 2) := by decide +kernel
theorem dX3_printedByDraws_29 : decode cX3_printedByDraws 29 = .ok (.iload_n 2, 1) := by decide +kernel
theorem dX3_printedByDraws_30 : decode cX3_printedByDraws 30 = .ok (.if_icmp .ge 101, 3) := by decide +kernel
theorem dX3_printedByDraws_33 : decode cX3_printedByDraws 33 = .ok (.lload 5, 2) := by decide +kernel
theorem dX3_printedByDraws_35 : decode cX3_printedByDraws 35 = .ok (.ldc2_w 125, 3) := by decide +kernel
theorem dX3_printedByDraws_38 : decode cX3_printedByDraws 38 = .ok (.lmul, 1) := by decide +kernel
theorem dX3_printedByDraws_39 : decode cX3_printedByDraws 39 = .ok (.ldc2_w 127, 3) := by decide +kernel
theorem dX3_printedByDraws_42 : decode cX3_printedByDraws 42 = .ok (.lrem, 1) := by decide +kernel
theorem dX3_printedByDraws_43 : decode cX3_printedByDraws 43 = .ok (.lstore 5, 2) := by decide +kernel
theorem dX3_printedByDraws_45 : decode cX3_printedByDraws 45 = .ok (.lload 5, 2) := by decide +kernel
theorem dX3_printedByDraws_47 : decode cX3_printedByDraws 47 = .ok (.ldc2_w 129, 3) := by decide +kernel
theorem dX3_printedByDraws_50 : decode cX3_printedByDraws 50 = .ok (.lrem, 1) := by decide +kernel
theorem dX3_printedByDraws_51 : decode cX3_printedByDraws 51 = .ok (.lconst 0, 1) := by decide +kernel
theorem dX3_printedByDraws_52 : decode cX3_printedByDraws 52 = .ok (.lcmp, 1) := by decide +kernel
theorem dX3_printedByDraws_53 : decode cX3_printedByDraws 53 = .ok (.ifCond .ne 17, 3) := by decide +kernel
theorem dX3_printedByDraws_56 : decode cX3_printedByDraws 56 = .ok (.aload_n 0, 1) := by decide +kernel
theorem dX3_printedByDraws_57 : decode cX3_printedByDraws 57 = .ok (.getfield 12, 3) := by decide +kernel
theorem dX3_printedByDraws_60 : decode cX3_printedByDraws 60 = .ok (.aload_n 0, 1) := by decide +kernel
theorem dX3_printedByDraws_61 : decode cX3_printedByDraws 61 = .ok (.getfield 12, 3) := by decide +kernel
theorem dX3_printedByDraws_64 : decode cX3_printedByDraws 64 = .ok (.getfield 33, 3) := by decide +kernel
theorem dX3_printedByDraws_67 : decode cX3_printedByDraws 67 = .ok (.invokevirtual 113, 3) := by decide +kernel
theorem dX3_printedByDraws_70 : decode cX3_printedByDraws 70 = .ok (.lload 5, 2) := by decide +kernel
theorem dX3_printedByDraws_72 : decode cX3_printedByDraws 72 = .ok (.aload_n 1, 1) := by decide +kernel
theorem dX3_printedByDraws_73 : decode cX3_printedByDraws 73 = .ok (.getfield 71, 3) := by decide +kernel
theorem dX3_printedByDraws_76 : decode cX3_printedByDraws 76 = .ok (.i2l, 1) := by decide +kernel
theorem dX3_printedByDraws_77 : decode cX3_printedByDraws 77 = .ok (.lrem, 1) := by decide +kernel
theorem dX3_printedByDraws_78 : decode cX3_printedByDraws 78 = .ok (.l2i, 1) := by decide +kernel
theorem dX3_printedByDraws_79 : decode cX3_printedByDraws 79 = .ok (.istore 8, 2) := by decide +kernel
theorem dX3_printedByDraws_81 : decode cX3_printedByDraws 81 = .ok (.lload 5, 2) := by decide +kernel
theorem dX3_printedByDraws_83 : decode cX3_printedByDraws 83 = .ok (.ldc2_w 131, 3) := by decide +kernel
theorem dX3_printedByDraws_86 : decode cX3_printedByDraws 86 = .ok (.lrem, 1) := by decide +kernel
theorem dX3_printedByDraws_87 : decode cX3_printedByDraws 87 = .ok (.lconst 0, 1) := by decide +kernel
theorem dX3_printedByDraws_88 : decode cX3_printedByDraws 88 = .ok (.lcmp, 1) := by decide +kernel
theorem dX3_printedByDraws_89 : decode cX3_printedByDraws 89 = .ok (.ifCond .ne 24, 3) := by decide +kernel
theorem dX3_printedByDraws_92 : decode cX3_printedByDraws 92 = .ok (.aload_n 0, 1) := by decide +kernel
theorem dX3_printedByDraws_93 : decode cX3_printedByDraws 93 = .ok (.getfield 12, 3) := by decide +kernel
theorem dX3_printedByDraws_96 : decode cX3_printedByDraws 96 = .ok (.iload 8, 2) := by decide +kernel
theorem dX3_printedByDraws_98 : decode cX3_printedByDraws 98 = .ok (.invokevirtual 42, 3) := by decide +kernel
theorem dX3_printedByDraws_101 : decode cX3_printedByDraws 101 = .ok (.ifCond .eq 12, 3) := by decide +kernel
theorem dX3_printedByDraws_104 : decode cX3_printedByDraws 104 = .ok (.aload_n 0, 1) := by decide +kernel
theorem dX3_printedByDraws_105 : decode cX3_printedByDraws 105 = .ok (.getfield 12, 3) := by decide +kernel
theorem dX3_printedByDraws_108 : decode cX3_printedByDraws 108 = .ok (.iload 8, 2) := by decide +kernel
theorem dX3_printedByDraws_110 : decode cX3_printedByDraws 110 = .ok (.invokevirtual 49, 3) := by decide +kernel
theorem dX3_printedByDraws_113 : decode cX3_printedByDraws 113 = .ok (.iload 4, 2) := by decide +kernel
theorem dX3_printedByDraws_115 : decode cX3_printedByDraws 115 = .ok (.aload_n 0, 1) := by decide +kernel
theorem dX3_printedByDraws_116 : decode cX3_printedByDraws 116 = .ok (.getfield 12, 3) := by decide +kernel
theorem dX3_printedByDraws_119 : decode cX3_printedByDraws 119 = .ok (.invokevirtual 37, 3) := by decide +kernel
theorem dX3_printedByDraws_122 : decode cX3_printedByDraws 122 = .ok (.iadd, 1) := by decide +kernel
theorem dX3_printedByDraws_123 : decode cX3_printedByDraws 123 = .ok (.istore 4, 2) := by decide +kernel
theorem dX3_printedByDraws_125 : decode cX3_printedByDraws 125 = .ok (.iinc 7 1, 3) := by decide +kernel
theorem dX3_printedByDraws_128 : decode cX3_printedByDraws 128 = .ok (.goto (-101), 3) := by decide +kernel
theorem dX3_printedByDraws_131 : decode cX3_printedByDraws 131 = .ok (.iload 4, 2) := by decide +kernel
theorem dX3_printedByDraws_133 : decode cX3_printedByDraws 133 = .ok (.ireturn, 1) := by decide +kernel
theorem dX4_init_0 : decode cX4_init 0 = .ok (.aload_n 0, 1) := by decide +kernel
theorem dX4_init_1 : decode cX4_init 1 = .ok (.invokespecial 3, 3) := by decide +kernel
theorem dX4_init_4 : decode cX4_init 4 = .ok (.aload_n 0, 1) := by decide +kernel
theorem dX4_init_5 : decode cX4_init 5 = .ok (.bipush 40, 2) := by decide +kernel
theorem dX4_init_7 : decode cX4_init 7 = .ok (.newarray .int, 2) := by decide +kernel
theorem dX4_init_9 : decode cX4_init 9 = .ok (.putfield 9, 3) := by decide +kernel
theorem dX4_init_12 : decode cX4_init 12 = .ok (.aload_n 0, 1) := by decide +kernel
theorem dX4_init_13 : decode cX4_init 13 = .ok (.iconst 1, 1) := by decide +kernel
theorem dX4_init_14 : decode cX4_init 14 = .ok (.putfield 15, 3) := by decide +kernel
theorem dX4_init_17 : decode cX4_init 17 = .ok (.return_, 1) := by decide +kernel
theorem dX4_make_0 : decode cX4_make 0 = .ok (.aload_n 0, 1) := by decide +kernel
theorem dX4_make_1 : decode cX4_make 1 = .ok (.iconst 0, 1) := by decide +kernel
theorem dX4_make_2 : decode cX4_make 2 = .ok (.putfield 15, 3) := by decide +kernel
theorem dX4_make_5 : decode cX4_make 5 = .ok (.aload_n 0, 1) := by decide +kernel
theorem dX4_make_6 : decode cX4_make 6 = .ok (.iload_n 1, 1) := by decide +kernel
theorem dX4_make_7 : decode cX4_make 7 = .ok (.putfield 19, 3) := by decide +kernel
theorem dX4_make_10 : decode cX4_make 10 = .ok (.aload_n 0, 1) := by decide +kernel
theorem dX4_make_11 : decode cX4_make 11 = .ok (.iload_n 2, 1) := by decide +kernel
theorem dX4_make_12 : decode cX4_make 12 = .ok (.putfield 23, 3) := by decide +kernel
theorem dX4_make_15 : decode cX4_make 15 = .ok (.aload_n 0, 1) := by decide +kernel
theorem dX4_make_16 : decode cX4_make 16 = .ok (.getfield 9, 3) := by decide +kernel
theorem dX4_make_19 : decode cX4_make 19 = .ok (.iconst 0, 1) := by decide +kernel
theorem dX4_make_20 : decode cX4_make 20 = .ok (.invokestatic 26, 3) := by decide +kernel
theorem dX4_make_23 : decode cX4_make 23 = .ok (.return_, 1) := by decide +kernel
theorem dX4_has_0 : decode cX4_has 0 = .ok (.iload_n 1, 1) := by decide +kernel
theorem dX4_has_1 : decode cX4_has 1 = .ok (.ifCond .lt 21, 3) := by decide +kernel
theorem dX4_has_4 : decode cX4_has 4 = .ok (.iload_n 2, 1) := by decide +kernel
theorem dX4_has_5 : decode cX4_has 5 = .ok (.ifCond .lt 17, 3) := by decide +kernel
theorem dX4_has_8 : decode cX4_has 8 = .ok (.iload_n 1, 1) := by decide +kernel
theorem dX4_has_9 : decode cX4_has 9 = .ok (.aload_n 0, 1) := by decide +kernel
theorem dX4_has_10 : decode cX4_has 10 = .ok (.getfield 23, 3) := by decide +kernel
theorem dX4_has_13 : decode cX4_has 13 = .ok (.iload_n 2, 1) := by decide +kernel
theorem dX4_has_14 : decode cX4_has 14 = .ok (.isub, 1) := by decide +kernel
theorem dX4_has_15 : decode cX4_has 15 = .ok (.if_icmp .gt 7, 3) := by decide +kernel
theorem dX4_has_18 : decode cX4_has 18 = .ok (.iconst 1, 1) := by decide +kernel
theorem dX4_has_19 : decode cX4_has 19 = .ok (.goto 4, 3) := by decide +kernel
theorem dX4_has_22 : decode cX4_has 22 = .ok (.iconst 0, 1) := by decide +kernel
theorem dX4_has_23 : decode cX4_has 23 = .ok (.ireturn, 1) := by decide +kernel
theorem dX4_put_0 : decode cX4_put 0 = .ok (.iload_n 2, 1) := by decide +kernel
theorem dX4_put_1 : decode cX4_put 1 = .ok (.istore_n 3, 1) := by decide +kernel
theorem dX4_put_2 : decode cX4_put 2 = .ok (.aload_n 0, 1) := by decide +kernel
theorem dX4_put_3 : decode cX4_put 3 = .ok (.getfield 19, 3) := by decide +kernel
theorem dX4_put_6 : decode cX4_put 6 = .ok (.ifCond .ne 9, 3) := by decide +kernel
theorem dX4_put_9 : decode cX4_put 9 = .ok (.iload_n 2, 1) := by decide +kernel
theorem dX4_put_10 : decode cX4_put 10 = .ok (.i2b, 1) := by decide +kernel
theorem dX4_put_11 : decode cX4_put 11 = .ok (.istore_n 3, 1) := by decide +kernel
theorem dX4_put_12 : decode cX4_put 12 = .ok (.goto 14, 3) := by decide +kernel
theorem dX4_put_15 : decode cX4_put 15 = .ok (.aload_n 0, 1) := by decide +kernel
theorem dX4_put_16 : decode cX4_put 16 = .ok (.getfield 19, 3) := by decide +kernel
theorem dX4_put_19 : decode cX4_put 19 = .ok (.iconst 1, 1) := by decide +kernel
theorem dX4_put_20 : decode cX4_put 20 = .ok (.if_icmp .ne 6, 3) := by decide +kernel
theorem dX4_put_23 : decode cX4_put 23 = .ok (.iload_n 2, 1) := by decide +kernel
theorem dX4_put_24 : decode cX4_put 24 = .ok (.i2s, 1) := by decide +kernel
theorem dX4_put_25 : decode cX4_put 25 = .ok (.istore_n 3, 1) := by decide +kernel
theorem dX4_put_26 : decode cX4_put 26 = .ok (.aload_n 0, 1) := by decide +kernel
theorem dX4_put_27 : decode cX4_put 27 = .ok (.getfield 9, 3) := by decide +kernel
theorem dX4_put_30 : decode cX4_put 30 = .ok (.iload_n 1, 1) := by decide +kernel
theorem dX4_put_31 : decode cX4_put 31 = .ok (.iload_n 3, 1) := by decide +kernel
theorem dX4_put_32 : decode cX4_put 32 = .ok (.iastore, 1) := by decide +kernel
theorem dX4_put_33 : decode cX4_put 33 = .ok (.iload_n 3, 1) := by decide +kernel
theorem dX4_put_34 : decode cX4_put 34 = .ok (.ireturn, 1) := by decide +kernel
theorem dX5_init_0 : decode cX5_init 0 = .ok (.aload_n 0, 1) := by decide +kernel
theorem dX5_init_1 : decode cX5_init 1 = .ok (.invokespecial 3, 3) := by decide +kernel
theorem dX5_init_4 : decode cX5_init 4 = .ok (.aload_n 0, 1) := by decide +kernel
theorem dX5_init_5 : decode cX5_init 5 = .ok (.bipush 60, 2) := by decide +kernel
theorem dX5_init_7 : decode cX5_init 7 = .ok (.newarray .int, 2) := by decide +kernel
theorem dX5_init_9 : decode cX5_init 9 = .ok (.putfield 9, 3) := by decide +kernel
theorem dX5_init_12 : decode cX5_init 12 = .ok (.return_, 1) := by decide +kernel
theorem dX5_take_0 : decode cX5_take 0 = .ok (.aload_n 0, 1) := by decide +kernel
theorem dX5_take_1 : decode cX5_take 1 = .ok (.getfield 15, 3) := by decide +kernel
theorem dX5_take_4 : decode cX5_take 4 = .ok (.bipush 60, 2) := by decide +kernel
theorem dX5_take_6 : decode cX5_take 6 = .ok (.if_icmp .lt 5, 3) := by decide +kernel
theorem dX5_take_9 : decode cX5_take 9 = .ok (.iconst 0, 1) := by decide +kernel
theorem dX5_take_10 : decode cX5_take 10 = .ok (.ireturn, 1) := by decide +kernel
theorem dX5_take_11 : decode cX5_take 11 = .ok (.aload_n 0, 1) := by decide +kernel
theorem dX5_take_12 : decode cX5_take 12 = .ok (.getfield 9, 3) := by decide +kernel
theorem dX5_take_15 : decode cX5_take 15 = .ok (.aload_n 0, 1) := by decide +kernel
theorem dX5_take_16 : decode cX5_take 16 = .ok (.getfield 15, 3) := by decide +kernel
theorem dX5_take_19 : decode cX5_take 19 = .ok (.iload_n 1, 1) := by decide +kernel
theorem dX5_take_20 : decode cX5_take 20 = .ok (.iastore, 1) := by decide +kernel
theorem dX5_take_21 : decode cX5_take 21 = .ok (.aload_n 0, 1) := by decide +kernel
theorem dX5_take_22 : decode cX5_take 22 = .ok (.dup, 1) := by decide +kernel
theorem dX5_take_23 : decode cX5_take 23 = .ok (.getfield 15, 3) := by decide +kernel
theorem dX5_take_26 : decode cX5_take 26 = .ok (.iconst 1, 1) := by decide +kernel
theorem dX5_take_27 : decode cX5_take 27 = .ok (.iadd, 1) := by decide +kernel
theorem dX5_take_28 : decode cX5_take 28 = .ok (.putfield 15, 3) := by decide +kernel
theorem dX5_take_31 : decode cX5_take 31 = .ok (.iconst 1, 1) := by decide +kernel
theorem dX5_take_32 : decode cX5_take 32 = .ok (.ireturn, 1) := by decide +kernel
theorem dX5_readInto_0 : decode cX5_readInto 0 = .ok (.aload_n 1, 1) := by decide +kernel
theorem dX5_readInto_1 : decode cX5_readInto 1 = .ok (.invokevirtual 19, 3) := by decide +kernel
theorem dX5_readInto_4 : decode cX5_readInto 4 = .ok (.aload_n 0, 1) := by decide +kernel
theorem dX5_readInto_5 : decode cX5_readInto 5 = .ok (.iconst 0, 1) := by decide +kernel
theorem dX5_readInto_6 : decode cX5_readInto 6 = .ok (.putfield 24, 3) := by decide +kernel
theorem dX5_readInto_9 : decode cX5_readInto 9 = .ok (.aload_n 0, 1) := by decide +kernel
theorem dX5_readInto_10 : decode cX5_readInto 10 = .ok (.aload_n 1, 1) := by decide +kernel
theorem dX5_readInto_11 : decode cX5_readInto 11 = .ok (.invokevirtual 27, 3) := by decide +kernel
theorem dX5_readInto_14 : decode cX5_readInto 14 = .ok (.istore_n 2, 1) := by decide +kernel
theorem dX5_readInto_15 : decode cX5_readInto 15 = .ok (.iconst 0, 1) := by decide +kernel
theorem dX5_readInto_16 : decode cX5_readInto 16 = .ok (.istore_n 3, 1) := by decide +kernel
theorem dX5_readInto_17 : decode cX5_readInto 17 = .ok (.iload_n 3, 1) := by decide +kernel
theorem dX5_readInto_18 : decode cX5_readInto 18 = .ok (.bipush 8, 2) := by decide +kernel
theorem dX5_readInto_20 : decode cX5_readInto 20 = .ok (.if_icmp .ge 30, 3) := by decide +kernel
theorem dX5_readInto_23 : decode cX5_readInto 23 = .ok (.iload_n 2, 1) := by decide +kernel
theorem dX5_readInto_24 : decode cX5_readInto 24 = .ok (.ifCond .ne 26, 3) := by decide +kernel
theorem dX5_readInto_27 : decode cX5_readInto 27 = .ok (.aload_n 0, 1) := by decide +kernel
theorem dX5_readInto_28 : decode cX5_readInto 28 = .ok (.getfield 24, 3) := by decide +kernel
theorem dX5_readInto_31 : decode cX5_readInto 31 = .ok (.aload_n 0, 1) := by decide +kernel
theorem dX5_readInto_32 : decode cX5_readInto 32 = .ok (.getfield 15, 3) := by decide +kernel
theorem dX5_readInto_35 : decode cX5_readInto 35 = .ok (.if_icmp .ge 15, 3) := by decide +kernel
theorem dX5_readInto_38 : decode cX5_readInto 38 = .ok (.aload_n 0, 1) := by decide +kernel
theorem dX5_readInto_39 : decode cX5_readInto 39 = .ok (.aload_n 1, 1) := by decide +kernel
theorem dX5_readInto_40 : decode cX5_readInto 40 = .ok (.invokevirtual 27, 3) := by decide +kernel
theorem dX5_readInto_43 : decode cX5_readInto 43 = .ok (.istore_n 2, 1) := by decide +kernel
theorem dX5_readInto_44 : decode cX5_readInto 44 = .ok (.iinc 3 1, 3) := by decide +kernel
theorem dX5_readInto_47 : decode cX5_readInto 47 = .ok (.goto (-30), 3) := by decide +kernel
theorem dX5_readInto_50 : decode cX5_readInto 50 = .ok (.aload_n 0, 1) := by decide +kernel
theorem dX5_readInto_51 : decode cX5_readInto 51 = .ok (.iconst 0, 1) := by decide +kernel
theorem dX5_readInto_52 : decode cX5_readInto 52 = .ok (.putfield 15, 3) := by decide +kernel
theorem dX5_readInto_55 : decode cX5_readInto 55 = .ok (.iload_n 2, 1) := by decide +kernel
theorem dX5_readInto_56 : decode cX5_readInto 56 = .ok (.ireturn, 1) := by decide +kernel
theorem dX5_readBar_0 : decode cX5_readBar 0 = .ok (.aload_n 0, 1) := by decide +kernel
theorem dX5_readBar_1 : decode cX5_readBar 1 = .ok (.aload_n 0, 1) := by decide +kernel
theorem dX5_readBar_2 : decode cX5_readBar 2 = .ok (.getfield 24, 3) := by decide +kernel
theorem dX5_readBar_5 : decode cX5_readBar 5 = .ok (.invokevirtual 31, 3) := by decide +kernel
theorem dX5_readBar_8 : decode cX5_readBar 8 = .ok (.invokestatic 35, 3) := by decide +kernel
theorem dX5_readBar_11 : decode cX5_readBar 11 = .ok (.istore_n 2, 1) := by decide +kernel
theorem dX5_readBar_12 : decode cX5_readBar 12 = .ok (.iload_n 2, 1) := by decide +kernel
theorem dX5_readBar_13 : decode cX5_readBar 13 = .ok (.ifCond .ne 5, 3) := by decide +kernel
theorem dX5_readBar_16 : decode cX5_readBar 16 = .ok (.iconst 1, 1) := by decide +kernel
theorem dX5_readBar_17 : decode cX5_readBar 17 = .ok (.ireturn, 1) := by decide +kernel
theorem dX5_readBar_18 : decode cX5_readBar 18 = .ok (.aload_n 1, 1) := by decide +kernel
theorem dX5_readBar_19 : decode cX5_readBar 19 = .ok (.getfield 38, 3) := by decide +kernel
theorem dX5_readBar_22 : decode cX5_readBar 22 = .ok (.bipush 8, 2) := by decide +kernel
theorem dX5_readBar_24 : decode cX5_readBar 24 = .ok (.if_icmp .lt 5, 3) := by decide +kernel
theorem dX5_readBar_27 : decode cX5_readBar 27 = .ok (.iconst 3, 1) := by decide +kernel
theorem dX5_readBar_28 : decode cX5_readBar 28 = .ok (.ireturn, 1) := by decide +kernel
theorem dX5_readBar_29 : decode cX5_readBar 29 = .ok (.aload_n 0, 1) := by decide +kernel
theorem dX5_readBar_30 : decode cX5_readBar 30 = .ok (.dup, 1) := by decide +kernel
theorem dX5_readBar_31 : decode cX5_readBar 31 = .ok (.getfield 24, 3) := by decide +kernel
theorem dX5_readBar_34 : decode cX5_readBar 34 = .ok (.iconst 1, 1) := by decide +kernel
theorem dX5_readBar_35 : decode cX5_readBar 35 = .ok (.iadd, 1) := by decide +kernel
theorem dX5_readBar_36 : decode cX5_readBar 36 = .ok (.putfield 24, 3) := by decide +kernel
theorem dX5_readBar_39 : decode cX5_readBar 39 = .ok (.aload_n 0, 1) := by decide +kernel
theorem dX5_readBar_40 : decode cX5_readBar 40 = .ok (.invokevirtual 41, 3) := by decide +kernel
theorem dX5_readBar_43 : decode cX5_readBar 43 = .ok (.istore_n 3, 1) := by decide +kernel
theorem dX5_readBar_44 : decode cX5_readBar 44 = .ok (.iload_n 3, 1) := by decide +kernel
theorem dX5_readBar_45 : decode cX5_readBar 45 = .ok (.iconst 1, 1) := by decide +kernel
theorem dX5_readBar_46 : decode cX5_readBar 46 = .ok (.if_icmp .lt 8, 3) := by decide +kernel
theorem dX5_readBar_49 : decode cX5_readBar 49 = .ok (.iload_n 3, 1) := by decide +kernel
theorem dX5_readBar_50 : decode cX5_readBar 50 = .ok (.iconst 2, 1) := by decide +kernel
theorem dX5_readBar_51 : decode cX5_readBar 51 = .ok (.if_icmp .le 5, 3) := by decide +kernel
theorem dX5_readBar_54 : decode cX5_readBar 54 = .ok (.iconst 1, 1) := by decide +kernel
theorem dX5_readBar_55 : decode cX5_readBar 55 = .ok (.ireturn, 1) := by decide +kernel
theorem dX5_readBar_56 : decode cX5_readBar 56 = .ok (.aload_n 0, 1) := by decide +kernel
theorem dX5_readBar_57 : decode cX5_readBar 57 = .ok (.iload_n 3, 1) := by decide +kernel
theorem dX5_readBar_58 : decode cX5_readBar 58 = .ok (.invokevirtual 45, 3) := by decide +kernel
theorem dX5_readBar_61 : decode cX5_readBar 61 = .ok (.istore 4, 2) := by decide +kernel
theorem dX5_readBar_63 : decode cX5_readBar 63 = .ok (.iload 4, 2) := by decide +kernel
theorem dX5_readBar_65 : decode cX5_readBar 65 = .ok (.iconst 1, 1) := by decide +kernel
theorem dX5_readBar_66 : decode cX5_readBar 66 = .ok (.iconst 4, 1) := by decide +kernel
theorem dX5_readBar_67 : decode cX5_readBar 67 = .ok (.invokestatic 48, 3) := by decide +kernel
theorem dX5_readBar_70 : decode cX5_readBar 70 = .ok (.ifCond .ne 5, 3) := by decide +kernel
theorem dX5_readBar_73 : decode cX5_readBar 73 = .ok (.iconst 2, 1) := by decide +kernel
theorem dX5_readBar_74 : decode cX5_readBar 74 = .ok (.ireturn, 1) := by decide +kernel
theorem dX5_readBar_75 : decode cX5_readBar 75 = .ok (.aload_n 0, 1) := by decide +kernel
theorem dX5_readBar_76 : decode cX5_readBar 76 = .ok (.dup, 1) := by decide +kernel
theorem dX5_readBar_77 : decode cX5_readBar 77 = .ok (.getfield 24, 3) := by decide +kernel
theorem dX5_readBar_80 : decode cX5_readBar 80 = .ok (.iload_n 3, 1) := by decide +kernel
theorem dX5_readBar_81 : decode cX5_readBar 81 = .ok (.iadd, 1) := by decide +kernel
theorem dX5_readBar_82 : decode cX5_readBar 82 = .ok (.putfield 24, 3) := by decide +kernel
theorem dX5_readBar_85 : decode cX5_readBar 85 = .ok (.aload_n 0, 1) := by decide +kernel
theorem dX5_readBar_86 : decode cX5_readBar 86 = .ok (.aload_n 0, 1) := by decide +kernel
theorem dX5_readBar_87 : decode cX5_readBar 87 = .ok (.getfield 24, 3) := by decide +kernel
theorem dX5_readBar_90 : decode cX5_readBar 90 = .ok (.invokevirtual 31, 3) := by decide +kernel
theorem dX5_readBar_93 : decode cX5_readBar 93 = .ok (.bipush 59, 2) := by decide +kernel
theorem dX5_readBar_95 : decode cX5_readBar 95 = .ok (.if_icmp .eq 5, 3) := by decide +kernel
theorem dX5_readBar_98 : decode cX5_readBar 98 = .ok (.iconst 1, 1) := by decide +kernel
theorem dX5_readBar_99 : decode cX5_readBar 99 = .ok (.ireturn, 1) := by decide +kernel
theorem dX5_readBar_100 : decode cX5_readBar 100 = .ok (.aload_n 0, 1) := by decide +kernel
theorem dX5_readBar_101 : decode cX5_readBar 101 = .ok (.dup, 1) := by decide +kernel
theorem dX5_readBar_102 : decode cX5_readBar 102 = .ok (.getfield 24, 3) := by decide +kernel
theorem dX5_readBar_105 : decode cX5_readBar 105 = .ok (.iconst 1, 1) := by decide +kernel
theorem dX5_readBar_106 : decode cX5_readBar 106 = .ok (.iadd, 1) := by decide +kernel
theorem dX5_readBar_107 : decode cX5_readBar 107 = .ok (.putfield 24, 3) := by decide +kernel
theorem dX5_readBar_110 : decode cX5_readBar 110 = .ok (.aload_n 1, 1) := by decide +kernel
theorem dX5_readBar_111 : decode cX5_readBar 111 = .ok (.iload_n 2, 1) := by decide +kernel
theorem dX5_readBar_112 : decode cX5_readBar 112 = .ok (.iload 4, 2) := by decide +kernel
theorem dX5_readBar_114 : decode cX5_readBar 114 = .ok (.invokevirtual 52, 3) := by decide +kernel
theorem dX5_readBar_117 : decode cX5_readBar 117 = .ok (.iconst 0, 1) := by decide +kernel
theorem dX5_readBar_118 : decode cX5_readBar 118 = .ok (.ireturn, 1) := by decide +kernel
theorem dX5_byteAt_0 : decode cX5_byteAt 0 = .ok (.iload_n 1, 1) := by decide +kernel
theorem dX5_byteAt_1 : decode cX5_byteAt 1 = .ok (.iconst 0, 1) := by decide +kernel
theorem dX5_byteAt_2 : decode cX5_byteAt 2 = .ok (.aload_n 0, 1) := by decide +kernel
theorem dX5_byteAt_3 : decode cX5_byteAt 3 = .ok (.getfield 15, 3) := by decide +kernel
theorem dX5_byteAt_6 : decode cX5_byteAt 6 = .ok (.iconst 1, 1) := by decide +kernel
theorem dX5_byteAt_7 : decode cX5_byteAt 7 = .ok (.isub, 1) := by decide +kernel
theorem dX5_byteAt_8 : decode cX5_byteAt 8 = .ok (.invokestatic 48, 3) := by decide +kernel
theorem dX5_byteAt_11 : decode cX5_byteAt 11 = .ok (.ifCond .eq 12, 3) := by decide +kernel
theorem dX5_byteAt_14 : decode cX5_byteAt 14 = .ok (.aload_n 0, 1) := by decide +kernel
theorem dX5_byteAt_15 : decode cX5_byteAt 15 = .ok (.getfield 9, 3) := by decide +kernel
theorem dX5_byteAt_18 : decode cX5_byteAt 18 = .ok (.iload_n 1, 1) := by decide +kernel
theorem dX5_byteAt_19 : decode cX5_byteAt 19 = .ok (.iaload, 1) := by decide +kernel
theorem dX5_byteAt_20 : decode cX5_byteAt 20 = .ok (.goto 4, 3) := by decide +kernel
theorem dX5_byteAt_23 : decode cX5_byteAt 23 = .ok (.iconst (-1), 1) := by decide +kernel
theorem dX5_byteAt_24 : decode cX5_byteAt 24 = .ok (.ireturn, 1) := by decide +kernel
theorem dX5_figuresHere_0 : decode cX5_figuresHere 0 = .ok (.iconst 0, 1) := by decide +kernel
theorem dX5_figuresHere_1 : decode cX5_figuresHere 1 = .ok (.istore_n 1, 1) := by decide +kernel
theorem dX5_figuresHere_2 : decode cX5_figuresHere 2 = .ok (.iload_n 1, 1) := by decide +kernel
theorem dX5_figuresHere_3 : decode cX5_figuresHere 3 = .ok (.bipush 60, 2) := by decide +kernel
theorem dX5_figuresHere_5 : decode cX5_figuresHere 5 = .ok (.if_icmp .ge 29, 3) := by decide +kernel
theorem dX5_figuresHere_8 : decode cX5_figuresHere 8 = .ok (.aload_n 0, 1) := by decide +kernel
theorem dX5_figuresHere_9 : decode cX5_figuresHere 9 = .ok (.aload_n 0, 1) := by decide +kernel
theorem dX5_figuresHere_10 : decode cX5_figuresHere 10 = .ok (.getfield 24, 3) := by decide +kernel
theorem dX5_figuresHere_13 : decode cX5_figuresHere 13 = .ok (.iload_n 1, 1) := by decide +kernel
theorem dX5_figuresHere_14 : decode cX5_figuresHere 14 = .ok (.iadd, 1) := by decide +kernel
theorem dX5_figuresHere_15 : decode cX5_figuresHere 15 = .ok (.invokevirtual 31, 3) := by decide +kernel
theorem dX5_figuresHere_18 : decode cX5_figuresHere 18 = .ok (.bipush 48, 2) := by decide +kernel
theorem dX5_figuresHere_20 : decode cX5_figuresHere 20 = .ok (.bipush 57, 2) := by decide +kernel
theorem dX5_figuresHere_22 : decode cX5_figuresHere 22 = .ok (.invokestatic 48, 3) := by decide +kernel
theorem dX5_figuresHere_25 : decode cX5_figuresHere 25 = .ok (.ifCond .eq 9, 3) := by decide +kernel
theorem dX5_figuresHere_28 : decode cX5_figuresHere 28 = .ok (.iinc 1 1, 3) := by decide +kernel
theorem dX5_figuresHere_31 : decode cX5_figuresHere 31 = .ok (.goto (-29), 3) := by decide +kernel
theorem dX5_figuresHere_34 : decode cX5_figuresHere 34 = .ok (.iload_n 1, 1) := by decide +kernel
theorem dX5_figuresHere_35 : decode cX5_figuresHere 35 = .ok (.ireturn, 1) := by decide +kernel
theorem dX5_numberHere_0 : decode cX5_numberHere 0 = .ok (.iconst 0, 1) := by decide +kernel
theorem dX5_numberHere_1 : decode cX5_numberHere 1 = .ok (.istore_n 2, 1) := by decide +kernel
theorem dX5_numberHere_2 : decode cX5_numberHere 2 = .ok (.iconst 0, 1) := by decide +kernel
theorem dX5_numberHere_3 : decode cX5_numberHere 3 = .ok (.istore_n 3, 1) := by decide +kernel
theorem dX5_numberHere_4 : decode cX5_numberHere 4 = .ok (.iload_n 3, 1) := by decide +kernel
theorem dX5_numberHere_5 : decode cX5_numberHere 5 = .ok (.iload_n 1, 1) := by decide +kernel
theorem dX5_numberHere_6 : decode cX5_numberHere 6 = .ok (.if_icmp .ge 28, 3) := by decide +kernel
theorem dX5_numberHere_9 : decode cX5_numberHere 9 = .ok (.iload_n 2, 1) := by decide +kernel
theorem dX5_numberHere_10 : decode cX5_numberHere 10 = .ok (.bipush 10, 2) := by decide +kernel
theorem dX5_numberHere_12 : decode cX5_numberHere 12 = .ok (.imul, 1) := by decide +kernel
theorem dX5_numberHere_13 : decode cX5_numberHere 13 = .ok (.aload_n 0, 1) := by decide +kernel
theorem dX5_numberHere_14 : decode cX5_numberHere 14 = .ok (.aload_n 0, 1) := by decide +kernel
theorem dX5_numberHere_15 : decode cX5_numberHere 15 = .ok (.getfield 24, 3) := by decide +kernel
theorem dX5_numberHere_18 : decode cX5_numberHere 18 = .ok (.iload_n 3, 1) := by decide +kernel
theorem dX5_numberHere_19 : decode cX5_numberHere 19 = .ok (.iadd, 1) := by decide +kernel
theorem dX5_numberHere_20 : decode cX5_numberHere 20 = .ok (.invokevirtual 31, 3) := by decide +kernel
theorem dX5_numberHere_23 : decode cX5_numberHere 23 = .ok (.iadd, 1) := by decide +kernel
theorem dX5_numberHere_24 : decode cX5_numberHere 24 = .ok (.bipush 48, 2) := by decide +kernel
theorem dX5_numberHere_26 : decode cX5_numberHere 26 = .ok (.isub, 1) := by decide +kernel
theorem dX5_numberHere_27 : decode cX5_numberHere 27 = .ok (.istore_n 2, 1) := by decide +kernel
theorem dX5_numberHere_28 : decode cX5_numberHere 28 = .ok (.iinc 3 1, 3) := by decide +kernel
theorem dX5_numberHere_31 : decode cX5_numberHere 31 = .ok (.goto (-27), 3) := by decide +kernel
theorem dX5_numberHere_34 : decode cX5_numberHere 34 = .ok (.iload_n 2, 1) := by decide +kernel
theorem dX5_numberHere_35 : decode cX5_numberHere 35 = .ok (.ireturn, 1) := by decide +kernel
theorem dX5_sortOf_0 : decode cX5_sortOf 0 = .ok (.iload_n 0, 1) := by decide +kernel
theorem dX5_sortOf_1 : decode cX5_sortOf 1 = .ok (.lookupswitch 61 #[(98, 59), (100, 57), (104, 53), (112, 51), (115, 55)], 51) := by decide +kernel
theorem dX5_sortOf_52 : decode cX5_sortOf 52 = .ok (.iconst 1, 1) := by decide +kernel
theorem dX5_sortOf_53 : decode cX5_sortOf 53 = .ok (.ireturn, 1) := by decide +kernel
theorem dX5_sortOf_54 : decode cX5_sortOf 54 = .ok (.iconst 2, 1) := by decide +kernel
theorem dX5_sortOf_55 : decode cX5_sortOf 55 = .ok (.ireturn, 1) := by decide +kernel
theorem dX5_sortOf_56 : decode cX5_sortOf 56 = .ok (.iconst 3, 1) := by decide +kernel
theorem dX5_sortOf_57 : decode cX5_sortOf 57 = .ok (.ireturn, 1) := by decide +kernel
theorem dX5_sortOf_58 : decode cX5_sortOf 58 = .ok (.iconst 4, 1) := by decide +kernel
theorem dX5_sortOf_59 : decode cX5_sortOf 59 = .ok (.ireturn, 1) := by decide +kernel
theorem dX5_sortOf_60 : decode cX5_sortOf 60 = .ok (.iconst 5, 1) := by decide +kernel
theorem dX5_sortOf_61 : decode cX5_sortOf 61 = .ok (.ireturn, 1) := by decide +kernel
theorem dX5_sortOf_62 : decode cX5_sortOf 62 = .ok (.iconst 0, 1) := by decide +kernel
theorem dX5_sortOf_63 : decode cX5_sortOf 63 = .ok (.ireturn, 1) := by decide +kernel
end
section
theorem dX6_init_0 : decode cX6_init 0 = .ok (.aload_n 0, 1) := by decide +kernel
theorem dX6_init_1 : decode cX6_init 1 = .ok (.invokespecial 1, 3) := by decide +kernel
theorem dX6_init_4 : decode cX6_init 4 = .ok (.aload_n 0, 1) := by decide +kernel
theorem dX6_init_5 : decode cX6_init 5 = .ok (.bipush 8, 2) := by decide +kernel
theorem dX6_init_7 : decode cX6_init 7 = .ok (.anewarray 9, 3) := by decide +kernel
theorem dX6_init_10 : decode cX6_init 10 = .ok (.putfield 11, 3) := by decide +kernel
theorem dX6_init_13 : decode cX6_init 13 = .ok (.aload_n 0, 1) := by decide +kernel
theorem dX6_init_14 : decode cX6_init 14 = .ok (.new 15, 3) := by decide +kernel
theorem dX6_init_17 : decode cX6_init 17 = .ok (.dup, 1) := by decide +kernel
theorem dX6_init_18 : decode cX6_init 18 = .ok (.invokespecial 17, 3) := by decide +kernel
theorem dX6_init_21 : decode cX6_init 21 = .ok (.putfield 18, 3) := by decide +kernel
theorem dX6_init_24 : decode cX6_init 24 = .ok (.aload_n 0, 1) := by decide +kernel
theorem dX6_init_25 : decode cX6_init 25 = .ok (.new 22, 3) := by decide +kernel
theorem dX6_init_28 : decode cX6_init 28 = .ok (.dup, 1) := by decide +kernel
theorem dX6_init_29 : decode cX6_init 29 = .ok (.invokespecial 24, 3) := by decide +kernel
theorem dX6_init_32 : decode cX6_init 32 = .ok (.putfield 25, 3) := by decide +kernel
theorem dX6_init_35 : decode cX6_init 35 = .ok (.aload_n 0, 1) := by decide +kernel
theorem dX6_init_36 : decode cX6_init 36 = .ok (.new 22, 3) := by decide +kernel
theorem dX6_init_39 : decode cX6_init 39 = .ok (.dup, 1) := by decide +kernel
theorem dX6_init_40 : decode cX6_init 40 = .ok (.invokespecial 24, 3) := by decide +kernel
theorem dX6_init_43 : decode cX6_init 43 = .ok (.putfield 29, 3) := by decide +kernel
theorem dX6_init_46 : decode cX6_init 46 = .ok (.aload_n 0, 1) := by decide +kernel
theorem dX6_init_47 : decode cX6_init 47 = .ok (.new 32, 3) := by decide +kernel
theorem dX6_init_50 : decode cX6_init 50 = .ok (.dup, 1) := by decide +kernel
theorem dX6_init_51 : decode cX6_init 51 = .ok (.invokespecial 34, 3) := by decide +kernel
theorem dX6_init_54 : decode cX6_init 54 = .ok (.putfield 35, 3) := by decide +kernel
theorem dX6_init_57 : decode cX6_init 57 = .ok (.aload_n 0, 1) := by decide +kernel
theorem dX6_init_58 : decode cX6_init 58 = .ok (.new 39, 3) := by decide +kernel
theorem dX6_init_61 : decode cX6_init 61 = .ok (.dup, 1) := by decide +kernel
theorem dX6_init_62 : decode cX6_init 62 = .ok (.invokespecial 41, 3) := by decide +kernel
theorem dX6_init_65 : decode cX6_init 65 = .ok (.putfield 42, 3) := by decide +kernel
theorem dX6_init_68 : decode cX6_init 68 = .ok (.aload_n 0, 1) := by decide +kernel
theorem dX6_init_69 : decode cX6_init 69 = .ok (.iconst 2, 1) := by decide +kernel
theorem dX6_init_70 : decode cX6_init 70 = .ok (.anewarray 22, 3) := by decide +kernel
theorem dX6_init_73 : decode cX6_init 73 = .ok (.putfield 46, 3) := by decide +kernel
theorem dX6_init_76 : decode cX6_init 76 = .ok (.aload_n 0, 1) := by decide +kernel
theorem dX6_init_77 : decode cX6_init 77 = .ok (.new 50, 3) := by decide +kernel
theorem dX6_init_80 : decode cX6_init 80 = .ok (.dup, 1) := by decide +kernel
theorem dX6_init_81 : decode cX6_init 81 = .ok (.invokespecial 52, 3) := by decide +kernel
theorem dX6_init_84 : decode cX6_init 84 = .ok (.putfield 53, 3) := by decide +kernel
theorem dX6_init_87 : decode cX6_init 87 = .ok (.iconst 0, 1) := by decide +kernel
theorem dX6_init_88 : decode cX6_init 88 = .ok (.istore_n 1, 1) := by decide +kernel
theorem dX6_init_89 : decode cX6_init 89 = .ok (.iload_n 1, 1) := by decide +kernel
theorem dX6_init_90 : decode cX6_init 90 = .ok (.bipush 8, 2) := by decide +kernel
theorem dX6_init_92 : decode cX6_init 92 = .ok (.if_icmp .ge 22, 3) := by decide +kernel
theorem dX6_init_95 : decode cX6_init 95 = .ok (.aload_n 0, 1) := by decide +kernel
theorem dX6_init_96 : decode cX6_init 96 = .ok (.getfield 11, 3) := by decide +kernel
theorem dX6_init_99 : decode cX6_init 99 = .ok (.iload_n 1, 1) := by decide +kernel
theorem dX6_init_100 : decode cX6_init 100 = .ok (.new 9, 3) := by decide +kernel
theorem dX6_init_103 : decode cX6_init 103 = .ok (.dup, 1) := by decide +kernel
theorem dX6_init_104 : decode cX6_init 104 = .ok (.invokespecial 57, 3) := by decide +kernel
theorem dX6_init_107 : decode cX6_init 107 = .ok (.aastore, 1) := by decide +kernel
theorem dX6_init_108 : decode cX6_init 108 = .ok (.iinc 1 1, 3) := by decide +kernel
theorem dX6_init_111 : decode cX6_init 111 = .ok (.goto (-22), 3) := by decide +kernel
theorem dX6_init_114 : decode cX6_init 114 = .ok (.iconst 0, 1) := by decide +kernel
theorem dX6_init_115 : decode cX6_init 115 = .ok (.istore_n 1, 1) := by decide +kernel
theorem dX6_init_116 : decode cX6_init 116 = .ok (.iload_n 1, 1) := by decide +kernel
theorem dX6_init_117 : decode cX6_init 117 = .ok (.iconst 2, 1) := by decide +kernel
theorem dX6_init_118 : decode cX6_init 118 = .ok (.if_icmp .ge 22, 3) := by decide +kernel
theorem dX6_init_121 : decode cX6_init 121 = .ok (.aload_n 0, 1) := by decide +kernel
theorem dX6_init_122 : decode cX6_init 122 = .ok (.getfield 46, 3) := by decide +kernel
theorem dX6_init_125 : decode cX6_init 125 = .ok (.iload_n 1, 1) := by decide +kernel
theorem dX6_init_126 : decode cX6_init 126 = .ok (.new 22, 3) := by decide +kernel
theorem dX6_init_129 : decode cX6_init 129 = .ok (.dup, 1) := by decide +kernel
theorem dX6_init_130 : decode cX6_init 130 = .ok (.invokespecial 24, 3) := by decide +kernel
theorem dX6_init_133 : decode cX6_init 133 = .ok (.aastore, 1) := by decide +kernel
theorem dX6_init_134 : decode cX6_init 134 = .ok (.iinc 1 1, 3) := by decide +kernel
theorem dX6_init_137 : decode cX6_init 137 = .ok (.goto (-21), 3) := by decide +kernel
theorem dX6_init_140 : decode cX6_init 140 = .ok (.return_, 1) := by decide +kernel
theorem dX6_row_0 : decode cX6_row 0 = .ok (.iload_n 1, 1) := by decide +kernel
theorem dX6_row_1 : decode cX6_row 1 = .ok (.invokestatic 58, 3) := by decide +kernel
theorem dX6_row_4 : decode cX6_row 4 = .ok (.ifCond .eq 18, 3) := by decide +kernel
theorem dX6_row_7 : decode cX6_row 7 = .ok (.iload_n 2, 1) := by decide +kernel
theorem dX6_row_8 : decode cX6_row 8 = .ok (.iconst 0, 1) := by decide +kernel
theorem dX6_row_9 : decode cX6_row 9 = .ok (.iconst 2, 1) := by decide +kernel
theorem dX6_row_10 : decode cX6_row 10 = .ok (.invokestatic 62, 3) := by decide +kernel
theorem dX6_row_13 : decode cX6_row 13 = .ok (.ifCond .eq 9, 3) := by decide +kernel
theorem dX6_row_16 : decode cX6_row 16 = .ok (.iload_n 3, 1) := by decide +kernel
theorem dX6_row_17 : decode cX6_row 17 = .ok (.bipush 40, 2) := by decide +kernel
theorem dX6_row_19 : decode cX6_row 19 = .ok (.if_icmp .le 6, 3) := by decide +kernel
theorem dX6_row_22 : decode cX6_row 22 = .ok (.ldc 66, 2) := by decide +kernel
theorem dX6_row_24 : decode cX6_row 24 = .ok (.ireturn, 1) := by decide +kernel
theorem dX6_row_25 : decode cX6_row 25 = .ok (.iload_n 3, 1) := by decide +kernel
theorem dX6_row_26 : decode cX6_row 26 = .ok (.ifCond .ge 9, 3) := by decide +kernel
theorem dX6_row_29 : decode cX6_row 29 = .ok (.aload_n 0, 1) := by decide +kernel
theorem dX6_row_30 : decode cX6_row 30 = .ok (.iconst 4, 1) := by decide +kernel
theorem dX6_row_31 : decode cX6_row 31 = .ok (.invokevirtual 67, 3) := by decide +kernel
theorem dX6_row_34 : decode cX6_row 34 = .ok (.ireturn, 1) := by decide +kernel
theorem dX6_row_35 : decode cX6_row 35 = .ok (.aload_n 0, 1) := by decide +kernel
theorem dX6_row_36 : decode cX6_row 36 = .ok (.getfield 11, 3) := by decide +kernel
theorem dX6_row_39 : decode cX6_row 39 = .ok (.iload_n 1, 1) := by decide +kernel
theorem dX6_row_40 : decode cX6_row 40 = .ok (.aaload, 1) := by decide +kernel
theorem dX6_row_41 : decode cX6_row 41 = .ok (.iload_n 2, 1) := by decide +kernel
theorem dX6_row_42 : decode cX6_row 42 = .ok (.iload_n 3, 1) := by decide +kernel
theorem dX6_row_43 : decode cX6_row 43 = .ok (.invokevirtual 71, 3) := by decide +kernel
theorem dX6_row_46 : decode cX6_row 46 = .ok (.aload_n 0, 1) := by decide +kernel
theorem dX6_row_47 : decode cX6_row 47 = .ok (.iload_n 3, 1) := by decide +kernel
theorem dX6_row_48 : decode cX6_row 48 = .ok (.invokevirtual 75, 3) := by decide +kernel
theorem dX6_row_51 : decode cX6_row 51 = .ok (.ireturn, 1) := by decide +kernel
theorem dX6_set_0 : decode cX6_set 0 = .ok (.iload_n 1, 1) := by decide +kernel
theorem dX6_set_1 : decode cX6_set 1 = .ok (.invokestatic 58, 3) := by decide +kernel
theorem dX6_set_4 : decode cX6_set 4 = .ok (.ifCond .ne 6, 3) := by decide +kernel
theorem dX6_set_7 : decode cX6_set 7 = .ok (.ldc 66, 2) := by decide +kernel
theorem dX6_set_9 : decode cX6_set 9 = .ok (.ireturn, 1) := by decide +kernel
theorem dX6_set_10 : decode cX6_set 10 = .ok (.aload_n 0, 1) := by decide +kernel
theorem dX6_set_11 : decode cX6_set 11 = .ok (.iload_n 1, 1) := by decide +kernel
theorem dX6_set_12 : decode cX6_set 12 = .ok (.iload_n 2, 1) := by decide +kernel
theorem dX6_set_13 : decode cX6_set 13 = .ok (.iconst 1, 1) := by decide +kernel
theorem dX6_set_14 : decode cX6_set 14 = .ok (.invokevirtual 78, 3) := by decide +kernel
theorem dX6_set_17 : decode cX6_set 17 = .ok (.istore 4, 2) := by decide +kernel
theorem dX6_set_19 : decode cX6_set 19 = .ok (.iload 4, 2) := by decide +kernel
theorem dX6_set_21 : decode cX6_set 21 = .ok (.ifCond .eq 10, 3) := by decide +kernel
theorem dX6_set_24 : decode cX6_set 24 = .ok (.aload_n 0, 1) := by decide +kernel
theorem dX6_set_25 : decode cX6_set 25 = .ok (.iload 4, 2) := by decide +kernel
theorem dX6_set_27 : decode cX6_set 27 = .ok (.invokevirtual 67, 3) := by decide +kernel
theorem dX6_set_30 : decode cX6_set 30 = .ok (.ireturn, 1) := by decide +kernel
theorem dX6_set_31 : decode cX6_set 31 = .ok (.aload_n 0, 1) := by decide +kernel
theorem dX6_set_32 : decode cX6_set 32 = .ok (.aload_n 0, 1) := by decide +kernel
theorem dX6_set_33 : decode cX6_set 33 = .ok (.getfield 11, 3) := by decide +kernel
theorem dX6_set_36 : decode cX6_set 36 = .ok (.iload_n 1, 1) := by decide +kernel
theorem dX6_set_37 : decode cX6_set 37 = .ok (.aaload, 1) := by decide +kernel
theorem dX6_set_38 : decode cX6_set 38 = .ok (.iload_n 2, 1) := by decide +kernel
theorem dX6_set_39 : decode cX6_set 39 = .ok (.iload_n 3, 1) := by decide +kernel
theorem dX6_set_40 : decode cX6_set 40 = .ok (.invokevirtual 82, 3) := by decide +kernel
theorem dX6_set_43 : decode cX6_set 43 = .ok (.invokevirtual 75, 3) := by decide +kernel
theorem dX6_set_46 : decode cX6_set 46 = .ok (.ireturn, 1) := by decide +kernel
theorem dX6_copy_0 : decode cX6_copy 0 = .ok (.iload_n 1, 1) := by decide +kernel
theorem dX6_copy_1 : decode cX6_copy 1 = .ok (.invokestatic 58, 3) := by decide +kernel
theorem dX6_copy_4 : decode cX6_copy 4 = .ok (.ifCond .eq 10, 3) := by decide +kernel
theorem dX6_copy_7 : decode cX6_copy 7 = .ok (.iload_n 3, 1) := by decide +kernel
theorem dX6_copy_8 : decode cX6_copy 8 = .ok (.invokestatic 58, 3) := by decide +kernel
theorem dX6_copy_11 : decode cX6_copy 11 = .ok (.ifCond .ne 6, 3) := by decide +kernel
theorem dX6_copy_14 : decode cX6_copy 14 = .ok (.ldc 66, 2) := by decide +kernel
theorem dX6_copy_16 : decode cX6_copy 16 = .ok (.ireturn, 1) := by decide +kernel
theorem dX6_copy_17 : decode cX6_copy 17 = .ok (.aload_n 0, 1) := by decide +kernel
theorem dX6_copy_18 : decode cX6_copy 18 = .ok (.getfield 11, 3) := by decide +kernel
theorem dX6_copy_21 : decode cX6_copy 21 = .ok (.iload_n 1, 1) := by decide +kernel
theorem dX6_copy_22 : decode cX6_copy 22 = .ok (.aaload, 1) := by decide +kernel
theorem dX6_copy_23 : decode cX6_copy 23 = .ok (.astore 6, 2) := by decide +kernel
theorem dX6_copy_25 : decode cX6_copy 25 = .ok (.aload_n 0, 1) := by decide +kernel
theorem dX6_copy_26 : decode cX6_copy 26 = .ok (.getfield 11, 3) := by decide +kernel
theorem dX6_copy_29 : decode cX6_copy 29 = .ok (.iload_n 3, 1) := by decide +kernel
theorem dX6_copy_30 : decode cX6_copy 30 = .ok (.aaload, 1) := by decide +kernel
theorem dX6_copy_31 : decode cX6_copy 31 = .ok (.astore 7, 2) := by decide +kernel
theorem dX6_copy_33 : decode cX6_copy 33 = .ok (.aload 6, 2) := by decide +kernel
theorem dX6_copy_35 : decode cX6_copy 35 = .ok (.getfield 86, 3) := by decide +kernel
theorem dX6_copy_38 : decode cX6_copy 38 = .ok (.ifCond .ne 11, 3) := by decide +kernel
theorem dX6_copy_41 : decode cX6_copy 41 = .ok (.aload 7, 2) := by decide +kernel
theorem dX6_copy_43 : decode cX6_copy 43 = .ok (.getfield 86, 3) := by decide +kernel
theorem dX6_copy_46 : decode cX6_copy 46 = .ok (.ifCond .eq 9, 3) := by decide +kernel
theorem dX6_copy_49 : decode cX6_copy 49 = .ok (.aload_n 0, 1) := by decide +kernel
theorem dX6_copy_50 : decode cX6_copy 50 = .ok (.iconst 1, 1) := by decide +kernel
theorem dX6_copy_51 : decode cX6_copy 51 = .ok (.invokevirtual 67, 3) := by decide +kernel
theorem dX6_copy_54 : decode cX6_copy 54 = .ok (.ireturn, 1) := by decide +kernel
theorem dX6_copy_55 : decode cX6_copy 55 = .ok (.aload 6, 2) := by decide +kernel
theorem dX6_copy_57 : decode cX6_copy 57 = .ok (.getfield 90, 3) := by decide +kernel
theorem dX6_copy_60 : decode cX6_copy 60 = .ok (.aload 7, 2) := by decide +kernel
theorem dX6_copy_62 : decode cX6_copy 62 = .ok (.getfield 90, 3) := by decide +kernel
theorem dX6_copy_65 : decode cX6_copy 65 = .ok (.if_icmp .eq 9, 3) := by decide +kernel
theorem dX6_copy_68 : decode cX6_copy 68 = .ok (.aload_n 0, 1) := by decide +kernel
theorem dX6_copy_69 : decode cX6_copy 69 = .ok (.iconst 5, 1) := by decide +kernel
theorem dX6_copy_70 : decode cX6_copy 70 = .ok (.invokevirtual 67, 3) := by decide +kernel
theorem dX6_copy_73 : decode cX6_copy 73 = .ok (.ireturn, 1) := by decide +kernel
theorem dX6_copy_74 : decode cX6_copy 74 = .ok (.aload 6, 2) := by decide +kernel
theorem dX6_copy_76 : decode cX6_copy 76 = .ok (.iload_n 2, 1) := by decide +kernel
theorem dX6_copy_77 : decode cX6_copy 77 = .ok (.iload 5, 2) := by decide +kernel
theorem dX6_copy_79 : decode cX6_copy 79 = .ok (.invokevirtual 94, 3) := by decide +kernel
theorem dX6_copy_82 : decode cX6_copy 82 = .ok (.ifCond .eq 15, 3) := by decide +kernel
theorem dX6_copy_85 : decode cX6_copy 85 = .ok (.aload 7, 2) := by decide +kernel
theorem dX6_copy_87 : decode cX6_copy 87 = .ok (.iload 4, 2) := by decide +kernel
theorem dX6_copy_89 : decode cX6_copy 89 = .ok (.iload 5, 2) := by decide +kernel
theorem dX6_copy_91 : decode cX6_copy 91 = .ok (.invokevirtual 94, 3) := by decide +kernel
theorem dX6_copy_94 : decode cX6_copy 94 = .ok (.ifCond .ne 9, 3) := by decide +kernel
theorem dX6_copy_97 : decode cX6_copy 97 = .ok (.aload_n 0, 1) := by decide +kernel
theorem dX6_copy_98 : decode cX6_copy 98 = .ok (.iconst 2, 1) := by decide +kernel
theorem dX6_copy_99 : decode cX6_copy 99 = .ok (.invokevirtual 67, 3) := by decide +kernel
theorem dX6_copy_102 : decode cX6_copy 102 = .ok (.ireturn, 1) := by decide +kernel
theorem dX6_copy_103 : decode cX6_copy 103 = .ok (.aload 6, 2) := by decide +kernel
theorem dX6_copy_105 : decode cX6_copy 105 = .ok (.getfield 98, 3) := by decide +kernel
theorem dX6_copy_108 : decode cX6_copy 108 = .ok (.iload_n 2, 1) := by decide +kernel
theorem dX6_copy_109 : decode cX6_copy 109 = .ok (.aload 7, 2) := by decide +kernel
theorem dX6_copy_111 : decode cX6_copy 111 = .ok (.getfield 98, 3) := by decide +kernel
theorem dX6_copy_114 : decode cX6_copy 114 = .ok (.iload 4, 2) := by decide +kernel
theorem dX6_copy_116 : decode cX6_copy 116 = .ok (.iload 5, 2) := by decide +kernel
theorem dX6_copy_118 : decode cX6_copy 118 = .ok (.invokestatic 102, 3) := by decide +kernel
theorem dX6_copy_121 : decode cX6_copy 121 = .ok (.aload_n 0, 1) := by decide +kernel
theorem dX6_copy_122 : decode cX6_copy 122 = .ok (.iload 5, 2) := by decide +kernel
theorem dX6_copy_124 : decode cX6_copy 124 = .ok (.invokevirtual 75, 3) := by decide +kernel
theorem dX6_copy_127 : decode cX6_copy 127 = .ok (.ireturn, 1) := by decide +kernel
theorem dX6_drop_0 : decode cX6_drop 0 = .ok (.iload_n 1, 1) := by decide +kernel
theorem dX6_drop_1 : decode cX6_drop 1 = .ok (.invokestatic 58, 3) := by decide +kernel
theorem dX6_drop_4 : decode cX6_drop 4 = .ok (.ifCond .ne 6, 3) := by decide +kernel
theorem dX6_drop_7 : decode cX6_drop 7 = .ok (.ldc 66, 2) := by decide +kernel
theorem dX6_drop_9 : decode cX6_drop 9 = .ok (.ireturn, 1) := by decide +kernel
theorem dX6_drop_10 : decode cX6_drop 10 = .ok (.aload_n 0, 1) := by decide +kernel
theorem dX6_drop_11 : decode cX6_drop 11 = .ok (.getfield 11, 3) := by decide +kernel
theorem dX6_drop_14 : decode cX6_drop 14 = .ok (.iload_n 1, 1) := by decide +kernel
theorem dX6_drop_15 : decode cX6_drop 15 = .ok (.aaload, 1) := by decide +kernel
theorem dX6_drop_16 : decode cX6_drop 16 = .ok (.getfield 86, 3) := by decide +kernel
theorem dX6_drop_19 : decode cX6_drop 19 = .ok (.ifCond .eq 9, 3) := by decide +kernel
theorem dX6_drop_22 : decode cX6_drop 22 = .ok (.aload_n 0, 1) := by decide +kernel
theorem dX6_drop_23 : decode cX6_drop 23 = .ok (.iconst 1, 1) := by decide +kernel
theorem dX6_drop_24 : decode cX6_drop 24 = .ok (.invokevirtual 67, 3) := by decide +kernel
theorem dX6_drop_27 : decode cX6_drop 27 = .ok (.ireturn, 1) := by decide +kernel
theorem dX6_drop_28 : decode cX6_drop 28 = .ok (.aload_n 0, 1) := by decide +kernel
theorem dX6_drop_29 : decode cX6_drop 29 = .ok (.getfield 11, 3) := by decide +kernel
theorem dX6_drop_32 : decode cX6_drop 32 = .ok (.iload_n 1, 1) := by decide +kernel
theorem dX6_drop_33 : decode cX6_drop 33 = .ok (.aaload, 1) := by decide +kernel
theorem dX6_drop_34 : decode cX6_drop 34 = .ok (.iconst 1, 1) := by decide +kernel
theorem dX6_drop_35 : decode cX6_drop 35 = .ok (.putfield 86, 3) := by decide +kernel
theorem dX6_drop_38 : decode cX6_drop 38 = .ok (.aload_n 0, 1) := by decide +kernel
theorem dX6_drop_39 : decode cX6_drop 39 = .ok (.aload_n 0, 1) := by decide +kernel
theorem dX6_drop_40 : decode cX6_drop 40 = .ok (.getfield 11, 3) := by decide +kernel
theorem dX6_drop_43 : decode cX6_drop 43 = .ok (.iload_n 1, 1) := by decide +kernel
theorem dX6_drop_44 : decode cX6_drop 44 = .ok (.aaload, 1) := by decide +kernel
theorem dX6_drop_45 : decode cX6_drop 45 = .ok (.getfield 108, 3) := by decide +kernel
theorem dX6_drop_48 : decode cX6_drop 48 = .ok (.invokevirtual 75, 3) := by decide +kernel
theorem dX6_drop_51 : decode cX6_drop 51 = .ok (.ireturn, 1) := by decide +kernel
theorem dX6_feed_0 : decode cX6_feed 0 = .ok (.iload_n 1, 1) := by decide +kernel
theorem dX6_feed_1 : decode cX6_feed 1 = .ok (.iconst 0, 1) := by decide +kernel
theorem dX6_feed_2 : decode cX6_feed 2 = .ok (.sipush 255, 3) := by decide +kernel
theorem dX6_feed_5 : decode cX6_feed 5 = .ok (.invokestatic 62, 3) := by decide +kernel
theorem dX6_feed_8 : decode cX6_feed 8 = .ok (.ifCond .ne 6, 3) := by decide +kernel
theorem dX6_feed_11 : decode cX6_feed 11 = .ok (.ldc 66, 2) := by decide +kernel
theorem dX6_feed_13 : decode cX6_feed 13 = .ok (.ireturn, 1) := by decide +kernel
theorem dX6_feed_14 : decode cX6_feed 14 = .ok (.aload_n 0, 1) := by decide +kernel
theorem dX6_feed_15 : decode cX6_feed 15 = .ok (.getfield 18, 3) := by decide +kernel
theorem dX6_feed_18 : decode cX6_feed 18 = .ok (.iload_n 1, 1) := by decide +kernel
theorem dX6_feed_19 : decode cX6_feed 19 = .ok (.invokevirtual 111, 3) := by decide +kernel
theorem dX6_feed_22 : decode cX6_feed 22 = .ok (.ifCond .eq 13, 3) := by decide +kernel
theorem dX6_feed_25 : decode cX6_feed 25 = .ok (.aload_n 0, 1) := by decide +kernel
theorem dX6_feed_26 : decode cX6_feed 26 = .ok (.getfield 18, 3) := by decide +kernel
theorem dX6_feed_29 : decode cX6_feed 29 = .ok (.getfield 114, 3) := by decide +kernel
theorem dX6_feed_32 : decode cX6_feed 32 = .ok (.goto 5, 3) := by decide +kernel
theorem dX6_feed_35 : decode cX6_feed 35 = .ok (.ldc 115, 2) := by decide +kernel
theorem dX6_feed_37 : decode cX6_feed 37 = .ok (.ireturn, 1) := by decide +kernel
theorem dX6_basket_0 : decode cX6_basket 0 = .ok (.aload_n 0, 1) := by decide +kernel
theorem dX6_basket_1 : decode cX6_basket 1 = .ok (.getfield 18, 3) := by decide +kernel
theorem dX6_basket_4 : decode cX6_basket 4 = .ok (.aload_n 0, 1) := by decide +kernel
theorem dX6_basket_5 : decode cX6_basket 5 = .ok (.getfield 29, 3) := by decide +kernel
theorem dX6_basket_8 : decode cX6_basket 8 = .ok (.invokevirtual 116, 3) := by decide +kernel
theorem dX6_basket_11 : decode cX6_basket 11 = .ok (.istore_n 1, 1) := by decide +kernel
theorem dX6_basket_12 : decode cX6_basket 12 = .ok (.iload_n 1, 1) := by decide +kernel
theorem dX6_basket_13 : decode cX6_basket 13 = .ok (.ifCond .eq 19, 3) := by decide +kernel
theorem dX6_basket_16 : decode cX6_basket 16 = .ok (.aload_n 0, 1) := by decide +kernel
theorem dX6_basket_17 : decode cX6_basket 17 = .ok (.iload_n 1, 1) := by decide +kernel
theorem dX6_basket_18 : decode cX6_basket 18 = .ok (.putfield 120, 3) := by decide +kernel
theorem dX6_basket_21 : decode cX6_basket 21 = .ok (.ldc 123, 2) := by decide +kernel
theorem dX6_basket_23 : decode cX6_basket 23 = .ok (.aload_n 0, 1) := by decide +kernel
theorem dX6_basket_24 : decode cX6_basket 24 = .ok (.getfield 18, 3) := by decide +kernel
theorem dX6_basket_27 : decode cX6_basket 27 = .ok (.getfield 124, 3) := by decide +kernel
theorem dX6_basket_30 : decode cX6_basket 30 = .ok (.isub, 1) := by decide +kernel
theorem dX6_basket_31 : decode cX6_basket 31 = .ok (.ireturn, 1) := by decide +kernel
theorem dX6_basket_32 : decode cX6_basket 32 = .ok (.aload_n 0, 1) := by decide +kernel
theorem dX6_basket_33 : decode cX6_basket 33 = .ok (.getfield 25, 3) := by decide +kernel
theorem dX6_basket_36 : decode cX6_basket 36 = .ok (.aload_n 0, 1) := by decide +kernel
theorem dX6_basket_37 : decode cX6_basket 37 = .ok (.getfield 29, 3) := by decide +kernel
theorem dX6_basket_40 : decode cX6_basket 40 = .ok (.invokevirtual 127, 3) := by decide +kernel
theorem dX6_basket_43 : decode cX6_basket 43 = .ok (.aload_n 0, 1) := by decide +kernel
theorem dX6_basket_44 : decode cX6_basket 44 = .ok (.getfield 35, 3) := by decide +kernel
theorem dX6_basket_47 : decode cX6_basket 47 = .ok (.invokevirtual 131, 3) := by decide +kernel
theorem dX6_basket_50 : decode cX6_basket 50 = .ok (.aload_n 0, 1) := by decide +kernel
theorem dX6_basket_51 : decode cX6_basket 51 = .ok (.getfield 25, 3) := by decide +kernel
theorem dX6_basket_54 : decode cX6_basket 54 = .ok (.getfield 134, 3) := by decide +kernel
theorem dX6_basket_57 : decode cX6_basket 57 = .ok (.ireturn, 1) := by decide +kernel
theorem dX6_fault_0 : decode cX6_fault 0 = .ok (.aload_n 0, 1) := by decide +kernel
theorem dX6_fault_1 : decode cX6_fault 1 = .ok (.getfield 120, 3) := by decide +kernel
theorem dX6_fault_4 : decode cX6_fault 4 = .ok (.ireturn, 1) := by decide +kernel
theorem dX6_ticks_0 : decode cX6_ticks 0 = .ok (.aload_n 0, 1) := by decide +kernel
theorem dX6_ticks_1 : decode cX6_ticks 1 = .ok (.getfield 25, 3) := by decide +kernel
theorem dX6_ticks_4 : decode cX6_ticks 4 = .ok (.getfield 134, 3) := by decide +kernel
theorem dX6_ticks_7 : decode cX6_ticks 7 = .ok (.ifCond .ne 6, 3) := by decide +kernel
theorem dX6_ticks_10 : decode cX6_ticks 10 = .ok (.ldc 137, 2) := by decide +kernel
theorem dX6_ticks_12 : decode cX6_ticks 12 = .ok (.ireturn, 1) := by decide +kernel
theorem dX6_ticks_13 : decode cX6_ticks 13 = .ok (.iload_n 1, 1) := by decide +kernel
theorem dX6_ticks_14 : decode cX6_ticks 14 = .ok (.iconst 1, 1) := by decide +kernel
theorem dX6_ticks_15 : decode cX6_ticks 15 = .ok (.bipush 24, 2) := by decide +kernel
theorem dX6_ticks_17 : decode cX6_ticks 17 = .ok (.invokestatic 62, 3) := by decide +kernel
theorem dX6_ticks_20 : decode cX6_ticks 20 = .ok (.ifCond .ne 6, 3) := by decide +kernel
theorem dX6_ticks_23 : decode cX6_ticks 23 = .ok (.ldc 66, 2) := by decide +kernel
theorem dX6_ticks_25 : decode cX6_ticks 25 = .ok (.ireturn, 1) := by decide +kernel
theorem dX6_ticks_26 : decode cX6_ticks 26 = .ok (.aload_n 0, 1) := by decide +kernel
theorem dX6_ticks_27 : decode cX6_ticks 27 = .ok (.getfield 25, 3) := by decide +kernel
theorem dX6_ticks_30 : decode cX6_ticks 30 = .ok (.getfield 138, 3) := by decide +kernel
theorem dX6_ticks_33 : decode cX6_ticks 33 = .ok (.iload_n 1, 1) := by decide +kernel
theorem dX6_ticks_34 : decode cX6_ticks 34 = .ok (.iadd, 1) := by decide +kernel
theorem dX6_ticks_35 : decode cX6_ticks 35 = .ok (.sipush 9999, 3) := by decide +kernel
theorem dX6_ticks_38 : decode cX6_ticks 38 = .ok (.if_icmp .le 6, 3) := by decide +kernel
theorem dX6_ticks_41 : decode cX6_ticks 41 = .ok (.ldc 115, 2) := by decide +kernel
theorem dX6_ticks_43 : decode cX6_ticks 43 = .ok (.ireturn, 1) := by decide +kernel
theorem dX6_ticks_44 : decode cX6_ticks 44 = .ok (.iconst 0, 1) := by decide +kernel
theorem dX6_ticks_45 : decode cX6_ticks 45 = .ok (.istore_n 2, 1) := by decide +kernel
theorem dX6_ticks_46 : decode cX6_ticks 46 = .ok (.iload_n 2, 1) := by decide +kernel
theorem dX6_ticks_47 : decode cX6_ticks 47 = .ok (.iload_n 1, 1) := by decide +kernel
theorem dX6_ticks_48 : decode cX6_ticks 48 = .ok (.if_icmp .ge 28, 3) := by decide +kernel
theorem dX6_ticks_51 : decode cX6_ticks 51 = .ok (.aload_n 0, 1) := by decide +kernel
theorem dX6_ticks_52 : decode cX6_ticks 52 = .ok (.getfield 35, 3) := by decide +kernel
theorem dX6_ticks_55 : decode cX6_ticks 55 = .ok (.aload_n 0, 1) := by decide +kernel
theorem dX6_ticks_56 : decode cX6_ticks 56 = .ok (.getfield 25, 3) := by decide +kernel
theorem dX6_ticks_59 : decode cX6_ticks 59 = .ok (.invokevirtual 141, 3) := by decide +kernel
theorem dX6_ticks_62 : decode cX6_ticks 62 = .ok (.aload_n 0, 1) := by decide +kernel
theorem dX6_ticks_63 : decode cX6_ticks 63 = .ok (.getfield 25, 3) := by decide +kernel
theorem dX6_ticks_66 : decode cX6_ticks 66 = .ok (.invokevirtual 144, 3) := by decide +kernel
theorem dX6_ticks_69 : decode cX6_ticks 69 = .ok (.pop, 1) := by decide +kernel
theorem dX6_ticks_70 : decode cX6_ticks 70 = .ok (.iinc 2 1, 3) := by decide +kernel
theorem dX6_ticks_73 : decode cX6_ticks 73 = .ok (.goto (-27), 3) := by decide +kernel
theorem dX6_ticks_76 : decode cX6_ticks 76 = .ok (.aload_n 0, 1) := by decide +kernel
theorem dX6_ticks_77 : decode cX6_ticks 77 = .ok (.getfield 25, 3) := by decide +kernel
theorem dX6_ticks_80 : decode cX6_ticks 80 = .ok (.getfield 148, 3) := by decide +kernel
theorem dX6_ticks_83 : decode cX6_ticks 83 = .ok (.ireturn, 1) := by decide +kernel
theorem dX6_key_0 : decode cX6_key 0 = .ok (.aload_n 0, 1) := by decide +kernel
theorem dX6_key_1 : decode cX6_key 1 = .ok (.getfield 25, 3) := by decide +kernel
theorem dX6_key_4 : decode cX6_key 4 = .ok (.iload_n 1, 1) := by decide +kernel
theorem dX6_key_5 : decode cX6_key 5 = .ok (.invokevirtual 151, 3) := by decide +kernel
theorem dX6_key_8 : decode cX6_key 8 = .ok (.ifCond .ne 6, 3) := by decide +kernel
theorem dX6_key_11 : decode cX6_key 11 = .ok (.ldc 66, 2) := by decide +kernel
theorem dX6_key_13 : decode cX6_key 13 = .ok (.ireturn, 1) := by decide +kernel
theorem dX6_key_14 : decode cX6_key 14 = .ok (.aload_n 0, 1) := by decide +kernel
theorem dX6_key_15 : decode cX6_key 15 = .ok (.getfield 25, 3) := by decide +kernel
theorem dX6_key_18 : decode cX6_key 18 = .ok (.iload_n 1, 1) := by decide +kernel
theorem dX6_key_19 : decode cX6_key 19 = .ok (.invokevirtual 153, 3) := by decide +kernel
theorem dX6_key_22 : decode cX6_key 22 = .ok (.ifCond .ne 6, 3) := by decide +kernel
theorem dX6_key_25 : decode cX6_key 25 = .ok (.ldc 137, 2) := by decide +kernel
theorem dX6_key_27 : decode cX6_key 27 = .ok (.ireturn, 1) := by decide +kernel
theorem dX6_key_28 : decode cX6_key 28 = .ok (.aload_n 0, 1) := by decide +kernel
theorem dX6_key_29 : decode cX6_key 29 = .ok (.getfield 35, 3) := by decide +kernel
theorem dX6_key_32 : decode cX6_key 32 = .ok (.aload_n 0, 1) := by decide +kernel
theorem dX6_key_33 : decode cX6_key 33 = .ok (.getfield 25, 3) := by decide +kernel
theorem dX6_key_36 : decode cX6_key 36 = .ok (.invokevirtual 141, 3) := by decide +kernel
theorem dX6_key_39 : decode cX6_key 39 = .ok (.aload_n 0, 1) := by decide +kernel
theorem dX6_key_40 : decode cX6_key 40 = .ok (.getfield 25, 3) := by decide +kernel
theorem dX6_key_43 : decode cX6_key 43 = .ok (.iload_n 1, 1) := by decide +kernel
theorem dX6_key_44 : decode cX6_key 44 = .ok (.invokevirtual 156, 3) := by decide +kernel
theorem dX6_key_47 : decode cX6_key 47 = .ok (.aload_n 0, 1) := by decide +kernel
theorem dX6_key_48 : decode cX6_key 48 = .ok (.getfield 25, 3) := by decide +kernel
theorem dX6_key_51 : decode cX6_key 51 = .ok (.getfield 160, 3) := by decide +kernel
theorem dX6_key_54 : decode cX6_key 54 = .ok (.ireturn, 1) := by decide +kernel
theorem dX6_free_0 : decode cX6_free 0 = .ok (.aload_n 0, 1) := by decide +kernel
theorem dX6_free_1 : decode cX6_free 1 = .ok (.getfield 25, 3) := by decide +kernel
theorem dX6_free_4 : decode cX6_free 4 = .ok (.getfield 148, 3) := by decide +kernel
theorem dX6_free_7 : decode cX6_free 7 = .ok (.ifCond .ne 6, 3) := by decide +kernel
theorem dX6_free_10 : decode cX6_free 10 = .ok (.ldc 137, 2) := by decide +kernel
theorem dX6_free_12 : decode cX6_free 12 = .ok (.ireturn, 1) := by decide +kernel
theorem dX6_free_13 : decode cX6_free 13 = .ok (.aload_n 0, 1) := by decide +kernel
theorem dX6_free_14 : decode cX6_free 14 = .ok (.getfield 25, 3) := by decide +kernel
theorem dX6_free_17 : decode cX6_free 17 = .ok (.getfield 148, 3) := by decide +kernel
theorem dX6_free_20 : decode cX6_free 20 = .ok (.invokestatic 163, 3) := by decide +kernel
theorem dX6_free_23 : decode cX6_free 23 = .ok (.istore_n 1, 1) := by decide +kernel
theorem dX6_free_24 : decode cX6_free 24 = .ok (.aload_n 0, 1) := by decide +kernel
theorem dX6_free_25 : decode cX6_free 25 = .ok (.getfield 35, 3) := by decide +kernel
theorem dX6_free_28 : decode cX6_free 28 = .ok (.aload_n 0, 1) := by decide +kernel
theorem dX6_free_29 : decode cX6_free 29 = .ok (.getfield 25, 3) := by decide +kernel
theorem dX6_free_32 : decode cX6_free 32 = .ok (.invokevirtual 141, 3) := by decide +kernel
theorem dX6_free_35 : decode cX6_free 35 = .ok (.aload_n 0, 1) := by decide +kernel
theorem dX6_free_36 : decode cX6_free 36 = .ok (.getfield 25, 3) := by decide +kernel
theorem dX6_free_39 : decode cX6_free 39 = .ok (.aload_n 0, 1) := by decide +kernel
theorem dX6_free_40 : decode cX6_free 40 = .ok (.getfield 25, 3) := by decide +kernel
theorem dX6_free_43 : decode cX6_free 43 = .ok (.getfield 148, 3) := by decide +kernel
theorem dX6_free_46 : decode cX6_free 46 = .ok (.invokevirtual 168, 3) := by decide +kernel
theorem dX6_free_49 : decode cX6_free 49 = .ok (.iload_n 1, 1) := by decide +kernel
theorem dX6_free_50 : decode cX6_free 50 = .ok (.ireturn, 1) := by decide +kernel
theorem dX6_back_0 : decode cX6_back 0 = .ok (.aload_n 0, 1) := by decide +kernel
theorem dX6_back_1 : decode cX6_back 1 = .ok (.getfield 25, 3) := by decide +kernel
theorem dX6_back_4 : decode cX6_back 4 = .ok (.getfield 134, 3) := by decide +kernel
theorem dX6_back_7 : decode cX6_back 7 = .ok (.ifCond .ne 6, 3) := by decide +kernel
theorem dX6_back_10 : decode cX6_back 10 = .ok (.ldc 137, 2) := by decide +kernel
theorem dX6_back_12 : decode cX6_back 12 = .ok (.ireturn, 1) := by decide +kernel
theorem dX6_back_13 : decode cX6_back 13 = .ok (.aload_n 0, 1) := by decide +kernel
theorem dX6_back_14 : decode cX6_back 14 = .ok (.getfield 25, 3) := by decide +kernel
theorem dX6_back_17 : decode cX6_back 17 = .ok (.getfield 171, 3) := by decide +kernel
theorem dX6_back_20 : decode cX6_back 20 = .ok (.istore_n 1, 1) := by decide +kernel
theorem dX6_back_21 : decode cX6_back 21 = .ok (.aload_n 0, 1) := by decide +kernel
theorem dX6_back_22 : decode cX6_back 22 = .ok (.getfield 35, 3) := by decide +kernel
theorem dX6_back_25 : decode cX6_back 25 = .ok (.aload_n 0, 1) := by decide +kernel
theorem dX6_back_26 : decode cX6_back 26 = .ok (.getfield 25, 3) := by decide +kernel
theorem dX6_back_29 : decode cX6_back 29 = .ok (.invokevirtual 141, 3) := by decide +kernel
theorem dX6_back_32 : decode cX6_back 32 = .ok (.aload_n 0, 1) := by decide +kernel
theorem dX6_back_33 : decode cX6_back 33 = .ok (.getfield 25, 3) := by decide +kernel
theorem dX6_back_36 : decode cX6_back 36 = .ok (.invokevirtual 174, 3) := by decide +kernel
theorem dX6_back_39 : decode cX6_back 39 = .ok (.iload_n 1, 1) := by decide +kernel
theorem dX6_back_40 : decode cX6_back 40 = .ok (.ireturn, 1) := by decide +kernel
theorem dX6_swap_0 : decode cX6_swap 0 = .ok (.aload_n 0, 1) := by decide +kernel
theorem dX6_swap_1 : decode cX6_swap 1 = .ok (.getfield 25, 3) := by decide +kernel
theorem dX6_swap_4 : decode cX6_swap 4 = .ok (.iload_n 1, 1) := by decide +kernel
theorem dX6_swap_5 : decode cX6_swap 5 = .ok (.invokevirtual 151, 3) := by decide +kernel
theorem dX6_swap_8 : decode cX6_swap 8 = .ok (.ifCond .eq 19, 3) := by decide +kernel
theorem dX6_swap_11 : decode cX6_swap 11 = .ok (.aload_n 0, 1) := by decide +kernel
theorem dX6_swap_12 : decode cX6_swap 12 = .ok (.getfield 25, 3) := by decide +kernel
theorem dX6_swap_15 : decode cX6_swap 15 = .ok (.iload_n 2, 1) := by decide +kernel
theorem dX6_swap_16 : decode cX6_swap 16 = .ok (.invokevirtual 151, 3) := by decide +kernel
theorem dX6_swap_19 : decode cX6_swap 19 = .ok (.ifCond .eq 8, 3) := by decide +kernel
theorem dX6_swap_22 : decode cX6_swap 22 = .ok (.iload_n 1, 1) := by decide +kernel
theorem dX6_swap_23 : decode cX6_swap 23 = .ok (.iload_n 2, 1) := by decide +kernel
theorem dX6_swap_24 : decode cX6_swap 24 = .ok (.if_icmp .ne 6, 3) := by decide +kernel
theorem dX6_swap_27 : decode cX6_swap 27 = .ok (.ldc 66, 2) := by decide +kernel
theorem dX6_swap_29 : decode cX6_swap 29 = .ok (.ireturn, 1) := by decide +kernel
theorem dX6_swap_30 : decode cX6_swap 30 = .ok (.aload_n 0, 1) := by decide +kernel
theorem dX6_swap_31 : decode cX6_swap 31 = .ok (.getfield 35, 3) := by decide +kernel
theorem dX6_swap_34 : decode cX6_swap 34 = .ok (.aload_n 0, 1) := by decide +kernel
theorem dX6_swap_35 : decode cX6_swap 35 = .ok (.getfield 25, 3) := by decide +kernel
theorem dX6_swap_38 : decode cX6_swap 38 = .ok (.invokevirtual 141, 3) := by decide +kernel
theorem dX6_swap_41 : decode cX6_swap 41 = .ok (.aload_n 0, 1) := by decide +kernel
theorem dX6_swap_42 : decode cX6_swap 42 = .ok (.getfield 25, 3) := by decide +kernel
theorem dX6_swap_45 : decode cX6_swap 45 = .ok (.iload_n 1, 1) := by decide +kernel
theorem dX6_swap_46 : decode cX6_swap 46 = .ok (.iload_n 2, 1) := by decide +kernel
theorem dX6_swap_47 : decode cX6_swap 47 = .ok (.invokevirtual 177, 3) := by decide +kernel
theorem dX6_swap_50 : decode cX6_swap 50 = .ok (.aload_n 0, 1) := by decide +kernel
theorem dX6_swap_51 : decode cX6_swap 51 = .ok (.getfield 25, 3) := by decide +kernel
theorem dX6_swap_54 : decode cX6_swap 54 = .ok (.getfield 180, 3) := by decide +kernel
theorem dX6_swap_57 : decode cX6_swap 57 = .ok (.iload_n 1, 1) := by decide +kernel
theorem dX6_swap_58 : decode cX6_swap 58 = .ok (.iaload, 1) := by decide +kernel
theorem dX6_swap_59 : decode cX6_swap 59 = .ok (.ireturn, 1) := by decide +kernel
theorem dX6_undo_0 : decode cX6_undo 0 = .ok (.aload_n 0, 1) := by decide +kernel
theorem dX6_undo_1 : decode cX6_undo 1 = .ok (.getfield 35, 3) := by decide +kernel
theorem dX6_undo_4 : decode cX6_undo 4 = .ok (.getfield 183, 3) := by decide +kernel
theorem dX6_undo_7 : decode cX6_undo 7 = .ok (.ifCond .ne 6, 3) := by decide +kernel
theorem dX6_undo_10 : decode cX6_undo 10 = .ok (.ldc 137, 2) := by decide +kernel
theorem dX6_undo_12 : decode cX6_undo 12 = .ok (.ireturn, 1) := by decide +kernel
theorem dX6_undo_13 : decode cX6_undo 13 = .ok (.aload_n 0, 1) := by decide +kernel
theorem dX6_undo_14 : decode cX6_undo 14 = .ok (.getfield 35, 3) := by decide +kernel
theorem dX6_undo_17 : decode cX6_undo 17 = .ok (.aload_n 0, 1) := by decide +kernel
theorem dX6_undo_18 : decode cX6_undo 18 = .ok (.getfield 25, 3) := by decide +kernel
theorem dX6_undo_21 : decode cX6_undo 21 = .ok (.invokevirtual 186, 3) := by decide +kernel
theorem dX6_undo_24 : decode cX6_undo 24 = .ok (.aload_n 0, 1) := by decide +kernel
theorem dX6_undo_25 : decode cX6_undo 25 = .ok (.getfield 35, 3) := by decide +kernel
theorem dX6_undo_28 : decode cX6_undo 28 = .ok (.getfield 183, 3) := by decide +kernel
theorem dX6_undo_31 : decode cX6_undo 31 = .ok (.ireturn, 1) := by decide +kernel
theorem dX6_bar_0 : decode cX6_bar 0 = .ok (.aload_n 0, 1) := by decide +kernel
theorem dX6_bar_1 : decode cX6_bar 1 = .ok (.getfield 25, 3) := by decide +kernel
theorem dX6_bar_4 : decode cX6_bar 4 = .ok (.iload_n 1, 1) := by decide +kernel
theorem dX6_bar_5 : decode cX6_bar 5 = .ok (.invokevirtual 151, 3) := by decide +kernel
theorem dX6_bar_8 : decode cX6_bar 8 = .ok (.ifCond .ne 6, 3) := by decide +kernel
theorem dX6_bar_11 : decode cX6_bar 11 = .ok (.ldc 66, 2) := by decide +kernel
theorem dX6_bar_13 : decode cX6_bar 13 = .ok (.ireturn, 1) := by decide +kernel
theorem dX6_bar_14 : decode cX6_bar 14 = .ok (.iload_n 2, 1) := by decide +kernel
theorem dX6_bar_15 : decode cX6_bar 15 = .ok (.tableswitch 120 0 5 #[37, 47, 57, 67, 93, 110], 37) := by decide +kernel
theorem dX6_bar_52 : decode cX6_bar 52 = .ok (.aload_n 0, 1) := by decide +kernel
theorem dX6_bar_53 : decode cX6_bar 53 = .ok (.getfield 25, 3) := by decide +kernel
theorem dX6_bar_56 : decode cX6_bar 56 = .ok (.getfield 189, 3) := by decide +kernel
theorem dX6_bar_59 : decode cX6_bar 59 = .ok (.iload_n 1, 1) := by decide +kernel
theorem dX6_bar_60 : decode cX6_bar 60 = .ok (.iaload, 1) := by decide +kernel
theorem dX6_bar_61 : decode cX6_bar 61 = .ok (.ireturn, 1) := by decide +kernel
theorem dX6_bar_62 : decode cX6_bar 62 = .ok (.aload_n 0, 1) := by decide +kernel
theorem dX6_bar_63 : decode cX6_bar 63 = .ok (.getfield 25, 3) := by decide +kernel
theorem dX6_bar_66 : decode cX6_bar 66 = .ok (.getfield 180, 3) := by decide +kernel
theorem dX6_bar_69 : decode cX6_bar 69 = .ok (.iload_n 1, 1) := by decide +kernel
theorem dX6_bar_70 : decode cX6_bar 70 = .ok (.iaload, 1) := by decide +kernel
theorem dX6_bar_71 : decode cX6_bar 71 = .ok (.ireturn, 1) := by decide +kernel
theorem dX6_bar_72 : decode cX6_bar 72 = .ok (.aload_n 0, 1) := by decide +kernel
theorem dX6_bar_73 : decode cX6_bar 73 = .ok (.getfield 25, 3) := by decide +kernel
theorem dX6_bar_76 : decode cX6_bar 76 = .ok (.getfield 192, 3) := by decide +kernel
theorem dX6_bar_79 : decode cX6_bar 79 = .ok (.iload_n 1, 1) := by decide +kernel
theorem dX6_bar_80 : decode cX6_bar 80 = .ok (.iaload, 1) := by decide +kernel
theorem dX6_bar_81 : decode cX6_bar 81 = .ok (.ireturn, 1) := by decide +kernel
theorem dX6_bar_82 : decode cX6_bar 82 = .ok (.aload_n 0, 1) := by decide +kernel
theorem dX6_bar_83 : decode cX6_bar 83 = .ok (.getfield 25, 3) := by decide +kernel
theorem dX6_bar_86 : decode cX6_bar 86 = .ok (.iload_n 1, 1) := by decide +kernel
theorem dX6_bar_87 : decode cX6_bar 87 = .ok (.invokevirtual 195, 3) := by decide +kernel
theorem dX6_bar_90 : decode cX6_bar 90 = .ok (.ifCond .eq 15, 3) := by decide +kernel
theorem dX6_bar_93 : decode cX6_bar 93 = .ok (.aload_n 0, 1) := by decide +kernel
theorem dX6_bar_94 : decode cX6_bar 94 = .ok (.getfield 25, 3) := by decide +kernel
theorem dX6_bar_97 : decode cX6_bar 97 = .ok (.getfield 198, 3) := by decide +kernel
theorem dX6_bar_100 : decode cX6_bar 100 = .ok (.iload_n 1, 1) := by decide +kernel
theorem dX6_bar_101 : decode cX6_bar 101 = .ok (.iaload, 1) := by decide +kernel
theorem dX6_bar_102 : decode cX6_bar 102 = .ok (.goto 5, 3) := by decide +kernel
theorem dX6_bar_105 : decode cX6_bar 105 = .ok (.ldc 201, 2) := by decide +kernel
theorem dX6_bar_107 : decode cX6_bar 107 = .ok (.ireturn, 1) := by decide +kernel
theorem dX6_bar_108 : decode cX6_bar 108 = .ok (.aload_n 0, 1) := by decide +kernel
theorem dX6_bar_109 : decode cX6_bar 109 = .ok (.getfield 25, 3) := by decide +kernel
theorem dX6_bar_112 : decode cX6_bar 112 = .ok (.iload_n 1, 1) := by decide +kernel
theorem dX6_bar_113 : decode cX6_bar 113 = .ok (.invokevirtual 202, 3) := by decide +kernel
theorem dX6_bar_116 : decode cX6_bar 116 = .ok (.ifCond .eq 7, 3) := by decide +kernel
theorem dX6_bar_119 : decode cX6_bar 119 = .ok (.iconst 1, 1) := by decide +kernel
theorem dX6_bar_120 : decode cX6_bar 120 = .ok (.goto 4, 3) := by decide +kernel
theorem dX6_bar_123 : decode cX6_bar 123 = .ok (.iconst 0, 1) := by decide +kernel
theorem dX6_bar_124 : decode cX6_bar 124 = .ok (.ireturn, 1) := by decide +kernel
theorem dX6_bar_125 : decode cX6_bar 125 = .ok (.aload_n 0, 1) := by decide +kernel
theorem dX6_bar_126 : decode cX6_bar 126 = .ok (.getfield 25, 3) := by decide +kernel
theorem dX6_bar_129 : decode cX6_bar 129 = .ok (.getfield 205, 3) := by decide +kernel
theorem dX6_bar_132 : decode cX6_bar 132 = .ok (.iload_n 1, 1) := by decide +kernel
theorem dX6_bar_133 : decode cX6_bar 133 = .ok (.iaload, 1) := by decide +kernel
theorem dX6_bar_134 : decode cX6_bar 134 = .ok (.ireturn, 1) := by decide +kernel
theorem dX6_bar_135 : decode cX6_bar 135 = .ok (.ldc 66, 2) := by decide +kernel
theorem dX6_bar_137 : decode cX6_bar 137 = .ok (.ireturn, 1) := by decide +kernel
theorem dX6_paper_0 : decode cX6_paper 0 = .ok (.iload_n 1, 1) := by decide +kernel
theorem dX6_paper_1 : decode cX6_paper 1 = .ok (.iconst 0, 1) := by decide +kernel
theorem dX6_paper_2 : decode cX6_paper 2 = .ok (.bipush 19, 2) := by decide +kernel
theorem dX6_paper_4 : decode cX6_paper 4 = .ok (.invokestatic 62, 3) := by decide +kernel
theorem dX6_paper_7 : decode cX6_paper 7 = .ok (.ifCond .ne 6, 3) := by decide +kernel
theorem dX6_paper_10 : decode cX6_paper 10 = .ok (.ldc 66, 2) := by decide +kernel
theorem dX6_paper_12 : decode cX6_paper 12 = .ok (.ireturn, 1) := by decide +kernel
theorem dX6_paper_13 : decode cX6_paper 13 = .ok (.aload_n 0, 1) := by decide +kernel
theorem dX6_paper_14 : decode cX6_paper 14 = .ok (.getfield 25, 3) := by decide +kernel
theorem dX6_paper_17 : decode cX6_paper 17 = .ok (.getfield 208, 3) := by decide +kernel
theorem dX6_paper_20 : decode cX6_paper 20 = .ok (.iload_n 1, 1) := by decide +kernel
theorem dX6_paper_21 : decode cX6_paper 21 = .ok (.iaload, 1) := by decide +kernel
theorem dX6_paper_22 : decode cX6_paper 22 = .ok (.istore_n 2, 1) := by decide +kernel
theorem dX6_paper_23 : decode cX6_paper 23 = .ok (.iload_n 2, 1) := by decide +kernel
theorem dX6_paper_24 : decode cX6_paper 24 = .ok (.ifCond .ne 8, 3) := by decide +kernel
theorem dX6_paper_27 : decode cX6_paper 27 = .ok (.ldc 201, 2) := by decide +kernel
theorem dX6_paper_29 : decode cX6_paper 29 = .ok (.goto 6, 3) := by decide +kernel
theorem dX6_paper_32 : decode cX6_paper 32 = .ok (.iload_n 2, 1) := by decide +kernel
theorem dX6_paper_33 : decode cX6_paper 33 = .ok (.iconst 1, 1) := by decide +kernel
theorem dX6_paper_34 : decode cX6_paper 34 = .ok (.isub, 1) := by decide +kernel
theorem dX6_paper_35 : decode cX6_paper 35 = .ok (.ireturn, 1) := by decide +kernel
theorem dX6_height_0 : decode cX6_height 0 = .ok (.aload_n 0, 1) := by decide +kernel
theorem dX6_height_1 : decode cX6_height 1 = .ok (.getfield 25, 3) := by decide +kernel
theorem dX6_height_4 : decode cX6_height 4 = .ok (.iload_n 1, 1) := by decide +kernel
theorem dX6_height_5 : decode cX6_height 5 = .ok (.invokevirtual 151, 3) := by decide +kernel
theorem dX6_height_8 : decode cX6_height 8 = .ok (.ifCond .eq 13, 3) := by decide +kernel
theorem dX6_height_11 : decode cX6_height 11 = .ok (.iload_n 2, 1) := by decide +kernel
theorem dX6_height_12 : decode cX6_height 12 = .ok (.iconst 0, 1) := by decide +kernel
theorem dX6_height_13 : decode cX6_height 13 = .ok (.bipush 60, 2) := by decide +kernel
theorem dX6_height_15 : decode cX6_height 15 = .ok (.invokestatic 62, 3) := by decide +kernel
theorem dX6_height_18 : decode cX6_height 18 = .ok (.ifCond .ne 6, 3) := by decide +kernel
theorem dX6_height_21 : decode cX6_height 21 = .ok (.ldc 66, 2) := by decide +kernel
theorem dX6_height_23 : decode cX6_height 23 = .ok (.ireturn, 1) := by decide +kernel
theorem dX6_height_24 : decode cX6_height 24 = .ok (.aload_n 0, 1) := by decide +kernel
theorem dX6_height_25 : decode cX6_height 25 = .ok (.getfield 42, 3) := by decide +kernel
theorem dX6_height_28 : decode cX6_height 28 = .ok (.aload_n 0, 1) := by decide +kernel
theorem dX6_height_29 : decode cX6_height 29 = .ok (.getfield 25, 3) := by decide +kernel
theorem dX6_height_32 : decode cX6_height 32 = .ok (.iload_n 2, 1) := by decide +kernel
theorem dX6_height_33 : decode cX6_height 33 = .ok (.invokevirtual 211, 3) := by decide +kernel
theorem dX6_height_36 : decode cX6_height 36 = .ok (.getfield 192, 3) := by decide +kernel
theorem dX6_height_39 : decode cX6_height 39 = .ok (.iload_n 1, 1) := by decide +kernel
theorem dX6_height_40 : decode cX6_height 40 = .ok (.iaload, 1) := by decide +kernel
theorem dX6_height_41 : decode cX6_height 41 = .ok (.ireturn, 1) := by decide +kernel
theorem dX6_later_0 : decode cX6_later 0 = .ok (.aload_n 0, 1) := by decide +kernel
theorem dX6_later_1 : decode cX6_later 1 = .ok (.getfield 25, 3) := by decide +kernel
theorem dX6_later_4 : decode cX6_later 4 = .ok (.getfield 134, 3) := by decide +kernel
theorem dX6_later_7 : decode cX6_later 7 = .ok (.ifCond .ne 6, 3) := by decide +kernel
theorem dX6_later_10 : decode cX6_later 10 = .ok (.ldc 137, 2) := by decide +kernel
theorem dX6_later_12 : decode cX6_later 12 = .ok (.ireturn, 1) := by decide +kernel
theorem dX6_later_13 : decode cX6_later 13 = .ok (.iload_n 1, 1) := by decide +kernel
theorem dX6_later_14 : decode cX6_later 14 = .ok (.iconst 0, 1) := by decide +kernel
theorem dX6_later_15 : decode cX6_later 15 = .ok (.bipush 60, 2) := by decide +kernel
theorem dX6_later_17 : decode cX6_later 17 = .ok (.invokestatic 62, 3) := by decide +kernel
theorem dX6_later_20 : decode cX6_later 20 = .ok (.ifCond .eq 12, 3) := by decide +kernel
theorem dX6_later_23 : decode cX6_later 23 = .ok (.iload_n 2, 1) := by decide +kernel
theorem dX6_later_24 : decode cX6_later 24 = .ok (.iconst 0, 1) := by decide +kernel
theorem dX6_later_25 : decode cX6_later 25 = .ok (.iconst 2, 1) := by decide +kernel
theorem dX6_later_26 : decode cX6_later 26 = .ok (.invokestatic 62, 3) := by decide +kernel
theorem dX6_later_29 : decode cX6_later 29 = .ok (.ifCond .ne 6, 3) := by decide +kernel
theorem dX6_later_32 : decode cX6_later 32 = .ok (.ldc 66, 2) := by decide +kernel
theorem dX6_later_34 : decode cX6_later 34 = .ok (.ireturn, 1) := by decide +kernel
theorem dX6_later_35 : decode cX6_later 35 = .ok (.aload_n 0, 1) := by decide +kernel
theorem dX6_later_36 : decode cX6_later 36 = .ok (.getfield 42, 3) := by decide +kernel
theorem dX6_later_39 : decode cX6_later 39 = .ok (.aload_n 0, 1) := by decide +kernel
theorem dX6_later_40 : decode cX6_later 40 = .ok (.getfield 25, 3) := by decide +kernel
theorem dX6_later_43 : decode cX6_later 43 = .ok (.iload_n 1, 1) := by decide +kernel
theorem dX6_later_44 : decode cX6_later 44 = .ok (.invokevirtual 211, 3) := by decide +kernel
theorem dX6_later_47 : decode cX6_later 47 = .ok (.astore_n 3, 1) := by decide +kernel
theorem dX6_later_48 : decode cX6_later 48 = .ok (.iload_n 2, 1) := by decide +kernel
theorem dX6_later_49 : decode cX6_later 49 = .ok (.ifCond .ne 8, 3) := by decide +kernel
theorem dX6_later_52 : decode cX6_later 52 = .ok (.aload_n 3, 1) := by decide +kernel
theorem dX6_later_53 : decode cX6_later 53 = .ok (.getfield 148, 3) := by decide +kernel
theorem dX6_later_56 : decode cX6_later 56 = .ok (.ireturn, 1) := by decide +kernel
theorem dX6_later_57 : decode cX6_later 57 = .ok (.iload_n 2, 1) := by decide +kernel
theorem dX6_later_58 : decode cX6_later 58 = .ok (.iconst 1, 1) := by decide +kernel
theorem dX6_later_59 : decode cX6_later 59 = .ok (.if_icmp .ne 10, 3) := by decide +kernel
theorem dX6_later_62 : decode cX6_later 62 = .ok (.aload_n 3, 1) := by decide +kernel
theorem dX6_later_63 : decode cX6_later 63 = .ok (.getfield 160, 3) := by decide +kernel
theorem dX6_later_66 : decode cX6_later 66 = .ok (.goto 7, 3) := by decide +kernel
theorem dX6_later_69 : decode cX6_later 69 = .ok (.aload_n 3, 1) := by decide +kernel
theorem dX6_later_70 : decode cX6_later 70 = .ok (.getfield 171, 3) := by decide +kernel
theorem dX6_later_73 : decode cX6_later 73 = .ok (.ireturn, 1) := by decide +kernel
theorem dX6_jam_0 : decode cX6_jam 0 = .ok (.aload_n 0, 1) := by decide +kernel
theorem dX6_jam_1 : decode cX6_jam 1 = .ok (.getfield 25, 3) := by decide +kernel
theorem dX6_jam_4 : decode cX6_jam 4 = .ok (.getfield 134, 3) := by decide +kernel
theorem dX6_jam_7 : decode cX6_jam 7 = .ok (.ifCond .ne 6, 3) := by decide +kernel
theorem dX6_jam_10 : decode cX6_jam 10 = .ok (.ldc 137, 2) := by decide +kernel
theorem dX6_jam_12 : decode cX6_jam 12 = .ok (.ireturn, 1) := by decide +kernel
theorem dX6_jam_13 : decode cX6_jam 13 = .ok (.iload_n 1, 1) := by decide +kernel
theorem dX6_jam_14 : decode cX6_jam 14 = .ok (.iconst 0, 1) := by decide +kernel
theorem dX6_jam_15 : decode cX6_jam 15 = .ok (.iconst 1, 1) := by decide +kernel
theorem dX6_jam_16 : decode cX6_jam 16 = .ok (.invokestatic 62, 3) := by decide +kernel
theorem dX6_jam_19 : decode cX6_jam 19 = .ok (.ifCond .ne 6, 3) := by decide +kernel
theorem dX6_jam_22 : decode cX6_jam 22 = .ok (.ldc 66, 2) := by decide +kernel
theorem dX6_jam_24 : decode cX6_jam 24 = .ok (.ireturn, 1) := by decide +kernel
theorem dX6_jam_25 : decode cX6_jam 25 = .ok (.aload_n 0, 1) := by decide +kernel
theorem dX6_jam_26 : decode cX6_jam 26 = .ok (.getfield 42, 3) := by decide +kernel
theorem dX6_jam_29 : decode cX6_jam 29 = .ok (.aload_n 0, 1) := by decide +kernel
theorem dX6_jam_30 : decode cX6_jam 30 = .ok (.getfield 25, 3) := by decide +kernel
theorem dX6_jam_33 : decode cX6_jam 33 = .ok (.invokevirtual 215, 3) := by decide +kernel
theorem dX6_jam_36 : decode cX6_jam 36 = .ok (.istore_n 2, 1) := by decide +kernel
theorem dX6_jam_37 : decode cX6_jam 37 = .ok (.iload_n 2, 1) := by decide +kernel
theorem dX6_jam_38 : decode cX6_jam 38 = .ok (.ldc 201, 2) := by decide +kernel
theorem dX6_jam_40 : decode cX6_jam 40 = .ok (.if_icmp .eq 7, 3) := by decide +kernel
theorem dX6_jam_43 : decode cX6_jam 43 = .ok (.iload_n 1, 1) := by decide +kernel
theorem dX6_jam_44 : decode cX6_jam 44 = .ok (.ifCond .ne 7, 3) := by decide +kernel
theorem dX6_jam_47 : decode cX6_jam 47 = .ok (.iload_n 2, 1) := by decide +kernel
theorem dX6_jam_48 : decode cX6_jam 48 = .ok (.goto 13, 3) := by decide +kernel
theorem dX6_jam_51 : decode cX6_jam 51 = .ok (.aload_n 0, 1) := by decide +kernel
theorem dX6_jam_52 : decode cX6_jam 52 = .ok (.getfield 42, 3) := by decide +kernel
theorem dX6_jam_55 : decode cX6_jam 55 = .ok (.getfield 218, 3) := by decide +kernel
theorem dX6_jam_58 : decode cX6_jam 58 = .ok (.getfield 148, 3) := by decide +kernel
theorem dX6_jam_61 : decode cX6_jam 61 = .ok (.ireturn, 1) := by decide +kernel
theorem dX6_waits_0 : decode cX6_waits 0 = .ok (.aload_n 0, 1) := by decide +kernel
theorem dX6_waits_1 : decode cX6_waits 1 = .ok (.getfield 25, 3) := by decide +kernel
theorem dX6_waits_4 : decode cX6_waits 4 = .ok (.iload_n 1, 1) := by decide +kernel
theorem dX6_waits_5 : decode cX6_waits 5 = .ok (.invokevirtual 151, 3) := by decide +kernel
theorem dX6_waits_8 : decode cX6_waits 8 = .ok (.ifCond .ne 6, 3) := by decide +kernel
theorem dX6_waits_11 : decode cX6_waits 11 = .ok (.ldc 66, 2) := by decide +kernel
theorem dX6_waits_13 : decode cX6_waits 13 = .ok (.ireturn, 1) := by decide +kernel
theorem dX6_waits_14 : decode cX6_waits 14 = .ok (.aload_n 0, 1) := by decide +kernel
theorem dX6_waits_15 : decode cX6_waits 15 = .ok (.getfield 42, 3) := by decide +kernel
theorem dX6_waits_18 : decode cX6_waits 18 = .ok (.aload_n 0, 1) := by decide +kernel
theorem dX6_waits_19 : decode cX6_waits 19 = .ok (.getfield 25, 3) := by decide +kernel
theorem dX6_waits_22 : decode cX6_waits 22 = .ok (.iload_n 1, 1) := by decide +kernel
theorem dX6_waits_23 : decode cX6_waits 23 = .ok (.invokevirtual 221, 3) := by decide +kernel
theorem dX6_waits_26 : decode cX6_waits 26 = .ok (.ireturn, 1) := by decide +kernel
theorem dX6_pace_0 : decode cX6_pace 0 = .ok (.iload_n 1, 1) := by decide +kernel
theorem dX6_pace_1 : decode cX6_pace 1 = .ok (.invokestatic 58, 3) := by decide +kernel
theorem dX6_pace_4 : decode cX6_pace 4 = .ok (.ifCond .eq 13, 3) := by decide +kernel
theorem dX6_pace_7 : decode cX6_pace 7 = .ok (.iload_n 3, 1) := by decide +kernel
theorem dX6_pace_8 : decode cX6_pace 8 = .ok (.iconst 1, 1) := by decide +kernel
theorem dX6_pace_9 : decode cX6_pace 9 = .ok (.bipush 12, 2) := by decide +kernel
theorem dX6_pace_11 : decode cX6_pace 11 = .ok (.invokestatic 62, 3) := by decide +kernel
theorem dX6_pace_14 : decode cX6_pace 14 = .ok (.ifCond .ne 6, 3) := by decide +kernel
theorem dX6_pace_17 : decode cX6_pace 17 = .ok (.ldc 66, 2) := by decide +kernel
theorem dX6_pace_19 : decode cX6_pace 19 = .ok (.ireturn, 1) := by decide +kernel
theorem dX6_pace_20 : decode cX6_pace 20 = .ok (.aload_n 0, 1) := by decide +kernel
theorem dX6_pace_21 : decode cX6_pace 21 = .ok (.getfield 25, 3) := by decide +kernel
theorem dX6_pace_24 : decode cX6_pace 24 = .ok (.getfield 134, 3) := by decide +kernel
theorem dX6_pace_27 : decode cX6_pace 27 = .ok (.ifCond .ne 6, 3) := by decide +kernel
theorem dX6_pace_30 : decode cX6_pace 30 = .ok (.ldc 137, 2) := by decide +kernel
theorem dX6_pace_32 : decode cX6_pace 32 = .ok (.ireturn, 1) := by decide +kernel
theorem dX6_pace_33 : decode cX6_pace 33 = .ok (.aload_n 0, 1) := by decide +kernel
theorem dX6_pace_34 : decode cX6_pace 34 = .ok (.iload_n 1, 1) := by decide +kernel
theorem dX6_pace_35 : decode cX6_pace 35 = .ok (.iload_n 2, 1) := by decide +kernel
theorem dX6_pace_36 : decode cX6_pace 36 = .ok (.iload_n 3, 1) := by decide +kernel
theorem dX6_pace_37 : decode cX6_pace 37 = .ok (.invokevirtual 78, 3) := by decide +kernel
theorem dX6_pace_40 : decode cX6_pace 40 = .ok (.istore 4, 2) := by decide +kernel
theorem dX6_pace_42 : decode cX6_pace 42 = .ok (.iload 4, 2) := by decide +kernel
theorem dX6_pace_44 : decode cX6_pace 44 = .ok (.ifCond .eq 10, 3) := by decide +kernel
theorem dX6_pace_47 : decode cX6_pace 47 = .ok (.aload_n 0, 1) := by decide +kernel
theorem dX6_pace_48 : decode cX6_pace 48 = .ok (.iload 4, 2) := by decide +kernel
theorem dX6_pace_50 : decode cX6_pace 50 = .ok (.invokevirtual 67, 3) := by decide +kernel
theorem dX6_pace_53 : decode cX6_pace 53 = .ok (.ireturn, 1) := by decide +kernel
theorem dX6_pace_54 : decode cX6_pace 54 = .ok (.aload_n 0, 1) := by decide +kernel
theorem dX6_pace_55 : decode cX6_pace 55 = .ok (.getfield 42, 3) := by decide +kernel
theorem dX6_pace_58 : decode cX6_pace 58 = .ok (.aload_n 0, 1) := by decide +kernel
theorem dX6_pace_59 : decode cX6_pace 59 = .ok (.getfield 11, 3) := by decide +kernel
theorem dX6_pace_62 : decode cX6_pace 62 = .ok (.iload_n 1, 1) := by decide +kernel
theorem dX6_pace_63 : decode cX6_pace 63 = .ok (.aaload, 1) := by decide +kernel
theorem dX6_pace_64 : decode cX6_pace 64 = .ok (.iload_n 2, 1) := by decide +kernel
theorem dX6_pace_65 : decode cX6_pace 65 = .ok (.iload_n 3, 1) := by decide +kernel
theorem dX6_pace_66 : decode cX6_pace 66 = .ok (.invokevirtual 225, 3) := by decide +kernel
theorem dX6_pace_69 : decode cX6_pace 69 = .ok (.aload_n 0, 1) := by decide +kernel
theorem dX6_pace_70 : decode cX6_pace 70 = .ok (.aload_n 0, 1) := by decide +kernel
theorem dX6_pace_71 : decode cX6_pace 71 = .ok (.getfield 42, 3) := by decide +kernel
theorem dX6_pace_74 : decode cX6_pace 74 = .ok (.aload_n 0, 1) := by decide +kernel
theorem dX6_pace_75 : decode cX6_pace 75 = .ok (.getfield 25, 3) := by decide +kernel
theorem dX6_pace_78 : decode cX6_pace 78 = .ok (.invokevirtual 229, 3) := by decide +kernel
theorem dX6_pace_81 : decode cX6_pace 81 = .ok (.invokevirtual 75, 3) := by decide +kernel
theorem dX6_pace_84 : decode cX6_pace 84 = .ok (.ireturn, 1) := by decide +kernel
theorem dX6_better_0 : decode cX6_better 0 = .ok (.iload_n 1, 1) := by decide +kernel
theorem dX6_better_1 : decode cX6_better 1 = .ok (.invokestatic 58, 3) := by decide +kernel
theorem dX6_better_4 : decode cX6_better 4 = .ok (.ifCond .eq 23, 3) := by decide +kernel
theorem dX6_better_7 : decode cX6_better 7 = .ok (.iload_n 3, 1) := by decide +kernel
theorem dX6_better_8 : decode cX6_better 8 = .ok (.iconst 1, 1) := by decide +kernel
theorem dX6_better_9 : decode cX6_better 9 = .ok (.bipush 12, 2) := by decide +kernel
theorem dX6_better_11 : decode cX6_better 11 = .ok (.invokestatic 62, 3) := by decide +kernel
theorem dX6_better_14 : decode cX6_better 14 = .ok (.ifCond .eq 13, 3) := by decide +kernel
theorem dX6_better_17 : decode cX6_better 17 = .ok (.iload 4, 2) := by decide +kernel
theorem dX6_better_19 : decode cX6_better 19 = .ok (.iconst 0, 1) := by decide +kernel
theorem dX6_better_20 : decode cX6_better 20 = .ok (.iconst 1, 1) := by decide +kernel
theorem dX6_better_21 : decode cX6_better 21 = .ok (.invokestatic 62, 3) := by decide +kernel
theorem dX6_better_24 : decode cX6_better 24 = .ok (.ifCond .ne 6, 3) := by decide +kernel
theorem dX6_better_27 : decode cX6_better 27 = .ok (.ldc 66, 2) := by decide +kernel
theorem dX6_better_29 : decode cX6_better 29 = .ok (.ireturn, 1) := by decide +kernel
theorem dX6_better_30 : decode cX6_better 30 = .ok (.aload_n 0, 1) := by decide +kernel
theorem dX6_better_31 : decode cX6_better 31 = .ok (.getfield 25, 3) := by decide +kernel
theorem dX6_better_34 : decode cX6_better 34 = .ok (.getfield 134, 3) := by decide +kernel
theorem dX6_better_37 : decode cX6_better 37 = .ok (.ifCond .ne 6, 3) := by decide +kernel
theorem dX6_better_40 : decode cX6_better 40 = .ok (.ldc 137, 2) := by decide +kernel
theorem dX6_better_42 : decode cX6_better 42 = .ok (.ireturn, 1) := by decide +kernel
theorem dX6_better_43 : decode cX6_better 43 = .ok (.aload_n 0, 1) := by decide +kernel
theorem dX6_better_44 : decode cX6_better 44 = .ok (.iload_n 1, 1) := by decide +kernel
theorem dX6_better_45 : decode cX6_better 45 = .ok (.iload_n 2, 1) := by decide +kernel
theorem dX6_better_46 : decode cX6_better 46 = .ok (.iload_n 3, 1) := by decide +kernel
theorem dX6_better_47 : decode cX6_better 47 = .ok (.invokevirtual 78, 3) := by decide +kernel
theorem dX6_better_50 : decode cX6_better 50 = .ok (.istore 5, 2) := by decide +kernel
theorem dX6_better_52 : decode cX6_better 52 = .ok (.iload 5, 2) := by decide +kernel
theorem dX6_better_54 : decode cX6_better 54 = .ok (.ifCond .eq 10, 3) := by decide +kernel
theorem dX6_better_57 : decode cX6_better 57 = .ok (.aload_n 0, 1) := by decide +kernel
theorem dX6_better_58 : decode cX6_better 58 = .ok (.iload 5, 2) := by decide +kernel
theorem dX6_better_60 : decode cX6_better 60 = .ok (.invokevirtual 67, 3) := by decide +kernel
theorem dX6_better_63 : decode cX6_better 63 = .ok (.ireturn, 1) := by decide +kernel
theorem dX6_better_64 : decode cX6_better 64 = .ok (.aload_n 0, 1) := by decide +kernel
theorem dX6_better_65 : decode cX6_better 65 = .ok (.getfield 42, 3) := by decide +kernel
theorem dX6_better_68 : decode cX6_better 68 = .ok (.aload_n 0, 1) := by decide +kernel
theorem dX6_better_69 : decode cX6_better 69 = .ok (.getfield 11, 3) := by decide +kernel
theorem dX6_better_72 : decode cX6_better 72 = .ok (.iload_n 1, 1) := by decide +kernel
theorem dX6_better_73 : decode cX6_better 73 = .ok (.aaload, 1) := by decide +kernel
theorem dX6_better_74 : decode cX6_better 74 = .ok (.iload_n 2, 1) := by decide +kernel
theorem dX6_better_75 : decode cX6_better 75 = .ok (.iload_n 3, 1) := by decide +kernel
theorem dX6_better_76 : decode cX6_better 76 = .ok (.invokevirtual 225, 3) := by decide +kernel
theorem dX6_better_79 : decode cX6_better 79 = .ok (.aload_n 0, 1) := by decide +kernel
theorem dX6_better_80 : decode cX6_better 80 = .ok (.getfield 42, 3) := by decide +kernel
theorem dX6_better_83 : decode cX6_better 83 = .ok (.aload_n 0, 1) := by decide +kernel
theorem dX6_better_84 : decode cX6_better 84 = .ok (.getfield 25, 3) := by decide +kernel
theorem dX6_better_87 : decode cX6_better 87 = .ok (.invokevirtual 232, 3) := by decide +kernel
theorem dX6_better_90 : decode cX6_better 90 = .ok (.istore 6, 2) := by decide +kernel
theorem dX6_better_92 : decode cX6_better 92 = .ok (.aload_n 0, 1) := by decide +kernel
theorem dX6_better_93 : decode cX6_better 93 = .ok (.iload 6, 2) := by decide +kernel
theorem dX6_better_95 : decode cX6_better 95 = .ok (.ldc 201, 2) := by decide +kernel
theorem dX6_better_97 : decode cX6_better 97 = .ok (.if_icmp .eq 8, 3) := by decide +kernel
theorem dX6_better_100 : decode cX6_better 100 = .ok (.iload 4, 2) := by decide +kernel
theorem dX6_better_102 : decode cX6_better 102 = .ok (.ifCond .ne 8, 3) := by decide +kernel
theorem dX6_better_105 : decode cX6_better 105 = .ok (.iload 6, 2) := by decide +kernel
theorem dX6_better_107 : decode cX6_better 107 = .ok (.goto 10, 3) := by decide +kernel
theorem dX6_better_110 : decode cX6_better 110 = .ok (.aload_n 0, 1) := by decide +kernel
theorem dX6_better_111 : decode cX6_better 111 = .ok (.getfield 42, 3) := by decide +kernel
theorem dX6_better_114 : decode cX6_better 114 = .ok (.getfield 235, 3) := by decide +kernel
theorem dX6_better_117 : decode cX6_better 117 = .ok (.invokevirtual 75, 3) := by decide +kernel
theorem dX6_better_120 : decode cX6_better 120 = .ok (.ireturn, 1) := by decide +kernel
theorem dX6_fits_0 : decode cX6_fits 0 = .ok (.aload_n 0, 1) := by decide +kernel
theorem dX6_fits_1 : decode cX6_fits 1 = .ok (.getfield 25, 3) := by decide +kernel
theorem dX6_fits_4 : decode cX6_fits 4 = .ok (.iload_n 1, 1) := by decide +kernel
theorem dX6_fits_5 : decode cX6_fits 5 = .ok (.invokevirtual 151, 3) := by decide +kernel
theorem dX6_fits_8 : decode cX6_fits 8 = .ok (.ifCond .eq 31, 3) := by decide +kernel
theorem dX6_fits_11 : decode cX6_fits 11 = .ok (.iload_n 2, 1) := by decide +kernel
theorem dX6_fits_12 : decode cX6_fits 12 = .ok (.invokestatic 58, 3) := by decide +kernel
theorem dX6_fits_15 : decode cX6_fits 15 = .ok (.ifCond .eq 24, 3) := by decide +kernel
theorem dX6_fits_18 : decode cX6_fits 18 = .ok (.iload 4, 2) := by decide +kernel
theorem dX6_fits_20 : decode cX6_fits 20 = .ok (.iconst 1, 1) := by decide +kernel
theorem dX6_fits_21 : decode cX6_fits 21 = .ok (.bipush 12, 2) := by decide +kernel
theorem dX6_fits_23 : decode cX6_fits 23 = .ok (.invokestatic 62, 3) := by decide +kernel
theorem dX6_fits_26 : decode cX6_fits 26 = .ok (.ifCond .eq 13, 3) := by decide +kernel
theorem dX6_fits_29 : decode cX6_fits 29 = .ok (.iload 5, 2) := by decide +kernel
theorem dX6_fits_31 : decode cX6_fits 31 = .ok (.iconst 0, 1) := by decide +kernel
theorem dX6_fits_32 : decode cX6_fits 32 = .ok (.iconst 3, 1) := by decide +kernel
theorem dX6_fits_33 : decode cX6_fits 33 = .ok (.invokestatic 62, 3) := by decide +kernel
theorem dX6_fits_36 : decode cX6_fits 36 = .ok (.ifCond .ne 6, 3) := by decide +kernel
theorem dX6_fits_39 : decode cX6_fits 39 = .ok (.ldc 66, 2) := by decide +kernel
theorem dX6_fits_41 : decode cX6_fits 41 = .ok (.ireturn, 1) := by decide +kernel
theorem dX6_fits_42 : decode cX6_fits 42 = .ok (.aload_n 0, 1) := by decide +kernel
theorem dX6_fits_43 : decode cX6_fits 43 = .ok (.iload_n 2, 1) := by decide +kernel
theorem dX6_fits_44 : decode cX6_fits 44 = .ok (.iload_n 3, 1) := by decide +kernel
theorem dX6_fits_45 : decode cX6_fits 45 = .ok (.iload 4, 2) := by decide +kernel
theorem dX6_fits_47 : decode cX6_fits 47 = .ok (.invokevirtual 78, 3) := by decide +kernel
theorem dX6_fits_50 : decode cX6_fits 50 = .ok (.istore 6, 2) := by decide +kernel
theorem dX6_fits_52 : decode cX6_fits 52 = .ok (.iload 6, 2) := by decide +kernel
theorem dX6_fits_54 : decode cX6_fits 54 = .ok (.ifCond .eq 10, 3) := by decide +kernel
theorem dX6_fits_57 : decode cX6_fits 57 = .ok (.aload_n 0, 1) := by decide +kernel
theorem dX6_fits_58 : decode cX6_fits 58 = .ok (.iload 6, 2) := by decide +kernel
theorem dX6_fits_60 : decode cX6_fits 60 = .ok (.invokevirtual 67, 3) := by decide +kernel
theorem dX6_fits_63 : decode cX6_fits 63 = .ok (.ireturn, 1) := by decide +kernel
theorem dX6_fits_64 : decode cX6_fits 64 = .ok (.aload_n 0, 1) := by decide +kernel
theorem dX6_fits_65 : decode cX6_fits 65 = .ok (.getfield 42, 3) := by decide +kernel
theorem dX6_fits_68 : decode cX6_fits 68 = .ok (.aload_n 0, 1) := by decide +kernel
theorem dX6_fits_69 : decode cX6_fits 69 = .ok (.getfield 11, 3) := by decide +kernel
theorem dX6_fits_72 : decode cX6_fits 72 = .ok (.iload_n 2, 1) := by decide +kernel
theorem dX6_fits_73 : decode cX6_fits 73 = .ok (.aaload, 1) := by decide +kernel
theorem dX6_fits_74 : decode cX6_fits 74 = .ok (.iload_n 3, 1) := by decide +kernel
theorem dX6_fits_75 : decode cX6_fits 75 = .ok (.iload 4, 2) := by decide +kernel
theorem dX6_fits_77 : decode cX6_fits 77 = .ok (.invokevirtual 225, 3) := by decide +kernel
theorem dX6_fits_80 : decode cX6_fits 80 = .ok (.aload_n 0, 1) := by decide +kernel
theorem dX6_fits_81 : decode cX6_fits 81 = .ok (.aload_n 0, 1) := by decide +kernel
theorem dX6_fits_82 : decode cX6_fits 82 = .ok (.getfield 42, 3) := by decide +kernel
theorem dX6_fits_85 : decode cX6_fits 85 = .ok (.aload_n 0, 1) := by decide +kernel
theorem dX6_fits_86 : decode cX6_fits 86 = .ok (.getfield 25, 3) := by decide +kernel
theorem dX6_fits_89 : decode cX6_fits 89 = .ok (.iload_n 1, 1) := by decide +kernel
theorem dX6_fits_90 : decode cX6_fits 90 = .ok (.iload 5, 2) := by decide +kernel
theorem dX6_fits_92 : decode cX6_fits 92 = .ok (.invokevirtual 238, 3) := by decide +kernel
theorem dX6_fits_95 : decode cX6_fits 95 = .ok (.invokevirtual 75, 3) := by decide +kernel
theorem dX6_fits_98 : decode cX6_fits 98 = .ok (.ireturn, 1) := by decide +kernel
theorem dX6_chance_0 : decode cX6_chance 0 = .ok (.aload_n 0, 1) := by decide +kernel
theorem dX6_chance_1 : decode cX6_chance 1 = .ok (.getfield 25, 3) := by decide +kernel
theorem dX6_chance_4 : decode cX6_chance 4 = .ok (.getfield 134, 3) := by decide +kernel
theorem dX6_chance_7 : decode cX6_chance 7 = .ok (.ifCond .ne 6, 3) := by decide +kernel
theorem dX6_chance_10 : decode cX6_chance 10 = .ok (.ldc 137, 2) := by decide +kernel
theorem dX6_chance_12 : decode cX6_chance 12 = .ok (.ireturn, 1) := by decide +kernel
theorem dX6_chance_13 : decode cX6_chance 13 = .ok (.iload_n 1, 1) := by decide +kernel
theorem dX6_chance_14 : decode cX6_chance 14 = .ok (.iconst 0, 1) := by decide +kernel
theorem dX6_chance_15 : decode cX6_chance 15 = .ok (.bipush 60, 2) := by decide +kernel
theorem dX6_chance_17 : decode cX6_chance 17 = .ok (.invokestatic 62, 3) := by decide +kernel
theorem dX6_chance_20 : decode cX6_chance 20 = .ok (.ifCond .eq 22, 3) := by decide +kernel
theorem dX6_chance_23 : decode cX6_chance 23 = .ok (.iload_n 2, 1) := by decide +kernel
theorem dX6_chance_24 : decode cX6_chance 24 = .ok (.iconst 0, 1) := by decide +kernel
theorem dX6_chance_25 : decode cX6_chance 25 = .ok (.bipush 10, 2) := by decide +kernel
theorem dX6_chance_27 : decode cX6_chance 27 = .ok (.invokestatic 62, 3) := by decide +kernel
theorem dX6_chance_30 : decode cX6_chance 30 = .ok (.ifCond .eq 12, 3) := by decide +kernel
theorem dX6_chance_33 : decode cX6_chance 33 = .ok (.iload_n 3, 1) := by decide +kernel
theorem dX6_chance_34 : decode cX6_chance 34 = .ok (.iconst 0, 1) := by decide +kernel
theorem dX6_chance_35 : decode cX6_chance 35 = .ok (.iconst 1, 1) := by decide +kernel
theorem dX6_chance_36 : decode cX6_chance 36 = .ok (.invokestatic 62, 3) := by decide +kernel
theorem dX6_chance_39 : decode cX6_chance 39 = .ok (.ifCond .ne 6, 3) := by decide +kernel
theorem dX6_chance_42 : decode cX6_chance 42 = .ok (.ldc 66, 2) := by decide +kernel
theorem dX6_chance_44 : decode cX6_chance 44 = .ok (.ireturn, 1) := by decide +kernel
theorem dX6_chance_45 : decode cX6_chance 45 = .ok (.aload_n 0, 1) := by decide +kernel
theorem dX6_chance_46 : decode cX6_chance 46 = .ok (.getfield 42, 3) := by decide +kernel
theorem dX6_chance_49 : decode cX6_chance 49 = .ok (.aload_n 0, 1) := by decide +kernel
theorem dX6_chance_50 : decode cX6_chance 50 = .ok (.getfield 25, 3) := by decide +kernel
theorem dX6_chance_53 : decode cX6_chance 53 = .ok (.iload_n 1, 1) := by decide +kernel
theorem dX6_chance_54 : decode cX6_chance 54 = .ok (.iload_n 2, 1) := by decide +kernel
theorem dX6_chance_55 : decode cX6_chance 55 = .ok (.invokevirtual 242, 3) := by decide +kernel
theorem dX6_chance_58 : decode cX6_chance 58 = .ok (.lstore 4, 2) := by decide +kernel
theorem dX6_chance_60 : decode cX6_chance 60 = .ok (.bipush 10, 2) := by decide +kernel
theorem dX6_chance_62 : decode cX6_chance 62 = .ok (.aload_n 0, 1) := by decide +kernel
theorem dX6_chance_63 : decode cX6_chance 63 = .ok (.getfield 25, 3) := by decide +kernel
theorem dX6_chance_66 : decode cX6_chance 66 = .ok (.getfield 160, 3) := by decide +kernel
theorem dX6_chance_69 : decode cX6_chance 69 = .ok (.invokestatic 163, 3) := by decide +kernel
theorem dX6_chance_72 : decode cX6_chance 72 = .ok (.invokestatic 246, 3) := by decide +kernel
theorem dX6_chance_75 : decode cX6_chance 75 = .ok (.lstore 6, 2) := by decide +kernel
theorem dX6_chance_77 : decode cX6_chance 77 = .ok (.lload 4, 2) := by decide +kernel
theorem dX6_chance_79 : decode cX6_chance 79 = .ok (.lload 6, 2) := by decide +kernel
theorem dX6_chance_81 : decode cX6_chance 81 = .ok (.invokestatic 250, 3) := by decide +kernel
theorem dX6_chance_84 : decode cX6_chance 84 = .ok (.lstore 8, 2) := by decide +kernel
theorem dX6_chance_86 : decode cX6_chance 86 = .ok (.lload 8, 2) := by decide +kernel
theorem dX6_chance_88 : decode cX6_chance 88 = .ok (.lconst 0, 1) := by decide +kernel
theorem dX6_chance_89 : decode cX6_chance 89 = .ok (.lcmp, 1) := by decide +kernel
theorem dX6_chance_90 : decode cX6_chance 90 = .ok (.ifCond .ne 6, 3) := by decide +kernel
theorem dX6_chance_93 : decode cX6_chance 93 = .ok (.ldc 201, 2) := by decide +kernel
theorem dX6_chance_95 : decode cX6_chance 95 = .ok (.ireturn, 1) := by decide +kernel
theorem dX6_chance_96 : decode cX6_chance 96 = .ok (.iload_n 3, 1) := by decide +kernel
theorem dX6_chance_97 : decode cX6_chance 97 = .ok (.ifCond .ne 8, 3) := by decide +kernel
theorem dX6_chance_100 : decode cX6_chance 100 = .ok (.lload 4, 2) := by decide +kernel
theorem dX6_chance_102 : decode cX6_chance 102 = .ok (.goto 5, 3) := by decide +kernel
theorem dX6_chance_105 : decode cX6_chance 105 = .ok (.lload 6, 2) := by decide +kernel
theorem dX6_chance_107 : decode cX6_chance 107 = .ok (.lload 8, 2) := by decide +kernel
theorem dX6_chance_109 : decode cX6_chance 109 = .ok (.ldiv, 1) := by decide +kernel
theorem dX6_chance_110 : decode cX6_chance 110 = .ok (.l2i, 1) := by decide +kernel
theorem dX6_chance_111 : decode cX6_chance 111 = .ok (.ireturn, 1) := by decide +kernel
theorem dX6_drawn_0 : decode cX6_drawn 0 = .ok (.aload_n 0, 1) := by decide +kernel
theorem dX6_drawn_1 : decode cX6_drawn 1 = .ok (.getfield 25, 3) := by decide +kernel
theorem dX6_drawn_4 : decode cX6_drawn 4 = .ok (.getfield 134, 3) := by decide +kernel
theorem dX6_drawn_7 : decode cX6_drawn 7 = .ok (.ifCond .ne 6, 3) := by decide +kernel
theorem dX6_drawn_10 : decode cX6_drawn 10 = .ok (.ldc 137, 2) := by decide +kernel
theorem dX6_drawn_12 : decode cX6_drawn 12 = .ok (.ireturn, 1) := by decide +kernel
theorem dX6_drawn_13 : decode cX6_drawn 13 = .ok (.iload_n 1, 1) := by decide +kernel
theorem dX6_drawn_14 : decode cX6_drawn 14 = .ok (.iconst 0, 1) := by decide +kernel
theorem dX6_drawn_15 : decode cX6_drawn 15 = .ok (.bipush 60, 2) := by decide +kernel
theorem dX6_drawn_17 : decode cX6_drawn 17 = .ok (.invokestatic 62, 3) := by decide +kernel
theorem dX6_drawn_20 : decode cX6_drawn 20 = .ok (.ifCond .eq 22, 3) := by decide +kernel
theorem dX6_drawn_23 : decode cX6_drawn 23 = .ok (.iload_n 2, 1) := by decide +kernel
theorem dX6_drawn_24 : decode cX6_drawn 24 = .ok (.iconst 1, 1) := by decide +kernel
theorem dX6_drawn_25 : decode cX6_drawn 25 = .ok (.ldc 254, 2) := by decide +kernel
theorem dX6_drawn_27 : decode cX6_drawn 27 = .ok (.invokestatic 62, 3) := by decide +kernel
theorem dX6_drawn_30 : decode cX6_drawn 30 = .ok (.ifCond .eq 12, 3) := by decide +kernel
theorem dX6_drawn_33 : decode cX6_drawn 33 = .ok (.iload_n 3, 1) := by decide +kernel
theorem dX6_drawn_34 : decode cX6_drawn 34 = .ok (.iconst 0, 1) := by decide +kernel
theorem dX6_drawn_35 : decode cX6_drawn 35 = .ok (.iconst 1, 1) := by decide +kernel
theorem dX6_drawn_36 : decode cX6_drawn 36 = .ok (.invokestatic 62, 3) := by decide +kernel
theorem dX6_drawn_39 : decode cX6_drawn 39 = .ok (.ifCond .ne 6, 3) := by decide +kernel
theorem dX6_drawn_42 : decode cX6_drawn 42 = .ok (.ldc 66, 2) := by decide +kernel
theorem dX6_drawn_44 : decode cX6_drawn 44 = .ok (.ireturn, 1) := by decide +kernel
theorem dX6_drawn_45 : decode cX6_drawn 45 = .ok (.aload_n 0, 1) := by decide +kernel
theorem dX6_drawn_46 : decode cX6_drawn 46 = .ok (.getfield 42, 3) := by decide +kernel
theorem dX6_drawn_49 : decode cX6_drawn 49 = .ok (.aload_n 0, 1) := by decide +kernel
theorem dX6_drawn_50 : decode cX6_drawn 50 = .ok (.getfield 25, 3) := by decide +kernel
theorem dX6_drawn_53 : decode cX6_drawn 53 = .ok (.iload_n 1, 1) := by decide +kernel
theorem dX6_drawn_54 : decode cX6_drawn 54 = .ok (.iload_n 2, 1) := by decide +kernel
theorem dX6_drawn_55 : decode cX6_drawn 55 = .ok (.invokevirtual 255, 3) := by decide +kernel
theorem dX6_drawn_58 : decode cX6_drawn 58 = .ok (.istore 4, 2) := by decide +kernel
theorem dX6_drawn_60 : decode cX6_drawn 60 = .ok (.iload_n 3, 1) := by decide +kernel
theorem dX6_drawn_61 : decode cX6_drawn 61 = .ok (.ifCond .ne 8, 3) := by decide +kernel
theorem dX6_drawn_64 : decode cX6_drawn 64 = .ok (.iload 4, 2) := by decide +kernel
theorem dX6_drawn_66 : decode cX6_drawn 66 = .ok (.goto 16, 3) := by decide +kernel
theorem dX6_drawn_69 : decode cX6_drawn 69 = .ok (.aload_n 0, 1) := by decide +kernel
theorem dX6_drawn_70 : decode cX6_drawn 70 = .ok (.getfield 42, 3) := by decide +kernel
theorem dX6_drawn_73 : decode cX6_drawn 73 = .ok (.getfield 218, 3) := by decide +kernel
theorem dX6_drawn_76 : decode cX6_drawn 76 = .ok (.getfield 148, 3) := by decide +kernel
theorem dX6_drawn_79 : decode cX6_drawn 79 = .ok (.invokestatic 163, 3) := by decide +kernel
theorem dX6_drawn_82 : decode cX6_drawn 82 = .ok (.ireturn, 1) := by decide +kernel
theorem dX6_image_0 : decode cX6_image 0 = .ok (.iload_n 1, 1) := by decide +kernel
theorem dX6_image_1 : decode cX6_image 1 = .ok (.iconst 0, 1) := by decide +kernel
theorem dX6_image_2 : decode cX6_image 2 = .ok (.iconst 1, 1) := by decide +kernel
theorem dX6_image_3 : decode cX6_image 3 = .ok (.invokestatic 62, 3) := by decide +kernel
theorem dX6_image_6 : decode cX6_image 6 = .ok (.ifCond .ne 6, 3) := by decide +kernel
theorem dX6_image_9 : decode cX6_image 9 = .ok (.ldc 66, 2) := by decide +kernel
theorem dX6_image_11 : decode cX6_image 11 = .ok (.ireturn, 1) := by decide +kernel
theorem dX6_image_12 : decode cX6_image 12 = .ok (.aload_n 0, 1) := by decide +kernel
theorem dX6_image_13 : decode cX6_image 13 = .ok (.getfield 25, 3) := by decide +kernel
theorem dX6_image_16 : decode cX6_image 16 = .ok (.getfield 134, 3) := by decide +kernel
theorem dX6_image_19 : decode cX6_image 19 = .ok (.ifCond .ne 6, 3) := by decide +kernel
theorem dX6_image_22 : decode cX6_image 22 = .ok (.ldc 137, 2) := by decide +kernel
theorem dX6_image_24 : decode cX6_image 24 = .ok (.ireturn, 1) := by decide +kernel
theorem dX6_image_25 : decode cX6_image 25 = .ok (.aload_n 0, 1) := by decide +kernel
theorem dX6_image_26 : decode cX6_image 26 = .ok (.getfield 46, 3) := by decide +kernel
theorem dX6_image_29 : decode cX6_image 29 = .ok (.iload_n 1, 1) := by decide +kernel
theorem dX6_image_30 : decode cX6_image 30 = .ok (.aaload, 1) := by decide +kernel
theorem dX6_image_31 : decode cX6_image 31 = .ok (.aload_n 0, 1) := by decide +kernel
theorem dX6_image_32 : decode cX6_image 32 = .ok (.getfield 25, 3) := by decide +kernel
theorem dX6_image_35 : decode cX6_image 35 = .ok (.invokevirtual 127, 3) := by decide +kernel
theorem dX6_image_38 : decode cX6_image 38 = .ok (.iconst 1, 1) := by decide +kernel
theorem dX6_image_39 : decode cX6_image 39 = .ok (.ireturn, 1) := by decide +kernel
theorem dX6_restore_0 : decode cX6_restore 0 = .ok (.iload_n 1, 1) := by decide +kernel
theorem dX6_restore_1 : decode cX6_restore 1 = .ok (.iconst 0, 1) := by decide +kernel
theorem dX6_restore_2 : decode cX6_restore 2 = .ok (.iconst 1, 1) := by decide +kernel
theorem dX6_restore_3 : decode cX6_restore 3 = .ok (.invokestatic 62, 3) := by decide +kernel
theorem dX6_restore_6 : decode cX6_restore 6 = .ok (.ifCond .ne 6, 3) := by decide +kernel
theorem dX6_restore_9 : decode cX6_restore 9 = .ok (.ldc 66, 2) := by decide +kernel
theorem dX6_restore_11 : decode cX6_restore 11 = .ok (.ireturn, 1) := by decide +kernel
theorem dX6_restore_12 : decode cX6_restore 12 = .ok (.aload_n 0, 1) := by decide +kernel
theorem dX6_restore_13 : decode cX6_restore 13 = .ok (.getfield 46, 3) := by decide +kernel
theorem dX6_restore_16 : decode cX6_restore 16 = .ok (.iload_n 1, 1) := by decide +kernel
theorem dX6_restore_17 : decode cX6_restore 17 = .ok (.aaload, 1) := by decide +kernel
theorem dX6_restore_18 : decode cX6_restore 18 = .ok (.getfield 134, 3) := by decide +kernel
theorem dX6_restore_21 : decode cX6_restore 21 = .ok (.ifCond .ne 6, 3) := by decide +kernel
theorem dX6_restore_24 : decode cX6_restore 24 = .ok (.ldc 137, 2) := by decide +kernel
theorem dX6_restore_26 : decode cX6_restore 26 = .ok (.ireturn, 1) := by decide +kernel
theorem dX6_restore_27 : decode cX6_restore 27 = .ok (.aload_n 0, 1) := by decide +kernel
theorem dX6_restore_28 : decode cX6_restore 28 = .ok (.getfield 25, 3) := by decide +kernel
theorem dX6_restore_31 : decode cX6_restore 31 = .ok (.aload_n 0, 1) := by decide +kernel
theorem dX6_restore_32 : decode cX6_restore 32 = .ok (.getfield 46, 3) := by decide +kernel
theorem dX6_restore_35 : decode cX6_restore 35 = .ok (.iload_n 1, 1) := by decide +kernel
theorem dX6_restore_36 : decode cX6_restore 36 = .ok (.aaload, 1) := by decide +kernel
theorem dX6_restore_37 : decode cX6_restore 37 = .ok (.invokevirtual 127, 3) := by decide +kernel
theorem dX6_restore_40 : decode cX6_restore 40 = .ok (.aload_n 0, 1) := by decide +kernel
theorem dX6_restore_41 : decode cX6_restore 41 = .ok (.getfield 35, 3) := by decide +kernel
theorem dX6_restore_44 : decode cX6_restore 44 = .ok (.invokevirtual 131, 3) := by decide +kernel
theorem dX6_restore_47 : decode cX6_restore 47 = .ok (.iconst 1, 1) := by decide +kernel
theorem dX6_restore_48 : decode cX6_restore 48 = .ok (.ireturn, 1) := by decide +kernel
theorem dX6_kind_0 : decode cX6_kind 0 = .ok (.aload_n 0, 1) := by decide +kernel
theorem dX6_kind_1 : decode cX6_kind 1 = .ok (.getfield 25, 3) := by decide +kernel
theorem dX6_kind_4 : decode cX6_kind 4 = .ok (.iload_n 1, 1) := by decide +kernel
theorem dX6_kind_5 : decode cX6_kind 5 = .ok (.invokevirtual 151, 3) := by decide +kernel
theorem dX6_kind_8 : decode cX6_kind 8 = .ok (.ifCond .eq 15, 3) := by decide +kernel
theorem dX6_kind_11 : decode cX6_kind 11 = .ok (.aload_n 0, 1) := by decide +kernel
theorem dX6_kind_12 : decode cX6_kind 12 = .ok (.getfield 25, 3) := by decide +kernel
theorem dX6_kind_15 : decode cX6_kind 15 = .ok (.getfield 258, 3) := by decide +kernel
theorem dX6_kind_18 : decode cX6_kind 18 = .ok (.iload_n 1, 1) := by decide +kernel
theorem dX6_kind_19 : decode cX6_kind 19 = .ok (.iaload, 1) := by decide +kernel
theorem dX6_kind_20 : decode cX6_kind 20 = .ok (.goto 5, 3) := by decide +kernel
theorem dX6_kind_23 : decode cX6_kind 23 = .ok (.ldc 66, 2) := by decide +kernel
theorem dX6_kind_25 : decode cX6_kind 25 = .ok (.ireturn, 1) := by decide +kernel
theorem dX6_as_0 : decode cX6_as 0 = .ok (.aload_n 0, 1) := by decide +kernel
theorem dX6_as_1 : decode cX6_as 1 = .ok (.getfield 25, 3) := by decide +kernel
theorem dX6_as_4 : decode cX6_as 4 = .ok (.iload_n 1, 1) := by decide +kernel
theorem dX6_as_5 : decode cX6_as 5 = .ok (.invokevirtual 151, 3) := by decide +kernel
theorem dX6_as_8 : decode cX6_as 8 = .ok (.ifCond .eq 12, 3) := by decide +kernel
theorem dX6_as_11 : decode cX6_as 11 = .ok (.iload_n 2, 1) := by decide +kernel
theorem dX6_as_12 : decode cX6_as 12 = .ok (.iconst 0, 1) := by decide +kernel
theorem dX6_as_13 : decode cX6_as 13 = .ok (.iconst 5, 1) := by decide +kernel
theorem dX6_as_14 : decode cX6_as 14 = .ok (.invokestatic 62, 3) := by decide +kernel
theorem dX6_as_17 : decode cX6_as 17 = .ok (.ifCond .ne 6, 3) := by decide +kernel
theorem dX6_as_20 : decode cX6_as 20 = .ok (.ldc 66, 2) := by decide +kernel
theorem dX6_as_22 : decode cX6_as 22 = .ok (.ireturn, 1) := by decide +kernel
theorem dX6_as_23 : decode cX6_as 23 = .ok (.aload_n 0, 1) := by decide +kernel
theorem dX6_as_24 : decode cX6_as 24 = .ok (.getfield 25, 3) := by decide +kernel
theorem dX6_as_27 : decode cX6_as 27 = .ok (.getfield 258, 3) := by decide +kernel
theorem dX6_as_30 : decode cX6_as 30 = .ok (.iload_n 1, 1) := by decide +kernel
theorem dX6_as_31 : decode cX6_as 31 = .ok (.iaload, 1) := by decide +kernel
theorem dX6_as_32 : decode cX6_as 32 = .ok (.iload_n 2, 1) := by decide +kernel
theorem dX6_as_33 : decode cX6_as 33 = .ok (.invokestatic 261, 3) := by decide +kernel
theorem dX6_as_36 : decode cX6_as 36 = .ok (.ifCond .eq 11, 3) := by decide +kernel
theorem dX6_as_39 : decode cX6_as 39 = .ok (.aload_n 0, 1) := by decide +kernel
theorem dX6_as_40 : decode cX6_as 40 = .ok (.iload_n 1, 1) := by decide +kernel
theorem dX6_as_41 : decode cX6_as 41 = .ok (.invokevirtual 75, 3) := by decide +kernel
theorem dX6_as_44 : decode cX6_as 44 = .ok (.goto 8, 3) := by decide +kernel
theorem dX6_as_47 : decode cX6_as 47 = .ok (.aload_n 0, 1) := by decide +kernel
theorem dX6_as_48 : decode cX6_as 48 = .ok (.iconst 3, 1) := by decide +kernel
theorem dX6_as_49 : decode cX6_as 49 = .ok (.invokevirtual 67, 3) := by decide +kernel
theorem dX6_as_52 : decode cX6_as 52 = .ok (.ireturn, 1) := by decide +kernel
theorem dX6_ask_0 : decode cX6_ask 0 = .ok (.aload_n 0, 1) := by decide +kernel
theorem dX6_ask_1 : decode cX6_ask 1 = .ok (.getfield 25, 3) := by decide +kernel
theorem dX6_ask_4 : decode cX6_ask 4 = .ok (.iload_n 1, 1) := by decide +kernel
theorem dX6_ask_5 : decode cX6_ask 5 = .ok (.invokevirtual 151, 3) := by decide +kernel
theorem dX6_ask_8 : decode cX6_ask 8 = .ok (.ifCond .eq 12, 3) := by decide +kernel
theorem dX6_ask_11 : decode cX6_ask 11 = .ok (.iload_n 2, 1) := by decide +kernel
theorem dX6_ask_12 : decode cX6_ask 12 = .ok (.iconst 0, 1) := by decide +kernel
theorem dX6_ask_13 : decode cX6_ask 13 = .ok (.iconst 1, 1) := by decide +kernel
theorem dX6_ask_14 : decode cX6_ask 14 = .ok (.invokestatic 62, 3) := by decide +kernel
theorem dX6_ask_17 : decode cX6_ask 17 = .ok (.ifCond .ne 6, 3) := by decide +kernel
theorem dX6_ask_20 : decode cX6_ask 20 = .ok (.ldc 66, 2) := by decide +kernel
theorem dX6_ask_22 : decode cX6_ask 22 = .ok (.ireturn, 1) := by decide +kernel
theorem dX6_ask_23 : decode cX6_ask 23 = .ok (.iload_n 2, 1) := by decide +kernel
theorem dX6_ask_24 : decode cX6_ask 24 = .ok (.ifCond .ne 18, 3) := by decide +kernel
theorem dX6_ask_27 : decode cX6_ask 27 = .ok (.aload_n 0, 1) := by decide +kernel
theorem dX6_ask_28 : decode cX6_ask 28 = .ok (.getfield 53, 3) := by decide +kernel
theorem dX6_ask_31 : decode cX6_ask 31 = .ok (.aload_n 0, 1) := by decide +kernel
theorem dX6_ask_32 : decode cX6_ask 32 = .ok (.getfield 25, 3) := by decide +kernel
theorem dX6_ask_35 : decode cX6_ask 35 = .ok (.iload_n 1, 1) := by decide +kernel
theorem dX6_ask_36 : decode cX6_ask 36 = .ok (.invokevirtual 264, 3) := by decide +kernel
theorem dX6_ask_39 : decode cX6_ask 39 = .ok (.goto 15, 3) := by decide +kernel
theorem dX6_ask_42 : decode cX6_ask 42 = .ok (.aload_n 0, 1) := by decide +kernel
theorem dX6_ask_43 : decode cX6_ask 43 = .ok (.getfield 53, 3) := by decide +kernel
theorem dX6_ask_46 : decode cX6_ask 46 = .ok (.aload_n 0, 1) := by decide +kernel
theorem dX6_ask_47 : decode cX6_ask 47 = .ok (.getfield 25, 3) := by decide +kernel
theorem dX6_ask_50 : decode cX6_ask 50 = .ok (.iload_n 1, 1) := by decide +kernel
theorem dX6_ask_51 : decode cX6_ask 51 = .ok (.invokevirtual 267, 3) := by decide +kernel
theorem dX6_ask_54 : decode cX6_ask 54 = .ok (.ireturn, 1) := by decide +kernel
theorem dX6_trace_0 : decode cX6_trace 0 = .ok (.iload_n 1, 1) := by decide +kernel
theorem dX6_trace_1 : decode cX6_trace 1 = .ok (.iconst 0, 1) := by decide +kernel
theorem dX6_trace_2 : decode cX6_trace 2 = .ok (.aload_n 0, 1) := by decide +kernel
theorem dX6_trace_3 : decode cX6_trace 3 = .ok (.getfield 53, 3) := by decide +kernel
theorem dX6_trace_6 : decode cX6_trace 6 = .ok (.getfield 270, 3) := by decide +kernel
theorem dX6_trace_9 : decode cX6_trace 9 = .ok (.iconst 1, 1) := by decide +kernel
theorem dX6_trace_10 : decode cX6_trace 10 = .ok (.isub, 1) := by decide +kernel
theorem dX6_trace_11 : decode cX6_trace 11 = .ok (.invokestatic 62, 3) := by decide +kernel
theorem dX6_trace_14 : decode cX6_trace 14 = .ok (.ifCond .eq 15, 3) := by decide +kernel
theorem dX6_trace_17 : decode cX6_trace 17 = .ok (.aload_n 0, 1) := by decide +kernel
theorem dX6_trace_18 : decode cX6_trace 18 = .ok (.getfield 53, 3) := by decide +kernel
theorem dX6_trace_21 : decode cX6_trace 21 = .ok (.getfield 273, 3) := by decide +kernel
theorem dX6_trace_24 : decode cX6_trace 24 = .ok (.iload_n 1, 1) := by decide +kernel
theorem dX6_trace_25 : decode cX6_trace 25 = .ok (.iaload, 1) := by decide +kernel
theorem dX6_trace_26 : decode cX6_trace 26 = .ok (.goto 5, 3) := by decide +kernel
theorem dX6_trace_29 : decode cX6_trace 29 = .ok (.ldc 201, 2) := by decide +kernel
theorem dX6_trace_31 : decode cX6_trace 31 = .ok (.ireturn, 1) := by decide +kernel
theorem dX6_count_0 : decode cX6_count 0 = .ok (.iload_n 1, 1) := by decide +kernel
theorem dX6_count_1 : decode cX6_count 1 = .ok (.tableswitch 120 0 8 #[51, 56, 64, 72, 80, 88, 96, 104, 112], 51) := by decide +kernel
theorem dX6_count_52 : decode cX6_count 52 = .ok (.aload_n 0, 1) := by decide +kernel
theorem dX6_count_53 : decode cX6_count 53 = .ok (.invokevirtual 276, 3) := by decide +kernel
theorem dX6_count_56 : decode cX6_count 56 = .ok (.ireturn, 1) := by decide +kernel
theorem dX6_count_57 : decode cX6_count 57 = .ok (.aload_n 0, 1) := by decide +kernel
theorem dX6_count_58 : decode cX6_count 58 = .ok (.getfield 25, 3) := by decide +kernel
theorem dX6_count_61 : decode cX6_count 61 = .ok (.getfield 134, 3) := by decide +kernel
theorem dX6_count_64 : decode cX6_count 64 = .ok (.ireturn, 1) := by decide +kernel
theorem dX6_count_65 : decode cX6_count 65 = .ok (.aload_n 0, 1) := by decide +kernel
theorem dX6_count_66 : decode cX6_count 66 = .ok (.getfield 25, 3) := by decide +kernel
theorem dX6_count_69 : decode cX6_count 69 = .ok (.getfield 138, 3) := by decide +kernel
theorem dX6_count_72 : decode cX6_count 72 = .ok (.ireturn, 1) := by decide +kernel
theorem dX6_count_73 : decode cX6_count 73 = .ok (.aload_n 0, 1) := by decide +kernel
theorem dX6_count_74 : decode cX6_count 74 = .ok (.getfield 25, 3) := by decide +kernel
theorem dX6_count_77 : decode cX6_count 77 = .ok (.getfield 171, 3) := by decide +kernel
theorem dX6_count_80 : decode cX6_count 80 = .ok (.ireturn, 1) := by decide +kernel
theorem dX6_count_81 : decode cX6_count 81 = .ok (.aload_n 0, 1) := by decide +kernel
theorem dX6_count_82 : decode cX6_count 82 = .ok (.getfield 25, 3) := by decide +kernel
theorem dX6_count_85 : decode cX6_count 85 = .ok (.getfield 160, 3) := by decide +kernel
theorem dX6_count_88 : decode cX6_count 88 = .ok (.ireturn, 1) := by decide +kernel
theorem dX6_count_89 : decode cX6_count 89 = .ok (.aload_n 0, 1) := by decide +kernel
theorem dX6_count_90 : decode cX6_count 90 = .ok (.getfield 25, 3) := by decide +kernel
theorem dX6_count_93 : decode cX6_count 93 = .ok (.getfield 148, 3) := by decide +kernel
theorem dX6_count_96 : decode cX6_count 96 = .ok (.ireturn, 1) := by decide +kernel
theorem dX6_count_97 : decode cX6_count 97 = .ok (.aload_n 0, 1) := by decide +kernel
theorem dX6_count_98 : decode cX6_count 98 = .ok (.getfield 25, 3) := by decide +kernel
theorem dX6_count_101 : decode cX6_count 101 = .ok (.invokevirtual 279, 3) := by decide +kernel
theorem dX6_count_104 : decode cX6_count 104 = .ok (.ireturn, 1) := by decide +kernel
theorem dX6_count_105 : decode cX6_count 105 = .ok (.aload_n 0, 1) := by decide +kernel
theorem dX6_count_106 : decode cX6_count 106 = .ok (.getfield 35, 3) := by decide +kernel
theorem dX6_count_109 : decode cX6_count 109 = .ok (.getfield 183, 3) := by decide +kernel
theorem dX6_count_112 : decode cX6_count 112 = .ok (.ireturn, 1) := by decide +kernel
theorem dX6_count_113 : decode cX6_count 113 = .ok (.aload_n 0, 1) := by decide +kernel
theorem dX6_count_114 : decode cX6_count 114 = .ok (.getfield 18, 3) := by decide +kernel
theorem dX6_count_117 : decode cX6_count 117 = .ok (.getfield 114, 3) := by decide +kernel
theorem dX6_count_120 : decode cX6_count 120 = .ok (.ireturn, 1) := by decide +kernel
theorem dX6_count_121 : decode cX6_count 121 = .ok (.ldc 66, 2) := by decide +kernel
theorem dX6_count_123 : decode cX6_count 123 = .ok (.ireturn, 1) := by decide +kernel
theorem dX6_status_0 : decode cX6_status 0 = .ok (.aload_n 0, 1) := by decide +kernel
theorem dX6_status_1 : decode cX6_status 1 = .ok (.getfield 282, 3) := by decide +kernel
theorem dX6_status_4 : decode cX6_status 4 = .ok (.ireturn, 1) := by decide +kernel
theorem dX6_found_0 : decode cX6_found 0 = .ok (.aload_n 0, 1) := by decide +kernel
theorem dX6_found_1 : decode cX6_found 1 = .ok (.iload_n 1, 1) := by decide +kernel
theorem dX6_found_2 : decode cX6_found 2 = .ok (.putfield 282, 3) := by decide +kernel
theorem dX6_found_5 : decode cX6_found 5 = .ok (.ldc_w 285, 3) := by decide +kernel
theorem dX6_found_8 : decode cX6_found 8 = .ok (.iload_n 1, 1) := by decide +kernel
theorem dX6_found_9 : decode cX6_found 9 = .ok (.isub, 1) := by decide +kernel
theorem dX6_found_10 : decode cX6_found 10 = .ok (.ireturn, 1) := by decide +kernel
theorem dX6_fine_0 : decode cX6_fine 0 = .ok (.aload_n 0, 1) := by decide +kernel
theorem dX6_fine_1 : decode cX6_fine 1 = .ok (.iconst 0, 1) := by decide +kernel
theorem dX6_fine_2 : decode cX6_fine 2 = .ok (.putfield 282, 3) := by decide +kernel
theorem dX6_fine_5 : decode cX6_fine 5 = .ok (.iload_n 1, 1) := by decide +kernel
theorem dX6_fine_6 : decode cX6_fine 6 = .ok (.ireturn, 1) := by decide +kernel
theorem dX6_findingOf_0 : decode cX6_findingOf 0 = .ok (.aload_n 0, 1) := by decide +kernel
theorem dX6_findingOf_1 : decode cX6_findingOf 1 = .ok (.getfield 11, 3) := by decide +kernel
theorem dX6_findingOf_4 : decode cX6_findingOf 4 = .ok (.iload_n 1, 1) := by decide +kernel
theorem dX6_findingOf_5 : decode cX6_findingOf 5 = .ok (.aaload, 1) := by decide +kernel
theorem dX6_findingOf_6 : decode cX6_findingOf 6 = .ok (.getfield 86, 3) := by decide +kernel
theorem dX6_findingOf_9 : decode cX6_findingOf 9 = .ok (.ifCond .eq 5, 3) := by decide +kernel
theorem dX6_findingOf_12 : decode cX6_findingOf 12 = .ok (.iconst 1, 1) := by decide +kernel
theorem dX6_findingOf_13 : decode cX6_findingOf 13 = .ok (.ireturn, 1) := by decide +kernel
theorem dX6_findingOf_14 : decode cX6_findingOf 14 = .ok (.aload_n 0, 1) := by decide +kernel
theorem dX6_findingOf_15 : decode cX6_findingOf 15 = .ok (.getfield 11, 3) := by decide +kernel
theorem dX6_findingOf_18 : decode cX6_findingOf 18 = .ok (.iload_n 1, 1) := by decide +kernel
theorem dX6_findingOf_19 : decode cX6_findingOf 19 = .ok (.aaload, 1) := by decide +kernel
theorem dX6_findingOf_20 : decode cX6_findingOf 20 = .ok (.iload_n 2, 1) := by decide +kernel
theorem dX6_findingOf_21 : decode cX6_findingOf 21 = .ok (.iload_n 3, 1) := by decide +kernel
theorem dX6_findingOf_22 : decode cX6_findingOf 22 = .ok (.invokevirtual 94, 3) := by decide +kernel
theorem dX6_findingOf_25 : decode cX6_findingOf 25 = .ok (.ifCond .eq 7, 3) := by decide +kernel
theorem dX6_findingOf_28 : decode cX6_findingOf 28 = .ok (.iconst 0, 1) := by decide +kernel
theorem dX6_findingOf_29 : decode cX6_findingOf 29 = .ok (.goto 4, 3) := by decide +kernel
theorem dX6_findingOf_32 : decode cX6_findingOf 32 = .ok (.iconst 2, 1) := by decide +kernel
theorem dX6_findingOf_33 : decode cX6_findingOf 33 = .ok (.ireturn, 1) := by decide +kernel
theorem dX6_countRows_0 : decode cX6_countRows 0 = .ok (.iconst 0, 1) := by decide +kernel
theorem dX6_countRows_1 : decode cX6_countRows 1 = .ok (.istore_n 1, 1) := by decide +kernel
theorem dX6_countRows_2 : decode cX6_countRows 2 = .ok (.iconst 0, 1) := by decide +kernel
theorem dX6_countRows_3 : decode cX6_countRows 3 = .ok (.istore_n 2, 1) := by decide +kernel
theorem dX6_countRows_4 : decode cX6_countRows 4 = .ok (.iload_n 2, 1) := by decide +kernel
theorem dX6_countRows_5 : decode cX6_countRows 5 = .ok (.bipush 8, 2) := by decide +kernel
theorem dX6_countRows_7 : decode cX6_countRows 7 = .ok (.if_icmp .ge 24, 3) := by decide +kernel
theorem dX6_countRows_10 : decode cX6_countRows 10 = .ok (.aload_n 0, 1) := by decide +kernel
theorem dX6_countRows_11 : decode cX6_countRows 11 = .ok (.getfield 11, 3) := by decide +kernel
theorem dX6_countRows_14 : decode cX6_countRows 14 = .ok (.iload_n 2, 1) := by decide +kernel
theorem dX6_countRows_15 : decode cX6_countRows 15 = .ok (.aaload, 1) := by decide +kernel
theorem dX6_countRows_16 : decode cX6_countRows 16 = .ok (.getfield 86, 3) := by decide +kernel
theorem dX6_countRows_19 : decode cX6_countRows 19 = .ok (.ifCond .ne 6, 3) := by decide +kernel
theorem dX6_countRows_22 : decode cX6_countRows 22 = .ok (.iinc 1 1, 3) := by decide +kernel
theorem dX6_countRows_25 : decode cX6_countRows 25 = .ok (.iinc 2 1, 3) := by decide +kernel
theorem dX6_countRows_28 : decode cX6_countRows 28 = .ok (.goto (-24), 3) := by decide +kernel
theorem dX6_countRows_31 : decode cX6_countRows 31 = .ok (.iload_n 1, 1) := by decide +kernel
theorem dX6_countRows_32 : decode cX6_countRows 32 = .ok (.ireturn, 1) := by decide +kernel
theorem dX6_isRow_0 : decode cX6_isRow 0 = .ok (.iload_n 0, 1) := by decide +kernel
theorem dX6_isRow_1 : decode cX6_isRow 1 = .ok (.iconst 0, 1) := by decide +kernel
theorem dX6_isRow_2 : decode cX6_isRow 2 = .ok (.bipush 7, 2) := by decide +kernel
theorem dX6_isRow_4 : decode cX6_isRow 4 = .ok (.invokestatic 62, 3) := by decide +kernel
theorem dX6_isRow_7 : decode cX6_isRow 7 = .ok (.ireturn, 1) := by decide +kernel
theorem dX6_within_0 : decode cX6_within 0 = .ok (.iload_n 0, 1) := by decide +kernel
theorem dX6_within_1 : decode cX6_within 1 = .ok (.iload_n 1, 1) := by decide +kernel
theorem dX6_within_2 : decode cX6_within 2 = .ok (.if_icmp .lt 12, 3) := by decide +kernel
theorem dX6_within_5 : decode cX6_within 5 = .ok (.iload_n 0, 1) := by decide +kernel
theorem dX6_within_6 : decode cX6_within 6 = .ok (.iload_n 2, 1) := by decide +kernel
theorem dX6_within_7 : decode cX6_within 7 = .ok (.if_icmp .gt 7, 3) := by decide +kernel
theorem dX6_within_10 : decode cX6_within 10 = .ok (.iconst 1, 1) := by decide +kernel
theorem dX6_within_11 : decode cX6_within 11 = .ok (.goto 4, 3) := by decide +kernel
theorem dX6_within_14 : decode cX6_within 14 = .ok (.iconst 0, 1) := by decide +kernel
theorem dX6_within_15 : decode cX6_within 15 = .ok (.ireturn, 1) := by decide +kernel
theorem dX6_isA_0 : decode cX6_isA 0 = .ok (.iload_n 0, 1) := by decide +kernel
theorem dX6_isA_1 : decode cX6_isA 1 = .ok (.istore_n 2, 1) := by decide +kernel
theorem dX6_isA_2 : decode cX6_isA 2 = .ok (.iconst 0, 1) := by decide +kernel
theorem dX6_isA_3 : decode cX6_isA 3 = .ok (.istore_n 3, 1) := by decide +kernel
theorem dX6_isA_4 : decode cX6_isA 4 = .ok (.iload_n 3, 1) := by decide +kernel
theorem dX6_isA_5 : decode cX6_isA 5 = .ok (.iconst 5, 1) := by decide +kernel
theorem dX6_isA_6 : decode cX6_isA 6 = .ok (.if_icmp .gt 26, 3) := by decide +kernel
theorem dX6_isA_9 : decode cX6_isA 9 = .ok (.iload_n 2, 1) := by decide +kernel
theorem dX6_isA_10 : decode cX6_isA 10 = .ok (.ifCond .lt 22, 3) := by decide +kernel
theorem dX6_isA_13 : decode cX6_isA 13 = .ok (.iload_n 2, 1) := by decide +kernel
theorem dX6_isA_14 : decode cX6_isA 14 = .ok (.iload_n 1, 1) := by decide +kernel
theorem dX6_isA_15 : decode cX6_isA 15 = .ok (.if_icmp .ne 5, 3) := by decide +kernel
theorem dX6_isA_18 : decode cX6_isA 18 = .ok (.iconst 1, 1) := by decide +kernel
theorem dX6_isA_19 : decode cX6_isA 19 = .ok (.ireturn, 1) := by decide +kernel
theorem dX6_isA_20 : decode cX6_isA 20 = .ok (.getstatic 286, 3) := by decide +kernel
theorem dX6_isA_23 : decode cX6_isA 23 = .ok (.iload_n 2, 1) := by decide +kernel
theorem dX6_isA_24 : decode cX6_isA 24 = .ok (.iaload, 1) := by decide +kernel
theorem dX6_isA_25 : decode cX6_isA 25 = .ok (.istore_n 2, 1) := by decide +kernel
theorem dX6_isA_26 : decode cX6_isA 26 = .ok (.iinc 3 1, 3) := by decide +kernel
theorem dX6_isA_29 : decode cX6_isA 29 = .ok (.goto (-25), 3) := by decide +kernel
theorem dX6_isA_32 : decode cX6_isA 32 = .ok (.iconst 0, 1) := by decide +kernel
theorem dX6_isA_33 : decode cX6_isA 33 = .ok (.ireturn, 1) := by decide +kernel
theorem dX6_power_0 : decode cX6_power 0 = .ok (.lconst 1, 1) := by decide +kernel
theorem dX6_power_1 : decode cX6_power 1 = .ok (.lstore_n 2, 1) := by decide +kernel
theorem dX6_power_2 : decode cX6_power 2 = .ok (.iconst 0, 1) := by decide +kernel
theorem dX6_power_3 : decode cX6_power 3 = .ok (.istore 4, 2) := by decide +kernel
theorem dX6_power_5 : decode cX6_power 5 = .ok (.iload 4, 2) := by decide +kernel
theorem dX6_power_7 : decode cX6_power 7 = .ok (.iload_n 1, 1) := by decide +kernel
theorem dX6_power_8 : decode cX6_power 8 = .ok (.if_icmp .ge 14, 3) := by decide +kernel
theorem dX6_power_11 : decode cX6_power 11 = .ok (.lload_n 2, 1) := by decide +kernel
theorem dX6_power_12 : decode cX6_power 12 = .ok (.iload_n 0, 1) := by decide +kernel
theorem dX6_power_13 : decode cX6_power 13 = .ok (.i2l, 1) := by decide +kernel
theorem dX6_power_14 : decode cX6_power 14 = .ok (.lmul, 1) := by decide +kernel
theorem dX6_power_15 : decode cX6_power 15 = .ok (.lstore_n 2, 1) := by decide +kernel
theorem dX6_power_16 : decode cX6_power 16 = .ok (.iinc 4 1, 3) := by decide +kernel
theorem dX6_power_19 : decode cX6_power 19 = .ok (.goto (-14), 3) := by decide +kernel
theorem dX6_power_22 : decode cX6_power 22 = .ok (.lload_n 2, 1) := by decide +kernel
theorem dX6_power_23 : decode cX6_power 23 = .ok (.lreturn, 1) := by decide +kernel
theorem dX6_commonDivisor_0 : decode cX6_commonDivisor 0 = .ok (.lload_n 0, 1) := by decide +kernel
theorem dX6_commonDivisor_1 : decode cX6_commonDivisor 1 = .ok (.lstore 4, 2) := by decide +kernel
theorem dX6_commonDivisor_3 : decode cX6_commonDivisor 3 = .ok (.lload_n 2, 1) := by decide +kernel
theorem dX6_commonDivisor_4 : decode cX6_commonDivisor 4 = .ok (.lstore 6, 2) := by decide +kernel
theorem dX6_commonDivisor_6 : decode cX6_commonDivisor 6 = .ok (.iconst 0, 1) := by decide +kernel
theorem dX6_commonDivisor_7 : decode cX6_commonDivisor 7 = .ok (.istore 8, 2) := by decide +kernel
theorem dX6_commonDivisor_9 : decode cX6_commonDivisor 9 = .ok (.iload 8, 2) := by decide +kernel
theorem dX6_commonDivisor_11 : decode cX6_commonDivisor 11 = .ok (.sipush 128, 3) := by decide +kernel
theorem dX6_commonDivisor_14 : decode cX6_commonDivisor 14 = .ok (.if_icmp .ge 31, 3) := by decide +kernel
theorem dX6_commonDivisor_17 : decode cX6_commonDivisor 17 = .ok (.lload 6, 2) := by decide +kernel
theorem dX6_commonDivisor_19 : decode cX6_commonDivisor 19 = .ok (.lconst 0, 1) := by decide +kernel
theorem dX6_commonDivisor_20 : decode cX6_commonDivisor 20 = .ok (.lcmp, 1) := by decide +kernel
theorem dX6_commonDivisor_21 : decode cX6_commonDivisor 21 = .ok (.ifCond .eq 24, 3) := by decide +kernel
theorem dX6_commonDivisor_24 : decode cX6_commonDivisor 24 = .ok (.lload 4, 2) := by decide +kernel
theorem dX6_commonDivisor_26 : decode cX6_commonDivisor 26 = .ok (.lload 6, 2) := by decide +kernel
theorem dX6_commonDivisor_28 : decode cX6_commonDivisor 28 = .ok (.lrem, 1) := by decide +kernel
theorem dX6_commonDivisor_29 : decode cX6_commonDivisor 29 = .ok (.lstore 9, 2) := by decide +kernel
theorem dX6_commonDivisor_31 : decode cX6_commonDivisor 31 = .ok (.lload 6, 2) := by decide +kernel
theorem dX6_commonDivisor_33 : decode cX6_commonDivisor 33 = .ok (.lstore 4, 2) := by decide +kernel
theorem dX6_commonDivisor_35 : decode cX6_commonDivisor 35 = .ok (.lload 9, 2) := by decide +kernel
theorem dX6_commonDivisor_37 : decode cX6_commonDivisor 37 = .ok (.lstore 6, 2) := by decide +kernel
theorem dX6_commonDivisor_39 : decode cX6_commonDivisor 39 = .ok (.iinc 8 1, 3) := by decide +kernel
theorem dX6_commonDivisor_42 : decode cX6_commonDivisor 42 = .ok (.goto (-33), 3) := by decide +kernel
theorem dX6_commonDivisor_45 : decode cX6_commonDivisor 45 = .ok (.lload 4, 2) := by decide +kernel
theorem dX6_commonDivisor_47 : decode cX6_commonDivisor 47 = .ok (.lreturn, 1) := by decide +kernel
end
section
theorem dX7_init_0 : decode cX7_init 0 = .ok (.aload_n 0, 1) := by decide +kernel
theorem dX7_init_1 : decode cX7_init 1 = .ok (.invokespecial 1, 3) := by decide +kernel
theorem dX7_init_4 : decode cX7_init 4 = .ok (.aload_n 0, 1) := by decide +kernel
theorem dX7_init_5 : decode cX7_init 5 = .ok (.bipush 8, 2) := by decide +kernel
theorem dX7_init_7 : decode cX7_init 7 = .ok (.newarray .int, 2) := by decide +kernel
theorem dX7_init_9 : decode cX7_init 9 = .ok (.putfield 7, 3) := by decide +kernel
theorem dX7_init_12 : decode cX7_init 12 = .ok (.aload_n 0, 1) := by decide +kernel
theorem dX7_init_13 : decode cX7_init 13 = .ok (.bipush 8, 2) := by decide +kernel
theorem dX7_init_15 : decode cX7_init 15 = .ok (.newarray .int, 2) := by decide +kernel
theorem dX7_init_17 : decode cX7_init 17 = .ok (.putfield 13, 3) := by decide +kernel
theorem dX7_init_20 : decode cX7_init 20 = .ok (.aload_n 0, 1) := by decide +kernel
theorem dX7_init_21 : decode cX7_init 21 = .ok (.sipush 320, 3) := by decide +kernel
theorem dX7_init_24 : decode cX7_init 24 = .ok (.newarray .int, 2) := by decide +kernel
theorem dX7_init_26 : decode cX7_init 26 = .ok (.putfield 16, 3) := by decide +kernel
theorem dX7_init_29 : decode cX7_init 29 = .ok (.aload_n 0, 1) := by decide +kernel
theorem dX7_init_30 : decode cX7_init 30 = .ok (.bipush 40, 2) := by decide +kernel
theorem dX7_init_32 : decode cX7_init 32 = .ok (.newarray .int, 2) := by decide +kernel
theorem dX7_init_34 : decode cX7_init 34 = .ok (.putfield 19, 3) := by decide +kernel
theorem dX7_init_37 : decode cX7_init 37 = .ok (.aload_n 0, 1) := by decide +kernel
theorem dX7_init_38 : decode cX7_init 38 = .ok (.bipush 60, 2) := by decide +kernel
theorem dX7_init_40 : decode cX7_init 40 = .ok (.newarray .int, 2) := by decide +kernel
theorem dX7_init_42 : decode cX7_init 42 = .ok (.putfield 22, 3) := by decide +kernel
theorem dX7_init_45 : decode cX7_init 45 = .ok (.aload_n 0, 1) := by decide +kernel
theorem dX7_init_46 : decode cX7_init 46 = .ok (.bipush 63, 2) := by decide +kernel
theorem dX7_init_48 : decode cX7_init 48 = .ok (.newarray .int, 2) := by decide +kernel
theorem dX7_init_50 : decode cX7_init 50 = .ok (.putfield 25, 3) := by decide +kernel
theorem dX7_init_53 : decode cX7_init 53 = .ok (.aload_n 0, 1) := by decide +kernel
theorem dX7_init_54 : decode cX7_init 54 = .ok (.bipush 63, 2) := by decide +kernel
theorem dX7_init_56 : decode cX7_init 56 = .ok (.newarray .int, 2) := by decide +kernel
theorem dX7_init_58 : decode cX7_init 58 = .ok (.putfield 28, 3) := by decide +kernel
theorem dX7_init_61 : decode cX7_init 61 = .ok (.aload_n 0, 1) := by decide +kernel
theorem dX7_init_62 : decode cX7_init 62 = .ok (.bipush 126, 2) := by decide +kernel
theorem dX7_init_64 : decode cX7_init 64 = .ok (.newarray .int, 2) := by decide +kernel
theorem dX7_init_66 : decode cX7_init 66 = .ok (.putfield 31, 3) := by decide +kernel
theorem dX7_init_69 : decode cX7_init 69 = .ok (.aload_n 0, 1) := by decide +kernel
theorem dX7_init_70 : decode cX7_init 70 = .ok (.iconst 2, 1) := by decide +kernel
theorem dX7_init_71 : decode cX7_init 71 = .ok (.newarray .boolean, 2) := by decide +kernel
theorem dX7_init_73 : decode cX7_init 73 = .ok (.putfield 34, 3) := by decide +kernel
theorem dX7_init_76 : decode cX7_init 76 = .ok (.aload_n 0, 1) := by decide +kernel
theorem dX7_init_77 : decode cX7_init 77 = .ok (.sipush 1104, 3) := by decide +kernel
theorem dX7_init_80 : decode cX7_init 80 = .ok (.newarray .int, 2) := by decide +kernel
theorem dX7_init_82 : decode cX7_init 82 = .ok (.putfield 38, 3) := by decide +kernel
theorem dX7_init_85 : decode cX7_init 85 = .ok (.aload_n 0, 1) := by decide +kernel
theorem dX7_init_86 : decode cX7_init 86 = .ok (.bipush 63, 2) := by decide +kernel
theorem dX7_init_88 : decode cX7_init 88 = .ok (.newarray .int, 2) := by decide +kernel
theorem dX7_init_90 : decode cX7_init 90 = .ok (.putfield 41, 3) := by decide +kernel
theorem dX7_init_93 : decode cX7_init 93 = .ok (.aload_n 0, 1) := by decide +kernel
theorem dX7_init_94 : decode cX7_init 94 = .ok (.bipush 16, 2) := by decide +kernel
theorem dX7_init_96 : decode cX7_init 96 = .ok (.newarray .int, 2) := by decide +kernel
theorem dX7_init_98 : decode cX7_init 98 = .ok (.putfield 44, 3) := by decide +kernel
theorem dX7_init_101 : decode cX7_init 101 = .ok (.iconst 0, 1) := by decide +kernel
theorem dX7_init_102 : decode cX7_init 102 = .ok (.istore_n 1, 1) := by decide +kernel
theorem dX7_init_103 : decode cX7_init 103 = .ok (.iload_n 1, 1) := by decide +kernel
theorem dX7_init_104 : decode cX7_init 104 = .ok (.bipush 8, 2) := by decide +kernel
theorem dX7_init_106 : decode cX7_init 106 = .ok (.if_icmp .ge 16, 3) := by decide +kernel
theorem dX7_init_109 : decode cX7_init 109 = .ok (.aload_n 0, 1) := by decide +kernel
theorem dX7_init_110 : decode cX7_init 110 = .ok (.getfield 7, 3) := by decide +kernel
theorem dX7_init_113 : decode cX7_init 113 = .ok (.iload_n 1, 1) := by decide +kernel
theorem dX7_init_114 : decode cX7_init 114 = .ok (.iconst (-1), 1) := by decide +kernel
theorem dX7_init_115 : decode cX7_init 115 = .ok (.iastore, 1) := by decide +kernel
theorem dX7_init_116 : decode cX7_init 116 = .ok (.iinc 1 1, 3) := by decide +kernel
theorem dX7_init_119 : decode cX7_init 119 = .ok (.goto (-16), 3) := by decide +kernel
theorem dX7_init_122 : decode cX7_init 122 = .ok (.return_, 1) := by decide +kernel
theorem dX7_in_0 : decode cX7_in 0 = .ok (.iload_n 0, 1) := by decide +kernel
theorem dX7_in_1 : decode cX7_in 1 = .ok (.iload_n 1, 1) := by decide +kernel
theorem dX7_in_2 : decode cX7_in 2 = .ok (.if_icmp .lt 12, 3) := by decide +kernel
theorem dX7_in_5 : decode cX7_in 5 = .ok (.iload_n 0, 1) := by decide +kernel
theorem dX7_in_6 : decode cX7_in 6 = .ok (.iload_n 2, 1) := by decide +kernel
theorem dX7_in_7 : decode cX7_in 7 = .ok (.if_icmp .gt 7, 3) := by decide +kernel
theorem dX7_in_10 : decode cX7_in 10 = .ok (.iconst 1, 1) := by decide +kernel
theorem dX7_in_11 : decode cX7_in 11 = .ok (.goto 4, 3) := by decide +kernel
theorem dX7_in_14 : decode cX7_in 14 = .ok (.iconst 0, 1) := by decide +kernel
theorem dX7_in_15 : decode cX7_in 15 = .ok (.ireturn, 1) := by decide +kernel
theorem dX7_isRow_0 : decode cX7_isRow 0 = .ok (.iload_n 0, 1) := by decide +kernel
theorem dX7_isRow_1 : decode cX7_isRow 1 = .ok (.iconst 0, 1) := by decide +kernel
theorem dX7_isRow_2 : decode cX7_isRow 2 = .ok (.bipush 7, 2) := by decide +kernel
theorem dX7_isRow_4 : decode cX7_isRow 4 = .ok (.invokestatic 47, 3) := by decide +kernel
theorem dX7_isRow_7 : decode cX7_isRow 7 = .ok (.ireturn, 1) := by decide +kernel
theorem dX7_ends_0 : decode cX7_ends 0 = .ok (.aload_n 0, 1) := by decide +kernel
theorem dX7_ends_1 : decode cX7_ends 1 = .ok (.iload_n 1, 1) := by decide +kernel
theorem dX7_ends_2 : decode cX7_ends 2 = .ok (.ldc 51, 2) := by decide +kernel
theorem dX7_ends_4 : decode cX7_ends 4 = .ok (.ldc 52, 2) := by decide +kernel
theorem dX7_ends_6 : decode cX7_ends 6 = .ok (.invokestatic 47, 3) := by decide +kernel
theorem dX7_ends_9 : decode cX7_ends 9 = .ok (.ifCond .eq 10, 3) := by decide +kernel
theorem dX7_ends_12 : decode cX7_ends 12 = .ok (.ldc 53, 2) := by decide +kernel
theorem dX7_ends_14 : decode cX7_ends 14 = .ok (.iload_n 1, 1) := by decide +kernel
theorem dX7_ends_15 : decode cX7_ends 15 = .ok (.isub, 1) := by decide +kernel
theorem dX7_ends_16 : decode cX7_ends 16 = .ok (.goto 4, 3) := by decide +kernel
theorem dX7_ends_19 : decode cX7_ends 19 = .ok (.iconst 0, 1) := by decide +kernel
theorem dX7_ends_20 : decode cX7_ends 20 = .ok (.putfield 54, 3) := by decide +kernel
theorem dX7_ends_23 : decode cX7_ends 23 = .ok (.iload_n 1, 1) := by decide +kernel
theorem dX7_ends_24 : decode cX7_ends 24 = .ok (.ireturn, 1) := by decide +kernel
theorem dX7_cut_0 : decode cX7_cut 0 = .ok (.iload_n 0, 1) := by decide +kernel
theorem dX7_cut_1 : decode cX7_cut 1 = .ok (.ifCond .ne 8, 3) := by decide +kernel
theorem dX7_cut_4 : decode cX7_cut 4 = .ok (.iload_n 1, 1) := by decide +kernel
theorem dX7_cut_5 : decode cX7_cut 5 = .ok (.i2b, 1) := by decide +kernel
theorem dX7_cut_6 : decode cX7_cut 6 = .ok (.goto 14, 3) := by decide +kernel
theorem dX7_cut_9 : decode cX7_cut 9 = .ok (.iload_n 0, 1) := by decide +kernel
theorem dX7_cut_10 : decode cX7_cut 10 = .ok (.iconst 1, 1) := by decide +kernel
theorem dX7_cut_11 : decode cX7_cut 11 = .ok (.if_icmp .ne 8, 3) := by decide +kernel
theorem dX7_cut_14 : decode cX7_cut 14 = .ok (.iload_n 1, 1) := by decide +kernel
theorem dX7_cut_15 : decode cX7_cut 15 = .ok (.i2s, 1) := by decide +kernel
theorem dX7_cut_16 : decode cX7_cut 16 = .ok (.goto 4, 3) := by decide +kernel
theorem dX7_cut_19 : decode cX7_cut 19 = .ok (.iload_n 1, 1) := by decide +kernel
theorem dX7_cut_20 : decode cX7_cut 20 = .ok (.ireturn, 1) := by decide +kernel
theorem dX7_row_0 : decode cX7_row 0 = .ok (.iload_n 1, 1) := by decide +kernel
theorem dX7_row_1 : decode cX7_row 1 = .ok (.invokestatic 58, 3) := by decide +kernel
theorem dX7_row_4 : decode cX7_row 4 = .ok (.ifCond .eq 18, 3) := by decide +kernel
theorem dX7_row_7 : decode cX7_row 7 = .ok (.iload_n 2, 1) := by decide +kernel
theorem dX7_row_8 : decode cX7_row 8 = .ok (.iconst 0, 1) := by decide +kernel
theorem dX7_row_9 : decode cX7_row 9 = .ok (.iconst 2, 1) := by decide +kernel
theorem dX7_row_10 : decode cX7_row 10 = .ok (.invokestatic 47, 3) := by decide +kernel
theorem dX7_row_13 : decode cX7_row 13 = .ok (.ifCond .eq 9, 3) := by decide +kernel
theorem dX7_row_16 : decode cX7_row 16 = .ok (.iload_n 3, 1) := by decide +kernel
theorem dX7_row_17 : decode cX7_row 17 = .ok (.bipush 40, 2) := by decide +kernel
theorem dX7_row_19 : decode cX7_row 19 = .ok (.if_icmp .le 6, 3) := by decide +kernel
theorem dX7_row_22 : decode cX7_row 22 = .ok (.ldc 62, 2) := by decide +kernel
theorem dX7_row_24 : decode cX7_row 24 = .ok (.ireturn, 1) := by decide +kernel
theorem dX7_row_25 : decode cX7_row 25 = .ok (.iload_n 3, 1) := by decide +kernel
theorem dX7_row_26 : decode cX7_row 26 = .ok (.ifCond .ge 10, 3) := by decide +kernel
theorem dX7_row_29 : decode cX7_row 29 = .ok (.aload_n 0, 1) := by decide +kernel
theorem dX7_row_30 : decode cX7_row 30 = .ok (.ldc 63, 2) := by decide +kernel
theorem dX7_row_32 : decode cX7_row 32 = .ok (.invokevirtual 64, 3) := by decide +kernel
theorem dX7_row_35 : decode cX7_row 35 = .ok (.ireturn, 1) := by decide +kernel
theorem dX7_row_36 : decode cX7_row 36 = .ok (.aload_n 0, 1) := by decide +kernel
theorem dX7_row_37 : decode cX7_row 37 = .ok (.getfield 7, 3) := by decide +kernel
theorem dX7_row_40 : decode cX7_row 40 = .ok (.iload_n 1, 1) := by decide +kernel
theorem dX7_row_41 : decode cX7_row 41 = .ok (.iload_n 3, 1) := by decide +kernel
theorem dX7_row_42 : decode cX7_row 42 = .ok (.iastore, 1) := by decide +kernel
theorem dX7_row_43 : decode cX7_row 43 = .ok (.aload_n 0, 1) := by decide +kernel
theorem dX7_row_44 : decode cX7_row 44 = .ok (.getfield 13, 3) := by decide +kernel
theorem dX7_row_47 : decode cX7_row 47 = .ok (.iload_n 1, 1) := by decide +kernel
theorem dX7_row_48 : decode cX7_row 48 = .ok (.iload_n 2, 1) := by decide +kernel
theorem dX7_row_49 : decode cX7_row 49 = .ok (.iastore, 1) := by decide +kernel
theorem dX7_row_50 : decode cX7_row 50 = .ok (.iconst 0, 1) := by decide +kernel
theorem dX7_row_51 : decode cX7_row 51 = .ok (.istore 4, 2) := by decide +kernel
theorem dX7_row_53 : decode cX7_row 53 = .ok (.iload 4, 2) := by decide +kernel
theorem dX7_row_55 : decode cX7_row 55 = .ok (.bipush 40, 2) := by decide +kernel
theorem dX7_row_57 : decode cX7_row 57 = .ok (.if_icmp .ge 22, 3) := by decide +kernel
theorem dX7_row_60 : decode cX7_row 60 = .ok (.aload_n 0, 1) := by decide +kernel
theorem dX7_row_61 : decode cX7_row 61 = .ok (.getfield 16, 3) := by decide +kernel
theorem dX7_row_64 : decode cX7_row 64 = .ok (.bipush 40, 2) := by decide +kernel
theorem dX7_row_66 : decode cX7_row 66 = .ok (.iload_n 1, 1) := by decide +kernel
theorem dX7_row_67 : decode cX7_row 67 = .ok (.imul, 1) := by decide +kernel
theorem dX7_row_68 : decode cX7_row 68 = .ok (.iload 4, 2) := by decide +kernel
theorem dX7_row_70 : decode cX7_row 70 = .ok (.iadd, 1) := by decide +kernel
theorem dX7_row_71 : decode cX7_row 71 = .ok (.iconst 0, 1) := by decide +kernel
theorem dX7_row_72 : decode cX7_row 72 = .ok (.iastore, 1) := by decide +kernel
theorem dX7_row_73 : decode cX7_row 73 = .ok (.iinc 4 1, 3) := by decide +kernel
theorem dX7_row_76 : decode cX7_row 76 = .ok (.goto (-23), 3) := by decide +kernel
theorem dX7_row_79 : decode cX7_row 79 = .ok (.aload_n 0, 1) := by decide +kernel
theorem dX7_row_80 : decode cX7_row 80 = .ok (.iload_n 3, 1) := by decide +kernel
theorem dX7_row_81 : decode cX7_row 81 = .ok (.invokevirtual 64, 3) := by decide +kernel
theorem dX7_row_84 : decode cX7_row 84 = .ok (.ireturn, 1) := by decide +kernel
theorem dX7_lies_0 : decode cX7_lies 0 = .ok (.iload_n 2, 1) := by decide +kernel
theorem dX7_lies_1 : decode cX7_lies 1 = .ok (.ifCond .lt 33, 3) := by decide +kernel
theorem dX7_lies_4 : decode cX7_lies 4 = .ok (.iload_n 3, 1) := by decide +kernel
theorem dX7_lies_5 : decode cX7_lies 5 = .ok (.ifCond .lt 29, 3) := by decide +kernel
theorem dX7_lies_8 : decode cX7_lies 8 = .ok (.iload_n 3, 1) := by decide +kernel
theorem dX7_lies_9 : decode cX7_lies 9 = .ok (.aload_n 0, 1) := by decide +kernel
theorem dX7_lies_10 : decode cX7_lies 10 = .ok (.getfield 7, 3) := by decide +kernel
theorem dX7_lies_13 : decode cX7_lies 13 = .ok (.iload_n 1, 1) := by decide +kernel
theorem dX7_lies_14 : decode cX7_lies 14 = .ok (.iaload, 1) := by decide +kernel
theorem dX7_lies_15 : decode cX7_lies 15 = .ok (.if_icmp .gt 19, 3) := by decide +kernel
theorem dX7_lies_18 : decode cX7_lies 18 = .ok (.iload_n 2, 1) := by decide +kernel
theorem dX7_lies_19 : decode cX7_lies 19 = .ok (.aload_n 0, 1) := by decide +kernel
theorem dX7_lies_20 : decode cX7_lies 20 = .ok (.getfield 7, 3) := by decide +kernel
theorem dX7_lies_23 : decode cX7_lies 23 = .ok (.iload_n 1, 1) := by decide +kernel
theorem dX7_lies_24 : decode cX7_lies 24 = .ok (.iaload, 1) := by decide +kernel
theorem dX7_lies_25 : decode cX7_lies 25 = .ok (.iload_n 3, 1) := by decide +kernel
theorem dX7_lies_26 : decode cX7_lies 26 = .ok (.isub, 1) := by decide +kernel
theorem dX7_lies_27 : decode cX7_lies 27 = .ok (.if_icmp .gt 7, 3) := by decide +kernel
theorem dX7_lies_30 : decode cX7_lies 30 = .ok (.iconst 1, 1) := by decide +kernel
theorem dX7_lies_31 : decode cX7_lies 31 = .ok (.goto 4, 3) := by decide +kernel
theorem dX7_lies_34 : decode cX7_lies 34 = .ok (.iconst 0, 1) := by decide +kernel
theorem dX7_lies_35 : decode cX7_lies 35 = .ok (.ireturn, 1) := by decide +kernel
theorem dX7_set_0 : decode cX7_set 0 = .ok (.iload_n 1, 1) := by decide +kernel
theorem dX7_set_1 : decode cX7_set 1 = .ok (.invokestatic 58, 3) := by decide +kernel
theorem dX7_set_4 : decode cX7_set 4 = .ok (.ifCond .ne 6, 3) := by decide +kernel
theorem dX7_set_7 : decode cX7_set 7 = .ok (.ldc 62, 2) := by decide +kernel
theorem dX7_set_9 : decode cX7_set 9 = .ok (.ireturn, 1) := by decide +kernel
theorem dX7_set_10 : decode cX7_set 10 = .ok (.aload_n 0, 1) := by decide +kernel
theorem dX7_set_11 : decode cX7_set 11 = .ok (.getfield 7, 3) := by decide +kernel
theorem dX7_set_14 : decode cX7_set 14 = .ok (.iload_n 1, 1) := by decide +kernel
theorem dX7_set_15 : decode cX7_set 15 = .ok (.iaload, 1) := by decide +kernel
theorem dX7_set_16 : decode cX7_set 16 = .ok (.ifCond .ge 10, 3) := by decide +kernel
theorem dX7_set_19 : decode cX7_set 19 = .ok (.aload_n 0, 1) := by decide +kernel
theorem dX7_set_20 : decode cX7_set 20 = .ok (.ldc 52, 2) := by decide +kernel
theorem dX7_set_22 : decode cX7_set 22 = .ok (.invokevirtual 64, 3) := by decide +kernel
theorem dX7_set_25 : decode cX7_set 25 = .ok (.ireturn, 1) := by decide +kernel
theorem dX7_set_26 : decode cX7_set 26 = .ok (.aload_n 0, 1) := by decide +kernel
theorem dX7_set_27 : decode cX7_set 27 = .ok (.iload_n 1, 1) := by decide +kernel
theorem dX7_set_28 : decode cX7_set 28 = .ok (.iload_n 2, 1) := by decide +kernel
theorem dX7_set_29 : decode cX7_set 29 = .ok (.iconst 1, 1) := by decide +kernel
theorem dX7_set_30 : decode cX7_set 30 = .ok (.invokevirtual 68, 3) := by decide +kernel
theorem dX7_set_33 : decode cX7_set 33 = .ok (.ifCond .ne 10, 3) := by decide +kernel
theorem dX7_set_36 : decode cX7_set 36 = .ok (.aload_n 0, 1) := by decide +kernel
theorem dX7_set_37 : decode cX7_set 37 = .ok (.ldc 71, 2) := by decide +kernel
theorem dX7_set_39 : decode cX7_set 39 = .ok (.invokevirtual 64, 3) := by decide +kernel
theorem dX7_set_42 : decode cX7_set 42 = .ok (.ireturn, 1) := by decide +kernel
theorem dX7_set_43 : decode cX7_set 43 = .ok (.aload_n 0, 1) := by decide +kernel
theorem dX7_set_44 : decode cX7_set 44 = .ok (.getfield 13, 3) := by decide +kernel
theorem dX7_set_47 : decode cX7_set 47 = .ok (.iload_n 1, 1) := by decide +kernel
theorem dX7_set_48 : decode cX7_set 48 = .ok (.iaload, 1) := by decide +kernel
theorem dX7_set_49 : decode cX7_set 49 = .ok (.iload_n 3, 1) := by decide +kernel
theorem dX7_set_50 : decode cX7_set 50 = .ok (.invokestatic 72, 3) := by decide +kernel
theorem dX7_set_53 : decode cX7_set 53 = .ok (.istore 4, 2) := by decide +kernel
theorem dX7_set_55 : decode cX7_set 55 = .ok (.aload_n 0, 1) := by decide +kernel
theorem dX7_set_56 : decode cX7_set 56 = .ok (.getfield 16, 3) := by decide +kernel
theorem dX7_set_59 : decode cX7_set 59 = .ok (.bipush 40, 2) := by decide +kernel
theorem dX7_set_61 : decode cX7_set 61 = .ok (.iload_n 1, 1) := by decide +kernel
theorem dX7_set_62 : decode cX7_set 62 = .ok (.imul, 1) := by decide +kernel
theorem dX7_set_63 : decode cX7_set 63 = .ok (.iload_n 2, 1) := by decide +kernel
theorem dX7_set_64 : decode cX7_set 64 = .ok (.iadd, 1) := by decide +kernel
theorem dX7_set_65 : decode cX7_set 65 = .ok (.iload 4, 2) := by decide +kernel
theorem dX7_set_67 : decode cX7_set 67 = .ok (.iastore, 1) := by decide +kernel
theorem dX7_set_68 : decode cX7_set 68 = .ok (.aload_n 0, 1) := by decide +kernel
theorem dX7_set_69 : decode cX7_set 69 = .ok (.iconst 0, 1) := by decide +kernel
theorem dX7_set_70 : decode cX7_set 70 = .ok (.putfield 54, 3) := by decide +kernel
theorem dX7_set_73 : decode cX7_set 73 = .ok (.iload 4, 2) := by decide +kernel
theorem dX7_set_75 : decode cX7_set 75 = .ok (.ireturn, 1) := by decide +kernel
theorem dX7_copy_0 : decode cX7_copy 0 = .ok (.iload_n 1, 1) := by decide +kernel
theorem dX7_copy_1 : decode cX7_copy 1 = .ok (.invokestatic 58, 3) := by decide +kernel
theorem dX7_copy_4 : decode cX7_copy 4 = .ok (.ifCond .eq 10, 3) := by decide +kernel
theorem dX7_copy_7 : decode cX7_copy 7 = .ok (.iload_n 3, 1) := by decide +kernel
theorem dX7_copy_8 : decode cX7_copy 8 = .ok (.invokestatic 58, 3) := by decide +kernel
theorem dX7_copy_11 : decode cX7_copy 11 = .ok (.ifCond .ne 6, 3) := by decide +kernel
theorem dX7_copy_14 : decode cX7_copy 14 = .ok (.ldc 62, 2) := by decide +kernel
theorem dX7_copy_16 : decode cX7_copy 16 = .ok (.ireturn, 1) := by decide +kernel
theorem dX7_copy_17 : decode cX7_copy 17 = .ok (.aload_n 0, 1) := by decide +kernel
theorem dX7_copy_18 : decode cX7_copy 18 = .ok (.getfield 7, 3) := by decide +kernel
theorem dX7_copy_21 : decode cX7_copy 21 = .ok (.iload_n 1, 1) := by decide +kernel
theorem dX7_copy_22 : decode cX7_copy 22 = .ok (.iaload, 1) := by decide +kernel
theorem dX7_copy_23 : decode cX7_copy 23 = .ok (.ifCond .lt 12, 3) := by decide +kernel
theorem dX7_copy_26 : decode cX7_copy 26 = .ok (.aload_n 0, 1) := by decide +kernel
theorem dX7_copy_27 : decode cX7_copy 27 = .ok (.getfield 7, 3) := by decide +kernel
theorem dX7_copy_30 : decode cX7_copy 30 = .ok (.iload_n 3, 1) := by decide +kernel
theorem dX7_copy_31 : decode cX7_copy 31 = .ok (.iaload, 1) := by decide +kernel
theorem dX7_copy_32 : decode cX7_copy 32 = .ok (.ifCond .ge 10, 3) := by decide +kernel
theorem dX7_copy_35 : decode cX7_copy 35 = .ok (.aload_n 0, 1) := by decide +kernel
theorem dX7_copy_36 : decode cX7_copy 36 = .ok (.ldc 52, 2) := by decide +kernel
theorem dX7_copy_38 : decode cX7_copy 38 = .ok (.invokevirtual 64, 3) := by decide +kernel
theorem dX7_copy_41 : decode cX7_copy 41 = .ok (.ireturn, 1) := by decide +kernel
theorem dX7_copy_42 : decode cX7_copy 42 = .ok (.aload_n 0, 1) := by decide +kernel
theorem dX7_copy_43 : decode cX7_copy 43 = .ok (.getfield 13, 3) := by decide +kernel
theorem dX7_copy_46 : decode cX7_copy 46 = .ok (.iload_n 1, 1) := by decide +kernel
theorem dX7_copy_47 : decode cX7_copy 47 = .ok (.iaload, 1) := by decide +kernel
theorem dX7_copy_48 : decode cX7_copy 48 = .ok (.aload_n 0, 1) := by decide +kernel
theorem dX7_copy_49 : decode cX7_copy 49 = .ok (.getfield 13, 3) := by decide +kernel
theorem dX7_copy_52 : decode cX7_copy 52 = .ok (.iload_n 3, 1) := by decide +kernel
theorem dX7_copy_53 : decode cX7_copy 53 = .ok (.iaload, 1) := by decide +kernel
theorem dX7_copy_54 : decode cX7_copy 54 = .ok (.if_icmp .eq 10, 3) := by decide +kernel
theorem dX7_copy_57 : decode cX7_copy 57 = .ok (.aload_n 0, 1) := by decide +kernel
theorem dX7_copy_58 : decode cX7_copy 58 = .ok (.ldc 51, 2) := by decide +kernel
theorem dX7_copy_60 : decode cX7_copy 60 = .ok (.invokevirtual 64, 3) := by decide +kernel
theorem dX7_copy_63 : decode cX7_copy 63 = .ok (.ireturn, 1) := by decide +kernel
theorem dX7_copy_64 : decode cX7_copy 64 = .ok (.aload_n 0, 1) := by decide +kernel
theorem dX7_copy_65 : decode cX7_copy 65 = .ok (.iload_n 1, 1) := by decide +kernel
theorem dX7_copy_66 : decode cX7_copy 66 = .ok (.iload_n 2, 1) := by decide +kernel
theorem dX7_copy_67 : decode cX7_copy 67 = .ok (.iload 5, 2) := by decide +kernel
theorem dX7_copy_69 : decode cX7_copy 69 = .ok (.invokevirtual 68, 3) := by decide +kernel
theorem dX7_copy_72 : decode cX7_copy 72 = .ok (.ifCond .eq 15, 3) := by decide +kernel
theorem dX7_copy_75 : decode cX7_copy 75 = .ok (.aload_n 0, 1) := by decide +kernel
theorem dX7_copy_76 : decode cX7_copy 76 = .ok (.iload_n 3, 1) := by decide +kernel
theorem dX7_copy_77 : decode cX7_copy 77 = .ok (.iload 4, 2) := by decide +kernel
theorem dX7_copy_79 : decode cX7_copy 79 = .ok (.iload 5, 2) := by decide +kernel
theorem dX7_copy_81 : decode cX7_copy 81 = .ok (.invokevirtual 68, 3) := by decide +kernel
theorem dX7_copy_84 : decode cX7_copy 84 = .ok (.ifCond .ne 10, 3) := by decide +kernel
theorem dX7_copy_87 : decode cX7_copy 87 = .ok (.aload_n 0, 1) := by decide +kernel
theorem dX7_copy_88 : decode cX7_copy 88 = .ok (.ldc 71, 2) := by decide +kernel
theorem dX7_copy_90 : decode cX7_copy 90 = .ok (.invokevirtual 64, 3) := by decide +kernel
theorem dX7_copy_93 : decode cX7_copy 93 = .ok (.ireturn, 1) := by decide +kernel
theorem dX7_copy_94 : decode cX7_copy 94 = .ok (.iconst 0, 1) := by decide +kernel
theorem dX7_copy_95 : decode cX7_copy 95 = .ok (.istore 6, 2) := by decide +kernel
theorem dX7_copy_97 : decode cX7_copy 97 = .ok (.iload 6, 2) := by decide +kernel
theorem dX7_copy_99 : decode cX7_copy 99 = .ok (.iload 5, 2) := by decide +kernel
theorem dX7_copy_101 : decode cX7_copy 101 = .ok (.if_icmp .ge 30, 3) := by decide +kernel
theorem dX7_copy_104 : decode cX7_copy 104 = .ok (.aload_n 0, 1) := by decide +kernel
theorem dX7_copy_105 : decode cX7_copy 105 = .ok (.getfield 19, 3) := by decide +kernel
theorem dX7_copy_108 : decode cX7_copy 108 = .ok (.iload 6, 2) := by decide +kernel
theorem dX7_copy_110 : decode cX7_copy 110 = .ok (.aload_n 0, 1) := by decide +kernel
theorem dX7_copy_111 : decode cX7_copy 111 = .ok (.getfield 16, 3) := by decide +kernel
theorem dX7_copy_114 : decode cX7_copy 114 = .ok (.bipush 40, 2) := by decide +kernel
theorem dX7_copy_116 : decode cX7_copy 116 = .ok (.iload_n 1, 1) := by decide +kernel
theorem dX7_copy_117 : decode cX7_copy 117 = .ok (.imul, 1) := by decide +kernel
theorem dX7_copy_118 : decode cX7_copy 118 = .ok (.iload_n 2, 1) := by decide +kernel
theorem dX7_copy_119 : decode cX7_copy 119 = .ok (.iadd, 1) := by decide +kernel
theorem dX7_copy_120 : decode cX7_copy 120 = .ok (.iload 6, 2) := by decide +kernel
theorem dX7_copy_122 : decode cX7_copy 122 = .ok (.iadd, 1) := by decide +kernel
theorem dX7_copy_123 : decode cX7_copy 123 = .ok (.iaload, 1) := by decide +kernel
theorem dX7_copy_124 : decode cX7_copy 124 = .ok (.iastore, 1) := by decide +kernel
theorem dX7_copy_125 : decode cX7_copy 125 = .ok (.iinc 6 1, 3) := by decide +kernel
theorem dX7_copy_128 : decode cX7_copy 128 = .ok (.goto (-31), 3) := by decide +kernel
theorem dX7_copy_131 : decode cX7_copy 131 = .ok (.iconst 0, 1) := by decide +kernel
theorem dX7_copy_132 : decode cX7_copy 132 = .ok (.istore 6, 2) := by decide +kernel
theorem dX7_copy_134 : decode cX7_copy 134 = .ok (.iload 6, 2) := by decide +kernel
theorem dX7_copy_136 : decode cX7_copy 136 = .ok (.iload 5, 2) := by decide +kernel
theorem dX7_copy_138 : decode cX7_copy 138 = .ok (.if_icmp .ge 31, 3) := by decide +kernel
theorem dX7_copy_141 : decode cX7_copy 141 = .ok (.aload_n 0, 1) := by decide +kernel
theorem dX7_copy_142 : decode cX7_copy 142 = .ok (.getfield 16, 3) := by decide +kernel
theorem dX7_copy_145 : decode cX7_copy 145 = .ok (.bipush 40, 2) := by decide +kernel
theorem dX7_copy_147 : decode cX7_copy 147 = .ok (.iload_n 3, 1) := by decide +kernel
theorem dX7_copy_148 : decode cX7_copy 148 = .ok (.imul, 1) := by decide +kernel
theorem dX7_copy_149 : decode cX7_copy 149 = .ok (.iload 4, 2) := by decide +kernel
theorem dX7_copy_151 : decode cX7_copy 151 = .ok (.iadd, 1) := by decide +kernel
theorem dX7_copy_152 : decode cX7_copy 152 = .ok (.iload 6, 2) := by decide +kernel
theorem dX7_copy_154 : decode cX7_copy 154 = .ok (.iadd, 1) := by decide +kernel
theorem dX7_copy_155 : decode cX7_copy 155 = .ok (.aload_n 0, 1) := by decide +kernel
theorem dX7_copy_156 : decode cX7_copy 156 = .ok (.getfield 19, 3) := by decide +kernel
theorem dX7_copy_159 : decode cX7_copy 159 = .ok (.iload 6, 2) := by decide +kernel
theorem dX7_copy_161 : decode cX7_copy 161 = .ok (.iaload, 1) := by decide +kernel
theorem dX7_copy_162 : decode cX7_copy 162 = .ok (.iastore, 1) := by decide +kernel
theorem dX7_copy_163 : decode cX7_copy 163 = .ok (.iinc 6 1, 3) := by decide +kernel
theorem dX7_copy_166 : decode cX7_copy 166 = .ok (.goto (-32), 3) := by decide +kernel
theorem dX7_copy_169 : decode cX7_copy 169 = .ok (.aload_n 0, 1) := by decide +kernel
theorem dX7_copy_170 : decode cX7_copy 170 = .ok (.iload 5, 2) := by decide +kernel
theorem dX7_copy_172 : decode cX7_copy 172 = .ok (.invokevirtual 64, 3) := by decide +kernel
theorem dX7_copy_175 : decode cX7_copy 175 = .ok (.ireturn, 1) := by decide +kernel
theorem dX7_drop_0 : decode cX7_drop 0 = .ok (.iload_n 1, 1) := by decide +kernel
theorem dX7_drop_1 : decode cX7_drop 1 = .ok (.invokestatic 58, 3) := by decide +kernel
theorem dX7_drop_4 : decode cX7_drop 4 = .ok (.ifCond .ne 6, 3) := by decide +kernel
theorem dX7_drop_7 : decode cX7_drop 7 = .ok (.ldc 62, 2) := by decide +kernel
theorem dX7_drop_9 : decode cX7_drop 9 = .ok (.ireturn, 1) := by decide +kernel
theorem dX7_drop_10 : decode cX7_drop 10 = .ok (.aload_n 0, 1) := by decide +kernel
theorem dX7_drop_11 : decode cX7_drop 11 = .ok (.getfield 7, 3) := by decide +kernel
theorem dX7_drop_14 : decode cX7_drop 14 = .ok (.iload_n 1, 1) := by decide +kernel
theorem dX7_drop_15 : decode cX7_drop 15 = .ok (.iaload, 1) := by decide +kernel
theorem dX7_drop_16 : decode cX7_drop 16 = .ok (.ifCond .ge 10, 3) := by decide +kernel
theorem dX7_drop_19 : decode cX7_drop 19 = .ok (.aload_n 0, 1) := by decide +kernel
theorem dX7_drop_20 : decode cX7_drop 20 = .ok (.ldc 52, 2) := by decide +kernel
theorem dX7_drop_22 : decode cX7_drop 22 = .ok (.invokevirtual 64, 3) := by decide +kernel
theorem dX7_drop_25 : decode cX7_drop 25 = .ok (.ireturn, 1) := by decide +kernel
theorem dX7_drop_26 : decode cX7_drop 26 = .ok (.aload_n 0, 1) := by decide +kernel
theorem dX7_drop_27 : decode cX7_drop 27 = .ok (.getfield 7, 3) := by decide +kernel
theorem dX7_drop_30 : decode cX7_drop 30 = .ok (.iload_n 1, 1) := by decide +kernel
theorem dX7_drop_31 : decode cX7_drop 31 = .ok (.iaload, 1) := by decide +kernel
theorem dX7_drop_32 : decode cX7_drop 32 = .ok (.istore_n 2, 1) := by decide +kernel
theorem dX7_drop_33 : decode cX7_drop 33 = .ok (.aload_n 0, 1) := by decide +kernel
theorem dX7_drop_34 : decode cX7_drop 34 = .ok (.getfield 7, 3) := by decide +kernel
theorem dX7_drop_37 : decode cX7_drop 37 = .ok (.iload_n 1, 1) := by decide +kernel
theorem dX7_drop_38 : decode cX7_drop 38 = .ok (.iconst (-1), 1) := by decide +kernel
theorem dX7_drop_39 : decode cX7_drop 39 = .ok (.iastore, 1) := by decide +kernel
theorem dX7_drop_40 : decode cX7_drop 40 = .ok (.aload_n 0, 1) := by decide +kernel
theorem dX7_drop_41 : decode cX7_drop 41 = .ok (.iload_n 2, 1) := by decide +kernel
theorem dX7_drop_42 : decode cX7_drop 42 = .ok (.invokevirtual 64, 3) := by decide +kernel
theorem dX7_drop_45 : decode cX7_drop 45 = .ok (.ireturn, 1) := by decide +kernel
theorem dX7_feed_0 : decode cX7_feed 0 = .ok (.iload_n 1, 1) := by decide +kernel
theorem dX7_feed_1 : decode cX7_feed 1 = .ok (.iconst 0, 1) := by decide +kernel
theorem dX7_feed_2 : decode cX7_feed 2 = .ok (.sipush 255, 3) := by decide +kernel
theorem dX7_feed_5 : decode cX7_feed 5 = .ok (.invokestatic 47, 3) := by decide +kernel
theorem dX7_feed_8 : decode cX7_feed 8 = .ok (.ifCond .ne 6, 3) := by decide +kernel
theorem dX7_feed_11 : decode cX7_feed 11 = .ok (.ldc 62, 2) := by decide +kernel
theorem dX7_feed_13 : decode cX7_feed 13 = .ok (.ireturn, 1) := by decide +kernel
theorem dX7_feed_14 : decode cX7_feed 14 = .ok (.aload_n 0, 1) := by decide +kernel
theorem dX7_feed_15 : decode cX7_feed 15 = .ok (.getfield 76, 3) := by decide +kernel
theorem dX7_feed_18 : decode cX7_feed 18 = .ok (.bipush 60, 2) := by decide +kernel
theorem dX7_feed_20 : decode cX7_feed 20 = .ok (.if_icmp .ne 6, 3) := by decide +kernel
theorem dX7_feed_23 : decode cX7_feed 23 = .ok (.ldc 79, 2) := by decide +kernel
theorem dX7_feed_25 : decode cX7_feed 25 = .ok (.ireturn, 1) := by decide +kernel
theorem dX7_feed_26 : decode cX7_feed 26 = .ok (.aload_n 0, 1) := by decide +kernel
theorem dX7_feed_27 : decode cX7_feed 27 = .ok (.getfield 22, 3) := by decide +kernel
theorem dX7_feed_30 : decode cX7_feed 30 = .ok (.aload_n 0, 1) := by decide +kernel
theorem dX7_feed_31 : decode cX7_feed 31 = .ok (.getfield 76, 3) := by decide +kernel
theorem dX7_feed_34 : decode cX7_feed 34 = .ok (.iload_n 1, 1) := by decide +kernel
theorem dX7_feed_35 : decode cX7_feed 35 = .ok (.iastore, 1) := by decide +kernel
theorem dX7_feed_36 : decode cX7_feed 36 = .ok (.aload_n 0, 1) := by decide +kernel
theorem dX7_feed_37 : decode cX7_feed 37 = .ok (.dup, 1) := by decide +kernel
theorem dX7_feed_38 : decode cX7_feed 38 = .ok (.getfield 76, 3) := by decide +kernel
theorem dX7_feed_41 : decode cX7_feed 41 = .ok (.iconst 1, 1) := by decide +kernel
theorem dX7_feed_42 : decode cX7_feed 42 = .ok (.iadd, 1) := by decide +kernel
theorem dX7_feed_43 : decode cX7_feed 43 = .ok (.putfield 76, 3) := by decide +kernel
theorem dX7_feed_46 : decode cX7_feed 46 = .ok (.aload_n 0, 1) := by decide +kernel
theorem dX7_feed_47 : decode cX7_feed 47 = .ok (.getfield 76, 3) := by decide +kernel
theorem dX7_feed_50 : decode cX7_feed 50 = .ok (.ireturn, 1) := by decide +kernel
theorem dX7_letterAt_0 : decode cX7_letterAt 0 = .ok (.iload_n 1, 1) := by decide +kernel
theorem dX7_letterAt_1 : decode cX7_letterAt 1 = .ok (.aload_n 0, 1) := by decide +kernel
theorem dX7_letterAt_2 : decode cX7_letterAt 2 = .ok (.getfield 76, 3) := by decide +kernel
theorem dX7_letterAt_5 : decode cX7_letterAt 5 = .ok (.if_icmp .ge 12, 3) := by decide +kernel
theorem dX7_letterAt_8 : decode cX7_letterAt 8 = .ok (.aload_n 0, 1) := by decide +kernel
theorem dX7_letterAt_9 : decode cX7_letterAt 9 = .ok (.getfield 22, 3) := by decide +kernel
theorem dX7_letterAt_12 : decode cX7_letterAt 12 = .ok (.iload_n 1, 1) := by decide +kernel
theorem dX7_letterAt_13 : decode cX7_letterAt 13 = .ok (.iaload, 1) := by decide +kernel
theorem dX7_letterAt_14 : decode cX7_letterAt 14 = .ok (.goto 4, 3) := by decide +kernel
theorem dX7_letterAt_17 : decode cX7_letterAt 17 = .ok (.iconst (-1), 1) := by decide +kernel
theorem dX7_letterAt_18 : decode cX7_letterAt 18 = .ok (.ireturn, 1) := by decide +kernel
theorem dX7_isDigit_0 : decode cX7_isDigit 0 = .ok (.iload_n 0, 1) := by decide +kernel
theorem dX7_isDigit_1 : decode cX7_isDigit 1 = .ok (.bipush 48, 2) := by decide +kernel
theorem dX7_isDigit_3 : decode cX7_isDigit 3 = .ok (.bipush 57, 2) := by decide +kernel
theorem dX7_isDigit_5 : decode cX7_isDigit 5 = .ok (.invokestatic 47, 3) := by decide +kernel
theorem dX7_isDigit_8 : decode cX7_isDigit 8 = .ok (.ireturn, 1) := by decide +kernel
theorem dX7_fails_0 : decode cX7_fails 0 = .ok (.aload_n 0, 1) := by decide +kernel
theorem dX7_fails_1 : decode cX7_fails 1 = .ok (.iload_n 1, 1) := by decide +kernel
theorem dX7_fails_2 : decode cX7_fails 2 = .ok (.putfield 80, 3) := by decide +kernel
theorem dX7_fails_5 : decode cX7_fails 5 = .ok (.iconst 0, 1) := by decide +kernel
theorem dX7_fails_6 : decode cX7_fails 6 = .ok (.ireturn, 1) := by decide +kernel
theorem dX7_reads_0 : decode cX7_reads 0 = .ok (.iconst 0, 1) := by decide +kernel
theorem dX7_reads_1 : decode cX7_reads 1 = .ok (.istore_n 2, 1) := by decide +kernel
theorem dX7_reads_2 : decode cX7_reads 2 = .ok (.iconst 0, 1) := by decide +kernel
theorem dX7_reads_3 : decode cX7_reads 3 = .ok (.istore_n 3, 1) := by decide +kernel
theorem dX7_reads_4 : decode cX7_reads 4 = .ok (.aload_n 0, 1) := by decide +kernel
theorem dX7_reads_5 : decode cX7_reads 5 = .ok (.aload_n 0, 1) := by decide +kernel
theorem dX7_reads_6 : decode cX7_reads 6 = .ok (.getfield 83, 3) := by decide +kernel
theorem dX7_reads_9 : decode cX7_reads 9 = .ok (.iload_n 2, 1) := by decide +kernel
theorem dX7_reads_10 : decode cX7_reads 10 = .ok (.iadd, 1) := by decide +kernel
theorem dX7_reads_11 : decode cX7_reads 11 = .ok (.invokevirtual 86, 3) := by decide +kernel
theorem dX7_reads_14 : decode cX7_reads 14 = .ok (.invokestatic 89, 3) := by decide +kernel
theorem dX7_reads_17 : decode cX7_reads 17 = .ok (.ifCond .eq 34, 3) := by decide +kernel
theorem dX7_reads_20 : decode cX7_reads 20 = .ok (.iload_n 2, 1) := by decide +kernel
theorem dX7_reads_21 : decode cX7_reads 21 = .ok (.iconst 3, 1) := by decide +kernel
theorem dX7_reads_22 : decode cX7_reads 22 = .ok (.if_icmp .ge 29, 3) := by decide +kernel
theorem dX7_reads_25 : decode cX7_reads 25 = .ok (.bipush 10, 2) := by decide +kernel
theorem dX7_reads_27 : decode cX7_reads 27 = .ok (.iload_n 3, 1) := by decide +kernel
theorem dX7_reads_28 : decode cX7_reads 28 = .ok (.imul, 1) := by decide +kernel
theorem dX7_reads_29 : decode cX7_reads 29 = .ok (.aload_n 0, 1) := by decide +kernel
theorem dX7_reads_30 : decode cX7_reads 30 = .ok (.getfield 22, 3) := by decide +kernel
theorem dX7_reads_33 : decode cX7_reads 33 = .ok (.aload_n 0, 1) := by decide +kernel
theorem dX7_reads_34 : decode cX7_reads 34 = .ok (.getfield 83, 3) := by decide +kernel
theorem dX7_reads_37 : decode cX7_reads 37 = .ok (.iload_n 2, 1) := by decide +kernel
theorem dX7_reads_38 : decode cX7_reads 38 = .ok (.iadd, 1) := by decide +kernel
theorem dX7_reads_39 : decode cX7_reads 39 = .ok (.iaload, 1) := by decide +kernel
theorem dX7_reads_40 : decode cX7_reads 40 = .ok (.iadd, 1) := by decide +kernel
theorem dX7_reads_41 : decode cX7_reads 41 = .ok (.bipush 48, 2) := by decide +kernel
theorem dX7_reads_43 : decode cX7_reads 43 = .ok (.isub, 1) := by decide +kernel
theorem dX7_reads_44 : decode cX7_reads 44 = .ok (.istore_n 3, 1) := by decide +kernel
theorem dX7_reads_45 : decode cX7_reads 45 = .ok (.iinc 2 1, 3) := by decide +kernel
theorem dX7_reads_48 : decode cX7_reads 48 = .ok (.goto (-44), 3) := by decide +kernel
theorem dX7_reads_51 : decode cX7_reads 51 = .ok (.iload_n 2, 1) := by decide +kernel
theorem dX7_reads_52 : decode cX7_reads 52 = .ok (.ifCond .eq 8, 3) := by decide +kernel
theorem dX7_reads_55 : decode cX7_reads 55 = .ok (.iload_n 2, 1) := by decide +kernel
theorem dX7_reads_56 : decode cX7_reads 56 = .ok (.iconst 3, 1) := by decide +kernel
theorem dX7_reads_57 : decode cX7_reads 57 = .ok (.if_icmp .ne 9, 3) := by decide +kernel
theorem dX7_reads_60 : decode cX7_reads 60 = .ok (.aload_n 0, 1) := by decide +kernel
theorem dX7_reads_61 : decode cX7_reads 61 = .ok (.iconst 1, 1) := by decide +kernel
theorem dX7_reads_62 : decode cX7_reads 62 = .ok (.invokevirtual 92, 3) := by decide +kernel
theorem dX7_reads_65 : decode cX7_reads 65 = .ok (.ireturn, 1) := by decide +kernel
theorem dX7_reads_66 : decode cX7_reads 66 = .ok (.iload_n 3, 1) := by decide +kernel
theorem dX7_reads_67 : decode cX7_reads 67 = .ok (.iconst 1, 1) := by decide +kernel
theorem dX7_reads_68 : decode cX7_reads 68 = .ok (.iconst 4, 1) := by decide +kernel
theorem dX7_reads_69 : decode cX7_reads 69 = .ok (.invokestatic 47, 3) := by decide +kernel
theorem dX7_reads_72 : decode cX7_reads 72 = .ok (.ifCond .ne 9, 3) := by decide +kernel
theorem dX7_reads_75 : decode cX7_reads 75 = .ok (.aload_n 0, 1) := by decide +kernel
theorem dX7_reads_76 : decode cX7_reads 76 = .ok (.iconst 2, 1) := by decide +kernel
theorem dX7_reads_77 : decode cX7_reads 77 = .ok (.invokevirtual 92, 3) := by decide +kernel
theorem dX7_reads_80 : decode cX7_reads 80 = .ok (.ireturn, 1) := by decide +kernel
theorem dX7_reads_81 : decode cX7_reads 81 = .ok (.aload_n 0, 1) := by decide +kernel
theorem dX7_reads_82 : decode cX7_reads 82 = .ok (.dup, 1) := by decide +kernel
theorem dX7_reads_83 : decode cX7_reads 83 = .ok (.getfield 83, 3) := by decide +kernel
theorem dX7_reads_86 : decode cX7_reads 86 = .ok (.iload_n 2, 1) := by decide +kernel
theorem dX7_reads_87 : decode cX7_reads 87 = .ok (.iadd, 1) := by decide +kernel
theorem dX7_reads_88 : decode cX7_reads 88 = .ok (.putfield 83, 3) := by decide +kernel
theorem dX7_reads_91 : decode cX7_reads 91 = .ok (.aload_n 0, 1) := by decide +kernel
theorem dX7_reads_92 : decode cX7_reads 92 = .ok (.getfield 28, 3) := by decide +kernel
theorem dX7_reads_95 : decode cX7_reads 95 = .ok (.iload_n 1, 1) := by decide +kernel
theorem dX7_reads_96 : decode cX7_reads 96 = .ok (.iload_n 3, 1) := by decide +kernel
theorem dX7_reads_97 : decode cX7_reads 97 = .ok (.iastore, 1) := by decide +kernel
theorem dX7_reads_98 : decode cX7_reads 98 = .ok (.iconst 1, 1) := by decide +kernel
theorem dX7_reads_99 : decode cX7_reads 99 = .ok (.ireturn, 1) := by decide +kernel
theorem dX7_kindBy_0 : decode cX7_kindBy 0 = .ok (.iload_n 0, 1) := by decide +kernel
theorem dX7_kindBy_1 : decode cX7_kindBy 1 = .ok (.bipush 112, 2) := by decide +kernel
theorem dX7_kindBy_3 : decode cX7_kindBy 3 = .ok (.if_icmp .ne 7, 3) := by decide +kernel
theorem dX7_kindBy_6 : decode cX7_kindBy 6 = .ok (.iconst 1, 1) := by decide +kernel
theorem dX7_kindBy_7 : decode cX7_kindBy 7 = .ok (.goto 44, 3) := by decide +kernel
theorem dX7_kindBy_10 : decode cX7_kindBy 10 = .ok (.iload_n 0, 1) := by decide +kernel
theorem dX7_kindBy_11 : decode cX7_kindBy 11 = .ok (.bipush 104, 2) := by decide +kernel
theorem dX7_kindBy_13 : decode cX7_kindBy 13 = .ok (.if_icmp .ne 7, 3) := by decide +kernel
theorem dX7_kindBy_16 : decode cX7_kindBy 16 = .ok (.iconst 2, 1) := by decide +kernel
theorem dX7_kindBy_17 : decode cX7_kindBy 17 = .ok (.goto 34, 3) := by decide +kernel
theorem dX7_kindBy_20 : decode cX7_kindBy 20 = .ok (.iload_n 0, 1) := by decide +kernel
theorem dX7_kindBy_21 : decode cX7_kindBy 21 = .ok (.bipush 115, 2) := by decide +kernel
theorem dX7_kindBy_23 : decode cX7_kindBy 23 = .ok (.if_icmp .ne 7, 3) := by decide +kernel
theorem dX7_kindBy_26 : decode cX7_kindBy 26 = .ok (.iconst 3, 1) := by decide +kernel
theorem dX7_kindBy_27 : decode cX7_kindBy 27 = .ok (.goto 24, 3) := by decide +kernel
theorem dX7_kindBy_30 : decode cX7_kindBy 30 = .ok (.iload_n 0, 1) := by decide +kernel
theorem dX7_kindBy_31 : decode cX7_kindBy 31 = .ok (.bipush 100, 2) := by decide +kernel
theorem dX7_kindBy_33 : decode cX7_kindBy 33 = .ok (.if_icmp .ne 7, 3) := by decide +kernel
theorem dX7_kindBy_36 : decode cX7_kindBy 36 = .ok (.iconst 4, 1) := by decide +kernel
theorem dX7_kindBy_37 : decode cX7_kindBy 37 = .ok (.goto 14, 3) := by decide +kernel
theorem dX7_kindBy_40 : decode cX7_kindBy 40 = .ok (.iload_n 0, 1) := by decide +kernel
theorem dX7_kindBy_41 : decode cX7_kindBy 41 = .ok (.bipush 98, 2) := by decide +kernel
theorem dX7_kindBy_43 : decode cX7_kindBy 43 = .ok (.if_icmp .ne 7, 3) := by decide +kernel
theorem dX7_kindBy_46 : decode cX7_kindBy 46 = .ok (.iconst 5, 1) := by decide +kernel
theorem dX7_kindBy_47 : decode cX7_kindBy 47 = .ok (.goto 4, 3) := by decide +kernel
theorem dX7_kindBy_50 : decode cX7_kindBy 50 = .ok (.iconst 0, 1) := by decide +kernel
theorem dX7_kindBy_51 : decode cX7_kindBy 51 = .ok (.ireturn, 1) := by decide +kernel
theorem dX7_readsAll_0 : decode cX7_readsAll 0 = .ok (.aload_n 0, 1) := by decide +kernel
theorem dX7_readsAll_1 : decode cX7_readsAll 1 = .ok (.iconst 0, 1) := by decide +kernel
theorem dX7_readsAll_2 : decode cX7_readsAll 2 = .ok (.putfield 83, 3) := by decide +kernel
theorem dX7_readsAll_5 : decode cX7_readsAll 5 = .ok (.aload_n 0, 1) := by decide +kernel
theorem dX7_readsAll_6 : decode cX7_readsAll 6 = .ok (.getfield 83, 3) := by decide +kernel
theorem dX7_readsAll_9 : decode cX7_readsAll 9 = .ok (.aload_n 0, 1) := by decide +kernel
theorem dX7_readsAll_10 : decode cX7_readsAll 10 = .ok (.getfield 76, 3) := by decide +kernel
theorem dX7_readsAll_13 : decode cX7_readsAll 13 = .ok (.if_icmp .lt 13, 3) := by decide +kernel
theorem dX7_readsAll_16 : decode cX7_readsAll 16 = .ok (.aload_n 0, 1) := by decide +kernel
theorem dX7_readsAll_17 : decode cX7_readsAll 17 = .ok (.getfield 28, 3) := by decide +kernel
theorem dX7_readsAll_20 : decode cX7_readsAll 20 = .ok (.bipush 46, 2) := by decide +kernel
theorem dX7_readsAll_22 : decode cX7_readsAll 22 = .ok (.iaload, 1) := by decide +kernel
theorem dX7_readsAll_23 : decode cX7_readsAll 23 = .ok (.ifCond .ne 140, 3) := by decide +kernel
theorem dX7_readsAll_26 : decode cX7_readsAll 26 = .ok (.aload_n 0, 1) := by decide +kernel
theorem dX7_readsAll_27 : decode cX7_readsAll 27 = .ok (.aload_n 0, 1) := by decide +kernel
theorem dX7_readsAll_28 : decode cX7_readsAll 28 = .ok (.getfield 83, 3) := by decide +kernel
theorem dX7_readsAll_31 : decode cX7_readsAll 31 = .ok (.invokevirtual 86, 3) := by decide +kernel
theorem dX7_readsAll_34 : decode cX7_readsAll 34 = .ok (.invokestatic 95, 3) := by decide +kernel
theorem dX7_readsAll_37 : decode cX7_readsAll 37 = .ok (.istore_n 1, 1) := by decide +kernel
theorem dX7_readsAll_38 : decode cX7_readsAll 38 = .ok (.iload_n 1, 1) := by decide +kernel
theorem dX7_readsAll_39 : decode cX7_readsAll 39 = .ok (.ifCond .ne 9, 3) := by decide +kernel
theorem dX7_readsAll_42 : decode cX7_readsAll 42 = .ok (.aload_n 0, 1) := by decide +kernel
theorem dX7_readsAll_43 : decode cX7_readsAll 43 = .ok (.iconst 1, 1) := by decide +kernel
theorem dX7_readsAll_44 : decode cX7_readsAll 44 = .ok (.invokevirtual 92, 3) := by decide +kernel
theorem dX7_readsAll_47 : decode cX7_readsAll 47 = .ok (.ireturn, 1) := by decide +kernel
theorem dX7_readsAll_48 : decode cX7_readsAll 48 = .ok (.aload_n 0, 1) := by decide +kernel
theorem dX7_readsAll_49 : decode cX7_readsAll 49 = .ok (.getfield 28, 3) := by decide +kernel
theorem dX7_readsAll_52 : decode cX7_readsAll 52 = .ok (.bipush 46, 2) := by decide +kernel
theorem dX7_readsAll_54 : decode cX7_readsAll 54 = .ok (.iaload, 1) := by decide +kernel
theorem dX7_readsAll_55 : decode cX7_readsAll 55 = .ok (.istore_n 2, 1) := by decide +kernel
theorem dX7_readsAll_56 : decode cX7_readsAll 56 = .ok (.iload_n 2, 1) := by decide +kernel
theorem dX7_readsAll_57 : decode cX7_readsAll 57 = .ok (.bipush 8, 2) := by decide +kernel
theorem dX7_readsAll_59 : decode cX7_readsAll 59 = .ok (.if_icmp .ne 9, 3) := by decide +kernel
theorem dX7_readsAll_62 : decode cX7_readsAll 62 = .ok (.aload_n 0, 1) := by decide +kernel
theorem dX7_readsAll_63 : decode cX7_readsAll 63 = .ok (.iconst 3, 1) := by decide +kernel
theorem dX7_readsAll_64 : decode cX7_readsAll 64 = .ok (.invokevirtual 92, 3) := by decide +kernel
theorem dX7_readsAll_67 : decode cX7_readsAll 67 = .ok (.ireturn, 1) := by decide +kernel
theorem dX7_readsAll_68 : decode cX7_readsAll 68 = .ok (.aload_n 0, 1) := by decide +kernel
theorem dX7_readsAll_69 : decode cX7_readsAll 69 = .ok (.dup, 1) := by decide +kernel
theorem dX7_readsAll_70 : decode cX7_readsAll 70 = .ok (.getfield 83, 3) := by decide +kernel
theorem dX7_readsAll_73 : decode cX7_readsAll 73 = .ok (.iconst 1, 1) := by decide +kernel
theorem dX7_readsAll_74 : decode cX7_readsAll 74 = .ok (.iadd, 1) := by decide +kernel
theorem dX7_readsAll_75 : decode cX7_readsAll 75 = .ok (.putfield 83, 3) := by decide +kernel
theorem dX7_readsAll_78 : decode cX7_readsAll 78 = .ok (.aload_n 0, 1) := by decide +kernel
theorem dX7_readsAll_79 : decode cX7_readsAll 79 = .ok (.getfield 28, 3) := by decide +kernel
theorem dX7_readsAll_82 : decode cX7_readsAll 82 = .ok (.bipush 55, 2) := by decide +kernel
theorem dX7_readsAll_84 : decode cX7_readsAll 84 = .ok (.iload_n 2, 1) := by decide +kernel
theorem dX7_readsAll_85 : decode cX7_readsAll 85 = .ok (.iadd, 1) := by decide +kernel
theorem dX7_readsAll_86 : decode cX7_readsAll 86 = .ok (.iload_n 1, 1) := by decide +kernel
theorem dX7_readsAll_87 : decode cX7_readsAll 87 = .ok (.iastore, 1) := by decide +kernel
theorem dX7_readsAll_88 : decode cX7_readsAll 88 = .ok (.aload_n 0, 1) := by decide +kernel
theorem dX7_readsAll_89 : decode cX7_readsAll 89 = .ok (.getfield 28, 3) := by decide +kernel
theorem dX7_readsAll_92 : decode cX7_readsAll 92 = .ok (.iconst 2, 1) := by decide +kernel
theorem dX7_readsAll_93 : decode cX7_readsAll 93 = .ok (.iload_n 2, 1) := by decide +kernel
theorem dX7_readsAll_94 : decode cX7_readsAll 94 = .ok (.iadd, 1) := by decide +kernel
theorem dX7_readsAll_95 : decode cX7_readsAll 95 = .ok (.iconst (-1), 1) := by decide +kernel
theorem dX7_readsAll_96 : decode cX7_readsAll 96 = .ok (.iastore, 1) := by decide +kernel
theorem dX7_readsAll_97 : decode cX7_readsAll 97 = .ok (.aload_n 0, 1) := by decide +kernel
theorem dX7_readsAll_98 : decode cX7_readsAll 98 = .ok (.getfield 28, 3) := by decide +kernel
theorem dX7_readsAll_101 : decode cX7_readsAll 101 = .ok (.bipush 18, 2) := by decide +kernel
theorem dX7_readsAll_103 : decode cX7_readsAll 103 = .ok (.iload_n 2, 1) := by decide +kernel
theorem dX7_readsAll_104 : decode cX7_readsAll 104 = .ok (.iadd, 1) := by decide +kernel
theorem dX7_readsAll_105 : decode cX7_readsAll 105 = .ok (.iload_n 2, 1) := by decide +kernel
theorem dX7_readsAll_106 : decode cX7_readsAll 106 = .ok (.iastore, 1) := by decide +kernel
theorem dX7_readsAll_107 : decode cX7_readsAll 107 = .ok (.aload_n 0, 1) := by decide +kernel
theorem dX7_readsAll_108 : decode cX7_readsAll 108 = .ok (.bipush 47, 2) := by decide +kernel
theorem dX7_readsAll_110 : decode cX7_readsAll 110 = .ok (.iload_n 2, 1) := by decide +kernel
theorem dX7_readsAll_111 : decode cX7_readsAll 111 = .ok (.iadd, 1) := by decide +kernel
theorem dX7_readsAll_112 : decode cX7_readsAll 112 = .ok (.invokevirtual 98, 3) := by decide +kernel
theorem dX7_readsAll_115 : decode cX7_readsAll 115 = .ok (.ifCond .ne 5, 3) := by decide +kernel
theorem dX7_readsAll_118 : decode cX7_readsAll 118 = .ok (.iconst 0, 1) := by decide +kernel
theorem dX7_readsAll_119 : decode cX7_readsAll 119 = .ok (.ireturn, 1) := by decide +kernel
theorem dX7_readsAll_120 : decode cX7_readsAll 120 = .ok (.aload_n 0, 1) := by decide +kernel
theorem dX7_readsAll_121 : decode cX7_readsAll 121 = .ok (.aload_n 0, 1) := by decide +kernel
theorem dX7_readsAll_122 : decode cX7_readsAll 122 = .ok (.getfield 83, 3) := by decide +kernel
theorem dX7_readsAll_125 : decode cX7_readsAll 125 = .ok (.invokevirtual 86, 3) := by decide +kernel
theorem dX7_readsAll_128 : decode cX7_readsAll 128 = .ok (.bipush 59, 2) := by decide +kernel
theorem dX7_readsAll_130 : decode cX7_readsAll 130 = .ok (.if_icmp .eq 9, 3) := by decide +kernel
theorem dX7_readsAll_133 : decode cX7_readsAll 133 = .ok (.aload_n 0, 1) := by decide +kernel
theorem dX7_readsAll_134 : decode cX7_readsAll 134 = .ok (.iconst 1, 1) := by decide +kernel
theorem dX7_readsAll_135 : decode cX7_readsAll 135 = .ok (.invokevirtual 92, 3) := by decide +kernel
theorem dX7_readsAll_138 : decode cX7_readsAll 138 = .ok (.ireturn, 1) := by decide +kernel
theorem dX7_readsAll_139 : decode cX7_readsAll 139 = .ok (.aload_n 0, 1) := by decide +kernel
theorem dX7_readsAll_140 : decode cX7_readsAll 140 = .ok (.dup, 1) := by decide +kernel
theorem dX7_readsAll_141 : decode cX7_readsAll 141 = .ok (.getfield 83, 3) := by decide +kernel
theorem dX7_readsAll_144 : decode cX7_readsAll 144 = .ok (.iconst 1, 1) := by decide +kernel
theorem dX7_readsAll_145 : decode cX7_readsAll 145 = .ok (.iadd, 1) := by decide +kernel
theorem dX7_readsAll_146 : decode cX7_readsAll 146 = .ok (.putfield 83, 3) := by decide +kernel
theorem dX7_readsAll_149 : decode cX7_readsAll 149 = .ok (.aload_n 0, 1) := by decide +kernel
theorem dX7_readsAll_150 : decode cX7_readsAll 150 = .ok (.getfield 28, 3) := by decide +kernel
theorem dX7_readsAll_153 : decode cX7_readsAll 153 = .ok (.bipush 46, 2) := by decide +kernel
theorem dX7_readsAll_155 : decode cX7_readsAll 155 = .ok (.dup2, 1) := by decide +kernel
theorem dX7_readsAll_156 : decode cX7_readsAll 156 = .ok (.iaload, 1) := by decide +kernel
theorem dX7_readsAll_157 : decode cX7_readsAll 157 = .ok (.iconst 1, 1) := by decide +kernel
theorem dX7_readsAll_158 : decode cX7_readsAll 158 = .ok (.iadd, 1) := by decide +kernel
theorem dX7_readsAll_159 : decode cX7_readsAll 159 = .ok (.iastore, 1) := by decide +kernel
theorem dX7_readsAll_160 : decode cX7_readsAll 160 = .ok (.goto (-155), 3) := by decide +kernel
theorem dX7_readsAll_163 : decode cX7_readsAll 163 = .ok (.iconst 1, 1) := by decide +kernel
theorem dX7_readsAll_164 : decode cX7_readsAll 164 = .ok (.ireturn, 1) := by decide +kernel
theorem dX7_basket_0 : decode cX7_basket 0 = .ok (.iconst 0, 1) := by decide +kernel
theorem dX7_basket_1 : decode cX7_basket 1 = .ok (.istore_n 1, 1) := by decide +kernel
theorem dX7_basket_2 : decode cX7_basket 2 = .ok (.iload_n 1, 1) := by decide +kernel
theorem dX7_basket_3 : decode cX7_basket 3 = .ok (.bipush 63, 2) := by decide +kernel
theorem dX7_basket_5 : decode cX7_basket 5 = .ok (.if_icmp .ge 16, 3) := by decide +kernel
theorem dX7_basket_8 : decode cX7_basket 8 = .ok (.aload_n 0, 1) := by decide +kernel
theorem dX7_basket_9 : decode cX7_basket 9 = .ok (.getfield 28, 3) := by decide +kernel
theorem dX7_basket_12 : decode cX7_basket 12 = .ok (.iload_n 1, 1) := by decide +kernel
theorem dX7_basket_13 : decode cX7_basket 13 = .ok (.iconst 0, 1) := by decide +kernel
theorem dX7_basket_14 : decode cX7_basket 14 = .ok (.iastore, 1) := by decide +kernel
theorem dX7_basket_15 : decode cX7_basket 15 = .ok (.iinc 1 1, 3) := by decide +kernel
theorem dX7_basket_18 : decode cX7_basket 18 = .ok (.goto (-16), 3) := by decide +kernel
theorem dX7_basket_21 : decode cX7_basket 21 = .ok (.aload_n 0, 1) := by decide +kernel
theorem dX7_basket_22 : decode cX7_basket 22 = .ok (.invokevirtual 101, 3) := by decide +kernel
theorem dX7_basket_25 : decode cX7_basket 25 = .ok (.istore_n 1, 1) := by decide +kernel
theorem dX7_basket_26 : decode cX7_basket 26 = .ok (.aload_n 0, 1) := by decide +kernel
theorem dX7_basket_27 : decode cX7_basket 27 = .ok (.iconst 0, 1) := by decide +kernel
theorem dX7_basket_28 : decode cX7_basket 28 = .ok (.putfield 76, 3) := by decide +kernel
theorem dX7_basket_31 : decode cX7_basket 31 = .ok (.iload_n 1, 1) := by decide +kernel
theorem dX7_basket_32 : decode cX7_basket 32 = .ok (.ifCond .ne 19, 3) := by decide +kernel
theorem dX7_basket_35 : decode cX7_basket 35 = .ok (.aload_n 0, 1) := by decide +kernel
theorem dX7_basket_36 : decode cX7_basket 36 = .ok (.aload_n 0, 1) := by decide +kernel
theorem dX7_basket_37 : decode cX7_basket 37 = .ok (.getfield 80, 3) := by decide +kernel
theorem dX7_basket_40 : decode cX7_basket 40 = .ok (.putfield 105, 3) := by decide +kernel
theorem dX7_basket_43 : decode cX7_basket 43 = .ok (.ldc 108, 2) := by decide +kernel
theorem dX7_basket_45 : decode cX7_basket 45 = .ok (.aload_n 0, 1) := by decide +kernel
theorem dX7_basket_46 : decode cX7_basket 46 = .ok (.getfield 83, 3) := by decide +kernel
theorem dX7_basket_49 : decode cX7_basket 49 = .ok (.isub, 1) := by decide +kernel
theorem dX7_basket_50 : decode cX7_basket 50 = .ok (.ireturn, 1) := by decide +kernel
theorem dX7_basket_51 : decode cX7_basket 51 = .ok (.iconst 0, 1) := by decide +kernel
theorem dX7_basket_52 : decode cX7_basket 52 = .ok (.istore_n 2, 1) := by decide +kernel
theorem dX7_basket_53 : decode cX7_basket 53 = .ok (.iload_n 2, 1) := by decide +kernel
theorem dX7_basket_54 : decode cX7_basket 54 = .ok (.bipush 63, 2) := by decide +kernel
theorem dX7_basket_56 : decode cX7_basket 56 = .ok (.if_icmp .ge 21, 3) := by decide +kernel
theorem dX7_basket_59 : decode cX7_basket 59 = .ok (.aload_n 0, 1) := by decide +kernel
theorem dX7_basket_60 : decode cX7_basket 60 = .ok (.getfield 25, 3) := by decide +kernel
theorem dX7_basket_63 : decode cX7_basket 63 = .ok (.iload_n 2, 1) := by decide +kernel
theorem dX7_basket_64 : decode cX7_basket 64 = .ok (.aload_n 0, 1) := by decide +kernel
theorem dX7_basket_65 : decode cX7_basket 65 = .ok (.getfield 28, 3) := by decide +kernel
theorem dX7_basket_68 : decode cX7_basket 68 = .ok (.iload_n 2, 1) := by decide +kernel
theorem dX7_basket_69 : decode cX7_basket 69 = .ok (.iaload, 1) := by decide +kernel
theorem dX7_basket_70 : decode cX7_basket 70 = .ok (.iastore, 1) := by decide +kernel
theorem dX7_basket_71 : decode cX7_basket 71 = .ok (.iinc 2 1, 3) := by decide +kernel
theorem dX7_basket_74 : decode cX7_basket 74 = .ok (.goto (-21), 3) := by decide +kernel
theorem dX7_basket_77 : decode cX7_basket 77 = .ok (.aload_n 0, 1) := by decide +kernel
theorem dX7_basket_78 : decode cX7_basket 78 = .ok (.iconst 0, 1) := by decide +kernel
theorem dX7_basket_79 : decode cX7_basket 79 = .ok (.putfield 109, 3) := by decide +kernel
theorem dX7_basket_82 : decode cX7_basket 82 = .ok (.aload_n 0, 1) := by decide +kernel
theorem dX7_basket_83 : decode cX7_basket 83 = .ok (.getfield 25, 3) := by decide +kernel
theorem dX7_basket_86 : decode cX7_basket 86 = .ok (.bipush 46, 2) := by decide +kernel
theorem dX7_basket_88 : decode cX7_basket 88 = .ok (.iaload, 1) := by decide +kernel
theorem dX7_basket_89 : decode cX7_basket 89 = .ok (.ireturn, 1) := by decide +kernel
theorem dX7_fault_0 : decode cX7_fault 0 = .ok (.aload_n 0, 1) := by decide +kernel
theorem dX7_fault_1 : decode cX7_fault 1 = .ok (.getfield 105, 3) := by decide +kernel
theorem dX7_fault_4 : decode cX7_fault 4 = .ok (.ireturn, 1) := by decide +kernel
theorem dX7_isBasket_0 : decode cX7_isBasket 0 = .ok (.aload_n 0, 1) := by decide +kernel
theorem dX7_isBasket_1 : decode cX7_isBasket 1 = .ok (.getfield 25, 3) := by decide +kernel
theorem dX7_isBasket_4 : decode cX7_isBasket 4 = .ok (.bipush 46, 2) := by decide +kernel
theorem dX7_isBasket_6 : decode cX7_isBasket 6 = .ok (.iaload, 1) := by decide +kernel
theorem dX7_isBasket_7 : decode cX7_isBasket 7 = .ok (.ifCond .le 7, 3) := by decide +kernel
theorem dX7_isBasket_10 : decode cX7_isBasket 10 = .ok (.iconst 1, 1) := by decide +kernel
theorem dX7_isBasket_11 : decode cX7_isBasket 11 = .ok (.goto 4, 3) := by decide +kernel
theorem dX7_isBasket_14 : decode cX7_isBasket 14 = .ok (.iconst 0, 1) := by decide +kernel
theorem dX7_isBasket_15 : decode cX7_isBasket 15 = .ok (.ireturn, 1) := by decide +kernel
theorem dX7_isBar_0 : decode cX7_isBar 0 = .ok (.iload_n 1, 1) := by decide +kernel
theorem dX7_isBar_1 : decode cX7_isBar 1 = .ok (.iconst 0, 1) := by decide +kernel
theorem dX7_isBar_2 : decode cX7_isBar 2 = .ok (.aload_n 0, 1) := by decide +kernel
theorem dX7_isBar_3 : decode cX7_isBar 3 = .ok (.getfield 25, 3) := by decide +kernel
theorem dX7_isBar_6 : decode cX7_isBar 6 = .ok (.bipush 46, 2) := by decide +kernel
theorem dX7_isBar_8 : decode cX7_isBar 8 = .ok (.iaload, 1) := by decide +kernel
theorem dX7_isBar_9 : decode cX7_isBar 9 = .ok (.iconst 1, 1) := by decide +kernel
theorem dX7_isBar_10 : decode cX7_isBar 10 = .ok (.isub, 1) := by decide +kernel
theorem dX7_isBar_11 : decode cX7_isBar 11 = .ok (.invokestatic 47, 3) := by decide +kernel
theorem dX7_isBar_14 : decode cX7_isBar 14 = .ok (.ireturn, 1) := by decide +kernel
theorem dX7_keeps_0 : decode cX7_keeps 0 = .ok (.aload_n 0, 1) := by decide +kernel
theorem dX7_keeps_1 : decode cX7_keeps 1 = .ok (.getfield 109, 3) := by decide +kernel
theorem dX7_keeps_4 : decode cX7_keeps 4 = .ok (.bipush 24, 2) := by decide +kernel
theorem dX7_keeps_6 : decode cX7_keeps 6 = .ok (.if_icmp .ne 43, 3) := by decide +kernel
theorem dX7_keeps_9 : decode cX7_keeps 9 = .ok (.iconst 0, 1) := by decide +kernel
theorem dX7_keeps_10 : decode cX7_keeps 10 = .ok (.istore_n 1, 1) := by decide +kernel
theorem dX7_keeps_11 : decode cX7_keeps 11 = .ok (.iload_n 1, 1) := by decide +kernel
theorem dX7_keeps_12 : decode cX7_keeps 12 = .ok (.sipush 1058, 3) := by decide +kernel
theorem dX7_keeps_15 : decode cX7_keeps 15 = .ok (.if_icmp .ge 24, 3) := by decide +kernel
theorem dX7_keeps_18 : decode cX7_keeps 18 = .ok (.aload_n 0, 1) := by decide +kernel
theorem dX7_keeps_19 : decode cX7_keeps 19 = .ok (.getfield 38, 3) := by decide +kernel
theorem dX7_keeps_22 : decode cX7_keeps 22 = .ok (.iload_n 1, 1) := by decide +kernel
theorem dX7_keeps_23 : decode cX7_keeps 23 = .ok (.aload_n 0, 1) := by decide +kernel
theorem dX7_keeps_24 : decode cX7_keeps 24 = .ok (.getfield 38, 3) := by decide +kernel
theorem dX7_keeps_27 : decode cX7_keeps 27 = .ok (.iload_n 1, 1) := by decide +kernel
theorem dX7_keeps_28 : decode cX7_keeps 28 = .ok (.bipush 46, 2) := by decide +kernel
theorem dX7_keeps_30 : decode cX7_keeps 30 = .ok (.iadd, 1) := by decide +kernel
theorem dX7_keeps_31 : decode cX7_keeps 31 = .ok (.iaload, 1) := by decide +kernel
theorem dX7_keeps_32 : decode cX7_keeps 32 = .ok (.iastore, 1) := by decide +kernel
theorem dX7_keeps_33 : decode cX7_keeps 33 = .ok (.iinc 1 1, 3) := by decide +kernel
theorem dX7_keeps_36 : decode cX7_keeps 36 = .ok (.goto (-25), 3) := by decide +kernel
theorem dX7_keeps_39 : decode cX7_keeps 39 = .ok (.aload_n 0, 1) := by decide +kernel
theorem dX7_keeps_40 : decode cX7_keeps 40 = .ok (.dup, 1) := by decide +kernel
theorem dX7_keeps_41 : decode cX7_keeps 41 = .ok (.getfield 109, 3) := by decide +kernel
theorem dX7_keeps_44 : decode cX7_keeps 44 = .ok (.iconst 1, 1) := by decide +kernel
theorem dX7_keeps_45 : decode cX7_keeps 45 = .ok (.isub, 1) := by decide +kernel
theorem dX7_keeps_46 : decode cX7_keeps 46 = .ok (.putfield 109, 3) := by decide +kernel
theorem dX7_keeps_49 : decode cX7_keeps 49 = .ok (.iconst 0, 1) := by decide +kernel
theorem dX7_keeps_50 : decode cX7_keeps 50 = .ok (.istore_n 1, 1) := by decide +kernel
theorem dX7_keeps_51 : decode cX7_keeps 51 = .ok (.iload_n 1, 1) := by decide +kernel
theorem dX7_keeps_52 : decode cX7_keeps 52 = .ok (.bipush 46, 2) := by decide +kernel
theorem dX7_keeps_54 : decode cX7_keeps 54 = .ok (.if_icmp .ge 29, 3) := by decide +kernel
theorem dX7_keeps_57 : decode cX7_keeps 57 = .ok (.aload_n 0, 1) := by decide +kernel
theorem dX7_keeps_58 : decode cX7_keeps 58 = .ok (.getfield 38, 3) := by decide +kernel
theorem dX7_keeps_61 : decode cX7_keeps 61 = .ok (.bipush 46, 2) := by decide +kernel
theorem dX7_keeps_63 : decode cX7_keeps 63 = .ok (.aload_n 0, 1) := by decide +kernel
theorem dX7_keeps_64 : decode cX7_keeps 64 = .ok (.getfield 109, 3) := by decide +kernel
theorem dX7_keeps_67 : decode cX7_keeps 67 = .ok (.imul, 1) := by decide +kernel
theorem dX7_keeps_68 : decode cX7_keeps 68 = .ok (.iload_n 1, 1) := by decide +kernel
theorem dX7_keeps_69 : decode cX7_keeps 69 = .ok (.iadd, 1) := by decide +kernel
theorem dX7_keeps_70 : decode cX7_keeps 70 = .ok (.aload_n 0, 1) := by decide +kernel
theorem dX7_keeps_71 : decode cX7_keeps 71 = .ok (.getfield 25, 3) := by decide +kernel
theorem dX7_keeps_74 : decode cX7_keeps 74 = .ok (.iload_n 1, 1) := by decide +kernel
theorem dX7_keeps_75 : decode cX7_keeps 75 = .ok (.iaload, 1) := by decide +kernel
theorem dX7_keeps_76 : decode cX7_keeps 76 = .ok (.iastore, 1) := by decide +kernel
theorem dX7_keeps_77 : decode cX7_keeps 77 = .ok (.iinc 1 1, 3) := by decide +kernel
theorem dX7_keeps_80 : decode cX7_keeps 80 = .ok (.goto (-29), 3) := by decide +kernel
theorem dX7_keeps_83 : decode cX7_keeps 83 = .ok (.aload_n 0, 1) := by decide +kernel
theorem dX7_keeps_84 : decode cX7_keeps 84 = .ok (.dup, 1) := by decide +kernel
theorem dX7_keeps_85 : decode cX7_keeps 85 = .ok (.getfield 109, 3) := by decide +kernel
theorem dX7_keeps_88 : decode cX7_keeps 88 = .ok (.iconst 1, 1) := by decide +kernel
theorem dX7_keeps_89 : decode cX7_keeps 89 = .ok (.iadd, 1) := by decide +kernel
theorem dX7_keeps_90 : decode cX7_keeps 90 = .ok (.putfield 109, 3) := by decide +kernel
theorem dX7_keeps_93 : decode cX7_keeps 93 = .ok (.return_, 1) := by decide +kernel
theorem dX7_top_0 : decode cX7_top 0 = .ok (.aload_n 0, 1) := by decide +kernel
theorem dX7_top_1 : decode cX7_top 1 = .ok (.bipush 47, 2) := by decide +kernel
theorem dX7_top_3 : decode cX7_top 3 = .ok (.iload_n 1, 1) := by decide +kernel
theorem dX7_top_4 : decode cX7_top 4 = .ok (.iadd, 1) := by decide +kernel
theorem dX7_top_5 : decode cX7_top 5 = .ok (.iaload, 1) := by decide +kernel
theorem dX7_top_6 : decode cX7_top 6 = .ok (.aload_n 0, 1) := by decide +kernel
theorem dX7_top_7 : decode cX7_top 7 = .ok (.bipush 55, 2) := by decide +kernel
theorem dX7_top_9 : decode cX7_top 9 = .ok (.iload_n 1, 1) := by decide +kernel
theorem dX7_top_10 : decode cX7_top 10 = .ok (.iadd, 1) := by decide +kernel
theorem dX7_top_11 : decode cX7_top 11 = .ok (.iaload, 1) := by decide +kernel
theorem dX7_top_12 : decode cX7_top 12 = .ok (.iconst 2, 1) := by decide +kernel
theorem dX7_top_13 : decode cX7_top 13 = .ok (.if_icmp .ne 7, 3) := by decide +kernel
theorem dX7_top_16 : decode cX7_top 16 = .ok (.iconst 1, 1) := by decide +kernel
theorem dX7_top_17 : decode cX7_top 17 = .ok (.goto 4, 3) := by decide +kernel
theorem dX7_top_20 : decode cX7_top 20 = .ok (.iconst 0, 1) := by decide +kernel
theorem dX7_top_21 : decode cX7_top 21 = .ok (.iadd, 1) := by decide +kernel
theorem dX7_top_22 : decode cX7_top 22 = .ok (.ireturn, 1) := by decide +kernel
theorem dX7_high_0 : decode cX7_high 0 = .ok (.aload_n 0, 1) := by decide +kernel
theorem dX7_high_1 : decode cX7_high 1 = .ok (.iconst 2, 1) := by decide +kernel
theorem dX7_high_2 : decode cX7_high 2 = .ok (.iload_n 1, 1) := by decide +kernel
theorem dX7_high_3 : decode cX7_high 3 = .ok (.iadd, 1) := by decide +kernel
theorem dX7_high_4 : decode cX7_high 4 = .ok (.iaload, 1) := by decide +kernel
theorem dX7_high_5 : decode cX7_high 5 = .ok (.istore_n 2, 1) := by decide +kernel
theorem dX7_high_6 : decode cX7_high 6 = .ok (.aload_n 0, 1) := by decide +kernel
theorem dX7_high_7 : decode cX7_high 7 = .ok (.bipush 10, 2) := by decide +kernel
theorem dX7_high_9 : decode cX7_high 9 = .ok (.iload_n 1, 1) := by decide +kernel
theorem dX7_high_10 : decode cX7_high 10 = .ok (.iadd, 1) := by decide +kernel
theorem dX7_high_11 : decode cX7_high 11 = .ok (.iaload, 1) := by decide +kernel
theorem dX7_high_12 : decode cX7_high 12 = .ok (.ifCond .gt 7, 3) := by decide +kernel
theorem dX7_high_15 : decode cX7_high 15 = .ok (.iload_n 2, 1) := by decide +kernel
theorem dX7_high_16 : decode cX7_high 16 = .ok (.ifCond .ge 10, 3) := by decide +kernel
theorem dX7_high_19 : decode cX7_high 19 = .ok (.aload_n 0, 1) := by decide +kernel
theorem dX7_high_20 : decode cX7_high 20 = .ok (.bipush 10, 2) := by decide +kernel
theorem dX7_high_22 : decode cX7_high 22 = .ok (.iload_n 1, 1) := by decide +kernel
theorem dX7_high_23 : decode cX7_high 23 = .ok (.iadd, 1) := by decide +kernel
theorem dX7_high_24 : decode cX7_high 24 = .ok (.iaload, 1) := by decide +kernel
theorem dX7_high_25 : decode cX7_high 25 = .ok (.ireturn, 1) := by decide +kernel
theorem dX7_high_26 : decode cX7_high 26 = .ok (.aload_n 0, 1) := by decide +kernel
theorem dX7_high_27 : decode cX7_high 27 = .ok (.iload_n 1, 1) := by decide +kernel
theorem dX7_high_28 : decode cX7_high 28 = .ok (.invokestatic 112, 3) := by decide +kernel
theorem dX7_high_31 : decode cX7_high 31 = .ok (.istore_n 3, 1) := by decide +kernel
theorem dX7_high_32 : decode cX7_high 32 = .ok (.aload_n 0, 1) := by decide +kernel
theorem dX7_high_33 : decode cX7_high 33 = .ok (.bipush 55, 2) := by decide +kernel
theorem dX7_high_35 : decode cX7_high 35 = .ok (.iload_n 1, 1) := by decide +kernel
theorem dX7_high_36 : decode cX7_high 36 = .ok (.iadd, 1) := by decide +kernel
theorem dX7_high_37 : decode cX7_high 37 = .ok (.iaload, 1) := by decide +kernel
theorem dX7_high_38 : decode cX7_high 38 = .ok (.iconst 3, 1) := by decide +kernel
theorem dX7_high_39 : decode cX7_high 39 = .ok (.if_icmp .ne 7, 3) := by decide +kernel
theorem dX7_high_42 : decode cX7_high 42 = .ok (.iconst 2, 1) := by decide +kernel
theorem dX7_high_43 : decode cX7_high 43 = .ok (.goto 4, 3) := by decide +kernel
theorem dX7_high_46 : decode cX7_high 46 = .ok (.iconst 1, 1) := by decide +kernel
theorem dX7_high_47 : decode cX7_high 47 = .ok (.istore 4, 2) := by decide +kernel
theorem dX7_high_49 : decode cX7_high 49 = .ok (.iload_n 2, 1) := by decide +kernel
theorem dX7_high_50 : decode cX7_high 50 = .ok (.iload_n 3, 1) := by decide +kernel
theorem dX7_high_51 : decode cX7_high 51 = .ok (.if_icmp .gt 7, 3) := by decide +kernel
theorem dX7_high_54 : decode cX7_high 54 = .ok (.iload_n 2, 1) := by decide +kernel
theorem dX7_high_55 : decode cX7_high 55 = .ok (.goto 11, 3) := by decide +kernel
theorem dX7_high_58 : decode cX7_high 58 = .ok (.iload_n 3, 1) := by decide +kernel
theorem dX7_high_59 : decode cX7_high 59 = .ok (.iload 4, 2) := by decide +kernel
theorem dX7_high_61 : decode cX7_high 61 = .ok (.iload_n 2, 1) := by decide +kernel
theorem dX7_high_62 : decode cX7_high 62 = .ok (.iload_n 3, 1) := by decide +kernel
theorem dX7_high_63 : decode cX7_high 63 = .ok (.isub, 1) := by decide +kernel
theorem dX7_high_64 : decode cX7_high 64 = .ok (.imul, 1) := by decide +kernel
theorem dX7_high_65 : decode cX7_high 65 = .ok (.isub, 1) := by decide +kernel
theorem dX7_high_66 : decode cX7_high 66 = .ok (.ireturn, 1) := by decide +kernel
theorem dX7_meets_0 : decode cX7_meets 0 = .ok (.aload_n 0, 1) := by decide +kernel
theorem dX7_meets_1 : decode cX7_meets 1 = .ok (.iload_n 1, 1) := by decide +kernel
theorem dX7_meets_2 : decode cX7_meets 2 = .ok (.invokestatic 116, 3) := by decide +kernel
theorem dX7_meets_5 : decode cX7_meets 5 = .ok (.istore_n 3, 1) := by decide +kernel
theorem dX7_meets_6 : decode cX7_meets 6 = .ok (.aload_n 0, 1) := by decide +kernel
theorem dX7_meets_7 : decode cX7_meets 7 = .ok (.iload_n 2, 1) := by decide +kernel
theorem dX7_meets_8 : decode cX7_meets 8 = .ok (.invokestatic 116, 3) := by decide +kernel
theorem dX7_meets_11 : decode cX7_meets 11 = .ok (.istore 4, 2) := by decide +kernel
theorem dX7_meets_13 : decode cX7_meets 13 = .ok (.aload_n 0, 1) := by decide +kernel
theorem dX7_meets_14 : decode cX7_meets 14 = .ok (.bipush 18, 2) := by decide +kernel
theorem dX7_meets_16 : decode cX7_meets 16 = .ok (.iload_n 1, 1) := by decide +kernel
theorem dX7_meets_17 : decode cX7_meets 17 = .ok (.iadd, 1) := by decide +kernel
theorem dX7_meets_18 : decode cX7_meets 18 = .ok (.iaload, 1) := by decide +kernel
theorem dX7_meets_19 : decode cX7_meets 19 = .ok (.aload_n 0, 1) := by decide +kernel
theorem dX7_meets_20 : decode cX7_meets 20 = .ok (.bipush 18, 2) := by decide +kernel
theorem dX7_meets_22 : decode cX7_meets 22 = .ok (.iload_n 2, 1) := by decide +kernel
theorem dX7_meets_23 : decode cX7_meets 23 = .ok (.iadd, 1) := by decide +kernel
theorem dX7_meets_24 : decode cX7_meets 24 = .ok (.iaload, 1) := by decide +kernel
theorem dX7_meets_25 : decode cX7_meets 25 = .ok (.isub, 1) := by decide +kernel
theorem dX7_meets_26 : decode cX7_meets 26 = .ok (.istore 5, 2) := by decide +kernel
theorem dX7_meets_28 : decode cX7_meets 28 = .ok (.iload_n 3, 1) := by decide +kernel
theorem dX7_meets_29 : decode cX7_meets 29 = .ok (.aload_n 0, 1) := by decide +kernel
theorem dX7_meets_30 : decode cX7_meets 30 = .ok (.iload_n 1, 1) := by decide +kernel
theorem dX7_meets_31 : decode cX7_meets 31 = .ok (.invokestatic 112, 3) := by decide +kernel
theorem dX7_meets_34 : decode cX7_meets 34 = .ok (.if_icmp .ne 17, 3) := by decide +kernel
theorem dX7_meets_37 : decode cX7_meets 37 = .ok (.iload 4, 2) := by decide +kernel
theorem dX7_meets_39 : decode cX7_meets 39 = .ok (.aload_n 0, 1) := by decide +kernel
theorem dX7_meets_40 : decode cX7_meets 40 = .ok (.iload_n 2, 1) := by decide +kernel
theorem dX7_meets_41 : decode cX7_meets 41 = .ok (.invokestatic 112, 3) := by decide +kernel
theorem dX7_meets_44 : decode cX7_meets 44 = .ok (.if_icmp .ne 7, 3) := by decide +kernel
theorem dX7_meets_47 : decode cX7_meets 47 = .ok (.iconst 1, 1) := by decide +kernel
theorem dX7_meets_48 : decode cX7_meets 48 = .ok (.goto 4, 3) := by decide +kernel
theorem dX7_meets_51 : decode cX7_meets 51 = .ok (.iconst 0, 1) := by decide +kernel
theorem dX7_meets_52 : decode cX7_meets 52 = .ok (.istore 6, 2) := by decide +kernel
theorem dX7_meets_54 : decode cX7_meets 54 = .ok (.iload_n 3, 1) := by decide +kernel
theorem dX7_meets_55 : decode cX7_meets 55 = .ok (.ifCond .le 51, 3) := by decide +kernel
theorem dX7_meets_58 : decode cX7_meets 58 = .ok (.iload 4, 2) := by decide +kernel
theorem dX7_meets_60 : decode cX7_meets 60 = .ok (.ifCond .le 46, 3) := by decide +kernel
theorem dX7_meets_63 : decode cX7_meets 63 = .ok (.aload_n 0, 1) := by decide +kernel
theorem dX7_meets_64 : decode cX7_meets 64 = .ok (.iconst 2, 1) := by decide +kernel
theorem dX7_meets_65 : decode cX7_meets 65 = .ok (.iload_n 1, 1) := by decide +kernel
theorem dX7_meets_66 : decode cX7_meets 66 = .ok (.iadd, 1) := by decide +kernel
theorem dX7_meets_67 : decode cX7_meets 67 = .ok (.iaload, 1) := by decide +kernel
theorem dX7_meets_68 : decode cX7_meets 68 = .ok (.ifCond .ge 11, 3) := by decide +kernel
theorem dX7_meets_71 : decode cX7_meets 71 = .ok (.aload_n 0, 1) := by decide +kernel
theorem dX7_meets_72 : decode cX7_meets 72 = .ok (.iconst 2, 1) := by decide +kernel
theorem dX7_meets_73 : decode cX7_meets 73 = .ok (.iload_n 2, 1) := by decide +kernel
theorem dX7_meets_74 : decode cX7_meets 74 = .ok (.iadd, 1) := by decide +kernel
theorem dX7_meets_75 : decode cX7_meets 75 = .ok (.iaload, 1) := by decide +kernel
theorem dX7_meets_76 : decode cX7_meets 76 = .ok (.ifCond .lt 30, 3) := by decide +kernel
theorem dX7_meets_79 : decode cX7_meets 79 = .ok (.iload 6, 2) := by decide +kernel
theorem dX7_meets_81 : decode cX7_meets 81 = .ok (.ifCond .ne 21, 3) := by decide +kernel
theorem dX7_meets_84 : decode cX7_meets 84 = .ok (.iload_n 3, 1) := by decide +kernel
theorem dX7_meets_85 : decode cX7_meets 85 = .ok (.iload 4, 2) := by decide +kernel
theorem dX7_meets_87 : decode cX7_meets 87 = .ok (.if_icmp .ne 19, 3) := by decide +kernel
theorem dX7_meets_90 : decode cX7_meets 90 = .ok (.iload 5, 2) := by decide +kernel
theorem dX7_meets_92 : decode cX7_meets 92 = .ok (.iconst 1, 1) := by decide +kernel
theorem dX7_meets_93 : decode cX7_meets 93 = .ok (.if_icmp .eq 9, 3) := by decide +kernel
theorem dX7_meets_96 : decode cX7_meets 96 = .ok (.iload 5, 2) := by decide +kernel
theorem dX7_meets_98 : decode cX7_meets 98 = .ok (.iconst (-1), 1) := by decide +kernel
theorem dX7_meets_99 : decode cX7_meets 99 = .ok (.if_icmp .ne 7, 3) := by decide +kernel
theorem dX7_meets_102 : decode cX7_meets 102 = .ok (.iconst 1, 1) := by decide +kernel
theorem dX7_meets_103 : decode cX7_meets 103 = .ok (.goto 4, 3) := by decide +kernel
theorem dX7_meets_106 : decode cX7_meets 106 = .ok (.iconst 0, 1) := by decide +kernel
theorem dX7_meets_107 : decode cX7_meets 107 = .ok (.ireturn, 1) := by decide +kernel
theorem dX7_prints_0 : decode cX7_prints 0 = .ok (.aload_n 0, 1) := by decide +kernel
theorem dX7_prints_1 : decode cX7_prints 1 = .ok (.iconst 1, 1) := by decide +kernel
theorem dX7_prints_2 : decode cX7_prints 2 = .ok (.iaload, 1) := by decide +kernel
theorem dX7_prints_3 : decode cX7_prints 3 = .ok (.istore_n 2, 1) := by decide +kernel
theorem dX7_prints_4 : decode cX7_prints 4 = .ok (.iload_n 2, 1) := by decide +kernel
theorem dX7_prints_5 : decode cX7_prints 5 = .ok (.bipush 20, 2) := by decide +kernel
theorem dX7_prints_7 : decode cX7_prints 7 = .ok (.if_icmp .ge 52, 3) := by decide +kernel
theorem dX7_prints_10 : decode cX7_prints 10 = .ok (.aload_n 0, 1) := by decide +kernel
theorem dX7_prints_11 : decode cX7_prints 11 = .ok (.bipush 26, 2) := by decide +kernel
theorem dX7_prints_13 : decode cX7_prints 13 = .ok (.iload_n 2, 1) := by decide +kernel
theorem dX7_prints_14 : decode cX7_prints 14 = .ok (.iadd, 1) := by decide +kernel
theorem dX7_prints_15 : decode cX7_prints 15 = .ok (.aload_n 0, 1) := by decide +kernel
theorem dX7_prints_16 : decode cX7_prints 16 = .ok (.bipush 55, 2) := by decide +kernel
theorem dX7_prints_18 : decode cX7_prints 18 = .ok (.iload_n 1, 1) := by decide +kernel
theorem dX7_prints_19 : decode cX7_prints 19 = .ok (.iadd, 1) := by decide +kernel
theorem dX7_prints_20 : decode cX7_prints 20 = .ok (.iaload, 1) := by decide +kernel
theorem dX7_prints_21 : decode cX7_prints 21 = .ok (.iconst 5, 1) := by decide +kernel
theorem dX7_prints_22 : decode cX7_prints 22 = .ok (.if_icmp .ne 12, 3) := by decide +kernel
theorem dX7_prints_25 : decode cX7_prints 25 = .ok (.aload_n 0, 1) := by decide +kernel
theorem dX7_prints_26 : decode cX7_prints 26 = .ok (.bipush 26, 2) := by decide +kernel
theorem dX7_prints_28 : decode cX7_prints 28 = .ok (.iload_n 2, 1) := by decide +kernel
theorem dX7_prints_29 : decode cX7_prints 29 = .ok (.iadd, 1) := by decide +kernel
theorem dX7_prints_30 : decode cX7_prints 30 = .ok (.iaload, 1) := by decide +kernel
theorem dX7_prints_31 : decode cX7_prints 31 = .ok (.goto 6, 3) := by decide +kernel
theorem dX7_prints_34 : decode cX7_prints 34 = .ok (.iload_n 1, 1) := by decide +kernel
theorem dX7_prints_35 : decode cX7_prints 35 = .ok (.iconst 1, 1) := by decide +kernel
theorem dX7_prints_36 : decode cX7_prints 36 = .ok (.iadd, 1) := by decide +kernel
theorem dX7_prints_37 : decode cX7_prints 37 = .ok (.iastore, 1) := by decide +kernel
theorem dX7_prints_38 : decode cX7_prints 38 = .ok (.aload_n 0, 1) := by decide +kernel
theorem dX7_prints_39 : decode cX7_prints 39 = .ok (.iconst 1, 1) := by decide +kernel
theorem dX7_prints_40 : decode cX7_prints 40 = .ok (.dup2, 1) := by decide +kernel
theorem dX7_prints_41 : decode cX7_prints 41 = .ok (.iaload, 1) := by decide +kernel
theorem dX7_prints_42 : decode cX7_prints 42 = .ok (.aload_n 0, 1) := by decide +kernel
theorem dX7_prints_43 : decode cX7_prints 43 = .ok (.bipush 55, 2) := by decide +kernel
theorem dX7_prints_45 : decode cX7_prints 45 = .ok (.iload_n 1, 1) := by decide +kernel
theorem dX7_prints_46 : decode cX7_prints 46 = .ok (.iadd, 1) := by decide +kernel
theorem dX7_prints_47 : decode cX7_prints 47 = .ok (.iaload, 1) := by decide +kernel
theorem dX7_prints_48 : decode cX7_prints 48 = .ok (.iconst 4, 1) := by decide +kernel
theorem dX7_prints_49 : decode cX7_prints 49 = .ok (.if_icmp .ne 7, 3) := by decide +kernel
theorem dX7_prints_52 : decode cX7_prints 52 = .ok (.iconst 0, 1) := by decide +kernel
theorem dX7_prints_53 : decode cX7_prints 53 = .ok (.goto 4, 3) := by decide +kernel
theorem dX7_prints_56 : decode cX7_prints 56 = .ok (.iconst 1, 1) := by decide +kernel
theorem dX7_prints_57 : decode cX7_prints 57 = .ok (.iadd, 1) := by decide +kernel
theorem dX7_prints_58 : decode cX7_prints 58 = .ok (.iastore, 1) := by decide +kernel
theorem dX7_prints_59 : decode cX7_prints 59 = .ok (.return_, 1) := by decide +kernel
theorem dX7_tick_0 : decode cX7_tick 0 = .ok (.aload_n 0, 1) := by decide +kernel
theorem dX7_tick_1 : decode cX7_tick 1 = .ok (.bipush 46, 2) := by decide +kernel
theorem dX7_tick_3 : decode cX7_tick 3 = .ok (.iaload, 1) := by decide +kernel
theorem dX7_tick_4 : decode cX7_tick 4 = .ok (.istore_n 1, 1) := by decide +kernel
theorem dX7_tick_5 : decode cX7_tick 5 = .ok (.iconst 0, 1) := by decide +kernel
theorem dX7_tick_6 : decode cX7_tick 6 = .ok (.istore_n 2, 1) := by decide +kernel
theorem dX7_tick_7 : decode cX7_tick 7 = .ok (.iload_n 2, 1) := by decide +kernel
theorem dX7_tick_8 : decode cX7_tick 8 = .ok (.iload_n 1, 1) := by decide +kernel
theorem dX7_tick_9 : decode cX7_tick 9 = .ok (.if_icmp .ge 60, 3) := by decide +kernel
theorem dX7_tick_12 : decode cX7_tick 12 = .ok (.aload_n 0, 1) := by decide +kernel
theorem dX7_tick_13 : decode cX7_tick 13 = .ok (.iconst 2, 1) := by decide +kernel
theorem dX7_tick_14 : decode cX7_tick 14 = .ok (.iload_n 2, 1) := by decide +kernel
theorem dX7_tick_15 : decode cX7_tick 15 = .ok (.iadd, 1) := by decide +kernel
theorem dX7_tick_16 : decode cX7_tick 16 = .ok (.dup2, 1) := by decide +kernel
theorem dX7_tick_17 : decode cX7_tick 17 = .ok (.iaload, 1) := by decide +kernel
theorem dX7_tick_18 : decode cX7_tick 18 = .ok (.aload_n 0, 1) := by decide +kernel
theorem dX7_tick_19 : decode cX7_tick 19 = .ok (.iconst 2, 1) := by decide +kernel
theorem dX7_tick_20 : decode cX7_tick 20 = .ok (.iload_n 2, 1) := by decide +kernel
theorem dX7_tick_21 : decode cX7_tick 21 = .ok (.iadd, 1) := by decide +kernel
theorem dX7_tick_22 : decode cX7_tick 22 = .ok (.iaload, 1) := by decide +kernel
theorem dX7_tick_23 : decode cX7_tick 23 = .ok (.ifCond .ge 7, 3) := by decide +kernel
theorem dX7_tick_26 : decode cX7_tick 26 = .ok (.iconst 0, 1) := by decide +kernel
theorem dX7_tick_27 : decode cX7_tick 27 = .ok (.goto 4, 3) := by decide +kernel
theorem dX7_tick_30 : decode cX7_tick 30 = .ok (.iconst 1, 1) := by decide +kernel
theorem dX7_tick_31 : decode cX7_tick 31 = .ok (.iadd, 1) := by decide +kernel
theorem dX7_tick_32 : decode cX7_tick 32 = .ok (.iastore, 1) := by decide +kernel
theorem dX7_tick_33 : decode cX7_tick 33 = .ok (.aload_n 0, 1) := by decide +kernel
theorem dX7_tick_34 : decode cX7_tick 34 = .ok (.iconst 2, 1) := by decide +kernel
theorem dX7_tick_35 : decode cX7_tick 35 = .ok (.iload_n 2, 1) := by decide +kernel
theorem dX7_tick_36 : decode cX7_tick 36 = .ok (.iadd, 1) := by decide +kernel
theorem dX7_tick_37 : decode cX7_tick 37 = .ok (.aload_n 0, 1) := by decide +kernel
theorem dX7_tick_38 : decode cX7_tick 38 = .ok (.iconst 2, 1) := by decide +kernel
theorem dX7_tick_39 : decode cX7_tick 39 = .ok (.iload_n 2, 1) := by decide +kernel
theorem dX7_tick_40 : decode cX7_tick 40 = .ok (.iadd, 1) := by decide +kernel
theorem dX7_tick_41 : decode cX7_tick 41 = .ok (.iaload, 1) := by decide +kernel
theorem dX7_tick_42 : decode cX7_tick 42 = .ok (.ifCond .lt 15, 3) := by decide +kernel
theorem dX7_tick_45 : decode cX7_tick 45 = .ok (.aload_n 0, 1) := by decide +kernel
theorem dX7_tick_46 : decode cX7_tick 46 = .ok (.iload_n 2, 1) := by decide +kernel
theorem dX7_tick_47 : decode cX7_tick 47 = .ok (.invokestatic 116, 3) := by decide +kernel
theorem dX7_tick_50 : decode cX7_tick 50 = .ok (.ifCond .gt 7, 3) := by decide +kernel
theorem dX7_tick_53 : decode cX7_tick 53 = .ok (.iconst (-1), 1) := by decide +kernel
theorem dX7_tick_54 : decode cX7_tick 54 = .ok (.goto 8, 3) := by decide +kernel
theorem dX7_tick_57 : decode cX7_tick 57 = .ok (.aload_n 0, 1) := by decide +kernel
theorem dX7_tick_58 : decode cX7_tick 58 = .ok (.iconst 2, 1) := by decide +kernel
theorem dX7_tick_59 : decode cX7_tick 59 = .ok (.iload_n 2, 1) := by decide +kernel
theorem dX7_tick_60 : decode cX7_tick 60 = .ok (.iadd, 1) := by decide +kernel
theorem dX7_tick_61 : decode cX7_tick 61 = .ok (.iaload, 1) := by decide +kernel
theorem dX7_tick_62 : decode cX7_tick 62 = .ok (.iastore, 1) := by decide +kernel
theorem dX7_tick_63 : decode cX7_tick 63 = .ok (.iinc 2 1, 3) := by decide +kernel
theorem dX7_tick_66 : decode cX7_tick 66 = .ok (.goto (-59), 3) := by decide +kernel
theorem dX7_tick_69 : decode cX7_tick 69 = .ok (.iconst 0, 1) := by decide +kernel
theorem dX7_tick_70 : decode cX7_tick 70 = .ok (.istore_n 2, 1) := by decide +kernel
theorem dX7_tick_71 : decode cX7_tick 71 = .ok (.iconst 0, 1) := by decide +kernel
theorem dX7_tick_72 : decode cX7_tick 72 = .ok (.istore_n 3, 1) := by decide +kernel
theorem dX7_tick_73 : decode cX7_tick 73 = .ok (.iload_n 3, 1) := by decide +kernel
theorem dX7_tick_74 : decode cX7_tick 74 = .ok (.iload_n 1, 1) := by decide +kernel
theorem dX7_tick_75 : decode cX7_tick 75 = .ok (.if_icmp .ge 51, 3) := by decide +kernel
theorem dX7_tick_78 : decode cX7_tick 78 = .ok (.iload_n 3, 1) := by decide +kernel
theorem dX7_tick_79 : decode cX7_tick 79 = .ok (.iconst 1, 1) := by decide +kernel
theorem dX7_tick_80 : decode cX7_tick 80 = .ok (.iadd, 1) := by decide +kernel
theorem dX7_tick_81 : decode cX7_tick 81 = .ok (.istore 4, 2) := by decide +kernel
theorem dX7_tick_83 : decode cX7_tick 83 = .ok (.iload 4, 2) := by decide +kernel
theorem dX7_tick_85 : decode cX7_tick 85 = .ok (.iload_n 1, 1) := by decide +kernel
theorem dX7_tick_86 : decode cX7_tick 86 = .ok (.if_icmp .ge 34, 3) := by decide +kernel
theorem dX7_tick_89 : decode cX7_tick 89 = .ok (.iload_n 2, 1) := by decide +kernel
theorem dX7_tick_90 : decode cX7_tick 90 = .ok (.aload_n 0, 1) := by decide +kernel
theorem dX7_tick_91 : decode cX7_tick 91 = .ok (.iload_n 3, 1) := by decide +kernel
theorem dX7_tick_92 : decode cX7_tick 92 = .ok (.iload 4, 2) := by decide +kernel
theorem dX7_tick_94 : decode cX7_tick 94 = .ok (.invokestatic 119, 3) := by decide +kernel
theorem dX7_tick_97 : decode cX7_tick 97 = .ok (.ifCond .eq 14, 3) := by decide +kernel
theorem dX7_tick_100 : decode cX7_tick 100 = .ok (.iconst 1, 1) := by decide +kernel
theorem dX7_tick_101 : decode cX7_tick 101 = .ok (.iload_n 3, 1) := by decide +kernel
theorem dX7_tick_102 : decode cX7_tick 102 = .ok (.ishl, 1) := by decide +kernel
theorem dX7_tick_103 : decode cX7_tick 103 = .ok (.iconst 1, 1) := by decide +kernel
theorem dX7_tick_104 : decode cX7_tick 104 = .ok (.iload 4, 2) := by decide +kernel
theorem dX7_tick_106 : decode cX7_tick 106 = .ok (.ishl, 1) := by decide +kernel
theorem dX7_tick_107 : decode cX7_tick 107 = .ok (.ior, 1) := by decide +kernel
theorem dX7_tick_108 : decode cX7_tick 108 = .ok (.goto 4, 3) := by decide +kernel
theorem dX7_tick_111 : decode cX7_tick 111 = .ok (.iconst 0, 1) := by decide +kernel
theorem dX7_tick_112 : decode cX7_tick 112 = .ok (.ior, 1) := by decide +kernel
theorem dX7_tick_113 : decode cX7_tick 113 = .ok (.istore_n 2, 1) := by decide +kernel
theorem dX7_tick_114 : decode cX7_tick 114 = .ok (.iinc 4 1, 3) := by decide +kernel
theorem dX7_tick_117 : decode cX7_tick 117 = .ok (.goto (-34), 3) := by decide +kernel
theorem dX7_tick_120 : decode cX7_tick 120 = .ok (.iinc 3 1, 3) := by decide +kernel
theorem dX7_tick_123 : decode cX7_tick 123 = .ok (.goto (-50), 3) := by decide +kernel
theorem dX7_tick_126 : decode cX7_tick 126 = .ok (.iconst 0, 1) := by decide +kernel
theorem dX7_tick_127 : decode cX7_tick 127 = .ok (.istore_n 3, 1) := by decide +kernel
theorem dX7_tick_128 : decode cX7_tick 128 = .ok (.iload_n 3, 1) := by decide +kernel
theorem dX7_tick_129 : decode cX7_tick 129 = .ok (.iload_n 1, 1) := by decide +kernel
theorem dX7_tick_130 : decode cX7_tick 130 = .ok (.if_icmp .ge 42, 3) := by decide +kernel
theorem dX7_tick_133 : decode cX7_tick 133 = .ok (.iload_n 2, 1) := by decide +kernel
theorem dX7_tick_134 : decode cX7_tick 134 = .ok (.iload_n 3, 1) := by decide +kernel
theorem dX7_tick_135 : decode cX7_tick 135 = .ok (.invokestatic 123, 3) := by decide +kernel
theorem dX7_tick_138 : decode cX7_tick 138 = .ok (.ifCond .eq 28, 3) := by decide +kernel
theorem dX7_tick_141 : decode cX7_tick 141 = .ok (.aload_n 0, 1) := by decide +kernel
theorem dX7_tick_142 : decode cX7_tick 142 = .ok (.iconst 2, 1) := by decide +kernel
theorem dX7_tick_143 : decode cX7_tick 143 = .ok (.iload_n 3, 1) := by decide +kernel
theorem dX7_tick_144 : decode cX7_tick 144 = .ok (.iadd, 1) := by decide +kernel
theorem dX7_tick_145 : decode cX7_tick 145 = .ok (.iaload, 1) := by decide +kernel
theorem dX7_tick_146 : decode cX7_tick 146 = .ok (.ifCond .lt 20, 3) := by decide +kernel
theorem dX7_tick_149 : decode cX7_tick 149 = .ok (.aload_n 0, 1) := by decide +kernel
theorem dX7_tick_150 : decode cX7_tick 150 = .ok (.bipush 10, 2) := by decide +kernel
theorem dX7_tick_152 : decode cX7_tick 152 = .ok (.iload_n 3, 1) := by decide +kernel
theorem dX7_tick_153 : decode cX7_tick 153 = .ok (.iadd, 1) := by decide +kernel
theorem dX7_tick_154 : decode cX7_tick 154 = .ok (.aload_n 0, 1) := by decide +kernel
theorem dX7_tick_155 : decode cX7_tick 155 = .ok (.iload_n 3, 1) := by decide +kernel
theorem dX7_tick_156 : decode cX7_tick 156 = .ok (.invokestatic 116, 3) := by decide +kernel
theorem dX7_tick_159 : decode cX7_tick 159 = .ok (.iastore, 1) := by decide +kernel
theorem dX7_tick_160 : decode cX7_tick 160 = .ok (.aload_n 0, 1) := by decide +kernel
theorem dX7_tick_161 : decode cX7_tick 161 = .ok (.iconst 2, 1) := by decide +kernel
theorem dX7_tick_162 : decode cX7_tick 162 = .ok (.iload_n 3, 1) := by decide +kernel
theorem dX7_tick_163 : decode cX7_tick 163 = .ok (.iadd, 1) := by decide +kernel
theorem dX7_tick_164 : decode cX7_tick 164 = .ok (.iconst (-1), 1) := by decide +kernel
theorem dX7_tick_165 : decode cX7_tick 165 = .ok (.iastore, 1) := by decide +kernel
theorem dX7_tick_166 : decode cX7_tick 166 = .ok (.iinc 3 1, 3) := by decide +kernel
theorem dX7_tick_169 : decode cX7_tick 169 = .ok (.goto (-41), 3) := by decide +kernel
theorem dX7_tick_172 : decode cX7_tick 172 = .ok (.iconst 0, 1) := by decide +kernel
theorem dX7_tick_173 : decode cX7_tick 173 = .ok (.istore_n 3, 1) := by decide +kernel
theorem dX7_tick_174 : decode cX7_tick 174 = .ok (.iconst 0, 1) := by decide +kernel
theorem dX7_tick_175 : decode cX7_tick 175 = .ok (.istore 4, 2) := by decide +kernel
theorem dX7_tick_177 : decode cX7_tick 177 = .ok (.iload 4, 2) := by decide +kernel
theorem dX7_tick_179 : decode cX7_tick 179 = .ok (.iload_n 1, 1) := by decide +kernel
theorem dX7_tick_180 : decode cX7_tick 180 = .ok (.if_icmp .ge 42, 3) := by decide +kernel
theorem dX7_tick_183 : decode cX7_tick 183 = .ok (.aload_n 0, 1) := by decide +kernel
theorem dX7_tick_184 : decode cX7_tick 184 = .ok (.iconst 2, 1) := by decide +kernel
theorem dX7_tick_185 : decode cX7_tick 185 = .ok (.iload 4, 2) := by decide +kernel
theorem dX7_tick_187 : decode cX7_tick 187 = .ok (.iadd, 1) := by decide +kernel
theorem dX7_tick_188 : decode cX7_tick 188 = .ok (.iaload, 1) := by decide +kernel
theorem dX7_tick_189 : decode cX7_tick 189 = .ok (.ifCond .lt 27, 3) := by decide +kernel
theorem dX7_tick_192 : decode cX7_tick 192 = .ok (.aload_n 0, 1) := by decide +kernel
theorem dX7_tick_193 : decode cX7_tick 193 = .ok (.iconst 2, 1) := by decide +kernel
theorem dX7_tick_194 : decode cX7_tick 194 = .ok (.iload 4, 2) := by decide +kernel
theorem dX7_tick_196 : decode cX7_tick 196 = .ok (.iadd, 1) := by decide +kernel
theorem dX7_tick_197 : decode cX7_tick 197 = .ok (.iaload, 1) := by decide +kernel
theorem dX7_tick_198 : decode cX7_tick 198 = .ok (.aload_n 0, 1) := by decide +kernel
theorem dX7_tick_199 : decode cX7_tick 199 = .ok (.iload 4, 2) := by decide +kernel
theorem dX7_tick_201 : decode cX7_tick 201 = .ok (.invokestatic 112, 3) := by decide +kernel
theorem dX7_tick_204 : decode cX7_tick 204 = .ok (.if_icmp .ne 12, 3) := by decide +kernel
theorem dX7_tick_207 : decode cX7_tick 207 = .ok (.aload_n 0, 1) := by decide +kernel
theorem dX7_tick_208 : decode cX7_tick 208 = .ok (.iload 4, 2) := by decide +kernel
theorem dX7_tick_210 : decode cX7_tick 210 = .ok (.invokestatic 127, 3) := by decide +kernel
theorem dX7_tick_213 : decode cX7_tick 213 = .ok (.iinc 3 1, 3) := by decide +kernel
theorem dX7_tick_216 : decode cX7_tick 216 = .ok (.iinc 4 1, 3) := by decide +kernel
theorem dX7_tick_219 : decode cX7_tick 219 = .ok (.goto (-42), 3) := by decide +kernel
theorem dX7_tick_222 : decode cX7_tick 222 = .ok (.aload_n 0, 1) := by decide +kernel
theorem dX7_tick_223 : decode cX7_tick 223 = .ok (.iconst 0, 1) := by decide +kernel
theorem dX7_tick_224 : decode cX7_tick 224 = .ok (.dup2, 1) := by decide +kernel
theorem dX7_tick_225 : decode cX7_tick 225 = .ok (.iaload, 1) := by decide +kernel
theorem dX7_tick_226 : decode cX7_tick 226 = .ok (.iconst 1, 1) := by decide +kernel
theorem dX7_tick_227 : decode cX7_tick 227 = .ok (.iadd, 1) := by decide +kernel
theorem dX7_tick_228 : decode cX7_tick 228 = .ok (.iastore, 1) := by decide +kernel
theorem dX7_tick_229 : decode cX7_tick 229 = .ok (.iload_n 3, 1) := by decide +kernel
theorem dX7_tick_230 : decode cX7_tick 230 = .ok (.ireturn, 1) := by decide +kernel
theorem dX7_has_0 : decode cX7_has 0 = .ok (.iload_n 0, 1) := by decide +kernel
theorem dX7_has_1 : decode cX7_has 1 = .ok (.iload_n 1, 1) := by decide +kernel
theorem dX7_has_2 : decode cX7_has 2 = .ok (.ishr, 1) := by decide +kernel
theorem dX7_has_3 : decode cX7_has 3 = .ok (.iconst 1, 1) := by decide +kernel
theorem dX7_has_4 : decode cX7_has 4 = .ok (.iand, 1) := by decide +kernel
theorem dX7_has_5 : decode cX7_has 5 = .ok (.iconst 1, 1) := by decide +kernel
theorem dX7_has_6 : decode cX7_has 6 = .ok (.if_icmp .ne 7, 3) := by decide +kernel
theorem dX7_has_9 : decode cX7_has 9 = .ok (.iconst 1, 1) := by decide +kernel
theorem dX7_has_10 : decode cX7_has 10 = .ok (.goto 4, 3) := by decide +kernel
theorem dX7_has_13 : decode cX7_has 13 = .ok (.iconst 0, 1) := by decide +kernel
theorem dX7_has_14 : decode cX7_has 14 = .ok (.ireturn, 1) := by decide +kernel
theorem dX7_hanging_0 : decode cX7_hanging 0 = .ok (.iconst 0, 1) := by decide +kernel
theorem dX7_hanging_1 : decode cX7_hanging 1 = .ok (.istore_n 1, 1) := by decide +kernel
theorem dX7_hanging_2 : decode cX7_hanging 2 = .ok (.iconst 0, 1) := by decide +kernel
theorem dX7_hanging_3 : decode cX7_hanging 3 = .ok (.istore_n 2, 1) := by decide +kernel
theorem dX7_hanging_4 : decode cX7_hanging 4 = .ok (.iload_n 2, 1) := by decide +kernel
theorem dX7_hanging_5 : decode cX7_hanging 5 = .ok (.aload_n 0, 1) := by decide +kernel
theorem dX7_hanging_6 : decode cX7_hanging 6 = .ok (.bipush 46, 2) := by decide +kernel
theorem dX7_hanging_8 : decode cX7_hanging 8 = .ok (.iaload, 1) := by decide +kernel
theorem dX7_hanging_9 : decode cX7_hanging 9 = .ok (.if_icmp .ge 28, 3) := by decide +kernel
theorem dX7_hanging_12 : decode cX7_hanging 12 = .ok (.iload_n 1, 1) := by decide +kernel
theorem dX7_hanging_13 : decode cX7_hanging 13 = .ok (.aload_n 0, 1) := by decide +kernel
theorem dX7_hanging_14 : decode cX7_hanging 14 = .ok (.bipush 10, 2) := by decide +kernel
theorem dX7_hanging_16 : decode cX7_hanging 16 = .ok (.iload_n 2, 1) := by decide +kernel
theorem dX7_hanging_17 : decode cX7_hanging 17 = .ok (.iadd, 1) := by decide +kernel
theorem dX7_hanging_18 : decode cX7_hanging 18 = .ok (.iaload, 1) := by decide +kernel
theorem dX7_hanging_19 : decode cX7_hanging 19 = .ok (.ifCond .le 9, 3) := by decide +kernel
theorem dX7_hanging_22 : decode cX7_hanging 22 = .ok (.iconst 1, 1) := by decide +kernel
theorem dX7_hanging_23 : decode cX7_hanging 23 = .ok (.iload_n 2, 1) := by decide +kernel
theorem dX7_hanging_24 : decode cX7_hanging 24 = .ok (.ishl, 1) := by decide +kernel
theorem dX7_hanging_25 : decode cX7_hanging 25 = .ok (.goto 4, 3) := by decide +kernel
theorem dX7_hanging_28 : decode cX7_hanging 28 = .ok (.iconst 0, 1) := by decide +kernel
theorem dX7_hanging_29 : decode cX7_hanging 29 = .ok (.ior, 1) := by decide +kernel
theorem dX7_hanging_30 : decode cX7_hanging 30 = .ok (.istore_n 1, 1) := by decide +kernel
theorem dX7_hanging_31 : decode cX7_hanging 31 = .ok (.iinc 2 1, 3) := by decide +kernel
theorem dX7_hanging_34 : decode cX7_hanging 34 = .ok (.goto (-30), 3) := by decide +kernel
theorem dX7_hanging_37 : decode cX7_hanging 37 = .ok (.iload_n 1, 1) := by decide +kernel
theorem dX7_hanging_38 : decode cX7_hanging 38 = .ok (.ireturn, 1) := by decide +kernel
theorem dX7_moving_0 : decode cX7_moving 0 = .ok (.iconst 0, 1) := by decide +kernel
theorem dX7_moving_1 : decode cX7_moving 1 = .ok (.istore_n 1, 1) := by decide +kernel
theorem dX7_moving_2 : decode cX7_moving 2 = .ok (.iconst 0, 1) := by decide +kernel
theorem dX7_moving_3 : decode cX7_moving 3 = .ok (.istore_n 2, 1) := by decide +kernel
theorem dX7_moving_4 : decode cX7_moving 4 = .ok (.iload_n 2, 1) := by decide +kernel
theorem dX7_moving_5 : decode cX7_moving 5 = .ok (.aload_n 0, 1) := by decide +kernel
theorem dX7_moving_6 : decode cX7_moving 6 = .ok (.bipush 46, 2) := by decide +kernel
theorem dX7_moving_8 : decode cX7_moving 8 = .ok (.iaload, 1) := by decide +kernel
theorem dX7_moving_9 : decode cX7_moving 9 = .ok (.if_icmp .ge 27, 3) := by decide +kernel
theorem dX7_moving_12 : decode cX7_moving 12 = .ok (.iload_n 1, 1) := by decide +kernel
theorem dX7_moving_13 : decode cX7_moving 13 = .ok (.aload_n 0, 1) := by decide +kernel
theorem dX7_moving_14 : decode cX7_moving 14 = .ok (.iconst 2, 1) := by decide +kernel
theorem dX7_moving_15 : decode cX7_moving 15 = .ok (.iload_n 2, 1) := by decide +kernel
theorem dX7_moving_16 : decode cX7_moving 16 = .ok (.iadd, 1) := by decide +kernel
theorem dX7_moving_17 : decode cX7_moving 17 = .ok (.iaload, 1) := by decide +kernel
theorem dX7_moving_18 : decode cX7_moving 18 = .ok (.ifCond .lt 9, 3) := by decide +kernel
theorem dX7_moving_21 : decode cX7_moving 21 = .ok (.iconst 1, 1) := by decide +kernel
theorem dX7_moving_22 : decode cX7_moving 22 = .ok (.iload_n 2, 1) := by decide +kernel
theorem dX7_moving_23 : decode cX7_moving 23 = .ok (.ishl, 1) := by decide +kernel
theorem dX7_moving_24 : decode cX7_moving 24 = .ok (.goto 4, 3) := by decide +kernel
theorem dX7_moving_27 : decode cX7_moving 27 = .ok (.iconst 0, 1) := by decide +kernel
theorem dX7_moving_28 : decode cX7_moving 28 = .ok (.ior, 1) := by decide +kernel
theorem dX7_moving_29 : decode cX7_moving 29 = .ok (.istore_n 1, 1) := by decide +kernel
theorem dX7_moving_30 : decode cX7_moving 30 = .ok (.iinc 2 1, 3) := by decide +kernel
theorem dX7_moving_33 : decode cX7_moving 33 = .ok (.goto (-29), 3) := by decide +kernel
theorem dX7_moving_36 : decode cX7_moving 36 = .ok (.iload_n 1, 1) := by decide +kernel
theorem dX7_moving_37 : decode cX7_moving 37 = .ok (.ireturn, 1) := by decide +kernel
theorem dX7_rests_0 : decode cX7_rests 0 = .ok (.aload_n 0, 1) := by decide +kernel
theorem dX7_rests_1 : decode cX7_rests 1 = .ok (.iconst 2, 1) := by decide +kernel
theorem dX7_rests_2 : decode cX7_rests 2 = .ok (.iload_n 1, 1) := by decide +kernel
theorem dX7_rests_3 : decode cX7_rests 3 = .ok (.iadd, 1) := by decide +kernel
theorem dX7_rests_4 : decode cX7_rests 4 = .ok (.iaload, 1) := by decide +kernel
theorem dX7_rests_5 : decode cX7_rests 5 = .ok (.ifCond .ge 16, 3) := by decide +kernel
theorem dX7_rests_8 : decode cX7_rests 8 = .ok (.aload_n 0, 1) := by decide +kernel
theorem dX7_rests_9 : decode cX7_rests 9 = .ok (.bipush 10, 2) := by decide +kernel
theorem dX7_rests_11 : decode cX7_rests 11 = .ok (.iload_n 1, 1) := by decide +kernel
theorem dX7_rests_12 : decode cX7_rests 12 = .ok (.iadd, 1) := by decide +kernel
theorem dX7_rests_13 : decode cX7_rests 13 = .ok (.iaload, 1) := by decide +kernel
theorem dX7_rests_14 : decode cX7_rests 14 = .ok (.ifCond .ne 7, 3) := by decide +kernel
theorem dX7_rests_17 : decode cX7_rests 17 = .ok (.iconst 1, 1) := by decide +kernel
theorem dX7_rests_18 : decode cX7_rests 18 = .ok (.goto 4, 3) := by decide +kernel
theorem dX7_rests_21 : decode cX7_rests 21 = .ok (.iconst 0, 1) := by decide +kernel
theorem dX7_rests_22 : decode cX7_rests 22 = .ok (.ireturn, 1) := by decide +kernel
theorem dX7_frees_0 : decode cX7_frees 0 = .ok (.iconst 0, 1) := by decide +kernel
theorem dX7_frees_1 : decode cX7_frees 1 = .ok (.istore_n 1, 1) := by decide +kernel
theorem dX7_frees_2 : decode cX7_frees 2 = .ok (.iload_n 1, 1) := by decide +kernel
theorem dX7_frees_3 : decode cX7_frees 3 = .ok (.bipush 8, 2) := by decide +kernel
theorem dX7_frees_5 : decode cX7_frees 5 = .ok (.if_icmp .ge 16, 3) := by decide +kernel
theorem dX7_frees_8 : decode cX7_frees 8 = .ok (.aload_n 0, 1) := by decide +kernel
theorem dX7_frees_9 : decode cX7_frees 9 = .ok (.bipush 10, 2) := by decide +kernel
theorem dX7_frees_11 : decode cX7_frees 11 = .ok (.iload_n 1, 1) := by decide +kernel
theorem dX7_frees_12 : decode cX7_frees 12 = .ok (.iadd, 1) := by decide +kernel
theorem dX7_frees_13 : decode cX7_frees 13 = .ok (.iconst 0, 1) := by decide +kernel
theorem dX7_frees_14 : decode cX7_frees 14 = .ok (.iastore, 1) := by decide +kernel
theorem dX7_frees_15 : decode cX7_frees 15 = .ok (.iinc 1 1, 3) := by decide +kernel
theorem dX7_frees_18 : decode cX7_frees 18 = .ok (.goto (-16), 3) := by decide +kernel
theorem dX7_frees_21 : decode cX7_frees 21 = .ok (.return_, 1) := by decide +kernel
theorem dX7_exchanges_0 : decode cX7_exchanges 0 = .ok (.aload_n 0, 1) := by decide +kernel
theorem dX7_exchanges_1 : decode cX7_exchanges 1 = .ok (.bipush 18, 2) := by decide +kernel
theorem dX7_exchanges_3 : decode cX7_exchanges 3 = .ok (.iload_n 1, 1) := by decide +kernel
theorem dX7_exchanges_4 : decode cX7_exchanges 4 = .ok (.iadd, 1) := by decide +kernel
theorem dX7_exchanges_5 : decode cX7_exchanges 5 = .ok (.iaload, 1) := by decide +kernel
theorem dX7_exchanges_6 : decode cX7_exchanges 6 = .ok (.istore_n 3, 1) := by decide +kernel
theorem dX7_exchanges_7 : decode cX7_exchanges 7 = .ok (.aload_n 0, 1) := by decide +kernel
theorem dX7_exchanges_8 : decode cX7_exchanges 8 = .ok (.bipush 18, 2) := by decide +kernel
theorem dX7_exchanges_10 : decode cX7_exchanges 10 = .ok (.iload_n 1, 1) := by decide +kernel
theorem dX7_exchanges_11 : decode cX7_exchanges 11 = .ok (.iadd, 1) := by decide +kernel
theorem dX7_exchanges_12 : decode cX7_exchanges 12 = .ok (.aload_n 0, 1) := by decide +kernel
theorem dX7_exchanges_13 : decode cX7_exchanges 13 = .ok (.bipush 18, 2) := by decide +kernel
theorem dX7_exchanges_15 : decode cX7_exchanges 15 = .ok (.iload_n 2, 1) := by decide +kernel
theorem dX7_exchanges_16 : decode cX7_exchanges 16 = .ok (.iadd, 1) := by decide +kernel
theorem dX7_exchanges_17 : decode cX7_exchanges 17 = .ok (.iaload, 1) := by decide +kernel
theorem dX7_exchanges_18 : decode cX7_exchanges 18 = .ok (.iastore, 1) := by decide +kernel
theorem dX7_exchanges_19 : decode cX7_exchanges 19 = .ok (.aload_n 0, 1) := by decide +kernel
theorem dX7_exchanges_20 : decode cX7_exchanges 20 = .ok (.bipush 18, 2) := by decide +kernel
theorem dX7_exchanges_22 : decode cX7_exchanges 22 = .ok (.iload_n 2, 1) := by decide +kernel
theorem dX7_exchanges_23 : decode cX7_exchanges 23 = .ok (.iadd, 1) := by decide +kernel
theorem dX7_exchanges_24 : decode cX7_exchanges 24 = .ok (.iload_n 3, 1) := by decide +kernel
theorem dX7_exchanges_25 : decode cX7_exchanges 25 = .ok (.iastore, 1) := by decide +kernel
theorem dX7_exchanges_26 : decode cX7_exchanges 26 = .ok (.return_, 1) := by decide +kernel
theorem dX7_ticks_0 : decode cX7_ticks 0 = .ok (.aload_n 0, 1) := by decide +kernel
theorem dX7_ticks_1 : decode cX7_ticks 1 = .ok (.invokevirtual 131, 3) := by decide +kernel
theorem dX7_ticks_4 : decode cX7_ticks 4 = .ok (.ifCond .ne 6, 3) := by decide +kernel
theorem dX7_ticks_7 : decode cX7_ticks 7 = .ok (.ldc 134, 2) := by decide +kernel
theorem dX7_ticks_9 : decode cX7_ticks 9 = .ok (.ireturn, 1) := by decide +kernel
theorem dX7_ticks_10 : decode cX7_ticks 10 = .ok (.iload_n 1, 1) := by decide +kernel
theorem dX7_ticks_11 : decode cX7_ticks 11 = .ok (.iconst 1, 1) := by decide +kernel
theorem dX7_ticks_12 : decode cX7_ticks 12 = .ok (.bipush 24, 2) := by decide +kernel
theorem dX7_ticks_14 : decode cX7_ticks 14 = .ok (.invokestatic 47, 3) := by decide +kernel
theorem dX7_ticks_17 : decode cX7_ticks 17 = .ok (.ifCond .ne 6, 3) := by decide +kernel
theorem dX7_ticks_20 : decode cX7_ticks 20 = .ok (.ldc 62, 2) := by decide +kernel
theorem dX7_ticks_22 : decode cX7_ticks 22 = .ok (.ireturn, 1) := by decide +kernel
theorem dX7_ticks_23 : decode cX7_ticks 23 = .ok (.aload_n 0, 1) := by decide +kernel
theorem dX7_ticks_24 : decode cX7_ticks 24 = .ok (.getfield 25, 3) := by decide +kernel
theorem dX7_ticks_27 : decode cX7_ticks 27 = .ok (.iconst 0, 1) := by decide +kernel
theorem dX7_ticks_28 : decode cX7_ticks 28 = .ok (.iaload, 1) := by decide +kernel
theorem dX7_ticks_29 : decode cX7_ticks 29 = .ok (.iload_n 1, 1) := by decide +kernel
theorem dX7_ticks_30 : decode cX7_ticks 30 = .ok (.iadd, 1) := by decide +kernel
theorem dX7_ticks_31 : decode cX7_ticks 31 = .ok (.sipush 9999, 3) := by decide +kernel
theorem dX7_ticks_34 : decode cX7_ticks 34 = .ok (.if_icmp .le 6, 3) := by decide +kernel
theorem dX7_ticks_37 : decode cX7_ticks 37 = .ok (.ldc 79, 2) := by decide +kernel
theorem dX7_ticks_39 : decode cX7_ticks 39 = .ok (.ireturn, 1) := by decide +kernel
theorem dX7_ticks_40 : decode cX7_ticks 40 = .ok (.iconst 0, 1) := by decide +kernel
theorem dX7_ticks_41 : decode cX7_ticks 41 = .ok (.istore_n 2, 1) := by decide +kernel
theorem dX7_ticks_42 : decode cX7_ticks 42 = .ok (.iload_n 2, 1) := by decide +kernel
theorem dX7_ticks_43 : decode cX7_ticks 43 = .ok (.iload_n 1, 1) := by decide +kernel
theorem dX7_ticks_44 : decode cX7_ticks 44 = .ok (.if_icmp .ge 21, 3) := by decide +kernel
theorem dX7_ticks_47 : decode cX7_ticks 47 = .ok (.aload_n 0, 1) := by decide +kernel
theorem dX7_ticks_48 : decode cX7_ticks 48 = .ok (.invokevirtual 135, 3) := by decide +kernel
theorem dX7_ticks_51 : decode cX7_ticks 51 = .ok (.aload_n 0, 1) := by decide +kernel
theorem dX7_ticks_52 : decode cX7_ticks 52 = .ok (.getfield 25, 3) := by decide +kernel
theorem dX7_ticks_55 : decode cX7_ticks 55 = .ok (.invokestatic 138, 3) := by decide +kernel
theorem dX7_ticks_58 : decode cX7_ticks 58 = .ok (.pop, 1) := by decide +kernel
theorem dX7_ticks_59 : decode cX7_ticks 59 = .ok (.iinc 2 1, 3) := by decide +kernel
theorem dX7_ticks_62 : decode cX7_ticks 62 = .ok (.goto (-20), 3) := by decide +kernel
theorem dX7_ticks_65 : decode cX7_ticks 65 = .ok (.aload_n 0, 1) := by decide +kernel
theorem dX7_ticks_66 : decode cX7_ticks 66 = .ok (.getfield 25, 3) := by decide +kernel
theorem dX7_ticks_69 : decode cX7_ticks 69 = .ok (.invokestatic 142, 3) := by decide +kernel
theorem dX7_ticks_72 : decode cX7_ticks 72 = .ok (.ireturn, 1) := by decide +kernel
theorem dX7_key_0 : decode cX7_key 0 = .ok (.aload_n 0, 1) := by decide +kernel
theorem dX7_key_1 : decode cX7_key 1 = .ok (.iload_n 1, 1) := by decide +kernel
theorem dX7_key_2 : decode cX7_key 2 = .ok (.invokevirtual 145, 3) := by decide +kernel
theorem dX7_key_5 : decode cX7_key 5 = .ok (.ifCond .ne 6, 3) := by decide +kernel
theorem dX7_key_8 : decode cX7_key 8 = .ok (.ldc 62, 2) := by decide +kernel
theorem dX7_key_10 : decode cX7_key 10 = .ok (.ireturn, 1) := by decide +kernel
theorem dX7_key_11 : decode cX7_key 11 = .ok (.aload_n 0, 1) := by decide +kernel
theorem dX7_key_12 : decode cX7_key 12 = .ok (.getfield 25, 3) := by decide +kernel
theorem dX7_key_15 : decode cX7_key 15 = .ok (.iload_n 1, 1) := by decide +kernel
theorem dX7_key_16 : decode cX7_key 16 = .ok (.invokestatic 148, 3) := by decide +kernel
theorem dX7_key_19 : decode cX7_key 19 = .ok (.ifCond .ne 6, 3) := by decide +kernel
theorem dX7_key_22 : decode cX7_key 22 = .ok (.ldc 134, 2) := by decide +kernel
theorem dX7_key_24 : decode cX7_key 24 = .ok (.ireturn, 1) := by decide +kernel
theorem dX7_key_25 : decode cX7_key 25 = .ok (.aload_n 0, 1) := by decide +kernel
theorem dX7_key_26 : decode cX7_key 26 = .ok (.invokevirtual 135, 3) := by decide +kernel
theorem dX7_key_29 : decode cX7_key 29 = .ok (.aload_n 0, 1) := by decide +kernel
theorem dX7_key_30 : decode cX7_key 30 = .ok (.getfield 25, 3) := by decide +kernel
theorem dX7_key_33 : decode cX7_key 33 = .ok (.iconst 2, 1) := by decide +kernel
theorem dX7_key_34 : decode cX7_key 34 = .ok (.iload_n 1, 1) := by decide +kernel
theorem dX7_key_35 : decode cX7_key 35 = .ok (.iadd, 1) := by decide +kernel
theorem dX7_key_36 : decode cX7_key 36 = .ok (.iconst 0, 1) := by decide +kernel
theorem dX7_key_37 : decode cX7_key 37 = .ok (.iastore, 1) := by decide +kernel
theorem dX7_key_38 : decode cX7_key 38 = .ok (.aload_n 0, 1) := by decide +kernel
theorem dX7_key_39 : decode cX7_key 39 = .ok (.getfield 25, 3) := by decide +kernel
theorem dX7_key_42 : decode cX7_key 42 = .ok (.invokestatic 152, 3) := by decide +kernel
theorem dX7_key_45 : decode cX7_key 45 = .ok (.ireturn, 1) := by decide +kernel
theorem dX7_ones_0 : decode cX7_ones 0 = .ok (.iconst 0, 1) := by decide +kernel
theorem dX7_ones_1 : decode cX7_ones 1 = .ok (.istore_n 1, 1) := by decide +kernel
theorem dX7_ones_2 : decode cX7_ones 2 = .ok (.iconst 0, 1) := by decide +kernel
theorem dX7_ones_3 : decode cX7_ones 3 = .ok (.istore_n 2, 1) := by decide +kernel
theorem dX7_ones_4 : decode cX7_ones 4 = .ok (.iload_n 2, 1) := by decide +kernel
theorem dX7_ones_5 : decode cX7_ones 5 = .ok (.bipush 8, 2) := by decide +kernel
theorem dX7_ones_7 : decode cX7_ones 7 = .ok (.if_icmp .ge 17, 3) := by decide +kernel
theorem dX7_ones_10 : decode cX7_ones 10 = .ok (.iload_n 1, 1) := by decide +kernel
theorem dX7_ones_11 : decode cX7_ones 11 = .ok (.iload_n 0, 1) := by decide +kernel
theorem dX7_ones_12 : decode cX7_ones 12 = .ok (.iload_n 2, 1) := by decide +kernel
theorem dX7_ones_13 : decode cX7_ones 13 = .ok (.ishr, 1) := by decide +kernel
theorem dX7_ones_14 : decode cX7_ones 14 = .ok (.iconst 1, 1) := by decide +kernel
theorem dX7_ones_15 : decode cX7_ones 15 = .ok (.iand, 1) := by decide +kernel
theorem dX7_ones_16 : decode cX7_ones 16 = .ok (.iadd, 1) := by decide +kernel
theorem dX7_ones_17 : decode cX7_ones 17 = .ok (.istore_n 1, 1) := by decide +kernel
theorem dX7_ones_18 : decode cX7_ones 18 = .ok (.iinc 2 1, 3) := by decide +kernel
theorem dX7_ones_21 : decode cX7_ones 21 = .ok (.goto (-17), 3) := by decide +kernel
theorem dX7_ones_24 : decode cX7_ones 24 = .ok (.iload_n 1, 1) := by decide +kernel
theorem dX7_ones_25 : decode cX7_ones 25 = .ok (.ireturn, 1) := by decide +kernel
theorem dX7_free_0 : decode cX7_free 0 = .ok (.aload_n 0, 1) := by decide +kernel
theorem dX7_free_1 : decode cX7_free 1 = .ok (.getfield 25, 3) := by decide +kernel
theorem dX7_free_4 : decode cX7_free 4 = .ok (.invokestatic 142, 3) := by decide +kernel
theorem dX7_free_7 : decode cX7_free 7 = .ok (.invokestatic 155, 3) := by decide +kernel
theorem dX7_free_10 : decode cX7_free 10 = .ok (.istore_n 1, 1) := by decide +kernel
theorem dX7_free_11 : decode cX7_free 11 = .ok (.iload_n 1, 1) := by decide +kernel
theorem dX7_free_12 : decode cX7_free 12 = .ok (.ifCond .ne 6, 3) := by decide +kernel
theorem dX7_free_15 : decode cX7_free 15 = .ok (.ldc 134, 2) := by decide +kernel
theorem dX7_free_17 : decode cX7_free 17 = .ok (.ireturn, 1) := by decide +kernel
theorem dX7_free_18 : decode cX7_free 18 = .ok (.aload_n 0, 1) := by decide +kernel
theorem dX7_free_19 : decode cX7_free 19 = .ok (.invokevirtual 135, 3) := by decide +kernel
theorem dX7_free_22 : decode cX7_free 22 = .ok (.aload_n 0, 1) := by decide +kernel
theorem dX7_free_23 : decode cX7_free 23 = .ok (.getfield 25, 3) := by decide +kernel
theorem dX7_free_26 : decode cX7_free 26 = .ok (.invokestatic 158, 3) := by decide +kernel
theorem dX7_free_29 : decode cX7_free 29 = .ok (.iload_n 1, 1) := by decide +kernel
theorem dX7_free_30 : decode cX7_free 30 = .ok (.ireturn, 1) := by decide +kernel
theorem dX7_back_0 : decode cX7_back 0 = .ok (.aload_n 0, 1) := by decide +kernel
theorem dX7_back_1 : decode cX7_back 1 = .ok (.invokevirtual 131, 3) := by decide +kernel
theorem dX7_back_4 : decode cX7_back 4 = .ok (.ifCond .ne 6, 3) := by decide +kernel
theorem dX7_back_7 : decode cX7_back 7 = .ok (.ldc 134, 2) := by decide +kernel
theorem dX7_back_9 : decode cX7_back 9 = .ok (.ireturn, 1) := by decide +kernel
theorem dX7_back_10 : decode cX7_back 10 = .ok (.aload_n 0, 1) := by decide +kernel
theorem dX7_back_11 : decode cX7_back 11 = .ok (.invokevirtual 135, 3) := by decide +kernel
theorem dX7_back_14 : decode cX7_back 14 = .ok (.aload_n 0, 1) := by decide +kernel
theorem dX7_back_15 : decode cX7_back 15 = .ok (.getfield 25, 3) := by decide +kernel
theorem dX7_back_18 : decode cX7_back 18 = .ok (.iconst 1, 1) := by decide +kernel
theorem dX7_back_19 : decode cX7_back 19 = .ok (.iaload, 1) := by decide +kernel
theorem dX7_back_20 : decode cX7_back 20 = .ok (.istore_n 1, 1) := by decide +kernel
theorem dX7_back_21 : decode cX7_back 21 = .ok (.aload_n 0, 1) := by decide +kernel
theorem dX7_back_22 : decode cX7_back 22 = .ok (.getfield 25, 3) := by decide +kernel
theorem dX7_back_25 : decode cX7_back 25 = .ok (.iconst 1, 1) := by decide +kernel
theorem dX7_back_26 : decode cX7_back 26 = .ok (.iconst 0, 1) := by decide +kernel
theorem dX7_back_27 : decode cX7_back 27 = .ok (.iastore, 1) := by decide +kernel
theorem dX7_back_28 : decode cX7_back 28 = .ok (.iconst 0, 1) := by decide +kernel
theorem dX7_back_29 : decode cX7_back 29 = .ok (.istore_n 2, 1) := by decide +kernel
theorem dX7_back_30 : decode cX7_back 30 = .ok (.iload_n 2, 1) := by decide +kernel
theorem dX7_back_31 : decode cX7_back 31 = .ok (.bipush 20, 2) := by decide +kernel
theorem dX7_back_33 : decode cX7_back 33 = .ok (.if_icmp .ge 19, 3) := by decide +kernel
theorem dX7_back_36 : decode cX7_back 36 = .ok (.aload_n 0, 1) := by decide +kernel
theorem dX7_back_37 : decode cX7_back 37 = .ok (.getfield 25, 3) := by decide +kernel
theorem dX7_back_40 : decode cX7_back 40 = .ok (.bipush 26, 2) := by decide +kernel
theorem dX7_back_42 : decode cX7_back 42 = .ok (.iload_n 2, 1) := by decide +kernel
theorem dX7_back_43 : decode cX7_back 43 = .ok (.iadd, 1) := by decide +kernel
theorem dX7_back_44 : decode cX7_back 44 = .ok (.iconst 0, 1) := by decide +kernel
theorem dX7_back_45 : decode cX7_back 45 = .ok (.iastore, 1) := by decide +kernel
theorem dX7_back_46 : decode cX7_back 46 = .ok (.iinc 2 1, 3) := by decide +kernel
theorem dX7_back_49 : decode cX7_back 49 = .ok (.goto (-19), 3) := by decide +kernel
theorem dX7_back_52 : decode cX7_back 52 = .ok (.iload_n 1, 1) := by decide +kernel
theorem dX7_back_53 : decode cX7_back 53 = .ok (.ireturn, 1) := by decide +kernel
theorem dX7_swap_0 : decode cX7_swap 0 = .ok (.aload_n 0, 1) := by decide +kernel
theorem dX7_swap_1 : decode cX7_swap 1 = .ok (.iload_n 1, 1) := by decide +kernel
theorem dX7_swap_2 : decode cX7_swap 2 = .ok (.invokevirtual 145, 3) := by decide +kernel
theorem dX7_swap_5 : decode cX7_swap 5 = .ok (.ifCond .eq 16, 3) := by decide +kernel
theorem dX7_swap_8 : decode cX7_swap 8 = .ok (.aload_n 0, 1) := by decide +kernel
theorem dX7_swap_9 : decode cX7_swap 9 = .ok (.iload_n 2, 1) := by decide +kernel
theorem dX7_swap_10 : decode cX7_swap 10 = .ok (.invokevirtual 145, 3) := by decide +kernel
theorem dX7_swap_13 : decode cX7_swap 13 = .ok (.ifCond .eq 8, 3) := by decide +kernel
theorem dX7_swap_16 : decode cX7_swap 16 = .ok (.iload_n 1, 1) := by decide +kernel
theorem dX7_swap_17 : decode cX7_swap 17 = .ok (.iload_n 2, 1) := by decide +kernel
theorem dX7_swap_18 : decode cX7_swap 18 = .ok (.if_icmp .ne 6, 3) := by decide +kernel
theorem dX7_swap_21 : decode cX7_swap 21 = .ok (.ldc 62, 2) := by decide +kernel
theorem dX7_swap_23 : decode cX7_swap 23 = .ok (.ireturn, 1) := by decide +kernel
theorem dX7_swap_24 : decode cX7_swap 24 = .ok (.aload_n 0, 1) := by decide +kernel
theorem dX7_swap_25 : decode cX7_swap 25 = .ok (.invokevirtual 135, 3) := by decide +kernel
theorem dX7_swap_28 : decode cX7_swap 28 = .ok (.aload_n 0, 1) := by decide +kernel
theorem dX7_swap_29 : decode cX7_swap 29 = .ok (.getfield 25, 3) := by decide +kernel
theorem dX7_swap_32 : decode cX7_swap 32 = .ok (.iload_n 1, 1) := by decide +kernel
theorem dX7_swap_33 : decode cX7_swap 33 = .ok (.iload_n 2, 1) := by decide +kernel
theorem dX7_swap_34 : decode cX7_swap 34 = .ok (.invokestatic 162, 3) := by decide +kernel
theorem dX7_swap_37 : decode cX7_swap 37 = .ok (.aload_n 0, 1) := by decide +kernel
theorem dX7_swap_38 : decode cX7_swap 38 = .ok (.getfield 25, 3) := by decide +kernel
theorem dX7_swap_41 : decode cX7_swap 41 = .ok (.bipush 18, 2) := by decide +kernel
theorem dX7_swap_43 : decode cX7_swap 43 = .ok (.iload_n 1, 1) := by decide +kernel
theorem dX7_swap_44 : decode cX7_swap 44 = .ok (.iadd, 1) := by decide +kernel
theorem dX7_swap_45 : decode cX7_swap 45 = .ok (.iaload, 1) := by decide +kernel
theorem dX7_swap_46 : decode cX7_swap 46 = .ok (.ireturn, 1) := by decide +kernel
theorem dX7_undo_0 : decode cX7_undo 0 = .ok (.aload_n 0, 1) := by decide +kernel
theorem dX7_undo_1 : decode cX7_undo 1 = .ok (.getfield 109, 3) := by decide +kernel
theorem dX7_undo_4 : decode cX7_undo 4 = .ok (.ifCond .ne 6, 3) := by decide +kernel
theorem dX7_undo_7 : decode cX7_undo 7 = .ok (.ldc 134, 2) := by decide +kernel
theorem dX7_undo_9 : decode cX7_undo 9 = .ok (.ireturn, 1) := by decide +kernel
theorem dX7_undo_10 : decode cX7_undo 10 = .ok (.aload_n 0, 1) := by decide +kernel
theorem dX7_undo_11 : decode cX7_undo 11 = .ok (.dup, 1) := by decide +kernel
theorem dX7_undo_12 : decode cX7_undo 12 = .ok (.getfield 109, 3) := by decide +kernel
theorem dX7_undo_15 : decode cX7_undo 15 = .ok (.iconst 1, 1) := by decide +kernel
theorem dX7_undo_16 : decode cX7_undo 16 = .ok (.isub, 1) := by decide +kernel
theorem dX7_undo_17 : decode cX7_undo 17 = .ok (.putfield 109, 3) := by decide +kernel
theorem dX7_undo_20 : decode cX7_undo 20 = .ok (.iconst 0, 1) := by decide +kernel
theorem dX7_undo_21 : decode cX7_undo 21 = .ok (.istore_n 1, 1) := by decide +kernel
theorem dX7_undo_22 : decode cX7_undo 22 = .ok (.iload_n 1, 1) := by decide +kernel
theorem dX7_undo_23 : decode cX7_undo 23 = .ok (.bipush 46, 2) := by decide +kernel
theorem dX7_undo_25 : decode cX7_undo 25 = .ok (.if_icmp .ge 29, 3) := by decide +kernel
theorem dX7_undo_28 : decode cX7_undo 28 = .ok (.aload_n 0, 1) := by decide +kernel
theorem dX7_undo_29 : decode cX7_undo 29 = .ok (.getfield 25, 3) := by decide +kernel
theorem dX7_undo_32 : decode cX7_undo 32 = .ok (.iload_n 1, 1) := by decide +kernel
theorem dX7_undo_33 : decode cX7_undo 33 = .ok (.aload_n 0, 1) := by decide +kernel
theorem dX7_undo_34 : decode cX7_undo 34 = .ok (.getfield 38, 3) := by decide +kernel
theorem dX7_undo_37 : decode cX7_undo 37 = .ok (.bipush 46, 2) := by decide +kernel
theorem dX7_undo_39 : decode cX7_undo 39 = .ok (.aload_n 0, 1) := by decide +kernel
theorem dX7_undo_40 : decode cX7_undo 40 = .ok (.getfield 109, 3) := by decide +kernel
theorem dX7_undo_43 : decode cX7_undo 43 = .ok (.imul, 1) := by decide +kernel
theorem dX7_undo_44 : decode cX7_undo 44 = .ok (.iload_n 1, 1) := by decide +kernel
theorem dX7_undo_45 : decode cX7_undo 45 = .ok (.iadd, 1) := by decide +kernel
theorem dX7_undo_46 : decode cX7_undo 46 = .ok (.iaload, 1) := by decide +kernel
theorem dX7_undo_47 : decode cX7_undo 47 = .ok (.iastore, 1) := by decide +kernel
theorem dX7_undo_48 : decode cX7_undo 48 = .ok (.iinc 1 1, 3) := by decide +kernel
theorem dX7_undo_51 : decode cX7_undo 51 = .ok (.goto (-29), 3) := by decide +kernel
theorem dX7_undo_54 : decode cX7_undo 54 = .ok (.aload_n 0, 1) := by decide +kernel
theorem dX7_undo_55 : decode cX7_undo 55 = .ok (.getfield 109, 3) := by decide +kernel
theorem dX7_undo_58 : decode cX7_undo 58 = .ok (.ireturn, 1) := by decide +kernel
theorem dX7_bar_0 : decode cX7_bar 0 = .ok (.aload_n 0, 1) := by decide +kernel
theorem dX7_bar_1 : decode cX7_bar 1 = .ok (.iload_n 1, 1) := by decide +kernel
theorem dX7_bar_2 : decode cX7_bar 2 = .ok (.invokevirtual 145, 3) := by decide +kernel
theorem dX7_bar_5 : decode cX7_bar 5 = .ok (.ifCond .ne 6, 3) := by decide +kernel
theorem dX7_bar_8 : decode cX7_bar 8 = .ok (.ldc 62, 2) := by decide +kernel
theorem dX7_bar_10 : decode cX7_bar 10 = .ok (.ireturn, 1) := by decide +kernel
theorem dX7_bar_11 : decode cX7_bar 11 = .ok (.iload_n 2, 1) := by decide +kernel
theorem dX7_bar_12 : decode cX7_bar 12 = .ok (.tableswitch 121 0 5 #[40, 50, 60, 69, 94, 112], 40) := by decide +kernel
theorem dX7_bar_52 : decode cX7_bar 52 = .ok (.aload_n 0, 1) := by decide +kernel
theorem dX7_bar_53 : decode cX7_bar 53 = .ok (.getfield 25, 3) := by decide +kernel
theorem dX7_bar_56 : decode cX7_bar 56 = .ok (.bipush 47, 2) := by decide +kernel
theorem dX7_bar_58 : decode cX7_bar 58 = .ok (.iload_n 1, 1) := by decide +kernel
theorem dX7_bar_59 : decode cX7_bar 59 = .ok (.iadd, 1) := by decide +kernel
theorem dX7_bar_60 : decode cX7_bar 60 = .ok (.iaload, 1) := by decide +kernel
theorem dX7_bar_61 : decode cX7_bar 61 = .ok (.ireturn, 1) := by decide +kernel
theorem dX7_bar_62 : decode cX7_bar 62 = .ok (.aload_n 0, 1) := by decide +kernel
theorem dX7_bar_63 : decode cX7_bar 63 = .ok (.getfield 25, 3) := by decide +kernel
theorem dX7_bar_66 : decode cX7_bar 66 = .ok (.bipush 18, 2) := by decide +kernel
theorem dX7_bar_68 : decode cX7_bar 68 = .ok (.iload_n 1, 1) := by decide +kernel
theorem dX7_bar_69 : decode cX7_bar 69 = .ok (.iadd, 1) := by decide +kernel
theorem dX7_bar_70 : decode cX7_bar 70 = .ok (.iaload, 1) := by decide +kernel
theorem dX7_bar_71 : decode cX7_bar 71 = .ok (.ireturn, 1) := by decide +kernel
theorem dX7_bar_72 : decode cX7_bar 72 = .ok (.aload_n 0, 1) := by decide +kernel
theorem dX7_bar_73 : decode cX7_bar 73 = .ok (.getfield 25, 3) := by decide +kernel
theorem dX7_bar_76 : decode cX7_bar 76 = .ok (.iload_n 1, 1) := by decide +kernel
theorem dX7_bar_77 : decode cX7_bar 77 = .ok (.invokestatic 116, 3) := by decide +kernel
theorem dX7_bar_80 : decode cX7_bar 80 = .ok (.ireturn, 1) := by decide +kernel
theorem dX7_bar_81 : decode cX7_bar 81 = .ok (.aload_n 0, 1) := by decide +kernel
theorem dX7_bar_82 : decode cX7_bar 82 = .ok (.getfield 25, 3) := by decide +kernel
theorem dX7_bar_85 : decode cX7_bar 85 = .ok (.iconst 2, 1) := by decide +kernel
theorem dX7_bar_86 : decode cX7_bar 86 = .ok (.iload_n 1, 1) := by decide +kernel
theorem dX7_bar_87 : decode cX7_bar 87 = .ok (.iadd, 1) := by decide +kernel
theorem dX7_bar_88 : decode cX7_bar 88 = .ok (.iaload, 1) := by decide +kernel
theorem dX7_bar_89 : decode cX7_bar 89 = .ok (.ifCond .ge 8, 3) := by decide +kernel
theorem dX7_bar_92 : decode cX7_bar 92 = .ok (.ldc 166, 2) := by decide +kernel
theorem dX7_bar_94 : decode cX7_bar 94 = .ok (.goto 11, 3) := by decide +kernel
theorem dX7_bar_97 : decode cX7_bar 97 = .ok (.aload_n 0, 1) := by decide +kernel
theorem dX7_bar_98 : decode cX7_bar 98 = .ok (.getfield 25, 3) := by decide +kernel
theorem dX7_bar_101 : decode cX7_bar 101 = .ok (.iconst 2, 1) := by decide +kernel
theorem dX7_bar_102 : decode cX7_bar 102 = .ok (.iload_n 1, 1) := by decide +kernel
theorem dX7_bar_103 : decode cX7_bar 103 = .ok (.iadd, 1) := by decide +kernel
theorem dX7_bar_104 : decode cX7_bar 104 = .ok (.iaload, 1) := by decide +kernel
theorem dX7_bar_105 : decode cX7_bar 105 = .ok (.ireturn, 1) := by decide +kernel
theorem dX7_bar_106 : decode cX7_bar 106 = .ok (.aload_n 0, 1) := by decide +kernel
theorem dX7_bar_107 : decode cX7_bar 107 = .ok (.getfield 25, 3) := by decide +kernel
theorem dX7_bar_110 : decode cX7_bar 110 = .ok (.bipush 10, 2) := by decide +kernel
theorem dX7_bar_112 : decode cX7_bar 112 = .ok (.iload_n 1, 1) := by decide +kernel
theorem dX7_bar_113 : decode cX7_bar 113 = .ok (.iadd, 1) := by decide +kernel
theorem dX7_bar_114 : decode cX7_bar 114 = .ok (.iaload, 1) := by decide +kernel
theorem dX7_bar_115 : decode cX7_bar 115 = .ok (.ifCond .le 7, 3) := by decide +kernel
theorem dX7_bar_118 : decode cX7_bar 118 = .ok (.iconst 1, 1) := by decide +kernel
theorem dX7_bar_119 : decode cX7_bar 119 = .ok (.goto 4, 3) := by decide +kernel
theorem dX7_bar_122 : decode cX7_bar 122 = .ok (.iconst 0, 1) := by decide +kernel
theorem dX7_bar_123 : decode cX7_bar 123 = .ok (.ireturn, 1) := by decide +kernel
theorem dX7_bar_124 : decode cX7_bar 124 = .ok (.aload_n 0, 1) := by decide +kernel
theorem dX7_bar_125 : decode cX7_bar 125 = .ok (.getfield 25, 3) := by decide +kernel
theorem dX7_bar_128 : decode cX7_bar 128 = .ok (.iload_n 1, 1) := by decide +kernel
theorem dX7_bar_129 : decode cX7_bar 129 = .ok (.invokestatic 112, 3) := by decide +kernel
theorem dX7_bar_132 : decode cX7_bar 132 = .ok (.ireturn, 1) := by decide +kernel
theorem dX7_bar_133 : decode cX7_bar 133 = .ok (.ldc 62, 2) := by decide +kernel
theorem dX7_bar_135 : decode cX7_bar 135 = .ok (.ireturn, 1) := by decide +kernel
theorem dX7_paper_0 : decode cX7_paper 0 = .ok (.iload_n 1, 1) := by decide +kernel
theorem dX7_paper_1 : decode cX7_paper 1 = .ok (.iconst 0, 1) := by decide +kernel
theorem dX7_paper_2 : decode cX7_paper 2 = .ok (.bipush 19, 2) := by decide +kernel
theorem dX7_paper_4 : decode cX7_paper 4 = .ok (.invokestatic 47, 3) := by decide +kernel
theorem dX7_paper_7 : decode cX7_paper 7 = .ok (.ifCond .ne 6, 3) := by decide +kernel
theorem dX7_paper_10 : decode cX7_paper 10 = .ok (.ldc 62, 2) := by decide +kernel
theorem dX7_paper_12 : decode cX7_paper 12 = .ok (.ireturn, 1) := by decide +kernel
theorem dX7_paper_13 : decode cX7_paper 13 = .ok (.aload_n 0, 1) := by decide +kernel
theorem dX7_paper_14 : decode cX7_paper 14 = .ok (.getfield 25, 3) := by decide +kernel
theorem dX7_paper_17 : decode cX7_paper 17 = .ok (.bipush 26, 2) := by decide +kernel
theorem dX7_paper_19 : decode cX7_paper 19 = .ok (.iload_n 1, 1) := by decide +kernel
theorem dX7_paper_20 : decode cX7_paper 20 = .ok (.iadd, 1) := by decide +kernel
theorem dX7_paper_21 : decode cX7_paper 21 = .ok (.iaload, 1) := by decide +kernel
theorem dX7_paper_22 : decode cX7_paper 22 = .ok (.ifCond .ne 8, 3) := by decide +kernel
theorem dX7_paper_25 : decode cX7_paper 25 = .ok (.ldc 166, 2) := by decide +kernel
theorem dX7_paper_27 : decode cX7_paper 27 = .ok (.goto 14, 3) := by decide +kernel
theorem dX7_paper_30 : decode cX7_paper 30 = .ok (.aload_n 0, 1) := by decide +kernel
theorem dX7_paper_31 : decode cX7_paper 31 = .ok (.getfield 25, 3) := by decide +kernel
theorem dX7_paper_34 : decode cX7_paper 34 = .ok (.bipush 26, 2) := by decide +kernel
theorem dX7_paper_36 : decode cX7_paper 36 = .ok (.iload_n 1, 1) := by decide +kernel
theorem dX7_paper_37 : decode cX7_paper 37 = .ok (.iadd, 1) := by decide +kernel
theorem dX7_paper_38 : decode cX7_paper 38 = .ok (.iaload, 1) := by decide +kernel
theorem dX7_paper_39 : decode cX7_paper 39 = .ok (.iconst 1, 1) := by decide +kernel
theorem dX7_paper_40 : decode cX7_paper 40 = .ok (.isub, 1) := by decide +kernel
theorem dX7_paper_41 : decode cX7_paper 41 = .ok (.ireturn, 1) := by decide +kernel
theorem dX7_copies_0 : decode cX7_copies 0 = .ok (.iconst 0, 1) := by decide +kernel
theorem dX7_copies_1 : decode cX7_copies 1 = .ok (.istore_n 2, 1) := by decide +kernel
theorem dX7_copies_2 : decode cX7_copies 2 = .ok (.iload_n 2, 1) := by decide +kernel
theorem dX7_copies_3 : decode cX7_copies 3 = .ok (.bipush 63, 2) := by decide +kernel
theorem dX7_copies_5 : decode cX7_copies 5 = .ok (.if_icmp .ge 15, 3) := by decide +kernel
theorem dX7_copies_8 : decode cX7_copies 8 = .ok (.aload_n 1, 1) := by decide +kernel
theorem dX7_copies_9 : decode cX7_copies 9 = .ok (.iload_n 2, 1) := by decide +kernel
theorem dX7_copies_10 : decode cX7_copies 10 = .ok (.aload_n 0, 1) := by decide +kernel
theorem dX7_copies_11 : decode cX7_copies 11 = .ok (.iload_n 2, 1) := by decide +kernel
theorem dX7_copies_12 : decode cX7_copies 12 = .ok (.iaload, 1) := by decide +kernel
theorem dX7_copies_13 : decode cX7_copies 13 = .ok (.iastore, 1) := by decide +kernel
theorem dX7_copies_14 : decode cX7_copies 14 = .ok (.iinc 2 1, 3) := by decide +kernel
theorem dX7_copies_17 : decode cX7_copies 17 = .ok (.goto (-15), 3) := by decide +kernel
theorem dX7_copies_20 : decode cX7_copies 20 = .ok (.return_, 1) := by decide +kernel
theorem dX7_goesOn_0 : decode cX7_goesOn 0 = .ok (.aload_n 0, 1) := by decide +kernel
theorem dX7_goesOn_1 : decode cX7_goesOn 1 = .ok (.getfield 25, 3) := by decide +kernel
theorem dX7_goesOn_4 : decode cX7_goesOn 4 = .ok (.aload_n 0, 1) := by decide +kernel
theorem dX7_goesOn_5 : decode cX7_goesOn 5 = .ok (.getfield 41, 3) := by decide +kernel
theorem dX7_goesOn_8 : decode cX7_goesOn 8 = .ok (.invokestatic 167, 3) := by decide +kernel
theorem dX7_goesOn_11 : decode cX7_goesOn 11 = .ok (.iconst 0, 1) := by decide +kernel
theorem dX7_goesOn_12 : decode cX7_goesOn 12 = .ok (.istore_n 2, 1) := by decide +kernel
theorem dX7_goesOn_13 : decode cX7_goesOn 13 = .ok (.iload_n 2, 1) := by decide +kernel
theorem dX7_goesOn_14 : decode cX7_goesOn 14 = .ok (.iload_n 1, 1) := by decide +kernel
theorem dX7_goesOn_15 : decode cX7_goesOn 15 = .ok (.if_icmp .ge 17, 3) := by decide +kernel
theorem dX7_goesOn_18 : decode cX7_goesOn 18 = .ok (.aload_n 0, 1) := by decide +kernel
theorem dX7_goesOn_19 : decode cX7_goesOn 19 = .ok (.getfield 41, 3) := by decide +kernel
theorem dX7_goesOn_22 : decode cX7_goesOn 22 = .ok (.invokestatic 138, 3) := by decide +kernel
theorem dX7_goesOn_25 : decode cX7_goesOn 25 = .ok (.pop, 1) := by decide +kernel
theorem dX7_goesOn_26 : decode cX7_goesOn 26 = .ok (.iinc 2 1, 3) := by decide +kernel
theorem dX7_goesOn_29 : decode cX7_goesOn 29 = .ok (.goto (-16), 3) := by decide +kernel
theorem dX7_goesOn_32 : decode cX7_goesOn 32 = .ok (.return_, 1) := by decide +kernel
theorem dX7_height_0 : decode cX7_height 0 = .ok (.aload_n 0, 1) := by decide +kernel
theorem dX7_height_1 : decode cX7_height 1 = .ok (.iload_n 1, 1) := by decide +kernel
theorem dX7_height_2 : decode cX7_height 2 = .ok (.invokevirtual 145, 3) := by decide +kernel
theorem dX7_height_5 : decode cX7_height 5 = .ok (.ifCond .eq 13, 3) := by decide +kernel
theorem dX7_height_8 : decode cX7_height 8 = .ok (.iload_n 2, 1) := by decide +kernel
theorem dX7_height_9 : decode cX7_height 9 = .ok (.iconst 0, 1) := by decide +kernel
theorem dX7_height_10 : decode cX7_height 10 = .ok (.bipush 60, 2) := by decide +kernel
theorem dX7_height_12 : decode cX7_height 12 = .ok (.invokestatic 47, 3) := by decide +kernel
theorem dX7_height_15 : decode cX7_height 15 = .ok (.ifCond .ne 6, 3) := by decide +kernel
theorem dX7_height_18 : decode cX7_height 18 = .ok (.ldc 62, 2) := by decide +kernel
theorem dX7_height_20 : decode cX7_height 20 = .ok (.ireturn, 1) := by decide +kernel
theorem dX7_height_21 : decode cX7_height 21 = .ok (.aload_n 0, 1) := by decide +kernel
theorem dX7_height_22 : decode cX7_height 22 = .ok (.iload_n 2, 1) := by decide +kernel
theorem dX7_height_23 : decode cX7_height 23 = .ok (.invokevirtual 171, 3) := by decide +kernel
theorem dX7_height_26 : decode cX7_height 26 = .ok (.aload_n 0, 1) := by decide +kernel
theorem dX7_height_27 : decode cX7_height 27 = .ok (.getfield 41, 3) := by decide +kernel
theorem dX7_height_30 : decode cX7_height 30 = .ok (.iload_n 1, 1) := by decide +kernel
theorem dX7_height_31 : decode cX7_height 31 = .ok (.invokestatic 116, 3) := by decide +kernel
theorem dX7_height_34 : decode cX7_height 34 = .ok (.ireturn, 1) := by decide +kernel
theorem dX7_later_0 : decode cX7_later 0 = .ok (.aload_n 0, 1) := by decide +kernel
theorem dX7_later_1 : decode cX7_later 1 = .ok (.invokevirtual 131, 3) := by decide +kernel
theorem dX7_later_4 : decode cX7_later 4 = .ok (.ifCond .ne 6, 3) := by decide +kernel
theorem dX7_later_7 : decode cX7_later 7 = .ok (.ldc 134, 2) := by decide +kernel
theorem dX7_later_9 : decode cX7_later 9 = .ok (.ireturn, 1) := by decide +kernel
theorem dX7_later_10 : decode cX7_later 10 = .ok (.iload_n 1, 1) := by decide +kernel
theorem dX7_later_11 : decode cX7_later 11 = .ok (.iconst 0, 1) := by decide +kernel
theorem dX7_later_12 : decode cX7_later 12 = .ok (.bipush 60, 2) := by decide +kernel
theorem dX7_later_14 : decode cX7_later 14 = .ok (.invokestatic 47, 3) := by decide +kernel
theorem dX7_later_17 : decode cX7_later 17 = .ok (.ifCond .eq 12, 3) := by decide +kernel
theorem dX7_later_20 : decode cX7_later 20 = .ok (.iload_n 2, 1) := by decide +kernel
theorem dX7_later_21 : decode cX7_later 21 = .ok (.iconst 0, 1) := by decide +kernel
theorem dX7_later_22 : decode cX7_later 22 = .ok (.iconst 2, 1) := by decide +kernel
theorem dX7_later_23 : decode cX7_later 23 = .ok (.invokestatic 47, 3) := by decide +kernel
theorem dX7_later_26 : decode cX7_later 26 = .ok (.ifCond .ne 6, 3) := by decide +kernel
theorem dX7_later_29 : decode cX7_later 29 = .ok (.ldc 62, 2) := by decide +kernel
theorem dX7_later_31 : decode cX7_later 31 = .ok (.ireturn, 1) := by decide +kernel
theorem dX7_later_32 : decode cX7_later 32 = .ok (.aload_n 0, 1) := by decide +kernel
theorem dX7_later_33 : decode cX7_later 33 = .ok (.iload_n 1, 1) := by decide +kernel
theorem dX7_later_34 : decode cX7_later 34 = .ok (.invokevirtual 171, 3) := by decide +kernel
theorem dX7_later_37 : decode cX7_later 37 = .ok (.iload_n 2, 1) := by decide +kernel
theorem dX7_later_38 : decode cX7_later 38 = .ok (.ifCond .ne 13, 3) := by decide +kernel
theorem dX7_later_41 : decode cX7_later 41 = .ok (.aload_n 0, 1) := by decide +kernel
theorem dX7_later_42 : decode cX7_later 42 = .ok (.getfield 41, 3) := by decide +kernel
theorem dX7_later_45 : decode cX7_later 45 = .ok (.invokestatic 142, 3) := by decide +kernel
theorem dX7_later_48 : decode cX7_later 48 = .ok (.goto 24, 3) := by decide +kernel
theorem dX7_later_51 : decode cX7_later 51 = .ok (.iload_n 2, 1) := by decide +kernel
theorem dX7_later_52 : decode cX7_later 52 = .ok (.iconst 1, 1) := by decide +kernel
theorem dX7_later_53 : decode cX7_later 53 = .ok (.if_icmp .ne 13, 3) := by decide +kernel
theorem dX7_later_56 : decode cX7_later 56 = .ok (.aload_n 0, 1) := by decide +kernel
theorem dX7_later_57 : decode cX7_later 57 = .ok (.getfield 41, 3) := by decide +kernel
theorem dX7_later_60 : decode cX7_later 60 = .ok (.invokestatic 152, 3) := by decide +kernel
theorem dX7_later_63 : decode cX7_later 63 = .ok (.goto 9, 3) := by decide +kernel
theorem dX7_later_66 : decode cX7_later 66 = .ok (.aload_n 0, 1) := by decide +kernel
theorem dX7_later_67 : decode cX7_later 67 = .ok (.getfield 41, 3) := by decide +kernel
theorem dX7_later_70 : decode cX7_later 70 = .ok (.iconst 1, 1) := by decide +kernel
theorem dX7_later_71 : decode cX7_later 71 = .ok (.iaload, 1) := by decide +kernel
theorem dX7_later_72 : decode cX7_later 72 = .ok (.ireturn, 1) := by decide +kernel
theorem dX7_jam_0 : decode cX7_jam 0 = .ok (.aload_n 0, 1) := by decide +kernel
theorem dX7_jam_1 : decode cX7_jam 1 = .ok (.invokevirtual 131, 3) := by decide +kernel
theorem dX7_jam_4 : decode cX7_jam 4 = .ok (.ifCond .ne 6, 3) := by decide +kernel
theorem dX7_jam_7 : decode cX7_jam 7 = .ok (.ldc 134, 2) := by decide +kernel
theorem dX7_jam_9 : decode cX7_jam 9 = .ok (.ireturn, 1) := by decide +kernel
theorem dX7_jam_10 : decode cX7_jam 10 = .ok (.iload_n 1, 1) := by decide +kernel
theorem dX7_jam_11 : decode cX7_jam 11 = .ok (.iconst 0, 1) := by decide +kernel
theorem dX7_jam_12 : decode cX7_jam 12 = .ok (.iconst 1, 1) := by decide +kernel
theorem dX7_jam_13 : decode cX7_jam 13 = .ok (.invokestatic 47, 3) := by decide +kernel
theorem dX7_jam_16 : decode cX7_jam 16 = .ok (.ifCond .ne 6, 3) := by decide +kernel
theorem dX7_jam_19 : decode cX7_jam 19 = .ok (.ldc 62, 2) := by decide +kernel
theorem dX7_jam_21 : decode cX7_jam 21 = .ok (.ireturn, 1) := by decide +kernel
theorem dX7_jam_22 : decode cX7_jam 22 = .ok (.aload_n 0, 1) := by decide +kernel
theorem dX7_jam_23 : decode cX7_jam 23 = .ok (.getfield 25, 3) := by decide +kernel
theorem dX7_jam_26 : decode cX7_jam 26 = .ok (.aload_n 0, 1) := by decide +kernel
theorem dX7_jam_27 : decode cX7_jam 27 = .ok (.getfield 41, 3) := by decide +kernel
theorem dX7_jam_30 : decode cX7_jam 30 = .ok (.invokestatic 167, 3) := by decide +kernel
theorem dX7_jam_33 : decode cX7_jam 33 = .ok (.iconst 0, 1) := by decide +kernel
theorem dX7_jam_34 : decode cX7_jam 34 = .ok (.istore_n 2, 1) := by decide +kernel
theorem dX7_jam_35 : decode cX7_jam 35 = .ok (.iload_n 2, 1) := by decide +kernel
theorem dX7_jam_36 : decode cX7_jam 36 = .ok (.bipush 60, 2) := by decide +kernel
theorem dX7_jam_38 : decode cX7_jam 38 = .ok (.if_icmp .gt 43, 3) := by decide +kernel
theorem dX7_jam_41 : decode cX7_jam 41 = .ok (.aload_n 0, 1) := by decide +kernel
theorem dX7_jam_42 : decode cX7_jam 42 = .ok (.getfield 41, 3) := by decide +kernel
theorem dX7_jam_45 : decode cX7_jam 45 = .ok (.invokestatic 142, 3) := by decide +kernel
theorem dX7_jam_48 : decode cX7_jam 48 = .ok (.ifCond .eq 19, 3) := by decide +kernel
theorem dX7_jam_51 : decode cX7_jam 51 = .ok (.iload_n 1, 1) := by decide +kernel
theorem dX7_jam_52 : decode cX7_jam 52 = .ok (.ifCond .ne 7, 3) := by decide +kernel
theorem dX7_jam_55 : decode cX7_jam 55 = .ok (.iload_n 2, 1) := by decide +kernel
theorem dX7_jam_56 : decode cX7_jam 56 = .ok (.goto 10, 3) := by decide +kernel
theorem dX7_jam_59 : decode cX7_jam 59 = .ok (.aload_n 0, 1) := by decide +kernel
theorem dX7_jam_60 : decode cX7_jam 60 = .ok (.getfield 41, 3) := by decide +kernel
theorem dX7_jam_63 : decode cX7_jam 63 = .ok (.invokestatic 142, 3) := by decide +kernel
theorem dX7_jam_66 : decode cX7_jam 66 = .ok (.ireturn, 1) := by decide +kernel
theorem dX7_jam_67 : decode cX7_jam 67 = .ok (.aload_n 0, 1) := by decide +kernel
theorem dX7_jam_68 : decode cX7_jam 68 = .ok (.getfield 41, 3) := by decide +kernel
theorem dX7_jam_71 : decode cX7_jam 71 = .ok (.invokestatic 138, 3) := by decide +kernel
theorem dX7_jam_74 : decode cX7_jam 74 = .ok (.pop, 1) := by decide +kernel
theorem dX7_jam_75 : decode cX7_jam 75 = .ok (.iinc 2 1, 3) := by decide +kernel
theorem dX7_jam_78 : decode cX7_jam 78 = .ok (.goto (-43), 3) := by decide +kernel
theorem dX7_jam_81 : decode cX7_jam 81 = .ok (.ldc 166, 2) := by decide +kernel
theorem dX7_jam_83 : decode cX7_jam 83 = .ok (.ireturn, 1) := by decide +kernel
theorem dX7_clear_0 : decode cX7_clear 0 = .ok (.iconst 1, 1) := by decide +kernel
theorem dX7_clear_1 : decode cX7_clear 1 = .ok (.istore_n 3, 1) := by decide +kernel
theorem dX7_clear_2 : decode cX7_clear 2 = .ok (.iconst 0, 1) := by decide +kernel
theorem dX7_clear_3 : decode cX7_clear 3 = .ok (.istore 4, 2) := by decide +kernel
theorem dX7_clear_5 : decode cX7_clear 5 = .ok (.iload 4, 2) := by decide +kernel
theorem dX7_clear_7 : decode cX7_clear 7 = .ok (.iload_n 1, 1) := by decide +kernel
theorem dX7_clear_8 : decode cX7_clear 8 = .ok (.if_icmp .ge 41, 3) := by decide +kernel
theorem dX7_clear_11 : decode cX7_clear 11 = .ok (.aload_n 0, 1) := by decide +kernel
theorem dX7_clear_12 : decode cX7_clear 12 = .ok (.getfield 41, 3) := by decide +kernel
theorem dX7_clear_15 : decode cX7_clear 15 = .ok (.invokestatic 138, 3) := by decide +kernel
theorem dX7_clear_18 : decode cX7_clear 18 = .ok (.pop, 1) := by decide +kernel
theorem dX7_clear_19 : decode cX7_clear 19 = .ok (.iload_n 3, 1) := by decide +kernel
theorem dX7_clear_20 : decode cX7_clear 20 = .ok (.ifCond .eq 21, 3) := by decide +kernel
theorem dX7_clear_23 : decode cX7_clear 23 = .ok (.aload_n 0, 1) := by decide +kernel
theorem dX7_clear_24 : decode cX7_clear 24 = .ok (.getfield 41, 3) := by decide +kernel
theorem dX7_clear_27 : decode cX7_clear 27 = .ok (.invokestatic 142, 3) := by decide +kernel
theorem dX7_clear_30 : decode cX7_clear 30 = .ok (.iload_n 2, 1) := by decide +kernel
theorem dX7_clear_31 : decode cX7_clear 31 = .ok (.iconst (-1), 1) := by decide +kernel
theorem dX7_clear_32 : decode cX7_clear 32 = .ok (.ixor, 1) := by decide +kernel
theorem dX7_clear_33 : decode cX7_clear 33 = .ok (.iand, 1) := by decide +kernel
theorem dX7_clear_34 : decode cX7_clear 34 = .ok (.ifCond .ne 7, 3) := by decide +kernel
theorem dX7_clear_37 : decode cX7_clear 37 = .ok (.iconst 1, 1) := by decide +kernel
theorem dX7_clear_38 : decode cX7_clear 38 = .ok (.goto 4, 3) := by decide +kernel
theorem dX7_clear_41 : decode cX7_clear 41 = .ok (.iconst 0, 1) := by decide +kernel
theorem dX7_clear_42 : decode cX7_clear 42 = .ok (.istore_n 3, 1) := by decide +kernel
theorem dX7_clear_43 : decode cX7_clear 43 = .ok (.iinc 4 1, 3) := by decide +kernel
theorem dX7_clear_46 : decode cX7_clear 46 = .ok (.goto (-41), 3) := by decide +kernel
theorem dX7_clear_49 : decode cX7_clear 49 = .ok (.iload_n 3, 1) := by decide +kernel
theorem dX7_clear_50 : decode cX7_clear 50 = .ok (.ireturn, 1) := by decide +kernel
theorem dX7_waits_0 : decode cX7_waits 0 = .ok (.aload_n 0, 1) := by decide +kernel
theorem dX7_waits_1 : decode cX7_waits 1 = .ok (.iload_n 1, 1) := by decide +kernel
theorem dX7_waits_2 : decode cX7_waits 2 = .ok (.invokevirtual 145, 3) := by decide +kernel
theorem dX7_waits_5 : decode cX7_waits 5 = .ok (.ifCond .ne 6, 3) := by decide +kernel
theorem dX7_waits_8 : decode cX7_waits 8 = .ok (.ldc 62, 2) := by decide +kernel
theorem dX7_waits_10 : decode cX7_waits 10 = .ok (.ireturn, 1) := by decide +kernel
theorem dX7_waits_11 : decode cX7_waits 11 = .ok (.iconst 0, 1) := by decide +kernel
theorem dX7_waits_12 : decode cX7_waits 12 = .ok (.istore_n 2, 1) := by decide +kernel
theorem dX7_waits_13 : decode cX7_waits 13 = .ok (.iload_n 2, 1) := by decide +kernel
theorem dX7_waits_14 : decode cX7_waits 14 = .ok (.bipush 21, 2) := by decide +kernel
theorem dX7_waits_16 : decode cX7_waits 16 = .ok (.if_icmp .ge 54, 3) := by decide +kernel
theorem dX7_waits_19 : decode cX7_waits 19 = .ok (.aload_n 0, 1) := by decide +kernel
theorem dX7_waits_20 : decode cX7_waits 20 = .ok (.iload_n 2, 1) := by decide +kernel
theorem dX7_waits_21 : decode cX7_waits 21 = .ok (.invokevirtual 171, 3) := by decide +kernel
theorem dX7_waits_24 : decode cX7_waits 24 = .ok (.aload_n 0, 1) := by decide +kernel
theorem dX7_waits_25 : decode cX7_waits 25 = .ok (.getfield 41, 3) := by decide +kernel
theorem dX7_waits_28 : decode cX7_waits 28 = .ok (.iload_n 1, 1) := by decide +kernel
theorem dX7_waits_29 : decode cX7_waits 29 = .ok (.invokestatic 148, 3) := by decide +kernel
theorem dX7_waits_32 : decode cX7_waits 32 = .ok (.istore_n 3, 1) := by decide +kernel
theorem dX7_waits_33 : decode cX7_waits 33 = .ok (.iload_n 3, 1) := by decide +kernel
theorem dX7_waits_34 : decode cX7_waits 34 = .ok (.ifCond .eq 30, 3) := by decide +kernel
theorem dX7_waits_37 : decode cX7_waits 37 = .ok (.aload_n 0, 1) := by decide +kernel
theorem dX7_waits_38 : decode cX7_waits 38 = .ok (.getfield 41, 3) := by decide +kernel
theorem dX7_waits_41 : decode cX7_waits 41 = .ok (.iconst 2, 1) := by decide +kernel
theorem dX7_waits_42 : decode cX7_waits 42 = .ok (.iload_n 1, 1) := by decide +kernel
theorem dX7_waits_43 : decode cX7_waits 43 = .ok (.iadd, 1) := by decide +kernel
theorem dX7_waits_44 : decode cX7_waits 44 = .ok (.iconst 0, 1) := by decide +kernel
theorem dX7_waits_45 : decode cX7_waits 45 = .ok (.iastore, 1) := by decide +kernel
theorem dX7_waits_46 : decode cX7_waits 46 = .ok (.aload_n 0, 1) := by decide +kernel
theorem dX7_waits_47 : decode cX7_waits 47 = .ok (.bipush 12, 2) := by decide +kernel
theorem dX7_waits_49 : decode cX7_waits 49 = .ok (.aload_n 0, 1) := by decide +kernel
theorem dX7_waits_50 : decode cX7_waits 50 = .ok (.getfield 41, 3) := by decide +kernel
theorem dX7_waits_53 : decode cX7_waits 53 = .ok (.invokestatic 142, 3) := by decide +kernel
theorem dX7_waits_56 : decode cX7_waits 56 = .ok (.invokevirtual 175, 3) := by decide +kernel
theorem dX7_waits_59 : decode cX7_waits 59 = .ok (.ifCond .eq 5, 3) := by decide +kernel
theorem dX7_waits_62 : decode cX7_waits 62 = .ok (.iload_n 2, 1) := by decide +kernel
theorem dX7_waits_63 : decode cX7_waits 63 = .ok (.ireturn, 1) := by decide +kernel
theorem dX7_waits_64 : decode cX7_waits 64 = .ok (.iinc 2 1, 3) := by decide +kernel
theorem dX7_waits_67 : decode cX7_waits 67 = .ok (.goto (-54), 3) := by decide +kernel
theorem dX7_waits_70 : decode cX7_waits 70 = .ok (.ldc 166, 2) := by decide +kernel
theorem dX7_waits_72 : decode cX7_waits 72 = .ok (.ireturn, 1) := by decide +kernel
theorem dX7_paceBy_0 : decode cX7_paceBy 0 = .ok (.iconst 1, 1) := by decide +kernel
theorem dX7_paceBy_1 : decode cX7_paceBy 1 = .ok (.istore 5, 2) := by decide +kernel
theorem dX7_paceBy_3 : decode cX7_paceBy 3 = .ok (.iload 5, 2) := by decide +kernel
theorem dX7_paceBy_5 : decode cX7_paceBy 5 = .ok (.bipush 13, 2) := by decide +kernel
theorem dX7_paceBy_7 : decode cX7_paceBy 7 = .ok (.if_icmp .ge 151, 3) := by decide +kernel
theorem dX7_paceBy_10 : decode cX7_paceBy 10 = .ok (.aload_n 0, 1) := by decide +kernel
theorem dX7_paceBy_11 : decode cX7_paceBy 11 = .ok (.getfield 25, 3) := by decide +kernel
theorem dX7_paceBy_14 : decode cX7_paceBy 14 = .ok (.aload_n 0, 1) := by decide +kernel
theorem dX7_paceBy_15 : decode cX7_paceBy 15 = .ok (.getfield 41, 3) := by decide +kernel
theorem dX7_paceBy_18 : decode cX7_paceBy 18 = .ok (.invokestatic 167, 3) := by decide +kernel
theorem dX7_paceBy_21 : decode cX7_paceBy 21 = .ok (.iload_n 3, 1) := by decide +kernel
theorem dX7_paceBy_22 : decode cX7_paceBy 22 = .ok (.ifCond .lt 13, 3) := by decide +kernel
theorem dX7_paceBy_25 : decode cX7_paceBy 25 = .ok (.aload_n 0, 1) := by decide +kernel
theorem dX7_paceBy_26 : decode cX7_paceBy 26 = .ok (.getfield 41, 3) := by decide +kernel
theorem dX7_paceBy_29 : decode cX7_paceBy 29 = .ok (.iload_n 3, 1) := by decide +kernel
theorem dX7_paceBy_30 : decode cX7_paceBy 30 = .ok (.iload 4, 2) := by decide +kernel
theorem dX7_paceBy_32 : decode cX7_paceBy 32 = .ok (.invokestatic 162, 3) := by decide +kernel
theorem dX7_paceBy_35 : decode cX7_paceBy 35 = .ok (.aload_n 0, 1) := by decide +kernel
theorem dX7_paceBy_36 : decode cX7_paceBy 36 = .ok (.getfield 41, 3) := by decide +kernel
theorem dX7_paceBy_39 : decode cX7_paceBy 39 = .ok (.invokestatic 142, 3) := by decide +kernel
theorem dX7_paceBy_42 : decode cX7_paceBy 42 = .ok (.istore 6, 2) := by decide +kernel
theorem dX7_paceBy_44 : decode cX7_paceBy 44 = .ok (.iconst 1, 1) := by decide +kernel
theorem dX7_paceBy_45 : decode cX7_paceBy 45 = .ok (.istore 7, 2) := by decide +kernel
theorem dX7_paceBy_47 : decode cX7_paceBy 47 = .ok (.iconst 0, 1) := by decide +kernel
theorem dX7_paceBy_48 : decode cX7_paceBy 48 = .ok (.istore 8, 2) := by decide +kernel
theorem dX7_paceBy_50 : decode cX7_paceBy 50 = .ok (.iload 8, 2) := by decide +kernel
theorem dX7_paceBy_52 : decode cX7_paceBy 52 = .ok (.iload_n 2, 1) := by decide +kernel
theorem dX7_paceBy_53 : decode cX7_paceBy 53 = .ok (.if_icmp .ge 91, 3) := by decide +kernel
theorem dX7_paceBy_56 : decode cX7_paceBy 56 = .ok (.iload 7, 2) := by decide +kernel
theorem dX7_paceBy_58 : decode cX7_paceBy 58 = .ok (.ifCond .eq 86, 3) := by decide +kernel
theorem dX7_paceBy_61 : decode cX7_paceBy 61 = .ok (.aload_n 0, 1) := by decide +kernel
theorem dX7_paceBy_62 : decode cX7_paceBy 62 = .ok (.getfield 16, 3) := by decide +kernel
theorem dX7_paceBy_65 : decode cX7_paceBy 65 = .ok (.iload_n 1, 1) := by decide +kernel
theorem dX7_paceBy_66 : decode cX7_paceBy 66 = .ok (.iload 8, 2) := by decide +kernel
theorem dX7_paceBy_68 : decode cX7_paceBy 68 = .ok (.iadd, 1) := by decide +kernel
theorem dX7_paceBy_69 : decode cX7_paceBy 69 = .ok (.iaload, 1) := by decide +kernel
theorem dX7_paceBy_70 : decode cX7_paceBy 70 = .ok (.istore 9, 2) := by decide +kernel
theorem dX7_paceBy_72 : decode cX7_paceBy 72 = .ok (.aload_n 0, 1) := by decide +kernel
theorem dX7_paceBy_73 : decode cX7_paceBy 73 = .ok (.iload 9, 2) := by decide +kernel
theorem dX7_paceBy_75 : decode cX7_paceBy 75 = .ok (.invokevirtual 145, 3) := by decide +kernel
theorem dX7_paceBy_78 : decode cX7_paceBy 78 = .ok (.ifCond .eq 19, 3) := by decide +kernel
theorem dX7_paceBy_81 : decode cX7_paceBy 81 = .ok (.aload_n 0, 1) := by decide +kernel
theorem dX7_paceBy_82 : decode cX7_paceBy 82 = .ok (.getfield 41, 3) := by decide +kernel
theorem dX7_paceBy_85 : decode cX7_paceBy 85 = .ok (.iload 9, 2) := by decide +kernel
theorem dX7_paceBy_87 : decode cX7_paceBy 87 = .ok (.invokestatic 148, 3) := by decide +kernel
theorem dX7_paceBy_90 : decode cX7_paceBy 90 = .ok (.ifCond .eq 7, 3) := by decide +kernel
theorem dX7_paceBy_93 : decode cX7_paceBy 93 = .ok (.iconst 1, 1) := by decide +kernel
theorem dX7_paceBy_94 : decode cX7_paceBy 94 = .ok (.goto 4, 3) := by decide +kernel
theorem dX7_paceBy_97 : decode cX7_paceBy 97 = .ok (.iconst 0, 1) := by decide +kernel
theorem dX7_paceBy_98 : decode cX7_paceBy 98 = .ok (.istore 7, 2) := by decide +kernel
theorem dX7_paceBy_100 : decode cX7_paceBy 100 = .ok (.iload 7, 2) := by decide +kernel
theorem dX7_paceBy_102 : decode cX7_paceBy 102 = .ok (.ifCond .eq 36, 3) := by decide +kernel
theorem dX7_paceBy_105 : decode cX7_paceBy 105 = .ok (.aload_n 0, 1) := by decide +kernel
theorem dX7_paceBy_106 : decode cX7_paceBy 106 = .ok (.getfield 41, 3) := by decide +kernel
theorem dX7_paceBy_109 : decode cX7_paceBy 109 = .ok (.iconst 2, 1) := by decide +kernel
theorem dX7_paceBy_110 : decode cX7_paceBy 110 = .ok (.iload 9, 2) := by decide +kernel
theorem dX7_paceBy_112 : decode cX7_paceBy 112 = .ok (.iadd, 1) := by decide +kernel
theorem dX7_paceBy_113 : decode cX7_paceBy 113 = .ok (.iconst 0, 1) := by decide +kernel
theorem dX7_paceBy_114 : decode cX7_paceBy 114 = .ok (.iastore, 1) := by decide +kernel
theorem dX7_paceBy_115 : decode cX7_paceBy 115 = .ok (.aload_n 0, 1) := by decide +kernel
theorem dX7_paceBy_116 : decode cX7_paceBy 116 = .ok (.iload 8, 2) := by decide +kernel
theorem dX7_paceBy_118 : decode cX7_paceBy 118 = .ok (.iconst 1, 1) := by decide +kernel
theorem dX7_paceBy_119 : decode cX7_paceBy 119 = .ok (.iadd, 1) := by decide +kernel
theorem dX7_paceBy_120 : decode cX7_paceBy 120 = .ok (.iload_n 2, 1) := by decide +kernel
theorem dX7_paceBy_121 : decode cX7_paceBy 121 = .ok (.if_icmp .ge 8, 3) := by decide +kernel
theorem dX7_paceBy_124 : decode cX7_paceBy 124 = .ok (.iload 5, 2) := by decide +kernel
theorem dX7_paceBy_126 : decode cX7_paceBy 126 = .ok (.goto 5, 3) := by decide +kernel
theorem dX7_paceBy_129 : decode cX7_paceBy 129 = .ok (.bipush 12, 2) := by decide +kernel
theorem dX7_paceBy_131 : decode cX7_paceBy 131 = .ok (.iload 6, 2) := by decide +kernel
theorem dX7_paceBy_133 : decode cX7_paceBy 133 = .ok (.invokevirtual 175, 3) := by decide +kernel
theorem dX7_paceBy_136 : decode cX7_paceBy 136 = .ok (.istore 7, 2) := by decide +kernel
theorem dX7_paceBy_138 : decode cX7_paceBy 138 = .ok (.iinc 8 1, 3) := by decide +kernel
theorem dX7_paceBy_141 : decode cX7_paceBy 141 = .ok (.goto (-91), 3) := by decide +kernel
theorem dX7_paceBy_144 : decode cX7_paceBy 144 = .ok (.iload 7, 2) := by decide +kernel
theorem dX7_paceBy_146 : decode cX7_paceBy 146 = .ok (.ifCond .eq 6, 3) := by decide +kernel
theorem dX7_paceBy_149 : decode cX7_paceBy 149 = .ok (.iload 5, 2) := by decide +kernel
theorem dX7_paceBy_151 : decode cX7_paceBy 151 = .ok (.ireturn, 1) := by decide +kernel
theorem dX7_paceBy_152 : decode cX7_paceBy 152 = .ok (.iinc 5 1, 3) := by decide +kernel
theorem dX7_paceBy_155 : decode cX7_paceBy 155 = .ok (.goto (-152), 3) := by decide +kernel
theorem dX7_paceBy_158 : decode cX7_paceBy 158 = .ok (.ldc 166, 2) := by decide +kernel
theorem dX7_paceBy_160 : decode cX7_paceBy 160 = .ok (.ireturn, 1) := by decide +kernel
theorem dX7_pace_0 : decode cX7_pace 0 = .ok (.iload_n 1, 1) := by decide +kernel
theorem dX7_pace_1 : decode cX7_pace 1 = .ok (.invokestatic 58, 3) := by decide +kernel
theorem dX7_pace_4 : decode cX7_pace 4 = .ok (.ifCond .eq 13, 3) := by decide +kernel
theorem dX7_pace_7 : decode cX7_pace 7 = .ok (.iload_n 3, 1) := by decide +kernel
theorem dX7_pace_8 : decode cX7_pace 8 = .ok (.iconst 1, 1) := by decide +kernel
theorem dX7_pace_9 : decode cX7_pace 9 = .ok (.bipush 12, 2) := by decide +kernel
theorem dX7_pace_11 : decode cX7_pace 11 = .ok (.invokestatic 47, 3) := by decide +kernel
theorem dX7_pace_14 : decode cX7_pace 14 = .ok (.ifCond .ne 6, 3) := by decide +kernel
theorem dX7_pace_17 : decode cX7_pace 17 = .ok (.ldc 62, 2) := by decide +kernel
theorem dX7_pace_19 : decode cX7_pace 19 = .ok (.ireturn, 1) := by decide +kernel
theorem dX7_pace_20 : decode cX7_pace 20 = .ok (.aload_n 0, 1) := by decide +kernel
theorem dX7_pace_21 : decode cX7_pace 21 = .ok (.invokevirtual 131, 3) := by decide +kernel
theorem dX7_pace_24 : decode cX7_pace 24 = .ok (.ifCond .ne 6, 3) := by decide +kernel
theorem dX7_pace_27 : decode cX7_pace 27 = .ok (.ldc 134, 2) := by decide +kernel
theorem dX7_pace_29 : decode cX7_pace 29 = .ok (.ireturn, 1) := by decide +kernel
theorem dX7_pace_30 : decode cX7_pace 30 = .ok (.aload_n 0, 1) := by decide +kernel
theorem dX7_pace_31 : decode cX7_pace 31 = .ok (.getfield 7, 3) := by decide +kernel
theorem dX7_pace_34 : decode cX7_pace 34 = .ok (.iload_n 1, 1) := by decide +kernel
theorem dX7_pace_35 : decode cX7_pace 35 = .ok (.iaload, 1) := by decide +kernel
theorem dX7_pace_36 : decode cX7_pace 36 = .ok (.ifCond .ge 10, 3) := by decide +kernel
theorem dX7_pace_39 : decode cX7_pace 39 = .ok (.aload_n 0, 1) := by decide +kernel
theorem dX7_pace_40 : decode cX7_pace 40 = .ok (.ldc 52, 2) := by decide +kernel
theorem dX7_pace_42 : decode cX7_pace 42 = .ok (.invokevirtual 64, 3) := by decide +kernel
theorem dX7_pace_45 : decode cX7_pace 45 = .ok (.ireturn, 1) := by decide +kernel
theorem dX7_pace_46 : decode cX7_pace 46 = .ok (.aload_n 0, 1) := by decide +kernel
theorem dX7_pace_47 : decode cX7_pace 47 = .ok (.aload_n 0, 1) := by decide +kernel
theorem dX7_pace_48 : decode cX7_pace 48 = .ok (.iload_n 1, 1) := by decide +kernel
theorem dX7_pace_49 : decode cX7_pace 49 = .ok (.iload_n 2, 1) := by decide +kernel
theorem dX7_pace_50 : decode cX7_pace 50 = .ok (.iload_n 3, 1) := by decide +kernel
theorem dX7_pace_51 : decode cX7_pace 51 = .ok (.invokevirtual 68, 3) := by decide +kernel
theorem dX7_pace_54 : decode cX7_pace 54 = .ok (.ifCond .eq 19, 3) := by decide +kernel
theorem dX7_pace_57 : decode cX7_pace 57 = .ok (.aload_n 0, 1) := by decide +kernel
theorem dX7_pace_58 : decode cX7_pace 58 = .ok (.bipush 40, 2) := by decide +kernel
theorem dX7_pace_60 : decode cX7_pace 60 = .ok (.iload_n 1, 1) := by decide +kernel
theorem dX7_pace_61 : decode cX7_pace 61 = .ok (.imul, 1) := by decide +kernel
theorem dX7_pace_62 : decode cX7_pace 62 = .ok (.iload_n 2, 1) := by decide +kernel
theorem dX7_pace_63 : decode cX7_pace 63 = .ok (.iadd, 1) := by decide +kernel
theorem dX7_pace_64 : decode cX7_pace 64 = .ok (.iload_n 3, 1) := by decide +kernel
theorem dX7_pace_65 : decode cX7_pace 65 = .ok (.iconst (-1), 1) := by decide +kernel
theorem dX7_pace_66 : decode cX7_pace 66 = .ok (.iconst (-1), 1) := by decide +kernel
theorem dX7_pace_67 : decode cX7_pace 67 = .ok (.invokevirtual 178, 3) := by decide +kernel
theorem dX7_pace_70 : decode cX7_pace 70 = .ok (.goto 5, 3) := by decide +kernel
theorem dX7_pace_73 : decode cX7_pace 73 = .ok (.ldc 71, 2) := by decide +kernel
theorem dX7_pace_75 : decode cX7_pace 75 = .ok (.invokevirtual 64, 3) := by decide +kernel
theorem dX7_pace_78 : decode cX7_pace 78 = .ok (.ireturn, 1) := by decide +kernel
theorem dX7_better_0 : decode cX7_better 0 = .ok (.iload_n 1, 1) := by decide +kernel
theorem dX7_better_1 : decode cX7_better 1 = .ok (.invokestatic 58, 3) := by decide +kernel
theorem dX7_better_4 : decode cX7_better 4 = .ok (.ifCond .eq 23, 3) := by decide +kernel
theorem dX7_better_7 : decode cX7_better 7 = .ok (.iload_n 3, 1) := by decide +kernel
theorem dX7_better_8 : decode cX7_better 8 = .ok (.iconst 1, 1) := by decide +kernel
theorem dX7_better_9 : decode cX7_better 9 = .ok (.bipush 12, 2) := by decide +kernel
theorem dX7_better_11 : decode cX7_better 11 = .ok (.invokestatic 47, 3) := by decide +kernel
theorem dX7_better_14 : decode cX7_better 14 = .ok (.ifCond .eq 13, 3) := by decide +kernel
theorem dX7_better_17 : decode cX7_better 17 = .ok (.iload 4, 2) := by decide +kernel
theorem dX7_better_19 : decode cX7_better 19 = .ok (.iconst 0, 1) := by decide +kernel
theorem dX7_better_20 : decode cX7_better 20 = .ok (.iconst 1, 1) := by decide +kernel
theorem dX7_better_21 : decode cX7_better 21 = .ok (.invokestatic 47, 3) := by decide +kernel
theorem dX7_better_24 : decode cX7_better 24 = .ok (.ifCond .ne 6, 3) := by decide +kernel
theorem dX7_better_27 : decode cX7_better 27 = .ok (.ldc 62, 2) := by decide +kernel
theorem dX7_better_29 : decode cX7_better 29 = .ok (.ireturn, 1) := by decide +kernel
theorem dX7_better_30 : decode cX7_better 30 = .ok (.aload_n 0, 1) := by decide +kernel
theorem dX7_better_31 : decode cX7_better 31 = .ok (.invokevirtual 131, 3) := by decide +kernel
theorem dX7_better_34 : decode cX7_better 34 = .ok (.ifCond .ne 6, 3) := by decide +kernel
theorem dX7_better_37 : decode cX7_better 37 = .ok (.ldc 134, 2) := by decide +kernel
theorem dX7_better_39 : decode cX7_better 39 = .ok (.ireturn, 1) := by decide +kernel
theorem dX7_better_40 : decode cX7_better 40 = .ok (.aload_n 0, 1) := by decide +kernel
theorem dX7_better_41 : decode cX7_better 41 = .ok (.getfield 7, 3) := by decide +kernel
theorem dX7_better_44 : decode cX7_better 44 = .ok (.iload_n 1, 1) := by decide +kernel
theorem dX7_better_45 : decode cX7_better 45 = .ok (.iaload, 1) := by decide +kernel
theorem dX7_better_46 : decode cX7_better 46 = .ok (.ifCond .ge 10, 3) := by decide +kernel
theorem dX7_better_49 : decode cX7_better 49 = .ok (.aload_n 0, 1) := by decide +kernel
theorem dX7_better_50 : decode cX7_better 50 = .ok (.ldc 52, 2) := by decide +kernel
theorem dX7_better_52 : decode cX7_better 52 = .ok (.invokevirtual 64, 3) := by decide +kernel
theorem dX7_better_55 : decode cX7_better 55 = .ok (.ireturn, 1) := by decide +kernel
theorem dX7_better_56 : decode cX7_better 56 = .ok (.aload_n 0, 1) := by decide +kernel
theorem dX7_better_57 : decode cX7_better 57 = .ok (.iload_n 1, 1) := by decide +kernel
theorem dX7_better_58 : decode cX7_better 58 = .ok (.iload_n 2, 1) := by decide +kernel
theorem dX7_better_59 : decode cX7_better 59 = .ok (.iload_n 3, 1) := by decide +kernel
theorem dX7_better_60 : decode cX7_better 60 = .ok (.invokevirtual 68, 3) := by decide +kernel
theorem dX7_better_63 : decode cX7_better 63 = .ok (.ifCond .ne 10, 3) := by decide +kernel
theorem dX7_better_66 : decode cX7_better 66 = .ok (.aload_n 0, 1) := by decide +kernel
theorem dX7_better_67 : decode cX7_better 67 = .ok (.ldc 71, 2) := by decide +kernel
theorem dX7_better_69 : decode cX7_better 69 = .ok (.invokevirtual 64, 3) := by decide +kernel
theorem dX7_better_72 : decode cX7_better 72 = .ok (.ireturn, 1) := by decide +kernel
theorem dX7_better_73 : decode cX7_better 73 = .ok (.aload_n 0, 1) := by decide +kernel
theorem dX7_better_74 : decode cX7_better 74 = .ok (.bipush 40, 2) := by decide +kernel
theorem dX7_better_76 : decode cX7_better 76 = .ok (.iload_n 1, 1) := by decide +kernel
theorem dX7_better_77 : decode cX7_better 77 = .ok (.imul, 1) := by decide +kernel
theorem dX7_better_78 : decode cX7_better 78 = .ok (.iload_n 2, 1) := by decide +kernel
theorem dX7_better_79 : decode cX7_better 79 = .ok (.iadd, 1) := by decide +kernel
theorem dX7_better_80 : decode cX7_better 80 = .ok (.iload_n 3, 1) := by decide +kernel
theorem dX7_better_81 : decode cX7_better 81 = .ok (.iconst (-1), 1) := by decide +kernel
theorem dX7_better_82 : decode cX7_better 82 = .ok (.iconst (-1), 1) := by decide +kernel
theorem dX7_better_83 : decode cX7_better 83 = .ok (.invokevirtual 178, 3) := by decide +kernel
theorem dX7_better_86 : decode cX7_better 86 = .ok (.istore 5, 2) := by decide +kernel
theorem dX7_better_88 : decode cX7_better 88 = .ok (.ldc 166, 2) := by decide +kernel
theorem dX7_better_90 : decode cX7_better 90 = .ok (.istore 6, 2) := by decide +kernel
theorem dX7_better_92 : decode cX7_better 92 = .ok (.iconst 0, 1) := by decide +kernel
theorem dX7_better_93 : decode cX7_better 93 = .ok (.istore 7, 2) := by decide +kernel
theorem dX7_better_95 : decode cX7_better 95 = .ok (.iload 7, 2) := by decide +kernel
theorem dX7_better_97 : decode cX7_better 97 = .ok (.aload_n 0, 1) := by decide +kernel
theorem dX7_better_98 : decode cX7_better 98 = .ok (.getfield 25, 3) := by decide +kernel
theorem dX7_better_101 : decode cX7_better 101 = .ok (.bipush 46, 2) := by decide +kernel
theorem dX7_better_103 : decode cX7_better 103 = .ok (.iaload, 1) := by decide +kernel
theorem dX7_better_104 : decode cX7_better 104 = .ok (.if_icmp .ge 85, 3) := by decide +kernel
theorem dX7_better_107 : decode cX7_better 107 = .ok (.iload 7, 2) := by decide +kernel
theorem dX7_better_109 : decode cX7_better 109 = .ok (.iconst 1, 1) := by decide +kernel
theorem dX7_better_110 : decode cX7_better 110 = .ok (.iadd, 1) := by decide +kernel
theorem dX7_better_111 : decode cX7_better 111 = .ok (.istore 8, 2) := by decide +kernel
theorem dX7_better_113 : decode cX7_better 113 = .ok (.iload 8, 2) := by decide +kernel
theorem dX7_better_115 : decode cX7_better 115 = .ok (.aload_n 0, 1) := by decide +kernel
theorem dX7_better_116 : decode cX7_better 116 = .ok (.getfield 25, 3) := by decide +kernel
theorem dX7_better_119 : decode cX7_better 119 = .ok (.bipush 46, 2) := by decide +kernel
theorem dX7_better_121 : decode cX7_better 121 = .ok (.iaload, 1) := by decide +kernel
theorem dX7_better_122 : decode cX7_better 122 = .ok (.if_icmp .ge 61, 3) := by decide +kernel
theorem dX7_better_125 : decode cX7_better 125 = .ok (.aload_n 0, 1) := by decide +kernel
theorem dX7_better_126 : decode cX7_better 126 = .ok (.bipush 40, 2) := by decide +kernel
theorem dX7_better_128 : decode cX7_better 128 = .ok (.iload_n 1, 1) := by decide +kernel
theorem dX7_better_129 : decode cX7_better 129 = .ok (.imul, 1) := by decide +kernel
theorem dX7_better_130 : decode cX7_better 130 = .ok (.iload_n 2, 1) := by decide +kernel
theorem dX7_better_131 : decode cX7_better 131 = .ok (.iadd, 1) := by decide +kernel
theorem dX7_better_132 : decode cX7_better 132 = .ok (.iload_n 3, 1) := by decide +kernel
theorem dX7_better_133 : decode cX7_better 133 = .ok (.iload 7, 2) := by decide +kernel
theorem dX7_better_135 : decode cX7_better 135 = .ok (.iload 8, 2) := by decide +kernel
theorem dX7_better_137 : decode cX7_better 137 = .ok (.invokevirtual 178, 3) := by decide +kernel
theorem dX7_better_140 : decode cX7_better 140 = .ok (.istore 9, 2) := by decide +kernel
theorem dX7_better_142 : decode cX7_better 142 = .ok (.iload 9, 2) := by decide +kernel
theorem dX7_better_144 : decode cX7_better 144 = .ok (.ldc 166, 2) := by decide +kernel
theorem dX7_better_146 : decode cX7_better 146 = .ok (.if_icmp .eq 31, 3) := by decide +kernel
theorem dX7_better_149 : decode cX7_better 149 = .ok (.iload 5, 2) := by decide +kernel
theorem dX7_better_151 : decode cX7_better 151 = .ok (.ldc 166, 2) := by decide +kernel
theorem dX7_better_153 : decode cX7_better 153 = .ok (.if_icmp .eq 10, 3) := by decide +kernel
theorem dX7_better_156 : decode cX7_better 156 = .ok (.iload 9, 2) := by decide +kernel
theorem dX7_better_158 : decode cX7_better 158 = .ok (.iload 5, 2) := by decide +kernel
theorem dX7_better_160 : decode cX7_better 160 = .ok (.if_icmp .ge 17, 3) := by decide +kernel
theorem dX7_better_163 : decode cX7_better 163 = .ok (.bipush 10, 2) := by decide +kernel
theorem dX7_better_165 : decode cX7_better 165 = .ok (.iload 7, 2) := by decide +kernel
theorem dX7_better_167 : decode cX7_better 167 = .ok (.imul, 1) := by decide +kernel
theorem dX7_better_168 : decode cX7_better 168 = .ok (.iload 8, 2) := by decide +kernel
theorem dX7_better_170 : decode cX7_better 170 = .ok (.iadd, 1) := by decide +kernel
theorem dX7_better_171 : decode cX7_better 171 = .ok (.istore 6, 2) := by decide +kernel
theorem dX7_better_173 : decode cX7_better 173 = .ok (.iload 9, 2) := by decide +kernel
theorem dX7_better_175 : decode cX7_better 175 = .ok (.istore 5, 2) := by decide +kernel
theorem dX7_better_177 : decode cX7_better 177 = .ok (.iinc 8 1, 3) := by decide +kernel
theorem dX7_better_180 : decode cX7_better 180 = .ok (.goto (-67), 3) := by decide +kernel
theorem dX7_better_183 : decode cX7_better 183 = .ok (.iinc 7 1, 3) := by decide +kernel
theorem dX7_better_186 : decode cX7_better 186 = .ok (.goto (-91), 3) := by decide +kernel
theorem dX7_better_189 : decode cX7_better 189 = .ok (.aload_n 0, 1) := by decide +kernel
theorem dX7_better_190 : decode cX7_better 190 = .ok (.iload 6, 2) := by decide +kernel
theorem dX7_better_192 : decode cX7_better 192 = .ok (.ldc 166, 2) := by decide +kernel
theorem dX7_better_194 : decode cX7_better 194 = .ok (.if_icmp .eq 8, 3) := by decide +kernel
theorem dX7_better_197 : decode cX7_better 197 = .ok (.iload 4, 2) := by decide +kernel
theorem dX7_better_199 : decode cX7_better 199 = .ok (.ifCond .ne 8, 3) := by decide +kernel
theorem dX7_better_202 : decode cX7_better 202 = .ok (.iload 6, 2) := by decide +kernel
theorem dX7_better_204 : decode cX7_better 204 = .ok (.goto 5, 3) := by decide +kernel
theorem dX7_better_207 : decode cX7_better 207 = .ok (.iload 5, 2) := by decide +kernel
theorem dX7_better_209 : decode cX7_better 209 = .ok (.invokevirtual 64, 3) := by decide +kernel
theorem dX7_better_212 : decode cX7_better 212 = .ok (.ireturn, 1) := by decide +kernel
theorem dX7_isSo_0 : decode cX7_isSo 0 = .ok (.iconst 1, 1) := by decide +kernel
theorem dX7_isSo_1 : decode cX7_isSo 1 = .ok (.istore 4, 2) := by decide +kernel
theorem dX7_isSo_3 : decode cX7_isSo 3 = .ok (.iconst 0, 1) := by decide +kernel
theorem dX7_isSo_4 : decode cX7_isSo 4 = .ok (.istore 5, 2) := by decide +kernel
theorem dX7_isSo_6 : decode cX7_isSo 6 = .ok (.iload 5, 2) := by decide +kernel
theorem dX7_isSo_8 : decode cX7_isSo 8 = .ok (.iload_n 3, 1) := by decide +kernel
theorem dX7_isSo_9 : decode cX7_isSo 9 = .ok (.if_icmp .ge 49, 3) := by decide +kernel
theorem dX7_isSo_12 : decode cX7_isSo 12 = .ok (.aload_n 0, 1) := by decide +kernel
theorem dX7_isSo_13 : decode cX7_isSo 13 = .ok (.getfield 41, 3) := by decide +kernel
theorem dX7_isSo_16 : decode cX7_isSo 16 = .ok (.invokestatic 138, 3) := by decide +kernel
theorem dX7_isSo_19 : decode cX7_isSo 19 = .ok (.pop, 1) := by decide +kernel
theorem dX7_isSo_20 : decode cX7_isSo 20 = .ok (.iload 4, 2) := by decide +kernel
theorem dX7_isSo_22 : decode cX7_isSo 22 = .ok (.ifCond .eq 27, 3) := by decide +kernel
theorem dX7_isSo_25 : decode cX7_isSo 25 = .ok (.aload_n 0, 1) := by decide +kernel
theorem dX7_isSo_26 : decode cX7_isSo 26 = .ok (.getfield 41, 3) := by decide +kernel
theorem dX7_isSo_29 : decode cX7_isSo 29 = .ok (.iload_n 1, 1) := by decide +kernel
theorem dX7_isSo_30 : decode cX7_isSo 30 = .ok (.invokestatic 116, 3) := by decide +kernel
theorem dX7_isSo_33 : decode cX7_isSo 33 = .ok (.aload_n 0, 1) := by decide +kernel
theorem dX7_isSo_34 : decode cX7_isSo 34 = .ok (.getfield 16, 3) := by decide +kernel
theorem dX7_isSo_37 : decode cX7_isSo 37 = .ok (.iload_n 2, 1) := by decide +kernel
theorem dX7_isSo_38 : decode cX7_isSo 38 = .ok (.iload 5, 2) := by decide +kernel
theorem dX7_isSo_40 : decode cX7_isSo 40 = .ok (.iadd, 1) := by decide +kernel
theorem dX7_isSo_41 : decode cX7_isSo 41 = .ok (.iaload, 1) := by decide +kernel
theorem dX7_isSo_42 : decode cX7_isSo 42 = .ok (.if_icmp .ne 7, 3) := by decide +kernel
theorem dX7_isSo_45 : decode cX7_isSo 45 = .ok (.iconst 1, 1) := by decide +kernel
theorem dX7_isSo_46 : decode cX7_isSo 46 = .ok (.goto 4, 3) := by decide +kernel
theorem dX7_isSo_49 : decode cX7_isSo 49 = .ok (.iconst 0, 1) := by decide +kernel
theorem dX7_isSo_50 : decode cX7_isSo 50 = .ok (.istore 4, 2) := by decide +kernel
theorem dX7_isSo_52 : decode cX7_isSo 52 = .ok (.iinc 5 1, 3) := by decide +kernel
theorem dX7_isSo_55 : decode cX7_isSo 55 = .ok (.goto (-49), 3) := by decide +kernel
theorem dX7_isSo_58 : decode cX7_isSo 58 = .ok (.iload 4, 2) := by decide +kernel
theorem dX7_isSo_60 : decode cX7_isSo 60 = .ok (.ireturn, 1) := by decide +kernel
theorem dX7_becomes_0 : decode cX7_becomes 0 = .ok (.iload_n 2, 1) := by decide +kernel
theorem dX7_becomes_1 : decode cX7_becomes 1 = .ok (.ifCond .ne 16, 3) := by decide +kernel
theorem dX7_becomes_4 : decode cX7_becomes 4 = .ok (.aload_n 0, 1) := by decide +kernel
theorem dX7_becomes_5 : decode cX7_becomes 5 = .ok (.getfield 41, 3) := by decide +kernel
theorem dX7_becomes_8 : decode cX7_becomes 8 = .ok (.bipush 55, 2) := by decide +kernel
theorem dX7_becomes_10 : decode cX7_becomes 10 = .ok (.iload_n 1, 1) := by decide +kernel
theorem dX7_becomes_11 : decode cX7_becomes 11 = .ok (.iadd, 1) := by decide +kernel
theorem dX7_becomes_12 : decode cX7_becomes 12 = .ok (.iload_n 3, 1) := by decide +kernel
theorem dX7_becomes_13 : decode cX7_becomes 13 = .ok (.iastore, 1) := by decide +kernel
theorem dX7_becomes_14 : decode cX7_becomes 14 = .ok (.goto 99, 3) := by decide +kernel
theorem dX7_becomes_17 : decode cX7_becomes 17 = .ok (.iload_n 2, 1) := by decide +kernel
theorem dX7_becomes_18 : decode cX7_becomes 18 = .ok (.iconst 1, 1) := by decide +kernel
theorem dX7_becomes_19 : decode cX7_becomes 19 = .ok (.if_icmp .ne 16, 3) := by decide +kernel
theorem dX7_becomes_22 : decode cX7_becomes 22 = .ok (.aload_n 0, 1) := by decide +kernel
theorem dX7_becomes_23 : decode cX7_becomes 23 = .ok (.getfield 41, 3) := by decide +kernel
theorem dX7_becomes_26 : decode cX7_becomes 26 = .ok (.bipush 47, 2) := by decide +kernel
theorem dX7_becomes_28 : decode cX7_becomes 28 = .ok (.iload_n 1, 1) := by decide +kernel
theorem dX7_becomes_29 : decode cX7_becomes 29 = .ok (.iadd, 1) := by decide +kernel
theorem dX7_becomes_30 : decode cX7_becomes 30 = .ok (.iload_n 3, 1) := by decide +kernel
theorem dX7_becomes_31 : decode cX7_becomes 31 = .ok (.iastore, 1) := by decide +kernel
theorem dX7_becomes_32 : decode cX7_becomes 32 = .ok (.goto 81, 3) := by decide +kernel
theorem dX7_becomes_35 : decode cX7_becomes 35 = .ok (.iload_n 2, 1) := by decide +kernel
theorem dX7_becomes_36 : decode cX7_becomes 36 = .ok (.iconst 2, 1) := by decide +kernel
theorem dX7_becomes_37 : decode cX7_becomes 37 = .ok (.if_icmp .ne 25, 3) := by decide +kernel
theorem dX7_becomes_40 : decode cX7_becomes 40 = .ok (.aload_n 0, 1) := by decide +kernel
theorem dX7_becomes_41 : decode cX7_becomes 41 = .ok (.getfield 41, 3) := by decide +kernel
theorem dX7_becomes_44 : decode cX7_becomes 44 = .ok (.iconst 2, 1) := by decide +kernel
theorem dX7_becomes_45 : decode cX7_becomes 45 = .ok (.iload_n 1, 1) := by decide +kernel
theorem dX7_becomes_46 : decode cX7_becomes 46 = .ok (.iadd, 1) := by decide +kernel
theorem dX7_becomes_47 : decode cX7_becomes 47 = .ok (.iload_n 3, 1) := by decide +kernel
theorem dX7_becomes_48 : decode cX7_becomes 48 = .ok (.iastore, 1) := by decide +kernel
theorem dX7_becomes_49 : decode cX7_becomes 49 = .ok (.aload_n 0, 1) := by decide +kernel
theorem dX7_becomes_50 : decode cX7_becomes 50 = .ok (.getfield 41, 3) := by decide +kernel
theorem dX7_becomes_53 : decode cX7_becomes 53 = .ok (.bipush 10, 2) := by decide +kernel
theorem dX7_becomes_55 : decode cX7_becomes 55 = .ok (.iload_n 1, 1) := by decide +kernel
theorem dX7_becomes_56 : decode cX7_becomes 56 = .ok (.iadd, 1) := by decide +kernel
theorem dX7_becomes_57 : decode cX7_becomes 57 = .ok (.iconst 0, 1) := by decide +kernel
theorem dX7_becomes_58 : decode cX7_becomes 58 = .ok (.iastore, 1) := by decide +kernel
theorem dX7_becomes_59 : decode cX7_becomes 59 = .ok (.goto 54, 3) := by decide +kernel
theorem dX7_becomes_62 : decode cX7_becomes 62 = .ok (.iconst 0, 1) := by decide +kernel
theorem dX7_becomes_63 : decode cX7_becomes 63 = .ok (.istore 4, 2) := by decide +kernel
theorem dX7_becomes_65 : decode cX7_becomes 65 = .ok (.iload 4, 2) := by decide +kernel
theorem dX7_becomes_67 : decode cX7_becomes 67 = .ok (.aload_n 0, 1) := by decide +kernel
theorem dX7_becomes_68 : decode cX7_becomes 68 = .ok (.getfield 41, 3) := by decide +kernel
theorem dX7_becomes_71 : decode cX7_becomes 71 = .ok (.bipush 46, 2) := by decide +kernel
theorem dX7_becomes_73 : decode cX7_becomes 73 = .ok (.iaload, 1) := by decide +kernel
theorem dX7_becomes_74 : decode cX7_becomes 74 = .ok (.if_icmp .ge 39, 3) := by decide +kernel
theorem dX7_becomes_77 : decode cX7_becomes 77 = .ok (.aload_n 0, 1) := by decide +kernel
theorem dX7_becomes_78 : decode cX7_becomes 78 = .ok (.getfield 25, 3) := by decide +kernel
theorem dX7_becomes_81 : decode cX7_becomes 81 = .ok (.bipush 18, 2) := by decide +kernel
theorem dX7_becomes_83 : decode cX7_becomes 83 = .ok (.iload 4, 2) := by decide +kernel
theorem dX7_becomes_85 : decode cX7_becomes 85 = .ok (.iadd, 1) := by decide +kernel
theorem dX7_becomes_86 : decode cX7_becomes 86 = .ok (.iaload, 1) := by decide +kernel
theorem dX7_becomes_87 : decode cX7_becomes 87 = .ok (.iload_n 3, 1) := by decide +kernel
theorem dX7_becomes_88 : decode cX7_becomes 88 = .ok (.if_icmp .ne 19, 3) := by decide +kernel
theorem dX7_becomes_91 : decode cX7_becomes 91 = .ok (.iload 4, 2) := by decide +kernel
theorem dX7_becomes_93 : decode cX7_becomes 93 = .ok (.iload_n 1, 1) := by decide +kernel
theorem dX7_becomes_94 : decode cX7_becomes 94 = .ok (.if_icmp .eq 13, 3) := by decide +kernel
theorem dX7_becomes_97 : decode cX7_becomes 97 = .ok (.aload_n 0, 1) := by decide +kernel
theorem dX7_becomes_98 : decode cX7_becomes 98 = .ok (.getfield 41, 3) := by decide +kernel
theorem dX7_becomes_101 : decode cX7_becomes 101 = .ok (.iload_n 1, 1) := by decide +kernel
theorem dX7_becomes_102 : decode cX7_becomes 102 = .ok (.iload 4, 2) := by decide +kernel
theorem dX7_becomes_104 : decode cX7_becomes 104 = .ok (.invokestatic 162, 3) := by decide +kernel
theorem dX7_becomes_107 : decode cX7_becomes 107 = .ok (.iinc 4 1, 3) := by decide +kernel
theorem dX7_becomes_110 : decode cX7_becomes 110 = .ok (.goto (-45), 3) := by decide +kernel
theorem dX7_becomes_113 : decode cX7_becomes 113 = .ok (.return_, 1) := by decide +kernel
theorem dX7_fits_0 : decode cX7_fits 0 = .ok (.aload_n 0, 1) := by decide +kernel
theorem dX7_fits_1 : decode cX7_fits 1 = .ok (.iload_n 1, 1) := by decide +kernel
theorem dX7_fits_2 : decode cX7_fits 2 = .ok (.invokevirtual 145, 3) := by decide +kernel
theorem dX7_fits_5 : decode cX7_fits 5 = .ok (.ifCond .eq 31, 3) := by decide +kernel
theorem dX7_fits_8 : decode cX7_fits 8 = .ok (.iload_n 2, 1) := by decide +kernel
theorem dX7_fits_9 : decode cX7_fits 9 = .ok (.invokestatic 58, 3) := by decide +kernel
theorem dX7_fits_12 : decode cX7_fits 12 = .ok (.ifCond .eq 24, 3) := by decide +kernel
theorem dX7_fits_15 : decode cX7_fits 15 = .ok (.iload 4, 2) := by decide +kernel
theorem dX7_fits_17 : decode cX7_fits 17 = .ok (.iconst 1, 1) := by decide +kernel
theorem dX7_fits_18 : decode cX7_fits 18 = .ok (.bipush 12, 2) := by decide +kernel
theorem dX7_fits_20 : decode cX7_fits 20 = .ok (.invokestatic 47, 3) := by decide +kernel
theorem dX7_fits_23 : decode cX7_fits 23 = .ok (.ifCond .eq 13, 3) := by decide +kernel
theorem dX7_fits_26 : decode cX7_fits 26 = .ok (.iload 5, 2) := by decide +kernel
theorem dX7_fits_28 : decode cX7_fits 28 = .ok (.iconst 0, 1) := by decide +kernel
theorem dX7_fits_29 : decode cX7_fits 29 = .ok (.iconst 3, 1) := by decide +kernel
theorem dX7_fits_30 : decode cX7_fits 30 = .ok (.invokestatic 47, 3) := by decide +kernel
theorem dX7_fits_33 : decode cX7_fits 33 = .ok (.ifCond .ne 6, 3) := by decide +kernel
theorem dX7_fits_36 : decode cX7_fits 36 = .ok (.ldc 62, 2) := by decide +kernel
theorem dX7_fits_38 : decode cX7_fits 38 = .ok (.ireturn, 1) := by decide +kernel
theorem dX7_fits_39 : decode cX7_fits 39 = .ok (.aload_n 0, 1) := by decide +kernel
theorem dX7_fits_40 : decode cX7_fits 40 = .ok (.getfield 7, 3) := by decide +kernel
theorem dX7_fits_43 : decode cX7_fits 43 = .ok (.iload_n 2, 1) := by decide +kernel
theorem dX7_fits_44 : decode cX7_fits 44 = .ok (.iaload, 1) := by decide +kernel
theorem dX7_fits_45 : decode cX7_fits 45 = .ok (.ifCond .ge 10, 3) := by decide +kernel
theorem dX7_fits_48 : decode cX7_fits 48 = .ok (.aload_n 0, 1) := by decide +kernel
theorem dX7_fits_49 : decode cX7_fits 49 = .ok (.ldc 52, 2) := by decide +kernel
theorem dX7_fits_51 : decode cX7_fits 51 = .ok (.invokevirtual 64, 3) := by decide +kernel
theorem dX7_fits_54 : decode cX7_fits 54 = .ok (.ireturn, 1) := by decide +kernel
theorem dX7_fits_55 : decode cX7_fits 55 = .ok (.aload_n 0, 1) := by decide +kernel
theorem dX7_fits_56 : decode cX7_fits 56 = .ok (.iload_n 2, 1) := by decide +kernel
theorem dX7_fits_57 : decode cX7_fits 57 = .ok (.iload_n 3, 1) := by decide +kernel
theorem dX7_fits_58 : decode cX7_fits 58 = .ok (.iload 4, 2) := by decide +kernel
theorem dX7_fits_60 : decode cX7_fits 60 = .ok (.invokevirtual 68, 3) := by decide +kernel
theorem dX7_fits_63 : decode cX7_fits 63 = .ok (.ifCond .ne 10, 3) := by decide +kernel
theorem dX7_fits_66 : decode cX7_fits 66 = .ok (.aload_n 0, 1) := by decide +kernel
theorem dX7_fits_67 : decode cX7_fits 67 = .ok (.ldc 71, 2) := by decide +kernel
theorem dX7_fits_69 : decode cX7_fits 69 = .ok (.invokevirtual 64, 3) := by decide +kernel
theorem dX7_fits_72 : decode cX7_fits 72 = .ok (.ireturn, 1) := by decide +kernel
theorem dX7_fits_73 : decode cX7_fits 73 = .ok (.iconst 0, 1) := by decide +kernel
theorem dX7_fits_74 : decode cX7_fits 74 = .ok (.istore 6, 2) := by decide +kernel
theorem dX7_fits_76 : decode cX7_fits 76 = .ok (.iload 5, 2) := by decide +kernel
theorem dX7_fits_78 : decode cX7_fits 78 = .ok (.ifCond .ne 7, 3) := by decide +kernel
theorem dX7_fits_81 : decode cX7_fits 81 = .ok (.iconst 5, 1) := by decide +kernel
theorem dX7_fits_82 : decode cX7_fits 82 = .ok (.goto 33, 3) := by decide +kernel
theorem dX7_fits_85 : decode cX7_fits 85 = .ok (.iload 5, 2) := by decide +kernel
theorem dX7_fits_87 : decode cX7_fits 87 = .ok (.iconst 1, 1) := by decide +kernel
theorem dX7_fits_88 : decode cX7_fits 88 = .ok (.if_icmp .ne 7, 3) := by decide +kernel
theorem dX7_fits_91 : decode cX7_fits 91 = .ok (.iconst 4, 1) := by decide +kernel
theorem dX7_fits_92 : decode cX7_fits 92 = .ok (.goto 23, 3) := by decide +kernel
theorem dX7_fits_95 : decode cX7_fits 95 = .ok (.iload 5, 2) := by decide +kernel
theorem dX7_fits_97 : decode cX7_fits 97 = .ok (.iconst 2, 1) := by decide +kernel
theorem dX7_fits_98 : decode cX7_fits 98 = .ok (.if_icmp .ne 8, 3) := by decide +kernel
theorem dX7_fits_101 : decode cX7_fits 101 = .ok (.bipush 9, 2) := by decide +kernel
theorem dX7_fits_103 : decode cX7_fits 103 = .ok (.goto 12, 3) := by decide +kernel
theorem dX7_fits_106 : decode cX7_fits 106 = .ok (.aload_n 0, 1) := by decide +kernel
theorem dX7_fits_107 : decode cX7_fits 107 = .ok (.getfield 25, 3) := by decide +kernel
theorem dX7_fits_110 : decode cX7_fits 110 = .ok (.bipush 46, 2) := by decide +kernel
theorem dX7_fits_112 : decode cX7_fits 112 = .ok (.iaload, 1) := by decide +kernel
theorem dX7_fits_113 : decode cX7_fits 113 = .ok (.iconst 1, 1) := by decide +kernel
theorem dX7_fits_114 : decode cX7_fits 114 = .ok (.isub, 1) := by decide +kernel
theorem dX7_fits_115 : decode cX7_fits 115 = .ok (.istore 7, 2) := by decide +kernel
theorem dX7_fits_117 : decode cX7_fits 117 = .ok (.iload 5, 2) := by decide +kernel
theorem dX7_fits_119 : decode cX7_fits 119 = .ok (.iconst 2, 1) := by decide +kernel
theorem dX7_fits_120 : decode cX7_fits 120 = .ok (.if_icmp .ge 7, 3) := by decide +kernel
theorem dX7_fits_123 : decode cX7_fits 123 = .ok (.iconst 1, 1) := by decide +kernel
theorem dX7_fits_124 : decode cX7_fits 124 = .ok (.goto 4, 3) := by decide +kernel
theorem dX7_fits_127 : decode cX7_fits 127 = .ok (.iconst 0, 1) := by decide +kernel
theorem dX7_fits_128 : decode cX7_fits 128 = .ok (.istore 8, 2) := by decide +kernel
theorem dX7_fits_130 : decode cX7_fits 130 = .ok (.iload 8, 2) := by decide +kernel
theorem dX7_fits_132 : decode cX7_fits 132 = .ok (.iload 7, 2) := by decide +kernel
theorem dX7_fits_134 : decode cX7_fits 134 = .ok (.if_icmp .gt 58, 3) := by decide +kernel
theorem dX7_fits_137 : decode cX7_fits 137 = .ok (.aload_n 0, 1) := by decide +kernel
theorem dX7_fits_138 : decode cX7_fits 138 = .ok (.getfield 25, 3) := by decide +kernel
theorem dX7_fits_141 : decode cX7_fits 141 = .ok (.aload_n 0, 1) := by decide +kernel
theorem dX7_fits_142 : decode cX7_fits 142 = .ok (.getfield 41, 3) := by decide +kernel
theorem dX7_fits_145 : decode cX7_fits 145 = .ok (.invokestatic 167, 3) := by decide +kernel
theorem dX7_fits_148 : decode cX7_fits 148 = .ok (.aload_n 0, 1) := by decide +kernel
theorem dX7_fits_149 : decode cX7_fits 149 = .ok (.iload_n 1, 1) := by decide +kernel
theorem dX7_fits_150 : decode cX7_fits 150 = .ok (.iload 5, 2) := by decide +kernel
theorem dX7_fits_152 : decode cX7_fits 152 = .ok (.iload 8, 2) := by decide +kernel
theorem dX7_fits_154 : decode cX7_fits 154 = .ok (.invokevirtual 182, 3) := by decide +kernel
theorem dX7_fits_157 : decode cX7_fits 157 = .ok (.iload 6, 2) := by decide +kernel
theorem dX7_fits_159 : decode cX7_fits 159 = .ok (.aload_n 0, 1) := by decide +kernel
theorem dX7_fits_160 : decode cX7_fits 160 = .ok (.iload_n 1, 1) := by decide +kernel
theorem dX7_fits_161 : decode cX7_fits 161 = .ok (.bipush 40, 2) := by decide +kernel
theorem dX7_fits_163 : decode cX7_fits 163 = .ok (.iload_n 2, 1) := by decide +kernel
theorem dX7_fits_164 : decode cX7_fits 164 = .ok (.imul, 1) := by decide +kernel
theorem dX7_fits_165 : decode cX7_fits 165 = .ok (.iload_n 3, 1) := by decide +kernel
theorem dX7_fits_166 : decode cX7_fits 166 = .ok (.iadd, 1) := by decide +kernel
theorem dX7_fits_167 : decode cX7_fits 167 = .ok (.iload 4, 2) := by decide +kernel
theorem dX7_fits_169 : decode cX7_fits 169 = .ok (.invokevirtual 186, 3) := by decide +kernel
theorem dX7_fits_172 : decode cX7_fits 172 = .ok (.ifCond .eq 10, 3) := by decide +kernel
theorem dX7_fits_175 : decode cX7_fits 175 = .ok (.iconst 1, 1) := by decide +kernel
theorem dX7_fits_176 : decode cX7_fits 176 = .ok (.iload 8, 2) := by decide +kernel
theorem dX7_fits_178 : decode cX7_fits 178 = .ok (.ishl, 1) := by decide +kernel
theorem dX7_fits_179 : decode cX7_fits 179 = .ok (.goto 4, 3) := by decide +kernel
theorem dX7_fits_182 : decode cX7_fits 182 = .ok (.iconst 0, 1) := by decide +kernel
theorem dX7_fits_183 : decode cX7_fits 183 = .ok (.ior, 1) := by decide +kernel
theorem dX7_fits_184 : decode cX7_fits 184 = .ok (.istore 6, 2) := by decide +kernel
theorem dX7_fits_186 : decode cX7_fits 186 = .ok (.iinc 8 1, 3) := by decide +kernel
theorem dX7_fits_189 : decode cX7_fits 189 = .ok (.goto (-59), 3) := by decide +kernel
theorem dX7_fits_192 : decode cX7_fits 192 = .ok (.aload_n 0, 1) := by decide +kernel
theorem dX7_fits_193 : decode cX7_fits 193 = .ok (.iload 6, 2) := by decide +kernel
theorem dX7_fits_195 : decode cX7_fits 195 = .ok (.invokevirtual 64, 3) := by decide +kernel
theorem dX7_fits_198 : decode cX7_fits 198 = .ok (.ireturn, 1) := by decide +kernel
theorem dX7_chance_0 : decode cX7_chance 0 = .ok (.aload_n 0, 1) := by decide +kernel
theorem dX7_chance_1 : decode cX7_chance 1 = .ok (.invokevirtual 131, 3) := by decide +kernel
theorem dX7_chance_4 : decode cX7_chance 4 = .ok (.ifCond .ne 6, 3) := by decide +kernel
theorem dX7_chance_7 : decode cX7_chance 7 = .ok (.ldc 134, 2) := by decide +kernel
theorem dX7_chance_9 : decode cX7_chance 9 = .ok (.ireturn, 1) := by decide +kernel
theorem dX7_chance_10 : decode cX7_chance 10 = .ok (.iload_n 1, 1) := by decide +kernel
theorem dX7_chance_11 : decode cX7_chance 11 = .ok (.iconst 0, 1) := by decide +kernel
theorem dX7_chance_12 : decode cX7_chance 12 = .ok (.bipush 60, 2) := by decide +kernel
theorem dX7_chance_14 : decode cX7_chance 14 = .ok (.invokestatic 47, 3) := by decide +kernel
theorem dX7_chance_17 : decode cX7_chance 17 = .ok (.ifCond .eq 22, 3) := by decide +kernel
theorem dX7_chance_20 : decode cX7_chance 20 = .ok (.iload_n 2, 1) := by decide +kernel
theorem dX7_chance_21 : decode cX7_chance 21 = .ok (.iconst 0, 1) := by decide +kernel
theorem dX7_chance_22 : decode cX7_chance 22 = .ok (.bipush 10, 2) := by decide +kernel
theorem dX7_chance_24 : decode cX7_chance 24 = .ok (.invokestatic 47, 3) := by decide +kernel
theorem dX7_chance_27 : decode cX7_chance 27 = .ok (.ifCond .eq 12, 3) := by decide +kernel
theorem dX7_chance_30 : decode cX7_chance 30 = .ok (.iload_n 3, 1) := by decide +kernel
theorem dX7_chance_31 : decode cX7_chance 31 = .ok (.iconst 0, 1) := by decide +kernel
theorem dX7_chance_32 : decode cX7_chance 32 = .ok (.iconst 1, 1) := by decide +kernel
theorem dX7_chance_33 : decode cX7_chance 33 = .ok (.invokestatic 47, 3) := by decide +kernel
theorem dX7_chance_36 : decode cX7_chance 36 = .ok (.ifCond .ne 6, 3) := by decide +kernel
theorem dX7_chance_39 : decode cX7_chance 39 = .ok (.ldc 62, 2) := by decide +kernel
theorem dX7_chance_41 : decode cX7_chance 41 = .ok (.ireturn, 1) := by decide +kernel
theorem dX7_chance_42 : decode cX7_chance 42 = .ok (.aload_n 0, 1) := by decide +kernel
theorem dX7_chance_43 : decode cX7_chance 43 = .ok (.getfield 25, 3) := by decide +kernel
theorem dX7_chance_46 : decode cX7_chance 46 = .ok (.invokestatic 152, 3) := by decide +kernel
theorem dX7_chance_49 : decode cX7_chance 49 = .ok (.istore 4, 2) := by decide +kernel
theorem dX7_chance_51 : decode cX7_chance 51 = .ok (.iconst 0, 1) := by decide +kernel
theorem dX7_chance_52 : decode cX7_chance 52 = .ok (.istore 5, 2) := by decide +kernel
theorem dX7_chance_54 : decode cX7_chance 54 = .ok (.iconst 1, 1) := by decide +kernel
theorem dX7_chance_55 : decode cX7_chance 55 = .ok (.istore 6, 2) := by decide +kernel
theorem dX7_chance_57 : decode cX7_chance 57 = .ok (.iconst 0, 1) := by decide +kernel
theorem dX7_chance_58 : decode cX7_chance 58 = .ok (.istore 7, 2) := by decide +kernel
theorem dX7_chance_60 : decode cX7_chance 60 = .ok (.iload 7, 2) := by decide +kernel
theorem dX7_chance_62 : decode cX7_chance 62 = .ok (.aload_n 0, 1) := by decide +kernel
theorem dX7_chance_63 : decode cX7_chance 63 = .ok (.getfield 25, 3) := by decide +kernel
theorem dX7_chance_66 : decode cX7_chance 66 = .ok (.bipush 46, 2) := by decide +kernel
theorem dX7_chance_68 : decode cX7_chance 68 = .ok (.iaload, 1) := by decide +kernel
theorem dX7_chance_69 : decode cX7_chance 69 = .ok (.if_icmp .ge 30, 3) := by decide +kernel
theorem dX7_chance_72 : decode cX7_chance 72 = .ok (.iload 6, 2) := by decide +kernel
theorem dX7_chance_74 : decode cX7_chance 74 = .ok (.iload 4, 2) := by decide +kernel
theorem dX7_chance_76 : decode cX7_chance 76 = .ok (.iload 7, 2) := by decide +kernel
theorem dX7_chance_78 : decode cX7_chance 78 = .ok (.invokestatic 123, 3) := by decide +kernel
theorem dX7_chance_81 : decode cX7_chance 81 = .ok (.ifCond .eq 8, 3) := by decide +kernel
theorem dX7_chance_84 : decode cX7_chance 84 = .ok (.bipush 10, 2) := by decide +kernel
theorem dX7_chance_86 : decode cX7_chance 86 = .ok (.goto 4, 3) := by decide +kernel
theorem dX7_chance_89 : decode cX7_chance 89 = .ok (.iconst 1, 1) := by decide +kernel
theorem dX7_chance_90 : decode cX7_chance 90 = .ok (.imul, 1) := by decide +kernel
theorem dX7_chance_91 : decode cX7_chance 91 = .ok (.istore 6, 2) := by decide +kernel
theorem dX7_chance_93 : decode cX7_chance 93 = .ok (.iinc 7 1, 3) := by decide +kernel
theorem dX7_chance_96 : decode cX7_chance 96 = .ok (.goto (-36), 3) := by decide +kernel
theorem dX7_chance_99 : decode cX7_chance 99 = .ok (.iconst 0, 1) := by decide +kernel
theorem dX7_chance_100 : decode cX7_chance 100 = .ok (.istore 7, 2) := by decide +kernel
theorem dX7_chance_102 : decode cX7_chance 102 = .ok (.iload 7, 2) := by decide +kernel
theorem dX7_chance_104 : decode cX7_chance 104 = .ok (.iconst 1, 1) := by decide +kernel
theorem dX7_chance_105 : decode cX7_chance 105 = .ok (.aload_n 0, 1) := by decide +kernel
theorem dX7_chance_106 : decode cX7_chance 106 = .ok (.getfield 25, 3) := by decide +kernel
theorem dX7_chance_109 : decode cX7_chance 109 = .ok (.bipush 46, 2) := by decide +kernel
theorem dX7_chance_111 : decode cX7_chance 111 = .ok (.iaload, 1) := by decide +kernel
theorem dX7_chance_112 : decode cX7_chance 112 = .ok (.ishl, 1) := by decide +kernel
theorem dX7_chance_113 : decode cX7_chance 113 = .ok (.if_icmp .ge 167, 3) := by decide +kernel
theorem dX7_chance_116 : decode cX7_chance 116 = .ok (.iload 7, 2) := by decide +kernel
theorem dX7_chance_118 : decode cX7_chance 118 = .ok (.iload 4, 2) := by decide +kernel
theorem dX7_chance_120 : decode cX7_chance 120 = .ok (.iconst (-1), 1) := by decide +kernel
theorem dX7_chance_121 : decode cX7_chance 121 = .ok (.ixor, 1) := by decide +kernel
theorem dX7_chance_122 : decode cX7_chance 122 = .ok (.iand, 1) := by decide +kernel
theorem dX7_chance_123 : decode cX7_chance 123 = .ok (.ifCond .ne 151, 3) := by decide +kernel
theorem dX7_chance_126 : decode cX7_chance 126 = .ok (.aload_n 0, 1) := by decide +kernel
theorem dX7_chance_127 : decode cX7_chance 127 = .ok (.getfield 25, 3) := by decide +kernel
theorem dX7_chance_130 : decode cX7_chance 130 = .ok (.aload_n 0, 1) := by decide +kernel
theorem dX7_chance_131 : decode cX7_chance 131 = .ok (.getfield 41, 3) := by decide +kernel
theorem dX7_chance_134 : decode cX7_chance 134 = .ok (.invokestatic 167, 3) := by decide +kernel
theorem dX7_chance_137 : decode cX7_chance 137 = .ok (.iconst 1, 1) := by decide +kernel
theorem dX7_chance_138 : decode cX7_chance 138 = .ok (.istore 8, 2) := by decide +kernel
theorem dX7_chance_140 : decode cX7_chance 140 = .ok (.iconst 0, 1) := by decide +kernel
theorem dX7_chance_141 : decode cX7_chance 141 = .ok (.istore 9, 2) := by decide +kernel
theorem dX7_chance_143 : decode cX7_chance 143 = .ok (.iload 9, 2) := by decide +kernel
theorem dX7_chance_145 : decode cX7_chance 145 = .ok (.aload_n 0, 1) := by decide +kernel
theorem dX7_chance_146 : decode cX7_chance 146 = .ok (.getfield 25, 3) := by decide +kernel
theorem dX7_chance_149 : decode cX7_chance 149 = .ok (.bipush 46, 2) := by decide +kernel
theorem dX7_chance_151 : decode cX7_chance 151 = .ok (.iaload, 1) := by decide +kernel
theorem dX7_chance_152 : decode cX7_chance 152 = .ok (.if_icmp .ge 78, 3) := by decide +kernel
theorem dX7_chance_155 : decode cX7_chance 155 = .ok (.iload 8, 2) := by decide +kernel
theorem dX7_chance_157 : decode cX7_chance 157 = .ok (.iload 4, 2) := by decide +kernel
theorem dX7_chance_159 : decode cX7_chance 159 = .ok (.iload 9, 2) := by decide +kernel
theorem dX7_chance_161 : decode cX7_chance 161 = .ok (.invokestatic 123, 3) := by decide +kernel
theorem dX7_chance_164 : decode cX7_chance 164 = .ok (.ifCond .ne 7, 3) := by decide +kernel
theorem dX7_chance_167 : decode cX7_chance 167 = .ok (.iconst 1, 1) := by decide +kernel
theorem dX7_chance_168 : decode cX7_chance 168 = .ok (.goto 21, 3) := by decide +kernel
theorem dX7_chance_171 : decode cX7_chance 171 = .ok (.iload 7, 2) := by decide +kernel
theorem dX7_chance_173 : decode cX7_chance 173 = .ok (.iload 9, 2) := by decide +kernel
theorem dX7_chance_175 : decode cX7_chance 175 = .ok (.invokestatic 123, 3) := by decide +kernel
theorem dX7_chance_178 : decode cX7_chance 178 = .ok (.ifCond .eq 7, 3) := by decide +kernel
theorem dX7_chance_181 : decode cX7_chance 181 = .ok (.iload_n 2, 1) := by decide +kernel
theorem dX7_chance_182 : decode cX7_chance 182 = .ok (.goto 7, 3) := by decide +kernel
theorem dX7_chance_185 : decode cX7_chance 185 = .ok (.bipush 10, 2) := by decide +kernel
theorem dX7_chance_187 : decode cX7_chance 187 = .ok (.iload_n 2, 1) := by decide +kernel
theorem dX7_chance_188 : decode cX7_chance 188 = .ok (.isub, 1) := by decide +kernel
theorem dX7_chance_189 : decode cX7_chance 189 = .ok (.imul, 1) := by decide +kernel
theorem dX7_chance_190 : decode cX7_chance 190 = .ok (.istore 8, 2) := by decide +kernel
theorem dX7_chance_192 : decode cX7_chance 192 = .ok (.aload_n 0, 1) := by decide +kernel
theorem dX7_chance_193 : decode cX7_chance 193 = .ok (.getfield 41, 3) := by decide +kernel
theorem dX7_chance_196 : decode cX7_chance 196 = .ok (.iconst 2, 1) := by decide +kernel
theorem dX7_chance_197 : decode cX7_chance 197 = .ok (.iload 9, 2) := by decide +kernel
theorem dX7_chance_199 : decode cX7_chance 199 = .ok (.iadd, 1) := by decide +kernel
theorem dX7_chance_200 : decode cX7_chance 200 = .ok (.iload 7, 2) := by decide +kernel
theorem dX7_chance_202 : decode cX7_chance 202 = .ok (.iload 9, 2) := by decide +kernel
theorem dX7_chance_204 : decode cX7_chance 204 = .ok (.invokestatic 123, 3) := by decide +kernel
theorem dX7_chance_207 : decode cX7_chance 207 = .ok (.ifCond .eq 7, 3) := by decide +kernel
theorem dX7_chance_210 : decode cX7_chance 210 = .ok (.iconst (-1), 1) := by decide +kernel
theorem dX7_chance_211 : decode cX7_chance 211 = .ok (.goto 12, 3) := by decide +kernel
theorem dX7_chance_214 : decode cX7_chance 214 = .ok (.aload_n 0, 1) := by decide +kernel
theorem dX7_chance_215 : decode cX7_chance 215 = .ok (.getfield 41, 3) := by decide +kernel
theorem dX7_chance_218 : decode cX7_chance 218 = .ok (.iconst 2, 1) := by decide +kernel
theorem dX7_chance_219 : decode cX7_chance 219 = .ok (.iload 9, 2) := by decide +kernel
theorem dX7_chance_221 : decode cX7_chance 221 = .ok (.iadd, 1) := by decide +kernel
theorem dX7_chance_222 : decode cX7_chance 222 = .ok (.iaload, 1) := by decide +kernel
theorem dX7_chance_223 : decode cX7_chance 223 = .ok (.iastore, 1) := by decide +kernel
theorem dX7_chance_224 : decode cX7_chance 224 = .ok (.iinc 9 1, 3) := by decide +kernel
theorem dX7_chance_227 : decode cX7_chance 227 = .ok (.goto (-84), 3) := by decide +kernel
theorem dX7_chance_230 : decode cX7_chance 230 = .ok (.iconst 0, 1) := by decide +kernel
theorem dX7_chance_231 : decode cX7_chance 231 = .ok (.istore 9, 2) := by decide +kernel
theorem dX7_chance_233 : decode cX7_chance 233 = .ok (.iload 9, 2) := by decide +kernel
theorem dX7_chance_235 : decode cX7_chance 235 = .ok (.iload_n 1, 1) := by decide +kernel
theorem dX7_chance_236 : decode cX7_chance 236 = .ok (.if_icmp .ge 17, 3) := by decide +kernel
theorem dX7_chance_239 : decode cX7_chance 239 = .ok (.aload_n 0, 1) := by decide +kernel
theorem dX7_chance_240 : decode cX7_chance 240 = .ok (.getfield 41, 3) := by decide +kernel
theorem dX7_chance_243 : decode cX7_chance 243 = .ok (.invokestatic 138, 3) := by decide +kernel
theorem dX7_chance_246 : decode cX7_chance 246 = .ok (.pop, 1) := by decide +kernel
theorem dX7_chance_247 : decode cX7_chance 247 = .ok (.iinc 9 1, 3) := by decide +kernel
theorem dX7_chance_250 : decode cX7_chance 250 = .ok (.goto (-17), 3) := by decide +kernel
theorem dX7_chance_253 : decode cX7_chance 253 = .ok (.iload 5, 2) := by decide +kernel
theorem dX7_chance_255 : decode cX7_chance 255 = .ok (.aload_n 0, 1) := by decide +kernel
theorem dX7_chance_256 : decode cX7_chance 256 = .ok (.getfield 41, 3) := by decide +kernel
theorem dX7_chance_259 : decode cX7_chance 259 = .ok (.invokestatic 142, 3) := by decide +kernel
theorem dX7_chance_262 : decode cX7_chance 262 = .ok (.ifCond .ne 8, 3) := by decide +kernel
theorem dX7_chance_265 : decode cX7_chance 265 = .ok (.iload 8, 2) := by decide +kernel
theorem dX7_chance_267 : decode cX7_chance 267 = .ok (.goto 4, 3) := by decide +kernel
theorem dX7_chance_270 : decode cX7_chance 270 = .ok (.iconst 0, 1) := by decide +kernel
theorem dX7_chance_271 : decode cX7_chance 271 = .ok (.iadd, 1) := by decide +kernel
theorem dX7_chance_272 : decode cX7_chance 272 = .ok (.istore 5, 2) := by decide +kernel
theorem dX7_chance_274 : decode cX7_chance 274 = .ok (.iinc 7 1, 3) := by decide +kernel
theorem dX7_chance_277 : decode cX7_chance 277 = .ok (.goto (-175), 3) := by decide +kernel
theorem dX7_chance_280 : decode cX7_chance 280 = .ok (.iload 5, 2) := by decide +kernel
theorem dX7_chance_282 : decode cX7_chance 282 = .ok (.istore 7, 2) := by decide +kernel
theorem dX7_chance_284 : decode cX7_chance 284 = .ok (.iload 6, 2) := by decide +kernel
theorem dX7_chance_286 : decode cX7_chance 286 = .ok (.istore 8, 2) := by decide +kernel
theorem dX7_chance_288 : decode cX7_chance 288 = .ok (.iload 8, 2) := by decide +kernel
theorem dX7_chance_290 : decode cX7_chance 290 = .ok (.ifCond .le 21, 3) := by decide +kernel
theorem dX7_chance_293 : decode cX7_chance 293 = .ok (.iload 7, 2) := by decide +kernel
theorem dX7_chance_295 : decode cX7_chance 295 = .ok (.iload 8, 2) := by decide +kernel
theorem dX7_chance_297 : decode cX7_chance 297 = .ok (.irem, 1) := by decide +kernel
theorem dX7_chance_298 : decode cX7_chance 298 = .ok (.istore 9, 2) := by decide +kernel
theorem dX7_chance_300 : decode cX7_chance 300 = .ok (.iload 8, 2) := by decide +kernel
theorem dX7_chance_302 : decode cX7_chance 302 = .ok (.istore 7, 2) := by decide +kernel
theorem dX7_chance_304 : decode cX7_chance 304 = .ok (.iload 9, 2) := by decide +kernel
theorem dX7_chance_306 : decode cX7_chance 306 = .ok (.istore 8, 2) := by decide +kernel
theorem dX7_chance_308 : decode cX7_chance 308 = .ok (.goto (-20), 3) := by decide +kernel
theorem dX7_chance_311 : decode cX7_chance 311 = .ok (.iload_n 3, 1) := by decide +kernel
theorem dX7_chance_312 : decode cX7_chance 312 = .ok (.ifCond .ne 11, 3) := by decide +kernel
theorem dX7_chance_315 : decode cX7_chance 315 = .ok (.iload 5, 2) := by decide +kernel
theorem dX7_chance_317 : decode cX7_chance 317 = .ok (.iload 7, 2) := by decide +kernel
theorem dX7_chance_319 : decode cX7_chance 319 = .ok (.idiv, 1) := by decide +kernel
theorem dX7_chance_320 : decode cX7_chance 320 = .ok (.goto 8, 3) := by decide +kernel
theorem dX7_chance_323 : decode cX7_chance 323 = .ok (.iload 6, 2) := by decide +kernel
theorem dX7_chance_325 : decode cX7_chance 325 = .ok (.iload 7, 2) := by decide +kernel
theorem dX7_chance_327 : decode cX7_chance 327 = .ok (.idiv, 1) := by decide +kernel
theorem dX7_chance_328 : decode cX7_chance 328 = .ok (.ireturn, 1) := by decide +kernel
theorem dX7_drawn_0 : decode cX7_drawn 0 = .ok (.aload_n 0, 1) := by decide +kernel
theorem dX7_drawn_1 : decode cX7_drawn 1 = .ok (.invokevirtual 131, 3) := by decide +kernel
theorem dX7_drawn_4 : decode cX7_drawn 4 = .ok (.ifCond .ne 6, 3) := by decide +kernel
theorem dX7_drawn_7 : decode cX7_drawn 7 = .ok (.ldc 134, 2) := by decide +kernel
theorem dX7_drawn_9 : decode cX7_drawn 9 = .ok (.ireturn, 1) := by decide +kernel
theorem dX7_drawn_10 : decode cX7_drawn 10 = .ok (.iload_n 1, 1) := by decide +kernel
theorem dX7_drawn_11 : decode cX7_drawn 11 = .ok (.iconst 0, 1) := by decide +kernel
theorem dX7_drawn_12 : decode cX7_drawn 12 = .ok (.bipush 60, 2) := by decide +kernel
theorem dX7_drawn_14 : decode cX7_drawn 14 = .ok (.invokestatic 47, 3) := by decide +kernel
theorem dX7_drawn_17 : decode cX7_drawn 17 = .ok (.ifCond .eq 22, 3) := by decide +kernel
theorem dX7_drawn_20 : decode cX7_drawn 20 = .ok (.iload_n 2, 1) := by decide +kernel
theorem dX7_drawn_21 : decode cX7_drawn 21 = .ok (.iconst 1, 1) := by decide +kernel
theorem dX7_drawn_22 : decode cX7_drawn 22 = .ok (.ldc 189, 2) := by decide +kernel
theorem dX7_drawn_24 : decode cX7_drawn 24 = .ok (.invokestatic 47, 3) := by decide +kernel
theorem dX7_drawn_27 : decode cX7_drawn 27 = .ok (.ifCond .eq 12, 3) := by decide +kernel
theorem dX7_drawn_30 : decode cX7_drawn 30 = .ok (.iload_n 3, 1) := by decide +kernel
theorem dX7_drawn_31 : decode cX7_drawn 31 = .ok (.iconst 0, 1) := by decide +kernel
theorem dX7_drawn_32 : decode cX7_drawn 32 = .ok (.iconst 1, 1) := by decide +kernel
theorem dX7_drawn_33 : decode cX7_drawn 33 = .ok (.invokestatic 47, 3) := by decide +kernel
theorem dX7_drawn_36 : decode cX7_drawn 36 = .ok (.ifCond .ne 6, 3) := by decide +kernel
theorem dX7_drawn_39 : decode cX7_drawn 39 = .ok (.ldc 62, 2) := by decide +kernel
theorem dX7_drawn_41 : decode cX7_drawn 41 = .ok (.ireturn, 1) := by decide +kernel
theorem dX7_drawn_42 : decode cX7_drawn 42 = .ok (.aload_n 0, 1) := by decide +kernel
theorem dX7_drawn_43 : decode cX7_drawn 43 = .ok (.getfield 25, 3) := by decide +kernel
theorem dX7_drawn_46 : decode cX7_drawn 46 = .ok (.aload_n 0, 1) := by decide +kernel
theorem dX7_drawn_47 : decode cX7_drawn 47 = .ok (.getfield 41, 3) := by decide +kernel
theorem dX7_drawn_50 : decode cX7_drawn 50 = .ok (.invokestatic 167, 3) := by decide +kernel
theorem dX7_drawn_53 : decode cX7_drawn 53 = .ok (.iload_n 2, 1) := by decide +kernel
theorem dX7_drawn_54 : decode cX7_drawn 54 = .ok (.i2l, 1) := by decide +kernel
theorem dX7_drawn_55 : decode cX7_drawn 55 = .ok (.lstore 4, 2) := by decide +kernel
theorem dX7_drawn_57 : decode cX7_drawn 57 = .ok (.iconst 0, 1) := by decide +kernel
theorem dX7_drawn_58 : decode cX7_drawn 58 = .ok (.istore 6, 2) := by decide +kernel
theorem dX7_drawn_60 : decode cX7_drawn 60 = .ok (.iconst 0, 1) := by decide +kernel
theorem dX7_drawn_61 : decode cX7_drawn 61 = .ok (.istore 7, 2) := by decide +kernel
theorem dX7_drawn_63 : decode cX7_drawn 63 = .ok (.iload 7, 2) := by decide +kernel
theorem dX7_drawn_65 : decode cX7_drawn 65 = .ok (.iload_n 1, 1) := by decide +kernel
theorem dX7_drawn_66 : decode cX7_drawn 66 = .ok (.if_icmp .ge 98, 3) := by decide +kernel
theorem dX7_drawn_69 : decode cX7_drawn 69 = .ok (.lload 4, 2) := by decide +kernel
theorem dX7_drawn_71 : decode cX7_drawn 71 = .ok (.ldc2_w 190, 3) := by decide +kernel
theorem dX7_drawn_74 : decode cX7_drawn 74 = .ok (.lmul, 1) := by decide +kernel
theorem dX7_drawn_75 : decode cX7_drawn 75 = .ok (.ldc2_w 192, 3) := by decide +kernel
theorem dX7_drawn_78 : decode cX7_drawn 78 = .ok (.lrem, 1) := by decide +kernel
theorem dX7_drawn_79 : decode cX7_drawn 79 = .ok (.lstore 4, 2) := by decide +kernel
theorem dX7_drawn_81 : decode cX7_drawn 81 = .ok (.lload 4, 2) := by decide +kernel
theorem dX7_drawn_83 : decode cX7_drawn 83 = .ok (.ldc2_w 194, 3) := by decide +kernel
theorem dX7_drawn_86 : decode cX7_drawn 86 = .ok (.lrem, 1) := by decide +kernel
theorem dX7_drawn_87 : decode cX7_drawn 87 = .ok (.lconst 0, 1) := by decide +kernel
theorem dX7_drawn_88 : decode cX7_drawn 88 = .ok (.lcmp, 1) := by decide +kernel
theorem dX7_drawn_89 : decode cX7_drawn 89 = .ok (.ifCond .ne 10, 3) := by decide +kernel
theorem dX7_drawn_92 : decode cX7_drawn 92 = .ok (.aload_n 0, 1) := by decide +kernel
theorem dX7_drawn_93 : decode cX7_drawn 93 = .ok (.getfield 41, 3) := by decide +kernel
theorem dX7_drawn_96 : decode cX7_drawn 96 = .ok (.invokestatic 158, 3) := by decide +kernel
theorem dX7_drawn_99 : decode cX7_drawn 99 = .ok (.lload 4, 2) := by decide +kernel
theorem dX7_drawn_101 : decode cX7_drawn 101 = .ok (.aload_n 0, 1) := by decide +kernel
theorem dX7_drawn_102 : decode cX7_drawn 102 = .ok (.getfield 41, 3) := by decide +kernel
theorem dX7_drawn_105 : decode cX7_drawn 105 = .ok (.bipush 46, 2) := by decide +kernel
theorem dX7_drawn_107 : decode cX7_drawn 107 = .ok (.iaload, 1) := by decide +kernel
theorem dX7_drawn_108 : decode cX7_drawn 108 = .ok (.i2l, 1) := by decide +kernel
theorem dX7_drawn_109 : decode cX7_drawn 109 = .ok (.lrem, 1) := by decide +kernel
theorem dX7_drawn_110 : decode cX7_drawn 110 = .ok (.l2i, 1) := by decide +kernel
theorem dX7_drawn_111 : decode cX7_drawn 111 = .ok (.istore 8, 2) := by decide +kernel
theorem dX7_drawn_113 : decode cX7_drawn 113 = .ok (.lload 4, 2) := by decide +kernel
theorem dX7_drawn_115 : decode cX7_drawn 115 = .ok (.ldc2_w 196, 3) := by decide +kernel
theorem dX7_drawn_118 : decode cX7_drawn 118 = .ok (.lrem, 1) := by decide +kernel
theorem dX7_drawn_119 : decode cX7_drawn 119 = .ok (.lconst 0, 1) := by decide +kernel
theorem dX7_drawn_120 : decode cX7_drawn 120 = .ok (.lcmp, 1) := by decide +kernel
theorem dX7_drawn_121 : decode cX7_drawn 121 = .ok (.ifCond .ne 25, 3) := by decide +kernel
theorem dX7_drawn_124 : decode cX7_drawn 124 = .ok (.aload_n 0, 1) := by decide +kernel
theorem dX7_drawn_125 : decode cX7_drawn 125 = .ok (.getfield 41, 3) := by decide +kernel
theorem dX7_drawn_128 : decode cX7_drawn 128 = .ok (.iload 8, 2) := by decide +kernel
theorem dX7_drawn_130 : decode cX7_drawn 130 = .ok (.invokestatic 148, 3) := by decide +kernel
theorem dX7_drawn_133 : decode cX7_drawn 133 = .ok (.ifCond .eq 13, 3) := by decide +kernel
theorem dX7_drawn_136 : decode cX7_drawn 136 = .ok (.aload_n 0, 1) := by decide +kernel
theorem dX7_drawn_137 : decode cX7_drawn 137 = .ok (.getfield 41, 3) := by decide +kernel
theorem dX7_drawn_140 : decode cX7_drawn 140 = .ok (.iconst 2, 1) := by decide +kernel
theorem dX7_drawn_141 : decode cX7_drawn 141 = .ok (.iload 8, 2) := by decide +kernel
theorem dX7_drawn_143 : decode cX7_drawn 143 = .ok (.iadd, 1) := by decide +kernel
theorem dX7_drawn_144 : decode cX7_drawn 144 = .ok (.iconst 0, 1) := by decide +kernel
theorem dX7_drawn_145 : decode cX7_drawn 145 = .ok (.iastore, 1) := by decide +kernel
theorem dX7_drawn_146 : decode cX7_drawn 146 = .ok (.iload 6, 2) := by decide +kernel
theorem dX7_drawn_148 : decode cX7_drawn 148 = .ok (.aload_n 0, 1) := by decide +kernel
theorem dX7_drawn_149 : decode cX7_drawn 149 = .ok (.getfield 41, 3) := by decide +kernel
theorem dX7_drawn_152 : decode cX7_drawn 152 = .ok (.invokestatic 138, 3) := by decide +kernel
theorem dX7_drawn_155 : decode cX7_drawn 155 = .ok (.iadd, 1) := by decide +kernel
theorem dX7_drawn_156 : decode cX7_drawn 156 = .ok (.istore 6, 2) := by decide +kernel
theorem dX7_drawn_158 : decode cX7_drawn 158 = .ok (.iinc 7 1, 3) := by decide +kernel
theorem dX7_drawn_161 : decode cX7_drawn 161 = .ok (.goto (-98), 3) := by decide +kernel
theorem dX7_drawn_164 : decode cX7_drawn 164 = .ok (.iload_n 3, 1) := by decide +kernel
theorem dX7_drawn_165 : decode cX7_drawn 165 = .ok (.ifCond .ne 8, 3) := by decide +kernel
theorem dX7_drawn_168 : decode cX7_drawn 168 = .ok (.iload 6, 2) := by decide +kernel
theorem dX7_drawn_170 : decode cX7_drawn 170 = .ok (.goto 13, 3) := by decide +kernel
theorem dX7_drawn_173 : decode cX7_drawn 173 = .ok (.aload_n 0, 1) := by decide +kernel
theorem dX7_drawn_174 : decode cX7_drawn 174 = .ok (.getfield 41, 3) := by decide +kernel
theorem dX7_drawn_177 : decode cX7_drawn 177 = .ok (.invokestatic 142, 3) := by decide +kernel
theorem dX7_drawn_180 : decode cX7_drawn 180 = .ok (.invokestatic 155, 3) := by decide +kernel
theorem dX7_drawn_183 : decode cX7_drawn 183 = .ok (.ireturn, 1) := by decide +kernel
theorem dX7_image_0 : decode cX7_image 0 = .ok (.iload_n 1, 1) := by decide +kernel
theorem dX7_image_1 : decode cX7_image 1 = .ok (.iconst 0, 1) := by decide +kernel
theorem dX7_image_2 : decode cX7_image 2 = .ok (.iconst 1, 1) := by decide +kernel
theorem dX7_image_3 : decode cX7_image 3 = .ok (.invokestatic 47, 3) := by decide +kernel
theorem dX7_image_6 : decode cX7_image 6 = .ok (.ifCond .ne 6, 3) := by decide +kernel
theorem dX7_image_9 : decode cX7_image 9 = .ok (.ldc 62, 2) := by decide +kernel
theorem dX7_image_11 : decode cX7_image 11 = .ok (.ireturn, 1) := by decide +kernel
theorem dX7_image_12 : decode cX7_image 12 = .ok (.aload_n 0, 1) := by decide +kernel
theorem dX7_image_13 : decode cX7_image 13 = .ok (.invokevirtual 131, 3) := by decide +kernel
theorem dX7_image_16 : decode cX7_image 16 = .ok (.ifCond .ne 6, 3) := by decide +kernel
theorem dX7_image_19 : decode cX7_image 19 = .ok (.ldc 134, 2) := by decide +kernel
theorem dX7_image_21 : decode cX7_image 21 = .ok (.ireturn, 1) := by decide +kernel
theorem dX7_image_22 : decode cX7_image 22 = .ok (.iconst 0, 1) := by decide +kernel
theorem dX7_image_23 : decode cX7_image 23 = .ok (.istore_n 2, 1) := by decide +kernel
theorem dX7_image_24 : decode cX7_image 24 = .ok (.iload_n 2, 1) := by decide +kernel
theorem dX7_image_25 : decode cX7_image 25 = .ok (.bipush 63, 2) := by decide +kernel
theorem dX7_image_27 : decode cX7_image 27 = .ok (.if_icmp .ge 26, 3) := by decide +kernel
theorem dX7_image_30 : decode cX7_image 30 = .ok (.aload_n 0, 1) := by decide +kernel
theorem dX7_image_31 : decode cX7_image 31 = .ok (.getfield 31, 3) := by decide +kernel
theorem dX7_image_34 : decode cX7_image 34 = .ok (.bipush 63, 2) := by decide +kernel
theorem dX7_image_36 : decode cX7_image 36 = .ok (.iload_n 1, 1) := by decide +kernel
theorem dX7_image_37 : decode cX7_image 37 = .ok (.imul, 1) := by decide +kernel
theorem dX7_image_38 : decode cX7_image 38 = .ok (.iload_n 2, 1) := by decide +kernel
theorem dX7_image_39 : decode cX7_image 39 = .ok (.iadd, 1) := by decide +kernel
theorem dX7_image_40 : decode cX7_image 40 = .ok (.aload_n 0, 1) := by decide +kernel
theorem dX7_image_41 : decode cX7_image 41 = .ok (.getfield 25, 3) := by decide +kernel
theorem dX7_image_44 : decode cX7_image 44 = .ok (.iload_n 2, 1) := by decide +kernel
theorem dX7_image_45 : decode cX7_image 45 = .ok (.iaload, 1) := by decide +kernel
theorem dX7_image_46 : decode cX7_image 46 = .ok (.iastore, 1) := by decide +kernel
theorem dX7_image_47 : decode cX7_image 47 = .ok (.iinc 2 1, 3) := by decide +kernel
theorem dX7_image_50 : decode cX7_image 50 = .ok (.goto (-26), 3) := by decide +kernel
theorem dX7_image_53 : decode cX7_image 53 = .ok (.aload_n 0, 1) := by decide +kernel
theorem dX7_image_54 : decode cX7_image 54 = .ok (.getfield 34, 3) := by decide +kernel
theorem dX7_image_57 : decode cX7_image 57 = .ok (.iload_n 1, 1) := by decide +kernel
theorem dX7_image_58 : decode cX7_image 58 = .ok (.iconst 1, 1) := by decide +kernel
theorem dX7_image_59 : decode cX7_image 59 = .ok (.bastore, 1) := by decide +kernel
theorem dX7_image_60 : decode cX7_image 60 = .ok (.iconst 1, 1) := by decide +kernel
theorem dX7_image_61 : decode cX7_image 61 = .ok (.ireturn, 1) := by decide +kernel
theorem dX7_restore_0 : decode cX7_restore 0 = .ok (.iload_n 1, 1) := by decide +kernel
theorem dX7_restore_1 : decode cX7_restore 1 = .ok (.iconst 0, 1) := by decide +kernel
theorem dX7_restore_2 : decode cX7_restore 2 = .ok (.iconst 1, 1) := by decide +kernel
theorem dX7_restore_3 : decode cX7_restore 3 = .ok (.invokestatic 47, 3) := by decide +kernel
theorem dX7_restore_6 : decode cX7_restore 6 = .ok (.ifCond .ne 6, 3) := by decide +kernel
theorem dX7_restore_9 : decode cX7_restore 9 = .ok (.ldc 62, 2) := by decide +kernel
theorem dX7_restore_11 : decode cX7_restore 11 = .ok (.ireturn, 1) := by decide +kernel
theorem dX7_restore_12 : decode cX7_restore 12 = .ok (.aload_n 0, 1) := by decide +kernel
theorem dX7_restore_13 : decode cX7_restore 13 = .ok (.getfield 34, 3) := by decide +kernel
theorem dX7_restore_16 : decode cX7_restore 16 = .ok (.iload_n 1, 1) := by decide +kernel
theorem dX7_restore_17 : decode cX7_restore 17 = .ok (.baload, 1) := by decide +kernel
theorem dX7_restore_18 : decode cX7_restore 18 = .ok (.ifCond .ne 6, 3) := by decide +kernel
theorem dX7_restore_21 : decode cX7_restore 21 = .ok (.ldc 134, 2) := by decide +kernel
theorem dX7_restore_23 : decode cX7_restore 23 = .ok (.ireturn, 1) := by decide +kernel
theorem dX7_restore_24 : decode cX7_restore 24 = .ok (.iconst 0, 1) := by decide +kernel
theorem dX7_restore_25 : decode cX7_restore 25 = .ok (.istore_n 2, 1) := by decide +kernel
theorem dX7_restore_26 : decode cX7_restore 26 = .ok (.iload_n 2, 1) := by decide +kernel
theorem dX7_restore_27 : decode cX7_restore 27 = .ok (.bipush 63, 2) := by decide +kernel
theorem dX7_restore_29 : decode cX7_restore 29 = .ok (.if_icmp .ge 26, 3) := by decide +kernel
theorem dX7_restore_32 : decode cX7_restore 32 = .ok (.aload_n 0, 1) := by decide +kernel
theorem dX7_restore_33 : decode cX7_restore 33 = .ok (.getfield 25, 3) := by decide +kernel
theorem dX7_restore_36 : decode cX7_restore 36 = .ok (.iload_n 2, 1) := by decide +kernel
theorem dX7_restore_37 : decode cX7_restore 37 = .ok (.aload_n 0, 1) := by decide +kernel
theorem dX7_restore_38 : decode cX7_restore 38 = .ok (.getfield 31, 3) := by decide +kernel
theorem dX7_restore_41 : decode cX7_restore 41 = .ok (.bipush 63, 2) := by decide +kernel
theorem dX7_restore_43 : decode cX7_restore 43 = .ok (.iload_n 1, 1) := by decide +kernel
theorem dX7_restore_44 : decode cX7_restore 44 = .ok (.imul, 1) := by decide +kernel
theorem dX7_restore_45 : decode cX7_restore 45 = .ok (.iload_n 2, 1) := by decide +kernel
theorem dX7_restore_46 : decode cX7_restore 46 = .ok (.iadd, 1) := by decide +kernel
theorem dX7_restore_47 : decode cX7_restore 47 = .ok (.iaload, 1) := by decide +kernel
theorem dX7_restore_48 : decode cX7_restore 48 = .ok (.iastore, 1) := by decide +kernel
theorem dX7_restore_49 : decode cX7_restore 49 = .ok (.iinc 2 1, 3) := by decide +kernel
theorem dX7_restore_52 : decode cX7_restore 52 = .ok (.goto (-26), 3) := by decide +kernel
theorem dX7_restore_55 : decode cX7_restore 55 = .ok (.aload_n 0, 1) := by decide +kernel
theorem dX7_restore_56 : decode cX7_restore 56 = .ok (.iconst 0, 1) := by decide +kernel
theorem dX7_restore_57 : decode cX7_restore 57 = .ok (.putfield 109, 3) := by decide +kernel
theorem dX7_restore_60 : decode cX7_restore 60 = .ok (.iconst 1, 1) := by decide +kernel
theorem dX7_restore_61 : decode cX7_restore 61 = .ok (.ireturn, 1) := by decide +kernel
theorem dX7_kind_0 : decode cX7_kind 0 = .ok (.aload_n 0, 1) := by decide +kernel
theorem dX7_kind_1 : decode cX7_kind 1 = .ok (.iload_n 1, 1) := by decide +kernel
theorem dX7_kind_2 : decode cX7_kind 2 = .ok (.invokevirtual 145, 3) := by decide +kernel
theorem dX7_kind_5 : decode cX7_kind 5 = .ok (.ifCond .eq 15, 3) := by decide +kernel
theorem dX7_kind_8 : decode cX7_kind 8 = .ok (.aload_n 0, 1) := by decide +kernel
theorem dX7_kind_9 : decode cX7_kind 9 = .ok (.getfield 25, 3) := by decide +kernel
theorem dX7_kind_12 : decode cX7_kind 12 = .ok (.bipush 55, 2) := by decide +kernel
theorem dX7_kind_14 : decode cX7_kind 14 = .ok (.iload_n 1, 1) := by decide +kernel
theorem dX7_kind_15 : decode cX7_kind 15 = .ok (.iadd, 1) := by decide +kernel
theorem dX7_kind_16 : decode cX7_kind 16 = .ok (.iaload, 1) := by decide +kernel
theorem dX7_kind_17 : decode cX7_kind 17 = .ok (.goto 5, 3) := by decide +kernel
theorem dX7_kind_20 : decode cX7_kind 20 = .ok (.ldc 62, 2) := by decide +kernel
theorem dX7_kind_22 : decode cX7_kind 22 = .ok (.ireturn, 1) := by decide +kernel
theorem dX7_as_0 : decode cX7_as 0 = .ok (.aload_n 0, 1) := by decide +kernel
theorem dX7_as_1 : decode cX7_as 1 = .ok (.iload_n 1, 1) := by decide +kernel
theorem dX7_as_2 : decode cX7_as 2 = .ok (.invokevirtual 145, 3) := by decide +kernel
theorem dX7_as_5 : decode cX7_as 5 = .ok (.ifCond .eq 12, 3) := by decide +kernel
theorem dX7_as_8 : decode cX7_as 8 = .ok (.iload_n 2, 1) := by decide +kernel
theorem dX7_as_9 : decode cX7_as 9 = .ok (.iconst 0, 1) := by decide +kernel
theorem dX7_as_10 : decode cX7_as 10 = .ok (.iconst 5, 1) := by decide +kernel
theorem dX7_as_11 : decode cX7_as 11 = .ok (.invokestatic 47, 3) := by decide +kernel
theorem dX7_as_14 : decode cX7_as 14 = .ok (.ifCond .ne 6, 3) := by decide +kernel
theorem dX7_as_17 : decode cX7_as 17 = .ok (.ldc 62, 2) := by decide +kernel
theorem dX7_as_19 : decode cX7_as 19 = .ok (.ireturn, 1) := by decide +kernel
theorem dX7_as_20 : decode cX7_as 20 = .ok (.aload_n 0, 1) := by decide +kernel
theorem dX7_as_21 : decode cX7_as 21 = .ok (.getfield 25, 3) := by decide +kernel
theorem dX7_as_24 : decode cX7_as 24 = .ok (.bipush 55, 2) := by decide +kernel
theorem dX7_as_26 : decode cX7_as 26 = .ok (.iload_n 1, 1) := by decide +kernel
theorem dX7_as_27 : decode cX7_as 27 = .ok (.iadd, 1) := by decide +kernel
theorem dX7_as_28 : decode cX7_as 28 = .ok (.iaload, 1) := by decide +kernel
theorem dX7_as_29 : decode cX7_as 29 = .ok (.istore_n 3, 1) := by decide +kernel
theorem dX7_as_30 : decode cX7_as 30 = .ok (.iload_n 2, 1) := by decide +kernel
theorem dX7_as_31 : decode cX7_as 31 = .ok (.ifCond .eq 28, 3) := by decide +kernel
theorem dX7_as_34 : decode cX7_as 34 = .ok (.iload_n 2, 1) := by decide +kernel
theorem dX7_as_35 : decode cX7_as 35 = .ok (.iload_n 3, 1) := by decide +kernel
theorem dX7_as_36 : decode cX7_as 36 = .ok (.if_icmp .eq 23, 3) := by decide +kernel
theorem dX7_as_39 : decode cX7_as 39 = .ok (.iload_n 2, 1) := by decide +kernel
theorem dX7_as_40 : decode cX7_as 40 = .ok (.iconst 1, 1) := by decide +kernel
theorem dX7_as_41 : decode cX7_as 41 = .ok (.if_icmp .ne 8, 3) := by decide +kernel
theorem dX7_as_44 : decode cX7_as 44 = .ok (.iload_n 3, 1) := by decide +kernel
theorem dX7_as_45 : decode cX7_as 45 = .ok (.iconst 4, 1) := by decide +kernel
theorem dX7_as_46 : decode cX7_as 46 = .ok (.if_icmp .lt 13, 3) := by decide +kernel
theorem dX7_as_49 : decode cX7_as 49 = .ok (.iload_n 2, 1) := by decide +kernel
theorem dX7_as_50 : decode cX7_as 50 = .ok (.iconst 4, 1) := by decide +kernel
theorem dX7_as_51 : decode cX7_as 51 = .ok (.if_icmp .ne 12, 3) := by decide +kernel
theorem dX7_as_54 : decode cX7_as 54 = .ok (.iload_n 3, 1) := by decide +kernel
theorem dX7_as_55 : decode cX7_as 55 = .ok (.iconst 5, 1) := by decide +kernel
theorem dX7_as_56 : decode cX7_as 56 = .ok (.if_icmp .ne 7, 3) := by decide +kernel
theorem dX7_as_59 : decode cX7_as 59 = .ok (.iconst 1, 1) := by decide +kernel
theorem dX7_as_60 : decode cX7_as 60 = .ok (.goto 4, 3) := by decide +kernel
theorem dX7_as_63 : decode cX7_as 63 = .ok (.iconst 0, 1) := by decide +kernel
theorem dX7_as_64 : decode cX7_as 64 = .ok (.istore 4, 2) := by decide +kernel
theorem dX7_as_66 : decode cX7_as 66 = .ok (.aload_n 0, 1) := by decide +kernel
theorem dX7_as_67 : decode cX7_as 67 = .ok (.iload 4, 2) := by decide +kernel
theorem dX7_as_69 : decode cX7_as 69 = .ok (.ifCond .eq 7, 3) := by decide +kernel
theorem dX7_as_72 : decode cX7_as 72 = .ok (.iload_n 1, 1) := by decide +kernel
theorem dX7_as_73 : decode cX7_as 73 = .ok (.goto 5, 3) := by decide +kernel
theorem dX7_as_76 : decode cX7_as 76 = .ok (.ldc 198, 2) := by decide +kernel
theorem dX7_as_78 : decode cX7_as 78 = .ok (.invokevirtual 64, 3) := by decide +kernel
theorem dX7_as_81 : decode cX7_as 81 = .ok (.ireturn, 1) := by decide +kernel
theorem dX7_begins_0 : decode cX7_begins 0 = .ok (.aload_n 0, 1) := by decide +kernel
theorem dX7_begins_1 : decode cX7_begins 1 = .ok (.getfield 199, 3) := by decide +kernel
theorem dX7_begins_4 : decode cX7_begins 4 = .ok (.aload_n 0, 1) := by decide +kernel
theorem dX7_begins_5 : decode cX7_begins 5 = .ok (.getfield 44, 3) := by decide +kernel
theorem dX7_begins_8 : decode cX7_begins 8 = .ok (.arraylength, 1) := by decide +kernel
theorem dX7_begins_9 : decode cX7_begins 9 = .ok (.if_icmp .ge 23, 3) := by decide +kernel
theorem dX7_begins_12 : decode cX7_begins 12 = .ok (.aload_n 0, 1) := by decide +kernel
theorem dX7_begins_13 : decode cX7_begins 13 = .ok (.getfield 44, 3) := by decide +kernel
theorem dX7_begins_16 : decode cX7_begins 16 = .ok (.aload_n 0, 1) := by decide +kernel
theorem dX7_begins_17 : decode cX7_begins 17 = .ok (.getfield 199, 3) := by decide +kernel
theorem dX7_begins_20 : decode cX7_begins 20 = .ok (.iload_n 1, 1) := by decide +kernel
theorem dX7_begins_21 : decode cX7_begins 21 = .ok (.iastore, 1) := by decide +kernel
theorem dX7_begins_22 : decode cX7_begins 22 = .ok (.aload_n 0, 1) := by decide +kernel
theorem dX7_begins_23 : decode cX7_begins 23 = .ok (.dup, 1) := by decide +kernel
theorem dX7_begins_24 : decode cX7_begins 24 = .ok (.getfield 199, 3) := by decide +kernel
theorem dX7_begins_27 : decode cX7_begins 27 = .ok (.iconst 1, 1) := by decide +kernel
theorem dX7_begins_28 : decode cX7_begins 28 = .ok (.iadd, 1) := by decide +kernel
theorem dX7_begins_29 : decode cX7_begins 29 = .ok (.putfield 199, 3) := by decide +kernel
theorem dX7_begins_32 : decode cX7_begins 32 = .ok (.return_, 1) := by decide +kernel
theorem dX7_size_0 : decode cX7_size 0 = .ok (.aload_n 0, 1) := by decide +kernel
theorem dX7_size_1 : decode cX7_size 1 = .ok (.getfield 25, 3) := by decide +kernel
theorem dX7_size_4 : decode cX7_size 4 = .ok (.bipush 55, 2) := by decide +kernel
theorem dX7_size_6 : decode cX7_size 6 = .ok (.iload_n 1, 1) := by decide +kernel
theorem dX7_size_7 : decode cX7_size 7 = .ok (.iadd, 1) := by decide +kernel
theorem dX7_size_8 : decode cX7_size 8 = .ok (.iaload, 1) := by decide +kernel
theorem dX7_size_9 : decode cX7_size 9 = .ok (.istore_n 2, 1) := by decide +kernel
theorem dX7_size_10 : decode cX7_size 10 = .ok (.aload_n 0, 1) := by decide +kernel
theorem dX7_size_11 : decode cX7_size 11 = .ok (.getfield 25, 3) := by decide +kernel
theorem dX7_size_14 : decode cX7_size 14 = .ok (.bipush 47, 2) := by decide +kernel
theorem dX7_size_16 : decode cX7_size 16 = .ok (.iload_n 1, 1) := by decide +kernel
theorem dX7_size_17 : decode cX7_size 17 = .ok (.iadd, 1) := by decide +kernel
theorem dX7_size_18 : decode cX7_size 18 = .ok (.iaload, 1) := by decide +kernel
theorem dX7_size_19 : decode cX7_size 19 = .ok (.istore_n 3, 1) := by decide +kernel
theorem dX7_size_20 : decode cX7_size 20 = .ok (.iload_n 2, 1) := by decide +kernel
theorem dX7_size_21 : decode cX7_size 21 = .ok (.iconst 5, 1) := by decide +kernel
theorem dX7_size_22 : decode cX7_size 22 = .ok (.if_icmp .ne 9, 3) := by decide +kernel
theorem dX7_size_25 : decode cX7_size 25 = .ok (.aload_n 0, 1) := by decide +kernel
theorem dX7_size_26 : decode cX7_size 26 = .ok (.bipush 14, 2) := by decide +kernel
theorem dX7_size_28 : decode cX7_size 28 = .ok (.invokevirtual 202, 3) := by decide +kernel
theorem dX7_size_31 : decode cX7_size 31 = .ok (.iload_n 2, 1) := by decide +kernel
theorem dX7_size_32 : decode cX7_size 32 = .ok (.iconst 4, 1) := by decide +kernel
theorem dX7_size_33 : decode cX7_size 33 = .ok (.if_icmp .lt 34, 3) := by decide +kernel
theorem dX7_size_36 : decode cX7_size 36 = .ok (.aload_n 0, 1) := by decide +kernel
theorem dX7_size_37 : decode cX7_size 37 = .ok (.bipush 13, 2) := by decide +kernel
theorem dX7_size_39 : decode cX7_size 39 = .ok (.invokevirtual 202, 3) := by decide +kernel
theorem dX7_size_42 : decode cX7_size 42 = .ok (.aload_n 0, 1) := by decide +kernel
theorem dX7_size_43 : decode cX7_size 43 = .ok (.bipush 10, 2) := by decide +kernel
theorem dX7_size_45 : decode cX7_size 45 = .ok (.invokevirtual 202, 3) := by decide +kernel
theorem dX7_size_48 : decode cX7_size 48 = .ok (.iload_n 2, 1) := by decide +kernel
theorem dX7_size_49 : decode cX7_size 49 = .ok (.iconst 5, 1) := by decide +kernel
theorem dX7_size_50 : decode cX7_size 50 = .ok (.if_icmp .ne 12, 3) := by decide +kernel
theorem dX7_size_53 : decode cX7_size 53 = .ok (.iconst 2, 1) := by decide +kernel
theorem dX7_size_54 : decode cX7_size 54 = .ok (.iload_n 3, 1) := by decide +kernel
theorem dX7_size_55 : decode cX7_size 55 = .ok (.bipush 100, 2) := by decide +kernel
theorem dX7_size_57 : decode cX7_size 57 = .ok (.isub, 1) := by decide +kernel
theorem dX7_size_58 : decode cX7_size 58 = .ok (.imul, 1) := by decide +kernel
theorem dX7_size_59 : decode cX7_size 59 = .ok (.goto 7, 3) := by decide +kernel
theorem dX7_size_62 : decode cX7_size 62 = .ok (.iload_n 3, 1) := by decide +kernel
theorem dX7_size_63 : decode cX7_size 63 = .ok (.bipush 100, 2) := by decide +kernel
theorem dX7_size_65 : decode cX7_size 65 = .ok (.isub, 1) := by decide +kernel
theorem dX7_size_66 : decode cX7_size 66 = .ok (.ireturn, 1) := by decide +kernel
theorem dX7_size_67 : decode cX7_size 67 = .ok (.iload_n 2, 1) := by decide +kernel
theorem dX7_size_68 : decode cX7_size 68 = .ok (.iconst 2, 1) := by decide +kernel
theorem dX7_size_69 : decode cX7_size 69 = .ok (.if_icmp .ne 9, 3) := by decide +kernel
theorem dX7_size_72 : decode cX7_size 72 = .ok (.aload_n 0, 1) := by decide +kernel
theorem dX7_size_73 : decode cX7_size 73 = .ok (.bipush 12, 2) := by decide +kernel
theorem dX7_size_75 : decode cX7_size 75 = .ok (.invokevirtual 202, 3) := by decide +kernel
theorem dX7_size_78 : decode cX7_size 78 = .ok (.aload_n 0, 1) := by decide +kernel
theorem dX7_size_79 : decode cX7_size 79 = .ok (.bipush 11, 2) := by decide +kernel
theorem dX7_size_81 : decode cX7_size 81 = .ok (.invokevirtual 202, 3) := by decide +kernel
theorem dX7_size_84 : decode cX7_size 84 = .ok (.aload_n 0, 1) := by decide +kernel
theorem dX7_size_85 : decode cX7_size 85 = .ok (.bipush 10, 2) := by decide +kernel
theorem dX7_size_87 : decode cX7_size 87 = .ok (.invokevirtual 202, 3) := by decide +kernel
theorem dX7_size_90 : decode cX7_size 90 = .ok (.iload_n 3, 1) := by decide +kernel
theorem dX7_size_91 : decode cX7_size 91 = .ok (.aload_n 0, 1) := by decide +kernel
theorem dX7_size_92 : decode cX7_size 92 = .ok (.iload_n 1, 1) := by decide +kernel
theorem dX7_size_93 : decode cX7_size 93 = .ok (.invokevirtual 205, 3) := by decide +kernel
theorem dX7_size_96 : decode cX7_size 96 = .ok (.iadd, 1) := by decide +kernel
theorem dX7_size_97 : decode cX7_size 97 = .ok (.istore 4, 2) := by decide +kernel
theorem dX7_size_99 : decode cX7_size 99 = .ok (.iload_n 2, 1) := by decide +kernel
theorem dX7_size_100 : decode cX7_size 100 = .ok (.iconst 2, 1) := by decide +kernel
theorem dX7_size_101 : decode cX7_size 101 = .ok (.if_icmp .ne 9, 3) := by decide +kernel
theorem dX7_size_104 : decode cX7_size 104 = .ok (.iload 4, 2) := by decide +kernel
theorem dX7_size_106 : decode cX7_size 106 = .ok (.ineg, 1) := by decide +kernel
theorem dX7_size_107 : decode cX7_size 107 = .ok (.goto 5, 3) := by decide +kernel
theorem dX7_size_110 : decode cX7_size 110 = .ok (.iload 4, 2) := by decide +kernel
theorem dX7_size_112 : decode cX7_size 112 = .ok (.ireturn, 1) := by decide +kernel
theorem dX7_plain_0 : decode cX7_plain 0 = .ok (.aload_n 0, 1) := by decide +kernel
theorem dX7_plain_1 : decode cX7_plain 1 = .ok (.getfield 25, 3) := by decide +kernel
theorem dX7_plain_4 : decode cX7_plain 4 = .ok (.bipush 55, 2) := by decide +kernel
theorem dX7_plain_6 : decode cX7_plain 6 = .ok (.iload_n 1, 1) := by decide +kernel
theorem dX7_plain_7 : decode cX7_plain 7 = .ok (.iadd, 1) := by decide +kernel
theorem dX7_plain_8 : decode cX7_plain 8 = .ok (.iaload, 1) := by decide +kernel
theorem dX7_plain_9 : decode cX7_plain 9 = .ok (.istore_n 2, 1) := by decide +kernel
theorem dX7_plain_10 : decode cX7_plain 10 = .ok (.iload_n 2, 1) := by decide +kernel
theorem dX7_plain_11 : decode cX7_plain 11 = .ok (.iconst 1, 1) := by decide +kernel
theorem dX7_plain_12 : decode cX7_plain 12 = .ok (.if_icmp .eq 19, 3) := by decide +kernel
theorem dX7_plain_15 : decode cX7_plain 15 = .ok (.aload_n 0, 1) := by decide +kernel
theorem dX7_plain_16 : decode cX7_plain 16 = .ok (.iload_n 2, 1) := by decide +kernel
theorem dX7_plain_17 : decode cX7_plain 17 = .ok (.iconst 2, 1) := by decide +kernel
theorem dX7_plain_18 : decode cX7_plain 18 = .ok (.if_icmp .ne 8, 3) := by decide +kernel
theorem dX7_plain_21 : decode cX7_plain 21 = .ok (.bipush 24, 2) := by decide +kernel
theorem dX7_plain_23 : decode cX7_plain 23 = .ok (.goto 5, 3) := by decide +kernel
theorem dX7_plain_26 : decode cX7_plain 26 = .ok (.bipush 22, 2) := by decide +kernel
theorem dX7_plain_28 : decode cX7_plain 28 = .ok (.invokevirtual 202, 3) := by decide +kernel
theorem dX7_plain_31 : decode cX7_plain 31 = .ok (.aload_n 0, 1) := by decide +kernel
theorem dX7_plain_32 : decode cX7_plain 32 = .ok (.bipush 21, 2) := by decide +kernel
theorem dX7_plain_34 : decode cX7_plain 34 = .ok (.invokevirtual 202, 3) := by decide +kernel
theorem dX7_plain_37 : decode cX7_plain 37 = .ok (.aload_n 0, 1) := by decide +kernel
theorem dX7_plain_38 : decode cX7_plain 38 = .ok (.bipush 20, 2) := by decide +kernel
theorem dX7_plain_40 : decode cX7_plain 40 = .ok (.invokevirtual 202, 3) := by decide +kernel
theorem dX7_plain_43 : decode cX7_plain 43 = .ok (.iload_n 1, 1) := by decide +kernel
theorem dX7_plain_44 : decode cX7_plain 44 = .ok (.aload_n 0, 1) := by decide +kernel
theorem dX7_plain_45 : decode cX7_plain 45 = .ok (.getfield 25, 3) := by decide +kernel
theorem dX7_plain_48 : decode cX7_plain 48 = .ok (.iload_n 1, 1) := by decide +kernel
theorem dX7_plain_49 : decode cX7_plain 49 = .ok (.invokestatic 116, 3) := by decide +kernel
theorem dX7_plain_52 : decode cX7_plain 52 = .ok (.iadd, 1) := by decide +kernel
theorem dX7_plain_53 : decode cX7_plain 53 = .ok (.istore_n 3, 1) := by decide +kernel
theorem dX7_plain_54 : decode cX7_plain 54 = .ok (.iload_n 2, 1) := by decide +kernel
theorem dX7_plain_55 : decode cX7_plain 55 = .ok (.iconst 2, 1) := by decide +kernel
theorem dX7_plain_56 : decode cX7_plain 56 = .ok (.if_icmp .ne 9, 3) := by decide +kernel
theorem dX7_plain_59 : decode cX7_plain 59 = .ok (.iconst 2, 1) := by decide +kernel
theorem dX7_plain_60 : decode cX7_plain 60 = .ok (.iload_n 3, 1) := by decide +kernel
theorem dX7_plain_61 : decode cX7_plain 61 = .ok (.imul, 1) := by decide +kernel
theorem dX7_plain_62 : decode cX7_plain 62 = .ok (.goto 17, 3) := by decide +kernel
theorem dX7_plain_65 : decode cX7_plain 65 = .ok (.iload_n 2, 1) := by decide +kernel
theorem dX7_plain_66 : decode cX7_plain 66 = .ok (.iconst 3, 1) := by decide +kernel
theorem dX7_plain_67 : decode cX7_plain 67 = .ok (.if_icmp .ne 11, 3) := by decide +kernel
theorem dX7_plain_70 : decode cX7_plain 70 = .ok (.iload_n 3, 1) := by decide +kernel
theorem dX7_plain_71 : decode cX7_plain 71 = .ok (.sipush 1000, 3) := by decide +kernel
theorem dX7_plain_74 : decode cX7_plain 74 = .ok (.isub, 1) := by decide +kernel
theorem dX7_plain_75 : decode cX7_plain 75 = .ok (.goto 4, 3) := by decide +kernel
theorem dX7_plain_78 : decode cX7_plain 78 = .ok (.iload_n 3, 1) := by decide +kernel
theorem dX7_plain_79 : decode cX7_plain 79 = .ok (.ireturn, 1) := by decide +kernel
theorem dX7_ask_0 : decode cX7_ask 0 = .ok (.aload_n 0, 1) := by decide +kernel
theorem dX7_ask_1 : decode cX7_ask 1 = .ok (.iload_n 1, 1) := by decide +kernel
theorem dX7_ask_2 : decode cX7_ask 2 = .ok (.invokevirtual 145, 3) := by decide +kernel
theorem dX7_ask_5 : decode cX7_ask 5 = .ok (.ifCond .eq 12, 3) := by decide +kernel
theorem dX7_ask_8 : decode cX7_ask 8 = .ok (.iload_n 2, 1) := by decide +kernel
theorem dX7_ask_9 : decode cX7_ask 9 = .ok (.iconst 0, 1) := by decide +kernel
theorem dX7_ask_10 : decode cX7_ask 10 = .ok (.iconst 1, 1) := by decide +kernel
theorem dX7_ask_11 : decode cX7_ask 11 = .ok (.invokestatic 47, 3) := by decide +kernel
theorem dX7_ask_14 : decode cX7_ask 14 = .ok (.ifCond .ne 6, 3) := by decide +kernel
theorem dX7_ask_17 : decode cX7_ask 17 = .ok (.ldc 62, 2) := by decide +kernel
theorem dX7_ask_19 : decode cX7_ask 19 = .ok (.ireturn, 1) := by decide +kernel
theorem dX7_ask_20 : decode cX7_ask 20 = .ok (.aload_n 0, 1) := by decide +kernel
theorem dX7_ask_21 : decode cX7_ask 21 = .ok (.iconst 0, 1) := by decide +kernel
theorem dX7_ask_22 : decode cX7_ask 22 = .ok (.putfield 199, 3) := by decide +kernel
theorem dX7_ask_25 : decode cX7_ask 25 = .ok (.iload_n 2, 1) := by decide +kernel
theorem dX7_ask_26 : decode cX7_ask 26 = .ok (.ifCond .ne 9, 3) := by decide +kernel
theorem dX7_ask_29 : decode cX7_ask 29 = .ok (.aload_n 0, 1) := by decide +kernel
theorem dX7_ask_30 : decode cX7_ask 30 = .ok (.iload_n 1, 1) := by decide +kernel
theorem dX7_ask_31 : decode cX7_ask 31 = .ok (.invokevirtual 208, 3) := by decide +kernel
theorem dX7_ask_34 : decode cX7_ask 34 = .ok (.ireturn, 1) := by decide +kernel
theorem dX7_ask_35 : decode cX7_ask 35 = .ok (.aload_n 0, 1) := by decide +kernel
theorem dX7_ask_36 : decode cX7_ask 36 = .ok (.getfield 25, 3) := by decide +kernel
theorem dX7_ask_39 : decode cX7_ask 39 = .ok (.bipush 55, 2) := by decide +kernel
theorem dX7_ask_41 : decode cX7_ask 41 = .ok (.iload_n 1, 1) := by decide +kernel
theorem dX7_ask_42 : decode cX7_ask 42 = .ok (.iadd, 1) := by decide +kernel
theorem dX7_ask_43 : decode cX7_ask 43 = .ok (.iaload, 1) := by decide +kernel
theorem dX7_ask_44 : decode cX7_ask 44 = .ok (.iconst 4, 1) := by decide +kernel
theorem dX7_ask_45 : decode cX7_ask 45 = .ok (.if_icmp .ge 9, 3) := by decide +kernel
theorem dX7_ask_48 : decode cX7_ask 48 = .ok (.aload_n 0, 1) := by decide +kernel
theorem dX7_ask_49 : decode cX7_ask 49 = .ok (.iload_n 1, 1) := by decide +kernel
theorem dX7_ask_50 : decode cX7_ask 50 = .ok (.invokevirtual 205, 3) := by decide +kernel
theorem dX7_ask_53 : decode cX7_ask 53 = .ok (.ireturn, 1) := by decide +kernel
theorem dX7_ask_54 : decode cX7_ask 54 = .ok (.aload_n 0, 1) := by decide +kernel
theorem dX7_ask_55 : decode cX7_ask 55 = .ok (.bipush 23, 2) := by decide +kernel
theorem dX7_ask_57 : decode cX7_ask 57 = .ok (.invokevirtual 202, 3) := by decide +kernel
theorem dX7_ask_60 : decode cX7_ask 60 = .ok (.aload_n 0, 1) := by decide +kernel
theorem dX7_ask_61 : decode cX7_ask 61 = .ok (.bipush 20, 2) := by decide +kernel
theorem dX7_ask_63 : decode cX7_ask 63 = .ok (.invokevirtual 202, 3) := by decide +kernel
theorem dX7_ask_66 : decode cX7_ask 66 = .ok (.iload_n 1, 1) := by decide +kernel
theorem dX7_ask_67 : decode cX7_ask 67 = .ok (.aload_n 0, 1) := by decide +kernel
theorem dX7_ask_68 : decode cX7_ask 68 = .ok (.iload_n 1, 1) := by decide +kernel
theorem dX7_ask_69 : decode cX7_ask 69 = .ok (.invokevirtual 208, 3) := by decide +kernel
theorem dX7_ask_72 : decode cX7_ask 72 = .ok (.isub, 1) := by decide +kernel
theorem dX7_ask_73 : decode cX7_ask 73 = .ok (.ireturn, 1) := by decide +kernel
theorem dX7_trace_0 : decode cX7_trace 0 = .ok (.iload_n 1, 1) := by decide +kernel
theorem dX7_trace_1 : decode cX7_trace 1 = .ok (.iconst 0, 1) := by decide +kernel
theorem dX7_trace_2 : decode cX7_trace 2 = .ok (.aload_n 0, 1) := by decide +kernel
theorem dX7_trace_3 : decode cX7_trace 3 = .ok (.getfield 199, 3) := by decide +kernel
theorem dX7_trace_6 : decode cX7_trace 6 = .ok (.iconst 1, 1) := by decide +kernel
theorem dX7_trace_7 : decode cX7_trace 7 = .ok (.isub, 1) := by decide +kernel
theorem dX7_trace_8 : decode cX7_trace 8 = .ok (.invokestatic 47, 3) := by decide +kernel
theorem dX7_trace_11 : decode cX7_trace 11 = .ok (.ifCond .eq 12, 3) := by decide +kernel
theorem dX7_trace_14 : decode cX7_trace 14 = .ok (.aload_n 0, 1) := by decide +kernel
theorem dX7_trace_15 : decode cX7_trace 15 = .ok (.getfield 44, 3) := by decide +kernel
theorem dX7_trace_18 : decode cX7_trace 18 = .ok (.iload_n 1, 1) := by decide +kernel
theorem dX7_trace_19 : decode cX7_trace 19 = .ok (.iaload, 1) := by decide +kernel
theorem dX7_trace_20 : decode cX7_trace 20 = .ok (.goto 5, 3) := by decide +kernel
theorem dX7_trace_23 : decode cX7_trace 23 = .ok (.ldc 166, 2) := by decide +kernel
theorem dX7_trace_25 : decode cX7_trace 25 = .ok (.ireturn, 1) := by decide +kernel
theorem dX7_count_0 : decode cX7_count 0 = .ok (.iconst 0, 1) := by decide +kernel
theorem dX7_count_1 : decode cX7_count 1 = .ok (.istore_n 2, 1) := by decide +kernel
theorem dX7_count_2 : decode cX7_count 2 = .ok (.iload_n 1, 1) := by decide +kernel
theorem dX7_count_3 : decode cX7_count 3 = .ok (.tableswitch 166 0 8 #[49, 82, 90, 97, 104, 112, 120, 156, 161], 49) := by decide +kernel
theorem dX7_count_52 : decode cX7_count 52 = .ok (.iconst 0, 1) := by decide +kernel
theorem dX7_count_53 : decode cX7_count 53 = .ok (.istore_n 3, 1) := by decide +kernel
theorem dX7_count_54 : decode cX7_count 54 = .ok (.iload_n 3, 1) := by decide +kernel
theorem dX7_count_55 : decode cX7_count 55 = .ok (.bipush 8, 2) := by decide +kernel
theorem dX7_count_57 : decode cX7_count 57 = .ok (.if_icmp .ge 26, 3) := by decide +kernel
theorem dX7_count_60 : decode cX7_count 60 = .ok (.iload_n 2, 1) := by decide +kernel
theorem dX7_count_61 : decode cX7_count 61 = .ok (.aload_n 0, 1) := by decide +kernel
theorem dX7_count_62 : decode cX7_count 62 = .ok (.getfield 7, 3) := by decide +kernel
theorem dX7_count_65 : decode cX7_count 65 = .ok (.iload_n 3, 1) := by decide +kernel
theorem dX7_count_66 : decode cX7_count 66 = .ok (.iaload, 1) := by decide +kernel
theorem dX7_count_67 : decode cX7_count 67 = .ok (.ifCond .ge 7, 3) := by decide +kernel
theorem dX7_count_70 : decode cX7_count 70 = .ok (.iconst 0, 1) := by decide +kernel
theorem dX7_count_71 : decode cX7_count 71 = .ok (.goto 4, 3) := by decide +kernel
theorem dX7_count_74 : decode cX7_count 74 = .ok (.iconst 1, 1) := by decide +kernel
theorem dX7_count_75 : decode cX7_count 75 = .ok (.iadd, 1) := by decide +kernel
theorem dX7_count_76 : decode cX7_count 76 = .ok (.istore_n 2, 1) := by decide +kernel
theorem dX7_count_77 : decode cX7_count 77 = .ok (.iinc 3 1, 3) := by decide +kernel
theorem dX7_count_80 : decode cX7_count 80 = .ok (.goto (-26), 3) := by decide +kernel
theorem dX7_count_83 : decode cX7_count 83 = .ok (.iload_n 2, 1) := by decide +kernel
theorem dX7_count_84 : decode cX7_count 84 = .ok (.ireturn, 1) := by decide +kernel
theorem dX7_count_85 : decode cX7_count 85 = .ok (.aload_n 0, 1) := by decide +kernel
theorem dX7_count_86 : decode cX7_count 86 = .ok (.getfield 25, 3) := by decide +kernel
theorem dX7_count_89 : decode cX7_count 89 = .ok (.bipush 46, 2) := by decide +kernel
theorem dX7_count_91 : decode cX7_count 91 = .ok (.iaload, 1) := by decide +kernel
theorem dX7_count_92 : decode cX7_count 92 = .ok (.ireturn, 1) := by decide +kernel
theorem dX7_count_93 : decode cX7_count 93 = .ok (.aload_n 0, 1) := by decide +kernel
theorem dX7_count_94 : decode cX7_count 94 = .ok (.getfield 25, 3) := by decide +kernel
theorem dX7_count_97 : decode cX7_count 97 = .ok (.iconst 0, 1) := by decide +kernel
theorem dX7_count_98 : decode cX7_count 98 = .ok (.iaload, 1) := by decide +kernel
theorem dX7_count_99 : decode cX7_count 99 = .ok (.ireturn, 1) := by decide +kernel
theorem dX7_count_100 : decode cX7_count 100 = .ok (.aload_n 0, 1) := by decide +kernel
theorem dX7_count_101 : decode cX7_count 101 = .ok (.getfield 25, 3) := by decide +kernel
theorem dX7_count_104 : decode cX7_count 104 = .ok (.iconst 1, 1) := by decide +kernel
theorem dX7_count_105 : decode cX7_count 105 = .ok (.iaload, 1) := by decide +kernel
theorem dX7_count_106 : decode cX7_count 106 = .ok (.ireturn, 1) := by decide +kernel
theorem dX7_count_107 : decode cX7_count 107 = .ok (.aload_n 0, 1) := by decide +kernel
theorem dX7_count_108 : decode cX7_count 108 = .ok (.getfield 25, 3) := by decide +kernel
theorem dX7_count_111 : decode cX7_count 111 = .ok (.invokestatic 152, 3) := by decide +kernel
theorem dX7_count_114 : decode cX7_count 114 = .ok (.ireturn, 1) := by decide +kernel
theorem dX7_count_115 : decode cX7_count 115 = .ok (.aload_n 0, 1) := by decide +kernel
theorem dX7_count_116 : decode cX7_count 116 = .ok (.getfield 25, 3) := by decide +kernel
theorem dX7_count_119 : decode cX7_count 119 = .ok (.invokestatic 142, 3) := by decide +kernel
theorem dX7_count_122 : decode cX7_count 122 = .ok (.ireturn, 1) := by decide +kernel
theorem dX7_count_123 : decode cX7_count 123 = .ok (.iconst 0, 1) := by decide +kernel
theorem dX7_count_124 : decode cX7_count 124 = .ok (.istore_n 3, 1) := by decide +kernel
theorem dX7_count_125 : decode cX7_count 125 = .ok (.iload_n 3, 1) := by decide +kernel
theorem dX7_count_126 : decode cX7_count 126 = .ok (.bipush 20, 2) := by decide +kernel
theorem dX7_count_128 : decode cX7_count 128 = .ok (.if_icmp .ge 29, 3) := by decide +kernel
theorem dX7_count_131 : decode cX7_count 131 = .ok (.iload_n 2, 1) := by decide +kernel
theorem dX7_count_132 : decode cX7_count 132 = .ok (.aload_n 0, 1) := by decide +kernel
theorem dX7_count_133 : decode cX7_count 133 = .ok (.getfield 25, 3) := by decide +kernel
theorem dX7_count_136 : decode cX7_count 136 = .ok (.bipush 26, 2) := by decide +kernel
theorem dX7_count_138 : decode cX7_count 138 = .ok (.iload_n 3, 1) := by decide +kernel
theorem dX7_count_139 : decode cX7_count 139 = .ok (.iadd, 1) := by decide +kernel
theorem dX7_count_140 : decode cX7_count 140 = .ok (.iaload, 1) := by decide +kernel
theorem dX7_count_141 : decode cX7_count 141 = .ok (.ifCond .ne 7, 3) := by decide +kernel
theorem dX7_count_144 : decode cX7_count 144 = .ok (.iconst 0, 1) := by decide +kernel
theorem dX7_count_145 : decode cX7_count 145 = .ok (.goto 4, 3) := by decide +kernel
theorem dX7_count_148 : decode cX7_count 148 = .ok (.iconst 1, 1) := by decide +kernel
theorem dX7_count_149 : decode cX7_count 149 = .ok (.iadd, 1) := by decide +kernel
theorem dX7_count_150 : decode cX7_count 150 = .ok (.istore_n 2, 1) := by decide +kernel
theorem dX7_count_151 : decode cX7_count 151 = .ok (.iinc 3 1, 3) := by decide +kernel
theorem dX7_count_154 : decode cX7_count 154 = .ok (.goto (-29), 3) := by decide +kernel
theorem dX7_count_157 : decode cX7_count 157 = .ok (.iload_n 2, 1) := by decide +kernel
theorem dX7_count_158 : decode cX7_count 158 = .ok (.ireturn, 1) := by decide +kernel
theorem dX7_count_159 : decode cX7_count 159 = .ok (.aload_n 0, 1) := by decide +kernel
theorem dX7_count_160 : decode cX7_count 160 = .ok (.getfield 109, 3) := by decide +kernel
theorem dX7_count_163 : decode cX7_count 163 = .ok (.ireturn, 1) := by decide +kernel
theorem dX7_count_164 : decode cX7_count 164 = .ok (.aload_n 0, 1) := by decide +kernel
theorem dX7_count_165 : decode cX7_count 165 = .ok (.getfield 76, 3) := by decide +kernel
theorem dX7_count_168 : decode cX7_count 168 = .ok (.ireturn, 1) := by decide +kernel
theorem dX7_count_169 : decode cX7_count 169 = .ok (.ldc 62, 2) := by decide +kernel
theorem dX7_count_171 : decode cX7_count 171 = .ok (.ireturn, 1) := by decide +kernel
theorem dX7_status_0 : decode cX7_status 0 = .ok (.aload_n 0, 1) := by decide +kernel
theorem dX7_status_1 : decode cX7_status 1 = .ok (.getfield 54, 3) := by decide +kernel
theorem dX7_status_4 : decode cX7_status 4 = .ok (.ireturn, 1) := by decide +kernel
end
section
theorem dL_law_0 : decode cL_law 0 = .ok (.new 7, 3) := by decide +kernel
theorem dL_law_3 : decode cL_law 3 = .ok (.dup, 1) := by decide +kernel
theorem dL_law_4 : decode cL_law 4 = .ok (.invokespecial 9, 3) := by decide +kernel
theorem dL_law_7 : decode cL_law 7 = .ok (.astore_n 1, 1) := by decide +kernel
theorem dL_law_8 : decode cL_law 8 = .ok (.new 10, 3) := by decide +kernel
theorem dL_law_11 : decode cL_law 11 = .ok (.dup, 1) := by decide +kernel
theorem dL_law_12 : decode cL_law 12 = .ok (.invokespecial 12, 3) := by decide +kernel
theorem dL_law_15 : decode cL_law 15 = .ok (.astore_n 2, 1) := by decide +kernel
theorem dL_law_16 : decode cL_law 16 = .ok (.iconst 0, 1) := by decide +kernel
theorem dL_law_17 : decode cL_law 17 = .ok (.istore_n 3, 1) := by decide +kernel
theorem dL_law_18 : decode cL_law 18 = .ok (.iload_n 3, 1) := by decide +kernel
theorem dL_law_19 : decode cL_law 19 = .ok (.aload_n 0, 1) := by decide +kernel
theorem dL_law_20 : decode cL_law 20 = .ok (.arraylength, 1) := by decide +kernel
theorem dL_law_21 : decode cL_law 21 = .ok (.bipush 6, 2) := by decide +kernel
theorem dL_law_23 : decode cL_law 23 = .ok (.isub, 1) := by decide +kernel
theorem dL_law_24 : decode cL_law 24 = .ok (.if_icmp .gt 1104, 3) := by decide +kernel
theorem dL_law_27 : decode cL_law 27 = .ok (.aload_n 0, 1) := by decide +kernel
theorem dL_law_28 : decode cL_law 28 = .ok (.iload_n 3, 1) := by decide +kernel
theorem dL_law_29 : decode cL_law 29 = .ok (.iaload, 1) := by decide +kernel
theorem dL_law_30 : decode cL_law 30 = .ok (.bipush 31, 2) := by decide +kernel
theorem dL_law_32 : decode cL_law 32 = .ok (.iand, 1) := by decide +kernel
theorem dL_law_33 : decode cL_law 33 = .ok (.tableswitch 1089 0 31 #[143, 186, 229, 292, 315, 338, 351, 364, 387, 410, 423, 436, 469, 482, 515, 538, 571, 604, 627, 650, 693, 746, 809, 852, 895, 918, 941, 964, 997, 1030, 1053, 1076], 143) := by decide +kernel
theorem dL_law_176 : decode cL_law 176 = .ok (.aload_n 1, 1) := by decide +kernel
theorem dL_law_177 : decode cL_law 177 = .ok (.aload_n 0, 1) := by decide +kernel
theorem dL_law_178 : decode cL_law 178 = .ok (.iload_n 3, 1) := by decide +kernel
theorem dL_law_179 : decode cL_law 179 = .ok (.iconst 1, 1) := by decide +kernel
theorem dL_law_180 : decode cL_law 180 = .ok (.iadd, 1) := by decide +kernel
theorem dL_law_181 : decode cL_law 181 = .ok (.iaload, 1) := by decide +kernel
theorem dL_law_182 : decode cL_law 182 = .ok (.aload_n 0, 1) := by decide +kernel
theorem dL_law_183 : decode cL_law 183 = .ok (.iload_n 3, 1) := by decide +kernel
theorem dL_law_184 : decode cL_law 184 = .ok (.iconst 2, 1) := by decide +kernel
theorem dL_law_185 : decode cL_law 185 = .ok (.iadd, 1) := by decide +kernel
theorem dL_law_186 : decode cL_law 186 = .ok (.iaload, 1) := by decide +kernel
theorem dL_law_187 : decode cL_law 187 = .ok (.aload_n 0, 1) := by decide +kernel
theorem dL_law_188 : decode cL_law 188 = .ok (.iload_n 3, 1) := by decide +kernel
theorem dL_law_189 : decode cL_law 189 = .ok (.iconst 3, 1) := by decide +kernel
theorem dL_law_190 : decode cL_law 190 = .ok (.iadd, 1) := by decide +kernel
theorem dL_law_191 : decode cL_law 191 = .ok (.iaload, 1) := by decide +kernel
theorem dL_law_192 : decode cL_law 192 = .ok (.invokevirtual 13, 3) := by decide +kernel
theorem dL_law_195 : decode cL_law 195 = .ok (.aload_n 2, 1) := by decide +kernel
theorem dL_law_196 : decode cL_law 196 = .ok (.aload_n 0, 1) := by decide +kernel
theorem dL_law_197 : decode cL_law 197 = .ok (.iload_n 3, 1) := by decide +kernel
theorem dL_law_198 : decode cL_law 198 = .ok (.iconst 1, 1) := by decide +kernel
theorem dL_law_199 : decode cL_law 199 = .ok (.iadd, 1) := by decide +kernel
theorem dL_law_200 : decode cL_law 200 = .ok (.iaload, 1) := by decide +kernel
theorem dL_law_201 : decode cL_law 201 = .ok (.aload_n 0, 1) := by decide +kernel
theorem dL_law_202 : decode cL_law 202 = .ok (.iload_n 3, 1) := by decide +kernel
theorem dL_law_203 : decode cL_law 203 = .ok (.iconst 2, 1) := by decide +kernel
theorem dL_law_204 : decode cL_law 204 = .ok (.iadd, 1) := by decide +kernel
theorem dL_law_205 : decode cL_law 205 = .ok (.iaload, 1) := by decide +kernel
theorem dL_law_206 : decode cL_law 206 = .ok (.aload_n 0, 1) := by decide +kernel
theorem dL_law_207 : decode cL_law 207 = .ok (.iload_n 3, 1) := by decide +kernel
theorem dL_law_208 : decode cL_law 208 = .ok (.iconst 3, 1) := by decide +kernel
theorem dL_law_209 : decode cL_law 209 = .ok (.iadd, 1) := by decide +kernel
theorem dL_law_210 : decode cL_law 210 = .ok (.iaload, 1) := by decide +kernel
theorem dL_law_211 : decode cL_law 211 = .ok (.invokevirtual 17, 3) := by decide +kernel
theorem dL_law_214 : decode cL_law 214 = .ok (.if_icmp .eq 908, 3) := by decide +kernel
theorem dL_law_217 : decode cL_law 217 = .ok (.iconst 0, 1) := by decide +kernel
theorem dL_law_218 : decode cL_law 218 = .ok (.ireturn, 1) := by decide +kernel
theorem dL_law_219 : decode cL_law 219 = .ok (.aload_n 1, 1) := by decide +kernel
theorem dL_law_220 : decode cL_law 220 = .ok (.aload_n 0, 1) := by decide +kernel
theorem dL_law_221 : decode cL_law 221 = .ok (.iload_n 3, 1) := by decide +kernel
theorem dL_law_222 : decode cL_law 222 = .ok (.iconst 1, 1) := by decide +kernel
theorem dL_law_223 : decode cL_law 223 = .ok (.iadd, 1) := by decide +kernel
theorem dL_law_224 : decode cL_law 224 = .ok (.iaload, 1) := by decide +kernel
theorem dL_law_225 : decode cL_law 225 = .ok (.aload_n 0, 1) := by decide +kernel
theorem dL_law_226 : decode cL_law 226 = .ok (.iload_n 3, 1) := by decide +kernel
theorem dL_law_227 : decode cL_law 227 = .ok (.iconst 2, 1) := by decide +kernel
theorem dL_law_228 : decode cL_law 228 = .ok (.iadd, 1) := by decide +kernel
theorem dL_law_229 : decode cL_law 229 = .ok (.iaload, 1) := by decide +kernel
theorem dL_law_230 : decode cL_law 230 = .ok (.aload_n 0, 1) := by decide +kernel
theorem dL_law_231 : decode cL_law 231 = .ok (.iload_n 3, 1) := by decide +kernel
theorem dL_law_232 : decode cL_law 232 = .ok (.iconst 3, 1) := by decide +kernel
theorem dL_law_233 : decode cL_law 233 = .ok (.iadd, 1) := by decide +kernel
theorem dL_law_234 : decode cL_law 234 = .ok (.iaload, 1) := by decide +kernel
theorem dL_law_235 : decode cL_law 235 = .ok (.invokevirtual 18, 3) := by decide +kernel
theorem dL_law_238 : decode cL_law 238 = .ok (.aload_n 2, 1) := by decide +kernel
theorem dL_law_239 : decode cL_law 239 = .ok (.aload_n 0, 1) := by decide +kernel
theorem dL_law_240 : decode cL_law 240 = .ok (.iload_n 3, 1) := by decide +kernel
theorem dL_law_241 : decode cL_law 241 = .ok (.iconst 1, 1) := by decide +kernel
theorem dL_law_242 : decode cL_law 242 = .ok (.iadd, 1) := by decide +kernel
theorem dL_law_243 : decode cL_law 243 = .ok (.iaload, 1) := by decide +kernel
theorem dL_law_244 : decode cL_law 244 = .ok (.aload_n 0, 1) := by decide +kernel
theorem dL_law_245 : decode cL_law 245 = .ok (.iload_n 3, 1) := by decide +kernel
theorem dL_law_246 : decode cL_law 246 = .ok (.iconst 2, 1) := by decide +kernel
theorem dL_law_247 : decode cL_law 247 = .ok (.iadd, 1) := by decide +kernel
theorem dL_law_248 : decode cL_law 248 = .ok (.iaload, 1) := by decide +kernel
theorem dL_law_249 : decode cL_law 249 = .ok (.aload_n 0, 1) := by decide +kernel
theorem dL_law_250 : decode cL_law 250 = .ok (.iload_n 3, 1) := by decide +kernel
theorem dL_law_251 : decode cL_law 251 = .ok (.iconst 3, 1) := by decide +kernel
theorem dL_law_252 : decode cL_law 252 = .ok (.iadd, 1) := by decide +kernel
theorem dL_law_253 : decode cL_law 253 = .ok (.iaload, 1) := by decide +kernel
theorem dL_law_254 : decode cL_law 254 = .ok (.invokevirtual 21, 3) := by decide +kernel
theorem dL_law_257 : decode cL_law 257 = .ok (.if_icmp .eq 865, 3) := by decide +kernel
theorem dL_law_260 : decode cL_law 260 = .ok (.iconst 0, 1) := by decide +kernel
theorem dL_law_261 : decode cL_law 261 = .ok (.ireturn, 1) := by decide +kernel
theorem dL_law_262 : decode cL_law 262 = .ok (.aload_n 1, 1) := by decide +kernel
theorem dL_law_263 : decode cL_law 263 = .ok (.aload_n 0, 1) := by decide +kernel
theorem dL_law_264 : decode cL_law 264 = .ok (.iload_n 3, 1) := by decide +kernel
theorem dL_law_265 : decode cL_law 265 = .ok (.iconst 1, 1) := by decide +kernel
theorem dL_law_266 : decode cL_law 266 = .ok (.iadd, 1) := by decide +kernel
theorem dL_law_267 : decode cL_law 267 = .ok (.iaload, 1) := by decide +kernel
theorem dL_law_268 : decode cL_law 268 = .ok (.aload_n 0, 1) := by decide +kernel
theorem dL_law_269 : decode cL_law 269 = .ok (.iload_n 3, 1) := by decide +kernel
theorem dL_law_270 : decode cL_law 270 = .ok (.iconst 2, 1) := by decide +kernel
theorem dL_law_271 : decode cL_law 271 = .ok (.iadd, 1) := by decide +kernel
theorem dL_law_272 : decode cL_law 272 = .ok (.iaload, 1) := by decide +kernel
theorem dL_law_273 : decode cL_law 273 = .ok (.aload_n 0, 1) := by decide +kernel
theorem dL_law_274 : decode cL_law 274 = .ok (.iload_n 3, 1) := by decide +kernel
theorem dL_law_275 : decode cL_law 275 = .ok (.iconst 3, 1) := by decide +kernel
theorem dL_law_276 : decode cL_law 276 = .ok (.iadd, 1) := by decide +kernel
theorem dL_law_277 : decode cL_law 277 = .ok (.iaload, 1) := by decide +kernel
theorem dL_law_278 : decode cL_law 278 = .ok (.aload_n 0, 1) := by decide +kernel
theorem dL_law_279 : decode cL_law 279 = .ok (.iload_n 3, 1) := by decide +kernel
theorem dL_law_280 : decode cL_law 280 = .ok (.iconst 4, 1) := by decide +kernel
theorem dL_law_281 : decode cL_law 281 = .ok (.iadd, 1) := by decide +kernel
theorem dL_law_282 : decode cL_law 282 = .ok (.iaload, 1) := by decide +kernel
theorem dL_law_283 : decode cL_law 283 = .ok (.aload_n 0, 1) := by decide +kernel
theorem dL_law_284 : decode cL_law 284 = .ok (.iload_n 3, 1) := by decide +kernel
theorem dL_law_285 : decode cL_law 285 = .ok (.iconst 5, 1) := by decide +kernel
theorem dL_law_286 : decode cL_law 286 = .ok (.iadd, 1) := by decide +kernel
theorem dL_law_287 : decode cL_law 287 = .ok (.iaload, 1) := by decide +kernel
theorem dL_law_288 : decode cL_law 288 = .ok (.invokevirtual 22, 3) := by decide +kernel
theorem dL_law_291 : decode cL_law 291 = .ok (.aload_n 2, 1) := by decide +kernel
theorem dL_law_292 : decode cL_law 292 = .ok (.aload_n 0, 1) := by decide +kernel
theorem dL_law_293 : decode cL_law 293 = .ok (.iload_n 3, 1) := by decide +kernel
theorem dL_law_294 : decode cL_law 294 = .ok (.iconst 1, 1) := by decide +kernel
theorem dL_law_295 : decode cL_law 295 = .ok (.iadd, 1) := by decide +kernel
theorem dL_law_296 : decode cL_law 296 = .ok (.iaload, 1) := by decide +kernel
theorem dL_law_297 : decode cL_law 297 = .ok (.aload_n 0, 1) := by decide +kernel
theorem dL_law_298 : decode cL_law 298 = .ok (.iload_n 3, 1) := by decide +kernel
theorem dL_law_299 : decode cL_law 299 = .ok (.iconst 2, 1) := by decide +kernel
theorem dL_law_300 : decode cL_law 300 = .ok (.iadd, 1) := by decide +kernel
theorem dL_law_301 : decode cL_law 301 = .ok (.iaload, 1) := by decide +kernel
theorem dL_law_302 : decode cL_law 302 = .ok (.aload_n 0, 1) := by decide +kernel
theorem dL_law_303 : decode cL_law 303 = .ok (.iload_n 3, 1) := by decide +kernel
theorem dL_law_304 : decode cL_law 304 = .ok (.iconst 3, 1) := by decide +kernel
theorem dL_law_305 : decode cL_law 305 = .ok (.iadd, 1) := by decide +kernel
theorem dL_law_306 : decode cL_law 306 = .ok (.iaload, 1) := by decide +kernel
theorem dL_law_307 : decode cL_law 307 = .ok (.aload_n 0, 1) := by decide +kernel
theorem dL_law_308 : decode cL_law 308 = .ok (.iload_n 3, 1) := by decide +kernel
theorem dL_law_309 : decode cL_law 309 = .ok (.iconst 4, 1) := by decide +kernel
theorem dL_law_310 : decode cL_law 310 = .ok (.iadd, 1) := by decide +kernel
theorem dL_law_311 : decode cL_law 311 = .ok (.iaload, 1) := by decide +kernel
theorem dL_law_312 : decode cL_law 312 = .ok (.aload_n 0, 1) := by decide +kernel
theorem dL_law_313 : decode cL_law 313 = .ok (.iload_n 3, 1) := by decide +kernel
theorem dL_law_314 : decode cL_law 314 = .ok (.iconst 5, 1) := by decide +kernel
theorem dL_law_315 : decode cL_law 315 = .ok (.iadd, 1) := by decide +kernel
theorem dL_law_316 : decode cL_law 316 = .ok (.iaload, 1) := by decide +kernel
theorem dL_law_317 : decode cL_law 317 = .ok (.invokevirtual 26, 3) := by decide +kernel
theorem dL_law_320 : decode cL_law 320 = .ok (.if_icmp .eq 802, 3) := by decide +kernel
theorem dL_law_323 : decode cL_law 323 = .ok (.iconst 0, 1) := by decide +kernel
theorem dL_law_324 : decode cL_law 324 = .ok (.ireturn, 1) := by decide +kernel
theorem dL_law_325 : decode cL_law 325 = .ok (.aload_n 1, 1) := by decide +kernel
theorem dL_law_326 : decode cL_law 326 = .ok (.aload_n 0, 1) := by decide +kernel
theorem dL_law_327 : decode cL_law 327 = .ok (.iload_n 3, 1) := by decide +kernel
theorem dL_law_328 : decode cL_law 328 = .ok (.iconst 1, 1) := by decide +kernel
theorem dL_law_329 : decode cL_law 329 = .ok (.iadd, 1) := by decide +kernel
theorem dL_law_330 : decode cL_law 330 = .ok (.iaload, 1) := by decide +kernel
theorem dL_law_331 : decode cL_law 331 = .ok (.invokevirtual 27, 3) := by decide +kernel
theorem dL_law_334 : decode cL_law 334 = .ok (.aload_n 2, 1) := by decide +kernel
theorem dL_law_335 : decode cL_law 335 = .ok (.aload_n 0, 1) := by decide +kernel
theorem dL_law_336 : decode cL_law 336 = .ok (.iload_n 3, 1) := by decide +kernel
theorem dL_law_337 : decode cL_law 337 = .ok (.iconst 1, 1) := by decide +kernel
theorem dL_law_338 : decode cL_law 338 = .ok (.iadd, 1) := by decide +kernel
theorem dL_law_339 : decode cL_law 339 = .ok (.iaload, 1) := by decide +kernel
theorem dL_law_340 : decode cL_law 340 = .ok (.invokevirtual 31, 3) := by decide +kernel
theorem dL_law_343 : decode cL_law 343 = .ok (.if_icmp .eq 779, 3) := by decide +kernel
theorem dL_law_346 : decode cL_law 346 = .ok (.iconst 0, 1) := by decide +kernel
theorem dL_law_347 : decode cL_law 347 = .ok (.ireturn, 1) := by decide +kernel
theorem dL_law_348 : decode cL_law 348 = .ok (.aload_n 1, 1) := by decide +kernel
theorem dL_law_349 : decode cL_law 349 = .ok (.aload_n 0, 1) := by decide +kernel
theorem dL_law_350 : decode cL_law 350 = .ok (.iload_n 3, 1) := by decide +kernel
theorem dL_law_351 : decode cL_law 351 = .ok (.iconst 1, 1) := by decide +kernel
theorem dL_law_352 : decode cL_law 352 = .ok (.iadd, 1) := by decide +kernel
theorem dL_law_353 : decode cL_law 353 = .ok (.iaload, 1) := by decide +kernel
theorem dL_law_354 : decode cL_law 354 = .ok (.invokevirtual 32, 3) := by decide +kernel
theorem dL_law_357 : decode cL_law 357 = .ok (.aload_n 2, 1) := by decide +kernel
theorem dL_law_358 : decode cL_law 358 = .ok (.aload_n 0, 1) := by decide +kernel
theorem dL_law_359 : decode cL_law 359 = .ok (.iload_n 3, 1) := by decide +kernel
theorem dL_law_360 : decode cL_law 360 = .ok (.iconst 1, 1) := by decide +kernel
theorem dL_law_361 : decode cL_law 361 = .ok (.iadd, 1) := by decide +kernel
theorem dL_law_362 : decode cL_law 362 = .ok (.iaload, 1) := by decide +kernel
theorem dL_law_363 : decode cL_law 363 = .ok (.invokevirtual 35, 3) := by decide +kernel
theorem dL_law_366 : decode cL_law 366 = .ok (.if_icmp .eq 756, 3) := by decide +kernel
theorem dL_law_369 : decode cL_law 369 = .ok (.iconst 0, 1) := by decide +kernel
theorem dL_law_370 : decode cL_law 370 = .ok (.ireturn, 1) := by decide +kernel
theorem dL_law_371 : decode cL_law 371 = .ok (.aload_n 1, 1) := by decide +kernel
theorem dL_law_372 : decode cL_law 372 = .ok (.invokevirtual 36, 3) := by decide +kernel
theorem dL_law_375 : decode cL_law 375 = .ok (.aload_n 2, 1) := by decide +kernel
theorem dL_law_376 : decode cL_law 376 = .ok (.invokevirtual 40, 3) := by decide +kernel
theorem dL_law_379 : decode cL_law 379 = .ok (.if_icmp .eq 743, 3) := by decide +kernel
theorem dL_law_382 : decode cL_law 382 = .ok (.iconst 0, 1) := by decide +kernel
theorem dL_law_383 : decode cL_law 383 = .ok (.ireturn, 1) := by decide +kernel
theorem dL_law_384 : decode cL_law 384 = .ok (.aload_n 1, 1) := by decide +kernel
theorem dL_law_385 : decode cL_law 385 = .ok (.invokevirtual 41, 3) := by decide +kernel
theorem dL_law_388 : decode cL_law 388 = .ok (.aload_n 2, 1) := by decide +kernel
theorem dL_law_389 : decode cL_law 389 = .ok (.invokevirtual 44, 3) := by decide +kernel
theorem dL_law_392 : decode cL_law 392 = .ok (.if_icmp .eq 730, 3) := by decide +kernel
theorem dL_law_395 : decode cL_law 395 = .ok (.iconst 0, 1) := by decide +kernel
theorem dL_law_396 : decode cL_law 396 = .ok (.ireturn, 1) := by decide +kernel
theorem dL_law_397 : decode cL_law 397 = .ok (.aload_n 1, 1) := by decide +kernel
theorem dL_law_398 : decode cL_law 398 = .ok (.aload_n 0, 1) := by decide +kernel
theorem dL_law_399 : decode cL_law 399 = .ok (.iload_n 3, 1) := by decide +kernel
theorem dL_law_400 : decode cL_law 400 = .ok (.iconst 1, 1) := by decide +kernel
theorem dL_law_401 : decode cL_law 401 = .ok (.iadd, 1) := by decide +kernel
theorem dL_law_402 : decode cL_law 402 = .ok (.iaload, 1) := by decide +kernel
theorem dL_law_403 : decode cL_law 403 = .ok (.invokevirtual 45, 3) := by decide +kernel
theorem dL_law_406 : decode cL_law 406 = .ok (.aload_n 2, 1) := by decide +kernel
theorem dL_law_407 : decode cL_law 407 = .ok (.aload_n 0, 1) := by decide +kernel
theorem dL_law_408 : decode cL_law 408 = .ok (.iload_n 3, 1) := by decide +kernel
theorem dL_law_409 : decode cL_law 409 = .ok (.iconst 1, 1) := by decide +kernel
theorem dL_law_410 : decode cL_law 410 = .ok (.iadd, 1) := by decide +kernel
theorem dL_law_411 : decode cL_law 411 = .ok (.iaload, 1) := by decide +kernel
theorem dL_law_412 : decode cL_law 412 = .ok (.invokevirtual 48, 3) := by decide +kernel
theorem dL_law_415 : decode cL_law 415 = .ok (.if_icmp .eq 707, 3) := by decide +kernel
theorem dL_law_418 : decode cL_law 418 = .ok (.iconst 0, 1) := by decide +kernel
theorem dL_law_419 : decode cL_law 419 = .ok (.ireturn, 1) := by decide +kernel
theorem dL_law_420 : decode cL_law 420 = .ok (.aload_n 1, 1) := by decide +kernel
theorem dL_law_421 : decode cL_law 421 = .ok (.aload_n 0, 1) := by decide +kernel
theorem dL_law_422 : decode cL_law 422 = .ok (.iload_n 3, 1) := by decide +kernel
theorem dL_law_423 : decode cL_law 423 = .ok (.iconst 1, 1) := by decide +kernel
theorem dL_law_424 : decode cL_law 424 = .ok (.iadd, 1) := by decide +kernel
theorem dL_law_425 : decode cL_law 425 = .ok (.iaload, 1) := by decide +kernel
theorem dL_law_426 : decode cL_law 426 = .ok (.invokevirtual 49, 3) := by decide +kernel
theorem dL_law_429 : decode cL_law 429 = .ok (.aload_n 2, 1) := by decide +kernel
theorem dL_law_430 : decode cL_law 430 = .ok (.aload_n 0, 1) := by decide +kernel
theorem dL_law_431 : decode cL_law 431 = .ok (.iload_n 3, 1) := by decide +kernel
theorem dL_law_432 : decode cL_law 432 = .ok (.iconst 1, 1) := by decide +kernel
theorem dL_law_433 : decode cL_law 433 = .ok (.iadd, 1) := by decide +kernel
theorem dL_law_434 : decode cL_law 434 = .ok (.iaload, 1) := by decide +kernel
theorem dL_law_435 : decode cL_law 435 = .ok (.invokevirtual 52, 3) := by decide +kernel
theorem dL_law_438 : decode cL_law 438 = .ok (.if_icmp .eq 684, 3) := by decide +kernel
theorem dL_law_441 : decode cL_law 441 = .ok (.iconst 0, 1) := by decide +kernel
theorem dL_law_442 : decode cL_law 442 = .ok (.ireturn, 1) := by decide +kernel
theorem dL_law_443 : decode cL_law 443 = .ok (.aload_n 1, 1) := by decide +kernel
theorem dL_law_444 : decode cL_law 444 = .ok (.invokevirtual 53, 3) := by decide +kernel
theorem dL_law_447 : decode cL_law 447 = .ok (.aload_n 2, 1) := by decide +kernel
theorem dL_law_448 : decode cL_law 448 = .ok (.invokevirtual 56, 3) := by decide +kernel
theorem dL_law_451 : decode cL_law 451 = .ok (.if_icmp .eq 671, 3) := by decide +kernel
theorem dL_law_454 : decode cL_law 454 = .ok (.iconst 0, 1) := by decide +kernel
theorem dL_law_455 : decode cL_law 455 = .ok (.ireturn, 1) := by decide +kernel
theorem dL_law_456 : decode cL_law 456 = .ok (.aload_n 1, 1) := by decide +kernel
theorem dL_law_457 : decode cL_law 457 = .ok (.invokevirtual 57, 3) := by decide +kernel
theorem dL_law_460 : decode cL_law 460 = .ok (.aload_n 2, 1) := by decide +kernel
theorem dL_law_461 : decode cL_law 461 = .ok (.invokevirtual 60, 3) := by decide +kernel
theorem dL_law_464 : decode cL_law 464 = .ok (.if_icmp .eq 658, 3) := by decide +kernel
theorem dL_law_467 : decode cL_law 467 = .ok (.iconst 0, 1) := by decide +kernel
theorem dL_law_468 : decode cL_law 468 = .ok (.ireturn, 1) := by decide +kernel
theorem dL_law_469 : decode cL_law 469 = .ok (.aload_n 1, 1) := by decide +kernel
theorem dL_law_470 : decode cL_law 470 = .ok (.aload_n 0, 1) := by decide +kernel
theorem dL_law_471 : decode cL_law 471 = .ok (.iload_n 3, 1) := by decide +kernel
theorem dL_law_472 : decode cL_law 472 = .ok (.iconst 1, 1) := by decide +kernel
theorem dL_law_473 : decode cL_law 473 = .ok (.iadd, 1) := by decide +kernel
theorem dL_law_474 : decode cL_law 474 = .ok (.iaload, 1) := by decide +kernel
theorem dL_law_475 : decode cL_law 475 = .ok (.aload_n 0, 1) := by decide +kernel
theorem dL_law_476 : decode cL_law 476 = .ok (.iload_n 3, 1) := by decide +kernel
theorem dL_law_477 : decode cL_law 477 = .ok (.iconst 2, 1) := by decide +kernel
theorem dL_law_478 : decode cL_law 478 = .ok (.iadd, 1) := by decide +kernel
theorem dL_law_479 : decode cL_law 479 = .ok (.iaload, 1) := by decide +kernel
theorem dL_law_480 : decode cL_law 480 = .ok (.invokevirtual 61, 3) := by decide +kernel
theorem dL_law_483 : decode cL_law 483 = .ok (.aload_n 2, 1) := by decide +kernel
theorem dL_law_484 : decode cL_law 484 = .ok (.aload_n 0, 1) := by decide +kernel
theorem dL_law_485 : decode cL_law 485 = .ok (.iload_n 3, 1) := by decide +kernel
theorem dL_law_486 : decode cL_law 486 = .ok (.iconst 1, 1) := by decide +kernel
theorem dL_law_487 : decode cL_law 487 = .ok (.iadd, 1) := by decide +kernel
theorem dL_law_488 : decode cL_law 488 = .ok (.iaload, 1) := by decide +kernel
theorem dL_law_489 : decode cL_law 489 = .ok (.aload_n 0, 1) := by decide +kernel
theorem dL_law_490 : decode cL_law 490 = .ok (.iload_n 3, 1) := by decide +kernel
theorem dL_law_491 : decode cL_law 491 = .ok (.iconst 2, 1) := by decide +kernel
theorem dL_law_492 : decode cL_law 492 = .ok (.iadd, 1) := by decide +kernel
theorem dL_law_493 : decode cL_law 493 = .ok (.iaload, 1) := by decide +kernel
theorem dL_law_494 : decode cL_law 494 = .ok (.invokevirtual 65, 3) := by decide +kernel
theorem dL_law_497 : decode cL_law 497 = .ok (.if_icmp .eq 625, 3) := by decide +kernel
theorem dL_law_500 : decode cL_law 500 = .ok (.iconst 0, 1) := by decide +kernel
theorem dL_law_501 : decode cL_law 501 = .ok (.ireturn, 1) := by decide +kernel
theorem dL_law_502 : decode cL_law 502 = .ok (.aload_n 1, 1) := by decide +kernel
theorem dL_law_503 : decode cL_law 503 = .ok (.invokevirtual 66, 3) := by decide +kernel
theorem dL_law_506 : decode cL_law 506 = .ok (.aload_n 2, 1) := by decide +kernel
theorem dL_law_507 : decode cL_law 507 = .ok (.invokevirtual 69, 3) := by decide +kernel
theorem dL_law_510 : decode cL_law 510 = .ok (.if_icmp .eq 612, 3) := by decide +kernel
theorem dL_law_513 : decode cL_law 513 = .ok (.iconst 0, 1) := by decide +kernel
theorem dL_law_514 : decode cL_law 514 = .ok (.ireturn, 1) := by decide +kernel
theorem dL_law_515 : decode cL_law 515 = .ok (.aload_n 1, 1) := by decide +kernel
theorem dL_law_516 : decode cL_law 516 = .ok (.aload_n 0, 1) := by decide +kernel
theorem dL_law_517 : decode cL_law 517 = .ok (.iload_n 3, 1) := by decide +kernel
theorem dL_law_518 : decode cL_law 518 = .ok (.iconst 1, 1) := by decide +kernel
theorem dL_law_519 : decode cL_law 519 = .ok (.iadd, 1) := by decide +kernel
theorem dL_law_520 : decode cL_law 520 = .ok (.iaload, 1) := by decide +kernel
theorem dL_law_521 : decode cL_law 521 = .ok (.aload_n 0, 1) := by decide +kernel
theorem dL_law_522 : decode cL_law 522 = .ok (.iload_n 3, 1) := by decide +kernel
theorem dL_law_523 : decode cL_law 523 = .ok (.iconst 2, 1) := by decide +kernel
theorem dL_law_524 : decode cL_law 524 = .ok (.iadd, 1) := by decide +kernel
theorem dL_law_525 : decode cL_law 525 = .ok (.iaload, 1) := by decide +kernel
theorem dL_law_526 : decode cL_law 526 = .ok (.invokevirtual 70, 3) := by decide +kernel
theorem dL_law_529 : decode cL_law 529 = .ok (.aload_n 2, 1) := by decide +kernel
theorem dL_law_530 : decode cL_law 530 = .ok (.aload_n 0, 1) := by decide +kernel
theorem dL_law_531 : decode cL_law 531 = .ok (.iload_n 3, 1) := by decide +kernel
theorem dL_law_532 : decode cL_law 532 = .ok (.iconst 1, 1) := by decide +kernel
theorem dL_law_533 : decode cL_law 533 = .ok (.iadd, 1) := by decide +kernel
theorem dL_law_534 : decode cL_law 534 = .ok (.iaload, 1) := by decide +kernel
theorem dL_law_535 : decode cL_law 535 = .ok (.aload_n 0, 1) := by decide +kernel
theorem dL_law_536 : decode cL_law 536 = .ok (.iload_n 3, 1) := by decide +kernel
theorem dL_law_537 : decode cL_law 537 = .ok (.iconst 2, 1) := by decide +kernel
theorem dL_law_538 : decode cL_law 538 = .ok (.iadd, 1) := by decide +kernel
theorem dL_law_539 : decode cL_law 539 = .ok (.iaload, 1) := by decide +kernel
theorem dL_law_540 : decode cL_law 540 = .ok (.invokevirtual 73, 3) := by decide +kernel
theorem dL_law_543 : decode cL_law 543 = .ok (.if_icmp .eq 579, 3) := by decide +kernel
theorem dL_law_546 : decode cL_law 546 = .ok (.iconst 0, 1) := by decide +kernel
theorem dL_law_547 : decode cL_law 547 = .ok (.ireturn, 1) := by decide +kernel
theorem dL_law_548 : decode cL_law 548 = .ok (.aload_n 1, 1) := by decide +kernel
theorem dL_law_549 : decode cL_law 549 = .ok (.aload_n 0, 1) := by decide +kernel
theorem dL_law_550 : decode cL_law 550 = .ok (.iload_n 3, 1) := by decide +kernel
theorem dL_law_551 : decode cL_law 551 = .ok (.iconst 1, 1) := by decide +kernel
theorem dL_law_552 : decode cL_law 552 = .ok (.iadd, 1) := by decide +kernel
theorem dL_law_553 : decode cL_law 553 = .ok (.iaload, 1) := by decide +kernel
theorem dL_law_554 : decode cL_law 554 = .ok (.invokevirtual 74, 3) := by decide +kernel
theorem dL_law_557 : decode cL_law 557 = .ok (.aload_n 2, 1) := by decide +kernel
theorem dL_law_558 : decode cL_law 558 = .ok (.aload_n 0, 1) := by decide +kernel
theorem dL_law_559 : decode cL_law 559 = .ok (.iload_n 3, 1) := by decide +kernel
theorem dL_law_560 : decode cL_law 560 = .ok (.iconst 1, 1) := by decide +kernel
theorem dL_law_561 : decode cL_law 561 = .ok (.iadd, 1) := by decide +kernel
theorem dL_law_562 : decode cL_law 562 = .ok (.iaload, 1) := by decide +kernel
theorem dL_law_563 : decode cL_law 563 = .ok (.invokevirtual 77, 3) := by decide +kernel
theorem dL_law_566 : decode cL_law 566 = .ok (.if_icmp .eq 556, 3) := by decide +kernel
theorem dL_law_569 : decode cL_law 569 = .ok (.iconst 0, 1) := by decide +kernel
theorem dL_law_570 : decode cL_law 570 = .ok (.ireturn, 1) := by decide +kernel
theorem dL_law_571 : decode cL_law 571 = .ok (.aload_n 1, 1) := by decide +kernel
theorem dL_law_572 : decode cL_law 572 = .ok (.aload_n 0, 1) := by decide +kernel
theorem dL_law_573 : decode cL_law 573 = .ok (.iload_n 3, 1) := by decide +kernel
theorem dL_law_574 : decode cL_law 574 = .ok (.iconst 1, 1) := by decide +kernel
theorem dL_law_575 : decode cL_law 575 = .ok (.iadd, 1) := by decide +kernel
theorem dL_law_576 : decode cL_law 576 = .ok (.iaload, 1) := by decide +kernel
theorem dL_law_577 : decode cL_law 577 = .ok (.aload_n 0, 1) := by decide +kernel
theorem dL_law_578 : decode cL_law 578 = .ok (.iload_n 3, 1) := by decide +kernel
theorem dL_law_579 : decode cL_law 579 = .ok (.iconst 2, 1) := by decide +kernel
theorem dL_law_580 : decode cL_law 580 = .ok (.iadd, 1) := by decide +kernel
theorem dL_law_581 : decode cL_law 581 = .ok (.iaload, 1) := by decide +kernel
theorem dL_law_582 : decode cL_law 582 = .ok (.invokevirtual 78, 3) := by decide +kernel
theorem dL_law_585 : decode cL_law 585 = .ok (.aload_n 2, 1) := by decide +kernel
theorem dL_law_586 : decode cL_law 586 = .ok (.aload_n 0, 1) := by decide +kernel
theorem dL_law_587 : decode cL_law 587 = .ok (.iload_n 3, 1) := by decide +kernel
theorem dL_law_588 : decode cL_law 588 = .ok (.iconst 1, 1) := by decide +kernel
theorem dL_law_589 : decode cL_law 589 = .ok (.iadd, 1) := by decide +kernel
theorem dL_law_590 : decode cL_law 590 = .ok (.iaload, 1) := by decide +kernel
theorem dL_law_591 : decode cL_law 591 = .ok (.aload_n 0, 1) := by decide +kernel
theorem dL_law_592 : decode cL_law 592 = .ok (.iload_n 3, 1) := by decide +kernel
theorem dL_law_593 : decode cL_law 593 = .ok (.iconst 2, 1) := by decide +kernel
theorem dL_law_594 : decode cL_law 594 = .ok (.iadd, 1) := by decide +kernel
theorem dL_law_595 : decode cL_law 595 = .ok (.iaload, 1) := by decide +kernel
theorem dL_law_596 : decode cL_law 596 = .ok (.invokevirtual 81, 3) := by decide +kernel
theorem dL_law_599 : decode cL_law 599 = .ok (.if_icmp .eq 523, 3) := by decide +kernel
theorem dL_law_602 : decode cL_law 602 = .ok (.iconst 0, 1) := by decide +kernel
theorem dL_law_603 : decode cL_law 603 = .ok (.ireturn, 1) := by decide +kernel
theorem dL_law_604 : decode cL_law 604 = .ok (.aload_n 1, 1) := by decide +kernel
theorem dL_law_605 : decode cL_law 605 = .ok (.aload_n 0, 1) := by decide +kernel
theorem dL_law_606 : decode cL_law 606 = .ok (.iload_n 3, 1) := by decide +kernel
theorem dL_law_607 : decode cL_law 607 = .ok (.iconst 1, 1) := by decide +kernel
theorem dL_law_608 : decode cL_law 608 = .ok (.iadd, 1) := by decide +kernel
theorem dL_law_609 : decode cL_law 609 = .ok (.iaload, 1) := by decide +kernel
theorem dL_law_610 : decode cL_law 610 = .ok (.aload_n 0, 1) := by decide +kernel
theorem dL_law_611 : decode cL_law 611 = .ok (.iload_n 3, 1) := by decide +kernel
theorem dL_law_612 : decode cL_law 612 = .ok (.iconst 2, 1) := by decide +kernel
theorem dL_law_613 : decode cL_law 613 = .ok (.iadd, 1) := by decide +kernel
theorem dL_law_614 : decode cL_law 614 = .ok (.iaload, 1) := by decide +kernel
theorem dL_law_615 : decode cL_law 615 = .ok (.invokevirtual 82, 3) := by decide +kernel
theorem dL_law_618 : decode cL_law 618 = .ok (.aload_n 2, 1) := by decide +kernel
theorem dL_law_619 : decode cL_law 619 = .ok (.aload_n 0, 1) := by decide +kernel
theorem dL_law_620 : decode cL_law 620 = .ok (.iload_n 3, 1) := by decide +kernel
theorem dL_law_621 : decode cL_law 621 = .ok (.iconst 1, 1) := by decide +kernel
theorem dL_law_622 : decode cL_law 622 = .ok (.iadd, 1) := by decide +kernel
theorem dL_law_623 : decode cL_law 623 = .ok (.iaload, 1) := by decide +kernel
theorem dL_law_624 : decode cL_law 624 = .ok (.aload_n 0, 1) := by decide +kernel
theorem dL_law_625 : decode cL_law 625 = .ok (.iload_n 3, 1) := by decide +kernel
theorem dL_law_626 : decode cL_law 626 = .ok (.iconst 2, 1) := by decide +kernel
theorem dL_law_627 : decode cL_law 627 = .ok (.iadd, 1) := by decide +kernel
theorem dL_law_628 : decode cL_law 628 = .ok (.iaload, 1) := by decide +kernel
theorem dL_law_629 : decode cL_law 629 = .ok (.invokevirtual 85, 3) := by decide +kernel
theorem dL_law_632 : decode cL_law 632 = .ok (.if_icmp .eq 490, 3) := by decide +kernel
theorem dL_law_635 : decode cL_law 635 = .ok (.iconst 0, 1) := by decide +kernel
theorem dL_law_636 : decode cL_law 636 = .ok (.ireturn, 1) := by decide +kernel
theorem dL_law_637 : decode cL_law 637 = .ok (.aload_n 1, 1) := by decide +kernel
theorem dL_law_638 : decode cL_law 638 = .ok (.aload_n 0, 1) := by decide +kernel
theorem dL_law_639 : decode cL_law 639 = .ok (.iload_n 3, 1) := by decide +kernel
theorem dL_law_640 : decode cL_law 640 = .ok (.iconst 1, 1) := by decide +kernel
theorem dL_law_641 : decode cL_law 641 = .ok (.iadd, 1) := by decide +kernel
theorem dL_law_642 : decode cL_law 642 = .ok (.iaload, 1) := by decide +kernel
theorem dL_law_643 : decode cL_law 643 = .ok (.invokevirtual 86, 3) := by decide +kernel
theorem dL_law_646 : decode cL_law 646 = .ok (.aload_n 2, 1) := by decide +kernel
theorem dL_law_647 : decode cL_law 647 = .ok (.aload_n 0, 1) := by decide +kernel
theorem dL_law_648 : decode cL_law 648 = .ok (.iload_n 3, 1) := by decide +kernel
theorem dL_law_649 : decode cL_law 649 = .ok (.iconst 1, 1) := by decide +kernel
theorem dL_law_650 : decode cL_law 650 = .ok (.iadd, 1) := by decide +kernel
theorem dL_law_651 : decode cL_law 651 = .ok (.iaload, 1) := by decide +kernel
theorem dL_law_652 : decode cL_law 652 = .ok (.invokevirtual 89, 3) := by decide +kernel
theorem dL_law_655 : decode cL_law 655 = .ok (.if_icmp .eq 467, 3) := by decide +kernel
theorem dL_law_658 : decode cL_law 658 = .ok (.iconst 0, 1) := by decide +kernel
theorem dL_law_659 : decode cL_law 659 = .ok (.ireturn, 1) := by decide +kernel
theorem dL_law_660 : decode cL_law 660 = .ok (.aload_n 1, 1) := by decide +kernel
theorem dL_law_661 : decode cL_law 661 = .ok (.aload_n 0, 1) := by decide +kernel
theorem dL_law_662 : decode cL_law 662 = .ok (.iload_n 3, 1) := by decide +kernel
theorem dL_law_663 : decode cL_law 663 = .ok (.iconst 1, 1) := by decide +kernel
theorem dL_law_664 : decode cL_law 664 = .ok (.iadd, 1) := by decide +kernel
theorem dL_law_665 : decode cL_law 665 = .ok (.iaload, 1) := by decide +kernel
theorem dL_law_666 : decode cL_law 666 = .ok (.invokevirtual 90, 3) := by decide +kernel
theorem dL_law_669 : decode cL_law 669 = .ok (.aload_n 2, 1) := by decide +kernel
theorem dL_law_670 : decode cL_law 670 = .ok (.aload_n 0, 1) := by decide +kernel
theorem dL_law_671 : decode cL_law 671 = .ok (.iload_n 3, 1) := by decide +kernel
theorem dL_law_672 : decode cL_law 672 = .ok (.iconst 1, 1) := by decide +kernel
theorem dL_law_673 : decode cL_law 673 = .ok (.iadd, 1) := by decide +kernel
theorem dL_law_674 : decode cL_law 674 = .ok (.iaload, 1) := by decide +kernel
theorem dL_law_675 : decode cL_law 675 = .ok (.invokevirtual 93, 3) := by decide +kernel
theorem dL_law_678 : decode cL_law 678 = .ok (.if_icmp .eq 444, 3) := by decide +kernel
theorem dL_law_681 : decode cL_law 681 = .ok (.iconst 0, 1) := by decide +kernel
theorem dL_law_682 : decode cL_law 682 = .ok (.ireturn, 1) := by decide +kernel
theorem dL_law_683 : decode cL_law 683 = .ok (.aload_n 1, 1) := by decide +kernel
theorem dL_law_684 : decode cL_law 684 = .ok (.aload_n 0, 1) := by decide +kernel
theorem dL_law_685 : decode cL_law 685 = .ok (.iload_n 3, 1) := by decide +kernel
theorem dL_law_686 : decode cL_law 686 = .ok (.iconst 1, 1) := by decide +kernel
theorem dL_law_687 : decode cL_law 687 = .ok (.iadd, 1) := by decide +kernel
theorem dL_law_688 : decode cL_law 688 = .ok (.iaload, 1) := by decide +kernel
theorem dL_law_689 : decode cL_law 689 = .ok (.aload_n 0, 1) := by decide +kernel
theorem dL_law_690 : decode cL_law 690 = .ok (.iload_n 3, 1) := by decide +kernel
theorem dL_law_691 : decode cL_law 691 = .ok (.iconst 2, 1) := by decide +kernel
theorem dL_law_692 : decode cL_law 692 = .ok (.iadd, 1) := by decide +kernel
theorem dL_law_693 : decode cL_law 693 = .ok (.iaload, 1) := by decide +kernel
theorem dL_law_694 : decode cL_law 694 = .ok (.aload_n 0, 1) := by decide +kernel
theorem dL_law_695 : decode cL_law 695 = .ok (.iload_n 3, 1) := by decide +kernel
theorem dL_law_696 : decode cL_law 696 = .ok (.iconst 3, 1) := by decide +kernel
theorem dL_law_697 : decode cL_law 697 = .ok (.iadd, 1) := by decide +kernel
theorem dL_law_698 : decode cL_law 698 = .ok (.iaload, 1) := by decide +kernel
theorem dL_law_699 : decode cL_law 699 = .ok (.invokevirtual 94, 3) := by decide +kernel
theorem dL_law_702 : decode cL_law 702 = .ok (.aload_n 2, 1) := by decide +kernel
theorem dL_law_703 : decode cL_law 703 = .ok (.aload_n 0, 1) := by decide +kernel
theorem dL_law_704 : decode cL_law 704 = .ok (.iload_n 3, 1) := by decide +kernel
theorem dL_law_705 : decode cL_law 705 = .ok (.iconst 1, 1) := by decide +kernel
theorem dL_law_706 : decode cL_law 706 = .ok (.iadd, 1) := by decide +kernel
theorem dL_law_707 : decode cL_law 707 = .ok (.iaload, 1) := by decide +kernel
theorem dL_law_708 : decode cL_law 708 = .ok (.aload_n 0, 1) := by decide +kernel
theorem dL_law_709 : decode cL_law 709 = .ok (.iload_n 3, 1) := by decide +kernel
theorem dL_law_710 : decode cL_law 710 = .ok (.iconst 2, 1) := by decide +kernel
theorem dL_law_711 : decode cL_law 711 = .ok (.iadd, 1) := by decide +kernel
theorem dL_law_712 : decode cL_law 712 = .ok (.iaload, 1) := by decide +kernel
theorem dL_law_713 : decode cL_law 713 = .ok (.aload_n 0, 1) := by decide +kernel
theorem dL_law_714 : decode cL_law 714 = .ok (.iload_n 3, 1) := by decide +kernel
theorem dL_law_715 : decode cL_law 715 = .ok (.iconst 3, 1) := by decide +kernel
theorem dL_law_716 : decode cL_law 716 = .ok (.iadd, 1) := by decide +kernel
theorem dL_law_717 : decode cL_law 717 = .ok (.iaload, 1) := by decide +kernel
theorem dL_law_718 : decode cL_law 718 = .ok (.invokevirtual 97, 3) := by decide +kernel
theorem dL_law_721 : decode cL_law 721 = .ok (.if_icmp .eq 401, 3) := by decide +kernel
theorem dL_law_724 : decode cL_law 724 = .ok (.iconst 0, 1) := by decide +kernel
theorem dL_law_725 : decode cL_law 725 = .ok (.ireturn, 1) := by decide +kernel
theorem dL_law_726 : decode cL_law 726 = .ok (.aload_n 1, 1) := by decide +kernel
theorem dL_law_727 : decode cL_law 727 = .ok (.aload_n 0, 1) := by decide +kernel
theorem dL_law_728 : decode cL_law 728 = .ok (.iload_n 3, 1) := by decide +kernel
theorem dL_law_729 : decode cL_law 729 = .ok (.iconst 1, 1) := by decide +kernel
theorem dL_law_730 : decode cL_law 730 = .ok (.iadd, 1) := by decide +kernel
theorem dL_law_731 : decode cL_law 731 = .ok (.iaload, 1) := by decide +kernel
theorem dL_law_732 : decode cL_law 732 = .ok (.aload_n 0, 1) := by decide +kernel
theorem dL_law_733 : decode cL_law 733 = .ok (.iload_n 3, 1) := by decide +kernel
theorem dL_law_734 : decode cL_law 734 = .ok (.iconst 2, 1) := by decide +kernel
theorem dL_law_735 : decode cL_law 735 = .ok (.iadd, 1) := by decide +kernel
theorem dL_law_736 : decode cL_law 736 = .ok (.iaload, 1) := by decide +kernel
theorem dL_law_737 : decode cL_law 737 = .ok (.aload_n 0, 1) := by decide +kernel
theorem dL_law_738 : decode cL_law 738 = .ok (.iload_n 3, 1) := by decide +kernel
theorem dL_law_739 : decode cL_law 739 = .ok (.iconst 3, 1) := by decide +kernel
theorem dL_law_740 : decode cL_law 740 = .ok (.iadd, 1) := by decide +kernel
theorem dL_law_741 : decode cL_law 741 = .ok (.iaload, 1) := by decide +kernel
theorem dL_law_742 : decode cL_law 742 = .ok (.aload_n 0, 1) := by decide +kernel
theorem dL_law_743 : decode cL_law 743 = .ok (.iload_n 3, 1) := by decide +kernel
theorem dL_law_744 : decode cL_law 744 = .ok (.iconst 4, 1) := by decide +kernel
theorem dL_law_745 : decode cL_law 745 = .ok (.iadd, 1) := by decide +kernel
theorem dL_law_746 : decode cL_law 746 = .ok (.iaload, 1) := by decide +kernel
theorem dL_law_747 : decode cL_law 747 = .ok (.invokevirtual 98, 3) := by decide +kernel
theorem dL_law_750 : decode cL_law 750 = .ok (.aload_n 2, 1) := by decide +kernel
theorem dL_law_751 : decode cL_law 751 = .ok (.aload_n 0, 1) := by decide +kernel
theorem dL_law_752 : decode cL_law 752 = .ok (.iload_n 3, 1) := by decide +kernel
theorem dL_law_753 : decode cL_law 753 = .ok (.iconst 1, 1) := by decide +kernel
theorem dL_law_754 : decode cL_law 754 = .ok (.iadd, 1) := by decide +kernel
theorem dL_law_755 : decode cL_law 755 = .ok (.iaload, 1) := by decide +kernel
theorem dL_law_756 : decode cL_law 756 = .ok (.aload_n 0, 1) := by decide +kernel
theorem dL_law_757 : decode cL_law 757 = .ok (.iload_n 3, 1) := by decide +kernel
theorem dL_law_758 : decode cL_law 758 = .ok (.iconst 2, 1) := by decide +kernel
theorem dL_law_759 : decode cL_law 759 = .ok (.iadd, 1) := by decide +kernel
theorem dL_law_760 : decode cL_law 760 = .ok (.iaload, 1) := by decide +kernel
theorem dL_law_761 : decode cL_law 761 = .ok (.aload_n 0, 1) := by decide +kernel
theorem dL_law_762 : decode cL_law 762 = .ok (.iload_n 3, 1) := by decide +kernel
theorem dL_law_763 : decode cL_law 763 = .ok (.iconst 3, 1) := by decide +kernel
theorem dL_law_764 : decode cL_law 764 = .ok (.iadd, 1) := by decide +kernel
theorem dL_law_765 : decode cL_law 765 = .ok (.iaload, 1) := by decide +kernel
theorem dL_law_766 : decode cL_law 766 = .ok (.aload_n 0, 1) := by decide +kernel
theorem dL_law_767 : decode cL_law 767 = .ok (.iload_n 3, 1) := by decide +kernel
theorem dL_law_768 : decode cL_law 768 = .ok (.iconst 4, 1) := by decide +kernel
theorem dL_law_769 : decode cL_law 769 = .ok (.iadd, 1) := by decide +kernel
theorem dL_law_770 : decode cL_law 770 = .ok (.iaload, 1) := by decide +kernel
theorem dL_law_771 : decode cL_law 771 = .ok (.invokevirtual 102, 3) := by decide +kernel
theorem dL_law_774 : decode cL_law 774 = .ok (.if_icmp .eq 348, 3) := by decide +kernel
theorem dL_law_777 : decode cL_law 777 = .ok (.iconst 0, 1) := by decide +kernel
theorem dL_law_778 : decode cL_law 778 = .ok (.ireturn, 1) := by decide +kernel
theorem dL_law_779 : decode cL_law 779 = .ok (.aload_n 1, 1) := by decide +kernel
theorem dL_law_780 : decode cL_law 780 = .ok (.aload_n 0, 1) := by decide +kernel
theorem dL_law_781 : decode cL_law 781 = .ok (.iload_n 3, 1) := by decide +kernel
theorem dL_law_782 : decode cL_law 782 = .ok (.iconst 1, 1) := by decide +kernel
theorem dL_law_783 : decode cL_law 783 = .ok (.iadd, 1) := by decide +kernel
theorem dL_law_784 : decode cL_law 784 = .ok (.iaload, 1) := by decide +kernel
theorem dL_law_785 : decode cL_law 785 = .ok (.aload_n 0, 1) := by decide +kernel
theorem dL_law_786 : decode cL_law 786 = .ok (.iload_n 3, 1) := by decide +kernel
theorem dL_law_787 : decode cL_law 787 = .ok (.iconst 2, 1) := by decide +kernel
theorem dL_law_788 : decode cL_law 788 = .ok (.iadd, 1) := by decide +kernel
theorem dL_law_789 : decode cL_law 789 = .ok (.iaload, 1) := by decide +kernel
theorem dL_law_790 : decode cL_law 790 = .ok (.aload_n 0, 1) := by decide +kernel
theorem dL_law_791 : decode cL_law 791 = .ok (.iload_n 3, 1) := by decide +kernel
theorem dL_law_792 : decode cL_law 792 = .ok (.iconst 3, 1) := by decide +kernel
theorem dL_law_793 : decode cL_law 793 = .ok (.iadd, 1) := by decide +kernel
theorem dL_law_794 : decode cL_law 794 = .ok (.iaload, 1) := by decide +kernel
theorem dL_law_795 : decode cL_law 795 = .ok (.aload_n 0, 1) := by decide +kernel
theorem dL_law_796 : decode cL_law 796 = .ok (.iload_n 3, 1) := by decide +kernel
theorem dL_law_797 : decode cL_law 797 = .ok (.iconst 4, 1) := by decide +kernel
theorem dL_law_798 : decode cL_law 798 = .ok (.iadd, 1) := by decide +kernel
theorem dL_law_799 : decode cL_law 799 = .ok (.iaload, 1) := by decide +kernel
theorem dL_law_800 : decode cL_law 800 = .ok (.aload_n 0, 1) := by decide +kernel
theorem dL_law_801 : decode cL_law 801 = .ok (.iload_n 3, 1) := by decide +kernel
theorem dL_law_802 : decode cL_law 802 = .ok (.iconst 5, 1) := by decide +kernel
theorem dL_law_803 : decode cL_law 803 = .ok (.iadd, 1) := by decide +kernel
theorem dL_law_804 : decode cL_law 804 = .ok (.iaload, 1) := by decide +kernel
theorem dL_law_805 : decode cL_law 805 = .ok (.invokevirtual 103, 3) := by decide +kernel
theorem dL_law_808 : decode cL_law 808 = .ok (.aload_n 2, 1) := by decide +kernel
theorem dL_law_809 : decode cL_law 809 = .ok (.aload_n 0, 1) := by decide +kernel
theorem dL_law_810 : decode cL_law 810 = .ok (.iload_n 3, 1) := by decide +kernel
theorem dL_law_811 : decode cL_law 811 = .ok (.iconst 1, 1) := by decide +kernel
theorem dL_law_812 : decode cL_law 812 = .ok (.iadd, 1) := by decide +kernel
theorem dL_law_813 : decode cL_law 813 = .ok (.iaload, 1) := by decide +kernel
theorem dL_law_814 : decode cL_law 814 = .ok (.aload_n 0, 1) := by decide +kernel
theorem dL_law_815 : decode cL_law 815 = .ok (.iload_n 3, 1) := by decide +kernel
theorem dL_law_816 : decode cL_law 816 = .ok (.iconst 2, 1) := by decide +kernel
theorem dL_law_817 : decode cL_law 817 = .ok (.iadd, 1) := by decide +kernel
theorem dL_law_818 : decode cL_law 818 = .ok (.iaload, 1) := by decide +kernel
theorem dL_law_819 : decode cL_law 819 = .ok (.aload_n 0, 1) := by decide +kernel
theorem dL_law_820 : decode cL_law 820 = .ok (.iload_n 3, 1) := by decide +kernel
theorem dL_law_821 : decode cL_law 821 = .ok (.iconst 3, 1) := by decide +kernel
theorem dL_law_822 : decode cL_law 822 = .ok (.iadd, 1) := by decide +kernel
theorem dL_law_823 : decode cL_law 823 = .ok (.iaload, 1) := by decide +kernel
theorem dL_law_824 : decode cL_law 824 = .ok (.aload_n 0, 1) := by decide +kernel
theorem dL_law_825 : decode cL_law 825 = .ok (.iload_n 3, 1) := by decide +kernel
theorem dL_law_826 : decode cL_law 826 = .ok (.iconst 4, 1) := by decide +kernel
theorem dL_law_827 : decode cL_law 827 = .ok (.iadd, 1) := by decide +kernel
theorem dL_law_828 : decode cL_law 828 = .ok (.iaload, 1) := by decide +kernel
theorem dL_law_829 : decode cL_law 829 = .ok (.aload_n 0, 1) := by decide +kernel
theorem dL_law_830 : decode cL_law 830 = .ok (.iload_n 3, 1) := by decide +kernel
theorem dL_law_831 : decode cL_law 831 = .ok (.iconst 5, 1) := by decide +kernel
theorem dL_law_832 : decode cL_law 832 = .ok (.iadd, 1) := by decide +kernel
theorem dL_law_833 : decode cL_law 833 = .ok (.iaload, 1) := by decide +kernel
theorem dL_law_834 : decode cL_law 834 = .ok (.invokevirtual 106, 3) := by decide +kernel
theorem dL_law_837 : decode cL_law 837 = .ok (.if_icmp .eq 285, 3) := by decide +kernel
theorem dL_law_840 : decode cL_law 840 = .ok (.iconst 0, 1) := by decide +kernel
theorem dL_law_841 : decode cL_law 841 = .ok (.ireturn, 1) := by decide +kernel
theorem dL_law_842 : decode cL_law 842 = .ok (.aload_n 1, 1) := by decide +kernel
theorem dL_law_843 : decode cL_law 843 = .ok (.aload_n 0, 1) := by decide +kernel
theorem dL_law_844 : decode cL_law 844 = .ok (.iload_n 3, 1) := by decide +kernel
theorem dL_law_845 : decode cL_law 845 = .ok (.iconst 1, 1) := by decide +kernel
theorem dL_law_846 : decode cL_law 846 = .ok (.iadd, 1) := by decide +kernel
theorem dL_law_847 : decode cL_law 847 = .ok (.iaload, 1) := by decide +kernel
theorem dL_law_848 : decode cL_law 848 = .ok (.aload_n 0, 1) := by decide +kernel
theorem dL_law_849 : decode cL_law 849 = .ok (.iload_n 3, 1) := by decide +kernel
theorem dL_law_850 : decode cL_law 850 = .ok (.iconst 2, 1) := by decide +kernel
theorem dL_law_851 : decode cL_law 851 = .ok (.iadd, 1) := by decide +kernel
theorem dL_law_852 : decode cL_law 852 = .ok (.iaload, 1) := by decide +kernel
theorem dL_law_853 : decode cL_law 853 = .ok (.aload_n 0, 1) := by decide +kernel
theorem dL_law_854 : decode cL_law 854 = .ok (.iload_n 3, 1) := by decide +kernel
theorem dL_law_855 : decode cL_law 855 = .ok (.iconst 3, 1) := by decide +kernel
theorem dL_law_856 : decode cL_law 856 = .ok (.iadd, 1) := by decide +kernel
theorem dL_law_857 : decode cL_law 857 = .ok (.iaload, 1) := by decide +kernel
theorem dL_law_858 : decode cL_law 858 = .ok (.invokevirtual 107, 3) := by decide +kernel
theorem dL_law_861 : decode cL_law 861 = .ok (.aload_n 2, 1) := by decide +kernel
theorem dL_law_862 : decode cL_law 862 = .ok (.aload_n 0, 1) := by decide +kernel
theorem dL_law_863 : decode cL_law 863 = .ok (.iload_n 3, 1) := by decide +kernel
theorem dL_law_864 : decode cL_law 864 = .ok (.iconst 1, 1) := by decide +kernel
theorem dL_law_865 : decode cL_law 865 = .ok (.iadd, 1) := by decide +kernel
theorem dL_law_866 : decode cL_law 866 = .ok (.iaload, 1) := by decide +kernel
theorem dL_law_867 : decode cL_law 867 = .ok (.aload_n 0, 1) := by decide +kernel
theorem dL_law_868 : decode cL_law 868 = .ok (.iload_n 3, 1) := by decide +kernel
theorem dL_law_869 : decode cL_law 869 = .ok (.iconst 2, 1) := by decide +kernel
theorem dL_law_870 : decode cL_law 870 = .ok (.iadd, 1) := by decide +kernel
theorem dL_law_871 : decode cL_law 871 = .ok (.iaload, 1) := by decide +kernel
theorem dL_law_872 : decode cL_law 872 = .ok (.aload_n 0, 1) := by decide +kernel
theorem dL_law_873 : decode cL_law 873 = .ok (.iload_n 3, 1) := by decide +kernel
theorem dL_law_874 : decode cL_law 874 = .ok (.iconst 3, 1) := by decide +kernel
theorem dL_law_875 : decode cL_law 875 = .ok (.iadd, 1) := by decide +kernel
theorem dL_law_876 : decode cL_law 876 = .ok (.iaload, 1) := by decide +kernel
theorem dL_law_877 : decode cL_law 877 = .ok (.invokevirtual 110, 3) := by decide +kernel
theorem dL_law_880 : decode cL_law 880 = .ok (.if_icmp .eq 242, 3) := by decide +kernel
theorem dL_law_883 : decode cL_law 883 = .ok (.iconst 0, 1) := by decide +kernel
theorem dL_law_884 : decode cL_law 884 = .ok (.ireturn, 1) := by decide +kernel
theorem dL_law_885 : decode cL_law 885 = .ok (.aload_n 1, 1) := by decide +kernel
theorem dL_law_886 : decode cL_law 886 = .ok (.aload_n 0, 1) := by decide +kernel
theorem dL_law_887 : decode cL_law 887 = .ok (.iload_n 3, 1) := by decide +kernel
theorem dL_law_888 : decode cL_law 888 = .ok (.iconst 1, 1) := by decide +kernel
theorem dL_law_889 : decode cL_law 889 = .ok (.iadd, 1) := by decide +kernel
theorem dL_law_890 : decode cL_law 890 = .ok (.iaload, 1) := by decide +kernel
theorem dL_law_891 : decode cL_law 891 = .ok (.aload_n 0, 1) := by decide +kernel
theorem dL_law_892 : decode cL_law 892 = .ok (.iload_n 3, 1) := by decide +kernel
theorem dL_law_893 : decode cL_law 893 = .ok (.iconst 2, 1) := by decide +kernel
theorem dL_law_894 : decode cL_law 894 = .ok (.iadd, 1) := by decide +kernel
theorem dL_law_895 : decode cL_law 895 = .ok (.iaload, 1) := by decide +kernel
theorem dL_law_896 : decode cL_law 896 = .ok (.aload_n 0, 1) := by decide +kernel
theorem dL_law_897 : decode cL_law 897 = .ok (.iload_n 3, 1) := by decide +kernel
theorem dL_law_898 : decode cL_law 898 = .ok (.iconst 3, 1) := by decide +kernel
theorem dL_law_899 : decode cL_law 899 = .ok (.iadd, 1) := by decide +kernel
theorem dL_law_900 : decode cL_law 900 = .ok (.iaload, 1) := by decide +kernel
theorem dL_law_901 : decode cL_law 901 = .ok (.invokevirtual 111, 3) := by decide +kernel
theorem dL_law_904 : decode cL_law 904 = .ok (.aload_n 2, 1) := by decide +kernel
theorem dL_law_905 : decode cL_law 905 = .ok (.aload_n 0, 1) := by decide +kernel
theorem dL_law_906 : decode cL_law 906 = .ok (.iload_n 3, 1) := by decide +kernel
theorem dL_law_907 : decode cL_law 907 = .ok (.iconst 1, 1) := by decide +kernel
theorem dL_law_908 : decode cL_law 908 = .ok (.iadd, 1) := by decide +kernel
theorem dL_law_909 : decode cL_law 909 = .ok (.iaload, 1) := by decide +kernel
theorem dL_law_910 : decode cL_law 910 = .ok (.aload_n 0, 1) := by decide +kernel
theorem dL_law_911 : decode cL_law 911 = .ok (.iload_n 3, 1) := by decide +kernel
theorem dL_law_912 : decode cL_law 912 = .ok (.iconst 2, 1) := by decide +kernel
theorem dL_law_913 : decode cL_law 913 = .ok (.iadd, 1) := by decide +kernel
theorem dL_law_914 : decode cL_law 914 = .ok (.iaload, 1) := by decide +kernel
theorem dL_law_915 : decode cL_law 915 = .ok (.aload_n 0, 1) := by decide +kernel
theorem dL_law_916 : decode cL_law 916 = .ok (.iload_n 3, 1) := by decide +kernel
theorem dL_law_917 : decode cL_law 917 = .ok (.iconst 3, 1) := by decide +kernel
theorem dL_law_918 : decode cL_law 918 = .ok (.iadd, 1) := by decide +kernel
theorem dL_law_919 : decode cL_law 919 = .ok (.iaload, 1) := by decide +kernel
theorem dL_law_920 : decode cL_law 920 = .ok (.invokevirtual 114, 3) := by decide +kernel
theorem dL_law_923 : decode cL_law 923 = .ok (.if_icmp .eq 199, 3) := by decide +kernel
theorem dL_law_926 : decode cL_law 926 = .ok (.iconst 0, 1) := by decide +kernel
theorem dL_law_927 : decode cL_law 927 = .ok (.ireturn, 1) := by decide +kernel
theorem dL_law_928 : decode cL_law 928 = .ok (.aload_n 1, 1) := by decide +kernel
theorem dL_law_929 : decode cL_law 929 = .ok (.aload_n 0, 1) := by decide +kernel
theorem dL_law_930 : decode cL_law 930 = .ok (.iload_n 3, 1) := by decide +kernel
theorem dL_law_931 : decode cL_law 931 = .ok (.iconst 1, 1) := by decide +kernel
theorem dL_law_932 : decode cL_law 932 = .ok (.iadd, 1) := by decide +kernel
theorem dL_law_933 : decode cL_law 933 = .ok (.iaload, 1) := by decide +kernel
theorem dL_law_934 : decode cL_law 934 = .ok (.invokevirtual 115, 3) := by decide +kernel
theorem dL_law_937 : decode cL_law 937 = .ok (.aload_n 2, 1) := by decide +kernel
theorem dL_law_938 : decode cL_law 938 = .ok (.aload_n 0, 1) := by decide +kernel
theorem dL_law_939 : decode cL_law 939 = .ok (.iload_n 3, 1) := by decide +kernel
theorem dL_law_940 : decode cL_law 940 = .ok (.iconst 1, 1) := by decide +kernel
theorem dL_law_941 : decode cL_law 941 = .ok (.iadd, 1) := by decide +kernel
theorem dL_law_942 : decode cL_law 942 = .ok (.iaload, 1) := by decide +kernel
theorem dL_law_943 : decode cL_law 943 = .ok (.invokevirtual 118, 3) := by decide +kernel
theorem dL_law_946 : decode cL_law 946 = .ok (.if_icmp .eq 176, 3) := by decide +kernel
theorem dL_law_949 : decode cL_law 949 = .ok (.iconst 0, 1) := by decide +kernel
theorem dL_law_950 : decode cL_law 950 = .ok (.ireturn, 1) := by decide +kernel
theorem dL_law_951 : decode cL_law 951 = .ok (.aload_n 1, 1) := by decide +kernel
theorem dL_law_952 : decode cL_law 952 = .ok (.aload_n 0, 1) := by decide +kernel
theorem dL_law_953 : decode cL_law 953 = .ok (.iload_n 3, 1) := by decide +kernel
theorem dL_law_954 : decode cL_law 954 = .ok (.iconst 1, 1) := by decide +kernel
theorem dL_law_955 : decode cL_law 955 = .ok (.iadd, 1) := by decide +kernel
theorem dL_law_956 : decode cL_law 956 = .ok (.iaload, 1) := by decide +kernel
theorem dL_law_957 : decode cL_law 957 = .ok (.invokevirtual 119, 3) := by decide +kernel
theorem dL_law_960 : decode cL_law 960 = .ok (.aload_n 2, 1) := by decide +kernel
theorem dL_law_961 : decode cL_law 961 = .ok (.aload_n 0, 1) := by decide +kernel
theorem dL_law_962 : decode cL_law 962 = .ok (.iload_n 3, 1) := by decide +kernel
theorem dL_law_963 : decode cL_law 963 = .ok (.iconst 1, 1) := by decide +kernel
theorem dL_law_964 : decode cL_law 964 = .ok (.iadd, 1) := by decide +kernel
theorem dL_law_965 : decode cL_law 965 = .ok (.iaload, 1) := by decide +kernel
theorem dL_law_966 : decode cL_law 966 = .ok (.invokevirtual 122, 3) := by decide +kernel
theorem dL_law_969 : decode cL_law 969 = .ok (.if_icmp .eq 153, 3) := by decide +kernel
theorem dL_law_972 : decode cL_law 972 = .ok (.iconst 0, 1) := by decide +kernel
theorem dL_law_973 : decode cL_law 973 = .ok (.ireturn, 1) := by decide +kernel
theorem dL_law_974 : decode cL_law 974 = .ok (.aload_n 1, 1) := by decide +kernel
theorem dL_law_975 : decode cL_law 975 = .ok (.aload_n 0, 1) := by decide +kernel
theorem dL_law_976 : decode cL_law 976 = .ok (.iload_n 3, 1) := by decide +kernel
theorem dL_law_977 : decode cL_law 977 = .ok (.iconst 1, 1) := by decide +kernel
theorem dL_law_978 : decode cL_law 978 = .ok (.iadd, 1) := by decide +kernel
theorem dL_law_979 : decode cL_law 979 = .ok (.iaload, 1) := by decide +kernel
theorem dL_law_980 : decode cL_law 980 = .ok (.invokevirtual 123, 3) := by decide +kernel
theorem dL_law_983 : decode cL_law 983 = .ok (.aload_n 2, 1) := by decide +kernel
theorem dL_law_984 : decode cL_law 984 = .ok (.aload_n 0, 1) := by decide +kernel
theorem dL_law_985 : decode cL_law 985 = .ok (.iload_n 3, 1) := by decide +kernel
theorem dL_law_986 : decode cL_law 986 = .ok (.iconst 1, 1) := by decide +kernel
theorem dL_law_987 : decode cL_law 987 = .ok (.iadd, 1) := by decide +kernel
theorem dL_law_988 : decode cL_law 988 = .ok (.iaload, 1) := by decide +kernel
theorem dL_law_989 : decode cL_law 989 = .ok (.invokevirtual 126, 3) := by decide +kernel
theorem dL_law_992 : decode cL_law 992 = .ok (.if_icmp .eq 130, 3) := by decide +kernel
theorem dL_law_995 : decode cL_law 995 = .ok (.iconst 0, 1) := by decide +kernel
theorem dL_law_996 : decode cL_law 996 = .ok (.ireturn, 1) := by decide +kernel
theorem dL_law_997 : decode cL_law 997 = .ok (.aload_n 1, 1) := by decide +kernel
theorem dL_law_998 : decode cL_law 998 = .ok (.aload_n 0, 1) := by decide +kernel
theorem dL_law_999 : decode cL_law 999 = .ok (.iload_n 3, 1) := by decide +kernel
theorem dL_law_1000 : decode cL_law 1000 = .ok (.iconst 1, 1) := by decide +kernel
theorem dL_law_1001 : decode cL_law 1001 = .ok (.iadd, 1) := by decide +kernel
theorem dL_law_1002 : decode cL_law 1002 = .ok (.iaload, 1) := by decide +kernel
theorem dL_law_1003 : decode cL_law 1003 = .ok (.aload_n 0, 1) := by decide +kernel
theorem dL_law_1004 : decode cL_law 1004 = .ok (.iload_n 3, 1) := by decide +kernel
theorem dL_law_1005 : decode cL_law 1005 = .ok (.iconst 2, 1) := by decide +kernel
theorem dL_law_1006 : decode cL_law 1006 = .ok (.iadd, 1) := by decide +kernel
theorem dL_law_1007 : decode cL_law 1007 = .ok (.iaload, 1) := by decide +kernel
theorem dL_law_1008 : decode cL_law 1008 = .ok (.invokevirtual 127, 3) := by decide +kernel
theorem dL_law_1011 : decode cL_law 1011 = .ok (.aload_n 2, 1) := by decide +kernel
theorem dL_law_1012 : decode cL_law 1012 = .ok (.aload_n 0, 1) := by decide +kernel
theorem dL_law_1013 : decode cL_law 1013 = .ok (.iload_n 3, 1) := by decide +kernel
theorem dL_law_1014 : decode cL_law 1014 = .ok (.iconst 1, 1) := by decide +kernel
theorem dL_law_1015 : decode cL_law 1015 = .ok (.iadd, 1) := by decide +kernel
theorem dL_law_1016 : decode cL_law 1016 = .ok (.iaload, 1) := by decide +kernel
theorem dL_law_1017 : decode cL_law 1017 = .ok (.aload_n 0, 1) := by decide +kernel
theorem dL_law_1018 : decode cL_law 1018 = .ok (.iload_n 3, 1) := by decide +kernel
theorem dL_law_1019 : decode cL_law 1019 = .ok (.iconst 2, 1) := by decide +kernel
theorem dL_law_1020 : decode cL_law 1020 = .ok (.iadd, 1) := by decide +kernel
theorem dL_law_1021 : decode cL_law 1021 = .ok (.iaload, 1) := by decide +kernel
theorem dL_law_1022 : decode cL_law 1022 = .ok (.invokevirtual 130, 3) := by decide +kernel
theorem dL_law_1025 : decode cL_law 1025 = .ok (.if_icmp .eq 97, 3) := by decide +kernel
theorem dL_law_1028 : decode cL_law 1028 = .ok (.iconst 0, 1) := by decide +kernel
theorem dL_law_1029 : decode cL_law 1029 = .ok (.ireturn, 1) := by decide +kernel
theorem dL_law_1030 : decode cL_law 1030 = .ok (.aload_n 1, 1) := by decide +kernel
theorem dL_law_1031 : decode cL_law 1031 = .ok (.aload_n 0, 1) := by decide +kernel
theorem dL_law_1032 : decode cL_law 1032 = .ok (.iload_n 3, 1) := by decide +kernel
theorem dL_law_1033 : decode cL_law 1033 = .ok (.iconst 1, 1) := by decide +kernel
theorem dL_law_1034 : decode cL_law 1034 = .ok (.iadd, 1) := by decide +kernel
theorem dL_law_1035 : decode cL_law 1035 = .ok (.iaload, 1) := by decide +kernel
theorem dL_law_1036 : decode cL_law 1036 = .ok (.aload_n 0, 1) := by decide +kernel
theorem dL_law_1037 : decode cL_law 1037 = .ok (.iload_n 3, 1) := by decide +kernel
theorem dL_law_1038 : decode cL_law 1038 = .ok (.iconst 2, 1) := by decide +kernel
theorem dL_law_1039 : decode cL_law 1039 = .ok (.iadd, 1) := by decide +kernel
theorem dL_law_1040 : decode cL_law 1040 = .ok (.iaload, 1) := by decide +kernel
theorem dL_law_1041 : decode cL_law 1041 = .ok (.invokevirtual 131, 3) := by decide +kernel
theorem dL_law_1044 : decode cL_law 1044 = .ok (.aload_n 2, 1) := by decide +kernel
theorem dL_law_1045 : decode cL_law 1045 = .ok (.aload_n 0, 1) := by decide +kernel
theorem dL_law_1046 : decode cL_law 1046 = .ok (.iload_n 3, 1) := by decide +kernel
theorem dL_law_1047 : decode cL_law 1047 = .ok (.iconst 1, 1) := by decide +kernel
theorem dL_law_1048 : decode cL_law 1048 = .ok (.iadd, 1) := by decide +kernel
theorem dL_law_1049 : decode cL_law 1049 = .ok (.iaload, 1) := by decide +kernel
theorem dL_law_1050 : decode cL_law 1050 = .ok (.aload_n 0, 1) := by decide +kernel
theorem dL_law_1051 : decode cL_law 1051 = .ok (.iload_n 3, 1) := by decide +kernel
theorem dL_law_1052 : decode cL_law 1052 = .ok (.iconst 2, 1) := by decide +kernel
theorem dL_law_1053 : decode cL_law 1053 = .ok (.iadd, 1) := by decide +kernel
theorem dL_law_1054 : decode cL_law 1054 = .ok (.iaload, 1) := by decide +kernel
theorem dL_law_1055 : decode cL_law 1055 = .ok (.invokevirtual 134, 3) := by decide +kernel
theorem dL_law_1058 : decode cL_law 1058 = .ok (.if_icmp .eq 64, 3) := by decide +kernel
theorem dL_law_1061 : decode cL_law 1061 = .ok (.iconst 0, 1) := by decide +kernel
theorem dL_law_1062 : decode cL_law 1062 = .ok (.ireturn, 1) := by decide +kernel
theorem dL_law_1063 : decode cL_law 1063 = .ok (.aload_n 1, 1) := by decide +kernel
theorem dL_law_1064 : decode cL_law 1064 = .ok (.aload_n 0, 1) := by decide +kernel
theorem dL_law_1065 : decode cL_law 1065 = .ok (.iload_n 3, 1) := by decide +kernel
theorem dL_law_1066 : decode cL_law 1066 = .ok (.iconst 1, 1) := by decide +kernel
theorem dL_law_1067 : decode cL_law 1067 = .ok (.iadd, 1) := by decide +kernel
theorem dL_law_1068 : decode cL_law 1068 = .ok (.iaload, 1) := by decide +kernel
theorem dL_law_1069 : decode cL_law 1069 = .ok (.invokevirtual 135, 3) := by decide +kernel
theorem dL_law_1072 : decode cL_law 1072 = .ok (.aload_n 2, 1) := by decide +kernel
theorem dL_law_1073 : decode cL_law 1073 = .ok (.aload_n 0, 1) := by decide +kernel
theorem dL_law_1074 : decode cL_law 1074 = .ok (.iload_n 3, 1) := by decide +kernel
theorem dL_law_1075 : decode cL_law 1075 = .ok (.iconst 1, 1) := by decide +kernel
theorem dL_law_1076 : decode cL_law 1076 = .ok (.iadd, 1) := by decide +kernel
theorem dL_law_1077 : decode cL_law 1077 = .ok (.iaload, 1) := by decide +kernel
theorem dL_law_1078 : decode cL_law 1078 = .ok (.invokevirtual 138, 3) := by decide +kernel
theorem dL_law_1081 : decode cL_law 1081 = .ok (.if_icmp .eq 41, 3) := by decide +kernel
theorem dL_law_1084 : decode cL_law 1084 = .ok (.iconst 0, 1) := by decide +kernel
theorem dL_law_1085 : decode cL_law 1085 = .ok (.ireturn, 1) := by decide +kernel
theorem dL_law_1086 : decode cL_law 1086 = .ok (.aload_n 1, 1) := by decide +kernel
theorem dL_law_1087 : decode cL_law 1087 = .ok (.aload_n 0, 1) := by decide +kernel
theorem dL_law_1088 : decode cL_law 1088 = .ok (.iload_n 3, 1) := by decide +kernel
theorem dL_law_1089 : decode cL_law 1089 = .ok (.iconst 1, 1) := by decide +kernel
theorem dL_law_1090 : decode cL_law 1090 = .ok (.iadd, 1) := by decide +kernel
theorem dL_law_1091 : decode cL_law 1091 = .ok (.iaload, 1) := by decide +kernel
theorem dL_law_1092 : decode cL_law 1092 = .ok (.invokevirtual 139, 3) := by decide +kernel
theorem dL_law_1095 : decode cL_law 1095 = .ok (.aload_n 2, 1) := by decide +kernel
theorem dL_law_1096 : decode cL_law 1096 = .ok (.aload_n 0, 1) := by decide +kernel
theorem dL_law_1097 : decode cL_law 1097 = .ok (.iload_n 3, 1) := by decide +kernel
theorem dL_law_1098 : decode cL_law 1098 = .ok (.iconst 1, 1) := by decide +kernel
theorem dL_law_1099 : decode cL_law 1099 = .ok (.iadd, 1) := by decide +kernel
theorem dL_law_1100 : decode cL_law 1100 = .ok (.iaload, 1) := by decide +kernel
theorem dL_law_1101 : decode cL_law 1101 = .ok (.invokevirtual 142, 3) := by decide +kernel
theorem dL_law_1104 : decode cL_law 1104 = .ok (.if_icmp .eq 18, 3) := by decide +kernel
theorem dL_law_1107 : decode cL_law 1107 = .ok (.iconst 0, 1) := by decide +kernel
theorem dL_law_1108 : decode cL_law 1108 = .ok (.ireturn, 1) := by decide +kernel
theorem dL_law_1109 : decode cL_law 1109 = .ok (.aload_n 1, 1) := by decide +kernel
theorem dL_law_1110 : decode cL_law 1110 = .ok (.invokevirtual 143, 3) := by decide +kernel
theorem dL_law_1113 : decode cL_law 1113 = .ok (.aload_n 2, 1) := by decide +kernel
theorem dL_law_1114 : decode cL_law 1114 = .ok (.invokevirtual 146, 3) := by decide +kernel
theorem dL_law_1117 : decode cL_law 1117 = .ok (.if_icmp .eq 5, 3) := by decide +kernel
theorem dL_law_1120 : decode cL_law 1120 = .ok (.iconst 0, 1) := by decide +kernel
theorem dL_law_1121 : decode cL_law 1121 = .ok (.ireturn, 1) := by decide +kernel
theorem dL_law_1122 : decode cL_law 1122 = .ok (.iinc 3 6, 3) := by decide +kernel
theorem dL_law_1125 : decode cL_law 1125 = .ok (.goto (-1107), 3) := by decide +kernel
theorem dL_law_1128 : decode cL_law 1128 = .ok (.iconst 1, 1) := by decide +kernel
theorem dL_law_1129 : decode cL_law 1129 = .ok (.ireturn, 1) := by decide +kernel
end
section
/-! the heap of the system, its shape fixed: place p of tb_layL is a cell; what changes is a memory of ints, M place index -/
abbrev tb_LE : Type := (Nat × Nat) ⊕ ((Nat × List Nat) ⊕ (Nat × List (Option Nat)))
abbrev tb_Mem : Type := Nat → Nat → Int32
/-- an int array -/
abbrev tb_ar (n : Nat) : tb_LE := .inl (0, n)
abbrev tb_ob (ci : Nat) (fl : List (Option Nat)) : tb_LE := .inr (.inr (ci, fl))
abbrev tb_bo (p : Nat) : tb_LE := tb_ob 2 [some (p + 1), some (p + 2), some (p + 3), some (p + 4), some (p + 5), some (p + 6), some (p + 7), some (p + 8), none, none, none, none, none]
def tb_bk (p : Nat) : List tb_LE := [tb_bo p, tb_ar 8, tb_ar 8, tb_ar 8, tb_ar 8, tb_ar 8, tb_ar 8, tb_ar 8, tb_ar 20]
abbrev tb_beforeL : List Nat := (List.range 24).map (fun i => 24 + 9 * i)
abbrev tb_rowsL : List Nat := (List.range 8).map (fun i => 263 + 2 * i)
abbrev tb_imagesL : List Nat := (List.range 2).map (fun i => 279 + 9 * i)
abbrev tb_o0 : tb_LE := tb_ob 6 [some 1, some 2, some 4, some 13, some 22, some 240, some 260, some 261, none, none]
abbrev tb_oM : tb_LE := tb_ob 7 [some 298, some 299, some 300, some 301, none, some 302, none, none, some 303, some 304, some 305, some 306, some 307, none, some 308, some 309, none, none, none]
abbrev tb_oF : tb_LE := tb_ob 3 [some 241, some 250, some 259, none, none]
abbrev tb_ro (p : Nat) : tb_LE := tb_ob 4 [some (p + 1), none, none, none]
def tb_layL : List tb_LE :=
  [tb_o0, .inr (.inl (2, tb_rowsL)), tb_ob 5 [some 3, none, none], tb_ar 60] ++ (tb_bk 4 ++ (tb_bk 13 ++
  ([tb_ob 0 [some 23, none, none], .inr (.inl (3, tb_beforeL))] ++ ((List.range 24).flatMap (fun i => tb_bk (24 + 9 * i)) ++
  ([tb_oF] ++ (tb_bk 241 ++ (tb_bk 250 ++ ([tb_ar 12, .inr (.inl (3, tb_imagesL)), tb_ob 1 [some 262, none], tb_ar 16] ++
  ((List.range 8).flatMap (fun i => [tb_ro (263 + 2 * i), tb_ar 40]) ++ (tb_bk 279 ++ (tb_bk 288 ++
  [tb_oM, tb_ar 8, tb_ar 8, tb_ar 320, tb_ar 40, tb_ar 60, tb_ar 63, tb_ar 63, tb_ar 126, .inl (1, 2), tb_ar 1104, tb_ar 63, tb_ar 16])))))))))))
theorem tb_layL_len : tb_layL.length = 310 := by decide +kernel
def tb_lay (p : Nat) : tb_LE := tb_layL.getD p (.inl (9, 0))
theorem tb_lay_lt {p : Nat} {e : tb_LE} (h : tb_lay p = e) (he : e ≠ .inl (9, 0)) : p < 310 := by
  rcases Nat.lt_or_ge p 310 with q | q
  · exact q
  · exfalso
    apply he
    have hn : tb_layL[p]? = none := List.getElem?_eq_none (by rw [tb_layL_len]; exact q)
    rw [← h, tb_lay, List.getD_eq_getElem?_getD, hn]
    rfl
/-- a basket stands at place p -/
abbrev tb_B (p : Nat) : Prop := tb_lay p = tb_bo p ∧ tb_lay (p + 1) = tb_ar 8 ∧ tb_lay (p + 2) = tb_ar 8 ∧ tb_lay (p + 3) = tb_ar 8 ∧ tb_lay (p + 4) = tb_ar 8 ∧ tb_lay (p + 5) = tb_ar 8 ∧ tb_lay (p + 6) = tb_ar 8 ∧ tb_lay (p + 7) = tb_ar 8 ∧ tb_lay (p + 8) = tb_ar 20
abbrev tb_R (p : Nat) : Prop := tb_lay p = tb_ro p ∧ tb_lay (p + 1) = tb_ar 40
/-- the machine's own numbers: classes, array classes, addresses by place, which addresses are ours, the static tables' addresses -/
abbrev tb_GT : Type := va_G × (Nat → ClassId) × (Nat → Nat) × (Nat → Prop) × (Nat → Nat)
abbrev tb_ad (g : tb_GT) : Nat → Nat := g.2.2.1
abbrev tb_A (g : tb_GT) : Nat → Prop := g.2.2.2.1
def tb_fs (ad : Nat → Nat) (m : Nat → Int32) : Nat → List (Option Nat) → List Value
  | _, [] => []
  | k, none :: t => .int (m k) :: tb_fs ad m (k + 1) t
  | k, some q :: t => .ref (ad q) :: tb_fs ad m (k + 1) t
def tb_cell (cA : Nat → ClassId) (ad : Nat → Nat) (e : tb_LE) (m : Nat → Int32) : va_E := match e with
  | .inl (k, n) => .inl (cA k, n, .inl m)
  | .inr (.inl (k, l)) => .inl (cA k, l.length, .inr (.inr (.inr (.inr (fun i => (l[i]?).map ad)))))
  | .inr (.inr (ci, fl)) => .inr (ci, tb_fs ad m 0 fl)
def tb_w (g : tb_GT) (M : tb_Mem) : va_W := (List.range 310).map (fun p => (tb_ad g p, tb_cell g.2.1 (tb_ad g) (tb_lay p) (M p)))
def tb_tys (g : tb_GT) : List (ClassId × FieldType) := [(g.2.1 0, .int), (g.2.1 1, .boolean), (g.2.1 2, .object RX4), (g.2.1 3, .object RX2)]
def tb_P (g : tb_GT) (M : tb_Mem) (H : Heap) : Prop := va_P g.1 vwCl (tb_w g M) H
def tb_row (M : tb_Mem) (p : Nat) (f : Nat → Int32) : tb_Mem := fun q => if q = p then f else M q
def tb_up (M : tb_Mem) (p k : Nat) (v : Int32) : tb_Mem := tb_row M p (upd (M p) k v)
theorem tb_fs_get (ad : Nat → Nat) (m : Nat → Int32) : ∀ (fl : List (Option Nat)) (k0 k : Nat), (tb_fs ad m k0 fl)[k]? = (fl[k]?).map (fun o => match o with | none => .int (m (k0 + k)) | some q => .ref (ad q))
  | [], k0, k => by simp [tb_fs]
  | none :: t, k0, 0 => by simp [tb_fs]
  | some q :: t, k0, 0 => by simp [tb_fs]
  | none :: t, k0, k + 1 => by
    have h := tb_fs_get ad m t (k0 + 1) k
    simp only [tb_fs, List.getElem?_cons_succ, h, show k0 + 1 + k = k0 + (k + 1) by omega]
  | some q :: t, k0, k + 1 => by
    have h := tb_fs_get ad m t (k0 + 1) k
    simp only [tb_fs, List.getElem?_cons_succ, h, show k0 + 1 + k = k0 + (k + 1) by omega]
theorem tb_fs_set (ad : Nat → Nat) (m : Nat → Int32) (fl : List (Option Nat)) (k : Nat) (v : Int32) (h : fl[k]? = some none) : (tb_fs ad m 0 fl).set k (.int v) = tb_fs ad (upd m k v) 0 fl := by
  apply List.ext_getElem?
  intro j
  have hlt : k < (tb_fs ad m 0 fl).length := by
    have h1 := tb_fs_get ad m fl 0 k
    rw [h] at h1
    exact (List.getElem?_eq_some_iff.mp h1).1
  rw [tb_fs_get]
  by_cases hj : j = k
  · subst hj
    rw [List.getElem?_set_self hlt, h]
    simp [upd]
  · rw [List.getElem?_set_ne (Ne.symm hj), tb_fs_get]
    cases fl[j]? with
    | none => rfl
    | some o => cases o with
      | none => simp [upd, hj]
      | some q => rfl
theorem tb_w_get (g : tb_GT) (M : tb_Mem) {p : Nat} (h : p < 310) : (tb_w g M)[p]? = some (tb_ad g p, tb_cell g.2.1 (tb_ad g) (tb_lay p) (M p)) := by
  simp [tb_w, h]
theorem tb_w_set (g : tb_GT) (M : tb_Mem) (p : Nat) (f : Nat → Int32) {e : va_E} (he : e = tb_cell g.2.1 (tb_ad g) (tb_lay p) f) (h : p < 310) : (tb_w g M).set p (tb_ad g p, e) = tb_w g (tb_row M p f) := by
  apply List.ext_getElem?
  intro j
  have hlt : p < (tb_w g M).length := by simp [tb_w, h]
  by_cases hj : j = p
  · subst hj
    rw [List.getElem?_set_self hlt, tb_w_get g _ h, he]
    simp [tb_row]
  · rw [List.getElem?_set_ne (Ne.symm hj)]
    by_cases hj2 : j < 310
    · rw [tb_w_get g _ hj2, tb_w_get g _ hj2]
      simp [tb_row, hj]
    · simp [tb_w, hj2]
/-- the static tables: 0 PARENT, 1 SIZE_BODY, 2 MARK_BODY -/
def tb_tab (k j : Nat) : Int32 := (([[-1, 0, 1, 1, 0, 4], [10, 11, 12, 11, 13, 14], [20, 21, 24, 22, 23, 23]] : List (List Int32)).getD k []).getD j 0
def tb_St (g : tb_GT) (U : State) : Prop :=
  (va_Z RX6 "PARENT" "[I" (.ref (g.2.2.2.2 0)) (tb_A g) U U.heap ∧ va_T .int (g.2.2.2.2 0) 6 (fun j => .int (tb_tab 0 j)) (tb_A g) U U.heap) ∧
  (va_Z RX1 "SIZE_BODY" "[I" (.ref (g.2.2.2.2 1)) (tb_A g) U U.heap ∧ va_T .int (g.2.2.2.2 1) 6 (fun j => .int (tb_tab 1 j)) (tb_A g) U U.heap) ∧
  (va_Z RX1 "MARK_BODY" "[I" (.ref (g.2.2.2.2 2)) (tb_A g) U U.heap ∧ va_T .int (g.2.2.2.2 2) 6 (fun j => .int (tb_tab 2 j)) (tb_A g) U U.heap)
/-- what the tables say of a state -/
def tb_G (g : tb_GT) (U : State) : Prop :=
  va_K g.1 vwCl (tb_tys g) U ∧ (∀ i j, i < 310 → j < 310 → tb_ad g i = tb_ad g j → i = j) ∧ (∀ i, i < 310 → tb_A g (tb_ad g i)) ∧
  va_Nw (.methodLinkNest RX5 48 yX6_within RX6) U ∧ va_Nw (.methodLinkNest RX3 121 yX6_power RX6) U ∧ tb_St g U
theorem tb_St.mv {g : tb_GT} {s U : State} {H : Heap} {locs : List Loc} (h : tb_St g s) (hS : va_S (tb_A g) s.heap H locs) (hU : U.heap = H) (hW : s.vm.Alike U.vm) : tb_St g U := by
  subst hU
  obtain ⟨⟨a1, a2⟩, ⟨b1, b2⟩, c1, c2⟩ := h
  exact ⟨⟨(a1.kept hS.2.1).moved hW, (a2.kept hS.2.1).moved hW⟩, ⟨(b1.kept hS.2.1).moved hW, (b2.kept hS.2.1).moved hW⟩, (c1.kept hS.2.1).moved hW, (c2.kept hS.2.1).moved hW⟩
theorem tb_G.mv {g : tb_GT} {s U : State} {H : Heap} {locs : List Loc} (h : tb_G g s) (hS : va_S (tb_A g) s.heap H locs) (hU : U.heap = H) (hW : s.WarmedH U.vm) : tb_G g U := by
  obtain ⟨h1, h2, h3, h4, h5, h6⟩ := h
  exact ⟨h1.moved hW.alike, h2, h3, h4.warmM hW, h5.warmM hW, h6.mv hS hU hW.alike⟩
theorem tb_G.calling {g : tb_GT} {U : State} (gf : JFrame) (mk : MethodId) (a : Array Value) (h : tb_G g U) : tb_G g (U.calling gf mk a) := by
  obtain ⟨h1, h2, h3, h4, h5, h6⟩ := h
  exact ⟨va_K.moved (u := U) (U := U.calling gf mk a) (Vm.Alike.refl U.vm) h1, h2, h3, va_Nw.same rfl (u := U) (U := U.calling gf mk a) rfl h4, va_Nw.same rfl (u := U) (U := U.calling gf mk a) rfl h5, tb_St.mv (s := U) (U := U.calling gf mk a) h6 va_S.rf rfl (Vm.Alike.refl U.vm)⟩
theorem tb_G.D {g : tb_GT} {U : State} (h : tb_G g U) (M : tb_Mem) : va_D (tb_A g) (tb_w g M) := by
  have key : ∀ (k : Nat) (q : Nat × va_E), (tb_w g M)[k]? = some q → k < 310 ∧ q.1 = tb_ad g k := by
    intro k q hk
    have hl : k < (tb_w g M).length := (List.getElem?_eq_some_iff.mp hk).1
    have hl2 : k < 310 := by simpa [tb_w] using hl
    rw [tb_w_get g M hl2] at hk
    cases hk
    exact ⟨hl2, rfl⟩
  refine ⟨fun i j x y hi hj hxy => ?_, fun k q hk => ?_⟩
  · obtain ⟨a1, a2⟩ := key i x hi
    obtain ⟨b1, b2⟩ := key j y hj
    exact h.2.1 i j a1 b1 (by rw [← a2, ← b2]; exact hxy)
  · obtain ⟨a1, a2⟩ := key k q hk
    rw [a2]
    exact h.2.2.1 k a1
/-- a method's contract: from memory M with the arguments as it comes to memory M' and the answer o -/
def tb_Q (g : tb_GT) (M' : tb_Mem) (o : Option Value) : Array Value → State → Outcome → State → Prop := fun _ st oc t => oc = .returned o ∧ tb_P g M' t.heap ∧ va_F (tb_A g) st t
def tb_Pre (g : tb_GT) (M : tb_Mem) (as : List Value) : Array Value → State → Prop := va_Pc as (fun U => tb_P g M U.heap ∧ tb_G g U)
def tb_C (g : tb_GT) (l : Launch) (y : MethodName) (cw : Cond) (rm : Room) (as : List Value) (M M' : tb_Mem) (o : Option Value) : Prop :=
  Met l y (cw :: tb_ALL) rm (tb_Pre g M as) (tb_Q g M' o) 0 0 (tb_A g)
theorem tb_blind (g : tb_GT) (M : tb_Mem) (as : List Value) : FrameBlind (tb_Pre g M as) := fun a U gf mk h => ⟨h.1, h.2.1, h.2.2.calling gf mk a⟩
/-- what stands fast in a method's walk -/
def tb_F (g : tb_GT) (cc : ByteArray) (nL : Nat) (own : String) (ret : Option FieldType) (cw : Cond) (p : Program) (s : State) (m : MethodId) (args : Array Value) (meth : Method) (c : Code) : Prop :=
  CallFix p m c cc nL s args (cw :: tb_ALL) own ∧ meth.sig.returnType = ret ∧ meth.locks = false ∧ tb_G g s
theorem tb_entry {g : tb_GT} {l : Launch} {y : MethodName} {cc : ByteArray} {nL : Nat} {ret : Option FieldType} {rm : Room} {as : List Value} {M M' : tb_Mem} {o : Option Value} (hy : plainName y.cls = true) (hn : (lg_sl as).length ≤ nL)
    (body : ∀ (p : Program) (e : Env) (s : State) (m : MethodId) (below : List Frame) (meth : Method) (c : Code), tb_F g cc nL y.cls ret (Cond.code y cc nL ret) p s m as.toArray meth c → tb_P g M s.heap → va_S (tb_A g) s.heap s.heap [] → ∀ ls : Array Slot, lv_has ls nL (lv_args 0 as) → W p l e rm s m as.toArray below meth c s.heap [] 0 0 (MQ below (tb_Q g M' o) as.toArray s 0 0 (tb_A g)) (F0 m 0 ls [])) :
    tb_C g l y (Cond.code y cc nL ret) rm as M M' o := by
  refine Met.ofW (cc := cc) (maxL := nL) (ret := ret) hy rfl ?_
  intro p e s m args below meth c s₁ B hml hv
  obtain ⟨rfl, hP, hG⟩ := hv
  have hts := atoms_spec (ws := Cond.code y cc nL ret :: tb_ALL) B.pre
  rw [lg_entry_eq]
  exact body p e s m below meth c ⟨⟨B.exec, B.bytes, hml, findClass_of_methodNamed B.named, hts⟩, B.returns, B.notSynchronized, hG⟩ hP va_S.rf _ (lv_entry as hn)
section TBW
variable {p : Program} {l : Launch} {e : Env} {R : Room} {s : State} {m : MethodId} {args : Array Value} {below : List Frame} {meth : Method} {c : Code} {H : Heap} {locs : List Loc} {cells slots : Nat} {Q : State → Prop}
variable {g : tb_GT} {cc : ByteArray} {nL : Nat} {own : String} {ret : Option FieldType} {cw : Cond} {pc : Nat} {ls : Array Slot} {rest : List Value} {M : tb_Mem}
theorem tb_hts (F : tb_F g cc nL own ret cw p s m args meth c) {w : Cond} (h : w ∈ tb_ALL) : w.before args s = true := F.1.2.2.2.2 w (List.mem_cons_of_mem _ h)
theorem tb_at (hP : tb_P g M H) {q : Nat} {x : tb_LE} (hl : tb_lay q = x) (hx : x ≠ .inl (9, 0)) : (tb_w g M)[q]? = some (tb_ad g q, tb_cell g.2.1 (tb_ad g) x (M q)) := by
  rw [tb_w_get g M (tb_lay_lt hl hx), hl]
theorem tb_iald (F : tb_F g cc nL own ret cw p s m args meth c) (hP : tb_P g M H) {q n : Nat} (hl : tb_lay q = tb_ar n) {i : Int32} {k : Nat} (hk : i.toNatClampNeg = k) (hin : vp_in i n) (hdg : decode cc pc = .ok (.iaload, 1))
    (kk : W p l e R s m args below meth c H locs cells slots Q (F0 m (pc + 1) ls (.int (M q k) :: rest))) : W p l e R s m args below meth c H locs cells slots Q (F0 m pc ls (.int i :: .ref (tb_ad g q) :: rest)) := by
  subst hk
  exact va_iald F.1.1 F.1.2.1 F.2.2.2.1 hP q 0 (tb_at hP hl (by simp)) rfl hin hdg kk
theorem tb_zald (F : tb_F g cc nL own ret cw p s m args meth c) (hP : tb_P g M H) {q n : Nat} (hl : tb_lay q = .inl (1, n)) {i : Int32} {k : Nat} (hk : i.toNatClampNeg = k) (hin : vp_in i n) (hdg : decode cc pc = .ok (.baload, 1))
    (kk : W p l e R s m args below meth c H locs cells slots Q (F0 m (pc + 1) ls (.int (M q k) :: rest))) : W p l e R s m args below meth c H locs cells slots Q (F0 m pc ls (.int i :: .ref (tb_ad g q) :: rest)) := by
  subst hk
  exact va_zald F.1.1 F.1.2.1 F.2.2.2.1 hP q 1 (tb_at hP hl (by simp)) rfl hin hdg kk
theorem tb_iast (F : tb_F g cc nL own ret cw p s m args meth c) (hP : tb_P g M H) (hS : va_S (tb_A g) s.heap H locs) {q n : Nat} (hl : tb_lay q = tb_ar n) {i x : Int32} {k : Nat} (hk : i.toNatClampNeg = k) (hin : vp_in i n) (hdg : decode cc pc = .ok (.iastore, 1))
    (kk : ∀ (H1 : Heap) (locs1 : List Loc), tb_P g (tb_up M q k x) H1 → va_S (tb_A g) s.heap H1 locs1 → W p l e R s m args below meth c H1 locs1 cells slots Q (F0 m (pc + 1) ls rest)) : W p l e R s m args below meth c H locs cells slots Q (F0 m pc ls (.int x :: .int i :: .ref (tb_ad g q) :: rest)) := by
  subst hk
  have hq := tb_lay_lt hl (by simp)
  refine va_iast F.1.1 F.1.2.1 F.2.2.2.1 hP (F.2.2.2.D M) hS q 0 (tb_at hP hl (by simp)) rfl hin hdg (fun H1 locs1 a1 a2 a3 => kk H1 locs1 ?_ a3)
  rw [tb_w_set g M q (upd (M q) i.toNatClampNeg x) (by rw [hl]; rfl) hq] at a1
  exact a1
theorem tb_zast (F : tb_F g cc nL own ret cw p s m args meth c) (hP : tb_P g M H) (hS : va_S (tb_A g) s.heap H locs) {q n : Nat} (hl : tb_lay q = .inl (1, n)) {i x : Int32} {k : Nat} (hk : i.toNatClampNeg = k) (hx : vp_nar .boolean x = x) (hin : vp_in i n) (hdg : decode cc pc = .ok (.bastore, 1))
    (kk : ∀ (H1 : Heap) (locs1 : List Loc), tb_P g (tb_up M q k x) H1 → va_S (tb_A g) s.heap H1 locs1 → W p l e R s m args below meth c H1 locs1 cells slots Q (F0 m (pc + 1) ls rest)) : W p l e R s m args below meth c H locs cells slots Q (F0 m pc ls (.int x :: .int i :: .ref (tb_ad g q) :: rest)) := by
  subst hk
  have hq := tb_lay_lt hl (by simp)
  refine va_zast F.1.1 F.1.2.1 F.2.2.2.1 hP (F.2.2.2.D M) hS q 1 (tb_at hP hl (by simp)) rfl hin hdg (fun H1 locs1 a1 a2 a3 => kk H1 locs1 ?_ a3)
  rw [hx, tb_w_set g M q (upd (M q) i.toNatClampNeg x) (by rw [hl]; rfl) hq] at a1
  exact a1
theorem tb_aald (F : tb_F g cc nL own ret cw p s m args meth c) (hP : tb_P g M H) {q k : Nat} {L : List Nat} {C : String} (hl : tb_lay q = .inr (.inl (k, L))) (ht : (tb_tys g)[k]? = some (g.2.1 k, .object C)) {i : Int32} (hin : vp_in i L.length) {r : Nat} (hr : L[i.toNatClampNeg]? = some r) (hdg : decode cc pc = .ok (.aaload, 1))
    (kk : W p l e R s m args below meth c H locs cells slots Q (F0 m (pc + 1) ls (.ref (tb_ad g r) :: rest))) : W p l e R s m args below meth c H locs cells slots Q (F0 m pc ls (.int i :: .ref (tb_ad g q) :: rest)) := by
  refine va_aldq F.1.1 F.1.2.1 F.2.2.2.1 hP q k (tb_at hP hl (by simp)) ht hin hdg ?_
  rw [hr]
  exact kk
theorem tb_alen (F : tb_F g cc nL own ret cw p s m args meth c) (hP : tb_P g M H) {q n : Nat} (hl : tb_lay q = tb_ar n) {v : Int32} (hv : Int32.ofNat n = v) (hdg : decode cc pc = .ok (.arraylength, 1))
    (kk : W p l e R s m args below meth c H locs cells slots Q (F0 m (pc + 1) ls (.int v :: rest))) : W p l e R s m args below meth c H locs cells slots Q (F0 m pc ls (.ref (tb_ad g q) :: rest)) :=
  va_alen F.1.1 F.1.2.1 F.2.2.2.1 hP q 0 (tb_at hP hl (by simp)) rfl hv hdg kk
theorem tb_geti (F : tb_F g cc nL own ret cw p s m args meth c) (hP : tb_P g M H) {q ci N : Nat} {C : String} {T : u_T} {fl : List (Option Nat)} (hl : tb_lay q = tb_ob ci fl) (hc : vwCl[ci]? = some (C, T, N)) (hin : ∀ w ∈ u_ws C T N, w ∈ tb_ALL) (k : Nat) (hk : k < N) (hf : fl[k]? = some none) {index : Nat} (hlink : Cond.fieldLink own index (T k).1 (T k).2.1 (T k).2.2.1 ∈ tb_ALL) (hdg : decode cc pc = .ok (.getfield index, 3))
    (kk : W p l e R s m args below meth c H locs cells slots Q (F0 m (pc + 3) ls (.int (M q k) :: rest))) : W p l e R s m args below meth c H locs cells slots Q (F0 m pc ls (.ref (tb_ad g q) :: rest)) := by
  refine va_get F.1.1 F.1.2.1 (fun w h => F.1.2.2.2.2 w h) (fun w h => List.mem_cons_of_mem _ (hin w h)) F.1.2.2.2.1 F.2.2.2.1 hP q (tb_at hP hl (by simp)) hc k hk (tb_hts F hlink) (fun _ h9 => h9) (v := .int (M q k)) ?_ hdg kk
  rw [tb_fs_get, hf]
  simp
theorem tb_getr (F : tb_F g cc nL own ret cw p s m args meth c) (hP : tb_P g M H) {q ci N : Nat} {C : String} {T : u_T} {fl : List (Option Nat)} (hl : tb_lay q = tb_ob ci fl) (hc : vwCl[ci]? = some (C, T, N)) (hin : ∀ w ∈ u_ws C T N, w ∈ tb_ALL) (k : Nat) (hk : k < N) {r : Nat} (hf : fl[k]? = some (some r)) {index : Nat} (hlink : Cond.fieldLink own index (T k).1 (T k).2.1 (T k).2.2.1 ∈ tb_ALL) (hdg : decode cc pc = .ok (.getfield index, 3))
    (kk : W p l e R s m args below meth c H locs cells slots Q (F0 m (pc + 3) ls (.ref (tb_ad g r) :: rest))) : W p l e R s m args below meth c H locs cells slots Q (F0 m pc ls (.ref (tb_ad g q) :: rest)) := by
  refine va_get F.1.1 F.1.2.1 (fun w h => F.1.2.2.2.2 w h) (fun w h => List.mem_cons_of_mem _ (hin w h)) F.1.2.2.2.1 F.2.2.2.1 hP q (tb_at hP hl (by simp)) hc k hk (tb_hts F hlink) (fun _ h9 => h9) (v := .ref (tb_ad g r)) ?_ hdg kk
  rw [tb_fs_get, hf]
  rfl
theorem tb_puti (F : tb_F g cc nL own ret cw p s m args meth c) (hP : tb_P g M H) (hS : va_S (tb_A g) s.heap H locs) {q ci N : Nat} {C : String} {T : u_T} {fl : List (Option Nat)} (hl : tb_lay q = tb_ob ci fl) (hc : vwCl[ci]? = some (C, T, N)) (hin : ∀ w ∈ u_ws C T N, w ∈ tb_ALL) (ty0 : Nat → FieldType) (hty : ∀ k, k < N → parseFieldDescriptor (T k).2.2.1 = some (ty0 k)) (hnm : ∀ a, a < N → ∀ b, b < N → a ≠ b → (T a).2.1 ≠ (T b).2.1) (k : Nat) (hk : k < N) (hf : fl[k]? = some none) (hfin : (T k).2.2.2 = false) {x : Int32} (hn : narrow (ty0 k) (.int x) = .int x) (hfit : fits (ty0 k) (.int x) = true) {index : Nat} (hlink : Cond.fieldLink own index (T k).1 (T k).2.1 (T k).2.2.1 ∈ tb_ALL) (hdg : decode cc pc = .ok (.putfield index, 3))
    (kk : ∀ (H1 : Heap) (locs1 : List Loc), tb_P g (tb_up M q k x) H1 → va_S (tb_A g) s.heap H1 locs1 → W p l e R s m args below meth c H1 locs1 cells slots Q (F0 m (pc + 3) ls rest)) : W p l e R s m args below meth c H locs cells slots Q (F0 m pc ls (.int x :: .ref (tb_ad g q) :: rest)) := by
  have hq := tb_lay_lt hl (by simp)
  refine va_put F.1.1 F.1.2.1 (fun w h => F.1.2.2.2.2 w h) (fun w h => List.mem_cons_of_mem _ (hin w h)) ty0 hty hnm F.1.2.2.2.1 F.2.2.2.1 hP (F.2.2.2.D M) hS q (tb_at hP hl (by simp)) hc k hk (tb_hts F hlink) (fun _ h9 => h9) hfin (hty k hk) hn hfit ?_ hdg (fun H1 locs1 a1 a2 a3 => kk H1 locs1 ?_ a3)
  · have h1 := tb_fs_get (tb_ad g) (M q) fl 0 k
    rw [hf] at h1
    exact (List.getElem?_eq_some_iff.mp h1).1
  · rw [tb_fs_set _ _ _ _ _ hf, tb_w_set g M q (upd (M q) k x) (by rw [hl]; rfl) hq] at a1
    exact a1
theorem tb_gets (F : tb_F g cc nL own ret cw p s m args meth c) (hS : va_S (tb_A g) s.heap H locs) {k index : Nat} {C n d : String} (hZ : va_Z C n d (.ref (g.2.2.2.2 k)) (tb_A g) s s.heap) (hlink : Cond.fieldLink own index C n d ∈ tb_ALL) (hdg : decode cc pc = .ok (.getstatic index, 3))
    (kk : W p l e R s m args below meth c H locs cells slots Q (F0 m (pc + 3) ls (.ref (g.2.2.2.2 k) :: rest))) : W p l e R s m args below meth c H locs cells slots Q (F0 m pc ls rest) :=
  va_gets F.1.1 F.1.2.1 hZ hS F.1.2.2.2.1 (tb_hts F hlink) (fun _ h9 => h9) hdg kk
theorem tb_ti (F : tb_F g cc nL own ret cw p s m args meth c) (hS : va_S (tb_A g) s.heap H locs) {k : Nat} (hT : va_T .int (g.2.2.2.2 k) 6 (fun j => .int (tb_tab k j)) (tb_A g) s s.heap) {i : Int32} {j : Nat} (hk : i.toNatClampNeg = j) (hin : vp_in i 6) (hdg : decode cc pc = .ok (.iaload, 1))
    (kk : W p l e R s m args below meth c H locs cells slots Q (F0 m (pc + 1) ls (.int (tb_tab k j) :: rest))) : W p l e R s m args below meth c H locs cells slots Q (F0 m pc ls (.int i :: .ref (g.2.2.2.2 k) :: rest)) := by
  subst hk
  exact va_ti F.1.1 F.1.2.1 hT hS hin rfl hdg kk
theorem tb_mmax (F : tb_F g cc nL own ret cw p s m args meth c) (hsz : ls.size = nL) {index : Nat} (hlink : Cond.methodLink own index Lib.Math.max.name ∈ tb_ALL) (hframes : 1 ≤ R.frames) (hlocals : (rest.map fun v => v.category).sum + 13 ≤ R.locals) (hcs : cells ≤ R.cells ∧ slots ≤ R.slots) {x y : Int32} (hdg : decode cc pc = .ok (.invokestatic index, 3))
    (kk : W p l e R s m args below meth c H locs cells slots Q (F0 m (pc + 3) ls (.int (if x < y then y else x) :: rest))) : W p l e R s m args below meth c H locs cells slots Q (F0 m pc ls (.int y :: .int x :: rest)) :=
  va_mmax F.1.1 F.1.2.1 (F.1.2.2.1.trans hsz.symm) F.1.2.2.2.1 (tb_hts F hlink) (tb_hts F kn_maxS) (tb_hts F ki_J9) (tb_hts F kn_maxC) hframes hlocals hcs.1 hcs.2 hdg kk
theorem tb_mmin (F : tb_F g cc nL own ret cw p s m args meth c) (hsz : ls.size = nL) {index : Nat} (hlink : Cond.methodLink own index Lib.Math.min.name ∈ tb_ALL) (hframes : 1 ≤ R.frames) (hlocals : (rest.map fun v => v.category).sum + 13 ≤ R.locals) (hcs : cells ≤ R.cells ∧ slots ≤ R.slots) {x y : Int32} (hdg : decode cc pc = .ok (.invokestatic index, 3))
    (kk : W p l e R s m args below meth c H locs cells slots Q (F0 m (pc + 3) ls (.int (if y < x then y else x) :: rest))) : W p l e R s m args below meth c H locs cells slots Q (F0 m pc ls (.int y :: .int x :: rest)) :=
  va_mmin F.1.1 F.1.2.1 (F.1.2.2.1.trans hsz.symm) F.1.2.2.2.1 (tb_hts F hlink) (tb_hts F kn_minS) (tb_hts F ki_J9) (tb_hts F kn_minC) hframes hlocals hcs.1 hcs.2 hdg kk
/-- behind a call -/
theorem tb_call {M' : tb_Mem} {o : Option Value} {st0 : List Value} {a : Array Value} (hr : va_Run p l e R s m args below meth c H locs cells slots 0 0 (F0 m pc ls st0) rest (tb_Q g M' o a) (tb_A g)) (hS : va_S (tb_A g) s.heap H locs)
    (kk : ∀ (H1 : Heap) (locs1 : List Loc), tb_P g M' H1 → va_S (tb_A g) s.heap H1 locs1 → W p l e R s m args below meth c H1 locs1 cells slots Q (F0 m (pc + 3) ls (o.toList ++ rest))) : W p l e R s m args below meth c H locs cells slots Q (F0 m pc ls st0) := by
  intro T hT X
  obtain ⟨v, st₀, t, T', L, h0, X', hL, e1, e2, ⟨hv, hp, hz, hk⟩, st⟩ := hr T hT X
  cases hv
  rw [h0] at hz hk
  obtain ⟨t2, a1, b1⟩ := kk T'.heap (locs ++ L) (by rw [e1]; exact hp)
    ⟨Nat.le_trans hS.1 (by rw [e1]; exact hz), fun q h1 h2 => by rw [e1, hk q (Nat.lt_of_lt_of_le h1 hS.1) h2]; exact hS.2.1 q h1 h2, fun q hq => by
      rcases List.mem_append.mp hq with h | h
      · exact hS.2.2 q h
      · exact hL q h⟩ T' rfl X'
  exact ⟨t2, st t2 a1, b1⟩
theorem tb_goodC {z : MethodName} {zc : ByteArray} {zL : Nat} {zr : Option FieldType} (hcode : Cond.code z zc zL zr ∈ tb_ALL) {pre : List Cond} (hpre : ∀ w ∈ pre, w ∈ tb_ALL) : GoodIn (cw :: tb_ALL) (pre ++ (Cond.code z zc zL zr :: tb_ALL)) := by
  intro w hw
  have h1 : w ∈ tb_ALL := by
    rcases List.mem_append.mp hw with h | h
    · exact hpre w h
    · rcases List.mem_cons.mp h with h | h
      · rw [h]; exact hcode
      · exact h
  exact ⟨List.mem_cons_of_mem _ h1, good_of_word (tb_all h1).2⟩
theorem tb_pre (F : tb_F g cc nL own ret cw p s m args meth c) (hP : tb_P g M H) (hS : va_S (tb_A g) s.heap H locs) (as : List Value) : ∀ U : State, U.heap = H → s.WarmedH U.vm → tb_Pre g M as as.toArray U := fun U hU hW => ⟨rfl, by rw [hU]; exact hP, F.2.2.2.mv hS hU hW⟩
theorem tb_callV (F : tb_F g cc nL own ret cw p s m args meth c) (hP : tb_P g M H) (hS : va_S (tb_A g) s.heap H locs) (hsz : ls.size = nL) {z : MethodName} {zc : ByteArray} {zL : Nat} {zr : Option FieldType} {ci n q : Nat} {fl : List (Option Nat)} (Z : tb_MV z zc zL zr ci n) {index : Nat} (hlink : Cond.methodLink own index z ∈ tb_ALL) {zrm : Room} {as : List Value} {M' : tb_Mem} {o : Option Value} (C : tb_C g l z (Cond.code z zc zL zr) zrm (.ref (tb_ad g q) :: as) M M' o) (hl : tb_lay q = tb_ob ci fl)
    (hrm : zrm.cells = 0 ∧ zrm.slots = 0 ∧ zrm.frames + 1 ≤ R.frames ∧ 8 + (zL + 11) + zrm.locals ≤ R.locals) (hn : as.length = n) {st0 : List Value} (hst : st0 = as.reverse ++ .ref (tb_ad g q) :: rest) {st1 : List Value} (hst1 : o.toList ++ rest = st1) (hcat : (rest.map fun v => v.category).sum ≤ 8) (hcs : cells ≤ R.cells ∧ slots ≤ R.slots) (hdg : decode cc pc = .ok (.invokevirtual index, 3))
    (kk : ∀ (H1 : Heap) (locs1 : List Loc), tb_P g M' H1 → va_S (tb_A g) s.heap H1 locs1 → W p l e R s m args below meth c H1 locs1 cells slots Q (F0 m (pc + 3) ls st1)) : W p l e R s m args below meth c H locs cells slots Q (F0 m pc ls st0) := by
  subst hst1
  obtain ⟨T, N, hc⟩ := Z.2.2.2.2.2
  refine tb_call (va_runV (As := as) (rest := rest) F.1 C (cwV n F.1.2.2.2.2 (tb_goodC Z.2.2.2.1 (pre := [.methodLink own index z, .instanceMethod z, .selects z.cls z z, .initialized z.cls]) ?_) rfl hrm.1 hrm.2.1 Z.2.2.2.2.1 hrm.2.2) ⟨tb_blind g M _, va_recv F.2.2.2.1 hP hc (tb_at hP hl (by simp)), tb_pre F hP hS _⟩ rfl hn hsz hst (lv_room hcat) hdg hcs) hS kk
  intro w hw
  simp only [List.mem_cons, List.not_mem_nil, or_false] at hw
  rcases hw with h | h | h | h
  · rw [h]; exact hlink
  · rw [h]; exact Z.1
  · rw [h]; exact Z.2.1
  · rw [h]; exact Z.2.2.1
theorem tb_callS (F : tb_F g cc nL own ret cw p s m args meth c) (hP : tb_P g M H) (hS : va_S (tb_A g) s.heap H locs) (hsz : ls.size = nL) {z : MethodName} {zc : ByteArray} {zL : Nat} {zr : Option FieldType} {n : Nat} (Z : tb_MS z zc zL zr n) {index : Nat} (hlink : Cond.methodLink own index z ∈ tb_ALL) {zrm : Room} {as : List Value} {M' : tb_Mem} {o : Option Value} (C : tb_C g l z (Cond.code z zc zL zr) zrm as M M' o)
    (hrm : zrm.cells = 0 ∧ zrm.slots = 0 ∧ zrm.frames + 1 ≤ R.frames ∧ 8 + (zL + 11) + zrm.locals ≤ R.locals) (hn : as.length = n) {st0 : List Value} (hst : st0 = as.reverse ++ rest) {st1 : List Value} (hst1 : o.toList ++ rest = st1) (hcat : (rest.map fun v => v.category).sum ≤ 8) (hcs : cells ≤ R.cells ∧ slots ≤ R.slots) (hdg : decode cc pc = .ok (.invokestatic index, 3))
    (kk : ∀ (H1 : Heap) (locs1 : List Loc), tb_P g M' H1 → va_S (tb_A g) s.heap H1 locs1 → W p l e R s m args below meth c H1 locs1 cells slots Q (F0 m (pc + 3) ls st1)) : W p l e R s m args below meth c H locs cells slots Q (F0 m pc ls st0) := by
  subst hst1
  refine tb_call (va_runS (As := as) (rest := rest) F.1 C (va_cwS n F.1.2.2.2.2 (tb_goodC Z.2.2.1 (pre := [.methodLink own index z, .static z, .initialized z.cls]) ?_) rfl hrm.1 hrm.2.1 Z.2.2.2 hrm.2.2) ⟨tb_blind g M _, tb_pre F hP hS _⟩ rfl hn hsz hst (lv_room hcat) hdg hcs) hS kk
  intro w hw
  simp only [List.mem_cons, List.not_mem_nil, or_false] at hw
  rcases hw with h | h | h
  · rw [h]; exact hlink
  · rw [h]; exact Z.1
  · rw [h]; exact Z.2.1
theorem tb_callSN (F : tb_F g cc nL own ret cw p s m args meth c) (hP : tb_P g M H) (hS : va_S (tb_A g) s.heap H locs) (hsz : ls.size = nL) {z : MethodName} {zc : ByteArray} {zL : Nat} {zr : Option FieldType} {n : Nat} (Z : tb_MS z zc zL zr n) {index : Nat} {host : String} (hlink : va_Nw (.methodLinkNest own index z host) s) {zrm : Room} {as : List Value} {M' : tb_Mem} {o : Option Value} (C : tb_C g l z (Cond.code z zc zL zr) zrm as M M' o)
    (hrm : zrm.cells = 0 ∧ zrm.slots = 0 ∧ zrm.frames + 1 ≤ R.frames ∧ 8 + (zL + 11) + zrm.locals ≤ R.locals) (hn : as.length = n) {st0 : List Value} (hst : st0 = as.reverse ++ rest) {st1 : List Value} (hst1 : o.toList ++ rest = st1) (hcat : (rest.map fun v => v.category).sum ≤ 8) (hcs : cells ≤ R.cells ∧ slots ≤ R.slots) (hdg : decode cc pc = .ok (.invokestatic index, 3))
    (kk : ∀ (H1 : Heap) (locs1 : List Loc), tb_P g M' H1 → va_S (tb_A g) s.heap H1 locs1 → W p l e R s m args below meth c H1 locs1 cells slots Q (F0 m (pc + 3) ls st1)) : W p l e R s m args below meth c H locs cells slots Q (F0 m pc ls st0) := by
  subst hst1
  refine tb_call (va_runSN (As := as) (rest := rest) F.1 C ⟨va_cnB n F.1.2.2.2.2 (tb_goodC Z.2.2.1 (pre := []) (fun w hw => absurd hw List.not_mem_nil)) rfl hrm.1 hrm.2.1 hlink (tb_hts F Z.2.1) Z.2.2.2 hrm.2.2, tb_hts F Z.1, trivial⟩ ⟨tb_blind g M _, tb_pre F hP hS _⟩ rfl hn hsz hst (lv_room hcat) hdg hcs) hS kk
/-- the ends -/
theorem tb_iret {M0 M' : tb_Mem} {v r : Int32} (h : some (v, M0) = some (r, M')) (F : tb_F g cc nL own (some .int) cw p s m args meth c) (hP : tb_P g M0 H) (hS : va_S (tb_A g) s.heap H locs) (hdg : decode cc pc = .ok (.ireturn, 1)) : W p l e R s m args below meth c H locs cells slots (MQ below (tb_Q g M' (some (.int r))) args s cells slots (tb_A g)) (F0 m pc ls [.int v]) := by
  cases h
  exact W.iret F.1.1 F.1.2.1 F.2.1 (fun t ht hW => ⟨rfl, by rw [ht]; exact hP, hS.F ht⟩) hS.2.2 hdg F.2.2.1
theorem tb_zret {M0 M' : tb_Mem} {v r : Int32} (h : some (v, M0) = some (r, M')) (F : tb_F g cc nL own (some .boolean) cw p s m args meth c) (hn : narrow .boolean (.int v) = .int v) (hP : tb_P g M0 H) (hS : va_S (tb_A g) s.heap H locs) (hdg : decode cc pc = .ok (.ireturn, 1)) : W p l e R s m args below meth c H locs cells slots (MQ below (tb_Q g M' (some (.int r))) args s cells slots (tb_A g)) (F0 m pc ls [.int v]) := by
  cases h
  exact W.zret F.1.1 F.1.2.1 F.2.1 hn (fun t ht hW => ⟨rfl, by rw [ht]; exact hP, hS.F ht⟩) hS.2.2 hdg F.2.2.1
theorem tb_lret {M0 M' : tb_Mem} {v r : Int64} (h : some (v, M0) = some (r, M')) (F : tb_F g cc nL own (some .long) cw p s m args meth c) (hP : tb_P g M0 H) (hS : va_S (tb_A g) s.heap H locs) (hdg : decode cc pc = .ok (.lreturn, 1)) : W p l e R s m args below meth c H locs cells slots (MQ below (tb_Q g M' (some (.long r))) args s cells slots (tb_A g)) (F0 m pc ls [.long v]) := by
  cases h
  exact W.lret F.1.1 F.1.2.1 F.2.1 (fun t ht hW => ⟨rfl, by rw [ht]; exact hP, hS.F ht⟩) hS.2.2 hdg F.2.2.1
theorem tb_vret {M0 M' : tb_Mem} (h : some M0 = some M') (F : tb_F g cc nL own none cw p s m args meth c) (hP : tb_P g M0 H) (hS : va_S (tb_A g) s.heap H locs) (hdg : decode cc pc = .ok (.return_, 1)) : W p l e R s m args below meth c H locs cells slots (MQ below (tb_Q g M' none) args s cells slots (tb_A g)) (F0 m pc ls []) := by
  cases h
  exact W.vret F.1.1 F.1.2.1 F.2.1 (fun t ht hW => ⟨rfl, by rw [ht]; exact hP, hS.F ht⟩) hS.2.2 hdg F.2.2.1
theorem tb_aret {M0 M' : tb_Mem} {r : Nat} {C : String} (h : some M0 = some M') (F : tb_F g cc nL own (some (.object C)) cw p s m args meth c) (hP : tb_P g M0 H) (hS : va_S (tb_A g) s.heap H locs) (hdg : decode cc pc = .ok (.areturn, 1)) : W p l e R s m args below meth c H locs cells slots (MQ below (tb_Q g M' (some (.ref (tb_ad g r)))) args s cells slots (tb_A g)) (F0 m pc ls [.ref (tb_ad g r)]) := by
  cases h
  exact W.aret F.1.1 F.1.2.1 F.2.1 (Or.inl ⟨_, rfl⟩) (Or.inr ⟨_, rfl⟩) (fun t ht hW => ⟨rfl, by rw [ht]; exact hP, hS.F ht⟩) hS.2.2 hdg F.2.2.1
/-- System.arraycopy between int arrays -/
theorem tb_copy (F : tb_F g cc nL own ret cw p s m args meth c) (hP : tb_P g M H) (hS : va_S (tb_A g) s.heap H locs) (hsz : ls.size = nL) {q0 q1 n0 n1 : Nat} (hl0 : tb_lay q0 = tb_ar n0) (hl1 : tb_lay q1 = tb_ar n1) {index : Nat} (hlink : Cond.methodLink own index arraycopyName ∈ tb_ALL) (hnat : Cond.native arraycopyName ∈ tb_ALL) (hstat : Cond.static arraycopyName ∈ tb_ALL) (hini : Cond.initialized "java/lang/System" ∈ tb_ALL)
    {sp dp n : Int32} (h1 : ¬ sp < 0) (h2 : ¬ dp < 0) (h3 : ¬ n < 0) (h4 : sp.toNatClampNeg + n.toNatClampNeg ≤ n0) (h5 : dp.toNatClampNeg + n.toNatClampNeg ≤ n1) (hframes : 1 ≤ R.frames) (hlocals : (rest.map fun v => v.category).sum + (nativeFrameWords "java/lang/System" "arraycopy" 5 + 11) ≤ R.locals) (hdg : decode cc pc = .ok (.invokestatic index, 3))
    (kk : ∀ (H1 : Heap) (locs1 : List Loc), tb_P g (tb_row M q1 (va_cpy (M q0) (M q1) sp.toNatClampNeg dp.toNatClampNeg n.toNatClampNeg)) H1 → va_S (tb_A g) s.heap H1 locs1 → W p l e R s m args below meth c H1 locs1 cells slots Q (F0 m (pc + 3) ls rest)) : W p l e R s m args below meth c H locs cells slots Q (F0 m pc ls (.int n :: .int dp :: .ref (tb_ad g q1) :: .int sp :: .ref (tb_ad g q0) :: rest)) := by
  have hq := tb_lay_lt hl1 (by simp)
  refine va_copyi F.1.1 F.1.2.1 (F.1.2.2.1.trans hsz.symm) F.1.2.2.2.1 (tb_hts F hlink) (tb_hts F hnat) (tb_hts F hstat) (tb_hts F hini) F.2.2.2.1 hP (F.2.2.2.D M) hS q0 q1 0 0 (ty := .int) (tb_at hP hl0 (by simp)) (tb_at hP hl1 (by simp)) rfl rfl rfl h1 h2 h3 h4 h5 (fun i hi => rfl) hframes hlocals hdg (fun H1 locs1 a1 a2 a3 => kk H1 locs1 ?_ a3)
  rw [tb_w_set g M q1 (va_cpy (M q0) (M q1) sp.toNatClampNeg dp.toNatClampNeg n.toNatClampNeg) (by rw [hl1]; rfl) hq] at a1
  exact a1
theorem tb_mrg {g1 g2 : JFrame} (hb : W p l e R s m args below meth c H locs cells slots Q g2 → W p l e R s m args below meth c H locs cells slots Q g1) (hJ : W p l e R s m args below meth c H locs cells slots Q g2) : W p l e R s m args below meth c H locs cells slots Q g1 := hb hJ
theorem tb_nmi {x y : Int32} (hy : y = x) (k : W p l e R s m args below meth c H locs cells slots Q (F0 m pc ls (.int y :: rest))) : W p l e R s m args below meth c H locs cells slots Q (F0 m pc ls (.int x :: rest)) := by
  subst hy
  exact k
theorem tb_nml {x y : Int64} (hy : y = x) (k : W p l e R s m args below meth c H locs cells slots Q (F0 m pc ls (.long y :: rest))) : W p l e R s m args below meth c H locs cells slots Q (F0 m pc ls (.long x :: rest)) := by
  subst hy
  exact k
end TBW
/-! the words of the functions that the methods are -/
def tb_N : Nat := 5000
def tb_in (i : Int32) (n : Nat) : Bool := decide (0 ≤ i.toInt) && decide (i.toInt < n)
def tb_ck {α : Type} (b : Bool) (x : Option α) : Option α := match b with
  | true => x
  | false => none
def tb_b1 {α β : Type} (o : Option α) (k : α → Option β) : Option β := match o with
  | some a => k a
  | none => none
def tb_b2 {α β γ : Type} (o : Option (α × β)) (k : α → β → Option γ) : Option γ := match o with
  | some (a, b) => k a b
  | none => none
def tb_let {α β : Type} (v : α) (k : α → β) : β := k v
def tb_bl (v : Int32) : Bool := decide (v = 0 ∨ v = 1)
theorem tb_ip {α : Type} {c : Prop} [Decidable c] {a b x : α} (hc : c) (h : (if c then a else b) = x) : a = x := by rw [if_pos hc] at h; exact h
theorem tb_ineg {α : Type} {c : Prop} [Decidable c] {a b x : α} (hc : ¬ c) (h : (if c then a else b) = x) : b = x := by rw [if_neg hc] at h; exact h
theorem tb_cks {α : Type} {b : Bool} {x : Option α} {r : α} (h : tb_ck b x = some r) : b = true ∧ x = some r := by
  cases b with
  | true => exact ⟨rfl, h⟩
  | false => cases h
theorem tb_b1s {α β : Type} {o : Option α} {k : α → Option β} {r : β} (h : tb_b1 o k = some r) : ∃ a, o = some a ∧ k a = some r := by
  cases o with
  | none => cases h
  | some a => exact ⟨a, rfl, h⟩
theorem tb_b2s {α β γ : Type} {o : Option (α × β)} {k : α → β → Option γ} {r : γ} (h : tb_b2 o k = some r) : ∃ a b, o = some (a, b) ∧ k a b = some r := by
  cases o with
  | none => cases h
  | some q => exact ⟨q.1, q.2, rfl, h⟩
theorem tb_lets {α β : Type} {v : α} {k : α → Option β} {r : β} (h : tb_let v k = some r) : ∃ x, x = v ∧ k x = some r := ⟨v, rfl, h⟩
theorem tb_inv {i : Int32} {n : Nat} (h : tb_in i n = true) : vp_in i n := by
  simp only [tb_in, Bool.and_eq_true, decide_eq_true_eq] at h
  exact vp_in_iff.mpr h
theorem tb_bln {v : Int32} (h : tb_bl v = true) : narrow .boolean (.int v) = .int v := by
  simp only [tb_bl, decide_eq_true_eq] at h
  rcases h with h | h <;> rw [h] <;> rfl
theorem tb_none {α : Type} {r : α} {P : Prop} (h : (none : Option α) = some r) : P := by cases h
theorem tb_ne0 {x : Int32} (h : (x != 0) = true) : ¬ x = 0 := by simpa using h
theorem tb_ne0l {x : Int64} (h : (x != 0) = true) : ¬ x = 0 := by simpa using h
end
section
theorem tb_ltOf {i : Int32} {n : Nat} (h : tb_in i n = true) : i.toNatClampNeg < n := Nat.not_le.mp (fun q => tb_inv h (Or.inr q))
def tb_bB (p : Nat) : Bool := decide (tb_lay p = tb_bo p) && (decide (tb_lay (p + 1) = tb_ar 8) && (decide (tb_lay (p + 2) = tb_ar 8) && (decide (tb_lay (p + 3) = tb_ar 8) && (decide (tb_lay (p + 4) = tb_ar 8) && (decide (tb_lay (p + 5) = tb_ar 8) && (decide (tb_lay (p + 6) = tb_ar 8) && (decide (tb_lay (p + 7) = tb_ar 8) && decide (tb_lay (p + 8) = tb_ar 20))))))))
theorem tb_bB_ok {p : Nat} (h : tb_bB p = true) : tb_B p := by
  simp only [tb_bB, Bool.and_eq_true, decide_eq_true_eq] at h
  exact h
def tb_bR (p : Nat) : Bool := decide (tb_lay p = tb_ro p) && decide (tb_lay (p + 1) = tb_ar 40)
theorem tb_bR_ok {p : Nat} (h : tb_bR p = true) : tb_R p := by
  simp only [tb_bR, Bool.and_eq_true, decide_eq_true_eq] at h
  exact h
theorem tb_l0 : tb_lay 0 = tb_o0 := by decide +kernel
theorem tb_l1 : tb_lay 1 = .inr (.inl (2, tb_rowsL)) := by decide +kernel
theorem tb_l2 : tb_lay 2 = tb_ob 5 [some 3, none, none] := by decide +kernel
theorem tb_l3 : tb_lay 3 = tb_ar 60 := by decide +kernel
theorem tb_B4 : tb_B 4 := tb_bB_ok (by decide +kernel)
theorem tb_B13 : tb_B 13 := tb_bB_ok (by decide +kernel)
theorem tb_l22 : tb_lay 22 = tb_ob 0 [some 23, none, none] := by decide +kernel
theorem tb_l23 : tb_lay 23 = .inr (.inl (3, tb_beforeL)) := by decide +kernel
theorem tb_l240 : tb_lay 240 = tb_oF := by decide +kernel
theorem tb_B241 : tb_B 241 := tb_bB_ok (by decide +kernel)
theorem tb_B250 : tb_B 250 := tb_bB_ok (by decide +kernel)
theorem tb_l259 : tb_lay 259 = tb_ar 12 := by decide +kernel
theorem tb_l260 : tb_lay 260 = .inr (.inl (3, tb_imagesL)) := by decide +kernel
theorem tb_l261 : tb_lay 261 = tb_ob 1 [some 262, none] := by decide +kernel
theorem tb_l262 : tb_lay 262 = tb_ar 16 := by decide +kernel
theorem tb_l297 : tb_lay 297 = tb_oM := by decide +kernel
theorem tb_l298 : tb_lay 298 = tb_ar 8 := by decide +kernel
theorem tb_l299 : tb_lay 299 = tb_ar 8 := by decide +kernel
theorem tb_l300 : tb_lay 300 = tb_ar 320 := by decide +kernel
theorem tb_l301 : tb_lay 301 = tb_ar 40 := by decide +kernel
theorem tb_l302 : tb_lay 302 = tb_ar 60 := by decide +kernel
theorem tb_l303 : tb_lay 303 = tb_ar 63 := by decide +kernel
theorem tb_l304 : tb_lay 304 = tb_ar 63 := by decide +kernel
theorem tb_l305 : tb_lay 305 = tb_ar 126 := by decide +kernel
theorem tb_l307 : tb_lay 307 = tb_ar 1104 := by decide +kernel
theorem tb_l308 : tb_lay 308 = tb_ar 63 := by decide +kernel
theorem tb_l309 : tb_lay 309 = tb_ar 16 := by decide +kernel
theorem tb_l306 : tb_lay 306 = .inl (1, 2) := by decide +kernel
theorem tb_Bact : ∀ {i : Nat}, i < 24 → tb_B (24 + 9 * i) := by
  have h : ∀ i, i < 24 → tb_bB (24 + 9 * i) = true := by decide +kernel
  exact fun {i} hi => tb_bB_ok (h i hi)
theorem tb_Bimg : ∀ {i : Nat}, i < 2 → tb_B (279 + 9 * i) := by
  have h : ∀ i, i < 2 → tb_bB (279 + 9 * i) = true := by decide +kernel
  exact fun {i} hi => tb_bB_ok (h i hi)
theorem tb_Rrow : ∀ {i : Nat}, i < 8 → tb_R (263 + 2 * i) := by
  have h : ∀ i, i < 8 → tb_bR (263 + 2 * i) = true := by decide +kernel
  exact fun {i} hi => tb_bR_ok (h i hi)
theorem tb_rowsG : ∀ {i : Nat}, i < 8 → tb_rowsL[i]? = some (263 + 2 * i) := by
  have h : ∀ i, i < 8 → tb_rowsL[i]? = some (263 + 2 * i) := by decide +kernel
  exact fun {i} hi => h i hi
theorem tb_imagesG : ∀ {i : Nat}, i < 2 → tb_imagesL[i]? = some (279 + 9 * i) := by
  have h : ∀ i, i < 2 → tb_imagesL[i]? = some (279 + 9 * i) := by decide +kernel
  exact fun {i} hi => h i hi
theorem tb_beforeG : ∀ {i : Nat}, i < 24 → tb_beforeL[i]? = some (24 + 9 * i) := by
  have h : ∀ i, i < 24 → tb_beforeL[i]? = some (24 + 9 * i) := by decide +kernel
  exact fun {i} hi => h i hi
end
section
def fX6_within (a0 : Int32) (a1 : Int32) (a2 : Int32) (M : tb_Mem) : Option (Int32 × tb_Mem) :=
  some ((if a0 < a1 then 0 else (if a2 < a0 then 0 else 1)), M)
abbrev rmX6_within : Room := { frames := 0, cells := 0, slots := 0, locals := 0 }
set_option maxHeartbeats 4000000 in
set_option maxRecDepth 100000 in
theorem tX6_within (g : tb_GT) (l : Launch) (a0 : Int32) (a1 : Int32) (a2 : Int32) (M M' : tb_Mem) (r : Int32) (h : fX6_within a0 a1 a2 M = some (r, M')) : tb_C g l yX6_within (Cond.code yX6_within cX6_within 3 (some .boolean)) rmX6_within [.int a0, .int a1, .int a2] M M' (some (.int r)) := by
  refine tb_entry (by decide) (Nat.le_of_ble_eq_true rfl) ?_
  intro P e s m below meth c F hP hS ls hl
  have F : tb_F g cX6_within 3 RX6 (some .boolean) (Cond.code yX6_within cX6_within 3 (some .boolean)) P s m ([.int a0, .int a1, .int a2] : List Value).toArray meth c := F
  have hx := F.1.1
  have hb := F.1.2.1
  have hl : lv_has ls 3 [(0, .int a0), (1, .int a1), (2, .int a2)] := hl
  unfold fX6_within at h
  refine lv_iload_n hx hb dX6_within_0 rfl (lv_at hl 0 rfl) ?_
  refine lv_iload_n hx hb dX6_within_1 rfl (lv_at hl 1 rfl) ?_
  refine tb_mrg (g2 := F0 m 15 ls [.int (if a0 < a1 then 0 else (if a2 < a0 then 0 else 1))]) (fun hJ => ?_) ?_
  · refine lv_icmp_lt (tgt := 14) hx hb dX6_within_2 (by decide) (fun c1 => ?_) (fun c1 => ?_)
    · refine lv_iconst (v := 0) hx hb dX6_within_14 (by decide) ?_
      rw [if_pos c1] at hJ
      exact hJ
    · refine lv_iload_n hx hb dX6_within_5 rfl (lv_at hl 0 rfl) ?_
      refine lv_iload_n hx hb dX6_within_6 rfl (lv_at hl 2 rfl) ?_
      refine lv_icmp_gt (tgt := 14) hx hb dX6_within_7 (by decide) (fun c2 => ?_) (fun c2 => ?_)
      · refine lv_iconst (v := 0) hx hb dX6_within_14 (by decide) ?_
        rw [if_neg c1, if_pos c2] at hJ
        exact hJ
      · refine lv_iconst (v := 1) hx hb dX6_within_10 (by decide) ?_
        refine lv_goto (tgt := 15) hx hb dX6_within_11 (by decide) ?_
        rw [if_neg c1, if_neg c2] at hJ
        exact hJ
  exact tb_zret h F (tb_bln (by (repeat' split) <;> decide)) hP hS dX6_within_15
def fX6_power_L5 : Nat → Int32 → Int32 → Int64 → Int32 → tb_Mem → Option (Int64 × tb_Mem)
  | 0, _, _, _, _, _ => none
  | n + 1, x0, x1, x2, x4, M => if x1 ≤ x4 then (some (x2, M)) else (tb_let ((x2 * ((x0 : Int32).toInt64)) : Int64) (fun x2 => fX6_power_L5 n x0 x1 x2 (x4 + 1) M))
def fX6_power (a0 : Int32) (a1 : Int32) (M : tb_Mem) : Option (Int64 × tb_Mem) :=
  fX6_power_L5 tb_N a0 a1 1 0 M
abbrev rmX6_power : Room := { frames := 0, cells := 0, slots := 0, locals := 0 }
set_option maxHeartbeats 4000000 in
set_option maxRecDepth 100000 in
theorem tX6_power_L5 {g : tb_GT} {l : Launch} {P : Program} {e : Env} {s : State} {m : MethodId} {below : List Frame} {meth : Method} {c : Code} {a0 : Int32} {a1 : Int32} {M' : tb_Mem} {r : Int64} (F : tb_F g cX6_power 5 RX6 (some .long) (Cond.code yX6_power cX6_power 5 (some .long)) P s m ([.int a0, .int a1] : List Value).toArray meth c) :
    ∀ (n : Nat) (x0 : Int32) (x1 : Int32) (x2 : Int64) (x4 : Int32) (M : tb_Mem) (H : Heap) (locs : List Loc) (ls : Array Slot), tb_P g M H → va_S (tb_A g) s.heap H locs → lv_has ls 5 [(0, .int x0), (1, .int x1), (2, .long x2), (4, .int x4)] → fX6_power_L5 n x0 x1 x2 x4 M = some (r, M') → W P l e rmX6_power s m ([.int a0, .int a1] : List Value).toArray below meth c H locs 0 0 (MQ below (tb_Q g M' (some (.long r))) ([.int a0, .int a1] : List Value).toArray s 0 0 (tb_A g)) (F0 m 5 ls []) := by
  have hx := F.1.1
  have hb := F.1.2.1
  intro n
  induction n with
  | zero =>
    intro x0 x1 x2 x4 M H locs ls hP hS hl h
    rw [fX6_power_L5] at h
    exact tb_none h
  | succ n ih =>
    intro x0 x1 x2 x4 M H locs ls hP hS hl h
    rw [fX6_power_L5] at h
    refine lv_iload hx hb dX6_power_5 (lv_at hl 3 rfl) ?_
    refine lv_iload_n hx hb dX6_power_7 rfl (lv_at hl 1 rfl) ?_
    refine lv_icmp_ge (tgt := 22) hx hb dX6_power_8 (by decide) (fun c1 => ?_) (fun c1 => ?_)
    · have h := tb_ip c1 h
      refine lv_lload_n hx hb dX6_power_22 rfl (lv_at hl 2 rfl) ?_
      exact tb_lret h F hP hS dX6_power_23
    · have h := tb_ineg c1 h
      refine lv_lload_n hx hb dX6_power_11 rfl (lv_at hl 2 rfl) ?_
      refine lv_iload_n hx hb dX6_power_12 rfl (lv_at hl 0 rfl) ?_
      refine lv_i2l (v := ((x0 : Int32).toInt64)) hx hb dX6_power_13 rfl ?_
      refine lv_lmul hx hb dX6_power_14 ?_
      obtain ⟨x2, e3, h⟩ := tb_lets h
      refine tb_nml e3 ?_
      refine lv_lstore_n (lv' := [(2, .long x2), (0, .int x0), (1, .int x1), (4, .int x4)]) hx hb dX6_power_15 rfl hl (by decide) rfl (fun ls hl => ?_)
      refine lv_iinc (v := (x4 + 1)) (lv' := [(4, .int (x4 + 1)), (2, .long x2), (0, .int x0), (1, .int x1)]) hx hb dX6_power_16 hl (k := 3) rfl rfl (by decide) rfl (fun ls hl => ?_)
      refine lv_goto (tgt := 5) hx hb dX6_power_19 (by decide) ?_
      exact ih x0 x1 x2 (x4 + 1) M _ _ _ hP hS (lv_sub hl [2, 3, 1, 0] rfl) h
set_option maxHeartbeats 4000000 in
set_option maxRecDepth 100000 in
theorem tX6_power (g : tb_GT) (l : Launch) (a0 : Int32) (a1 : Int32) (M M' : tb_Mem) (r : Int64) (h : fX6_power a0 a1 M = some (r, M')) : tb_C g l yX6_power (Cond.code yX6_power cX6_power 5 (some .long)) rmX6_power [.int a0, .int a1] M M' (some (.long r)) := by
  refine tb_entry (by decide) (Nat.le_of_ble_eq_true rfl) ?_
  intro P e s m below meth c F hP hS ls hl
  have F : tb_F g cX6_power 5 RX6 (some .long) (Cond.code yX6_power cX6_power 5 (some .long)) P s m ([.int a0, .int a1] : List Value).toArray meth c := F
  have hx := F.1.1
  have hb := F.1.2.1
  have hl : lv_has ls 5 [(0, .int a0), (1, .int a1)] := hl
  unfold fX6_power at h
  refine lv_lconst (v := 1) hx hb dX6_power_0 (by decide) ?_
  refine lv_lstore_n (lv' := [(2, .long 1), (0, .int a0), (1, .int a1)]) hx hb dX6_power_1 rfl hl (by decide) rfl (fun ls hl => ?_)
  refine lv_iconst (v := 0) hx hb dX6_power_2 (by decide) ?_
  refine lv_istore (lv' := [(4, .int 0), (2, .long 1), (0, .int a0), (1, .int a1)]) hx hb dX6_power_3 hl (by decide) rfl (fun ls hl => ?_)
  exact tX6_power_L5 F tb_N a0 a1 1 0 M _ _ _ hP hS (lv_sub hl [2, 3, 1, 0] rfl) h
def fJ7_fill_53178_L5 (q0 : Nat) (nn : Nat) : Nat → Int32 → Int32 → Int32 → tb_Mem → Option (tb_Mem)
  | 0, _, _, _, _ => none
  | n + 1, x1, x2, x3, M => if x3 ≤ x2 then (some M) else (tb_ck (tb_in x2 nn) (tb_let (tb_up M q0 x2.toNatClampNeg x1) (fun M3 => fJ7_fill_53178_L5 q0 nn n x1 (x2 + 1) x3 M3)))
def fJ7_fill_53178 (q0 : Nat) (nn : Nat) (a1 : Int32) (M : tb_Mem) : Option (tb_Mem) :=
  fJ7_fill_53178_L5 q0 nn tb_N a1 0 (Int32.ofNat nn) M
abbrev rmJ7_fill_53178 : Room := { frames := 0, cells := 0, slots := 0, locals := 0 }
set_option maxHeartbeats 4000000 in
set_option maxRecDepth 100000 in
theorem tJ7_fill_53178_L5 {g : tb_GT} {l : Launch} {P : Program} {e : Env} {s : State} {m : MethodId} {below : List Frame} {meth : Method} {c : Code} (q0 : Nat) (nn : Nat) (hq0 : tb_lay q0 = tb_ar nn) {a1 : Int32} {M' : tb_Mem} (F : tb_F g cJ7_fill_53178 4 RJ7 none (Cond.code yJ7_fill_53178 cJ7_fill_53178 4 none) P s m ([.ref (tb_ad g q0), .int a1] : List Value).toArray meth c) :
    ∀ (n : Nat) (x1 : Int32) (x2 : Int32) (x3 : Int32) (M : tb_Mem) (H : Heap) (locs : List Loc) (ls : Array Slot), tb_P g M H → va_S (tb_A g) s.heap H locs → lv_has ls 4 [(0, .ref (tb_ad g q0)), (1, .int x1), (2, .int x2), (3, .int x3)] → fJ7_fill_53178_L5 q0 nn n x1 x2 x3 M = some M' → W P l e rmJ7_fill_53178 s m ([.ref (tb_ad g q0), .int a1] : List Value).toArray below meth c H locs 0 0 (MQ below (tb_Q g M' none) ([.ref (tb_ad g q0), .int a1] : List Value).toArray s 0 0 (tb_A g)) (F0 m 5 ls []) := by
  have hx := F.1.1
  have hb := F.1.2.1
  intro n
  induction n with
  | zero =>
    intro x1 x2 x3 M H locs ls hP hS hl h
    rw [fJ7_fill_53178_L5] at h
    exact tb_none h
  | succ n ih =>
    intro x1 x2 x3 M H locs ls hP hS hl h
    rw [fJ7_fill_53178_L5] at h
    refine lv_iload_n hx hb dJ7_fill_53178_5 rfl (lv_at hl 2 rfl) ?_
    refine lv_iload_n hx hb dJ7_fill_53178_6 rfl (lv_at hl 3 rfl) ?_
    refine lv_icmp_ge (tgt := 20) hx hb dJ7_fill_53178_7 (by decide) (fun c1 => ?_) (fun c1 => ?_)
    · have h := tb_ip c1 h
      exact tb_vret h F hP hS dJ7_fill_53178_20
    · have h := tb_ineg c1 h
      refine lv_aload_n hx hb dJ7_fill_53178_10 rfl (lv_at hl 0 rfl) ?_
      refine lv_iload_n hx hb dJ7_fill_53178_11 rfl (lv_at hl 2 rfl) ?_
      refine lv_iload_n hx hb dJ7_fill_53178_12 rfl (lv_at hl 1 rfl) ?_
      obtain ⟨k2, h⟩ := tb_cks h
      obtain ⟨M3, e4, h⟩ := tb_lets h
      refine tb_iast F hP hS hq0 rfl (tb_inv k2) dJ7_fill_53178_13 (fun H locs hP hS => ?_)
      rw [← e4] at hP
      refine lv_iinc (v := (x2 + 1)) (lv' := [(2, .int (x2 + 1)), (0, .ref (tb_ad g q0)), (1, .int x1), (3, .int x3)]) hx hb dJ7_fill_53178_14 hl (k := 2) rfl rfl (by decide) rfl (fun ls hl => ?_)
      refine lv_goto (tgt := 5) hx hb dJ7_fill_53178_17 (by decide) ?_
      exact ih x1 (x2 + 1) x3 M3 _ _ _ hP hS (lv_sub hl [1, 2, 0, 3] rfl) h
set_option maxHeartbeats 4000000 in
set_option maxRecDepth 100000 in
theorem tJ7_fill_53178 (g : tb_GT) (l : Launch) (q0 : Nat) (nn : Nat) (hq0 : tb_lay q0 = tb_ar nn) (a1 : Int32) (M M' : tb_Mem) (h : fJ7_fill_53178 q0 nn a1 M = some M') : tb_C g l yJ7_fill_53178 (Cond.code yJ7_fill_53178 cJ7_fill_53178 4 none) rmJ7_fill_53178 [.ref (tb_ad g q0), .int a1] M M' none := by
  refine tb_entry (by decide) (Nat.le_of_ble_eq_true rfl) ?_
  intro P e s m below meth c F hP hS ls hl
  have F : tb_F g cJ7_fill_53178 4 RJ7 none (Cond.code yJ7_fill_53178 cJ7_fill_53178 4 none) P s m ([.ref (tb_ad g q0), .int a1] : List Value).toArray meth c := F
  have hx := F.1.1
  have hb := F.1.2.1
  have hl : lv_has ls 4 [(0, .ref (tb_ad g q0)), (1, .int a1)] := hl
  unfold fJ7_fill_53178 at h
  refine lv_iconst (v := 0) hx hb dJ7_fill_53178_0 (by decide) ?_
  refine lv_istore_n (lv' := [(2, .int 0), (0, .ref (tb_ad g q0)), (1, .int a1)]) hx hb dJ7_fill_53178_1 rfl hl (by decide) rfl (fun ls hl => ?_)
  refine lv_aload_n hx hb dJ7_fill_53178_2 rfl (lv_at hl 1 rfl) ?_
  refine tb_alen F hP hq0 (v := (Int32.ofNat nn)) rfl dJ7_fill_53178_3 ?_
  refine lv_istore_n (lv' := [(3, .int (Int32.ofNat nn)), (2, .int 0), (0, .ref (tb_ad g q0)), (1, .int a1)]) hx hb dJ7_fill_53178_4 rfl hl (by decide) rfl (fun ls hl => ?_)
  exact tJ7_fill_53178_L5 q0 nn hq0 F tb_N a1 0 (Int32.ofNat nn) M _ _ _ hP hS (lv_sub hl [2, 3, 1, 0] rfl) h
def fJ6_bitCount_0f7a4 (a0 : Int32) (M : tb_Mem) : Option (Int32 × tb_Mem) :=
  tb_let ((a0 - (((a0.toUInt32 >>> (((1 : Int32)).toUInt32 &&& Int32.toUInt32 31)).toInt32) &&& 1431655765)) : Int32) (fun x1 => tb_let (((x1 &&& 858993459) + (((x1.toUInt32 >>> (((2 : Int32)).toUInt32 &&& Int32.toUInt32 31)).toInt32) &&& 858993459)) : Int32) (fun x3 => tb_let (((x3 + ((x3.toUInt32 >>> (((4 : Int32)).toUInt32 &&& Int32.toUInt32 31)).toInt32)) &&& 252645135) : Int32) (fun x5 => tb_let ((x5 + ((x5.toUInt32 >>> (((8 : Int32)).toUInt32 &&& Int32.toUInt32 31)).toInt32)) : Int32) (fun x7 => tb_let ((x7 + ((x7.toUInt32 >>> (((16 : Int32)).toUInt32 &&& Int32.toUInt32 31)).toInt32)) : Int32) (fun x9 => some ((x9 &&& 63), M))))))
abbrev rmJ6_bitCount_0f7a4 : Room := { frames := 0, cells := 0, slots := 0, locals := 0 }
set_option maxHeartbeats 4000000 in
set_option maxRecDepth 100000 in
theorem tJ6_bitCount_0f7a4 (g : tb_GT) (l : Launch) (a0 : Int32) (M M' : tb_Mem) (r : Int32) (h : fJ6_bitCount_0f7a4 a0 M = some (r, M')) : tb_C g l yJ6_bitCount_0f7a4 (Cond.code yJ6_bitCount_0f7a4 cJ6_bitCount_0f7a4 1 (some .int)) rmJ6_bitCount_0f7a4 [.int a0] M M' (some (.int r)) := by
  refine tb_entry (by decide) (Nat.le_of_ble_eq_true rfl) ?_
  intro P e s m below meth c F hP hS ls hl
  have F : tb_F g cJ6_bitCount_0f7a4 1 RJ6 (some .int) (Cond.code yJ6_bitCount_0f7a4 cJ6_bitCount_0f7a4 1 (some .int)) P s m ([.int a0] : List Value).toArray meth c := F
  have hx := F.1.1
  have hb := F.1.2.1
  have hl : lv_has ls 1 [(0, .int a0)] := hl
  unfold fJ6_bitCount_0f7a4 at h
  refine lv_iload_n hx hb dJ6_bitCount_0f7a4_0 rfl (lv_at hl 0 rfl) ?_
  refine lv_iload_n hx hb dJ6_bitCount_0f7a4_1 rfl (lv_at hl 0 rfl) ?_
  refine lv_iconst (v := 1) hx hb dJ6_bitCount_0f7a4_2 (by decide) ?_
  refine lv_iushr (v := (a0.toUInt32 >>> (((1 : Int32)).toUInt32 &&& Int32.toUInt32 31)).toInt32) hx hb dJ6_bitCount_0f7a4_3 rfl ?_
  refine lv_ldcw (v := 1431655765) hx hb F.1.2.2.2.1 (tb_hts F kc_J6_265) dJ6_bitCount_0f7a4_4 ?_
  refine lv_iand hx hb dJ6_bitCount_0f7a4_7 ?_
  refine lv_isub hx hb dJ6_bitCount_0f7a4_8 ?_
  obtain ⟨x1, e2, h⟩ := tb_lets h
  refine tb_nmi e2 ?_
  refine lv_istore_n (lv' := [(0, .int x1)]) hx hb dJ6_bitCount_0f7a4_9 rfl hl (by decide) rfl (fun ls hl => ?_)
  refine lv_iload_n hx hb dJ6_bitCount_0f7a4_10 rfl (lv_at hl 0 rfl) ?_
  refine lv_ldcw (v := 858993459) hx hb F.1.2.2.2.1 (tb_hts F kc_J6_266) dJ6_bitCount_0f7a4_11 ?_
  refine lv_iand hx hb dJ6_bitCount_0f7a4_14 ?_
  refine lv_iload_n hx hb dJ6_bitCount_0f7a4_15 rfl (lv_at hl 0 rfl) ?_
  refine lv_iconst (v := 2) hx hb dJ6_bitCount_0f7a4_16 (by decide) ?_
  refine lv_iushr (v := (x1.toUInt32 >>> (((2 : Int32)).toUInt32 &&& Int32.toUInt32 31)).toInt32) hx hb dJ6_bitCount_0f7a4_17 rfl ?_
  refine lv_ldcw (v := 858993459) hx hb F.1.2.2.2.1 (tb_hts F kc_J6_266) dJ6_bitCount_0f7a4_18 ?_
  refine lv_iand hx hb dJ6_bitCount_0f7a4_21 ?_
  refine lv_iadd hx hb dJ6_bitCount_0f7a4_22 ?_
  obtain ⟨x3, e4, h⟩ := tb_lets h
  refine tb_nmi e4 ?_
  refine lv_istore_n (lv' := [(0, .int x3)]) hx hb dJ6_bitCount_0f7a4_23 rfl hl (by decide) rfl (fun ls hl => ?_)
  refine lv_iload_n hx hb dJ6_bitCount_0f7a4_24 rfl (lv_at hl 0 rfl) ?_
  refine lv_iload_n hx hb dJ6_bitCount_0f7a4_25 rfl (lv_at hl 0 rfl) ?_
  refine lv_iconst (v := 4) hx hb dJ6_bitCount_0f7a4_26 (by decide) ?_
  refine lv_iushr (v := (x3.toUInt32 >>> (((4 : Int32)).toUInt32 &&& Int32.toUInt32 31)).toInt32) hx hb dJ6_bitCount_0f7a4_27 rfl ?_
  refine lv_iadd hx hb dJ6_bitCount_0f7a4_28 ?_
  refine lv_ldcw (v := 252645135) hx hb F.1.2.2.2.1 (tb_hts F kc_J6_267) dJ6_bitCount_0f7a4_29 ?_
  refine lv_iand hx hb dJ6_bitCount_0f7a4_32 ?_
  obtain ⟨x5, e6, h⟩ := tb_lets h
  refine tb_nmi e6 ?_
  refine lv_istore_n (lv' := [(0, .int x5)]) hx hb dJ6_bitCount_0f7a4_33 rfl hl (by decide) rfl (fun ls hl => ?_)
  refine lv_iload_n hx hb dJ6_bitCount_0f7a4_34 rfl (lv_at hl 0 rfl) ?_
  refine lv_iload_n hx hb dJ6_bitCount_0f7a4_35 rfl (lv_at hl 0 rfl) ?_
  refine lv_bipush (v := 8) hx hb dJ6_bitCount_0f7a4_36 (by decide) ?_
  refine lv_iushr (v := (x5.toUInt32 >>> (((8 : Int32)).toUInt32 &&& Int32.toUInt32 31)).toInt32) hx hb dJ6_bitCount_0f7a4_38 rfl ?_
  refine lv_iadd hx hb dJ6_bitCount_0f7a4_39 ?_
  obtain ⟨x7, e8, h⟩ := tb_lets h
  refine tb_nmi e8 ?_
  refine lv_istore_n (lv' := [(0, .int x7)]) hx hb dJ6_bitCount_0f7a4_40 rfl hl (by decide) rfl (fun ls hl => ?_)
  refine lv_iload_n hx hb dJ6_bitCount_0f7a4_41 rfl (lv_at hl 0 rfl) ?_
  refine lv_iload_n hx hb dJ6_bitCount_0f7a4_42 rfl (lv_at hl 0 rfl) ?_
  refine lv_bipush (v := 16) hx hb dJ6_bitCount_0f7a4_43 (by decide) ?_
  refine lv_iushr (v := (x7.toUInt32 >>> (((16 : Int32)).toUInt32 &&& Int32.toUInt32 31)).toInt32) hx hb dJ6_bitCount_0f7a4_45 rfl ?_
  refine lv_iadd hx hb dJ6_bitCount_0f7a4_46 ?_
  obtain ⟨x9, e10, h⟩ := tb_lets h
  refine tb_nmi e10 ?_
  refine lv_istore_n (lv' := [(0, .int x9)]) hx hb dJ6_bitCount_0f7a4_47 rfl hl (by decide) rfl (fun ls hl => ?_)
  refine lv_iload_n hx hb dJ6_bitCount_0f7a4_48 rfl (lv_at hl 0 rfl) ?_
  refine lv_bipush (v := 63) hx hb dJ6_bitCount_0f7a4_49 (by decide) ?_
  refine lv_iand hx hb dJ6_bitCount_0f7a4_51 ?_
  exact tb_iret h F hP hS dJ6_bitCount_0f7a4_52
end
section
def fX2_bringBack (p : Nat) (M : tb_Mem) : Option (tb_Mem) :=
  tb_let (tb_up M p 11 0) (fun M1 => tb_b1 (fJ7_fill_53178 (p + 8) 20 0 M1) (fun M3 => some M3))
abbrev rmX2_bringBack : Room := { frames := 1, cells := 0, slots := 0, locals := 23 }
set_option maxHeartbeats 4000000 in
set_option maxRecDepth 100000 in
theorem tX2_bringBack (g : tb_GT) (l : Launch) (p : Nat) (hB : tb_B p) (M M' : tb_Mem) (h : fX2_bringBack p M = some M') : tb_C g l yX2_bringBack (Cond.code yX2_bringBack cX2_bringBack 1 none) rmX2_bringBack [.ref (tb_ad g p)] M M' none := by
  refine tb_entry (by decide) (Nat.le_of_ble_eq_true rfl) ?_
  intro P e s m below meth c F hP hS ls hl
  have F : tb_F g cX2_bringBack 1 RX2 none (Cond.code yX2_bringBack cX2_bringBack 1 none) P s m ([.ref (tb_ad g p)] : List Value).toArray meth c := F
  have hx := F.1.1
  have hb := F.1.2.1
  have hl : lv_has ls 1 [(0, .ref (tb_ad g p))] := hl
  unfold fX2_bringBack at h
  refine lv_aload_n hx hb dX2_bringBack_0 rfl (lv_at hl 0 rfl) ?_
  refine lv_iconst (v := 0) hx hb dX2_bringBack_1 (by decide) ?_
  obtain ⟨M1, e2, h⟩ := tb_lets h
  refine tb_puti F hP hS hB.1 (ci := 2) rfl inlX2 tyX2 tyX2_ok nmX2 11 (by decide) rfl rfl rfl rfl kf_X2_62 dX2_bringBack_2 (fun H locs hP hS => ?_)
  rw [← e2] at hP
  refine lv_aload_n hx hb dX2_bringBack_5 rfl (lv_at hl 0 rfl) ?_
  refine tb_getr F hP hB.1 (ci := 2) rfl inlX2 7 (by decide) rfl kf_X2_33 dX2_bringBack_6 ?_
  refine lv_iconst (v := 0) hx hb dX2_bringBack_9 (by decide) ?_
  obtain ⟨M3, e4, h⟩ := tb_b1s h
  refine tb_callS F hP hS hl.1 kJ7_fill_53178 km_X2_73 (as := [.ref (tb_ad g (p + 8)), .int 0]) (tJ7_fill_53178 g l (p + 8) 20 hB.2.2.2.2.2.2.2.2 0 M1 M3 e4) ⟨rfl, rfl, Nat.le_of_ble_eq_true rfl, Nat.le_of_ble_eq_true rfl⟩ rfl (rest := []) rfl (st1 := []) rfl (Nat.le_of_ble_eq_true rfl) ⟨Nat.zero_le _, Nat.zero_le _⟩ dX2_bringBack_10 (fun H locs hP hS => ?_)
  exact tb_vret h F hP hS dX2_bringBack_13
def fX2_clear (p : Nat) (M : tb_Mem) : Option (tb_Mem) :=
  tb_let (tb_up M p 8 0) (fun M1 => tb_let (tb_up M1 p 9 0) (fun M3 => tb_let (tb_up M3 p 10 0) (fun M5 => tb_let (tb_up M5 p 12 0) (fun M7 => tb_b1 (fX2_bringBack p M7) (fun M9 => some M9)))))
abbrev rmX2_clear : Room := { frames := 2, cells := 0, slots := 0, locals := 43 }
set_option maxHeartbeats 4000000 in
set_option maxRecDepth 100000 in
theorem tX2_clear (g : tb_GT) (l : Launch) (p : Nat) (hB : tb_B p) (M M' : tb_Mem) (h : fX2_clear p M = some M') : tb_C g l yX2_clear (Cond.code yX2_clear cX2_clear 1 none) rmX2_clear [.ref (tb_ad g p)] M M' none := by
  refine tb_entry (by decide) (Nat.le_of_ble_eq_true rfl) ?_
  intro P e s m below meth c F hP hS ls hl
  have F : tb_F g cX2_clear 1 RX2 none (Cond.code yX2_clear cX2_clear 1 none) P s m ([.ref (tb_ad g p)] : List Value).toArray meth c := F
  have hx := F.1.1
  have hb := F.1.2.1
  have hl : lv_has ls 1 [(0, .ref (tb_ad g p))] := hl
  unfold fX2_clear at h
  refine lv_aload_n hx hb dX2_clear_0 rfl (lv_at hl 0 rfl) ?_
  refine lv_iconst (v := 0) hx hb dX2_clear_1 (by decide) ?_
  obtain ⟨M1, e2, h⟩ := tb_lets h
  refine tb_puti F hP hS hB.1 (ci := 2) rfl inlX2 tyX2 tyX2_ok nmX2 8 (by decide) rfl rfl rfl rfl kf_X2_36 dX2_clear_2 (fun H locs hP hS => ?_)
  rw [← e2] at hP
  refine lv_aload_n hx hb dX2_clear_5 rfl (lv_at hl 0 rfl) ?_
  refine lv_iconst (v := 0) hx hb dX2_clear_6 (by decide) ?_
  obtain ⟨M3, e4, h⟩ := tb_lets h
  refine tb_puti F hP hS hB.1 (ci := 2) rfl inlX2 tyX2 tyX2_ok nmX2 9 (by decide) rfl rfl rfl rfl kf_X2_40 dX2_clear_7 (fun H locs hP hS => ?_)
  rw [← e4] at hP
  refine lv_aload_n hx hb dX2_clear_10 rfl (lv_at hl 0 rfl) ?_
  refine lv_iconst (v := 0) hx hb dX2_clear_11 (by decide) ?_
  obtain ⟨M5, e6, h⟩ := tb_lets h
  refine tb_puti F hP hS hB.1 (ci := 2) rfl inlX2 tyX2 tyX2_ok nmX2 10 (by decide) rfl rfl rfl rfl kf_X2_43 dX2_clear_12 (fun H locs hP hS => ?_)
  rw [← e6] at hP
  refine lv_aload_n hx hb dX2_clear_15 rfl (lv_at hl 0 rfl) ?_
  refine lv_iconst (v := 0) hx hb dX2_clear_16 (by decide) ?_
  obtain ⟨M7, e8, h⟩ := tb_lets h
  refine tb_puti F hP hS hB.1 (ci := 2) rfl inlX2 tyX2 tyX2_ok nmX2 12 (by decide) rfl rfl rfl rfl kf_X2_46 dX2_clear_17 (fun H locs hP hS => ?_)
  rw [← e8] at hP
  refine lv_aload_n hx hb dX2_clear_20 rfl (lv_at hl 0 rfl) ?_
  obtain ⟨M9, e10, h⟩ := tb_b1s h
  refine tb_callV F hP hS hl.1 kX2_bringBack km_X2_49 (as := []) (tX2_bringBack g l p hB M7 M9 e10) hB.1 ⟨rfl, rfl, Nat.le_of_ble_eq_true rfl, Nat.le_of_ble_eq_true rfl⟩ rfl (rest := []) rfl (st1 := []) rfl (Nat.le_of_ble_eq_true rfl) ⟨Nat.zero_le _, Nat.zero_le _⟩ dX2_clear_21 (fun H locs hP hS => ?_)
  exact tb_vret h F hP hS dX2_clear_24
def fX2_shape (p : Nat) (a1 : Int32) (a2 : Int32) (a3 : Int32) (M : tb_Mem) : Option (tb_Mem) :=
  tb_ck (tb_in a1 8) (tb_let (tb_up M (p + 1) a1.toNatClampNeg a2) (fun M2 => tb_let (tb_up M2 (p + 2) a1.toNatClampNeg a3) (fun M4 => tb_let (tb_up M4 (p + 3) a1.toNatClampNeg (if a2 = 2 then (a3 + 1) else a3)) (fun M7 => some M7))))
abbrev rmX2_shape : Room := { frames := 0, cells := 0, slots := 0, locals := 0 }
set_option maxHeartbeats 4000000 in
set_option maxRecDepth 100000 in
theorem tX2_shape (g : tb_GT) (l : Launch) (p : Nat) (hB : tb_B p) (a1 : Int32) (a2 : Int32) (a3 : Int32) (M M' : tb_Mem) (h : fX2_shape p a1 a2 a3 M = some M') : tb_C g l yX2_shape (Cond.code yX2_shape cX2_shape 4 none) rmX2_shape [.ref (tb_ad g p), .int a1, .int a2, .int a3] M M' none := by
  refine tb_entry (by decide) (Nat.le_of_ble_eq_true rfl) ?_
  intro P e s m below meth c F hP hS ls hl
  have F : tb_F g cX2_shape 4 RX2 none (Cond.code yX2_shape cX2_shape 4 none) P s m ([.ref (tb_ad g p), .int a1, .int a2, .int a3] : List Value).toArray meth c := F
  have hx := F.1.1
  have hb := F.1.2.1
  have hl : lv_has ls 4 [(0, .ref (tb_ad g p)), (1, .int a1), (2, .int a2), (3, .int a3)] := hl
  unfold fX2_shape at h
  refine lv_aload_n hx hb dX2_shape_0 rfl (lv_at hl 0 rfl) ?_
  refine tb_getr F hP hB.1 (ci := 2) rfl inlX2 0 (by decide) rfl kf_X2_9 dX2_shape_1 ?_
  refine lv_iload_n hx hb dX2_shape_4 rfl (lv_at hl 1 rfl) ?_
  refine lv_iload_n hx hb dX2_shape_5 rfl (lv_at hl 2 rfl) ?_
  obtain ⟨k1, h⟩ := tb_cks h
  obtain ⟨M2, e3, h⟩ := tb_lets h
  refine tb_iast F hP hS hB.2.1 rfl (tb_inv k1) dX2_shape_6 (fun H locs hP hS => ?_)
  rw [← e3] at hP
  refine lv_aload_n hx hb dX2_shape_7 rfl (lv_at hl 0 rfl) ?_
  refine tb_getr F hP hB.1 (ci := 2) rfl inlX2 1 (by decide) rfl kf_X2_15 dX2_shape_8 ?_
  refine lv_iload_n hx hb dX2_shape_11 rfl (lv_at hl 1 rfl) ?_
  refine lv_iload_n hx hb dX2_shape_12 rfl (lv_at hl 3 rfl) ?_
  obtain ⟨M4, e5, h⟩ := tb_lets h
  refine tb_iast F hP hS hB.2.2.1 rfl (tb_inv k1) dX2_shape_13 (fun H locs hP hS => ?_)
  rw [← e5] at hP
  refine lv_aload_n hx hb dX2_shape_14 rfl (lv_at hl 0 rfl) ?_
  refine tb_getr F hP hB.1 (ci := 2) rfl inlX2 2 (by decide) rfl kf_X2_18 dX2_shape_15 ?_
  refine lv_iload_n hx hb dX2_shape_18 rfl (lv_at hl 1 rfl) ?_
  refine lv_iload_n hx hb dX2_shape_19 rfl (lv_at hl 2 rfl) ?_
  refine lv_iconst (v := 2) hx hb dX2_shape_20 (by decide) ?_
  refine tb_mrg (g2 := F0 m 31 ls [.int (if a2 = 2 then (a3 + 1) else a3), .int a1, .ref (tb_ad g (p + 3))]) (fun hJ => ?_) ?_
  · refine lv_icmp_ne (tgt := 30) hx hb dX2_shape_21 (by decide) (fun c6 => ?_) (fun c6 => ?_)
    · refine lv_iload_n hx hb dX2_shape_30 rfl (lv_at hl 3 rfl) ?_
      rw [if_neg c6] at hJ
      exact hJ
    · refine lv_iload_n hx hb dX2_shape_24 rfl (lv_at hl 3 rfl) ?_
      refine lv_iconst (v := 1) hx hb dX2_shape_25 (by decide) ?_
      refine lv_iadd hx hb dX2_shape_26 ?_
      refine lv_goto (tgt := 31) hx hb dX2_shape_27 (by decide) ?_
      rw [if_pos c6] at hJ
      exact hJ
  obtain ⟨M7, e8, h⟩ := tb_lets h
  refine tb_iast F hP hS hB.2.2.2.1 rfl (tb_inv k1) dX2_shape_31 (fun H locs hP hS => ?_)
  rw [← e8] at hP
  exact tb_vret h F hP hS dX2_shape_32
def fX2_addBar (p : Nat) (a1 : Int32) (a2 : Int32) (M : tb_Mem) : Option (tb_Mem) :=
  if (M p 8) < 8 then (tb_b1 (fX2_shape p (M p 8) a1 a2 M) (fun M2 => tb_ck (tb_in (M2 p 8) 8) (tb_let (tb_up M2 (p + 4) ((M2 p 8).toNatClampNeg) (M2 p 8)) (fun M5 => tb_ck (tb_in (M5 p 8) 8) (tb_let (tb_up M5 (p + 5) ((M5 p 8).toNatClampNeg) (M5 p 8)) (fun M8 => tb_ck (tb_in (M8 p 8) 8) (tb_let (tb_up M8 (p + 6) ((M8 p 8).toNatClampNeg) 0) (fun M11 => tb_ck (tb_in (M11 p 8) 8) (tb_let (tb_up M11 (p + 7) ((M11 p 8).toNatClampNeg) 0) (fun M14 => tb_let (tb_up M14 p 8 ((M14 p 8) + 1)) (fun M16 => some M16))))))))))) else (some M)
abbrev rmX2_addBar : Room := { frames := 1, cells := 0, slots := 0, locals := 23 }
set_option maxHeartbeats 4000000 in
set_option maxRecDepth 100000 in
theorem tX2_addBar (g : tb_GT) (l : Launch) (p : Nat) (hB : tb_B p) (a1 : Int32) (a2 : Int32) (M M' : tb_Mem) (h : fX2_addBar p a1 a2 M = some M') : tb_C g l yX2_addBar (Cond.code yX2_addBar cX2_addBar 3 none) rmX2_addBar [.ref (tb_ad g p), .int a1, .int a2] M M' none := by
  refine tb_entry (by decide) (Nat.le_of_ble_eq_true rfl) ?_
  intro P e s m below meth c F hP hS ls hl
  have F : tb_F g cX2_addBar 3 RX2 none (Cond.code yX2_addBar cX2_addBar 3 none) P s m ([.ref (tb_ad g p), .int a1, .int a2] : List Value).toArray meth c := F
  have hx := F.1.1
  have hb := F.1.2.1
  have hl : lv_has ls 3 [(0, .ref (tb_ad g p)), (1, .int a1), (2, .int a2)] := hl
  unfold fX2_addBar at h
  refine lv_aload_n hx hb dX2_addBar_0 rfl (lv_at hl 0 rfl) ?_
  refine tb_geti F hP hB.1 (ci := 2) rfl inlX2 8 (by decide) rfl kf_X2_36 dX2_addBar_1 ?_
  refine lv_bipush (v := 8) hx hb dX2_addBar_4 (by decide) ?_
  refine lv_icmp_lt (tgt := 10) hx hb dX2_addBar_6 (by decide) (fun c1 => ?_) (fun c1 => ?_)
  · have h := tb_ip c1 h
    refine lv_aload_n hx hb dX2_addBar_10 rfl (lv_at hl 0 rfl) ?_
    refine lv_aload_n hx hb dX2_addBar_11 rfl (lv_at hl 0 rfl) ?_
    refine tb_geti F hP hB.1 (ci := 2) rfl inlX2 8 (by decide) rfl kf_X2_36 dX2_addBar_12 ?_
    refine lv_iload_n hx hb dX2_addBar_15 rfl (lv_at hl 1 rfl) ?_
    refine lv_iload_n hx hb dX2_addBar_16 rfl (lv_at hl 2 rfl) ?_
    obtain ⟨M2, e3, h⟩ := tb_b1s h
    refine tb_callV F hP hS hl.1 kX2_shape km_X2_52 (as := [.int (M p 8), .int a1, .int a2]) (tX2_shape g l p hB (M p 8) a1 a2 M M2 e3) hB.1 ⟨rfl, rfl, Nat.le_of_ble_eq_true rfl, Nat.le_of_ble_eq_true rfl⟩ rfl (rest := []) rfl (st1 := []) rfl (Nat.le_of_ble_eq_true rfl) ⟨Nat.zero_le _, Nat.zero_le _⟩ dX2_addBar_17 (fun H locs hP hS => ?_)
    refine lv_aload_n hx hb dX2_addBar_20 rfl (lv_at hl 0 rfl) ?_
    refine tb_getr F hP hB.1 (ci := 2) rfl inlX2 3 (by decide) rfl kf_X2_21 dX2_addBar_21 ?_
    refine lv_aload_n hx hb dX2_addBar_24 rfl (lv_at hl 0 rfl) ?_
    refine tb_geti F hP hB.1 (ci := 2) rfl inlX2 8 (by decide) rfl kf_X2_36 dX2_addBar_25 ?_
    refine lv_aload_n hx hb dX2_addBar_28 rfl (lv_at hl 0 rfl) ?_
    refine tb_geti F hP hB.1 (ci := 2) rfl inlX2 8 (by decide) rfl kf_X2_36 dX2_addBar_29 ?_
    obtain ⟨k4, h⟩ := tb_cks h
    obtain ⟨M5, e6, h⟩ := tb_lets h
    refine tb_iast F hP hS hB.2.2.2.2.1 rfl (tb_inv k4) dX2_addBar_32 (fun H locs hP hS => ?_)
    rw [← e6] at hP
    refine lv_aload_n hx hb dX2_addBar_33 rfl (lv_at hl 0 rfl) ?_
    refine tb_getr F hP hB.1 (ci := 2) rfl inlX2 4 (by decide) rfl kf_X2_24 dX2_addBar_34 ?_
    refine lv_aload_n hx hb dX2_addBar_37 rfl (lv_at hl 0 rfl) ?_
    refine tb_geti F hP hB.1 (ci := 2) rfl inlX2 8 (by decide) rfl kf_X2_36 dX2_addBar_38 ?_
    refine lv_aload_n hx hb dX2_addBar_41 rfl (lv_at hl 0 rfl) ?_
    refine tb_geti F hP hB.1 (ci := 2) rfl inlX2 8 (by decide) rfl kf_X2_36 dX2_addBar_42 ?_
    obtain ⟨k7, h⟩ := tb_cks h
    obtain ⟨M8, e9, h⟩ := tb_lets h
    refine tb_iast F hP hS hB.2.2.2.2.2.1 rfl (tb_inv k7) dX2_addBar_45 (fun H locs hP hS => ?_)
    rw [← e9] at hP
    refine lv_aload_n hx hb dX2_addBar_46 rfl (lv_at hl 0 rfl) ?_
    refine tb_getr F hP hB.1 (ci := 2) rfl inlX2 5 (by decide) rfl kf_X2_27 dX2_addBar_47 ?_
    refine lv_aload_n hx hb dX2_addBar_50 rfl (lv_at hl 0 rfl) ?_
    refine tb_geti F hP hB.1 (ci := 2) rfl inlX2 8 (by decide) rfl kf_X2_36 dX2_addBar_51 ?_
    refine lv_iconst (v := 0) hx hb dX2_addBar_54 (by decide) ?_
    obtain ⟨k10, h⟩ := tb_cks h
    obtain ⟨M11, e12, h⟩ := tb_lets h
    refine tb_iast F hP hS hB.2.2.2.2.2.2.1 rfl (tb_inv k10) dX2_addBar_55 (fun H locs hP hS => ?_)
    rw [← e12] at hP
    refine lv_aload_n hx hb dX2_addBar_56 rfl (lv_at hl 0 rfl) ?_
    refine tb_getr F hP hB.1 (ci := 2) rfl inlX2 6 (by decide) rfl kf_X2_30 dX2_addBar_57 ?_
    refine lv_aload_n hx hb dX2_addBar_60 rfl (lv_at hl 0 rfl) ?_
    refine tb_geti F hP hB.1 (ci := 2) rfl inlX2 8 (by decide) rfl kf_X2_36 dX2_addBar_61 ?_
    refine lv_iconst (v := 0) hx hb dX2_addBar_64 (by decide) ?_
    obtain ⟨k13, h⟩ := tb_cks h
    obtain ⟨M14, e15, h⟩ := tb_lets h
    refine tb_iast F hP hS hB.2.2.2.2.2.2.2.1 rfl (tb_inv k13) dX2_addBar_65 (fun H locs hP hS => ?_)
    rw [← e15] at hP
    refine lv_aload_n hx hb dX2_addBar_66 rfl (lv_at hl 0 rfl) ?_
    refine lv_dup hx hb dX2_addBar_67 rfl ?_
    refine tb_geti F hP hB.1 (ci := 2) rfl inlX2 8 (by decide) rfl kf_X2_36 dX2_addBar_68 ?_
    refine lv_iconst (v := 1) hx hb dX2_addBar_71 (by decide) ?_
    refine lv_iadd hx hb dX2_addBar_72 ?_
    obtain ⟨M16, e17, h⟩ := tb_lets h
    refine tb_puti F hP hS hB.1 (ci := 2) rfl inlX2 tyX2 tyX2_ok nmX2 8 (by decide) rfl rfl rfl rfl kf_X2_36 dX2_addBar_73 (fun H locs hP hS => ?_)
    rw [← e17] at hP
    exact tb_vret h F hP hS dX2_addBar_76
  · have h := tb_ineg c1 h
    exact tb_vret h F hP hS dX2_addBar_9
def fX2_become (p : Nat) (p1 : Nat) (M : tb_Mem) : Option (tb_Mem) :=
  tb_let (tb_row M (p + 1) (va_cpy (M (p1 + 1)) (M (p + 1)) ((0 : Int32).toNatClampNeg) ((0 : Int32).toNatClampNeg) ((8 : Int32).toNatClampNeg))) (fun M1 => tb_let (tb_row M1 (p + 2) (va_cpy (M1 (p1 + 2)) (M1 (p + 2)) ((0 : Int32).toNatClampNeg) ((0 : Int32).toNatClampNeg) ((8 : Int32).toNatClampNeg))) (fun M3 => tb_let (tb_row M3 (p + 3) (va_cpy (M3 (p1 + 3)) (M3 (p + 3)) ((0 : Int32).toNatClampNeg) ((0 : Int32).toNatClampNeg) ((8 : Int32).toNatClampNeg))) (fun M5 => tb_let (tb_row M5 (p + 4) (va_cpy (M5 (p1 + 4)) (M5 (p + 4)) ((0 : Int32).toNatClampNeg) ((0 : Int32).toNatClampNeg) ((8 : Int32).toNatClampNeg))) (fun M7 => tb_let (tb_row M7 (p + 5) (va_cpy (M7 (p1 + 5)) (M7 (p + 5)) ((0 : Int32).toNatClampNeg) ((0 : Int32).toNatClampNeg) ((8 : Int32).toNatClampNeg))) (fun M9 => tb_let (tb_row M9 (p + 6) (va_cpy (M9 (p1 + 6)) (M9 (p + 6)) ((0 : Int32).toNatClampNeg) ((0 : Int32).toNatClampNeg) ((8 : Int32).toNatClampNeg))) (fun M11 => tb_let (tb_row M11 (p + 7) (va_cpy (M11 (p1 + 7)) (M11 (p + 7)) ((0 : Int32).toNatClampNeg) ((0 : Int32).toNatClampNeg) ((8 : Int32).toNatClampNeg))) (fun M13 => tb_let (tb_row M13 (p + 8) (va_cpy (M13 (p1 + 8)) (M13 (p + 8)) ((0 : Int32).toNatClampNeg) ((0 : Int32).toNatClampNeg) ((20 : Int32).toNatClampNeg))) (fun M15 => tb_let (tb_up M15 p 8 (M15 p1 8)) (fun M17 => tb_let (tb_up M17 p 9 (M17 p1 9)) (fun M19 => tb_let (tb_up M19 p 10 (M19 p1 10)) (fun M21 => tb_let (tb_up M21 p 11 (M21 p1 11)) (fun M23 => tb_let (tb_up M23 p 12 (M23 p1 12)) (fun M25 => some M25)))))))))))))
abbrev rmX2_become : Room := { frames := 1, cells := 0, slots := 0, locals := 64 }
set_option maxHeartbeats 4000000 in
set_option maxRecDepth 100000 in
theorem tX2_become (g : tb_GT) (l : Launch) (p : Nat) (p1 : Nat) (hB : tb_B p) (hB1 : tb_B p1) (M M' : tb_Mem) (h : fX2_become p p1 M = some M') : tb_C g l yX2_become (Cond.code yX2_become cX2_become 2 none) rmX2_become [.ref (tb_ad g p), .ref (tb_ad g p1)] M M' none := by
  refine tb_entry (by decide) (Nat.le_of_ble_eq_true rfl) ?_
  intro P e s m below meth c F hP hS ls hl
  have F : tb_F g cX2_become 2 RX2 none (Cond.code yX2_become cX2_become 2 none) P s m ([.ref (tb_ad g p), .ref (tb_ad g p1)] : List Value).toArray meth c := F
  have hx := F.1.1
  have hb := F.1.2.1
  have hl : lv_has ls 2 [(0, .ref (tb_ad g p)), (1, .ref (tb_ad g p1))] := hl
  unfold fX2_become at h
  refine lv_aload_n hx hb dX2_become_0 rfl (lv_at hl 1 rfl) ?_
  refine tb_getr F hP hB1.1 (ci := 2) rfl inlX2 0 (by decide) rfl kf_X2_9 dX2_become_1 ?_
  refine lv_iconst (v := 0) hx hb dX2_become_4 (by decide) ?_
  refine lv_aload_n hx hb dX2_become_5 rfl (lv_at hl 0 rfl) ?_
  refine tb_getr F hP hB.1 (ci := 2) rfl inlX2 0 (by decide) rfl kf_X2_9 dX2_become_6 ?_
  refine lv_iconst (v := 0) hx hb dX2_become_9 (by decide) ?_
  refine lv_bipush (v := 8) hx hb dX2_become_10 (by decide) ?_
  obtain ⟨M1, e2, h⟩ := tb_lets h
  refine tb_copy F hP hS hl.1 hB1.2.1 hB.2.1 km_X2_56 kn_cpN kn_cpS ki_J10 (by decide) (by decide) (by decide) (by decide +kernel) (by decide +kernel) (Nat.le_of_ble_eq_true rfl) (Nat.le_of_ble_eq_true rfl) dX2_become_12 (fun H locs hP hS => ?_)
  rw [← e2] at hP
  refine lv_aload_n hx hb dX2_become_15 rfl (lv_at hl 1 rfl) ?_
  refine tb_getr F hP hB1.1 (ci := 2) rfl inlX2 1 (by decide) rfl kf_X2_15 dX2_become_16 ?_
  refine lv_iconst (v := 0) hx hb dX2_become_19 (by decide) ?_
  refine lv_aload_n hx hb dX2_become_20 rfl (lv_at hl 0 rfl) ?_
  refine tb_getr F hP hB.1 (ci := 2) rfl inlX2 1 (by decide) rfl kf_X2_15 dX2_become_21 ?_
  refine lv_iconst (v := 0) hx hb dX2_become_24 (by decide) ?_
  refine lv_bipush (v := 8) hx hb dX2_become_25 (by decide) ?_
  obtain ⟨M3, e4, h⟩ := tb_lets h
  refine tb_copy F hP hS hl.1 hB1.2.2.1 hB.2.2.1 km_X2_56 kn_cpN kn_cpS ki_J10 (by decide) (by decide) (by decide) (by decide +kernel) (by decide +kernel) (Nat.le_of_ble_eq_true rfl) (Nat.le_of_ble_eq_true rfl) dX2_become_27 (fun H locs hP hS => ?_)
  rw [← e4] at hP
  refine lv_aload_n hx hb dX2_become_30 rfl (lv_at hl 1 rfl) ?_
  refine tb_getr F hP hB1.1 (ci := 2) rfl inlX2 2 (by decide) rfl kf_X2_18 dX2_become_31 ?_
  refine lv_iconst (v := 0) hx hb dX2_become_34 (by decide) ?_
  refine lv_aload_n hx hb dX2_become_35 rfl (lv_at hl 0 rfl) ?_
  refine tb_getr F hP hB.1 (ci := 2) rfl inlX2 2 (by decide) rfl kf_X2_18 dX2_become_36 ?_
  refine lv_iconst (v := 0) hx hb dX2_become_39 (by decide) ?_
  refine lv_bipush (v := 8) hx hb dX2_become_40 (by decide) ?_
  obtain ⟨M5, e6, h⟩ := tb_lets h
  refine tb_copy F hP hS hl.1 hB1.2.2.2.1 hB.2.2.2.1 km_X2_56 kn_cpN kn_cpS ki_J10 (by decide) (by decide) (by decide) (by decide +kernel) (by decide +kernel) (Nat.le_of_ble_eq_true rfl) (Nat.le_of_ble_eq_true rfl) dX2_become_42 (fun H locs hP hS => ?_)
  rw [← e6] at hP
  refine lv_aload_n hx hb dX2_become_45 rfl (lv_at hl 1 rfl) ?_
  refine tb_getr F hP hB1.1 (ci := 2) rfl inlX2 3 (by decide) rfl kf_X2_21 dX2_become_46 ?_
  refine lv_iconst (v := 0) hx hb dX2_become_49 (by decide) ?_
  refine lv_aload_n hx hb dX2_become_50 rfl (lv_at hl 0 rfl) ?_
  refine tb_getr F hP hB.1 (ci := 2) rfl inlX2 3 (by decide) rfl kf_X2_21 dX2_become_51 ?_
  refine lv_iconst (v := 0) hx hb dX2_become_54 (by decide) ?_
  refine lv_bipush (v := 8) hx hb dX2_become_55 (by decide) ?_
  obtain ⟨M7, e8, h⟩ := tb_lets h
  refine tb_copy F hP hS hl.1 hB1.2.2.2.2.1 hB.2.2.2.2.1 km_X2_56 kn_cpN kn_cpS ki_J10 (by decide) (by decide) (by decide) (by decide +kernel) (by decide +kernel) (Nat.le_of_ble_eq_true rfl) (Nat.le_of_ble_eq_true rfl) dX2_become_57 (fun H locs hP hS => ?_)
  rw [← e8] at hP
  refine lv_aload_n hx hb dX2_become_60 rfl (lv_at hl 1 rfl) ?_
  refine tb_getr F hP hB1.1 (ci := 2) rfl inlX2 4 (by decide) rfl kf_X2_24 dX2_become_61 ?_
  refine lv_iconst (v := 0) hx hb dX2_become_64 (by decide) ?_
  refine lv_aload_n hx hb dX2_become_65 rfl (lv_at hl 0 rfl) ?_
  refine tb_getr F hP hB.1 (ci := 2) rfl inlX2 4 (by decide) rfl kf_X2_24 dX2_become_66 ?_
  refine lv_iconst (v := 0) hx hb dX2_become_69 (by decide) ?_
  refine lv_bipush (v := 8) hx hb dX2_become_70 (by decide) ?_
  obtain ⟨M9, e10, h⟩ := tb_lets h
  refine tb_copy F hP hS hl.1 hB1.2.2.2.2.2.1 hB.2.2.2.2.2.1 km_X2_56 kn_cpN kn_cpS ki_J10 (by decide) (by decide) (by decide) (by decide +kernel) (by decide +kernel) (Nat.le_of_ble_eq_true rfl) (Nat.le_of_ble_eq_true rfl) dX2_become_72 (fun H locs hP hS => ?_)
  rw [← e10] at hP
  refine lv_aload_n hx hb dX2_become_75 rfl (lv_at hl 1 rfl) ?_
  refine tb_getr F hP hB1.1 (ci := 2) rfl inlX2 5 (by decide) rfl kf_X2_27 dX2_become_76 ?_
  refine lv_iconst (v := 0) hx hb dX2_become_79 (by decide) ?_
  refine lv_aload_n hx hb dX2_become_80 rfl (lv_at hl 0 rfl) ?_
  refine tb_getr F hP hB.1 (ci := 2) rfl inlX2 5 (by decide) rfl kf_X2_27 dX2_become_81 ?_
  refine lv_iconst (v := 0) hx hb dX2_become_84 (by decide) ?_
  refine lv_bipush (v := 8) hx hb dX2_become_85 (by decide) ?_
  obtain ⟨M11, e12, h⟩ := tb_lets h
  refine tb_copy F hP hS hl.1 hB1.2.2.2.2.2.2.1 hB.2.2.2.2.2.2.1 km_X2_56 kn_cpN kn_cpS ki_J10 (by decide) (by decide) (by decide) (by decide +kernel) (by decide +kernel) (Nat.le_of_ble_eq_true rfl) (Nat.le_of_ble_eq_true rfl) dX2_become_87 (fun H locs hP hS => ?_)
  rw [← e12] at hP
  refine lv_aload_n hx hb dX2_become_90 rfl (lv_at hl 1 rfl) ?_
  refine tb_getr F hP hB1.1 (ci := 2) rfl inlX2 6 (by decide) rfl kf_X2_30 dX2_become_91 ?_
  refine lv_iconst (v := 0) hx hb dX2_become_94 (by decide) ?_
  refine lv_aload_n hx hb dX2_become_95 rfl (lv_at hl 0 rfl) ?_
  refine tb_getr F hP hB.1 (ci := 2) rfl inlX2 6 (by decide) rfl kf_X2_30 dX2_become_96 ?_
  refine lv_iconst (v := 0) hx hb dX2_become_99 (by decide) ?_
  refine lv_bipush (v := 8) hx hb dX2_become_100 (by decide) ?_
  obtain ⟨M13, e14, h⟩ := tb_lets h
  refine tb_copy F hP hS hl.1 hB1.2.2.2.2.2.2.2.1 hB.2.2.2.2.2.2.2.1 km_X2_56 kn_cpN kn_cpS ki_J10 (by decide) (by decide) (by decide) (by decide +kernel) (by decide +kernel) (Nat.le_of_ble_eq_true rfl) (Nat.le_of_ble_eq_true rfl) dX2_become_102 (fun H locs hP hS => ?_)
  rw [← e14] at hP
  refine lv_aload_n hx hb dX2_become_105 rfl (lv_at hl 1 rfl) ?_
  refine tb_getr F hP hB1.1 (ci := 2) rfl inlX2 7 (by decide) rfl kf_X2_33 dX2_become_106 ?_
  refine lv_iconst (v := 0) hx hb dX2_become_109 (by decide) ?_
  refine lv_aload_n hx hb dX2_become_110 rfl (lv_at hl 0 rfl) ?_
  refine tb_getr F hP hB.1 (ci := 2) rfl inlX2 7 (by decide) rfl kf_X2_33 dX2_become_111 ?_
  refine lv_iconst (v := 0) hx hb dX2_become_114 (by decide) ?_
  refine lv_bipush (v := 20) hx hb dX2_become_115 (by decide) ?_
  obtain ⟨M15, e16, h⟩ := tb_lets h
  refine tb_copy F hP hS hl.1 hB1.2.2.2.2.2.2.2.2 hB.2.2.2.2.2.2.2.2 km_X2_56 kn_cpN kn_cpS ki_J10 (by decide) (by decide) (by decide) (by decide +kernel) (by decide +kernel) (Nat.le_of_ble_eq_true rfl) (Nat.le_of_ble_eq_true rfl) dX2_become_117 (fun H locs hP hS => ?_)
  rw [← e16] at hP
  refine lv_aload_n hx hb dX2_become_120 rfl (lv_at hl 0 rfl) ?_
  refine lv_aload_n hx hb dX2_become_121 rfl (lv_at hl 1 rfl) ?_
  refine tb_geti F hP hB1.1 (ci := 2) rfl inlX2 8 (by decide) rfl kf_X2_36 dX2_become_122 ?_
  obtain ⟨M17, e18, h⟩ := tb_lets h
  refine tb_puti F hP hS hB.1 (ci := 2) rfl inlX2 tyX2 tyX2_ok nmX2 8 (by decide) rfl rfl rfl rfl kf_X2_36 dX2_become_125 (fun H locs hP hS => ?_)
  rw [← e18] at hP
  refine lv_aload_n hx hb dX2_become_128 rfl (lv_at hl 0 rfl) ?_
  refine lv_aload_n hx hb dX2_become_129 rfl (lv_at hl 1 rfl) ?_
  refine tb_geti F hP hB1.1 (ci := 2) rfl inlX2 9 (by decide) rfl kf_X2_40 dX2_become_130 ?_
  obtain ⟨M19, e20, h⟩ := tb_lets h
  refine tb_puti F hP hS hB.1 (ci := 2) rfl inlX2 tyX2 tyX2_ok nmX2 9 (by decide) rfl rfl rfl rfl kf_X2_40 dX2_become_133 (fun H locs hP hS => ?_)
  rw [← e20] at hP
  refine lv_aload_n hx hb dX2_become_136 rfl (lv_at hl 0 rfl) ?_
  refine lv_aload_n hx hb dX2_become_137 rfl (lv_at hl 1 rfl) ?_
  refine tb_geti F hP hB1.1 (ci := 2) rfl inlX2 10 (by decide) rfl kf_X2_43 dX2_become_138 ?_
  obtain ⟨M21, e22, h⟩ := tb_lets h
  refine tb_puti F hP hS hB.1 (ci := 2) rfl inlX2 tyX2 tyX2_ok nmX2 10 (by decide) rfl rfl rfl rfl kf_X2_43 dX2_become_141 (fun H locs hP hS => ?_)
  rw [← e22] at hP
  refine lv_aload_n hx hb dX2_become_144 rfl (lv_at hl 0 rfl) ?_
  refine lv_aload_n hx hb dX2_become_145 rfl (lv_at hl 1 rfl) ?_
  refine tb_geti F hP hB1.1 (ci := 2) rfl inlX2 11 (by decide) rfl kf_X2_62 dX2_become_146 ?_
  obtain ⟨M23, e24, h⟩ := tb_lets h
  refine tb_puti F hP hS hB.1 (ci := 2) rfl inlX2 tyX2 tyX2_ok nmX2 11 (by decide) rfl rfl rfl rfl kf_X2_62 dX2_become_149 (fun H locs hP hS => ?_)
  rw [← e24] at hP
  refine lv_aload_n hx hb dX2_become_152 rfl (lv_at hl 0 rfl) ?_
  refine lv_aload_n hx hb dX2_become_153 rfl (lv_at hl 1 rfl) ?_
  refine tb_geti F hP hB1.1 (ci := 2) rfl inlX2 12 (by decide) rfl kf_X2_46 dX2_become_154 ?_
  obtain ⟨M25, e26, h⟩ := tb_lets h
  refine tb_puti F hP hS hB.1 (ci := 2) rfl inlX2 tyX2 tyX2_ok nmX2 12 (by decide) rfl rfl rfl rfl kf_X2_46 dX2_become_157 (fun H locs hP hS => ?_)
  rw [← e26] at hP
  exact tb_vret h F hP hS dX2_become_160
def fX2_has (p : Nat) (a1 : Int32) (M : tb_Mem) : Option (Int32 × tb_Mem) :=
  if a1 < 0 then (some (0, M)) else (some ((if (M p 8) ≤ a1 then 0 else 1), M))
abbrev rmX2_has : Room := { frames := 0, cells := 0, slots := 0, locals := 0 }
set_option maxHeartbeats 4000000 in
set_option maxRecDepth 100000 in
theorem tX2_has (g : tb_GT) (l : Launch) (p : Nat) (hB : tb_B p) (a1 : Int32) (M M' : tb_Mem) (r : Int32) (h : fX2_has p a1 M = some (r, M')) : tb_C g l yX2_has (Cond.code yX2_has cX2_has 2 (some .boolean)) rmX2_has [.ref (tb_ad g p), .int a1] M M' (some (.int r)) := by
  refine tb_entry (by decide) (Nat.le_of_ble_eq_true rfl) ?_
  intro P e s m below meth c F hP hS ls hl
  have F : tb_F g cX2_has 2 RX2 (some .boolean) (Cond.code yX2_has cX2_has 2 (some .boolean)) P s m ([.ref (tb_ad g p), .int a1] : List Value).toArray meth c := F
  have hx := F.1.1
  have hb := F.1.2.1
  have hl : lv_has ls 2 [(0, .ref (tb_ad g p)), (1, .int a1)] := hl
  unfold fX2_has at h
  refine lv_iload_n hx hb dX2_has_0 rfl (lv_at hl 1 rfl) ?_
  refine lv_if_lt (tgt := 16) hx hb dX2_has_1 (by decide) (fun c1 => ?_) (fun c1 => ?_)
  · have h := tb_ip c1 h
    refine lv_iconst (v := 0) hx hb dX2_has_16 (by decide) ?_
    exact tb_zret h F rfl hP hS dX2_has_17
  · have h := tb_ineg c1 h
    refine lv_iload_n hx hb dX2_has_4 rfl (lv_at hl 1 rfl) ?_
    refine lv_aload_n hx hb dX2_has_5 rfl (lv_at hl 0 rfl) ?_
    refine tb_geti F hP hB.1 (ci := 2) rfl inlX2 8 (by decide) rfl kf_X2_36 dX2_has_6 ?_
    refine tb_mrg (g2 := F0 m 17 ls [.int (if (M p 8) ≤ a1 then 0 else 1)]) (fun hJ => ?_) ?_
    · refine lv_icmp_ge (tgt := 16) hx hb dX2_has_9 (by decide) (fun c2 => ?_) (fun c2 => ?_)
      · refine lv_iconst (v := 0) hx hb dX2_has_16 (by decide) ?_
        rw [if_pos c2] at hJ
        exact hJ
      · refine lv_iconst (v := 1) hx hb dX2_has_12 (by decide) ?_
        refine lv_goto (tgt := 17) hx hb dX2_has_13 (by decide) ?_
        rw [if_neg c2] at hJ
        exact hJ
    exact tb_zret h F (tb_bln (by (repeat' split) <;> decide)) hP hS dX2_has_17
def fX2_moves (p : Nat) (a1 : Int32) (M : tb_Mem) : Option (Int32 × tb_Mem) :=
  some ((if ((M p 9) &&& (1 <<< (a1 &&& 31))) = 0 then 0 else 1), M)
abbrev rmX2_moves : Room := { frames := 0, cells := 0, slots := 0, locals := 0 }
set_option maxHeartbeats 4000000 in
set_option maxRecDepth 100000 in
theorem tX2_moves (g : tb_GT) (l : Launch) (p : Nat) (hB : tb_B p) (a1 : Int32) (M M' : tb_Mem) (r : Int32) (h : fX2_moves p a1 M = some (r, M')) : tb_C g l yX2_moves (Cond.code yX2_moves cX2_moves 2 (some .boolean)) rmX2_moves [.ref (tb_ad g p), .int a1] M M' (some (.int r)) := by
  refine tb_entry (by decide) (Nat.le_of_ble_eq_true rfl) ?_
  intro P e s m below meth c F hP hS ls hl
  have F : tb_F g cX2_moves 2 RX2 (some .boolean) (Cond.code yX2_moves cX2_moves 2 (some .boolean)) P s m ([.ref (tb_ad g p), .int a1] : List Value).toArray meth c := F
  have hx := F.1.1
  have hb := F.1.2.1
  have hl : lv_has ls 2 [(0, .ref (tb_ad g p)), (1, .int a1)] := hl
  unfold fX2_moves at h
  refine lv_aload_n hx hb dX2_moves_0 rfl (lv_at hl 0 rfl) ?_
  refine tb_geti F hP hB.1 (ci := 2) rfl inlX2 9 (by decide) rfl kf_X2_40 dX2_moves_1 ?_
  refine lv_iconst (v := 1) hx hb dX2_moves_4 (by decide) ?_
  refine lv_iload_n hx hb dX2_moves_5 rfl (lv_at hl 1 rfl) ?_
  refine lv_ishl hx hb dX2_moves_6 ?_
  refine lv_iand hx hb dX2_moves_7 ?_
  refine tb_mrg (g2 := F0 m 16 ls [.int (if ((M p 9) &&& (1 <<< (a1 &&& 31))) = 0 then 0 else 1)]) (fun hJ => ?_) ?_
  · refine lv_if_eq (tgt := 15) hx hb dX2_moves_8 (by decide) (fun c1 => ?_) (fun c1 => ?_)
    · refine lv_iconst (v := 0) hx hb dX2_moves_15 (by decide) ?_
      rw [if_pos c1] at hJ
      exact hJ
    · refine lv_iconst (v := 1) hx hb dX2_moves_11 (by decide) ?_
      refine lv_goto (tgt := 16) hx hb dX2_moves_12 (by decide) ?_
      rw [if_neg c1] at hJ
      exact hJ
  exact tb_zret h F (tb_bln (by (repeat' split) <;> decide)) hP hS dX2_moves_16
def fX2_hangs (p : Nat) (a1 : Int32) (M : tb_Mem) : Option (Int32 × tb_Mem) :=
  some ((if ((M p 10) &&& (1 <<< (a1 &&& 31))) = 0 then 0 else 1), M)
abbrev rmX2_hangs : Room := { frames := 0, cells := 0, slots := 0, locals := 0 }
set_option maxHeartbeats 4000000 in
set_option maxRecDepth 100000 in
theorem tX2_hangs (g : tb_GT) (l : Launch) (p : Nat) (hB : tb_B p) (a1 : Int32) (M M' : tb_Mem) (r : Int32) (h : fX2_hangs p a1 M = some (r, M')) : tb_C g l yX2_hangs (Cond.code yX2_hangs cX2_hangs 2 (some .boolean)) rmX2_hangs [.ref (tb_ad g p), .int a1] M M' (some (.int r)) := by
  refine tb_entry (by decide) (Nat.le_of_ble_eq_true rfl) ?_
  intro P e s m below meth c F hP hS ls hl
  have F : tb_F g cX2_hangs 2 RX2 (some .boolean) (Cond.code yX2_hangs cX2_hangs 2 (some .boolean)) P s m ([.ref (tb_ad g p), .int a1] : List Value).toArray meth c := F
  have hx := F.1.1
  have hb := F.1.2.1
  have hl : lv_has ls 2 [(0, .ref (tb_ad g p)), (1, .int a1)] := hl
  unfold fX2_hangs at h
  refine lv_aload_n hx hb dX2_hangs_0 rfl (lv_at hl 0 rfl) ?_
  refine tb_geti F hP hB.1 (ci := 2) rfl inlX2 10 (by decide) rfl kf_X2_43 dX2_hangs_1 ?_
  refine lv_iconst (v := 1) hx hb dX2_hangs_4 (by decide) ?_
  refine lv_iload_n hx hb dX2_hangs_5 rfl (lv_at hl 1 rfl) ?_
  refine lv_ishl hx hb dX2_hangs_6 ?_
  refine lv_iand hx hb dX2_hangs_7 ?_
  refine tb_mrg (g2 := F0 m 16 ls [.int (if ((M p 10) &&& (1 <<< (a1 &&& 31))) = 0 then 0 else 1)]) (fun hJ => ?_) ?_
  · refine lv_if_eq (tgt := 15) hx hb dX2_hangs_8 (by decide) (fun c1 => ?_) (fun c1 => ?_)
    · refine lv_iconst (v := 0) hx hb dX2_hangs_15 (by decide) ?_
      rw [if_pos c1] at hJ
      exact hJ
    · refine lv_iconst (v := 1) hx hb dX2_hangs_11 (by decide) ?_
      refine lv_goto (tgt := 16) hx hb dX2_hangs_12 (by decide) ?_
      rw [if_neg c1] at hJ
      exact hJ
  exact tb_zret h F (tb_bln (by (repeat' split) <;> decide)) hP hS dX2_hangs_16
def fX2_rests (p : Nat) (a1 : Int32) (M : tb_Mem) : Option (Int32 × tb_Mem) :=
  tb_b2 (fX2_has p a1 M) (fun r3 M1 => if r3 = 0 then (some (0, M1)) else (some ((if (((M1 p 9) ||| (M1 p 10)) &&& (1 <<< (a1 &&& 31))) = 0 then 1 else 0), M1)))
abbrev rmX2_rests : Room := { frames := 1, cells := 0, slots := 0, locals := 21 }
set_option maxHeartbeats 4000000 in
set_option maxRecDepth 100000 in
theorem tX2_rests (g : tb_GT) (l : Launch) (p : Nat) (hB : tb_B p) (a1 : Int32) (M M' : tb_Mem) (r : Int32) (h : fX2_rests p a1 M = some (r, M')) : tb_C g l yX2_rests (Cond.code yX2_rests cX2_rests 2 (some .boolean)) rmX2_rests [.ref (tb_ad g p), .int a1] M M' (some (.int r)) := by
  refine tb_entry (by decide) (Nat.le_of_ble_eq_true rfl) ?_
  intro P e s m below meth c F hP hS ls hl
  have F : tb_F g cX2_rests 2 RX2 (some .boolean) (Cond.code yX2_rests cX2_rests 2 (some .boolean)) P s m ([.ref (tb_ad g p), .int a1] : List Value).toArray meth c := F
  have hx := F.1.1
  have hb := F.1.2.1
  have hl : lv_has ls 2 [(0, .ref (tb_ad g p)), (1, .int a1)] := hl
  unfold fX2_rests at h
  refine lv_aload_n hx hb dX2_rests_0 rfl (lv_at hl 0 rfl) ?_
  refine lv_iload_n hx hb dX2_rests_1 rfl (lv_at hl 1 rfl) ?_
  obtain ⟨r3, M1, e2, h⟩ := tb_b2s h
  refine tb_callV F hP hS hl.1 kX2_has km_X2_65 (as := [.int a1]) (tX2_has g l p hB a1 M M1 r3 e2) hB.1 ⟨rfl, rfl, Nat.le_of_ble_eq_true rfl, Nat.le_of_ble_eq_true rfl⟩ rfl (rest := []) rfl (st1 := [.int r3]) rfl (Nat.le_of_ble_eq_true rfl) ⟨Nat.zero_le _, Nat.zero_le _⟩ dX2_rests_2 (fun H locs hP hS => ?_)
  refine lv_if_eq (tgt := 28) hx hb dX2_rests_5 (by decide) (fun c4 => ?_) (fun c4 => ?_)
  · have h := tb_ip c4 h
    refine lv_iconst (v := 0) hx hb dX2_rests_28 (by decide) ?_
    exact tb_zret h F rfl hP hS dX2_rests_29
  · have h := tb_ineg c4 h
    refine lv_aload_n hx hb dX2_rests_8 rfl (lv_at hl 0 rfl) ?_
    refine tb_geti F hP hB.1 (ci := 2) rfl inlX2 9 (by decide) rfl kf_X2_40 dX2_rests_9 ?_
    refine lv_aload_n hx hb dX2_rests_12 rfl (lv_at hl 0 rfl) ?_
    refine tb_geti F hP hB.1 (ci := 2) rfl inlX2 10 (by decide) rfl kf_X2_43 dX2_rests_13 ?_
    refine lv_ior hx hb dX2_rests_16 ?_
    refine lv_iconst (v := 1) hx hb dX2_rests_17 (by decide) ?_
    refine lv_iload_n hx hb dX2_rests_18 rfl (lv_at hl 1 rfl) ?_
    refine lv_ishl hx hb dX2_rests_19 ?_
    refine lv_iand hx hb dX2_rests_20 ?_
    refine tb_mrg (g2 := F0 m 29 ls [.int (if (((M1 p 9) ||| (M1 p 10)) &&& (1 <<< (a1 &&& 31))) = 0 then 1 else 0)]) (fun hJ => ?_) ?_
    · refine lv_if_ne (tgt := 28) hx hb dX2_rests_21 (by decide) (fun c5 => ?_) (fun c5 => ?_)
      · refine lv_iconst (v := 0) hx hb dX2_rests_28 (by decide) ?_
        rw [if_neg c5] at hJ
        exact hJ
      · refine lv_iconst (v := 1) hx hb dX2_rests_24 (by decide) ?_
        refine lv_goto (tgt := 29) hx hb dX2_rests_25 (by decide) ?_
        rw [if_pos c5] at hJ
        exact hJ
    exact tb_zret h F (tb_bln (by (repeat' split) <;> decide)) hP hS dX2_rests_29
def fX2_startAt (p : Nat) (a1 : Int32) (a2 : Int32) (M : tb_Mem) : Option (tb_Mem) :=
  tb_let (tb_up M p 10 ((M p 10) &&& ((1 <<< (a1 &&& 31)) ^^^ (-1)))) (fun M1 => tb_let (tb_up M1 p 9 ((M1 p 9) ||| (1 <<< (a1 &&& 31)))) (fun M3 => tb_ck (tb_in a1 8) (tb_let (tb_up M3 (p + 6) a1.toNatClampNeg a2) (fun M6 => tb_let (tb_up M6 (p + 7) a1.toNatClampNeg 0) (fun M8 => some M8)))))
abbrev rmX2_startAt : Room := { frames := 0, cells := 0, slots := 0, locals := 0 }
set_option maxHeartbeats 4000000 in
set_option maxRecDepth 100000 in
theorem tX2_startAt (g : tb_GT) (l : Launch) (p : Nat) (hB : tb_B p) (a1 : Int32) (a2 : Int32) (M M' : tb_Mem) (h : fX2_startAt p a1 a2 M = some M') : tb_C g l yX2_startAt (Cond.code yX2_startAt cX2_startAt 3 none) rmX2_startAt [.ref (tb_ad g p), .int a1, .int a2] M M' none := by
  refine tb_entry (by decide) (Nat.le_of_ble_eq_true rfl) ?_
  intro P e s m below meth c F hP hS ls hl
  have F : tb_F g cX2_startAt 3 RX2 none (Cond.code yX2_startAt cX2_startAt 3 none) P s m ([.ref (tb_ad g p), .int a1, .int a2] : List Value).toArray meth c := F
  have hx := F.1.1
  have hb := F.1.2.1
  have hl : lv_has ls 3 [(0, .ref (tb_ad g p)), (1, .int a1), (2, .int a2)] := hl
  unfold fX2_startAt at h
  refine lv_aload_n hx hb dX2_startAt_0 rfl (lv_at hl 0 rfl) ?_
  refine lv_dup hx hb dX2_startAt_1 rfl ?_
  refine tb_geti F hP hB.1 (ci := 2) rfl inlX2 10 (by decide) rfl kf_X2_43 dX2_startAt_2 ?_
  refine lv_iconst (v := 1) hx hb dX2_startAt_5 (by decide) ?_
  refine lv_iload_n hx hb dX2_startAt_6 rfl (lv_at hl 1 rfl) ?_
  refine lv_ishl hx hb dX2_startAt_7 ?_
  refine lv_iconst (v := (-1)) hx hb dX2_startAt_8 (by decide) ?_
  refine lv_ixor hx hb dX2_startAt_9 ?_
  refine lv_iand hx hb dX2_startAt_10 ?_
  obtain ⟨M1, e2, h⟩ := tb_lets h
  refine tb_puti F hP hS hB.1 (ci := 2) rfl inlX2 tyX2 tyX2_ok nmX2 10 (by decide) rfl rfl rfl rfl kf_X2_43 dX2_startAt_11 (fun H locs hP hS => ?_)
  rw [← e2] at hP
  refine lv_aload_n hx hb dX2_startAt_14 rfl (lv_at hl 0 rfl) ?_
  refine lv_dup hx hb dX2_startAt_15 rfl ?_
  refine tb_geti F hP hB.1 (ci := 2) rfl inlX2 9 (by decide) rfl kf_X2_40 dX2_startAt_16 ?_
  refine lv_iconst (v := 1) hx hb dX2_startAt_19 (by decide) ?_
  refine lv_iload_n hx hb dX2_startAt_20 rfl (lv_at hl 1 rfl) ?_
  refine lv_ishl hx hb dX2_startAt_21 ?_
  refine lv_ior hx hb dX2_startAt_22 ?_
  obtain ⟨M3, e4, h⟩ := tb_lets h
  refine tb_puti F hP hS hB.1 (ci := 2) rfl inlX2 tyX2 tyX2_ok nmX2 9 (by decide) rfl rfl rfl rfl kf_X2_40 dX2_startAt_23 (fun H locs hP hS => ?_)
  rw [← e4] at hP
  refine lv_aload_n hx hb dX2_startAt_26 rfl (lv_at hl 0 rfl) ?_
  refine tb_getr F hP hB.1 (ci := 2) rfl inlX2 5 (by decide) rfl kf_X2_27 dX2_startAt_27 ?_
  refine lv_iload_n hx hb dX2_startAt_30 rfl (lv_at hl 1 rfl) ?_
  refine lv_iload_n hx hb dX2_startAt_31 rfl (lv_at hl 2 rfl) ?_
  obtain ⟨k5, h⟩ := tb_cks h
  obtain ⟨M6, e7, h⟩ := tb_lets h
  refine tb_iast F hP hS hB.2.2.2.2.2.2.1 rfl (tb_inv k5) dX2_startAt_32 (fun H locs hP hS => ?_)
  rw [← e7] at hP
  refine lv_aload_n hx hb dX2_startAt_33 rfl (lv_at hl 0 rfl) ?_
  refine tb_getr F hP hB.1 (ci := 2) rfl inlX2 6 (by decide) rfl kf_X2_30 dX2_startAt_34 ?_
  refine lv_iload_n hx hb dX2_startAt_37 rfl (lv_at hl 1 rfl) ?_
  refine lv_iconst (v := 0) hx hb dX2_startAt_38 (by decide) ?_
  obtain ⟨M8, e9, h⟩ := tb_lets h
  refine tb_iast F hP hS hB.2.2.2.2.2.2.2.1 rfl (tb_inv k5) dX2_startAt_39 (fun H locs hP hS => ?_)
  rw [← e9] at hP
  exact tb_vret h F hP hS dX2_startAt_40
def fX2_press (p : Nat) (a1 : Int32) (M : tb_Mem) : Option (tb_Mem) :=
  tb_b1 (fX2_startAt p a1 0 M) (fun M1 => some M1)
abbrev rmX2_press : Room := { frames := 1, cells := 0, slots := 0, locals := 22 }
set_option maxHeartbeats 4000000 in
set_option maxRecDepth 100000 in
theorem tX2_press (g : tb_GT) (l : Launch) (p : Nat) (hB : tb_B p) (a1 : Int32) (M M' : tb_Mem) (h : fX2_press p a1 M = some M') : tb_C g l yX2_press (Cond.code yX2_press cX2_press 2 none) rmX2_press [.ref (tb_ad g p), .int a1] M M' none := by
  refine tb_entry (by decide) (Nat.le_of_ble_eq_true rfl) ?_
  intro P e s m below meth c F hP hS ls hl
  have F : tb_F g cX2_press 2 RX2 none (Cond.code yX2_press cX2_press 2 none) P s m ([.ref (tb_ad g p), .int a1] : List Value).toArray meth c := F
  have hx := F.1.1
  have hb := F.1.2.1
  have hl : lv_has ls 2 [(0, .ref (tb_ad g p)), (1, .int a1)] := hl
  unfold fX2_press at h
  refine lv_aload_n hx hb dX2_press_0 rfl (lv_at hl 0 rfl) ?_
  refine lv_iload_n hx hb dX2_press_1 rfl (lv_at hl 1 rfl) ?_
  refine lv_iconst (v := 0) hx hb dX2_press_2 (by decide) ?_
  obtain ⟨M1, e2, h⟩ := tb_b1s h
  refine tb_callV F hP hS hl.1 kX2_startAt km_X2_69 (as := [.int a1, .int 0]) (tX2_startAt g l p hB a1 0 M M1 e2) hB.1 ⟨rfl, rfl, Nat.le_of_ble_eq_true rfl, Nat.le_of_ble_eq_true rfl⟩ rfl (rest := []) rfl (st1 := []) rfl (Nat.le_of_ble_eq_true rfl) ⟨Nat.zero_le _, Nat.zero_le _⟩ dX2_press_3 (fun H locs hP hS => ?_)
  exact tb_vret h F hP hS dX2_press_6
def fX2_layDown_L2 (p : Nat) : Nat → Int32 → Int32 → tb_Mem → Option (tb_Mem)
  | 0, _, _, _ => none
  | n + 1, x1, x2, M => if (M p 8) ≤ x2 then (tb_let (tb_up M p 9 ((M p 9) &&& (x1 ^^^ (-1)))) (fun M2 => tb_let (tb_up M2 p 10 ((M2 p 10) &&& (x1 ^^^ (-1)))) (fun M4 => some M4))) else (if (x1 &&& (1 <<< (x2 &&& 31))) = 0 then (fX2_layDown_L2 p n x1 (x2 + 1) M) else (tb_ck (tb_in x2 8) (tb_let (tb_up M (p + 7) x2.toNatClampNeg 0) (fun M8 => fX2_layDown_L2 p n x1 (x2 + 1) M8))))
def fX2_layDown (p : Nat) (a1 : Int32) (M : tb_Mem) : Option (tb_Mem) :=
  fX2_layDown_L2 p tb_N a1 0 M
abbrev rmX2_layDown : Room := { frames := 0, cells := 0, slots := 0, locals := 0 }
set_option maxHeartbeats 4000000 in
set_option maxRecDepth 100000 in
theorem tX2_layDown_L2 {g : tb_GT} {l : Launch} {P : Program} {e : Env} {s : State} {m : MethodId} {below : List Frame} {meth : Method} {c : Code} (p : Nat) (hB : tb_B p) {a1 : Int32} {M' : tb_Mem} (F : tb_F g cX2_layDown 3 RX2 none (Cond.code yX2_layDown cX2_layDown 3 none) P s m ([.ref (tb_ad g p), .int a1] : List Value).toArray meth c) :
    ∀ (n : Nat) (x1 : Int32) (x2 : Int32) (M : tb_Mem) (H : Heap) (locs : List Loc) (ls : Array Slot), tb_P g M H → va_S (tb_A g) s.heap H locs → lv_has ls 3 [(0, .ref (tb_ad g p)), (1, .int x1), (2, .int x2)] → fX2_layDown_L2 p n x1 x2 M = some M' → W P l e rmX2_layDown s m ([.ref (tb_ad g p), .int a1] : List Value).toArray below meth c H locs 0 0 (MQ below (tb_Q g M' none) ([.ref (tb_ad g p), .int a1] : List Value).toArray s 0 0 (tb_A g)) (F0 m 2 ls []) := by
  have hx := F.1.1
  have hb := F.1.2.1
  intro n
  induction n with
  | zero =>
    intro x1 x2 M H locs ls hP hS hl h
    rw [fX2_layDown_L2] at h
    exact tb_none h
  | succ n ih =>
    intro x1 x2 M H locs ls hP hS hl h
    rw [fX2_layDown_L2] at h
    refine lv_iload_n hx hb dX2_layDown_2 rfl (lv_at hl 2 rfl) ?_
    refine lv_aload_n hx hb dX2_layDown_3 rfl (lv_at hl 0 rfl) ?_
    refine tb_geti F hP hB.1 (ci := 2) rfl inlX2 8 (by decide) rfl kf_X2_36 dX2_layDown_4 ?_
    refine lv_icmp_ge (tgt := 31) hx hb dX2_layDown_7 (by decide) (fun c1 => ?_) (fun c1 => ?_)
    · have h := tb_ip c1 h
      refine lv_aload_n hx hb dX2_layDown_31 rfl (lv_at hl 0 rfl) ?_
      refine lv_dup hx hb dX2_layDown_32 rfl ?_
      refine tb_geti F hP hB.1 (ci := 2) rfl inlX2 9 (by decide) rfl kf_X2_40 dX2_layDown_33 ?_
      refine lv_iload_n hx hb dX2_layDown_36 rfl (lv_at hl 1 rfl) ?_
      refine lv_iconst (v := (-1)) hx hb dX2_layDown_37 (by decide) ?_
      refine lv_ixor hx hb dX2_layDown_38 ?_
      refine lv_iand hx hb dX2_layDown_39 ?_
      obtain ⟨M2, e3, h⟩ := tb_lets h
      refine tb_puti F hP hS hB.1 (ci := 2) rfl inlX2 tyX2 tyX2_ok nmX2 9 (by decide) rfl rfl rfl rfl kf_X2_40 dX2_layDown_40 (fun H locs hP hS => ?_)
      rw [← e3] at hP
      refine lv_aload_n hx hb dX2_layDown_43 rfl (lv_at hl 0 rfl) ?_
      refine lv_dup hx hb dX2_layDown_44 rfl ?_
      refine tb_geti F hP hB.1 (ci := 2) rfl inlX2 10 (by decide) rfl kf_X2_43 dX2_layDown_45 ?_
      refine lv_iload_n hx hb dX2_layDown_48 rfl (lv_at hl 1 rfl) ?_
      refine lv_iconst (v := (-1)) hx hb dX2_layDown_49 (by decide) ?_
      refine lv_ixor hx hb dX2_layDown_50 ?_
      refine lv_iand hx hb dX2_layDown_51 ?_
      obtain ⟨M4, e5, h⟩ := tb_lets h
      refine tb_puti F hP hS hB.1 (ci := 2) rfl inlX2 tyX2 tyX2_ok nmX2 10 (by decide) rfl rfl rfl rfl kf_X2_43 dX2_layDown_52 (fun H locs hP hS => ?_)
      rw [← e5] at hP
      exact tb_vret h F hP hS dX2_layDown_55
    · have h := tb_ineg c1 h
      refine lv_iload_n hx hb dX2_layDown_10 rfl (lv_at hl 1 rfl) ?_
      refine lv_iconst (v := 1) hx hb dX2_layDown_11 (by decide) ?_
      refine lv_iload_n hx hb dX2_layDown_12 rfl (lv_at hl 2 rfl) ?_
      refine lv_ishl hx hb dX2_layDown_13 ?_
      refine lv_iand hx hb dX2_layDown_14 ?_
      refine lv_if_eq (tgt := 25) hx hb dX2_layDown_15 (by decide) (fun c6 => ?_) (fun c6 => ?_)
      · have h := tb_ip c6 h
        refine lv_iinc (v := (x2 + 1)) (lv' := [(2, .int (x2 + 1)), (0, .ref (tb_ad g p)), (1, .int x1)]) hx hb dX2_layDown_25 hl (k := 2) rfl rfl (by decide) rfl (fun ls hl => ?_)
        refine lv_goto (tgt := 2) hx hb dX2_layDown_28 (by decide) ?_
        exact ih x1 (x2 + 1) M _ _ _ hP hS (lv_sub hl [1, 2, 0] rfl) h
      · have h := tb_ineg c6 h
        refine lv_aload_n hx hb dX2_layDown_18 rfl (lv_at hl 0 rfl) ?_
        refine tb_getr F hP hB.1 (ci := 2) rfl inlX2 6 (by decide) rfl kf_X2_30 dX2_layDown_19 ?_
        refine lv_iload_n hx hb dX2_layDown_22 rfl (lv_at hl 2 rfl) ?_
        refine lv_iconst (v := 0) hx hb dX2_layDown_23 (by decide) ?_
        obtain ⟨k7, h⟩ := tb_cks h
        obtain ⟨M8, e9, h⟩ := tb_lets h
        refine tb_iast F hP hS hB.2.2.2.2.2.2.2.1 rfl (tb_inv k7) dX2_layDown_24 (fun H locs hP hS => ?_)
        rw [← e9] at hP
        refine lv_iinc (v := (x2 + 1)) (lv' := [(2, .int (x2 + 1)), (0, .ref (tb_ad g p)), (1, .int x1)]) hx hb dX2_layDown_25 hl (k := 2) rfl rfl (by decide) rfl (fun ls hl => ?_)
        refine lv_goto (tgt := 2) hx hb dX2_layDown_28 (by decide) ?_
        exact ih x1 (x2 + 1) M8 _ _ _ hP hS (lv_sub hl [1, 2, 0] rfl) h
set_option maxHeartbeats 4000000 in
set_option maxRecDepth 100000 in
theorem tX2_layDown (g : tb_GT) (l : Launch) (p : Nat) (hB : tb_B p) (a1 : Int32) (M M' : tb_Mem) (h : fX2_layDown p a1 M = some M') : tb_C g l yX2_layDown (Cond.code yX2_layDown cX2_layDown 3 none) rmX2_layDown [.ref (tb_ad g p), .int a1] M M' none := by
  refine tb_entry (by decide) (Nat.le_of_ble_eq_true rfl) ?_
  intro P e s m below meth c F hP hS ls hl
  have F : tb_F g cX2_layDown 3 RX2 none (Cond.code yX2_layDown cX2_layDown 3 none) P s m ([.ref (tb_ad g p), .int a1] : List Value).toArray meth c := F
  have hx := F.1.1
  have hb := F.1.2.1
  have hl : lv_has ls 3 [(0, .ref (tb_ad g p)), (1, .int a1)] := hl
  unfold fX2_layDown at h
  refine lv_iconst (v := 0) hx hb dX2_layDown_0 (by decide) ?_
  refine lv_istore_n (lv' := [(2, .int 0), (0, .ref (tb_ad g p)), (1, .int a1)]) hx hb dX2_layDown_1 rfl hl (by decide) rfl (fun ls hl => ?_)
  exact tX2_layDown_L2 p hB F tb_N a1 0 M _ _ _ hP hS (lv_sub hl [1, 2, 0] rfl) h
def fX2_exchange (p : Nat) (a1 : Int32) (a2 : Int32) (M : tb_Mem) : Option (tb_Mem) :=
  tb_ck (tb_in a1 8) (tb_let ((M (p + 4) a1.toNatClampNeg) : Int32) (fun x2 => tb_ck (tb_in a2 8) (tb_let (tb_up M (p + 4) a1.toNatClampNeg (M (p + 4) a2.toNatClampNeg)) (fun M5 => tb_let (tb_up M5 (p + 4) a2.toNatClampNeg x2) (fun M7 => tb_ck (tb_in (M7 (p + 4) a1.toNatClampNeg) 8) (tb_let (tb_up M7 (p + 5) ((M7 (p + 4) a1.toNatClampNeg).toNatClampNeg) a1) (fun M10 => tb_ck (tb_in (M10 (p + 4) a2.toNatClampNeg) 8) (tb_let (tb_up M10 (p + 5) ((M10 (p + 4) a2.toNatClampNeg).toNatClampNeg) a2) (fun M13 => some M13)))))))))
abbrev rmX2_exchange : Room := { frames := 0, cells := 0, slots := 0, locals := 0 }
set_option maxHeartbeats 4000000 in
set_option maxRecDepth 100000 in
theorem tX2_exchange (g : tb_GT) (l : Launch) (p : Nat) (hB : tb_B p) (a1 : Int32) (a2 : Int32) (M M' : tb_Mem) (h : fX2_exchange p a1 a2 M = some M') : tb_C g l yX2_exchange (Cond.code yX2_exchange cX2_exchange 4 none) rmX2_exchange [.ref (tb_ad g p), .int a1, .int a2] M M' none := by
  refine tb_entry (by decide) (Nat.le_of_ble_eq_true rfl) ?_
  intro P e s m below meth c F hP hS ls hl
  have F : tb_F g cX2_exchange 4 RX2 none (Cond.code yX2_exchange cX2_exchange 4 none) P s m ([.ref (tb_ad g p), .int a1, .int a2] : List Value).toArray meth c := F
  have hx := F.1.1
  have hb := F.1.2.1
  have hl : lv_has ls 4 [(0, .ref (tb_ad g p)), (1, .int a1), (2, .int a2)] := hl
  unfold fX2_exchange at h
  refine lv_aload_n hx hb dX2_exchange_0 rfl (lv_at hl 0 rfl) ?_
  refine tb_getr F hP hB.1 (ci := 2) rfl inlX2 3 (by decide) rfl kf_X2_21 dX2_exchange_1 ?_
  refine lv_iload_n hx hb dX2_exchange_4 rfl (lv_at hl 1 rfl) ?_
  obtain ⟨k1, h⟩ := tb_cks h
  refine tb_iald F hP hB.2.2.2.2.1 rfl (tb_inv k1) dX2_exchange_5 ?_
  obtain ⟨x2, e3, h⟩ := tb_lets h
  refine tb_nmi e3 ?_
  refine lv_istore_n (lv' := [(3, .int x2), (0, .ref (tb_ad g p)), (1, .int a1), (2, .int a2)]) hx hb dX2_exchange_6 rfl hl (by decide) rfl (fun ls hl => ?_)
  refine lv_aload_n hx hb dX2_exchange_7 rfl (lv_at hl 1 rfl) ?_
  refine tb_getr F hP hB.1 (ci := 2) rfl inlX2 3 (by decide) rfl kf_X2_21 dX2_exchange_8 ?_
  refine lv_iload_n hx hb dX2_exchange_11 rfl (lv_at hl 2 rfl) ?_
  refine lv_aload_n hx hb dX2_exchange_12 rfl (lv_at hl 1 rfl) ?_
  refine tb_getr F hP hB.1 (ci := 2) rfl inlX2 3 (by decide) rfl kf_X2_21 dX2_exchange_13 ?_
  refine lv_iload_n hx hb dX2_exchange_16 rfl (lv_at hl 3 rfl) ?_
  obtain ⟨k4, h⟩ := tb_cks h
  refine tb_iald F hP hB.2.2.2.2.1 rfl (tb_inv k4) dX2_exchange_17 ?_
  obtain ⟨M5, e6, h⟩ := tb_lets h
  refine tb_iast F hP hS hB.2.2.2.2.1 rfl (tb_inv k1) dX2_exchange_18 (fun H locs hP hS => ?_)
  rw [← e6] at hP
  refine lv_aload_n hx hb dX2_exchange_19 rfl (lv_at hl 1 rfl) ?_
  refine tb_getr F hP hB.1 (ci := 2) rfl inlX2 3 (by decide) rfl kf_X2_21 dX2_exchange_20 ?_
  refine lv_iload_n hx hb dX2_exchange_23 rfl (lv_at hl 3 rfl) ?_
  refine lv_iload_n hx hb dX2_exchange_24 rfl (lv_at hl 0 rfl) ?_
  obtain ⟨M7, e8, h⟩ := tb_lets h
  refine tb_iast F hP hS hB.2.2.2.2.1 rfl (tb_inv k4) dX2_exchange_25 (fun H locs hP hS => ?_)
  rw [← e8] at hP
  refine lv_aload_n hx hb dX2_exchange_26 rfl (lv_at hl 1 rfl) ?_
  refine tb_getr F hP hB.1 (ci := 2) rfl inlX2 4 (by decide) rfl kf_X2_24 dX2_exchange_27 ?_
  refine lv_aload_n hx hb dX2_exchange_30 rfl (lv_at hl 1 rfl) ?_
  refine tb_getr F hP hB.1 (ci := 2) rfl inlX2 3 (by decide) rfl kf_X2_21 dX2_exchange_31 ?_
  refine lv_iload_n hx hb dX2_exchange_34 rfl (lv_at hl 2 rfl) ?_
  refine tb_iald F hP hB.2.2.2.2.1 rfl (tb_inv k1) dX2_exchange_35 ?_
  refine lv_iload_n hx hb dX2_exchange_36 rfl (lv_at hl 2 rfl) ?_
  obtain ⟨k9, h⟩ := tb_cks h
  obtain ⟨M10, e11, h⟩ := tb_lets h
  refine tb_iast F hP hS hB.2.2.2.2.2.1 rfl (tb_inv k9) dX2_exchange_37 (fun H locs hP hS => ?_)
  rw [← e11] at hP
  refine lv_aload_n hx hb dX2_exchange_38 rfl (lv_at hl 1 rfl) ?_
  refine tb_getr F hP hB.1 (ci := 2) rfl inlX2 4 (by decide) rfl kf_X2_24 dX2_exchange_39 ?_
  refine lv_aload_n hx hb dX2_exchange_42 rfl (lv_at hl 1 rfl) ?_
  refine tb_getr F hP hB.1 (ci := 2) rfl inlX2 3 (by decide) rfl kf_X2_21 dX2_exchange_43 ?_
  refine lv_iload_n hx hb dX2_exchange_46 rfl (lv_at hl 3 rfl) ?_
  refine tb_iald F hP hB.2.2.2.2.1 rfl (tb_inv k4) dX2_exchange_47 ?_
  refine lv_iload_n hx hb dX2_exchange_48 rfl (lv_at hl 3 rfl) ?_
  obtain ⟨k12, h⟩ := tb_cks h
  obtain ⟨M13, e14, h⟩ := tb_lets h
  refine tb_iast F hP hS hB.2.2.2.2.2.1 rfl (tb_inv k12) dX2_exchange_49 (fun H locs hP hS => ?_)
  rw [← e14] at hP
  exact tb_vret h F hP hS dX2_exchange_50
def fX2_heightByTime (p : Nat) (a1 : Int32) (M : tb_Mem) : Option (Int32 × tb_Mem) :=
  tb_ck (tb_in a1 8) (tb_let (((M (p + 6) a1.toNatClampNeg) - (M (p + 3) a1.toNatClampNeg)) : Int32) (fun x2 => if 0 < x2 then (if (M (p + 1) a1.toNatClampNeg) = 3 then (some (((M (p + 3) a1.toNatClampNeg) - (2 * x2)), M)) else (some (((M (p + 3) a1.toNatClampNeg) - x2), M))) else (some ((M (p + 6) a1.toNatClampNeg), M))))
abbrev rmX2_heightByTime : Room := { frames := 0, cells := 0, slots := 0, locals := 0 }
set_option maxHeartbeats 4000000 in
set_option maxRecDepth 100000 in
theorem tX2_heightByTime (g : tb_GT) (l : Launch) (p : Nat) (hB : tb_B p) (a1 : Int32) (M M' : tb_Mem) (r : Int32) (h : fX2_heightByTime p a1 M = some (r, M')) : tb_C g l yX2_heightByTime (Cond.code yX2_heightByTime cX2_heightByTime 3 (some .int)) rmX2_heightByTime [.ref (tb_ad g p), .int a1] M M' (some (.int r)) := by
  refine tb_entry (by decide) (Nat.le_of_ble_eq_true rfl) ?_
  intro P e s m below meth c F hP hS ls hl
  have F : tb_F g cX2_heightByTime 3 RX2 (some .int) (Cond.code yX2_heightByTime cX2_heightByTime 3 (some .int)) P s m ([.ref (tb_ad g p), .int a1] : List Value).toArray meth c := F
  have hx := F.1.1
  have hb := F.1.2.1
  have hl : lv_has ls 3 [(0, .ref (tb_ad g p)), (1, .int a1)] := hl
  unfold fX2_heightByTime at h
  refine lv_aload_n hx hb dX2_heightByTime_0 rfl (lv_at hl 0 rfl) ?_
  refine tb_getr F hP hB.1 (ci := 2) rfl inlX2 5 (by decide) rfl kf_X2_27 dX2_heightByTime_1 ?_
  refine lv_iload_n hx hb dX2_heightByTime_4 rfl (lv_at hl 1 rfl) ?_
  obtain ⟨k1, h⟩ := tb_cks h
  refine tb_iald F hP hB.2.2.2.2.2.2.1 rfl (tb_inv k1) dX2_heightByTime_5 ?_
  refine lv_aload_n hx hb dX2_heightByTime_6 rfl (lv_at hl 0 rfl) ?_
  refine tb_getr F hP hB.1 (ci := 2) rfl inlX2 2 (by decide) rfl kf_X2_18 dX2_heightByTime_7 ?_
  refine lv_iload_n hx hb dX2_heightByTime_10 rfl (lv_at hl 1 rfl) ?_
  refine tb_iald F hP hB.2.2.2.1 rfl (tb_inv k1) dX2_heightByTime_11 ?_
  refine lv_isub hx hb dX2_heightByTime_12 ?_
  obtain ⟨x2, e3, h⟩ := tb_lets h
  refine tb_nmi e3 ?_
  refine lv_istore_n (lv' := [(2, .int x2), (0, .ref (tb_ad g p)), (1, .int a1)]) hx hb dX2_heightByTime_13 rfl hl (by decide) rfl (fun ls hl => ?_)
  refine lv_iload_n hx hb dX2_heightByTime_14 rfl (lv_at hl 0 rfl) ?_
  refine lv_if_gt (tgt := 25) hx hb dX2_heightByTime_15 (by decide) (fun c4 => ?_) (fun c4 => ?_)
  · have h := tb_ip c4 h
    refine lv_aload_n hx hb dX2_heightByTime_25 rfl (lv_at hl 1 rfl) ?_
    refine tb_getr F hP hB.1 (ci := 2) rfl inlX2 0 (by decide) rfl kf_X2_9 dX2_heightByTime_26 ?_
    refine lv_iload_n hx hb dX2_heightByTime_29 rfl (lv_at hl 2 rfl) ?_
    refine tb_iald F hP hB.2.1 rfl (tb_inv k1) dX2_heightByTime_30 ?_
    refine lv_iconst (v := 3) hx hb dX2_heightByTime_31 (by decide) ?_
    refine lv_icmp_ne (tgt := 48) hx hb dX2_heightByTime_32 (by decide) (fun c5 => ?_) (fun c5 => ?_)
    · have h := tb_ineg c5 h
      refine lv_aload_n hx hb dX2_heightByTime_48 rfl (lv_at hl 1 rfl) ?_
      refine tb_getr F hP hB.1 (ci := 2) rfl inlX2 2 (by decide) rfl kf_X2_18 dX2_heightByTime_49 ?_
      refine lv_iload_n hx hb dX2_heightByTime_52 rfl (lv_at hl 2 rfl) ?_
      refine tb_iald F hP hB.2.2.2.1 rfl (tb_inv k1) dX2_heightByTime_53 ?_
      refine lv_iload_n hx hb dX2_heightByTime_54 rfl (lv_at hl 0 rfl) ?_
      refine lv_isub hx hb dX2_heightByTime_55 ?_
      exact tb_iret h F hP hS dX2_heightByTime_56
    · have h := tb_ip c5 h
      refine lv_aload_n hx hb dX2_heightByTime_35 rfl (lv_at hl 1 rfl) ?_
      refine tb_getr F hP hB.1 (ci := 2) rfl inlX2 2 (by decide) rfl kf_X2_18 dX2_heightByTime_36 ?_
      refine lv_iload_n hx hb dX2_heightByTime_39 rfl (lv_at hl 2 rfl) ?_
      refine tb_iald F hP hB.2.2.2.1 rfl (tb_inv k1) dX2_heightByTime_40 ?_
      refine lv_iconst (v := 2) hx hb dX2_heightByTime_41 (by decide) ?_
      refine lv_iload_n hx hb dX2_heightByTime_42 rfl (lv_at hl 0 rfl) ?_
      refine lv_imul hx hb dX2_heightByTime_43 ?_
      refine lv_isub hx hb dX2_heightByTime_44 ?_
      refine lv_goto (tgt := 56) hx hb dX2_heightByTime_45 (by decide) ?_
      exact tb_iret h F hP hS dX2_heightByTime_56
  · have h := tb_ineg c4 h
    refine lv_aload_n hx hb dX2_heightByTime_18 rfl (lv_at hl 1 rfl) ?_
    refine tb_getr F hP hB.1 (ci := 2) rfl inlX2 5 (by decide) rfl kf_X2_27 dX2_heightByTime_19 ?_
    refine lv_iload_n hx hb dX2_heightByTime_22 rfl (lv_at hl 2 rfl) ?_
    refine tb_iald F hP hB.2.2.2.2.2.2.1 rfl (tb_inv k1) dX2_heightByTime_23 ?_
    exact tb_iret h F hP hS dX2_heightByTime_24
def fX2_riseAndFall_L2 (p : Nat) : Nat → Int32 → tb_Mem → Option (tb_Mem)
  | 0, _, _ => none
  | n + 1, x1, M => if (M p 8) ≤ x1 then (some M) else (tb_b2 (fX2_moves p x1 M) (fun r4 M2 => if r4 = 0 then (fX2_riseAndFall_L2 p n (x1 + 1) M2) else (tb_ck (tb_in x1 8) (tb_let (tb_up M2 (p + 6) x1.toNatClampNeg ((M2 (p + 6) x1.toNatClampNeg) + 1)) (fun M7 => tb_b2 (fX2_heightByTime p x1 M7) (fun r11 M9 => tb_let (tb_up M9 (p + 7) x1.toNatClampNeg (if 0 < r11 then r11 else 0)) (fun M12 => if (M12 (p + 7) x1.toNatClampNeg) = 0 then (tb_let (tb_up M12 p 9 ((M12 p 9) &&& ((1 <<< (x1 &&& 31)) ^^^ (-1)))) (fun M15 => fX2_riseAndFall_L2 p n (x1 + 1) M15)) else (fX2_riseAndFall_L2 p n (x1 + 1) M12))))))))
def fX2_riseAndFall (p : Nat) (M : tb_Mem) : Option (tb_Mem) :=
  fX2_riseAndFall_L2 p tb_N 0 M
abbrev rmX2_riseAndFall : Room := { frames := 1, cells := 0, slots := 0, locals := 64 }
set_option maxHeartbeats 4000000 in
set_option maxRecDepth 100000 in
theorem tX2_riseAndFall_L2 {g : tb_GT} {l : Launch} {P : Program} {e : Env} {s : State} {m : MethodId} {below : List Frame} {meth : Method} {c : Code} (p : Nat) (hB : tb_B p) {M' : tb_Mem} (F : tb_F g cX2_riseAndFall 2 RX2 none (Cond.code yX2_riseAndFall cX2_riseAndFall 2 none) P s m ([.ref (tb_ad g p)] : List Value).toArray meth c) :
    ∀ (n : Nat) (x1 : Int32) (M : tb_Mem) (H : Heap) (locs : List Loc) (ls : Array Slot), tb_P g M H → va_S (tb_A g) s.heap H locs → lv_has ls 2 [(0, .ref (tb_ad g p)), (1, .int x1)] → fX2_riseAndFall_L2 p n x1 M = some M' → W P l e rmX2_riseAndFall s m ([.ref (tb_ad g p)] : List Value).toArray below meth c H locs 0 0 (MQ below (tb_Q g M' none) ([.ref (tb_ad g p)] : List Value).toArray s 0 0 (tb_A g)) (F0 m 2 ls []) := by
  have hx := F.1.1
  have hb := F.1.2.1
  intro n
  induction n with
  | zero =>
    intro x1 M H locs ls hP hS hl h
    rw [fX2_riseAndFall_L2] at h
    exact tb_none h
  | succ n ih =>
    intro x1 M H locs ls hP hS hl h
    rw [fX2_riseAndFall_L2] at h
    refine lv_iload_n hx hb dX2_riseAndFall_2 rfl (lv_at hl 1 rfl) ?_
    refine lv_aload_n hx hb dX2_riseAndFall_3 rfl (lv_at hl 0 rfl) ?_
    refine tb_geti F hP hB.1 (ci := 2) rfl inlX2 8 (by decide) rfl kf_X2_36 dX2_riseAndFall_4 ?_
    refine lv_icmp_ge (tgt := 72) hx hb dX2_riseAndFall_7 (by decide) (fun c1 => ?_) (fun c1 => ?_)
    · have h := tb_ip c1 h
      exact tb_vret h F hP hS dX2_riseAndFall_72
    · have h := tb_ineg c1 h
      refine lv_aload_n hx hb dX2_riseAndFall_10 rfl (lv_at hl 0 rfl) ?_
      refine lv_iload_n hx hb dX2_riseAndFall_11 rfl (lv_at hl 1 rfl) ?_
      obtain ⟨r4, M2, e3, h⟩ := tb_b2s h
      refine tb_callV F hP hS hl.1 kX2_moves km_X2_92 (as := [.int x1]) (tX2_moves g l p hB x1 M M2 r4 e3) hB.1 ⟨rfl, rfl, Nat.le_of_ble_eq_true rfl, Nat.le_of_ble_eq_true rfl⟩ rfl (rest := []) rfl (st1 := [.int r4]) rfl (Nat.le_of_ble_eq_true rfl) ⟨Nat.zero_le _, Nat.zero_le _⟩ dX2_riseAndFall_12 (fun H locs hP hS => ?_)
      refine lv_if_eq (tgt := 66) hx hb dX2_riseAndFall_15 (by decide) (fun c5 => ?_) (fun c5 => ?_)
      · have h := tb_ip c5 h
        refine lv_iinc (v := (x1 + 1)) (lv' := [(1, .int (x1 + 1)), (0, .ref (tb_ad g p))]) hx hb dX2_riseAndFall_66 hl (k := 1) rfl rfl (by decide) rfl (fun ls hl => ?_)
        refine lv_goto (tgt := 2) hx hb dX2_riseAndFall_69 (by decide) ?_
        exact ih (x1 + 1) M2 _ _ _ hP hS (lv_sub hl [1, 0] rfl) h
      · have h := tb_ineg c5 h
        refine lv_aload_n hx hb dX2_riseAndFall_18 rfl (lv_at hl 0 rfl) ?_
        refine tb_getr F hP hB.1 (ci := 2) rfl inlX2 5 (by decide) rfl kf_X2_27 dX2_riseAndFall_19 ?_
        refine lv_iload_n hx hb dX2_riseAndFall_22 rfl (lv_at hl 1 rfl) ?_
        refine lv_dup2_11 hx hb dX2_riseAndFall_23 rfl rfl ?_
        obtain ⟨k6, h⟩ := tb_cks h
        refine tb_iald F hP hB.2.2.2.2.2.2.1 rfl (tb_inv k6) dX2_riseAndFall_24 ?_
        refine lv_iconst (v := 1) hx hb dX2_riseAndFall_25 (by decide) ?_
        refine lv_iadd hx hb dX2_riseAndFall_26 ?_
        obtain ⟨M7, e8, h⟩ := tb_lets h
        refine tb_iast F hP hS hB.2.2.2.2.2.2.1 rfl (tb_inv k6) dX2_riseAndFall_27 (fun H locs hP hS => ?_)
        rw [← e8] at hP
        refine lv_aload_n hx hb dX2_riseAndFall_28 rfl (lv_at hl 0 rfl) ?_
        refine tb_getr F hP hB.1 (ci := 2) rfl inlX2 6 (by decide) rfl kf_X2_30 dX2_riseAndFall_29 ?_
        refine lv_iload_n hx hb dX2_riseAndFall_32 rfl (lv_at hl 1 rfl) ?_
        refine lv_iconst (v := 0) hx hb dX2_riseAndFall_33 (by decide) ?_
        refine lv_aload_n hx hb dX2_riseAndFall_34 rfl (lv_at hl 0 rfl) ?_
        refine lv_iload_n hx hb dX2_riseAndFall_35 rfl (lv_at hl 1 rfl) ?_
        obtain ⟨r11, M9, e10, h⟩ := tb_b2s h
        refine tb_callV F hP hS hl.1 kX2_heightByTime km_X2_95 (as := [.int x1]) (tX2_heightByTime g l p hB x1 M7 M9 r11 e10) hB.1 ⟨rfl, rfl, Nat.le_of_ble_eq_true rfl, Nat.le_of_ble_eq_true rfl⟩ rfl (rest := [.int 0, .int x1, .ref (tb_ad g (p + 7))]) rfl (st1 := [.int r11, .int 0, .int x1, .ref (tb_ad g (p + 7))]) rfl (Nat.le_of_ble_eq_true rfl) ⟨Nat.zero_le _, Nat.zero_le _⟩ dX2_riseAndFall_36 (fun H locs hP hS => ?_)
        refine tb_mmax F hl.1 km_X2_99 (Nat.le_of_ble_eq_true rfl) (Nat.le_of_ble_eq_true rfl) ⟨Nat.zero_le _, Nat.zero_le _⟩ dX2_riseAndFall_39 ?_
        obtain ⟨M12, e13, h⟩ := tb_lets h
        refine tb_iast F hP hS hB.2.2.2.2.2.2.2.1 rfl (tb_inv k6) dX2_riseAndFall_42 (fun H locs hP hS => ?_)
        rw [← e13] at hP
        refine lv_aload_n hx hb dX2_riseAndFall_43 rfl (lv_at hl 0 rfl) ?_
        refine tb_getr F hP hB.1 (ci := 2) rfl inlX2 6 (by decide) rfl kf_X2_30 dX2_riseAndFall_44 ?_
        refine lv_iload_n hx hb dX2_riseAndFall_47 rfl (lv_at hl 1 rfl) ?_
        refine tb_iald F hP hB.2.2.2.2.2.2.2.1 rfl (tb_inv k6) dX2_riseAndFall_48 ?_
        refine lv_if_ne (tgt := 66) hx hb dX2_riseAndFall_49 (by decide) (fun c14 => ?_) (fun c14 => ?_)
        · have h := tb_ineg c14 h
          refine lv_iinc (v := (x1 + 1)) (lv' := [(1, .int (x1 + 1)), (0, .ref (tb_ad g p))]) hx hb dX2_riseAndFall_66 hl (k := 1) rfl rfl (by decide) rfl (fun ls hl => ?_)
          refine lv_goto (tgt := 2) hx hb dX2_riseAndFall_69 (by decide) ?_
          exact ih (x1 + 1) M12 _ _ _ hP hS (lv_sub hl [1, 0] rfl) h
        · have h := tb_ip c14 h
          refine lv_aload_n hx hb dX2_riseAndFall_52 rfl (lv_at hl 0 rfl) ?_
          refine lv_dup hx hb dX2_riseAndFall_53 rfl ?_
          refine tb_geti F hP hB.1 (ci := 2) rfl inlX2 9 (by decide) rfl kf_X2_40 dX2_riseAndFall_54 ?_
          refine lv_iconst (v := 1) hx hb dX2_riseAndFall_57 (by decide) ?_
          refine lv_iload_n hx hb dX2_riseAndFall_58 rfl (lv_at hl 1 rfl) ?_
          refine lv_ishl hx hb dX2_riseAndFall_59 ?_
          refine lv_iconst (v := (-1)) hx hb dX2_riseAndFall_60 (by decide) ?_
          refine lv_ixor hx hb dX2_riseAndFall_61 ?_
          refine lv_iand hx hb dX2_riseAndFall_62 ?_
          obtain ⟨M15, e16, h⟩ := tb_lets h
          refine tb_puti F hP hS hB.1 (ci := 2) rfl inlX2 tyX2 tyX2_ok nmX2 9 (by decide) rfl rfl rfl rfl kf_X2_40 dX2_riseAndFall_63 (fun H locs hP hS => ?_)
          rw [← e16] at hP
          refine lv_iinc (v := (x1 + 1)) (lv' := [(1, .int (x1 + 1)), (0, .ref (tb_ad g p))]) hx hb dX2_riseAndFall_66 hl (k := 1) rfl rfl (by decide) rfl (fun ls hl => ?_)
          refine lv_goto (tgt := 2) hx hb dX2_riseAndFall_69 (by decide) ?_
          exact ih (x1 + 1) M15 _ _ _ hP hS (lv_sub hl [1, 0] rfl) h
set_option maxHeartbeats 4000000 in
set_option maxRecDepth 100000 in
theorem tX2_riseAndFall (g : tb_GT) (l : Launch) (p : Nat) (hB : tb_B p) (M M' : tb_Mem) (h : fX2_riseAndFall p M = some M') : tb_C g l yX2_riseAndFall (Cond.code yX2_riseAndFall cX2_riseAndFall 2 none) rmX2_riseAndFall [.ref (tb_ad g p)] M M' none := by
  refine tb_entry (by decide) (Nat.le_of_ble_eq_true rfl) ?_
  intro P e s m below meth c F hP hS ls hl
  have F : tb_F g cX2_riseAndFall 2 RX2 none (Cond.code yX2_riseAndFall cX2_riseAndFall 2 none) P s m ([.ref (tb_ad g p)] : List Value).toArray meth c := F
  have hx := F.1.1
  have hb := F.1.2.1
  have hl : lv_has ls 2 [(0, .ref (tb_ad g p))] := hl
  unfold fX2_riseAndFall at h
  refine lv_iconst (v := 0) hx hb dX2_riseAndFall_0 (by decide) ?_
  refine lv_istore_n (lv' := [(1, .int 0), (0, .ref (tb_ad g p))]) hx hb dX2_riseAndFall_1 rfl hl (by decide) rfl (fun ls hl => ?_)
  exact tX2_riseAndFall_L2 p hB F tb_N 0 M _ _ _ hP hS (lv_sub hl [1, 0] rfl) h
def fX2_meeting_L75 (p : Nat) : Nat → Int32 → Int32 → tb_Mem → Option (Int32 × tb_Mem)
  | 0, _, _, _ => none
  | n + 1, x3, x4, M => if (M p 8) ≤ x4 then (some (x3, M)) else (tb_ck (tb_in (x4 - 1) 8) (tb_ck (tb_in x4 8) (tb_let (((1 <<< ((M (p + 5) (x4 - 1).toNatClampNeg) &&& 31)) ||| (1 <<< ((M (p + 5) x4.toNatClampNeg) &&& 31))) : Int32) (fun x22 => tb_ck (tb_in (M (p + 5) x4.toNatClampNeg) 8) (tb_let ((M (p + 7) (M (p + 5) x4.toNatClampNeg).toNatClampNeg) : Int32) (fun x25 => if x25 ≤ 0 then (fX2_meeting_L75 p n x3 (x4 + 1) M) else (tb_ck (tb_in (M (p + 5) (x4 - 1).toNatClampNeg) 8) (if x25 = (M (p + 7) (M (p + 5) (x4 - 1).toNatClampNeg).toNatClampNeg) then (if (x22 &&& (M p 9)) = 0 then (fX2_meeting_L75 p n x3 (x4 + 1) M) else (fX2_meeting_L75 p n (x3 ||| x22) (x4 + 1) M)) else (fX2_meeting_L75 p n x3 (x4 + 1) M)))))))))
def fX2_meeting_L4 (p : Nat) : Nat → Int32 → Int32 → tb_Mem → Option (Int32 × tb_Mem)
  | 0, _, _, _ => none
  | n + 1, x1, x2, M => if (M p 8) ≤ x2 then (if (x1 &&& (M p 9)) = 0 then (tb_let ((if (0 : Int32) = 0 then 0 else x1) : Int32) (fun x4 => fX2_meeting_L75 p tb_N x4 1 M)) else (tb_b2 (fJ6_bitCount_0f7a4 x1 M) (fun r8 M6 => tb_let ((if r8 ≤ 1 then 0 else 1) : Int32) (fun x10 => tb_let ((if x10 = 0 then 0 else x1) : Int32) (fun x13 => fX2_meeting_L75 p tb_N x13 1 M6))))) else (tb_ck (tb_in x2 8) (if (M (p + 7) x2.toNatClampNeg) = (M (p + 3) x2.toNatClampNeg) then (tb_let ((x1 ||| (1 <<< (x2 &&& 31))) : Int32) (fun x17 => fX2_meeting_L4 p n x17 (x2 + 1) M)) else (fX2_meeting_L4 p n x1 (x2 + 1) M)))
def fX2_meeting (p : Nat) (M : tb_Mem) : Option (Int32 × tb_Mem) :=
  fX2_meeting_L4 p tb_N 0 0 M
abbrev rmX2_meeting : Room := { frames := 1, cells := 0, slots := 0, locals := 20 }
set_option maxHeartbeats 4000000 in
set_option maxRecDepth 100000 in
theorem tX2_meeting_L75 {g : tb_GT} {l : Launch} {P : Program} {e : Env} {s : State} {m : MethodId} {below : List Frame} {meth : Method} {c : Code} (p : Nat) (hB : tb_B p) {M' : tb_Mem} {r : Int32} (F : tb_F g cX2_meeting 7 RX2 (some .int) (Cond.code yX2_meeting cX2_meeting 7 (some .int)) P s m ([.ref (tb_ad g p)] : List Value).toArray meth c) :
    ∀ (n : Nat) (x3 : Int32) (x4 : Int32) (M : tb_Mem) (H : Heap) (locs : List Loc) (ls : Array Slot), tb_P g M H → va_S (tb_A g) s.heap H locs → lv_has ls 7 [(0, .ref (tb_ad g p)), (3, .int x3), (4, .int x4)] → fX2_meeting_L75 p n x3 x4 M = some (r, M') → W P l e rmX2_meeting s m ([.ref (tb_ad g p)] : List Value).toArray below meth c H locs 0 0 (MQ below (tb_Q g M' (some (.int r))) ([.ref (tb_ad g p)] : List Value).toArray s 0 0 (tb_A g)) (F0 m 75 ls []) := by
  have hx := F.1.1
  have hb := F.1.2.1
  intro n
  induction n with
  | zero =>
    intro x3 x4 M H locs ls hP hS hl h
    rw [fX2_meeting_L75] at h
    exact tb_none h
  | succ n ih =>
    intro x3 x4 M H locs ls hP hS hl h
    rw [fX2_meeting_L75] at h
    refine lv_iload hx hb dX2_meeting_75 (lv_at hl 2 rfl) ?_
    refine lv_aload_n hx hb dX2_meeting_77 rfl (lv_at hl 0 rfl) ?_
    refine tb_geti F hP hB.1 (ci := 2) rfl inlX2 8 (by decide) rfl kf_X2_36 dX2_meeting_78 ?_
    refine lv_icmp_ge (tgt := 166) hx hb dX2_meeting_81 (by decide) (fun c19 => ?_) (fun c19 => ?_)
    · have h := tb_ip c19 h
      refine lv_iload_n hx hb dX2_meeting_166 rfl (lv_at hl 1 rfl) ?_
      exact tb_iret h F hP hS dX2_meeting_167
    · have h := tb_ineg c19 h
      refine lv_iconst (v := 1) hx hb dX2_meeting_84 (by decide) ?_
      refine lv_aload_n hx hb dX2_meeting_85 rfl (lv_at hl 0 rfl) ?_
      refine tb_getr F hP hB.1 (ci := 2) rfl inlX2 4 (by decide) rfl kf_X2_24 dX2_meeting_86 ?_
      refine lv_iload hx hb dX2_meeting_89 (lv_at hl 2 rfl) ?_
      refine lv_iconst (v := 1) hx hb dX2_meeting_91 (by decide) ?_
      refine lv_isub hx hb dX2_meeting_92 ?_
      obtain ⟨k20, h⟩ := tb_cks h
      refine tb_iald F hP hB.2.2.2.2.2.1 rfl (tb_inv k20) dX2_meeting_93 ?_
      refine lv_ishl hx hb dX2_meeting_94 ?_
      refine lv_iconst (v := 1) hx hb dX2_meeting_95 (by decide) ?_
      refine lv_aload_n hx hb dX2_meeting_96 rfl (lv_at hl 0 rfl) ?_
      refine tb_getr F hP hB.1 (ci := 2) rfl inlX2 4 (by decide) rfl kf_X2_24 dX2_meeting_97 ?_
      refine lv_iload hx hb dX2_meeting_100 (lv_at hl 2 rfl) ?_
      obtain ⟨k21, h⟩ := tb_cks h
      refine tb_iald F hP hB.2.2.2.2.2.1 rfl (tb_inv k21) dX2_meeting_102 ?_
      refine lv_ishl hx hb dX2_meeting_103 ?_
      refine lv_ior hx hb dX2_meeting_104 ?_
      obtain ⟨x22, e23, h⟩ := tb_lets h
      refine tb_nmi e23 ?_
      refine lv_istore (lv' := [(5, .int x22), (0, .ref (tb_ad g p)), (3, .int x3), (4, .int x4)]) hx hb dX2_meeting_105 hl (by decide) rfl (fun ls hl => ?_)
      refine lv_aload_n hx hb dX2_meeting_107 rfl (lv_at hl 1 rfl) ?_
      refine tb_getr F hP hB.1 (ci := 2) rfl inlX2 6 (by decide) rfl kf_X2_30 dX2_meeting_108 ?_
      refine lv_aload_n hx hb dX2_meeting_111 rfl (lv_at hl 1 rfl) ?_
      refine tb_getr F hP hB.1 (ci := 2) rfl inlX2 4 (by decide) rfl kf_X2_24 dX2_meeting_112 ?_
      refine lv_iload hx hb dX2_meeting_115 (lv_at hl 3 rfl) ?_
      refine tb_iald F hP hB.2.2.2.2.2.1 rfl (tb_inv k21) dX2_meeting_117 ?_
      obtain ⟨k24, h⟩ := tb_cks h
      refine tb_iald F hP hB.2.2.2.2.2.2.2.1 rfl (tb_inv k24) dX2_meeting_118 ?_
      obtain ⟨x25, e26, h⟩ := tb_lets h
      refine tb_nmi e26 ?_
      refine lv_istore (lv' := [(6, .int x25), (5, .int x22), (0, .ref (tb_ad g p)), (3, .int x3), (4, .int x4)]) hx hb dX2_meeting_119 hl (by decide) rfl (fun ls hl => ?_)
      refine lv_iload hx hb dX2_meeting_121 (lv_at hl 0 rfl) ?_
      refine lv_if_le (tgt := 160) hx hb dX2_meeting_123 (by decide) (fun c27 => ?_) (fun c27 => ?_)
      · have h := tb_ip c27 h
        refine lv_iinc (v := (x4 + 1)) (lv' := [(4, .int (x4 + 1)), (6, .int x25), (5, .int x22), (0, .ref (tb_ad g p)), (3, .int x3)]) hx hb dX2_meeting_160 hl (k := 4) rfl rfl (by decide) rfl (fun ls hl => ?_)
        refine lv_goto (tgt := 75) hx hb dX2_meeting_163 (by decide) ?_
        exact ih x3 (x4 + 1) M _ _ _ hP hS (lv_sub hl [3, 4, 0] rfl) h
      · have h := tb_ineg c27 h
        refine lv_iload hx hb dX2_meeting_126 (lv_at hl 0 rfl) ?_
        refine lv_aload_n hx hb dX2_meeting_128 rfl (lv_at hl 2 rfl) ?_
        refine tb_getr F hP hB.1 (ci := 2) rfl inlX2 6 (by decide) rfl kf_X2_30 dX2_meeting_129 ?_
        refine lv_aload_n hx hb dX2_meeting_132 rfl (lv_at hl 2 rfl) ?_
        refine tb_getr F hP hB.1 (ci := 2) rfl inlX2 4 (by decide) rfl kf_X2_24 dX2_meeting_133 ?_
        refine lv_iload hx hb dX2_meeting_136 (lv_at hl 4 rfl) ?_
        refine lv_iconst (v := 1) hx hb dX2_meeting_138 (by decide) ?_
        refine lv_isub hx hb dX2_meeting_139 ?_
        refine tb_iald F hP hB.2.2.2.2.2.1 rfl (tb_inv k20) dX2_meeting_140 ?_
        obtain ⟨k28, h⟩ := tb_cks h
        refine tb_iald F hP hB.2.2.2.2.2.2.2.1 rfl (tb_inv k28) dX2_meeting_141 ?_
        refine lv_icmp_ne (tgt := 160) hx hb dX2_meeting_142 (by decide) (fun c29 => ?_) (fun c29 => ?_)
        · have h := tb_ineg c29 h
          refine lv_iinc (v := (x4 + 1)) (lv' := [(4, .int (x4 + 1)), (6, .int x25), (5, .int x22), (0, .ref (tb_ad g p)), (3, .int x3)]) hx hb dX2_meeting_160 hl (k := 4) rfl rfl (by decide) rfl (fun ls hl => ?_)
          refine lv_goto (tgt := 75) hx hb dX2_meeting_163 (by decide) ?_
          exact ih x3 (x4 + 1) M _ _ _ hP hS (lv_sub hl [3, 4, 0] rfl) h
        · have h := tb_ip c29 h
          refine lv_iload hx hb dX2_meeting_145 (lv_at hl 1 rfl) ?_
          refine lv_aload_n hx hb dX2_meeting_147 rfl (lv_at hl 2 rfl) ?_
          refine tb_geti F hP hB.1 (ci := 2) rfl inlX2 9 (by decide) rfl kf_X2_40 dX2_meeting_148 ?_
          refine lv_iand hx hb dX2_meeting_151 ?_
          refine lv_if_eq (tgt := 160) hx hb dX2_meeting_152 (by decide) (fun c30 => ?_) (fun c30 => ?_)
          · have h := tb_ip c30 h
            refine lv_iinc (v := (x4 + 1)) (lv' := [(4, .int (x4 + 1)), (6, .int x25), (5, .int x22), (0, .ref (tb_ad g p)), (3, .int x3)]) hx hb dX2_meeting_160 hl (k := 4) rfl rfl (by decide) rfl (fun ls hl => ?_)
            refine lv_goto (tgt := 75) hx hb dX2_meeting_163 (by decide) ?_
            exact ih x3 (x4 + 1) M _ _ _ hP hS (lv_sub hl [3, 4, 0] rfl) h
          · have h := tb_ineg c30 h
            refine lv_iload_n hx hb dX2_meeting_155 rfl (lv_at hl 3 rfl) ?_
            refine lv_iload hx hb dX2_meeting_156 (lv_at hl 1 rfl) ?_
            refine lv_ior hx hb dX2_meeting_158 ?_
            refine lv_istore_n (lv' := [(3, .int (x3 ||| x22)), (6, .int x25), (5, .int x22), (0, .ref (tb_ad g p)), (4, .int x4)]) hx hb dX2_meeting_159 rfl hl (by decide) rfl (fun ls hl => ?_)
            refine lv_iinc (v := (x4 + 1)) (lv' := [(4, .int (x4 + 1)), (3, .int (x3 ||| x22)), (6, .int x25), (5, .int x22), (0, .ref (tb_ad g p))]) hx hb dX2_meeting_160 hl (k := 4) rfl rfl (by decide) rfl (fun ls hl => ?_)
            refine lv_goto (tgt := 75) hx hb dX2_meeting_163 (by decide) ?_
            exact ih (x3 ||| x22) (x4 + 1) M _ _ _ hP hS (lv_sub hl [4, 1, 0] rfl) h
set_option maxHeartbeats 4000000 in
set_option maxRecDepth 100000 in
theorem tX2_meeting_L4 {g : tb_GT} {l : Launch} {P : Program} {e : Env} {s : State} {m : MethodId} {below : List Frame} {meth : Method} {c : Code} (p : Nat) (hB : tb_B p) {M' : tb_Mem} {r : Int32} (F : tb_F g cX2_meeting 7 RX2 (some .int) (Cond.code yX2_meeting cX2_meeting 7 (some .int)) P s m ([.ref (tb_ad g p)] : List Value).toArray meth c) :
    ∀ (n : Nat) (x1 : Int32) (x2 : Int32) (M : tb_Mem) (H : Heap) (locs : List Loc) (ls : Array Slot), tb_P g M H → va_S (tb_A g) s.heap H locs → lv_has ls 7 [(0, .ref (tb_ad g p)), (1, .int x1), (2, .int x2)] → fX2_meeting_L4 p n x1 x2 M = some (r, M') → W P l e rmX2_meeting s m ([.ref (tb_ad g p)] : List Value).toArray below meth c H locs 0 0 (MQ below (tb_Q g M' (some (.int r))) ([.ref (tb_ad g p)] : List Value).toArray s 0 0 (tb_A g)) (F0 m 4 ls []) := by
  have hx := F.1.1
  have hb := F.1.2.1
  intro n
  induction n with
  | zero =>
    intro x1 x2 M H locs ls hP hS hl h
    rw [fX2_meeting_L4] at h
    exact tb_none h
  | succ n ih =>
    intro x1 x2 M H locs ls hP hS hl h
    rw [fX2_meeting_L4] at h
    refine lv_iload_n hx hb dX2_meeting_4 rfl (lv_at hl 2 rfl) ?_
    refine lv_aload_n hx hb dX2_meeting_5 rfl (lv_at hl 0 rfl) ?_
    refine tb_geti F hP hB.1 (ci := 2) rfl inlX2 8 (by decide) rfl kf_X2_36 dX2_meeting_6 ?_
    refine lv_icmp_ge (tgt := 39) hx hb dX2_meeting_9 (by decide) (fun c1 => ?_) (fun c1 => ?_)
    · have h := tb_ip c1 h
      refine lv_iload_n hx hb dX2_meeting_39 rfl (lv_at hl 1 rfl) ?_
      refine lv_aload_n hx hb dX2_meeting_40 rfl (lv_at hl 0 rfl) ?_
      refine tb_geti F hP hB.1 (ci := 2) rfl inlX2 9 (by decide) rfl kf_X2_40 dX2_meeting_41 ?_
      refine lv_iand hx hb dX2_meeting_44 ?_
      refine lv_if_eq (tgt := 60) hx hb dX2_meeting_45 (by decide) (fun c2 => ?_) (fun c2 => ?_)
      · have h := tb_ip c2 h
        refine lv_iconst (v := 0) hx hb dX2_meeting_60 (by decide) ?_
        refine lv_istore_n (lv' := [(2, .int 0), (0, .ref (tb_ad g p)), (1, .int x1)]) hx hb dX2_meeting_61 rfl hl (by decide) rfl (fun ls hl => ?_)
        refine lv_iload_n hx hb dX2_meeting_62 rfl (lv_at hl 0 rfl) ?_
        refine tb_mrg (g2 := F0 m 71 ls [.int (if (0 : Int32) = 0 then 0 else x1)]) (fun hJ => ?_) ?_
        · refine lv_if_eq (tgt := 70) hx hb dX2_meeting_63 (by decide) (fun c3 => ?_) (fun c3 => ?_)
          · refine lv_iconst (v := 0) hx hb dX2_meeting_70 (by decide) ?_
            rw [if_pos c3] at hJ
            exact hJ
          · refine lv_iload_n hx hb dX2_meeting_66 rfl (lv_at hl 2 rfl) ?_
            refine lv_goto (tgt := 71) hx hb dX2_meeting_67 (by decide) ?_
            rw [if_neg c3] at hJ
            exact hJ
        obtain ⟨x4, e5, h⟩ := tb_lets h
        refine tb_nmi e5 ?_
        refine lv_istore_n (lv' := [(3, .int x4), (2, .int 0), (0, .ref (tb_ad g p)), (1, .int x1)]) hx hb dX2_meeting_71 rfl hl (by decide) rfl (fun ls hl => ?_)
        refine lv_iconst (v := 1) hx hb dX2_meeting_72 (by decide) ?_
        refine lv_istore (lv' := [(4, .int 1), (3, .int x4), (2, .int 0), (0, .ref (tb_ad g p)), (1, .int x1)]) hx hb dX2_meeting_73 hl (by decide) rfl (fun ls hl => ?_)
        exact tX2_meeting_L75 p hB F tb_N x4 1 M _ _ _ hP hS (lv_sub hl [3, 1, 0] rfl) h
      · have h := tb_ineg c2 h
        refine lv_iload_n hx hb dX2_meeting_48 rfl (lv_at hl 1 rfl) ?_
        obtain ⟨r8, M6, e7, h⟩ := tb_b2s h
        refine tb_callS F hP hS hl.1 kJ6_bitCount_0f7a4 km_X2_105 (as := [.int x1]) (tJ6_bitCount_0f7a4 g l x1 M M6 r8 e7) ⟨rfl, rfl, Nat.le_of_ble_eq_true rfl, Nat.le_of_ble_eq_true rfl⟩ rfl (rest := []) rfl (st1 := [.int r8]) rfl (Nat.le_of_ble_eq_true rfl) ⟨Nat.zero_le _, Nat.zero_le _⟩ dX2_meeting_49 (fun H locs hP hS => ?_)
        refine lv_iconst (v := 1) hx hb dX2_meeting_52 (by decide) ?_
        refine tb_mrg (g2 := F0 m 61 ls [.int (if r8 ≤ 1 then 0 else 1)]) (fun hJ => ?_) ?_
        · refine lv_icmp_le (tgt := 60) hx hb dX2_meeting_53 (by decide) (fun c9 => ?_) (fun c9 => ?_)
          · refine lv_iconst (v := 0) hx hb dX2_meeting_60 (by decide) ?_
            rw [if_pos c9] at hJ
            exact hJ
          · refine lv_iconst (v := 1) hx hb dX2_meeting_56 (by decide) ?_
            refine lv_goto (tgt := 61) hx hb dX2_meeting_57 (by decide) ?_
            rw [if_neg c9] at hJ
            exact hJ
        obtain ⟨x10, e11, h⟩ := tb_lets h
        refine tb_nmi e11 ?_
        refine lv_istore_n (lv' := [(2, .int x10), (0, .ref (tb_ad g p)), (1, .int x1)]) hx hb dX2_meeting_61 rfl hl (by decide) rfl (fun ls hl => ?_)
        refine lv_iload_n hx hb dX2_meeting_62 rfl (lv_at hl 0 rfl) ?_
        refine tb_mrg (g2 := F0 m 71 ls [.int (if x10 = 0 then 0 else x1)]) (fun hJ => ?_) ?_
        · refine lv_if_eq (tgt := 70) hx hb dX2_meeting_63 (by decide) (fun c12 => ?_) (fun c12 => ?_)
          · refine lv_iconst (v := 0) hx hb dX2_meeting_70 (by decide) ?_
            rw [if_pos c12] at hJ
            exact hJ
          · refine lv_iload_n hx hb dX2_meeting_66 rfl (lv_at hl 2 rfl) ?_
            refine lv_goto (tgt := 71) hx hb dX2_meeting_67 (by decide) ?_
            rw [if_neg c12] at hJ
            exact hJ
        obtain ⟨x13, e14, h⟩ := tb_lets h
        refine tb_nmi e14 ?_
        refine lv_istore_n (lv' := [(3, .int x13), (2, .int x10), (0, .ref (tb_ad g p)), (1, .int x1)]) hx hb dX2_meeting_71 rfl hl (by decide) rfl (fun ls hl => ?_)
        refine lv_iconst (v := 1) hx hb dX2_meeting_72 (by decide) ?_
        refine lv_istore (lv' := [(4, .int 1), (3, .int x13), (2, .int x10), (0, .ref (tb_ad g p)), (1, .int x1)]) hx hb dX2_meeting_73 hl (by decide) rfl (fun ls hl => ?_)
        exact tX2_meeting_L75 p hB F tb_N x13 1 M6 _ _ _ hP hS (lv_sub hl [3, 1, 0] rfl) h
    · have h := tb_ineg c1 h
      refine lv_aload_n hx hb dX2_meeting_12 rfl (lv_at hl 0 rfl) ?_
      refine tb_getr F hP hB.1 (ci := 2) rfl inlX2 6 (by decide) rfl kf_X2_30 dX2_meeting_13 ?_
      refine lv_iload_n hx hb dX2_meeting_16 rfl (lv_at hl 2 rfl) ?_
      obtain ⟨k15, h⟩ := tb_cks h
      refine tb_iald F hP hB.2.2.2.2.2.2.2.1 rfl (tb_inv k15) dX2_meeting_17 ?_
      refine lv_aload_n hx hb dX2_meeting_18 rfl (lv_at hl 0 rfl) ?_
      refine tb_getr F hP hB.1 (ci := 2) rfl inlX2 2 (by decide) rfl kf_X2_18 dX2_meeting_19 ?_
      refine lv_iload_n hx hb dX2_meeting_22 rfl (lv_at hl 2 rfl) ?_
      refine tb_iald F hP hB.2.2.2.1 rfl (tb_inv k15) dX2_meeting_23 ?_
      refine lv_icmp_ne (tgt := 33) hx hb dX2_meeting_24 (by decide) (fun c16 => ?_) (fun c16 => ?_)
      · have h := tb_ineg c16 h
        refine lv_iinc (v := (x2 + 1)) (lv' := [(2, .int (x2 + 1)), (0, .ref (tb_ad g p)), (1, .int x1)]) hx hb dX2_meeting_33 hl (k := 2) rfl rfl (by decide) rfl (fun ls hl => ?_)
        refine lv_goto (tgt := 4) hx hb dX2_meeting_36 (by decide) ?_
        exact ih x1 (x2 + 1) M _ _ _ hP hS (lv_sub hl [1, 2, 0] rfl) h
      · have h := tb_ip c16 h
        refine lv_iload_n hx hb dX2_meeting_27 rfl (lv_at hl 1 rfl) ?_
        refine lv_iconst (v := 1) hx hb dX2_meeting_28 (by decide) ?_
        refine lv_iload_n hx hb dX2_meeting_29 rfl (lv_at hl 2 rfl) ?_
        refine lv_ishl hx hb dX2_meeting_30 ?_
        refine lv_ior hx hb dX2_meeting_31 ?_
        obtain ⟨x17, e18, h⟩ := tb_lets h
        refine tb_nmi e18 ?_
        refine lv_istore_n (lv' := [(1, .int x17), (0, .ref (tb_ad g p)), (2, .int x2)]) hx hb dX2_meeting_32 rfl hl (by decide) rfl (fun ls hl => ?_)
        refine lv_iinc (v := (x2 + 1)) (lv' := [(2, .int (x2 + 1)), (1, .int x17), (0, .ref (tb_ad g p))]) hx hb dX2_meeting_33 hl (k := 2) rfl rfl (by decide) rfl (fun ls hl => ?_)
        refine lv_goto (tgt := 4) hx hb dX2_meeting_36 (by decide) ?_
        exact ih x17 (x2 + 1) M _ _ _ hP hS (lv_sub hl [2, 1, 0] rfl) h
set_option maxHeartbeats 4000000 in
set_option maxRecDepth 100000 in
theorem tX2_meeting (g : tb_GT) (l : Launch) (p : Nat) (hB : tb_B p) (M M' : tb_Mem) (r : Int32) (h : fX2_meeting p M = some (r, M')) : tb_C g l yX2_meeting (Cond.code yX2_meeting cX2_meeting 7 (some .int)) rmX2_meeting [.ref (tb_ad g p)] M M' (some (.int r)) := by
  refine tb_entry (by decide) (Nat.le_of_ble_eq_true rfl) ?_
  intro P e s m below meth c F hP hS ls hl
  have F : tb_F g cX2_meeting 7 RX2 (some .int) (Cond.code yX2_meeting cX2_meeting 7 (some .int)) P s m ([.ref (tb_ad g p)] : List Value).toArray meth c := F
  have hx := F.1.1
  have hb := F.1.2.1
  have hl : lv_has ls 7 [(0, .ref (tb_ad g p))] := hl
  unfold fX2_meeting at h
  refine lv_iconst (v := 0) hx hb dX2_meeting_0 (by decide) ?_
  refine lv_istore_n (lv' := [(1, .int 0), (0, .ref (tb_ad g p))]) hx hb dX2_meeting_1 rfl hl (by decide) rfl (fun ls hl => ?_)
  refine lv_iconst (v := 0) hx hb dX2_meeting_2 (by decide) ?_
  refine lv_istore_n (lv' := [(2, .int 0), (1, .int 0), (0, .ref (tb_ad g p))]) hx hb dX2_meeting_3 rfl hl (by decide) rfl (fun ls hl => ?_)
  exact tX2_meeting_L4 p hB F tb_N 0 0 M _ _ _ hP hS (lv_sub hl [2, 1, 0] rfl) h
def fX2_strike (p : Nat) (a1 : Int32) (M : tb_Mem) : Option (tb_Mem) :=
  if (M p 11) < 20 then (tb_ck (tb_in a1 8) (if (M (p + 1) a1.toNatClampNeg) = 5 then (if (M (p + 1) a1.toNatClampNeg) = 4 then (some M) else (tb_let (tb_up M p 11 ((M p 11) + 1)) (fun M5 => some M5))) else (tb_ck (tb_in (M p 11) 20) (tb_let (tb_up M (p + 8) ((M p 11).toNatClampNeg) (a1 + 1)) (fun M8 => if (M8 (p + 1) a1.toNatClampNeg) = 4 then (some M8) else (tb_let (tb_up M8 p 11 ((M8 p 11) + 1)) (fun M11 => some M11))))))) else (some M)
abbrev rmX2_strike : Room := { frames := 0, cells := 0, slots := 0, locals := 0 }
set_option maxHeartbeats 4000000 in
set_option maxRecDepth 100000 in
theorem tX2_strike (g : tb_GT) (l : Launch) (p : Nat) (hB : tb_B p) (a1 : Int32) (M M' : tb_Mem) (h : fX2_strike p a1 M = some M') : tb_C g l yX2_strike (Cond.code yX2_strike cX2_strike 2 none) rmX2_strike [.ref (tb_ad g p), .int a1] M M' none := by
  refine tb_entry (by decide) (Nat.le_of_ble_eq_true rfl) ?_
  intro P e s m below meth c F hP hS ls hl
  have F : tb_F g cX2_strike 2 RX2 none (Cond.code yX2_strike cX2_strike 2 none) P s m ([.ref (tb_ad g p), .int a1] : List Value).toArray meth c := F
  have hx := F.1.1
  have hb := F.1.2.1
  have hl : lv_has ls 2 [(0, .ref (tb_ad g p)), (1, .int a1)] := hl
  unfold fX2_strike at h
  refine lv_aload_n hx hb dX2_strike_0 rfl (lv_at hl 0 rfl) ?_
  refine tb_geti F hP hB.1 (ci := 2) rfl inlX2 11 (by decide) rfl kf_X2_62 dX2_strike_1 ?_
  refine lv_bipush (v := 20) hx hb dX2_strike_4 (by decide) ?_
  refine lv_icmp_lt (tgt := 10) hx hb dX2_strike_6 (by decide) (fun c1 => ?_) (fun c1 => ?_)
  · have h := tb_ip c1 h
    refine lv_aload_n hx hb dX2_strike_10 rfl (lv_at hl 0 rfl) ?_
    refine tb_getr F hP hB.1 (ci := 2) rfl inlX2 0 (by decide) rfl kf_X2_9 dX2_strike_11 ?_
    refine lv_iload_n hx hb dX2_strike_14 rfl (lv_at hl 1 rfl) ?_
    obtain ⟨k2, h⟩ := tb_cks h
    refine tb_iald F hP hB.2.1 rfl (tb_inv k2) dX2_strike_15 ?_
    refine lv_iconst (v := 5) hx hb dX2_strike_16 (by decide) ?_
    refine lv_icmp_eq (tgt := 32) hx hb dX2_strike_17 (by decide) (fun c3 => ?_) (fun c3 => ?_)
    · have h := tb_ip c3 h
      refine lv_aload_n hx hb dX2_strike_32 rfl (lv_at hl 0 rfl) ?_
      refine tb_getr F hP hB.1 (ci := 2) rfl inlX2 0 (by decide) rfl kf_X2_9 dX2_strike_33 ?_
      refine lv_iload_n hx hb dX2_strike_36 rfl (lv_at hl 1 rfl) ?_
      refine tb_iald F hP hB.2.1 rfl (tb_inv k2) dX2_strike_37 ?_
      refine lv_iconst (v := 4) hx hb dX2_strike_38 (by decide) ?_
      refine lv_icmp_eq (tgt := 52) hx hb dX2_strike_39 (by decide) (fun c4 => ?_) (fun c4 => ?_)
      · have h := tb_ip c4 h
        exact tb_vret h F hP hS dX2_strike_52
      · have h := tb_ineg c4 h
        refine lv_aload_n hx hb dX2_strike_42 rfl (lv_at hl 0 rfl) ?_
        refine lv_dup hx hb dX2_strike_43 rfl ?_
        refine tb_geti F hP hB.1 (ci := 2) rfl inlX2 11 (by decide) rfl kf_X2_62 dX2_strike_44 ?_
        refine lv_iconst (v := 1) hx hb dX2_strike_47 (by decide) ?_
        refine lv_iadd hx hb dX2_strike_48 ?_
        obtain ⟨M5, e6, h⟩ := tb_lets h
        refine tb_puti F hP hS hB.1 (ci := 2) rfl inlX2 tyX2 tyX2_ok nmX2 11 (by decide) rfl rfl rfl rfl kf_X2_62 dX2_strike_49 (fun H locs hP hS => ?_)
        rw [← e6] at hP
        exact tb_vret h F hP hS dX2_strike_52
    · have h := tb_ineg c3 h
      refine lv_aload_n hx hb dX2_strike_20 rfl (lv_at hl 0 rfl) ?_
      refine tb_getr F hP hB.1 (ci := 2) rfl inlX2 7 (by decide) rfl kf_X2_33 dX2_strike_21 ?_
      refine lv_aload_n hx hb dX2_strike_24 rfl (lv_at hl 0 rfl) ?_
      refine tb_geti F hP hB.1 (ci := 2) rfl inlX2 11 (by decide) rfl kf_X2_62 dX2_strike_25 ?_
      refine lv_iload_n hx hb dX2_strike_28 rfl (lv_at hl 1 rfl) ?_
      refine lv_iconst (v := 1) hx hb dX2_strike_29 (by decide) ?_
      refine lv_iadd hx hb dX2_strike_30 ?_
      obtain ⟨k7, h⟩ := tb_cks h
      obtain ⟨M8, e9, h⟩ := tb_lets h
      refine tb_iast F hP hS hB.2.2.2.2.2.2.2.2 rfl (tb_inv k7) dX2_strike_31 (fun H locs hP hS => ?_)
      rw [← e9] at hP
      refine lv_aload_n hx hb dX2_strike_32 rfl (lv_at hl 0 rfl) ?_
      refine tb_getr F hP hB.1 (ci := 2) rfl inlX2 0 (by decide) rfl kf_X2_9 dX2_strike_33 ?_
      refine lv_iload_n hx hb dX2_strike_36 rfl (lv_at hl 1 rfl) ?_
      refine tb_iald F hP hB.2.1 rfl (tb_inv k2) dX2_strike_37 ?_
      refine lv_iconst (v := 4) hx hb dX2_strike_38 (by decide) ?_
      refine lv_icmp_eq (tgt := 52) hx hb dX2_strike_39 (by decide) (fun c10 => ?_) (fun c10 => ?_)
      · have h := tb_ip c10 h
        exact tb_vret h F hP hS dX2_strike_52
      · have h := tb_ineg c10 h
        refine lv_aload_n hx hb dX2_strike_42 rfl (lv_at hl 0 rfl) ?_
        refine lv_dup hx hb dX2_strike_43 rfl ?_
        refine tb_geti F hP hB.1 (ci := 2) rfl inlX2 11 (by decide) rfl kf_X2_62 dX2_strike_44 ?_
        refine lv_iconst (v := 1) hx hb dX2_strike_47 (by decide) ?_
        refine lv_iadd hx hb dX2_strike_48 ?_
        obtain ⟨M11, e12, h⟩ := tb_lets h
        refine tb_puti F hP hS hB.1 (ci := 2) rfl inlX2 tyX2 tyX2_ok nmX2 11 (by decide) rfl rfl rfl rfl kf_X2_62 dX2_strike_49 (fun H locs hP hS => ?_)
        rw [← e12] at hP
        exact tb_vret h F hP hS dX2_strike_52
  · have h := tb_ineg c1 h
    exact tb_vret h F hP hS dX2_strike_9
def fX2_print_L4 (p : Nat) : Nat → Int32 → Int32 → tb_Mem → Option (Int32 × tb_Mem)
  | 0, _, _, _ => none
  | n + 1, x1, x2, M => if (M p 8) ≤ x2 then (some (x1, M)) else (tb_b2 (fX2_moves p x2 M) (fun r4 M2 => if r4 = 0 then (fX2_print_L4 p n x1 (x2 + 1) M2) else (tb_ck (tb_in x2 8) (if (M2 (p + 7) x2.toNatClampNeg) = (M2 (p + 3) x2.toNatClampNeg) then (tb_b1 (fX2_strike p x2 M2) (fun M8 => fX2_print_L4 p n (x1 + 1) (x2 + 1) M8)) else (fX2_print_L4 p n x1 (x2 + 1) M2)))))
def fX2_print (p : Nat) (M : tb_Mem) : Option (Int32 × tb_Mem) :=
  fX2_print_L4 p tb_N 0 0 M
abbrev rmX2_print : Room := { frames := 1, cells := 0, slots := 0, locals := 21 }
set_option maxHeartbeats 4000000 in
set_option maxRecDepth 100000 in
theorem tX2_print_L4 {g : tb_GT} {l : Launch} {P : Program} {e : Env} {s : State} {m : MethodId} {below : List Frame} {meth : Method} {c : Code} (p : Nat) (hB : tb_B p) {M' : tb_Mem} {r : Int32} (F : tb_F g cX2_print 3 RX2 (some .int) (Cond.code yX2_print cX2_print 3 (some .int)) P s m ([.ref (tb_ad g p)] : List Value).toArray meth c) :
    ∀ (n : Nat) (x1 : Int32) (x2 : Int32) (M : tb_Mem) (H : Heap) (locs : List Loc) (ls : Array Slot), tb_P g M H → va_S (tb_A g) s.heap H locs → lv_has ls 3 [(0, .ref (tb_ad g p)), (1, .int x1), (2, .int x2)] → fX2_print_L4 p n x1 x2 M = some (r, M') → W P l e rmX2_print s m ([.ref (tb_ad g p)] : List Value).toArray below meth c H locs 0 0 (MQ below (tb_Q g M' (some (.int r))) ([.ref (tb_ad g p)] : List Value).toArray s 0 0 (tb_A g)) (F0 m 4 ls []) := by
  have hx := F.1.1
  have hb := F.1.2.1
  intro n
  induction n with
  | zero =>
    intro x1 x2 M H locs ls hP hS hl h
    rw [fX2_print_L4] at h
    exact tb_none h
  | succ n ih =>
    intro x1 x2 M H locs ls hP hS hl h
    rw [fX2_print_L4] at h
    refine lv_iload_n hx hb dX2_print_4 rfl (lv_at hl 2 rfl) ?_
    refine lv_aload_n hx hb dX2_print_5 rfl (lv_at hl 0 rfl) ?_
    refine tb_geti F hP hB.1 (ci := 2) rfl inlX2 8 (by decide) rfl kf_X2_36 dX2_print_6 ?_
    refine lv_icmp_ge (tgt := 49) hx hb dX2_print_9 (by decide) (fun c1 => ?_) (fun c1 => ?_)
    · have h := tb_ip c1 h
      refine lv_iload_n hx hb dX2_print_49 rfl (lv_at hl 1 rfl) ?_
      exact tb_iret h F hP hS dX2_print_50
    · have h := tb_ineg c1 h
      refine lv_aload_n hx hb dX2_print_12 rfl (lv_at hl 0 rfl) ?_
      refine lv_iload_n hx hb dX2_print_13 rfl (lv_at hl 2 rfl) ?_
      obtain ⟨r4, M2, e3, h⟩ := tb_b2s h
      refine tb_callV F hP hS hl.1 kX2_moves km_X2_92 (as := [.int x2]) (tX2_moves g l p hB x2 M M2 r4 e3) hB.1 ⟨rfl, rfl, Nat.le_of_ble_eq_true rfl, Nat.le_of_ble_eq_true rfl⟩ rfl (rest := []) rfl (st1 := [.int r4]) rfl (Nat.le_of_ble_eq_true rfl) ⟨Nat.zero_le _, Nat.zero_le _⟩ dX2_print_14 (fun H locs hP hS => ?_)
      refine lv_if_eq (tgt := 43) hx hb dX2_print_17 (by decide) (fun c5 => ?_) (fun c5 => ?_)
      · have h := tb_ip c5 h
        refine lv_iinc (v := (x2 + 1)) (lv' := [(2, .int (x2 + 1)), (0, .ref (tb_ad g p)), (1, .int x1)]) hx hb dX2_print_43 hl (k := 2) rfl rfl (by decide) rfl (fun ls hl => ?_)
        refine lv_goto (tgt := 4) hx hb dX2_print_46 (by decide) ?_
        exact ih x1 (x2 + 1) M2 _ _ _ hP hS (lv_sub hl [1, 2, 0] rfl) h
      · have h := tb_ineg c5 h
        refine lv_aload_n hx hb dX2_print_20 rfl (lv_at hl 0 rfl) ?_
        refine tb_getr F hP hB.1 (ci := 2) rfl inlX2 6 (by decide) rfl kf_X2_30 dX2_print_21 ?_
        refine lv_iload_n hx hb dX2_print_24 rfl (lv_at hl 2 rfl) ?_
        obtain ⟨k6, h⟩ := tb_cks h
        refine tb_iald F hP hB.2.2.2.2.2.2.2.1 rfl (tb_inv k6) dX2_print_25 ?_
        refine lv_aload_n hx hb dX2_print_26 rfl (lv_at hl 0 rfl) ?_
        refine tb_getr F hP hB.1 (ci := 2) rfl inlX2 2 (by decide) rfl kf_X2_18 dX2_print_27 ?_
        refine lv_iload_n hx hb dX2_print_30 rfl (lv_at hl 2 rfl) ?_
        refine tb_iald F hP hB.2.2.2.1 rfl (tb_inv k6) dX2_print_31 ?_
        refine lv_icmp_ne (tgt := 43) hx hb dX2_print_32 (by decide) (fun c7 => ?_) (fun c7 => ?_)
        · have h := tb_ineg c7 h
          refine lv_iinc (v := (x2 + 1)) (lv' := [(2, .int (x2 + 1)), (0, .ref (tb_ad g p)), (1, .int x1)]) hx hb dX2_print_43 hl (k := 2) rfl rfl (by decide) rfl (fun ls hl => ?_)
          refine lv_goto (tgt := 4) hx hb dX2_print_46 (by decide) ?_
          exact ih x1 (x2 + 1) M2 _ _ _ hP hS (lv_sub hl [1, 2, 0] rfl) h
        · have h := tb_ip c7 h
          refine lv_iinc (v := (x1 + 1)) (lv' := [(1, .int (x1 + 1)), (0, .ref (tb_ad g p)), (2, .int x2)]) hx hb dX2_print_35 hl (k := 1) rfl rfl (by decide) rfl (fun ls hl => ?_)
          refine lv_aload_n hx hb dX2_print_38 rfl (lv_at hl 1 rfl) ?_
          refine lv_iload_n hx hb dX2_print_39 rfl (lv_at hl 2 rfl) ?_
          obtain ⟨M8, e9, h⟩ := tb_b1s h
          refine tb_callV F hP hS hl.1 kX2_strike km_X2_110 (as := [.int x2]) (tX2_strike g l p hB x2 M2 M8 e9) hB.1 ⟨rfl, rfl, Nat.le_of_ble_eq_true rfl, Nat.le_of_ble_eq_true rfl⟩ rfl (rest := []) rfl (st1 := []) rfl (Nat.le_of_ble_eq_true rfl) ⟨Nat.zero_le _, Nat.zero_le _⟩ dX2_print_40 (fun H locs hP hS => ?_)
          refine lv_iinc (v := (x2 + 1)) (lv' := [(2, .int (x2 + 1)), (1, .int (x1 + 1)), (0, .ref (tb_ad g p))]) hx hb dX2_print_43 hl (k := 2) rfl rfl (by decide) rfl (fun ls hl => ?_)
          refine lv_goto (tgt := 4) hx hb dX2_print_46 (by decide) ?_
          exact ih (x1 + 1) (x2 + 1) M8 _ _ _ hP hS (lv_sub hl [2, 1, 0] rfl) h
set_option maxHeartbeats 4000000 in
set_option maxRecDepth 100000 in
theorem tX2_print (g : tb_GT) (l : Launch) (p : Nat) (hB : tb_B p) (M M' : tb_Mem) (r : Int32) (h : fX2_print p M = some (r, M')) : tb_C g l yX2_print (Cond.code yX2_print cX2_print 3 (some .int)) rmX2_print [.ref (tb_ad g p)] M M' (some (.int r)) := by
  refine tb_entry (by decide) (Nat.le_of_ble_eq_true rfl) ?_
  intro P e s m below meth c F hP hS ls hl
  have F : tb_F g cX2_print 3 RX2 (some .int) (Cond.code yX2_print cX2_print 3 (some .int)) P s m ([.ref (tb_ad g p)] : List Value).toArray meth c := F
  have hx := F.1.1
  have hb := F.1.2.1
  have hl : lv_has ls 3 [(0, .ref (tb_ad g p))] := hl
  unfold fX2_print at h
  refine lv_iconst (v := 0) hx hb dX2_print_0 (by decide) ?_
  refine lv_istore_n (lv' := [(1, .int 0), (0, .ref (tb_ad g p))]) hx hb dX2_print_1 rfl hl (by decide) rfl (fun ls hl => ?_)
  refine lv_iconst (v := 0) hx hb dX2_print_2 (by decide) ?_
  refine lv_istore_n (lv' := [(2, .int 0), (1, .int 0), (0, .ref (tb_ad g p))]) hx hb dX2_print_3 rfl hl (by decide) rfl (fun ls hl => ?_)
  exact tX2_print_L4 p hB F tb_N 0 0 M _ _ _ hP hS (lv_sub hl [2, 1, 0] rfl) h
def fX2_pass (p : Nat) (M : tb_Mem) : Option (Int32 × tb_Mem) :=
  tb_b1 (fX2_riseAndFall p M) (fun M1 => tb_b2 (fX2_meeting p M1) (fun r5 M3 => tb_let (tb_up M3 p 10 ((M3 p 10) ||| r5)) (fun M6 => tb_let (tb_up M6 p 9 ((M6 p 9) &&& (r5 ^^^ (-1)))) (fun M8 => tb_let (tb_up M8 p 12 ((M8 p 12) + 1)) (fun M10 => tb_b2 (fX2_print p M10) (fun r14 M12 => some (r14, M12)))))))
abbrev rmX2_pass : Room := { frames := 2, cells := 0, slots := 0, locals := 85 }
set_option maxHeartbeats 4000000 in
set_option maxRecDepth 100000 in
theorem tX2_pass (g : tb_GT) (l : Launch) (p : Nat) (hB : tb_B p) (M M' : tb_Mem) (r : Int32) (h : fX2_pass p M = some (r, M')) : tb_C g l yX2_pass (Cond.code yX2_pass cX2_pass 2 (some .int)) rmX2_pass [.ref (tb_ad g p)] M M' (some (.int r)) := by
  refine tb_entry (by decide) (Nat.le_of_ble_eq_true rfl) ?_
  intro P e s m below meth c F hP hS ls hl
  have F : tb_F g cX2_pass 2 RX2 (some .int) (Cond.code yX2_pass cX2_pass 2 (some .int)) P s m ([.ref (tb_ad g p)] : List Value).toArray meth c := F
  have hx := F.1.1
  have hb := F.1.2.1
  have hl : lv_has ls 2 [(0, .ref (tb_ad g p))] := hl
  unfold fX2_pass at h
  refine lv_aload_n hx hb dX2_pass_0 rfl (lv_at hl 0 rfl) ?_
  obtain ⟨M1, e2, h⟩ := tb_b1s h
  refine tb_callV F hP hS hl.1 kX2_riseAndFall km_X2_79 (as := []) (tX2_riseAndFall g l p hB M M1 e2) hB.1 ⟨rfl, rfl, Nat.le_of_ble_eq_true rfl, Nat.le_of_ble_eq_true rfl⟩ rfl (rest := []) rfl (st1 := []) rfl (Nat.le_of_ble_eq_true rfl) ⟨Nat.zero_le _, Nat.zero_le _⟩ dX2_pass_1 (fun H locs hP hS => ?_)
  refine lv_aload_n hx hb dX2_pass_4 rfl (lv_at hl 0 rfl) ?_
  obtain ⟨r5, M3, e4, h⟩ := tb_b2s h
  refine tb_callV F hP hS hl.1 kX2_meeting km_X2_82 (as := []) (tX2_meeting g l p hB M1 M3 r5 e4) hB.1 ⟨rfl, rfl, Nat.le_of_ble_eq_true rfl, Nat.le_of_ble_eq_true rfl⟩ rfl (rest := []) rfl (st1 := [.int r5]) rfl (Nat.le_of_ble_eq_true rfl) ⟨Nat.zero_le _, Nat.zero_le _⟩ dX2_pass_5 (fun H locs hP hS => ?_)
  refine lv_istore_n (lv' := [(1, .int r5), (0, .ref (tb_ad g p))]) hx hb dX2_pass_8 rfl hl (by decide) rfl (fun ls hl => ?_)
  refine lv_aload_n hx hb dX2_pass_9 rfl (lv_at hl 1 rfl) ?_
  refine lv_dup hx hb dX2_pass_10 rfl ?_
  refine tb_geti F hP hB.1 (ci := 2) rfl inlX2 10 (by decide) rfl kf_X2_43 dX2_pass_11 ?_
  refine lv_iload_n hx hb dX2_pass_14 rfl (lv_at hl 0 rfl) ?_
  refine lv_ior hx hb dX2_pass_15 ?_
  obtain ⟨M6, e7, h⟩ := tb_lets h
  refine tb_puti F hP hS hB.1 (ci := 2) rfl inlX2 tyX2 tyX2_ok nmX2 10 (by decide) rfl rfl rfl rfl kf_X2_43 dX2_pass_16 (fun H locs hP hS => ?_)
  rw [← e7] at hP
  refine lv_aload_n hx hb dX2_pass_19 rfl (lv_at hl 1 rfl) ?_
  refine lv_dup hx hb dX2_pass_20 rfl ?_
  refine tb_geti F hP hB.1 (ci := 2) rfl inlX2 9 (by decide) rfl kf_X2_40 dX2_pass_21 ?_
  refine lv_iload_n hx hb dX2_pass_24 rfl (lv_at hl 0 rfl) ?_
  refine lv_iconst (v := (-1)) hx hb dX2_pass_25 (by decide) ?_
  refine lv_ixor hx hb dX2_pass_26 ?_
  refine lv_iand hx hb dX2_pass_27 ?_
  obtain ⟨M8, e9, h⟩ := tb_lets h
  refine tb_puti F hP hS hB.1 (ci := 2) rfl inlX2 tyX2 tyX2_ok nmX2 9 (by decide) rfl rfl rfl rfl kf_X2_40 dX2_pass_28 (fun H locs hP hS => ?_)
  rw [← e9] at hP
  refine lv_aload_n hx hb dX2_pass_31 rfl (lv_at hl 1 rfl) ?_
  refine lv_dup hx hb dX2_pass_32 rfl ?_
  refine tb_geti F hP hB.1 (ci := 2) rfl inlX2 12 (by decide) rfl kf_X2_46 dX2_pass_33 ?_
  refine lv_iconst (v := 1) hx hb dX2_pass_36 (by decide) ?_
  refine lv_iadd hx hb dX2_pass_37 ?_
  obtain ⟨M10, e11, h⟩ := tb_lets h
  refine tb_puti F hP hS hB.1 (ci := 2) rfl inlX2 tyX2 tyX2_ok nmX2 12 (by decide) rfl rfl rfl rfl kf_X2_46 dX2_pass_38 (fun H locs hP hS => ?_)
  rw [← e11] at hP
  refine lv_aload_n hx hb dX2_pass_41 rfl (lv_at hl 1 rfl) ?_
  obtain ⟨r14, M12, e13, h⟩ := tb_b2s h
  refine tb_callV F hP hS hl.1 kX2_print km_X2_86 (as := []) (tX2_print g l p hB M10 M12 r14 e13) hB.1 ⟨rfl, rfl, Nat.le_of_ble_eq_true rfl, Nat.le_of_ble_eq_true rfl⟩ rfl (rest := []) rfl (st1 := [.int r14]) rfl (Nat.le_of_ble_eq_true rfl) ⟨Nat.zero_le _, Nat.zero_le _⟩ dX2_pass_42 (fun H locs hP hS => ?_)
  exact tb_iret h F hP hS dX2_pass_45
def fX2_foresee_L2 (p : Nat) : Nat → Int32 → Int32 → tb_Mem → Option (tb_Mem)
  | 0, _, _, _ => none
  | n + 1, x1, x2, M => if x1 ≤ x2 then (some M) else (if (M p 9) = 0 then (some M) else (tb_b2 (fX2_pass p M) (fun r5 M3 => fX2_foresee_L2 p n x1 (x2 + 1) M3)))
def fX2_foresee (p : Nat) (a1 : Int32) (M : tb_Mem) : Option (tb_Mem) :=
  fX2_foresee_L2 p tb_N a1 0 M
abbrev rmX2_foresee : Room := { frames := 3, cells := 0, slots := 0, locals := 106 }
set_option maxHeartbeats 4000000 in
set_option maxRecDepth 100000 in
theorem tX2_foresee_L2 {g : tb_GT} {l : Launch} {P : Program} {e : Env} {s : State} {m : MethodId} {below : List Frame} {meth : Method} {c : Code} (p : Nat) (hB : tb_B p) {a1 : Int32} {M' : tb_Mem} (F : tb_F g cX2_foresee 3 RX2 none (Cond.code yX2_foresee cX2_foresee 3 none) P s m ([.ref (tb_ad g p), .int a1] : List Value).toArray meth c) :
    ∀ (n : Nat) (x1 : Int32) (x2 : Int32) (M : tb_Mem) (H : Heap) (locs : List Loc) (ls : Array Slot), tb_P g M H → va_S (tb_A g) s.heap H locs → lv_has ls 3 [(0, .ref (tb_ad g p)), (1, .int x1), (2, .int x2)] → fX2_foresee_L2 p n x1 x2 M = some M' → W P l e rmX2_foresee s m ([.ref (tb_ad g p), .int a1] : List Value).toArray below meth c H locs 0 0 (MQ below (tb_Q g M' none) ([.ref (tb_ad g p), .int a1] : List Value).toArray s 0 0 (tb_A g)) (F0 m 2 ls []) := by
  have hx := F.1.1
  have hb := F.1.2.1
  intro n
  induction n with
  | zero =>
    intro x1 x2 M H locs ls hP hS hl h
    rw [fX2_foresee_L2] at h
    exact tb_none h
  | succ n ih =>
    intro x1 x2 M H locs ls hP hS hl h
    rw [fX2_foresee_L2] at h
    refine lv_iload_n hx hb dX2_foresee_2 rfl (lv_at hl 2 rfl) ?_
    refine lv_iload_n hx hb dX2_foresee_3 rfl (lv_at hl 1 rfl) ?_
    refine lv_icmp_ge (tgt := 25) hx hb dX2_foresee_4 (by decide) (fun c1 => ?_) (fun c1 => ?_)
    · have h := tb_ip c1 h
      exact tb_vret h F hP hS dX2_foresee_25
    · have h := tb_ineg c1 h
      refine lv_aload_n hx hb dX2_foresee_7 rfl (lv_at hl 0 rfl) ?_
      refine tb_geti F hP hB.1 (ci := 2) rfl inlX2 9 (by decide) rfl kf_X2_40 dX2_foresee_8 ?_
      refine lv_if_eq (tgt := 25) hx hb dX2_foresee_11 (by decide) (fun c2 => ?_) (fun c2 => ?_)
      · have h := tb_ip c2 h
        exact tb_vret h F hP hS dX2_foresee_25
      · have h := tb_ineg c2 h
        refine lv_aload_n hx hb dX2_foresee_14 rfl (lv_at hl 0 rfl) ?_
        obtain ⟨r5, M3, e4, h⟩ := tb_b2s h
        refine tb_callV F hP hS hl.1 kX2_pass km_X2_89 (as := []) (tX2_pass g l p hB M M3 r5 e4) hB.1 ⟨rfl, rfl, Nat.le_of_ble_eq_true rfl, Nat.le_of_ble_eq_true rfl⟩ rfl (rest := []) rfl (st1 := [.int r5]) rfl (Nat.le_of_ble_eq_true rfl) ⟨Nat.zero_le _, Nat.zero_le _⟩ dX2_foresee_15 (fun H locs hP hS => ?_)
        refine lv_pop hx hb dX2_foresee_18 rfl ?_
        refine lv_iinc (v := (x2 + 1)) (lv' := [(2, .int (x2 + 1)), (0, .ref (tb_ad g p)), (1, .int x1)]) hx hb dX2_foresee_19 hl (k := 2) rfl rfl (by decide) rfl (fun ls hl => ?_)
        refine lv_goto (tgt := 2) hx hb dX2_foresee_22 (by decide) ?_
        exact ih x1 (x2 + 1) M3 _ _ _ hP hS (lv_sub hl [1, 2, 0] rfl) h
set_option maxHeartbeats 4000000 in
set_option maxRecDepth 100000 in
theorem tX2_foresee (g : tb_GT) (l : Launch) (p : Nat) (hB : tb_B p) (a1 : Int32) (M M' : tb_Mem) (h : fX2_foresee p a1 M = some M') : tb_C g l yX2_foresee (Cond.code yX2_foresee cX2_foresee 3 none) rmX2_foresee [.ref (tb_ad g p), .int a1] M M' none := by
  refine tb_entry (by decide) (Nat.le_of_ble_eq_true rfl) ?_
  intro P e s m below meth c F hP hS ls hl
  have F : tb_F g cX2_foresee 3 RX2 none (Cond.code yX2_foresee cX2_foresee 3 none) P s m ([.ref (tb_ad g p), .int a1] : List Value).toArray meth c := F
  have hx := F.1.1
  have hb := F.1.2.1
  have hl : lv_has ls 3 [(0, .ref (tb_ad g p)), (1, .int a1)] := hl
  unfold fX2_foresee at h
  refine lv_iconst (v := 0) hx hb dX2_foresee_0 (by decide) ?_
  refine lv_istore_n (lv' := [(2, .int 0), (0, .ref (tb_ad g p)), (1, .int a1)]) hx hb dX2_foresee_1 rfl hl (by decide) rfl (fun ls hl => ?_)
  exact tX2_foresee_L2 p hB F tb_N a1 0 M _ _ _ hP hS (lv_sub hl [1, 2, 0] rfl) h
def fX2_columnsPrinted_L4 (p : Nat) : Nat → Int32 → Int32 → tb_Mem → Option (Int32 × tb_Mem)
  | 0, _, _, _ => none
  | n + 1, x1, x2, M => if 20 ≤ x2 then (some (x1, M)) else (tb_ck (tb_in x2 20) (if (M (p + 8) x2.toNatClampNeg) = 0 then (fX2_columnsPrinted_L4 p n x1 (x2 + 1) M) else (fX2_columnsPrinted_L4 p n (x1 + 1) (x2 + 1) M)))
def fX2_columnsPrinted (p : Nat) (M : tb_Mem) : Option (Int32 × tb_Mem) :=
  fX2_columnsPrinted_L4 p tb_N 0 0 M
abbrev rmX2_columnsPrinted : Room := { frames := 0, cells := 0, slots := 0, locals := 0 }
set_option maxHeartbeats 4000000 in
set_option maxRecDepth 100000 in
theorem tX2_columnsPrinted_L4 {g : tb_GT} {l : Launch} {P : Program} {e : Env} {s : State} {m : MethodId} {below : List Frame} {meth : Method} {c : Code} (p : Nat) (hB : tb_B p) {M' : tb_Mem} {r : Int32} (F : tb_F g cX2_columnsPrinted 3 RX2 (some .int) (Cond.code yX2_columnsPrinted cX2_columnsPrinted 3 (some .int)) P s m ([.ref (tb_ad g p)] : List Value).toArray meth c) :
    ∀ (n : Nat) (x1 : Int32) (x2 : Int32) (M : tb_Mem) (H : Heap) (locs : List Loc) (ls : Array Slot), tb_P g M H → va_S (tb_A g) s.heap H locs → lv_has ls 3 [(0, .ref (tb_ad g p)), (1, .int x1), (2, .int x2)] → fX2_columnsPrinted_L4 p n x1 x2 M = some (r, M') → W P l e rmX2_columnsPrinted s m ([.ref (tb_ad g p)] : List Value).toArray below meth c H locs 0 0 (MQ below (tb_Q g M' (some (.int r))) ([.ref (tb_ad g p)] : List Value).toArray s 0 0 (tb_A g)) (F0 m 4 ls []) := by
  have hx := F.1.1
  have hb := F.1.2.1
  intro n
  induction n with
  | zero =>
    intro x1 x2 M H locs ls hP hS hl h
    rw [fX2_columnsPrinted_L4] at h
    exact tb_none h
  | succ n ih =>
    intro x1 x2 M H locs ls hP hS hl h
    rw [fX2_columnsPrinted_L4] at h
    refine lv_iload_n hx hb dX2_columnsPrinted_4 rfl (lv_at hl 2 rfl) ?_
    refine lv_bipush (v := 20) hx hb dX2_columnsPrinted_5 (by decide) ?_
    refine lv_icmp_ge (tgt := 28) hx hb dX2_columnsPrinted_7 (by decide) (fun c1 => ?_) (fun c1 => ?_)
    · have h := tb_ip c1 h
      refine lv_iload_n hx hb dX2_columnsPrinted_28 rfl (lv_at hl 1 rfl) ?_
      exact tb_iret h F hP hS dX2_columnsPrinted_29
    · have h := tb_ineg c1 h
      refine lv_aload_n hx hb dX2_columnsPrinted_10 rfl (lv_at hl 0 rfl) ?_
      refine tb_getr F hP hB.1 (ci := 2) rfl inlX2 7 (by decide) rfl kf_X2_33 dX2_columnsPrinted_11 ?_
      refine lv_iload_n hx hb dX2_columnsPrinted_14 rfl (lv_at hl 2 rfl) ?_
      obtain ⟨k2, h⟩ := tb_cks h
      refine tb_iald F hP hB.2.2.2.2.2.2.2.2 rfl (tb_inv k2) dX2_columnsPrinted_15 ?_
      refine lv_if_eq (tgt := 22) hx hb dX2_columnsPrinted_16 (by decide) (fun c3 => ?_) (fun c3 => ?_)
      · have h := tb_ip c3 h
        refine lv_iinc (v := (x2 + 1)) (lv' := [(2, .int (x2 + 1)), (0, .ref (tb_ad g p)), (1, .int x1)]) hx hb dX2_columnsPrinted_22 hl (k := 2) rfl rfl (by decide) rfl (fun ls hl => ?_)
        refine lv_goto (tgt := 4) hx hb dX2_columnsPrinted_25 (by decide) ?_
        exact ih x1 (x2 + 1) M _ _ _ hP hS (lv_sub hl [1, 2, 0] rfl) h
      · have h := tb_ineg c3 h
        refine lv_iinc (v := (x1 + 1)) (lv' := [(1, .int (x1 + 1)), (0, .ref (tb_ad g p)), (2, .int x2)]) hx hb dX2_columnsPrinted_19 hl (k := 1) rfl rfl (by decide) rfl (fun ls hl => ?_)
        refine lv_iinc (v := (x2 + 1)) (lv' := [(2, .int (x2 + 1)), (1, .int (x1 + 1)), (0, .ref (tb_ad g p))]) hx hb dX2_columnsPrinted_22 hl (k := 2) rfl rfl (by decide) rfl (fun ls hl => ?_)
        refine lv_goto (tgt := 4) hx hb dX2_columnsPrinted_25 (by decide) ?_
        exact ih (x1 + 1) (x2 + 1) M _ _ _ hP hS (lv_sub hl [2, 1, 0] rfl) h
set_option maxHeartbeats 4000000 in
set_option maxRecDepth 100000 in
theorem tX2_columnsPrinted (g : tb_GT) (l : Launch) (p : Nat) (hB : tb_B p) (M M' : tb_Mem) (r : Int32) (h : fX2_columnsPrinted p M = some (r, M')) : tb_C g l yX2_columnsPrinted (Cond.code yX2_columnsPrinted cX2_columnsPrinted 3 (some .int)) rmX2_columnsPrinted [.ref (tb_ad g p)] M M' (some (.int r)) := by
  refine tb_entry (by decide) (Nat.le_of_ble_eq_true rfl) ?_
  intro P e s m below meth c F hP hS ls hl
  have F : tb_F g cX2_columnsPrinted 3 RX2 (some .int) (Cond.code yX2_columnsPrinted cX2_columnsPrinted 3 (some .int)) P s m ([.ref (tb_ad g p)] : List Value).toArray meth c := F
  have hx := F.1.1
  have hb := F.1.2.1
  have hl : lv_has ls 3 [(0, .ref (tb_ad g p))] := hl
  unfold fX2_columnsPrinted at h
  refine lv_iconst (v := 0) hx hb dX2_columnsPrinted_0 (by decide) ?_
  refine lv_istore_n (lv' := [(1, .int 0), (0, .ref (tb_ad g p))]) hx hb dX2_columnsPrinted_1 rfl hl (by decide) rfl (fun ls hl => ?_)
  refine lv_iconst (v := 0) hx hb dX2_columnsPrinted_2 (by decide) ?_
  refine lv_istore_n (lv' := [(2, .int 0), (1, .int 0), (0, .ref (tb_ad g p))]) hx hb dX2_columnsPrinted_3 rfl hl (by decide) rfl (fun ls hl => ?_)
  exact tX2_columnsPrinted_L4 p hB F tb_N 0 0 M _ _ _ hP hS (lv_sub hl [2, 1, 0] rfl) h
end

/-! the memory of a new class and a new reference -/
theorem cb_inv : Inv cb_M0 := by
  have z : ∀ q k, (q < 263 ∨ 279 ≤ q ∨ q % 2 = 0) → q ≠ 298 → cb_M0 q k = 0 := fun q k h1 h2 => by rw [cb_M0z h1 h2]
  have n0 : (0 : Int32) = nI 0 := rfl
  refine ⟨⟨fun _ _ => 0, ⟨⟨⟨Nat.zero_le _, fun i hi => absurd hi (Nat.not_lt_zero i), fun i hi => absurd hi (Nat.not_lt_zero i), Nat.zero_le _, fun k _ => Nat.zero_le _⟩, fun i hi => absurd hi (Nat.not_lt_zero i)⟩, ⟨?_, fun i hi => absurd hi (Nat.not_lt_zero i), ?_, ?_, ?_, fun j hj => ?_⟩, ⟨?_, fun i hi => absurd hi (Nat.not_lt_zero i), ?_, fun k hk => ?_⟩, ?_⟩, ⟨0, 0, fun _ _ _ => 0, by omega, by omega, ?_, ?_, ?_, fun j hj => absurd hj (Nat.not_lt_zero j)⟩⟩, fun k hk => Or.inl ⟨?_, ?_⟩, fun r hr => Or.inl ⟨?_, ?_⟩, ⟨0, by omega, ?_, ?_, fun j hj => absurd hj (Nat.not_lt_zero j)⟩, ⟨?_, ?_⟩, ⟨0, by omega, ?_, ?_, fun j hj => absurd hj (Nat.not_lt_zero j)⟩⟩
  · exact z _ _ (by omega) (by omega)
  · intro i hi
    rw [show rws cb_M0 4 0 9 = 0 from z _ _ (by omega) (by omega), b_0]
    simp
  · intro i hi
    rw [show rws cb_M0 4 0 10 = 0 from z _ _ (by omega) (by omega), b_0]
    simp
  · exact z _ _ (by omega) (by omega)
  · exact z _ _ (by omega) (by omega)
  · exact z _ _ (by omega) (by omega)
  · exact z _ _ (by omega) (by omega)
  · exact z _ _ (by omega) (by omega)
  · rw [z 4 12 (by omega) (by omega), z 303 0 (by omega) (by omega)]
  · exact z _ _ (by omega) (by omega)
  · exact z _ _ (by omega) (by omega)
  · exact z _ _ (by omega) (by omega)
  · exact z _ _ (by omega) (by omega)
  · exact z _ _ (by omega) (by omega)
  · rw [cb_M0r (by omega) (by omega) (by omega)]
    rfl
  · unfold cb_M0
    rw [if_neg (by omega), if_pos ⟨rfl, hr⟩]
  · exact z _ _ (by omega) (by omega)
  · exact z _ _ (by omega) (by omega)
  · rw [z 0 8 (by omega) (by omega), z 297 7 (by omega) (by omega)]
  · rw [z 0 9 (by omega) (by omega), z 297 4 (by omega) (by omega)]
  · exact z _ _ (by omega) (by omega)
  · exact z _ _ (by omega) (by omega)
theorem and31 (x : Int32) : ∃ j, j < 32 ∧ x &&& 31 = nI j := by
  refine ⟨(x.toBitVec &&& 31#32).toNat, ?_, ?_⟩
  · rw [BitVec.toNat_and]
    exact Nat.lt_of_le_of_lt Nat.and_le_right (by decide)
  · apply Int32.toBitVec_inj.mp
    rw [Int32.toBitVec_and]
    show _ = BitVec.ofNat 32 _
    rw [BitVec.ofNat_toNat]
    simp

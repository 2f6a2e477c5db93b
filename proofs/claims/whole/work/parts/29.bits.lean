theorem or_nI (a b : Nat) : nI a ||| nI b = nI (a ||| b) := by
  apply Int32.toBitVec_inj.1
  show BitVec.ofNat 32 a ||| BitVec.ofNat 32 b = BitVec.ofNat 32 (a ||| b)
  apply BitVec.eq_of_getLsbD_eq
  intro i hi
  simp [hi]
theorem bit_set (n j i : Nat) : (n ||| 2 ^ j).testBit i = (n.testBit i || decide (i = j)) := by
  rw [Nat.testBit_or]
  by_cases h : j = i
  · subst h; simp
  · have h2 : ¬ i = j := fun e => h e.symm
    first | (simp [Nat.testBit_two_pow, h, h2]; done) | (simp [Nat.testBit_two_pow_of_ne h, h2]; done)
theorem shl1 : ∀ i, i < 31 → (1 : Int32) <<< (nI i &&& 31) = nI (2 ^ i) := by decide +kernel
/-- an int whose bits are just those -/
def isBits (x : Int32) (P : Nat → Prop) : Prop := ∃ a, a < 2 ^ 31 ∧ x = nI a ∧ ∀ i, a.testBit i = true ↔ P i
theorem isBits.uniq {x y : Int32} {P Q : Nat → Prop} (h1 : isBits x P) (h2 : isBits y Q) (h : ∀ i, P i ↔ Q i) : x = y := by
  obtain ⟨a, -, rfl, ha⟩ := h1
  obtain ⟨b, -, rfl, hb⟩ := h2
  have : a = b := by
    apply Nat.eq_of_testBit_eq
    intro i
    rw [Bool.eq_iff_iff, ha i, hb i]
    exact h i
  rw [this]
theorem isBits.to {x : Int32} {P Q : Nat → Prop} (h1 : isBits x P) (h : ∀ i, P i ↔ Q i) : isBits x Q := by
  obtain ⟨a, a1, a2, a3⟩ := h1
  exact ⟨a, a1, a2, fun i => (a3 i).trans (h i)⟩
theorem isBits.zero : isBits 0 (fun _ => False) := ⟨0, by decide, rfl, fun i => by simp⟩
theorem isBits.or {x : Int32} {P : Nat → Prop} {k : Nat} (h : isBits x P) (hk : k < 31) : isBits (x ||| (1 <<< (nI k &&& 31))) (fun i => P i ∨ i = k) := by
  obtain ⟨a, a1, rfl, a3⟩ := h
  refine ⟨a ||| 2 ^ k, Nat.or_lt_two_pow a1 (Nat.pow_lt_pow_right (by decide) hk), ?_, fun i => ?_⟩
  · rw [shl1 k hk, or_nI]
  · rw [bit_set, Bool.or_eq_true, a3 i, decide_eq_true_eq]
theorem isBits.or2 {x : Int32} {P : Nat → Prop} {k j : Nat} (h : isBits x P) (hk : k < 31) (hj : j < 31) : isBits (x ||| ((1 <<< (nI k &&& 31)) ||| (1 <<< (nI j &&& 31)))) (fun i => P i ∨ i = k ∨ i = j) := by
  obtain ⟨a, a1, rfl, a3⟩ := h
  refine ⟨(a ||| 2 ^ k) ||| 2 ^ j, Nat.or_lt_two_pow (Nat.or_lt_two_pow a1 (Nat.pow_lt_pow_right (by decide) hk)) (Nat.pow_lt_pow_right (by decide) hj), ?_, fun i => ?_⟩
  · rw [shl1 k hk, shl1 j hj, or_nI, or_nI, Nat.or_assoc]
  · rw [bit_set, bit_set, Bool.or_eq_true, Bool.or_eq_true, a3 i, decide_eq_true_eq, decide_eq_true_eq, or_assoc]
theorem isBits.getU {x : Int32} {P : Nat → Prop} {k : Nat} (h : isBits x P) (hk : k < 31) : (P k → (x.toUInt32 >>> ((nI k).toUInt32 &&& Int32.toUInt32 31)).toInt32 &&& 1 = 1) ∧ (¬ P k → (x.toUInt32 >>> ((nI k).toUInt32 &&& Int32.toUInt32 31)).toInt32 &&& 1 = 0) := by
  obtain ⟨a, a1, rfl, a3⟩ := h
  rw [vow_u a1 (by omega)]
  refine ⟨fun q => ?_, fun q => ?_⟩
  · rw [if_pos ((a3 k).mpr q)]; rfl
  · rw [if_neg (fun z => q ((a3 k).mp z))]; rfl
theorem isBits.getS {x : Int32} {P : Nat → Prop} {k : Nat} (h : isBits x P) (hk : k < 31) : (P k → (x >>> (nI k &&& 31)) &&& 1 = 1) ∧ (¬ P k → (x >>> (nI k &&& 31)) &&& 1 = 0) := by
  obtain ⟨a, a1, rfl, a3⟩ := h
  rw [vow_s a1 (by omega)]
  refine ⟨fun q => ?_, fun q => ?_⟩
  · rw [if_pos ((a3 k).mpr q)]; rfl
  · rw [if_neg (fun z => q ((a3 k).mp z))]; rfl

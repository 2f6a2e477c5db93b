def NWS : List (String × Nat × MethodName × String) := [("AfterEachVowel", 9, ⟨"AfterEachVowel$State", "<init>", "()V"⟩, "AfterEachVowel"), ("AfterEachVowel$State", 39, ⟨"AfterEachVowel$Row", "<init>", "()V"⟩, "AfterEachVowel"), ("AfterEachVowel", 27, ⟨"AfterEachVowel$Tape", "<init>", "()V"⟩, "AfterEachVowel"), ("AfterEachVowel", 34, ⟨"AfterEachVowel$Parser", "<init>", "()V"⟩, "AfterEachVowel"), ("AfterEachVowel$Sayings", 17, ⟨"AfterEachVowel$Saying", "<init>", "()V"⟩, "AfterEachVowel"), ("AfterEachVowel", 54, ⟨"AfterEachVowel$Saying", "<init>", "()V"⟩, "AfterEachVowel"), ("AfterEachVowel", 61, ⟨"AfterEachVowel$Row", "<init>", "()V"⟩, "AfterEachVowel"), ("AfterEachVowel", 68, ⟨"AfterEachVowel$Judge", "<init>", "()V"⟩, "AfterEachVowel"), ("AfterEachVowel$Orders", 19, ⟨"AfterEachVowel$Row", "<init>", "()V"⟩, "AfterEachVowel"), ("AfterEachVowel$Orders", 26, ⟨"AfterEachVowel$Judge", "<init>", "()V"⟩, "AfterEachVowel"), ("AfterEachVowel", 80, ⟨"AfterEachVowel$Text", "<init>", "()V"⟩, "AfterEachVowel"), ("AfterEachVowel", 81, ⟨"AfterEachVowel$Sheet", "<init>", "()V"⟩, "AfterEachVowel"), ("AfterEachVowel$Sheet", 38, ⟨"AfterEachVowel", "isLetter", "(I)Z"⟩, "AfterEachVowel"), ("AfterEachVowel$State", 73, ⟨"AfterEachVowel", "isWithin", "(II)Z"⟩, "AfterEachVowel"), ("AfterEachVowel$State", 77, ⟨"AfterEachVowel", "isLetter", "(I)Z"⟩, "AfterEachVowel")]
def SRF : List (Nat × Nat × String × Nat) := [(10, 82, "hard long + vowels ; hides rules * 5 ; minds weight ;", 0), (8, 71, "long", 1), (8, 73, "vowels", 2), (8, 75, "rules", 3), (8, 77, "number", 4), (8, 79, "word", 5), (8, 81, "weight", 6), (8, 83, "hard", 7), (8, 85, "hides", 8), (8, 87, "minds", 9), (8, 89, "or", 10), (8, 91, "and", 11), (8, 93, "not", 12), (8, 48, "();+-*<=", 13)]
def SLN : List Nat := [53, 4, 6, 5, 6, 4, 6, 4, 5, 5, 2, 3, 3, 8]
def SBY : List (List Int32) := [[104, 97, 114, 100, 32, 108, 111, 110, 103, 32, 43, 32, 118, 111, 119, 101, 108, 115, 32, 59, 32, 104, 105, 100, 101, 115, 32, 114, 117, 108, 101, 115, 32, 42, 32, 53, 32, 59, 32, 109, 105, 110, 100, 115, 32, 119, 101, 105, 103, 104, 116, 32, 59], [108, 111, 110, 103], [118, 111, 119, 101, 108, 115], [114, 117, 108, 101, 115], [110, 117, 109, 98, 101, 114], [119, 111, 114, 100], [119, 101, 105, 103, 104, 116], [104, 97, 114, 100], [104, 105, 100, 101, 115], [109, 105, 110, 100, 115], [111, 114], [97, 110, 100], [110, 111, 116], [40, 41, 59, 43, 45, 42, 60, 61]]
def UND : List Int32 := [-1, 0, 0, 1, 2, 0]
/-- nest words hold; strings, statics and the script lie outside the world and are as they were -/
def KS (X : XT) (U : State) (H : Heap) : Prop :=
  (∀ q ∈ NWS, va_Nw (.methodLinkNest q.1 q.2.1 q.2.2.1 q.2.2.2) U) ∧ (∀ q ∈ SRF, vk_R (Rn q.1) q.2.1 q.2.2.1 (xa X q.2.2.2) U) ∧
  vk_S 14 SLN SBY (xa X) (fun k => xa X (200 + k)) (xA X) U H ∧
  va_Z "java/lang/String" "COMPACT_STRINGS" "Z" (.int 1) (xA X) U H ∧ va_Zq "jdk/internal/util/Preconditions" "SIOOBE_FORMATTER" "Ljava/util/function/BiFunction;" (xA X) U H ∧
  va_Z RX10 "UNDER" "[I" (.ref (xa X 100)) (xA X) U H ∧ va_T .int (xa X 100) 6 (fun j => .int (UND.getD j 0)) (xA X) U H ∧
  va_X (xa X 101) X.2.2.2.2.2.1 X.2.2.2.2.2.2 U H ∧ xa X 101 < xb X
theorem KS.go {X : XT} {s U : State} {H H1 : Heap} (h : KS X s H) (hW : s.WarmedH U.vm) (hb : xb X ≤ H.size) (hq : ∀ a : Nat, a < H.size → ¬ xA X a → H1[a]? = H[a]?) : KS X U H1 := by
  obtain ⟨h1, h2, h3, h4, h5, h6, h7, h8, h9⟩ := h
  have hvm := hW.alike
  refine ⟨fun q hq => (h1 q hq).warmM hW, fun q hq => (h2 q hq).warm hW, (h3.moved hvm).kept hq, (h4.moved hvm).kept hq, ?_, (h6.moved hvm).kept hq, (h7.moved hvm).kept hq, (h8.moved hvm).kept (hq _ (by omega) (Nat.not_le.mpr h9)), h9⟩
  rcases h5 with h5 | ⟨t, h5⟩
  · exact Or.inl ((h5.moved hvm).kept hq)
  · exact Or.inr ⟨t, (h5.moved hvm).kept hq⟩


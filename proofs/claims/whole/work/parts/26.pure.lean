-- ===== numbers, bits, letters: pure =====
section
variable {G : GG} {pc : Nat}
theorem AW.fg {ls st : List AV} {m : Mem} (k : Nat) (h : AW G pc (ls.set k vU) st m) : AW G pc ls st m := by
  intro hl hol hos p e s mid args below meth co C H locs la hPw hS hL
  refine h (by rw [List.length_set]; exact hl) (okl_set hol okv_U) hos p e s mid args below meth co C H locs la hPw hS ?_
  refine ⟨hL.1.trans (by rw [List.length_set]), hL.2.1, fun j v hj hu => ?_⟩
  rw [List.getElem?_set] at hj
  by_cases e : k = j
  · subst e
    rw [if_pos rfl] at hj
    split at hj
    · cases hj; cases hu
    · cases hj
  · rw [if_neg e] at hj
    exact hL.2.2 j v hj hu
theorem AW.loop {σ : Type} (n : Nat) (L : Nat → σ → List AV) (M : Nat → σ → Mem → Prop) (hs : ∀ (i : Nat) (s : σ) (m : Mem), i ≤ n → M i s m → (∀ (s' : σ) (m' : Mem), i < n → M (i + 1) s' m' → AW G pc (L (i + 1) s') [] m') → AW G pc (L i s) [] m) : ∀ (i : Nat) (s : σ) (m : Mem), i ≤ n → M i s m → AW G pc (L i s) [] m := by
  have key : ∀ (k i : Nat) (s : σ) (m : Mem), i + k = n → M i s m → AW G pc (L i s) [] m := by
    intro k
    induction k with
    | zero => intro i s m hi hM; exact hs i s m (by omega) hM (fun s' m' h => absurd h (by omega))
    | succ k ih => intro i s m hi hM; exact hs i s m (by omega) hM (fun s' m' _ hM' => ih (i + 1) s' m' (by omega) hM')
  intro i s m hi hM
  exact key (n - i) i s m (by omega) hM
theorem AW.wf {σ : Type} (μ : σ → Nat) (L : σ → List AV) (M : σ → Mem → Prop) (hs : ∀ (s : σ) (m : Mem), M s m → (∀ (s' : σ) (m' : Mem), μ s' < μ s → M s' m' → AW G pc (L s') [] m') → AW G pc (L s) [] m) : ∀ (s : σ) (m : Mem), M s m → AW G pc (L s) [] m := by
  have key : ∀ (k : Nat) (s : σ) (m : Mem), μ s < k → M s m → AW G pc (L s) [] m := by
    intro k
    induction k with
    | zero => intro s m h; exact absurd h (Nat.not_lt_zero _)
    | succ k ih => intro s m h hM; exact hs s m hM (fun s' m' h' hM' => ih s' m' (by omega) hM')
  intro s m hM
  exact key (μ s + 1) s m (Nat.lt_succ_self _) hM
end
theorem nI_m1 {n : Nat} (h : n < 2 ^ 31) : ¬ nI n = -1 := by
  intro e
  have h1 := congrArg Int32.toInt e
  rw [nI_toInt h] at h1
  have : (-1 : Int32).toInt = -1 := rfl
  omega
theorem pk_rem' {a : Nat} (ha : a < 2 ^ 31) : nI a - nI a / 26 * 26 = nI (a % 26) := pk_rem (d := 26) ha (by decide) (by decide)
theorem rem26 {a b : Nat} (ha : a < 2 ^ 30) (hb : b < 2 ^ 30) : nI a + nI b - (nI a + nI b) / 26 * 26 = nI ((a + b) % 26) := by
  rw [nI_add]
  exact pk_rem' (by omega)
theorem sh_k : ∀ c, c < 32 → (((nI c).toUInt32 &&& Int32.toUInt32 31).toBitVec % 32).toNat = c := by decide +kernel
theorem vow_u {V c : Nat} (hV : V < 2 ^ 31) (hc : c < 32) : ((nI V).toUInt32 >>> ((nI c).toUInt32 &&& Int32.toUInt32 31)).toInt32 &&& 1 = nI (if V.testBit c then 1 else 0) := by
  rw [pk_ushrN (by omega) (nI c) c (sh_k c hc), pk_andN (Nat.lt_of_le_of_lt (Nat.div_le_self _ _) (by omega)) 1 (by decide), Nat.testBit_eq_decide_div_mod_eq]
  have : V / 2 ^ c % 2 = 0 ∨ V / 2 ^ c % 2 = 1 := by omega
  rcases this with h | h <;> simp [h]
theorem sh_k2 : ∀ c, c < 32 → (((nI c) &&& 31).toBitVec.smod 32).toNat = c := by decide +kernel
theorem vow_s {V c : Nat} (hV : V < 2 ^ 31) (hc : c < 32) : (nI V >>> (nI c &&& 31)) &&& 1 = nI (if V.testBit c then 1 else 0) := by
  rw [pk_shrN hV (nI c &&& 31) c (sh_k2 c hc), pk_andN (Nat.lt_of_le_of_lt (Nat.div_le_self _ _) (by omega)) 1 (by decide), Nat.testBit_eq_decide_div_mod_eq]
  have : V / 2 ^ c % 2 = 0 ∨ V / 2 ^ c % 2 = 1 := by omega
  rcases this with h | h <;> simp [h]
/-- a row of ints holds these numbers -/
def RLn (g : Nat → Int32) (xs : List Nat) : Prop := ∀ (k x : Nat), xs[k]? = some x → g k = nI x
def GL (xs : List Nat) : Prop := ∀ x ∈ xs, x < 26
/-- a Saying: too long, or these letters -/
def RY (m : Mem) (h : Nat) (o : Option (List Nat)) : Prop := match o with
  | none => m h 1 = -1
  | some xs => m h 1 = nI xs.length ∧ RLn (m (h + 1)) xs
def vcnt (V : Nat) (xs : List Nat) : Nat := xs.countP (fun c => V.testBit c)
def insA (V l : Nat) (xs : List Nat) : List Nat := xs.flatMap (fun c => if V.testBit c then [c, l] else [c])
def shf (n : Nat) (xs : List Nat) : List Nat := xs.map (fun c => (c + n) % 26)
def shV (V n : Nat) (xs : List Nat) : List Nat := xs.map (fun c => if V.testBit c then (c + n) % 26 else c)
def lim (xs : List Nat) : Option (List Nat) := if xs.length ≤ 40 then some xs else none
def turnL (V k l n : Nat) (xs : List Nat) : Option (List Nat) := match k with
  | 1 => lim (insA V l xs)
  | 2 => some (shf n xs)
  | 3 => lim (insA V l xs ++ (insA V l xs).take 1)
  | 4 => some (shV V n xs)
  | 5 => some xs.reverse
  | _ => some xs
theorem vcnt_take {V i x : Nat} {xs : List Nat} (h : xs[i]? = some x) : vcnt V (xs.take (i + 1)) = vcnt V (xs.take i) + (if V.testBit x then 1 else 0) := by
  unfold vcnt
  rw [List.take_add_one, h, List.countP_append]
  by_cases hx : V.testBit x = true <;> simp [hx]
theorem vcnt_le {V : Nat} (xs : List Nat) : vcnt V xs ≤ xs.length := List.countP_le_length
theorem insA_len {V l : Nat} (xs : List Nat) : (insA V l xs).length = xs.length + vcnt V xs := by
  unfold insA vcnt
  induction xs with
  | nil => rfl
  | cons a r ih =>
    rw [List.flatMap_cons, List.length_append, ih, List.countP_cons]
    by_cases h : V.testBit a = true <;> simp [h] <;> omega
theorem insA_gl {V l : Nat} {xs : List Nat} (h : GL xs) (hl : l < 26) : GL (insA V l xs) := by
  intro x hx
  obtain ⟨c, hc, hx⟩ := List.mem_flatMap.mp hx
  by_cases hv : V.testBit c = true
  · simp only [hv, if_true, List.mem_cons, List.not_mem_nil, or_false] at hx
    rcases hx with rfl | rfl
    · exact h _ hc
    · exact hl
  · simp only [hv, List.mem_singleton] at hx
    simp at hx
    rw [hx]
    exact h _ hc
theorem shf_gl {n : Nat} {xs : List Nat} : GL (shf n xs) := by
  intro x hx
  obtain ⟨c, -, rfl⟩ := List.mem_map.mp hx
  exact Nat.mod_lt _ (by decide)
theorem shV_gl {V n : Nat} {xs : List Nat} (h : GL xs) : GL (shV V n xs) := by
  intro x hx
  obtain ⟨c, hc, rfl⟩ := List.mem_map.mp hx
  split
  · exact Nat.mod_lt _ (by decide)
  · exact h _ hc
theorem turnL_gl {V k l n : Nat} {xs ys : List Nat} (h : GL xs) (hl : l < 26) (e : turnL V k l n xs = some ys) : GL ys := by
  unfold turnL at e
  split at e
  · unfold lim at e
    split at e
    · cases e; exact insA_gl h hl
    · cases e
  · cases e; exact shf_gl
  · unfold lim at e
    split at e
    · cases e
      intro x hx
      rcases List.mem_append.mp hx with q | q
      · exact insA_gl h hl x q
      · exact insA_gl h hl x (List.mem_of_mem_take q)
    · cases e
  · cases e; exact shV_gl h
  · cases e; intro x hx; exact h x (List.mem_reverse.mp hx)
  · cases e; exact h
theorem turnL_len {V k l n : Nat} {xs ys : List Nat} (h : xs.length ≤ 40) (e : turnL V k l n xs = some ys) : xs.length ≤ ys.length ∧ ys.length ≤ 40 := by
  unfold turnL at e
  split at e
  · unfold lim at e
    split at e
    · cases e
      rename_i h2
      rw [insA_len] at h2
      constructor
      · rw [insA_len]; omega
      · rw [insA_len]; omega
    · cases e
  · cases e; simp [shf, h]
  · unfold lim at e
    split at e
    · cases e
      rename_i h2
      constructor
      · rw [List.length_append, insA_len]; omega
      · exact h2
    · cases e
  · cases e; simp [shV, h]
  · cases e; simp [h]
  · cases e; exact ⟨Nat.le_refl _, h⟩

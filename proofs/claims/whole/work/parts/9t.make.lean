-- ===== cells that are being made: the constructors =====
abbrev RV : Type := Option (Int32 ⊕ Nat)
/-- an object (class, fields), an array of numbers (kind, length, what was written), an array of references -/
abbrev CE : Type := (Nat × List RV) ⊕ (Nat × Nat × (List (Nat × Int32) ⊕ List (Option Nat)))
def upsF (u : List (Nat × Int32)) : Nat → Int32 := match u with
  | [] => fun _ => 0
  | q :: r => upd (upsF r) q.1 q.2
def rvV (X : XT) (v : RV) : Value := match v with
  | none => .null
  | some (.inl x) => .int x
  | some (.inr i) => .ref (xb X + i)
def refF (X : XT) (l : List (Option Nat)) (i : Nat) : Option Nat := (l.getD i none).map (fun j => xb X + j)
def rcE (X : XT) (c : CE) : va_E := match c with
  | .inl q => .inr (q.1, q.2.map (rvV X))
  | .inr (k, n, .inl u) => .inl (xc X k, n, .inl (upsF u))
  | .inr (t, n, .inr l) => .inl (xc X t, n, .inr (.inr (.inr (.inr (refF X l)))))
def wsL (X : XT) (L : List CE) : va_W := L.mapIdx (fun i c => (xb X + i, rcE X c))
theorem wsL_at (X : XT) (L : List CE) (k : Nat) : (wsL X L)[k]? = (L[k]?).map (fun c => (xb X + k, rcE X c)) := by
  unfold wsL
  rw [List.getElem?_mapIdx]
theorem wsL_get {X : XT} {L : List CE} {h : Nat} {c : CE} (hc : L[h]? = some c) : (wsL X L)[h]? = some (xb X + h, rcE X c) := by
  rw [wsL_at, hc]
  rfl
theorem wsL_inv {X : XT} {L : List CE} {k : Nat} {q : Nat × va_E} (h : (wsL X L)[k]? = some q) : ∃ c, L[k]? = some c ∧ q = (xb X + k, rcE X c) := by
  rw [wsL_at] at h
  cases hc : L[k]? with
  | none => rw [hc] at h; cases h
  | some c => rw [hc] at h; cases h; exact ⟨c, rfl, rfl⟩
theorem wsL_set (X : XT) (L : List CE) (h : Nat) (c : CE) : (wsL X L).set h (xb X + h, rcE X c) = wsL X (L.set h c) := by
  apply List.ext_getElem?
  intro j
  rw [wsL_at, List.getElem?_set, List.getElem?_set, wsL_at]
  have hlen : (wsL X L).length = L.length := by unfold wsL; simp
  rw [hlen]
  by_cases e : h = j
  · subst e
    rw [if_pos rfl, if_pos rfl]
    by_cases hl : h < L.length
    · rw [if_pos hl, if_pos hl]; rfl
    · rw [if_neg hl, if_neg hl]; rfl
  · rw [if_neg e, if_neg e]
theorem wsL_D (X : XT) (L : List CE) : va_D (xA X) (wsL X L) := by
  refine ⟨fun i j p q hp hq e => ?_, fun k q hq => ?_⟩
  · obtain ⟨c, -, rfl⟩ := wsL_inv hp
    obtain ⟨d, -, rfl⟩ := wsL_inv hq
    have e : xb X + i = xb X + j := e
    omega
  · obtain ⟨c, -, rfl⟩ := wsL_inv hq
    exact Nat.le_add_right _ _
theorem wsL_lt {X : XT} {L : List CE} {k : Nat} {q : Nat × va_E} (h : (wsL X L)[k]? = some q) : q.1 < xb X + L.length := by
  obtain ⟨c, hc, rfl⟩ := wsL_inv h
  have := (List.getElem?_eq_some_iff.mp hc).1
  show xb X + k < _
  omega
/-- one cell more, at the heap's end -/
theorem wsL_push {X : XT} {L : List CE} {c : CE} {H H1 : Heap} (hP : va_P (xD X) vwCl (wsL X L) H) (hz : H.size = xb X + L.length) (ho : ∀ q, q < xb X + L.length → H1[q]? = H[q]?) (hn : va_at (xD X) vwCl (xb X + L.length, rcE X c) H1) : va_P (xD X) vwCl (wsL X (L ++ [c])) H1 := by
  intro k q hq
  obtain ⟨d, hd, rfl⟩ := wsL_inv hq
  by_cases hk : k < L.length
  · rw [List.getElem?_append_left hk] at hd
    have h1 := wsL_get (X := X) hd
    exact (hP k _ h1).kept (ho _ (wsL_lt h1))
  · have hk2 : k - L.length < 1 := by
      rw [List.getElem?_append_right (by omega)] at hd
      exact (List.getElem?_eq_some_iff.mp hd).1
    have e : k = L.length := by omega
    subst e
    rw [List.getElem?_append_right (Nat.le_refl _), Nat.sub_self] at hd
    cases hd
    exact hn
def dfl (ci : Nat) : List RV := (shp (ci + 1)).map (fun q => if q.1 = 0 then some (.inl 0) else none)
def rv0 (v : RV) : Value := match v with
  | some (.inl x) => .int x
  | _ => .null
theorem dfl_V (X : XT) (ci : Nat) : (dfl ci).map (rvV X) = (dfl ci).map rv0 := by
  unfold dfl
  rw [List.map_map, List.map_map]
  refine List.map_congr_left fun q _ => ?_
  show rvV X (if q.1 = 0 then some (.inl 0) else none) = rv0 (if q.1 = 0 then some (.inl 0) else none)
  split <;> rfl
theorem vw_new {ci : Nat} (h : ci < 12) : ∃ (T : u_T) (N : Nat) (ty0 : Nat → FieldType), vwCl[ci]? = some (Rn ci, T, N) ∧ N = (dfl ci).length ∧ (∀ k, k < N → parseFieldDescriptor (T k).2.2.1 = some (ty0 k)) ∧ ∀ j, j < N → defaultValue (ty0 j) = vp_V ((dfl ci).map rv0) j := by
  match ci, h with
  | 0, _ => exact ⟨_, _, _, rfl, by decide +kernel, tyX0_ok, by decide +kernel⟩
  | 1, _ => exact ⟨_, _, _, rfl, by decide +kernel, tyX1_ok, by decide +kernel⟩
  | 2, _ => exact ⟨_, _, _, rfl, by decide +kernel, tyX2_ok, by decide +kernel⟩
  | 3, _ => exact ⟨_, _, _, rfl, by decide +kernel, tyX3_ok, by decide +kernel⟩
  | 4, _ => exact ⟨_, _, _, rfl, by decide +kernel, tyX4_ok, by decide +kernel⟩
  | 5, _ => exact ⟨_, _, _, rfl, by decide +kernel, tyX5_ok, by decide +kernel⟩
  | 6, _ => exact ⟨_, _, _, rfl, by decide +kernel, tyX6_ok, by decide +kernel⟩
  | 7, _ => exact ⟨_, _, _, rfl, by decide +kernel, tyX7_ok, by decide +kernel⟩
  | 8, _ => exact ⟨_, _, _, rfl, by decide +kernel, tyX8_ok, by decide +kernel⟩
  | 9, _ => exact ⟨_, _, _, rfl, by decide +kernel, tyX9_ok, by decide +kernel⟩
  | 10, _ => exact ⟨_, _, _, rfl, by decide +kernel, tyX10_ok, by decide +kernel⟩
  | 11, _ => exact ⟨_, _, _, rfl, by decide +kernel, tyX11_ok, by decide +kernel⟩
  | k + 12, h => exact absurd h (by omega)
def AOC : List Nat := [9, 6, 4, 5]
def AOI (X : XT) (U : State) : Prop := ∃ kA : Class, U.vm.classes[xc X 24]? = some kA ∧ kA.kind = .array (xc X 0) (.array .int)
/-- what a constructor knows of the tables -/
def KBt (X : XT) (U : State) : Prop := va_K (xD X) vwCl (tysOf X) U ∧ (∀ q ∈ NWS, va_Nw (.methodLinkNest q.1 q.2.1 q.2.2.1 q.2.2.2) U) ∧ (∀ C ∈ AOC, va_AO (Rn C) U) ∧ AOI X U
theorem KBt.go {X : XT} {s U : State} (h : KBt X s) (hW : s.WarmedH U.vm) : KBt X U := by
  obtain ⟨h1, h2, h3, kA, h4, h5⟩ := h
  obtain ⟨k', hk', he⟩ := hW.alike.2.2 _ _ h4
  exact ⟨va_K.moved hW.alike h1, fun q hq => (h2 q hq).warmM hW, fun C hC => (h3 C hC).moved hW.alike, k', hk', by rw [he]; exact h5⟩
def BCx (X : XT) (μ : MI) (p : Program) (s : State) (mid : MethodId) (args : Array Value) (meth : Method) (c : Code) : Prop :=
  p.tables.exec = Jvm.exec ∧ c.code = μ.2.1 ∧ meth.sig.returnType = μ.2.2.2.1 ∧ c.maxLocals = μ.2.2.1 ∧ s.vm.findClass (Rn μ.2.2.2.2.1) = some mid.cls ∧ (∀ w ∈ GT, w.before args s = true) ∧ meth.locks = false ∧ KBt X s ∧ meth.name = "<init>" ∧ xb X ≤ s.heap.size ∧ okP μ.2.2.2.2.1 μ.2.1 μ.2.2.2.2.2 = true
/-- a constructor's walk: its object is the first cell of L, all cells from there on are L's -/
def BW (l : Launch) (X : XT) (R : Room) (μ : MI) (Z : List Frame → Array Value → State → State → Prop) (pc : Nat) (ls st : List AV) (L : List CE) (cs ss : Nat) : Prop :=
  ls.length = μ.2.2.1 → ∀ (p : Program) (e : Env) (s : State) (mid : MethodId) (args : Array Value) (below : List Frame) (meth : Method) (c : Code), BCx X μ p s mid args meth c →
    ∀ (H : Heap) (locs : List Loc) (la : Array Slot), va_P (xD X) vwCl (wsL X L) H → H.size = xb X + L.length → s.heap.size + cs = xb X + L.length → va_S (xA X) s.heap H locs → lRep X ls la →
      W p l e R s mid args below meth c H locs cs ss (Z below args s) (F0 mid pc la (st.map (cv X)))
theorem W_size {p : Program} {l : Launch} {e : Env} {R : Room} {s : State} {m : MethodId} {args : Array Value} {below : List Frame} {meth : Method} {c : Code} {H : Heap} {locs : List Loc} {cells slots : Nat} {Q : State → Prop} {g : JFrame} (k : H.size ≤ s.heap.size + cells → W p l e R s m args below meth c H locs cells slots Q g) : W p l e R s m args below meth c H locs cells slots Q g := fun T hT X => k (by rw [← hT]; exact X.heapSize) T hT X
theorem hz_of {X : XT} {L : List CE} {H : Heap} {n : Nat} (hP : va_P (xD X) vwCl (wsL X L) H) (hle : H.size ≤ n) (hcs : n = xb X + L.length) (hne : 0 < L.length) : H.size = xb X + L.length := by
  have h1 : L[L.length - 1]? = some (L[L.length - 1]'(by omega)) := List.getElem?_eq_getElem (by omega)
  have h2 := (hP _ _ (wsL_get h1)).lt
  have h2 : xb X + (L.length - 1) < H.size := h2
  omega
/-- new: class, entry, made class, its slots, places of its words -/
def NTB : List (Nat × Nat × Nat × Nat × Nat × Nat × Nat) := [(12, 7, 10, 13, 102, 103, 83), (10, 7, 7, 11, 110, 111, 84), (7, 37, 3, 2, 119, 120, 85), (10, 19, 9, 6, 195, 332, 92), (10, 25, 8, 6, 197, 198, 86), (10, 32, 2, 4, 228, 229, 87), (10, 39, 6, 3, 247, 356, 93), (10, 45, 5, 2, 249, 250, 88), (5, 9, 4, 2, 255, 257, 89), (10, 52, 4, 2, 283, 257, 89), (10, 59, 3, 2, 285, 120, 85), (10, 66, 0, 1, 287, 288, 90), (10, 73, 1, 6, 298, 299, 91), (1, 9, 5, 2, 304, 250, 88), (1, 17, 3, 2, 306, 120, 85), (1, 24, 0, 1, 308, 288, 90), (12, 10, 11, 45, 1227, 1132, 100)]
/-- anewarray: class, entry, type of the array, its members' class, place of its word -/
def ATB : List (Nat × Nat × Nat × Nat × Nat) := [(10, 19, 20, 9, 195), (10, 39, 21, 6, 247), (1, 9, 23, 5, 304), (5, 9, 22, 4, 255)]
def OTB : List (Nat × Nat × Nat) := [(10, 1, 107), (7, 3, 115), (3, 3, 124), (8, 3, 202), (2, 3, 233), (5, 3, 254), (4, 3, 261), (0, 3, 292), (1, 3, 303), (9, 3, 336), (6, 3, 360), (11, 178, 1231)]
/-- constructors' call sites: class, entry, made class, by the nest?, places of its words -/
def CTB : List (Nat × Nat × Nat × Nat × Nat × Nat × Nat × Nat) := [(10, 9, 7, 1, 112, 113, 84, 114), (7, 39, 3, 1, 121, 122, 85, 123), (10, 27, 8, 1, 199, 200, 86, 201), (10, 34, 2, 1, 230, 231, 87, 232), (10, 47, 5, 0, 251, 252, 88, 253), (5, 17, 4, 1, 258, 259, 89, 260), (10, 54, 4, 1, 284, 259, 89, 260), (10, 61, 3, 1, 286, 122, 85, 123), (10, 68, 0, 1, 289, 290, 90, 291), (10, 75, 1, 0, 300, 301, 91, 302), (1, 19, 3, 1, 307, 122, 85, 123), (1, 26, 0, 1, 309, 290, 90, 291), (1, 31, 5, 0, 310, 252, 88, 253), (10, 80, 9, 1, 333, 334, 92, 335), (10, 81, 6, 1, 357, 358, 93, 359)]
def LVL (c : Nat) : Nat := ([0, 2, 0, 0, 0, 1, 0, 1, 0, 0, 3, 0] : List Nat).getD c 9
/-- the cells that a constructor leaves: the object first -/
def CTL (c : Nat) : List CE := match c with
  | 0 => [.inl (0, [some (.inr 1)]), .inr (0, 6, .inl [])]
  | 1 => [.inl (1, [some (.inr 1), some (.inr 2), some (.inr 4), some (.inl 0), some (.inl 0), some (.inl 0)]), .inr (23, 7, .inr [some 6, some 24, some 42, some 60, some 78, some 96, some 114]), .inl (3, [some (.inr 3), some (.inl 0)]), .inr (0, 8, .inl []), .inl (0, [some (.inr 5)]), .inr (0, 6, .inl []), .inl (5, [some (.inr 7), some (.inl 0)]), .inr (22, 8, .inr [some 8, some 10, some 12, some 14, some 16, some 18, some 20, some 22]), .inl (4, [some (.inr 9), some (.inl 0)]), .inr (0, 40, .inl []), .inl (4, [some (.inr 11), some (.inl 0)]), .inr (0, 40, .inl []), .inl (4, [some (.inr 13), some (.inl 0)]), .inr (0, 40, .inl []), .inl (4, [some (.inr 15), some (.inl 0)]), .inr (0, 40, .inl []), .inl (4, [some (.inr 17), some (.inl 0)]), .inr (0, 40, .inl []), .inl (4, [some (.inr 19), some (.inl 0)]), .inr (0, 40, .inl []), .inl (4, [some (.inr 21), some (.inl 0)]), .inr (0, 40, .inl []), .inl (4, [some (.inr 23), some (.inl 0)]), .inr (0, 40, .inl []), .inl (5, [some (.inr 25), some (.inl 0)]), .inr (22, 8, .inr [some 26, some 28, some 30, some 32, some 34, some 36, some 38, some 40]), .inl (4, [some (.inr 27), some (.inl 0)]), .inr (0, 40, .inl []), .inl (4, [some (.inr 29), some (.inl 0)]), .inr (0, 40, .inl []), .inl (4, [some (.inr 31), some (.inl 0)]), .inr (0, 40, .inl []), .inl (4, [some (.inr 33), some (.inl 0)]), .inr (0, 40, .inl []), .inl (4, [some (.inr 35), some (.inl 0)]), .inr (0, 40, .inl []), .inl (4, [some (.inr 37), some (.inl 0)]), .inr (0, 40, .inl []), .inl (4, [some (.inr 39), some (.inl 0)]), .inr (0, 40, .inl []), .inl (4, [some (.inr 41), some (.inl 0)]), .inr (0, 40, .inl []), .inl (5, [some (.inr 43), some (.inl 0)]), .inr (22, 8, .inr [some 44, some 46, some 48, some 50, some 52, some 54, some 56, some 58]), .inl (4, [some (.inr 45), some (.inl 0)]), .inr (0, 40, .inl []), .inl (4, [some (.inr 47), some (.inl 0)]), .inr (0, 40, .inl []), .inl (4, [some (.inr 49), some (.inl 0)]), .inr (0, 40, .inl []), .inl (4, [some (.inr 51), some (.inl 0)]), .inr (0, 40, .inl []), .inl (4, [some (.inr 53), some (.inl 0)]), .inr (0, 40, .inl []), .inl (4, [some (.inr 55), some (.inl 0)]), .inr (0, 40, .inl []), .inl (4, [some (.inr 57), some (.inl 0)]), .inr (0, 40, .inl []), .inl (4, [some (.inr 59), some (.inl 0)]), .inr (0, 40, .inl []), .inl (5, [some (.inr 61), some (.inl 0)]), .inr (22, 8, .inr [some 62, some 64, some 66, some 68, some 70, some 72, some 74, some 76]), .inl (4, [some (.inr 63), some (.inl 0)]), .inr (0, 40, .inl []), .inl (4, [some (.inr 65), some (.inl 0)]), .inr (0, 40, .inl []), .inl (4, [some (.inr 67), some (.inl 0)]), .inr (0, 40, .inl []), .inl (4, [some (.inr 69), some (.inl 0)]), .inr (0, 40, .inl []), .inl (4, [some (.inr 71), some (.inl 0)]), .inr (0, 40, .inl []), .inl (4, [some (.inr 73), some (.inl 0)]), .inr (0, 40, .inl []), .inl (4, [some (.inr 75), some (.inl 0)]), .inr (0, 40, .inl []), .inl (4, [some (.inr 77), some (.inl 0)]), .inr (0, 40, .inl []), .inl (5, [some (.inr 79), some (.inl 0)]), .inr (22, 8, .inr [some 80, some 82, some 84, some 86, some 88, some 90, some 92, some 94]), .inl (4, [some (.inr 81), some (.inl 0)]), .inr (0, 40, .inl []), .inl (4, [some (.inr 83), some (.inl 0)]), .inr (0, 40, .inl []), .inl (4, [some (.inr 85), some (.inl 0)]), .inr (0, 40, .inl []), .inl (4, [some (.inr 87), some (.inl 0)]), .inr (0, 40, .inl []), .inl (4, [some (.inr 89), some (.inl 0)]), .inr (0, 40, .inl []), .inl (4, [some (.inr 91), some (.inl 0)]), .inr (0, 40, .inl []), .inl (4, [some (.inr 93), some (.inl 0)]), .inr (0, 40, .inl []), .inl (4, [some (.inr 95), some (.inl 0)]), .inr (0, 40, .inl []), .inl (5, [some (.inr 97), some (.inl 0)]), .inr (22, 8, .inr [some 98, some 100, some 102, some 104, some 106, some 108, some 110, some 112]), .inl (4, [some (.inr 99), some (.inl 0)]), .inr (0, 40, .inl []), .inl (4, [some (.inr 101), some (.inl 0)]), .inr (0, 40, .inl []), .inl (4, [some (.inr 103), some (.inl 0)]), .inr (0, 40, .inl []), .inl (4, [some (.inr 105), some (.inl 0)]), .inr (0, 40, .inl []), .inl (4, [some (.inr 107), some (.inl 0)]), .inr (0, 40, .inl []), .inl (4, [some (.inr 109), some (.inl 0)]), .inr (0, 40, .inl []), .inl (4, [some (.inr 111), some (.inl 0)]), .inr (0, 40, .inl []), .inl (4, [some (.inr 113), some (.inl 0)]), .inr (0, 40, .inl []), .inl (5, [some (.inr 115), some (.inl 0)]), .inr (22, 8, .inr [some 116, some 118, some 120, some 122, some 124, some 126, some 128, some 130]), .inl (4, [some (.inr 117), some (.inl 0)]), .inr (0, 40, .inl []), .inl (4, [some (.inr 119), some (.inl 0)]), .inr (0, 40, .inl []), .inl (4, [some (.inr 121), some (.inl 0)]), .inr (0, 40, .inl []), .inl (4, [some (.inr 123), some (.inl 0)]), .inr (0, 40, .inl []), .inl (4, [some (.inr 125), some (.inl 0)]), .inr (0, 40, .inl []), .inl (4, [some (.inr 127), some (.inl 0)]), .inr (0, 40, .inl []), .inl (4, [some (.inr 129), some (.inl 0)]), .inr (0, 40, .inl []), .inl (4, [some (.inr 131), some (.inl 0)]), .inr (0, 40, .inl [])]
  | 2 => [.inl (2, [none, none, some (.inl 0), some (.inl 0)])]
  | 3 => [.inl (3, [some (.inr 1), some (.inl 0)]), .inr (0, 8, .inl [])]
  | 4 => [.inl (4, [some (.inr 1), some (.inl 0)]), .inr (0, 40, .inl [])]
  | 5 => [.inl (5, [some (.inr 1), some (.inl 0)]), .inr (22, 8, .inr [some 2, some 4, some 6, some 8, some 10, some 12, some 14, some 16]), .inl (4, [some (.inr 3), some (.inl 0)]), .inr (0, 40, .inl []), .inl (4, [some (.inr 5), some (.inl 0)]), .inr (0, 40, .inl []), .inl (4, [some (.inr 7), some (.inl 0)]), .inr (0, 40, .inl []), .inl (4, [some (.inr 9), some (.inl 0)]), .inr (0, 40, .inl []), .inl (4, [some (.inr 11), some (.inl 0)]), .inr (0, 40, .inl []), .inl (4, [some (.inr 13), some (.inl 0)]), .inr (0, 40, .inl []), .inl (4, [some (.inr 15), some (.inl 0)]), .inr (0, 40, .inl []), .inl (4, [some (.inr 17), some (.inl 0)]), .inr (0, 40, .inl [])]
  | 6 => [.inl (6, [some (.inr 1), some (.inl (-1)), some (.inl 0)]), .inr (0, 40, .inl [])]
  | 7 => [.inl (7, [some (.inl 1065233), some (.inr 1), some (.inr 10), some (.inr 11), some (.inl 0), some (.inr 12), some (.inr 13), some (.inr 14), some (.inl 0), some (.inr 15), some (.inl 0)]), .inr (24, 8, .inr [some 2, some 3, some 4, some 5, some 6, some 7, some 8, some 9]), .inr (0, 10, .inl []), .inr (0, 10, .inl []), .inr (0, 10, .inl []), .inr (0, 10, .inl []), .inr (0, 10, .inl []), .inr (0, 10, .inl []), .inr (0, 10, .inl []), .inr (0, 10, .inl []), .inr (0, 8, .inl []), .inr (0, 8, .inl []), .inr (0, 6, .inl []), .inr (0, 6, .inl []), .inr (0, 6, .inl []), .inl (3, [some (.inr 16), some (.inl 0)]), .inr (0, 8, .inl [])]
  | 8 => [.inl (8, [some (.inr 1), some (.inl 0), some (.inr 2), some (.inr 3), some (.inr 4), some (.inl 0)]), .inr (0, 160, .inl []), .inr (0, 161, .inl []), .inr (0, 161, .inl []), .inr (0, 161, .inl [])]
  | 9 => [.inl (9, [some (.inr 1), some (.inr 2), some (.inr 3), some (.inr 4), some (.inr 5), some (.inl 0)]), .inr (0, 160, .inl []), .inr (0, 160, .inl []), .inr (0, 160, .inl []), .inr (0, 160, .inl []), .inr (0, 3, .inl [])]
  | 11 => [.inl (11, [some (.inl 1065233), some (.inl 0), some (.inr 1), some (.inr 2), some (.inr 3), some (.inl 0), some (.inr 4), some (.inr 5), some (.inr 6), some (.inl 0), some (.inr 7), some (.inr 8), some (.inl 0), some (.inl 1), some (.inl 0), some (.inr 9), some (.inr 10), some (.inl 0), some (.inl 0), some (.inl 0), some (.inl 0), some (.inr 11), some (.inr 12), some (.inr 13), some (.inl 0), some (.inl 0), some (.inl 0), some (.inr 14), some (.inl 0), some (.inl 0), some (.inr 15), some (.inr 16), some (.inr 17), some (.inr 18), some (.inr 19), some (.inr 20), some (.inl 0), some (.inr 21), some (.inl 0), some (.inl 0), some (.inr 22), some (.inr 23), some (.inr 24), some (.inr 25), some (.inr 26)]), .inr (0, 80, .inl []), .inr (0, 8, .inl []), .inr (0, 8, .inl []), .inr (0, 6, .inl []), .inr (0, 6, .inl []), .inr (0, 6, .inl []), .inr (0, 8, .inl []), .inr (0, 160, .inl []), .inr (0, 2880, .inl [(320, 5), (162, 17), (161, (-6)), (160, 2), (2, 15), (1, 1), (0, 0)]), .inr (0, 18, .inl [(2, 1), (1, 3), (0, 3)]), .inr (2, 53, .inl [(52, 116), (51, 111), (50, 110), (49, 100), (48, 110), (47, 97), (46, 114), (45, 111), (44, 115), (43, 100), (42, 110), (41, 105), (40, 109), (39, 115), (38, 101), (37, 100), (36, 105), (35, 104), (34, 100), (33, 114), (32, 97), (31, 104), (30, 116), (29, 104), (28, 103), (27, 105), (26, 101), (25, 119), (24, 100), (23, 114), (22, 111), (21, 119), (20, 114), (19, 101), (18, 98), (17, 109), (16, 117), (15, 110), (14, 115), (13, 101), (12, 108), (11, 117), (10, 114), (9, 115), (8, 108), (7, 101), (6, 119), (5, 111), (4, 118), (3, 103), (2, 110), (1, 111), (0, 108)]), .inr (0, 13, .inl [(12, 53), (11, 50), (10, 47), (9, 45), (8, 40), (7, 35), (6, 31), (5, 25), (4, 21), (3, 15), (2, 10), (1, 4), (0, 0)]), .inr (0, 170, .inl []), .inr (1, 8, .inl []), .inr (0, 170, .inl []), .inr (0, 6, .inl []), .inr (0, 320, .inl []), .inr (0, 8, .inl []), .inr (0, 42, .inl []), .inr (0, 90, .inl []), .inr (0, 8, .inl []), .inr (0, 144, .inl []), .inr (0, 4, .inl [(3, (-1)), (2, (-1)), (1, (-1)), (0, (-1))]), .inr (0, 4, .inl []), .inr (0, 160, .inl []), .inr (0, 40, .inl [])]
  | _ => []
def CTC (c : Nat) : Nat := ([1, 131, 0, 1, 1, 17, 1, 16, 4, 5, 242, 26] : List Nat).getD c 0
def CTZ (c : Nat) : Nat := ([6, 2446, 0, 8, 40, 344, 40, 132, 643, 643, 7872, 4420] : List Nat).getD c 0
def P_X0_init : List PE := [(0, .aload_n 0, 1, 0, 0), (1, .invokespecial 3, 4, 0, 0), (4, .aload_n 0, 5, 0, 0), (5, .bipush 6, 7, 0, 6), (7, .newarray .int, 9, 0, 0), (9, .putfield 11, 12, 0, 0), (12, .return_, 13, 0, 0)]
abbrev M_X0_init : MI := (yX0_init, cX0_init, 1, none, 0, P_X0_init)
theorem ok_X0_init : okP 0 cX0_init P_X0_init = true := by decide +kernel
def P_X1_init : List PE := [(0, .aload_n 0, 1, 0, 0), (1, .invokespecial 3, 4, 0, 0), (4, .aload_n 0, 5, 0, 0), (5, .bipush 7, 7, 0, 7), (7, .anewarray 9, 10, 0, 0), (10, .putfield 11, 13, 0, 0), (13, .aload_n 0, 14, 0, 0), (14, .new 17, 17, 0, 0),
  (17, .dup, 18, 0, 0), (18, .invokespecial 19, 21, 0, 0), (21, .putfield 20, 24, 0, 0), (24, .aload_n 0, 25, 0, 0), (25, .new 24, 28, 0, 0), (28, .dup, 29, 0, 0), (29, .invokespecial 26, 32, 0, 0), (32, .putfield 27, 35, 0, 0),
  (35, .iconst 0, 36, 0, 0), (36, .istore_n 1, 37, 0, 0), (37, .iload_n 1, 38, 0, 0), (38, .bipush 6, 40, 0, 6), (40, .if_icmp .gt 22, 43, 62, 0), (43, .aload_n 0, 44, 0, 0), (44, .getfield 11, 47, 0, 0), (47, .iload_n 1, 48, 0, 0),
  (48, .new 9, 51, 0, 0), (51, .dup, 52, 0, 0), (52, .invokespecial 31, 55, 0, 0), (55, .aastore, 56, 0, 0), (56, .iinc 1 1, 59, 0, 1), (59, .goto (-22), 62, 37, 0), (62, .return_, 63, 0, 0)]
abbrev M_X1_init : MI := (yX1_init, cX1_init, 2, none, 1, P_X1_init)
theorem ok_X1_init : okP 1 cX1_init P_X1_init = true := by decide +kernel
def P_X2_init : List PE := [(0, .aload_n 0, 1, 0, 0), (1, .invokespecial 3, 4, 0, 0), (4, .return_, 5, 0, 0)]
abbrev M_X2_init : MI := (yX2_init, cX2_init, 1, none, 2, P_X2_init)
theorem ok_X2_init : okP 2 cX2_init P_X2_init = true := by decide +kernel
def P_X3_init : List PE := [(0, .aload_n 0, 1, 0, 0), (1, .invokespecial 3, 4, 0, 0), (4, .aload_n 0, 5, 0, 0), (5, .bipush 8, 7, 0, 8), (7, .newarray .int, 9, 0, 0), (9, .putfield 9, 12, 0, 0), (12, .return_, 13, 0, 0)]
abbrev M_X3_init : MI := (yX3_init, cX3_init, 1, none, 3, P_X3_init)
theorem ok_X3_init : okP 3 cX3_init P_X3_init = true := by decide +kernel
def P_X4_init : List PE := [(0, .aload_n 0, 1, 0, 0), (1, .invokespecial 3, 4, 0, 0), (4, .aload_n 0, 5, 0, 0), (5, .bipush 40, 7, 0, 40), (7, .newarray .int, 9, 0, 0), (9, .putfield 9, 12, 0, 0), (12, .return_, 13, 0, 0)]
abbrev M_X4_init : MI := (yX4_init, cX4_init, 1, none, 4, P_X4_init)
theorem ok_X4_init : okP 4 cX4_init P_X4_init = true := by decide +kernel
def P_X5_init : List PE := [(0, .aload_n 0, 1, 0, 0), (1, .invokespecial 3, 4, 0, 0), (4, .aload_n 0, 5, 0, 0), (5, .bipush 8, 7, 0, 8), (7, .anewarray 9, 10, 0, 0), (10, .putfield 11, 13, 0, 0), (13, .iconst 0, 14, 0, 0), (14, .istore_n 1, 15, 0, 0),
  (15, .iload_n 1, 16, 0, 0), (16, .bipush 8, 18, 0, 8), (18, .if_icmp .ge 22, 21, 40, 0), (21, .aload_n 0, 22, 0, 0), (22, .getfield 11, 25, 0, 0), (25, .iload_n 1, 26, 0, 0), (26, .new 9, 29, 0, 0), (29, .dup, 30, 0, 0),
  (30, .invokespecial 17, 33, 0, 0), (33, .aastore, 34, 0, 0), (34, .iinc 1 1, 37, 0, 1), (37, .goto (-22), 40, 15, 0), (40, .return_, 41, 0, 0)]
abbrev M_X5_init : MI := (yX5_init, cX5_init, 2, none, 5, P_X5_init)
theorem ok_X5_init : okP 5 cX5_init P_X5_init = true := by decide +kernel
def P_X6_init : List PE := [(0, .aload_n 0, 1, 0, 0), (1, .invokespecial 3, 4, 0, 0), (4, .aload_n 0, 5, 0, 0), (5, .bipush 40, 7, 0, 40), (7, .newarray .int, 9, 0, 0), (9, .putfield 9, 12, 0, 0), (12, .aload_n 0, 13, 0, 0), (13, .iconst (-1), 14, 0, (-1)),
  (14, .putfield 15, 17, 0, 0), (17, .return_, 18, 0, 0)]
abbrev M_X6_init : MI := (yX6_init, cX6_init, 1, none, 6, P_X6_init)
theorem ok_X6_init : okP 6 cX6_init P_X6_init = true := by decide +kernel
def P_X7_init : List PE := [(0, .aload_n 0, 1, 0, 0), (1, .invokespecial 3, 4, 0, 0), (4, .aload_n 0, 5, 0, 0), (5, .ldc 9, 7, 999, 1065233), (7, .putfield 10, 10, 0, 0), (10, .aload_n 0, 11, 0, 0), (11, .bipush 8, 13, 0, 8), (13, .bipush 10, 15, 0, 10),
  (15, .multianewarray 16 2, 19, 0, 0), (19, .putfield 18, 22, 0, 0), (22, .aload_n 0, 23, 0, 0), (23, .bipush 8, 25, 0, 8), (25, .newarray .int, 27, 0, 0), (27, .putfield 21, 30, 0, 0), (30, .aload_n 0, 31, 0, 0), (31, .bipush 8, 33, 0, 8),
  (33, .newarray .int, 35, 0, 0), (35, .putfield 25, 38, 0, 0), (38, .aload_n 0, 39, 0, 0), (39, .bipush 6, 41, 0, 6), (41, .newarray .int, 43, 0, 0), (43, .putfield 28, 46, 0, 0), (46, .aload_n 0, 47, 0, 0), (47, .bipush 6, 49, 0, 6),
  (49, .newarray .int, 51, 0, 0), (51, .putfield 31, 54, 0, 0), (54, .aload_n 0, 55, 0, 0), (55, .bipush 6, 57, 0, 6), (57, .newarray .int, 59, 0, 0), (59, .putfield 34, 62, 0, 0), (62, .aload_n 0, 63, 0, 0), (63, .new 37, 66, 0, 0),
  (66, .dup, 67, 0, 0), (67, .invokespecial 39, 70, 0, 0), (70, .putfield 40, 73, 0, 0), (73, .return_, 74, 0, 0)]
abbrev M_X7_init : MI := (yX7_init, cX7_init, 1, none, 7, P_X7_init)
theorem ok_X7_init : okP 7 cX7_init P_X7_init = true := by decide +kernel
def P_X8_init : List PE := [(0, .aload_n 0, 1, 0, 0), (1, .invokespecial 3, 4, 0, 0), (4, .aload_n 0, 5, 0, 0), (5, .sipush 160, 8, 0, 160), (8, .newarray .int, 10, 0, 0), (10, .putfield 9, 13, 0, 0), (13, .aload_n 0, 14, 0, 0), (14, .sipush 161, 17, 0, 161),
  (17, .newarray .int, 19, 0, 0), (19, .putfield 15, 22, 0, 0), (22, .aload_n 0, 23, 0, 0), (23, .sipush 161, 26, 0, 161), (26, .newarray .int, 28, 0, 0), (28, .putfield 18, 31, 0, 0), (31, .aload_n 0, 32, 0, 0), (32, .sipush 161, 35, 0, 161),
  (35, .newarray .int, 37, 0, 0), (37, .putfield 21, 40, 0, 0), (40, .return_, 41, 0, 0)]
abbrev M_X8_init : MI := (yX8_init, cX8_init, 1, none, 8, P_X8_init)
theorem ok_X8_init : okP 8 cX8_init P_X8_init = true := by decide +kernel
def P_X9_init : List PE := [(0, .aload_n 0, 1, 0, 0), (1, .invokespecial 3, 4, 0, 0), (4, .aload_n 0, 5, 0, 0), (5, .sipush 160, 8, 0, 160), (8, .newarray .int, 10, 0, 0), (10, .putfield 9, 13, 0, 0), (13, .aload_n 0, 14, 0, 0), (14, .sipush 160, 17, 0, 160),
  (17, .newarray .int, 19, 0, 0), (19, .putfield 15, 22, 0, 0), (22, .aload_n 0, 23, 0, 0), (23, .sipush 160, 26, 0, 160), (26, .newarray .int, 28, 0, 0), (28, .putfield 18, 31, 0, 0), (31, .aload_n 0, 32, 0, 0), (32, .sipush 160, 35, 0, 160),
  (35, .newarray .int, 37, 0, 0), (37, .putfield 21, 40, 0, 0), (40, .aload_n 0, 41, 0, 0), (41, .iconst 3, 42, 0, 3), (42, .newarray .int, 44, 0, 0), (44, .putfield 24, 47, 0, 0), (47, .return_, 48, 0, 0)]
abbrev M_X9_init : MI := (yX9_init, cX9_init, 1, none, 9, P_X9_init)
theorem ok_X9_init : okP 9 cX9_init P_X9_init = true := by decide +kernel
def P_X10_init : List PE := [(0, .aload_n 0, 1, 0, 0), (1, .invokespecial 1, 4, 0, 0), (4, .aload_n 0, 5, 0, 0), (5, .new 7, 8, 0, 0), (8, .dup, 9, 0, 0), (9, .invokespecial 9, 12, 0, 0), (12, .putfield 10, 15, 0, 0), (15, .aload_n 0, 16, 0, 0),
  (16, .new 7, 19, 0, 0), (19, .dup, 20, 0, 0), (20, .invokespecial 9, 23, 0, 0), (23, .putfield 16, 26, 0, 0), (26, .aload_n 0, 27, 0, 0), (27, .bipush 6, 29, 0, 6), (29, .anewarray 19, 32, 0, 0), (32, .putfield 21, 35, 0, 0),
  (35, .aload_n 0, 36, 0, 0), (36, .new 25, 39, 0, 0), (39, .dup, 40, 0, 0), (40, .invokespecial 27, 43, 0, 0), (43, .putfield 28, 46, 0, 0), (46, .aload_n 0, 47, 0, 0), (47, .new 32, 50, 0, 0), (50, .dup, 51, 0, 0),
  (51, .invokespecial 34, 54, 0, 0), (54, .putfield 35, 57, 0, 0), (57, .aload_n 0, 58, 0, 0), (58, .iconst 4, 59, 0, 4), (59, .anewarray 39, 62, 0, 0), (62, .putfield 41, 65, 0, 0), (65, .aload_n 0, 66, 0, 0), (66, .new 45, 69, 0, 0),
  (69, .dup, 70, 0, 0), (70, .invokespecial 47, 73, 0, 0), (73, .putfield 48, 76, 0, 0), (76, .aload_n 0, 77, 0, 0), (77, .new 52, 80, 0, 0), (80, .dup, 81, 0, 0), (81, .invokespecial 54, 84, 0, 0), (84, .putfield 55, 87, 0, 0),
  (87, .aload_n 0, 88, 0, 0), (88, .new 59, 91, 0, 0), (91, .dup, 92, 0, 0), (92, .invokespecial 61, 95, 0, 0), (95, .putfield 62, 98, 0, 0), (98, .aload_n 0, 99, 0, 0), (99, .new 66, 102, 0, 0), (102, .dup, 103, 0, 0),
  (103, .invokespecial 68, 106, 0, 0), (106, .putfield 69, 109, 0, 0), (109, .aload_n 0, 110, 0, 0), (110, .new 73, 113, 0, 0), (113, .dup, 114, 0, 0), (114, .invokespecial 75, 117, 0, 0), (117, .putfield 76, 120, 0, 0), (120, .iconst 0, 121, 0, 0),
  (121, .istore_n 1, 122, 0, 0), (122, .iload_n 1, 123, 0, 0), (123, .bipush 6, 125, 0, 6), (125, .if_icmp .ge 22, 128, 147, 0), (128, .aload_n 0, 129, 0, 0), (129, .getfield 21, 132, 0, 0), (132, .iload_n 1, 133, 0, 0), (133, .new 19, 136, 0, 0),
  (136, .dup, 137, 0, 0), (137, .invokespecial 80, 140, 0, 0), (140, .aastore, 141, 0, 0), (141, .iinc 1 1, 144, 0, 1), (144, .goto (-22), 147, 122, 0), (147, .iconst 0, 148, 0, 0), (148, .istore_n 1, 149, 0, 0), (149, .iload_n 1, 150, 0, 0),
  (150, .iconst 4, 151, 0, 4), (151, .if_icmp .ge 22, 154, 173, 0), (154, .aload_n 0, 155, 0, 0), (155, .getfield 41, 158, 0, 0), (158, .iload_n 1, 159, 0, 0), (159, .new 39, 162, 0, 0), (162, .dup, 163, 0, 0), (163, .invokespecial 81, 166, 0, 0),
  (166, .aastore, 167, 0, 0), (167, .iinc 1 1, 170, 0, 1), (170, .goto (-21), 173, 149, 0), (173, .iconst 0, 174, 0, 0), (174, .istore_n 1, 175, 0, 0), (175, .iload_n 1, 176, 0, 0), (176, .ldc 82, 178, 0, 0), (178, .invokevirtual 84, 181, 0, 0),
  (181, .if_icmp .ge 22, 184, 203, 0), (184, .aload_n 0, 185, 0, 0), (185, .getfield 28, 188, 0, 0), (188, .ldc 82, 190, 0, 0), (190, .iload_n 1, 191, 0, 0), (191, .invokevirtual 90, 194, 0, 0), (194, .invokevirtual 94, 197, 0, 0), (197, .iinc 1 1, 200, 0, 1),
  (200, .goto (-25), 203, 175, 0), (203, .aload_n 0, 204, 0, 0), (204, .getfield 35, 207, 0, 0), (207, .aload_n 0, 208, 0, 0), (208, .getfield 28, 211, 0, 0), (211, .aload_n 0, 212, 0, 0), (212, .getfield 21, 215, 0, 0), (215, .iconst 0, 216, 0, 0),
  (216, .aaload, 217, 0, 0), (217, .invokevirtual 98, 220, 0, 0), (220, .pop, 221, 0, 0), (221, .aload_n 0, 222, 0, 0), (222, .getfield 28, 225, 0, 0), (225, .iconst 0, 226, 0, 0), (226, .putfield 102, 229, 0, 0), (229, .aload_n 0, 230, 0, 0),
  (230, .iconst 1, 231, 0, 1), (231, .putfield 106, 234, 0, 0), (234, .return_, 235, 0, 0)]
abbrev M_X10_init : MI := (yX10_init, cX10_init, 2, none, 10, P_X10_init)
theorem ok_X10_init : okP 10 cX10_init P_X10_init = true := by decide +kernel
def P_X11_init_0 : List PE := [(0, .aload_n 0, 1, 0, 0), (1, .invokespecial 178, 4, 0, 0), (4, .aload_n 0, 5, 0, 0), (5, .ldc 183, 7, 999, 1065233), (7, .putfield 55, 10, 0, 0), (10, .aload_n 0, 11, 0, 0), (11, .bipush 80, 13, 0, 80), (13, .newarray .int, 15, 0, 0),
  (15, .putfield 28, 18, 0, 0), (18, .aload_n 0, 19, 0, 0), (19, .bipush 8, 21, 0, 8), (21, .newarray .int, 23, 0, 0), (23, .putfield 31, 26, 0, 0), (26, .aload_n 0, 27, 0, 0), (27, .bipush 8, 29, 0, 8), (29, .newarray .int, 31, 0, 0),
  (31, .putfield 34, 34, 0, 0), (34, .aload_n 0, 35, 0, 0), (35, .bipush 6, 37, 0, 6), (37, .newarray .int, 39, 0, 0), (39, .putfield 37, 42, 0, 0), (42, .aload_n 0, 43, 0, 0), (43, .bipush 6, 45, 0, 6), (45, .newarray .int, 47, 0, 0),
  (47, .putfield 40, 50, 0, 0), (50, .aload_n 0, 51, 0, 0), (51, .bipush 6, 53, 0, 6), (53, .newarray .int, 55, 0, 0), (55, .putfield 43, 58, 0, 0), (58, .aload_n 0, 59, 0, 0), (59, .bipush 8, 61, 0, 8), (61, .newarray .int, 63, 0, 0),
  (63, .putfield 52, 66, 0, 0), (66, .aload_n 0, 67, 0, 0), (67, .sipush 160, 70, 0, 160), (70, .newarray .int, 72, 0, 0), (72, .putfield 69, 75, 0, 0), (75, .aload_n 0, 76, 0, 0), (76, .sipush 2880, 79, 0, 2880), (79, .newarray .int, 81, 0, 0),
  (81, .putfield 104, 84, 0, 0), (84, .aload_n 0, 85, 0, 0), (85, .bipush 18, 87, 0, 18), (87, .newarray .int, 89, 0, 0), (89, .putfield 153, 92, 0, 0)]
theorem ok_X11_init_0 : okP 11 cX11_init P_X11_init_0 = true := by decide +kernel
def P_X11_init_1 : List PE := [(92, .aload_n 0, 93, 0, 0), (93, .bipush 53, 95, 0, 53), (95, .newarray .char, 97, 0, 0), (97, .dup, 98, 0, 0), (98, .iconst 0, 99, 0, 0), (99, .bipush 108, 101, 0, 108), (101, .castore, 102, 0, 0), (102, .dup, 103, 0, 0),
  (103, .iconst 1, 104, 0, 1), (104, .bipush 111, 106, 0, 111), (106, .castore, 107, 0, 0), (107, .dup, 108, 0, 0), (108, .iconst 2, 109, 0, 2), (109, .bipush 110, 111, 0, 110), (111, .castore, 112, 0, 0), (112, .dup, 113, 0, 0),
  (113, .iconst 3, 114, 0, 3), (114, .bipush 103, 116, 0, 103), (116, .castore, 117, 0, 0), (117, .dup, 118, 0, 0), (118, .iconst 4, 119, 0, 4), (119, .bipush 118, 121, 0, 118), (121, .castore, 122, 0, 0), (122, .dup, 123, 0, 0),
  (123, .iconst 5, 124, 0, 5), (124, .bipush 111, 126, 0, 111), (126, .castore, 127, 0, 0), (127, .dup, 128, 0, 0), (128, .bipush 6, 130, 0, 6), (130, .bipush 119, 132, 0, 119), (132, .castore, 133, 0, 0), (133, .dup, 134, 0, 0),
  (134, .bipush 7, 136, 0, 7), (136, .bipush 101, 138, 0, 101), (138, .castore, 139, 0, 0), (139, .dup, 140, 0, 0), (140, .bipush 8, 142, 0, 8), (142, .bipush 108, 144, 0, 108), (144, .castore, 145, 0, 0), (145, .dup, 146, 0, 0),
  (146, .bipush 9, 148, 0, 9), (148, .bipush 115, 150, 0, 115), (150, .castore, 151, 0, 0), (151, .dup, 152, 0, 0), (152, .bipush 10, 154, 0, 10)]
theorem ok_X11_init_1 : okP 11 cX11_init P_X11_init_1 = true := by decide +kernel
def P_X11_init_2 : List PE := [(154, .bipush 114, 156, 0, 114), (156, .castore, 157, 0, 0), (157, .dup, 158, 0, 0), (158, .bipush 11, 160, 0, 11), (160, .bipush 117, 162, 0, 117), (162, .castore, 163, 0, 0), (163, .dup, 164, 0, 0), (164, .bipush 12, 166, 0, 12),
  (166, .bipush 108, 168, 0, 108), (168, .castore, 169, 0, 0), (169, .dup, 170, 0, 0), (170, .bipush 13, 172, 0, 13), (172, .bipush 101, 174, 0, 101), (174, .castore, 175, 0, 0), (175, .dup, 176, 0, 0), (176, .bipush 14, 178, 0, 14),
  (178, .bipush 115, 180, 0, 115), (180, .castore, 181, 0, 0), (181, .dup, 182, 0, 0), (182, .bipush 15, 184, 0, 15), (184, .bipush 110, 186, 0, 110), (186, .castore, 187, 0, 0), (187, .dup, 188, 0, 0), (188, .bipush 16, 190, 0, 16),
  (190, .bipush 117, 192, 0, 117), (192, .castore, 193, 0, 0), (193, .dup, 194, 0, 0), (194, .bipush 17, 196, 0, 17), (196, .bipush 109, 198, 0, 109), (198, .castore, 199, 0, 0), (199, .dup, 200, 0, 0), (200, .bipush 18, 202, 0, 18),
  (202, .bipush 98, 204, 0, 98), (204, .castore, 205, 0, 0), (205, .dup, 206, 0, 0), (206, .bipush 19, 208, 0, 19), (208, .bipush 101, 210, 0, 101), (210, .castore, 211, 0, 0), (211, .dup, 212, 0, 0), (212, .bipush 20, 214, 0, 20),
  (214, .bipush 114, 216, 0, 114), (216, .castore, 217, 0, 0), (217, .dup, 218, 0, 0), (218, .bipush 21, 220, 0, 21), (220, .bipush 119, 222, 0, 119)]
theorem ok_X11_init_2 : okP 11 cX11_init P_X11_init_2 = true := by decide +kernel
def P_X11_init_3 : List PE := [(222, .castore, 223, 0, 0), (223, .dup, 224, 0, 0), (224, .bipush 22, 226, 0, 22), (226, .bipush 111, 228, 0, 111), (228, .castore, 229, 0, 0), (229, .dup, 230, 0, 0), (230, .bipush 23, 232, 0, 23), (232, .bipush 114, 234, 0, 114),
  (234, .castore, 235, 0, 0), (235, .dup, 236, 0, 0), (236, .bipush 24, 238, 0, 24), (238, .bipush 100, 240, 0, 100), (240, .castore, 241, 0, 0), (241, .dup, 242, 0, 0), (242, .bipush 25, 244, 0, 25), (244, .bipush 119, 246, 0, 119),
  (246, .castore, 247, 0, 0), (247, .dup, 248, 0, 0), (248, .bipush 26, 250, 0, 26), (250, .bipush 101, 252, 0, 101), (252, .castore, 253, 0, 0), (253, .dup, 254, 0, 0), (254, .bipush 27, 256, 0, 27), (256, .bipush 105, 258, 0, 105),
  (258, .castore, 259, 0, 0), (259, .dup, 260, 0, 0), (260, .bipush 28, 262, 0, 28), (262, .bipush 103, 264, 0, 103), (264, .castore, 265, 0, 0), (265, .dup, 266, 0, 0), (266, .bipush 29, 268, 0, 29), (268, .bipush 104, 270, 0, 104),
  (270, .castore, 271, 0, 0), (271, .dup, 272, 0, 0), (272, .bipush 30, 274, 0, 30), (274, .bipush 116, 276, 0, 116), (276, .castore, 277, 0, 0), (277, .dup, 278, 0, 0), (278, .bipush 31, 280, 0, 31), (280, .bipush 104, 282, 0, 104),
  (282, .castore, 283, 0, 0), (283, .dup, 284, 0, 0), (284, .bipush 32, 286, 0, 32), (286, .bipush 97, 288, 0, 97), (288, .castore, 289, 0, 0)]
theorem ok_X11_init_3 : okP 11 cX11_init P_X11_init_3 = true := by decide +kernel
def P_X11_init_4 : List PE := [(289, .dup, 290, 0, 0), (290, .bipush 33, 292, 0, 33), (292, .bipush 114, 294, 0, 114), (294, .castore, 295, 0, 0), (295, .dup, 296, 0, 0), (296, .bipush 34, 298, 0, 34), (298, .bipush 100, 300, 0, 100), (300, .castore, 301, 0, 0),
  (301, .dup, 302, 0, 0), (302, .bipush 35, 304, 0, 35), (304, .bipush 104, 306, 0, 104), (306, .castore, 307, 0, 0), (307, .dup, 308, 0, 0), (308, .bipush 36, 310, 0, 36), (310, .bipush 105, 312, 0, 105), (312, .castore, 313, 0, 0),
  (313, .dup, 314, 0, 0), (314, .bipush 37, 316, 0, 37), (316, .bipush 100, 318, 0, 100), (318, .castore, 319, 0, 0), (319, .dup, 320, 0, 0), (320, .bipush 38, 322, 0, 38), (322, .bipush 101, 324, 0, 101), (324, .castore, 325, 0, 0),
  (325, .dup, 326, 0, 0), (326, .bipush 39, 328, 0, 39), (328, .bipush 115, 330, 0, 115), (330, .castore, 331, 0, 0), (331, .dup, 332, 0, 0), (332, .bipush 40, 334, 0, 40), (334, .bipush 109, 336, 0, 109), (336, .castore, 337, 0, 0),
  (337, .dup, 338, 0, 0), (338, .bipush 41, 340, 0, 41), (340, .bipush 105, 342, 0, 105), (342, .castore, 343, 0, 0), (343, .dup, 344, 0, 0), (344, .bipush 42, 346, 0, 42), (346, .bipush 110, 348, 0, 110), (348, .castore, 349, 0, 0),
  (349, .dup, 350, 0, 0), (350, .bipush 43, 352, 0, 43), (352, .bipush 100, 354, 0, 100), (354, .castore, 355, 0, 0), (355, .dup, 356, 0, 0)]
theorem ok_X11_init_4 : okP 11 cX11_init P_X11_init_4 = true := by decide +kernel
def P_X11_init_5 : List PE := [(356, .bipush 44, 358, 0, 44), (358, .bipush 115, 360, 0, 115), (360, .castore, 361, 0, 0), (361, .dup, 362, 0, 0), (362, .bipush 45, 364, 0, 45), (364, .bipush 111, 366, 0, 111), (366, .castore, 367, 0, 0), (367, .dup, 368, 0, 0),
  (368, .bipush 46, 370, 0, 46), (370, .bipush 114, 372, 0, 114), (372, .castore, 373, 0, 0), (373, .dup, 374, 0, 0), (374, .bipush 47, 376, 0, 47), (376, .bipush 97, 378, 0, 97), (378, .castore, 379, 0, 0), (379, .dup, 380, 0, 0),
  (380, .bipush 48, 382, 0, 48), (382, .bipush 110, 384, 0, 110), (384, .castore, 385, 0, 0), (385, .dup, 386, 0, 0), (386, .bipush 49, 388, 0, 49), (388, .bipush 100, 390, 0, 100), (390, .castore, 391, 0, 0), (391, .dup, 392, 0, 0),
  (392, .bipush 50, 394, 0, 50), (394, .bipush 110, 396, 0, 110), (396, .castore, 397, 0, 0), (397, .dup, 398, 0, 0), (398, .bipush 51, 400, 0, 51), (400, .bipush 111, 402, 0, 111), (402, .castore, 403, 0, 0), (403, .dup, 404, 0, 0),
  (404, .bipush 52, 406, 0, 52), (406, .bipush 116, 408, 0, 116), (408, .castore, 409, 0, 0), (409, .putfield 87, 412, 0, 0), (412, .aload_n 0, 413, 0, 0), (413, .bipush 13, 415, 0, 13), (415, .newarray .int, 417, 0, 0), (417, .dup, 418, 0, 0),
  (418, .iconst 0, 419, 0, 0), (419, .iconst 0, 420, 0, 0), (420, .iastore, 421, 0, 0), (421, .dup, 422, 0, 0), (422, .iconst 1, 423, 0, 1)]
theorem ok_X11_init_5 : okP 11 cX11_init P_X11_init_5 = true := by decide +kernel
def P_X11_init_6 : List PE := [(423, .iconst 4, 424, 0, 4), (424, .iastore, 425, 0, 0), (425, .dup, 426, 0, 0), (426, .iconst 2, 427, 0, 2), (427, .bipush 10, 429, 0, 10), (429, .iastore, 430, 0, 0), (430, .dup, 431, 0, 0), (431, .iconst 3, 432, 0, 3),
  (432, .bipush 15, 434, 0, 15), (434, .iastore, 435, 0, 0), (435, .dup, 436, 0, 0), (436, .iconst 4, 437, 0, 4), (437, .bipush 21, 439, 0, 21), (439, .iastore, 440, 0, 0), (440, .dup, 441, 0, 0), (441, .iconst 5, 442, 0, 5),
  (442, .bipush 25, 444, 0, 25), (444, .iastore, 445, 0, 0), (445, .dup, 446, 0, 0), (446, .bipush 6, 448, 0, 6), (448, .bipush 31, 450, 0, 31), (450, .iastore, 451, 0, 0), (451, .dup, 452, 0, 0), (452, .bipush 7, 454, 0, 7),
  (454, .bipush 35, 456, 0, 35), (456, .iastore, 457, 0, 0), (457, .dup, 458, 0, 0), (458, .bipush 8, 460, 0, 8), (460, .bipush 40, 462, 0, 40), (462, .iastore, 463, 0, 0), (463, .dup, 464, 0, 0), (464, .bipush 9, 466, 0, 9),
  (466, .bipush 45, 468, 0, 45), (468, .iastore, 469, 0, 0), (469, .dup, 470, 0, 0), (470, .bipush 10, 472, 0, 10), (472, .bipush 47, 474, 0, 47), (474, .iastore, 475, 0, 0), (475, .dup, 476, 0, 0), (476, .bipush 11, 478, 0, 11),
  (478, .bipush 50, 480, 0, 50), (480, .iastore, 481, 0, 0), (481, .dup, 482, 0, 0), (482, .bipush 12, 484, 0, 12), (484, .bipush 53, 486, 0, 53)]
theorem ok_X11_init_6 : okP 11 cX11_init P_X11_init_6 = true := by decide +kernel
def P_X11_init_7 : List PE := [(486, .iastore, 487, 0, 0), (487, .putfield 81, 490, 0, 0), (490, .aload_n 0, 491, 0, 0), (491, .sipush 170, 494, 0, 170), (494, .newarray .int, 496, 0, 0), (496, .putfield 116, 499, 0, 0), (499, .aload_n 0, 500, 0, 0), (500, .bipush 8, 502, 0, 8),
  (502, .newarray .boolean, 504, 0, 0), (504, .putfield 136, 507, 0, 0), (507, .aload_n 0, 508, 0, 0), (508, .sipush 170, 511, 0, 170), (511, .newarray .int, 513, 0, 0), (513, .putfield 184, 516, 0, 0), (516, .aload_n 0, 517, 0, 0), (517, .bipush 6, 519, 0, 6),
  (519, .newarray .int, 521, 0, 0), (521, .putfield 187, 524, 0, 0), (524, .aload_n 0, 525, 0, 0), (525, .sipush 320, 528, 0, 320), (528, .newarray .int, 530, 0, 0), (530, .putfield 190, 533, 0, 0), (533, .aload_n 0, 534, 0, 0), (534, .bipush 8, 536, 0, 8),
  (536, .newarray .int, 538, 0, 0), (538, .putfield 193, 541, 0, 0), (541, .aload_n 0, 542, 0, 0), (542, .bipush 42, 544, 0, 42), (544, .newarray .int, 546, 0, 0), (546, .putfield 196, 549, 0, 0), (549, .aload_n 0, 550, 0, 0), (550, .bipush 90, 552, 0, 90),
  (552, .newarray .int, 554, 0, 0), (554, .putfield 199, 557, 0, 0), (557, .aload_n 0, 558, 0, 0), (558, .bipush 8, 560, 0, 8), (560, .newarray .int, 562, 0, 0), (562, .putfield 202, 565, 0, 0), (565, .aload_n 0, 566, 0, 0), (566, .sipush 144, 569, 0, 144),
  (569, .newarray .int, 571, 0, 0), (571, .putfield 205, 574, 0, 0), (574, .aload_n 0, 575, 0, 0), (575, .iconst 4, 576, 0, 4), (576, .newarray .int, 578, 0, 0)]
theorem ok_X11_init_7 : okP 11 cX11_init P_X11_init_7 = true := by decide +kernel
def P_X11_init_8 : List PE := [(578, .dup, 579, 0, 0), (579, .iconst 0, 580, 0, 0), (580, .iconst (-1), 581, 0, (-1)), (581, .iastore, 582, 0, 0), (582, .dup, 583, 0, 0), (583, .iconst 1, 584, 0, 1), (584, .iconst (-1), 585, 0, (-1)), (585, .iastore, 586, 0, 0),
  (586, .dup, 587, 0, 0), (587, .iconst 2, 588, 0, 2), (588, .iconst (-1), 589, 0, (-1)), (589, .iastore, 590, 0, 0), (590, .dup, 591, 0, 0), (591, .iconst 3, 592, 0, 3), (592, .iconst (-1), 593, 0, (-1)), (593, .iastore, 594, 0, 0),
  (594, .putfield 18, 597, 0, 0), (597, .aload_n 0, 598, 0, 0), (598, .iconst 4, 599, 0, 4), (599, .newarray .int, 601, 0, 0), (601, .putfield 22, 604, 0, 0), (604, .aload_n 0, 605, 0, 0), (605, .sipush 160, 608, 0, 160), (608, .newarray .int, 610, 0, 0),
  (610, .putfield 25, 613, 0, 0), (613, .aload_n 0, 614, 0, 0), (614, .bipush 40, 616, 0, 40), (616, .newarray .int, 618, 0, 0), (618, .putfield 208, 621, 0, 0), (621, .aload_n 0, 622, 0, 0), (622, .getfield 104, 625, 0, 0), (625, .iconst 0, 626, 0, 0),
  (626, .iconst 0, 627, 0, 0), (627, .iastore, 628, 0, 0), (628, .aload_n 0, 629, 0, 0), (629, .getfield 104, 632, 0, 0), (632, .iconst 1, 633, 0, 1), (633, .iconst 1, 634, 0, 1), (634, .iastore, 635, 0, 0), (635, .aload_n 0, 636, 0, 0),
  (636, .getfield 104, 639, 0, 0), (639, .iconst 2, 640, 0, 2), (640, .bipush 15, 642, 0, 15), (642, .iastore, 643, 0, 0), (643, .aload_n 0, 644, 0, 0)]
theorem ok_X11_init_8 : okP 11 cX11_init P_X11_init_8 = true := by decide +kernel
def P_X11_init_9 : List PE := [(644, .getfield 153, 647, 0, 0), (647, .iconst 0, 648, 0, 0), (648, .iconst 3, 649, 0, 3), (649, .iastore, 650, 0, 0), (650, .aload_n 0, 651, 0, 0), (651, .getfield 104, 654, 0, 0), (654, .sipush 160, 657, 0, 160), (657, .iconst 2, 658, 0, 2),
  (658, .iastore, 659, 0, 0), (659, .aload_n 0, 660, 0, 0), (660, .getfield 104, 663, 0, 0), (663, .sipush 161, 666, 0, 161), (666, .bipush (-6), 668, 0, (-6)), (668, .iastore, 669, 0, 0), (669, .aload_n 0, 670, 0, 0), (670, .getfield 104, 673, 0, 0),
  (673, .sipush 162, 676, 0, 162), (676, .bipush 17, 678, 0, 17), (678, .iastore, 679, 0, 0), (679, .aload_n 0, 680, 0, 0), (680, .getfield 153, 683, 0, 0), (683, .iconst 1, 684, 0, 1), (684, .iconst 3, 685, 0, 3), (685, .iastore, 686, 0, 0),
  (686, .aload_n 0, 687, 0, 0), (687, .getfield 104, 690, 0, 0), (690, .sipush 320, 693, 0, 320), (693, .iconst 5, 694, 0, 5), (694, .iastore, 695, 0, 0), (695, .aload_n 0, 696, 0, 0), (696, .getfield 153, 699, 0, 0), (699, .iconst 2, 700, 0, 2),
  (700, .iconst 1, 701, 0, 1), (701, .iastore, 702, 0, 0), (702, .aload_n 0, 703, 0, 0), (703, .iconst 1, 704, 0, 1), (704, .putfield 169, 707, 0, 0), (707, .return_, 708, 0, 0)]
theorem ok_X11_init_9 : okP 11 cX11_init P_X11_init_9 = true := by decide +kernel
def P_X11_init : List PE := P_X11_init_0 ++ (P_X11_init_1 ++ (P_X11_init_2 ++ (P_X11_init_3 ++ (P_X11_init_4 ++ (P_X11_init_5 ++ (P_X11_init_6 ++ (P_X11_init_7 ++ (P_X11_init_8 ++ (P_X11_init_9)))))))))
theorem ok_X11_init : okP 11 cX11_init P_X11_init = true := okP_app ok_X11_init_0 (okP_app ok_X11_init_1 (okP_app ok_X11_init_2 (okP_app ok_X11_init_3 (okP_app ok_X11_init_4 (okP_app ok_X11_init_5 (okP_app ok_X11_init_6 (okP_app ok_X11_init_7 (okP_app ok_X11_init_8 (ok_X11_init_9)))))))))
abbrev M_X11_init : MI := (yX11_init, cX11_init, 1, none, 11, P_X11_init)
def MIc (c : Nat) : MI := match c with
  | 0 => M_X0_init
  | 1 => M_X1_init
  | 2 => M_X2_init
  | 3 => M_X3_init
  | 4 => M_X4_init
  | 5 => M_X5_init
  | 6 => M_X6_init
  | 7 => M_X7_init
  | 8 => M_X8_init
  | 9 => M_X9_init
  | 10 => M_X10_init
  | _ => M_X11_init

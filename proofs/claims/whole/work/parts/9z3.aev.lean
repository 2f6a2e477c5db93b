-- ===== the class's constructor =====
def rmA : Room := { frames := 200, cells := 242, slots := 7872, locals := 12000 }
def aevL_0 : List CE := [.inl (10, [some (.inr 1), some (.inr 18), some (.inl 0), some (.inr 35), some (.inl 0), some (.inr 36), some (.inr 41), some (.inr 42), some (.inr 43), some (.inr 61), some (.inr 63), some (.inr 65), some (.inr 67)]), .inl (7, [some (.inl 1065233), some (.inr 2), some (.inr 11), some (.inr 12), some (.inl 0), some (.inr 13), some (.inr 14), some (.inr 15), some (.inl 0), some (.inr 16), some (.inl 0)]), .inr (24, 8, .inr [some 3, some 4, some 5, some 6, some 7, some 8, some 9, some 10]), .inr (0, 10, .inl []), .inr (0, 10, .inl []), .inr (0, 10, .inl []), .inr (0, 10, .inl []), .inr (0, 10, .inl []), .inr (0, 10, .inl []), .inr (0, 10, .inl []), .inr (0, 10, .inl []), .inr (0, 8, .inl []), .inr (0, 8, .inl []), .inr (0, 6, .inl []), .inr (0, 6, .inl []), .inr (0, 6, .inl []), .inl (3, [some (.inr 17), some (.inl 0)]), .inr (0, 8, .inl []), .inl (7, [some (.inl 1065233), some (.inr 19), some (.inr 28), some (.inr 29), some (.inl 0), some (.inr 30), some (.inr 31), some (.inr 32), some (.inl 0), some (.inr 33), some (.inl 0)]), .inr (24, 8, .inr [some 20, some 21, some 22, some 23, some 24, some 25, some 26, some 27]), .inr (0, 10, .inl []), .inr (0, 10, .inl []), .inr (0, 10, .inl []), .inr (0, 10, .inl []), .inr (0, 10, .inl []), .inr (0, 10, .inl []), .inr (0, 10, .inl []), .inr (0, 10, .inl []), .inr (0, 8, .inl []), .inr (0, 8, .inl [])]
def aevL_1 : List CE := [.inr (0, 6, .inl []), .inr (0, 6, .inl []), .inr (0, 6, .inl []), .inl (3, [some (.inr 34), some (.inl 0)]), .inr (0, 8, .inl []), .inr (20, 6, .inr [some 199, some 205, some 211, some 217, some 223, some 229]), .inl (8, [some (.inr 37), some (.inl 0), some (.inr 38), some (.inr 39), some (.inr 40), some (.inl 0)]), .inr (0, 160, .inl []), .inr (0, 161, .inl []), .inr (0, 161, .inl []), .inr (0, 161, .inl []), .inl (2, [none, none, some (.inl 0), some (.inl 0)]), .inr (21, 4, .inr [some 235, some 237, some 239, some 241]), .inl (5, [some (.inr 44), some (.inl 0)]), .inr (22, 8, .inr [some 45, some 47, some 49, some 51, some 53, some 55, some 57, some 59]), .inl (4, [some (.inr 46), some (.inl 0)]), .inr (0, 40, .inl []), .inl (4, [some (.inr 48), some (.inl 0)]), .inr (0, 40, .inl []), .inl (4, [some (.inr 50), some (.inl 0)]), .inr (0, 40, .inl []), .inl (4, [some (.inr 52), some (.inl 0)]), .inr (0, 40, .inl []), .inl (4, [some (.inr 54), some (.inl 0)]), .inr (0, 40, .inl []), .inl (4, [some (.inr 56), some (.inl 0)]), .inr (0, 40, .inl []), .inl (4, [some (.inr 58), some (.inl 0)]), .inr (0, 40, .inl []), .inl (4, [some (.inr 60), some (.inl 0)])]
def aevL_2 : List CE := [.inr (0, 40, .inl []), .inl (4, [some (.inr 62), some (.inl 0)]), .inr (0, 40, .inl []), .inl (3, [some (.inr 64), some (.inl 0)]), .inr (0, 8, .inl []), .inl (0, [some (.inr 66)]), .inr (0, 6, .inl []), .inl (1, [some (.inr 68), some (.inr 69), some (.inr 71), some (.inl 0), some (.inl 0), some (.inl 0)]), .inr (23, 7, .inr [some 73, some 91, some 109, some 127, some 145, some 163, some 181]), .inl (3, [some (.inr 70), some (.inl 0)]), .inr (0, 8, .inl []), .inl (0, [some (.inr 72)]), .inr (0, 6, .inl []), .inl (5, [some (.inr 74), some (.inl 0)]), .inr (22, 8, .inr [some 75, some 77, some 79, some 81, some 83, some 85, some 87, some 89]), .inl (4, [some (.inr 76), some (.inl 0)]), .inr (0, 40, .inl []), .inl (4, [some (.inr 78), some (.inl 0)]), .inr (0, 40, .inl []), .inl (4, [some (.inr 80), some (.inl 0)]), .inr (0, 40, .inl []), .inl (4, [some (.inr 82), some (.inl 0)]), .inr (0, 40, .inl []), .inl (4, [some (.inr 84), some (.inl 0)]), .inr (0, 40, .inl []), .inl (4, [some (.inr 86), some (.inl 0)]), .inr (0, 40, .inl []), .inl (4, [some (.inr 88), some (.inl 0)]), .inr (0, 40, .inl []), .inl (4, [some (.inr 90), some (.inl 0)])]
def aevL_3 : List CE := [.inr (0, 40, .inl []), .inl (5, [some (.inr 92), some (.inl 0)]), .inr (22, 8, .inr [some 93, some 95, some 97, some 99, some 101, some 103, some 105, some 107]), .inl (4, [some (.inr 94), some (.inl 0)]), .inr (0, 40, .inl []), .inl (4, [some (.inr 96), some (.inl 0)]), .inr (0, 40, .inl []), .inl (4, [some (.inr 98), some (.inl 0)]), .inr (0, 40, .inl []), .inl (4, [some (.inr 100), some (.inl 0)]), .inr (0, 40, .inl []), .inl (4, [some (.inr 102), some (.inl 0)]), .inr (0, 40, .inl []), .inl (4, [some (.inr 104), some (.inl 0)]), .inr (0, 40, .inl []), .inl (4, [some (.inr 106), some (.inl 0)]), .inr (0, 40, .inl []), .inl (4, [some (.inr 108), some (.inl 0)]), .inr (0, 40, .inl []), .inl (5, [some (.inr 110), some (.inl 0)]), .inr (22, 8, .inr [some 111, some 113, some 115, some 117, some 119, some 121, some 123, some 125]), .inl (4, [some (.inr 112), some (.inl 0)]), .inr (0, 40, .inl []), .inl (4, [some (.inr 114), some (.inl 0)]), .inr (0, 40, .inl []), .inl (4, [some (.inr 116), some (.inl 0)]), .inr (0, 40, .inl []), .inl (4, [some (.inr 118), some (.inl 0)]), .inr (0, 40, .inl []), .inl (4, [some (.inr 120), some (.inl 0)])]
def aevL_4 : List CE := [.inr (0, 40, .inl []), .inl (4, [some (.inr 122), some (.inl 0)]), .inr (0, 40, .inl []), .inl (4, [some (.inr 124), some (.inl 0)]), .inr (0, 40, .inl []), .inl (4, [some (.inr 126), some (.inl 0)]), .inr (0, 40, .inl []), .inl (5, [some (.inr 128), some (.inl 0)]), .inr (22, 8, .inr [some 129, some 131, some 133, some 135, some 137, some 139, some 141, some 143]), .inl (4, [some (.inr 130), some (.inl 0)]), .inr (0, 40, .inl []), .inl (4, [some (.inr 132), some (.inl 0)]), .inr (0, 40, .inl []), .inl (4, [some (.inr 134), some (.inl 0)]), .inr (0, 40, .inl []), .inl (4, [some (.inr 136), some (.inl 0)]), .inr (0, 40, .inl []), .inl (4, [some (.inr 138), some (.inl 0)]), .inr (0, 40, .inl []), .inl (4, [some (.inr 140), some (.inl 0)]), .inr (0, 40, .inl []), .inl (4, [some (.inr 142), some (.inl 0)]), .inr (0, 40, .inl []), .inl (4, [some (.inr 144), some (.inl 0)]), .inr (0, 40, .inl []), .inl (5, [some (.inr 146), some (.inl 0)]), .inr (22, 8, .inr [some 147, some 149, some 151, some 153, some 155, some 157, some 159, some 161]), .inl (4, [some (.inr 148), some (.inl 0)]), .inr (0, 40, .inl []), .inl (4, [some (.inr 150), some (.inl 0)])]
def aevL_5 : List CE := [.inr (0, 40, .inl []), .inl (4, [some (.inr 152), some (.inl 0)]), .inr (0, 40, .inl []), .inl (4, [some (.inr 154), some (.inl 0)]), .inr (0, 40, .inl []), .inl (4, [some (.inr 156), some (.inl 0)]), .inr (0, 40, .inl []), .inl (4, [some (.inr 158), some (.inl 0)]), .inr (0, 40, .inl []), .inl (4, [some (.inr 160), some (.inl 0)]), .inr (0, 40, .inl []), .inl (4, [some (.inr 162), some (.inl 0)]), .inr (0, 40, .inl []), .inl (5, [some (.inr 164), some (.inl 0)]), .inr (22, 8, .inr [some 165, some 167, some 169, some 171, some 173, some 175, some 177, some 179]), .inl (4, [some (.inr 166), some (.inl 0)]), .inr (0, 40, .inl []), .inl (4, [some (.inr 168), some (.inl 0)]), .inr (0, 40, .inl []), .inl (4, [some (.inr 170), some (.inl 0)]), .inr (0, 40, .inl []), .inl (4, [some (.inr 172), some (.inl 0)]), .inr (0, 40, .inl []), .inl (4, [some (.inr 174), some (.inl 0)]), .inr (0, 40, .inl []), .inl (4, [some (.inr 176), some (.inl 0)]), .inr (0, 40, .inl []), .inl (4, [some (.inr 178), some (.inl 0)]), .inr (0, 40, .inl []), .inl (4, [some (.inr 180), some (.inl 0)])]
def aevL_6 : List CE := [.inr (0, 40, .inl []), .inl (5, [some (.inr 182), some (.inl 0)]), .inr (22, 8, .inr [some 183, some 185, some 187, some 189, some 191, some 193, some 195, some 197]), .inl (4, [some (.inr 184), some (.inl 0)]), .inr (0, 40, .inl []), .inl (4, [some (.inr 186), some (.inl 0)]), .inr (0, 40, .inl []), .inl (4, [some (.inr 188), some (.inl 0)]), .inr (0, 40, .inl []), .inl (4, [some (.inr 190), some (.inl 0)]), .inr (0, 40, .inl []), .inl (4, [some (.inr 192), some (.inl 0)]), .inr (0, 40, .inl []), .inl (4, [some (.inr 194), some (.inl 0)]), .inr (0, 40, .inl []), .inl (4, [some (.inr 196), some (.inl 0)]), .inr (0, 40, .inl []), .inl (4, [some (.inr 198), some (.inl 0)]), .inr (0, 40, .inl []), .inl (9, [some (.inr 200), some (.inr 201), some (.inr 202), some (.inr 203), some (.inr 204), some (.inl 0)]), .inr (0, 160, .inl []), .inr (0, 160, .inl []), .inr (0, 160, .inl []), .inr (0, 160, .inl []), .inr (0, 3, .inl []), .inl (9, [some (.inr 206), some (.inr 207), some (.inr 208), some (.inr 209), some (.inr 210), some (.inl 0)]), .inr (0, 160, .inl []), .inr (0, 160, .inl []), .inr (0, 160, .inl []), .inr (0, 160, .inl [])]
def aevL_7 : List CE := [.inr (0, 3, .inl []), .inl (9, [some (.inr 212), some (.inr 213), some (.inr 214), some (.inr 215), some (.inr 216), some (.inl 0)]), .inr (0, 160, .inl []), .inr (0, 160, .inl []), .inr (0, 160, .inl []), .inr (0, 160, .inl []), .inr (0, 3, .inl []), .inl (9, [some (.inr 218), some (.inr 219), some (.inr 220), some (.inr 221), some (.inr 222), some (.inl 0)]), .inr (0, 160, .inl []), .inr (0, 160, .inl []), .inr (0, 160, .inl []), .inr (0, 160, .inl []), .inr (0, 3, .inl []), .inl (9, [some (.inr 224), some (.inr 225), some (.inr 226), some (.inr 227), some (.inr 228), some (.inl 0)]), .inr (0, 160, .inl []), .inr (0, 160, .inl []), .inr (0, 160, .inl []), .inr (0, 160, .inl []), .inr (0, 3, .inl []), .inl (9, [some (.inr 230), some (.inr 231), some (.inr 232), some (.inr 233), some (.inr 234), some (.inl 0)]), .inr (0, 160, .inl []), .inr (0, 160, .inl []), .inr (0, 160, .inl []), .inr (0, 160, .inl []), .inr (0, 3, .inl []), .inl (6, [some (.inr 236), some (.inl (-1)), some (.inl 0)]), .inr (0, 40, .inl []), .inl (6, [some (.inr 238), some (.inl (-1)), some (.inl 0)]), .inr (0, 40, .inl []), .inl (6, [some (.inr 240), some (.inl (-1)), some (.inl 0)])]
def aevL_8 : List CE := [.inr (0, 40, .inl []), .inl (6, [some (.inr 242), some (.inl (-1)), some (.inl 0)]), .inr (0, 40, .inl [])]
def aevL : List CE := aevL_0 ++ (aevL_1 ++ (aevL_2 ++ (aevL_3 ++ (aevL_4 ++ (aevL_5 ++ (aevL_6 ++ (aevL_7 ++ (aevL_8))))))))
theorem aev_ok : okLs 0 aevL = true := by decide +kernel
theorem aev_len : aevL.length = 243 := by decide +kernel
abbrev GC (l : Launch) (X : XT) (Z : List Frame → Array Value → State → State → Prop) : GG := (l, X, rmA, 242, 7872, M_X10_init, Z)
section
variable {l : Launch} {X : XT} {Z : List Frame → Array Value → State → State → Prop} {μ : MI} {Q : Option AV → Mem → Prop} {pc np tg idx n : Nat} {lit : Int32} {ls st As rest : List AV} {m : Mem}
theorem AW.VC {t h : Nat} (hk : CVok 10 idx μ n) (hM : Meth l X 100 μ (vR t h :: As) m Q) (hf : P_X10_init.lookup pc = some (.invokevirtual idx, np, tg, lit)) (hs : splV n st = some (As, t, h, rest)) (ht : (Nat.ble 1 t && Nat.ble t 12) = true) (ht2 : Rn (t - 1) = μ.1.cls) (h41 : Nat.ble μ.2.2.1 41 = true) (hr8 : Nat.ble (rest.map catA).sum 8 = true)
    (kk : ∀ (r : Option AV) (m' : Mem), Q r m' → AW (GC l X Z) np ls (r.toList ++ rest) m') : AW (GC l X Z) pc ls st m := by
  rw [Bool.and_eq_true] at ht
  have h41 := Nat.le_of_ble_eq_true h41
  exact AW.callV (G := GC l X Z) (d' := 100) hf hs hk ⟨Nat.le_of_ble_eq_true ht.1, Nat.lt_succ_of_le (Nat.le_of_ble_eq_true ht.2), ht2⟩ ⟨by show 100 + 1 ≤ 200; omega, by show 8 + (μ.2.2.1 + 11) + 60 * 100 ≤ 12000; omega⟩ (Nat.le_of_ble_eq_true hr8) hM kk
theorem AW.TC {k : Nat} (hk : CVok 10 idx μ n) (hM : Meth l X 100 μ (vR 50 k :: As) m Q) (hf : P_X10_init.lookup pc = some (.invokevirtual idx, np, tg, lit)) (hs : splV n st = some (As, 50, k, rest)) (hcl : μ.1.cls = "java/lang/String") (hk14 : k < 14) (h41 : Nat.ble μ.2.2.1 41 = true) (hr8 : Nat.ble (rest.map catA).sum 8 = true)
    (kk : ∀ (r : Option AV) (m' : Mem), Q r m' → AW (GC l X Z) np ls (r.toList ++ rest) m') : AW (GC l X Z) pc ls st m := by
  have h41 := Nat.le_of_ble_eq_true h41
  exact AW.callT (G := GC l X Z) (d' := 100) hf hs hk hcl hk14 ⟨by show 100 + 1 ≤ 200; omega, by show 8 + (μ.2.2.1 + 11) + 60 * 100 ≤ 12000; omega⟩ (Nat.le_of_ble_eq_true hr8) hM kk
def fby (k : Nat) : Int32 := (SBY.getD 0 []).getD k 0
/-- what the class's constructor leaves -/
def FST (m : Mem) : Prop := ∃ a b c, CDS [0, 1, 15] [] a ∧ CDS [2, -6, 17] [] b ∧ CDS [5] [] c ∧ InvC m (OM0 (a, b, c))
theorem aev_walk (h36 : m 36 1 = 0) (h10 : m 1 0 = 1065233) (h14 : m 1 4 = 0) (h18 : m 1 8 = 0) (h110 : m 1 10 = 0) (h16 : m 16 1 = 0) (h02 : m 0 2 = 0) (hs : ∀ i, i < 4 → m (235 + 2 * i) 1 = -1 ∧ m (235 + 2 * i) 2 = 0) (hret : ∀ m', FST m' → AW (GC l X Z) 234 [vR 11 0, vI (nI 53)] [] m') : AW (GC l X Z) 173 [vR 11 0, vI 4] [] m := by
  repeat refine AW.u 175 rfl rfl ?_
  try dsimp only [List.set_cons_zero, List.set_cons_succ, Option.toList_some, Option.toList_none, List.cons_append, List.nil_append]
  show AW (GC l X Z) 175 [vR 11 0, vI (nI 0)] [] m
  refine AW.loop (pc := 175) (σ := Unit) 53 (fun i _ => [vR 11 0, vI (nI i)]) (fun i _ m1 => m1 36 1 = nI i ∧ (∀ k, k < i → m1 37 k = fby k) ∧ ∀ a, a ≠ 36 → a ≠ 37 → m1 a = m a) (fun i _ m1 hi hS ih => ?_) 0 () m (Nat.zero_le _) ⟨h36, fun k hk => absurd hk (Nat.not_lt_zero _), fun _ _ _ => rfl⟩
  obtain ⟨g1, g2, g3⟩ := hS
  repeat refine AW.s rfl ?_
  try dsimp only [List.set_cons_zero, List.set_cons_succ, Option.toList_some, Option.toList_none, List.cons_append, List.nil_append]
  refine AW.ldS (10, 82, "hard long + vowels ; hides rules * 5 ; minds weight ;", 0) rfl (by decide +kernel) rfl rfl rfl ?_
  refine AW.TC k_10_84 (c_slength (k := 0) (by decide) (by decide)) rfl rfl rfl (by decide) rfl rfl (fun r1 m2 hq => ?_)
  obtain ⟨rfl, rfl⟩ := hq
  try dsimp only [List.set_cons_zero, List.set_cons_succ, Option.toList_some, Option.toList_none, List.cons_append, List.nil_append]
  refine AW.b rfl (fun hc => ?_) (fun hc => ?_)
  · have hlt : i < 53 := (nI_ltI (a := i) (b := 53) (by omega) (by decide)).mp hc
    repeat refine AW.s rfl ?_
    try dsimp only [List.set_cons_zero, List.set_cons_succ, Option.toList_some, Option.toList_none, List.cons_append, List.nil_append]
    refine AW.ldS (10, 82, "hard long + vowels ; hides rules * 5 ; minds weight ;", 0) rfl (by decide +kernel) rfl rfl rfl ?_
    repeat refine AW.s rfl ?_
    try dsimp only [List.set_cons_zero, List.set_cons_succ, Option.toList_some, Option.toList_none, List.cons_append, List.nil_append]
    refine AW.TC k_10_90 (c_charAt (k := 0) (j := i) (by decide) (by decide) hlt) rfl rfl rfl (by decide) rfl rfl (fun r1 m3 hq => ?_)
    obtain ⟨rfl, rfl⟩ := hq
    try dsimp only [List.set_cons_zero, List.set_cons_succ, Option.toList_some, Option.toList_none, List.cons_append, List.nil_append]
    refine AW.VC k_10_94 (c_Tput g1 (by omega)) rfl rfl rfl rfl rfl rfl (fun r1 m4 hq => ?_)
    obtain ⟨rfl, rfl⟩ := hq
    rw [if_pos (by omega)]
    try dsimp only [List.set_cons_zero, List.set_cons_succ, Option.toList_some, Option.toList_none, List.cons_append, List.nil_append]
    repeat refine AW.u 175 rfl rfl ?_
    try dsimp only [List.set_cons_zero, List.set_cons_succ, Option.toList_some, Option.toList_none, List.cons_append, List.nil_append]
    rw [show nI i + 1 = nI (i + 1) from nI_add i 1]
    refine ih () _ hlt ⟨mUp_s _ _ _ _, fun k hk => ?_, fun a e1 e2 => ?_⟩
    · rw [mUp_a (by decide)]
      by_cases e : k = i
      · subst e
        rw [mUp_s]
        rfl
      · rw [mUp_n (Or.inr e)]
        exact g2 k (by omega)
    · rw [mUp_a e1, mUp_a e2]
      exact g3 a e1 e2
  · have e53 : i = 53 := by
      have : ¬ i < 53 := fun z => hc ((nI_ltI (a := i) (b := 53) (by omega) (by decide)).mpr z)
      omega
    subst e53
    repeat refine AW.s rfl ?_
    try dsimp only [List.set_cons_zero, List.set_cons_succ, Option.toList_some, Option.toList_none, List.cons_append, List.nil_append]
    refine AW.c rfl (vp_in_nI (n := 0) (by decide) (by decide)) ?_
    try dsimp only [List.set_cons_zero, List.set_cons_succ, Option.toList_some, Option.toList_none, List.cons_append, List.nil_append]
    refine AW.VC k_10_98 (c_read (t := 0) (s := 53) (by decide) (by decide) g1 (by decide) (fun k hk => by rw [g2 k hk]; exact first_by k hk)) rfl rfl rfl rfl rfl rfl (fun r1 m2 hq => ?_)
    obtain ⟨hres, hf, h361⟩ := hq
    rw [tks_c (g' := fby) g2 161 0 (Nat.zero_le _), show tks fby 53 161 0 = FT0 from first_tks] at hres
    obtain ⟨a, b, c, hrd, ca, cb, cc⟩ := first_rd
    rw [hrd] at hres
    rcases hres with ⟨rs, z, -⟩ | ⟨abc, rs, z, rfl, hT⟩
    · cases z
    · cases z
      try dsimp only [List.set_cons_zero, List.set_cons_succ, Option.toList_some, Option.toList_none, List.cons_append, List.nil_append]
      repeat refine AW.s rfl ?_
      try dsimp only [List.set_cons_zero, List.set_cons_succ, Option.toList_some, Option.toList_none, List.cons_append, List.nil_append]
      have gg : ∀ q, q ≠ 36 → q ≠ 37 → q ≠ 38 → q ≠ 39 → q ≠ 40 → q ≠ 41 → (q < 199 ∨ 205 ≤ q) → m2 q = m q := fun q y1 y2 y3 y4 y5 y6 y7 => by
        rw [hf q y1 y3 y4 y5 y6 (by omega)]
        exact g3 q y1 y2
      refine hret _ ⟨a, b, c, ca, cb, cc, InvC0 ?_ ?_ ?_ ?_ ?_ ?_ ?_ ?_ ?_ ?_⟩
      · rw [mUp_a (by decide), mUp_a (by decide), gg 1 (by decide) (by decide) (by decide) (by decide) (by decide) (by decide) (by decide)]; exact h10
      · rw [mUp_a (by decide), mUp_a (by decide), gg 1 (by decide) (by decide) (by decide) (by decide) (by decide) (by decide) (by decide)]; exact h14
      · rw [mUp_a (by decide), mUp_a (by decide), gg 1 (by decide) (by decide) (by decide) (by decide) (by decide) (by decide) (by decide)]; exact h18
      · rw [mUp_a (by decide), mUp_a (by decide), gg 1 (by decide) (by decide) (by decide) (by decide) (by decide) (by decide) (by decide)]; exact h110
      · rw [mUp_a (by decide), mUp_a (by decide), gg 16 (by decide) (by decide) (by decide) (by decide) (by decide) (by decide) (by decide)]; exact h16
      · rw [mUp_n (Or.inr (by decide)), mUp_a (by decide), gg 0 (by decide) (by decide) (by decide) (by decide) (by decide) (by decide) (by decide)]; exact h02
      · exact mUp_s _ _ _ _
      · obtain ⟨en, x1, x2⟩ := hT
        have hh : ∀ q, 199 ≤ q → q ≤ 204 → mUp (mUp m2 36 1 0) 0 4 1 q = m2 q := fun q y1 y2 => by rw [mUp_a (by omega), mUp_a (by omega)]
        refine ⟨en, x1.fr (hh _ (by decide) (by decide)) (hh _ (by decide) (by decide)) (hh _ (by decide) (by decide)) (hh _ (by decide) (by decide)), fun F => ?_⟩
        have ev : ∀ p, p < 3 → tval (mUp (mUp m2 36 1 0) 0 4 1) 199 en p F = tval m2 199 en p F := fun p hp => tval_eq x1 hp (hh _ (by decide) (by decide)) (hh _ (by decide) (by decide)) (hh _ (by decide) (by decide)) (fun _ _ => rfl)
        rw [ev 0 (by decide), ev 1 (by decide), ev 2 (by decide)]
        exact x2 F
      · rw [mUp_a (by decide)]
        exact mUp_s _ _ _ _
      · intro i hi
        rw [mUp_a (by omega), mUp_a (by omega), gg (235 + 2 * i) (by omega) (by omega) (by omega) (by omega) (by omega) (by omega) (by omega)]
        exact hs i hi
end

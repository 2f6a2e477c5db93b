-- ===== the model =====
def RepM (m : Mem) (σ : Sg) : Prop :=
  m 243 0 = nI (σ 0 0) ∧ m 243 1 = nI (σ 0 1) ∧ m 243 5 = nI (σ 0 2) ∧ m 243 9 = nI (σ 0 3) ∧ m 243 14 = nI (σ 0 4) ∧
  (∀ w, w < σ 0 1 → m 245 w = nI (σ 1 w) ∧ m 246 w = nI (σ 2 w) ∧ ∀ k, k < σ 1 w → m 244 (10 * w + k) = nI (σ (10 + w) k)) ∧
  (∀ r, r < σ 0 2 → m 247 r = nI (σ 3 r) ∧ m 248 r = nI (σ 4 r) ∧ m 249 r = nI (σ 5 r)) ∧ ∀ i, i < σ 0 3 → m 250 i = nI (σ 6 i)
theorem RepM.fr {m m' : Mem} {σ : Sg} (h : RepM m σ) (h0 : m' 243 0 = m 243 0) (h1 : m' 243 1 = m 243 1) (h5 : m' 243 5 = m 243 5) (h9 : m' 243 9 = m 243 9) (h14 : m' 243 14 = m 243 14) (hf : ∀ a, 244 ≤ a → a ≤ 250 → m' a = m a) : RepM m' σ := by
  obtain ⟨a1, a2, a3, a4, a5, a6, a7, a8⟩ := h
  refine ⟨by rw [h0]; exact a1, by rw [h1]; exact a2, by rw [h5]; exact a3, by rw [h9]; exact a4, by rw [h14]; exact a5, fun w hw => ?_, fun r hr => ?_, fun i hi => ?_⟩
  · rw [hf 244 (by decide) (by decide), hf 245 (by decide) (by decide), hf 246 (by decide) (by decide)]; exact a6 w hw
  · rw [hf 247 (by decide) (by decide), hf 248 (by decide) (by decide), hf 249 (by decide) (by decide)]; exact a7 r hr
  · rw [hf 250 (by decide) (by decide)]; exact a8 i hi
/-- what turning changes -/
def FrT (m m' : Mem) : Prop := (∀ a, a ≠ 243 → a ≠ 262 → a ≠ 263 → m' a = m a) ∧ ∀ k, k ≠ 36 → m' 243 k = m 243 k
/-- what saying changes -/
def FrS (m m' : Mem) : Prop := (∀ a, a ≠ 243 → a ≠ 260 → a ≠ 261 → a ≠ 262 → a ≠ 263 → m' a = m a) ∧ ∀ k, k ≠ 36 → m' 243 k = m 243 k
theorem FrT.rf {m : Mem} : FrT m m := ⟨fun _ _ _ _ => rfl, fun _ _ => rfl⟩
theorem FrS.rf {m : Mem} : FrS m m := ⟨fun _ _ _ _ _ _ => rfl, fun _ _ => rfl⟩
theorem FrT.tr {m m' m'' : Mem} (h1 : FrT m m') (h2 : FrT m' m'') : FrT m m'' := ⟨fun a x y z => by rw [h2.1 a x y z, h1.1 a x y z], fun k q => by rw [h2.2 k q, h1.2 k q]⟩
theorem FrS.tr {m m' m'' : Mem} (h1 : FrS m m') (h2 : FrS m' m'') : FrS m m'' := ⟨fun a x y z u v => by rw [h2.1 a x y z u v, h1.1 a x y z u v], fun k q => by rw [h2.2 k q, h1.2 k q]⟩
theorem FrT.S {m m' : Mem} (h : FrT m m') : FrS m m' := ⟨fun a x _ _ u v => h.1 a x u v, h.2⟩
theorem RepM.T {m m' : Mem} {σ : Sg} (h : RepM m σ) (hf : FrT m m') : RepM m' σ := h.fr (hf.2 0 (by decide)) (hf.2 1 (by decide)) (hf.2 5 (by decide)) (hf.2 9 (by decide)) (hf.2 14 (by decide)) (fun a h1 h2 => hf.1 a (by omega) (by omega) (by omega))
theorem RepM.S {m m' : Mem} {σ : Sg} (h : RepM m σ) (hf : FrS m m') : RepM m' σ := h.fr (hf.2 0 (by decide)) (hf.2 1 (by decide)) (hf.2 5 (by decide)) (hf.2 9 (by decide)) (hf.2 14 (by decide)) (fun a h1 h2 => hf.1 a (by omega) (by omega) (by omega) (by omega) (by omega))
/-- what is being turned -/
def RTn (m : Mem) (o : Option (List Nat)) : Prop := match o with
  | none => m 243 36 = -3
  | some xs => m 243 36 = nI xs.length ∧ RLn (m 262) xs
theorem c_isIn {l : Launch} {X : XT} {d : Nat} {v a b : Int32} {m : Mem} : Meth l X d M_X11_isIn [vI v, vI a, vI b] m (fun r m' => r = some (vI (if v < a then 0 else if b < v then 0 else 1)) ∧ m' = m) := by
  refine E_X11_isIn (ls := [vI v, vI a, vI b]) rfl rfl ?_
  repeat refine AW.s rfl ?_
  try dsimp only [List.set_cons_zero, List.set_cons_succ, Option.toList_some, Option.toList_none, List.cons_append, List.nil_append]
  refine AW.b rfl (fun hc => ?_) (fun hc => ?_)
  · have e1 := hc
    repeat refine AW.s rfl ?_
    try dsimp only [List.set_cons_zero, List.set_cons_succ, Option.toList_some, Option.toList_none, List.cons_append, List.nil_append]
    exact AW.ri rfl rfl rfl ⟨by rw [if_pos e1], rfl⟩
  · have e1 := hc
    repeat refine AW.s rfl ?_
    try dsimp only [List.set_cons_zero, List.set_cons_succ, Option.toList_some, Option.toList_none, List.cons_append, List.nil_append]
    refine AW.b rfl (fun hc => ?_) (fun hc => ?_)
    · have e2 := hc
      repeat refine AW.s rfl ?_
      try dsimp only [List.set_cons_zero, List.set_cons_succ, Option.toList_some, Option.toList_none, List.cons_append, List.nil_append]
      exact AW.ri rfl rfl rfl ⟨by rw [if_neg e1, if_pos e2], rfl⟩
    · have e2 := hc
      repeat refine AW.s rfl ?_
      try dsimp only [List.set_cons_zero, List.set_cons_succ, Option.toList_some, Option.toList_none, List.cons_append, List.nil_append]
      exact AW.ri rfl rfl rfl ⟨by rw [if_neg e1, if_neg e2], rfl⟩
theorem in_nI {v : Int32} {n : Nat} (hn : n < 2 ^ 31) : (if v < 0 then (0 : Int32) else if nI n - 1 < v then 0 else 1) = 1 ↔ ∃ j, j < n ∧ v = nI j := by
  by_cases h0 : v < 0
  · rw [if_pos h0]
    constructor
    · intro h; exact absurd h (by decide)
    · rintro ⟨j, hj, rfl⟩; exact absurd h0 (nI_pos (by omega))
  · rw [if_neg h0]
    obtain ⟨j, hj, rfl⟩ := nI_of h0
    cases n with
    | zero =>
      rw [if_pos (show nI 0 - 1 < nI j from Int32.lt_of_lt_of_le (b := 0) (by decide) (nI_pos' hj))]
      constructor
      · intro h; exact absurd h (by decide)
      · rintro ⟨q, hq, -⟩; omega
    | succ n =>
      rw [nI_pred]
      by_cases h1 : n < j
      · rw [if_pos (nI_lt h1 hj)]
        constructor
        · intro h; exact absurd h (by decide)
        · rintro ⟨q, hq, e⟩
          have := (nI_eq hj (by omega)).mp e
          omega
      · rw [if_neg (fun q => h1 ((nI_ltI (by omega) hj).mp q))]
        exact ⟨fun _ => ⟨j, by omega, rfl⟩, fun _ => rfl⟩
theorem in_nI0 {v : Int32} {n : Nat} (hn : n < 2 ^ 31) (h : ¬ ∃ j, j < n ∧ v = nI j) : (if v < 0 then (0 : Int32) else if nI n - 1 < v then 0 else 1) = 0 := by
  by_cases h0 : v < 0
  · rw [if_pos h0]
  · rw [if_neg h0]
    by_cases h1 : nI n - 1 < v
    · rw [if_pos h1]
    · exact absurd ((in_nI hn).mp (by rw [if_neg h0, if_neg h1])) h
/-- 1 if it is one of the first n numbers -/
def inB (v : Int32) (n : Nat) : Int32 := if v < 0 then 0 else if nI n - 1 < v then 0 else 1
theorem inB_1 {v : Int32} {n : Nat} (hn : n < 2 ^ 31) : inB v n = 1 ↔ ∃ j, j < n ∧ v = nI j := in_nI hn
theorem inB_0 {v : Int32} {n : Nat} (hn : n < 2 ^ 31) (h : ¬ inB v n = 1) : inB v n = 0 := in_nI0 hn (fun q => h ((in_nI hn).mpr q))
theorem c_MisWord {l : Launch} {X : XT} {d : Nat} {v : Int32} {m : Mem} {σ : Sg} (hd : 1 ≤ d) (hs : RepM m σ) : Meth l X d M_X11_isWord [vR 12 243, vI v] m (fun r m' => r = some (vI (inB v (σ 0 1))) ∧ m' = m) := by
  obtain ⟨d, rfl⟩ : ∃ e, d = e + 1 := ⟨d - 1, by omega⟩
  refine E_X11_isWord (ls := [vR 12 243, vI v]) rfl rfl ?_
  repeat refine AW.s rfl ?_
  try dsimp only [List.set_cons_zero, List.set_cons_succ, Option.toList_some, Option.toList_none, List.cons_append, List.nil_append]
  rw [hs.2.1]
  refine AW.S k_11_7 (c_isIn) rfl rfl rfl rfl (fun r1 m1 hq => ?_)
  obtain ⟨rfl, rfl⟩ := hq
  try dsimp only [List.set_cons_zero, List.set_cons_succ, Option.toList_some, Option.toList_none, List.cons_append, List.nil_append]
  have hn : narrow .boolean (.int (inB v (σ 0 1))) = .int (inB v (σ 0 1)) := by
    unfold inB
    split
    · rfl
    · split <;> rfl
  exact AW.ri rfl rfl hn ⟨rfl, rfl⟩
theorem c_MisRule {l : Launch} {X : XT} {d : Nat} {v : Int32} {m : Mem} {σ : Sg} (hd : 1 ≤ d) (hs : RepM m σ) : Meth l X d M_X11_isRule [vR 12 243, vI v] m (fun r m' => r = some (vI (inB v (σ 0 2))) ∧ m' = m) := by
  obtain ⟨d, rfl⟩ : ∃ e, d = e + 1 := ⟨d - 1, by omega⟩
  refine E_X11_isRule (ls := [vR 12 243, vI v]) rfl rfl ?_
  repeat refine AW.s rfl ?_
  try dsimp only [List.set_cons_zero, List.set_cons_succ, Option.toList_some, Option.toList_none, List.cons_append, List.nil_append]
  rw [hs.2.2.1]
  refine AW.S k_11_7 (c_isIn) rfl rfl rfl rfl (fun r1 m1 hq => ?_)
  obtain ⟨rfl, rfl⟩ := hq
  try dsimp only [List.set_cons_zero, List.set_cons_succ, Option.toList_some, Option.toList_none, List.cons_append, List.nil_append]
  have hn : narrow .boolean (.int (inB v (σ 0 2))) = .int (inB v (σ 0 2)) := by
    unfold inB
    split
    · rfl
    · split <;> rfl
  exact AW.ri rfl rfl hn ⟨rfl, rfl⟩
theorem c_MisVowel {l : Launch} {X : XT} {d : Nat} {c V : Nat} {m : Mem} (hV : m 243 0 = nI V) (hV2 : V < 2 ^ 26) (hc26 : c < 26) : Meth l X d M_X11_isVowel [vR 12 243, vI (nI c)] m (fun r m' => r = some (vI (if V.testBit c then 1 else 0)) ∧ m' = m) := by
  refine E_X11_isVowel (ls := [vR 12 243, vI (nI c)]) rfl rfl ?_
  repeat refine AW.s rfl ?_
  try dsimp only [List.set_cons_zero, List.set_cons_succ, Option.toList_some, Option.toList_none, List.cons_append, List.nil_append]
  rw [hV, vow_s (by omega) (by omega)]
  by_cases q : V.testBit c = true
  · rw [show nI (if V.testBit c = true then 1 else 0) = 1 by rw [if_pos q]; rfl, if_pos q]
    refine AW.b rfl (fun hc => ?_) (fun hc => ?_)
    · repeat refine AW.s rfl ?_
      try dsimp only [List.set_cons_zero, List.set_cons_succ, Option.toList_some, Option.toList_none, List.cons_append, List.nil_append]
      exact AW.ri rfl rfl rfl ⟨rfl, rfl⟩
    · exact absurd rfl hc
  · rw [show nI (if V.testBit c = true then 1 else 0) = 0 by rw [if_neg q]; rfl, if_neg q]
    refine AW.b rfl (fun hc => ?_) (fun hc => ?_)
    · exact absurd hc (by decide)
    · repeat refine AW.s rfl ?_
      try dsimp only [List.set_cons_zero, List.set_cons_succ, Option.toList_some, Option.toList_none, List.cons_append, List.nil_append]
      exact AW.ri rfl rfl rfl ⟨rfl, rfl⟩
theorem c_Mbegin {l : Launch} {X : XT} {d : Nat} {w : Nat} {m : Mem} {σ : Sg} (hs : RepM m σ) (hσ : WF σ) (hw : w < σ 0 1) : Meth l X d M_X11_begin [vR 12 243, vI (nI w)] m (fun r m' => r = none ∧ RTn m' (some (wl σ w)) ∧ FrT m m') := by
  obtain ⟨-, -, -, -, -, a6, -⟩ := hs
  obtain ⟨q1, q2, q3⟩ := a6 w hw
  obtain ⟨g1, g2, -, g4⟩ := hσ.2.2.2.2.2.1 w hw
  have hw8 : w < 8 := Nat.lt_of_lt_of_le hw hσ.2.1
  refine E_X11_begin (ls := [vR 12 243, vI (nI w), vU]) rfl rfl ?_
  repeat refine AW.s rfl ?_
  try dsimp only [List.set_cons_zero, List.set_cons_succ, Option.toList_some, Option.toList_none, List.cons_append, List.nil_append]
  refine AW.c rfl (vp_in_nI (by omega) (by decide)) ?_
  try dsimp only [List.set_cons_zero, List.set_cons_succ, Option.toList_some, Option.toList_none, List.cons_append, List.nil_append]
  rw [nI_clamp (by omega), show m (243 + 2) w = nI (σ 1 w) from q1]
  repeat refine AW.u 12 rfl rfl ?_
  try dsimp only [List.set_cons_zero, List.set_cons_succ, Option.toList_some, Option.toList_none, List.cons_append, List.nil_append]
  refine AW.loop (pc := 12) (σ := Unit) (σ 1 w) (fun i _ => [vR 12 243, vI (nI w), vI (nI i)]) (fun i _ m1 => FrT m m1 ∧ m1 243 36 = nI (σ 1 w) ∧ ∀ k, k < i → m1 262 k = nI (σ (10 + w) k)) (fun i _ m1 hi hm1 ih => ?_) 0 () _ (Nat.zero_le _) ⟨⟨fun a h1 _ _ => mUp_a h1, fun k hk => mUp_n (Or.inr hk)⟩, mUp_s _ _ _ _, fun k hk => absurd hk (by omega)⟩
  obtain ⟨hf, hz, hv⟩ := hm1
  repeat refine AW.s rfl ?_
  try dsimp only [List.set_cons_zero, List.set_cons_succ, Option.toList_some, Option.toList_none, List.cons_append, List.nil_append]
  rw [hz]
  refine AW.b rfl (fun hc => ?_) (fun hc => ?_)
  · have hlt : i < σ 1 w := (nI_ltI (by omega) (by omega)).mp hc
    repeat refine AW.s rfl ?_
    try dsimp only [List.set_cons_zero, List.set_cons_succ, Option.toList_some, Option.toList_none, List.cons_append, List.nil_append]
    rw [show (10 : Int32) * nI w = nI (10 * w) from pk_mul 10 w, nI_add]
    refine AW.c rfl (vp_in_nI (by omega) (by decide)) ?_
    try dsimp only [List.set_cons_zero, List.set_cons_succ, Option.toList_some, Option.toList_none, List.cons_append, List.nil_append]
    rw [nI_clamp (by omega), show m1 (243 + 1) (10 * w + i) = nI (σ (10 + w) i) by rw [hf.1 _ (by decide) (by decide) (by decide)]; exact q3 i hlt]
    refine AW.c rfl (⟨vp_in_nI (by omega) (by decide), fun q => absurd q (by decide)⟩) ?_
    try dsimp only [List.set_cons_zero, List.set_cons_succ, Option.toList_some, Option.toList_none, List.cons_append, List.nil_append]
    rw [nI_clamp (by omega)]
    repeat refine AW.u 12 rfl rfl ?_
    try dsimp only [List.set_cons_zero, List.set_cons_succ, Option.toList_some, Option.toList_none, List.cons_append, List.nil_append]
    rw [nI_1]
    refine ih () _ hlt ⟨hf.tr ⟨fun a _ h2 _ => mUp_a h2, fun k _ => mUp_n (Or.inl (by decide))⟩, by rw [mUp_a (by decide)]; exact hz, fun k hk => ?_⟩
    by_cases e : k = i
    · subst e; exact mUp_s _ _ _ _
    · rw [mUp_n (Or.inr e)]; exact hv k (by omega)
  · have : i = σ 1 w := by
      have : ¬ i < σ 1 w := fun q => hc ((nI_ltI (by omega) (by omega)).mpr q)
      omega
    subst this
    exact AW.rv rfl rfl ⟨rfl, ⟨by rw [wl_len]; exact hz, fun k x hk => by obtain ⟨h1, rfl⟩ := wl_get hk; exact hv k h1⟩, hf⟩

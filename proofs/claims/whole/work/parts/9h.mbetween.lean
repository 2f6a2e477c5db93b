-- ===== the model's reader: signs, keys, between, closes, ahead =====
theorem sgnB_is {b : Nat} (h : sgnB b = true) : b = 40 ∨ b = 41 ∨ b = 59 ∨ b = 43 ∨ b = 45 ∨ b = 42 ∨ b = 60 ∨ b = 61 := by
  unfold sgnB at h
  simp only [Bool.or_eq_true, beq_iff_eq] at h
  omega
theorem sgnB_40 {b : Nat} (h : sgnB b = true) : 40 ≤ b ∧ b < 62 := by
  have := sgnB_is h
  omega
section
variable {k v tok wor : Int32}
theorem MTk.sign {b : Nat} (h : MTk k v tok wor) (hb : sgnB b = true) : (tok = 4 ∧ wor = nI b) ↔ k = nI b := by
  have hb2 := sgnB_40 hb
  have hne : ∀ j, j < 40 → ¬ nI j = nI b := fun j hj z => by have := (nI_eq (by omega) (by omega)).mp z; omega
  rcases h with ⟨rfl, rfl⟩ | ⟨rfl, rfl⟩ | ⟨rfl, rfl, rfl⟩ | ⟨rfl, rfl, rfl⟩ | ⟨j, hj, rfl, rfl, rfl⟩ | ⟨b', h1, h2, rfl, rfl, rfl⟩
  · exact ⟨fun z => absurd z.1 (by decide), fun z => absurd z (hne 0 (by decide))⟩
  · exact ⟨fun z => absurd z.1 (by decide), fun z => absurd z (hne 1 (by decide))⟩
  · exact ⟨fun z => absurd z.1 (by decide), fun z => absurd z (hne 2 (by decide))⟩
  · exact ⟨fun z => absurd z.1 (by decide), fun z => absurd z (hne 3 (by decide))⟩
  · exact ⟨fun z => absurd z.1 (by decide), fun z => absurd z (hne (4 + j) (by omega))⟩
  · exact ⟨fun z => z.2, fun z => ⟨rfl, z⟩⟩
theorem MTk.key {j : Nat} (h : MTk k v tok wor) (hj : j < 6) : (tok = 3 ∧ wor = nI j) ↔ k = nI (4 + j) := by
  have hne : ∀ i, i < 256 → i ≠ 4 + j → ¬ nI i = nI (4 + j) := fun i hi hn z => by have := (nI_eq (by omega) (by omega)).mp z; omega
  rcases h with ⟨rfl, rfl⟩ | ⟨rfl, rfl⟩ | ⟨rfl, rfl, rfl⟩ | ⟨rfl, rfl, rfl⟩ | ⟨i, hi, rfl, rfl, rfl⟩ | ⟨b', h1, h2, rfl, rfl, rfl⟩
  · exact ⟨fun z => absurd z.1 (by decide), fun z => absurd z (hne 0 (by decide) (by omega))⟩
  · exact ⟨fun z => absurd z.1 (by decide), fun z => absurd z (hne 1 (by decide) (by omega))⟩
  · exact ⟨fun z => absurd z.1 (by decide), fun z => absurd z (hne 2 (by decide) (by omega))⟩
  · exact ⟨fun z => absurd z.1 (by decide), fun z => absurd z (hne 3 (by decide) (by omega))⟩
  · refine ⟨fun z => ?_, fun z => ?_⟩
    · have := (nI_eq (by omega) (by omega)).mp z.2
      rw [this]
    · have := (nI_eq (by omega) (by omega)).mp z
      exact ⟨rfl, by rw [show i = j by omega]⟩
  · have := sgnB_40 h1
    exact ⟨fun z => absurd z.1 (by decide), fun z => absurd z (hne b' (by omega) (by omega))⟩
theorem MTk.val (h : MTk k v tok wor) : (tok = 1 ↔ k = 2) ∧ (tok = 2 ↔ k = 3) ∧ ((k = 2 ∨ k = 3) → wor = v) ∧ (tok = 3 → ∃ j, j < 6 ∧ k = nI (4 + j)) ∧ (tok = 5 ↔ k = 0) := by
  have hne : ∀ i j, i < 256 → j < 256 → i ≠ j → ¬ nI i = nI j := fun i j hi hj hn z => hn ((nI_eq (by omega) (by omega)).mp z)
  rcases h with ⟨rfl, rfl⟩ | ⟨rfl, rfl⟩ | ⟨rfl, rfl, rfl⟩ | ⟨rfl, rfl, rfl⟩ | ⟨i, hi, rfl, rfl, rfl⟩ | ⟨b', h1, h2, rfl, rfl, rfl⟩
  · exact ⟨by decide, by decide, fun z => absurd z (by decide), fun z => absurd z (by decide), by decide⟩
  · exact ⟨by decide, by decide, fun z => absurd z (by decide), fun z => absurd z (by decide), by decide⟩
  · exact ⟨by decide, by decide, fun _ => rfl, fun z => absurd z (by decide), by decide⟩
  · exact ⟨by decide, by decide, fun _ => rfl, fun z => absurd z (by decide), by decide⟩
  · refine ⟨⟨fun z => absurd z (by decide), fun z => absurd z (hne _ 2 (by omega) (by decide) (by omega))⟩, ⟨fun z => absurd z (by decide), fun z => absurd z (hne _ 3 (by omega) (by decide) (by omega))⟩, fun z => ?_, fun _ => ⟨i, hi, rfl⟩, ⟨fun z => absurd z (by decide), fun z => absurd z (hne _ 0 (by omega) (by decide) (by omega))⟩⟩
    rcases z with z | z
    · exact absurd z (hne _ 2 (by omega) (by decide) (by omega))
    · exact absurd z (hne _ 3 (by omega) (by decide) (by omega))
  · have := sgnB_40 h1
    refine ⟨⟨fun z => absurd z (by decide), fun z => absurd z (hne _ 2 (by omega) (by decide) (by omega))⟩, ⟨fun z => absurd z (by decide), fun z => absurd z (hne _ 3 (by omega) (by decide) (by omega))⟩, fun z => ?_, fun z => absurd z (by decide), ⟨fun z => absurd z (by decide), fun z => absurd z (hne _ 0 (by omega) (by decide) (by omega))⟩⟩
    rcases z with z | z
    · exact absurd z (hne _ 2 (by omega) (by decide) (by omega))
    · exact absurd z (hne _ 3 (by omega) (by decide) (by omega))
end
/-- well-formed: what waits, what is open, how deep -/
def WI (W : List Nat) (op dp : Nat) : Prop := (∀ o, o ∈ W → o = 30 ∨ (10 ≤ o ∧ o ≤ 18)) ∧ dp = W.count 30 ∧ op = fc W + dp ∧ op ≤ 5
theorem WI.le {W : List Nat} {op dp o : Nat} (h : WI W op dp) (ho : o ∈ W) : o ≤ 30 := by
  rcases h.1 o ho with z | z <;> omega
theorem tkW (r : Nat) (W : List Nat) : ft r W ++ fl r W = W := List.takeWhile_append_dropWhile
theorem ft_mem {r o : Nat} (W : List Nat) (h : o ∈ ft r W) : fb r o = true := by
  induction W with
  | nil => exact absurd h (by simp [ft])
  | cons a W ih =>
    unfold ft at h
    rw [List.takeWhile_cons] at h
    by_cases q : fb r a = true
    · rw [if_pos q] at h
      rcases List.mem_cons.mp h with z | z
      · rw [z]; exact q
      · exact ih z
    · rw [if_neg q] at h
      exact absurd h (by simp)
theorem ft_30 {r : Nat} (hr : 1 ≤ r) (W : List Nat) : (ft r W).count 30 = 0 := by
  rw [List.count_eq_zero]
  intro h
  have : fb r 30 = true := ft_mem W h
  have := of_decide_eq_true this
  have e : rk 30 = 0 := by decide
  omega
theorem WI.fls {W : List Nat} {op dp r : Nat} (h : WI W op dp) (hr : 1 ≤ r) : WI (fl r W) (op - fc (ft r W)) dp ∧ fc (ft r W) ≤ op ∧ (fl r W).length ≤ W.length ∧ (fl r W).length + (ft r W).length = W.length := by
  obtain ⟨h1, h2, h3, h4⟩ := h
  have e := tkW r W
  have e1 : fc W = fc (ft r W) + fc (fl r W) := by rw [← fc_app, e]
  have e2 : W.count 30 = (fl r W).count 30 := by
    have : W.count 30 = (ft r W ++ fl r W).count 30 := by rw [e]
    rw [this, List.count_append, ft_30 hr, Nat.zero_add]
  have e3 : (fl r W).length + (ft r W).length = W.length := by
    have : W.length = (ft r W ++ fl r W).length := by rw [e]
    rw [this, List.length_append]
    omega
  refine ⟨⟨fun o ho => h1 o (by rw [← e]; exact List.mem_append_right _ ho), by rw [h2, e2], by omega, by omega⟩, by omega, by omega, e3⟩
theorem fl_30 {W : List Nat} (h : ∀ o, o ∈ W → o = 30 ∨ (10 ≤ o ∧ o ≤ 18)) (hc : ¬ W.count 30 = 0) : ∃ W', fl 1 W = 30 :: W' := by
  induction W with
  | nil => exact absurd rfl hc
  | cons a W ih =>
    unfold fl
    rw [List.dropWhile_cons]
    rcases h a List.mem_cons_self with z | z
    · subst z
      exact ⟨W, rfl⟩
    · have hb : fb 1 a = true := by
        refine decide_eq_true ?_
        rcases (show a = 10 ∨ a = 11 ∨ a = 12 ∨ a = 13 ∨ a = 14 ∨ a = 15 ∨ a = 16 ∨ a = 17 ∨ a = 18 by omega) with e | e | e | e | e | e | e | e | e <;> subst e <;> decide
      rw [hb]
      exact ih (fun o ho => h o (List.mem_cons_of_mem _ ho)) (by rw [List.count_cons_of_ne (by omega)] at hc; exact hc)
section
variable {l : Launch} {X : XT} {d : Nat} {m : Mem} {q op dp : Nat} {W : List Nat} {O : List Int32} {c : Nat → Bool} {k v : Int32}
theorem c_MisSign {b : Nat} (h : MTk k v (m 243 18) (m 243 19)) (hb : sgnB b = true) : Meth l X d M_X11_isSign [vR 12 243, vI (nI b)] m (fun r m' => r = some (vI (if k = nI b then 1 else 0)) ∧ m' = m) := by
  have hs := h.sign hb
  refine E_X11_isSign (ls := [vR 12 243, vI (nI b)]) rfl rfl ?_
  repeat refine AW.s rfl ?_
  try dsimp only [List.set_cons_zero, List.set_cons_succ, Option.toList_some, Option.toList_none, List.cons_append, List.nil_append]
  refine AW.b rfl (fun hc => ?_) (fun hc => ?_)
  · have e1 := hc
    repeat refine AW.s rfl ?_
    try dsimp only [List.set_cons_zero, List.set_cons_succ, Option.toList_some, Option.toList_none, List.cons_append, List.nil_append]
    refine AW.b rfl (fun hc => ?_) (fun hc => ?_)
    · rw [if_pos (hs.mp ⟨e1, hc⟩)]
      repeat refine AW.s rfl ?_
      try dsimp only [List.set_cons_zero, List.set_cons_succ, Option.toList_some, Option.toList_none, List.cons_append, List.nil_append]
      exact AW.ri rfl rfl rfl ⟨rfl, rfl⟩
    · rw [if_neg (fun z => hc (hs.mpr z).2)]
      repeat refine AW.s rfl ?_
      try dsimp only [List.set_cons_zero, List.set_cons_succ, Option.toList_some, Option.toList_none, List.cons_append, List.nil_append]
      exact AW.ri rfl rfl rfl ⟨rfl, rfl⟩
  · rw [if_neg (fun z => hc (hs.mpr z).1)]
    repeat refine AW.s rfl ?_
    try dsimp only [List.set_cons_zero, List.set_cons_succ, Option.toList_some, Option.toList_none, List.cons_append, List.nil_append]
    exact AW.ri rfl rfl rfl ⟨rfl, rfl⟩
theorem c_MisKey {j : Nat} (h : MTk k v (m 243 18) (m 243 19)) (hj : j < 6) : Meth l X d M_X11_isKey [vR 12 243, vI (nI j)] m (fun r m' => r = some (vI (if k = nI (4 + j) then 1 else 0)) ∧ m' = m) := by
  have hs := h.key hj
  refine E_X11_isKey (ls := [vR 12 243, vI (nI j)]) rfl rfl ?_
  repeat refine AW.s rfl ?_
  try dsimp only [List.set_cons_zero, List.set_cons_succ, Option.toList_some, Option.toList_none, List.cons_append, List.nil_append]
  refine AW.b rfl (fun hc => ?_) (fun hc => ?_)
  · have e1 := hc
    repeat refine AW.s rfl ?_
    try dsimp only [List.set_cons_zero, List.set_cons_succ, Option.toList_some, Option.toList_none, List.cons_append, List.nil_append]
    refine AW.b rfl (fun hc => ?_) (fun hc => ?_)
    · rw [if_pos (hs.mp ⟨e1, hc⟩)]
      repeat refine AW.s rfl ?_
      try dsimp only [List.set_cons_zero, List.set_cons_succ, Option.toList_some, Option.toList_none, List.cons_append, List.nil_append]
      exact AW.ri rfl rfl rfl ⟨rfl, rfl⟩
    · rw [if_neg (fun z => hc (hs.mpr z).2)]
      repeat refine AW.s rfl ?_
      try dsimp only [List.set_cons_zero, List.set_cons_succ, Option.toList_some, Option.toList_none, List.cons_append, List.nil_append]
      exact AW.ri rfl rfl rfl ⟨rfl, rfl⟩
  · rw [if_neg (fun z => hc (hs.mpr z).1)]
    repeat refine AW.s rfl ?_
    try dsimp only [List.set_cons_zero, List.set_cons_succ, Option.toList_some, Option.toList_none, List.cons_append, List.nil_append]
    exact AW.ri rfl rfl rfl ⟨rfl, rfl⟩
theorem c_Mbetween (hd : 3 ≤ d) (h : MR m q W O op dp c) (hw : WI W op dp) (hq18 : q < 18) (hb : W.length + O.length < 160) (ht : MTk k v (m 243 18) (m 243 19)) : Meth l X d M_X11_between [vR 12 243] m (fun r m' => (((∀ o, opc k = some o → rk o = 4 ∧ c dp = true) ∧ r = some (vI 0) ∧ m' = m) ∨ ∃ o, opc k = some o ∧ ¬ (rk o = 4 ∧ c dp = true) ∧ r = some (vI 1) ∧ MR m' q (o :: fl (rk o) W) (O ++ (ft (rk o) W).map nI) (op - fc (ft (rk o) W)) dp (cUp c dp (cN o (c dp))) ∧ FT m m' q)) := by
  obtain ⟨d, rfl⟩ : ∃ e, d = e + 1 := ⟨d - 1, by omega⟩
  have hdp : dp ≤ 5 := by have := hw.2.2; omega
  have tail : ∀ o, opc k = some o → AW (GM l X (d + 1) M_X11_between (fun r m' => (((∀ o, opc k = some o → rk o = 4 ∧ c dp = true) ∧ r = some (vI 0) ∧ m' = m) ∨ ∃ o, opc k = some o ∧ ¬ (rk o = 4 ∧ c dp = true) ∧ r = some (vI 1) ∧ MR m' q (o :: fl (rk o) W) (O ++ (ft (rk o) W).map nI) (op - fc (ft (rk o) W)) dp (cUp c dp (cN o (c dp))) ∧ FT m m' q))) 97 [vR 12 243, vU] [vI (nI o)] m := by
    intro o ho
    obtain ⟨o1, o2, o3⟩ := opc_rk ho
    have ho30 : o ≤ 30 := by omega
    have at125 : ¬ (rk o = 4 ∧ c dp = true) → AW (GM l X (d + 1) M_X11_between (fun r m' => (((∀ o, opc k = some o → rk o = 4 ∧ c dp = true) ∧ r = some (vI 0) ∧ m' = m) ∨ ∃ o, opc k = some o ∧ ¬ (rk o = 4 ∧ c dp = true) ∧ r = some (vI 1) ∧ MR m' q (o :: fl (rk o) W) (O ++ (ft (rk o) W).map nI) (op - fc (ft (rk o) W)) dp (cUp c dp (cN o (c dp))) ∧ FT m m' q))) 125 [vR 12 243, vI (nI o)] [] m := by
      intro hn
      repeat refine AW.s rfl ?_
      try dsimp only [List.set_cons_zero, List.set_cons_succ, Option.toList_some, Option.toList_none, List.cons_append, List.nil_append]
      refine AW.S k_11_119 ((c_Mrank (o := o) ho30)) rfl rfl rfl rfl (fun r1 m2 hq => ?_)
      obtain ⟨rfl, hm2⟩ := hq
      rw [hm2]
      obtain ⟨y1, y2, y3, y4⟩ := hw.fls (r := rk o) o2
      repeat refine AW.s rfl ?_
      try dsimp only [List.set_cons_zero, List.set_cons_succ, Option.toList_some, Option.toList_none, List.cons_append, List.nil_append]
      refine AW.V k_11_143 ((c_MdoAll (r := rk o) (by omega) h hq18 o2 (by omega) (by omega) (fun o ho => hw.le ho) (by have := hw.2.2; omega) hw.2.2.2)) rfl rfl rfl rfl rfl rfl (fun r1 m3 hq => ?_)
      obtain ⟨rfl, R3, F3⟩ := hq
      repeat refine AW.s rfl ?_
      try dsimp only [List.set_cons_zero, List.set_cons_succ, Option.toList_some, Option.toList_none, List.cons_append, List.nil_append]
      refine AW.V k_11_146 ((c_Mawait (o := o) R3 (by omega))) rfl rfl rfl rfl rfl rfl (fun r1 m4 hq => ?_)
      obtain ⟨rfl, R4, F4⟩ := hq
      have F5 := F3.tr F4
      have end179 : ∀ b : Bool, b = cN o (c dp) → AW (GM l X (d + 1) M_X11_between (fun r m' => (((∀ o, opc k = some o → rk o = 4 ∧ c dp = true) ∧ r = some (vI 0) ∧ m' = m) ∨ ∃ o, opc k = some o ∧ ¬ (rk o = 4 ∧ c dp = true) ∧ r = some (vI 1) ∧ MR m' q (o :: fl (rk o) W) (O ++ (ft (rk o) W).map nI) (op - fc (ft (rk o) W)) dp (cUp c dp (cN o (c dp))) ∧ FT m m' q))) 179 [vR 12 243, vI (nI o)] [vI (if b then 1 else 0), vI (nI dp), vR 4008 257] m4 := by
        intro b hb
        refine AW.c rfl (⟨vp_in_nI (by omega) (by decide), fun _ => by cases b; exact Or.inl rfl; exact Or.inr rfl⟩) ?_
        try dsimp only [List.set_cons_zero, List.set_cons_succ, Option.toList_some, Option.toList_none, List.cons_append, List.nil_append]
        rw [nI_clamp (by omega)]
        repeat refine AW.s rfl ?_
        try dsimp only [List.set_cons_zero, List.set_cons_succ, Option.toList_some, Option.toList_none, List.cons_append, List.nil_append]
        refine AW.ri rfl rfl rfl (Or.inr ⟨o, ho, hn, rfl, ?_, F5.w (by omega)⟩)
        rw [← hb]
        exact R4.cmp
      repeat refine AW.s rfl ?_
      try dsimp only [List.set_cons_zero, List.set_cons_succ, Option.toList_some, Option.toList_none, List.cons_append, List.nil_append]
      rw [R4.2.2.2.2.2.2.1]
      refine AW.S k_11_119 ((c_Mrank (o := o) ho30)) rfl rfl rfl rfl (fun r1 m5 hq => ?_)
      obtain ⟨rfl, hm5⟩ := hq
      rw [hm5]
      repeat refine AW.s rfl ?_
      try dsimp only [List.set_cons_zero, List.set_cons_succ, Option.toList_some, Option.toList_none, List.cons_append, List.nil_append]
      refine AW.b rfl (fun hc => ?_) (fun hc => ?_)
      · have e4 : rk o = 4 := (nI_eq (b := 4) (by omega) (by decide)).mp hc
        repeat refine AW.u 179 rfl rfl ?_
        try dsimp only [List.set_cons_zero, List.set_cons_succ, Option.toList_some, Option.toList_none, List.cons_append, List.nil_append]
        refine end179 true ?_
        unfold cN
        rw [decide_eq_true e4]
        rfl
      · have n4 : ¬ rk o = 4 := fun z => hc (by rw [z]; rfl)
        repeat refine AW.s rfl ?_
        try dsimp only [List.set_cons_zero, List.set_cons_succ, Option.toList_some, Option.toList_none, List.cons_append, List.nil_append]
        refine AW.S k_11_119 ((c_Mrank (o := o) ho30)) rfl rfl rfl rfl (fun r1 m6 hq => ?_)
        obtain ⟨rfl, hm6⟩ := hq
        rw [hm6]
        repeat refine AW.s rfl ?_
        try dsimp only [List.set_cons_zero, List.set_cons_succ, Option.toList_some, Option.toList_none, List.cons_append, List.nil_append]
        refine AW.b rfl (fun hc => ?_) (fun hc => ?_)
        · have g4 : 4 < rk o := (nI_ltI (a := 4) (by decide) (by omega)).mp hc
          repeat refine AW.s rfl ?_
          try dsimp only [List.set_cons_zero, List.set_cons_succ, Option.toList_some, Option.toList_none, List.cons_append, List.nil_append]
          rw [R4.2.2.2.2.2.2.1]
          refine AW.c rfl (vp_in_nI (by omega) (by decide)) ?_
          try dsimp only [List.set_cons_zero, List.set_cons_succ, Option.toList_some, Option.toList_none, List.cons_append, List.nil_append]
          rw [nI_clamp (by omega), show m4 (243 + 14) dp = if c dp then 1 else 0 from R4.2.2.2.2.2.2.2 dp (Nat.le_refl _)]
          cases hcd : c dp with
          | false =>
            refine AW.b rfl (fun hc => ?_) (fun hc => ?_)
            · repeat refine AW.u 179 rfl rfl ?_
              try dsimp only [List.set_cons_zero, List.set_cons_succ, Option.toList_some, Option.toList_none, List.cons_append, List.nil_append]
              rw [hcd] at end179
              refine end179 false ?_
              unfold cN
              rw [decide_eq_false n4, Bool.and_false]
              rfl
            · exact absurd rfl hc
          | true =>
            refine AW.b rfl (fun hc => ?_) (fun hc => ?_)
            · exact absurd (show (1 : Int32) = 0 from hc) (by decide)
            · repeat refine AW.u 179 rfl rfl ?_
              try dsimp only [List.set_cons_zero, List.set_cons_succ, Option.toList_some, Option.toList_none, List.cons_append, List.nil_append]
              rw [hcd] at end179
              refine end179 true ?_
              unfold cN
              rw [decide_eq_false n4, decide_eq_true g4]
              rfl
        · have g4 : ¬ 4 < rk o := fun z => hc (nI_lt (a := 4) z (by omega))
          repeat refine AW.u 179 rfl rfl ?_
          try dsimp only [List.set_cons_zero, List.set_cons_succ, Option.toList_some, Option.toList_none, List.cons_append, List.nil_append]
          refine end179 false ?_
          unfold cN
          rw [decide_eq_false n4, decide_eq_false g4]
          rfl
    repeat refine AW.s rfl ?_
    try dsimp only [List.set_cons_zero, List.set_cons_succ, Option.toList_some, Option.toList_none, List.cons_append, List.nil_append]
    refine AW.b rfl (fun hc => ?_) (fun hc => ?_)
    · exact absurd hc (nI_m1 (by omega))
    · repeat refine AW.s rfl ?_
      try dsimp only [List.set_cons_zero, List.set_cons_succ, Option.toList_some, Option.toList_none, List.cons_append, List.nil_append]
      refine AW.S k_11_119 ((c_Mrank (o := o) ho30)) rfl rfl rfl rfl (fun r1 m2 hq => ?_)
      obtain ⟨rfl, hm2⟩ := hq
      rw [hm2]
      repeat refine AW.s rfl ?_
      try dsimp only [List.set_cons_zero, List.set_cons_succ, Option.toList_some, Option.toList_none, List.cons_append, List.nil_append]
      refine AW.b rfl (fun hc => ?_) (fun hc => ?_)
      · have e4 : rk o = 4 := (nI_eq (b := 4) (by omega) (by decide)).mp hc
        repeat refine AW.s rfl ?_
        try dsimp only [List.set_cons_zero, List.set_cons_succ, Option.toList_some, Option.toList_none, List.cons_append, List.nil_append]
        rw [h.2.2.2.2.2.2.1]
        refine AW.c rfl (vp_in_nI (by omega) (by decide)) ?_
        try dsimp only [List.set_cons_zero, List.set_cons_succ, Option.toList_some, Option.toList_none, List.cons_append, List.nil_append]
        rw [nI_clamp (by omega), show m (243 + 14) dp = if c dp then 1 else 0 from h.2.2.2.2.2.2.2 dp (Nat.le_refl _)]
        cases hcd : c dp with
        | false =>
          refine AW.b rfl (fun hc => ?_) (fun hc => ?_)
          · rw [hcd] at at125
            exact at125 (fun z => absurd z.2 (by decide))
          · exact absurd rfl hc
        | true =>
          refine AW.b rfl (fun hc => ?_) (fun hc => ?_)
          · exact absurd (show (1 : Int32) = 0 from hc) (by decide)
          · repeat refine AW.s rfl ?_
            try dsimp only [List.set_cons_zero, List.set_cons_succ, Option.toList_some, Option.toList_none, List.cons_append, List.nil_append]
            refine AW.ri rfl rfl rfl (Or.inl ⟨fun o' ho' => ?_, rfl, rfl⟩)
            rw [ho] at ho'
            cases ho'
            exact ⟨e4, rfl⟩
      · exact at125 (fun z => hc (by rw [z.1]; rfl))
  refine E_X11_between (ls := [vR 12 243, vU]) rfl rfl ?_
  repeat refine AW.s rfl ?_
  try dsimp only [List.set_cons_zero, List.set_cons_succ, Option.toList_some, Option.toList_none, List.cons_append, List.nil_append]
  refine AW.V k_11_130 ((c_MisSign (b := 43) ht rfl)) rfl rfl rfl rfl rfl rfl (fun r1 a43 hq => ?_)
  obtain ⟨rfl, ha43⟩ := hq
  rw [ha43]
  try dsimp only [List.set_cons_zero, List.set_cons_succ, Option.toList_some, Option.toList_none, List.cons_append, List.nil_append]
  by_cases e43 : k = 43
  · rw [if_pos (show k = nI 43 from e43)]
    refine AW.b rfl (fun hc => ?_) (fun hc => ?_)
    · exact absurd hc (by decide)
    · repeat refine AW.u 97 rfl rfl ?_
      try dsimp only [List.set_cons_zero, List.set_cons_succ, Option.toList_some, Option.toList_none, List.cons_append, List.nil_append]
      exact tail 15 (by rw [e43]; decide)
  · rw [if_neg (show ¬ k = nI 43 from e43)]
    refine AW.b rfl (fun hc => ?_) (fun hc => ?_)
    · skip
      repeat refine AW.s rfl ?_
      try dsimp only [List.set_cons_zero, List.set_cons_succ, Option.toList_some, Option.toList_none, List.cons_append, List.nil_append]
      refine AW.V k_11_130 ((c_MisSign (b := 45) ht rfl)) rfl rfl rfl rfl rfl rfl (fun r1 a45 hq => ?_)
      obtain ⟨rfl, ha45⟩ := hq
      rw [ha45]
      try dsimp only [List.set_cons_zero, List.set_cons_succ, Option.toList_some, Option.toList_none, List.cons_append, List.nil_append]
      by_cases e45 : k = 45
      · rw [if_pos (show k = nI 45 from e45)]
        refine AW.b rfl (fun hc => ?_) (fun hc => ?_)
        · exact absurd hc (by decide)
        · repeat refine AW.u 97 rfl rfl ?_
          try dsimp only [List.set_cons_zero, List.set_cons_succ, Option.toList_some, Option.toList_none, List.cons_append, List.nil_append]
          exact tail 16 (by rw [e45]; decide)
      · rw [if_neg (show ¬ k = nI 45 from e45)]
        refine AW.b rfl (fun hc => ?_) (fun hc => ?_)
        · skip
          repeat refine AW.s rfl ?_
          try dsimp only [List.set_cons_zero, List.set_cons_succ, Option.toList_some, Option.toList_none, List.cons_append, List.nil_append]
          refine AW.V k_11_130 ((c_MisSign (b := 42) ht rfl)) rfl rfl rfl rfl rfl rfl (fun r1 a42 hq => ?_)
          obtain ⟨rfl, ha42⟩ := hq
          rw [ha42]
          try dsimp only [List.set_cons_zero, List.set_cons_succ, Option.toList_some, Option.toList_none, List.cons_append, List.nil_append]
          by_cases e42 : k = 42
          · rw [if_pos (show k = nI 42 from e42)]
            refine AW.b rfl (fun hc => ?_) (fun hc => ?_)
            · exact absurd hc (by decide)
            · repeat refine AW.u 97 rfl rfl ?_
              try dsimp only [List.set_cons_zero, List.set_cons_succ, Option.toList_some, Option.toList_none, List.cons_append, List.nil_append]
              exact tail 17 (by rw [e42]; decide)
          · rw [if_neg (show ¬ k = nI 42 from e42)]
            refine AW.b rfl (fun hc => ?_) (fun hc => ?_)
            · skip
              repeat refine AW.s rfl ?_
              try dsimp only [List.set_cons_zero, List.set_cons_succ, Option.toList_some, Option.toList_none, List.cons_append, List.nil_append]
              refine AW.V k_11_130 ((c_MisSign (b := 60) ht rfl)) rfl rfl rfl rfl rfl rfl (fun r1 a60 hq => ?_)
              obtain ⟨rfl, ha60⟩ := hq
              rw [ha60]
              try dsimp only [List.set_cons_zero, List.set_cons_succ, Option.toList_some, Option.toList_none, List.cons_append, List.nil_append]
              by_cases e60 : k = 60
              · rw [if_pos (show k = nI 60 from e60)]
                refine AW.b rfl (fun hc => ?_) (fun hc => ?_)
                · exact absurd hc (by decide)
                · repeat refine AW.u 97 rfl rfl ?_
                  try dsimp only [List.set_cons_zero, List.set_cons_succ, Option.toList_some, Option.toList_none, List.cons_append, List.nil_append]
                  exact tail 13 (by rw [e60]; decide)
              · rw [if_neg (show ¬ k = nI 60 from e60)]
                refine AW.b rfl (fun hc => ?_) (fun hc => ?_)
                · skip
                  repeat refine AW.s rfl ?_
                  try dsimp only [List.set_cons_zero, List.set_cons_succ, Option.toList_some, Option.toList_none, List.cons_append, List.nil_append]
                  refine AW.V k_11_130 ((c_MisSign (b := 61) ht rfl)) rfl rfl rfl rfl rfl rfl (fun r1 a61 hq => ?_)
                  obtain ⟨rfl, ha61⟩ := hq
                  rw [ha61]
                  try dsimp only [List.set_cons_zero, List.set_cons_succ, Option.toList_some, Option.toList_none, List.cons_append, List.nil_append]
                  by_cases e61 : k = 61
                  · rw [if_pos (show k = nI 61 from e61)]
                    refine AW.b rfl (fun hc => ?_) (fun hc => ?_)
                    · exact absurd hc (by decide)
                    · repeat refine AW.u 97 rfl rfl ?_
                      try dsimp only [List.set_cons_zero, List.set_cons_succ, Option.toList_some, Option.toList_none, List.cons_append, List.nil_append]
                      exact tail 14 (by rw [e61]; decide)
                  · rw [if_neg (show ¬ k = nI 61 from e61)]
                    refine AW.b rfl (fun hc => ?_) (fun hc => ?_)
                    · skip
                      repeat refine AW.s rfl ?_
                      try dsimp only [List.set_cons_zero, List.set_cons_succ, Option.toList_some, Option.toList_none, List.cons_append, List.nil_append]
                      refine AW.V k_11_133 ((c_MisKey (j := 4) ht (by decide))) rfl rfl rfl rfl rfl rfl (fun r1 a8 hq => ?_)
                      obtain ⟨rfl, ha8⟩ := hq
                      rw [ha8]
                      try dsimp only [List.set_cons_zero, List.set_cons_succ, Option.toList_some, Option.toList_none, List.cons_append, List.nil_append]
                      by_cases e8 : k = 8
                      · rw [if_pos (show k = nI 8 from e8)]
                        refine AW.b rfl (fun hc => ?_) (fun hc => ?_)
                        · exact absurd hc (by decide)
                        · repeat refine AW.u 97 rfl rfl ?_
                          try dsimp only [List.set_cons_zero, List.set_cons_succ, Option.toList_some, Option.toList_none, List.cons_append, List.nil_append]
                          exact tail 11 (by rw [e8]; decide)
                      · rw [if_neg (show ¬ k = nI 8 from e8)]
                        refine AW.b rfl (fun hc => ?_) (fun hc => ?_)
                        · skip
                          repeat refine AW.s rfl ?_
                          try dsimp only [List.set_cons_zero, List.set_cons_succ, Option.toList_some, Option.toList_none, List.cons_append, List.nil_append]
                          refine AW.V k_11_133 ((c_MisKey (j := 3) ht (by decide))) rfl rfl rfl rfl rfl rfl (fun r1 a7 hq => ?_)
                          obtain ⟨rfl, ha7⟩ := hq
                          rw [ha7]
                          try dsimp only [List.set_cons_zero, List.set_cons_succ, Option.toList_some, Option.toList_none, List.cons_append, List.nil_append]
                          by_cases e7 : k = 7
                          · rw [if_pos (show k = nI 7 from e7)]
                            refine AW.b rfl (fun hc => ?_) (fun hc => ?_)
                            · exact absurd hc (by decide)
                            · repeat refine AW.u 97 rfl rfl ?_
                              try dsimp only [List.set_cons_zero, List.set_cons_succ, Option.toList_some, Option.toList_none, List.cons_append, List.nil_append]
                              exact tail 10 (by rw [e7]; decide)
                          · rw [if_neg (show ¬ k = nI 7 from e7)]
                            refine AW.b rfl (fun hc => ?_) (fun hc => ?_)
                            · skip
                              have hno : opc k = none := by
                                unfold opc
                                rw [if_neg e43, if_neg e45, if_neg e42, if_neg e60, if_neg e61, if_neg e8, if_neg e7]
                              repeat refine AW.s rfl ?_
                              try dsimp only [List.set_cons_zero, List.set_cons_succ, Option.toList_some, Option.toList_none, List.cons_append, List.nil_append]
                              refine AW.b rfl (fun hc => ?_) (fun hc => ?_)
                              · repeat refine AW.s rfl ?_
                                try dsimp only [List.set_cons_zero, List.set_cons_succ, Option.toList_some, Option.toList_none, List.cons_append, List.nil_append]
                                exact AW.ri rfl rfl rfl (Or.inl ⟨fun o ho => (by rw [hno] at ho; cases ho), rfl, rfl⟩)
                              · exact absurd rfl hc
                            · exact absurd rfl hc
                        · exact absurd rfl hc
                    · exact absurd rfl hc
                · exact absurd rfl hc
            · exact absurd rfl hc
        · exact absurd rfl hc
    · exact absurd rfl hc
end

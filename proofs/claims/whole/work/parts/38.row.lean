theorem c_push {l : Launch} {X : XT} {d : Nat} {h r : Nat} {m : Mem} {rw : List Nat} (hr : RepR m h rw) (hl : rw.length < 8) : Meth l X d M_X3_push [vR 4 h, vI (nI r)] m (fun r1 m' => r1 = none ∧ RepR m' h (rw ++ [r]) ∧ ∀ a, a ≠ h → a ≠ h + 1 → m' a = m a) := by
  refine E_X3_push (ls := [vR 4 h, vI (nI r)]) rfl rfl ?_
  repeat refine AW.s rfl ?_
  try dsimp only [List.set_cons_zero, List.set_cons_succ, Option.toList_some, Option.toList_none, List.cons_append, List.nil_append]
  rw [hr.1]
  refine AW.b rfl (fun hc => ?_) (fun hc => ?_)
  · repeat refine AW.s rfl ?_
    try dsimp only [List.set_cons_zero, List.set_cons_succ, Option.toList_some, Option.toList_none, List.cons_append, List.nil_append]
    rw [hr.1]
    repeat refine AW.s rfl ?_
    try dsimp only [List.set_cons_zero, List.set_cons_succ, Option.toList_some, Option.toList_none, List.cons_append, List.nil_append]
    refine AW.c rfl (⟨vp_in_nI (by omega) (by decide), fun q => absurd q (by decide)⟩) ?_
    try dsimp only [List.set_cons_zero, List.set_cons_succ, Option.toList_some, Option.toList_none, List.cons_append, List.nil_append]
    rw [nI_clamp (by omega)]
    repeat refine AW.s rfl ?_
    try dsimp only [List.set_cons_zero, List.set_cons_succ, Option.toList_some, Option.toList_none, List.cons_append, List.nil_append]
    rw [mUp_a (show h ≠ h + 1 by omega), hr.1]
    refine AW.rv rfl rfl ⟨rfl, ⟨?_, fun k x hk => ?_⟩, fun a h1 h2 => by rw [mUp_a h1, mUp_a h2]⟩
    · rw [mUp_s, List.length_append]; exact nI_1 _
    · rw [mUp_a (show h + 1 ≠ h by omega)]
      by_cases e : k = rw.length
      · subst e
        rw [List.getElem?_append_right (Nat.le_refl _), Nat.sub_self] at hk
        cases hk
        exact mUp_s _ _ _ _
      · have hk2 : k < rw.length := by
          have := (List.getElem?_eq_some_iff.mp hk).1
          rw [List.length_append] at this
          have : k < rw.length + 1 := this
          omega
        rw [List.getElem?_append_left hk2] at hk
        rw [mUp_n (Or.inr e)]
        exact hr.2 k x hk
  · exact absurd (nI_lt (b := 8) hl (by decide)) hc
def lastI (rw : List Nat) : Int32 := match rw.getLast? with
  | none => -1
  | some r => nI r
theorem c_last {l : Launch} {X : XT} {d : Nat} {h : Nat} {m : Mem} {rw : List Nat} (hr : RepR m h rw) (hl : rw.length ≤ 8) : Meth l X d M_X3_last [vR 4 h] m (fun r1 m' => r1 = some (vI (lastI rw)) ∧ m' = m) := by
  refine E_X3_last (ls := [vR 4 h]) rfl rfl ?_
  repeat refine AW.s rfl ?_
  try dsimp only [List.set_cons_zero, List.set_cons_succ, Option.toList_some, Option.toList_none, List.cons_append, List.nil_append]
  rw [hr.1]
  refine AW.b rfl (fun hc => ?_) (fun hc => ?_)
  · have hpos : 0 < rw.length := by
      rcases Nat.eq_zero_or_pos rw.length with q | q
      · rw [q] at hc; exact absurd hc (by decide)
      · exact q
    repeat refine AW.s rfl ?_
    try dsimp only [List.set_cons_zero, List.set_cons_succ, Option.toList_some, Option.toList_none, List.cons_append, List.nil_append]
    rw [hr.1, show nI rw.length - 1 = nI (rw.length - 1) from pk_sub (b := 1) hpos]
    obtain ⟨x, hx⟩ : ∃ x, rw[rw.length - 1]? = some x := ⟨_, List.getElem?_eq_getElem (by omega)⟩
    refine AW.c rfl (vp_in_nI (by omega) (by decide)) ?_
    try dsimp only [List.set_cons_zero, List.set_cons_succ, Option.toList_some, Option.toList_none, List.cons_append, List.nil_append]
    rw [nI_clamp (by omega), hr.2 _ x hx]
    repeat refine AW.s rfl ?_
    try dsimp only [List.set_cons_zero, List.set_cons_succ, Option.toList_some, Option.toList_none, List.cons_append, List.nil_append]
    refine AW.ri rfl rfl rfl ⟨?_, rfl⟩
    unfold lastI
    rw [List.getLast?_eq_getElem?, hx]
  · have h0 : rw = [] := by
      cases rw with
      | nil => rfl
      | cons a r => exact absurd (nI_lt (a := 0) (by rw [List.length_cons]; omega) (by omega)) hc
    subst h0
    repeat refine AW.s rfl ?_
    try dsimp only [List.set_cons_zero, List.set_cons_succ, Option.toList_some, Option.toList_none, List.cons_append, List.nil_append]
    exact AW.ri rfl rfl rfl ⟨rfl, rfl⟩
theorem erase_take {rw : List Nat} {p i x : Nat} (hx : rw[i]? = some x) : (rw.take (i + 1)).eraseIdx p = if i = p then (rw.take i).eraseIdx p else (rw.take i).eraseIdx p ++ [x] := by
  have hlt : i < rw.length := (List.getElem?_eq_some_iff.mp hx).1
  have hl : (rw.take i).length = i := by rw [List.length_take]; omega
  rw [List.take_add_one, hx]
  show (rw.take i ++ [x]).eraseIdx p = _
  by_cases e : i = p
  · subst e
    rw [if_pos rfl, List.eraseIdx_append_of_length_le (by omega), hl, Nat.sub_self, show (rw.take i).eraseIdx i = rw.take i from List.eraseIdx_of_length_le (by omega)]
    simp
  · rw [if_neg e]
    by_cases q : p < i
    · rw [List.eraseIdx_append_of_lt_length (by omega)]
    · rw [List.eraseIdx_append_of_length_le (by omega), List.eraseIdx_of_length_le (l := [x]) (by simp [hl]; omega), List.eraseIdx_of_length_le (by omega)]
theorem c_becomeWithout {l : Launch} {X : XT} {d : Nat} {h ρ p : Nat} {m : Mem} {rw : List Nat} (hd : 1 ≤ d) (hr : RepR m ρ rw) (hl : rw.length ≤ 8) (hp : p < rw.length) (hρ : ρ + 1 < h ∨ h + 1 < ρ) : Meth l X d M_X3_becomeWithout [vR 4 h, vR 4 ρ, vI (nI p)] m (fun r1 m' => r1 = none ∧ RepR m' h (rw.eraseIdx p) ∧ ∀ a, a ≠ h → a ≠ h + 1 → m' a = m a) := by
  obtain ⟨d, rfl⟩ : ∃ e, d = e + 1 := ⟨d - 1, by omega⟩
  refine E_X3_becomeWithout (ls := [vR 4 h, vR 4 ρ, vI (nI p), vU]) rfl rfl ?_
  repeat refine AW.u 7 rfl rfl ?_
  try dsimp only [List.set_cons_zero, List.set_cons_succ, Option.toList_some, Option.toList_none, List.cons_append, List.nil_append]
  refine AW.loop (pc := 7) (σ := Unit) rw.length (fun i _ => [vR 4 h, vR 4 ρ, vI (nI p), vI (nI i)]) (fun i _ m1 => (∀ a, a ≠ h → a ≠ h + 1 → m1 a = m a) ∧ RepR m1 h ((rw.take i).eraseIdx p)) (fun i _ m1 hi hm1 ih => ?_) 0 () _ (Nat.zero_le _) ⟨fun a h1 _ => mUp_a h1, mUp_s _ _ _ _, fun k x hk => by simp at hk⟩
  obtain ⟨hf, hv⟩ := hm1
  have hsz : m1 ρ 1 = nI rw.length := by rw [hf ρ (by omega) (by omega)]; exact hr.1
  repeat refine AW.s rfl ?_
  try dsimp only [List.set_cons_zero, List.set_cons_succ, Option.toList_some, Option.toList_none, List.cons_append, List.nil_append]
  rw [hsz]
  refine AW.b rfl (fun hc => ?_) (fun hc => ?_)
  · have hlt : i < rw.length := (nI_ltI (by omega) (by omega)).mp hc
    obtain ⟨x, hx⟩ : ∃ x, rw[i]? = some x := ⟨_, List.getElem?_eq_getElem hlt⟩
    have het := erase_take (p := p) hx
    repeat refine AW.s rfl ?_
    try dsimp only [List.set_cons_zero, List.set_cons_succ, Option.toList_some, Option.toList_none, List.cons_append, List.nil_append]
    refine AW.b rfl (fun hc => ?_) (fun hc => ?_)
    · have e : i = p := (nI_eq (by omega) (by omega)).mp hc
      rw [if_pos e] at het
      repeat refine AW.u 7 rfl rfl ?_
      try dsimp only [List.set_cons_zero, List.set_cons_succ, Option.toList_some, Option.toList_none, List.cons_append, List.nil_append]
      rw [nI_1]
      refine ih () _ hlt ⟨hf, ?_⟩
      rw [het]; exact hv
    · have e : ¬ i = p := fun q => hc (by rw [q])
      rw [if_neg e] at het
      have hlen : ((rw.take i).eraseIdx p).length < 8 := by
        have : ((rw.take i).eraseIdx p).length ≤ (rw.take i).length := List.length_eraseIdx_le _ _
        rw [List.length_take] at this
        omega
      repeat refine AW.s rfl ?_
      try dsimp only [List.set_cons_zero, List.set_cons_succ, Option.toList_some, Option.toList_none, List.cons_append, List.nil_append]
      refine AW.c rfl (vp_in_nI (by omega) (by decide)) ?_
      try dsimp only [List.set_cons_zero, List.set_cons_succ, Option.toList_some, Option.toList_none, List.cons_append, List.nil_append]
      rw [nI_clamp (by omega), show m1 (ρ + 1) i = nI x by rw [hf (ρ + 1) (by omega) (by omega)]; exact hr.2 i x hx]
      refine AW.V k_3_25 ((c_push hv hlen)) rfl rfl rfl rfl rfl rfl (fun r1 m1 hq => ?_)
      rename_i m2
      obtain ⟨rfl, p1, p2⟩ := hq
      repeat refine AW.u 7 rfl rfl ?_
      try dsimp only [List.set_cons_zero, List.set_cons_succ, Option.toList_some, Option.toList_none, List.cons_append, List.nil_append]
      rw [nI_1]
      refine ih () _ hlt ⟨fun a h1 h2 => by rw [p2 a h1 h2]; exact hf a h1 h2, ?_⟩
      rw [het]; exact p1
  · have : i = rw.length := by
      have : ¬ i < rw.length := fun q => hc ((nI_ltI (by omega) (by omega)).mpr q)
      omega
    subst this
    rw [List.take_length] at hv
    exact AW.rv rfl rfl ⟨rfl, hv, hf⟩
theorem c_becomeR {l : Launch} {X : XT} {d : Nat} {h ρ : Nat} {m : Mem} (hd : 1 ≤ d) (hρ : ρ + 1 < h ∨ h + 1 < ρ) : Meth l X d M_X3_become [vR 4 h, vR 4 ρ] m (fun r1 m' => r1 = none ∧ m' h 1 = m ρ 1 ∧ (∀ k, k < 8 → m' (h + 1) k = m (ρ + 1) k) ∧ ∀ a, a ≠ h → a ≠ h + 1 → m' a = m a) := by
  obtain ⟨d, rfl⟩ : ∃ e, d = e + 1 := ⟨d - 1, by omega⟩
  refine E_X3_become (ls := [vR 4 h, vR 4 ρ]) rfl rfl ?_
  repeat refine AW.s rfl ?_
  try dsimp only [List.set_cons_zero, List.set_cons_succ, Option.toList_some, Option.toList_none, List.cons_append, List.nil_append]
  refine AW.cpy k_3_19 rfl rfl rfl rfl (by decide) (by decide) (by decide) (by decide) (by decide) ?_
  repeat refine AW.s rfl ?_
  try dsimp only [List.set_cons_zero, List.set_cons_succ, Option.toList_some, Option.toList_none, List.cons_append, List.nil_append]
  refine AW.rv rfl rfl ⟨rfl, ?_, fun k hk => ?_, fun a h1 h2 => ?_⟩
  · rw [mUp_s, mSr_n (by omega)]
  · rw [mUp_a (by omega), mSr_s, show (0 : Int32).toNatClampNeg = 0 from rfl, show (8 : Int32).toNatClampNeg = 8 from rfl, pk_cpy_in (Nat.zero_le _) (by omega)]
    congr 1
    omega
  · rw [mUp_a h1, mSr_n h2]
def fol (z : Int32) : Int32 := z * 1103515245 + 12345
def u9 (z : Int32) : Nat := z.toBitVec.toNat / 2 ^ 9
theorem nI_self (z : Int32) : nI z.toBitVec.toNat = z := by
  apply Int32.toBitVec_inj.1
  show BitVec.ofNat 32 z.toBitVec.toNat = z.toBitVec
  simp
theorem u9_lt (z : Int32) : u9 z < 2 ^ 23 := by
  have : z.toBitVec.toNat < 2 ^ 32 := z.toBitVec.isLt
  unfold u9
  omega
theorem ushr9 (z : Int32) : (z.toUInt32 >>> ((9 : Int32).toUInt32 &&& Int32.toUInt32 31)).toInt32 = nI (u9 z) := by
  have h := pk_ushrN (n := z.toBitVec.toNat) z.toBitVec.isLt (nI 9) 9 (sh_k 9 (by decide))
  rw [nI_self] at h
  exact h
theorem c_following {l : Launch} {X : XT} {d : Nat} {z : Int32} {m : Mem} : Meth l X d M_X3_following [vI z] m (fun r1 m' => r1 = some (vI (fol z)) ∧ m' = m) := by
  refine E_X3_following (ls := [vI z]) rfl rfl ?_
  repeat refine AW.s rfl ?_
  try dsimp only [List.set_cons_zero, List.set_cons_succ, Option.toList_some, Option.toList_none, List.cons_append, List.nil_append]
  exact AW.ri rfl rfl rfl ⟨rfl, rfl⟩
def drw (rc : Nat) (k : Nat) (z : Int32) : List Nat := match k with
  | 0 => []
  | k + 1 => (u9 (fol z) % rc) :: drw rc k (fol z)
def drawL (rc : Nat) (seed : Int32) : List Nat := if rc = 0 then [] else drw rc (u9 (fol seed) % 4 + 1) (fol seed)
theorem drw_len (rc k : Nat) (z : Int32) : (drw rc k z).length = k := by
  induction k generalizing z with
  | zero => rfl
  | succ k ih => show (drw rc k (fol z)).length + 1 = k + 1; rw [ih]
theorem drw_lt {rc k : Nat} (h : 0 < rc) {z : Int32} : ∀ r ∈ drw rc k z, r < rc := by
  induction k generalizing z with
  | zero => intro r hr; cases hr
  | succ k ih =>
    intro r hr
    rcases List.mem_cons.mp hr with q | q
    · rw [q]; exact Nat.mod_lt _ h
    · exact ih r q
theorem drawL_wf {σ : Sg} (s : Int32) : WFr σ (drawL (σ 0 2) s) := by
  unfold drawL
  split
  · exact ⟨by decide, fun r hr => by cases hr⟩
  · refine ⟨by rw [drw_len]; have := Nat.mod_lt (u9 (fol s)) (show 0 < 4 by decide); omega, drw_lt (by omega)⟩

def alB (n : Nat) (f : Nat → Option (List Nat)) (w : Nat) : Bool := (List.range n).any (fun j => !(j == w) && likeO (f w) (f j))
theorem alB_iff {n : Nat} {f : Nat → Option (List Nat)} {w : Nat} (hw : w < n) : alB n f w = true ↔ alikeP n f w := by
  unfold alB alikeP
  rw [List.any_eq_true]
  constructor
  · rintro ⟨j, hj, h⟩
    simp only [Bool.and_eq_true, Bool.not_eq_true', beq_eq_false_iff_ne] at h
    exact ⟨hw, j, List.mem_range.mp hj, h.1, h.2⟩
  · rintro ⟨-, j, hj, h1, h2⟩
    refine ⟨j, List.mem_range.mpr hj, ?_⟩
    simp only [Bool.and_eq_true, Bool.not_eq_true', beq_eq_false_iff_ne]
    exact ⟨h1, h2⟩
/-- what the first w words are worth, by what a text tells (part, facts) -/
def worthW (σ : Sg) (rw : List Nat) (n : Nat) (f : Nat → Option (List Nat)) (τ : Nat → (Nat → Int32) → Int32) (w : Nat) : Int32 := match w with
  | 0 => 0
  | w + 1 => match f w with
    | none => worthW σ rw n f τ w
    | some xs => if alB n f w then worthW σ rw n f τ w + (τ 1 (fctV σ rw w xs) - hardV σ rw (τ 0 (fctV σ rw w xs))) - τ 2 (fctV σ rw w xs) else worthW σ rw n f τ w + (τ 1 (fctV σ rw w xs) - hardV σ rw (τ 0 (fctV σ rw w xs)))
theorem worthW_none {σ : Sg} {rw : List Nat} {n w : Nat} {f : Nat → Option (List Nat)} {τ : Nat → (Nat → Int32) → Int32} (h : f w = none) : worthW σ rw n f τ (w + 1) = worthW σ rw n f τ w := by
  rw [worthW, h]
theorem worthW_some {σ : Sg} {rw : List Nat} {n w : Nat} {f : Nat → Option (List Nat)} {τ : Nat → (Nat → Int32) → Int32} {xs : List Nat} (h : f w = some xs) : worthW σ rw n f τ (w + 1) = if alB n f w then worthW σ rw n f τ w + (τ 1 (fctV σ rw w xs) - hardV σ rw (τ 0 (fctV σ rw w xs))) - τ 2 (fctV σ rw w xs) else worthW σ rw n f τ w + (τ 1 (fctV σ rw w xs) - hardV σ rw (τ 0 (fctV σ rw w xs))) := by
  rw [worthW, h]
theorem TOK.fr {m m' : Mem} {T : Nat} {en : Nat → Nat} (h : TOK m T en) (h1 : m' (T + 1) = m (T + 1)) (h2 : m' (T + 2) = m (T + 2)) (h3 : m' (T + 3) = m (T + 3)) (h5 : m' (T + 5) = m (T + 5)) : TOK m' T en := by
  intro p hp
  rw [h1, h2, h3, h5]
  exact h p hp
theorem tval_eq {m m' : Mem} {T p : Nat} {en : Nat → Nat} {F F' : Nat → Int32} (h : TOK m T en) (hp : p < 3) (h1 : m' (T + 1) = m (T + 1)) (h2 : m' (T + 2) = m (T + 2)) (h3 : m' (T + 3) = m (T + 3)) (hF : ∀ k, k < 6 → F k = F' k) : tval m' T en p F = tval m T en p F' := by
  obtain ⟨-, g2, g3, g4⟩ := h p hp
  unfold tval
  rw [h1, h2, h3]
  exact cvF_st g4 g3 hF (en p - 1) (by omega) (by omega) _ _ (by omega) (by omega)
/-- what a text tells -/
def tellV (m : Mem) (T : Nat) (en : Nat → Nat) (p : Nat) (F : Nat → Int32) : Int32 := clI (tval m T en p F)
theorem c_worth {l : Launch} {X : XT} {d : Nat} {J ρ T H n : Nat} {en : Nat → Nat} {m : Mem} {σ : Sg} {rw : List Nat} {f : Nat → Option (List Nat)} (hd : 3 ≤ d) (hs : RepS m 1 σ) (hσ : WF σ) (hrw : WFr σ rw) (hρ : RepR m ρ rw) (ht : TOK m T en) (hn : n ≤ σ 0 1) (hK : RepYs m H n f) (hfw : ∀ w, w < n → WFo (f w)) (hJ : 18 ≤ J) (hH : 18 ≤ H) (hJT : J + 1 < T) (hρT : ρ + 1 < T) (hHT : H + 17 < T) (hJH : J + 1 < H ∨ H + 17 < J) (hJρ : J + 1 < ρ ∨ ρ + 1 < J) : Meth l X d M_X0_worth [vR 1 J, vR 8 1, vR 4 ρ, vR 10 T, vR 6 H] m (fun r1 m' => r1 = some (vI (worthW σ rw n f (tellV m T en) n)) ∧ ∀ a, a ≠ J + 1 → a ≠ T + 4 → m' a = m a) := by
  obtain ⟨d, rfl⟩ : ∃ e, d = e + 1 := ⟨d - 1, by omega⟩
  have hn8 : n ≤ 8 := Nat.le_trans hn hσ.2.1
  refine E_X0_worth (ls := [vR 1 J, vR 8 1, vR 4 ρ, vR 10 T, vR 6 H, vU, vU, vU]) rfl rfl ?_
  repeat refine AW.s rfl ?_
  try dsimp only [List.set_cons_zero, List.set_cons_succ, Option.toList_some, Option.toList_none, List.cons_append, List.nil_append]
  refine AW.V k_0_64 ((c_alike (by omega) hn8 hK hfw)) rfl rfl rfl rfl rfl rfl (fun r1 m1 hq => ?_)
  obtain ⟨al, rfl, hal, rfl⟩ := hq
  repeat refine AW.u 13 rfl rfl ?_
  try dsimp only [List.set_cons_zero, List.set_cons_succ, Option.toList_some, Option.toList_none, List.cons_append, List.nil_append]
  refine AW.loop (pc := 13) (σ := Unit) n (fun i _ => [vR 1 J, vR 8 1, vR 4 ρ, vR 10 T, vR 6 H, vI al, vI (worthW σ rw n f (tellV m1 T en) i), vI (nI i)]) (fun i _ m2 => ∀ a, a ≠ J + 1 → a ≠ T + 4 → m2 a = m1 a) (fun i _ m2 hi hf ih => ?_) 0 () _ (Nat.zero_le _) (fun _ _ _ => rfl)
  have hK2 : RepYs m2 H n f := hK.fr hn8 (fun a h1 h2 => hf a (by omega) (by omega))
  repeat refine AW.s rfl ?_
  try dsimp only [List.set_cons_zero, List.set_cons_succ, Option.toList_some, Option.toList_none, List.cons_append, List.nil_append]
  rw [hK2.1]
  refine AW.b rfl (fun hc => ?_) (fun hc => ?_)
  · have hlt : i < n := (nI_ltI (by omega) (by omega)).mp hc
    have hyi := hK2.2 i hlt
    repeat refine AW.s rfl ?_
    try dsimp only [List.set_cons_zero, List.set_cons_succ, Option.toList_some, Option.toList_none, List.cons_append, List.nil_append]
    refine AW.c rfl (vp_in_nI (by omega) (by decide)) ?_
    try dsimp only [List.set_cons_zero, List.set_cons_succ, Option.toList_some, Option.toList_none, List.cons_append, List.nil_append]
    rw [nI_clamp (by omega)]
    refine AW.V k_0_74 (c_isTooLong) rfl rfl rfl rfl rfl rfl (fun r1 m9 hq => ?_)
    obtain ⟨rfl, hm9⟩ := hq
    rw [hm9]
    try dsimp only [List.set_cons_zero, List.set_cons_succ, Option.toList_some, Option.toList_none, List.cons_append, List.nil_append]
    cases hfi : f i with
    | none =>
      rw [hfi] at hyi
      rw [if_pos (show m2 (H + 1 + 1 + 2 * i) 1 = -1 from hyi)]
      refine AW.b rfl (fun hc => ?_) (fun hc => ?_)
      · exact absurd hc (by decide)
      · repeat refine AW.u 13 rfl rfl ?_
        try dsimp only [List.set_cons_zero, List.set_cons_succ, Option.toList_some, Option.toList_none, List.cons_append, List.nil_append]
        rw [nI_1, ← worthW_none hfi]
        exact ih () _ hlt hf
    | some xs =>
      rw [hfi] at hyi
      have wi := hfw i hlt
      rw [hfi] at wi
      obtain ⟨a1, a2, a3⟩ := wi xs rfl
      rw [if_neg (show ¬ m2 (H + 1 + 1 + 2 * i) 1 = -1 by rw [hyi.1]; exact nI_m1 (by omega))]
      have hws := worthW_some (σ := σ) (rw := rw) (n := n) (τ := tellV m1 T en) hfi
      refine AW.b rfl (fun hc => ?_) (fun hc => ?_)
      · repeat refine AW.s rfl ?_
        try dsimp only [List.set_cons_zero, List.set_cons_succ, Option.toList_some, Option.toList_none, List.cons_append, List.nil_append]
        refine AW.c rfl (vp_in_nI (by omega) (by decide)) ?_
        try dsimp only [List.set_cons_zero, List.set_cons_succ, Option.toList_some, Option.toList_none, List.cons_append, List.nil_append]
        rw [nI_clamp (by omega)]
        have hs2 : RepS m2 1 σ := hs.fr hσ.2.1 (fun a h1 h2 => hf a (by omega) (by omega))
        have hρ2 : RepR m2 ρ rw := hρ.fr (hf ρ (by omega) (by omega)) (hf (ρ + 1) (by omega) (by omega))
        have ht2 : TOK m2 T en := ht.fr (hf _ (by omega) (by omega)) (hf _ (by omega) (by omega)) (hf _ (by omega) (by omega)) (hf _ (by omega) (by omega))
        refine AW.V k_0_78 ((c_regard (by omega) hs2 hσ hrw hρ2 (show i < σ 0 1 by omega) hyi wi hJ (by omega) hJρ)) rfl rfl rfl rfl rfl rfl (fun r1 m3 hq => ?_)
        obtain ⟨rfl, p1, p2⟩ := hq
        repeat refine AW.s rfl ?_
        try dsimp only [List.set_cons_zero, List.set_cons_succ, Option.toList_some, Option.toList_none, List.cons_append, List.nil_append]
        have ht3 : TOK m3 T en := ht2.fr (p2 _ (by omega)) (p2 _ (by omega)) (p2 _ (by omega)) (p2 _ (by omega))
        have eq3 : ∀ (q : Nat), q < 3 → ∀ m' : Mem, (∀ a, a ≠ T + 4 → m' a = m3 a) → tval m' T en q (m' (J + 1)) = tval m1 T en q (fctV σ rw i xs) := by
          intro q hq m' hm'
          refine tval_eq ht hq ?_ ?_ ?_ (fun k hk => ?_)
          · rw [hm' _ (by omega), p2 _ (by omega), hf _ (by omega) (by omega)]
          · rw [hm' _ (by omega), p2 _ (by omega), hf _ (by omega) (by omega)]
          · rw [hm' _ (by omega), p2 _ (by omega), hf _ (by omega) (by omega)]
          · rw [hm' _ (by omega)]; exact p1 k hk
        refine AW.V k_0_47 ((c_tells (p := 1) (by omega) ht3 (by decide) (by omega))) rfl rfl rfl rfl rfl rfl (fun r1 m4 hq => ?_)
        obtain ⟨rfl, p3⟩ := hq
        rw [eq3 1 (by decide) m3 (fun _ _ => rfl)]
        repeat refine AW.s rfl ?_
        try dsimp only [List.set_cons_zero, List.set_cons_succ, Option.toList_some, Option.toList_none, List.cons_append, List.nil_append]
        have ht4 : TOK m4 T en := ht3.fr (p3 _ (by omega)) (p3 _ (by omega)) (p3 _ (by omega)) (p3 _ (by omega))
        refine AW.V k_0_82 ((c_hard (rw := rw) (σ := σ) (by omega) (hs2.fr hσ.2.1 (fun a h1 h2 => by rw [p3 a (by omega), p2 a (by omega)])) hσ hrw (hρ2.fr (by rw [p3 ρ (by omega), p2 ρ (by omega)]) (by rw [p3 (ρ + 1) (by omega), p2 (ρ + 1) (by omega)])) ht4 (by omega) hJT hρT)) rfl rfl rfl rfl rfl rfl (fun r1 m5 hq => ?_)
        obtain ⟨rfl, p4⟩ := hq
        rw [eq3 0 (by decide) m4 p3]
        repeat refine AW.s rfl ?_
        try dsimp only [List.set_cons_zero, List.set_cons_succ, Option.toList_some, Option.toList_none, List.cons_append, List.nil_append]
        have hal2 := hal.getU (k := i) (by omega)
        have hb := alB_iff (f := f) hlt
        have hfin : ∀ m' : Mem, (∀ a, a ≠ T + 4 → m' a = m5 a) → ∀ a, a ≠ J + 1 → a ≠ T + 4 → m' a = m1 a := by
          intro m' hm' a h1 h2
          rw [hm' a h2, p4 a h2, p3 a h2, p2 a h1, hf a h1 h2]
        by_cases hai : alB n f i = true
        · rw [hal2.1 (hb.mp hai)]
          rw [if_pos hai] at hws
          refine AW.b rfl (fun hc => ?_) (fun hc => ?_)
          · exact absurd hc (by decide)
          · repeat refine AW.s rfl ?_
            try dsimp only [List.set_cons_zero, List.set_cons_succ, Option.toList_some, Option.toList_none, List.cons_append, List.nil_append]
            have ht5 : TOK m5 T en := ht4.fr (p4 _ (by omega)) (p4 _ (by omega)) (p4 _ (by omega)) (p4 _ (by omega))
            refine AW.V k_0_47 ((c_tells (p := 2) (by omega) ht5 (by decide) (by omega))) rfl rfl rfl rfl rfl rfl (fun r1 m6 hq => ?_)
            obtain ⟨rfl, p5⟩ := hq
            rw [eq3 2 (by decide) m5 (fun a ha => by rw [p4 a ha, p3 a ha])]
            repeat refine AW.u 13 rfl rfl ?_
            try dsimp only [List.set_cons_zero, List.set_cons_succ, Option.toList_some, Option.toList_none, List.cons_append, List.nil_append]
            rw [nI_1]
            refine AW.at (ih () _ hlt (hfin m6 p5)) rfl ?_ rfl rfl
            rw [hws]
            rfl
        · rw [hal2.2 (fun q => hai (hb.mpr q))]
          rw [if_neg hai] at hws
          refine AW.b rfl (fun hc => ?_) (fun hc => ?_)
          · repeat refine AW.u 13 rfl rfl ?_
            try dsimp only [List.set_cons_zero, List.set_cons_succ, Option.toList_some, Option.toList_none, List.cons_append, List.nil_append]
            rw [nI_1]
            refine AW.at (ih () _ hlt (hfin m5 (fun _ _ => rfl))) rfl ?_ rfl rfl
            rw [hws]
            rfl
          · exact absurd rfl hc
      · exact absurd rfl hc
  · have : i = n := by
      have : ¬ i < n := fun q => hc ((nI_ltI (by omega) (by omega)).mpr q)
      omega
    subst this
    repeat refine AW.s rfl ?_
    try dsimp only [List.set_cons_zero, List.set_cons_succ, Option.toList_some, Option.toList_none, List.cons_append, List.nil_append]
    exact AW.ri rfl rfl rfl ⟨rfl, hf⟩

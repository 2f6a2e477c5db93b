theorem sayR_none {σ : Sg} (rw : List Nat) : sayR σ rw none = none := by
  induction rw with
  | nil => rfl
  | cons a r ih => exact ih
theorem sayR_app {σ : Sg} (a b : List Nat) (o : Option (List Nat)) : sayR σ (a ++ b) o = sayR σ b (sayR σ a o) := by
  unfold sayR
  rw [List.foldl_append]
theorem rowL_get {σ : Sg} {i : Nat} (h : i < σ 0 3) : (rowL σ)[i]? = some (σ 6 i) := by simp [rowL, List.getElem?_range h]
theorem c_MturnByRow {l : Launch} {X : XT} {d : Nat} {m : Mem} {σ : Sg} {o : Option (List Nat)} (hd : 2 ≤ d) (hs : RepM m σ) (hσ : WF σ) (hy : RTn m o) (ho : WFo o) : Meth l X d M_X11_turnByRow [vR 12 243] m (fun r1 m' => r1 = none ∧ RTn m' (sayR σ (rowL σ) o) ∧ FrT m m') := by
  obtain ⟨d, rfl⟩ : ∃ e, d = e + 1 := ⟨d - 1, by omega⟩
  have h8 := hσ.2.2.2.1
  refine E_X11_turnByRow (ls := [vR 12 243, vU]) rfl rfl ?_
  repeat refine AW.u 2 rfl rfl ?_
  try dsimp only [List.set_cons_zero, List.set_cons_succ, Option.toList_some, Option.toList_none, List.cons_append, List.nil_append]
  refine AW.loop (pc := 2) (σ := Unit) (σ 0 3) (fun i _ => [vR 12 243, vI (nI i)]) (fun i _ m1 => FrT m m1 ∧ RTn m1 (sayR σ ((rowL σ).take i) o)) (fun i _ m1 hi hm1 ih => ?_) 0 () m (Nat.zero_le _) ⟨FrT.rf, hy⟩
  obtain ⟨hf, hv⟩ := hm1
  have hsz : m1 243 9 = nI (σ 0 3) := by rw [hf.2 9 (by decide)]; exact hs.2.2.2.1
  have hwfo : WFo (sayR σ ((rowL σ).take i) o) := sayR_wf hσ _ (fun q hq => (rowL_wf hσ).2 q (List.mem_of_mem_take hq)) ho
  repeat refine AW.s rfl ?_
  try dsimp only [List.set_cons_zero, List.set_cons_succ, Option.toList_some, Option.toList_none, List.cons_append, List.nil_append]
  rw [hsz]
  refine AW.b rfl (fun hc => ?_) (fun hc => ?_)
  · have hlt : i < σ 0 3 := (nI_ltI (by omega) (by omega)).mp hc
    have hr2 : σ 6 i < σ 0 2 := hσ.2.2.2.2.2.2.2 i hlt
    repeat refine AW.s rfl ?_
    try dsimp only [List.set_cons_zero, List.set_cons_succ, Option.toList_some, Option.toList_none, List.cons_append, List.nil_append]
    cases hoo : sayR σ ((rowL σ).take i) o with
    | none =>
      rw [hoo] at hv
      have hv : m1 243 36 = -3 := hv
      rw [hv]
      refine AW.b rfl (fun hc => ?_) (fun hc => ?_)
      · exact absurd hc (by decide)
      · have e : sayR σ (rowL σ) o = none := by
          rw [← List.take_append_drop i (rowL σ), sayR_app, hoo, sayR_none]
        refine AW.rv rfl rfl ⟨rfl, ?_, hf⟩
        rw [e]
        exact hv
    | some xs =>
      rw [hoo] at hv hwfo
      obtain ⟨g1, g2, g3⟩ := hwfo xs rfl
      rw [hv.1]
      refine AW.b rfl (fun hc => ?_) (fun hc => ?_)
      · repeat refine AW.s rfl ?_
        try dsimp only [List.set_cons_zero, List.set_cons_succ, Option.toList_some, Option.toList_none, List.cons_append, List.nil_append]
        refine AW.c rfl (vp_in_nI (by omega) (by decide)) ?_
        try dsimp only [List.set_cons_zero, List.set_cons_succ, Option.toList_some, Option.toList_none, List.cons_append, List.nil_append]
        rw [nI_clamp (by omega), show m1 (243 + 7) i = nI (σ 6 i) by rw [hf.1 _ (by decide) (by decide) (by decide)]; exact hs.2.2.2.2.2.2.2 i hlt]
        refine AW.V k_11_229 ((c_Mturn (by omega) (hs.T hf) hσ hr2 hv hwfo)) rfl rfl rfl rfl rfl rfl (fun r1 m2 hq => ?_)
        obtain ⟨rfl, p1, p2⟩ := hq
        repeat refine AW.u 2 rfl rfl ?_
        try dsimp only [List.set_cons_zero, List.set_cons_succ, Option.toList_some, Option.toList_none, List.cons_append, List.nil_append]
        rw [nI_1]
        refine ih () _ hlt ⟨hf.tr p2, ?_⟩
        rw [sayR_take (rowL_get hlt), hoo]
        exact p1
      · exact absurd (nI_lt (a := 0) (by omega) (by omega)) hc
  · have : i = σ 0 3 := by
      have : ¬ i < σ 0 3 := fun q => hc ((nI_ltI (by omega) (by omega)).mpr q)
      omega
    subst this
    rw [List.take_of_length_le (by rw [rowL_len]; exact Nat.le_refl _)] at hv
    exact AW.rv rfl rfl ⟨rfl, hv, hf⟩
/-- what a word is said as, as the model keeps it -/
def RMs (m : Mem) (w : Nat) (o : Option (List Nat)) : Prop := match o with
  | none => m 261 w = -3
  | some xs => m 261 w = nI xs.length ∧ ∀ k x, xs[k]? = some x → m 260 (40 * w + k) = nI x
theorem RMs.fr {m m' : Mem} {w : Nat} {o : Option (List Nat)} (h : RMs m w o) (ho : WFo o) (h1 : m' 261 w = m 261 w) (h2 : ∀ k, k < 40 → m' 260 (40 * w + k) = m 260 (40 * w + k)) : RMs m' w o := by
  cases o with
  | none => show m' 261 w = -3; rw [h1]; exact h
  | some xs =>
    obtain ⟨-, -, g3⟩ := ho xs rfl
    exact ⟨by rw [h1]; exact h.1, fun k x hk => by rw [h2 k (Nat.lt_of_lt_of_le (List.getElem?_eq_some_iff.mp hk).1 g3)]; exact h.2 k x hk⟩
theorem c_Msay {l : Launch} {X : XT} {d : Nat} {w : Nat} {m : Mem} {σ : Sg} (hd : 3 ≤ d) (hs : RepM m σ) (hσ : WF σ) (hw : w < σ 0 1) : Meth l X d M_X11_say [vR 12 243, vI (nI w)] m (fun r1 m' => r1 = none ∧ RMs m' w (saidS σ (rowL σ) w) ∧ FrS m m' ∧ ∀ v, v ≠ w → m' 261 v = m 261 v ∧ ∀ k, k < 40 → m' 260 (40 * v + k) = m 260 (40 * v + k)) := by
  obtain ⟨d, rfl⟩ : ∃ e, d = e + 1 := ⟨d - 1, by omega⟩
  have hw8 : w < 8 := Nat.lt_of_lt_of_le hw hσ.2.1
  refine E_X11_say (ls := [vR 12 243, vI (nI w), vU]) rfl rfl ?_
  repeat refine AW.s rfl ?_
  try dsimp only [List.set_cons_zero, List.set_cons_succ, Option.toList_some, Option.toList_none, List.cons_append, List.nil_append]
  refine AW.V k_11_232 ((c_Mbegin hs hσ hw)) rfl rfl rfl rfl rfl rfl (fun r1 m1 hq => ?_)
  obtain ⟨rfl, p1, p2⟩ := hq
  repeat refine AW.s rfl ?_
  try dsimp only [List.set_cons_zero, List.set_cons_succ, Option.toList_some, Option.toList_none, List.cons_append, List.nil_append]
  refine AW.V k_11_235 ((c_MturnByRow (by omega) (hs.T p2) hσ p1 (wl_wf hσ hw))) rfl rfl rfl rfl rfl rfl (fun r1 m2 hq => ?_)
  obtain ⟨rfl, p3, p4⟩ := hq
  have p5 := p2.tr p4
  have hwo : WFo (saidS σ (rowL σ) w) := sayR_wf hσ _ (rowL_wf hσ).2 (wl_wf hσ hw)
  have e0 : sayR σ (rowL σ) (some (wl σ w)) = saidS σ (rowL σ) w := rfl
  rw [e0] at p3
  generalize saidS σ (rowL σ) w = o at *
  repeat refine AW.s rfl ?_
  try dsimp only [List.set_cons_zero, List.set_cons_succ, Option.toList_some, Option.toList_none, List.cons_append, List.nil_append]
  refine AW.c rfl (⟨vp_in_nI (by omega) (by decide), fun q => absurd q (by decide)⟩) ?_
  try dsimp only [List.set_cons_zero, List.set_cons_succ, Option.toList_some, Option.toList_none, List.cons_append, List.nil_append]
  rw [nI_clamp (by omega)]
  repeat refine AW.u 21 rfl rfl ?_
  try dsimp only [List.set_cons_zero, List.set_cons_succ, Option.toList_some, Option.toList_none, List.cons_append, List.nil_append]
  have hfr0 : ∀ x : Int32, FrS m (mUp m2 261 w x) := fun x => p5.S.tr ⟨fun a _ _ h3 _ _ => mUp_a h3, fun k _ => mUp_n (Or.inl (by decide))⟩
  cases o with
  | none =>
    have p3 : m2 243 36 = -3 := p3
    repeat refine AW.s rfl ?_
    try dsimp only [List.set_cons_zero, List.set_cons_succ, Option.toList_some, Option.toList_none, List.cons_append, List.nil_append]
    rw [mUp_a (show (243 : Nat) ≠ 261 by decide), p3]
    refine AW.b rfl (fun hc => ?_) (fun hc => ?_)
    · exact absurd hc (by decide)
    · refine AW.rv rfl rfl ⟨rfl, mUp_s _ _ _ _, hfr0 _, fun v hv => ⟨?_, fun k hk => ?_⟩⟩
      · rw [mUp_n (Or.inr hv), p5.1 261 (by decide) (by decide) (by decide)]
      · rw [mUp_a (by decide), p5.1 260 (by decide) (by decide) (by decide)]
  | some xs =>
    obtain ⟨g1, g2, g3⟩ := hwo xs rfl
    rw [p3.1]
    refine AW.loop (pc := 21) (σ := Unit) xs.length (fun i _ => [vR 12 243, vI (nI w), vI (nI i)]) (fun i _ m3 => FrS m m3 ∧ m3 243 36 = nI xs.length ∧ m3 262 = m2 262 ∧ m3 261 w = nI xs.length ∧ (∀ v, v ≠ w → m3 261 v = m 261 v ∧ ∀ k, k < 40 → m3 260 (40 * v + k) = m 260 (40 * v + k)) ∧ ∀ k x, k < i → xs[k]? = some x → m3 260 (40 * w + k) = nI x) (fun i _ m3 hi hm3 ih => ?_) 0 () _ (Nat.zero_le _) ⟨hfr0 _, by rw [mUp_a (by decide)]; exact p3.1, mUp_a (by decide), mUp_s _ _ _ _, fun v hv => ⟨by rw [mUp_n (Or.inr hv), p5.1 261 (by decide) (by decide) (by decide)], fun k _ => by rw [mUp_a (by decide), p5.1 260 (by decide) (by decide) (by decide)]⟩, fun k x hk => absurd hk (by omega)⟩
    obtain ⟨hf3, hz3, h262, hl3, hoth, hw3⟩ := hm3
    repeat refine AW.s rfl ?_
    try dsimp only [List.set_cons_zero, List.set_cons_succ, Option.toList_some, Option.toList_none, List.cons_append, List.nil_append]
    rw [hz3]
    refine AW.b rfl (fun hc => ?_) (fun hc => ?_)
    · have hlt : i < xs.length := (nI_ltI (by omega) (by omega)).mp hc
      obtain ⟨x, hx⟩ : ∃ x, xs[i]? = some x := ⟨_, List.getElem?_eq_getElem hlt⟩
      repeat refine AW.s rfl ?_
      try dsimp only [List.set_cons_zero, List.set_cons_succ, Option.toList_some, Option.toList_none, List.cons_append, List.nil_append]
      rw [show (40 : Int32) * nI w = nI (40 * w) from pk_mul 40 w, nI_add]
      repeat refine AW.s rfl ?_
      try dsimp only [List.set_cons_zero, List.set_cons_succ, Option.toList_some, Option.toList_none, List.cons_append, List.nil_append]
      refine AW.c rfl (vp_in_nI (by omega) (by decide)) ?_
      try dsimp only [List.set_cons_zero, List.set_cons_succ, Option.toList_some, Option.toList_none, List.cons_append, List.nil_append]
      rw [nI_clamp (by omega), show m3 (243 + 19) i = nI x by rw [show m3 (243 + 19) = m2 262 from h262]; exact p3.2 i x hx]
      refine AW.c rfl (⟨vp_in_nI (by omega) (by decide), fun q => absurd q (by decide)⟩) ?_
      try dsimp only [List.set_cons_zero, List.set_cons_succ, Option.toList_some, Option.toList_none, List.cons_append, List.nil_append]
      rw [nI_clamp (by omega)]
      repeat refine AW.u 21 rfl rfl ?_
      try dsimp only [List.set_cons_zero, List.set_cons_succ, Option.toList_some, Option.toList_none, List.cons_append, List.nil_append]
      rw [nI_1]
      refine ih () _ hlt ⟨hf3.tr ⟨fun a _ h2 _ _ _ => mUp_a h2, fun k _ => mUp_n (Or.inl (by decide))⟩, by rw [mUp_a (by decide)]; exact hz3, by rw [mUp_a (by decide)]; exact h262, by rw [mUp_a (by decide)]; exact hl3, fun v hv => ⟨by rw [mUp_a (by decide)]; exact (hoth v hv).1, fun k hk => ?_⟩, fun k y hk hky => ?_⟩
      · rw [mUp_n (Or.inr (by omega))]; exact (hoth v hv).2 k hk
      · by_cases e : k = i
        · subst e
          rw [hx] at hky
          cases hky
          exact mUp_s _ _ _ _
        · rw [mUp_n (Or.inr (by omega))]; exact hw3 k y (by omega) hky
    · have : i = xs.length := by
        have : ¬ i < xs.length := fun q => hc ((nI_ltI (by omega) (by omega)).mpr q)
        omega
      subst this
      refine AW.rv rfl rfl ⟨rfl, ⟨hl3, fun k x hk => hw3 k x (List.getElem?_eq_some_iff.mp hk).1 hk⟩, hf3, hoth⟩
theorem saidS_wf {σ : Sg} (hσ : WF σ) {rw : List Nat} (hr : WFr σ rw) {w : Nat} (hw : w < σ 0 1) : WFo (saidS σ rw w) := sayR_wf hσ _ hr.2 (wl_wf hσ hw)
theorem c_MsayAll {l : Launch} {X : XT} {d : Nat} {m : Mem} {σ : Sg} (hd : 4 ≤ d) (hs : RepM m σ) (hσ : WF σ) : Meth l X d M_X11_sayAll [vR 12 243] m (fun r1 m' => r1 = none ∧ (∀ w, w < σ 0 1 → RMs m' w (saidS σ (rowL σ) w)) ∧ FrS m m') := by
  obtain ⟨d, rfl⟩ : ∃ e, d = e + 1 := ⟨d - 1, by omega⟩
  have h8 := hσ.2.1
  refine E_X11_sayAll (ls := [vR 12 243, vU]) rfl rfl ?_
  repeat refine AW.u 2 rfl rfl ?_
  try dsimp only [List.set_cons_zero, List.set_cons_succ, Option.toList_some, Option.toList_none, List.cons_append, List.nil_append]
  refine AW.loop (pc := 2) (σ := Unit) (σ 0 1) (fun i _ => [vR 12 243, vI (nI i)]) (fun i _ m1 => FrS m m1 ∧ ∀ w, w < i → RMs m1 w (saidS σ (rowL σ) w)) (fun i _ m1 hi hm1 ih => ?_) 0 () m (Nat.zero_le _) ⟨FrS.rf, fun w hw => absurd hw (by omega)⟩
  obtain ⟨hf, hv⟩ := hm1
  have hsz : m1 243 1 = nI (σ 0 1) := by rw [hf.2 1 (by decide)]; exact hs.2.1
  repeat refine AW.s rfl ?_
  try dsimp only [List.set_cons_zero, List.set_cons_succ, Option.toList_some, Option.toList_none, List.cons_append, List.nil_append]
  rw [hsz]
  refine AW.b rfl (fun hc => ?_) (fun hc => ?_)
  · have hlt : i < σ 0 1 := (nI_ltI (by omega) (by omega)).mp hc
    repeat refine AW.s rfl ?_
    try dsimp only [List.set_cons_zero, List.set_cons_succ, Option.toList_some, Option.toList_none, List.cons_append, List.nil_append]
    refine AW.V k_11_238 ((c_Msay (by omega) (hs.S hf) hσ hlt)) rfl rfl rfl rfl rfl rfl (fun r1 m2 hq => ?_)
    obtain ⟨rfl, p1, p2, p3⟩ := hq
    repeat refine AW.u 2 rfl rfl ?_
    try dsimp only [List.set_cons_zero, List.set_cons_succ, Option.toList_some, Option.toList_none, List.cons_append, List.nil_append]
    rw [nI_1]
    refine ih () _ hlt ⟨hf.tr p2, fun w hw => ?_⟩
    by_cases e : w = i
    · subst e; exact p1
    · exact (hv w (by omega)).fr (saidS_wf hσ (rowL_wf hσ) (by omega)) (p3 w e).1 (p3 w e).2
  · have : i = σ 0 1 := by
      have : ¬ i < σ 0 1 := fun q => hc ((nI_ltI (by omega) (by omega)).mpr q)
      omega
    subst this
    exact AW.rv rfl rfl ⟨rfl, hv, hf⟩

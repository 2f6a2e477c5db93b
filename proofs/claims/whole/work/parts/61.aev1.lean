/-- what the class's questions leave alone -/
def FrC (m m' : Mem) : Prop := ∀ a, (a < 43 ∨ 235 ≤ a ∨ (199 ≤ a ∧ a < 235 ∧ (a - 199) % 6 ≠ 4)) → m' a = m a
theorem FrC.rf {m : Mem} : FrC m m := fun _ _ => rfl
theorem FrC.tr {m m' m'' : Mem} (h1 : FrC m m') (h2 : FrC m' m'') : FrC m m'' := fun a ha => by rw [h2 a ha, h1 a ha]
theorem RepS.C {m m' : Mem} {σ : Sg} (h : RepS m 1 σ) (hσ : WF σ) (hf : FrC m m') : RepS m' 1 σ := h.fr hσ.2.1 (fun a _ h2 => hf a (Or.inl (by omega)))
theorem TOK.C {m m' : Mem} {t : Nat} {en : Nat → Nat} (h : TOK m (199 + 6 * t) en) (ht : t < 6) (hf : FrC m m') : TOK m' (199 + 6 * t) en := h.fr (hf _ (by omega)) (hf _ (by omega)) (hf _ (by omega)) (hf _ (by omega))
theorem tellV_C {m m' : Mem} {t : Nat} {en : Nat → Nat} (h : TOK m (199 + 6 * t) en) (ht : t < 6) (hf : FrC m m') {p : Nat} (hp : p < 3) (F : Nat → Int32) : tellV m' (199 + 6 * t) en p F = tellV m (199 + 6 * t) en p F := by
  unfold tellV
  rw [tval_eq h hp (hf _ (by omega)) (hf _ (by omega)) (hf _ (by omega)) (fun _ _ => rfl)]
theorem c_law {l : Launch} {X : XT} {d : Nat} {m : Mem} {σ : Sg} (hs : RepS m 1 σ) (hσ : WF σ) : Meth l X d M_X10_law [vR 11 0] m (fun r m' => r = some (vR 10 (199 + 6 * σ 0 4)) ∧ m' = m) := by
  have hl6 : σ 0 4 < 6 := hσ.2.2.2.2.1
  refine E_X10_law (ls := [vR 11 0]) rfl rfl ?_
  repeat refine AW.s rfl ?_
  try dsimp only [List.set_cons_zero, List.set_cons_succ, Option.toList_some, Option.toList_none, List.cons_append, List.nil_append]
  rw [show m (0 + 1) 10 = nI (σ 0 4) from hs.2.2.2.1]
  refine AW.c rfl (vp_in_nI (by omega) (by decide)) ?_
  try dsimp only [List.set_cons_zero, List.set_cons_succ, Option.toList_some, Option.toList_none, List.cons_append, List.nil_append]
  rw [nI_clamp (by omega)]
  exact AW.ra rfl rfl (Or.inl ⟨_, rfl⟩) ⟨rfl, rfl⟩
theorem worthW_ext {σ : Sg} {rw : List Nat} {n : Nat} {f : Nat → Option (List Nat)} {τ τ' : Nat → (Nat → Int32) → Int32} (h : ∀ p, p < 3 → ∀ F, τ' p F = τ p F) (w : Nat) : worthW σ rw n f τ' w = worthW σ rw n f τ w := by
  induction w with
  | zero => rw [worthW, worthW]
  | succ w ih =>
    cases hfw : f w with
    | none => rw [worthW_none hfw, worthW_none hfw, ih]
    | some xs => rw [worthW_some hfw, worthW_some hfw, ih, h 0 (by decide), h 1 (by decide), h 2 (by decide)]
theorem c_worthBy {l : Launch} {X : XT} {d : Nat} {ρ : Nat} {en : Nat → Nat} {m : Mem} {σ : Sg} {rw : List Nat} (hd : 5 ≤ d) (hs : RepS m 1 σ) (hσ : WF σ) (hrw : WFr σ rw) (hρ : RepR m ρ rw) (ht : TOK m (199 + 6 * σ 0 4) en) (hρ1 : ρ + 1 < 43 ∨ 60 < ρ) (hρ2 : ρ + 1 < 65) : Meth l X d M_X10_worthBy [vR 11 0, vR 4 ρ] m (fun r m' => r = some (vI (worthW σ rw (σ 0 1) (saidS σ rw) (tellV m (199 + 6 * σ 0 4) en) (σ 0 1))) ∧ FrC m m') := by
  obtain ⟨d, rfl⟩ : ∃ e, d = e + 1 := ⟨d - 1, by omega⟩
  have hl6 : σ 0 4 < 6 := hσ.2.2.2.2.1
  refine E_X10_worthBy (ls := [vR 11 0, vR 4 ρ]) rfl rfl ?_
  repeat refine AW.s rfl ?_
  try dsimp only [List.set_cons_zero, List.set_cons_succ, Option.toList_some, Option.toList_none, List.cons_append, List.nil_append]
  refine AW.V k_10_210 ((c_sayAll (H := 43) (ρ := ρ) (rw := rw) (by omega) hs hσ hrw hρ (by decide) (by omega))) rfl rfl rfl rfl rfl rfl (fun r1 m1 hq => ?_)
  obtain ⟨rfl, hY, hf1⟩ := hq
  have fc1 : FrC m m1 := fun a ha => hf1 a (by omega)
  repeat refine AW.s rfl ?_
  try dsimp only [List.set_cons_zero, List.set_cons_succ, Option.toList_some, Option.toList_none, List.cons_append, List.nil_append]
  refine AW.V k_10_231 ((c_law (hs.C hσ fc1) hσ)) rfl rfl rfl rfl rfl rfl (fun r1 m2 hq => ?_)
  obtain ⟨rfl, hm2⟩ := hq
  rw [hm2]
  repeat refine AW.s rfl ?_
  try dsimp only [List.set_cons_zero, List.set_cons_succ, Option.toList_some, Option.toList_none, List.cons_append, List.nil_append]
  refine AW.V k_10_264 ((c_worth (J := 65) (ρ := ρ) (H := 43) (rw := rw) (n := σ 0 1) (by omega) (hs.C hσ fc1) hσ hrw (hρ.fr (hf1 _ (by omega)) (hf1 _ (by omega))) (ht.C hl6 fc1) (Nat.le_refl _) hY (fun w hw => saidS_wf hσ hrw hw) (by decide) (by decide) (by omega) (by omega) (by omega) (by omega) (by omega))) rfl rfl rfl rfl rfl rfl (fun r1 m3 hq => ?_)
  obtain ⟨rfl, hf3⟩ := hq
  have hww := worthW_ext (σ := σ) (rw := rw) (n := σ 0 1) (f := saidS σ rw) (fun p hp F => tellV_C ht hl6 fc1 hp F) (σ 0 1)
  try dsimp only [List.set_cons_zero, List.set_cons_succ, Option.toList_some, Option.toList_none, List.cons_append, List.nil_append]
  rw [hww]
  exact AW.ri rfl rfl rfl ⟨rfl, fc1.tr (fun a ha => hf3 a (by omega) (by omega))⟩
/-- a rule that turns all words into what they are -/
def idleP (σ : Sg) (r : Nat) : Prop := ∀ w, w < σ 0 1 → turnS σ r (some (wl σ w)) = some (wl σ w)
theorem c_isIdle {l : Launch} {X : XT} {d : Nat} {r : Nat} {m : Mem} {σ : Sg} (hd : 4 ≤ d) (hs : RepS m 1 σ) (hσ : WF σ) (hr : r < σ 0 2) : Meth l X d M_X10_isIdle [vR 11 0, vI (nI r)] m (fun r1 m' => ∃ b : Bool, r1 = some (vI (if b then 1 else 0)) ∧ (b = true ↔ idleP σ r) ∧ FrC m m') := by
  obtain ⟨d, rfl⟩ : ∃ e, d = e + 1 := ⟨d - 1, by omega⟩
  have h8 := hσ.2.1
  refine E_X10_isIdle (ls := [vR 11 0, vI (nI r), vU]) rfl rfl ?_
  repeat refine AW.u 2 rfl rfl ?_
  try dsimp only [List.set_cons_zero, List.set_cons_succ, Option.toList_some, Option.toList_none, List.cons_append, List.nil_append]
  refine AW.loop (pc := 2) (σ := Unit) (σ 0 1) (fun i _ => [vR 11 0, vI (nI r), vI (nI i)]) (fun i _ m1 => FrC m m1 ∧ ∀ w, w < i → turnS σ r (some (wl σ w)) = some (wl σ w)) (fun i _ m1 hi hm1 ih => ?_) 0 () m (Nat.zero_le _) ⟨FrC.rf, fun w hw => absurd hw (by omega)⟩
  obtain ⟨hf, hall⟩ := hm1
  have hs1 := hs.C hσ hf
  repeat refine AW.s rfl ?_
  try dsimp only [List.set_cons_zero, List.set_cons_succ, Option.toList_some, Option.toList_none, List.cons_append, List.nil_append]
  rw [show m1 (0 + 1) 4 = nI (σ 0 1) from hs1.2.1]
  refine AW.b rfl (fun hc => ?_) (fun hc => ?_)
  · have hlt : i < σ 0 1 := (nI_ltI (by omega) (by omega)).mp hc
    repeat refine AW.s rfl ?_
    try dsimp only [List.set_cons_zero, List.set_cons_succ, Option.toList_some, Option.toList_none, List.cons_append, List.nil_append]
    refine AW.V k_10_193 ((c_sayByOne (by omega) hs1 hσ hr hlt (by decide))) rfl rfl rfl rfl rfl rfl (fun r1 m2 hq => ?_)
    obtain ⟨rfl, p1, p2⟩ := hq
    have fc2 : FrC m1 m2 := fun a ha => p2 a (by omega) (by omega)
    repeat refine AW.s rfl ?_
    try dsimp only [List.set_cons_zero, List.set_cons_succ, Option.toList_some, Option.toList_none, List.cons_append, List.nil_append]
    refine AW.V k_10_347 ((c_isWord (hs1.C hσ fc2) hσ hlt p1 (turnS_wf hσ hr (wl_wf hσ hlt)))) rfl rfl rfl rfl rfl rfl (fun r1 m3 hq => ?_)
    obtain ⟨rfl, hm3⟩ := hq
    rw [hm3]
    try dsimp only [List.set_cons_zero, List.set_cons_succ, Option.toList_some, Option.toList_none, List.cons_append, List.nil_append]
    by_cases q : turnS σ r (some (wl σ i)) = some (wl σ i)
    · rw [if_pos q]
      refine AW.b rfl (fun hc => ?_) (fun hc => ?_)
      · exact absurd hc (by decide)
      · repeat refine AW.u 2 rfl rfl ?_
        try dsimp only [List.set_cons_zero, List.set_cons_succ, Option.toList_some, Option.toList_none, List.cons_append, List.nil_append]
        rw [nI_1]
        refine ih () _ hlt ⟨hf.tr fc2, fun w hw => ?_⟩
        by_cases e : w = i
        · subst e; exact q
        · exact hall w (by omega)
    · rw [if_neg q]
      refine AW.b rfl (fun hc => ?_) (fun hc => ?_)
      · repeat refine AW.s rfl ?_
        try dsimp only [List.set_cons_zero, List.set_cons_succ, Option.toList_some, Option.toList_none, List.cons_append, List.nil_append]
        exact AW.ri rfl rfl rfl ⟨false, rfl, ⟨fun z => (by cases z), fun z => absurd (z i hlt) q⟩, hf.tr fc2⟩
      · exact absurd rfl hc
  · have : i = σ 0 1 := by
      have : ¬ i < σ 0 1 := fun q => hc ((nI_ltI (by omega) (by omega)).mpr q)
      omega
    subst this
    repeat refine AW.s rfl ?_
    try dsimp only [List.set_cons_zero, List.set_cons_succ, Option.toList_some, Option.toList_none, List.cons_append, List.nil_append]
    exact AW.ri rfl rfl rfl ⟨true, rfl, ⟨fun _ => hall, fun _ => rfl⟩, hf⟩
theorem c_idleRules {l : Launch} {X : XT} {d : Nat} {m : Mem} {σ : Sg} (hd : 5 ≤ d) (hs : RepS m 1 σ) (hσ : WF σ) : Meth l X d M_X10_idleRules [vR 11 0] m (fun r1 m' => ∃ x, r1 = some (vI x) ∧ isBits x (fun r => r < σ 0 2 ∧ idleP σ r) ∧ FrC m m') := by
  obtain ⟨d, rfl⟩ : ∃ e, d = e + 1 := ⟨d - 1, by omega⟩
  have h6 := hσ.2.2.1
  refine E_X10_idleRules (ls := [vR 11 0, vU, vU]) rfl rfl ?_
  repeat refine AW.u 4 rfl rfl ?_
  try dsimp only [List.set_cons_zero, List.set_cons_succ, Option.toList_some, Option.toList_none, List.cons_append, List.nil_append]
  refine AW.loop (pc := 4) (σ := Int32) (σ 0 2) (fun i x => [vR 11 0, vI x, vI (nI i)]) (fun i x m1 => FrC m m1 ∧ isBits x (fun r => r < i ∧ idleP σ r)) (fun i x m1 hi hm1 ih => ?_) 0 0 m (Nat.zero_le _) ⟨FrC.rf, isBits.zero.to (fun b => ⟨fun q => absurd q id, fun q => absurd q.1 (by omega)⟩)⟩
  obtain ⟨hf, hb⟩ := hm1
  have hs1 := hs.C hσ hf
  repeat refine AW.s rfl ?_
  try dsimp only [List.set_cons_zero, List.set_cons_succ, Option.toList_some, Option.toList_none, List.cons_append, List.nil_append]
  rw [show m1 (0 + 1) 8 = nI (σ 0 2) from hs1.2.2.1]
  refine AW.b rfl (fun hc => ?_) (fun hc => ?_)
  · have hlt : i < σ 0 2 := (nI_ltI (by omega) (by omega)).mp hc
    repeat refine AW.s rfl ?_
    try dsimp only [List.set_cons_zero, List.set_cons_succ, Option.toList_some, Option.toList_none, List.cons_append, List.nil_append]
    refine AW.V k_10_362 ((c_isIdle (by omega) hs1 hσ hlt)) rfl rfl rfl rfl rfl rfl (fun r1 m2 hq => ?_)
    obtain ⟨b, rfl, hbb, fc2⟩ := hq
    try dsimp only [List.set_cons_zero, List.set_cons_succ, Option.toList_some, Option.toList_none, List.cons_append, List.nil_append]
    cases b with
    | false =>
      refine AW.b rfl (fun hc => ?_) (fun hc => ?_)
      · repeat refine AW.u 4 rfl rfl ?_
        try dsimp only [List.set_cons_zero, List.set_cons_succ, Option.toList_some, Option.toList_none, List.cons_append, List.nil_append]
        rw [nI_1]
        refine ih _ _ hlt ⟨hf.tr fc2, hb.to (fun r => ⟨fun q => ⟨by omega, q.2⟩, fun q => ?_⟩)⟩
        by_cases e : r = i
        · subst e; exact absurd (hbb.mpr q.2) (by decide)
        · exact ⟨by omega, q.2⟩
      · exact absurd rfl hc
    | true =>
      refine AW.b rfl (fun hc => ?_) (fun hc => ?_)
      · exact absurd hc (by decide)
      · repeat refine AW.u 4 rfl rfl ?_
        try dsimp only [List.set_cons_zero, List.set_cons_succ, Option.toList_some, Option.toList_none, List.cons_append, List.nil_append]
        rw [nI_1]
        refine ih _ _ hlt ⟨hf.tr fc2, (hb.or (k := i) (by omega)).to (fun r => ⟨fun q => ?_, fun q => ?_⟩)⟩
        · rcases q with q | rfl
          · exact ⟨by omega, q.2⟩
          · exact ⟨by omega, hbb.mp rfl⟩
        · by_cases e : r = i
          · exact Or.inr e
          · exact Or.inl ⟨by omega, q.2⟩
  · have : i = σ 0 2 := by
      have : ¬ i < σ 0 2 := fun q => hc ((nI_ltI (by omega) (by omega)).mpr q)
      omega
    subst this
    repeat refine AW.s rfl ?_
    try dsimp only [List.set_cons_zero, List.set_cons_succ, Option.toList_some, Option.toList_none, List.cons_append, List.nil_append]
    exact AW.ri rfl rfl rfl ⟨_, rfl, hb, hf⟩
/-- the least n from there on that brings a word round, f tries left -/
def rndF (σ : Sg) (w : Nat) (f n : Nat) (o : Option (List Nat)) : Int32 := match f with
  | 0 => -1
  | f + 1 => if sayR σ (rowL σ) o = some (wl σ w) then nI n else rndF σ w f (n + 1) (sayR σ (rowL σ) o)
/-- too long, or longer than L -/
def lngO (L : Nat) (o : Option (List Nat)) : Prop := ∀ xs, o = some xs → L < xs.length
theorem turnS_lng {σ : Sg} {r L : Nat} {o : Option (List Nat)} (ho : WFo o) (h : lngO L o) : lngO L (turnS σ r o) := by
  intro ys e
  cases o with
  | none => cases e
  | some xs =>
    have := (turnL_len (ho xs rfl).2.2 e).1
    have := h xs rfl
    omega
theorem sayR_lng {σ : Sg} (hσ : WF σ) {L : Nat} (rw : List Nat) : (∀ r ∈ rw, r < σ 0 2) → ∀ {o : Option (List Nat)}, WFo o → lngO L o → lngO L (sayR σ rw o) := by
  induction rw with
  | nil => intro _ o _ h; exact h
  | cons a r ih => intro hr o ho h; exact ih (fun q hq => hr q (List.mem_cons_of_mem _ hq)) (turnS_wf hσ (hr a List.mem_cons_self) ho) (turnS_lng ho h)
theorem rndF_lng {σ : Sg} (hσ : WF σ) {w : Nat} (f : Nat) : ∀ (n : Nat) {o : Option (List Nat)}, WFo o → lngO (σ 1 w) o → rndF σ w f n o = -1 := by
  induction f with
  | zero => intro n o _ _; rfl
  | succ f ih =>
    intro n o ho h
    have h2 := sayR_lng hσ (rowL σ) (rowL_wf hσ).2 ho h
    have hne : ¬ sayR σ (rowL σ) o = some (wl σ w) := by
      intro e
      have := h2 _ e
      rw [wl_len] at this
      omega
    show (if sayR σ (rowL σ) o = some (wl σ w) then nI n else rndF σ w f (n + 1) (sayR σ (rowL σ) o)) = -1
    rw [if_neg hne]
    exact ih (n + 1) (sayR_wf hσ _ (rowL_wf hσ).2 ho) h2
theorem sayR_ge {σ : Sg} (hσ : WF σ) {L : Nat} (rw : List Nat) : (∀ r ∈ rw, r < σ 0 2) → ∀ {o : Option (List Nat)}, WFo o → (∀ xs, o = some xs → L ≤ xs.length) → ∀ ys, sayR σ rw o = some ys → L ≤ ys.length := by
  induction rw with
  | nil => intro _ o _ h ys e; exact h ys e
  | cons a r ih =>
    intro hr o ho h
    refine ih (fun q hq => hr q (List.mem_cons_of_mem _ hq)) (turnS_wf hσ (hr a List.mem_cons_self) ho) (fun xs e => ?_)
    cases o with
    | none => cases e
    | some zs =>
      have := (turnL_len (ho zs rfl).2.2 e).1
      have := h zs rfl
      omega
theorem c_roundOf {l : Launch} {X : XT} {d : Nat} {w : Nat} {m : Mem} {σ : Sg} (hd : 4 ≤ d) (hs : RepS m 1 σ) (hσ : WF σ) (hw : w < σ 0 1) : Meth l X d M_X10_roundOf [vR 11 0, vI (nI w)] m (fun r1 m' => r1 = some (vI (rndF σ w 60 1 (some (wl σ w)))) ∧ FrC m m') := by
  obtain ⟨d, rfl⟩ : ∃ e, d = e + 1 := ⟨d - 1, by omega⟩
  have hw8 : w < 8 := Nat.lt_of_lt_of_le hw hσ.2.1
  obtain ⟨z1, z2, -⟩ := hσ.2.2.2.2.2.1 w hw
  refine E_X10_roundOf (ls := [vR 11 0, vI (nI w), vU]) rfl rfl ?_
  repeat refine AW.s rfl ?_
  try dsimp only [List.set_cons_zero, List.set_cons_succ, Option.toList_some, Option.toList_none, List.cons_append, List.nil_append]
  refine AW.V k_10_340 ((c_begin (h := 61) (by omega) hs hσ hw (by decide))) rfl rfl rfl rfl rfl rfl (fun r1 m1 hq => ?_)
  obtain ⟨rfl, p1, p2⟩ := hq
  have fc1 : FrC m m1 := fun a ha => p2 a (by omega) (by omega)
  repeat refine AW.u 14 rfl rfl ?_
  try dsimp only [List.set_cons_zero, List.set_cons_succ, Option.toList_some, Option.toList_none, List.cons_append, List.nil_append]
  refine AW.loop (pc := 14) (σ := Option (List Nat)) 60 (fun i _ => [vR 11 0, vI (nI w), vI (nI (i + 1))]) (fun i o m2 => FrC m m2 ∧ RY m2 61 o ∧ WFo o ∧ (∃ xs, o = some xs ∧ xs.length = σ 1 w) ∧ rndF σ w 60 1 (some (wl σ w)) = rndF σ w (60 - i) (i + 1) o) (fun i o m2 hi hm2 ih => ?_) 0 (some (wl σ w)) m1 (Nat.zero_le _) ⟨fc1, p1, wl_wf hσ hw, ⟨_, rfl, wl_len⟩, rfl⟩
  obtain ⟨hf, hy, ho, ⟨xs, rfl, hxl⟩, hrnd⟩ := hm2
  have hs2 := hs.C hσ hf
  repeat refine AW.s rfl ?_
  try dsimp only [List.set_cons_zero, List.set_cons_succ, Option.toList_some, Option.toList_none, List.cons_append, List.nil_append]
  refine AW.b rfl (fun hc => ?_) (fun hc => ?_)
  · have hge : 60 < i + 1 := (nI_ltI (a := 60) (by decide) (by omega)).mp hc
    repeat refine AW.s rfl ?_
    try dsimp only [List.set_cons_zero, List.set_cons_succ, Option.toList_some, Option.toList_none, List.cons_append, List.nil_append]
    have : i = 60 := by omega
    subst this
    refine AW.ri rfl rfl rfl ⟨?_, hf⟩
    rw [hrnd]
    rfl
  · have hlt : i < 60 := by
      have : ¬ 60 < i + 1 := fun q => hc (nI_lt (a := 60) q (by omega))
      omega
    obtain ⟨f, hff⟩ : ∃ f, 60 - i = f + 1 := ⟨60 - i - 1, by omega⟩
    rw [hff] at hrnd
    have hrnd : rndF σ w 60 1 (some (wl σ w)) = if sayR σ (rowL σ) (some xs) = some (wl σ w) then nI (i + 1) else rndF σ w f (i + 1 + 1) (sayR σ (rowL σ) (some xs)) := hrnd
    have hwf2 : WFo (sayR σ (rowL σ) (some xs)) := sayR_wf hσ _ (rowL_wf hσ).2 ho
    have hge2 := sayR_ge hσ (L := σ 1 w) (rowL σ) (rowL_wf hσ).2 ho (fun ys e => by cases e; omega)
    repeat refine AW.s rfl ?_
    try dsimp only [List.set_cons_zero, List.set_cons_succ, Option.toList_some, Option.toList_none, List.cons_append, List.nil_append]
    refine AW.V k_10_344 ((c_turnByRow (ρ := 16) (by omega) hs2 hσ (rowL_wf hσ) hs2.row (by decide) (by decide) hy ho)) rfl rfl rfl rfl rfl rfl (fun r1 m3 hq => ?_)
    obtain ⟨rfl, p3, p4⟩ := hq
    have fc3 : FrC m2 m3 := fun a ha => p4 a (by omega) (by omega)
    have hs3 := hs2.C hσ fc3
    have hzz : m3 (0 + 1 + 10) w = nI (σ 1 w) := (hs3.2.2.2.2.1 w hw).1
    repeat refine AW.s rfl ?_
    try dsimp only [List.set_cons_zero, List.set_cons_succ, Option.toList_some, Option.toList_none, List.cons_append, List.nil_append]
    refine AW.c rfl (vp_in_nI (by omega) (by decide)) ?_
    try dsimp only [List.set_cons_zero, List.set_cons_succ, Option.toList_some, Option.toList_none, List.cons_append, List.nil_append]
    rw [nI_clamp (by omega), hzz]
    have hexit : lngO (σ 1 w) (sayR σ (rowL σ) (some xs)) → rndF σ w 60 1 (some (wl σ w)) = -1 := by
      intro hl
      rw [hrnd, if_neg (fun e => by have := hl _ e; rw [wl_len] at this; omega)]
      exact rndF_lng hσ f _ hwf2 hl
    cases hoo : sayR σ (rowL σ) (some xs) with
    | none =>
      rw [hoo] at p3 hexit
      rw [show m3 (0 + 61) 1 = -1 from p3]
      refine AW.b rfl (fun hc => ?_) (fun hc => ?_)
      · exact absurd hc.symm (nI_m1 (by omega))
      · repeat refine AW.s rfl ?_
        try dsimp only [List.set_cons_zero, List.set_cons_succ, Option.toList_some, Option.toList_none, List.cons_append, List.nil_append]
        exact AW.ri rfl rfl rfl ⟨by rw [hexit (fun ys e => by cases e)], hf.tr fc3⟩
    | some ys =>
      rw [hoo] at p3 hexit hwf2
      obtain ⟨a1, a2, a3⟩ := hwf2 ys rfl
      have hyl := hge2 ys hoo
      rw [show m3 (0 + 61) 1 = nI ys.length from p3.1]
      refine AW.b rfl (fun hc => ?_) (fun hc => ?_)
      · have hlen : ys.length = σ 1 w := (nI_eq (by omega) (by omega)).mp hc
        repeat refine AW.s rfl ?_
        try dsimp only [List.set_cons_zero, List.set_cons_succ, Option.toList_some, Option.toList_none, List.cons_append, List.nil_append]
        refine AW.V k_10_347 ((c_isWord hs3 hσ hw p3 hwf2)) rfl rfl rfl rfl rfl rfl (fun r1 m4 hq => ?_)
        obtain ⟨rfl, hm4⟩ := hq
        rw [hm4]
        try dsimp only [List.set_cons_zero, List.set_cons_succ, Option.toList_some, Option.toList_none, List.cons_append, List.nil_append]
        rw [hoo] at hrnd
        by_cases q : some ys = some (wl σ w)
        · rw [if_pos q]
          rw [if_pos q] at hrnd
          refine AW.b rfl (fun hc => ?_) (fun hc => ?_)
          · exact absurd hc (by decide)
          · repeat refine AW.s rfl ?_
            try dsimp only [List.set_cons_zero, List.set_cons_succ, Option.toList_some, Option.toList_none, List.cons_append, List.nil_append]
            exact AW.ri rfl rfl rfl ⟨by rw [hrnd], hf.tr fc3⟩
        · rw [if_neg q]
          rw [if_neg q] at hrnd
          refine AW.b rfl (fun hc => ?_) (fun hc => ?_)
          · repeat refine AW.u 14 rfl rfl ?_
            try dsimp only [List.set_cons_zero, List.set_cons_succ, Option.toList_some, Option.toList_none, List.cons_append, List.nil_append]
            rw [nI_1]
            exact ih (some ys) _ hlt ⟨hf.tr fc3, p3, hwf2, ⟨ys, rfl, hlen⟩, by rw [hrnd, show 60 - (i + 1) = f by omega]⟩
          · exact absurd rfl hc
      · have hne : ¬ ys.length = σ 1 w := fun q => hc (by rw [q])
        repeat refine AW.s rfl ?_
        try dsimp only [List.set_cons_zero, List.set_cons_succ, Option.toList_some, Option.toList_none, List.cons_append, List.nil_append]
        exact AW.ri rfl rfl rfl ⟨by rw [hexit (fun zs e => by cases e; omega)], hf.tr fc3⟩

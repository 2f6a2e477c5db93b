-- ===== all that an object is, as numbers: class and model alike =====
/-- the state; whether there is an image, and it; sheets: sort, size, items; the tape: size, bytes; texts: how many, what each part tells -/
abbrev OM : Type := Sg × (Bool × Sg) × (Nat → Int32 × Nat × (Nat → Int32)) × (Nat × (Nat → Int32)) × (Nat × (Nat → Nat → (Nat → Int32) → Int32))
def oG (Ω : OM) : Sg := Ω.1
def oK (Ω : OM) : Bool := Ω.2.1.1
def oX (Ω : OM) : Sg := Ω.2.1.2
def oS (Ω : OM) (i : Nat) : Int32 := (Ω.2.2.1 i).1
def oZ (Ω : OM) (i : Nat) : Nat := (Ω.2.2.1 i).2.1
def oI (Ω : OM) (i : Nat) : Nat → Int32 := (Ω.2.2.1 i).2.2
def oN (Ω : OM) : Nat := Ω.2.2.2.1.1
def oB (Ω : OM) : Nat → Int32 := Ω.2.2.2.1.2
def oQ (Ω : OM) : Nat := Ω.2.2.2.2.1
def oV (Ω : OM) : Nat → Nat → (Nat → Int32) → Int32 := Ω.2.2.2.2.2
def uG (Ω : OM) (σ : Sg) : OM := (σ, Ω.2)
def uX (Ω : OM) (κ : Sg) : OM := (Ω.1, (true, κ), Ω.2.2)
def uS (Ω : OM) (i : Nat) (s : Int32) (n : Nat) (f : Nat → Int32) : OM := (Ω.1, Ω.2.1, fun j => if j = i then (s, n, f) else Ω.2.2.1 j, Ω.2.2.2)
def uT (Ω : OM) (n : Nat) (f : Nat → Int32) : OM := (Ω.1, Ω.2.1, Ω.2.2.1, (n, f), Ω.2.2.2.2)
def uV (Ω : OM) (n : Nat) (f : Nat → Nat → (Nat → Int32) → Int32) : OM := (Ω.1, Ω.2.1, Ω.2.2.1, Ω.2.2.2.1, (n, f))
noncomputable def cif {α : Type} (P : Prop) (x y : α) : α := @ite α P (Classical.propDecidable P) x y
theorem cif_t {α : Type} {P : Prop} {x y : α} (h : P) : cif P x y = x := if_pos h
theorem cif_f {α : Type} {P : Prop} {x y : α} (h : ¬ P) : cif P x y = y := if_neg h
def shOK (Ω : OM) (i : Nat) : Prop := (oS Ω i = -1 ∧ oZ Ω i = 0) ∨ ((∃ s, s < 3 ∧ oS Ω i = nI s) ∧ oZ Ω i ≤ 40)
def WO (Ω : OM) : Prop :=
  WF (oG Ω) ∧ (oK Ω = true → WF (oX Ω) ∧ (oX Ω) 0 2 ≤ (oG Ω) 0 2 ∧ (∀ r, r < (oX Ω) 0 2 → (oX Ω) 3 r = (oG Ω) 3 r) ∧ (oX Ω) 0 4 < oQ Ω) ∧
  (oG Ω) 0 4 < oQ Ω ∧ oQ Ω ≤ 6 ∧ oN Ω ≤ 160 ∧ (∀ k, k < oN Ω → ∃ b, b < 256 ∧ oB Ω k = nI b) ∧ ∀ i, i < 4 → shOK Ω i
theorem shOK.le {Ω : OM} {i : Nat} (h : shOK Ω i) : oZ Ω i ≤ 40 := by
  rcases h with ⟨-, h⟩ | ⟨-, h⟩ <;> omega
theorem shOK.sort {Ω : OM} {i : Nat} (h : shOK Ω i) (hn : ¬ oS Ω i = -1) : ∃ s, s < 3 ∧ oS Ω i = nI s := by
  rcases h with ⟨h, -⟩ | ⟨h, -⟩
  · exact absurd h hn
  · exact h
def InvC (m : Mem) (Ω : OM) : Prop :=
  RepS m 1 (oG Ω) ∧ m 0 2 = (if oK Ω then 1 else 0) ∧ (oK Ω = true → RepS m 18 (oX Ω)) ∧ m 0 4 = nI (oQ Ω) ∧
  (∀ t, t < oQ Ω → ∃ en, TOK m (199 + 6 * t) en ∧ ∀ p, p < 3 → ∀ F, tellV m (199 + 6 * t) en p F = oV Ω t p F) ∧
  m 36 1 = nI (oN Ω) ∧ (∀ k, k < oN Ω → m 37 k = oB Ω k) ∧
  ∀ i, i < 4 → m (235 + 2 * i) 1 = oS Ω i ∧ m (235 + 2 * i) 2 = nI (oZ Ω i) ∧ ∀ k, k < oZ Ω i → m (235 + 2 * i + 1) k = oI Ω i k
/-- nothing of the model changes -/
def KC (m m' : Mem) : Prop := ∀ a, 243 ≤ a → m' a = m a
theorem KC.rf {m : Mem} : KC m m := fun _ _ => rfl
theorem KC.tr {m m' m'' : Mem} (h1 : KC m m') (h2 : KC m' m'') : KC m m'' := fun a h => by rw [h2 a h, h1 a h]
theorem FrC.K {m m' : Mem} (h : FrC m m') : KC m m' := fun a ha => h a (by omega)
/-- the parts of InvC one by one under changes elsewhere -/
theorem InvC.fr {m m' : Mem} {Ω : OM} (h : InvC m Ω) (hW : WO Ω) (hf : FrC m m') : InvC m' Ω := by
  obtain ⟨h1, h2, h3, h4, h5, h6, h7, h8⟩ := h
  obtain ⟨w1, w2, w3, w4, -⟩ := hW
  refine ⟨h1.C w1 hf, by rw [hf 0 (by omega)]; exact h2, fun k => (h3 k).fr (w2 k).1.2.1 (fun a _ _ => hf a (by omega)), by rw [hf 0 (by omega)]; exact h4, fun t ht => ?_, by rw [hf 36 (by omega)]; exact h6, fun k hk => by rw [hf 37 (by omega)]; exact h7 k hk, fun i hi => ?_⟩
  · obtain ⟨en, e1, e2⟩ := h5 t ht
    exact ⟨en, e1.C (by omega) hf, fun p hp F => by rw [tellV_C e1 (by omega) hf hp]; exact e2 p hp F⟩
  · rw [hf (235 + 2 * i) (by omega), hf (235 + 2 * i + 1) (by omega)]
    exact h8 i hi
/-- only the state's cells change -/
theorem InvC.g {m m' : Mem} {Ω : OM} {σ : Sg} (h : InvC m Ω) (hW : WO Ω) (hs : RepS m' 1 σ) (hf : ∀ a, (a < 1 ∨ 17 < a) → m' a = m a) : InvC m' (uG Ω σ) := by
  obtain ⟨h1, h2, h3, h4, h5, h6, h7, h8⟩ := h
  obtain ⟨w1, w2, w3, w4, -⟩ := hW
  refine ⟨hs, by rw [hf 0 (by omega)]; exact h2, fun k => (h3 k).fr (w2 k).1.2.1 (fun a _ _ => hf a (by omega)), by rw [hf 0 (by omega)]; exact h4, fun t ht => ?_, by rw [hf 36 (by omega)]; exact h6, fun k hk => by rw [hf 37 (by omega)]; exact h7 k hk, fun i hi => ?_⟩
  · obtain ⟨en, e1, e2⟩ := h5 t ht
    have hz : ∀ p, p < 3 → ∀ F, tellV m' (199 + 6 * t) en p F = tellV m (199 + 6 * t) en p F := fun p hp F => by
      unfold tellV
      rw [tval_eq e1 hp (hf _ (by omega)) (hf _ (by omega)) (hf _ (by omega)) (fun _ _ => rfl)]
    exact ⟨en, e1.fr (hf _ (by omega)) (hf _ (by omega)) (hf _ (by omega)) (hf _ (by omega)), fun p hp F => by rw [hz p hp]; exact e2 p hp F⟩
  · rw [hf (235 + 2 * i) (by omega), hf (235 + 2 * i + 1) (by omega)]
    exact h8 i hi
theorem InvC.self {m m' : Mem} {Ω : OM} (h : InvC m Ω) (e : m' = m) : InvC m' Ω ∧ KC m m' := by subst e; exact ⟨h, KC.rf⟩
/-- the law's text, by its place -/
theorem InvC.law {m : Mem} {Ω : OM} (h : InvC m Ω) (hW : WO Ω) : ∃ en, TOK m (199 + 6 * (oG Ω) 0 4) en ∧ ∀ p, p < 3 → ∀ F, tellV m (199 + 6 * (oG Ω) 0 4) en p F = oV Ω ((oG Ω) 0 4) p F := h.2.2.2.2.1 _ hW.2.2.1
/-- what the row is worth by a text -/
def wthO (Ω : OM) (t : Nat) (rw : List Nat) : Int32 := worthW (oG Ω) rw ((oG Ω) 0 1) (saidS (oG Ω) rw) (oV Ω t) ((oG Ω) 0 1)
theorem C_worthBy {l : Launch} {X : XT} {d : Nat} {ρ : Nat} {m : Mem} {Ω : OM} {rw : List Nat} (hd : 5 ≤ d) (hW : WO Ω) (hI : InvC m Ω) (hrw : WFr (oG Ω) rw) (hρ : RepR m ρ rw) (hρ1 : ρ + 1 < 43 ∨ 60 < ρ) (hρ2 : ρ + 1 < 65) : Meth l X d M_X10_worthBy [vR 11 0, vR 4 ρ] m (fun r m' => r = some (vI (wthO Ω ((oG Ω) 0 4) rw)) ∧ FrC m m') := by
  obtain ⟨en, e1, e2⟩ := hI.law hW
  refine (c_worthBy (en := en) hd hI.1 hW.1 hrw hρ e1 hρ1 hρ2).post (fun r m' hq => ⟨?_, hq.2⟩)
  rw [hq.1]
  unfold wthO
  rw [worthW_ext (fun p hp F => e2 p hp F)]
-- ===== learn, rule, then, clear =====
def twP (Ω : OM) (i : Nat) : Prop := 1 ≤ oZ Ω i ∧ oZ Ω i ≤ 10 ∧ ∀ k, k < oZ Ω i → wB (oI Ω i k) 25 = 1
noncomputable def learnF (Ω : OM) (a b : Int32) : Int32 × OM :=
  cif (wB a 3 = 1 ∧ wB b 99 = 1) (cif (oS Ω a.toNatClampNeg = -1) (-11, Ω) (cif (twP Ω a.toNatClampNeg) (cif ((oG Ω) 0 1 = 8) (-4, Ω) (nI ((oG Ω) 0 1), uG Ω (addW (oG Ω) (fun k => (oI Ω a.toNatClampNeg k).toNatClampNeg) (oZ Ω a.toNatClampNeg) b.toNatClampNeg))) (-2, Ω))) (-2, Ω)
theorem C_learn {l : Launch} {X : XT} {d : Nat} {a b : Int32} {m : Mem} {Ω : OM} (hd : 5 ≤ d) (hW : WO Ω) (hI : InvC m Ω) : Meth l X d M_X10_learn [vR 11 0, vI a, vI b] m (fun r m' => r = some (vI (learnF Ω a b).1) ∧ InvC m' (learnF Ω a b).2 ∧ KC m m') := by
  obtain ⟨d, rfl⟩ : ∃ e, d = e + 1 := ⟨d - 1, by omega⟩
  refine E_X10_learn (ls := [vR 11 0, vI a, vI b, vU]) rfl rfl ?_
  repeat refine AW.s rfl ?_
  try dsimp only [List.set_cons_zero, List.set_cons_succ, Option.toList_some, Option.toList_none, List.cons_append, List.nil_append]
  refine AW.S k_10_109 ((c_isSheet (by omega))) rfl rfl rfl rfl (fun r1 m9 hq => ?_)
  obtain ⟨rfl, hm9⟩ := hq
  rw [hm9]
  try dsimp only [List.set_cons_zero, List.set_cons_succ, Option.toList_some, Option.toList_none, List.cons_append, List.nil_append]
  by_cases q1 : wB a 3 = 1
  · rw [q1]
    refine AW.b rfl (fun hc => ?_) (fun hc => ?_)
    · exact absurd hc (by decide)
    · repeat refine AW.s rfl ?_
      try dsimp only [List.set_cons_zero, List.set_cons_succ, Option.toList_some, Option.toList_none, List.cons_append, List.nil_append]
      refine AW.S k_10_113 (c_isWithin) rfl rfl rfl rfl (fun r1 m8 hq => ?_)
      obtain ⟨rfl, hm8⟩ := hq
      rw [hm8]
      try dsimp only [List.set_cons_zero, List.set_cons_succ, Option.toList_some, Option.toList_none, List.cons_append, List.nil_append]
      by_cases q2 : wB b 99 = 1
      · rw [q2]
        refine AW.b rfl (fun hc => ?_) (fun hc => ?_)
        · exact absurd hc (by decide)
        · obtain ⟨i, hi, rfl⟩ := (wB_1 (n := 3) (by decide)).mp q1
          obtain ⟨g, hg, rfl⟩ := (wB_1 (n := 99) (by decide)).mp q2
          have eL : learnF Ω (nI i) (nI g) = cif (oS Ω i = -1) (-11, Ω) (cif (twP Ω i) (cif ((oG Ω) 0 1 = 8) (-4, Ω) (nI ((oG Ω) 0 1), uG Ω (addW (oG Ω) (fun k => (oI Ω i k).toNatClampNeg) (oZ Ω i) g))) (-2, Ω)) := by
            unfold learnF
            rw [cif_t ⟨q1, q2⟩, nI_clamp (by omega), nI_clamp (by omega)]
          rw [eL]
          obtain ⟨s1, s2, s3⟩ := hI.2.2.2.2.2.2.2 i (by omega)
          have hz := (hW.2.2.2.2.2.2 i (by omega)).le
          repeat refine AW.s rfl ?_
          try dsimp only [List.set_cons_zero, List.set_cons_succ, Option.toList_some, Option.toList_none, List.cons_append, List.nil_append]
          refine AW.c rfl (vp_in_nI (by omega) (by decide)) ?_
          try dsimp only [List.set_cons_zero, List.set_cons_succ, Option.toList_some, Option.toList_none, List.cons_append, List.nil_append]
          rw [nI_clamp (by omega)]
          repeat refine AW.s rfl ?_
          try dsimp only [List.set_cons_zero, List.set_cons_succ, Option.toList_some, Option.toList_none, List.cons_append, List.nil_append]
          refine AW.V k_10_117 (c_isMissing) rfl rfl rfl rfl rfl rfl (fun r1 m7 hq => ?_)
          obtain ⟨rfl, hm7⟩ := hq
          rw [hm7]
          try dsimp only [List.set_cons_zero, List.set_cons_succ, Option.toList_some, Option.toList_none, List.cons_append, List.nil_append]
          by_cases q3 : oS Ω i = -1
          · rw [cif_t q3, if_pos (show m (0 + 42 + 193 + 2 * i) 1 = -1 by rw [show 0 + 42 + 193 + 2 * i = 235 + 2 * i by omega, s1]; exact q3)]
            refine AW.b rfl (fun hc => ?_) (fun hc => ?_)
            · exact absurd hc (by decide)
            · repeat refine AW.s rfl ?_
              try dsimp only [List.set_cons_zero, List.set_cons_succ, Option.toList_some, Option.toList_none, List.cons_append, List.nil_append]
              exact AW.ri rfl rfl rfl ⟨rfl, hI, KC.rf⟩
          · rw [cif_f q3, if_neg (show ¬ m (0 + 42 + 193 + 2 * i) 1 = -1 by rw [show 0 + 42 + 193 + 2 * i = 235 + 2 * i by omega, s1]; exact q3)]
            refine AW.b rfl (fun hc => ?_) (fun hc => ?_)
            · repeat refine AW.s rfl ?_
              try dsimp only [List.set_cons_zero, List.set_cons_succ, Option.toList_some, Option.toList_none, List.cons_append, List.nil_append]
              refine AW.V k_10_121 ((c_tellsWord (n := oZ Ω i) (by omega) (by rw [show 0 + 42 + 193 + 2 * i = 235 + 2 * i by omega]; exact s2) hz)) rfl rfl rfl rfl rfl rfl (fun r1 m6 hq => ?_)
              obtain ⟨bb, rfl, hbb, hm6⟩ := hq
              rw [hm6]
              try dsimp only [List.set_cons_zero, List.set_cons_succ, Option.toList_some, Option.toList_none, List.cons_append, List.nil_append]
              have hbt : bb = true ↔ twP Ω i := by
                rw [hbb]
                refine and_congr Iff.rfl (and_congr Iff.rfl ⟨fun h k hk => ?_, fun h k hk => ?_⟩)
                · have := h k hk
                  rwa [show 0 + 42 + 193 + 2 * i + 1 = 235 + 2 * i + 1 by omega, s3 k hk] at this
                · rw [show 0 + 42 + 193 + 2 * i + 1 = 235 + 2 * i + 1 by omega, s3 k hk]
                  exact h k hk
              cases bb with
              | false =>
                rw [cif_f (fun q => by cases hbt.mpr q)]
                refine AW.b rfl (fun hc => ?_) (fun hc => ?_)
                · repeat refine AW.s rfl ?_
                  try dsimp only [List.set_cons_zero, List.set_cons_succ, Option.toList_some, Option.toList_none, List.cons_append, List.nil_append]
                  exact AW.ri rfl rfl rfl ⟨rfl, hI, KC.rf⟩
                · exact absurd rfl hc
              | true =>
                have ht := hbt.mp rfl
                rw [cif_t ht]
                refine AW.b rfl (fun hc => ?_) (fun hc => ?_)
                · exact absurd hc (by decide)
                · repeat refine AW.s rfl ?_
                  try dsimp only [List.set_cons_zero, List.set_cons_succ, Option.toList_some, Option.toList_none, List.cons_append, List.nil_append]
                  rw [show m (0 + 1) 4 = nI ((oG Ω) 0 1) from hI.1.2.1]
                  have h8 := hW.1.2.1
                  refine AW.b rfl (fun hc => ?_) (fun hc => ?_)
                  · have e8 : (oG Ω) 0 1 = 8 := (nI_eq (b := 8) (by omega) (by decide)).mp hc
                    rw [cif_t e8]
                    repeat refine AW.s rfl ?_
                    try dsimp only [List.set_cons_zero, List.set_cons_succ, Option.toList_some, Option.toList_none, List.cons_append, List.nil_append]
                    exact AW.ri rfl rfl rfl ⟨rfl, hI, KC.rf⟩
                  · have e8 : ¬ (oG Ω) 0 1 = 8 := fun q => hc (by rw [q]; rfl)
                    rw [cif_f e8]
                    repeat refine AW.s rfl ?_
                    try dsimp only [List.set_cons_zero, List.set_cons_succ, Option.toList_some, Option.toList_none, List.cons_append, List.nil_append]
                    refine AW.V k_10_127 ((c_addWord (n := oZ Ω i) (x := fun k => (oI Ω i k).toNatClampNeg) (by omega) hI.1 (by omega) (by omega) (by rw [show 0 + 42 + 193 + 2 * i = 235 + 2 * i by omega]; exact s2) ht.2.1 (fun k hk => by rw [show 0 + 42 + 193 + 2 * i + 1 = 235 + 2 * i + 1 by omega, s3 k hk]; obtain ⟨j, hj, e⟩ := (wB_1 (n := 25) (by decide)).mp (ht.2.2 k hk); rw [e, nI_clamp (by omega)]))) rfl rfl rfl rfl rfl rfl (fun r1 m5 hq => ?_)
                    obtain ⟨rfl, p1, p2⟩ := hq
                    repeat refine AW.s rfl ?_
                    try dsimp only [List.set_cons_zero, List.set_cons_succ, Option.toList_some, Option.toList_none, List.cons_append, List.nil_append]
                    exact AW.ri rfl rfl rfl ⟨rfl, hI.g hW p1 p2, fun a ha => p2 a (by omega)⟩
            · exact absurd rfl hc
      · rw [wB_0 q2]
        refine AW.b rfl (fun hc => ?_) (fun hc => ?_)
        · repeat refine AW.s rfl ?_
          try dsimp only [List.set_cons_zero, List.set_cons_succ, Option.toList_some, Option.toList_none, List.cons_append, List.nil_append]
          exact AW.ri rfl rfl rfl ⟨by unfold learnF; rw [cif_f (fun q => q2 q.2)], by unfold learnF; rw [cif_f (fun q => q2 q.2)]; exact hI, KC.rf⟩
        · exact absurd rfl hc
  · rw [wB_0 q1]
    refine AW.b rfl (fun hc => ?_) (fun hc => ?_)
    · repeat refine AW.s rfl ?_
      try dsimp only [List.set_cons_zero, List.set_cons_succ, Option.toList_some, Option.toList_none, List.cons_append, List.nil_append]
      exact AW.ri rfl rfl rfl ⟨by unfold learnF; rw [cif_f (fun q => q1 q.1)], by unfold learnF; rw [cif_f (fun q => q1 q.1)]; exact hI, KC.rf⟩
    · exact absurd rfl hc
noncomputable def ruleF (Ω : OM) (a b c : Int32) : Int32 × OM :=
  cif (rB a b c = 1) (cif ((oG Ω) 0 2 = 6) (-4, Ω) (nI ((oG Ω) 0 2), uG Ω (addR (oG Ω) a.toNatClampNeg b.toNatClampNeg c.toNatClampNeg))) (-2, Ω)
theorem rB_1 {a b c : Int32} : rB a b c = 1 ↔ wB a 5 = 1 ∧ wB b 25 = 1 ∧ wB c 25 = 1 := by
  unfold rB
  rcases wB_01 a 5 with e | e <;> rcases wB_01 b 25 with f | f <;> rcases wB_01 c 25 with g | g <;> simp [e, f, g]
theorem rB_0 {a b c : Int32} (h : ¬ rB a b c = 1) : rB a b c = 0 := by
  unfold rB at h ⊢
  split
  · rfl
  · split
    · rfl
    · split
      · rfl
      · rename_i h1 h2 h3
        rw [if_neg h1, if_neg h2, if_neg h3] at h
        exact absurd rfl h
theorem C_rule {l : Launch} {X : XT} {d : Nat} {a b c : Int32} {m : Mem} {Ω : OM} (hd : 5 ≤ d) (hW : WO Ω) (hI : InvC m Ω) : Meth l X d M_X10_rule [vR 11 0, vI a, vI b, vI c] m (fun r m' => r = some (vI (ruleF Ω a b c).1) ∧ InvC m' (ruleF Ω a b c).2 ∧ KC m m' ∧ ∀ q, (q < 1 ∨ 17 < q) → m' q = m q) := by
  obtain ⟨d, rfl⟩ : ∃ e, d = e + 1 := ⟨d - 1, by omega⟩
  refine E_X10_rule (ls := [vR 11 0, vI a, vI b, vI c]) rfl rfl ?_
  repeat refine AW.s rfl ?_
  try dsimp only [List.set_cons_zero, List.set_cons_succ, Option.toList_some, Option.toList_none, List.cons_append, List.nil_append]
  refine AW.S k_10_131 ((c_isRule (by omega))) rfl rfl rfl rfl (fun r1 m9 hq => ?_)
  obtain ⟨rfl, hm9⟩ := hq
  rw [hm9]
  try dsimp only [List.set_cons_zero, List.set_cons_succ, Option.toList_some, Option.toList_none, List.cons_append, List.nil_append]
  by_cases q1 : rB a b c = 1
  · rw [q1]
    have e0 : ruleF Ω a b c = cif ((oG Ω) 0 2 = 6) (-4, Ω) (nI ((oG Ω) 0 2), uG Ω (addR (oG Ω) a.toNatClampNeg b.toNatClampNeg c.toNatClampNeg)) := by unfold ruleF; rw [cif_t q1]
    rw [e0]
    refine AW.b rfl (fun hc => ?_) (fun hc => ?_)
    · exact absurd hc (by decide)
    · repeat refine AW.s rfl ?_
      try dsimp only [List.set_cons_zero, List.set_cons_succ, Option.toList_some, Option.toList_none, List.cons_append, List.nil_append]
      rw [show m (0 + 1) 8 = nI ((oG Ω) 0 2) from hI.1.2.2.1]
      have h6 := hW.1.2.2.1
      refine AW.b rfl (fun hc => ?_) (fun hc => ?_)
      · have e6 : (oG Ω) 0 2 = 6 := (nI_eq (b := 6) (by omega) (by decide)).mp hc
        rw [cif_t e6]
        repeat refine AW.s rfl ?_
        try dsimp only [List.set_cons_zero, List.set_cons_succ, Option.toList_some, Option.toList_none, List.cons_append, List.nil_append]
        exact AW.ri rfl rfl rfl ⟨rfl, hI, KC.rf, fun _ _ => rfl⟩
      · have e6 : ¬ (oG Ω) 0 2 = 6 := fun q => hc (by rw [q]; rfl)
        rw [cif_f e6]
        obtain ⟨q2, q3, q4⟩ := rB_1.mp q1
        obtain ⟨i, hi, rfl⟩ := (wB_1 (n := 5) (by decide)).mp q2
        obtain ⟨j, hj, rfl⟩ := (wB_1 (n := 25) (by decide)).mp q3
        obtain ⟨k, hk, rfl⟩ := (wB_1 (n := 25) (by decide)).mp q4
        rw [nI_clamp (by omega), nI_clamp (by omega), nI_clamp (by omega)]
        repeat refine AW.s rfl ?_
        try dsimp only [List.set_cons_zero, List.set_cons_succ, Option.toList_some, Option.toList_none, List.cons_append, List.nil_append]
        refine AW.V k_10_138 ((c_addRule hI.1 hW.1 (by omega))) rfl rfl rfl rfl rfl rfl (fun r1 m5 hq => ?_)
        obtain ⟨rfl, p1, p2⟩ := hq
        have p3 : ∀ q, (q < 1 ∨ 17 < q) → m5 q = m q := fun q hq => p2 q (by omega) (by omega) (by omega) (by omega)
        repeat refine AW.s rfl ?_
        try dsimp only [List.set_cons_zero, List.set_cons_succ, Option.toList_some, Option.toList_none, List.cons_append, List.nil_append]
        exact AW.ri rfl rfl rfl ⟨rfl, hI.g hW p1 p3, fun a ha => p3 a (by omega), p3⟩
  · rw [rB_0 q1]
    have e0 : ruleF Ω a b c = (-2, Ω) := by unfold ruleF; rw [cif_f q1]
    rw [e0]
    refine AW.b rfl (fun hc => ?_) (fun hc => ?_)
    · repeat refine AW.s rfl ?_
      try dsimp only [List.set_cons_zero, List.set_cons_succ, Option.toList_some, Option.toList_none, List.cons_append, List.nil_append]
      exact AW.ri rfl rfl rfl ⟨rfl, hI, KC.rf, fun _ _ => rfl⟩
    · exact absurd rfl hc
def thenS (σ : Sg) (r : Nat) : Sg := sU (sU σ 6 (σ 0 3) r) 0 3 (σ 0 3 + 1)
noncomputable def thenF (Ω : OM) (a : Int32) : Int32 × OM :=
  cif (hB a ((oG Ω) 0 2) = 1) (cif ((oG Ω) 0 3 = 8) (-4, Ω) (nI ((oG Ω) 0 3 + 1), uG Ω (thenS (oG Ω) a.toNatClampNeg))) (-2, Ω)
theorem rowL_then {σ : Sg} {r : Nat} : rowL (thenS σ r) = rowL σ ++ [r] := by
  unfold rowL thenS
  have e1 : sU (sU σ 6 (σ 0 3) r) 0 3 (σ 0 3 + 1) 0 3 = σ 0 3 + 1 := by simp [sU]
  rw [e1, List.range_succ, List.map_append]
  congr 1
  · refine List.map_congr_left (fun k hk => ?_)
    have := List.mem_range.mp hk
    simp [sU]
    omega
  · simp [sU]
theorem RepS.row2 {m m' : Mem} {S : Nat} {σ : Sg} {rw : List Nat} (h : RepS m S σ) (hw8 : σ 0 1 ≤ 8) (hr : RepR m' (S + 15) rw) (hf : ∀ a, S ≤ a → a ≤ S + 14 → m' a = m a) (τ : Sg) (h3 : τ 0 3 = rw.length) (h6 : ∀ i x, rw[i]? = some x → τ 6 i = x) (hτ : ∀ a k, a ≠ 6 → (a ≠ 0 ∨ k ≠ 3) → τ a k = σ a k) : RepS m' S τ := by
  obtain ⟨a1, a2, a3, a4, a5, a6, a7, a8⟩ := h
  have g0 : ∀ k, k ≠ 3 → τ 0 k = σ 0 k := fun k hk => hτ 0 k (by decide) (Or.inr hk)
  have g1 : ∀ a k, a ≠ 0 → a ≠ 6 → τ a k = σ a k := fun a k h1 h2 => hτ a k h2 (Or.inl h1)
  refine ⟨by rw [hf S (by omega) (by omega), g0 0 (by decide)]; exact a1, by rw [hf S (by omega) (by omega), g0 1 (by decide)]; exact a2, by rw [hf S (by omega) (by omega), g0 2 (by decide)]; exact a3, by rw [hf S (by omega) (by omega), g0 4 (by decide)]; exact a4, fun w hw => ?_, fun r hr2 => ?_, by rw [h3]; exact hr.1, fun i hi => ?_⟩
  · rw [g0 1 (by decide)] at hw
    rw [g1 1 w (by decide) (by decide), g1 2 w (by decide) (by decide), hf (S + 10) (by omega) (by omega), hf (S + 11) (by omega) (by omega), hf (S + 2 + w) (by omega) (by omega)]
    obtain ⟨b1, b2, b3⟩ := a5 w hw
    exact ⟨b1, b2, fun k hk => by rw [g1 (10 + w) k (by omega) (by omega)]; exact b3 k hk⟩
  · rw [g0 2 (by decide)] at hr2
    rw [g1 3 r (by decide) (by decide), g1 4 r (by decide) (by decide), g1 5 r (by decide) (by decide), hf (S + 12) (by omega) (by omega), hf (S + 13) (by omega) (by omega), hf (S + 14) (by omega) (by omega)]
    exact a6 r hr2
  · rw [h3] at hi
    have hx := List.getElem?_eq_getElem hi
    rw [h6 i _ hx]
    exact hr.2 i _ hx
theorem C_then {l : Launch} {X : XT} {d : Nat} {a : Int32} {m : Mem} {Ω : OM} (hd : 5 ≤ d) (hW : WO Ω) (hI : InvC m Ω) : Meth l X d M_X10_then [vR 11 0, vI a] m (fun r m' => r = some (vI (thenF Ω a).1) ∧ InvC m' (thenF Ω a).2 ∧ KC m m') := by
  obtain ⟨d, rfl⟩ : ∃ e, d = e + 1 := ⟨d - 1, by omega⟩
  have h6 := hW.1.2.2.1
  have h3 := hW.1.2.2.2.1
  refine E_X10_then (ls := [vR 11 0, vI a]) rfl rfl ?_
  repeat refine AW.s rfl ?_
  try dsimp only [List.set_cons_zero, List.set_cons_succ, Option.toList_some, Option.toList_none, List.cons_append, List.nil_append]
  refine AW.V k_10_142 ((c_hasRule hI.1)) rfl rfl rfl rfl rfl rfl (fun r1 m9 hq => ?_)
  obtain ⟨rfl, hm9⟩ := hq
  rw [hm9]
  try dsimp only [List.set_cons_zero, List.set_cons_succ, Option.toList_some, Option.toList_none, List.cons_append, List.nil_append]
  by_cases q1 : hB a ((oG Ω) 0 2) = 1
  · rw [q1]
    obtain ⟨r, hr, rfl⟩ := (hB_1 (by omega)).mp q1
    have e0 : thenF Ω (nI r) = cif ((oG Ω) 0 3 = 8) (-4, Ω) (nI ((oG Ω) 0 3 + 1), uG Ω (thenS (oG Ω) r)) := by unfold thenF; rw [cif_t q1, nI_clamp (by omega)]
    rw [e0]
    refine AW.b rfl (fun hc => ?_) (fun hc => ?_)
    · exact absurd hc (by decide)
    · repeat refine AW.s rfl ?_
      try dsimp only [List.set_cons_zero, List.set_cons_succ, Option.toList_some, Option.toList_none, List.cons_append, List.nil_append]
      rw [show m (0 + 1 + 15) 1 = nI ((oG Ω) 0 3) from hI.1.2.2.2.2.2.2.1]
      refine AW.b rfl (fun hc => ?_) (fun hc => ?_)
      · have e8 : (oG Ω) 0 3 = 8 := (nI_eq (b := 8) (by omega) (by decide)).mp hc
        rw [cif_t e8]
        repeat refine AW.s rfl ?_
        try dsimp only [List.set_cons_zero, List.set_cons_succ, Option.toList_some, Option.toList_none, List.cons_append, List.nil_append]
        exact AW.ri rfl rfl rfl ⟨rfl, hI, KC.rf⟩
      · have e8 : ¬ (oG Ω) 0 3 = 8 := fun q => hc (by rw [q]; rfl)
        rw [cif_f e8]
        repeat refine AW.s rfl ?_
        try dsimp only [List.set_cons_zero, List.set_cons_succ, Option.toList_some, Option.toList_none, List.cons_append, List.nil_append]
        refine AW.V k_10_149 ((c_push (h := 16) hI.1.row (by rw [rowL_len]; omega))) rfl rfl rfl rfl rfl rfl (fun r1 m5 hq => ?_)
        obtain ⟨rfl, p1, p2⟩ := hq
        repeat refine AW.s rfl ?_
        try dsimp only [List.set_cons_zero, List.set_cons_succ, Option.toList_some, Option.toList_none, List.cons_append, List.nil_append]
        rw [show m5 (0 + 1 + 15) 1 = nI ((oG Ω) 0 3 + 1) by rw [p1.1, List.length_append, rowL_len]; rfl]
        refine AW.ri rfl rfl rfl ⟨rfl, hI.g hW (hI.1.row2 hW.1.2.1 p1 (fun a h1 h2 => p2 a (by omega) (by omega)) _ ?_ ?_ ?_) (fun a ha => p2 a (by omega) (by omega)), fun a ha => p2 a (by omega) (by omega)⟩
        · rw [List.length_append, rowL_len]; simp [thenS, sU]
        · intro i x hx
          rw [← rowL_then] at hx
          have hi : i < (thenS (oG Ω) r) 0 3 := by
            have := (List.getElem?_eq_some_iff.mp hx).1
            rwa [rowL_len] at this
          simp [rowL, List.getElem?_range hi] at hx
          exact hx
        · intro a k h1 h2
          unfold thenS sU
          rw [if_neg (fun q => h2.elim (fun z => z q.1) (fun z => z q.2)), if_neg (fun q => h1 q.1)]
  · rw [hB_0 q1]
    have e0 : thenF Ω a = (-2, Ω) := by unfold thenF; rw [cif_f q1]
    rw [e0]
    refine AW.b rfl (fun hc => ?_) (fun hc => ?_)
    · repeat refine AW.s rfl ?_
      try dsimp only [List.set_cons_zero, List.set_cons_succ, Option.toList_some, Option.toList_none, List.cons_append, List.nil_append]
      exact AW.ri rfl rfl rfl ⟨rfl, hI, KC.rf⟩
    · exact absurd rfl hc
def clearF (Ω : OM) : Int32 × OM := (nI ((oG Ω) 0 3), uG Ω (sU (oG Ω) 0 3 0))
theorem C_clear {l : Launch} {X : XT} {d : Nat} {m : Mem} {Ω : OM} (hW : WO Ω) (hI : InvC m Ω) : Meth l X d M_X10_clear [vR 11 0] m (fun r m' => r = some (vI (clearF Ω).1) ∧ InvC m' (clearF Ω).2 ∧ KC m m') := by
  refine E_X10_clear (ls := [vR 11 0, vU]) rfl rfl ?_
  repeat refine AW.s rfl ?_
  try dsimp only [List.set_cons_zero, List.set_cons_succ, Option.toList_some, Option.toList_none, List.cons_append, List.nil_append]
  rw [show m (0 + 1 + 15) 1 = nI ((oG Ω) 0 3) from hI.1.2.2.2.2.2.2.1]
  refine AW.ri rfl rfl rfl ⟨rfl, hI.g hW (hI.1.row2 (rw := []) hW.1.2.1 ⟨mUp_s _ _ _ _, fun k x h => by cases h⟩ (fun a h1 h2 => mUp_a (by omega)) _ ?_ ?_ ?_) (fun a ha => mUp_a (by omega)), fun a ha => mUp_a (by omega)⟩
  · simp [sU]
  · intro i x h; cases h
  · intro a k h1 h2
    unfold sU
    rw [if_neg (fun q => h2.elim (fun z => z q.1) (fun z => z q.2))]

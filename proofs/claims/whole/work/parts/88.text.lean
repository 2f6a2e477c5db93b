-- ===== what is left of a reading is an end of the tokens =====
def isE (ts r : List TK) : Prop := ∃ j, r = ts.drop j
theorem isE.rf {ts : List TK} : isE ts ts := ⟨0, rfl⟩
theorem isE.tl {ts : List TK} : isE ts ts.tail := ⟨1, by cases ts <;> rfl⟩
theorem isE.tr {a b c : List TK} (h1 : isE a b) (h2 : isE b c) : isE a c := by
  obtain ⟨i, rfl⟩ := h1
  obtain ⟨j, rfl⟩ := h2
  exact ⟨i + j, by rw [List.drop_drop]⟩
def PE_ (P : List TK → PR) : Prop := ∀ ts, isE ts (P ts).2
theorem binP_e {o : Nat} {e : FX} {q : PR} : (binP o e q).2 = q.2 := by
  obtain ⟨a, b⟩ := q
  cases a <;> rfl
theorem unP_e {o : Nat} {q : PR} : (unP o q).2 = q.2 := by
  obtain ⟨a, b⟩ := q
  cases a <;> rfl
theorem lpP_E {op : Int32 → Option Nat} {sub : List TK → PR} (hs : PE_ sub) (n : Nat) : ∀ q : PR, isE q.2 (lpP op sub n q).2 := by
  induction n with
  | zero => intro q; exact isE.rf
  | succ n ih =>
    intro q
    obtain ⟨a, r⟩ := q
    cases a with
    | none => exact isE.rf
    | some e =>
      cases ho : op (hk r) with
      | none => rw [lpP_e ho]; exact isE.rf
      | some o =>
        rw [lpP_s ho]
        refine isE.tr ?_ (ih _)
        rw [binP_e]
        exact isE.tl.tr (hs _)
theorem seqP_E {op : Int32 → Option Nat} {sub : List TK → PR} (hs : PE_ sub) : PE_ (seqP op sub) := fun ts => (hs ts).tr (lpP_E hs 160 _)
theorem one0_E : PE_ one0 := by
  intro ts
  unfold one0
  split
  · exact isE.tl
  · split
    · exact isE.tl
    · exact isE.rf
theorem cloP_E {q : PR} : isE q.2 (cloP q).2 := by
  obtain ⟨a, r⟩ := q
  cases a with
  | none => exact isE.rf
  | some e =>
    show isE r (if hk r = 41 then (some e, r.tail) else (none, r)).2
    split
    · exact isE.tl
    · exact isE.rf
theorem cmpP_E {one : List TK → PR} (h : PE_ one) : PE_ (cmpP one) := by
  intro ts
  have h1 : PE_ (sumP one) := seqP_E (seqP_E h)
  have h0 := h1 ts
  unfold cmpP
  cases hq : sumP one ts with
  | mk a r =>
  rw [hq] at h0
  cases a with
  | none => exact h0
  | some e =>
    show isE ts (if hk r = 60 then binP 5 e (sumP one r.tail) else if hk r = 61 then binP 6 e (sumP one r.tail) else (some e, r)).2
    split
    · rw [binP_e]; exact (h0.tr isE.tl).tr (h1 _)
    · split
      · rw [binP_e]; exact (h0.tr isE.tl).tr (h1 _)
      · exact h0
theorem pk_E (k : Nat) : PE_ (pk k).1 ∧ PE_ (pk k).2 := by
  induction k with
  | zero =>
    refine ⟨one0_E, fun ts => ?_⟩
    rw [pk_not]
    split
    · exact isE.rf
    · exact cmpP_E one0_E ts
  | succ k ih =>
    have h1 : PE_ (pk (k + 1)).1 := by
      intro ts
      rw [pk_one]
      show isE ts (if hk ts = 45 then unP 10 ((pk k).1 ts.tail) else if hk ts = 40 then cloP (eP (pk k).2 ts.tail) else one0 ts).2
      split
      · rw [unP_e]; exact isE.tl.tr (ih.1 _)
      · split
        · exact (isE.tl.tr (seqP_E (seqP_E ih.2) _)).tr cloP_E
        · exact one0_E ts
    refine ⟨h1, fun ts => ?_⟩
    rw [pk_not]
    split
    · show isE ts (unP 4 ((pk k).2 ts.tail)).2
      rw [unP_e]; exact isE.tl.tr (ih.2 _)
    · exact cmpP_E h1 ts
theorem prtP_E {key : Int32} : PE_ (prtP key) := by
  intro ts
  unfold prtP
  split
  · have h0 : isE ts (eP (pk 5).2 ts.tail).2 := isE.tl.tr (seqP_E (seqP_E (pk_E 5).2) _)
    cases hq : eP (pk 5).2 ts.tail with
    | mk a r =>
    rw [hq] at h0
    cases a with
    | none => exact h0
    | some e =>
      show isE ts (if hk r = 59 then (some e, r.tail) else (none, r)).2
      split
      · exact h0.tr isE.tl
      · exact h0
  · exact isE.rf
theorem rd_rest (ts : List TK) : isE ts (rdP ts).2 := by
  have e1 := prtP_E (key := 4) ts
  cases h1 : prtP 4 ts with
  | mk a1 r1 =>
    rw [h1] at e1
    cases a1 with
    | none => rw [rdP_1 h1]; exact e1
    | some a =>
      have e2 := prtP_E (key := 5) r1
      cases h2 : prtP 5 r1 with
      | mk a2 r2 =>
        rw [h2] at e2
        cases a2 with
        | none => rw [rdP_2 h1 h2]; exact e1.tr e2
        | some b =>
          have e3 := prtP_E (key := 6) r2
          cases h3 : prtP 6 r2 with
          | mk a3 r3 =>
            rw [h3] at e3
            cases a3 with
            | none => rw [rdP_3 h1 h2 h3]; exact (e1.tr e2).tr e3
            | some c =>
              rw [rdP_4 h1 h2 h3]
              split
              · exact (e1.tr e2).tr e3
              · exact (e1.tr e2).tr e3
-- ===== text =====
def txV (abc : FX × FX × FX) (p : Nat) (F : Nat → Int32) : Int32 := clI (if p = 0 then abc.1 F else if p = 1 then abc.2.1 F else abc.2.2 F)
def txR (Ω : OM) (q : Option (FX × FX × FX) × List TK) : Int32 × OM := match q with
  | (none, rs) => (-100 - nI (hpl rs), uT Ω 0 (oB Ω))
  | (some abc, _) => (nI (oQ Ω), uV (uT Ω 0 (oB Ω)) (oQ Ω + 1) (fun t p F => if t = oQ Ω then txV abc p F else oV Ω t p F))
def textF (Ω : OM) : Int32 × OM := if oQ Ω = 6 then (-4, Ω) else txR Ω (rdP (tks (oB Ω) (oN Ω) 161 0))
theorem hpl_lt {g : Nat → Int32} {s : Nat} (f : Nat) : ∀ p, p ≤ s → ∀ i, hpl ((tks g s f p).drop i) ≤ s := by
  induction f with
  | zero => intro p _ i; rw [show tks g s 0 p = [] from rfl, List.drop_nil]; exact Nat.zero_le _
  | succ f ih =>
    intro p hp i
    have hb := blF_le g (s - p) p
    have hl := tokF_le (g := g) (s := s) (p := blF g (s - p) p) (by omega)
    unfold tks
    cases i with
    | zero => show blF g (s - p) p ≤ s; omega
    | succ i =>
      rw [List.drop_succ_cons]
      split
      · exact ih _ hl.2 i
      · rw [List.drop_nil]; exact Nat.zero_le _
theorem C_text {l : Launch} {X : XT} {d : Nat} {m : Mem} {Ω : OM} (hd : 64 ≤ d) (hW : WO Ω) (hI : InvC m Ω) : Meth l X d M_X10_text [vR 11 0] m (fun r m' => r = some (vI (textF Ω).1) ∧ InvC m' (textF Ω).2 ∧ KC m m') := by
  obtain ⟨d, rfl⟩ : ∃ e, d = e + 1 := ⟨d - 1, by omega⟩
  have h6 := hW.2.2.2.1
  have hN := hW.2.2.2.2.1
  refine E_X10_text (ls := [vR 11 0, vU]) rfl rfl ?_
  repeat refine AW.s rfl ?_
  try dsimp only [List.set_cons_zero, List.set_cons_succ, Option.toList_some, Option.toList_none, List.cons_append, List.nil_append]
  rw [show m 0 4 = nI (oQ Ω) from hI.2.2.2.1]
  refine AW.b rfl (fun hc => ?_) (fun hc => ?_)
  · have e6 : oQ Ω = 6 := (nI_eq (b := 6) (by omega) (by decide)).mp hc
    have e0 : textF Ω = (-4, Ω) := by unfold textF; rw [if_pos e6]
    rw [e0]
    repeat refine AW.s rfl ?_
    try dsimp only [List.set_cons_zero, List.set_cons_succ, Option.toList_some, Option.toList_none, List.cons_append, List.nil_append]
    exact AW.ri rfl rfl rfl ⟨rfl, hI, KC.rf⟩
  · have e6 : ¬ oQ Ω = 6 := fun q => hc (by rw [q]; rfl)
    have e0 : textF Ω = txR Ω (rdP (tks (oB Ω) (oN Ω) 161 0)) := by unfold textF; rw [if_neg e6]
    repeat refine AW.s rfl ?_
    try dsimp only [List.set_cons_zero, List.set_cons_succ, Option.toList_some, Option.toList_none, List.cons_append, List.nil_append]
    rw [show m 0 4 = nI (oQ Ω) from hI.2.2.2.1]
    refine AW.c rfl (vp_in_nI (by omega) (by decide)) ?_
    try dsimp only [List.set_cons_zero, List.set_cons_succ, Option.toList_some, Option.toList_none, List.cons_append, List.nil_append]
    rw [nI_clamp (by omega), show 0 + 35 + 164 + 6 * oQ Ω = 199 + 6 * oQ Ω by omega]
    have h37 : ∀ k, k < oN Ω → m 37 k = oB Ω k := hI.2.2.2.2.2.2.1
    refine AW.V k_10_98 ((c_read (t := oQ Ω) (s := oN Ω) (by omega) (by omega) hI.2.2.2.2.2.1 hN (fun k hk => by rw [h37 k hk]; exact hW.2.2.2.2.2.1 k hk))) rfl rfl rfl rfl rfl rfl (fun r1 m1 hq => ?_)
    obtain ⟨hres, hf, h361⟩ := hq
    rw [tks_c h37 161 0 (Nat.zero_le _)] at hres
    -- what the class holds then, whatever was read
    have hI2 : ∀ mm : Mem, (∀ a, a ≠ 0 → a ≠ 36 → mm a = m1 a) → mm 36 1 = 0 → (∀ k, k ≠ 4 → mm 0 k = m1 0 k) → ∀ (n : Nat) (V : Nat → Nat → (Nat → Int32) → Int32), mm 0 4 = nI n → (∀ t, t < n → ∃ en, TOK mm (199 + 6 * t) en ∧ ∀ p, p < 3 → ∀ F, tellV mm (199 + 6 * t) en p F = V t p F) → InvC mm (uV (uT Ω 0 (oB Ω)) n V) := by
      intro mm g1 g2 g3 n V g4 g5
      have gg : ∀ a, a ≠ 0 → a ≠ 36 → a ≠ 38 → a ≠ 39 → a ≠ 40 → a ≠ 41 → (a < 199 ∨ 235 ≤ a) → mm a = m a := fun a x0 x1 x2 x3 x4 x5 x6 => by rw [g1 a x0 x1]; exact hf a x1 x2 x3 x4 x5 (by omega)
      obtain ⟨i1, i2, i3, i4, i5, i6, i7, i8⟩ := hI
      obtain ⟨w1, w2, w3, w4, -⟩ := hW
      refine ⟨i1.fr w1.2.1 (fun a x1 x2 => gg a (by omega) (by omega) (by omega) (by omega) (by omega) (by omega) (by omega)), ?_, fun k => (i3 k).fr (w2 k).1.2.1 (fun a x1 x2 => gg a (by omega) (by omega) (by omega) (by omega) (by omega) (by omega) (by omega)), g4, g5, g2, fun k hk => absurd hk (Nat.not_lt_zero k), fun i hi => ?_⟩
      · rw [g3 2 (by decide), hf 0 (by decide) (by decide) (by decide) (by decide) (by decide) (by omega)]; exact i2
      · rw [gg (235 + 2 * i) (by omega) (by omega) (by omega) (by omega) (by omega) (by omega) (by omega), gg (235 + 2 * i + 1) (by omega) (by omega) (by omega) (by omega) (by omega) (by omega) (by omega)]
        exact i8 i hi
    have old : ∀ mm : Mem, (∀ a, a ≠ 0 → a ≠ 36 → mm a = m1 a) → ∀ t, t < oQ Ω → ∃ en, TOK mm (199 + 6 * t) en ∧ ∀ p, p < 3 → ∀ F, tellV mm (199 + 6 * t) en p F = oV Ω t p F := by
      intro mm g1 t ht
      obtain ⟨en, x1, x2⟩ := hI.2.2.2.2.1 t ht
      have gg : ∀ a, 199 + 6 * t ≤ a → a ≤ 199 + 6 * t + 5 → mm a = m a := fun a y1 y2 => by rw [g1 a (by omega) (by omega)]; exact hf a (by omega) (by omega) (by omega) (by omega) (by omega) (by omega)
      have hz : ∀ p, p < 3 → ∀ F, tellV mm (199 + 6 * t) en p F = tellV m (199 + 6 * t) en p F := fun p hp F => by
        unfold tellV
        rw [tval_eq x1 hp (gg _ (by omega) (by omega)) (gg _ (by omega) (by omega)) (gg _ (by omega) (by omega)) (fun _ _ => rfl)]
      exact ⟨en, x1.fr (gg _ (by omega) (by omega)) (gg _ (by omega) (by omega)) (gg _ (by omega) (by omega)) (gg _ (by omega) (by omega)), fun p hp F => by rw [hz p hp]; exact x2 p hp F⟩
    have h04 : m1 0 4 = nI (oQ Ω) := by rw [hf 0 (by decide) (by decide) (by decide) (by decide) (by decide) (by omega)]; exact hI.2.2.2.1
    rcases hres with ⟨rs, hrs, rfl⟩ | ⟨abc, rs, hrs, rfl, hT⟩
    · rw [hrs] at e0
      have e0 : textF Ω = (-100 - nI (hpl rs), uT Ω 0 (oB Ω)) := e0
      rw [e0]
      have hpb : hpl rs < 2 ^ 31 := by
        -- the rest of a reading is a rest of the tokens
        rcases Nat.lt_or_ge (hpl rs) (2 ^ 31) with q | q
        · exact q
        · exact absurd q (by
            have := rd_rest (tks (oB Ω) (oN Ω) 161 0)
            rw [hrs] at this
            obtain ⟨j, hj⟩ := this
            have hj : rs = (tks (oB Ω) (oN Ω) 161 0).drop j := hj
            rw [hj]
            have := hpl_lt (g := oB Ω) (s := oN Ω) 161 0 (Nat.zero_le _) j
            omega)
      repeat refine AW.s rfl ?_
      try dsimp only [List.set_cons_zero, List.set_cons_succ, Option.toList_some, Option.toList_none, List.cons_append, List.nil_append]
      refine AW.b rfl (fun hc => ?_) (fun hc => ?_)
      · exact absurd hc (nI_m1 hpb)
      · repeat refine AW.s rfl ?_
        try dsimp only [List.set_cons_zero, List.set_cons_succ, Option.toList_some, Option.toList_none, List.cons_append, List.nil_append]
        refine AW.ri rfl rfl rfl ⟨rfl, ?_, fun q hq => by rw [mUp_a (by omega)]; exact hf q (by omega) (by omega) (by omega) (by omega) (by omega) (by omega)⟩
        exact hI2 _ (fun a x0 x1 => mUp_a x1) (mUp_s _ _ _ _) (fun k _ => by rw [mUp_a (by decide)]) (oQ Ω) (oV Ω) (by rw [mUp_a (by decide)]; exact h04) (old _ (fun a x0 x1 => mUp_a x1))
    · rw [hrs] at e0
      have e0 : textF Ω = (nI (oQ Ω), uV (uT Ω 0 (oB Ω)) (oQ Ω + 1) (fun t p F => if t = oQ Ω then txV abc p F else oV Ω t p F)) := e0
      rw [e0]
      repeat refine AW.s rfl ?_
      try dsimp only [List.set_cons_zero, List.set_cons_succ, Option.toList_some, Option.toList_none, List.cons_append, List.nil_append]
      refine AW.b rfl (fun hc => ?_) (fun hc => ?_)
      · repeat refine AW.s rfl ?_
        try dsimp only [List.set_cons_zero, List.set_cons_succ, Option.toList_some, Option.toList_none, List.cons_append, List.nil_append]
        rw [show mUp m1 (0 + 36) 1 0 0 4 = nI (oQ Ω) by rw [mUp_a (by decide)]; exact h04, nI_1, mUp_s, show nI (oQ Ω + 1) - 1 = nI (oQ Ω) from pk_sub (b := 1) (by omega)]
        refine AW.ri rfl rfl rfl ⟨rfl, ?_, fun q hq => by rw [mUp_a (by omega), mUp_a (by omega)]; exact hf q (by omega) (by omega) (by omega) (by omega) (by omega) (by omega)⟩
        have gm : ∀ a, a ≠ 0 → a ≠ 36 → mUp (mUp m1 (0 + 36) 1 0) 0 4 (nI (oQ Ω + 1)) a = m1 a := fun a x0 x1 => by rw [mUp_a x0, mUp_a x1]
        refine hI2 _ gm (by rw [mUp_a (by decide)]; exact mUp_s _ _ _ _) (fun k hk => by rw [mUp_n (Or.inr hk), mUp_a (by decide)]) (oQ Ω + 1) _ (mUp_s _ _ _ _) (fun t ht => ?_)
        by_cases e : t = oQ Ω
        · subst e
          obtain ⟨en, x1, x2⟩ := hT
          refine ⟨en, x1.fr (gm _ (by omega) (by omega)) (gm _ (by omega) (by omega)) (gm _ (by omega) (by omega)) (gm _ (by omega) (by omega)), fun p hp F => ?_⟩
          show _ = if oQ Ω = oQ Ω then txV abc p F else _
          rw [if_pos rfl]
          unfold tellV txV
          rw [tval_eq x1 hp (gm _ (by omega) (by omega)) (gm _ (by omega) (by omega)) (gm _ (by omega) (by omega)) (fun _ _ => rfl)]
          obtain ⟨y1, y2, y3⟩ := x2 F
          rcases (show p = 0 ∨ p = 1 ∨ p = 2 by omega) with q | q | q <;> subst q
          · rw [y1]; rfl
          · rw [y2]; rfl
          · rw [y3]; rfl
        · obtain ⟨en, x1, x2⟩ := old _ gm t (by omega)
          refine ⟨en, x1, fun p hp F => ?_⟩
          show _ = if t = oQ Ω then txV abc p F else oV Ω t p F
          rw [if_neg e]
          exact x2 p hp F
      · exact absurd rfl hc

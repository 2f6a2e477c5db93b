-- ===== tokens =====
/-- where letters from p on end, f places left -/
def wdF (g : Nat → Int32) (f p : Nat) : Nat := match f with
  | 0 => p
  | f + 1 => if g p < 97 then p else if 122 < g p then p else wdF g f (p + 1)
/-- from p to e stands the i-th word -/
def spB (g : Nat → Int32) (p e i : Nat) : Bool := decide (SLN.getD (i + 1) 0 = e - p) && (List.range (e - p)).all (fun k => decide (g (p + k) = (SBY.getD (i + 1) []).getD k 0))
theorem spB_1 {g : Nat → Int32} {p e i : Nat} : spB g p e i = true ↔ SLN.getD (i + 1) 0 = e - p ∧ ∀ k, k < e - p → g (p + k) = (SBY.getD (i + 1) []).getD k 0 := by
  unfold spB
  rw [Bool.and_eq_true, decide_eq_true_eq, List.all_eq_true]
  refine and_congr Iff.rfl ⟨fun h k hk => of_decide_eq_true (h k (List.mem_range.mpr hk)), fun h k hk => decide_eq_true (h k (List.mem_range.mp hk))⟩
/-- which word stands there: the first of f from i on; 12: none -/
def spF (g : Nat → Int32) (p e f i : Nat) : Nat := match f with
  | 0 => 12
  | f + 1 => if spB g p e i then i else spF g p e f (i + 1)
/-- kind, value -/
def tokW (i : Nat) : Int32 × Int32 := if i = 12 then (1, 0) else (if i < 6 then 3 else nI (i - 2), nI i)
/-- kind, value, end of the token at p -/
def tokF (g : Nat → Int32) (s p : Nat) : Int32 × Int32 × Nat :=
  if s ≤ p then (0, 0, s) else if 97 ≤ g p ∧ g p ≤ 122 then ((tokW (spF g p (wdF g (s - p) p) 12 0)).1, (tokW (spF g p (wdF g (s - p) p) 12 0)).2, wdF g (s - p) p)
  else if 48 ≤ g p ∧ g p ≤ 57 then (if 4 < (nbF g (s - p) p 0).1 - p then 1 else 2, (nbF g (s - p) p 0).2, (nbF g (s - p) p 0).1)
  else (if sgnB (g p).toNatClampNeg then g p else 1, 0, p + 1)
abbrev TK : Type := Int32 × Int32 × Nat
/-- the tokens from p on -/
def tks (g : Nat → Int32) (s f p : Nat) : List TK := match f with
  | 0 => []
  | f + 1 => ((tokF g s (blF g (s - p) p)).1, (tokF g s (blF g (s - p) p)).2.1, blF g (s - p) p) :: (if 1 < (tokF g s (blF g (s - p) p)).1 then tks g s f (tokF g s (blF g (s - p) p)).2.2 else [])
theorem c_isSpelled {l : Launch} {X : XT} {d : Nat} {p e i : Nat} {m : Mem} (hd : 4 ≤ d) (hi : i < 12) (hpe : p ≤ e) (he : e ≤ 160) : Meth l X d M_X8_isSpelled [vR 9 36, vR 50 (i + 1), vI (nI p), vI (nI e)] m (fun r m' => r = some (vI (if spB (m 37) p e i then 1 else 0)) ∧ m' = m) := by
  obtain ⟨d, rfl⟩ : ∃ e, d = e + 1 := ⟨d - 1, by omega⟩
  obtain ⟨h1, h2, h3⟩ := sln_lt (i + 1) (by omega)
  refine E_X8_isSpelled (ls := [vR 9 36, vR 50 (i + 1), vI (nI p), vI (nI e), vU]) rfl rfl ?_
  repeat refine AW.s rfl ?_
  try dsimp only [List.set_cons_zero, List.set_cons_succ, Option.toList_some, Option.toList_none, List.cons_append, List.nil_append]
  refine AW.T k_8_63 (c_slength (by omega) (by omega)) rfl rfl rfl (by omega) rfl rfl (fun r1 m1 hq => ?_)
  obtain ⟨rfl, hm1⟩ := hq
  rw [hm1]
  repeat refine AW.s rfl ?_
  try dsimp only [List.set_cons_zero, List.set_cons_succ, Option.toList_some, Option.toList_none, List.cons_append, List.nil_append]
  rw [show nI e - nI p = nI (e - p) from pk_sub hpe]
  refine AW.b rfl (fun hc => ?_) (fun hc => ?_)
  · have hlen : SLN.getD (i + 1) 0 = e - p := (nI_eq (by omega) (by omega)).mp hc
    repeat refine AW.u 15 rfl rfl ?_
    try dsimp only [List.set_cons_zero, List.set_cons_succ, Option.toList_some, Option.toList_none, List.cons_append, List.nil_append]
    refine AW.loop (pc := 15) (σ := Unit) (e - p) (fun j _ => [vR 9 36, vR 50 (i + 1), vI (nI p), vI (nI e), vI (nI j)]) (fun j _ mm => mm = m ∧ ∀ k, k < j → m 37 (p + k) = (SBY.getD (i + 1) []).getD k 0) (fun j _ mm hj hmm ih => ?_) 0 () m (Nat.zero_le _) ⟨rfl, fun k hk => absurd hk (by omega)⟩
    obtain ⟨rfl, hall⟩ := hmm
    repeat refine AW.s rfl ?_
    try dsimp only [List.set_cons_zero, List.set_cons_succ, Option.toList_some, Option.toList_none, List.cons_append, List.nil_append]
    refine AW.T k_8_63 (c_slength (by omega) (by omega)) rfl rfl rfl (by omega) rfl rfl (fun r1 m1 hq => ?_)
    obtain ⟨rfl, hm1⟩ := hq
    rw [hm1, hlen]
    try dsimp only [List.set_cons_zero, List.set_cons_succ, Option.toList_some, Option.toList_none, List.cons_append, List.nil_append]
    refine AW.b rfl (fun hc => ?_) (fun hc => ?_)
    · have hlt : j < e - p := (nI_ltI (by omega) (by omega)).mp hc
      repeat refine AW.s rfl ?_
      try dsimp only [List.set_cons_zero, List.set_cons_succ, Option.toList_some, Option.toList_none, List.cons_append, List.nil_append]
      rw [nI_add]
      refine AW.c rfl (vp_in_nI (by omega) (by decide)) ?_
      try dsimp only [List.set_cons_zero, List.set_cons_succ, Option.toList_some, Option.toList_none, List.cons_append, List.nil_append]
      rw [nI_clamp (by omega)]
      repeat refine AW.s rfl ?_
      try dsimp only [List.set_cons_zero, List.set_cons_succ, Option.toList_some, Option.toList_none, List.cons_append, List.nil_append]
      refine AW.T k_8_67 (c_charAt (j := j) (by omega) (by omega) (by omega)) rfl rfl rfl (by omega) rfl rfl (fun r1 m1 hq => ?_)
      obtain ⟨rfl, hm1⟩ := hq
      rw [hm1]
      try dsimp only [List.set_cons_zero, List.set_cons_succ, Option.toList_some, Option.toList_none, List.cons_append, List.nil_append]
      refine AW.b rfl (fun hc => ?_) (fun hc => ?_)
      · have e1 := hc
        repeat refine AW.u 15 rfl rfl ?_
        try dsimp only [List.set_cons_zero, List.set_cons_succ, Option.toList_some, Option.toList_none, List.cons_append, List.nil_append]
        rw [nI_1]
        refine ih () _ hlt ⟨rfl, fun k hk => ?_⟩
        by_cases e2 : k = j
        · subst e2; exact e1
        · exact hall k (by omega)
      · have e1 := hc
        repeat refine AW.s rfl ?_
        try dsimp only [List.set_cons_zero, List.set_cons_succ, Option.toList_some, Option.toList_none, List.cons_append, List.nil_append]
        refine AW.ri rfl rfl rfl ⟨?_, rfl⟩
        rw [if_neg (fun q => e1 ((spB_1.mp q).2 j hlt))]
    · have : j = e - p := by
        have : ¬ j < e - p := fun q => hc ((nI_ltI (by omega) (by omega)).mpr q)
        omega
      subst this
      repeat refine AW.s rfl ?_
      try dsimp only [List.set_cons_zero, List.set_cons_succ, Option.toList_some, Option.toList_none, List.cons_append, List.nil_append]
      refine AW.ri rfl rfl rfl ⟨?_, rfl⟩
      rw [if_pos (spB_1.mpr ⟨hlen, hall⟩)]
  · have hlen : ¬ SLN.getD (i + 1) 0 = e - p := fun q => hc (by rw [q])
    repeat refine AW.s rfl ?_
    try dsimp only [List.set_cons_zero, List.set_cons_succ, Option.toList_some, Option.toList_none, List.cons_append, List.nil_append]
    refine AW.ri rfl rfl rfl ⟨?_, rfl⟩
    rw [if_neg (fun q => hlen (spB_1.mp q).1)]
theorem c_spelling {l : Launch} {X : XT} {d : Nat} {i : Nat} {m : Mem} (hi : i < 12) : Meth l X d M_X8_spelling [vI (nI i)] m (fun r m' => r = some (vR 50 (i + 1)) ∧ m' = m) := by
  refine E_X8_spelling (ls := [vI (nI i)]) rfl rfl ?_
  repeat refine AW.s rfl ?_
  try dsimp only [List.set_cons_zero, List.set_cons_succ, Option.toList_some, Option.toList_none, List.cons_append, List.nil_append]
  rcases (show i = 0 ∨ i = 1 ∨ i = 2 ∨ i = 3 ∨ i = 4 ∨ i = 5 ∨ i = 6 ∨ i = 7 ∨ i = 8 ∨ i = 9 ∨ i = 10 ∨ i = 11 by omega) with e | e | e | e | e | e | e | e | e | e | e | e <;> subst e
  · refine AW.tin (tgt := 60) rfl (by decide) (by decide) rfl (by decide) ?_
    refine AW.ldS (8, 71, "long", 1) rfl (by decide +kernel) rfl rfl rfl ?_
    exact AW.ra rfl rfl (Or.inl ⟨_, rfl⟩) ⟨rfl, rfl⟩
  · refine AW.tin (tgt := 63) rfl (by decide) (by decide) rfl (by decide) ?_
    refine AW.ldS (8, 73, "vowels", 2) rfl (by decide +kernel) rfl rfl rfl ?_
    exact AW.ra rfl rfl (Or.inl ⟨_, rfl⟩) ⟨rfl, rfl⟩
  · refine AW.tin (tgt := 66) rfl (by decide) (by decide) rfl (by decide) ?_
    refine AW.ldS (8, 75, "rules", 3) rfl (by decide +kernel) rfl rfl rfl ?_
    exact AW.ra rfl rfl (Or.inl ⟨_, rfl⟩) ⟨rfl, rfl⟩
  · refine AW.tin (tgt := 69) rfl (by decide) (by decide) rfl (by decide) ?_
    refine AW.ldS (8, 77, "number", 4) rfl (by decide +kernel) rfl rfl rfl ?_
    exact AW.ra rfl rfl (Or.inl ⟨_, rfl⟩) ⟨rfl, rfl⟩
  · refine AW.tin (tgt := 72) rfl (by decide) (by decide) rfl (by decide) ?_
    refine AW.ldS (8, 79, "word", 5) rfl (by decide +kernel) rfl rfl rfl ?_
    exact AW.ra rfl rfl (Or.inl ⟨_, rfl⟩) ⟨rfl, rfl⟩
  · refine AW.tin (tgt := 75) rfl (by decide) (by decide) rfl (by decide) ?_
    refine AW.ldS (8, 81, "weight", 6) rfl (by decide +kernel) rfl rfl rfl ?_
    exact AW.ra rfl rfl (Or.inl ⟨_, rfl⟩) ⟨rfl, rfl⟩
  · refine AW.tin (tgt := 78) rfl (by decide) (by decide) rfl (by decide) ?_
    refine AW.ldS (8, 83, "hard", 7) rfl (by decide +kernel) rfl rfl rfl ?_
    exact AW.ra rfl rfl (Or.inl ⟨_, rfl⟩) ⟨rfl, rfl⟩
  · refine AW.tin (tgt := 81) rfl (by decide) (by decide) rfl (by decide) ?_
    refine AW.ldS (8, 85, "hides", 8) rfl (by decide +kernel) rfl rfl rfl ?_
    exact AW.ra rfl rfl (Or.inl ⟨_, rfl⟩) ⟨rfl, rfl⟩
  · refine AW.tin (tgt := 84) rfl (by decide) (by decide) rfl (by decide) ?_
    refine AW.ldS (8, 87, "minds", 9) rfl (by decide +kernel) rfl rfl rfl ?_
    exact AW.ra rfl rfl (Or.inl ⟨_, rfl⟩) ⟨rfl, rfl⟩
  · refine AW.tin (tgt := 87) rfl (by decide) (by decide) rfl (by decide) ?_
    refine AW.ldS (8, 89, "or", 10) rfl (by decide +kernel) rfl rfl rfl ?_
    exact AW.ra rfl rfl (Or.inl ⟨_, rfl⟩) ⟨rfl, rfl⟩
  · refine AW.tin (tgt := 90) rfl (by decide) (by decide) rfl (by decide) ?_
    refine AW.ldS (8, 91, "and", 11) rfl (by decide +kernel) rfl rfl rfl ?_
    exact AW.ra rfl rfl (Or.inl ⟨_, rfl⟩) ⟨rfl, rfl⟩
  · refine AW.tout (tgt := 93) rfl (by decide) (by decide) ?_
    refine AW.ldS (8, 93, "not", 12) rfl (by decide +kernel) rfl rfl rfl ?_
    exact AW.ra rfl rfl (Or.inl ⟨_, rfl⟩) ⟨rfl, rfl⟩
theorem wdF_le (g : Nat → Int32) (f : Nat) : ∀ p, p ≤ wdF g f p ∧ wdF g f p ≤ p + f := by
  induction f with
  | zero => intro p; exact ⟨Nat.le_refl _, Nat.le_refl _⟩
  | succ f ih =>
    intro p
    have h := ih (p + 1)
    unfold wdF
    split
    · omega
    · split
      · omega
      · omega
theorem nbF_le (g : Nat → Int32) (f : Nat) : ∀ p v, p ≤ (nbF g f p v).1 ∧ (nbF g f p v).1 ≤ p + f := by
  induction f with
  | zero => intro p v; exact ⟨Nat.le_refl _, Nat.le_refl _⟩
  | succ f ih =>
    intro p v
    have h := ih (p + 1) (v * 10 + g p - 48)
    unfold nbF
    split
    · show p ≤ p ∧ p ≤ p + (f + 1); omega
    · split
      · show p ≤ p ∧ p ≤ p + (f + 1); omega
      · omega
theorem blF_le (g : Nat → Int32) (f : Nat) : ∀ p, p ≤ blF g f p ∧ blF g f p ≤ p + f := by
  induction f with
  | zero => intro p; exact ⟨Nat.le_refl _, Nat.le_refl _⟩
  | succ f ih =>
    intro p
    have h := ih (p + 1)
    unfold blF
    split
    · omega
    · omega
/-- a token is added -/
def adT (m : Mem) (t : Nat) (a b : Int32) (p : Nat) : Mem := mUp (mUp (mUp (mUp m 38 t a) 39 t b) 40 t (nI p)) 36 5 (nI (t + 1))
theorem c_scanWord {l : Launch} {X : XT} {d : Nat} {s t p : Nat} {m : Mem} (hd : 5 ≤ d) (hs : m 36 1 = nI s) (hs1 : s ≤ 160) (hp : p ≤ s) (ht : m 36 5 = nI t) (ht1 : t ≤ 160) : Meth l X d M_X8_scanWord [vR 9 36, vI (nI p)] m (fun r m' => r = some (vI (nI (wdF (m 37) (s - p) p))) ∧ m' = adT m t (tokW (spF (m 37) p (wdF (m 37) (s - p) p) 12 0)).1 (tokW (spF (m 37) p (wdF (m 37) (s - p) p) 12 0)).2 p) := by
  obtain ⟨d, rfl⟩ : ∃ e, d = e + 1 := ⟨d - 1, by omega⟩
  have hle := wdF_le (m 37) (s - p) p
  have hend : ∀ e, wdF (m 37) (s - p) p = e → AW (GM l X (d + 1) M_X8_scanWord (fun r m' => r = some (vI (nI (wdF (m 37) (s - p) p))) ∧ m' = adT m t (tokW (spF (m 37) p (wdF (m 37) (s - p) p) 12 0)).1 (tokW (spF (m 37) p (wdF (m 37) (s - p) p) 12 0)).2 p)) 38 [vR 9 36, vI (nI p), vI (nI e), vU] [] m := by
    intro e he
    rw [he] at hle ⊢
    repeat refine AW.u 40 rfl rfl ?_
    try dsimp only [List.set_cons_zero, List.set_cons_succ, Option.toList_some, Option.toList_none, List.cons_append, List.nil_append]
    refine AW.loop (pc := 40) (σ := Unit) 12 (fun i _ => [vR 9 36, vI (nI p), vI (nI e), vI (nI i)]) (fun i _ mm => mm = m ∧ spF (m 37) p e 12 0 = spF (m 37) p e (12 - i) i) (fun i _ mm hi hmm ih => ?_) 0 () m (Nat.zero_le _) ⟨rfl, rfl⟩
    obtain ⟨rfl, hsp⟩ := hmm
    repeat refine AW.s rfl ?_
    try dsimp only [List.set_cons_zero, List.set_cons_succ, Option.toList_some, Option.toList_none, List.cons_append, List.nil_append]
    refine AW.b rfl (fun hc => ?_) (fun hc => ?_)
    · have hlt : i < 12 := (nI_ltI (b := 12) (by omega) (by decide)).mp hc
      obtain ⟨f, hff⟩ : ∃ f, 12 - i = f + 1 := ⟨12 - i - 1, by omega⟩
      rw [hff] at hsp
      have hsp : spF (mm 37) p e 12 0 = if spB (mm 37) p e i then i else spF (mm 37) p e f (i + 1) := hsp
      repeat refine AW.s rfl ?_
      try dsimp only [List.set_cons_zero, List.set_cons_succ, Option.toList_some, Option.toList_none, List.cons_append, List.nil_append]
      refine AW.S k_8_55 ((c_spelling hlt)) rfl rfl rfl rfl (fun r1 m1 hq => ?_)
      obtain ⟨rfl, hm1⟩ := hq
      rw [hm1]
      repeat refine AW.s rfl ?_
      try dsimp only [List.set_cons_zero, List.set_cons_succ, Option.toList_some, Option.toList_none, List.cons_append, List.nil_append]
      refine AW.V k_8_59 ((c_isSpelled (by omega) hlt (by omega) (by omega))) rfl rfl rfl rfl rfl rfl (fun r1 m2 hq => ?_)
      obtain ⟨rfl, hm2⟩ := hq
      rw [hm2]
      try dsimp only [List.set_cons_zero, List.set_cons_succ, Option.toList_some, Option.toList_none, List.cons_append, List.nil_append]
      by_cases q : spB (mm 37) p e i = true
      · rw [if_pos q]
        rw [if_pos q] at hsp
        rw [hsp]
        refine AW.b rfl (fun hc => ?_) (fun hc => ?_)
        · exact absurd hc (by decide)
        · repeat refine AW.s rfl ?_
          try dsimp only [List.set_cons_zero, List.set_cons_succ, Option.toList_some, Option.toList_none, List.cons_append, List.nil_append]
          refine AW.b rfl (fun hc => ?_) (fun hc => ?_)
          · have q6 : i < 6 := (nI_ltI (b := 6) (by omega) (by decide)).mp hc
            repeat refine AW.s rfl ?_
            try dsimp only [List.set_cons_zero, List.set_cons_succ, Option.toList_some, Option.toList_none, List.cons_append, List.nil_append]
            refine AW.V k_8_38 ((c_addToken ht ht1)) rfl rfl rfl rfl rfl rfl (fun r1 m3 hq => ?_)
            obtain ⟨rfl, hm3⟩ := hq
            rw [hm3]
            repeat refine AW.s rfl ?_
            try dsimp only [List.set_cons_zero, List.set_cons_succ, Option.toList_some, Option.toList_none, List.cons_append, List.nil_append]
            refine AW.ri rfl rfl rfl ⟨rfl, ?_⟩
            unfold tokW adT
            rw [if_neg (by omega), if_pos q6]
          · have q6 : ¬ i < 6 := fun z => hc (nI_lt (b := 6) z (by decide))
            repeat refine AW.s rfl ?_
            try dsimp only [List.set_cons_zero, List.set_cons_succ, Option.toList_some, Option.toList_none, List.cons_append, List.nil_append]
            rw [show (4 : Int32) + nI i = nI (4 + i) from nI_add 4 i, show nI (4 + i) - 6 = nI (4 + i - 6) from pk_sub (b := 6) (by omega), show 4 + i - 6 = i - 2 by omega]
            refine AW.V k_8_38 ((c_addToken ht ht1)) rfl rfl rfl rfl rfl rfl (fun r1 m3 hq => ?_)
            obtain ⟨rfl, hm3⟩ := hq
            rw [hm3]
            repeat refine AW.s rfl ?_
            try dsimp only [List.set_cons_zero, List.set_cons_succ, Option.toList_some, Option.toList_none, List.cons_append, List.nil_append]
            refine AW.ri rfl rfl rfl ⟨rfl, ?_⟩
            unfold tokW adT
            rw [if_neg (by omega), if_neg q6]
      · rw [if_neg q]
        rw [if_neg q] at hsp
        refine AW.b rfl (fun hc => ?_) (fun hc => ?_)
        · repeat refine AW.u 40 rfl rfl ?_
          try dsimp only [List.set_cons_zero, List.set_cons_succ, Option.toList_some, Option.toList_none, List.cons_append, List.nil_append]
          rw [nI_1]
          exact ih () _ hlt ⟨rfl, by rw [hsp, show 12 - (i + 1) = f by omega]⟩
        · exact absurd rfl hc
    · have : i = 12 := by
        have : ¬ i < 12 := fun q => hc (nI_lt (b := 12) q (by decide))
        omega
      subst this
      have hsp : spF (mm 37) p e 12 0 = 12 := hsp
      rw [hsp]
      repeat refine AW.s rfl ?_
      try dsimp only [List.set_cons_zero, List.set_cons_succ, Option.toList_some, Option.toList_none, List.cons_append, List.nil_append]
      refine AW.V k_8_38 ((c_addToken ht ht1)) rfl rfl rfl rfl rfl rfl (fun r1 m3 hq => ?_)
      obtain ⟨rfl, hm3⟩ := hq
      rw [hm3]
      repeat refine AW.s rfl ?_
      try dsimp only [List.set_cons_zero, List.set_cons_succ, Option.toList_some, Option.toList_none, List.cons_append, List.nil_append]
      exact AW.ri rfl rfl rfl ⟨rfl, rfl⟩
  refine E_X8_scanWord (ls := [vR 9 36, vI (nI p), vU, vU]) rfl rfl ?_
  repeat refine AW.u 2 rfl rfl ?_
  try dsimp only [List.set_cons_zero, List.set_cons_succ, Option.toList_some, Option.toList_none, List.cons_append, List.nil_append]
  refine AW.loop (pc := 2) (σ := Unit) (s - p) (fun i _ => [vR 9 36, vI (nI p), vI (nI (p + i)), vU]) (fun i _ m1 => m1 = m ∧ wdF (m 37) (s - p) p = wdF (m 37) (s - p - i) (p + i)) (fun i _ m1 hi hm1 ih => ?_) 0 () m (Nat.zero_le _) ⟨rfl, rfl⟩
  obtain ⟨rfl, hb⟩ := hm1
  repeat refine AW.s rfl ?_
  try dsimp only [List.set_cons_zero, List.set_cons_succ, Option.toList_some, Option.toList_none, List.cons_append, List.nil_append]
  rw [hs]
  refine AW.b rfl (fun hc => ?_) (fun hc => ?_)
  · have hlt : p + i < s := (nI_ltI (by omega) (by omega)).mp hc
    obtain ⟨f, hff⟩ : ∃ f, s - p - i = f + 1 := ⟨s - p - i - 1, by omega⟩
    rw [hff] at hb
    have hb : wdF (m1 37) (s - p) p = if m1 37 (p + i) < 97 then p + i else if 122 < m1 37 (p + i) then p + i else wdF (m1 37) f (p + i + 1) := hb
    repeat refine AW.s rfl ?_
    try dsimp only [List.set_cons_zero, List.set_cons_succ, Option.toList_some, Option.toList_none, List.cons_append, List.nil_append]
    refine AW.c rfl (vp_in_nI (by omega) (by decide)) ?_
    try dsimp only [List.set_cons_zero, List.set_cons_succ, Option.toList_some, Option.toList_none, List.cons_append, List.nil_append]
    rw [nI_clamp (by omega)]
    repeat refine AW.s rfl ?_
    try dsimp only [List.set_cons_zero, List.set_cons_succ, Option.toList_some, Option.toList_none, List.cons_append, List.nil_append]
    refine AW.b rfl (fun hc => ?_) (fun hc => ?_)
    · rw [if_pos hc] at hb
      exact hend _ hb
    · rw [if_neg hc] at hb
      repeat refine AW.s rfl ?_
      try dsimp only [List.set_cons_zero, List.set_cons_succ, Option.toList_some, Option.toList_none, List.cons_append, List.nil_append]
      refine AW.c rfl (vp_in_nI (by omega) (by decide)) ?_
      try dsimp only [List.set_cons_zero, List.set_cons_succ, Option.toList_some, Option.toList_none, List.cons_append, List.nil_append]
      rw [nI_clamp (by omega)]
      repeat refine AW.s rfl ?_
      try dsimp only [List.set_cons_zero, List.set_cons_succ, Option.toList_some, Option.toList_none, List.cons_append, List.nil_append]
      refine AW.b rfl (fun hc => ?_) (fun hc => ?_)
      · rw [if_pos hc] at hb
        exact hend _ hb
      · rw [if_neg hc] at hb
        repeat refine AW.u 2 rfl rfl ?_
        try dsimp only [List.set_cons_zero, List.set_cons_succ, Option.toList_some, Option.toList_none, List.cons_append, List.nil_append]
        rw [nI_1]
        exact ih () _ (by omega) ⟨rfl, by rw [hb, show s - p - (i + 1) = f by omega]; rfl⟩
  · have hge : s = p + i := by
      have : ¬ p + i < s := fun q => hc (nI_lt q (by omega))
      omega
    rw [show s - p - i = 0 by omega] at hb
    exact hend _ hb
theorem i2c_b : ∀ b, b < 256 → ((nI b).toUInt32 % 65536).toInt32 = nI b := by decide +kernel
theorem c_scanToken {l : Launch} {X : XT} {d : Nat} {s t p : Nat} {m : Mem} (hd : 6 ≤ d) (hs : m 36 1 = nI s) (hs1 : s ≤ 160) (hp : p ≤ s) (ht : m 36 5 = nI t) (ht1 : t ≤ 160) (hby : ∀ k, k < s → ∃ b, b < 256 ∧ m 37 k = nI b) : Meth l X d M_X8_scanToken [vR 9 36, vI (nI p)] m (fun r m' => r = some (vI (nI (tokF (m 37) s p).2.2)) ∧ m' = adT m t (tokF (m 37) s p).1 (tokF (m 37) s p).2.1 p) := by
  obtain ⟨d, rfl⟩ : ∃ e, d = e + 1 := ⟨d - 1, by omega⟩
  refine E_X8_scanToken (ls := [vR 9 36, vI (nI p), vU]) rfl rfl ?_
  repeat refine AW.s rfl ?_
  try dsimp only [List.set_cons_zero, List.set_cons_succ, Option.toList_some, Option.toList_none, List.cons_append, List.nil_append]
  rw [hs]
  refine AW.b rfl (fun hc => ?_) (fun hc => ?_)
  · have hlt : p < s := (nI_ltI (by omega) (by omega)).mp hc
    obtain ⟨b, hb, eb⟩ := hby p hlt
    have e1 : tokF (m 37) s p = if 97 ≤ m 37 p ∧ m 37 p ≤ 122 then ((tokW (spF (m 37) p (wdF (m 37) (s - p) p) 12 0)).1, (tokW (spF (m 37) p (wdF (m 37) (s - p) p) 12 0)).2, wdF (m 37) (s - p) p)
        else if 48 ≤ m 37 p ∧ m 37 p ≤ 57 then (if 4 < (nbF (m 37) (s - p) p 0).1 - p then 1 else 2, (nbF (m 37) (s - p) p 0).2, (nbF (m 37) (s - p) p 0).1)
        else (if sgnB (m 37 p).toNatClampNeg then m 37 p else 1, 0, p + 1) := by unfold tokF; rw [if_neg (by omega)]
    repeat refine AW.s rfl ?_
    try dsimp only [List.set_cons_zero, List.set_cons_succ, Option.toList_some, Option.toList_none, List.cons_append, List.nil_append]
    refine AW.c rfl (vp_in_nI (by omega) (by decide)) ?_
    try dsimp only [List.set_cons_zero, List.set_cons_succ, Option.toList_some, Option.toList_none, List.cons_append, List.nil_append]
    rw [nI_clamp (by omega)]
    have rest : ¬ (97 ≤ m 37 p ∧ m 37 p ≤ 122) → AW (GM l X (d + 1) M_X8_scanToken (fun r m' => r = some (vI (nI (tokF (m 37) s p).2.2)) ∧ m' = adT m t (tokF (m 37) s p).1 (tokF (m 37) s p).2.1 p)) 48 [vR 9 36, vI (nI p), vI (m 37 p)] [] m := by
      intro hn
      rw [if_neg hn] at e1
      have rest2 : ¬ (48 ≤ m 37 p ∧ m 37 p ≤ 57) → AW (GM l X (d + 1) M_X8_scanToken (fun r m' => r = some (vI (nI (tokF (m 37) s p).2.2)) ∧ m' = adT m t (tokF (m 37) s p).1 (tokF (m 37) s p).2.1 p)) 66 [vR 9 36, vI (nI p), vI (m 37 p)] [] m := by
        intro hn2
        rw [if_neg hn2] at e1
        rw [e1, eb, nI_clamp (by omega)]
        repeat refine AW.s rfl ?_
        try dsimp only [List.set_cons_zero, List.set_cons_succ, Option.toList_some, Option.toList_none, List.cons_append, List.nil_append]
        refine AW.ldS (8, 48, "();+-*<=", 13) rfl (by decide +kernel) rfl rfl rfl ?_
        repeat refine AW.s rfl ?_
        try dsimp only [List.set_cons_zero, List.set_cons_succ, Option.toList_some, Option.toList_none, List.cons_append, List.nil_append]
        rw [i2c_b b hb]
        refine AW.T k_8_50 (c_indexOf (by omega) hb) rfl rfl rfl (by decide) rfl rfl (fun r1 m1 hq => ?_)
        obtain ⟨x, rfl, hx, hm1⟩ := hq
        rw [hm1]
        try dsimp only [List.set_cons_zero, List.set_cons_succ, Option.toList_some, Option.toList_none, List.cons_append, List.nil_append]
        unfold ixP at hx
        by_cases q : sgnB b = true
        · rw [if_pos q] at hx ⊢
          refine AW.b rfl (fun hc => ?_) (fun hc => ?_)
          · exact absurd hc hx
          · repeat refine AW.s rfl ?_
            try dsimp only [List.set_cons_zero, List.set_cons_succ, Option.toList_some, Option.toList_none, List.cons_append, List.nil_append]
            rw [nI_1]
            refine AW.V k_8_38 ((c_addToken ht ht1)) rfl rfl rfl rfl rfl rfl (fun r1 m3 hq => ?_)
            obtain ⟨rfl, hm3⟩ := hq
            rw [hm3]
            repeat refine AW.s rfl ?_
            try dsimp only [List.set_cons_zero, List.set_cons_succ, Option.toList_some, Option.toList_none, List.cons_append, List.nil_append]
            exact AW.ri rfl rfl rfl ⟨rfl, rfl⟩
        · rw [if_neg q] at hx ⊢
          subst hx
          refine AW.b rfl (fun hc => ?_) (fun hc => ?_)
          · repeat refine AW.s rfl ?_
            try dsimp only [List.set_cons_zero, List.set_cons_succ, Option.toList_some, Option.toList_none, List.cons_append, List.nil_append]
            rw [nI_1]
            refine AW.V k_8_38 ((c_addToken ht ht1)) rfl rfl rfl rfl rfl rfl (fun r1 m3 hq => ?_)
            obtain ⟨rfl, hm3⟩ := hq
            rw [hm3]
            repeat refine AW.s rfl ?_
            try dsimp only [List.set_cons_zero, List.set_cons_succ, Option.toList_some, Option.toList_none, List.cons_append, List.nil_append]
            exact AW.ri rfl rfl rfl ⟨rfl, rfl⟩
          · exact absurd (by decide) hc
      repeat refine AW.s rfl ?_
      try dsimp only [List.set_cons_zero, List.set_cons_succ, Option.toList_some, Option.toList_none, List.cons_append, List.nil_append]
      refine AW.b rfl (fun hc => ?_) (fun hc => ?_)
      · have z := hc
        exact rest2 (fun q => absurd z (Int32.not_lt.mpr q.1))
      · have z1 := hc
        repeat refine AW.s rfl ?_
        try dsimp only [List.set_cons_zero, List.set_cons_succ, Option.toList_some, Option.toList_none, List.cons_append, List.nil_append]
        refine AW.b rfl (fun hc => ?_) (fun hc => ?_)
        · have z := hc
          exact rest2 (fun q => absurd z (Int32.not_lt.mpr q.2))
        · have z2 := hc
          rw [if_pos ⟨Int32.not_lt.mp z1, Int32.not_lt.mp z2⟩] at e1
          rw [e1]
          repeat refine AW.s rfl ?_
          try dsimp only [List.set_cons_zero, List.set_cons_succ, Option.toList_some, Option.toList_none, List.cons_append, List.nil_append]
          refine AW.V k_8_45 ((c_scanNumber (by omega) hs hs1 hp ht ht1)) rfl rfl rfl rfl rfl rfl (fun r1 m3 hq => ?_)
          obtain ⟨rfl, hm3⟩ := hq
          rw [hm3]
          repeat refine AW.s rfl ?_
          try dsimp only [List.set_cons_zero, List.set_cons_succ, Option.toList_some, Option.toList_none, List.cons_append, List.nil_append]
          exact AW.ri rfl rfl rfl ⟨rfl, rfl⟩
    repeat refine AW.s rfl ?_
    try dsimp only [List.set_cons_zero, List.set_cons_succ, Option.toList_some, Option.toList_none, List.cons_append, List.nil_append]
    refine AW.b rfl (fun hc => ?_) (fun hc => ?_)
    · have z := hc
      exact rest (fun q => absurd z (Int32.not_lt.mpr q.1))
    · have z1 := hc
      repeat refine AW.s rfl ?_
      try dsimp only [List.set_cons_zero, List.set_cons_succ, Option.toList_some, Option.toList_none, List.cons_append, List.nil_append]
      refine AW.b rfl (fun hc => ?_) (fun hc => ?_)
      · have z := hc
        exact rest (fun q => absurd z (Int32.not_lt.mpr q.2))
      · have z2 := hc
        rw [if_pos ⟨Int32.not_lt.mp z1, Int32.not_lt.mp z2⟩] at e1
        rw [e1]
        repeat refine AW.s rfl ?_
        try dsimp only [List.set_cons_zero, List.set_cons_succ, Option.toList_some, Option.toList_none, List.cons_append, List.nil_append]
        refine AW.V k_8_42 ((c_scanWord (by omega) hs hs1 hp ht ht1)) rfl rfl rfl rfl rfl rfl (fun r1 m3 hq => ?_)
        obtain ⟨rfl, hm3⟩ := hq
        rw [hm3]
        repeat refine AW.s rfl ?_
        try dsimp only [List.set_cons_zero, List.set_cons_succ, Option.toList_some, Option.toList_none, List.cons_append, List.nil_append]
        exact AW.ri rfl rfl rfl ⟨rfl, rfl⟩
  · have hge : p = s := by
      have : ¬ p < s := fun q => hc (nI_lt q (by omega))
      omega
    subst hge
    have e1 : tokF (m 37) p p = (0, 0, p) := by unfold tokF; rw [if_pos (Nat.le_refl _)]
    rw [e1]
    repeat refine AW.s rfl ?_
    try dsimp only [List.set_cons_zero, List.set_cons_succ, Option.toList_some, Option.toList_none, List.cons_append, List.nil_append]
    rw [hs]
    refine AW.V k_8_38 ((c_addToken ht ht1)) rfl rfl rfl rfl rfl rfl (fun r1 m3 hq => ?_)
    obtain ⟨rfl, hm3⟩ := hq
    rw [hm3]
    repeat refine AW.s rfl ?_
    try dsimp only [List.set_cons_zero, List.set_cons_succ, Option.toList_some, Option.toList_none, List.cons_append, List.nil_append]
    exact AW.ri rfl rfl rfl ⟨rfl, rfl⟩
theorem tokF_le {g : Nat → Int32} {s p : Nat} (hp : p ≤ s) : p ≤ (tokF g s p).2.2 ∧ (tokF g s p).2.2 ≤ s := by
  unfold tokF
  have h1 := wdF_le g (s - p) p
  have h2 := nbF_le g (s - p) p 0
  split
  · show p ≤ s ∧ s ≤ s; omega
  · split
    · show p ≤ wdF g (s - p) p ∧ wdF g (s - p) p ≤ s; omega
    · split
      · show p ≤ (nbF g (s - p) p 0).1 ∧ (nbF g (s - p) p 0).1 ≤ s; omega
      · show p ≤ p + 1 ∧ p + 1 ≤ s; omega
/-- the tape's rows hold these tokens -/
def RTk (m : Mem) (ts : List TK) : Prop := m 36 5 = nI ts.length ∧ ∀ j t, ts[j]? = some t → m 38 j = t.1 ∧ m 39 j = t.2.1 ∧ m 40 j = nI t.2.2
theorem c_scan {l : Launch} {X : XT} {d : Nat} {s : Nat} {m : Mem} (hd : 7 ≤ d) (hs : m 36 1 = nI s) (hs1 : s ≤ 160) (hby : ∀ k, k < s → ∃ b, b < 256 ∧ m 37 k = nI b) : Meth l X d M_X8_scan [vR 9 36] m (fun r m' => r = none ∧ RTk m' (tks (m 37) s 161 0) ∧ (∀ a, a ≠ 36 → a ≠ 38 → a ≠ 39 → a ≠ 40 → m' a = m a) ∧ ∀ k, k ≠ 5 → m' 36 k = m 36 k) := by
  obtain ⟨d, rfl⟩ : ∃ e, d = e + 1 := ⟨d - 1, by omega⟩
  refine E_X8_scan (ls := [vR 9 36, vU, vU, vU]) rfl rfl ?_
  repeat refine AW.u 11 rfl rfl ?_
  try dsimp only [List.set_cons_zero, List.set_cons_succ, Option.toList_some, Option.toList_none, List.cons_append, List.nil_append]
  refine AW.loop (pc := 11) (σ := Nat × Bool × List TK) 161 (fun i st => [vR 9 36, vI (nI st.1), vI (if st.2.1 then 1 else 0), vI (nI i)]) (fun i st m1 => RTk m1 st.2.2 ∧ st.2.2.length = i ∧ st.1 ≤ s ∧ (∀ a, a ≠ 36 → a ≠ 38 → a ≠ 39 → a ≠ 40 → m1 a = m a) ∧ (∀ k, k ≠ 5 → m1 36 k = m 36 k) ∧ tks (m 37) s 161 0 = st.2.2 ++ (if st.2.1 then tks (m 37) s (161 - i) st.1 else [])) (fun i st m1 hi hm1 ih => ?_) 0 (0, true, []) _ (Nat.zero_le _) ⟨⟨mUp_s _ _ _ _, fun j t h => by cases h⟩, rfl, Nat.zero_le _, fun a h1 _ _ _ => mUp_a h1, fun k hk => mUp_n (Or.inr hk), rfl⟩
  obtain ⟨p, b, ts⟩ := st
  obtain ⟨g1, g2, g3, g4, g5, g6⟩ := hm1
  have g2 : ts.length = i := g2
  have g3 : p ≤ s := g3
  repeat refine AW.s rfl ?_
  try dsimp only [List.set_cons_zero, List.set_cons_succ, Option.toList_some, Option.toList_none, List.cons_append, List.nil_append]
  refine AW.b rfl (fun hc => ?_) (fun hc => ?_)
  · have : 160 < i := (nI_ltI (a := 160) (by decide) (by omega)).mp hc
    have : i = 161 := by omega
    subst this
    have e : tks (m 37) s 161 0 = ts := by
      rw [g6]
      cases b <;> exact List.append_nil _
    repeat refine AW.s rfl ?_
    try dsimp only [List.set_cons_zero, List.set_cons_succ, Option.toList_some, Option.toList_none, List.cons_append, List.nil_append]
    exact AW.rv rfl rfl ⟨rfl, by rw [e]; exact g1, g4, g5⟩
  · have hlt : i < 161 := by
      have : ¬ 160 < i := fun q => hc (nI_lt (a := 160) q (by omega))
      omega
    repeat refine AW.s rfl ?_
    try dsimp only [List.set_cons_zero, List.set_cons_succ, Option.toList_some, Option.toList_none, List.cons_append, List.nil_append]
    cases b with
    | false =>
      have e : tks (m 37) s 161 0 = ts := by
        rw [g6]
        exact List.append_nil _
      refine AW.b rfl (fun hc => ?_) (fun hc => ?_)
      · repeat refine AW.s rfl ?_
        try dsimp only [List.set_cons_zero, List.set_cons_succ, Option.toList_some, Option.toList_none, List.cons_append, List.nil_append]
        exact AW.rv rfl rfl ⟨rfl, by rw [e]; exact g1, g4, g5⟩
      · exact absurd rfl hc
    | true =>
      refine AW.b rfl (fun hc => ?_) (fun hc => ?_)
      · exact absurd (show (1 : Int32) = 0 from hc) (by decide)
      · have h37 : m1 37 = m 37 := g4 37 (by decide) (by decide) (by decide) (by decide)
        have hsz : m1 36 1 = nI s := by rw [g5 1 (by decide)]; exact hs
        have htk : m1 36 5 = nI i := by rw [g1.1, g2]
        repeat refine AW.s rfl ?_
        try dsimp only [List.set_cons_zero, List.set_cons_succ, Option.toList_some, Option.toList_none, List.cons_append, List.nil_append]
        refine AW.V k_8_31 ((c_afterBlanks hsz hs1 g3)) rfl rfl rfl rfl rfl rfl (fun r1 m2 hq => ?_)
        obtain ⟨rfl, hm2⟩ := hq
        rw [hm2, h37]
        have hbl := blF_le (m 37) (s - p) p
        have htl := tokF_le (g := m 37) (s := s) (p := blF (m 37) (s - p) p) (by omega)
        repeat refine AW.s rfl ?_
        try dsimp only [List.set_cons_zero, List.set_cons_succ, Option.toList_some, Option.toList_none, List.cons_append, List.nil_append]
        refine AW.V k_8_35 ((c_scanToken (by omega) hsz hs1 (by omega) htk (by omega) (fun k hk => by rw [h37]; exact hby k hk))) rfl rfl rfl rfl rfl rfl (fun r1 m3 hq => ?_)
        obtain ⟨rfl, hm3⟩ := hq
        rw [hm3, h37]
        obtain ⟨f, hff⟩ : ∃ f, 161 - i = f + 1 := ⟨161 - i - 1, by omega⟩
        have g6 : tks (m 37) s 161 0 = ts ++ tks (m 37) s (161 - i) p := g6
        rw [hff] at g6
        generalize hq9 : blF (m 37) (s - p) p = q at *
        have g6 : tks (m 37) s 161 0 = ts ++ (((tokF (m 37) s q).1, (tokF (m 37) s q).2.1, q) :: (if 1 < (tokF (m 37) s q).1 then tks (m 37) s f (tokF (m 37) s q).2.2 else [])) := by
          rw [g6]
          show ts ++ (((tokF (m 37) s (blF (m 37) (s - p) p)).1, _, _) :: _) = _
          rw [hq9]
        have hk0 : adT m1 i (tokF (m 37) s q).1 (tokF (m 37) s q).2.1 q 38 i = (tokF (m 37) s q).1 := by
          unfold adT
          rw [mUp_a (by decide), mUp_a (by decide), mUp_a (by decide), mUp_s]
        have R2 : RTk (adT m1 i (tokF (m 37) s q).1 (tokF (m 37) s q).2.1 q) (ts ++ [((tokF (m 37) s q).1, (tokF (m 37) s q).2.1, q)]) := by
          refine ⟨?_, fun j t hj => ?_⟩
          · rw [List.length_append, g2]
            exact mUp_s _ _ _ _
          · by_cases e : j = i
            · subst e
              rw [List.getElem?_append_right (by omega), g2, Nat.sub_self] at hj
              cases hj
              refine ⟨hk0, ?_, ?_⟩
              · unfold adT
                rw [mUp_a (by decide), mUp_a (by decide), mUp_s]
              · unfold adT
                rw [mUp_a (by decide), mUp_s]
            · have hjl : j < ts.length := by
                have := (List.getElem?_eq_some_iff.mp hj).1
                rw [List.length_append] at this
                have : j < ts.length + 1 := this
                omega
              rw [List.getElem?_append_left hjl] at hj
              obtain ⟨z1, z2, z3⟩ := g1.2 j t hj
              unfold adT
              refine ⟨?_, ?_, ?_⟩
              · rw [mUp_a (by decide), mUp_a (by decide), mUp_a (by decide), mUp_n (Or.inr e)]; exact z1
              · rw [mUp_a (by decide), mUp_a (by decide), mUp_n (Or.inr e), mUp_a (by decide)]; exact z2
              · rw [mUp_a (by decide), mUp_n (Or.inr e), mUp_a (by decide), mUp_a (by decide)]; exact z3
        have F2 : ∀ a, a ≠ 36 → a ≠ 38 → a ≠ 39 → a ≠ 40 → adT m1 i (tokF (m 37) s q).1 (tokF (m 37) s q).2.1 q a = m a := fun a h1 h2 h3 h4 => by
          unfold adT
          rw [mUp_a h1, mUp_a h4, mUp_a h3, mUp_a h2]
          exact g4 a h1 h2 h3 h4
        have F3 : ∀ k, k ≠ 5 → adT m1 i (tokF (m 37) s q).1 (tokF (m 37) s q).2.1 q 36 k = m 36 k := fun k hk => by
          unfold adT
          rw [mUp_n (Or.inr hk), mUp_a (by decide), mUp_a (by decide), mUp_a (by decide)]
          exact g5 k hk
        repeat refine AW.s rfl ?_
        try dsimp only [List.set_cons_zero, List.set_cons_succ, Option.toList_some, Option.toList_none, List.cons_append, List.nil_append]
        refine AW.c rfl (vp_in_nI (by omega) (by decide)) ?_
        try dsimp only [List.set_cons_zero, List.set_cons_succ, Option.toList_some, Option.toList_none, List.cons_append, List.nil_append]
        rw [nI_clamp (by omega), show adT m1 i (tokF (m 37) s q).1 (tokF (m 37) s q).2.1 q (36 + 2) i = (tokF (m 37) s q).1 from hk0]
        repeat refine AW.s rfl ?_
        try dsimp only [List.set_cons_zero, List.set_cons_succ, Option.toList_some, Option.toList_none, List.cons_append, List.nil_append]
        refine AW.b rfl (fun hc => ?_) (fun hc => ?_)
        · rw [if_pos (show 1 < (tokF (m 37) s q).1 from hc)] at g6
          repeat refine AW.u 11 rfl rfl ?_
          try dsimp only [List.set_cons_zero, List.set_cons_succ, Option.toList_some, Option.toList_none, List.cons_append, List.nil_append]
          rw [nI_1]
          exact ih ((tokF (m 37) s q).2.2, true, ts ++ [((tokF (m 37) s q).1, (tokF (m 37) s q).2.1, q)]) _ hlt ⟨R2, by show (ts ++ [_]).length = i + 1; rw [List.length_append, g2]; rfl, htl.2, F2, F3, by rw [g6, show 161 - (i + 1) = f by omega]; simp⟩
        · rw [if_neg (show ¬ 1 < (tokF (m 37) s q).1 from hc)] at g6
          repeat refine AW.u 11 rfl rfl ?_
          try dsimp only [List.set_cons_zero, List.set_cons_succ, Option.toList_some, Option.toList_none, List.cons_append, List.nil_append]
          rw [nI_1]
          exact ih ((tokF (m 37) s q).2.2, false, ts ++ [((tokF (m 37) s q).1, (tokF (m 37) s q).2.1, q)]) _ hlt ⟨R2, by show (ts ++ [_]).length = i + 1; rw [List.length_append, g2]; rfl, htl.2, F2, F3, by rw [g6]; simp⟩

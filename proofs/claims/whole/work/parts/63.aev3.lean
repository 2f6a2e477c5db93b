/-- the greatest number from 2 to i - 1 that divides both, or 1 -/
def cdN (a b i : Nat) : Nat := match i with
  | 0 => 1
  | i + 1 => if 2 ≤ i ∧ a % i = 0 ∧ b % i = 0 then i else cdN a b i
theorem c_commonDivisor {l : Launch} {X : XT} {d : Nat} {a b : Nat} {m : Mem} (ha : a ≤ 1000) (hb : b ≤ 1000) : Meth l X d M_X10_commonDivisor [vI (nI a), vI (nI b)] m (fun r m' => r = some (vI (nI (cdN a b (b - 1 + 2)))) ∧ m' = m) := by
  refine E_X10_commonDivisor (ls := [vI (nI a), vI (nI b), vU, vU]) rfl rfl ?_
  repeat refine AW.u 4 rfl rfl ?_
  try dsimp only [List.set_cons_zero, List.set_cons_succ, Option.toList_some, Option.toList_none, List.cons_append, List.nil_append]
  refine AW.loop (pc := 4) (σ := Unit) (b - 1) (fun i _ => [vI (nI a), vI (nI b), vI (nI (cdN a b (i + 2))), vI (nI (i + 2))]) (fun i _ m1 => m1 = m) (fun i _ m1 hi hm1 ih => ?_) 0 () m (Nat.zero_le _) rfl
  subst hm1
  have e3 : cdN a b (i + 1 + 2) = if 2 ≤ i + 2 ∧ a % (i + 2) = 0 ∧ b % (i + 2) = 0 then i + 2 else cdN a b (i + 2) := rfl
  have ma := Nat.mod_lt a (show 0 < i + 2 by omega)
  have mb := Nat.mod_lt b (show 0 < i + 2 by omega)
  repeat refine AW.s rfl ?_
  try dsimp only [List.set_cons_zero, List.set_cons_succ, Option.toList_some, Option.toList_none, List.cons_append, List.nil_append]
  refine AW.b rfl (fun hc => ?_) (fun hc => ?_)
  · have hge : b < i + 2 := (nI_ltI (by omega) (by omega)).mp hc
    have : i = b - 1 := by omega
    subst this
    repeat refine AW.s rfl ?_
    try dsimp only [List.set_cons_zero, List.set_cons_succ, Option.toList_some, Option.toList_none, List.cons_append, List.nil_append]
    exact AW.ri rfl rfl rfl ⟨rfl, rfl⟩
  · have hlt : i + 2 ≤ b := by
      have : ¬ b < i + 2 := fun q => hc (nI_lt q (by omega))
      omega
    repeat refine AW.s rfl ?_
    try dsimp only [List.set_cons_zero, List.set_cons_succ, Option.toList_some, Option.toList_none, List.cons_append, List.nil_append]
    refine AW.c rfl (nI_ne0 (by omega) (by omega)) ?_
    try dsimp only [List.set_cons_zero, List.set_cons_succ, Option.toList_some, Option.toList_none, List.cons_append, List.nil_append]
    rw [pk_rem (by omega) (by omega) (by omega)]
    refine AW.b rfl (fun hc => ?_) (fun hc => ?_)
    · have ea : a % (i + 2) = 0 := (nI_eq (b := 0) (by omega) (by decide)).mp hc
      repeat refine AW.s rfl ?_
      try dsimp only [List.set_cons_zero, List.set_cons_succ, Option.toList_some, Option.toList_none, List.cons_append, List.nil_append]
      refine AW.c rfl (nI_ne0 (by omega) (by omega)) ?_
      try dsimp only [List.set_cons_zero, List.set_cons_succ, Option.toList_some, Option.toList_none, List.cons_append, List.nil_append]
      rw [pk_rem (by omega) (by omega) (by omega)]
      refine AW.b rfl (fun hc => ?_) (fun hc => ?_)
      · have eb : b % (i + 2) = 0 := (nI_eq (b := 0) (by omega) (by decide)).mp hc
        rw [if_pos ⟨by omega, ea, eb⟩] at e3
        have ih := ih () m1 (by omega) rfl
        rw [e3] at ih
        repeat refine AW.u 4 rfl rfl ?_
        try dsimp only [List.set_cons_zero, List.set_cons_succ, Option.toList_some, Option.toList_none, List.cons_append, List.nil_append]
        rw [nI_1]
        exact ih
      · have eb : ¬ b % (i + 2) = 0 := fun q => hc (by rw [q]; rfl)
        rw [if_neg (fun q => eb q.2.2)] at e3
        have ih := ih () m1 (by omega) rfl
        rw [e3] at ih
        repeat refine AW.u 4 rfl rfl ?_
        try dsimp only [List.set_cons_zero, List.set_cons_succ, Option.toList_some, Option.toList_none, List.cons_append, List.nil_append]
        rw [nI_1]
        exact ih
    · have ea : ¬ a % (i + 2) = 0 := fun q => hc (by rw [q]; rfl)
      rw [if_neg (fun q => ea q.2.1)] at e3
      have ih := ih () m1 (by omega) rfl
      rw [e3] at ih
      repeat refine AW.u 4 rfl rfl ?_
      try dsimp only [List.set_cons_zero, List.set_cons_succ, Option.toList_some, Option.toList_none, List.cons_append, List.nil_append]
      rw [nI_1]
      exact ih
theorem cdN_gcd : ∀ b, b < 21 → ∀ a, a < 21 → (0 < b → cdN a b (b - 1 + 2) = Nat.gcd a b) := by decide +kernel
theorem c_search {l : Launch} {X : XT} {d : Nat} {m : Mem} {σ : Sg} {T : Nat} {en : Nat → Nat} (hd : 11 ≤ d) (hs : RepS m 1 σ) (hσ : WF σ) (hT : 199 ≤ T) (ht : TOK m T en) : Meth l X d M_X1_search [vR 2 67, vR 8 1, vR 10 T] m (fun r m' => r = none ∧ kbOf m' = ((cmpW (σ 0 2) (σ 0 2) []).map (wayV σ (tellV m T en))).foldl kbF (1, m 67 4, m 67 5) ∧ ∀ a, (a < 67 ∨ 198 < a) → a ≠ T + 4 → m' a = m a) := by
  obtain ⟨d, rfl⟩ : ∃ e, d = e + 1 := ⟨d - 1, by omega⟩
  have h6 : σ 0 2 ≤ 6 := hσ.2.2.1
  refine E_X1_search (ls := [vR 2 67, vR 8 1, vR 10 T]) rfl rfl ?_
  repeat refine AW.s rfl ?_
  try dsimp only [List.set_cons_zero, List.set_cons_succ, Option.toList_some, Option.toList_none, List.cons_append, List.nil_append]
  refine AW.c rfl (Or.inr rfl) ?_
  try dsimp only [List.set_cons_zero, List.set_cons_succ, Option.toList_some, Option.toList_none, List.cons_append, List.nil_append]
  repeat refine AW.s rfl ?_
  try dsimp only [List.set_cons_zero, List.set_cons_succ, Option.toList_some, Option.toList_none, List.cons_append, List.nil_append]
  refine AW.c rfl (vp_in_nI (n := 0) (by decide) (by decide)) ?_
  try dsimp only [List.set_cons_zero, List.set_cons_succ, Option.toList_some, Option.toList_none, List.cons_append, List.nil_append]
  rw [show (0 : Int32).toNatClampNeg = 0 from rfl]
  repeat refine AW.s rfl ?_
  try dsimp only [List.set_cons_zero, List.set_cons_succ, Option.toList_some, Option.toList_none, List.cons_append, List.nil_append]
  generalize hm0 : mUp (mUp m 67 3 1) _ 1 0 = m0
  have f0 : ∀ a, a ≠ 67 → a ≠ 69 → m0 a = m a := fun a h1 h2 => by rw [← hm0, mUp_a h2, mUp_a h1]
  have hs0 : RepS m0 1 σ := hs.fr hσ.2.1 (fun a h1 h2 => f0 a (by omega) (by omega))
  refine AW.V k_1_40 ((c_beginAll (H := 73) (by omega) hs0 hσ (by decide))) rfl rfl rfl rfl rfl rfl (fun r1 m1 hq => ?_)
  obtain ⟨rfl, hY, hf1⟩ := hq
  have f1 : ∀ a, (a < 67 ∨ 198 < a) → m1 a = m a := fun a h1 => by rw [hf1 a (by omega), f0 a (by omega) (by omega)]
  have ht1 : TOK m1 T en := ht.fr (f1 _ (by omega)) (f1 _ (by omega)) (f1 _ (by omega)) (f1 _ (by omega))
  repeat refine AW.s rfl ?_
  try dsimp only [List.set_cons_zero, List.set_cons_succ, Option.toList_some, Option.toList_none, List.cons_append, List.nil_append]
  refine AW.V k_1_44 ((c_goOn hσ (τ := tellV m T en) hT (σ 0 2) _ [] 0 m1 (by omega) (Nat.zero_add _) (fun r hr => absurd hr List.not_mem_nil) (hs.fr hσ.2.1 (fun a h1 h2 => f1 a (by omega))) ht1 (fun p F hp => by unfold tellV; rw [tval_eq ht hp (f1 _ (by omega)) (f1 _ (by omega)) (f1 _ (by omega)) (fun _ _ => rfl)]) ⟨by rw [hf1 69 (by decide), ← hm0]; exact mUp_s _ _ _ _, fun k x hk => by cases hk⟩ (isBits.zero.to (fun r => ⟨fun q => absurd q id, fun q => absurd q List.not_mem_nil⟩)) hY)) rfl rfl rfl rfl rfl rfl (fun r1 m2 hq => ?_)
  obtain ⟨rfl, hk, hfo⟩ := hq
  have hkb : kbOf m1 = (1, m 67 4, m 67 5) := by
    unfold kbOf
    rw [hf1 67 (by decide), ← hm0, mUp_a (show (67 : Nat) ≠ 69 by decide), mUp_s, mUp_n (Or.inr (by decide)), mUp_n (Or.inr (by decide))]
  rw [hkb] at hk
  exact AW.rv rfl rfl ⟨rfl, hk, fun a h1 h2 => by rw [hfo.1 a (by omega) (by omega) (by omega) (by omega) h2 (by omega)]; exact f1 a h1⟩
/-- what the law says of a word: part p -/
def jdgV (σ : Sg) (τ : Nat → (Nat → Int32) → Int32) (w p : Nat) : Int32 := match saidS σ (rowL σ) w with
  | none => 0
  | some xs => if p = 0 then hardV σ (rowL σ) (τ 0 (fctV σ (rowL σ) w xs)) else τ p (fctV σ (rowL σ) w xs)
theorem c_judged {l : Launch} {X : XT} {d : Nat} {w p : Nat} {en : Nat → Nat} {m : Mem} {σ : Sg} (hd : 5 ≤ d) (hs : RepS m 1 σ) (hσ : WF σ) (hw : w < σ 0 1) (hp : p < 3) (ht : TOK m (199 + 6 * σ 0 4) en) : Meth l X d M_X10_judged [vR 11 0, vI (nI w), vI (nI p)] m (fun r m' => r = some (vI (jdgV σ (tellV m (199 + 6 * σ 0 4) en) w p)) ∧ FrC m m') := by
  obtain ⟨d, rfl⟩ : ∃ e, d = e + 1 := ⟨d - 1, by omega⟩
  have hl6 : σ 0 4 < 6 := hσ.2.2.2.2.1
  refine E_X10_judged (ls := [vR 11 0, vI (nI w), vI (nI p)]) rfl rfl ?_
  repeat refine AW.s rfl ?_
  try dsimp only [List.set_cons_zero, List.set_cons_succ, Option.toList_some, Option.toList_none, List.cons_append, List.nil_append]
  refine AW.V k_10_185 ((c_say (h := 61) (ρ := 16) (by omega) hs hσ (rowL_wf hσ) hs.row hw (by decide) (by decide))) rfl rfl rfl rfl rfl rfl (fun r1 m1 hq => ?_)
  obtain ⟨rfl, p1, p2⟩ := hq
  have fc1 : FrC m m1 := fun a ha => p2 a (by omega) (by omega)
  have hs1 := hs.C hσ fc1
  have hwo := saidS_wf hσ (rowL_wf hσ) hw
  repeat refine AW.s rfl ?_
  try dsimp only [List.set_cons_zero, List.set_cons_succ, Option.toList_some, Option.toList_none, List.cons_append, List.nil_append]
  refine AW.V k_10_268 (c_isTooLong) rfl rfl rfl rfl rfl rfl (fun r1 m9 hq => ?_)
  obtain ⟨rfl, hm9⟩ := hq
  rw [hm9]
  try dsimp only [List.set_cons_zero, List.set_cons_succ, Option.toList_some, Option.toList_none, List.cons_append, List.nil_append]
  have hj : jdgV σ (tellV m (199 + 6 * σ 0 4) en) w p = match saidS σ (rowL σ) w with | none => 0 | some xs => if p = 0 then hardV σ (rowL σ) (tellV m (199 + 6 * σ 0 4) en 0 (fctV σ (rowL σ) w xs)) else tellV m (199 + 6 * σ 0 4) en p (fctV σ (rowL σ) w xs) := by unfold jdgV; rfl
  cases hoo : saidS σ (rowL σ) w with
  | none =>
    rw [hoo] at p1 hj
    rw [if_pos (show m1 61 1 = -1 from p1)]
    refine AW.b rfl (fun hc => ?_) (fun hc => ?_)
    · exact absurd hc (by decide)
    · repeat refine AW.s rfl ?_
      try dsimp only [List.set_cons_zero, List.set_cons_succ, Option.toList_some, Option.toList_none, List.cons_append, List.nil_append]
      exact AW.ri rfl rfl rfl ⟨by rw [hj], fc1⟩
  | some xs =>
    rw [hoo] at p1 hj hwo
    obtain ⟨a1, a2, a3⟩ := hwo xs rfl
    rw [if_neg (show ¬ m1 61 1 = -1 by rw [p1.1]; exact nI_m1 (by omega))]
    refine AW.b rfl (fun hc => ?_) (fun hc => ?_)
    · repeat refine AW.s rfl ?_
      try dsimp only [List.set_cons_zero, List.set_cons_succ, Option.toList_some, Option.toList_none, List.cons_append, List.nil_append]
      refine AW.V k_10_325 ((c_regard (J := 65) (ρ := 16) (h := 61) (by omega) hs1 hσ (rowL_wf hσ) hs1.row hw p1 hwo (by decide) (by decide) (by decide))) rfl rfl rfl rfl rfl rfl (fun r1 m2 hq => ?_)
      obtain ⟨rfl, q1, q2⟩ := hq
      have fc2 : FrC m m2 := fc1.tr (fun a ha => q2 a (by omega))
      have hs2 := hs.C hσ fc2
      have ht2 := ht.C hl6 fc2
      have htv : ∀ p, p < 3 → clI (tval m2 (199 + 6 * σ 0 4) en p (m2 66)) = tellV m (199 + 6 * σ 0 4) en p (fctV σ (rowL σ) w xs) := by
        intro p hp
        unfold tellV
        rw [tval_eq ht hp (fc2 _ (by omega)) (fc2 _ (by omega)) (fc2 _ (by omega)) (fun k hk => q1 k hk)]
      repeat refine AW.s rfl ?_
      try dsimp only [List.set_cons_zero, List.set_cons_succ, Option.toList_some, Option.toList_none, List.cons_append, List.nil_append]
      refine AW.b rfl (fun hc => ?_) (fun hc => ?_)
      · have hp0 : p = 0 := (nI_eq (b := 0) (by omega) (by decide)).mp hc
        subst hp0
        repeat refine AW.s rfl ?_
        try dsimp only [List.set_cons_zero, List.set_cons_succ, Option.toList_some, Option.toList_none, List.cons_append, List.nil_append]
        refine AW.V k_10_231 ((c_law hs2 hσ)) rfl rfl rfl rfl rfl rfl (fun r1 m3 hq => ?_)
        obtain ⟨rfl, hm3⟩ := hq
        rw [hm3]
        repeat refine AW.s rfl ?_
        try dsimp only [List.set_cons_zero, List.set_cons_succ, Option.toList_some, Option.toList_none, List.cons_append, List.nil_append]
        refine AW.V k_10_329 ((c_hard (J := 65) (ρ := 16) (by omega) hs2 hσ (rowL_wf hσ) hs2.row ht2 (by omega) (by omega) (by omega))) rfl rfl rfl rfl rfl rfl (fun r1 m4 hq => ?_)
        obtain ⟨rfl, q4⟩ := hq
        repeat refine AW.s rfl ?_
        try dsimp only [List.set_cons_zero, List.set_cons_succ, Option.toList_some, Option.toList_none, List.cons_append, List.nil_append]
        refine AW.ri rfl rfl rfl ⟨?_, fc2.tr (fun a ha => q4 a (by omega))⟩
        rw [hj, htv 0 (by decide)]
        exact congrArg some (congrArg vI (if_pos rfl).symm)
      · have hp0 : ¬ p = 0 := fun q => hc (by rw [q]; rfl)
        repeat refine AW.s rfl ?_
        try dsimp only [List.set_cons_zero, List.set_cons_succ, Option.toList_some, Option.toList_none, List.cons_append, List.nil_append]
        refine AW.V k_10_231 ((c_law hs2 hσ)) rfl rfl rfl rfl rfl rfl (fun r1 m3 hq => ?_)
        obtain ⟨rfl, hm3⟩ := hq
        rw [hm3]
        repeat refine AW.s rfl ?_
        try dsimp only [List.set_cons_zero, List.set_cons_succ, Option.toList_some, Option.toList_none, List.cons_append, List.nil_append]
        refine AW.V k_10_336 ((c_tells (F := 66) (by omega) ht2 hp (by omega))) rfl rfl rfl rfl rfl rfl (fun r1 m4 hq => ?_)
        obtain ⟨rfl, q4⟩ := hq
        repeat refine AW.s rfl ?_
        try dsimp only [List.set_cons_zero, List.set_cons_succ, Option.toList_some, Option.toList_none, List.cons_append, List.nil_append]
        refine AW.ri rfl rfl rfl ⟨?_, fc2.tr (fun a ha => q4 a (by omega))⟩
        rw [hj, htv p hp]
        exact congrArg some (congrArg vI (if_neg hp0).symm)
    · exact absurd rfl hc

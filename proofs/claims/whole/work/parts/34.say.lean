theorem lim_two (A : List Nat) : (lim A).bind (fun ys => lim (ys ++ ys.take 1)) = lim (A ++ A.take 1) := by
  unfold lim
  by_cases h : A.length ≤ 40
  · rw [if_pos h]; rfl
  · rw [if_neg h, if_neg (by rw [List.length_append]; omega)]; rfl
theorem RY.fr {m m' : Mem} {h : Nat} {o : Option (List Nat)} (hy : RY m h o) (h1 : m' h = m h) (h2 : m' (h + 1) = m (h + 1)) : RY m' h o := by
  cases o with
  | none => show m' h 1 = -1; rw [h1]; exact hy
  | some xs => exact ⟨by rw [h1]; exact hy.1, by rw [h2]; exact hy.2⟩
theorem RepR.fr {m m' : Mem} {h : Nat} {rw : List Nat} (hy : RepR m h rw) (h1 : m' h = m h) (h2 : m' (h + 1) = m (h + 1)) : RepR m' h rw := ⟨by rw [h1]; exact hy.1, by rw [h2]; exact hy.2⟩
theorem c_begin {l : Launch} {X : XT} {d : Nat} {h w : Nat} {m : Mem} {σ : Sg} (hd : 1 ≤ d) (hs : RepS m 1 σ) (hσ : WF σ) (hw : w < σ 0 1) (hh : 18 ≤ h) : Meth l X d M_X4_begin [vR 5 h, vR 8 1, vI (nI w)] m (fun r m' => r = none ∧ RY m' h (some (wl σ w)) ∧ ∀ a, a ≠ h → a ≠ h + 1 → m' a = m a) := by
  obtain ⟨d, rfl⟩ : ∃ e, d = e + 1 := ⟨d - 1, by omega⟩
  obtain ⟨-, -, -, -, hs5, -⟩ := hs
  obtain ⟨-, w2, -, -, -, w6, -⟩ := hσ
  obtain ⟨q1, q2, q3⟩ := hs5 w hw
  obtain ⟨g1, g2, -, g4⟩ := w6 w hw
  have q1 : m 11 w = nI (σ 1 w) := q1
  refine E_X4_begin (ls := [vR 5 h, vR 8 1, vI (nI w)]) rfl rfl ?_
  repeat refine AW.s rfl ?_
  try dsimp only [List.set_cons_zero, List.set_cons_succ, Option.toList_some, Option.toList_none, List.cons_append, List.nil_append]
  refine AW.c rfl (vp_in_nI (by omega) (by decide)) ?_
  try dsimp only [List.set_cons_zero, List.set_cons_succ, Option.toList_some, Option.toList_none, List.cons_append, List.nil_append]
  rw [nI_clamp (by omega), q1]
  repeat refine AW.s rfl ?_
  try dsimp only [List.set_cons_zero, List.set_cons_succ, Option.toList_some, Option.toList_none, List.cons_append, List.nil_append]
  refine AW.c rfl (vp_in_nI (by omega) (by decide)) ?_
  try dsimp only [List.set_cons_zero, List.set_cons_succ, Option.toList_some, Option.toList_none, List.cons_append, List.nil_append]
  rw [nI_clamp (by omega)]
  repeat refine AW.s rfl ?_
  try dsimp only [List.set_cons_zero, List.set_cons_succ, Option.toList_some, Option.toList_none, List.cons_append, List.nil_append]
  rw [mUp_s]
  refine AW.cpy k_4_27 rfl rfl rfl rfl (by decide) (by decide) (nI_pos (by omega)) ?_ ?_ ?_
  · rw [nI_clamp (by omega)]; show 0 + σ 1 w ≤ 10; omega
  · rw [nI_clamp (by omega)]; show 0 + σ 1 w ≤ 40; omega
  rw [nI_clamp (by omega)]
  try dsimp only [List.set_cons_zero, List.set_cons_succ, Option.toList_some, Option.toList_none, List.cons_append, List.nil_append]
  refine AW.rv rfl rfl ⟨rfl, ⟨?_, fun k x hk => ?_⟩, fun a h1 h2 => ?_⟩
  · rw [mSr_n (by omega), mUp_s, wl_len]
  · obtain ⟨hk1, rfl⟩ := wl_get hk
    rw [mSr_s, show (0 : Int32).toNatClampNeg = 0 from rfl, pk_cpy_in (Nat.zero_le _) (by show k < 0 + σ 1 w; omega), mUp_a (by omega)]
    have := q3 k hk1
    rw [← this]
    congr 1
    · omega
    · show 0 + (k - 0) = k; omega
  · rw [mSr_n h2, mUp_a h1]
theorem c_turn {l : Launch} {X : XT} {d : Nat} {h r : Nat} {m : Mem} {σ : Sg} {o : Option (List Nat)} (hd : 2 ≤ d) (hs : RepS m 1 σ) (hσ : WF σ) (hr : r < σ 0 2) (hh : 18 ≤ h) (hy : RY m h o) (ho : WFo o) : Meth l X d M_X4_turn [vR 5 h, vR 8 1, vI (nI r)] m (fun r1 m' => r1 = none ∧ RY m' h (turnS σ r o) ∧ ∀ a, a ≠ h → a ≠ h + 1 → m' a = m a) := by
  obtain ⟨d, rfl⟩ : ∃ e, d = e + 1 := ⟨d - 1, by omega⟩
  have hs6 := hs.2.2.2.2.2.1 r hr
  have w7 := hσ.2.2.2.2.2.2.1 r hr
  have hV : m 1 0 = nI (σ 0 0) := hs.1
  have hVb := hσ.1
  have hr6 : r < 6 := Nat.lt_of_lt_of_le hr hσ.2.2.1
  have q1 : m 13 r = nI (σ 3 r) := hs6.1
  have q2 : m 14 r = nI (σ 4 r) := hs6.2.1
  have q3 : m 15 r = nI (σ 5 r) := hs6.2.2
  refine E_X4_turn (ls := [vR 5 h, vR 8 1, vI (nI r)]) rfl rfl ?_
  repeat refine AW.s rfl ?_
  try dsimp only [List.set_cons_zero, List.set_cons_succ, Option.toList_some, Option.toList_none, List.cons_append, List.nil_append]
  refine AW.V k_4_50 (c_isTooLong) rfl rfl rfl rfl rfl rfl (fun r1 m1 hq => ?_)
  obtain ⟨rfl, rfl⟩ := hq
  try dsimp only [List.set_cons_zero, List.set_cons_succ, Option.toList_some, Option.toList_none, List.cons_append, List.nil_append]
  cases o with
  | none =>
    have hy : m1 h 1 = -1 := hy
    rw [if_pos hy]
    refine AW.b rfl (fun hc => ?_) (fun hc => ?_)
    · exact absurd hc (by decide)
    · exact AW.rv rfl rfl ⟨rfl, hy, fun _ _ _ => rfl⟩
  | some xs =>
    obtain ⟨g1, g2, g3⟩ := ho xs rfl
    rw [if_neg (by rw [hy.1]; exact nI_m1 (by omega))]
    refine AW.b rfl (fun hc => ?_) (fun hc => ?_)
    · repeat refine AW.s rfl ?_
      try dsimp only [List.set_cons_zero, List.set_cons_succ, Option.toList_some, Option.toList_none, List.cons_append, List.nil_append]
      refine AW.c rfl (vp_in_nI (by omega) (by decide)) ?_
      try dsimp only [List.set_cons_zero, List.set_cons_succ, Option.toList_some, Option.toList_none, List.cons_append, List.nil_append]
      rw [nI_clamp (by omega), q1]
      have hk6 : σ 3 r = 0 ∨ σ 3 r = 1 ∨ σ 3 r = 2 ∨ σ 3 r = 3 ∨ σ 3 r = 4 ∨ σ 3 r = 5 := by omega
      have ht : turnS σ r (some xs) = turnL (σ 0 0) (σ 3 r) (σ 4 r) (σ 5 r) xs := rfl
      rw [ht]
      rcases hk6 with e | e | e | e | e | e <;> rw [e]
      · refine AW.tout (tgt := 123) rfl (by decide) (by decide) ?_
        exact AW.rv rfl rfl ⟨rfl, hy, fun _ _ _ => rfl⟩
      · refine AW.tin (tgt := 48) rfl (by decide) (by decide) rfl (by decide) ?_
        repeat refine AW.s rfl ?_
        try dsimp only [List.set_cons_zero, List.set_cons_succ, Option.toList_some, Option.toList_none, List.cons_append, List.nil_append]
        refine AW.c rfl (vp_in_nI (by omega) (by decide)) ?_
        try dsimp only [List.set_cons_zero, List.set_cons_succ, Option.toList_some, Option.toList_none, List.cons_append, List.nil_append]
        rw [nI_clamp (by omega), q2]
        repeat refine AW.s rfl ?_
        try dsimp only [List.set_cons_zero, List.set_cons_succ, Option.toList_some, Option.toList_none, List.cons_append, List.nil_append]
        rw [hV]
        refine AW.V k_4_63 ((c_putAfter (by omega) hy ho hVb w7.2.1)) rfl rfl rfl rfl rfl rfl (fun r1 m1 hq => ?_)
        obtain ⟨rfl, p1, p2⟩ := hq
        repeat refine AW.s rfl ?_
        try dsimp only [List.set_cons_zero, List.set_cons_succ, Option.toList_some, Option.toList_none, List.cons_append, List.nil_append]
        exact AW.rv rfl rfl ⟨rfl, p1, p2⟩
      · refine AW.tin (tgt := 65) rfl (by decide) (by decide) rfl (by decide) ?_
        repeat refine AW.s rfl ?_
        try dsimp only [List.set_cons_zero, List.set_cons_succ, Option.toList_some, Option.toList_none, List.cons_append, List.nil_append]
        refine AW.c rfl (vp_in_nI (by omega) (by decide)) ?_
        try dsimp only [List.set_cons_zero, List.set_cons_succ, Option.toList_some, Option.toList_none, List.cons_append, List.nil_append]
        rw [nI_clamp (by omega), q3]
        refine AW.V k_4_70 ((c_shift hy g1 g3 w7.2.2)) rfl rfl rfl rfl rfl rfl (fun r1 m1 hq => ?_)
        obtain ⟨rfl, p1, p2⟩ := hq
        repeat refine AW.s rfl ?_
        try dsimp only [List.set_cons_zero, List.set_cons_succ, Option.toList_some, Option.toList_none, List.cons_append, List.nil_append]
        exact AW.rv rfl rfl ⟨rfl, p1, fun a _ h2 => p2 a h2⟩
      · refine AW.tin (tgt := 78) rfl (by decide) (by decide) rfl (by decide) ?_
        repeat refine AW.s rfl ?_
        try dsimp only [List.set_cons_zero, List.set_cons_succ, Option.toList_some, Option.toList_none, List.cons_append, List.nil_append]
        refine AW.c rfl (vp_in_nI (by omega) (by decide)) ?_
        try dsimp only [List.set_cons_zero, List.set_cons_succ, Option.toList_some, Option.toList_none, List.cons_append, List.nil_append]
        rw [nI_clamp (by omega), q2]
        repeat refine AW.s rfl ?_
        try dsimp only [List.set_cons_zero, List.set_cons_succ, Option.toList_some, Option.toList_none, List.cons_append, List.nil_append]
        rw [hV]
        refine AW.V k_4_63 ((c_putAfter (by omega) hy ho hVb w7.2.1)) rfl rfl rfl rfl rfl rfl (fun r1 m1 hq => ?_)
        obtain ⟨rfl, p1, p2⟩ := hq
        repeat refine AW.s rfl ?_
        try dsimp only [List.set_cons_zero, List.set_cons_succ, Option.toList_some, Option.toList_none, List.cons_append, List.nil_append]
        have ho2 : WFo (lim (insA (σ 0 0) (σ 4 r) xs)) := by
          intro ys e2
          unfold lim at e2
          split at e2
          · cases e2
            rename_i h40
            exact ⟨insA_gl g1 w7.2.1, by rw [insA_len]; omega, h40⟩
          · cases e2
        refine AW.V k_4_74 ((c_repeatFirst (by omega) p1 ho2)) rfl rfl rfl rfl rfl rfl (fun r1 m1 hq => ?_)
        rename_i m2
        obtain ⟨rfl, p3, p4⟩ := hq
        repeat refine AW.s rfl ?_
        try dsimp only [List.set_cons_zero, List.set_cons_succ, Option.toList_some, Option.toList_none, List.cons_append, List.nil_append]
        refine AW.rv rfl rfl ⟨rfl, ?_, fun a h1 h2 => by rw [p4 a h1 h2, p2 a h1 h2]⟩
        show RY _ h (lim (insA (σ 0 0) (σ 4 r) xs ++ (insA (σ 0 0) (σ 4 r) xs).take 1))
        rw [← lim_two]
        exact p3
      · refine AW.tin (tgt := 99) rfl (by decide) (by decide) rfl (by decide) ?_
        repeat refine AW.s rfl ?_
        try dsimp only [List.set_cons_zero, List.set_cons_succ, Option.toList_some, Option.toList_none, List.cons_append, List.nil_append]
        refine AW.c rfl (vp_in_nI (by omega) (by decide)) ?_
        try dsimp only [List.set_cons_zero, List.set_cons_succ, Option.toList_some, Option.toList_none, List.cons_append, List.nil_append]
        rw [nI_clamp (by omega), q3]
        repeat refine AW.s rfl ?_
        try dsimp only [List.set_cons_zero, List.set_cons_succ, Option.toList_some, Option.toList_none, List.cons_append, List.nil_append]
        rw [hV]
        refine AW.V k_4_77 ((c_shiftVowels hy g1 g3 w7.2.2 hVb)) rfl rfl rfl rfl rfl rfl (fun r1 m1 hq => ?_)
        obtain ⟨rfl, p1, p2⟩ := hq
        repeat refine AW.s rfl ?_
        try dsimp only [List.set_cons_zero, List.set_cons_succ, Option.toList_some, Option.toList_none, List.cons_append, List.nil_append]
        exact AW.rv rfl rfl ⟨rfl, p1, fun a _ h2 => p2 a h2⟩
      · refine AW.tin (tgt := 116) rfl (by decide) (by decide) rfl (by decide) ?_
        repeat refine AW.s rfl ?_
        try dsimp only [List.set_cons_zero, List.set_cons_succ, Option.toList_some, Option.toList_none, List.cons_append, List.nil_append]
        refine AW.V k_4_80 ((c_reverse hy g3 g2)) rfl rfl rfl rfl rfl rfl (fun r1 m1 hq => ?_)
        obtain ⟨rfl, p1, p2⟩ := hq
        repeat refine AW.s rfl ?_
        try dsimp only [List.set_cons_zero, List.set_cons_succ, Option.toList_some, Option.toList_none, List.cons_append, List.nil_append]
        exact AW.rv rfl rfl ⟨rfl, p1, fun a _ h2 => p2 a h2⟩
    · exact absurd rfl hc
theorem c_turnByRow {l : Launch} {X : XT} {d : Nat} {h ρ : Nat} {m : Mem} {σ : Sg} {rw : List Nat} {o : Option (List Nat)} (hd : 3 ≤ d) (hs : RepS m 1 σ) (hσ : WF σ) (hrw : WFr σ rw) (hρ : RepR m ρ rw) (hh : 18 ≤ h) (hρh : ρ + 1 < h ∨ h + 1 < ρ) (hy : RY m h o) (ho : WFo o) : Meth l X d M_X4_turnByRow [vR 5 h, vR 8 1, vR 4 ρ] m (fun r1 m' => r1 = none ∧ RY m' h (sayR σ rw o) ∧ ∀ a, a ≠ h → a ≠ h + 1 → m' a = m a) := by
  obtain ⟨d, rfl⟩ : ∃ e, d = e + 1 := ⟨d - 1, by omega⟩
  have hr8 := hrw.1
  refine E_X4_turnByRow (ls := [vR 5 h, vR 8 1, vR 4 ρ, vU]) rfl rfl ?_
  repeat refine AW.u 2 rfl rfl ?_
  try dsimp only [List.set_cons_zero, List.set_cons_succ, Option.toList_some, Option.toList_none, List.cons_append, List.nil_append]
  refine AW.loop (pc := 2) (σ := Unit) rw.length (fun i _ => [vR 5 h, vR 8 1, vR 4 ρ, vI (nI i)]) (fun i _ m1 => (∀ a, a ≠ h → a ≠ h + 1 → m1 a = m a) ∧ RY m1 h (sayR σ (rw.take i) o)) (fun i _ m1 hi hm1 ih => ?_) 0 () m (Nat.zero_le _) ⟨fun _ _ _ => rfl, hy⟩
  obtain ⟨hf, hv⟩ := hm1
  have hsz : m1 ρ 1 = nI rw.length := by rw [hf ρ (by omega) (by omega)]; exact hρ.1
  repeat refine AW.s rfl ?_
  try dsimp only [List.set_cons_zero, List.set_cons_succ, Option.toList_some, Option.toList_none, List.cons_append, List.nil_append]
  rw [hsz]
  refine AW.b rfl (fun hc => ?_) (fun hc => ?_)
  · have hlt : i < rw.length := (nI_ltI (by omega) (by omega)).mp hc
    obtain ⟨r, hr⟩ : ∃ x, rw[i]? = some x := ⟨_, List.getElem?_eq_getElem hlt⟩
    have hr2 : r < σ 0 2 := hrw.2 r (List.mem_of_getElem? hr)
    have hval : m1 (ρ + 1) i = nI r := by rw [hf (ρ + 1) (by omega) (by omega)]; exact hρ.2 i r hr
    repeat refine AW.s rfl ?_
    try dsimp only [List.set_cons_zero, List.set_cons_succ, Option.toList_some, Option.toList_none, List.cons_append, List.nil_append]
    refine AW.c rfl (vp_in_nI (by omega) (by decide)) ?_
    try dsimp only [List.set_cons_zero, List.set_cons_succ, Option.toList_some, Option.toList_none, List.cons_append, List.nil_append]
    rw [nI_clamp (by omega), hval]
    refine AW.V k_4_41 ((c_turn (by omega) (hs.fr hσ.2.1 (fun a h1 h2 => hf a (by omega) (by omega))) hσ hr2 hh hv (sayR_wf hσ _ (fun q hq => hrw.2 q (List.mem_of_mem_take hq)) ho))) rfl rfl rfl rfl rfl rfl (fun r1 m1 hq => ?_)
    rename_i m2
    obtain ⟨rfl, p1, p2⟩ := hq
    repeat refine AW.u 2 rfl rfl ?_
    try dsimp only [List.set_cons_zero, List.set_cons_succ, Option.toList_some, Option.toList_none, List.cons_append, List.nil_append]
    rw [nI_1]
    refine ih () _ hlt ⟨fun a h1 h2 => by rw [p2 a h1 h2]; exact hf a h1 h2, ?_⟩
    rw [sayR_take hr]
    exact p1
  · have : i = rw.length := by
      have : ¬ i < rw.length := fun q => hc ((nI_ltI (by omega) (by omega)).mpr q)
      omega
    subst this
    rw [List.take_length] at hv
    exact AW.rv rfl rfl ⟨rfl, hv, hf⟩
theorem c_say {l : Launch} {X : XT} {d : Nat} {h ρ w : Nat} {m : Mem} {σ : Sg} {rw : List Nat} (hd : 4 ≤ d) (hs : RepS m 1 σ) (hσ : WF σ) (hrw : WFr σ rw) (hρ : RepR m ρ rw) (hw : w < σ 0 1) (hh : 18 ≤ h) (hρh : ρ + 1 < h ∨ h + 1 < ρ) : Meth l X d M_X4_say [vR 5 h, vR 8 1, vR 4 ρ, vI (nI w)] m (fun r1 m' => r1 = none ∧ RY m' h (saidS σ rw w) ∧ ∀ a, a ≠ h → a ≠ h + 1 → m' a = m a) := by
  obtain ⟨d, rfl⟩ : ∃ e, d = e + 1 := ⟨d - 1, by omega⟩
  refine E_X4_say (ls := [vR 5 h, vR 8 1, vR 4 ρ, vI (nI w)]) rfl rfl ?_
  repeat refine AW.s rfl ?_
  try dsimp only [List.set_cons_zero, List.set_cons_succ, Option.toList_some, Option.toList_none, List.cons_append, List.nil_append]
  refine AW.V k_4_33 ((c_begin (by omega) hs hσ hw hh)) rfl rfl rfl rfl rfl rfl (fun r1 m1 hq => ?_)
  obtain ⟨rfl, p1, p2⟩ := hq
  repeat refine AW.s rfl ?_
  try dsimp only [List.set_cons_zero, List.set_cons_succ, Option.toList_some, Option.toList_none, List.cons_append, List.nil_append]
  refine AW.V k_4_37 ((c_turnByRow (by omega) (hs.fr hσ.2.1 (fun a h1 h2 => p2 a (by omega) (by omega))) hσ hrw (hρ.fr (p2 ρ (by omega) (by omega)) (p2 (ρ + 1) (by omega) (by omega))) hh hρh p1 (wl_wf hσ hw))) rfl rfl rfl rfl rfl rfl (fun r1 m1 hq => ?_)
  rename_i m2
  obtain ⟨rfl, p3, p4⟩ := hq
  repeat refine AW.s rfl ?_
  try dsimp only [List.set_cons_zero, List.set_cons_succ, Option.toList_some, Option.toList_none, List.cons_append, List.nil_append]
  exact AW.rv rfl rfl ⟨rfl, p3, fun a h1 h2 => by rw [p4 a h1 h2, p2 a h1 h2]⟩
theorem c_sayByOne {l : Launch} {X : XT} {d : Nat} {h r w : Nat} {m : Mem} {σ : Sg} (hd : 3 ≤ d) (hs : RepS m 1 σ) (hσ : WF σ) (hr : r < σ 0 2) (hw : w < σ 0 1) (hh : 18 ≤ h) : Meth l X d M_X4_sayByOne [vR 5 h, vR 8 1, vI (nI r), vI (nI w)] m (fun r1 m' => r1 = none ∧ RY m' h (turnS σ r (some (wl σ w))) ∧ ∀ a, a ≠ h → a ≠ h + 1 → m' a = m a) := by
  obtain ⟨d, rfl⟩ : ∃ e, d = e + 1 := ⟨d - 1, by omega⟩
  refine E_X4_sayByOne (ls := [vR 5 h, vR 8 1, vI (nI r), vI (nI w)]) rfl rfl ?_
  repeat refine AW.s rfl ?_
  try dsimp only [List.set_cons_zero, List.set_cons_succ, Option.toList_some, Option.toList_none, List.cons_append, List.nil_append]
  refine AW.V k_4_33 ((c_begin (by omega) hs hσ hw hh)) rfl rfl rfl rfl rfl rfl (fun r1 m1 hq => ?_)
  obtain ⟨rfl, p1, p2⟩ := hq
  repeat refine AW.s rfl ?_
  try dsimp only [List.set_cons_zero, List.set_cons_succ, Option.toList_some, Option.toList_none, List.cons_append, List.nil_append]
  refine AW.V k_4_41 ((c_turn (by omega) (hs.fr hσ.2.1 (fun a h1 h2 => p2 a (by omega) (by omega))) hσ hr hh p1 (wl_wf hσ hw))) rfl rfl rfl rfl rfl rfl (fun r1 m1 hq => ?_)
  rename_i m2
  obtain ⟨rfl, p3, p4⟩ := hq
  repeat refine AW.s rfl ?_
  try dsimp only [List.set_cons_zero, List.set_cons_succ, Option.toList_some, Option.toList_none, List.cons_append, List.nil_append]
  exact AW.rv rfl rfl ⟨rfl, p3, fun a h1 h2 => by rw [p4 a h1 h2, p2 a h1 h2]⟩

-- ===== the model: alikeTexts, film =====
/-- alike in all that a saying and a worth look at -/
def SmS (σ σ' : Sg) : Prop := σ' 0 0 = σ 0 0 ∧ σ' 0 1 = σ 0 1 ∧ ∀ a k, a ≠ 0 → a ≠ 6 → σ' a k = σ a k
theorem turnS_sm {σ σ' : Sg} (h : SmS σ σ') {r : Nat} {o : Option (List Nat)} : turnS σ' r o = turnS σ r o := by
  unfold turnS
  rw [h.1, h.2.2 3 _ (by decide) (by decide), h.2.2 4 _ (by decide) (by decide), h.2.2 5 _ (by decide) (by decide)]
theorem sayR_sm {σ σ' : Sg} (h : SmS σ σ') (r : List Nat) : ∀ o, sayR σ' r o = sayR σ r o := by
  induction r with
  | nil => intro o; rfl
  | cons a r ih =>
    intro o
    show sayR σ' r (turnS σ' a o) = sayR σ r (turnS σ a o)
    rw [ih, turnS_sm h]
theorem saidS_sm {σ σ' : Sg} (h : SmS σ σ') {r : List Nat} : saidS σ' r = saidS σ r := by
  funext w
  unfold saidS
  rw [sayR_sm h]
  congr 2
  unfold wl
  rw [h.2.2 1 _ (by decide) (by decide)]
  exact List.map_congr_left (fun k _ => h.2.2 _ _ (by omega) (by omega))
theorem fctV_sm {σ σ' : Sg} (h : SmS σ σ') {r : List Nat} {w : Nat} {xs : List Nat} : fctV σ' r w xs = fctV σ r w xs := by
  funext k
  unfold fctV
  rw [h.1]
  split
  · rfl
  · rfl
  · rfl
  · split
    · rfl
    · rw [h.2.2 5 _ (by decide) (by decide)]
  · rfl
  · rw [h.2.2 2 _ (by decide) (by decide)]
theorem hardV_sm {σ σ' : Sg} (h : SmS σ σ') {r : List Nat} {v : Int32} : hardV σ' r v = hardV σ r v := by
  unfold hardV
  split
  · rfl
  · rw [h.2.2 3 _ (by decide) (by decide), h.2.2 5 _ (by decide) (by decide)]
theorem worthW_sm {σ σ' : Sg} (h : SmS σ σ') {r : List Nat} {n : Nat} {f : Nat → Option (List Nat)} {τ : Nat → (Nat → Int32) → Int32} (w : Nat) : worthW σ' r n f τ w = worthW σ r n f τ w := by
  induction w with
  | zero => rw [worthW, worthW]
  | succ w ih =>
    cases hf : f w with
    | none => rw [worthW_none hf, worthW_none hf, ih]
    | some xs => rw [worthW_some hf, worthW_some hf, ih, fctV_sm h, hardV_sm h]
theorem wthO_sm {Ω : OM} {σ' : Sg} {r : List Nat} {t : Nat} (h : SmS (oG Ω) σ') : wthO (uG Ω σ') t r = wthO Ω t r := by
  show worthW σ' r (σ' 0 1) (saidS σ' r) (oV Ω t) (σ' 0 1) = _
  rw [h.2.1, saidS_sm h, worthW_sm h]
  rfl
theorem SmS.lw {σ : Sg} {v : Nat} : SmS σ (sU σ 0 4 v) := ⟨sU_n (Or.inr (by decide)), sU_n (Or.inr (by decide)), fun a k h0 _ => sU_o h0⟩
theorem rowL_lw {σ : Sg} {v : Nat} : rowL (sU σ 0 4 v) = rowL σ := by
  unfold rowL
  rw [sU_n (Or.inr (by decide))]
  exact List.map_congr_left (fun k _ => sU_o (by decide))
theorem WF.lw {σ : Sg} {v : Nat} (h : WF σ) (hv : v < 6) : WF (sU σ 0 4 v) := by
  obtain ⟨a1, a2, a3, a4, a5, a6, a7, a8⟩ := h
  have e0 : ∀ k, k ≠ 4 → sU σ 0 4 v 0 k = σ 0 k := fun k hk => sU_n (Or.inr hk)
  have e : ∀ a k, a ≠ 0 → sU σ 0 4 v a k = σ a k := fun a k h0 => sU_o h0
  refine ⟨by rw [e0 0 (by decide)]; exact a1, by rw [e0 1 (by decide)]; exact a2, by rw [e0 2 (by decide)]; exact a3, by rw [e0 3 (by decide)]; exact a4, by rw [sU_t]; exact hv, fun w hw => ?_, fun r hr2 => ?_, fun i hi => ?_⟩
  · rw [e0 1 (by decide)] at hw
    rw [e 1 w (by decide), e 2 w (by decide)]
    obtain ⟨b1, b2, b3, b4⟩ := a6 w hw
    exact ⟨b1, b2, b3, fun k hk => by rw [e (10 + w) k (by omega)]; exact b4 k hk⟩
  · rw [e0 2 (by decide)] at hr2
    rw [e 3 r (by decide), e 4 r (by decide), e 5 r (by decide)]
    exact a7 r hr2
  · rw [e0 3 (by decide)] at hi
    rw [e 6 i (by decide), e0 2 (by decide)]
    exact a8 i hi
theorem FrW.rf {m : Mem} : FrW m m := ⟨fun _ _ _ _ _ _ _ _ => rfl, fun _ _ => rfl⟩
theorem FrW.l {m m1 : Mem} {x y : Int32} (h : FrW (mUp m 243 14 x) m1) : FrW (mUp m 243 14 y) (mUp m1 243 14 y) := by
  refine ⟨fun a h1 h2 h3 h4 h5 h6 h7 => ?_, fun k hk => ?_⟩
  · rw [mUp_a h1, mUp_a h1, h.1 a h1 h2 h3 h4 h5 h6 h7, mUp_a h1]
  · by_cases e : k = 14
    · subst e; rw [mUp_s, mUp_s]
    · rw [mUp_n (Or.inr e), mUp_n (Or.inr e), h.2 k hk, mUp_n (Or.inr e)]
section
variable {l : Launch} {X : XT} {d : Nat} {m : Mem} {Ω : OM}
theorem M_alikeTexts (hd : 7 ≤ d) (hW : WO Ω) (hI : InvM m Ω) : Meth l X d M_X11_alikeTexts [vR 12 243] m (fun r m' => ∃ x, r = some (vI x) ∧ alTR Ω x ∧ FrM m m') := by
  obtain ⟨d, rfl⟩ : ∃ e, d = e + 1 := ⟨d - 1, by omega⟩
  have hQ6 := hW.2.2.2.1
  refine E_X11_alikeTexts (ls := [vR 12 243, vU, vU, vU, vU]) rfl rfl ?_
  repeat refine AW.s rfl ?_
  try dsimp only [List.set_cons_zero, List.set_cons_succ, Option.toList_some, Option.toList_none, List.cons_append, List.nil_append]
  refine AW.V k_11_272 ((M_worthNow (by omega) hW hI)) rfl rfl rfl rfl rfl rfl (fun r1 m9 hq => ?_)
  obtain ⟨rfl, f9⟩ := hq
  have hI9 := hI.fr f9.M
  have e14 : m 243 14 = m9 243 14 := (f9.2 14 (by decide)).symm
  rw [e14]
  repeat refine AW.u 15 rfl rfl ?_
  try dsimp only [List.set_cons_zero, List.set_cons_succ, Option.toList_some, Option.toList_none, List.cons_append, List.nil_append]
  refine AW.loop (pc := 15) (σ := Int32) (oQ Ω) (fun i x => [vR 12 243, vI (m9 243 14), vI (wthO Ω ((oG Ω) 0 4) (rowL (oG Ω))), vI x, vI (nI i)]) (fun i x mm => (∃ y, FrW (mUp m9 243 14 y) mm) ∧ isBits x (fun t => t < i ∧ wthO Ω t (rowL (oG Ω)) = wthO Ω ((oG Ω) 0 4) (rowL (oG Ω)))) (fun i x mm hi hmm ih => ?_) 0 0 m9 (Nat.zero_le _) ⟨⟨m9 243 14, by rw [mUp_e rfl]; exact FrW.rf⟩, isBits.zero.to (fun b => ⟨fun q => absurd q id, fun q => absurd q.1 (by omega)⟩)⟩
  obtain ⟨⟨y, hf⟩, g3⟩ := hmm
  repeat refine AW.s rfl ?_
  try dsimp only [List.set_cons_zero, List.set_cons_succ, Option.toList_some, Option.toList_none, List.cons_append, List.nil_append]
  rw [show mm 243 13 = nI (oQ Ω) by rw [hf.2 13 (by decide), mUp_n (Or.inr (by decide))]; exact hI9.2.2.2.1]
  refine AW.b rfl (fun hc => ?_) (fun hc => ?_)
  · have hlt : i < oQ Ω := (nI_ltI (by omega) (by omega)).mp hc
    have f2 : FrW (mUp m9 243 14 (nI i)) (mUp mm 243 14 (nI i)) := hf.l
    have hR : RepM (mUp mm 243 14 (nI i)) (sU (oG Ω) 0 4 i) := (hI9.1.v4 (v := i)).W f2
    repeat refine AW.s rfl ?_
    try dsimp only [List.set_cons_zero, List.set_cons_succ, Option.toList_some, Option.toList_none, List.cons_append, List.nil_append]
    have hT : ∀ t, t < oQ Ω → ∀ p, p < 3 → ∃ cs, MOK (mUp mm 243 14 (nI i)) (3 * t + p) cs ∧ ∀ F, clI (mvl F cs) = oV Ω t p F := by
      intro t ht p hp
      obtain ⟨cs, c1, c2⟩ := hI9.2.2.2.2.1 t ht p hp
      exact ⟨cs, c1.fr (by rw [f2.1 252 (by decide) (by decide) (by decide) (by decide) (by decide) (by decide) (by decide), mUp_a (by decide)]) (by rw [f2.1 253 (by decide) (by decide) (by decide) (by decide) (by decide) (by decide) (by decide), mUp_a (by decide)]), c2⟩
    refine AW.V k_11_272 ((M_worth (Ω := Ω) (σ := sU (oG Ω) 0 4 i) (by omega) hR (hW.1.lw (by omega)) (by rw [sU_t]; exact hlt) hT)) rfl rfl rfl rfl rfl rfl (fun r1 m5 hq => ?_)
    rw [sU_t, rowL_lw, wthO_sm SmS.lw] at hq
    obtain ⟨rfl, f5⟩ := hq
    have f6 := f2.tr f5
    repeat refine AW.s rfl ?_
    try dsimp only [List.set_cons_zero, List.set_cons_succ, Option.toList_some, Option.toList_none, List.cons_append, List.nil_append]
    refine AW.b rfl (fun hc => ?_) (fun hc => ?_)
    · have e := hc
      repeat refine AW.u 15 rfl rfl ?_
      try dsimp only [List.set_cons_zero, List.set_cons_succ, Option.toList_some, Option.toList_none, List.cons_append, List.nil_append]
      rw [nI_1]
      refine ih _ _ hlt ⟨⟨_, f6⟩, (g3.or (k := i) (by omega)).to (fun r => ⟨fun q => ?_, fun q => ?_⟩)⟩
      · rcases q with q | rfl
        · exact ⟨by omega, q.2⟩
        · exact ⟨by omega, e⟩
      · by_cases e2 : r = i
        · exact Or.inr e2
        · exact Or.inl ⟨by omega, q.2⟩
    · have e := hc
      repeat refine AW.u 15 rfl rfl ?_
      try dsimp only [List.set_cons_zero, List.set_cons_succ, Option.toList_some, Option.toList_none, List.cons_append, List.nil_append]
      rw [nI_1, show x ||| 0 = x by simp]
      refine ih _ _ hlt ⟨⟨_, f6⟩, g3.to (fun r => ⟨fun q => ⟨by omega, q.2⟩, fun q => ?_⟩)⟩
      by_cases e2 : r = i
      · subst e2; exact absurd q.2 e
      · exact ⟨by omega, q.2⟩
  · have : i = oQ Ω := by
      have : ¬ i < oQ Ω := fun q => hc ((nI_ltI (by omega) (by omega)).mpr q)
      omega
    subst this
    have f7 : FrW m9 (mUp mm 243 14 (m9 243 14)) := by
      have := hf.l (y := m9 243 14)
      rw [mUp_e (m := m9) rfl] at this
      exact this
    repeat refine AW.s rfl ?_
    try dsimp only [List.set_cons_zero, List.set_cons_succ, Option.toList_some, Option.toList_none, List.cons_append, List.nil_append]
    exact AW.ri rfl rfl rfl ⟨_, rfl, g3, f9.M.tr f7.M⟩
theorem M_film {a b : Int32} (hd : 7 ≤ d) (hW : WO Ω) (hI : InvM m Ω) : Meth l X d M_X11_film [vR 12 243, vI a, vI b] m (fun r m' => r = some (vI (filmF Ω a b).1) ∧ InvM m' (filmF Ω a b).2 ∧ KM m m') := by
  obtain ⟨d, rfl⟩ : ∃ e, d = e + 1 := ⟨d - 1, by omega⟩
  have h1 := hW.1.2.1
  have hbad : filmF Ω a b = (-2, Ω) → AW (GM l X (d + 1) M_X11_film (fun r m' => r = some (vI (filmF Ω a b).1) ∧ InvM m' (filmF Ω a b).2 ∧ KM m m')) 15 [vR 12 243, vI a, vI b, vU] [] m := by
    intro e0
    rw [e0]
    repeat refine AW.s rfl ?_
    try dsimp only [List.set_cons_zero, List.set_cons_succ, Option.toList_some, Option.toList_none, List.cons_append, List.nil_append]
    exact AW.ri rfl rfl rfl ⟨rfl, hI, KM.rf⟩
  refine E_X11_film (ls := [vR 12 243, vI a, vI b, vU]) rfl rfl ?_
  repeat refine AW.s rfl ?_
  try dsimp only [List.set_cons_zero, List.set_cons_succ, Option.toList_some, Option.toList_none, List.cons_append, List.nil_append]
  refine AW.S k_11_14 ((c_MisSheet (by omega))) rfl rfl rfl rfl (fun r1 m9 hq => ?_)
  obtain ⟨rfl, hm9⟩ := hq
  rw [hm9]
  try dsimp only [List.set_cons_zero, List.set_cons_succ, Option.toList_some, Option.toList_none, List.cons_append, List.nil_append]
  by_cases q1 : wB a 3 = 1
  · rw [q1]
    refine AW.b rfl (fun hc => ?_) (fun hc => ?_)
    · exact absurd hc (by decide)
    · repeat refine AW.s rfl ?_
      try dsimp only [List.set_cons_zero, List.set_cons_succ, Option.toList_some, Option.toList_none, List.cons_append, List.nil_append]
      refine AW.V k_11_58 ((c_Mword (by omega) hI.1 hW.1)) rfl rfl rfl rfl rfl rfl (fun r1 m8 hq => ?_)
      obtain ⟨rfl, hm8⟩ := hq
      rw [hm8]
      try dsimp only [List.set_cons_zero, List.set_cons_succ, Option.toList_some, Option.toList_none, List.cons_append, List.nil_append]
      by_cases q2 : hB b ((oG Ω) 0 1) = 1
      · rw [q2]
        obtain ⟨i, hi, rfl⟩ := (wB_1 (n := 3) (by decide)).mp q1
        obtain ⟨w, hw, rfl⟩ := (hB_1 (by omega)).mp q2
        have e0 : filmF Ω (nI i) (nI w) = (match saidS (oG Ω) (rowL (oG Ω)) w with
          | none => (-3, Ω)
          | some xs => (nI xs.length, uS Ω i 0 xs.length (sayI xs))) := by
          unfold filmF
          rw [cif_t ⟨q1, q2⟩, nI_clamp (by omega), nI_clamp (by omega)]
          rfl
        rw [e0]
        have hwo := saidS_wf hW.1 (rowL_wf hW.1) hw
        refine AW.b rfl (fun hc => ?_) (fun hc => ?_)
        · exact absurd (show (1 : Int32) = 0 from hc) (by decide)
        · repeat refine AW.s rfl ?_
          try dsimp only [List.set_cons_zero, List.set_cons_succ, Option.toList_some, Option.toList_none, List.cons_append, List.nil_append]
          refine AW.V k_11_238 ((c_Msay (by omega) hI.1 hW.1 hw)) rfl rfl rfl rfl rfl rfl (fun r1 m7 hq => ?_)
          obtain ⟨rfl, p1, f7, -⟩ := hq
          have hI7 := hI.fr f7.M
          repeat refine AW.s rfl ?_
          try dsimp only [List.set_cons_zero, List.set_cons_succ, Option.toList_some, Option.toList_none, List.cons_append, List.nil_append]
          refine AW.c rfl (vp_in_nI (by omega) (by decide)) ?_
          try dsimp only [List.set_cons_zero, List.set_cons_succ, Option.toList_some, Option.toList_none, List.cons_append, List.nil_append]
          rw [nI_clamp (by omega)]
          cases hoo : saidS (oG Ω) (rowL (oG Ω)) w with
          | none =>
            rw [hoo] at p1
            rw [show m7 (243 + 18) w = -3 from p1]
            repeat refine AW.s rfl ?_
            try dsimp only [List.set_cons_zero, List.set_cons_succ, Option.toList_some, Option.toList_none, List.cons_append, List.nil_append]
            refine AW.b rfl (fun hc => ?_) (fun hc => ?_)
            · repeat refine AW.s rfl ?_
              try dsimp only [List.set_cons_zero, List.set_cons_succ, Option.toList_some, Option.toList_none, List.cons_append, List.nil_append]
              exact AW.ri rfl rfl rfl ⟨rfl, hI7, f7.M.K⟩
            · exact absurd rfl hc
          | some xs =>
            rw [hoo] at p1 hwo
            obtain ⟨a1, a2, a3⟩ := hwo xs rfl
            rw [show m7 (243 + 18) w = nI xs.length from p1.1]
            repeat refine AW.s rfl ?_
            try dsimp only [List.set_cons_zero, List.set_cons_succ, Option.toList_some, Option.toList_none, List.cons_append, List.nil_append]
            refine AW.b rfl (fun hc => ?_) (fun hc => ?_)
            · exact absurd (by rw [← hc]; exact nI_pos (by omega) : ¬ (-3 : Int32) < 0) (by decide)
            · repeat refine AW.s rfl ?_
              try dsimp only [List.set_cons_zero, List.set_cons_succ, Option.toList_some, Option.toList_none, List.cons_append, List.nil_append]
              refine AW.c rfl (vp_in_nI (by omega) (by decide)) ?_
              try dsimp only [List.set_cons_zero, List.set_cons_succ, Option.toList_some, Option.toList_none, List.cons_append, List.nil_append]
              rw [nI_clamp (by omega), show m7 (243 + 18) w = nI xs.length from p1.1]
              have eS : sheetF Ω (nI i) 0 (nI xs.length) = (1, uS Ω i 0 xs.length (fun _ => 0)) := by
                unfold sheetF
                rw [cif_t ⟨q1, by decide, by decide⟩, cif_f (by decide), cif_f (show ¬ (40 : Int32) < nI xs.length from fun q => absurd ((nI_ltI (a := 40) (b := xs.length) (by decide) (by omega)).mp q) (by omega)), cif_f (nI_pos (by omega)), nI_clamp (by omega), nI_clamp (by omega)]
              repeat refine AW.s rfl ?_
              try dsimp only [List.set_cons_zero, List.set_cons_succ, Option.toList_some, Option.toList_none, List.cons_append, List.nil_append]
              refine AW.V k_11_299 ((M_sheet' (a := nI i) (s := 0) (n := nI xs.length) (by omega) hW hI7)) rfl rfl rfl rfl rfl rfl (fun r1 m6 hq => ?_)
              rw [eS] at hq
              obtain ⟨rfl, hI6, hK6, f6⟩ := hq
              have hI6 : InvM m6 (uS Ω i 0 xs.length (fun _ => 0)) := hI6
              obtain ⟨z1, z2, -⟩ := hI6.2.2.2.2.2.2.2.1 i (by omega)
              have z1 : m6 266 i = 0 := by
                rw [z1]; unfold oS uS; simp
              have z2 : m6 267 i = nI xs.length := by
                rw [z2]; unfold oZ uS; simp
              repeat refine AW.u 52 rfl rfl ?_
              try dsimp only [List.set_cons_zero, List.set_cons_succ, Option.toList_some, Option.toList_none, List.cons_append, List.nil_append]
              refine AW.loop (pc := 52) (σ := Unit) xs.length (fun k _ => [vR 12 243, vI (nI i), vI (nI w), vI (nI k)]) (fun k _ mm => (∀ q, q ≠ 268 → mm q = m6 q) ∧ (∀ j, j < k → mm 268 (40 * i + j) = sayI xs j) ∧ ∀ q, (q < 40 * i ∨ 40 * i + 40 ≤ q) → mm 268 q = m6 268 q) (fun k _ mm hk hmm ih => ?_) 0 () m6 (Nat.zero_le _) ⟨fun _ _ => rfl, fun j hj => absurd hj (by omega), fun _ _ => rfl⟩
              obtain ⟨g1, g2, g3⟩ := hmm
              have l1 : mm 261 w = nI xs.length := by rw [g1 261 (by decide), f6 261 (by decide) (by decide) (by decide)]; exact p1.1
              repeat refine AW.s rfl ?_
              try dsimp only [List.set_cons_zero, List.set_cons_succ, Option.toList_some, Option.toList_none, List.cons_append, List.nil_append]
              refine AW.c rfl (vp_in_nI (by omega) (by decide)) ?_
              try dsimp only [List.set_cons_zero, List.set_cons_succ, Option.toList_some, Option.toList_none, List.cons_append, List.nil_append]
              rw [nI_clamp (by omega), show mm (243 + 18) w = nI xs.length from l1]
              refine AW.b rfl (fun hc => ?_) (fun hc => ?_)
              · have hlt : k < xs.length := (nI_ltI (by omega) (by omega)).mp hc
                repeat refine AW.s rfl ?_
                try dsimp only [List.set_cons_zero, List.set_cons_succ, Option.toList_some, Option.toList_none, List.cons_append, List.nil_append]
                rw [show (40 : Int32) * nI i = nI (40 * i) from pk_mul 40 i, show (40 : Int32) * nI w = nI (40 * w) from pk_mul 40 w, nI_add, nI_add]
                refine AW.c rfl (vp_in_nI (by omega) (by decide)) ?_
                try dsimp only [List.set_cons_zero, List.set_cons_succ, Option.toList_some, Option.toList_none, List.cons_append, List.nil_append]
                rw [nI_clamp (by omega), show mm (243 + 17) (40 * w + k) = sayI xs k by
                  rw [show (243 + 17 : Nat) = 260 from rfl, g1 260 (by decide), f6 260 (by decide) (by decide) (by decide), p1.2 k _ (List.getElem?_eq_getElem hlt)]
                  unfold sayI
                  rw [List.getElem?_eq_getElem hlt]]
                refine AW.c rfl (⟨vp_in_nI (by omega) (by decide), fun z => absurd z (by decide)⟩) ?_
                try dsimp only [List.set_cons_zero, List.set_cons_succ, Option.toList_some, Option.toList_none, List.cons_append, List.nil_append]
                rw [nI_clamp (by omega)]
                repeat refine AW.u 52 rfl rfl ?_
                try dsimp only [List.set_cons_zero, List.set_cons_succ, Option.toList_some, Option.toList_none, List.cons_append, List.nil_append]
                rw [nI_1]
                refine ih () _ hlt ⟨fun q hq => by rw [mUp_a hq]; exact g1 q hq, fun j hj => ?_, fun q hq => by rw [mUp_n (Or.inr (by omega))]; exact g3 q hq⟩
                by_cases e : j = k
                · subst e; exact mUp_s _ _ _ _
                · rw [mUp_n (Or.inr (by omega))]; exact g2 j (by omega)
              · have : k = xs.length := by
                  have : ¬ k < xs.length := fun q => hc ((nI_ltI (by omega) (by omega)).mpr q)
                  omega
                subst this
                repeat refine AW.s rfl ?_
                try dsimp only [List.set_cons_zero, List.set_cons_succ, Option.toList_some, Option.toList_none, List.cons_append, List.nil_append]
                refine AW.c rfl (vp_in_nI (by omega) (by decide)) ?_
                try dsimp only [List.set_cons_zero, List.set_cons_succ, Option.toList_some, Option.toList_none, List.cons_append, List.nil_append]
                rw [nI_clamp (by omega), show mm (243 + 18) w = nI xs.length from l1]
                repeat refine AW.s rfl ?_
                try dsimp only [List.set_cons_zero, List.set_cons_succ, Option.toList_some, Option.toList_none, List.cons_append, List.nil_append]
                refine AW.ri rfl rfl rfl ⟨rfl, ?_, ?_⟩
                · have hu : ∀ j, j < 4 → j ≠ i → mm 266 j = m7 266 j ∧ mm 267 j = m7 267 j := by
                    intro j hj e
                    obtain ⟨y1, y2, -⟩ := hI6.2.2.2.2.2.2.2.1 j hj
                    obtain ⟨x1, x2, -⟩ := hI7.2.2.2.2.2.2.2.1 j hj
                    rw [g1 266 (by decide), g1 267 (by decide), y1, y2, x1, x2]
                    unfold oS oZ uS
                    simp only [e, if_false]
                    exact ⟨trivial, trivial⟩
                  obtain ⟨j1, j2, j3, j4, j5, j6, j7, j8, j9, j10⟩ := hI6
                  refine ⟨j1.fr (by rw [g1 243 (by decide)]) (by rw [g1 243 (by decide)]) (by rw [g1 243 (by decide)]) (by rw [g1 243 (by decide)]) (by rw [g1 243 (by decide)]) (fun q x1 x2 => g1 q (by omega)), by rw [g1 243 (by decide)]; exact j2, fun kk => (j3 kk).fr (g1 265 (by decide)), by rw [g1 243 (by decide)]; exact j4, fun t ht p hp => ?_, by rw [g1 243 (by decide)]; exact j6, by rw [g1 251 (by decide)]; exact j7, fun j hj => ?_, by rw [g1 254 (by decide)]; exact j9, by rw [g1 255 (by decide)]; exact j10⟩
                  · obtain ⟨cs, c1, c2⟩ := j5 t ht p hp
                    exact ⟨cs, c1.fr (g1 252 (by decide)) (g1 253 (by decide)), c2⟩
                  · unfold oS oZ oI uS
                    by_cases e : j = i
                    · subst e
                      simp only [if_true]
                      exact ⟨by rw [g1 266 (by decide)]; exact z1, by rw [g1 267 (by decide)]; exact z2, g2⟩
                    · simp only [e, if_false]
                      obtain ⟨x1, x2, x3⟩ := j8 j hj
                      unfold oS uS at x1
                      unfold oZ uS at x2
                      unfold oZ oI uS at x3
                      simp only [e, if_false] at x1 x2 x3
                      have hz := (hW.2.2.2.2.2.2 j hj).le
                      unfold oZ at hz
                      refine ⟨by rw [g1 266 (by decide)]; exact x1, by rw [g1 267 (by decide)]; exact x2, fun k hk => ?_⟩
                      have hk : k < (Ω.2.2.1 j).2.1 := hk
                      rw [g3 _ (by omega)]
                      exact x3 k hk
                · intro q hq
                  rw [g1 q (by omega), hK6 q hq]
                  exact f7.M.K q hq
      · rw [hB_0 q2]
        refine AW.b rfl (fun hc => ?_) (fun hc => ?_)
        · exact hbad (by unfold filmF; rw [cif_f (fun q => q2 q.2)])
        · exact absurd rfl hc
  · rw [wB_0 q1]
    refine AW.b rfl (fun hc => ?_) (fun hc => ?_)
    · exact hbad (by unfold filmF; rw [cif_f (fun q => q1 q.1)])
    · exact absurd rfl hc
end

-- ===== another row in the model: leave, order, drawn =====
/-- the state with another row -/
def rwS (σ : Sg) (rw : List Nat) : Sg := fun a k => if a = 6 then rw.getD k 0 else if a = 0 ∧ k = 3 then rw.length else σ a k
theorem rwS_o {σ : Sg} {rw : List Nat} {a k : Nat} (h6 : a ≠ 6) (h : a ≠ 0 ∨ k ≠ 3) : rwS σ rw a k = σ a k := by
  unfold rwS
  rw [if_neg h6, if_neg (fun q => h.elim (fun z => z q.1) (fun z => z q.2))]
theorem rwS_n {σ : Sg} {rw : List Nat} : rwS σ rw 0 3 = rw.length := by unfold rwS; rw [if_neg (by decide), if_pos ⟨rfl, rfl⟩]
theorem rwS_r {σ : Sg} {rw : List Nat} {k : Nat} : rwS σ rw 6 k = rw.getD k 0 := if_pos rfl
theorem rowL_rw {σ : Sg} {rw : List Nat} : rowL (rwS σ rw) = rw := by
  apply List.ext_getElem?
  intro k
  unfold rowL
  rw [rwS_n]
  by_cases hk : k < rw.length
  · rw [List.getElem?_map, List.getElem?_range hk]
    show some (rwS σ rw 6 k) = _
    rw [rwS_r, List.getD_eq_getElem?_getD, List.getElem?_eq_getElem hk]
    rfl
  · rw [List.getElem?_eq_none (by simp; omega), List.getElem?_eq_none (by omega)]
theorem rwS_wf {σ : Sg} {rw : List Nat} (h : WF σ) (hr : WFr σ rw) : WF (rwS σ rw) := by
  obtain ⟨a1, a2, a3, a4, a5, a6, a7, a8⟩ := h
  have e0 : ∀ k, k ≠ 3 → rwS σ rw 0 k = σ 0 k := fun k hk => rwS_o (by decide) (Or.inr hk)
  have e : ∀ a k, a ≠ 0 → a ≠ 6 → rwS σ rw a k = σ a k := fun a k h0 h6 => rwS_o h6 (Or.inl h0)
  refine ⟨by rw [e0 0 (by decide)]; exact a1, by rw [e0 1 (by decide)]; exact a2, by rw [e0 2 (by decide)]; exact a3, by rw [rwS_n]; exact hr.1, by rw [e0 4 (by decide)]; exact a5, fun w hw => ?_, fun r hr2 => ?_, fun i hi => ?_⟩
  · rw [e0 1 (by decide)] at hw
    rw [e 1 w (by decide) (by decide), e 2 w (by decide) (by decide)]
    obtain ⟨b1, b2, b3, b4⟩ := a6 w hw
    exact ⟨b1, b2, b3, fun k hk => by rw [e (10 + w) k (by omega) (by omega)]; exact b4 k hk⟩
  · rw [e0 2 (by decide)] at hr2
    rw [e 3 r (by decide) (by decide), e 4 r (by decide) (by decide), e 5 r (by decide) (by decide)]
    exact a7 r hr2
  · rw [rwS_n] at hi
    rw [rwS_r, e0 2 (by decide), List.getD_eq_getElem?_getD, List.getElem?_eq_getElem hi]
    exact hr.2 _ (List.getElem_mem hi)
theorem turnS_rw {σ : Sg} {rw : List Nat} {r : Nat} {o : Option (List Nat)} : turnS (rwS σ rw) r o = turnS σ r o := by
  unfold turnS
  rw [rwS_o (by decide) (Or.inr (by decide)), rwS_o (a := 3) (by decide) (Or.inl (by decide)), rwS_o (a := 4) (by decide) (Or.inl (by decide)), rwS_o (a := 5) (by decide) (Or.inl (by decide))]
theorem sayR_rw {σ : Sg} {rw : List Nat} (r : List Nat) : ∀ o, sayR (rwS σ rw) r o = sayR σ r o := by
  induction r with
  | nil => intro o; rfl
  | cons a r ih =>
    intro o
    show sayR (rwS σ rw) r (turnS (rwS σ rw) a o) = sayR σ r (turnS σ a o)
    rw [ih, turnS_rw]
theorem saidS_rw {σ : Sg} {rw r : List Nat} : saidS (rwS σ rw) r = saidS σ r := by
  funext w
  unfold saidS
  rw [sayR_rw]
  congr 2
  unfold wl
  rw [rwS_o (by decide) (Or.inl (by decide))]
  exact List.map_congr_left (fun k _ => rwS_o (by omega) (Or.inl (by omega)))
theorem fctV_rw {σ : Sg} {rw r : List Nat} {w : Nat} {xs : List Nat} : fctV (rwS σ rw) r w xs = fctV σ r w xs := by
  funext k
  have e5 : ∀ q, rwS σ rw 5 q = σ 5 q := fun q => rwS_o (by decide) (Or.inl (by decide))
  have e2 : ∀ q, rwS σ rw 2 q = σ 2 q := fun q => rwS_o (by decide) (Or.inl (by decide))
  have e0 : rwS σ rw 0 0 = σ 0 0 := rwS_o (by decide) (Or.inr (by decide))
  unfold fctV
  rw [e0]
  split
  · rfl
  · rfl
  · rfl
  · split
    · rfl
    · rw [e5]
  · rfl
  · rw [e2]
theorem hardV_rw {σ : Sg} {rw r : List Nat} {v : Int32} : hardV (rwS σ rw) r v = hardV σ r v := by
  unfold hardV
  split
  · rfl
  · rw [rwS_o (a := 3) (by decide) (Or.inl (by decide)), rwS_o (a := 5) (by decide) (Or.inl (by decide))]
theorem worthW_rw {σ : Sg} {rw r : List Nat} {n : Nat} {f : Nat → Option (List Nat)} {τ : Nat → (Nat → Int32) → Int32} (w : Nat) : worthW (rwS σ rw) r n f τ w = worthW σ r n f τ w := by
  induction w with
  | zero => rw [worthW, worthW]
  | succ w ih =>
    cases h : f w with
    | none => rw [worthW_none h, worthW_none h, ih]
    | some xs => rw [worthW_some h, worthW_some h, ih, fctV_rw, hardV_rw]
theorem wthO_rw {Ω : OM} {rw r : List Nat} {t : Nat} : wthO (uG Ω (rwS (oG Ω) rw)) t r = wthO Ω t r := by
  have e1 : (rwS (oG Ω) rw) 0 1 = (oG Ω) 0 1 := rwS_o (by decide) (Or.inr (by decide))
  show worthW (rwS (oG Ω) rw) r ((rwS (oG Ω) rw) 0 1) (saidS (rwS (oG Ω) rw) r) (oV Ω t) ((rwS (oG Ω) rw) 0 1) = _
  rw [e1, saidS_rw, worthW_rw]
  rfl
/-- since layBy: what was laid by lies there; all else but the row is as it was -/
def LD (m m1 : Mem) : Prop := m1 243 38 = m 243 9 ∧ (∀ k, k < 8 → m1 264 k = m 250 k) ∧ (∀ a, (a < 243 ∨ (244 ≤ a ∧ a ≤ 255 ∧ a ≠ 250) ∨ (265 ≤ a ∧ a ≤ 268)) → m1 a = m a) ∧ ∀ k, ((k ≤ 14 ∧ k ≠ 9) ∨ k = 39) → m1 243 k = m 243 k
theorem LD.W {m m1 m2 : Mem} (h : LD m m1) (hf : FrW m1 m2) : LD m m2 := by
  obtain ⟨h1, h2, h3, h4⟩ := h
  exact ⟨by rw [hf.2 38 (by decide)]; exact h1, fun k hk => by rw [hf.1 264 (by decide) (by decide) (by decide) (by decide) (by decide) (by decide) (by decide)]; exact h2 k hk, fun a ha => by rw [hf.1 a (by omega) (by omega) (by omega) (by omega) (by omega) (by omega) (by omega)]; exact h3 a ha, fun k hk => by rw [hf.2 k (by omega)]; exact h4 k hk⟩
/-- row and its length are written -/
theorem LD.r {m m1 m2 : Mem} (h : LD m m1) (hf : ∀ a, a ≠ 243 → a ≠ 250 → m2 a = m1 a) (h0 : ∀ k, k ≠ 9 → m2 243 k = m1 243 k) : LD m m2 := by
  obtain ⟨h1, h2, h3, h4⟩ := h
  exact ⟨by rw [h0 38 (by decide)]; exact h1, fun k hk => by rw [hf 264 (by decide) (by decide)]; exact h2 k hk, fun a ha => by rw [hf a (by omega) (by omega)]; exact h3 a ha, fun k hk => by rw [h0 k (by omega)]; exact h4 k hk⟩
theorem LD.rep {m m1 : Mem} {σ : Sg} {rw : List Nat} (h : LD m m1) (hs : RepM m σ) (hn : m1 243 9 = nI rw.length) (hr : RLn (m1 250) rw) : RepM m1 (rwS σ rw) := by
  obtain ⟨-, -, h3, h4⟩ := h
  obtain ⟨a1, a2, a3, a4, a5, a6, a7, a8⟩ := hs
  have e0 : ∀ k, k ≠ 3 → rwS σ rw 0 k = σ 0 k := fun k hk => rwS_o (by decide) (Or.inr hk)
  have e : ∀ a k, a ≠ 0 → a ≠ 6 → rwS σ rw a k = σ a k := fun a k h0 h6 => rwS_o h6 (Or.inl h0)
  refine ⟨by rw [h4 0 (by omega), e0 0 (by decide)]; exact a1, by rw [h4 1 (by omega), e0 1 (by decide)]; exact a2, by rw [h4 5 (by omega), e0 2 (by decide)]; exact a3, by rw [rwS_n]; exact hn, by rw [h4 14 (by omega), e0 4 (by decide)]; exact a5, fun w hw => ?_, fun r hr2 => ?_, fun i hi => ?_⟩
  · rw [e0 1 (by decide)] at hw
    rw [h3 245 (by omega), h3 246 (by omega), h3 244 (by omega), e 1 w (by decide) (by decide), e 2 w (by decide) (by decide)]
    obtain ⟨x1, x2, x3⟩ := a6 w hw
    exact ⟨x1, x2, fun k hk => by rw [e (10 + w) k (by omega) (by omega)]; exact x3 k hk⟩
  · rw [e0 2 (by decide)] at hr2
    rw [h3 247 (by omega), h3 248 (by omega), h3 249 (by omega), e 3 r (by decide) (by decide), e 4 r (by decide) (by decide), e 5 r (by decide) (by decide)]
    exact a7 r hr2
  · rw [rwS_n] at hi
    rw [rwS_r, List.getD_eq_getElem?_getD, List.getElem?_eq_getElem hi]
    exact hr i _ (List.getElem?_eq_getElem hi)
section
variable {l : Launch} {X : XT} {d : Nat} {m : Mem} {Ω : OM}
/-- the laid row, as a list -/
theorem LD.laid {m1 : Mem} (h : LD m m1) (hs : RepM m (oG Ω)) (hσ : WF (oG Ω)) : m1 243 38 = nI ((oG Ω) 0 3) ∧ ∀ k x, (rowL (oG Ω))[k]? = some x → m1 264 k = nI x := by
  have h3 := hσ.2.2.2.1
  refine ⟨by rw [h.1]; exact hs.2.2.2.1, fun k x hk => ?_⟩
  have hk2 := (List.getElem?_eq_some_iff.mp hk).1
  rw [rowL_len] at hk2
  rw [h.2.1 k (by omega), hs.2.2.2.2.2.2.2 k hk2]
  simp [rowL, List.getElem?_range hk2] at hk
  rw [hk]
theorem c_MlayBy' (hI : InvM m Ω) : Meth l X d M_X11_layBy [vR 12 243] m (fun r m' => r = none ∧ LD m m' ∧ m' 243 9 = m 243 9 ∧ m' 250 = m 250) := by
  refine c_MlayBy.post (fun r m' hq => ?_)
  obtain ⟨h1, h2, h3, h4, h5⟩ := hq
  exact ⟨h1, ⟨h2, h3, fun a ha => h5 a (by omega) (by omega), fun k hk => h4 k (by omega)⟩, h4 9 (by decide), h5 250 (by decide) (by decide)⟩
theorem c_MlayBack' {m1 : Mem} (hW : WO Ω) (hI : InvM m Ω) (h : LD m m1) : Meth l X d M_X11_layBack [vR 12 243] m1 (fun r m' => r = none ∧ InvM m' Ω ∧ KM m m') := by
  refine c_MlayBack.post (fun r m' hq => ?_)
  obtain ⟨g1, g2, g3, g4, g5⟩ := hq
  have h3 := hW.1.2.2.2.1
  have f1 : ∀ a, (a < 243 ∨ (244 ≤ a ∧ a ≤ 255 ∧ a ≠ 250) ∨ (265 ≤ a ∧ a ≤ 268)) → m' a = m a := fun a ha => by rw [g5 a (by omega) (by omega)]; exact h.2.2.1 a ha
  have f0 : ∀ k, (k ≤ 14 ∨ k = 39) → m' 243 k = m 243 k := by
    intro k hk
    by_cases e : k = 9
    · subst e; rw [g2]; exact h.1
    · rw [g4 k e]; exact h.2.2.2 k (by omega)
  refine ⟨g1, ?_, fun a ha => f1 a (by omega)⟩
  have hR : RepM m' (oG Ω) := by
    obtain ⟨a1, a2, a3, a4, a5, a6, a7, a8⟩ := hI.1
    refine ⟨by rw [f0 0 (by omega)]; exact a1, by rw [f0 1 (by omega)]; exact a2, by rw [f0 5 (by omega)]; exact a3, by rw [f0 9 (by omega)]; exact a4, by rw [f0 14 (by omega)]; exact a5, fun w hw => ?_, fun r hr => ?_, fun i hi => ?_⟩
    · rw [f1 244 (by omega), f1 245 (by omega), f1 246 (by omega)]; exact a6 w hw
    · rw [f1 247 (by omega), f1 248 (by omega), f1 249 (by omega)]; exact a7 r hr
    · rw [g3 i (by omega), h.2.1 i (by omega)]; exact a8 i hi
  exact hI.g hR (fun a x1 x2 => f1 a (by omega)) (fun k hk => f0 k (by omega))
theorem M_worthR {m1 : Mem} {rw : List Nat} (hd : 5 ≤ d) (hW : WO Ω) (hI : InvM m Ω) (h : LD m m1) (hw : WFr (oG Ω) rw) (hn : m1 243 9 = nI rw.length) (hr : RLn (m1 250) rw) : Meth l X d M_X11_worthNow [vR 12 243] m1 (fun r m' => r = some (vI (wthO Ω ((oG Ω) 0 4) rw)) ∧ LD m m' ∧ m' 243 9 = m1 243 9 ∧ m' 250 = m1 250) := by
  have e4 : (rwS (oG Ω) rw) 0 4 = (oG Ω) 0 4 := rwS_o (by decide) (Or.inr (by decide))
  refine (M_worth (Ω := Ω) (σ := rwS (oG Ω) rw) hd (h.rep hI.1 hn hr) (rwS_wf hW.1 hw) (by rw [e4]; exact hW.2.2.1) (fun t ht p hp => ?_)).post (fun r m' hq => ?_)
  · obtain ⟨cs, c1, c2⟩ := hI.2.2.2.2.1 t ht p hp
    exact ⟨cs, c1.fr (h.2.2.1 252 (by omega)) (h.2.2.1 253 (by omega)), c2⟩
  · rw [e4, rowL_rw, wthO_rw] at hq
    exact ⟨hq.1, h.W hq.2, hq.2.2 9 (by decide), hq.2.1 250 (by decide) (by decide) (by decide) (by decide) (by decide) (by decide) (by decide)⟩
theorem M_leave {b : Int32} (hd : 7 ≤ d) (hW : WO Ω) (hI : InvM m Ω) : Meth l X d M_X11_leave [vR 12 243, vI b] m (fun r m' => r = some (vI (leaveF Ω b)) ∧ InvM m' Ω ∧ KM m m') := by
  obtain ⟨d, rfl⟩ : ∃ e, d = e + 1 := ⟨d - 1, by omega⟩
  have h3 := hW.1.2.2.2.1
  refine E_X11_leave (ls := [vR 12 243, vI b, vU, vU, vU, vU]) rfl rfl ?_
  repeat refine AW.s rfl ?_
  try dsimp only [List.set_cons_zero, List.set_cons_succ, Option.toList_some, Option.toList_none, List.cons_append, List.nil_append]
  refine AW.S k_11_7 (c_in0) rfl rfl rfl rfl (fun r1 m9 hq => ?_)
  obtain ⟨rfl, hm9⟩ := hq
  rw [hm9]
  try dsimp only [List.set_cons_zero, List.set_cons_succ, Option.toList_some, Option.toList_none, List.cons_append, List.nil_append]
  by_cases q1 : wB b 1 = 1
  · have e0 : leaveF Ω b = if b = 0 then (lvS Ω ((oG Ω) 0 3)).1 else (lvS Ω ((oG Ω) 0 3)).2 := if_pos q1
    rw [q1, e0]
    refine AW.b rfl (fun hc => ?_) (fun hc => ?_)
    · exact absurd hc (by decide)
    · repeat refine AW.s rfl ?_
      try dsimp only [List.set_cons_zero, List.set_cons_succ, Option.toList_some, Option.toList_none, List.cons_append, List.nil_append]
      refine AW.V k_11_272 ((M_worthNow (by omega) hW hI)) rfl rfl rfl rfl rfl rfl (fun r1 m1 hq => ?_)
      obtain ⟨rfl, f1⟩ := hq
      have hI1 := hI.fr f1.M
      repeat refine AW.s rfl ?_
      try dsimp only [List.set_cons_zero, List.set_cons_succ, Option.toList_some, Option.toList_none, List.cons_append, List.nil_append]
      refine AW.V k_11_284 ((c_MlayBy' hI1)) rfl rfl rfl rfl rfl rfl (fun r1 m2 hq => ?_)
      obtain ⟨rfl, hl2, h29, h250⟩ := hq
      repeat refine AW.u 27 rfl rfl ?_
      try dsimp only [List.set_cons_zero, List.set_cons_succ, Option.toList_some, Option.toList_none, List.cons_append, List.nil_append]
      refine AW.loop (pc := 27) (σ := Unit) ((oG Ω) 0 3) (fun i _ => [vR 12 243, vI b, vI (lvS Ω i).1, vI (lvS Ω i).2, vI (nI i), vU]) (fun i _ mm => LD m1 mm) (fun i _ mm hi hl ih => ?_) 0 () m2 (Nat.zero_le _) hl2
      obtain ⟨l1, l2⟩ := hl.laid hI1.1 hW.1
      repeat refine AW.s rfl ?_
      try dsimp only [List.set_cons_zero, List.set_cons_succ, Option.toList_some, Option.toList_none, List.cons_append, List.nil_append]
      rw [l1]
      refine AW.b rfl (fun hc => ?_) (fun hc => ?_)
      · have hlt : i < (oG Ω) 0 3 := (nI_ltI (by omega) (by omega)).mp hc
        repeat refine AW.u 44 rfl rfl ?_
        try dsimp only [List.set_cons_zero, List.set_cons_succ, Option.toList_some, Option.toList_none, List.cons_append, List.nil_append]
        refine AW.loop (pc := 44) (σ := Unit) ((oG Ω) 0 3) (fun k _ => [vR 12 243, vI b, vI (lvS Ω i).1, vI (lvS Ω i).2, vI (nI i), vI (nI k)]) (fun k _ m3 => LD m1 m3 ∧ m3 243 9 = nI (((rowL (oG Ω)).take k).eraseIdx i).length ∧ RLn (m3 250) (((rowL (oG Ω)).take k).eraseIdx i)) (fun k _ m3 hk hm3 ih2 => ?_) 0 () _ (Nat.zero_le _) ⟨hl.r (fun a x1 _ => mUp_a x1) (fun k hk => mUp_n (Or.inr hk)), mUp_s _ _ _ _, fun k x hk => by simp at hk⟩
        obtain ⟨g1, g2, g3⟩ := hm3
        obtain ⟨n1, n2⟩ := g1.laid hI1.1 hW.1
        repeat refine AW.s rfl ?_
        try dsimp only [List.set_cons_zero, List.set_cons_succ, Option.toList_some, Option.toList_none, List.cons_append, List.nil_append]
        rw [n1]
        refine AW.b rfl (fun hc => ?_) (fun hc => ?_)
        · have hlk : k < (oG Ω) 0 3 := (nI_ltI (by omega) (by omega)).mp hc
          obtain ⟨x, hx⟩ : ∃ x, (rowL (oG Ω))[k]? = some x := ⟨_, List.getElem?_eq_getElem (by rw [rowL_len]; exact hlk)⟩
          have het := erase_take (p := i) hx
          repeat refine AW.s rfl ?_
          try dsimp only [List.set_cons_zero, List.set_cons_succ, Option.toList_some, Option.toList_none, List.cons_append, List.nil_append]
          refine AW.b rfl (fun hc => ?_) (fun hc => ?_)
          · have e : k = i := (nI_eq (by omega) (by omega)).mp hc
            rw [if_pos e] at het
            repeat refine AW.u 44 rfl rfl ?_
            try dsimp only [List.set_cons_zero, List.set_cons_succ, Option.toList_some, Option.toList_none, List.cons_append, List.nil_append]
            rw [nI_1]
            exact ih2 () _ hlk ⟨g1, by rw [het]; exact g2, by rw [het]; exact g3⟩
          · have e : ¬ k = i := fun q => hc (by rw [q])
            rw [if_neg e] at het
            have hlen : (((rowL (oG Ω)).take k).eraseIdx i).length < 8 := by
              have : (((rowL (oG Ω)).take k).eraseIdx i).length ≤ ((rowL (oG Ω)).take k).length := List.length_eraseIdx_le _ _
              rw [List.length_take] at this
              omega
            repeat refine AW.s rfl ?_
            try dsimp only [List.set_cons_zero, List.set_cons_succ, Option.toList_some, Option.toList_none, List.cons_append, List.nil_append]
            rw [g2]
            refine AW.c rfl (vp_in_nI (by omega) (by decide)) ?_
            try dsimp only [List.set_cons_zero, List.set_cons_succ, Option.toList_some, Option.toList_none, List.cons_append, List.nil_append]
            rw [nI_clamp (by omega), show m3 (243 + 21) k = nI x from n2 k x hx]
            refine AW.c rfl (⟨vp_in_nI (by omega) (by decide), fun z => absurd z (by decide)⟩) ?_
            try dsimp only [List.set_cons_zero, List.set_cons_succ, Option.toList_some, Option.toList_none, List.cons_append, List.nil_append]
            rw [nI_clamp (by omega)]
            repeat refine AW.u 44 rfl rfl ?_
            try dsimp only [List.set_cons_zero, List.set_cons_succ, Option.toList_some, Option.toList_none, List.cons_append, List.nil_append]
            rw [show mUp m3 (243 + 7) (((rowL (oG Ω)).take k).eraseIdx i).length (nI x) 243 9 = nI (((rowL (oG Ω)).take k).eraseIdx i).length by rw [mUp_a (by decide)]; exact g2, nI_1, nI_1]
            refine ih2 () _ hlk ⟨g1.r (fun a x1 x2 => by rw [mUp_a x1, mUp_a x2]) (fun k hk => by rw [mUp_n (Or.inr hk), mUp_a (by decide)]), by rw [het, List.length_append]; exact mUp_s _ _ _ _, ?_⟩
            rw [het]
            intro j y hj
            rw [mUp_a (by decide)]
            by_cases e2 : j = (((rowL (oG Ω)).take k).eraseIdx i).length
            · subst e2
              rw [List.getElem?_append_right (Nat.le_refl _), Nat.sub_self] at hj
              cases hj
              exact mUp_s _ _ _ _
            · have hjl : j < (((rowL (oG Ω)).take k).eraseIdx i).length := by
                have := (List.getElem?_eq_some_iff.mp hj).1
                rw [List.length_append] at this
                have : j < (((rowL (oG Ω)).take k).eraseIdx i).length + 1 := this
                omega
              rw [List.getElem?_append_left hjl] at hj
              rw [mUp_n (Or.inr e2)]
              exact g3 j y hj
        · have : k = (oG Ω) 0 3 := by
            have : ¬ k < (oG Ω) 0 3 := fun q => hc ((nI_ltI (by omega) (by omega)).mpr q)
            omega
          subst this
          have htl : (rowL (oG Ω)).take ((oG Ω) 0 3) = rowL (oG Ω) := List.take_of_length_le (by rw [rowL_len]; exact Nat.le_refl _)
          rw [htl] at g2 g3
          repeat refine AW.s rfl ?_
          try dsimp only [List.set_cons_zero, List.set_cons_succ, Option.toList_some, Option.toList_none, List.cons_append, List.nil_append]
          refine AW.V k_11_272 ((M_worthR (by omega) hW hI1 g1 (wfr_erase (rowL_wf hW.1) i) g2 g3)) rfl rfl rfl rfl rfl rfl (fun r1 m4 hq => ?_)
          obtain ⟨rfl, g4, -, -⟩ := hq
          have es := lvS_s Ω i
          repeat refine AW.s rfl ?_
          try dsimp only [List.set_cons_zero, List.set_cons_succ, Option.toList_some, Option.toList_none, List.cons_append, List.nil_append]
          refine AW.b rfl (fun hc => ?_) (fun hc => ?_)
          · have q2 := hc
            rw [if_pos q2] at es
            repeat refine AW.s rfl ?_
            try dsimp only [List.set_cons_zero, List.set_cons_succ, Option.toList_some, Option.toList_none, List.cons_append, List.nil_append]
            refine AW.mmax (G := GM l X (d + 1) M_X11_leave _) rfl k_11_223 rR1 (Nat.le_of_ble_eq_true rfl) ?_
            rw [if_pos q2]
            repeat refine AW.u 27 rfl rfl ?_
            try dsimp only [List.set_cons_zero, List.set_cons_succ, Option.toList_some, Option.toList_none, List.cons_append, List.nil_append]
            refine AW.fg 5 ?_
            try dsimp only [List.set_cons_zero, List.set_cons_succ, Option.toList_some, Option.toList_none, List.cons_append, List.nil_append]
            have ih := ih () m4 hlt g4
            rw [es] at ih
            rw [nI_1]
            exact ih
          · have q2 := hc
            rw [if_neg q2] at es
            repeat refine AW.s rfl ?_
            try dsimp only [List.set_cons_zero, List.set_cons_succ, Option.toList_some, Option.toList_none, List.cons_append, List.nil_append]
            refine AW.mmax (G := GM l X (d + 1) M_X11_leave _) rfl k_11_223 rR1 (Nat.le_of_ble_eq_true rfl) ?_
            rw [if_neg q2]
            repeat refine AW.u 27 rfl rfl ?_
            try dsimp only [List.set_cons_zero, List.set_cons_succ, Option.toList_some, Option.toList_none, List.cons_append, List.nil_append]
            refine AW.fg 5 ?_
            try dsimp only [List.set_cons_zero, List.set_cons_succ, Option.toList_some, Option.toList_none, List.cons_append, List.nil_append]
            have ih := ih () m4 hlt g4
            rw [es] at ih
            rw [nI_1]
            exact ih
      · have : i = (oG Ω) 0 3 := by
          have : ¬ i < (oG Ω) 0 3 := fun q => hc ((nI_ltI (by omega) (by omega)).mpr q)
          omega
        subst this
        repeat refine AW.s rfl ?_
        try dsimp only [List.set_cons_zero, List.set_cons_succ, Option.toList_some, Option.toList_none, List.cons_append, List.nil_append]
        refine AW.V k_11_287 ((c_MlayBack' hW hI1 hl)) rfl rfl rfl rfl rfl rfl (fun r1 m5 hq => ?_)
        obtain ⟨rfl, hI5, hK5⟩ := hq
        have hK : KM m m5 := f1.M.K.tr hK5
        repeat refine AW.s rfl ?_
        try dsimp only [List.set_cons_zero, List.set_cons_succ, Option.toList_some, Option.toList_none, List.cons_append, List.nil_append]
        refine AW.b rfl (fun hc => ?_) (fun hc => ?_)
        · rw [if_pos hc]
          repeat refine AW.s rfl ?_
          try dsimp only [List.set_cons_zero, List.set_cons_succ, Option.toList_some, Option.toList_none, List.cons_append, List.nil_append]
          exact AW.ri rfl rfl rfl ⟨rfl, hI5, hK⟩
        · rw [if_neg hc]
          repeat refine AW.s rfl ?_
          try dsimp only [List.set_cons_zero, List.set_cons_succ, Option.toList_some, Option.toList_none, List.cons_append, List.nil_append]
          exact AW.ri rfl rfl rfl ⟨rfl, hI5, hK⟩
  · have e0 : leaveF Ω b = -100000 := if_neg q1
    rw [wB_0 q1, e0]
    refine AW.b rfl (fun hc => ?_) (fun hc => ?_)
    · repeat refine AW.s rfl ?_
      try dsimp only [List.set_cons_zero, List.set_cons_succ, Option.toList_some, Option.toList_none, List.cons_append, List.nil_append]
      exact AW.ri rfl rfl rfl ⟨rfl, hI, KM.rf⟩
    · exact absurd rfl hc
end

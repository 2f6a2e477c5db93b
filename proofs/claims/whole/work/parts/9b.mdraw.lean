-- ===== the model: drawRow, drawn, divisor, chance =====
def nJ (n : Nat) : Int64 := (nI n).toInt64
theorem nJ_rem : ∀ b, b < 21 → ∀ a, a < 21 → (0 < b → nJ a - nJ a / nJ b * nJ b = nJ (a % b)) := by decide +kernel
theorem nJ_div : ∀ b, b < 21 → ∀ a, a < 21 → (0 < b → nJ a / nJ b = nJ (a / b)) := by decide +kernel
theorem nJ_cmp : ∀ b, b < 21 → (lg_cmp (nJ b) 0 = 0 ↔ b = 0) := by decide +kernel
theorem nJ_0 : ∀ b, b < 21 → (nJ b = 0 ↔ b = 0) := by decide +kernel
theorem nJ_1 : ∀ b, b < 21 → nJ b + 1 = nJ (b + 1) := by decide +kernel
theorem nJ_p : ∀ b, b < 21 → nJ b + 0 = nJ b := by decide +kernel
section
variable {l : Launch} {X : XT} {d : Nat} {m : Mem} {Ω : OM}
theorem c_Mdivisor {a b : Nat} (ha : a < 21) (hb : b < 21) : Meth l X d M_X11_divisor [vJ (nJ a), vJ (nJ b)] m (fun r m' => r = some (vJ (nJ (Nat.gcd a b))) ∧ m' = m) := by
  refine E_X11_divisor (ls := [vJ (nJ a), vU, vJ (nJ b), vU, vU, vU, vU, vU, vU, vU]) rfl rfl ?_
  repeat refine AW.u 6 rfl rfl ?_
  try dsimp only [List.set_cons_zero, List.set_cons_succ, Option.toList_some, Option.toList_none, List.cons_append, List.nil_append]
  refine AW.wf (pc := 6) (σ := Nat × Nat) (fun s => s.2) (fun s => [vJ (nJ a), vU, vJ (nJ b), vU, vJ (nJ s.1), vU, vJ (nJ s.2), vU, vU, vU]) (fun s mm => mm = m ∧ s.1 < 21 ∧ s.2 < 21 ∧ Nat.gcd s.1 s.2 = Nat.gcd a b) (fun s mm hM ih => ?_) (a, b) m ⟨rfl, ha, hb, rfl⟩
  obtain ⟨x, y⟩ := s
  obtain ⟨rfl, hx, hy, hg⟩ := hM
  have hx : x < 21 := hx
  have hy : y < 21 := hy
  have hg : Nat.gcd x y = Nat.gcd a b := hg
  repeat refine AW.s rfl ?_
  try dsimp only [List.set_cons_zero, List.set_cons_succ, Option.toList_some, Option.toList_none, List.cons_append, List.nil_append]
  refine AW.b rfl (fun hc => ?_) (fun hc => ?_)
  · have e : y = 0 := (nJ_cmp y hy).mp hc
    subst e
    rw [Nat.gcd_zero_right] at hg
    repeat refine AW.s rfl ?_
    try dsimp only [List.set_cons_zero, List.set_cons_succ, Option.toList_some, Option.toList_none, List.cons_append, List.nil_append]
    exact AW.rl rfl rfl ⟨by rw [hg], rfl⟩
  · have e : ¬ y = 0 := fun q => hc ((nJ_cmp y hy).mpr q)
    have hr : x % y < y := Nat.mod_lt _ (by omega)
    repeat refine AW.s rfl ?_
    try dsimp only [List.set_cons_zero, List.set_cons_succ, Option.toList_some, Option.toList_none, List.cons_append, List.nil_append]
    refine AW.c rfl (fun q => e ((nJ_0 y hy).mp q)) ?_
    try dsimp only [List.set_cons_zero, List.set_cons_succ, Option.toList_some, Option.toList_none, List.cons_append, List.nil_append]
    rw [nJ_rem y hy x hx (by omega)]
    repeat refine AW.u 6 rfl rfl ?_
    try dsimp only [List.set_cons_zero, List.set_cons_succ, Option.toList_some, Option.toList_none, List.cons_append, List.nil_append]
    refine AW.fg 8 ?_
    try dsimp only [List.set_cons_zero, List.set_cons_succ, Option.toList_some, Option.toList_none, List.cons_append, List.nil_append]
    refine ih (y, x % y) mm (show x % y < y from hr) ⟨rfl, hy, by show x % y < 21; omega, ?_⟩
    show Nat.gcd y (x % y) = Nat.gcd a b
    rw [← hg, Nat.gcd_comm x y, Nat.gcd_rec y x, Nat.gcd_comm]
theorem c_MdrawRow {rc : Nat} {s : Int32} (hrc : rc ≤ 6) (h5 : m 243 5 = nI rc) : Meth l X d M_X11_drawRow [vR 12 243, vI s] m (fun r m' => r = none ∧ m' 243 9 = nI (drawL rc s).length ∧ RLn (m' 250) (drawL rc s) ∧ (∀ a, a ≠ 243 → a ≠ 250 → m' a = m a) ∧ ∀ k, k ≠ 9 → m' 243 k = m 243 k) := by
  refine E_X11_drawRow (ls := [vR 12 243, vI s, vU, vU, vU]) rfl rfl ?_
  have h4 := Nat.mod_lt (u9 (fol s)) (show 0 < 4 by decide)
  have hu := u9_lt (fol s)
  repeat refine AW.s rfl ?_
  try dsimp only [List.set_cons_zero, List.set_cons_succ, Option.toList_some, Option.toList_none, List.cons_append, List.nil_append]
  rw [show s * 1103515245 + 12345 = fol s from rfl, ushr9]
  refine AW.c rfl (by decide) ?_
  try dsimp only [List.set_cons_zero, List.set_cons_succ, Option.toList_some, Option.toList_none, List.cons_append, List.nil_append]
  rw [show nI (u9 (fol s)) - nI (u9 (fol s)) / 4 * 4 = nI (u9 (fol s) % 4) from pk_rem (d := 4) (by omega) (by decide) (by decide)]
  repeat refine AW.u 27 rfl rfl ?_
  try dsimp only [List.set_cons_zero, List.set_cons_succ, Option.toList_some, Option.toList_none, List.cons_append, List.nil_append]
  rw [nI_1]
  by_cases hr0 : rc = 0
  · subst hr0
    have hD : drawL 0 s = [] := by unfold drawL; rw [if_pos rfl]
    rw [hD]
    repeat refine AW.s rfl ?_
    try dsimp only [List.set_cons_zero, List.set_cons_succ, Option.toList_some, Option.toList_none, List.cons_append, List.nil_append]
    refine AW.b rfl (fun hc => ?_) (fun hc => ?_)
    · repeat refine AW.s rfl ?_
      try dsimp only [List.set_cons_zero, List.set_cons_succ, Option.toList_some, Option.toList_none, List.cons_append, List.nil_append]
      rw [show mUp m 243 9 0 243 5 = nI 0 by rw [mUp_n (Or.inr (by decide))]; exact h5]
      refine AW.b rfl (fun hc => ?_) (fun hc => ?_)
      · exact absurd (show (0 : Int32) < 0 from hc) (by decide)
      · repeat refine AW.s rfl ?_
        try dsimp only [List.set_cons_zero, List.set_cons_succ, Option.toList_some, Option.toList_none, List.cons_append, List.nil_append]
        exact AW.rv rfl rfl ⟨rfl, mUp_s _ _ _ _, fun k x hk => by simp at hk, fun a h1 _ => mUp_a h1, fun k hk => mUp_n (Or.inr hk)⟩
    · repeat refine AW.s rfl ?_
      try dsimp only [List.set_cons_zero, List.set_cons_succ, Option.toList_some, Option.toList_none, List.cons_append, List.nil_append]
      exact AW.rv rfl rfl ⟨rfl, mUp_s _ _ _ _, fun k x hk => by simp at hk, fun a h1 _ => mUp_a h1, fun k hk => mUp_n (Or.inr hk)⟩
  · have hD : drawL rc s = drw rc (u9 (fol s) % 4 + 1) (fol s) := by unfold drawL; rw [if_neg hr0]
    rw [hD]
    generalize hk : u9 (fol s) % 4 + 1 = k at *
    generalize fol s = z0 at *
    refine AW.loop (pc := 27) (σ := Int32) k (fun i z => [vR 12 243, vI s, vI z, vI (nI k), vI (nI i)]) (fun i z m1 => ((∀ a, a ≠ 243 → a ≠ 250 → m1 a = m a) ∧ (∀ k, k ≠ 9 → m1 243 k = m 243 k)) ∧ (m1 243 9 = nI i ∧ RLn (m1 250) ((drw rc k z0).take i)) ∧ drw rc (k - i) z = (drw rc k z0).drop i) (fun i z m1 hi hm1 ih => ?_) 0 z0 _ (Nat.zero_le _) ⟨⟨fun a h1 _ => mUp_a h1, fun k hk => mUp_n (Or.inr hk)⟩, ⟨mUp_s _ _ _ _, fun k x hk => by simp at hk⟩, by rw [Nat.sub_zero, List.drop_zero]⟩
    obtain ⟨⟨hf, hf0⟩, ⟨hv9, hv⟩, hz⟩ := hm1
    repeat refine AW.s rfl ?_
    try dsimp only [List.set_cons_zero, List.set_cons_succ, Option.toList_some, Option.toList_none, List.cons_append, List.nil_append]
    refine AW.b rfl (fun hc => ?_) (fun hc => ?_)
    · have hlt : i < k := (nI_ltI (by omega) (by omega)).mp hc
      have hu2 := u9_lt (fol z)
      obtain ⟨q, hq⟩ : ∃ q, k - i = q + 1 := ⟨k - i - 1, by omega⟩
      rw [hq] at hz
      have hz : (u9 (fol z) % rc) :: drw rc q (fol z) = (drw rc k z0).drop i := hz
      have hlen := drw_len rc k z0
      have hget : (drw rc k z0)[i]? = some (u9 (fol z) % rc) := by
        have : ((drw rc k z0).drop i)[0]? = some (u9 (fol z) % rc) := by rw [← hz]; rfl
        rwa [List.getElem?_drop, Nat.add_zero] at this
      have h51 : m1 243 5 = nI rc := by rw [hf0 5 (by decide)]; exact h5
      repeat refine AW.s rfl ?_
      try dsimp only [List.set_cons_zero, List.set_cons_succ, Option.toList_some, Option.toList_none, List.cons_append, List.nil_append]
      rw [h51]
      refine AW.b rfl (fun hc => ?_) (fun hc => ?_)
      · repeat refine AW.s rfl ?_
        try dsimp only [List.set_cons_zero, List.set_cons_succ, Option.toList_some, Option.toList_none, List.cons_append, List.nil_append]
        rw [show z * 1103515245 + 12345 = fol z from rfl, ushr9, h51]
        refine AW.c rfl (nI_ne0 (by omega) (by omega)) ?_
        try dsimp only [List.set_cons_zero, List.set_cons_succ, Option.toList_some, Option.toList_none, List.cons_append, List.nil_append]
        rw [pk_rem (by omega) (by omega) (by omega)]
        refine AW.c rfl (⟨vp_in_nI (by omega) (by decide), fun z => absurd z (by decide)⟩) ?_
        try dsimp only [List.set_cons_zero, List.set_cons_succ, Option.toList_some, Option.toList_none, List.cons_append, List.nil_append]
        rw [nI_clamp (by omega)]
        repeat refine AW.u 27 rfl rfl ?_
        try dsimp only [List.set_cons_zero, List.set_cons_succ, Option.toList_some, Option.toList_none, List.cons_append, List.nil_append]
        rw [show mUp m1 (243 + 7) i (nI (u9 (fol z) % rc)) 243 9 = nI i by rw [mUp_a (by decide)]; exact hv9, nI_1]
        refine ih _ _ hlt ⟨⟨fun a h1 h2 => by rw [mUp_a h1, mUp_a h2]; exact hf a h1 h2, fun k hk => by rw [mUp_n (Or.inr hk), mUp_a (by decide)]; exact hf0 k hk⟩, ⟨mUp_s _ _ _ _, ?_⟩, ?_⟩
        · rw [List.take_add_one, hget]
          intro j y hj
          rw [mUp_a (by decide)]
          have hlt2 : ((drw rc k z0).take i).length = i := by rw [List.length_take]; omega
          by_cases e2 : j = i
          · subst e2
            rw [List.getElem?_append_right (by omega), hlt2, Nat.sub_self] at hj
            cases hj
            exact mUp_s _ _ _ _
          · have hjl : j < i := by
              have := (List.getElem?_eq_some_iff.mp hj).1
              rw [List.length_append, hlt2] at this
              have : j < i + 1 := this
              omega
            rw [List.getElem?_append_left (by omega)] at hj
            rw [mUp_n (Or.inr e2)]
            exact hv j y hj
        · rw [show k - (i + 1) = q by omega, ← List.drop_drop, ← hz]; rfl
      · exact absurd (nI_lt (a := 0) (show 0 < rc by omega) (by omega)) hc
    · have : i = k := by
        have : ¬ i < k := fun q => hc ((nI_ltI (by omega) (by omega)).mpr q)
        omega
      subst this
      rw [List.take_of_length_le (by rw [drw_len]; exact Nat.le_refl _)] at hv
      repeat refine AW.s rfl ?_
      try dsimp only [List.set_cons_zero, List.set_cons_succ, Option.toList_some, Option.toList_none, List.cons_append, List.nil_append]
      exact AW.rv rfl rfl ⟨rfl, by rw [drw_len]; exact hv9, hv, hf, hf0⟩
theorem M_drawn {s : Int32} (hd : 7 ≤ d) (hW : WO Ω) (hI : InvM m Ω) : Meth l X d M_X11_drawn [vR 12 243, vI s] m (fun r m' => r = some (vI (drawnF Ω s)) ∧ InvM m' Ω ∧ KM m m') := by
  obtain ⟨d, rfl⟩ : ∃ e, d = e + 1 := ⟨d - 1, by omega⟩
  refine E_X11_drawn (ls := [vR 12 243, vI s, vU]) rfl rfl ?_
  repeat refine AW.s rfl ?_
  try dsimp only [List.set_cons_zero, List.set_cons_succ, Option.toList_some, Option.toList_none, List.cons_append, List.nil_append]
  refine AW.V k_11_284 ((c_MlayBy' hI)) rfl rfl rfl rfl rfl rfl (fun r1 m2 hq => ?_)
  obtain ⟨rfl, hl2, h29, h250⟩ := hq
  repeat refine AW.s rfl ?_
  try dsimp only [List.set_cons_zero, List.set_cons_succ, Option.toList_some, Option.toList_none, List.cons_append, List.nil_append]
  refine AW.V k_11_303 ((c_MdrawRow (rc := (oG Ω) 0 2) hW.1.2.2.1 (by rw [hl2.2.2.2 5 (by omega)]; exact hI.1.2.2.1))) rfl rfl rfl rfl rfl rfl (fun r1 m3 hq => ?_)
  obtain ⟨rfl, r1, r2, r3, r4⟩ := hq
  have hl3 := hl2.r r3 r4
  repeat refine AW.s rfl ?_
  try dsimp only [List.set_cons_zero, List.set_cons_succ, Option.toList_some, Option.toList_none, List.cons_append, List.nil_append]
  refine AW.V k_11_272 ((M_worthR (by omega) hW hI hl3 (drawL_wf s) r1 r2)) rfl rfl rfl rfl rfl rfl (fun r1 m4 hq => ?_)
  obtain ⟨rfl, hl4, -, -⟩ := hq
  repeat refine AW.s rfl ?_
  try dsimp only [List.set_cons_zero, List.set_cons_succ, Option.toList_some, Option.toList_none, List.cons_append, List.nil_append]
  refine AW.V k_11_287 ((c_MlayBack' hW hI hl4)) rfl rfl rfl rfl rfl rfl (fun r1 m5 hq => ?_)
  obtain ⟨rfl, hI5, hK5⟩ := hq
  repeat refine AW.s rfl ?_
  try dsimp only [List.set_cons_zero, List.set_cons_succ, Option.toList_some, Option.toList_none, List.cons_append, List.nil_append]
  exact AW.ri rfl rfl rfl ⟨rfl, hI5, hK5⟩
theorem M_chance {s n p : Int32} (hd : 7 ≤ d) (hW : WO Ω) (hI : InvM m Ω) : Meth l X d M_X11_chance [vR 12 243, vI s, vI n, vI p] m (fun r m' => r = some (vJ (chanceF Ω s n p)) ∧ InvM m' Ω ∧ KM m m') := by
  obtain ⟨d, rfl⟩ : ∃ e, d = e + 1 := ⟨d - 1, by omega⟩
  have h1 := hW.1.2.1
  have hbad : chanceF Ω s n p = -4611686018427387904 → AW (GM l X (d + 1) M_X11_chance (fun r m' => r = some (vJ (chanceF Ω s n p)) ∧ InvM m' Ω ∧ KM m m')) 19 [vR 12 243, vI s, vI n, vI p, vU, vU, vU, vU] [] m := by
    intro hn
    rw [hn]
    repeat refine AW.s rfl ?_
    try dsimp only [List.set_cons_zero, List.set_cons_succ, Option.toList_some, Option.toList_none, List.cons_append, List.nil_append]
    exact AW.rl rfl rfl ⟨rfl, hI, KM.rf⟩
  refine E_X11_chance (ls := [vR 12 243, vI s, vI n, vI p, vU, vU, vU, vU]) rfl rfl ?_
  repeat refine AW.s rfl ?_
  try dsimp only [List.set_cons_zero, List.set_cons_succ, Option.toList_some, Option.toList_none, List.cons_append, List.nil_append]
  refine AW.S k_11_7 (c_isIn) rfl rfl rfl rfl (fun r1 m9 hq => ?_)
  obtain ⟨rfl, hm9⟩ := hq
  rw [hm9]
  try dsimp only [List.set_cons_zero, List.set_cons_succ, Option.toList_some, Option.toList_none, List.cons_append, List.nil_append]
  by_cases q1 : ∃ j, 1 ≤ j ∧ j ≤ 20 ∧ n = nI j
  · obtain ⟨j, j1, j2, rfl⟩ := q1
    rw [if_neg (show ¬ nI j < 1 from fun q => absurd ((nI_ltI (b := 1) (by omega) (by decide)).mp q) (by omega)), if_neg (show ¬ 20 < nI j from fun q => absurd ((nI_ltI (a := 20) (by decide) (by omega)).mp q) (by omega))]
    refine AW.b rfl (fun hc => ?_) (fun hc => ?_)
    · exact absurd hc (by decide)
    · repeat refine AW.s rfl ?_
      try dsimp only [List.set_cons_zero, List.set_cons_succ, Option.toList_some, Option.toList_none, List.cons_append, List.nil_append]
      refine AW.S k_11_7 (c_in0) rfl rfl rfl rfl (fun r1 m8 hq => ?_)
      obtain ⟨rfl, hm8⟩ := hq
      rw [hm8]
      try dsimp only [List.set_cons_zero, List.set_cons_succ, Option.toList_some, Option.toList_none, List.cons_append, List.nil_append]
      by_cases q3 : wB p 1 = 1
      · rw [q3]
        have e0 : chanceF Ω s (nI j) p = if p = 0 then nJ (gdN Ω s j / Nat.gcd (gdN Ω s j) j) else nJ (j / Nat.gcd (gdN Ω s j) j) := by
          unfold chanceF
          rw [cif_t ⟨j, j1, j2, rfl⟩, cif_t q3, nI_clamp (by omega)]
          rfl
        rw [e0]
        refine AW.b rfl (fun hc => ?_) (fun hc => ?_)
        · exact absurd hc (by decide)
        · repeat refine AW.s rfl ?_
          try dsimp only [List.set_cons_zero, List.set_cons_succ, Option.toList_some, Option.toList_none, List.cons_append, List.nil_append]
          refine AW.V k_11_284 ((c_MlayBy' hI)) rfl rfl rfl rfl rfl rfl (fun r1 m2 hq => ?_)
          obtain ⟨rfl, hl2, h29, h250⟩ := hq
          repeat refine AW.u 33 rfl rfl ?_
          try dsimp only [List.set_cons_zero, List.set_cons_succ, Option.toList_some, Option.toList_none, List.cons_append, List.nil_append]
          refine AW.loop (pc := 33) (σ := Unit) j (fun i _ => [vR 12 243, vI s, vI (nI j), vI p, vJ (nJ (gdN Ω s i)), vU, vI (nI i), vU]) (fun i _ m1 => LD m m1) (fun i _ m1 hi hl ih => ?_) 0 () m2 (Nat.zero_le _) hl2
          have hgl : gdN Ω s i ≤ i := cntP_le i
          repeat refine AW.s rfl ?_
          try dsimp only [List.set_cons_zero, List.set_cons_succ, Option.toList_some, Option.toList_none, List.cons_append, List.nil_append]
          refine AW.b rfl (fun hc => ?_) (fun hc => ?_)
          · have hlt : i < j := (nI_ltI (by omega) (by omega)).mp hc
            repeat refine AW.s rfl ?_
            try dsimp only [List.set_cons_zero, List.set_cons_succ, Option.toList_some, Option.toList_none, List.cons_append, List.nil_append]
            refine AW.V k_11_303 ((c_MdrawRow (rc := (oG Ω) 0 2) hW.1.2.2.1 (by rw [hl.2.2.2 5 (by omega)]; exact hI.1.2.2.1))) rfl rfl rfl rfl rfl rfl (fun r1 m3 hq => ?_)
            obtain ⟨rfl, r1, r2, r3, r4⟩ := hq
            have hl3 := hl.r r3 r4
            have hR := hl3.rep hI.1 r1 r2
            repeat refine AW.s rfl ?_
            try dsimp only [List.set_cons_zero, List.set_cons_succ, Option.toList_some, Option.toList_none, List.cons_append, List.nil_append]
            refine AW.V k_11_252 ((c_MsayAll (by omega) hR (rwS_wf hW.1 (drawL_wf _)))) rfl rfl rfl rfl rfl rfl (fun r1 m4 hq => ?_)
            obtain ⟨rfl, hY, f4⟩ := hq
            have e1 : rwS (oG Ω) (drawL ((oG Ω) 0 2) (s + nI i)) 0 1 = (oG Ω) 0 1 := rwS_o (by decide) (Or.inr (by decide))
            rw [e1, rowL_rw, saidS_rw] at hY
            have hl4 := hl3.W f4.W
            repeat refine AW.s rfl ?_
            try dsimp only [List.set_cons_zero, List.set_cons_succ, Option.toList_some, Option.toList_none, List.cons_append, List.nil_append]
            refine AW.V k_11_255 ((c_Malike (n := (oG Ω) 0 1) (f := saidS (oG Ω) (drawL ((oG Ω) 0 2) (s + nI i))) (by omega) h1 (by rw [hl4.2.2.2 1 (by omega)]; exact hI.1.2.1) hY (fun w hw => saidS_wf hW.1 (drawL_wf _) hw))) rfl rfl rfl rfl rfl rfl (fun r1 m5 hq => ?_)
            obtain ⟨x, rfl, hx, hm5⟩ := hq
            rw [hm5]
            try dsimp only [List.set_cons_zero, List.set_cons_succ, Option.toList_some, Option.toList_none, List.cons_append, List.nil_append]
            refine AW.b rfl (fun hc => ?_) (fun hc => ?_)
            · have ex : x = 0 := hc
              have hn : noAl (oG Ω) (drawL ((oG Ω) 0 2) (s + nI i)) := by
                intro b hb
                obtain ⟨v, v1, v2, v3⟩ := hx
                have : v = 0 := (nI_eq (b := 0) v1 (by decide)).mp (v2.symm.trans ex)
                have hb := (v3 b).mpr hb
                rw [this] at hb
                simp at hb
              have ih := ih () m4 hlt hl4
              rw [show gdN Ω s (i + 1) = gdN Ω s i + 1 from cntP_yes hn] at ih
              repeat refine AW.u 33 rfl rfl ?_
              try dsimp only [List.set_cons_zero, List.set_cons_succ, Option.toList_some, Option.toList_none, List.cons_append, List.nil_append]
              rw [nI_1]
              rw [← nJ_1 (gdN Ω s i) (by omega)] at ih
              exact ih
            · have ex : ¬ x = 0 := hc
              have hn : ¬ noAl (oG Ω) (drawL ((oG Ω) 0 2) (s + nI i)) := by
                intro hn
                apply ex
                exact isBits.uniq hx isBits.zero (fun b => ⟨fun q => hn b q, fun q => absurd q id⟩)
              have ih := ih () m4 hlt hl4
              rw [show gdN Ω s (i + 1) = gdN Ω s i from cntP_no hn] at ih
              repeat refine AW.u 33 rfl rfl ?_
              try dsimp only [List.set_cons_zero, List.set_cons_succ, Option.toList_some, Option.toList_none, List.cons_append, List.nil_append]
              rw [nI_1]
              rw [← nJ_p (gdN Ω s i) (by omega)] at ih
              exact ih
          · have : i = j := by
              have : ¬ i < j := fun q => hc ((nI_ltI (by omega) (by omega)).mpr q)
              omega
            subst this
            have hg0 : 0 < Nat.gcd (gdN Ω s i) i := Nat.gcd_pos_of_pos_right _ (by omega)
            have hgi : Nat.gcd (gdN Ω s i) i ≤ i := Nat.gcd_le_right _ (by omega)
            repeat refine AW.s rfl ?_
            try dsimp only [List.set_cons_zero, List.set_cons_succ, Option.toList_some, Option.toList_none, List.cons_append, List.nil_append]
            refine AW.V k_11_287 ((c_MlayBack' hW hI hl)) rfl rfl rfl rfl rfl rfl (fun r1 m5 hq => ?_)
            obtain ⟨rfl, hI5, hK5⟩ := hq
            repeat refine AW.s rfl ?_
            try dsimp only [List.set_cons_zero, List.set_cons_succ, Option.toList_some, Option.toList_none, List.cons_append, List.nil_append]
            refine AW.S k_11_308 ((c_Mdivisor (a := gdN Ω s i) (b := i) (by omega) (by omega))) rfl rfl rfl rfl (fun r1 m6 hq => ?_)
            obtain ⟨rfl, hm6⟩ := hq
            rw [hm6]
            repeat refine AW.s rfl ?_
            try dsimp only [List.set_cons_zero, List.set_cons_succ, Option.toList_some, Option.toList_none, List.cons_append, List.nil_append]
            refine AW.b rfl (fun hc => ?_) (fun hc => ?_)
            · rw [if_pos hc]
              repeat refine AW.s rfl ?_
              try dsimp only [List.set_cons_zero, List.set_cons_succ, Option.toList_some, Option.toList_none, List.cons_append, List.nil_append]
              refine AW.c rfl (fun q => absurd ((nJ_0 _ (by omega)).mp q) (by omega)) ?_
              try dsimp only [List.set_cons_zero, List.set_cons_succ, Option.toList_some, Option.toList_none, List.cons_append, List.nil_append]
              rw [nJ_div _ (by omega) _ (by omega) hg0]
              repeat refine AW.s rfl ?_
              try dsimp only [List.set_cons_zero, List.set_cons_succ, Option.toList_some, Option.toList_none, List.cons_append, List.nil_append]
              exact AW.rl rfl rfl ⟨rfl, hI5, hK5⟩
            · rw [if_neg hc]
              repeat refine AW.s rfl ?_
              try dsimp only [List.set_cons_zero, List.set_cons_succ, Option.toList_some, Option.toList_none, List.cons_append, List.nil_append]
              refine AW.c rfl (fun q => absurd ((nJ_0 _ (by omega)).mp q) (by omega)) ?_
              try dsimp only [List.set_cons_zero, List.set_cons_succ, Option.toList_some, Option.toList_none, List.cons_append, List.nil_append]
              rw [show (nI i).toInt64 = nJ i from rfl, nJ_div _ (by omega) _ (by omega) hg0]
              repeat refine AW.s rfl ?_
              try dsimp only [List.set_cons_zero, List.set_cons_succ, Option.toList_some, Option.toList_none, List.cons_append, List.nil_append]
              exact AW.rl rfl rfl ⟨rfl, hI5, hK5⟩
      · rw [wB_0 q3]
        refine AW.b rfl (fun hc => ?_) (fun hc => ?_)
        · exact hbad (by
            unfold chanceF
            rw [cif_t ⟨j, j1, j2, rfl⟩, cif_f q3])
        · exact absurd rfl hc
  · have eb : (if n < 1 then (0 : Int32) else if 20 < n then 0 else 1) = 0 := by
      by_cases z1 : n < 1
      · rw [if_pos z1]
      · rw [if_neg z1]
        by_cases z2 : 20 < n
        · rw [if_pos z2]
        · exfalso
          obtain ⟨j, hj, rfl⟩ := nI_of (x := n) (fun q => z1 (Int32.lt_trans q (by decide)))
          refine q1 ⟨j, ?_, ?_, rfl⟩
          · have : ¬ j < 1 := fun q => z1 (nI_lt (b := 1) q (by decide))
            omega
          · have : ¬ 20 < j := fun q => z2 (nI_lt (a := 20) q hj)
            omega
    rw [eb]
    refine AW.b rfl (fun hc => ?_) (fun hc => ?_)
    · exact hbad (by unfold chanceF; rw [cif_f q1])
    · exact absurd rfl hc
end

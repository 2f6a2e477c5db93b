-- ===== the model: heard, found, alikeTexts, film =====
theorem mUp_id {m : Mem} {h k : Nat} : mUp m h k (m h k) = m := by
  funext a
  by_cases e : a = h
  · subst e
    funext j
    by_cases e2 : j = k
    · subst e2; exact mUp_s _ _ _ _
    · exact mUp_n (Or.inr e2)
  · exact mUp_a e
theorem mUp_e {m : Mem} {h k : Nat} {x : Int32} (e : m h k = x) : mUp m h k x = m := by rw [← e]; exact mUp_id
/-- a sum -/
noncomputable def smN (f : Nat → Nat) (j : Nat) : Nat := match j with
  | 0 => 0
  | j + 1 => smN f j + f j
theorem smN_c {f g : Nat → Nat} (n : Nat) (h : ∀ r, r < n → f r = g r) : smN f n = smN g n := by
  induction n with
  | zero => rw [smN, smN]
  | succ n ih => rw [smN, smN, ih (fun r hr => h r (by omega)), h n (by omega)]
theorem smN_up {f g : Nat → Nat} {j c : Nat} (n : Nat) (hj : j < n) (h : ∀ r, r < n → r ≠ j → g r = f r) (hc : g j = f j + c) : smN g n = smN f n + c := by
  induction n with
  | zero => omega
  | succ n ih =>
    rw [smN, smN]
    by_cases e : j = n
    · subst e
      rw [smN_c j (fun r hr => h r (by omega) (by omega)), hc]
      omega
    · rw [ih (by omega) (fun r hr hne => h r (by omega) hne), h n (by omega) (fun z => e z.symm)]
      omega
theorem smN_le {f : Nat → Nat} {c : Nat} (n : Nat) (h : ∀ r, r < n → f r ≤ c) : smN f n ≤ n * c := by
  induction n with
  | zero => rw [smN]; omega
  | succ n ih =>
    have := ih (fun r hr => h r (by omega))
    have := h n (by omega)
    rw [smN, Nat.succ_mul]
    omega
theorem ptt_sm {σ : Sg} {g : Nat → Int32} {n : Nat} (i : Nat) : pttN σ g n i = smN (wttN σ g n) i := by
  induction i with
  | zero => rw [pttN, smN]
  | succ i ih => rw [pttN_s, smN, ih]
section
variable {l : Launch} {X : XT} {d : Nat} {m : Mem} {Ω : OM}
theorem c_MisHeard {s z : Nat} {o : Option (List Nat)} {g : Nat → Int32} (hs4 : s < 4) (hz : m 267 s = nI z) (hz40 : z ≤ 40) (hg : ∀ k, k < z → m 268 (40 * s + k) = g k) (hy : RTn m o) (ho : WFo o) : Meth l X d M_X11_isHeard [vR 12 243, vI (nI s)] m (fun r m' => ∃ b : Bool, r = some (vI (if b then 1 else 0)) ∧ (b = true ↔ telO g z o) ∧ m' = m) := by
  refine E_X11_isHeard (ls := [vR 12 243, vI (nI s), vU, vU]) rfl rfl ?_
  repeat refine AW.s rfl ?_
  try dsimp only [List.set_cons_zero, List.set_cons_succ, Option.toList_some, Option.toList_none, List.cons_append, List.nil_append]
  refine AW.c rfl (vp_in_nI (by omega) (by decide)) ?_
  try dsimp only [List.set_cons_zero, List.set_cons_succ, Option.toList_some, Option.toList_none, List.cons_append, List.nil_append]
  rw [nI_clamp (by omega), show m (243 + 24) s = nI z from hz]
  cases o with
  | none =>
    have hy : m 243 36 = -3 := hy
    have no : ¬ telO g z none := fun ⟨xs, e, _⟩ => by cases e
    rw [hy]
    refine AW.b rfl (fun hc => ?_) (fun hc => ?_)
    · exact absurd (by rw [hc]; exact nI_pos (by omega) : ¬ (-3 : Int32) < 0) (by decide)
    · repeat refine AW.s rfl ?_
      try dsimp only [List.set_cons_zero, List.set_cons_succ, Option.toList_some, Option.toList_none, List.cons_append, List.nil_append]
      rw [hy]
      refine AW.b rfl (fun hc => ?_) (fun hc => ?_)
      · exact absurd hc (by decide)
      · repeat refine AW.s rfl ?_
        try dsimp only [List.set_cons_zero, List.set_cons_succ, Option.toList_some, Option.toList_none, List.cons_append, List.nil_append]
        exact AW.ri rfl rfl rfl ⟨false, rfl, ⟨fun q => (by cases q), fun q => absurd q no⟩, rfl⟩
  | some xs =>
    obtain ⟨g1, g2, g3⟩ := ho xs rfl
    have hlen : m 243 36 = nI xs.length := hy.1
    rw [hlen]
    -- the loop
    have key : ∀ b0 : Bool, (b0 = true ↔ xs.length = z) → AW (GM l X d M_X11_isHeard (fun r m' => ∃ b : Bool, r = some (vI (if b then 1 else 0)) ∧ (b = true ↔ telO g z (some xs)) ∧ m' = m)) 21 [vR 12 243, vI (nI s), vI (if b0 then 1 else 0), vI (nI 0)] [] m := by
      intro b0 hb0
      refine AW.loop (pc := 21) (σ := Bool) xs.length (fun k bb => [vR 12 243, vI (nI s), vI (if bb then 1 else 0), vI (nI k)]) (fun k bb m1 => m1 = m ∧ (bb = true → xs.length = z ∧ ∀ j x, j < k → xs[j]? = some x → g j = nI x) ∧ (bb = false → ¬ telO g z (some xs))) (fun k bb m1 hk hm1 ih => ?_) 0 b0 m (Nat.zero_le _) ⟨rfl, fun e => ⟨hb0.mp e, fun j x hj => absurd hj (by omega)⟩, fun e ⟨ys, e1, e2, _⟩ => by cases e1; rw [hb0.mpr e2] at e; cases e⟩
      obtain ⟨rfl, hbt, hbf⟩ := hm1
      repeat refine AW.s rfl ?_
      try dsimp only [List.set_cons_zero, List.set_cons_succ, Option.toList_some, Option.toList_none, List.cons_append, List.nil_append]
      rw [hlen]
      refine AW.b rfl (fun hc => ?_) (fun hc => ?_)
      · have hlt : k < xs.length := (nI_ltI (by omega) (by omega)).mp hc
        repeat refine AW.s rfl ?_
        try dsimp only [List.set_cons_zero, List.set_cons_succ, Option.toList_some, Option.toList_none, List.cons_append, List.nil_append]
        cases bb with
        | false =>
          refine AW.b rfl (fun hc => ?_) (fun hc => ?_)
          · repeat refine AW.s rfl ?_
            try dsimp only [List.set_cons_zero, List.set_cons_succ, Option.toList_some, Option.toList_none, List.cons_append, List.nil_append]
            exact AW.ri rfl rfl rfl ⟨false, rfl, ⟨fun q => (by cases q), fun q => absurd q (hbf rfl)⟩, rfl⟩
          · exact absurd rfl hc
        | true =>
          obtain ⟨t1, t2⟩ := hbt rfl
          obtain ⟨x, hx⟩ : ∃ x, xs[k]? = some x := ⟨_, List.getElem?_eq_getElem hlt⟩
          refine AW.b rfl (fun hc => ?_) (fun hc => ?_)
          · exact absurd (show (1 : Int32) = 0 from hc) (by decide)
          · repeat refine AW.s rfl ?_
            try dsimp only [List.set_cons_zero, List.set_cons_succ, Option.toList_some, Option.toList_none, List.cons_append, List.nil_append]
            refine AW.c rfl (vp_in_nI (by omega) (by decide)) ?_
            try dsimp only [List.set_cons_zero, List.set_cons_succ, Option.toList_some, Option.toList_none, List.cons_append, List.nil_append]
            rw [nI_clamp (by omega), show m1 (243 + 19) k = nI x from hy.2 k x hx]
            repeat refine AW.s rfl ?_
            try dsimp only [List.set_cons_zero, List.set_cons_succ, Option.toList_some, Option.toList_none, List.cons_append, List.nil_append]
            rw [show (40 : Int32) * nI s = nI (40 * s) from pk_mul 40 s, nI_add]
            refine AW.c rfl (vp_in_nI (by omega) (by decide)) ?_
            try dsimp only [List.set_cons_zero, List.set_cons_succ, Option.toList_some, Option.toList_none, List.cons_append, List.nil_append]
            rw [nI_clamp (by omega), show m1 (243 + 25) (40 * s + k) = g k from hg k (by omega)]
            refine AW.b rfl (fun hc => ?_) (fun hc => ?_)
            · have e : nI x = g k := hc
              repeat refine AW.u 21 rfl rfl ?_
              try dsimp only [List.set_cons_zero, List.set_cons_succ, Option.toList_some, Option.toList_none, List.cons_append, List.nil_append]
              rw [nI_1]
              refine ih true m1 hlt ⟨rfl, fun _ => ⟨t1, fun j y hj hjy => ?_⟩, fun q => by cases q⟩
              by_cases e2 : j = k
              · subst e2; rw [hx] at hjy; cases hjy; exact e.symm
              · exact t2 j y (by omega) hjy
            · have e : ¬ nI x = g k := hc
              repeat refine AW.u 21 rfl rfl ?_
              try dsimp only [List.set_cons_zero, List.set_cons_succ, Option.toList_some, Option.toList_none, List.cons_append, List.nil_append]
              rw [nI_1]
              refine ih false m1 hlt ⟨rfl, fun q => (by cases q), fun _ ⟨ys, e1, _, e3⟩ => ?_⟩
              cases e1
              exact e (e3 k x hx).symm
      · have : k = xs.length := by
          have : ¬ k < xs.length := fun q => hc ((nI_ltI (by omega) (by omega)).mpr q)
          omega
        subst this
        repeat refine AW.s rfl ?_
        try dsimp only [List.set_cons_zero, List.set_cons_succ, Option.toList_some, Option.toList_none, List.cons_append, List.nil_append]
        cases bb with
        | false => exact AW.ri rfl rfl rfl ⟨false, rfl, ⟨fun q => (by cases q), fun q => absurd q (hbf rfl)⟩, rfl⟩
        | true =>
          obtain ⟨t1, t2⟩ := hbt rfl
          exact AW.ri rfl rfl rfl ⟨true, rfl, ⟨fun _ => ⟨xs, rfl, t1, fun j x hj => t2 j x (List.getElem?_eq_some_iff.mp hj).1 hj⟩, fun _ => rfl⟩, rfl⟩
    refine AW.b rfl (fun hc => ?_) (fun hc => ?_)
    · have e : xs.length = z := (nI_eq (by omega) (by omega)).mp hc
      repeat refine AW.u 21 rfl rfl ?_
      try dsimp only [List.set_cons_zero, List.set_cons_succ, Option.toList_some, Option.toList_none, List.cons_append, List.nil_append]
      exact key true ⟨fun _ => e, fun _ => rfl⟩
    · have e : ¬ xs.length = z := fun q => hc (by rw [q])
      repeat refine AW.u 21 rfl rfl ?_
      try dsimp only [List.set_cons_zero, List.set_cons_succ, Option.toList_some, Option.toList_none, List.cons_append, List.nil_append]
      exact key false ⟨fun q => (by cases q), fun q => absurd q e⟩
theorem M_heard {a b : Int32} (hd : 7 ≤ d) (hW : WO Ω) (hI : InvM m Ω) : Meth l X d M_X11_heard [vR 12 243, vI a, vI b] m (fun r m' => ∃ x, r = some (vI x) ∧ heardR Ω a b x ∧ FrM m m') := by
  obtain ⟨d, rfl⟩ : ∃ e, d = e + 1 := ⟨d - 1, by omega⟩
  have h1 := hW.1.2.1
  have h2 := hW.1.2.2.1
  refine E_X11_heard (ls := [vR 12 243, vI a, vI b, vU, vU, vU, vU, vU]) rfl rfl ?_
  repeat refine AW.s rfl ?_
  try dsimp only [List.set_cons_zero, List.set_cons_succ, Option.toList_some, Option.toList_none, List.cons_append, List.nil_append]
  refine AW.S k_11_14 ((c_MisSheet (by omega))) rfl rfl rfl rfl (fun r1 m9 hq => ?_)
  obtain ⟨rfl, hm9⟩ := hq
  rw [hm9]
  try dsimp only [List.set_cons_zero, List.set_cons_succ, Option.toList_some, Option.toList_none, List.cons_append, List.nil_append]
  by_cases q1 : wB a 3 = 1
  · rw [q1]
    refine AW.b rfl (fun hc => ?_) (fun hc => ?_)
    · exact absurd hc (by decide)
    · repeat refine AW.s rfl ?_
      try dsimp only [List.set_cons_zero, List.set_cons_succ, Option.toList_some, Option.toList_none, List.cons_append, List.nil_append]
      refine AW.S k_11_7 (c_in0) rfl rfl rfl rfl (fun r1 m8 hq => ?_)
      obtain ⟨rfl, hm8⟩ := hq
      rw [hm8]
      try dsimp only [List.set_cons_zero, List.set_cons_succ, Option.toList_some, Option.toList_none, List.cons_append, List.nil_append]
      by_cases q2 : wB b 2 = 1
      · rw [q2]
        obtain ⟨i, hi, rfl⟩ := (wB_1 (n := 3) (by decide)).mp q1
        obtain ⟨p, hp, rfl⟩ := (wB_1 (n := 2) (by decide)).mp q2
        obtain ⟨s1, s2, s3⟩ := hI.2.2.2.2.2.2.2.1 i (by omega)
        have hsh := hW.2.2.2.2.2.2 i (by omega)
        have hz := hsh.le
        refine AW.b rfl (fun hc => ?_) (fun hc => ?_)
        · exact absurd hc (by decide)
        · repeat refine AW.s rfl ?_
          try dsimp only [List.set_cons_zero, List.set_cons_succ, Option.toList_some, Option.toList_none, List.cons_append, List.nil_append]
          refine AW.c rfl (vp_in_nI (by omega) (by decide)) ?_
          try dsimp only [List.set_cons_zero, List.set_cons_succ, Option.toList_some, Option.toList_none, List.cons_append, List.nil_append]
          rw [nI_clamp (by omega), show m (243 + 23) i = oS Ω i from s1]
          refine AW.b rfl (fun hc => ?_) (fun hc => ?_)
          · have q3 := (sort_lt hsh).mp hc
            repeat refine AW.s rfl ?_
            try dsimp only [List.set_cons_zero, List.set_cons_succ, Option.toList_some, Option.toList_none, List.cons_append, List.nil_append]
            exact AW.ri rfl rfl rfl ⟨_, rfl, Or.inl ⟨q1, q2, Or.inl (by rw [nI_clamp (by omega)]; exact ⟨q3, rfl⟩)⟩, FrM.rf⟩
          · have q3 : ¬ oS Ω i = -1 := fun z => hc ((sort_lt hsh).mpr z)
            have rel : ∀ x, heardX Ω i (nI p) x → heardR Ω (nI i) (nI p) x := fun x h => Or.inl ⟨q1, q2, Or.inr (by rw [nI_clamp (by omega)]; exact ⟨q3, h⟩)⟩
            generalize hσ : oG Ω = σ at *
            have hσF := hW.1
            rw [hσ] at hσF
            have hs0 : RepM m σ := by rw [← hσ]; exact hI.1
            -- one rule turns a word into what the sheet tells
            have hPd : ∀ r w, telO (oI Ω i) (oZ Ω i) (turnS σ r (some (wl σ w))) ↔ telO (oI Ω i) (oZ Ω i) (turnS σ r (some (wl σ w))) := fun _ _ => Iff.rfl
            have h00 : smN (fun r => cntP (fun v => telO (oI Ω i) (oZ Ω i) (turnS σ r (some (wl σ v)))) 0) (σ 0 2) = 0 := by
              rw [smN_c (g := fun _ => 0) (σ 0 2) (fun r _ => by rw [cntP])]
              have := smN_le (f := fun _ => 0) (c := 0) (σ 0 2) (fun _ _ => Nat.le_refl _)
              omega
            repeat refine AW.u 42 rfl rfl ?_
            try dsimp only [List.set_cons_zero, List.set_cons_succ, Option.toList_some, Option.toList_none, List.cons_append, List.nil_append]
            suffices hk : AW (GM l X (d + 1) M_X11_heard (fun r m' => ∃ x, r = some (vI x) ∧ heardR Ω (nI i) (nI p) x ∧ FrM m m')) 42 [vR 12 243, vI (nI i), vI (nI p), vI 0, vI 0, vI (nI (smN (fun r => cntP (fun v => telO (oI Ω i) (oZ Ω i) (turnS σ r (some (wl σ v)))) 0) (σ 0 2))), vI (nI 0), vU] [] m by rw [h00] at hk; exact hk
            refine AW.loop (pc := 42) (σ := Int32 × Int32) (σ 0 1) (fun w st => [vR 12 243, vI (nI i), vI (nI p), vI st.1, vI st.2, vI (nI (smN (fun r => cntP (fun v => telO (oI Ω i) (oZ Ω i) (turnS σ r (some (wl σ v)))) w) (σ 0 2))), vI (nI w), vU]) (fun w st m1 => FrT m m1 ∧ isBits st.1 (fun v => v < w ∧ telO (oI Ω i) (oZ Ω i) (saidS σ (rowL σ) v)) ∧ isBits st.2 (fun r => r < σ 0 2 ∧ 0 < cntP (fun v => telO (oI Ω i) (oZ Ω i) (turnS σ r (some (wl σ v)))) w)) (fun w st m1 hw hm1 ih => ?_) 0 (0, 0) m (Nat.zero_le _) ⟨FrT.rf, isBits.zero.to (fun b => ⟨fun q => absurd q id, fun q => absurd q.1 (by omega)⟩), isBits.zero.to (fun b => ⟨fun q => absurd q id, fun q => absurd q.2 (by rw [cntP]; omega)⟩)⟩
            case _ =>
              obtain ⟨x1, x2⟩ := st
              obtain ⟨hf, hb1, hb2⟩ := hm1
              have hb1 : isBits x1 (fun v => v < w ∧ telO (oI Ω i) (oZ Ω i) (saidS σ (rowL σ) v)) := hb1
              have hb2 : isBits x2 (fun r => r < σ 0 2 ∧ 0 < cntP (fun v => telO (oI Ω i) (oZ Ω i) (turnS σ r (some (wl σ v)))) w) := hb2
              have hs1 := hs0.T hf
              repeat refine AW.s rfl ?_
              try dsimp only [List.set_cons_zero, List.set_cons_succ, Option.toList_some, Option.toList_none, List.cons_append, List.nil_append]
              rw [show m1 243 1 = nI (σ 0 1) from hs1.2.1]
              refine AW.b rfl (fun hc => ?_) (fun hc => ?_)
              · have hlw : w < σ 0 1 := (nI_ltI (by omega) (by omega)).mp hc
                repeat refine AW.s rfl ?_
                try dsimp only [List.set_cons_zero, List.set_cons_succ, Option.toList_some, Option.toList_none, List.cons_append, List.nil_append]
                refine AW.V k_11_232 ((c_Mbegin hs1 hσF hlw)) rfl rfl rfl rfl rfl rfl (fun r1 m2 hq => ?_)
                obtain ⟨rfl, p1, p2⟩ := hq
                repeat refine AW.s rfl ?_
                try dsimp only [List.set_cons_zero, List.set_cons_succ, Option.toList_some, Option.toList_none, List.cons_append, List.nil_append]
                refine AW.V k_11_235 ((c_MturnByRow (by omega) (hs1.T p2) hσF p1 (wl_wf hσF hlw))) rfl rfl rfl rfl rfl rfl (fun r1 m3 hq => ?_)
                obtain ⟨rfl, p3, p4⟩ := hq
                have f3 := (hf.tr p2).tr p4
                have fz : ∀ mm, FrT m mm → mm 267 i = nI (oZ Ω i) ∧ ∀ k, k < oZ Ω i → mm 268 (40 * i + k) = oI Ω i k := fun mm h => ⟨by rw [h.1 267 (by decide) (by decide) (by decide)]; exact s2, fun k hk => by rw [h.1 268 (by decide) (by decide) (by decide)]; exact s3 k hk⟩
                repeat refine AW.s rfl ?_
                try dsimp only [List.set_cons_zero, List.set_cons_succ, Option.toList_some, Option.toList_none, List.cons_append, List.nil_append]
                refine AW.V k_11_296 ((c_MisHeard (by omega) (fz m3 f3).1 hz (fz m3 f3).2 p3 (saidS_wf hσF (rowL_wf hσF) hlw))) rfl rfl rfl rfl rfl rfl (fun r1 m4 hq => ?_)
                obtain ⟨bb, rfl, hbb, hm4⟩ := hq
                rw [hm4]
                -- the inner loop, whatever the first bit became
                have inner : ∀ y : Int32, isBits y (fun v => v < w + 1 ∧ telO (oI Ω i) (oZ Ω i) (saidS σ (rowL σ) v)) → AW (GM l X (d + 1) M_X11_heard (fun r m' => ∃ x, r = some (vI x) ∧ heardR Ω (nI i) (nI p) x ∧ FrM m m')) 83 [vR 12 243, vI (nI i), vI (nI p), vI y, vI x2, vI (nI (smN (fun r => cntP (fun v => telO (oI Ω i) (oZ Ω i) (turnS σ r (some (wl σ v)))) w) (σ 0 2))), vI (nI w), vI (nI 0)] [] m3 := by
                  intro y hy
                  rw [smN_c (g := fun q => if q < 0 then cntP (fun v => telO (oI Ω i) (oZ Ω i) (turnS σ q (some (wl σ v)))) (w + 1) else cntP (fun v => telO (oI Ω i) (oZ Ω i) (turnS σ q (some (wl σ v)))) w) (σ 0 2) (fun q _ => (if_neg (Nat.not_lt_zero q)).symm)]
                  refine AW.loop (pc := 83) (σ := Int32) (σ 0 2) (fun r z => [vR 12 243, vI (nI i), vI (nI p), vI y, vI z, vI (nI (smN (fun q => if q < r then cntP (fun v => telO (oI Ω i) (oZ Ω i) (turnS σ q (some (wl σ v)))) (w + 1) else cntP (fun v => telO (oI Ω i) (oZ Ω i) (turnS σ q (some (wl σ v)))) w) (σ 0 2))), vI (nI w), vI (nI r)]) (fun r z m5 => FrT m m5 ∧ isBits z (fun q => q < σ 0 2 ∧ 0 < (if q < r then cntP (fun v => telO (oI Ω i) (oZ Ω i) (turnS σ q (some (wl σ v)))) (w + 1) else cntP (fun v => telO (oI Ω i) (oZ Ω i) (turnS σ q (some (wl σ v)))) w))) (fun r z m5 hr hm5 ih2 => ?_) 0 x2 m3 (Nat.zero_le _) ⟨f3, hb2⟩
                  obtain ⟨f5, hb5⟩ := hm5
                  have hs5 := hs0.T f5
                  repeat refine AW.s rfl ?_
                  try dsimp only [List.set_cons_zero, List.set_cons_succ, Option.toList_some, Option.toList_none, List.cons_append, List.nil_append]
                  rw [show m5 243 5 = nI (σ 0 2) from hs5.2.2.1]
                  refine AW.b rfl (fun hc => ?_) (fun hc => ?_)
                  · have hlr : r < σ 0 2 := (nI_ltI (by omega) (by omega)).mp hc
                    repeat refine AW.s rfl ?_
                    try dsimp only [List.set_cons_zero, List.set_cons_succ, Option.toList_some, Option.toList_none, List.cons_append, List.nil_append]
                    refine AW.V k_11_232 ((c_Mbegin hs5 hσF hlw)) rfl rfl rfl rfl rfl rfl (fun r1 m6 hq => ?_)
                    obtain ⟨rfl, u1, u2⟩ := hq
                    repeat refine AW.s rfl ?_
                    try dsimp only [List.set_cons_zero, List.set_cons_succ, Option.toList_some, Option.toList_none, List.cons_append, List.nil_append]
                    refine AW.V k_11_229 ((c_Mturn (by omega) (hs5.T u2) hσF hlr u1 (wl_wf hσF hlw))) rfl rfl rfl rfl rfl rfl (fun r1 m7 hq => ?_)
                    obtain ⟨rfl, u3, u4⟩ := hq
                    have f7 := (f5.tr u2).tr u4
                    repeat refine AW.s rfl ?_
                    try dsimp only [List.set_cons_zero, List.set_cons_succ, Option.toList_some, Option.toList_none, List.cons_append, List.nil_append]
                    refine AW.V k_11_296 ((c_MisHeard (by omega) (fz m7 f7).1 hz (fz m7 f7).2 u3 (turnS_wf hσF hlr (wl_wf hσF hlw)))) rfl rfl rfl rfl rfl rfl (fun r1 m8 hq => ?_)
                    obtain ⟨cc, rfl, hcc, hm8⟩ := hq
                    rw [hm8]
                    try dsimp only [List.set_cons_zero, List.set_cons_succ, Option.toList_some, Option.toList_none, List.cons_append, List.nil_append]
                    cases cc with
                    | true =>
                      have hy1 := cntP_yes (P := fun v => telO (oI Ω i) (oZ Ω i) (turnS σ r (some (wl σ v)))) (i := w) (hcc.mp rfl)
                      have hsm := smN_up (f := fun q => if q < r then cntP (fun v => telO (oI Ω i) (oZ Ω i) (turnS σ q (some (wl σ v)))) (w + 1) else cntP (fun v => telO (oI Ω i) (oZ Ω i) (turnS σ q (some (wl σ v)))) w) (g := fun q => if q < r + 1 then cntP (fun v => telO (oI Ω i) (oZ Ω i) (turnS σ q (some (wl σ v)))) (w + 1) else cntP (fun v => telO (oI Ω i) (oZ Ω i) (turnS σ q (some (wl σ v)))) w) (j := r) (c := 1) (σ 0 2) hlr (fun q _ hq => by
                        by_cases z1 : q < r
                        · rw [if_pos z1, if_pos (by omega)]
                        · rw [if_neg z1, if_neg (by omega)]) (by rw [if_pos (by omega), if_neg (by omega)]; exact hy1)
                      refine AW.b rfl (fun hc => ?_) (fun hc => ?_)
                      · exact absurd (show (1 : Int32) = 0 from hc) (by decide)
                      · repeat refine AW.u 83 rfl rfl ?_
                        try dsimp only [List.set_cons_zero, List.set_cons_succ, Option.toList_some, Option.toList_none, List.cons_append, List.nil_append]
                        rw [nI_1, nI_1, ← hsm]
                        refine ih2 _ _ hlr ⟨f7, (hb5.or (k := r) (by omega)).to (fun q => ⟨fun z => ?_, fun z => ?_⟩)⟩
                        · rcases z with z | rfl
                          · refine ⟨z.1, ?_⟩
                            by_cases z1 : q < r
                            · rw [if_pos (by omega)]; rw [if_pos z1] at z; exact z.2
                            · by_cases z2 : q = r
                              · subst z2; rw [if_pos (by omega), hy1]; omega
                              · rw [if_neg (by omega)]; rw [if_neg z1] at z; exact z.2
                          · exact ⟨hlr, by rw [if_pos (by omega), hy1]; omega⟩
                        · by_cases z2 : q = r
                          · exact Or.inr z2
                          · refine Or.inl ⟨z.1, ?_⟩
                            by_cases z1 : q < r
                            · rw [if_pos z1]; rw [if_pos (by omega)] at z; exact z.2
                            · rw [if_neg z1]; rw [if_neg (by omega)] at z; exact z.2
                    | false =>
                      have hn1 := cntP_no (P := fun v => telO (oI Ω i) (oZ Ω i) (turnS σ r (some (wl σ v)))) (i := w) (fun q => by cases hcc.mpr q)
                      have hsm := smN_up (f := fun q => if q < r then cntP (fun v => telO (oI Ω i) (oZ Ω i) (turnS σ q (some (wl σ v)))) (w + 1) else cntP (fun v => telO (oI Ω i) (oZ Ω i) (turnS σ q (some (wl σ v)))) w) (g := fun q => if q < r + 1 then cntP (fun v => telO (oI Ω i) (oZ Ω i) (turnS σ q (some (wl σ v)))) (w + 1) else cntP (fun v => telO (oI Ω i) (oZ Ω i) (turnS σ q (some (wl σ v)))) w) (j := r) (c := 0) (σ 0 2) hlr (fun q _ hq => by
                        by_cases z1 : q < r
                        · rw [if_pos z1, if_pos (by omega)]
                        · rw [if_neg z1, if_neg (by omega)]) (by rw [if_pos (by omega), if_neg (by omega)]; exact hn1)
                      have hsm : smN (fun q => if q < r + 1 then cntP (fun v => telO (oI Ω i) (oZ Ω i) (turnS σ q (some (wl σ v)))) (w + 1) else cntP (fun v => telO (oI Ω i) (oZ Ω i) (turnS σ q (some (wl σ v)))) w) (σ 0 2) = smN (fun q => if q < r then cntP (fun v => telO (oI Ω i) (oZ Ω i) (turnS σ q (some (wl σ v)))) (w + 1) else cntP (fun v => telO (oI Ω i) (oZ Ω i) (turnS σ q (some (wl σ v)))) w) (σ 0 2) := hsm
                      refine AW.b rfl (fun hc => ?_) (fun hc => ?_)
                      · repeat refine AW.u 83 rfl rfl ?_
                        try dsimp only [List.set_cons_zero, List.set_cons_succ, Option.toList_some, Option.toList_none, List.cons_append, List.nil_append]
                        rw [nI_1, ← hsm]
                        refine ih2 _ _ hlr ⟨f7, hb5.to (fun q => and_congr Iff.rfl ?_)⟩
                        by_cases z1 : q < r
                        · rw [if_pos z1, if_pos (by omega)]
                        · by_cases z2 : q = r
                          · subst z2; rw [if_neg z1, if_pos (by omega), hn1]
                          · rw [if_neg z1, if_neg (by omega)]
                      · exact absurd rfl hc
                  · have : r = σ 0 2 := by
                      have : ¬ r < σ 0 2 := fun q => hc ((nI_ltI (by omega) (by omega)).mpr q)
                      omega
                    subst this
                    rw [smN_c (g := fun q => cntP (fun v => telO (oI Ω i) (oZ Ω i) (turnS σ q (some (wl σ v)))) (w + 1)) (σ 0 2) (fun q hq => if_pos hq)]
                    repeat refine AW.u 42 rfl rfl ?_
                    try dsimp only [List.set_cons_zero, List.set_cons_succ, Option.toList_some, Option.toList_none, List.cons_append, List.nil_append]
                    refine AW.fg 7 ?_
                    try dsimp only [List.set_cons_zero, List.set_cons_succ, Option.toList_some, Option.toList_none, List.cons_append, List.nil_append]
                    rw [nI_1]
                    exact ih (y, z) _ hlw ⟨f5, hy, hb5.to (fun q => ⟨fun z => ⟨z.1, by rw [if_pos z.1] at z; exact z.2⟩, fun z => ⟨z.1, by rw [if_pos z.1]; exact z.2⟩⟩)⟩
                try dsimp only [List.set_cons_zero, List.set_cons_succ, Option.toList_some, Option.toList_none, List.cons_append, List.nil_append]
                cases bb with
                | true =>
                  refine AW.b rfl (fun hc => ?_) (fun hc => ?_)
                  · exact absurd (show (1 : Int32) = 0 from hc) (by decide)
                  · repeat refine AW.u 83 rfl rfl ?_
                    try dsimp only [List.set_cons_zero, List.set_cons_succ, Option.toList_some, Option.toList_none, List.cons_append, List.nil_append]
                    refine inner _ ((hb1.or (k := w) (by omega)).to (fun r => ⟨fun q => ?_, fun q => ?_⟩))
                    · rcases q with q | rfl
                      · exact ⟨by omega, q.2⟩
                      · exact ⟨by omega, hbb.mp rfl⟩
                    · by_cases e : r = w
                      · exact Or.inr e
                      · exact Or.inl ⟨by omega, q.2⟩
                | false =>
                  refine AW.b rfl (fun hc => ?_) (fun hc => ?_)
                  · repeat refine AW.u 83 rfl rfl ?_
                    try dsimp only [List.set_cons_zero, List.set_cons_succ, Option.toList_some, Option.toList_none, List.cons_append, List.nil_append]
                    rw [show x1 ||| 0 = x1 by simp]
                    refine inner _ (hb1.to (fun r => ⟨fun q => ⟨by omega, q.2⟩, fun q => ?_⟩))
                    by_cases e : r = w
                    · subst e; exact absurd (hbb.mpr q.2) (by decide)
                    · exact ⟨by omega, q.2⟩
                  · exact absurd rfl hc
              · have : w = σ 0 1 := by
                  have : ¬ w < σ 0 1 := fun q => hc ((nI_ltI (by omega) (by omega)).mpr q)
                  omega
                subst this
                repeat refine AW.s rfl ?_
                try dsimp only [List.set_cons_zero, List.set_cons_succ, Option.toList_some, Option.toList_none, List.cons_append, List.nil_append]
                refine AW.b rfl (fun hc => ?_) (fun hc => ?_)
                · have e : p = 0 := (nI_eq (b := 0) (by omega) (by decide)).mp hc
                  subst e
                  repeat refine AW.s rfl ?_
                  try dsimp only [List.set_cons_zero, List.set_cons_succ, Option.toList_some, Option.toList_none, List.cons_append, List.nil_append]
                  exact AW.ri rfl rfl rfl ⟨_, rfl, rel _ (Or.inl ⟨rfl, by rw [hσ]; exact hb1⟩), hf.M⟩
                · have e : ¬ p = 0 := fun q => hc (by rw [q]; rfl)
                  repeat refine AW.s rfl ?_
                  try dsimp only [List.set_cons_zero, List.set_cons_succ, Option.toList_some, Option.toList_none, List.cons_append, List.nil_append]
                  refine AW.b rfl (fun hc => ?_) (fun hc => ?_)
                  · have e : p = 1 := (nI_eq (b := 1) (by omega) (by decide)).mp hc
                    subst e
                    repeat refine AW.s rfl ?_
                    try dsimp only [List.set_cons_zero, List.set_cons_succ, Option.toList_some, Option.toList_none, List.cons_append, List.nil_append]
                    exact AW.ri rfl rfl rfl ⟨_, rfl, rel _ (Or.inr (Or.inl ⟨rfl, by rw [hσ]; exact hb2⟩)), hf.M⟩
                  · have e2 : ¬ p = 1 := fun q => hc (by rw [q]; rfl)
                    repeat refine AW.s rfl ?_
                    try dsimp only [List.set_cons_zero, List.set_cons_succ, Option.toList_some, Option.toList_none, List.cons_append, List.nil_append]
                    refine AW.ri rfl rfl rfl ⟨_, rfl, rel _ (Or.inr (Or.inr ⟨by rw [show p = 2 by omega]; rfl, ?_⟩)), hf.M⟩
                    rw [ptt_sm, hσ]
                    rfl
      · rw [wB_0 q2]
        refine AW.b rfl (fun hc => ?_) (fun hc => ?_)
        · repeat refine AW.s rfl ?_
          try dsimp only [List.set_cons_zero, List.set_cons_succ, Option.toList_some, Option.toList_none, List.cons_append, List.nil_append]
          exact AW.ri rfl rfl rfl ⟨_, rfl, Or.inr ⟨fun q => q2 q.2, rfl⟩, FrM.rf⟩
        · exact absurd rfl hc
  · rw [wB_0 q1]
    refine AW.b rfl (fun hc => ?_) (fun hc => ?_)
    · repeat refine AW.s rfl ?_
      try dsimp only [List.set_cons_zero, List.set_cons_succ, Option.toList_some, Option.toList_none, List.cons_append, List.nil_append]
      exact AW.ri rfl rfl rfl ⟨_, rfl, Or.inr ⟨fun q => q1 q.1, rfl⟩, FrM.rf⟩
    · exact absurd rfl hc
end

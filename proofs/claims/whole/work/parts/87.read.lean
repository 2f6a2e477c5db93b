-- ===== read =====
/-- what read leaves of the text: it tells these -/
def rdT (m : Mem) (T : Nat) (abc : FX × FX × FX) : Prop := ∃ en, TOK m T en ∧ ∀ F, tval m T en 0 F = abc.1 F ∧ tval m T en 1 F = abc.2.1 F ∧ tval m T en 2 F = abc.2.2 F
theorem rdP_1 {ts r : List TK} (h : prtP 4 ts = (none, r)) : rdP ts = (none, r) := by unfold rdP; rw [h]
theorem rdP_2 {ts r1 r : List TK} {a : FX} (h1 : prtP 4 ts = (some a, r1)) (h : prtP 5 r1 = (none, r)) : rdP ts = (none, r) := by unfold rdP; rw [h1]; dsimp only; rw [h]
theorem rdP_3 {ts r1 r2 r : List TK} {a b : FX} (h1 : prtP 4 ts = (some a, r1)) (h2 : prtP 5 r1 = (some b, r2)) (h : prtP 6 r2 = (none, r)) : rdP ts = (none, r) := by unfold rdP; rw [h1]; dsimp only; rw [h2]; dsimp only; rw [h]
theorem rdP_4 {ts r1 r2 r : List TK} {a b c : FX} (h1 : prtP 4 ts = (some a, r1)) (h2 : prtP 5 r1 = (some b, r2)) (h : prtP 6 r2 = (some c, r)) : rdP ts = if hk r = 0 then (some (a, b, c), r) else (none, r) := by unfold rdP; rw [h1]; dsimp only; rw [h2]; dsimp only; rw [h]
theorem c_read {l : Launch} {X : XT} {d t s : Nat} {m : Mem} (hd : 63 ≤ d) (ht : t < 6) (hs : m 36 1 = nI s) (hs1 : s ≤ 160) (hby : ∀ k, k < s → ∃ b, b < 256 ∧ m 37 k = nI b) :
    Meth l X d M_X2_read [vR 3 41, vR 9 36, vR 10 (199 + 6 * t)] m (fun r m' => ((∃ rs, rdP (tks (m 37) s 161 0) = (none, rs) ∧ r = some (vI (nI (hpl rs)))) ∨ ∃ abc rs, rdP (tks (m 37) s 161 0) = (some abc, rs) ∧ r = some (vI (-1)) ∧ rdT m' (199 + 6 * t) abc) ∧ (∀ a, a ≠ 36 → a ≠ 38 → a ≠ 39 → a ≠ 40 → a ≠ 41 → (a < 199 + 6 * t ∨ 199 + 6 * t + 5 < a) → m' a = m a) ∧ m' 36 1 = m 36 1) := by
  obtain ⟨d, rfl⟩ : ∃ e, d = e + 1 := ⟨d - 1, by omega⟩
  refine E_X2_read (ls := [vR 3 41, vR 9 36, vR 10 (199 + 6 * t), vU]) rfl rfl ?_
  repeat refine AW.s rfl ?_
  try dsimp only [List.set_cons_zero, List.set_cons_succ, Option.toList_some, Option.toList_none, List.cons_append, List.nil_append]
  generalize hm0 : mUp (mUp (mUp (mUp m 41 0 (Int32.ofNat 36)) 41 1 (Int32.ofNat (199 + 6 * t))) 41 2 0) 41 3 0 = m0
  have f0 : ∀ a, a ≠ 41 → m0 a = m a := fun a h => by rw [← hm0, mUp_a h, mUp_a h, mUp_a h, mUp_a h]
  refine AW.V k_2_26 ((c_scan (s := s) (by omega) (by rw [f0 36 (by decide)]; exact hs) hs1 (fun k hk => by rw [f0 37 (by decide)]; exact hby k hk))) rfl rfl rfl rfl rfl rfl (fun r1 m1 hq => ?_)
  obtain ⟨rfl, hR, fS, fS2⟩ := hq
  rw [f0 37 (by decide)] at hR
  generalize hts : tks (m 37) s 161 0 = ts at hR ⊢
  have hE : EOK ts := by rw [← hts]; exact tks_EOK hs1
  have hN : NOK ts := by rw [← hts]; exact tks_NOK hby 161 0
  have hlE := hE.1
  have h0l : 0 < ts.length := by rw [← hts]; exact tks_ne (f := 160)
  repeat refine AW.s rfl ?_
  try dsimp only [List.set_cons_zero, List.set_cons_succ, Option.toList_some, Option.toList_none, List.cons_append, List.nil_append]
  refine AW.V k_2_31 (c_empty) rfl rfl rfl rfl rfl rfl (fun r1 m2 hq => ?_)
  obtain ⟨rfl, hm2⟩ := hq
  have f2 : ∀ a, a ≠ 199 + 6 * t → m2 a = m1 a := fun a h => by rw [hm2, mUp_a h]
  have h41 : m2 41 = m0 41 := by rw [f2 41 (by omega), fS 41 (by decide) (by decide) (by decide) (by decide)]
  have fAll : ∀ a, a ≠ 36 → a ≠ 38 → a ≠ 39 → a ≠ 40 → a ≠ 41 → (a < 199 + 6 * t ∨ 199 + 6 * t + 5 < a) → m2 a = m a := fun a h1 h2 h3 h4 h5 h6 => by
    rw [f2 a (by omega), fS a h1 h2 h3 h4, f0 a h5]
  have f361 : m2 36 1 = m 36 1 := by rw [f2 36 (by omega), fS2 1 (by decide), f0 36 (by decide)]
  have hP : PSt m2 (199 + 6 * t) ts 0 0 0 0 := by
    refine ⟨?_, ?_, ?_, ?_, ⟨by rw [f2 36 (by omega)]; exact hR.1, fun j tk hj => by rw [f2 38 (by omega), f2 39 (by omega), f2 40 (by omega)]; exact hR.2 j tk hj⟩, by rw [hm2]; exact mUp_s _ _ _ _, fun k h1 h2 => absurd h2 (by omega)⟩
    · rw [h41, ← hm0, mUp_n (Or.inr (by decide)), mUp_n (Or.inr (by decide)), mUp_n (Or.inr (by decide)), mUp_s]; rfl
    · rw [h41, ← hm0, mUp_n (Or.inr (by decide)), mUp_n (Or.inr (by decide)), mUp_s]; rfl
    · rw [h41, ← hm0, mUp_n (Or.inr (by decide)), mUp_s]; rfl
    · rw [h41, ← hm0, mUp_s]; rfl
  have fX : ∀ mm s0, PXf m2 mm (199 + 6 * t) s0 → (∀ a, a ≠ 36 → a ≠ 38 → a ≠ 39 → a ≠ 40 → a ≠ 41 → (a < 199 + 6 * t ∨ 199 + 6 * t + 5 < a) → mm a = m a) ∧ mm 36 1 = m 36 1 := fun mm s0 h => ⟨fun a h1 h2 h3 h4 h5 h6 => by rw [h.1 a h5 (by omega) (by omega) (by omega) (by omega)]; exact fAll a h1 h2 h3 h4 h5 h6, by rw [h.1 36 (by omega) (by omega) (by omega) (by omega) (by omega)]; exact f361⟩
  -- the end, with a fault at i1
  have hbad : ∀ (mm : Mem) (i1 : Nat), rdP ts = (none, ts.drop i1) → i1 < ts.length → mm 41 2 = nI i1 → mm 41 0 = nI 36 → RTk mm ts → ((∀ a, a ≠ 36 → a ≠ 38 → a ≠ 39 → a ≠ 40 → a ≠ 41 → (a < 199 + 6 * t ∨ 199 + 6 * t + 5 < a) → mm a = m a) ∧ mm 36 1 = m 36 1) → AW (GM l X (d + 1) M_X2_read (fun r m' => ((∃ rs, rdP ts = (none, rs) ∧ r = some (vI (nI (hpl rs)))) ∨ ∃ abc rs, rdP ts = (some abc, rs) ∧ r = some (vI (-1)) ∧ rdT m' (199 + 6 * t) abc) ∧ (∀ a, a ≠ 36 → a ≠ 38 → a ≠ 39 → a ≠ 40 → a ≠ 41 → (a < 199 + 6 * t ∨ 199 + 6 * t + 5 < a) → m' a = m a) ∧ m' 36 1 = m 36 1)) 67 [vR 3 41, vR 9 36, vR 10 (199 + 6 * t), vU] [] mm := by
    intro mm i1 e1 e2 e3 e4 e5 e6
    repeat refine AW.s rfl ?_
    try dsimp only [List.set_cons_zero, List.set_cons_succ, Option.toList_some, Option.toList_none, List.cons_append, List.nil_append]
    refine AW.b rfl (fun hc => ?_) (fun hc => ?_)
    · repeat refine AW.s rfl ?_
      try dsimp only [List.set_cons_zero, List.set_cons_succ, Option.toList_some, Option.toList_none, List.cons_append, List.nil_append]
      refine AW.V k_2_44 ((c_Pplace e3 e4 e5 hE e2)) rfl rfl rfl rfl rfl rfl (fun r1 m9 hq => ?_)
      obtain ⟨rfl, hm9⟩ := hq
      rw [hm9]
      exact AW.ri rfl rfl rfl ⟨Or.inl ⟨_, e1, rfl⟩, e6⟩
    · exact absurd rfl hc
  have hbadF : ∀ (mm : Mem) (i1 s0 : Nat), rdP ts = (none, ts.drop i1) → i1 < ts.length → mm 41 2 = nI i1 → PXf m2 mm (199 + 6 * t) s0 → RTk mm ts ∧ mm 41 0 = nI 36 := by
    intro mm i1 s0 _ _ _ h
    refine ⟨⟨by rw [h.1 36 (by omega) (by omega) (by omega) (by omega) (by omega)]; exact hP.2.2.2.2.1.1, fun j tk hj => ?_⟩, by rw [h.2.1 0 (by decide) (by decide)]; exact hP.1⟩
    rw [h.1 38 (by omega) (by omega) (by omega) (by omega) (by omega), h.1 39 (by omega) (by omega) (by omega) (by omega) (by omega), h.1 40 (by omega) (by omega) (by omega) (by omega) (by omega)]
    exact hP.2.2.2.2.1.2 j tk hj
  repeat refine AW.s rfl ?_
  try dsimp only [List.set_cons_zero, List.set_cons_succ, Option.toList_some, Option.toList_none, List.cons_append, List.nil_append]
  refine AW.V k_2_36 ((c_readPart (p := 0) (key := 4) (by omega) ht (by decide) hE hN (by decide) hP h0l (Nat.le_refl _))) rfl rfl rfl rfl rfl rfl (fun r1 m3 hq => ?_)
  rcases hq with ⟨i1, hq1, rfl, u1, u2, u3⟩ | ⟨ea, i1, s1, n3, hq1, rfl, rfl, a1, a2, a3, a4, a5, a6⟩
  · rw [List.drop_zero] at hq1
    have hpr := rdP_1 hq1
    try dsimp only [List.set_cons_zero, List.set_cons_succ, Option.toList_some, Option.toList_none, List.cons_append, List.nil_append]
    obtain ⟨z1, z2⟩ := hbadF m3 i1 0 hpr u1 u2 u3
    refine AW.b rfl (fun hc => ?_) (fun hc => ?_)
    · exact hbad m3 i1 hpr u1 u2 z2 z1 (fX m3 0 u3)
    · exact absurd rfl hc
  · rw [List.drop_zero] at hq1
    try dsimp only [List.set_cons_zero, List.set_cons_succ, Option.toList_some, Option.toList_none, List.cons_append, List.nil_append]
    -- the state behind the first part
    have en1 : ∀ a, a ≠ 199 + 6 * t + 5 → mUp n3 (199 + 6 * t + 5) 0 (nI s1) a = n3 a := fun a h => mUp_a h
    have hP1 : PSt (mUp n3 (199 + 6 * t + 5) 0 (nI s1)) (199 + 6 * t) ts i1 0 s1 s1 := by
      obtain ⟨y1, y2, y3, y4, y5, y6, y7⟩ := a5
      refine ⟨by rw [en1 41 (by omega)]; exact y1, by rw [en1 41 (by omega)]; exact y2, by rw [en1 41 (by omega)]; exact y3, by rw [en1 41 (by omega)]; exact y4, ⟨by rw [en1 36 (by omega)]; exact y5.1, fun j tk hj => by rw [en1 38 (by omega), en1 39 (by omega), en1 40 (by omega)]; exact y5.2 j tk hj⟩, by rw [en1 (199 + 6 * t) (by omega)]; exact y6, fun k h1 h2 => absurd h2 (by omega)⟩
    have fr1 := fX n3 0 a4
    have F1 : ∀ mm s0, PXf (mUp n3 (199 + 6 * t + 5) 0 (nI s1)) mm (199 + 6 * t) s0 → (∀ a, a ≠ 36 → a ≠ 38 → a ≠ 39 → a ≠ 40 → a ≠ 41 → (a < 199 + 6 * t ∨ 199 + 6 * t + 5 < a) → mm a = m a) ∧ mm 36 1 = m 36 1 := fun mm s0 h => ⟨fun a h1 h2 h3 h4 h5 h6 => by rw [h.1 a h5 (by omega) (by omega) (by omega) (by omega), en1 a (by omega)]; exact fr1.1 a h1 h2 h3 h4 h5 h6, by rw [h.1 36 (by omega) (by omega) (by omega) (by omega) (by omega), en1 36 (by omega)]; exact fr1.2⟩
    have R1 : ∀ mm s0, PXf (mUp n3 (199 + 6 * t + 5) 0 (nI s1)) mm (199 + 6 * t) s0 → RTk mm ts ∧ mm 41 0 = nI 36 := fun mm s0 h => ⟨⟨by rw [h.1 36 (by omega) (by omega) (by omega) (by omega) (by omega)]; exact hP1.2.2.2.2.1.1, fun j tk hj => by rw [h.1 38 (by omega) (by omega) (by omega) (by omega) (by omega), h.1 39 (by omega) (by omega) (by omega) (by omega) (by omega), h.1 40 (by omega) (by omega) (by omega) (by omega) (by omega)]; exact hP1.2.2.2.2.1.2 j tk hj⟩, by rw [h.2.1 0 (by decide) (by decide)]; exact hP1.1⟩
    refine AW.b rfl (fun hc => ?_) (fun hc => ?_)
    · exact absurd hc (by decide)
    · repeat refine AW.s rfl ?_
      try dsimp only [List.set_cons_zero, List.set_cons_succ, Option.toList_some, Option.toList_none, List.cons_append, List.nil_append]
      refine AW.V k_2_36 ((c_readPart (p := 1) (key := 5) (by omega) ht (by decide) hE hN (by decide) hP1 a2 a3)) rfl rfl rfl rfl rfl rfl (fun r1 m4 hq => ?_)
      rcases hq with ⟨i2, hq2, rfl, u1, u2, u3⟩ | ⟨eb, i2, s2, n4, hq2, rfl, rfl, b1, b2, b3, b4, b5, b6⟩
      · have hpr := rdP_2 hq1 hq2
        try dsimp only [List.set_cons_zero, List.set_cons_succ, Option.toList_some, Option.toList_none, List.cons_append, List.nil_append]
        obtain ⟨z1, z2⟩ := R1 m4 s1 u3
        refine AW.b rfl (fun hc => ?_) (fun hc => ?_)
        · exact hbad m4 i2 hpr u1 u2 z2 z1 (F1 m4 s1 u3)
        · exact absurd rfl hc
      · skip
        try dsimp only [List.set_cons_zero, List.set_cons_succ, Option.toList_some, Option.toList_none, List.cons_append, List.nil_append]
        have en2 : ∀ a, a ≠ 199 + 6 * t + 5 → mUp n4 (199 + 6 * t + 5) 1 (nI s2) a = n4 a := fun a h => mUp_a h
        have hP2 : PSt (mUp n4 (199 + 6 * t + 5) 1 (nI s2)) (199 + 6 * t) ts i2 0 s2 s2 := by
          obtain ⟨y1, y2, y3, y4, y5, y6, y7⟩ := b5
          refine ⟨by rw [en2 41 (by omega)]; exact y1, by rw [en2 41 (by omega)]; exact y2, by rw [en2 41 (by omega)]; exact y3, by rw [en2 41 (by omega)]; exact y4, ⟨by rw [en2 36 (by omega)]; exact y5.1, fun j tk hj => by rw [en2 38 (by omega), en2 39 (by omega), en2 40 (by omega)]; exact y5.2 j tk hj⟩, by rw [en2 (199 + 6 * t) (by omega)]; exact y6, fun k h1 h2 => absurd h2 (by omega)⟩
        have fr2 := F1 n4 s1 b4
        have F2 : ∀ mm s0, PXf (mUp n4 (199 + 6 * t + 5) 1 (nI s2)) mm (199 + 6 * t) s0 → (∀ a, a ≠ 36 → a ≠ 38 → a ≠ 39 → a ≠ 40 → a ≠ 41 → (a < 199 + 6 * t ∨ 199 + 6 * t + 5 < a) → mm a = m a) ∧ mm 36 1 = m 36 1 := fun mm s0 h => ⟨fun a h1 h2 h3 h4 h5 h6 => by rw [h.1 a h5 (by omega) (by omega) (by omega) (by omega), en2 a (by omega)]; exact fr2.1 a h1 h2 h3 h4 h5 h6, by rw [h.1 36 (by omega) (by omega) (by omega) (by omega) (by omega), en2 36 (by omega)]; exact fr2.2⟩
        have R2 : ∀ mm s0, PXf (mUp n4 (199 + 6 * t + 5) 1 (nI s2)) mm (199 + 6 * t) s0 → RTk mm ts ∧ mm 41 0 = nI 36 := fun mm s0 h => ⟨⟨by rw [h.1 36 (by omega) (by omega) (by omega) (by omega) (by omega)]; exact hP2.2.2.2.2.1.1, fun j tk hj => by rw [h.1 38 (by omega) (by omega) (by omega) (by omega) (by omega), h.1 39 (by omega) (by omega) (by omega) (by omega) (by omega), h.1 40 (by omega) (by omega) (by omega) (by omega) (by omega)]; exact hP2.2.2.2.2.1.2 j tk hj⟩, by rw [h.2.1 0 (by decide) (by decide)]; exact hP2.1⟩
        refine AW.b rfl (fun hc => ?_) (fun hc => ?_)
        · exact absurd hc (by decide)
        · repeat refine AW.s rfl ?_
          try dsimp only [List.set_cons_zero, List.set_cons_succ, Option.toList_some, Option.toList_none, List.cons_append, List.nil_append]
          refine AW.V k_2_36 ((c_readPart (p := 2) (key := 6) (by omega) ht (by decide) hE hN (by decide) hP2 b2 b3)) rfl rfl rfl rfl rfl rfl (fun r1 m5 hq => ?_)
          rcases hq with ⟨i3, hq3, rfl, u1, u2, u3⟩ | ⟨ec, i3, s3, n5, hq3, rfl, rfl, c1, c2, c3, c4, c5, c6⟩
          · have hpr := rdP_3 hq1 hq2 hq3
            try dsimp only [List.set_cons_zero, List.set_cons_succ, Option.toList_some, Option.toList_none, List.cons_append, List.nil_append]
            obtain ⟨z1, z2⟩ := R2 m5 s2 u3
            refine AW.b rfl (fun hc => ?_) (fun hc => ?_)
            · exact hbad m5 i3 hpr u1 u2 z2 z1 (F2 m5 s2 u3)
            · exact absurd rfl hc
          · have hpr := rdP_4 hq1 hq2 hq3
            try dsimp only [List.set_cons_zero, List.set_cons_succ, Option.toList_some, Option.toList_none, List.cons_append, List.nil_append]
            have en3 : ∀ a, a ≠ 199 + 6 * t + 5 → mUp n5 (199 + 6 * t + 5) 2 (nI s3) a = n5 a := fun a h => mUp_a h
            have hP3 : PSt (mUp n5 (199 + 6 * t + 5) 2 (nI s3)) (199 + 6 * t) ts i3 0 s3 s2 := by
              obtain ⟨y1, y2, y3, y4, y5, y6, y7⟩ := c5
              refine ⟨by rw [en3 41 (by omega)]; exact y1, by rw [en3 41 (by omega)]; exact y2, by rw [en3 41 (by omega)]; exact y3, by rw [en3 41 (by omega)]; exact y4, ⟨by rw [en3 36 (by omega)]; exact y5.1, fun j tk hj => by rw [en3 38 (by omega), en3 39 (by omega), en3 40 (by omega)]; exact y5.2 j tk hj⟩, by rw [en3 (199 + 6 * t) (by omega)]; exact y6, by rw [en3 (199 + 6 * t + 1) (by omega), en3 (199 + 6 * t + 2) (by omega), en3 (199 + 6 * t + 3) (by omega)]; exact y7⟩
            have fr3 : (∀ a, a ≠ 36 → a ≠ 38 → a ≠ 39 → a ≠ 40 → a ≠ 41 → (a < 199 + 6 * t ∨ 199 + 6 * t + 5 < a) → mUp n5 (199 + 6 * t + 5) 2 (nI s3) a = m a) ∧ mUp n5 (199 + 6 * t + 5) 2 (nI s3) 36 1 = m 36 1 := ⟨fun a h1 h2 h3 h4 h5 h6 => by rw [en3 a (by omega)]; exact (F2 n5 s2 c4).1 a h1 h2 h3 h4 h5 h6, by rw [en3 36 (by omega)]; exact (F2 n5 s2 c4).2⟩
            refine AW.b rfl (fun hc => ?_) (fun hc => ?_)
            · exact absurd hc (by decide)
            · repeat refine AW.s rfl ?_
              try dsimp only [List.set_cons_zero, List.set_cons_succ, Option.toList_some, Option.toList_none, List.cons_append, List.nil_append]
              refine AW.V k_2_40 ((c_Pnext hP3 hE c2)) rfl rfl rfl rfl rfl rfl (fun r1 m6 hq => ?_)
              obtain ⟨rfl, hm6⟩ := hq
              rw [hm6]
              try dsimp only [List.set_cons_zero, List.set_cons_succ, Option.toList_some, Option.toList_none, List.cons_append, List.nil_append]
              refine AW.b rfl (fun hc => ?_) (fun hc => ?_)
              · rw [if_pos (show hk (ts.drop i3) = 0 from hc)] at hpr
                repeat refine AW.s rfl ?_
                try dsimp only [List.set_cons_zero, List.set_cons_succ, Option.toList_some, Option.toList_none, List.cons_append, List.nil_append]
                refine AW.b rfl (fun hc => ?_) (fun hc => ?_)
                · exact absurd hc (by decide)
                · repeat refine AW.s rfl ?_
                  try dsimp only [List.set_cons_zero, List.set_cons_succ, Option.toList_some, Option.toList_none, List.cons_append, List.nil_append]
                  refine AW.ri rfl rfl rfl ⟨Or.inr ⟨_, _, hpr, rfl, ?_⟩, fr3⟩
                  -- the text's parts
                  have cells2 : ∀ k, k < s2 → n5 (199 + 6 * t + 1) k = n4 (199 + 6 * t + 1) k ∧ n5 (199 + 6 * t + 2) k = n4 (199 + 6 * t + 2) k ∧ n5 (199 + 6 * t + 3) k = n4 (199 + 6 * t + 3) k := fun k hk => by
                    have h := c4.2.2.2 k hk
                    rw [en2 (199 + 6 * t + 1) (by omega), en2 (199 + 6 * t + 2) (by omega), en2 (199 + 6 * t + 3) (by omega)] at h
                    exact h
                  have cells1 : ∀ k, k < s1 → n5 (199 + 6 * t + 1) k = n3 (199 + 6 * t + 1) k ∧ n5 (199 + 6 * t + 2) k = n3 (199 + 6 * t + 2) k ∧ n5 (199 + 6 * t + 3) k = n3 (199 + 6 * t + 3) k := fun k hk => by
                    have h := b4.2.2.2 k hk
                    rw [en1 (199 + 6 * t + 1) (by omega), en1 (199 + 6 * t + 2) (by omega), en1 (199 + 6 * t + 3) (by omega)] at h
                    obtain ⟨x1, x2, x3⟩ := cells2 k (by omega)
                    exact ⟨x1.trans h.1, x2.trans h.2.1, x3.trans h.2.2⟩
                  have rg : ∀ {m9 : Mem} {lo hi : Nat}, (∀ k, k < hi → n5 (199 + 6 * t + 1) k = m9 (199 + 6 * t + 1) k ∧ n5 (199 + 6 * t + 2) k = m9 (199 + 6 * t + 2) k ∧ n5 (199 + 6 * t + 3) k = m9 (199 + 6 * t + 3) k) → rngOK (m9 (199 + 6 * t + 1)) (m9 (199 + 6 * t + 2)) (m9 (199 + 6 * t + 3)) lo hi → rngOK (n5 (199 + 6 * t + 1)) (n5 (199 + 6 * t + 2)) (n5 (199 + 6 * t + 3)) lo hi := fun hx hy k h1 h2 => by
                    obtain ⟨x1, x2, x3⟩ := hx k h2
                    rw [x1, x2, x3]
                    exact hy k h1 h2
                  have e5 : ∀ p, mUp n5 (199 + 6 * t + 5) 2 (nI s3) (199 + 6 * t + 5) p = if p = 2 then nI s3 else if p = 1 then nI s2 else if p = 0 then nI s1 else mUp n5 (199 + 6 * t + 5) 2 (nI s3) (199 + 6 * t + 5) p := by
                    intro p
                    by_cases q2 : p = 2
                    · rw [if_pos q2, q2, mUp_s]
                    · rw [if_neg q2, mUp_n (Or.inr q2), c4.1 (199 + 6 * t + 5) (by omega) (by omega) (by omega) (by omega) (by omega)]
                      by_cases q1 : p = 1
                      · rw [if_pos q1, q1, mUp_s]
                      · rw [if_neg q1, mUp_n (Or.inr q1), b4.1 (199 + 6 * t + 5) (by omega) (by omega) (by omega) (by omega) (by omega)]
                        by_cases q0 : p = 0
                        · rw [if_pos q0, q0, mUp_s]
                        · rw [if_neg q0]
                  refine ⟨fun p => if p = 0 then s1 else if p = 1 then s2 else s3, fun p hp => ?_, fun F => ⟨?_, ?_, ?_⟩⟩
                  · rw [en3 (199 + 6 * t + 1) (by omega), en3 (199 + 6 * t + 2) (by omega), en3 (199 + 6 * t + 3) (by omega), e5 p]
                    rcases (show p = 0 ∨ p = 1 ∨ p = 2 by omega) with e | e | e <;> subst e
                    · exact ⟨rfl, a1, show s1 ≤ 160 by omega, rg cells1 a5.2.2.2.2.2.2⟩
                    · exact ⟨rfl, b1, show s2 ≤ 160 by omega, rg cells2 b5.2.2.2.2.2.2⟩
                    · exact ⟨rfl, c1, show s3 ≤ 160 by omega, c5.2.2.2.2.2.2⟩
                  · unfold tval
                    rw [en3 (199 + 6 * t + 1) (by omega), en3 (199 + 6 * t + 2) (by omega), en3 (199 + 6 * t + 3) (by omega)]
                    show cvF _ _ _ F s1 (s1 - 1) = _
                    rw [cvF_ag a5.2.2.2.2.2.2 (by omega) cells1 (s1 - 1) (by omega) (by omega) s1 (by omega)]
                    exact a6 F
                  · unfold tval
                    rw [en3 (199 + 6 * t + 1) (by omega), en3 (199 + 6 * t + 2) (by omega), en3 (199 + 6 * t + 3) (by omega)]
                    show cvF _ _ _ F s2 (s2 - 1) = _
                    rw [cvF_ag b5.2.2.2.2.2.2 (by omega) cells2 (s2 - 1) (by omega) (by omega) s2 (by omega)]
                    exact b6 F
                  · unfold tval
                    rw [en3 (199 + 6 * t + 1) (by omega), en3 (199 + 6 * t + 2) (by omega), en3 (199 + 6 * t + 3) (by omega)]
                    exact c6 F
              · rw [if_neg (show ¬ hk (ts.drop i3) = 0 from hc)] at hpr
                exact hbad _ i3 hpr c2 hP3.2.2.1 hP3.1 hP3.2.2.2.2.1 fr3

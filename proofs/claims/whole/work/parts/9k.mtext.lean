-- ===== the model's reader: readAll, text =====
theorem nbF_v {g : Nat → Int32} {s : Nat} (hby : ∀ k, k < s → ∃ b, b < 256 ∧ g k = nI b) (f : Nat) : ∀ (p a j : Nat), p + f ≤ s → a < 10 ^ j → j + ((nbF g f p (nI a)).1 - p) ≤ 4 → ∃ b, b < 10000 ∧ (nbF g f p (nI a)).2 = nI b := by
  induction f with
  | zero =>
    intro p a j _ ha hj
    refine ⟨a, Nat.lt_of_lt_of_le ha ?_, rfl⟩
    exact Nat.pow_le_pow_right (by decide) (show j ≤ 4 by omega)
  | succ f ih =>
    intro p a j hp ha hj
    have e0 : nbF g (f + 1) p (nI a) = if g p < 48 then (p, nI a) else if 57 < g p then (p, nI a) else nbF g f (p + 1) (nI a * 10 + g p - 48) := rfl
    have st : nbF g (f + 1) p (nI a) = (p, nI a) → ∃ b, b < 10000 ∧ (nbF g (f + 1) p (nI a)).2 = nI b := fun e => ⟨a, Nat.lt_of_lt_of_le ha (Nat.pow_le_pow_right (by decide) (show j ≤ 4 by omega)), by rw [e]⟩
    by_cases h1 : g p < 48
    · rw [if_pos h1] at e0; exact st e0
    · rw [if_neg h1] at e0
      by_cases h2 : 57 < g p
      · rw [if_pos h2] at e0; exact st e0
      · rw [if_neg h2] at e0
        obtain ⟨b, hb, eb⟩ := hby p (by omega)
        have b1 : 48 ≤ b := by
          have : ¬ b < 48 := fun z => h1 (by rw [eb]; exact nI_lt (b := 48) z (by decide))
          omega
        have b2 : b ≤ 57 := by
          have : ¬ 57 < b := fun z => h2 (by rw [eb]; exact nI_lt (a := 57) z (by omega))
          omega
        have ev : nI a * 10 + g p - 48 = nI (10 * a + b - 48) := by
          rw [eb, Int32.mul_comm, show (10 : Int32) * nI a = nI (10 * a) from pk_mul 10 a, nI_add]
          exact pk_sub (b := 48) (by omega)
        rw [ev] at e0
        have hle := nbF_le g f (p + 1) (nI (10 * a + b - 48))
        rw [e0] at hj ⊢
        refine ih (p + 1) (10 * a + b - 48) (j + 1) (by omega) ?_ (by omega)
        rw [Nat.pow_succ]
        omega
theorem tokF_2 {g : Nat → Int32} {s p : Nat} (hby : ∀ k, k < s → ∃ b, b < 256 ∧ g k = nI b) (hp : p ≤ s) (h : (tokF g s p).1 = 2) : ∃ b, b < 10000 ∧ (tokF g s p).2.1 = nI b := by
  unfold tokF at h ⊢
  by_cases h0 : s ≤ p
  · rw [if_pos h0] at h; exact absurd (show (0 : Int32) = 2 from h) (by decide)
  · rw [if_neg h0] at h ⊢
    by_cases h1 : 97 ≤ g p ∧ g p ≤ 122
    · rw [if_pos h1] at h
      exfalso
      have h : (tokW (spF g p (wdF g (s - p) p) 12 0)).1 = 2 := h
      rcases spF_is (g := g) (p := p) (e := wdF g (s - p) p) 12 0 rfl with ⟨x, -⟩ | ⟨x, -⟩
      · rw [x] at h; exact absurd h (by decide)
      · generalize spF g p (wdF g (s - p) p) 12 0 = i at *
        unfold tokW at h
        rw [if_neg (by omega)] at h
        by_cases h6 : i < 6
        · rw [if_pos h6] at h; exact absurd (show (3 : Int32) = 2 from h) (by decide)
        · rw [if_neg h6] at h
          have := (nI_eq (a := i - 2) (b := 2) (by omega) (by decide)).mp h
          omega
    · rw [if_neg h1] at h ⊢
      by_cases h2 : 48 ≤ g p ∧ g p ≤ 57
      · rw [if_pos h2] at h ⊢
        have h : (if 4 < (nbF g (s - p) p 0).1 - p then (1 : Int32) else 2) = 2 := h
        by_cases h4 : 4 < (nbF g (s - p) p 0).1 - p
        · rw [if_pos h4] at h; exact absurd h (by decide)
        · exact nbF_v hby (s - p) p 0 0 (by omega) (by decide) (by show 0 + ((nbF g (s - p) p 0).1 - p) ≤ 4; omega)
      · rw [if_neg h2] at h
        exfalso
        obtain ⟨b, hb, eb⟩ := hby p (by omega)
        have h : (if sgnB (g p).toNatClampNeg then g p else (1 : Int32)) = 2 := h
        rw [eb, nI_clamp (by omega)] at h
        by_cases hs : sgnB b = true
        · rw [if_pos hs] at h
          have := (nI_eq (b := 2) (by omega) (by decide)).mp h
          have := sgnB_40 hs
          omega
        · rw [if_neg hs] at h; exact absurd h (by decide)
theorem neg1 {b : Nat} (h : b < 10000) : ¬ nI b < 0 ∧ -1 - nI b < 0 := by
  refine ⟨nI_pos (by omega), ?_⟩
  rw [Int32.lt_iff_toInt_lt, Int32.toInt_sub, nI_toInt (by omega), show (-1 : Int32).toInt = -1 from rfl, show (0 : Int32).toInt = 0 from rfl]
  rw [Int.bmod_eq_of_le (by omega) (by omega)]
  omega
theorem tks_NOk {g : Nat → Int32} {s : Nat} (hby : ∀ k, k < s → ∃ b, b < 256 ∧ g k = nI b) (f : Nat) : ∀ p, p ≤ s → NOk (tks g s f p) := by
  induction f with
  | zero => intro p _ t h; cases h
  | succ f ih =>
    intro p hp t ht
    have hb := blF_le g (s - p) p
    have hl := tokF_le (g := g) (s := s) (p := blF g (s - p) p) (by omega)
    unfold tks at ht
    rcases List.mem_cons.mp ht with e | e
    · subst e
      refine ⟨fun h3 => tokF_3 hby h3, fun h2 => ?_⟩
      obtain ⟨b, b1, b2⟩ := tokF_2 hby (by omega) h2
      show ¬ (tokF g s (blF g (s - p) p)).2.1 < 0 ∧ -1 - (tokF g s (blF g (s - p) p)).2.1 < 0
      rw [b2]
      exact neg1 b1
    · split at e
      · exact ih _ hl.2 t e
      · cases e
/-- what is left of n parts -/
def rdL (n : Nat) (ts : List TK) : Option (List FX) × List TK := match n with
  | 0 => if hk ts = 0 then (some [], ts) else (none, ts)
  | n + 1 => match prtP (nI (6 - n)) ts with
    | (none, r) => (none, r)
    | (some e, r) => match rdL n r with
      | (none, r) => (none, r)
      | (some es, r) => (some (e :: es), r)
theorem rdL_f {n : Nat} {ts r : List TK} (h : prtP (nI (6 - n)) ts = (none, r)) : rdL (n + 1) ts = (none, r) := by
  rw [rdL, h]
theorem rdL_s {n : Nat} {ts r : List TK} {e : FX} (h : prtP (nI (6 - n)) ts = (some e, r)) : rdL (n + 1) ts = match rdL n r with
      | (none, r) => (none, r)
      | (some es, r) => (some (e :: es), r) := by
  rw [rdL, h]
theorem rdL_P {ts : List TK} : (∀ r, rdL 3 ts = (none, r) → rdP ts = (none, r)) ∧ ∀ es r, rdL 3 ts = (some es, r) → ∃ a b c, es = [a, b, c] ∧ rdP ts = (some (a, b, c), r) := by
  cases h1 : prtP 4 ts with
  | mk a1 r1 =>
    cases a1 with
    | none =>
      rw [rdL_f (n := 2) h1]
      exact ⟨fun r hq => by cases hq; exact rdP_1 h1, fun es r hq => (by cases hq)⟩
    | some a =>
      rw [rdL_s (n := 2) h1]
      cases h2 : prtP 5 r1 with
      | mk a2 r2 =>
        cases a2 with
        | none =>
          rw [rdL_f (n := 1) h2]
          exact ⟨fun r hq => by cases hq; exact rdP_2 h1 h2, fun es r hq => (by cases hq)⟩
        | some b =>
          rw [rdL_s (n := 1) h2]
          cases h3 : prtP 6 r2 with
          | mk a3 r3 =>
            cases a3 with
            | none =>
              rw [rdL_f (n := 0) h3]
              exact ⟨fun r hq => by cases hq; exact rdP_3 h1 h2 h3, fun es r hq => (by cases hq)⟩
            | some c =>
              rw [rdL_s (n := 0) h3]
              rw [rdP_4 h1 h2 h3]
              by_cases h0 : hk r3 = 0
              · rw [if_pos h0, show rdL 0 r3 = (some [], r3) from if_pos h0]
                exact ⟨fun r hq => (by cases hq), fun es r hq => by cases hq; exact ⟨a, b, c, rfl, rfl⟩⟩
              · rw [if_neg h0, show rdL 0 r3 = (none, r3) from if_neg h0]
                exact ⟨fun r hq => by cases hq; rfl, fun es r hq => (by cases hq)⟩
def cmb (es : List FX) (q : Option (List FX) × List TK) : Option (List FX) × List TK := match q with
  | (none, r) => (none, r)
  | (some xs, r) => (some (es ++ xs), r)
/-- the next call of next gives these tokens -/
def NX (m : Mem) (g : Nat → Int32) (s : Nat) (ts : List TK) : Prop := (ts = tks g s 161 0 ∧ m 243 17 = nI 0) ∨ ∃ rs, TS m g s rs ∧ ET rs ∧ 1 < hk rs ∧ ts = rs.tail
/-- what reading text t leaves alone -/
def FA (m m' : Mem) (t : Nat) : Prop := (∀ a, a ≠ 243 → a ≠ 252 → a ≠ 253 → a ≠ 256 → a ≠ 257 → m' a = m a) ∧ (∀ k, (k < 480 * t ∨ 480 * t + 480 ≤ k) → m' 252 k = m 252 k) ∧ (∀ k, (k < 3 * t ∨ 3 * t + 3 ≤ k) → m' 253 k = m 253 k) ∧ ∀ k, (k < 17 ∨ (20 < k ∧ k < 24) ∨ k = 27 ∨ 29 < k) → m' 243 k = m 243 k
theorem FA.rf {m : Mem} {t : Nat} : FA m m t := ⟨fun _ _ _ _ _ _ => rfl, fun _ _ => rfl, fun _ _ => rfl, fun _ _ => rfl⟩
theorem FA.tr {m m1 m2 : Mem} {t : Nat} (h1 : FA m m1 t) (h2 : FA m1 m2 t) : FA m m2 t := ⟨fun a x y z u v => by rw [h2.1 a x y z u v, h1.1 a x y z u v], fun k h => by rw [h2.2.1 k h, h1.2.1 k h], fun k h => by rw [h2.2.2.1 k h, h1.2.2.1 k h], fun k h => by rw [h2.2.2.2 k h, h1.2.2.2 k h]⟩
theorem FK.A {m m' : Mem} {t : Nat} (h : FK m m') : FA m m' t := ⟨fun a x _ _ _ _ => h.1 a x, fun k _ => by rw [h.1 252 (by decide)], fun k _ => by rw [h.1 253 (by decide)], fun k hk => h.2 k (by omega) (by omega) (by omega) (by omega)⟩
theorem FQ.A {m m' : Mem} {t j : Nat} (h : FQ m m' (3 * t + j)) (hj : j < 3) : FA m m' t := ⟨h.1, fun k hk => h.2.1 k (by omega), fun k hk => h.2.2.1 k (by omega), h.2.2.2⟩
theorem RC.A {m m' : Mem} {g : Nat → Int32} {s t : Nat} (h : RC m g s) (hf : FA m m' t) : RC m' g s := by
  obtain ⟨h1, h2, h3, h4, h5, h6⟩ := h
  exact ⟨by rw [hf.2.2.2 12 (by omega)]; exact h1, h2, by rw [hf.1 251 (by decide) (by decide) (by decide) (by decide) (by decide)]; exact h3, h4, by rw [hf.1 254 (by decide) (by decide) (by decide) (by decide) (by decide)]; exact h5, by rw [hf.1 255 (by decide) (by decide) (by decide) (by decide) (by decide)]; exact h6⟩
/-- part q is held: its codes tell e -/
def HD (m : Mem) (q : Nat) (e : FX) : Prop := ∃ cs, CDS cs [] e ∧ cs.length ≤ 160 ∧ m 253 q = nI cs.length ∧ ∀ k x, cs[k]? = some x → m 252 (160 * q + k) = x
section
variable {l : Launch} {X : XT} {d s t : Nat} {m : Mem} {g : Nat → Int32} {ts : List TK}
theorem c_MnX (hd : 2 ≤ d) (hC : RC m g s) (h : NX m g s ts) : Meth l X d M_X11_next [vR 12 243] m (fun r m' => r = none ∧ FK m m' ∧ TS m' g s ts) := by
  rcases h with ⟨h1, h2⟩ | ⟨rs, h1, h2, h3, h4⟩
  · rw [h1]
    exact c_Mnx0 hd hC (Nat.zero_le _) h2 160
  · rw [h4]
    exact c_Mnx hd hC h1 h3 h2
theorem TS.pl {m : Mem} {g : Nat → Int32} {s : Nat} {ts : List TK} (h : TS m g s ts) : m 243 20 = nI (hpl ts) ∧ MTk (hk ts) (hvl ts) (m 243 18) (m 243 19) := by
  obtain ⟨f, p, -, -, h3, h4, -⟩ := h
  exact ⟨h4, h3⟩
theorem c_MreadAll (hd : 6 ≤ d) (hC : RC m g s) (ht : t < 6) (hz : ts = tks g s 161 0) (hE : ET ts) (hN : NOk ts) (hl : ts.length ≤ 161) : Meth l X d M_X11_readAll [vR 12 243, vI (nI t)] m (fun r m' => FA m m' t ∧ ((∃ rs, rdL 3 ts = (none, rs) ∧ r = some (vI (nI (hpl rs)))) ∨ ∃ es rs, rdL 3 ts = (some es, rs) ∧ r = some (vI (-1)) ∧ ∀ j e, es[j]? = some e → HD m' (3 * t + j) e)) := by
  obtain ⟨d, rfl⟩ : ∃ e, d = e + 1 := ⟨d - 1, by omega⟩
  refine E_X11_readAll (ls := [vR 12 243, vI (nI t), vU]) rfl rfl ?_
  repeat refine AW.u 7 rfl rfl ?_
  try dsimp only [List.set_cons_zero, List.set_cons_succ, Option.toList_some, Option.toList_none, List.cons_append, List.nil_append]
  have F0 : FA m (mUp m 243 17 0) t := (FK.rf.u (by omega)).A
  refine AW.loop (pc := 7) (σ := List FX × List TK) 3 (fun i _ => [vR 12 243, vI (nI t), vI (nI i)]) (fun i st m1 => FA m m1 t ∧ NX m1 g s st.2 ∧ ET st.2 ∧ NOk st.2 ∧ st.2.length ≤ 161 ∧ st.1.length = i ∧ (∀ j e, st.1[j]? = some e → HD m1 (3 * t + j) e) ∧ rdL 3 ts = cmb st.1 (rdL (3 - i) st.2)) (fun i st m1 hi hM ih => ?_) 0 ([], ts) _ (Nat.zero_le _) ⟨F0, Or.inl ⟨hz, mUp_s _ _ _ _⟩, hE, hN, hl, rfl, fun j e hj => (by cases hj), by
    show rdL 3 ts = cmb [] (rdL 3 ts)
    cases h : rdL 3 ts with
    | mk a r => cases a <;> rfl⟩
  obtain ⟨es, t1⟩ := st
  obtain ⟨j1, j2, j3, j4, j5, j6, j7, j8⟩ := hM
  have g2 : NX m1 g s t1 := j2
  have g3 : ET t1 := j3
  have g4 : NOk t1 := j4
  have g5 : t1.length ≤ 161 := j5
  have g6 : es.length = i := j6
  have g7 : ∀ j e, es[j]? = some e → HD m1 (3 * t + j) e := j7
  have g8 : rdL 3 ts = cmb es (rdL (3 - i) t1) := j8
  clear j2 j3 j4 j5 j6 j7 j8
  have hC1 := hC.A j1
  -- what is held stays while other parts are read
  repeat refine AW.s rfl ?_
  try dsimp only [List.set_cons_zero, List.set_cons_succ, Option.toList_some, Option.toList_none, List.cons_append, List.nil_append]
  refine AW.b rfl (fun hc => ?_) (fun hc => ?_)
  · have hi3 : i < 3 := (nI_ltI (b := 3) (by omega) (by decide)).mp hc
    obtain ⟨n, hn⟩ : ∃ n, 3 - i = n + 1 := ⟨3 - i - 1, by omega⟩
    rw [hn] at g8
    have hkey : nI (4 + i) = nI (6 - n) := by rw [show 4 + i = 6 - n by omega]
    -- a fault
    have bad : ∀ (mm : Mem) (r : List TK), FA m mm t → TS mm g s r → prtP (nI (6 - n)) t1 = (none, r) → ∀ pc : Nat, (pc = 24 ∨ pc = 45) → AW (GM l X (d + 1) M_X11_readAll (fun r m' => FA m m' t ∧ ((∃ rs, rdL 3 ts = (none, rs) ∧ r = some (vI (nI (hpl rs)))) ∨ ∃ es rs, rdL 3 ts = (some es, rs) ∧ r = some (vI (-1)) ∧ ∀ j e, es[j]? = some e → HD m' (3 * t + j) e))) pc [vR 12 243, vI (nI t), vI (nI i)] [] mm := by
      intro mm r f1 f2 f3 pc hpc
      rw [rdL_f f3] at g8
      rcases hpc with e | e <;> subst e
      · repeat refine AW.s rfl ?_
        try dsimp only [List.set_cons_zero, List.set_cons_succ, Option.toList_some, Option.toList_none, List.cons_append, List.nil_append]
        rw [f2.pl.1]
        exact AW.ri rfl rfl rfl ⟨f1, Or.inl ⟨r, g8, rfl⟩⟩
      · repeat refine AW.s rfl ?_
        try dsimp only [List.set_cons_zero, List.set_cons_succ, Option.toList_some, Option.toList_none, List.cons_append, List.nil_append]
        rw [f2.pl.1]
        exact AW.ri rfl rfl rfl ⟨f1, Or.inl ⟨r, g8, rfl⟩⟩
    repeat refine AW.s rfl ?_
    try dsimp only [List.set_cons_zero, List.set_cons_succ, Option.toList_some, Option.toList_none, List.cons_append, List.nil_append]
    refine AW.V k_11_163 ((c_MnX (by omega) hC1 g2)) rfl rfl rfl rfl rfl rfl (fun r1 m2 hq => ?_)
    obtain ⟨rfl, v1, v2⟩ := hq
    have F2 := j1.tr (v1.A (t := t))
    have hC2 := hC.A F2
    repeat refine AW.s rfl ?_
    try dsimp only [List.set_cons_zero, List.set_cons_succ, Option.toList_some, Option.toList_none, List.cons_append, List.nil_append]
    refine AW.V k_11_133 ((c_MisKey (j := i) v2.pl.2 (by omega))) rfl rfl rfl rfl rfl rfl (fun r1 m3 hq => ?_)
    obtain ⟨rfl, hm3⟩ := hq
    rw [hm3, hkey]
    try dsimp only [List.set_cons_zero, List.set_cons_succ, Option.toList_some, Option.toList_none, List.cons_append, List.nil_append]
    by_cases hkk : hk t1 = nI (6 - n)
    · rw [if_pos hkk]
      have hgt : 1 < hk t1 := by rw [hkk]; exact nI_lt (a := 1) (by omega) (by omega)
      have hlt := hk_ne (ts := t1) (fun z => by rw [z] at hgt; exact absurd hgt (by decide))
      refine AW.b rfl (fun hc => ?_) (fun hc => ?_)
      · exact absurd hc (by decide)
      · repeat refine AW.s rfl ?_
        try dsimp only [List.set_cons_zero, List.set_cons_succ, Option.toList_some, Option.toList_none, List.cons_append, List.nil_append]
        refine AW.V k_11_163 ((c_Mnx (by omega) hC2 v2 hgt g3)) rfl rfl rfl rfl rfl rfl (fun r1 m4 hq => ?_)
        obtain ⟨rfl, w1, w2⟩ := hq
        have F4 := F2.tr (w1.A (t := t))
        have hC4 := hC.A F4
        repeat refine AW.s rfl ?_
        try dsimp only [List.set_cons_zero, List.set_cons_succ, Option.toList_some, Option.toList_none, List.cons_append, List.nil_append]
        rw [show (3 : Int32) * nI t = nI (3 * t) from pk_mul 3 t, nI_add]
        refine AW.V k_11_166 ((c_MreadE (q := 3 * t + i) (by omega) hC4 w2 g3.tl (by omega) (by omega))) rfl rfl rfl rfl rfl rfl (fun r1 m5 hq => ?_)
        have hrun := runM_E (n := t1.tail.length) (c := fun _ => false) (Nat.le_refl _) (by omega) g4.tl rfl
        rcases hq with ⟨rs, h1, rfl, f1, f2⟩ | ⟨cs, rs, h1, rfl, f1, f2, f3, f3b, f4, f5, f6⟩
        · have F5 := F4.tr (f1.A hi3)
          have hp : prtP (nI (6 - n)) t1 = (none, rs) := by
            unfold prtP
            rw [if_pos hkk]
            cases he : eP (pk 5).2 t1.tail with
            | mk a r =>
              cases a with
              | none =>
                have := hrun.1 r he
                rw [h1] at this
                cases this
                rfl
              | some e =>
                obtain ⟨x1, x2⟩ := hrun.2 e r he
                by_cases h59 : hk r = 59
                · obtain ⟨cs, y1, -⟩ := x2 h59
                  rw [h1] at y1
                  cases y1
                · have := x1 h59
                  rw [h1] at this
                  cases this
                  dsimp only
                  rw [if_neg h59]
          try dsimp only [List.set_cons_zero, List.set_cons_succ, Option.toList_some, Option.toList_none, List.cons_append, List.nil_append]
          refine AW.b rfl (fun hc => ?_) (fun hc => ?_)
          · exact bad m5 rs F5 f2 hp 45 (Or.inr rfl)
          · exact absurd rfl hc
        · have F5 := F4.tr (f1.A hi3)
          obtain ⟨e, he, hcd, h59⟩ : ∃ e, eP (pk 5).2 t1.tail = (some e, rs) ∧ CDS cs [] e ∧ hk rs = 59 := by
            cases he : eP (pk 5).2 t1.tail with
            | mk a r =>
              cases a with
              | none =>
                have := hrun.1 r he
                rw [h1] at this
                cases this
              | some e =>
                obtain ⟨x1, x2⟩ := hrun.2 e r he
                by_cases h59 : hk r = 59
                · obtain ⟨cs', y1, y2⟩ := x2 h59
                  rw [h1] at y1
                  cases y1
                  exact ⟨e, rfl, y2, h59⟩
                · have := x1 h59
                  rw [h1] at this
                  cases this
          have hp : prtP (nI (6 - n)) t1 = (some e, rs.tail) := by
            unfold prtP
            rw [if_pos hkk, he]
            dsimp only
            rw [if_pos h59]
          have hnr : NOk rs := by
            have hE2 : isE t1.tail (eP (pk 5).2 t1.tail).2 := seqP_E (seqP_E (pk_E 5).2) _
            rw [he] at hE2
            obtain ⟨j, hj⟩ := hE2
            have hj : rs = t1.tail.drop j := hj
            intro x hx
            rw [hj] at hx
            exact g4.tl x (List.mem_of_mem_drop hx)
          rw [rdL_s hp] at g8
          try dsimp only [List.set_cons_zero, List.set_cons_succ, Option.toList_some, Option.toList_none, List.cons_append, List.nil_append]
          refine AW.b rfl (fun hc => ?_) (fun hc => ?_)
          · exact absurd hc (by decide)
          · repeat refine AW.u 7 rfl rfl ?_
            try dsimp only [List.set_cons_zero, List.set_cons_succ, Option.toList_some, Option.toList_none, List.cons_append, List.nil_append]
            rw [nI_1]
            refine ih (es ++ [e], rs.tail) m5 hi3 ⟨F5, Or.inr ⟨rs, f2, f3, by rw [h59]; decide, rfl⟩, f3.tl, hnr.tl, ?_, ?_, fun j e2 hj => ?_, ?_⟩
            · show rs.tail.length ≤ 161
              rw [List.length_tail]
              omega
            · show (es ++ [e]).length = i + 1
              rw [List.length_append, g6]
              rfl
            · have hj : (es ++ [e])[j]? = some e2 := hj
              by_cases ej : j = i
              · subst ej
                rw [List.getElem?_append_right (by omega), g6, Nat.sub_self] at hj
                cases hj
                exact ⟨cs, hcd, f4, f5, f6⟩
              · have hjl : j < es.length := by
                  have := (List.getElem?_eq_some_iff.mp hj).1
                  rw [List.length_append] at this
                  have : j < es.length + 1 := this
                  omega
                rw [List.getElem?_append_left hjl] at hj
                obtain ⟨cs2, x1, x2, x3, x4⟩ := g7 j e2 hj
                refine ⟨cs2, x1, x2, ?_, fun k x hk => ?_⟩
                · rw [f1.2.2.1 _ (by omega), w1.1 253 (by decide), v1.1 253 (by decide)]; exact x3
                · have := (List.getElem?_eq_some_iff.mp hk).1
                  rw [f1.2.1 _ (by omega), w1.1 252 (by decide), v1.1 252 (by decide)]; exact x4 k x hk
            · show rdL 3 ts = cmb (es ++ [e]) (rdL (3 - (i + 1)) rs.tail)
              rw [g8, show 3 - (i + 1) = n by omega]
              cases hr : rdL n rs.tail with
              | mk a r =>
                cases a with
                | none => rfl
                | some xs =>
                  show (some (es ++ e :: xs), r) = (some (es ++ [e] ++ xs), r)
                  rw [List.append_assoc]
                  rfl
    · rw [if_neg hkk]
      have hp : prtP (nI (6 - n)) t1 = (none, t1) := by
        unfold prtP
        rw [if_neg hkk]
      refine AW.b rfl (fun hc => ?_) (fun hc => ?_)
      · exact bad m2 t1 F2 v2 hp 24 (Or.inl rfl)
      · exact absurd rfl hc
  · have : i = 3 := by
      have : ¬ i < 3 := fun z => hc (nI_lt (b := 3) z (by decide))
      omega
    subst this
    rw [show 3 - 3 = 0 from rfl] at g8
    repeat refine AW.s rfl ?_
    try dsimp only [List.set_cons_zero, List.set_cons_succ, Option.toList_some, Option.toList_none, List.cons_append, List.nil_append]
    refine AW.V k_11_163 ((c_MnX (by omega) hC1 g2)) rfl rfl rfl rfl rfl rfl (fun r1 m2 hq => ?_)
    obtain ⟨rfl, v1, v2⟩ := hq
    have F2 := j1.tr (v1.A (t := t))
    repeat refine AW.s rfl ?_
    try dsimp only [List.set_cons_zero, List.set_cons_succ, Option.toList_some, Option.toList_none, List.cons_append, List.nil_append]
    refine AW.b rfl (fun hc => ?_) (fun hc => ?_)
    · have h0 : hk t1 = 0 := v2.pl.2.val.2.2.2.2.mp hc
      rw [show rdL 0 t1 = (some [], t1) from if_pos h0] at g8
      have g8 : rdL 3 ts = (some (es ++ []), t1) := g8
      rw [List.append_nil] at g8
      repeat refine AW.s rfl ?_
      try dsimp only [List.set_cons_zero, List.set_cons_succ, Option.toList_some, Option.toList_none, List.cons_append, List.nil_append]
      refine AW.ri rfl rfl rfl ⟨F2, Or.inr ⟨es, t1, g8, rfl, fun j e hj => ?_⟩⟩
      obtain ⟨cs2, x1, x2, x3, x4⟩ := g7 j e hj
      exact ⟨cs2, x1, x2, by rw [v1.1 253 (by decide)]; exact x3, fun k x hk => by rw [v1.1 252 (by decide)]; exact x4 k x hk⟩
    · have h0 : ¬ hk t1 = 0 := fun z => hc (v2.pl.2.val.2.2.2.2.mpr z)
      rw [show rdL 0 t1 = (none, t1) from if_neg h0] at g8
      repeat refine AW.s rfl ?_
      try dsimp only [List.set_cons_zero, List.set_cons_succ, Option.toList_some, Option.toList_none, List.cons_append, List.nil_append]
      rw [v2.pl.1]
      exact AW.ri rfl rfl rfl ⟨F2, Or.inl ⟨t1, g8, rfl⟩⟩
end

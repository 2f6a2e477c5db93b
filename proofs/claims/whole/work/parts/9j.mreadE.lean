-- ===== the model's reader: readE =====
/-- what stays while a text is read: the tape, letters and begins -/
def RC (m : Mem) (g : Nat → Int32) (s : Nat) : Prop := m 243 12 = nI s ∧ s ≤ 160 ∧ m 251 = g ∧ (∀ k, k < s → ∃ b, b < 256 ∧ g k = nI b) ∧ (∀ k, k < 53 → m 254 k = LTC.getD k 0) ∧ ∀ k, k < 13 → m 255 k = nI (BGN.getD k 0)
/-- the token at hand is the first of these, and the others follow -/
def TS (m : Mem) (g : Nat → Int32) (s : Nat) (ts : List TK) : Prop := ∃ f p, p ≤ s ∧ m 243 17 = nI p ∧ MTk (hk ts) (hvl ts) (m 243 18) (m 243 19) ∧ m 243 20 = nI (hpl ts) ∧ 0 < ts.length ∧ ts.tail = (if 1 < hk ts then tks g s f p else [])
def ET (ts : List TK) : Prop := ∀ j t, ts[j]? = some t → 1 < t.1 → j + 1 < ts.length
theorem ET.tl {ts : List TK} (h : ET ts) : ET ts.tail := by
  intro j t hj h1
  cases ts with
  | nil => cases hj
  | cons a r =>
    have := h (j + 1) t hj h1
    have : j + 1 + 1 < r.length + 1 := this
    show j + 1 < r.length
    omega
theorem ET.nx {ts : List TK} (h : ET ts) (h1 : 1 < hk ts) : 0 < ts.tail.length := by
  cases ts with
  | nil => exact absurd h1 (by decide)
  | cons a r =>
    have := h 0 a rfl h1
    have : 0 + 1 < r.length + 1 := this
    show 0 < r.length
    omega
theorem RC.R {m m' : Mem} {g : Nat → Int32} {s q : Nat} (h : RC m g s) (hf : FR m m' q) : RC m' g s := by
  obtain ⟨h1, h2, h3, h4, h5, h6⟩ := h
  exact ⟨by rw [hf.2.2 12 (by omega)]; exact h1, h2, by rw [hf.1 251 (by decide) (by decide) (by decide) (by decide)]; exact h3, h4, by rw [hf.1 254 (by decide) (by decide) (by decide) (by decide)]; exact h5, by rw [hf.1 255 (by decide) (by decide) (by decide) (by decide)]; exact h6⟩
theorem FK.R {m m' : Mem} {q : Nat} (h : FK m m') : FR m m' q := ⟨fun a x _ _ _ => h.1 a x, fun k _ => by rw [h.1 252 (by decide)], fun k hk => h.2 k (by omega) (by omega) (by omega) (by omega)⟩
theorem MR.K {m m' : Mem} {q op dp : Nat} {W : List Nat} {O : List Int32} {c : Nat → Bool} (h : MR m q W O op dp c) (hf : FK m m') : MR m' q W O op dp c := by
  obtain ⟨h1, h2, h3, h4, h5, h6, h7, h8⟩ := h
  have e : ∀ k, 20 < k → m' 243 k = m 243 k := fun k hk => hf.2 k (by omega) (by omega) (by omega) (by omega)
  exact ⟨by rw [e 24 (by decide)]; exact h1, fun i o ho => by rw [hf.1 256 (by decide)]; exact h2 i o ho, by rw [e 29 (by decide)]; exact h3, by rw [e 28 (by decide)]; exact h4, fun k y hk => by rw [hf.1 252 (by decide)]; exact h5 k y hk, by rw [e 25 (by decide)]; exact h6, by rw [e 26 (by decide)]; exact h7, fun i hi => by rw [hf.1 257 (by decide)]; exact h8 i hi⟩
theorem TS.T {m m' : Mem} {g : Nat → Int32} {s q : Nat} {ts : List TK} (h : TS m g s ts) (hf : FT m m' q) : TS m' g s ts := by
  obtain ⟨f, p, h1, h2, h3, h4, h5, h6⟩ := h
  exact ⟨f, p, h1, by rw [hf.2 17 (by decide) (by decide)]; exact h2, by rw [hf.2 18 (by decide) (by decide), hf.2 19 (by decide) (by decide)]; exact h3, by rw [hf.2 20 (by decide) (by decide)]; exact h4, h5, h6⟩
section
variable {l : Launch} {X : XT} {d s p q : Nat} {m : Mem} {g : Nat → Int32} {ts : List TK}
theorem c_Mnx0 (hd : 2 ≤ d) (hC : RC m g s) (hp : p ≤ s) (hat : m 243 17 = nI p) (f : Nat) : Meth l X d M_X11_next [vR 12 243] m (fun r m' => r = none ∧ FK m m' ∧ TS m' g s (tks g s (f + 1) p)) := by
  obtain ⟨h1, h2, h3, h4, h5, h6⟩ := hC
  subst h3
  refine (c_MnextT hd h5 h6 h4 h1 h2 hp hat).post (fun r m' hq => ?_)
  obtain ⟨q1, q2, q3, q4, q5⟩ := hq
  have hle := blF_le (m 251) (s - p) p
  have htl := tokF_le (g := m 251) (s := s) (p := blF (m 251) (s - p) p) (by omega)
  exact ⟨q1, q2, f, (tokF (m 251) s (blF (m 251) (s - p) p)).2.2, htl.2, q4, q5, q3, Nat.succ_pos _, rfl⟩
theorem c_Mnx (hd : 2 ≤ d) (hC : RC m g s) (hT : TS m g s ts) (h1 : 1 < hk ts) (hE : ET ts) : Meth l X d M_X11_next [vR 12 243] m (fun r m' => r = none ∧ FK m m' ∧ TS m' g s ts.tail) := by
  obtain ⟨f, p, a1, a2, a3, a4, a5, a6⟩ := hT
  rw [if_pos h1] at a6
  have hn := hE.nx h1
  rw [a6] at hn ⊢
  cases f with
  | zero => exact absurd hn (Nat.lt_irrefl 0)
  | succ f => exact c_Mnx0 hd hC a1 a2 f
/-- what reading part q leaves alone, its length set -/
def FQ (m m' : Mem) (q : Nat) : Prop := (∀ a, a ≠ 243 → a ≠ 252 → a ≠ 253 → a ≠ 256 → a ≠ 257 → m' a = m a) ∧ (∀ k, (k < 160 * q ∨ 160 * q + 160 ≤ k) → m' 252 k = m 252 k) ∧ (∀ k, k ≠ q → m' 253 k = m 253 k) ∧ ∀ k, (k < 17 ∨ (20 < k ∧ k < 24) ∨ k = 27 ∨ 29 < k) → m' 243 k = m 243 k
theorem FR.Q {m m' : Mem} (h : FR m m' q) : FQ m m' q := ⟨fun a x y z u v => h.1 a x y u v, h.2.1, fun k _ => by rw [h.1 253 (by decide) (by decide) (by decide) (by decide)], h.2.2⟩
theorem c_MreadE (hd : 5 ≤ d) (hC : RC m g s) (hT : TS m g s ts) (hE : ET ts) (hq18 : q < 18) (hlen : ts.length ≤ 160) : Meth l X d M_X11_readE [vR 12 243, vI (nI q)] m (fun r m' => (∃ rs, runM ts.length true true [] [] 0 0 (fun _ => false) ts = (none, rs) ∧ r = some (vI 0) ∧ FQ m m' q ∧ TS m' g s rs) ∨ ∃ cs rs, runM ts.length true true [] [] 0 0 (fun _ => false) ts = (some cs, rs) ∧ r = some (vI 1) ∧ FQ m m' q ∧ TS m' g s rs ∧ ET rs ∧ rs.length ≤ ts.length ∧ cs.length ≤ 160 ∧ m' 253 q = nI cs.length ∧ ∀ k x, cs[k]? = some x → m' 252 (160 * q + k) = x) := by
  obtain ⟨d, rfl⟩ : ∃ e, d = e + 1 := ⟨d - 1, by omega⟩
  generalize hz : runM ts.length true true [] [] 0 0 (fun _ => false) ts = z
  refine E_X11_readE (ls := [vR 12 243, vI (nI q), vU, vU, vU]) rfl rfl ?_
  repeat refine AW.s rfl ?_
  try dsimp only [List.set_cons_zero, List.set_cons_succ, Option.toList_some, Option.toList_none, List.cons_append, List.nil_append]
  rw [show (160 : Int32) * nI q = nI (160 * q) from pk_mul 160 q]
  refine AW.c rfl (⟨vp_in_nI (n := 0) (by decide) (by decide), fun _ => Or.inl rfl⟩) ?_
  try dsimp only [List.set_cons_zero, List.set_cons_succ, Option.toList_some, Option.toList_none, List.cons_append, List.nil_append]
  repeat refine AW.u 40 rfl rfl ?_
  try dsimp only [List.set_cons_zero, List.set_cons_succ, Option.toList_some, Option.toList_none, List.cons_append, List.nil_append]
  generalize hm0 : mUp _ (243 + 14) (Int32.toNatClampNeg 0) 0 = m0
  have R0 : MR m0 q [] [] 0 0 (fun _ => false) := by
    rw [← hm0]
    refine ⟨?_, fun i o ho => (by cases ho), ?_, ?_, fun k x hk => (by cases hk), ?_, ?_, fun i hi => ?_⟩
    · rw [mUp_a (by decide), mUp_n (Or.inr (by decide)), mUp_n (Or.inr (by decide)), mUp_s]; rfl
    · rw [mUp_a (by decide), mUp_n (Or.inr (by decide)), mUp_n (Or.inr (by decide)), mUp_n (Or.inr (by decide)), mUp_s]; rfl
    · rw [mUp_a (by decide), mUp_n (Or.inr (by decide)), mUp_n (Or.inr (by decide)), mUp_n (Or.inr (by decide)), mUp_n (Or.inr (by decide)), mUp_s]
    · rw [mUp_a (by decide), mUp_n (Or.inr (by decide)), mUp_s]; rfl
    · rw [mUp_a (by decide), mUp_s]; rfl
    · rw [show i = 0 by omega]; exact mUp_s _ _ _ _
  have F0 : FT m m0 q := by
    rw [← hm0]
    exact FT.w (FT.u (FT.u (FT.u (FT.u (FT.u FT.rf (by omega)) (by omega)) (by omega)) (by omega)) (by omega)) (by omega)
  clear hm0
  refine AW.wf (pc := 40) (σ := Bool × Bool × List Nat × List Int32 × Nat × Nat × (Nat → Bool) × List TK) (fun st => st.2.2.2.2.2.2.2.length) (fun st => [vR 12 243, vI (nI q), vI (if st.1 then 1 else 0), vI (if st.2.1 then 1 else 0), vU]) (fun st m1 => FR m m1 q ∧ MR m1 q st.2.2.1 st.2.2.2.1 st.2.2.2.2.1 st.2.2.2.2.2.1 st.2.2.2.2.2.2.1 ∧ WI st.2.2.1 st.2.2.2.2.1 st.2.2.2.2.2.1 ∧ TS m1 g s st.2.2.2.2.2.2.2 ∧ ET st.2.2.2.2.2.2.2 ∧ st.2.2.2.2.2.2.2.length ≤ ts.length ∧ st.2.2.1.length + st.2.2.2.1.length + st.2.2.2.2.2.2.2.length ≤ 160 ∧ runM st.2.2.2.2.2.2.2.length st.1 st.2.1 st.2.2.1 st.2.2.2.1 st.2.2.2.2.1 st.2.2.2.2.2.1 st.2.2.2.2.2.2.1 st.2.2.2.2.2.2.2 = z) (fun st m1 hM ih => ?_) (true, true, [], [], 0, 0, fun _ => false, ts) m0 ⟨F0.1, R0, ⟨fun o ho => (by cases ho), rfl, rfl, Nat.zero_le 5⟩, hT.T F0, hE, Nat.le_refl _, by show 0 + 0 + ts.length ≤ 160; omega, hz⟩
  obtain ⟨wa, mN, W, O, op, dp, c, t1⟩ := st
  obtain ⟨j1, j2, j3, j4, j5, j6, j7, j8⟩ := hM
  have g1 : FR m m1 q := j1
  have g2 : MR m1 q W O op dp c := j2
  have g3 : WI W op dp := j3
  have g4 : TS m1 g s t1 := j4
  have g5 : ET t1 := j5
  have g6 : t1.length ≤ ts.length := j6
  have g7 : W.length + O.length + t1.length ≤ 160 := j7
  have g8 : runM t1.length wa mN W O op dp c t1 = z := j8
  clear j1 j2 j3 j4 j5 j6 j7 j8
  have hC1 := hC.R g1
  have ht : MTk (hk t1) (hvl t1) (m1 243 18) (m1 243 19) := by obtain ⟨f, p, -, -, h3, -⟩ := g4; exact h3
  have hpos : 0 < t1.length := by obtain ⟨f, p, -, -, -, -, h5, -⟩ := g4; exact h5
  have hopd := g3.2.2
  obtain ⟨n, hn⟩ : ∃ n, t1.length = n + 1 := ⟨t1.length - 1, by omega⟩
  have hntl : t1.tail.length = n := by rw [List.length_tail]; omega
  rw [hn] at g8
  -- a fault
  have bad : ∀ mm : Mem, FR m mm q → TS mm g s t1 → z = (none, t1) → ∀ (pc : Nat), (pc = 116 ∨ pc = 206) → ∀ x y w : AV, AW (GM l X (d + 1) M_X11_readE (fun r m' => (∃ rs, z = (none, rs) ∧ r = some (vI 0) ∧ FQ m m' q ∧ TS m' g s rs) ∨ ∃ cs rs, z = (some cs, rs) ∧ r = some (vI 1) ∧ FQ m m' q ∧ TS m' g s rs ∧ ET rs ∧ rs.length ≤ ts.length ∧ cs.length ≤ 160 ∧ m' 253 q = nI cs.length ∧ ∀ k x, cs[k]? = some x → m' 252 (160 * q + k) = x)) pc [vR 12 243, vI (nI q), x, y, w] [] mm := by
    intro mm f1 f2 f3 pc hpc x y w
    rcases hpc with e | e <;> subst e
    · repeat refine AW.s rfl ?_
      try dsimp only [List.set_cons_zero, List.set_cons_succ, Option.toList_some, Option.toList_none, List.cons_append, List.nil_append]
      exact AW.ri rfl rfl rfl (Or.inl ⟨t1, f3, rfl, f1.Q, f2⟩)
    · repeat refine AW.s rfl ?_
      try dsimp only [List.set_cons_zero, List.set_cons_succ, Option.toList_some, Option.toList_none, List.cons_append, List.nil_append]
      exact AW.ri rfl rfl rfl (Or.inl ⟨t1, f3, rfl, f1.Q, f2⟩)
  -- behind a step: the next token
  have nxt : ∀ (mm : Mem) (wa2 mN2 : Bool) (W2 : List Nat) (O2 : List Int32) (op2 dp2 : Nat) (c2 : Nat → Bool), FT m1 mm q → MR mm q W2 O2 op2 dp2 c2 → WI W2 op2 dp2 → W2.length + O2.length ≤ W.length + O.length + 1 → 1 < hk t1 → runM n wa2 mN2 W2 O2 op2 dp2 c2 t1.tail = z → AW (GM l X (d + 1) M_X11_readE (fun r m' => (∃ rs, z = (none, rs) ∧ r = some (vI 0) ∧ FQ m m' q ∧ TS m' g s rs) ∨ ∃ cs rs, z = (some cs, rs) ∧ r = some (vI 1) ∧ FQ m m' q ∧ TS m' g s rs ∧ ET rs ∧ rs.length ≤ ts.length ∧ cs.length ≤ 160 ∧ m' 253 q = nI cs.length ∧ ∀ k x, cs[k]? = some x → m' 252 (160 * q + k) = x)) 208 [vR 12 243, vI (nI q), vI (if wa2 then 1 else 0), vI (if mN2 then 1 else 0), vU] [] mm := by
    intro mm wa2 mN2 W2 O2 op2 dp2 c2 f1 f2 f3 f4 f5 f6
    repeat refine AW.s rfl ?_
    try dsimp only [List.set_cons_zero, List.set_cons_succ, Option.toList_some, Option.toList_none, List.cons_append, List.nil_append]
    refine AW.V k_11_163 ((c_Mnx (by omega) (hC1.R f1.1) (g4.T f1) f5 g5)) rfl rfl rfl rfl rfl rfl (fun r1 m9 hq => ?_)
    obtain ⟨rfl, v1, v2⟩ := hq
    repeat refine AW.u 40 rfl rfl ?_
    try dsimp only [List.set_cons_zero, List.set_cons_succ, Option.toList_some, Option.toList_none, List.cons_append, List.nil_append]
    exact ih (wa2, mN2, W2, O2, op2, dp2, c2, t1.tail) m9 (by show t1.tail.length < t1.length; omega) ⟨(g1.tr f1.1).tr v1.R, f2.K v1, f3, v2, g5.tl, by show t1.tail.length ≤ ts.length; omega, by show W2.length + O2.length + t1.tail.length ≤ 160; omega, by show runM t1.tail.length wa2 mN2 W2 O2 op2 dp2 c2 t1.tail = z; rw [hntl]; exact f6⟩
  repeat refine AW.s rfl ?_
  try dsimp only [List.set_cons_zero, List.set_cons_succ, Option.toList_some, Option.toList_none, List.cons_append, List.nil_append]
  cases wa with
  | true =>
    refine AW.b rfl (fun hc => ?_) (fun hc => ?_)
    · exact absurd (show (1 : Int32) = 0 from hc) (by decide)
    · -- a number or a name
      have vl : (hk t1 = 2 ∨ hk t1 = 3) → AW (GM l X (d + 1) M_X11_readE (fun r m' => (∃ rs, z = (none, rs) ∧ r = some (vI 0) ∧ FQ m m' q ∧ TS m' g s rs) ∨ ∃ cs rs, z = (some cs, rs) ∧ r = some (vI 1) ∧ FQ m m' q ∧ TS m' g s rs ∧ ET rs ∧ rs.length ≤ ts.length ∧ cs.length ≤ 160 ∧ m' 253 q = nI cs.length ∧ ∀ k x, cs[k]? = some x → m' 252 (160 * q + k) = x)) 60 [vR 12 243, vI (nI q), vI (if true = true then 1 else 0), vI (if mN then 1 else 0), vU] [] m1 := by
        intro h23
        have hwv := ht.val.2.2.1 h23
        rw [runM_v h23] at g8
        have em : ∀ x : Int32, x = cde t1 → AW (GM l X (d + 1) M_X11_readE (fun r m' => (∃ rs, z = (none, rs) ∧ r = some (vI 0) ∧ FQ m m' q ∧ TS m' g s rs) ∨ ∃ cs rs, z = (some cs, rs) ∧ r = some (vI 1) ∧ FQ m m' q ∧ TS m' g s rs ∧ ET rs ∧ rs.length ≤ ts.length ∧ cs.length ≤ 160 ∧ m' 253 q = nI cs.length ∧ ∀ k x, cs[k]? = some x → m' 252 (160 * q + k) = x)) 82 [vR 12 243, vI (nI q), vI (if true = true then 1 else 0), vI (if mN then 1 else 0), vU] [vI x, vR 12 243] m1 := by
          intro x hx
          obtain ⟨y1, y2, y3, y4⟩ := g3.fls (r := 7) (by decide)
          refine AW.V k_11_126 ((c_Memit (x := x) g2 hq18 (by omega))) rfl rfl rfl rfl rfl rfl (fun r1 m2 hq => ?_)
          obtain ⟨rfl, R2, F2⟩ := hq
          have hO2 : (O ++ [x]).length = O.length + 1 := by rw [List.length_append]; rfl
          repeat refine AW.s rfl ?_
          try dsimp only [List.set_cons_zero, List.set_cons_succ, Option.toList_some, Option.toList_none, List.cons_append, List.nil_append]
          refine AW.V k_11_143 ((c_MdoAll (r := 7) (by omega) R2 hq18 (by decide) (by decide) (by omega) (fun o ho => g3.le ho) (by omega) (by omega))) rfl rfl rfl rfl rfl rfl (fun r1 m3 hq => ?_)
          obtain ⟨rfl, R3, F3⟩ := hq
          repeat refine AW.u 208 rfl rfl ?_
          try dsimp only [List.set_cons_zero, List.set_cons_succ, Option.toList_some, Option.toList_none, List.cons_append, List.nil_append]
          rw [hx] at R3
          refine nxt m3 false mN _ _ _ _ c (F2.tr F3) R3 y1 ?_ ?_ g8
          · rw [List.length_append, List.length_append, List.length_map]
            show (fl 7 W).length + (O.length + 1 + (ft 7 W).length) ≤ _
            omega
          · rcases h23 with z | z <;> rw [z] <;> decide
        repeat refine AW.s rfl ?_
        try dsimp only [List.set_cons_zero, List.set_cons_succ, Option.toList_some, Option.toList_none, List.cons_append, List.nil_append]
        refine AW.b rfl (fun hc => ?_) (fun hc => ?_)
        · have e2 : hk t1 = 2 := ht.val.1.mp hc
          repeat refine AW.s rfl ?_
          try dsimp only [List.set_cons_zero, List.set_cons_succ, Option.toList_some, Option.toList_none, List.cons_append, List.nil_append]
          refine em _ ?_
          rw [hwv]
          exact (if_pos e2).symm
        · have e2 : ¬ hk t1 = 2 := fun z => hc (ht.val.1.mpr z)
          repeat refine AW.s rfl ?_
          try dsimp only [List.set_cons_zero, List.set_cons_succ, Option.toList_some, Option.toList_none, List.cons_append, List.nil_append]
          refine em _ ?_
          rw [hwv]
          exact (if_neg e2).symm
      -- not a value
      have nv : ¬ hk t1 = 2 → ¬ hk t1 = 3 → AW (GM l X (d + 1) M_X11_readE (fun r m' => (∃ rs, z = (none, rs) ∧ r = some (vI 0) ∧ FQ m m' q ∧ TS m' g s rs) ∨ ∃ cs rs, z = (some cs, rs) ∧ r = some (vI 1) ∧ FQ m m' q ∧ TS m' g s rs ∧ ET rs ∧ rs.length ≤ ts.length ∧ cs.length ≤ 160 ∧ m' 253 q = nI cs.length ∧ ∀ k x, cs[k]? = some x → m' 252 (160 * q + k) = x)) 96 [vR 12 243, vI (nI q), vI (if true = true then 1 else 0), vI (if mN then 1 else 0), vU] [] m1 := by
        intro n2 n3
        repeat refine AW.s rfl ?_
        try dsimp only [List.set_cons_zero, List.set_cons_succ, Option.toList_some, Option.toList_none, List.cons_append, List.nil_append]
        refine AW.b rfl (fun hc => ?_) (fun hc => ?_)
        · exact absurd (show (1 : Int32) = 0 from hc) (by decide)
        · repeat refine AW.s rfl ?_
          try dsimp only [List.set_cons_zero, List.set_cons_succ, Option.toList_some, Option.toList_none, List.cons_append, List.nil_append]
          refine AW.V k_11_130 ((c_MisSign (b := 45) ht rfl)) rfl rfl rfl rfl rfl rfl (fun r1 m2 hq => ?_)
          obtain ⟨rfl, hm2⟩ := hq
          rw [hm2]
          repeat refine AW.s rfl ?_
          try dsimp only [List.set_cons_zero, List.set_cons_succ, Option.toList_some, Option.toList_none, List.cons_append, List.nil_append]
          refine AW.V k_11_149 ((c_Mahead (b := mN) (q := q) (by omega) g2 g3 (by omega) ht)) rfl rfl rfl rfl rfl rfl (fun r1 m3 hq => ?_)
          rcases hq with ⟨h1, rfl, hm3⟩ | ⟨h1, h2, rfl, F3, R3, R4⟩
          · rw [hm3]
            try dsimp only [List.set_cons_zero, List.set_cons_succ, Option.toList_some, Option.toList_none, List.cons_append, List.nil_append]
            refine AW.b rfl (fun hc => ?_) (fun hc => ?_)
            · refine bad m1 g1 g4 ?_ 116 (Or.inl rfl) _ _ _
              rw [← g8]
              exact runM_f n2 n3 h1
            · exact absurd rfl hc
          · have hgt : 1 < hk t1 := by
              rcases h1 with z | z | z
              · rw [z]; decide
              · rw [z]; decide
              · rw [z.2]; decide
            try dsimp only [List.set_cons_zero, List.set_cons_succ, Option.toList_some, Option.toList_none, List.cons_append, List.nil_append]
            refine AW.b rfl (fun hc => ?_) (fun hc => ?_)
            · exact absurd hc (by decide)
            · repeat refine AW.s rfl ?_
              try dsimp only [List.set_cons_zero, List.set_cons_succ, Option.toList_some, Option.toList_none, List.cons_append, List.nil_append]
              by_cases e40 : hk t1 = 40
              · rw [runM_p e40 h2] at g8
                have nW : WI (30 :: W) (op + 1) (dp + 1) := ⟨fun o ho => by rcases List.mem_cons.mp ho with z | z; exact Or.inl z; exact g3.1 o z, by rw [List.count_cons_self, ← g3.2.1], by rw [show fc (30 :: W) = fc W from List.countP_cons_of_neg (by decide)]; omega, by omega⟩
                rw [if_neg (show ¬ hk t1 = nI 45 from fun z => by rw [e40] at z; exact absurd z (by decide))]
                refine AW.b rfl (fun hc => ?_) (fun hc => ?_)
                · repeat refine AW.u 208 rfl rfl ?_
                  try dsimp only [List.set_cons_zero, List.set_cons_succ, Option.toList_some, Option.toList_none, List.cons_append, List.nil_append]
                  refine AW.fg 4 ?_
                  try dsimp only [List.set_cons_zero, List.set_cons_succ, Option.toList_some, Option.toList_none, List.cons_append, List.nil_append]
                  exact nxt m3 true true _ _ _ _ _ F3 (R3 e40) nW (by show W.length + 1 + O.length ≤ _; omega) hgt g8
                · exact absurd rfl hc
              · have R4 := R4 e40
                by_cases e45 : hk t1 = 45
                · rw [runM_m e45 h2] at g8
                  rw [if_neg (show ¬ hk t1 = 9 by rw [e45]; decide)] at R4
                  have nW : WI (18 :: W) (op + 1) dp := ⟨fun o ho => by rcases List.mem_cons.mp ho with z | z; exact Or.inr (by omega); exact g3.1 o z, by rw [List.count_cons_of_ne (by decide), ← g3.2.1], by rw [show fc (18 :: W) = fc W + 1 from List.countP_cons_of_pos (by decide)]; omega, by omega⟩
                  rw [if_pos (show hk t1 = nI 45 from e45)]
                  refine AW.b rfl (fun hc => ?_) (fun hc => ?_)
                  · exact absurd (show (1 : Int32) = 0 from hc) (by decide)
                  · repeat refine AW.u 208 rfl rfl ?_
                    try dsimp only [List.set_cons_zero, List.set_cons_succ, Option.toList_some, Option.toList_none, List.cons_append, List.nil_append]
                    refine AW.fg 4 ?_
                    try dsimp only [List.set_cons_zero, List.set_cons_succ, Option.toList_some, Option.toList_none, List.cons_append, List.nil_append]
                    exact nxt m3 true false _ _ _ _ _ F3 R4 nW (by show W.length + 1 + O.length ≤ _; omega) hgt g8
                · obtain ⟨bt, e9⟩ : mN = true ∧ hk t1 = 9 := by
                    rcases h1 with z | z | z
                    · exact absurd z e40
                    · exact absurd z e45
                    · exact z
                  subst bt
                  rw [runM_n e9 h2] at g8
                  rw [if_pos e9] at R4
                  have nW : WI (12 :: W) (op + 1) dp := ⟨fun o ho => by rcases List.mem_cons.mp ho with z | z; exact Or.inr (by omega); exact g3.1 o z, by rw [List.count_cons_of_ne (by decide), ← g3.2.1], by rw [show fc (12 :: W) = fc W + 1 from List.countP_cons_of_pos (by decide)]; omega, by omega⟩
                  rw [if_neg (show ¬ hk t1 = nI 45 from e45)]
                  refine AW.b rfl (fun hc => ?_) (fun hc => ?_)
                  · repeat refine AW.u 208 rfl rfl ?_
                    try dsimp only [List.set_cons_zero, List.set_cons_succ, Option.toList_some, Option.toList_none, List.cons_append, List.nil_append]
                    refine AW.fg 4 ?_
                    try dsimp only [List.set_cons_zero, List.set_cons_succ, Option.toList_some, Option.toList_none, List.cons_append, List.nil_append]
                    exact nxt m3 true true _ _ _ _ _ F3 R4 nW (by show W.length + 1 + O.length ≤ _; omega) hgt g8
                  · exact absurd rfl hc
      repeat refine AW.s rfl ?_
      try dsimp only [List.set_cons_zero, List.set_cons_succ, Option.toList_some, Option.toList_none, List.cons_append, List.nil_append]
      refine AW.b rfl (fun hc => ?_) (fun hc => ?_)
      · exact vl (Or.inl (ht.val.1.mp hc))
      · have n2 : ¬ hk t1 = 2 := fun z => hc (ht.val.1.mpr z)
        repeat refine AW.s rfl ?_
        try dsimp only [List.set_cons_zero, List.set_cons_succ, Option.toList_some, Option.toList_none, List.cons_append, List.nil_append]
        refine AW.b rfl (fun hc => ?_) (fun hc => ?_)
        · exact vl (Or.inr (ht.val.2.1.mp hc))
        · exact nv n2 (fun z => hc (ht.val.2.1.mpr z))
  | false =>
    refine AW.b rfl (fun hc => ?_) (fun hc => ?_)
    · repeat refine AW.s rfl ?_
      try dsimp only [List.set_cons_zero, List.set_cons_succ, Option.toList_some, Option.toList_none, List.cons_append, List.nil_append]
      refine AW.b rfl (fun hc => ?_) (fun hc => ?_)
      · repeat refine AW.s rfl ?_
        try dsimp only [List.set_cons_zero, List.set_cons_succ, Option.toList_some, Option.toList_none, List.cons_append, List.nil_append]
        refine AW.V k_11_130 ((c_MisSign (b := 59) ht rfl)) rfl rfl rfl rfl rfl rfl (fun r1 m2 hq => ?_)
        obtain ⟨rfl, hm2⟩ := hq
        rw [hm2]
        try dsimp only [List.set_cons_zero, List.set_cons_succ, Option.toList_some, Option.toList_none, List.cons_append, List.nil_append]
        -- not the end
        have go : ¬ (hk t1 = 59 ∧ dp = 0) → AW (GM l X (d + 1) M_X11_readE (fun r m' => (∃ rs, z = (none, rs) ∧ r = some (vI 0) ∧ FQ m m' q ∧ TS m' g s rs) ∨ ∃ cs rs, z = (some cs, rs) ∧ r = some (vI 1) ∧ FQ m m' q ∧ TS m' g s rs ∧ ET rs ∧ rs.length ≤ ts.length ∧ cs.length ≤ 160 ∧ m' 253 q = nI cs.length ∧ ∀ k x, cs[k]? = some x → m' 252 (160 * q + k) = x)) 165 [vR 12 243, vI (nI q), vI (if false = true then 1 else 0), vI (if mN then 1 else 0), vU] [] m1 := by
          intro h59
          repeat refine AW.s rfl ?_
          try dsimp only [List.set_cons_zero, List.set_cons_succ, Option.toList_some, Option.toList_none, List.cons_append, List.nil_append]
          refine AW.V k_11_156 ((c_Mbetween (by omega) g2 g3 hq18 (by omega) ht)) rfl rfl rfl rfl rfl rfl (fun r1 m3 hq => ?_)
          rcases hq with ⟨h1, rfl, hm3⟩ | ⟨o, h1, h2, rfl, R3, F3⟩
          · rw [hm3]
            try dsimp only [List.set_cons_zero, List.set_cons_succ, Option.toList_some, Option.toList_none, List.cons_append, List.nil_append]
            refine AW.b rfl (fun hc => ?_) (fun hc => ?_)
            · repeat refine AW.s rfl ?_
              try dsimp only [List.set_cons_zero, List.set_cons_succ, Option.toList_some, Option.toList_none, List.cons_append, List.nil_append]
              refine AW.V k_11_160 ((c_Mcloses (by omega) g2 g3 hq18 (by omega) ht)) rfl rfl rfl rfl rfl rfl (fun r1 m4 hq => ?_)
              rcases hq with ⟨h2, rfl, hm4⟩ | ⟨h2, rfl, R4, F4⟩
              · rw [hm4]
                try dsimp only [List.set_cons_zero, List.set_cons_succ, Option.toList_some, Option.toList_none, List.cons_append, List.nil_append]
                refine AW.b rfl (fun hc => ?_) (fun hc => ?_)
                · refine bad m1 g1 g4 ?_ 206 (Or.inr rfl) _ _ _
                  rw [← g8]
                  exact runM_s h59 h1 h2
                · exact absurd rfl hc
              · rw [runM_c h2.1 h2.2] at g8
                obtain ⟨W2, eW⟩ := fl_30 g3.1 (by rw [← g3.2.1]; exact h2.2)
                obtain ⟨y1, y2, y3, y4⟩ := g3.fls (r := 1) (Nat.le_refl _)
                rw [eW] at y1 y3 y4
                rw [eW, List.tail_cons] at g8 R4
                have y4 : W2.length + 1 + (ft 1 W).length = W.length := y4
                have c30 : (30 :: W2).count 30 = W2.count 30 + 1 := List.count_cons_self
                have f30 : fc (30 :: W2) = fc W2 := List.countP_cons_of_neg (by decide)
                obtain ⟨z1, z2, z3, z4⟩ := y1
                have w2 : WI W2 (op - fc (ft 1 W) - 1) (dp - 1) := ⟨fun o ho => z1 o (List.mem_cons_of_mem _ ho), by omega, by omega, by omega⟩
                obtain ⟨x1, x2, x3, x4⟩ := w2.fls (r := 7) (by decide)
                try dsimp only [List.set_cons_zero, List.set_cons_succ, Option.toList_some, Option.toList_none, List.cons_append, List.nil_append]
                refine AW.b rfl (fun hc => ?_) (fun hc => ?_)
                · exact absurd hc (by decide)
                · repeat refine AW.u 208 rfl rfl ?_
                  try dsimp only [List.set_cons_zero, List.set_cons_succ, Option.toList_some, Option.toList_none, List.cons_append, List.nil_append]
                  refine nxt m4 false mN _ _ _ _ c F4 R4 x1 ?_ (by rw [h2.1]; decide) g8
                  rw [List.length_append, List.length_append, List.length_map, List.length_map]
                  omega
            · exact absurd rfl hc
          · rw [runM_o h1 h2] at g8
            obtain ⟨o1, o2, o3⟩ := opc_rk h1
            obtain ⟨y1, y2, y3, y4⟩ := g3.fls (r := rk o) o2
            have hgt : 1 < hk t1 := by
              unfold opc at h1
              repeat' split at h1
              all_goals first | (rename_i e; rw [e]; decide) | cases h1
            obtain ⟨z1, z2, z3, z4⟩ := y1
            have nW : WI (o :: fl (rk o) W) (op - fc (ft (rk o) W)) dp := ⟨fun p hp => by rcases List.mem_cons.mp hp with z | z; exact Or.inr (by omega); exact z1 p z, by rw [List.count_cons_of_ne (by omega)]; exact z2, by rw [show fc (o :: fl (rk o) W) = fc (fl (rk o) W) from List.countP_cons_of_neg (by rcases o1 with z | z | z | z | z | z | z <;> subst z <;> decide)]; exact z3, z4⟩
            have hl2 : (o :: fl (rk o) W).length + (O ++ (ft (rk o) W).map nI).length ≤ W.length + O.length + 1 := by
              rw [List.length_append, List.length_map, List.length_cons]
              omega
            have t3 : MTk (hk t1) (hvl t1) (m3 243 18) (m3 243 19) := by rw [F3.2 18 (by decide) (by decide), F3.2 19 (by decide) (by decide)]; exact ht
            have e8 : hk t1 = 8 ↔ o = 11 := by
              unfold opc at h1
              repeat' split at h1
              all_goals first | (rename_i e; cases h1; rw [e]; decide) | cases h1
            have e7 : hk t1 = 7 ↔ o = 10 := by
              unfold opc at h1
              repeat' split at h1
              all_goals first | (rename_i e; cases h1; rw [e]; decide) | cases h1
            try dsimp only [List.set_cons_zero, List.set_cons_succ, Option.toList_some, Option.toList_none, List.cons_append, List.nil_append]
            refine AW.b rfl (fun hc => ?_) (fun hc => ?_)
            · exact absurd hc (by decide)
            · repeat refine AW.s rfl ?_
              try dsimp only [List.set_cons_zero, List.set_cons_succ, Option.toList_some, Option.toList_none, List.cons_append, List.nil_append]
              refine AW.V k_11_133 ((c_MisKey (j := 4) t3 (by decide))) rfl rfl rfl rfl rfl rfl (fun r1 m4 hq => ?_)
              obtain ⟨rfl, hm4⟩ := hq
              rw [hm4]
              try dsimp only [List.set_cons_zero, List.set_cons_succ, Option.toList_some, Option.toList_none, List.cons_append, List.nil_append]
              by_cases q8 : hk t1 = 8
              · rw [if_pos (show hk t1 = nI (4 + 4) from q8)]
                rw [decide_eq_true (show o = 10 ∨ o = 11 from Or.inr (e8.mp q8))] at g8
                refine AW.b rfl (fun hc => ?_) (fun hc => ?_)
                · exact absurd hc (by decide)
                · repeat refine AW.u 208 rfl rfl ?_
                  try dsimp only [List.set_cons_zero, List.set_cons_succ, Option.toList_some, Option.toList_none, List.cons_append, List.nil_append]
                  exact nxt m3 true true _ _ _ _ _ F3 R3 nW hl2 hgt g8
              · rw [if_neg (show ¬ hk t1 = nI (4 + 4) from q8)]
                refine AW.b rfl (fun hc => ?_) (fun hc => ?_)
                · repeat refine AW.s rfl ?_
                  try dsimp only [List.set_cons_zero, List.set_cons_succ, Option.toList_some, Option.toList_none, List.cons_append, List.nil_append]
                  refine AW.V k_11_133 ((c_MisKey (j := 3) t3 (by decide))) rfl rfl rfl rfl rfl rfl (fun r1 m5 hq => ?_)
                  obtain ⟨rfl, hm5⟩ := hq
                  rw [hm5]
                  try dsimp only [List.set_cons_zero, List.set_cons_succ, Option.toList_some, Option.toList_none, List.cons_append, List.nil_append]
                  by_cases q7 : hk t1 = 7
                  · rw [if_pos (show hk t1 = nI (4 + 3) from q7)]
                    rw [decide_eq_true (show o = 10 ∨ o = 11 from Or.inl (e7.mp q7))] at g8
                    refine AW.b rfl (fun hc => ?_) (fun hc => ?_)
                    · exact absurd hc (by decide)
                    · repeat refine AW.u 208 rfl rfl ?_
                      try dsimp only [List.set_cons_zero, List.set_cons_succ, Option.toList_some, Option.toList_none, List.cons_append, List.nil_append]
                      exact nxt m3 true true _ _ _ _ _ F3 R3 nW hl2 hgt g8
                  · rw [if_neg (show ¬ hk t1 = nI (4 + 3) from q7)]
                    rw [decide_eq_false (show ¬ (o = 10 ∨ o = 11) from fun z => z.elim (fun y => q7 (e7.mpr y)) (fun y => q8 (e8.mpr y)))] at g8
                    refine AW.b rfl (fun hc => ?_) (fun hc => ?_)
                    · repeat refine AW.u 208 rfl rfl ?_
                      try dsimp only [List.set_cons_zero, List.set_cons_succ, Option.toList_some, Option.toList_none, List.cons_append, List.nil_append]
                      exact nxt m3 true false _ _ _ _ _ F3 R3 nW hl2 hgt g8
                    · exact absurd rfl hc
                · exact absurd rfl hc
        by_cases e59 : hk t1 = 59
        · rw [if_pos (show hk t1 = nI 59 from e59)]
          refine AW.b rfl (fun hc => ?_) (fun hc => ?_)
          · exact absurd hc (by decide)
          · repeat refine AW.s rfl ?_
            try dsimp only [List.set_cons_zero, List.set_cons_succ, Option.toList_some, Option.toList_none, List.cons_append, List.nil_append]
            rw [g2.2.2.2.2.2.2.1]
            by_cases h0 : dp = 0
            · subst h0
              rw [runM_e e59 rfl] at g8
              refine AW.b rfl (fun hc => ?_) (fun hc => ?_)
              · obtain ⟨y1, y2, y3, y4⟩ := g3.fls (r := 1) (by decide)
                repeat refine AW.s rfl ?_
                try dsimp only [List.set_cons_zero, List.set_cons_succ, Option.toList_some, Option.toList_none, List.cons_append, List.nil_append]
                refine AW.V k_11_143 ((c_MdoAll (r := 1) (by omega) g2 hq18 (by decide) (by decide) (by omega) (fun o ho => g3.le ho) (by omega) (by omega))) rfl rfl rfl rfl rfl rfl (fun r1 m3 hq => ?_)
                obtain ⟨rfl, R3, F3⟩ := hq
                have hl3 : (O ++ (ft 1 W).map nI).length ≤ 160 := by rw [List.length_append, List.length_map]; omega
                generalize O ++ (ft 1 W).map nI = cs at *
                have F4 := (g1.tr F3.1)
                repeat refine AW.s rfl ?_
                try dsimp only [List.set_cons_zero, List.set_cons_succ, Option.toList_some, Option.toList_none, List.cons_append, List.nil_append]
                rw [R3.2.2.1]
                refine AW.c rfl (⟨vp_in_nI (by omega) (by decide), fun z => absurd z (by decide)⟩) ?_
                try dsimp only [List.set_cons_zero, List.set_cons_succ, Option.toList_some, Option.toList_none, List.cons_append, List.nil_append]
                rw [nI_clamp (by omega)]
                repeat refine AW.s rfl ?_
                try dsimp only [List.set_cons_zero, List.set_cons_succ, Option.toList_some, Option.toList_none, List.cons_append, List.nil_append]
                refine AW.ri rfl rfl rfl (Or.inr ⟨cs, t1, g8.symm, rfl, ⟨fun a x y z u v => by rw [mUp_a z]; exact F4.1 a x y u v, fun k hk => by rw [mUp_a (by decide)]; exact F4.2.1 k hk, fun k hk => by rw [mUp_n (Or.inr hk), F4.1 253 (by decide) (by decide) (by decide) (by decide)], fun k hk => by rw [mUp_a (by decide)]; exact F4.2.2 k hk⟩, ?_, g5, g6, hl3, mUp_s _ _ _ _, fun k x hk => by rw [mUp_a (by decide)]; exact R3.2.2.2.2.1 k x hk⟩)
                obtain ⟨f, p, x1, x2, x3, x4, x5, x6⟩ := g4.T F3
                exact ⟨f, p, x1, by rw [mUp_a (by decide)]; exact x2, by rw [mUp_a (by decide)]; exact x3, by rw [mUp_a (by decide)]; exact x4, x5, x6⟩
              · exact absurd rfl hc
            · refine AW.b rfl (fun hc => ?_) (fun hc => ?_)
              · exact absurd ((nI_eq (b := 0) (by omega) (by decide)).mp hc) h0
              · exact go (fun z => h0 z.2)
        · rw [if_neg (show ¬ hk t1 = nI 59 from e59)]
          refine AW.b rfl (fun hc => ?_) (fun hc => ?_)
          · exact go (fun z => e59 z.1)
          · exact absurd rfl hc
      · exact absurd rfl hc
    · exact absurd rfl hc
end

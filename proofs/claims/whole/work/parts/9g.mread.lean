-- ===== the model's reader =====
/-- where the reader stands: what waits (top first), what is made, how many are open, the depth, what was compared -/
def MR (m : Mem) (q : Nat) (W : List Nat) (O : List Int32) (op dp : Nat) (c : Nat → Bool) : Prop :=
  m 243 24 = nI W.length ∧ (∀ i o, W[i]? = some o → m 256 (W.length - 1 - i) = nI o) ∧ m 243 29 = nI O.length ∧ m 243 28 = nI (160 * q) ∧ (∀ k x, O[k]? = some x → m 252 (160 * q + k) = x) ∧ m 243 25 = nI op ∧ m 243 26 = nI dp ∧ ∀ i, i ≤ dp → m 257 i = if c i then 1 else 0
/-- what reading part q leaves alone -/
def FR (m m' : Mem) (q : Nat) : Prop := (∀ a, a ≠ 243 → a ≠ 252 → a ≠ 256 → a ≠ 257 → m' a = m a) ∧ (∀ k, (k < 160 * q ∨ 160 * q + 160 ≤ k) → m' 252 k = m 252 k) ∧ ∀ k, (k < 17 ∨ (20 < k ∧ k < 24) ∨ k = 27 ∨ 29 < k) → m' 243 k = m 243 k
theorem FR.rf {m : Mem} {q : Nat} : FR m m q := ⟨fun _ _ _ _ _ => rfl, fun _ _ => rfl, fun _ _ => rfl⟩
theorem FR.tr {m m1 m2 : Mem} {q : Nat} (h1 : FR m m1 q) (h2 : FR m1 m2 q) : FR m m2 q := ⟨fun a x y z w => by rw [h2.1 a x y z w, h1.1 a x y z w], fun k h => by rw [h2.2.1 k h, h1.2.1 k h], fun k h => by rw [h2.2.2 k h, h1.2.2 k h]⟩
/-- the token at hand is left alone too -/
def FT (m m' : Mem) (q : Nat) : Prop := FR m m' q ∧ ∀ k, 17 ≤ k → k ≤ 20 → m' 243 k = m 243 k
theorem FT.rf {m : Mem} {q : Nat} : FT m m q := ⟨FR.rf, fun _ _ _ => rfl⟩
theorem FT.tr {m m1 m2 : Mem} {q : Nat} (h1 : FT m m1 q) (h2 : FT m1 m2 q) : FT m m2 q := ⟨h1.1.tr h2.1, fun k a b => by rw [h2.2 k a b, h1.2 k a b]⟩
theorem FT.u {m m1 : Mem} {q k : Nat} {x : Int32} (h : FT m m1 q) (hk : 24 ≤ k ∧ k ≤ 29 ∧ k ≠ 27) : FT m (mUp m1 243 k x) q := ⟨⟨fun a x y z w => by rw [mUp_a x]; exact h.1.1 a x y z w, fun k h2 => by rw [mUp_a (by decide)]; exact h.1.2.1 k h2, fun j h2 => by rw [mUp_n (Or.inr (by omega))]; exact h.1.2.2 j h2⟩, fun j a b => by rw [mUp_n (Or.inr (by omega))]; exact h.2 j a b⟩
theorem FT.w {m m1 : Mem} {q a k : Nat} {x : Int32} (h : FT m m1 q) (ha : a = 256 ∨ a = 257) : FT m (mUp m1 a k x) q := ⟨⟨fun b x y z w => by rw [mUp_a (by omega)]; exact h.1.1 b x y z w, fun k h2 => by rw [mUp_a (by omega)]; exact h.1.2.1 k h2, fun j h2 => by rw [mUp_a (by omega)]; exact h.1.2.2 j h2⟩, fun j y z => by rw [mUp_a (by omega)]; exact h.2 j y z⟩
theorem FT.o {m m1 : Mem} {q k : Nat} {x : Int32} (h : FT m m1 q) (hk : 160 * q ≤ k ∧ k < 160 * q + 160) : FT m (mUp m1 252 k x) q := ⟨⟨fun b x y z w => by rw [mUp_a y]; exact h.1.1 b x y z w, fun k h2 => by rw [mUp_n (Or.inr (by omega))]; exact h.1.2.1 k h2, fun j h2 => by rw [mUp_a (by decide)]; exact h.1.2.2 j h2⟩, fun j y z => by rw [mUp_a (by decide)]; exact h.2 j y z⟩
section
variable {m : Mem} {q op dp : Nat} {W : List Nat} {O : List Int32} {c : Nat → Bool}
theorem MR.emit {x : Int32} (h : MR m q W O op dp c) : MR (mUp (mUp m 252 (160 * q + O.length) x) 243 29 (nI (O.length + 1))) q W (O ++ [x]) op dp c := by
  obtain ⟨h1, h2, h3, h4, h5, h6, h7, h8⟩ := h
  have e : ∀ k, k ≠ 29 → mUp (mUp m 252 (160 * q + O.length) x) 243 29 (nI (O.length + 1)) 243 k = m 243 k := fun k hk => by rw [mUp_n (Or.inr hk), mUp_a (by decide)]
  refine ⟨by rw [e 24 (by decide)]; exact h1, fun i o ho => by rw [mUp_a (by decide), mUp_a (by decide)]; exact h2 i o ho, by rw [List.length_append]; exact mUp_s _ _ _ _, by rw [e 28 (by decide)]; exact h4, fun k y hk => ?_, by rw [e 25 (by decide)]; exact h6, by rw [e 26 (by decide)]; exact h7, fun i hi => by rw [mUp_a (by decide), mUp_a (by decide)]; exact h8 i hi⟩
  rw [mUp_a (by decide)]
  by_cases ek : k = O.length
  · subst ek
    rw [List.getElem?_append_right (Nat.le_refl _), Nat.sub_self] at hk
    cases hk
    exact mUp_s _ _ _ _
  · have hkl : k < O.length := by
      have := (List.getElem?_eq_some_iff.mp hk).1
      rw [List.length_append] at this
      have : k < O.length + 1 := this
      omega
    rw [List.getElem?_append_left hkl] at hk
    rw [mUp_n (Or.inr (by omega))]
    exact h5 k y hk
theorem MR.push {o : Nat} (h : MR m q W O op dp c) : MR (mUp (mUp m 256 W.length (nI o)) 243 24 (nI (W.length + 1))) q (o :: W) O op dp c := by
  obtain ⟨h1, h2, h3, h4, h5, h6, h7, h8⟩ := h
  have e : ∀ k, k ≠ 24 → mUp (mUp m 256 W.length (nI o)) 243 24 (nI (W.length + 1)) 243 k = m 243 k := fun k hk => by rw [mUp_n (Or.inr hk), mUp_a (by decide)]
  refine ⟨mUp_s _ _ _ _, fun i y hi => ?_, by rw [e 29 (by decide)]; exact h3, by rw [e 28 (by decide)]; exact h4, fun k y hk => by rw [mUp_a (by decide), mUp_a (by decide)]; exact h5 k y hk, by rw [e 25 (by decide)]; exact h6, by rw [e 26 (by decide)]; exact h7, fun i hi => by rw [mUp_a (by decide), mUp_a (by decide)]; exact h8 i hi⟩
  rw [mUp_a (by decide), List.length_cons]
  cases i with
  | zero =>
    cases hi
    exact mUp_s _ _ _ _
  | succ i =>
    have hi : W[i]? = some y := hi
    have hlt := (List.getElem?_eq_some_iff.mp hi).1
    rw [mUp_n (Or.inr (by omega)), show W.length + 1 - 1 - (i + 1) = W.length - 1 - i by omega]
    exact h2 i y hi
theorem MR.pop {o : Nat} (h : MR m q (o :: W) O op dp c) : MR (mUp m 243 24 (nI W.length)) q W O op dp c := by
  obtain ⟨h1, h2, h3, h4, h5, h6, h7, h8⟩ := h
  have e : ∀ k, k ≠ 24 → mUp m 243 24 (nI W.length) 243 k = m 243 k := fun k hk => by rw [mUp_n (Or.inr hk)]
  refine ⟨mUp_s _ _ _ _, fun i y hi => ?_, by rw [e 29 (by decide)]; exact h3, by rw [e 28 (by decide)]; exact h4, fun k y hk => by rw [mUp_a (by decide)]; exact h5 k y hk, by rw [e 25 (by decide)]; exact h6, by rw [e 26 (by decide)]; exact h7, fun i hi => by rw [mUp_a (by decide)]; exact h8 i hi⟩
  rw [mUp_a (by decide)]
  have hlt := (List.getElem?_eq_some_iff.mp hi).1
  have := h2 (i + 1) y hi
  rw [List.length_cons, show W.length + 1 - 1 - (i + 1) = W.length - 1 - i by omega] at this
  exact this
theorem MR.top {o : Nat} (h : MR m q (o :: W) O op dp c) : m 256 W.length = nI o := by
  have := h.2.1 0 o rfl
  rw [List.length_cons] at this
  exact this
theorem MR.so {op' : Nat} (h : MR m q W O op dp c) : MR (mUp m 243 25 (nI op')) q W O op' dp c := by
  obtain ⟨h1, h2, h3, h4, h5, h6, h7, h8⟩ := h
  have e : ∀ k, k ≠ 25 → mUp m 243 25 (nI op') 243 k = m 243 k := fun k hk => by rw [mUp_n (Or.inr hk)]
  exact ⟨by rw [e 24 (by decide)]; exact h1, fun i o ho => by rw [mUp_a (by decide)]; exact h2 i o ho, by rw [e 29 (by decide)]; exact h3, by rw [e 28 (by decide)]; exact h4, fun k y hk => by rw [mUp_a (by decide)]; exact h5 k y hk, mUp_s _ _ _ _, by rw [e 26 (by decide)]; exact h7, fun i hi => by rw [mUp_a (by decide)]; exact h8 i hi⟩
theorem MR.dpd (h : MR m q W O op dp c) (h0 : ¬ dp = 0) : MR (mUp m 243 26 (nI (dp - 1))) q W O op (dp - 1) c := by
  obtain ⟨h1, h2, h3, h4, h5, h6, h7, h8⟩ := h
  have e : ∀ k, k ≠ 26 → mUp m 243 26 (nI (dp - 1)) 243 k = m 243 k := fun k hk => by rw [mUp_n (Or.inr hk)]
  exact ⟨by rw [e 24 (by decide)]; exact h1, fun i o ho => by rw [mUp_a (by decide)]; exact h2 i o ho, by rw [e 29 (by decide)]; exact h3, by rw [e 28 (by decide)]; exact h4, fun k y hk => by rw [mUp_a (by decide)]; exact h5 k y hk, by rw [e 25 (by decide)]; exact h6, mUp_s _ _ _ _, fun i hi => by rw [mUp_a (by decide)]; exact h8 i (by omega)⟩
theorem MR.dpu (h : MR m q W O op dp c) : MR (mUp (mUp m 243 26 (nI (dp + 1))) 257 (dp + 1) 0) q W O op (dp + 1) (cUp c (dp + 1) false) := by
  obtain ⟨h1, h2, h3, h4, h5, h6, h7, h8⟩ := h
  have e : ∀ k, k ≠ 26 → mUp (mUp m 243 26 (nI (dp + 1))) 257 (dp + 1) 0 243 k = m 243 k := fun k hk => by rw [mUp_a (by decide), mUp_n (Or.inr hk)]
  refine ⟨by rw [e 24 (by decide)]; exact h1, fun i o ho => by rw [mUp_a (by decide), mUp_a (by decide)]; exact h2 i o ho, by rw [e 29 (by decide)]; exact h3, by rw [e 28 (by decide)]; exact h4, fun k y hk => by rw [mUp_a (by decide), mUp_a (by decide)]; exact h5 k y hk, by rw [e 25 (by decide)]; exact h6, by rw [mUp_a (by decide)]; exact mUp_s _ _ _ _, fun i hi => ?_⟩
  by_cases ei : i = dp + 1
  · subst ei; rw [mUp_s, cUp_s]; rfl
  · rw [mUp_n (Or.inr ei), mUp_a (by decide), cUp_n ei]; exact h8 i (by omega)
theorem MR.cmp {b : Bool} (h : MR m q W O op dp c) : MR (mUp m 257 dp (if b then 1 else 0)) q W O op dp (cUp c dp b) := by
  obtain ⟨h1, h2, h3, h4, h5, h6, h7, h8⟩ := h
  have e : ∀ k, mUp m 257 dp (if b then 1 else 0) 243 k = m 243 k := fun k => by rw [mUp_a (by decide)]
  refine ⟨by rw [e 24]; exact h1, fun i o ho => by rw [mUp_a (by decide)]; exact h2 i o ho, by rw [e 29]; exact h3, by rw [e 28]; exact h4, fun k y hk => by rw [mUp_a (by decide)]; exact h5 k y hk, by rw [e 25]; exact h6, by rw [e 26]; exact h7, fun i hi => ?_⟩
  by_cases ei : i = dp
  · subst ei; rw [mUp_s, cUp_s]
  · rw [mUp_n (Or.inr ei), cUp_n ei]; exact h8 i hi
end
section
variable {l : Launch} {X : XT} {d : Nat} {m : Mem} {q op dp : Nat} {W : List Nat} {O : List Int32} {c : Nat → Bool}
theorem c_Memit {x : Int32} (h : MR m q W O op dp c) (hq : q < 18) (hO : O.length < 160) : Meth l X d M_X11_emit [vR 12 243, vI x] m (fun r m' => r = none ∧ MR m' q W (O ++ [x]) op dp c ∧ FT m m' q) := by
  refine E_X11_emit (ls := [vR 12 243, vI x]) rfl rfl ?_
  repeat refine AW.s rfl ?_
  try dsimp only [List.set_cons_zero, List.set_cons_succ, Option.toList_some, Option.toList_none, List.cons_append, List.nil_append]
  rw [h.2.2.2.1, h.2.2.1, nI_add]
  refine AW.c rfl (⟨vp_in_nI (by omega) (by decide), fun z => absurd z (by decide)⟩) ?_
  try dsimp only [List.set_cons_zero, List.set_cons_succ, Option.toList_some, Option.toList_none, List.cons_append, List.nil_append]
  rw [nI_clamp (by omega)]
  repeat refine AW.s rfl ?_
  try dsimp only [List.set_cons_zero, List.set_cons_succ, Option.toList_some, Option.toList_none, List.cons_append, List.nil_append]
  rw [show mUp m (243 + 9) (160 * q + O.length) x 243 29 = nI O.length by rw [mUp_a (by decide)]; exact h.2.2.1, nI_1]
  exact AW.rv rfl rfl ⟨rfl, h.emit, FT.u (FT.o FT.rf (by omega)) (by omega)⟩
theorem c_Mawait {o : Nat} (h : MR m q W O op dp c) (hW : W.length < 170) : Meth l X d M_X11_await [vR 12 243, vI (nI o)] m (fun r m' => r = none ∧ MR m' q (o :: W) O op dp c ∧ FT m m' q) := by
  refine E_X11_await (ls := [vR 12 243, vI (nI o)]) rfl rfl ?_
  repeat refine AW.s rfl ?_
  try dsimp only [List.set_cons_zero, List.set_cons_succ, Option.toList_some, Option.toList_none, List.cons_append, List.nil_append]
  rw [h.1]
  refine AW.c rfl (⟨vp_in_nI (by omega) (by decide), fun z => absurd z (by decide)⟩) ?_
  try dsimp only [List.set_cons_zero, List.set_cons_succ, Option.toList_some, Option.toList_none, List.cons_append, List.nil_append]
  rw [nI_clamp (by omega)]
  repeat refine AW.s rfl ?_
  try dsimp only [List.set_cons_zero, List.set_cons_succ, Option.toList_some, Option.toList_none, List.cons_append, List.nil_append]
  rw [show mUp m (243 + 13) W.length (nI o) 243 24 = nI W.length by rw [mUp_a (by decide)]; exact h.1, nI_1]
  exact AW.rv rfl rfl ⟨rfl, h.push, FT.u (FT.w FT.rf (by omega)) (by omega)⟩
theorem c_Mrank {o : Nat} (ho : o ≤ 30) : Meth l X d M_X11_rank [vI (nI o)] m (fun r m' => r = some (vI (nI (rk o))) ∧ m' = m) := by
  refine E_X11_rank (ls := [vI (nI o)]) rfl rfl ?_
  repeat refine AW.s rfl ?_
  try dsimp only [List.set_cons_zero, List.set_cons_succ, Option.toList_some, Option.toList_none, List.cons_append, List.nil_append]
  refine AW.b rfl (fun hc => ?_) (fun hc => ?_)
  · have e : o = 10 := (nI_eq (b := 10) (by omega) (by decide)).mp hc
    subst e
    repeat refine AW.s rfl ?_
    try dsimp only [List.set_cons_zero, List.set_cons_succ, Option.toList_some, Option.toList_none, List.cons_append, List.nil_append]
    exact AW.ri rfl rfl rfl ⟨rfl, rfl⟩
  · have n10 : ¬ o = 10 := fun z => hc (by rw [z]; rfl)
    repeat refine AW.s rfl ?_
    try dsimp only [List.set_cons_zero, List.set_cons_succ, Option.toList_some, Option.toList_none, List.cons_append, List.nil_append]
    refine AW.b rfl (fun hc => ?_) (fun hc => ?_)
    · have e : o = 11 := (nI_eq (b := 11) (by omega) (by decide)).mp hc
      subst e
      repeat refine AW.s rfl ?_
      try dsimp only [List.set_cons_zero, List.set_cons_succ, Option.toList_some, Option.toList_none, List.cons_append, List.nil_append]
      exact AW.ri rfl rfl rfl ⟨rfl, rfl⟩
    · have n11 : ¬ o = 11 := fun z => hc (by rw [z]; rfl)
      repeat refine AW.s rfl ?_
      try dsimp only [List.set_cons_zero, List.set_cons_succ, Option.toList_some, Option.toList_none, List.cons_append, List.nil_append]
      refine AW.b rfl (fun hc => ?_) (fun hc => ?_)
      · have e : o = 12 := (nI_eq (b := 12) (by omega) (by decide)).mp hc
        subst e
        repeat refine AW.s rfl ?_
        try dsimp only [List.set_cons_zero, List.set_cons_succ, Option.toList_some, Option.toList_none, List.cons_append, List.nil_append]
        exact AW.ri rfl rfl rfl ⟨rfl, rfl⟩
      · have n12 : ¬ o = 12 := fun z => hc (by rw [z]; rfl)
        repeat refine AW.s rfl ?_
        try dsimp only [List.set_cons_zero, List.set_cons_succ, Option.toList_some, Option.toList_none, List.cons_append, List.nil_append]
        refine AW.b rfl (fun hc => ?_) (fun hc => ?_)
        · have e : o = 13 := (nI_eq (b := 13) (by omega) (by decide)).mp hc
          subst e
          repeat refine AW.s rfl ?_
          try dsimp only [List.set_cons_zero, List.set_cons_succ, Option.toList_some, Option.toList_none, List.cons_append, List.nil_append]
          exact AW.ri rfl rfl rfl ⟨rfl, rfl⟩
        · have n13 : ¬ o = 13 := fun z => hc (by rw [z]; rfl)
          repeat refine AW.s rfl ?_
          try dsimp only [List.set_cons_zero, List.set_cons_succ, Option.toList_some, Option.toList_none, List.cons_append, List.nil_append]
          refine AW.b rfl (fun hc => ?_) (fun hc => ?_)
          · have e : o = 14 := (nI_eq (b := 14) (by omega) (by decide)).mp hc
            subst e
            repeat refine AW.s rfl ?_
            try dsimp only [List.set_cons_zero, List.set_cons_succ, Option.toList_some, Option.toList_none, List.cons_append, List.nil_append]
            exact AW.ri rfl rfl rfl ⟨rfl, rfl⟩
          · have n14 : ¬ o = 14 := fun z => hc (by rw [z]; rfl)
            repeat refine AW.s rfl ?_
            try dsimp only [List.set_cons_zero, List.set_cons_succ, Option.toList_some, Option.toList_none, List.cons_append, List.nil_append]
            refine AW.b rfl (fun hc => ?_) (fun hc => ?_)
            · have e : o = 15 := (nI_eq (b := 15) (by omega) (by decide)).mp hc
              subst e
              repeat refine AW.s rfl ?_
              try dsimp only [List.set_cons_zero, List.set_cons_succ, Option.toList_some, Option.toList_none, List.cons_append, List.nil_append]
              exact AW.ri rfl rfl rfl ⟨rfl, rfl⟩
            · have n15 : ¬ o = 15 := fun z => hc (by rw [z]; rfl)
              repeat refine AW.s rfl ?_
              try dsimp only [List.set_cons_zero, List.set_cons_succ, Option.toList_some, Option.toList_none, List.cons_append, List.nil_append]
              refine AW.b rfl (fun hc => ?_) (fun hc => ?_)
              · have e : o = 16 := (nI_eq (b := 16) (by omega) (by decide)).mp hc
                subst e
                repeat refine AW.s rfl ?_
                try dsimp only [List.set_cons_zero, List.set_cons_succ, Option.toList_some, Option.toList_none, List.cons_append, List.nil_append]
                exact AW.ri rfl rfl rfl ⟨rfl, rfl⟩
              · have n16 : ¬ o = 16 := fun z => hc (by rw [z]; rfl)
                repeat refine AW.s rfl ?_
                try dsimp only [List.set_cons_zero, List.set_cons_succ, Option.toList_some, Option.toList_none, List.cons_append, List.nil_append]
                refine AW.b rfl (fun hc => ?_) (fun hc => ?_)
                · have e : o = 17 := (nI_eq (b := 17) (by omega) (by decide)).mp hc
                  subst e
                  repeat refine AW.s rfl ?_
                  try dsimp only [List.set_cons_zero, List.set_cons_succ, Option.toList_some, Option.toList_none, List.cons_append, List.nil_append]
                  exact AW.ri rfl rfl rfl ⟨rfl, rfl⟩
                · have n17 : ¬ o = 17 := fun z => hc (by rw [z]; rfl)
                  repeat refine AW.s rfl ?_
                  try dsimp only [List.set_cons_zero, List.set_cons_succ, Option.toList_some, Option.toList_none, List.cons_append, List.nil_append]
                  refine AW.b rfl (fun hc => ?_) (fun hc => ?_)
                  · have e : o = 18 := (nI_eq (b := 18) (by omega) (by decide)).mp hc
                    subst e
                    repeat refine AW.s rfl ?_
                    try dsimp only [List.set_cons_zero, List.set_cons_succ, Option.toList_some, Option.toList_none, List.cons_append, List.nil_append]
                    exact AW.ri rfl rfl rfl ⟨rfl, rfl⟩
                  · have n18 : ¬ o = 18 := fun z => hc (by rw [z]; rfl)
                    have e : rk o = 0 := by
                      unfold rk
                      rw [if_neg n10, if_neg n11, if_neg n12, if_neg n13, if_neg n14, if_neg n15, if_neg n16, if_neg n17, if_neg n18]
                    rw [e]
                    repeat refine AW.s rfl ?_
                    try dsimp only [List.set_cons_zero, List.set_cons_succ, Option.toList_some, Option.toList_none, List.cons_append, List.nil_append]
                    exact AW.ri rfl rfl rfl ⟨rfl, rfl⟩
theorem rk_7 {o : Nat} : rk o ≤ 7 := by
  unfold rk
  repeat' split
  all_goals omega
theorem c_MdoAll {r : Nat} (hd : 1 ≤ d) (h : MR m q W O op dp c) (hq : q < 18) (hr : 1 ≤ r) (hr8 : r ≤ 7) (hb : W.length + O.length ≤ 160) (hw : ∀ o, o ∈ W → o ≤ 30) (hop : fc W ≤ op) (ho5 : op ≤ 5) : Meth l X d M_X11_doAll [vR 12 243, vI (nI r)] m (fun r1 m' => r1 = none ∧ MR m' q (fl r W) (O ++ (ft r W).map nI) (op - fc (ft r W)) dp c ∧ FT m m' q) := by
  obtain ⟨d, rfl⟩ : ∃ e, d = e + 1 := ⟨d - 1, by omega⟩
  refine E_X11_doAll (ls := [vR 12 243, vI (nI r)]) rfl rfl ?_
  refine AW.wf (pc := 0) (σ := List Nat × List Int32 × Nat) (fun s => s.1.length) (fun s => [vR 12 243, vI (nI r)]) (fun s m1 => MR m1 q s.1 s.2.1 s.2.2 dp c ∧ FT m m1 q ∧ s.1.length + s.2.1.length ≤ 160 ∧ (∀ o, o ∈ s.1 → o ≤ 30) ∧ fc s.1 ≤ s.2.2 ∧ s.2.2 ≤ 5 ∧ fl r s.1 = fl r W ∧ s.2.1 ++ (ft r s.1).map nI = O ++ (ft r W).map nI ∧ s.2.2 - fc (ft r s.1) = op - fc (ft r W)) (fun s m1 hM ih => ?_) (W, O, op) m ⟨h, FT.rf, hb, hw, hop, ho5, rfl, rfl, rfl⟩
  obtain ⟨W1, O1, op1⟩ := s
  obtain ⟨g1, g2, g3, g4, g5, g6, g7, g8, g9⟩ := hM
  have g1 : MR m1 q W1 O1 op1 dp c := g1
  have g3 : W1.length + O1.length ≤ 160 := g3
  have g4 : ∀ o, o ∈ W1 → o ≤ 30 := g4
  have g5 : fc W1 ≤ op1 := g5
  have g6 : op1 ≤ 5 := g6
  have g7 : fl r W1 = fl r W := g7
  have g8 : O1 ++ (ft r W1).map nI = O ++ (ft r W).map nI := g8
  have g9 : op1 - fc (ft r W1) = op - fc (ft r W) := g9
  have stop : fl r W1 = W1 ∧ ft r W1 = [] → AW (GM l X (d + 1) M_X11_doAll (fun r1 m' => r1 = none ∧ MR m' q (fl r W) (O ++ (ft r W).map nI) (op - fc (ft r W)) dp c ∧ FT m m' q)) 109 [vR 12 243, vI (nI r)] [] m1 := by
    intro ⟨z1, z2⟩
    refine AW.rv rfl rfl ⟨rfl, ?_, g2⟩
    rw [← g7, ← g8, ← g9, z1, z2]
    show MR m1 q W1 (O1 ++ []) (op1 - 0) dp c
    rw [List.append_nil]
    exact g1
  repeat refine AW.s rfl ?_
  try dsimp only [List.set_cons_zero, List.set_cons_succ, Option.toList_some, Option.toList_none, List.cons_append, List.nil_append]
  rw [g1.1]
  cases W1 with
  | nil =>
    refine AW.b rfl (fun hc => ?_) (fun hc => ?_)
    · exact absurd (show (0 : Int32) < 0 from hc) (by decide)
    · exact stop ⟨rfl, rfl⟩
  | cons o W2 =>
    have ho30 := g4 o List.mem_cons_self
    have hlen : (o :: W2).length = W2.length + 1 := rfl
    have e1 : nI (o :: W2).length - 1 = nI W2.length := by rw [hlen]; exact pk_sub (a := W2.length + 1) (b := 1) (by omega)
    have htop := g1.top
    refine AW.b rfl (fun hc => ?_) (fun hc => ?_)
    · repeat refine AW.s rfl ?_
      try dsimp only [List.set_cons_zero, List.set_cons_succ, Option.toList_some, Option.toList_none, List.cons_append, List.nil_append]
      rw [g1.1, e1]
      refine AW.c rfl (vp_in_nI (by omega) (by decide)) ?_
      try dsimp only [List.set_cons_zero, List.set_cons_succ, Option.toList_some, Option.toList_none, List.cons_append, List.nil_append]
      rw [nI_clamp (by omega), show m1 (243 + 13) W2.length = nI o from htop]
      repeat refine AW.s rfl ?_
      try dsimp only [List.set_cons_zero, List.set_cons_succ, Option.toList_some, Option.toList_none, List.cons_append, List.nil_append]
      refine AW.b rfl (fun hc => ?_) (fun hc => ?_)
      · have e : o = 30 := (nI_eq (b := 30) (by omega) (by decide)).mp hc
        refine stop (fl_stop (fun q hq => ?_))
        cases hq
        rw [e]
        exact Nat.lt_of_lt_of_le (show rk 30 < 1 by decide) hr
      · have n30 : ¬ o = 30 := fun z => hc (by rw [z]; rfl)
        repeat refine AW.s rfl ?_
        try dsimp only [List.set_cons_zero, List.set_cons_succ, Option.toList_some, Option.toList_none, List.cons_append, List.nil_append]
        rw [g1.1, e1]
        refine AW.c rfl (vp_in_nI (by omega) (by decide)) ?_
        try dsimp only [List.set_cons_zero, List.set_cons_succ, Option.toList_some, Option.toList_none, List.cons_append, List.nil_append]
        rw [nI_clamp (by omega), show m1 (243 + 13) W2.length = nI o from htop]
        refine AW.S k_11_119 ((c_Mrank (o := o) (by omega))) rfl rfl rfl rfl (fun r1 m2 hq => ?_)
        obtain ⟨rfl, hm2⟩ := hq
        rw [hm2]
        have hrk : rk o ≤ 7 := rk_7
        repeat refine AW.s rfl ?_
        try dsimp only [List.set_cons_zero, List.set_cons_succ, Option.toList_some, Option.toList_none, List.cons_append, List.nil_append]
        refine AW.b rfl (fun hc => ?_) (fun hc => ?_)
        · have hlt : rk o < r := (nI_ltI (by omega) (by omega)).mp hc
          exact stop (fl_stop (fun q hq => by cases hq; exact hlt))
        · have hge : r ≤ rk o := by
            have : ¬ rk o < r := fun z => hc (nI_lt z (by omega))
            omega
          have hfb : fb r o = true := decide_eq_true hge
          have k7 : fl r W2 = fl r W := by
            rw [← g7]
            unfold fl
            rw [List.dropWhile_cons, hfb]
            rfl
          have kt : ft r (o :: W2) = o :: ft r W2 := by
            unfold ft
            rw [List.takeWhile_cons, hfb]
            rfl
          rw [kt] at g8 g9
          have k8 : (O1 ++ [nI o]) ++ (ft r W2).map nI = O ++ (ft r W).map nI := by rw [← g8, List.map_cons, List.append_assoc]; rfl
          have g3 : W2.length + 1 + O1.length ≤ 160 := g3
          -- the end of the round: the number open is set
          have fin : ∀ b : Nat, fc (o :: W2) = fc W2 + b → fc (o :: ft r W2) = fc (ft r W2) + b → AW (GM l X (d + 1) M_X11_doAll (fun r1 m' => r1 = none ∧ MR m' q (fl r W) (O ++ (ft r W).map nI) (op - fc (ft r W)) dp c ∧ FT m m' q)) 93 [vR 12 243, vI (nI r)] [] (mUp (mUp m1 243 24 (nI W2.length)) 243 25 (nI (op1 - b))) := by
            intro b hb1 hb2
            have R2 : MR (mUp (mUp m1 243 24 (nI W2.length)) 243 25 (nI (op1 - b))) q W2 O1 (op1 - b) dp c := g1.pop.so
            have F2 : FT m (mUp (mUp m1 243 24 (nI W2.length)) 243 25 (nI (op1 - b))) q := FT.u (FT.u g2 (by omega)) (by omega)
            have t2 : mUp (mUp m1 243 24 (nI W2.length)) 243 25 (nI (op1 - b)) (243 + 13) W2.length = nI o := by rw [mUp_a (by decide), mUp_a (by decide)]; exact htop
            generalize mUp (mUp m1 243 24 (nI W2.length)) 243 25 (nI (op1 - b)) = m3 at *
            repeat refine AW.s rfl ?_
            try dsimp only [List.set_cons_zero, List.set_cons_succ, Option.toList_some, Option.toList_none, List.cons_append, List.nil_append]
            rw [R2.1]
            refine AW.c rfl (vp_in_nI (by omega) (by decide)) ?_
            try dsimp only [List.set_cons_zero, List.set_cons_succ, Option.toList_some, Option.toList_none, List.cons_append, List.nil_append]
            rw [nI_clamp (by omega), t2]
            refine AW.V k_11_126 ((c_Memit R2 (by omega) (by omega))) rfl rfl rfl rfl rfl rfl (fun r1 m4 hq => ?_)
            obtain ⟨rfl, R4, F4⟩ := hq
            repeat refine AW.u 0 rfl rfl ?_
            try dsimp only [List.set_cons_zero, List.set_cons_succ, Option.toList_some, Option.toList_none, List.cons_append, List.nil_append]
            refine ih (W2, O1 ++ [nI o], op1 - b) m4 (Nat.lt_succ_self _) ⟨R4, F2.tr F4, ?_, fun q hq => g4 q (List.mem_cons_of_mem _ hq), ?_, ?_, k7, k8, ?_⟩
            · show W2.length + (O1 ++ [nI o]).length ≤ 160
              rw [List.length_append]
              show W2.length + (O1.length + 1) ≤ 160
              omega
            · show fc W2 ≤ op1 - b
              omega
            · show op1 - b ≤ 5
              omega
            · show op1 - b - fc (ft r W2) = op - fc (ft r W)
              rw [← g9, hb2]
              omega
          repeat refine AW.u 51 rfl rfl ?_
          try dsimp only [List.set_cons_zero, List.set_cons_succ, Option.toList_some, Option.toList_none, List.cons_append, List.nil_append]
          rw [g1.1, e1]
          have t1 : mUp m1 243 24 (nI W2.length) 243 25 = nI op1 := by rw [mUp_n (Or.inr (by decide))]; exact g1.2.2.2.2.2.1
          have t3 : mUp m1 243 24 (nI W2.length) 243 24 = nI W2.length := mUp_s _ _ _ _
          have t4 : mUp m1 243 24 (nI W2.length) (243 + 13) W2.length = nI o := by rw [mUp_a (by decide)]; exact htop
          repeat refine AW.s rfl ?_
          try dsimp only [List.set_cons_zero, List.set_cons_succ, Option.toList_some, Option.toList_none, List.cons_append, List.nil_append]
          rw [t1, t3]
          refine AW.c rfl (vp_in_nI (by omega) (by decide)) ?_
          try dsimp only [List.set_cons_zero, List.set_cons_succ, Option.toList_some, Option.toList_none, List.cons_append, List.nil_append]
          rw [nI_clamp (by omega), t4]
          repeat refine AW.s rfl ?_
          try dsimp only [List.set_cons_zero, List.set_cons_succ, Option.toList_some, Option.toList_none, List.cons_append, List.nil_append]
          have yes : nn o = true → AW (GM l X (d + 1) M_X11_doAll (fun r1 m' => r1 = none ∧ MR m' q (fl r W) (O ++ (ft r W).map nI) (op - fc (ft r W)) dp c ∧ FT m m' q)) 84 [vR 12 243, vI (nI r)] [vI (nI op1), vR 12 243] (mUp m1 243 24 (nI W2.length)) := by
            intro hn
            have c1 : fc (o :: W2) = fc W2 + 1 := List.countP_cons_of_pos hn
            have c2 : fc (o :: ft r W2) = fc (ft r W2) + 1 := List.countP_cons_of_pos hn
            repeat refine AW.u 93 rfl rfl ?_
            try dsimp only [List.set_cons_zero, List.set_cons_succ, Option.toList_some, Option.toList_none, List.cons_append, List.nil_append]
            rw [show nI op1 - 1 = nI (op1 - 1) from pk_sub (b := 1) (by omega)]
            exact fin 1 c1 c2
          refine AW.b rfl (fun hc => ?_) (fun hc => ?_)
          · have e : o = 12 := (nI_eq (b := 12) (by omega) (by decide)).mp hc
            exact yes (by rw [e]; rfl)
          · have n12 : ¬ o = 12 := fun z => hc (by rw [z]; rfl)
            repeat refine AW.s rfl ?_
            try dsimp only [List.set_cons_zero, List.set_cons_succ, Option.toList_some, Option.toList_none, List.cons_append, List.nil_append]
            rw [t3]
            refine AW.c rfl (vp_in_nI (by omega) (by decide)) ?_
            try dsimp only [List.set_cons_zero, List.set_cons_succ, Option.toList_some, Option.toList_none, List.cons_append, List.nil_append]
            rw [nI_clamp (by omega), t4]
            repeat refine AW.s rfl ?_
            try dsimp only [List.set_cons_zero, List.set_cons_succ, Option.toList_some, Option.toList_none, List.cons_append, List.nil_append]
            refine AW.b rfl (fun hc => ?_) (fun hc => ?_)
            · have e : o = 18 := (nI_eq (b := 18) (by omega) (by decide)).mp hc
              exact yes (by rw [e]; rfl)
            · have n18 : ¬ o = 18 := fun z => hc (by rw [z]; rfl)
              have hn : ¬ nn o = true := by
                unfold nn
                rw [decide_eq_false n12, decide_eq_false n18]
                decide
              have c1 : fc (o :: W2) = fc W2 + 0 := List.countP_cons_of_neg hn
              have c2 : fc (o :: ft r W2) = fc (ft r W2) + 0 := List.countP_cons_of_neg hn
              repeat refine AW.u 93 rfl rfl ?_
              try dsimp only [List.set_cons_zero, List.set_cons_succ, Option.toList_some, Option.toList_none, List.cons_append, List.nil_append]
              rw [show nI op1 - 0 = nI (op1 - 0) from pk_sub (b := 0) (by omega)]
              exact fin 0 c1 c2
    · exact absurd (nI_lt (a := 0) (show 0 < (o :: W2).length from Nat.succ_pos _) (by omega)) hc
end

-- ===== the model's reader: closes, ahead, readE =====
section
variable {l : Launch} {X : XT} {d : Nat} {m : Mem} {q op dp : Nat} {W : List Nat} {O : List Int32} {c : Nat → Bool} {k v : Int32}
theorem c_Mcloses (hd : 3 ≤ d) (h : MR m q W O op dp c) (hw : WI W op dp) (hq18 : q < 18) (hb : W.length + O.length ≤ 160) (ht : MTk k v (m 243 18) (m 243 19)) : Meth l X d M_X11_closes [vR 12 243] m (fun r m' => (¬ (k = 41 ∧ ¬ dp = 0) ∧ r = some (vI 0) ∧ m' = m) ∨ ((k = 41 ∧ ¬ dp = 0) ∧ r = some (vI 1) ∧ MR m' q (fl 7 (fl 1 W).tail) (O ++ (ft 1 W).map nI ++ (ft 7 (fl 1 W).tail).map nI) (op - fc (ft 1 W) - 1 - fc (ft 7 (fl 1 W).tail)) (dp - 1) c ∧ FT m m' q)) := by
  obtain ⟨d, rfl⟩ : ∃ e, d = e + 1 := ⟨d - 1, by omega⟩
  have hdp : dp ≤ 5 := by have := hw.2.2; omega
  refine E_X11_closes (ls := [vR 12 243]) rfl rfl ?_
  repeat refine AW.s rfl ?_
  try dsimp only [List.set_cons_zero, List.set_cons_succ, Option.toList_some, Option.toList_none, List.cons_append, List.nil_append]
  refine AW.V k_11_130 ((c_MisSign (b := 41) ht rfl)) rfl rfl rfl rfl rfl rfl (fun r1 m1 hq => ?_)
  obtain ⟨rfl, hm1⟩ := hq
  rw [hm1]
  try dsimp only [List.set_cons_zero, List.set_cons_succ, Option.toList_some, Option.toList_none, List.cons_append, List.nil_append]
  by_cases e41 : k = 41
  · rw [if_pos (show k = nI 41 from e41)]
    refine AW.b rfl (fun hc => ?_) (fun hc => ?_)
    · exact absurd hc (by decide)
    · repeat refine AW.s rfl ?_
      try dsimp only [List.set_cons_zero, List.set_cons_succ, Option.toList_some, Option.toList_none, List.cons_append, List.nil_append]
      rw [h.2.2.2.2.2.2.1]
      by_cases h0 : dp = 0
      · subst h0
        refine AW.b rfl (fun hc => ?_) (fun hc => ?_)
        · repeat refine AW.s rfl ?_
          try dsimp only [List.set_cons_zero, List.set_cons_succ, Option.toList_some, Option.toList_none, List.cons_append, List.nil_append]
          exact AW.ri rfl rfl rfl (Or.inl ⟨fun z => z.2 rfl, rfl, rfl⟩)
        · exact absurd rfl hc
      · refine AW.b rfl (fun hc => ?_) (fun hc => ?_)
        · exact absurd ((nI_eq (b := 0) (by omega) (by decide)).mp hc) h0
        · obtain ⟨W2, eW⟩ := fl_30 hw.1 (by rw [← hw.2.1]; exact h0)
          obtain ⟨y1, y2, y3, y4⟩ := hw.fls (r := 1) (Nat.le_refl _)
          rw [eW] at y1 y3 y4
          rw [eW, List.tail_cons]
          have y4 : W2.length + 1 + (ft 1 W).length = W.length := y4
          have c30 : (30 :: W2).count 30 = W2.count 30 + 1 := List.count_cons_self
          have f30 : fc (30 :: W2) = fc W2 := List.countP_cons_of_neg (by decide)
          obtain ⟨z1, z2, z3, z4⟩ := y1
          repeat refine AW.s rfl ?_
          try dsimp only [List.set_cons_zero, List.set_cons_succ, Option.toList_some, Option.toList_none, List.cons_append, List.nil_append]
          refine AW.V k_11_143 ((c_MdoAll (r := 1) (by omega) h hq18 (by decide) (by decide) hb (fun o ho => hw.le ho) (by have := hw.2.2; omega) hw.2.2.2)) rfl rfl rfl rfl rfl rfl (fun r1 m2 hq => ?_)
          rw [eW] at hq
          obtain ⟨rfl, R2, F2⟩ := hq
          generalize hop1 : op - fc (ft 1 W) = op1 at *
          generalize hO1 : O ++ (ft 1 W).map nI = O1 at *
          have hO1l : O1.length = O.length + (ft 1 W).length := by rw [← hO1, List.length_append, List.length_map]
          repeat refine AW.u 33 rfl rfl ?_
          try dsimp only [List.set_cons_zero, List.set_cons_succ, Option.toList_some, Option.toList_none, List.cons_append, List.nil_append]
          rw [R2.1, show nI (30 :: W2).length - 1 = nI W2.length from pk_sub (a := W2.length + 1) (b := 1) (by omega)]
          have R3 := R2.pop
          have F3 : FT m (mUp m2 243 24 (nI W2.length)) q := F2.u (by omega)
          generalize mUp m2 243 24 (nI W2.length) = m3 at *
          repeat refine AW.u 43 rfl rfl ?_
          try dsimp only [List.set_cons_zero, List.set_cons_succ, Option.toList_some, Option.toList_none, List.cons_append, List.nil_append]
          rw [R3.2.2.2.2.2.2.1, show nI dp - 1 = nI (dp - 1) from pk_sub (b := 1) (by omega)]
          have R4 := R3.dpd h0
          have F4 : FT m (mUp m3 243 26 (nI (dp - 1))) q := F3.u (by omega)
          generalize mUp m3 243 26 (nI (dp - 1)) = m4 at *
          repeat refine AW.u 53 rfl rfl ?_
          try dsimp only [List.set_cons_zero, List.set_cons_succ, Option.toList_some, Option.toList_none, List.cons_append, List.nil_append]
          rw [R4.2.2.2.2.2.1, show nI op1 - 1 = nI (op1 - 1) from pk_sub (b := 1) (by omega)]
          have R5 := R4.so (op' := op1 - 1)
          have F5 : FT m (mUp m4 243 25 (nI (op1 - 1))) q := F4.u (by omega)
          generalize mUp m4 243 25 (nI (op1 - 1)) = m5 at *
          repeat refine AW.s rfl ?_
          try dsimp only [List.set_cons_zero, List.set_cons_succ, Option.toList_some, Option.toList_none, List.cons_append, List.nil_append]
          refine AW.V k_11_143 ((c_MdoAll (r := 7) (by omega) R5 hq18 (by decide) (by decide) (by omega) (fun o ho => by rcases z1 o (List.mem_cons_of_mem _ ho) with z | z <;> omega) (by omega) (by omega))) rfl rfl rfl rfl rfl rfl (fun r1 m6 hq => ?_)
          obtain ⟨rfl, R6, F6⟩ := hq
          repeat refine AW.s rfl ?_
          try dsimp only [List.set_cons_zero, List.set_cons_succ, Option.toList_some, Option.toList_none, List.cons_append, List.nil_append]
          exact AW.ri rfl rfl rfl (Or.inr ⟨⟨e41, h0⟩, rfl, R6, F5.tr F6⟩)
  · rw [if_neg (show ¬ k = nI 41 from e41)]
    refine AW.b rfl (fun hc => ?_) (fun hc => ?_)
    · repeat refine AW.s rfl ?_
      try dsimp only [List.set_cons_zero, List.set_cons_succ, Option.toList_some, Option.toList_none, List.cons_append, List.nil_append]
      exact AW.ri rfl rfl rfl (Or.inl ⟨fun z => e41 z.1, rfl, rfl⟩)
    · exact absurd rfl hc
theorem c_Mahead {b : Bool} (hd : 3 ≤ d) (h : MR m q W O op dp c) (hw : WI W op dp) (hb : W.length ≤ 160) (ht : MTk k v (m 243 18) (m 243 19)) : Meth l X d M_X11_ahead [vR 12 243, vI (if b then 1 else 0)] m (fun r m' => (((¬ k = 40 ∧ ¬ k = 45 ∧ ¬ (b = true ∧ k = 9)) ∨ op = 5) ∧ r = some (vI 0) ∧ m' = m) ∨ ((k = 40 ∨ k = 45 ∨ (b = true ∧ k = 9)) ∧ ¬ op = 5 ∧ r = some (vI 1) ∧ FT m m' q ∧ (k = 40 → MR m' q (30 :: W) O (op + 1) (dp + 1) (cUp c (dp + 1) false)) ∧ (¬ k = 40 → MR m' q ((if k = 9 then 12 else 18) :: W) O (op + 1) dp c))) := by
  obtain ⟨d, rfl⟩ : ∃ e, d = e + 1 := ⟨d - 1, by omega⟩
  have hop5 := hw.2.2.2
  have hdp : dp ≤ 5 := by have := hw.2.2; omega
  have no : ((¬ k = 40 ∧ ¬ k = 45 ∧ ¬ (b = true ∧ k = 9)) ∨ op = 5) → ∀ x : Int32, AW (GM l X (d + 1) M_X11_ahead (fun r m' => (((¬ k = 40 ∧ ¬ k = 45 ∧ ¬ (b = true ∧ k = 9)) ∨ op = 5) ∧ r = some (vI 0) ∧ m' = m) ∨ ((k = 40 ∨ k = 45 ∨ (b = true ∧ k = 9)) ∧ ¬ op = 5 ∧ r = some (vI 1) ∧ FT m m' q ∧ (k = 40 → MR m' q (30 :: W) O (op + 1) (dp + 1) (cUp c (dp + 1) false)) ∧ (¬ k = 40 → MR m' q ((if k = 9 then 12 else 18) :: W) O (op + 1) dp c)))) 48 [vR 12 243, vI (if b then 1 else 0), vI x] [] m := by
    intro hn x
    repeat refine AW.s rfl ?_
    try dsimp only [List.set_cons_zero, List.set_cons_succ, Option.toList_some, Option.toList_none, List.cons_append, List.nil_append]
    exact AW.ri rfl rfl rfl (Or.inl ⟨hn, rfl, rfl⟩)
  have no34 : (¬ k = 40 ∧ ¬ k = 45 ∧ ¬ (b = true ∧ k = 9)) → AW (GM l X (d + 1) M_X11_ahead (fun r m' => (((¬ k = 40 ∧ ¬ k = 45 ∧ ¬ (b = true ∧ k = 9)) ∨ op = 5) ∧ r = some (vI 0) ∧ m' = m) ∨ ((k = 40 ∨ k = 45 ∨ (b = true ∧ k = 9)) ∧ ¬ op = 5 ∧ r = some (vI 1) ∧ FT m m' q ∧ (k = 40 → MR m' q (30 :: W) O (op + 1) (dp + 1) (cUp c (dp + 1) false)) ∧ (¬ k = 40 → MR m' q ((if k = 9 then 12 else 18) :: W) O (op + 1) dp c)))) 34 [vR 12 243, vI (if b then 1 else 0), vU] [] m := by
    intro hn
    repeat refine AW.s rfl ?_
    try dsimp only [List.set_cons_zero, List.set_cons_succ, Option.toList_some, Option.toList_none, List.cons_append, List.nil_append]
    refine AW.b rfl (fun hc => ?_) (fun hc => ?_)
    · exact no (Or.inl hn) 0
    · exact absurd rfl hc
  have yes : (k = 40 ∨ k = 45 ∨ (b = true ∧ k = 9)) → AW (GM l X (d + 1) M_X11_ahead (fun r m' => (((¬ k = 40 ∧ ¬ k = 45 ∧ ¬ (b = true ∧ k = 9)) ∨ op = 5) ∧ r = some (vI 0) ∧ m' = m) ∨ ((k = 40 ∨ k = 45 ∨ (b = true ∧ k = 9)) ∧ ¬ op = 5 ∧ r = some (vI 1) ∧ FT m m' q ∧ (k = 40 → MR m' q (30 :: W) O (op + 1) (dp + 1) (cUp c (dp + 1) false)) ∧ (¬ k = 40 → MR m' q ((if k = 9 then 12 else 18) :: W) O (op + 1) dp c)))) 30 [vR 12 243, vI (if b then 1 else 0), vU] [] m := by
    intro hy
    repeat refine AW.s rfl ?_
    try dsimp only [List.set_cons_zero, List.set_cons_succ, Option.toList_some, Option.toList_none, List.cons_append, List.nil_append]
    refine AW.b rfl (fun hc => ?_) (fun hc => ?_)
    · exact absurd (show (1 : Int32) = 0 from hc) (by decide)
    · repeat refine AW.s rfl ?_
      try dsimp only [List.set_cons_zero, List.set_cons_succ, Option.toList_some, Option.toList_none, List.cons_append, List.nil_append]
      rw [h.2.2.2.2.2.1]
      refine AW.b rfl (fun hc => ?_) (fun hc => ?_)
      · have e5 : op = 5 := (nI_eq (b := 5) (by omega) (by decide)).mp hc
        exact no (Or.inr e5) 1
      · have n5 : ¬ op = 5 := fun z => hc (by rw [z]; rfl)
        repeat refine AW.u 60 rfl rfl ?_
        try dsimp only [List.set_cons_zero, List.set_cons_succ, Option.toList_some, Option.toList_none, List.cons_append, List.nil_append]
        rw [h.2.2.2.2.2.1, nI_1]
        have R1 := h.so (op' := op + 1)
        have F1 : FT m (mUp m 243 25 (nI (op + 1))) q := FT.rf.u (by omega)
        have t1 : MTk k v (mUp m 243 25 (nI (op + 1)) 243 18) (mUp m 243 25 (nI (op + 1)) 243 19) := by rw [mUp_n (Or.inr (by decide)), mUp_n (Or.inr (by decide))]; exact ht
        generalize mUp m 243 25 (nI (op + 1)) = m1 at *
        repeat refine AW.s rfl ?_
        try dsimp only [List.set_cons_zero, List.set_cons_succ, Option.toList_some, Option.toList_none, List.cons_append, List.nil_append]
        refine AW.V k_11_130 ((c_MisSign (b := 40) t1 rfl)) rfl rfl rfl rfl rfl rfl (fun r1 m2 hq => ?_)
        obtain ⟨rfl, hm2⟩ := hq
        rw [hm2]
        try dsimp only [List.set_cons_zero, List.set_cons_succ, Option.toList_some, Option.toList_none, List.cons_append, List.nil_append]
        by_cases e40 : k = 40
        · rw [if_pos (show k = nI 40 from e40)]
          refine AW.b rfl (fun hc => ?_) (fun hc => ?_)
          · exact absurd hc (by decide)
          · repeat refine AW.s rfl ?_
            try dsimp only [List.set_cons_zero, List.set_cons_succ, Option.toList_some, Option.toList_none, List.cons_append, List.nil_append]
            refine AW.V k_11_146 ((c_Mawait (o := 30) R1 (by omega))) rfl rfl rfl rfl rfl rfl (fun r1 m3 hq => ?_)
            obtain ⟨rfl, R3, F3⟩ := hq
            have R4 := R3.dpu
            repeat refine AW.s rfl ?_
            try dsimp only [List.set_cons_zero, List.set_cons_succ, Option.toList_some, Option.toList_none, List.cons_append, List.nil_append]
            rw [R3.2.2.2.2.2.2.1, nI_1, show mUp m3 243 26 (nI (dp + 1)) 243 26 = nI (dp + 1) from mUp_s _ _ _ _]
            refine AW.c rfl (⟨vp_in_nI (by omega) (by decide), fun _ => Or.inl rfl⟩) ?_
            try dsimp only [List.set_cons_zero, List.set_cons_succ, Option.toList_some, Option.toList_none, List.cons_append, List.nil_append]
            rw [nI_clamp (by omega)]
            repeat refine AW.s rfl ?_
            try dsimp only [List.set_cons_zero, List.set_cons_succ, Option.toList_some, Option.toList_none, List.cons_append, List.nil_append]
            exact AW.ri rfl rfl rfl (Or.inr ⟨hy, n5, rfl, FT.w (FT.u (F1.tr F3) (by omega)) (by omega), fun _ => R4, fun z => absurd e40 z⟩)
        · rw [if_neg (show ¬ k = nI 40 from e40)]
          have fin : ∀ o : Nat, o = (if k = 9 then 12 else 18) → AW (GM l X (d + 1) M_X11_ahead (fun r m' => (((¬ k = 40 ∧ ¬ k = 45 ∧ ¬ (b = true ∧ k = 9)) ∨ op = 5) ∧ r = some (vI 0) ∧ m' = m) ∨ ((k = 40 ∨ k = 45 ∨ (b = true ∧ k = 9)) ∧ ¬ op = 5 ∧ r = some (vI 1) ∧ FT m m' q ∧ (k = 40 → MR m' q (30 :: W) O (op + 1) (dp + 1) (cUp c (dp + 1) false)) ∧ (¬ k = 40 → MR m' q ((if k = 9 then 12 else 18) :: W) O (op + 1) dp c)))) 114 [vR 12 243, vI (if b then 1 else 0), vI 1] [vI (nI o), vR 12 243] m1 := by
            intro o ho
            refine AW.V k_11_146 ((c_Mawait (o := o) R1 (by omega))) rfl rfl rfl rfl rfl rfl (fun r1 m3 hq => ?_)
            obtain ⟨rfl, R3, F3⟩ := hq
            rw [ho] at R3
            repeat refine AW.s rfl ?_
            try dsimp only [List.set_cons_zero, List.set_cons_succ, Option.toList_some, Option.toList_none, List.cons_append, List.nil_append]
            exact AW.ri rfl rfl rfl (Or.inr ⟨hy, n5, rfl, F1.tr F3, fun z => absurd z e40, fun _ => R3⟩)
          refine AW.b rfl (fun hc => ?_) (fun hc => ?_)
          · repeat refine AW.s rfl ?_
            try dsimp only [List.set_cons_zero, List.set_cons_succ, Option.toList_some, Option.toList_none, List.cons_append, List.nil_append]
            refine AW.b rfl (fun hc => ?_) (fun hc => ?_)
            · have e3 : m1 243 18 = 3 := hc
              have k9 : k = 9 := by
                rcases hy with z | z | z
                · exact absurd z e40
                · have := ((t1.sign (b := 45) rfl).mpr z).1
                  rw [e3] at this
                  exact absurd this (by decide)
                · exact z.2
              repeat refine AW.u 114 rfl rfl ?_
              try dsimp only [List.set_cons_zero, List.set_cons_succ, Option.toList_some, Option.toList_none, List.cons_append, List.nil_append]
              exact fin 12 (by rw [if_pos k9])
            · have e3 : ¬ m1 243 18 = 3 := hc
              have k9 : ¬ k = 9 := fun z => e3 ((t1.key (j := 5) (by decide)).mpr z).1
              repeat refine AW.u 114 rfl rfl ?_
              try dsimp only [List.set_cons_zero, List.set_cons_succ, Option.toList_some, Option.toList_none, List.cons_append, List.nil_append]
              exact fin 18 (by rw [if_neg k9])
          · exact absurd rfl hc
  refine E_X11_ahead (ls := [vR 12 243, vI (if b then 1 else 0), vU]) rfl rfl ?_
  repeat refine AW.s rfl ?_
  try dsimp only [List.set_cons_zero, List.set_cons_succ, Option.toList_some, Option.toList_none, List.cons_append, List.nil_append]
  refine AW.V k_11_130 ((c_MisSign (b := 40) ht rfl)) rfl rfl rfl rfl rfl rfl (fun r1 m1 hq => ?_)
  obtain ⟨rfl, hm1⟩ := hq
  rw [hm1]
  try dsimp only [List.set_cons_zero, List.set_cons_succ, Option.toList_some, Option.toList_none, List.cons_append, List.nil_append]
  by_cases e40 : k = 40
  · rw [if_pos (show k = nI 40 from e40)]
    refine AW.b rfl (fun hc => ?_) (fun hc => ?_)
    · exact absurd hc (by decide)
    · exact yes (Or.inl e40)
  · rw [if_neg (show ¬ k = nI 40 from e40)]
    refine AW.b rfl (fun hc => ?_) (fun hc => ?_)
    · repeat refine AW.s rfl ?_
      try dsimp only [List.set_cons_zero, List.set_cons_succ, Option.toList_some, Option.toList_none, List.cons_append, List.nil_append]
      refine AW.V k_11_130 ((c_MisSign (b := 45) ht rfl)) rfl rfl rfl rfl rfl rfl (fun r1 m2 hq => ?_)
      obtain ⟨rfl, hm2⟩ := hq
      rw [hm2]
      try dsimp only [List.set_cons_zero, List.set_cons_succ, Option.toList_some, Option.toList_none, List.cons_append, List.nil_append]
      by_cases e45 : k = 45
      · rw [if_pos (show k = nI 45 from e45)]
        refine AW.b rfl (fun hc => ?_) (fun hc => ?_)
        · exact absurd hc (by decide)
        · exact yes (Or.inr (Or.inl e45))
      · rw [if_neg (show ¬ k = nI 45 from e45)]
        refine AW.b rfl (fun hc => ?_) (fun hc => ?_)
        · repeat refine AW.s rfl ?_
          try dsimp only [List.set_cons_zero, List.set_cons_succ, Option.toList_some, Option.toList_none, List.cons_append, List.nil_append]
          cases b with
          | false =>
            refine AW.b rfl (fun hc => ?_) (fun hc => ?_)
            · exact no34 ⟨e40, e45, fun z => absurd z.1 (by decide)⟩
            · exact absurd rfl hc
          | true =>
            refine AW.b rfl (fun hc => ?_) (fun hc => ?_)
            · exact absurd (show (1 : Int32) = 0 from hc) (by decide)
            · repeat refine AW.s rfl ?_
              try dsimp only [List.set_cons_zero, List.set_cons_succ, Option.toList_some, Option.toList_none, List.cons_append, List.nil_append]
              refine AW.V k_11_133 ((c_MisKey (j := 5) ht (by decide))) rfl rfl rfl rfl rfl rfl (fun r1 m3 hq => ?_)
              obtain ⟨rfl, hm3⟩ := hq
              rw [hm3]
              try dsimp only [List.set_cons_zero, List.set_cons_succ, Option.toList_some, Option.toList_none, List.cons_append, List.nil_append]
              by_cases e9 : k = 9
              · rw [if_pos (show k = nI (4 + 5) from e9)]
                refine AW.b rfl (fun hc => ?_) (fun hc => ?_)
                · exact absurd hc (by decide)
                · exact yes (Or.inr (Or.inr ⟨rfl, e9⟩))
              · rw [if_neg (show ¬ k = nI (4 + 5) from e9)]
                refine AW.b rfl (fun hc => ?_) (fun hc => ?_)
                · exact no34 ⟨e40, e45, fun z => e9 z.2⟩
                · exact absurd rfl hc
        · exact absurd rfl hc
    · exact absurd rfl hc
end

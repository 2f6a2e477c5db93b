-- ===== law: its loop =====
theorem and31 (v : Int32) : ∃ k, k < 32 ∧ v &&& 31 = nI k := by
  refine ⟨(v.toBitVec &&& 31#32).toNat, ?_, ?_⟩
  · rw [BitVec.toNat_and]
    exact Nat.lt_of_le_of_lt Nat.and_le_right (by decide)
  · apply Int32.toBitVec_inj.1
    show v.toBitVec &&& 31#32 = BitVec.ofNat 32 (v.toBitVec &&& 31#32).toNat
    rw [BitVec.ofNat_toNat, BitVec.setWidth_eq]
section
variable {l : Launch} {X : XT} {cs ss : Nat} {Z : List Frame → Array Value → State → State → Prop} {m : Mem} {i : Nat} {Ω : OM}
theorem law_gt {i L : Nat} (hi : i ≤ 4000) (hL : L ≤ 3072) : nI L - 6 < nI i ↔ L < i + 6 := by
  rw [Int32.lt_iff_toInt_lt, Int32.toInt_sub, nI_toInt (by omega), nI_toInt (by omega), show (6 : Int32).toInt = 6 from rfl, Int.bmod_eq_of_le (by omega) (by omega)]
  omega
theorem law_loop (hL : X.2.2.2.2.2.1 ≤ 3072) (hret : ∀ (i : Nat) (m : Mem), AW (GLw l X cs ss Z) 1115 (LL i) [] m) (hW : WO Ω) (hC : InvC m Ω) (hM : InvM m Ω) : AW (GLw l X cs ss Z) 18 (LL 0) [] m := by
  generalize hLn : X.2.2.2.2.2.1 = L at *
  refine AW.wf (pc := 18) (σ := Nat × OM) (fun st => 4000 - st.1) (fun st => LL st.1) (fun st m1 => WO st.2 ∧ InvC m1 st.2 ∧ InvM m1 st.2 ∧ st.1 ≤ L) (fun st m1 hS ih => ?_) (0, Ω) m ⟨hW, hC, hM, Nat.zero_le _⟩
  obtain ⟨i, Ω1⟩ := st
  obtain ⟨g1, g2, g3, g4⟩ := hS
  have g4 : i ≤ L := g4
  show AW (GLw l X cs ss Z) 18 (LL i) [] m1
  repeat refine AW.s rfl ?_
  try dsimp only [List.set_cons_zero, List.set_cons_succ, Option.toList_some, Option.toList_none, List.cons_append, List.nil_append]
  refine AW.xlen rfl ?_
  repeat refine AW.s rfl ?_
  try dsimp only [List.set_cons_zero, List.set_cons_succ, Option.toList_some, Option.toList_none, List.cons_append, List.nil_append]
  rw [show (GLw l X cs ss Z).2.1.2.2.2.2.2.1 = L from hLn]
  refine AW.b rfl (fun hc => ?_) (fun hc => ?_)
  · exact hret i m1
  · have hle : i + 6 ≤ L := by
      have : ¬ L < i + 6 := fun z => hc ((law_gt (by omega) hL).mpr z)
      omega
    have hin : ∀ j : Nat, j < 6 → vp_in (nI i + nI j) X.2.2.2.2.2.1 := fun j hj => by
      rw [hLn, nI_add]
      exact vp_in_nI (by omega) (by omega)
    have kk : ∀ m' Ω', WO Ω' → InvC m' Ω' → InvM m' Ω' → AW (GLw l X cs ss Z) 1109 (LL i) [] m' := by
      intro m' Ω' a b c
      refine AW.tab (P := P_L_law) (P' := P_L19) ok_L19 ?_
      repeat refine AW.u 18 rfl rfl ?_
      try dsimp only [List.set_cons_zero, List.set_cons_succ, Option.toList_some, Option.toList_none, List.cons_append, List.nil_append]
      refine AW.tab (P := P_L19) (P' := P_L_law) ok_L_law ?_
      rw [show nI i + 6 = nI (i + 6) from nI_add i 6]
      exact ih (i + 6, Ω') m' (by show 4000 - (i + 6) < 4000 - i; omega) ⟨a, b, c, by show i + 6 ≤ L; omega⟩
    repeat refine AW.s rfl ?_
    try dsimp only [List.set_cons_zero, List.set_cons_succ, Option.toList_some, Option.toList_none, List.cons_append, List.nil_append]
    refine AW.xld rfl (by show vp_in (nI i) X.2.2.2.2.2.1; rw [hLn]; exact vp_in_nI (by omega) (by omega)) ?_
    repeat refine AW.s rfl ?_
    try dsimp only [List.set_cons_zero, List.set_cons_succ, Option.toList_some, Option.toList_none, List.cons_append, List.nil_append]
    obtain ⟨k, hk, ek⟩ := and31 ((GLw l X cs ss Z).2.1.2.2.2.2.2.2 (nI i).toNatClampNeg)
    rw [ek]
    rcases (show k = 0 ∨ k = 1 ∨ k = 2 ∨ k = 3 ∨ k = 4 ∨ k = 5 ∨ k = 6 ∨ k = 7 ∨ k = 8 ∨ k = 9 ∨ k = 10 ∨ k = 11 ∨ k = 12 ∨ k = 13 ∨ k = 14 ∨ k = 15 ∨ k = 16 ∨ k = 17 ∨ k = 18 ∨ k = 19 ∨ k = 20 ∨ k = 21 ∨ k = 22 ∨ k = 23 ∨ k = 24 ∨ k = 25 ∨ k = 26 ∨ k = 27 ∨ k = 28 ∨ k = 29 ∨ 30 ≤ k by omega) with e | e | e | e | e | e | e | e | e | e | e | e | e | e | e | e | e | e | e | e | e | e | e | e | e | e | e | e | e | e | e
    · subst e
      refine AW.tin (tgt := 168) rfl (by decide) (by decide) rfl (by decide) ?_
      exact law_0 hin g1 g2 g3 kk
    · subst e
      refine AW.tin (tgt := 201) rfl (by decide) (by decide) rfl (by decide) ?_
      exact law_1 hin g1 g2 g3 kk
    · subst e
      refine AW.tin (tgt := 244) rfl (by decide) (by decide) rfl (by decide) ?_
      exact law_2 hin g1 g2 g3 kk
    · subst e
      refine AW.tin (tgt := 267) rfl (by decide) (by decide) rfl (by decide) ?_
      exact law_3 hin g1 g2 g3 kk
    · subst e
      refine AW.tin (tgt := 280) rfl (by decide) (by decide) rfl (by decide) ?_
      exact law_4 hin g1 g2 g3 kk
    · subst e
      refine AW.tin (tgt := 323) rfl (by decide) (by decide) rfl (by decide) ?_
      exact law_5 hin g1 g2 g3 kk
    · subst e
      refine AW.tin (tgt := 356) rfl (by decide) (by decide) rfl (by decide) ?_
      exact law_6 hin g1 g2 g3 kk
    · subst e
      refine AW.tin (tgt := 379) rfl (by decide) (by decide) rfl (by decide) ?_
      exact law_7 hin g1 g2 g3 kk
    · subst e
      refine AW.tin (tgt := 392) rfl (by decide) (by decide) rfl (by decide) ?_
      exact law_8 hin g1 g2 g3 kk
    · subst e
      refine AW.tin (tgt := 415) rfl (by decide) (by decide) rfl (by decide) ?_
      exact law_9 hin g1 g2 g3 kk
    · subst e
      refine AW.tin (tgt := 448) rfl (by decide) (by decide) rfl (by decide) ?_
      exact law_10 hin g1 g2 g3 kk
    · subst e
      refine AW.tin (tgt := 491) rfl (by decide) (by decide) rfl (by decide) ?_
      exact law_11 hin g1 g2 g3 kk
    · subst e
      refine AW.tin (tgt := 524) rfl (by decide) (by decide) rfl (by decide) ?_
      exact law_12 hin g1 g2 g3 kk
    · subst e
      refine AW.tin (tgt := 547) rfl (by decide) (by decide) rfl (by decide) ?_
      exact law_13 hin g1 g2 g3 kk
    · subst e
      refine AW.tin (tgt := 570) rfl (by decide) (by decide) rfl (by decide) ?_
      exact law_14 hin g1 g2 g3 kk
    · subst e
      refine AW.tin (tgt := 593) rfl (by decide) (by decide) rfl (by decide) ?_
      exact law_15 hin g1 g2 g3 kk
    · subst e
      refine AW.tin (tgt := 626) rfl (by decide) (by decide) rfl (by decide) ?_
      exact law_16 hin g1 g2 g3 kk
    · subst e
      refine AW.tin (tgt := 659) rfl (by decide) (by decide) rfl (by decide) ?_
      exact law_17 hin g1 g2 g3 kk
    · subst e
      refine AW.tin (tgt := 712) rfl (by decide) (by decide) rfl (by decide) ?_
      exact law_18 hin g1 g2 g3 kk
    · subst e
      refine AW.tin (tgt := 725) rfl (by decide) (by decide) rfl (by decide) ?_
      exact law_19 hin g1 g2 g3 kk
    · subst e
      refine AW.tin (tgt := 758) rfl (by decide) (by decide) rfl (by decide) ?_
      exact law_20 hin g1 g2 g3 kk
    · subst e
      refine AW.tin (tgt := 781) rfl (by decide) (by decide) rfl (by decide) ?_
      exact law_21 hin g1 g2 g3 kk
    · subst e
      refine AW.tin (tgt := 825) rfl (by decide) (by decide) rfl (by decide) ?_
      exact law_22 hin g1 g2 g3 kk
    · subst e
      refine AW.tin (tgt := 838) rfl (by decide) (by decide) rfl (by decide) ?_
      exact law_23 hin g1 g2 g3 kk
    · subst e
      refine AW.tin (tgt := 851) rfl (by decide) (by decide) rfl (by decide) ?_
      exact law_24 hin g1 g2 g3 kk
    · subst e
      refine AW.tin (tgt := 874) rfl (by decide) (by decide) rfl (by decide) ?_
      exact law_25 hin g1 g2 g3 kk
    · subst e
      refine AW.tin (tgt := 917) rfl (by decide) (by decide) rfl (by decide) ?_
      exact law_26 hin g1 g2 g3 kk
    · subst e
      refine AW.tin (tgt := 960) rfl (by decide) (by decide) rfl (by decide) ?_
      exact law_27 hin g1 g2 g3 kk
    · subst e
      refine AW.tin (tgt := 1023) rfl (by decide) (by decide) rfl (by decide) ?_
      exact law_28 hin g1 g2 g3 kk
    · subst e
      refine AW.tin (tgt := 1076) rfl (by decide) (by decide) rfl (by decide) ?_
      exact law_29 hin g1 g2 g3 kk
    · refine AW.tout (tgt := 1109) rfl (Or.inr (by rw [nI_toInt (by omega)]; omega)) (by decide) ?_
      exact kk m1 Ω1 g1 g2 g3
end

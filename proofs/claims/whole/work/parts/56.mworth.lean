theorem clI_nat (v : Int32) : ∃ a, a ≤ 99 ∧ clI v = nI a := by
  unfold clI
  by_cases h : v < 99
  · rw [if_pos h]
    by_cases h0 : 0 < v
    · rw [if_pos h0]
      obtain ⟨j, hj, rfl⟩ := nI_of (Int32.not_lt.mpr (Int32.le_of_lt h0))
      have := (nI_ltI (b := 99) hj (by decide)).mp h
      exact ⟨j, by omega, rfl⟩
    · rw [if_neg h0]
      exact ⟨0, by decide, rfl⟩
  · rw [if_neg h]
    exact ⟨99, by decide, rfl⟩
theorem posI {a : Nat} (h : a < 2 ^ 31) : (if 0 < nI a then nI a else 0) = nI a := by
  by_cases q : 0 < nI a
  · rw [if_pos q]
  · rw [if_neg q]
    cases a with
    | zero => rfl
    | succ a => exact absurd (nI_lt (a := 0) (by omega) h) q
def mhV (K : Nat) (n v : Int32) : Int32 := if K = 1 ∨ K = 3 then v + 1 else if K = 2 then 2 * v else if K = 5 then v + n else v
theorem mh_eq {K a b : Nat} (hK : K < 6) (ha : a ≤ 99) (hb : b < 26) : (if 0 < hardB K (nI b) (nI a) then hardB K (nI b) (nI a) else 0) = mhV K (nI b) (nI a) := by
  have h1 : hardB K (nI b) (nI a) = mhV K (nI b) (nI a) ∧ ∃ c, c < 2 ^ 31 ∧ mhV K (nI b) (nI a) = nI c := by
    rcases k6 hK with e | e | e | e | e | e <;> subst e
    · exact ⟨rfl, a, by omega, rfl⟩
    · exact ⟨rfl, a + 1, by omega, nI_1 a⟩
    · refine ⟨?_, 2 * a, by omega, pk_mul 2 a⟩
      show nI a * 2 = 2 * nI a
      rw [show nI a * 2 = nI (a * 2) from pk_mul a 2, show 2 * nI a = nI (2 * a) from pk_mul 2 a, Nat.mul_comm]
    · exact ⟨rfl, a + 1, by omega, nI_1 a⟩
    · refine ⟨?_, a, by omega, rfl⟩
      show nI a * 2 / 2 = nI a
      rw [show nI a * 2 = nI (a * 2) from pk_mul a 2, show nI (a * 2) / 2 = nI (a * 2 / 2) from pk_div (d := 2) (by omega) (by decide) (by decide), show a * 2 / 2 = a by omega]
    · exact ⟨rfl, a + b, by omega, nI_add a b⟩
  obtain ⟨h2, c, hc, h3⟩ := h1
  rw [h2, h3]
  exact posI hc
/-- what working a worth out changes -/
def FrW (m m' : Mem) : Prop := (∀ a, a ≠ 243 → a ≠ 258 → a ≠ 259 → a ≠ 260 → a ≠ 261 → a ≠ 262 → a ≠ 263 → m' a = m a) ∧ ∀ k, k ≠ 36 → m' 243 k = m 243 k
theorem FrS.W {m m' : Mem} (h : FrS m m') : FrW m m' := ⟨fun a x _ _ y z u v => h.1 a x y z u v, h.2⟩
theorem FrW.tr {m m' m'' : Mem} (h1 : FrW m m') (h2 : FrW m' m'') : FrW m m'' := ⟨fun a x y z u v w q => by rw [h2.1 a x y z u v w q, h1.1 a x y z u v w q], fun k q => by rw [h2.2 k q, h1.2 k q]⟩
theorem RepM.W {m m' : Mem} {σ : Sg} (h : RepM m σ) (hf : FrW m m') : RepM m' σ := h.fr (hf.2 0 (by decide)) (hf.2 1 (by decide)) (hf.2 5 (by decide)) (hf.2 9 (by decide)) (hf.2 14 (by decide)) (fun a h1 h2 => hf.1 a (by omega) (by omega) (by omega) (by omega) (by omega) (by omega) (by omega))
theorem MOK.fr {m m' : Mem} {q : Nat} {cs : List Int32} (h : MOK m q cs) (h1 : m' 252 = m 252) (h2 : m' 253 = m 253) : MOK m' q cs := by
  obtain ⟨a1, a2, a3, a4⟩ := h
  exact ⟨by rw [h2]; exact a1, a2, by rw [h1]; exact a3, a4⟩
theorem c_MhardOf {l : Launch} {X : XT} {d : Nat} {w : Nat} {m : Mem} {σ : Sg} {o : Option (List Nat)} {cs : List Int32} (hd : 2 ≤ d) (hs : RepM m σ) (hσ : WF σ) (hw : w < σ 0 1) (hy : RMs m w o) (ho : WFo o) (hc0 : MOK m (3 * σ 0 4 + 0) cs) : Meth l X d M_X11_hardOf [vR 12 243, vI (nI w)] m (fun r m' => r = some (vI (match o with | none => 0 | some xs => hardV σ (rowL σ) (clI (mvl (fctV σ (rowL σ) w xs) cs)))) ∧ ∀ a, a ≠ 258 → a ≠ 259 → m' a = m a) := by
  obtain ⟨d, rfl⟩ : ∃ e, d = e + 1 := ⟨d - 1, by omega⟩
  have hw8 : w < 8 := Nat.lt_of_lt_of_le hw hσ.2.1
  refine E_X11_hardOf (ls := [vR 12 243, vI (nI w), vU, vU]) rfl rfl ?_
  repeat refine AW.s rfl ?_
  try dsimp only [List.set_cons_zero, List.set_cons_succ, Option.toList_some, Option.toList_none, List.cons_append, List.nil_append]
  refine AW.c rfl (vp_in_nI (by omega) (by decide)) ?_
  try dsimp only [List.set_cons_zero, List.set_cons_succ, Option.toList_some, Option.toList_none, List.cons_append, List.nil_append]
  rw [nI_clamp (by omega)]
  repeat refine AW.s rfl ?_
  try dsimp only [List.set_cons_zero, List.set_cons_succ, Option.toList_some, Option.toList_none, List.cons_append, List.nil_append]
  cases o with
  | none =>
    have hy : m (243 + 18) w = -3 := hy
    rw [hy]
    refine AW.b rfl (fun hc => ?_) (fun hc => ?_)
    · repeat refine AW.s rfl ?_
      try dsimp only [List.set_cons_zero, List.set_cons_succ, Option.toList_some, Option.toList_none, List.cons_append, List.nil_append]
      exact AW.ri rfl rfl rfl ⟨rfl, fun _ _ _ => rfl⟩
    · exact absurd rfl hc
  | some xs =>
    obtain ⟨g1, g2, g3⟩ := ho xs rfl
    rw [show m (243 + 18) w = nI xs.length from hy.1]
    refine AW.b rfl (fun hc => ?_) (fun hc => ?_)
    · have h9 := congrArg Int32.toInt hc
      rw [nI_toInt (by omega)] at h9
      have : (-3 : Int32).toInt = -3 := rfl
      omega
    · repeat refine AW.s rfl ?_
      try dsimp only [List.set_cons_zero, List.set_cons_succ, Option.toList_some, Option.toList_none, List.cons_append, List.nil_append]
      refine AW.V k_11_249 ((c_Msays (p := 0) (by omega) hs hσ (by decide) hw hy ho hc0)) rfl rfl rfl rfl rfl rfl (fun r1 m2 hq => ?_)
      obtain ⟨rfl, hf⟩ := hq
      try dsimp only
      obtain ⟨a, ha, hcl⟩ := clI_nat (mvl (fctV σ (rowL σ) w xs) cs)
      rw [hcl]
      have hhv : hardV σ (rowL σ) (nI a) = (match (rowL σ).getLast? with | none => nI a | some r => if 0 < hardB (σ 3 r) (nI (σ 5 r)) (nI a) then hardB (σ 3 r) (nI (σ 5 r)) (nI a) else 0) := rfl
      have hlast := rowL_last (σ := σ)
      have h3le : σ 0 3 ≤ 8 := hσ.2.2.2.1
      have h62 : σ 0 2 ≤ 6 := hσ.2.2.1
      repeat refine AW.s rfl ?_
      try dsimp only [List.set_cons_zero, List.set_cons_succ, Option.toList_some, Option.toList_none, List.cons_append, List.nil_append]
      have h9 : m2 243 9 = nI (σ 0 3) := by rw [hf 243 (by decide) (by decide)]; exact hs.2.2.2.1
      rw [h9]
      refine AW.b rfl (fun hc => ?_) (fun hc => ?_)
      · have e : σ 0 3 = 0 := (nI_eq (b := 0) (by omega) (by decide)).mp hc
        rw [if_pos e] at hlast
        rw [hlast] at hhv
        repeat refine AW.s rfl ?_
        try dsimp only [List.set_cons_zero, List.set_cons_succ, Option.toList_some, Option.toList_none, List.cons_append, List.nil_append]
        exact AW.ri rfl rfl rfl ⟨by rw [hhv], hf⟩
      · have e : ¬ σ 0 3 = 0 := fun q => hc (by rw [q]; rfl)
        rw [if_neg e] at hlast
        have hrr : σ 6 (σ 0 3 - 1) < σ 0 2 := hσ.2.2.2.2.2.2.2 _ (by omega)
        obtain ⟨w1, w2, w3⟩ := hσ.2.2.2.2.2.2.1 _ hrr
        obtain ⟨q1, q2, q3⟩ := hs.2.2.2.2.2.2.1 _ hrr
        rw [hlast] at hhv
        have hhv : hardV σ (rowL σ) (nI a) = mhV (σ 3 (σ 6 (σ 0 3 - 1))) (nI (σ 5 (σ 6 (σ 0 3 - 1)))) (nI a) := by rw [hhv]; exact mh_eq w1 ha w3
        rw [hhv]
        repeat refine AW.s rfl ?_
        try dsimp only [List.set_cons_zero, List.set_cons_succ, Option.toList_some, Option.toList_none, List.cons_append, List.nil_append]
        rw [h9, show nI (σ 0 3) - 1 = nI (σ 0 3 - 1) from pk_sub (b := 1) (by omega)]
        refine AW.c rfl (vp_in_nI (by omega) (by decide)) ?_
        try dsimp only [List.set_cons_zero, List.set_cons_succ, Option.toList_some, Option.toList_none, List.cons_append, List.nil_append]
        rw [nI_clamp (by omega), show m2 (243 + 7) (σ 0 3 - 1) = nI (σ 6 (σ 0 3 - 1)) by rw [hf _ (by decide) (by decide)]; exact hs.2.2.2.2.2.2.2 _ (by omega)]
        have qk : m2 (243 + 4) (σ 6 (σ 0 3 - 1)) = nI (σ 3 (σ 6 (σ 0 3 - 1))) := by rw [hf _ (by decide) (by decide)]; exact q1
        have qn : m2 (243 + 6) (σ 6 (σ 0 3 - 1)) = nI (σ 5 (σ 6 (σ 0 3 - 1))) := by rw [hf _ (by decide) (by decide)]; exact q3
        generalize σ 6 (σ 0 3 - 1) = r at *
        generalize hKK : σ 3 r = K at *
        repeat refine AW.s rfl ?_
        try dsimp only [List.set_cons_zero, List.set_cons_succ, Option.toList_some, Option.toList_none, List.cons_append, List.nil_append]
        refine AW.c rfl (vp_in_nI (by omega) (by decide)) ?_
        try dsimp only [List.set_cons_zero, List.set_cons_succ, Option.toList_some, Option.toList_none, List.cons_append, List.nil_append]
        rw [nI_clamp (by omega), qk]
        repeat refine AW.s rfl ?_
        try dsimp only [List.set_cons_zero, List.set_cons_succ, Option.toList_some, Option.toList_none, List.cons_append, List.nil_append]
        refine AW.b rfl (fun hc => ?_) (fun hc => ?_)
        · have e1 : K = 1 := (nI_eq (b := 1) (by omega) (by decide)).mp hc
          repeat refine AW.s rfl ?_
          try dsimp only [List.set_cons_zero, List.set_cons_succ, Option.toList_some, Option.toList_none, List.cons_append, List.nil_append]
          exact AW.ri rfl rfl rfl ⟨by unfold mhV; rw [if_pos (Or.inl e1)], hf⟩
        · have e1 : ¬ K = 1 := fun q => hc (by rw [q]; rfl)
          repeat refine AW.s rfl ?_
          try dsimp only [List.set_cons_zero, List.set_cons_succ, Option.toList_some, Option.toList_none, List.cons_append, List.nil_append]
          refine AW.c rfl (vp_in_nI (by omega) (by decide)) ?_
          try dsimp only [List.set_cons_zero, List.set_cons_succ, Option.toList_some, Option.toList_none, List.cons_append, List.nil_append]
          rw [nI_clamp (by omega), qk]
          repeat refine AW.s rfl ?_
          try dsimp only [List.set_cons_zero, List.set_cons_succ, Option.toList_some, Option.toList_none, List.cons_append, List.nil_append]
          refine AW.b rfl (fun hc => ?_) (fun hc => ?_)
          · have e3 : K = 3 := (nI_eq (b := 3) (by omega) (by decide)).mp hc
            repeat refine AW.s rfl ?_
            try dsimp only [List.set_cons_zero, List.set_cons_succ, Option.toList_some, Option.toList_none, List.cons_append, List.nil_append]
            exact AW.ri rfl rfl rfl ⟨by unfold mhV; rw [if_pos (Or.inr e3)], hf⟩
          · have e3 : ¬ K = 3 := fun q => hc (by rw [q]; rfl)
            repeat refine AW.s rfl ?_
            try dsimp only [List.set_cons_zero, List.set_cons_succ, Option.toList_some, Option.toList_none, List.cons_append, List.nil_append]
            refine AW.c rfl (vp_in_nI (by omega) (by decide)) ?_
            try dsimp only [List.set_cons_zero, List.set_cons_succ, Option.toList_some, Option.toList_none, List.cons_append, List.nil_append]
            rw [nI_clamp (by omega), qk]
            repeat refine AW.s rfl ?_
            try dsimp only [List.set_cons_zero, List.set_cons_succ, Option.toList_some, Option.toList_none, List.cons_append, List.nil_append]
            have n13 : ¬ (K = 1 ∨ K = 3) := fun z => z.elim e1 e3
            refine AW.b rfl (fun hc => ?_) (fun hc => ?_)
            · have e2 : K = 2 := (nI_eq (b := 2) (by omega) (by decide)).mp hc
              repeat refine AW.s rfl ?_
              try dsimp only [List.set_cons_zero, List.set_cons_succ, Option.toList_some, Option.toList_none, List.cons_append, List.nil_append]
              exact AW.ri rfl rfl rfl ⟨by unfold mhV; rw [if_neg n13, if_pos e2], hf⟩
            · have e2 : ¬ K = 2 := fun q => hc (by rw [q]; rfl)
              repeat refine AW.s rfl ?_
              try dsimp only [List.set_cons_zero, List.set_cons_succ, Option.toList_some, Option.toList_none, List.cons_append, List.nil_append]
              refine AW.c rfl (vp_in_nI (by omega) (by decide)) ?_
              try dsimp only [List.set_cons_zero, List.set_cons_succ, Option.toList_some, Option.toList_none, List.cons_append, List.nil_append]
              rw [nI_clamp (by omega), qk]
              repeat refine AW.s rfl ?_
              try dsimp only [List.set_cons_zero, List.set_cons_succ, Option.toList_some, Option.toList_none, List.cons_append, List.nil_append]
              refine AW.b rfl (fun hc => ?_) (fun hc => ?_)
              · have e5 : K = 5 := (nI_eq (b := 5) (by omega) (by decide)).mp hc
                repeat refine AW.s rfl ?_
                try dsimp only [List.set_cons_zero, List.set_cons_succ, Option.toList_some, Option.toList_none, List.cons_append, List.nil_append]
                refine AW.c rfl (vp_in_nI (by omega) (by decide)) ?_
                try dsimp only [List.set_cons_zero, List.set_cons_succ, Option.toList_some, Option.toList_none, List.cons_append, List.nil_append]
                rw [nI_clamp (by omega), qn]
                repeat refine AW.s rfl ?_
                try dsimp only [List.set_cons_zero, List.set_cons_succ, Option.toList_some, Option.toList_none, List.cons_append, List.nil_append]
                exact AW.ri rfl rfl rfl ⟨by unfold mhV; rw [if_neg n13, if_neg e2, if_pos e5], hf⟩
              · have e5 : ¬ K = 5 := fun q => hc (by rw [q]; rfl)
                repeat refine AW.s rfl ?_
                try dsimp only [List.set_cons_zero, List.set_cons_succ, Option.toList_some, Option.toList_none, List.cons_append, List.nil_append]
                exact AW.ri rfl rfl rfl ⟨by unfold mhV; rw [if_neg n13, if_neg e2, if_neg e5], hf⟩
theorem i32_asub (a b c : Int32) : a + (b - c) = a + b - c := by
  apply Int32.toBitVec_inj.1
  show a.toBitVec + (b.toBitVec - c.toBitVec) = a.toBitVec + b.toBitVec - c.toBitVec
  rw [BitVec.sub_eq_add_neg, BitVec.sub_eq_add_neg, BitVec.add_assoc]
theorem i32_sub0 (a : Int32) : a - 0 = a := by
  apply Int32.toBitVec_inj.1
  show a.toBitVec - 0#32 = a.toBitVec
  simp
theorem c_MworthNow {l : Launch} {X : XT} {d : Nat} {m : Mem} {σ : Sg} {css : Nat → List Int32} (hd : 5 ≤ d) (hs : RepM m σ) (hσ : WF σ) (hc0 : ∀ p, p < 3 → MOK m (3 * σ 0 4 + p) (css p)) : Meth l X d M_X11_worthNow [vR 12 243] m (fun r m' => r = some (vI (worthW σ (rowL σ) (σ 0 1) (saidS σ (rowL σ)) (fun p F => clI (mvl F (css p))) (σ 0 1))) ∧ FrW m m' ∧ ∀ w, w < σ 0 1 → RMs m' w (saidS σ (rowL σ) w)) := by
  obtain ⟨d, rfl⟩ : ∃ e, d = e + 1 := ⟨d - 1, by omega⟩
  have h8 := hσ.2.1
  have hwf : ∀ w, w < σ 0 1 → WFo (saidS σ (rowL σ) w) := fun w hw => saidS_wf hσ (rowL_wf hσ) hw
  refine E_X11_worthNow (ls := [vR 12 243, vU, vU, vU]) rfl rfl ?_
  repeat refine AW.s rfl ?_
  try dsimp only [List.set_cons_zero, List.set_cons_succ, Option.toList_some, Option.toList_none, List.cons_append, List.nil_append]
  refine AW.V k_11_252 ((c_MsayAll (by omega) hs hσ)) rfl rfl rfl rfl rfl rfl (fun r1 m1 hq => ?_)
  obtain ⟨rfl, p1, p2⟩ := hq
  repeat refine AW.s rfl ?_
  try dsimp only [List.set_cons_zero, List.set_cons_succ, Option.toList_some, Option.toList_none, List.cons_append, List.nil_append]
  refine AW.V k_11_255 ((c_Malike (by omega) h8 (by rw [p2.2 1 (by decide)]; exact hs.2.1) p1 hwf)) rfl rfl rfl rfl rfl rfl (fun r1 m2 hq => ?_)
  obtain ⟨al, rfl, hal, hm2⟩ := hq
  rw [hm2]
  generalize hfS : saidS σ (rowL σ) = f at *
  generalize hτ : (fun (p : Nat) (F : Nat → Int32) => clI (mvl F (css p))) = τ at *
  have hτe : ∀ p F, τ p F = clI (mvl F (css p)) := fun p F => by rw [← hτ]
  repeat refine AW.u 13 rfl rfl ?_
  try dsimp only [List.set_cons_zero, List.set_cons_succ, Option.toList_some, Option.toList_none, List.cons_append, List.nil_append]
  refine AW.loop (pc := 13) (σ := Unit) (σ 0 1) (fun i _ => [vR 12 243, vI al, vI (worthW σ (rowL σ) (σ 0 1) f τ i), vI (nI i)]) (fun i _ m3 => ∀ a, a ≠ 258 → a ≠ 259 → m3 a = m1 a) (fun i _ m3 hi hf ih => ?_) 0 () m1 (Nat.zero_le _) (fun _ _ _ => rfl)
  have hfw : FrW m m3 := p2.W.tr ⟨fun a _ h2 h3 _ _ _ _ => hf a h2 h3, fun k _ => by rw [hf 243 (by decide) (by decide)]⟩
  have hs3 : RepM m3 σ := hs.W hfw
  have hr3 : ∀ w, w < σ 0 1 → RMs m3 w (f w) := fun w hw => (p1 w hw).fr (hwf w hw) (by rw [hf 261 (by decide) (by decide)]) (fun k _ => by rw [hf 260 (by decide) (by decide)])
  have hm3 : ∀ p, p < 3 → MOK m3 (3 * σ 0 4 + p) (css p) := fun p hp => (hc0 p hp).fr (hfw.1 252 (by decide) (by decide) (by decide) (by decide) (by decide) (by decide) (by decide)) (hfw.1 253 (by decide) (by decide) (by decide) (by decide) (by decide) (by decide) (by decide))
  repeat refine AW.s rfl ?_
  try dsimp only [List.set_cons_zero, List.set_cons_succ, Option.toList_some, Option.toList_none, List.cons_append, List.nil_append]
  rw [hs3.2.1]
  refine AW.b rfl (fun hc => ?_) (fun hc => ?_)
  · have hlt : i < σ 0 1 := (nI_ltI (by omega) (by omega)).mp hc
    repeat refine AW.s rfl ?_
    try dsimp only [List.set_cons_zero, List.set_cons_succ, Option.toList_some, Option.toList_none, List.cons_append, List.nil_append]
    refine AW.c rfl (vp_in_nI (by omega) (by decide)) ?_
    try dsimp only [List.set_cons_zero, List.set_cons_succ, Option.toList_some, Option.toList_none, List.cons_append, List.nil_append]
    rw [nI_clamp (by omega)]
    repeat refine AW.s rfl ?_
    try dsimp only [List.set_cons_zero, List.set_cons_succ, Option.toList_some, Option.toList_none, List.cons_append, List.nil_append]
    have hri := hr3 i hlt
    have hwi := hwf i hlt
    cases hfi : f i with
    | none =>
      rw [hfi] at hri
      rw [show m3 (243 + 18) i = -3 from hri]
      refine AW.b rfl (fun hc => ?_) (fun hc => ?_)
      · repeat refine AW.u 13 rfl rfl ?_
        try dsimp only [List.set_cons_zero, List.set_cons_succ, Option.toList_some, Option.toList_none, List.cons_append, List.nil_append]
        rw [nI_1, ← worthW_none hfi]
        exact ih () _ hlt hf
      · exact absurd rfl hc
    | some xs =>
      rw [hfi] at hri hwi
      obtain ⟨g1, g2, g3⟩ := hwi xs rfl
      have hws := worthW_some (σ := σ) (rw := rowL σ) (n := σ 0 1) (τ := τ) hfi
      rw [show m3 (243 + 18) i = nI xs.length from hri.1]
      refine AW.b rfl (fun hc => ?_) (fun hc => ?_)
      · have h9 := congrArg Int32.toInt hc
        rw [nI_toInt (by omega)] at h9
        have : (-3 : Int32).toInt = -3 := rfl
        omega
      · repeat refine AW.s rfl ?_
        try dsimp only [List.set_cons_zero, List.set_cons_succ, Option.toList_some, Option.toList_none, List.cons_append, List.nil_append]
        refine AW.V k_11_249 ((c_Msays (p := 1) (by omega) hs3 hσ (by decide) hlt hri hwi (hm3 1 (by decide)))) rfl rfl rfl rfl rfl rfl (fun r1 m4 hq => ?_)
        obtain ⟨rfl, hf4⟩ := hq
        repeat refine AW.s rfl ?_
        try dsimp only [List.set_cons_zero, List.set_cons_succ, Option.toList_some, Option.toList_none, List.cons_append, List.nil_append]
        have fw4 : FrW m3 m4 := ⟨fun a _ h2 h3 _ _ _ _ => hf4 a h2 h3, fun k _ => by rw [hf4 243 (by decide) (by decide)]⟩
        have hri4 : RMs m4 i (some xs) := hri.fr hwi (by rw [hf4 261 (by decide) (by decide)]) (fun k _ => by rw [hf4 260 (by decide) (by decide)])
        refine AW.V k_11_259 ((c_MhardOf (cs := css 0) (by omega) (hs3.W fw4) hσ hlt hri4 hwi ((hm3 0 (by decide)).fr (hf4 252 (by decide) (by decide)) (hf4 253 (by decide) (by decide))))) rfl rfl rfl rfl rfl rfl (fun r1 m5 hq => ?_)
        obtain ⟨rfl, hf5⟩ := hq
        repeat refine AW.s rfl ?_
        try dsimp only [List.set_cons_zero, List.set_cons_succ, Option.toList_some, Option.toList_none, List.cons_append, List.nil_append]
        rw [← hτe, ← hτe]
        have hal2 := hal.getS (k := i) (by omega)
        have hb := alB_iff (f := f) hlt
        have fw5 : FrW m3 m5 := fw4.tr ⟨fun a _ h2 h3 _ _ _ _ => hf5 a h2 h3, fun k _ => by rw [hf5 243 (by decide) (by decide)]⟩
        have hri5 : RMs m5 i (some xs) := hri4.fr hwi (by rw [hf5 261 (by decide) (by decide)]) (fun k _ => by rw [hf5 260 (by decide) (by decide)])
        by_cases hai : alB (σ 0 1) f i = true
        · rw [hal2.1 (hb.mp hai)]
          rw [if_pos hai] at hws
          refine AW.b rfl (fun hc => ?_) (fun hc => ?_)
          · repeat refine AW.s rfl ?_
            try dsimp only [List.set_cons_zero, List.set_cons_succ, Option.toList_some, Option.toList_none, List.cons_append, List.nil_append]
            refine AW.V k_11_249 ((c_Msays (p := 2) (by omega) (hs3.W fw5) hσ (by decide) hlt hri5 hwi ((hm3 2 (by decide)).fr (by rw [hf5 252 (by decide) (by decide), hf4 252 (by decide) (by decide)]) (by rw [hf5 253 (by decide) (by decide), hf4 253 (by decide) (by decide)])))) rfl rfl rfl rfl rfl rfl (fun r1 m6 hq => ?_)
            obtain ⟨rfl, hf6⟩ := hq
            rw [← hτe]
            repeat refine AW.u 13 rfl rfl ?_
            try dsimp only [List.set_cons_zero, List.set_cons_succ, Option.toList_some, Option.toList_none, List.cons_append, List.nil_append]
            rw [nI_1, i32_asub, ← hws]
            exact ih () _ hlt (fun a h1 h2 => by rw [hf6 a h1 h2, hf5 a h1 h2, hf4 a h1 h2]; exact hf a h1 h2)
          · exact absurd rfl hc
        · rw [hal2.2 (fun q => hai (hb.mpr q))]
          rw [if_neg hai] at hws
          refine AW.b rfl (fun hc => ?_) (fun hc => ?_)
          · exact absurd hc (by decide)
          · repeat refine AW.u 13 rfl rfl ?_
            try dsimp only [List.set_cons_zero, List.set_cons_succ, Option.toList_some, Option.toList_none, List.cons_append, List.nil_append]
            rw [nI_1, i32_sub0, ← hws]
            exact ih () _ hlt (fun a h1 h2 => by rw [hf5 a h1 h2, hf4 a h1 h2]; exact hf a h1 h2)
  · have : i = σ 0 1 := by
      have : ¬ i < σ 0 1 := fun q => hc ((nI_ltI (by omega) (by omega)).mpr q)
      omega
    subst this
    repeat refine AW.s rfl ?_
    try dsimp only [List.set_cons_zero, List.set_cons_succ, Option.toList_some, Option.toList_none, List.cons_append, List.nil_append]
    exact AW.ri rfl rfl rfl ⟨rfl, hfw, hr3⟩

-- ===== State's constructor =====
theorem arrV_ext {cA : ClassId} {n : Nat} {f g : Nat → Value} (h : ∀ j, j < n → f j = g j) : arrV cA n f = arrV cA n g := by
  unfold arrV
  congr 1
  apply Array.ext
  · simp
  · intro i h1 h2
    simp only [Array.getElem_ofFn]
    exact h i (by simpa using h1)
section
variable {l : Launch} {X : XT} {R : Room} {μ : MI} {Z : List Frame → Array Value → State → State → Prop} {pc np tg : Nat} {lit : Int32} {ls r : List AV} {L : List CE} {cs ss : Nat}
def grL (n : Nat) : List CE := .inr (24, 8, .inr ((List.range 8).map (fun j => some (n + 1 + j)))) :: List.replicate 8 (.inr (0, 10, .inl []))
theorem bw_multi (hf : μ.2.2.2.2.2.lookup pc = some (.multianewarray 16 2, np, tg, lit)) (ho : μ.2.2.2.2.1 = 7) (hc : cs + 9 ≤ R.cells) (hs : ss + 88 ≤ R.slots) (k : BW l X R μ Z np ls (vR 24 L.length :: r) (L ++ grL L.length) (cs + 9) (ss + 88)) : BW l X R μ Z pc ls (vI 10 :: vI 8 :: r) L cs ss := by
  intro hl p e s mid args below meth c C H locs la hP hz hcs hS hL
  obtain ⟨hx, hb, -, -, hown, hts, -, hKB, -, hbs, hok⟩ := id C
  obtain ⟨hd, hn⟩ := fetch_1 hok hf rfl
  have hn : np = pc + 4 := hn
  subst hn
  obtain ⟨hK, -, -, kA, hkA, hkindA⟩ := hKB
  have hnA : s.vm.findClass "[[I" = some (xc X 24) := (hK.2 7 _ rfl).2
  obtain ⟨-, kI, hkI, c0, hkindI⟩ := (hK.2 0 _ rfl).1 0 (fun _ => .null)
  rw [ho] at hown
  refine W_multi hx hb hown (hts (.classLink (Rn 7) 16 "[[I") (GT_in 117 (by decide +kernel) rfl)) hnA hkA hkindA hkI hkindI rfl hd (rest := r.map (cv X)) rfl hc hs (fun H1 locs1 hlo z1 o1 e1 e2 => ?_)
  have hlen : (L ++ grL L.length).length = L.length + 9 := by
    rw [List.length_append]
    rfl
  have hP1 : va_P (xD X) vwCl (wsL X (L ++ grL L.length)) H1 := by
    intro j q hq
    obtain ⟨d, hd, rfl⟩ := wsL_inv hq
    by_cases hj : j < L.length
    · rw [List.getElem?_append_left hj] at hd
      have h1 := wsL_get (X := X) hd
      refine (hP j _ h1).kept (o1 _ ?_)
      have := wsL_lt h1
      rw [hz]
      exact this
    · have hj9 := (List.getElem?_eq_some_iff.mp hd).1
      rw [hlen] at hj9
      rw [List.getElem?_append_right (by omega)] at hd
      by_cases hj0 : j = L.length
      · subst hj0
        rw [Nat.sub_self] at hd
        cases hd
        show H1[xb X + L.length]? = some (vp_cell _ _)
        rw [← hz, e1, vp_cell_q]
        refine congrArg some (arrV_ext (fun i hi => ?_))
        unfold grF refF
        rw [if_pos hi, List.getD_eq_getElem?_getD, List.getElem?_map, List.getElem?_range hi, hz]
        show Value.ref (xb X + L.length + 1 + i) = Value.ref (xb X + (L.length + 1 + i))
        rw [show xb X + L.length + 1 + i = xb X + (L.length + 1 + i) by omega]
      · obtain ⟨i, hi⟩ : ∃ i, j - L.length = i + 1 := ⟨j - L.length - 1, by omega⟩
        rw [hi] at hd
        have hd : (List.replicate 8 (.inr (0, 10, .inl [])) : List CE)[i]? = some d := hd
        rw [List.getElem?_replicate] at hd
        split at hd
        · rename_i hi8
          cases hd
          show H1[xb X + j]? = some (vp_cell _ _)
          have e3 := e2 i hi8
          rw [show H.size + 1 + i = xb X + j by omega] at e3
          rw [e3]
          rfl
        · cases hd
  have hk := k hl p e s mid args below meth c C H1 locs1 la hP1 (by rw [hlen, z1, hz]; omega) (by rw [hlen]; omega) ⟨Nat.le_trans hS.1 (by omega), fun x h1 h2 => (o1 x (by have := hS.1; omega)).trans (hS.2.1 x h1 h2), fun q hq => by
    rcases hlo q hq with z | z
    · exact hS.2.2 q z
    · show xb X ≤ q.base
      rw [z, hz]
      exact Nat.le_add_right _ _⟩ hL
  have e5 : (vR 24 L.length :: r).map (cv X) = Value.ref H.size :: r.map (cv X) := by rw [List.map_cons, ref_in rfl, hz]
  show W _ _ _ _ _ _ _ _ _ _ _ _ _ _ _ (F0 mid (pc + 4) la (Value.ref H.size :: r.map (cv X)))
  rw [← e5]
  exact hk
end
theorem ctF_7 : ctF 7 := ⟨ok_X7_init, by decide +kernel, rfl, rfl, by decide, by decide, rfl⟩
def stL : List CE := [.inl (7, [some (.inl 1065233), none, none, none, some (.inl 0), none, none, none, some (.inl 0), none, some (.inl 0)])]
theorem ct_7 {l : Launch} (hlv : ∀ c, c < 12 → c ≠ 10 → LVL c + 1 ≤ 1 → CtorOK l c) : CtorOK l 7 := by
  refine ctor_enter ctF_7 (fun X => ?_)
  refine BW.run (R := rmB 7) (μ := MIc 7) (lv := 1) hlv (by decide) (by decide +kernel) 8 (0, ent (MIc 7).2.2.1 [vR (7 + 1) 0], [], [.inl (7, dfl 7)], 0, 0) (15, [vR 8 0], [vI 10, vI 8, vR 8 0], stL, 0, 0) (bsB_eq (by decide +kernel)) ?_
  refine bw_multi (np := 19) rfl rfl (by decide +kernel) (by decide +kernel) ?_
  exact BW.run (R := rmB 7) (μ := MIc 7) (lv := 1) hlv (by decide) (by decide +kernel) 26 (19, [vR 8 0], vR 24 stL.length :: [vR 8 0], stL ++ grL stL.length, 0 + 9, 0 + 88) (73, [vR 8 0], [], CTL 7, CTC 7, CTZ 7) (bsB_eq (by decide +kernel)) (BW.rv rfl rfl)
theorem ctL_1 {l : Launch} : ∀ c, c < 12 → c ≠ 10 → LVL c + 1 ≤ 1 → CtorOK l c := by
  intro c hc h10 hl
  rcases (show c = 0 ∨ c = 1 ∨ c = 2 ∨ c = 3 ∨ c = 4 ∨ c = 5 ∨ c = 6 ∨ c = 7 ∨ c = 8 ∨ c = 9 ∨ c = 11 by omega) with rfl | rfl | rfl | rfl | rfl | rfl | rfl | rfl | rfl | rfl | rfl
  · exact ct_0
  · exact absurd hl (by decide +kernel)
  · exact ct_2
  · exact ct_3
  · exact ct_4
  · exact absurd hl (by decide +kernel)
  · exact ct_6
  · exact absurd hl (by decide +kernel)
  · exact ct_8
  · exact ct_9
  · exact ct_11
theorem ctL_2 {l : Launch} : ∀ c, c < 12 → c ≠ 10 → LVL c + 1 ≤ 2 → CtorOK l c := by
  intro c hc h10 hl
  rcases (show c = 0 ∨ c = 1 ∨ c = 2 ∨ c = 3 ∨ c = 4 ∨ c = 5 ∨ c = 6 ∨ c = 7 ∨ c = 8 ∨ c = 9 ∨ c = 11 by omega) with rfl | rfl | rfl | rfl | rfl | rfl | rfl | rfl | rfl | rfl | rfl
  · exact ct_0
  · exact absurd hl (by decide +kernel)
  · exact ct_2
  · exact ct_3
  · exact ct_4
  · exact ct_5 ctL_1
  · exact ct_6
  · exact ct_7 ctL_1
  · exact ct_8
  · exact ct_9
  · exact ct_11
theorem ctL_3 {l : Launch} : ∀ c, c < 12 → c ≠ 10 → LVL c + 1 ≤ 3 → CtorOK l c := by
  intro c hc h10 hl
  rcases (show c = 0 ∨ c = 1 ∨ c = 2 ∨ c = 3 ∨ c = 4 ∨ c = 5 ∨ c = 6 ∨ c = 7 ∨ c = 8 ∨ c = 9 ∨ c = 11 by omega) with rfl | rfl | rfl | rfl | rfl | rfl | rfl | rfl | rfl | rfl | rfl
  · exact ct_0
  · exact ct_1 ctL_2
  · exact ct_2
  · exact ct_3
  · exact ct_4
  · exact ct_5 ctL_1
  · exact ct_6
  · exact ct_7 ctL_1
  · exact ct_8
  · exact ct_9
  · exact ct_11

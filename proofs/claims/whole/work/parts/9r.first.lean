-- ===== the first law: what it tells =====
theorem prt_run {key : Int32} {ts r : List TK} {cs : List Int32} (hk1 : hk ts = key) (hl : ts.tail.length ≤ 161) (hN : NOk ts) (h : runM ts.tail.length true true [] [] 0 0 (fun _ => false) ts.tail = (some cs, r)) : ∃ e, prtP key ts = (some e, r.tail) ∧ CDS cs [] e := by
  obtain ⟨h1, h2⟩ := runM_E (ts := ts.tail) (c := fun _ => false) (Nat.le_refl _) hl hN.tl rfl
  cases he : eP (pk 5).2 ts.tail with
  | mk a r' =>
    cases a with
    | none =>
      have := h1 r' he
      rw [h] at this
      cases this
    | some e =>
      obtain ⟨x1, x2⟩ := h2 e r' he
      by_cases h59 : hk r' = 59
      · obtain ⟨cs', y1, y2⟩ := x2 h59
        rw [h] at y1
        cases y1
        refine ⟨e, ?_, y2⟩
        unfold prtP
        rw [if_pos hk1, he]
        dsimp only
        rw [if_pos h59]
      · have := x1 h59
        rw [h] at this
        cases this
def FT3 : List TK := [(0, 0, 53)]
def FT2 : List TK := (6, 8, 39) :: (3, 5, 45) :: (59, 0, 52) :: FT3
def FT1 : List TK := (5, 7, 21) :: (3, 2, 27) :: (42, 0, 33) :: (2, 5, 35) :: (59, 0, 37) :: FT2
def FT0 : List TK := (4, 6, 0) :: (3, 0, 5) :: (43, 0, 10) :: (3, 1, 12) :: (59, 0, 19) :: FT1
theorem first_tks : tks (fun k => (SBY.getD 0 []).getD k 0) 53 161 0 = FT0 := by decide +kernel
theorem first_by : ∀ k, k < 53 → ∃ b, b < 256 ∧ (SBY.getD 0 []).getD k 0 = nI b := by
  have h : ∀ k, k < 53 → ((SBY.getD 0 []).getD k 0).toNatClampNeg < 256 ∧ (SBY.getD 0 []).getD k 0 = nI ((SBY.getD 0 []).getD k 0).toNatClampNeg := by decide +kernel
  exact fun k hk => ⟨_, h k hk⟩
theorem first_ok : NOk FT0 := by
  rw [← first_tks]
  exact tks_NOk first_by 161 0 (Nat.zero_le _)
theorem first_rd : ∃ a b c, rdP FT0 = (some (a, b, c), FT3) ∧ CDS [0, 1, 15] [] a ∧ CDS [2, -6, 17] [] b ∧ CDS [5] [] c := by
  have n1 : NOk FT1 := fun t ht => first_ok t (List.mem_cons_of_mem _ (List.mem_cons_of_mem _ (List.mem_cons_of_mem _ (List.mem_cons_of_mem _ (List.mem_cons_of_mem _ ht)))))
  have n2 : NOk FT2 := fun t ht => n1 t (List.mem_cons_of_mem _ (List.mem_cons_of_mem _ (List.mem_cons_of_mem _ (List.mem_cons_of_mem _ (List.mem_cons_of_mem _ ht)))))
  obtain ⟨a, ha, ca⟩ := prt_run (key := 4) (ts := FT0) (cs := [0, 1, 15]) (r := (59, 0, 19) :: FT1) rfl (by decide) first_ok (by decide +kernel)
  obtain ⟨b, hb, cb⟩ := prt_run (key := 5) (ts := FT1) (cs := [2, -6, 17]) (r := (59, 0, 37) :: FT2) rfl (by decide) n1 (by decide +kernel)
  obtain ⟨c, hc, cc⟩ := prt_run (key := 6) (ts := FT2) (cs := [5]) (r := (59, 0, 52) :: FT3) rfl (by decide) n2 (by decide +kernel)
  refine ⟨a, b, c, ?_, ca, cb, cc⟩
  rw [rdP_4 ha hb hc]
  exact if_pos rfl

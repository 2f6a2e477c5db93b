-- ===== what the tables and the layout say =====
def fokS (T : u_T) (k : Nat) (q : Nat × Nat) : Bool := match q with
  | (0, 0) => !(T k).2.2.2 && decide (parseFieldDescriptor (T k).2.2.1 = some .int)
  | (0, _) => !(T k).2.2.2 && decide (parseFieldDescriptor (T k).2.2.1 = some .boolean)
  | (t + 1, o) => if o == 9999 then !(T k).2.2.2 && decide (parseFieldDescriptor (T k).2.2.1 = some (.object (Rn t))) else true
def fok (own : Nat) (e : Nat × Nat × Nat × Nat) : Bool := match vwCl[e.2.1 - 1]? with
  | none => false
  | some q => decide (lw_tbl[e.2.2.2]? = some (.fieldLink (Rn own) e.1 (q.2.1 e.2.2.1).1 (q.2.1 e.2.2.1).2.1 (q.2.1 e.2.2.1).2.2.1)) && (decide (e.2.2.1 < q.2.2) && (decide ((shp e.2.1).length = q.2.2) && (decide (0 < e.2.1) && (decide (e.2.1 < 20) && fokS q.2.1 e.2.2.1 ((shp e.2.1).getD e.2.2.1 (0, 0))))))
theorem FTS_ok : (List.range 13).all (fun own => (FTS.getD own []).all (fok own)) = true := by decide +kernel
theorem lookup_in {pr : List (Nat × Nat × Nat × Nat)} {i : Nat} {q : Nat × Nat × Nat} (h : pr.lookup i = some q) : (i, q) ∈ pr := by
  induction pr with
  | nil => simp at h
  | cons a r ih =>
    obtain ⟨a1, a2⟩ := a
    rw [List.lookup_cons] at h
    by_cases e : (i == a1) = true
    · rw [e] at h
      cases h
      have e2 : i = a1 := by simpa using e
      subst e2
      exact List.mem_cons_self
    · have e2 : (i == a1) = false := by simpa using e
      rw [e2] at h
      exact List.mem_cons_of_mem _ (ih h)
theorem ft_ok {own idx t k pos : Nat} (h : ftO own idx = some (t, k, pos)) : ∃ (C : String) (T : u_T) (N : Nat), vwCl[t - 1]? = some (C, T, N) ∧ Cond.fieldLink (Rn own) idx (T k).1 (T k).2.1 (T k).2.2.1 ∈ GT ∧ k < N ∧ (shp t).length = N ∧ 0 < t ∧ t < 20 ∧ fokS T k ((shp t).getD k (0, 0)) = true := by
  unfold ftO at h
  have hown : own < 13 := by
    rcases Nat.lt_or_ge own 13 with q | q
    · exact q
    · have hl : FTS.length = 13 := by decide +kernel
      rw [List.getD_eq_getElem?_getD, List.getElem?_eq_none (by omega)] at h
      simp at h
  have h1 := List.all_eq_true.mp FTS_ok own (List.mem_range.mpr hown)
  have h2 := List.all_eq_true.mp h1 _ (lookup_in h)
  unfold fok at h2
  dsimp only at h2
  cases hc : vwCl[t - 1]? with
  | none => rw [hc] at h2; cases h2
  | some q =>
    obtain ⟨C, T, N⟩ := q
    rw [hc] at h2
    simp only [Bool.and_eq_true, decide_eq_true_eq] at h2
    obtain ⟨g1, g2, g3, g4, g5, g6⟩ := h2
    exact ⟨C, T, N, rfl, GT_in pos g1 rfl, g2, g3, g4, g5, g6⟩
theorem cls_in {ci : Nat} {C : String} {T : u_T} {N : Nat} (h : vwCl[ci]? = some (C, T, N)) : ∀ w ∈ u_ws C T N, w ∈ GT := by
  match ci, h with
  | 0, h => cases h; exact inG0
  | 1, h => cases h; exact inG1
  | 2, h => cases h; exact inG2
  | 3, h => cases h; exact inG3
  | 4, h => cases h; exact inG4
  | 5, h => cases h; exact inG5
  | 6, h => cases h; exact inG6
  | 7, h => cases h; exact inG7
  | 8, h => cases h; exact inG8
  | 9, h => cases h; exact inG9
  | 10, h => cases h; exact inG10
  | 11, h => cases h; exact inG11
  | k + 12, h => simp [vwCl] at h
theorem cls_ty {ci : Nat} {C : String} {T : u_T} {N : Nat} (h : vwCl[ci]? = some (C, T, N)) : ∃ ty0 : Nat → FieldType, (∀ k, k < N → parseFieldDescriptor (T k).2.2.1 = some (ty0 k)) ∧ (∀ a, a < N → ∀ b, b < N → a ≠ b → (T a).2.1 ≠ (T b).2.1) := by
  match ci, h with
  | 0, h => cases h; exact ⟨_, tyX0_ok, nmX0⟩
  | 1, h => cases h; exact ⟨_, tyX1_ok, nmX1⟩
  | 2, h => cases h; exact ⟨_, tyX2_ok, nmX2⟩
  | 3, h => cases h; exact ⟨_, tyX3_ok, nmX3⟩
  | 4, h => cases h; exact ⟨_, tyX4_ok, nmX4⟩
  | 5, h => cases h; exact ⟨_, tyX5_ok, nmX5⟩
  | 6, h => cases h; exact ⟨_, tyX6_ok, nmX6⟩
  | 7, h => cases h; exact ⟨_, tyX7_ok, nmX7⟩
  | 8, h => cases h; exact ⟨_, tyX8_ok, nmX8⟩
  | 9, h => cases h; exact ⟨_, tyX9_ok, nmX9⟩
  | 10, h => cases h; exact ⟨_, tyX10_ok, nmX10⟩
  | 11, h => cases h; exact ⟨_, tyX11_ok, nmX11⟩
  | k + 12, h => simp [vwCl] at h
theorem CTS_ok : CTS.all (fun q => decide (lw_tbl[q.2.2.2]? = some (.constant (Rn q.1) q.2.1 q.2.2.1))) = true := by decide +kernel
theorem LTS_ok : LTS.all (fun q => decide (lw_tbl[q.2.2.2]? = some (.constantLong (Rn q.1) q.2.1 q.2.2.1))) = true := by decide +kernel
theorem ct_ok {own x : Nat} {lit : Int32} (h : CTS.any (fun q => q.1 == own && (q.2.1 == x && q.2.2.1 == lit)) = true) : Cond.constant (Rn own) x lit ∈ GT := by
  obtain ⟨q, hq, h1⟩ := List.any_eq_true.mp h
  simp only [Bool.and_eq_true, beq_iff_eq] at h1
  obtain ⟨rfl, rfl, rfl⟩ := h1
  have h2 := List.all_eq_true.mp CTS_ok q hq
  simp only [decide_eq_true_eq] at h2
  exact GT_in _ h2 rfl
theorem lt_ok {own x : Nat} {e : Nat × Nat × Int64 × Nat} (h : LTS.find? (fun e => e.1 == own && e.2.1 == x) = some e) : Cond.constantLong (Rn own) x e.2.2.1 ∈ GT := by
  have h0 := List.find?_some h
  have h1 := List.mem_of_find?_eq_some h
  simp only [Bool.and_eq_true, beq_iff_eq] at h0
  obtain ⟨rfl, rfl⟩ := h0
  have h2 := List.all_eq_true.mp LTS_ok e h1
  simp only [decide_eq_true_eq] at h2
  exact GT_in _ h2 rfl
-- the layout is closed
def cloB (N : Nat) : Bool := (List.range N).all (fun h => (if layT h < 20 then (shp (layT h)).all (fun q => q.1 == 0 || (q.2 == 9999 || (decide (h + q.2 < N) && layT (h + q.2) == q.1))) else true) &&
  (if layT h < 25 && 20 ≤ layT h then (List.range (rlen (layT h))).all (fun i => decide (h + roff (layT h) + rstr (layT h) * i < N) && layT (h + roff (layT h) + rstr (layT h) * i) == rty (layT h)) else true) && !isX (layT h))
theorem clo1 : cloB NC = true := by decide +kernel
theorem clo2 : cloB NTT = true := by decide +kernel
theorem clo {N : Nat} (h : N = NC ∨ N = NTT) : cloB N = true := by
  rcases h with rfl | rfl
  · exact clo1
  · exact clo2
theorem layT_lt {h : Nat} (g : ¬ layT h = 0) : h < NTT := by
  rcases Nat.lt_or_ge h NTT with q | q
  · exact q
  · exfalso
    apply g
    unfold layT
    rw [List.getD_eq_getElem?_getD, List.getElem?_eq_none]
    · rfl
    · have : LAY.length = NTT := by decide +kernel
      omega
theorem layT_C : (List.range NTT).all (fun h => !(layT h == 9 || layT h == 10) || decide (h < NC)) = true := by decide +kernel
theorem shp_V : SHP.all (fun s => s.all (fun q => !(q.2 == 9999) || (q.1 == 0 || (q.1 == 9 || q.1 == 10)))) = true := by decide +kernel
theorem clo_X {N h : Nat} (hN : N = NC ∨ N = NTT) (hh : h < N) : isX (layT h) = false := by
  have h1 := List.all_eq_true.mp (clo hN) h (List.mem_range.mpr hh)
  simp only [Bool.and_eq_true, Bool.not_eq_true'] at h1
  exact h1.2
theorem clo_f {N h k t2 o : Nat} (hN : N = NC ∨ N = NTT) (hh : h < N) (ht : layT h < 20) (hk : (shp (layT h)).getD k (0, 0) = (t2 + 1, o)) (ho : ¬ o = 9999) : h + o < N ∧ layT (h + o) = t2 + 1 := by
  have h1 := List.all_eq_true.mp (clo hN) h (List.mem_range.mpr hh)
  simp only [Bool.and_eq_true] at h1
  have h2 := h1.1.1
  rw [if_pos ht] at h2
  have hm : (t2 + 1, o) ∈ shp (layT h) := by
    rw [List.getD_eq_getElem?_getD] at hk
    cases hl : (shp (layT h))[k]? with
    | none => rw [hl] at hk; cases hk
    | some q => rw [hl] at hk; have hk : q = (t2 + 1, o) := hk; subst hk; exact List.mem_of_getElem? hl
  have h3 := List.all_eq_true.mp h2 _ hm
  simp only [Bool.or_eq_true, Bool.and_eq_true, beq_iff_eq, decide_eq_true_eq] at h3
  rcases h3 with h3 | h3 | h3
  · exact absurd h3 (Nat.succ_ne_zero _)
  · exact absurd h3 ho
  · exact h3
theorem clo_a {N h i : Nat} (hN : N = NC ∨ N = NTT) (hh : h < N) (ht : layT h < 25) (ht2 : 20 ≤ layT h) (hi : i < rlen (layT h)) : h + roff (layT h) + rstr (layT h) * i < N ∧ layT (h + roff (layT h) + rstr (layT h) * i) = rty (layT h) := by
  have h1 := List.all_eq_true.mp (clo hN) h (List.mem_range.mpr hh)
  simp only [Bool.and_eq_true] at h1
  have h2 := h1.1.2
  rw [if_pos (by simp [ht, ht2])] at h2
  have h3 := List.all_eq_true.mp h2 _ (List.mem_range.mpr hi)
  simp only [Bool.and_eq_true, beq_iff_eq, decide_eq_true_eq] at h3
  exact h3
theorem clo_v {N t k t2 o h : Nat} (hN : N = NC ∨ N = NTT) (hk : (shp t).getD k (0, 0) = (t2 + 1, o)) (ho : o = 9999) (hl : layT h = t2 + 1) : h < N ∧ isX (t2 + 1) = false := by
  have hm : (t2 + 1, o) ∈ shp t := by
    rw [List.getD_eq_getElem?_getD] at hk
    cases hl : (shp t)[k]? with
    | none => rw [hl] at hk; cases hk
    | some q => rw [hl] at hk; have hk : q = (t2 + 1, o) := hk; subst hk; exact List.mem_of_getElem? hl
  have hs : shp t ∈ SHP := by
    unfold shp at hm ⊢
    rw [List.getD_eq_getElem?_getD] at hm ⊢
    cases hl : SHP[t]? with
    | none => rw [hl] at hm; simp at hm
    | some q => exact List.mem_of_getElem? hl
  have h1 := List.all_eq_true.mp (List.all_eq_true.mp shp_V _ hs) _ hm
  simp only [Bool.or_eq_true, Bool.not_eq_true', beq_iff_eq] at h1
  have h9 : t2 + 1 = 9 ∨ t2 + 1 = 10 := by
    rcases h1 with h1 | h1 | h1
    · subst ho; cases h1
    · exact absurd h1 (Nat.succ_ne_zero _)
    · exact h1
  have hlt : h < NTT := layT_lt (by rw [hl]; exact Nat.succ_ne_zero _)
  have h2 := List.all_eq_true.mp layT_C h (List.mem_range.mpr hlt)
  simp only [Bool.or_eq_true, Bool.not_eq_true', decide_eq_true_eq] at h2
  have h3 : h < NC := by
    rcases h2 with h2 | h2
    · rw [hl] at h2
      rcases h9 with q | q <;> rw [q] at h2 <;> cases h2
    · exact h2
  refine ⟨?_, ?_⟩
  · rcases hN with rfl | rfl
    · exact h3
    · exact hlt
  · rcases h9 with q | q <;> rw [q] <;> rfl
theorem clo_v0 {t k t2 o h : Nat} (hk : (shp t).getD k (0, 0) = (t2 + 1, o)) (ho : o = 9999) (hl : layT h = t2 + 1) : h ≠ 0 := by
  have hm : (t2 + 1, o) ∈ shp t := by
    rw [List.getD_eq_getElem?_getD] at hk
    cases hl : (shp t)[k]? with
    | none => rw [hl] at hk; cases hk
    | some q => rw [hl] at hk; have hk : q = (t2 + 1, o) := hk; subst hk; exact List.mem_of_getElem? hl
  have hs : shp t ∈ SHP := by
    unfold shp at hm ⊢
    rw [List.getD_eq_getElem?_getD] at hm ⊢
    cases hl : SHP[t]? with
    | none => rw [hl] at hm; simp at hm
    | some q => exact List.mem_of_getElem? hl
  have h1 := List.all_eq_true.mp (List.all_eq_true.mp shp_V _ hs) _ hm
  simp only [Bool.or_eq_true, Bool.not_eq_true', beq_iff_eq] at h1
  have h9 : t2 + 1 = 9 ∨ t2 + 1 = 10 := by
    rcases h1 with h1 | h1 | h1
    · subst ho; cases h1
    · exact absurd h1 (Nat.succ_ne_zero _)
    · exact h1
  intro z
  rw [z, show layT 0 = 11 by decide +kernel] at hl
  omega
-- the cells
theorem fs_get {X : XT} {m : Mem} {h t k : Nat} (hk : k < (shp t).length) : (fsOf X m h t)[k]? = some (slotV X m h k ((shp t).getD k (0, 0))) := by
  simp [fsOf, List.getElem?_range hk]
theorem fs_len {X : XT} {m : Mem} {h t : Nat} : (fsOf X m h t).length = (shp t).length := by simp [fsOf]
theorem fs_up {X : XT} {m : Mem} {h t k : Nat} {x : Int32} : fsOf X (mUp m h k x) h t = (fsOf X m h t).set k (slotV X (mUp m h k x) h k ((shp t).getD k (0, 0))) := by
  apply List.ext_getElem?
  intro j
  by_cases hj : j < (shp t).length
  · rw [fs_get hj, List.getElem?_set]
    by_cases e : k = j
    · subst e
      rw [if_pos rfl, if_pos (by rw [fs_len]; exact hj)]
    · rw [if_neg e, fs_get hj]
      have e2 : mUp m h k x h j = m h j := mUp_n (Or.inr (fun q => e q.symm))
      unfold slotV
      rw [e2]
  · rw [List.getElem?_eq_none (by rw [fs_len]; omega), List.getElem?_eq_none (by rw [List.length_set, fs_len]; omega)]
theorem cel_o {X : XT} {m : Mem} {h t : Nat} (hl : layT h = t) (ht : t < 20) : celE X m h = .inr (t - 1, fsOf X m h t) := by
  subst hl
  unfold celE
  rw [if_pos ht]
theorem cel_r {X : XT} {m : Mem} {h t : Nat} (hl : layT h = t) (h1 : 20 ≤ t) (h2 : t < 25) : celE X m h = .inl (xc X t, rlen t, .inr (.inr (.inr (.inr (fun i => some (xb X + (h + roff t + rstr t * i))))))) := by
  subst hl
  unfold celE
  rw [if_neg (by omega), if_pos (by omega)]
theorem cel_i {X : XT} {m : Mem} {h t : Nat} (hl : layT h = t) (h1 : 1000 ≤ t) (h2 : t < 4000) : celE X m h = .inl (xc X 0, t - 1000, .inl (m h)) := by
  subst hl
  unfold celE
  rw [if_neg (by omega), if_neg (by omega), if_pos h2]
theorem cel_z {X : XT} {m : Mem} {h t : Nat} (hl : layT h = t) (h1 : 4000 ≤ t) (h2 : t < 5000) : celE X m h = .inl (xc X 1, t - 4000, .inl (m h)) := by
  subst hl
  unfold celE
  rw [if_neg (by omega), if_neg (by omega), if_neg (by omega), if_pos h2]
theorem cel_c {X : XT} {m : Mem} {h t : Nat} (hl : layT h = t) (h1 : 5000 ≤ t) : celE X m h = .inl (xc X 2, t - 5000, .inl (m h)) := by
  subst hl
  unfold celE
  rw [if_neg (by omega), if_neg (by omega), if_neg (by omega), if_neg (by omega)]

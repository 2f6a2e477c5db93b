-- ===== made cells are the world's =====
def ceM (c : CE) : Nat → Int32 := match c with
  | .inl q => fun k => match q.2.getD k none with
    | some (.inl x) => x
    | _ => 0
  | .inr (_, _, .inl u) => upsF u
  | .inr (_, _, .inr _) => fun _ => 0
def okFd (h : Nat) (v : RV) (q : Nat × Nat) : Bool := match v, q with
  | some (.inl _), (0, _) => true
  | none, (_ + 1, o) => o == 9999
  | some (.inr i), (_ + 1, o) => !(o == 9999) && i == h + o
  | _, _ => false
def okCel (h : Nat) (c : CE) : Bool := match c with
  | .inl (ci, fs) => layT h == ci + 1 && (Nat.blt (ci + 1) 20 && (fs.length == (shp (ci + 1)).length && (List.range fs.length).all (fun k => okFd h (fs.getD k none) ((shp (ci + 1)).getD k (0, 0)))))
  | .inr (k, n, .inl _) => (k == 0 && (layT h == 1000 + n && Nat.blt n 3000)) || ((k == 1 && (layT h == 4000 + n && Nat.blt n 1000)) || (k == 2 && layT h == 5000 + n))
  | .inr (t, n, .inr l) => layT h == t && (Nat.ble 20 t && (Nat.blt t 25 && (n == rlen t && (List.range n).all (fun i => l.getD i none == some (h + roff t + rstr t * i)))))
theorem okCel_at {X : XT} {m : Mem} {h a : Nat} {c : CE} {H : Heap} (ok : okCel h c = true) (hm : m h = ceM c) (hv : va_at (xD X) vwCl (a, rcE X c) H) : va_at (xD X) vwCl (a, celE X m h) H := by
  rcases c with ⟨ci, fs⟩ | ⟨k, n, u | lr⟩
  · simp only [okCel, Bool.and_eq_true, beq_iff_eq] at ok
    obtain ⟨o1, o2, o3, o4⟩ := ok
    have o2 : ci + 1 < 20 := by simpa [Nat.blt_eq] using o2
    have e : celE X m h = rcE X (.inl (ci, fs)) := by
      unfold celE
      rw [o1, if_pos o2]
      show (.inr (ci + 1 - 1, fsOf X m h (ci + 1)) : va_E) = .inr (ci, fs.map (rvV X))
      rw [Nat.add_sub_cancel]
      refine congrArg (fun q => (.inr (ci, q) : va_E)) ?_
      apply List.ext_getElem?
      intro j
      by_cases hj : j < fs.length
      · rw [fs_get (by omega), List.getElem?_map, List.getElem?_eq_getElem hj]
        refine congrArg some ?_
        have h1 := List.all_eq_true.mp o4 j (List.mem_range.mpr hj)
        have hmj : m h j = ceM (.inl (ci, fs)) j := by rw [hm]
        have hg : fs.getD j none = fs[j] := by rw [List.getD_eq_getElem?_getD, List.getElem?_eq_getElem hj]; rfl
        have hmj : m h j = (match fs.getD j none with | some (.inl x) => x | _ => 0) := hmj
        rw [hg] at h1 hmj
        generalize fs[j] = v at h1 hmj
        generalize (shp (ci + 1)).getD j (0, 0) = q at h1
        obtain ⟨q1, q2⟩ := q
        rcases v with _ | x | i
        · cases q1 with
          | zero => cases h1
          | succ q1 =>
            have h1 : q2 = 9999 := by simpa [okFd] using h1
            unfold slotV
            rw [if_neg (Nat.succ_ne_zero _), if_pos h1, hmj]
            rfl
        · cases q1 with
          | zero =>
            unfold slotV
            rw [if_pos rfl, hmj]
            rfl
          | succ q1 => cases h1
        · cases q1 with
          | zero => cases h1
          | succ q1 =>
            simp only [okFd, Bool.and_eq_true, Bool.not_eq_true', beq_eq_false_iff_ne, beq_iff_eq] at h1
            unfold slotV
            rw [if_neg (Nat.succ_ne_zero _), if_neg h1.1, h1.2]
            rfl
      · rw [List.getElem?_eq_none (by rw [fs_len]; omega), List.getElem?_eq_none (by rw [List.length_map]; omega)]
    rw [e]
    exact hv
  · simp only [okCel, Bool.or_eq_true, Bool.and_eq_true, beq_iff_eq] at ok
    have hm : m h = upsF u := hm
    have e : celE X m h = rcE X (.inr (k, n, .inl u)) := by
      unfold celE
      rcases ok with ⟨rfl, o1, o2⟩ | ⟨rfl, o1, o2⟩ | ⟨rfl, o1⟩
      · have o2 : n < 3000 := by simpa [Nat.blt_eq] using o2
        rw [o1, if_neg (by omega), if_neg (by omega), if_pos (by omega), Nat.add_sub_cancel_left, hm]
        rfl
      · have o2 : n < 1000 := by simpa [Nat.blt_eq] using o2
        rw [o1, if_neg (by omega), if_neg (by omega), if_neg (by omega), if_pos (by omega), Nat.add_sub_cancel_left, hm]
        rfl
      · rw [o1, if_neg (by omega), if_neg (by omega), if_neg (by omega), if_neg (by omega), Nat.add_sub_cancel_left, hm]
        rfl
    rw [e]
    exact hv
  · simp only [okCel, Bool.and_eq_true, beq_iff_eq] at ok
    obtain ⟨o1, o2, o3, o4, o5⟩ := ok
    have o2 := Nat.le_of_ble_eq_true o2
    have o3 : k < 25 := by simpa [Nat.blt_eq] using o3
    have hv : H[a]? = some (vp_cell (xc X k) (n, .inr (.inr (.inr (.inr (refF X lr)))))) := hv
    unfold celE
    rw [o1, if_neg (by omega), if_pos (by omega)]
    show H[a]? = some (vp_cell (xc X k) _)
    rw [hv, vp_cell_q, vp_cell_q]
    subst o4
    refine congrArg some (arrV_ext (fun i hi => ?_))
    have h1 := List.all_eq_true.mp o5 i (List.mem_range.mpr hi)
    have h1 : lr.getD i none = some (h + roff k + rstr k * i) := by simpa using h1
    unfold refF
    rw [h1]
    rfl
/-- cells in a row, each as the layout has it -/
def okLs : Nat → List CE → Bool
  | _, [] => true
  | h, c :: r => okCel h c && okLs (h + 1) r
theorem okLs_get : ∀ {L : List CE} {h k : Nat} {c : CE}, okLs h L = true → L[k]? = some c → okCel (h + k) c = true
  | c0 :: r, h, 0, c, ok, hk => by
    cases hk
    simp only [okLs, Bool.and_eq_true] at ok
    exact ok.1
  | c0 :: r, h, k + 1, c, ok, hk => by
    simp only [okLs, Bool.and_eq_true] at ok
    have := okLs_get (k := k) ok.2 hk
    rwa [show h + 1 + k = h + (k + 1) by omega] at this
  | [], h, k, c, ok, hk => by cases hk
def ceZ (L : List CE) : Mem := fun h => ceM (L.getD h (.inl (0, [])))
theorem wsL_Of {X : XT} {L : List CE} {H : Heap} (ok : okLs 0 L = true) (hN : xN X = L.length) (hP : va_P (xD X) vwCl (wsL X L) H) : va_P (xD X) vwCl (wsOf X (ceZ L)) H := by
  intro k q hq
  have hk : k < L.length := by
    have := (List.getElem?_eq_some_iff.mp hq).1
    rw [ws_len] at this
    omega
  rw [ws_get X _ (by omega)] at hq
  cases hq
  have hc : L[k]? = some L[k] := List.getElem?_eq_getElem hk
  have h1 := okLs_get ok hc
  rw [Nat.zero_add] at h1
  refine okCel_at h1 ?_ (hP k _ (wsL_get hc))
  show ceM (L.getD k _) = _
  rw [List.getD_eq_getElem?_getD, hc]
  rfl

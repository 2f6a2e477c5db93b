section
variable {l : Launch} {X : XT} {R : Room} {μ : MI} {Z : List Frame → Array Value → State → State → Prop} {pc np tg : Nat} {lit : Int32} {i : Instr} {ls st st' r : List AV} {L : List CE} {cs ss : Nat}
theorem bw_put {idx : Nat} {b' : BS} (hf : μ.2.2.2.2.2.lookup pc = some (.putfield idx, np, tg, lit)) (h : bPut μ.2.2.2.2.1 idx np ls st L cs ss = some b') (k : BW l X R μ Z b'.1 b'.2.1 b'.2.2.1 b'.2.2.2.1 b'.2.2.2.2.1 b'.2.2.2.2.2) : BW l X R μ Z pc ls st L cs ss := by
  unfold bPut at h
  split at h
  · rename_i x t h0 r
    split at h
    · rename_i t' kk pos hft
      split at h
      · rename_i ci fs hLh
        split at h
        · rename_i hr
          cases h
          simp only [Bool.and_eq_true, decide_eq_true_eq, beq_iff_eq] at hr
          obtain ⟨rfl, hci, hkl, hsh⟩ := hr
          intro hl p e s mid args below meth c C H locs la hP hz hcs hS hL
          obtain ⟨hx, hb, -, -, hown, hts, -, hKB, -, hbs, hok⟩ := id C
          obtain ⟨hd, hn⟩ := fetch_1 hok hf rfl
          have hn : np = pc + 3 := hn
          subst hn
          obtain ⟨Cn, T, N, hc, hlk, hkN, hsl, ht0, ht20, hfk⟩ := ft_ok hft
          have e9 : t - 1 = ci := by omega
          rw [e9] at hc
          obtain ⟨ty0, hty0, hnm⟩ := cls_ty hc
          have hgd : (shp t).getD kk (1, 0) = (shp t).getD kk (0, 0) := by
            rw [List.getD_eq_getElem?_getD, List.getD_eq_getElem?_getD, List.getElem?_eq_getElem (by omega)]
            rfl
          rw [← hgd, hsh] at hfk
          simp only [fokS, Bool.and_eq_true, Bool.not_eq_true', decide_eq_true_eq] at hfk
          show W _ _ _ _ _ _ _ _ _ _ _ _ _ _ _ (F0 mid pc la (.int x :: cv X (vR t h0) :: r.map (cv X)))
          rw [ref_in (isX_lt (by omega))]
          refine va_put hx hb hts (cls_in hc) ty0 hty0 hnm hown hKB.1 hP (wsL_D _ _) hS h0 (wsL_get hLh) hc kk hkN (hts _ hlk) (fun _ h9 => h9) hfk.1 (ty := .int) (v := .int x) hfk.2 rfl rfl (by rw [List.length_map]; exact hkl) hd (fun H1 locs1 hP1 hD1 hS1 => ?_)
          have hset : (xb X + h0, (.inr (ci, (fs.map (rvV X)).set kk (.int x)) : va_E)) = (xb X + h0, rcE X (.inl (ci, fs.set kk (some (.inl x))))) := by
            show _ = (xb X + h0, (.inr (ci, (fs.set kk (some (.inl x))).map (rvV X)) : va_E))
            rw [List.map_set]
            rfl
          rw [hset, wsL_set] at hP1
          have hlt := (List.getElem?_eq_some_iff.mp hLh).1
          refine W_size (fun hle => ?_)
          exact k hl p e s mid args below meth c C H1 locs1 la hP1 (hz_of hP1 hle (by rw [List.length_set]; exact hcs) (by rw [List.length_set]; omega)) (by rw [List.length_set]; exact hcs) hS1 hL
        · cases h
      · cases h
    · cases h
  · rename_i t2 h2 t h0 r
    split at h
    · rename_i t' kk pos hft
      split at h
      · rename_i ci fs hLh
        split at h
        · rename_i hr
          cases h
          simp only [Bool.and_eq_true, Bool.not_eq_true', decide_eq_true_eq, beq_iff_eq] at hr
          obtain ⟨rfl, hci, hkl, hxt, hfb⟩ := hr
          intro hl p e s mid args below meth c C H locs la hP hz hcs hS hL
          obtain ⟨hx, hb, -, -, hown, hts, -, hKB, hini, hbs, hok⟩ := id C
          obtain ⟨hd, hn⟩ := fetch_1 hok hf rfl
          have hn : np = pc + 3 := hn
          subst hn
          obtain ⟨Cn, T, N, hc, hlk, hkN, hsl, ht0, ht20, hfk⟩ := ft_ok hft
          unfold finB at hfb
          rw [hc] at hfb
          simp only [Bool.and_eq_true, decide_eq_true_eq] at hfb
          obtain ⟨f1, f2, f3⟩ := hfb
          have e9 : t - 1 = ci := by omega
          rw [e9] at hc
          obtain ⟨ty0, hty0, hnm⟩ := cls_ty hc
          have key : ∃ ty : FieldType, parseFieldDescriptor (T kk).2.2.1 = some ty ∧ narrow ty (.ref (xb X + h2)) = .ref (xb X + h2) ∧ fits ty (.ref (xb X + h2)) = true := by
            unfold isRefD at f3
            split at f3
            · rename_i q hq
              exact ⟨_, hq, rfl, rfl⟩
            · rename_i q hq
              exact ⟨_, hq, rfl, rfl⟩
            · cases f3
          obtain ⟨ty, y1, y2, y3⟩ := key
          show W _ _ _ _ _ _ _ _ _ _ _ _ _ _ _ (F0 mid pc la (cv X (vR t2 h2) :: cv X (vR t h0) :: r.map (cv X)))
          rw [ref_in hxt, ref_in (isX_lt (by omega))]
          refine va_putF hx hb hts (cls_in hc) ty0 hty0 hnm hown hKB.1 hP (wsL_D _ _) hS h0 (wsL_get hLh) hc kk hkN (hts _ hlk) (fun _ h9 => h9) f1 hini f2 (ty := ty) (v := .ref (xb X + h2)) y1 y2 y3 (by rw [List.length_map]; exact hkl) hd (fun H1 locs1 hP1 hD1 hS1 => ?_)
          have hset : (xb X + h0, (.inr (ci, (fs.map (rvV X)).set kk (.ref (xb X + h2))) : va_E)) = (xb X + h0, rcE X (.inl (ci, fs.set kk (some (.inr h2))))) := by
            show _ = (xb X + h0, (.inr (ci, (fs.set kk (some (.inr h2))).map (rvV X)) : va_E))
            rw [List.map_set]
            rfl
          rw [hset, wsL_set] at hP1
          have hlt := (List.getElem?_eq_some_iff.mp hLh).1
          refine W_size (fun hle => ?_)
          exact k hl p e s mid args below meth c C H1 locs1 la hP1 (hz_of hP1 hle (by rw [List.length_set]; exact hcs) (by rw [List.length_set]; omega)) (by rw [List.length_set]; exact hcs) hS1 hL
        · cases h
      · cases h
    · cases h
  · cases h
theorem bw_get {idx : Nat} {b' : BS} (hf : μ.2.2.2.2.2.lookup pc = some (.getfield idx, np, tg, lit)) (h : bGet μ.2.2.2.2.1 idx np ls st L cs ss = some b') (k : BW l X R μ Z b'.1 b'.2.1 b'.2.2.1 b'.2.2.2.1 b'.2.2.2.2.1 b'.2.2.2.2.2) : BW l X R μ Z pc ls st L cs ss := by
  unfold bGet at h
  split at h
  · rename_i t h0 r
    split at h
    · rename_i t' kk pos hft
      split at h
      · rename_i ci fs hLh
        split at h
        · rename_i j hfs
          split at h
          · rename_i hr
            cases h
            simp only [Bool.and_eq_true, Bool.not_eq_true', beq_iff_eq] at hr
            obtain ⟨rfl, hci, hxt⟩ := hr
            intro hl p e s mid args below meth c C H locs la hP hz hcs hS hL
            obtain ⟨hx, hb, -, -, hown, hts, -, hKB, hini, hbs, hok⟩ := id C
            obtain ⟨hd, hn⟩ := fetch_1 hok hf rfl
            have hn : np = pc + 3 := hn
            subst hn
            obtain ⟨Cn, T, N, hc, hlk, hkN, hsl, ht0, ht20, hfk⟩ := ft_ok hft
            have e9 : t - 1 = ci := by omega
            rw [e9] at hc
            show W _ _ _ _ _ _ _ _ _ _ _ _ _ _ _ (F0 mid pc la (cv X (vR t h0) :: r.map (cv X)))
            rw [ref_in (isX_lt (by omega))]
            refine va_get hx hb hts (cls_in hc) hown hKB.1 hP h0 (wsL_get hLh) hc kk hkN (hts _ hlk) (fun _ h9 => h9) (v := .ref (xb X + j)) (by rw [List.getElem?_map, hfs]; rfl) hd ?_
            have hk := k hl p e s mid args below meth c C H locs la hP hz hcs hS hL
            have e5 : (vR ((shp t).getD kk (0, 0)).1 j :: r).map (cv X) = Value.ref (xb X + j) :: r.map (cv X) := by rw [List.map_cons, ref_in hxt]
            rw [← e5]
            exact hk
          · cases h
        · cases h
      · cases h
    · cases h
  · cases h
theorem bw_aas {b' : BS} (hf : μ.2.2.2.2.2.lookup pc = some (.aastore, np, tg, lit)) (h : bAas np ls st L cs ss = some b') (k : BW l X R μ Z b'.1 b'.2.1 b'.2.2.1 b'.2.2.2.1 b'.2.2.2.2.1 b'.2.2.2.2.2) : BW l X R μ Z pc ls st L cs ss := by
  unfold bAas at h
  split at h
  · rename_i tv v j t h0 r
    split at h
    · rename_i t' n lr hLh
      split at h
      · rename_i ci fs hLv
        split at h
        · rename_i hr
          cases h
          simp only [Bool.and_eq_true, decide_eq_true_eq, beq_iff_eq] at hr
          obtain ⟨a1, a2, rfl, rfl, a5, a6, a7, a8, a9⟩ := hr
          intro hl p e s mid args below meth c C H locs la hP hz hcs hS hL
          obtain ⟨hx, hb, -, -, hown, hts, -, hKB, hini, hbs, hok⟩ := id C
          obtain ⟨hd, hn⟩ := fetch_1 hok hf rfl
          have hn : np = pc + 1 := hn
          subst hn
          obtain ⟨qc, hqc, hqn⟩ := vw_n a6
          have hty := tys_ref X a1 a2
          rw [a5, Nat.add_sub_cancel, ← hqn] at hty
          show W _ _ _ _ _ _ _ _ _ _ _ _ _ _ _ (F0 mid pc la (cv X (vR (ci + 1) v) :: .int j :: cv X (vR t h0) :: r.map (cv X)))
          rw [ref_in (isX_lt (by omega)), ref_in (isX_lt (by omega))]
          refine va_astq hx hb hKB.1 hP (wsL_D _ _) hS h0 _ v ci (wsL_get hLh) hty (wsL_get hLv) hqc (i := j) (fun q => q.elim a7 (fun z => by omega)) hd (fun H1 locs1 hP1 hD1 hS1 => ?_)
          have hset : (xb X + h0, (.inl (xc X t, n, .inr (.inr (.inr (.inr (va_up (refF X lr) j.toNatClampNeg (some (xb X + v))))))) : va_E)) = (xb X + h0, rcE X (.inr (t, n, .inr (lr.set j.toNatClampNeg (some v))))) := by
            show _ = (xb X + h0, (.inl (xc X t, n, .inr (.inr (.inr (.inr (refF X (lr.set j.toNatClampNeg (some v))))))) : va_E))
            have e : va_up (refF X lr) j.toNatClampNeg (some (xb X + v)) = refF X (lr.set j.toNatClampNeg (some v)) := by
              funext q
              show (if q = j.toNatClampNeg then some (xb X + v) else (lr.getD q none).map (fun j => xb X + j)) = ((lr.set j.toNatClampNeg (some v)).getD q none).map (fun j => xb X + j)
              rw [List.getD_eq_getElem?_getD, List.getD_eq_getElem?_getD, List.getElem?_set]
              by_cases e : q = j.toNatClampNeg
              · subst e
                rw [if_pos rfl, if_pos rfl, if_pos (by omega)]
                rfl
              · rw [if_neg e, if_neg (fun z => e z.symm)]
            rw [e]
          rw [hset, wsL_set] at hP1
          have hlt := (List.getElem?_eq_some_iff.mp hLh).1
          refine W_size (fun hle => ?_)
          exact k hl p e s mid args below meth c C H1 locs1 la hP1 (hz_of hP1 hle (by rw [List.length_set]; exact hcs) (by rw [List.length_set]; omega)) (by rw [List.length_set]; exact hcs) hS1 hL
        · cases h
      · cases h
    · cases h
  · cases h
theorem bw_ias {b' : BS} (hf : μ.2.2.2.2.2.lookup pc = some (.iastore, np, tg, lit)) (h : bIas 0 1000 (fun x => x) np ls st L cs ss = some b') (k : BW l X R μ Z b'.1 b'.2.1 b'.2.2.1 b'.2.2.2.1 b'.2.2.2.2.1 b'.2.2.2.2.2) : BW l X R μ Z pc ls st L cs ss := by
  unfold bIas at h
  split at h
  · rename_i x j t h0 r
    split at h
    · rename_i kd n u hLh
      split at h
      · rename_i hr
        cases h
        simp only [Bool.and_eq_true, decide_eq_true_eq, beq_iff_eq] at hr
        obtain ⟨rfl, rfl, a3, a4⟩ := hr
        intro hl p e s mid args below meth c C H locs la hP hz hcs hS hL
        obtain ⟨hx, hb, -, -, hown, hts, -, hKB, hini, hbs, hok⟩ := id C
        obtain ⟨hd, hn⟩ := fetch_1 hok hf rfl
        have hn : np = pc + 1 := hn
        subst hn
        show W _ _ _ _ _ _ _ _ _ _ _ _ _ _ _ (F0 mid pc la (.int x :: .int j :: cv X (vR (1000 + n) h0) :: r.map (cv X)))
        rw [ref_in (isX_gt (by omega))]
        refine va_iast hx hb hKB.1 hP (wsL_D _ _) hS h0 0 (wsL_get hLh) rfl (fun q => q.elim a3 (fun z => by omega)) hd (fun H1 locs1 hP1 hD1 hS1 => ?_)
        have hP1 : va_P (xD X) vwCl ((wsL X L).set h0 (xb X + h0, rcE X (.inr (0, n, .inl ((j.toNatClampNeg, x) :: u))))) H1 := hP1
        rw [wsL_set] at hP1
        have hlt := (List.getElem?_eq_some_iff.mp hLh).1
        refine W_size (fun hle => ?_)
        exact k hl p e s mid args below meth c C H1 locs1 la hP1 (hz_of hP1 hle (by rw [List.length_set]; exact hcs) (by rw [List.length_set]; omega)) (by rw [List.length_set]; exact hcs) hS1 hL
      · cases h
    · cases h
  · cases h
theorem bw_cas {b' : BS} (hf : μ.2.2.2.2.2.lookup pc = some (.castore, np, tg, lit)) (h : bIas 2 5000 (vp_nar .char) np ls st L cs ss = some b') (k : BW l X R μ Z b'.1 b'.2.1 b'.2.2.1 b'.2.2.2.1 b'.2.2.2.2.1 b'.2.2.2.2.2) : BW l X R μ Z pc ls st L cs ss := by
  unfold bIas at h
  split at h
  · rename_i x j t h0 r
    split at h
    · rename_i kd n u hLh
      split at h
      · rename_i hr
        cases h
        simp only [Bool.and_eq_true, decide_eq_true_eq, beq_iff_eq] at hr
        obtain ⟨rfl, rfl, a3, a4⟩ := hr
        intro hl p e s mid args below meth c C H locs la hP hz hcs hS hL
        obtain ⟨hx, hb, -, -, hown, hts, -, hKB, hini, hbs, hok⟩ := id C
        obtain ⟨hd, hn⟩ := fetch_1 hok hf rfl
        have hn : np = pc + 1 := hn
        subst hn
        show W _ _ _ _ _ _ _ _ _ _ _ _ _ _ _ (F0 mid pc la (.int x :: .int j :: cv X (vR (5000 + n) h0) :: r.map (cv X)))
        rw [ref_in (isX_gt (by omega))]
        refine va_cast hx hb hKB.1 hP (wsL_D _ _) hS h0 2 (wsL_get hLh) rfl (fun q => q.elim a3 (fun z => by omega)) hd (fun H1 locs1 hP1 hD1 hS1 => ?_)
        have hP1 : va_P (xD X) vwCl ((wsL X L).set h0 (xb X + h0, rcE X (.inr (2, n, .inl ((j.toNatClampNeg, vp_nar .char x) :: u))))) H1 := hP1
        rw [wsL_set] at hP1
        have hlt := (List.getElem?_eq_some_iff.mp hLh).1
        refine W_size (fun hle => ?_)
        exact k hl p e s mid args below meth c C H1 locs1 la hP1 (hz_of hP1 hle (by rw [List.length_set]; exact hcs) (by rw [List.length_set]; omega)) (by rw [List.length_set]; exact hcs) hS1 hL
      · cases h
    · cases h
  · cases h
end

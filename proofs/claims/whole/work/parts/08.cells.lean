section
variable {G : GG} {pc np tg : Nat} {lit : Int32} {ls st st' : List AV} {m : Mem} {P : Prop} {np' : Nat} {ls' : List AV} {m' : Mem}
theorem aw_get0 {idx t h k pos : Nat} {v : AV} {r : List AV} (hf : G.2.2.2.2.2.1.2.2.2.2.2.lookup pc = some (.getfield idx, np, tg, lit)) (hft : ftO G.2.2.2.2.2.1.2.2.2.2.1 idx = some (t, k, pos))
    (hv : okr G.2.1 t h → cv G.2.1 v = slotV G.2.1 m h k ((shp t).getD k (0, 0))) (hov : (xN G.2.1 = NC ∨ xN G.2.1 = NTT) → okr G.2.1 t h → okv G.2.1 v) (kk : AW G np ls (v :: r) m) : AW G pc ls (vR t h :: r) m := by
  intro hl hol hos p e s mid args below meth c C H locs la hPw hS hL
  obtain ⟨hx, hb, -, -, hown, hts, -, hK, -, hN, -, -, -, hok⟩ := id C
  obtain ⟨hd, hn⟩ := fetch_1 hok hf rfl
  subst hn
  obtain ⟨Cn, T, N, hc, hlk, hkN, hsl, ht0, ht20, hfk⟩ := ft_ok hft
  have ho := okl_cons.mp hos
  have hxt : isX t = false := isX_lt (by omega)
  obtain ⟨hh, hlay⟩ := okr_cell ho.1 (by omega) hxt
  show W _ _ _ _ _ _ _ _ _ _ _ _ _ _ _ (F0 mid pc la (.ref (aof G.2.1 t h) :: r.map (cv G.2.1)))
  rw [aof_in hxt]
  have he : (wsOf G.2.1 m)[h]? = some (xb G.2.1 + h, .inr (t - 1, fsOf G.2.1 m h t)) := by rw [ws_get _ _ hh, cel_o hlay ht20]
  refine va_get hx hb hts (cls_in hc) hown hK hPw h he hc k hkN (hts _ hlk) (fun _ h9 => h9) (fs_get (by rw [hsl]; exact hkN)) hd ?_
  rw [← hv ho.1]
  exact kk hl hol (okl_cons.mpr ⟨hov hN ho.1, ho.2⟩) p e s mid args below meth c C H locs la hPw hS hL
theorem aw_get {idx : Nat} (hf : G.2.2.2.2.2.1.2.2.2.2.2.lookup pc = some (.getfield idx, np, tg, lit)) (h : sGet G.2.2.2.2.2.1.2.2.2.2.1 idx np ls st m = some (P, np', ls', st', m')) (hP : P) (k : AW G np' ls' st' m') : AW G pc ls st m := by
  unfold sGet at h
  split at h
  · rename_i t h0 r
    split at h
    · rename_i t' kk pos hft
      split at h
      · rename_i htt
        have htt : t = t' := by simpa using htt
        subst htt
        obtain ⟨Cn, T, N, hc, hlk, hkN, hsl, ht0, ht20, hfk⟩ := ft_ok hft
        split at h
        rename_i t2' o hq
        split at h
        · rename_i h00
          have h00 : t2' = 0 := by simpa using h00
          subst h00
          cases h
          exact aw_get0 (v := vI (m h0 kk)) hf hft (fun _ => by rw [hq]; rfl) (fun _ _ => trivial) k
        · rename_i h00
          have h00 : ¬ t2' = 0 := by simpa using h00
          obtain ⟨t2, rfl⟩ : ∃ a, t2' = a + 1 := ⟨t2' - 1, by omega⟩
          split at h
          · rename_i ho
            have ho : o = 9999 := by simpa using ho
            cases h
            refine aw_get0 (v := vR (t2 + 1) (m h0 kk).toNatClampNeg) hf hft (fun _ => ?_) (fun hN _ => ?_) k
            · rw [hq, ho]
              obtain ⟨-, hX2⟩ := clo_v (Or.inl rfl) hq ho hP
              show Value.ref (aof G.2.1 (t2 + 1) _) = _
              rw [aof_in hX2]
              unfold slotV
              rw [if_neg (Nat.succ_ne_zero _), if_pos rfl, if_neg (clo_v0 hq ho hP)]
            · obtain ⟨hlt, hX2⟩ := clo_v hN hq ho hP
              exact Or.inr (Or.inr ⟨hX2, hlt, hP⟩)
          · rename_i ho
            have ho : ¬ o = 9999 := by simpa using ho
            cases h
            have key : (xN G.2.1 = NC ∨ xN G.2.1 = NTT) → okr G.2.1 t h0 → h0 + o < xN G.2.1 ∧ layT (h0 + o) = t2 + 1 ∧ isX (t2 + 1) = false := by
              intro hN hr
              obtain ⟨hh, hlay⟩ := okr_cell hr (by omega) (isX_lt (by omega))
              obtain ⟨g1, g2⟩ := clo_f hN hh (by rw [hlay]; exact ht20) (by rw [hlay]; exact hq) ho
              refine ⟨g1, g2, ?_⟩
              rw [← g2]
              exact clo_X hN g1
            intro hl hol hos p e s mid args below meth c C H locs la hPw hS hL
            have hN : xN G.2.1 = NC ∨ xN G.2.1 = NTT := by
              obtain ⟨-, -, -, -, -, -, -, -, -, hN, -⟩ := C
              exact hN
            obtain ⟨g1, g2, g3⟩ := key hN (okl_cons.mp hos).1
            refine aw_get0 hf hft (v := vR (t2 + 1) (h0 + o)) (fun _ => ?_) (fun _ _ => ?_) k hl hol hos p e s mid args below meth c C H locs la hPw hS hL
            · rw [hq]
              show Value.ref (aof G.2.1 (t2 + 1) _) = _
              rw [aof_in g3]
              unfold slotV
              rw [if_neg (Nat.succ_ne_zero _), if_neg ho]
            · exact Or.inr (Or.inr ⟨g3, g1, g2⟩)
      · cases h
    · cases h
  · cases h
theorem aw_put0 {idx t h k pos : Nat} {v : AV} {x : Int32} {ty : FieldType} {r : List AV} (hf : G.2.2.2.2.2.1.2.2.2.2.2.lookup pc = some (.putfield idx, np, tg, lit)) (hft : ftO G.2.2.2.2.2.1.2.2.2.2.1 idx = some (t, k, pos))
    (hty : ∀ (C : String) (T : u_T) (N : Nat), vwCl[t - 1]? = some (C, T, N) → fokS T k ((shp t).getD k (0, 0)) = true → (T k).2.2.2 = false ∧ parseFieldDescriptor (T k).2.2.1 = some ty) (hn : narrow ty (cv G.2.1 v) = cv G.2.1 v) (hfit : fits ty (cv G.2.1 v) = true)
    (hv : slotV G.2.1 (mUp m h k x) h k ((shp t).getD k (0, 0)) = cv G.2.1 v) (kk : AW G np ls r (mUp m h k x)) : AW G pc ls (v :: vR t h :: r) m := by
  intro hl hol hos p e s mid args below meth c C H locs la hPw hS hL
  obtain ⟨hx, hb, -, -, hown, hts, -, hK, -, hN, -, -, -, hok⟩ := id C
  obtain ⟨hd, hn1⟩ := fetch_1 hok hf rfl
  subst hn1
  obtain ⟨Cn, T, N, hc, hlk, hkN, hsl, ht0, ht20, hfk⟩ := ft_ok hft
  have ho := okl_cons.mp (okl_cons.mp hos).2
  have hxt : isX t = false := isX_lt (by omega)
  obtain ⟨hh, hlay⟩ := okr_cell ho.1 (by omega) hxt
  show W _ _ _ _ _ _ _ _ _ _ _ _ _ _ _ (F0 mid pc la (cv G.2.1 v :: .ref (aof G.2.1 t h) :: r.map (cv G.2.1)))
  rw [aof_in hxt]
  have he : (wsOf G.2.1 m)[h]? = some (xb G.2.1 + h, .inr (t - 1, fsOf G.2.1 m h t)) := by rw [ws_get _ _ hh, cel_o hlay ht20]
  obtain ⟨hfin, hpd⟩ := hty Cn T N hc hfk
  obtain ⟨ty0, hty0, hnm⟩ := cls_ty hc
  have hset : (wsOf G.2.1 m).set h (xb G.2.1 + h, .inr (t - 1, (fsOf G.2.1 m h t).set k (cv G.2.1 v))) = wsOf G.2.1 (mUp m h k x) := by
    have e1 : wsOf G.2.1 (mUp m h k x) = (wsOf G.2.1 m).set h (xb G.2.1 + h, celE G.2.1 (mUp m h k x) h) := ws_row _ _ _ _
    rw [e1, cel_o hlay ht20, fs_up, hv]
  refine va_put hx hb hts (cls_in hc) ty0 hty0 hnm hown hK hPw (ws_D _ _) hS h he hc k hkN (hts _ hlk) (fun _ h9 => h9) hfin hpd hn hfit (by rw [fs_len, hsl]; exact hkN) hd (fun H1 locs1 hP1 hD1 hS1 => ?_)
  rw [hset] at hP1
  exact kk hl hol ho.2 p e s mid args below meth c C H1 locs1 la hP1 hS1 hL
theorem aw_put {idx : Nat} (hf : G.2.2.2.2.2.1.2.2.2.2.2.lookup pc = some (.putfield idx, np, tg, lit)) (h : sPut G.2.2.2.2.2.1.2.2.2.2.1 idx np ls st m = some (P, np', ls', st', m')) (hP : P) (k : AW G np' ls' st' m') : AW G pc ls st m := by
  unfold sPut at h
  split at h
  · rename_i x t h0 r
    split at h
    · rename_i t' kk pos hft
      split at h
      · rename_i htt
        have htt : t = t' := by simpa using htt
        subst htt
        obtain ⟨Cn, T, N, hc, hlk, hkN, hsl, ht0, ht20, hfk⟩ := ft_ok hft
        have hgd : (shp t).getD kk (1, 0) = (shp t).getD kk (0, 0) := by
          rw [List.getD_eq_getElem?_getD, List.getD_eq_getElem?_getD, List.getElem?_eq_getElem (by omega)]
          rfl
        rw [hgd] at h
        split at h
        · rename_i hq
          cases h
          refine aw_put0 (v := vI x) (ty := .int) hf hft (fun C1 T1 N1 hc1 hf1 => ?_) rfl rfl ?_ k
          · rw [hq] at hf1
            simp only [fokS, Bool.and_eq_true, Bool.not_eq_true', decide_eq_true_eq] at hf1
            exact hf1
          · rw [hq]
            show Value.int (mUp m h0 kk x h0 kk) = _
            rw [mUp_s]
            rfl
        · rename_i hq
          cases h
          have hx01 : narrow .boolean (.int x) = .int x ∧ fits .boolean (.int x) = true := by
            rcases hP with rfl | rfl <;> exact ⟨rfl, rfl⟩
          refine aw_put0 (v := vI x) (ty := .boolean) hf hft (fun C1 T1 N1 hc1 hf1 => ?_) hx01.1 hx01.2 ?_ k
          · rw [hq] at hf1
            simp only [fokS, Bool.and_eq_true, Bool.not_eq_true', decide_eq_true_eq] at hf1
            exact hf1
          · rw [hq]
            show Value.int (mUp m h0 kk x h0 kk) = _
            rw [mUp_s]
            rfl
        · cases h
      · cases h
    · cases h
  · rename_i t2 h2 t h0 r
    split at h
    · rename_i t' kk pos hft
      split at h
      · rename_i htt
        simp only [Bool.and_eq_true, beq_iff_eq, Bool.not_eq_true', beq_eq_false_iff_ne] at htt
        obtain ⟨rfl, g1, g2, g3⟩ := htt
        obtain ⟨Cn, T, N, hc, hlk, hkN, hsl, ht0, ht20, hfk⟩ := ft_ok hft
        cases h
        obtain ⟨a, rfl⟩ : ∃ a, t2 = a + 1 := ⟨t2 - 1, by omega⟩
        have hq : (shp t).getD kk (0, 0) = (a + 1, 9999) := Prod.ext g1.symm g2
        intro hl hol hos p e s mid args below meth c C H locs la hPw hS hL
        have hN : xN G.2.1 = NC ∨ xN G.2.1 = NTT := by
          obtain ⟨-, -, -, -, -, -, -, -, -, hN, -⟩ := C
          exact hN
        have hXa : isX (a + 1) = false := by
          have h1 := shp_V
          have hm : (a + 1, 9999) ∈ shp t := by
            rw [List.getD_eq_getElem?_getD, List.getElem?_eq_getElem (by omega)] at hq
            have hq : (shp t)[kk] = (a + 1, 9999) := hq
            rw [← hq]
            exact List.getElem_mem _
          have hs : shp t ∈ SHP := by
            unfold shp at hm ⊢
            rw [List.getD_eq_getElem?_getD] at hm ⊢
            cases hl : SHP[t]? with
            | none => rw [hl] at hm; simp at hm
            | some q => exact List.mem_of_getElem? hl
          have h2 := List.all_eq_true.mp (List.all_eq_true.mp shp_V _ hs) _ hm
          simp only [Bool.or_eq_true, Bool.not_eq_true', beq_iff_eq] at h2
          rcases h2 with h2 | h2 | h2 | h2
          · cases h2
          · exact absurd h2 (Nat.succ_ne_zero _)
          · rw [h2]; rfl
          · rw [h2]; rfl
        obtain ⟨hh2, hlay2⟩ := okr_cell (okl_cons.mp hos).1 (Nat.succ_ne_zero _) hXa
        have hlt : h2 < 2 ^ 31 := by
          have : h2 < NTT := layT_lt (by rw [hlay2]; exact Nat.succ_ne_zero _)
          exact Nat.lt_trans this (by decide)
        refine aw_put0 (v := vR (a + 1) h2) (x := Int32.ofNat h2) (ty := .object (Rn a)) hf hft (fun C1 T1 N1 hc1 hf1 => ?_) rfl rfl ?_ k hl hol hos p e s mid args below meth c C H locs la hPw hS hL
        · rw [hq] at hf1
          simp only [fokS, beq_self_eq_true, if_true, Bool.and_eq_true, Bool.not_eq_true', decide_eq_true_eq] at hf1
          exact hf1
        · rw [hq]
          unfold slotV
          rw [if_neg (Nat.succ_ne_zero _), if_pos rfl, mUp_s, show (Int32.ofNat h2).toNatClampNeg = h2 from nI_clamp hlt, if_neg (clo_v0 hq rfl hlay2)]
          show _ = Value.ref (aof G.2.1 (a + 1) h2)
          rw [aof_in hXa]
      · cases h
    · cases h
  · cases h
end

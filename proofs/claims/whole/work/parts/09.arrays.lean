section
variable {G : GG} {pc np tg : Nat} {lit : Int32} {ls st st' : List AV} {m : Mem} {P : Prop} {np' : Nat} {ls' : List AV} {m' : Mem}
theorem sAld_inv {lo hi : Nat} (h : sAld lo hi np ls st m = some (P, np', ls', st', m')) (hP : P) : ∃ j t h0 r, st = vI j :: vR t h0 :: r ∧ lo ≤ t ∧ t < hi ∧ np' = np ∧ ls' = ls ∧ st' = vI (m h0 j.toNatClampNeg) :: r ∧ m' = m ∧ vp_in j (t - lo) := by
  unfold sAld at h
  split at h
  · split at h
    · rename_i hc
      simp only [Bool.and_eq_true, decide_eq_true_eq] at hc
      cases h
      exact ⟨_, _, _, _, rfl, hc.1, hc.2, rfl, rfl, rfl, rfl, hP⟩
    · cases h
  · cases h
theorem sAst_inv {lo hi : Nat} (h : sAst lo hi np ls st m = some (P, np', ls', st', m')) (hP : P) : ∃ x j t h0 r, st = vI x :: vI j :: vR t h0 :: r ∧ lo ≤ t ∧ t < hi ∧ np' = np ∧ ls' = ls ∧ st' = r ∧ m' = mUp m h0 j.toNatClampNeg x ∧ vp_in j (t - lo) ∧ (lo = 4000 → x = 0 ∨ x = 1) := by
  unfold sAst at h
  split at h
  · split at h
    · rename_i hc
      simp only [Bool.and_eq_true, decide_eq_true_eq] at hc
      cases h
      exact ⟨_, _, _, _, _, rfl, hc.1, hc.2, rfl, rfl, rfl, rfl, hP.1, hP.2⟩
    · cases h
  · cases h
/-- what is needed of a cell on the stack -/
theorem aw_cell {t h : Nat} {X : XT} (ho : okr X t h) (h0 : ¬ t = 0) (hx : isX t = false) : h < xN X ∧ layT h = t ∧ aof X t h = xb X + h := ⟨(okr_cell ho h0 hx).1, (okr_cell ho h0 hx).2, aof_in hx⟩
theorem aw_ald {i : Instr} {lo hi a : Nat} {ty : FieldType} (hf : G.2.2.2.2.2.1.2.2.2.2.2.lookup pc = some (i, np, tg, lit)) (hi' : isSw i = false) (hlo : 1000 ≤ lo)
    (hcel : ∀ (X : XT) (m : Mem) (h t : Nat), layT h = t → lo ≤ t → t < hi → celE X m h = .inl (xc X a, t - lo, .inl (m h))) (ht : ∀ X : XT, (tysOf X)[a]? = some (xc X a, ty))
    (hw : ∀ (p : Program) (l : Launch) (e : Env) (R : Room) (s : State) (mi : MethodId) (args : Array Value) (below : List Frame) (meth : Method) (co : Code) (H : Heap) (locs : List Loc) (cells slots : Nat) (Q : State → Prop) (cc : ByteArray) (pc : Nat) (la : Array Slot) (rest : List Value) (D : va_G) (tys : List (ClassId × FieldType)) (ws : va_W) (q0 t0 ad n : Nat) (cA : ClassId) (f : Nat → Int32) (j : Int32), p.tables.exec = Jvm.exec → co.code = cc → va_K D vwCl tys s → va_P D vwCl ws H → ws[q0]? = some (ad, .inl (cA, n, .inl f)) → tys[t0]? = some (cA, ty) → vp_in j n → decode cc pc = .ok (i, ilen i) → W p l e R s mi args below meth co H locs cells slots Q (F0 mi (pc + ilen i) la (.int (f j.toNatClampNeg) :: rest)) → W p l e R s mi args below meth co H locs cells slots Q (F0 mi pc la (.int j :: .ref ad :: rest)))
    (h : sAld lo hi np ls st m = some (P, np', ls', st', m')) (hP : P) (k : AW G np' ls' st' m') : AW G pc ls st m := by
  obtain ⟨j, t, h0, r, rfl, hl1, hl2, rfl, rfl, rfl, rfl, hin⟩ := sAld_inv h hP
  intro hl hol hos p e s mid args below meth c C H locs la hPw hS hL
  obtain ⟨hx, hb, -, -, hown, hts, -, hK, -, hN, -, -, -, hok⟩ := id C
  obtain ⟨hd, hn1⟩ := fetch_1 hok hf hi'
  subst hn1
  have ho := okl_cons.mp (okl_cons.mp hos).2
  obtain ⟨hh, hlay, hao⟩ := aw_cell ho.1 (by omega) (isX_gt (by omega))
  show W _ _ _ _ _ _ _ _ _ _ _ _ _ _ _ (F0 mid pc la (.int j :: .ref (aof G.2.1 t h0) :: r.map (cv G.2.1)))
  rw [hao]
  have he : (wsOf G.2.1 m')[h0]? = some (xb G.2.1 + h0, .inl (xc G.2.1 a, t - lo, .inl (m' h0))) := by rw [ws_get _ _ hh, hcel _ _ _ _ hlay hl1 hl2]
  exact hw _ _ _ _ _ _ _ _ _ _ _ _ _ _ _ _ _ _ _ _ _ _ _ _ _ _ _ _ _ hx hb hK hPw he (ht _) hin hd (k hl hol (okl_cons.mpr ⟨trivial, ho.2⟩) p e s mid args below meth c C H locs la hPw hS hL)
theorem aw_ast {i : Instr} {lo hi a : Nat} {ty : FieldType} (hf : G.2.2.2.2.2.1.2.2.2.2.2.lookup pc = some (i, np, tg, lit)) (hi' : isSw i = false) (hlo : 1000 ≤ lo)
    (hcel : ∀ (X : XT) (m : Mem) (h t : Nat), layT h = t → lo ≤ t → t < hi → celE X m h = .inl (xc X a, t - lo, .inl (m h))) (ht : ∀ X : XT, (tysOf X)[a]? = some (xc X a, ty))
    (hw : ∀ (p : Program) (l : Launch) (e : Env) (R : Room) (s : State) (mi : MethodId) (args : Array Value) (below : List Frame) (meth : Method) (co : Code) (H H0 : Heap) (locs : List Loc) (cells slots : Nat) (Q : State → Prop) (cc : ByteArray) (pc : Nat) (la : Array Slot) (rest : List Value) (D : va_G) (A : Nat → Prop) (tys : List (ClassId × FieldType)) (ws : va_W) (q0 t0 ad n : Nat) (cA : ClassId) (f : Nat → Int32) (j x : Int32), (lo = 4000 → x = 0 ∨ x = 1) → p.tables.exec = Jvm.exec → co.code = cc → va_K D vwCl tys s → va_P D vwCl ws H → va_D A ws → va_S A H0 H locs → ws[q0]? = some (ad, .inl (cA, n, .inl f)) → tys[t0]? = some (cA, ty) → vp_in j n → decode cc pc = .ok (i, ilen i) →
      (∀ (H1 : Heap) (locs1 : List Loc), va_P D vwCl (ws.set q0 (ad, .inl (cA, n, .inl (upd f j.toNatClampNeg x)))) H1 → va_S A H0 H1 locs1 → W p l e R s mi args below meth co H1 locs1 cells slots Q (F0 mi (pc + ilen i) la rest)) → W p l e R s mi args below meth co H locs cells slots Q (F0 mi pc la (.int x :: .int j :: .ref ad :: rest)))
    (h : sAst lo hi np ls st m = some (P, np', ls', st', m')) (hP : P) (k : AW G np' ls' st' m') : AW G pc ls st m := by
  obtain ⟨x, j, t, h0, r, rfl, hl1, hl2, rfl, rfl, e5, rfl, hin, h01⟩ := sAst_inv h hP
  subst e5
  intro hl hol hos p e s mid args below meth c C H locs la hPw hS hL
  obtain ⟨hx, hb, -, -, hown, hts, -, hK, -, hN, -, -, -, hok⟩ := id C
  obtain ⟨hd, hn1⟩ := fetch_1 hok hf hi'
  subst hn1
  have ho := okl_cons.mp (okl_cons.mp (okl_cons.mp hos).2).2
  obtain ⟨hh, hlay, hao⟩ := aw_cell ho.1 (by omega) (isX_gt (by omega))
  show W _ _ _ _ _ _ _ _ _ _ _ _ _ _ _ (F0 mid pc la (.int x :: .int j :: .ref (aof G.2.1 t h0) :: st'.map (cv G.2.1)))
  rw [hao]
  have he : (wsOf G.2.1 m)[h0]? = some (xb G.2.1 + h0, .inl (xc G.2.1 a, t - lo, .inl (m h0))) := by rw [ws_get _ _ hh, hcel _ _ _ _ hlay hl1 hl2]
  have hset : (wsOf G.2.1 m).set h0 (xb G.2.1 + h0, .inl (xc G.2.1 a, t - lo, .inl (upd (m h0) j.toNatClampNeg x))) = wsOf G.2.1 (mUp m h0 j.toNatClampNeg x) := by
    have e1 : wsOf G.2.1 (mUp m h0 j.toNatClampNeg x) = (wsOf G.2.1 m).set h0 (xb G.2.1 + h0, celE G.2.1 (mUp m h0 j.toNatClampNeg x) h0) := ws_row _ _ _ _
    rw [e1, hcel _ _ _ _ hlay hl1 hl2, show mUp m h0 j.toNatClampNeg x h0 = upd (m h0) j.toNatClampNeg x from mSr_s _ _ _]
  refine hw _ _ _ _ _ _ _ _ _ _ _ _ _ _ _ _ _ _ _ _ _ _ _ _ _ _ _ _ _ _ _ _ h01 hx hb hK hPw (ws_D _ _) hS he (ht _) hin hd (fun H1 locs1 hP1 hS1 => ?_)
  rw [hset] at hP1
  exact k hl hol ho.2 p e s mid args below meth c C H1 locs1 la hP1 hS1 hL
theorem vp_nar_b {x : Int32} (h : x = 0 ∨ x = 1) : vp_nar .boolean x = x := by
  rcases h with rfl | rfl <;> rfl
theorem aw_aal (hf : G.2.2.2.2.2.1.2.2.2.2.2.lookup pc = some (.aaload, np, tg, lit)) (h : sAal np ls st m = some (P, np', ls', st', m')) (hP : P) (k : AW G np' ls' st' m') : AW G pc ls st m := by
  unfold sAal at h
  split at h
  · rename_i j t h0 r
    split at h
    · rename_i hc
      simp only [Bool.and_eq_true, decide_eq_true_eq] at hc
      obtain ⟨hc1, hc2⟩ := hc
      split at h
      rename_i ra rb rc re hq
      have qa : ra = rlen t := by unfold rlen; rw [hq]
      have qb : rb = roff t := by unfold roff; rw [hq]
      have qc : rc = rstr t := by unfold rstr; rw [hq]
      have qe : re = rty t := by unfold rty; rw [hq]
      subst qa qb qc qe
      cases h
      intro hl hol hos p e s mid args below meth c C H locs la hPw hS hL
      obtain ⟨hx, hb, -, -, hown, hts, -, hK, -, hN, -, -, -, hok⟩ := id C
      obtain ⟨hd, hn1⟩ := fetch_1 hok hf rfl
      subst hn1
      have ho := okl_cons.mp (okl_cons.mp hos).2
      obtain ⟨hh, hlay, hao⟩ := aw_cell ho.1 (by omega) (isX_lt (by omega))
      show W _ _ _ _ _ _ _ _ _ _ _ _ _ _ _ (F0 mid pc la (.int j :: .ref (aof G.2.1 t h0) :: r.map (cv G.2.1)))
      rw [hao]
      have he : (wsOf G.2.1 m)[h0]? = some (xb G.2.1 + h0, .inl (xc G.2.1 t, rlen t, .inr (.inr (.inr (.inr (fun i => some (xb G.2.1 + (h0 + roff t + rstr t * i)))))))) := by rw [ws_get _ _ hh, cel_r hlay hc1 hc2]
      have hlt : j.toNatClampNeg < rlen t := Nat.not_le.mp fun q => hP (Or.inr q)
      obtain ⟨g1, g2⟩ := clo_a (i := j.toNatClampNeg) hN hh (by rw [hlay]; exact hc2) (by rw [hlay]; exact hc1) (by rw [hlay]; exact hlt)
      rw [hlay] at g1 g2
      have hXr : isX (rty t) = false := by rw [← g2]; exact clo_X hN g1
      have ht : ∃ (t0 : Nat) (ty : FieldType), (tysOf G.2.1)[t0]? = some (xc G.2.1 t, ty) ∧ ty.isReference = true := by
        have h5 : t = 20 ∨ t = 21 ∨ t = 22 ∨ t = 23 ∨ t = 24 := by omega
        rcases h5 with rfl | rfl | rfl | rfl | rfl
        · exact ⟨3, _, rfl, rfl⟩
        · exact ⟨4, _, rfl, rfl⟩
        · exact ⟨5, _, rfl, rfl⟩
        · exact ⟨6, _, rfl, rfl⟩
        · exact ⟨7, _, rfl, rfl⟩
      obtain ⟨t0, ty, ht0, hrk⟩ := ht
      have kk := k hl hol (okl_cons.mpr ⟨Or.inr (Or.inr ⟨hXr, g1, g2⟩), ho.2⟩) p e s mid args below meth c C H locs la hPw hS hL
      have e9 : cv G.2.1 (vR (rty t) (h0 + roff t + rstr t * j.toNatClampNeg)) = va_rf (some (xb G.2.1 + (h0 + roff t + rstr t * j.toNatClampNeg))) := by
        show Value.ref (aof _ _ _) = _
        rw [aof_in hXr]
        rfl
      have kk : W p G.1 e G.2.2.1 s mid args below meth c H locs G.2.2.2.1 G.2.2.2.2.1 (G.2.2.2.2.2.2 below args s) (F0 mid (pc + 1) la (cv G.2.1 (vR (rty t) (h0 + roff t + rstr t * j.toNatClampNeg)) :: r.map (cv G.2.1))) := kk
      rw [e9] at kk
      exact W.aald (v := va_rf (some (xb G.2.1 + (h0 + roff t + rstr t * j.toNatClampNeg)))) (ty := ty) hx hb (hPw h0 _ he) ((hK.2 t0 _ ht0).1 (rlen t) (fun i => va_rf (some (xb G.2.1 + (h0 + roff t + rstr t * i))))) hrk (fun q => by cases q) (by show ¬ (j < 0 ∨ (arrV _ _ _).slots.size ≤ _); rw [arrV_size]; exact hP) (by show (arrV _ _ _).slots[_]? = _; rw [arrV_read _ _ hlt]) rfl rfl hd kk
    · cases h
  · cases h
end

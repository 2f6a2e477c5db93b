-- ===== a step of the abstract walk is a step of the machine =====
abbrev WU (i : Instr) (n : Nat) (st st' : List Value) : Prop := ∀ (p : Program) (l : Launch) (e : Env) (R : Room) (s : State) (m : MethodId) (args : Array Value) (below : List Frame) (meth : Method) (c : Code) (H : Heap) (locs : List Loc) (cells slots : Nat) (Q : State → Prop) (cc : ByteArray) (pc : Nat) (la : Array Slot),
  p.tables.exec = Jvm.exec → c.code = cc → decode cc pc = .ok (i, n) → W p l e R s m args below meth c H locs cells slots Q (F0 m (pc + n) la st') → W p l e R s m args below meth c H locs cells slots Q (F0 m pc la st)
section
variable {G : GG} {pc np tg : Nat} {lit : Int32} {i : Instr} {ls st st' : List AV} {m : Mem}
theorem aw_pure (hf : G.2.2.2.2.2.1.2.2.2.2.2.lookup pc = some (i, np, tg, lit)) (hi : isSw i = false) (ho : okl G.2.1 st → okl G.2.1 ls → okl G.2.1 st') (hw : WU i (ilen i) (st.map (cv G.2.1)) (st'.map (cv G.2.1))) (k : AW G np ls st' m) : AW G pc ls st m := by
  intro hl hol hos p e s mid args below meth c C H locs la hPw hS hL
  obtain ⟨hx, hb, -, -, -, -, -, -, -, -, -, -, -, hok⟩ := id C
  obtain ⟨hd, hn⟩ := fetch_1 hok hf hi
  subst hn
  exact hw _ _ _ _ _ _ _ _ _ _ _ _ _ _ _ _ _ _ hx hb hd (k hl hol (ho hos hol) p e s mid args below meth c C H locs la hPw hS hL)
theorem okl_cons {X : XT} {v : AV} {l : List AV} : okl X (v :: l) ↔ okv X v ∧ okl X l := List.forall_mem_cons
theorem okl_nil {X : XT} : okl X [] := fun _ h => absurd h List.not_mem_nil
theorem okl_set {X : XT} {l : List AV} {v : AV} {k : Nat} (h : okl X l) (hv : okv X v) : okl X (l.set k v) := fun w hw => by
  rcases List.mem_or_eq_of_mem_set hw with q | q
  · exact h w q
  · rw [q]; exact hv
theorem okv_U {X : XT} : okv X vU := Or.inl rfl
theorem okl_getD {X : XT} {l : List AV} {k : Nat} {v : AV} (h : okl X l) (hk : l.getD k vU = v) : okv X v := by
  rw [List.getD_eq_getElem?_getD] at hk
  cases hl : l[k]? with
  | none => rw [hl] at hk; rw [← hk]; exact okv_U
  | some w => rw [hl] at hk; have hk : w = v := hk; subst hk; exact h w (List.mem_of_getElem? hl)
theorem okr_cell {X : XT} {t h : Nat} (ho : okr X t h) (h0 : ¬ t = 0) (hx : isX t = false) : h < xN X ∧ layT h = t := by
  rcases ho with q | q | q
  · exact absurd q h0
  · rw [hx] at q; cases q.1
  · exact q.2
theorem aof_in {X : XT} {t h : Nat} (hx : isX t = false) : aof X t h = xb X + h := by
  unfold aof
  rw [hx]
  rfl
theorem isX_lt {t : Nat} (h : t < 50) : isX t = false := by
  unfold isX
  simp only [Bool.or_eq_false_iff, beq_eq_false_iff_ne]
  omega
theorem isX_gt {t : Nat} (h : 53 ≤ t) : isX t = false := by
  unfold isX
  simp only [Bool.or_eq_false_iff, beq_eq_false_iff_ne]
  omega
variable {P : Prop} {np' : Nat} {ls' : List AV} {m' : Mem}
theorem sBin_inv {f : Int32 → Int32 → Int32} (h : sBin f np ls st m = some (P, np', ls', st', m')) : ∃ x y r, st = vI y :: vI x :: r ∧ np' = np ∧ ls' = ls ∧ st' = vI (f x y) :: r ∧ m' = m := by
  unfold sBin at h
  split at h
  · cases h
    exact ⟨_, _, _, rfl, rfl, rfl, rfl, rfl⟩
  · cases h
theorem sDiv_inv {f : Int32 → Int32 → Int32} (h : sDiv f np ls st m = some (P, np', ls', st', m')) (hP : P) : ∃ x y r, st = vI y :: vI x :: r ∧ np' = np ∧ ls' = ls ∧ st' = vI (f x y) :: r ∧ m' = m ∧ ¬ y = 0 := by
  unfold sDiv at h
  split at h
  · cases h
    exact ⟨_, _, _, rfl, rfl, rfl, rfl, rfl, hP⟩
  · cases h
theorem sUn_inv {f : Int32 → Int32} (h : sUn f np ls st m = some (P, np', ls', st', m')) : ∃ x r, st = vI x :: r ∧ np' = np ∧ ls' = ls ∧ st' = vI (f x) :: r ∧ m' = m := by
  unfold sUn at h
  split at h
  · cases h
    exact ⟨_, _, rfl, rfl, rfl, rfl, rfl⟩
  · cases h
theorem sBinJ_inv {f : Int64 → Int64 → Int64} (h : sBinJ f np ls st m = some (P, np', ls', st', m')) : ∃ x y r, st = vJ y :: vJ x :: r ∧ np' = np ∧ ls' = ls ∧ st' = vJ (f x y) :: r ∧ m' = m := by
  unfold sBinJ at h
  split at h
  · cases h
    exact ⟨_, _, _, rfl, rfl, rfl, rfl, rfl⟩
  · cases h
theorem sDivJ_inv {f : Int64 → Int64 → Int64} (h : sDivJ f np ls st m = some (P, np', ls', st', m')) (hP : P) : ∃ x y r, st = vJ y :: vJ x :: r ∧ np' = np ∧ ls' = ls ∧ st' = vJ (f x y) :: r ∧ m' = m ∧ ¬ y = 0 := by
  unfold sDivJ at h
  split at h
  · cases h
    exact ⟨_, _, _, rfl, rfl, rfl, rfl, rfl, hP⟩
  · cases h
-- an operation on the stack's ints
theorem aw_bin {f : Int32 → Int32 → Int32} (hf : G.2.2.2.2.2.1.2.2.2.2.2.lookup pc = some (i, np, tg, lit)) (hi : isSw i = false) (hw : ∀ x y rest, WU i (ilen i) (.int y :: .int x :: rest) (.int (f x y) :: rest)) (h : sBin f np ls st m = some (P, np', ls', st', m')) (k : AW G np' ls' st' m') : AW G pc ls st m := by
  obtain ⟨x, y, r, rfl, rfl, rfl, rfl, rfl⟩ := sBin_inv h
  exact aw_pure (st' := vI (f x y) :: r) hf hi (fun q _ => okl_cons.mpr ⟨trivial, (okl_cons.mp (okl_cons.mp q).2).2⟩) (hw x y _) k
theorem aw_div {f : Int32 → Int32 → Int32} (hf : G.2.2.2.2.2.1.2.2.2.2.2.lookup pc = some (i, np, tg, lit)) (hi : isSw i = false) (hw : ∀ x y rest, ¬ y = 0 → WU i (ilen i) (.int y :: .int x :: rest) (.int (f x y) :: rest)) (h : sDiv f np ls st m = some (P, np', ls', st', m')) (hP : P) (k : AW G np' ls' st' m') : AW G pc ls st m := by
  obtain ⟨x, y, r, rfl, rfl, rfl, rfl, rfl, hy⟩ := sDiv_inv h hP
  exact aw_pure (st' := vI (f x y) :: r) hf hi (fun q _ => okl_cons.mpr ⟨trivial, (okl_cons.mp (okl_cons.mp q).2).2⟩) (hw x y _ hy) k
theorem aw_un {f : Int32 → Int32} (hf : G.2.2.2.2.2.1.2.2.2.2.2.lookup pc = some (i, np, tg, lit)) (hi : isSw i = false) (hw : ∀ x rest, WU i (ilen i) (.int x :: rest) (.int (f x) :: rest)) (h : sUn f np ls st m = some (P, np', ls', st', m')) (k : AW G np' ls' st' m') : AW G pc ls st m := by
  obtain ⟨x, r, rfl, rfl, rfl, rfl, rfl⟩ := sUn_inv h
  exact aw_pure (st' := vI (f x) :: r) hf hi (fun q _ => okl_cons.mpr ⟨trivial, (okl_cons.mp q).2⟩) (hw x _) k
theorem aw_binJ {f : Int64 → Int64 → Int64} (hf : G.2.2.2.2.2.1.2.2.2.2.2.lookup pc = some (i, np, tg, lit)) (hi : isSw i = false) (hw : ∀ x y rest, WU i (ilen i) (.long y :: .long x :: rest) (.long (f x y) :: rest)) (h : sBinJ f np ls st m = some (P, np', ls', st', m')) (k : AW G np' ls' st' m') : AW G pc ls st m := by
  obtain ⟨x, y, r, rfl, rfl, rfl, rfl, rfl⟩ := sBinJ_inv h
  exact aw_pure (st' := vJ (f x y) :: r) hf hi (fun q _ => okl_cons.mpr ⟨trivial, (okl_cons.mp (okl_cons.mp q).2).2⟩) (hw x y _) k
theorem aw_divJ {f : Int64 → Int64 → Int64} (hf : G.2.2.2.2.2.1.2.2.2.2.2.lookup pc = some (i, np, tg, lit)) (hi : isSw i = false) (hw : ∀ x y rest, ¬ y = 0 → WU i (ilen i) (.long y :: .long x :: rest) (.long (f x y) :: rest)) (h : sDivJ f np ls st m = some (P, np', ls', st', m')) (hP : P) (k : AW G np' ls' st' m') : AW G pc ls st m := by
  obtain ⟨x, y, r, rfl, rfl, rfl, rfl, rfl, hy⟩ := sDivJ_inv h hP
  exact aw_pure (st' := vJ (f x y) :: r) hf hi (fun q _ => okl_cons.mpr ⟨trivial, (okl_cons.mp (okl_cons.mp q).2).2⟩) (hw x y _ hy) k
-- a local is read
theorem sLd_inv {j c : Nat} (h : sLd j c np ls st m = some (P, np', ls', st', m')) : ∃ v, ls.getD j vU = v ∧ unk v = false ∧ np' = np ∧ ls' = ls ∧ st' = v :: st ∧ m' = m ∧ ((c = 0 ∧ ∃ x, v = vI x) ∨ (c = 1 ∧ ∃ x, v = vJ x) ∨ (c = 2 ∧ ∃ q, v = .inr (.inr q))) := by
  unfold sLd at h
  split at h
  · rename_i x hx
    split at h
    · rename_i hc
      cases h
      exact ⟨_, hx, rfl, rfl, rfl, rfl, rfl, Or.inl ⟨by simpa using hc, _, rfl⟩⟩
    · cases h
  · rename_i x hx
    split at h
    · rename_i hc
      cases h
      exact ⟨_, hx, rfl, rfl, rfl, rfl, rfl, Or.inr (Or.inl ⟨by simpa using hc, _, rfl⟩)⟩
    · cases h
  · rename_i x hx
    split at h
    · rename_i hc
      cases h
      simp only [Bool.and_eq_true, Bool.not_eq_true'] at hc
      exact ⟨_, hx, hc.2, rfl, rfl, rfl, rfl, Or.inr (Or.inr ⟨by simpa using hc.1, _, rfl⟩)⟩
    · cases h
theorem aw_ld {j c : Nat} (hf : G.2.2.2.2.2.1.2.2.2.2.2.lookup pc = some (i, np, tg, lit)) (hi : isSw i = false)
    (hw : ∀ (v : AV), ((c = 0 ∧ ∃ x, v = vI x) ∨ (c = 1 ∧ ∃ x, v = vJ x) ∨ (c = 2 ∧ ∃ q, v = .inr (.inr q))) → ∀ (p : Program) (l : Launch) (e : Env) (R : Room) (s : State) (mi : MethodId) (args : Array Value) (below : List Frame) (meth : Method) (co : Code) (H : Heap) (locs : List Loc) (cells slots : Nat) (Q : State → Prop) (cc : ByteArray) (pc : Nat) (la : Array Slot) (rest : List Value), p.tables.exec = Jvm.exec → co.code = cc → decode cc pc = .ok (i, ilen i) → la[j]? = some (.val (cv G.2.1 v)) → W p l e R s mi args below meth co H locs cells slots Q (F0 mi (pc + ilen i) la (cv G.2.1 v :: rest)) → W p l e R s mi args below meth co H locs cells slots Q (F0 mi pc la rest))
    (h : sLd j c np ls st m = some (P, np', ls', st', m')) (k : AW G np' ls' st' m') : AW G pc ls st m := by
  obtain ⟨v, hv, hu, rfl, rfl, rfl, rfl, hc⟩ := sLd_inv h
  intro hl hol hos p e s mid args below meth c C H locs la hPw hS hL
  obtain ⟨hx, hb, -, -, -, -, -, -, -, -, -, -, -, hok⟩ := id C
  obtain ⟨hd, hn⟩ := fetch_1 hok hf hi
  subst hn
  exact hw v hc _ _ _ _ _ _ _ _ _ _ _ _ _ _ _ _ _ _ _ hx hb hd (lRep_get hL hv hu) (k hl hol (okl_cons.mpr ⟨okl_getD hol hv, hos⟩) p e s mid args below meth c C H locs la hPw hS hL)
-- a local is written
theorem aw_st1 {j : Nat} {v : AV} {r : List AV} (hf : G.2.2.2.2.2.1.2.2.2.2.2.lookup pc = some (i, np, tg, lit)) (hi : isSw i = false) (hj : j < ls.length) (hno : noL ls j = true)
    (hw : ∀ (p : Program) (l : Launch) (e : Env) (R : Room) (s : State) (mi : MethodId) (args : Array Value) (below : List Frame) (meth : Method) (co : Code) (H : Heap) (locs : List Loc) (cells slots : Nat) (Q : State → Prop) (cc : ByteArray) (pc : Nat) (la : Array Slot) (nL : Nat) (rest : List Value) (lv : List (Nat × Value)), p.tables.exec = Jvm.exec → co.code = cc → decode cc pc = .ok (i, ilen i) → lv_has la nL lv → j < nL → (∀ la', lv_has la' nL ((j, cv G.2.1 v) :: lv.filter (fun q => !(q.1 == j) && !(q.1 + 1 == j && q.2.category == 2))) → W p l e R s mi args below meth co H locs cells slots Q (F0 mi (pc + ilen i) la' rest)) → W p l e R s mi args below meth co H locs cells slots Q (F0 mi pc la (cv G.2.1 v :: rest)))
    (k : AW G np (ls.set j v) r m) : AW G pc ls (v :: r) m := by
  intro hl hol hos p e s mid args below meth c C H locs la hPw hS hL
  obtain ⟨hx, hb, -, -, -, -, -, -, -, -, -, -, -, hok⟩ := id C
  obtain ⟨hd, hn⟩ := fetch_1 hok hf hi
  subst hn
  have ho := okl_cons.mp hos
  exact hw _ _ _ _ _ _ _ _ _ _ _ _ _ _ _ _ _ _ _ _ _ hx hb hd (lRep_has hL) hj (fun la' h' => k (by rw [List.length_set]; exact hl) (okl_set hol ho.1) ho.2 p e s mid args below meth c C H locs la' hPw hS (lRep_set hj hno h'))
theorem aw_st2 {j : Nat} {x : Int64} {r : List AV} (hf : G.2.2.2.2.2.1.2.2.2.2.2.lookup pc = some (i, np, tg, lit)) (hi : isSw i = false) (hj : j + 1 < ls.length) (hno : noL ls j = true)
    (hw : ∀ (p : Program) (l : Launch) (e : Env) (R : Room) (s : State) (mi : MethodId) (args : Array Value) (below : List Frame) (meth : Method) (co : Code) (H : Heap) (locs : List Loc) (cells slots : Nat) (Q : State → Prop) (cc : ByteArray) (pc : Nat) (la : Array Slot) (nL : Nat) (rest : List Value) (lv : List (Nat × Value)), p.tables.exec = Jvm.exec → co.code = cc → decode cc pc = .ok (i, ilen i) → lv_has la nL lv → j + 1 < nL → (∀ la', lv_has la' nL ((j, .long x) :: lv.filter (fun q => !(q.1 == j) && (!(q.1 == j + 1) && !(q.1 + 1 == j && q.2.category == 2)))) → W p l e R s mi args below meth co H locs cells slots Q (F0 mi (pc + ilen i) la' rest)) → W p l e R s mi args below meth co H locs cells slots Q (F0 mi pc la (.long x :: rest)))
    (k : AW G np ((ls.set j (vJ x)).set (j + 1) vU) r m) : AW G pc ls (vJ x :: r) m := by
  intro hl hol hos p e s mid args below meth c C H locs la hPw hS hL
  obtain ⟨hx, hb, -, -, -, -, -, -, -, -, -, -, -, hok⟩ := id C
  obtain ⟨hd, hn⟩ := fetch_1 hok hf hi
  subst hn
  have ho := okl_cons.mp hos
  exact hw _ _ _ _ _ _ _ _ _ _ _ _ _ _ _ _ _ _ _ _ _ hx hb hd (lRep_has hL) hj (fun la' h' => k (by rw [List.length_set, List.length_set]; exact hl) (okl_set (okl_set hol trivial) okv_U) ho.2 p e s mid args below meth c C H locs la' hPw hS (lRep_set2 (v := vJ x) hj hno h'))
end

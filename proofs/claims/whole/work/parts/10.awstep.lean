section
variable {G : GG} {pc np tg : Nat} {lit : Int32} {ls st st' : List AV} {m : Mem} {P : Prop} {np' : Nat} {ls' : List AV} {m' : Mem}
theorem aw_const {i : Instr} (hf : G.2.2.2.2.2.1.2.2.2.2.2.lookup pc = some (i, np, tg, lit)) (hi : isSw i = false) (hw : litE G.2.2.2.2.2.1.2.2.2.2.1 i pc tg lit = true → ∀ (p : Program) (l : Launch) (e : Env) (R : Room) (s : State) (mi : MethodId) (args : Array Value) (below : List Frame) (meth : Method) (co : Code) (H : Heap) (locs : List Loc) (cells slots : Nat) (Q : State → Prop) (cc : ByteArray) (la : Array Slot) (rest : List Value), p.tables.exec = Jvm.exec → co.code = cc → s.vm.findClass (Rn G.2.2.2.2.2.1.2.2.2.2.1) = some mi.cls → (∀ w ∈ GT, w.before args s = true) → decode cc pc = .ok (i, ilen i) → W p l e R s mi args below meth co H locs cells slots Q (F0 mi (pc + ilen i) la (.int lit :: rest)) → W p l e R s mi args below meth co H locs cells slots Q (F0 mi pc la rest))
    (k : AW G np ls (vI lit :: st) m) : AW G pc ls st m := by
  intro hl hol hos p e s mid args below meth c C H locs la hPw hS hL
  obtain ⟨hx, hb, -, -, hown, hts, -, -, -, -, -, -, -, hok⟩ := id C
  obtain ⟨hd, hn⟩ := fetch_1 hok hf hi
  subst hn
  exact hw (fetch_ok hok hf).2.2 _ _ _ _ _ _ _ _ _ _ _ _ _ _ _ _ _ _ hx hb hown hts hd (k hl hol (okl_cons.mpr ⟨trivial, hos⟩) p e s mid args below meth c C H locs la hPw hS hL)
theorem sSt_inv {j c : Nat} (h : sSt j c np ls st m = some (P, np', ls', st', m')) : np' = np ∧ m' = m ∧ noL ls j = true ∧ ((c = 0 ∧ j < ls.length ∧ ∃ x r, st = vI x :: r ∧ st' = r ∧ ls' = ls.set j (vI x)) ∨ (c = 1 ∧ j + 1 < ls.length ∧ ∃ x r, st = vJ x :: r ∧ st' = r ∧ ls' = (ls.set j (vJ x)).set (j + 1) vU) ∨ (c = 2 ∧ j < ls.length ∧ ∃ t h0 r, st = vR t h0 :: r ∧ st' = r ∧ ls' = ls.set j (vR t h0))) := by
  unfold sSt at h
  split at h
  · split at h
    · rename_i hc
      simp only [Bool.and_eq_true, decide_eq_true_eq, beq_iff_eq] at hc
      cases h
      exact ⟨rfl, rfl, hc.2.2, Or.inl ⟨hc.1, hc.2.1, _, _, rfl, rfl, rfl⟩⟩
    · cases h
  · split at h
    · rename_i hc
      simp only [Bool.and_eq_true, decide_eq_true_eq, beq_iff_eq] at hc
      cases h
      exact ⟨rfl, rfl, hc.2.2, Or.inr (Or.inl ⟨hc.1, hc.2.1, _, _, rfl, rfl, rfl⟩)⟩
    · cases h
  · split at h
    · rename_i hc
      simp only [Bool.and_eq_true, decide_eq_true_eq, beq_iff_eq] at hc
      cases h
      exact ⟨rfl, rfl, hc.2.2, Or.inr (Or.inr ⟨hc.1, hc.2.1, _, _, _, rfl, rfl, rfl⟩)⟩
    · cases h
  · cases h
theorem aw_inc {j : Nat} {n : Int} (hf : G.2.2.2.2.2.1.2.2.2.2.2.lookup pc = some (.iinc j n, np, tg, lit)) (h : sInc j lit np ls st m = some (P, np', ls', st', m')) (k : AW G np' ls' st' m') : AW G pc ls st m := by
  unfold sInc at h
  split at h
  · rename_i x hx0
    split at h
    · rename_i hno
      cases h
      intro hl hol hos p e s mid args below meth c C H locs la hPw hS hL
      obtain ⟨hx, hb, -, -, hown, hts, -, -, -, -, -, -, -, hok⟩ := id C
      obtain ⟨hd, hn⟩ := fetch_1 hok hf rfl
      subst hn
      have hlit : Int32.ofInt n = lit := by
        have := (fetch_ok hok hf).2.2
        simpa [litE] using this
      have hj : j < ls.length := by
        rcases Nat.lt_or_ge j ls.length with q | q
        · exact q
        · rw [List.getD_eq_getElem?_getD, List.getElem?_eq_none q] at hx0
          cases hx0
      have hm0 : (j, Value.int x) ∈ asc G.2.1 ls := asc_mem.mpr ⟨vI x, by
        rw [List.getD_eq_getElem?_getD] at hx0
        cases hl0 : ls[j]? with
        | none => rw [hl0] at hx0; cases hx0
        | some w => rw [hl0] at hx0; have hx0 : w = vI x := hx0; rw [hx0], rfl, rfl⟩
      obtain ⟨kk, hkk⟩ := List.getElem?_of_mem hm0
      exact lv_iinc (v := x + lit) hx hb hd (lRep_has hL) hkk (by rw [hlit]) hj rfl (fun la' h' => k (by rw [List.length_set]; exact hl) (okl_set hol trivial) hos p e s mid args below meth c C H locs la' hPw hS (lRep_set (v := vI (x + lit)) hj hno h'))
    · cases h
  · cases h
set_option maxHeartbeats 4000000 in
theorem AW.step {q : Instr × Nat × Nat × Int32} (hf : G.2.2.2.2.2.1.2.2.2.2.2.lookup pc = some q) (h : astep G.2.2.2.2.2.1.2.2.2.2.1 q ls st m = some (P, np', ls', st', m')) (hP : P) (k : AW G np' ls' st' m') : AW G pc ls st m := by
  obtain ⟨i, np, tg, lit⟩ := q
  cases i
  case iconst n =>
    cases h
    exact aw_const hf rfl (fun hl _ _ _ _ _ _ _ _ _ _ _ _ _ _ _ _ _ _ hx hb _ _ hd kk => lv_iconst hx hb hd (by simpa [litE] using hl) kk) k
  case bipush n =>
    cases h
    exact aw_const hf rfl (fun hl _ _ _ _ _ _ _ _ _ _ _ _ _ _ _ _ _ _ hx hb _ _ hd kk => lv_bipush hx hb hd (by simpa [litE] using hl) kk) k
  case sipush n =>
    cases h
    exact aw_const hf rfl (fun hl _ _ _ _ _ _ _ _ _ _ _ _ _ _ _ _ _ _ hx hb _ _ hd kk => lv_sipush hx hb hd (by simpa [litE] using hl) kk) k
  case ldc x =>
    simp only [astep] at h
    split at h
    · rename_i h9
      have h9 : tg = 999 := by simpa using h9
      cases h
      refine aw_const hf rfl (fun hl _ _ _ _ _ _ _ _ _ _ _ _ _ _ _ _ _ _ hx hb ho ht hd kk => lv_ldc hx hb ho (ht _ (ct_ok ?_)) hd kk) k
      simp only [litE, h9] at hl
      rw [Bool.or_eq_true] at hl
      rcases hl with hl | hl
      · simpa using hl
      · exfalso
        have : SRF.any (fun q => q.2.2.2 == 999) = false := by decide +kernel
        have h2 : SRF.any (fun q => q.2.2.2 == 999) = true := by
          obtain ⟨y, hy, hy2⟩ := List.any_eq_true.mp hl
          simp only [Bool.and_eq_true] at hy2
          exact List.any_eq_true.mpr ⟨y, hy, hy2.2.2⟩
        rw [this] at h2
        cases h2
    · cases h
  case ldc_w x =>
    simp only [astep] at h
    split at h
    · rename_i h9
      have h9 : tg = 999 := by simpa using h9
      cases h
      refine aw_const hf rfl (fun hl _ _ _ _ _ _ _ _ _ _ _ _ _ _ _ _ _ _ hx hb ho ht hd kk => lv_ldcw hx hb ho (ht _ (ct_ok ?_)) hd kk) k
      simp only [litE, h9] at hl
      rw [Bool.or_eq_true] at hl
      rcases hl with hl | hl
      · simpa using hl
      · exfalso
        have : SRF.any (fun q => q.2.2.2 == 999) = false := by decide +kernel
        have h2 : SRF.any (fun q => q.2.2.2 == 999) = true := by
          obtain ⟨y, hy, hy2⟩ := List.any_eq_true.mp hl
          simp only [Bool.and_eq_true] at hy2
          exact List.any_eq_true.mpr ⟨y, hy, hy2.2.2⟩
        rw [this] at h2
        cases h2
    · cases h
  case lconst n =>
    cases h
    exact aw_pure (st' := vJ (Int64.ofNat n.val) :: st) hf rfl (fun q _ => okl_cons.mpr ⟨trivial, q⟩) (fun _ _ _ _ _ _ _ _ _ _ _ _ _ _ _ _ _ _ hx hb hd kk => lv_lconst hx hb hd rfl kk) k
  case ldc2_w x =>
    simp only [astep] at h
    split at h
    · rename_i e9 he9
      cases h
      intro hl hol hos p e s mid args below meth c C H locs la hPw hS hL
      obtain ⟨hx, hb, -, -, hown, hts, -, -, -, -, -, -, -, hok⟩ := id C
      obtain ⟨hd, hn⟩ := fetch_1 hok hf rfl
      subst hn
      exact lv_ldc2 hx hb hown (hts _ (lt_ok he9)) hd (k hl hol (okl_cons.mpr ⟨trivial, hos⟩) p e s mid args below meth c C H locs la hPw hS hL)
    · cases h
  case iload j =>
    refine aw_ld hf rfl (fun v hv _ _ _ _ _ _ _ _ _ _ _ _ _ _ _ _ _ _ _ hx hb hd hg kk => ?_) h k
    rcases hv with ⟨-, x, rfl⟩ | ⟨hv, -⟩ | ⟨hv, -⟩
    · exact lv_iload hx hb hd hg kk
    · cases hv
    · cases hv
  case iload_n j =>
    refine aw_ld hf rfl (fun v hv _ _ _ _ _ _ _ _ _ _ _ _ _ _ _ _ _ _ _ hx hb hd hg kk => ?_) h k
    rcases hv with ⟨-, x, rfl⟩ | ⟨hv, -⟩ | ⟨hv, -⟩
    · exact lv_iload_n hx hb hd rfl hg kk
    · cases hv
    · cases hv
  case lload j =>
    refine aw_ld hf rfl (fun v hv _ _ _ _ _ _ _ _ _ _ _ _ _ _ _ _ _ _ _ hx hb hd hg kk => ?_) h k
    rcases hv with ⟨hv, -⟩ | ⟨-, x, rfl⟩ | ⟨hv, -⟩
    · cases hv
    · exact lv_lload hx hb hd hg kk
    · cases hv
  case lload_n j =>
    refine aw_ld hf rfl (fun v hv _ _ _ _ _ _ _ _ _ _ _ _ _ _ _ _ _ _ _ hx hb hd hg kk => ?_) h k
    rcases hv with ⟨hv, -⟩ | ⟨-, x, rfl⟩ | ⟨hv, -⟩
    · cases hv
    · exact lv_lload_n hx hb hd rfl hg kk
    · cases hv
  case aload j =>
    refine aw_ld hf rfl (fun v hv _ _ _ _ _ _ _ _ _ _ _ _ _ _ _ _ _ _ _ hx hb hd hg kk => ?_) h k
    rcases hv with ⟨hv, -⟩ | ⟨hv, -⟩ | ⟨-, x, rfl⟩
    · cases hv
    · cases hv
    · exact lv_aload hx hb hd hg kk
  case aload_n j =>
    refine aw_ld hf rfl (fun v hv _ _ _ _ _ _ _ _ _ _ _ _ _ _ _ _ _ _ _ hx hb hd hg kk => ?_) h k
    rcases hv with ⟨hv, -⟩ | ⟨hv, -⟩ | ⟨-, x, rfl⟩
    · cases hv
    · cases hv
    · exact lv_aload_n hx hb hd rfl hg kk
  case istore j =>
    obtain ⟨rfl, rfl, hno, ⟨-, hj, x, r, rfl, rfl, rfl⟩ | ⟨hc, -⟩ | ⟨hc, -⟩⟩ := sSt_inv h
    · exact aw_st1 (v := vI x) hf rfl hj hno (fun _ _ _ _ _ _ _ _ _ _ _ _ _ _ _ _ _ _ _ _ _ hx hb hd hh hn kk => lv_istore hx hb hd hh hn rfl kk) k
    · cases hc
    · cases hc
  case istore_n j =>
    obtain ⟨rfl, rfl, hno, ⟨-, hj, x, r, rfl, rfl, rfl⟩ | ⟨hc, -⟩ | ⟨hc, -⟩⟩ := sSt_inv h
    · exact aw_st1 (v := vI x) hf rfl hj hno (fun _ _ _ _ _ _ _ _ _ _ _ _ _ _ _ _ _ _ _ _ _ hx hb hd hh hn kk => lv_istore_n hx hb hd rfl hh hn rfl kk) k
    · cases hc
    · cases hc
  case lstore j =>
    obtain ⟨rfl, rfl, hno, ⟨hc, -⟩ | ⟨-, hj, x, r, rfl, rfl, rfl⟩ | ⟨hc, -⟩⟩ := sSt_inv h
    · cases hc
    · exact aw_st2 hf rfl hj hno (fun _ _ _ _ _ _ _ _ _ _ _ _ _ _ _ _ _ _ _ _ _ hx hb hd hh hn kk => lv_lstore hx hb hd hh hn rfl kk) k
    · cases hc
  case lstore_n j =>
    obtain ⟨rfl, rfl, hno, ⟨hc, -⟩ | ⟨-, hj, x, r, rfl, rfl, rfl⟩ | ⟨hc, -⟩⟩ := sSt_inv h
    · cases hc
    · exact aw_st2 hf rfl hj hno (fun _ _ _ _ _ _ _ _ _ _ _ _ _ _ _ _ _ _ _ _ _ hx hb hd hh hn kk => lv_lstore_n hx hb hd rfl hh hn rfl kk) k
    · cases hc
  case astore j =>
    obtain ⟨rfl, rfl, hno, ⟨hc, -⟩ | ⟨hc, -⟩ | ⟨-, hj, t, h0, r, rfl, rfl, rfl⟩⟩ := sSt_inv h
    · cases hc
    · cases hc
    · exact aw_st1 (v := vR t h0) hf rfl hj hno (fun _ _ _ _ _ _ _ _ _ _ _ _ _ _ _ _ _ _ _ _ _ hx hb hd hh hn kk => lv_astore hx hb hd hh hn rfl kk) k
  case astore_n j =>
    obtain ⟨rfl, rfl, hno, ⟨hc, -⟩ | ⟨hc, -⟩ | ⟨-, hj, t, h0, r, rfl, rfl, rfl⟩⟩ := sSt_inv h
    · cases hc
    · cases hc
    · exact aw_st1 (v := vR t h0) hf rfl hj hno (fun _ _ _ _ _ _ _ _ _ _ _ _ _ _ _ _ _ _ _ _ _ hx hb hd hh hn kk => lv_astore_n hx hb hd rfl hh hn rfl kk) k
  case iinc j n => exact aw_inc hf h k
  case iadd => exact aw_bin hf rfl (fun _ _ _ _ _ _ _ _ _ _ _ _ _ _ _ _ _ _ _ _ _ hx hb hd kk => lv_iadd hx hb hd kk) h k
  case isub => exact aw_bin hf rfl (fun _ _ _ _ _ _ _ _ _ _ _ _ _ _ _ _ _ _ _ _ _ hx hb hd kk => lv_isub hx hb hd kk) h k
  case imul => exact aw_bin hf rfl (fun _ _ _ _ _ _ _ _ _ _ _ _ _ _ _ _ _ _ _ _ _ hx hb hd kk => lv_imul hx hb hd kk) h k
  case iand => exact aw_bin hf rfl (fun _ _ _ _ _ _ _ _ _ _ _ _ _ _ _ _ _ _ _ _ _ hx hb hd kk => lv_iand hx hb hd kk) h k
  case ior => exact aw_bin hf rfl (fun _ _ _ _ _ _ _ _ _ _ _ _ _ _ _ _ _ _ _ _ _ hx hb hd kk => lv_ior hx hb hd kk) h k
  case ishl => exact aw_bin hf rfl (fun _ _ _ _ _ _ _ _ _ _ _ _ _ _ _ _ _ _ _ _ _ hx hb hd kk => lv_ishl hx hb hd kk) h k
  case ishr => exact aw_bin hf rfl (fun _ _ _ _ _ _ _ _ _ _ _ _ _ _ _ _ _ _ _ _ _ hx hb hd kk => lv_ishr hx hb hd kk) h k
  case iushr => exact aw_bin hf rfl (fun _ _ _ _ _ _ _ _ _ _ _ _ _ _ _ _ _ _ _ _ _ hx hb hd kk => lv_iushr hx hb hd rfl kk) h k
  case idiv => exact aw_div hf rfl (fun _ _ _ hy _ _ _ _ _ _ _ _ _ _ _ _ _ _ _ _ _ _ hx hb hd kk => lv_idiv hx hb hd hy kk) h hP k
  case irem => exact aw_div hf rfl (fun _ _ _ hy _ _ _ _ _ _ _ _ _ _ _ _ _ _ _ _ _ _ hx hb hd kk => lv_irem hx hb hd hy kk) h hP k
  case ineg => exact aw_un hf rfl (fun _ _ _ _ _ _ _ _ _ _ _ _ _ _ _ _ _ _ _ _ hx hb hd kk => lv_ineg hx hb hd kk) h k
  case i2b => exact aw_un hf rfl (fun _ _ _ _ _ _ _ _ _ _ _ _ _ _ _ _ _ _ _ _ hx hb hd kk => lv_i2b hx hb hd rfl kk) h k
  case i2s => exact aw_un hf rfl (fun _ _ _ _ _ _ _ _ _ _ _ _ _ _ _ _ _ _ _ _ hx hb hd kk => lv_i2s hx hb hd rfl kk) h k
  case i2c => exact aw_un hf rfl (fun _ _ _ _ _ _ _ _ _ _ _ _ _ _ _ _ _ _ _ _ hx hb hd kk => lv_i2c hx hb hd rfl kk) h k
  case i2l =>
    simp only [astep] at h
    split at h
    · rename_i x r
      cases h
      exact aw_pure (st' := vJ x.toInt64 :: r) hf rfl (fun q _ => okl_cons.mpr ⟨trivial, (okl_cons.mp q).2⟩) (fun _ _ _ _ _ _ _ _ _ _ _ _ _ _ _ _ _ _ hx hb hd kk => lv_i2l hx hb hd rfl kk) k
    · cases h
  case l2i =>
    simp only [astep] at h
    split at h
    · rename_i x r
      cases h
      exact aw_pure (st' := vI x.toInt32 :: r) hf rfl (fun q _ => okl_cons.mpr ⟨trivial, (okl_cons.mp q).2⟩) (fun _ _ _ _ _ _ _ _ _ _ _ _ _ _ _ _ _ _ hx hb hd kk => lv_l2i hx hb hd rfl kk) k
    · cases h
  case lcmp =>
    simp only [astep] at h
    split at h
    · rename_i y x r
      cases h
      exact aw_pure (st' := vI (lg_cmp x y) :: r) hf rfl (fun q _ => okl_cons.mpr ⟨trivial, (okl_cons.mp (okl_cons.mp q).2).2⟩) (fun _ _ _ _ _ _ _ _ _ _ _ _ _ _ _ _ _ _ hx hb hd kk => W.lcmp hx hb hd kk) k
    · cases h
  case ladd => exact aw_binJ hf rfl (fun _ _ _ _ _ _ _ _ _ _ _ _ _ _ _ _ _ _ _ _ _ hx hb hd kk => lv_ladd hx hb hd kk) h k
  case lmul => exact aw_binJ hf rfl (fun _ _ _ _ _ _ _ _ _ _ _ _ _ _ _ _ _ _ _ _ _ hx hb hd kk => lv_lmul hx hb hd kk) h k
  case ldiv => exact aw_divJ hf rfl (fun _ _ _ hy _ _ _ _ _ _ _ _ _ _ _ _ _ _ _ _ _ _ hx hb hd kk => lv_ldiv hx hb hd hy kk) h hP k
  case lrem => exact aw_divJ hf rfl (fun _ _ _ hy _ _ _ _ _ _ _ _ _ _ _ _ _ _ _ _ _ _ hx hb hd kk => lv_lrem hx hb hd hy kk) h hP k
  case dup =>
    simp only [astep] at h
    split at h
    · rename_i x r
      cases h
      exact aw_pure (st' := vI x :: vI x :: r) hf rfl (fun q _ => okl_cons.mpr ⟨trivial, q⟩) (fun _ _ _ _ _ _ _ _ _ _ _ _ _ _ _ _ _ _ hx hb hd kk => lv_dup hx hb hd rfl kk) k
    · rename_i x r
      cases h
      exact aw_pure (st' := .inr (.inr x) :: .inr (.inr x) :: r) hf rfl (fun q _ => okl_cons.mpr ⟨(okl_cons.mp q).1, q⟩) (fun _ _ _ _ _ _ _ _ _ _ _ _ _ _ _ _ _ _ hx hb hd kk => lv_dup hx hb hd rfl kk) k
    · cases h
  case pop =>
    simp only [astep] at h
    split at h
    · rename_i x
      cases h
      exact aw_pure hf rfl (fun q _ => (okl_cons.mp q).2) (fun _ _ _ _ _ _ _ _ _ _ _ _ _ _ _ _ _ _ hx hb hd kk => lv_pop hx hb hd rfl kk) k
    · rename_i x
      cases h
      exact aw_pure hf rfl (fun q _ => (okl_cons.mp q).2) (fun _ _ _ _ _ _ _ _ _ _ _ _ _ _ _ _ _ _ hx hb hd kk => lv_pop hx hb hd rfl kk) k
    · cases h
  case goto o =>
    cases h
    intro hl hol hos p e s mid args below meth c C H locs la hPw hS hL
    obtain ⟨hx, hb, -, -, hown, hts, -, -, -, -, -, -, -, hok⟩ := id C
    obtain ⟨hd, hn⟩ := fetch_1 hok hf rfl
    have htg : (pc : Int) + o = (np' : Int) := by
      have := (fetch_ok hok hf).2.2
      simpa [litE] using this
    exact lv_goto hx hb hd htg (k hl hol hos p e s mid args below meth c C H locs la hPw hS hL)
  case getfield j => exact aw_get hf h hP k
  case putfield j => exact aw_put hf h hP k
  case iaload => exact aw_ald (a := 0) (ty := .int) hf rfl (by decide) (fun X m h t => cel_i) (fun X => rfl) (fun _ _ _ _ _ _ _ _ _ _ _ _ _ _ _ _ _ _ _ _ _ _ q0 t0 _ _ _ _ _ hx hb hK hP he ht hin hd kk => va_iald hx hb hK hP q0 t0 he ht hin hd kk) h hP k
  case baload => exact aw_ald (a := 1) (ty := .boolean) hf rfl (by decide) (fun X m h t => cel_z) (fun X => rfl) (fun _ _ _ _ _ _ _ _ _ _ _ _ _ _ _ _ _ _ _ _ _ _ q0 t0 _ _ _ _ _ hx hb hK hP he ht hin hd kk => va_zald hx hb hK hP q0 t0 he ht hin hd kk) h hP k
  case caload => exact aw_ald (a := 2) (ty := .char) hf rfl (by decide) (fun X m h t e1 e2 _ => cel_c e1 e2) (fun X => rfl) (fun _ _ _ _ _ _ _ _ _ _ _ _ _ _ _ _ _ _ _ _ _ _ q0 t0 _ _ _ _ _ hx hb hK hP he ht hin hd kk => va_cald hx hb hK hP q0 t0 he ht hin hd kk) h hP k
  case iastore => exact aw_ast (a := 0) (ty := .int) hf rfl (by decide) (fun X m h t => cel_i) (fun X => rfl) (fun _ _ _ _ _ _ _ _ _ _ _ _ _ _ _ _ _ _ _ _ _ _ _ _ q0 t0 _ _ _ _ _ _ _ hx hb hK hP hD hS he ht hin hd kk => va_iast hx hb hK hP hD hS q0 t0 he ht hin hd (fun H1 l1 a1 _ a3 => kk H1 l1 a1 a3)) h hP k
  case bastore => exact aw_ast (a := 1) (ty := .boolean) hf rfl (by decide) (fun X m h t => cel_z) (fun X => rfl) (fun _ _ _ _ _ _ _ _ _ _ _ _ _ _ _ _ _ _ _ _ _ _ _ _ q0 t0 _ _ _ _ _ _ h01 hx hb hK hP hD hS he ht hin hd kk => va_zast hx hb hK hP hD hS q0 t0 he ht hin hd (fun H1 l1 a1 _ a3 => kk H1 l1 (by rw [vp_nar_b (h01 rfl)] at a1; exact a1) a3)) h hP k
  case aaload => exact aw_aal hf h hP k
  all_goals (cases h)
end

-- ===== a constructor's run =====
section
variable {l : Launch} {X : XT} {R : Room} {μ : MI} {Z : List Frame → Array Value → State → State → Prop} {pc np tg : Nat} {lit : Int32} {i : Instr} {ls st st' r : List AV} {L : List CE} {cs ss : Nat}
set_option maxHeartbeats 1000000 in
theorem BW.step {q : Instr × Nat × Nat × Int32} {lv : Nat} {b' : BS} (hlv : ∀ c, c < 12 → c ≠ 10 → LVL c + 1 ≤ lv → CtorOK l c) (h3 : lv ≤ 3) (hR : 5 * lv + 5 ≤ R.frames ∧ 60 * lv + 60 ≤ R.locals) (hf : μ.2.2.2.2.2.lookup pc = some q) (h : bstep μ.2.2.2.2.1 lv R.cells R.slots q ls st L cs ss = some b') (k : BW l X R μ Z b'.1 b'.2.1 b'.2.2.1 b'.2.2.2.1 b'.2.2.2.2.1 b'.2.2.2.2.2) : BW l X R μ Z pc ls st L cs ss := by
  obtain ⟨i, np, tg, lit⟩ := q
  cases i
  case iconst n =>
    cases h
    exact bw_const hf rfl (fun hl _ _ _ _ _ _ _ _ _ _ _ _ _ _ _ _ _ _ hx hb _ _ hd kk => lv_iconst hx hb hd (by simpa [litE] using hl) kk) k
  case bipush n =>
    cases h
    exact bw_const hf rfl (fun hl _ _ _ _ _ _ _ _ _ _ _ _ _ _ _ _ _ _ hx hb _ _ hd kk => lv_bipush hx hb hd (by simpa [litE] using hl) kk) k
  case sipush n =>
    cases h
    exact bw_const hf rfl (fun hl _ _ _ _ _ _ _ _ _ _ _ _ _ _ _ _ _ _ hx hb _ _ hd kk => lv_sipush hx hb hd (by simpa [litE] using hl) kk) k
  case ldc x =>
    simp only [bstep] at h
    split at h
    · rename_i h9
      have h9 : tg = 999 := by simpa using h9
      cases h
      refine bw_const hf rfl (fun hl _ _ _ _ _ _ _ _ _ _ _ _ _ _ _ _ _ _ hx hb ho ht hd kk => lv_ldc hx hb ho (ht _ (ct_ok ?_)) hd kk) k
      simp only [litE, h9] at hl
      rw [Bool.or_eq_true] at hl
      rcases hl with hl | hl
      · simpa using hl
      · exfalso
        have : SRF.any (fun q => q.2.2.2 == 999) = false := by decide +kernel
        have h2 : SRF.any (fun q => q.2.2.2 == 999) = true := by
          obtain ⟨y, hy, hy2⟩ := List.any_eq_true.mp hl
          simp only [Bool.and_eq_true] at hy2
          exact List.any_eq_true.mpr ⟨y, hy, hy2.2.2⟩
        rw [this] at h2
        cases h2
    · cases h
  case iload_n j =>
    simp only [bstep] at h
    split at h
    · rename_i x hx0
      cases h
      intro hl p e s mid args below meth c C H locs la hP hz hcs hS hL
      obtain ⟨hx, hb, -, -, -, -, -, -, -, -, hok⟩ := id C
      obtain ⟨hd, hn⟩ := fetch_1 hok hf rfl
      subst hn
      exact lv_iload_n hx hb hd rfl (lRep_get hL hx0 rfl) (k hl p e s mid args below meth c C H locs la hP hz hcs hS hL)
    · cases h
  case aload_n j =>
    simp only [bstep] at h
    split at h
    · rename_i x hx0
      split at h
      · cases h
      · rename_i hq0
        cases h
        intro hl p e s mid args below meth c C H locs la hP hz hcs hS hL
        obtain ⟨hx, hb, -, -, -, -, -, -, -, -, hok⟩ := id C
        obtain ⟨hd, hn⟩ := fetch_1 hok hf rfl
        subst hn
        exact lv_aload_n hx hb hd rfl (lRep_get hL hx0 (by simpa [unk] using hq0)) (k hl p e s mid args below meth c C H locs la hP hz hcs hS hL)
    · cases h
  case istore_n j =>
    simp only [bstep] at h
    split at h
    · rename_i x r
      split at h
      · rename_i hc
        simp only [Bool.and_eq_true, decide_eq_true_eq] at hc
        cases h
        intro hl p e s mid args below meth c C H locs la hP hz hcs hS hL
        obtain ⟨hx, hb, -, -, -, -, -, -, -, -, hok⟩ := id C
        obtain ⟨hd, hn⟩ := fetch_1 hok hf rfl
        subst hn
        exact lv_istore_n hx hb hd rfl (lRep_has hL) hc.1 rfl (fun la' h' => k (by rw [List.length_set]; exact hl) p e s mid args below meth c C H locs la' hP hz hcs hS (lRep_set (v := vI x) hc.1 hc.2 h'))
      · cases h
    · cases h
  case iinc j n =>
    simp only [bstep] at h
    split at h
    · rename_i x hx0
      split at h
      · rename_i hno
        cases h
        intro hl p e s mid args below meth c C H locs la hP hz hcs hS hL
        obtain ⟨hx, hb, -, -, -, -, -, -, -, -, hok⟩ := id C
        obtain ⟨hd, hn⟩ := fetch_1 hok hf rfl
        subst hn
        have hlit : Int32.ofInt n = lit := by
          have := (fetch_ok hok hf).2.2
          simpa [litE] using this
        have hj : j < ls.length := by
          rcases Nat.lt_or_ge j ls.length with q | q
          · exact q
          · rw [List.getD_eq_getElem?_getD, List.getElem?_eq_none q] at hx0
            cases hx0
        have hm0 : (j, Value.int x) ∈ asc X ls := asc_mem.mpr ⟨vI x, by
          rw [List.getD_eq_getElem?_getD] at hx0
          cases hl0 : ls[j]? with
          | none => rw [hl0] at hx0; cases hx0
          | some w => rw [hl0] at hx0; have hx0 : w = vI x := hx0; rw [hx0], rfl, rfl⟩
        obtain ⟨kk, hkk⟩ := List.getElem?_of_mem hm0
        exact lv_iinc (v := x + lit) hx hb hd (lRep_has hL) hkk (by rw [hlit]) hj rfl (fun la' h' => k (by rw [List.length_set]; exact hl) p e s mid args below meth c C H locs la' hP hz hcs hS (lRep_set (v := vI (x + lit)) hj hno h'))
      · cases h
    · cases h
  case dup =>
    simp only [bstep] at h
    split at h
    · rename_i x r
      cases h
      exact bw_pure (st' := .inr (.inr x) :: .inr (.inr x) :: r) hf rfl (fun _ _ _ _ _ _ _ _ _ _ _ _ _ _ _ _ _ _ hx hb hd kk => lv_dup hx hb hd rfl kk) k
    · cases h
  case goto o =>
    cases h
    intro hl p e s mid args below meth c C H locs la hP hz hcs hS hL
    obtain ⟨hx, hb, -, -, -, -, -, -, -, -, hok⟩ := id C
    obtain ⟨hd, hn⟩ := fetch_1 hok hf rfl
    have htg : (pc : Int) + o = (tg : Int) := by
      have := (fetch_ok hok hf).2.2
      simpa [litE] using this
    exact lv_goto hx hb hd htg (k hl p e s mid args below meth c C H locs la hP hz hcs hS hL)
  case if_icmp cd o =>
    simp only [bstep] at h
    split at h
    · rename_i y x r
      split at h
      · cases h
        intro hl p e s mid args below meth c C H locs la hP hz hcs hS hL
        obtain ⟨hx, hb, -, -, -, -, -, -, -, -, hok⟩ := id C
        obtain ⟨hd, hn⟩ := fetch_1 hok hf rfl
        have hn : np = pc + 3 := hn
        subst hn
        have htg : (pc : Int) + o = (tg : Int) := by
          have := (fetch_ok hok hf).2.2
          simpa [litE] using this
        refine lv_icmp_ge hx hb hd htg (fun q => ?_) (fun q => ?_)
        · have hk := k hl p e s mid args below meth c C H locs la hP hz hcs hS hL
          rw [show (if x < y then pc + 3 else tg) = tg from if_neg (Int32.not_lt.mpr q)] at hk
          exact hk
        · have hk := k hl p e s mid args below meth c C H locs la hP hz hcs hS hL
          rw [show (if x < y then pc + 3 else tg) = pc + 3 from if_pos (Int32.not_le.mp q)] at hk
          exact hk
      · cases h
        intro hl p e s mid args below meth c C H locs la hP hz hcs hS hL
        obtain ⟨hx, hb, -, -, -, -, -, -, -, -, hok⟩ := id C
        obtain ⟨hd, hn⟩ := fetch_1 hok hf rfl
        have hn : np = pc + 3 := hn
        subst hn
        have htg : (pc : Int) + o = (tg : Int) := by
          have := (fetch_ok hok hf).2.2
          simpa [litE] using this
        refine lv_icmp_gt hx hb hd htg (fun q => ?_) (fun q => ?_)
        · have hk := k hl p e s mid args below meth c C H locs la hP hz hcs hS hL
          rw [show (if y < x then tg else pc + 3) = tg from if_pos q] at hk
          exact hk
        · have hk := k hl p e s mid args below meth c C H locs la hP hz hcs hS hL
          rw [show (if y < x then tg else pc + 3) = pc + 3 from if_neg q] at hk
          exact hk
      · cases h
    · cases h
  case new idx => exact bw_new hf h k
  case newarray a => exact bw_newA hf h k
  case anewarray idx => exact bw_newR hf h k
  case putfield idx => exact bw_put hf h k
  case getfield idx => exact bw_get hf h k
  case aastore => exact bw_aas hf h k
  case iastore => exact bw_ias hf h k
  case castore => exact bw_cas hf h k
  case invokespecial idx => exact bw_spc hlv h3 hR hf h k
  all_goals (cases h)
theorem BW.run {lv : Nat} (hlv : ∀ c, c < 12 → c ≠ 10 → LVL c + 1 ≤ lv → CtorOK l c) (h3 : lv ≤ 3) (hR : 5 * lv + 5 ≤ R.frames ∧ 60 * lv + 60 ≤ R.locals) : ∀ (n : Nat) (b b' : BS), brun μ.2.2.2.2.1 lv R.cells R.slots μ.2.2.2.2.2 n b = some b' → BW l X R μ Z b'.1 b'.2.1 b'.2.2.1 b'.2.2.2.1 b'.2.2.2.2.1 b'.2.2.2.2.2 → BW l X R μ Z b.1 b.2.1 b.2.2.1 b.2.2.2.1 b.2.2.2.2.1 b.2.2.2.2.2
  | 0, b, b', h, k => by cases h; exact k
  | n + 1, b, b', h, k => by
    unfold brun at h
    split at h
    · rename_i q hq
      split at h
      · rename_i b1 hb1
        exact BW.step hlv h3 hR hq hb1 (BW.run hlv h3 hR n b1 b' h k)
      · cases h
    · cases h
abbrev ZB (X : XT) (ci : Nat) : List Frame → Array Value → State → State → Prop := fun below args s => MQ below (PostB X ci) args s (CTC ci) (CTZ ci) (xA X)
theorem BW.rv {ci : Nat} (hf : (MIc ci).2.2.2.2.2.lookup pc = some (.return_, np, tg, lit)) (hr : (MIc ci).2.2.2.1 = none) : BW l X (rmB ci) (MIc ci) (ZB X ci) pc ls [] (CTL ci) (CTC ci) (CTZ ci) := by
  intro hl p e s mid args below meth c C H locs la hP hz hcs hS hL
  obtain ⟨hx, hb, hrr, -, hown, hts, hlk, -, -, -, hok⟩ := id C
  obtain ⟨hd, -⟩ := fetch_1 hok hf rfl
  exact W.vret hx hb (hrr.trans hr) (fun t ht hW => ⟨⟨(), rfl, trivial, by rw [ht]; exact hP, by rw [ht]; exact hz⟩, hS.F ht⟩) hS.2.2 hd
def ctF (ci : Nat) : Prop := okP (MIc ci).2.2.2.2.1 (MIc ci).2.1 (MIc ci).2.2.2.2.2 = true ∧ plainName (MIc ci).1.cls = true ∧ (MIc ci).1.cls = Rn (MIc ci).2.2.2.2.1 ∧ (MIc ci).1.name = "<init>" ∧ 1 ≤ (MIc ci).2.2.1 ∧ ci < 12 ∧ (MIc ci).2.2.2.1 = none
theorem ctor_enter {ci : Nat} (F : ctF ci) (k : ∀ X, BW l X (rmB ci) (MIc ci) (ZB X ci) 0 (ent (MIc ci).2.2.1 [vR (ci + 1) 0]) [] [.inl (ci, dfl ci)] 0 0) : CtorOK l ci := by
  obtain ⟨hok, hpl, hcl, hnm, h1, h12, -⟩ := F
  intro X
  refine Met.ofW (cc := (MIc ci).2.1) (maxL := (MIc ci).2.2.1) (ret := (MIc ci).2.2.2.1) hpl rfl ?_
  intro p e s mid args below meth c s₁ B hml hv
  obtain ⟨hargs, hP, hz, hKB⟩ := hv
  have hvs : ([.ref (xb X)] : List Value) = ([vR (ci + 1) 0]).map (cv X) := by
    rw [List.map_cons, ref_in (isX_lt (by omega))]
    rfl
  rw [hvs] at hargs
  subst hargs
  have hts := atoms_spec (ws := wsM (MIc ci)) B.pre
  have hown : s.vm.findClass (MIc ci).1.cls = some mid.cls := findClass_of_methodNamed B.named
  have hin : meth.name = "<init>" := by rw [(name_of_methodNamed B.named B.method).1]; exact hnm
  have hl := lv_entry (([vR (ci + 1) 0]).map (cv X)) (n := (MIc ci).2.2.1) (by rw [entL_len]; exact h1)
  rw [lg_entry_eq]
  have hlen : (ent (MIc ci).2.2.1 [vR (ci + 1) 0]).length = (MIc ci).2.2.1 := by
    unfold ent
    rw [List.length_append, List.length_replicate]
    show 1 + _ = _
    show 1 + ((MIc ci).2.2.1 - 1) = _
    omega
  refine k X hlen p e s mid _ below meth c ⟨B.exec, B.bytes, B.returns, hml, by rw [← hcl]; exact hown, fun w hw => hts w (List.mem_cons_of_mem _ hw), B.notSynchronized, hKB, hin, by omega, hok⟩ s.heap [] _ hP hz (by rw [hz]; rfl) va_S.rf ?_
  refine lRep_of hl hlen.symm (fun j v hj hu => ?_)
  unfold ent at hj
  by_cases hjl : j < (entL [vR (ci + 1) 0]).length
  · rw [List.getElem?_append_left hjl] at hj
    have := entL_in (X := X) [vR (ci + 1) 0] 0 j v hj hu
    rwa [Nat.zero_add] at this
  · rw [List.getElem?_append_right (by omega)] at hj
    have := List.eq_of_mem_replicate (List.mem_of_getElem? hj)
    subst this
    cases hu
theorem ctor_of {ci n : Nat} {lsR : List AV} (F : ctF ci) (hlv : ∀ c, c < 12 → c ≠ 10 → LVL c + 1 ≤ LVL ci → CtorOK l c) (h3 : LVL ci ≤ 3) (hrun : bsB (brun (MIc ci).2.2.2.2.1 (LVL ci) (CTC ci) (CTZ ci) (MIc ci).2.2.2.2.2 n (0, ent (MIc ci).2.2.1 [vR (ci + 1) 0], [], [.inl (ci, dfl ci)], 0, 0)) (pc, lsR, [], CTL ci, CTC ci, CTZ ci) = true)
    (hret : (MIc ci).2.2.2.2.2.lookup pc = some (.return_, np, tg, lit)) : CtorOK l ci := by
  refine ctor_enter F (fun X => ?_)
  have hR : 5 * LVL ci + 5 ≤ (rmB ci).frames ∧ 60 * LVL ci + 60 ≤ (rmB ci).locals := by
    show 5 * LVL ci + 5 ≤ 5 * (LVL ci + 1) ∧ 60 * LVL ci + 60 ≤ 60 * (LVL ci + 1)
    omega
  exact BW.run (R := rmB ci) (μ := MIc ci) hlv h3 hR n _ (pc, lsR, [], CTL ci, CTC ci, CTZ ci) (bsB_eq hrun) (BW.rv hret F.2.2.2.2.2.2)
end

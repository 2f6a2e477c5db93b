section
variable {G : GG} {pc np tg : Nat} {lit : Int32} {ls st st' r : List AV} {m : Mem}
-- ===== branches =====
def abr (q : Instr × Nat × Nat × Int32) (st : List AV) : Option (Prop × Nat × Nat × List AV) := match q with
  | (i, np, tg, _) => match i with
  | .ifCond c _ => match st with
    | .inl x :: r => match c with
      | .eq => some (x = 0, tg, np, r)
      | .ne => some (x = 0, np, tg, r)
      | .lt => some (x < 0, tg, np, r)
      | .ge => some (x < 0, np, tg, r)
      | .gt => some (0 < x, tg, np, r)
      | .le => some (0 < x, np, tg, r)
    | _ => none
  | .if_icmp c _ => match st with
    | .inl y :: .inl x :: r => match c with
      | .eq => some (x = y, tg, np, r)
      | .ne => some (x = y, np, tg, r)
      | .lt => some (x < y, tg, np, r)
      | .ge => some (x < y, np, tg, r)
      | .gt => some (y < x, tg, np, r)
      | .le => some (y < x, np, tg, r)
    | _ => none
  | _ => none
theorem aw_br1 {c : Jvm.ClassFile.Cond} {o : Int} {x : Int32} {cd : Prop} {t1 t2 : Nat} (hf : G.2.2.2.2.2.1.2.2.2.2.2.lookup pc = some (.ifCond c o, np, tg, lit)) (h : abr (.ifCond c o, np, tg, lit) (vI x :: r) = some (cd, t1, t2, st')) (k1 : cd → AW G t1 ls st' m) (k2 : ¬ cd → AW G t2 ls st' m) : AW G pc ls (vI x :: r) m := by
  intro hl hol hos p e s mid args below meth co C H locs la hPw hS hL
  obtain ⟨hx, hb, -, -, hown, hts, -, -, -, -, -, -, -, hok⟩ := id C
  obtain ⟨hd, hn⟩ := fetch_1 hok hf rfl
  have hn : np = pc + 3 := hn
  subst hn
  have htg : (pc : Int) + o = (tg : Int) := by
    have := (fetch_ok hok hf).2.2
    simpa [litE] using this
  have ho := (okl_cons.mp hos).2
  cases c
  case eq => cases h; exact lv_if_eq hx hb hd htg (fun q => k1 q hl hol ho p e s mid args below meth co C H locs la hPw hS hL) (fun q => k2 q hl hol ho p e s mid args below meth co C H locs la hPw hS hL)
  case ne => cases h; exact lv_if_ne hx hb hd htg (fun q => k2 q hl hol ho p e s mid args below meth co C H locs la hPw hS hL) (fun q => k1 q hl hol ho p e s mid args below meth co C H locs la hPw hS hL)
  case lt => cases h; exact lv_if_lt hx hb hd htg (fun q => k1 q hl hol ho p e s mid args below meth co C H locs la hPw hS hL) (fun q => k2 q hl hol ho p e s mid args below meth co C H locs la hPw hS hL)
  case ge => cases h; exact lv_if_ge hx hb hd htg (fun q => k2 (Int32.not_lt.mpr q) hl hol ho p e s mid args below meth co C H locs la hPw hS hL) (fun q => k1 (Int32.not_le.mp q) hl hol ho p e s mid args below meth co C H locs la hPw hS hL)
  case gt => cases h; exact lv_if_gt hx hb hd htg (fun q => k1 q hl hol ho p e s mid args below meth co C H locs la hPw hS hL) (fun q => k2 q hl hol ho p e s mid args below meth co C H locs la hPw hS hL)
  case le => cases h; exact lv_if_le hx hb hd htg (fun q => k2 (Int32.not_lt.mpr q) hl hol ho p e s mid args below meth co C H locs la hPw hS hL) (fun q => k1 (Int32.not_le.mp q) hl hol ho p e s mid args below meth co C H locs la hPw hS hL)
theorem aw_br2 {c : Jvm.ClassFile.Cond} {o : Int} {x y : Int32} {cd : Prop} {t1 t2 : Nat} (hf : G.2.2.2.2.2.1.2.2.2.2.2.lookup pc = some (.if_icmp c o, np, tg, lit)) (h : abr (.if_icmp c o, np, tg, lit) (vI y :: vI x :: r) = some (cd, t1, t2, st')) (k1 : cd → AW G t1 ls st' m) (k2 : ¬ cd → AW G t2 ls st' m) : AW G pc ls (vI y :: vI x :: r) m := by
  intro hl hol hos p e s mid args below meth co C H locs la hPw hS hL
  obtain ⟨hx, hb, -, -, hown, hts, -, -, -, -, -, -, -, hok⟩ := id C
  obtain ⟨hd, hn⟩ := fetch_1 hok hf rfl
  have hn : np = pc + 3 := hn
  subst hn
  have htg : (pc : Int) + o = (tg : Int) := by
    have := (fetch_ok hok hf).2.2
    simpa [litE] using this
  have ho := (okl_cons.mp (okl_cons.mp hos).2).2
  cases c
  case eq => cases h; exact lv_icmp_eq hx hb hd htg (fun q => k1 q hl hol ho p e s mid args below meth co C H locs la hPw hS hL) (fun q => k2 q hl hol ho p e s mid args below meth co C H locs la hPw hS hL)
  case ne => cases h; exact lv_icmp_ne hx hb hd htg (fun q => k2 q hl hol ho p e s mid args below meth co C H locs la hPw hS hL) (fun q => k1 q hl hol ho p e s mid args below meth co C H locs la hPw hS hL)
  case lt => cases h; exact lv_icmp_lt hx hb hd htg (fun q => k1 q hl hol ho p e s mid args below meth co C H locs la hPw hS hL) (fun q => k2 q hl hol ho p e s mid args below meth co C H locs la hPw hS hL)
  case ge => cases h; exact lv_icmp_ge hx hb hd htg (fun q => k2 (Int32.not_lt.mpr q) hl hol ho p e s mid args below meth co C H locs la hPw hS hL) (fun q => k1 (Int32.not_le.mp q) hl hol ho p e s mid args below meth co C H locs la hPw hS hL)
  case gt => cases h; exact lv_icmp_gt hx hb hd htg (fun q => k1 q hl hol ho p e s mid args below meth co C H locs la hPw hS hL) (fun q => k2 q hl hol ho p e s mid args below meth co C H locs la hPw hS hL)
  case le => cases h; exact lv_icmp_le hx hb hd htg (fun q => k2 (Int32.not_lt.mpr q) hl hol ho p e s mid args below meth co C H locs la hPw hS hL) (fun q => k1 (Int32.not_le.mp q) hl hol ho p e s mid args below meth co C H locs la hPw hS hL)
theorem AW.br {q : Instr × Nat × Nat × Int32} {cd : Prop} {t1 t2 : Nat} (hf : G.2.2.2.2.2.1.2.2.2.2.2.lookup pc = some q) (h : abr q st = some (cd, t1, t2, st')) (k1 : cd → AW G t1 ls st' m) (k2 : ¬ cd → AW G t2 ls st' m) : AW G pc ls st m := by
  obtain ⟨i, np, tg, lit⟩ := q
  cases i
  case ifCond c o =>
    rcases st with _ | ⟨x | x | x, r⟩
    · cases h
    · exact aw_br1 hf h k1 k2
    · cases h
    · cases h
  case if_icmp c o =>
    rcases st with _ | ⟨y | y | y, _ | ⟨x | x | x, r⟩⟩
    · cases h
    · cases h
    · exact aw_br2 hf h k1 k2
    all_goals (cases h)
  all_goals (cases h)
theorem AW.tin {d lo hi off : Int} {offs : Array Int} {x : Int32} {tgt : Nat} (hf : G.2.2.2.2.2.1.2.2.2.2.2.lookup pc = some (.tableswitch d lo hi offs, np, tg, lit)) (h1 : ¬ x.toInt < lo) (h2 : ¬ hi < x.toInt) (ho : offs[(x.toInt - lo).toNat]? = some off) (ht : (pc : Int) + off = (tgt : Int)) (k : AW G tgt ls r m) : AW G pc ls (vI x :: r) m := by
  intro hl hol hos p e s mid args below meth co C H locs la hPw hS hL
  obtain ⟨hx, hb, -, -, hown, hts, -, -, -, -, -, -, -, hok⟩ := id C
  exact lv_tableIn hx hb (fetch_ok hok hf).1 h1 h2 ho ht (k hl hol (okl_cons.mp hos).2 p e s mid args below meth co C H locs la hPw hS hL)
theorem AW.tout {d lo hi : Int} {offs : Array Int} {x : Int32} {tgt : Nat} (hf : G.2.2.2.2.2.1.2.2.2.2.2.lookup pc = some (.tableswitch d lo hi offs, np, tg, lit)) (h : x.toInt < lo ∨ hi < x.toInt) (ht : (pc : Int) + d = (tgt : Int)) (k : AW G tgt ls r m) : AW G pc ls (vI x :: r) m := by
  intro hl hol hos p e s mid args below meth co C H locs la hPw hS hL
  obtain ⟨hx, hb, -, -, hown, hts, -, -, -, -, -, -, -, hok⟩ := id C
  exact lv_tableOut hx hb (fetch_ok hok hf).1 h ht (k hl hol (okl_cons.mp hos).2 p e s mid args below meth co C H locs la hPw hS hL)
theorem AW.look {d off : Int} {ps : Array (Int × Int)} {x : Int32} {tgt : Nat} (hf : G.2.2.2.2.2.1.2.2.2.2.2.lookup pc = some (.lookupswitch d ps, np, tg, lit)) (hp : (ps.toList.zip (ps.toList.drop 1)).all (fun (a, next) => a.1 < next.1) = true) (ho : Op.lookupswitch.offset ps.toList d x.toInt = off) (ht : (pc : Int) + off = (tgt : Int)) (k : AW G tgt ls r m) : AW G pc ls (vI x :: r) m := by
  intro hl hol hos p e s mid args below meth co C H locs la hPw hS hL
  obtain ⟨hx, hb, -, -, hown, hts, -, -, -, -, -, -, -, hok⟩ := id C
  exact lv_lookup hx hb (fetch_ok hok hf).1 hp ho ht (k hl hol (okl_cons.mp hos).2 p e s mid args below meth co C H locs la hPw hS hL)
-- ===== methods: contract, entry, end =====
def rmd (d : Nat) : Room := { frames := d, cells := 0, slots := 0, locals := 60 * d }
def wsM (μ : MI) : List Cond := .code μ.1 μ.2.1 μ.2.2.1 μ.2.2.2.1 :: GT
def PreM (X : XT) (m : Mem) (vs : List AV) : Array Value → State → Prop := fun v U => v = (vs.map (cv X)).toArray ∧ va_P (xD X) vwCl (wsOf X m) U.heap ∧ va_K (xD X) vwCl (tysOf X) U ∧ KS X U U.heap ∧ xb X ≤ U.heap.size
def PostM (X : XT) (Q : Option AV → Mem → Prop) : Array Value → State → Outcome → State → Prop := fun _ st o t => (∃ (r : Option AV) (m' : Mem), o = .returned (r.map (cv X)) ∧ Q r m' ∧ okl X r.toList ∧ va_P (xD X) vwCl (wsOf X m') t.heap) ∧ va_F (xA X) st t
def ZM (X : XT) (Q : Option AV → Mem → Prop) : List Frame → Array Value → State → State → Prop := fun below args s => MQ below (PostM X Q) args s 0 0 (xA X)
/-- the method, called with vs where the cells hold m, returns, and Q holds of answer and cells then -/
def Meth (l : Launch) (X : XT) (d : Nat) (μ : MI) (vs : List AV) (m : Mem) (Q : Option AV → Mem → Prop) : Prop :=
  (xN X = NC ∨ xN X = NTT) → okl X vs → Met l μ.1 (wsM μ) (rmd d) (PreM X m vs) (PostM X Q) 0 0 (xA X)
abbrev GM (l : Launch) (X : XT) (d : Nat) (μ : MI) (Q : Option AV → Mem → Prop) : GG := (l, X, rmd d, 0, 0, μ, ZM X Q)
def entL (vs : List AV) : List AV := match vs with
  | [] => []
  | .inr (.inl x) :: r => vJ x :: vU :: entL r
  | v :: r => v :: entL r
def ent (n : Nat) (vs : List AV) : List AV := entL vs ++ List.replicate (n - (entL vs).length) vU
theorem entL_in {X : XT} (vs : List AV) : ∀ (o k : Nat) (v : AV), (entL vs)[k]? = some v → unk v = false → (o + k, cv X v) ∈ lv_args o (vs.map (cv X)) := by
  induction vs with
  | nil => intro o k v h; simp [entL] at h
  | cons a r ih =>
    intro o k v h hu
    rcases a with x | x | q
    · have e : entL ((.inl x : AV) :: r) = vI x :: entL r := rfl
      rw [e] at h
      cases k with
      | zero => cases h; exact List.mem_cons_self
      | succ k =>
        have := ih (o + 1) k v h hu
        rw [show o + 1 + k = o + (k + 1) by omega] at this
        exact List.mem_cons_of_mem _ this
    · have e : entL ((.inr (.inl x) : AV) :: r) = vJ x :: vU :: entL r := rfl
      rw [e] at h
      match k, h with
      | 0, h => cases h; exact List.mem_cons_self
      | 1, h => cases h; cases hu
      | k + 2, h =>
        have := ih (o + 2) k v h hu
        rw [show o + 2 + k = o + (k + 2) by omega] at this
        exact List.mem_cons_of_mem _ this
    · have e : entL ((.inr (.inr q) : AV) :: r) = .inr (.inr q) :: entL r := rfl
      rw [e] at h
      cases k with
      | zero => cases h; exact List.mem_cons_self
      | succ k =>
        have := ih (o + 1) k v h hu
        rw [show o + 1 + k = o + (k + 1) by omega] at this
        exact List.mem_cons_of_mem _ this
theorem entL_len {X : XT} (vs : List AV) : (lg_sl (vs.map (cv X))).length = (entL vs).length := by
  induction vs with
  | nil => rfl
  | cons a r ih =>
    rcases a with x | x | q
    · show (Slot.val (.int x) :: lg_sl (r.map (cv X))).length = (vI x :: entL r).length
      simp [ih]
    · show (Slot.val (.long x) :: Slot.second :: lg_sl (r.map (cv X))).length = (vJ x :: vU :: entL r).length
      simp [ih]
    · show (Slot.val _ :: lg_sl (r.map (cv X))).length = (_ :: entL r).length
      simp [ih]
theorem ent_ok {X : XT} (vs : List AV) (h : okl X vs) : okl X (entL vs) := by
  induction vs with
  | nil => exact h
  | cons a r ih =>
    have h1 := okl_cons.mp h
    rcases a with x | x | q
    · exact okl_cons.mpr ⟨h1.1, ih h1.2⟩
    · exact okl_cons.mpr ⟨h1.1, okl_cons.mpr ⟨okv_U, ih h1.2⟩⟩
    · exact okl_cons.mpr ⟨h1.1, ih h1.2⟩
theorem Meth.enter {l : Launch} {X : XT} {d : Nat} {μ : MI} {vs : List AV} {Q : Option AV → Mem → Prop} (hok : okP μ.2.2.2.2.1 μ.2.1 μ.2.2.2.2.2 = true) (hpl : plainName μ.1.cls = true) (hcl : μ.1.cls = Rn μ.2.2.2.2.1) (hn : (entL vs).length ≤ μ.2.2.1) (k : AW (GM l X d μ Q) 0 (ent μ.2.2.1 vs) [] m) : Meth l X d μ vs m Q := by
  intro hN hov
  refine Met.ofW (cc := μ.2.1) (maxL := μ.2.2.1) (ret := μ.2.2.2.1) hpl rfl ?_
  intro p e s mid args below meth c s₁ B hml hv
  obtain ⟨rfl, hP, hK, hKS, hbz⟩ := hv
  have hts := atoms_spec (ws := wsM μ) B.pre
  have hown : s.vm.findClass μ.1.cls = some mid.cls := findClass_of_methodNamed B.named
  have hl := lv_entry (vs.map (cv X)) (n := μ.2.2.1) (by rw [entL_len]; exact hn)
  rw [lg_entry_eq]
  have hlen : (ent μ.2.2.1 vs).length = μ.2.2.1 := by
    unfold ent
    rw [List.length_append, List.length_replicate]
    omega
  refine k hlen ?_ okl_nil p e s mid _ below meth c ⟨B.exec, B.bytes, B.returns, hml, by rw [← hcl]; exact hown, fun w hw => hts w (List.mem_cons_of_mem _ hw), B.notSynchronized, hK, hKS, hN, hbz, Nat.le_refl _, Nat.le_refl _, hok⟩ s.heap [] _ hP va_S.rf ?_
  · intro v hv
    unfold ent at hv
    rcases List.mem_append.mp hv with h | h
    · exact ent_ok vs hov v h
    · rw [(List.mem_replicate.mp h).2]
      exact okv_U
  · refine lRep_of hl hlen.symm (fun j v hj hu => ?_)
    unfold ent at hj
    by_cases hjl : j < (entL vs).length
    · rw [List.getElem?_append_left hjl] at hj
      have := entL_in (X := X) vs 0 j v hj hu
      rwa [Nat.zero_add] at this
    · rw [List.getElem?_append_right (by omega)] at hj
      have := List.eq_of_mem_replicate (List.mem_of_getElem? hj)
      subst this
      cases hu
theorem AW.ri {l : Launch} {X : XT} {d : Nat} {μ : MI} {Q : Option AV → Mem → Prop} {v : Int32} {ty : FieldType} (hf : μ.2.2.2.2.2.lookup pc = some (.ireturn, np, tg, lit)) (hr : μ.2.2.2.1 = some ty) (hn : narrow ty (.int v) = .int v) (hq : Q (some (vI v)) m) : AW (GM l X d μ Q) pc ls [vI v] m := by
  intro hl hol hos p e s mid args below meth co C H locs la hPw hS hL
  obtain ⟨hx, hb, hrr, -, hown, hts, hlk, -, -, -, -, -, -, hok⟩ := id C
  obtain ⟨hd, -⟩ := fetch_1 hok hf rfl
  exact W.zret (ty := ty) (v := v) hx hb (hrr.trans hr) hn (fun t ht hW => ⟨⟨some (vI v), m, rfl, hq, hos, by rw [ht]; exact hPw⟩, hS.F ht⟩) hS.2.2 hd
theorem AW.rl {l : Launch} {X : XT} {d : Nat} {μ : MI} {Q : Option AV → Mem → Prop} {v : Int64} (hf : μ.2.2.2.2.2.lookup pc = some (.lreturn, np, tg, lit)) (hr : μ.2.2.2.1 = some .long) (hq : Q (some (vJ v)) m) : AW (GM l X d μ Q) pc ls [vJ v] m := by
  intro hl hol hos p e s mid args below meth co C H locs la hPw hS hL
  obtain ⟨hx, hb, hrr, -, hown, hts, hlk, -, -, -, -, -, -, hok⟩ := id C
  obtain ⟨hd, -⟩ := fetch_1 hok hf rfl
  exact W.lret (v := v) hx hb (hrr.trans hr) (fun t ht hW => ⟨⟨some (vJ v), m, rfl, hq, hos, by rw [ht]; exact hPw⟩, hS.F ht⟩) hS.2.2 hd
theorem AW.ra {l : Launch} {X : XT} {d : Nat} {μ : MI} {Q : Option AV → Mem → Prop} {t h : Nat} {ty : FieldType} (hf : μ.2.2.2.2.2.lookup pc = some (.areturn, np, tg, lit)) (hr : μ.2.2.2.1 = some ty) (hty : (∃ n, ty = .object n) ∨ ∃ t, ty = .array t) (hq : Q (some (vR t h)) m) : AW (GM l X d μ Q) pc ls [vR t h] m := by
  intro hl hol hos p e s mid args below meth co C H locs la hPw hS hL
  obtain ⟨hx, hb, hrr, -, hown, hts, hlk, -, -, -, -, -, -, hok⟩ := id C
  obtain ⟨hd, -⟩ := fetch_1 hok hf rfl
  exact W.aret (v := cv X (vR t h)) hx hb (hrr.trans hr) hty (Or.inr ⟨_, rfl⟩) (fun T ht hW => ⟨⟨some (vR t h), m, rfl, hq, hos, by rw [ht]; exact hPw⟩, hS.F ht⟩) hS.2.2 hd
theorem AW.rv {l : Launch} {X : XT} {d : Nat} {μ : MI} {Q : Option AV → Mem → Prop} (hf : μ.2.2.2.2.2.lookup pc = some (.return_, np, tg, lit)) (hr : μ.2.2.2.1 = none) (hq : Q none m) : AW (GM l X d μ Q) pc ls [] m := by
  intro hl hol hos p e s mid args below meth co C H locs la hPw hS hL
  obtain ⟨hx, hb, hrr, -, hown, hts, hlk, -, -, -, -, -, -, hok⟩ := id C
  obtain ⟨hd, -⟩ := fetch_1 hok hf rfl
  exact W.vret hx hb (hrr.trans hr) (fun t ht hW => ⟨⟨none, m, rfl, hq, okl_nil, by rw [ht]; exact hPw⟩, hS.F ht⟩) hS.2.2 hd
end

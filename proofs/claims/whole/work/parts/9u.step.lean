-- ===== a constructor's step =====
abbrev BS : Type := Nat × List AV × List AV × List CE × Nat × Nat
def shRV (i : Nat) (v : RV) : RV := match v with
  | none => none
  | some (.inl x) => some (.inl x)
  | some (.inr j) => some (.inr (i + j))
def shC (i : Nat) (c : CE) : CE := match c with
  | .inl q => .inl (q.1, q.2.map (shRV i))
  | .inr (k, n, .inl u) => .inr (k, n, .inl u)
  | .inr (t, n, .inr l) => .inr (t, n, .inr (l.map (fun v => v.map (fun j => i + j))))
def ceB (a b : CE) : Bool := match a, b with
  | .inl p, .inl q => p.1 == q.1 && decide (p.2 = q.2)
  | .inr (k, n, x), .inr (k', n', y) => k == k' && (n == n' && decide (x = y))
  | _, _ => false
theorem ceB_eq {a b : CE} (h : ceB a b = true) : a = b := by
  rcases a with ⟨c, fs⟩ | ⟨k, n, x⟩ <;> rcases b with ⟨c', fs'⟩ | ⟨k', n', x'⟩
  · simp only [ceB, Bool.and_eq_true, beq_iff_eq, decide_eq_true_eq] at h
    rw [h.1, h.2]
  · cases h
  · cases h
  · simp only [ceB, Bool.and_eq_true, beq_iff_eq, decide_eq_true_eq] at h
    rw [h.1, h.2.1, h.2.2]
def cellB (a : Option CE) (b : CE) : Bool := match a with
  | some c => ceB c b
  | none => false
theorem cellB_eq {a : Option CE} {b : CE} (h : cellB a b = true) : a = some b := by
  cases a with
  | none => cases h
  | some c => rw [ceB_eq h]
def lceB (a b : List CE) : Bool := match a, b with
  | [], [] => true
  | x :: r, y :: t => ceB x y && lceB r t
  | _, _ => false
theorem lceB_eq : ∀ {a b : List CE}, lceB a b = true → a = b
  | [], [], _ => rfl
  | x :: r, y :: t, h => by
    simp only [lceB, Bool.and_eq_true] at h
    rw [ceB_eq h.1, lceB_eq h.2]
  | [], _ :: _, h => by cases h
  | _ :: _, [], h => by cases h
def bsB (a : Option BS) (b : BS) : Bool := match a with
  | some c => c.1 == b.1 && (decide (c.2.1 = b.2.1) && (decide (c.2.2.1 = b.2.2.1) && (lceB c.2.2.2.1 b.2.2.2.1 && (c.2.2.2.2.1 == b.2.2.2.2.1 && c.2.2.2.2.2 == b.2.2.2.2.2))))
  | none => false
theorem bsB_eq {a : Option BS} {b : BS} (h : bsB a b = true) : a = some b := by
  cases a with
  | none => cases h
  | some c =>
    obtain ⟨c1, c2, c3, c4, c5, c6⟩ := c
    obtain ⟨b1, b2, b3, b4, b5, b6⟩ := b
    simp only [bsB, Bool.and_eq_true, beq_iff_eq, decide_eq_true_eq] at h
    obtain ⟨h1, h2, h3, h4, h5, h6⟩ := h
    rw [h1, h2, h3, lceB_eq h4, h5, h6]
def akd (a : ArrayType) : Option (Nat × Nat) := match a with
  | .int => some (0, 1000)
  | .boolean => some (1, 4000)
  | .char => some (2, 5000)
  | _ => none
def isRefD (d : String) : Bool := match parseFieldDescriptor d with
  | some (.object _) => true
  | some (.array _) => true
  | _ => false
def finB (own t k : Nat) : Bool := match vwCl[t - 1]? with
  | some q => (q.2.1 k).2.2.2 && (decide ((q.2.1 k).1 = Rn own) && isRefD (q.2.1 k).2.2.1)
  | none => false
def bNew (own Rc Rs idx np : Nat) (ls st : List AV) (L : List CE) (cs ss : Nat) : Option BS := match NTB.find? (fun e => e.1 == own && e.2.1 == idx) with
  | some (_, _, ci, N, _) => if Nat.ble (cs + 1) Rc && Nat.ble (ss + N) Rs then some (np, ls, vR (ci + 1) L.length :: st, L ++ [.inl (ci, dfl ci)], cs + 1, ss + N) else none
  | none => none
def bNewA (Rc Rs np : Nat) (a : ArrayType) (ls st : List AV) (L : List CE) (cs ss : Nat) : Option BS := match st with
  | .inl n :: r => match akd a with
    | some (k, b) => if decide (¬ n < 0) && (Nat.ble n.toNatClampNeg 10000 && (Nat.ble (cs + 1) Rc && Nat.ble (ss + n.toNatClampNeg) Rs)) then some (np, ls, vR (b + n.toNatClampNeg) L.length :: r, L ++ [.inr (k, n.toNatClampNeg, .inl [])], cs + 1, ss + n.toNatClampNeg) else none
    | none => none
  | _ => none
def bNewR (own Rc Rs idx np : Nat) (ls st : List AV) (L : List CE) (cs ss : Nat) : Option BS := match st with
  | .inl n :: r => match ATB.find? (fun e => e.1 == own && e.2.1 == idx) with
    | some (_, _, t, _) => if decide (¬ n < 0) && (Nat.ble n.toNatClampNeg 10000 && (Nat.ble (cs + 1) Rc && Nat.ble (ss + n.toNatClampNeg) Rs)) then some (np, ls, vR t L.length :: r, L ++ [.inr (t, n.toNatClampNeg, .inr (List.replicate n.toNatClampNeg none))], cs + 1, ss + n.toNatClampNeg) else none
    | none => none
  | _ => none
def bPut (own idx np : Nat) (ls st : List AV) (L : List CE) (cs ss : Nat) : Option BS := match st with
  | .inl x :: .inr (.inr (t, h)) :: r => match ftO own idx with
    | some (t', k, _) => match L[h]? with
      | some (.inl (ci, fs)) => if t == t' && (ci + 1 == t && (decide (k < fs.length) && (shp t).getD k (1, 0) == (0, 0))) then some (np, ls, r, L.set h (.inl (ci, fs.set k (some (.inl x)))), cs, ss) else none
      | _ => none
    | none => none
  | .inr (.inr (t2, h2)) :: .inr (.inr (t, h)) :: r => match ftO own idx with
    | some (t', k, _) => match L[h]? with
      | some (.inl (ci, fs)) => if t == t' && (ci + 1 == t && (decide (k < fs.length) && (!(isX t2) && finB own t k))) then some (np, ls, r, L.set h (.inl (ci, fs.set k (some (.inr h2)))), cs, ss) else none
      | _ => none
    | none => none
  | _ => none
def bGet (own idx np : Nat) (ls st : List AV) (L : List CE) (cs ss : Nat) : Option BS := match st with
  | .inr (.inr (t, h)) :: r => match ftO own idx with
    | some (t', k, _) => match L[h]? with
      | some (.inl (ci, fs)) => match fs[k]? with
        | some (some (.inr i)) => if t == t' && (ci + 1 == t && (!(isX ((shp t).getD k (0, 0)).1))) then some (np, ls, vR ((shp t).getD k (0, 0)).1 i :: r, L, cs, ss) else none
        | _ => none
      | _ => none
    | none => none
  | _ => none
def bAas (np : Nat) (ls st : List AV) (L : List CE) (cs ss : Nat) : Option BS := match st with
  | .inr (.inr (tv, v)) :: .inl i :: .inr (.inr (t, h)) :: r => match L[h]? with
    | some (.inr (t', n, .inr l)) => match L[v]? with
      | some (.inl (ci, _)) => if decide (20 ≤ t') && (decide (t' < 24) && (t == t' && (tv == ci + 1 && (rty t' == ci + 1 && (decide (ci < 12) && (decide (¬ i < 0) && (decide (i.toNatClampNeg < n) && l.length == n))))))) then some (np, ls, r, L.set h (.inr (t', n, .inr (l.set i.toNatClampNeg (some v)))), cs, ss) else none
      | _ => none
    | _ => none
  | _ => none
def bIas (kd lo : Nat) (nar : Int32 → Int32) (np : Nat) (ls st : List AV) (L : List CE) (cs ss : Nat) : Option BS := match st with
  | .inl x :: .inl i :: .inr (.inr (t, h)) :: r => match L[h]? with
    | some (.inr (k, n, .inl u)) => if k == kd && (t == lo + n && (decide (¬ i < 0) && decide (i.toNatClampNeg < n))) then some (np, ls, r, L.set h (.inr (k, n, .inl ((i.toNatClampNeg, nar x) :: u))), cs, ss) else none
    | _ => none
  | _ => none
def bSpc (own lv Rc Rs idx np : Nat) (ls st : List AV) (L : List CE) (cs ss : Nat) : Option BS := match st with
  | .inr (.inr (t, h)) :: r => match OTB.find? (fun e => e.1 == own && e.2.1 == idx) with
    | some _ => if !(isX t) && Nat.ble (r.map catA).sum 8 then some (np, ls, r, L, cs, ss) else none
    | none => match CTB.find? (fun e => e.1 == own && e.2.1 == idx) with
      | some (_, _, ci, _) => if t == ci + 1 && (h + 1 == L.length && (cellB L[h]? (.inl (ci, dfl ci)) && (Nat.ble (LVL ci + 1) lv && (Nat.ble (cs + CTC ci) Rc && (Nat.ble (ss + CTZ ci) Rs && Nat.ble (r.map catA).sum 8))))) then some (np, ls, r, L.take h ++ (CTL ci).map (shC h), cs + CTC ci, ss + CTZ ci) else none
      | none => none
  | _ => none
def bstep (own lv Rc Rs : Nat) (q : Instr × Nat × Nat × Int32) (ls st : List AV) (L : List CE) (cs ss : Nat) : Option BS := match q with
  | (i, np, tg, lit) => match i with
  | .iconst _ => some (np, ls, .inl lit :: st, L, cs, ss)
  | .bipush _ => some (np, ls, .inl lit :: st, L, cs, ss)
  | .sipush _ => some (np, ls, .inl lit :: st, L, cs, ss)
  | .ldc _ => if tg == 999 then some (np, ls, .inl lit :: st, L, cs, ss) else none
  | .iload_n k => match ls.getD k.val vU with
    | .inl x => some (np, ls, .inl x :: st, L, cs, ss)
    | _ => none
  | .aload_n k => match ls.getD k.val vU with
    | .inr (.inr q) => if q.1 == 0 then none else some (np, ls, .inr (.inr q) :: st, L, cs, ss)
    | _ => none
  | .istore_n k => match st with
    | .inl x :: r => if decide (k.val < ls.length) && noL ls k.val then some (np, ls.set k.val (.inl x), r, L, cs, ss) else none
    | _ => none
  | .iinc k _ => match ls.getD k vU with
    | .inl x => if noL ls k then some (np, ls.set k (.inl (x + lit)), st, L, cs, ss) else none
    | _ => none
  | .dup => match st with
    | .inr (.inr x) :: r => some (np, ls, .inr (.inr x) :: .inr (.inr x) :: r, L, cs, ss)
    | _ => none
  | .goto _ => some (tg, ls, st, L, cs, ss)
  | .if_icmp c _ => match st with
    | .inl y :: .inl x :: r => match c with
      | .ge => some (if x < y then np else tg, ls, r, L, cs, ss)
      | .gt => some (if y < x then tg else np, ls, r, L, cs, ss)
      | _ => none
    | _ => none
  | .new idx => bNew own Rc Rs idx np ls st L cs ss
  | .newarray a => bNewA Rc Rs np a ls st L cs ss
  | .anewarray idx => bNewR own Rc Rs idx np ls st L cs ss
  | .putfield idx => bPut own idx np ls st L cs ss
  | .getfield idx => bGet own idx np ls st L cs ss
  | .aastore => bAas np ls st L cs ss
  | .iastore => bIas 0 1000 (fun x => x) np ls st L cs ss
  | .castore => bIas 2 5000 (vp_nar .char) np ls st L cs ss
  | .invokespecial idx => bSpc own lv Rc Rs idx np ls st L cs ss
  | _ => none
def brun (own lv Rc Rs : Nat) (P : List PE) (n : Nat) (b : BS) : Option BS := match n with
  | 0 => some b
  | n + 1 => match P.lookup b.1 with
    | some q => match bstep own lv Rc Rs q b.2.1 b.2.2.1 b.2.2.2.1 b.2.2.2.2.1 b.2.2.2.2.2 with
      | some b' => brun own lv Rc Rs P n b'
      | none => none
    | none => none
theorem NTB_ok : NTB.all (fun q => decide (lw_tbl[q.2.2.2.2.1]? = some (.classLink (Rn q.1) q.2.1 (Rn q.2.2.1))) && (decide (lw_tbl[q.2.2.2.2.2.1]? = some (.instantiable (Rn q.2.2.1) q.2.2.2.1)) && (decide (lw_tbl[q.2.2.2.2.2.2]? = some (.initialized (Rn q.2.2.1))) && (decide (q.2.2.1 < 12) && decide (q.2.2.2.1 = (dfl q.2.2.1).length))))) = true := by decide +kernel
theorem ATB_ok : ATB.all (fun q => decide (lw_tbl[q.2.2.2.2]? = some (.classLink (Rn q.1) q.2.1 (Rn q.2.2.2.1))) && (decide (q.2.2.2.1 ∈ AOC) && (decide (20 ≤ q.2.2.1) && (decide (q.2.2.1 < 24) && decide (rty q.2.2.1 = q.2.2.2.1 + 1))))) = true := by decide +kernel
theorem OTB_ok : OTB.all (fun q => decide (lw_tbl[q.2.2]? = some (.methodLink (Rn q.1) q.2.1 Lib.objectInit))) = true := by decide +kernel
theorem O_w : Cond.instanceMethod Lib.objectInit ∈ GT ∧ Cond.code Lib.objectInit ⟨#[0xb1]⟩ 1 none ∈ GT := ⟨GT_in 108 (by decide +kernel) (by decide +kernel), GT_in 109 (by decide +kernel) (by decide +kernel)⟩
theorem tys_ref (X : XT) {t : Nat} (h1 : 20 ≤ t) (h2 : t < 24) : (tysOf X)[t - 17]? = some (xc X t, .object (Rn (rty t - 1))) := by
  rcases (show t = 20 ∨ t = 21 ∨ t = 22 ∨ t = 23 by omega) with rfl | rfl | rfl | rfl <;> rfl
section
variable {l : Launch} {X : XT} {R : Room} {μ : MI} {Z : List Frame → Array Value → State → State → Prop} {pc np tg : Nat} {lit : Int32} {i : Instr} {ls st st' r : List AV} {L : List CE} {cs ss : Nat}
theorem bw_pure (hf : μ.2.2.2.2.2.lookup pc = some (i, np, tg, lit)) (hi : isSw i = false) (hw : WU i (ilen i) (st.map (cv X)) (st'.map (cv X))) (k : BW l X R μ Z np ls st' L cs ss) : BW l X R μ Z pc ls st L cs ss := by
  intro hl p e s mid args below meth c C H locs la hP hz hcs hS hL
  obtain ⟨hx, hb, -, -, -, -, -, -, -, -, hok⟩ := id C
  obtain ⟨hd, hn⟩ := fetch_1 hok hf hi
  subst hn
  exact hw _ _ _ _ _ _ _ _ _ _ _ _ _ _ _ _ _ _ hx hb hd (k hl p e s mid args below meth c C H locs la hP hz hcs hS hL)
theorem bw_const (hf : μ.2.2.2.2.2.lookup pc = some (i, np, tg, lit)) (hi : isSw i = false) (hw : litE μ.2.2.2.2.1 i pc tg lit = true → ∀ (p : Program) (l : Launch) (e : Env) (R : Room) (s : State) (mi : MethodId) (args : Array Value) (below : List Frame) (meth : Method) (co : Code) (H : Heap) (locs : List Loc) (cells slots : Nat) (Q : State → Prop) (cc : ByteArray) (la : Array Slot) (rest : List Value), p.tables.exec = Jvm.exec → co.code = cc → s.vm.findClass (Rn μ.2.2.2.2.1) = some mi.cls → (∀ w ∈ GT, w.before args s = true) → decode cc pc = .ok (i, ilen i) → W p l e R s mi args below meth co H locs cells slots Q (F0 mi (pc + ilen i) la (.int lit :: rest)) → W p l e R s mi args below meth co H locs cells slots Q (F0 mi pc la rest))
    (k : BW l X R μ Z np ls (vI lit :: st) L cs ss) : BW l X R μ Z pc ls st L cs ss := by
  intro hl p e s mid args below meth c C H locs la hP hz hcs hS hL
  obtain ⟨hx, hb, -, -, hown, hts, -, -, -, -, hok⟩ := id C
  obtain ⟨hd, hn⟩ := fetch_1 hok hf hi
  subst hn
  exact hw (fetch_ok hok hf).2.2 _ _ _ _ _ _ _ _ _ _ _ _ _ _ _ _ _ _ hx hb hown hts hd (k hl p e s mid args below meth c C H locs la hP hz hcs hS hL)
theorem ref_in {t h : Nat} (hx : isX t = false) : cv X (vR t h) = .ref (xb X + h) := by
  show Value.ref (aof X t h) = _
  rw [aof_in hx]
theorem bw_new {idx : Nat} {b' : BS} (hf : μ.2.2.2.2.2.lookup pc = some (.new idx, np, tg, lit)) (h : bNew μ.2.2.2.2.1 R.cells R.slots idx np ls st L cs ss = some b') (k : BW l X R μ Z b'.1 b'.2.1 b'.2.2.1 b'.2.2.2.1 b'.2.2.2.2.1 b'.2.2.2.2.2) : BW l X R μ Z pc ls st L cs ss := by
  unfold bNew at h
  split at h
  · rename_i o1 o2 ci N w hq
    split at h
    · rename_i hr
      cases h
      rw [Bool.and_eq_true] at hr
      have hr1 := Nat.le_of_ble_eq_true hr.1
      have hr2 := Nat.le_of_ble_eq_true hr.2
      have h0 := List.find?_some hq
      simp only [Bool.and_eq_true, beq_iff_eq] at h0
      obtain ⟨e1, e2⟩ := h0
      subst e1; subst e2
      have h2 := List.all_eq_true.mp NTB_ok _ (List.mem_of_find?_eq_some hq)
      simp only [Bool.and_eq_true, decide_eq_true_eq] at h2
      obtain ⟨g1, g2, g3, g4, g5⟩ := h2
      intro hl p e s mid args below meth c C H locs la hP hz hcs hS hL
      obtain ⟨hx, hb, -, -, hown, hts, -, hKB, -, hbs, hok⟩ := id C
      obtain ⟨hd, hn⟩ := fetch_1 hok hf rfl
      have hn : np = pc + 3 := hn
      subst hn
      obtain ⟨T, N', ty0, hc, hN, hty, hdf⟩ := vw_new g4
      have e9 : N' = N := hN.trans g5.symm
      subst e9
      have hKn := hKB.1.1 ci _ hc
      refine W.newcK hx hb hown (hts _ (GT_in _ g1 rfl)) (hts _ (GT_in _ g2 rfl)) (hts _ (GT_in _ g3 rfl)) rfl hd hr1 hr2 hKn.2.1 hz fun H1 kC hkC e1 z1 o1 => ?_
      have hP1 : va_P (xD X) vwCl (wsL X (L ++ [.inl (ci, dfl ci)])) H1 := by
        refine wsL_push hP hz o1 ⟨_, hc, ?_⟩
        have h9 := (u_born ty0 hts (cls_in hc) hKn hkC e1 hty).to hdf
        rw [← dfl_V X ci] at h9
        exact h9
      have hk := k hl p e s mid args below meth c C H1 locs la hP1 (by rw [List.length_append]; exact z1) (by rw [List.length_append]; show _ + (cs + 1) = _ + (_ + 1); omega) ⟨Nat.le_trans hS.1 (by omega), fun x h1 h2 => (o1 x (by have := hS.1; omega)).trans (hS.2.1 x h1 h2), hS.2.2⟩ hL
      have e5 : (vR (ci + 1) L.length :: st).map (cv X) = Value.ref (xb X + L.length) :: st.map (cv X) := by rw [List.map_cons, ref_in (isX_lt (by omega))]
      show W _ _ _ _ _ _ _ _ _ _ _ _ _ _ _ (F0 mid (pc + 3) la (Value.ref (xb X + L.length) :: st.map (cv X)))
      rw [← e5]
      exact hk
    · cases h
  · cases h
theorem bw_newA {a : ArrayType} {b' : BS} (hf : μ.2.2.2.2.2.lookup pc = some (.newarray a, np, tg, lit)) (h : bNewA R.cells R.slots np a ls st L cs ss = some b') (k : BW l X R μ Z b'.1 b'.2.1 b'.2.2.1 b'.2.2.2.1 b'.2.2.2.2.1 b'.2.2.2.2.2) : BW l X R μ Z pc ls st L cs ss := by
  unfold bNewA at h
  split at h
  · rename_i n r
    split at h
    · rename_i kd lo hk
      split at h
      · rename_i hr
        cases h
        simp only [Bool.and_eq_true, decide_eq_true_eq] at hr
        obtain ⟨r1, r2, r3, r4⟩ := hr
        have r2 := Nat.le_of_ble_eq_true r2
        have r3 := Nat.le_of_ble_eq_true r3
        have r4 := Nat.le_of_ble_eq_true r4
        intro hl p e s mid args below meth c C H locs la hP hz hcs hS hL
        obtain ⟨hx, hb, -, -, hown, hts, -, hKB, -, hbs, hok⟩ := id C
        obtain ⟨hd, hn⟩ := fetch_1 hok hf rfl
        have hn : np = pc + 2 := hn
        subst hn
        have key : (Cond.arrayClass (newarray.typeOf a)).before args s = true ∧ n.toNatClampNeg * componentBytes (newarray.typeOf a) ≤ 536870912 ∧ isX (lo + n.toNatClampNeg) = false ∧ s.vm.findClass ("[" ++ (newarray.typeOf a).toString) = some (xc X kd) ∧ ∀ cA : ClassId, arrV cA n.toNatClampNeg (fun _ => defaultValue (newarray.typeOf a)) = vp_cell cA (n.toNatClampNeg, .inl (upsF [])) := by
          cases a <;> cases hk
          · exact ⟨hts _ (GT_in 1370 (by decide +kernel) rfl), by show _ * 1 ≤ _; omega, isX_gt (by omega), (hKB.1.2 1 _ rfl).2, fun _ => rfl⟩
          · exact ⟨hts _ (GT_in 1369 (by decide +kernel) rfl), by show _ * 2 ≤ _; omega, isX_gt (by omega), (hKB.1.2 2 _ rfl).2, fun _ => rfl⟩
          · exact ⟨hts _ (GT_in 139 (by decide +kernel) rfl), by show _ * 4 ≤ _; omega, isX_gt (by omega), (hKB.1.2 0 _ rfl).2, fun _ => rfl⟩
        obtain ⟨k1, k2, k3, k4, k5⟩ := key
        refine va_newaK hx hb k1 rfl hd rfl r1 rfl k2 r3 r4 hz fun H1 cA e1 z1 o1 hAr hNm => ?_
        have ec : cA = xc X kd := Option.some.inj (hNm.symm.trans k4)
        subst ec
        have hP1 : va_P (xD X) vwCl (wsL X (L ++ [.inr (kd, n.toNatClampNeg, .inl [])])) H1 := by
          refine wsL_push hP hz o1 ?_
          show H1[xb X + L.length]? = some (vp_cell _ _)
          rw [e1, k5]
        have hk := k hl p e s mid args below meth c C H1 locs la hP1 (by rw [List.length_append]; exact z1) (by rw [List.length_append]; show _ + (cs + 1) = _ + (_ + 1); omega) ⟨Nat.le_trans hS.1 (by omega), fun x h1 h2 => (o1 x (by have := hS.1; omega)).trans (hS.2.1 x h1 h2), hS.2.2⟩ hL
        have e5 : (vR (lo + n.toNatClampNeg) L.length :: r).map (cv X) = Value.ref (xb X + L.length) :: r.map (cv X) := by rw [List.map_cons, ref_in k3]
        show W _ _ _ _ _ _ _ _ _ _ _ _ _ _ _ (F0 mid (pc + 2) la (Value.ref (xb X + L.length) :: r.map (cv X)))
        rw [← e5]
        exact hk
      · cases h
    · cases h
  · cases h
theorem bw_newR {idx : Nat} {b' : BS} (hf : μ.2.2.2.2.2.lookup pc = some (.anewarray idx, np, tg, lit)) (h : bNewR μ.2.2.2.2.1 R.cells R.slots idx np ls st L cs ss = some b') (k : BW l X R μ Z b'.1 b'.2.1 b'.2.2.1 b'.2.2.2.1 b'.2.2.2.2.1 b'.2.2.2.2.2) : BW l X R μ Z pc ls st L cs ss := by
  unfold bNewR at h
  split at h
  · rename_i n r
    split at h
    · rename_i o1 o2 t w hq
      split at h
      · rename_i hr
        cases h
        simp only [Bool.and_eq_true, decide_eq_true_eq] at hr
        obtain ⟨r1, r2, r3, r4⟩ := hr
        have r2 := Nat.le_of_ble_eq_true r2
        have r3 := Nat.le_of_ble_eq_true r3
        have r4 := Nat.le_of_ble_eq_true r4
        have h0 := List.find?_some hq
        simp only [Bool.and_eq_true, beq_iff_eq] at h0
        obtain ⟨e1, e2⟩ := h0
        subst e1; subst e2
        have h2 := List.all_eq_true.mp ATB_ok _ (List.mem_of_find?_eq_some hq)
        simp only [Bool.and_eq_true, decide_eq_true_eq] at h2
        obtain ⟨g1, g2, g3, g4, g5⟩ := h2
        intro hl p e s mid args below meth c C H locs la hP hz hcs hS hL
        obtain ⟨hx, hb, -, -, hown, hts, -, hKB, -, hbs, hok⟩ := id C
        obtain ⟨hd, hn⟩ := fetch_1 hok hf rfl
        have hn : np = pc + 3 := hn
        subst hn
        have hty := (hKB.1.2 _ _ (tys_ref X g3 g4)).2
        rw [g5, Nat.add_sub_cancel] at hty
        obtain ⟨kA0, comp0, -, -, -, hnm⟩ := hty
        refine W.anew hx hb hown (hts _ (GT_in _ g1 rfl)) (va_AO.use (hKB.2.2.1 _ g2)) rfl hd rfl r1 (by omega) r3 r4 fun cA kA comp f1 f2 f3 f4 => ?_
        have ec : cA = xc X t := Option.some.inj (f1.symm.trans hnm)
        subst ec
        generalize hH1 : H.push ({ cls := xc X t, slots := Array.replicate n.toNatClampNeg .null, vm := .none } : Cell) = H1
        have z1 : H1.size = xb X + L.length + 1 := by rw [← hH1, Array.size_push, hz]
        have e1 : H1[H.size]? = some (arrV (xc X t) n.toNatClampNeg (fun _ => .null)) := by rw [← hH1, Array.getElem?_push_size, ← arrV_new]
        have o1 : ∀ q : Nat, q < xb X + L.length → H1[q]? = H[q]? := fun q hq => by rw [← hH1, Array.getElem?_push, if_neg (by omega)]
        have hP1 : va_P (xD X) vwCl (wsL X (L ++ [.inr (t, n.toNatClampNeg, .inr (List.replicate n.toNatClampNeg none))])) H1 := by
          refine wsL_push hP hz o1 ?_
          show H1[xb X + L.length]? = some (vp_cell _ _)
          rw [← hz, e1, vp_cell_q]
          congr 2
          funext j
          have : refF X (List.replicate n.toNatClampNeg none) j = none := by
            unfold refF
            rw [List.getD_eq_getElem?_getD, List.getElem?_replicate]
            split <;> rfl
          rw [this]
          rfl
        have hk := k hl p e s mid args below meth c C H1 locs la hP1 (by rw [List.length_append]; exact z1) (by rw [List.length_append]; show _ + (cs + 1) = _ + (_ + 1); omega) ⟨Nat.le_trans hS.1 (by omega), fun x h1 h2 => (o1 x (by have := hS.1; omega)).trans (hS.2.1 x h1 h2), hS.2.2⟩ hL
        have e5 : (vR t L.length :: r).map (cv X) = Value.ref H.size :: r.map (cv X) := by rw [List.map_cons, ref_in (isX_lt (by omega)), hz]
        show W _ _ _ _ _ _ _ _ _ _ _ _ _ _ _ (F0 mid (pc + 3) la (Value.ref H.size :: r.map (cv X)))
        rw [← e5]
        exact hk
      · cases h
    · cases h
  · cases h
end

/-- an instruction of a method: its place; the instruction, the next place, the target, a number -/
abbrev PE : Type := Nat × Instr × Nat × Nat × Int32
/-- a method: name, bytes, locals, type, class, instructions -/
abbrev MI : Type := MethodName × ByteArray × Nat × Option FieldType × Nat × List PE
/-- where a walk stands: launch, world, room, cells and slots made, method, end -/
abbrev GG : Type := Launch × XT × Room × Nat × Nat × MI × (List Frame → Array Value → State → State → Prop)
def ilen (i : Instr) : Nat := match i with
  | .iload _ | .lload _ | .aload _ | .istore _ | .lstore _ | .astore _ | .bipush _ | .ldc _ | .newarray _ => 2
  | .sipush _ | .iinc _ _ | .ifCond _ _ | .if_icmp _ _ | .goto _ | .getfield _ | .putfield _ | .getstatic _ | .invokevirtual _ | .invokespecial _ | .invokestatic _ | .new _ | .anewarray _ | .ldc_w _ | .ldc2_w _ => 3
  | .multianewarray _ _ => 4
  | _ => 1
def isSw (i : Instr) : Bool := match i with
  | .tableswitch _ _ _ _ | .lookupswitch _ _ => true
  | _ => false
def litE (own : Nat) (i : Instr) (pc tg : Nat) (lit : Int32) : Bool := match i with
  | .iconst n => Int32.ofInt n == lit
  | .bipush n => (Int8.ofInt n).toInt32 == lit
  | .sipush n => (Int16.ofInt n).toInt32 == lit
  | .iinc _ n => Int32.ofInt n == lit
  | .goto o | .ifCond _ o | .if_icmp _ o => (pc : Int) + o == (tg : Int)
  | .ldc x | .ldc_w x => (tg == 999 && CTS.any (fun q => q.1 == own && (q.2.1 == x && q.2.2.1 == lit))) || SRF.any (fun q => q.1 == own && (q.2.1 == x && q.2.2.2 == tg))
  | _ => true
def okE (own : Nat) (cc : ByteArray) (e : PE) : Bool :=
  decide (decode cc e.1 = .ok (e.2.1, e.2.2.1 - e.1)) && ((isSw e.2.1 || e.2.2.1 == e.1 + ilen e.2.1) && litE own e.2.1 e.1 e.2.2.2.1 e.2.2.2.2)
def okP (own : Nat) (cc : ByteArray) (pr : List PE) : Bool := pr.all (okE own cc)
theorem lookup_mem {pr : List PE} {pc : Nat} {q : Instr × Nat × Nat × Int32} (h : pr.lookup pc = some q) : (pc, q) ∈ pr := by
  induction pr with
  | nil => simp at h
  | cons a r ih =>
    obtain ⟨a1, a2⟩ := a
    rw [List.lookup_cons] at h
    by_cases e : (pc == a1) = true
    · rw [e] at h
      cases h
      have e2 : pc = a1 := by simpa using e
      subst e2
      exact List.mem_cons_self
    · have e2 : (pc == a1) = false := by simpa using e
      rw [e2] at h
      exact List.mem_cons_of_mem _ (ih h)
theorem fetch_ok {own : Nat} {cc : ByteArray} {pr : List PE} (hok : okP own cc pr = true) {pc : Nat} {q : Instr × Nat × Nat × Int32} (hf : pr.lookup pc = some q) :
    decode cc pc = .ok (q.1, q.2.1 - pc) ∧ (isSw q.1 = false → q.2.1 = pc + ilen q.1) ∧ litE own q.1 pc q.2.2.1 q.2.2.2 = true := by
  have h := List.all_eq_true.mp hok _ (lookup_mem hf)
  simp only [okE, Bool.and_eq_true, Bool.or_eq_true, decide_eq_true_eq, beq_iff_eq] at h
  refine ⟨h.1, fun hs => ?_, h.2.2⟩
  rcases h.2.1 with h1 | h1
  · rw [hs] at h1
    cases h1
  · exact h1
theorem fetch_1 {own : Nat} {cc : ByteArray} {pr : List PE} (hok : okP own cc pr = true) {pc np tg : Nat} {i : Instr} {lit : Int32} (hf : pr.lookup pc = some (i, np, tg, lit)) (hs : isSw i = false) : decode cc pc = .ok (i, ilen i) ∧ np = pc + ilen i := by
  obtain ⟨h1, h2, -⟩ := fetch_ok hok hf
  have h2 : np = pc + ilen i := h2 hs
  refine ⟨?_, h2⟩
  have h1 : decode cc pc = .ok (i, np - pc) := h1
  rw [h1, h2, Nat.add_sub_cancel_left]
def Cx (G : GG) (p : Program) (e : Env) (s : State) (mid : MethodId) (args : Array Value) (meth : Method) (c : Code) : Prop :=
  p.tables.exec = Jvm.exec ∧ c.code = G.2.2.2.2.2.1.2.1 ∧ meth.sig.returnType = G.2.2.2.2.2.1.2.2.2.1 ∧ c.maxLocals = G.2.2.2.2.2.1.2.2.1 ∧ s.vm.findClass (Rn G.2.2.2.2.2.1.2.2.2.2.1) = some mid.cls ∧ (∀ w ∈ GT, w.before args s = true) ∧ meth.locks = false ∧
  va_K (xD G.2.1) vwCl (tysOf G.2.1) s ∧ KS G.2.1 s s.heap ∧ (xN G.2.1 = NC ∨ xN G.2.1 = NTT) ∧ xb G.2.1 ≤ s.heap.size ∧ G.2.2.2.1 ≤ G.2.2.1.cells ∧ G.2.2.2.2.1 ≤ G.2.2.1.slots ∧ okP G.2.2.2.2.2.1.2.2.2.2.1 G.2.2.2.2.2.1.2.1 G.2.2.2.2.2.1.2.2.2.2.2 = true
/-- the walk ends well from here -/
def AW (G : GG) (pc : Nat) (ls st : List AV) (m : Mem) : Prop :=
  ls.length = G.2.2.2.2.2.1.2.2.1 → okl G.2.1 ls → okl G.2.1 st → ∀ (p : Program) (e : Env) (s : State) (mid : MethodId) (args : Array Value) (below : List Frame) (meth : Method) (c : Code), Cx G p e s mid args meth c →
    ∀ (H : Heap) (locs : List Loc) (la : Array Slot), va_P (xD G.2.1) vwCl (wsOf G.2.1 m) H → va_S (xA G.2.1) s.heap H locs → lRep G.2.1 ls la →
      W p G.1 e G.2.2.1 s mid args below meth c H locs G.2.2.2.1 G.2.2.2.2.1 (G.2.2.2.2.2.2 below args s) (F0 mid pc la (st.map (cv G.2.1)))
-- ===== one instruction, over what is known =====
abbrev AR : Type := Option (Prop × Nat × List AV × List AV × Mem)
def sBin (f : Int32 → Int32 → Int32) (np : Nat) (ls st : List AV) (m : Mem) : AR := match st with
  | .inl y :: .inl x :: r => some (True, np, ls, .inl (f x y) :: r, m)
  | _ => none
def sDiv (f : Int32 → Int32 → Int32) (np : Nat) (ls st : List AV) (m : Mem) : AR := match st with
  | .inl y :: .inl x :: r => some (¬ y = 0, np, ls, .inl (f x y) :: r, m)
  | _ => none
def sUn (f : Int32 → Int32) (np : Nat) (ls st : List AV) (m : Mem) : AR := match st with
  | .inl x :: r => some (True, np, ls, .inl (f x) :: r, m)
  | _ => none
def sBinJ (f : Int64 → Int64 → Int64) (np : Nat) (ls st : List AV) (m : Mem) : AR := match st with
  | .inr (.inl y) :: .inr (.inl x) :: r => some (True, np, ls, .inr (.inl (f x y)) :: r, m)
  | _ => none
def sDivJ (f : Int64 → Int64 → Int64) (np : Nat) (ls st : List AV) (m : Mem) : AR := match st with
  | .inr (.inl y) :: .inr (.inl x) :: r => some (¬ y = 0, np, ls, .inr (.inl (f x y)) :: r, m)
  | _ => none
def sLd (k : Nat) (c : Nat) (np : Nat) (ls st : List AV) (m : Mem) : AR := match ls.getD k vU with
  | .inl x => if c == 0 then some (True, np, ls, .inl x :: st, m) else none
  | .inr (.inl x) => if c == 1 then some (True, np, ls, .inr (.inl x) :: st, m) else none
  | .inr (.inr q) => if c == 2 && !(q.1 == 0) then some (True, np, ls, .inr (.inr q) :: st, m) else none
def sSt (k : Nat) (c : Nat) (np : Nat) (ls st : List AV) (m : Mem) : AR := match st with
  | .inl x :: r => if c == 0 && (decide (k < ls.length) && noL ls k) then some (True, np, ls.set k (.inl x), r, m) else none
  | .inr (.inl x) :: r => if c == 1 && (decide (k + 1 < ls.length) && noL ls k) then some (True, np, (ls.set k (.inr (.inl x))).set (k + 1) vU, r, m) else none
  | .inr (.inr q) :: r => if c == 2 && (decide (k < ls.length) && noL ls k) then some (True, np, ls.set k (.inr (.inr q)), r, m) else none
  | _ => none
def sInc (k : Nat) (lit : Int32) (np : Nat) (ls st : List AV) (m : Mem) : AR := match ls.getD k vU with
  | .inl x => if noL ls k then some (True, np, ls.set k (.inl (x + lit)), st, m) else none
  | _ => none
def ftO (own idx : Nat) : Option (Nat × Nat × Nat) := (FTS.getD own []).lookup idx
def sGet (own idx np : Nat) (ls st : List AV) (m : Mem) : AR := match st with
  | .inr (.inr (t, h)) :: r => match ftO own idx with
    | some (t', k, _) => if t == t' then (match (shp t).getD k (0, 0) with
        | (t2, o) => if t2 == 0 then some (True, np, ls, .inl (m h k) :: r, m) else if o == 9999 then some (layT (m h k).toNatClampNeg = t2, np, ls, .inr (.inr (t2, (m h k).toNatClampNeg)) :: r, m) else some (True, np, ls, .inr (.inr (t2, h + o)) :: r, m)) else none
    | none => none
  | _ => none
def sPut (own idx np : Nat) (ls st : List AV) (m : Mem) : AR := match st with
  | .inl x :: .inr (.inr (t, h)) :: r => match ftO own idx with
    | some (t', k, _) => if t == t' then (match (shp t).getD k (1, 0) with
        | (0, 0) => some (True, np, ls, r, mUp m h k x)
        | (0, 1) => some (x = 0 ∨ x = 1, np, ls, r, mUp m h k x)
        | _ => none) else none
    | none => none
  | .inr (.inr (t2, h2)) :: .inr (.inr (t, h)) :: r => match ftO own idx with
    | some (t', k, _) => if t == t' && (t2 == ((shp t).getD k (0, 0)).1 && (((shp t).getD k (0, 0)).2 == 9999 && !(t2 == 0))) then some (True, np, ls, r, mUp m h k (Int32.ofNat h2)) else none
    | none => none
  | _ => none
def sAld (lo hi : Nat) (np : Nat) (ls st : List AV) (m : Mem) : AR := match st with
  | .inl i :: .inr (.inr (t, h)) :: r => if decide (lo ≤ t) && decide (t < hi) then some (vp_in i (t - lo), np, ls, .inl (m h i.toNatClampNeg) :: r, m) else none
  | _ => none
def sAst (lo hi : Nat) (np : Nat) (ls st : List AV) (m : Mem) : AR := match st with
  | .inl x :: .inl i :: .inr (.inr (t, h)) :: r => if decide (lo ≤ t) && decide (t < hi) then some (vp_in i (t - lo) ∧ (lo = 4000 → x = 0 ∨ x = 1), np, ls, r, mUp m h i.toNatClampNeg x) else none
  | _ => none
def sAal (np : Nat) (ls st : List AV) (m : Mem) : AR := match st with
  | .inl i :: .inr (.inr (t, h)) :: r => if decide (20 ≤ t) && decide (t < 25) then (match rtb t with
      | (a, b, c, e) => some (vp_in i a, np, ls, .inr (.inr (e, h + b + c * i.toNatClampNeg)) :: r, m)) else none
  | _ => none
def astep (own : Nat) (q : Instr × Nat × Nat × Int32) (ls st : List AV) (m : Mem) : AR := match q with
  | (i, np, tg, lit) => match i with
  | .iconst _ => some (True, np, ls, .inl lit :: st, m)
  | .bipush _ => some (True, np, ls, .inl lit :: st, m)
  | .sipush _ => some (True, np, ls, .inl lit :: st, m)
  | .ldc _ => if tg == 999 then some (True, np, ls, .inl lit :: st, m) else none
  | .ldc_w _ => if tg == 999 then some (True, np, ls, .inl lit :: st, m) else none
  | .lconst n => some (True, np, ls, .inr (.inl (Int64.ofNat n.val)) :: st, m)
  | .iload k => sLd k 0 np ls st m
  | .iload_n k => sLd k.val 0 np ls st m
  | .lload k => sLd k 1 np ls st m
  | .lload_n k => sLd k.val 1 np ls st m
  | .aload k => sLd k 2 np ls st m
  | .aload_n k => sLd k.val 2 np ls st m
  | .istore k => sSt k 0 np ls st m
  | .istore_n k => sSt k.val 0 np ls st m
  | .lstore k => sSt k 1 np ls st m
  | .lstore_n k => sSt k.val 1 np ls st m
  | .astore k => sSt k 2 np ls st m
  | .astore_n k => sSt k.val 2 np ls st m
  | .iinc k _ => sInc k lit np ls st m
  | .iadd => sBin (fun x y => x + y) np ls st m
  | .isub => sBin (fun x y => x - y) np ls st m
  | .imul => sBin (fun x y => x * y) np ls st m
  | .iand => sBin (fun x y => x &&& y) np ls st m
  | .ior => sBin (fun x y => x ||| y) np ls st m
  | .ishl => sBin (fun x y => x <<< (y &&& 31)) np ls st m
  | .ishr => sBin (fun x y => x >>> (y &&& 31)) np ls st m
  | .iushr => sBin (fun x y => (x.toUInt32 >>> (y.toUInt32 &&& Int32.toUInt32 31)).toInt32) np ls st m
  | .idiv => sDiv (fun x y => x / y) np ls st m
  | .irem => sDiv (fun x y => x - x / y * y) np ls st m
  | .ineg => sUn (fun x => -x) np ls st m
  | .i2b => sUn (fun x => x.toInt8.toInt32) np ls st m
  | .i2s => sUn (fun x => x.toInt16.toInt32) np ls st m
  | .i2c => sUn (fun x => (x.toUInt32 % 65536).toInt32) np ls st m
  | .i2l => match st with
    | .inl x :: r => some (True, np, ls, .inr (.inl x.toInt64) :: r, m)
    | _ => none
  | .l2i => match st with
    | .inr (.inl x) :: r => some (True, np, ls, .inl x.toInt32 :: r, m)
    | _ => none
  | .ladd => sBinJ (fun x y => x + y) np ls st m
  | .lmul => sBinJ (fun x y => x * y) np ls st m
  | .ldiv => sDivJ (fun x y => x / y) np ls st m
  | .lrem => sDivJ (fun x y => x - x / y * y) np ls st m
  | .dup => match st with
    | .inl x :: r => some (True, np, ls, .inl x :: .inl x :: r, m)
    | .inr (.inr x) :: r => some (True, np, ls, .inr (.inr x) :: .inr (.inr x) :: r, m)
    | _ => none
  | .pop => match st with
    | .inl _ :: r => some (True, np, ls, r, m)
    | .inr (.inr _) :: r => some (True, np, ls, r, m)
    | _ => none
  | .goto _ => some (True, tg, ls, st, m)
  | .lcmp => match st with
    | .inr (.inl y) :: .inr (.inl x) :: r => some (True, np, ls, .inl (lg_cmp x y) :: r, m)
    | _ => none
  | .ldc2_w j => match LTS.find? (fun e => e.1 == own && e.2.1 == j) with
    | some e => some (True, np, ls, .inr (.inl e.2.2.1) :: st, m)
    | none => none
  | .getfield j => sGet own j np ls st m
  | .putfield j => sPut own j np ls st m
  | .iaload => sAld 1000 4000 np ls st m
  | .baload => sAld 4000 5000 np ls st m
  | .caload => sAld 5000 6000 np ls st m
  | .iastore => sAst 1000 4000 np ls st m
  | .bastore => sAst 4000 5000 np ls st m
  | .aaload => sAal np ls st m
  | _ => none

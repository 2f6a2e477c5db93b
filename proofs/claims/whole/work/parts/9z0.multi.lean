-- ===== eight rows of ten: multianewarray =====
def grF (h i : Nat) : Nat → Value := fun j => if j < i then .ref (h + 1 + j) else .null
def grS (T : State) (cA cI : ClassId) : Nat → State
  | 0 => T.pushCell (arrV cA 8 (grF T.heap.size 0))
  | i + 1 => ((grS T cA cI i).pushCell (arrV cI 10 (fun _ => .int 0))).setCell T.heap.size (arrV cA 8 (grF T.heap.size (i + 1)))
theorem grF_s (h i : Nat) : updV (grF h i) i (.ref (h + 1 + i)) = grF h (i + 1) := by
  funext j
  unfold updV grF
  by_cases e : j = i
  · subst e
    rw [if_pos rfl, if_pos (Nat.lt_succ_self _)]
  · rw [if_neg e]
    by_cases g : j < i
    · rw [if_pos g, if_pos (by omega)]
    · rw [if_neg g, if_neg (by omega)]
theorem gr_facts (T : State) (cA cI : ClassId) : ∀ i : Nat, (grS T cA cI i).heap.size = T.heap.size + 1 + i ∧ (grS T cA cI i).heap[T.heap.size]? = some (arrV cA 8 (grF T.heap.size i)) ∧ (grS T cA cI i).vm = T.vm ∧ (grS T cA cI i).slotsUsed = T.slotsUsed + 8 + i * 10 ∧ (∀ q, q < T.heap.size → (grS T cA cI i).heap[q]? = T.heap[q]?) ∧ ∀ j, j < i → (grS T cA cI i).heap[T.heap.size + 1 + j]? = some (arrV cI 10 (fun _ => .int 0))
  | 0 => by
    refine ⟨by simp [grS], State.heap_pushCell_size _ _, rfl, by simp [grS, arrV], fun q hq => State.heap_pushCell_of_lt _ _ hq, fun j hj => absurd hj (Nat.not_lt_zero _)⟩
  | i + 1 => by
    obtain ⟨a1, a2, a3, a4, a5, a6⟩ := gr_facts T cA cI i
    have hl : T.heap.size < (grS T cA cI i).heap.size := by omega
    have hb : ((grS T cA cI i).pushCell (arrV cI 10 (fun _ => .int 0))).heap[T.heap.size]? = some (arrV cA 8 (grF T.heap.size i)) := by rw [State.heap_pushCell_of_lt (h := hl)]; exact a2
    refine ⟨?_, State.heap_setCell_self hb, a3, ?_, fun q hq => ?_, fun j hj => ?_⟩
    · simp [grS, State.setCell, a1]; omega
    · simp [grS, a4, arrV]; omega
    · show (((grS T cA cI i).pushCell _).setCell T.heap.size _).heap[q]? = _
      rw [State.heap_setCell_other (Nat.ne_of_gt hq), State.heap_pushCell_of_lt (h := Nat.lt_trans hq hl)]
      exact a5 q hq
    · show (((grS T cA cI i).pushCell _).setCell T.heap.size _).heap[T.heap.size + 1 + j]? = _
      rw [State.heap_setCell_other (show T.heap.size ≠ T.heap.size + 1 + j by omega)]
      rcases Nat.lt_or_ge j i with g | g
      · have hlt : T.heap.size + 1 + j < (grS T cA cI i).heap.size := by omega
        rw [State.heap_pushCell_of_lt (h := hlt)]
        exact a6 j g
      · have e : j = i := by omega
        subst e
        rw [← a1]
        exact State.heap_pushCell_size _ _
theorem gr_top (T : State) (f : JFrame) (cA cI : ClassId) : ∀ i : Nat, grS (T.setTop f) cA cI i = (grS T cA cI i).setTop f
  | 0 => rfl
  | i + 1 => by
    simp only [grS, gr_top T f cA cI i, State.heap_setTop, State.pushCell_setTop, State.setCell_setTop]
section
variable {p : Program} {l : Launch} {e : Env} {R : Room} {s : State} {m : MethodId} {args : Array Value} {below : List Frame} {meth : Method} {c : Code} {T : State} {locs : List Loc} {cells slots : Nat}
theorem gr_stand (X : Stand p l e R s m args below meth c T locs cells slots) (cA cI : ClassId) : ∀ i : Nat, Stand p l e R s m args below meth c (grS T cA cI i) (locs ++ (List.range i).map fun j => ⟨T.heap.size, j⟩) (cells + 1 + i) (slots + 8 + i * 10)
  | 0 => by
    have h := X.pushed (arrV cA 8 (grF T.heap.size 0))
    rw [arrV_size] at h
    simpa [grS] using h
  | i + 1 => by
    have Xi := gr_stand X cA cI i
    obtain ⟨a1, a2, -⟩ := gr_facts T cA cI i
    have hl : T.heap.size < (grS T cA cI i).heap.size := by omega
    have hb : ((grS T cA cI i).pushCell (arrV cI 10 (fun _ => .int 0))).heap[T.heap.size]? = some (arrV cA 8 (grF T.heap.size i)) := by rw [State.heap_pushCell_of_lt (h := hl)]; exact a2
    have h := (Xi.pushed (arrV cI 10 (fun _ => .int 0))).stored hb i (.ref (T.heap.size + 1 + i))
    rw [arrV_size, arrV_store, grF_s] at h
    rw [show (List.range (i + 1)).map (fun j => (⟨T.heap.size, j⟩ : Loc)) = (List.range i).map (fun j => (⟨T.heap.size, j⟩ : Loc)) ++ [⟨T.heap.size, i⟩] by simp [List.range_succ], ← List.append_assoc, show slots + 8 + (i + 1) * 10 = slots + 8 + i * 10 + 10 by omega]
    exact h
end
section
variable {E : CtlPost} {e : Env} {d : Bool} {acts : List Action} {S : State}
theorem gr_wp {cA cI c0 : ClassId} {kA kI : Class} (hkA : S.vm.classes[cA]? = some kA) (hkindA : kA.kind = .array cI (.array .int)) (hkI : S.vm.classes[cI]? = some kI) (hkindI : kI.kind = .array c0 .int)
    (hlim : e.platform.arrayLengthLimit ≥ 10) (hby : e.platform.maxHeapBytes ≥ 40) (hc : S.heap.size + 9 ≤ e.platform.maxCells) (hs : S.slotsUsed + 88 ≤ e.platform.maxSlots) {Q : Addr → Pre} (hq : ∀ d' acts', Q S.heap.size d' acts' (grS S cA cI 8)) :
    wp (multianewarray.make cA [8, 10]) Q E e d acts S := by
  rw [multianewarray.make]
  simp only [wp_bind', Jvm.W.ite, show ¬ ((8 : Int32) < 0) by decide, if_false, wp_pure', Jvm.W.theClass, hkA, hkindA, Option.some.injEq, exists_eq_left']
  refine Jvm.W.newArray_of hkA hkindA (by show ¬ 8 > _; omega) (by show ¬ 8 * 4 > _; omega) (by omega) (by show _ + 8 ≤ _; omega) rfl (fun acts1 => ?_)
  have e0 : S.pushCell { cls := cA, slots := Array.replicate (Int32.toNatClampNeg 8) .null } = grS S cA cI 0 := by
    show _ = S.pushCell _
    rw [show (Int32.toNatClampNeg 8) = 8 from rfl]
    refine congrArg S.pushCell ((arrV_new cA 8 .null).trans ?_)
    rfl
  rw [e0]
  rw [if_neg (by decide), wp_bind', Std.Legacy.Range.forIn_eq_forIn_range']
  show wp (forIn (List.range' 0 8 1) PUnit.unit _) _ E e d acts1 _
  refine wp_forIn_inv (fun rest s' => ∃ i, i ≤ 8 ∧ rest = List.range' i (8 - i) ∧ s' = grS S cA cI i) _ _ ⟨0, Nat.zero_le _, rfl, rfl⟩ ?_ ?_
  · rintro x rest s' d' acts' Q' ⟨i, hi, hl, rfl⟩ hnext
    have hlt : i < 8 := by
      rcases Nat.lt_or_ge i 8 with g | g
      · exact g
      · rw [show 8 - i = 0 by omega] at hl
        cases hl
    rw [show 8 - i = (8 - (i + 1)) + 1 by omega, List.range'_succ] at hl
    obtain ⟨rfl, hrest⟩ := List.cons.inj hl
    obtain ⟨a1, a2, a3, a4, -, -⟩ := gr_facts S cA cI x
    have hl0 : S.heap.size < (grS S cA cI x).heap.size := by omega
    simp only [wp_bind']
    rw [multianewarray.make]
    simp only [wp_bind', Jvm.W.ite, show ¬ ((10 : Int32) < 0) by decide, if_false, wp_pure', Jvm.W.theClass, a3, hkI, hkindI, Option.some.injEq, exists_eq_left']
    refine Jvm.W.newArray_of (by rw [a3]; exact hkI) hkindI (by show ¬ 10 > _; omega) (by show ¬ 10 * 4 > _; omega) (by omega) (by show _ + 10 ≤ _; omega) rfl (fun acts2 => ?_)
    have e1 : (grS S cA cI x).pushCell { cls := cI, slots := Array.replicate (Int32.toNatClampNeg 10) (defaultValue .int) } = (grS S cA cI x).pushCell (arrV cI 10 (fun _ => .int 0)) := by
      rw [show (Int32.toNatClampNeg 10) = 10 from rfl]
      exact congrArg (grS S cA cI x).pushCell (arrV_new cI 10 (.int 0))
    rw [e1]
    simp only [wp_bind', Jvm.W.writeLoc, wp_pure']
    refine ⟨arrV cA 8 (grF S.heap.size x), by rw [State.heap_pushCell_of_lt (h := hl0)]; exact a2, (fun z => by cases z), by rw [arrV_size]; exact hlt, ?_, hnext _ _ _ ⟨x + 1, hlt, hrest, ?_⟩⟩
    · show State.fitsSlot _ cA .none x _ = true
      have : (grS S cA cI x).vm.classes[cA]? = some kA := by
        rw [a3]
        exact hkA
      simp [State.fitsSlot, State.slotType?, this, hkindA, fits]
    · rw [arrV_store, a1, grF_s]
      rfl
  · rintro s' d' acts' ⟨i, hi, hl, rfl⟩
    have e8 : i = 8 := by
      rcases Nat.lt_or_ge i 8 with g | g
      · rw [show 8 - i = (8 - (i + 1)) + 1 by omega, List.range'_succ] at hl
        cases hl
      · omega
    subst e8
    exact hq _ _
end
section
variable {p : Program} {l : Launch} {e : Env} {R : Room} {s : State} {m : MethodId} {args : Array Value} {below : List Frame} {meth : Method} {c : Code} {H : Heap} {locs : List Loc} {cells slots : Nat} {Q : State → Prop}
theorem W_multi {cc : ByteArray} (hexec : p.tables.exec = Jvm.exec) (hb : c.code = cc) {own : String} {index : Nat} (hown : s.vm.findClass own = some m.cls) (hclink : (Cond.classLink own index "[[I").before args s = true) {cA cI c0 : ClassId} (hnA : s.vm.findClass "[[I" = some cA) {kA kI : Class} (hkA : s.vm.classes[cA]? = some kA) (hkindA : kA.kind = .array cI (.array .int)) (hkI : s.vm.classes[cI]? = some kI) (hkindI : kI.kind = .array c0 .int)
    {g : JFrame} (hg : g.method = m) (hdg : decode cc g.pc = .ok (.multianewarray index 2, 4)) {rest : List Value} (hstack : g.stack = .int 10 :: .int 8 :: rest) (hcells : cells + 9 ≤ R.cells) (hslots : slots + 88 ≤ R.slots)
    (kk : ∀ (H1 : Heap) (locs1 : List Loc), (∀ q ∈ locs1, q ∈ locs ∨ q.base = H.size) → H1.size = H.size + 9 → (∀ q, q < H.size → H1[q]? = H[q]?) → H1[H.size]? = some (arrV cA 8 (grF H.size 8)) → (∀ j, j < 8 → H1[H.size + 1 + j]? = some (arrV cI 10 (fun _ => .int 0))) →
      W p l e R s m args below meth c H1 locs1 (cells + 9) (slots + 88) Q { g with pc := g.pc + 4, stack := .ref H.size :: rest }) : W p l e R s m args below meth c H locs cells slots Q g := by
  intro T hT X
  subst hT; subst hb; subst hg
  have hpl : e.platform.magicAccessors = ({} : Platform).magicAccessors := by rw [X.admits.platform]
  obtain ⟨c1, hfc, hcl⟩ := Cond.classLink_spec hown hclink e.platform hpl
  cases hnA.symm.trans hfc
  obtain ⟨hg₁, hwarm₁, hready₁⟩ := State.classEntry (e := e) X.warmed hcl
  generalize T.vm.noted g.method.cls index (.cls cA) = vm₁ at hg₁ hwarm₁ hready₁
  have hal : s.vm.Alike vm₁ := hwarm₁.alike
  obtain ⟨kA₁, hkA₁, heA⟩ := hal.2.2 _ _ hkA
  obtain ⟨kI₁, hkI₁, heI⟩ := hal.2.2 _ _ hkI
  have hkindA₁ : kA₁.kind = .array cI (.array .int) := by rw [heA]; exact hkindA
  have hkindI₁ : kI₁.kind = .array c0 .int := by rw [heI]; exact hkindI
  have X₁ := X.noted hwarm₁
  obtain ⟨hr1, hr2⟩ := X.roomAbove hcells hslots
  have XF := gr_stand X₁ cA cI 8
  obtain ⟨a1, a2, a3, a4, a5, a6⟩ := gr_facts (T.setVm vm₁) cA cI 8
  obtain ⟨t', b1, b2⟩ := kk (grS (T.setVm vm₁) cA cI 8).heap (locs ++ (List.range 8).map fun j => ⟨(T.setVm vm₁).heap.size, j⟩) (fun q hq => by
    rcases List.mem_append.mp hq with z | z
    · exact Or.inl z
    · obtain ⟨j, -, rfl⟩ := List.mem_map.mp z
      exact Or.inr rfl) a1 a5 a2 a6 (grS (T.setVm vm₁) cA cI 8) rfl XF
  refine ⟨t', ?_, b2⟩
  have hlim : e.platform.arrayLengthLimit ≥ 10 := by rw [Launch.admits_arrayLengthLimit X.admits]; omega
  have hby : e.platform.maxHeapBytes ≥ 40 := by rw [Launch.admits_maxHeapBytes X.admits]; omega
  jvm_step X.here [hexec, hdg]
  simp only [multianewarray.sem, wp_bind', W.resolveClassAt_links (State.method?_setTop g X.here.top) hg₁]
  rw [Jvm.W.popN, if_neg (by decide)]
  refine ⟨g, State.topJava?_setTop' (s := T.setVm vm₁) g X.here.top, [.int 8, .int 10], rest, rfl, hstack, ?_⟩
  simp only [List.mapM_cons, List.mapM_nil, wp_bind', wp_pure']
  have eS : ((T.setTop g).setVm vm₁).setTop { g with stack := rest } = (T.setVm vm₁).setTop { g with stack := rest } := by
    show ((T.setVm vm₁).setTop g).setTop _ = _
    rw [State.setTop_setTop]
  refine gr_wp (kA := kA₁) (kI := kI₁) (c0 := c0) (cI := cI) hkA₁ hkindA₁ hkI₁ hkindI₁ hlim hby (by show T.heap.size + 9 ≤ _; omega) (by show T.slotsUsed + 88 ≤ _; omega) (fun d' acts' => ?_)
  rw [eS, gr_top]
  simp only [wp_bind', Jvm.W.mark, Jvm.W.pushRef, State.topJava?_setTop' _ XF.here.top, Option.some.injEq, exists_eq_left', State.setTop_setTop, State.heap_setTop]
  intro acts
  first
    | (rw [afterInstr_ok]; exact b1)
    | (simp [jvm, XF.here.top]; exact b1)
end

/-! THE CLAIM OUT OF ONE WALK OF THE LAW'S BODY. Your part is whole_start (and what it stands on); all else here is the same for every law, but numbers. -/
def R_law : String := "AfterEachVowelLaw"
def lw_P (b : Addr) (xs : List Int32) (args : Array Value) (s : State) : Prop := args = #[.ref b] ∧ s.IntsAt b xs ∧ xs.length ≤ 3072 ∧ (Jvm.Cond.and given_1 narrow_1).before args s = true
def lw_Q (_ : Array Value) (s : State) (o : Outcome) (t : State) : Prop := o = .returned (some (.int 1)) ∧ Framed s o t [] 600000 7302250
def lw_Z (below : List Frame) (a : Array Value) (s : State) : State → Prop := fun t => ∃ o, t.status = .running ∧ Ended t below o ∧ lw_Q a s o t
/-- the law's own end, with 1 on the stack, nothing written that was there before, its room as the claim has it -/
theorem lw_ret {p : Program} {l : Launch} {e : Env} {s : State} {m : MethodId} {below : List Frame} {meth : Method} {c : Code} {b : Nat} (hx : p.tables.exec = Jvm.exec) (hb : c.code = code) (hr : meth.sig.returnType = ret) (hlocks : meth.locks = false) {pc : Nat} {H : Heap} {ls : Array Slot} (hdg : decode code pc = .ok (.ireturn, 1)) : W p l e room_1 s m #[Value.ref b] below meth c H [] 600000 7302250 (lw_Z below #[Value.ref b] s) (F0 m pc ls [.int 1]) := by
  intro T hT X
  obtain ⟨fs, hret, hrun, hended, hW, hframe⟩ := X.leave (v := some (.int 1)) (hlocks := hlocks) (fun h => by rw [hr] at h; cases h)
  have hmeth' : T.vm.method? m = some meth := X.method'
  refine ⟨T.setFrames fs, ?_, .returned (some (.int 1)), hrun, hended, rfl, ⟨_, rfl⟩, hW, hframe⟩
  jvm_step X.here [X.here.top, hx, hb, hdg, hmeth', hr, ret, narrow_b1]
  (try refine ⟨rfl, ?_⟩); (try refine ⟨rfl, ?_⟩)
  first | (intro acts; rw [hret _ acts rfl rfl rfl]) | rw [hret _ _ rfl rfl rfl]
  exact Steps.refl _
/-- what holds at the law's entry: the machine, the code, the tables' words (any of lw_tbl by 'hts w (by decide +kernel)'), the script of L ints xs at the cell b, what the Statement gives of the start (any of its parts by flat_of_before) -/
def lw_At (p : Program) (s : State) (m : MethodId) (meth : Method) (c : Code) (b L : Nat) (xs : Nat → Int32) : Prop :=
  p.tables.exec = Jvm.exec ∧ c.code = code ∧ meth.sig.returnType = ret ∧ c.maxLocals = 4 ∧ s.vm.findClass R_law = some m.cls ∧ (∀ w ∈ lw_tbl, w.before #[Value.ref b] s = true) ∧ va_X b L xs s s.heap ∧ b < s.heap.size ∧ meth.locks = false ∧ (Jvm.Cond.and given_1 narrow_1).before #[Value.ref b] s = true
theorem law_end {l : Launch} {bb NL : Nat} {D : va_G} {xcf : Nat → ClassId} {ad : Nat → Nat} {xs : Nat → Int32} {b : Nat} (i : Nat) (m : Mem) : AW (GLw l (bb, NTT, D, xcf, ad, NL, xs) 270 12350 (fun below args s t => (args = #[Value.ref b] ∧ s.heap.size = bb) → lw_Z below args s t)) 1115 (LL i) [] m := by
  intro hl hol hos p e s mid args below meth c C H locs la hPw hS hL
  obtain ⟨hx, hb, hrr, -, hown, hts, hlk, -, -, -, -, -, -, hok⟩ := id C
  by_cases hC : args = #[Value.ref b] ∧ s.heap.size = bb
  · obtain ⟨rfl, hbb⟩ := hC
    refine W_mono (Q := lw_Z below #[Value.ref b] s) ?_ (fun t h _ => h)
    have hd1 := (fetch_1 (pc := 1115) (i := .iconst 1) (np := 1116) (tg := 0) (lit := 1) ok_L19 rfl rfl).1
    have hd2 := (fetch_1 (pc := 1116) (i := .ireturn) (np := 1117) (tg := 0) (lit := 0) ok_L19 rfl rfl).1
    refine lv_iconst (v := 1) hx hb hd1 (by decide) ?_
    refine va_forget (fun q hq => ?_) ?_
    · have := hS.2.2 q hq
      have this : bb ≤ q.base := this
      rw [hbb]
      exact this
    · refine W.widen (k := 600000) (n := 7302250) (show (270 : Nat) ≤ 600000 by decide) (show (12350 : Nat) ≤ 7302250 by decide) ?_
      exact lw_ret hx hb hrr hlk hd2
  · exact W_triv (fun t h => absurd h hC)
theorem whole_start {p : Program} {e : Env} {s : State} {m : MethodId} {below : List Frame} {meth : Method} {c : Code} (l : Launch) {b L : Nat} {xs : Nat → Int32} (hL : L ≤ 3072) (C0 : lw_At p s m meth c b L xs) : W p l e room_1 s m #[Value.ref b] below meth c s.heap [] 0 0 (lw_Z below #[Value.ref b] s) (entryFrame m ([Value.ref b] : List Value).toArray 4) := by
  obtain ⟨hx, hb, hr, hml, hown, hts0, hX, hbl, hlk, hgv⟩ := id C0
  obtain ⟨D, xcf, hKB⟩ := st_K (L := L) (xs := xs) hts0
  obtain ⟨ad, had, hKS⟩ := st_KS hts0 hgv hX hbl
  have hts : ∀ w ∈ GT, w.before #[Value.ref b] s = true := fun w hw => hts0 w (List.mem_filter.mp hw).1
  have hKBX : KBt (s.heap.size, NC, D, xcf, ad, L, xs) s := hKB _ _ _
  have hKSX : KS (s.heap.size, NC, D, xcf, ad, L, xs) s s.heap := hKS _ _ _
  have hown : s.vm.findClass (Rn 12) = some m.cls := hown
  generalize hXe : ((s.heap.size, NC, D, xcf, ad, L, xs) : XT) = X at hKBX hKSX
  have hxb : xb X = s.heap.size := by rw [← hXe]; rfl
  have hxN : xN X = NC := by rw [← hXe]; rfl
  have hdec : ∀ (pc np tg : Nat) (i : Instr) (lit : Int32), P_L0.lookup pc = some (i, np, tg, lit) → isSw i = false → decode code pc = .ok (i, ilen i) := fun pc np tg i lit h1 h2 => (fetch_1 ok_L0 h1 h2).1
  have hb : c.code = code := hb
  have hl := lv_entry ([.ref b]) (n := 4) (Nat.le_of_ble_eq_true rfl)
  rw [lg_entry_eq]
  generalize (lg_sl ([.ref b]) ++ List.replicate (4 - (lg_sl ([.ref b])).length) Slot.unset).toArray = la at hl ⊢
  have hcv : cv X (vR 52 0) = .ref b := by
    rw [← hXe]
    show Value.ref (ad 101) = _
    rw [had]
  have hLR : lRep X [vR 52 0, vU, vU, vU] la := by
    refine lRep_of hl rfl (fun j v hj hu => ?_)
    match j, hj with
    | 0, hj => cases hj; rw [hcv]; exact List.mem_cons_self
    | 1, hj => cases hj; cases hu
    | 2, hj => cases hj; cases hu
    | 3, hj => cases hj; cases hu
  have hS0 : va_S (xA X) s.heap s.heap [] := va_S.rf
  -- the class's object
  refine w_new (X := X) (own := 12) (idx := 7) (ci := 10) (N := 13) (w1 := 102) (w2 := 103) (w3 := 83) hx hb hown hts hKBX.1 (by decide +kernel) hxb.symm (by decide) (by decide) (hdec 0 3 0 _ 0 rfl rfl) (fun H1 hP1 hz1 o1 => ?_)
  refine lv_dup hx hb (hdec 3 4 0 _ 0 rfl rfl) rfl ?_
  have hS1 : va_S (xA X) s.heap H1 [] := ⟨by omega, fun q h1 h2 => o1 q (by omega), fun q hq => by cases hq⟩
  have hpre : PreS s H1 (PreA X) [.ref (xb X)] := by
    refine ⟨fun a U g mk q => ⟨q.1, q.2.1, q.2.2.1, KB_call q.2.2.2.1 g mk a, KS.go (s := U) (U := U.calling g mk a) q.2.2.2.2 (State.WarmedH.refl U) (by have := q.2.2.1; omega) (fun _ _ _ => rfl)⟩, fun U hU hW => ⟨rfl, by rw [hU]; exact hP1, by rw [hU]; exact hz1, KBt.go hKBX hW, ?_⟩⟩
    rw [hU]
    exact KS.go hKSX hW (by omega) (fun a h1 h2 => hS1.2.1 a h1 h2)
  have hG10 : GoodIn GT (wsM M_X10_init) := fun w hw => by
    rcases List.mem_cons.mp hw with z | z
    · rw [z]
      exact ⟨GT_in 106 (by decide +kernel) rfl, good_of_word rfl⟩
    · exact GT_good w z
  refine va_callv (va_runI (As := []) (rest := [.ref (xb X)]) (b := xb X) ⟨hx, hb, hml, hown, hts⟩ (ct_10 (l := l) hxN) (cwI 0 hts hG10 rfl rfl rfl (hts _ (GT_in 83 (by decide +kernel) rfl)) (hts (.methodLink (Rn 12) 9 M_X10_init.1) (GT_in 104 (by decide +kernel) rfl)) (hts _ (GT_in 105 (by decide +kernel) rfl)) rfl (by decide +kernel) ⟨by decide, by decide⟩) hpre rfl rfl hLR.1 rfl (lv_room (show (1 : Nat) ≤ 8 by decide)) (hdec 4 7 0 _ 0 rfl rfl) ⟨by decide, by decide⟩) hS1 (fun q _ h => h) (fun q h => h) (fun m0 t H2 locs2 ht halk hF hP2 hle hkeep hS2 => ?_)
  have hP2 : va_P (xD X) vwCl (wsOf X m0) H2 := by rw [← ht]; exact hP2
  refine W_size (fun hsz => ?_)
  have hz2 : H2.size = xb X + 243 := by
    have h1 := (hP2 242 _ (ws_get X m0 (by rw [hxN]; decide))).lt
    have h1 : xb X + 242 < H2.size := h1
    omega
  refine lv_astore_n hx hb (hdec 7 8 0 _ 0 rfl rfl) rfl (lRep_has hLR) (by decide) rfl (fun la2 hla2 => ?_)
  have hLR2 : lRep X [vR 52 0, vR 11 0, vU, vU] la2 := by
    have h9 : lv_has la2 4 ((1, cv X (vR 11 0)) :: (asc X [vR 52 0, vU, vU, vU]).filter (fun q => !(q.1 == 1) && !(q.1 + 1 == 1 && q.2.category == 2))) := by
      rw [ref_in rfl]
      exact hla2
    exact lRep_set (ls := [vR 52 0, vU, vU, vU]) (i := 1) (v := vR 11 0) (by decide) rfl h9
  -- the model's object
  have hxb2 : xb (shX X 243) = xb X + 243 := rfl
  refine w_new (X := shX X 243) (own := 12) (idx := 10) (ci := 11) (N := 45) (w1 := 1227) (w2 := 1132) (w3 := 100) hx hb hown hts hKBX.1 (by decide +kernel) (by rw [hxb2]; exact hz2) (by decide) (by decide) (hdec 8 11 0 _ 0 rfl rfl) (fun H3 hP3 hz3 o3 => ?_)
  refine lv_dup hx hb (hdec 11 12 0 _ 0 rfl rfl) rfl ?_
  have hS3 : va_S (xA X) s.heap H3 locs2 := ⟨by omega, fun q h1 h2 => (o3 q (by omega)).trans (hS2.2.1 q h1 h2), hS2.2.2⟩
  have hpre3 : PreS s H3 (PreB (shX X 243) 11) [.ref (xb (shX X 243))] := ⟨fun a U g mk q => ⟨q.1, q.2.1, q.2.2.1, KB_call q.2.2.2 g mk a⟩, fun U hU hW => ⟨rfl, by rw [hU]; exact hP3, by rw [hU]; exact hz3, KBt.go hKBX hW⟩⟩
  have hG11 : GoodIn GT (wsM (MIc 11)) := fun w hw => by
    rcases List.mem_cons.mp hw with z | z
    · rw [z]
      exact ⟨GT_in 1230 w_1230 rfl, good_of_word rfl⟩
    · exact GT_good w z
  have hAA : ∀ q, xA (shX X 243) q → xA X q := fun q h9 => Nat.le_trans (Nat.le_add_right _ _) h9
  refine va_callv (va_runI (As := []) (rest := [.ref (xb (shX X 243))]) (b := xb (shX X 243)) ⟨hx, hb, hml, hown, hts⟩ (ct_11 (l := l) (shX X 243)) (cwI 0 hts hG11 rfl rfl rfl (hts _ (GT_in 100 (by decide +kernel) rfl)) (hts (.methodLink (Rn 12) 12 (MIc 11).1) (GT_in 1228 (by decide +kernel) rfl)) (hts _ (GT_in 1229 (by decide +kernel) rfl)) rfl (by decide +kernel) ⟨by decide, by decide⟩) hpre3 rfl rfl hLR2.1 rfl (lv_room (show (1 : Nat) ≤ 8 by decide)) (hdec 12 15 0 _ 0 rfl rfl) ⟨by decide, by decide⟩) hS3 (fun q _ h => hAA q h) hAA (fun u t4 H4 locs4 ht4 halk4 _ hB4 hle4 hkeep4 hS4 => ?_)
  obtain ⟨hP4, hz4⟩ := hB4
  rw [ht4] at hP4 hz4
  have hP5 : va_P (xD X) vwCl (wsOf X m0) H4 := hP2.kept (fun k q hq => by
    have hk : k < 243 := by
      have := (List.getElem?_eq_some_iff.mp hq).1
      rw [ws_len, hxN] at this
      exact this
    rw [ws_get X m0 (by rw [hxN]; exact hk)] at hq
    cases hq
    have a1 : xb X + k < xb X + 243 := by omega
    rw [hkeep4 _ (by omega) (Nat.not_le.mpr a1)]
    exact o3 _ a1)
  refine lv_astore_n hx hb (hdec 15 16 0 _ 0 rfl rfl) rfl (lRep_has hLR2) (by decide) rfl (fun la3 hla3 => ?_)
  have hLR3 : lRep X [vR 52 0, vR 11 0, vR 12 243, vU] la3 := by
    have h9 : lv_has la3 4 ((2, cv X (vR 12 243)) :: (asc X [vR 52 0, vR 11 0, vU, vU]).filter (fun q => !(q.1 == 2) && !(q.1 + 1 == 2 && q.2.category == 2))) := by
      rw [ref_in rfl]
      exact hla3
    exact lRep_set (ls := [vR 52 0, vR 11 0, vU, vU]) (i := 2) (v := vR 12 243) (by decide) rfl h9
  refine lv_iconst (v := 0) hx hb (hdec 16 17 0 _ 0 rfl rfl) (by decide) ?_
  refine lv_istore_n hx hb (hdec 17 18 0 _ 0 rfl rfl) rfl (lRep_has hLR3) (by decide) rfl (fun la4 hla4 => ?_)
  have hLR4 : lRep X (LL 0) la4 := lRep_set (ls := [vR 52 0, vR 11 0, vR 12 243, vU]) (i := 3) (v := vI 0) (by decide) rfl hla4
  subst hXe
  obtain ⟨fa, fb, fc, ca, cb, cd, hC0⟩ := hF
  have hW0 : WO (OM0 (fa, fb, fc)) := WO0
  have hIC : InvC (m2F m0) (OM0 (fa, fb, fc)) := hC0.KM hW0 (fun a h => if_pos h)
  have hIM : InvM (m2F m0) (OM0 (fa, fb, fc)) := m2_M ca cb cd
  have hAW := law_loop (l := l) (X := (s.heap.size, NTT, D, xcf, ad, L, xs)) (cs := 270) (ss := 12350) (Z := fun below args s' t => (args = #[Value.ref b] ∧ s'.heap.size = s.heap.size) → lw_Z below args s' t) (show L ≤ 3072 from hL) law_end hW0 hIC hIM
  refine W_mono (hAW rfl ?_ okl_nil p e s m _ below meth c ⟨hx, hb, hr, hml, hown, hts, hlk, hKBX.1, hKSX, Or.inr rfl, Nat.le_refl _, (show (270 : Nat) ≤ room_1.cells by decide), (show (12350 : Nat) ≤ room_1.slots by decide), ok_L_law⟩ H4 locs4 la4 (m2_P hP5 hP4) hS4 hLR4) (fun t h => h ⟨rfl, rfl⟩)
  refine okl_cons.mpr ⟨okv_52, okl_cons.mpr ⟨Or.inr (Or.inr ⟨rfl, (show (0 : Nat) < NTT by decide), by decide +kernel⟩), okl_cons.mpr ⟨Or.inr (Or.inr ⟨rfl, (show (243 : Nat) < NTT by decide), by decide +kernel⟩), okl_cons.mpr ⟨trivial, okl_nil⟩⟩⟩⟩

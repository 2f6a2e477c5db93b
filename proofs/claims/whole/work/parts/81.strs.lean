-- ===== strings, the static row UNDER: rules of their own =====
theorem GT_at {w : Cond} (i : Nat) (h : lw_tbl[i]? = some w) (g : goodWord w = true) : w ∈ GT := GT_in i h g
theorem w_value : (Cond.fieldLink (Rn 13) 9 "java/lang/String" "value" "[B") ∈ GT := GT_in 1564 (by decide +kernel) (by decide +kernel)
theorem w_coder : (Cond.fieldLink (Rn 13) 15 "java/lang/String" "coder" "B") ∈ GT := GT_in 1565 (by decide +kernel) (by decide +kernel)
theorem w_compact : (Cond.fieldLink (Rn 13) 38 "java/lang/String" "COMPACT_STRINGS" "Z") ∈ GT := GT_in 385 (by decide +kernel) (by decide +kernel)
theorem w_sioobe : (Cond.fieldLink (Rn 13) 1053 "jdk/internal/util/Preconditions" "SIOOBE_FORMATTER" "Ljava/util/function/BiFunction;") ∈ GT := GT_in 401 (by decide +kernel) (by decide +kernel)
theorem w_under : (Cond.fieldLink (Rn 10) 322 RX10 "UNDER" "[I") ∈ GT := GT_in 1109 (by decide +kernel) (by decide +kernel)
theorem aof_s {X : XT} {k : Nat} : cv X (vR 50 k) = .ref (xa X k) := rfl
section
variable {G : GG} {pc np tg : Nat} {lit : Int32} {ls st rest r As : List AV} {m : Mem} {idx n d' k : Nat} {μ : MI} {Q : Option AV → Mem → Prop}
theorem okv_50 {X : XT} {k : Nat} (h : k < 14 ∨ 200 ≤ k) : okv X (vR 50 k) := Or.inr (Or.inl ⟨rfl, fun _ => h⟩)
theorem okv_51 {X : XT} : okv X (vR 51 0) := Or.inr (Or.inl ⟨rfl, fun h => absurd h (by decide)⟩)
theorem AW.ldS (q : Nat × Nat × String × Nat) (hf : G.2.2.2.2.2.1.2.2.2.2.2.lookup pc = some (.ldc idx, np, tg, lit)) (hm : q ∈ SRF) (e1 : q.1 = G.2.2.2.2.2.1.2.2.2.2.1) (e2 : q.2.1 = idx) (hk : Nat.blt q.2.2.2 14 = true) (kk : AW G np ls (vR 50 q.2.2.2 :: st) m) : AW G pc ls st m := by
  intro hl hol hos p e s mid args below meth co C H locs la hPw hS hL
  obtain ⟨hx, hb, -, -, hown, hts, -, -, hKS, -, -, -, -, hok⟩ := id C
  obtain ⟨hd, hn⟩ := fetch_1 hok hf rfl
  have hn : np = pc + 2 := hn
  subst hn
  have hk : q.2.2.2 < 14 := Nat.le_of_ble_eq_true hk
  have hz := hKS.2.1 q hm
  rw [e1, e2] at hz
  exact va_ldcS hx hb hown hz hd (kk hl hol (okl_cons.mpr ⟨okv_50 (Or.inl hk), hos⟩) p e s mid args below meth co C H locs la hPw hS hL)
theorem AW.sval (hf : G.2.2.2.2.2.1.2.2.2.2.2.lookup pc = some (.getfield 9, np, tg, lit)) (ho : G.2.2.2.2.2.1.2.2.2.2.1 = 13) (hk : k < 14) (kk : AW G np ls (vR 50 (200 + k) :: r) m) : AW G pc ls (vR 50 k :: r) m := by
  intro hl hol hos p e s mid args below meth co C H locs la hPw hS hL
  obtain ⟨hx, hb, -, -, hown, hts, -, -, hKS, -, -, -, -, hok⟩ := id C
  obtain ⟨hd, hn⟩ := fetch_1 hok hf rfl
  have hn : np = pc + 3 := hn
  subst hn
  rw [ho] at hown
  exact vk_getf hx hb (hKS.2.2.1.1 k hk).2.2.1 hS hown (hts _ w_value) (fun _ h => h) hd (kk hl hol (okl_cons.mpr ⟨okv_50 (Or.inr (by omega)), (okl_cons.mp hos).2⟩) p e s mid args below meth co C H locs la hPw hS hL)
theorem AW.scod (hf : G.2.2.2.2.2.1.2.2.2.2.2.lookup pc = some (.getfield 15, np, tg, lit)) (ho : G.2.2.2.2.2.1.2.2.2.2.1 = 13) (hk : k < 14) (kk : AW G np ls (vI 0 :: r) m) : AW G pc ls (vR 50 k :: r) m := by
  intro hl hol hos p e s mid args below meth co C H locs la hPw hS hL
  obtain ⟨hx, hb, -, -, hown, hts, -, -, hKS, -, -, -, -, hok⟩ := id C
  obtain ⟨hd, hn⟩ := fetch_1 hok hf rfl
  have hn : np = pc + 3 := hn
  subst hn
  rw [ho] at hown
  exact vk_getf hx hb (hKS.2.2.1.1 k hk).2.1 hS hown (hts _ w_coder) (fun _ h => h) hd (kk hl hol (okl_cons.mpr ⟨trivial, (okl_cons.mp hos).2⟩) p e s mid args below meth co C H locs la hPw hS hL)
theorem AW.scmp (hf : G.2.2.2.2.2.1.2.2.2.2.2.lookup pc = some (.getstatic 38, np, tg, lit)) (ho : G.2.2.2.2.2.1.2.2.2.2.1 = 13) (kk : AW G np ls (vI 1 :: st) m) : AW G pc ls st m := by
  intro hl hol hos p e s mid args below meth co C H locs la hPw hS hL
  obtain ⟨hx, hb, -, -, hown, hts, -, -, hKS, -, -, -, -, hok⟩ := id C
  obtain ⟨hd, hn⟩ := fetch_1 hok hf rfl
  have hn : np = pc + 3 := hn
  subst hn
  rw [ho] at hown
  exact va_gets hx hb hKS.2.2.2.1 hS hown (hts _ w_compact) (fun _ h => h) hd (kk hl hol (okl_cons.mpr ⟨trivial, hos⟩) p e s mid args below meth co C H locs la hPw hS hL)
theorem AW.slen (hf : G.2.2.2.2.2.1.2.2.2.2.2.lookup pc = some (.arraylength, np, tg, lit)) (hk : k < 14) (kk : AW G np ls (vI (nI (SLN.getD k 0)) :: r) m) : AW G pc ls (vR 50 (200 + k) :: r) m := by
  intro hl hol hos p e s mid args below meth co C H locs la hPw hS hL
  obtain ⟨hx, hb, -, -, hown, hts, -, -, hKS, -, -, -, -, hok⟩ := id C
  obtain ⟨hd, hn⟩ := fetch_1 hok hf rfl
  have hn : np = pc + 1 := hn
  subst hn
  exact va_tlen hx hb (hKS.2.2.1.1 k hk).2.2.2 hS rfl hd (kk hl hol (okl_cons.mpr ⟨trivial, (okl_cons.mp hos).2⟩) p e s mid args below meth co C H locs la hPw hS hL)
theorem AW.sbal {i : Int32} (hf : G.2.2.2.2.2.1.2.2.2.2.2.lookup pc = some (.baload, np, tg, lit)) (hk : k < 14) (hi : vp_in i (SLN.getD k 0)) (kk : AW G np ls (vI ((SBY.getD k []).getD i.toNatClampNeg 0) :: r) m) : AW G pc ls (vI i :: vR 50 (200 + k) :: r) m := by
  intro hl hol hos p e s mid args below meth co C H locs la hPw hS hL
  obtain ⟨hx, hb, -, -, hown, hts, -, -, hKS, -, -, -, -, hok⟩ := id C
  obtain ⟨hd, hn⟩ := fetch_1 hok hf rfl
  have hn : np = pc + 1 := hn
  subst hn
  exact va_tb hx hb (hKS.2.2.1.1 k hk).2.2.2 hS hi rfl hd (kk hl hol (okl_cons.mpr ⟨trivial, (okl_cons.mp (okl_cons.mp hos).2).2⟩) p e s mid args below meth co C H locs la hPw hS hL)
theorem AW.gund (hf : G.2.2.2.2.2.1.2.2.2.2.2.lookup pc = some (.getstatic 322, np, tg, lit)) (ho : G.2.2.2.2.2.1.2.2.2.2.1 = 10) (kk : AW G np ls (vR 51 0 :: st) m) : AW G pc ls st m := by
  intro hl hol hos p e s mid args below meth co C H locs la hPw hS hL
  obtain ⟨hx, hb, -, -, hown, hts, -, -, hKS, -, -, -, -, hok⟩ := id C
  obtain ⟨hd, hn⟩ := fetch_1 hok hf rfl
  have hn : np = pc + 3 := hn
  subst hn
  rw [ho] at hown
  exact va_gets hx hb hKS.2.2.2.2.2.1 hS hown (hts _ w_under) (fun _ h => h) hd (kk hl hol (okl_cons.mpr ⟨okv_51, hos⟩) p e s mid args below meth co C H locs la hPw hS hL)
theorem AW.uld {i : Int32} (hf : G.2.2.2.2.2.1.2.2.2.2.2.lookup pc = some (.iaload, np, tg, lit)) (hi : vp_in i 6) (kk : AW G np ls (vI (UND.getD i.toNatClampNeg 0) :: r) m) : AW G pc ls (vI i :: vR 51 0 :: r) m := by
  intro hl hol hos p e s mid args below meth co C H locs la hPw hS hL
  obtain ⟨hx, hb, -, -, hown, hts, -, -, hKS, -, -, -, -, hok⟩ := id C
  obtain ⟨hd, hn⟩ := fetch_1 hok hf rfl
  have hn : np = pc + 1 := hn
  subst hn
  exact va_ti hx hb hKS.2.2.2.2.2.2.1 hS hi rfl hd (kk hl hol (okl_cons.mpr ⟨trivial, (okl_cons.mp (okl_cons.mp hos).2).2⟩) p e s mid args below meth co C H locs la hPw hS hL)
theorem AW.callT (hf : G.2.2.2.2.2.1.2.2.2.2.2.lookup pc = some (.invokevirtual idx, np, tg, lit)) (hs : splV n st = some (As, 50, k, rest)) (hk : CVok G.2.2.2.2.2.1.2.2.2.2.1 idx μ n) (hcl : μ.1.cls = "java/lang/String") (hk14 : k < 14) (hR : d' + 1 ≤ G.2.2.1.frames ∧ 8 + (μ.2.2.1 + 11) + 60 * d' ≤ G.2.2.1.locals) (hr8 : (rest.map catA).sum ≤ 8)
    (hM : Meth G.1 G.2.1 d' μ (vR 50 k :: As) m Q) (kk : ∀ (r : Option AV) (m' : Mem), Q r m' → AW G np ls (r.toList ++ rest) m') : AW G pc ls st m := by
  obtain ⟨rfl, hlen⟩ := splV_eq hs
  intro hl hol hos p e s mid args below meth co C H locs la hPw hS hL
  obtain ⟨hx, hb, -, hml, hown, hts, hlk, hK, hKS, hN, hbz, hc1, hc2, hok⟩ := id C
  obtain ⟨hd, hn⟩ := fetch_1 hok hf rfl
  have hn : np = pc + 3 := hn
  subst hn
  have ho1 : okl G.2.1 As := fun v hv => hos v (List.mem_append_left _ (List.mem_reverse.mpr hv))
  have ho2 := okl_cons.mp (fun v hv => hos v (List.mem_append_right _ hv) : okl G.2.1 (vR 50 k :: rest))
  have hrc := vk_recv hKS.2.2.1 hk14 hS
  rw [← hcl] at hrc
  have hM' := hM hN (okl_cons.mpr ⟨ho2.1, ho1⟩)
  have hvs : ((vR 50 k :: As).map (cv G.2.1)).toArray = (Value.ref (xa G.2.1 k) :: As.map (cv G.2.1)).toArray := rfl
  refine aw_after (rest := rest.map (cv G.2.1)) (va_runV (As := As.map (cv G.2.1)) (n := n) (b := xa G.2.1 k) ⟨hx, hb, hml, hown, hts⟩ hM' (cwV n hts hk.1 rfl rfl rfl ⟨rfl, hk.2⟩ hR) ⟨PreM_blind, hrc, fun U hU hW => ?_⟩ rfl (by rw [List.length_map]; exact hlen) (hL.1.trans hl) ?_ (lv_room (by rw [catA_cv]; exact hr8)) hd ⟨hc1, hc2⟩) hS (fun r m' H1 locs1 hQ hor hP1 hS1 => ?_)
  · rw [← hvs]
    exact aw_pre (args := args) hK hKS hbz hPw hS hU hW
  · show (As.reverse ++ vR 50 k :: rest).map (cv G.2.1) = _
    rw [List.map_append, List.map_cons, List.map_reverse]
    rfl
  · have k1 := kk r m' hQ hl hol (fun v hv => (List.mem_append.mp hv).elim (hor v) (ho2.2 v)) p e s mid args below meth co C H1 locs1 la hP1 hS1 hL
    rw [List.map_append] at k1
    exact k1
end
theorem AW.T {l : Launch} {X : XT} {d : Nat} {μ0 μ : MI} {Q0 Q : Option AV → Mem → Prop} {pc np tg idx n k : Nat} {lit : Int32} {ls st As rest : List AV} {m : Mem} (hk : CVok μ0.2.2.2.2.1 idx μ n) (hM : Meth l X d μ (vR 50 k :: As) m Q) (hf : μ0.2.2.2.2.2.lookup pc = some (.invokevirtual idx, np, tg, lit)) (hs : splV n st = some (As, 50, k, rest)) (hcl : μ.1.cls = "java/lang/String") (hk14 : k < 14) (h41 : Nat.ble μ.2.2.1 41 = true) (hr8 : Nat.ble (rest.map catA).sum 8 = true)
    (kk : ∀ (r : Option AV) (m' : Mem), Q r m' → AW (GM l X (d + 1) μ0 Q0) np ls (r.toList ++ rest) m') : AW (GM l X (d + 1) μ0 Q0) pc ls st m :=
  AW.callT (G := GM l X (d + 1) μ0 Q0) hf hs hk hcl hk14 (rR (Nat.le_of_ble_eq_true h41)) (Nat.le_of_ble_eq_true hr8) hM kk
-- ===== the check of an index =====
/-- the JDK's own check: two ints, and a thing that isn't looked at -/
theorem met_pcheck {l : Launch} {X : XT} {d i n : Nat} {m : Mem} (hN : xN X = NC ∨ xN X = NTT) (hi : i < n) (hn : n < 2 ^ 31) : Met l M_J_pcheck.1 (wsM M_J_pcheck) (rmd d) (fun a U => (∃ v : Value, v.category = 1 ∧ a = #[.int (nI i), .int (nI n), v]) ∧ va_P (xD X) vwCl (wsOf X m) U.heap ∧ va_K (xD X) vwCl (tysOf X) U ∧ KS X U U.heap ∧ xb X ≤ U.heap.size) (PostM X (fun r m' => r = some (vI (nI i)) ∧ m' = m)) 0 0 (xA X) := by
  refine Met.ofW (cc := M_J_pcheck.2.1) (maxL := M_J_pcheck.2.2.1) (ret := M_J_pcheck.2.2.2.1) (by decide) rfl ?_
  intro p e s mid args below meth c s₁ B hml hv
  obtain ⟨⟨v, hcat, rfl⟩, hP, hK, hKS, hbz⟩ := hv
  have hts := atoms_spec (ws := wsM M_J_pcheck) B.pre
  have hown : s.vm.findClass M_J_pcheck.1.cls = some mid.cls := findClass_of_methodNamed B.named
  have hl := lv_entry [.int (nI i), .int (nI n), v] (n := 3) (by
    show (lg_sl [.int (nI i), .int (nI n), v]).length ≤ 3
    cases v <;> first | (exact Nat.le_refl _) | (cases hcat))
  rw [show (#[Value.int (nI i), Value.int (nI n), v] : Array Value) = ([Value.int (nI i), Value.int (nI n), v] : List Value).toArray from rfl, lg_entry_eq]
  have k : AW (GM l X d M_J_pcheck (fun r m' => r = some (vI (nI i)) ∧ m' = m)) 0 [vI (nI i), vI (nI n), vU] [] m := by
    repeat refine AW.s rfl ?_
    try dsimp only [List.set_cons_zero, List.set_cons_succ, Option.toList_some, Option.toList_none, List.cons_append, List.nil_append]
    refine AW.b rfl (fun hc => ?_) (fun hc => ?_)
    · exact absurd hc (nI_pos (by omega))
    · repeat refine AW.s rfl ?_
      try dsimp only [List.set_cons_zero, List.set_cons_succ, Option.toList_some, Option.toList_none, List.cons_append, List.nil_append]
      refine AW.b rfl (fun hc => ?_) (fun hc => ?_)
      · repeat refine AW.s rfl ?_
        try dsimp only [List.set_cons_zero, List.set_cons_succ, Option.toList_some, Option.toList_none, List.cons_append, List.nil_append]
        exact AW.ri rfl rfl rfl ⟨rfl, rfl⟩
      · exact absurd (nI_lt hi hn) hc
  refine k rfl ?_ okl_nil p e s mid _ below meth c ⟨B.exec, B.bytes, B.returns, hml, hown, fun w hw => hts w (List.mem_cons_of_mem _ hw), B.notSynchronized, hK, hKS, hN, hbz, Nat.le_refl _, Nat.le_refl _, ok_J_pcheck⟩ s.heap [] _ hP va_S.rf ?_
  · intro w hw
    rcases List.mem_cons.mp hw with rfl | hw
    · exact trivial
    · rcases List.mem_cons.mp hw with rfl | hw
      · exact trivial
      · rw [List.mem_singleton.mp hw]; exact okv_U
  · refine lRep_of hl rfl (fun j w hj hu => ?_)
    match j, hj with
    | 0, hj => cases hj; exact List.mem_cons_self
    | 1, hj => cases hj; exact List.mem_cons_of_mem _ List.mem_cons_self
    | 2, hj => cases hj; cases hu
    | j + 3, hj => cases hj
theorem AW.pchk {l : Launch} {X : XT} {d i n : Nat} {Q0 : Option AV → Mem → Prop} {ls : List AV} {m : Mem} (hi : i < n) (hn : n < 2 ^ 31) (kk : AW (GM l X (d + 1) M_J_checkIndex Q0) 8 ls [vI (nI i)] m) : AW (GM l X (d + 1) M_J_checkIndex Q0) 2 ls [vI (nI n), vI (nI i)] m := by
  intro hl hol hos p e s mid args below meth co C H locs la hPw hS hL
  obtain ⟨hx, hb, -, hml, hown, hts, hlk, hK, hKS, hN, hbz, hc1, hc2, hok⟩ := id C
  obtain ⟨hd, -⟩ := fetch_1 (pc := 2) (i := .getstatic 1053) (np := 5) (tg := 0) (lit := 0) hok rfl rfl
  obtain ⟨hd2, -⟩ := fetch_1 (pc := 5) (i := .invokestatic 1059) (np := 8) (tg := 0) (lit := 0) hok rfl rfl
  have hZ := hKS.2.2.2.2.1
  have key : ∀ v : Value, v.category = 1 → va_Z "jdk/internal/util/Preconditions" "SIOOBE_FORMATTER" "Ljava/util/function/BiFunction;" v (xA X) s s.heap → W p l e (rmd (d + 1)) s mid args below meth co H locs 0 0 (ZM X Q0 below args s) (F0 mid 2 la [.int (nI n), .int (nI i)]) := by
    intro v hv hZ
    refine va_gets hx hb hZ hS hown (hts _ w_sioobe) (fun _ h => h) hd ?_
    refine aw_after (X := X) (rest := []) (Q := fun r m' => r = some (vI (nI i)) ∧ m' = m) (va_runS (As := [.int (nI i), .int (nI n), v]) (n := 3) ⟨hx, hb, hml, hown, hts⟩ (met_pcheck (m := m) (d := d) (i := i) (n := n) hN hi hn) (va_cwS 3 hts k_13_1059.1 rfl rfl rfl k_13_1059.2 (rR (by decide))) ⟨fun a U g mk q => ?_, fun U hU hW => ?_⟩ rfl rfl (hL.1.trans hl) rfl (lv_room (by show 0 ≤ 8; omega)) hd2 ⟨Nat.le_refl _, Nat.le_refl _⟩) hS (fun r m' H1 locs1 hQ hor hP1 hS1 => ?_)
    · obtain ⟨q0, q1, q2, q3, q4⟩ := q
      exact ⟨q0, q1, va_K.moved (u := U) (U := U.calling g mk a) (Vm.Alike.refl U.vm) q2, KS.go (s := U) (U := U.calling g mk a) q3 (State.WarmedH.refl U) q4 (fun _ _ _ => rfl), q4⟩
    · refine ⟨⟨v, hv, rfl⟩, by rw [hU]; exact hPw, va_K.moved hW.alike hK, ?_, ?_⟩
      · rw [hU]; exact KS.go hKS hW hbz (fun a h1 h2 => hS.2.1 a h1 h2)
      · rw [hU]; exact Nat.le_trans hbz hS.1
    · obtain ⟨rfl, rfl⟩ := hQ
      exact kk hl hol (okl_cons.mpr ⟨trivial, okl_nil⟩) p e s mid args below meth co C H1 locs1 la hP1 hS1 hL
  rcases hZ with hZ | ⟨t, hZ⟩
  · exact key .null rfl hZ
  · exact key (.ref t) rfl hZ
theorem c_checkIndex {l : Launch} {X : XT} {d i n : Nat} {m : Mem} (hd : 1 ≤ d) (hi : i < n) (hn : n < 2 ^ 31) : Meth l X d M_J_checkIndex [vI (nI i), vI (nI n)] m (fun r m' => r = none ∧ m' = m) := by
  obtain ⟨d, rfl⟩ : ∃ e, d = e + 1 := ⟨d - 1, by omega⟩
  refine E_J_checkIndex (ls := [vI (nI i), vI (nI n)]) rfl rfl ?_
  repeat refine AW.s rfl ?_
  try dsimp only [List.set_cons_zero, List.set_cons_succ, Option.toList_some, Option.toList_none, List.cons_append, List.nil_append]
  refine AW.pchk hi hn ?_
  repeat refine AW.s rfl ?_
  try dsimp only [List.set_cons_zero, List.set_cons_succ, Option.toList_some, Option.toList_none, List.cons_append, List.nil_append]
  exact AW.rv rfl rfl ⟨rfl, rfl⟩
-- ===== the strings' methods =====
theorem c_coder {l : Launch} {X : XT} {d k : Nat} {m : Mem} (hk : k < 14) : Meth l X d M_J_coder [vR 50 k] m (fun r m' => r = some (vI 0) ∧ m' = m) := by
  refine E_J_coder (ls := [vR 50 k]) rfl rfl ?_
  refine AW.scmp rfl rfl ?_
  refine AW.b rfl (fun hc => ?_) (fun hc => ?_)
  · exact absurd hc (by decide)
  · repeat refine AW.s rfl ?_
    try dsimp only [List.set_cons_zero, List.set_cons_succ, Option.toList_some, Option.toList_none, List.cons_append, List.nil_append]
    refine AW.scod rfl rfl hk ?_
    repeat refine AW.s rfl ?_
    try dsimp only [List.set_cons_zero, List.set_cons_succ, Option.toList_some, Option.toList_none, List.cons_append, List.nil_append]
    exact AW.ri rfl rfl rfl ⟨rfl, rfl⟩
theorem c_isLatin1 {l : Launch} {X : XT} {d k : Nat} {m : Mem} (hk : k < 14) : Meth l X d M_J_isLatin1 [vR 50 k] m (fun r m' => r = some (vI 1) ∧ m' = m) := by
  refine E_J_isLatin1 (ls := [vR 50 k]) rfl rfl ?_
  refine AW.scmp rfl rfl ?_
  refine AW.b rfl (fun hc => ?_) (fun hc => ?_)
  · exact absurd hc (by decide)
  · repeat refine AW.s rfl ?_
    try dsimp only [List.set_cons_zero, List.set_cons_succ, Option.toList_some, Option.toList_none, List.cons_append, List.nil_append]
    refine AW.scod rfl rfl hk ?_
    refine AW.b rfl (fun hc => ?_) (fun hc => ?_)
    · repeat refine AW.s rfl ?_
      try dsimp only [List.set_cons_zero, List.set_cons_succ, Option.toList_some, Option.toList_none, List.cons_append, List.nil_append]
      exact AW.ri rfl rfl rfl ⟨rfl, rfl⟩
    · exact absurd rfl hc
theorem sln_lt : ∀ k, k < 14 → SLN.getD k 0 < 100 ∧ (SBY.getD k []).length = SLN.getD k 0 ∧ ∀ j, j < SLN.getD k 0 → ∃ b, b < 128 ∧ 32 ≤ b ∧ (SBY.getD k []).getD j 0 = nI b := by
  have h : ∀ k, k < 14 → SLN.getD k 0 < 100 ∧ (SBY.getD k []).length = SLN.getD k 0 ∧ ∀ j, j < SLN.getD k 0 → ((SBY.getD k []).getD j 0).toNatClampNeg < 128 ∧ 32 ≤ ((SBY.getD k []).getD j 0).toNatClampNeg ∧ (SBY.getD k []).getD j 0 = nI ((SBY.getD k []).getD j 0).toNatClampNeg := by decide +kernel
  intro k hk
  obtain ⟨h1, h2, h3⟩ := h k hk
  exact ⟨h1, h2, fun j hj => ⟨_, (h3 j hj).1, (h3 j hj).2.1, (h3 j hj).2.2⟩⟩
theorem c_slength {l : Launch} {X : XT} {d k : Nat} {m : Mem} (hd : 1 ≤ d) (hk : k < 14) : Meth l X d M_J_length [vR 50 k] m (fun r m' => r = some (vI (nI (SLN.getD k 0))) ∧ m' = m) := by
  obtain ⟨d, rfl⟩ : ∃ e, d = e + 1 := ⟨d - 1, by omega⟩
  refine E_J_length (ls := [vR 50 k]) rfl rfl ?_
  repeat refine AW.s rfl ?_
  try dsimp only [List.set_cons_zero, List.set_cons_succ, Option.toList_some, Option.toList_none, List.cons_append, List.nil_append]
  refine AW.sval rfl rfl hk ?_
  refine AW.slen rfl hk ?_
  repeat refine AW.s rfl ?_
  try dsimp only [List.set_cons_zero, List.set_cons_succ, Option.toList_some, Option.toList_none, List.cons_append, List.nil_append]
  refine AW.T k_13_335 (c_coder hk) rfl rfl rfl hk rfl rfl (fun r1 m1 hq => ?_)
  obtain ⟨rfl, rfl⟩ := hq
  repeat refine AW.s rfl ?_
  try dsimp only [List.set_cons_zero, List.set_cons_succ, Option.toList_some, Option.toList_none, List.cons_append, List.nil_append]
  have e : nI (SLN.getD k 0) >>> ((0 : Int32) &&& 31) = nI (SLN.getD k 0) := by
    rw [show ((0 : Int32) &&& 31) = 0 from rfl]
    simp
  rw [e]
  exact AW.ri rfl rfl rfl ⟨rfl, rfl⟩
theorem byte_c : ∀ b, b < 256 → ((nI b &&& 255).toUInt32 % 65536).toInt32 = nI b := by decide +kernel
theorem nar_c : ∀ b, b < 256 → narrow .char (.int (nI b)) = .int (nI b) := by decide +kernel
theorem c_lcharAt {l : Launch} {X : XT} {d k j : Nat} {m : Mem} (hd : 2 ≤ d) (hk : k < 14) (hj : j < SLN.getD k 0) : Meth l X d M_J_lcharAt [vR 50 (200 + k), vI (nI j)] m (fun r m' => r = some (vI ((SBY.getD k []).getD j 0)) ∧ m' = m) := by
  obtain ⟨d, rfl⟩ : ∃ e, d = e + 1 := ⟨d - 1, by omega⟩
  obtain ⟨h1, h2, h3⟩ := sln_lt k hk
  obtain ⟨b, hb, -, eb⟩ := h3 j hj
  refine E_J_lcharAt (ls := [vR 50 (200 + k), vI (nI j)]) rfl rfl ?_
  repeat refine AW.s rfl ?_
  try dsimp only [List.set_cons_zero, List.set_cons_succ, Option.toList_some, Option.toList_none, List.cons_append, List.nil_append]
  refine AW.slen rfl hk ?_
  refine AW.S k_14_9 ((c_checkIndex (by omega) hj (by omega))) rfl rfl rfl rfl (fun r1 m1 hq => ?_)
  obtain ⟨rfl, hm1⟩ := hq
  rw [hm1]
  repeat refine AW.s rfl ?_
  try dsimp only [List.set_cons_zero, List.set_cons_succ, Option.toList_some, Option.toList_none, List.cons_append, List.nil_append]
  refine AW.sbal rfl hk (vp_in_nI hj (by omega)) ?_
  rw [nI_clamp (by omega), eb]
  repeat refine AW.s rfl ?_
  try dsimp only [List.set_cons_zero, List.set_cons_succ, Option.toList_some, Option.toList_none, List.cons_append, List.nil_append]
  rw [byte_c b (by omega)]
  exact AW.ri rfl rfl (nar_c b (by omega)) ⟨rfl, rfl⟩
theorem c_charAt {l : Launch} {X : XT} {d k j : Nat} {m : Mem} (hd : 3 ≤ d) (hk : k < 14) (hj : j < SLN.getD k 0) : Meth l X d M_J_charAt [vR 50 k, vI (nI j)] m (fun r m' => r = some (vI ((SBY.getD k []).getD j 0)) ∧ m' = m) := by
  obtain ⟨d, rfl⟩ : ∃ e, d = e + 1 := ⟨d - 1, by omega⟩
  obtain ⟨h1, h2, h3⟩ := sln_lt k hk
  obtain ⟨b, hb, -, eb⟩ := h3 j hj
  refine E_J_charAt (ls := [vR 50 k, vI (nI j)]) rfl rfl ?_
  repeat refine AW.s rfl ?_
  try dsimp only [List.set_cons_zero, List.set_cons_succ, Option.toList_some, Option.toList_none, List.cons_append, List.nil_append]
  refine AW.T k_13_492 (c_isLatin1 hk) rfl rfl rfl hk rfl rfl (fun r1 m1 hq => ?_)
  obtain ⟨rfl, rfl⟩ := hq
  try dsimp only [List.set_cons_zero, List.set_cons_succ, Option.toList_some, Option.toList_none, List.cons_append, List.nil_append]
  refine AW.b rfl (fun hc => ?_) (fun hc => ?_)
  · exact absurd hc (by decide)
  · repeat refine AW.s rfl ?_
    try dsimp only [List.set_cons_zero, List.set_cons_succ, Option.toList_some, Option.toList_none, List.cons_append, List.nil_append]
    refine AW.sval rfl rfl hk ?_
    repeat refine AW.s rfl ?_
    try dsimp only [List.set_cons_zero, List.set_cons_succ, Option.toList_some, Option.toList_none, List.cons_append, List.nil_append]
    refine AW.S k_13_495 ((c_lcharAt (by omega) hk hj)) rfl rfl rfl rfl (fun r1 m1 hq => ?_)
    obtain ⟨rfl, hm1⟩ := hq
    rw [hm1, eb]
    exact AW.ri rfl rfl (nar_c b (by omega)) ⟨rfl, rfl⟩
/-- the signs -/
def sgnB (b : Nat) : Bool := b == 40 || b == 41 || b == 59 || b == 43 || b == 45 || b == 42 || b == 60 || b == 61
theorem c_canEncode {l : Launch} {X : XT} {d b : Nat} {m : Mem} (hb : b < 256) : Meth l X d M_J_canEncode [vI (nI b)] m (fun r m' => r = some (vI 1) ∧ m' = m) := by
  refine E_J_canEncode (ls := [vI (nI b)]) rfl rfl ?_
  repeat refine AW.s rfl ?_
  try dsimp only [List.set_cons_zero, List.set_cons_succ, Option.toList_some, Option.toList_none, List.cons_append, List.nil_append]
  refine AW.b rfl (fun hc => ?_) (fun hc => ?_)
  · exact absurd hc (nI_pos (by omega))
  · repeat refine AW.s rfl ?_
    try dsimp only [List.set_cons_zero, List.set_cons_succ, Option.toList_some, Option.toList_none, List.cons_append, List.nil_append]
    refine AW.b rfl (fun hc => ?_) (fun hc => ?_)
    · exact absurd ((nI_ltI (a := 255) (by decide) (by omega)).mp hc) (by omega)
    · repeat refine AW.s rfl ?_
      try dsimp only [List.set_cons_zero, List.set_cons_succ, Option.toList_some, Option.toList_none, List.cons_append, List.nil_append]
      exact AW.ri rfl rfl rfl ⟨rfl, rfl⟩
theorem sg_eq : ∀ b, b < 256 → ∀ j, j < 8 → ((SBY.getD 13 []).getD j 0 = (nI b).toInt8.toInt32 ↔ (SBY.getD 13 []).getD j 0 = nI b) := by decide +kernel
theorem sg_any : ∀ b, b < 256 → (sgnB b = true ↔ ∃ j, j < 8 ∧ (SBY.getD 13 []).getD j 0 = nI b) := by
  have h : ∀ b, b < 256 → (sgnB b = (List.range 8).any (fun j => decide ((SBY.getD 13 []).getD j 0 = nI b))) := by decide +kernel
  intro b hb
  rw [h b hb, List.any_eq_true]
  constructor
  · rintro ⟨j, h1, h2⟩; exact ⟨j, List.mem_range.mp h1, of_decide_eq_true h2⟩
  · rintro ⟨j, h1, h2⟩; exact ⟨j, List.mem_range.mpr h1, decide_eq_true h2⟩
/-- what is asked of indexOf in the signs: whether it is at least 0 -/
def ixP (b : Nat) (x : Int32) : Prop := if sgnB b then ¬ x < 0 else x = -1
theorem c_indexOfChar {l : Launch} {X : XT} {d b : Nat} {m : Mem} (hb : b < 256) : Meth l X d M_J_indexOfChar [vR 50 213, vI (nI b), vI 0, vI 8] m (fun r m' => ∃ x, r = some (vI x) ∧ ixP b x ∧ m' = m) := by
  refine E_J_indexOfChar (ls := [vR 50 213, vI (nI b), vI 0, vI 8, vU, vU]) rfl rfl ?_
  repeat refine AW.u 7 rfl rfl ?_
  try dsimp only [List.set_cons_zero, List.set_cons_succ, Option.toList_some, Option.toList_none, List.cons_append, List.nil_append]
  refine AW.loop (pc := 7) (σ := Unit) 8 (fun i _ => [vR 50 213, vI (nI b), vI 0, vI 8, vI (nI b).toInt8.toInt32, vI (nI i)]) (fun i _ m1 => m1 = m ∧ ∀ j, j < i → ¬ (SBY.getD 13 []).getD j 0 = nI b) (fun i _ m1 hi hm1 ih => ?_) 0 () m (Nat.zero_le _) ⟨rfl, fun j hj => absurd hj (by omega)⟩
  obtain ⟨rfl, hall⟩ := hm1
  repeat refine AW.s rfl ?_
  try dsimp only [List.set_cons_zero, List.set_cons_succ, Option.toList_some, Option.toList_none, List.cons_append, List.nil_append]
  refine AW.b rfl (fun hc => ?_) (fun hc => ?_)
  · have hlt : i < 8 := (nI_ltI (b := 8) (by omega) (by decide)).mp hc
    repeat refine AW.s rfl ?_
    try dsimp only [List.set_cons_zero, List.set_cons_succ, Option.toList_some, Option.toList_none, List.cons_append, List.nil_append]
    refine AW.sbal (k := 13) rfl (by decide) (vp_in_nI hlt (by decide)) ?_
    rw [nI_clamp (by omega)]
    repeat refine AW.s rfl ?_
    try dsimp only [List.set_cons_zero, List.set_cons_succ, Option.toList_some, Option.toList_none, List.cons_append, List.nil_append]
    refine AW.b rfl (fun hc => ?_) (fun hc => ?_)
    · have e := (sg_eq b hb i hlt).mp hc
      repeat refine AW.s rfl ?_
      try dsimp only [List.set_cons_zero, List.set_cons_succ, Option.toList_some, Option.toList_none, List.cons_append, List.nil_append]
      refine AW.ri rfl rfl rfl ⟨_, rfl, ?_, rfl⟩
      unfold ixP
      rw [if_pos ((sg_any b hb).mpr ⟨i, hlt, e⟩)]
      exact nI_pos (by omega)
    · have e : ¬ (SBY.getD 13 []).getD i 0 = nI b := fun q => hc ((sg_eq b hb i hlt).mpr q)
      repeat refine AW.u 7 rfl rfl ?_
      try dsimp only [List.set_cons_zero, List.set_cons_succ, Option.toList_some, Option.toList_none, List.cons_append, List.nil_append]
      rw [nI_1]
      refine ih () _ hlt ⟨rfl, fun j hj => ?_⟩
      by_cases e2 : j = i
      · subst e2; exact e
      · exact hall j (by omega)
  · have : i = 8 := by
      have : ¬ i < 8 := fun q => hc (nI_lt (b := 8) q (by decide))
      omega
    subst this
    repeat refine AW.s rfl ?_
    try dsimp only [List.set_cons_zero, List.set_cons_succ, Option.toList_some, Option.toList_none, List.cons_append, List.nil_append]
    refine AW.ri rfl rfl rfl ⟨_, rfl, ?_, rfl⟩
    unfold ixP
    rw [if_neg (fun q => by obtain ⟨j, h1, h2⟩ := (sg_any b hb).mp q; exact hall j h1 h2)]
theorem c_lindexOf {l : Launch} {X : XT} {d b : Nat} {m : Mem} (hd : 1 ≤ d) (hb : b < 256) : Meth l X d M_J_lindexOf [vR 50 213, vI (nI b), vI 0, vI 8] m (fun r m' => ∃ x, r = some (vI x) ∧ ixP b x ∧ m' = m) := by
  obtain ⟨d, rfl⟩ : ∃ e, d = e + 1 := ⟨d - 1, by omega⟩
  refine E_J_lindexOf (ls := [vR 50 213, vI (nI b), vI 0, vI 8]) rfl rfl ?_
  repeat refine AW.s rfl ?_
  try dsimp only [List.set_cons_zero, List.set_cons_succ, Option.toList_some, Option.toList_none, List.cons_append, List.nil_append]
  refine AW.S k_14_88 ((c_canEncode hb)) rfl rfl rfl rfl (fun r1 m1 hq => ?_)
  obtain ⟨rfl, hm1⟩ := hq
  rw [hm1]
  try dsimp only [List.set_cons_zero, List.set_cons_succ, Option.toList_some, Option.toList_none, List.cons_append, List.nil_append]
  refine AW.b rfl (fun hc => ?_) (fun hc => ?_)
  · exact absurd hc (by decide)
  · repeat refine AW.s rfl ?_
    try dsimp only [List.set_cons_zero, List.set_cons_succ, Option.toList_some, Option.toList_none, List.cons_append, List.nil_append]
    refine AW.mmax (G := GM l X (d + 1) M_J_lindexOf _) rfl k_14_92 rR1 (Nat.le_of_ble_eq_true rfl) ?_
    rw [show (if (0 : Int32) < 0 then (0 : Int32) else 0) = 0 from rfl]
    repeat refine AW.s rfl ?_
    try dsimp only [List.set_cons_zero, List.set_cons_succ, Option.toList_some, Option.toList_none, List.cons_append, List.nil_append]
    refine AW.slen (k := 13) rfl (by decide) ?_
    refine AW.mmin (G := GM l X (d + 1) M_J_lindexOf _) rfl k_14_38 rR1 (Nat.le_of_ble_eq_true rfl) ?_
    rw [show (if nI (SLN.getD 13 0) < (8 : Int32) then nI (SLN.getD 13 0) else 8) = 8 from by decide]
    repeat refine AW.s rfl ?_
    try dsimp only [List.set_cons_zero, List.set_cons_succ, Option.toList_some, Option.toList_none, List.cons_append, List.nil_append]
    refine AW.b rfl (fun hc => ?_) (fun hc => ?_)
    · repeat refine AW.s rfl ?_
      try dsimp only [List.set_cons_zero, List.set_cons_succ, Option.toList_some, Option.toList_none, List.cons_append, List.nil_append]
      refine AW.S k_14_95 ((c_indexOfChar hb)) rfl rfl rfl rfl (fun r1 m2 hq => ?_)
      obtain ⟨x, rfl, hx, hm2⟩ := hq
      rw [hm2]
      exact AW.ri rfl rfl rfl ⟨_, rfl, hx, rfl⟩
    · exact absurd (by decide) hc
theorem c_indexOf {l : Launch} {X : XT} {d b : Nat} {m : Mem} (hd : 3 ≤ d) (hb : b < 256) : Meth l X d M_J_indexOf1 [vR 50 13, vI (nI b)] m (fun r m' => ∃ x, r = some (vI x) ∧ ixP b x ∧ m' = m) := by
  obtain ⟨d, rfl⟩ : ∃ e, d = e + 1 := ⟨d - 1, by omega⟩
  obtain ⟨d, rfl⟩ : ∃ e, d = e + 1 := ⟨d - 1, by omega⟩
  have h2 : Meth l X (d + 1) M_J_indexOf2 [vR 50 13, vI (nI b), vI 0] m (fun r m' => ∃ x, r = some (vI x) ∧ ixP b x ∧ m' = m) := by
    refine E_J_indexOf2 (ls := [vR 50 13, vI (nI b), vI 0]) rfl rfl ?_
    repeat refine AW.s rfl ?_
    try dsimp only [List.set_cons_zero, List.set_cons_succ, Option.toList_some, Option.toList_none, List.cons_append, List.nil_append]
    refine AW.T k_13_492 (c_isLatin1 (by decide)) rfl rfl rfl (by decide) rfl rfl (fun r1 m1 hq => ?_)
    obtain ⟨rfl, rfl⟩ := hq
    try dsimp only [List.set_cons_zero, List.set_cons_succ, Option.toList_some, Option.toList_none, List.cons_append, List.nil_append]
    refine AW.b rfl (fun hc => ?_) (fun hc => ?_)
    · exact absurd hc (by decide)
    · repeat refine AW.s rfl ?_
      try dsimp only [List.set_cons_zero, List.set_cons_succ, Option.toList_some, Option.toList_none, List.cons_append, List.nil_append]
      refine AW.sval rfl rfl (by decide) ?_
      repeat refine AW.s rfl ?_
      try dsimp only [List.set_cons_zero, List.set_cons_succ, Option.toList_some, Option.toList_none, List.cons_append, List.nil_append]
      refine AW.T k_13_505 (c_slength (by omega) (by decide)) rfl rfl rfl (by decide) rfl rfl (fun r1 m1 hq => ?_)
      obtain ⟨rfl, hm1⟩ := hq
      rw [hm1]
      try dsimp only [List.set_cons_zero, List.set_cons_succ, Option.toList_some, Option.toList_none, List.cons_append, List.nil_append]
      refine AW.S k_13_637 ((c_lindexOf (by omega) hb)) rfl rfl rfl rfl (fun r1 m2 hq => ?_)
      obtain ⟨x, rfl, hx, hm2⟩ := hq
      rw [hm2]
      repeat refine AW.s rfl ?_
      try dsimp only [List.set_cons_zero, List.set_cons_succ, Option.toList_some, Option.toList_none, List.cons_append, List.nil_append]
      exact AW.ri rfl rfl rfl ⟨_, rfl, hx, rfl⟩
  refine E_J_indexOf1 (ls := [vR 50 13, vI (nI b)]) rfl rfl ?_
  repeat refine AW.s rfl ?_
  try dsimp only [List.set_cons_zero, List.set_cons_succ, Option.toList_some, Option.toList_none, List.cons_append, List.nil_append]
  refine AW.T k_13_633 h2 rfl rfl rfl (by decide) rfl rfl (fun r1 m1 hq => ?_)
  obtain ⟨x, rfl, hx, hm1⟩ := hq
  rw [hm1]
  exact AW.ri rfl rfl rfl ⟨_, rfl, hx, rfl⟩
-- ===== under =====
def unG (f : Nat) (at_ k : Int32) : Int32 := match f with
  | 0 => 0
  | f + 1 => if wB at_ 5 = 1 then (if at_ = k then 1 else unG f (UND.getD at_.toNatClampNeg 0) k) else 0
/-- kind K is k, or under it -/
def unB (K k : Nat) : Bool := k == 0 || (k == K || ((k == 1 && K == 3) || (k == 2 && K == 4)))
theorem unG_B : ∀ K, K < 6 → ∀ k, k < 6 → unG 6 (nI K) (nI k) = if unB K k then 1 else 0 := by decide +kernel
theorem c_isUnder {l : Launch} {X : XT} {d K k : Nat} {m : Mem} (hd : 1 ≤ d) (hK : K < 6) (hk : k < 6) : Meth l X d M_X10_isUnder [vI (nI K), vI (nI k)] m (fun r m' => r = some (vI (if unB K k then 1 else 0)) ∧ m' = m) := by
  obtain ⟨d, rfl⟩ : ∃ e, d = e + 1 := ⟨d - 1, by omega⟩
  rw [← unG_B K hK k hk]
  refine E_X10_isUnder (ls := [vI (nI K), vI (nI k), vU, vU]) rfl rfl ?_
  repeat refine AW.u 4 rfl rfl ?_
  try dsimp only [List.set_cons_zero, List.set_cons_succ, Option.toList_some, Option.toList_none, List.cons_append, List.nil_append]
  refine AW.loop (pc := 4) (σ := Int32) 6 (fun i a => [vI (nI K), vI (nI k), vI a, vI (nI i)]) (fun i a m1 => m1 = m ∧ unG 6 (nI K) (nI k) = unG (6 - i) a (nI k)) (fun i a m1 hi hm1 ih => ?_) 0 (nI K) m (Nat.zero_le _) ⟨rfl, rfl⟩
  obtain ⟨rfl, hu⟩ := hm1
  repeat refine AW.s rfl ?_
  try dsimp only [List.set_cons_zero, List.set_cons_succ, Option.toList_some, Option.toList_none, List.cons_append, List.nil_append]
  refine AW.b rfl (fun hc => ?_) (fun hc => ?_)
  · have hlt : i < 6 := (nI_ltI (b := 6) (by omega) (by decide)).mp hc
    obtain ⟨f, hff⟩ : ∃ f, 6 - i = f + 1 := ⟨6 - i - 1, by omega⟩
    rw [hff] at hu
    have hu : unG 6 (nI K) (nI k) = if wB a 5 = 1 then (if a = nI k then 1 else unG f (UND.getD a.toNatClampNeg 0) (nI k)) else 0 := hu
    repeat refine AW.s rfl ?_
    try dsimp only [List.set_cons_zero, List.set_cons_succ, Option.toList_some, Option.toList_none, List.cons_append, List.nil_append]
    refine AW.S k_10_113 (c_isWithin) rfl rfl rfl rfl (fun r1 m2 hq => ?_)
    obtain ⟨rfl, hm2⟩ := hq
    rw [hm2]
    try dsimp only [List.set_cons_zero, List.set_cons_succ, Option.toList_some, Option.toList_none, List.cons_append, List.nil_append]
    by_cases q1 : wB a 5 = 1
    · rw [q1]
      rw [if_pos q1] at hu
      obtain ⟨j, hj, rfl⟩ := (wB_1 (n := 5) (by decide)).mp q1
      refine AW.b rfl (fun hc => ?_) (fun hc => ?_)
      · exact absurd hc (by decide)
      · repeat refine AW.s rfl ?_
        try dsimp only [List.set_cons_zero, List.set_cons_succ, Option.toList_some, Option.toList_none, List.cons_append, List.nil_append]
        refine AW.b rfl (fun hc => ?_) (fun hc => ?_)
        · rw [if_pos hc] at hu
          rw [hu]
          repeat refine AW.s rfl ?_
          try dsimp only [List.set_cons_zero, List.set_cons_succ, Option.toList_some, Option.toList_none, List.cons_append, List.nil_append]
          exact AW.ri rfl rfl rfl ⟨rfl, rfl⟩
        · rw [if_neg hc] at hu
          refine AW.gund rfl rfl ?_
          repeat refine AW.s rfl ?_
          try dsimp only [List.set_cons_zero, List.set_cons_succ, Option.toList_some, Option.toList_none, List.cons_append, List.nil_append]
          refine AW.uld rfl (vp_in_nI (by omega) (by decide)) ?_
          repeat refine AW.u 4 rfl rfl ?_
          try dsimp only [List.set_cons_zero, List.set_cons_succ, Option.toList_some, Option.toList_none, List.cons_append, List.nil_append]
          rw [nI_1]
          exact ih _ _ hlt ⟨rfl, by rw [hu, show 6 - (i + 1) = f by omega]⟩
    · rw [wB_0 q1]
      rw [if_neg q1] at hu
      rw [hu]
      refine AW.b rfl (fun hc => ?_) (fun hc => ?_)
      · repeat refine AW.s rfl ?_
        try dsimp only [List.set_cons_zero, List.set_cons_succ, Option.toList_some, Option.toList_none, List.cons_append, List.nil_append]
        exact AW.ri rfl rfl rfl ⟨rfl, rfl⟩
      · exact absurd rfl hc
  · have : i = 6 := by
      have : ¬ i < 6 := fun q => hc (nI_lt (b := 6) q (by decide))
      omega
    subst this
    have hu : unG 6 (nI K) (nI k) = 0 := hu
    rw [hu]
    repeat refine AW.s rfl ?_
    try dsimp only [List.set_cons_zero, List.set_cons_succ, Option.toList_some, Option.toList_none, List.cons_append, List.nil_append]
    exact AW.ri rfl rfl rfl ⟨rfl, rfl⟩
def takenF (Ω : OM) (a k : Int32) : Int32 := if wB k 5 = 1 then (if hB a ((oG Ω) 0 2) = 1 then (if unB ((oG Ω) 3 a.toNatClampNeg) k.toNatClampNeg = true then nI ((oG Ω) 5 a.toNatClampNeg) else -13) else -11) else -2
theorem C_taken {l : Launch} {X : XT} {d : Nat} {a k : Int32} {m : Mem} {Ω : OM} (hd : 5 ≤ d) (hW : WO Ω) (hI : InvC m Ω) : Meth l X d M_X10_taken [vR 11 0, vI a, vI k] m (fun r m' => r = some (vI (takenF Ω a k)) ∧ m' = m) := by
  obtain ⟨d, rfl⟩ : ∃ e, d = e + 1 := ⟨d - 1, by omega⟩
  have h2 := hW.1.2.2.1
  refine E_X10_taken (ls := [vR 11 0, vI a, vI k]) rfl rfl ?_
  repeat refine AW.s rfl ?_
  try dsimp only [List.set_cons_zero, List.set_cons_succ, Option.toList_some, Option.toList_none, List.cons_append, List.nil_append]
  refine AW.S k_10_113 (c_isWithin) rfl rfl rfl rfl (fun r1 m9 hq => ?_)
  obtain ⟨rfl, hm9⟩ := hq
  rw [hm9]
  try dsimp only [List.set_cons_zero, List.set_cons_succ, Option.toList_some, Option.toList_none, List.cons_append, List.nil_append]
  by_cases q1 : wB k 5 = 1
  · have e0 : takenF Ω a k = if hB a ((oG Ω) 0 2) = 1 then (if unB ((oG Ω) 3 a.toNatClampNeg) k.toNatClampNeg = true then nI ((oG Ω) 5 a.toNatClampNeg) else -13) else -11 := if_pos q1
    rw [q1, e0]
    refine AW.b rfl (fun hc => ?_) (fun hc => ?_)
    · exact absurd hc (by decide)
    · repeat refine AW.s rfl ?_
      try dsimp only [List.set_cons_zero, List.set_cons_succ, Option.toList_some, Option.toList_none, List.cons_append, List.nil_append]
      refine AW.V k_10_142 ((c_hasRule hI.1)) rfl rfl rfl rfl rfl rfl (fun r1 m8 hq => ?_)
      obtain ⟨rfl, hm8⟩ := hq
      rw [hm8]
      try dsimp only [List.set_cons_zero, List.set_cons_succ, Option.toList_some, Option.toList_none, List.cons_append, List.nil_append]
      by_cases q2 : hB a ((oG Ω) 0 2) = 1
      · rw [q2, if_pos rfl]
        obtain ⟨r, hr, rfl⟩ := (hB_1 (by omega)).mp q2
        obtain ⟨j, hj, rfl⟩ := (wB_1 (n := 5) (by decide)).mp q1
        rw [nI_clamp (by omega), nI_clamp (by omega)]
        obtain ⟨z1, z2, z3⟩ := hW.1.2.2.2.2.2.2.1 r hr
        obtain ⟨y1, y2, y3⟩ := hI.1.2.2.2.2.2.1 r hr
        refine AW.b rfl (fun hc => ?_) (fun hc => ?_)
        · exact absurd hc (by decide)
        · repeat refine AW.s rfl ?_
          try dsimp only [List.set_cons_zero, List.set_cons_succ, Option.toList_some, Option.toList_none, List.cons_append, List.nil_append]
          refine AW.c rfl (vp_in_nI (by omega) (by decide)) ?_
          try dsimp only [List.set_cons_zero, List.set_cons_succ, Option.toList_some, Option.toList_none, List.cons_append, List.nil_append]
          rw [nI_clamp (by omega), show m (0 + 1 + 12) r = nI ((oG Ω) 3 r) from y1]
          repeat refine AW.s rfl ?_
          try dsimp only [List.set_cons_zero, List.set_cons_succ, Option.toList_some, Option.toList_none, List.cons_append, List.nil_append]
          refine AW.S k_10_316 ((c_isUnder (by omega) z1 (by omega))) rfl rfl rfl rfl (fun r1 m7 hq => ?_)
          obtain ⟨rfl, hm7⟩ := hq
          rw [hm7]
          try dsimp only [List.set_cons_zero, List.set_cons_succ, Option.toList_some, Option.toList_none, List.cons_append, List.nil_append]
          by_cases q3 : unB ((oG Ω) 3 r) j = true
          · rw [if_pos q3, if_pos q3]
            refine AW.b rfl (fun hc => ?_) (fun hc => ?_)
            · exact absurd hc (by decide)
            · repeat refine AW.s rfl ?_
              try dsimp only [List.set_cons_zero, List.set_cons_succ, Option.toList_some, Option.toList_none, List.cons_append, List.nil_append]
              refine AW.c rfl (vp_in_nI (by omega) (by decide)) ?_
              try dsimp only [List.set_cons_zero, List.set_cons_succ, Option.toList_some, Option.toList_none, List.cons_append, List.nil_append]
              rw [nI_clamp (by omega), show m (0 + 1 + 14) r = nI ((oG Ω) 5 r) from y3]
              repeat refine AW.s rfl ?_
              try dsimp only [List.set_cons_zero, List.set_cons_succ, Option.toList_some, Option.toList_none, List.cons_append, List.nil_append]
              exact AW.ri rfl rfl rfl ⟨rfl, rfl⟩
          · rw [if_neg q3, if_neg q3]
            refine AW.b rfl (fun hc => ?_) (fun hc => ?_)
            · repeat refine AW.s rfl ?_
              try dsimp only [List.set_cons_zero, List.set_cons_succ, Option.toList_some, Option.toList_none, List.cons_append, List.nil_append]
              exact AW.ri rfl rfl rfl ⟨rfl, rfl⟩
            · exact absurd rfl hc
      · rw [hB_0 q2, if_neg (by decide)]
        refine AW.b rfl (fun hc => ?_) (fun hc => ?_)
        · repeat refine AW.s rfl ?_
          try dsimp only [List.set_cons_zero, List.set_cons_succ, Option.toList_some, Option.toList_none, List.cons_append, List.nil_append]
          exact AW.ri rfl rfl rfl ⟨rfl, rfl⟩
        · exact absurd rfl hc
  · have e0 : takenF Ω a k = -2 := if_neg q1
    rw [wB_0 q1, e0]
    refine AW.b rfl (fun hc => ?_) (fun hc => ?_)
    · repeat refine AW.s rfl ?_
      try dsimp only [List.set_cons_zero, List.set_cons_succ, Option.toList_some, Option.toList_none, List.cons_append, List.nil_append]
      exact AW.ri rfl rfl rfl ⟨rfl, rfl⟩
    · exact absurd rfl hc

-- ===== what holds at the start =====
def FLT : List Cond := flatC (Jvm.Cond.and given_1 narrow_1)
def tmS (i : Nat) : Term := .string (Rn (SRF.getD i (10, 82, "", 0)).1) (SRF.getD i (10, 82, "", 0)).2.1
abbrev tmV (i : Nat) : Term := .field (tmS i) "java/lang/String" "value" "[B"
theorem gv_1 : ∀ i : Nat, i < 14 → SLN.getD i 0 < 2 ^ 31 := by decide +kernel
def FPS : List Nat := [66, 123, 132, 144, 156, 170, 183, 199, 214, 231, 249, 265, 283, 302]
theorem gv_2 : ∀ i : Nat, i < 14 → FLT[FPS.getD i 0]? = some (Cond.exactly (tmS i) "java/lang/String") := by decide +kernel
theorem gv_3 : ∀ i : Nat, i < 14 → FLT[FPS.getD i 0 + 1]? = some (Cond.eq (.field (tmS i) "java/lang/String" "coder" "B") (.int 0)) := by decide +kernel
theorem gv_4 : ∀ i : Nat, i < 14 → FLT[FPS.getD i 0 + 2]? = some (Cond.arrayOf (tmV i) .byte) := by decide +kernel
theorem gv_5 : ∀ i : Nat, i < 14 → FLT[FPS.getD i 0 + 3]? = some (Cond.eq (.length (tmV i)) (.int (Int32.ofNat (SLN.getD i 0)))) := by decide +kernel
theorem gv_6 : ∀ i : Nat, i < 14 → ∀ j : Nat, j < SLN.getD i 0 → FLT[FPS.getD i 0 + 4 + j]? = some (Cond.eq (.elem (tmV i) (.int (Int32.ofNat j))) (.int ((SBY.getD i []).getD j 0))) := by decide +kernel
theorem gv_7 : ∀ j : Nat, j < 14 → ∀ i : Nat, i < j → FLT[FPS.getD j 0 + 4 + SLN.getD j 0 + i]? = some (Cond.not (Cond.eq (tmS i) (tmS j))) := by decide +kernel
abbrev tmU : Term := .static RX10 "UNDER" "[I"
theorem gv_u1 : Cond.arrayOf tmU .int ∈ FLT := by decide +kernel
theorem gv_u2 : Cond.eq (.length tmU) (.int 6) ∈ FLT := by decide +kernel
theorem gv_u3 : ∀ j : Nat, j < 6 → Cond.eq (.elem tmU (.int (Int32.ofNat j))) (.int (UND.getD j 0)) ∈ FLT := by decide +kernel
theorem gv_c : Cond.eq (.static "java/lang/String" "COMPACT_STRINGS" "Z") (.int 1) ∈ FLT := by decide +kernel
theorem gv_s : Cond.isRef (.static "jdk/internal/util/Preconditions" "SIOOBE_FORMATTER" "Ljava/util/function/BiFunction;") ∈ FLT := by decide +kernel
theorem nw_in : ∀ q ∈ NWS, Cond.methodLinkNest q.1 q.2.1 q.2.2.1 q.2.2.2 ∈ lw_tbl := by decide +kernel
theorem sr_in : ∀ q ∈ SRF, Cond.stringRef (Rn q.1) q.2.1 q.2.2.1 ∈ lw_tbl ∧ (q.2.2.2 < 14 ∧ (SRF.getD q.2.2.2 (10, 82, "", 0)).1 = q.1 ∧ (SRF.getD q.2.2.2 (10, 82, "", 0)).2.1 = q.2.1) := by decide +kernel
theorem in_tbl {w : Cond} (i : Nat) (h : lw_tbl[i]? = some w) : w ∈ lw_tbl := List.mem_of_getElem? h
def xaF (adK adV : Nat → Nat) (tU b : Nat) : Nat → Nat := fun k => if k < 14 then adK k else if k = 100 then tU else if k = 101 then b else adV (k - 200)
section
variable {s : State} {b L : Nat} {xs : Nat → Int32}
theorem st_K (hts : ∀ w ∈ lw_tbl, w.before #[Value.ref b] s = true) : ∃ (D : va_G) (xcf : Nat → ClassId), ∀ bb n a, KBt (bb, n, D, xcf, a, L, xs) s := by
  have hG : ∀ w ∈ GT, w.before #[Value.ref b] s = true := fun w hw => hts w (List.mem_filter.mp hw).1
  have hKn : ∀ k : Nat, ∃ q : ClassId × (Nat → Nat), ∀ c : vw_C, vwCl[k]? = some c → u_Kn s c.1 c.2.1 c.2.2 q.1 q.2 := by
    intro k
    by_cases hk : k < 12
    · obtain ⟨T, N, ty0, hc, hN, -, -⟩ := vw_new hk
      have hin : ∃ i : Nat, lw_tbl[i]? = some (Cond.instantiable (Rn k) N) := by
        have h1 : ∀ k : Nat, k < 12 → ∃ i : Nat, lw_tbl[i]? = some (Cond.instantiable (Rn k) (dfl k).length) := by
          intro k hk
          match k, hk with
          | 0, _ => exact ⟨288, by decide +kernel⟩
          | 1, _ => exact ⟨299, by decide +kernel⟩
          | 2, _ => exact ⟨229, by decide +kernel⟩
          | 3, _ => exact ⟨120, by decide +kernel⟩
          | 4, _ => exact ⟨257, by decide +kernel⟩
          | 5, _ => exact ⟨250, by decide +kernel⟩
          | 6, _ => exact ⟨356, by decide +kernel⟩
          | 7, _ => exact ⟨111, by decide +kernel⟩
          | 8, _ => exact ⟨198, by decide +kernel⟩
          | 9, _ => exact ⟨332, by decide +kernel⟩
          | 10, _ => exact ⟨103, by decide +kernel⟩
          | 11, _ => exact ⟨1132, by decide +kernel⟩
          | k + 12, h => exact absurd h (by omega)
        rw [hN]
        exact h1 k hk
      obtain ⟨i, hi⟩ := hin
      obtain ⟨cC, iS, h⟩ := u_known (C := Rn k) (T := T) (N := N) (n := N) hG (cls_in hc) (hts _ (in_tbl i hi))
      refine ⟨(cC, iS), fun c hcc => ?_⟩
      rw [hc] at hcc
      cases hcc
      exact h
    · refine ⟨(0, fun _ => 0), fun c hcc => ?_⟩
      have := (List.getElem?_eq_some_iff.mp hcc).1
      have h12 : vwCl.length = 12 := rfl
      omega
  obtain ⟨ad, had⟩ := Classical.axiomOfChoice hKn
  have prim : ∀ ty : FieldType, Cond.arrayClass ty ∈ lw_tbl → ∃ c, ArrOfT s c ty ∧ s.vm.findClass ("[" ++ ty.toString) = some c := by
    intro ty h
    obtain ⟨c, k, comp, h1, h2, h3⟩ := Cond.arrayClass_spec (hts _ h)
    exact ⟨c, fun n z => ⟨fun k h => (by cases h), k, h2, comp, h3⟩, h1⟩
  have refs : ∀ C : String, Cond.arrayOver (.object C) ∈ lw_tbl → ∃ c, ArrOfT s c (.object C) ∧ va_RA s c (.object C) := by
    intro C h
    obtain ⟨comp, c, k, h1, -, h3, h4, h5⟩ := Cond.arrayOver_spec (hts _ h)
    exact ⟨c, fun n z => ⟨fun k h => (by cases h), k, h3, comp, h4⟩, k, comp, h3, h4, h1, h5⟩
  obtain ⟨cI, aI, rI⟩ := prim .int (in_tbl 139 (by decide +kernel))
  obtain ⟨cZ, aZ, rZ⟩ := prim .boolean (in_tbl 1370 (by decide +kernel))
  obtain ⟨cH, aH, rH⟩ := prim .char (in_tbl 1369 (by decide +kernel))
  obtain ⟨c20, a20, r20⟩ := refs RX9 (in_tbl 196 (by decide +kernel))
  obtain ⟨c21, a21, r21⟩ := refs RX6 (in_tbl 248 (by decide +kernel))
  obtain ⟨c22, a22, r22⟩ := refs RX4 (in_tbl 256 (by decide +kernel))
  obtain ⟨c23, a23, r23⟩ := refs RX5 (in_tbl 305 (by decide +kernel))
  obtain ⟨comp, c24, k24, g1, -, g3, g4, g5⟩ := arrayOverA_spec (hts (.arrayOver (.array .int)) (in_tbl 118 (by decide +kernel)))
  have ec : comp = cI := Option.some.inj (g1.symm.trans rI)
  subst ec
  refine ⟨(fun k => (ad k).1, fun k => (ad k).2), fun t => if t = 0 then comp else if t = 1 then cZ else if t = 2 then cH else if t = 20 then c20 else if t = 21 then c21 else if t = 22 then c22 else if t = 23 then c23 else c24, fun bb n a => ⟨⟨fun c q hq => had c q hq, fun k q hk => ?_⟩, fun q hq => va_Nw.of rfl (hts _ (nw_in q hq)), fun C hC => ?_, k24, g3, g4⟩⟩
  · match k, hk with
    | 0, hk => cases hk; exact ⟨aI, rI⟩
    | 1, hk => cases hk; exact ⟨aZ, rZ⟩
    | 2, hk => cases hk; exact ⟨aH, rH⟩
    | 3, hk => cases hk; exact ⟨a20, r20⟩
    | 4, hk => cases hk; exact ⟨a21, r21⟩
    | 5, hk => cases hk; exact ⟨a22, r22⟩
    | 6, hk => cases hk; exact ⟨a23, r23⟩
    | 7, hk => cases hk; exact ⟨fun n z => ⟨fun k h => (by cases h), k24, g3, comp, g4⟩, g5⟩
    | k + 8, hk => simp [tysOf] at hk
  · have hm : ∀ C : Nat, C ∈ AOC → Cond.arrayOver (.object (Rn C)) ∈ lw_tbl := by
      intro C hC
      simp only [AOC, List.mem_cons, List.not_mem_nil, or_false] at hC
      rcases hC with rfl | rfl | rfl | rfl
      · exact in_tbl 196 (by decide +kernel)
      · exact in_tbl 248 (by decide +kernel)
      · exact in_tbl 256 (by decide +kernel)
      · exact in_tbl 305 (by decide +kernel)
    exact va_AO.of (hts _ (hm C hC))
theorem st_KS (hts : ∀ w ∈ lw_tbl, w.before #[Value.ref b] s = true) (hgv : (Jvm.Cond.and given_1 narrow_1).before #[Value.ref b] s = true) (hX : va_X b L xs s s.heap) (hbl : b < s.heap.size) : ∃ a : Nat → Nat, a 101 = b ∧ ∀ n D xcf, KS (s.heap.size, n, D, xcf, a, L, xs) s s.heap := by
  have hs : ∀ w ∈ FLT, w.before #[Value.ref b] s = true := flat_of_before _ hgv
  have hA : ∀ a : Nat, a < s.heap.size → ¬ (fun q : Nat => s.heap.size ≤ q) a := fun a h => Nat.not_le.mpr h
  obtain ⟨adK, adV, hS, hK⟩ := vk_Sof (args := #[Value.ref b]) (s := s) (N := 14) (tm := tmS) (len := SLN) (byt := SBY) (A := fun q : Nat => s.heap.size ≤ q) gv_1 (fun i hi => hs _ (List.mem_of_getElem? (gv_2 i hi))) (fun i hi => hs _ (List.mem_of_getElem? (gv_3 i hi))) (fun i hi => hs _ (List.mem_of_getElem? (gv_4 i hi))) (fun i hi => hs _ (List.mem_of_getElem? (gv_5 i hi))) (fun i hi j hj => hs _ (List.mem_of_getElem? (gv_6 i hi j hj))) (fun i j hi hj hne => (Nat.lt_or_gt_of_ne hne).imp (fun z => hs _ (List.mem_of_getElem? (gv_7 j hj i z))) (fun z => hs _ (List.mem_of_getElem? (gv_7 i hi j z)))) hA
  obtain ⟨tU, hU1, hU2⟩ := va_Tof (args := #[Value.ref b]) (s := s) (tm := tmU) (ty := .int) (N := 6) (f := fun j => .int (UND.getD j 0)) (A := fun q : Nat => s.heap.size ≤ q) (by decide) (hs _ gv_u1) (va_eqt (hs _ gv_u2)) (fun j hj => va_eqt (hs _ (gv_u3 j hj))) hA
  have hZ := va_Zof (hts (.laysStatic RX10 "UNDER" "[I") (in_tbl 1110 (by decide +kernel))) (hts (.initialized RX10) (in_tbl 83 (by decide +kernel))) hU1 hA
  have hC := va_Zof (A := fun q : Nat => s.heap.size ≤ q) (hts (.laysStatic "java/lang/String" "COMPACT_STRINGS" "Z") (in_tbl 386 (by decide +kernel))) (hts (.initialized "java/lang/String") (in_tbl 94 (by decide +kernel))) (va_eqi (hs _ gv_c)) hA
  have hF := va_Zqof (A := fun q : Nat => s.heap.size ≤ q) (hts (.laysStatic "jdk/internal/util/Preconditions" "SIOOBE_FORMATTER" "Ljava/util/function/BiFunction;") (in_tbl 402 (by decide +kernel))) (hts (.initialized "jdk/internal/util/Preconditions") (in_tbl 96 (by decide +kernel))) (hs _ gv_s) hA
  have e1 : ∀ i : Nat, i < 14 → xaF adK adV tU b i = adK i := fun i hi => if_pos hi
  have e2 : ∀ i : Nat, xaF adK adV tU b (200 + i) = adV i := fun i => by
    unfold xaF
    rw [if_neg (by omega), if_neg (by omega), if_neg (by omega), Nat.add_sub_cancel_left]
  refine ⟨xaF adK adV tU b, rfl, fun n D xcf => ⟨fun q hq => va_Nw.of rfl (hts _ (nw_in q hq)), fun q hq => ?_, ⟨fun i hi => ?_, fun i j hi hj e => ?_⟩, hC, hF, hZ, hU2, hX, hbl⟩⟩
  · obtain ⟨h1, h2, h3, h4⟩ := sr_in q hq
    refine vk_R.of (hts _ h1) ?_
    have := hK q.2.2.2 h2
    unfold tmS at this
    rw [h3, h4] at this
    rw [this]
    show some (Value.ref (adK q.2.2.2)) = some (Value.ref (xaF adK adV tU b q.2.2.2))
    rw [e1 _ h2]
  · have := hS.1 i hi
    show va_O "java/lang/String" (xaF adK adV tU b i) _ s s.heap ∧ va_OF "java/lang/String" "coder" "B" (.int 0) (xaF adK adV tU b i) _ s s.heap ∧ va_OF "java/lang/String" "value" "[B" (.ref (xaF adK adV tU b (200 + i))) (xaF adK adV tU b i) _ s s.heap ∧ va_T .byte (xaF adK adV tU b (200 + i)) _ _ _ s s.heap
    rw [e1 i hi, e2 i]
    exact this
  · have e : xaF adK adV tU b i = xaF adK adV tU b j := e
    rw [e1 i hi, e1 j hj] at e
    exact hS.2 i j hi hj e
end

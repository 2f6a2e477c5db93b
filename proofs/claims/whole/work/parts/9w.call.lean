-- ===== a constructor calls a constructor =====
/-- the same world from its cell i on -/
def shX (X : XT) (i : Nat) : XT := (X.1 + i, X.2)
theorem shE (X : XT) (i : Nat) (c : CE) : rcE (shX X i) c = rcE X (shC i c) := by
  rcases c with ⟨ci, fs⟩ | ⟨k, n, u | lr⟩
  · show (.inr (ci, fs.map (rvV (shX X i))) : va_E) = .inr (ci, (fs.map _).map (rvV X))
    rw [List.map_map]
    refine congrArg (fun q => (.inr (ci, q) : va_E)) (List.map_congr_left fun v _ => ?_)
    rcases v with _ | x | j
    · rfl
    · rfl
    · show Value.ref (X.1 + i + j) = Value.ref (X.1 + (i + j))
      rw [Nat.add_assoc]
  · rfl
  · have e : refF (shX X i) lr = refF X (lr.map (fun v => v.map (fun j => i + j))) := by
      funext q
      unfold refF
      rw [List.getD_eq_getElem?_getD, List.getD_eq_getElem?_getD, List.getElem?_map]
      cases lr[q]? with
      | none => rfl
      | some v =>
        cases v with
        | none => rfl
        | some j =>
          show some (X.1 + i + j) = some (X.1 + (i + j))
          rw [Nat.add_assoc]
    show (.inl (xc X k, n, .inr (.inr (.inr (.inr (refF (shX X i) lr))))) : va_E) = _
    rw [e]
    rfl
def rmB (ci : Nat) : Room := { frames := 5 * (LVL ci + 1), cells := CTC ci, slots := CTZ ci, locals := 60 * (LVL ci + 1) }
def PreB (X : XT) (ci : Nat) : Array Value → State → Prop := va_Pc [.ref (xb X)] (fun U => va_P (xD X) vwCl (wsL X [.inl (ci, dfl ci)]) U.heap ∧ U.heap.size = xb X + 1 ∧ KBt X U)
def PostB (X : XT) (ci : Nat) : Array Value → State → Outcome → State → Prop := va_Qv (S := Unit) (fun _ => True) (fun _ t => va_P (xD X) vwCl (wsL X (CTL ci)) t.heap ∧ t.heap.size = xb X + (CTL ci).length) (xA X)
/-- the constructor makes its cells -/
def CtorOK (l : Launch) (ci : Nat) : Prop := ∀ X : XT, Met l (MIc ci).1 (wsM (MIc ci)) (rmB ci) (PreB X ci) (PostB X ci) (CTC ci) (CTZ ci) (xA X)
theorem KB_call {X : XT} {U : State} (h : KBt X U) (g : JFrame) (mk : MethodId) (a : Array Value) : KBt X (U.calling g mk a) := KBt.go (s := U) (U := U.calling g mk a) h (State.WarmedH.refl U)
def ctbB (q : Nat × Nat × Nat × Nat × Nat × Nat × Nat × Nat) : Bool := match q with
  | (own, idx, ci, ne, p1, p2, p3, p4) => (if ne == 0 then decide (lw_tbl[p1]? = some (.methodLink (Rn own) idx (MIc ci).1)) else decide ((Rn own, idx, (MIc ci).1, "AfterEachVowel") ∈ NWS)) && (decide (lw_tbl[p2]? = some (.instanceMethod (MIc ci).1)) && (decide (lw_tbl[p3]? = some (.initialized (MIc ci).1.cls)) && (decide (lw_tbl[p4]? = some (.code (MIc ci).1 (MIc ci).2.1 (MIc ci).2.2.1 none)) && (decide ((MIc ci).1.name = "<init>" ∧ (MIc ci).2.2.2.1 = none ∧ (MIc ci).2.2.1 ≤ 41 ∧ ci < 12) && decide ((MIc ci).1.cls ≠ "java/lang/invoke/MethodHandle" ∧ (MIc ci).1.cls ≠ "java/lang/invoke/VarHandle" ∧ (parseMethodDescriptor (MIc ci).1.desc).map (fun d => d.parameters.length) = some 0)))))
theorem ctb_0 : ctbB (10, 9, 7, 1, 112, 113, 84, 114) = true := by decide +kernel
theorem ctb_1 : ctbB (7, 39, 3, 1, 121, 122, 85, 123) = true := by decide +kernel
theorem ctb_2 : ctbB (10, 27, 8, 1, 199, 200, 86, 201) = true := by decide +kernel
theorem ctb_3 : ctbB (10, 34, 2, 1, 230, 231, 87, 232) = true := by decide +kernel
theorem ctb_4 : ctbB (10, 47, 5, 0, 251, 252, 88, 253) = true := by decide +kernel
theorem ctb_5 : ctbB (5, 17, 4, 1, 258, 259, 89, 260) = true := by decide +kernel
theorem ctb_6 : ctbB (10, 54, 4, 1, 284, 259, 89, 260) = true := by decide +kernel
theorem ctb_7 : ctbB (10, 61, 3, 1, 286, 122, 85, 123) = true := by decide +kernel
theorem ctb_8 : ctbB (10, 68, 0, 1, 289, 290, 90, 291) = true := by decide +kernel
theorem ctb_9 : ctbB (10, 75, 1, 0, 300, 301, 91, 302) = true := by decide +kernel
theorem ctb_10 : ctbB (1, 19, 3, 1, 307, 122, 85, 123) = true := by decide +kernel
theorem ctb_11 : ctbB (1, 26, 0, 1, 309, 290, 90, 291) = true := by decide +kernel
theorem ctb_12 : ctbB (1, 31, 5, 0, 310, 252, 88, 253) = true := by decide +kernel
theorem ctb_13 : ctbB (10, 80, 9, 1, 333, 334, 92, 335) = true := by decide +kernel
theorem ctb_14 : ctbB (10, 81, 6, 1, 357, 358, 93, 359) = true := by decide +kernel
theorem CTB_ok : CTB.all ctbB = true := by
  unfold CTB
  rw [List.all_cons, ctb_0, List.all_cons, ctb_1, List.all_cons, ctb_2, List.all_cons, ctb_3, List.all_cons, ctb_4, List.all_cons, ctb_5, List.all_cons, ctb_6, List.all_cons, ctb_7, List.all_cons, ctb_8, List.all_cons, ctb_9, List.all_cons, ctb_10, List.all_cons, ctb_11, List.all_cons, ctb_12, List.all_cons, ctb_13, List.all_cons, ctb_14]
  rfl
theorem CTL_len {ci : Nat} (h : ci < 12) (h2 : ci ≠ 10) : (CTL ci).length = CTC ci + 1 := by
  have h3 : (List.range 12).all (fun c => c == 10 || (CTL c).length == CTC c + 1) = true := by decide +kernel
  have h4 := List.all_eq_true.mp h3 ci (List.mem_range.mpr h)
  simp only [Bool.or_eq_true, beq_iff_eq] at h4
  exact h4.resolve_left h2
section
variable {l : Launch} {X : XT} {R : Room} {μ : MI} {Z : List Frame → Array Value → State → State → Prop} {pc np tg : Nat} {lit : Int32} {i : Instr} {ls st st' r : List AV} {L : List CE} {cs ss : Nat}
theorem bw_spc {idx lv : Nat} {b' : BS} (hlv : ∀ c, c < 12 → c ≠ 10 → LVL c + 1 ≤ lv → CtorOK l c) (h3 : lv ≤ 3) (hR : 5 * lv + 5 ≤ R.frames ∧ 60 * lv + 60 ≤ R.locals) (hf : μ.2.2.2.2.2.lookup pc = some (.invokespecial idx, np, tg, lit)) (h : bSpc μ.2.2.2.2.1 lv R.cells R.slots idx np ls st L cs ss = some b') (k : BW l X R μ Z b'.1 b'.2.1 b'.2.2.1 b'.2.2.2.1 b'.2.2.2.2.1 b'.2.2.2.2.2) : BW l X R μ Z pc ls st L cs ss := by
  unfold bSpc at h
  split at h
  · rename_i t h0 r
    split at h
    · rename_i q hq
      split at h
      · rename_i hr
        cases h
        simp only [Bool.and_eq_true, Bool.not_eq_true'] at hr
        obtain ⟨a1, a2⟩ := hr
        have a2 := Nat.le_of_ble_eq_true a2
        have hfq := List.find?_some hq
        simp only [Bool.and_eq_true, beq_iff_eq] at hfq
        obtain ⟨e1, e2⟩ := hfq
        subst e2
        have h2 := List.all_eq_true.mp OTB_ok _ (List.mem_of_find?_eq_some hq)
        simp only [decide_eq_true_eq] at h2
        rw [e1] at h2
        intro hl p e s mid args below meth c C H locs la hP hz hcs hS hL
        obtain ⟨hx, hb, -, hml, hown, hts, -, hKB, hini, hbs, hok⟩ := id C
        obtain ⟨hd, hn⟩ := fetch_1 hok hf rfl
        have hn : np = pc + 3 := hn
        subst hn
        have hrm := lv_room (m := mid) (pc := pc) (ls := la) (st := r.map (cv X)) (rest := (vR t h0 :: r).map (cv X)) (by rw [catA_cv]; exact a2)
        exact W.objInit hx hb hown (hts _ (GT_in _ h2 rfl)) (hts _ O_w.1) (hts _ O_w.2) rfl (hL.1.trans (hl.trans hml.symm)) (rest := r.map (cv X)) rfl hd (by omega) (Nat.le_trans (Nat.add_le_add_right hrm 12) (by omega)) (k hl p e s mid args below meth c C H locs la hP hz hcs hS hL)
      · cases h
    · split at h
      · rename_i o1 o2 ci w hq
        obtain ⟨ne, w1, w2, w3, w4⟩ := w
        split at h
        · rename_i hr
          cases h
          simp only [Bool.and_eq_true, beq_iff_eq, decide_eq_true_eq] at hr
          obtain ⟨rfl, a2, a3, a4, a5, a6, a7⟩ := hr
          have a3 := cellB_eq a3
          have a4 := Nat.le_of_ble_eq_true a4
          have a5 := Nat.le_of_ble_eq_true a5
          have a6 := Nat.le_of_ble_eq_true a6
          have a7 := Nat.le_of_ble_eq_true a7
          have h0' := List.find?_some hq
          simp only [Bool.and_eq_true, beq_iff_eq] at h0'
          obtain ⟨e1, e2⟩ := h0'
          subst e1; subst e2
          have h2 := List.all_eq_true.mp CTB_ok _ (List.mem_of_find?_eq_some hq)
          unfold ctbB at h2
          simp only [Bool.and_eq_true, decide_eq_true_eq] at h2
          obtain ⟨g1, g2, g3, g4, ⟨g5, g6, g7, g8⟩, g9⟩ := h2
          have h10 : ci ≠ 10 := by
            intro z
            subst z
            have : LVL 10 = 3 := by decide +kernel
            omega
          have hM := hlv ci g8 h10 a4 (shX X h0)
          intro hl p e s mid args below meth c C H locs la hP hz hcs hS hL
          obtain ⟨hx, hb, -, hml, hown, hts, -, hKB, hini, hbs, hok⟩ := id C
          obtain ⟨hd, hn⟩ := fetch_1 hok hf rfl
          have hn : np = pc + 3 := hn
          subst hn
          have hlen : (CTL ci).length = CTC ci + 1 := CTL_len g8 h10
          have hG : GoodIn GT (wsM (MIc ci)) := fun w hw => by
            rcases List.mem_cons.mp hw with z | z
            · rw [z, g6]
              exact ⟨GT_in _ g4 rfl, good_of_word rfl⟩
            · exact GT_good w z
          have hwe : wsM (MIc ci) = Cond.code (MIc ci).1 (MIc ci).2.1 (MIc ci).2.2.1 none :: GT := by
            unfold wsM
            rw [g6]
          have hRr : (rmB ci).frames + 1 ≤ R.frames ∧ 8 + ((MIc ci).2.2.1 + 11) + (rmB ci).locals ≤ R.locals := by
            show 5 * (LVL ci + 1) + 1 ≤ _ ∧ 8 + (_ + 11) + 60 * (LVL ci + 1) ≤ _
            omega
          have hpre : PreS s H (PreB (shX X h0) ci) [.ref (xb X + h0)] := by
            refine ⟨fun a U g mk q => ⟨q.1, q.2.1, q.2.2.1, KB_call q.2.2.2 g mk a⟩, fun U hU hW => ⟨rfl, ?_, ?_, KBt.go hKB hW⟩⟩
            · rw [hU]
              intro k q hq
              obtain ⟨d, hd, rfl⟩ := wsL_inv hq
              have hk0 : k = 0 := by
                have := (List.getElem?_eq_some_iff.mp hd).1
                simp at this
                exact this
              subst hk0
              cases hd
              have h9 := hP h0 _ (wsL_get a3)
              rw [shE]
              have e : shC h0 (.inl (ci, dfl ci)) = .inl (ci, dfl ci) := by
                show (.inl (ci, (dfl ci).map _) : CE) = _
                refine congrArg (fun q => (.inl (ci, q) : CE)) ?_
                unfold dfl
                rw [List.map_map]
                refine List.map_congr_left fun q _ => ?_
                show shRV h0 (if q.1 = 0 then some (.inl 0) else none) = _
                split <;> rfl
              rw [e]
              exact h9
            · rw [hU, hz]
              show _ = X.1 + h0 + 1
              show X.1 + L.length = _
              omega
          have hrun : va_Run p l e R s mid args below meth c H locs cs ss (CTC ci) (CTZ ci) (F0 mid pc la ((vR (ci + 1) h0 :: r).map (cv X))) (r.map (cv X)) (PostB (shX X h0) ci (Value.ref (xb X + h0) :: []).toArray) (xA (shX X h0)) := by
            have hstk : (vR (ci + 1) h0 :: r).map (cv X) = ([] : List Value).reverse ++ .ref (xb X + h0) :: r.map (cv X) := by
              rw [List.map_cons, ref_in (isX_lt (by omega))]
              rfl
            rw [hstk]
            have hcat : ((r.map (cv X)).map fun v => v.category).sum ≤ 8 := by rw [catA_cv]; exact a7
            by_cases hne : ne = 0
            · rw [if_pos (by rw [hne]; rfl)] at g1
              simp only [decide_eq_true_eq] at g1
              exact va_runI (As := []) ⟨hx, hb, hml, hown, hts⟩ hM (cwI 0 hts hG hwe rfl rfl (hts _ (GT_in _ g3 rfl)) (hts _ (GT_in _ g1 rfl)) (hts _ (GT_in _ g2 rfl)) g5 g9 hRr) hpre rfl rfl (hL.1.trans hl) rfl (lv_room hcat) hd ⟨a5, a6⟩
            · rw [if_neg (by simpa using hne)] at g1
              simp only [decide_eq_true_eq] at g1
              exact va_runIN (As := []) ⟨hx, hb, hml, hown, hts⟩ hM ⟨va_cnB 0 hts hG hwe rfl rfl (hKB.2.1 _ g1) (hts _ (GT_in _ g3 rfl)) g9 hRr, g5, hts _ (GT_in _ g2 rfl)⟩ hpre rfl rfl (hL.1.trans hl) rfl (lv_room hcat) hd ⟨a5, a6⟩
          have hAA : ∀ q, xA (shX X h0) q → xA X q := fun q h9 => Nat.le_trans (Nat.le_add_right _ _) h9
          refine va_callv hrun hS (fun q _ h9 => hAA q h9) hAA (fun u t H1 locs1 ht halk _ hB hle hkeep hS1 => ?_)
          obtain ⟨hB1, hB2⟩ := hB
          rw [ht] at hB1 hB2
          have hz2 : H1.size = xb X + (L.take h0 ++ (CTL ci).map (shC h0)).length := by
            rw [hB2, List.length_append, List.length_take, List.length_map]
            show X.1 + h0 + _ = X.1 + _
            rw [Nat.min_eq_left (by omega)]
            omega
          refine k hl p e s mid args below meth c C H1 locs1 la ?_ hz2 ?_ hS1 hL
          · intro k q hq
            obtain ⟨d, hd, rfl⟩ := wsL_inv hq
            by_cases hk : k < h0
            · have hd : (L.take h0 ++ (CTL ci).map (shC h0))[k]? = some d := hd
              rw [List.getElem?_append_left (by rw [List.length_take]; omega), List.getElem?_take, if_pos hk] at hd
              have h9 := wsL_get (X := X) hd
              refine (hP k _ h9).kept (hkeep (xb X + k) ?_ ?_)
              · have := wsL_lt h9
                rw [hz]
                exact this
              · show ¬ X.1 + h0 ≤ X.1 + k
                omega
            · have hd : (L.take h0 ++ (CTL ci).map (shC h0))[k]? = some d := hd
              have hlt : (L.take h0).length = h0 := by rw [List.length_take]; omega
              rw [List.getElem?_append_right (by omega), hlt, List.getElem?_map] at hd
              cases hd0 : (CTL ci)[k - h0]? with
              | none => rw [hd0] at hd; cases hd
              | some d0 =>
                rw [hd0] at hd
                cases hd
                have h9 := hB1 (k - h0) _ (wsL_get hd0)
                rw [shE] at h9
                have e : xb (shX X h0) + (k - h0) = xb X + k := by
                  show X.1 + h0 + (k - h0) = X.1 + k
                  omega
                rw [e] at h9
                exact h9
          · rw [← hz2, hB2, hlen]
            show _ + (cs + CTC ci) = X.1 + h0 + (CTC ci + 1)
            have : xb X = X.1 := rfl
            omega
        · cases h
      · cases h
  · cases h
end

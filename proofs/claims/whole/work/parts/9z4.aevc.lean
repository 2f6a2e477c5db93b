-- ===== the class's constructor: its contract =====
section
variable {p : Program} {l : Launch} {e : Env} {R : Room} {s : State} {m : MethodId} {args : Array Value} {below : List Frame} {meth : Method} {c : Code} {H : Heap} {locs : List Loc} {cells slots : Nat} {Q Q' : State → Prop} {g : JFrame}
theorem W_mono (h : W p l e R s m args below meth c H locs cells slots Q g) (hq : ∀ t, Q t → Q' t) : W p l e R s m args below meth c H locs cells slots Q' g := fun T hT X => by
  obtain ⟨t, a, b⟩ := h T hT X
  exact ⟨t, a, hq t b⟩
theorem W_triv (h : ∀ t, Q t) : W p l e R s m args below meth c H locs cells slots Q g := fun T _ _ => ⟨T.setTop g, Steps.refl _, h _⟩
end
def PreA (X : XT) : Array Value → State → Prop := va_Pc [.ref (xb X)] (fun U => va_P (xD X) vwCl (wsL X [.inl (10, dfl 10)]) U.heap ∧ U.heap.size = xb X + 1 ∧ KBt X U ∧ KS X U U.heap)
def PostA (X : XT) : Array Value → State → Outcome → State → Prop := va_Qv (S := Mem) FST (fun m t => va_P (xD X) vwCl (wsOf X m) t.heap) (xA X)
abbrev ZA (X : XT) : List Frame → Array Value → State → State → Prop := fun below args s => MQ below (PostA X) args s 242 7872 (xA X)
section
variable {l : Launch} {X : XT}
theorem bw_aw (hN : xN X = NC) : BW l X rmA M_X10_init (fun below args s t => KS X s s.heap → ZA X below args s t) 173 [vR 11 0, vI 4] [] aevL 242 7872 := by
  intro hl p e s mid args below meth c C H locs la hP hz hcs hS hL
  obtain ⟨hx, hb, hr, hml, hown, hts, hlk, hKB, hini, hbs, hok⟩ := C
  by_cases hKS : KS X s s.heap
  · refine W_mono (Q := ZA X below args s) ?_ (fun t h _ => h)
    have hA : AW (GC l X (ZA X)) 173 [vR 11 0, vI 4] [] (ceZ aevL) := by
      refine aev_walk (by decide +kernel) (by decide +kernel) (by decide +kernel) (by decide +kernel) (by decide +kernel) (by decide +kernel) (by decide +kernel) (by decide +kernel) (fun m' hm' => ?_)
      intro hl hol hos p e s mid args below meth co C H locs la hPw hS hL
      obtain ⟨hx, hb, hrr, -, hown, hts, hlk, -, -, -, -, -, -, hok⟩ := id C
      obtain ⟨hd, -⟩ := fetch_1 (pc := 234) (i := .return_) (np := 235) (tg := 0) (lit := 0) hok rfl rfl
      exact W.vret hx hb hrr (fun t ht hW => ⟨⟨m', rfl, hm', by show va_P (xD X) vwCl (wsOf X m') t.heap; rw [ht]; exact hPw⟩, hS.F ht⟩) hS.2.2 hd
    have hol : okl X [vR 11 0, vI 4] := okl_cons.mpr ⟨Or.inr (Or.inr ⟨rfl, by rw [hN]; decide, by decide +kernel⟩), okl_cons.mpr ⟨trivial, okl_nil⟩⟩
    exact hA hl hol okl_nil p e s mid args below meth c ⟨hx, hb, hr, hml, hown, hts, hlk, hKB.1, hKS, Or.inl hN, hbs, Nat.le_refl _, Nat.le_refl _, hok⟩ H locs la (wsL_Of aev_ok (by rw [hN, aev_len]) hP) hS hL
  · exact W_triv (fun t h => absurd h hKS)
theorem ct_10 (hN : xN X = NC) : Met l M_X10_init.1 (wsM M_X10_init) rmA (PreA X) (PostA X) 242 7872 (xA X) := by
  refine Met.ofW (cc := cX10_init) (maxL := 2) (ret := none) (by decide +kernel) rfl ?_
  intro p e s mid args below meth c s₁ B hml hv
  obtain ⟨hargs, hP, hz, hKB, hKS⟩ := hv
  have hvs : ([.ref (xb X)] : List Value) = ([vR 11 0]).map (cv X) := by
    rw [List.map_cons, ref_in rfl]
    rfl
  rw [hvs] at hargs
  subst hargs
  have hts := atoms_spec (ws := wsM M_X10_init) B.pre
  have hown : s.vm.findClass M_X10_init.1.cls = some mid.cls := findClass_of_methodNamed B.named
  have hin : meth.name = "<init>" := by rw [(name_of_methodNamed B.named B.method).1]; rfl
  have hl := lv_entry (([vR 11 0]).map (cv X)) (n := 2) (by rw [entL_len]; decide)
  rw [lg_entry_eq]
  have hBW : BW l X rmA M_X10_init (fun below args s t => KS X s s.heap → ZA X below args s t) 0 [vR 11 0, vU] [] [.inl (10, dfl 10)] 0 0 := BW.run (R := rmA) (μ := M_X10_init) (lv := 3) ctL_3 (by decide) (by decide) 185 (0, [vR 11 0, vU], [], [.inl (10, dfl 10)], 0, 0) (173, [vR 11 0, vI 4], [], aevL, 242, 7872) (bsB_eq (by decide +kernel)) (bw_aw hN)
  refine W_mono (hBW rfl p e s mid _ below meth c ⟨B.exec, B.bytes, B.returns, hml, hown, fun w hw => hts w (List.mem_cons_of_mem _ hw), B.notSynchronized, hKB, hin, by omega, ok_X10_init⟩ s.heap [] _ hP hz (by rw [hz]; rfl) va_S.rf ?_) (fun t h => h hKS)
  refine lRep_of hl rfl (fun j v hj hu => ?_)
  match j, hj with
  | 0, hj => cases hj; exact List.mem_cons_self
  | 1, hj => cases hj; cases hu
end

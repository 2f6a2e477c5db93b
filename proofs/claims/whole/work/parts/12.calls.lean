def catA (v : AV) : Nat := match v with
  | .inr (.inl _) => 2
  | _ => 1
theorem catA_cv {X : XT} (l : List AV) : ((l.map (cv X)).map fun v => v.category).sum = (l.map catA).sum := by
  induction l with
  | nil => rfl
  | cons a r ih =>
    simp only [List.map_cons, List.sum_cons, ih]
    congr 1
    rcases a with x | x | q <;> rfl
/-- n arguments, the receiver, the rest -/
def splV (n : Nat) (st : List AV) : Option (List AV × Nat × Nat × List AV) := match st.drop n with
  | .inr (.inr (t, h)) :: r => if n ≤ st.length then some ((st.take n).reverse, t, h, r) else none
  | _ => none
theorem splV_eq {n : Nat} {st As rest : List AV} {t h : Nat} (e : splV n st = some (As, t, h, rest)) : st = As.reverse ++ vR t h :: rest ∧ As.length = n := by
  unfold splV at e
  split at e
  · rename_i t0 h0 r0 hd
    split at e
    · rename_i hn
      cases e
      refine ⟨?_, ?_⟩
      · rw [List.reverse_reverse, ← hd, List.take_append_drop]
      · rw [List.length_reverse, List.length_take]; omega
    · cases e
  · cases e
def splS (n : Nat) (st : List AV) : Option (List AV × List AV) := if n ≤ st.length then some ((st.take n).reverse, st.drop n) else none
theorem splS_eq {n : Nat} {st As rest : List AV} (e : splS n st = some (As, rest)) : st = As.reverse ++ rest ∧ As.length = n := by
  unfold splS at e
  split at e
  · rename_i hn
    cases e
    refine ⟨?_, ?_⟩
    · rw [List.reverse_reverse, List.take_append_drop]
    · rw [List.length_reverse, List.length_take]; omega
  · cases e
def CVok (own idx : Nat) (μ : MI) (n : Nat) : Prop := GoodIn GT (wsV (Rn own) idx μ.1.cls μ.1 (wsM μ)) ∧ (μ.1.cls ≠ "java/lang/invoke/MethodHandle" ∧ μ.1.cls ≠ "java/lang/invoke/VarHandle" ∧ (parseMethodDescriptor μ.1.desc).map (fun d => d.parameters.length) = some n)
def CSok (own idx : Nat) (μ : MI) (n : Nat) : Prop := GoodIn GT (va_wsS (Rn own) idx μ.1 (wsM μ)) ∧ (μ.1.cls ≠ "java/lang/invoke/MethodHandle" ∧ μ.1.cls ≠ "java/lang/invoke/VarHandle" ∧ (parseMethodDescriptor μ.1.desc).map (fun d => d.parameters.length) = some n)
def CNok (own idx : Nat) (μ : MI) (n : Nat) (host : String) : Prop := GoodIn GT ([.static μ.1, .initialized μ.1.cls] ++ wsM μ) ∧ (Rn own, idx, μ.1, host) ∈ NWS ∧ (μ.1.cls ≠ "java/lang/invoke/MethodHandle" ∧ μ.1.cls ≠ "java/lang/invoke/VarHandle" ∧ (parseMethodDescriptor μ.1.desc).map (fun d => d.parameters.length) = some n)
theorem GT_list {ws : List Cond} (ps : List Nat) (h : ws = ps.filterMap (fun i => lw_tbl[i]?)) (g : ws.all goodWord = true) : GoodIn GT ws := by
  intro w hw
  have g1 := List.all_eq_true.mp g w hw
  rw [h] at hw
  obtain ⟨i, -, hi⟩ := List.mem_filterMap.mp hw
  exact ⟨GT_in i hi g1, good_of_word g1⟩
theorem GT_app {ws : List Cond} (h : GoodIn GT ws) : GoodIn GT (ws ++ GT) := fun w hw => (List.mem_append.mp hw).elim (h w) (GT_good w)
theorem CV_of {own idx : Nat} {μ : MI} {n : Nat} (ps : List Nat) (h : ([.methodLink (Rn own) idx μ.1, .instanceMethod μ.1, .selects μ.1.cls μ.1 μ.1, .initialized μ.1.cls, .code μ.1 μ.2.1 μ.2.2.1 μ.2.2.2.1] : List Cond) = ps.filterMap (fun i => lw_tbl[i]?)) (g : ([.methodLink (Rn own) idx μ.1, .instanceMethod μ.1, .selects μ.1.cls μ.1 μ.1, .initialized μ.1.cls, .code μ.1 μ.2.1 μ.2.2.1 μ.2.2.2.1] : List Cond).all goodWord = true)
    (d : μ.1.cls ≠ "java/lang/invoke/MethodHandle" ∧ μ.1.cls ≠ "java/lang/invoke/VarHandle" ∧ (parseMethodDescriptor μ.1.desc).map (fun d => d.parameters.length) = some n) : CVok own idx μ n := ⟨GT_app (GT_list ps h g), d⟩
theorem CS_of {own idx : Nat} {μ : MI} {n : Nat} (ps : List Nat) (h : ([.methodLink (Rn own) idx μ.1, .static μ.1, .initialized μ.1.cls, .code μ.1 μ.2.1 μ.2.2.1 μ.2.2.2.1] : List Cond) = ps.filterMap (fun i => lw_tbl[i]?)) (g : ([.methodLink (Rn own) idx μ.1, .static μ.1, .initialized μ.1.cls, .code μ.1 μ.2.1 μ.2.2.1 μ.2.2.2.1] : List Cond).all goodWord = true)
    (d : μ.1.cls ≠ "java/lang/invoke/MethodHandle" ∧ μ.1.cls ≠ "java/lang/invoke/VarHandle" ∧ (parseMethodDescriptor μ.1.desc).map (fun d => d.parameters.length) = some n) : CSok own idx μ n := ⟨GT_app (GT_list ps h g), d⟩
theorem CN_of {own idx : Nat} {μ : MI} {n : Nat} {host : String} (ps : List Nat) (h : ([.static μ.1, .initialized μ.1.cls, .code μ.1 μ.2.1 μ.2.2.1 μ.2.2.2.1] : List Cond) = ps.filterMap (fun i => lw_tbl[i]?)) (g : ([.static μ.1, .initialized μ.1.cls, .code μ.1 μ.2.1 μ.2.2.1 μ.2.2.2.1] : List Cond).all goodWord = true) (hn : (Rn own, idx, μ.1, host) ∈ NWS)
    (d : μ.1.cls ≠ "java/lang/invoke/MethodHandle" ∧ μ.1.cls ≠ "java/lang/invoke/VarHandle" ∧ (parseMethodDescriptor μ.1.desc).map (fun d => d.parameters.length) = some n) : CNok own idx μ n host := ⟨GT_app (GT_list ps h g), hn, d⟩
theorem PreM_blind {X : XT} {m : Mem} {vs : List AV} : FrameBlind (PreM X m vs) := fun a U g mk q => by
  obtain ⟨q0, q1, q2, q3, q4⟩ := q
  exact ⟨q0, q1, va_K.moved (u := U) (U := U.calling g mk a) (Vm.Alike.refl U.vm) q2, KS.go (s := U) (U := U.calling g mk a) q3 (State.WarmedH.refl U) q4 (fun _ _ _ => rfl), q4⟩
section
variable {p : Program} {l : Launch} {e : Env} {R : Room} {s : State} {mid : MethodId} {args : Array Value} {below : List Frame} {meth : Method} {c : Code} {H : Heap} {locs : List Loc} {cells slots : Nat} {Z : State → Prop}
theorem aw_after {X : XT} {Q : Option AV → Mem → Prop} {a : Array Value} {pc : Nat} {la : Array Slot} {st0 rest : List Value} (hr : va_Run p l e R s mid args below meth c H locs cells slots 0 0 (F0 mid pc la st0) rest (PostM X Q a) (xA X)) (hS : va_S (xA X) s.heap H locs)
    (kk : ∀ (r : Option AV) (m' : Mem) (H1 : Heap) (locs1 : List Loc), Q r m' → okl X r.toList → va_P (xD X) vwCl (wsOf X m') H1 → va_S (xA X) s.heap H1 locs1 → W p l e R s mid args below meth c H1 locs1 cells slots Z (F0 mid (pc + 3) la (r.toList.map (cv X) ++ rest))) : W p l e R s mid args below meth c H locs cells slots Z (F0 mid pc la st0) := by
  intro T hT Xs
  obtain ⟨v, st₀, t, T', L, h0, X', hL, e1, e2, ⟨⟨r, m', hv, hq, hor, hp⟩, hz, hk⟩, st⟩ := hr T hT Xs
  cases hv
  rw [h0] at hz hk
  obtain ⟨t2, a1, b1⟩ := kk r m' T'.heap (locs ++ L) hq hor (by rw [e1]; exact hp)
    ⟨Nat.le_trans hS.1 (by rw [e1]; exact hz), fun q h1 h2 => by rw [e1, hk q (Nat.lt_of_lt_of_le h1 hS.1) h2]; exact hS.2.1 q h1 h2, fun q hq => by
      rcases List.mem_append.mp hq with h | h
      · exact hS.2.2 q h
      · exact hL q h⟩ T' rfl X'
  refine ⟨t2, st t2 ?_, b1⟩
  rw [show (r.map (cv X)).toList = r.toList.map (cv X) by cases r <;> rfl]
  exact a1
end
theorem vw_n {t : Nat} (h : t < 12) : ∃ q : vw_C, vwCl[t]? = some q ∧ q.1 = Rn t := by
  match t, h with
  | 0, _ => exact ⟨_, rfl, rfl⟩
  | 1, _ => exact ⟨_, rfl, rfl⟩
  | 2, _ => exact ⟨_, rfl, rfl⟩
  | 3, _ => exact ⟨_, rfl, rfl⟩
  | 4, _ => exact ⟨_, rfl, rfl⟩
  | 5, _ => exact ⟨_, rfl, rfl⟩
  | 6, _ => exact ⟨_, rfl, rfl⟩
  | 7, _ => exact ⟨_, rfl, rfl⟩
  | 8, _ => exact ⟨_, rfl, rfl⟩
  | 9, _ => exact ⟨_, rfl, rfl⟩
  | 10, _ => exact ⟨_, rfl, rfl⟩
  | 11, _ => exact ⟨_, rfl, rfl⟩
  | k + 12, h => exact absurd h (by omega)
section
variable {G : GG} {pc np tg : Nat} {lit : Int32} {ls st rest As : List AV} {m : Mem} {idx n d' : Nat} {μ : MI} {Q : Option AV → Mem → Prop}
theorem aw_pre {X : XT} {s U : State} {H : Heap} {locs : List Loc} {args : Array Value} {vs : List AV} (hK : va_K (xD X) vwCl (tysOf X) s) (hKS : KS X s s.heap) (hbz : xb X ≤ s.heap.size) (hPw : va_P (xD X) vwCl (wsOf X m) H) (hS : va_S (xA X) s.heap H locs) (hU : U.heap = H) (hW : s.WarmedH U.vm) : PreM X m vs (vs.map (cv X)).toArray U := by
  refine ⟨rfl, by rw [hU]; exact hPw, va_K.moved hW.alike hK, ?_, ?_⟩
  · rw [hU]
    exact KS.go hKS hW hbz (fun a h1 h2 => hS.2.1 a h1 h2)
  · rw [hU]
    exact Nat.le_trans hbz hS.1
theorem AW.callV {t h : Nat} (hf : G.2.2.2.2.2.1.2.2.2.2.2.lookup pc = some (.invokevirtual idx, np, tg, lit)) (hs : splV n st = some (As, t, h, rest)) (hk : CVok G.2.2.2.2.2.1.2.2.2.2.1 idx μ n) (ht : 0 < t ∧ t < 13 ∧ Rn (t - 1) = μ.1.cls) (hR : d' + 1 ≤ G.2.2.1.frames ∧ 8 + (μ.2.2.1 + 11) + 60 * d' ≤ G.2.2.1.locals) (hr8 : (rest.map catA).sum ≤ 8)
    (hM : Meth G.1 G.2.1 d' μ (vR t h :: As) m Q) (kk : ∀ (r : Option AV) (m' : Mem), Q r m' → AW G np ls (r.toList ++ rest) m') : AW G pc ls st m := by
  obtain ⟨rfl, hlen⟩ := splV_eq hs
  intro hl hol hos p e s mid args below meth co C H locs la hPw hS hL
  obtain ⟨hx, hb, -, hml, hown, hts, hlk, hK, hKS, hN, hbz, hc1, hc2, hok⟩ := id C
  obtain ⟨hd, hn⟩ := fetch_1 hok hf rfl
  have hn : np = pc + 3 := hn
  subst hn
  have ho1 : okl G.2.1 As := fun v hv => hos v (List.mem_append_left _ (List.mem_reverse.mpr hv))
  have ho2 := okl_cons.mp (fun v hv => hos v (List.mem_append_right _ hv) : okl G.2.1 (vR t h :: rest))
  have hxt : isX t = false := isX_lt (by omega)
  obtain ⟨hh, hlay⟩ := okr_cell ho2.1 (by omega) hxt
  have he : (wsOf G.2.1 m)[h]? = some (xb G.2.1 + h, .inr (t - 1, fsOf G.2.1 m h t)) := by rw [ws_get _ _ hh, cel_o hlay (by omega)]
  obtain ⟨qc, hqc, hqn⟩ := vw_n (t := t - 1) (by omega)
  rw [ht.2.2] at hqn
  have hrc := va_recv hK hPw hqc he
  rw [hqn] at hrc
  have hM' := hM hN (okl_cons.mpr ⟨ho2.1, ho1⟩)
  have haof : cv G.2.1 (vR t h) = .ref (xb G.2.1 + h) := by
    show Value.ref (aof _ _ _) = _
    rw [aof_in hxt]
  have hvs : ((vR t h :: As).map (cv G.2.1)).toArray = (Value.ref (xb G.2.1 + h) :: As.map (cv G.2.1)).toArray := by rw [List.map_cons, haof]
  refine aw_after (rest := rest.map (cv G.2.1)) (va_runV (As := As.map (cv G.2.1)) (n := n) (b := xb G.2.1 + h) ⟨hx, hb, hml, hown, hts⟩ hM' (cwV n hts hk.1 rfl rfl rfl ⟨rfl, hk.2⟩ hR) ⟨PreM_blind, hrc, fun U hU hW => ?_⟩ rfl (by rw [List.length_map]; exact hlen) (hL.1.trans hl) ?_ (lv_room (by rw [catA_cv]; exact hr8)) hd ⟨hc1, hc2⟩) hS (fun r m' H1 locs1 hQ hor hP1 hS1 => ?_)
  · rw [← hvs]
    exact aw_pre (args := args) hK hKS hbz hPw hS hU hW
  · show (As.reverse ++ vR t h :: rest).map (cv G.2.1) = _
    rw [List.map_append, List.map_cons, haof, List.map_reverse]
  · have k1 := kk r m' hQ hl hol (fun v hv => (List.mem_append.mp hv).elim (hor v) (ho2.2 v)) p e s mid args below meth co C H1 locs1 la hP1 hS1 hL
    rw [List.map_append] at k1
    exact k1
theorem AW.callS (hf : G.2.2.2.2.2.1.2.2.2.2.2.lookup pc = some (.invokestatic idx, np, tg, lit)) (hs : splS n st = some (As, rest)) (hk : CSok G.2.2.2.2.2.1.2.2.2.2.1 idx μ n) (hR : d' + 1 ≤ G.2.2.1.frames ∧ 8 + (μ.2.2.1 + 11) + 60 * d' ≤ G.2.2.1.locals) (hr8 : (rest.map catA).sum ≤ 8)
    (hM : Meth G.1 G.2.1 d' μ As m Q) (kk : ∀ (r : Option AV) (m' : Mem), Q r m' → AW G np ls (r.toList ++ rest) m') : AW G pc ls st m := by
  obtain ⟨rfl, hlen⟩ := splS_eq hs
  intro hl hol hos p e s mid args below meth co C H locs la hPw hS hL
  obtain ⟨hx, hb, -, hml, hown, hts, hlk, hK, hKS, hN, hbz, hc1, hc2, hok⟩ := id C
  obtain ⟨hd, hn⟩ := fetch_1 hok hf rfl
  have hn : np = pc + 3 := hn
  subst hn
  have ho1 : okl G.2.1 As := fun v hv => hos v (List.mem_append_left _ (List.mem_reverse.mpr hv))
  have ho2 : okl G.2.1 rest := fun v hv => hos v (List.mem_append_right _ hv)
  have hM' := hM hN ho1
  refine aw_after (rest := rest.map (cv G.2.1)) (va_runS (As := As.map (cv G.2.1)) (n := n) ⟨hx, hb, hml, hown, hts⟩ hM' (va_cwS n hts hk.1 rfl rfl rfl hk.2 hR) ⟨PreM_blind, fun U hU hW => ?_⟩ rfl (by rw [List.length_map]; exact hlen) (hL.1.trans hl) ?_ (lv_room (by rw [catA_cv]; exact hr8)) hd ⟨hc1, hc2⟩) hS (fun r m' H1 locs1 hQ hor hP1 hS1 => ?_)
  · exact aw_pre (args := args) hK hKS hbz hPw hS hU hW
  · show (As.reverse ++ rest).map (cv G.2.1) = _
    rw [List.map_append, List.map_reverse]
  · have k1 := kk r m' hQ hl hol (fun v hv => (List.mem_append.mp hv).elim (hor v) (ho2 v)) p e s mid args below meth co C H1 locs1 la hP1 hS1 hL
    rw [List.map_append] at k1
    exact k1
theorem AW.callN {host : String} (hf : G.2.2.2.2.2.1.2.2.2.2.2.lookup pc = some (.invokestatic idx, np, tg, lit)) (hs : splS n st = some (As, rest)) (hk : CNok G.2.2.2.2.2.1.2.2.2.2.1 idx μ n host) (hR : d' + 1 ≤ G.2.2.1.frames ∧ 8 + (μ.2.2.1 + 11) + 60 * d' ≤ G.2.2.1.locals) (hr8 : (rest.map catA).sum ≤ 8)
    (hM : Meth G.1 G.2.1 d' μ As m Q) (kk : ∀ (r : Option AV) (m' : Mem), Q r m' → AW G np ls (r.toList ++ rest) m') : AW G pc ls st m := by
  obtain ⟨rfl, hlen⟩ := splS_eq hs
  intro hl hol hos p e s mid args below meth co C H locs la hPw hS hL
  obtain ⟨hx, hb, -, hml, hown, hts, hlk, hK, hKS, hN, hbz, hc1, hc2, hok⟩ := id C
  obtain ⟨hd, hn⟩ := fetch_1 hok hf rfl
  have hn : np = pc + 3 := hn
  subst hn
  have ho1 : okl G.2.1 As := fun v hv => hos v (List.mem_append_left _ (List.mem_reverse.mpr hv))
  have ho2 : okl G.2.1 rest := fun v hv => hos v (List.mem_append_right _ hv)
  have hM' := hM hN ho1
  have hnw : va_Nw (.methodLinkNest (Rn G.2.2.2.2.2.1.2.2.2.2.1) idx μ.1 host) s := hKS.1 _ hk.2.1
  have hg : GoodIn GT (wsM μ) := fun w hw => hk.1 w (List.mem_append_right _ hw)
  refine aw_after (rest := rest.map (cv G.2.1)) (va_runSN (As := As.map (cv G.2.1)) (n := n) (host := host) ⟨hx, hb, hml, hown, hts⟩ hM' ⟨va_cnB n hts hg rfl rfl rfl hnw (hts _ (hk.1 _ (by simp)).1) hk.2.2 hR, hts _ (hk.1 _ (by simp)).1, trivial⟩ ⟨PreM_blind, fun U hU hW => ?_⟩ rfl (by rw [List.length_map]; exact hlen) (hL.1.trans hl) ?_ (lv_room (by rw [catA_cv]; exact hr8)) hd ⟨hc1, hc2⟩) hS (fun r m' H1 locs1 hQ hor hP1 hS1 => ?_)
  · exact aw_pre (args := args) hK hKS hbz hPw hS hU hW
  · show (As.reverse ++ rest).map (cv G.2.1) = _
    rw [List.map_append, List.map_reverse]
  · have k1 := kk r m' hQ hl hol (fun v hv => (List.mem_append.mp hv).elim (hor v) (ho2 v)) p e s mid args below meth co C H1 locs1 la hP1 hS1 hL
    rw [List.map_append] at k1
    exact k1
end

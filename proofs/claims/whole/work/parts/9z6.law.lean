-- ===== law: its beginning =====
section
variable {p : Program} {l : Launch} {e : Env} {R : Room} {s : State} {m : MethodId} {args : Array Value} {below : List Frame} {meth : Method} {c : Code} {H : Heap} {locs : List Loc} {cells slots : Nat} {Q : State → Prop} {cc : ByteArray} {pc : Nat} {la : Array Slot} {rest : List Value} {X : XT}
theorem w_new {own idx ci N w1 w2 w3 : Nat} (hx : p.tables.exec = Jvm.exec) (hb : c.code = cc) (hown : s.vm.findClass (Rn own) = some m.cls) (hts : ∀ w ∈ GT, w.before args s = true) (hK : va_K (xD X) vwCl (tysOf X) s) (hq : (own, idx, ci, N, w1, w2, w3) ∈ NTB) (hz : H.size = xb X) (hr1 : cells + 1 ≤ R.cells) (hr2 : slots + N ≤ R.slots) (hd : decode cc pc = .ok (.new idx, 3))
    (kk : ∀ H1 : Heap, va_P (xD X) vwCl (wsL X [.inl (ci, dfl ci)]) H1 → H1.size = xb X + 1 → (∀ q, q < xb X → H1[q]? = H[q]?) → W p l e R s m args below meth c H1 locs (cells + 1) (slots + N) Q (F0 m (pc + 3) la (.ref (xb X) :: rest))) : W p l e R s m args below meth c H locs cells slots Q (F0 m pc la rest) := by
  have h2 := List.all_eq_true.mp NTB_ok _ hq
  simp only [Bool.and_eq_true, decide_eq_true_eq] at h2
  obtain ⟨g1, g2, g3, g4, g5⟩ := h2
  obtain ⟨T, N', ty0, hc, hN, hty, hdf⟩ := vw_new g4
  have e9 : N' = N := hN.trans g5.symm
  subst e9
  have hKn := hK.1 ci _ hc
  refine W.newcK hx hb hown (hts _ (GT_in _ g1 rfl)) (hts _ (GT_in _ g2 rfl)) (hts _ (GT_in _ g3 rfl)) rfl hd hr1 hr2 hKn.2.1 hz fun H1 kC hkC e1 z1 o1 => ?_
  refine kk H1 ?_ z1 o1
  refine wsL_push (L := []) (fun k q h => by simp [wsL] at h) hz o1 ⟨_, hc, ?_⟩
  have h9 := (u_born ty0 hts (cls_in hc) hKn hkC e1 hty).to hdf
  rw [← dfl_V X ci] at h9
  exact h9
end
/-- the cells behind both constructors -/
def m2F (m0 : Mem) : Mem := fun h => if h < 243 then m0 h else ceM (shC 243 ((CTL 11).getD (h - 243) (.inl (0, []))))
theorem m2_ok : okLs 243 ((CTL 11).map (shC 243)) = true := by decide +kernel
theorem m2_M {m0 : Mem} {a b c : FX} (ha : CDS [0, 1, 15] [] a) (hb : CDS [2, -6, 17] [] b) (hc : CDS [5] [] c) : InvM (m2F m0) (OM0 (a, b, c)) := by
  have hf : ∀ h : Nat, ¬ h < 243 → m2F m0 h = ceM (shC 243 ((CTL 11).getD (h - 243) (.inl (0, [])))) := fun h hh => if_neg hh
  have key : ∀ (h k : Nat) (x : Int32), ¬ h < 243 → ceM (shC 243 ((CTL 11).getD (h - 243) (.inl (0, [])))) k = x → m2F m0 h k = x := fun h k x hh e => by rw [hf h hh]; exact e
  refine InvM0 ha hb hc (key _ _ _ (by decide) (by decide +kernel)) (key _ _ _ (by decide) (by decide +kernel)) (key _ _ _ (by decide) (by decide +kernel)) (key _ _ _ (by decide) (by decide +kernel)) (key _ _ _ (by decide) (by decide +kernel)) (key _ _ _ (by decide) (by decide +kernel)) (key _ _ _ (by decide) (by decide +kernel)) (key _ _ _ (by decide) (by decide +kernel))
    ⟨key _ _ _ (by decide) (by decide +kernel), key _ _ _ (by decide) (by decide +kernel), key _ _ _ (by decide) (by decide +kernel), key _ _ _ (by decide) (by decide +kernel)⟩ ⟨key _ _ _ (by decide) (by decide +kernel), key _ _ _ (by decide) (by decide +kernel), key _ _ _ (by decide) (by decide +kernel), key _ _ _ (by decide) (by decide +kernel)⟩ ⟨key _ _ _ (by decide) (by decide +kernel), key _ _ _ (by decide) (by decide +kernel)⟩ (fun i hi => ⟨?_, ?_⟩) (fun k hk => ?_) (fun k hk => ?_)
  · have h1 : ∀ i : Nat, i < 4 → ceM (shC 243 ((CTL 11).getD (266 - 243) (.inl (0, [])))) i = -1 := by decide +kernel
    exact key _ _ _ (by decide) (h1 i hi)
  · have h1 : ∀ i : Nat, i < 4 → ceM (shC 243 ((CTL 11).getD (267 - 243) (.inl (0, [])))) i = 0 := by decide +kernel
    exact key _ _ _ (by decide) (h1 i hi)
  · have h1 : ∀ k : Nat, k < 53 → ceM (shC 243 ((CTL 11).getD (254 - 243) (.inl (0, [])))) k = LTC.getD k 0 := by decide +kernel
    exact key _ _ _ (by decide) (h1 k hk)
  · have h1 : ∀ k : Nat, k < 13 → ceM (shC 243 ((CTL 11).getD (255 - 243) (.inl (0, [])))) k = nI (BGN.getD k 0) := by decide +kernel
    exact key _ _ _ (by decide) (h1 k hk)
theorem m2_P {bb : Nat} {D : va_G} {xcf : Nat → ClassId} {ad : Nat → Nat} {L : Nat} {xs : Nat → Int32} {m0 : Mem} {H : Heap} (h1 : va_P D vwCl (wsOf (bb, NC, D, xcf, ad, L, xs) m0) H) (h2 : va_P D vwCl (wsL (shX (bb, NC, D, xcf, ad, L, xs) 243) (CTL 11)) H) : va_P D vwCl (wsOf (bb, NTT, D, xcf, ad, L, xs) (m2F m0)) H := by
  intro k q hq
  have hk : k < 270 := by
    have := (List.getElem?_eq_some_iff.mp hq).1
    rw [ws_len] at this
    exact this
  rw [ws_get _ _ (show k < xN (bb, NTT, D, xcf, ad, L, xs) from hk)] at hq
  cases hq
  by_cases hk1 : k < 243
  · have h3 := h1 k _ (ws_get (bb, NC, D, xcf, ad, L, xs) m0 (show k < xN (bb, NC, D, xcf, ad, L, xs) from hk1))
    have e : m2F m0 k = m0 k := if_pos hk1
    have e2 : celE (bb, NTT, D, xcf, ad, L, xs) (m2F m0) k = celE (bb, NC, D, xcf, ad, L, xs) m0 k := by
      unfold celE fsOf slotV
      rw [e]
      rfl
    rw [e2]
    exact h3
  · obtain ⟨i, rfl⟩ : ∃ i, k = 243 + i := ⟨k - 243, by omega⟩
    have hlen : (CTL 11).length = 27 := by decide +kernel
    have hc : (CTL 11)[i]? = some ((CTL 11)[i]'(by omega)) := List.getElem?_eq_getElem (by omega)
    generalize (CTL 11)[i]'(by omega) = c at hc
    have h3 := h2 i _ (wsL_get hc)
    have h4 := okLs_get (k := i) (c := shC 243 c) m2_ok (by rw [List.getElem?_map, hc]; rfl)
    rw [shE] at h3
    have e5 : xb (shX (bb, NC, D, xcf, ad, L, xs) 243) + i = bb + (243 + i) := by
      show bb + 243 + i = _
      omega
    rw [e5] at h3
    refine okCel_at (X := (bb, NTT, D, xcf, ad, L, xs)) h4 ?_ h3
    show (if 243 + i < 243 then _ else _) = _
    rw [if_neg (by omega), Nat.add_sub_cancel_left, List.getD_eq_getElem?_getD, hc]
    rfl

-- ===== the first state =====
def sg0 : Sg := fun a k => if a = 0 ∧ k = 0 then 1065233 else 0
theorem sg0_0 {a k : Nat} (h : a ≠ 0 ∨ k ≠ 0) : sg0 a k = 0 := if_neg (fun q => h.elim (fun z => z q.1) (fun z => z q.2))
def OM0 (abc : FX × FX × FX) : OM := (sg0, (false, sg0), fun _ => (-1, 0, fun _ => 0), (0, fun _ => 0), (1, fun _ p F => txV abc p F))
theorem WF0 : WF sg0 := by
  have e : ∀ k, k ≠ 0 → sg0 0 k = 0 := fun k hk => sg0_0 (Or.inr hk)
  refine ⟨by decide, by rw [e 1 (by decide)]; decide, by rw [e 2 (by decide)]; decide, by rw [e 3 (by decide)]; decide, by rw [e 4 (by decide)]; decide, fun w hw => ?_, fun r hr => ?_, fun i hi => ?_⟩
  · rw [e 1 (by decide)] at hw; exact absurd hw (Nat.not_lt_zero _)
  · rw [e 2 (by decide)] at hr; exact absurd hr (Nat.not_lt_zero _)
  · rw [e 3 (by decide)] at hi; exact absurd hi (Nat.not_lt_zero _)
theorem WO0 {abc : FX × FX × FX} : WO (OM0 abc) := ⟨WF0, fun k => absurd (show false = true from k) (by decide), Nat.one_pos, by show 1 ≤ 6; decide, Nat.zero_le _, fun k hk => absurd hk (Nat.not_lt_zero _), fun i hi => Or.inl ⟨rfl, rfl⟩⟩
theorem InvM0 {m : Mem} {a b c : FX} (ha : CDS [0, 1, 15] [] a) (hb : CDS [2, -6, 17] [] b) (hc : CDS [5] [] c) (h0 : m 243 0 = 1065233) (h1 : m 243 1 = 0) (h5 : m 243 5 = 0) (h9 : m 243 9 = 0) (h14 : m 243 14 = 0) (h39 : m 243 39 = 0) (h13 : m 243 13 = 1) (h12 : m 243 12 = 0)
    (q0 : m 253 0 = 3 ∧ m 252 0 = 0 ∧ m 252 1 = 1 ∧ m 252 2 = 15) (q1 : m 253 1 = 3 ∧ m 252 160 = 2 ∧ m 252 161 = -6 ∧ m 252 162 = 17) (q2 : m 253 2 = 1 ∧ m 252 320 = 5) (hs : ∀ i, i < 4 → m 266 i = -1 ∧ m 267 i = 0) (hl : ∀ k, k < 53 → m 254 k = LTC.getD k 0) (hg : ∀ k, k < 13 → m 255 k = nI (BGN.getD k 0)) : InvM m (OM0 (a, b, c)) := by
  have e : ∀ k, k ≠ 0 → sg0 0 k = 0 := fun k hk => sg0_0 (Or.inr hk)
  refine ⟨⟨h0, by show _ = nI (sg0 0 1); rw [e 1 (by decide)]; exact h1, by show _ = nI (sg0 0 2); rw [e 2 (by decide)]; exact h5, by show _ = nI (sg0 0 3); rw [e 3 (by decide)]; exact h9, by show _ = nI (sg0 0 4); rw [e 4 (by decide)]; exact h14, fun w hw => ?_, fun r hr => ?_, fun i hi => ?_⟩, h39, fun k => absurd (show false = true from k) (by decide), h13, fun t ht p hp => ?_, h12, fun k hk => absurd hk (Nat.not_lt_zero _), fun i hi => ⟨(hs i hi).1, (hs i hi).2, fun k hk => absurd hk (Nat.not_lt_zero _)⟩, hl, hg⟩
  · have hw : w < sg0 0 1 := hw
    rw [e 1 (by decide)] at hw; exact absurd hw (Nat.not_lt_zero _)
  · have hr : r < sg0 0 2 := hr
    rw [e 2 (by decide)] at hr; exact absurd hr (Nat.not_lt_zero _)
  · have hi : i < sg0 0 3 := hi
    rw [e 3 (by decide)] at hi; exact absurd hi (Nat.not_lt_zero _)
  · have ht : t < 1 := ht
    have et : t = 0 := by omega
    subst et
    have key : ∀ (q : Nat) (x : FX) (cs : List Int32), CDS cs [] x → cs.length ≤ 160 → m 253 q = nI cs.length → (∀ k y, cs[k]? = some y → m 252 (160 * q + k) = y) → ∃ ds, MOK m q ds ∧ ∀ F, clI (mvl F ds) = clI (x F) := by
      intro q x cs k1 k2 k3 k4
      obtain ⟨ds, d1, d2⟩ := HD.MOK (m := m) (q := q) (e := x) ⟨cs, k1, k2, k3, k4⟩
      exact ⟨ds, d1, fun F => by rw [d2 F]⟩
    rcases (show p = 0 ∨ p = 1 ∨ p = 2 by omega) with e | e | e <;> subst e
    · refine key 0 a [0, 1, 15] ha (by decide) q0.1 (fun k y hk => ?_)
      rcases (show k = 0 ∨ k = 1 ∨ k = 2 by have := (List.getElem?_eq_some_iff.mp hk).1; have : k < 3 := this; omega) with e | e | e <;> subst e <;> cases hk
      · exact q0.2.1
      · exact q0.2.2.1
      · exact q0.2.2.2
    · refine key 1 b [2, -6, 17] hb (by decide) q1.1 (fun k y hk => ?_)
      rcases (show k = 0 ∨ k = 1 ∨ k = 2 by have := (List.getElem?_eq_some_iff.mp hk).1; have : k < 3 := this; omega) with e | e | e <;> subst e <;> cases hk
      · exact q1.2.1
      · exact q1.2.2.1
      · exact q1.2.2.2
    · refine key 2 c [5] hc (by decide) q2.1 (fun k y hk => ?_)
      rcases (show k = 0 by have := (List.getElem?_eq_some_iff.mp hk).1; have : k < 1 := this; omega) with e
      subst e
      cases hk
      exact q2.2
theorem InvC0 {m : Mem} {abc : FX × FX × FX} (h0 : m 1 0 = 1065233) (h4 : m 1 4 = 0) (h8 : m 1 8 = 0) (h10 : m 1 10 = 0) (h16 : m 16 1 = 0) (h2 : m 0 2 = 0) (hq : m 0 4 = 1) (ht : rdT m 199 abc) (h36 : m 36 1 = 0) (hs : ∀ i, i < 4 → m (235 + 2 * i) 1 = -1 ∧ m (235 + 2 * i) 2 = 0) : InvC m (OM0 abc) := by
  have e : ∀ k, k ≠ 0 → sg0 0 k = 0 := fun k hk => sg0_0 (Or.inr hk)
  refine ⟨⟨h0, by show _ = nI (sg0 0 1); rw [e 1 (by decide)]; exact h4, by show _ = nI (sg0 0 2); rw [e 2 (by decide)]; exact h8, by show _ = nI (sg0 0 4); rw [e 4 (by decide)]; exact h10, fun w hw => ?_, fun r hr => ?_, by show _ = nI (sg0 0 3); rw [e 3 (by decide)]; exact h16, fun i hi => ?_⟩, h2, fun k => absurd (show false = true from k) (by decide), hq, fun t ht1 => ?_, h36, fun k hk => absurd hk (Nat.not_lt_zero _), fun i hi => ⟨(hs i hi).1, (hs i hi).2, fun k hk => absurd hk (Nat.not_lt_zero _)⟩⟩
  · have hw : w < sg0 0 1 := hw
    rw [e 1 (by decide)] at hw; exact absurd hw (Nat.not_lt_zero _)
  · have hr : r < sg0 0 2 := hr
    rw [e 2 (by decide)] at hr; exact absurd hr (Nat.not_lt_zero _)
  · have hi : i < sg0 0 3 := hi
    rw [e 3 (by decide)] at hi; exact absurd hi (Nat.not_lt_zero _)
  · have ht1 : t < 1 := ht1
    have et : t = 0 := by omega
    subst et
    obtain ⟨en, x1, x2⟩ := ht
    refine ⟨en, x1, fun p hp F => ?_⟩
    obtain ⟨y1, y2, y3⟩ := x2 F
    show tellV m 199 en p F = txV abc p F
    unfold tellV txV
    rcases (show p = 0 ∨ p = 1 ∨ p = 2 by omega) with q | q | q <;> subst q
    · rw [y1]; rfl
    · rw [y2]; rfl
    · rw [y3]; rfl

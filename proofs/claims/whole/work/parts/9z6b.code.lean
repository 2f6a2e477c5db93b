-- ===== a long method's code among the words: its bytes compared as a list =====
theorem ba_eq {c c' : ByteArray} (h : c.data.toList = c'.data.toList) : c = c' := by
  cases c with
  | mk d => cases d with
    | mk k => cases c' with
      | mk d' => cases d' with
        | mk k' =>
          have h : k = k' := h
          rw [h]
def cdB (w : Option Cond) (μ : MI) : Bool := match w with
  | some (.code y c n r) => decide (y = μ.1) && (decide (c.data.toList = μ.2.1.data.toList) && (decide (n = μ.2.2.1) && decide (r = μ.2.2.2.1)))
  | _ => false
theorem cd_eq {w : Option Cond} {μ : MI} (h : cdB w μ = true) : w = some (.code μ.1 μ.2.1 μ.2.2.1 μ.2.2.2.1) := by
  unfold cdB at h
  split at h
  · simp only [Bool.and_eq_true, decide_eq_true_eq] at h
    obtain ⟨h1, h2, h3, h4⟩ := h
    rw [h1, ba_eq h2, h3, h4]
  · cases h
theorem w_1230 : lw_tbl[1230]? = some (.code (MIc 11).1 (MIc 11).2.1 (MIc 11).2.2.1 (MIc 11).2.2.2.1) := cd_eq (by decide +kernel)

-- ===== what the system is, as numbers =====
/-- 0: vowels, words, rules, row's size, law; 1 sizes, 2 weights, 3 kinds, 4 letters, 5 numbers of rules, 6 the row, 10 + w letters of a word -/
abbrev Sg : Type := Nat → Nat → Nat
def sU (σ : Sg) (a k v : Nat) : Sg := fun a' k' => if a' = a ∧ k' = k then v else σ a' k'
def wl (σ : Sg) (w : Nat) : List Nat := (List.range (σ 1 w)).map (σ (10 + w))
def rowL (σ : Sg) : List Nat := (List.range (σ 0 3)).map (σ 6)
def RepS (m : Mem) (S : Nat) (σ : Sg) : Prop :=
  m S 0 = nI (σ 0 0) ∧ m S 4 = nI (σ 0 1) ∧ m S 8 = nI (σ 0 2) ∧ m S 10 = nI (σ 0 4) ∧
  (∀ w, w < σ 0 1 → m (S + 10) w = nI (σ 1 w) ∧ m (S + 11) w = nI (σ 2 w) ∧ ∀ k, k < σ 1 w → m (S + 2 + w) k = nI (σ (10 + w) k)) ∧
  (∀ r, r < σ 0 2 → m (S + 12) r = nI (σ 3 r) ∧ m (S + 13) r = nI (σ 4 r) ∧ m (S + 14) r = nI (σ 5 r)) ∧
  m (S + 15) 1 = nI (σ 0 3) ∧ ∀ i, i < σ 0 3 → m (S + 16) i = nI (σ 6 i)
def WF (σ : Sg) : Prop :=
  σ 0 0 < 2 ^ 26 ∧ σ 0 1 ≤ 8 ∧ σ 0 2 ≤ 6 ∧ σ 0 3 ≤ 8 ∧ σ 0 4 < 6 ∧
  (∀ w, w < σ 0 1 → 1 ≤ σ 1 w ∧ σ 1 w ≤ 10 ∧ σ 2 w ≤ 99 ∧ ∀ k, k < σ 1 w → σ (10 + w) k < 26) ∧
  (∀ r, r < σ 0 2 → σ 3 r < 6 ∧ σ 4 r < 26 ∧ σ 5 r < 26) ∧ ∀ i, i < σ 0 3 → σ 6 i < σ 0 2
theorem RepS.fr {m m' : Mem} {S : Nat} {σ : Sg} (h : RepS m S σ) (hw : σ 0 1 ≤ 8) (hf : ∀ a, S ≤ a → a ≤ S + 16 → m' a = m a) : RepS m' S σ := by
  obtain ⟨h1, h2, h3, h4, h5, h6, h7, h8⟩ := h
  refine ⟨?_, ?_, ?_, ?_, fun w hw1 => ?_, fun r hr => ?_, ?_, fun i hi => ?_⟩
  · rw [hf S (by omega) (by omega)]; exact h1
  · rw [hf S (by omega) (by omega)]; exact h2
  · rw [hf S (by omega) (by omega)]; exact h3
  · rw [hf S (by omega) (by omega)]; exact h4
  · rw [hf (S + 10) (by omega) (by omega), hf (S + 11) (by omega) (by omega), hf (S + 2 + w) (by omega) (by omega)]; exact h5 w hw1
  · rw [hf (S + 12) (by omega) (by omega), hf (S + 13) (by omega) (by omega), hf (S + 14) (by omega) (by omega)]; exact h6 r hr
  · rw [hf (S + 15) (by omega) (by omega)]; exact h7
  · rw [hf (S + 16) (by omega) (by omega)]; exact h8 i hi
def turnS (σ : Sg) (r : Nat) (o : Option (List Nat)) : Option (List Nat) := o.bind (turnL (σ 0 0) (σ 3 r) (σ 4 r) (σ 5 r))
def sayR (σ : Sg) (rw : List Nat) (o : Option (List Nat)) : Option (List Nat) := rw.foldl (fun o r => turnS σ r o) o
def saidS (σ : Sg) (rw : List Nat) (w : Nat) : Option (List Nat) := sayR σ rw (some (wl σ w))
def WFo (o : Option (List Nat)) : Prop := ∀ xs, o = some xs → GL xs ∧ 1 ≤ xs.length ∧ xs.length ≤ 40
def WFr (σ : Sg) (rw : List Nat) : Prop := rw.length ≤ 8 ∧ ∀ r ∈ rw, r < σ 0 2
/-- a Row holds these rules -/
def RepR (m : Mem) (h : Nat) (rw : List Nat) : Prop := m h 1 = nI rw.length ∧ RLn (m (h + 1)) rw
theorem wl_len {σ : Sg} {w : Nat} : (wl σ w).length = σ 1 w := by simp [wl]
theorem wl_get {σ : Sg} {w k x : Nat} (h : (wl σ w)[k]? = some x) : k < σ 1 w ∧ x = σ (10 + w) k := by
  have hk : k < σ 1 w := by
    have := (List.getElem?_eq_some_iff.mp h).1
    rwa [wl_len] at this
  simp [wl, List.getElem?_range hk] at h
  exact ⟨hk, h.symm⟩
theorem wl_at {σ : Sg} {w k : Nat} (hk : k < σ 1 w) : (wl σ w)[k]? = some (σ (10 + w) k) := by simp [wl, List.getElem?_range hk]
theorem wl_wf {σ : Sg} (h : WF σ) {w : Nat} (hw : w < σ 0 1) : WFo (some (wl σ w)) := by
  intro xs e
  cases e
  obtain ⟨-, -, -, -, -, h6, -⟩ := h
  obtain ⟨a1, a2, -, a4⟩ := h6 w hw
  refine ⟨fun x hx => ?_, by rw [wl_len]; exact a1, by rw [wl_len]; omega⟩
  obtain ⟨k, hk⟩ := List.getElem?_of_mem hx
  obtain ⟨h1, rfl⟩ := wl_get hk
  exact a4 k h1
theorem turnS_wf {σ : Sg} (h : WF σ) {r : Nat} (hr : r < σ 0 2) {o : Option (List Nat)} (ho : WFo o) : WFo (turnS σ r o) := by
  intro ys e
  unfold turnS at e
  cases o with
  | none => cases e
  | some xs =>
    obtain ⟨g1, g2, g3⟩ := ho xs rfl
    have e : turnL (σ 0 0) (σ 3 r) (σ 4 r) (σ 5 r) xs = some ys := e
    obtain ⟨-, -, -, -, -, -, h7, -⟩ := h
    obtain ⟨q1, q2⟩ := turnL_len g3 e
    exact ⟨turnL_gl g1 (h7 r hr).2.1 e, by omega, q2⟩
theorem sayR_wf {σ : Sg} (h : WF σ) (rw : List Nat) (hr : ∀ r ∈ rw, r < σ 0 2) : ∀ {o : Option (List Nat)}, WFo o → WFo (sayR σ rw o) := by
  induction rw with
  | nil => intro o ho; exact ho
  | cons a r ih =>
    intro o ho
    exact ih (fun q hq => hr q (List.mem_cons_of_mem _ hq)) (turnS_wf h (hr a List.mem_cons_self) ho)
theorem sayR_take {σ : Sg} {rw : List Nat} {i r : Nat} {o : Option (List Nat)} (h : rw[i]? = some r) : sayR σ (rw.take (i + 1)) o = turnS σ r (sayR σ (rw.take i) o) := by
  unfold sayR
  rw [List.take_add_one, h, List.foldl_append]
  rfl
theorem rowL_len {σ : Sg} : (rowL σ).length = σ 0 3 := by simp [rowL]
theorem rowL_wf {σ : Sg} (h : WF σ) : WFr σ (rowL σ) := by
  obtain ⟨-, -, -, h4, -, -, -, h8⟩ := h
  refine ⟨by rw [rowL_len]; exact h4, fun r hr => ?_⟩
  obtain ⟨i, hi, rfl⟩ := List.mem_map.mp hr
  exact h8 i (List.mem_range.mp hi)
theorem RepS.row {m : Mem} {S : Nat} {σ : Sg} (h : RepS m S σ) : RepR m (S + 15) (rowL σ) := by
  obtain ⟨-, -, -, -, -, -, h7, h8⟩ := h
  refine ⟨by rw [rowL_len]; exact h7, fun k x hk => ?_⟩
  have hlt : k < σ 0 3 := by
    have := (List.getElem?_eq_some_iff.mp hk).1
    rwa [rowL_len] at this
  simp [rowL, List.getElem?_range hlt] at hk
  rw [← hk]
  exact h8 k hlt

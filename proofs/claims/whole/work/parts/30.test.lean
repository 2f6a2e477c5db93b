set_option maxRecDepth 10000 in
theorem t_isTooLong {l : Launch} {X : XT} {d : Nat} {h : Nat} {m : Mem} : Meth l X d M_X4_isTooLong [vR 5 h] m (fun r m' => r = some (vI (if m h 1 = -1 then 1 else 0)) ∧ m' = m) := by
  refine E_X4_isTooLong (ls := [vR 5 h]) rfl rfl ?_
  iterate 3 refine AW.s rfl ?_
  refine AW.b rfl (fun hc => ?_) (fun hc => ?_)
  · iterate 2 refine AW.s rfl ?_
    exact AW.ri rfl rfl rfl ⟨by rw [if_pos hc], rfl⟩
  · iterate 1 refine AW.s rfl ?_
    exact AW.ri rfl rfl rfl ⟨by rw [if_neg hc], rfl⟩

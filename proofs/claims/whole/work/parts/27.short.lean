section
variable {l : Launch} {X : XT} {d : Nat} {μ0 μ : MI} {Q0 Q : Option AV → Mem → Prop} {pc np tg idx n : Nat} {lit : Int32} {ls st As rest : List AV} {m : Mem}
theorem AW.V {t h : Nat} (hk : CVok μ0.2.2.2.2.1 idx μ n) (hM : Meth l X d μ (vR t h :: As) m Q) (hf : μ0.2.2.2.2.2.lookup pc = some (.invokevirtual idx, np, tg, lit)) (hs : splV n st = some (As, t, h, rest)) (ht : (Nat.ble 1 t && Nat.ble t 12) = true) (ht2 : Rn (t - 1) = μ.1.cls) (h41 : Nat.ble μ.2.2.1 41 = true) (hr8 : Nat.ble (rest.map catA).sum 8 = true)
    (kk : ∀ (r : Option AV) (m' : Mem), Q r m' → AW (GM l X (d + 1) μ0 Q0) np ls (r.toList ++ rest) m') : AW (GM l X (d + 1) μ0 Q0) pc ls st m := by
  rw [Bool.and_eq_true] at ht
  exact AW.callV (G := GM l X (d + 1) μ0 Q0) hf hs hk ⟨Nat.le_of_ble_eq_true ht.1, Nat.lt_succ_of_le (Nat.le_of_ble_eq_true ht.2), ht2⟩ (rR (Nat.le_of_ble_eq_true h41)) (Nat.le_of_ble_eq_true hr8) hM kk
theorem AW.S (hk : CSok μ0.2.2.2.2.1 idx μ n) (hM : Meth l X d μ As m Q) (hf : μ0.2.2.2.2.2.lookup pc = some (.invokestatic idx, np, tg, lit)) (hs : splS n st = some (As, rest)) (h41 : Nat.ble μ.2.2.1 41 = true) (hr8 : Nat.ble (rest.map catA).sum 8 = true)
    (kk : ∀ (r : Option AV) (m' : Mem), Q r m' → AW (GM l X (d + 1) μ0 Q0) np ls (r.toList ++ rest) m') : AW (GM l X (d + 1) μ0 Q0) pc ls st m :=
  AW.callS (G := GM l X (d + 1) μ0 Q0) hf hs hk (rR (Nat.le_of_ble_eq_true h41)) (Nat.le_of_ble_eq_true hr8) hM kk
theorem AW.N {host : String} (hk : CNok μ0.2.2.2.2.1 idx μ n host) (hM : Meth l X d μ As m Q) (hf : μ0.2.2.2.2.2.lookup pc = some (.invokestatic idx, np, tg, lit)) (hs : splS n st = some (As, rest)) (h41 : Nat.ble μ.2.2.1 41 = true) (hr8 : Nat.ble (rest.map catA).sum 8 = true)
    (kk : ∀ (r : Option AV) (m' : Mem), Q r m' → AW (GM l X (d + 1) μ0 Q0) np ls (r.toList ++ rest) m') : AW (GM l X (d + 1) μ0 Q0) pc ls st m :=
  AW.callN (G := GM l X (d + 1) μ0 Q0) hf hs hk (rR (Nat.le_of_ble_eq_true h41)) (Nat.le_of_ble_eq_true hr8) hM kk
theorem AW.cpy {t0 h0 t1 h1 : Nat} {sp dp n : Int32} (hk : GoodIn GT [.methodLink (Rn μ0.2.2.2.2.1) idx arraycopyName, .native arraycopyName, .static arraycopyName, .initialized "java/lang/System"]) (hf : μ0.2.2.2.2.2.lookup pc = some (.invokestatic idx, np, tg, lit)) (hr8 : Nat.ble (rest.map catA).sum 8 = true)
    (ht0 : (Nat.ble 1000 t0 && Nat.blt t0 4000) = true) (ht1 : (Nat.ble 1000 t1 && Nat.blt t1 4000) = true) (hs : ¬ sp < 0) (hd0 : ¬ dp < 0) (hn0 : ¬ n < 0) (h4 : sp.toNatClampNeg + n.toNatClampNeg ≤ t0 - 1000) (h5 : dp.toNatClampNeg + n.toNatClampNeg ≤ t1 - 1000)
    (k : AW (GM l X (d + 1) μ0 Q0) np ls rest (mSr m h1 (va_cpy (m h0) (m h1) sp.toNatClampNeg dp.toNatClampNeg n.toNatClampNeg))) : AW (GM l X (d + 1) μ0 Q0) pc ls (vI n :: vI dp :: vR t1 h1 :: vI sp :: vR t0 h0 :: rest) m := by
  rw [Bool.and_eq_true] at ht0 ht1
  exact AW.acopy (G := GM l X (d + 1) μ0 Q0) hf hk rR1 (Nat.le_of_ble_eq_true hr8) ⟨Nat.le_of_ble_eq_true ht0.1, by simpa using ht0.2⟩ ⟨Nat.le_of_ble_eq_true ht1.1, by simpa using ht1.2⟩ hs hd0 hn0 h4 h5 k
end

section
variable {G : GG} {pc np tg : Nat} {lit : Int32} {ls rest : List AV} {m : Mem} {idx : Nat}
theorem AW.mmax {x y : Int32} (hf : G.2.2.2.2.2.1.2.2.2.2.2.lookup pc = some (.invokestatic idx, np, tg, lit)) (hk : GoodIn GT [.methodLink (Rn G.2.2.2.2.2.1.2.2.2.2.1) idx Lib.Math.max.name, .static Lib.Math.max.name, .initialized "java/lang/Math", .code Lib.Math.max.name Lib.Math.max.code 2 (some .int)]) (hR : 1 ≤ G.2.2.1.frames ∧ 60 ≤ G.2.2.1.locals) (hr8 : (rest.map catA).sum ≤ 8)
    (k : AW G np ls (vI (if x < y then y else x) :: rest) m) : AW G pc ls (vI y :: vI x :: rest) m := by
  intro hl hol hos p e s mid args below meth co C H locs la hPw hS hL
  obtain ⟨hx, hb, -, hml, hown, hts, hlk, hK, hKS, hN, hbz, hc1, hc2, hok⟩ := id C
  obtain ⟨hd, hn⟩ := fetch_1 hok hf rfl
  have hn : np = pc + 3 := hn
  subst hn
  have ho := (okl_cons.mp (okl_cons.mp hos).2).2
  exact va_mmax hx hb (hml.trans (hL.1.trans hl).symm) hown (hts _ (hk _ (by simp)).1) (hts _ (hk _ (by simp)).1) (hts _ (hk _ (by simp)).1) (hts _ (hk _ (by simp)).1) hR.1 (by rw [catA_cv]; omega) hc1 hc2 hd (k hl hol (okl_cons.mpr ⟨trivial, ho⟩) p e s mid args below meth co C H locs la hPw hS hL)
theorem AW.mmin {x y : Int32} (hf : G.2.2.2.2.2.1.2.2.2.2.2.lookup pc = some (.invokestatic idx, np, tg, lit)) (hk : GoodIn GT [.methodLink (Rn G.2.2.2.2.2.1.2.2.2.2.1) idx Lib.Math.min.name, .static Lib.Math.min.name, .initialized "java/lang/Math", .code Lib.Math.min.name Lib.Math.min.code 2 (some .int)]) (hR : 1 ≤ G.2.2.1.frames ∧ 60 ≤ G.2.2.1.locals) (hr8 : (rest.map catA).sum ≤ 8)
    (k : AW G np ls (vI (if y < x then y else x) :: rest) m) : AW G pc ls (vI y :: vI x :: rest) m := by
  intro hl hol hos p e s mid args below meth co C H locs la hPw hS hL
  obtain ⟨hx, hb, -, hml, hown, hts, hlk, hK, hKS, hN, hbz, hc1, hc2, hok⟩ := id C
  obtain ⟨hd, hn⟩ := fetch_1 hok hf rfl
  have hn : np = pc + 3 := hn
  subst hn
  have ho := (okl_cons.mp (okl_cons.mp hos).2).2
  exact va_mmin hx hb (hml.trans (hL.1.trans hl).symm) hown (hts _ (hk _ (by simp)).1) (hts _ (hk _ (by simp)).1) (hts _ (hk _ (by simp)).1) (hts _ (hk _ (by simp)).1) hR.1 (by rw [catA_cv]; omega) hc1 hc2 hd (k hl hol (okl_cons.mpr ⟨trivial, ho⟩) p e s mid args below meth co C H locs la hPw hS hL)
theorem AW.acopy {t0 h0 t1 h1 : Nat} {sp dp n : Int32} (hf : G.2.2.2.2.2.1.2.2.2.2.2.lookup pc = some (.invokestatic idx, np, tg, lit)) (hk : GoodIn GT [.methodLink (Rn G.2.2.2.2.2.1.2.2.2.2.1) idx arraycopyName, .native arraycopyName, .static arraycopyName, .initialized "java/lang/System"]) (hR : 1 ≤ G.2.2.1.frames ∧ 60 ≤ G.2.2.1.locals) (hr8 : (rest.map catA).sum ≤ 8)
    (ht0 : 1000 ≤ t0 ∧ t0 < 4000) (ht1 : 1000 ≤ t1 ∧ t1 < 4000) (hs : ¬ sp < 0) (hd0 : ¬ dp < 0) (hn0 : ¬ n < 0) (h4 : sp.toNatClampNeg + n.toNatClampNeg ≤ t0 - 1000) (h5 : dp.toNatClampNeg + n.toNatClampNeg ≤ t1 - 1000)
    (k : AW G np ls rest (mSr m h1 (va_cpy (m h0) (m h1) sp.toNatClampNeg dp.toNatClampNeg n.toNatClampNeg))) : AW G pc ls (vI n :: vI dp :: vR t1 h1 :: vI sp :: vR t0 h0 :: rest) m := by
  intro hl hol hos p e s mid args below meth co C H locs la hPw hS hL
  obtain ⟨hx, hb, -, hml, hown, hts, hlk, hK, hKS, hN, hbz, hc1, hc2, hok⟩ := id C
  obtain ⟨hd, hn⟩ := fetch_1 hok hf rfl
  have hn : np = pc + 3 := hn
  subst hn
  have ho1 := okl_cons.mp (okl_cons.mp (okl_cons.mp hos).2).2
  have ho0 := okl_cons.mp (okl_cons.mp ho1.2).2
  obtain ⟨hh1, hlay1, hao1⟩ := aw_cell ho1.1 (by omega) (isX_gt (by omega))
  obtain ⟨hh0, hlay0, hao0⟩ := aw_cell ho0.1 (by omega) (isX_gt (by omega))
  show W _ _ _ _ _ _ _ _ _ _ _ _ _ _ _ (F0 mid pc la (.int n :: .int dp :: .ref (aof G.2.1 t1 h1) :: .int sp :: .ref (aof G.2.1 t0 h0) :: rest.map (cv G.2.1)))
  rw [hao1, hao0]
  have he0 : (wsOf G.2.1 m)[h0]? = some (xb G.2.1 + h0, .inl (xc G.2.1 0, t0 - 1000, .inl (m h0))) := by rw [ws_get _ _ hh0, cel_i hlay0 ht0.1 ht0.2]
  have he1 : (wsOf G.2.1 m)[h1]? = some (xb G.2.1 + h1, .inl (xc G.2.1 0, t1 - 1000, .inl (m h1))) := by rw [ws_get _ _ hh1, cel_i hlay1 ht1.1 ht1.2]
  have hset : ∀ f : Nat → Int32, (wsOf G.2.1 m).set h1 (xb G.2.1 + h1, .inl (xc G.2.1 0, t1 - 1000, .inl f)) = wsOf G.2.1 (mSr m h1 f) := by
    intro f
    rw [ws_row, cel_i hlay1 ht1.1 ht1.2, mSr_s]
  refine va_copyi hx hb (hml.trans (hL.1.trans hl).symm) hown (hts _ (hk _ (by simp)).1) (hts _ (hk _ (by simp)).1) (hts _ (hk _ (by simp)).1) (hts _ (hk _ (by simp)).1) hK hPw (ws_D _ _) hS h0 h1 0 0 he0 he1 rfl rfl rfl hs hd0 hn0 h4 h5 (fun _ _ => rfl) hR.1 ?_ hd (fun H1 locs1 hP1 hD1 hS1 => ?_)
  · rw [catA_cv]
    have : nativeFrameWords "java/lang/System" "arraycopy" 5 + 11 ≤ 52 := by decide +kernel
    omega
  · rw [hset] at hP1
    exact k hl hol ho0.2 p e s mid args below meth co C H1 locs1 la hP1 hS1 hL
end

theorem ctF_0 : ctF 0 := ⟨ok_X0_init, by decide +kernel, rfl, rfl, by decide, by decide, rfl⟩
theorem ct_0 {l : Launch} : CtorOK l 0 := ctor_of (n := 6) (pc := 12) (lsR := [vR 1 0]) ctF_0 (fun c _ _ h => absurd h (Nat.not_succ_le_zero _)) (by decide +kernel) (by decide +kernel) rfl
theorem ctF_2 : ctF 2 := ⟨ok_X2_init, by decide +kernel, rfl, rfl, by decide, by decide, rfl⟩
theorem ct_2 {l : Launch} : CtorOK l 2 := ctor_of (n := 2) (pc := 4) (lsR := [vR 3 0]) ctF_2 (fun c _ _ h => absurd h (Nat.not_succ_le_zero _)) (by decide +kernel) (by decide +kernel) rfl
theorem ctF_3 : ctF 3 := ⟨ok_X3_init, by decide +kernel, rfl, rfl, by decide, by decide, rfl⟩
theorem ct_3 {l : Launch} : CtorOK l 3 := ctor_of (n := 6) (pc := 12) (lsR := [vR 4 0]) ctF_3 (fun c _ _ h => absurd h (Nat.not_succ_le_zero _)) (by decide +kernel) (by decide +kernel) rfl
theorem ctF_4 : ctF 4 := ⟨ok_X4_init, by decide +kernel, rfl, rfl, by decide, by decide, rfl⟩
theorem ct_4 {l : Launch} : CtorOK l 4 := ctor_of (n := 6) (pc := 12) (lsR := [vR 5 0]) ctF_4 (fun c _ _ h => absurd h (Nat.not_succ_le_zero _)) (by decide +kernel) (by decide +kernel) rfl
theorem ctF_6 : ctF 6 := ⟨ok_X6_init, by decide +kernel, rfl, rfl, by decide, by decide, rfl⟩
theorem ct_6 {l : Launch} : CtorOK l 6 := ctor_of (n := 9) (pc := 17) (lsR := [vR 7 0]) ctF_6 (fun c _ _ h => absurd h (Nat.not_succ_le_zero _)) (by decide +kernel) (by decide +kernel) rfl
theorem ctF_8 : ctF 8 := ⟨ok_X8_init, by decide +kernel, rfl, rfl, by decide, by decide, rfl⟩
theorem ct_8 {l : Launch} : CtorOK l 8 := ctor_of (n := 18) (pc := 40) (lsR := [vR 9 0]) ctF_8 (fun c _ _ h => absurd h (Nat.not_succ_le_zero _)) (by decide +kernel) (by decide +kernel) rfl
theorem ctF_9 : ctF 9 := ⟨ok_X9_init, by decide +kernel, rfl, rfl, by decide, by decide, rfl⟩
theorem ct_9 {l : Launch} : CtorOK l 9 := ctor_of (n := 22) (pc := 47) (lsR := [vR 10 0]) ctF_9 (fun c _ _ h => absurd h (Nat.not_succ_le_zero _)) (by decide +kernel) (by decide +kernel) rfl
theorem ctF_11 : ctF 11 := ⟨ok_X11_init, by decide +kernel, rfl, rfl, by decide, by decide, rfl⟩
set_option maxRecDepth 100000 in
theorem ct_11 {l : Launch} : CtorOK l 11 := ctor_of (n := 442) (pc := 707) (lsR := [vR 12 0]) ctF_11 (fun c _ _ h => absurd h (Nat.not_succ_le_zero _)) (by decide +kernel) (by decide +kernel) rfl
theorem ctF_5 : ctF 5 := ⟨ok_X5_init, by decide +kernel, rfl, rfl, by decide, by decide, rfl⟩
theorem ct_5 {l : Launch} (hlv : ∀ c, c < 12 → c ≠ 10 → LVL c + 1 ≤ 1 → CtorOK l c) : CtorOK l 5 := ctor_of (n := 107) (pc := 40) (lsR := [vR 6 0, vI 8]) ctF_5 hlv (by decide +kernel) (by decide +kernel) rfl
theorem ctF_1 : ctF 1 := ⟨ok_X1_init, by decide +kernel, rfl, rfl, by decide, by decide, rfl⟩
theorem ct_1 {l : Launch} (hlv : ∀ c, c < 12 → c ≠ 10 → LVL c + 1 ≤ 2 → CtorOK l c) : CtorOK l 1 := ctor_of (n := 105) (pc := 62) (lsR := [vR 2 0, vI 7]) ctF_1 hlv (by decide +kernel) (by decide +kernel) rfl

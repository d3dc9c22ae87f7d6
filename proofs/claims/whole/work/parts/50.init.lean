/-! Constructors. -/
noncomputable def X8_init_f (τ : Tau) (σ : Sig) (nx : Nat) (a : Nat) : Option (Hp) := some (τ, σ, nx)
set_option maxRecDepth 4000 in
set_option maxHeartbeats 1000000 in
theorem X8_init_ok {D : Nat} {τ : Tau} {σ : Sig} {nx : Nat} {a : Nat} {rh : Hp} (hD : 1 ≤ D) (H : X8_init_f τ σ nx a = some rh) : Ok D 0 0 yX8_init cX8_init 1 none [.ref a] (τ, σ, nx) none rh := by
  refine ok_of (by decide +kernel) rfl (Nat.le_of_ble_eq_true rfl) (fun K X hF hE hN L0 hL0 => ?_)
  obtain rfl : [some (.ref a)] = L0 := hL0
  have hF : Fx K X cX8_init 1 RX8 D 0 0 := hF
  refine g_p (S' := [.ref a]) hF tX8_init_ok 0 1 rfl rfl rfl rfl ?_
  refine g_oi hF mlX8_3 (dAt tX8_init_ok 1 rfl rfl) (by omega) (Nat.le_of_ble_eq_true rfl) ?_
  exact g_vret hF (en_vh H hE) (dAt tX8_init_ok 2 rfl rfl) (by decide) (by decide)
noncomputable def X4_init_f (τ : Tau) (σ : Sig) (nx : Nat) (a : Nat) : Option (Hp) := (nwI 12 12).bind fun N1 => (dR (al τ nx (.inr (.inl N1))) 4 a 1 (some nx)).bind fun t3 => (nwI 12 12).bind fun N5 => (dR (al t3 (nx + 1) (.inr (.inl N5))) 4 a 2 (some (nx + 1))).bind fun t7 => (nwI 12 12).bind fun N9 => (dR (al t7 (nx + 2) (.inr (.inl N9))) 4 a 3 (some (nx + 2))).bind fun t11 => (nwI 12 12).bind fun N13 => (dR (al t11 (nx + 3) (.inr (.inl N13))) 4 a 4 (some (nx + 3))).bind fun t15 => (nwI 12 12).bind fun N17 => (dR (al t15 (nx + 4) (.inr (.inl N17))) 4 a 5 (some (nx + 4))).bind fun t19 => (nwI 12 12).bind fun N21 => (dR (al t19 (nx + 5) (.inr (.inl N21))) 4 a 6 (some (nx + 5))).bind fun t23 => (nwI 12 12).bind fun N25 => (dR (al t23 (nx + 6) (.inr (.inl N25))) 4 a 7 (some (nx + 6))).bind fun t27 => (nwI 12 12).bind fun N29 => (dR (al t27 (nx + 7) (.inr (.inl N29))) 4 a 8 (some (nx + 7))).bind fun t31 => (nwI 12 12).bind fun N33 => (dR (al t31 (nx + 8) (.inr (.inl N33))) 4 a 9 (some (nx + 8))).bind fun t35 => (nwI 12 12).bind fun N37 => (dR (al t35 (nx + 9) (.inr (.inl N37))) 4 a 10 (some (nx + 9))).bind fun t39 => some (t39, (zr (zr (zr (zr (zr (zr (zr (zr (zr (zr σ nx) (nx + 1)) (nx + 2)) (nx + 3)) (nx + 4)) (nx + 5)) (nx + 6)) (nx + 7)) (nx + 8)) (nx + 9)), (nx + 10))
set_option maxRecDepth 4000 in
set_option maxHeartbeats 1000000 in
theorem X4_init_ok {D : Nat} {τ : Tau} {σ : Sig} {nx : Nat} {a : Nat} {rh : Hp} (hD : 1 ≤ D) (H : X4_init_f τ σ nx a = some rh) : Ok D 10 120 yX4_init cX4_init 1 none [.ref a] (τ, σ, nx) none rh := by
  refine ok_of (by decide +kernel) rfl (Nat.le_of_ble_eq_true rfl) (fun K X hF hE hN L0 hL0 => ?_)
  obtain rfl : [some (.ref a)] = L0 := hL0
  have hF : Fx K X cX4_init 1 RX4 D 10 120 := hF
  refine g_p (S' := [.ref a]) hF tX4_init_ok 0 1 rfl rfl rfl rfl ?_
  refine g_oi hF mlX4_3 (dAt tX4_init_ok 1 rfl rfl) (by omega) (Nat.le_of_ble_eq_true rfl) ?_
  refine g_p (S' := [.int 12, .ref a]) hF tX4_init_ok 2 2 rfl rfl rfl rfl ?_
  obtain ⟨N1, e2, H⟩ := ob H
  obtain ⟨pe2, qe2, re2⟩ := nwI_some e2
  refine g_newI (M := 12) hF (dAt tX4_init_ok 4 rfl rfl) ac_int pe2 qe2 re2 (by decide) (by decide) (by decide) ?_
  obtain ⟨t3, e4, H⟩ := ob H
  refine g_dpR (some nx) hF (dAt tX4_init_ok 5 rfl rfl) flX4_9 (Or.inr ⟨rfl, hN, _, _, rfl⟩) (Or.inr ⟨_, rfl⟩) e4 ?_
  refine g_p (S' := [.int 12, .ref a]) hF tX4_init_ok 6 2 rfl rfl rfl rfl ?_
  obtain ⟨N5, e6, H⟩ := ob H
  obtain ⟨pe6, qe6, re6⟩ := nwI_some e6
  refine g_newI (M := 12) hF (dAt tX4_init_ok 8 rfl rfl) ac_int pe6 qe6 re6 (by decide) (by decide) (by decide) ?_
  obtain ⟨t7, e8, H⟩ := ob H
  refine g_dpR (some (nx + 1)) hF (dAt tX4_init_ok 9 rfl rfl) flX4_15 (Or.inr ⟨rfl, hN, _, _, rfl⟩) (Or.inr ⟨_, rfl⟩) e8 ?_
  refine g_p (S' := [.int 12, .ref a]) hF tX4_init_ok 10 2 rfl rfl rfl rfl ?_
  obtain ⟨N9, e10, H⟩ := ob H
  obtain ⟨pe10, qe10, re10⟩ := nwI_some e10
  refine g_newI (M := 12) hF (dAt tX4_init_ok 12 rfl rfl) ac_int pe10 qe10 re10 (by decide) (by decide) (by decide) ?_
  obtain ⟨t11, e12, H⟩ := ob H
  refine g_dpR (some (nx + 2)) hF (dAt tX4_init_ok 13 rfl rfl) flX4_18 (Or.inr ⟨rfl, hN, _, _, rfl⟩) (Or.inr ⟨_, rfl⟩) e12 ?_
  refine g_p (S' := [.int 12, .ref a]) hF tX4_init_ok 14 2 rfl rfl rfl rfl ?_
  obtain ⟨N13, e14, H⟩ := ob H
  obtain ⟨pe14, qe14, re14⟩ := nwI_some e14
  refine g_newI (M := 12) hF (dAt tX4_init_ok 16 rfl rfl) ac_int pe14 qe14 re14 (by decide) (by decide) (by decide) ?_
  obtain ⟨t15, e16, H⟩ := ob H
  refine g_dpR (some (nx + 3)) hF (dAt tX4_init_ok 17 rfl rfl) flX4_21 (Or.inr ⟨rfl, hN, _, _, rfl⟩) (Or.inr ⟨_, rfl⟩) e16 ?_
  refine g_p (S' := [.int 12, .ref a]) hF tX4_init_ok 18 2 rfl rfl rfl rfl ?_
  obtain ⟨N17, e18, H⟩ := ob H
  obtain ⟨pe18, qe18, re18⟩ := nwI_some e18
  refine g_newI (M := 12) hF (dAt tX4_init_ok 20 rfl rfl) ac_int pe18 qe18 re18 (by decide) (by decide) (by decide) ?_
  obtain ⟨t19, e20, H⟩ := ob H
  refine g_dpR (some (nx + 4)) hF (dAt tX4_init_ok 21 rfl rfl) flX4_24 (Or.inr ⟨rfl, hN, _, _, rfl⟩) (Or.inr ⟨_, rfl⟩) e20 ?_
  refine g_p (S' := [.int 12, .ref a]) hF tX4_init_ok 22 2 rfl rfl rfl rfl ?_
  obtain ⟨N21, e22, H⟩ := ob H
  obtain ⟨pe22, qe22, re22⟩ := nwI_some e22
  refine g_newI (M := 12) hF (dAt tX4_init_ok 24 rfl rfl) ac_int pe22 qe22 re22 (by decide) (by decide) (by decide) ?_
  obtain ⟨t23, e24, H⟩ := ob H
  refine g_dpR (some (nx + 5)) hF (dAt tX4_init_ok 25 rfl rfl) flX4_27 (Or.inr ⟨rfl, hN, _, _, rfl⟩) (Or.inr ⟨_, rfl⟩) e24 ?_
  refine g_p (S' := [.int 12, .ref a]) hF tX4_init_ok 26 2 rfl rfl rfl rfl ?_
  obtain ⟨N25, e26, H⟩ := ob H
  obtain ⟨pe26, qe26, re26⟩ := nwI_some e26
  refine g_newI (M := 12) hF (dAt tX4_init_ok 28 rfl rfl) ac_int pe26 qe26 re26 (by decide) (by decide) (by decide) ?_
  obtain ⟨t27, e28, H⟩ := ob H
  refine g_dpR (some (nx + 6)) hF (dAt tX4_init_ok 29 rfl rfl) flX4_30 (Or.inr ⟨rfl, hN, _, _, rfl⟩) (Or.inr ⟨_, rfl⟩) e28 ?_
  refine g_p (S' := [.int 12, .ref a]) hF tX4_init_ok 30 2 rfl rfl rfl rfl ?_
  obtain ⟨N29, e30, H⟩ := ob H
  obtain ⟨pe30, qe30, re30⟩ := nwI_some e30
  refine g_newI (M := 12) hF (dAt tX4_init_ok 32 rfl rfl) ac_int pe30 qe30 re30 (by decide) (by decide) (by decide) ?_
  obtain ⟨t31, e32, H⟩ := ob H
  refine g_dpR (some (nx + 7)) hF (dAt tX4_init_ok 33 rfl rfl) flX4_33 (Or.inr ⟨rfl, hN, _, _, rfl⟩) (Or.inr ⟨_, rfl⟩) e32 ?_
  refine g_p (S' := [.int 12, .ref a]) hF tX4_init_ok 34 2 rfl rfl rfl rfl ?_
  obtain ⟨N33, e34, H⟩ := ob H
  obtain ⟨pe34, qe34, re34⟩ := nwI_some e34
  refine g_newI (M := 12) hF (dAt tX4_init_ok 36 rfl rfl) ac_int pe34 qe34 re34 (by decide) (by decide) (by decide) ?_
  obtain ⟨t35, e36, H⟩ := ob H
  refine g_dpR (some (nx + 8)) hF (dAt tX4_init_ok 37 rfl rfl) flX4_36 (Or.inr ⟨rfl, hN, _, _, rfl⟩) (Or.inr ⟨_, rfl⟩) e36 ?_
  refine g_p (S' := [.int 12, .ref a]) hF tX4_init_ok 38 2 rfl rfl rfl rfl ?_
  obtain ⟨N37, e38, H⟩ := ob H
  obtain ⟨pe38, qe38, re38⟩ := nwI_some e38
  refine g_newI (M := 12) hF (dAt tX4_init_ok 40 rfl rfl) ac_int pe38 qe38 re38 (by decide) (by decide) (by decide) ?_
  obtain ⟨t39, e40, H⟩ := ob H
  refine g_dpR (some (nx + 9)) hF (dAt tX4_init_ok 41 rfl rfl) flX4_39 (Or.inr ⟨rfl, hN, _, _, rfl⟩) (Or.inr ⟨_, rfl⟩) e40 ?_
  exact g_vret hF (en_vh H hE) (dAt tX4_init_ok 42 rfl rfl) (by decide) (by decide)
noncomputable def X3_init_f (τ : Tau) (σ : Sig) (nx : Nat) (a : Nat) : Option (Hp) := (nwI 40 40).bind fun N1 => (dR (al τ nx (.inr (.inl N1))) 3 a 1 (some nx)).bind fun t3 => (nwI 40 40).bind fun N5 => (dR (al t3 (nx + 1) (.inr (.inl N5))) 3 a 2 (some (nx + 1))).bind fun t7 => (nwI 40 40).bind fun N9 => (dR (al t7 (nx + 2) (.inr (.inl N9))) 3 a 3 (some (nx + 2))).bind fun t11 => (nwI 40 40).bind fun N13 => (dR (al t11 (nx + 3) (.inr (.inl N13))) 3 a 4 (some (nx + 3))).bind fun t15 => (nwI 40 40).bind fun N17 => (dR (al t15 (nx + 4) (.inr (.inl N17))) 3 a 5 (some (nx + 4))).bind fun t19 => (nwI 40 40).bind fun N21 => (dR (al t19 (nx + 5) (.inr (.inl N21))) 3 a 6 (some (nx + 5))).bind fun t23 => (nwI 40 40).bind fun N25 => (dR (al t23 (nx + 6) (.inr (.inl N25))) 3 a 7 (some (nx + 6))).bind fun t27 => (nwI 40 40).bind fun N29 => (dR (al t27 (nx + 7) (.inr (.inl N29))) 3 a 8 (some (nx + 7))).bind fun t31 => (nwI 12 12).bind fun N33 => (dR (al t31 (nx + 8) (.inr (.inl N33))) 3 a 9 (some (nx + 8))).bind fun t35 => (nwI 12 12).bind fun N37 => (dR (al t35 (nx + 9) (.inr (.inl N37))) 3 a 10 (some (nx + 9))).bind fun t39 => some (t39, (zr (zr (zr (zr (zr (zr (zr (zr (zr (zr σ nx) (nx + 1)) (nx + 2)) (nx + 3)) (nx + 4)) (nx + 5)) (nx + 6)) (nx + 7)) (nx + 8)) (nx + 9)), (nx + 10))
set_option maxRecDepth 4000 in
set_option maxHeartbeats 1000000 in
theorem X3_init_ok {D : Nat} {τ : Tau} {σ : Sig} {nx : Nat} {a : Nat} {rh : Hp} (hD : 1 ≤ D) (H : X3_init_f τ σ nx a = some rh) : Ok D 10 344 yX3_init cX3_init 1 none [.ref a] (τ, σ, nx) none rh := by
  refine ok_of (by decide +kernel) rfl (Nat.le_of_ble_eq_true rfl) (fun K X hF hE hN L0 hL0 => ?_)
  obtain rfl : [some (.ref a)] = L0 := hL0
  have hF : Fx K X cX3_init 1 RX3 D 10 344 := hF
  refine g_p (S' := [.ref a]) hF tX3_init_ok 0 1 rfl rfl rfl rfl ?_
  refine g_oi hF mlX3_3 (dAt tX3_init_ok 1 rfl rfl) (by omega) (Nat.le_of_ble_eq_true rfl) ?_
  refine g_p (S' := [.int 40, .ref a]) hF tX3_init_ok 2 2 rfl rfl rfl rfl ?_
  obtain ⟨N1, e2, H⟩ := ob H
  obtain ⟨pe2, qe2, re2⟩ := nwI_some e2
  refine g_newI (M := 40) hF (dAt tX3_init_ok 4 rfl rfl) ac_int pe2 qe2 re2 (by decide) (by decide) (by decide) ?_
  obtain ⟨t3, e4, H⟩ := ob H
  refine g_dpR (some nx) hF (dAt tX3_init_ok 5 rfl rfl) flX3_9 (Or.inr ⟨rfl, hN, _, _, rfl⟩) (Or.inr ⟨_, rfl⟩) e4 ?_
  refine g_p (S' := [.int 40, .ref a]) hF tX3_init_ok 6 2 rfl rfl rfl rfl ?_
  obtain ⟨N5, e6, H⟩ := ob H
  obtain ⟨pe6, qe6, re6⟩ := nwI_some e6
  refine g_newI (M := 40) hF (dAt tX3_init_ok 8 rfl rfl) ac_int pe6 qe6 re6 (by decide) (by decide) (by decide) ?_
  obtain ⟨t7, e8, H⟩ := ob H
  refine g_dpR (some (nx + 1)) hF (dAt tX3_init_ok 9 rfl rfl) flX3_15 (Or.inr ⟨rfl, hN, _, _, rfl⟩) (Or.inr ⟨_, rfl⟩) e8 ?_
  refine g_p (S' := [.int 40, .ref a]) hF tX3_init_ok 10 2 rfl rfl rfl rfl ?_
  obtain ⟨N9, e10, H⟩ := ob H
  obtain ⟨pe10, qe10, re10⟩ := nwI_some e10
  refine g_newI (M := 40) hF (dAt tX3_init_ok 12 rfl rfl) ac_int pe10 qe10 re10 (by decide) (by decide) (by decide) ?_
  obtain ⟨t11, e12, H⟩ := ob H
  refine g_dpR (some (nx + 2)) hF (dAt tX3_init_ok 13 rfl rfl) flX3_18 (Or.inr ⟨rfl, hN, _, _, rfl⟩) (Or.inr ⟨_, rfl⟩) e12 ?_
  refine g_p (S' := [.int 40, .ref a]) hF tX3_init_ok 14 2 rfl rfl rfl rfl ?_
  obtain ⟨N13, e14, H⟩ := ob H
  obtain ⟨pe14, qe14, re14⟩ := nwI_some e14
  refine g_newI (M := 40) hF (dAt tX3_init_ok 16 rfl rfl) ac_int pe14 qe14 re14 (by decide) (by decide) (by decide) ?_
  obtain ⟨t15, e16, H⟩ := ob H
  refine g_dpR (some (nx + 3)) hF (dAt tX3_init_ok 17 rfl rfl) flX3_21 (Or.inr ⟨rfl, hN, _, _, rfl⟩) (Or.inr ⟨_, rfl⟩) e16 ?_
  refine g_p (S' := [.int 40, .ref a]) hF tX3_init_ok 18 2 rfl rfl rfl rfl ?_
  obtain ⟨N17, e18, H⟩ := ob H
  obtain ⟨pe18, qe18, re18⟩ := nwI_some e18
  refine g_newI (M := 40) hF (dAt tX3_init_ok 20 rfl rfl) ac_int pe18 qe18 re18 (by decide) (by decide) (by decide) ?_
  obtain ⟨t19, e20, H⟩ := ob H
  refine g_dpR (some (nx + 4)) hF (dAt tX3_init_ok 21 rfl rfl) flX3_24 (Or.inr ⟨rfl, hN, _, _, rfl⟩) (Or.inr ⟨_, rfl⟩) e20 ?_
  refine g_p (S' := [.int 40, .ref a]) hF tX3_init_ok 22 2 rfl rfl rfl rfl ?_
  obtain ⟨N21, e22, H⟩ := ob H
  obtain ⟨pe22, qe22, re22⟩ := nwI_some e22
  refine g_newI (M := 40) hF (dAt tX3_init_ok 24 rfl rfl) ac_int pe22 qe22 re22 (by decide) (by decide) (by decide) ?_
  obtain ⟨t23, e24, H⟩ := ob H
  refine g_dpR (some (nx + 5)) hF (dAt tX3_init_ok 25 rfl rfl) flX3_27 (Or.inr ⟨rfl, hN, _, _, rfl⟩) (Or.inr ⟨_, rfl⟩) e24 ?_
  refine g_p (S' := [.int 40, .ref a]) hF tX3_init_ok 26 2 rfl rfl rfl rfl ?_
  obtain ⟨N25, e26, H⟩ := ob H
  obtain ⟨pe26, qe26, re26⟩ := nwI_some e26
  refine g_newI (M := 40) hF (dAt tX3_init_ok 28 rfl rfl) ac_int pe26 qe26 re26 (by decide) (by decide) (by decide) ?_
  obtain ⟨t27, e28, H⟩ := ob H
  refine g_dpR (some (nx + 6)) hF (dAt tX3_init_ok 29 rfl rfl) flX3_30 (Or.inr ⟨rfl, hN, _, _, rfl⟩) (Or.inr ⟨_, rfl⟩) e28 ?_
  refine g_p (S' := [.int 40, .ref a]) hF tX3_init_ok 30 2 rfl rfl rfl rfl ?_
  obtain ⟨N29, e30, H⟩ := ob H
  obtain ⟨pe30, qe30, re30⟩ := nwI_some e30
  refine g_newI (M := 40) hF (dAt tX3_init_ok 32 rfl rfl) ac_int pe30 qe30 re30 (by decide) (by decide) (by decide) ?_
  obtain ⟨t31, e32, H⟩ := ob H
  refine g_dpR (some (nx + 7)) hF (dAt tX3_init_ok 33 rfl rfl) flX3_33 (Or.inr ⟨rfl, hN, _, _, rfl⟩) (Or.inr ⟨_, rfl⟩) e32 ?_
  refine g_p (S' := [.int 12, .ref a]) hF tX3_init_ok 34 2 rfl rfl rfl rfl ?_
  obtain ⟨N33, e34, H⟩ := ob H
  obtain ⟨pe34, qe34, re34⟩ := nwI_some e34
  refine g_newI (M := 12) hF (dAt tX3_init_ok 36 rfl rfl) ac_int pe34 qe34 re34 (by decide) (by decide) (by decide) ?_
  obtain ⟨t35, e36, H⟩ := ob H
  refine g_dpR (some (nx + 8)) hF (dAt tX3_init_ok 37 rfl rfl) flX3_36 (Or.inr ⟨rfl, hN, _, _, rfl⟩) (Or.inr ⟨_, rfl⟩) e36 ?_
  refine g_p (S' := [.int 12, .ref a]) hF tX3_init_ok 38 2 rfl rfl rfl rfl ?_
  obtain ⟨N37, e38, H⟩ := ob H
  obtain ⟨pe38, qe38, re38⟩ := nwI_some e38
  refine g_newI (M := 12) hF (dAt tX3_init_ok 40 rfl rfl) ac_int pe38 qe38 re38 (by decide) (by decide) (by decide) ?_
  obtain ⟨t39, e40, H⟩ := ob H
  refine g_dpR (some (nx + 9)) hF (dAt tX3_init_ok 41 rfl rfl) flX3_39 (Or.inr ⟨rfl, hN, _, _, rfl⟩) (Or.inr ⟨_, rfl⟩) e40 ?_
  exact g_vret hF (en_vh H hE) (dAt tX3_init_ok 42 rfl rfl) (by decide) (by decide)
noncomputable def X9_init_b41 (a : Nat) : Nat → Int32 → Tau → Sig → Nat → Option (Hp)
  | 0, _, _, _, _ => none
  | fu + 1, x1, τ, σ, nx => if 6 ≤ x1 then (some (τ, σ, nx)) else ((gRs τ 9 a 0).bind fun b2 => (stD τ σ b2 ((x1 * 6) + x1) 0).bind fun s4 => X9_init_b41 a fu (x1 + 1) τ s4 nx)
set_option maxRecDepth 4000 in
set_option maxHeartbeats 1000000 in
theorem X9_init_b41_ok {K : Kt} {X : Cx} {D : Nat} {a : Nat} {rh : Hp} (hD : 2 ≤ D) (hF : Fx K X cX9_init 2 RX9 D 2 60) (hN : (xh X).name = "<init>") (hE : En K X none 2 60 none rh) : ∀ (fu : Nat) (x1 : Int32) (τ : Tau) (σ : Sig) (nx : Nat), X9_init_b41 a fu x1 τ σ nx = some rh → G K X 2 2 60 41 [some (.ref a), some (.int x1)] [] (τ, σ, nx)
  | 0, _, _, _, _, H => nomatch H
  | fu + 1, x1, τ, σ, nx, H => by
    refine g_p (S' := [.int 6, .int x1]) hF tX9_init_ok 22 2 rfl rfl rfl rfl ?_
    obtain ⟨Ht1, Hf1⟩ := oi H
    refine g_icmp_ge hF (dAt tX9_init_ok 24 rfl rfl) rfl (fun c1 => ?_) (fun c1 => ?_)
    · have H := Ht1 c1
      exact g_vret hF (en_vh H hE) (dAt tX9_init_ok 36 rfl rfl) (by decide) (by decide)
    · have H := Hf1 c1
      refine g_p (S' := [.ref a]) hF tX9_init_ok 25 1 rfl rfl rfl rfl ?_
      obtain ⟨b2, e3, H⟩ := ob H
      refine g_dgR hF (dAt tX9_init_ok 26 rfl rfl) flX9_9 e3 ?_
      refine g_p (S' := [.int 0, .int ((x1 * 6) + x1), .ref b2]) hF tX9_init_ok 27 6 rfl rfl rfl rfl ?_
      obtain ⟨s4, e5, H⟩ := ob H
      refine g_dist hF (dAt tX9_init_ok 33 rfl rfl) e5 ?_
      refine g_p (L' := [some (.ref a), some (.int (x1 + 1))]) (S' := []) hF tX9_init_ok 34 1 rfl rfl rfl rfl ?_
      refine g_goto hF (dAt tX9_init_ok 35 rfl rfl) rfl ?_
      exact X9_init_b41_ok hD hF hN hE fu _ _ _ _ H
noncomputable def X9_init_f (τ : Tau) (σ : Sig) (nx : Nat) (a : Nat) : Option (Hp) := (nwI 36 36).bind fun N1 => (dR (al τ nx (.inr (.inl N1))) 9 a 0 (some nx)).bind fun t3 => (nwI 24 24).bind fun N5 => (dR (al t3 (nx + 1) (.inr (.inl N5))) 9 a 1 (some (nx + 1))).bind fun t7 => (dI t7 (zr (zr σ nx) (nx + 1)) 9 a 2 (-1)).bind fun s9 => (dI t7 s9 9 a 3 5).bind fun s11 => (gRs t7 9 a 0).bind fun b13 => chk (t7 b13 = some (.inr (.inl (tl t7 b13 0)))) ((J7_fill_53178_f b13 (tl t7 b13 0) 20 s11).bind fun s16 => X9_init_b41 a FU 0 t7 s16 (nx + 2))
set_option maxRecDepth 4000 in
set_option maxHeartbeats 1000000 in
theorem X9_init_ok {D : Nat} {τ : Tau} {σ : Sig} {nx : Nat} {a : Nat} {rh : Hp} (hD : 2 ≤ D) (H : X9_init_f τ σ nx a = some rh) : Ok D 2 60 yX9_init cX9_init 2 none [.ref a] (τ, σ, nx) none rh := by
  refine ok_of (by decide +kernel) rfl (Nat.le_of_ble_eq_true rfl) (fun K X hF hE hN L0 hL0 => ?_)
  obtain rfl : [some (.ref a), none] = L0 := hL0
  have hF : Fx K X cX9_init 2 RX9 D 2 60 := hF
  refine g_p (S' := [.ref a]) hF tX9_init_ok 0 1 rfl rfl rfl rfl ?_
  refine g_oi hF mlX9_3 (dAt tX9_init_ok 1 rfl rfl) (by omega) (Nat.le_of_ble_eq_true rfl) ?_
  refine g_p (S' := [.int 36, .ref a]) hF tX9_init_ok 2 2 rfl rfl rfl rfl ?_
  obtain ⟨N1, e2, H⟩ := ob H
  obtain ⟨pe2, qe2, re2⟩ := nwI_some e2
  refine g_newI (M := 36) hF (dAt tX9_init_ok 4 rfl rfl) ac_int pe2 qe2 re2 (by decide) (by decide) (by decide) ?_
  obtain ⟨t3, e4, H⟩ := ob H
  refine g_dpR (some nx) hF (dAt tX9_init_ok 5 rfl rfl) flX9_9 (Or.inr ⟨rfl, hN, _, _, rfl⟩) (Or.inr ⟨_, rfl⟩) e4 ?_
  refine g_p (S' := [.int 24, .ref a]) hF tX9_init_ok 6 2 rfl rfl rfl rfl ?_
  obtain ⟨N5, e6, H⟩ := ob H
  obtain ⟨pe6, qe6, re6⟩ := nwI_some e6
  refine g_newI (M := 24) hF (dAt tX9_init_ok 8 rfl rfl) ac_int pe6 qe6 re6 (by decide) (by decide) (by decide) ?_
  obtain ⟨t7, e8, H⟩ := ob H
  refine g_dpR (some (nx + 1)) hF (dAt tX9_init_ok 9 rfl rfl) flX9_15 (Or.inr ⟨rfl, hN, _, _, rfl⟩) (Or.inr ⟨_, rfl⟩) e8 ?_
  refine g_p (S' := [.int (-1), .ref a]) hF tX9_init_ok 10 2 rfl rfl rfl rfl ?_
  obtain ⟨s9, e10, H⟩ := ob H
  refine g_dpI hF (dAt tX9_init_ok 12 rfl rfl) flX9_18 (Or.inl rfl) e10 ?_
  refine g_p (S' := [.int 5, .ref a]) hF tX9_init_ok 13 2 rfl rfl rfl rfl ?_
  obtain ⟨s11, e12, H⟩ := ob H
  refine g_dpI hF (dAt tX9_init_ok 15 rfl rfl) flX9_22 (Or.inl rfl) e12 ?_
  refine g_p (S' := [.ref a]) hF tX9_init_ok 16 1 rfl rfl rfl rfl ?_
  obtain ⟨b13, e14, H⟩ := ob H
  refine g_dgR hF (dAt tX9_init_ok 17 rfl rfl) flX9_9 e14 ?_
  refine g_p (S' := [.int 20, .ref b13]) hF tX9_init_ok 18 1 rfl rfl rfl rfl ?_
  obtain ⟨hc15, H⟩ := oc H
  obtain ⟨s16, e17, H⟩ := ob H
  refine g_cS (S := []) hF (J7_fill_53178_ok (Nat.le_refl _) hc15 e17 K) mbJ7_fill_53178 msJ7_fill_53178 mlX9_25 (by omega) (by decide) (dAt tX9_init_ok 19 rfl rfl) rfl rfl (Nat.le_of_ble_eq_true rfl) rfl rfl (by decide) (by decide) rfl ?_
  refine g_p (L' := [some (.ref a), some (.int 0)]) (S' := []) hF tX9_init_ok 20 2 rfl rfl rfl rfl ?_
  exact X9_init_b41_ok hD hF hN hE FU _ _ _ _ H
noncomputable def X2_init_f (τ : Tau) (σ : Sig) (nx : Nat) (a : Nat) (x1 : Int32) : Option (Hp) := (dI τ σ 2 a 0 (mmax 0 (mmin x1 400))).bind fun s1 => (gI τ s1 2 a 0).bind fun v3 => (nwI (v3 * 5) 2000).bind fun N5 => (dR (al τ nx (.inr (.inl N5))) 2 a 1 (some nx)).bind fun t7 => some (t7, (zr s1 nx), (nx + 1))
set_option maxRecDepth 4000 in
set_option maxHeartbeats 1000000 in
theorem X2_init_ok {D : Nat} {τ : Tau} {σ : Sig} {nx : Nat} {a : Nat} {x1 : Int32} {rh : Hp} (hD : 1 ≤ D) (H : X2_init_f τ σ nx a x1 = some rh) : Ok D 1 2000 yX2_init cX2_init 2 none [.ref a, .int x1] (τ, σ, nx) none rh := by
  refine ok_of (by decide +kernel) rfl (Nat.le_of_ble_eq_true rfl) (fun K X hF hE hN L0 hL0 => ?_)
  obtain rfl : [some (.ref a), some (.int x1)] = L0 := hL0
  have hF : Fx K X cX2_init 2 RX2 D 1 2000 := hF
  refine g_p (S' := [.ref a]) hF tX2_init_ok 0 1 rfl rfl rfl rfl ?_
  refine g_oi hF mlX2_3 (dAt tX2_init_ok 1 rfl rfl) (by omega) (Nat.le_of_ble_eq_true rfl) ?_
  refine g_p (S' := [.int 400, .int x1, .int 0, .ref a]) hF tX2_init_ok 2 4 rfl rfl rfl rfl ?_
  refine g_mmin hF mlX2_9 (dAt tX2_init_ok 6 rfl rfl) (by omega) (Nat.le_of_ble_eq_true rfl) (by decide) (by decide) ?_
  refine g_mmax hF mlX2_15 (dAt tX2_init_ok 7 rfl rfl) (by omega) (Nat.le_of_ble_eq_true rfl) (by decide) (by decide) ?_
  obtain ⟨s1, e2, H⟩ := ob H
  refine g_dpI hF (dAt tX2_init_ok 8 rfl rfl) flX2_18 (Or.inr ⟨rfl, hN, _, _, rfl⟩) e2 ?_
  refine g_p (S' := [.ref a, .ref a]) hF tX2_init_ok 9 2 rfl rfl rfl rfl ?_
  obtain ⟨v3, e4, H⟩ := ob H
  refine g_dgI hF (dAt tX2_init_ok 11 rfl rfl) flX2_18 e4 ?_
  refine g_p (S' := [.int (v3 * 5), .ref a]) hF tX2_init_ok 12 2 rfl rfl rfl rfl ?_
  obtain ⟨N5, e6, H⟩ := ob H
  obtain ⟨pe6, qe6, re6⟩ := nwI_some e6
  refine g_newI (M := 2000) hF (dAt tX2_init_ok 14 rfl rfl) ac_int pe6 qe6 re6 (by decide) (by decide) (by decide) ?_
  obtain ⟨t7, e8, H⟩ := ob H
  refine g_dpR (some nx) hF (dAt tX2_init_ok 15 rfl rfl) flX2_24 (Or.inr ⟨rfl, hN, _, _, rfl⟩) (Or.inr ⟨_, rfl⟩) e8 ?_
  exact g_vret hF (en_vh H hE) (dAt tX2_init_ok 16 rfl rfl) (by decide) (by decide)
noncomputable def X6_init_f (τ : Tau) (σ : Sig) (nx : Nat) (a : Nat) : Option (Hp) := (nwI 400 400).bind fun N1 => (dR (al τ nx (.inr (.inl N1))) 6 a 0 (some nx)).bind fun t3 => some (t3, (zr σ nx), (nx + 1))
set_option maxRecDepth 4000 in
set_option maxHeartbeats 1000000 in
theorem X6_init_ok {D : Nat} {τ : Tau} {σ : Sig} {nx : Nat} {a : Nat} {rh : Hp} (hD : 1 ≤ D) (H : X6_init_f τ σ nx a = some rh) : Ok D 1 400 yX6_init cX6_init 1 none [.ref a] (τ, σ, nx) none rh := by
  refine ok_of (by decide +kernel) rfl (Nat.le_of_ble_eq_true rfl) (fun K X hF hE hN L0 hL0 => ?_)
  obtain rfl : [some (.ref a)] = L0 := hL0
  have hF : Fx K X cX6_init 1 RX6 D 1 400 := hF
  refine g_p (S' := [.ref a]) hF tX6_init_ok 0 1 rfl rfl rfl rfl ?_
  refine g_oi hF mlX6_3 (dAt tX6_init_ok 1 rfl rfl) (by omega) (Nat.le_of_ble_eq_true rfl) ?_
  refine g_p (S' := [.int 400, .ref a]) hF tX6_init_ok 2 2 rfl rfl rfl rfl ?_
  obtain ⟨N1, e2, H⟩ := ob H
  obtain ⟨pe2, qe2, re2⟩ := nwI_some e2
  refine g_newI (M := 400) hF (dAt tX6_init_ok 4 rfl rfl) ac_int pe2 qe2 re2 (by decide) (by decide) (by decide) ?_
  obtain ⟨t3, e4, H⟩ := ob H
  refine g_dpR (some nx) hF (dAt tX6_init_ok 5 rfl rfl) flX6_9 (Or.inr ⟨rfl, hN, _, _, rfl⟩) (Or.inr ⟨_, rfl⟩) e4 ?_
  exact g_vret hF (en_vh H hE) (dAt tX6_init_ok 6 rfl rfl) (by decide) (by decide)
noncomputable def X5_init_f (τ : Tau) (σ : Sig) (nx : Nat) (a : Nat) : Option (Hp) := (dI τ σ 5 a 1 (-1)).bind fun s1 => (nwI 400 400).bind fun N3 => (dR (al τ nx (.inr (.inl N3))) 5 a 5 (some nx)).bind fun t5 => (nwI 17 17).bind fun N7 => (dR (al t5 (nx + 1) (.inr (.inl N7))) 5 a 6 (some (nx + 1))).bind fun t9 => (nwI 16 16).bind fun N11 => (dR (al t9 (nx + 2) (.inr (.inl N11))) 5 a 7 (some (nx + 2))).bind fun t13 => (nwI 401 401).bind fun N15 => (dR (al t13 (nx + 3) (.inr (.inl N15))) 5 a 8 (some (nx + 3))).bind fun t17 => (nwI 401 401).bind fun N19 => (dR (al t17 (nx + 4) (.inr (.inl N19))) 5 a 9 (some (nx + 4))).bind fun t21 => (nwI 401 401).bind fun N23 => (dR (al t21 (nx + 5) (.inr (.inl N23))) 5 a 10 (some (nx + 5))).bind fun t25 => some (t25, (zr (zr (zr (zr (zr (zr s1 nx) (nx + 1)) (nx + 2)) (nx + 3)) (nx + 4)) (nx + 5)), (nx + 6))
set_option maxRecDepth 4000 in
set_option maxHeartbeats 1000000 in
theorem X5_init_ok {D : Nat} {τ : Tau} {σ : Sig} {nx : Nat} {a : Nat} {rh : Hp} (hD : 1 ≤ D) (H : X5_init_f τ σ nx a = some rh) : Ok D 6 1636 yX5_init cX5_init 1 none [.ref a] (τ, σ, nx) none rh := by
  refine ok_of (by decide +kernel) rfl (Nat.le_of_ble_eq_true rfl) (fun K X hF hE hN L0 hL0 => ?_)
  obtain rfl : [some (.ref a)] = L0 := hL0
  have hF : Fx K X cX5_init 1 RX5 D 6 1636 := hF
  refine g_p (S' := [.ref a]) hF tX5_init_ok 0 1 rfl rfl rfl rfl ?_
  refine g_oi hF mlX5_5 (dAt tX5_init_ok 1 rfl rfl) (by omega) (Nat.le_of_ble_eq_true rfl) ?_
  refine g_p (S' := [.int (-1), .ref a]) hF tX5_init_ok 2 2 rfl rfl rfl rfl ?_
  obtain ⟨s1, e2, H⟩ := ob H
  refine g_dpI hF (dAt tX5_init_ok 4 rfl rfl) flX5_11 (Or.inl rfl) e2 ?_
  refine g_p (S' := [.int 400, .ref a]) hF tX5_init_ok 5 2 rfl rfl rfl rfl ?_
  obtain ⟨N3, e4, H⟩ := ob H
  obtain ⟨pe4, qe4, re4⟩ := nwI_some e4
  refine g_newI (M := 400) hF (dAt tX5_init_ok 7 rfl rfl) ac_int pe4 qe4 re4 (by decide) (by decide) (by decide) ?_
  obtain ⟨t5, e6, H⟩ := ob H
  refine g_dpR (some nx) hF (dAt tX5_init_ok 8 rfl rfl) flX5_15 (Or.inr ⟨rfl, hN, _, _, rfl⟩) (Or.inr ⟨_, rfl⟩) e6 ?_
  refine g_p (S' := [.int 17, .ref a]) hF tX5_init_ok 9 2 rfl rfl rfl rfl ?_
  obtain ⟨N7, e8, H⟩ := ob H
  obtain ⟨pe8, qe8, re8⟩ := nwI_some e8
  refine g_newI (M := 17) hF (dAt tX5_init_ok 11 rfl rfl) ac_int pe8 qe8 re8 (by decide) (by decide) (by decide) ?_
  obtain ⟨t9, e10, H⟩ := ob H
  refine g_dpR (some (nx + 1)) hF (dAt tX5_init_ok 12 rfl rfl) flX5_19 (Or.inr ⟨rfl, hN, _, _, rfl⟩) (Or.inr ⟨_, rfl⟩) e10 ?_
  refine g_p (S' := [.int 16, .ref a]) hF tX5_init_ok 13 2 rfl rfl rfl rfl ?_
  obtain ⟨N11, e12, H⟩ := ob H
  obtain ⟨pe12, qe12, re12⟩ := nwI_some e12
  refine g_newI (M := 16) hF (dAt tX5_init_ok 15 rfl rfl) ac_int pe12 qe12 re12 (by decide) (by decide) (by decide) ?_
  obtain ⟨t13, e14, H⟩ := ob H
  refine g_dpR (some (nx + 2)) hF (dAt tX5_init_ok 16 rfl rfl) flX5_22 (Or.inr ⟨rfl, hN, _, _, rfl⟩) (Or.inr ⟨_, rfl⟩) e14 ?_
  refine g_p (S' := [.int 401, .ref a]) hF tX5_init_ok 17 2 rfl rfl rfl rfl ?_
  obtain ⟨N15, e16, H⟩ := ob H
  obtain ⟨pe16, qe16, re16⟩ := nwI_some e16
  refine g_newI (M := 401) hF (dAt tX5_init_ok 19 rfl rfl) ac_int pe16 qe16 re16 (by decide) (by decide) (by decide) ?_
  obtain ⟨t17, e18, H⟩ := ob H
  refine g_dpR (some (nx + 3)) hF (dAt tX5_init_ok 20 rfl rfl) flX5_25 (Or.inr ⟨rfl, hN, _, _, rfl⟩) (Or.inr ⟨_, rfl⟩) e18 ?_
  refine g_p (S' := [.int 401, .ref a]) hF tX5_init_ok 21 2 rfl rfl rfl rfl ?_
  obtain ⟨N19, e20, H⟩ := ob H
  obtain ⟨pe20, qe20, re20⟩ := nwI_some e20
  refine g_newI (M := 401) hF (dAt tX5_init_ok 23 rfl rfl) ac_int pe20 qe20 re20 (by decide) (by decide) (by decide) ?_
  obtain ⟨t21, e22, H⟩ := ob H
  refine g_dpR (some (nx + 4)) hF (dAt tX5_init_ok 24 rfl rfl) flX5_28 (Or.inr ⟨rfl, hN, _, _, rfl⟩) (Or.inr ⟨_, rfl⟩) e22 ?_
  refine g_p (S' := [.int 401, .ref a]) hF tX5_init_ok 25 2 rfl rfl rfl rfl ?_
  obtain ⟨N23, e24, H⟩ := ob H
  obtain ⟨pe24, qe24, re24⟩ := nwI_some e24
  refine g_newI (M := 401) hF (dAt tX5_init_ok 27 rfl rfl) ac_int pe24 qe24 re24 (by decide) (by decide) (by decide) ?_
  obtain ⟨t25, e26, H⟩ := ob H
  refine g_dpR (some (nx + 5)) hF (dAt tX5_init_ok 28 rfl rfl) flX5_31 (Or.inr ⟨rfl, hN, _, _, rfl⟩) (Or.inr ⟨_, rfl⟩) e26 ?_
  exact g_vret hF (en_vh H hE) (dAt tX5_init_ok 29 rfl rfl) (by decide) (by decide)
noncomputable def X7_init_f (τ : Tau) (σ : Sig) (nx : Nat) (a : Nat) (r2 : Nat) (r3 : Nat) (r4 : Nat) (x1 : Int32) : Option (Hp) := (dI τ σ 7 a 0 x1).bind fun s1 => (dR τ 7 a 1 (some r2)).bind fun t3 => (dR t3 7 a 2 (some r3)).bind fun t5 => (dR t5 7 a 3 (some r4)).bind fun t7 => some (t7, s1, nx)
set_option maxRecDepth 4000 in
set_option maxHeartbeats 1000000 in
theorem X7_init_ok {D : Nat} {τ : Tau} {σ : Sig} {nx : Nat} {a : Nat} {r2 : Nat} {r3 : Nat} {r4 : Nat} {x1 : Int32} {rh : Hp} (hD : 1 ≤ D) (H : X7_init_f τ σ nx a r2 r3 r4 x1 = some rh) : Ok D 0 0 yX7_init cX7_init 5 none [.ref a, .int x1, .ref r2, .ref r3, .ref r4] (τ, σ, nx) none rh := by
  refine ok_of (by decide +kernel) rfl (Nat.le_of_ble_eq_true rfl) (fun K X hF hE hN L0 hL0 => ?_)
  obtain rfl : [some (.ref a), some (.int x1), some (.ref r2), some (.ref r3), some (.ref r4)] = L0 := hL0
  have hF : Fx K X cX7_init 5 RX7 D 0 0 := hF
  refine g_p (S' := [.ref a]) hF tX7_init_ok 0 1 rfl rfl rfl rfl ?_
  refine g_oi hF mlX7_3 (dAt tX7_init_ok 1 rfl rfl) (by omega) (Nat.le_of_ble_eq_true rfl) ?_
  refine g_p (S' := [.int x1, .ref a]) hF tX7_init_ok 2 2 rfl rfl rfl rfl ?_
  obtain ⟨s1, e2, H⟩ := ob H
  refine g_dpI hF (dAt tX7_init_ok 4 rfl rfl) flX7_9 (Or.inr ⟨rfl, hN, _, _, rfl⟩) e2 ?_
  refine g_p (S' := [.ref r2, .ref a]) hF tX7_init_ok 5 2 rfl rfl rfl rfl ?_
  obtain ⟨t3, e4, H⟩ := ob H
  refine g_dpR (some r2) hF (dAt tX7_init_ok 7 rfl rfl) flX7_15 (Or.inr ⟨rfl, hN, _, _, rfl⟩) (Or.inr ⟨_, rfl⟩) e4 ?_
  refine g_p (S' := [.ref r3, .ref a]) hF tX7_init_ok 8 2 rfl rfl rfl rfl ?_
  obtain ⟨t5, e6, H⟩ := ob H
  refine g_dpR (some r3) hF (dAt tX7_init_ok 10 rfl rfl) flX7_19 (Or.inr ⟨rfl, hN, _, _, rfl⟩) (Or.inr ⟨_, rfl⟩) e6 ?_
  refine g_p (S' := [.ref r4, .ref a]) hF tX7_init_ok 11 2 rfl rfl rfl rfl ?_
  obtain ⟨t7, e8, H⟩ := ob H
  refine g_dpR (some r4) hF (dAt tX7_init_ok 13 rfl rfl) flX7_22 (Or.inr ⟨rfl, hN, _, _, rfl⟩) (Or.inr ⟨_, rfl⟩) e8 ?_
  exact g_vret hF (en_vh H hE) (dAt tX7_init_ok 14 rfl rfl) (by decide) (by decide)
noncomputable def X0_init_f (τ : Tau) (σ : Sig) (nx : Nat) (a : Nat) (x1 x2 x3 x4 : Int32) : Option (Hp) := (dI τ σ 0 a 5 (-1)).bind fun s1 => (dI τ s1 0 a 0 x1).bind fun s3 => (dI τ s3 0 a 1 x2).bind fun s5 => (dI τ s5 0 a 2 x3).bind fun s7 => (nwI ((mmax 0 (mmin x4 40)) * 6) 240).bind fun N9 => (dR (al τ nx (.inr (.inl N9))) 0 a 3 (some nx)).bind fun t11 => some (t11, (zr s7 nx), (nx + 1))
set_option maxRecDepth 4000 in
set_option maxHeartbeats 1000000 in
theorem X0_init_ok {D : Nat} {τ : Tau} {σ : Sig} {nx : Nat} {a : Nat} {x1 x2 x3 x4 : Int32} {rh : Hp} (hD : 1 ≤ D) (H : X0_init_f τ σ nx a x1 x2 x3 x4 = some rh) : Ok D 1 240 yX0_init cX0_init 5 none [.ref a, .int x1, .int x2, .int x3, .int x4] (τ, σ, nx) none rh := by
  refine ok_of (by decide +kernel) rfl (Nat.le_of_ble_eq_true rfl) (fun K X hF hE hN L0 hL0 => ?_)
  obtain rfl : [some (.ref a), some (.int x1), some (.int x2), some (.int x3), some (.int x4)] = L0 := hL0
  have hF : Fx K X cX0_init 5 RX0 D 1 240 := hF
  refine g_p (S' := [.ref a]) hF tX0_init_ok 0 1 rfl rfl rfl rfl ?_
  refine g_oi hF mlX0_3 (dAt tX0_init_ok 1 rfl rfl) (by omega) (Nat.le_of_ble_eq_true rfl) ?_
  refine g_p (S' := [.int (-1), .ref a]) hF tX0_init_ok 2 2 rfl rfl rfl rfl ?_
  obtain ⟨s1, e2, H⟩ := ob H
  refine g_dpI hF (dAt tX0_init_ok 4 rfl rfl) flX0_9 (Or.inl rfl) e2 ?_
  refine g_p (S' := [.int x1, .ref a]) hF tX0_init_ok 5 2 rfl rfl rfl rfl ?_
  obtain ⟨s3, e4, H⟩ := ob H
  refine g_dpI hF (dAt tX0_init_ok 7 rfl rfl) flX0_15 (Or.inr ⟨rfl, hN, _, _, rfl⟩) e4 ?_
  refine g_p (S' := [.int x2, .ref a]) hF tX0_init_ok 8 2 rfl rfl rfl rfl ?_
  obtain ⟨s5, e6, H⟩ := ob H
  refine g_dpI hF (dAt tX0_init_ok 10 rfl rfl) flX0_18 (Or.inr ⟨rfl, hN, _, _, rfl⟩) e6 ?_
  refine g_p (S' := [.int x3, .ref a]) hF tX0_init_ok 11 2 rfl rfl rfl rfl ?_
  obtain ⟨s7, e8, H⟩ := ob H
  refine g_dpI hF (dAt tX0_init_ok 13 rfl rfl) flX0_21 (Or.inr ⟨rfl, hN, _, _, rfl⟩) e8 ?_
  refine g_p (S' := [.int 40, .int x4, .int 0, .ref a]) hF tX0_init_ok 14 4 rfl rfl rfl rfl ?_
  refine g_mmin hF mlX0_24 (dAt tX0_init_ok 18 rfl rfl) (by omega) (Nat.le_of_ble_eq_true rfl) (by decide) (by decide) ?_
  refine g_mmax hF mlX0_30 (dAt tX0_init_ok 19 rfl rfl) (by omega) (Nat.le_of_ble_eq_true rfl) (by decide) (by decide) ?_
  refine g_p (S' := [.int ((mmax 0 (mmin x4 40)) * 6), .ref a]) hF tX0_init_ok 20 2 rfl rfl rfl rfl ?_
  obtain ⟨N9, e10, H⟩ := ob H
  obtain ⟨pe10, qe10, re10⟩ := nwI_some e10
  refine g_newI (M := 240) hF (dAt tX0_init_ok 22 rfl rfl) ac_int pe10 qe10 re10 (by decide) (by decide) (by decide) ?_
  obtain ⟨t11, e12, H⟩ := ob H
  refine g_dpR (some nx) hF (dAt tX0_init_ok 23 rfl rfl) flX0_33 (Or.inr ⟨rfl, hN, _, _, rfl⟩) (Or.inr ⟨_, rfl⟩) e12 ?_
  exact g_vret hF (en_vh H hE) (dAt tX0_init_ok 24 rfl rfl) (by decide) (by decide)
noncomputable def X1_init_f (τ : Tau) (σ : Sig) (nx : Nat) (a : Nat) : Option (Hp) := (dR (al τ nx (.inr (.inr (0, 60, fun _ => none)))) 1 a 1 (some nx)).bind fun t1 => some (t1, (zr σ nx), (nx + 1))
set_option maxRecDepth 4000 in
set_option maxHeartbeats 1000000 in
theorem X1_init_ok {D : Nat} {τ : Tau} {σ : Sig} {nx : Nat} {a : Nat} {rh : Hp} (hD : 1 ≤ D) (H : X1_init_f τ σ nx a = some rh) : Ok D 1 60 yX1_init cX1_init 1 none [.ref a] (τ, σ, nx) none rh := by
  refine ok_of (by decide +kernel) rfl (Nat.le_of_ble_eq_true rfl) (fun K X hF hE hN L0 hL0 => ?_)
  obtain rfl : [some (.ref a)] = L0 := hL0
  have hF : Fx K X cX1_init 1 RX1 D 1 60 := hF
  refine g_p (S' := [.ref a]) hF tX1_init_ok 0 1 rfl rfl rfl rfl ?_
  refine g_oi hF mlX1_3 (dAt tX1_init_ok 1 rfl rfl) (by omega) (Nat.le_of_ble_eq_true rfl) ?_
  refine g_p (S' := [.int 60, .ref a]) hF tX1_init_ok 2 2 rfl rfl rfl rfl ?_
  refine g_newR (ci := 0) (tj := 1) (N := 60) hF (dAt tX1_init_ok 4 rfl rfl) clX1_9 hF.kx.2.2.2.2.2.2.2.2.2.2.1 rfl (by decide) (by decide) (by decide) (by decide) (by decide) ?_
  obtain ⟨t1, e2, H⟩ := ob H
  refine g_dpR (some nx) hF (dAt tX1_init_ok 5 rfl rfl) flX1_11 (Or.inr ⟨rfl, hN, _, _, rfl⟩) (Or.inr ⟨_, rfl⟩) e2 ?_
  exact g_vret hF (en_vh H hE) (dAt tX1_init_ok 6 rfl rfl) (by decide) (by decide)
noncomputable def X12_init_b163 (a : Nat) : Nat → Int32 → Tau → Sig → Nat → Option (Hp)
  | 0, _, _, _, _ => none
  | fu + 1, x1, τ, σ, nx => if 12 ≤ x1 then (some (τ, σ, nx)) else (chk (ShX12 τ a) ((X12_hushes_f a x1 σ).bind fun s3 => X12_init_b163 a fu (x1 + 1) τ s3 nx))
set_option maxRecDepth 4000 in
set_option maxHeartbeats 1000000 in
theorem X12_init_b163_ok {K : Kt} {X : Cx} {D : Nat} {a : Nat} {rh : Hp} (hD : 2 ≤ D) (hF : Fx K X cX12_init 3 RX12 D 10 44790) (hN : (xh X).name = "<init>") (hE : En K X none 10 44790 none rh) : ∀ (fu : Nat) (x1 : Int32) (τ : Tau) (σ : Sig) (nx : Nat), X12_init_b163 a fu x1 τ σ nx = some rh → G K X 3 10 44790 163 [some (.ref a), some (.int x1), none] [] (τ, σ, nx)
  | 0, _, _, _, _, H => nomatch H
  | fu + 1, x1, τ, σ, nx, H => by
    refine g_p (S' := [.int 12, .int x1]) hF tX12_init_ok 87 2 rfl rfl rfl rfl ?_
    obtain ⟨Ht1, Hf1⟩ := oi H
    refine g_icmp_ge hF (dAt tX12_init_ok 89 rfl rfl) rfl (fun c1 => ?_) (fun c1 => ?_)
    · have H := Ht1 c1
      exact g_vret hF (en_vh H hE) (dAt tX12_init_ok 95 rfl rfl) (by decide) (by decide)
    · have H := Hf1 c1
      refine g_p (S' := [.int x1, .ref a]) hF tX12_init_ok 90 2 rfl rfl rfl rfl ?_
      obtain ⟨hc2, H⟩ := oc H
      obtain ⟨s3, e4, H⟩ := ob H
      refine g_cV (S := []) hF (X12_hushes_ok (Nat.le_refl _) hc2 e4 K) mbX12_hushes mvX12_hushes mlX12_44 (by omega) (by decide) (dAt tX12_init_ok 92 rfl rfl) hc2.1 rfl rfl rfl (Nat.le_of_ble_eq_true rfl) rfl rfl (by decide) (by decide) rfl ?_
      refine g_p (L' := [some (.ref a), some (.int (x1 + 1)), none]) (S' := []) hF tX12_init_ok 93 1 rfl rfl rfl rfl ?_
      refine g_goto hF (dAt tX12_init_ok 94 rfl rfl) rfl ?_
      exact X12_init_b163_ok hD hF hN hE fu _ _ _ _ H
noncomputable def X12_init_b148 (a : Nat) (k110 : Int32 → Tau → Sig → Nat → Option (Hp)) (k118 : Int32 → Int32 → Tau → Sig → Nat → Option (Hp)) (b2_ : Nat) (x1 : Int32) (x2 : Int32) (y0 : Int32) (y1 : Int32) (τ : Tau) (σ : Sig) (nx : Nat) : Option (Hp) := (stD τ σ b2_ y1 y0).bind fun s1 => k118 x1 (x2 + 1) τ s1 nx
set_option maxRecDepth 4000 in
set_option maxHeartbeats 1000000 in
theorem X12_init_b148_ok {K : Kt} {X : Cx} {D : Nat} {a : Nat} {rh : Hp} (hD : 2 ≤ D) (hF : Fx K X cX12_init 3 RX12 D 10 44790) (hN : (xh X).name = "<init>") (hE : En K X none 10 44790 none rh) {k110 : Int32 → Tau → Sig → Nat → Option (Hp)} {k118 : Int32 → Int32 → Tau → Sig → Nat → Option (Hp)} (hk110 : ∀ (x1 : Int32) (τ : Tau) (σ : Sig) (nx : Nat), k110 x1 τ σ nx = some rh → G K X 3 10 44790 110 [some (.ref a), some (.int x1), none] [] (τ, σ, nx)) (hk118 : ∀ (x1 : Int32) (x2 : Int32) (τ : Tau) (σ : Sig) (nx : Nat), k118 x1 x2 τ σ nx = some rh → G K X 3 10 44790 118 [some (.ref a), some (.int x1), some (.int x2)] [] (τ, σ, nx)) {b2_ : Nat} {x1 : Int32} {x2 : Int32} {y0 : Int32} {y1 : Int32} {τ : Tau} {σ : Sig} {nx : Nat} (H : X12_init_b148 a k110 k118 b2_ x1 x2 y0 y1 τ σ nx = some rh) : G K X 3 10 44790 148 [some (.ref a), some (.int x1), some (.int x2)] [.int y0, .int y1, .ref b2_] (τ, σ, nx) := by
  obtain ⟨s1, e2, H⟩ := ob H
  refine g_dist hF (dAt tX12_init_ok 80 rfl rfl) e2 ?_
  refine g_p (L' := [some (.ref a), some (.int x1), some (.int (x2 + 1))]) (S' := []) hF tX12_init_ok 81 1 rfl rfl rfl rfl ?_
  refine g_goto hF (dAt tX12_init_ok 82 rfl rfl) rfl ?_
  exact hk118 _ _ _ _ _ H
noncomputable def X12_init_b118 (a : Nat) (k110 : Int32 → Tau → Sig → Nat → Option (Hp)) : Nat → Int32 → Int32 → Tau → Sig → Nat → Option (Hp)
  | 0, _, _, _, _, _ => none
  | fu + 1, x1, x2, τ, σ, nx => if 6 ≤ x2 then (k110 (x1 + 1) τ σ nx) else ((gRs τ 12 a 0).bind fun b2 => if x1 = x2 then (X12_init_b148 a k110 (X12_init_b118 a k110 fu) b2 x1 x2 0 ((50 + (6 * x1)) + x2) τ σ nx) else (X12_init_b148 a k110 (X12_init_b118 a k110 fu) b2 x1 x2 20 ((50 + (6 * x1)) + x2) τ σ nx))
set_option maxRecDepth 4000 in
set_option maxHeartbeats 1000000 in
theorem X12_init_b118_ok {K : Kt} {X : Cx} {D : Nat} {a : Nat} {rh : Hp} (hD : 2 ≤ D) (hF : Fx K X cX12_init 3 RX12 D 10 44790) (hN : (xh X).name = "<init>") (hE : En K X none 10 44790 none rh) {k110 : Int32 → Tau → Sig → Nat → Option (Hp)} (hk110 : ∀ (x1 : Int32) (τ : Tau) (σ : Sig) (nx : Nat), k110 x1 τ σ nx = some rh → G K X 3 10 44790 110 [some (.ref a), some (.int x1), none] [] (τ, σ, nx)) : ∀ (fu : Nat) (x1 : Int32) (x2 : Int32) (τ : Tau) (σ : Sig) (nx : Nat), X12_init_b118 a k110 fu x1 x2 τ σ nx = some rh → G K X 3 10 44790 118 [some (.ref a), some (.int x1), some (.int x2)] [] (τ, σ, nx)
  | 0, _, _, _, _, _, H => nomatch H
  | fu + 1, x1, x2, τ, σ, nx, H => by
    refine g_p (S' := [.int 6, .int x2]) hF tX12_init_ok 62 2 rfl rfl rfl rfl ?_
    obtain ⟨Ht1, Hf1⟩ := oi H
    refine g_icmp_ge hF (dAt tX12_init_ok 64 rfl rfl) rfl (fun c1 => ?_) (fun c1 => ?_)
    · have H := Ht1 c1
      refine g_p (L' := [some (.ref a), some (.int (x1 + 1)), some (.int x2)]) (S' := []) hF tX12_init_ok 83 1 rfl rfl rfl rfl ?_
      refine g_goto hF (dAt tX12_init_ok 84 rfl rfl) rfl ?_
      refine g_m [true, true, false] rfl ?_
      exact hk110 _ _ _ _ H
    · have H := Hf1 c1
      refine g_p (S' := [.ref a]) hF tX12_init_ok 65 1 rfl rfl rfl rfl ?_
      obtain ⟨b2, e3, H⟩ := ob H
      refine g_dgR hF (dAt tX12_init_ok 66 rfl rfl) flX12_7 e3 ?_
      refine g_p (S' := [.int x2, .int x1, .int ((50 + (6 * x1)) + x2), .ref b2]) hF tX12_init_ok 67 9 rfl rfl rfl rfl ?_
      obtain ⟨Ht4, Hf4⟩ := oi H
      refine g_icmp_ne hF (dAt tX12_init_ok 76 rfl rfl) rfl (fun c4 => ?_) (fun c4 => ?_)
      · have H := Hf4 c4
        refine g_p (S' := [.int 20, .int ((50 + (6 * x1)) + x2), .ref b2]) hF tX12_init_ok 79 1 rfl rfl rfl rfl ?_
        exact X12_init_b148_ok hD hF hN hE hk110 (fun _ _ _ _ _ H => X12_init_b118_ok hD hF hN hE hk110 fu _ _ _ _ _ H) H
      · have H := Ht4 c4
        refine g_p (S' := [.int 0, .int ((50 + (6 * x1)) + x2), .ref b2]) hF tX12_init_ok 77 1 rfl rfl rfl rfl ?_
        refine g_goto hF (dAt tX12_init_ok 78 rfl rfl) rfl ?_
        exact X12_init_b148_ok hD hF hN hE hk110 (fun _ _ _ _ _ H => X12_init_b118_ok hD hF hN hE hk110 fu _ _ _ _ _ H) H
noncomputable def X12_init_b110 (a : Nat) : Nat → Int32 → Tau → Sig → Nat → Option (Hp)
  | 0, _, _, _, _ => none
  | fu + 1, x1, τ, σ, nx => if 6 ≤ x1 then (X12_init_b163 a FU 0 τ σ nx) else (X12_init_b118 a (X12_init_b110 a fu) FU x1 0 τ σ nx)
set_option maxRecDepth 4000 in
set_option maxHeartbeats 1000000 in
theorem X12_init_b110_ok {K : Kt} {X : Cx} {D : Nat} {a : Nat} {rh : Hp} (hD : 2 ≤ D) (hF : Fx K X cX12_init 3 RX12 D 10 44790) (hN : (xh X).name = "<init>") (hE : En K X none 10 44790 none rh) : ∀ (fu : Nat) (x1 : Int32) (τ : Tau) (σ : Sig) (nx : Nat), X12_init_b110 a fu x1 τ σ nx = some rh → G K X 3 10 44790 110 [some (.ref a), some (.int x1), none] [] (τ, σ, nx)
  | 0, _, _, _, _, H => nomatch H
  | fu + 1, x1, τ, σ, nx, H => by
    refine g_p (S' := [.int 6, .int x1]) hF tX12_init_ok 57 2 rfl rfl rfl rfl ?_
    obtain ⟨Ht1, Hf1⟩ := oi H
    refine g_icmp_ge hF (dAt tX12_init_ok 59 rfl rfl) rfl (fun c1 => ?_) (fun c1 => ?_)
    · have H := Ht1 c1
      refine g_p (L' := [some (.ref a), some (.int 0), none]) (S' := []) hF tX12_init_ok 85 2 rfl rfl rfl rfl ?_
      exact X12_init_b163_ok hD hF hN hE FU _ _ _ _ H
    · have H := Hf1 c1
      refine g_p (L' := [some (.ref a), some (.int x1), some (.int 0)]) (S' := []) hF tX12_init_ok 60 2 rfl rfl rfl rfl ?_
      exact X12_init_b118_ok hD hF hN hE (fun _ _ _ _ H => X12_init_b110_ok hD hF hN hE fu _ _ _ _ H) FU _ _ _ _ _ H
noncomputable def X12_init_f (τ : Tau) (σ : Sig) (nx : Nat) (a : Nat) : Option (Hp) := (nwI 20240 20240).bind fun N1 => (dR (al τ nx (.inr (.inl N1))) 12 a 0 (some nx)).bind fun t3 => (nwI 20240 20240).bind fun N5 => (dR (al t3 (nx + 1) (.inr (.inl N5))) 12 a 1 (some (nx + 1))).bind fun t7 => (nwI 2550 2550).bind fun N9 => (dR (al t7 (nx + 2) (.inr (.inl N9))) 12 a 2 (some (nx + 2))).bind fun t11 => (nwI 64 64).bind fun N13 => (dR (al t11 (nx + 3) (.inr (.inl N13))) 12 a 4 (some (nx + 3))).bind fun t15 => (nwI 820 820).bind fun N17 => (dR (al t15 (nx + 4) (.inr (.inl N17))) 12 a 5 (some (nx + 4))).bind fun t19 => (nwI 400 400).bind fun N21 => (dR (al t19 (nx + 5) (.inr (.inl N21))) 12 a 6 (some (nx + 5))).bind fun t23 => (nwI 420 420).bind fun N25 => (dR (al t23 (nx + 6) (.inr (.inl N25))) 12 a 7 (some (nx + 6))).bind fun t27 => (nwI 12 12).bind fun N29 => (dR (al t27 (nx + 7) (.inr (.inl N29))) 12 a 8 (some (nx + 7))).bind fun t31 => (dI t31 (zr (zr (zr (zr (zr (zr (zr (zr σ nx) (nx + 1)) (nx + 2)) (nx + 3)) (nx + 4)) (nx + 5)) (nx + 6)) (nx + 7)) 12 a 21 (-1)).bind fun s33 => (nwI 40 40).bind fun N35 => (dR (al t31 (nx + 8) (.inr (.inl N35))) 12 a 23 (some (nx + 8))).bind fun t37 => (nwI 4 4).bind fun N39 => (dR (al t37 (nx + 9) (.inr (.inl N39))) 12 a 24 (some (nx + 9))).bind fun t41 => (gRs t41 12 a 0).bind fun b43 => (stD t41 (zr (zr s33 (nx + 8)) (nx + 9)) b43 3 (-1)).bind fun s45 => (gRs t41 12 a 0).bind fun b47 => (stD t41 s45 b47 4 5).bind fun s49 => X12_init_b110 a FU 0 t41 s49 (nx + 10)
set_option maxRecDepth 4000 in
set_option maxHeartbeats 1000000 in
theorem X12_init_ok {D : Nat} {τ : Tau} {σ : Sig} {nx : Nat} {a : Nat} {rh : Hp} (hD : 2 ≤ D) (H : X12_init_f τ σ nx a = some rh) : Ok D 10 44790 yX12_init cX12_init 3 none [.ref a] (τ, σ, nx) none rh := by
  refine ok_of (by decide +kernel) rfl (Nat.le_of_ble_eq_true rfl) (fun K X hF hE hN L0 hL0 => ?_)
  obtain rfl : [some (.ref a), none, none] = L0 := hL0
  have hF : Fx K X cX12_init 3 RX12 D 10 44790 := hF
  refine g_p (S' := [.ref a]) hF tX12_init_ok 0 1 rfl rfl rfl rfl ?_
  refine g_oi hF mlX12_1 (dAt tX12_init_ok 1 rfl rfl) (by omega) (Nat.le_of_ble_eq_true rfl) ?_
  refine g_p (S' := [.int 20240, .ref a]) hF tX12_init_ok 2 2 rfl rfl rfl rfl ?_
  obtain ⟨N1, e2, H⟩ := ob H
  obtain ⟨pe2, qe2, re2⟩ := nwI_some e2
  refine g_newI (M := 20240) hF (dAt tX12_init_ok 4 rfl rfl) ac_int pe2 qe2 re2 (by decide) (by decide) (by decide) ?_
  obtain ⟨t3, e4, H⟩ := ob H
  refine g_dpR (some nx) hF (dAt tX12_init_ok 5 rfl rfl) flX12_7 (Or.inr ⟨rfl, hN, _, _, rfl⟩) (Or.inr ⟨_, rfl⟩) e4 ?_
  refine g_p (S' := [.int 20240, .ref a]) hF tX12_init_ok 6 2 rfl rfl rfl rfl ?_
  obtain ⟨N5, e6, H⟩ := ob H
  obtain ⟨pe6, qe6, re6⟩ := nwI_some e6
  refine g_newI (M := 20240) hF (dAt tX12_init_ok 8 rfl rfl) ac_int pe6 qe6 re6 (by decide) (by decide) (by decide) ?_
  obtain ⟨t7, e8, H⟩ := ob H
  refine g_dpR (some (nx + 1)) hF (dAt tX12_init_ok 9 rfl rfl) flX12_13 (Or.inr ⟨rfl, hN, _, _, rfl⟩) (Or.inr ⟨_, rfl⟩) e8 ?_
  refine g_p (S' := [.int 2550, .ref a]) hF tX12_init_ok 10 2 rfl rfl rfl rfl ?_
  obtain ⟨N9, e10, H⟩ := ob H
  obtain ⟨pe10, qe10, re10⟩ := nwI_some e10
  refine g_newI (M := 2550) hF (dAt tX12_init_ok 12 rfl rfl) ac_int pe10 qe10 re10 (by decide) (by decide) (by decide) ?_
  obtain ⟨t11, e12, H⟩ := ob H
  refine g_dpR (some (nx + 2)) hF (dAt tX12_init_ok 13 rfl rfl) flX12_16 (Or.inr ⟨rfl, hN, _, _, rfl⟩) (Or.inr ⟨_, rfl⟩) e12 ?_
  refine g_p (S' := [.int 64, .ref a]) hF tX12_init_ok 14 2 rfl rfl rfl rfl ?_
  obtain ⟨N13, e14, H⟩ := ob H
  obtain ⟨pe14, qe14, re14⟩ := nwI_some e14
  refine g_newI (M := 64) hF (dAt tX12_init_ok 16 rfl rfl) ac_int pe14 qe14 re14 (by decide) (by decide) (by decide) ?_
  obtain ⟨t15, e16, H⟩ := ob H
  refine g_dpR (some (nx + 3)) hF (dAt tX12_init_ok 17 rfl rfl) flX12_19 (Or.inr ⟨rfl, hN, _, _, rfl⟩) (Or.inr ⟨_, rfl⟩) e16 ?_
  refine g_p (S' := [.int 820, .ref a]) hF tX12_init_ok 18 2 rfl rfl rfl rfl ?_
  obtain ⟨N17, e18, H⟩ := ob H
  obtain ⟨pe18, qe18, re18⟩ := nwI_some e18
  refine g_newI (M := 820) hF (dAt tX12_init_ok 20 rfl rfl) ac_int pe18 qe18 re18 (by decide) (by decide) (by decide) ?_
  obtain ⟨t19, e20, H⟩ := ob H
  refine g_dpR (some (nx + 4)) hF (dAt tX12_init_ok 21 rfl rfl) flX12_22 (Or.inr ⟨rfl, hN, _, _, rfl⟩) (Or.inr ⟨_, rfl⟩) e20 ?_
  refine g_p (S' := [.int 400, .ref a]) hF tX12_init_ok 22 2 rfl rfl rfl rfl ?_
  obtain ⟨N21, e22, H⟩ := ob H
  obtain ⟨pe22, qe22, re22⟩ := nwI_some e22
  refine g_newI (M := 400) hF (dAt tX12_init_ok 24 rfl rfl) ac_int pe22 qe22 re22 (by decide) (by decide) (by decide) ?_
  obtain ⟨t23, e24, H⟩ := ob H
  refine g_dpR (some (nx + 5)) hF (dAt tX12_init_ok 25 rfl rfl) flX12_25 (Or.inr ⟨rfl, hN, _, _, rfl⟩) (Or.inr ⟨_, rfl⟩) e24 ?_
  refine g_p (S' := [.int 420, .ref a]) hF tX12_init_ok 26 2 rfl rfl rfl rfl ?_
  obtain ⟨N25, e26, H⟩ := ob H
  obtain ⟨pe26, qe26, re26⟩ := nwI_some e26
  refine g_newI (M := 420) hF (dAt tX12_init_ok 28 rfl rfl) ac_int pe26 qe26 re26 (by decide) (by decide) (by decide) ?_
  obtain ⟨t27, e28, H⟩ := ob H
  refine g_dpR (some (nx + 6)) hF (dAt tX12_init_ok 29 rfl rfl) flX12_28 (Or.inr ⟨rfl, hN, _, _, rfl⟩) (Or.inr ⟨_, rfl⟩) e28 ?_
  refine g_p (S' := [.int 12, .ref a]) hF tX12_init_ok 30 2 rfl rfl rfl rfl ?_
  obtain ⟨N29, e30, H⟩ := ob H
  obtain ⟨pe30, qe30, re30⟩ := nwI_some e30
  refine g_newI (M := 12) hF (dAt tX12_init_ok 32 rfl rfl) ac_int pe30 qe30 re30 (by decide) (by decide) (by decide) ?_
  obtain ⟨t31, e32, H⟩ := ob H
  refine g_dpR (some (nx + 7)) hF (dAt tX12_init_ok 33 rfl rfl) flX12_31 (Or.inr ⟨rfl, hN, _, _, rfl⟩) (Or.inr ⟨_, rfl⟩) e32 ?_
  refine g_p (S' := [.int (-1), .ref a]) hF tX12_init_ok 34 2 rfl rfl rfl rfl ?_
  obtain ⟨s33, e34, H⟩ := ob H
  refine g_dpI hF (dAt tX12_init_ok 36 rfl rfl) flX12_34 (Or.inl rfl) e34 ?_
  refine g_p (S' := [.int 40, .ref a]) hF tX12_init_ok 37 2 rfl rfl rfl rfl ?_
  obtain ⟨N35, e36, H⟩ := ob H
  obtain ⟨pe36, qe36, re36⟩ := nwI_some e36
  refine g_newI (M := 40) hF (dAt tX12_init_ok 39 rfl rfl) ac_int pe36 qe36 re36 (by decide) (by decide) (by decide) ?_
  obtain ⟨t37, e38, H⟩ := ob H
  refine g_dpR (some (nx + 8)) hF (dAt tX12_init_ok 40 rfl rfl) flX12_38 (Or.inr ⟨rfl, hN, _, _, rfl⟩) (Or.inr ⟨_, rfl⟩) e38 ?_
  refine g_p (S' := [.int 4, .ref a]) hF tX12_init_ok 41 2 rfl rfl rfl rfl ?_
  obtain ⟨N39, e40, H⟩ := ob H
  obtain ⟨pe40, qe40, re40⟩ := nwI_some e40
  refine g_newI (M := 4) hF (dAt tX12_init_ok 43 rfl rfl) ac_int pe40 qe40 re40 (by decide) (by decide) (by decide) ?_
  obtain ⟨t41, e42, H⟩ := ob H
  refine g_dpR (some (nx + 9)) hF (dAt tX12_init_ok 44 rfl rfl) flX12_41 (Or.inr ⟨rfl, hN, _, _, rfl⟩) (Or.inr ⟨_, rfl⟩) e42 ?_
  refine g_p (S' := [.ref a]) hF tX12_init_ok 45 1 rfl rfl rfl rfl ?_
  obtain ⟨b43, e44, H⟩ := ob H
  refine g_dgR hF (dAt tX12_init_ok 46 rfl rfl) flX12_7 e44 ?_
  refine g_p (S' := [.int (-1), .int 3, .ref b43]) hF tX12_init_ok 47 2 rfl rfl rfl rfl ?_
  obtain ⟨s45, e46, H⟩ := ob H
  refine g_dist hF (dAt tX12_init_ok 49 rfl rfl) e46 ?_
  refine g_p (S' := [.ref a]) hF tX12_init_ok 50 1 rfl rfl rfl rfl ?_
  obtain ⟨b47, e48, H⟩ := ob H
  refine g_dgR hF (dAt tX12_init_ok 51 rfl rfl) flX12_7 e48 ?_
  refine g_p (S' := [.int 5, .int 4, .ref b47]) hF tX12_init_ok 52 2 rfl rfl rfl rfl ?_
  obtain ⟨s49, e50, H⟩ := ob H
  refine g_dist hF (dAt tX12_init_ok 54 rfl rfl) e50 ?_
  refine g_p (L' := [some (.ref a), some (.int 0), none]) (S' := []) hF tX12_init_ok 55 2 rfl rfl rfl rfl ?_
  exact X12_init_b110_ok hD hF hN hE FU _ _ _ _ H
noncomputable def X10_init_b106 (a : Nat) (r2 : Nat) : Nat → Int32 → Tau → Sig → Nat → Option (Hp)
  | 0, _, _, _, _ => none
  | fu + 1, x3, τ, σ, nx => (gRs τ 10 a 6).bind fun b1 => (lnR τ 7 b1).bind fun v3 => if v3 ≤ x3 then (some (τ, σ, nx)) else ((gRs τ 10 a 6).bind fun b6 => (strD τ 7 b6 x3 (some r2)).bind fun t8 => X10_init_b106 a r2 fu (x3 + 1) t8 σ nx)
set_option maxRecDepth 4000 in
set_option maxHeartbeats 1000000 in
theorem X10_init_b106_ok {K : Kt} {X : Cx} {D : Nat} {a : Nat} {r2 : Nat} {rh : Hp} (hD : 3 ≤ D) (hF : Fx K X cX10_init 4 RX10 D 34 2684) (hN : (xh X).name = "<init>") (hE : En K X none 34 2684 none rh) : ∀ (fu : Nat) (x3 : Int32) (τ : Tau) (σ : Sig) (nx : Nat), X10_init_b106 a r2 fu x3 τ σ nx = some rh → G K X 4 34 2684 106 [some (.ref a), none, some (.ref r2), some (.int x3)] [] (τ, σ, nx)
  | 0, _, _, _, _, H => nomatch H
  | fu + 1, x3, τ, σ, nx, H => by
    refine g_p (S' := [.ref a, .int x3]) hF tX10_init_ok 51 2 rfl rfl rfl rfl ?_
    obtain ⟨b1, e2, H⟩ := ob H
    refine g_dgR hF (dAt tX10_init_ok 53 rfl rfl) flX10_48 e2 ?_
    obtain ⟨v3, e4, H⟩ := ob H
    refine g_dlnR (tj := 2) hF rfl (dAt tX10_init_ok 54 rfl rfl) e4 ?_
    obtain ⟨Ht5, Hf5⟩ := oi H
    refine g_icmp_ge hF (dAt tX10_init_ok 55 rfl rfl) rfl (fun c5 => ?_) (fun c5 => ?_)
    · have H := Ht5 c5
      exact g_vret hF (en_vh H hE) (dAt tX10_init_ok 63 rfl rfl) (by decide) (by decide)
    · have H := Hf5 c5
      refine g_p (S' := [.ref a]) hF tX10_init_ok 56 1 rfl rfl rfl rfl ?_
      obtain ⟨b6, e7, H⟩ := ob H
      refine g_dgR hF (dAt tX10_init_ok 57 rfl rfl) flX10_48 e7 ?_
      refine g_p (S' := [.ref r2, .int x3, .ref b6]) hF tX10_init_ok 58 2 rfl rfl rfl rfl ?_
      obtain ⟨t8, e9, H⟩ := ob H
      refine g_drst (some r2) (tj := 2) hF rfl rfl (dAt tX10_init_ok 60 rfl rfl) e9 ?_
      refine g_p (L' := [some (.ref a), none, some (.ref r2), some (.int (x3 + 1))]) (S' := []) hF tX10_init_ok 61 1 rfl rfl rfl rfl ?_
      refine g_goto hF (dAt tX10_init_ok 62 rfl rfl) rfl ?_
      exact X10_init_b106_ok hD hF hN hE fu _ _ _ _ H
noncomputable def X10_init_f (τ : Tau) (σ : Sig) (nx : Nat) (a : Nat) (r2 : Nat) (x1 : Int32) : Option (Hp) := (X4_init_f (al τ nx (.inl (4, rsX4))) (zr σ nx) (nx + 1) nx).bind fun ⟨t1, s2, n3⟩ => (dR t1 10 a 0 (some nx)).bind fun t5 => (X3_init_f (al t5 n3 (.inl (3, rsX3))) (zr s2 n3) (n3 + 1) n3).bind fun ⟨t7, s8, n9⟩ => (dR t7 10 a 1 (some n3)).bind fun t11 => (X9_init_f (al t11 n9 (.inl (9, rsX9))) (zr s8 n9) (n9 + 1) n9).bind fun ⟨t13, s14, n15⟩ => (dR t13 10 a 2 (some n9)).bind fun t17 => (X8_init_f (al t17 n15 (.inl (8, rsX8))) (zr s14 n15) (n15 + 1) n15).bind fun ⟨t19, s20, n21⟩ => (dR t19 10 a 3 (some n15)).bind fun t23 => (X1_init_f (al t23 n21 (.inl (1, rsX1))) (zr s20 n21) (n21 + 1) n21).bind fun ⟨t25, s26, n27⟩ => (dR t25 10 a 5 (some n21)).bind fun t29 => (dR (al t29 n27 (.inr (.inr (7, 6, fun _ => none)))) 10 a 6 (some n27)).bind fun t31 => (nwI 8 8).bind fun N33 => (dR (al t31 (n27 + 1) (.inr (.inl N33))) 10 a 7 (some (n27 + 1))).bind fun t35 => (nwI 32 32).bind fun N37 => (dR (al t35 (n27 + 2) (.inr (.inl N37))) 10 a 8 (some (n27 + 2))).bind fun t39 => (nwI 12 12).bind fun N41 => (dR (al t39 (n27 + 3) (.inr (.inl N41))) 10 a 9 (some (n27 + 3))).bind fun t43 => (X2_init_f (al t43 (n27 + 4) (.inl (2, rsX2))) (zr (zr (zr (zr (zr s26 n27) (n27 + 1)) (n27 + 2)) (n27 + 3)) (n27 + 4)) (n27 + 5) (n27 + 4) x1).bind fun ⟨t45, s46, n47⟩ => (dR t45 10 a 4 (some (n27 + 4))).bind fun t49 => X10_init_b106 a r2 FU 0 t49 s46 n47
set_option maxRecDepth 4000 in
set_option maxHeartbeats 1000000 in
theorem X10_init_ok {D : Nat} {τ : Tau} {σ : Sig} {nx : Nat} {a : Nat} {r2 : Nat} {x1 : Int32} {rh : Hp} (hD : 3 ≤ D) (H : X10_init_f τ σ nx a r2 x1 = some rh) : Ok D 34 2684 yX10_init cX10_init 4 none [.ref a, .int x1, .ref r2] (τ, σ, nx) none rh := by
  refine ok_of (by decide +kernel) rfl (Nat.le_of_ble_eq_true rfl) (fun K X hF hE hN L0 hL0 => ?_)
  obtain rfl : [some (.ref a), some (.int x1), some (.ref r2), none] = L0 := hL0
  have hF : Fx K X cX10_init 4 RX10 D 34 2684 := hF
  refine g_p (S' := [.ref a]) hF tX10_init_ok 0 1 rfl rfl rfl rfl ?_
  refine g_oi hF mlX10_3 (dAt tX10_init_ok 1 rfl rfl) (by omega) (Nat.le_of_ble_eq_true rfl) ?_
  refine g_p (S' := [.ref a]) hF tX10_init_ok 2 1 rfl rfl rfl rfl ?_
  refine g_new (ci := 4) hF tyX4 (dAt tX10_init_ok 3 rfl rfl) rfl tyX4_ok clX10_9 inX4 icX4 rfl dvX4 (by decide) (by decide) ?_
  refine g_p (S' := [.ref nx, .ref nx, .ref a]) hF tX10_init_ok 4 1 rfl rfl rfl rfl ?_
  obtain ⟨⟨t1, s2, n3⟩, e4, H⟩ := ob H
  refine g_cIN (S := [.ref nx, .ref a]) hF (X4_init_ok (Nat.le_refl _) e4 K) mbX4_init miX4_init nlX10_11 (by omega) (by decide) (dAt tX10_init_ok 5 rfl rfl) rfl rfl (Nat.le_of_ble_eq_true rfl) rfl rfl (by decide) (by decide) rfl ?_
  obtain ⟨t5, e6, H⟩ := ob H
  refine g_dpR (some nx) hF (dAt tX10_init_ok 6 rfl rfl) flX10_12 (Or.inr ⟨rfl, hN, _, _, rfl⟩) (Or.inl ⟨_, rfl⟩) e6 ?_
  refine g_p (S' := [.ref a]) hF tX10_init_ok 7 1 rfl rfl rfl rfl ?_
  refine g_new (ci := 3) hF tyX3 (dAt tX10_init_ok 8 rfl rfl) rfl tyX3_ok clX10_18 inX3 icX3 rfl dvX3 (by decide) (by decide) ?_
  refine g_p (S' := [.ref n3, .ref n3, .ref a]) hF tX10_init_ok 9 1 rfl rfl rfl rfl ?_
  obtain ⟨⟨t7, s8, n9⟩, e10, H⟩ := ob H
  refine g_cIN (S := [.ref n3, .ref a]) hF (X3_init_ok (Nat.le_refl _) e10 K) mbX3_init miX3_init nlX10_20 (by omega) (by decide) (dAt tX10_init_ok 10 rfl rfl) rfl rfl (Nat.le_of_ble_eq_true rfl) rfl rfl (by decide) (by decide) rfl ?_
  obtain ⟨t11, e12, H⟩ := ob H
  refine g_dpR (some n3) hF (dAt tX10_init_ok 11 rfl rfl) flX10_21 (Or.inr ⟨rfl, hN, _, _, rfl⟩) (Or.inl ⟨_, rfl⟩) e12 ?_
  refine g_p (S' := [.ref a]) hF tX10_init_ok 12 1 rfl rfl rfl rfl ?_
  refine g_new (ci := 9) hF tyX9 (dAt tX10_init_ok 13 rfl rfl) rfl tyX9_ok clX10_25 inX9 icX9 rfl dvX9 (by decide) (by decide) ?_
  refine g_p (S' := [.ref n9, .ref n9, .ref a]) hF tX10_init_ok 14 1 rfl rfl rfl rfl ?_
  obtain ⟨⟨t13, s14, n15⟩, e16, H⟩ := ob H
  refine g_cI (S := [.ref n9, .ref a]) hF (X9_init_ok (Nat.le_refl _) e16 K) mbX9_init miX9_init mlX10_27 (by omega) (by decide) (dAt tX10_init_ok 15 rfl rfl) rfl rfl (Nat.le_of_ble_eq_true rfl) rfl rfl (by decide) (by decide) rfl ?_
  obtain ⟨t17, e18, H⟩ := ob H
  refine g_dpR (some n9) hF (dAt tX10_init_ok 16 rfl rfl) flX10_28 (Or.inr ⟨rfl, hN, _, _, rfl⟩) (Or.inl ⟨_, rfl⟩) e18 ?_
  refine g_p (S' := [.ref a]) hF tX10_init_ok 17 1 rfl rfl rfl rfl ?_
  refine g_new (ci := 8) hF tyX8 (dAt tX10_init_ok 18 rfl rfl) rfl tyX8_ok clX10_32 inX8 icX8 rfl dvX8 (by decide) (by decide) ?_
  refine g_p (S' := [.ref n15, .ref n15, .ref a]) hF tX10_init_ok 19 1 rfl rfl rfl rfl ?_
  obtain ⟨⟨t19, s20, n21⟩, e22, H⟩ := ob H
  refine g_cIN (S := [.ref n15, .ref a]) hF (X8_init_ok (Nat.le_refl _) e22 K) mbX8_init miX8_init nlX10_34 (by omega) (by decide) (dAt tX10_init_ok 20 rfl rfl) rfl rfl (Nat.le_of_ble_eq_true rfl) rfl rfl (by decide) (by decide) rfl ?_
  obtain ⟨t23, e24, H⟩ := ob H
  refine g_dpR (some n15) hF (dAt tX10_init_ok 21 rfl rfl) flX10_35 (Or.inr ⟨rfl, hN, _, _, rfl⟩) (Or.inl ⟨_, rfl⟩) e24 ?_
  refine g_p (S' := [.ref a]) hF tX10_init_ok 22 1 rfl rfl rfl rfl ?_
  refine g_new (ci := 1) hF tyX1 (dAt tX10_init_ok 23 rfl rfl) rfl tyX1_ok clX10_39 inX1 icX1 rfl dvX1 (by decide) (by decide) ?_
  refine g_p (S' := [.ref n21, .ref n21, .ref a]) hF tX10_init_ok 24 1 rfl rfl rfl rfl ?_
  obtain ⟨⟨t25, s26, n27⟩, e28, H⟩ := ob H
  refine g_cIN (S := [.ref n21, .ref a]) hF (X1_init_ok (Nat.le_refl _) e28 K) mbX1_init miX1_init nlX10_41 (by omega) (by decide) (dAt tX10_init_ok 25 rfl rfl) rfl rfl (Nat.le_of_ble_eq_true rfl) rfl rfl (by decide) (by decide) rfl ?_
  obtain ⟨t29, e30, H⟩ := ob H
  refine g_dpR (some n21) hF (dAt tX10_init_ok 26 rfl rfl) flX10_42 (Or.inr ⟨rfl, hN, _, _, rfl⟩) (Or.inl ⟨_, rfl⟩) e30 ?_
  refine g_p (S' := [.int 6, .ref a]) hF tX10_init_ok 27 2 rfl rfl rfl rfl ?_
  refine g_newR (ci := 7) (tj := 2) (N := 6) hF (dAt tX10_init_ok 29 rfl rfl) clX10_46 hF.kx.2.2.2.2.2.2.2.2.2.2.2.1 rfl (by decide) (by decide) (by decide) (by decide) (by decide) ?_
  obtain ⟨t31, e32, H⟩ := ob H
  refine g_dpR (some n27) hF (dAt tX10_init_ok 30 rfl rfl) flX10_48 (Or.inr ⟨rfl, hN, _, _, rfl⟩) (Or.inr ⟨_, rfl⟩) e32 ?_
  refine g_p (S' := [.int 8, .ref a]) hF tX10_init_ok 31 2 rfl rfl rfl rfl ?_
  obtain ⟨N33, e34, H⟩ := ob H
  obtain ⟨pe34, qe34, re34⟩ := nwI_some e34
  refine g_newI (M := 8) hF (dAt tX10_init_ok 33 rfl rfl) ac_int pe34 qe34 re34 (by decide) (by decide) (by decide) ?_
  obtain ⟨t35, e36, H⟩ := ob H
  refine g_dpR (some (n27 + 1)) hF (dAt tX10_init_ok 34 rfl rfl) flX10_52 (Or.inr ⟨rfl, hN, _, _, rfl⟩) (Or.inr ⟨_, rfl⟩) e36 ?_
  refine g_p (S' := [.int 32, .ref a]) hF tX10_init_ok 35 2 rfl rfl rfl rfl ?_
  obtain ⟨N37, e38, H⟩ := ob H
  obtain ⟨pe38, qe38, re38⟩ := nwI_some e38
  refine g_newI (M := 32) hF (dAt tX10_init_ok 37 rfl rfl) ac_int pe38 qe38 re38 (by decide) (by decide) (by decide) ?_
  obtain ⟨t39, e40, H⟩ := ob H
  refine g_dpR (some (n27 + 2)) hF (dAt tX10_init_ok 38 rfl rfl) flX10_56 (Or.inr ⟨rfl, hN, _, _, rfl⟩) (Or.inr ⟨_, rfl⟩) e40 ?_
  refine g_p (S' := [.int 12, .ref a]) hF tX10_init_ok 39 2 rfl rfl rfl rfl ?_
  obtain ⟨N41, e42, H⟩ := ob H
  obtain ⟨pe42, qe42, re42⟩ := nwI_some e42
  refine g_newI (M := 12) hF (dAt tX10_init_ok 41 rfl rfl) ac_int pe42 qe42 re42 (by decide) (by decide) (by decide) ?_
  obtain ⟨t43, e44, H⟩ := ob H
  refine g_dpR (some (n27 + 3)) hF (dAt tX10_init_ok 42 rfl rfl) flX10_59 (Or.inr ⟨rfl, hN, _, _, rfl⟩) (Or.inr ⟨_, rfl⟩) e44 ?_
  refine g_p (S' := [.ref a]) hF tX10_init_ok 43 1 rfl rfl rfl rfl ?_
  refine g_new (ci := 2) hF tyX2 (dAt tX10_init_ok 44 rfl rfl) rfl tyX2_ok clX10_62 inX2 icX2 rfl dvX2 (by decide) (by decide) ?_
  refine g_p (S' := [.int x1, .ref (n27 + 4), .ref (n27 + 4), .ref a]) hF tX10_init_ok 45 2 rfl rfl rfl rfl ?_
  obtain ⟨⟨t45, s46, n47⟩, e48, H⟩ := ob H
  refine g_cI (S := [.ref (n27 + 4), .ref a]) hF (X2_init_ok (Nat.le_refl _) e48 K) mbX2_init miX2_init mlX10_64 (by omega) (by decide) (dAt tX10_init_ok 47 rfl rfl) rfl rfl (Nat.le_of_ble_eq_true rfl) rfl rfl (by decide) (by decide) rfl ?_
  obtain ⟨t49, e50, H⟩ := ob H
  refine g_dpR (some (n27 + 4)) hF (dAt tX10_init_ok 48 rfl rfl) flX10_67 (Or.inr ⟨rfl, hN, _, _, rfl⟩) (Or.inl ⟨_, rfl⟩) e50 ?_
  refine g_p (L' := [some (.ref a), some (.int x1), some (.ref r2), some (.int 0)]) (S' := []) hF tX10_init_ok 49 2 rfl rfl rfl rfl ?_
  refine g_m [true, false, true, true] rfl ?_
  exact X10_init_b106_ok hD hF hN hE FU _ _ _ _ H
noncomputable def X11_init_f (τ : Tau) (σ : Sig) (nx : Nat) (a : Nat) : Option (Hp) := (nwI 1 1).bind fun N1 => (nwI 0 0).bind fun N3 => (nwI 0 0).bind fun N5 => (X7_init_f (al (al (al (al τ nx (.inl (7, rsX7))) (nx + 1) (.inr (.inl N1))) (nx + 2) (.inr (.inl N3))) (nx + 3) (.inr (.inl N5))) (zr (zr (zr (zr σ nx) (nx + 1)) (nx + 2)) (nx + 3)) (nx + 4) nx (nx + 1) (nx + 2) (nx + 3) 0).bind fun ⟨t7, s8, n9⟩ => (X10_init_f (al t7 n9 (.inl (10, rsX10))) (zr s8 n9) (n9 + 1) n9 nx 400).bind fun ⟨t11, s12, n13⟩ => (dR t11 11 a 0 (some n9)).bind fun t15 => (X10_init_f (al t15 n13 (.inl (10, rsX10))) (zr s12 n13) (n13 + 1) n13 nx 0).bind fun ⟨t17, s18, n19⟩ => (dR t17 11 a 1 (some n13)).bind fun t21 => (dR t21 11 a 2 none).bind fun t23 => (X6_init_f (al t23 n19 (.inl (6, rsX6))) (zr s18 n19) (n19 + 1) n19).bind fun ⟨t25, s26, n27⟩ => (dR t25 11 a 3 (some n19)).bind fun t29 => (X5_init_f (al t29 n27 (.inl (5, rsX5))) (zr s26 n27) (n27 + 1) n27).bind fun ⟨t31, s32, n33⟩ => (dR t31 11 a 4 (some n27)).bind fun t35 => some (t35, s32, n33)
set_option maxRecDepth 4000 in
set_option maxHeartbeats 1000000 in
theorem X11_init_ok {D : Nat} {τ : Tau} {σ : Sig} {nx : Nat} {a : Nat} {rh : Hp} (hD : 4 ≤ D) (H : X11_init_f τ σ nx a = some rh) : Ok D 83 7444 yX11_init cX11_init 2 none [.ref a] (τ, σ, nx) none rh := by
  refine ok_of (by decide +kernel) rfl (Nat.le_of_ble_eq_true rfl) (fun K X hF hE hN L0 hL0 => ?_)
  obtain rfl : [some (.ref a), none] = L0 := hL0
  have hF : Fx K X cX11_init 2 RX11 D 83 7444 := hF
  refine g_p (S' := [.ref a]) hF tX11_init_ok 0 1 rfl rfl rfl rfl ?_
  refine g_oi hF mlX11_3 (dAt tX11_init_ok 1 rfl rfl) (by omega) (Nat.le_of_ble_eq_true rfl) ?_
  refine g_new (ci := 7) hF tyX7 (dAt tX11_init_ok 2 rfl rfl) rfl tyX7_ok clX11_9 inX7 icX7 rfl dvX7 (by decide) (by decide) ?_
  refine g_p (S' := [.int 1, .int 0, .ref nx, .ref nx]) hF tX11_init_ok 3 3 rfl rfl rfl rfl ?_
  obtain ⟨N1, e2, H⟩ := ob H
  obtain ⟨pe2, qe2, re2⟩ := nwI_some e2
  refine g_newI (M := 1) hF (dAt tX11_init_ok 6 rfl rfl) ac_int pe2 qe2 re2 (by decide) (by decide) (by decide) ?_
  refine g_p (S' := [.int 0, .ref (nx + 1), .int 0, .ref nx, .ref nx]) hF tX11_init_ok 7 1 rfl rfl rfl rfl ?_
  obtain ⟨N3, e4, H⟩ := ob H
  obtain ⟨pe4, qe4, re4⟩ := nwI_some e4
  refine g_newI (M := 0) hF (dAt tX11_init_ok 8 rfl rfl) ac_int pe4 qe4 re4 (by decide) (by decide) (by decide) ?_
  refine g_p (S' := [.int 0, .ref (nx + 2), .ref (nx + 1), .int 0, .ref nx, .ref nx]) hF tX11_init_ok 9 1 rfl rfl rfl rfl ?_
  obtain ⟨N5, e6, H⟩ := ob H
  obtain ⟨pe6, qe6, re6⟩ := nwI_some e6
  refine g_newI (M := 0) hF (dAt tX11_init_ok 10 rfl rfl) ac_int pe6 qe6 re6 (by decide) (by decide) (by decide) ?_
  obtain ⟨⟨t7, s8, n9⟩, e10, H⟩ := ob H
  refine g_cI (S := [.ref nx]) hF (X7_init_ok (Nat.le_refl _) e10 K) mbX7_init miX7_init mlX11_11 (by omega) (by decide) (dAt tX11_init_ok 11 rfl rfl) rfl rfl (Nat.le_of_ble_eq_true rfl) rfl rfl (by decide) (by decide) rfl ?_
  refine g_p (L' := [some (.ref a), some (.ref nx)]) (S' := [.ref a]) hF tX11_init_ok 12 2 rfl rfl rfl rfl ?_
  refine g_new (ci := 10) hF tyX10 (dAt tX11_init_ok 14 rfl rfl) rfl tyX10_ok clX11_14 inX10 icX10 rfl dvX10 (by decide) (by decide) ?_
  refine g_p (S' := [.ref nx, .int 400, .ref n9, .ref n9, .ref a]) hF tX11_init_ok 15 3 rfl rfl rfl rfl ?_
  obtain ⟨⟨t11, s12, n13⟩, e14, H⟩ := ob H
  refine g_cI (S := [.ref n9, .ref a]) hF (X10_init_ok (Nat.le_refl _) e14 K) mbX10_init miX10_init mlX11_16 (by omega) (by decide) (dAt tX11_init_ok 18 rfl rfl) rfl rfl (Nat.le_of_ble_eq_true rfl) rfl rfl (by decide) (by decide) rfl ?_
  obtain ⟨t15, e16, H⟩ := ob H
  refine g_dpR (some n9) hF (dAt tX11_init_ok 19 rfl rfl) flX11_19 (Or.inr ⟨rfl, hN, _, _, rfl⟩) (Or.inl ⟨_, rfl⟩) e16 ?_
  refine g_p (S' := [.ref a]) hF tX11_init_ok 20 1 rfl rfl rfl rfl ?_
  refine g_new (ci := 10) hF tyX10 (dAt tX11_init_ok 21 rfl rfl) rfl tyX10_ok clX11_14 inX10 icX10 rfl dvX10 (by decide) (by decide) ?_
  refine g_p (S' := [.ref nx, .int 0, .ref n13, .ref n13, .ref a]) hF tX11_init_ok 22 3 rfl rfl rfl rfl ?_
  obtain ⟨⟨t17, s18, n19⟩, e20, H⟩ := ob H
  refine g_cI (S := [.ref n13, .ref a]) hF (X10_init_ok (Nat.le_refl _) e20 K) mbX10_init miX10_init mlX11_16 (by omega) (by decide) (dAt tX11_init_ok 25 rfl rfl) rfl rfl (Nat.le_of_ble_eq_true rfl) rfl rfl (by decide) (by decide) rfl ?_
  obtain ⟨t21, e22, H⟩ := ob H
  refine g_dpR (some n13) hF (dAt tX11_init_ok 26 rfl rfl) flX11_23 (Or.inr ⟨rfl, hN, _, _, rfl⟩) (Or.inl ⟨_, rfl⟩) e22 ?_
  refine g_p (S' := [.null, .ref a]) hF tX11_init_ok 27 2 rfl rfl rfl rfl ?_
  obtain ⟨t23, e24, H⟩ := ob H
  refine g_dpR none hF (dAt tX11_init_ok 29 rfl rfl) flX11_26 (Or.inl rfl) (Or.inl ⟨_, rfl⟩) e24 ?_
  refine g_p (S' := [.ref a]) hF tX11_init_ok 30 1 rfl rfl rfl rfl ?_
  refine g_new (ci := 6) hF tyX6 (dAt tX11_init_ok 31 rfl rfl) rfl tyX6_ok clX11_29 inX6 icX6 rfl dvX6 (by decide) (by decide) ?_
  refine g_p (S' := [.ref n19, .ref n19, .ref a]) hF tX11_init_ok 32 1 rfl rfl rfl rfl ?_
  obtain ⟨⟨t25, s26, n27⟩, e28, H⟩ := ob H
  refine g_cIN (S := [.ref n19, .ref a]) hF (X6_init_ok (Nat.le_refl _) e28 K) mbX6_init miX6_init nlX11_31 (by omega) (by decide) (dAt tX11_init_ok 33 rfl rfl) rfl rfl (Nat.le_of_ble_eq_true rfl) rfl rfl (by decide) (by decide) rfl ?_
  obtain ⟨t29, e30, H⟩ := ob H
  refine g_dpR (some n19) hF (dAt tX11_init_ok 34 rfl rfl) flX11_32 (Or.inr ⟨rfl, hN, _, _, rfl⟩) (Or.inl ⟨_, rfl⟩) e30 ?_
  refine g_p (S' := [.ref a]) hF tX11_init_ok 35 1 rfl rfl rfl rfl ?_
  refine g_new (ci := 5) hF tyX5 (dAt tX11_init_ok 36 rfl rfl) rfl tyX5_ok clX11_36 inX5 icX5 rfl dvX5 (by decide) (by decide) ?_
  refine g_p (S' := [.ref n27, .ref n27, .ref a]) hF tX11_init_ok 37 1 rfl rfl rfl rfl ?_
  obtain ⟨⟨t31, s32, n33⟩, e34, H⟩ := ob H
  refine g_cIN (S := [.ref n27, .ref a]) hF (X5_init_ok (Nat.le_refl _) e34 K) mbX5_init miX5_init nlX11_38 (by omega) (by decide) (dAt tX11_init_ok 38 rfl rfl) rfl rfl (Nat.le_of_ble_eq_true rfl) rfl rfl (by decide) (by decide) rfl ?_
  obtain ⟨t35, e36, H⟩ := ob H
  refine g_dpR (some n27) hF (dAt tX11_init_ok 39 rfl rfl) flX11_39 (Or.inr ⟨rfl, hN, _, _, rfl⟩) (Or.inl ⟨_, rfl⟩) e36 ?_
  exact g_vret hF (en_vh H hE) (dAt tX11_init_ok 40 rfl rfl) (by decide) (by decide)

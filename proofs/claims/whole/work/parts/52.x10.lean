/-! A world copied. -/
noncomputable def X10_copyFrom_b68 (a : Nat) (r1 : Nat) : Nat → Int32 → Tau → Sig → Nat → Option (Hp)
  | 0, _, _, _, _ => none
  | fu + 1, x2, τ, σ, nx => (gRs τ 10 a 6).bind fun b1 => (lnR τ 7 b1).bind fun v3 => if v3 ≤ x2 then (some (τ, σ, nx)) else ((gRs τ 10 a 6).bind fun b6 => (gRs τ 10 r1 6).bind fun b8 => (ldrD τ 7 b8 x2).bind fun r10 => (strD τ 7 b6 x2 r10).bind fun t12 => X10_copyFrom_b68 a r1 fu (x2 + 1) t12 σ nx)
set_option maxRecDepth 4000 in
set_option maxHeartbeats 1000000 in
theorem X10_copyFrom_b68_ok {K : Kt} {X : Cx} {D : Nat} {a : Nat} {r1 : Nat} {rh : Hp} (hD : 2 ≤ D) (hF : Fx K X cX10_copyFrom 3 RX10 D 0 0) (hE : En K X none 0 0 none rh) : ∀ (fu : Nat) (x2 : Int32) (τ : Tau) (σ : Sig) (nx : Nat), X10_copyFrom_b68 a r1 fu x2 τ σ nx = some rh → G K X 3 0 0 68 [some (.ref a), some (.ref r1), some (.int x2)] [] (τ, σ, nx)
  | 0, _, _, _, _, H => nomatch H
  | fu + 1, x2, τ, σ, nx, H => by
    refine g_p (S' := [.ref a, .int x2]) hF tX10_copyFrom_ok 32 2 rfl rfl rfl rfl ?_
    obtain ⟨b1, e2, H⟩ := ob H
    refine g_dgR hF (dAt tX10_copyFrom_ok 34 rfl rfl) flX10_48 e2 ?_
    obtain ⟨v3, e4, H⟩ := ob H
    refine g_dlnR (tj := 2) hF rfl (dAt tX10_copyFrom_ok 35 rfl rfl) e4 ?_
    obtain ⟨Ht5, Hf5⟩ := oi H
    refine g_icmp_ge hF (dAt tX10_copyFrom_ok 36 rfl rfl) rfl (fun c5 => ?_) (fun c5 => ?_)
    · have H := Ht5 c5
      exact g_vret hF (en_vh H hE) (dAt tX10_copyFrom_ok 47 rfl rfl) (by decide) (by decide)
    · have H := Hf5 c5
      refine g_p (S' := [.ref a]) hF tX10_copyFrom_ok 37 1 rfl rfl rfl rfl ?_
      obtain ⟨b6, e7, H⟩ := ob H
      refine g_dgR hF (dAt tX10_copyFrom_ok 38 rfl rfl) flX10_48 e7 ?_
      refine g_p (S' := [.ref r1, .int x2, .ref b6]) hF tX10_copyFrom_ok 39 2 rfl rfl rfl rfl ?_
      obtain ⟨b8, e9, H⟩ := ob H
      refine g_dgR hF (dAt tX10_copyFrom_ok 41 rfl rfl) flX10_48 e9 ?_
      refine g_p (S' := [.int x2, .ref b8, .int x2, .ref b6]) hF tX10_copyFrom_ok 42 1 rfl rfl rfl rfl ?_
      obtain ⟨r10, e11, H⟩ := ob H
      refine g_drld (tj := 2) hF rfl (dAt tX10_copyFrom_ok 43 rfl rfl) e11 ?_
      obtain ⟨t12, e13, H⟩ := ob H
      refine g_drst r10 (tj := 2) hF rfl rfl (dAt tX10_copyFrom_ok 44 rfl rfl) e13 ?_
      refine g_p (L' := [some (.ref a), some (.ref r1), some (.int (x2 + 1))]) (S' := []) hF tX10_copyFrom_ok 45 1 rfl rfl rfl rfl ?_
      refine g_goto hF (dAt tX10_copyFrom_ok 46 rfl rfl) rfl ?_
      exact X10_copyFrom_b68_ok hD hF hE fu _ _ _ _ H
noncomputable def X10_copyFrom_f (τ : Tau) (σ : Sig) (nx : Nat) (a : Nat) (r1 : Nat) : Option (Hp) := (gRs τ 10 a 0).bind fun b1 => (gRs τ 10 r1 0).bind fun b3 => chk (ShX4 τ b1) (chk (ShX4 τ b3) ((X4_copyFrom_f b1 b3 σ).bind fun s7 => (gRs τ 10 a 1).bind fun b9 => (gRs τ 10 r1 1).bind fun b11 => chk (ShX3 τ b9) (chk (ShX3 τ b11) ((X3_copyFrom_f b9 b11 s7).bind fun s15 => (gRs τ 10 a 2).bind fun b17 => (gRs τ 10 r1 2).bind fun b19 => chk (ShX9 τ b17) (chk (ShX9 τ b19) ((X9_copyFrom_f b17 b19 s15).bind fun s23 => (gRs τ 10 a 3).bind fun b25 => (gRs τ 10 r1 3).bind fun b27 => chk (ShX8 τ b25) (chk (ShX8 τ b27) ((X8_copyFrom_f b25 b27 s23).bind fun s31 => (gRs τ 10 a 4).bind fun b33 => (gRs τ 10 r1 4).bind fun b35 => chk (ShX2 τ b33 (tl τ b33 1)) (chk (ShX2 τ b35 (tl τ b35 1)) ((X2_copyFrom_f b33 (tl τ b33 1) b35 (tl τ b35 1) s31).bind fun s39 => (gRs τ 10 a 5).bind fun b41 => (gRs τ 10 r1 5).bind fun b43 => chk (∃ rs, τ b41 = some (.inl (1, rs))) ((X1_copyFrom_f τ s39 nx b41 b43).bind fun ⟨t46, s47, n48⟩ => X10_copyFrom_b68 a r1 FU 0 t46 s47 n48)))))))))))
set_option maxRecDepth 4000 in
set_option maxHeartbeats 1000000 in
theorem X10_copyFrom_ok {D : Nat} {τ : Tau} {σ : Sig} {nx : Nat} {a : Nat} {r1 : Nat} {rh : Hp} (hD : 2 ≤ D) (H : X10_copyFrom_f τ σ nx a r1 = some rh) : Ok D 0 0 yX10_copyFrom cX10_copyFrom 3 none [.ref a, .ref r1] (τ, σ, nx) none rh := by
  refine ok_of (by decide +kernel) rfl (Nat.le_of_ble_eq_true rfl) (fun K X hF hE hN L0 hL0 => ?_)
  obtain rfl : [some (.ref a), some (.ref r1), none] = L0 := hL0
  have hF : Fx K X cX10_copyFrom 3 RX10 D 0 0 := hF
  refine g_p (S' := [.ref a]) hF tX10_copyFrom_ok 0 1 rfl rfl rfl rfl ?_
  obtain ⟨b1, e2, H⟩ := ob H
  refine g_dgR hF (dAt tX10_copyFrom_ok 1 rfl rfl) flX10_12 e2 ?_
  refine g_p (S' := [.ref r1, .ref b1]) hF tX10_copyFrom_ok 2 1 rfl rfl rfl rfl ?_
  obtain ⟨b3, e4, H⟩ := ob H
  refine g_dgR hF (dAt tX10_copyFrom_ok 3 rfl rfl) flX10_12 e4 ?_
  obtain ⟨hc5, H⟩ := oc H
  obtain ⟨hc6, H⟩ := oc H
  obtain ⟨s7, e8, H⟩ := ob H
  refine g_cV (S := []) hF (X4_copyFrom_ok (Nat.le_refl _) hc5 hc6 e8 K) mbX4_copyFrom mvX4_copyFrom mlX10_71 (by omega) (by decide) (dAt tX10_copyFrom_ok 4 rfl rfl) hc5.1 rfl rfl rfl (Nat.le_of_ble_eq_true rfl) rfl rfl (by decide) (by decide) rfl ?_
  refine g_p (S' := [.ref a]) hF tX10_copyFrom_ok 5 1 rfl rfl rfl rfl ?_
  obtain ⟨b9, e10, H⟩ := ob H
  refine g_dgR hF (dAt tX10_copyFrom_ok 6 rfl rfl) flX10_21 e10 ?_
  refine g_p (S' := [.ref r1, .ref b9]) hF tX10_copyFrom_ok 7 1 rfl rfl rfl rfl ?_
  obtain ⟨b11, e12, H⟩ := ob H
  refine g_dgR hF (dAt tX10_copyFrom_ok 8 rfl rfl) flX10_21 e12 ?_
  obtain ⟨hc13, H⟩ := oc H
  obtain ⟨hc14, H⟩ := oc H
  obtain ⟨s15, e16, H⟩ := ob H
  refine g_cV (S := []) hF (X3_copyFrom_ok (Nat.le_refl _) hc13 hc14 e16 K) mbX3_copyFrom mvX3_copyFrom mlX10_75 (by omega) (by decide) (dAt tX10_copyFrom_ok 9 rfl rfl) hc13.1 rfl rfl rfl (Nat.le_of_ble_eq_true rfl) rfl rfl (by decide) (by decide) rfl ?_
  refine g_p (S' := [.ref a]) hF tX10_copyFrom_ok 10 1 rfl rfl rfl rfl ?_
  obtain ⟨b17, e18, H⟩ := ob H
  refine g_dgR hF (dAt tX10_copyFrom_ok 11 rfl rfl) flX10_28 e18 ?_
  refine g_p (S' := [.ref r1, .ref b17]) hF tX10_copyFrom_ok 12 1 rfl rfl rfl rfl ?_
  obtain ⟨b19, e20, H⟩ := ob H
  refine g_dgR hF (dAt tX10_copyFrom_ok 13 rfl rfl) flX10_28 e20 ?_
  obtain ⟨hc21, H⟩ := oc H
  obtain ⟨hc22, H⟩ := oc H
  obtain ⟨s23, e24, H⟩ := ob H
  refine g_cV (S := []) hF (X9_copyFrom_ok (Nat.le_refl _) hc21 hc22 e24 K) mbX9_copyFrom mvX9_copyFrom mlX10_78 (by omega) (by decide) (dAt tX10_copyFrom_ok 14 rfl rfl) hc21.1 rfl rfl rfl (Nat.le_of_ble_eq_true rfl) rfl rfl (by decide) (by decide) rfl ?_
  refine g_p (S' := [.ref a]) hF tX10_copyFrom_ok 15 1 rfl rfl rfl rfl ?_
  obtain ⟨b25, e26, H⟩ := ob H
  refine g_dgR hF (dAt tX10_copyFrom_ok 16 rfl rfl) flX10_35 e26 ?_
  refine g_p (S' := [.ref r1, .ref b25]) hF tX10_copyFrom_ok 17 1 rfl rfl rfl rfl ?_
  obtain ⟨b27, e28, H⟩ := ob H
  refine g_dgR hF (dAt tX10_copyFrom_ok 18 rfl rfl) flX10_35 e28 ?_
  obtain ⟨hc29, H⟩ := oc H
  obtain ⟨hc30, H⟩ := oc H
  obtain ⟨s31, e32, H⟩ := ob H
  refine g_cV (S := []) hF (X8_copyFrom_ok (Nat.le_refl _) hc29 hc30 e32 K) mbX8_copyFrom mvX8_copyFrom mlX10_81 (by omega) (by decide) (dAt tX10_copyFrom_ok 19 rfl rfl) hc29 rfl rfl rfl (Nat.le_of_ble_eq_true rfl) rfl rfl (by decide) (by decide) rfl ?_
  refine g_p (S' := [.ref a]) hF tX10_copyFrom_ok 20 1 rfl rfl rfl rfl ?_
  obtain ⟨b33, e34, H⟩ := ob H
  refine g_dgR hF (dAt tX10_copyFrom_ok 21 rfl rfl) flX10_67 e34 ?_
  refine g_p (S' := [.ref r1, .ref b33]) hF tX10_copyFrom_ok 22 1 rfl rfl rfl rfl ?_
  obtain ⟨b35, e36, H⟩ := ob H
  refine g_dgR hF (dAt tX10_copyFrom_ok 23 rfl rfl) flX10_67 e36 ?_
  obtain ⟨hc37, H⟩ := oc H
  obtain ⟨hc38, H⟩ := oc H
  obtain ⟨s39, e40, H⟩ := ob H
  refine g_cV (S := []) hF (X2_copyFrom_ok (Nat.le_refl _) hc37 hc38 e40 K) mbX2_copyFrom mvX2_copyFrom mlX10_84 (by omega) (by decide) (dAt tX10_copyFrom_ok 24 rfl rfl) hc37.1 rfl rfl rfl (Nat.le_of_ble_eq_true rfl) rfl rfl (by decide) (by decide) rfl ?_
  refine g_p (S' := [.ref a]) hF tX10_copyFrom_ok 25 1 rfl rfl rfl rfl ?_
  obtain ⟨b41, e42, H⟩ := ob H
  refine g_dgR hF (dAt tX10_copyFrom_ok 26 rfl rfl) flX10_42 e42 ?_
  refine g_p (S' := [.ref r1, .ref b41]) hF tX10_copyFrom_ok 27 1 rfl rfl rfl rfl ?_
  obtain ⟨b43, e44, H⟩ := ob H
  refine g_dgR hF (dAt tX10_copyFrom_ok 28 rfl rfl) flX10_42 e44 ?_
  obtain ⟨hc45, H⟩ := oc H
  obtain ⟨⟨t46, s47, n48⟩, e49, H⟩ := ob H
  refine g_cV (S := []) hF (X1_copyFrom_ok (Nat.le_refl _) e49 K) mbX1_copyFrom mvX1_copyFrom mlX10_87 (by omega) (by decide) (dAt tX10_copyFrom_ok 29 rfl rfl) hc45.choose_spec rfl rfl rfl (Nat.le_of_ble_eq_true rfl) rfl rfl (by decide) (by decide) rfl ?_
  refine g_p (L' := [some (.ref a), some (.ref r1), some (.int 0)]) (S' := []) hF tX10_copyFrom_ok 30 2 rfl rfl rfl rfl ?_
  exact X10_copyFrom_b68_ok hD hF hE FU _ _ _ _ H

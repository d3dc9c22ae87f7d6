/-! Bargains. -/
noncomputable def X1_copyFrom_b10 (a : Nat) (r1 : Nat) : Nat → Int32 → Tau → Sig → Nat → Option (Hp)
  | 0, _, _, _, _ => none
  | fu + 1, x2, τ, σ, nx => (gRs τ 1 a 1).bind fun b1 => (lnR τ 0 b1).bind fun v3 => if v3 ≤ x2 then (some (τ, σ, nx)) else ((gRs τ 1 a 1).bind fun b6 => (gRs τ 1 r1 1).bind fun b8 => (ldrD τ 0 b8 x2).bind fun r10 => (strD τ 0 b6 x2 r10).bind fun t12 => X1_copyFrom_b10 a r1 fu (x2 + 1) t12 σ nx)
set_option maxRecDepth 4000 in
set_option maxHeartbeats 1000000 in
theorem X1_copyFrom_b10_ok {K : Kt} {X : Cx} {D : Nat} {a : Nat} {r1 : Nat} {rh : Hp} (hD : 1 ≤ D) (hF : Fx K X cX1_copyFrom 3 RX1 D 0 0) (hE : En K X none 0 0 none rh) : ∀ (fu : Nat) (x2 : Int32) (τ : Tau) (σ : Sig) (nx : Nat), X1_copyFrom_b10 a r1 fu x2 τ σ nx = some rh → G K X 3 0 0 10 [some (.ref a), some (.ref r1), some (.int x2)] [] (τ, σ, nx)
  | 0, _, _, _, _, H => nomatch H
  | fu + 1, x2, τ, σ, nx, H => by
    refine g_p (S' := [.ref a, .int x2]) hF tX1_copyFrom_ok 6 2 rfl rfl rfl rfl ?_
    obtain ⟨b1, e2, H⟩ := ob H
    refine g_dgR hF (dAt tX1_copyFrom_ok 8 rfl rfl) flX1_11 e2 ?_
    obtain ⟨v3, e4, H⟩ := ob H
    refine g_dlnR (tj := 1) hF rfl (dAt tX1_copyFrom_ok 9 rfl rfl) e4 ?_
    obtain ⟨Ht5, Hf5⟩ := oi H
    refine g_icmp_ge hF (dAt tX1_copyFrom_ok 10 rfl rfl) rfl (fun c5 => ?_) (fun c5 => ?_)
    · have H := Ht5 c5
      exact g_vret hF (en_vh H hE) (dAt tX1_copyFrom_ok 21 rfl rfl) (by decide) (by decide)
    · have H := Hf5 c5
      refine g_p (S' := [.ref a]) hF tX1_copyFrom_ok 11 1 rfl rfl rfl rfl ?_
      obtain ⟨b6, e7, H⟩ := ob H
      refine g_dgR hF (dAt tX1_copyFrom_ok 12 rfl rfl) flX1_11 e7 ?_
      refine g_p (S' := [.ref r1, .int x2, .ref b6]) hF tX1_copyFrom_ok 13 2 rfl rfl rfl rfl ?_
      obtain ⟨b8, e9, H⟩ := ob H
      refine g_dgR hF (dAt tX1_copyFrom_ok 15 rfl rfl) flX1_11 e9 ?_
      refine g_p (S' := [.int x2, .ref b8, .int x2, .ref b6]) hF tX1_copyFrom_ok 16 1 rfl rfl rfl rfl ?_
      obtain ⟨r10, e11, H⟩ := ob H
      refine g_drld (tj := 1) hF rfl (dAt tX1_copyFrom_ok 17 rfl rfl) e11 ?_
      obtain ⟨t12, e13, H⟩ := ob H
      refine g_drst r10 (tj := 1) hF rfl rfl (dAt tX1_copyFrom_ok 18 rfl rfl) e13 ?_
      refine g_p (L' := [some (.ref a), some (.ref r1), some (.int (x2 + 1))]) (S' := []) hF tX1_copyFrom_ok 19 1 rfl rfl rfl rfl ?_
      refine g_goto hF (dAt tX1_copyFrom_ok 20 rfl rfl) rfl ?_
      exact X1_copyFrom_b10_ok hD hF hE fu _ _ _ _ H
noncomputable def X1_copyFrom_f (τ : Tau) (σ : Sig) (nx : Nat) (a : Nat) (r1 : Nat) : Option (Hp) := (gI τ σ 1 r1 0).bind fun v1 => (dI τ σ 1 a 0 v1).bind fun s3 => X1_copyFrom_b10 a r1 FU 0 τ s3 nx
set_option maxRecDepth 4000 in
set_option maxHeartbeats 1000000 in
theorem X1_copyFrom_ok {D : Nat} {τ : Tau} {σ : Sig} {nx : Nat} {a : Nat} {r1 : Nat} {rh : Hp} (hD : 1 ≤ D) (H : X1_copyFrom_f τ σ nx a r1 = some rh) : Ok D 0 0 yX1_copyFrom cX1_copyFrom 3 none [.ref a, .ref r1] (τ, σ, nx) none rh := by
  refine ok_of (by decide +kernel) rfl (Nat.le_of_ble_eq_true rfl) (fun K X hF hE hN L0 hL0 => ?_)
  obtain rfl : [some (.ref a), some (.ref r1), none] = L0 := hL0
  have hF : Fx K X cX1_copyFrom 3 RX1 D 0 0 := hF
  refine g_p (S' := [.ref r1, .ref a]) hF tX1_copyFrom_ok 0 2 rfl rfl rfl rfl ?_
  obtain ⟨v1, e2, H⟩ := ob H
  refine g_dgI hF (dAt tX1_copyFrom_ok 2 rfl rfl) flX1_17 e2 ?_
  obtain ⟨s3, e4, H⟩ := ob H
  refine g_dpI hF (dAt tX1_copyFrom_ok 3 rfl rfl) flX1_17 (Or.inl rfl) e4 ?_
  refine g_p (L' := [some (.ref a), some (.ref r1), some (.int 0)]) (S' := []) hF tX1_copyFrom_ok 4 2 rfl rfl rfl rfl ?_
  exact X1_copyFrom_b10_ok hD hF hE FU _ _ _ _ H
noncomputable def X1_keep_b43 (a : Nat) (r1 : Nat) (τ : Tau) (σ : Sig) (nx : Nat) : Option (Hp) := (gRs τ 1 a 1).bind fun b1 => (gI τ σ 1 a 0).bind fun v3 => (strD τ 0 b1 v3 (some r1)).bind fun t5 => (gI t5 σ 1 a 0).bind fun v7 => (dI t5 σ 1 a 0 (v7 + 1)).bind fun s9 => some (t5, s9, nx)
set_option maxRecDepth 4000 in
set_option maxHeartbeats 1000000 in
theorem X1_keep_b43_ok {K : Kt} {X : Cx} {D : Nat} {a : Nat} {r1 : Nat} {rh : Hp} (hD : 1 ≤ D) (hF : Fx K X cX1_keep 3 RX1 D 0 0) (hE : En K X none 0 0 none rh) {τ : Tau} {σ : Sig} {nx : Nat} (H : X1_keep_b43 a r1 τ σ nx = some rh) : G K X 3 0 0 43 [some (.ref a), some (.ref r1), none] [] (τ, σ, nx) := by
  refine g_p (S' := [.ref a]) hF tX1_keep_ok 24 1 rfl rfl rfl rfl ?_
  obtain ⟨b1, e2, H⟩ := ob H
  refine g_dgR hF (dAt tX1_keep_ok 25 rfl rfl) flX1_11 e2 ?_
  refine g_p (S' := [.ref a, .ref b1]) hF tX1_keep_ok 26 1 rfl rfl rfl rfl ?_
  obtain ⟨v3, e4, H⟩ := ob H
  refine g_dgI hF (dAt tX1_keep_ok 27 rfl rfl) flX1_17 e4 ?_
  refine g_p (S' := [.ref r1, .int v3, .ref b1]) hF tX1_keep_ok 28 1 rfl rfl rfl rfl ?_
  obtain ⟨t5, e6, H⟩ := ob H
  refine g_drst (some r1) (tj := 1) hF rfl rfl (dAt tX1_keep_ok 29 rfl rfl) e6 ?_
  refine g_p (S' := [.ref a, .ref a]) hF tX1_keep_ok 30 2 rfl rfl rfl rfl ?_
  obtain ⟨v7, e8, H⟩ := ob H
  refine g_dgI hF (dAt tX1_keep_ok 32 rfl rfl) flX1_17 e8 ?_
  refine g_p (S' := [.int (v7 + 1), .ref a]) hF tX1_keep_ok 33 2 rfl rfl rfl rfl ?_
  obtain ⟨s9, e10, H⟩ := ob H
  refine g_dpI hF (dAt tX1_keep_ok 35 rfl rfl) flX1_17 (Or.inl rfl) e10 ?_
  exact g_vret hF (en_vh H hE) (dAt tX1_keep_ok 36 rfl rfl) (by decide) (by decide)
noncomputable def X1_keep_b11 (a : Nat) (r1 : Nat) : Nat → Int32 → Tau → Sig → Nat → Option (Hp)
  | 0, _, _, _, _ => none
  | fu + 1, x2, τ, σ, nx => if 60 ≤ x2 then ((dI τ σ 1 a 0 59).bind fun s2 => X1_keep_b43 a r1 τ s2 nx) else ((gRs τ 1 a 1).bind fun b4 => (gRs τ 1 a 1).bind fun b6 => (ldrD τ 0 b6 x2).bind fun r8 => (strD τ 0 b4 (x2 - 1) r8).bind fun t10 => X1_keep_b11 a r1 fu (x2 + 1) t10 σ nx)
set_option maxRecDepth 4000 in
set_option maxHeartbeats 1000000 in
theorem X1_keep_b11_ok {K : Kt} {X : Cx} {D : Nat} {a : Nat} {r1 : Nat} {rh : Hp} (hD : 1 ≤ D) (hF : Fx K X cX1_keep 3 RX1 D 0 0) (hE : En K X none 0 0 none rh) : ∀ (fu : Nat) (x2 : Int32) (τ : Tau) (σ : Sig) (nx : Nat), X1_keep_b11 a r1 fu x2 τ σ nx = some rh → G K X 3 0 0 11 [some (.ref a), some (.ref r1), some (.int x2)] [] (τ, σ, nx)
  | 0, _, _, _, _, H => nomatch H
  | fu + 1, x2, τ, σ, nx, H => by
    refine g_p (S' := [.int 60, .int x2]) hF tX1_keep_ok 6 2 rfl rfl rfl rfl ?_
    obtain ⟨Ht1, Hf1⟩ := oi H
    refine g_icmp_ge hF (dAt tX1_keep_ok 8 rfl rfl) rfl (fun c1 => ?_) (fun c1 => ?_)
    · have H := Ht1 c1
      refine g_p (S' := [.int 59, .ref a]) hF tX1_keep_ok 21 2 rfl rfl rfl rfl ?_
      obtain ⟨s2, e3, H⟩ := ob H
      refine g_dpI hF (dAt tX1_keep_ok 23 rfl rfl) flX1_17 (Or.inl rfl) e3 ?_
      refine g_m [true, true, false] rfl ?_
      exact X1_keep_b43_ok hD hF hE H
    · have H := Hf1 c1
      refine g_p (S' := [.ref a]) hF tX1_keep_ok 9 1 rfl rfl rfl rfl ?_
      obtain ⟨b4, e5, H⟩ := ob H
      refine g_dgR hF (dAt tX1_keep_ok 10 rfl rfl) flX1_11 e5 ?_
      refine g_p (S' := [.ref a, .int (x2 - 1), .ref b4]) hF tX1_keep_ok 11 4 rfl rfl rfl rfl ?_
      obtain ⟨b6, e7, H⟩ := ob H
      refine g_dgR hF (dAt tX1_keep_ok 15 rfl rfl) flX1_11 e7 ?_
      refine g_p (S' := [.int x2, .ref b6, .int (x2 - 1), .ref b4]) hF tX1_keep_ok 16 1 rfl rfl rfl rfl ?_
      obtain ⟨r8, e9, H⟩ := ob H
      refine g_drld (tj := 1) hF rfl (dAt tX1_keep_ok 17 rfl rfl) e9 ?_
      obtain ⟨t10, e11, H⟩ := ob H
      refine g_drst r8 (tj := 1) hF rfl rfl (dAt tX1_keep_ok 18 rfl rfl) e11 ?_
      refine g_p (L' := [some (.ref a), some (.ref r1), some (.int (x2 + 1))]) (S' := []) hF tX1_keep_ok 19 1 rfl rfl rfl rfl ?_
      refine g_goto hF (dAt tX1_keep_ok 20 rfl rfl) rfl ?_
      exact X1_keep_b11_ok hD hF hE fu _ _ _ _ H
noncomputable def X1_keep_f (τ : Tau) (σ : Sig) (nx : Nat) (a : Nat) (r1 : Nat) : Option (Hp) := (gI τ σ 1 a 0).bind fun v1 => if v1 < 60 then (X1_keep_b43 a r1 τ σ nx) else (X1_keep_b11 a r1 FU 1 τ σ nx)
set_option maxRecDepth 4000 in
set_option maxHeartbeats 1000000 in
theorem X1_keep_ok {D : Nat} {τ : Tau} {σ : Sig} {nx : Nat} {a : Nat} {r1 : Nat} {rh : Hp} (hD : 1 ≤ D) (H : X1_keep_f τ σ nx a r1 = some rh) : Ok D 0 0 yX1_keep cX1_keep 3 none [.ref a, .ref r1] (τ, σ, nx) none rh := by
  refine ok_of (by decide +kernel) rfl (Nat.le_of_ble_eq_true rfl) (fun K X hF hE hN L0 hL0 => ?_)
  obtain rfl : [some (.ref a), some (.ref r1), none] = L0 := hL0
  have hF : Fx K X cX1_keep 3 RX1 D 0 0 := hF
  refine g_p (S' := [.ref a]) hF tX1_keep_ok 0 1 rfl rfl rfl rfl ?_
  obtain ⟨v1, e2, H⟩ := ob H
  refine g_dgI hF (dAt tX1_keep_ok 1 rfl rfl) flX1_17 e2 ?_
  refine g_p (S' := [.int 60, .int v1]) hF tX1_keep_ok 2 1 rfl rfl rfl rfl ?_
  obtain ⟨Ht3, Hf3⟩ := oi H
  refine g_icmp_lt hF (dAt tX1_keep_ok 3 rfl rfl) rfl (fun c3 => ?_) (fun c3 => ?_)
  · have H := Ht3 c3
    exact X1_keep_b43_ok hD hF hE H
  · have H := Hf3 c3
    refine g_p (L' := [some (.ref a), some (.ref r1), some (.int 1)]) (S' := []) hF tX1_keep_ok 4 2 rfl rfl rfl rfl ?_
    exact X1_keep_b11_ok hD hF hE FU _ _ _ _ H
noncomputable def X1_lendOn_f (τ : Tau) (σ : Sig) (nx : Nat) (a : Nat) (r1 : Nat) (r2 : Nat) (x3 x4 x5 : Int32) : Option (Int32 × Hp) := chk (ShX3 τ r1) ((X3_isOpen_f r1 x3 σ).bind fun v2 => if v2 = 0 then (some (0, (τ, σ, nx))) else (chk (ShX4 τ r2) ((X4_has_f r2 x4 σ).bind fun v6 => if v6 = 0 then (some (0, (τ, σ, nx))) else ((X11_isWithin_f x5 0 9999 σ).bind fun v9 => if v9 = 0 then (some (0, (τ, σ, nx))) else ((gRs τ 3 r1 2).bind fun b12 => (ldD τ σ b12 x3).bind fun v14 => if x4 = v14 then (some (0, (τ, σ, nx))) else ((gRs τ 3 r1 1).bind fun b17 => (ldD τ σ b17 x3).bind fun v19 => if x4 = v19 then (some (0, (τ, σ, nx))) else ((gRs τ 4 r2 6).bind fun b22 => (ldD τ σ b22 x4).bind fun v24 => if x5 ≤ v24 then ((X0_init_f (al τ nx (.inl (0, rsX0))) (zr σ nx) (nx + 1) nx x4 v14 x5 1).bind fun ⟨t27, s28, n29⟩ => chk (ShX0 t27 nx (tl t27 nx 1)) (chk (ShX3 t27 r1) ((X0_takeIn_f nx (tl t27 nx 1) r1 x3 s28).bind fun s33 => (gRs t27 3 r1 2).bind fun b35 => (stD t27 s33 b35 x3 x4).bind fun s37 => chk (ShX4 t27 r2) ((X4_pay_f r2 x4 v14 x5 s37).bind fun s40 => chk (∃ rs, t27 a = some (.inl (1, rs))) ((X1_keep_f t27 s40 n29 a nx).bind fun ⟨t43, s44, n45⟩ => some (1, (t43, s44, n45))))))) else (some (0, (τ, σ, nx))))))))))
set_option maxRecDepth 4000 in
set_option maxHeartbeats 1000000 in
theorem X1_lendOn_ok {D : Nat} {τ : Tau} {σ : Sig} {nx : Nat} {a : Nat} {r1 : Nat} {r2 : Nat} {x3 x4 x5 : Int32} {res : Int32} {rh : Hp} (hD : 3 ≤ D) (H : X1_lendOn_f τ σ nx a r1 r2 x3 x4 x5 = some (res, rh)) : Ok D 2 246 yX1_lendOn cX1_lendOn 8 (some .boolean) [.ref a, .ref r1, .ref r2, .int x3, .int x4, .int x5] (τ, σ, nx) (some (.int res)) rh := by
  refine ok_of (by decide +kernel) rfl (Nat.le_of_ble_eq_true rfl) (fun K X hF hE hN L0 hL0 => ?_)
  obtain rfl : [some (.ref a), some (.ref r1), some (.ref r2), some (.int x3), some (.int x4), some (.int x5), none, none] = L0 := hL0
  have hF : Fx K X cX1_lendOn 8 RX1 D 2 246 := hF
  refine g_p (S' := [.int x3, .ref r1]) hF tX1_lendOn_ok 0 2 rfl rfl rfl rfl ?_
  obtain ⟨hc1, H⟩ := oc H
  obtain ⟨v2, e3, H⟩ := ob H
  refine g_cV (S := []) hF (X3_isOpen_ok (Nat.le_refl _) hc1 e3 K) mbX3_isOpen mvX3_isOpen mlX1_21 (by omega) (by decide) (dAt tX1_lendOn_ok 2 rfl rfl) hc1.1 rfl rfl rfl (Nat.le_of_ble_eq_true rfl) rfl rfl (by decide) (by decide) rfl ?_
  obtain ⟨Ht4, Hf4⟩ := oi H
  refine g_if_eq hF (dAt tX1_lendOn_ok 3 rfl rfl) rfl (fun c4 => ?_) (fun c4 => ?_)
  · have H := Ht4 c4
    refine g_p (S' := [.int 0]) hF tX1_lendOn_ok 13 1 rfl rfl rfl rfl ?_
    exact g_zret hF (en_ph H hE) (Or.inl rfl) (dAt tX1_lendOn_ok 14 rfl rfl) (by decide) (by decide)
  · have H := Hf4 c4
    refine g_p (S' := [.int x4, .ref r2]) hF tX1_lendOn_ok 4 2 rfl rfl rfl rfl ?_
    obtain ⟨hc5, H⟩ := oc H
    obtain ⟨v6, e7, H⟩ := ob H
    refine g_cV (S := []) hF (X4_has_ok (Nat.le_refl _) hc5 e7 K) mbX4_has mvX4_has mlX1_27 (by omega) (by decide) (dAt tX1_lendOn_ok 6 rfl rfl) hc5.1 rfl rfl rfl (Nat.le_of_ble_eq_true rfl) rfl rfl (by decide) (by decide) rfl ?_
    obtain ⟨Ht8, Hf8⟩ := oi H
    refine g_if_eq hF (dAt tX1_lendOn_ok 7 rfl rfl) rfl (fun c8 => ?_) (fun c8 => ?_)
    · have H := Ht8 c8
      refine g_p (S' := [.int 0]) hF tX1_lendOn_ok 13 1 rfl rfl rfl rfl ?_
      exact g_zret hF (en_ph H hE) (Or.inl rfl) (dAt tX1_lendOn_ok 14 rfl rfl) (by decide) (by decide)
    · have H := Hf8 c8
      refine g_p (S' := [.int 9999, .int 0, .int x5]) hF tX1_lendOn_ok 8 3 rfl rfl rfl rfl ?_
      obtain ⟨v9, e10, H⟩ := ob H
      refine g_cSN (S := []) hF (X11_isWithin_ok (Nat.le_refl _)  e10 K) mbX11_isWithin msX11_isWithin nlX1_32 (by omega) (by decide) (dAt tX1_lendOn_ok 11 rfl rfl) rfl rfl (Nat.le_of_ble_eq_true rfl) rfl rfl (by decide) (by decide) rfl ?_
      obtain ⟨Ht11, Hf11⟩ := oi H
      refine g_if_ne hF (dAt tX1_lendOn_ok 12 rfl rfl) rfl (fun c11 => ?_) (fun c11 => ?_)
      · have H := Hf11 c11
        refine g_p (S' := [.ref r1]) hF tX1_lendOn_ok 15 1 rfl rfl rfl rfl ?_
        obtain ⟨b12, e13, H⟩ := ob H
        refine g_dgR hF (dAt tX1_lendOn_ok 16 rfl rfl) flX1_36 e13 ?_
        refine g_p (S' := [.int x3, .ref b12]) hF tX1_lendOn_ok 17 1 rfl rfl rfl rfl ?_
        obtain ⟨v14, e15, H⟩ := ob H
        refine g_dild hF (dAt tX1_lendOn_ok 18 rfl rfl) e15 ?_
        refine g_p (L' := [some (.ref a), some (.ref r1), some (.ref r2), some (.int x3), some (.int x4), some (.int x5), some (.int v14), none]) (S' := [.int v14, .int x4]) hF tX1_lendOn_ok 19 3 rfl rfl rfl rfl ?_
        obtain ⟨Ht16, Hf16⟩ := oi H
        refine g_icmp_eq hF (dAt tX1_lendOn_ok 22 rfl rfl) rfl (fun c16 => ?_) (fun c16 => ?_)
        · have H := Ht16 c16
          refine g_p (S' := [.int 0]) hF tX1_lendOn_ok 35 1 rfl rfl rfl rfl ?_
          exact g_zret hF (en_ph H hE) (Or.inl rfl) (dAt tX1_lendOn_ok 36 rfl rfl) (by decide) (by decide)
        · have H := Hf16 c16
          refine g_p (S' := [.ref r1, .int x4]) hF tX1_lendOn_ok 23 2 rfl rfl rfl rfl ?_
          obtain ⟨b17, e18, H⟩ := ob H
          refine g_dgR hF (dAt tX1_lendOn_ok 25 rfl rfl) flX1_40 e18 ?_
          refine g_p (S' := [.int x3, .ref b17, .int x4]) hF tX1_lendOn_ok 26 1 rfl rfl rfl rfl ?_
          obtain ⟨v19, e20, H⟩ := ob H
          refine g_dild hF (dAt tX1_lendOn_ok 27 rfl rfl) e20 ?_
          obtain ⟨Ht21, Hf21⟩ := oi H
          refine g_icmp_eq hF (dAt tX1_lendOn_ok 28 rfl rfl) rfl (fun c21 => ?_) (fun c21 => ?_)
          · have H := Ht21 c21
            refine g_p (S' := [.int 0]) hF tX1_lendOn_ok 35 1 rfl rfl rfl rfl ?_
            exact g_zret hF (en_ph H hE) (Or.inl rfl) (dAt tX1_lendOn_ok 36 rfl rfl) (by decide) (by decide)
          · have H := Hf21 c21
            refine g_p (S' := [.ref r2]) hF tX1_lendOn_ok 29 1 rfl rfl rfl rfl ?_
            obtain ⟨b22, e23, H⟩ := ob H
            refine g_dgR hF (dAt tX1_lendOn_ok 30 rfl rfl) flX1_43 e23 ?_
            refine g_p (S' := [.int x4, .ref b22]) hF tX1_lendOn_ok 31 1 rfl rfl rfl rfl ?_
            obtain ⟨v24, e25, H⟩ := ob H
            refine g_dild hF (dAt tX1_lendOn_ok 32 rfl rfl) e25 ?_
            refine g_p (S' := [.int x5, .int v24]) hF tX1_lendOn_ok 33 1 rfl rfl rfl rfl ?_
            obtain ⟨Ht26, Hf26⟩ := oi H
            refine g_icmp_ge hF (dAt tX1_lendOn_ok 34 rfl rfl) rfl (fun c26 => ?_) (fun c26 => ?_)
            · have H := Ht26 c26
              refine g_new (ci := 0) hF tyX0 (dAt tX1_lendOn_ok 37 rfl rfl) rfl tyX0_ok clX1_9 inX0 icX0 rfl dvX0 (by decide) (by decide) ?_
              refine g_p (S' := [.int 1, .int x5, .int v14, .int x4, .ref nx, .ref nx]) hF tX1_lendOn_ok 38 5 rfl rfl rfl rfl ?_
              obtain ⟨⟨t27, s28, n29⟩, e30, H⟩ := ob H
              refine g_cI (S := [.ref nx]) hF (X0_init_ok (Nat.le_refl _) e30 K) mbX0_init miX0_init mlX1_46 (by omega) (by decide) (dAt tX1_lendOn_ok 43 rfl rfl) rfl rfl (Nat.le_of_ble_eq_true rfl) rfl rfl (by decide) (by decide) rfl ?_
              refine g_p (L' := [some (.ref a), some (.ref r1), some (.ref r2), some (.int x3), some (.int x4), some (.int x5), some (.int v14), some (.ref nx)]) (S' := [.int x3, .ref r1, .ref nx]) hF tX1_lendOn_ok 44 4 rfl rfl rfl rfl ?_
              obtain ⟨hc31, H⟩ := oc H
              obtain ⟨hc32, H⟩ := oc H
              obtain ⟨s33, e34, H⟩ := ob H
              refine g_cV (S := []) hF (X0_takeIn_ok (Nat.le_refl _) hc31 hc32 e34 K) mbX0_takeIn mvX0_takeIn mlX1_49 (by omega) (by decide) (dAt tX1_lendOn_ok 48 rfl rfl) hc31.1 rfl rfl rfl (Nat.le_of_ble_eq_true rfl) rfl rfl (by decide) (by decide) rfl ?_
              refine g_p (S' := [.ref r1]) hF tX1_lendOn_ok 49 1 rfl rfl rfl rfl ?_
              obtain ⟨b35, e36, H⟩ := ob H
              refine g_dgR hF (dAt tX1_lendOn_ok 50 rfl rfl) flX1_36 e36 ?_
              refine g_p (S' := [.int x4, .int x3, .ref b35]) hF tX1_lendOn_ok 51 2 rfl rfl rfl rfl ?_
              obtain ⟨s37, e38, H⟩ := ob H
              refine g_dist hF (dAt tX1_lendOn_ok 53 rfl rfl) e38 ?_
              refine g_p (S' := [.int x5, .int v14, .int x4, .ref r2]) hF tX1_lendOn_ok 54 4 rfl rfl rfl rfl ?_
              obtain ⟨hc39, H⟩ := oc H
              obtain ⟨s40, e41, H⟩ := ob H
              refine g_cV (S := []) hF (X4_pay_ok (Nat.le_refl _) hc39 e41 K) mbX4_pay mvX4_pay mlX1_53 (by omega) (by decide) (dAt tX1_lendOn_ok 58 rfl rfl) hc39.1 rfl rfl rfl (Nat.le_of_ble_eq_true rfl) rfl rfl (by decide) (by decide) rfl ?_
              refine g_p (S' := [.ref nx, .ref a]) hF tX1_lendOn_ok 59 2 rfl rfl rfl rfl ?_
              obtain ⟨hc42, H⟩ := oc H
              obtain ⟨⟨t43, s44, n45⟩, e46, H⟩ := ob H
              refine g_cV (S := []) hF (X1_keep_ok (Nat.le_refl _) e46 K) mbX1_keep mvX1_keep mlX1_57 (by omega) (by decide) (dAt tX1_lendOn_ok 61 rfl rfl) hc42.choose_spec rfl rfl rfl (Nat.le_of_ble_eq_true rfl) rfl rfl (by decide) (by decide) rfl ?_
              refine g_p (S' := [.int 1]) hF tX1_lendOn_ok 62 1 rfl rfl rfl rfl ?_
              exact g_zret hF (en_ph H hE) (Or.inr rfl) (dAt tX1_lendOn_ok 63 rfl rfl) (by decide) (by decide)
            · have H := Hf26 c26
              refine g_p (S' := [.int 0]) hF tX1_lendOn_ok 35 1 rfl rfl rfl rfl ?_
              exact g_zret hF (en_ph H hE) (Or.inl rfl) (dAt tX1_lendOn_ok 36 rfl rfl) (by decide) (by decide)
      · have H := Ht11 c11
        refine g_p (S' := [.int 0]) hF tX1_lendOn_ok 13 1 rfl rfl rfl rfl ?_
        exact g_zret hF (en_ph H hE) (Or.inl rfl) (dAt tX1_lendOn_ok 14 rfl rfl) (by decide) (by decide)
noncomputable def X1_splitOff_b135 (a : Nat) (r1 : Nat) (b4 : Nat) (x5 : Int32) (τ : Tau) (σ : Sig) (nx : Nat) : Option (Int32 × Hp) := chk (ShX0 τ b4 (tl τ b4 1)) (chk (ShX3 τ r1) ((X0_takeIn_f b4 (tl τ b4 1) r1 x5 σ).bind fun s3 => (X0_bears_f b4 (tl τ b4 1) x5 s3).bind fun s5 => chk (∃ rs, τ a = some (.inl (1, rs))) ((X1_keep_f τ s5 nx a b4).bind fun ⟨t8, s9, n10⟩ => some (x5, (t8, s9, n10)))))
set_option maxRecDepth 4000 in
set_option maxHeartbeats 1000000 in
theorem X1_splitOff_b135_ok {K : Kt} {X : Cx} {D : Nat} {a : Nat} {r1 : Nat} {res : Int32} {rh : Hp} (hD : 3 ≤ D) (hF : Fx K X cX1_splitOff 6 RX1 D 2 246) (hE : En K X (some .int) 2 246 (some (.int res)) rh) {b4 : Nat} {x5 : Int32} {τ : Tau} {σ : Sig} {nx : Nat} (H : X1_splitOff_b135 a r1 b4 x5 τ σ nx = some (res, rh)) : G K X 6 2 246 135 [some (.ref a), some (.ref r1), none, none, some (.ref b4), some (.int x5)] [] (τ, σ, nx) := by
  refine g_p (S' := [.int x5, .ref r1, .ref b4]) hF tX1_splitOff_ok 79 3 rfl rfl rfl rfl ?_
  obtain ⟨hc1, H⟩ := oc H
  obtain ⟨hc2, H⟩ := oc H
  obtain ⟨s3, e4, H⟩ := ob H
  refine g_cV (S := []) hF (X0_takeIn_ok (Nat.le_refl _) hc1 hc2 e4 K) mbX0_takeIn mvX0_takeIn mlX1_49 (by omega) (by decide) (dAt tX1_splitOff_ok 82 rfl rfl) hc1.1 rfl rfl rfl (Nat.le_of_ble_eq_true rfl) rfl rfl (by decide) (by decide) rfl ?_
  refine g_p (S' := [.int x5, .ref b4]) hF tX1_splitOff_ok 83 2 rfl rfl rfl rfl ?_
  obtain ⟨s5, e6, H⟩ := ob H
  refine g_cV (S := []) hF (X0_bears_ok (Nat.le_refl _) hc1 e6 K) mbX0_bears mvX0_bears mlX1_80 (by omega) (by decide) (dAt tX1_splitOff_ok 85 rfl rfl) hc1.1 rfl rfl rfl (Nat.le_of_ble_eq_true rfl) rfl rfl (by decide) (by decide) rfl ?_
  refine g_p (S' := [.ref b4, .ref a]) hF tX1_splitOff_ok 86 2 rfl rfl rfl rfl ?_
  obtain ⟨hc7, H⟩ := oc H
  obtain ⟨⟨t8, s9, n10⟩, e11, H⟩ := ob H
  refine g_cV (S := []) hF (X1_keep_ok (Nat.le_refl _) e11 K) mbX1_keep mvX1_keep mlX1_57 (by omega) (by decide) (dAt tX1_splitOff_ok 88 rfl rfl) hc7.choose_spec rfl rfl rfl (Nat.le_of_ble_eq_true rfl) rfl rfl (by decide) (by decide) rfl ?_
  refine g_p (S' := [.int x5]) hF tX1_splitOff_ok 89 1 rfl rfl rfl rfl ?_
  exact g_iret hF (en_ph H hE) (dAt tX1_splitOff_ok 90 rfl rfl) (by decide) (by decide)
noncomputable def X1_splitOff_f (τ : Tau) (σ : Sig) (nx : Nat) (a : Nat) (r1 : Nat) (x2 x3 : Int32) : Option (Int32 × Hp) := chk (ShX3 τ r1) ((X3_isOpen_f r1 x2 σ).bind fun v2 => if v2 = 0 then (some ((-1), (τ, σ, nx))) else ((X11_isWithin_f x3 1 199 σ).bind fun v5 => if v5 = 0 then (some ((-1), (τ, σ, nx))) else ((gRs τ 3 r1 3).bind fun b8 => (ldD τ σ b8 x2).bind fun v10 => if v10 ≤ x3 then (some ((-1), (τ, σ, nx))) else ((gI τ σ 3 r1 0).bind fun v13 => if v13 < 40 then ((X0_init_f (al τ nx (.inl (0, rsX0))) (zr σ nx) (nx + 1) nx (-1) (-1) 0 2).bind fun ⟨t16, s17, n18⟩ => chk (ShX0 t16 nx (tl t16 nx 1)) (chk (ShX3 t16 r1) ((X0_takeIn_f nx (tl t16 nx 1) r1 x2 s17).bind fun s22 => (gRs t16 3 r1 3).bind fun b24 => (ldD t16 s22 b24 x2).bind fun v26 => (stD t16 s22 b24 x2 (v26 - x3)).bind fun s28 => (gRs t16 3 r1 3).bind fun b30 => (ldD t16 s28 b30 x2).bind fun v32 => (X0_leaves_f nx (tl t16 nx 1) v32 s28).bind fun s34 => (gRs t16 3 r1 1).bind fun b36 => (ldD t16 s34 b36 x2).bind fun v38 => (gRs t16 3 r1 2).bind fun b40 => (ldD t16 s34 b40 x2).bind fun v42 => (X3_add_f r1 v38 v42 x3 s34).bind fun ⟨v44, s45⟩ => (X3_has_f r1 v44 s45).bind fun v47 => if v47 = 0 then (X1_splitOff_b135 a r1 nx v44 t16 s45 n18) else ((gRs t16 3 r1 5).bind fun b50 => (gRs t16 3 r1 5).bind fun b52 => (ldD t16 s45 b52 x2).bind fun v54 => (stD t16 s45 b50 v44 v54).bind fun s56 => (gRs t16 3 r1 6).bind fun b58 => (gRs t16 3 r1 6).bind fun b60 => (ldD t16 s56 b60 x2).bind fun v62 => (stD t16 s56 b58 v44 v62).bind fun s64 => X1_splitOff_b135 a r1 nx v44 t16 s64 n18)))) else (some ((-1), (τ, σ, nx)))))))
set_option maxRecDepth 4000 in
set_option maxHeartbeats 1000000 in
theorem X1_splitOff_ok {D : Nat} {τ : Tau} {σ : Sig} {nx : Nat} {a : Nat} {r1 : Nat} {x2 x3 : Int32} {res : Int32} {rh : Hp} (hD : 3 ≤ D) (H : X1_splitOff_f τ σ nx a r1 x2 x3 = some (res, rh)) : Ok D 2 246 yX1_splitOff cX1_splitOff 6 (some .int) [.ref a, .ref r1, .int x2, .int x3] (τ, σ, nx) (some (.int res)) rh := by
  refine ok_of (by decide +kernel) rfl (Nat.le_of_ble_eq_true rfl) (fun K X hF hE hN L0 hL0 => ?_)
  obtain rfl : [some (.ref a), some (.ref r1), some (.int x2), some (.int x3), none, none] = L0 := hL0
  have hF : Fx K X cX1_splitOff 6 RX1 D 2 246 := hF
  refine g_p (S' := [.int x2, .ref r1]) hF tX1_splitOff_ok 0 2 rfl rfl rfl rfl ?_
  obtain ⟨hc1, H⟩ := oc H
  obtain ⟨v2, e3, H⟩ := ob H
  refine g_cV (S := []) hF (X3_isOpen_ok (Nat.le_refl _) hc1 e3 K) mbX3_isOpen mvX3_isOpen mlX1_21 (by omega) (by decide) (dAt tX1_splitOff_ok 2 rfl rfl) hc1.1 rfl rfl rfl (Nat.le_of_ble_eq_true rfl) rfl rfl (by decide) (by decide) rfl ?_
  obtain ⟨Ht4, Hf4⟩ := oi H
  refine g_if_eq hF (dAt tX1_splitOff_ok 3 rfl rfl) rfl (fun c4 => ?_) (fun c4 => ?_)
  · have H := Ht4 c4
    refine g_p (S' := [.int (-1)]) hF tX1_splitOff_ok 19 1 rfl rfl rfl rfl ?_
    exact g_iret hF (en_ph H hE) (dAt tX1_splitOff_ok 20 rfl rfl) (by decide) (by decide)
  · have H := Hf4 c4
    refine g_p (S' := [.int 199, .int 1, .int x3]) hF tX1_splitOff_ok 4 3 rfl rfl rfl rfl ?_
    obtain ⟨v5, e6, H⟩ := ob H
    refine g_cSN (S := []) hF (X11_isWithin_ok (Nat.le_refl _)  e6 K) mbX11_isWithin msX11_isWithin nlX1_32 (by omega) (by decide) (dAt tX1_splitOff_ok 7 rfl rfl) rfl rfl (Nat.le_of_ble_eq_true rfl) rfl rfl (by decide) (by decide) rfl ?_
    obtain ⟨Ht7, Hf7⟩ := oi H
    refine g_if_eq hF (dAt tX1_splitOff_ok 8 rfl rfl) rfl (fun c7 => ?_) (fun c7 => ?_)
    · have H := Ht7 c7
      refine g_p (S' := [.int (-1)]) hF tX1_splitOff_ok 19 1 rfl rfl rfl rfl ?_
      exact g_iret hF (en_ph H hE) (dAt tX1_splitOff_ok 20 rfl rfl) (by decide) (by decide)
    · have H := Hf7 c7
      refine g_p (S' := [.ref r1]) hF tX1_splitOff_ok 9 1 rfl rfl rfl rfl ?_
      obtain ⟨b8, e9, H⟩ := ob H
      refine g_dgR hF (dAt tX1_splitOff_ok 10 rfl rfl) flX1_61 e9 ?_
      refine g_p (S' := [.int x2, .ref b8]) hF tX1_splitOff_ok 11 1 rfl rfl rfl rfl ?_
      obtain ⟨v10, e11, H⟩ := ob H
      refine g_dild hF (dAt tX1_splitOff_ok 12 rfl rfl) e11 ?_
      refine g_p (S' := [.int x3, .int v10]) hF tX1_splitOff_ok 13 1 rfl rfl rfl rfl ?_
      obtain ⟨Ht12, Hf12⟩ := oi H
      refine g_icmp_le hF (dAt tX1_splitOff_ok 14 rfl rfl) rfl (fun c12 => ?_) (fun c12 => ?_)
      · have H := Ht12 c12
        refine g_p (S' := [.int (-1)]) hF tX1_splitOff_ok 19 1 rfl rfl rfl rfl ?_
        exact g_iret hF (en_ph H hE) (dAt tX1_splitOff_ok 20 rfl rfl) (by decide) (by decide)
      · have H := Hf12 c12
        refine g_p (S' := [.ref r1]) hF tX1_splitOff_ok 15 1 rfl rfl rfl rfl ?_
        obtain ⟨v13, e14, H⟩ := ob H
        refine g_dgI hF (dAt tX1_splitOff_ok 16 rfl rfl) flX1_64 e14 ?_
        refine g_p (S' := [.int 40, .int v13]) hF tX1_splitOff_ok 17 1 rfl rfl rfl rfl ?_
        obtain ⟨Ht15, Hf15⟩ := oi H
        refine g_icmp_lt hF (dAt tX1_splitOff_ok 18 rfl rfl) rfl (fun c15 => ?_) (fun c15 => ?_)
        · have H := Ht15 c15
          refine g_new (ci := 0) hF tyX0 (dAt tX1_splitOff_ok 21 rfl rfl) rfl tyX0_ok clX1_9 inX0 icX0 rfl dvX0 (by decide) (by decide) ?_
          refine g_p (S' := [.int 2, .int 0, .int (-1), .int (-1), .ref nx, .ref nx]) hF tX1_splitOff_ok 22 5 rfl rfl rfl rfl ?_
          obtain ⟨⟨t16, s17, n18⟩, e19, H⟩ := ob H
          refine g_cI (S := [.ref nx]) hF (X0_init_ok (Nat.le_refl _) e19 K) mbX0_init miX0_init mlX1_46 (by omega) (by decide) (dAt tX1_splitOff_ok 27 rfl rfl) rfl rfl (Nat.le_of_ble_eq_true rfl) rfl rfl (by decide) (by decide) rfl ?_
          refine g_p (L' := [some (.ref a), some (.ref r1), some (.int x2), some (.int x3), some (.ref nx), none]) (S' := [.int x2, .ref r1, .ref nx]) hF tX1_splitOff_ok 28 4 rfl rfl rfl rfl ?_
          obtain ⟨hc20, H⟩ := oc H
          obtain ⟨hc21, H⟩ := oc H
          obtain ⟨s22, e23, H⟩ := ob H
          refine g_cV (S := []) hF (X0_takeIn_ok (Nat.le_refl _) hc20 hc21 e23 K) mbX0_takeIn mvX0_takeIn mlX1_49 (by omega) (by decide) (dAt tX1_splitOff_ok 32 rfl rfl) hc20.1 rfl rfl rfl (Nat.le_of_ble_eq_true rfl) rfl rfl (by decide) (by decide) rfl ?_
          refine g_p (S' := [.ref r1]) hF tX1_splitOff_ok 33 1 rfl rfl rfl rfl ?_
          obtain ⟨b24, e25, H⟩ := ob H
          refine g_dgR hF (dAt tX1_splitOff_ok 34 rfl rfl) flX1_61 e25 ?_
          refine g_p (S' := [.int x2, .ref b24, .int x2, .ref b24]) hF tX1_splitOff_ok 35 2 rfl rfl rfl rfl ?_
          obtain ⟨v26, e27, H⟩ := ob H
          refine g_dild hF (dAt tX1_splitOff_ok 37 rfl rfl) e27 ?_
          refine g_p (S' := [.int (v26 - x3), .int x2, .ref b24]) hF tX1_splitOff_ok 38 2 rfl rfl rfl rfl ?_
          obtain ⟨s28, e29, H⟩ := ob H
          refine g_dist hF (dAt tX1_splitOff_ok 40 rfl rfl) e29 ?_
          refine g_p (S' := [.ref r1, .ref nx]) hF tX1_splitOff_ok 41 2 rfl rfl rfl rfl ?_
          obtain ⟨b30, e31, H⟩ := ob H
          refine g_dgR hF (dAt tX1_splitOff_ok 43 rfl rfl) flX1_61 e31 ?_
          refine g_p (S' := [.int x2, .ref b30, .ref nx]) hF tX1_splitOff_ok 44 1 rfl rfl rfl rfl ?_
          obtain ⟨v32, e33, H⟩ := ob H
          refine g_dild hF (dAt tX1_splitOff_ok 45 rfl rfl) e33 ?_
          obtain ⟨s34, e35, H⟩ := ob H
          refine g_cV (S := []) hF (X0_leaves_ok (Nat.le_refl _) hc20 e35 K) mbX0_leaves mvX0_leaves mlX1_65 (by omega) (by decide) (dAt tX1_splitOff_ok 46 rfl rfl) hc20.1 rfl rfl rfl (Nat.le_of_ble_eq_true rfl) rfl rfl (by decide) (by decide) rfl ?_
          refine g_p (S' := [.ref r1, .ref r1]) hF tX1_splitOff_ok 47 2 rfl rfl rfl rfl ?_
          obtain ⟨b36, e37, H⟩ := ob H
          refine g_dgR hF (dAt tX1_splitOff_ok 49 rfl rfl) flX1_40 e37 ?_
          refine g_p (S' := [.int x2, .ref b36, .ref r1]) hF tX1_splitOff_ok 50 1 rfl rfl rfl rfl ?_
          obtain ⟨v38, e39, H⟩ := ob H
          refine g_dild hF (dAt tX1_splitOff_ok 51 rfl rfl) e39 ?_
          refine g_p (S' := [.ref r1, .int v38, .ref r1]) hF tX1_splitOff_ok 52 1 rfl rfl rfl rfl ?_
          obtain ⟨b40, e41, H⟩ := ob H
          refine g_dgR hF (dAt tX1_splitOff_ok 53 rfl rfl) flX1_36 e41 ?_
          refine g_p (S' := [.int x2, .ref b40, .int v38, .ref r1]) hF tX1_splitOff_ok 54 1 rfl rfl rfl rfl ?_
          obtain ⟨v42, e43, H⟩ := ob H
          refine g_dild hF (dAt tX1_splitOff_ok 55 rfl rfl) e43 ?_
          refine g_p (S' := [.int x3, .int v42, .int v38, .ref r1]) hF tX1_splitOff_ok 56 1 rfl rfl rfl rfl ?_
          obtain ⟨⟨v44, s45⟩, e46, H⟩ := ob H
          refine g_cV (S := []) hF (X3_add_ok (Nat.le_refl _) hc21 e46 K) mbX3_add mvX3_add mlX1_69 (by omega) (by decide) (dAt tX1_splitOff_ok 57 rfl rfl) hc21.1 rfl rfl rfl (Nat.le_of_ble_eq_true rfl) rfl rfl (by decide) (by decide) rfl ?_
          refine g_p (L' := [some (.ref a), some (.ref r1), some (.int x2), some (.int x3), some (.ref nx), some (.int v44)]) (S' := [.int v44, .ref r1]) hF tX1_splitOff_ok 58 3 rfl rfl rfl rfl ?_
          obtain ⟨v47, e48, H⟩ := ob H
          refine g_cV (S := []) hF (X3_has_ok (Nat.le_refl _) hc21 e48 K) mbX3_has mvX3_has mlX1_73 (by omega) (by decide) (dAt tX1_splitOff_ok 61 rfl rfl) hc21.1 rfl rfl rfl (Nat.le_of_ble_eq_true rfl) rfl rfl (by decide) (by decide) rfl ?_
          obtain ⟨Ht49, Hf49⟩ := oi H
          refine g_if_eq hF (dAt tX1_splitOff_ok 62 rfl rfl) rfl (fun c49 => ?_) (fun c49 => ?_)
          · have H := Ht49 c49
            refine g_m [true, true, false, false, true, true] rfl ?_
            exact X1_splitOff_b135_ok hD hF hE H
          · have H := Hf49 c49
            refine g_p (S' := [.ref r1]) hF tX1_splitOff_ok 63 1 rfl rfl rfl rfl ?_
            obtain ⟨b50, e51, H⟩ := ob H
            refine g_dgR hF (dAt tX1_splitOff_ok 64 rfl rfl) flX1_74 e51 ?_
            refine g_p (S' := [.ref r1, .int v44, .ref b50]) hF tX1_splitOff_ok 65 2 rfl rfl rfl rfl ?_
            obtain ⟨b52, e53, H⟩ := ob H
            refine g_dgR hF (dAt tX1_splitOff_ok 67 rfl rfl) flX1_74 e53 ?_
            refine g_p (S' := [.int x2, .ref b52, .int v44, .ref b50]) hF tX1_splitOff_ok 68 1 rfl rfl rfl rfl ?_
            obtain ⟨v54, e55, H⟩ := ob H
            refine g_dild hF (dAt tX1_splitOff_ok 69 rfl rfl) e55 ?_
            obtain ⟨s56, e57, H⟩ := ob H
            refine g_dist hF (dAt tX1_splitOff_ok 70 rfl rfl) e57 ?_
            refine g_p (S' := [.ref r1]) hF tX1_splitOff_ok 71 1 rfl rfl rfl rfl ?_
            obtain ⟨b58, e59, H⟩ := ob H
            refine g_dgR hF (dAt tX1_splitOff_ok 72 rfl rfl) flX1_77 e59 ?_
            refine g_p (S' := [.ref r1, .int v44, .ref b58]) hF tX1_splitOff_ok 73 2 rfl rfl rfl rfl ?_
            obtain ⟨b60, e61, H⟩ := ob H
            refine g_dgR hF (dAt tX1_splitOff_ok 75 rfl rfl) flX1_77 e61 ?_
            refine g_p (S' := [.int x2, .ref b60, .int v44, .ref b58]) hF tX1_splitOff_ok 76 1 rfl rfl rfl rfl ?_
            obtain ⟨v62, e63, H⟩ := ob H
            refine g_dild hF (dAt tX1_splitOff_ok 77 rfl rfl) e63 ?_
            obtain ⟨s64, e65, H⟩ := ob H
            refine g_dist hF (dAt tX1_splitOff_ok 78 rfl rfl) e65 ?_
            refine g_m [true, true, false, false, true, true] rfl ?_
            exact X1_splitOff_b135_ok hD hF hE H
        · have H := Hf15 c15
          refine g_p (S' := [.int (-1)]) hF tX1_splitOff_ok 19 1 rfl rfl rfl rfl ?_
          exact g_iret hF (en_ph H hE) (dAt tX1_splitOff_ok 20 rfl rfl) (by decide) (by decide)
noncomputable def X1_handDown_b31 (a : Nat) (r1 : Nat) : Nat → Nat → Int32 → Int32 → Int32 → Int32 → Tau → Sig → Nat → Option (Int32 × Hp)
  | 0, _, _, _, _, _, _, _, _ => none
  | fu + 1, b5, x2, x3, x4, x6, τ, σ, nx => (gI τ σ 3 r1 0).bind fun v1 => if v1 ≤ x6 then (chk (∃ rs, τ a = some (.inl (1, rs))) ((X1_keep_f τ σ nx a b5).bind fun ⟨t5, s6, n7⟩ => some (x4, (t5, s6, n7)))) else (chk (ShX3 τ r1) ((X3_isOpenWith_f r1 x6 x2 σ).bind fun v10 => if v10 = 0 then (X1_handDown_b31 a r1 fu b5 x2 x3 x4 (x6 + 1) τ σ nx) else (chk (ShX0 τ b5 (tl τ b5 1)) ((X0_takeIn_f b5 (tl τ b5 1) r1 x6 σ).bind fun s14 => (X3_handDown_f r1 x6 x2 x3 s14).bind fun s16 => (gRs τ 3 r1 3).bind fun b18 => (ldD τ s16 b18 x6).bind fun v20 => (X0_leaves_f b5 (tl τ b5 1) v20 s16).bind fun s22 => X1_handDown_b31 a r1 fu b5 x2 x3 x4 (x6 + 1) τ s22 nx))))
set_option maxRecDepth 4000 in
set_option maxHeartbeats 1000000 in
theorem X1_handDown_b31_ok {K : Kt} {X : Cx} {D : Nat} {a : Nat} {r1 : Nat} {res : Int32} {rh : Hp} (hD : 5 ≤ D) (hF : Fx K X cX1_handDown 7 RX1 D 2 246) (hE : En K X (some .int) 2 246 (some (.int res)) rh) : ∀ (fu : Nat) (b5 : Nat) (x2 : Int32) (x3 : Int32) (x4 : Int32) (x6 : Int32) (τ : Tau) (σ : Sig) (nx : Nat), X1_handDown_b31 a r1 fu b5 x2 x3 x4 x6 τ σ nx = some (res, rh) → G K X 7 2 246 31 [some (.ref a), some (.ref r1), some (.int x2), some (.int x3), some (.int x4), some (.ref b5), some (.int x6)] [] (τ, σ, nx)
  | 0, _, _, _, _, _, _, _, _, H => nomatch H
  | fu + 1, b5, x2, x3, x4, x6, τ, σ, nx, H => by
    refine g_p (S' := [.ref r1, .int x6]) hF tX1_handDown_ok 18 2 rfl rfl rfl rfl ?_
    obtain ⟨v1, e2, H⟩ := ob H
    refine g_dgI hF (dAt tX1_handDown_ok 20 rfl rfl) flX1_64 e2 ?_
    obtain ⟨Ht3, Hf3⟩ := oi H
    refine g_icmp_ge hF (dAt tX1_handDown_ok 21 rfl rfl) rfl (fun c3 => ?_) (fun c3 => ?_)
    · have H := Ht3 c3
      refine g_p (S' := [.ref b5, .ref a]) hF tX1_handDown_ok 44 2 rfl rfl rfl rfl ?_
      obtain ⟨hc4, H⟩ := oc H
      obtain ⟨⟨t5, s6, n7⟩, e8, H⟩ := ob H
      refine g_cV (S := []) hF (X1_keep_ok (Nat.le_refl _) e8 K) mbX1_keep mvX1_keep mlX1_57 (by omega) (by decide) (dAt tX1_handDown_ok 46 rfl rfl) hc4.choose_spec rfl rfl rfl (Nat.le_of_ble_eq_true rfl) rfl rfl (by decide) (by decide) rfl ?_
      refine g_p (S' := [.int x4]) hF tX1_handDown_ok 47 1 rfl rfl rfl rfl ?_
      exact g_iret hF (en_ph H hE) (dAt tX1_handDown_ok 48 rfl rfl) (by decide) (by decide)
    · have H := Hf3 c3
      refine g_p (S' := [.int x2, .int x6, .ref r1]) hF tX1_handDown_ok 22 3 rfl rfl rfl rfl ?_
      obtain ⟨hc9, H⟩ := oc H
      obtain ⟨v10, e11, H⟩ := ob H
      refine g_cV (S := []) hF (X3_isOpenWith_ok (Nat.le_refl _) hc9 e11 K) mbX3_isOpenWith mvX3_isOpenWith mlX1_87 (by omega) (by decide) (dAt tX1_handDown_ok 25 rfl rfl) hc9.1 rfl rfl rfl (Nat.le_of_ble_eq_true rfl) rfl rfl (by decide) (by decide) rfl ?_
      obtain ⟨Ht12, Hf12⟩ := oi H
      refine g_if_eq hF (dAt tX1_handDown_ok 26 rfl rfl) rfl (fun c12 => ?_) (fun c12 => ?_)
      · have H := Ht12 c12
        refine g_p (L' := [some (.ref a), some (.ref r1), some (.int x2), some (.int x3), some (.int x4), some (.ref b5), some (.int (x6 + 1))]) (S' := []) hF tX1_handDown_ok 42 1 rfl rfl rfl rfl ?_
        refine g_goto hF (dAt tX1_handDown_ok 43 rfl rfl) rfl ?_
        exact X1_handDown_b31_ok hD hF hE fu _ _ _ _ _ _ _ _ H
      · have H := Hf12 c12
        refine g_p (S' := [.int x6, .ref r1, .ref b5]) hF tX1_handDown_ok 27 3 rfl rfl rfl rfl ?_
        obtain ⟨hc13, H⟩ := oc H
        obtain ⟨s14, e15, H⟩ := ob H
        refine g_cV (S := []) hF (X0_takeIn_ok (Nat.le_refl _) hc13 hc9 e15 K) mbX0_takeIn mvX0_takeIn mlX1_49 (by omega) (by decide) (dAt tX1_handDown_ok 30 rfl rfl) hc13.1 rfl rfl rfl (Nat.le_of_ble_eq_true rfl) rfl rfl (by decide) (by decide) rfl ?_
        refine g_p (S' := [.int x3, .int x2, .int x6, .ref r1]) hF tX1_handDown_ok 31 4 rfl rfl rfl rfl ?_
        obtain ⟨s16, e17, H⟩ := ob H
        refine g_cV (S := []) hF (X3_handDown_ok (Nat.le_refl _) hc9 e17 K) mbX3_handDown mvX3_handDown mlX1_91 (by omega) (by decide) (dAt tX1_handDown_ok 35 rfl rfl) hc9.1 rfl rfl rfl (Nat.le_of_ble_eq_true rfl) rfl rfl (by decide) (by decide) rfl ?_
        refine g_p (S' := [.ref r1, .ref b5]) hF tX1_handDown_ok 36 2 rfl rfl rfl rfl ?_
        obtain ⟨b18, e19, H⟩ := ob H
        refine g_dgR hF (dAt tX1_handDown_ok 38 rfl rfl) flX1_61 e19 ?_
        refine g_p (S' := [.int x6, .ref b18, .ref b5]) hF tX1_handDown_ok 39 1 rfl rfl rfl rfl ?_
        obtain ⟨v20, e21, H⟩ := ob H
        refine g_dild hF (dAt tX1_handDown_ok 40 rfl rfl) e21 ?_
        obtain ⟨s22, e23, H⟩ := ob H
        refine g_cV (S := []) hF (X0_leaves_ok (Nat.le_refl _) hc13 e23 K) mbX0_leaves mvX0_leaves mlX1_65 (by omega) (by decide) (dAt tX1_handDown_ok 41 rfl rfl) hc13.1 rfl rfl rfl (Nat.le_of_ble_eq_true rfl) rfl rfl (by decide) (by decide) rfl ?_
        refine g_p (L' := [some (.ref a), some (.ref r1), some (.int x2), some (.int x3), some (.int x4), some (.ref b5), some (.int (x6 + 1))]) (S' := []) hF tX1_handDown_ok 42 1 rfl rfl rfl rfl ?_
        refine g_goto hF (dAt tX1_handDown_ok 43 rfl rfl) rfl ?_
        exact X1_handDown_b31_ok hD hF hE fu _ _ _ _ _ _ _ _ H
noncomputable def X1_handDown_f (τ : Tau) (σ : Sig) (nx : Nat) (a : Nat) (r1 : Nat) (x2 x3 : Int32) : Option (Int32 × Hp) := chk (ShX3 τ r1) ((X3_openCountWith_f r1 x2 σ).bind fun v2 => if v2 = 0 then (some (0, (τ, σ, nx))) else ((X0_init_f (al τ nx (.inl (0, rsX0))) (zr σ nx) (nx + 1) nx (-1) (-1) 0 v2).bind fun ⟨t5, s6, n7⟩ => X1_handDown_b31 a r1 FU nx x2 x3 v2 0 t5 s6 n7))
set_option maxRecDepth 4000 in
set_option maxHeartbeats 1000000 in
theorem X1_handDown_ok {D : Nat} {τ : Tau} {σ : Sig} {nx : Nat} {a : Nat} {r1 : Nat} {x2 x3 : Int32} {res : Int32} {rh : Hp} (hD : 5 ≤ D) (H : X1_handDown_f τ σ nx a r1 x2 x3 = some (res, rh)) : Ok D 2 246 yX1_handDown cX1_handDown 7 (some .int) [.ref a, .ref r1, .int x2, .int x3] (τ, σ, nx) (some (.int res)) rh := by
  refine ok_of (by decide +kernel) rfl (Nat.le_of_ble_eq_true rfl) (fun K X hF hE hN L0 hL0 => ?_)
  obtain rfl : [some (.ref a), some (.ref r1), some (.int x2), some (.int x3), none, none, none] = L0 := hL0
  have hF : Fx K X cX1_handDown 7 RX1 D 2 246 := hF
  refine g_p (S' := [.int x2, .ref r1]) hF tX1_handDown_ok 0 2 rfl rfl rfl rfl ?_
  obtain ⟨hc1, H⟩ := oc H
  obtain ⟨v2, e3, H⟩ := ob H
  refine g_cV (S := []) hF (X3_openCountWith_ok (Nat.le_refl _) hc1 e3 K) mbX3_openCountWith mvX3_openCountWith mlX1_83 (by omega) (by decide) (dAt tX1_handDown_ok 2 rfl rfl) hc1.1 rfl rfl rfl (Nat.le_of_ble_eq_true rfl) rfl rfl (by decide) (by decide) rfl ?_
  refine g_p (L' := [some (.ref a), some (.ref r1), some (.int x2), some (.int x3), some (.int v2), none, none]) (S' := [.int v2]) hF tX1_handDown_ok 3 2 rfl rfl rfl rfl ?_
  obtain ⟨Ht4, Hf4⟩ := oi H
  refine g_if_ne hF (dAt tX1_handDown_ok 5 rfl rfl) rfl (fun c4 => ?_) (fun c4 => ?_)
  · have H := Hf4 c4
    refine g_new (ci := 0) hF tyX0 (dAt tX1_handDown_ok 8 rfl rfl) rfl tyX0_ok clX1_9 inX0 icX0 rfl dvX0 (by decide) (by decide) ?_
    refine g_p (S' := [.int v2, .int 0, .int (-1), .int (-1), .ref nx, .ref nx]) hF tX1_handDown_ok 9 5 rfl rfl rfl rfl ?_
    obtain ⟨⟨t5, s6, n7⟩, e8, H⟩ := ob H
    refine g_cI (S := [.ref nx]) hF (X0_init_ok (Nat.le_refl _) e8 K) mbX0_init miX0_init mlX1_46 (by omega) (by decide) (dAt tX1_handDown_ok 14 rfl rfl) rfl rfl (Nat.le_of_ble_eq_true rfl) rfl rfl (by decide) (by decide) rfl ?_
    refine g_p (L' := [some (.ref a), some (.ref r1), some (.int x2), some (.int x3), some (.int v2), some (.ref nx), some (.int 0)]) (S' := []) hF tX1_handDown_ok 15 3 rfl rfl rfl rfl ?_
    exact X1_handDown_b31_ok hD hF hE FU _ _ _ _ _ _ _ _ H
  · have H := Ht4 c4
    refine g_p (S' := [.int 0]) hF tX1_handDown_ok 6 1 rfl rfl rfl rfl ?_
    exact g_iret hF (en_ph H hE) (dAt tX1_handDown_ok 7 rfl rfl) (by decide) (by decide)
noncomputable def X1_sellOn_b66 (a : Nat) (r1 : Nat) (r2 : Nat) (x3 : Int32) (x4 : Int32) (x5 : Int32) (x6 : Int32) (τ : Tau) (σ : Sig) (nx : Nat) : Option (Int32 × Hp) := (X0_init_f (al τ nx (.inl (0, rsX0))) (zr σ nx) (nx + 1) nx x6 x4 x5 1).bind fun ⟨t1, s2, n3⟩ => chk (ShX0 t1 nx (tl t1 nx 1)) (chk (ShX3 t1 r1) ((X0_takeIn_f nx (tl t1 nx 1) r1 x3 s2).bind fun s7 => (gRs t1 3 r1 5).bind fun b9 => (stD t1 s7 b9 x3 x4).bind fun s11 => chk (ShX4 t1 r2) ((X4_pay_f r2 x6 x4 x5 s11).bind fun s14 => chk (∃ rs, t1 a = some (.inl (1, rs))) ((X1_keep_f t1 s14 n3 a nx).bind fun ⟨t17, s18, n19⟩ => some (1, (t17, s18, n19))))))
set_option maxRecDepth 4000 in
set_option maxHeartbeats 1000000 in
theorem X1_sellOn_b66_ok {K : Kt} {X : Cx} {D : Nat} {a : Nat} {r1 : Nat} {r2 : Nat} {res : Int32} {rh : Hp} (hD : 3 ≤ D) (hF : Fx K X cX1_sellOn 8 RX1 D 2 246) (hE : En K X (some .boolean) 2 246 (some (.int res)) rh) {x3 : Int32} {x4 : Int32} {x5 : Int32} {x6 : Int32} {τ : Tau} {σ : Sig} {nx : Nat} (H : X1_sellOn_b66 a r1 r2 x3 x4 x5 x6 τ σ nx = some (res, rh)) : G K X 8 0 0 66 [some (.ref a), some (.ref r1), some (.ref r2), some (.int x3), some (.int x4), some (.int x5), some (.int x6), none] [] (τ, σ, nx) := by
  refine g_new (ci := 0) hF tyX0 (dAt tX1_sellOn_ok 34 rfl rfl) rfl tyX0_ok clX1_9 inX0 icX0 rfl dvX0 (by decide) (by decide) ?_
  refine g_p (S' := [.int 1, .int x5, .int x4, .int x6, .ref nx, .ref nx]) hF tX1_sellOn_ok 35 5 rfl rfl rfl rfl ?_
  obtain ⟨⟨t1, s2, n3⟩, e4, H⟩ := ob H
  refine g_cI (S := [.ref nx]) hF (X0_init_ok (Nat.le_refl _) e4 K) mbX0_init miX0_init mlX1_46 (by omega) (by decide) (dAt tX1_sellOn_ok 40 rfl rfl) rfl rfl (Nat.le_of_ble_eq_true rfl) rfl rfl (by decide) (by decide) rfl ?_
  refine g_p (L' := [some (.ref a), some (.ref r1), some (.ref r2), some (.int x3), some (.int x4), some (.int x5), some (.int x6), some (.ref nx)]) (S' := [.int x3, .ref r1, .ref nx]) hF tX1_sellOn_ok 41 4 rfl rfl rfl rfl ?_
  obtain ⟨hc5, H⟩ := oc H
  obtain ⟨hc6, H⟩ := oc H
  obtain ⟨s7, e8, H⟩ := ob H
  refine g_cV (S := []) hF (X0_takeIn_ok (Nat.le_refl _) hc5 hc6 e8 K) mbX0_takeIn mvX0_takeIn mlX1_49 (by omega) (by decide) (dAt tX1_sellOn_ok 45 rfl rfl) hc5.1 rfl rfl rfl (Nat.le_of_ble_eq_true rfl) rfl rfl (by decide) (by decide) rfl ?_
  refine g_p (S' := [.ref r1]) hF tX1_sellOn_ok 46 1 rfl rfl rfl rfl ?_
  obtain ⟨b9, e10, H⟩ := ob H
  refine g_dgR hF (dAt tX1_sellOn_ok 47 rfl rfl) flX1_74 e10 ?_
  refine g_p (S' := [.int x4, .int x3, .ref b9]) hF tX1_sellOn_ok 48 2 rfl rfl rfl rfl ?_
  obtain ⟨s11, e12, H⟩ := ob H
  refine g_dist hF (dAt tX1_sellOn_ok 50 rfl rfl) e12 ?_
  refine g_p (S' := [.int x5, .int x4, .int x6, .ref r2]) hF tX1_sellOn_ok 51 4 rfl rfl rfl rfl ?_
  obtain ⟨hc13, H⟩ := oc H
  obtain ⟨s14, e15, H⟩ := ob H
  refine g_cV (S := []) hF (X4_pay_ok (Nat.le_refl _) hc13 e15 K) mbX4_pay mvX4_pay mlX1_53 (by omega) (by decide) (dAt tX1_sellOn_ok 55 rfl rfl) hc13.1 rfl rfl rfl (Nat.le_of_ble_eq_true rfl) rfl rfl (by decide) (by decide) rfl ?_
  refine g_p (S' := [.ref nx, .ref a]) hF tX1_sellOn_ok 56 2 rfl rfl rfl rfl ?_
  obtain ⟨hc16, H⟩ := oc H
  obtain ⟨⟨t17, s18, n19⟩, e20, H⟩ := ob H
  refine g_cV (S := []) hF (X1_keep_ok (Nat.le_refl _) e20 K) mbX1_keep mvX1_keep mlX1_57 (by omega) (by decide) (dAt tX1_sellOn_ok 58 rfl rfl) hc16.choose_spec rfl rfl rfl (Nat.le_of_ble_eq_true rfl) rfl rfl (by decide) (by decide) rfl ?_
  refine g_p (S' := [.int 1]) hF tX1_sellOn_ok 59 1 rfl rfl rfl rfl ?_
  exact g_zret hF (en_ph H hE) (Or.inr rfl) (dAt tX1_sellOn_ok 60 rfl rfl) (by decide) (by decide)
noncomputable def X1_sellOn_f (τ : Tau) (σ : Sig) (nx : Nat) (a : Nat) (r1 : Nat) (r2 : Nat) (x3 x4 x5 : Int32) : Option (Int32 × Hp) := chk (ShX3 τ r1) ((X3_isOpen_f r1 x3 σ).bind fun v2 => if v2 = 0 then (some (0, (τ, σ, nx))) else ((X11_isWithin_f x5 0 9999 σ).bind fun v5 => if v5 = 0 then (some (0, (τ, σ, nx))) else ((gRs τ 3 r1 1).bind fun b8 => (ldD τ σ b8 x3).bind fun v10 => if x4 = (-1) then (X1_sellOn_b66 a r1 r2 x3 x4 x5 v10 τ σ nx) else (if x4 = v10 then (some (0, (τ, σ, nx))) else (chk (ShX4 τ r2) ((X4_isNoChild_f r2 x4 σ).bind fun v15 => if v15 = 0 then (some (0, (τ, σ, nx))) else ((gRs τ 4 r2 6).bind fun b18 => (ldD τ σ b18 v10).bind fun v20 => if x5 ≤ v20 then (X1_sellOn_b66 a r1 r2 x3 x4 x5 v10 τ σ nx) else (some (0, (τ, σ, nx))))))))))
set_option maxRecDepth 4000 in
set_option maxHeartbeats 1000000 in
theorem X1_sellOn_ok {D : Nat} {τ : Tau} {σ : Sig} {nx : Nat} {a : Nat} {r1 : Nat} {r2 : Nat} {x3 x4 x5 : Int32} {res : Int32} {rh : Hp} (hD : 3 ≤ D) (H : X1_sellOn_f τ σ nx a r1 r2 x3 x4 x5 = some (res, rh)) : Ok D 2 246 yX1_sellOn cX1_sellOn 8 (some .boolean) [.ref a, .ref r1, .ref r2, .int x3, .int x4, .int x5] (τ, σ, nx) (some (.int res)) rh := by
  refine ok_of (by decide +kernel) rfl (Nat.le_of_ble_eq_true rfl) (fun K X hF hE hN L0 hL0 => ?_)
  obtain rfl : [some (.ref a), some (.ref r1), some (.ref r2), some (.int x3), some (.int x4), some (.int x5), none, none] = L0 := hL0
  have hF : Fx K X cX1_sellOn 8 RX1 D 2 246 := hF
  refine g_p (S' := [.int x3, .ref r1]) hF tX1_sellOn_ok 0 2 rfl rfl rfl rfl ?_
  obtain ⟨hc1, H⟩ := oc H
  obtain ⟨v2, e3, H⟩ := ob H
  refine g_cV (S := []) hF (X3_isOpen_ok (Nat.le_refl _) hc1 e3 K) mbX3_isOpen mvX3_isOpen mlX1_21 (by omega) (by decide) (dAt tX1_sellOn_ok 2 rfl rfl) hc1.1 rfl rfl rfl (Nat.le_of_ble_eq_true rfl) rfl rfl (by decide) (by decide) rfl ?_
  obtain ⟨Ht4, Hf4⟩ := oi H
  refine g_if_eq hF (dAt tX1_sellOn_ok 3 rfl rfl) rfl (fun c4 => ?_) (fun c4 => ?_)
  · have H := Ht4 c4
    refine g_p (S' := [.int 0]) hF tX1_sellOn_ok 9 1 rfl rfl rfl rfl ?_
    exact g_zret hF (en_ph H hE) (Or.inl rfl) (dAt tX1_sellOn_ok 10 rfl rfl) (by decide) (by decide)
  · have H := Hf4 c4
    refine g_p (S' := [.int 9999, .int 0, .int x5]) hF tX1_sellOn_ok 4 3 rfl rfl rfl rfl ?_
    obtain ⟨v5, e6, H⟩ := ob H
    refine g_cSN (S := []) hF (X11_isWithin_ok (Nat.le_refl _)  e6 K) mbX11_isWithin msX11_isWithin nlX1_32 (by omega) (by decide) (dAt tX1_sellOn_ok 7 rfl rfl) rfl rfl (Nat.le_of_ble_eq_true rfl) rfl rfl (by decide) (by decide) rfl ?_
    obtain ⟨Ht7, Hf7⟩ := oi H
    refine g_if_ne hF (dAt tX1_sellOn_ok 8 rfl rfl) rfl (fun c7 => ?_) (fun c7 => ?_)
    · have H := Hf7 c7
      refine g_p (S' := [.ref r1]) hF tX1_sellOn_ok 11 1 rfl rfl rfl rfl ?_
      obtain ⟨b8, e9, H⟩ := ob H
      refine g_dgR hF (dAt tX1_sellOn_ok 12 rfl rfl) flX1_40 e9 ?_
      refine g_p (S' := [.int x3, .ref b8]) hF tX1_sellOn_ok 13 1 rfl rfl rfl rfl ?_
      obtain ⟨v10, e11, H⟩ := ob H
      refine g_dild hF (dAt tX1_sellOn_ok 14 rfl rfl) e11 ?_
      refine g_p (L' := [some (.ref a), some (.ref r1), some (.ref r2), some (.int x3), some (.int x4), some (.int x5), some (.int v10), none]) (S' := [.int (-1), .int x4]) hF tX1_sellOn_ok 15 3 rfl rfl rfl rfl ?_
      obtain ⟨Ht12, Hf12⟩ := oi H
      refine g_icmp_eq hF (dAt tX1_sellOn_ok 18 rfl rfl) rfl (fun c12 => ?_) (fun c12 => ?_)
      · have H := Ht12 c12
        exact X1_sellOn_b66_ok hD hF hE H
      · have H := Hf12 c12
        refine g_p (S' := [.int v10, .int x4]) hF tX1_sellOn_ok 19 2 rfl rfl rfl rfl ?_
        obtain ⟨Ht13, Hf13⟩ := oi H
        refine g_icmp_eq hF (dAt tX1_sellOn_ok 21 rfl rfl) rfl (fun c13 => ?_) (fun c13 => ?_)
        · have H := Ht13 c13
          refine g_p (S' := [.int 0]) hF tX1_sellOn_ok 32 1 rfl rfl rfl rfl ?_
          exact g_zret hF (en_ph H hE) (Or.inl rfl) (dAt tX1_sellOn_ok 33 rfl rfl) (by decide) (by decide)
        · have H := Hf13 c13
          refine g_p (S' := [.int x4, .ref r2]) hF tX1_sellOn_ok 22 2 rfl rfl rfl rfl ?_
          obtain ⟨hc14, H⟩ := oc H
          obtain ⟨v15, e16, H⟩ := ob H
          refine g_cV (S := []) hF (X4_isNoChild_ok (Nat.le_refl _) hc14 e16 K) mbX4_isNoChild mvX4_isNoChild mlX1_94 (by omega) (by decide) (dAt tX1_sellOn_ok 24 rfl rfl) hc14.1 rfl rfl rfl (Nat.le_of_ble_eq_true rfl) rfl rfl (by decide) (by decide) rfl ?_
          obtain ⟨Ht17, Hf17⟩ := oi H
          refine g_if_eq hF (dAt tX1_sellOn_ok 25 rfl rfl) rfl (fun c17 => ?_) (fun c17 => ?_)
          · have H := Ht17 c17
            refine g_p (S' := [.int 0]) hF tX1_sellOn_ok 32 1 rfl rfl rfl rfl ?_
            exact g_zret hF (en_ph H hE) (Or.inl rfl) (dAt tX1_sellOn_ok 33 rfl rfl) (by decide) (by decide)
          · have H := Hf17 c17
            refine g_p (S' := [.ref r2]) hF tX1_sellOn_ok 26 1 rfl rfl rfl rfl ?_
            obtain ⟨b18, e19, H⟩ := ob H
            refine g_dgR hF (dAt tX1_sellOn_ok 27 rfl rfl) flX1_43 e19 ?_
            refine g_p (S' := [.int v10, .ref b18]) hF tX1_sellOn_ok 28 1 rfl rfl rfl rfl ?_
            obtain ⟨v20, e21, H⟩ := ob H
            refine g_dild hF (dAt tX1_sellOn_ok 29 rfl rfl) e21 ?_
            refine g_p (S' := [.int x5, .int v20]) hF tX1_sellOn_ok 30 1 rfl rfl rfl rfl ?_
            obtain ⟨Ht22, Hf22⟩ := oi H
            refine g_icmp_ge hF (dAt tX1_sellOn_ok 31 rfl rfl) rfl (fun c22 => ?_) (fun c22 => ?_)
            · have H := Ht22 c22
              exact X1_sellOn_b66_ok hD hF hE H
            · have H := Hf22 c22
              refine g_p (S' := [.int 0]) hF tX1_sellOn_ok 32 1 rfl rfl rfl rfl ?_
              exact g_zret hF (en_ph H hE) (Or.inl rfl) (dAt tX1_sellOn_ok 33 rfl rfl) (by decide) (by decide)
    · have H := Ht7 c7
      refine g_p (S' := [.int 0]) hF tX1_sellOn_ok 9 1 rfl rfl rfl rfl ?_
      exact g_zret hF (en_ph H hE) (Or.inl rfl) (dAt tX1_sellOn_ok 10 rfl rfl) (by decide) (by decide)
noncomputable def X1_goBack_f (τ : Tau) (σ : Sig) (nx : Nat) (a : Nat) (r1 : Nat) (r2 : Nat) : Option (Int32 × Hp) := (gI τ σ 1 a 0).bind fun v1 => if 1 ≤ v1 then ((gRs τ 1 a 1).bind fun b4 => (gI τ σ 1 a 0).bind fun v6 => (ldrD τ 0 b4 (v6 - 1)).bind fun r8 => onl r8 (some (0, (τ, σ, nx))) (fun b10 => chk (ShX0 τ b10 (tl τ b10 1)) (chk (ShX3 τ r1) ((X0_canGoBack_f b10 (tl τ b10 1) r1 σ).bind fun v13 => if v13 = 0 then (some (0, (τ, σ, nx))) else (chk (ShX4 τ r2) ((X0_goBack_f b10 (tl τ b10 1) r1 r2 σ).bind fun s17 => (gI τ s17 1 a 0).bind fun v19 => (dI τ s17 1 a 0 (v19 - 1)).bind fun s21 => some (1, (τ, s21, nx)))))))) else (some (0, (τ, σ, nx)))
set_option maxRecDepth 4000 in
set_option maxHeartbeats 1000000 in
theorem X1_goBack_ok {D : Nat} {τ : Tau} {σ : Sig} {nx : Nat} {a : Nat} {r1 : Nat} {r2 : Nat} {res : Int32} {rh : Hp} (hD : 4 ≤ D) (H : X1_goBack_f τ σ nx a r1 r2 = some (res, rh)) : Ok D 0 0 yX1_goBack cX1_goBack 4 (some .boolean) [.ref a, .ref r1, .ref r2] (τ, σ, nx) (some (.int res)) rh := by
  refine ok_of (by decide +kernel) rfl (Nat.le_of_ble_eq_true rfl) (fun K X hF hE hN L0 hL0 => ?_)
  obtain rfl : [some (.ref a), some (.ref r1), some (.ref r2), none] = L0 := hL0
  have hF : Fx K X cX1_goBack 4 RX1 D 0 0 := hF
  refine g_p (S' := [.ref a]) hF tX1_goBack_ok 0 1 rfl rfl rfl rfl ?_
  obtain ⟨v1, e2, H⟩ := ob H
  refine g_dgI hF (dAt tX1_goBack_ok 1 rfl rfl) flX1_17 e2 ?_
  refine g_p (S' := [.int 1, .int v1]) hF tX1_goBack_ok 2 1 rfl rfl rfl rfl ?_
  obtain ⟨Ht3, Hf3⟩ := oi H
  refine g_icmp_ge hF (dAt tX1_goBack_ok 3 rfl rfl) rfl (fun c3 => ?_) (fun c3 => ?_)
  · have H := Ht3 c3
    refine g_p (S' := [.ref a]) hF tX1_goBack_ok 6 1 rfl rfl rfl rfl ?_
    obtain ⟨b4, e5, H⟩ := ob H
    refine g_dgR hF (dAt tX1_goBack_ok 7 rfl rfl) flX1_11 e5 ?_
    refine g_p (S' := [.ref a, .ref b4]) hF tX1_goBack_ok 8 1 rfl rfl rfl rfl ?_
    obtain ⟨v6, e7, H⟩ := ob H
    refine g_dgI hF (dAt tX1_goBack_ok 9 rfl rfl) flX1_17 e7 ?_
    refine g_p (S' := [.int (v6 - 1), .ref b4]) hF tX1_goBack_ok 10 2 rfl rfl rfl rfl ?_
    obtain ⟨r8, e9, H⟩ := ob H
    refine g_drld (tj := 1) hF rfl (dAt tX1_goBack_ok 12 rfl rfl) e9 ?_
    rcases r8 with _ | b10
    · show G _ _ _ _ _ _ [some (.ref a), some (.ref r1), some (.ref r2), none] [.null] _
      refine g_p (L' := [some (.ref a), some (.ref r1), some (.ref r2), some (.null)]) (S' := [.null]) hF tX1_goBack_ok 13 2 rfl rfl rfl rfl ?_
      refine g_ifnullN hF (dAt tX1_goBack_ok 15 rfl rfl) rfl ?_
      refine g_p (S' := [.int 0]) hF tX1_goBack_ok 20 1 rfl rfl rfl rfl ?_
      exact g_zret hF (en_ph H hE) (Or.inl rfl) (dAt tX1_goBack_ok 21 rfl rfl) (by decide) (by decide)
    · show G _ _ _ _ _ _ [some (.ref a), some (.ref r1), some (.ref r2), none] [.ref b10] _
      refine g_p (L' := [some (.ref a), some (.ref r1), some (.ref r2), some (.ref b10)]) (S' := [.ref b10]) hF tX1_goBack_ok 13 2 rfl rfl rfl rfl ?_
      refine g_ifnull hF (dAt tX1_goBack_ok 15 rfl rfl) ?_
      refine g_p (S' := [.ref r1, .ref b10]) hF tX1_goBack_ok 16 2 rfl rfl rfl rfl ?_
      obtain ⟨hc11, H⟩ := oc H
      obtain ⟨hc12, H⟩ := oc H
      obtain ⟨v13, e14, H⟩ := ob H
      refine g_cV (S := []) hF (X0_canGoBack_ok (Nat.le_refl _) hc11 hc12 e14 K) mbX0_canGoBack mvX0_canGoBack mlX1_97 (by omega) (by decide) (dAt tX1_goBack_ok 18 rfl rfl) hc11.1 rfl rfl rfl (Nat.le_of_ble_eq_true rfl) rfl rfl (by decide) (by decide) rfl ?_
      obtain ⟨Ht15, Hf15⟩ := oi H
      refine g_if_ne hF (dAt tX1_goBack_ok 19 rfl rfl) rfl (fun c15 => ?_) (fun c15 => ?_)
      · have H := Hf15 c15
        refine g_p (S' := [.ref r2, .ref r1, .ref b10]) hF tX1_goBack_ok 22 3 rfl rfl rfl rfl ?_
        obtain ⟨hc16, H⟩ := oc H
        obtain ⟨s17, e18, H⟩ := ob H
        refine g_cV (S := []) hF (X0_goBack_ok (Nat.le_refl _) hc11 hc12 hc16 e18 K) mbX0_goBack mvX0_goBack mlX1_101 (by omega) (by decide) (dAt tX1_goBack_ok 25 rfl rfl) hc11.1 rfl rfl rfl (Nat.le_of_ble_eq_true rfl) rfl rfl (by decide) (by decide) rfl ?_
        refine g_p (S' := [.ref a, .ref a]) hF tX1_goBack_ok 26 2 rfl rfl rfl rfl ?_
        obtain ⟨v19, e20, H⟩ := ob H
        refine g_dgI hF (dAt tX1_goBack_ok 28 rfl rfl) flX1_17 e20 ?_
        refine g_p (S' := [.int (v19 - 1), .ref a]) hF tX1_goBack_ok 29 2 rfl rfl rfl rfl ?_
        obtain ⟨s21, e22, H⟩ := ob H
        refine g_dpI hF (dAt tX1_goBack_ok 31 rfl rfl) flX1_17 (Or.inl rfl) e22 ?_
        refine g_p (S' := [.int 1]) hF tX1_goBack_ok 32 1 rfl rfl rfl rfl ?_
        exact g_zret hF (en_ph H hE) (Or.inr rfl) (dAt tX1_goBack_ok 33 rfl rfl) (by decide) (by decide)
      · have H := Ht15 c15
        refine g_p (S' := [.int 0]) hF tX1_goBack_ok 20 1 rfl rfl rfl rfl ?_
        exact g_zret hF (en_ph H hE) (Or.inl rfl) (dAt tX1_goBack_ok 21 rfl rfl) (by decide) (by decide)
  · have H := Hf3 c3
    refine g_p (S' := [.int 0]) hF tX1_goBack_ok 4 1 rfl rfl rfl rfl ?_
    exact g_zret hF (en_ph H hE) (Or.inl rfl) (dAt tX1_goBack_ok 5 rfl rfl) (by decide) (by decide)

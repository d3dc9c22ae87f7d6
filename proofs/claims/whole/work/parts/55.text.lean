/-! Arrays.copyOf, the reader, text(). -/
noncomputable def J7_copyOf_59c91_f (τ : Tau) (σ : Sig) (nx : Nat) (r0 : Nat) (x1 : Int32) : Option (Option Nat × Hp) := (lnD τ r0).bind fun v1 => if x1 = v1 then ((clD τ r0 401).bind fun N10 => (lnD (al τ nx (.inr (.inl N10))) nx).bind fun v12 => some ((some nx), ((al τ nx (.inr (.inl N10))), (clS σ r0 nx), (nx + 1)))) else ((nwI x1 401).bind fun N4 => (lnD (al τ nx (.inr (.inl N4))) r0).bind fun v6 => (cpD (al τ nx (.inr (.inl N4))) (zr σ nx) r0 0 nx 0 (mmin v6 x1)).bind fun s8 => some ((some nx), ((al τ nx (.inr (.inl N4))), s8, (nx + 1))))
set_option maxRecDepth 4000 in
set_option maxHeartbeats 1000000 in
theorem J7_copyOf_59c91_ok {D : Nat} {τ : Tau} {σ : Sig} {nx : Nat} {r0 : Nat} {x1 : Int32} {res : Option Nat} {rh : Hp} (hD : 1 ≤ D) (H : J7_copyOf_59c91_f τ σ nx r0 x1 = some (res, rh)) : Ok D 1 401 yJ7_copyOf_59c91 cJ7_copyOf_59c91 3 (some (.array .int)) [.ref r0, .int x1] (τ, σ, nx) (some (va_rf res)) rh := by
  refine ok_of (by decide +kernel) rfl (Nat.le_of_ble_eq_true rfl) (fun K X hF hE hN L0 hL0 => ?_)
  obtain rfl : [some (.ref r0), some (.int x1), none] = L0 := hL0
  have hF : Fx K X cJ7_copyOf_59c91 3 RJ7 D 1 401 := hF
  refine g_p (S' := [.ref r0, .int x1]) hF tJ7_copyOf_59c91_ok 0 2 rfl rfl rfl rfl ?_
  obtain ⟨v1, e2, H⟩ := ob H
  refine g_dlen hF (dAt tJ7_copyOf_59c91_ok 2 rfl rfl) e2 ?_
  obtain ⟨Ht3, Hf3⟩ := oi H
  refine g_icmp_ne hF (dAt tJ7_copyOf_59c91_ok 3 rfl rfl) rfl (fun c3 => ?_) (fun c3 => ?_)
  · have H := Hf3 c3
    refine g_p (S' := [.int x1]) hF tJ7_copyOf_59c91_ok 8 1 rfl rfl rfl rfl ?_
    obtain ⟨N4, e5, H⟩ := ob H
    obtain ⟨pe5, qe5, re5⟩ := nwI_some e5
    refine g_newI (M := 401) hF (dAt tJ7_copyOf_59c91_ok 9 rfl rfl) ac_int pe5 qe5 re5 (by decide) (by decide) (by decide) ?_
    refine g_p (L' := [some (.ref r0), some (.int x1), some (.ref nx)]) (S' := [.ref r0, .int 0, .ref nx, .int 0, .ref r0]) hF tJ7_copyOf_59c91_ok 10 6 rfl rfl rfl rfl ?_
    obtain ⟨v6, e7, H⟩ := ob H
    refine g_dlen hF (dAt tJ7_copyOf_59c91_ok 16 rfl rfl) e7 ?_
    refine g_p (S' := [.int x1, .int v6, .int 0, .ref nx, .int 0, .ref r0]) hF tJ7_copyOf_59c91_ok 17 1 rfl rfl rfl rfl ?_
    refine g_mmin hF mlJ7_304 (dAt tJ7_copyOf_59c91_ok 18 rfl rfl) (by omega) (Nat.le_of_ble_eq_true rfl) (by decide) (by decide) ?_
    obtain ⟨s8, e9, H⟩ := ob H
    refine g_dcopy hF mlJ7_150 (dAt tJ7_copyOf_59c91_ok 19 rfl rfl) e9 (by omega) (Nat.le_of_ble_eq_true rfl) ?_
    refine g_p (S' := [.ref nx]) hF tJ7_copyOf_59c91_ok 20 1 rfl rfl rfl rfl ?_
    exact g_aret (r := (some nx)) hF (en_rh H hE) (Or.inr ⟨_, rfl⟩) (dAt tJ7_copyOf_59c91_ok 21 rfl rfl) (by decide) (by decide)
  · have H := Ht3 c3
    refine g_p (S' := [.ref r0]) hF tJ7_copyOf_59c91_ok 4 1 rfl rfl rfl rfl ?_
    obtain ⟨N10, e11, H⟩ := ob H
    refine g_clone hF (dAt tJ7_copyOf_59c91_ok 5 rfl rfl) e11 (by omega) (Nat.le_of_ble_eq_true rfl) (by decide) (by decide) ?_
    obtain ⟨v12, e13, H⟩ := ob H
    refine g_castI hF (dAt tJ7_copyOf_59c91_ok 6 rfl rfl) e13 ?_
    exact g_aret (r := (some nx)) hF (en_rh H hE) (Or.inr ⟨_, rfl⟩) (dAt tJ7_copyOf_59c91_ok 7 rfl rfl) (by decide) (by decide)
noncomputable def X5_read_b67 (a : Nat) (r1 : Nat) (τ : Tau) (σ : Sig) (nx : Nat) : Option (Option Nat × Hp) := (gI τ σ 5 a 0).bind fun v1 => if v1 = 0 then ((gI (al τ nx (.inl (7, rsX7))) (zr σ nx) 5 a 3).bind fun v4 => (gRs (al τ nx (.inl (7, rsX7))) 5 a 6).bind fun b6 => (gI (al τ nx (.inl (7, rsX7))) (zr σ nx) 5 a 3).bind fun v8 => (J7_copyOf_59c91_f (al τ nx (.inl (7, rsX7))) (zr σ nx) (nx + 1) b6 (v8 + 1)).bind fun ⟨r10, t11, s12, n13⟩ => (r10).bind fun b14 => (gRs t11 5 a 7).bind fun b16 => (gI t11 s12 5 a 3).bind fun v18 => (J7_copyOf_59c91_f t11 s12 n13 b16 v18).bind fun ⟨r20, t21, s22, n23⟩ => (r20).bind fun b24 => (gRs t21 5 a 5).bind fun b26 => (gI t21 s22 5 a 4).bind fun v28 => (J7_copyOf_59c91_f t21 s22 n23 b26 v28).bind fun ⟨r30, t31, s32, n33⟩ => (r30).bind fun b34 => (X7_init_f t31 s32 n33 nx b14 b24 b34 v4).bind fun ⟨t36, s37, n38⟩ => some ((some nx), (t36, s37, n38))) else (some (none, (τ, σ, nx)))
set_option maxRecDepth 4000 in
set_option maxHeartbeats 1000000 in
theorem X5_read_b67_ok {K : Kt} {X : Cx} {D : Nat} {a : Nat} {r1 : Nat} {res : Option Nat} {rh : Hp} (hD : 46 ≤ D) (hF : Fx K X cX5_read 4 RX5 D 4 1207) (hE : En K X (some (.object "SilenceForMoney$Text")) 4 1207 (some (va_rf res)) rh) {τ : Tau} {σ : Sig} {nx : Nat} (H : X5_read_b67 a r1 τ σ nx = some (res, rh)) : G K X 4 0 0 67 [some (.ref a), none, none, none] [] (τ, σ, nx) := by
  refine g_p (S' := [.ref a]) hF tX5_read_ok 35 1 rfl rfl rfl rfl ?_
  obtain ⟨v1, e2, H⟩ := ob H
  refine g_dgI hF (dAt tX5_read_ok 36 rfl rfl) flX5_34 e2 ?_
  obtain ⟨Ht3, Hf3⟩ := oi H
  refine g_if_eq hF (dAt tX5_read_ok 37 rfl rfl) rfl (fun c3 => ?_) (fun c3 => ?_)
  · have H := Ht3 c3
    refine g_new (ci := 7) hF tyX7 (dAt tX5_read_ok 40 rfl rfl) rfl tyX7_ok clX5_60 inX7 icX7 rfl dvX7 (by decide) (by decide) ?_
    refine g_p (S' := [.ref a, .ref nx, .ref nx]) hF tX5_read_ok 41 2 rfl rfl rfl rfl ?_
    obtain ⟨v4, e5, H⟩ := ob H
    refine g_dgI hF (dAt tX5_read_ok 43 rfl rfl) flX5_44 e5 ?_
    refine g_p (S' := [.ref a, .int v4, .ref nx, .ref nx]) hF tX5_read_ok 44 1 rfl rfl rfl rfl ?_
    obtain ⟨b6, e7, H⟩ := ob H
    refine g_dgR hF (dAt tX5_read_ok 45 rfl rfl) flX5_19 e7 ?_
    refine g_p (S' := [.ref a, .ref b6, .int v4, .ref nx, .ref nx]) hF tX5_read_ok 46 1 rfl rfl rfl rfl ?_
    obtain ⟨v8, e9, H⟩ := ob H
    refine g_dgI hF (dAt tX5_read_ok 47 rfl rfl) flX5_44 e9 ?_
    refine g_p (S' := [.int (v8 + 1), .ref b6, .int v4, .ref nx, .ref nx]) hF tX5_read_ok 48 2 rfl rfl rfl rfl ?_
    obtain ⟨⟨r10, t11, s12, n13⟩, e15, H⟩ := ob H
    obtain ⟨b14, qb14, Hb14⟩ := ob H
    clear H
    subst qb14
    have H := Hb14
    refine g_cS (S := [.int v4, .ref nx, .ref nx]) hF (J7_copyOf_59c91_ok (Nat.le_refl _) e15 K) mbJ7_copyOf_59c91 msJ7_copyOf_59c91 mlX5_62 (by omega) (by decide) (dAt tX5_read_ok 50 rfl rfl) rfl rfl (Nat.le_of_ble_eq_true rfl) rfl rfl (by decide) (by decide) rfl ?_
    show G _ _ _ _ _ _ [some (.ref a), none, none, none] [.ref b14, .int v4, .ref nx, .ref nx] _
    refine g_p (S' := [.ref a, .ref b14, .int v4, .ref nx, .ref nx]) hF tX5_read_ok 51 1 rfl rfl rfl rfl ?_
    obtain ⟨b16, e17, H⟩ := ob H
    refine g_dgR hF (dAt tX5_read_ok 52 rfl rfl) flX5_22 e17 ?_
    refine g_p (S' := [.ref a, .ref b16, .ref b14, .int v4, .ref nx, .ref nx]) hF tX5_read_ok 53 1 rfl rfl rfl rfl ?_
    obtain ⟨v18, e19, H⟩ := ob H
    refine g_dgI hF (dAt tX5_read_ok 54 rfl rfl) flX5_44 e19 ?_
    obtain ⟨⟨r20, t21, s22, n23⟩, e25, H⟩ := ob H
    obtain ⟨b24, qb24, Hb24⟩ := ob H
    clear H
    subst qb24
    have H := Hb24
    refine g_cS (S := [.ref b14, .int v4, .ref nx, .ref nx]) hF (J7_copyOf_59c91_ok (Nat.le_refl _) e25 K) mbJ7_copyOf_59c91 msJ7_copyOf_59c91 mlX5_62 (by omega) (by decide) (dAt tX5_read_ok 55 rfl rfl) rfl rfl (Nat.le_of_ble_eq_true rfl) rfl rfl (by decide) (by decide) rfl ?_
    show G _ _ _ _ _ _ [some (.ref a), none, none, none] [.ref b24, .ref b14, .int v4, .ref nx, .ref nx] _
    refine g_p (S' := [.ref a, .ref b24, .ref b14, .int v4, .ref nx, .ref nx]) hF tX5_read_ok 56 1 rfl rfl rfl rfl ?_
    obtain ⟨b26, e27, H⟩ := ob H
    refine g_dgR hF (dAt tX5_read_ok 57 rfl rfl) flX5_15 e27 ?_
    refine g_p (S' := [.ref a, .ref b26, .ref b24, .ref b14, .int v4, .ref nx, .ref nx]) hF tX5_read_ok 58 1 rfl rfl rfl rfl ?_
    obtain ⟨v28, e29, H⟩ := ob H
    refine g_dgI hF (dAt tX5_read_ok 59 rfl rfl) flX5_47 e29 ?_
    obtain ⟨⟨r30, t31, s32, n33⟩, e35, H⟩ := ob H
    obtain ⟨b34, qb34, Hb34⟩ := ob H
    clear H
    subst qb34
    have H := Hb34
    refine g_cS (S := [.ref b24, .ref b14, .int v4, .ref nx, .ref nx]) hF (J7_copyOf_59c91_ok (Nat.le_refl _) e35 K) mbJ7_copyOf_59c91 msJ7_copyOf_59c91 mlX5_62 (by omega) (by decide) (dAt tX5_read_ok 60 rfl rfl) rfl rfl (Nat.le_of_ble_eq_true rfl) rfl rfl (by decide) (by decide) rfl ?_
    show G _ _ _ _ _ _ [some (.ref a), none, none, none] [.ref b34, .ref b24, .ref b14, .int v4, .ref nx, .ref nx] _
    obtain ⟨⟨t36, s37, n38⟩, e39, H⟩ := ob H
    refine g_cI (S := [.ref nx]) hF (X7_init_ok (Nat.le_refl _) e39 K) mbX7_init miX7_init mlX5_68 (by omega) (by decide) (dAt tX5_read_ok 61 rfl rfl) rfl rfl (Nat.le_of_ble_eq_true rfl) rfl rfl (by decide) (by decide) rfl ?_
    exact g_aret (r := (some nx)) hF (en_rh H hE) (Or.inl ⟨_, rfl⟩) (dAt tX5_read_ok 62 rfl rfl) (by decide) (by decide)
  · have H := Hf3 c3
    refine g_p (S' := [.null]) hF tX5_read_ok 38 1 rfl rfl rfl rfl ?_
    exact g_aret (r := none) hF (en_rh H hE) (Or.inl ⟨_, rfl⟩) (dAt tX5_read_ok 39 rfl rfl) (by decide) (by decide)
noncomputable def X5_read_b31 (a : Nat) (r1 : Nat) : Nat → Int32 → Tau → Sig → Nat → Option (Option Nat × Hp)
  | 0, _, _, _, _ => none
  | fu + 1, x3, τ, σ, nx => if 400 ≤ x3 then (X5_read_b67 a r1 τ σ nx) else ((gI τ σ 5 a 0).bind fun v2 => if v2 = 0 then ((gRs τ 5 a 8).bind fun b5 => (gI τ σ 5 a 12).bind fun v7 => (ldD τ σ b5 v7).bind fun v9 => if v9 = 0 then (X5_read_b67 a r1 τ σ nx) else (chk (ShX5 τ a) ((X5_readLine_f a σ).bind fun s13 => X5_read_b31 a r1 fu (x3 + 1) τ s13 nx))) else (X5_read_b67 a r1 τ σ nx))
set_option maxRecDepth 4000 in
set_option maxHeartbeats 1000000 in
theorem X5_read_b31_ok {K : Kt} {X : Cx} {D : Nat} {a : Nat} {r1 : Nat} {res : Option Nat} {rh : Hp} (hD : 46 ≤ D) (hF : Fx K X cX5_read 4 RX5 D 4 1207) (hE : En K X (some (.object "SilenceForMoney$Text")) 4 1207 (some (va_rf res)) rh) : ∀ (fu : Nat) (x3 : Int32) (τ : Tau) (σ : Sig) (nx : Nat), X5_read_b31 a r1 fu x3 τ σ nx = some (res, rh) → G K X 4 0 0 31 [some (.ref a), none, none, some (.int x3)] [] (τ, σ, nx)
  | 0, _, _, _, _, H => nomatch H
  | fu + 1, x3, τ, σ, nx, H => by
    refine g_p (S' := [.int 400, .int x3]) hF tX5_read_ok 19 2 rfl rfl rfl rfl ?_
    obtain ⟨Ht1, Hf1⟩ := oi H
    refine g_icmp_ge hF (dAt tX5_read_ok 21 rfl rfl) rfl (fun c1 => ?_) (fun c1 => ?_)
    · have H := Ht1 c1
      refine g_m [true, false, false, false] rfl ?_
      exact X5_read_b67_ok hD hF hE H
    · have H := Hf1 c1
      refine g_p (S' := [.ref a]) hF tX5_read_ok 22 1 rfl rfl rfl rfl ?_
      obtain ⟨v2, e3, H⟩ := ob H
      refine g_dgI hF (dAt tX5_read_ok 23 rfl rfl) flX5_34 e3 ?_
      obtain ⟨Ht4, Hf4⟩ := oi H
      refine g_if_ne hF (dAt tX5_read_ok 24 rfl rfl) rfl (fun c4 => ?_) (fun c4 => ?_)
      · have H := Hf4 c4
        refine g_m [true, false, false, false] rfl ?_
        exact X5_read_b67_ok hD hF hE H
      · have H := Ht4 c4
        refine g_p (S' := [.ref a]) hF tX5_read_ok 25 1 rfl rfl rfl rfl ?_
        obtain ⟨b5, e6, H⟩ := ob H
        refine g_dgR hF (dAt tX5_read_ok 26 rfl rfl) flX5_25 e6 ?_
        refine g_p (S' := [.ref a, .ref b5]) hF tX5_read_ok 27 1 rfl rfl rfl rfl ?_
        obtain ⟨v7, e8, H⟩ := ob H
        refine g_dgI hF (dAt tX5_read_ok 28 rfl rfl) flX5_54 e8 ?_
        obtain ⟨v9, e10, H⟩ := ob H
        refine g_dild hF (dAt tX5_read_ok 29 rfl rfl) e10 ?_
        obtain ⟨Ht11, Hf11⟩ := oi H
        refine g_if_eq hF (dAt tX5_read_ok 30 rfl rfl) rfl (fun c11 => ?_) (fun c11 => ?_)
        · have H := Ht11 c11
          refine g_m [true, false, false, false] rfl ?_
          exact X5_read_b67_ok hD hF hE H
        · have H := Hf11 c11
          refine g_p (S' := [.ref a]) hF tX5_read_ok 31 1 rfl rfl rfl rfl ?_
          obtain ⟨hc12, H⟩ := oc H
          obtain ⟨s13, e14, H⟩ := ob H
          refine g_cV (S := []) hF (X5_readLine_ok (Nat.le_refl _) hc12 e14 K) mbX5_readLine mvX5_readLine mlX5_57 (by omega) (by decide) (dAt tX5_read_ok 32 rfl rfl) hc12.1 rfl rfl rfl (Nat.le_of_ble_eq_true rfl) rfl rfl (by decide) (by decide) rfl ?_
          refine g_p (L' := [some (.ref a), none, none, some (.int (x3 + 1))]) (S' := []) hF tX5_read_ok 33 1 rfl rfl rfl rfl ?_
          refine g_goto hF (dAt tX5_read_ok 34 rfl rfl) rfl ?_
          exact X5_read_b31_ok hD hF hE fu _ _ _ _ H
noncomputable def X5_read_f (τ : Tau) (σ : Sig) (nx : Nat) (a : Nat) (r1 : Nat) (x2 : Int32) : Option (Option Nat × Hp) := chk (ShX5 τ a) ((X5_forget_f a σ).bind fun s2 => (dZ τ s2 5 a 2 x2).bind fun s4 => (dI τ s4 5 a 3 0).bind fun s6 => (dI τ s6 5 a 4 0).bind fun s8 => chk (ShX6 τ r1) ((X5_findTokens_f a r1 s8).bind fun s11 => (dI τ s11 5 a 12 0).bind fun s13 => X5_read_b31 a r1 FU 0 τ s13 nx))
set_option maxRecDepth 4000 in
set_option maxHeartbeats 1000000 in
theorem X5_read_ok {D : Nat} {τ : Tau} {σ : Sig} {nx : Nat} {a : Nat} {r1 : Nat} {x2 : Int32} {res : Option Nat} {rh : Hp} (hD : 46 ≤ D) (H : X5_read_f τ σ nx a r1 x2 = some (res, rh)) : Ok D 4 1207 yX5_read cX5_read 4 (some (.object "SilenceForMoney$Text")) [.ref a, .ref r1, .int x2] (τ, σ, nx) (some (va_rf res)) rh := by
  refine ok_of (by decide +kernel) rfl (Nat.le_of_ble_eq_true rfl) (fun K X hF hE hN L0 hL0 => ?_)
  obtain rfl : [some (.ref a), some (.ref r1), some (.int x2), none] = L0 := hL0
  have hF : Fx K X cX5_read 4 RX5 D 4 1207 := hF
  refine g_p (S' := [.ref a]) hF tX5_read_ok 0 1 rfl rfl rfl rfl ?_
  obtain ⟨hc1, H⟩ := oc H
  obtain ⟨s2, e3, H⟩ := ob H
  refine g_cV (S := []) hF (X5_forget_ok (Nat.le_refl _) hc1 e3 K) mbX5_forget mvX5_forget mlX5_37 (by omega) (by decide) (dAt tX5_read_ok 1 rfl rfl) hc1.1 rfl rfl rfl (Nat.le_of_ble_eq_true rfl) rfl rfl (by decide) (by decide) rfl ?_
  refine g_p (S' := [.int x2, .ref a]) hF tX5_read_ok 2 2 rfl rfl rfl rfl ?_
  obtain ⟨s4, e5, H⟩ := ob H
  refine g_dpZ hF (dAt tX5_read_ok 4 rfl rfl) flX5_40 (Or.inl rfl) e5 ?_
  refine g_p (S' := [.int 0, .ref a]) hF tX5_read_ok 5 2 rfl rfl rfl rfl ?_
  obtain ⟨s6, e7, H⟩ := ob H
  refine g_dpI hF (dAt tX5_read_ok 7 rfl rfl) flX5_44 (Or.inl rfl) e7 ?_
  refine g_p (S' := [.int 0, .ref a]) hF tX5_read_ok 8 2 rfl rfl rfl rfl ?_
  obtain ⟨s8, e9, H⟩ := ob H
  refine g_dpI hF (dAt tX5_read_ok 10 rfl rfl) flX5_47 (Or.inl rfl) e9 ?_
  refine g_p (S' := [.ref r1, .ref a]) hF tX5_read_ok 11 2 rfl rfl rfl rfl ?_
  obtain ⟨hc10, H⟩ := oc H
  obtain ⟨s11, e12, H⟩ := ob H
  refine g_cV (S := []) hF (X5_findTokens_ok (Nat.le_refl _) hc1 hc10 e12 K) mbX5_findTokens mvX5_findTokens mlX5_50 (by omega) (by decide) (dAt tX5_read_ok 13 rfl rfl) hc1.1 rfl rfl rfl (Nat.le_of_ble_eq_true rfl) rfl rfl (by decide) (by decide) rfl ?_
  refine g_p (S' := [.int 0, .ref a]) hF tX5_read_ok 14 2 rfl rfl rfl rfl ?_
  obtain ⟨s13, e14, H⟩ := ob H
  refine g_dpI hF (dAt tX5_read_ok 16 rfl rfl) flX5_54 (Or.inl rfl) e14 ?_
  refine g_p (L' := [some (.ref a), some (.ref r1), some (.int x2), some (.int 0)]) (S' := []) hF tX5_read_ok 17 2 rfl rfl rfl rfl ?_
  refine g_m [true, false, false, true] rfl ?_
  exact X5_read_b31_ok hD hF hE FU _ _ _ _ H
noncomputable def X11_text_b44 (a : Nat) (b1_ : Nat) (b2_ : Nat) (x1 : Int32) (y0 : Int32) (τ : Tau) (σ : Sig) (nx : Nat) : Option (Int32 × Hp) := chk (∃ rs, τ b2_ = some (.inl (5, rs))) ((X5_read_f τ σ nx b2_ b1_ y0).bind fun ⟨r2, t3, s4, n5⟩ => onl r2 ((gRs t3 11 a 3).bind fun b8 => (dI t3 s4 6 b8 1 0).bind fun s10 => some ((-1), (t3, s10, n5))) (fun b7 => (gRs t3 11 a 3).bind fun b12 => (dI t3 s4 6 b12 1 0).bind fun s14 => (gRs t3 11 a 0).bind fun b16 => (gRs t3 10 b16 6).bind fun b18 => (strD t3 7 b18 x1 (some b7)).bind fun t20 => (gI t20 s14 7 b7 0).bind fun v22 => some (v22, (t20, s14, n5))))
set_option maxRecDepth 4000 in
set_option maxHeartbeats 1000000 in
theorem X11_text_b44_ok {K : Kt} {X : Cx} {D : Nat} {a : Nat} {res : Int32} {rh : Hp} (hD : 47 ≤ D) (hF : Fx K X cX11_text 3 RX11 D 4 1207) (hE : En K X (some .int) 4 1207 (some (.int res)) rh) {b1_ : Nat} {b2_ : Nat} {x1 : Int32} {y0 : Int32} {τ : Tau} {σ : Sig} {nx : Nat} (H : X11_text_b44 a b1_ b2_ x1 y0 τ σ nx = some (res, rh)) : G K X 3 0 0 44 [some (.ref a), some (.int x1), none] [.int y0, .ref b1_, .ref b2_] (τ, σ, nx) := by
  obtain ⟨hc1, H⟩ := oc H
  obtain ⟨⟨r2, t3, s4, n5⟩, e6, H⟩ := ob H
  refine g_cV (S := []) hF (X5_read_ok (Nat.le_refl _) e6 K) mbX5_read mvX5_read mlX11_137 (by omega) (by decide) (dAt tX11_text_ok 24 rfl rfl) hc1.choose_spec rfl rfl rfl (Nat.le_of_ble_eq_true rfl) rfl rfl (by decide) (by decide) rfl ?_
  rcases r2 with _ | b7
  · show G _ _ _ _ _ _ [some (.ref a), some (.int x1), none] [.null] _
    refine g_p (L' := [some (.ref a), some (.int x1), some (.null)]) (S' := [.ref a]) hF tX11_text_ok 25 2 rfl rfl rfl rfl ?_
    obtain ⟨b8, e9, H⟩ := ob H
    refine g_dgR hF (dAt tX11_text_ok 27 rfl rfl) flX11_32 e9 ?_
    refine g_p (S' := [.int 0, .ref b8]) hF tX11_text_ok 28 1 rfl rfl rfl rfl ?_
    obtain ⟨s10, e11, H⟩ := ob H
    refine g_dpI hF (dAt tX11_text_ok 29 rfl rfl) flX11_127 (Or.inl rfl) e11 ?_
    refine g_p (S' := [.null]) hF tX11_text_ok 30 1 rfl rfl rfl rfl ?_
    refine g_ifnonnullN hF (dAt tX11_text_ok 31 rfl rfl) ?_
    refine g_p (S' := [.int (-1)]) hF tX11_text_ok 32 1 rfl rfl rfl rfl ?_
    exact g_iret hF (en_ph H hE) (dAt tX11_text_ok 33 rfl rfl) (by decide) (by decide)
  · show G _ _ _ _ _ _ [some (.ref a), some (.int x1), none] [.ref b7] _
    refine g_p (L' := [some (.ref a), some (.int x1), some (.ref b7)]) (S' := [.ref a]) hF tX11_text_ok 25 2 rfl rfl rfl rfl ?_
    obtain ⟨b12, e13, H⟩ := ob H
    refine g_dgR hF (dAt tX11_text_ok 27 rfl rfl) flX11_32 e13 ?_
    refine g_p (S' := [.int 0, .ref b12]) hF tX11_text_ok 28 1 rfl rfl rfl rfl ?_
    obtain ⟨s14, e15, H⟩ := ob H
    refine g_dpI hF (dAt tX11_text_ok 29 rfl rfl) flX11_127 (Or.inl rfl) e15 ?_
    refine g_p (S' := [.ref b7]) hF tX11_text_ok 30 1 rfl rfl rfl rfl ?_
    refine g_ifnonnull hF (dAt tX11_text_ok 31 rfl rfl) rfl ?_
    refine g_p (S' := [.ref a]) hF tX11_text_ok 34 1 rfl rfl rfl rfl ?_
    obtain ⟨b16, e17, H⟩ := ob H
    refine g_dgR hF (dAt tX11_text_ok 35 rfl rfl) flX11_19 e17 ?_
    obtain ⟨b18, e19, H⟩ := ob H
    refine g_dgR hF (dAt tX11_text_ok 36 rfl rfl) flX11_141 e19 ?_
    refine g_p (S' := [.ref b7, .int x1, .ref b18]) hF tX11_text_ok 37 2 rfl rfl rfl rfl ?_
    obtain ⟨t20, e21, H⟩ := ob H
    refine g_drst (some b7) (tj := 2) hF rfl rfl (dAt tX11_text_ok 39 rfl rfl) e21 ?_
    refine g_p (S' := [.ref b7]) hF tX11_text_ok 40 1 rfl rfl rfl rfl ?_
    obtain ⟨v22, e23, H⟩ := ob H
    refine g_dgI hF (dAt tX11_text_ok 41 rfl rfl) flX11_145 e23 ?_
    exact g_iret hF (en_ph H hE) (dAt tX11_text_ok 42 rfl rfl) (by decide) (by decide)
noncomputable def X11_text_f (τ : Tau) (σ : Sig) (nx : Nat) (a : Nat) (x1 : Int32) : Option (Int32 × Hp) := (X11_isWithin_f x1 0 5 σ).bind fun v1 => if v1 = 0 then ((gRs τ 11 a 4).bind fun b9 => chk (ShX5 τ b9) ((X5_forget_f b9 σ).bind fun s12 => (gRs τ 11 a 3).bind fun b14 => (dI τ s12 6 b14 1 0).bind fun s16 => some ((-1), (τ, s16, nx)))) else ((gRs τ 11 a 4).bind fun b4 => (gRs τ 11 a 3).bind fun b6 => if 2 ≤ x1 then (X11_text_b44 a b6 b4 x1 0 τ σ nx) else (X11_text_b44 a b6 b4 x1 1 τ σ nx))
set_option maxRecDepth 4000 in
set_option maxHeartbeats 1000000 in
theorem X11_text_ok {D : Nat} {τ : Tau} {σ : Sig} {nx : Nat} {a : Nat} {x1 : Int32} {res : Int32} {rh : Hp} (hD : 47 ≤ D) (H : X11_text_f τ σ nx a x1 = some (res, rh)) : Ok D 4 1207 yX11_text cX11_text 3 (some .int) [.ref a, .int x1] (τ, σ, nx) (some (.int res)) rh := by
  refine ok_of (by decide +kernel) rfl (Nat.le_of_ble_eq_true rfl) (fun K X hF hE hN L0 hL0 => ?_)
  obtain rfl : [some (.ref a), some (.int x1), none] = L0 := hL0
  have hF : Fx K X cX11_text 3 RX11 D 4 1207 := hF
  refine g_p (S' := [.int 5, .int 0, .int x1]) hF tX11_text_ok 0 3 rfl rfl rfl rfl ?_
  obtain ⟨v1, e2, H⟩ := ob H
  refine g_cS (S := []) hF (X11_isWithin_ok (Nat.le_refl _)  e2 K) mbX11_isWithin msX11_isWithin mlX11_53 (by omega) (by decide) (dAt tX11_text_ok 3 rfl rfl) rfl rfl (Nat.le_of_ble_eq_true rfl) rfl rfl (by decide) (by decide) rfl ?_
  obtain ⟨Ht3, Hf3⟩ := oi H
  refine g_if_ne hF (dAt tX11_text_ok 4 rfl rfl) rfl (fun c3 => ?_) (fun c3 => ?_)
  · have H := Hf3 c3
    refine g_p (S' := [.ref a]) hF tX11_text_ok 14 1 rfl rfl rfl rfl ?_
    obtain ⟨b4, e5, H⟩ := ob H
    refine g_dgR hF (dAt tX11_text_ok 15 rfl rfl) flX11_39 e5 ?_
    refine g_p (S' := [.ref a, .ref b4]) hF tX11_text_ok 16 1 rfl rfl rfl rfl ?_
    obtain ⟨b6, e7, H⟩ := ob H
    refine g_dgR hF (dAt tX11_text_ok 17 rfl rfl) flX11_32 e7 ?_
    refine g_p (S' := [.int 2, .int x1, .ref b6, .ref b4]) hF tX11_text_ok 18 2 rfl rfl rfl rfl ?_
    obtain ⟨Ht8, Hf8⟩ := oi H
    refine g_icmp_ge hF (dAt tX11_text_ok 20 rfl rfl) rfl (fun c8 => ?_) (fun c8 => ?_)
    · have H := Ht8 c8
      refine g_p (S' := [.int 0, .ref b6, .ref b4]) hF tX11_text_ok 23 1 rfl rfl rfl rfl ?_
      exact X11_text_b44_ok hD hF hE H
    · have H := Hf8 c8
      refine g_p (S' := [.int 1, .ref b6, .ref b4]) hF tX11_text_ok 21 1 rfl rfl rfl rfl ?_
      refine g_goto hF (dAt tX11_text_ok 22 rfl rfl) rfl ?_
      exact X11_text_b44_ok hD hF hE H
  · have H := Ht3 c3
    refine g_p (S' := [.ref a]) hF tX11_text_ok 5 1 rfl rfl rfl rfl ?_
    obtain ⟨b9, e10, H⟩ := ob H
    refine g_dgR hF (dAt tX11_text_ok 6 rfl rfl) flX11_39 e10 ?_
    obtain ⟨hc11, H⟩ := oc H
    obtain ⟨s12, e13, H⟩ := ob H
    refine g_cV (S := []) hF (X5_forget_ok (Nat.le_refl _) hc11 e13 K) mbX5_forget mvX5_forget mlX11_134 (by omega) (by decide) (dAt tX11_text_ok 7 rfl rfl) hc11.1 rfl rfl rfl (Nat.le_of_ble_eq_true rfl) rfl rfl (by decide) (by decide) rfl ?_
    refine g_p (S' := [.ref a]) hF tX11_text_ok 8 1 rfl rfl rfl rfl ?_
    obtain ⟨b14, e15, H⟩ := ob H
    refine g_dgR hF (dAt tX11_text_ok 9 rfl rfl) flX11_32 e15 ?_
    refine g_p (S' := [.int 0, .ref b14]) hF tX11_text_ok 10 1 rfl rfl rfl rfl ?_
    obtain ⟨s16, e17, H⟩ := ob H
    refine g_dpI hF (dAt tX11_text_ok 11 rfl rfl) flX11_127 (Or.inl rfl) e17 ?_
    refine g_p (S' := [.int (-1)]) hF tX11_text_ok 12 1 rfl rfl rfl rfl ?_
    exact g_iret hF (en_ph H hE) (dAt tX11_text_ok 13 rfl rfl) (by decide) (by decide)

/-! SilenceForMoney -/
def X11_state_f (a : Nat) (x1 : Int32) (σ : Sig) : Option (Int32 × Sig) := (pI σ ((a + 5) + 26) 0 x1).bind fun s1 => some ((σ ((a + 5) + 26) 0), s1)
set_option maxRecDepth 4000 in
set_option maxHeartbeats 1000000 in
theorem X11_state_ok {D : Nat} {τ : Tau} {nx : Nat} {a : Nat} {x1 : Int32} {σ : Sig} {res : Int32} {rsg : Sig} (hD : 1 ≤ D) (hS : ShX11 τ a) (H : X11_state_f a x1 σ = some (res, rsg)) : Ok D 0 0 yX11_state cX11_state 3 (some .int) [.ref a, .int x1] (τ, σ, nx) (some (.int res)) (τ, rsg, nx) := by
  refine ok_of (by decide +kernel) rfl (Nat.le_of_ble_eq_true rfl) (fun K X hF hE hN L0 hL0 => ?_)
  obtain rfl : [some (.ref a), some (.int x1), none] = L0 := hL0
  have hF : Fx K X cX11_state 3 RX11 D 0 0 := hF
  refine g_p (S' := [.ref a]) hF tX11_state_ok 0 1 rfl rfl rfl rfl ?_
  refine g_getR hF (dAt tX11_state_ok 1 rfl rfl) flX11_19 hS.1 rfl ?_
  refine g_getR hF (dAt tX11_state_ok 2 rfl rfl) flX11_43 hS.2.1.1 rfl ?_
  refine g_getI hF (dAt tX11_state_ok 3 rfl rfl) flX11_47 hS.2.1.2.2.2.2.1 rfl ?_
  refine g_p (L' := [some (.ref a), some (.int x1), some (.int (σ ((a + 5) + 26) 0))]) (S' := [.ref a]) hF tX11_state_ok 4 2 rfl rfl rfl rfl ?_
  refine g_getR hF (dAt tX11_state_ok 6 rfl rfl) flX11_19 hS.1 rfl ?_
  refine g_getR hF (dAt tX11_state_ok 7 rfl rfl) flX11_43 hS.2.1.1 rfl ?_
  refine g_p (S' := [.int x1, .ref ((a + 5) + 26)]) hF tX11_state_ok 8 1 rfl rfl rfl rfl ?_
  obtain ⟨s1, e2, H⟩ := ob H
  refine g_pI hF (dAt tX11_state_ok 9 rfl rfl) flX11_47 (Or.inl rfl) hS.2.1.2.2.2.2.1 rfl e2 ?_
  refine g_p (S' := [.int (σ ((a + 5) + 26) 0)]) hF tX11_state_ok 10 1 rfl rfl rfl rfl ?_
  exact g_iret hF (en_p H hE) (dAt tX11_state_ok 11 rfl rfl) (by decide) (by decide)
def X11_one_f (a : Nat) (x1 x2 x3 x4 x5 : Int32) (σ : Sig) : Option (Int32 × Sig) := (X11_isWithin_f x1 0 2 σ).bind fun v1 => if v1 = 0 then (some ((-1), σ)) else (if (σ ((a + 5) + 1) 0) < 12 then ((ld 5 tellMost 0).bind fun v5 => (X11_isWithin_f x2 0 v5 σ).bind fun v7 => if v7 = 0 then (some ((-1), σ)) else ((ld 5 tellMost 1).bind fun v10 => (X11_isWithin_f x3 0 v10 σ).bind fun v12 => if v12 = 0 then (some ((-1), σ)) else ((ld 5 tellMost 2).bind fun v15 => (X11_isWithin_f x4 0 v15 σ).bind fun v17 => if v17 = 0 then (some ((-1), σ)) else ((ld 5 tellMost 3).bind fun v20 => (X11_isWithin_f x5 0 v20 σ).bind fun v22 => if v22 = 0 then (some ((-1), σ)) else ((X4_add_f ((a + 5) + 1) x1 x2 x3 x4 x5 σ).bind fun ⟨v25, s26⟩ => some (v25, s26)))))) else (some ((-1), σ)))
set_option maxRecDepth 4000 in
set_option maxHeartbeats 1000000 in
theorem X11_one_ok {D : Nat} {τ : Tau} {nx : Nat} {a : Nat} {x1 x2 x3 x4 x5 : Int32} {σ : Sig} {res : Int32} {rsg : Sig} (hD : 3 ≤ D) (hS : ShX11 τ a) (H : X11_one_f a x1 x2 x3 x4 x5 σ = some (res, rsg)) : Ok D 0 0 yX11_one cX11_one 6 (some .int) [.ref a, .int x1, .int x2, .int x3, .int x4, .int x5] (τ, σ, nx) (some (.int res)) (τ, rsg, nx) := by
  refine ok_of (by decide +kernel) rfl (Nat.le_of_ble_eq_true rfl) (fun K X hF hE hN L0 hL0 => ?_)
  obtain rfl : [some (.ref a), some (.int x1), some (.int x2), some (.int x3), some (.int x4), some (.int x5)] = L0 := hL0
  have hF : Fx K X cX11_one 6 RX11 D 0 0 := hF
  refine g_p (S' := [.int 2, .int 0, .int x1]) hF tX11_one_ok 0 3 rfl rfl rfl rfl ?_
  obtain ⟨v1, e2, H⟩ := ob H
  refine g_cS (S := []) hF (X11_isWithin_ok (Nat.le_refl _)  e2 K) mbX11_isWithin msX11_isWithin mlX11_53 (by omega) (by decide) (dAt tX11_one_ok 3 rfl rfl) rfl rfl (Nat.le_of_ble_eq_true rfl) rfl rfl (by decide) (by decide) rfl ?_
  obtain ⟨Ht3, Hf3⟩ := oi H
  refine g_if_eq hF (dAt tX11_one_ok 4 rfl rfl) rfl (fun c3 => ?_) (fun c3 => ?_)
  · have H := Ht3 c3
    refine g_p (S' := [.int (-1)]) hF tX11_one_ok 11 1 rfl rfl rfl rfl ?_
    exact g_iret hF (en_p H hE) (dAt tX11_one_ok 12 rfl rfl) (by decide) (by decide)
  · have H := Hf3 c3
    refine g_p (S' := [.ref a]) hF tX11_one_ok 5 1 rfl rfl rfl rfl ?_
    refine g_getR hF (dAt tX11_one_ok 6 rfl rfl) flX11_19 hS.1 rfl ?_
    refine g_getR hF (dAt tX11_one_ok 7 rfl rfl) flX11_57 hS.2.1.1 rfl ?_
    refine g_getI hF (dAt tX11_one_ok 8 rfl rfl) flX11_61 hS.2.1.2.1.1 rfl ?_
    refine g_p (S' := [.int 12, .int (σ ((a + 5) + 1) 0)]) hF tX11_one_ok 9 1 rfl rfl rfl rfl ?_
    obtain ⟨Ht4, Hf4⟩ := oi H
    refine g_icmp_lt hF (dAt tX11_one_ok 10 rfl rfl) rfl (fun c4 => ?_) (fun c4 => ?_)
    · have H := Ht4 c4
      refine g_p (S' := [.int 0, .int x2]) hF tX11_one_ok 13 2 rfl rfl rfl rfl ?_
      refine g_sta hF (dAt tX11_one_ok 15 rfl rfl) slX11_66 hF.kx.2.2.2.2.1 ?_
      refine g_p (S' := [.int 0, .ref (kT K), .int 0, .int x2]) hF tX11_one_ok 16 1 rfl rfl rfl rfl ?_
      obtain ⟨v5, e6, H⟩ := ob H
      refine g_xld hF (dAt tX11_one_ok 17 rfl rfl) hF.kx.2.2.2.2.2.2.1 e6 ?_
      obtain ⟨v7, e8, H⟩ := ob H
      refine g_cS (S := []) hF (X11_isWithin_ok (Nat.le_refl _)  e8 K) mbX11_isWithin msX11_isWithin mlX11_53 (by omega) (by decide) (dAt tX11_one_ok 18 rfl rfl) rfl rfl (Nat.le_of_ble_eq_true rfl) rfl rfl (by decide) (by decide) rfl ?_
      obtain ⟨Ht9, Hf9⟩ := oi H
      refine g_if_eq hF (dAt tX11_one_ok 19 rfl rfl) rfl (fun c9 => ?_) (fun c9 => ?_)
      · have H := Ht9 c9
        refine g_p (S' := [.int (-1)]) hF tX11_one_ok 41 1 rfl rfl rfl rfl ?_
        exact g_iret hF (en_p H hE) (dAt tX11_one_ok 42 rfl rfl) (by decide) (by decide)
      · have H := Hf9 c9
        refine g_p (S' := [.int 0, .int x3]) hF tX11_one_ok 20 2 rfl rfl rfl rfl ?_
        refine g_sta hF (dAt tX11_one_ok 22 rfl rfl) slX11_66 hF.kx.2.2.2.2.1 ?_
        refine g_p (S' := [.int 1, .ref (kT K), .int 0, .int x3]) hF tX11_one_ok 23 1 rfl rfl rfl rfl ?_
        obtain ⟨v10, e11, H⟩ := ob H
        refine g_xld hF (dAt tX11_one_ok 24 rfl rfl) hF.kx.2.2.2.2.2.2.1 e11 ?_
        obtain ⟨v12, e13, H⟩ := ob H
        refine g_cS (S := []) hF (X11_isWithin_ok (Nat.le_refl _)  e13 K) mbX11_isWithin msX11_isWithin mlX11_53 (by omega) (by decide) (dAt tX11_one_ok 25 rfl rfl) rfl rfl (Nat.le_of_ble_eq_true rfl) rfl rfl (by decide) (by decide) rfl ?_
        obtain ⟨Ht14, Hf14⟩ := oi H
        refine g_if_eq hF (dAt tX11_one_ok 26 rfl rfl) rfl (fun c14 => ?_) (fun c14 => ?_)
        · have H := Ht14 c14
          refine g_p (S' := [.int (-1)]) hF tX11_one_ok 41 1 rfl rfl rfl rfl ?_
          exact g_iret hF (en_p H hE) (dAt tX11_one_ok 42 rfl rfl) (by decide) (by decide)
        · have H := Hf14 c14
          refine g_p (S' := [.int 0, .int x4]) hF tX11_one_ok 27 2 rfl rfl rfl rfl ?_
          refine g_sta hF (dAt tX11_one_ok 29 rfl rfl) slX11_66 hF.kx.2.2.2.2.1 ?_
          refine g_p (S' := [.int 2, .ref (kT K), .int 0, .int x4]) hF tX11_one_ok 30 1 rfl rfl rfl rfl ?_
          obtain ⟨v15, e16, H⟩ := ob H
          refine g_xld hF (dAt tX11_one_ok 31 rfl rfl) hF.kx.2.2.2.2.2.2.1 e16 ?_
          obtain ⟨v17, e18, H⟩ := ob H
          refine g_cS (S := []) hF (X11_isWithin_ok (Nat.le_refl _)  e18 K) mbX11_isWithin msX11_isWithin mlX11_53 (by omega) (by decide) (dAt tX11_one_ok 32 rfl rfl) rfl rfl (Nat.le_of_ble_eq_true rfl) rfl rfl (by decide) (by decide) rfl ?_
          obtain ⟨Ht19, Hf19⟩ := oi H
          refine g_if_eq hF (dAt tX11_one_ok 33 rfl rfl) rfl (fun c19 => ?_) (fun c19 => ?_)
          · have H := Ht19 c19
            refine g_p (S' := [.int (-1)]) hF tX11_one_ok 41 1 rfl rfl rfl rfl ?_
            exact g_iret hF (en_p H hE) (dAt tX11_one_ok 42 rfl rfl) (by decide) (by decide)
          · have H := Hf19 c19
            refine g_p (S' := [.int 0, .int x5]) hF tX11_one_ok 34 2 rfl rfl rfl rfl ?_
            refine g_sta hF (dAt tX11_one_ok 36 rfl rfl) slX11_66 hF.kx.2.2.2.2.1 ?_
            refine g_p (S' := [.int 3, .ref (kT K), .int 0, .int x5]) hF tX11_one_ok 37 1 rfl rfl rfl rfl ?_
            obtain ⟨v20, e21, H⟩ := ob H
            refine g_xld hF (dAt tX11_one_ok 38 rfl rfl) hF.kx.2.2.2.2.2.2.1 e21 ?_
            obtain ⟨v22, e23, H⟩ := ob H
            refine g_cS (S := []) hF (X11_isWithin_ok (Nat.le_refl _)  e23 K) mbX11_isWithin msX11_isWithin mlX11_53 (by omega) (by decide) (dAt tX11_one_ok 39 rfl rfl) rfl rfl (Nat.le_of_ble_eq_true rfl) rfl rfl (by decide) (by decide) rfl ?_
            obtain ⟨Ht24, Hf24⟩ := oi H
            refine g_if_ne hF (dAt tX11_one_ok 40 rfl rfl) rfl (fun c24 => ?_) (fun c24 => ?_)
            · have H := Hf24 c24
              refine g_p (S' := [.ref a]) hF tX11_one_ok 43 1 rfl rfl rfl rfl ?_
              refine g_getR hF (dAt tX11_one_ok 44 rfl rfl) flX11_19 hS.1 rfl ?_
              refine g_getR hF (dAt tX11_one_ok 45 rfl rfl) flX11_57 hS.2.1.1 rfl ?_
              refine g_p (S' := [.int x5, .int x4, .int x3, .int x2, .int x1, .ref ((a + 5) + 1)]) hF tX11_one_ok 46 5 rfl rfl rfl rfl ?_
              obtain ⟨⟨v25, s26⟩, e27, H⟩ := ob H
              refine g_cV (S := []) hF (X4_add_ok (Nat.le_refl _) hS.2.1.2.1 e27 K) mbX4_add mvX4_add mlX11_70 (by omega) (by decide) (dAt tX11_one_ok 51 rfl rfl) hS.2.1.2.1.1 rfl rfl rfl (Nat.le_of_ble_eq_true rfl) rfl rfl (by decide) (by decide) rfl ?_
              exact g_iret hF (en_p H hE) (dAt tX11_one_ok 52 rfl rfl) (by decide) (by decide)
            · have H := Ht24 c24
              refine g_p (S' := [.int (-1)]) hF tX11_one_ok 41 1 rfl rfl rfl rfl ?_
              exact g_iret hF (en_p H hE) (dAt tX11_one_ok 42 rfl rfl) (by decide) (by decide)
    · have H := Hf4 c4
      refine g_p (S' := [.int (-1)]) hF tX11_one_ok 11 1 rfl rfl rfl rfl ?_
      exact g_iret hF (en_p H hE) (dAt tX11_one_ok 12 rfl rfl) (by decide) (by decide)
def X11_tell_f (a : Nat) (x1 x2 x3 : Int32) (σ : Sig) : Option (Int32 × Sig) := (X4_has_f ((a + 5) + 1) x1 σ).bind fun v1 => if v1 = 0 then (some (0, σ)) else (if x2 = 5 then ((X4_giveParent_f ((a + 5) + 1) x1 x3 σ).bind fun ⟨v15, s16⟩ => if v15 = 0 ∨ v15 = 1 then some (v15, s16) else none) else ((X11_isWithin_f x2 0 4 σ).bind fun v5 => if v5 = 0 then (some (0, σ)) else ((ld 5 tellMost x2).bind fun v8 => (X11_isWithin_f x3 0 v8 σ).bind fun v10 => if v10 = 0 then (some (0, σ)) else ((X4_change_f ((a + 5) + 1) x1 x2 x3 σ).bind fun s13 => some (1, s13)))))
set_option maxRecDepth 4000 in
set_option maxHeartbeats 1000000 in
theorem X11_tell_ok {D : Nat} {τ : Tau} {nx : Nat} {a : Nat} {x1 x2 x3 : Int32} {σ : Sig} {res : Int32} {rsg : Sig} (hD : 4 ≤ D) (hS : ShX11 τ a) (H : X11_tell_f a x1 x2 x3 σ = some (res, rsg)) : Ok D 0 0 yX11_tell cX11_tell 5 (some .boolean) [.ref a, .int x1, .int x2, .int x3] (τ, σ, nx) (some (.int res)) (τ, rsg, nx) := by
  refine ok_of (by decide +kernel) rfl (Nat.le_of_ble_eq_true rfl) (fun K X hF hE hN L0 hL0 => ?_)
  obtain rfl : [some (.ref a), some (.int x1), some (.int x2), some (.int x3), none] = L0 := hL0
  have hF : Fx K X cX11_tell 5 RX11 D 0 0 := hF
  refine g_p (S' := [.ref a]) hF tX11_tell_ok 0 1 rfl rfl rfl rfl ?_
  refine g_getR hF (dAt tX11_tell_ok 1 rfl rfl) flX11_19 hS.1 rfl ?_
  refine g_getR hF (dAt tX11_tell_ok 2 rfl rfl) flX11_57 hS.2.1.1 rfl ?_
  refine g_p (L' := [some (.ref a), some (.int x1), some (.int x2), some (.int x3), some (.ref ((a + 5) + 1))]) (S' := [.int x1, .ref ((a + 5) + 1)]) hF tX11_tell_ok 3 3 rfl rfl rfl rfl ?_
  obtain ⟨v1, e2, H⟩ := ob H
  refine g_cV (S := []) hF (X4_has_ok (Nat.le_refl _) hS.2.1.2.1 e2 K) mbX4_has mvX4_has mlX11_74 (by omega) (by decide) (dAt tX11_tell_ok 6 rfl rfl) hS.2.1.2.1.1 rfl rfl rfl (Nat.le_of_ble_eq_true rfl) rfl rfl (by decide) (by decide) rfl ?_
  obtain ⟨Ht3, Hf3⟩ := oi H
  refine g_if_ne hF (dAt tX11_tell_ok 7 rfl rfl) rfl (fun c3 => ?_) (fun c3 => ?_)
  · have H := Hf3 c3
    refine g_p (S' := [.int 5, .int x2]) hF tX11_tell_ok 10 2 rfl rfl rfl rfl ?_
    obtain ⟨Ht4, Hf4⟩ := oi H
    refine g_icmp_ne hF (dAt tX11_tell_ok 12 rfl rfl) rfl (fun c4 => ?_) (fun c4 => ?_)
    · have H := Hf4 c4
      refine g_p (S' := [.int 4, .int 0, .int x2]) hF tX11_tell_ok 18 3 rfl rfl rfl rfl ?_
      obtain ⟨v5, e6, H⟩ := ob H
      refine g_cS (S := []) hF (X11_isWithin_ok (Nat.le_refl _)  e6 K) mbX11_isWithin msX11_isWithin mlX11_53 (by omega) (by decide) (dAt tX11_tell_ok 21 rfl rfl) rfl rfl (Nat.le_of_ble_eq_true rfl) rfl rfl (by decide) (by decide) rfl ?_
      obtain ⟨Ht7, Hf7⟩ := oi H
      refine g_if_eq hF (dAt tX11_tell_ok 22 rfl rfl) rfl (fun c7 => ?_) (fun c7 => ?_)
      · have H := Ht7 c7
        refine g_p (S' := [.int 0]) hF tX11_tell_ok 30 1 rfl rfl rfl rfl ?_
        exact g_zret hF (en_p H hE) (Or.inl rfl) (dAt tX11_tell_ok 31 rfl rfl) (by decide) (by decide)
      · have H := Hf7 c7
        refine g_p (S' := [.int 0, .int x3]) hF tX11_tell_ok 23 2 rfl rfl rfl rfl ?_
        refine g_sta hF (dAt tX11_tell_ok 25 rfl rfl) slX11_66 hF.kx.2.2.2.2.1 ?_
        refine g_p (S' := [.int x2, .ref (kT K), .int 0, .int x3]) hF tX11_tell_ok 26 1 rfl rfl rfl rfl ?_
        obtain ⟨v8, e9, H⟩ := ob H
        refine g_xld hF (dAt tX11_tell_ok 27 rfl rfl) hF.kx.2.2.2.2.2.2.1 e9 ?_
        obtain ⟨v10, e11, H⟩ := ob H
        refine g_cS (S := []) hF (X11_isWithin_ok (Nat.le_refl _)  e11 K) mbX11_isWithin msX11_isWithin mlX11_53 (by omega) (by decide) (dAt tX11_tell_ok 28 rfl rfl) rfl rfl (Nat.le_of_ble_eq_true rfl) rfl rfl (by decide) (by decide) rfl ?_
        obtain ⟨Ht12, Hf12⟩ := oi H
        refine g_if_ne hF (dAt tX11_tell_ok 29 rfl rfl) rfl (fun c12 => ?_) (fun c12 => ?_)
        · have H := Hf12 c12
          refine g_p (S' := [.int x3, .int x2, .int x1, .ref ((a + 5) + 1)]) hF tX11_tell_ok 32 4 rfl rfl rfl rfl ?_
          obtain ⟨s13, e14, H⟩ := ob H
          refine g_cV (S := []) hF (X4_change_ok (Nat.le_refl _) hS.2.1.2.1 e14 K) mbX4_change mvX4_change mlX11_82 (by omega) (by decide) (dAt tX11_tell_ok 36 rfl rfl) hS.2.1.2.1.1 rfl rfl rfl (Nat.le_of_ble_eq_true rfl) rfl rfl (by decide) (by decide) rfl ?_
          refine g_p (S' := [.int 1]) hF tX11_tell_ok 37 1 rfl rfl rfl rfl ?_
          exact g_zret hF (en_p H hE) (Or.inr rfl) (dAt tX11_tell_ok 38 rfl rfl) (by decide) (by decide)
        · have H := Ht12 c12
          refine g_p (S' := [.int 0]) hF tX11_tell_ok 30 1 rfl rfl rfl rfl ?_
          exact g_zret hF (en_p H hE) (Or.inl rfl) (dAt tX11_tell_ok 31 rfl rfl) (by decide) (by decide)
    · have H := Ht4 c4
      refine g_p (S' := [.int x3, .int x1, .ref ((a + 5) + 1)]) hF tX11_tell_ok 13 3 rfl rfl rfl rfl ?_
      obtain ⟨⟨v15, s16⟩, e17, H⟩ := ob H
      refine g_cV (S := []) hF (X4_giveParent_ok (Nat.le_refl _) hS.2.1.2.1 e17 K) mbX4_giveParent mvX4_giveParent mlX11_78 (by omega) (by decide) (dAt tX11_tell_ok 16 rfl rfl) hS.2.1.2.1.1 rfl rfl rfl (Nat.le_of_ble_eq_true rfl) rfl rfl (by decide) (by decide) rfl ?_
      obtain ⟨hb, H⟩ := oy H
      exact g_zret hF (en_p H hE) hb (dAt tX11_tell_ok 17 rfl rfl) (by decide) (by decide)
  · have H := Ht3 c3
    refine g_p (S' := [.int 0]) hF tX11_tell_ok 8 1 rfl rfl rfl rfl ?_
    exact g_zret hF (en_p H hE) (Or.inl rfl) (dAt tX11_tell_ok 9 rfl rfl) (by decide) (by decide)
def X11_wall_f (a : Nat) (x1 x2 x3 : Int32) (σ : Sig) : Option (Int32 × Sig) := (X11_isPlace_f x1 σ).bind fun v1 => if v1 = 0 then (some (0, σ)) else ((X11_isPlace_f x2 σ).bind fun v4 => if v4 = 0 then (some (0, σ)) else (if x1 = x2 then (some (0, σ)) else ((X11_isWithin_f x3 0 99 σ).bind fun v8 => if v8 = 0 then (some (0, σ)) else ((X9_putWall_f ((a + 5) + 23) x1 x2 x3 σ).bind fun s11 => some (1, s11)))))
set_option maxRecDepth 4000 in
set_option maxHeartbeats 1000000 in
theorem X11_wall_ok {D : Nat} {τ : Tau} {nx : Nat} {a : Nat} {x1 x2 x3 : Int32} {σ : Sig} {res : Int32} {rsg : Sig} (hD : 2 ≤ D) (hS : ShX11 τ a) (H : X11_wall_f a x1 x2 x3 σ = some (res, rsg)) : Ok D 0 0 yX11_wall cX11_wall 4 (some .boolean) [.ref a, .int x1, .int x2, .int x3] (τ, σ, nx) (some (.int res)) (τ, rsg, nx) := by
  refine ok_of (by decide +kernel) rfl (Nat.le_of_ble_eq_true rfl) (fun K X hF hE hN L0 hL0 => ?_)
  obtain rfl : [some (.ref a), some (.int x1), some (.int x2), some (.int x3)] = L0 := hL0
  have hF : Fx K X cX11_wall 4 RX11 D 0 0 := hF
  refine g_p (S' := [.int x1]) hF tX11_wall_ok 0 1 rfl rfl rfl rfl ?_
  obtain ⟨v1, e2, H⟩ := ob H
  refine g_cS (S := []) hF (X11_isPlace_ok (Nat.le_refl _)  e2 K) mbX11_isPlace msX11_isPlace mlX11_86 (by omega) (by decide) (dAt tX11_wall_ok 1 rfl rfl) rfl rfl (Nat.le_of_ble_eq_true rfl) rfl rfl (by decide) (by decide) rfl ?_
  obtain ⟨Ht3, Hf3⟩ := oi H
  refine g_if_eq hF (dAt tX11_wall_ok 2 rfl rfl) rfl (fun c3 => ?_) (fun c3 => ?_)
  · have H := Ht3 c3
    refine g_p (S' := [.int 0]) hF tX11_wall_ok 14 1 rfl rfl rfl rfl ?_
    exact g_zret hF (en_p H hE) (Or.inl rfl) (dAt tX11_wall_ok 15 rfl rfl) (by decide) (by decide)
  · have H := Hf3 c3
    refine g_p (S' := [.int x2]) hF tX11_wall_ok 3 1 rfl rfl rfl rfl ?_
    obtain ⟨v4, e5, H⟩ := ob H
    refine g_cS (S := []) hF (X11_isPlace_ok (Nat.le_refl _)  e5 K) mbX11_isPlace msX11_isPlace mlX11_86 (by omega) (by decide) (dAt tX11_wall_ok 4 rfl rfl) rfl rfl (Nat.le_of_ble_eq_true rfl) rfl rfl (by decide) (by decide) rfl ?_
    obtain ⟨Ht6, Hf6⟩ := oi H
    refine g_if_eq hF (dAt tX11_wall_ok 5 rfl rfl) rfl (fun c6 => ?_) (fun c6 => ?_)
    · have H := Ht6 c6
      refine g_p (S' := [.int 0]) hF tX11_wall_ok 14 1 rfl rfl rfl rfl ?_
      exact g_zret hF (en_p H hE) (Or.inl rfl) (dAt tX11_wall_ok 15 rfl rfl) (by decide) (by decide)
    · have H := Hf6 c6
      refine g_p (S' := [.int x2, .int x1]) hF tX11_wall_ok 6 2 rfl rfl rfl rfl ?_
      obtain ⟨Ht7, Hf7⟩ := oi H
      refine g_icmp_eq hF (dAt tX11_wall_ok 8 rfl rfl) rfl (fun c7 => ?_) (fun c7 => ?_)
      · have H := Ht7 c7
        refine g_p (S' := [.int 0]) hF tX11_wall_ok 14 1 rfl rfl rfl rfl ?_
        exact g_zret hF (en_p H hE) (Or.inl rfl) (dAt tX11_wall_ok 15 rfl rfl) (by decide) (by decide)
      · have H := Hf7 c7
        refine g_p (S' := [.int 99, .int 0, .int x3]) hF tX11_wall_ok 9 3 rfl rfl rfl rfl ?_
        obtain ⟨v8, e9, H⟩ := ob H
        refine g_cS (S := []) hF (X11_isWithin_ok (Nat.le_refl _)  e9 K) mbX11_isWithin msX11_isWithin mlX11_53 (by omega) (by decide) (dAt tX11_wall_ok 12 rfl rfl) rfl rfl (Nat.le_of_ble_eq_true rfl) rfl rfl (by decide) (by decide) rfl ?_
        obtain ⟨Ht10, Hf10⟩ := oi H
        refine g_if_ne hF (dAt tX11_wall_ok 13 rfl rfl) rfl (fun c10 => ?_) (fun c10 => ?_)
        · have H := Hf10 c10
          refine g_p (S' := [.ref a]) hF tX11_wall_ok 16 1 rfl rfl rfl rfl ?_
          refine g_getR hF (dAt tX11_wall_ok 17 rfl rfl) flX11_19 hS.1 rfl ?_
          refine g_getR hF (dAt tX11_wall_ok 18 rfl rfl) flX11_89 hS.2.1.1 rfl ?_
          refine g_p (S' := [.int x3, .int x2, .int x1, .ref ((a + 5) + 23)]) hF tX11_wall_ok 19 3 rfl rfl rfl rfl ?_
          obtain ⟨s11, e12, H⟩ := ob H
          refine g_cV (S := []) hF (X9_putWall_ok (Nat.le_refl _) hS.2.1.2.2.2.1 e12 K) mbX9_putWall mvX9_putWall mlX11_93 (by omega) (by decide) (dAt tX11_wall_ok 22 rfl rfl) hS.2.1.2.2.2.1.1 rfl rfl rfl (Nat.le_of_ble_eq_true rfl) rfl rfl (by decide) (by decide) rfl ?_
          refine g_p (S' := [.int 1]) hF tX11_wall_ok 23 1 rfl rfl rfl rfl ?_
          exact g_zret hF (en_p H hE) (Or.inr rfl) (dAt tX11_wall_ok 24 rfl rfl) (by decide) (by decide)
        · have H := Ht10 c10
          refine g_p (S' := [.int 0]) hF tX11_wall_ok 14 1 rfl rfl rfl rfl ?_
          exact g_zret hF (en_p H hE) (Or.inl rfl) (dAt tX11_wall_ok 15 rfl rfl) (by decide) (by decide)
def X11_set_b25 (a : Nat) (x2 : Int32) (σ : Sig) : Option (Int32 × Sig) := (pI σ ((a + 5) + 23) 2 x2).bind fun s1 => some (1, s1)
set_option maxRecDepth 4000 in
set_option maxHeartbeats 1000000 in
theorem X11_set_b25_ok {K : Kt} {X : Cx} {D : Nat} {τ : Tau} {nx : Nat} {a : Nat} {res : Int32} {rsg : Sig}  (hD : 2 ≤ D) (hF : Fx K X cX11_set 3 RX11 D 0 0) (hS : ShX11 τ a) (hE : En K X (some .boolean) 0 0 (some (.int res)) (τ, rsg, nx)) {x2 : Int32} {σ : Sig} (H : X11_set_b25 a x2 σ = some (res, rsg)) : G K X 3 0 0 25 [some (.ref a), none, some (.int x2)] [] (τ, σ, nx) := by
  refine g_p (S' := [.ref a]) hF tX11_set_ok 13 1 rfl rfl rfl rfl ?_
  refine g_getR hF (dAt tX11_set_ok 14 rfl rfl) flX11_19 hS.1 rfl ?_
  refine g_getR hF (dAt tX11_set_ok 15 rfl rfl) flX11_89 hS.2.1.1 rfl ?_
  refine g_p (S' := [.int x2, .ref ((a + 5) + 23)]) hF tX11_set_ok 16 1 rfl rfl rfl rfl ?_
  obtain ⟨s1, e2, H⟩ := ob H
  refine g_pI hF (dAt tX11_set_ok 17 rfl rfl) flX11_98 (Or.inl rfl) hS.2.1.2.2.2.1.1 rfl e2 ?_
  refine g_p (S' := [.int 1]) hF tX11_set_ok 18 1 rfl rfl rfl rfl ?_
  exact g_zret hF (en_p H hE) (Or.inr rfl) (dAt tX11_set_ok 19 rfl rfl) (by decide) (by decide)
def X11_set_f (a : Nat) (x1 x2 : Int32) (σ : Sig) : Option (Int32 × Sig) := if x1 = 0 then (if x2 = (-1) then (X11_set_b25 a x2 σ) else ((X4_has_f ((a + 5) + 1) x2 σ).bind fun v21 => if v21 = 0 then (some (0, σ)) else (X11_set_b25 a x2 σ))) else ((X11_isWithin_f x1 10 33 σ).bind fun v2 => if v2 = 0 then ((X11_isWithin_f x1 1 (8 - 1) σ).bind fun v5 => if v5 = 0 then (some (0, σ)) else ((ld 8 setMost x1).bind fun v8 => (X11_isWithin_f x2 0 v8 σ).bind fun v10 => if v10 = 0 then (some (0, σ)) else ((X10_change_f (a + 5) 2000 x1 x2 σ).bind fun s13 => some (1, s13)))) else ((X11_isPlace_f x2 σ).bind fun v15 => if v15 = 0 then (some (0, σ)) else ((st 24 σ (((a + 5) + 23) + 2) (x1 - 10) x2).bind fun s18 => some (1, s18))))
set_option maxRecDepth 4000 in
set_option maxHeartbeats 1000000 in
theorem X11_set_ok {D : Nat} {τ : Tau} {nx : Nat} {a : Nat} {x1 x2 : Int32} {σ : Sig} {res : Int32} {rsg : Sig} (hD : 2 ≤ D) (hS : ShX11 τ a) (H : X11_set_f a x1 x2 σ = some (res, rsg)) : Ok D 0 0 yX11_set cX11_set 3 (some .boolean) [.ref a, .int x1, .int x2] (τ, σ, nx) (some (.int res)) (τ, rsg, nx) := by
  refine ok_of (by decide +kernel) rfl (Nat.le_of_ble_eq_true rfl) (fun K X hF hE hN L0 hL0 => ?_)
  obtain rfl : [some (.ref a), some (.int x1), some (.int x2)] = L0 := hL0
  have hF : Fx K X cX11_set 3 RX11 D 0 0 := hF
  refine g_p (S' := [.int x1]) hF tX11_set_ok 0 1 rfl rfl rfl rfl ?_
  obtain ⟨Ht1, Hf1⟩ := oi H
  refine g_if_ne hF (dAt tX11_set_ok 1 rfl rfl) rfl (fun c1 => ?_) (fun c1 => ?_)
  · have H := Hf1 c1
    refine g_p (S' := [.int 33, .int 10, .int x1]) hF tX11_set_ok 20 3 rfl rfl rfl rfl ?_
    obtain ⟨v2, e3, H⟩ := ob H
    refine g_cS (S := []) hF (X11_isWithin_ok (Nat.le_refl _)  e3 K) mbX11_isWithin msX11_isWithin mlX11_53 (by omega) (by decide) (dAt tX11_set_ok 23 rfl rfl) rfl rfl (Nat.le_of_ble_eq_true rfl) rfl rfl (by decide) (by decide) rfl ?_
    obtain ⟨Ht4, Hf4⟩ := oi H
    refine g_if_eq hF (dAt tX11_set_ok 24 rfl rfl) rfl (fun c4 => ?_) (fun c4 => ?_)
    · have H := Ht4 c4
      refine g_p (S' := [.int 1, .int x1]) hF tX11_set_ok 41 2 rfl rfl rfl rfl ?_
      refine g_sta hF (dAt tX11_set_ok 43 rfl rfl) slX11_104 hF.kx.2.2.2.2.2.1 ?_
      refine g_xlen hF (dAt tX11_set_ok 44 rfl rfl) hF.kx.2.2.2.2.2.2.2.1 rfl ?_
      refine g_p (S' := [.int (8 - 1), .int 1, .int x1]) hF tX11_set_ok 45 2 rfl rfl rfl rfl ?_
      obtain ⟨v5, e6, H⟩ := ob H
      refine g_cS (S := []) hF (X11_isWithin_ok (Nat.le_refl _)  e6 K) mbX11_isWithin msX11_isWithin mlX11_53 (by omega) (by decide) (dAt tX11_set_ok 47 rfl rfl) rfl rfl (Nat.le_of_ble_eq_true rfl) rfl rfl (by decide) (by decide) rfl ?_
      obtain ⟨Ht7, Hf7⟩ := oi H
      refine g_if_eq hF (dAt tX11_set_ok 48 rfl rfl) rfl (fun c7 => ?_) (fun c7 => ?_)
      · have H := Ht7 c7
        refine g_p (S' := [.int 0]) hF tX11_set_ok 56 1 rfl rfl rfl rfl ?_
        exact g_zret hF (en_p H hE) (Or.inl rfl) (dAt tX11_set_ok 57 rfl rfl) (by decide) (by decide)
      · have H := Hf7 c7
        refine g_p (S' := [.int 0, .int x2]) hF tX11_set_ok 49 2 rfl rfl rfl rfl ?_
        refine g_sta hF (dAt tX11_set_ok 51 rfl rfl) slX11_104 hF.kx.2.2.2.2.2.1 ?_
        refine g_p (S' := [.int x1, .ref (kS K), .int 0, .int x2]) hF tX11_set_ok 52 1 rfl rfl rfl rfl ?_
        obtain ⟨v8, e9, H⟩ := ob H
        refine g_xld hF (dAt tX11_set_ok 53 rfl rfl) hF.kx.2.2.2.2.2.2.2.1 e9 ?_
        obtain ⟨v10, e11, H⟩ := ob H
        refine g_cS (S := []) hF (X11_isWithin_ok (Nat.le_refl _)  e11 K) mbX11_isWithin msX11_isWithin mlX11_53 (by omega) (by decide) (dAt tX11_set_ok 54 rfl rfl) rfl rfl (Nat.le_of_ble_eq_true rfl) rfl rfl (by decide) (by decide) rfl ?_
        obtain ⟨Ht12, Hf12⟩ := oi H
        refine g_if_ne hF (dAt tX11_set_ok 55 rfl rfl) rfl (fun c12 => ?_) (fun c12 => ?_)
        · have H := Hf12 c12
          refine g_p (S' := [.ref a]) hF tX11_set_ok 58 1 rfl rfl rfl rfl ?_
          refine g_getR hF (dAt tX11_set_ok 59 rfl rfl) flX11_19 hS.1 rfl ?_
          refine g_p (S' := [.int x2, .int x1, .ref (a + 5)]) hF tX11_set_ok 60 2 rfl rfl rfl rfl ?_
          obtain ⟨s13, e14, H⟩ := ob H
          refine g_cV (S := []) hF (X10_change_ok (Nat.le_refl _) hS.2.1 e14 K) mbX10_change mvX10_change mlX11_107 (by omega) (by decide) (dAt tX11_set_ok 62 rfl rfl) hS.2.1.1 rfl rfl rfl (Nat.le_of_ble_eq_true rfl) rfl rfl (by decide) (by decide) rfl ?_
          refine g_p (S' := [.int 1]) hF tX11_set_ok 63 1 rfl rfl rfl rfl ?_
          exact g_zret hF (en_p H hE) (Or.inr rfl) (dAt tX11_set_ok 64 rfl rfl) (by decide) (by decide)
        · have H := Ht12 c12
          refine g_p (S' := [.int 0]) hF tX11_set_ok 56 1 rfl rfl rfl rfl ?_
          exact g_zret hF (en_p H hE) (Or.inl rfl) (dAt tX11_set_ok 57 rfl rfl) (by decide) (by decide)
    · have H := Hf4 c4
      refine g_p (S' := [.int x2]) hF tX11_set_ok 25 1 rfl rfl rfl rfl ?_
      obtain ⟨v15, e16, H⟩ := ob H
      refine g_cS (S := []) hF (X11_isPlace_ok (Nat.le_refl _)  e16 K) mbX11_isPlace msX11_isPlace mlX11_86 (by omega) (by decide) (dAt tX11_set_ok 26 rfl rfl) rfl rfl (Nat.le_of_ble_eq_true rfl) rfl rfl (by decide) (by decide) rfl ?_
      obtain ⟨Ht17, Hf17⟩ := oi H
      refine g_if_ne hF (dAt tX11_set_ok 27 rfl rfl) rfl (fun c17 => ?_) (fun c17 => ?_)
      · have H := Hf17 c17
        refine g_p (S' := [.ref a]) hF tX11_set_ok 30 1 rfl rfl rfl rfl ?_
        refine g_getR hF (dAt tX11_set_ok 31 rfl rfl) flX11_19 hS.1 rfl ?_
        refine g_getR hF (dAt tX11_set_ok 32 rfl rfl) flX11_89 hS.2.1.1 rfl ?_
        refine g_getR hF (dAt tX11_set_ok 33 rfl rfl) flX11_101 hS.2.1.2.2.2.1.1 rfl ?_
        refine g_p (S' := [.int x2, .int (x1 - 10), .ref (((a + 5) + 23) + 2)]) hF tX11_set_ok 34 4 rfl rfl rfl rfl ?_
        obtain ⟨s18, e19, H⟩ := ob H
        refine g_ist hF (dAt tX11_set_ok 38 rfl rfl) hS.2.1.2.2.2.1.2.2 e19 ?_
        refine g_p (S' := [.int 1]) hF tX11_set_ok 39 1 rfl rfl rfl rfl ?_
        exact g_zret hF (en_p H hE) (Or.inr rfl) (dAt tX11_set_ok 40 rfl rfl) (by decide) (by decide)
      · have H := Ht17 c17
        refine g_p (S' := [.int 0]) hF tX11_set_ok 28 1 rfl rfl rfl rfl ?_
        exact g_zret hF (en_p H hE) (Or.inl rfl) (dAt tX11_set_ok 29 rfl rfl) (by decide) (by decide)
  · have H := Ht1 c1
    refine g_p (S' := [.int (-1), .int x2]) hF tX11_set_ok 2 2 rfl rfl rfl rfl ?_
    obtain ⟨Ht20, Hf20⟩ := oi H
    refine g_icmp_eq hF (dAt tX11_set_ok 4 rfl rfl) rfl (fun c20 => ?_) (fun c20 => ?_)
    · have H := Ht20 c20
      refine g_m [true, false, true] rfl ?_
      exact X11_set_b25_ok hD hF hS hE H
    · have H := Hf20 c20
      refine g_p (S' := [.ref a]) hF tX11_set_ok 5 1 rfl rfl rfl rfl ?_
      refine g_getR hF (dAt tX11_set_ok 6 rfl rfl) flX11_19 hS.1 rfl ?_
      refine g_getR hF (dAt tX11_set_ok 7 rfl rfl) flX11_57 hS.2.1.1 rfl ?_
      refine g_p (S' := [.int x2, .ref ((a + 5) + 1)]) hF tX11_set_ok 8 1 rfl rfl rfl rfl ?_
      obtain ⟨v21, e22, H⟩ := ob H
      refine g_cV (S := []) hF (X4_has_ok (Nat.le_refl _) hS.2.1.2.1 e22 K) mbX4_has mvX4_has mlX11_74 (by omega) (by decide) (dAt tX11_set_ok 9 rfl rfl) hS.2.1.2.1.1 rfl rfl rfl (Nat.le_of_ble_eq_true rfl) rfl rfl (by decide) (by decide) rfl ?_
      obtain ⟨Ht23, Hf23⟩ := oi H
      refine g_if_ne hF (dAt tX11_set_ok 10 rfl rfl) rfl (fun c23 => ?_) (fun c23 => ?_)
      · have H := Hf23 c23
        refine g_m [true, false, true] rfl ?_
        exact X11_set_b25_ok hD hF hS hE H
      · have H := Ht23 c23
        refine g_p (S' := [.int 0]) hF tX11_set_ok 11 1 rfl rfl rfl rfl ?_
        exact g_zret hF (en_p H hE) (Or.inl rfl) (dAt tX11_set_ok 12 rfl rfl) (by decide) (by decide)
def X11_debt_f (a : Nat) (x1 x2 x3 : Int32) (σ : Sig) : Option (Int32 × Sig) := (X4_has_f ((a + 5) + 1) x1 σ).bind fun v1 => if v1 = 0 then (some ((-1), σ)) else ((X4_has_f ((a + 5) + 1) x2 σ).bind fun v4 => if v4 = 0 then (some ((-1), σ)) else (if x1 = x2 then (some ((-1), σ)) else ((X11_isWithin_f x3 1 200 σ).bind fun v8 => if v8 = 0 then (some ((-1), σ)) else ((X3_add_f ((a + 5) + 12) x1 x2 x3 σ).bind fun ⟨v11, s12⟩ => some (v11, s12)))))
set_option maxRecDepth 4000 in
set_option maxHeartbeats 1000000 in
theorem X11_debt_ok {D : Nat} {τ : Tau} {nx : Nat} {a : Nat} {x1 x2 x3 : Int32} {σ : Sig} {res : Int32} {rsg : Sig} (hD : 2 ≤ D) (hS : ShX11 τ a) (H : X11_debt_f a x1 x2 x3 σ = some (res, rsg)) : Ok D 0 0 yX11_debt cX11_debt 4 (some .int) [.ref a, .int x1, .int x2, .int x3] (τ, σ, nx) (some (.int res)) (τ, rsg, nx) := by
  refine ok_of (by decide +kernel) rfl (Nat.le_of_ble_eq_true rfl) (fun K X hF hE hN L0 hL0 => ?_)
  obtain rfl : [some (.ref a), some (.int x1), some (.int x2), some (.int x3)] = L0 := hL0
  have hF : Fx K X cX11_debt 4 RX11 D 0 0 := hF
  refine g_p (S' := [.ref a]) hF tX11_debt_ok 0 1 rfl rfl rfl rfl ?_
  refine g_getR hF (dAt tX11_debt_ok 1 rfl rfl) flX11_19 hS.1 rfl ?_
  refine g_getR hF (dAt tX11_debt_ok 2 rfl rfl) flX11_57 hS.2.1.1 rfl ?_
  refine g_p (S' := [.int x1, .ref ((a + 5) + 1)]) hF tX11_debt_ok 3 1 rfl rfl rfl rfl ?_
  obtain ⟨v1, e2, H⟩ := ob H
  refine g_cV (S := []) hF (X4_has_ok (Nat.le_refl _) hS.2.1.2.1 e2 K) mbX4_has mvX4_has mlX11_74 (by omega) (by decide) (dAt tX11_debt_ok 4 rfl rfl) hS.2.1.2.1.1 rfl rfl rfl (Nat.le_of_ble_eq_true rfl) rfl rfl (by decide) (by decide) rfl ?_
  obtain ⟨Ht3, Hf3⟩ := oi H
  refine g_if_eq hF (dAt tX11_debt_ok 5 rfl rfl) rfl (fun c3 => ?_) (fun c3 => ?_)
  · have H := Ht3 c3
    refine g_p (S' := [.int (-1)]) hF tX11_debt_ok 15 1 rfl rfl rfl rfl ?_
    exact g_iret hF (en_p H hE) (dAt tX11_debt_ok 16 rfl rfl) (by decide) (by decide)
  · have H := Hf3 c3
    refine g_p (S' := [.ref a]) hF tX11_debt_ok 6 1 rfl rfl rfl rfl ?_
    refine g_getR hF (dAt tX11_debt_ok 7 rfl rfl) flX11_19 hS.1 rfl ?_
    refine g_getR hF (dAt tX11_debt_ok 8 rfl rfl) flX11_57 hS.2.1.1 rfl ?_
    refine g_p (S' := [.int x2, .ref ((a + 5) + 1)]) hF tX11_debt_ok 9 1 rfl rfl rfl rfl ?_
    obtain ⟨v4, e5, H⟩ := ob H
    refine g_cV (S := []) hF (X4_has_ok (Nat.le_refl _) hS.2.1.2.1 e5 K) mbX4_has mvX4_has mlX11_74 (by omega) (by decide) (dAt tX11_debt_ok 10 rfl rfl) hS.2.1.2.1.1 rfl rfl rfl (Nat.le_of_ble_eq_true rfl) rfl rfl (by decide) (by decide) rfl ?_
    obtain ⟨Ht6, Hf6⟩ := oi H
    refine g_if_eq hF (dAt tX11_debt_ok 11 rfl rfl) rfl (fun c6 => ?_) (fun c6 => ?_)
    · have H := Ht6 c6
      refine g_p (S' := [.int (-1)]) hF tX11_debt_ok 15 1 rfl rfl rfl rfl ?_
      exact g_iret hF (en_p H hE) (dAt tX11_debt_ok 16 rfl rfl) (by decide) (by decide)
    · have H := Hf6 c6
      refine g_p (S' := [.int x2, .int x1]) hF tX11_debt_ok 12 2 rfl rfl rfl rfl ?_
      obtain ⟨Ht7, Hf7⟩ := oi H
      refine g_icmp_ne hF (dAt tX11_debt_ok 14 rfl rfl) rfl (fun c7 => ?_) (fun c7 => ?_)
      · have H := Hf7 c7
        refine g_p (S' := [.int 200, .int 1, .int x3]) hF tX11_debt_ok 17 3 rfl rfl rfl rfl ?_
        obtain ⟨v8, e9, H⟩ := ob H
        refine g_cS (S := []) hF (X11_isWithin_ok (Nat.le_refl _)  e9 K) mbX11_isWithin msX11_isWithin mlX11_53 (by omega) (by decide) (dAt tX11_debt_ok 20 rfl rfl) rfl rfl (Nat.le_of_ble_eq_true rfl) rfl rfl (by decide) (by decide) rfl ?_
        obtain ⟨Ht10, Hf10⟩ := oi H
        refine g_if_ne hF (dAt tX11_debt_ok 21 rfl rfl) rfl (fun c10 => ?_) (fun c10 => ?_)
        · have H := Hf10 c10
          refine g_p (S' := [.ref a]) hF tX11_debt_ok 24 1 rfl rfl rfl rfl ?_
          refine g_getR hF (dAt tX11_debt_ok 25 rfl rfl) flX11_19 hS.1 rfl ?_
          refine g_getR hF (dAt tX11_debt_ok 26 rfl rfl) flX11_110 hS.2.1.1 rfl ?_
          refine g_p (S' := [.int x3, .int x2, .int x1, .ref ((a + 5) + 12)]) hF tX11_debt_ok 27 3 rfl rfl rfl rfl ?_
          obtain ⟨⟨v11, s12⟩, e13, H⟩ := ob H
          refine g_cV (S := []) hF (X3_add_ok (Nat.le_refl _) hS.2.1.2.2.1 e13 K) mbX3_add mvX3_add mlX11_114 (by omega) (by decide) (dAt tX11_debt_ok 30 rfl rfl) hS.2.1.2.2.1.1 rfl rfl rfl (Nat.le_of_ble_eq_true rfl) rfl rfl (by decide) (by decide) rfl ?_
          exact g_iret hF (en_p H hE) (dAt tX11_debt_ok 31 rfl rfl) (by decide) (by decide)
        · have H := Ht10 c10
          refine g_p (S' := [.int (-1)]) hF tX11_debt_ok 22 1 rfl rfl rfl rfl ?_
          exact g_iret hF (en_p H hE) (dAt tX11_debt_ok 23 rfl rfl) (by decide) (by decide)
      · have H := Ht7 c7
        refine g_p (S' := [.int (-1)]) hF tX11_debt_ok 15 1 rfl rfl rfl rfl ?_
        exact g_iret hF (en_p H hE) (dAt tX11_debt_ok 16 rfl rfl) (by decide) (by decide)
def X11_helpers_f (a : Nat) (x1 x2 : Int32) (σ : Sig) : Option (Int32 × Sig) := (X3_has_f ((a + 5) + 12) x1 σ).bind fun v1 => if v1 = 0 then (some (0, σ)) else ((X11_isWithin_f x2 0 ((1 <<< ((σ ((a + 5) + 1) 0) &&& 31)) - 1) σ).bind fun v4 => if v4 = 0 then (some (0, σ)) else ((st 40 σ (((a + 5) + 12) + 6) x1 x2).bind fun s7 => some (1, s7)))
set_option maxRecDepth 4000 in
set_option maxHeartbeats 1000000 in
theorem X11_helpers_ok {D : Nat} {τ : Tau} {nx : Nat} {a : Nat} {x1 x2 : Int32} {σ : Sig} {res : Int32} {rsg : Sig} (hD : 2 ≤ D) (hS : ShX11 τ a) (H : X11_helpers_f a x1 x2 σ = some (res, rsg)) : Ok D 0 0 yX11_helpers cX11_helpers 3 (some .boolean) [.ref a, .int x1, .int x2] (τ, σ, nx) (some (.int res)) (τ, rsg, nx) := by
  refine ok_of (by decide +kernel) rfl (Nat.le_of_ble_eq_true rfl) (fun K X hF hE hN L0 hL0 => ?_)
  obtain rfl : [some (.ref a), some (.int x1), some (.int x2)] = L0 := hL0
  have hF : Fx K X cX11_helpers 3 RX11 D 0 0 := hF
  refine g_p (S' := [.ref a]) hF tX11_helpers_ok 0 1 rfl rfl rfl rfl ?_
  refine g_getR hF (dAt tX11_helpers_ok 1 rfl rfl) flX11_19 hS.1 rfl ?_
  refine g_getR hF (dAt tX11_helpers_ok 2 rfl rfl) flX11_110 hS.2.1.1 rfl ?_
  refine g_p (S' := [.int x1, .ref ((a + 5) + 12)]) hF tX11_helpers_ok 3 1 rfl rfl rfl rfl ?_
  obtain ⟨v1, e2, H⟩ := ob H
  refine g_cV (S := []) hF (X3_has_ok (Nat.le_refl _) hS.2.1.2.2.1 e2 K) mbX3_has mvX3_has mlX11_119 (by omega) (by decide) (dAt tX11_helpers_ok 4 rfl rfl) hS.2.1.2.2.1.1 rfl rfl rfl (Nat.le_of_ble_eq_true rfl) rfl rfl (by decide) (by decide) rfl ?_
  obtain ⟨Ht3, Hf3⟩ := oi H
  refine g_if_eq hF (dAt tX11_helpers_ok 5 rfl rfl) rfl (fun c3 => ?_) (fun c3 => ?_)
  · have H := Ht3 c3
    refine g_p (S' := [.int 0]) hF tX11_helpers_ok 18 1 rfl rfl rfl rfl ?_
    exact g_zret hF (en_p H hE) (Or.inl rfl) (dAt tX11_helpers_ok 19 rfl rfl) (by decide) (by decide)
  · have H := Hf3 c3
    refine g_p (S' := [.ref a, .int 1, .int 0, .int x2]) hF tX11_helpers_ok 6 4 rfl rfl rfl rfl ?_
    refine g_getR hF (dAt tX11_helpers_ok 10 rfl rfl) flX11_19 hS.1 rfl ?_
    refine g_getR hF (dAt tX11_helpers_ok 11 rfl rfl) flX11_57 hS.2.1.1 rfl ?_
    refine g_getI hF (dAt tX11_helpers_ok 12 rfl rfl) flX11_61 hS.2.1.2.1.1 rfl ?_
    refine g_p (S' := [.int ((1 <<< ((σ ((a + 5) + 1) 0) &&& 31)) - 1), .int 0, .int x2]) hF tX11_helpers_ok 13 3 rfl rfl rfl rfl ?_
    obtain ⟨v4, e5, H⟩ := ob H
    refine g_cS (S := []) hF (X11_isWithin_ok (Nat.le_refl _)  e5 K) mbX11_isWithin msX11_isWithin mlX11_53 (by omega) (by decide) (dAt tX11_helpers_ok 16 rfl rfl) rfl rfl (Nat.le_of_ble_eq_true rfl) rfl rfl (by decide) (by decide) rfl ?_
    obtain ⟨Ht6, Hf6⟩ := oi H
    refine g_if_ne hF (dAt tX11_helpers_ok 17 rfl rfl) rfl (fun c6 => ?_) (fun c6 => ?_)
    · have H := Hf6 c6
      refine g_p (S' := [.ref a]) hF tX11_helpers_ok 20 1 rfl rfl rfl rfl ?_
      refine g_getR hF (dAt tX11_helpers_ok 21 rfl rfl) flX11_19 hS.1 rfl ?_
      refine g_getR hF (dAt tX11_helpers_ok 22 rfl rfl) flX11_110 hS.2.1.1 rfl ?_
      refine g_getR hF (dAt tX11_helpers_ok 23 rfl rfl) flX11_120 hS.2.1.2.2.1.1 rfl ?_
      refine g_p (S' := [.int x2, .int x1, .ref (((a + 5) + 12) + 6)]) hF tX11_helpers_ok 24 2 rfl rfl rfl rfl ?_
      obtain ⟨s7, e8, H⟩ := ob H
      refine g_ist hF (dAt tX11_helpers_ok 26 rfl rfl) hS.2.1.2.2.1.2.2.2.2.2.2.1 e8 ?_
      refine g_p (S' := [.int 1]) hF tX11_helpers_ok 27 1 rfl rfl rfl rfl ?_
      exact g_zret hF (en_p H hE) (Or.inr rfl) (dAt tX11_helpers_ok 28 rfl rfl) (by decide) (by decide)
    · have H := Ht6 c6
      refine g_p (S' := [.int 0]) hF tX11_helpers_ok 18 1 rfl rfl rfl rfl ?_
      exact g_zret hF (en_p H hE) (Or.inl rfl) (dAt tX11_helpers_ok 19 rfl rfl) (by decide) (by decide)
def X11_of_f (a : Nat) (x1 x2 : Int32) (σ : Sig) : Option (Int32) := (X3_has_f ((a + 5) + 12) x1 σ).bind fun v1 => if v1 = 0 then (some (-2)) else ((X3_tellOf_f ((a + 5) + 12) x1 x2 σ).bind fun v4 => some v4)
set_option maxRecDepth 4000 in
set_option maxHeartbeats 1000000 in
theorem X11_of_ok {D : Nat} {τ : Tau} {nx : Nat} {a : Nat} {x1 x2 : Int32} {σ : Sig} {res : Int32} (hD : 3 ≤ D) (hS : ShX11 τ a) (H : X11_of_f a x1 x2 σ = some res) : Ok D 0 0 yX11_of cX11_of 3 (some .int) [.ref a, .int x1, .int x2] (τ, σ, nx) (some (.int res)) (τ, σ, nx) := by
  refine ok_of (by decide +kernel) rfl (Nat.le_of_ble_eq_true rfl) (fun K X hF hE hN L0 hL0 => ?_)
  obtain rfl : [some (.ref a), some (.int x1), some (.int x2)] = L0 := hL0
  have hF : Fx K X cX11_of 3 RX11 D 0 0 := hF
  refine g_p (S' := [.ref a]) hF tX11_of_ok 0 1 rfl rfl rfl rfl ?_
  refine g_getR hF (dAt tX11_of_ok 1 rfl rfl) flX11_19 hS.1 rfl ?_
  refine g_getR hF (dAt tX11_of_ok 2 rfl rfl) flX11_110 hS.2.1.1 rfl ?_
  refine g_p (S' := [.int x1, .ref ((a + 5) + 12)]) hF tX11_of_ok 3 1 rfl rfl rfl rfl ?_
  obtain ⟨v1, e2, H⟩ := ob H
  refine g_cV (S := []) hF (X3_has_ok (Nat.le_refl _) hS.2.1.2.2.1 e2 K) mbX3_has mvX3_has mlX11_119 (by omega) (by decide) (dAt tX11_of_ok 4 rfl rfl) hS.2.1.2.2.1.1 rfl rfl rfl (Nat.le_of_ble_eq_true rfl) rfl rfl (by decide) (by decide) rfl ?_
  obtain ⟨Ht3, Hf3⟩ := oi H
  refine g_if_ne hF (dAt tX11_of_ok 5 rfl rfl) rfl (fun c3 => ?_) (fun c3 => ?_)
  · have H := Hf3 c3
    refine g_p (S' := [.ref a]) hF tX11_of_ok 8 1 rfl rfl rfl rfl ?_
    refine g_getR hF (dAt tX11_of_ok 9 rfl rfl) flX11_19 hS.1 rfl ?_
    refine g_getR hF (dAt tX11_of_ok 10 rfl rfl) flX11_110 hS.2.1.1 rfl ?_
    refine g_p (S' := [.int x2, .int x1, .ref ((a + 5) + 12)]) hF tX11_of_ok 11 2 rfl rfl rfl rfl ?_
    obtain ⟨v4, e5, H⟩ := ob H
    refine g_cV (S := []) hF (X3_tellOf_ok (Nat.le_refl _) hS.2.1.2.2.1 e5 K) mbX3_tellOf mvX3_tellOf mlX11_123 (by omega) (by decide) (dAt tX11_of_ok 13 rfl rfl) hS.2.1.2.2.1.1 rfl rfl rfl (Nat.le_of_ble_eq_true rfl) rfl rfl (by decide) (by decide) rfl ?_
    exact g_iret hF (en_i H hE) (dAt tX11_of_ok 14 rfl rfl) (by decide) (by decide)
  · have H := Ht3 c3
    refine g_p (S' := [.int (-2)]) hF tX11_of_ok 6 1 rfl rfl rfl rfl ?_
    exact g_iret hF (en_i H hE) (dAt tX11_of_ok 7 rfl rfl) (by decide) (by decide)
def X11_feed_f (a : Nat) (x1 x2 x3 x4 x5 : Int32) (σ : Sig) : Option (Int32 × Sig) := if ((σ (a + 75) 1) + 20) ≤ 400 then ((X6_put_f (a + 75) x1 σ).bind fun s2 => (X6_put_f (a + 75) x2 s2).bind fun s4 => (X6_put_f (a + 75) x3 s4).bind fun s6 => (X6_put_f (a + 75) x4 s6).bind fun s8 => (X6_put_f (a + 75) x5 s8).bind fun s10 => some ((s10 (a + 75) 1), s10)) else (some ((-1), σ))
set_option maxRecDepth 4000 in
set_option maxHeartbeats 1000000 in
theorem X11_feed_ok {D : Nat} {τ : Tau} {nx : Nat} {a : Nat} {x1 x2 x3 x4 x5 : Int32} {σ : Sig} {res : Int32} {rsg : Sig} (hD : 2 ≤ D) (hS : ShX11 τ a) (H : X11_feed_f a x1 x2 x3 x4 x5 σ = some (res, rsg)) : Ok D 0 0 yX11_feed cX11_feed 6 (some .int) [.ref a, .int x1, .int x2, .int x3, .int x4, .int x5] (τ, σ, nx) (some (.int res)) (τ, rsg, nx) := by
  refine ok_of (by decide +kernel) rfl (Nat.le_of_ble_eq_true rfl) (fun K X hF hE hN L0 hL0 => ?_)
  obtain rfl : [some (.ref a), some (.int x1), some (.int x2), some (.int x3), some (.int x4), some (.int x5)] = L0 := hL0
  have hF : Fx K X cX11_feed 6 RX11 D 0 0 := hF
  refine g_p (S' := [.ref a]) hF tX11_feed_ok 0 1 rfl rfl rfl rfl ?_
  refine g_getR hF (dAt tX11_feed_ok 1 rfl rfl) flX11_32 hS.1 rfl ?_
  refine g_getI hF (dAt tX11_feed_ok 2 rfl rfl) flX11_127 hS.2.2.2.1.1 rfl ?_
  refine g_p (S' := [.int 400, .int ((σ (a + 75) 1) + 20)]) hF tX11_feed_ok 3 3 rfl rfl rfl rfl ?_
  obtain ⟨Ht1, Hf1⟩ := oi H
  refine g_icmp_le hF (dAt tX11_feed_ok 6 rfl rfl) rfl (fun c1 => ?_) (fun c1 => ?_)
  · have H := Ht1 c1
    refine g_p (S' := [.ref a]) hF tX11_feed_ok 9 1 rfl rfl rfl rfl ?_
    refine g_getR hF (dAt tX11_feed_ok 10 rfl rfl) flX11_32 hS.1 rfl ?_
    refine g_p (S' := [.int x1, .ref (a + 75)]) hF tX11_feed_ok 11 1 rfl rfl rfl rfl ?_
    obtain ⟨s2, e3, H⟩ := ob H
    refine g_cV (S := []) hF (X6_put_ok (Nat.le_refl _) hS.2.2.2.1 e3 K) mbX6_put mvX6_put mlX11_130 (by omega) (by decide) (dAt tX11_feed_ok 12 rfl rfl) hS.2.2.2.1.1 rfl rfl rfl (Nat.le_of_ble_eq_true rfl) rfl rfl (by decide) (by decide) rfl ?_
    refine g_p (S' := [.ref a]) hF tX11_feed_ok 13 1 rfl rfl rfl rfl ?_
    refine g_getR hF (dAt tX11_feed_ok 14 rfl rfl) flX11_32 hS.1 rfl ?_
    refine g_p (S' := [.int x2, .ref (a + 75)]) hF tX11_feed_ok 15 1 rfl rfl rfl rfl ?_
    obtain ⟨s4, e5, H⟩ := ob H
    refine g_cV (S := []) hF (X6_put_ok (Nat.le_refl _) hS.2.2.2.1 e5 K) mbX6_put mvX6_put mlX11_130 (by omega) (by decide) (dAt tX11_feed_ok 16 rfl rfl) hS.2.2.2.1.1 rfl rfl rfl (Nat.le_of_ble_eq_true rfl) rfl rfl (by decide) (by decide) rfl ?_
    refine g_p (S' := [.ref a]) hF tX11_feed_ok 17 1 rfl rfl rfl rfl ?_
    refine g_getR hF (dAt tX11_feed_ok 18 rfl rfl) flX11_32 hS.1 rfl ?_
    refine g_p (S' := [.int x3, .ref (a + 75)]) hF tX11_feed_ok 19 1 rfl rfl rfl rfl ?_
    obtain ⟨s6, e7, H⟩ := ob H
    refine g_cV (S := []) hF (X6_put_ok (Nat.le_refl _) hS.2.2.2.1 e7 K) mbX6_put mvX6_put mlX11_130 (by omega) (by decide) (dAt tX11_feed_ok 20 rfl rfl) hS.2.2.2.1.1 rfl rfl rfl (Nat.le_of_ble_eq_true rfl) rfl rfl (by decide) (by decide) rfl ?_
    refine g_p (S' := [.ref a]) hF tX11_feed_ok 21 1 rfl rfl rfl rfl ?_
    refine g_getR hF (dAt tX11_feed_ok 22 rfl rfl) flX11_32 hS.1 rfl ?_
    refine g_p (S' := [.int x4, .ref (a + 75)]) hF tX11_feed_ok 23 1 rfl rfl rfl rfl ?_
    obtain ⟨s8, e9, H⟩ := ob H
    refine g_cV (S := []) hF (X6_put_ok (Nat.le_refl _) hS.2.2.2.1 e9 K) mbX6_put mvX6_put mlX11_130 (by omega) (by decide) (dAt tX11_feed_ok 24 rfl rfl) hS.2.2.2.1.1 rfl rfl rfl (Nat.le_of_ble_eq_true rfl) rfl rfl (by decide) (by decide) rfl ?_
    refine g_p (S' := [.ref a]) hF tX11_feed_ok 25 1 rfl rfl rfl rfl ?_
    refine g_getR hF (dAt tX11_feed_ok 26 rfl rfl) flX11_32 hS.1 rfl ?_
    refine g_p (S' := [.int x5, .ref (a + 75)]) hF tX11_feed_ok 27 1 rfl rfl rfl rfl ?_
    obtain ⟨s10, e11, H⟩ := ob H
    refine g_cV (S := []) hF (X6_put_ok (Nat.le_refl _) hS.2.2.2.1 e11 K) mbX6_put mvX6_put mlX11_130 (by omega) (by decide) (dAt tX11_feed_ok 28 rfl rfl) hS.2.2.2.1.1 rfl rfl rfl (Nat.le_of_ble_eq_true rfl) rfl rfl (by decide) (by decide) rfl ?_
    refine g_p (S' := [.ref a]) hF tX11_feed_ok 29 1 rfl rfl rfl rfl ?_
    refine g_getR hF (dAt tX11_feed_ok 30 rfl rfl) flX11_32 hS.1 rfl ?_
    refine g_getI hF (dAt tX11_feed_ok 31 rfl rfl) flX11_127 hS.2.2.2.1.1 rfl ?_
    exact g_iret hF (en_p H hE) (dAt tX11_feed_ok 32 rfl rfl) (by decide) (by decide)
  · have H := Hf1 c1
    refine g_p (S' := [.int (-1)]) hF tX11_feed_ok 7 1 rfl rfl rfl rfl ?_
    exact g_iret hF (en_p H hE) (dAt tX11_feed_ok 8 rfl rfl) (by decide) (by decide)
def X11_end_f (a : Nat) (x1 : Int32) (σ : Sig) : Option (Int32 × Sig) := (X11_isWithin_f x1 0 (σ (a + 75) 1) σ).bind fun v1 => if v1 = 0 then (some (0, σ)) else ((pI σ (a + 75) 1 x1).bind fun s4 => some (1, s4))
set_option maxRecDepth 4000 in
set_option maxHeartbeats 1000000 in
theorem X11_end_ok {D : Nat} {τ : Tau} {nx : Nat} {a : Nat} {x1 : Int32} {σ : Sig} {res : Int32} {rsg : Sig} (hD : 2 ≤ D) (hS : ShX11 τ a) (H : X11_end_f a x1 σ = some (res, rsg)) : Ok D 0 0 yX11_end cX11_end 2 (some .boolean) [.ref a, .int x1] (τ, σ, nx) (some (.int res)) (τ, rsg, nx) := by
  refine ok_of (by decide +kernel) rfl (Nat.le_of_ble_eq_true rfl) (fun K X hF hE hN L0 hL0 => ?_)
  obtain rfl : [some (.ref a), some (.int x1)] = L0 := hL0
  have hF : Fx K X cX11_end 2 RX11 D 0 0 := hF
  refine g_p (S' := [.ref a, .int 0, .int x1]) hF tX11_end_ok 0 3 rfl rfl rfl rfl ?_
  refine g_getR hF (dAt tX11_end_ok 3 rfl rfl) flX11_32 hS.1 rfl ?_
  refine g_getI hF (dAt tX11_end_ok 4 rfl rfl) flX11_127 hS.2.2.2.1.1 rfl ?_
  obtain ⟨v1, e2, H⟩ := ob H
  refine g_cS (S := []) hF (X11_isWithin_ok (Nat.le_refl _)  e2 K) mbX11_isWithin msX11_isWithin mlX11_53 (by omega) (by decide) (dAt tX11_end_ok 5 rfl rfl) rfl rfl (Nat.le_of_ble_eq_true rfl) rfl rfl (by decide) (by decide) rfl ?_
  obtain ⟨Ht3, Hf3⟩ := oi H
  refine g_if_ne hF (dAt tX11_end_ok 6 rfl rfl) rfl (fun c3 => ?_) (fun c3 => ?_)
  · have H := Hf3 c3
    refine g_p (S' := [.ref a]) hF tX11_end_ok 9 1 rfl rfl rfl rfl ?_
    refine g_getR hF (dAt tX11_end_ok 10 rfl rfl) flX11_32 hS.1 rfl ?_
    refine g_p (S' := [.int x1, .ref (a + 75)]) hF tX11_end_ok 11 1 rfl rfl rfl rfl ?_
    obtain ⟨s4, e5, H⟩ := ob H
    refine g_pI hF (dAt tX11_end_ok 12 rfl rfl) flX11_127 (Or.inl rfl) hS.2.2.2.1.1 rfl e5 ?_
    refine g_p (S' := [.int 1]) hF tX11_end_ok 13 1 rfl rfl rfl rfl ?_
    exact g_zret hF (en_p H hE) (Or.inr rfl) (dAt tX11_end_ok 14 rfl rfl) (by decide) (by decide)
  · have H := Ht3 c3
    refine g_p (S' := [.int 0]) hF tX11_end_ok 7 1 rfl rfl rfl rfl ?_
    exact g_zret hF (en_p H hE) (Or.inl rfl) (dAt tX11_end_ok 8 rfl rfl) (by decide) (by decide)
def X11_fault_f (a : Nat) (x1 : Int32) (σ : Sig) : Option (Int32) := if x1 = 0 then (some (σ (a + 77) 0)) else (if x1 = 1 then (some (σ (a + 77) 1)) else (some (-1)))
set_option maxRecDepth 4000 in
set_option maxHeartbeats 1000000 in
theorem X11_fault_ok {D : Nat} {τ : Tau} {nx : Nat} {a : Nat} {x1 : Int32} {σ : Sig} {res : Int32} (hD : 1 ≤ D) (hS : ShX11 τ a) (H : X11_fault_f a x1 σ = some res) : Ok D 0 0 yX11_fault cX11_fault 2 (some .int) [.ref a, .int x1] (τ, σ, nx) (some (.int res)) (τ, σ, nx) := by
  refine ok_of (by decide +kernel) rfl (Nat.le_of_ble_eq_true rfl) (fun K X hF hE hN L0 hL0 => ?_)
  obtain rfl : [some (.ref a), some (.int x1)] = L0 := hL0
  have hF : Fx K X cX11_fault 2 RX11 D 0 0 := hF
  refine g_p (S' := [.int x1]) hF tX11_fault_ok 0 1 rfl rfl rfl rfl ?_
  obtain ⟨Ht1, Hf1⟩ := oi H
  refine g_if_ne hF (dAt tX11_fault_ok 1 rfl rfl) rfl (fun c1 => ?_) (fun c1 => ?_)
  · have H := Hf1 c1
    refine g_p (S' := [.int 1, .int x1]) hF tX11_fault_ok 6 2 rfl rfl rfl rfl ?_
    obtain ⟨Ht2, Hf2⟩ := oi H
    refine g_icmp_ne hF (dAt tX11_fault_ok 8 rfl rfl) rfl (fun c2 => ?_) (fun c2 => ?_)
    · have H := Hf2 c2
      refine g_p (S' := [.int (-1)]) hF tX11_fault_ok 13 1 rfl rfl rfl rfl ?_
      exact g_iret hF (en_i H hE) (dAt tX11_fault_ok 14 rfl rfl) (by decide) (by decide)
    · have H := Ht2 c2
      refine g_p (S' := [.ref a]) hF tX11_fault_ok 9 1 rfl rfl rfl rfl ?_
      refine g_getR hF (dAt tX11_fault_ok 10 rfl rfl) flX11_39 hS.1 rfl ?_
      refine g_getI hF (dAt tX11_fault_ok 11 rfl rfl) flX11_151 hS.2.2.2.2.1 rfl ?_
      refine g_goto hF (dAt tX11_fault_ok 12 rfl rfl) rfl ?_
      exact g_iret hF (en_i H hE) (dAt tX11_fault_ok 14 rfl rfl) (by decide) (by decide)
  · have H := Ht1 c1
    refine g_p (S' := [.ref a]) hF tX11_fault_ok 2 1 rfl rfl rfl rfl ?_
    refine g_getR hF (dAt tX11_fault_ok 3 rfl rfl) flX11_39 hS.1 rfl ?_
    refine g_getI hF (dAt tX11_fault_ok 4 rfl rfl) flX11_148 hS.2.2.2.2.1 rfl ?_
    exact g_iret hF (en_i H hE) (dAt tX11_fault_ok 5 rfl rfl) (by decide) (by decide)
noncomputable def X11_does_f (τ : Tau) (a : Nat) (x1 : Int32) (σ : Sig) : Option (Int32 × Sig) := (X4_has_f ((a + 5) + 1) x1 σ).bind fun v1 => if v1 = 0 then (some ((-1), σ)) else ((ld 12 (σ (((a + 5) + 1) + 1)) x1).bind fun v4 => if v4 = 0 then ((X3_tally_f ((a + 5) + 12) σ).bind fun s7 => (X10_deedOf_f τ (a + 5) 2000 x1 s7).bind fun ⟨v9, s10⟩ => some (v9, s10)) else (some ((-1), σ)))
set_option maxRecDepth 4000 in
set_option maxHeartbeats 1000000 in
theorem X11_does_ok {D : Nat} {τ : Tau} {nx : Nat} {a : Nat} {x1 : Int32} {σ : Sig} {res : Int32} {rsg : Sig} (hD : 5 ≤ D) (hS : ShX11 τ a) (H : X11_does_f τ a x1 σ = some (res, rsg)) : Ok D 0 0 yX11_does cX11_does 2 (some .int) [.ref a, .int x1] (τ, σ, nx) (some (.int res)) (τ, rsg, nx) := by
  refine ok_of (by decide +kernel) rfl (Nat.le_of_ble_eq_true rfl) (fun K X hF hE hN L0 hL0 => ?_)
  obtain rfl : [some (.ref a), some (.int x1)] = L0 := hL0
  have hF : Fx K X cX11_does 2 RX11 D 0 0 := hF
  refine g_p (S' := [.ref a]) hF tX11_does_ok 0 1 rfl rfl rfl rfl ?_
  refine g_getR hF (dAt tX11_does_ok 1 rfl rfl) flX11_19 hS.1 rfl ?_
  refine g_getR hF (dAt tX11_does_ok 2 rfl rfl) flX11_57 hS.2.1.1 rfl ?_
  refine g_p (S' := [.int x1, .ref ((a + 5) + 1)]) hF tX11_does_ok 3 1 rfl rfl rfl rfl ?_
  obtain ⟨v1, e2, H⟩ := ob H
  refine g_cV (S := []) hF (X4_has_ok (Nat.le_refl _) hS.2.1.2.1 e2 K) mbX4_has mvX4_has mlX11_74 (by omega) (by decide) (dAt tX11_does_ok 4 rfl rfl) hS.2.1.2.1.1 rfl rfl rfl (Nat.le_of_ble_eq_true rfl) rfl rfl (by decide) (by decide) rfl ?_
  obtain ⟨Ht3, Hf3⟩ := oi H
  refine g_if_eq hF (dAt tX11_does_ok 5 rfl rfl) rfl (fun c3 => ?_) (fun c3 => ?_)
  · have H := Ht3 c3
    refine g_p (S' := [.int (-1)]) hF tX11_does_ok 13 1 rfl rfl rfl rfl ?_
    exact g_iret hF (en_p H hE) (dAt tX11_does_ok 14 rfl rfl) (by decide) (by decide)
  · have H := Hf3 c3
    refine g_p (S' := [.ref a]) hF tX11_does_ok 6 1 rfl rfl rfl rfl ?_
    refine g_getR hF (dAt tX11_does_ok 7 rfl rfl) flX11_19 hS.1 rfl ?_
    refine g_getR hF (dAt tX11_does_ok 8 rfl rfl) flX11_57 hS.2.1.1 rfl ?_
    refine g_getR hF (dAt tX11_does_ok 9 rfl rfl) flX11_154 hS.2.1.2.1.1 rfl ?_
    refine g_p (S' := [.int x1, .ref (((a + 5) + 1) + 1)]) hF tX11_does_ok 10 1 rfl rfl rfl rfl ?_
    obtain ⟨v4, e5, H⟩ := ob H
    refine g_ild hF (dAt tX11_does_ok 11 rfl rfl) hS.2.1.2.1.2.1 e5 ?_
    obtain ⟨Ht6, Hf6⟩ := oi H
    refine g_if_eq hF (dAt tX11_does_ok 12 rfl rfl) rfl (fun c6 => ?_) (fun c6 => ?_)
    · have H := Ht6 c6
      refine g_p (S' := [.ref a]) hF tX11_does_ok 15 1 rfl rfl rfl rfl ?_
      refine g_getR hF (dAt tX11_does_ok 16 rfl rfl) flX11_19 hS.1 rfl ?_
      refine g_getR hF (dAt tX11_does_ok 17 rfl rfl) flX11_110 hS.2.1.1 rfl ?_
      obtain ⟨s7, e8, H⟩ := ob H
      refine g_cV (S := []) hF (X3_tally_ok (Nat.le_refl _) hS.2.1.2.2.1 e8 K) mbX3_tally mvX3_tally mlX11_157 (by omega) (by decide) (dAt tX11_does_ok 18 rfl rfl) hS.2.1.2.2.1.1 rfl rfl rfl (Nat.le_of_ble_eq_true rfl) rfl rfl (by decide) (by decide) rfl ?_
      refine g_p (S' := [.ref a]) hF tX11_does_ok 19 1 rfl rfl rfl rfl ?_
      refine g_getR hF (dAt tX11_does_ok 20 rfl rfl) flX11_19 hS.1 rfl ?_
      refine g_p (S' := [.int x1, .ref (a + 5)]) hF tX11_does_ok 21 1 rfl rfl rfl rfl ?_
      obtain ⟨⟨v9, s10⟩, e11, H⟩ := ob H
      refine g_cV (S := []) hF (X10_deedOf_ok (Nat.le_refl _) hS.2.1 e11 K) mbX10_deedOf mvX10_deedOf mlX11_160 (by omega) (by decide) (dAt tX11_does_ok 22 rfl rfl) hS.2.1.1 rfl rfl rfl (Nat.le_of_ble_eq_true rfl) rfl rfl (by decide) (by decide) rfl ?_
      exact g_iret hF (en_p H hE) (dAt tX11_does_ok 23 rfl rfl) (by decide) (by decide)
    · have H := Hf6 c6
      refine g_p (S' := [.int (-1)]) hF tX11_does_ok 13 1 rfl rfl rfl rfl ?_
      exact g_iret hF (en_p H hE) (dAt tX11_does_ok 14 rfl rfl) (by decide) (by decide)
noncomputable def X11_word_f (τ : Tau) (a : Nat) (x1 x2 x3 x4 x5 x6 : Int32) (σ : Sig) : Option (Int32 × Sig) := (X11_isLaw_f x1 σ).bind fun v1 => if v1 = 0 then (some ((-1), σ)) else ((X11_isWithin_f x2 0 3 σ).bind fun v4 => if v4 = 0 then (some ((-1), σ)) else ((X11_isWithin_f x3 0 99 σ).bind fun v7 => if v7 = 0 then (some ((-1), σ)) else ((X11_isHour_f x4 σ).bind fun v10 => if v10 = 0 then (some ((-1), σ)) else ((X10_isWord_f τ (a + 5) 2000 x1 x2 x3 x4 x5 x6 σ).bind fun ⟨v13, s14⟩ => if v13 = 0 then (some (0, s14)) else (some (1, s14))))))
set_option maxRecDepth 4000 in
set_option maxHeartbeats 1000000 in
theorem X11_word_ok {D : Nat} {τ : Tau} {nx : Nat} {a : Nat} {x1 x2 x3 x4 x5 x6 : Int32} {σ : Sig} {res : Int32} {rsg : Sig} (hD : 5 ≤ D) (hS : ShX11 τ a) (H : X11_word_f τ a x1 x2 x3 x4 x5 x6 σ = some (res, rsg)) : Ok D 0 0 yX11_word cX11_word 7 (some .int) [.ref a, .int x1, .int x2, .int x3, .int x4, .int x5, .int x6] (τ, σ, nx) (some (.int res)) (τ, rsg, nx) := by
  refine ok_of (by decide +kernel) rfl (Nat.le_of_ble_eq_true rfl) (fun K X hF hE hN L0 hL0 => ?_)
  obtain rfl : [some (.ref a), some (.int x1), some (.int x2), some (.int x3), some (.int x4), some (.int x5), some (.int x6)] = L0 := hL0
  have hF : Fx K X cX11_word 7 RX11 D 0 0 := hF
  refine g_p (S' := [.int x1]) hF tX11_word_ok 0 1 rfl rfl rfl rfl ?_
  obtain ⟨v1, e2, H⟩ := ob H
  refine g_cS (S := []) hF (X11_isLaw_ok (Nat.le_refl _)  e2 K) mbX11_isLaw msX11_isLaw mlX11_164 (by omega) (by decide) (dAt tX11_word_ok 1 rfl rfl) rfl rfl (Nat.le_of_ble_eq_true rfl) rfl rfl (by decide) (by decide) rfl ?_
  obtain ⟨Ht3, Hf3⟩ := oi H
  refine g_if_eq hF (dAt tX11_word_ok 2 rfl rfl) rfl (fun c3 => ?_) (fun c3 => ?_)
  · have H := Ht3 c3
    refine g_p (S' := [.int (-1)]) hF tX11_word_ok 16 1 rfl rfl rfl rfl ?_
    exact g_iret hF (en_p H hE) (dAt tX11_word_ok 17 rfl rfl) (by decide) (by decide)
  · have H := Hf3 c3
    refine g_p (S' := [.int 3, .int 0, .int x2]) hF tX11_word_ok 3 3 rfl rfl rfl rfl ?_
    obtain ⟨v4, e5, H⟩ := ob H
    refine g_cS (S := []) hF (X11_isWithin_ok (Nat.le_refl _)  e5 K) mbX11_isWithin msX11_isWithin mlX11_53 (by omega) (by decide) (dAt tX11_word_ok 6 rfl rfl) rfl rfl (Nat.le_of_ble_eq_true rfl) rfl rfl (by decide) (by decide) rfl ?_
    obtain ⟨Ht6, Hf6⟩ := oi H
    refine g_if_eq hF (dAt tX11_word_ok 7 rfl rfl) rfl (fun c6 => ?_) (fun c6 => ?_)
    · have H := Ht6 c6
      refine g_p (S' := [.int (-1)]) hF tX11_word_ok 16 1 rfl rfl rfl rfl ?_
      exact g_iret hF (en_p H hE) (dAt tX11_word_ok 17 rfl rfl) (by decide) (by decide)
    · have H := Hf6 c6
      refine g_p (S' := [.int 99, .int 0, .int x3]) hF tX11_word_ok 8 3 rfl rfl rfl rfl ?_
      obtain ⟨v7, e8, H⟩ := ob H
      refine g_cS (S := []) hF (X11_isWithin_ok (Nat.le_refl _)  e8 K) mbX11_isWithin msX11_isWithin mlX11_53 (by omega) (by decide) (dAt tX11_word_ok 11 rfl rfl) rfl rfl (Nat.le_of_ble_eq_true rfl) rfl rfl (by decide) (by decide) rfl ?_
      obtain ⟨Ht9, Hf9⟩ := oi H
      refine g_if_eq hF (dAt tX11_word_ok 12 rfl rfl) rfl (fun c9 => ?_) (fun c9 => ?_)
      · have H := Ht9 c9
        refine g_p (S' := [.int (-1)]) hF tX11_word_ok 16 1 rfl rfl rfl rfl ?_
        exact g_iret hF (en_p H hE) (dAt tX11_word_ok 17 rfl rfl) (by decide) (by decide)
      · have H := Hf9 c9
        refine g_p (S' := [.int x4]) hF tX11_word_ok 13 1 rfl rfl rfl rfl ?_
        obtain ⟨v10, e11, H⟩ := ob H
        refine g_cS (S := []) hF (X11_isHour_ok (Nat.le_refl _)  e11 K) mbX11_isHour msX11_isHour mlX11_167 (by omega) (by decide) (dAt tX11_word_ok 14 rfl rfl) rfl rfl (Nat.le_of_ble_eq_true rfl) rfl rfl (by decide) (by decide) rfl ?_
        obtain ⟨Ht12, Hf12⟩ := oi H
        refine g_if_ne hF (dAt tX11_word_ok 15 rfl rfl) rfl (fun c12 => ?_) (fun c12 => ?_)
        · have H := Hf12 c12
          refine g_p (S' := [.ref a]) hF tX11_word_ok 18 1 rfl rfl rfl rfl ?_
          refine g_getR hF (dAt tX11_word_ok 19 rfl rfl) flX11_19 hS.1 rfl ?_
          refine g_p (S' := [.int x6, .int x5, .int x4, .int x3, .int x2, .int x1, .ref (a + 5)]) hF tX11_word_ok 20 6 rfl rfl rfl rfl ?_
          obtain ⟨⟨v13, s14⟩, e15, H⟩ := ob H
          refine g_cV (S := []) hF (X10_isWord_ok (Nat.le_refl _) hS.2.1 e15 K) mbX10_isWord mvX10_isWord mlX11_170 (by omega) (by decide) (dAt tX11_word_ok 26 rfl rfl) hS.2.1.1 rfl rfl rfl (Nat.le_of_ble_eq_true rfl) rfl rfl (by decide) (by decide) rfl ?_
          obtain ⟨Ht16, Hf16⟩ := oi H
          refine g_if_eq hF (dAt tX11_word_ok 27 rfl rfl) rfl (fun c16 => ?_) (fun c16 => ?_)
          · have H := Ht16 c16
            refine g_p (S' := [.int 0]) hF tX11_word_ok 30 1 rfl rfl rfl rfl ?_
            exact g_iret hF (en_p H hE) (dAt tX11_word_ok 31 rfl rfl) (by decide) (by decide)
          · have H := Hf16 c16
            refine g_p (S' := [.int 1]) hF tX11_word_ok 28 1 rfl rfl rfl rfl ?_
            refine g_goto hF (dAt tX11_word_ok 29 rfl rfl) rfl ?_
            exact g_iret hF (en_p H hE) (dAt tX11_word_ok 31 rfl rfl) (by decide) (by decide)
        · have H := Ht12 c12
          refine g_p (S' := [.int (-1)]) hF tX11_word_ok 16 1 rfl rfl rfl rfl ?_
          exact g_iret hF (en_p H hE) (dAt tX11_word_ok 17 rfl rfl) (by decide) (by decide)
noncomputable def X11_quarters_b60 (τ : Tau) (a : Nat) : Nat → Int32 → Int32 → Int32 → Sig → Option (Int32 × Sig)
  | 0, _, _, _, _ => none
  | fu + 1, x1, x2, x3, σ => if x1 ≤ x3 then (some (((σ ((a + 5) + 33) 3) - x2), σ)) else ((X10_pass_f τ (a + 5) 2000 σ).bind fun s2 => X11_quarters_b60 τ a fu x1 x2 (x3 + 1) s2)
set_option maxRecDepth 4000 in
set_option maxHeartbeats 1000000 in
theorem X11_quarters_b60_ok {K : Kt} {X : Cx} {D : Nat} {τ : Tau} {nx : Nat} {a : Nat} {res : Int32} {rsg : Sig}  (hD : 7 ≤ D) (hF : Fx K X cX11_quarters 4 RX11 D 0 0) (hS : ShX11 τ a) (hE : En K X (some .int) 0 0 (some (.int res)) (τ, rsg, nx)) : ∀ (fu : Nat) (x1 x2 x3 : Int32) (σ : Sig), X11_quarters_b60 τ a fu x1 x2 x3 σ = some (res, rsg) → G K X 4 0 0 60 [some (.ref a), some (.int x1), some (.int x2), some (.int x3)] [] (τ, σ, nx)
  | 0, _, _, _, _, H => nomatch H
  | fu + 1, x1, x2, x3, σ, H => by
    refine g_p (S' := [.int x1, .int x3]) hF tX11_quarters_ok 31 2 rfl rfl rfl rfl ?_
    obtain ⟨Ht1, Hf1⟩ := oi H
    refine g_icmp_ge hF (dAt tX11_quarters_ok 33 rfl rfl) rfl (fun c1 => ?_) (fun c1 => ?_)
    · have H := Ht1 c1
      refine g_p (S' := [.ref a]) hF tX11_quarters_ok 39 1 rfl rfl rfl rfl ?_
      refine g_getR hF (dAt tX11_quarters_ok 40 rfl rfl) flX11_19 hS.1 rfl ?_
      refine g_getR hF (dAt tX11_quarters_ok 41 rfl rfl) flX11_180 hS.2.1.1 rfl ?_
      refine g_getI hF (dAt tX11_quarters_ok 42 rfl rfl) flX11_184 hS.2.1.2.2.2.2.2.1.1 rfl ?_
      refine g_p (S' := [.int ((σ ((a + 5) + 33) 3) - x2)]) hF tX11_quarters_ok 43 2 rfl rfl rfl rfl ?_
      exact g_iret hF (en_p H hE) (dAt tX11_quarters_ok 45 rfl rfl) (by decide) (by decide)
    · have H := Hf1 c1
      refine g_p (S' := [.ref a]) hF tX11_quarters_ok 34 1 rfl rfl rfl rfl ?_
      refine g_getR hF (dAt tX11_quarters_ok 35 rfl rfl) flX11_19 hS.1 rfl ?_
      obtain ⟨s2, e3, H⟩ := ob H
      refine g_cV (S := []) hF (X10_pass_ok (Nat.le_refl _) hS.2.1 e3 K) mbX10_pass mvX10_pass mlX11_189 (by omega) (by decide) (dAt tX11_quarters_ok 36 rfl rfl) hS.2.1.1 rfl rfl rfl (Nat.le_of_ble_eq_true rfl) rfl rfl (by decide) (by decide) rfl ?_
      refine g_p (L' := [some (.ref a), some (.int x1), some (.int x2), some (.int (x3 + 1))]) (S' := []) hF tX11_quarters_ok 37 1 rfl rfl rfl rfl ?_
      refine g_goto hF (dAt tX11_quarters_ok 38 rfl rfl) rfl ?_
      exact X11_quarters_b60_ok hD hF hS hE fu _ _ _ _ H
noncomputable def X11_quarters_f (τ : Tau) (a : Nat) (x1 : Int32) (σ : Sig) : Option (Int32 × Sig) := (X11_isWithin_f x1 1 960 σ).bind fun v1 => if v1 = 0 then (some ((-1), σ)) else (if ((σ ((a + 5) + 26) 1) + (((σ ((a + 5) + 26) 2) + x1) / 96)) ≤ 9999 then (X11_quarters_b60 τ a FU x1 (σ ((a + 5) + 33) 3) 0 σ) else (some ((-1), σ)))
set_option maxRecDepth 4000 in
set_option maxHeartbeats 1000000 in
theorem X11_quarters_ok {D : Nat} {τ : Tau} {nx : Nat} {a : Nat} {x1 : Int32} {σ : Sig} {res : Int32} {rsg : Sig} (hD : 7 ≤ D) (hS : ShX11 τ a) (H : X11_quarters_f τ a x1 σ = some (res, rsg)) : Ok D 0 0 yX11_quarters cX11_quarters 4 (some .int) [.ref a, .int x1] (τ, σ, nx) (some (.int res)) (τ, rsg, nx) := by
  refine ok_of (by decide +kernel) rfl (Nat.le_of_ble_eq_true rfl) (fun K X hF hE hN L0 hL0 => ?_)
  obtain rfl : [some (.ref a), some (.int x1), none, none] = L0 := hL0
  have hF : Fx K X cX11_quarters 4 RX11 D 0 0 := hF
  refine g_p (S' := [.int 960, .int 1, .int x1]) hF tX11_quarters_ok 0 3 rfl rfl rfl rfl ?_
  obtain ⟨v1, e2, H⟩ := ob H
  refine g_cS (S := []) hF (X11_isWithin_ok (Nat.le_refl _)  e2 K) mbX11_isWithin msX11_isWithin mlX11_53 (by omega) (by decide) (dAt tX11_quarters_ok 3 rfl rfl) rfl rfl (Nat.le_of_ble_eq_true rfl) rfl rfl (by decide) (by decide) rfl ?_
  obtain ⟨Ht3, Hf3⟩ := oi H
  refine g_if_ne hF (dAt tX11_quarters_ok 4 rfl rfl) rfl (fun c3 => ?_) (fun c3 => ?_)
  · have H := Hf3 c3
    refine g_p (S' := [.ref a]) hF tX11_quarters_ok 7 1 rfl rfl rfl rfl ?_
    refine g_getR hF (dAt tX11_quarters_ok 8 rfl rfl) flX11_19 hS.1 rfl ?_
    refine g_getR hF (dAt tX11_quarters_ok 9 rfl rfl) flX11_43 hS.2.1.1 rfl ?_
    refine g_getI hF (dAt tX11_quarters_ok 10 rfl rfl) flX11_174 hS.2.1.2.2.2.2.1 rfl ?_
    refine g_p (S' := [.ref a, .int (σ ((a + 5) + 26) 1)]) hF tX11_quarters_ok 11 1 rfl rfl rfl rfl ?_
    refine g_getR hF (dAt tX11_quarters_ok 12 rfl rfl) flX11_19 hS.1 rfl ?_
    refine g_getR hF (dAt tX11_quarters_ok 13 rfl rfl) flX11_43 hS.2.1.1 rfl ?_
    refine g_getI hF (dAt tX11_quarters_ok 14 rfl rfl) flX11_177 hS.2.1.2.2.2.2.1 rfl ?_
    refine g_p (S' := [.int 96, .int ((σ ((a + 5) + 26) 2) + x1), .int (σ ((a + 5) + 26) 1)]) hF tX11_quarters_ok 15 3 rfl rfl rfl rfl ?_
    refine g_idiv hF (dAt tX11_quarters_ok 18 rfl rfl) (by decide) ?_
    refine g_p (S' := [.int 9999, .int ((σ ((a + 5) + 26) 1) + (((σ ((a + 5) + 26) 2) + x1) / 96))]) hF tX11_quarters_ok 19 2 rfl rfl rfl rfl ?_
    obtain ⟨Ht4, Hf4⟩ := oi H
    refine g_icmp_le hF (dAt tX11_quarters_ok 21 rfl rfl) rfl (fun c4 => ?_) (fun c4 => ?_)
    · have H := Ht4 c4
      refine g_p (S' := [.ref a]) hF tX11_quarters_ok 24 1 rfl rfl rfl rfl ?_
      refine g_getR hF (dAt tX11_quarters_ok 25 rfl rfl) flX11_19 hS.1 rfl ?_
      refine g_getR hF (dAt tX11_quarters_ok 26 rfl rfl) flX11_180 hS.2.1.1 rfl ?_
      refine g_getI hF (dAt tX11_quarters_ok 27 rfl rfl) flX11_184 hS.2.1.2.2.2.2.2.1.1 rfl ?_
      refine g_p (L' := [some (.ref a), some (.int x1), some (.int (σ ((a + 5) + 33) 3)), some (.int 0)]) (S' := []) hF tX11_quarters_ok 28 3 rfl rfl rfl rfl ?_
      exact X11_quarters_b60_ok hD hF hS hE FU _ _ _ _ H
    · have H := Hf4 c4
      refine g_p (S' := [.int (-1)]) hF tX11_quarters_ok 22 1 rfl rfl rfl rfl ?_
      exact g_iret hF (en_p H hE) (dAt tX11_quarters_ok 23 rfl rfl) (by decide) (by decide)
  · have H := Ht3 c3
    refine g_p (S' := [.int (-1)]) hF tX11_quarters_ok 5 1 rfl rfl rfl rfl ?_
    exact g_iret hF (en_p H hE) (dAt tX11_quarters_ok 6 rfl rfl) (by decide) (by decide)
def X11_noise_f (a : Nat) (x1 x2 : Int32) (σ : Sig) : Option (Int32) := (X4_has_f ((a + 5) + 1) x1 σ).bind fun v1 => if v1 = 0 then (some (-2)) else ((X11_isWithin_f x2 0 2 σ).bind fun v4 => if v4 = 0 then (some (-2)) else ((X4_noiseOf_f ((a + 5) + 1) x1 x2 σ).bind fun v7 => some v7))
set_option maxRecDepth 4000 in
set_option maxHeartbeats 1000000 in
theorem X11_noise_ok {D : Nat} {τ : Tau} {nx : Nat} {a : Nat} {x1 x2 : Int32} {σ : Sig} {res : Int32} (hD : 2 ≤ D) (hS : ShX11 τ a) (H : X11_noise_f a x1 x2 σ = some res) : Ok D 0 0 yX11_noise cX11_noise 3 (some .int) [.ref a, .int x1, .int x2] (τ, σ, nx) (some (.int res)) (τ, σ, nx) := by
  refine ok_of (by decide +kernel) rfl (Nat.le_of_ble_eq_true rfl) (fun K X hF hE hN L0 hL0 => ?_)
  obtain rfl : [some (.ref a), some (.int x1), some (.int x2)] = L0 := hL0
  have hF : Fx K X cX11_noise 3 RX11 D 0 0 := hF
  refine g_p (S' := [.ref a]) hF tX11_noise_ok 0 1 rfl rfl rfl rfl ?_
  refine g_getR hF (dAt tX11_noise_ok 1 rfl rfl) flX11_19 hS.1 rfl ?_
  refine g_getR hF (dAt tX11_noise_ok 2 rfl rfl) flX11_57 hS.2.1.1 rfl ?_
  refine g_p (S' := [.int x1, .ref ((a + 5) + 1)]) hF tX11_noise_ok 3 1 rfl rfl rfl rfl ?_
  obtain ⟨v1, e2, H⟩ := ob H
  refine g_cV (S := []) hF (X4_has_ok (Nat.le_refl _) hS.2.1.2.1 e2 K) mbX4_has mvX4_has mlX11_74 (by omega) (by decide) (dAt tX11_noise_ok 4 rfl rfl) hS.2.1.2.1.1 rfl rfl rfl (Nat.le_of_ble_eq_true rfl) rfl rfl (by decide) (by decide) rfl ?_
  obtain ⟨Ht3, Hf3⟩ := oi H
  refine g_if_eq hF (dAt tX11_noise_ok 5 rfl rfl) rfl (fun c3 => ?_) (fun c3 => ?_)
  · have H := Ht3 c3
    refine g_p (S' := [.int (-2)]) hF tX11_noise_ok 11 1 rfl rfl rfl rfl ?_
    exact g_iret hF (en_i H hE) (dAt tX11_noise_ok 12 rfl rfl) (by decide) (by decide)
  · have H := Hf3 c3
    refine g_p (S' := [.int 2, .int 0, .int x2]) hF tX11_noise_ok 6 3 rfl rfl rfl rfl ?_
    obtain ⟨v4, e5, H⟩ := ob H
    refine g_cS (S := []) hF (X11_isWithin_ok (Nat.le_refl _)  e5 K) mbX11_isWithin msX11_isWithin mlX11_53 (by omega) (by decide) (dAt tX11_noise_ok 9 rfl rfl) rfl rfl (Nat.le_of_ble_eq_true rfl) rfl rfl (by decide) (by decide) rfl ?_
    obtain ⟨Ht6, Hf6⟩ := oi H
    refine g_if_ne hF (dAt tX11_noise_ok 10 rfl rfl) rfl (fun c6 => ?_) (fun c6 => ?_)
    · have H := Hf6 c6
      refine g_p (S' := [.ref a]) hF tX11_noise_ok 13 1 rfl rfl rfl rfl ?_
      refine g_getR hF (dAt tX11_noise_ok 14 rfl rfl) flX11_19 hS.1 rfl ?_
      refine g_getR hF (dAt tX11_noise_ok 15 rfl rfl) flX11_57 hS.2.1.1 rfl ?_
      refine g_p (S' := [.int x2, .int x1, .ref ((a + 5) + 1)]) hF tX11_noise_ok 16 2 rfl rfl rfl rfl ?_
      obtain ⟨v7, e8, H⟩ := ob H
      refine g_cV (S := []) hF (X4_noiseOf_ok (Nat.le_refl _) hS.2.1.2.1 e8 K) mbX4_noiseOf mvX4_noiseOf mlX11_192 (by omega) (by decide) (dAt tX11_noise_ok 18 rfl rfl) hS.2.1.2.1.1 rfl rfl rfl (Nat.le_of_ble_eq_true rfl) rfl rfl (by decide) (by decide) rfl ?_
      exact g_iret hF (en_i H hE) (dAt tX11_noise_ok 19 rfl rfl) (by decide) (by decide)
    · have H := Ht6 c6
      refine g_p (S' := [.int (-2)]) hF tX11_noise_ok 11 1 rfl rfl rfl rfl ?_
      exact g_iret hF (en_i H hE) (dAt tX11_noise_ok 12 rfl rfl) (by decide) (by decide)
def X11_soonest_f (a : Nat) (x1 : Int32) (σ : Sig) : Option (Int32 × Sig) := (X11_isWithin_f x1 0 2 σ).bind fun v1 => if v1 = 0 then (some ((-1), σ)) else (if x1 = 2 then ((X3_aloneHours_f ((a + 5) + 12) σ).bind fun ⟨v14, s15⟩ => some (v14, s15)) else ((X3_findWhoMay_f ((a + 5) + 12) ((a + 5) + 1) σ).bind fun ⟨v5, s6⟩ => if v5 = 0 then (some ((-1), s6)) else (if x1 = 0 then ((X3_bestHours_f ((a + 5) + 12) (s6 ((a + 5) + 1) 0) s6).bind fun v12 => some (v12, s6)) else ((X3_boundHours_f ((a + 5) + 12) s6).bind fun v10 => some (v10, s6)))))
set_option maxRecDepth 4000 in
set_option maxHeartbeats 1000000 in
theorem X11_soonest_ok {D : Nat} {τ : Tau} {nx : Nat} {a : Nat} {x1 : Int32} {σ : Sig} {res : Int32} {rsg : Sig} (hD : 4 ≤ D) (hS : ShX11 τ a) (H : X11_soonest_f a x1 σ = some (res, rsg)) : Ok D 0 0 yX11_soonest cX11_soonest 3 (some .int) [.ref a, .int x1] (τ, σ, nx) (some (.int res)) (τ, rsg, nx) := by
  refine ok_of (by decide +kernel) rfl (Nat.le_of_ble_eq_true rfl) (fun K X hF hE hN L0 hL0 => ?_)
  obtain rfl : [some (.ref a), some (.int x1), none] = L0 := hL0
  have hF : Fx K X cX11_soonest 3 RX11 D 0 0 := hF
  refine g_p (S' := [.int 2, .int 0, .int x1]) hF tX11_soonest_ok 0 3 rfl rfl rfl rfl ?_
  obtain ⟨v1, e2, H⟩ := ob H
  refine g_cS (S := []) hF (X11_isWithin_ok (Nat.le_refl _)  e2 K) mbX11_isWithin msX11_isWithin mlX11_53 (by omega) (by decide) (dAt tX11_soonest_ok 3 rfl rfl) rfl rfl (Nat.le_of_ble_eq_true rfl) rfl rfl (by decide) (by decide) rfl ?_
  obtain ⟨Ht3, Hf3⟩ := oi H
  refine g_if_ne hF (dAt tX11_soonest_ok 4 rfl rfl) rfl (fun c3 => ?_) (fun c3 => ?_)
  · have H := Hf3 c3
    refine g_p (S' := [.ref a]) hF tX11_soonest_ok 7 1 rfl rfl rfl rfl ?_
    refine g_getR hF (dAt tX11_soonest_ok 8 rfl rfl) flX11_19 hS.1 rfl ?_
    refine g_getR hF (dAt tX11_soonest_ok 9 rfl rfl) flX11_110 hS.2.1.1 rfl ?_
    refine g_p (L' := [some (.ref a), some (.int x1), some (.ref ((a + 5) + 12))]) (S' := [.int 2, .int x1]) hF tX11_soonest_ok 10 3 rfl rfl rfl rfl ?_
    obtain ⟨Ht4, Hf4⟩ := oi H
    refine g_icmp_ne hF (dAt tX11_soonest_ok 13 rfl rfl) rfl (fun c4 => ?_) (fun c4 => ?_)
    · have H := Hf4 c4
      refine g_p (S' := [.ref a, .ref ((a + 5) + 12)]) hF tX11_soonest_ok 17 2 rfl rfl rfl rfl ?_
      refine g_getR hF (dAt tX11_soonest_ok 19 rfl rfl) flX11_19 hS.1 rfl ?_
      refine g_getR hF (dAt tX11_soonest_ok 20 rfl rfl) flX11_57 hS.2.1.1 rfl ?_
      obtain ⟨⟨v5, s6⟩, e7, H⟩ := ob H
      refine g_cV (S := []) hF (X3_findWhoMay_ok (Nat.le_refl _) hS.2.1.2.2.1 hS.2.1.2.1 e7 K) mbX3_findWhoMay mvX3_findWhoMay mlX11_223 (by omega) (by decide) (dAt tX11_soonest_ok 21 rfl rfl) hS.2.1.2.2.1.1 rfl rfl rfl (Nat.le_of_ble_eq_true rfl) rfl rfl (by decide) (by decide) rfl ?_
      obtain ⟨Ht8, Hf8⟩ := oi H
      refine g_if_ne hF (dAt tX11_soonest_ok 22 rfl rfl) rfl (fun c8 => ?_) (fun c8 => ?_)
      · have H := Hf8 c8
        refine g_p (S' := [.int x1]) hF tX11_soonest_ok 25 1 rfl rfl rfl rfl ?_
        obtain ⟨Ht9, Hf9⟩ := oi H
        refine g_if_ne hF (dAt tX11_soonest_ok 26 rfl rfl) rfl (fun c9 => ?_) (fun c9 => ?_)
        · have H := Hf9 c9
          refine g_p (S' := [.ref ((a + 5) + 12)]) hF tX11_soonest_ok 34 1 rfl rfl rfl rfl ?_
          obtain ⟨v10, e11, H⟩ := ob H
          refine g_cV (S := []) hF (X3_boundHours_ok (Nat.le_refl _) hS.2.1.2.2.1 e11 K) mbX3_boundHours mvX3_boundHours mlX11_230 (by omega) (by decide) (dAt tX11_soonest_ok 35 rfl rfl) hS.2.1.2.2.1.1 rfl rfl rfl (Nat.le_of_ble_eq_true rfl) rfl rfl (by decide) (by decide) rfl ?_
          exact g_iret hF (en_p H hE) (dAt tX11_soonest_ok 36 rfl rfl) (by decide) (by decide)
        · have H := Ht9 c9
          refine g_p (S' := [.ref a, .ref ((a + 5) + 12)]) hF tX11_soonest_ok 27 2 rfl rfl rfl rfl ?_
          refine g_getR hF (dAt tX11_soonest_ok 29 rfl rfl) flX11_19 hS.1 rfl ?_
          refine g_getR hF (dAt tX11_soonest_ok 30 rfl rfl) flX11_57 hS.2.1.1 rfl ?_
          refine g_getI hF (dAt tX11_soonest_ok 31 rfl rfl) flX11_61 hS.2.1.2.1.1 rfl ?_
          obtain ⟨v12, e13, H⟩ := ob H
          refine g_cV (S := []) hF (X3_bestHours_ok (Nat.le_refl _) hS.2.1.2.2.1 e13 K) mbX3_bestHours mvX3_bestHours mlX11_227 (by omega) (by decide) (dAt tX11_soonest_ok 32 rfl rfl) hS.2.1.2.2.1.1 rfl rfl rfl (Nat.le_of_ble_eq_true rfl) rfl rfl (by decide) (by decide) rfl ?_
          refine g_goto hF (dAt tX11_soonest_ok 33 rfl rfl) rfl ?_
          exact g_iret hF (en_p H hE) (dAt tX11_soonest_ok 36 rfl rfl) (by decide) (by decide)
      · have H := Ht8 c8
        refine g_p (S' := [.int (-1)]) hF tX11_soonest_ok 23 1 rfl rfl rfl rfl ?_
        exact g_iret hF (en_p H hE) (dAt tX11_soonest_ok 24 rfl rfl) (by decide) (by decide)
    · have H := Ht4 c4
      refine g_p (S' := [.ref ((a + 5) + 12)]) hF tX11_soonest_ok 14 1 rfl rfl rfl rfl ?_
      obtain ⟨⟨v14, s15⟩, e16, H⟩ := ob H
      refine g_cV (S := []) hF (X3_aloneHours_ok (Nat.le_refl _) hS.2.1.2.2.1 e16 K) mbX3_aloneHours mvX3_aloneHours mlX11_219 (by omega) (by decide) (dAt tX11_soonest_ok 15 rfl rfl) hS.2.1.2.2.1.1 rfl rfl rfl (Nat.le_of_ble_eq_true rfl) rfl rfl (by decide) (by decide) rfl ?_
      exact g_iret hF (en_p H hE) (dAt tX11_soonest_ok 16 rfl rfl) (by decide) (by decide)
  · have H := Ht3 c3
    refine g_p (S' := [.int (-1)]) hF tX11_soonest_ok 5 1 rfl rfl rfl rfl ?_
    exact g_iret hF (en_p H hE) (dAt tX11_soonest_ok 6 rfl rfl) (by decide) (by decide)
noncomputable def X11_whom_f (τ : Tau) (a : Nat) (x1 x2 x3 x4 : Int32) (σ : Sig) : Option (Int32 × Sig) := (X11_isPlace_f x1 σ).bind fun v1 => if v1 = 0 then (some ((-1), σ)) else ((X11_isWithin_f x2 0 9999 σ).bind fun v4 => if v4 = 0 then (some ((-1), σ)) else ((X11_isHour_f x3 σ).bind fun v7 => if v7 = 0 then (some ((-1), σ)) else ((X11_isWithin_f x4 0 99 σ).bind fun v10 => if v10 = 0 then (some ((-1), σ)) else ((X8_isFeastOn_f ((a + 5) + 26) x2 σ).bind fun v13 => (X10_byWhom_f τ (a + 5) 2000 x1 v13 x3 x4 σ).bind fun ⟨v15, s16⟩ => some (v15, s16)))))
set_option maxRecDepth 4000 in
set_option maxHeartbeats 1000000 in
theorem X11_whom_ok {D : Nat} {τ : Tau} {nx : Nat} {a : Nat} {x1 x2 x3 x4 : Int32} {σ : Sig} {res : Int32} {rsg : Sig} (hD : 7 ≤ D) (hS : ShX11 τ a) (H : X11_whom_f τ a x1 x2 x3 x4 σ = some (res, rsg)) : Ok D 0 0 yX11_whom cX11_whom 5 (some .int) [.ref a, .int x1, .int x2, .int x3, .int x4] (τ, σ, nx) (some (.int res)) (τ, rsg, nx) := by
  refine ok_of (by decide +kernel) rfl (Nat.le_of_ble_eq_true rfl) (fun K X hF hE hN L0 hL0 => ?_)
  obtain rfl : [some (.ref a), some (.int x1), some (.int x2), some (.int x3), some (.int x4)] = L0 := hL0
  have hF : Fx K X cX11_whom 5 RX11 D 0 0 := hF
  refine g_p (S' := [.int x1]) hF tX11_whom_ok 0 1 rfl rfl rfl rfl ?_
  obtain ⟨v1, e2, H⟩ := ob H
  refine g_cS (S := []) hF (X11_isPlace_ok (Nat.le_refl _)  e2 K) mbX11_isPlace msX11_isPlace mlX11_86 (by omega) (by decide) (dAt tX11_whom_ok 1 rfl rfl) rfl rfl (Nat.le_of_ble_eq_true rfl) rfl rfl (by decide) (by decide) rfl ?_
  obtain ⟨Ht3, Hf3⟩ := oi H
  refine g_if_eq hF (dAt tX11_whom_ok 2 rfl rfl) rfl (fun c3 => ?_) (fun c3 => ?_)
  · have H := Ht3 c3
    refine g_p (S' := [.int (-1)]) hF tX11_whom_ok 16 1 rfl rfl rfl rfl ?_
    exact g_iret hF (en_p H hE) (dAt tX11_whom_ok 17 rfl rfl) (by decide) (by decide)
  · have H := Hf3 c3
    refine g_p (S' := [.int 9999, .int 0, .int x2]) hF tX11_whom_ok 3 3 rfl rfl rfl rfl ?_
    obtain ⟨v4, e5, H⟩ := ob H
    refine g_cS (S := []) hF (X11_isWithin_ok (Nat.le_refl _)  e5 K) mbX11_isWithin msX11_isWithin mlX11_53 (by omega) (by decide) (dAt tX11_whom_ok 6 rfl rfl) rfl rfl (Nat.le_of_ble_eq_true rfl) rfl rfl (by decide) (by decide) rfl ?_
    obtain ⟨Ht6, Hf6⟩ := oi H
    refine g_if_eq hF (dAt tX11_whom_ok 7 rfl rfl) rfl (fun c6 => ?_) (fun c6 => ?_)
    · have H := Ht6 c6
      refine g_p (S' := [.int (-1)]) hF tX11_whom_ok 16 1 rfl rfl rfl rfl ?_
      exact g_iret hF (en_p H hE) (dAt tX11_whom_ok 17 rfl rfl) (by decide) (by decide)
    · have H := Hf6 c6
      refine g_p (S' := [.int x3]) hF tX11_whom_ok 8 1 rfl rfl rfl rfl ?_
      obtain ⟨v7, e8, H⟩ := ob H
      refine g_cS (S := []) hF (X11_isHour_ok (Nat.le_refl _)  e8 K) mbX11_isHour msX11_isHour mlX11_167 (by omega) (by decide) (dAt tX11_whom_ok 9 rfl rfl) rfl rfl (Nat.le_of_ble_eq_true rfl) rfl rfl (by decide) (by decide) rfl ?_
      obtain ⟨Ht9, Hf9⟩ := oi H
      refine g_if_eq hF (dAt tX11_whom_ok 10 rfl rfl) rfl (fun c9 => ?_) (fun c9 => ?_)
      · have H := Ht9 c9
        refine g_p (S' := [.int (-1)]) hF tX11_whom_ok 16 1 rfl rfl rfl rfl ?_
        exact g_iret hF (en_p H hE) (dAt tX11_whom_ok 17 rfl rfl) (by decide) (by decide)
      · have H := Hf9 c9
        refine g_p (S' := [.int 99, .int 0, .int x4]) hF tX11_whom_ok 11 3 rfl rfl rfl rfl ?_
        obtain ⟨v10, e11, H⟩ := ob H
        refine g_cS (S := []) hF (X11_isWithin_ok (Nat.le_refl _)  e11 K) mbX11_isWithin msX11_isWithin mlX11_53 (by omega) (by decide) (dAt tX11_whom_ok 14 rfl rfl) rfl rfl (Nat.le_of_ble_eq_true rfl) rfl rfl (by decide) (by decide) rfl ?_
        obtain ⟨Ht12, Hf12⟩ := oi H
        refine g_if_ne hF (dAt tX11_whom_ok 15 rfl rfl) rfl (fun c12 => ?_) (fun c12 => ?_)
        · have H := Hf12 c12
          refine g_p (S' := [.ref a]) hF tX11_whom_ok 18 1 rfl rfl rfl rfl ?_
          refine g_getR hF (dAt tX11_whom_ok 19 rfl rfl) flX11_19 hS.1 rfl ?_
          refine g_p (S' := [.ref a, .int x1, .ref (a + 5)]) hF tX11_whom_ok 20 2 rfl rfl rfl rfl ?_
          refine g_getR hF (dAt tX11_whom_ok 22 rfl rfl) flX11_19 hS.1 rfl ?_
          refine g_getR hF (dAt tX11_whom_ok 23 rfl rfl) flX11_43 hS.2.1.1 rfl ?_
          refine g_p (S' := [.int x2, .ref ((a + 5) + 26), .int x1, .ref (a + 5)]) hF tX11_whom_ok 24 1 rfl rfl rfl rfl ?_
          obtain ⟨v13, e14, H⟩ := ob H
          refine g_cV (S := [.int x1, .ref (a + 5)]) hF (X8_isFeastOn_ok (Nat.le_refl _) hS.2.1.2.2.2.2.1 e14 K) mbX8_isFeastOn mvX8_isFeastOn mlX11_233 (by omega) (by decide) (dAt tX11_whom_ok 25 rfl rfl) hS.2.1.2.2.2.2.1 rfl rfl rfl (Nat.le_of_ble_eq_true rfl) rfl rfl (by decide) (by decide) rfl ?_
          refine g_p (S' := [.int x4, .int x3, .int v13, .int x1, .ref (a + 5)]) hF tX11_whom_ok 26 2 rfl rfl rfl rfl ?_
          obtain ⟨⟨v15, s16⟩, e17, H⟩ := ob H
          refine g_cV (S := []) hF (X10_byWhom_ok (Nat.le_refl _) hS.2.1 e17 K) mbX10_byWhom mvX10_byWhom mlX11_236 (by omega) (by decide) (dAt tX11_whom_ok 28 rfl rfl) hS.2.1.1 rfl rfl rfl (Nat.le_of_ble_eq_true rfl) rfl rfl (by decide) (by decide) rfl ?_
          exact g_iret hF (en_p H hE) (dAt tX11_whom_ok 29 rfl rfl) (by decide) (by decide)
        · have H := Ht12 c12
          refine g_p (S' := [.int (-1)]) hF tX11_whom_ok 16 1 rfl rfl rfl rfl ?_
          exact g_iret hF (en_p H hE) (dAt tX11_whom_ok 17 rfl rfl) (by decide) (by decide)
def X11_person_f (a : Nat) (x1 x2 : Int32) (σ : Sig) : Option (Int32) := (X4_has_f ((a + 5) + 1) x1 σ).bind fun v1 => if v1 = 0 then (some (-2)) else ((X11_isWithin_f x2 7 9 σ).bind fun v4 => if v4 = 0 then ((X4_tellOf_f ((a + 5) + 1) x1 x2 σ).bind fun v7 => some v7) else ((X3_hoursOf_f ((a + 5) + 12) x1 (x2 - 7) σ).bind fun v9 => some v9))
set_option maxRecDepth 4000 in
set_option maxHeartbeats 1000000 in
theorem X11_person_ok {D : Nat} {τ : Tau} {nx : Nat} {a : Nat} {x1 x2 : Int32} {σ : Sig} {res : Int32} (hD : 3 ≤ D) (hS : ShX11 τ a) (H : X11_person_f a x1 x2 σ = some res) : Ok D 0 0 yX11_person cX11_person 3 (some .int) [.ref a, .int x1, .int x2] (τ, σ, nx) (some (.int res)) (τ, σ, nx) := by
  refine ok_of (by decide +kernel) rfl (Nat.le_of_ble_eq_true rfl) (fun K X hF hE hN L0 hL0 => ?_)
  obtain rfl : [some (.ref a), some (.int x1), some (.int x2)] = L0 := hL0
  have hF : Fx K X cX11_person 3 RX11 D 0 0 := hF
  refine g_p (S' := [.ref a]) hF tX11_person_ok 0 1 rfl rfl rfl rfl ?_
  refine g_getR hF (dAt tX11_person_ok 1 rfl rfl) flX11_19 hS.1 rfl ?_
  refine g_getR hF (dAt tX11_person_ok 2 rfl rfl) flX11_57 hS.2.1.1 rfl ?_
  refine g_p (S' := [.int x1, .ref ((a + 5) + 1)]) hF tX11_person_ok 3 1 rfl rfl rfl rfl ?_
  obtain ⟨v1, e2, H⟩ := ob H
  refine g_cV (S := []) hF (X4_has_ok (Nat.le_refl _) hS.2.1.2.1 e2 K) mbX4_has mvX4_has mlX11_74 (by omega) (by decide) (dAt tX11_person_ok 4 rfl rfl) hS.2.1.2.1.1 rfl rfl rfl (Nat.le_of_ble_eq_true rfl) rfl rfl (by decide) (by decide) rfl ?_
  obtain ⟨Ht3, Hf3⟩ := oi H
  refine g_if_ne hF (dAt tX11_person_ok 5 rfl rfl) rfl (fun c3 => ?_) (fun c3 => ?_)
  · have H := Hf3 c3
    refine g_p (S' := [.int 9, .int 7, .int x2]) hF tX11_person_ok 8 3 rfl rfl rfl rfl ?_
    obtain ⟨v4, e5, H⟩ := ob H
    refine g_cS (S := []) hF (X11_isWithin_ok (Nat.le_refl _)  e5 K) mbX11_isWithin msX11_isWithin mlX11_53 (by omega) (by decide) (dAt tX11_person_ok 11 rfl rfl) rfl rfl (Nat.le_of_ble_eq_true rfl) rfl rfl (by decide) (by decide) rfl ?_
    obtain ⟨Ht6, Hf6⟩ := oi H
    refine g_if_eq hF (dAt tX11_person_ok 12 rfl rfl) rfl (fun c6 => ?_) (fun c6 => ?_)
    · have H := Ht6 c6
      refine g_p (S' := [.ref a]) hF tX11_person_ok 22 1 rfl rfl rfl rfl ?_
      refine g_getR hF (dAt tX11_person_ok 23 rfl rfl) flX11_19 hS.1 rfl ?_
      refine g_getR hF (dAt tX11_person_ok 24 rfl rfl) flX11_57 hS.2.1.1 rfl ?_
      refine g_p (S' := [.int x2, .int x1, .ref ((a + 5) + 1)]) hF tX11_person_ok 25 2 rfl rfl rfl rfl ?_
      obtain ⟨v7, e8, H⟩ := ob H
      refine g_cV (S := []) hF (X4_tellOf_ok (Nat.le_refl _) hS.2.1.2.1 e8 K) mbX4_tellOf mvX4_tellOf mlX11_270 (by omega) (by decide) (dAt tX11_person_ok 27 rfl rfl) hS.2.1.2.1.1 rfl rfl rfl (Nat.le_of_ble_eq_true rfl) rfl rfl (by decide) (by decide) rfl ?_
      exact g_iret hF (en_i H hE) (dAt tX11_person_ok 28 rfl rfl) (by decide) (by decide)
    · have H := Hf6 c6
      refine g_p (S' := [.ref a]) hF tX11_person_ok 13 1 rfl rfl rfl rfl ?_
      refine g_getR hF (dAt tX11_person_ok 14 rfl rfl) flX11_19 hS.1 rfl ?_
      refine g_getR hF (dAt tX11_person_ok 15 rfl rfl) flX11_110 hS.2.1.1 rfl ?_
      refine g_p (S' := [.int (x2 - 7), .int x1, .ref ((a + 5) + 12)]) hF tX11_person_ok 16 4 rfl rfl rfl rfl ?_
      obtain ⟨v9, e10, H⟩ := ob H
      refine g_cV (S := []) hF (X3_hoursOf_ok (Nat.le_refl _) hS.2.1.2.2.1 e10 K) mbX3_hoursOf mvX3_hoursOf mlX11_267 (by omega) (by decide) (dAt tX11_person_ok 20 rfl rfl) hS.2.1.2.2.1.1 rfl rfl rfl (Nat.le_of_ble_eq_true rfl) rfl rfl (by decide) (by decide) rfl ?_
      exact g_iret hF (en_i H hE) (dAt tX11_person_ok 21 rfl rfl) (by decide) (by decide)
  · have H := Ht3 c3
    refine g_p (S' := [.int (-2)]) hF tX11_person_ok 6 1 rfl rfl rfl rfl ?_
    exact g_iret hF (en_i H hE) (dAt tX11_person_ok 7 rfl rfl) (by decide) (by decide)
def X11_book_f (a : Nat) (x1 x2 : Int32) (σ : Sig) : Option (Int32) := (X11_isWithin_f x1 0 ((σ ((a + 5) + 33) 2) - 1) σ).bind fun v1 => if v1 = 0 then (some (-1)) else ((X11_isWithin_f x2 0 4 σ).bind fun v4 => if v4 = 0 then (some (-1)) else ((ld 2000 (σ (((a + 5) + 33) + 1)) ((x1 * 5) + x2)).bind fun v7 => some v7))
set_option maxRecDepth 4000 in
set_option maxHeartbeats 1000000 in
theorem X11_book_ok {D : Nat} {τ : Tau} {nx : Nat} {a : Nat} {x1 x2 : Int32} {σ : Sig} {res : Int32} (hD : 2 ≤ D) (hS : ShX11 τ a) (H : X11_book_f a x1 x2 σ = some res) : Ok D 0 0 yX11_book cX11_book 3 (some .int) [.ref a, .int x1, .int x2] (τ, σ, nx) (some (.int res)) (τ, σ, nx) := by
  refine ok_of (by decide +kernel) rfl (Nat.le_of_ble_eq_true rfl) (fun K X hF hE hN L0 hL0 => ?_)
  obtain rfl : [some (.ref a), some (.int x1), some (.int x2)] = L0 := hL0
  have hF : Fx K X cX11_book 3 RX11 D 0 0 := hF
  refine g_p (S' := [.ref a, .int 0, .int x1]) hF tX11_book_ok 0 3 rfl rfl rfl rfl ?_
  refine g_getR hF (dAt tX11_book_ok 3 rfl rfl) flX11_19 hS.1 rfl ?_
  refine g_getR hF (dAt tX11_book_ok 4 rfl rfl) flX11_180 hS.2.1.1 rfl ?_
  refine g_getI hF (dAt tX11_book_ok 5 rfl rfl) flX11_271 hS.2.1.2.2.2.2.2.1.1 rfl ?_
  refine g_p (S' := [.int ((σ ((a + 5) + 33) 2) - 1), .int 0, .int x1]) hF tX11_book_ok 6 2 rfl rfl rfl rfl ?_
  obtain ⟨v1, e2, H⟩ := ob H
  refine g_cS (S := []) hF (X11_isWithin_ok (Nat.le_refl _)  e2 K) mbX11_isWithin msX11_isWithin mlX11_53 (by omega) (by decide) (dAt tX11_book_ok 8 rfl rfl) rfl rfl (Nat.le_of_ble_eq_true rfl) rfl rfl (by decide) (by decide) rfl ?_
  obtain ⟨Ht3, Hf3⟩ := oi H
  refine g_if_eq hF (dAt tX11_book_ok 9 rfl rfl) rfl (fun c3 => ?_) (fun c3 => ?_)
  · have H := Ht3 c3
    refine g_p (S' := [.int (-1)]) hF tX11_book_ok 15 1 rfl rfl rfl rfl ?_
    exact g_iret hF (en_i H hE) (dAt tX11_book_ok 16 rfl rfl) (by decide) (by decide)
  · have H := Hf3 c3
    refine g_p (S' := [.int 4, .int 0, .int x2]) hF tX11_book_ok 10 3 rfl rfl rfl rfl ?_
    obtain ⟨v4, e5, H⟩ := ob H
    refine g_cS (S := []) hF (X11_isWithin_ok (Nat.le_refl _)  e5 K) mbX11_isWithin msX11_isWithin mlX11_53 (by omega) (by decide) (dAt tX11_book_ok 13 rfl rfl) rfl rfl (Nat.le_of_ble_eq_true rfl) rfl rfl (by decide) (by decide) rfl ?_
    obtain ⟨Ht6, Hf6⟩ := oi H
    refine g_if_ne hF (dAt tX11_book_ok 14 rfl rfl) rfl (fun c6 => ?_) (fun c6 => ?_)
    · have H := Hf6 c6
      refine g_p (S' := [.ref a]) hF tX11_book_ok 17 1 rfl rfl rfl rfl ?_
      refine g_getR hF (dAt tX11_book_ok 18 rfl rfl) flX11_19 hS.1 rfl ?_
      refine g_getR hF (dAt tX11_book_ok 19 rfl rfl) flX11_180 hS.2.1.1 rfl ?_
      refine g_getR hF (dAt tX11_book_ok 20 rfl rfl) flX11_272 hS.2.1.2.2.2.2.2.1.1 rfl ?_
      refine g_p (S' := [.int ((x1 * 5) + x2), .ref (((a + 5) + 33) + 1)]) hF tX11_book_ok 21 5 rfl rfl rfl rfl ?_
      obtain ⟨v7, e8, H⟩ := ob H
      refine g_ild hF (dAt tX11_book_ok 26 rfl rfl) hS.2.1.2.2.2.2.2.1.2 e8 ?_
      exact g_iret hF (en_i H hE) (dAt tX11_book_ok 27 rfl rfl) (by decide) (by decide)
    · have H := Ht6 c6
      refine g_p (S' := [.int (-1)]) hF tX11_book_ok 15 1 rfl rfl rfl rfl ?_
      exact g_iret hF (en_i H hE) (dAt tX11_book_ok 16 rfl rfl) (by decide) (by decide)
def X11_look_f (a : Nat) (x1 : Int32) (σ : Sig) : Option (Int32) := if x1 = 0 then (some (σ ((a + 5) + 1) 0)) else if x1 = 1 then (some (σ ((a + 5) + 12) 0)) else if x1 = 2 then (some (σ ((a + 5) + 33) 2)) else if x1 = 3 then (some (σ ((a + 5) + 26) 1)) else if x1 = 4 then (some (σ ((a + 5) + 26) 2)) else if x1 = 5 then ((X2_countOf_f ((a + 5) + 33) 2000 (x1 - 5) σ).bind fun v2 => some v2) else if x1 = 6 then ((X2_countOf_f ((a + 5) + 33) 2000 (x1 - 5) σ).bind fun v4 => some v4) else if x1 = 7 then ((X2_countOf_f ((a + 5) + 33) 2000 (x1 - 5) σ).bind fun v6 => some v6) else if x1 = 8 then ((X2_countOf_f ((a + 5) + 33) 2000 (x1 - 5) σ).bind fun v8 => some v8) else if x1 = 9 then ((X3_doneCount_f ((a + 5) + 12) σ).bind fun v10 => some v10) else if x1 = 10 then ((X3_allHours_f ((a + 5) + 12) σ).bind fun v12 => some v12) else if x1 = 11 then (some (σ ((a + 5) + 27) 0)) else if x1 = 12 then (some (σ ((a + 5) + 26) 0)) else (some (-1))
set_option maxRecDepth 4000 in
set_option maxHeartbeats 1000000 in
theorem X11_look_ok {D : Nat} {τ : Tau} {nx : Nat} {a : Nat} {x1 : Int32} {σ : Sig} {res : Int32} (hD : 2 ≤ D) (hS : ShX11 τ a) (H : X11_look_f a x1 σ = some res) : Ok D 0 0 yX11_look cX11_look 2 (some .int) [.ref a, .int x1] (τ, σ, nx) (some (.int res)) (τ, σ, nx) := by
  refine ok_of (by decide +kernel) rfl (Nat.le_of_ble_eq_true rfl) (fun K X hF hE hN L0 hL0 => ?_)
  obtain rfl : [some (.ref a), some (.int x1)] = L0 := hL0
  have hF : Fx K X cX11_look 2 RX11 D 0 0 := hF
  refine g_p (S' := [.int x1]) hF tX11_look_ok 0 1 rfl rfl rfl rfl ?_
  obtain ⟨Ht1_0, Hf1_0⟩ := oi H
  by_cases c1_0 : x1 = 0
  · have H := Ht1_0 c1_0
    refine g_tsw (c := 0) hF (dAt tX11_look_ok 1 rfl rfl) c1_0 (by decide) (by decide) rfl rfl ?_
    refine g_p (S' := [.ref a]) hF tX11_look_ok 2 1 rfl rfl rfl rfl ?_
    refine g_getR hF (dAt tX11_look_ok 3 rfl rfl) flX11_19 hS.1 rfl ?_
    refine g_getR hF (dAt tX11_look_ok 4 rfl rfl) flX11_57 hS.2.1.1 rfl ?_
    refine g_getI hF (dAt tX11_look_ok 5 rfl rfl) flX11_61 hS.2.1.2.1.1 rfl ?_
    exact g_iret hF (en_i H hE) (dAt tX11_look_ok 6 rfl rfl) (by decide) (by decide)
  have H := Hf1_0 c1_0
  obtain ⟨Ht1_1, Hf1_1⟩ := oi H
  by_cases c1_1 : x1 = 1
  · have H := Ht1_1 c1_1
    refine g_tsw (c := 1) hF (dAt tX11_look_ok 1 rfl rfl) c1_1 (by decide) (by decide) rfl rfl ?_
    refine g_p (S' := [.ref a]) hF tX11_look_ok 7 1 rfl rfl rfl rfl ?_
    refine g_getR hF (dAt tX11_look_ok 8 rfl rfl) flX11_19 hS.1 rfl ?_
    refine g_getR hF (dAt tX11_look_ok 9 rfl rfl) flX11_110 hS.2.1.1 rfl ?_
    refine g_getI hF (dAt tX11_look_ok 10 rfl rfl) flX11_274 hS.2.1.2.2.1.1 rfl ?_
    exact g_iret hF (en_i H hE) (dAt tX11_look_ok 11 rfl rfl) (by decide) (by decide)
  have H := Hf1_1 c1_1
  obtain ⟨Ht1_2, Hf1_2⟩ := oi H
  by_cases c1_2 : x1 = 2
  · have H := Ht1_2 c1_2
    refine g_tsw (c := 2) hF (dAt tX11_look_ok 1 rfl rfl) c1_2 (by decide) (by decide) rfl rfl ?_
    refine g_p (S' := [.ref a]) hF tX11_look_ok 12 1 rfl rfl rfl rfl ?_
    refine g_getR hF (dAt tX11_look_ok 13 rfl rfl) flX11_19 hS.1 rfl ?_
    refine g_getR hF (dAt tX11_look_ok 14 rfl rfl) flX11_180 hS.2.1.1 rfl ?_
    refine g_getI hF (dAt tX11_look_ok 15 rfl rfl) flX11_271 hS.2.1.2.2.2.2.2.1.1 rfl ?_
    exact g_iret hF (en_i H hE) (dAt tX11_look_ok 16 rfl rfl) (by decide) (by decide)
  have H := Hf1_2 c1_2
  obtain ⟨Ht1_3, Hf1_3⟩ := oi H
  by_cases c1_3 : x1 = 3
  · have H := Ht1_3 c1_3
    refine g_tsw (c := 3) hF (dAt tX11_look_ok 1 rfl rfl) c1_3 (by decide) (by decide) rfl rfl ?_
    refine g_p (S' := [.ref a]) hF tX11_look_ok 17 1 rfl rfl rfl rfl ?_
    refine g_getR hF (dAt tX11_look_ok 18 rfl rfl) flX11_19 hS.1 rfl ?_
    refine g_getR hF (dAt tX11_look_ok 19 rfl rfl) flX11_43 hS.2.1.1 rfl ?_
    refine g_getI hF (dAt tX11_look_ok 20 rfl rfl) flX11_174 hS.2.1.2.2.2.2.1 rfl ?_
    exact g_iret hF (en_i H hE) (dAt tX11_look_ok 21 rfl rfl) (by decide) (by decide)
  have H := Hf1_3 c1_3
  obtain ⟨Ht1_4, Hf1_4⟩ := oi H
  by_cases c1_4 : x1 = 4
  · have H := Ht1_4 c1_4
    refine g_tsw (c := 4) hF (dAt tX11_look_ok 1 rfl rfl) c1_4 (by decide) (by decide) rfl rfl ?_
    refine g_p (S' := [.ref a]) hF tX11_look_ok 22 1 rfl rfl rfl rfl ?_
    refine g_getR hF (dAt tX11_look_ok 23 rfl rfl) flX11_19 hS.1 rfl ?_
    refine g_getR hF (dAt tX11_look_ok 24 rfl rfl) flX11_43 hS.2.1.1 rfl ?_
    refine g_getI hF (dAt tX11_look_ok 25 rfl rfl) flX11_177 hS.2.1.2.2.2.2.1 rfl ?_
    exact g_iret hF (en_i H hE) (dAt tX11_look_ok 26 rfl rfl) (by decide) (by decide)
  have H := Hf1_4 c1_4
  obtain ⟨Ht1_5, Hf1_5⟩ := oi H
  by_cases c1_5 : x1 = 5
  · have H := Ht1_5 c1_5
    refine g_tsw (c := 5) hF (dAt tX11_look_ok 1 rfl rfl) c1_5 (by decide) (by decide) rfl rfl ?_
    refine g_p (S' := [.ref a]) hF tX11_look_ok 27 1 rfl rfl rfl rfl ?_
    refine g_getR hF (dAt tX11_look_ok 28 rfl rfl) flX11_19 hS.1 rfl ?_
    refine g_getR hF (dAt tX11_look_ok 29 rfl rfl) flX11_180 hS.2.1.1 rfl ?_
    refine g_p (S' := [.int (x1 - 5), .ref ((a + 5) + 33)]) hF tX11_look_ok 30 3 rfl rfl rfl rfl ?_
    obtain ⟨v2, e3, H⟩ := ob H
    refine g_cV (S := []) hF (X2_countOf_ok (Nat.le_refl _) hS.2.1.2.2.2.2.2.1 e3 K) mbX2_countOf mvX2_countOf mlX11_264 (by omega) (by decide) (dAt tX11_look_ok 33 rfl rfl) hS.2.1.2.2.2.2.2.1.1 rfl rfl rfl (Nat.le_of_ble_eq_true rfl) rfl rfl (by decide) (by decide) rfl ?_
    exact g_iret hF (en_i H hE) (dAt tX11_look_ok 34 rfl rfl) (by decide) (by decide)
  have H := Hf1_5 c1_5
  obtain ⟨Ht1_6, Hf1_6⟩ := oi H
  by_cases c1_6 : x1 = 6
  · have H := Ht1_6 c1_6
    refine g_tsw (c := 6) hF (dAt tX11_look_ok 1 rfl rfl) c1_6 (by decide) (by decide) rfl rfl ?_
    refine g_p (S' := [.ref a]) hF tX11_look_ok 27 1 rfl rfl rfl rfl ?_
    refine g_getR hF (dAt tX11_look_ok 28 rfl rfl) flX11_19 hS.1 rfl ?_
    refine g_getR hF (dAt tX11_look_ok 29 rfl rfl) flX11_180 hS.2.1.1 rfl ?_
    refine g_p (S' := [.int (x1 - 5), .ref ((a + 5) + 33)]) hF tX11_look_ok 30 3 rfl rfl rfl rfl ?_
    obtain ⟨v4, e5, H⟩ := ob H
    refine g_cV (S := []) hF (X2_countOf_ok (Nat.le_refl _) hS.2.1.2.2.2.2.2.1 e5 K) mbX2_countOf mvX2_countOf mlX11_264 (by omega) (by decide) (dAt tX11_look_ok 33 rfl rfl) hS.2.1.2.2.2.2.2.1.1 rfl rfl rfl (Nat.le_of_ble_eq_true rfl) rfl rfl (by decide) (by decide) rfl ?_
    exact g_iret hF (en_i H hE) (dAt tX11_look_ok 34 rfl rfl) (by decide) (by decide)
  have H := Hf1_6 c1_6
  obtain ⟨Ht1_7, Hf1_7⟩ := oi H
  by_cases c1_7 : x1 = 7
  · have H := Ht1_7 c1_7
    refine g_tsw (c := 7) hF (dAt tX11_look_ok 1 rfl rfl) c1_7 (by decide) (by decide) rfl rfl ?_
    refine g_p (S' := [.ref a]) hF tX11_look_ok 27 1 rfl rfl rfl rfl ?_
    refine g_getR hF (dAt tX11_look_ok 28 rfl rfl) flX11_19 hS.1 rfl ?_
    refine g_getR hF (dAt tX11_look_ok 29 rfl rfl) flX11_180 hS.2.1.1 rfl ?_
    refine g_p (S' := [.int (x1 - 5), .ref ((a + 5) + 33)]) hF tX11_look_ok 30 3 rfl rfl rfl rfl ?_
    obtain ⟨v6, e7, H⟩ := ob H
    refine g_cV (S := []) hF (X2_countOf_ok (Nat.le_refl _) hS.2.1.2.2.2.2.2.1 e7 K) mbX2_countOf mvX2_countOf mlX11_264 (by omega) (by decide) (dAt tX11_look_ok 33 rfl rfl) hS.2.1.2.2.2.2.2.1.1 rfl rfl rfl (Nat.le_of_ble_eq_true rfl) rfl rfl (by decide) (by decide) rfl ?_
    exact g_iret hF (en_i H hE) (dAt tX11_look_ok 34 rfl rfl) (by decide) (by decide)
  have H := Hf1_7 c1_7
  obtain ⟨Ht1_8, Hf1_8⟩ := oi H
  by_cases c1_8 : x1 = 8
  · have H := Ht1_8 c1_8
    refine g_tsw (c := 8) hF (dAt tX11_look_ok 1 rfl rfl) c1_8 (by decide) (by decide) rfl rfl ?_
    refine g_p (S' := [.ref a]) hF tX11_look_ok 27 1 rfl rfl rfl rfl ?_
    refine g_getR hF (dAt tX11_look_ok 28 rfl rfl) flX11_19 hS.1 rfl ?_
    refine g_getR hF (dAt tX11_look_ok 29 rfl rfl) flX11_180 hS.2.1.1 rfl ?_
    refine g_p (S' := [.int (x1 - 5), .ref ((a + 5) + 33)]) hF tX11_look_ok 30 3 rfl rfl rfl rfl ?_
    obtain ⟨v8, e9, H⟩ := ob H
    refine g_cV (S := []) hF (X2_countOf_ok (Nat.le_refl _) hS.2.1.2.2.2.2.2.1 e9 K) mbX2_countOf mvX2_countOf mlX11_264 (by omega) (by decide) (dAt tX11_look_ok 33 rfl rfl) hS.2.1.2.2.2.2.2.1.1 rfl rfl rfl (Nat.le_of_ble_eq_true rfl) rfl rfl (by decide) (by decide) rfl ?_
    exact g_iret hF (en_i H hE) (dAt tX11_look_ok 34 rfl rfl) (by decide) (by decide)
  have H := Hf1_8 c1_8
  obtain ⟨Ht1_9, Hf1_9⟩ := oi H
  by_cases c1_9 : x1 = 9
  · have H := Ht1_9 c1_9
    refine g_tsw (c := 9) hF (dAt tX11_look_ok 1 rfl rfl) c1_9 (by decide) (by decide) rfl rfl ?_
    refine g_p (S' := [.ref a]) hF tX11_look_ok 35 1 rfl rfl rfl rfl ?_
    refine g_getR hF (dAt tX11_look_ok 36 rfl rfl) flX11_19 hS.1 rfl ?_
    refine g_getR hF (dAt tX11_look_ok 37 rfl rfl) flX11_110 hS.2.1.1 rfl ?_
    obtain ⟨v10, e11, H⟩ := ob H
    refine g_cV (S := []) hF (X3_doneCount_ok (Nat.le_refl _) hS.2.1.2.2.1 e11 K) mbX3_doneCount mvX3_doneCount mlX11_275 (by omega) (by decide) (dAt tX11_look_ok 38 rfl rfl) hS.2.1.2.2.1.1 rfl rfl rfl (Nat.le_of_ble_eq_true rfl) rfl rfl (by decide) (by decide) rfl ?_
    exact g_iret hF (en_i H hE) (dAt tX11_look_ok 39 rfl rfl) (by decide) (by decide)
  have H := Hf1_9 c1_9
  obtain ⟨Ht1_10, Hf1_10⟩ := oi H
  by_cases c1_10 : x1 = 10
  · have H := Ht1_10 c1_10
    refine g_tsw (c := 10) hF (dAt tX11_look_ok 1 rfl rfl) c1_10 (by decide) (by decide) rfl rfl ?_
    refine g_p (S' := [.ref a]) hF tX11_look_ok 40 1 rfl rfl rfl rfl ?_
    refine g_getR hF (dAt tX11_look_ok 41 rfl rfl) flX11_19 hS.1 rfl ?_
    refine g_getR hF (dAt tX11_look_ok 42 rfl rfl) flX11_110 hS.2.1.1 rfl ?_
    obtain ⟨v12, e13, H⟩ := ob H
    refine g_cV (S := []) hF (X3_allHours_ok (Nat.le_refl _) hS.2.1.2.2.1 e13 K) mbX3_allHours mvX3_allHours mlX11_278 (by omega) (by decide) (dAt tX11_look_ok 43 rfl rfl) hS.2.1.2.2.1.1 rfl rfl rfl (Nat.le_of_ble_eq_true rfl) rfl rfl (by decide) (by decide) rfl ?_
    exact g_iret hF (en_i H hE) (dAt tX11_look_ok 44 rfl rfl) (by decide) (by decide)
  have H := Hf1_10 c1_10
  obtain ⟨Ht1_11, Hf1_11⟩ := oi H
  by_cases c1_11 : x1 = 11
  · have H := Ht1_11 c1_11
    refine g_tsw (c := 11) hF (dAt tX11_look_ok 1 rfl rfl) c1_11 (by decide) (by decide) rfl rfl ?_
    refine g_p (S' := [.ref a]) hF tX11_look_ok 45 1 rfl rfl rfl rfl ?_
    refine g_getR hF (dAt tX11_look_ok 46 rfl rfl) flX11_19 hS.1 rfl ?_
    refine g_getR hF (dAt tX11_look_ok 47 rfl rfl) flX11_195 hS.2.1.1 rfl ?_
    refine g_getI hF (dAt tX11_look_ok 48 rfl rfl) flX11_281 hS.2.1.2.2.2.2.2.2.1.1 rfl ?_
    exact g_iret hF (en_i H hE) (dAt tX11_look_ok 49 rfl rfl) (by decide) (by decide)
  have H := Hf1_11 c1_11
  obtain ⟨Ht1_12, Hf1_12⟩ := oi H
  by_cases c1_12 : x1 = 12
  · have H := Ht1_12 c1_12
    refine g_tsw (c := 12) hF (dAt tX11_look_ok 1 rfl rfl) c1_12 (by decide) (by decide) rfl rfl ?_
    refine g_p (S' := [.ref a]) hF tX11_look_ok 50 1 rfl rfl rfl rfl ?_
    refine g_getR hF (dAt tX11_look_ok 51 rfl rfl) flX11_19 hS.1 rfl ?_
    refine g_getR hF (dAt tX11_look_ok 52 rfl rfl) flX11_43 hS.2.1.1 rfl ?_
    refine g_getI hF (dAt tX11_look_ok 53 rfl rfl) flX11_47 hS.2.1.2.2.2.2.1 rfl ?_
    exact g_iret hF (en_i H hE) (dAt tX11_look_ok 54 rfl rfl) (by decide) (by decide)
  have H := Hf1_12 c1_12
  refine g_tswD hF (dAt tX11_look_ok 1 rfl rfl) (tsw_l 0 12 13 [0, 1, 2, 3, 4, 5, 6, 7, 8, 9, 10, 11, 12] (al1 c1_0 (al1 c1_1 (al1 c1_2 (al1 c1_3 (al1 c1_4 (al1 c1_5 (al1 c1_6 (al1 c1_7 (al1 c1_8 (al1 c1_9 (al1 c1_10 (al1 c1_11 (al1 c1_12 al0))))))))))))) (by decide) (by decide)) rfl ?_
  refine g_p (S' := [.int (-1)]) hF tX11_look_ok 55 1 rfl rfl rfl rfl ?_
  exact g_iret hF (en_i H hE) (dAt tX11_look_ok 56 rfl rfl) (by decide) (by decide)

/-! The class: what makes cells. -/
noncomputable def X11_lend_f (τ : Tau) (σ : Sig) (nx : Nat) (a : Nat) (x1 x2 x3 : Int32) : Option (Int32 × Hp) := (gRs τ 11 a 0).bind fun b1 => (gRs τ 10 b1 5).bind fun b3 => (gRs τ 11 a 0).bind fun b5 => (gRs τ 10 b5 1).bind fun b7 => (gRs τ 11 a 0).bind fun b9 => (gRs τ 10 b9 0).bind fun b11 => chk (∃ rs, τ b3 = some (.inl (1, rs))) ((X1_lendOn_f τ σ nx b3 b7 b11 x1 x2 x3).bind fun ⟨v14, t15, s16, n17⟩ => if v14 = 0 ∨ v14 = 1 then some (v14, (t15, s16, n17)) else none)
set_option maxRecDepth 4000 in
set_option maxHeartbeats 1000000 in
theorem X11_lend_ok {D : Nat} {τ : Tau} {σ : Sig} {nx : Nat} {a : Nat} {x1 x2 x3 : Int32} {res : Int32} {rh : Hp} (hD : 4 ≤ D) (H : X11_lend_f τ σ nx a x1 x2 x3 = some (res, rh)) : Ok D 2 246 yX11_lend cX11_lend 4 (some .boolean) [.ref a, .int x1, .int x2, .int x3] (τ, σ, nx) (some (.int res)) rh := by
  refine ok_of (by decide +kernel) rfl (Nat.le_of_ble_eq_true rfl) (fun K X hF hE hN L0 hL0 => ?_)
  obtain rfl : [some (.ref a), some (.int x1), some (.int x2), some (.int x3)] = L0 := hL0
  have hF : Fx K X cX11_lend 4 RX11 D 2 246 := hF
  refine g_p (S' := [.ref a]) hF tX11_lend_ok 0 1 rfl rfl rfl rfl ?_
  obtain ⟨b1, e2, H⟩ := ob H
  refine g_dgR hF (dAt tX11_lend_ok 1 rfl rfl) flX11_19 e2 ?_
  obtain ⟨b3, e4, H⟩ := ob H
  refine g_dgR hF (dAt tX11_lend_ok 2 rfl rfl) flX11_195 e4 ?_
  refine g_p (S' := [.ref a, .ref b3]) hF tX11_lend_ok 3 1 rfl rfl rfl rfl ?_
  obtain ⟨b5, e6, H⟩ := ob H
  refine g_dgR hF (dAt tX11_lend_ok 4 rfl rfl) flX11_19 e6 ?_
  obtain ⟨b7, e8, H⟩ := ob H
  refine g_dgR hF (dAt tX11_lend_ok 5 rfl rfl) flX11_110 e8 ?_
  refine g_p (S' := [.ref a, .ref b7, .ref b3]) hF tX11_lend_ok 6 1 rfl rfl rfl rfl ?_
  obtain ⟨b9, e10, H⟩ := ob H
  refine g_dgR hF (dAt tX11_lend_ok 7 rfl rfl) flX11_19 e10 ?_
  obtain ⟨b11, e12, H⟩ := ob H
  refine g_dgR hF (dAt tX11_lend_ok 8 rfl rfl) flX11_57 e12 ?_
  refine g_p (S' := [.int x3, .int x2, .int x1, .ref b11, .ref b7, .ref b3]) hF tX11_lend_ok 9 3 rfl rfl rfl rfl ?_
  obtain ⟨hc13, H⟩ := oc H
  obtain ⟨⟨v14, t15, s16, n17⟩, e18, H⟩ := ob H
  refine g_cV (S := []) hF (X1_lendOn_ok (Nat.le_refl _) e18 K) mbX1_lendOn mvX1_lendOn mlX11_199 (by omega) (by decide) (dAt tX11_lend_ok 12 rfl rfl) hc13.choose_spec rfl rfl rfl (Nat.le_of_ble_eq_true rfl) rfl rfl (by decide) (by decide) rfl ?_
  obtain ⟨hb, H⟩ := oy H
  exact g_zret hF (en_ph H hE) hb (dAt tX11_lend_ok 13 rfl rfl) (by decide) (by decide)
noncomputable def X11_split_f (τ : Tau) (σ : Sig) (nx : Nat) (a : Nat) (x1 x2 : Int32) : Option (Int32 × Hp) := (gRs τ 11 a 0).bind fun b1 => (gRs τ 10 b1 5).bind fun b3 => (gRs τ 11 a 0).bind fun b5 => (gRs τ 10 b5 1).bind fun b7 => chk (∃ rs, τ b3 = some (.inl (1, rs))) ((X1_splitOff_f τ σ nx b3 b7 x1 x2).bind fun ⟨v10, t11, s12, n13⟩ => some (v10, (t11, s12, n13)))
set_option maxRecDepth 4000 in
set_option maxHeartbeats 1000000 in
theorem X11_split_ok {D : Nat} {τ : Tau} {σ : Sig} {nx : Nat} {a : Nat} {x1 x2 : Int32} {res : Int32} {rh : Hp} (hD : 4 ≤ D) (H : X11_split_f τ σ nx a x1 x2 = some (res, rh)) : Ok D 2 246 yX11_split cX11_split 3 (some .int) [.ref a, .int x1, .int x2] (τ, σ, nx) (some (.int res)) rh := by
  refine ok_of (by decide +kernel) rfl (Nat.le_of_ble_eq_true rfl) (fun K X hF hE hN L0 hL0 => ?_)
  obtain rfl : [some (.ref a), some (.int x1), some (.int x2)] = L0 := hL0
  have hF : Fx K X cX11_split 3 RX11 D 2 246 := hF
  refine g_p (S' := [.ref a]) hF tX11_split_ok 0 1 rfl rfl rfl rfl ?_
  obtain ⟨b1, e2, H⟩ := ob H
  refine g_dgR hF (dAt tX11_split_ok 1 rfl rfl) flX11_19 e2 ?_
  obtain ⟨b3, e4, H⟩ := ob H
  refine g_dgR hF (dAt tX11_split_ok 2 rfl rfl) flX11_195 e4 ?_
  refine g_p (S' := [.ref a, .ref b3]) hF tX11_split_ok 3 1 rfl rfl rfl rfl ?_
  obtain ⟨b5, e6, H⟩ := ob H
  refine g_dgR hF (dAt tX11_split_ok 4 rfl rfl) flX11_19 e6 ?_
  obtain ⟨b7, e8, H⟩ := ob H
  refine g_dgR hF (dAt tX11_split_ok 5 rfl rfl) flX11_110 e8 ?_
  refine g_p (S' := [.int x2, .int x1, .ref b7, .ref b3]) hF tX11_split_ok 6 2 rfl rfl rfl rfl ?_
  obtain ⟨hc9, H⟩ := oc H
  obtain ⟨⟨v10, t11, s12, n13⟩, e14, H⟩ := ob H
  refine g_cV (S := []) hF (X1_splitOff_ok (Nat.le_refl _) e14 K) mbX1_splitOff mvX1_splitOff mlX11_205 (by omega) (by decide) (dAt tX11_split_ok 8 rfl rfl) hc9.choose_spec rfl rfl rfl (Nat.le_of_ble_eq_true rfl) rfl rfl (by decide) (by decide) rfl ?_
  exact g_iret hF (en_ph H hE) (dAt tX11_split_ok 9 rfl rfl) (by decide) (by decide)
noncomputable def X11_inherit_f (τ : Tau) (σ : Sig) (nx : Nat) (a : Nat) (x1 x2 : Int32) : Option (Int32 × Hp) := (gRs τ 11 a 0).bind fun b1 => (gRs τ 10 b1 0).bind fun b3 => chk (ShX4 τ b3) ((X4_has_f b3 x1 σ).bind fun v6 => if v6 = 0 then (some ((-1), (τ, σ, nx))) else ((gRs τ 11 a 0).bind fun b9 => (gRs τ 10 b9 0).bind fun b11 => chk (ShX4 τ b11) ((X4_has_f b11 x2 σ).bind fun v14 => if v14 = 0 then (some ((-1), (τ, σ, nx))) else (if x1 = x2 then (some ((-1), (τ, σ, nx))) else ((gRs τ 11 a 0).bind fun b18 => (gRs τ 10 b18 5).bind fun b20 => (gRs τ 11 a 0).bind fun b22 => (gRs τ 10 b22 1).bind fun b24 => chk (∃ rs, τ b20 = some (.inl (1, rs))) ((X1_handDown_f τ σ nx b20 b24 x1 x2).bind fun ⟨v27, t28, s29, n30⟩ => some (v27, (t28, s29, n30))))))))
set_option maxRecDepth 4000 in
set_option maxHeartbeats 1000000 in
theorem X11_inherit_ok {D : Nat} {τ : Tau} {σ : Sig} {nx : Nat} {a : Nat} {x1 x2 : Int32} {res : Int32} {rh : Hp} (hD : 6 ≤ D) (H : X11_inherit_f τ σ nx a x1 x2 = some (res, rh)) : Ok D 2 246 yX11_inherit cX11_inherit 3 (some .int) [.ref a, .int x1, .int x2] (τ, σ, nx) (some (.int res)) rh := by
  refine ok_of (by decide +kernel) rfl (Nat.le_of_ble_eq_true rfl) (fun K X hF hE hN L0 hL0 => ?_)
  obtain rfl : [some (.ref a), some (.int x1), some (.int x2)] = L0 := hL0
  have hF : Fx K X cX11_inherit 3 RX11 D 2 246 := hF
  refine g_p (S' := [.ref a]) hF tX11_inherit_ok 0 1 rfl rfl rfl rfl ?_
  obtain ⟨b1, e2, H⟩ := ob H
  refine g_dgR hF (dAt tX11_inherit_ok 1 rfl rfl) flX11_19 e2 ?_
  obtain ⟨b3, e4, H⟩ := ob H
  refine g_dgR hF (dAt tX11_inherit_ok 2 rfl rfl) flX11_57 e4 ?_
  refine g_p (S' := [.int x1, .ref b3]) hF tX11_inherit_ok 3 1 rfl rfl rfl rfl ?_
  obtain ⟨hc5, H⟩ := oc H
  obtain ⟨v6, e7, H⟩ := ob H
  refine g_cV (S := []) hF (X4_has_ok (Nat.le_refl _) hc5 e7 K) mbX4_has mvX4_has mlX11_74 (by omega) (by decide) (dAt tX11_inherit_ok 4 rfl rfl) hc5.1 rfl rfl rfl (Nat.le_of_ble_eq_true rfl) rfl rfl (by decide) (by decide) rfl ?_
  obtain ⟨Ht8, Hf8⟩ := oi H
  refine g_if_eq hF (dAt tX11_inherit_ok 5 rfl rfl) rfl (fun c8 => ?_) (fun c8 => ?_)
  · have H := Ht8 c8
    refine g_p (S' := [.int (-1)]) hF tX11_inherit_ok 15 1 rfl rfl rfl rfl ?_
    exact g_iret hF (en_ph H hE) (dAt tX11_inherit_ok 16 rfl rfl) (by decide) (by decide)
  · have H := Hf8 c8
    refine g_p (S' := [.ref a]) hF tX11_inherit_ok 6 1 rfl rfl rfl rfl ?_
    obtain ⟨b9, e10, H⟩ := ob H
    refine g_dgR hF (dAt tX11_inherit_ok 7 rfl rfl) flX11_19 e10 ?_
    obtain ⟨b11, e12, H⟩ := ob H
    refine g_dgR hF (dAt tX11_inherit_ok 8 rfl rfl) flX11_57 e12 ?_
    refine g_p (S' := [.int x2, .ref b11]) hF tX11_inherit_ok 9 1 rfl rfl rfl rfl ?_
    obtain ⟨hc13, H⟩ := oc H
    obtain ⟨v14, e15, H⟩ := ob H
    refine g_cV (S := []) hF (X4_has_ok (Nat.le_refl _) hc13 e15 K) mbX4_has mvX4_has mlX11_74 (by omega) (by decide) (dAt tX11_inherit_ok 10 rfl rfl) hc13.1 rfl rfl rfl (Nat.le_of_ble_eq_true rfl) rfl rfl (by decide) (by decide) rfl ?_
    obtain ⟨Ht16, Hf16⟩ := oi H
    refine g_if_eq hF (dAt tX11_inherit_ok 11 rfl rfl) rfl (fun c16 => ?_) (fun c16 => ?_)
    · have H := Ht16 c16
      refine g_p (S' := [.int (-1)]) hF tX11_inherit_ok 15 1 rfl rfl rfl rfl ?_
      exact g_iret hF (en_ph H hE) (dAt tX11_inherit_ok 16 rfl rfl) (by decide) (by decide)
    · have H := Hf16 c16
      refine g_p (S' := [.int x2, .int x1]) hF tX11_inherit_ok 12 2 rfl rfl rfl rfl ?_
      obtain ⟨Ht17, Hf17⟩ := oi H
      refine g_icmp_ne hF (dAt tX11_inherit_ok 14 rfl rfl) rfl (fun c17 => ?_) (fun c17 => ?_)
      · have H := Hf17 c17
        refine g_p (S' := [.ref a]) hF tX11_inherit_ok 17 1 rfl rfl rfl rfl ?_
        obtain ⟨b18, e19, H⟩ := ob H
        refine g_dgR hF (dAt tX11_inherit_ok 18 rfl rfl) flX11_19 e19 ?_
        obtain ⟨b20, e21, H⟩ := ob H
        refine g_dgR hF (dAt tX11_inherit_ok 19 rfl rfl) flX11_195 e21 ?_
        refine g_p (S' := [.ref a, .ref b20]) hF tX11_inherit_ok 20 1 rfl rfl rfl rfl ?_
        obtain ⟨b22, e23, H⟩ := ob H
        refine g_dgR hF (dAt tX11_inherit_ok 21 rfl rfl) flX11_19 e23 ?_
        obtain ⟨b24, e25, H⟩ := ob H
        refine g_dgR hF (dAt tX11_inherit_ok 22 rfl rfl) flX11_110 e25 ?_
        refine g_p (S' := [.int x2, .int x1, .ref b24, .ref b20]) hF tX11_inherit_ok 23 2 rfl rfl rfl rfl ?_
        obtain ⟨hc26, H⟩ := oc H
        obtain ⟨⟨v27, t28, s29, n30⟩, e31, H⟩ := ob H
        refine g_cV (S := []) hF (X1_handDown_ok (Nat.le_refl _) e31 K) mbX1_handDown mvX1_handDown mlX11_209 (by omega) (by decide) (dAt tX11_inherit_ok 25 rfl rfl) hc26.choose_spec rfl rfl rfl (Nat.le_of_ble_eq_true rfl) rfl rfl (by decide) (by decide) rfl ?_
        exact g_iret hF (en_ph H hE) (dAt tX11_inherit_ok 26 rfl rfl) (by decide) (by decide)
      · have H := Ht17 c17
        refine g_p (S' := [.int (-1)]) hF tX11_inherit_ok 15 1 rfl rfl rfl rfl ?_
        exact g_iret hF (en_ph H hE) (dAt tX11_inherit_ok 16 rfl rfl) (by decide) (by decide)
noncomputable def X11_sell_f (τ : Tau) (σ : Sig) (nx : Nat) (a : Nat) (x1 x2 x3 : Int32) : Option (Int32 × Hp) := (gRs τ 11 a 0).bind fun b1 => (gRs τ 10 b1 5).bind fun b3 => (gRs τ 11 a 0).bind fun b5 => (gRs τ 10 b5 1).bind fun b7 => (gRs τ 11 a 0).bind fun b9 => (gRs τ 10 b9 0).bind fun b11 => chk (∃ rs, τ b3 = some (.inl (1, rs))) ((X1_sellOn_f τ σ nx b3 b7 b11 x1 x2 x3).bind fun ⟨v14, t15, s16, n17⟩ => if v14 = 0 ∨ v14 = 1 then some (v14, (t15, s16, n17)) else none)
set_option maxRecDepth 4000 in
set_option maxHeartbeats 1000000 in
theorem X11_sell_ok {D : Nat} {τ : Tau} {σ : Sig} {nx : Nat} {a : Nat} {x1 x2 x3 : Int32} {res : Int32} {rh : Hp} (hD : 4 ≤ D) (H : X11_sell_f τ σ nx a x1 x2 x3 = some (res, rh)) : Ok D 2 246 yX11_sell cX11_sell 4 (some .boolean) [.ref a, .int x1, .int x2, .int x3] (τ, σ, nx) (some (.int res)) rh := by
  refine ok_of (by decide +kernel) rfl (Nat.le_of_ble_eq_true rfl) (fun K X hF hE hN L0 hL0 => ?_)
  obtain rfl : [some (.ref a), some (.int x1), some (.int x2), some (.int x3)] = L0 := hL0
  have hF : Fx K X cX11_sell 4 RX11 D 2 246 := hF
  refine g_p (S' := [.ref a]) hF tX11_sell_ok 0 1 rfl rfl rfl rfl ?_
  obtain ⟨b1, e2, H⟩ := ob H
  refine g_dgR hF (dAt tX11_sell_ok 1 rfl rfl) flX11_19 e2 ?_
  obtain ⟨b3, e4, H⟩ := ob H
  refine g_dgR hF (dAt tX11_sell_ok 2 rfl rfl) flX11_195 e4 ?_
  refine g_p (S' := [.ref a, .ref b3]) hF tX11_sell_ok 3 1 rfl rfl rfl rfl ?_
  obtain ⟨b5, e6, H⟩ := ob H
  refine g_dgR hF (dAt tX11_sell_ok 4 rfl rfl) flX11_19 e6 ?_
  obtain ⟨b7, e8, H⟩ := ob H
  refine g_dgR hF (dAt tX11_sell_ok 5 rfl rfl) flX11_110 e8 ?_
  refine g_p (S' := [.ref a, .ref b7, .ref b3]) hF tX11_sell_ok 6 1 rfl rfl rfl rfl ?_
  obtain ⟨b9, e10, H⟩ := ob H
  refine g_dgR hF (dAt tX11_sell_ok 7 rfl rfl) flX11_19 e10 ?_
  obtain ⟨b11, e12, H⟩ := ob H
  refine g_dgR hF (dAt tX11_sell_ok 8 rfl rfl) flX11_57 e12 ?_
  refine g_p (S' := [.int x3, .int x2, .int x1, .ref b11, .ref b7, .ref b3]) hF tX11_sell_ok 9 3 rfl rfl rfl rfl ?_
  obtain ⟨hc13, H⟩ := oc H
  obtain ⟨⟨v14, t15, s16, n17⟩, e18, H⟩ := ob H
  refine g_cV (S := []) hF (X1_sellOn_ok (Nat.le_refl _) e18 K) mbX1_sellOn mvX1_sellOn mlX11_212 (by omega) (by decide) (dAt tX11_sell_ok 12 rfl rfl) hc13.choose_spec rfl rfl rfl (Nat.le_of_ble_eq_true rfl) rfl rfl (by decide) (by decide) rfl ?_
  obtain ⟨hb, H⟩ := oy H
  exact g_zret hF (en_ph H hE) hb (dAt tX11_sell_ok 13 rfl rfl) (by decide) (by decide)
noncomputable def X11_undo_f (τ : Tau) (σ : Sig) (nx : Nat) (a : Nat) : Option (Int32 × Hp) := (gRs τ 11 a 0).bind fun b1 => (gRs τ 10 b1 5).bind fun b3 => (gRs τ 11 a 0).bind fun b5 => (gRs τ 10 b5 1).bind fun b7 => (gRs τ 11 a 0).bind fun b9 => (gRs τ 10 b9 0).bind fun b11 => chk (∃ rs, τ b3 = some (.inl (1, rs))) ((X1_goBack_f τ σ nx b3 b7 b11).bind fun ⟨v14, t15, s16, n17⟩ => if v14 = 0 ∨ v14 = 1 then some (v14, (t15, s16, n17)) else none)
set_option maxRecDepth 4000 in
set_option maxHeartbeats 1000000 in
theorem X11_undo_ok {D : Nat} {τ : Tau} {σ : Sig} {nx : Nat} {a : Nat} {res : Int32} {rh : Hp} (hD : 5 ≤ D) (H : X11_undo_f τ σ nx a = some (res, rh)) : Ok D 0 0 yX11_undo cX11_undo 1 (some .boolean) [.ref a] (τ, σ, nx) (some (.int res)) rh := by
  refine ok_of (by decide +kernel) rfl (Nat.le_of_ble_eq_true rfl) (fun K X hF hE hN L0 hL0 => ?_)
  obtain rfl : [some (.ref a)] = L0 := hL0
  have hF : Fx K X cX11_undo 1 RX11 D 0 0 := hF
  refine g_p (S' := [.ref a]) hF tX11_undo_ok 0 1 rfl rfl rfl rfl ?_
  obtain ⟨b1, e2, H⟩ := ob H
  refine g_dgR hF (dAt tX11_undo_ok 1 rfl rfl) flX11_19 e2 ?_
  obtain ⟨b3, e4, H⟩ := ob H
  refine g_dgR hF (dAt tX11_undo_ok 2 rfl rfl) flX11_195 e4 ?_
  refine g_p (S' := [.ref a, .ref b3]) hF tX11_undo_ok 3 1 rfl rfl rfl rfl ?_
  obtain ⟨b5, e6, H⟩ := ob H
  refine g_dgR hF (dAt tX11_undo_ok 4 rfl rfl) flX11_19 e6 ?_
  obtain ⟨b7, e8, H⟩ := ob H
  refine g_dgR hF (dAt tX11_undo_ok 5 rfl rfl) flX11_110 e8 ?_
  refine g_p (S' := [.ref a, .ref b7, .ref b3]) hF tX11_undo_ok 6 1 rfl rfl rfl rfl ?_
  obtain ⟨b9, e10, H⟩ := ob H
  refine g_dgR hF (dAt tX11_undo_ok 7 rfl rfl) flX11_19 e10 ?_
  obtain ⟨b11, e12, H⟩ := ob H
  refine g_dgR hF (dAt tX11_undo_ok 8 rfl rfl) flX11_57 e12 ?_
  obtain ⟨hc13, H⟩ := oc H
  obtain ⟨⟨v14, t15, s16, n17⟩, e18, H⟩ := ob H
  refine g_cV (S := []) hF (X1_goBack_ok (Nat.le_refl _) e18 K) mbX1_goBack mvX1_goBack mlX11_215 (by omega) (by decide) (dAt tX11_undo_ok 9 rfl rfl) hc13.choose_spec rfl rfl rfl (Nat.le_of_ble_eq_true rfl) rfl rfl (by decide) (by decide) rfl ?_
  obtain ⟨hb, H⟩ := oy H
  exact g_zret hF (en_ph H hE) hb (dAt tX11_undo_ok 10 rfl rfl) (by decide) (by decide)
noncomputable def X11_think_b24 (a : Nat) : Nat → Int32 → Int32 → Tau → Sig → Nat → Option (Hp)
  | 0, _, _, _, _, _ => none
  | fu + 1, x1, x3, τ, σ, nx => if (x1 * 96) ≤ x3 then (some (τ, σ, nx)) else ((gRs τ 11 a 1).bind fun b2 => chk (ShX10 τ b2 (tl τ (b2 + 33) 1)) ((X10_pass_f τ b2 (tl τ (b2 + 33) 1) σ).bind fun s5 => X11_think_b24 a fu x1 (x3 + 1) τ s5 nx))
set_option maxRecDepth 4000 in
set_option maxHeartbeats 1000000 in
theorem X11_think_b24_ok {K : Kt} {X : Cx} {D : Nat} {a : Nat} {rh : Hp} (hD : 7 ≤ D) (hF : Fx K X cX11_think 4 RX11 D 0 0) (hE : En K X none 0 0 none rh) : ∀ (fu : Nat) (x1 : Int32) (x3 : Int32) (τ : Tau) (σ : Sig) (nx : Nat), X11_think_b24 a fu x1 x3 τ σ nx = some rh → G K X 4 0 0 24 [some (.ref a), some (.int x1), none, some (.int x3)] [] (τ, σ, nx)
  | 0, _, _, _, _, _, H => nomatch H
  | fu + 1, x1, x3, τ, σ, nx, H => by
    refine g_p (S' := [.int (x1 * 96), .int x3]) hF tX11_think_ok 12 4 rfl rfl rfl rfl ?_
    obtain ⟨Ht1, Hf1⟩ := oi H
    refine g_icmp_ge hF (dAt tX11_think_ok 16 rfl rfl) rfl (fun c1 => ?_) (fun c1 => ?_)
    · have H := Ht1 c1
      exact g_vret hF (en_vh H hE) (dAt tX11_think_ok 22 rfl rfl) (by decide) (by decide)
    · have H := Hf1 c1
      refine g_p (S' := [.ref a]) hF tX11_think_ok 17 1 rfl rfl rfl rfl ?_
      obtain ⟨b2, e3, H⟩ := ob H
      refine g_dgR hF (dAt tX11_think_ok 18 rfl rfl) flX11_23 e3 ?_
      obtain ⟨hc4, H⟩ := oc H
      obtain ⟨s5, e6, H⟩ := ob H
      refine g_cV (S := []) hF (X10_pass_ok (Nat.le_refl _) hc4 e6 K) mbX10_pass mvX10_pass mlX11_189 (by omega) (by decide) (dAt tX11_think_ok 19 rfl rfl) hc4.1 rfl rfl rfl (Nat.le_of_ble_eq_true rfl) rfl rfl (by decide) (by decide) rfl ?_
      refine g_p (L' := [some (.ref a), some (.int x1), none, some (.int (x3 + 1))]) (S' := []) hF tX11_think_ok 20 1 rfl rfl rfl rfl ?_
      refine g_goto hF (dAt tX11_think_ok 21 rfl rfl) rfl ?_
      exact X11_think_b24_ok hD hF hE fu _ _ _ _ _ H
noncomputable def X11_think_f (τ : Tau) (σ : Sig) (nx : Nat) (a : Nat) (x1 x2 : Int32) : Option (Hp) := (gRs τ 11 a 1).bind fun b1 => (gRs τ 11 a 0).bind fun b3 => chk (∃ rs, τ b1 = some (.inl (10, rs))) ((X10_copyFrom_f τ σ nx b1 b3).bind fun ⟨t6, s7, n8⟩ => (gRs t6 11 a 1).bind fun b10 => (gRs t6 10 b10 2).bind fun b12 => (dI t6 s7 9 b12 6 x2).bind fun s14 => X11_think_b24 a FU x1 0 t6 s14 n8)
set_option maxRecDepth 4000 in
set_option maxHeartbeats 1000000 in
theorem X11_think_ok {D : Nat} {τ : Tau} {σ : Sig} {nx : Nat} {a : Nat} {x1 x2 : Int32} {rh : Hp} (hD : 7 ≤ D) (H : X11_think_f τ σ nx a x1 x2 = some rh) : Ok D 0 0 yX11_think cX11_think 4 none [.ref a, .int x1, .int x2] (τ, σ, nx) none rh := by
  refine ok_of (by decide +kernel) rfl (Nat.le_of_ble_eq_true rfl) (fun K X hF hE hN L0 hL0 => ?_)
  obtain rfl : [some (.ref a), some (.int x1), some (.int x2), none] = L0 := hL0
  have hF : Fx K X cX11_think 4 RX11 D 0 0 := hF
  refine g_p (S' := [.ref a]) hF tX11_think_ok 0 1 rfl rfl rfl rfl ?_
  obtain ⟨b1, e2, H⟩ := ob H
  refine g_dgR hF (dAt tX11_think_ok 1 rfl rfl) flX11_23 e2 ?_
  refine g_p (S' := [.ref a, .ref b1]) hF tX11_think_ok 2 1 rfl rfl rfl rfl ?_
  obtain ⟨b3, e4, H⟩ := ob H
  refine g_dgR hF (dAt tX11_think_ok 3 rfl rfl) flX11_19 e4 ?_
  obtain ⟨hc5, H⟩ := oc H
  obtain ⟨⟨t6, s7, n8⟩, e9, H⟩ := ob H
  refine g_cV (S := []) hF (X10_copyFrom_ok (Nat.le_refl _) e9 K) mbX10_copyFrom mvX10_copyFrom mlX11_240 (by omega) (by decide) (dAt tX11_think_ok 4 rfl rfl) hc5.choose_spec rfl rfl rfl (Nat.le_of_ble_eq_true rfl) rfl rfl (by decide) (by decide) rfl ?_
  refine g_p (S' := [.ref a]) hF tX11_think_ok 5 1 rfl rfl rfl rfl ?_
  obtain ⟨b10, e11, H⟩ := ob H
  refine g_dgR hF (dAt tX11_think_ok 6 rfl rfl) flX11_23 e11 ?_
  obtain ⟨b12, e13, H⟩ := ob H
  refine g_dgR hF (dAt tX11_think_ok 7 rfl rfl) flX11_89 e13 ?_
  refine g_p (S' := [.int x2, .ref b12]) hF tX11_think_ok 8 1 rfl rfl rfl rfl ?_
  obtain ⟨s14, e15, H⟩ := ob H
  refine g_dpI hF (dAt tX11_think_ok 9 rfl rfl) flX11_282 (Or.inl rfl) e15 ?_
  refine g_p (L' := [some (.ref a), some (.int x1), some (.int x2), some (.int 0)]) (S' := []) hF tX11_think_ok 10 2 rfl rfl rfl rfl ?_
  refine g_m [true, true, false, true] rfl ?_
  exact X11_think_b24_ok hD hF hE FU _ _ _ _ _ H
noncomputable def X11_thought_f (τ : Tau) (σ : Sig) (nx : Nat) (a : Nat) (x1 x2 x3 : Int32) : Option (Int32 × Hp) := (X11_isWithin_f x1 1 30 σ).bind fun v1 => if v1 = 0 then (some ((-1), (τ, σ, nx))) else (if x2 = (-1) then (chk (∃ rs, τ a = some (.inl (11, rs))) ((X11_think_f τ σ nx a x1 0).bind fun ⟨t31, s32, n33⟩ => (gRs t31 11 a 1).bind fun b35 => (gRs t31 10 b35 4).bind fun b37 => (gI t31 s32 2 b37 3).bind fun v39 => (gRs t31 11 a 1).bind fun b41 => (gRs t31 10 b41 4).bind fun b43 => (gI t31 s32 2 b43 4).bind fun v45 => chk (∃ rs, t31 a = some (.inl (11, rs))) ((X11_think_f t31 s32 n33 a x1 1).bind fun ⟨t48, s49, n50⟩ => (gRs t48 11 a 1).bind fun b52 => (gRs t48 10 b52 4).bind fun b54 => chk (ShX2 t48 b54 (tl t48 b54 1)) ((X2_isBetterThan_f b54 (tl t48 b54 1) v39 v45 s49).bind fun v57 => if v57 = 0 then (some (0, (t48, s49, n50))) else (some (1, (t48, s49, n50))))))) else ((X11_isLaw_f x2 σ).bind fun v5 => if v5 = 0 then (some ((-1), (τ, σ, nx))) else ((X11_isWithin_f x3 0 3 σ).bind fun v8 => if v8 = 0 then (some ((-1), (τ, σ, nx))) else (chk (∃ rs, τ a = some (.inl (11, rs))) ((X11_think_f τ σ nx a x1 x2).bind fun ⟨t12, s13, n14⟩ => (gRs t12 11 a 1).bind fun b16 => (gRs t12 10 b16 4).bind fun b18 => chk (ShX2 t12 b18 (tl t12 b18 1)) ((X2_countOf_f b18 (tl t12 b18 1) x3 s13).bind fun v21 => (gRs t12 11 a 0).bind fun b23 => (gRs t12 10 b23 4).bind fun b25 => chk (ShX2 t12 b25 (tl t12 b25 1)) ((X2_countOf_f b25 (tl t12 b25 1) x3 s13).bind fun v28 => some ((v21 - v28), (t12, s13, n14)))))))))
set_option maxRecDepth 4000 in
set_option maxHeartbeats 1000000 in
theorem X11_thought_ok {D : Nat} {τ : Tau} {σ : Sig} {nx : Nat} {a : Nat} {x1 x2 x3 : Int32} {res : Int32} {rh : Hp} (hD : 8 ≤ D) (H : X11_thought_f τ σ nx a x1 x2 x3 = some (res, rh)) : Ok D 0 0 yX11_thought cX11_thought 6 (some .int) [.ref a, .int x1, .int x2, .int x3] (τ, σ, nx) (some (.int res)) rh := by
  refine ok_of (by decide +kernel) rfl (Nat.le_of_ble_eq_true rfl) (fun K X hF hE hN L0 hL0 => ?_)
  obtain rfl : [some (.ref a), some (.int x1), some (.int x2), some (.int x3), none, none] = L0 := hL0
  have hF : Fx K X cX11_thought 6 RX11 D 0 0 := hF
  refine g_p (S' := [.int 30, .int 1, .int x1]) hF tX11_thought_ok 0 3 rfl rfl rfl rfl ?_
  obtain ⟨v1, e2, H⟩ := ob H
  refine g_cS (S := []) hF (X11_isWithin_ok (Nat.le_refl _)  e2 K) mbX11_isWithin msX11_isWithin mlX11_53 (by omega) (by decide) (dAt tX11_thought_ok 3 rfl rfl) rfl rfl (Nat.le_of_ble_eq_true rfl) rfl rfl (by decide) (by decide) rfl ?_
  obtain ⟨Ht3, Hf3⟩ := oi H
  refine g_if_ne hF (dAt tX11_thought_ok 4 rfl rfl) rfl (fun c3 => ?_) (fun c3 => ?_)
  · have H := Hf3 c3
    refine g_p (S' := [.int (-1), .int x2]) hF tX11_thought_ok 7 2 rfl rfl rfl rfl ?_
    obtain ⟨Ht4, Hf4⟩ := oi H
    refine g_icmp_ne hF (dAt tX11_thought_ok 9 rfl rfl) rfl (fun c4 => ?_) (fun c4 => ?_)
    · have H := Hf4 c4
      refine g_p (S' := [.int x2]) hF tX11_thought_ok 39 1 rfl rfl rfl rfl ?_
      obtain ⟨v5, e6, H⟩ := ob H
      refine g_cS (S := []) hF (X11_isLaw_ok (Nat.le_refl _)  e6 K) mbX11_isLaw msX11_isLaw mlX11_164 (by omega) (by decide) (dAt tX11_thought_ok 40 rfl rfl) rfl rfl (Nat.le_of_ble_eq_true rfl) rfl rfl (by decide) (by decide) rfl ?_
      obtain ⟨Ht7, Hf7⟩ := oi H
      refine g_if_eq hF (dAt tX11_thought_ok 41 rfl rfl) rfl (fun c7 => ?_) (fun c7 => ?_)
      · have H := Ht7 c7
        refine g_p (S' := [.int (-1)]) hF tX11_thought_ok 47 1 rfl rfl rfl rfl ?_
        exact g_iret hF (en_ph H hE) (dAt tX11_thought_ok 48 rfl rfl) (by decide) (by decide)
      · have H := Hf7 c7
        refine g_p (S' := [.int 3, .int 0, .int x3]) hF tX11_thought_ok 42 3 rfl rfl rfl rfl ?_
        obtain ⟨v8, e9, H⟩ := ob H
        refine g_cS (S := []) hF (X11_isWithin_ok (Nat.le_refl _)  e9 K) mbX11_isWithin msX11_isWithin mlX11_53 (by omega) (by decide) (dAt tX11_thought_ok 45 rfl rfl) rfl rfl (Nat.le_of_ble_eq_true rfl) rfl rfl (by decide) (by decide) rfl ?_
        obtain ⟨Ht10, Hf10⟩ := oi H
        refine g_if_ne hF (dAt tX11_thought_ok 46 rfl rfl) rfl (fun c10 => ?_) (fun c10 => ?_)
        · have H := Hf10 c10
          refine g_p (S' := [.int x2, .int x1, .ref a]) hF tX11_thought_ok 49 3 rfl rfl rfl rfl ?_
          obtain ⟨hc11, H⟩ := oc H
          obtain ⟨⟨t12, s13, n14⟩, e15, H⟩ := ob H
          refine g_cV (S := []) hF (X11_think_ok (Nat.le_refl _) e15 K) mbX11_think mvX11_think mlX11_255 (by omega) (by decide) (dAt tX11_thought_ok 52 rfl rfl) hc11.choose_spec rfl rfl rfl (Nat.le_of_ble_eq_true rfl) rfl rfl (by decide) (by decide) rfl ?_
          refine g_p (S' := [.ref a]) hF tX11_thought_ok 53 1 rfl rfl rfl rfl ?_
          obtain ⟨b16, e17, H⟩ := ob H
          refine g_dgR hF (dAt tX11_thought_ok 54 rfl rfl) flX11_23 e17 ?_
          obtain ⟨b18, e19, H⟩ := ob H
          refine g_dgR hF (dAt tX11_thought_ok 55 rfl rfl) flX11_180 e19 ?_
          refine g_p (S' := [.int x3, .ref b18]) hF tX11_thought_ok 56 1 rfl rfl rfl rfl ?_
          obtain ⟨hc20, H⟩ := oc H
          obtain ⟨v21, e22, H⟩ := ob H
          refine g_cV (S := []) hF (X2_countOf_ok (Nat.le_refl _) hc20 e22 K) mbX2_countOf mvX2_countOf mlX11_264 (by omega) (by decide) (dAt tX11_thought_ok 57 rfl rfl) hc20.1 rfl rfl rfl (Nat.le_of_ble_eq_true rfl) rfl rfl (by decide) (by decide) rfl ?_
          refine g_p (S' := [.ref a, .int v21]) hF tX11_thought_ok 58 1 rfl rfl rfl rfl ?_
          obtain ⟨b23, e24, H⟩ := ob H
          refine g_dgR hF (dAt tX11_thought_ok 59 rfl rfl) flX11_19 e24 ?_
          obtain ⟨b25, e26, H⟩ := ob H
          refine g_dgR hF (dAt tX11_thought_ok 60 rfl rfl) flX11_180 e26 ?_
          refine g_p (S' := [.int x3, .ref b25, .int v21]) hF tX11_thought_ok 61 1 rfl rfl rfl rfl ?_
          obtain ⟨hc27, H⟩ := oc H
          obtain ⟨v28, e29, H⟩ := ob H
          refine g_cV (S := [.int v21]) hF (X2_countOf_ok (Nat.le_refl _) hc27 e29 K) mbX2_countOf mvX2_countOf mlX11_264 (by omega) (by decide) (dAt tX11_thought_ok 62 rfl rfl) hc27.1 rfl rfl rfl (Nat.le_of_ble_eq_true rfl) rfl rfl (by decide) (by decide) rfl ?_
          refine g_p (S' := [.int (v21 - v28)]) hF tX11_thought_ok 63 1 rfl rfl rfl rfl ?_
          exact g_iret hF (en_ph H hE) (dAt tX11_thought_ok 64 rfl rfl) (by decide) (by decide)
        · have H := Ht10 c10
          refine g_p (S' := [.int (-1)]) hF tX11_thought_ok 47 1 rfl rfl rfl rfl ?_
          exact g_iret hF (en_ph H hE) (dAt tX11_thought_ok 48 rfl rfl) (by decide) (by decide)
    · have H := Ht4 c4
      refine g_p (S' := [.int 0, .int x1, .ref a]) hF tX11_thought_ok 10 3 rfl rfl rfl rfl ?_
      obtain ⟨hc30, H⟩ := oc H
      obtain ⟨⟨t31, s32, n33⟩, e34, H⟩ := ob H
      refine g_cV (S := []) hF (X11_think_ok (Nat.le_refl _) e34 K) mbX11_think mvX11_think mlX11_255 (by omega) (by decide) (dAt tX11_thought_ok 13 rfl rfl) hc30.choose_spec rfl rfl rfl (Nat.le_of_ble_eq_true rfl) rfl rfl (by decide) (by decide) rfl ?_
      refine g_p (S' := [.ref a]) hF tX11_thought_ok 14 1 rfl rfl rfl rfl ?_
      obtain ⟨b35, e36, H⟩ := ob H
      refine g_dgR hF (dAt tX11_thought_ok 15 rfl rfl) flX11_23 e36 ?_
      obtain ⟨b37, e38, H⟩ := ob H
      refine g_dgR hF (dAt tX11_thought_ok 16 rfl rfl) flX11_180 e38 ?_
      obtain ⟨v39, e40, H⟩ := ob H
      refine g_dgI hF (dAt tX11_thought_ok 17 rfl rfl) flX11_184 e40 ?_
      refine g_p (L' := [some (.ref a), some (.int x1), some (.int x2), some (.int x3), some (.int v39), none]) (S' := [.ref a]) hF tX11_thought_ok 18 2 rfl rfl rfl rfl ?_
      obtain ⟨b41, e42, H⟩ := ob H
      refine g_dgR hF (dAt tX11_thought_ok 20 rfl rfl) flX11_23 e42 ?_
      obtain ⟨b43, e44, H⟩ := ob H
      refine g_dgR hF (dAt tX11_thought_ok 21 rfl rfl) flX11_180 e44 ?_
      obtain ⟨v45, e46, H⟩ := ob H
      refine g_dgI hF (dAt tX11_thought_ok 22 rfl rfl) flX11_258 e46 ?_
      refine g_p (L' := [some (.ref a), some (.int x1), some (.int x2), some (.int x3), some (.int v39), some (.int v45)]) (S' := [.int 1, .int x1, .ref a]) hF tX11_thought_ok 23 4 rfl rfl rfl rfl ?_
      obtain ⟨hc47, H⟩ := oc H
      obtain ⟨⟨t48, s49, n50⟩, e51, H⟩ := ob H
      refine g_cV (S := []) hF (X11_think_ok (Nat.le_refl _) e51 K) mbX11_think mvX11_think mlX11_255 (by omega) (by decide) (dAt tX11_thought_ok 27 rfl rfl) hc47.choose_spec rfl rfl rfl (Nat.le_of_ble_eq_true rfl) rfl rfl (by decide) (by decide) rfl ?_
      refine g_p (S' := [.ref a]) hF tX11_thought_ok 28 1 rfl rfl rfl rfl ?_
      obtain ⟨b52, e53, H⟩ := ob H
      refine g_dgR hF (dAt tX11_thought_ok 29 rfl rfl) flX11_23 e53 ?_
      obtain ⟨b54, e55, H⟩ := ob H
      refine g_dgR hF (dAt tX11_thought_ok 30 rfl rfl) flX11_180 e55 ?_
      refine g_p (S' := [.int v45, .int v39, .ref b54]) hF tX11_thought_ok 31 2 rfl rfl rfl rfl ?_
      obtain ⟨hc56, H⟩ := oc H
      obtain ⟨v57, e58, H⟩ := ob H
      refine g_cV (S := []) hF (X2_isBetterThan_ok (Nat.le_refl _) hc56 e58 K) mbX2_isBetterThan mvX2_isBetterThan mlX11_261 (by omega) (by decide) (dAt tX11_thought_ok 33 rfl rfl) hc56.1 rfl rfl rfl (Nat.le_of_ble_eq_true rfl) rfl rfl (by decide) (by decide) rfl ?_
      obtain ⟨Ht59, Hf59⟩ := oi H
      refine g_if_eq hF (dAt tX11_thought_ok 34 rfl rfl) rfl (fun c59 => ?_) (fun c59 => ?_)
      · have H := Ht59 c59
        refine g_p (S' := [.int 0]) hF tX11_thought_ok 37 1 rfl rfl rfl rfl ?_
        exact g_iret hF (en_ph H hE) (dAt tX11_thought_ok 38 rfl rfl) (by decide) (by decide)
      · have H := Hf59 c59
        refine g_p (S' := [.int 1]) hF tX11_thought_ok 35 1 rfl rfl rfl rfl ?_
        refine g_goto hF (dAt tX11_thought_ok 36 rfl rfl) rfl ?_
        exact g_iret hF (en_ph H hE) (dAt tX11_thought_ok 38 rfl rfl) (by decide) (by decide)
  · have H := Ht3 c3
    refine g_p (S' := [.int (-1)]) hF tX11_thought_ok 5 1 rfl rfl rfl rfl ?_
    exact g_iret hF (en_ph H hE) (dAt tX11_thought_ok 6 rfl rfl) (by decide) (by decide)
noncomputable def X11_quiet_b122 (a : Nat) (k44 : Int32 → Int32 → Int32 → Int32 → Int32 → Int32 → Int32 → Tau → Sig → Nat → Option (Int32 × Hp)) (x1 : Int32) (x2 : Int32) (x4 : Int32) (x5 : Int32) (x6 : Int32) (x7 : Int32) (x8 : Int32) (y0 : Int32) (τ : Tau) (σ : Sig) (nx : Nat) : Option (Int32 × Hp) := k44 x1 x2 y0 (mmax x4 x8) x5 x6 (x7 + 1) τ σ nx
set_option maxRecDepth 4000 in
set_option maxHeartbeats 1000000 in
theorem X11_quiet_b122_ok {K : Kt} {X : Cx} {D : Nat} {a : Nat} {res : Int32} {rh : Hp} (hD : 8 ≤ D) (hF : Fx K X cX11_quiet 9 RX11 D 0 0) (hE : En K X (some .int) 0 0 (some (.int res)) rh) {k44 : Int32 → Int32 → Int32 → Int32 → Int32 → Int32 → Int32 → Tau → Sig → Nat → Option (Int32 × Hp)} (hk44 : ∀ (x1 : Int32) (x2 : Int32) (x3 : Int32) (x4 : Int32) (x5 : Int32) (x6 : Int32) (x7 : Int32) (τ : Tau) (σ : Sig) (nx : Nat), k44 x1 x2 x3 x4 x5 x6 x7 τ σ nx = some (res, rh) → G K X 9 0 0 44 [some (.ref a), some (.int x1), some (.int x2), some (.int x3), some (.int x4), some (.int x5), some (.int x6), some (.int x7), none] [] (τ, σ, nx)) {x1 : Int32} {x2 : Int32} {x4 : Int32} {x5 : Int32} {x6 : Int32} {x7 : Int32} {x8 : Int32} {y0 : Int32} {τ : Tau} {σ : Sig} {nx : Nat} (H : X11_quiet_b122 a k44 x1 x2 x4 x5 x6 x7 x8 y0 τ σ nx = some (res, rh)) : G K X 9 0 0 122 [some (.ref a), some (.int x1), some (.int x2), none, some (.int x4), some (.int x5), some (.int x6), some (.int x7), some (.int x8)] [.int y0] (τ, σ, nx) := by
  refine g_p (L' := [some (.ref a), some (.int x1), some (.int x2), some (.int y0), some (.int x4), some (.int x5), some (.int x6), some (.int x7), some (.int x8)]) (S' := [.int x8, .int x4]) hF tX11_quiet_ok 60 3 rfl rfl rfl rfl ?_
  refine g_mmax hF mlX11_252 (dAt tX11_quiet_ok 63 rfl rfl) (by omega) (Nat.le_of_ble_eq_true rfl) (by decide) (by decide) ?_
  refine g_p (L' := [some (.ref a), some (.int x1), some (.int x2), some (.int y0), some (.int (mmax x4 x8)), some (.int x5), some (.int x6), some (.int (x7 + 1)), some (.int x8)]) (S' := []) hF tX11_quiet_ok 64 2 rfl rfl rfl rfl ?_
  refine g_goto hF (dAt tX11_quiet_ok 66 rfl rfl) rfl ?_
  refine g_m [true, true, true, true, true, true, true, true, false] rfl ?_
  exact hk44 _ _ _ _ _ _ _ _ _ _ H
noncomputable def X11_quiet_b44 (a : Nat) : Nat → Int32 → Int32 → Int32 → Int32 → Int32 → Int32 → Int32 → Tau → Sig → Nat → Option (Int32 × Hp)
  | 0, _, _, _, _, _, _, _, _, _, _ => none
  | fu + 1, x1, x2, x3, x4, x5, x6, x7, τ, σ, nx => if x1 ≤ x7 then (if x2 = 2 then (some (x5, (τ, σ, nx))) else (if x2 = 0 then (some (x3, (τ, σ, nx))) else (some (x4, (τ, σ, nx))))) else ((gRs τ 11 a 1).bind fun b4 => (gRs τ 11 a 0).bind fun b6 => chk (∃ rs, τ b4 = some (.inl (10, rs))) ((X10_copyFrom_f τ σ nx b4 b6).bind fun ⟨t9, s10, n11⟩ => (gRs t9 11 a 1).bind fun b13 => (gRs t9 10 b13 3).bind fun b15 => (dI t9 s10 8 b15 0 x6).bind fun s17 => (gRs t9 11 a 1).bind fun b19 => chk (ShX10 t9 b19 (tl t9 (b19 + 33) 1)) ((X10_tillQuiet_f t9 b19 (tl t9 (b19 + 33) 1) s17).bind fun ⟨v22, s23⟩ => (gRs t9 11 a 1).bind fun b25 => (gRs t9 10 b25 3).bind fun b27 => (gI t9 s23 8 b27 0).bind fun v29 => if v22 = (-1) then (X11_quiet_b44 a fu x1 x2 x3 x4 (x5 + 1) v29 (x7 + 1) t9 s23 n11) else (if x3 = (-1) then (X11_quiet_b122 a (X11_quiet_b44 a fu) x1 x2 x4 x5 v29 x7 v22 v22 t9 s23 n11) else (X11_quiet_b122 a (X11_quiet_b44 a fu) x1 x2 x4 x5 v29 x7 v22 (mmin x3 v22) t9 s23 n11)))))
set_option maxRecDepth 4000 in
set_option maxHeartbeats 1000000 in
theorem X11_quiet_b44_ok {K : Kt} {X : Cx} {D : Nat} {a : Nat} {res : Int32} {rh : Hp} (hD : 8 ≤ D) (hF : Fx K X cX11_quiet 9 RX11 D 0 0) (hE : En K X (some .int) 0 0 (some (.int res)) rh) : ∀ (fu : Nat) (x1 : Int32) (x2 : Int32) (x3 : Int32) (x4 : Int32) (x5 : Int32) (x6 : Int32) (x7 : Int32) (τ : Tau) (σ : Sig) (nx : Nat), X11_quiet_b44 a fu x1 x2 x3 x4 x5 x6 x7 τ σ nx = some (res, rh) → G K X 9 0 0 44 [some (.ref a), some (.int x1), some (.int x2), some (.int x3), some (.int x4), some (.int x5), some (.int x6), some (.int x7), none] [] (τ, σ, nx)
  | 0, _, _, _, _, _, _, _, _, _, _, H => nomatch H
  | fu + 1, x1, x2, x3, x4, x5, x6, x7, τ, σ, nx, H => by
    refine g_p (S' := [.int x1, .int x7]) hF tX11_quiet_ok 25 2 rfl rfl rfl rfl ?_
    obtain ⟨Ht1, Hf1⟩ := oi H
    refine g_icmp_ge hF (dAt tX11_quiet_ok 27 rfl rfl) rfl (fun c1 => ?_) (fun c1 => ?_)
    · have H := Ht1 c1
      refine g_p (S' := [.int 2, .int x2]) hF tX11_quiet_ok 67 2 rfl rfl rfl rfl ?_
      obtain ⟨Ht2, Hf2⟩ := oi H
      refine g_icmp_ne hF (dAt tX11_quiet_ok 69 rfl rfl) rfl (fun c2 => ?_) (fun c2 => ?_)
      · have H := Hf2 c2
        refine g_p (S' := [.int x2]) hF tX11_quiet_ok 72 1 rfl rfl rfl rfl ?_
        obtain ⟨Ht3, Hf3⟩ := oi H
        refine g_if_ne hF (dAt tX11_quiet_ok 73 rfl rfl) rfl (fun c3 => ?_) (fun c3 => ?_)
        · have H := Hf3 c3
          refine g_p (S' := [.int x4]) hF tX11_quiet_ok 76 1 rfl rfl rfl rfl ?_
          exact g_iret hF (en_ph H hE) (dAt tX11_quiet_ok 77 rfl rfl) (by decide) (by decide)
        · have H := Ht3 c3
          refine g_p (S' := [.int x3]) hF tX11_quiet_ok 74 1 rfl rfl rfl rfl ?_
          refine g_goto hF (dAt tX11_quiet_ok 75 rfl rfl) rfl ?_
          exact g_iret hF (en_ph H hE) (dAt tX11_quiet_ok 77 rfl rfl) (by decide) (by decide)
      · have H := Ht2 c2
        refine g_p (S' := [.int x5]) hF tX11_quiet_ok 70 1 rfl rfl rfl rfl ?_
        exact g_iret hF (en_ph H hE) (dAt tX11_quiet_ok 71 rfl rfl) (by decide) (by decide)
    · have H := Hf1 c1
      refine g_p (S' := [.ref a]) hF tX11_quiet_ok 28 1 rfl rfl rfl rfl ?_
      obtain ⟨b4, e5, H⟩ := ob H
      refine g_dgR hF (dAt tX11_quiet_ok 29 rfl rfl) flX11_23 e5 ?_
      refine g_p (S' := [.ref a, .ref b4]) hF tX11_quiet_ok 30 1 rfl rfl rfl rfl ?_
      obtain ⟨b6, e7, H⟩ := ob H
      refine g_dgR hF (dAt tX11_quiet_ok 31 rfl rfl) flX11_19 e7 ?_
      obtain ⟨hc8, H⟩ := oc H
      obtain ⟨⟨t9, s10, n11⟩, e12, H⟩ := ob H
      refine g_cV (S := []) hF (X10_copyFrom_ok (Nat.le_refl _) e12 K) mbX10_copyFrom mvX10_copyFrom mlX11_240 (by omega) (by decide) (dAt tX11_quiet_ok 32 rfl rfl) hc8.choose_spec rfl rfl rfl (Nat.le_of_ble_eq_true rfl) rfl rfl (by decide) (by decide) rfl ?_
      refine g_p (S' := [.ref a]) hF tX11_quiet_ok 33 1 rfl rfl rfl rfl ?_
      obtain ⟨b13, e14, H⟩ := ob H
      refine g_dgR hF (dAt tX11_quiet_ok 34 rfl rfl) flX11_23 e14 ?_
      obtain ⟨b15, e16, H⟩ := ob H
      refine g_dgR hF (dAt tX11_quiet_ok 35 rfl rfl) flX11_43 e16 ?_
      refine g_p (S' := [.int x6, .ref b15]) hF tX11_quiet_ok 36 1 rfl rfl rfl rfl ?_
      obtain ⟨s17, e18, H⟩ := ob H
      refine g_dpI hF (dAt tX11_quiet_ok 37 rfl rfl) flX11_47 (Or.inl rfl) e18 ?_
      refine g_p (S' := [.ref a]) hF tX11_quiet_ok 38 1 rfl rfl rfl rfl ?_
      obtain ⟨b19, e20, H⟩ := ob H
      refine g_dgR hF (dAt tX11_quiet_ok 39 rfl rfl) flX11_23 e20 ?_
      obtain ⟨hc21, H⟩ := oc H
      obtain ⟨⟨v22, s23⟩, e24, H⟩ := ob H
      refine g_cV (S := []) hF (X10_tillQuiet_ok (Nat.le_refl _) hc21 e24 K) mbX10_tillQuiet mvX10_tillQuiet mlX11_244 (by omega) (by decide) (dAt tX11_quiet_ok 40 rfl rfl) hc21.1 rfl rfl rfl (Nat.le_of_ble_eq_true rfl) rfl rfl (by decide) (by decide) rfl ?_
      refine g_p (L' := [some (.ref a), some (.int x1), some (.int x2), some (.int x3), some (.int x4), some (.int x5), some (.int x6), some (.int x7), some (.int v22)]) (S' := [.ref a]) hF tX11_quiet_ok 41 2 rfl rfl rfl rfl ?_
      obtain ⟨b25, e26, H⟩ := ob H
      refine g_dgR hF (dAt tX11_quiet_ok 43 rfl rfl) flX11_23 e26 ?_
      obtain ⟨b27, e28, H⟩ := ob H
      refine g_dgR hF (dAt tX11_quiet_ok 44 rfl rfl) flX11_43 e28 ?_
      obtain ⟨v29, e30, H⟩ := ob H
      refine g_dgI hF (dAt tX11_quiet_ok 45 rfl rfl) flX11_47 e30 ?_
      refine g_p (L' := [some (.ref a), some (.int x1), some (.int x2), some (.int x3), some (.int x4), some (.int x5), some (.int v29), some (.int x7), some (.int v22)]) (S' := [.int (-1), .int v22]) hF tX11_quiet_ok 46 3 rfl rfl rfl rfl ?_
      obtain ⟨Ht31, Hf31⟩ := oi H
      refine g_icmp_ne hF (dAt tX11_quiet_ok 49 rfl rfl) rfl (fun c31 => ?_) (fun c31 => ?_)
      · have H := Hf31 c31
        refine g_p (S' := [.int (-1), .int x3]) hF tX11_quiet_ok 52 2 rfl rfl rfl rfl ?_
        obtain ⟨Ht32, Hf32⟩ := oi H
        refine g_icmp_ne hF (dAt tX11_quiet_ok 54 rfl rfl) rfl (fun c32 => ?_) (fun c32 => ?_)
        · have H := Hf32 c32
          refine g_p (S' := [.int v22, .int x3]) hF tX11_quiet_ok 57 2 rfl rfl rfl rfl ?_
          refine g_mmin hF mlX11_247 (dAt tX11_quiet_ok 59 rfl rfl) (by omega) (Nat.le_of_ble_eq_true rfl) (by decide) (by decide) ?_
          refine g_m [true, true, true, false, true, true, true, true, true] rfl ?_
          exact X11_quiet_b122_ok hD hF hE (fun _ _ _ _ _ _ _ _ _ _ H => X11_quiet_b44_ok hD hF hE fu _ _ _ _ _ _ _ _ _ _ H) H
        · have H := Ht32 c32
          refine g_p (S' := [.int v22]) hF tX11_quiet_ok 55 1 rfl rfl rfl rfl ?_
          refine g_goto hF (dAt tX11_quiet_ok 56 rfl rfl) rfl ?_
          refine g_m [true, true, true, false, true, true, true, true, true] rfl ?_
          exact X11_quiet_b122_ok hD hF hE (fun _ _ _ _ _ _ _ _ _ _ H => X11_quiet_b44_ok hD hF hE fu _ _ _ _ _ _ _ _ _ _ H) H
      · have H := Ht31 c31
        refine g_p (L' := [some (.ref a), some (.int x1), some (.int x2), some (.int x3), some (.int x4), some (.int (x5 + 1)), some (.int v29), some (.int x7), some (.int v22)]) (S' := []) hF tX11_quiet_ok 50 1 rfl rfl rfl rfl ?_
        refine g_goto hF (dAt tX11_quiet_ok 51 rfl rfl) rfl ?_
        refine g_p (L' := [some (.ref a), some (.int x1), some (.int x2), some (.int x3), some (.int x4), some (.int (x5 + 1)), some (.int v29), some (.int (x7 + 1)), some (.int v22)]) (S' := []) hF tX11_quiet_ok 65 1 rfl rfl rfl rfl ?_
        refine g_goto hF (dAt tX11_quiet_ok 66 rfl rfl) rfl ?_
        refine g_m [true, true, true, true, true, true, true, true, false] rfl ?_
        exact X11_quiet_b44_ok hD hF hE fu _ _ _ _ _ _ _ _ _ _ H
noncomputable def X11_quiet_f (τ : Tau) (σ : Sig) (nx : Nat) (a : Nat) (x1 x2 : Int32) : Option (Int32 × Hp) := (X11_isWithin_f x1 1 8 σ).bind fun v1 => if v1 = 0 then (some ((-1), (τ, σ, nx))) else ((X11_isWithin_f x2 0 2 σ).bind fun v4 => if v4 = 0 then (some ((-1), (τ, σ, nx))) else ((gRs τ 11 a 0).bind fun b7 => (gRs τ 10 b7 3).bind fun b9 => (gI τ σ 8 b9 0).bind fun v11 => X11_quiet_b44 a FU x1 x2 (-1) (-1) 0 v11 0 τ σ nx))
set_option maxRecDepth 4000 in
set_option maxHeartbeats 1000000 in
theorem X11_quiet_ok {D : Nat} {τ : Tau} {σ : Sig} {nx : Nat} {a : Nat} {x1 x2 : Int32} {res : Int32} {rh : Hp} (hD : 8 ≤ D) (H : X11_quiet_f τ σ nx a x1 x2 = some (res, rh)) : Ok D 0 0 yX11_quiet cX11_quiet 9 (some .int) [.ref a, .int x1, .int x2] (τ, σ, nx) (some (.int res)) rh := by
  refine ok_of (by decide +kernel) rfl (Nat.le_of_ble_eq_true rfl) (fun K X hF hE hN L0 hL0 => ?_)
  obtain rfl : [some (.ref a), some (.int x1), some (.int x2), none, none, none, none, none, none] = L0 := hL0
  have hF : Fx K X cX11_quiet 9 RX11 D 0 0 := hF
  refine g_p (S' := [.int 8, .int 1, .int x1]) hF tX11_quiet_ok 0 3 rfl rfl rfl rfl ?_
  obtain ⟨v1, e2, H⟩ := ob H
  refine g_cS (S := []) hF (X11_isWithin_ok (Nat.le_refl _)  e2 K) mbX11_isWithin msX11_isWithin mlX11_53 (by omega) (by decide) (dAt tX11_quiet_ok 3 rfl rfl) rfl rfl (Nat.le_of_ble_eq_true rfl) rfl rfl (by decide) (by decide) rfl ?_
  obtain ⟨Ht3, Hf3⟩ := oi H
  refine g_if_eq hF (dAt tX11_quiet_ok 4 rfl rfl) rfl (fun c3 => ?_) (fun c3 => ?_)
  · have H := Ht3 c3
    refine g_p (S' := [.int (-1)]) hF tX11_quiet_ok 10 1 rfl rfl rfl rfl ?_
    exact g_iret hF (en_ph H hE) (dAt tX11_quiet_ok 11 rfl rfl) (by decide) (by decide)
  · have H := Hf3 c3
    refine g_p (S' := [.int 2, .int 0, .int x2]) hF tX11_quiet_ok 5 3 rfl rfl rfl rfl ?_
    obtain ⟨v4, e5, H⟩ := ob H
    refine g_cS (S := []) hF (X11_isWithin_ok (Nat.le_refl _)  e5 K) mbX11_isWithin msX11_isWithin mlX11_53 (by omega) (by decide) (dAt tX11_quiet_ok 8 rfl rfl) rfl rfl (Nat.le_of_ble_eq_true rfl) rfl rfl (by decide) (by decide) rfl ?_
    obtain ⟨Ht6, Hf6⟩ := oi H
    refine g_if_ne hF (dAt tX11_quiet_ok 9 rfl rfl) rfl (fun c6 => ?_) (fun c6 => ?_)
    · have H := Hf6 c6
      refine g_p (L' := [some (.ref a), some (.int x1), some (.int x2), some (.int (-1)), some (.int (-1)), some (.int 0), none, none, none]) (S' := [.ref a]) hF tX11_quiet_ok 12 7 rfl rfl rfl rfl ?_
      obtain ⟨b7, e8, H⟩ := ob H
      refine g_dgR hF (dAt tX11_quiet_ok 19 rfl rfl) flX11_19 e8 ?_
      obtain ⟨b9, e10, H⟩ := ob H
      refine g_dgR hF (dAt tX11_quiet_ok 20 rfl rfl) flX11_43 e10 ?_
      obtain ⟨v11, e12, H⟩ := ob H
      refine g_dgI hF (dAt tX11_quiet_ok 21 rfl rfl) flX11_47 e12 ?_
      refine g_p (L' := [some (.ref a), some (.int x1), some (.int x2), some (.int (-1)), some (.int (-1)), some (.int 0), some (.int v11), some (.int 0), none]) (S' := []) hF tX11_quiet_ok 22 3 rfl rfl rfl rfl ?_
      exact X11_quiet_b44_ok hD hF hE FU _ _ _ _ _ _ _ _ _ _ H
    · have H := Ht6 c6
      refine g_p (S' := [.int (-1)]) hF tX11_quiet_ok 10 1 rfl rfl rfl rfl ?_
      exact g_iret hF (en_ph H hE) (dAt tX11_quiet_ok 11 rfl rfl) (by decide) (by decide)
noncomputable def X11_image_b34 (a : Nat) (τ : Tau) (σ : Sig) (nx : Nat) : Option (Int32 × Hp) := (gR τ 11 a 2).bind fun r1 => (gRs τ 11 a 0).bind fun b3 => (r1).bind fun b5 => chk (∃ rs, τ b5 = some (.inl (10, rs))) ((X10_copyFrom_f τ σ nx b5 b3).bind fun ⟨t7, s8, n9⟩ => some (1, (t7, s8, n9)))
set_option maxRecDepth 4000 in
set_option maxHeartbeats 1000000 in
theorem X11_image_b34_ok {K : Kt} {X : Cx} {D : Nat} {a : Nat} {res : Int32} {rh : Hp} (hD : 4 ≤ D) (hF : Fx K X cX11_image 2 RX11 D 35 2694) (hE : En K X (some .boolean) 35 2694 (some (.int res)) rh) {τ : Tau} {σ : Sig} {nx : Nat} (H : X11_image_b34 a τ σ nx = some (res, rh)) : G K X 2 35 2694 34 [some (.ref a), none] [] (τ, σ, nx) := by
  refine g_p (S' := [.ref a]) hF tX11_image_ok 16 1 rfl rfl rfl rfl ?_
  obtain ⟨r1, e2, H⟩ := ob H
  refine g_dgO hF (dAt tX11_image_ok 17 rfl rfl) flX11_26 e2 ?_
  refine g_p (S' := [.ref a, va_rf r1]) hF tX11_image_ok 18 1 rfl rfl rfl rfl ?_
  obtain ⟨b3, e4, H⟩ := ob H
  refine g_dgR hF (dAt tX11_image_ok 19 rfl rfl) flX11_19 e4 ?_
  obtain ⟨b5, qb5, Hb5⟩ := ob H
  clear H
  subst qb5
  have H := Hb5
  show G _ _ _ _ _ _ [some (.ref a), none] [.ref b3, .ref b5] _
  obtain ⟨hc6, H⟩ := oc H
  obtain ⟨⟨t7, s8, n9⟩, e10, H⟩ := ob H
  refine g_cV (S := []) hF (X10_copyFrom_ok (Nat.le_refl _) e10 K) mbX10_copyFrom mvX10_copyFrom mlX11_240 (by omega) (by decide) (dAt tX11_image_ok 20 rfl rfl) hc6.choose_spec rfl rfl rfl (Nat.le_of_ble_eq_true rfl) rfl rfl (by decide) (by decide) rfl ?_
  refine g_p (S' := [.int 1]) hF tX11_image_ok 21 1 rfl rfl rfl rfl ?_
  exact g_zret hF (en_ph H hE) (Or.inr rfl) (dAt tX11_image_ok 22 rfl rfl) (by decide) (by decide)
noncomputable def X11_image_f (τ : Tau) (σ : Sig) (nx : Nat) (a : Nat) (x1 : Int32) : Option (Int32 × Hp) := if x1 = 0 then ((gR τ 11 a 2).bind fun r2 => onl r2 (some (0, (τ, σ, nx))) (fun b4 => (gRs τ 11 a 0).bind fun b5 => (gR τ 11 a 2).bind fun r7 => (r7).bind fun b9 => chk (∃ rs, τ b5 = some (.inl (10, rs))) ((X10_copyFrom_f τ σ nx b5 b9).bind fun ⟨t11, s12, n13⟩ => some (1, (t11, s12, n13))))) else ((gR τ 11 a 2).bind fun r15 => onl r15 ((gRs (al τ nx (.inl (10, rsX10))) 11 a 0).bind fun b18 => (gRs (al τ nx (.inl (10, rsX10))) 10 b18 6).bind fun b20 => (ldrD (al τ nx (.inl (10, rsX10))) 7 b20 0).bind fun r22 => (r22).bind fun b24 => (X10_init_f (al τ nx (.inl (10, rsX10))) (zr σ nx) (nx + 1) nx b24 400).bind fun ⟨t25, s26, n27⟩ => (dR t25 11 a 2 (some nx)).bind fun t29 => X11_image_b34 a t29 s26 n27) (fun b17 => X11_image_b34 a τ σ nx))
set_option maxRecDepth 4000 in
set_option maxHeartbeats 1000000 in
theorem X11_image_ok {D : Nat} {τ : Tau} {σ : Sig} {nx : Nat} {a : Nat} {x1 : Int32} {res : Int32} {rh : Hp} (hD : 4 ≤ D) (H : X11_image_f τ σ nx a x1 = some (res, rh)) : Ok D 35 2694 yX11_image cX11_image 2 (some .boolean) [.ref a, .int x1] (τ, σ, nx) (some (.int res)) rh := by
  refine ok_of (by decide +kernel) rfl (Nat.le_of_ble_eq_true rfl) (fun K X hF hE hN L0 hL0 => ?_)
  obtain rfl : [some (.ref a), some (.int x1)] = L0 := hL0
  have hF : Fx K X cX11_image 2 RX11 D 35 2694 := hF
  refine g_p (S' := [.int x1]) hF tX11_image_ok 0 1 rfl rfl rfl rfl ?_
  obtain ⟨Ht1, Hf1⟩ := oi H
  refine g_if_eq hF (dAt tX11_image_ok 1 rfl rfl) rfl (fun c1 => ?_) (fun c1 => ?_)
  · have H := Ht1 c1
    refine g_p (S' := [.ref a]) hF tX11_image_ok 23 1 rfl rfl rfl rfl ?_
    obtain ⟨r2, e3, H⟩ := ob H
    refine g_dgO hF (dAt tX11_image_ok 24 rfl rfl) flX11_26 e3 ?_
    refine g_ifnnO r2 hF (dAt tX11_image_ok 25 rfl rfl) rfl (fun qb4 => ?_) (fun b4 qb4 => ?_)
    · subst qb4
      show G _ _ _ _ _ _ [some (.ref a), some (.int x1)] [] _
      refine g_p (S' := [.int 0]) hF tX11_image_ok 26 1 rfl rfl rfl rfl ?_
      exact g_zret hF (en_ph H hE) (Or.inl rfl) (dAt tX11_image_ok 27 rfl rfl) (by decide) (by decide)
    · subst qb4
      show G _ _ _ _ _ _ [some (.ref a), some (.int x1)] [] _
      refine g_p (S' := [.ref a]) hF tX11_image_ok 28 1 rfl rfl rfl rfl ?_
      obtain ⟨b5, e6, H⟩ := ob H
      refine g_dgR hF (dAt tX11_image_ok 29 rfl rfl) flX11_19 e6 ?_
      refine g_p (S' := [.ref a, .ref b5]) hF tX11_image_ok 30 1 rfl rfl rfl rfl ?_
      obtain ⟨r7, e8, H⟩ := ob H
      refine g_dgO hF (dAt tX11_image_ok 31 rfl rfl) flX11_26 e8 ?_
      obtain ⟨b9, qb9, Hb9⟩ := ob H
      clear H
      subst qb9
      have H := Hb9
      show G _ _ _ _ _ _ [some (.ref a), some (.int x1)] [.ref b9, .ref b5] _
      obtain ⟨hc10, H⟩ := oc H
      obtain ⟨⟨t11, s12, n13⟩, e14, H⟩ := ob H
      refine g_cV (S := []) hF (X10_copyFrom_ok (Nat.le_refl _) e14 K) mbX10_copyFrom mvX10_copyFrom mlX11_240 (by omega) (by decide) (dAt tX11_image_ok 32 rfl rfl) hc10.choose_spec rfl rfl rfl (Nat.le_of_ble_eq_true rfl) rfl rfl (by decide) (by decide) rfl ?_
      refine g_p (S' := [.int 1]) hF tX11_image_ok 33 1 rfl rfl rfl rfl ?_
      exact g_zret hF (en_ph H hE) (Or.inr rfl) (dAt tX11_image_ok 34 rfl rfl) (by decide) (by decide)
  · have H := Hf1 c1
    refine g_p (S' := [.ref a]) hF tX11_image_ok 2 1 rfl rfl rfl rfl ?_
    obtain ⟨r15, e16, H⟩ := ob H
    refine g_dgO hF (dAt tX11_image_ok 3 rfl rfl) flX11_26 e16 ?_
    refine g_ifnnO r15 hF (dAt tX11_image_ok 4 rfl rfl) rfl (fun qb17 => ?_) (fun b17 qb17 => ?_)
    · subst qb17
      show G _ _ _ _ _ _ [some (.ref a), some (.int x1)] [] _
      refine g_p (S' := [.ref a]) hF tX11_image_ok 5 1 rfl rfl rfl rfl ?_
      refine g_new (ci := 10) hF tyX10 (dAt tX11_image_ok 6 rfl rfl) rfl tyX10_ok clX11_14 inX10 icX10 rfl dvX10 (by decide) (by decide) ?_
      refine g_p (S' := [.ref a, .int 400, .ref nx, .ref nx, .ref a]) hF tX11_image_ok 7 3 rfl rfl rfl rfl ?_
      obtain ⟨b18, e19, H⟩ := ob H
      refine g_dgR hF (dAt tX11_image_ok 10 rfl rfl) flX11_19 e19 ?_
      obtain ⟨b20, e21, H⟩ := ob H
      refine g_dgR hF (dAt tX11_image_ok 11 rfl rfl) flX11_141 e21 ?_
      refine g_p (S' := [.int 0, .ref b20, .int 400, .ref nx, .ref nx, .ref a]) hF tX11_image_ok 12 1 rfl rfl rfl rfl ?_
      obtain ⟨r22, e23, H⟩ := ob H
      refine g_drld (tj := 2) hF rfl (dAt tX11_image_ok 13 rfl rfl) e23 ?_
      obtain ⟨b24, qb24, Hb24⟩ := ob H
      clear H
      subst qb24
      have H := Hb24
      show G _ _ _ _ _ _ [some (.ref a), some (.int x1)] [.ref b24, .int 400, .ref nx, .ref nx, .ref a] _
      obtain ⟨⟨t25, s26, n27⟩, e28, H⟩ := ob H
      refine g_cI (S := [.ref nx, .ref a]) hF (X10_init_ok (Nat.le_refl _) e28 K) mbX10_init miX10_init mlX11_16 (by omega) (by decide) (dAt tX11_image_ok 14 rfl rfl) rfl rfl (Nat.le_of_ble_eq_true rfl) rfl rfl (by decide) (by decide) rfl ?_
      obtain ⟨t29, e30, H⟩ := ob H
      refine g_dpR (some nx) hF (dAt tX11_image_ok 15 rfl rfl) flX11_26 (Or.inl rfl) (Or.inl ⟨_, rfl⟩) e30 ?_
      refine g_m [true, false] rfl ?_
      exact X11_image_b34_ok hD hF hE H
    · subst qb17
      show G _ _ _ _ _ _ [some (.ref a), some (.int x1)] [] _
      refine g_m [true, false] rfl ?_
      refine g_widen (k' := 35) (n' := 2694) (by decide) (by decide) ?_
      exact X11_image_b34_ok hD hF hE H

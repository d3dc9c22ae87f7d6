/-! SilenceForMoney$Bargain -/
def X0_takeIn_f (a : Nat) (n : Nat) (r1 : Nat) (x2 : Int32) (σ : Sig) : Option (Sig) := if (Int32.ofNat n) < (((σ a 4) * 6) + 6) then (some σ) else ((X3_has_f r1 x2 σ).bind fun v2 => if v2 = 0 then (some σ) else ((st n σ (a + 1) (((σ a 4) * 6) + 0) x2).bind fun s5 => (ld 40 (s5 (r1 + 1)) x2).bind fun v7 => (st n s5 (a + 1) (((σ a 4) * 6) + 1) v7).bind fun s9 => (ld 40 (s9 (r1 + 2)) x2).bind fun v11 => (st n s9 (a + 1) (((σ a 4) * 6) + 2) v11).bind fun s13 => (ld 40 (s13 (r1 + 5)) x2).bind fun v15 => (st n s13 (a + 1) (((σ a 4) * 6) + 3) v15).bind fun s17 => (ld 40 (s17 (r1 + 3)) x2).bind fun v19 => (st n s17 (a + 1) (((σ a 4) * 6) + 4) v19).bind fun s21 => (ld 40 (s21 (r1 + 3)) x2).bind fun v23 => (st n s21 (a + 1) (((σ a 4) * 6) + 5) v23).bind fun s25 => (pI s25 a 4 ((s25 a 4) + 1)).bind fun s27 => some s27))
set_option maxRecDepth 4000 in
set_option maxHeartbeats 1000000 in
theorem X0_takeIn_ok {D : Nat} {τ : Tau} {nx : Nat} {a : Nat} {n : Nat} {r1 : Nat} {x2 : Int32} {σ : Sig} {res : Sig} (hD : 2 ≤ D) (hS : ShX0 τ a n) (hr1 : ShX3 τ r1) (H : X0_takeIn_f a n r1 x2 σ = some res) : Ok D 0 0 yX0_takeIn cX0_takeIn 4 none [.ref a, .ref r1, .int x2] (τ, σ, nx) none (τ, res, nx) := by
  refine ok_of (by decide +kernel) rfl (Nat.le_of_ble_eq_true rfl) (fun K X hF hE hN L0 hL0 => ?_)
  obtain rfl : [some (.ref a), some (.ref r1), some (.int x2), none] = L0 := hL0
  have hF : Fx K X cX0_takeIn 4 RX0 D 0 0 := hF
  refine g_p (S' := [.ref a]) hF tX0_takeIn_ok 0 1 rfl rfl rfl rfl ?_
  refine g_getI hF (dAt tX0_takeIn_ok 1 rfl rfl) flX0_37 hS.1 rfl ?_
  refine g_p (L' := [some (.ref a), some (.ref r1), some (.int x2), some (.int ((σ a 4) * 6))]) (S' := [.ref a, .int (((σ a 4) * 6) + 6)]) hF tX0_takeIn_ok 2 7 rfl rfl rfl rfl ?_
  refine g_getR hF (dAt tX0_takeIn_ok 9 rfl rfl) flX0_33 hS.1 rfl ?_
  refine g_alen hF (dAt tX0_takeIn_ok 10 rfl rfl) hS.2 rfl ?_
  obtain ⟨Ht1, Hf1⟩ := oi H
  refine g_icmp_gt hF (dAt tX0_takeIn_ok 11 rfl rfl) rfl (fun c1 => ?_) (fun c1 => ?_)
  · have H := Ht1 c1
    exact g_vret hF (en_v H hE) (dAt tX0_takeIn_ok 16 rfl rfl) (by decide) (by decide)
  · have H := Hf1 c1
    refine g_p (S' := [.int x2, .ref r1]) hF tX0_takeIn_ok 12 2 rfl rfl rfl rfl ?_
    obtain ⟨v2, e3, H⟩ := ob H
    refine g_cV (S := []) hF (X3_has_ok (Nat.le_refl _) hr1 e3 K) mbX3_has mvX3_has mlX0_40 (by omega) (by decide) (dAt tX0_takeIn_ok 14 rfl rfl) hr1.1 rfl rfl rfl (Nat.le_of_ble_eq_true rfl) rfl rfl (by decide) (by decide) rfl ?_
    obtain ⟨Ht4, Hf4⟩ := oi H
    refine g_if_ne hF (dAt tX0_takeIn_ok 15 rfl rfl) rfl (fun c4 => ?_) (fun c4 => ?_)
    · have H := Hf4 c4
      refine g_p (S' := [.ref a]) hF tX0_takeIn_ok 17 1 rfl rfl rfl rfl ?_
      refine g_getR hF (dAt tX0_takeIn_ok 18 rfl rfl) flX0_33 hS.1 rfl ?_
      refine g_p (S' := [.int x2, .int (((σ a 4) * 6) + 0), .ref (a + 1)]) hF tX0_takeIn_ok 19 4 rfl rfl rfl rfl ?_
      obtain ⟨s5, e6, H⟩ := ob H
      refine g_ist hF (dAt tX0_takeIn_ok 23 rfl rfl) hS.2 e6 ?_
      refine g_p (S' := [.ref a]) hF tX0_takeIn_ok 24 1 rfl rfl rfl rfl ?_
      refine g_getR hF (dAt tX0_takeIn_ok 25 rfl rfl) flX0_33 hS.1 rfl ?_
      refine g_p (S' := [.ref r1, .int (((σ a 4) * 6) + 1), .ref (a + 1)]) hF tX0_takeIn_ok 26 4 rfl rfl rfl rfl ?_
      refine g_getR hF (dAt tX0_takeIn_ok 30 rfl rfl) flX0_46 hr1.1 rfl ?_
      refine g_p (S' := [.int x2, .ref (r1 + 1), .int (((σ a 4) * 6) + 1), .ref (a + 1)]) hF tX0_takeIn_ok 31 1 rfl rfl rfl rfl ?_
      obtain ⟨v7, e8, H⟩ := ob H
      refine g_ild hF (dAt tX0_takeIn_ok 32 rfl rfl) hr1.2.1 e8 ?_
      obtain ⟨s9, e10, H⟩ := ob H
      refine g_ist hF (dAt tX0_takeIn_ok 33 rfl rfl) hS.2 e10 ?_
      refine g_p (S' := [.ref a]) hF tX0_takeIn_ok 34 1 rfl rfl rfl rfl ?_
      refine g_getR hF (dAt tX0_takeIn_ok 35 rfl rfl) flX0_33 hS.1 rfl ?_
      refine g_p (S' := [.ref r1, .int (((σ a 4) * 6) + 2), .ref (a + 1)]) hF tX0_takeIn_ok 36 4 rfl rfl rfl rfl ?_
      refine g_getR hF (dAt tX0_takeIn_ok 40 rfl rfl) flX0_49 hr1.1 rfl ?_
      refine g_p (S' := [.int x2, .ref (r1 + 2), .int (((σ a 4) * 6) + 2), .ref (a + 1)]) hF tX0_takeIn_ok 41 1 rfl rfl rfl rfl ?_
      obtain ⟨v11, e12, H⟩ := ob H
      refine g_ild hF (dAt tX0_takeIn_ok 42 rfl rfl) hr1.2.2.1 e12 ?_
      obtain ⟨s13, e14, H⟩ := ob H
      refine g_ist hF (dAt tX0_takeIn_ok 43 rfl rfl) hS.2 e14 ?_
      refine g_p (S' := [.ref a]) hF tX0_takeIn_ok 44 1 rfl rfl rfl rfl ?_
      refine g_getR hF (dAt tX0_takeIn_ok 45 rfl rfl) flX0_33 hS.1 rfl ?_
      refine g_p (S' := [.ref r1, .int (((σ a 4) * 6) + 3), .ref (a + 1)]) hF tX0_takeIn_ok 46 4 rfl rfl rfl rfl ?_
      refine g_getR hF (dAt tX0_takeIn_ok 50 rfl rfl) flX0_52 hr1.1 rfl ?_
      refine g_p (S' := [.int x2, .ref (r1 + 5), .int (((σ a 4) * 6) + 3), .ref (a + 1)]) hF tX0_takeIn_ok 51 1 rfl rfl rfl rfl ?_
      obtain ⟨v15, e16, H⟩ := ob H
      refine g_ild hF (dAt tX0_takeIn_ok 52 rfl rfl) hr1.2.2.2.2.2.1 e16 ?_
      obtain ⟨s17, e18, H⟩ := ob H
      refine g_ist hF (dAt tX0_takeIn_ok 53 rfl rfl) hS.2 e18 ?_
      refine g_p (S' := [.ref a]) hF tX0_takeIn_ok 54 1 rfl rfl rfl rfl ?_
      refine g_getR hF (dAt tX0_takeIn_ok 55 rfl rfl) flX0_33 hS.1 rfl ?_
      refine g_p (S' := [.ref r1, .int (((σ a 4) * 6) + 4), .ref (a + 1)]) hF tX0_takeIn_ok 56 4 rfl rfl rfl rfl ?_
      refine g_getR hF (dAt tX0_takeIn_ok 60 rfl rfl) flX0_55 hr1.1 rfl ?_
      refine g_p (S' := [.int x2, .ref (r1 + 3), .int (((σ a 4) * 6) + 4), .ref (a + 1)]) hF tX0_takeIn_ok 61 1 rfl rfl rfl rfl ?_
      obtain ⟨v19, e20, H⟩ := ob H
      refine g_ild hF (dAt tX0_takeIn_ok 62 rfl rfl) hr1.2.2.2.1 e20 ?_
      obtain ⟨s21, e22, H⟩ := ob H
      refine g_ist hF (dAt tX0_takeIn_ok 63 rfl rfl) hS.2 e22 ?_
      refine g_p (S' := [.ref a]) hF tX0_takeIn_ok 64 1 rfl rfl rfl rfl ?_
      refine g_getR hF (dAt tX0_takeIn_ok 65 rfl rfl) flX0_33 hS.1 rfl ?_
      refine g_p (S' := [.ref r1, .int (((σ a 4) * 6) + 5), .ref (a + 1)]) hF tX0_takeIn_ok 66 4 rfl rfl rfl rfl ?_
      refine g_getR hF (dAt tX0_takeIn_ok 70 rfl rfl) flX0_55 hr1.1 rfl ?_
      refine g_p (S' := [.int x2, .ref (r1 + 3), .int (((σ a 4) * 6) + 5), .ref (a + 1)]) hF tX0_takeIn_ok 71 1 rfl rfl rfl rfl ?_
      obtain ⟨v23, e24, H⟩ := ob H
      refine g_ild hF (dAt tX0_takeIn_ok 72 rfl rfl) hr1.2.2.2.1 e24 ?_
      obtain ⟨s25, e26, H⟩ := ob H
      refine g_ist hF (dAt tX0_takeIn_ok 73 rfl rfl) hS.2 e26 ?_
      refine g_p (S' := [.ref a, .ref a]) hF tX0_takeIn_ok 74 2 rfl rfl rfl rfl ?_
      refine g_getI hF (dAt tX0_takeIn_ok 76 rfl rfl) flX0_37 hS.1 rfl ?_
      refine g_p (S' := [.int ((s25 a 4) + 1), .ref a]) hF tX0_takeIn_ok 77 2 rfl rfl rfl rfl ?_
      obtain ⟨s27, e28, H⟩ := ob H
      refine g_pI hF (dAt tX0_takeIn_ok 79 rfl rfl) flX0_37 (Or.inl rfl) hS.1 rfl e28 ?_
      exact g_vret hF (en_v H hE) (dAt tX0_takeIn_ok 80 rfl rfl) (by decide) (by decide)
    · have H := Ht4 c4
      exact g_vret hF (en_v H hE) (dAt tX0_takeIn_ok 16 rfl rfl) (by decide) (by decide)
def X0_leaves_f (a : Nat) (n : Nat) (x1 : Int32) (σ : Sig) : Option (Sig) := if (σ a 4) < 1 then (some σ) else ((st n σ (a + 1) ((((σ a 4) - 1) * 6) + 5) x1).bind fun s2 => some s2)
set_option maxRecDepth 4000 in
set_option maxHeartbeats 1000000 in
theorem X0_leaves_ok {D : Nat} {τ : Tau} {nx : Nat} {a : Nat} {n : Nat} {x1 : Int32} {σ : Sig} {res : Sig} (hD : 1 ≤ D) (hS : ShX0 τ a n) (H : X0_leaves_f a n x1 σ = some res) : Ok D 0 0 yX0_leaves cX0_leaves 2 none [.ref a, .int x1] (τ, σ, nx) none (τ, res, nx) := by
  refine ok_of (by decide +kernel) rfl (Nat.le_of_ble_eq_true rfl) (fun K X hF hE hN L0 hL0 => ?_)
  obtain rfl : [some (.ref a), some (.int x1)] = L0 := hL0
  have hF : Fx K X cX0_leaves 2 RX0 D 0 0 := hF
  refine g_p (S' := [.ref a]) hF tX0_leaves_ok 0 1 rfl rfl rfl rfl ?_
  refine g_getI hF (dAt tX0_leaves_ok 1 rfl rfl) flX0_37 hS.1 rfl ?_
  refine g_p (S' := [.int 1, .int (σ a 4)]) hF tX0_leaves_ok 2 1 rfl rfl rfl rfl ?_
  obtain ⟨Ht1, Hf1⟩ := oi H
  refine g_icmp_lt hF (dAt tX0_leaves_ok 3 rfl rfl) rfl (fun c1 => ?_) (fun c1 => ?_)
  · have H := Ht1 c1
    exact g_vret hF (en_v H hE) (dAt tX0_leaves_ok 16 rfl rfl) (by decide) (by decide)
  · have H := Hf1 c1
    refine g_p (S' := [.ref a]) hF tX0_leaves_ok 4 1 rfl rfl rfl rfl ?_
    refine g_getR hF (dAt tX0_leaves_ok 5 rfl rfl) flX0_33 hS.1 rfl ?_
    refine g_p (S' := [.ref a, .ref (a + 1)]) hF tX0_leaves_ok 6 1 rfl rfl rfl rfl ?_
    refine g_getI hF (dAt tX0_leaves_ok 7 rfl rfl) flX0_37 hS.1 rfl ?_
    refine g_p (S' := [.int x1, .int ((((σ a 4) - 1) * 6) + 5), .ref (a + 1)]) hF tX0_leaves_ok 8 7 rfl rfl rfl rfl ?_
    obtain ⟨s2, e3, H⟩ := ob H
    refine g_ist hF (dAt tX0_leaves_ok 15 rfl rfl) hS.2 e3 ?_
    exact g_vret hF (en_v H hE) (dAt tX0_leaves_ok 16 rfl rfl) (by decide) (by decide)
def X0_bears_f (a : Nat) (n : Nat) (x1 : Int32) (σ : Sig) : Option (Sig) := (pI σ a 5 x1).bind fun s1 => some s1
set_option maxRecDepth 4000 in
set_option maxHeartbeats 1000000 in
theorem X0_bears_ok {D : Nat} {τ : Tau} {nx : Nat} {a : Nat} {n : Nat} {x1 : Int32} {σ : Sig} {res : Sig} (hD : 1 ≤ D) (hS : ShX0 τ a n) (H : X0_bears_f a n x1 σ = some res) : Ok D 0 0 yX0_bears cX0_bears 2 none [.ref a, .int x1] (τ, σ, nx) none (τ, res, nx) := by
  refine ok_of (by decide +kernel) rfl (Nat.le_of_ble_eq_true rfl) (fun K X hF hE hN L0 hL0 => ?_)
  obtain rfl : [some (.ref a), some (.int x1)] = L0 := hL0
  have hF : Fx K X cX0_bears 2 RX0 D 0 0 := hF
  refine g_p (S' := [.int x1, .ref a]) hF tX0_bears_ok 0 2 rfl rfl rfl rfl ?_
  obtain ⟨s1, e2, H⟩ := ob H
  refine g_pI hF (dAt tX0_bears_ok 2 rfl rfl) flX0_9 (Or.inl rfl) hS.1 rfl e2 ?_
  exact g_vret hF (en_v H hE) (dAt tX0_bears_ok 3 rfl rfl) (by decide) (by decide)
def X0_canGoBack_b25 (a : Nat) (n : Nat) (r1 : Nat) (σ : Sig) : Nat → Int32 → Option (Int32)
  | 0, _ => none
  | fu + 1, x2 => if (σ a 4) ≤ x2 then (some 1) else ((ld n (σ (a + 1)) ((x2 * 6) + 0)).bind fun v2 => (X3_has_f r1 v2 σ).bind fun v4 => if v4 = 0 then (some 0) else ((ld 40 (σ (r1 + 3)) v2).bind fun v7 => (ld n (σ (a + 1)) ((x2 * 6) + 5)).bind fun v9 => if v7 = v9 then (X0_canGoBack_b25 a n r1 σ fu (x2 + 1)) else (some 0)))
set_option maxRecDepth 4000 in
set_option maxHeartbeats 1000000 in
theorem X0_canGoBack_b25_ok {K : Kt} {X : Cx} {D : Nat} {τ : Tau} {nx : Nat} {a : Nat} {n : Nat} {r1 : Nat} {res : Int32} {σ : Sig}  (hD : 2 ≤ D) (hF : Fx K X cX0_canGoBack 4 RX0 D 0 0) (hS : ShX0 τ a n) (hr1 : ShX3 τ r1) (hE : En K X (some .boolean) 0 0 (some (.int res)) (τ, σ, nx)) : ∀ (fu : Nat) (x2 : Int32), X0_canGoBack_b25 a n r1 σ fu x2 = some res → G K X 4 0 0 25 [some (.ref a), some (.ref r1), some (.int x2), none] [] (τ, σ, nx)
  | 0, _, H => nomatch H
  | fu + 1, x2, H => by
    refine g_p (S' := [.ref a, .int x2]) hF tX0_canGoBack_ok 15 2 rfl rfl rfl rfl ?_
    refine g_getI hF (dAt tX0_canGoBack_ok 17 rfl rfl) flX0_37 hS.1 rfl ?_
    obtain ⟨Ht1, Hf1⟩ := oi H
    refine g_icmp_ge hF (dAt tX0_canGoBack_ok 18 rfl rfl) rfl (fun c1 => ?_) (fun c1 => ?_)
    · have H := Ht1 c1
      refine g_p (S' := [.int 1]) hF tX0_canGoBack_ok 49 1 rfl rfl rfl rfl ?_
      exact g_zret hF (en_i H hE) (Or.inr rfl) (dAt tX0_canGoBack_ok 50 rfl rfl) (by decide) (by decide)
    · have H := Hf1 c1
      refine g_p (S' := [.ref a]) hF tX0_canGoBack_ok 19 1 rfl rfl rfl rfl ?_
      refine g_getR hF (dAt tX0_canGoBack_ok 20 rfl rfl) flX0_33 hS.1 rfl ?_
      refine g_p (S' := [.int ((x2 * 6) + 0), .ref (a + 1)]) hF tX0_canGoBack_ok 21 5 rfl rfl rfl rfl ?_
      obtain ⟨v2, e3, H⟩ := ob H
      refine g_ild hF (dAt tX0_canGoBack_ok 26 rfl rfl) hS.2 e3 ?_
      refine g_p (L' := [some (.ref a), some (.ref r1), some (.int x2), some (.int v2)]) (S' := [.int v2, .ref r1]) hF tX0_canGoBack_ok 27 3 rfl rfl rfl rfl ?_
      obtain ⟨v4, e5, H⟩ := ob H
      refine g_cV (S := []) hF (X3_has_ok (Nat.le_refl _) hr1 e5 K) mbX3_has mvX3_has mlX0_40 (by omega) (by decide) (dAt tX0_canGoBack_ok 30 rfl rfl) hr1.1 rfl rfl rfl (Nat.le_of_ble_eq_true rfl) rfl rfl (by decide) (by decide) rfl ?_
      obtain ⟨Ht6, Hf6⟩ := oi H
      refine g_if_eq hF (dAt tX0_canGoBack_ok 31 rfl rfl) rfl (fun c6 => ?_) (fun c6 => ?_)
      · have H := Ht6 c6
        refine g_p (S' := [.int 0]) hF tX0_canGoBack_ok 45 1 rfl rfl rfl rfl ?_
        exact g_zret hF (en_i H hE) (Or.inl rfl) (dAt tX0_canGoBack_ok 46 rfl rfl) (by decide) (by decide)
      · have H := Hf6 c6
        refine g_p (S' := [.ref r1]) hF tX0_canGoBack_ok 32 1 rfl rfl rfl rfl ?_
        refine g_getR hF (dAt tX0_canGoBack_ok 33 rfl rfl) flX0_55 hr1.1 rfl ?_
        refine g_p (S' := [.int v2, .ref (r1 + 3)]) hF tX0_canGoBack_ok 34 1 rfl rfl rfl rfl ?_
        obtain ⟨v7, e8, H⟩ := ob H
        refine g_ild hF (dAt tX0_canGoBack_ok 35 rfl rfl) hr1.2.2.2.1 e8 ?_
        refine g_p (S' := [.ref a, .int v7]) hF tX0_canGoBack_ok 36 1 rfl rfl rfl rfl ?_
        refine g_getR hF (dAt tX0_canGoBack_ok 37 rfl rfl) flX0_33 hS.1 rfl ?_
        refine g_p (S' := [.int ((x2 * 6) + 5), .ref (a + 1), .int v7]) hF tX0_canGoBack_ok 38 5 rfl rfl rfl rfl ?_
        obtain ⟨v9, e10, H⟩ := ob H
        refine g_ild hF (dAt tX0_canGoBack_ok 43 rfl rfl) hS.2 e10 ?_
        obtain ⟨Ht11, Hf11⟩ := oi H
        refine g_icmp_eq hF (dAt tX0_canGoBack_ok 44 rfl rfl) rfl (fun c11 => ?_) (fun c11 => ?_)
        · have H := Ht11 c11
          refine g_p (L' := [some (.ref a), some (.ref r1), some (.int (x2 + 1)), some (.int v2)]) (S' := []) hF tX0_canGoBack_ok 47 1 rfl rfl rfl rfl ?_
          refine g_goto hF (dAt tX0_canGoBack_ok 48 rfl rfl) rfl ?_
          refine g_m [true, true, true, false] rfl ?_
          exact X0_canGoBack_b25_ok hD hF hS hr1 hE fu _ H
        · have H := Hf11 c11
          refine g_p (S' := [.int 0]) hF tX0_canGoBack_ok 45 1 rfl rfl rfl rfl ?_
          exact g_zret hF (en_i H hE) (Or.inl rfl) (dAt tX0_canGoBack_ok 46 rfl rfl) (by decide) (by decide)
def X0_canGoBack_f (a : Nat) (n : Nat) (r1 : Nat) (σ : Sig) : Option (Int32) := if (σ a 5) = (-1) then (X0_canGoBack_b25 a n r1 σ FU 0) else (if (σ a 5) = ((σ r1 0) - 1) then (X0_canGoBack_b25 a n r1 σ FU 0) else (some 0))
set_option maxRecDepth 4000 in
set_option maxHeartbeats 1000000 in
theorem X0_canGoBack_ok {D : Nat} {τ : Tau} {nx : Nat} {a : Nat} {n : Nat} {r1 : Nat} {σ : Sig} {res : Int32} (hD : 2 ≤ D) (hS : ShX0 τ a n) (hr1 : ShX3 τ r1) (H : X0_canGoBack_f a n r1 σ = some res) : Ok D 0 0 yX0_canGoBack cX0_canGoBack 4 (some .boolean) [.ref a, .ref r1] (τ, σ, nx) (some (.int res)) (τ, σ, nx) := by
  refine ok_of (by decide +kernel) rfl (Nat.le_of_ble_eq_true rfl) (fun K X hF hE hN L0 hL0 => ?_)
  obtain rfl : [some (.ref a), some (.ref r1), none, none] = L0 := hL0
  have hF : Fx K X cX0_canGoBack 4 RX0 D 0 0 := hF
  refine g_p (S' := [.ref a]) hF tX0_canGoBack_ok 0 1 rfl rfl rfl rfl ?_
  refine g_getI hF (dAt tX0_canGoBack_ok 1 rfl rfl) flX0_9 hS.1 rfl ?_
  refine g_p (S' := [.int (-1), .int (σ a 5)]) hF tX0_canGoBack_ok 2 1 rfl rfl rfl rfl ?_
  obtain ⟨Ht1, Hf1⟩ := oi H
  refine g_icmp_eq hF (dAt tX0_canGoBack_ok 3 rfl rfl) rfl (fun c1 => ?_) (fun c1 => ?_)
  · have H := Ht1 c1
    refine g_p (L' := [some (.ref a), some (.ref r1), some (.int 0), none]) (S' := []) hF tX0_canGoBack_ok 13 2 rfl rfl rfl rfl ?_
    exact X0_canGoBack_b25_ok hD hF hS hr1 hE FU _ H
  · have H := Hf1 c1
    refine g_p (S' := [.ref a]) hF tX0_canGoBack_ok 4 1 rfl rfl rfl rfl ?_
    refine g_getI hF (dAt tX0_canGoBack_ok 5 rfl rfl) flX0_9 hS.1 rfl ?_
    refine g_p (S' := [.ref r1, .int (σ a 5)]) hF tX0_canGoBack_ok 6 1 rfl rfl rfl rfl ?_
    refine g_getI hF (dAt tX0_canGoBack_ok 7 rfl rfl) flX0_58 hr1.1 rfl ?_
    refine g_p (S' := [.int ((σ r1 0) - 1), .int (σ a 5)]) hF tX0_canGoBack_ok 8 2 rfl rfl rfl rfl ?_
    obtain ⟨Ht2, Hf2⟩ := oi H
    refine g_icmp_eq hF (dAt tX0_canGoBack_ok 10 rfl rfl) rfl (fun c2 => ?_) (fun c2 => ?_)
    · have H := Ht2 c2
      refine g_p (L' := [some (.ref a), some (.ref r1), some (.int 0), none]) (S' := []) hF tX0_canGoBack_ok 13 2 rfl rfl rfl rfl ?_
      exact X0_canGoBack_b25_ok hD hF hS hr1 hE FU _ H
    · have H := Hf2 c2
      refine g_p (S' := [.int 0]) hF tX0_canGoBack_ok 11 1 rfl rfl rfl rfl ?_
      exact g_zret hF (en_i H hE) (Or.inl rfl) (dAt tX0_canGoBack_ok 12 rfl rfl) (by decide) (by decide)
def X0_goBack_b124 (a : Nat) (n : Nat) (r1 : Nat) (r2 : Nat) (σ : Sig) : Option (Sig) := (X4_pay_f r2 (σ a 1) (σ a 0) (σ a 2) σ).bind fun s1 => some s1
set_option maxRecDepth 4000 in
set_option maxHeartbeats 1000000 in
theorem X0_goBack_b124_ok {K : Kt} {X : Cx} {D : Nat} {τ : Tau} {nx : Nat} {a : Nat} {n : Nat} {r1 : Nat} {r2 : Nat} {res : Sig}  (hD : 3 ≤ D) (hF : Fx K X cX0_goBack 6 RX0 D 0 0) (hS : ShX0 τ a n) (hr1 : ShX3 τ r1) (hr2 : ShX4 τ r2) (hE : En K X none 0 0 none (τ, res, nx)) {σ : Sig} (H : X0_goBack_b124 a n r1 r2 σ = some res) : G K X 6 0 0 124 [some (.ref a), none, some (.ref r2), none, none, none] [] (τ, σ, nx) := by
  refine g_p (S' := [.ref a, .ref r2]) hF tX0_goBack_ok 73 2 rfl rfl rfl rfl ?_
  refine g_getI hF (dAt tX0_goBack_ok 75 rfl rfl) flX0_18 hS.1 rfl ?_
  refine g_p (S' := [.ref a, .int (σ a 1), .ref r2]) hF tX0_goBack_ok 76 1 rfl rfl rfl rfl ?_
  refine g_getI hF (dAt tX0_goBack_ok 77 rfl rfl) flX0_15 hS.1 rfl ?_
  refine g_p (S' := [.ref a, .int (σ a 0), .int (σ a 1), .ref r2]) hF tX0_goBack_ok 78 1 rfl rfl rfl rfl ?_
  refine g_getI hF (dAt tX0_goBack_ok 79 rfl rfl) flX0_21 hS.1 rfl ?_
  obtain ⟨s1, e2, H⟩ := ob H
  refine g_cV (S := []) hF (X4_pay_ok (Nat.le_refl _) hr2 e2 K) mbX4_pay mvX4_pay mlX0_61 (by omega) (by decide) (dAt tX0_goBack_ok 80 rfl rfl) hr2.1 rfl rfl rfl (Nat.le_of_ble_eq_true rfl) rfl rfl (by decide) (by decide) rfl ?_
  exact g_vret hF (en_v H hE) (dAt tX0_goBack_ok 81 rfl rfl) (by decide) (by decide)
def X0_goBack_b2 (a : Nat) (n : Nat) (r1 : Nat) (r2 : Nat) : Nat → Int32 → Sig → Option (Sig)
  | 0, _, _ => none
  | fu + 1, x3, σ => if (σ a 4) ≤ x3 then (if (σ a 5) = (-1) then (X0_goBack_b124 a n r1 r2 σ) else ((pI σ r1 0 ((σ r1 0) - 1)).bind fun s3 => X0_goBack_b124 a n r1 r2 s3)) else ((ld n (σ (a + 1)) ((x3 * 6) + 0)).bind fun v5 => (X3_has_f r1 v5 σ).bind fun v7 => if v7 = 0 then (X0_goBack_b2 a n r1 r2 fu (x3 + 1) σ) else ((ld n (σ (a + 1)) ((x3 * 6) + 1)).bind fun v10 => (st 40 σ (r1 + 1) v5 v10).bind fun s12 => (ld n (s12 (a + 1)) ((x3 * 6) + 2)).bind fun v14 => (st 40 s12 (r1 + 2) v5 v14).bind fun s16 => (ld n (s16 (a + 1)) ((x3 * 6) + 3)).bind fun v18 => (st 40 s16 (r1 + 5) v5 v18).bind fun s20 => (ld n (s20 (a + 1)) ((x3 * 6) + 4)).bind fun v22 => (st 40 s20 (r1 + 3) v5 v22).bind fun s24 => X0_goBack_b2 a n r1 r2 fu (x3 + 1) s24))
set_option maxRecDepth 4000 in
set_option maxHeartbeats 1000000 in
theorem X0_goBack_b2_ok {K : Kt} {X : Cx} {D : Nat} {τ : Tau} {nx : Nat} {a : Nat} {n : Nat} {r1 : Nat} {r2 : Nat} {res : Sig}  (hD : 3 ≤ D) (hF : Fx K X cX0_goBack 6 RX0 D 0 0) (hS : ShX0 τ a n) (hr1 : ShX3 τ r1) (hr2 : ShX4 τ r2) (hE : En K X none 0 0 none (τ, res, nx)) : ∀ (fu : Nat) (x3 : Int32) (σ : Sig), X0_goBack_b2 a n r1 r2 fu x3 σ = some res → G K X 6 0 0 2 [some (.ref a), some (.ref r1), some (.ref r2), some (.int x3), none, none] [] (τ, σ, nx)
  | 0, _, _, H => nomatch H
  | fu + 1, x3, σ, H => by
    refine g_p (S' := [.ref a, .int x3]) hF tX0_goBack_ok 2 2 rfl rfl rfl rfl ?_
    refine g_getI hF (dAt tX0_goBack_ok 4 rfl rfl) flX0_37 hS.1 rfl ?_
    obtain ⟨Ht1, Hf1⟩ := oi H
    refine g_icmp_ge hF (dAt tX0_goBack_ok 5 rfl rfl) rfl (fun c1 => ?_) (fun c1 => ?_)
    · have H := Ht1 c1
      refine g_p (S' := [.ref a]) hF tX0_goBack_ok 63 1 rfl rfl rfl rfl ?_
      refine g_getI hF (dAt tX0_goBack_ok 64 rfl rfl) flX0_9 hS.1 rfl ?_
      refine g_p (S' := [.int (-1), .int (σ a 5)]) hF tX0_goBack_ok 65 1 rfl rfl rfl rfl ?_
      obtain ⟨Ht2, Hf2⟩ := oi H
      refine g_icmp_eq hF (dAt tX0_goBack_ok 66 rfl rfl) rfl (fun c2 => ?_) (fun c2 => ?_)
      · have H := Ht2 c2
        refine g_m [true, false, true, false, false, false] rfl ?_
        exact X0_goBack_b124_ok hD hF hS hr1 hr2 hE H
      · have H := Hf2 c2
        refine g_p (S' := [.ref r1, .ref r1]) hF tX0_goBack_ok 67 2 rfl rfl rfl rfl ?_
        refine g_getI hF (dAt tX0_goBack_ok 69 rfl rfl) flX0_58 hr1.1 rfl ?_
        refine g_p (S' := [.int ((σ r1 0) - 1), .ref r1]) hF tX0_goBack_ok 70 2 rfl rfl rfl rfl ?_
        obtain ⟨s3, e4, H⟩ := ob H
        refine g_pI hF (dAt tX0_goBack_ok 72 rfl rfl) flX0_58 (Or.inl rfl) hr1.1 rfl e4 ?_
        refine g_m [true, false, true, false, false, false] rfl ?_
        exact X0_goBack_b124_ok hD hF hS hr1 hr2 hE H
    · have H := Hf1 c1
      refine g_p (L' := [some (.ref a), some (.ref r1), some (.ref r2), some (.int x3), some (.int (x3 * 6)), none]) (S' := [.ref a]) hF tX0_goBack_ok 6 5 rfl rfl rfl rfl ?_
      refine g_getR hF (dAt tX0_goBack_ok 11 rfl rfl) flX0_33 hS.1 rfl ?_
      refine g_p (S' := [.int ((x3 * 6) + 0), .ref (a + 1)]) hF tX0_goBack_ok 12 3 rfl rfl rfl rfl ?_
      obtain ⟨v5, e6, H⟩ := ob H
      refine g_ild hF (dAt tX0_goBack_ok 15 rfl rfl) hS.2 e6 ?_
      refine g_p (L' := [some (.ref a), some (.ref r1), some (.ref r2), some (.int x3), some (.int (x3 * 6)), some (.int v5)]) (S' := [.int v5, .ref r1]) hF tX0_goBack_ok 16 3 rfl rfl rfl rfl ?_
      obtain ⟨v7, e8, H⟩ := ob H
      refine g_cV (S := []) hF (X3_has_ok (Nat.le_refl _) hr1 e8 K) mbX3_has mvX3_has mlX0_40 (by omega) (by decide) (dAt tX0_goBack_ok 19 rfl rfl) hr1.1 rfl rfl rfl (Nat.le_of_ble_eq_true rfl) rfl rfl (by decide) (by decide) rfl ?_
      obtain ⟨Ht9, Hf9⟩ := oi H
      refine g_if_eq hF (dAt tX0_goBack_ok 20 rfl rfl) rfl (fun c9 => ?_) (fun c9 => ?_)
      · have H := Ht9 c9
        refine g_p (L' := [some (.ref a), some (.ref r1), some (.ref r2), some (.int (x3 + 1)), some (.int (x3 * 6)), some (.int v5)]) (S' := []) hF tX0_goBack_ok 61 1 rfl rfl rfl rfl ?_
        refine g_goto hF (dAt tX0_goBack_ok 62 rfl rfl) rfl ?_
        refine g_m [true, true, true, true, false, false] rfl ?_
        exact X0_goBack_b2_ok hD hF hS hr1 hr2 hE fu _ _ H
      · have H := Hf9 c9
        refine g_p (S' := [.ref r1]) hF tX0_goBack_ok 21 1 rfl rfl rfl rfl ?_
        refine g_getR hF (dAt tX0_goBack_ok 22 rfl rfl) flX0_46 hr1.1 rfl ?_
        refine g_p (S' := [.ref a, .int v5, .ref (r1 + 1)]) hF tX0_goBack_ok 23 2 rfl rfl rfl rfl ?_
        refine g_getR hF (dAt tX0_goBack_ok 25 rfl rfl) flX0_33 hS.1 rfl ?_
        refine g_p (S' := [.int ((x3 * 6) + 1), .ref (a + 1), .int v5, .ref (r1 + 1)]) hF tX0_goBack_ok 26 3 rfl rfl rfl rfl ?_
        obtain ⟨v10, e11, H⟩ := ob H
        refine g_ild hF (dAt tX0_goBack_ok 29 rfl rfl) hS.2 e11 ?_
        obtain ⟨s12, e13, H⟩ := ob H
        refine g_ist hF (dAt tX0_goBack_ok 30 rfl rfl) hr1.2.1 e13 ?_
        refine g_p (S' := [.ref r1]) hF tX0_goBack_ok 31 1 rfl rfl rfl rfl ?_
        refine g_getR hF (dAt tX0_goBack_ok 32 rfl rfl) flX0_49 hr1.1 rfl ?_
        refine g_p (S' := [.ref a, .int v5, .ref (r1 + 2)]) hF tX0_goBack_ok 33 2 rfl rfl rfl rfl ?_
        refine g_getR hF (dAt tX0_goBack_ok 35 rfl rfl) flX0_33 hS.1 rfl ?_
        refine g_p (S' := [.int ((x3 * 6) + 2), .ref (a + 1), .int v5, .ref (r1 + 2)]) hF tX0_goBack_ok 36 3 rfl rfl rfl rfl ?_
        obtain ⟨v14, e15, H⟩ := ob H
        refine g_ild hF (dAt tX0_goBack_ok 39 rfl rfl) hS.2 e15 ?_
        obtain ⟨s16, e17, H⟩ := ob H
        refine g_ist hF (dAt tX0_goBack_ok 40 rfl rfl) hr1.2.2.1 e17 ?_
        refine g_p (S' := [.ref r1]) hF tX0_goBack_ok 41 1 rfl rfl rfl rfl ?_
        refine g_getR hF (dAt tX0_goBack_ok 42 rfl rfl) flX0_52 hr1.1 rfl ?_
        refine g_p (S' := [.ref a, .int v5, .ref (r1 + 5)]) hF tX0_goBack_ok 43 2 rfl rfl rfl rfl ?_
        refine g_getR hF (dAt tX0_goBack_ok 45 rfl rfl) flX0_33 hS.1 rfl ?_
        refine g_p (S' := [.int ((x3 * 6) + 3), .ref (a + 1), .int v5, .ref (r1 + 5)]) hF tX0_goBack_ok 46 3 rfl rfl rfl rfl ?_
        obtain ⟨v18, e19, H⟩ := ob H
        refine g_ild hF (dAt tX0_goBack_ok 49 rfl rfl) hS.2 e19 ?_
        obtain ⟨s20, e21, H⟩ := ob H
        refine g_ist hF (dAt tX0_goBack_ok 50 rfl rfl) hr1.2.2.2.2.2.1 e21 ?_
        refine g_p (S' := [.ref r1]) hF tX0_goBack_ok 51 1 rfl rfl rfl rfl ?_
        refine g_getR hF (dAt tX0_goBack_ok 52 rfl rfl) flX0_55 hr1.1 rfl ?_
        refine g_p (S' := [.ref a, .int v5, .ref (r1 + 3)]) hF tX0_goBack_ok 53 2 rfl rfl rfl rfl ?_
        refine g_getR hF (dAt tX0_goBack_ok 55 rfl rfl) flX0_33 hS.1 rfl ?_
        refine g_p (S' := [.int ((x3 * 6) + 4), .ref (a + 1), .int v5, .ref (r1 + 3)]) hF tX0_goBack_ok 56 3 rfl rfl rfl rfl ?_
        obtain ⟨v22, e23, H⟩ := ob H
        refine g_ild hF (dAt tX0_goBack_ok 59 rfl rfl) hS.2 e23 ?_
        obtain ⟨s24, e25, H⟩ := ob H
        refine g_ist hF (dAt tX0_goBack_ok 60 rfl rfl) hr1.2.2.2.1 e25 ?_
        refine g_p (L' := [some (.ref a), some (.ref r1), some (.ref r2), some (.int (x3 + 1)), some (.int (x3 * 6)), some (.int v5)]) (S' := []) hF tX0_goBack_ok 61 1 rfl rfl rfl rfl ?_
        refine g_goto hF (dAt tX0_goBack_ok 62 rfl rfl) rfl ?_
        refine g_m [true, true, true, true, false, false] rfl ?_
        exact X0_goBack_b2_ok hD hF hS hr1 hr2 hE fu _ _ H
def X0_goBack_f (a : Nat) (n : Nat) (r1 : Nat) (r2 : Nat) (σ : Sig) : Option (Sig) := X0_goBack_b2 a n r1 r2 FU 0 σ
set_option maxRecDepth 4000 in
set_option maxHeartbeats 1000000 in
theorem X0_goBack_ok {D : Nat} {τ : Tau} {nx : Nat} {a : Nat} {n : Nat} {r1 : Nat} {r2 : Nat} {σ : Sig} {res : Sig} (hD : 3 ≤ D) (hS : ShX0 τ a n) (hr1 : ShX3 τ r1) (hr2 : ShX4 τ r2) (H : X0_goBack_f a n r1 r2 σ = some res) : Ok D 0 0 yX0_goBack cX0_goBack 6 none [.ref a, .ref r1, .ref r2] (τ, σ, nx) none (τ, res, nx) := by
  refine ok_of (by decide +kernel) rfl (Nat.le_of_ble_eq_true rfl) (fun K X hF hE hN L0 hL0 => ?_)
  obtain rfl : [some (.ref a), some (.ref r1), some (.ref r2), none, none, none] = L0 := hL0
  have hF : Fx K X cX0_goBack 6 RX0 D 0 0 := hF
  refine g_p (L' := [some (.ref a), some (.ref r1), some (.ref r2), some (.int 0), none, none]) (S' := []) hF tX0_goBack_ok 0 2 rfl rfl rfl rfl ?_
  exact X0_goBack_b2_ok hD hF hS hr1 hr2 hE FU _ _ H

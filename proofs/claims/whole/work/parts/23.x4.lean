/-! SilenceForMoney$People -/
def X4_copyFrom_f (a : Nat) (r1 : Nat) (σ : Sig) : Option (Sig) := (pI σ a 0 (σ r1 0)).bind fun s1 => (cp 12 12 s1 (r1 + 1) 0 (a + 1) 0 12).bind fun s3 => (cp 12 12 s3 (r1 + 2) 0 (a + 2) 0 12).bind fun s5 => (cp 12 12 s5 (r1 + 3) 0 (a + 3) 0 12).bind fun s7 => (cp 12 12 s7 (r1 + 4) 0 (a + 4) 0 12).bind fun s9 => (cp 12 12 s9 (r1 + 5) 0 (a + 5) 0 12).bind fun s11 => (cp 12 12 s11 (r1 + 6) 0 (a + 6) 0 12).bind fun s13 => (cp 12 12 s13 (r1 + 7) 0 (a + 7) 0 12).bind fun s15 => (cp 12 12 s15 (r1 + 8) 0 (a + 8) 0 12).bind fun s17 => (cp 12 12 s17 (r1 + 9) 0 (a + 9) 0 12).bind fun s19 => (cp 12 12 s19 (r1 + 10) 0 (a + 10) 0 12).bind fun s21 => some s21
set_option maxRecDepth 4000 in
set_option maxHeartbeats 1000000 in
theorem X4_copyFrom_ok {D : Nat} {τ : Tau} {nx : Nat} {a : Nat} {r1 : Nat} {σ : Sig} {res : Sig} (hD : 1 ≤ D) (hS : ShX4 τ a) (hr1 : ShX4 τ r1) (H : X4_copyFrom_f a r1 σ = some res) : Ok D 0 0 yX4_copyFrom cX4_copyFrom 2 none [.ref a, .ref r1] (τ, σ, nx) none (τ, res, nx) := by
  refine ok_of (by decide +kernel) rfl (Nat.le_of_ble_eq_true rfl) (fun K X hF hE hN L0 hL0 => ?_)
  obtain rfl : [some (.ref a), some (.ref r1)] = L0 := hL0
  have hF : Fx K X cX4_copyFrom 2 RX4 D 0 0 := hF
  refine g_p (S' := [.ref r1, .ref a]) hF tX4_copyFrom_ok 0 2 rfl rfl rfl rfl ?_
  refine g_getI hF (dAt tX4_copyFrom_ok 2 rfl rfl) flX4_42 hr1.1 rfl ?_
  obtain ⟨s1, e2, H⟩ := ob H
  refine g_pI hF (dAt tX4_copyFrom_ok 3 rfl rfl) flX4_42 (Or.inl rfl) hS.1 rfl e2 ?_
  refine g_p (S' := [.ref r1]) hF tX4_copyFrom_ok 4 1 rfl rfl rfl rfl ?_
  refine g_getR hF (dAt tX4_copyFrom_ok 5 rfl rfl) flX4_9 hr1.1 rfl ?_
  refine g_p (S' := [.ref a, .int 0, .ref (r1 + 1)]) hF tX4_copyFrom_ok 6 2 rfl rfl rfl rfl ?_
  refine g_getR hF (dAt tX4_copyFrom_ok 8 rfl rfl) flX4_9 hS.1 rfl ?_
  refine g_p (S' := [.int 12, .int 0, .ref (a + 1), .int 0, .ref (r1 + 1)]) hF tX4_copyFrom_ok 9 2 rfl rfl rfl rfl ?_
  obtain ⟨s3, e4, H⟩ := ob H
  refine g_copy hF mlX4_46 (dAt tX4_copyFrom_ok 11 rfl rfl) hr1.2.1 hS.2.1 e4 (by omega) (Nat.le_of_ble_eq_true rfl) ?_
  refine g_p (S' := [.ref r1]) hF tX4_copyFrom_ok 12 1 rfl rfl rfl rfl ?_
  refine g_getR hF (dAt tX4_copyFrom_ok 13 rfl rfl) flX4_15 hr1.1 rfl ?_
  refine g_p (S' := [.ref a, .int 0, .ref (r1 + 2)]) hF tX4_copyFrom_ok 14 2 rfl rfl rfl rfl ?_
  refine g_getR hF (dAt tX4_copyFrom_ok 16 rfl rfl) flX4_15 hS.1 rfl ?_
  refine g_p (S' := [.int 12, .int 0, .ref (a + 2), .int 0, .ref (r1 + 2)]) hF tX4_copyFrom_ok 17 2 rfl rfl rfl rfl ?_
  obtain ⟨s5, e6, H⟩ := ob H
  refine g_copy hF mlX4_46 (dAt tX4_copyFrom_ok 19 rfl rfl) hr1.2.2.1 hS.2.2.1 e6 (by omega) (Nat.le_of_ble_eq_true rfl) ?_
  refine g_p (S' := [.ref r1]) hF tX4_copyFrom_ok 20 1 rfl rfl rfl rfl ?_
  refine g_getR hF (dAt tX4_copyFrom_ok 21 rfl rfl) flX4_18 hr1.1 rfl ?_
  refine g_p (S' := [.ref a, .int 0, .ref (r1 + 3)]) hF tX4_copyFrom_ok 22 2 rfl rfl rfl rfl ?_
  refine g_getR hF (dAt tX4_copyFrom_ok 24 rfl rfl) flX4_18 hS.1 rfl ?_
  refine g_p (S' := [.int 12, .int 0, .ref (a + 3), .int 0, .ref (r1 + 3)]) hF tX4_copyFrom_ok 25 2 rfl rfl rfl rfl ?_
  obtain ⟨s7, e8, H⟩ := ob H
  refine g_copy hF mlX4_46 (dAt tX4_copyFrom_ok 27 rfl rfl) hr1.2.2.2.1 hS.2.2.2.1 e8 (by omega) (Nat.le_of_ble_eq_true rfl) ?_
  refine g_p (S' := [.ref r1]) hF tX4_copyFrom_ok 28 1 rfl rfl rfl rfl ?_
  refine g_getR hF (dAt tX4_copyFrom_ok 29 rfl rfl) flX4_21 hr1.1 rfl ?_
  refine g_p (S' := [.ref a, .int 0, .ref (r1 + 4)]) hF tX4_copyFrom_ok 30 2 rfl rfl rfl rfl ?_
  refine g_getR hF (dAt tX4_copyFrom_ok 32 rfl rfl) flX4_21 hS.1 rfl ?_
  refine g_p (S' := [.int 12, .int 0, .ref (a + 4), .int 0, .ref (r1 + 4)]) hF tX4_copyFrom_ok 33 2 rfl rfl rfl rfl ?_
  obtain ⟨s9, e10, H⟩ := ob H
  refine g_copy hF mlX4_46 (dAt tX4_copyFrom_ok 35 rfl rfl) hr1.2.2.2.2.1 hS.2.2.2.2.1 e10 (by omega) (Nat.le_of_ble_eq_true rfl) ?_
  refine g_p (S' := [.ref r1]) hF tX4_copyFrom_ok 36 1 rfl rfl rfl rfl ?_
  refine g_getR hF (dAt tX4_copyFrom_ok 37 rfl rfl) flX4_24 hr1.1 rfl ?_
  refine g_p (S' := [.ref a, .int 0, .ref (r1 + 5)]) hF tX4_copyFrom_ok 38 2 rfl rfl rfl rfl ?_
  refine g_getR hF (dAt tX4_copyFrom_ok 40 rfl rfl) flX4_24 hS.1 rfl ?_
  refine g_p (S' := [.int 12, .int 0, .ref (a + 5), .int 0, .ref (r1 + 5)]) hF tX4_copyFrom_ok 41 2 rfl rfl rfl rfl ?_
  obtain ⟨s11, e12, H⟩ := ob H
  refine g_copy hF mlX4_46 (dAt tX4_copyFrom_ok 43 rfl rfl) hr1.2.2.2.2.2.1 hS.2.2.2.2.2.1 e12 (by omega) (Nat.le_of_ble_eq_true rfl) ?_
  refine g_p (S' := [.ref r1]) hF tX4_copyFrom_ok 44 1 rfl rfl rfl rfl ?_
  refine g_getR hF (dAt tX4_copyFrom_ok 45 rfl rfl) flX4_27 hr1.1 rfl ?_
  refine g_p (S' := [.ref a, .int 0, .ref (r1 + 6)]) hF tX4_copyFrom_ok 46 2 rfl rfl rfl rfl ?_
  refine g_getR hF (dAt tX4_copyFrom_ok 48 rfl rfl) flX4_27 hS.1 rfl ?_
  refine g_p (S' := [.int 12, .int 0, .ref (a + 6), .int 0, .ref (r1 + 6)]) hF tX4_copyFrom_ok 49 2 rfl rfl rfl rfl ?_
  obtain ⟨s13, e14, H⟩ := ob H
  refine g_copy hF mlX4_46 (dAt tX4_copyFrom_ok 51 rfl rfl) hr1.2.2.2.2.2.2.1 hS.2.2.2.2.2.2.1 e14 (by omega) (Nat.le_of_ble_eq_true rfl) ?_
  refine g_p (S' := [.ref r1]) hF tX4_copyFrom_ok 52 1 rfl rfl rfl rfl ?_
  refine g_getR hF (dAt tX4_copyFrom_ok 53 rfl rfl) flX4_30 hr1.1 rfl ?_
  refine g_p (S' := [.ref a, .int 0, .ref (r1 + 7)]) hF tX4_copyFrom_ok 54 2 rfl rfl rfl rfl ?_
  refine g_getR hF (dAt tX4_copyFrom_ok 56 rfl rfl) flX4_30 hS.1 rfl ?_
  refine g_p (S' := [.int 12, .int 0, .ref (a + 7), .int 0, .ref (r1 + 7)]) hF tX4_copyFrom_ok 57 2 rfl rfl rfl rfl ?_
  obtain ⟨s15, e16, H⟩ := ob H
  refine g_copy hF mlX4_46 (dAt tX4_copyFrom_ok 59 rfl rfl) hr1.2.2.2.2.2.2.2.1 hS.2.2.2.2.2.2.2.1 e16 (by omega) (Nat.le_of_ble_eq_true rfl) ?_
  refine g_p (S' := [.ref r1]) hF tX4_copyFrom_ok 60 1 rfl rfl rfl rfl ?_
  refine g_getR hF (dAt tX4_copyFrom_ok 61 rfl rfl) flX4_33 hr1.1 rfl ?_
  refine g_p (S' := [.ref a, .int 0, .ref (r1 + 8)]) hF tX4_copyFrom_ok 62 2 rfl rfl rfl rfl ?_
  refine g_getR hF (dAt tX4_copyFrom_ok 64 rfl rfl) flX4_33 hS.1 rfl ?_
  refine g_p (S' := [.int 12, .int 0, .ref (a + 8), .int 0, .ref (r1 + 8)]) hF tX4_copyFrom_ok 65 2 rfl rfl rfl rfl ?_
  obtain ⟨s17, e18, H⟩ := ob H
  refine g_copy hF mlX4_46 (dAt tX4_copyFrom_ok 67 rfl rfl) hr1.2.2.2.2.2.2.2.2.1 hS.2.2.2.2.2.2.2.2.1 e18 (by omega) (Nat.le_of_ble_eq_true rfl) ?_
  refine g_p (S' := [.ref r1]) hF tX4_copyFrom_ok 68 1 rfl rfl rfl rfl ?_
  refine g_getR hF (dAt tX4_copyFrom_ok 69 rfl rfl) flX4_36 hr1.1 rfl ?_
  refine g_p (S' := [.ref a, .int 0, .ref (r1 + 9)]) hF tX4_copyFrom_ok 70 2 rfl rfl rfl rfl ?_
  refine g_getR hF (dAt tX4_copyFrom_ok 72 rfl rfl) flX4_36 hS.1 rfl ?_
  refine g_p (S' := [.int 12, .int 0, .ref (a + 9), .int 0, .ref (r1 + 9)]) hF tX4_copyFrom_ok 73 2 rfl rfl rfl rfl ?_
  obtain ⟨s19, e20, H⟩ := ob H
  refine g_copy hF mlX4_46 (dAt tX4_copyFrom_ok 75 rfl rfl) hr1.2.2.2.2.2.2.2.2.2.1 hS.2.2.2.2.2.2.2.2.2.1 e20 (by omega) (Nat.le_of_ble_eq_true rfl) ?_
  refine g_p (S' := [.ref r1]) hF tX4_copyFrom_ok 76 1 rfl rfl rfl rfl ?_
  refine g_getR hF (dAt tX4_copyFrom_ok 77 rfl rfl) flX4_39 hr1.1 rfl ?_
  refine g_p (S' := [.ref a, .int 0, .ref (r1 + 10)]) hF tX4_copyFrom_ok 78 2 rfl rfl rfl rfl ?_
  refine g_getR hF (dAt tX4_copyFrom_ok 80 rfl rfl) flX4_39 hS.1 rfl ?_
  refine g_p (S' := [.int 12, .int 0, .ref (a + 10), .int 0, .ref (r1 + 10)]) hF tX4_copyFrom_ok 81 2 rfl rfl rfl rfl ?_
  obtain ⟨s21, e22, H⟩ := ob H
  refine g_copy hF mlX4_46 (dAt tX4_copyFrom_ok 83 rfl rfl) hr1.2.2.2.2.2.2.2.2.2.2 hS.2.2.2.2.2.2.2.2.2.2 e22 (by omega) (Nat.le_of_ble_eq_true rfl) ?_
  exact g_vret hF (en_v H hE) (dAt tX4_copyFrom_ok 84 rfl rfl) (by decide) (by decide)
def X4_has_f (a : Nat) (x1 : Int32) (σ : Sig) : Option (Int32) := if x1 < 0 then (some 0) else (if (σ a 0) ≤ x1 then (some 0) else (some 1))
set_option maxRecDepth 4000 in
set_option maxHeartbeats 1000000 in
theorem X4_has_ok {D : Nat} {τ : Tau} {nx : Nat} {a : Nat} {x1 : Int32} {σ : Sig} {res : Int32} (hD : 1 ≤ D) (hS : ShX4 τ a) (H : X4_has_f a x1 σ = some res) : Ok D 0 0 yX4_has cX4_has 2 (some .boolean) [.ref a, .int x1] (τ, σ, nx) (some (.int res)) (τ, σ, nx) := by
  refine ok_of (by decide +kernel) rfl (Nat.le_of_ble_eq_true rfl) (fun K X hF hE hN L0 hL0 => ?_)
  obtain rfl : [some (.ref a), some (.int x1)] = L0 := hL0
  have hF : Fx K X cX4_has 2 RX4 D 0 0 := hF
  refine g_p (S' := [.int x1]) hF tX4_has_ok 0 1 rfl rfl rfl rfl ?_
  obtain ⟨Ht1, Hf1⟩ := oi H
  refine g_if_lt hF (dAt tX4_has_ok 1 rfl rfl) rfl (fun c1 => ?_) (fun c1 => ?_)
  · have H := Ht1 c1
    refine g_p (S' := [.int 0]) hF tX4_has_ok 8 1 rfl rfl rfl rfl ?_
    exact g_zret hF (en_i H hE) (Or.inl rfl) (dAt tX4_has_ok 9 rfl rfl) (by decide) (by decide)
  · have H := Hf1 c1
    refine g_p (S' := [.ref a, .int x1]) hF tX4_has_ok 2 2 rfl rfl rfl rfl ?_
    refine g_getI hF (dAt tX4_has_ok 4 rfl rfl) flX4_42 hS.1 rfl ?_
    obtain ⟨Ht2, Hf2⟩ := oi H
    refine g_icmp_ge hF (dAt tX4_has_ok 5 rfl rfl) rfl (fun c2 => ?_) (fun c2 => ?_)
    · have H := Ht2 c2
      refine g_p (S' := [.int 0]) hF tX4_has_ok 8 1 rfl rfl rfl rfl ?_
      exact g_zret hF (en_i H hE) (Or.inl rfl) (dAt tX4_has_ok 9 rfl rfl) (by decide) (by decide)
    · have H := Hf2 c2
      refine g_p (S' := [.int 1]) hF tX4_has_ok 6 1 rfl rfl rfl rfl ?_
      refine g_goto hF (dAt tX4_has_ok 7 rfl rfl) rfl ?_
      exact g_zret hF (en_i H hE) (Or.inr rfl) (dAt tX4_has_ok 9 rfl rfl) (by decide) (by decide)
def X4_isNoChild_f (a : Nat) (x1 : Int32) (σ : Sig) : Option (Int32) := (X4_has_f a x1 σ).bind fun v1 => if v1 = 0 then (some 0) else ((ld 12 (σ (a + 1)) x1).bind fun v4 => if v4 = 1 then (some 0) else (some 1))
set_option maxRecDepth 4000 in
set_option maxHeartbeats 1000000 in
theorem X4_isNoChild_ok {D : Nat} {τ : Tau} {nx : Nat} {a : Nat} {x1 : Int32} {σ : Sig} {res : Int32} (hD : 2 ≤ D) (hS : ShX4 τ a) (H : X4_isNoChild_f a x1 σ = some res) : Ok D 0 0 yX4_isNoChild cX4_isNoChild 2 (some .boolean) [.ref a, .int x1] (τ, σ, nx) (some (.int res)) (τ, σ, nx) := by
  refine ok_of (by decide +kernel) rfl (Nat.le_of_ble_eq_true rfl) (fun K X hF hE hN L0 hL0 => ?_)
  obtain rfl : [some (.ref a), some (.int x1)] = L0 := hL0
  have hF : Fx K X cX4_isNoChild 2 RX4 D 0 0 := hF
  refine g_p (S' := [.int x1, .ref a]) hF tX4_isNoChild_ok 0 2 rfl rfl rfl rfl ?_
  obtain ⟨v1, e2, H⟩ := ob H
  refine g_cV (S := []) hF (X4_has_ok (Nat.le_refl _) hS e2 K) mbX4_has mvX4_has mlX4_52 (by omega) (by decide) (dAt tX4_isNoChild_ok 2 rfl rfl) hS.1 rfl rfl rfl (Nat.le_of_ble_eq_true rfl) rfl rfl (by decide) (by decide) rfl ?_
  obtain ⟨Ht3, Hf3⟩ := oi H
  refine g_if_eq hF (dAt tX4_isNoChild_ok 3 rfl rfl) rfl (fun c3 => ?_) (fun c3 => ?_)
  · have H := Ht3 c3
    refine g_p (S' := [.int 0]) hF tX4_isNoChild_ok 12 1 rfl rfl rfl rfl ?_
    exact g_zret hF (en_i H hE) (Or.inl rfl) (dAt tX4_isNoChild_ok 13 rfl rfl) (by decide) (by decide)
  · have H := Hf3 c3
    refine g_p (S' := [.ref a]) hF tX4_isNoChild_ok 4 1 rfl rfl rfl rfl ?_
    refine g_getR hF (dAt tX4_isNoChild_ok 5 rfl rfl) flX4_9 hS.1 rfl ?_
    refine g_p (S' := [.int x1, .ref (a + 1)]) hF tX4_isNoChild_ok 6 1 rfl rfl rfl rfl ?_
    obtain ⟨v4, e5, H⟩ := ob H
    refine g_ild hF (dAt tX4_isNoChild_ok 7 rfl rfl) hS.2.1 e5 ?_
    refine g_p (S' := [.int 1, .int v4]) hF tX4_isNoChild_ok 8 1 rfl rfl rfl rfl ?_
    obtain ⟨Ht6, Hf6⟩ := oi H
    refine g_icmp_eq hF (dAt tX4_isNoChild_ok 9 rfl rfl) rfl (fun c6 => ?_) (fun c6 => ?_)
    · have H := Ht6 c6
      refine g_p (S' := [.int 0]) hF tX4_isNoChild_ok 12 1 rfl rfl rfl rfl ?_
      exact g_zret hF (en_i H hE) (Or.inl rfl) (dAt tX4_isNoChild_ok 13 rfl rfl) (by decide) (by decide)
    · have H := Hf6 c6
      refine g_p (S' := [.int 1]) hF tX4_isNoChild_ok 10 1 rfl rfl rfl rfl ?_
      refine g_goto hF (dAt tX4_isNoChild_ok 11 rfl rfl) rfl ?_
      exact g_zret hF (en_i H hE) (Or.inr rfl) (dAt tX4_isNoChild_ok 13 rfl rfl) (by decide) (by decide)
def X4_giveParent_b27 (a : Nat) (x1 x2 : Int32) (σ : Sig) : Option (Int32 × Sig) := (st 12 σ (a + 7) x1 x2).bind fun s1 => some (1, s1)
set_option maxRecDepth 4000 in
set_option maxHeartbeats 1000000 in
theorem X4_giveParent_b27_ok {K : Kt} {X : Cx} {D : Nat} {τ : Tau} {nx : Nat} {a : Nat} {res : Int32} {rsg : Sig}  (hD : 3 ≤ D) (hF : Fx K X cX4_giveParent 3 RX4 D 0 0) (hS : ShX4 τ a) (hE : En K X (some .boolean) 0 0 (some (.int res)) (τ, rsg, nx)) {x1 x2 : Int32} {σ : Sig} (H : X4_giveParent_b27 a x1 x2 σ = some (res, rsg)) : G K X 3 0 0 27 [some (.ref a), some (.int x1), some (.int x2)] [] (τ, σ, nx) := by
  refine g_p (S' := [.ref a]) hF tX4_giveParent_ok 17 1 rfl rfl rfl rfl ?_
  refine g_getR hF (dAt tX4_giveParent_ok 18 rfl rfl) flX4_30 hS.1 rfl ?_
  refine g_p (S' := [.int x2, .int x1, .ref (a + 7)]) hF tX4_giveParent_ok 19 2 rfl rfl rfl rfl ?_
  obtain ⟨s1, e2, H⟩ := ob H
  refine g_ist hF (dAt tX4_giveParent_ok 21 rfl rfl) hS.2.2.2.2.2.2.2.1 e2 ?_
  refine g_p (S' := [.int 1]) hF tX4_giveParent_ok 22 1 rfl rfl rfl rfl ?_
  exact g_zret hF (en_p H hE) (Or.inr rfl) (dAt tX4_giveParent_ok 23 rfl rfl) (by decide) (by decide)
def X4_giveParent_f (a : Nat) (x1 x2 : Int32) (σ : Sig) : Option (Int32 × Sig) := (ld 12 (σ (a + 1)) x1).bind fun v1 => if v1 = 1 then (if x2 = (-1) then (X4_giveParent_b27 a x1 x2 σ) else ((X4_isNoChild_f a x2 σ).bind fun v5 => if v5 = 0 then (some (0, σ)) else (X4_giveParent_b27 a x1 x2 σ))) else (some (0, σ))
set_option maxRecDepth 4000 in
set_option maxHeartbeats 1000000 in
theorem X4_giveParent_ok {D : Nat} {τ : Tau} {nx : Nat} {a : Nat} {x1 x2 : Int32} {σ : Sig} {res : Int32} {rsg : Sig} (hD : 3 ≤ D) (hS : ShX4 τ a) (H : X4_giveParent_f a x1 x2 σ = some (res, rsg)) : Ok D 0 0 yX4_giveParent cX4_giveParent 3 (some .boolean) [.ref a, .int x1, .int x2] (τ, σ, nx) (some (.int res)) (τ, rsg, nx) := by
  refine ok_of (by decide +kernel) rfl (Nat.le_of_ble_eq_true rfl) (fun K X hF hE hN L0 hL0 => ?_)
  obtain rfl : [some (.ref a), some (.int x1), some (.int x2)] = L0 := hL0
  have hF : Fx K X cX4_giveParent 3 RX4 D 0 0 := hF
  refine g_p (S' := [.ref a]) hF tX4_giveParent_ok 0 1 rfl rfl rfl rfl ?_
  refine g_getR hF (dAt tX4_giveParent_ok 1 rfl rfl) flX4_9 hS.1 rfl ?_
  refine g_p (S' := [.int x1, .ref (a + 1)]) hF tX4_giveParent_ok 2 1 rfl rfl rfl rfl ?_
  obtain ⟨v1, e2, H⟩ := ob H
  refine g_ild hF (dAt tX4_giveParent_ok 3 rfl rfl) hS.2.1 e2 ?_
  refine g_p (S' := [.int 1, .int v1]) hF tX4_giveParent_ok 4 1 rfl rfl rfl rfl ?_
  obtain ⟨Ht3, Hf3⟩ := oi H
  refine g_icmp_eq hF (dAt tX4_giveParent_ok 5 rfl rfl) rfl (fun c3 => ?_) (fun c3 => ?_)
  · have H := Ht3 c3
    refine g_p (S' := [.int (-1), .int x2]) hF tX4_giveParent_ok 8 2 rfl rfl rfl rfl ?_
    obtain ⟨Ht4, Hf4⟩ := oi H
    refine g_icmp_eq hF (dAt tX4_giveParent_ok 10 rfl rfl) rfl (fun c4 => ?_) (fun c4 => ?_)
    · have H := Ht4 c4
      exact X4_giveParent_b27_ok hD hF hS hE H
    · have H := Hf4 c4
      refine g_p (S' := [.int x2, .ref a]) hF tX4_giveParent_ok 11 2 rfl rfl rfl rfl ?_
      obtain ⟨v5, e6, H⟩ := ob H
      refine g_cV (S := []) hF (X4_isNoChild_ok (Nat.le_refl _) hS e6 K) mbX4_isNoChild mvX4_isNoChild mlX4_60 (by omega) (by decide) (dAt tX4_giveParent_ok 13 rfl rfl) hS.1 rfl rfl rfl (Nat.le_of_ble_eq_true rfl) rfl rfl (by decide) (by decide) rfl ?_
      obtain ⟨Ht7, Hf7⟩ := oi H
      refine g_if_ne hF (dAt tX4_giveParent_ok 14 rfl rfl) rfl (fun c7 => ?_) (fun c7 => ?_)
      · have H := Hf7 c7
        exact X4_giveParent_b27_ok hD hF hS hE H
      · have H := Ht7 c7
        refine g_p (S' := [.int 0]) hF tX4_giveParent_ok 15 1 rfl rfl rfl rfl ?_
        exact g_zret hF (en_p H hE) (Or.inl rfl) (dAt tX4_giveParent_ok 16 rfl rfl) (by decide) (by decide)
  · have H := Hf3 c3
    refine g_p (S' := [.int 0]) hF tX4_giveParent_ok 6 1 rfl rfl rfl rfl ?_
    exact g_zret hF (en_p H hE) (Or.inl rfl) (dAt tX4_giveParent_ok 7 rfl rfl) (by decide) (by decide)
def X4_change_f (a : Nat) (x1 x2 x3 : Int32) (σ : Sig) : Option (Sig) := if x2 = 0 then ((st 12 σ (a + 2) x1 x3).bind fun s2 => some s2) else if x2 = 1 then ((st 12 σ (a + 3) x1 x3).bind fun s4 => some s4) else if x2 = 2 then ((st 12 σ (a + 4) x1 x3).bind fun s6 => some s6) else if x2 = 3 then ((st 12 σ (a + 5) x1 x3).bind fun s8 => some s8) else if x2 = 4 then ((st 12 σ (a + 6) x1 x3).bind fun s10 => some s10) else (some σ)
set_option maxRecDepth 4000 in
set_option maxHeartbeats 1000000 in
theorem X4_change_ok {D : Nat} {τ : Tau} {nx : Nat} {a : Nat} {x1 x2 x3 : Int32} {σ : Sig} {res : Sig} (hD : 1 ≤ D) (hS : ShX4 τ a) (H : X4_change_f a x1 x2 x3 σ = some res) : Ok D 0 0 yX4_change cX4_change 4 none [.ref a, .int x1, .int x2, .int x3] (τ, σ, nx) none (τ, res, nx) := by
  refine ok_of (by decide +kernel) rfl (Nat.le_of_ble_eq_true rfl) (fun K X hF hE hN L0 hL0 => ?_)
  obtain rfl : [some (.ref a), some (.int x1), some (.int x2), some (.int x3)] = L0 := hL0
  have hF : Fx K X cX4_change 4 RX4 D 0 0 := hF
  refine g_p (S' := [.int x2]) hF tX4_change_ok 0 1 rfl rfl rfl rfl ?_
  obtain ⟨Ht1_0, Hf1_0⟩ := oi H
  by_cases c1_0 : x2 = 0
  · have H := Ht1_0 c1_0
    refine g_tsw (c := 0) hF (dAt tX4_change_ok 1 rfl rfl) c1_0 (by decide) (by decide) rfl rfl ?_
    refine g_p (S' := [.ref a]) hF tX4_change_ok 2 1 rfl rfl rfl rfl ?_
    refine g_getR hF (dAt tX4_change_ok 3 rfl rfl) flX4_15 hS.1 rfl ?_
    refine g_p (S' := [.int x3, .int x1, .ref (a + 2)]) hF tX4_change_ok 4 2 rfl rfl rfl rfl ?_
    obtain ⟨s2, e3, H⟩ := ob H
    refine g_ist hF (dAt tX4_change_ok 6 rfl rfl) hS.2.2.1 e3 ?_
    refine g_goto hF (dAt tX4_change_ok 7 rfl rfl) rfl ?_
    exact g_vret hF (en_v H hE) (dAt tX4_change_ok 32 rfl rfl) (by decide) (by decide)
  have H := Hf1_0 c1_0
  obtain ⟨Ht1_1, Hf1_1⟩ := oi H
  by_cases c1_1 : x2 = 1
  · have H := Ht1_1 c1_1
    refine g_tsw (c := 1) hF (dAt tX4_change_ok 1 rfl rfl) c1_1 (by decide) (by decide) rfl rfl ?_
    refine g_p (S' := [.ref a]) hF tX4_change_ok 8 1 rfl rfl rfl rfl ?_
    refine g_getR hF (dAt tX4_change_ok 9 rfl rfl) flX4_18 hS.1 rfl ?_
    refine g_p (S' := [.int x3, .int x1, .ref (a + 3)]) hF tX4_change_ok 10 2 rfl rfl rfl rfl ?_
    obtain ⟨s4, e5, H⟩ := ob H
    refine g_ist hF (dAt tX4_change_ok 12 rfl rfl) hS.2.2.2.1 e5 ?_
    refine g_goto hF (dAt tX4_change_ok 13 rfl rfl) rfl ?_
    exact g_vret hF (en_v H hE) (dAt tX4_change_ok 32 rfl rfl) (by decide) (by decide)
  have H := Hf1_1 c1_1
  obtain ⟨Ht1_2, Hf1_2⟩ := oi H
  by_cases c1_2 : x2 = 2
  · have H := Ht1_2 c1_2
    refine g_tsw (c := 2) hF (dAt tX4_change_ok 1 rfl rfl) c1_2 (by decide) (by decide) rfl rfl ?_
    refine g_p (S' := [.ref a]) hF tX4_change_ok 14 1 rfl rfl rfl rfl ?_
    refine g_getR hF (dAt tX4_change_ok 15 rfl rfl) flX4_21 hS.1 rfl ?_
    refine g_p (S' := [.int x3, .int x1, .ref (a + 4)]) hF tX4_change_ok 16 2 rfl rfl rfl rfl ?_
    obtain ⟨s6, e7, H⟩ := ob H
    refine g_ist hF (dAt tX4_change_ok 18 rfl rfl) hS.2.2.2.2.1 e7 ?_
    refine g_goto hF (dAt tX4_change_ok 19 rfl rfl) rfl ?_
    exact g_vret hF (en_v H hE) (dAt tX4_change_ok 32 rfl rfl) (by decide) (by decide)
  have H := Hf1_2 c1_2
  obtain ⟨Ht1_3, Hf1_3⟩ := oi H
  by_cases c1_3 : x2 = 3
  · have H := Ht1_3 c1_3
    refine g_tsw (c := 3) hF (dAt tX4_change_ok 1 rfl rfl) c1_3 (by decide) (by decide) rfl rfl ?_
    refine g_p (S' := [.ref a]) hF tX4_change_ok 20 1 rfl rfl rfl rfl ?_
    refine g_getR hF (dAt tX4_change_ok 21 rfl rfl) flX4_24 hS.1 rfl ?_
    refine g_p (S' := [.int x3, .int x1, .ref (a + 5)]) hF tX4_change_ok 22 2 rfl rfl rfl rfl ?_
    obtain ⟨s8, e9, H⟩ := ob H
    refine g_ist hF (dAt tX4_change_ok 24 rfl rfl) hS.2.2.2.2.2.1 e9 ?_
    refine g_goto hF (dAt tX4_change_ok 25 rfl rfl) rfl ?_
    exact g_vret hF (en_v H hE) (dAt tX4_change_ok 32 rfl rfl) (by decide) (by decide)
  have H := Hf1_3 c1_3
  obtain ⟨Ht1_4, Hf1_4⟩ := oi H
  by_cases c1_4 : x2 = 4
  · have H := Ht1_4 c1_4
    refine g_tsw (c := 4) hF (dAt tX4_change_ok 1 rfl rfl) c1_4 (by decide) (by decide) rfl rfl ?_
    refine g_p (S' := [.ref a]) hF tX4_change_ok 26 1 rfl rfl rfl rfl ?_
    refine g_getR hF (dAt tX4_change_ok 27 rfl rfl) flX4_27 hS.1 rfl ?_
    refine g_p (S' := [.int x3, .int x1, .ref (a + 6)]) hF tX4_change_ok 28 2 rfl rfl rfl rfl ?_
    obtain ⟨s10, e11, H⟩ := ob H
    refine g_ist hF (dAt tX4_change_ok 30 rfl rfl) hS.2.2.2.2.2.2.1 e11 ?_
    refine g_goto hF (dAt tX4_change_ok 31 rfl rfl) rfl ?_
    exact g_vret hF (en_v H hE) (dAt tX4_change_ok 32 rfl rfl) (by decide) (by decide)
  have H := Hf1_4 c1_4
  refine g_tswD hF (dAt tX4_change_ok 1 rfl rfl) (tsw_l 0 4 5 [0, 1, 2, 3, 4] (al1 c1_0 (al1 c1_1 (al1 c1_2 (al1 c1_3 (al1 c1_4 al0))))) (by decide) (by decide)) rfl ?_
  exact g_vret hF (en_v H hE) (dAt tX4_change_ok 32 rfl rfl) (by decide) (by decide)
def X4_tellOf_f (a : Nat) (x1 x2 : Int32) (σ : Sig) : Option (Int32) := if x2 = 0 then ((ld 12 (σ (a + 1)) x1).bind fun v2 => some v2) else if x2 = 1 then ((ld 12 (σ (a + 2)) x1).bind fun v4 => some v4) else if x2 = 2 then ((ld 12 (σ (a + 3)) x1).bind fun v6 => some v6) else if x2 = 3 then ((ld 12 (σ (a + 4)) x1).bind fun v8 => some v8) else if x2 = 4 then ((ld 12 (σ (a + 5)) x1).bind fun v10 => some v10) else if x2 = 5 then ((ld 12 (σ (a + 6)) x1).bind fun v12 => some v12) else if x2 = 6 then ((ld 12 (σ (a + 7)) x1).bind fun v14 => some v14) else (some (-2))
set_option maxRecDepth 4000 in
set_option maxHeartbeats 1000000 in
theorem X4_tellOf_ok {D : Nat} {τ : Tau} {nx : Nat} {a : Nat} {x1 x2 : Int32} {σ : Sig} {res : Int32} (hD : 1 ≤ D) (hS : ShX4 τ a) (H : X4_tellOf_f a x1 x2 σ = some res) : Ok D 0 0 yX4_tellOf cX4_tellOf 3 (some .int) [.ref a, .int x1, .int x2] (τ, σ, nx) (some (.int res)) (τ, σ, nx) := by
  refine ok_of (by decide +kernel) rfl (Nat.le_of_ble_eq_true rfl) (fun K X hF hE hN L0 hL0 => ?_)
  obtain rfl : [some (.ref a), some (.int x1), some (.int x2)] = L0 := hL0
  have hF : Fx K X cX4_tellOf 3 RX4 D 0 0 := hF
  refine g_p (S' := [.int x2]) hF tX4_tellOf_ok 0 1 rfl rfl rfl rfl ?_
  obtain ⟨Ht1_0, Hf1_0⟩ := oi H
  by_cases c1_0 : x2 = 0
  · have H := Ht1_0 c1_0
    refine g_tsw (c := 0) hF (dAt tX4_tellOf_ok 1 rfl rfl) c1_0 (by decide) (by decide) rfl rfl ?_
    refine g_p (S' := [.ref a]) hF tX4_tellOf_ok 2 1 rfl rfl rfl rfl ?_
    refine g_getR hF (dAt tX4_tellOf_ok 3 rfl rfl) flX4_9 hS.1 rfl ?_
    refine g_p (S' := [.int x1, .ref (a + 1)]) hF tX4_tellOf_ok 4 1 rfl rfl rfl rfl ?_
    obtain ⟨v2, e3, H⟩ := ob H
    refine g_ild hF (dAt tX4_tellOf_ok 5 rfl rfl) hS.2.1 e3 ?_
    exact g_iret hF (en_i H hE) (dAt tX4_tellOf_ok 6 rfl rfl) (by decide) (by decide)
  have H := Hf1_0 c1_0
  obtain ⟨Ht1_1, Hf1_1⟩ := oi H
  by_cases c1_1 : x2 = 1
  · have H := Ht1_1 c1_1
    refine g_tsw (c := 1) hF (dAt tX4_tellOf_ok 1 rfl rfl) c1_1 (by decide) (by decide) rfl rfl ?_
    refine g_p (S' := [.ref a]) hF tX4_tellOf_ok 7 1 rfl rfl rfl rfl ?_
    refine g_getR hF (dAt tX4_tellOf_ok 8 rfl rfl) flX4_15 hS.1 rfl ?_
    refine g_p (S' := [.int x1, .ref (a + 2)]) hF tX4_tellOf_ok 9 1 rfl rfl rfl rfl ?_
    obtain ⟨v4, e5, H⟩ := ob H
    refine g_ild hF (dAt tX4_tellOf_ok 10 rfl rfl) hS.2.2.1 e5 ?_
    exact g_iret hF (en_i H hE) (dAt tX4_tellOf_ok 11 rfl rfl) (by decide) (by decide)
  have H := Hf1_1 c1_1
  obtain ⟨Ht1_2, Hf1_2⟩ := oi H
  by_cases c1_2 : x2 = 2
  · have H := Ht1_2 c1_2
    refine g_tsw (c := 2) hF (dAt tX4_tellOf_ok 1 rfl rfl) c1_2 (by decide) (by decide) rfl rfl ?_
    refine g_p (S' := [.ref a]) hF tX4_tellOf_ok 12 1 rfl rfl rfl rfl ?_
    refine g_getR hF (dAt tX4_tellOf_ok 13 rfl rfl) flX4_18 hS.1 rfl ?_
    refine g_p (S' := [.int x1, .ref (a + 3)]) hF tX4_tellOf_ok 14 1 rfl rfl rfl rfl ?_
    obtain ⟨v6, e7, H⟩ := ob H
    refine g_ild hF (dAt tX4_tellOf_ok 15 rfl rfl) hS.2.2.2.1 e7 ?_
    exact g_iret hF (en_i H hE) (dAt tX4_tellOf_ok 16 rfl rfl) (by decide) (by decide)
  have H := Hf1_2 c1_2
  obtain ⟨Ht1_3, Hf1_3⟩ := oi H
  by_cases c1_3 : x2 = 3
  · have H := Ht1_3 c1_3
    refine g_tsw (c := 3) hF (dAt tX4_tellOf_ok 1 rfl rfl) c1_3 (by decide) (by decide) rfl rfl ?_
    refine g_p (S' := [.ref a]) hF tX4_tellOf_ok 17 1 rfl rfl rfl rfl ?_
    refine g_getR hF (dAt tX4_tellOf_ok 18 rfl rfl) flX4_21 hS.1 rfl ?_
    refine g_p (S' := [.int x1, .ref (a + 4)]) hF tX4_tellOf_ok 19 1 rfl rfl rfl rfl ?_
    obtain ⟨v8, e9, H⟩ := ob H
    refine g_ild hF (dAt tX4_tellOf_ok 20 rfl rfl) hS.2.2.2.2.1 e9 ?_
    exact g_iret hF (en_i H hE) (dAt tX4_tellOf_ok 21 rfl rfl) (by decide) (by decide)
  have H := Hf1_3 c1_3
  obtain ⟨Ht1_4, Hf1_4⟩ := oi H
  by_cases c1_4 : x2 = 4
  · have H := Ht1_4 c1_4
    refine g_tsw (c := 4) hF (dAt tX4_tellOf_ok 1 rfl rfl) c1_4 (by decide) (by decide) rfl rfl ?_
    refine g_p (S' := [.ref a]) hF tX4_tellOf_ok 22 1 rfl rfl rfl rfl ?_
    refine g_getR hF (dAt tX4_tellOf_ok 23 rfl rfl) flX4_24 hS.1 rfl ?_
    refine g_p (S' := [.int x1, .ref (a + 5)]) hF tX4_tellOf_ok 24 1 rfl rfl rfl rfl ?_
    obtain ⟨v10, e11, H⟩ := ob H
    refine g_ild hF (dAt tX4_tellOf_ok 25 rfl rfl) hS.2.2.2.2.2.1 e11 ?_
    exact g_iret hF (en_i H hE) (dAt tX4_tellOf_ok 26 rfl rfl) (by decide) (by decide)
  have H := Hf1_4 c1_4
  obtain ⟨Ht1_5, Hf1_5⟩ := oi H
  by_cases c1_5 : x2 = 5
  · have H := Ht1_5 c1_5
    refine g_tsw (c := 5) hF (dAt tX4_tellOf_ok 1 rfl rfl) c1_5 (by decide) (by decide) rfl rfl ?_
    refine g_p (S' := [.ref a]) hF tX4_tellOf_ok 27 1 rfl rfl rfl rfl ?_
    refine g_getR hF (dAt tX4_tellOf_ok 28 rfl rfl) flX4_27 hS.1 rfl ?_
    refine g_p (S' := [.int x1, .ref (a + 6)]) hF tX4_tellOf_ok 29 1 rfl rfl rfl rfl ?_
    obtain ⟨v12, e13, H⟩ := ob H
    refine g_ild hF (dAt tX4_tellOf_ok 30 rfl rfl) hS.2.2.2.2.2.2.1 e13 ?_
    exact g_iret hF (en_i H hE) (dAt tX4_tellOf_ok 31 rfl rfl) (by decide) (by decide)
  have H := Hf1_5 c1_5
  obtain ⟨Ht1_6, Hf1_6⟩ := oi H
  by_cases c1_6 : x2 = 6
  · have H := Ht1_6 c1_6
    refine g_tsw (c := 6) hF (dAt tX4_tellOf_ok 1 rfl rfl) c1_6 (by decide) (by decide) rfl rfl ?_
    refine g_p (S' := [.ref a]) hF tX4_tellOf_ok 32 1 rfl rfl rfl rfl ?_
    refine g_getR hF (dAt tX4_tellOf_ok 33 rfl rfl) flX4_30 hS.1 rfl ?_
    refine g_p (S' := [.int x1, .ref (a + 7)]) hF tX4_tellOf_ok 34 1 rfl rfl rfl rfl ?_
    obtain ⟨v14, e15, H⟩ := ob H
    refine g_ild hF (dAt tX4_tellOf_ok 35 rfl rfl) hS.2.2.2.2.2.2.2.1 e15 ?_
    exact g_iret hF (en_i H hE) (dAt tX4_tellOf_ok 36 rfl rfl) (by decide) (by decide)
  have H := Hf1_6 c1_6
  refine g_tswD hF (dAt tX4_tellOf_ok 1 rfl rfl) (tsw_l 0 6 7 [0, 1, 2, 3, 4, 5, 6] (al1 c1_0 (al1 c1_1 (al1 c1_2 (al1 c1_3 (al1 c1_4 (al1 c1_5 (al1 c1_6 al0))))))) (by decide) (by decide)) rfl ?_
  refine g_p (S' := [.int (-2)]) hF tX4_tellOf_ok 37 1 rfl rfl rfl rfl ?_
  exact g_iret hF (en_i H hE) (dAt tX4_tellOf_ok 38 rfl rfl) (by decide) (by decide)
def X4_hush_f (a : Nat) (x1 : Int32) (σ : Sig) : Option (Sig) := (st 12 σ (a + 8) x1 (-1)).bind fun s1 => (st 12 s1 (a + 9) x1 (-1)).bind fun s3 => (st 12 s3 (a + 10) x1 (-1)).bind fun s5 => some s5
set_option maxRecDepth 4000 in
set_option maxHeartbeats 1000000 in
theorem X4_hush_ok {D : Nat} {τ : Tau} {nx : Nat} {a : Nat} {x1 : Int32} {σ : Sig} {res : Sig} (hD : 1 ≤ D) (hS : ShX4 τ a) (H : X4_hush_f a x1 σ = some res) : Ok D 0 0 yX4_hush cX4_hush 2 none [.ref a, .int x1] (τ, σ, nx) none (τ, res, nx) := by
  refine ok_of (by decide +kernel) rfl (Nat.le_of_ble_eq_true rfl) (fun K X hF hE hN L0 hL0 => ?_)
  obtain rfl : [some (.ref a), some (.int x1)] = L0 := hL0
  have hF : Fx K X cX4_hush 2 RX4 D 0 0 := hF
  refine g_p (S' := [.ref a]) hF tX4_hush_ok 0 1 rfl rfl rfl rfl ?_
  refine g_getR hF (dAt tX4_hush_ok 1 rfl rfl) flX4_33 hS.1 rfl ?_
  refine g_p (S' := [.int (-1), .int x1, .ref (a + 8)]) hF tX4_hush_ok 2 2 rfl rfl rfl rfl ?_
  obtain ⟨s1, e2, H⟩ := ob H
  refine g_ist hF (dAt tX4_hush_ok 4 rfl rfl) hS.2.2.2.2.2.2.2.2.1 e2 ?_
  refine g_p (S' := [.ref a]) hF tX4_hush_ok 5 1 rfl rfl rfl rfl ?_
  refine g_getR hF (dAt tX4_hush_ok 6 rfl rfl) flX4_36 hS.1 rfl ?_
  refine g_p (S' := [.int (-1), .int x1, .ref (a + 9)]) hF tX4_hush_ok 7 2 rfl rfl rfl rfl ?_
  obtain ⟨s3, e4, H⟩ := ob H
  refine g_ist hF (dAt tX4_hush_ok 9 rfl rfl) hS.2.2.2.2.2.2.2.2.2.1 e4 ?_
  refine g_p (S' := [.ref a]) hF tX4_hush_ok 10 1 rfl rfl rfl rfl ?_
  refine g_getR hF (dAt tX4_hush_ok 11 rfl rfl) flX4_39 hS.1 rfl ?_
  refine g_p (S' := [.int (-1), .int x1, .ref (a + 10)]) hF tX4_hush_ok 12 2 rfl rfl rfl rfl ?_
  obtain ⟨s5, e6, H⟩ := ob H
  refine g_ist hF (dAt tX4_hush_ok 14 rfl rfl) hS.2.2.2.2.2.2.2.2.2.2 e6 ?_
  exact g_vret hF (en_v H hE) (dAt tX4_hush_ok 15 rfl rfl) (by decide) (by decide)
def X4_noiseOf_f (a : Nat) (x1 x2 : Int32) (σ : Sig) : Option (Int32) := if x2 = 0 then ((ld 12 (σ (a + 8)) x1).bind fun v7 => some v7) else (if x2 = 1 then ((ld 12 (σ (a + 9)) x1).bind fun v5 => some v5) else ((ld 12 (σ (a + 10)) x1).bind fun v3 => some v3))
set_option maxRecDepth 4000 in
set_option maxHeartbeats 1000000 in
theorem X4_noiseOf_ok {D : Nat} {τ : Tau} {nx : Nat} {a : Nat} {x1 x2 : Int32} {σ : Sig} {res : Int32} (hD : 1 ≤ D) (hS : ShX4 τ a) (H : X4_noiseOf_f a x1 x2 σ = some res) : Ok D 0 0 yX4_noiseOf cX4_noiseOf 3 (some .int) [.ref a, .int x1, .int x2] (τ, σ, nx) (some (.int res)) (τ, σ, nx) := by
  refine ok_of (by decide +kernel) rfl (Nat.le_of_ble_eq_true rfl) (fun K X hF hE hN L0 hL0 => ?_)
  obtain rfl : [some (.ref a), some (.int x1), some (.int x2)] = L0 := hL0
  have hF : Fx K X cX4_noiseOf 3 RX4 D 0 0 := hF
  refine g_p (S' := [.int x2]) hF tX4_noiseOf_ok 0 1 rfl rfl rfl rfl ?_
  obtain ⟨Ht1, Hf1⟩ := oi H
  refine g_if_ne hF (dAt tX4_noiseOf_ok 1 rfl rfl) rfl (fun c1 => ?_) (fun c1 => ?_)
  · have H := Hf1 c1
    refine g_p (S' := [.int 1, .int x2]) hF tX4_noiseOf_ok 7 2 rfl rfl rfl rfl ?_
    obtain ⟨Ht2, Hf2⟩ := oi H
    refine g_icmp_ne hF (dAt tX4_noiseOf_ok 9 rfl rfl) rfl (fun c2 => ?_) (fun c2 => ?_)
    · have H := Hf2 c2
      refine g_p (S' := [.ref a]) hF tX4_noiseOf_ok 15 1 rfl rfl rfl rfl ?_
      refine g_getR hF (dAt tX4_noiseOf_ok 16 rfl rfl) flX4_39 hS.1 rfl ?_
      refine g_p (S' := [.int x1, .ref (a + 10)]) hF tX4_noiseOf_ok 17 1 rfl rfl rfl rfl ?_
      obtain ⟨v3, e4, H⟩ := ob H
      refine g_ild hF (dAt tX4_noiseOf_ok 18 rfl rfl) hS.2.2.2.2.2.2.2.2.2.2 e4 ?_
      exact g_iret hF (en_i H hE) (dAt tX4_noiseOf_ok 19 rfl rfl) (by decide) (by decide)
    · have H := Ht2 c2
      refine g_p (S' := [.ref a]) hF tX4_noiseOf_ok 10 1 rfl rfl rfl rfl ?_
      refine g_getR hF (dAt tX4_noiseOf_ok 11 rfl rfl) flX4_36 hS.1 rfl ?_
      refine g_p (S' := [.int x1, .ref (a + 9)]) hF tX4_noiseOf_ok 12 1 rfl rfl rfl rfl ?_
      obtain ⟨v5, e6, H⟩ := ob H
      refine g_ild hF (dAt tX4_noiseOf_ok 13 rfl rfl) hS.2.2.2.2.2.2.2.2.2.1 e6 ?_
      refine g_goto hF (dAt tX4_noiseOf_ok 14 rfl rfl) rfl ?_
      exact g_iret hF (en_i H hE) (dAt tX4_noiseOf_ok 19 rfl rfl) (by decide) (by decide)
  · have H := Ht1 c1
    refine g_p (S' := [.ref a]) hF tX4_noiseOf_ok 2 1 rfl rfl rfl rfl ?_
    refine g_getR hF (dAt tX4_noiseOf_ok 3 rfl rfl) flX4_33 hS.1 rfl ?_
    refine g_p (S' := [.int x1, .ref (a + 8)]) hF tX4_noiseOf_ok 4 1 rfl rfl rfl rfl ?_
    obtain ⟨v7, e8, H⟩ := ob H
    refine g_ild hF (dAt tX4_noiseOf_ok 5 rfl rfl) hS.2.2.2.2.2.2.2.2.1 e8 ?_
    exact g_iret hF (en_i H hE) (dAt tX4_noiseOf_ok 6 rfl rfl) (by decide) (by decide)
def X4_othersWith_b4 (a : Nat) (σ : Sig) : Nat → Int32 → Int32 → Int32 → Option (Int32)
  | 0, _, _, _ => none
  | fu + 1, x1, x2, x3 => if (σ a 0) ≤ x3 then (some x2) else (if x3 = x1 then (X4_othersWith_b4 a σ fu x1 x2 (x3 + 1)) else ((ld 12 (σ (a + 2)) x3).bind fun v3 => (ld 12 (σ (a + 2)) x1).bind fun v5 => if v3 = v5 then (X4_othersWith_b4 a σ fu x1 (x2 + 1) (x3 + 1)) else (X4_othersWith_b4 a σ fu x1 x2 (x3 + 1))))
set_option maxRecDepth 4000 in
set_option maxHeartbeats 1000000 in
theorem X4_othersWith_b4_ok {K : Kt} {X : Cx} {D : Nat} {τ : Tau} {nx : Nat} {a : Nat} {res : Int32} {σ : Sig}  (hD : 1 ≤ D) (hF : Fx K X cX4_othersWith 4 RX4 D 0 0) (hS : ShX4 τ a) (hE : En K X (some .int) 0 0 (some (.int res)) (τ, σ, nx)) : ∀ (fu : Nat) (x1 x2 x3 : Int32), X4_othersWith_b4 a σ fu x1 x2 x3 = some res → G K X 4 0 0 4 [some (.ref a), some (.int x1), some (.int x2), some (.int x3)] [] (τ, σ, nx)
  | 0, _, _, _, H => nomatch H
  | fu + 1, x1, x2, x3, H => by
    refine g_p (S' := [.ref a, .int x3]) hF tX4_othersWith_ok 4 2 rfl rfl rfl rfl ?_
    refine g_getI hF (dAt tX4_othersWith_ok 6 rfl rfl) flX4_42 hS.1 rfl ?_
    obtain ⟨Ht1, Hf1⟩ := oi H
    refine g_icmp_ge hF (dAt tX4_othersWith_ok 7 rfl rfl) rfl (fun c1 => ?_) (fun c1 => ?_)
    · have H := Ht1 c1
      refine g_p (S' := [.int x2]) hF tX4_othersWith_ok 23 1 rfl rfl rfl rfl ?_
      exact g_iret hF (en_i H hE) (dAt tX4_othersWith_ok 24 rfl rfl) (by decide) (by decide)
    · have H := Hf1 c1
      refine g_p (S' := [.int x1, .int x3]) hF tX4_othersWith_ok 8 2 rfl rfl rfl rfl ?_
      obtain ⟨Ht2, Hf2⟩ := oi H
      refine g_icmp_eq hF (dAt tX4_othersWith_ok 10 rfl rfl) rfl (fun c2 => ?_) (fun c2 => ?_)
      · have H := Ht2 c2
        refine g_p (L' := [some (.ref a), some (.int x1), some (.int x2), some (.int (x3 + 1))]) (S' := []) hF tX4_othersWith_ok 21 1 rfl rfl rfl rfl ?_
        refine g_goto hF (dAt tX4_othersWith_ok 22 rfl rfl) rfl ?_
        exact X4_othersWith_b4_ok hD hF hS hE fu _ _ _ H
      · have H := Hf2 c2
        refine g_p (S' := [.ref a]) hF tX4_othersWith_ok 11 1 rfl rfl rfl rfl ?_
        refine g_getR hF (dAt tX4_othersWith_ok 12 rfl rfl) flX4_15 hS.1 rfl ?_
        refine g_p (S' := [.int x3, .ref (a + 2)]) hF tX4_othersWith_ok 13 1 rfl rfl rfl rfl ?_
        obtain ⟨v3, e4, H⟩ := ob H
        refine g_ild hF (dAt tX4_othersWith_ok 14 rfl rfl) hS.2.2.1 e4 ?_
        refine g_p (S' := [.ref a, .int v3]) hF tX4_othersWith_ok 15 1 rfl rfl rfl rfl ?_
        refine g_getR hF (dAt tX4_othersWith_ok 16 rfl rfl) flX4_15 hS.1 rfl ?_
        refine g_p (S' := [.int x1, .ref (a + 2), .int v3]) hF tX4_othersWith_ok 17 1 rfl rfl rfl rfl ?_
        obtain ⟨v5, e6, H⟩ := ob H
        refine g_ild hF (dAt tX4_othersWith_ok 18 rfl rfl) hS.2.2.1 e6 ?_
        obtain ⟨Ht7, Hf7⟩ := oi H
        refine g_icmp_ne hF (dAt tX4_othersWith_ok 19 rfl rfl) rfl (fun c7 => ?_) (fun c7 => ?_)
        · have H := Hf7 c7
          refine g_p (L' := [some (.ref a), some (.int x1), some (.int x2), some (.int (x3 + 1))]) (S' := []) hF tX4_othersWith_ok 21 1 rfl rfl rfl rfl ?_
          refine g_goto hF (dAt tX4_othersWith_ok 22 rfl rfl) rfl ?_
          exact X4_othersWith_b4_ok hD hF hS hE fu _ _ _ H
        · have H := Ht7 c7
          refine g_p (L' := [some (.ref a), some (.int x1), some (.int (x2 + 1)), some (.int (x3 + 1))]) (S' := []) hF tX4_othersWith_ok 20 2 rfl rfl rfl rfl ?_
          refine g_goto hF (dAt tX4_othersWith_ok 22 rfl rfl) rfl ?_
          exact X4_othersWith_b4_ok hD hF hS hE fu _ _ _ H
def X4_othersWith_f (a : Nat) (x1 : Int32) (σ : Sig) : Option (Int32) := X4_othersWith_b4 a σ FU x1 0 0
set_option maxRecDepth 4000 in
set_option maxHeartbeats 1000000 in
theorem X4_othersWith_ok {D : Nat} {τ : Tau} {nx : Nat} {a : Nat} {x1 : Int32} {σ : Sig} {res : Int32} (hD : 1 ≤ D) (hS : ShX4 τ a) (H : X4_othersWith_f a x1 σ = some res) : Ok D 0 0 yX4_othersWith cX4_othersWith 4 (some .int) [.ref a, .int x1] (τ, σ, nx) (some (.int res)) (τ, σ, nx) := by
  refine ok_of (by decide +kernel) rfl (Nat.le_of_ble_eq_true rfl) (fun K X hF hE hN L0 hL0 => ?_)
  obtain rfl : [some (.ref a), some (.int x1), none, none] = L0 := hL0
  have hF : Fx K X cX4_othersWith 4 RX4 D 0 0 := hF
  refine g_p (L' := [some (.ref a), some (.int x1), some (.int 0), some (.int 0)]) (S' := []) hF tX4_othersWith_ok 0 4 rfl rfl rfl rfl ?_
  exact X4_othersWith_b4_ok hD hF hS hE FU _ _ _ H
def X4_noChildren_b4 (a : Nat) (σ : Sig) : Nat → Int32 → Int32 → Option (Int32)
  | 0, _, _ => none
  | fu + 1, x1, x2 => if (σ a 0) ≤ x2 then (some x1) else ((ld 12 (σ (a + 1)) x2).bind fun v2 => if v2 = 1 then (X4_noChildren_b4 a σ fu x1 (x2 + 1)) else (X4_noChildren_b4 a σ fu (x1 ||| (1 <<< (x2 &&& 31))) (x2 + 1)))
set_option maxRecDepth 4000 in
set_option maxHeartbeats 1000000 in
theorem X4_noChildren_b4_ok {K : Kt} {X : Cx} {D : Nat} {τ : Tau} {nx : Nat} {a : Nat} {res : Int32} {σ : Sig}  (hD : 1 ≤ D) (hF : Fx K X cX4_noChildren 3 RX4 D 0 0) (hS : ShX4 τ a) (hE : En K X (some .int) 0 0 (some (.int res)) (τ, σ, nx)) : ∀ (fu : Nat) (x1 x2 : Int32), X4_noChildren_b4 a σ fu x1 x2 = some res → G K X 3 0 0 4 [some (.ref a), some (.int x1), some (.int x2)] [] (τ, σ, nx)
  | 0, _, _, H => nomatch H
  | fu + 1, x1, x2, H => by
    refine g_p (S' := [.ref a, .int x2]) hF tX4_noChildren_ok 4 2 rfl rfl rfl rfl ?_
    refine g_getI hF (dAt tX4_noChildren_ok 6 rfl rfl) flX4_42 hS.1 rfl ?_
    obtain ⟨Ht1, Hf1⟩ := oi H
    refine g_icmp_ge hF (dAt tX4_noChildren_ok 7 rfl rfl) rfl (fun c1 => ?_) (fun c1 => ?_)
    · have H := Ht1 c1
      refine g_p (S' := [.int x1]) hF tX4_noChildren_ok 22 1 rfl rfl rfl rfl ?_
      exact g_iret hF (en_i H hE) (dAt tX4_noChildren_ok 23 rfl rfl) (by decide) (by decide)
    · have H := Hf1 c1
      refine g_p (S' := [.ref a]) hF tX4_noChildren_ok 8 1 rfl rfl rfl rfl ?_
      refine g_getR hF (dAt tX4_noChildren_ok 9 rfl rfl) flX4_9 hS.1 rfl ?_
      refine g_p (S' := [.int x2, .ref (a + 1)]) hF tX4_noChildren_ok 10 1 rfl rfl rfl rfl ?_
      obtain ⟨v2, e3, H⟩ := ob H
      refine g_ild hF (dAt tX4_noChildren_ok 11 rfl rfl) hS.2.1 e3 ?_
      refine g_p (S' := [.int 1, .int v2]) hF tX4_noChildren_ok 12 1 rfl rfl rfl rfl ?_
      obtain ⟨Ht4, Hf4⟩ := oi H
      refine g_icmp_eq hF (dAt tX4_noChildren_ok 13 rfl rfl) rfl (fun c4 => ?_) (fun c4 => ?_)
      · have H := Ht4 c4
        refine g_p (L' := [some (.ref a), some (.int x1), some (.int (x2 + 1))]) (S' := []) hF tX4_noChildren_ok 20 1 rfl rfl rfl rfl ?_
        refine g_goto hF (dAt tX4_noChildren_ok 21 rfl rfl) rfl ?_
        exact X4_noChildren_b4_ok hD hF hS hE fu _ _ H
      · have H := Hf4 c4
        refine g_p (L' := [some (.ref a), some (.int (x1 ||| (1 <<< (x2 &&& 31)))), some (.int (x2 + 1))]) (S' := []) hF tX4_noChildren_ok 14 7 rfl rfl rfl rfl ?_
        refine g_goto hF (dAt tX4_noChildren_ok 21 rfl rfl) rfl ?_
        exact X4_noChildren_b4_ok hD hF hS hE fu _ _ H
def X4_noChildren_f (a : Nat) (σ : Sig) : Option (Int32) := X4_noChildren_b4 a σ FU 0 0
set_option maxRecDepth 4000 in
set_option maxHeartbeats 1000000 in
theorem X4_noChildren_ok {D : Nat} {τ : Tau} {nx : Nat} {a : Nat} {σ : Sig} {res : Int32} (hD : 1 ≤ D) (hS : ShX4 τ a) (H : X4_noChildren_f a σ = some res) : Ok D 0 0 yX4_noChildren cX4_noChildren 3 (some .int) [.ref a] (τ, σ, nx) (some (.int res)) (τ, σ, nx) := by
  refine ok_of (by decide +kernel) rfl (Nat.le_of_ble_eq_true rfl) (fun K X hF hE hN L0 hL0 => ?_)
  obtain rfl : [some (.ref a), none, none] = L0 := hL0
  have hF : Fx K X cX4_noChildren 3 RX4 D 0 0 := hF
  refine g_p (L' := [some (.ref a), some (.int 0), some (.int 0)]) (S' := []) hF tX4_noChildren_ok 0 4 rfl rfl rfl rfl ?_
  exact X4_noChildren_b4_ok hD hF hS hE FU _ _ H
def X4_pay_f (a : Nat) (x1 x2 x3 : Int32) (σ : Sig) : Option (Sig) := (X4_has_f a x1 σ).bind fun v1 => if v1 = 0 then (some σ) else ((X4_has_f a x2 σ).bind fun v4 => if v4 = 0 then (some σ) else ((ld 12 (σ (a + 6)) x1).bind fun v7 => (st 12 σ (a + 6) x1 (v7 - x3)).bind fun s9 => (ld 12 (s9 (a + 6)) x2).bind fun v11 => (st 12 s9 (a + 6) x2 (v11 + x3)).bind fun s13 => some s13))
set_option maxRecDepth 4000 in
set_option maxHeartbeats 1000000 in
theorem X4_pay_ok {D : Nat} {τ : Tau} {nx : Nat} {a : Nat} {x1 x2 x3 : Int32} {σ : Sig} {res : Sig} (hD : 2 ≤ D) (hS : ShX4 τ a) (H : X4_pay_f a x1 x2 x3 σ = some res) : Ok D 0 0 yX4_pay cX4_pay 4 none [.ref a, .int x1, .int x2, .int x3] (τ, σ, nx) none (τ, res, nx) := by
  refine ok_of (by decide +kernel) rfl (Nat.le_of_ble_eq_true rfl) (fun K X hF hE hN L0 hL0 => ?_)
  obtain rfl : [some (.ref a), some (.int x1), some (.int x2), some (.int x3)] = L0 := hL0
  have hF : Fx K X cX4_pay 4 RX4 D 0 0 := hF
  refine g_p (S' := [.int x1, .ref a]) hF tX4_pay_ok 0 2 rfl rfl rfl rfl ?_
  obtain ⟨v1, e2, H⟩ := ob H
  refine g_cV (S := []) hF (X4_has_ok (Nat.le_refl _) hS e2 K) mbX4_has mvX4_has mlX4_52 (by omega) (by decide) (dAt tX4_pay_ok 2 rfl rfl) hS.1 rfl rfl rfl (Nat.le_of_ble_eq_true rfl) rfl rfl (by decide) (by decide) rfl ?_
  obtain ⟨Ht3, Hf3⟩ := oi H
  refine g_if_eq hF (dAt tX4_pay_ok 3 rfl rfl) rfl (fun c3 => ?_) (fun c3 => ?_)
  · have H := Ht3 c3
    exact g_vret hF (en_v H hE) (dAt tX4_pay_ok 24 rfl rfl) (by decide) (by decide)
  · have H := Hf3 c3
    refine g_p (S' := [.int x2, .ref a]) hF tX4_pay_ok 4 2 rfl rfl rfl rfl ?_
    obtain ⟨v4, e5, H⟩ := ob H
    refine g_cV (S := []) hF (X4_has_ok (Nat.le_refl _) hS e5 K) mbX4_has mvX4_has mlX4_52 (by omega) (by decide) (dAt tX4_pay_ok 6 rfl rfl) hS.1 rfl rfl rfl (Nat.le_of_ble_eq_true rfl) rfl rfl (by decide) (by decide) rfl ?_
    obtain ⟨Ht6, Hf6⟩ := oi H
    refine g_if_eq hF (dAt tX4_pay_ok 7 rfl rfl) rfl (fun c6 => ?_) (fun c6 => ?_)
    · have H := Ht6 c6
      exact g_vret hF (en_v H hE) (dAt tX4_pay_ok 24 rfl rfl) (by decide) (by decide)
    · have H := Hf6 c6
      refine g_p (S' := [.ref a]) hF tX4_pay_ok 8 1 rfl rfl rfl rfl ?_
      refine g_getR hF (dAt tX4_pay_ok 9 rfl rfl) flX4_27 hS.1 rfl ?_
      refine g_p (S' := [.int x1, .ref (a + 6), .int x1, .ref (a + 6)]) hF tX4_pay_ok 10 2 rfl rfl rfl rfl ?_
      obtain ⟨v7, e8, H⟩ := ob H
      refine g_ild hF (dAt tX4_pay_ok 12 rfl rfl) hS.2.2.2.2.2.2.1 e8 ?_
      refine g_p (S' := [.int (v7 - x3), .int x1, .ref (a + 6)]) hF tX4_pay_ok 13 2 rfl rfl rfl rfl ?_
      obtain ⟨s9, e10, H⟩ := ob H
      refine g_ist hF (dAt tX4_pay_ok 15 rfl rfl) hS.2.2.2.2.2.2.1 e10 ?_
      refine g_p (S' := [.ref a]) hF tX4_pay_ok 16 1 rfl rfl rfl rfl ?_
      refine g_getR hF (dAt tX4_pay_ok 17 rfl rfl) flX4_27 hS.1 rfl ?_
      refine g_p (S' := [.int x2, .ref (a + 6), .int x2, .ref (a + 6)]) hF tX4_pay_ok 18 2 rfl rfl rfl rfl ?_
      obtain ⟨v11, e12, H⟩ := ob H
      refine g_ild hF (dAt tX4_pay_ok 20 rfl rfl) hS.2.2.2.2.2.2.1 e12 ?_
      refine g_p (S' := [.int (v11 + x3), .int x2, .ref (a + 6)]) hF tX4_pay_ok 21 2 rfl rfl rfl rfl ?_
      obtain ⟨s13, e14, H⟩ := ob H
      refine g_ist hF (dAt tX4_pay_ok 23 rfl rfl) hS.2.2.2.2.2.2.1 e14 ?_
      exact g_vret hF (en_v H hE) (dAt tX4_pay_ok 24 rfl rfl) (by decide) (by decide)
def X4_add_f (a : Nat) (x1 x2 x3 x4 x5 : Int32) (σ : Sig) : Option (Int32 × Sig) := if (σ a 0) < 12 then ((st 12 σ (a + 1) (σ a 0) x1).bind fun s2 => (st 12 s2 (a + 2) (σ a 0) x2).bind fun s4 => (st 12 s4 (a + 3) (σ a 0) x3).bind fun s6 => (st 12 s6 (a + 4) (σ a 0) x4).bind fun s8 => (st 12 s8 (a + 5) (σ a 0) x5).bind fun s10 => (st 12 s10 (a + 6) (σ a 0) 0).bind fun s12 => (st 12 s12 (a + 7) (σ a 0) (-1)).bind fun s14 => (X4_hush_f a (σ a 0) s14).bind fun s16 => (pI s16 a 0 ((s16 a 0) + 1)).bind fun s18 => some ((σ a 0), s18)) else (some ((-1), σ))
set_option maxRecDepth 4000 in
set_option maxHeartbeats 1000000 in
theorem X4_add_ok {D : Nat} {τ : Tau} {nx : Nat} {a : Nat} {x1 x2 x3 x4 x5 : Int32} {σ : Sig} {res : Int32} {rsg : Sig} (hD : 2 ≤ D) (hS : ShX4 τ a) (H : X4_add_f a x1 x2 x3 x4 x5 σ = some (res, rsg)) : Ok D 0 0 yX4_add cX4_add 7 (some .int) [.ref a, .int x1, .int x2, .int x3, .int x4, .int x5] (τ, σ, nx) (some (.int res)) (τ, rsg, nx) := by
  refine ok_of (by decide +kernel) rfl (Nat.le_of_ble_eq_true rfl) (fun K X hF hE hN L0 hL0 => ?_)
  obtain rfl : [some (.ref a), some (.int x1), some (.int x2), some (.int x3), some (.int x4), some (.int x5), none] = L0 := hL0
  have hF : Fx K X cX4_add 7 RX4 D 0 0 := hF
  refine g_p (S' := [.ref a]) hF tX4_add_ok 0 1 rfl rfl rfl rfl ?_
  refine g_getI hF (dAt tX4_add_ok 1 rfl rfl) flX4_42 hS.1 rfl ?_
  refine g_p (L' := [some (.ref a), some (.int x1), some (.int x2), some (.int x3), some (.int x4), some (.int x5), some (.int (σ a 0))]) (S' := [.int 12, .int (σ a 0)]) hF tX4_add_ok 2 3 rfl rfl rfl rfl ?_
  obtain ⟨Ht1, Hf1⟩ := oi H
  refine g_icmp_lt hF (dAt tX4_add_ok 5 rfl rfl) rfl (fun c1 => ?_) (fun c1 => ?_)
  · have H := Ht1 c1
    refine g_p (S' := [.ref a]) hF tX4_add_ok 8 1 rfl rfl rfl rfl ?_
    refine g_getR hF (dAt tX4_add_ok 9 rfl rfl) flX4_9 hS.1 rfl ?_
    refine g_p (S' := [.int x1, .int (σ a 0), .ref (a + 1)]) hF tX4_add_ok 10 2 rfl rfl rfl rfl ?_
    obtain ⟨s2, e3, H⟩ := ob H
    refine g_ist hF (dAt tX4_add_ok 12 rfl rfl) hS.2.1 e3 ?_
    refine g_p (S' := [.ref a]) hF tX4_add_ok 13 1 rfl rfl rfl rfl ?_
    refine g_getR hF (dAt tX4_add_ok 14 rfl rfl) flX4_15 hS.1 rfl ?_
    refine g_p (S' := [.int x2, .int (σ a 0), .ref (a + 2)]) hF tX4_add_ok 15 2 rfl rfl rfl rfl ?_
    obtain ⟨s4, e5, H⟩ := ob H
    refine g_ist hF (dAt tX4_add_ok 17 rfl rfl) hS.2.2.1 e5 ?_
    refine g_p (S' := [.ref a]) hF tX4_add_ok 18 1 rfl rfl rfl rfl ?_
    refine g_getR hF (dAt tX4_add_ok 19 rfl rfl) flX4_18 hS.1 rfl ?_
    refine g_p (S' := [.int x3, .int (σ a 0), .ref (a + 3)]) hF tX4_add_ok 20 2 rfl rfl rfl rfl ?_
    obtain ⟨s6, e7, H⟩ := ob H
    refine g_ist hF (dAt tX4_add_ok 22 rfl rfl) hS.2.2.2.1 e7 ?_
    refine g_p (S' := [.ref a]) hF tX4_add_ok 23 1 rfl rfl rfl rfl ?_
    refine g_getR hF (dAt tX4_add_ok 24 rfl rfl) flX4_21 hS.1 rfl ?_
    refine g_p (S' := [.int x4, .int (σ a 0), .ref (a + 4)]) hF tX4_add_ok 25 2 rfl rfl rfl rfl ?_
    obtain ⟨s8, e9, H⟩ := ob H
    refine g_ist hF (dAt tX4_add_ok 27 rfl rfl) hS.2.2.2.2.1 e9 ?_
    refine g_p (S' := [.ref a]) hF tX4_add_ok 28 1 rfl rfl rfl rfl ?_
    refine g_getR hF (dAt tX4_add_ok 29 rfl rfl) flX4_24 hS.1 rfl ?_
    refine g_p (S' := [.int x5, .int (σ a 0), .ref (a + 5)]) hF tX4_add_ok 30 2 rfl rfl rfl rfl ?_
    obtain ⟨s10, e11, H⟩ := ob H
    refine g_ist hF (dAt tX4_add_ok 32 rfl rfl) hS.2.2.2.2.2.1 e11 ?_
    refine g_p (S' := [.ref a]) hF tX4_add_ok 33 1 rfl rfl rfl rfl ?_
    refine g_getR hF (dAt tX4_add_ok 34 rfl rfl) flX4_27 hS.1 rfl ?_
    refine g_p (S' := [.int 0, .int (σ a 0), .ref (a + 6)]) hF tX4_add_ok 35 2 rfl rfl rfl rfl ?_
    obtain ⟨s12, e13, H⟩ := ob H
    refine g_ist hF (dAt tX4_add_ok 37 rfl rfl) hS.2.2.2.2.2.2.1 e13 ?_
    refine g_p (S' := [.ref a]) hF tX4_add_ok 38 1 rfl rfl rfl rfl ?_
    refine g_getR hF (dAt tX4_add_ok 39 rfl rfl) flX4_30 hS.1 rfl ?_
    refine g_p (S' := [.int (-1), .int (σ a 0), .ref (a + 7)]) hF tX4_add_ok 40 2 rfl rfl rfl rfl ?_
    obtain ⟨s14, e15, H⟩ := ob H
    refine g_ist hF (dAt tX4_add_ok 42 rfl rfl) hS.2.2.2.2.2.2.2.1 e15 ?_
    refine g_p (S' := [.int (σ a 0), .ref a]) hF tX4_add_ok 43 2 rfl rfl rfl rfl ?_
    obtain ⟨s16, e17, H⟩ := ob H
    refine g_cV (S := []) hF (X4_hush_ok (Nat.le_refl _) hS e17 K) mbX4_hush mvX4_hush mlX4_56 (by omega) (by decide) (dAt tX4_add_ok 45 rfl rfl) hS.1 rfl rfl rfl (Nat.le_of_ble_eq_true rfl) rfl rfl (by decide) (by decide) rfl ?_
    refine g_p (S' := [.ref a, .ref a]) hF tX4_add_ok 46 2 rfl rfl rfl rfl ?_
    refine g_getI hF (dAt tX4_add_ok 48 rfl rfl) flX4_42 hS.1 rfl ?_
    refine g_p (S' := [.int ((s16 a 0) + 1), .ref a]) hF tX4_add_ok 49 2 rfl rfl rfl rfl ?_
    obtain ⟨s18, e19, H⟩ := ob H
    refine g_pI hF (dAt tX4_add_ok 51 rfl rfl) flX4_42 (Or.inl rfl) hS.1 rfl e19 ?_
    refine g_p (S' := [.int (σ a 0)]) hF tX4_add_ok 52 1 rfl rfl rfl rfl ?_
    exact g_iret hF (en_p H hE) (dAt tX4_add_ok 53 rfl rfl) (by decide) (by decide)
  · have H := Hf1 c1
    refine g_p (S' := [.int (-1)]) hF tX4_add_ok 6 1 rfl rfl rfl rfl ?_
    exact g_iret hF (en_p H hE) (dAt tX4_add_ok 7 rfl rfl) (by decide) (by decide)

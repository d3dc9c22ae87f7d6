/-! SilenceForMoneyModel -/
def X12_isIn_f (x0 x1 x2 : Int32) (σ : Sig) : Option (Int32) := if x0 < x1 then (some 0) else (if x2 < x0 then (some 0) else (some 1))
set_option maxRecDepth 4000 in
set_option maxHeartbeats 1000000 in
theorem X12_isIn_ok {D : Nat} {τ : Tau} {nx : Nat} {x0 x1 x2 : Int32} {σ : Sig} {res : Int32} (hD : 1 ≤ D) (H : X12_isIn_f x0 x1 x2 σ = some res) : Ok D 0 0 yX12_isIn cX12_isIn 3 (some .boolean) [.int x0, .int x1, .int x2] (τ, σ, nx) (some (.int res)) (τ, σ, nx) := by
  refine ok_of (by decide +kernel) rfl (Nat.le_of_ble_eq_true rfl) (fun K X hF hE hN L0 hL0 => ?_)
  obtain rfl : [some (.int x0), some (.int x1), some (.int x2)] = L0 := hL0
  have hF : Fx K X cX12_isIn 3 RX12 D 0 0 := hF
  refine g_p (S' := [.int x1, .int x0]) hF tX12_isIn_ok 0 2 rfl rfl rfl rfl ?_
  obtain ⟨Ht1, Hf1⟩ := oi H
  refine g_icmp_lt hF (dAt tX12_isIn_ok 2 rfl rfl) rfl (fun c1 => ?_) (fun c1 => ?_)
  · have H := Ht1 c1
    refine g_p (S' := [.int 0]) hF tX12_isIn_ok 8 1 rfl rfl rfl rfl ?_
    exact g_zret hF (en_i H hE) (Or.inl rfl) (dAt tX12_isIn_ok 9 rfl rfl) (by decide) (by decide)
  · have H := Hf1 c1
    refine g_p (S' := [.int x2, .int x0]) hF tX12_isIn_ok 3 2 rfl rfl rfl rfl ?_
    obtain ⟨Ht2, Hf2⟩ := oi H
    refine g_icmp_gt hF (dAt tX12_isIn_ok 5 rfl rfl) rfl (fun c2 => ?_) (fun c2 => ?_)
    · have H := Ht2 c2
      refine g_p (S' := [.int 0]) hF tX12_isIn_ok 8 1 rfl rfl rfl rfl ?_
      exact g_zret hF (en_i H hE) (Or.inl rfl) (dAt tX12_isIn_ok 9 rfl rfl) (by decide) (by decide)
    · have H := Hf2 c2
      refine g_p (S' := [.int 1]) hF tX12_isIn_ok 6 1 rfl rfl rfl rfl ?_
      refine g_goto hF (dAt tX12_isIn_ok 7 rfl rfl) rfl ?_
      exact g_zret hF (en_i H hE) (Or.inr rfl) (dAt tX12_isIn_ok 9 rfl rfl) (by decide) (by decide)
def X12_state_f (a : Nat) (x1 : Int32) (σ : Sig) : Option (Int32 × Sig) := (ld 20240 (σ (a + 1)) 0).bind fun v1 => (st 20240 σ (a + 1) 0 x1).bind fun s3 => some (v1, s3)
set_option maxRecDepth 4000 in
set_option maxHeartbeats 1000000 in
theorem X12_state_ok {D : Nat} {τ : Tau} {nx : Nat} {a : Nat} {x1 : Int32} {σ : Sig} {res : Int32} {rsg : Sig} (hD : 1 ≤ D) (hS : ShX12 τ a) (H : X12_state_f a x1 σ = some (res, rsg)) : Ok D 0 0 yX12_state cX12_state 3 (some .int) [.ref a, .int x1] (τ, σ, nx) (some (.int res)) (τ, rsg, nx) := by
  refine ok_of (by decide +kernel) rfl (Nat.le_of_ble_eq_true rfl) (fun K X hF hE hN L0 hL0 => ?_)
  obtain rfl : [some (.ref a), some (.int x1), none] = L0 := hL0
  have hF : Fx K X cX12_state 3 RX12 D 0 0 := hF
  refine g_p (S' := [.ref a]) hF tX12_state_ok 0 1 rfl rfl rfl rfl ?_
  refine g_getR hF (dAt tX12_state_ok 1 rfl rfl) flX12_7 hS.1 rfl ?_
  refine g_p (S' := [.int 0, .ref (a + 1)]) hF tX12_state_ok 2 1 rfl rfl rfl rfl ?_
  obtain ⟨v1, e2, H⟩ := ob H
  refine g_ild hF (dAt tX12_state_ok 3 rfl rfl) hS.2.1 e2 ?_
  refine g_p (L' := [some (.ref a), some (.int x1), some (.int v1)]) (S' := [.ref a]) hF tX12_state_ok 4 2 rfl rfl rfl rfl ?_
  refine g_getR hF (dAt tX12_state_ok 6 rfl rfl) flX12_7 hS.1 rfl ?_
  refine g_p (S' := [.int x1, .int 0, .ref (a + 1)]) hF tX12_state_ok 7 2 rfl rfl rfl rfl ?_
  obtain ⟨s3, e4, H⟩ := ob H
  refine g_ist hF (dAt tX12_state_ok 9 rfl rfl) hS.2.1 e4 ?_
  refine g_p (S' := [.int v1]) hF tX12_state_ok 10 1 rfl rfl rfl rfl ?_
  exact g_iret hF (en_p H hE) (dAt tX12_state_ok 11 rfl rfl) (by decide) (by decide)
def X12_draw_f (a : Nat) (x1 : Int32) (σ : Sig) : Option (Int32 × Sig) := (ld 20240 (σ (a + 1)) 0).bind fun v1 => (st 20240 σ (a + 1) 0 ((1664525 * v1) + 1013904223)).bind fun s3 => (ld 20240 (s3 (a + 1)) 0).bind fun v5 => if x1 = 0 then none else (some ((((v5 : Int32).toUInt32 >>> ((8 : Int32).toUInt32 &&& Int32.toUInt32 31)).toInt32 - ((v5 : Int32).toUInt32 >>> ((8 : Int32).toUInt32 &&& Int32.toUInt32 31)).toInt32 / x1 * x1), s3))
set_option maxRecDepth 4000 in
set_option maxHeartbeats 1000000 in
theorem X12_draw_ok {D : Nat} {τ : Tau} {nx : Nat} {a : Nat} {x1 : Int32} {σ : Sig} {res : Int32} {rsg : Sig} (hD : 1 ≤ D) (hS : ShX12 τ a) (H : X12_draw_f a x1 σ = some (res, rsg)) : Ok D 0 0 yX12_draw cX12_draw 2 (some .int) [.ref a, .int x1] (τ, σ, nx) (some (.int res)) (τ, rsg, nx) := by
  refine ok_of (by decide +kernel) rfl (Nat.le_of_ble_eq_true rfl) (fun K X hF hE hN L0 hL0 => ?_)
  obtain rfl : [some (.ref a), some (.int x1)] = L0 := hL0
  have hF : Fx K X cX12_draw 2 RX12 D 0 0 := hF
  refine g_p (S' := [.ref a]) hF tX12_draw_ok 0 1 rfl rfl rfl rfl ?_
  refine g_getR hF (dAt tX12_draw_ok 1 rfl rfl) flX12_7 hS.1 rfl ?_
  refine g_p (S' := [.int 0, .ref (a + 1)]) hF tX12_draw_ok 2 1 rfl rfl rfl rfl ?_
  refine g_ldc hF (dAt tX12_draw_ok 3 rfl rfl) coX12_48 ?_
  refine g_p (S' := [.ref a, .int 1664525, .int 0, .ref (a + 1)]) hF tX12_draw_ok 4 1 rfl rfl rfl rfl ?_
  refine g_getR hF (dAt tX12_draw_ok 5 rfl rfl) flX12_7 hS.1 rfl ?_
  refine g_p (S' := [.int 0, .ref (a + 1), .int 1664525, .int 0, .ref (a + 1)]) hF tX12_draw_ok 6 1 rfl rfl rfl rfl ?_
  obtain ⟨v1, e2, H⟩ := ob H
  refine g_ild hF (dAt tX12_draw_ok 7 rfl rfl) hS.2.1 e2 ?_
  refine g_p (S' := [.int (1664525 * v1), .int 0, .ref (a + 1)]) hF tX12_draw_ok 8 1 rfl rfl rfl rfl ?_
  refine g_ldc hF (dAt tX12_draw_ok 9 rfl rfl) coX12_49 ?_
  refine g_p (S' := [.int ((1664525 * v1) + 1013904223), .int 0, .ref (a + 1)]) hF tX12_draw_ok 10 1 rfl rfl rfl rfl ?_
  obtain ⟨s3, e4, H⟩ := ob H
  refine g_ist hF (dAt tX12_draw_ok 11 rfl rfl) hS.2.1 e4 ?_
  refine g_p (S' := [.ref a]) hF tX12_draw_ok 12 1 rfl rfl rfl rfl ?_
  refine g_getR hF (dAt tX12_draw_ok 13 rfl rfl) flX12_7 hS.1 rfl ?_
  refine g_p (S' := [.int 0, .ref (a + 1)]) hF tX12_draw_ok 14 1 rfl rfl rfl rfl ?_
  obtain ⟨v5, e6, H⟩ := ob H
  refine g_ild hF (dAt tX12_draw_ok 15 rfl rfl) hS.2.1 e6 ?_
  refine g_p (S' := [.int x1, .int (((v5 : Int32).toUInt32 >>> ((8 : Int32).toUInt32 &&& Int32.toUInt32 31)).toInt32)]) hF tX12_draw_ok 16 3 rfl rfl rfl rfl ?_
  obtain ⟨z7, H⟩ := on H
  refine g_irem hF (dAt tX12_draw_ok 19 rfl rfl) z7 ?_
  exact g_iret hF (en_p H hE) (dAt tX12_draw_ok 20 rfl rfl) (by decide) (by decide)
def X12_hushes_f (a : Nat) (x1 : Int32) (σ : Sig) : Option (Sig) := (st 20240 σ (a + 1) (190 + (3 * x1)) (-1)).bind fun s1 => (st 20240 s1 (a + 1) ((190 + (3 * x1)) + 1) (-1)).bind fun s3 => (st 20240 s3 (a + 1) ((190 + (3 * x1)) + 2) (-1)).bind fun s5 => some s5
set_option maxRecDepth 4000 in
set_option maxHeartbeats 1000000 in
theorem X12_hushes_ok {D : Nat} {τ : Tau} {nx : Nat} {a : Nat} {x1 : Int32} {σ : Sig} {res : Sig} (hD : 1 ≤ D) (hS : ShX12 τ a) (H : X12_hushes_f a x1 σ = some res) : Ok D 0 0 yX12_hushes cX12_hushes 2 none [.ref a, .int x1] (τ, σ, nx) none (τ, res, nx) := by
  refine ok_of (by decide +kernel) rfl (Nat.le_of_ble_eq_true rfl) (fun K X hF hE hN L0 hL0 => ?_)
  obtain rfl : [some (.ref a), some (.int x1)] = L0 := hL0
  have hF : Fx K X cX12_hushes 2 RX12 D 0 0 := hF
  refine g_p (S' := [.ref a]) hF tX12_hushes_ok 0 1 rfl rfl rfl rfl ?_
  refine g_getR hF (dAt tX12_hushes_ok 1 rfl rfl) flX12_7 hS.1 rfl ?_
  refine g_p (S' := [.int (-1), .int (190 + (3 * x1)), .ref (a + 1)]) hF tX12_hushes_ok 2 6 rfl rfl rfl rfl ?_
  obtain ⟨s1, e2, H⟩ := ob H
  refine g_ist hF (dAt tX12_hushes_ok 8 rfl rfl) hS.2.1 e2 ?_
  refine g_p (S' := [.ref a]) hF tX12_hushes_ok 9 1 rfl rfl rfl rfl ?_
  refine g_getR hF (dAt tX12_hushes_ok 10 rfl rfl) flX12_7 hS.1 rfl ?_
  refine g_p (S' := [.int (-1), .int ((190 + (3 * x1)) + 1), .ref (a + 1)]) hF tX12_hushes_ok 11 8 rfl rfl rfl rfl ?_
  obtain ⟨s3, e4, H⟩ := ob H
  refine g_ist hF (dAt tX12_hushes_ok 19 rfl rfl) hS.2.1 e4 ?_
  refine g_p (S' := [.ref a]) hF tX12_hushes_ok 20 1 rfl rfl rfl rfl ?_
  refine g_getR hF (dAt tX12_hushes_ok 21 rfl rfl) flX12_7 hS.1 rfl ?_
  refine g_p (S' := [.int (-1), .int ((190 + (3 * x1)) + 2), .ref (a + 1)]) hF tX12_hushes_ok 22 8 rfl rfl rfl rfl ?_
  obtain ⟨s5, e6, H⟩ := ob H
  refine g_ist hF (dAt tX12_hushes_ok 30 rfl rfl) hS.2.1 e6 ?_
  exact g_vret hF (en_v H hE) (dAt tX12_hushes_ok 31 rfl rfl) (by decide) (by decide)
def X12_isOne_f (a : Nat) (x1 : Int32) (σ : Sig) : Option (Int32) := (ld 20240 (σ (a + 1)) 9).bind fun v1 => (X12_isIn_f x1 0 (v1 - 1) σ).bind fun v3 => if v3 = 0 ∨ v3 = 1 then some v3 else none
set_option maxRecDepth 4000 in
set_option maxHeartbeats 1000000 in
theorem X12_isOne_ok {D : Nat} {τ : Tau} {nx : Nat} {a : Nat} {x1 : Int32} {σ : Sig} {res : Int32} (hD : 2 ≤ D) (hS : ShX12 τ a) (H : X12_isOne_f a x1 σ = some res) : Ok D 0 0 yX12_isOne cX12_isOne 2 (some .boolean) [.ref a, .int x1] (τ, σ, nx) (some (.int res)) (τ, σ, nx) := by
  refine ok_of (by decide +kernel) rfl (Nat.le_of_ble_eq_true rfl) (fun K X hF hE hN L0 hL0 => ?_)
  obtain rfl : [some (.ref a), some (.int x1)] = L0 := hL0
  have hF : Fx K X cX12_isOne 2 RX12 D 0 0 := hF
  refine g_p (S' := [.ref a, .int 0, .int x1]) hF tX12_isOne_ok 0 3 rfl rfl rfl rfl ?_
  refine g_getR hF (dAt tX12_isOne_ok 3 rfl rfl) flX12_7 hS.1 rfl ?_
  refine g_p (S' := [.int 9, .ref (a + 1), .int 0, .int x1]) hF tX12_isOne_ok 4 1 rfl rfl rfl rfl ?_
  obtain ⟨v1, e2, H⟩ := ob H
  refine g_ild hF (dAt tX12_isOne_ok 5 rfl rfl) hS.2.1 e2 ?_
  refine g_p (S' := [.int (v1 - 1), .int 0, .int x1]) hF tX12_isOne_ok 6 2 rfl rfl rfl rfl ?_
  obtain ⟨v3, e4, H⟩ := ob H
  refine g_cS (S := []) hF (X12_isIn_ok (Nat.le_refl _)  e4 K) mbX12_isIn msX12_isIn mlX12_50 (by omega) (by decide) (dAt tX12_isOne_ok 8 rfl rfl) rfl rfl (Nat.le_of_ble_eq_true rfl) rfl rfl (by decide) (by decide) rfl ?_
  obtain ⟨hb, H⟩ := oy H
  exact g_zret hF (en_i H hE) hb (dAt tX12_isOne_ok 9 rfl rfl) (by decide) (by decide)
def X12_isPlace_f (x0 : Int32) (σ : Sig) : Option (Int32) := (X12_isIn_f x0 0 5 σ).bind fun v1 => if v1 = 0 ∨ v1 = 1 then some v1 else none
set_option maxRecDepth 4000 in
set_option maxHeartbeats 1000000 in
theorem X12_isPlace_ok {D : Nat} {τ : Tau} {nx : Nat} {x0 : Int32} {σ : Sig} {res : Int32} (hD : 2 ≤ D) (H : X12_isPlace_f x0 σ = some res) : Ok D 0 0 yX12_isPlace cX12_isPlace 1 (some .boolean) [.int x0] (τ, σ, nx) (some (.int res)) (τ, σ, nx) := by
  refine ok_of (by decide +kernel) rfl (Nat.le_of_ble_eq_true rfl) (fun K X hF hE hN L0 hL0 => ?_)
  obtain rfl : [some (.int x0)] = L0 := hL0
  have hF : Fx K X cX12_isPlace 1 RX12 D 0 0 := hF
  refine g_p (S' := [.int 5, .int 0, .int x0]) hF tX12_isPlace_ok 0 3 rfl rfl rfl rfl ?_
  obtain ⟨v1, e2, H⟩ := ob H
  refine g_cS (S := []) hF (X12_isIn_ok (Nat.le_refl _)  e2 K) mbX12_isIn msX12_isIn mlX12_50 (by omega) (by decide) (dAt tX12_isPlace_ok 3 rfl rfl) rfl rfl (Nat.le_of_ble_eq_true rfl) rfl rfl (by decide) (by decide) rfl ?_
  obtain ⟨hb, H⟩ := oy H
  exact g_zret hF (en_i H hE) hb (dAt tX12_isPlace_ok 4 rfl rfl) (by decide) (by decide)
def X12_own_f (a : Nat) (x1 x2 : Int32) (σ : Sig) : Option (Int32) := (ld 20240 (σ (a + 1)) ((90 + (8 * x1)) + x2)).bind fun v1 => some v1
set_option maxRecDepth 4000 in
set_option maxHeartbeats 1000000 in
theorem X12_own_ok {D : Nat} {τ : Tau} {nx : Nat} {a : Nat} {x1 x2 : Int32} {σ : Sig} {res : Int32} (hD : 1 ≤ D) (hS : ShX12 τ a) (H : X12_own_f a x1 x2 σ = some res) : Ok D 0 0 yX12_own cX12_own 3 (some .int) [.ref a, .int x1, .int x2] (τ, σ, nx) (some (.int res)) (τ, σ, nx) := by
  refine ok_of (by decide +kernel) rfl (Nat.le_of_ble_eq_true rfl) (fun K X hF hE hN L0 hL0 => ?_)
  obtain rfl : [some (.ref a), some (.int x1), some (.int x2)] = L0 := hL0
  have hF : Fx K X cX12_own 3 RX12 D 0 0 := hF
  refine g_p (S' := [.ref a]) hF tX12_own_ok 0 1 rfl rfl rfl rfl ?_
  refine g_getR hF (dAt tX12_own_ok 1 rfl rfl) flX12_7 hS.1 rfl ?_
  refine g_p (S' := [.int ((90 + (8 * x1)) + x2), .ref (a + 1)]) hF tX12_own_ok 2 7 rfl rfl rfl rfl ?_
  obtain ⟨v1, e2, H⟩ := ob H
  refine g_ild hF (dAt tX12_own_ok 9 rfl rfl) hS.2.1 e2 ?_
  exact g_iret hF (en_i H hE) (dAt tX12_own_ok 10 rfl rfl) (by decide) (by decide)
def X12_gives_f (a : Nat) (x1 x2 x3 : Int32) (σ : Sig) : Option (Sig) := (st 20240 σ (a + 1) ((90 + (8 * x1)) + x2) x3).bind fun s1 => some s1
set_option maxRecDepth 4000 in
set_option maxHeartbeats 1000000 in
theorem X12_gives_ok {D : Nat} {τ : Tau} {nx : Nat} {a : Nat} {x1 x2 x3 : Int32} {σ : Sig} {res : Sig} (hD : 1 ≤ D) (hS : ShX12 τ a) (H : X12_gives_f a x1 x2 x3 σ = some res) : Ok D 0 0 yX12_gives cX12_gives 4 none [.ref a, .int x1, .int x2, .int x3] (τ, σ, nx) none (τ, res, nx) := by
  refine ok_of (by decide +kernel) rfl (Nat.le_of_ble_eq_true rfl) (fun K X hF hE hN L0 hL0 => ?_)
  obtain rfl : [some (.ref a), some (.int x1), some (.int x2), some (.int x3)] = L0 := hL0
  have hF : Fx K X cX12_gives 4 RX12 D 0 0 := hF
  refine g_p (S' := [.ref a]) hF tX12_gives_ok 0 1 rfl rfl rfl rfl ?_
  refine g_getR hF (dAt tX12_gives_ok 1 rfl rfl) flX12_7 hS.1 rfl ?_
  refine g_p (S' := [.int x3, .int ((90 + (8 * x1)) + x2), .ref (a + 1)]) hF tX12_gives_ok 2 8 rfl rfl rfl rfl ?_
  obtain ⟨s1, e2, H⟩ := ob H
  refine g_ist hF (dAt tX12_gives_ok 10 rfl rfl) hS.2.1 e2 ?_
  exact g_vret hF (en_v H hE) (dAt tX12_gives_ok 11 rfl rfl) (by decide) (by decide)
def X12_debtOf_f (a : Nat) (x1 x2 : Int32) (σ : Sig) : Option (Int32) := (ld 20240 (σ (a + 1)) ((230 + (8 * x1)) + x2)).bind fun v1 => some v1
set_option maxRecDepth 4000 in
set_option maxHeartbeats 1000000 in
theorem X12_debtOf_ok {D : Nat} {τ : Tau} {nx : Nat} {a : Nat} {x1 x2 : Int32} {σ : Sig} {res : Int32} (hD : 1 ≤ D) (hS : ShX12 τ a) (H : X12_debtOf_f a x1 x2 σ = some res) : Ok D 0 0 yX12_debtOf cX12_debtOf 3 (some .int) [.ref a, .int x1, .int x2] (τ, σ, nx) (some (.int res)) (τ, σ, nx) := by
  refine ok_of (by decide +kernel) rfl (Nat.le_of_ble_eq_true rfl) (fun K X hF hE hN L0 hL0 => ?_)
  obtain rfl : [some (.ref a), some (.int x1), some (.int x2)] = L0 := hL0
  have hF : Fx K X cX12_debtOf 3 RX12 D 0 0 := hF
  refine g_p (S' := [.ref a]) hF tX12_debtOf_ok 0 1 rfl rfl rfl rfl ?_
  refine g_getR hF (dAt tX12_debtOf_ok 1 rfl rfl) flX12_7 hS.1 rfl ?_
  refine g_p (S' := [.int ((230 + (8 * x1)) + x2), .ref (a + 1)]) hF tX12_debtOf_ok 2 7 rfl rfl rfl rfl ?_
  obtain ⟨v1, e2, H⟩ := ob H
  refine g_ild hF (dAt tX12_debtOf_ok 9 rfl rfl) hS.2.1 e2 ?_
  exact g_iret hF (en_i H hE) (dAt tX12_debtOf_ok 10 rfl rfl) (by decide) (by decide)
def X12_lays0_f (a : Nat) (x1 x2 x3 : Int32) (σ : Sig) : Option (Sig) := (st 20240 σ (a + 1) ((230 + (8 * x1)) + x2) x3).bind fun s1 => some s1
set_option maxRecDepth 4000 in
set_option maxHeartbeats 1000000 in
theorem X12_lays0_ok {D : Nat} {τ : Tau} {nx : Nat} {a : Nat} {x1 x2 x3 : Int32} {σ : Sig} {res : Sig} (hD : 1 ≤ D) (hS : ShX12 τ a) (H : X12_lays0_f a x1 x2 x3 σ = some res) : Ok D 0 0 yX12_lays0 cX12_lays0 4 none [.ref a, .int x1, .int x2, .int x3] (τ, σ, nx) none (τ, res, nx) := by
  refine ok_of (by decide +kernel) rfl (Nat.le_of_ble_eq_true rfl) (fun K X hF hE hN L0 hL0 => ?_)
  obtain rfl : [some (.ref a), some (.int x1), some (.int x2), some (.int x3)] = L0 := hL0
  have hF : Fx K X cX12_lays0 4 RX12 D 0 0 := hF
  refine g_p (S' := [.ref a]) hF tX12_lays0_ok 0 1 rfl rfl rfl rfl ?_
  refine g_getR hF (dAt tX12_lays0_ok 1 rfl rfl) flX12_7 hS.1 rfl ?_
  refine g_p (S' := [.int x3, .int ((230 + (8 * x1)) + x2), .ref (a + 1)]) hF tX12_lays0_ok 2 8 rfl rfl rfl rfl ?_
  obtain ⟨s1, e2, H⟩ := ob H
  refine g_ist hF (dAt tX12_lays0_ok 10 rfl rfl) hS.2.1 e2 ?_
  exact g_vret hF (en_v H hE) (dAt tX12_lays0_ok 11 rfl rfl) (by decide) (by decide)
def X12_one_f (a : Nat) (x1 x2 x3 x4 x5 : Int32) (σ : Sig) : Option (Int32 × Sig) := (X12_isIn_f x1 0 2 σ).bind fun v1 => if v1 = 0 then (some ((-1), σ)) else ((X12_isPlace_f x2 σ).bind fun v4 => if v4 = 0 then (some ((-1), σ)) else ((X12_isIn_f x3 0 99 σ).bind fun v7 => if v7 = 0 then (some ((-1), σ)) else ((X12_isIn_f x4 0 1000 σ).bind fun v10 => if v10 = 0 then (some ((-1), σ)) else ((X12_isIn_f x5 0 4 σ).bind fun v13 => if v13 = 0 then (some ((-1), σ)) else ((ld 20240 (σ (a + 1)) 9).bind fun v16 => if v16 = 12 then (some ((-1), σ)) else ((ld 20240 (σ (a + 1)) 9).bind fun v19 => (X12_gives_f a v19 0 x1 σ).bind fun s21 => (X12_gives_f a v19 1 x2 s21).bind fun s23 => (X12_gives_f a v19 2 x3 s23).bind fun s25 => (X12_gives_f a v19 3 x4 s25).bind fun s27 => (X12_gives_f a v19 4 x5 s27).bind fun s29 => (X12_gives_f a v19 5 0 s29).bind fun s31 => (X12_gives_f a v19 6 (-1) s31).bind fun s33 => (X12_hushes_f a v19 s33).bind fun s35 => (ld 20240 (s35 (a + 1)) 9).bind fun v37 => (st 20240 s35 (a + 1) 9 (v37 + 1)).bind fun s39 => some (v19, s39)))))))
set_option maxRecDepth 4000 in
set_option maxHeartbeats 1000000 in
theorem X12_one_ok {D : Nat} {τ : Tau} {nx : Nat} {a : Nat} {x1 x2 x3 x4 x5 : Int32} {σ : Sig} {res : Int32} {rsg : Sig} (hD : 3 ≤ D) (hS : ShX12 τ a) (H : X12_one_f a x1 x2 x3 x4 x5 σ = some (res, rsg)) : Ok D 0 0 yX12_one cX12_one 7 (some .int) [.ref a, .int x1, .int x2, .int x3, .int x4, .int x5] (τ, σ, nx) (some (.int res)) (τ, rsg, nx) := by
  refine ok_of (by decide +kernel) rfl (Nat.le_of_ble_eq_true rfl) (fun K X hF hE hN L0 hL0 => ?_)
  obtain rfl : [some (.ref a), some (.int x1), some (.int x2), some (.int x3), some (.int x4), some (.int x5), none] = L0 := hL0
  have hF : Fx K X cX12_one 7 RX12 D 0 0 := hF
  refine g_p (S' := [.int 2, .int 0, .int x1]) hF tX12_one_ok 0 3 rfl rfl rfl rfl ?_
  obtain ⟨v1, e2, H⟩ := ob H
  refine g_cS (S := []) hF (X12_isIn_ok (Nat.le_refl _)  e2 K) mbX12_isIn msX12_isIn mlX12_50 (by omega) (by decide) (dAt tX12_one_ok 3 rfl rfl) rfl rfl (Nat.le_of_ble_eq_true rfl) rfl rfl (by decide) (by decide) rfl ?_
  obtain ⟨Ht3, Hf3⟩ := oi H
  refine g_if_eq hF (dAt tX12_one_ok 4 rfl rfl) rfl (fun c3 => ?_) (fun c3 => ?_)
  · have H := Ht3 c3
    refine g_p (S' := [.int (-1)]) hF tX12_one_ok 29 1 rfl rfl rfl rfl ?_
    exact g_iret hF (en_p H hE) (dAt tX12_one_ok 30 rfl rfl) (by decide) (by decide)
  · have H := Hf3 c3
    refine g_p (S' := [.int x2]) hF tX12_one_ok 5 1 rfl rfl rfl rfl ?_
    obtain ⟨v4, e5, H⟩ := ob H
    refine g_cS (S := []) hF (X12_isPlace_ok (Nat.le_refl _)  e5 K) mbX12_isPlace msX12_isPlace mlX12_54 (by omega) (by decide) (dAt tX12_one_ok 6 rfl rfl) rfl rfl (Nat.le_of_ble_eq_true rfl) rfl rfl (by decide) (by decide) rfl ?_
    obtain ⟨Ht6, Hf6⟩ := oi H
    refine g_if_eq hF (dAt tX12_one_ok 7 rfl rfl) rfl (fun c6 => ?_) (fun c6 => ?_)
    · have H := Ht6 c6
      refine g_p (S' := [.int (-1)]) hF tX12_one_ok 29 1 rfl rfl rfl rfl ?_
      exact g_iret hF (en_p H hE) (dAt tX12_one_ok 30 rfl rfl) (by decide) (by decide)
    · have H := Hf6 c6
      refine g_p (S' := [.int 99, .int 0, .int x3]) hF tX12_one_ok 8 3 rfl rfl rfl rfl ?_
      obtain ⟨v7, e8, H⟩ := ob H
      refine g_cS (S := []) hF (X12_isIn_ok (Nat.le_refl _)  e8 K) mbX12_isIn msX12_isIn mlX12_50 (by omega) (by decide) (dAt tX12_one_ok 11 rfl rfl) rfl rfl (Nat.le_of_ble_eq_true rfl) rfl rfl (by decide) (by decide) rfl ?_
      obtain ⟨Ht9, Hf9⟩ := oi H
      refine g_if_eq hF (dAt tX12_one_ok 12 rfl rfl) rfl (fun c9 => ?_) (fun c9 => ?_)
      · have H := Ht9 c9
        refine g_p (S' := [.int (-1)]) hF tX12_one_ok 29 1 rfl rfl rfl rfl ?_
        exact g_iret hF (en_p H hE) (dAt tX12_one_ok 30 rfl rfl) (by decide) (by decide)
      · have H := Hf9 c9
        refine g_p (S' := [.int 1000, .int 0, .int x4]) hF tX12_one_ok 13 3 rfl rfl rfl rfl ?_
        obtain ⟨v10, e11, H⟩ := ob H
        refine g_cS (S := []) hF (X12_isIn_ok (Nat.le_refl _)  e11 K) mbX12_isIn msX12_isIn mlX12_50 (by omega) (by decide) (dAt tX12_one_ok 16 rfl rfl) rfl rfl (Nat.le_of_ble_eq_true rfl) rfl rfl (by decide) (by decide) rfl ?_
        obtain ⟨Ht12, Hf12⟩ := oi H
        refine g_if_eq hF (dAt tX12_one_ok 17 rfl rfl) rfl (fun c12 => ?_) (fun c12 => ?_)
        · have H := Ht12 c12
          refine g_p (S' := [.int (-1)]) hF tX12_one_ok 29 1 rfl rfl rfl rfl ?_
          exact g_iret hF (en_p H hE) (dAt tX12_one_ok 30 rfl rfl) (by decide) (by decide)
        · have H := Hf12 c12
          refine g_p (S' := [.int 4, .int 0, .int x5]) hF tX12_one_ok 18 3 rfl rfl rfl rfl ?_
          obtain ⟨v13, e14, H⟩ := ob H
          refine g_cS (S := []) hF (X12_isIn_ok (Nat.le_refl _)  e14 K) mbX12_isIn msX12_isIn mlX12_50 (by omega) (by decide) (dAt tX12_one_ok 21 rfl rfl) rfl rfl (Nat.le_of_ble_eq_true rfl) rfl rfl (by decide) (by decide) rfl ?_
          obtain ⟨Ht15, Hf15⟩ := oi H
          refine g_if_eq hF (dAt tX12_one_ok 22 rfl rfl) rfl (fun c15 => ?_) (fun c15 => ?_)
          · have H := Ht15 c15
            refine g_p (S' := [.int (-1)]) hF tX12_one_ok 29 1 rfl rfl rfl rfl ?_
            exact g_iret hF (en_p H hE) (dAt tX12_one_ok 30 rfl rfl) (by decide) (by decide)
          · have H := Hf15 c15
            refine g_p (S' := [.ref a]) hF tX12_one_ok 23 1 rfl rfl rfl rfl ?_
            refine g_getR hF (dAt tX12_one_ok 24 rfl rfl) flX12_7 hS.1 rfl ?_
            refine g_p (S' := [.int 9, .ref (a + 1)]) hF tX12_one_ok 25 1 rfl rfl rfl rfl ?_
            obtain ⟨v16, e17, H⟩ := ob H
            refine g_ild hF (dAt tX12_one_ok 26 rfl rfl) hS.2.1 e17 ?_
            refine g_p (S' := [.int 12, .int v16]) hF tX12_one_ok 27 1 rfl rfl rfl rfl ?_
            obtain ⟨Ht18, Hf18⟩ := oi H
            refine g_icmp_ne hF (dAt tX12_one_ok 28 rfl rfl) rfl (fun c18 => ?_) (fun c18 => ?_)
            · have H := Hf18 c18
              refine g_p (S' := [.ref a]) hF tX12_one_ok 31 1 rfl rfl rfl rfl ?_
              refine g_getR hF (dAt tX12_one_ok 32 rfl rfl) flX12_7 hS.1 rfl ?_
              refine g_p (S' := [.int 9, .ref (a + 1)]) hF tX12_one_ok 33 1 rfl rfl rfl rfl ?_
              obtain ⟨v19, e20, H⟩ := ob H
              refine g_ild hF (dAt tX12_one_ok 34 rfl rfl) hS.2.1 e20 ?_
              refine g_p (L' := [some (.ref a), some (.int x1), some (.int x2), some (.int x3), some (.int x4), some (.int x5), some (.int v19)]) (S' := [.int x1, .int 0, .int v19, .ref a]) hF tX12_one_ok 35 5 rfl rfl rfl rfl ?_
              obtain ⟨s21, e22, H⟩ := ob H
              refine g_cV (S := []) hF (X12_gives_ok (Nat.le_refl _) hS e22 K) mbX12_gives mvX12_gives mlX12_58 (by omega) (by decide) (dAt tX12_one_ok 40 rfl rfl) hS.1 rfl rfl rfl (Nat.le_of_ble_eq_true rfl) rfl rfl (by decide) (by decide) rfl ?_
              refine g_p (S' := [.int x2, .int 1, .int v19, .ref a]) hF tX12_one_ok 41 4 rfl rfl rfl rfl ?_
              obtain ⟨s23, e24, H⟩ := ob H
              refine g_cV (S := []) hF (X12_gives_ok (Nat.le_refl _) hS e24 K) mbX12_gives mvX12_gives mlX12_58 (by omega) (by decide) (dAt tX12_one_ok 45 rfl rfl) hS.1 rfl rfl rfl (Nat.le_of_ble_eq_true rfl) rfl rfl (by decide) (by decide) rfl ?_
              refine g_p (S' := [.int x3, .int 2, .int v19, .ref a]) hF tX12_one_ok 46 4 rfl rfl rfl rfl ?_
              obtain ⟨s25, e26, H⟩ := ob H
              refine g_cV (S := []) hF (X12_gives_ok (Nat.le_refl _) hS e26 K) mbX12_gives mvX12_gives mlX12_58 (by omega) (by decide) (dAt tX12_one_ok 50 rfl rfl) hS.1 rfl rfl rfl (Nat.le_of_ble_eq_true rfl) rfl rfl (by decide) (by decide) rfl ?_
              refine g_p (S' := [.int x4, .int 3, .int v19, .ref a]) hF tX12_one_ok 51 4 rfl rfl rfl rfl ?_
              obtain ⟨s27, e28, H⟩ := ob H
              refine g_cV (S := []) hF (X12_gives_ok (Nat.le_refl _) hS e28 K) mbX12_gives mvX12_gives mlX12_58 (by omega) (by decide) (dAt tX12_one_ok 55 rfl rfl) hS.1 rfl rfl rfl (Nat.le_of_ble_eq_true rfl) rfl rfl (by decide) (by decide) rfl ?_
              refine g_p (S' := [.int x5, .int 4, .int v19, .ref a]) hF tX12_one_ok 56 4 rfl rfl rfl rfl ?_
              obtain ⟨s29, e30, H⟩ := ob H
              refine g_cV (S := []) hF (X12_gives_ok (Nat.le_refl _) hS e30 K) mbX12_gives mvX12_gives mlX12_58 (by omega) (by decide) (dAt tX12_one_ok 60 rfl rfl) hS.1 rfl rfl rfl (Nat.le_of_ble_eq_true rfl) rfl rfl (by decide) (by decide) rfl ?_
              refine g_p (S' := [.int 0, .int 5, .int v19, .ref a]) hF tX12_one_ok 61 4 rfl rfl rfl rfl ?_
              obtain ⟨s31, e32, H⟩ := ob H
              refine g_cV (S := []) hF (X12_gives_ok (Nat.le_refl _) hS e32 K) mbX12_gives mvX12_gives mlX12_58 (by omega) (by decide) (dAt tX12_one_ok 65 rfl rfl) hS.1 rfl rfl rfl (Nat.le_of_ble_eq_true rfl) rfl rfl (by decide) (by decide) rfl ?_
              refine g_p (S' := [.int (-1), .int 6, .int v19, .ref a]) hF tX12_one_ok 66 4 rfl rfl rfl rfl ?_
              obtain ⟨s33, e34, H⟩ := ob H
              refine g_cV (S := []) hF (X12_gives_ok (Nat.le_refl _) hS e34 K) mbX12_gives mvX12_gives mlX12_58 (by omega) (by decide) (dAt tX12_one_ok 70 rfl rfl) hS.1 rfl rfl rfl (Nat.le_of_ble_eq_true rfl) rfl rfl (by decide) (by decide) rfl ?_
              refine g_p (S' := [.int v19, .ref a]) hF tX12_one_ok 71 2 rfl rfl rfl rfl ?_
              obtain ⟨s35, e36, H⟩ := ob H
              refine g_cV (S := []) hF (X12_hushes_ok (Nat.le_refl _) hS e36 K) mbX12_hushes mvX12_hushes mlX12_44 (by omega) (by decide) (dAt tX12_one_ok 73 rfl rfl) hS.1 rfl rfl rfl (Nat.le_of_ble_eq_true rfl) rfl rfl (by decide) (by decide) rfl ?_
              refine g_p (S' := [.ref a]) hF tX12_one_ok 74 1 rfl rfl rfl rfl ?_
              refine g_getR hF (dAt tX12_one_ok 75 rfl rfl) flX12_7 hS.1 rfl ?_
              refine g_p (S' := [.int 9, .ref (a + 1), .int 9, .ref (a + 1)]) hF tX12_one_ok 76 2 rfl rfl rfl rfl ?_
              obtain ⟨v37, e38, H⟩ := ob H
              refine g_ild hF (dAt tX12_one_ok 78 rfl rfl) hS.2.1 e38 ?_
              refine g_p (S' := [.int (v37 + 1), .int 9, .ref (a + 1)]) hF tX12_one_ok 79 2 rfl rfl rfl rfl ?_
              obtain ⟨s39, e40, H⟩ := ob H
              refine g_ist hF (dAt tX12_one_ok 81 rfl rfl) hS.2.1 e40 ?_
              refine g_p (S' := [.int v19]) hF tX12_one_ok 82 1 rfl rfl rfl rfl ?_
              exact g_iret hF (en_p H hE) (dAt tX12_one_ok 83 rfl rfl) (by decide) (by decide)
            · have H := Ht18 c18
              refine g_p (S' := [.int (-1)]) hF tX12_one_ok 29 1 rfl rfl rfl rfl ?_
              exact g_iret hF (en_p H hE) (dAt tX12_one_ok 30 rfl rfl) (by decide) (by decide)
def X12_tell_b109 (a : Nat) (x1 x2 x3 y0 : Int32) (σ : Sig) : Option (Int32 × Sig) := (X12_isIn_f x3 0 y0 σ).bind fun v1 => if v1 = 0 then (some (0, σ)) else ((X12_gives_f a x1 (1 + x2) x3 σ).bind fun s4 => some (1, s4))
set_option maxRecDepth 4000 in
set_option maxHeartbeats 1000000 in
theorem X12_tell_b109_ok {K : Kt} {X : Cx} {D : Nat} {τ : Tau} {nx : Nat} {a : Nat} {res : Int32} {rsg : Sig}  (hD : 3 ≤ D) (hF : Fx K X cX12_tell 5 RX12 D 0 0) (hS : ShX12 τ a) (hE : En K X (some .boolean) 0 0 (some (.int res)) (τ, rsg, nx)) {x1 x2 x3 y0 : Int32} {σ : Sig} (H : X12_tell_b109 a x1 x2 x3 y0 σ = some (res, rsg)) : G K X 5 0 0 109 [some (.ref a), some (.int x1), some (.int x2), some (.int x3), none] [.int y0] (τ, σ, nx) := by
  refine g_p (L' := [some (.ref a), some (.int x1), some (.int x2), some (.int x3), some (.int y0)]) (S' := [.int y0, .int 0, .int x3]) hF tX12_tell_ok 62 4 rfl rfl rfl rfl ?_
  obtain ⟨v1, e2, H⟩ := ob H
  refine g_cS (S := []) hF (X12_isIn_ok (Nat.le_refl _)  e2 K) mbX12_isIn msX12_isIn mlX12_50 (by omega) (by decide) (dAt tX12_tell_ok 66 rfl rfl) rfl rfl (Nat.le_of_ble_eq_true rfl) rfl rfl (by decide) (by decide) rfl ?_
  obtain ⟨Ht3, Hf3⟩ := oi H
  refine g_if_ne hF (dAt tX12_tell_ok 67 rfl rfl) rfl (fun c3 => ?_) (fun c3 => ?_)
  · have H := Hf3 c3
    refine g_p (S' := [.int x3, .int (1 + x2), .int x1, .ref a]) hF tX12_tell_ok 70 6 rfl rfl rfl rfl ?_
    obtain ⟨s4, e5, H⟩ := ob H
    refine g_cV (S := []) hF (X12_gives_ok (Nat.le_refl _) hS e5 K) mbX12_gives mvX12_gives mlX12_58 (by omega) (by decide) (dAt tX12_tell_ok 76 rfl rfl) hS.1 rfl rfl rfl (Nat.le_of_ble_eq_true rfl) rfl rfl (by decide) (by decide) rfl ?_
    refine g_p (S' := [.int 1]) hF tX12_tell_ok 77 1 rfl rfl rfl rfl ?_
    exact g_zret hF (en_p H hE) (Or.inr rfl) (dAt tX12_tell_ok 78 rfl rfl) (by decide) (by decide)
  · have H := Ht3 c3
    refine g_p (S' := [.int 0]) hF tX12_tell_ok 68 1 rfl rfl rfl rfl ?_
    exact g_zret hF (en_p H hE) (Or.inl rfl) (dAt tX12_tell_ok 69 rfl rfl) (by decide) (by decide)
def X12_tell_b59 (a : Nat) (x1 x3 : Int32) (σ : Sig) : Option (Int32 × Sig) := (X12_gives_f a x1 6 x3 σ).bind fun s1 => some (1, s1)
set_option maxRecDepth 4000 in
set_option maxHeartbeats 1000000 in
theorem X12_tell_b59_ok {K : Kt} {X : Cx} {D : Nat} {τ : Tau} {nx : Nat} {a : Nat} {res : Int32} {rsg : Sig}  (hD : 3 ≤ D) (hF : Fx K X cX12_tell 5 RX12 D 0 0) (hS : ShX12 τ a) (hE : En K X (some .boolean) 0 0 (some (.int res)) (τ, rsg, nx)) {x1 x3 : Int32} {σ : Sig} (H : X12_tell_b59 a x1 x3 σ = some (res, rsg)) : G K X 5 0 0 59 [some (.ref a), some (.int x1), none, some (.int x3), none] [] (τ, σ, nx) := by
  refine g_p (S' := [.int x3, .int 6, .int x1, .ref a]) hF tX12_tell_ok 35 4 rfl rfl rfl rfl ?_
  obtain ⟨s1, e2, H⟩ := ob H
  refine g_cV (S := []) hF (X12_gives_ok (Nat.le_refl _) hS e2 K) mbX12_gives mvX12_gives mlX12_58 (by omega) (by decide) (dAt tX12_tell_ok 39 rfl rfl) hS.1 rfl rfl rfl (Nat.le_of_ble_eq_true rfl) rfl rfl (by decide) (by decide) rfl ?_
  refine g_p (S' := [.int 1]) hF tX12_tell_ok 40 1 rfl rfl rfl rfl ?_
  exact g_zret hF (en_p H hE) (Or.inr rfl) (dAt tX12_tell_ok 41 rfl rfl) (by decide) (by decide)
def X12_tell_f (a : Nat) (x1 x2 x3 : Int32) (σ : Sig) : Option (Int32 × Sig) := (X12_isOne_f a x1 σ).bind fun v1 => if v1 = 0 then (some (0, σ)) else ((X12_isIn_f x2 0 5 σ).bind fun v4 => if v4 = 0 then (some (0, σ)) else (if x2 = 5 then ((X12_own_f a x1 0 σ).bind fun v12 => if v12 = 1 then (if x3 = (-1) then (X12_tell_b59 a x1 x3 σ) else ((X12_isOne_f a x3 σ).bind fun v16 => if v16 = 0 then (some (0, σ)) else ((X12_own_f a x3 0 σ).bind fun v19 => if v19 = 1 then (some (0, σ)) else (X12_tell_b59 a x1 x3 σ)))) else (some (0, σ))) else (if x2 = 0 then (X12_tell_b109 a x1 x2 x3 5 σ) else (if x2 = 1 then (X12_tell_b109 a x1 x2 x3 99 σ) else (if x2 = 2 then (X12_tell_b109 a x1 x2 x3 1000 σ) else (if x2 = 3 then (X12_tell_b109 a x1 x2 x3 4 σ) else (X12_tell_b109 a x1 x2 x3 99999 σ)))))))
set_option maxRecDepth 4000 in
set_option maxHeartbeats 1000000 in
theorem X12_tell_ok {D : Nat} {τ : Tau} {nx : Nat} {a : Nat} {x1 x2 x3 : Int32} {σ : Sig} {res : Int32} {rsg : Sig} (hD : 3 ≤ D) (hS : ShX12 τ a) (H : X12_tell_f a x1 x2 x3 σ = some (res, rsg)) : Ok D 0 0 yX12_tell cX12_tell 5 (some .boolean) [.ref a, .int x1, .int x2, .int x3] (τ, σ, nx) (some (.int res)) (τ, rsg, nx) := by
  refine ok_of (by decide +kernel) rfl (Nat.le_of_ble_eq_true rfl) (fun K X hF hE hN L0 hL0 => ?_)
  obtain rfl : [some (.ref a), some (.int x1), some (.int x2), some (.int x3), none] = L0 := hL0
  have hF : Fx K X cX12_tell 5 RX12 D 0 0 := hF
  refine g_p (S' := [.int x1, .ref a]) hF tX12_tell_ok 0 2 rfl rfl rfl rfl ?_
  obtain ⟨v1, e2, H⟩ := ob H
  refine g_cV (S := []) hF (X12_isOne_ok (Nat.le_refl _) hS e2 K) mbX12_isOne mvX12_isOne mlX12_62 (by omega) (by decide) (dAt tX12_tell_ok 2 rfl rfl) hS.1 rfl rfl rfl (Nat.le_of_ble_eq_true rfl) rfl rfl (by decide) (by decide) rfl ?_
  obtain ⟨Ht3, Hf3⟩ := oi H
  refine g_if_eq hF (dAt tX12_tell_ok 3 rfl rfl) rfl (fun c3 => ?_) (fun c3 => ?_)
  · have H := Ht3 c3
    refine g_p (S' := [.int 0]) hF tX12_tell_ok 9 1 rfl rfl rfl rfl ?_
    exact g_zret hF (en_p H hE) (Or.inl rfl) (dAt tX12_tell_ok 10 rfl rfl) (by decide) (by decide)
  · have H := Hf3 c3
    refine g_p (S' := [.int 5, .int 0, .int x2]) hF tX12_tell_ok 4 3 rfl rfl rfl rfl ?_
    obtain ⟨v4, e5, H⟩ := ob H
    refine g_cS (S := []) hF (X12_isIn_ok (Nat.le_refl _)  e5 K) mbX12_isIn msX12_isIn mlX12_50 (by omega) (by decide) (dAt tX12_tell_ok 7 rfl rfl) rfl rfl (Nat.le_of_ble_eq_true rfl) rfl rfl (by decide) (by decide) rfl ?_
    obtain ⟨Ht6, Hf6⟩ := oi H
    refine g_if_ne hF (dAt tX12_tell_ok 8 rfl rfl) rfl (fun c6 => ?_) (fun c6 => ?_)
    · have H := Hf6 c6
      refine g_p (S' := [.int 5, .int x2]) hF tX12_tell_ok 11 2 rfl rfl rfl rfl ?_
      obtain ⟨Ht7, Hf7⟩ := oi H
      refine g_icmp_ne hF (dAt tX12_tell_ok 13 rfl rfl) rfl (fun c7 => ?_) (fun c7 => ?_)
      · have H := Hf7 c7
        refine g_p (S' := [.int x2]) hF tX12_tell_ok 42 1 rfl rfl rfl rfl ?_
        obtain ⟨Ht8, Hf8⟩ := oi H
        refine g_if_ne hF (dAt tX12_tell_ok 43 rfl rfl) rfl (fun c8 => ?_) (fun c8 => ?_)
        · have H := Hf8 c8
          refine g_p (S' := [.int 1, .int x2]) hF tX12_tell_ok 46 2 rfl rfl rfl rfl ?_
          obtain ⟨Ht9, Hf9⟩ := oi H
          refine g_icmp_ne hF (dAt tX12_tell_ok 48 rfl rfl) rfl (fun c9 => ?_) (fun c9 => ?_)
          · have H := Hf9 c9
            refine g_p (S' := [.int 2, .int x2]) hF tX12_tell_ok 51 2 rfl rfl rfl rfl ?_
            obtain ⟨Ht10, Hf10⟩ := oi H
            refine g_icmp_ne hF (dAt tX12_tell_ok 53 rfl rfl) rfl (fun c10 => ?_) (fun c10 => ?_)
            · have H := Hf10 c10
              refine g_p (S' := [.int 3, .int x2]) hF tX12_tell_ok 56 2 rfl rfl rfl rfl ?_
              obtain ⟨Ht11, Hf11⟩ := oi H
              refine g_icmp_ne hF (dAt tX12_tell_ok 58 rfl rfl) rfl (fun c11 => ?_) (fun c11 => ?_)
              · have H := Hf11 c11
                refine g_ldc hF (dAt tX12_tell_ok 61 rfl rfl) coX12_69 ?_
                exact X12_tell_b109_ok hD hF hS hE H
              · have H := Ht11 c11
                refine g_p (S' := [.int 4]) hF tX12_tell_ok 59 1 rfl rfl rfl rfl ?_
                refine g_goto hF (dAt tX12_tell_ok 60 rfl rfl) rfl ?_
                exact X12_tell_b109_ok hD hF hS hE H
            · have H := Ht10 c10
              refine g_p (S' := [.int 1000]) hF tX12_tell_ok 54 1 rfl rfl rfl rfl ?_
              refine g_goto hF (dAt tX12_tell_ok 55 rfl rfl) rfl ?_
              exact X12_tell_b109_ok hD hF hS hE H
          · have H := Ht9 c9
            refine g_p (S' := [.int 99]) hF tX12_tell_ok 49 1 rfl rfl rfl rfl ?_
            refine g_goto hF (dAt tX12_tell_ok 50 rfl rfl) rfl ?_
            exact X12_tell_b109_ok hD hF hS hE H
        · have H := Ht8 c8
          refine g_p (S' := [.int 5]) hF tX12_tell_ok 44 1 rfl rfl rfl rfl ?_
          refine g_goto hF (dAt tX12_tell_ok 45 rfl rfl) rfl ?_
          exact X12_tell_b109_ok hD hF hS hE H
      · have H := Ht7 c7
        refine g_p (S' := [.int 0, .int x1, .ref a]) hF tX12_tell_ok 14 3 rfl rfl rfl rfl ?_
        obtain ⟨v12, e13, H⟩ := ob H
        refine g_cV (S := []) hF (X12_own_ok (Nat.le_refl _) hS e13 K) mbX12_own mvX12_own mlX12_65 (by omega) (by decide) (dAt tX12_tell_ok 17 rfl rfl) hS.1 rfl rfl rfl (Nat.le_of_ble_eq_true rfl) rfl rfl (by decide) (by decide) rfl ?_
        refine g_p (S' := [.int 1, .int v12]) hF tX12_tell_ok 18 1 rfl rfl rfl rfl ?_
        obtain ⟨Ht14, Hf14⟩ := oi H
        refine g_icmp_ne hF (dAt tX12_tell_ok 19 rfl rfl) rfl (fun c14 => ?_) (fun c14 => ?_)
        · have H := Hf14 c14
          refine g_p (S' := [.int 0]) hF tX12_tell_ok 33 1 rfl rfl rfl rfl ?_
          exact g_zret hF (en_p H hE) (Or.inl rfl) (dAt tX12_tell_ok 34 rfl rfl) (by decide) (by decide)
        · have H := Ht14 c14
          refine g_p (S' := [.int (-1), .int x3]) hF tX12_tell_ok 20 2 rfl rfl rfl rfl ?_
          obtain ⟨Ht15, Hf15⟩ := oi H
          refine g_icmp_eq hF (dAt tX12_tell_ok 22 rfl rfl) rfl (fun c15 => ?_) (fun c15 => ?_)
          · have H := Ht15 c15
            refine g_m [true, true, false, true, false] rfl ?_
            exact X12_tell_b59_ok hD hF hS hE H
          · have H := Hf15 c15
            refine g_p (S' := [.int x3, .ref a]) hF tX12_tell_ok 23 2 rfl rfl rfl rfl ?_
            obtain ⟨v16, e17, H⟩ := ob H
            refine g_cV (S := []) hF (X12_isOne_ok (Nat.le_refl _) hS e17 K) mbX12_isOne mvX12_isOne mlX12_62 (by omega) (by decide) (dAt tX12_tell_ok 25 rfl rfl) hS.1 rfl rfl rfl (Nat.le_of_ble_eq_true rfl) rfl rfl (by decide) (by decide) rfl ?_
            obtain ⟨Ht18, Hf18⟩ := oi H
            refine g_if_eq hF (dAt tX12_tell_ok 26 rfl rfl) rfl (fun c18 => ?_) (fun c18 => ?_)
            · have H := Ht18 c18
              refine g_p (S' := [.int 0]) hF tX12_tell_ok 33 1 rfl rfl rfl rfl ?_
              exact g_zret hF (en_p H hE) (Or.inl rfl) (dAt tX12_tell_ok 34 rfl rfl) (by decide) (by decide)
            · have H := Hf18 c18
              refine g_p (S' := [.int 0, .int x3, .ref a]) hF tX12_tell_ok 27 3 rfl rfl rfl rfl ?_
              obtain ⟨v19, e20, H⟩ := ob H
              refine g_cV (S := []) hF (X12_own_ok (Nat.le_refl _) hS e20 K) mbX12_own mvX12_own mlX12_65 (by omega) (by decide) (dAt tX12_tell_ok 30 rfl rfl) hS.1 rfl rfl rfl (Nat.le_of_ble_eq_true rfl) rfl rfl (by decide) (by decide) rfl ?_
              refine g_p (S' := [.int 1, .int v19]) hF tX12_tell_ok 31 1 rfl rfl rfl rfl ?_
              obtain ⟨Ht21, Hf21⟩ := oi H
              refine g_icmp_ne hF (dAt tX12_tell_ok 32 rfl rfl) rfl (fun c21 => ?_) (fun c21 => ?_)
              · have H := Hf21 c21
                refine g_m [true, true, false, true, false] rfl ?_
                exact X12_tell_b59_ok hD hF hS hE H
              · have H := Ht21 c21
                refine g_p (S' := [.int 0]) hF tX12_tell_ok 33 1 rfl rfl rfl rfl ?_
                exact g_zret hF (en_p H hE) (Or.inl rfl) (dAt tX12_tell_ok 34 rfl rfl) (by decide) (by decide)
    · have H := Ht6 c6
      refine g_p (S' := [.int 0]) hF tX12_tell_ok 9 1 rfl rfl rfl rfl ?_
      exact g_zret hF (en_p H hE) (Or.inl rfl) (dAt tX12_tell_ok 10 rfl rfl) (by decide) (by decide)
def X12_wall_f (a : Nat) (x1 x2 x3 : Int32) (σ : Sig) : Option (Int32 × Sig) := (X12_isPlace_f x1 σ).bind fun v1 => if v1 = 0 then (some (0, σ)) else ((X12_isPlace_f x2 σ).bind fun v4 => if v4 = 0 then (some (0, σ)) else (if x1 = x2 then (some (0, σ)) else ((X12_isIn_f x3 0 99 σ).bind fun v8 => if v8 = 0 then (some (0, σ)) else ((st 20240 σ (a + 1) ((50 + (6 * x1)) + x2) x3).bind fun s11 => (st 20240 s11 (a + 1) ((50 + (6 * x2)) + x1) x3).bind fun s13 => some (1, s13)))))
set_option maxRecDepth 4000 in
set_option maxHeartbeats 1000000 in
theorem X12_wall_ok {D : Nat} {τ : Tau} {nx : Nat} {a : Nat} {x1 x2 x3 : Int32} {σ : Sig} {res : Int32} {rsg : Sig} (hD : 3 ≤ D) (hS : ShX12 τ a) (H : X12_wall_f a x1 x2 x3 σ = some (res, rsg)) : Ok D 0 0 yX12_wall cX12_wall 4 (some .boolean) [.ref a, .int x1, .int x2, .int x3] (τ, σ, nx) (some (.int res)) (τ, rsg, nx) := by
  refine ok_of (by decide +kernel) rfl (Nat.le_of_ble_eq_true rfl) (fun K X hF hE hN L0 hL0 => ?_)
  obtain rfl : [some (.ref a), some (.int x1), some (.int x2), some (.int x3)] = L0 := hL0
  have hF : Fx K X cX12_wall 4 RX12 D 0 0 := hF
  refine g_p (S' := [.int x1]) hF tX12_wall_ok 0 1 rfl rfl rfl rfl ?_
  obtain ⟨v1, e2, H⟩ := ob H
  refine g_cS (S := []) hF (X12_isPlace_ok (Nat.le_refl _)  e2 K) mbX12_isPlace msX12_isPlace mlX12_54 (by omega) (by decide) (dAt tX12_wall_ok 1 rfl rfl) rfl rfl (Nat.le_of_ble_eq_true rfl) rfl rfl (by decide) (by decide) rfl ?_
  obtain ⟨Ht3, Hf3⟩ := oi H
  refine g_if_eq hF (dAt tX12_wall_ok 2 rfl rfl) rfl (fun c3 => ?_) (fun c3 => ?_)
  · have H := Ht3 c3
    refine g_p (S' := [.int 0]) hF tX12_wall_ok 14 1 rfl rfl rfl rfl ?_
    exact g_zret hF (en_p H hE) (Or.inl rfl) (dAt tX12_wall_ok 15 rfl rfl) (by decide) (by decide)
  · have H := Hf3 c3
    refine g_p (S' := [.int x2]) hF tX12_wall_ok 3 1 rfl rfl rfl rfl ?_
    obtain ⟨v4, e5, H⟩ := ob H
    refine g_cS (S := []) hF (X12_isPlace_ok (Nat.le_refl _)  e5 K) mbX12_isPlace msX12_isPlace mlX12_54 (by omega) (by decide) (dAt tX12_wall_ok 4 rfl rfl) rfl rfl (Nat.le_of_ble_eq_true rfl) rfl rfl (by decide) (by decide) rfl ?_
    obtain ⟨Ht6, Hf6⟩ := oi H
    refine g_if_eq hF (dAt tX12_wall_ok 5 rfl rfl) rfl (fun c6 => ?_) (fun c6 => ?_)
    · have H := Ht6 c6
      refine g_p (S' := [.int 0]) hF tX12_wall_ok 14 1 rfl rfl rfl rfl ?_
      exact g_zret hF (en_p H hE) (Or.inl rfl) (dAt tX12_wall_ok 15 rfl rfl) (by decide) (by decide)
    · have H := Hf6 c6
      refine g_p (S' := [.int x2, .int x1]) hF tX12_wall_ok 6 2 rfl rfl rfl rfl ?_
      obtain ⟨Ht7, Hf7⟩ := oi H
      refine g_icmp_eq hF (dAt tX12_wall_ok 8 rfl rfl) rfl (fun c7 => ?_) (fun c7 => ?_)
      · have H := Ht7 c7
        refine g_p (S' := [.int 0]) hF tX12_wall_ok 14 1 rfl rfl rfl rfl ?_
        exact g_zret hF (en_p H hE) (Or.inl rfl) (dAt tX12_wall_ok 15 rfl rfl) (by decide) (by decide)
      · have H := Hf7 c7
        refine g_p (S' := [.int 99, .int 0, .int x3]) hF tX12_wall_ok 9 3 rfl rfl rfl rfl ?_
        obtain ⟨v8, e9, H⟩ := ob H
        refine g_cS (S := []) hF (X12_isIn_ok (Nat.le_refl _)  e9 K) mbX12_isIn msX12_isIn mlX12_50 (by omega) (by decide) (dAt tX12_wall_ok 12 rfl rfl) rfl rfl (Nat.le_of_ble_eq_true rfl) rfl rfl (by decide) (by decide) rfl ?_
        obtain ⟨Ht10, Hf10⟩ := oi H
        refine g_if_ne hF (dAt tX12_wall_ok 13 rfl rfl) rfl (fun c10 => ?_) (fun c10 => ?_)
        · have H := Hf10 c10
          refine g_p (S' := [.ref a]) hF tX12_wall_ok 16 1 rfl rfl rfl rfl ?_
          refine g_getR hF (dAt tX12_wall_ok 17 rfl rfl) flX12_7 hS.1 rfl ?_
          refine g_p (S' := [.int x3, .int ((50 + (6 * x1)) + x2), .ref (a + 1)]) hF tX12_wall_ok 18 8 rfl rfl rfl rfl ?_
          obtain ⟨s11, e12, H⟩ := ob H
          refine g_ist hF (dAt tX12_wall_ok 26 rfl rfl) hS.2.1 e12 ?_
          refine g_p (S' := [.ref a]) hF tX12_wall_ok 27 1 rfl rfl rfl rfl ?_
          refine g_getR hF (dAt tX12_wall_ok 28 rfl rfl) flX12_7 hS.1 rfl ?_
          refine g_p (S' := [.int x3, .int ((50 + (6 * x2)) + x1), .ref (a + 1)]) hF tX12_wall_ok 29 8 rfl rfl rfl rfl ?_
          obtain ⟨s13, e14, H⟩ := ob H
          refine g_ist hF (dAt tX12_wall_ok 37 rfl rfl) hS.2.1 e14 ?_
          refine g_p (S' := [.int 1]) hF tX12_wall_ok 38 1 rfl rfl rfl rfl ?_
          exact g_zret hF (en_p H hE) (Or.inr rfl) (dAt tX12_wall_ok 39 rfl rfl) (by decide) (by decide)
        · have H := Ht10 c10
          refine g_p (S' := [.int 0]) hF tX12_wall_ok 14 1 rfl rfl rfl rfl ?_
          exact g_zret hF (en_p H hE) (Or.inl rfl) (dAt tX12_wall_ok 15 rfl rfl) (by decide) (by decide)
def X12_set_b143 (a : Nat) (x2 x3 y0 : Int32) (σ : Sig) : Option (Int32 × Sig) := (st 20240 σ (a + 1) y0 x2).bind fun s1 => if x3 = 0 ∨ x3 = 1 then some (x3, s1) else none
set_option maxRecDepth 4000 in
set_option maxHeartbeats 1000000 in
theorem X12_set_b143_ok {K : Kt} {X : Cx} {D : Nat} {τ : Tau} {nx : Nat} {a : Nat} {res : Int32} {rsg : Sig}  (hD : 3 ≤ D) (hF : Fx K X cX12_set 4 RX12 D 0 0) (hS : ShX12 τ a) (hE : En K X (some .boolean) 0 0 (some (.int res)) (τ, rsg, nx)) {x2 x3 y0 : Int32} {σ : Sig} (H : X12_set_b143 a x2 x3 y0 σ = some (res, rsg)) : G K X 4 0 0 143 [none, none, some (.int x2), some (.int x3)] [.int y0, .ref (a + 1)] (τ, σ, nx) := by
  refine g_p (S' := [.int x2, .int y0, .ref (a + 1)]) hF tX12_set_ok 58 1 rfl rfl rfl rfl ?_
  obtain ⟨s1, e2, H⟩ := ob H
  refine g_ist hF (dAt tX12_set_ok 59 rfl rfl) hS.2.1 e2 ?_
  refine g_p (S' := [.int x3]) hF tX12_set_ok 60 1 rfl rfl rfl rfl ?_
  obtain ⟨hb, H⟩ := oy H
  exact g_zret hF (en_p H hE) hb (dAt tX12_set_ok 61 rfl rfl) (by decide) (by decide)
def X12_set_b102 (a : Nat) (x2 y0 : Int32) (σ : Sig) : Option (Int32 × Sig) := if y0 = 0 then (if y0 = 0 ∨ y0 = 1 then some (y0, σ) else none) else ((st 20240 σ (a + 1) 3 x2).bind fun s2 => if y0 = 0 ∨ y0 = 1 then some (y0, s2) else none)
set_option maxRecDepth 4000 in
set_option maxHeartbeats 1000000 in
theorem X12_set_b102_ok {K : Kt} {X : Cx} {D : Nat} {τ : Tau} {nx : Nat} {a : Nat} {res : Int32} {rsg : Sig}  (hD : 3 ≤ D) (hF : Fx K X cX12_set 4 RX12 D 0 0) (hS : ShX12 τ a) (hE : En K X (some .boolean) 0 0 (some (.int res)) (τ, rsg, nx)) {x2 y0 : Int32} {σ : Sig} (H : X12_set_b102 a x2 y0 σ = some (res, rsg)) : G K X 4 0 0 102 [some (.ref a), none, some (.int x2), none] [.int y0] (τ, σ, nx) := by
  refine g_p (L' := [some (.ref a), none, some (.int x2), some (.int y0)]) (S' := [.int y0]) hF tX12_set_ok 33 2 rfl rfl rfl rfl ?_
  obtain ⟨Ht1, Hf1⟩ := oi H
  refine g_if_eq hF (dAt tX12_set_ok 35 rfl rfl) rfl (fun c1 => ?_) (fun c1 => ?_)
  · have H := Ht1 c1
    refine g_p (S' := [.int y0]) hF tX12_set_ok 41 1 rfl rfl rfl rfl ?_
    obtain ⟨hb, H⟩ := oy H
    exact g_zret hF (en_p H hE) hb (dAt tX12_set_ok 42 rfl rfl) (by decide) (by decide)
  · have H := Hf1 c1
    refine g_p (S' := [.ref a]) hF tX12_set_ok 36 1 rfl rfl rfl rfl ?_
    refine g_getR hF (dAt tX12_set_ok 37 rfl rfl) flX12_7 hS.1 rfl ?_
    refine g_p (S' := [.int x2, .int 3, .ref (a + 1)]) hF tX12_set_ok 38 2 rfl rfl rfl rfl ?_
    obtain ⟨s2, e3, H⟩ := ob H
    refine g_ist hF (dAt tX12_set_ok 40 rfl rfl) hS.2.1 e3 ?_
    refine g_p (S' := [.int y0]) hF tX12_set_ok 41 1 rfl rfl rfl rfl ?_
    obtain ⟨hb, H⟩ := oy H
    exact g_zret hF (en_p H hE) hb (dAt tX12_set_ok 42 rfl rfl) (by decide) (by decide)
def X12_set_f (a : Nat) (x1 x2 : Int32) (σ : Sig) : Option (Int32 × Sig) := (X12_isIn_f x1 10 33 σ).bind fun v1 => if v1 = 0 then (if x1 = 0 then (if x2 = (-1) then (X12_set_b102 a x2 1 σ) else ((X12_isOne_f a x2 σ).bind fun v6 => if v6 = 0 then (X12_set_b102 a x2 0 σ) else (X12_set_b102 a x2 1 σ))) else if x1 = 1 then ((X12_isIn_f x2 0 99 σ).bind fun v9 => if v9 = 0 then (if v9 = 0 ∨ v9 = 1 then some (v9, σ) else none) else (if x1 = 1 then (X12_set_b143 a x2 v9 4 σ) else (X12_set_b143 a x2 v9 7 σ))) else if x1 = 2 then ((X12_isIn_f x2 0 1000 σ).bind fun v13 => if v13 = 0 then (if v13 = 0 ∨ v13 = 1 then some (v13, σ) else none) else ((st 20240 σ (a + 1) 5 x2).bind fun s16 => if v13 = 0 ∨ v13 = 1 then some (v13, s16) else none)) else if x1 = 3 then ((X12_isIn_f x2 0 2 σ).bind fun v18 => if v18 = 0 then (if v18 = 0 ∨ v18 = 1 then some (v18, σ) else none) else ((st 20240 σ (a + 1) 6 x2).bind fun s21 => if v18 = 0 ∨ v18 = 1 then some (v18, s21) else none)) else if x1 = 4 then ((X12_isIn_f x2 0 99 σ).bind fun v23 => if v23 = 0 then (if v23 = 0 ∨ v23 = 1 then some (v23, σ) else none) else (if x1 = 1 then (X12_set_b143 a x2 v23 4 σ) else (X12_set_b143 a x2 v23 7 σ))) else if x1 = 5 then ((X12_isIn_f x2 0 1 σ).bind fun v27 => if v27 = 0 then (if v27 = 0 ∨ v27 = 1 then some (v27, σ) else none) else ((st 20240 σ (a + 1) 8 x2).bind fun s30 => if v27 = 0 ∨ v27 = 1 then some (v27, s30) else none)) else if x1 = 6 then ((X12_isIn_f x2 0 9999 σ).bind fun v32 => if v32 = 0 then (if v32 = 0 ∨ v32 = 1 then some (v32, σ) else none) else ((st 20240 σ (a + 1) 1 x2).bind fun s35 => if v32 = 0 ∨ v32 = 1 then some (v32, s35) else none)) else if x1 = 7 then ((X12_isIn_f x2 0 95 σ).bind fun v37 => if v37 = 0 then (if v37 = 0 ∨ v37 = 1 then some (v37, σ) else none) else ((st 20240 σ (a + 1) 2 x2).bind fun s40 => if v37 = 0 ∨ v37 = 1 then some (v37, s40) else none)) else (some (0, σ))) else ((X12_isPlace_f x2 σ).bind fun v42 => if v42 = 0 then (some (0, σ)) else ((st 20240 σ (a + 1) ((20 + x1) - 10) x2).bind fun s45 => some (1, s45)))
set_option maxRecDepth 4000 in
set_option maxHeartbeats 1000000 in
theorem X12_set_ok {D : Nat} {τ : Tau} {nx : Nat} {a : Nat} {x1 x2 : Int32} {σ : Sig} {res : Int32} {rsg : Sig} (hD : 3 ≤ D) (hS : ShX12 τ a) (H : X12_set_f a x1 x2 σ = some (res, rsg)) : Ok D 0 0 yX12_set cX12_set 4 (some .boolean) [.ref a, .int x1, .int x2] (τ, σ, nx) (some (.int res)) (τ, rsg, nx) := by
  refine ok_of (by decide +kernel) rfl (Nat.le_of_ble_eq_true rfl) (fun K X hF hE hN L0 hL0 => ?_)
  obtain rfl : [some (.ref a), some (.int x1), some (.int x2), none] = L0 := hL0
  have hF : Fx K X cX12_set 4 RX12 D 0 0 := hF
  refine g_p (S' := [.int 33, .int 10, .int x1]) hF tX12_set_ok 0 3 rfl rfl rfl rfl ?_
  obtain ⟨v1, e2, H⟩ := ob H
  refine g_cS (S := []) hF (X12_isIn_ok (Nat.le_refl _)  e2 K) mbX12_isIn msX12_isIn mlX12_50 (by omega) (by decide) (dAt tX12_set_ok 3 rfl rfl) rfl rfl (Nat.le_of_ble_eq_true rfl) rfl rfl (by decide) (by decide) rfl ?_
  obtain ⟨Ht3, Hf3⟩ := oi H
  refine g_if_eq hF (dAt tX12_set_ok 4 rfl rfl) rfl (fun c3 => ?_) (fun c3 => ?_)
  · have H := Ht3 c3
    refine g_p (S' := [.int x1]) hF tX12_set_ok 21 1 rfl rfl rfl rfl ?_
    obtain ⟨Ht4_0, Hf4_0⟩ := oi H
    by_cases c4_0 : x1 = 0
    · have H := Ht4_0 c4_0
      refine g_tsw (c := 0) hF (dAt tX12_set_ok 22 rfl rfl) c4_0 (by decide) (by decide) rfl rfl ?_
      refine g_p (S' := [.int (-1), .int x2]) hF tX12_set_ok 23 2 rfl rfl rfl rfl ?_
      obtain ⟨Ht5, Hf5⟩ := oi H
      refine g_icmp_eq hF (dAt tX12_set_ok 25 rfl rfl) rfl (fun c5 => ?_) (fun c5 => ?_)
      · have H := Ht5 c5
        refine g_p (S' := [.int 1]) hF tX12_set_ok 30 1 rfl rfl rfl rfl ?_
        refine g_goto hF (dAt tX12_set_ok 31 rfl rfl) rfl ?_
        refine g_m [true, false, true, false] rfl ?_
        exact X12_set_b102_ok hD hF hS hE H
      · have H := Hf5 c5
        refine g_p (S' := [.int x2, .ref a]) hF tX12_set_ok 26 2 rfl rfl rfl rfl ?_
        obtain ⟨v6, e7, H⟩ := ob H
        refine g_cV (S := []) hF (X12_isOne_ok (Nat.le_refl _) hS e7 K) mbX12_isOne mvX12_isOne mlX12_62 (by omega) (by decide) (dAt tX12_set_ok 28 rfl rfl) hS.1 rfl rfl rfl (Nat.le_of_ble_eq_true rfl) rfl rfl (by decide) (by decide) rfl ?_
        obtain ⟨Ht8, Hf8⟩ := oi H
        refine g_if_eq hF (dAt tX12_set_ok 29 rfl rfl) rfl (fun c8 => ?_) (fun c8 => ?_)
        · have H := Ht8 c8
          refine g_p (S' := [.int 0]) hF tX12_set_ok 32 1 rfl rfl rfl rfl ?_
          refine g_m [true, false, true, false] rfl ?_
          exact X12_set_b102_ok hD hF hS hE H
        · have H := Hf8 c8
          refine g_p (S' := [.int 1]) hF tX12_set_ok 30 1 rfl rfl rfl rfl ?_
          refine g_goto hF (dAt tX12_set_ok 31 rfl rfl) rfl ?_
          refine g_m [true, false, true, false] rfl ?_
          exact X12_set_b102_ok hD hF hS hE H
    have H := Hf4_0 c4_0
    obtain ⟨Ht4_1, Hf4_1⟩ := oi H
    by_cases c4_1 : x1 = 1
    · have H := Ht4_1 c4_1
      refine g_tsw (c := 1) hF (dAt tX12_set_ok 22 rfl rfl) c4_1 (by decide) (by decide) rfl rfl ?_
      refine g_p (S' := [.int 99, .int 0, .int x2]) hF tX12_set_ok 43 3 rfl rfl rfl rfl ?_
      obtain ⟨v9, e10, H⟩ := ob H
      refine g_cS (S := []) hF (X12_isIn_ok (Nat.le_refl _)  e10 K) mbX12_isIn msX12_isIn mlX12_50 (by omega) (by decide) (dAt tX12_set_ok 46 rfl rfl) rfl rfl (Nat.le_of_ble_eq_true rfl) rfl rfl (by decide) (by decide) rfl ?_
      refine g_p (L' := [some (.ref a), some (.int x1), some (.int x2), some (.int v9)]) (S' := [.int v9]) hF tX12_set_ok 47 2 rfl rfl rfl rfl ?_
      obtain ⟨Ht11, Hf11⟩ := oi H
      refine g_if_eq hF (dAt tX12_set_ok 49 rfl rfl) rfl (fun c11 => ?_) (fun c11 => ?_)
      · have H := Ht11 c11
        refine g_p (S' := [.int v9]) hF tX12_set_ok 60 1 rfl rfl rfl rfl ?_
        obtain ⟨hb, H⟩ := oy H
        exact g_zret hF (en_p H hE) hb (dAt tX12_set_ok 61 rfl rfl) (by decide) (by decide)
      · have H := Hf11 c11
        refine g_p (S' := [.ref a]) hF tX12_set_ok 50 1 rfl rfl rfl rfl ?_
        refine g_getR hF (dAt tX12_set_ok 51 rfl rfl) flX12_7 hS.1 rfl ?_
        refine g_p (S' := [.int 1, .int x1, .ref (a + 1)]) hF tX12_set_ok 52 2 rfl rfl rfl rfl ?_
        obtain ⟨Ht12, Hf12⟩ := oi H
        refine g_icmp_ne hF (dAt tX12_set_ok 54 rfl rfl) rfl (fun c12 => ?_) (fun c12 => ?_)
        · have H := Hf12 c12
          refine g_p (S' := [.int 7, .ref (a + 1)]) hF tX12_set_ok 57 1 rfl rfl rfl rfl ?_
          refine g_m [false, false, true, true] rfl ?_
          exact X12_set_b143_ok hD hF hS hE H
        · have H := Ht12 c12
          refine g_p (S' := [.int 4, .ref (a + 1)]) hF tX12_set_ok 55 1 rfl rfl rfl rfl ?_
          refine g_goto hF (dAt tX12_set_ok 56 rfl rfl) rfl ?_
          refine g_m [false, false, true, true] rfl ?_
          exact X12_set_b143_ok hD hF hS hE H
    have H := Hf4_1 c4_1
    obtain ⟨Ht4_2, Hf4_2⟩ := oi H
    by_cases c4_2 : x1 = 2
    · have H := Ht4_2 c4_2
      refine g_tsw (c := 2) hF (dAt tX12_set_ok 22 rfl rfl) c4_2 (by decide) (by decide) rfl rfl ?_
      refine g_p (S' := [.int 1000, .int 0, .int x2]) hF tX12_set_ok 62 3 rfl rfl rfl rfl ?_
      obtain ⟨v13, e14, H⟩ := ob H
      refine g_cS (S := []) hF (X12_isIn_ok (Nat.le_refl _)  e14 K) mbX12_isIn msX12_isIn mlX12_50 (by omega) (by decide) (dAt tX12_set_ok 65 rfl rfl) rfl rfl (Nat.le_of_ble_eq_true rfl) rfl rfl (by decide) (by decide) rfl ?_
      refine g_p (L' := [some (.ref a), some (.int x1), some (.int x2), some (.int v13)]) (S' := [.int v13]) hF tX12_set_ok 66 2 rfl rfl rfl rfl ?_
      obtain ⟨Ht15, Hf15⟩ := oi H
      refine g_if_eq hF (dAt tX12_set_ok 68 rfl rfl) rfl (fun c15 => ?_) (fun c15 => ?_)
      · have H := Ht15 c15
        refine g_p (S' := [.int v13]) hF tX12_set_ok 74 1 rfl rfl rfl rfl ?_
        obtain ⟨hb, H⟩ := oy H
        exact g_zret hF (en_p H hE) hb (dAt tX12_set_ok 75 rfl rfl) (by decide) (by decide)
      · have H := Hf15 c15
        refine g_p (S' := [.ref a]) hF tX12_set_ok 69 1 rfl rfl rfl rfl ?_
        refine g_getR hF (dAt tX12_set_ok 70 rfl rfl) flX12_7 hS.1 rfl ?_
        refine g_p (S' := [.int x2, .int 5, .ref (a + 1)]) hF tX12_set_ok 71 2 rfl rfl rfl rfl ?_
        obtain ⟨s16, e17, H⟩ := ob H
        refine g_ist hF (dAt tX12_set_ok 73 rfl rfl) hS.2.1 e17 ?_
        refine g_p (S' := [.int v13]) hF tX12_set_ok 74 1 rfl rfl rfl rfl ?_
        obtain ⟨hb, H⟩ := oy H
        exact g_zret hF (en_p H hE) hb (dAt tX12_set_ok 75 rfl rfl) (by decide) (by decide)
    have H := Hf4_2 c4_2
    obtain ⟨Ht4_3, Hf4_3⟩ := oi H
    by_cases c4_3 : x1 = 3
    · have H := Ht4_3 c4_3
      refine g_tsw (c := 3) hF (dAt tX12_set_ok 22 rfl rfl) c4_3 (by decide) (by decide) rfl rfl ?_
      refine g_p (S' := [.int 2, .int 0, .int x2]) hF tX12_set_ok 76 3 rfl rfl rfl rfl ?_
      obtain ⟨v18, e19, H⟩ := ob H
      refine g_cS (S := []) hF (X12_isIn_ok (Nat.le_refl _)  e19 K) mbX12_isIn msX12_isIn mlX12_50 (by omega) (by decide) (dAt tX12_set_ok 79 rfl rfl) rfl rfl (Nat.le_of_ble_eq_true rfl) rfl rfl (by decide) (by decide) rfl ?_
      refine g_p (L' := [some (.ref a), some (.int x1), some (.int x2), some (.int v18)]) (S' := [.int v18]) hF tX12_set_ok 80 2 rfl rfl rfl rfl ?_
      obtain ⟨Ht20, Hf20⟩ := oi H
      refine g_if_eq hF (dAt tX12_set_ok 82 rfl rfl) rfl (fun c20 => ?_) (fun c20 => ?_)
      · have H := Ht20 c20
        refine g_p (S' := [.int v18]) hF tX12_set_ok 88 1 rfl rfl rfl rfl ?_
        obtain ⟨hb, H⟩ := oy H
        exact g_zret hF (en_p H hE) hb (dAt tX12_set_ok 89 rfl rfl) (by decide) (by decide)
      · have H := Hf20 c20
        refine g_p (S' := [.ref a]) hF tX12_set_ok 83 1 rfl rfl rfl rfl ?_
        refine g_getR hF (dAt tX12_set_ok 84 rfl rfl) flX12_7 hS.1 rfl ?_
        refine g_p (S' := [.int x2, .int 6, .ref (a + 1)]) hF tX12_set_ok 85 2 rfl rfl rfl rfl ?_
        obtain ⟨s21, e22, H⟩ := ob H
        refine g_ist hF (dAt tX12_set_ok 87 rfl rfl) hS.2.1 e22 ?_
        refine g_p (S' := [.int v18]) hF tX12_set_ok 88 1 rfl rfl rfl rfl ?_
        obtain ⟨hb, H⟩ := oy H
        exact g_zret hF (en_p H hE) hb (dAt tX12_set_ok 89 rfl rfl) (by decide) (by decide)
    have H := Hf4_3 c4_3
    obtain ⟨Ht4_4, Hf4_4⟩ := oi H
    by_cases c4_4 : x1 = 4
    · have H := Ht4_4 c4_4
      refine g_tsw (c := 4) hF (dAt tX12_set_ok 22 rfl rfl) c4_4 (by decide) (by decide) rfl rfl ?_
      refine g_p (S' := [.int 99, .int 0, .int x2]) hF tX12_set_ok 43 3 rfl rfl rfl rfl ?_
      obtain ⟨v23, e24, H⟩ := ob H
      refine g_cS (S := []) hF (X12_isIn_ok (Nat.le_refl _)  e24 K) mbX12_isIn msX12_isIn mlX12_50 (by omega) (by decide) (dAt tX12_set_ok 46 rfl rfl) rfl rfl (Nat.le_of_ble_eq_true rfl) rfl rfl (by decide) (by decide) rfl ?_
      refine g_p (L' := [some (.ref a), some (.int x1), some (.int x2), some (.int v23)]) (S' := [.int v23]) hF tX12_set_ok 47 2 rfl rfl rfl rfl ?_
      obtain ⟨Ht25, Hf25⟩ := oi H
      refine g_if_eq hF (dAt tX12_set_ok 49 rfl rfl) rfl (fun c25 => ?_) (fun c25 => ?_)
      · have H := Ht25 c25
        refine g_p (S' := [.int v23]) hF tX12_set_ok 60 1 rfl rfl rfl rfl ?_
        obtain ⟨hb, H⟩ := oy H
        exact g_zret hF (en_p H hE) hb (dAt tX12_set_ok 61 rfl rfl) (by decide) (by decide)
      · have H := Hf25 c25
        refine g_p (S' := [.ref a]) hF tX12_set_ok 50 1 rfl rfl rfl rfl ?_
        refine g_getR hF (dAt tX12_set_ok 51 rfl rfl) flX12_7 hS.1 rfl ?_
        refine g_p (S' := [.int 1, .int x1, .ref (a + 1)]) hF tX12_set_ok 52 2 rfl rfl rfl rfl ?_
        obtain ⟨Ht26, Hf26⟩ := oi H
        refine g_icmp_ne hF (dAt tX12_set_ok 54 rfl rfl) rfl (fun c26 => ?_) (fun c26 => ?_)
        · have H := Hf26 c26
          refine g_p (S' := [.int 7, .ref (a + 1)]) hF tX12_set_ok 57 1 rfl rfl rfl rfl ?_
          refine g_m [false, false, true, true] rfl ?_
          exact X12_set_b143_ok hD hF hS hE H
        · have H := Ht26 c26
          refine g_p (S' := [.int 4, .ref (a + 1)]) hF tX12_set_ok 55 1 rfl rfl rfl rfl ?_
          refine g_goto hF (dAt tX12_set_ok 56 rfl rfl) rfl ?_
          refine g_m [false, false, true, true] rfl ?_
          exact X12_set_b143_ok hD hF hS hE H
    have H := Hf4_4 c4_4
    obtain ⟨Ht4_5, Hf4_5⟩ := oi H
    by_cases c4_5 : x1 = 5
    · have H := Ht4_5 c4_5
      refine g_tsw (c := 5) hF (dAt tX12_set_ok 22 rfl rfl) c4_5 (by decide) (by decide) rfl rfl ?_
      refine g_p (S' := [.int 1, .int 0, .int x2]) hF tX12_set_ok 90 3 rfl rfl rfl rfl ?_
      obtain ⟨v27, e28, H⟩ := ob H
      refine g_cS (S := []) hF (X12_isIn_ok (Nat.le_refl _)  e28 K) mbX12_isIn msX12_isIn mlX12_50 (by omega) (by decide) (dAt tX12_set_ok 93 rfl rfl) rfl rfl (Nat.le_of_ble_eq_true rfl) rfl rfl (by decide) (by decide) rfl ?_
      refine g_p (L' := [some (.ref a), some (.int x1), some (.int x2), some (.int v27)]) (S' := [.int v27]) hF tX12_set_ok 94 2 rfl rfl rfl rfl ?_
      obtain ⟨Ht29, Hf29⟩ := oi H
      refine g_if_eq hF (dAt tX12_set_ok 96 rfl rfl) rfl (fun c29 => ?_) (fun c29 => ?_)
      · have H := Ht29 c29
        refine g_p (S' := [.int v27]) hF tX12_set_ok 102 1 rfl rfl rfl rfl ?_
        obtain ⟨hb, H⟩ := oy H
        exact g_zret hF (en_p H hE) hb (dAt tX12_set_ok 103 rfl rfl) (by decide) (by decide)
      · have H := Hf29 c29
        refine g_p (S' := [.ref a]) hF tX12_set_ok 97 1 rfl rfl rfl rfl ?_
        refine g_getR hF (dAt tX12_set_ok 98 rfl rfl) flX12_7 hS.1 rfl ?_
        refine g_p (S' := [.int x2, .int 8, .ref (a + 1)]) hF tX12_set_ok 99 2 rfl rfl rfl rfl ?_
        obtain ⟨s30, e31, H⟩ := ob H
        refine g_ist hF (dAt tX12_set_ok 101 rfl rfl) hS.2.1 e31 ?_
        refine g_p (S' := [.int v27]) hF tX12_set_ok 102 1 rfl rfl rfl rfl ?_
        obtain ⟨hb, H⟩ := oy H
        exact g_zret hF (en_p H hE) hb (dAt tX12_set_ok 103 rfl rfl) (by decide) (by decide)
    have H := Hf4_5 c4_5
    obtain ⟨Ht4_6, Hf4_6⟩ := oi H
    by_cases c4_6 : x1 = 6
    · have H := Ht4_6 c4_6
      refine g_tsw (c := 6) hF (dAt tX12_set_ok 22 rfl rfl) c4_6 (by decide) (by decide) rfl rfl ?_
      refine g_p (S' := [.int 9999, .int 0, .int x2]) hF tX12_set_ok 104 3 rfl rfl rfl rfl ?_
      obtain ⟨v32, e33, H⟩ := ob H
      refine g_cS (S := []) hF (X12_isIn_ok (Nat.le_refl _)  e33 K) mbX12_isIn msX12_isIn mlX12_50 (by omega) (by decide) (dAt tX12_set_ok 107 rfl rfl) rfl rfl (Nat.le_of_ble_eq_true rfl) rfl rfl (by decide) (by decide) rfl ?_
      refine g_p (L' := [some (.ref a), some (.int x1), some (.int x2), some (.int v32)]) (S' := [.int v32]) hF tX12_set_ok 108 2 rfl rfl rfl rfl ?_
      obtain ⟨Ht34, Hf34⟩ := oi H
      refine g_if_eq hF (dAt tX12_set_ok 110 rfl rfl) rfl (fun c34 => ?_) (fun c34 => ?_)
      · have H := Ht34 c34
        refine g_p (S' := [.int v32]) hF tX12_set_ok 116 1 rfl rfl rfl rfl ?_
        obtain ⟨hb, H⟩ := oy H
        exact g_zret hF (en_p H hE) hb (dAt tX12_set_ok 117 rfl rfl) (by decide) (by decide)
      · have H := Hf34 c34
        refine g_p (S' := [.ref a]) hF tX12_set_ok 111 1 rfl rfl rfl rfl ?_
        refine g_getR hF (dAt tX12_set_ok 112 rfl rfl) flX12_7 hS.1 rfl ?_
        refine g_p (S' := [.int x2, .int 1, .ref (a + 1)]) hF tX12_set_ok 113 2 rfl rfl rfl rfl ?_
        obtain ⟨s35, e36, H⟩ := ob H
        refine g_ist hF (dAt tX12_set_ok 115 rfl rfl) hS.2.1 e36 ?_
        refine g_p (S' := [.int v32]) hF tX12_set_ok 116 1 rfl rfl rfl rfl ?_
        obtain ⟨hb, H⟩ := oy H
        exact g_zret hF (en_p H hE) hb (dAt tX12_set_ok 117 rfl rfl) (by decide) (by decide)
    have H := Hf4_6 c4_6
    obtain ⟨Ht4_7, Hf4_7⟩ := oi H
    by_cases c4_7 : x1 = 7
    · have H := Ht4_7 c4_7
      refine g_tsw (c := 7) hF (dAt tX12_set_ok 22 rfl rfl) c4_7 (by decide) (by decide) rfl rfl ?_
      refine g_p (S' := [.int 95, .int 0, .int x2]) hF tX12_set_ok 118 3 rfl rfl rfl rfl ?_
      obtain ⟨v37, e38, H⟩ := ob H
      refine g_cS (S := []) hF (X12_isIn_ok (Nat.le_refl _)  e38 K) mbX12_isIn msX12_isIn mlX12_50 (by omega) (by decide) (dAt tX12_set_ok 121 rfl rfl) rfl rfl (Nat.le_of_ble_eq_true rfl) rfl rfl (by decide) (by decide) rfl ?_
      refine g_p (L' := [some (.ref a), some (.int x1), some (.int x2), some (.int v37)]) (S' := [.int v37]) hF tX12_set_ok 122 2 rfl rfl rfl rfl ?_
      obtain ⟨Ht39, Hf39⟩ := oi H
      refine g_if_eq hF (dAt tX12_set_ok 124 rfl rfl) rfl (fun c39 => ?_) (fun c39 => ?_)
      · have H := Ht39 c39
        refine g_p (S' := [.int v37]) hF tX12_set_ok 130 1 rfl rfl rfl rfl ?_
        obtain ⟨hb, H⟩ := oy H
        exact g_zret hF (en_p H hE) hb (dAt tX12_set_ok 131 rfl rfl) (by decide) (by decide)
      · have H := Hf39 c39
        refine g_p (S' := [.ref a]) hF tX12_set_ok 125 1 rfl rfl rfl rfl ?_
        refine g_getR hF (dAt tX12_set_ok 126 rfl rfl) flX12_7 hS.1 rfl ?_
        refine g_p (S' := [.int x2, .int 2, .ref (a + 1)]) hF tX12_set_ok 127 2 rfl rfl rfl rfl ?_
        obtain ⟨s40, e41, H⟩ := ob H
        refine g_ist hF (dAt tX12_set_ok 129 rfl rfl) hS.2.1 e41 ?_
        refine g_p (S' := [.int v37]) hF tX12_set_ok 130 1 rfl rfl rfl rfl ?_
        obtain ⟨hb, H⟩ := oy H
        exact g_zret hF (en_p H hE) hb (dAt tX12_set_ok 131 rfl rfl) (by decide) (by decide)
    have H := Hf4_7 c4_7
    refine g_tswD hF (dAt tX12_set_ok 22 rfl rfl) (tsw_l 0 7 8 [0, 1, 2, 3, 4, 5, 6, 7] (al1 c4_0 (al1 c4_1 (al1 c4_2 (al1 c4_3 (al1 c4_4 (al1 c4_5 (al1 c4_6 (al1 c4_7 al0)))))))) (by decide) (by decide)) rfl ?_
    refine g_p (S' := [.int 0]) hF tX12_set_ok 132 1 rfl rfl rfl rfl ?_
    exact g_zret hF (en_p H hE) (Or.inl rfl) (dAt tX12_set_ok 133 rfl rfl) (by decide) (by decide)
  · have H := Hf3 c3
    refine g_p (S' := [.int x2]) hF tX12_set_ok 5 1 rfl rfl rfl rfl ?_
    obtain ⟨v42, e43, H⟩ := ob H
    refine g_cS (S := []) hF (X12_isPlace_ok (Nat.le_refl _)  e43 K) mbX12_isPlace msX12_isPlace mlX12_54 (by omega) (by decide) (dAt tX12_set_ok 6 rfl rfl) rfl rfl (Nat.le_of_ble_eq_true rfl) rfl rfl (by decide) (by decide) rfl ?_
    obtain ⟨Ht44, Hf44⟩ := oi H
    refine g_if_ne hF (dAt tX12_set_ok 7 rfl rfl) rfl (fun c44 => ?_) (fun c44 => ?_)
    · have H := Hf44 c44
      refine g_p (S' := [.ref a]) hF tX12_set_ok 10 1 rfl rfl rfl rfl ?_
      refine g_getR hF (dAt tX12_set_ok 11 rfl rfl) flX12_7 hS.1 rfl ?_
      refine g_p (S' := [.int x2, .int ((20 + x1) - 10), .ref (a + 1)]) hF tX12_set_ok 12 6 rfl rfl rfl rfl ?_
      obtain ⟨s45, e46, H⟩ := ob H
      refine g_ist hF (dAt tX12_set_ok 18 rfl rfl) hS.2.1 e46 ?_
      refine g_p (S' := [.int 1]) hF tX12_set_ok 19 1 rfl rfl rfl rfl ?_
      exact g_zret hF (en_p H hE) (Or.inr rfl) (dAt tX12_set_ok 20 rfl rfl) (by decide) (by decide)
    · have H := Ht44 c44
      refine g_p (S' := [.int 0]) hF tX12_set_ok 8 1 rfl rfl rfl rfl ?_
      exact g_zret hF (en_p H hE) (Or.inl rfl) (dAt tX12_set_ok 9 rfl rfl) (by decide) (by decide)
def X12_isDebt_f (a : Nat) (x1 : Int32) (σ : Sig) : Option (Int32) := (ld 20240 (σ (a + 1)) 10).bind fun v1 => (X12_isIn_f x1 0 (v1 - 1) σ).bind fun v3 => if v3 = 0 ∨ v3 = 1 then some v3 else none
set_option maxRecDepth 4000 in
set_option maxHeartbeats 1000000 in
theorem X12_isDebt_ok {D : Nat} {τ : Tau} {nx : Nat} {a : Nat} {x1 : Int32} {σ : Sig} {res : Int32} (hD : 2 ≤ D) (hS : ShX12 τ a) (H : X12_isDebt_f a x1 σ = some res) : Ok D 0 0 yX12_isDebt cX12_isDebt 2 (some .boolean) [.ref a, .int x1] (τ, σ, nx) (some (.int res)) (τ, σ, nx) := by
  refine ok_of (by decide +kernel) rfl (Nat.le_of_ble_eq_true rfl) (fun K X hF hE hN L0 hL0 => ?_)
  obtain rfl : [some (.ref a), some (.int x1)] = L0 := hL0
  have hF : Fx K X cX12_isDebt 2 RX12 D 0 0 := hF
  refine g_p (S' := [.ref a, .int 0, .int x1]) hF tX12_isDebt_ok 0 3 rfl rfl rfl rfl ?_
  refine g_getR hF (dAt tX12_isDebt_ok 3 rfl rfl) flX12_7 hS.1 rfl ?_
  refine g_p (S' := [.int 10, .ref (a + 1), .int 0, .int x1]) hF tX12_isDebt_ok 4 1 rfl rfl rfl rfl ?_
  obtain ⟨v1, e2, H⟩ := ob H
  refine g_ild hF (dAt tX12_isDebt_ok 5 rfl rfl) hS.2.1 e2 ?_
  refine g_p (S' := [.int (v1 - 1), .int 0, .int x1]) hF tX12_isDebt_ok 6 2 rfl rfl rfl rfl ?_
  obtain ⟨v3, e4, H⟩ := ob H
  refine g_cS (S := []) hF (X12_isIn_ok (Nat.le_refl _)  e4 K) mbX12_isIn msX12_isIn mlX12_50 (by omega) (by decide) (dAt tX12_isDebt_ok 8 rfl rfl) rfl rfl (Nat.le_of_ble_eq_true rfl) rfl rfl (by decide) (by decide) rfl ?_
  obtain ⟨hb, H⟩ := oy H
  exact g_zret hF (en_i H hE) hb (dAt tX12_isDebt_ok 9 rfl rfl) (by decide) (by decide)
def X12_debt_f (a : Nat) (x1 x2 x3 : Int32) (σ : Sig) : Option (Int32 × Sig) := (X12_isOne_f a x1 σ).bind fun v1 => if v1 = 0 then (some ((-1), σ)) else ((X12_isOne_f a x2 σ).bind fun v4 => if v4 = 0 then (some ((-1), σ)) else (if x1 = x2 then (some ((-1), σ)) else ((X12_isIn_f x3 1 200 σ).bind fun v8 => if v8 = 0 then (some ((-1), σ)) else ((ld 20240 (σ (a + 1)) 10).bind fun v11 => if v11 = 40 then (some ((-1), σ)) else ((ld 20240 (σ (a + 1)) 10).bind fun v14 => (X12_lays0_f a v14 0 x1 σ).bind fun s16 => (X12_lays0_f a v14 1 x2 s16).bind fun s18 => (X12_lays0_f a v14 2 x3 s18).bind fun s20 => (X12_lays0_f a v14 3 0 s20).bind fun s22 => (X12_lays0_f a v14 4 (-1) s22).bind fun s24 => (X12_lays0_f a v14 5 0 s24).bind fun s26 => (X12_lays0_f a v14 6 0 s26).bind fun s28 => (ld 20240 (s28 (a + 1)) 10).bind fun v30 => (st 20240 s28 (a + 1) 10 (v30 + 1)).bind fun s32 => some (v14, s32))))))
set_option maxRecDepth 4000 in
set_option maxHeartbeats 1000000 in
theorem X12_debt_ok {D : Nat} {τ : Tau} {nx : Nat} {a : Nat} {x1 x2 x3 : Int32} {σ : Sig} {res : Int32} {rsg : Sig} (hD : 3 ≤ D) (hS : ShX12 τ a) (H : X12_debt_f a x1 x2 x3 σ = some (res, rsg)) : Ok D 0 0 yX12_debt cX12_debt 5 (some .int) [.ref a, .int x1, .int x2, .int x3] (τ, σ, nx) (some (.int res)) (τ, rsg, nx) := by
  refine ok_of (by decide +kernel) rfl (Nat.le_of_ble_eq_true rfl) (fun K X hF hE hN L0 hL0 => ?_)
  obtain rfl : [some (.ref a), some (.int x1), some (.int x2), some (.int x3), none] = L0 := hL0
  have hF : Fx K X cX12_debt 5 RX12 D 0 0 := hF
  refine g_p (S' := [.int x1, .ref a]) hF tX12_debt_ok 0 2 rfl rfl rfl rfl ?_
  obtain ⟨v1, e2, H⟩ := ob H
  refine g_cV (S := []) hF (X12_isOne_ok (Nat.le_refl _) hS e2 K) mbX12_isOne mvX12_isOne mlX12_62 (by omega) (by decide) (dAt tX12_debt_ok 2 rfl rfl) hS.1 rfl rfl rfl (Nat.le_of_ble_eq_true rfl) rfl rfl (by decide) (by decide) rfl ?_
  obtain ⟨Ht3, Hf3⟩ := oi H
  refine g_if_eq hF (dAt tX12_debt_ok 3 rfl rfl) rfl (fun c3 => ?_) (fun c3 => ?_)
  · have H := Ht3 c3
    refine g_p (S' := [.int (-1)]) hF tX12_debt_ok 22 1 rfl rfl rfl rfl ?_
    exact g_iret hF (en_p H hE) (dAt tX12_debt_ok 23 rfl rfl) (by decide) (by decide)
  · have H := Hf3 c3
    refine g_p (S' := [.int x2, .ref a]) hF tX12_debt_ok 4 2 rfl rfl rfl rfl ?_
    obtain ⟨v4, e5, H⟩ := ob H
    refine g_cV (S := []) hF (X12_isOne_ok (Nat.le_refl _) hS e5 K) mbX12_isOne mvX12_isOne mlX12_62 (by omega) (by decide) (dAt tX12_debt_ok 6 rfl rfl) hS.1 rfl rfl rfl (Nat.le_of_ble_eq_true rfl) rfl rfl (by decide) (by decide) rfl ?_
    obtain ⟨Ht6, Hf6⟩ := oi H
    refine g_if_eq hF (dAt tX12_debt_ok 7 rfl rfl) rfl (fun c6 => ?_) (fun c6 => ?_)
    · have H := Ht6 c6
      refine g_p (S' := [.int (-1)]) hF tX12_debt_ok 22 1 rfl rfl rfl rfl ?_
      exact g_iret hF (en_p H hE) (dAt tX12_debt_ok 23 rfl rfl) (by decide) (by decide)
    · have H := Hf6 c6
      refine g_p (S' := [.int x2, .int x1]) hF tX12_debt_ok 8 2 rfl rfl rfl rfl ?_
      obtain ⟨Ht7, Hf7⟩ := oi H
      refine g_icmp_eq hF (dAt tX12_debt_ok 10 rfl rfl) rfl (fun c7 => ?_) (fun c7 => ?_)
      · have H := Ht7 c7
        refine g_p (S' := [.int (-1)]) hF tX12_debt_ok 22 1 rfl rfl rfl rfl ?_
        exact g_iret hF (en_p H hE) (dAt tX12_debt_ok 23 rfl rfl) (by decide) (by decide)
      · have H := Hf7 c7
        refine g_p (S' := [.int 200, .int 1, .int x3]) hF tX12_debt_ok 11 3 rfl rfl rfl rfl ?_
        obtain ⟨v8, e9, H⟩ := ob H
        refine g_cS (S := []) hF (X12_isIn_ok (Nat.le_refl _)  e9 K) mbX12_isIn msX12_isIn mlX12_50 (by omega) (by decide) (dAt tX12_debt_ok 14 rfl rfl) rfl rfl (Nat.le_of_ble_eq_true rfl) rfl rfl (by decide) (by decide) rfl ?_
        obtain ⟨Ht10, Hf10⟩ := oi H
        refine g_if_eq hF (dAt tX12_debt_ok 15 rfl rfl) rfl (fun c10 => ?_) (fun c10 => ?_)
        · have H := Ht10 c10
          refine g_p (S' := [.int (-1)]) hF tX12_debt_ok 22 1 rfl rfl rfl rfl ?_
          exact g_iret hF (en_p H hE) (dAt tX12_debt_ok 23 rfl rfl) (by decide) (by decide)
        · have H := Hf10 c10
          refine g_p (S' := [.ref a]) hF tX12_debt_ok 16 1 rfl rfl rfl rfl ?_
          refine g_getR hF (dAt tX12_debt_ok 17 rfl rfl) flX12_7 hS.1 rfl ?_
          refine g_p (S' := [.int 10, .ref (a + 1)]) hF tX12_debt_ok 18 1 rfl rfl rfl rfl ?_
          obtain ⟨v11, e12, H⟩ := ob H
          refine g_ild hF (dAt tX12_debt_ok 19 rfl rfl) hS.2.1 e12 ?_
          refine g_p (S' := [.int 40, .int v11]) hF tX12_debt_ok 20 1 rfl rfl rfl rfl ?_
          obtain ⟨Ht13, Hf13⟩ := oi H
          refine g_icmp_ne hF (dAt tX12_debt_ok 21 rfl rfl) rfl (fun c13 => ?_) (fun c13 => ?_)
          · have H := Hf13 c13
            refine g_p (S' := [.ref a]) hF tX12_debt_ok 24 1 rfl rfl rfl rfl ?_
            refine g_getR hF (dAt tX12_debt_ok 25 rfl rfl) flX12_7 hS.1 rfl ?_
            refine g_p (S' := [.int 10, .ref (a + 1)]) hF tX12_debt_ok 26 1 rfl rfl rfl rfl ?_
            obtain ⟨v14, e15, H⟩ := ob H
            refine g_ild hF (dAt tX12_debt_ok 27 rfl rfl) hS.2.1 e15 ?_
            refine g_p (L' := [some (.ref a), some (.int x1), some (.int x2), some (.int x3), some (.int v14)]) (S' := [.int x1, .int 0, .int v14, .ref a]) hF tX12_debt_ok 28 5 rfl rfl rfl rfl ?_
            obtain ⟨s16, e17, H⟩ := ob H
            refine g_cV (S := []) hF (X12_lays0_ok (Nat.le_refl _) hS e17 K) mbX12_lays0 mvX12_lays0 mlX12_70 (by omega) (by decide) (dAt tX12_debt_ok 33 rfl rfl) hS.1 rfl rfl rfl (Nat.le_of_ble_eq_true rfl) rfl rfl (by decide) (by decide) rfl ?_
            refine g_p (S' := [.int x2, .int 1, .int v14, .ref a]) hF tX12_debt_ok 34 4 rfl rfl rfl rfl ?_
            obtain ⟨s18, e19, H⟩ := ob H
            refine g_cV (S := []) hF (X12_lays0_ok (Nat.le_refl _) hS e19 K) mbX12_lays0 mvX12_lays0 mlX12_70 (by omega) (by decide) (dAt tX12_debt_ok 38 rfl rfl) hS.1 rfl rfl rfl (Nat.le_of_ble_eq_true rfl) rfl rfl (by decide) (by decide) rfl ?_
            refine g_p (S' := [.int x3, .int 2, .int v14, .ref a]) hF tX12_debt_ok 39 4 rfl rfl rfl rfl ?_
            obtain ⟨s20, e21, H⟩ := ob H
            refine g_cV (S := []) hF (X12_lays0_ok (Nat.le_refl _) hS e21 K) mbX12_lays0 mvX12_lays0 mlX12_70 (by omega) (by decide) (dAt tX12_debt_ok 43 rfl rfl) hS.1 rfl rfl rfl (Nat.le_of_ble_eq_true rfl) rfl rfl (by decide) (by decide) rfl ?_
            refine g_p (S' := [.int 0, .int 3, .int v14, .ref a]) hF tX12_debt_ok 44 4 rfl rfl rfl rfl ?_
            obtain ⟨s22, e23, H⟩ := ob H
            refine g_cV (S := []) hF (X12_lays0_ok (Nat.le_refl _) hS e23 K) mbX12_lays0 mvX12_lays0 mlX12_70 (by omega) (by decide) (dAt tX12_debt_ok 48 rfl rfl) hS.1 rfl rfl rfl (Nat.le_of_ble_eq_true rfl) rfl rfl (by decide) (by decide) rfl ?_
            refine g_p (S' := [.int (-1), .int 4, .int v14, .ref a]) hF tX12_debt_ok 49 4 rfl rfl rfl rfl ?_
            obtain ⟨s24, e25, H⟩ := ob H
            refine g_cV (S := []) hF (X12_lays0_ok (Nat.le_refl _) hS e25 K) mbX12_lays0 mvX12_lays0 mlX12_70 (by omega) (by decide) (dAt tX12_debt_ok 53 rfl rfl) hS.1 rfl rfl rfl (Nat.le_of_ble_eq_true rfl) rfl rfl (by decide) (by decide) rfl ?_
            refine g_p (S' := [.int 0, .int 5, .int v14, .ref a]) hF tX12_debt_ok 54 4 rfl rfl rfl rfl ?_
            obtain ⟨s26, e27, H⟩ := ob H
            refine g_cV (S := []) hF (X12_lays0_ok (Nat.le_refl _) hS e27 K) mbX12_lays0 mvX12_lays0 mlX12_70 (by omega) (by decide) (dAt tX12_debt_ok 58 rfl rfl) hS.1 rfl rfl rfl (Nat.le_of_ble_eq_true rfl) rfl rfl (by decide) (by decide) rfl ?_
            refine g_p (S' := [.int 0, .int 6, .int v14, .ref a]) hF tX12_debt_ok 59 4 rfl rfl rfl rfl ?_
            obtain ⟨s28, e29, H⟩ := ob H
            refine g_cV (S := []) hF (X12_lays0_ok (Nat.le_refl _) hS e29 K) mbX12_lays0 mvX12_lays0 mlX12_70 (by omega) (by decide) (dAt tX12_debt_ok 63 rfl rfl) hS.1 rfl rfl rfl (Nat.le_of_ble_eq_true rfl) rfl rfl (by decide) (by decide) rfl ?_
            refine g_p (S' := [.ref a]) hF tX12_debt_ok 64 1 rfl rfl rfl rfl ?_
            refine g_getR hF (dAt tX12_debt_ok 65 rfl rfl) flX12_7 hS.1 rfl ?_
            refine g_p (S' := [.int 10, .ref (a + 1), .int 10, .ref (a + 1)]) hF tX12_debt_ok 66 2 rfl rfl rfl rfl ?_
            obtain ⟨v30, e31, H⟩ := ob H
            refine g_ild hF (dAt tX12_debt_ok 68 rfl rfl) hS.2.1 e31 ?_
            refine g_p (S' := [.int (v30 + 1), .int 10, .ref (a + 1)]) hF tX12_debt_ok 69 2 rfl rfl rfl rfl ?_
            obtain ⟨s32, e33, H⟩ := ob H
            refine g_ist hF (dAt tX12_debt_ok 71 rfl rfl) hS.2.1 e33 ?_
            refine g_p (S' := [.int v14]) hF tX12_debt_ok 72 1 rfl rfl rfl rfl ?_
            exact g_iret hF (en_p H hE) (dAt tX12_debt_ok 73 rfl rfl) (by decide) (by decide)
          · have H := Ht13 c13
            refine g_p (S' := [.int (-1)]) hF tX12_debt_ok 22 1 rfl rfl rfl rfl ?_
            exact g_iret hF (en_p H hE) (dAt tX12_debt_ok 23 rfl rfl) (by decide) (by decide)
def X12_helpers_f (a : Nat) (x1 x2 : Int32) (σ : Sig) : Option (Int32 × Sig) := (X12_isDebt_f a x1 σ).bind fun v1 => if v1 = 0 then (some (0, σ)) else ((ld 20240 (σ (a + 1)) 9).bind fun v4 => (X12_isIn_f x2 0 ((1 <<< (v4 &&& 31)) - 1) σ).bind fun v6 => if v6 = 0 then (some (0, σ)) else ((X12_lays0_f a x1 5 x2 σ).bind fun s9 => some (1, s9)))
set_option maxRecDepth 4000 in
set_option maxHeartbeats 1000000 in
theorem X12_helpers_ok {D : Nat} {τ : Tau} {nx : Nat} {a : Nat} {x1 x2 : Int32} {σ : Sig} {res : Int32} {rsg : Sig} (hD : 3 ≤ D) (hS : ShX12 τ a) (H : X12_helpers_f a x1 x2 σ = some (res, rsg)) : Ok D 0 0 yX12_helpers cX12_helpers 3 (some .boolean) [.ref a, .int x1, .int x2] (τ, σ, nx) (some (.int res)) (τ, rsg, nx) := by
  refine ok_of (by decide +kernel) rfl (Nat.le_of_ble_eq_true rfl) (fun K X hF hE hN L0 hL0 => ?_)
  obtain rfl : [some (.ref a), some (.int x1), some (.int x2)] = L0 := hL0
  have hF : Fx K X cX12_helpers 3 RX12 D 0 0 := hF
  refine g_p (S' := [.int x1, .ref a]) hF tX12_helpers_ok 0 2 rfl rfl rfl rfl ?_
  obtain ⟨v1, e2, H⟩ := ob H
  refine g_cV (S := []) hF (X12_isDebt_ok (Nat.le_refl _) hS e2 K) mbX12_isDebt mvX12_isDebt mlX12_73 (by omega) (by decide) (dAt tX12_helpers_ok 2 rfl rfl) hS.1 rfl rfl rfl (Nat.le_of_ble_eq_true rfl) rfl rfl (by decide) (by decide) rfl ?_
  obtain ⟨Ht3, Hf3⟩ := oi H
  refine g_if_eq hF (dAt tX12_helpers_ok 3 rfl rfl) rfl (fun c3 => ?_) (fun c3 => ?_)
  · have H := Ht3 c3
    refine g_p (S' := [.int 0]) hF tX12_helpers_ok 16 1 rfl rfl rfl rfl ?_
    exact g_zret hF (en_p H hE) (Or.inl rfl) (dAt tX12_helpers_ok 17 rfl rfl) (by decide) (by decide)
  · have H := Hf3 c3
    refine g_p (S' := [.ref a, .int 1, .int 0, .int x2]) hF tX12_helpers_ok 4 4 rfl rfl rfl rfl ?_
    refine g_getR hF (dAt tX12_helpers_ok 8 rfl rfl) flX12_7 hS.1 rfl ?_
    refine g_p (S' := [.int 9, .ref (a + 1), .int 1, .int 0, .int x2]) hF tX12_helpers_ok 9 1 rfl rfl rfl rfl ?_
    obtain ⟨v4, e5, H⟩ := ob H
    refine g_ild hF (dAt tX12_helpers_ok 10 rfl rfl) hS.2.1 e5 ?_
    refine g_p (S' := [.int ((1 <<< (v4 &&& 31)) - 1), .int 0, .int x2]) hF tX12_helpers_ok 11 3 rfl rfl rfl rfl ?_
    obtain ⟨v6, e7, H⟩ := ob H
    refine g_cS (S := []) hF (X12_isIn_ok (Nat.le_refl _)  e7 K) mbX12_isIn msX12_isIn mlX12_50 (by omega) (by decide) (dAt tX12_helpers_ok 14 rfl rfl) rfl rfl (Nat.le_of_ble_eq_true rfl) rfl rfl (by decide) (by decide) rfl ?_
    obtain ⟨Ht8, Hf8⟩ := oi H
    refine g_if_ne hF (dAt tX12_helpers_ok 15 rfl rfl) rfl (fun c8 => ?_) (fun c8 => ?_)
    · have H := Hf8 c8
      refine g_p (S' := [.int x2, .int 5, .int x1, .ref a]) hF tX12_helpers_ok 18 4 rfl rfl rfl rfl ?_
      obtain ⟨s9, e10, H⟩ := ob H
      refine g_cV (S := []) hF (X12_lays0_ok (Nat.le_refl _) hS e10 K) mbX12_lays0 mvX12_lays0 mlX12_70 (by omega) (by decide) (dAt tX12_helpers_ok 22 rfl rfl) hS.1 rfl rfl rfl (Nat.le_of_ble_eq_true rfl) rfl rfl (by decide) (by decide) rfl ?_
      refine g_p (S' := [.int 1]) hF tX12_helpers_ok 23 1 rfl rfl rfl rfl ?_
      exact g_zret hF (en_p H hE) (Or.inr rfl) (dAt tX12_helpers_ok 24 rfl rfl) (by decide) (by decide)
    · have H := Ht8 c8
      refine g_p (S' := [.int 0]) hF tX12_helpers_ok 16 1 rfl rfl rfl rfl ?_
      exact g_zret hF (en_p H hE) (Or.inl rfl) (dAt tX12_helpers_ok 17 rfl rfl) (by decide) (by decide)
def X12_workerOf_f (a : Nat) (x1 : Int32) (σ : Sig) : Option (Int32) := (X12_debtOf_f a x1 4 σ).bind fun v1 => if v1 = (-1) then ((X12_debtOf_f a x1 0 σ).bind fun v6 => some v6) else ((X12_debtOf_f a x1 4 σ).bind fun v4 => some v4)
set_option maxRecDepth 4000 in
set_option maxHeartbeats 1000000 in
theorem X12_workerOf_ok {D : Nat} {τ : Tau} {nx : Nat} {a : Nat} {x1 : Int32} {σ : Sig} {res : Int32} (hD : 2 ≤ D) (hS : ShX12 τ a) (H : X12_workerOf_f a x1 σ = some res) : Ok D 0 0 yX12_workerOf cX12_workerOf 2 (some .int) [.ref a, .int x1] (τ, σ, nx) (some (.int res)) (τ, σ, nx) := by
  refine ok_of (by decide +kernel) rfl (Nat.le_of_ble_eq_true rfl) (fun K X hF hE hN L0 hL0 => ?_)
  obtain rfl : [some (.ref a), some (.int x1)] = L0 := hL0
  have hF : Fx K X cX12_workerOf 2 RX12 D 0 0 := hF
  refine g_p (S' := [.int 4, .int x1, .ref a]) hF tX12_workerOf_ok 0 3 rfl rfl rfl rfl ?_
  obtain ⟨v1, e2, H⟩ := ob H
  refine g_cV (S := []) hF (X12_debtOf_ok (Nat.le_refl _) hS e2 K) mbX12_debtOf mvX12_debtOf mlX12_76 (by omega) (by decide) (dAt tX12_workerOf_ok 3 rfl rfl) hS.1 rfl rfl rfl (Nat.le_of_ble_eq_true rfl) rfl rfl (by decide) (by decide) rfl ?_
  refine g_p (S' := [.int (-1), .int v1]) hF tX12_workerOf_ok 4 1 rfl rfl rfl rfl ?_
  obtain ⟨Ht3, Hf3⟩ := oi H
  refine g_icmp_ne hF (dAt tX12_workerOf_ok 5 rfl rfl) rfl (fun c3 => ?_) (fun c3 => ?_)
  · have H := Hf3 c3
    refine g_p (S' := [.int 4, .int x1, .ref a]) hF tX12_workerOf_ok 11 3 rfl rfl rfl rfl ?_
    obtain ⟨v4, e5, H⟩ := ob H
    refine g_cV (S := []) hF (X12_debtOf_ok (Nat.le_refl _) hS e5 K) mbX12_debtOf mvX12_debtOf mlX12_76 (by omega) (by decide) (dAt tX12_workerOf_ok 14 rfl rfl) hS.1 rfl rfl rfl (Nat.le_of_ble_eq_true rfl) rfl rfl (by decide) (by decide) rfl ?_
    exact g_iret hF (en_i H hE) (dAt tX12_workerOf_ok 15 rfl rfl) (by decide) (by decide)
  · have H := Ht3 c3
    refine g_p (S' := [.int 0, .int x1, .ref a]) hF tX12_workerOf_ok 6 3 rfl rfl rfl rfl ?_
    obtain ⟨v6, e7, H⟩ := ob H
    refine g_cV (S := []) hF (X12_debtOf_ok (Nat.le_refl _) hS e7 K) mbX12_debtOf mvX12_debtOf mlX12_76 (by omega) (by decide) (dAt tX12_workerOf_ok 9 rfl rfl) hS.1 rfl rfl rfl (Nat.le_of_ble_eq_true rfl) rfl rfl (by decide) (by decide) rfl ?_
    refine g_goto hF (dAt tX12_workerOf_ok 10 rfl rfl) rfl ?_
    exact g_iret hF (en_i H hE) (dAt tX12_workerOf_ok 15 rfl rfl) (by decide) (by decide)
def X12_of_f (a : Nat) (x1 x2 : Int32) (σ : Sig) : Option (Int32) := (X12_isDebt_f a x1 σ).bind fun v1 => if v1 = 0 then (some (-2)) else ((X12_isIn_f x2 0 7 σ).bind fun v4 => if v4 = 0 then (some (-2)) else (if 6 ≤ x2 then (if x2 = 6 then ((X12_workerOf_f a x1 σ).bind fun v11 => some v11) else ((X12_debtOf_f a x1 6 σ).bind fun v9 => some v9)) else ((X12_debtOf_f a x1 x2 σ).bind fun v13 => some v13)))
set_option maxRecDepth 4000 in
set_option maxHeartbeats 1000000 in
theorem X12_of_ok {D : Nat} {τ : Tau} {nx : Nat} {a : Nat} {x1 x2 : Int32} {σ : Sig} {res : Int32} (hD : 3 ≤ D) (hS : ShX12 τ a) (H : X12_of_f a x1 x2 σ = some res) : Ok D 0 0 yX12_of cX12_of 3 (some .int) [.ref a, .int x1, .int x2] (τ, σ, nx) (some (.int res)) (τ, σ, nx) := by
  refine ok_of (by decide +kernel) rfl (Nat.le_of_ble_eq_true rfl) (fun K X hF hE hN L0 hL0 => ?_)
  obtain rfl : [some (.ref a), some (.int x1), some (.int x2)] = L0 := hL0
  have hF : Fx K X cX12_of 3 RX12 D 0 0 := hF
  refine g_p (S' := [.int x1, .ref a]) hF tX12_of_ok 0 2 rfl rfl rfl rfl ?_
  obtain ⟨v1, e2, H⟩ := ob H
  refine g_cV (S := []) hF (X12_isDebt_ok (Nat.le_refl _) hS e2 K) mbX12_isDebt mvX12_isDebt mlX12_73 (by omega) (by decide) (dAt tX12_of_ok 2 rfl rfl) hS.1 rfl rfl rfl (Nat.le_of_ble_eq_true rfl) rfl rfl (by decide) (by decide) rfl ?_
  obtain ⟨Ht3, Hf3⟩ := oi H
  refine g_if_eq hF (dAt tX12_of_ok 3 rfl rfl) rfl (fun c3 => ?_) (fun c3 => ?_)
  · have H := Ht3 c3
    refine g_p (S' := [.int (-2)]) hF tX12_of_ok 9 1 rfl rfl rfl rfl ?_
    exact g_iret hF (en_i H hE) (dAt tX12_of_ok 10 rfl rfl) (by decide) (by decide)
  · have H := Hf3 c3
    refine g_p (S' := [.int 7, .int 0, .int x2]) hF tX12_of_ok 4 3 rfl rfl rfl rfl ?_
    obtain ⟨v4, e5, H⟩ := ob H
    refine g_cS (S := []) hF (X12_isIn_ok (Nat.le_refl _)  e5 K) mbX12_isIn msX12_isIn mlX12_50 (by omega) (by decide) (dAt tX12_of_ok 7 rfl rfl) rfl rfl (Nat.le_of_ble_eq_true rfl) rfl rfl (by decide) (by decide) rfl ?_
    obtain ⟨Ht6, Hf6⟩ := oi H
    refine g_if_ne hF (dAt tX12_of_ok 8 rfl rfl) rfl (fun c6 => ?_) (fun c6 => ?_)
    · have H := Hf6 c6
      refine g_p (S' := [.int 6, .int x2]) hF tX12_of_ok 11 2 rfl rfl rfl rfl ?_
      obtain ⟨Ht7, Hf7⟩ := oi H
      refine g_icmp_ge hF (dAt tX12_of_ok 13 rfl rfl) rfl (fun c7 => ?_) (fun c7 => ?_)
      · have H := Ht7 c7
        refine g_p (S' := [.int 6, .int x2]) hF tX12_of_ok 19 2 rfl rfl rfl rfl ?_
        obtain ⟨Ht8, Hf8⟩ := oi H
        refine g_icmp_ne hF (dAt tX12_of_ok 21 rfl rfl) rfl (fun c8 => ?_) (fun c8 => ?_)
        · have H := Hf8 c8
          refine g_p (S' := [.int 6, .int x1, .ref a]) hF tX12_of_ok 26 3 rfl rfl rfl rfl ?_
          obtain ⟨v9, e10, H⟩ := ob H
          refine g_cV (S := []) hF (X12_debtOf_ok (Nat.le_refl _) hS e10 K) mbX12_debtOf mvX12_debtOf mlX12_76 (by omega) (by decide) (dAt tX12_of_ok 29 rfl rfl) hS.1 rfl rfl rfl (Nat.le_of_ble_eq_true rfl) rfl rfl (by decide) (by decide) rfl ?_
          exact g_iret hF (en_i H hE) (dAt tX12_of_ok 30 rfl rfl) (by decide) (by decide)
        · have H := Ht8 c8
          refine g_p (S' := [.int x1, .ref a]) hF tX12_of_ok 22 2 rfl rfl rfl rfl ?_
          obtain ⟨v11, e12, H⟩ := ob H
          refine g_cV (S := []) hF (X12_workerOf_ok (Nat.le_refl _) hS e12 K) mbX12_workerOf mvX12_workerOf mlX12_79 (by omega) (by decide) (dAt tX12_of_ok 24 rfl rfl) hS.1 rfl rfl rfl (Nat.le_of_ble_eq_true rfl) rfl rfl (by decide) (by decide) rfl ?_
          refine g_goto hF (dAt tX12_of_ok 25 rfl rfl) rfl ?_
          exact g_iret hF (en_i H hE) (dAt tX12_of_ok 30 rfl rfl) (by decide) (by decide)
      · have H := Hf7 c7
        refine g_p (S' := [.int x2, .int x1, .ref a]) hF tX12_of_ok 14 3 rfl rfl rfl rfl ?_
        obtain ⟨v13, e14, H⟩ := ob H
        refine g_cV (S := []) hF (X12_debtOf_ok (Nat.le_refl _) hS e14 K) mbX12_debtOf mvX12_debtOf mlX12_76 (by omega) (by decide) (dAt tX12_of_ok 17 rfl rfl) hS.1 rfl rfl rfl (Nat.le_of_ble_eq_true rfl) rfl rfl (by decide) (by decide) rfl ?_
        refine g_goto hF (dAt tX12_of_ok 18 rfl rfl) rfl ?_
        exact g_iret hF (en_i H hE) (dAt tX12_of_ok 30 rfl rfl) (by decide) (by decide)
    · have H := Ht6 c6
      refine g_p (S' := [.int (-2)]) hF tX12_of_ok 9 1 rfl rfl rfl rfl ?_
      exact g_iret hF (en_i H hE) (dAt tX12_of_ok 10 rfl rfl) (by decide) (by decide)
def X12_feed_b71 (a : Nat) (k18 : Int32 → Int32 → Int32 → Int32 → Int32 → Int32 → Sig → Option (Int32 × Sig)) (x1 x2 x3 x4 x5 x6 y0 : Int32) (σ : Sig) : Option (Int32 × Sig) := (st 400 σ (a + 6) (σ a 12) ((y0 >>> ((24 - (8 * (x6 - x6 / 4 * 4))) &&& 31)) &&& 255)).bind fun s1 => (pI s1 a 12 ((s1 a 12) + 1)).bind fun s3 => k18 x1 x2 x3 x4 x5 (x6 + 1) s3
set_option maxRecDepth 4000 in
set_option maxHeartbeats 1000000 in
theorem X12_feed_b71_ok {K : Kt} {X : Cx} {D : Nat} {τ : Tau} {nx : Nat} {a : Nat} {res : Int32} {rsg : Sig}  (hD : 1 ≤ D) (hF : Fx K X cX12_feed 8 RX12 D 0 0) (hS : ShX12 τ a) (hE : En K X (some .int) 0 0 (some (.int res)) (τ, rsg, nx)) {k18 : Int32 → Int32 → Int32 → Int32 → Int32 → Int32 → Sig → Option (Int32 × Sig)} (hk18 : ∀ (x1 x2 x3 x4 x5 x6 : Int32) (σ : Sig), k18 x1 x2 x3 x4 x5 x6 σ = some (res, rsg) → G K X 8 0 0 18 [some (.ref a), some (.int x1), some (.int x2), some (.int x3), some (.int x4), some (.int x5), some (.int x6), none] [] (τ, σ, nx)) {x1 x2 x3 x4 x5 x6 y0 : Int32} {σ : Sig} (H : X12_feed_b71 a k18 x1 x2 x3 x4 x5 x6 y0 σ = some (res, rsg)) : G K X 8 0 0 71 [some (.ref a), some (.int x1), some (.int x2), some (.int x3), some (.int x4), some (.int x5), some (.int x6), none] [.int y0] (τ, σ, nx) := by
  refine g_p (L' := [some (.ref a), some (.int x1), some (.int x2), some (.int x3), some (.int x4), some (.int x5), some (.int x6), some (.int y0)]) (S' := [.ref a]) hF tX12_feed_ok 34 2 rfl rfl rfl rfl ?_
  refine g_getR hF (dAt tX12_feed_ok 36 rfl rfl) flX12_25 hS.1 rfl ?_
  refine g_p (S' := [.ref a, .ref (a + 6)]) hF tX12_feed_ok 37 1 rfl rfl rfl rfl ?_
  refine g_getI hF (dAt tX12_feed_ok 38 rfl rfl) flX12_83 hS.1 rfl ?_
  refine g_p (S' := [.int 4, .int x6, .int 8, .int 24, .int y0, .int (σ a 12), .ref (a + 6)]) hF tX12_feed_ok 39 5 rfl rfl rfl rfl ?_
  refine g_irem hF (dAt tX12_feed_ok 44 rfl rfl) (by decide) ?_
  refine g_p (S' := [.int ((y0 >>> ((24 - (8 * (x6 - x6 / 4 * 4))) &&& 31)) &&& 255), .int (σ a 12), .ref (a + 6)]) hF tX12_feed_ok 45 5 rfl rfl rfl rfl ?_
  obtain ⟨s1, e2, H⟩ := ob H
  refine g_ist hF (dAt tX12_feed_ok 50 rfl rfl) hS.2.2.2.2.2.2.1 e2 ?_
  refine g_p (S' := [.ref a, .ref a]) hF tX12_feed_ok 51 2 rfl rfl rfl rfl ?_
  refine g_getI hF (dAt tX12_feed_ok 53 rfl rfl) flX12_83 hS.1 rfl ?_
  refine g_p (S' := [.int ((s1 a 12) + 1), .ref a]) hF tX12_feed_ok 54 2 rfl rfl rfl rfl ?_
  obtain ⟨s3, e4, H⟩ := ob H
  refine g_pI hF (dAt tX12_feed_ok 56 rfl rfl) flX12_83 (Or.inl rfl) hS.1 rfl e4 ?_
  refine g_p (L' := [some (.ref a), some (.int x1), some (.int x2), some (.int x3), some (.int x4), some (.int x5), some (.int (x6 + 1)), some (.int y0)]) (S' := []) hF tX12_feed_ok 57 1 rfl rfl rfl rfl ?_
  refine g_goto hF (dAt tX12_feed_ok 58 rfl rfl) rfl ?_
  refine g_m [true, true, true, true, true, true, true, false] rfl ?_
  exact hk18 _ _ _ _ _ _ _ H
def X12_feed_b18 (a : Nat) : Nat → Int32 → Int32 → Int32 → Int32 → Int32 → Int32 → Sig → Option (Int32 × Sig)
  | 0, _, _, _, _, _, _, _ => none
  | fu + 1, x1, x2, x3, x4, x5, x6, σ => if 20 ≤ x6 then (some ((σ a 12), σ)) else (if 4 ≤ x6 then (if 8 ≤ x6 then (if 12 ≤ x6 then (if 16 ≤ x6 then (X12_feed_b71 a (X12_feed_b18 a fu) x1 x2 x3 x4 x5 x6 x5 σ) else (X12_feed_b71 a (X12_feed_b18 a fu) x1 x2 x3 x4 x5 x6 x4 σ)) else (X12_feed_b71 a (X12_feed_b18 a fu) x1 x2 x3 x4 x5 x6 x3 σ)) else (X12_feed_b71 a (X12_feed_b18 a fu) x1 x2 x3 x4 x5 x6 x2 σ)) else (X12_feed_b71 a (X12_feed_b18 a fu) x1 x2 x3 x4 x5 x6 x1 σ))
set_option maxRecDepth 4000 in
set_option maxHeartbeats 1000000 in
theorem X12_feed_b18_ok {K : Kt} {X : Cx} {D : Nat} {τ : Tau} {nx : Nat} {a : Nat} {res : Int32} {rsg : Sig}  (hD : 1 ≤ D) (hF : Fx K X cX12_feed 8 RX12 D 0 0) (hS : ShX12 τ a) (hE : En K X (some .int) 0 0 (some (.int res)) (τ, rsg, nx)) : ∀ (fu : Nat) (x1 x2 x3 x4 x5 x6 : Int32) (σ : Sig), X12_feed_b18 a fu x1 x2 x3 x4 x5 x6 σ = some (res, rsg) → G K X 8 0 0 18 [some (.ref a), some (.int x1), some (.int x2), some (.int x3), some (.int x4), some (.int x5), some (.int x6), none] [] (τ, σ, nx)
  | 0, _, _, _, _, _, _, _, H => nomatch H
  | fu + 1, x1, x2, x3, x4, x5, x6, σ, H => by
    refine g_p (S' := [.int 20, .int x6]) hF tX12_feed_ok 10 2 rfl rfl rfl rfl ?_
    obtain ⟨Ht1, Hf1⟩ := oi H
    refine g_icmp_ge hF (dAt tX12_feed_ok 12 rfl rfl) rfl (fun c1 => ?_) (fun c1 => ?_)
    · have H := Ht1 c1
      refine g_p (S' := [.ref a]) hF tX12_feed_ok 59 1 rfl rfl rfl rfl ?_
      refine g_getI hF (dAt tX12_feed_ok 60 rfl rfl) flX12_83 hS.1 rfl ?_
      exact g_iret hF (en_p H hE) (dAt tX12_feed_ok 61 rfl rfl) (by decide) (by decide)
    · have H := Hf1 c1
      refine g_p (S' := [.int 4, .int x6]) hF tX12_feed_ok 13 2 rfl rfl rfl rfl ?_
      obtain ⟨Ht2, Hf2⟩ := oi H
      refine g_icmp_ge hF (dAt tX12_feed_ok 15 rfl rfl) rfl (fun c2 => ?_) (fun c2 => ?_)
      · have H := Ht2 c2
        refine g_p (S' := [.int 8, .int x6]) hF tX12_feed_ok 18 2 rfl rfl rfl rfl ?_
        obtain ⟨Ht3, Hf3⟩ := oi H
        refine g_icmp_ge hF (dAt tX12_feed_ok 20 rfl rfl) rfl (fun c3 => ?_) (fun c3 => ?_)
        · have H := Ht3 c3
          refine g_p (S' := [.int 12, .int x6]) hF tX12_feed_ok 23 2 rfl rfl rfl rfl ?_
          obtain ⟨Ht4, Hf4⟩ := oi H
          refine g_icmp_ge hF (dAt tX12_feed_ok 25 rfl rfl) rfl (fun c4 => ?_) (fun c4 => ?_)
          · have H := Ht4 c4
            refine g_p (S' := [.int 16, .int x6]) hF tX12_feed_ok 28 2 rfl rfl rfl rfl ?_
            obtain ⟨Ht5, Hf5⟩ := oi H
            refine g_icmp_ge hF (dAt tX12_feed_ok 30 rfl rfl) rfl (fun c5 => ?_) (fun c5 => ?_)
            · have H := Ht5 c5
              refine g_p (S' := [.int x5]) hF tX12_feed_ok 33 1 rfl rfl rfl rfl ?_
              exact X12_feed_b71_ok hD hF hS hE (fun _ _ _ _ _ _ _ H => X12_feed_b18_ok hD hF hS hE fu _ _ _ _ _ _ _ H) H
            · have H := Hf5 c5
              refine g_p (S' := [.int x4]) hF tX12_feed_ok 31 1 rfl rfl rfl rfl ?_
              refine g_goto hF (dAt tX12_feed_ok 32 rfl rfl) rfl ?_
              exact X12_feed_b71_ok hD hF hS hE (fun _ _ _ _ _ _ _ H => X12_feed_b18_ok hD hF hS hE fu _ _ _ _ _ _ _ H) H
          · have H := Hf4 c4
            refine g_p (S' := [.int x3]) hF tX12_feed_ok 26 1 rfl rfl rfl rfl ?_
            refine g_goto hF (dAt tX12_feed_ok 27 rfl rfl) rfl ?_
            exact X12_feed_b71_ok hD hF hS hE (fun _ _ _ _ _ _ _ H => X12_feed_b18_ok hD hF hS hE fu _ _ _ _ _ _ _ H) H
        · have H := Hf3 c3
          refine g_p (S' := [.int x2]) hF tX12_feed_ok 21 1 rfl rfl rfl rfl ?_
          refine g_goto hF (dAt tX12_feed_ok 22 rfl rfl) rfl ?_
          exact X12_feed_b71_ok hD hF hS hE (fun _ _ _ _ _ _ _ H => X12_feed_b18_ok hD hF hS hE fu _ _ _ _ _ _ _ H) H
      · have H := Hf2 c2
        refine g_p (S' := [.int x1]) hF tX12_feed_ok 16 1 rfl rfl rfl rfl ?_
        refine g_goto hF (dAt tX12_feed_ok 17 rfl rfl) rfl ?_
        exact X12_feed_b71_ok hD hF hS hE (fun _ _ _ _ _ _ _ H => X12_feed_b18_ok hD hF hS hE fu _ _ _ _ _ _ _ H) H
def X12_feed_f (a : Nat) (x1 x2 x3 x4 x5 : Int32) (σ : Sig) : Option (Int32 × Sig) := if ((σ a 12) + 20) ≤ 400 then (X12_feed_b18 a FU x1 x2 x3 x4 x5 0 σ) else (some ((-1), σ))
set_option maxRecDepth 4000 in
set_option maxHeartbeats 1000000 in
theorem X12_feed_ok {D : Nat} {τ : Tau} {nx : Nat} {a : Nat} {x1 x2 x3 x4 x5 : Int32} {σ : Sig} {res : Int32} {rsg : Sig} (hD : 1 ≤ D) (hS : ShX12 τ a) (H : X12_feed_f a x1 x2 x3 x4 x5 σ = some (res, rsg)) : Ok D 0 0 yX12_feed cX12_feed 8 (some .int) [.ref a, .int x1, .int x2, .int x3, .int x4, .int x5] (τ, σ, nx) (some (.int res)) (τ, rsg, nx) := by
  refine ok_of (by decide +kernel) rfl (Nat.le_of_ble_eq_true rfl) (fun K X hF hE hN L0 hL0 => ?_)
  obtain rfl : [some (.ref a), some (.int x1), some (.int x2), some (.int x3), some (.int x4), some (.int x5), none, none] = L0 := hL0
  have hF : Fx K X cX12_feed 8 RX12 D 0 0 := hF
  refine g_p (S' := [.ref a]) hF tX12_feed_ok 0 1 rfl rfl rfl rfl ?_
  refine g_getI hF (dAt tX12_feed_ok 1 rfl rfl) flX12_83 hS.1 rfl ?_
  refine g_p (S' := [.int 400, .int ((σ a 12) + 20)]) hF tX12_feed_ok 2 3 rfl rfl rfl rfl ?_
  obtain ⟨Ht1, Hf1⟩ := oi H
  refine g_icmp_le hF (dAt tX12_feed_ok 5 rfl rfl) rfl (fun c1 => ?_) (fun c1 => ?_)
  · have H := Ht1 c1
    refine g_p (L' := [some (.ref a), some (.int x1), some (.int x2), some (.int x3), some (.int x4), some (.int x5), some (.int 0), none]) (S' := []) hF tX12_feed_ok 8 2 rfl rfl rfl rfl ?_
    exact X12_feed_b18_ok hD hF hS hE FU _ _ _ _ _ _ _ H
  · have H := Hf1 c1
    refine g_p (S' := [.int (-1)]) hF tX12_feed_ok 6 1 rfl rfl rfl rfl ?_
    exact g_iret hF (en_p H hE) (dAt tX12_feed_ok 7 rfl rfl) (by decide) (by decide)
def X12_end_f (a : Nat) (x1 : Int32) (σ : Sig) : Option (Int32 × Sig) := (X12_isIn_f x1 0 (σ a 12) σ).bind fun v1 => if v1 = 0 then (some (0, σ)) else ((pI σ a 12 x1).bind fun s4 => some (1, s4))
set_option maxRecDepth 4000 in
set_option maxHeartbeats 1000000 in
theorem X12_end_ok {D : Nat} {τ : Tau} {nx : Nat} {a : Nat} {x1 : Int32} {σ : Sig} {res : Int32} {rsg : Sig} (hD : 2 ≤ D) (hS : ShX12 τ a) (H : X12_end_f a x1 σ = some (res, rsg)) : Ok D 0 0 yX12_end cX12_end 2 (some .boolean) [.ref a, .int x1] (τ, σ, nx) (some (.int res)) (τ, rsg, nx) := by
  refine ok_of (by decide +kernel) rfl (Nat.le_of_ble_eq_true rfl) (fun K X hF hE hN L0 hL0 => ?_)
  obtain rfl : [some (.ref a), some (.int x1)] = L0 := hL0
  have hF : Fx K X cX12_end 2 RX12 D 0 0 := hF
  refine g_p (S' := [.ref a, .int 0, .int x1]) hF tX12_end_ok 0 3 rfl rfl rfl rfl ?_
  refine g_getI hF (dAt tX12_end_ok 3 rfl rfl) flX12_83 hS.1 rfl ?_
  obtain ⟨v1, e2, H⟩ := ob H
  refine g_cS (S := []) hF (X12_isIn_ok (Nat.le_refl _)  e2 K) mbX12_isIn msX12_isIn mlX12_50 (by omega) (by decide) (dAt tX12_end_ok 4 rfl rfl) rfl rfl (Nat.le_of_ble_eq_true rfl) rfl rfl (by decide) (by decide) rfl ?_
  obtain ⟨Ht3, Hf3⟩ := oi H
  refine g_if_ne hF (dAt tX12_end_ok 5 rfl rfl) rfl (fun c3 => ?_) (fun c3 => ?_)
  · have H := Hf3 c3
    refine g_p (S' := [.int x1, .ref a]) hF tX12_end_ok 8 2 rfl rfl rfl rfl ?_
    obtain ⟨s4, e5, H⟩ := ob H
    refine g_pI hF (dAt tX12_end_ok 10 rfl rfl) flX12_83 (Or.inl rfl) hS.1 rfl e5 ?_
    refine g_p (S' := [.int 1]) hF tX12_end_ok 11 1 rfl rfl rfl rfl ?_
    exact g_zret hF (en_p H hE) (Or.inr rfl) (dAt tX12_end_ok 12 rfl rfl) (by decide) (by decide)
  · have H := Ht3 c3
    refine g_p (S' := [.int 0]) hF tX12_end_ok 6 1 rfl rfl rfl rfl ?_
    exact g_zret hF (en_p H hE) (Or.inl rfl) (dAt tX12_end_ok 7 rfl rfl) (by decide) (by decide)
def X12_see_f (a : Nat) (x1 : Int32) (σ : Sig) : Option (Int32) := if (σ a 12) ≤ x1 then (some (-1)) else ((ld 400 (σ (a + 6)) x1).bind fun v2 => some v2)
set_option maxRecDepth 4000 in
set_option maxHeartbeats 1000000 in
theorem X12_see_ok {D : Nat} {τ : Tau} {nx : Nat} {a : Nat} {x1 : Int32} {σ : Sig} {res : Int32} (hD : 1 ≤ D) (hS : ShX12 τ a) (H : X12_see_f a x1 σ = some res) : Ok D 0 0 yX12_see cX12_see 2 (some .int) [.ref a, .int x1] (τ, σ, nx) (some (.int res)) (τ, σ, nx) := by
  refine ok_of (by decide +kernel) rfl (Nat.le_of_ble_eq_true rfl) (fun K X hF hE hN L0 hL0 => ?_)
  obtain rfl : [some (.ref a), some (.int x1)] = L0 := hL0
  have hF : Fx K X cX12_see 2 RX12 D 0 0 := hF
  refine g_p (S' := [.ref a, .int x1]) hF tX12_see_ok 0 2 rfl rfl rfl rfl ?_
  refine g_getI hF (dAt tX12_see_ok 2 rfl rfl) flX12_83 hS.1 rfl ?_
  obtain ⟨Ht1, Hf1⟩ := oi H
  refine g_icmp_ge hF (dAt tX12_see_ok 3 rfl rfl) rfl (fun c1 => ?_) (fun c1 => ?_)
  · have H := Ht1 c1
    refine g_p (S' := [.int (-1)]) hF tX12_see_ok 9 1 rfl rfl rfl rfl ?_
    exact g_iret hF (en_i H hE) (dAt tX12_see_ok 10 rfl rfl) (by decide) (by decide)
  · have H := Hf1 c1
    refine g_p (S' := [.ref a]) hF tX12_see_ok 4 1 rfl rfl rfl rfl ?_
    refine g_getR hF (dAt tX12_see_ok 5 rfl rfl) flX12_25 hS.1 rfl ?_
    refine g_p (S' := [.int x1, .ref (a + 6)]) hF tX12_see_ok 6 1 rfl rfl rfl rfl ?_
    obtain ⟨v2, e3, H⟩ := ob H
    refine g_ild hF (dAt tX12_see_ok 7 rfl rfl) hS.2.2.2.2.2.2.1 e3 ?_
    refine g_goto hF (dAt tX12_see_ok 8 rfl rfl) rfl ?_
    exact g_iret hF (en_i H hE) (dAt tX12_see_ok 10 rfl rfl) (by decide) (by decide)
def X12_isLetter_f (x0 : Int32) (σ : Sig) : Option (Int32) := (X12_isIn_f x0 97 122 σ).bind fun v1 => if v1 = 0 then ((X12_isIn_f x0 65 90 σ).bind fun v4 => if v4 = 0 then (some 0) else (some 1)) else (some 1)
set_option maxRecDepth 4000 in
set_option maxHeartbeats 1000000 in
theorem X12_isLetter_ok {D : Nat} {τ : Tau} {nx : Nat} {x0 : Int32} {σ : Sig} {res : Int32} (hD : 2 ≤ D) (H : X12_isLetter_f x0 σ = some res) : Ok D 0 0 yX12_isLetter cX12_isLetter 1 (some .boolean) [.int x0] (τ, σ, nx) (some (.int res)) (τ, σ, nx) := by
  refine ok_of (by decide +kernel) rfl (Nat.le_of_ble_eq_true rfl) (fun K X hF hE hN L0 hL0 => ?_)
  obtain rfl : [some (.int x0)] = L0 := hL0
  have hF : Fx K X cX12_isLetter 1 RX12 D 0 0 := hF
  refine g_p (S' := [.int 122, .int 97, .int x0]) hF tX12_isLetter_ok 0 3 rfl rfl rfl rfl ?_
  obtain ⟨v1, e2, H⟩ := ob H
  refine g_cS (S := []) hF (X12_isIn_ok (Nat.le_refl _)  e2 K) mbX12_isIn msX12_isIn mlX12_50 (by omega) (by decide) (dAt tX12_isLetter_ok 3 rfl rfl) rfl rfl (Nat.le_of_ble_eq_true rfl) rfl rfl (by decide) (by decide) rfl ?_
  obtain ⟨Ht3, Hf3⟩ := oi H
  refine g_if_ne hF (dAt tX12_isLetter_ok 4 rfl rfl) rfl (fun c3 => ?_) (fun c3 => ?_)
  · have H := Hf3 c3
    refine g_p (S' := [.int 1]) hF tX12_isLetter_ok 10 1 rfl rfl rfl rfl ?_
    refine g_goto hF (dAt tX12_isLetter_ok 11 rfl rfl) rfl ?_
    exact g_zret hF (en_i H hE) (Or.inr rfl) (dAt tX12_isLetter_ok 13 rfl rfl) (by decide) (by decide)
  · have H := Ht3 c3
    refine g_p (S' := [.int 90, .int 65, .int x0]) hF tX12_isLetter_ok 5 3 rfl rfl rfl rfl ?_
    obtain ⟨v4, e5, H⟩ := ob H
    refine g_cS (S := []) hF (X12_isIn_ok (Nat.le_refl _)  e5 K) mbX12_isIn msX12_isIn mlX12_50 (by omega) (by decide) (dAt tX12_isLetter_ok 8 rfl rfl) rfl rfl (Nat.le_of_ble_eq_true rfl) rfl rfl (by decide) (by decide) rfl ?_
    obtain ⟨Ht6, Hf6⟩ := oi H
    refine g_if_eq hF (dAt tX12_isLetter_ok 9 rfl rfl) rfl (fun c6 => ?_) (fun c6 => ?_)
    · have H := Ht6 c6
      refine g_p (S' := [.int 0]) hF tX12_isLetter_ok 12 1 rfl rfl rfl rfl ?_
      exact g_zret hF (en_i H hE) (Or.inl rfl) (dAt tX12_isLetter_ok 13 rfl rfl) (by decide) (by decide)
    · have H := Hf6 c6
      refine g_p (S' := [.int 1]) hF tX12_isLetter_ok 10 1 rfl rfl rfl rfl ?_
      refine g_goto hF (dAt tX12_isLetter_ok 11 rfl rfl) rfl ?_
      exact g_zret hF (en_i H hE) (Or.inr rfl) (dAt tX12_isLetter_ok 13 rfl rfl) (by decide) (by decide)
def X12_isDigit_f (x0 : Int32) (σ : Sig) : Option (Int32) := (X12_isIn_f x0 48 57 σ).bind fun v1 => if v1 = 0 ∨ v1 = 1 then some v1 else none
set_option maxRecDepth 4000 in
set_option maxHeartbeats 1000000 in
theorem X12_isDigit_ok {D : Nat} {τ : Tau} {nx : Nat} {x0 : Int32} {σ : Sig} {res : Int32} (hD : 2 ≤ D) (H : X12_isDigit_f x0 σ = some res) : Ok D 0 0 yX12_isDigit cX12_isDigit 1 (some .boolean) [.int x0] (τ, σ, nx) (some (.int res)) (τ, σ, nx) := by
  refine ok_of (by decide +kernel) rfl (Nat.le_of_ble_eq_true rfl) (fun K X hF hE hN L0 hL0 => ?_)
  obtain rfl : [some (.int x0)] = L0 := hL0
  have hF : Fx K X cX12_isDigit 1 RX12 D 0 0 := hF
  refine g_p (S' := [.int 57, .int 48, .int x0]) hF tX12_isDigit_ok 0 3 rfl rfl rfl rfl ?_
  obtain ⟨v1, e2, H⟩ := ob H
  refine g_cS (S := []) hF (X12_isIn_ok (Nat.le_refl _)  e2 K) mbX12_isIn msX12_isIn mlX12_50 (by omega) (by decide) (dAt tX12_isDigit_ok 3 rfl rfl) rfl rfl (Nat.le_of_ble_eq_true rfl) rfl rfl (by decide) (by decide) rfl ?_
  obtain ⟨hb, H⟩ := oy H
  exact g_zret hF (en_i H hE) hb (dAt tX12_isDigit_ok 4 rfl rfl) (by decide) (by decide)
def X12_is_b24 (a : Nat) (w1 : Nat) (σ : Sig) : Nat → Nat → Int32 → Int32 → Option (Int32)
  | 0, _, _, _ => none
  | fu + 1, w1, x2, x3 => if (slen w1) ≤ x3 then (if x2 = 0 ∨ x2 = 1 then some x2 else none) else (if x2 = 0 then (if x2 = 0 ∨ x2 = 1 then some x2 else none) else ((ld 400 (σ (a + 6)) ((σ a 15) + x3)).bind fun v3 => (sch w1 x3).bind fun v5 => if v3 = v5 then (X12_is_b24 a w1 σ fu w1 1 (x3 + 1)) else (X12_is_b24 a w1 σ fu w1 0 (x3 + 1))))
set_option maxRecDepth 4000 in
set_option maxHeartbeats 1000000 in
theorem X12_is_b24_ok {K : Kt} {X : Cx} {D : Nat} {τ : Tau} {nx : Nat} {a : Nat} {w1 : Nat} {res : Int32} {σ : Sig}  (hD : 5 ≤ D) (hF : Fx K X cX12_is 4 RX12 D 0 0) (hS : ShX12 τ a) (hw1 : w1 < 21) (hE : En K X (some .boolean) 0 0 (some (.int res)) (τ, σ, nx)) : ∀ (fu : Nat) (w1 : Nat) (x2 x3 : Int32) (hw1 : w1 < 21), X12_is_b24 a w1 σ fu w1 x2 x3 = some res → G K X 4 0 0 24 [some (.ref a), some (.ref (kK K w1)), some (.int x2), some (.int x3)] [] (τ, σ, nx)
  | 0, _, _, _, _, H => nomatch H
  | fu + 1, w1, x2, x3, hw1, H => by
    refine g_p (S' := [.ref (kK K w1), .int x3]) hF tX12_is_ok 14 2 rfl rfl rfl rfl ?_
    refine g_cV0 (S := [.int x3]) hF (J0_length_ok hw1 (Nat.le_refl _)) mbJ0_length_8abf5 mvJ0_length_8abf5 mlX12_92 (by omega) (by decide) (dAt tX12_is_ok 16 rfl rfl) (srec hF hw1) rfl rfl (Nat.le_of_ble_eq_true rfl) rfl rfl (by decide) (by decide) rfl ?_
    obtain ⟨Ht1, Hf1⟩ := oi H
    refine g_icmp_ge hF (dAt tX12_is_ok 17 rfl rfl) rfl (fun c1 => ?_) (fun c1 => ?_)
    · have H := Ht1 c1
      refine g_p (S' := [.int x2]) hF tX12_is_ok 37 1 rfl rfl rfl rfl ?_
      obtain ⟨hb, H⟩ := oy H
      exact g_zret hF (en_i H hE) hb (dAt tX12_is_ok 38 rfl rfl) (by decide) (by decide)
    · have H := Hf1 c1
      refine g_p (S' := [.int x2]) hF tX12_is_ok 18 1 rfl rfl rfl rfl ?_
      obtain ⟨Ht2, Hf2⟩ := oi H
      refine g_if_eq hF (dAt tX12_is_ok 19 rfl rfl) rfl (fun c2 => ?_) (fun c2 => ?_)
      · have H := Ht2 c2
        refine g_p (S' := [.int x2]) hF tX12_is_ok 37 1 rfl rfl rfl rfl ?_
        obtain ⟨hb, H⟩ := oy H
        exact g_zret hF (en_i H hE) hb (dAt tX12_is_ok 38 rfl rfl) (by decide) (by decide)
      · have H := Hf2 c2
        refine g_p (S' := [.ref a]) hF tX12_is_ok 20 1 rfl rfl rfl rfl ?_
        refine g_getR hF (dAt tX12_is_ok 21 rfl rfl) flX12_25 hS.1 rfl ?_
        refine g_p (S' := [.ref a, .ref (a + 6)]) hF tX12_is_ok 22 1 rfl rfl rfl rfl ?_
        refine g_getI hF (dAt tX12_is_ok 23 rfl rfl) flX12_89 hS.1 rfl ?_
        refine g_p (S' := [.int ((σ a 15) + x3), .ref (a + 6)]) hF tX12_is_ok 24 2 rfl rfl rfl rfl ?_
        obtain ⟨v3, e4, H⟩ := ob H
        refine g_ild hF (dAt tX12_is_ok 26 rfl rfl) hS.2.2.2.2.2.2.1 e4 ?_
        refine g_p (S' := [.int x3, .ref (kK K w1), .int v3]) hF tX12_is_ok 27 2 rfl rfl rfl rfl ?_
        obtain ⟨v5, e6, H⟩ := ob H
        refine g_cV0 (S := [.int v3]) hF (J0_charAt_ok hw1 e6 (Nat.le_refl _)) mbJ0_charAt_5068e mvJ0_charAt_5068e mlX12_98 (by omega) (by decide) (dAt tX12_is_ok 29 rfl rfl) (srec hF hw1) rfl rfl (Nat.le_of_ble_eq_true rfl) rfl rfl (by decide) (by decide) rfl ?_
        obtain ⟨Ht7, Hf7⟩ := oi H
        refine g_icmp_ne hF (dAt tX12_is_ok 30 rfl rfl) rfl (fun c7 => ?_) (fun c7 => ?_)
        · have H := Hf7 c7
          refine g_p (L' := [some (.ref a), some (.ref (kK K w1)), some (.int 0), some (.int (x3 + 1))]) (S' := []) hF tX12_is_ok 33 3 rfl rfl rfl rfl ?_
          refine g_goto hF (dAt tX12_is_ok 36 rfl rfl) rfl ?_
          exact X12_is_b24_ok hD hF hS hw1 hE fu _ _ _ hw1 H
        · have H := Ht7 c7
          refine g_p (S' := [.int 1]) hF tX12_is_ok 31 1 rfl rfl rfl rfl ?_
          refine g_goto hF (dAt tX12_is_ok 32 rfl rfl) rfl ?_
          refine g_p (L' := [some (.ref a), some (.ref (kK K w1)), some (.int 1), some (.int (x3 + 1))]) (S' := []) hF tX12_is_ok 34 2 rfl rfl rfl rfl ?_
          refine g_goto hF (dAt tX12_is_ok 36 rfl rfl) rfl ?_
          exact X12_is_b24_ok hD hF hS hw1 hE fu _ _ _ hw1 H
def X12_is_f (a : Nat) (w1 : Nat) (σ : Sig) : Option (Int32) := if ((σ a 13) - (σ a 15)) = (slen w1) then (X12_is_b24 a w1 σ FU w1 1 0) else (X12_is_b24 a w1 σ FU w1 0 0)
set_option maxRecDepth 4000 in
set_option maxHeartbeats 1000000 in
theorem X12_is_ok {D : Nat} {τ : Tau} {nx : Nat} {K : Kt} {a : Nat} {w1 : Nat} {σ : Sig} {res : Int32} (hD : 5 ≤ D) (hS : ShX12 τ a) (hw1 : w1 < 21) (H : X12_is_f a w1 σ = some res) : OkK D 0 0 yX12_is cX12_is 4 (some .boolean) K [.ref a, .ref (kK K w1)] (τ, σ, nx) (some (.int res)) (τ, σ, nx) := by
  refine ok_ofK (by decide +kernel) rfl (Nat.le_of_ble_eq_true rfl) (fun X hF hE hN L0 hL0 => ?_)
  obtain rfl : [some (.ref a), some (.ref (kK K w1)), none, none] = L0 := hL0
  have hF : Fx K X cX12_is 4 RX12 D 0 0 := hF
  refine g_p (S' := [.ref a]) hF tX12_is_ok 0 1 rfl rfl rfl rfl ?_
  refine g_getI hF (dAt tX12_is_ok 1 rfl rfl) flX12_86 hS.1 rfl ?_
  refine g_p (S' := [.ref a, .int (σ a 13)]) hF tX12_is_ok 2 1 rfl rfl rfl rfl ?_
  refine g_getI hF (dAt tX12_is_ok 3 rfl rfl) flX12_89 hS.1 rfl ?_
  refine g_p (S' := [.ref (kK K w1), .int ((σ a 13) - (σ a 15))]) hF tX12_is_ok 4 2 rfl rfl rfl rfl ?_
  refine g_cV0 (S := [.int ((σ a 13) - (σ a 15))]) hF (J0_length_ok hw1 (Nat.le_refl _)) mbJ0_length_8abf5 mvJ0_length_8abf5 mlX12_92 (by omega) (by decide) (dAt tX12_is_ok 6 rfl rfl) (srec hF hw1) rfl rfl (Nat.le_of_ble_eq_true rfl) rfl rfl (by decide) (by decide) rfl ?_
  obtain ⟨Ht1, Hf1⟩ := oi H
  refine g_icmp_ne hF (dAt tX12_is_ok 7 rfl rfl) rfl (fun c1 => ?_) (fun c1 => ?_)
  · have H := Hf1 c1
    refine g_p (L' := [some (.ref a), some (.ref (kK K w1)), some (.int 0), some (.int 0)]) (S' := []) hF tX12_is_ok 10 4 rfl rfl rfl rfl ?_
    exact X12_is_b24_ok hD hF hS hw1 hE FU _ _ _ hw1 H
  · have H := Ht1 c1
    refine g_p (S' := [.int 1]) hF tX12_is_ok 8 1 rfl rfl rfl rfl ?_
    refine g_goto hF (dAt tX12_is_ok 9 rfl rfl) rfl ?_
    refine g_p (L' := [some (.ref a), some (.ref (kK K w1)), some (.int 1), some (.int 0)]) (S' := []) hF tX12_is_ok 11 3 rfl rfl rfl rfl ?_
    exact X12_is_b24_ok hD hF hS hw1 hE FU _ _ _ hw1 H
def X12_lawWord_f (a : Nat) (σ : Sig) : Option (Int32) := (X12_is_f a 9 σ).bind fun v1 => if v1 = 0 then ((X12_is_f a 10 σ).bind fun v4 => if v4 = 0 then ((X12_is_f a 11 σ).bind fun v7 => if v7 = 0 then ((X12_is_f a 12 σ).bind fun v10 => if v10 = 0 then (some 1) else (some 46)) else (some 42)) else (some 41)) else (some 20)
set_option maxRecDepth 4000 in
set_option maxHeartbeats 1000000 in
theorem X12_lawWord_ok {D : Nat} {τ : Tau} {nx : Nat} {a : Nat} {σ : Sig} {res : Int32} (hD : 6 ≤ D) (hS : ShX12 τ a) (H : X12_lawWord_f a σ = some res) : Ok D 0 0 yX12_lawWord cX12_lawWord 1 (some .int) [.ref a] (τ, σ, nx) (some (.int res)) (τ, σ, nx) := by
  refine ok_of (by decide +kernel) rfl (Nat.le_of_ble_eq_true rfl) (fun K X hF hE hN L0 hL0 => ?_)
  obtain rfl : [some (.ref a)] = L0 := hL0
  have hF : Fx K X cX12_lawWord 1 RX12 D 0 0 := hF
  refine g_p (S' := [.ref a]) hF tX12_lawWord_ok 0 1 rfl rfl rfl rfl ?_
  refine g_ldcS (i := 9) hF (dAt tX12_lawWord_ok 1 rfl rfl) rfl ?_
  obtain ⟨v1, e2, H⟩ := ob H
  refine g_cV (S := []) hF (X12_is_ok (Nat.le_refl _) hS (by decide) e2) mbX12_is mvX12_is mlX12_104 (by omega) (by decide) (dAt tX12_lawWord_ok 2 rfl rfl) hS.1 rfl rfl rfl (Nat.le_of_ble_eq_true rfl) rfl rfl (by decide) (by decide) rfl ?_
  obtain ⟨Ht3, Hf3⟩ := oi H
  refine g_if_eq hF (dAt tX12_lawWord_ok 3 rfl rfl) rfl (fun c3 => ?_) (fun c3 => ?_)
  · have H := Ht3 c3
    refine g_p (S' := [.ref a]) hF tX12_lawWord_ok 6 1 rfl rfl rfl rfl ?_
    refine g_ldcS (i := 10) hF (dAt tX12_lawWord_ok 7 rfl rfl) rfl ?_
    obtain ⟨v4, e5, H⟩ := ob H
    refine g_cV (S := []) hF (X12_is_ok (Nat.le_refl _) hS (by decide) e5) mbX12_is mvX12_is mlX12_104 (by omega) (by decide) (dAt tX12_lawWord_ok 8 rfl rfl) hS.1 rfl rfl rfl (Nat.le_of_ble_eq_true rfl) rfl rfl (by decide) (by decide) rfl ?_
    obtain ⟨Ht6, Hf6⟩ := oi H
    refine g_if_eq hF (dAt tX12_lawWord_ok 9 rfl rfl) rfl (fun c6 => ?_) (fun c6 => ?_)
    · have H := Ht6 c6
      refine g_p (S' := [.ref a]) hF tX12_lawWord_ok 12 1 rfl rfl rfl rfl ?_
      refine g_ldcS (i := 11) hF (dAt tX12_lawWord_ok 13 rfl rfl) rfl ?_
      obtain ⟨v7, e8, H⟩ := ob H
      refine g_cV (S := []) hF (X12_is_ok (Nat.le_refl _) hS (by decide) e8) mbX12_is mvX12_is mlX12_104 (by omega) (by decide) (dAt tX12_lawWord_ok 14 rfl rfl) hS.1 rfl rfl rfl (Nat.le_of_ble_eq_true rfl) rfl rfl (by decide) (by decide) rfl ?_
      obtain ⟨Ht9, Hf9⟩ := oi H
      refine g_if_eq hF (dAt tX12_lawWord_ok 15 rfl rfl) rfl (fun c9 => ?_) (fun c9 => ?_)
      · have H := Ht9 c9
        refine g_p (S' := [.ref a]) hF tX12_lawWord_ok 18 1 rfl rfl rfl rfl ?_
        refine g_ldcS (i := 12) hF (dAt tX12_lawWord_ok 19 rfl rfl) rfl ?_
        obtain ⟨v10, e11, H⟩ := ob H
        refine g_cV (S := []) hF (X12_is_ok (Nat.le_refl _) hS (by decide) e11) mbX12_is mvX12_is mlX12_104 (by omega) (by decide) (dAt tX12_lawWord_ok 20 rfl rfl) hS.1 rfl rfl rfl (Nat.le_of_ble_eq_true rfl) rfl rfl (by decide) (by decide) rfl ?_
        obtain ⟨Ht12, Hf12⟩ := oi H
        refine g_if_eq hF (dAt tX12_lawWord_ok 21 rfl rfl) rfl (fun c12 => ?_) (fun c12 => ?_)
        · have H := Ht12 c12
          refine g_p (S' := [.int 1]) hF tX12_lawWord_ok 24 1 rfl rfl rfl rfl ?_
          exact g_iret hF (en_i H hE) (dAt tX12_lawWord_ok 25 rfl rfl) (by decide) (by decide)
        · have H := Hf12 c12
          refine g_p (S' := [.int 46]) hF tX12_lawWord_ok 22 1 rfl rfl rfl rfl ?_
          refine g_goto hF (dAt tX12_lawWord_ok 23 rfl rfl) rfl ?_
          exact g_iret hF (en_i H hE) (dAt tX12_lawWord_ok 25 rfl rfl) (by decide) (by decide)
      · have H := Hf9 c9
        refine g_p (S' := [.int 42]) hF tX12_lawWord_ok 16 1 rfl rfl rfl rfl ?_
        exact g_iret hF (en_i H hE) (dAt tX12_lawWord_ok 17 rfl rfl) (by decide) (by decide)
    · have H := Hf6 c6
      refine g_p (S' := [.int 41]) hF tX12_lawWord_ok 10 1 rfl rfl rfl rfl ?_
      exact g_iret hF (en_i H hE) (dAt tX12_lawWord_ok 11 rfl rfl) (by decide) (by decide)
  · have H := Hf3 c3
    refine g_p (S' := [.int 20]) hF tX12_lawWord_ok 4 1 rfl rfl rfl rfl ?_
    exact g_iret hF (en_i H hE) (dAt tX12_lawWord_ok 5 rfl rfl) (by decide) (by decide)
def X12_ruleWord_f (a : Nat) (σ : Sig) : Option (Int32) := (X12_is_f a 13 σ).bind fun v1 => if v1 = 0 then ((X12_is_f a 14 σ).bind fun v4 => if v4 = 0 then ((X12_is_f a 15 σ).bind fun v7 => if v7 = 0 then ((X12_is_f a 16 σ).bind fun v10 => if v10 = 0 then ((X12_is_f a 17 σ).bind fun v13 => if v13 = 0 then ((X12_is_f a 18 σ).bind fun v16 => if v16 = 0 then ((X12_is_f a 19 σ).bind fun v19 => if v19 = 0 then ((X12_is_f a 20 σ).bind fun v22 => if v22 = 0 then (some 1) else (some 51)) else (some 50)) else (some 49)) else (some 48)) else (some 47)) else (some 23)) else (some 22)) else (some 21)
set_option maxRecDepth 4000 in
set_option maxHeartbeats 1000000 in
theorem X12_ruleWord_ok {D : Nat} {τ : Tau} {nx : Nat} {a : Nat} {σ : Sig} {res : Int32} (hD : 6 ≤ D) (hS : ShX12 τ a) (H : X12_ruleWord_f a σ = some res) : Ok D 0 0 yX12_ruleWord cX12_ruleWord 1 (some .int) [.ref a] (τ, σ, nx) (some (.int res)) (τ, σ, nx) := by
  refine ok_of (by decide +kernel) rfl (Nat.le_of_ble_eq_true rfl) (fun K X hF hE hN L0 hL0 => ?_)
  obtain rfl : [some (.ref a)] = L0 := hL0
  have hF : Fx K X cX12_ruleWord 1 RX12 D 0 0 := hF
  refine g_p (S' := [.ref a]) hF tX12_ruleWord_ok 0 1 rfl rfl rfl rfl ?_
  refine g_ldcS (i := 13) hF (dAt tX12_ruleWord_ok 1 rfl rfl) rfl ?_
  obtain ⟨v1, e2, H⟩ := ob H
  refine g_cV (S := []) hF (X12_is_ok (Nat.le_refl _) hS (by decide) e2) mbX12_is mvX12_is mlX12_104 (by omega) (by decide) (dAt tX12_ruleWord_ok 2 rfl rfl) hS.1 rfl rfl rfl (Nat.le_of_ble_eq_true rfl) rfl rfl (by decide) (by decide) rfl ?_
  obtain ⟨Ht3, Hf3⟩ := oi H
  refine g_if_eq hF (dAt tX12_ruleWord_ok 3 rfl rfl) rfl (fun c3 => ?_) (fun c3 => ?_)
  · have H := Ht3 c3
    refine g_p (S' := [.ref a]) hF tX12_ruleWord_ok 6 1 rfl rfl rfl rfl ?_
    refine g_ldcS (i := 14) hF (dAt tX12_ruleWord_ok 7 rfl rfl) rfl ?_
    obtain ⟨v4, e5, H⟩ := ob H
    refine g_cV (S := []) hF (X12_is_ok (Nat.le_refl _) hS (by decide) e5) mbX12_is mvX12_is mlX12_104 (by omega) (by decide) (dAt tX12_ruleWord_ok 8 rfl rfl) hS.1 rfl rfl rfl (Nat.le_of_ble_eq_true rfl) rfl rfl (by decide) (by decide) rfl ?_
    obtain ⟨Ht6, Hf6⟩ := oi H
    refine g_if_eq hF (dAt tX12_ruleWord_ok 9 rfl rfl) rfl (fun c6 => ?_) (fun c6 => ?_)
    · have H := Ht6 c6
      refine g_p (S' := [.ref a]) hF tX12_ruleWord_ok 12 1 rfl rfl rfl rfl ?_
      refine g_ldcS (i := 15) hF (dAt tX12_ruleWord_ok 13 rfl rfl) rfl ?_
      obtain ⟨v7, e8, H⟩ := ob H
      refine g_cV (S := []) hF (X12_is_ok (Nat.le_refl _) hS (by decide) e8) mbX12_is mvX12_is mlX12_104 (by omega) (by decide) (dAt tX12_ruleWord_ok 14 rfl rfl) hS.1 rfl rfl rfl (Nat.le_of_ble_eq_true rfl) rfl rfl (by decide) (by decide) rfl ?_
      obtain ⟨Ht9, Hf9⟩ := oi H
      refine g_if_eq hF (dAt tX12_ruleWord_ok 15 rfl rfl) rfl (fun c9 => ?_) (fun c9 => ?_)
      · have H := Ht9 c9
        refine g_p (S' := [.ref a]) hF tX12_ruleWord_ok 18 1 rfl rfl rfl rfl ?_
        refine g_ldcS (i := 16) hF (dAt tX12_ruleWord_ok 19 rfl rfl) rfl ?_
        obtain ⟨v10, e11, H⟩ := ob H
        refine g_cV (S := []) hF (X12_is_ok (Nat.le_refl _) hS (by decide) e11) mbX12_is mvX12_is mlX12_104 (by omega) (by decide) (dAt tX12_ruleWord_ok 20 rfl rfl) hS.1 rfl rfl rfl (Nat.le_of_ble_eq_true rfl) rfl rfl (by decide) (by decide) rfl ?_
        obtain ⟨Ht12, Hf12⟩ := oi H
        refine g_if_eq hF (dAt tX12_ruleWord_ok 21 rfl rfl) rfl (fun c12 => ?_) (fun c12 => ?_)
        · have H := Ht12 c12
          refine g_p (S' := [.ref a]) hF tX12_ruleWord_ok 24 1 rfl rfl rfl rfl ?_
          refine g_ldcS (i := 17) hF (dAt tX12_ruleWord_ok 25 rfl rfl) rfl ?_
          obtain ⟨v13, e14, H⟩ := ob H
          refine g_cV (S := []) hF (X12_is_ok (Nat.le_refl _) hS (by decide) e14) mbX12_is mvX12_is mlX12_104 (by omega) (by decide) (dAt tX12_ruleWord_ok 26 rfl rfl) hS.1 rfl rfl rfl (Nat.le_of_ble_eq_true rfl) rfl rfl (by decide) (by decide) rfl ?_
          obtain ⟨Ht15, Hf15⟩ := oi H
          refine g_if_eq hF (dAt tX12_ruleWord_ok 27 rfl rfl) rfl (fun c15 => ?_) (fun c15 => ?_)
          · have H := Ht15 c15
            refine g_p (S' := [.ref a]) hF tX12_ruleWord_ok 30 1 rfl rfl rfl rfl ?_
            refine g_ldcS (i := 18) hF (dAt tX12_ruleWord_ok 31 rfl rfl) rfl ?_
            obtain ⟨v16, e17, H⟩ := ob H
            refine g_cV (S := []) hF (X12_is_ok (Nat.le_refl _) hS (by decide) e17) mbX12_is mvX12_is mlX12_104 (by omega) (by decide) (dAt tX12_ruleWord_ok 32 rfl rfl) hS.1 rfl rfl rfl (Nat.le_of_ble_eq_true rfl) rfl rfl (by decide) (by decide) rfl ?_
            obtain ⟨Ht18, Hf18⟩ := oi H
            refine g_if_eq hF (dAt tX12_ruleWord_ok 33 rfl rfl) rfl (fun c18 => ?_) (fun c18 => ?_)
            · have H := Ht18 c18
              refine g_p (S' := [.ref a]) hF tX12_ruleWord_ok 36 1 rfl rfl rfl rfl ?_
              refine g_ldcS (i := 19) hF (dAt tX12_ruleWord_ok 37 rfl rfl) rfl ?_
              obtain ⟨v19, e20, H⟩ := ob H
              refine g_cV (S := []) hF (X12_is_ok (Nat.le_refl _) hS (by decide) e20) mbX12_is mvX12_is mlX12_104 (by omega) (by decide) (dAt tX12_ruleWord_ok 38 rfl rfl) hS.1 rfl rfl rfl (Nat.le_of_ble_eq_true rfl) rfl rfl (by decide) (by decide) rfl ?_
              obtain ⟨Ht21, Hf21⟩ := oi H
              refine g_if_eq hF (dAt tX12_ruleWord_ok 39 rfl rfl) rfl (fun c21 => ?_) (fun c21 => ?_)
              · have H := Ht21 c21
                refine g_p (S' := [.ref a]) hF tX12_ruleWord_ok 42 1 rfl rfl rfl rfl ?_
                refine g_ldcS (i := 20) hF (dAt tX12_ruleWord_ok 43 rfl rfl) rfl ?_
                obtain ⟨v22, e23, H⟩ := ob H
                refine g_cV (S := []) hF (X12_is_ok (Nat.le_refl _) hS (by decide) e23) mbX12_is mvX12_is mlX12_104 (by omega) (by decide) (dAt tX12_ruleWord_ok 44 rfl rfl) hS.1 rfl rfl rfl (Nat.le_of_ble_eq_true rfl) rfl rfl (by decide) (by decide) rfl ?_
                obtain ⟨Ht24, Hf24⟩ := oi H
                refine g_if_eq hF (dAt tX12_ruleWord_ok 45 rfl rfl) rfl (fun c24 => ?_) (fun c24 => ?_)
                · have H := Ht24 c24
                  refine g_p (S' := [.int 1]) hF tX12_ruleWord_ok 48 1 rfl rfl rfl rfl ?_
                  exact g_iret hF (en_i H hE) (dAt tX12_ruleWord_ok 49 rfl rfl) (by decide) (by decide)
                · have H := Hf24 c24
                  refine g_p (S' := [.int 51]) hF tX12_ruleWord_ok 46 1 rfl rfl rfl rfl ?_
                  refine g_goto hF (dAt tX12_ruleWord_ok 47 rfl rfl) rfl ?_
                  exact g_iret hF (en_i H hE) (dAt tX12_ruleWord_ok 49 rfl rfl) (by decide) (by decide)
              · have H := Hf21 c21
                refine g_p (S' := [.int 50]) hF tX12_ruleWord_ok 40 1 rfl rfl rfl rfl ?_
                exact g_iret hF (en_i H hE) (dAt tX12_ruleWord_ok 41 rfl rfl) (by decide) (by decide)
            · have H := Hf18 c18
              refine g_p (S' := [.int 49]) hF tX12_ruleWord_ok 34 1 rfl rfl rfl rfl ?_
              exact g_iret hF (en_i H hE) (dAt tX12_ruleWord_ok 35 rfl rfl) (by decide) (by decide)
          · have H := Hf15 c15
            refine g_p (S' := [.int 48]) hF tX12_ruleWord_ok 28 1 rfl rfl rfl rfl ?_
            exact g_iret hF (en_i H hE) (dAt tX12_ruleWord_ok 29 rfl rfl) (by decide) (by decide)
        · have H := Hf12 c12
          refine g_p (S' := [.int 47]) hF tX12_ruleWord_ok 22 1 rfl rfl rfl rfl ?_
          exact g_iret hF (en_i H hE) (dAt tX12_ruleWord_ok 23 rfl rfl) (by decide) (by decide)
      · have H := Hf9 c9
        refine g_p (S' := [.int 23]) hF tX12_ruleWord_ok 16 1 rfl rfl rfl rfl ?_
        exact g_iret hF (en_i H hE) (dAt tX12_ruleWord_ok 17 rfl rfl) (by decide) (by decide)
    · have H := Hf6 c6
      refine g_p (S' := [.int 22]) hF tX12_ruleWord_ok 10 1 rfl rfl rfl rfl ?_
      exact g_iret hF (en_i H hE) (dAt tX12_ruleWord_ok 11 rfl rfl) (by decide) (by decide)
  · have H := Hf3 c3
    refine g_p (S' := [.int 21]) hF tX12_ruleWord_ok 4 1 rfl rfl rfl rfl ?_
    exact g_iret hF (en_i H hE) (dAt tX12_ruleWord_ok 5 rfl rfl) (by decide) (by decide)
def X12_word0_f (a : Nat) (σ : Sig) : Option (Int32) := (X12_is_f a 2 σ).bind fun v1 => if v1 = 0 then ((X12_is_f a 3 σ).bind fun v4 => if v4 = 0 then ((X12_is_f a 4 σ).bind fun v7 => if v7 = 0 then ((X12_is_f a 5 σ).bind fun v10 => if v10 = 0 then ((X12_is_f a 6 σ).bind fun v13 => if v13 = 0 then ((X12_is_f a 7 σ).bind fun v16 => if v16 = 0 then ((X12_is_f a 8 σ).bind fun v19 => if v19 = 0 then (if 2 ≤ (σ a 9) then ((X12_ruleWord_f a σ).bind fun v23 => some v23) else ((X12_lawWord_f a σ).bind fun v25 => some v25)) else (some 45)) else (some 44)) else (some 43)) else (some 6)) else (some 5)) else (some 4)) else (some 3)
set_option maxRecDepth 4000 in
set_option maxHeartbeats 1000000 in
theorem X12_word0_ok {D : Nat} {τ : Tau} {nx : Nat} {a : Nat} {σ : Sig} {res : Int32} (hD : 7 ≤ D) (hS : ShX12 τ a) (H : X12_word0_f a σ = some res) : Ok D 0 0 yX12_word0 cX12_word0 1 (some .int) [.ref a] (τ, σ, nx) (some (.int res)) (τ, σ, nx) := by
  refine ok_of (by decide +kernel) rfl (Nat.le_of_ble_eq_true rfl) (fun K X hF hE hN L0 hL0 => ?_)
  obtain rfl : [some (.ref a)] = L0 := hL0
  have hF : Fx K X cX12_word0 1 RX12 D 0 0 := hF
  refine g_p (S' := [.ref a]) hF tX12_word0_ok 0 1 rfl rfl rfl rfl ?_
  refine g_ldcS (i := 2) hF (dAt tX12_word0_ok 1 rfl rfl) rfl ?_
  obtain ⟨v1, e2, H⟩ := ob H
  refine g_cV (S := []) hF (X12_is_ok (Nat.le_refl _) hS (by decide) e2) mbX12_is mvX12_is mlX12_104 (by omega) (by decide) (dAt tX12_word0_ok 2 rfl rfl) hS.1 rfl rfl rfl (Nat.le_of_ble_eq_true rfl) rfl rfl (by decide) (by decide) rfl ?_
  obtain ⟨Ht3, Hf3⟩ := oi H
  refine g_if_eq hF (dAt tX12_word0_ok 3 rfl rfl) rfl (fun c3 => ?_) (fun c3 => ?_)
  · have H := Ht3 c3
    refine g_p (S' := [.ref a]) hF tX12_word0_ok 6 1 rfl rfl rfl rfl ?_
    refine g_ldcS (i := 3) hF (dAt tX12_word0_ok 7 rfl rfl) rfl ?_
    obtain ⟨v4, e5, H⟩ := ob H
    refine g_cV (S := []) hF (X12_is_ok (Nat.le_refl _) hS (by decide) e5) mbX12_is mvX12_is mlX12_104 (by omega) (by decide) (dAt tX12_word0_ok 8 rfl rfl) hS.1 rfl rfl rfl (Nat.le_of_ble_eq_true rfl) rfl rfl (by decide) (by decide) rfl ?_
    obtain ⟨Ht6, Hf6⟩ := oi H
    refine g_if_eq hF (dAt tX12_word0_ok 9 rfl rfl) rfl (fun c6 => ?_) (fun c6 => ?_)
    · have H := Ht6 c6
      refine g_p (S' := [.ref a]) hF tX12_word0_ok 12 1 rfl rfl rfl rfl ?_
      refine g_ldcS (i := 4) hF (dAt tX12_word0_ok 13 rfl rfl) rfl ?_
      obtain ⟨v7, e8, H⟩ := ob H
      refine g_cV (S := []) hF (X12_is_ok (Nat.le_refl _) hS (by decide) e8) mbX12_is mvX12_is mlX12_104 (by omega) (by decide) (dAt tX12_word0_ok 14 rfl rfl) hS.1 rfl rfl rfl (Nat.le_of_ble_eq_true rfl) rfl rfl (by decide) (by decide) rfl ?_
      obtain ⟨Ht9, Hf9⟩ := oi H
      refine g_if_eq hF (dAt tX12_word0_ok 15 rfl rfl) rfl (fun c9 => ?_) (fun c9 => ?_)
      · have H := Ht9 c9
        refine g_p (S' := [.ref a]) hF tX12_word0_ok 18 1 rfl rfl rfl rfl ?_
        refine g_ldcS (i := 5) hF (dAt tX12_word0_ok 19 rfl rfl) rfl ?_
        obtain ⟨v10, e11, H⟩ := ob H
        refine g_cV (S := []) hF (X12_is_ok (Nat.le_refl _) hS (by decide) e11) mbX12_is mvX12_is mlX12_104 (by omega) (by decide) (dAt tX12_word0_ok 20 rfl rfl) hS.1 rfl rfl rfl (Nat.le_of_ble_eq_true rfl) rfl rfl (by decide) (by decide) rfl ?_
        obtain ⟨Ht12, Hf12⟩ := oi H
        refine g_if_eq hF (dAt tX12_word0_ok 21 rfl rfl) rfl (fun c12 => ?_) (fun c12 => ?_)
        · have H := Ht12 c12
          refine g_p (S' := [.ref a]) hF tX12_word0_ok 24 1 rfl rfl rfl rfl ?_
          refine g_ldcS (i := 6) hF (dAt tX12_word0_ok 25 rfl rfl) rfl ?_
          obtain ⟨v13, e14, H⟩ := ob H
          refine g_cV (S := []) hF (X12_is_ok (Nat.le_refl _) hS (by decide) e14) mbX12_is mvX12_is mlX12_104 (by omega) (by decide) (dAt tX12_word0_ok 26 rfl rfl) hS.1 rfl rfl rfl (Nat.le_of_ble_eq_true rfl) rfl rfl (by decide) (by decide) rfl ?_
          obtain ⟨Ht15, Hf15⟩ := oi H
          refine g_if_eq hF (dAt tX12_word0_ok 27 rfl rfl) rfl (fun c15 => ?_) (fun c15 => ?_)
          · have H := Ht15 c15
            refine g_p (S' := [.ref a]) hF tX12_word0_ok 30 1 rfl rfl rfl rfl ?_
            refine g_ldcS (i := 7) hF (dAt tX12_word0_ok 31 rfl rfl) rfl ?_
            obtain ⟨v16, e17, H⟩ := ob H
            refine g_cV (S := []) hF (X12_is_ok (Nat.le_refl _) hS (by decide) e17) mbX12_is mvX12_is mlX12_104 (by omega) (by decide) (dAt tX12_word0_ok 32 rfl rfl) hS.1 rfl rfl rfl (Nat.le_of_ble_eq_true rfl) rfl rfl (by decide) (by decide) rfl ?_
            obtain ⟨Ht18, Hf18⟩ := oi H
            refine g_if_eq hF (dAt tX12_word0_ok 33 rfl rfl) rfl (fun c18 => ?_) (fun c18 => ?_)
            · have H := Ht18 c18
              refine g_p (S' := [.ref a]) hF tX12_word0_ok 36 1 rfl rfl rfl rfl ?_
              refine g_ldcS (i := 8) hF (dAt tX12_word0_ok 37 rfl rfl) rfl ?_
              obtain ⟨v19, e20, H⟩ := ob H
              refine g_cV (S := []) hF (X12_is_ok (Nat.le_refl _) hS (by decide) e20) mbX12_is mvX12_is mlX12_104 (by omega) (by decide) (dAt tX12_word0_ok 38 rfl rfl) hS.1 rfl rfl rfl (Nat.le_of_ble_eq_true rfl) rfl rfl (by decide) (by decide) rfl ?_
              obtain ⟨Ht21, Hf21⟩ := oi H
              refine g_if_eq hF (dAt tX12_word0_ok 39 rfl rfl) rfl (fun c21 => ?_) (fun c21 => ?_)
              · have H := Ht21 c21
                refine g_p (S' := [.ref a]) hF tX12_word0_ok 42 1 rfl rfl rfl rfl ?_
                refine g_getI hF (dAt tX12_word0_ok 43 rfl rfl) flX12_144 hS.1 rfl ?_
                refine g_p (S' := [.int 2, .int (σ a 9)]) hF tX12_word0_ok 44 1 rfl rfl rfl rfl ?_
                obtain ⟨Ht22, Hf22⟩ := oi H
                refine g_icmp_ge hF (dAt tX12_word0_ok 45 rfl rfl) rfl (fun c22 => ?_) (fun c22 => ?_)
                · have H := Ht22 c22
                  refine g_p (S' := [.ref a]) hF tX12_word0_ok 49 1 rfl rfl rfl rfl ?_
                  obtain ⟨v23, e24, H⟩ := ob H
                  refine g_cV (S := []) hF (X12_ruleWord_ok (Nat.le_refl _) hS e24 K) mbX12_ruleWord mvX12_ruleWord mlX12_150 (by omega) (by decide) (dAt tX12_word0_ok 50 rfl rfl) hS.1 rfl rfl rfl (Nat.le_of_ble_eq_true rfl) rfl rfl (by decide) (by decide) rfl ?_
                  exact g_iret hF (en_i H hE) (dAt tX12_word0_ok 51 rfl rfl) (by decide) (by decide)
                · have H := Hf22 c22
                  refine g_p (S' := [.ref a]) hF tX12_word0_ok 46 1 rfl rfl rfl rfl ?_
                  obtain ⟨v25, e26, H⟩ := ob H
                  refine g_cV (S := []) hF (X12_lawWord_ok (Nat.le_refl _) hS e26 K) mbX12_lawWord mvX12_lawWord mlX12_147 (by omega) (by decide) (dAt tX12_word0_ok 47 rfl rfl) hS.1 rfl rfl rfl (Nat.le_of_ble_eq_true rfl) rfl rfl (by decide) (by decide) rfl ?_
                  refine g_goto hF (dAt tX12_word0_ok 48 rfl rfl) rfl ?_
                  exact g_iret hF (en_i H hE) (dAt tX12_word0_ok 51 rfl rfl) (by decide) (by decide)
              · have H := Hf21 c21
                refine g_p (S' := [.int 45]) hF tX12_word0_ok 40 1 rfl rfl rfl rfl ?_
                exact g_iret hF (en_i H hE) (dAt tX12_word0_ok 41 rfl rfl) (by decide) (by decide)
            · have H := Hf18 c18
              refine g_p (S' := [.int 44]) hF tX12_word0_ok 34 1 rfl rfl rfl rfl ?_
              exact g_iret hF (en_i H hE) (dAt tX12_word0_ok 35 rfl rfl) (by decide) (by decide)
          · have H := Hf15 c15
            refine g_p (S' := [.int 43]) hF tX12_word0_ok 28 1 rfl rfl rfl rfl ?_
            exact g_iret hF (en_i H hE) (dAt tX12_word0_ok 29 rfl rfl) (by decide) (by decide)
        · have H := Hf12 c12
          refine g_p (S' := [.int 6]) hF tX12_word0_ok 22 1 rfl rfl rfl rfl ?_
          exact g_iret hF (en_i H hE) (dAt tX12_word0_ok 23 rfl rfl) (by decide) (by decide)
      · have H := Hf9 c9
        refine g_p (S' := [.int 5]) hF tX12_word0_ok 16 1 rfl rfl rfl rfl ?_
        exact g_iret hF (en_i H hE) (dAt tX12_word0_ok 17 rfl rfl) (by decide) (by decide)
    · have H := Hf6 c6
      refine g_p (S' := [.int 4]) hF tX12_word0_ok 10 1 rfl rfl rfl rfl ?_
      exact g_iret hF (en_i H hE) (dAt tX12_word0_ok 11 rfl rfl) (by decide) (by decide)
  · have H := Hf3 c3
    refine g_p (S' := [.int 3]) hF tX12_word0_ok 4 1 rfl rfl rfl rfl ?_
    exact g_iret hF (en_i H hE) (dAt tX12_word0_ok 5 rfl rfl) (by decide) (by decide)
def X12_next0_b303 (a : Nat) (y0 : Int32) (σ : Sig) : Option (Sig) := (pI σ a 14 y0).bind fun s1 => some s1
set_option maxRecDepth 4000 in
set_option maxHeartbeats 1000000 in
theorem X12_next0_b303_ok {K : Kt} {X : Cx} {D : Nat} {τ : Tau} {nx : Nat} {a : Nat} {res : Sig}  (hD : 8 ≤ D) (hF : Fx K X cX12_next0 3 RX12 D 0 0) (hS : ShX12 τ a) (hE : En K X none 0 0 none (τ, res, nx)) {y0 : Int32} {σ : Sig} (H : X12_next0_b303 a y0 σ = some res) : G K X 3 0 0 303 [none, none, none] [.int y0, .ref a] (τ, σ, nx) := by
  obtain ⟨s1, e2, H⟩ := ob H
  refine g_pI hF (dAt tX12_next0_ok 156 rfl rfl) flX12_156 (Or.inl rfl) hS.1 rfl e2 ?_
  exact g_vret hF (en_v H hE) (dAt tX12_next0_ok 157 rfl rfl) (by decide) (by decide)
def X12_next0_b289 (a : Nat) (x1 y0 : Int32) (σ : Sig) : Option (Sig) := if y0 = 0 then (X12_next0_b303 a 1 σ) else (X12_next0_b303 a (100 + x1) σ)
set_option maxRecDepth 4000 in
set_option maxHeartbeats 1000000 in
theorem X12_next0_b289_ok {K : Kt} {X : Cx} {D : Nat} {τ : Tau} {nx : Nat} {a : Nat} {res : Sig}  (hD : 8 ≤ D) (hF : Fx K X cX12_next0 3 RX12 D 0 0) (hS : ShX12 τ a) (hE : En K X none 0 0 none (τ, res, nx)) {x1 y0 : Int32} {σ : Sig} (H : X12_next0_b289 a x1 y0 σ = some res) : G K X 3 0 0 289 [some (.ref a), some (.int x1), none] [.int y0] (τ, σ, nx) := by
  refine g_p (L' := [some (.ref a), some (.int x1), some (.int y0)]) (S' := [.int y0, .ref a]) hF tX12_next0_ok 147 3 rfl rfl rfl rfl ?_
  obtain ⟨Ht1, Hf1⟩ := oi H
  refine g_if_eq hF (dAt tX12_next0_ok 150 rfl rfl) rfl (fun c1 => ?_) (fun c1 => ?_)
  · have H := Ht1 c1
    refine g_p (S' := [.int 1, .ref a]) hF tX12_next0_ok 155 1 rfl rfl rfl rfl ?_
    refine g_m [false, false, false] rfl ?_
    exact X12_next0_b303_ok hD hF hS hE H
  · have H := Hf1 c1
    refine g_p (S' := [.int (100 + x1), .ref a]) hF tX12_next0_ok 151 3 rfl rfl rfl rfl ?_
    refine g_goto hF (dAt tX12_next0_ok 154 rfl rfl) rfl ?_
    refine g_m [false, false, false] rfl ?_
    exact X12_next0_b303_ok hD hF hS hE H
def X12_next0_b208 (a : Nat) (y0 : Int32) (σ : Sig) : Option (Sig) := (pI σ a 14 y0).bind fun s1 => some s1
set_option maxRecDepth 4000 in
set_option maxHeartbeats 1000000 in
theorem X12_next0_b208_ok {K : Kt} {X : Cx} {D : Nat} {τ : Tau} {nx : Nat} {a : Nat} {res : Sig}  (hD : 8 ≤ D) (hF : Fx K X cX12_next0 3 RX12 D 0 0) (hS : ShX12 τ a) (hE : En K X none 0 0 none (τ, res, nx)) {y0 : Int32} {σ : Sig} (H : X12_next0_b208 a y0 σ = some res) : G K X 3 0 0 208 [none, none, none] [.int y0, .ref a] (τ, σ, nx) := by
  obtain ⟨s1, e2, H⟩ := ob H
  refine g_pI hF (dAt tX12_next0_ok 106 rfl rfl) flX12_156 (Or.inl rfl) hS.1 rfl e2 ?_
  refine g_goto hF (dAt tX12_next0_ok 107 rfl rfl) rfl ?_
  exact g_vret hF (en_v H hE) (dAt tX12_next0_ok 157 rfl rfl) (by decide) (by decide)
def X12_next0_b176 (a : Nat) (k126 : Sig → Option (Sig)) (σ : Sig) : Option (Sig) := (pI σ a 13 ((σ a 13) + 1)).bind fun s1 => k126 s1
set_option maxRecDepth 4000 in
set_option maxHeartbeats 1000000 in
theorem X12_next0_b176_ok {K : Kt} {X : Cx} {D : Nat} {τ : Tau} {nx : Nat} {a : Nat} {res : Sig}  (hD : 8 ≤ D) (hF : Fx K X cX12_next0 3 RX12 D 0 0) (hS : ShX12 τ a) (hE : En K X none 0 0 none (τ, res, nx)) {k126 : Sig → Option (Sig)} (hk126 : ∀ (σ : Sig), k126 σ = some res → G K X 3 0 0 126 [some (.ref a), none, none] [] (τ, σ, nx)) {σ : Sig} (H : X12_next0_b176 a k126 σ = some res) : G K X 3 0 0 176 [some (.ref a), none, none] [] (τ, σ, nx) := by
  refine g_p (S' := [.ref a, .ref a]) hF tX12_next0_ok 88 2 rfl rfl rfl rfl ?_
  refine g_getI hF (dAt tX12_next0_ok 90 rfl rfl) flX12_86 hS.1 rfl ?_
  refine g_p (S' := [.int ((σ a 13) + 1), .ref a]) hF tX12_next0_ok 91 2 rfl rfl rfl rfl ?_
  obtain ⟨s1, e2, H⟩ := ob H
  refine g_pI hF (dAt tX12_next0_ok 93 rfl rfl) flX12_86 (Or.inl rfl) hS.1 rfl e2 ?_
  refine g_goto hF (dAt tX12_next0_ok 94 rfl rfl) rfl ?_
  exact hk126 _ H
def X12_next0_b126 (a : Nat) : Nat → Sig → Option (Sig)
  | 0, _ => none
  | fu + 1, σ => (X12_see_f a (σ a 13) σ).bind fun v1 => (X12_isDigit_f v1 σ).bind fun v3 => if v3 = 0 then (if 5 ≤ ((σ a 13) - (σ a 15)) then (X12_next0_b208 a 1 σ) else (X12_next0_b208 a 2 σ)) else (if ((σ a 15) + 4) ≤ (σ a 13) then (X12_next0_b176 a (X12_next0_b126 a fu) σ) else ((X12_see_f a (σ a 13) σ).bind fun v8 => (pI σ a 16 (((10 * (σ a 16)) + v8) - 48)).bind fun s10 => X12_next0_b176 a (X12_next0_b126 a fu) s10))
set_option maxRecDepth 4000 in
set_option maxHeartbeats 1000000 in
theorem X12_next0_b126_ok {K : Kt} {X : Cx} {D : Nat} {τ : Tau} {nx : Nat} {a : Nat} {res : Sig}  (hD : 8 ≤ D) (hF : Fx K X cX12_next0 3 RX12 D 0 0) (hS : ShX12 τ a) (hE : En K X none 0 0 none (τ, res, nx)) : ∀ (fu : Nat) (σ : Sig), X12_next0_b126 a fu σ = some res → G K X 3 0 0 126 [some (.ref a), none, none] [] (τ, σ, nx)
  | 0, _, H => nomatch H
  | fu + 1, σ, H => by
    refine g_p (S' := [.ref a, .ref a]) hF tX12_next0_ok 62 2 rfl rfl rfl rfl ?_
    refine g_getI hF (dAt tX12_next0_ok 64 rfl rfl) flX12_86 hS.1 rfl ?_
    obtain ⟨v1, e2, H⟩ := ob H
    refine g_cV (S := []) hF (X12_see_ok (Nat.le_refl _) hS e2 K) mbX12_see mvX12_see mlX12_153 (by omega) (by decide) (dAt tX12_next0_ok 65 rfl rfl) hS.1 rfl rfl rfl (Nat.le_of_ble_eq_true rfl) rfl rfl (by decide) (by decide) rfl ?_
    obtain ⟨v3, e4, H⟩ := ob H
    refine g_cS (S := []) hF (X12_isDigit_ok (Nat.le_refl _)  e4 K) mbX12_isDigit msX12_isDigit mlX12_165 (by omega) (by decide) (dAt tX12_next0_ok 66 rfl rfl) rfl rfl (Nat.le_of_ble_eq_true rfl) rfl rfl (by decide) (by decide) rfl ?_
    obtain ⟨Ht5, Hf5⟩ := oi H
    refine g_if_eq hF (dAt tX12_next0_ok 67 rfl rfl) rfl (fun c5 => ?_) (fun c5 => ?_)
    · have H := Ht5 c5
      refine g_p (S' := [.ref a, .ref a]) hF tX12_next0_ok 95 2 rfl rfl rfl rfl ?_
      refine g_getI hF (dAt tX12_next0_ok 97 rfl rfl) flX12_86 hS.1 rfl ?_
      refine g_p (S' := [.ref a, .int (σ a 13), .ref a]) hF tX12_next0_ok 98 1 rfl rfl rfl rfl ?_
      refine g_getI hF (dAt tX12_next0_ok 99 rfl rfl) flX12_89 hS.1 rfl ?_
      refine g_p (S' := [.int 5, .int ((σ a 13) - (σ a 15)), .ref a]) hF tX12_next0_ok 100 2 rfl rfl rfl rfl ?_
      obtain ⟨Ht6, Hf6⟩ := oi H
      refine g_icmp_ge hF (dAt tX12_next0_ok 102 rfl rfl) rfl (fun c6 => ?_) (fun c6 => ?_)
      · have H := Ht6 c6
        refine g_p (S' := [.int 1, .ref a]) hF tX12_next0_ok 105 1 rfl rfl rfl rfl ?_
        refine g_m [false, false, false] rfl ?_
        exact X12_next0_b208_ok hD hF hS hE H
      · have H := Hf6 c6
        refine g_p (S' := [.int 2, .ref a]) hF tX12_next0_ok 103 1 rfl rfl rfl rfl ?_
        refine g_goto hF (dAt tX12_next0_ok 104 rfl rfl) rfl ?_
        refine g_m [false, false, false] rfl ?_
        exact X12_next0_b208_ok hD hF hS hE H
    · have H := Hf5 c5
      refine g_p (S' := [.ref a]) hF tX12_next0_ok 68 1 rfl rfl rfl rfl ?_
      refine g_getI hF (dAt tX12_next0_ok 69 rfl rfl) flX12_86 hS.1 rfl ?_
      refine g_p (S' := [.ref a, .int (σ a 13)]) hF tX12_next0_ok 70 1 rfl rfl rfl rfl ?_
      refine g_getI hF (dAt tX12_next0_ok 71 rfl rfl) flX12_89 hS.1 rfl ?_
      refine g_p (S' := [.int ((σ a 15) + 4), .int (σ a 13)]) hF tX12_next0_ok 72 2 rfl rfl rfl rfl ?_
      obtain ⟨Ht7, Hf7⟩ := oi H
      refine g_icmp_ge hF (dAt tX12_next0_ok 74 rfl rfl) rfl (fun c7 => ?_) (fun c7 => ?_)
      · have H := Ht7 c7
        exact X12_next0_b176_ok hD hF hS hE (fun _ H => X12_next0_b126_ok hD hF hS hE fu _ H) H
      · have H := Hf7 c7
        refine g_p (S' := [.ref a, .int 10, .ref a]) hF tX12_next0_ok 75 3 rfl rfl rfl rfl ?_
        refine g_getI hF (dAt tX12_next0_ok 78 rfl rfl) flX12_168 hS.1 rfl ?_
        refine g_p (S' := [.ref a, .ref a, .int (10 * (σ a 16)), .ref a]) hF tX12_next0_ok 79 3 rfl rfl rfl rfl ?_
        refine g_getI hF (dAt tX12_next0_ok 82 rfl rfl) flX12_86 hS.1 rfl ?_
        obtain ⟨v8, e9, H⟩ := ob H
        refine g_cV (S := [.int (10 * (σ a 16)), .ref a]) hF (X12_see_ok (Nat.le_refl _) hS e9 K) mbX12_see mvX12_see mlX12_153 (by omega) (by decide) (dAt tX12_next0_ok 83 rfl rfl) hS.1 rfl rfl rfl (Nat.le_of_ble_eq_true rfl) rfl rfl (by decide) (by decide) rfl ?_
        refine g_p (S' := [.int (((10 * (σ a 16)) + v8) - 48), .ref a]) hF tX12_next0_ok 84 3 rfl rfl rfl rfl ?_
        obtain ⟨s10, e11, H⟩ := ob H
        refine g_pI hF (dAt tX12_next0_ok 87 rfl rfl) flX12_168 (Or.inl rfl) hS.1 rfl e11 ?_
        exact X12_next0_b176_ok hD hF hS hE (fun _ H => X12_next0_b126_ok hD hF hS hE fu _ H) H
def X12_next0_b76 (a : Nat) : Nat → Sig → Option (Sig)
  | 0, _ => none
  | fu + 1, σ => (X12_see_f a (σ a 13) σ).bind fun v1 => (X12_isLetter_f v1 σ).bind fun v3 => if v3 = 0 then ((X12_word0_f a σ).bind fun v6 => (pI σ a 14 v6).bind fun s8 => some s8) else ((pI σ a 13 ((σ a 13) + 1)).bind fun s10 => X12_next0_b76 a fu s10)
set_option maxRecDepth 4000 in
set_option maxHeartbeats 1000000 in
theorem X12_next0_b76_ok {K : Kt} {X : Cx} {D : Nat} {τ : Tau} {nx : Nat} {a : Nat} {res : Sig}  (hD : 8 ≤ D) (hF : Fx K X cX12_next0 3 RX12 D 0 0) (hS : ShX12 τ a) (hE : En K X none 0 0 none (τ, res, nx)) : ∀ (fu : Nat) (σ : Sig), X12_next0_b76 a fu σ = some res → G K X 3 0 0 76 [some (.ref a), none, none] [] (τ, σ, nx)
  | 0, _, H => nomatch H
  | fu + 1, σ, H => by
    refine g_p (S' := [.ref a, .ref a]) hF tX12_next0_ok 38 2 rfl rfl rfl rfl ?_
    refine g_getI hF (dAt tX12_next0_ok 40 rfl rfl) flX12_86 hS.1 rfl ?_
    obtain ⟨v1, e2, H⟩ := ob H
    refine g_cV (S := []) hF (X12_see_ok (Nat.le_refl _) hS e2 K) mbX12_see mvX12_see mlX12_153 (by omega) (by decide) (dAt tX12_next0_ok 41 rfl rfl) hS.1 rfl rfl rfl (Nat.le_of_ble_eq_true rfl) rfl rfl (by decide) (by decide) rfl ?_
    obtain ⟨v3, e4, H⟩ := ob H
    refine g_cS (S := []) hF (X12_isLetter_ok (Nat.le_refl _)  e4 K) mbX12_isLetter msX12_isLetter mlX12_159 (by omega) (by decide) (dAt tX12_next0_ok 42 rfl rfl) rfl rfl (Nat.le_of_ble_eq_true rfl) rfl rfl (by decide) (by decide) rfl ?_
    obtain ⟨Ht5, Hf5⟩ := oi H
    refine g_if_eq hF (dAt tX12_next0_ok 43 rfl rfl) rfl (fun c5 => ?_) (fun c5 => ?_)
    · have H := Ht5 c5
      refine g_p (S' := [.ref a, .ref a]) hF tX12_next0_ok 51 2 rfl rfl rfl rfl ?_
      obtain ⟨v6, e7, H⟩ := ob H
      refine g_cV (S := [.ref a]) hF (X12_word0_ok (Nat.le_refl _) hS e7 K) mbX12_word0 mvX12_word0 mlX12_162 (by omega) (by decide) (dAt tX12_next0_ok 53 rfl rfl) hS.1 rfl rfl rfl (Nat.le_of_ble_eq_true rfl) rfl rfl (by decide) (by decide) rfl ?_
      obtain ⟨s8, e9, H⟩ := ob H
      refine g_pI hF (dAt tX12_next0_ok 54 rfl rfl) flX12_156 (Or.inl rfl) hS.1 rfl e9 ?_
      refine g_goto hF (dAt tX12_next0_ok 55 rfl rfl) rfl ?_
      exact g_vret hF (en_v H hE) (dAt tX12_next0_ok 157 rfl rfl) (by decide) (by decide)
    · have H := Hf5 c5
      refine g_p (S' := [.ref a, .ref a]) hF tX12_next0_ok 44 2 rfl rfl rfl rfl ?_
      refine g_getI hF (dAt tX12_next0_ok 46 rfl rfl) flX12_86 hS.1 rfl ?_
      refine g_p (S' := [.int ((σ a 13) + 1), .ref a]) hF tX12_next0_ok 47 2 rfl rfl rfl rfl ?_
      obtain ⟨s10, e11, H⟩ := ob H
      refine g_pI hF (dAt tX12_next0_ok 49 rfl rfl) flX12_86 (Or.inl rfl) hS.1 rfl e11 ?_
      refine g_goto hF (dAt tX12_next0_ok 50 rfl rfl) rfl ?_
      exact X12_next0_b76_ok hD hF hS hE fu _ H
def X12_next0_b26 (a : Nat) (k0 : Sig → Option (Sig)) (σ : Sig) : Option (Sig) := (pI σ a 13 ((σ a 13) + 1)).bind fun s1 => k0 s1
set_option maxRecDepth 4000 in
set_option maxHeartbeats 1000000 in
theorem X12_next0_b26_ok {K : Kt} {X : Cx} {D : Nat} {τ : Tau} {nx : Nat} {a : Nat} {res : Sig}  (hD : 8 ≤ D) (hF : Fx K X cX12_next0 3 RX12 D 0 0) (hS : ShX12 τ a) (hE : En K X none 0 0 none (τ, res, nx)) {k0 : Sig → Option (Sig)} (hk0 : ∀ (σ : Sig), k0 σ = some res → G K X 3 0 0 0 [some (.ref a), none, none] [] (τ, σ, nx)) {σ : Sig} (H : X12_next0_b26 a k0 σ = some res) : G K X 3 0 0 26 [some (.ref a), none, none] [] (τ, σ, nx) := by
  refine g_p (S' := [.ref a, .ref a]) hF tX12_next0_ok 12 2 rfl rfl rfl rfl ?_
  refine g_getI hF (dAt tX12_next0_ok 14 rfl rfl) flX12_86 hS.1 rfl ?_
  refine g_p (S' := [.int ((σ a 13) + 1), .ref a]) hF tX12_next0_ok 15 2 rfl rfl rfl rfl ?_
  obtain ⟨s1, e2, H⟩ := ob H
  refine g_pI hF (dAt tX12_next0_ok 17 rfl rfl) flX12_86 (Or.inl rfl) hS.1 rfl e2 ?_
  refine g_goto hF (dAt tX12_next0_ok 18 rfl rfl) rfl ?_
  exact hk0 _ H
def X12_next0_b0 (a : Nat) : Nat → Sig → Option (Sig)
  | 0, _ => none
  | fu + 1, σ => (X12_see_f a (σ a 13) σ).bind fun v1 => if v1 = 32 then (X12_next0_b26 a (X12_next0_b0 a fu) σ) else ((X12_see_f a (σ a 13) σ).bind fun v4 => if v4 = 10 then (X12_next0_b26 a (X12_next0_b0 a fu) σ) else ((pI σ a 15 (σ a 13)).bind fun s7 => (X12_see_f a (s7 a 13) s7).bind fun v9 => if v9 = (-1) then ((pI s7 a 14 0).bind fun s32 => some s32) else ((X12_isLetter_f v9 s7).bind fun v12 => if v12 = 0 then ((X12_isDigit_f v9 s7).bind fun v15 => if v15 = 0 then ((pI s7 a 13 ((s7 a 13) + 1)).bind fun s18 => if v9 = 59 then (X12_next0_b289 a v9 1 s18) else (if v9 = 43 then (X12_next0_b289 a v9 1 s18) else (if v9 = 45 then (X12_next0_b289 a v9 1 s18) else (if v9 = 42 then (X12_next0_b289 a v9 1 s18) else (if v9 = 47 then (X12_next0_b289 a v9 1 s18) else (if v9 = 40 then (X12_next0_b289 a v9 1 s18) else (if v9 = 41 then (X12_next0_b289 a v9 1 s18) else (if v9 = 60 then (X12_next0_b289 a v9 1 s18) else (if v9 = 61 then (X12_next0_b289 a v9 1 s18) else (if v9 = 62 then (X12_next0_b289 a v9 1 s18) else (X12_next0_b289 a v9 0 s18))))))))))) else ((pI s7 a 16 0).bind fun s30 => X12_next0_b126 a FU s30)) else (X12_next0_b76 a FU s7))))
set_option maxRecDepth 4000 in
set_option maxHeartbeats 1000000 in
theorem X12_next0_b0_ok {K : Kt} {X : Cx} {D : Nat} {τ : Tau} {nx : Nat} {a : Nat} {res : Sig}  (hD : 8 ≤ D) (hF : Fx K X cX12_next0 3 RX12 D 0 0) (hS : ShX12 τ a) (hE : En K X none 0 0 none (τ, res, nx)) : ∀ (fu : Nat) (σ : Sig), X12_next0_b0 a fu σ = some res → G K X 3 0 0 0 [some (.ref a), none, none] [] (τ, σ, nx)
  | 0, _, H => nomatch H
  | fu + 1, σ, H => by
    refine g_p (S' := [.ref a, .ref a]) hF tX12_next0_ok 0 2 rfl rfl rfl rfl ?_
    refine g_getI hF (dAt tX12_next0_ok 2 rfl rfl) flX12_86 hS.1 rfl ?_
    obtain ⟨v1, e2, H⟩ := ob H
    refine g_cV (S := []) hF (X12_see_ok (Nat.le_refl _) hS e2 K) mbX12_see mvX12_see mlX12_153 (by omega) (by decide) (dAt tX12_next0_ok 3 rfl rfl) hS.1 rfl rfl rfl (Nat.le_of_ble_eq_true rfl) rfl rfl (by decide) (by decide) rfl ?_
    refine g_p (S' := [.int 32, .int v1]) hF tX12_next0_ok 4 1 rfl rfl rfl rfl ?_
    obtain ⟨Ht3, Hf3⟩ := oi H
    refine g_icmp_eq hF (dAt tX12_next0_ok 5 rfl rfl) rfl (fun c3 => ?_) (fun c3 => ?_)
    · have H := Ht3 c3
      exact X12_next0_b26_ok hD hF hS hE (fun _ H => X12_next0_b0_ok hD hF hS hE fu _ H) H
    · have H := Hf3 c3
      refine g_p (S' := [.ref a, .ref a]) hF tX12_next0_ok 6 2 rfl rfl rfl rfl ?_
      refine g_getI hF (dAt tX12_next0_ok 8 rfl rfl) flX12_86 hS.1 rfl ?_
      obtain ⟨v4, e5, H⟩ := ob H
      refine g_cV (S := []) hF (X12_see_ok (Nat.le_refl _) hS e5 K) mbX12_see mvX12_see mlX12_153 (by omega) (by decide) (dAt tX12_next0_ok 9 rfl rfl) hS.1 rfl rfl rfl (Nat.le_of_ble_eq_true rfl) rfl rfl (by decide) (by decide) rfl ?_
      refine g_p (S' := [.int 10, .int v4]) hF tX12_next0_ok 10 1 rfl rfl rfl rfl ?_
      obtain ⟨Ht6, Hf6⟩ := oi H
      refine g_icmp_ne hF (dAt tX12_next0_ok 11 rfl rfl) rfl (fun c6 => ?_) (fun c6 => ?_)
      · have H := Hf6 c6
        refine g_p (S' := [.ref a, .ref a]) hF tX12_next0_ok 19 2 rfl rfl rfl rfl ?_
        refine g_getI hF (dAt tX12_next0_ok 21 rfl rfl) flX12_86 hS.1 rfl ?_
        obtain ⟨s7, e8, H⟩ := ob H
        refine g_pI hF (dAt tX12_next0_ok 22 rfl rfl) flX12_89 (Or.inl rfl) hS.1 rfl e8 ?_
        refine g_p (S' := [.ref a, .ref a]) hF tX12_next0_ok 23 2 rfl rfl rfl rfl ?_
        refine g_getI hF (dAt tX12_next0_ok 25 rfl rfl) flX12_86 hS.1 rfl ?_
        obtain ⟨v9, e10, H⟩ := ob H
        refine g_cV (S := []) hF (X12_see_ok (Nat.le_refl _) hS e10 K) mbX12_see mvX12_see mlX12_153 (by omega) (by decide) (dAt tX12_next0_ok 26 rfl rfl) hS.1 rfl rfl rfl (Nat.le_of_ble_eq_true rfl) rfl rfl (by decide) (by decide) rfl ?_
        refine g_p (L' := [some (.ref a), some (.int v9), none]) (S' := [.int (-1), .int v9]) hF tX12_next0_ok 27 3 rfl rfl rfl rfl ?_
        obtain ⟨Ht11, Hf11⟩ := oi H
        refine g_icmp_ne hF (dAt tX12_next0_ok 30 rfl rfl) rfl (fun c11 => ?_) (fun c11 => ?_)
        · have H := Hf11 c11
          refine g_p (S' := [.int v9]) hF tX12_next0_ok 35 1 rfl rfl rfl rfl ?_
          obtain ⟨v12, e13, H⟩ := ob H
          refine g_cS (S := []) hF (X12_isLetter_ok (Nat.le_refl _)  e13 K) mbX12_isLetter msX12_isLetter mlX12_159 (by omega) (by decide) (dAt tX12_next0_ok 36 rfl rfl) rfl rfl (Nat.le_of_ble_eq_true rfl) rfl rfl (by decide) (by decide) rfl ?_
          obtain ⟨Ht14, Hf14⟩ := oi H
          refine g_if_eq hF (dAt tX12_next0_ok 37 rfl rfl) rfl (fun c14 => ?_) (fun c14 => ?_)
          · have H := Ht14 c14
            refine g_p (S' := [.int v9]) hF tX12_next0_ok 56 1 rfl rfl rfl rfl ?_
            obtain ⟨v15, e16, H⟩ := ob H
            refine g_cS (S := []) hF (X12_isDigit_ok (Nat.le_refl _)  e16 K) mbX12_isDigit msX12_isDigit mlX12_165 (by omega) (by decide) (dAt tX12_next0_ok 57 rfl rfl) rfl rfl (Nat.le_of_ble_eq_true rfl) rfl rfl (by decide) (by decide) rfl ?_
            obtain ⟨Ht17, Hf17⟩ := oi H
            refine g_if_eq hF (dAt tX12_next0_ok 58 rfl rfl) rfl (fun c17 => ?_) (fun c17 => ?_)
            · have H := Ht17 c17
              refine g_p (S' := [.ref a, .ref a]) hF tX12_next0_ok 108 2 rfl rfl rfl rfl ?_
              refine g_getI hF (dAt tX12_next0_ok 110 rfl rfl) flX12_86 hS.1 rfl ?_
              refine g_p (S' := [.int ((s7 a 13) + 1), .ref a]) hF tX12_next0_ok 111 2 rfl rfl rfl rfl ?_
              obtain ⟨s18, e19, H⟩ := ob H
              refine g_pI hF (dAt tX12_next0_ok 113 rfl rfl) flX12_86 (Or.inl rfl) hS.1 rfl e19 ?_
              refine g_p (S' := [.int 59, .int v9]) hF tX12_next0_ok 114 2 rfl rfl rfl rfl ?_
              obtain ⟨Ht20, Hf20⟩ := oi H
              refine g_icmp_eq hF (dAt tX12_next0_ok 116 rfl rfl) rfl (fun c20 => ?_) (fun c20 => ?_)
              · have H := Ht20 c20
                refine g_p (S' := [.int 1]) hF tX12_next0_ok 144 1 rfl rfl rfl rfl ?_
                refine g_goto hF (dAt tX12_next0_ok 145 rfl rfl) rfl ?_
                exact X12_next0_b289_ok hD hF hS hE H
              · have H := Hf20 c20
                refine g_p (S' := [.int 43, .int v9]) hF tX12_next0_ok 117 2 rfl rfl rfl rfl ?_
                obtain ⟨Ht21, Hf21⟩ := oi H
                refine g_icmp_eq hF (dAt tX12_next0_ok 119 rfl rfl) rfl (fun c21 => ?_) (fun c21 => ?_)
                · have H := Ht21 c21
                  refine g_p (S' := [.int 1]) hF tX12_next0_ok 144 1 rfl rfl rfl rfl ?_
                  refine g_goto hF (dAt tX12_next0_ok 145 rfl rfl) rfl ?_
                  exact X12_next0_b289_ok hD hF hS hE H
                · have H := Hf21 c21
                  refine g_p (S' := [.int 45, .int v9]) hF tX12_next0_ok 120 2 rfl rfl rfl rfl ?_
                  obtain ⟨Ht22, Hf22⟩ := oi H
                  refine g_icmp_eq hF (dAt tX12_next0_ok 122 rfl rfl) rfl (fun c22 => ?_) (fun c22 => ?_)
                  · have H := Ht22 c22
                    refine g_p (S' := [.int 1]) hF tX12_next0_ok 144 1 rfl rfl rfl rfl ?_
                    refine g_goto hF (dAt tX12_next0_ok 145 rfl rfl) rfl ?_
                    exact X12_next0_b289_ok hD hF hS hE H
                  · have H := Hf22 c22
                    refine g_p (S' := [.int 42, .int v9]) hF tX12_next0_ok 123 2 rfl rfl rfl rfl ?_
                    obtain ⟨Ht23, Hf23⟩ := oi H
                    refine g_icmp_eq hF (dAt tX12_next0_ok 125 rfl rfl) rfl (fun c23 => ?_) (fun c23 => ?_)
                    · have H := Ht23 c23
                      refine g_p (S' := [.int 1]) hF tX12_next0_ok 144 1 rfl rfl rfl rfl ?_
                      refine g_goto hF (dAt tX12_next0_ok 145 rfl rfl) rfl ?_
                      exact X12_next0_b289_ok hD hF hS hE H
                    · have H := Hf23 c23
                      refine g_p (S' := [.int 47, .int v9]) hF tX12_next0_ok 126 2 rfl rfl rfl rfl ?_
                      obtain ⟨Ht24, Hf24⟩ := oi H
                      refine g_icmp_eq hF (dAt tX12_next0_ok 128 rfl rfl) rfl (fun c24 => ?_) (fun c24 => ?_)
                      · have H := Ht24 c24
                        refine g_p (S' := [.int 1]) hF tX12_next0_ok 144 1 rfl rfl rfl rfl ?_
                        refine g_goto hF (dAt tX12_next0_ok 145 rfl rfl) rfl ?_
                        exact X12_next0_b289_ok hD hF hS hE H
                      · have H := Hf24 c24
                        refine g_p (S' := [.int 40, .int v9]) hF tX12_next0_ok 129 2 rfl rfl rfl rfl ?_
                        obtain ⟨Ht25, Hf25⟩ := oi H
                        refine g_icmp_eq hF (dAt tX12_next0_ok 131 rfl rfl) rfl (fun c25 => ?_) (fun c25 => ?_)
                        · have H := Ht25 c25
                          refine g_p (S' := [.int 1]) hF tX12_next0_ok 144 1 rfl rfl rfl rfl ?_
                          refine g_goto hF (dAt tX12_next0_ok 145 rfl rfl) rfl ?_
                          exact X12_next0_b289_ok hD hF hS hE H
                        · have H := Hf25 c25
                          refine g_p (S' := [.int 41, .int v9]) hF tX12_next0_ok 132 2 rfl rfl rfl rfl ?_
                          obtain ⟨Ht26, Hf26⟩ := oi H
                          refine g_icmp_eq hF (dAt tX12_next0_ok 134 rfl rfl) rfl (fun c26 => ?_) (fun c26 => ?_)
                          · have H := Ht26 c26
                            refine g_p (S' := [.int 1]) hF tX12_next0_ok 144 1 rfl rfl rfl rfl ?_
                            refine g_goto hF (dAt tX12_next0_ok 145 rfl rfl) rfl ?_
                            exact X12_next0_b289_ok hD hF hS hE H
                          · have H := Hf26 c26
                            refine g_p (S' := [.int 60, .int v9]) hF tX12_next0_ok 135 2 rfl rfl rfl rfl ?_
                            obtain ⟨Ht27, Hf27⟩ := oi H
                            refine g_icmp_eq hF (dAt tX12_next0_ok 137 rfl rfl) rfl (fun c27 => ?_) (fun c27 => ?_)
                            · have H := Ht27 c27
                              refine g_p (S' := [.int 1]) hF tX12_next0_ok 144 1 rfl rfl rfl rfl ?_
                              refine g_goto hF (dAt tX12_next0_ok 145 rfl rfl) rfl ?_
                              exact X12_next0_b289_ok hD hF hS hE H
                            · have H := Hf27 c27
                              refine g_p (S' := [.int 61, .int v9]) hF tX12_next0_ok 138 2 rfl rfl rfl rfl ?_
                              obtain ⟨Ht28, Hf28⟩ := oi H
                              refine g_icmp_eq hF (dAt tX12_next0_ok 140 rfl rfl) rfl (fun c28 => ?_) (fun c28 => ?_)
                              · have H := Ht28 c28
                                refine g_p (S' := [.int 1]) hF tX12_next0_ok 144 1 rfl rfl rfl rfl ?_
                                refine g_goto hF (dAt tX12_next0_ok 145 rfl rfl) rfl ?_
                                exact X12_next0_b289_ok hD hF hS hE H
                              · have H := Hf28 c28
                                refine g_p (S' := [.int 62, .int v9]) hF tX12_next0_ok 141 2 rfl rfl rfl rfl ?_
                                obtain ⟨Ht29, Hf29⟩ := oi H
                                refine g_icmp_ne hF (dAt tX12_next0_ok 143 rfl rfl) rfl (fun c29 => ?_) (fun c29 => ?_)
                                · have H := Hf29 c29
                                  refine g_p (S' := [.int 0]) hF tX12_next0_ok 146 1 rfl rfl rfl rfl ?_
                                  exact X12_next0_b289_ok hD hF hS hE H
                                · have H := Ht29 c29
                                  refine g_p (S' := [.int 1]) hF tX12_next0_ok 144 1 rfl rfl rfl rfl ?_
                                  refine g_goto hF (dAt tX12_next0_ok 145 rfl rfl) rfl ?_
                                  exact X12_next0_b289_ok hD hF hS hE H
            · have H := Hf17 c17
              refine g_p (S' := [.int 0, .ref a]) hF tX12_next0_ok 59 2 rfl rfl rfl rfl ?_
              obtain ⟨s30, e31, H⟩ := ob H
              refine g_pI hF (dAt tX12_next0_ok 61 rfl rfl) flX12_168 (Or.inl rfl) hS.1 rfl e31 ?_
              refine g_m [true, false, false] rfl ?_
              exact X12_next0_b126_ok hD hF hS hE FU _ H
          · have H := Hf14 c14
            refine g_m [true, false, false] rfl ?_
            exact X12_next0_b76_ok hD hF hS hE FU _ H
        · have H := Ht11 c11
          refine g_p (S' := [.int 0, .ref a]) hF tX12_next0_ok 31 2 rfl rfl rfl rfl ?_
          obtain ⟨s32, e33, H⟩ := ob H
          refine g_pI hF (dAt tX12_next0_ok 33 rfl rfl) flX12_156 (Or.inl rfl) hS.1 rfl e33 ?_
          refine g_goto hF (dAt tX12_next0_ok 34 rfl rfl) rfl ?_
          exact g_vret hF (en_v H hE) (dAt tX12_next0_ok 157 rfl rfl) (by decide) (by decide)
      · have H := Ht6 c6
        exact X12_next0_b26_ok hD hF hS hE (fun _ H => X12_next0_b0_ok hD hF hS hE fu _ H) H
def X12_next0_f (a : Nat) (σ : Sig) : Option (Sig) := X12_next0_b0 a FU σ
set_option maxRecDepth 4000 in
set_option maxHeartbeats 1000000 in
theorem X12_next0_ok {D : Nat} {τ : Tau} {nx : Nat} {a : Nat} {σ : Sig} {res : Sig} (hD : 8 ≤ D) (hS : ShX12 τ a) (H : X12_next0_f a σ = some res) : Ok D 0 0 yX12_next0 cX12_next0 3 none [.ref a] (τ, σ, nx) none (τ, res, nx) := by
  refine ok_of (by decide +kernel) rfl (Nat.le_of_ble_eq_true rfl) (fun K X hF hE hN L0 hL0 => ?_)
  obtain rfl : [some (.ref a), none, none] = L0 := hL0
  have hF : Fx K X cX12_next0 3 RX12 D 0 0 := hF
  exact X12_next0_b0_ok hD hF hS hE FU _ H
def X12_bad_f (a : Nat) (x1 : Int32) (σ : Sig) : Option (Int32 × Sig) := (pI σ a 17 x1).bind fun s1 => (pI s1 a 18 (s1 a 15)).bind fun s3 => some (0, s3)
set_option maxRecDepth 4000 in
set_option maxHeartbeats 1000000 in
theorem X12_bad_ok {D : Nat} {τ : Tau} {nx : Nat} {a : Nat} {x1 : Int32} {σ : Sig} {res : Int32} {rsg : Sig} (hD : 1 ≤ D) (hS : ShX12 τ a) (H : X12_bad_f a x1 σ = some (res, rsg)) : Ok D 0 0 yX12_bad cX12_bad 2 (some .boolean) [.ref a, .int x1] (τ, σ, nx) (some (.int res)) (τ, rsg, nx) := by
  refine ok_of (by decide +kernel) rfl (Nat.le_of_ble_eq_true rfl) (fun K X hF hE hN L0 hL0 => ?_)
  obtain rfl : [some (.ref a), some (.int x1)] = L0 := hL0
  have hF : Fx K X cX12_bad 2 RX12 D 0 0 := hF
  refine g_p (S' := [.int x1, .ref a]) hF tX12_bad_ok 0 2 rfl rfl rfl rfl ?_
  obtain ⟨s1, e2, H⟩ := ob H
  refine g_pI hF (dAt tX12_bad_ok 2 rfl rfl) flX12_171 (Or.inl rfl) hS.1 rfl e2 ?_
  refine g_p (S' := [.ref a, .ref a]) hF tX12_bad_ok 3 2 rfl rfl rfl rfl ?_
  refine g_getI hF (dAt tX12_bad_ok 5 rfl rfl) flX12_89 hS.1 rfl ?_
  obtain ⟨s3, e4, H⟩ := ob H
  refine g_pI hF (dAt tX12_bad_ok 6 rfl rfl) flX12_174 (Or.inl rfl) hS.1 rfl e4 ?_
  refine g_p (S' := [.int 0]) hF tX12_bad_ok 7 1 rfl rfl rfl rfl ?_
  exact g_zret hF (en_p H hE) (Or.inl rfl) (dAt tX12_bad_ok 8 rfl rfl) (by decide) (by decide)
def X12_need_f (a : Nat) (x1 : Int32) (σ : Sig) : Option (Int32 × Sig) := if (σ a 14) = x1 then ((X12_next0_f a σ).bind fun s2 => some (1, s2)) else ((X12_bad_f a 1 σ).bind fun ⟨v4, s5⟩ => if v4 = 0 ∨ v4 = 1 then some (v4, s5) else none)
set_option maxRecDepth 4000 in
set_option maxHeartbeats 1000000 in
theorem X12_need_ok {D : Nat} {τ : Tau} {nx : Nat} {a : Nat} {x1 : Int32} {σ : Sig} {res : Int32} {rsg : Sig} (hD : 9 ≤ D) (hS : ShX12 τ a) (H : X12_need_f a x1 σ = some (res, rsg)) : Ok D 0 0 yX12_need cX12_need 2 (some .boolean) [.ref a, .int x1] (τ, σ, nx) (some (.int res)) (τ, rsg, nx) := by
  refine ok_of (by decide +kernel) rfl (Nat.le_of_ble_eq_true rfl) (fun K X hF hE hN L0 hL0 => ?_)
  obtain rfl : [some (.ref a), some (.int x1)] = L0 := hL0
  have hF : Fx K X cX12_need 2 RX12 D 0 0 := hF
  refine g_p (S' := [.ref a]) hF tX12_need_ok 0 1 rfl rfl rfl rfl ?_
  refine g_getI hF (dAt tX12_need_ok 1 rfl rfl) flX12_156 hS.1 rfl ?_
  refine g_p (S' := [.int x1, .int (σ a 14)]) hF tX12_need_ok 2 1 rfl rfl rfl rfl ?_
  obtain ⟨Ht1, Hf1⟩ := oi H
  refine g_icmp_eq hF (dAt tX12_need_ok 3 rfl rfl) rfl (fun c1 => ?_) (fun c1 => ?_)
  · have H := Ht1 c1
    refine g_p (S' := [.ref a]) hF tX12_need_ok 8 1 rfl rfl rfl rfl ?_
    obtain ⟨s2, e3, H⟩ := ob H
    refine g_cV (S := []) hF (X12_next0_ok (Nat.le_refl _) hS e3 K) mbX12_next0 mvX12_next0 mlX12_180 (by omega) (by decide) (dAt tX12_need_ok 9 rfl rfl) hS.1 rfl rfl rfl (Nat.le_of_ble_eq_true rfl) rfl rfl (by decide) (by decide) rfl ?_
    refine g_p (S' := [.int 1]) hF tX12_need_ok 10 1 rfl rfl rfl rfl ?_
    exact g_zret hF (en_p H hE) (Or.inr rfl) (dAt tX12_need_ok 11 rfl rfl) (by decide) (by decide)
  · have H := Hf1 c1
    refine g_p (S' := [.int 1, .ref a]) hF tX12_need_ok 4 2 rfl rfl rfl rfl ?_
    obtain ⟨⟨v4, s5⟩, e6, H⟩ := ob H
    refine g_cV (S := []) hF (X12_bad_ok (Nat.le_refl _) hS e6 K) mbX12_bad mvX12_bad mlX12_177 (by omega) (by decide) (dAt tX12_need_ok 6 rfl rfl) hS.1 rfl rfl rfl (Nat.le_of_ble_eq_true rfl) rfl rfl (by decide) (by decide) rfl ?_
    obtain ⟨hb, H⟩ := oy H
    exact g_zret hF (en_p H hE) hb (dAt tX12_need_ok 7 rfl rfl) (by decide) (by decide)
def X12_number_f (a : Nat) (x1 x2 : Int32) (σ : Sig) : Option (Int32 × Sig) := if (σ a 14) = 2 then ((X12_isIn_f (σ a 16) x1 x2 σ).bind fun v2 => if v2 = 0 then ((X12_bad_f a 2 σ).bind fun ⟨v7, s8⟩ => if v7 = 0 ∨ v7 = 1 then some (v7, s8) else none) else ((X12_next0_f a σ).bind fun s5 => some (1, s5))) else ((X12_bad_f a 1 σ).bind fun ⟨v10, s11⟩ => if v10 = 0 ∨ v10 = 1 then some (v10, s11) else none)
set_option maxRecDepth 4000 in
set_option maxHeartbeats 1000000 in
theorem X12_number_ok {D : Nat} {τ : Tau} {nx : Nat} {a : Nat} {x1 x2 : Int32} {σ : Sig} {res : Int32} {rsg : Sig} (hD : 9 ≤ D) (hS : ShX12 τ a) (H : X12_number_f a x1 x2 σ = some (res, rsg)) : Ok D 0 0 yX12_number cX12_number 3 (some .boolean) [.ref a, .int x1, .int x2] (τ, σ, nx) (some (.int res)) (τ, rsg, nx) := by
  refine ok_of (by decide +kernel) rfl (Nat.le_of_ble_eq_true rfl) (fun K X hF hE hN L0 hL0 => ?_)
  obtain rfl : [some (.ref a), some (.int x1), some (.int x2)] = L0 := hL0
  have hF : Fx K X cX12_number 3 RX12 D 0 0 := hF
  refine g_p (S' := [.ref a]) hF tX12_number_ok 0 1 rfl rfl rfl rfl ?_
  refine g_getI hF (dAt tX12_number_ok 1 rfl rfl) flX12_156 hS.1 rfl ?_
  refine g_p (S' := [.int 2, .int (σ a 14)]) hF tX12_number_ok 2 1 rfl rfl rfl rfl ?_
  obtain ⟨Ht1, Hf1⟩ := oi H
  refine g_icmp_eq hF (dAt tX12_number_ok 3 rfl rfl) rfl (fun c1 => ?_) (fun c1 => ?_)
  · have H := Ht1 c1
    refine g_p (S' := [.ref a]) hF tX12_number_ok 8 1 rfl rfl rfl rfl ?_
    refine g_getI hF (dAt tX12_number_ok 9 rfl rfl) flX12_168 hS.1 rfl ?_
    refine g_p (S' := [.int x2, .int x1, .int (σ a 16)]) hF tX12_number_ok 10 2 rfl rfl rfl rfl ?_
    obtain ⟨v2, e3, H⟩ := ob H
    refine g_cS (S := []) hF (X12_isIn_ok (Nat.le_refl _)  e3 K) mbX12_isIn msX12_isIn mlX12_50 (by omega) (by decide) (dAt tX12_number_ok 12 rfl rfl) rfl rfl (Nat.le_of_ble_eq_true rfl) rfl rfl (by decide) (by decide) rfl ?_
    obtain ⟨Ht4, Hf4⟩ := oi H
    refine g_if_ne hF (dAt tX12_number_ok 13 rfl rfl) rfl (fun c4 => ?_) (fun c4 => ?_)
    · have H := Hf4 c4
      refine g_p (S' := [.ref a]) hF tX12_number_ok 18 1 rfl rfl rfl rfl ?_
      obtain ⟨s5, e6, H⟩ := ob H
      refine g_cV (S := []) hF (X12_next0_ok (Nat.le_refl _) hS e6 K) mbX12_next0 mvX12_next0 mlX12_180 (by omega) (by decide) (dAt tX12_number_ok 19 rfl rfl) hS.1 rfl rfl rfl (Nat.le_of_ble_eq_true rfl) rfl rfl (by decide) (by decide) rfl ?_
      refine g_p (S' := [.int 1]) hF tX12_number_ok 20 1 rfl rfl rfl rfl ?_
      exact g_zret hF (en_p H hE) (Or.inr rfl) (dAt tX12_number_ok 21 rfl rfl) (by decide) (by decide)
    · have H := Ht4 c4
      refine g_p (S' := [.int 2, .ref a]) hF tX12_number_ok 14 2 rfl rfl rfl rfl ?_
      obtain ⟨⟨v7, s8⟩, e9, H⟩ := ob H
      refine g_cV (S := []) hF (X12_bad_ok (Nat.le_refl _) hS e9 K) mbX12_bad mvX12_bad mlX12_177 (by omega) (by decide) (dAt tX12_number_ok 16 rfl rfl) hS.1 rfl rfl rfl (Nat.le_of_ble_eq_true rfl) rfl rfl (by decide) (by decide) rfl ?_
      obtain ⟨hb, H⟩ := oy H
      exact g_zret hF (en_p H hE) hb (dAt tX12_number_ok 17 rfl rfl) (by decide) (by decide)
  · have H := Hf1 c1
    refine g_p (S' := [.int 1, .ref a]) hF tX12_number_ok 4 2 rfl rfl rfl rfl ?_
    obtain ⟨⟨v10, s11⟩, e12, H⟩ := ob H
    refine g_cV (S := []) hF (X12_bad_ok (Nat.le_refl _) hS e12 K) mbX12_bad mvX12_bad mlX12_177 (by omega) (by decide) (dAt tX12_number_ok 6 rfl rfl) hS.1 rfl rfl rfl (Nat.le_of_ble_eq_true rfl) rfl rfl (by decide) (by decide) rfl ?_
    obtain ⟨hb, H⟩ := oy H
    exact g_zret hF (en_p H hE) hb (dAt tX12_number_ok 7 rfl rfl) (by decide) (by decide)
def X12_lay_f (a : Nat) (x1 x2 : Int32) (σ : Sig) : Option (Sig) := (st 820 σ (a + 5) (2 * (σ a 11)) x1).bind fun s1 => (st 820 s1 (a + 5) ((2 * (s1 a 11)) + 1) x2).bind fun s3 => (pI s3 a 11 ((s3 a 11) + 1)).bind fun s5 => some s5
set_option maxRecDepth 4000 in
set_option maxHeartbeats 1000000 in
theorem X12_lay_ok {D : Nat} {τ : Tau} {nx : Nat} {a : Nat} {x1 x2 : Int32} {σ : Sig} {res : Sig} (hD : 1 ≤ D) (hS : ShX12 τ a) (H : X12_lay_f a x1 x2 σ = some res) : Ok D 0 0 yX12_lay cX12_lay 3 none [.ref a, .int x1, .int x2] (τ, σ, nx) none (τ, res, nx) := by
  refine ok_of (by decide +kernel) rfl (Nat.le_of_ble_eq_true rfl) (fun K X hF hE hN L0 hL0 => ?_)
  obtain rfl : [some (.ref a), some (.int x1), some (.int x2)] = L0 := hL0
  have hF : Fx K X cX12_lay 3 RX12 D 0 0 := hF
  refine g_p (S' := [.ref a]) hF tX12_lay_ok 0 1 rfl rfl rfl rfl ?_
  refine g_getR hF (dAt tX12_lay_ok 1 rfl rfl) flX12_22 hS.1 rfl ?_
  refine g_p (S' := [.ref a, .int 2, .ref (a + 5)]) hF tX12_lay_ok 2 2 rfl rfl rfl rfl ?_
  refine g_getI hF (dAt tX12_lay_ok 4 rfl rfl) flX12_183 hS.1 rfl ?_
  refine g_p (S' := [.int x1, .int (2 * (σ a 11)), .ref (a + 5)]) hF tX12_lay_ok 5 2 rfl rfl rfl rfl ?_
  obtain ⟨s1, e2, H⟩ := ob H
  refine g_ist hF (dAt tX12_lay_ok 7 rfl rfl) hS.2.2.2.2.2.1 e2 ?_
  refine g_p (S' := [.ref a]) hF tX12_lay_ok 8 1 rfl rfl rfl rfl ?_
  refine g_getR hF (dAt tX12_lay_ok 9 rfl rfl) flX12_22 hS.1 rfl ?_
  refine g_p (S' := [.ref a, .int 2, .ref (a + 5)]) hF tX12_lay_ok 10 2 rfl rfl rfl rfl ?_
  refine g_getI hF (dAt tX12_lay_ok 12 rfl rfl) flX12_183 hS.1 rfl ?_
  refine g_p (S' := [.int x2, .int ((2 * (s1 a 11)) + 1), .ref (a + 5)]) hF tX12_lay_ok 13 4 rfl rfl rfl rfl ?_
  obtain ⟨s3, e4, H⟩ := ob H
  refine g_ist hF (dAt tX12_lay_ok 17 rfl rfl) hS.2.2.2.2.2.1 e4 ?_
  refine g_p (S' := [.ref a, .ref a]) hF tX12_lay_ok 18 2 rfl rfl rfl rfl ?_
  refine g_getI hF (dAt tX12_lay_ok 20 rfl rfl) flX12_183 hS.1 rfl ?_
  refine g_p (S' := [.int ((s3 a 11) + 1), .ref a]) hF tX12_lay_ok 21 2 rfl rfl rfl rfl ?_
  obtain ⟨s5, e6, H⟩ := ob H
  refine g_pI hF (dAt tX12_lay_ok 23 rfl rfl) flX12_183 (Or.inl rfl) hS.1 rfl e6 ?_
  exact g_vret hF (en_v H hE) (dAt tX12_lay_ok 24 rfl rfl) (by decide) (by decide)
def X12_opens_f (a : Nat) (σ : Sig) : Option (Int32 × Sig) := if (σ a 20) = 8 then ((X12_bad_f a 3 σ).bind fun ⟨v6, s7⟩ => if v6 = 0 ∨ v6 = 1 then some (v6, s7) else none) else ((pI σ a 20 ((σ a 20) + 1)).bind fun s2 => (X12_next0_f a s2).bind fun s4 => some (1, s4))
set_option maxRecDepth 4000 in
set_option maxHeartbeats 1000000 in
theorem X12_opens_ok {D : Nat} {τ : Tau} {nx : Nat} {a : Nat} {σ : Sig} {res : Int32} {rsg : Sig} (hD : 9 ≤ D) (hS : ShX12 τ a) (H : X12_opens_f a σ = some (res, rsg)) : Ok D 0 0 yX12_opens cX12_opens 1 (some .boolean) [.ref a] (τ, σ, nx) (some (.int res)) (τ, rsg, nx) := by
  refine ok_of (by decide +kernel) rfl (Nat.le_of_ble_eq_true rfl) (fun K X hF hE hN L0 hL0 => ?_)
  obtain rfl : [some (.ref a)] = L0 := hL0
  have hF : Fx K X cX12_opens 1 RX12 D 0 0 := hF
  refine g_p (S' := [.ref a]) hF tX12_opens_ok 0 1 rfl rfl rfl rfl ?_
  refine g_getI hF (dAt tX12_opens_ok 1 rfl rfl) flX12_186 hS.1 rfl ?_
  refine g_p (S' := [.int 8, .int (σ a 20)]) hF tX12_opens_ok 2 1 rfl rfl rfl rfl ?_
  obtain ⟨Ht1, Hf1⟩ := oi H
  refine g_icmp_ne hF (dAt tX12_opens_ok 3 rfl rfl) rfl (fun c1 => ?_) (fun c1 => ?_)
  · have H := Hf1 c1
    refine g_p (S' := [.ref a, .ref a]) hF tX12_opens_ok 8 2 rfl rfl rfl rfl ?_
    refine g_getI hF (dAt tX12_opens_ok 10 rfl rfl) flX12_186 hS.1 rfl ?_
    refine g_p (S' := [.int ((σ a 20) + 1), .ref a]) hF tX12_opens_ok 11 2 rfl rfl rfl rfl ?_
    obtain ⟨s2, e3, H⟩ := ob H
    refine g_pI hF (dAt tX12_opens_ok 13 rfl rfl) flX12_186 (Or.inl rfl) hS.1 rfl e3 ?_
    refine g_p (S' := [.ref a]) hF tX12_opens_ok 14 1 rfl rfl rfl rfl ?_
    obtain ⟨s4, e5, H⟩ := ob H
    refine g_cV (S := []) hF (X12_next0_ok (Nat.le_refl _) hS e5 K) mbX12_next0 mvX12_next0 mlX12_180 (by omega) (by decide) (dAt tX12_opens_ok 15 rfl rfl) hS.1 rfl rfl rfl (Nat.le_of_ble_eq_true rfl) rfl rfl (by decide) (by decide) rfl ?_
    refine g_p (S' := [.int 1]) hF tX12_opens_ok 16 1 rfl rfl rfl rfl ?_
    exact g_zret hF (en_p H hE) (Or.inr rfl) (dAt tX12_opens_ok 17 rfl rfl) (by decide) (by decide)
  · have H := Ht1 c1
    refine g_p (S' := [.int 3, .ref a]) hF tX12_opens_ok 4 2 rfl rfl rfl rfl ?_
    obtain ⟨⟨v6, s7⟩, e8, H⟩ := ob H
    refine g_cV (S := []) hF (X12_bad_ok (Nat.le_refl _) hS e8 K) mbX12_bad mvX12_bad mlX12_177 (by omega) (by decide) (dAt tX12_opens_ok 6 rfl rfl) hS.1 rfl rfl rfl (Nat.le_of_ble_eq_true rfl) rfl rfl (by decide) (by decide) rfl ?_
    obtain ⟨hb, H⟩ := oy H
    exact g_zret hF (en_p H hE) hb (dAt tX12_opens_ok 7 rfl rfl) (by decide) (by decide)
def X12_unit_b46 (a : Nat) (y0 : Int32) (σ : Sig) : Option (Int32 × Sig) := (X12_lay_f a y0 (σ a 16) σ).bind fun s1 => (X12_next0_f a s1).bind fun s3 => some (1, s3)
set_option maxRecDepth 4000 in
set_option maxHeartbeats 1000000 in
theorem X12_unit_b46_ok {K : Kt} {X : Cx} {D : Nat} {τ : Tau} {nx : Nat} {a : Nat} {res : Int32} {rsg : Sig}  (hD : 9 ≤ D) (hF : Fx K X cX12_unit 2 RX12 D 0 0) (hS : ShX12 τ a) (hE : En K X (some .boolean) 0 0 (some (.int res)) (τ, rsg, nx)) {y0 : Int32} {σ : Sig} (H : X12_unit_b46 a y0 σ = some (res, rsg)) : G K X 2 0 0 46 [some (.ref a), none] [.int y0, .ref a] (τ, σ, nx) := by
  refine g_p (S' := [.ref a, .int y0, .ref a]) hF tX12_unit_ok 25 1 rfl rfl rfl rfl ?_
  refine g_getI hF (dAt tX12_unit_ok 26 rfl rfl) flX12_168 hS.1 rfl ?_
  obtain ⟨s1, e2, H⟩ := ob H
  refine g_cV (S := []) hF (X12_lay_ok (Nat.le_refl _) hS e2 K) mbX12_lay mvX12_lay mlX12_193 (by omega) (by decide) (dAt tX12_unit_ok 27 rfl rfl) hS.1 rfl rfl rfl (Nat.le_of_ble_eq_true rfl) rfl rfl (by decide) (by decide) rfl ?_
  refine g_p (S' := [.ref a]) hF tX12_unit_ok 28 1 rfl rfl rfl rfl ?_
  obtain ⟨s3, e4, H⟩ := ob H
  refine g_cV (S := []) hF (X12_next0_ok (Nat.le_refl _) hS e4 K) mbX12_next0 mvX12_next0 mlX12_180 (by omega) (by decide) (dAt tX12_unit_ok 29 rfl rfl) hS.1 rfl rfl rfl (Nat.le_of_ble_eq_true rfl) rfl rfl (by decide) (by decide) rfl ?_
  refine g_p (S' := [.int 1]) hF tX12_unit_ok 30 1 rfl rfl rfl rfl ?_
  exact g_zret hF (en_p H hE) (Or.inr rfl) (dAt tX12_unit_ok 31 rfl rfl) (by decide) (by decide)
def X12_unit_b30 (a : Nat) (x1 : Int32) (σ : Sig) : Option (Int32 × Sig) := if x1 = 0 then (X12_unit_b46 a 0 σ) else (X12_unit_b46 a ((σ a 14) - 40) σ)
set_option maxRecDepth 4000 in
set_option maxHeartbeats 1000000 in
theorem X12_unit_b30_ok {K : Kt} {X : Cx} {D : Nat} {τ : Tau} {nx : Nat} {a : Nat} {res : Int32} {rsg : Sig}  (hD : 9 ≤ D) (hF : Fx K X cX12_unit 2 RX12 D 0 0) (hS : ShX12 τ a) (hE : En K X (some .boolean) 0 0 (some (.int res)) (τ, rsg, nx)) {x1 : Int32} {σ : Sig} (H : X12_unit_b30 a x1 σ = some (res, rsg)) : G K X 2 0 0 30 [some (.ref a), some (.int x1)] [] (τ, σ, nx) := by
  refine g_p (S' := [.int x1, .ref a]) hF tX12_unit_ok 16 2 rfl rfl rfl rfl ?_
  obtain ⟨Ht1, Hf1⟩ := oi H
  refine g_if_eq hF (dAt tX12_unit_ok 18 rfl rfl) rfl (fun c1 => ?_) (fun c1 => ?_)
  · have H := Ht1 c1
    refine g_p (S' := [.int 0, .ref a]) hF tX12_unit_ok 24 1 rfl rfl rfl rfl ?_
    refine g_m [true, false] rfl ?_
    exact X12_unit_b46_ok hD hF hS hE H
  · have H := Hf1 c1
    refine g_p (S' := [.ref a, .ref a]) hF tX12_unit_ok 19 1 rfl rfl rfl rfl ?_
    refine g_getI hF (dAt tX12_unit_ok 20 rfl rfl) flX12_156 hS.1 rfl ?_
    refine g_p (S' := [.int ((σ a 14) - 40), .ref a]) hF tX12_unit_ok 21 2 rfl rfl rfl rfl ?_
    refine g_goto hF (dAt tX12_unit_ok 23 rfl rfl) rfl ?_
    refine g_m [true, false] rfl ?_
    exact X12_unit_b46_ok hD hF hS hE H
def X12_unit_f (a : Nat) (σ : Sig) : Option (Int32 × Sig) := (X12_isIn_f (σ a 14) 41 51 σ).bind fun v1 => if (σ a 14) = 2 then (X12_unit_b30 a v1 σ) else (if v1 = 0 then ((X12_bad_f a 1 σ).bind fun ⟨v5, s6⟩ => if v5 = 0 ∨ v5 = 1 then some (v5, s6) else none) else (X12_unit_b30 a v1 σ))
set_option maxRecDepth 4000 in
set_option maxHeartbeats 1000000 in
theorem X12_unit_ok {D : Nat} {τ : Tau} {nx : Nat} {a : Nat} {σ : Sig} {res : Int32} {rsg : Sig} (hD : 9 ≤ D) (hS : ShX12 τ a) (H : X12_unit_f a σ = some (res, rsg)) : Ok D 0 0 yX12_unit cX12_unit 2 (some .boolean) [.ref a] (τ, σ, nx) (some (.int res)) (τ, rsg, nx) := by
  refine ok_of (by decide +kernel) rfl (Nat.le_of_ble_eq_true rfl) (fun K X hF hE hN L0 hL0 => ?_)
  obtain rfl : [some (.ref a), none] = L0 := hL0
  have hF : Fx K X cX12_unit 2 RX12 D 0 0 := hF
  refine g_p (S' := [.ref a]) hF tX12_unit_ok 0 1 rfl rfl rfl rfl ?_
  refine g_getI hF (dAt tX12_unit_ok 1 rfl rfl) flX12_156 hS.1 rfl ?_
  refine g_p (S' := [.int 51, .int 41, .int (σ a 14)]) hF tX12_unit_ok 2 2 rfl rfl rfl rfl ?_
  obtain ⟨v1, e2, H⟩ := ob H
  refine g_cS (S := []) hF (X12_isIn_ok (Nat.le_refl _)  e2 K) mbX12_isIn msX12_isIn mlX12_50 (by omega) (by decide) (dAt tX12_unit_ok 4 rfl rfl) rfl rfl (Nat.le_of_ble_eq_true rfl) rfl rfl (by decide) (by decide) rfl ?_
  refine g_p (L' := [some (.ref a), some (.int v1)]) (S' := [.ref a]) hF tX12_unit_ok 5 2 rfl rfl rfl rfl ?_
  refine g_getI hF (dAt tX12_unit_ok 7 rfl rfl) flX12_156 hS.1 rfl ?_
  refine g_p (S' := [.int 2, .int (σ a 14)]) hF tX12_unit_ok 8 1 rfl rfl rfl rfl ?_
  obtain ⟨Ht3, Hf3⟩ := oi H
  refine g_icmp_eq hF (dAt tX12_unit_ok 9 rfl rfl) rfl (fun c3 => ?_) (fun c3 => ?_)
  · have H := Ht3 c3
    exact X12_unit_b30_ok hD hF hS hE H
  · have H := Hf3 c3
    refine g_p (S' := [.int v1]) hF tX12_unit_ok 10 1 rfl rfl rfl rfl ?_
    obtain ⟨Ht4, Hf4⟩ := oi H
    refine g_if_ne hF (dAt tX12_unit_ok 11 rfl rfl) rfl (fun c4 => ?_) (fun c4 => ?_)
    · have H := Hf4 c4
      exact X12_unit_b30_ok hD hF hS hE H
    · have H := Ht4 c4
      refine g_p (S' := [.int 1, .ref a]) hF tX12_unit_ok 12 2 rfl rfl rfl rfl ?_
      obtain ⟨⟨v5, s6⟩, e7, H⟩ := ob H
      refine g_cV (S := []) hF (X12_bad_ok (Nat.le_refl _) hS e7 K) mbX12_bad mvX12_bad mlX12_177 (by omega) (by decide) (dAt tX12_unit_ok 14 rfl rfl) hS.1 rfl rfl rfl (Nat.le_of_ble_eq_true rfl) rfl rfl (by decide) (by decide) rfl ?_
      obtain ⟨hb, H⟩ := oy H
      exact g_zret hF (en_p H hE) hb (dAt tX12_unit_ok 15 rfl rfl) (by decide) (by decide)
def X12_fault_f (a : Nat) (x1 : Int32) (σ : Sig) : Option (Int32) := if x1 = 0 then (some (σ a 19)) else (if x1 = 1 then (some (σ a 21)) else (some (-1)))
set_option maxRecDepth 4000 in
set_option maxHeartbeats 1000000 in
theorem X12_fault_ok {D : Nat} {τ : Tau} {nx : Nat} {a : Nat} {x1 : Int32} {σ : Sig} {res : Int32} (hD : 1 ≤ D) (hS : ShX12 τ a) (H : X12_fault_f a x1 σ = some res) : Ok D 0 0 yX12_fault cX12_fault 2 (some .int) [.ref a, .int x1] (τ, σ, nx) (some (.int res)) (τ, σ, nx) := by
  refine ok_of (by decide +kernel) rfl (Nat.le_of_ble_eq_true rfl) (fun K X hF hE hN L0 hL0 => ?_)
  obtain rfl : [some (.ref a), some (.int x1)] = L0 := hL0
  have hF : Fx K X cX12_fault 2 RX12 D 0 0 := hF
  refine g_p (S' := [.int x1]) hF tX12_fault_ok 0 1 rfl rfl rfl rfl ?_
  obtain ⟨Ht1, Hf1⟩ := oi H
  refine g_if_ne hF (dAt tX12_fault_ok 1 rfl rfl) rfl (fun c1 => ?_) (fun c1 => ?_)
  · have H := Hf1 c1
    refine g_p (S' := [.int 1, .int x1]) hF tX12_fault_ok 5 2 rfl rfl rfl rfl ?_
    obtain ⟨Ht2, Hf2⟩ := oi H
    refine g_icmp_ne hF (dAt tX12_fault_ok 7 rfl rfl) rfl (fun c2 => ?_) (fun c2 => ?_)
    · have H := Hf2 c2
      refine g_p (S' := [.int (-1)]) hF tX12_fault_ok 11 1 rfl rfl rfl rfl ?_
      exact g_iret hF (en_i H hE) (dAt tX12_fault_ok 12 rfl rfl) (by decide) (by decide)
    · have H := Ht2 c2
      refine g_p (S' := [.ref a]) hF tX12_fault_ok 8 1 rfl rfl rfl rfl ?_
      refine g_getI hF (dAt tX12_fault_ok 9 rfl rfl) flX12_34 hS.1 rfl ?_
      refine g_goto hF (dAt tX12_fault_ok 10 rfl rfl) rfl ?_
      exact g_iret hF (en_i H hE) (dAt tX12_fault_ok 12 rfl rfl) (by decide) (by decide)
  · have H := Ht1 c1
    refine g_p (S' := [.ref a]) hF tX12_fault_ok 2 1 rfl rfl rfl rfl ?_
    refine g_getI hF (dAt tX12_fault_ok 3 rfl rfl) flX12_225 hS.1 rfl ?_
    refine g_goto hF (dAt tX12_fault_ok 4 rfl rfl) rfl ?_
    exact g_iret hF (en_i H hE) (dAt tX12_fault_ok 12 rfl rfl) (by decide) (by decide)
def X12_both_f (x0 x1 x2 : Int32) (σ : Sig) : Option (Int32) := if x0 = 12 then (some (x1 + x2)) else if x0 = 13 then (some (x1 - x2)) else if x0 = 14 then (some (x1 * x2)) else if x0 = 15 then (some (x1 ||| x2)) else if x0 = 16 then (if x2 ≤ x1 then (some 0) else (some 1)) else if x0 = 17 then (if x1 = x2 then (some 1) else (some 0)) else if x0 = 18 then (if x1 ≤ x2 then (some 0) else (some 1)) else if x0 = 19 then (some (x1 ||| x2)) else if x0 = 20 then (some (x1 &&& x2)) else (some (x1 ||| x2))
set_option maxRecDepth 4000 in
set_option maxHeartbeats 1000000 in
theorem X12_both_ok {D : Nat} {τ : Tau} {nx : Nat} {x0 x1 x2 : Int32} {σ : Sig} {res : Int32} (hD : 1 ≤ D) (H : X12_both_f x0 x1 x2 σ = some res) : Ok D 0 0 yX12_both cX12_both 3 (some .int) [.int x0, .int x1, .int x2] (τ, σ, nx) (some (.int res)) (τ, σ, nx) := by
  refine ok_of (by decide +kernel) rfl (Nat.le_of_ble_eq_true rfl) (fun K X hF hE hN L0 hL0 => ?_)
  obtain rfl : [some (.int x0), some (.int x1), some (.int x2)] = L0 := hL0
  have hF : Fx K X cX12_both 3 RX12 D 0 0 := hF
  refine g_p (S' := [.int x0]) hF tX12_both_ok 0 1 rfl rfl rfl rfl ?_
  obtain ⟨Ht1_0, Hf1_0⟩ := oi H
  by_cases c1_0 : x0 = 12
  · have H := Ht1_0 c1_0
    refine g_tsw (c := 12) hF (dAt tX12_both_ok 1 rfl rfl) c1_0 (by decide) (by decide) rfl rfl ?_
    refine g_p (S' := [.int (x1 + x2)]) hF tX12_both_ok 2 3 rfl rfl rfl rfl ?_
    exact g_iret hF (en_i H hE) (dAt tX12_both_ok 5 rfl rfl) (by decide) (by decide)
  have H := Hf1_0 c1_0
  obtain ⟨Ht1_1, Hf1_1⟩ := oi H
  by_cases c1_1 : x0 = 13
  · have H := Ht1_1 c1_1
    refine g_tsw (c := 13) hF (dAt tX12_both_ok 1 rfl rfl) c1_1 (by decide) (by decide) rfl rfl ?_
    refine g_p (S' := [.int (x1 - x2)]) hF tX12_both_ok 6 3 rfl rfl rfl rfl ?_
    exact g_iret hF (en_i H hE) (dAt tX12_both_ok 9 rfl rfl) (by decide) (by decide)
  have H := Hf1_1 c1_1
  obtain ⟨Ht1_2, Hf1_2⟩ := oi H
  by_cases c1_2 : x0 = 14
  · have H := Ht1_2 c1_2
    refine g_tsw (c := 14) hF (dAt tX12_both_ok 1 rfl rfl) c1_2 (by decide) (by decide) rfl rfl ?_
    refine g_p (S' := [.int (x1 * x2)]) hF tX12_both_ok 10 3 rfl rfl rfl rfl ?_
    exact g_iret hF (en_i H hE) (dAt tX12_both_ok 13 rfl rfl) (by decide) (by decide)
  have H := Hf1_2 c1_2
  obtain ⟨Ht1_3, Hf1_3⟩ := oi H
  by_cases c1_3 : x0 = 15
  · have H := Ht1_3 c1_3
    refine g_tsw (c := 15) hF (dAt tX12_both_ok 1 rfl rfl) c1_3 (by decide) (by decide) rfl rfl ?_
    refine g_p (S' := [.int (x1 ||| x2)]) hF tX12_both_ok 39 3 rfl rfl rfl rfl ?_
    exact g_iret hF (en_i H hE) (dAt tX12_both_ok 42 rfl rfl) (by decide) (by decide)
  have H := Hf1_3 c1_3
  obtain ⟨Ht1_4, Hf1_4⟩ := oi H
  by_cases c1_4 : x0 = 16
  · have H := Ht1_4 c1_4
    refine g_tsw (c := 16) hF (dAt tX12_both_ok 1 rfl rfl) c1_4 (by decide) (by decide) rfl rfl ?_
    refine g_p (S' := [.int x2, .int x1]) hF tX12_both_ok 14 2 rfl rfl rfl rfl ?_
    obtain ⟨Ht2, Hf2⟩ := oi H
    refine g_icmp_ge hF (dAt tX12_both_ok 16 rfl rfl) rfl (fun c2 => ?_) (fun c2 => ?_)
    · have H := Ht2 c2
      refine g_p (S' := [.int 0]) hF tX12_both_ok 19 1 rfl rfl rfl rfl ?_
      exact g_iret hF (en_i H hE) (dAt tX12_both_ok 20 rfl rfl) (by decide) (by decide)
    · have H := Hf2 c2
      refine g_p (S' := [.int 1]) hF tX12_both_ok 17 1 rfl rfl rfl rfl ?_
      refine g_goto hF (dAt tX12_both_ok 18 rfl rfl) rfl ?_
      exact g_iret hF (en_i H hE) (dAt tX12_both_ok 20 rfl rfl) (by decide) (by decide)
  have H := Hf1_4 c1_4
  obtain ⟨Ht1_5, Hf1_5⟩ := oi H
  by_cases c1_5 : x0 = 17
  · have H := Ht1_5 c1_5
    refine g_tsw (c := 17) hF (dAt tX12_both_ok 1 rfl rfl) c1_5 (by decide) (by decide) rfl rfl ?_
    refine g_p (S' := [.int x2, .int x1]) hF tX12_both_ok 21 2 rfl rfl rfl rfl ?_
    obtain ⟨Ht3, Hf3⟩ := oi H
    refine g_icmp_ne hF (dAt tX12_both_ok 23 rfl rfl) rfl (fun c3 => ?_) (fun c3 => ?_)
    · have H := Hf3 c3
      refine g_p (S' := [.int 0]) hF tX12_both_ok 26 1 rfl rfl rfl rfl ?_
      exact g_iret hF (en_i H hE) (dAt tX12_both_ok 27 rfl rfl) (by decide) (by decide)
    · have H := Ht3 c3
      refine g_p (S' := [.int 1]) hF tX12_both_ok 24 1 rfl rfl rfl rfl ?_
      refine g_goto hF (dAt tX12_both_ok 25 rfl rfl) rfl ?_
      exact g_iret hF (en_i H hE) (dAt tX12_both_ok 27 rfl rfl) (by decide) (by decide)
  have H := Hf1_5 c1_5
  obtain ⟨Ht1_6, Hf1_6⟩ := oi H
  by_cases c1_6 : x0 = 18
  · have H := Ht1_6 c1_6
    refine g_tsw (c := 18) hF (dAt tX12_both_ok 1 rfl rfl) c1_6 (by decide) (by decide) rfl rfl ?_
    refine g_p (S' := [.int x2, .int x1]) hF tX12_both_ok 28 2 rfl rfl rfl rfl ?_
    obtain ⟨Ht4, Hf4⟩ := oi H
    refine g_icmp_le hF (dAt tX12_both_ok 30 rfl rfl) rfl (fun c4 => ?_) (fun c4 => ?_)
    · have H := Ht4 c4
      refine g_p (S' := [.int 0]) hF tX12_both_ok 33 1 rfl rfl rfl rfl ?_
      exact g_iret hF (en_i H hE) (dAt tX12_both_ok 34 rfl rfl) (by decide) (by decide)
    · have H := Hf4 c4
      refine g_p (S' := [.int 1]) hF tX12_both_ok 31 1 rfl rfl rfl rfl ?_
      refine g_goto hF (dAt tX12_both_ok 32 rfl rfl) rfl ?_
      exact g_iret hF (en_i H hE) (dAt tX12_both_ok 34 rfl rfl) (by decide) (by decide)
  have H := Hf1_6 c1_6
  obtain ⟨Ht1_7, Hf1_7⟩ := oi H
  by_cases c1_7 : x0 = 19
  · have H := Ht1_7 c1_7
    refine g_tsw (c := 19) hF (dAt tX12_both_ok 1 rfl rfl) c1_7 (by decide) (by decide) rfl rfl ?_
    refine g_p (S' := [.int (x1 ||| x2)]) hF tX12_both_ok 39 3 rfl rfl rfl rfl ?_
    exact g_iret hF (en_i H hE) (dAt tX12_both_ok 42 rfl rfl) (by decide) (by decide)
  have H := Hf1_7 c1_7
  obtain ⟨Ht1_8, Hf1_8⟩ := oi H
  by_cases c1_8 : x0 = 20
  · have H := Ht1_8 c1_8
    refine g_tsw (c := 20) hF (dAt tX12_both_ok 1 rfl rfl) c1_8 (by decide) (by decide) rfl rfl ?_
    refine g_p (S' := [.int (x1 &&& x2)]) hF tX12_both_ok 35 3 rfl rfl rfl rfl ?_
    exact g_iret hF (en_i H hE) (dAt tX12_both_ok 38 rfl rfl) (by decide) (by decide)
  have H := Hf1_8 c1_8
  refine g_tswD hF (dAt tX12_both_ok 1 rfl rfl) (tsw_l 12 20 9 [12, 13, 14, 15, 16, 17, 18, 19, 20] (al1 c1_0 (al1 c1_1 (al1 c1_2 (al1 c1_3 (al1 c1_4 (al1 c1_5 (al1 c1_6 (al1 c1_7 (al1 c1_8 al0))))))))) (by decide) (by decide)) rfl ?_
  refine g_p (S' := [.int (x1 ||| x2)]) hF tX12_both_ok 39 3 rfl rfl rfl rfl ?_
  exact g_iret hF (en_i H hE) (dAt tX12_both_ok 42 rfl rfl) (by decide) (by decide)
def X12_comesTo_b86 (a : Nat) (k6 : Int32 → Int32 → Int32 → Int32 → Sig → Option (Int32 × Sig)) (x1 x3 x4 x5 y0 y1 : Int32) (σ : Sig) : Option (Int32 × Sig) := (st 420 σ (a + 7) y1 y0).bind fun s1 => k6 x1 x3 (x4 + 1) (x5 + 1) s1
set_option maxRecDepth 4000 in
set_option maxHeartbeats 1000000 in
theorem X12_comesTo_b86_ok {K : Kt} {X : Cx} {D : Nat} {τ : Tau} {nx : Nat} {a : Nat} {res : Int32} {rsg : Sig}  (hD : 2 ≤ D) (hF : Fx K X cX12_comesTo 8 RX12 D 0 0) (hS : ShX12 τ a) (hE : En K X (some .int) 0 0 (some (.int res)) (τ, rsg, nx)) {k6 : Int32 → Int32 → Int32 → Int32 → Sig → Option (Int32 × Sig)} (hk6 : ∀ (x1 x3 x4 x5 : Int32) (σ : Sig), k6 x1 x3 x4 x5 σ = some (res, rsg) → G K X 8 0 0 6 [some (.ref a), some (.int x1), none, some (.int x3), some (.int x4), some (.int x5), none, none] [] (τ, σ, nx)) {x1 x3 x4 x5 y0 y1 : Int32} {σ : Sig} (H : X12_comesTo_b86 a k6 x1 x3 x4 x5 y0 y1 σ = some (res, rsg)) : G K X 8 0 0 86 [some (.ref a), some (.int x1), none, some (.int x3), some (.int x4), some (.int x5), none, none] [.int y0, .int y1, .ref (a + 7)] (τ, σ, nx) := by
  obtain ⟨s1, e2, H⟩ := ob H
  refine g_ist hF (dAt tX12_comesTo_ok 49 rfl rfl) hS.2.2.2.2.2.2.2.1 e2 ?_
  refine g_p (L' := [some (.ref a), some (.int x1), none, some (.int x3), some (.int (x4 + 1)), some (.int x5), none, none]) (S' := []) hF tX12_comesTo_ok 50 1 rfl rfl rfl rfl ?_
  refine g_goto hF (dAt tX12_comesTo_ok 51 rfl rfl) rfl ?_
  refine g_p (L' := [some (.ref a), some (.int x1), none, some (.int x3), some (.int (x4 + 1)), some (.int (x5 + 1)), none, none]) (S' := []) hF tX12_comesTo_ok 103 1 rfl rfl rfl rfl ?_
  refine g_goto hF (dAt tX12_comesTo_ok 104 rfl rfl) rfl ?_
  exact hk6 _ _ _ _ _ H
def X12_comesTo_b6 (a : Nat) : Nat → Int32 → Int32 → Int32 → Int32 → Sig → Option (Int32 × Sig)
  | 0, _, _, _, _, _ => none
  | fu + 1, x1, x3, x4, x5, σ => if x3 ≤ x5 then ((ld 420 (σ (a + 7)) 0).bind fun v2 => some (v2, σ)) else ((ld 20240 (σ (a + 1)) ((2960 + (820 * x1)) + (2 * x5))).bind fun v4 => (ld 20240 (σ (a + 1)) (((2960 + (820 * x1)) + (2 * x5)) + 1)).bind fun v6 => if 12 ≤ v4 then (if v4 = 15 then ((ld 420 (σ (a + 7)) (x4 - 1)).bind fun v23 => if v6 = 0 then none else ((st 420 σ (a + 7) (x4 - 1) (v23 / v6)).bind fun s26 => X12_comesTo_b6 a fu x1 x3 x4 (x5 + 1) s26)) else (if v4 = 19 then ((ld 420 (σ (a + 7)) (x4 - 1)).bind fun v19 => (st 420 σ (a + 7) (x4 - 1) (1 - v19)).bind fun s21 => X12_comesTo_b6 a fu x1 x3 x4 (x5 + 1) s21) else ((ld 420 (σ (a + 7)) ((x4 + (-1)) - 1)).bind fun v11 => (ld 420 (σ (a + 7)) (x4 + (-1))).bind fun v13 => (X12_both_f v4 v11 v13 σ).bind fun v15 => (st 420 σ (a + 7) ((x4 + (-1)) - 1) v15).bind fun s17 => X12_comesTo_b6 a fu x1 x3 (x4 + (-1)) (x5 + 1) s17))) else (if v4 = 0 then (X12_comesTo_b86 a (X12_comesTo_b6 a fu) x1 x3 x4 x5 v6 x4 σ) else ((ld 12 (σ (a + 8)) v4).bind fun v29 => X12_comesTo_b86 a (X12_comesTo_b6 a fu) x1 x3 x4 x5 v29 x4 σ)))
set_option maxRecDepth 4000 in
set_option maxHeartbeats 1000000 in
theorem X12_comesTo_b6_ok {K : Kt} {X : Cx} {D : Nat} {τ : Tau} {nx : Nat} {a : Nat} {res : Int32} {rsg : Sig}  (hD : 2 ≤ D) (hF : Fx K X cX12_comesTo 8 RX12 D 0 0) (hS : ShX12 τ a) (hE : En K X (some .int) 0 0 (some (.int res)) (τ, rsg, nx)) : ∀ (fu : Nat) (x1 x3 x4 x5 : Int32) (σ : Sig), X12_comesTo_b6 a fu x1 x3 x4 x5 σ = some (res, rsg) → G K X 8 0 0 6 [some (.ref a), some (.int x1), none, some (.int x3), some (.int x4), some (.int x5), none, none] [] (τ, σ, nx)
  | 0, _, _, _, _, _, H => nomatch H
  | fu + 1, x1, x3, x4, x5, σ, H => by
    refine g_p (S' := [.int x3, .int x5]) hF tX12_comesTo_ok 4 2 rfl rfl rfl rfl ?_
    obtain ⟨Ht1, Hf1⟩ := oi H
    refine g_icmp_ge hF (dAt tX12_comesTo_ok 6 rfl rfl) rfl (fun c1 => ?_) (fun c1 => ?_)
    · have H := Ht1 c1
      refine g_p (S' := [.ref a]) hF tX12_comesTo_ok 105 1 rfl rfl rfl rfl ?_
      refine g_getR hF (dAt tX12_comesTo_ok 106 rfl rfl) flX12_28 hS.1 rfl ?_
      refine g_p (S' := [.int 0, .ref (a + 7)]) hF tX12_comesTo_ok 107 1 rfl rfl rfl rfl ?_
      obtain ⟨v2, e3, H⟩ := ob H
      refine g_ild hF (dAt tX12_comesTo_ok 108 rfl rfl) hS.2.2.2.2.2.2.2.1 e3 ?_
      exact g_iret hF (en_p H hE) (dAt tX12_comesTo_ok 109 rfl rfl) (by decide) (by decide)
    · have H := Hf1 c1
      refine g_p (S' := [.ref a]) hF tX12_comesTo_ok 7 1 rfl rfl rfl rfl ?_
      refine g_getR hF (dAt tX12_comesTo_ok 8 rfl rfl) flX12_7 hS.1 rfl ?_
      refine g_p (S' := [.int ((2960 + (820 * x1)) + (2 * x5)), .ref (a + 1)]) hF tX12_comesTo_ok 9 9 rfl rfl rfl rfl ?_
      obtain ⟨v4, e5, H⟩ := ob H
      refine g_ild hF (dAt tX12_comesTo_ok 18 rfl rfl) hS.2.1 e5 ?_
      refine g_p (L' := [some (.ref a), some (.int x1), none, some (.int x3), some (.int x4), some (.int x5), some (.int v4), none]) (S' := [.ref a]) hF tX12_comesTo_ok 19 2 rfl rfl rfl rfl ?_
      refine g_getR hF (dAt tX12_comesTo_ok 21 rfl rfl) flX12_7 hS.1 rfl ?_
      refine g_p (S' := [.int (((2960 + (820 * x1)) + (2 * x5)) + 1), .ref (a + 1)]) hF tX12_comesTo_ok 22 11 rfl rfl rfl rfl ?_
      obtain ⟨v6, e7, H⟩ := ob H
      refine g_ild hF (dAt tX12_comesTo_ok 33 rfl rfl) hS.2.1 e7 ?_
      refine g_p (L' := [some (.ref a), some (.int x1), none, some (.int x3), some (.int x4), some (.int x5), some (.int v4), some (.int v6)]) (S' := [.int 12, .int v4]) hF tX12_comesTo_ok 34 3 rfl rfl rfl rfl ?_
      obtain ⟨Ht8, Hf8⟩ := oi H
      refine g_icmp_ge hF (dAt tX12_comesTo_ok 37 rfl rfl) rfl (fun c8 => ?_) (fun c8 => ?_)
      · have H := Ht8 c8
        refine g_p (S' := [.int 15, .int v4]) hF tX12_comesTo_ok 52 2 rfl rfl rfl rfl ?_
        obtain ⟨Ht9, Hf9⟩ := oi H
        refine g_icmp_ne hF (dAt tX12_comesTo_ok 54 rfl rfl) rfl (fun c9 => ?_) (fun c9 => ?_)
        · have H := Hf9 c9
          refine g_p (S' := [.int 19, .int v4]) hF tX12_comesTo_ok 66 2 rfl rfl rfl rfl ?_
          obtain ⟨Ht10, Hf10⟩ := oi H
          refine g_icmp_ne hF (dAt tX12_comesTo_ok 68 rfl rfl) rfl (fun c10 => ?_) (fun c10 => ?_)
          · have H := Hf10 c10
            refine g_p (L' := [some (.ref a), some (.int x1), none, some (.int x3), some (.int (x4 + (-1))), some (.int x5), some (.int v4), some (.int v6)]) (S' := [.ref a]) hF tX12_comesTo_ok 84 2 rfl rfl rfl rfl ?_
            refine g_getR hF (dAt tX12_comesTo_ok 86 rfl rfl) flX12_28 hS.1 rfl ?_
            refine g_p (S' := [.ref a, .int v4, .int ((x4 + (-1)) - 1), .ref (a + 7)]) hF tX12_comesTo_ok 87 5 rfl rfl rfl rfl ?_
            refine g_getR hF (dAt tX12_comesTo_ok 92 rfl rfl) flX12_28 hS.1 rfl ?_
            refine g_p (S' := [.int ((x4 + (-1)) - 1), .ref (a + 7), .int v4, .int ((x4 + (-1)) - 1), .ref (a + 7)]) hF tX12_comesTo_ok 93 3 rfl rfl rfl rfl ?_
            obtain ⟨v11, e12, H⟩ := ob H
            refine g_ild hF (dAt tX12_comesTo_ok 96 rfl rfl) hS.2.2.2.2.2.2.2.1 e12 ?_
            refine g_p (S' := [.ref a, .int v11, .int v4, .int ((x4 + (-1)) - 1), .ref (a + 7)]) hF tX12_comesTo_ok 97 1 rfl rfl rfl rfl ?_
            refine g_getR hF (dAt tX12_comesTo_ok 98 rfl rfl) flX12_28 hS.1 rfl ?_
            refine g_p (S' := [.int (x4 + (-1)), .ref (a + 7), .int v11, .int v4, .int ((x4 + (-1)) - 1), .ref (a + 7)]) hF tX12_comesTo_ok 99 1 rfl rfl rfl rfl ?_
            obtain ⟨v13, e14, H⟩ := ob H
            refine g_ild hF (dAt tX12_comesTo_ok 100 rfl rfl) hS.2.2.2.2.2.2.2.1 e14 ?_
            obtain ⟨v15, e16, H⟩ := ob H
            refine g_cS (S := [.int ((x4 + (-1)) - 1), .ref (a + 7)]) hF (X12_both_ok (Nat.le_refl _)  e16 K) mbX12_both msX12_both mlX12_231 (by omega) (by decide) (dAt tX12_comesTo_ok 101 rfl rfl) rfl rfl (Nat.le_of_ble_eq_true rfl) rfl rfl (by decide) (by decide) rfl ?_
            obtain ⟨s17, e18, H⟩ := ob H
            refine g_ist hF (dAt tX12_comesTo_ok 102 rfl rfl) hS.2.2.2.2.2.2.2.1 e18 ?_
            refine g_p (L' := [some (.ref a), some (.int x1), none, some (.int x3), some (.int (x4 + (-1))), some (.int (x5 + 1)), some (.int v4), some (.int v6)]) (S' := []) hF tX12_comesTo_ok 103 1 rfl rfl rfl rfl ?_
            refine g_goto hF (dAt tX12_comesTo_ok 104 rfl rfl) rfl ?_
            refine g_m [true, true, false, true, true, true, false, false] rfl ?_
            exact X12_comesTo_b6_ok hD hF hS hE fu _ _ _ _ _ H
          · have H := Ht10 c10
            refine g_p (S' := [.ref a]) hF tX12_comesTo_ok 69 1 rfl rfl rfl rfl ?_
            refine g_getR hF (dAt tX12_comesTo_ok 70 rfl rfl) flX12_28 hS.1 rfl ?_
            refine g_p (S' := [.ref a, .int 1, .int (x4 - 1), .ref (a + 7)]) hF tX12_comesTo_ok 71 5 rfl rfl rfl rfl ?_
            refine g_getR hF (dAt tX12_comesTo_ok 76 rfl rfl) flX12_28 hS.1 rfl ?_
            refine g_p (S' := [.int (x4 - 1), .ref (a + 7), .int 1, .int (x4 - 1), .ref (a + 7)]) hF tX12_comesTo_ok 77 3 rfl rfl rfl rfl ?_
            obtain ⟨v19, e20, H⟩ := ob H
            refine g_ild hF (dAt tX12_comesTo_ok 80 rfl rfl) hS.2.2.2.2.2.2.2.1 e20 ?_
            refine g_p (S' := [.int (1 - v19), .int (x4 - 1), .ref (a + 7)]) hF tX12_comesTo_ok 81 1 rfl rfl rfl rfl ?_
            obtain ⟨s21, e22, H⟩ := ob H
            refine g_ist hF (dAt tX12_comesTo_ok 82 rfl rfl) hS.2.2.2.2.2.2.2.1 e22 ?_
            refine g_goto hF (dAt tX12_comesTo_ok 83 rfl rfl) rfl ?_
            refine g_p (L' := [some (.ref a), some (.int x1), none, some (.int x3), some (.int x4), some (.int (x5 + 1)), some (.int v4), some (.int v6)]) (S' := []) hF tX12_comesTo_ok 103 1 rfl rfl rfl rfl ?_
            refine g_goto hF (dAt tX12_comesTo_ok 104 rfl rfl) rfl ?_
            refine g_m [true, true, false, true, true, true, false, false] rfl ?_
            exact X12_comesTo_b6_ok hD hF hS hE fu _ _ _ _ _ H
        · have H := Ht9 c9
          refine g_p (S' := [.ref a]) hF tX12_comesTo_ok 55 1 rfl rfl rfl rfl ?_
          refine g_getR hF (dAt tX12_comesTo_ok 56 rfl rfl) flX12_28 hS.1 rfl ?_
          refine g_p (S' := [.int (x4 - 1), .ref (a + 7), .int (x4 - 1), .ref (a + 7)]) hF tX12_comesTo_ok 57 4 rfl rfl rfl rfl ?_
          obtain ⟨v23, e24, H⟩ := ob H
          refine g_ild hF (dAt tX12_comesTo_ok 61 rfl rfl) hS.2.2.2.2.2.2.2.1 e24 ?_
          refine g_p (S' := [.int v6, .int v23, .int (x4 - 1), .ref (a + 7)]) hF tX12_comesTo_ok 62 1 rfl rfl rfl rfl ?_
          obtain ⟨z25, H⟩ := on H
          refine g_idiv hF (dAt tX12_comesTo_ok 63 rfl rfl) z25 ?_
          obtain ⟨s26, e27, H⟩ := ob H
          refine g_ist hF (dAt tX12_comesTo_ok 64 rfl rfl) hS.2.2.2.2.2.2.2.1 e27 ?_
          refine g_goto hF (dAt tX12_comesTo_ok 65 rfl rfl) rfl ?_
          refine g_p (L' := [some (.ref a), some (.int x1), none, some (.int x3), some (.int x4), some (.int (x5 + 1)), some (.int v4), some (.int v6)]) (S' := []) hF tX12_comesTo_ok 103 1 rfl rfl rfl rfl ?_
          refine g_goto hF (dAt tX12_comesTo_ok 104 rfl rfl) rfl ?_
          refine g_m [true, true, false, true, true, true, false, false] rfl ?_
          exact X12_comesTo_b6_ok hD hF hS hE fu _ _ _ _ _ H
      · have H := Hf8 c8
        refine g_p (S' := [.ref a]) hF tX12_comesTo_ok 38 1 rfl rfl rfl rfl ?_
        refine g_getR hF (dAt tX12_comesTo_ok 39 rfl rfl) flX12_28 hS.1 rfl ?_
        refine g_p (S' := [.int v4, .int x4, .ref (a + 7)]) hF tX12_comesTo_ok 40 2 rfl rfl rfl rfl ?_
        obtain ⟨Ht28, Hf28⟩ := oi H
        refine g_if_ne hF (dAt tX12_comesTo_ok 42 rfl rfl) rfl (fun c28 => ?_) (fun c28 => ?_)
        · have H := Hf28 c28
          refine g_p (S' := [.ref a, .int x4, .ref (a + 7)]) hF tX12_comesTo_ok 45 1 rfl rfl rfl rfl ?_
          refine g_getR hF (dAt tX12_comesTo_ok 46 rfl rfl) flX12_31 hS.1 rfl ?_
          refine g_p (S' := [.int v4, .ref (a + 8), .int x4, .ref (a + 7)]) hF tX12_comesTo_ok 47 1 rfl rfl rfl rfl ?_
          obtain ⟨v29, e30, H⟩ := ob H
          refine g_ild hF (dAt tX12_comesTo_ok 48 rfl rfl) hS.2.2.2.2.2.2.2.2.1 e30 ?_
          refine g_m [true, true, false, true, true, true, false, false] rfl ?_
          exact X12_comesTo_b86_ok hD hF hS hE (fun _ _ _ _ _ H => X12_comesTo_b6_ok hD hF hS hE fu _ _ _ _ _ H) H
        · have H := Ht28 c28
          refine g_p (S' := [.int v6, .int x4, .ref (a + 7)]) hF tX12_comesTo_ok 43 1 rfl rfl rfl rfl ?_
          refine g_goto hF (dAt tX12_comesTo_ok 44 rfl rfl) rfl ?_
          refine g_m [true, true, false, true, true, true, false, false] rfl ?_
          exact X12_comesTo_b86_ok hD hF hS hE (fun _ _ _ _ _ H => X12_comesTo_b6_ok hD hF hS hE fu _ _ _ _ _ H) H
def X12_comesTo_f (a : Nat) (x1 x2 x3 : Int32) (σ : Sig) : Option (Int32 × Sig) := X12_comesTo_b6 a FU x1 x3 0 x2 σ
set_option maxRecDepth 4000 in
set_option maxHeartbeats 1000000 in
theorem X12_comesTo_ok {D : Nat} {τ : Tau} {nx : Nat} {a : Nat} {x1 x2 x3 : Int32} {σ : Sig} {res : Int32} {rsg : Sig} (hD : 2 ≤ D) (hS : ShX12 τ a) (H : X12_comesTo_f a x1 x2 x3 σ = some (res, rsg)) : Ok D 0 0 yX12_comesTo cX12_comesTo 8 (some .int) [.ref a, .int x1, .int x2, .int x3] (τ, σ, nx) (some (.int res)) (τ, rsg, nx) := by
  refine ok_of (by decide +kernel) rfl (Nat.le_of_ble_eq_true rfl) (fun K X hF hE hN L0 hL0 => ?_)
  obtain rfl : [some (.ref a), some (.int x1), some (.int x2), some (.int x3), none, none, none, none] = L0 := hL0
  have hF : Fx K X cX12_comesTo 8 RX12 D 0 0 := hF
  refine g_p (L' := [some (.ref a), some (.int x1), some (.int x2), some (.int x3), some (.int 0), some (.int x2), none, none]) (S' := []) hF tX12_comesTo_ok 0 4 rfl rfl rfl rfl ?_
  refine g_m [true, true, false, true, true, true, false, false] rfl ?_
  exact X12_comesTo_b6_ok hD hF hS hE FU _ _ _ _ _ H
def X12_firstLine_b2 (a : Nat) : Nat → Int32 → Int32 → Sig → Option (Int32 × Sig)
  | 0, _, _, _ => none
  | fu + 1, x1, x2, σ => (ld 20240 (σ (a + 1)) (2550 + x1)).bind fun v1 => if v1 ≤ x2 then (some ((-1), σ)) else ((ld 20240 (σ (a + 1)) (2860 + ((16 * x1) + x2))).bind fun v4 => (ld 20240 (σ (a + 1)) (2760 + ((16 * x1) + x2))).bind fun v6 => if v4 = v6 then (some (((16 * x1) + x2), σ)) else ((ld 20240 (σ (a + 1)) (2760 + ((16 * x1) + x2))).bind fun v9 => (ld 20240 (σ (a + 1)) (2860 + ((16 * x1) + x2))).bind fun v11 => (X12_comesTo_f a x1 v9 v11 σ).bind fun ⟨v13, s14⟩ => if v13 = 1 then (some (((16 * x1) + x2), s14)) else (X12_firstLine_b2 a fu x1 (x2 + 1) s14)))
set_option maxRecDepth 4000 in
set_option maxHeartbeats 1000000 in
theorem X12_firstLine_b2_ok {K : Kt} {X : Cx} {D : Nat} {τ : Tau} {nx : Nat} {a : Nat} {res : Int32} {rsg : Sig}  (hD : 3 ≤ D) (hF : Fx K X cX12_firstLine 4 RX12 D 0 0) (hS : ShX12 τ a) (hE : En K X (some .int) 0 0 (some (.int res)) (τ, rsg, nx)) : ∀ (fu : Nat) (x1 x2 : Int32) (σ : Sig), X12_firstLine_b2 a fu x1 x2 σ = some (res, rsg) → G K X 4 0 0 2 [some (.ref a), some (.int x1), some (.int x2), none] [] (τ, σ, nx)
  | 0, _, _, _, H => nomatch H
  | fu + 1, x1, x2, σ, H => by
    refine g_p (S' := [.ref a, .int x2]) hF tX12_firstLine_ok 2 2 rfl rfl rfl rfl ?_
    refine g_getR hF (dAt tX12_firstLine_ok 4 rfl rfl) flX12_7 hS.1 rfl ?_
    refine g_p (S' := [.int (2550 + x1), .ref (a + 1), .int x2]) hF tX12_firstLine_ok 5 3 rfl rfl rfl rfl ?_
    obtain ⟨v1, e2, H⟩ := ob H
    refine g_ild hF (dAt tX12_firstLine_ok 8 rfl rfl) hS.2.1 e2 ?_
    obtain ⟨Ht3, Hf3⟩ := oi H
    refine g_icmp_ge hF (dAt tX12_firstLine_ok 9 rfl rfl) rfl (fun c3 => ?_) (fun c3 => ?_)
    · have H := Ht3 c3
      refine g_p (S' := [.int (-1)]) hF tX12_firstLine_ok 50 1 rfl rfl rfl rfl ?_
      exact g_iret hF (en_p H hE) (dAt tX12_firstLine_ok 51 rfl rfl) (by decide) (by decide)
    · have H := Hf3 c3
      refine g_p (L' := [some (.ref a), some (.int x1), some (.int x2), some (.int ((16 * x1) + x2))]) (S' := [.ref a]) hF tX12_firstLine_ok 10 7 rfl rfl rfl rfl ?_
      refine g_getR hF (dAt tX12_firstLine_ok 17 rfl rfl) flX12_7 hS.1 rfl ?_
      refine g_p (S' := [.int (2860 + ((16 * x1) + x2)), .ref (a + 1)]) hF tX12_firstLine_ok 18 3 rfl rfl rfl rfl ?_
      obtain ⟨v4, e5, H⟩ := ob H
      refine g_ild hF (dAt tX12_firstLine_ok 21 rfl rfl) hS.2.1 e5 ?_
      refine g_p (S' := [.ref a, .int v4]) hF tX12_firstLine_ok 22 1 rfl rfl rfl rfl ?_
      refine g_getR hF (dAt tX12_firstLine_ok 23 rfl rfl) flX12_7 hS.1 rfl ?_
      refine g_p (S' := [.int (2760 + ((16 * x1) + x2)), .ref (a + 1), .int v4]) hF tX12_firstLine_ok 24 3 rfl rfl rfl rfl ?_
      obtain ⟨v6, e7, H⟩ := ob H
      refine g_ild hF (dAt tX12_firstLine_ok 27 rfl rfl) hS.2.1 e7 ?_
      obtain ⟨Ht8, Hf8⟩ := oi H
      refine g_icmp_eq hF (dAt tX12_firstLine_ok 28 rfl rfl) rfl (fun c8 => ?_) (fun c8 => ?_)
      · have H := Ht8 c8
        refine g_p (S' := [.int ((16 * x1) + x2)]) hF tX12_firstLine_ok 46 1 rfl rfl rfl rfl ?_
        exact g_iret hF (en_p H hE) (dAt tX12_firstLine_ok 47 rfl rfl) (by decide) (by decide)
      · have H := Hf8 c8
        refine g_p (S' := [.ref a, .int x1, .ref a]) hF tX12_firstLine_ok 29 3 rfl rfl rfl rfl ?_
        refine g_getR hF (dAt tX12_firstLine_ok 32 rfl rfl) flX12_7 hS.1 rfl ?_
        refine g_p (S' := [.int (2760 + ((16 * x1) + x2)), .ref (a + 1), .int x1, .ref a]) hF tX12_firstLine_ok 33 3 rfl rfl rfl rfl ?_
        obtain ⟨v9, e10, H⟩ := ob H
        refine g_ild hF (dAt tX12_firstLine_ok 36 rfl rfl) hS.2.1 e10 ?_
        refine g_p (S' := [.ref a, .int v9, .int x1, .ref a]) hF tX12_firstLine_ok 37 1 rfl rfl rfl rfl ?_
        refine g_getR hF (dAt tX12_firstLine_ok 38 rfl rfl) flX12_7 hS.1 rfl ?_
        refine g_p (S' := [.int (2860 + ((16 * x1) + x2)), .ref (a + 1), .int v9, .int x1, .ref a]) hF tX12_firstLine_ok 39 3 rfl rfl rfl rfl ?_
        obtain ⟨v11, e12, H⟩ := ob H
        refine g_ild hF (dAt tX12_firstLine_ok 42 rfl rfl) hS.2.1 e12 ?_
        obtain ⟨⟨v13, s14⟩, e15, H⟩ := ob H
        refine g_cV (S := []) hF (X12_comesTo_ok (Nat.le_refl _) hS e15 K) mbX12_comesTo mvX12_comesTo mlX12_235 (by omega) (by decide) (dAt tX12_firstLine_ok 43 rfl rfl) hS.1 rfl rfl rfl (Nat.le_of_ble_eq_true rfl) rfl rfl (by decide) (by decide) rfl ?_
        refine g_p (S' := [.int 1, .int v13]) hF tX12_firstLine_ok 44 1 rfl rfl rfl rfl ?_
        obtain ⟨Ht16, Hf16⟩ := oi H
        refine g_icmp_ne hF (dAt tX12_firstLine_ok 45 rfl rfl) rfl (fun c16 => ?_) (fun c16 => ?_)
        · have H := Hf16 c16
          refine g_p (L' := [some (.ref a), some (.int x1), some (.int (x2 + 1)), some (.int ((16 * x1) + x2))]) (S' := []) hF tX12_firstLine_ok 48 1 rfl rfl rfl rfl ?_
          refine g_goto hF (dAt tX12_firstLine_ok 49 rfl rfl) rfl ?_
          refine g_m [true, true, true, false] rfl ?_
          exact X12_firstLine_b2_ok hD hF hS hE fu _ _ _ H
        · have H := Ht16 c16
          refine g_p (S' := [.int ((16 * x1) + x2)]) hF tX12_firstLine_ok 46 1 rfl rfl rfl rfl ?_
          exact g_iret hF (en_p H hE) (dAt tX12_firstLine_ok 47 rfl rfl) (by decide) (by decide)
def X12_firstLine_f (a : Nat) (x1 : Int32) (σ : Sig) : Option (Int32 × Sig) := X12_firstLine_b2 a FU x1 0 σ
set_option maxRecDepth 4000 in
set_option maxHeartbeats 1000000 in
theorem X12_firstLine_ok {D : Nat} {τ : Tau} {nx : Nat} {a : Nat} {x1 : Int32} {σ : Sig} {res : Int32} {rsg : Sig} (hD : 3 ≤ D) (hS : ShX12 τ a) (H : X12_firstLine_f a x1 σ = some (res, rsg)) : Ok D 0 0 yX12_firstLine cX12_firstLine 4 (some .int) [.ref a, .int x1] (τ, σ, nx) (some (.int res)) (τ, rsg, nx) := by
  refine ok_of (by decide +kernel) rfl (Nat.le_of_ble_eq_true rfl) (fun K X hF hE hN L0 hL0 => ?_)
  obtain rfl : [some (.ref a), some (.int x1), none, none] = L0 := hL0
  have hF : Fx K X cX12_firstLine 4 RX12 D 0 0 := hF
  refine g_p (L' := [some (.ref a), some (.int x1), some (.int 0), none]) (S' := []) hF tX12_firstLine_ok 0 2 rfl rfl rfl rfl ?_
  exact X12_firstLine_b2_ok hD hF hS hE FU _ _ _ H
def X12_isNight_f (x0 : Int32) (σ : Sig) : Option (Int32) := if x0 < 6 then (some 1) else (if x0 ≤ 21 then (some 0) else (some 1))
set_option maxRecDepth 4000 in
set_option maxHeartbeats 1000000 in
theorem X12_isNight_ok {D : Nat} {τ : Tau} {nx : Nat} {x0 : Int32} {σ : Sig} {res : Int32} (hD : 1 ≤ D) (H : X12_isNight_f x0 σ = some res) : Ok D 0 0 yX12_isNight cX12_isNight 1 (some .boolean) [.int x0] (τ, σ, nx) (some (.int res)) (τ, σ, nx) := by
  refine ok_of (by decide +kernel) rfl (Nat.le_of_ble_eq_true rfl) (fun K X hF hE hN L0 hL0 => ?_)
  obtain rfl : [some (.int x0)] = L0 := hL0
  have hF : Fx K X cX12_isNight 1 RX12 D 0 0 := hF
  refine g_p (S' := [.int 6, .int x0]) hF tX12_isNight_ok 0 2 rfl rfl rfl rfl ?_
  obtain ⟨Ht1, Hf1⟩ := oi H
  refine g_icmp_lt hF (dAt tX12_isNight_ok 2 rfl rfl) rfl (fun c1 => ?_) (fun c1 => ?_)
  · have H := Ht1 c1
    refine g_p (S' := [.int 1]) hF tX12_isNight_ok 6 1 rfl rfl rfl rfl ?_
    refine g_goto hF (dAt tX12_isNight_ok 7 rfl rfl) rfl ?_
    exact g_zret hF (en_i H hE) (Or.inr rfl) (dAt tX12_isNight_ok 9 rfl rfl) (by decide) (by decide)
  · have H := Hf1 c1
    refine g_p (S' := [.int 21, .int x0]) hF tX12_isNight_ok 3 2 rfl rfl rfl rfl ?_
    obtain ⟨Ht2, Hf2⟩ := oi H
    refine g_icmp_le hF (dAt tX12_isNight_ok 5 rfl rfl) rfl (fun c2 => ?_) (fun c2 => ?_)
    · have H := Ht2 c2
      refine g_p (S' := [.int 0]) hF tX12_isNight_ok 8 1 rfl rfl rfl rfl ?_
      exact g_zret hF (en_i H hE) (Or.inl rfl) (dAt tX12_isNight_ok 9 rfl rfl) (by decide) (by decide)
    · have H := Hf2 c2
      refine g_p (S' := [.int 1]) hF tX12_isNight_ok 6 1 rfl rfl rfl rfl ?_
      refine g_goto hF (dAt tX12_isNight_ok 7 rfl rfl) rfl ?_
      exact g_zret hF (en_i H hE) (Or.inr rfl) (dAt tX12_isNight_ok 9 rfl rfl) (by decide) (by decide)
def X12_isFeast_f (a : Nat) (x1 : Int32) (σ : Sig) : Option (Int32) := (ld 20240 (σ (a + 1)) 7).bind fun v1 => if v1 ≤ 0 then (some 0) else ((ld 20240 (σ (a + 1)) 7).bind fun v4 => if v4 = 0 then none else (if (x1 - x1 / v4 * v4) = 0 then (some 1) else (some 0)))
set_option maxRecDepth 4000 in
set_option maxHeartbeats 1000000 in
theorem X12_isFeast_ok {D : Nat} {τ : Tau} {nx : Nat} {a : Nat} {x1 : Int32} {σ : Sig} {res : Int32} (hD : 1 ≤ D) (hS : ShX12 τ a) (H : X12_isFeast_f a x1 σ = some res) : Ok D 0 0 yX12_isFeast cX12_isFeast 2 (some .boolean) [.ref a, .int x1] (τ, σ, nx) (some (.int res)) (τ, σ, nx) := by
  refine ok_of (by decide +kernel) rfl (Nat.le_of_ble_eq_true rfl) (fun K X hF hE hN L0 hL0 => ?_)
  obtain rfl : [some (.ref a), some (.int x1)] = L0 := hL0
  have hF : Fx K X cX12_isFeast 2 RX12 D 0 0 := hF
  refine g_p (S' := [.ref a]) hF tX12_isFeast_ok 0 1 rfl rfl rfl rfl ?_
  refine g_getR hF (dAt tX12_isFeast_ok 1 rfl rfl) flX12_7 hS.1 rfl ?_
  refine g_p (S' := [.int 7, .ref (a + 1)]) hF tX12_isFeast_ok 2 1 rfl rfl rfl rfl ?_
  obtain ⟨v1, e2, H⟩ := ob H
  refine g_ild hF (dAt tX12_isFeast_ok 3 rfl rfl) hS.2.1 e2 ?_
  obtain ⟨Ht3, Hf3⟩ := oi H
  refine g_if_le hF (dAt tX12_isFeast_ok 4 rfl rfl) rfl (fun c3 => ?_) (fun c3 => ?_)
  · have H := Ht3 c3
    refine g_p (S' := [.int 0]) hF tX12_isFeast_ok 14 1 rfl rfl rfl rfl ?_
    exact g_zret hF (en_i H hE) (Or.inl rfl) (dAt tX12_isFeast_ok 15 rfl rfl) (by decide) (by decide)
  · have H := Hf3 c3
    refine g_p (S' := [.ref a, .int x1]) hF tX12_isFeast_ok 5 2 rfl rfl rfl rfl ?_
    refine g_getR hF (dAt tX12_isFeast_ok 7 rfl rfl) flX12_7 hS.1 rfl ?_
    refine g_p (S' := [.int 7, .ref (a + 1), .int x1]) hF tX12_isFeast_ok 8 1 rfl rfl rfl rfl ?_
    obtain ⟨v4, e5, H⟩ := ob H
    refine g_ild hF (dAt tX12_isFeast_ok 9 rfl rfl) hS.2.1 e5 ?_
    obtain ⟨z6, H⟩ := on H
    refine g_irem hF (dAt tX12_isFeast_ok 10 rfl rfl) z6 ?_
    obtain ⟨Ht7, Hf7⟩ := oi H
    refine g_if_ne hF (dAt tX12_isFeast_ok 11 rfl rfl) rfl (fun c7 => ?_) (fun c7 => ?_)
    · have H := Hf7 c7
      refine g_p (S' := [.int 0]) hF tX12_isFeast_ok 14 1 rfl rfl rfl rfl ?_
      exact g_zret hF (en_i H hE) (Or.inl rfl) (dAt tX12_isFeast_ok 15 rfl rfl) (by decide) (by decide)
    · have H := Ht7 c7
      refine g_p (S' := [.int 1]) hF tX12_isFeast_ok 12 1 rfl rfl rfl rfl ?_
      refine g_goto hF (dAt tX12_isFeast_ok 13 rfl rfl) rfl ?_
      exact g_zret hF (en_i H hE) (Or.inr rfl) (dAt tX12_isFeast_ok 15 rfl rfl) (by decide) (by decide)
def X12_isWord_b73 (a : Nat) (x1 y0 y1 : Int32) (σ : Sig) : Option (Int32 × Sig) := (st 12 σ (a + 8) y1 y0).bind fun s1 => (X12_firstLine_f a x1 s1).bind fun ⟨v3, s4⟩ => if v3 = (-1) then (some (0, s4)) else (some (1, s4))
set_option maxRecDepth 4000 in
set_option maxHeartbeats 1000000 in
theorem X12_isWord_b73_ok {K : Kt} {X : Cx} {D : Nat} {τ : Tau} {nx : Nat} {a : Nat} {res : Int32} {rsg : Sig}  (hD : 4 ≤ D) (hF : Fx K X cX12_isWord 7 RX12 D 0 0) (hS : ShX12 τ a) (hE : En K X (some .boolean) 0 0 (some (.int res)) (τ, rsg, nx)) {x1 y0 y1 : Int32} {σ : Sig} (H : X12_isWord_b73 a x1 y0 y1 σ = some (res, rsg)) : G K X 7 0 0 73 [some (.ref a), some (.int x1), none, none, none, none, none] [.int y0, .int y1, .ref (a + 8)] (τ, σ, nx) := by
  obtain ⟨s1, e2, H⟩ := ob H
  refine g_ist hF (dAt tX12_isWord_ok 42 rfl rfl) hS.2.2.2.2.2.2.2.2.1 e2 ?_
  refine g_p (S' := [.int x1, .ref a]) hF tX12_isWord_ok 43 2 rfl rfl rfl rfl ?_
  obtain ⟨⟨v3, s4⟩, e5, H⟩ := ob H
  refine g_cV (S := []) hF (X12_firstLine_ok (Nat.le_refl _) hS e5 K) mbX12_firstLine mvX12_firstLine mlX12_241 (by omega) (by decide) (dAt tX12_isWord_ok 45 rfl rfl) hS.1 rfl rfl rfl (Nat.le_of_ble_eq_true rfl) rfl rfl (by decide) (by decide) rfl ?_
  refine g_p (S' := [.int (-1), .int v3]) hF tX12_isWord_ok 46 1 rfl rfl rfl rfl ?_
  obtain ⟨Ht6, Hf6⟩ := oi H
  refine g_icmp_eq hF (dAt tX12_isWord_ok 47 rfl rfl) rfl (fun c6 => ?_) (fun c6 => ?_)
  · have H := Ht6 c6
    refine g_p (S' := [.int 0]) hF tX12_isWord_ok 50 1 rfl rfl rfl rfl ?_
    exact g_zret hF (en_p H hE) (Or.inl rfl) (dAt tX12_isWord_ok 51 rfl rfl) (by decide) (by decide)
  · have H := Hf6 c6
    refine g_p (S' := [.int 1]) hF tX12_isWord_ok 48 1 rfl rfl rfl rfl ?_
    refine g_goto hF (dAt tX12_isWord_ok 49 rfl rfl) rfl ?_
    exact g_zret hF (en_p H hE) (Or.inr rfl) (dAt tX12_isWord_ok 51 rfl rfl) (by decide) (by decide)
def X12_isWord_b56 (a : Nat) (x1 x5 y0 y1 : Int32) (σ : Sig) : Option (Int32 × Sig) := (st 12 σ (a + 8) y1 y0).bind fun s1 => if x5 = 0 then (X12_isWord_b73 a x1 0 6 s1) else (X12_isWord_b73 a x1 1 6 s1)
set_option maxRecDepth 4000 in
set_option maxHeartbeats 1000000 in
theorem X12_isWord_b56_ok {K : Kt} {X : Cx} {D : Nat} {τ : Tau} {nx : Nat} {a : Nat} {res : Int32} {rsg : Sig}  (hD : 4 ≤ D) (hF : Fx K X cX12_isWord 7 RX12 D 0 0) (hS : ShX12 τ a) (hE : En K X (some .boolean) 0 0 (some (.int res)) (τ, rsg, nx)) {x1 x5 y0 y1 : Int32} {σ : Sig} (H : X12_isWord_b56 a x1 x5 y0 y1 σ = some (res, rsg)) : G K X 7 0 0 56 [some (.ref a), some (.int x1), none, none, none, some (.int x5), none] [.int y0, .int y1, .ref (a + 8)] (τ, σ, nx) := by
  obtain ⟨s1, e2, H⟩ := ob H
  refine g_ist hF (dAt tX12_isWord_ok 33 rfl rfl) hS.2.2.2.2.2.2.2.2.1 e2 ?_
  refine g_p (S' := [.ref a]) hF tX12_isWord_ok 34 1 rfl rfl rfl rfl ?_
  refine g_getR hF (dAt tX12_isWord_ok 35 rfl rfl) flX12_31 hS.1 rfl ?_
  refine g_p (S' := [.int x5, .int 6, .ref (a + 8)]) hF tX12_isWord_ok 36 2 rfl rfl rfl rfl ?_
  obtain ⟨Ht3, Hf3⟩ := oi H
  refine g_if_eq hF (dAt tX12_isWord_ok 38 rfl rfl) rfl (fun c3 => ?_) (fun c3 => ?_)
  · have H := Ht3 c3
    refine g_p (S' := [.int 0, .int 6, .ref (a + 8)]) hF tX12_isWord_ok 41 1 rfl rfl rfl rfl ?_
    refine g_m [true, true, false, false, false, false, false] rfl ?_
    exact X12_isWord_b73_ok hD hF hS hE H
  · have H := Hf3 c3
    refine g_p (S' := [.int 1, .int 6, .ref (a + 8)]) hF tX12_isWord_ok 39 1 rfl rfl rfl rfl ?_
    refine g_goto hF (dAt tX12_isWord_ok 40 rfl rfl) rfl ?_
    refine g_m [true, true, false, false, false, false, false] rfl ?_
    exact X12_isWord_b73_ok hD hF hS hE H
def X12_isWord_b40 (a : Nat) (x1 x5 x6 y0 y1 : Int32) (σ : Sig) : Option (Int32 × Sig) := (st 12 σ (a + 8) y1 y0).bind fun s1 => if x6 = 0 then (X12_isWord_b56 a x1 x5 0 5 s1) else (X12_isWord_b56 a x1 x5 1 5 s1)
set_option maxRecDepth 4000 in
set_option maxHeartbeats 1000000 in
theorem X12_isWord_b40_ok {K : Kt} {X : Cx} {D : Nat} {τ : Tau} {nx : Nat} {a : Nat} {res : Int32} {rsg : Sig}  (hD : 4 ≤ D) (hF : Fx K X cX12_isWord 7 RX12 D 0 0) (hS : ShX12 τ a) (hE : En K X (some .boolean) 0 0 (some (.int res)) (τ, rsg, nx)) {x1 x5 x6 y0 y1 : Int32} {σ : Sig} (H : X12_isWord_b40 a x1 x5 x6 y0 y1 σ = some (res, rsg)) : G K X 7 0 0 40 [some (.ref a), some (.int x1), none, none, none, some (.int x5), some (.int x6)] [.int y0, .int y1, .ref (a + 8)] (τ, σ, nx) := by
  obtain ⟨s1, e2, H⟩ := ob H
  refine g_ist hF (dAt tX12_isWord_ok 24 rfl rfl) hS.2.2.2.2.2.2.2.2.1 e2 ?_
  refine g_p (S' := [.ref a]) hF tX12_isWord_ok 25 1 rfl rfl rfl rfl ?_
  refine g_getR hF (dAt tX12_isWord_ok 26 rfl rfl) flX12_31 hS.1 rfl ?_
  refine g_p (S' := [.int x6, .int 5, .ref (a + 8)]) hF tX12_isWord_ok 27 2 rfl rfl rfl rfl ?_
  obtain ⟨Ht3, Hf3⟩ := oi H
  refine g_if_eq hF (dAt tX12_isWord_ok 29 rfl rfl) rfl (fun c3 => ?_) (fun c3 => ?_)
  · have H := Ht3 c3
    refine g_p (S' := [.int 0, .int 5, .ref (a + 8)]) hF tX12_isWord_ok 32 1 rfl rfl rfl rfl ?_
    refine g_m [true, true, false, false, false, true, false] rfl ?_
    exact X12_isWord_b56_ok hD hF hS hE H
  · have H := Hf3 c3
    refine g_p (S' := [.int 1, .int 5, .ref (a + 8)]) hF tX12_isWord_ok 30 1 rfl rfl rfl rfl ?_
    refine g_goto hF (dAt tX12_isWord_ok 31 rfl rfl) rfl ?_
    refine g_m [true, true, false, false, false, true, false] rfl ?_
    exact X12_isWord_b56_ok hD hF hS hE H
def X12_isWord_f (a : Nat) (x1 x2 x3 x4 x5 x6 : Int32) (σ : Sig) : Option (Int32 × Sig) := (st 12 σ (a + 8) 1 x3).bind fun s1 => (st 12 s1 (a + 8) 2 x2).bind fun s3 => (st 12 s3 (a + 8) 3 x4).bind fun s5 => (X12_isNight_f x4 s5).bind fun v7 => if v7 = 0 then (X12_isWord_b40 a x1 x5 x6 0 4 s5) else (X12_isWord_b40 a x1 x5 x6 1 4 s5)
set_option maxRecDepth 4000 in
set_option maxHeartbeats 1000000 in
theorem X12_isWord_ok {D : Nat} {τ : Tau} {nx : Nat} {a : Nat} {x1 x2 x3 x4 x5 x6 : Int32} {σ : Sig} {res : Int32} {rsg : Sig} (hD : 4 ≤ D) (hS : ShX12 τ a) (H : X12_isWord_f a x1 x2 x3 x4 x5 x6 σ = some (res, rsg)) : Ok D 0 0 yX12_isWord cX12_isWord 7 (some .boolean) [.ref a, .int x1, .int x2, .int x3, .int x4, .int x5, .int x6] (τ, σ, nx) (some (.int res)) (τ, rsg, nx) := by
  refine ok_of (by decide +kernel) rfl (Nat.le_of_ble_eq_true rfl) (fun K X hF hE hN L0 hL0 => ?_)
  obtain rfl : [some (.ref a), some (.int x1), some (.int x2), some (.int x3), some (.int x4), some (.int x5), some (.int x6)] = L0 := hL0
  have hF : Fx K X cX12_isWord 7 RX12 D 0 0 := hF
  refine g_p (S' := [.ref a]) hF tX12_isWord_ok 0 1 rfl rfl rfl rfl ?_
  refine g_getR hF (dAt tX12_isWord_ok 1 rfl rfl) flX12_31 hS.1 rfl ?_
  refine g_p (S' := [.int x3, .int 1, .ref (a + 8)]) hF tX12_isWord_ok 2 2 rfl rfl rfl rfl ?_
  obtain ⟨s1, e2, H⟩ := ob H
  refine g_ist hF (dAt tX12_isWord_ok 4 rfl rfl) hS.2.2.2.2.2.2.2.2.1 e2 ?_
  refine g_p (S' := [.ref a]) hF tX12_isWord_ok 5 1 rfl rfl rfl rfl ?_
  refine g_getR hF (dAt tX12_isWord_ok 6 rfl rfl) flX12_31 hS.1 rfl ?_
  refine g_p (S' := [.int x2, .int 2, .ref (a + 8)]) hF tX12_isWord_ok 7 2 rfl rfl rfl rfl ?_
  obtain ⟨s3, e4, H⟩ := ob H
  refine g_ist hF (dAt tX12_isWord_ok 9 rfl rfl) hS.2.2.2.2.2.2.2.2.1 e4 ?_
  refine g_p (S' := [.ref a]) hF tX12_isWord_ok 10 1 rfl rfl rfl rfl ?_
  refine g_getR hF (dAt tX12_isWord_ok 11 rfl rfl) flX12_31 hS.1 rfl ?_
  refine g_p (S' := [.int x4, .int 3, .ref (a + 8)]) hF tX12_isWord_ok 12 2 rfl rfl rfl rfl ?_
  obtain ⟨s5, e6, H⟩ := ob H
  refine g_ist hF (dAt tX12_isWord_ok 14 rfl rfl) hS.2.2.2.2.2.2.2.2.1 e6 ?_
  refine g_p (S' := [.ref a]) hF tX12_isWord_ok 15 1 rfl rfl rfl rfl ?_
  refine g_getR hF (dAt tX12_isWord_ok 16 rfl rfl) flX12_31 hS.1 rfl ?_
  refine g_p (S' := [.int x4, .int 4, .ref (a + 8)]) hF tX12_isWord_ok 17 2 rfl rfl rfl rfl ?_
  obtain ⟨v7, e8, H⟩ := ob H
  refine g_cS (S := [.int 4, .ref (a + 8)]) hF (X12_isNight_ok (Nat.le_refl _)  e8 K) mbX12_isNight msX12_isNight mlX12_238 (by omega) (by decide) (dAt tX12_isWord_ok 19 rfl rfl) rfl rfl (Nat.le_of_ble_eq_true rfl) rfl rfl (by decide) (by decide) rfl ?_
  obtain ⟨Ht9, Hf9⟩ := oi H
  refine g_if_eq hF (dAt tX12_isWord_ok 20 rfl rfl) rfl (fun c9 => ?_) (fun c9 => ?_)
  · have H := Ht9 c9
    refine g_p (S' := [.int 0, .int 4, .ref (a + 8)]) hF tX12_isWord_ok 23 1 rfl rfl rfl rfl ?_
    refine g_m [true, true, false, false, false, true, true] rfl ?_
    exact X12_isWord_b40_ok hD hF hS hE H
  · have H := Hf9 c9
    refine g_p (S' := [.int 1, .int 4, .ref (a + 8)]) hF tX12_isWord_ok 21 1 rfl rfl rfl rfl ?_
    refine g_goto hF (dAt tX12_isWord_ok 22 rfl rfl) rfl ?_
    refine g_m [true, true, false, false, false, true, true] rfl ?_
    exact X12_isWord_b40_ok hD hF hS hE H
def X12_word_f (a : Nat) (x1 x2 x3 x4 x5 x6 : Int32) (σ : Sig) : Option (Int32 × Sig) := (X12_isIn_f x1 0 1 σ).bind fun v1 => if v1 = 0 then (some ((-1), σ)) else ((X12_isIn_f x2 0 3 σ).bind fun v4 => if v4 = 0 then (some ((-1), σ)) else ((X12_isIn_f x3 0 99 σ).bind fun v7 => if v7 = 0 then (some ((-1), σ)) else ((X12_isIn_f x4 0 23 σ).bind fun v10 => if v10 = 0 then (some ((-1), σ)) else ((X12_isWord_f a x1 x2 x3 x4 x5 x6 σ).bind fun ⟨v13, s14⟩ => if v13 = 0 then (some (0, s14)) else (some (1, s14))))))
set_option maxRecDepth 4000 in
set_option maxHeartbeats 1000000 in
theorem X12_word_ok {D : Nat} {τ : Tau} {nx : Nat} {a : Nat} {x1 x2 x3 x4 x5 x6 : Int32} {σ : Sig} {res : Int32} {rsg : Sig} (hD : 5 ≤ D) (hS : ShX12 τ a) (H : X12_word_f a x1 x2 x3 x4 x5 x6 σ = some (res, rsg)) : Ok D 0 0 yX12_word cX12_word 7 (some .int) [.ref a, .int x1, .int x2, .int x3, .int x4, .int x5, .int x6] (τ, σ, nx) (some (.int res)) (τ, rsg, nx) := by
  refine ok_of (by decide +kernel) rfl (Nat.le_of_ble_eq_true rfl) (fun K X hF hE hN L0 hL0 => ?_)
  obtain rfl : [some (.ref a), some (.int x1), some (.int x2), some (.int x3), some (.int x4), some (.int x5), some (.int x6)] = L0 := hL0
  have hF : Fx K X cX12_word 7 RX12 D 0 0 := hF
  refine g_p (S' := [.int 1, .int 0, .int x1]) hF tX12_word_ok 0 3 rfl rfl rfl rfl ?_
  obtain ⟨v1, e2, H⟩ := ob H
  refine g_cS (S := []) hF (X12_isIn_ok (Nat.le_refl _)  e2 K) mbX12_isIn msX12_isIn mlX12_50 (by omega) (by decide) (dAt tX12_word_ok 3 rfl rfl) rfl rfl (Nat.le_of_ble_eq_true rfl) rfl rfl (by decide) (by decide) rfl ?_
  obtain ⟨Ht3, Hf3⟩ := oi H
  refine g_if_eq hF (dAt tX12_word_ok 4 rfl rfl) rfl (fun c3 => ?_) (fun c3 => ?_)
  · have H := Ht3 c3
    refine g_p (S' := [.int (-1)]) hF tX12_word_ok 20 1 rfl rfl rfl rfl ?_
    exact g_iret hF (en_p H hE) (dAt tX12_word_ok 21 rfl rfl) (by decide) (by decide)
  · have H := Hf3 c3
    refine g_p (S' := [.int 3, .int 0, .int x2]) hF tX12_word_ok 5 3 rfl rfl rfl rfl ?_
    obtain ⟨v4, e5, H⟩ := ob H
    refine g_cS (S := []) hF (X12_isIn_ok (Nat.le_refl _)  e5 K) mbX12_isIn msX12_isIn mlX12_50 (by omega) (by decide) (dAt tX12_word_ok 8 rfl rfl) rfl rfl (Nat.le_of_ble_eq_true rfl) rfl rfl (by decide) (by decide) rfl ?_
    obtain ⟨Ht6, Hf6⟩ := oi H
    refine g_if_eq hF (dAt tX12_word_ok 9 rfl rfl) rfl (fun c6 => ?_) (fun c6 => ?_)
    · have H := Ht6 c6
      refine g_p (S' := [.int (-1)]) hF tX12_word_ok 20 1 rfl rfl rfl rfl ?_
      exact g_iret hF (en_p H hE) (dAt tX12_word_ok 21 rfl rfl) (by decide) (by decide)
    · have H := Hf6 c6
      refine g_p (S' := [.int 99, .int 0, .int x3]) hF tX12_word_ok 10 3 rfl rfl rfl rfl ?_
      obtain ⟨v7, e8, H⟩ := ob H
      refine g_cS (S := []) hF (X12_isIn_ok (Nat.le_refl _)  e8 K) mbX12_isIn msX12_isIn mlX12_50 (by omega) (by decide) (dAt tX12_word_ok 13 rfl rfl) rfl rfl (Nat.le_of_ble_eq_true rfl) rfl rfl (by decide) (by decide) rfl ?_
      obtain ⟨Ht9, Hf9⟩ := oi H
      refine g_if_eq hF (dAt tX12_word_ok 14 rfl rfl) rfl (fun c9 => ?_) (fun c9 => ?_)
      · have H := Ht9 c9
        refine g_p (S' := [.int (-1)]) hF tX12_word_ok 20 1 rfl rfl rfl rfl ?_
        exact g_iret hF (en_p H hE) (dAt tX12_word_ok 21 rfl rfl) (by decide) (by decide)
      · have H := Hf9 c9
        refine g_p (S' := [.int 23, .int 0, .int x4]) hF tX12_word_ok 15 3 rfl rfl rfl rfl ?_
        obtain ⟨v10, e11, H⟩ := ob H
        refine g_cS (S := []) hF (X12_isIn_ok (Nat.le_refl _)  e11 K) mbX12_isIn msX12_isIn mlX12_50 (by omega) (by decide) (dAt tX12_word_ok 18 rfl rfl) rfl rfl (Nat.le_of_ble_eq_true rfl) rfl rfl (by decide) (by decide) rfl ?_
        obtain ⟨Ht12, Hf12⟩ := oi H
        refine g_if_ne hF (dAt tX12_word_ok 19 rfl rfl) rfl (fun c12 => ?_) (fun c12 => ?_)
        · have H := Hf12 c12
          refine g_p (S' := [.int x6, .int x5, .int x4, .int x3, .int x2, .int x1, .ref a]) hF tX12_word_ok 22 7 rfl rfl rfl rfl ?_
          obtain ⟨⟨v13, s14⟩, e15, H⟩ := ob H
          refine g_cV (S := []) hF (X12_isWord_ok (Nat.le_refl _) hS e15 K) mbX12_isWord mvX12_isWord mlX12_244 (by omega) (by decide) (dAt tX12_word_ok 29 rfl rfl) hS.1 rfl rfl rfl (Nat.le_of_ble_eq_true rfl) rfl rfl (by decide) (by decide) rfl ?_
          obtain ⟨Ht16, Hf16⟩ := oi H
          refine g_if_eq hF (dAt tX12_word_ok 30 rfl rfl) rfl (fun c16 => ?_) (fun c16 => ?_)
          · have H := Ht16 c16
            refine g_p (S' := [.int 0]) hF tX12_word_ok 33 1 rfl rfl rfl rfl ?_
            exact g_iret hF (en_p H hE) (dAt tX12_word_ok 34 rfl rfl) (by decide) (by decide)
          · have H := Hf16 c16
            refine g_p (S' := [.int 1]) hF tX12_word_ok 31 1 rfl rfl rfl rfl ?_
            refine g_goto hF (dAt tX12_word_ok 32 rfl rfl) rfl ?_
            exact g_iret hF (en_p H hE) (dAt tX12_word_ok 34 rfl rfl) (by decide) (by decide)
        · have H := Ht12 c12
          refine g_p (S' := [.int (-1)]) hF tX12_word_ok 20 1 rfl rfl rfl rfl ?_
          exact g_iret hF (en_p H hE) (dAt tX12_word_ok 21 rfl rfl) (by decide) (by decide)
def X12_hourNow_f (a : Nat) (σ : Sig) : Option (Int32) := (ld 20240 (σ (a + 1)) 2).bind fun v1 => some (v1 / 4)
set_option maxRecDepth 4000 in
set_option maxHeartbeats 1000000 in
theorem X12_hourNow_ok {D : Nat} {τ : Tau} {nx : Nat} {a : Nat} {σ : Sig} {res : Int32} (hD : 1 ≤ D) (hS : ShX12 τ a) (H : X12_hourNow_f a σ = some res) : Ok D 0 0 yX12_hourNow cX12_hourNow 1 (some .int) [.ref a] (τ, σ, nx) (some (.int res)) (τ, σ, nx) := by
  refine ok_of (by decide +kernel) rfl (Nat.le_of_ble_eq_true rfl) (fun K X hF hE hN L0 hL0 => ?_)
  obtain rfl : [some (.ref a)] = L0 := hL0
  have hF : Fx K X cX12_hourNow 1 RX12 D 0 0 := hF
  refine g_p (S' := [.ref a]) hF tX12_hourNow_ok 0 1 rfl rfl rfl rfl ?_
  refine g_getR hF (dAt tX12_hourNow_ok 1 rfl rfl) flX12_7 hS.1 rfl ?_
  refine g_p (S' := [.int 2, .ref (a + 1)]) hF tX12_hourNow_ok 2 1 rfl rfl rfl rfl ?_
  obtain ⟨v1, e2, H⟩ := ob H
  refine g_ild hF (dAt tX12_hourNow_ok 3 rfl rfl) hS.2.1 e2 ?_
  refine g_p (S' := [.int 4, .int v1]) hF tX12_hourNow_ok 4 1 rfl rfl rfl rfl ?_
  refine g_idiv hF (dAt tX12_hourNow_ok 5 rfl rfl) (by decide) ?_
  exact g_iret hF (en_i H hE) (dAt tX12_hourNow_ok 6 rfl rfl) (by decide) (by decide)
def X12_left_b53 (a : Nat) (σ : Sig) (k5 : Int32 → Int32 → Int32 → Int32 → Option (Int32)) (x1 x2 x4 y0 y1 : Int32) : Option (Int32) := if y0 = x1 then ((X12_debtOf_f a x4 2 σ).bind fun v2 => k5 x1 x2 (y1 + v2) (x4 + 1)) else (k5 x1 x2 (y1 + 0) (x4 + 1))
set_option maxRecDepth 4000 in
set_option maxHeartbeats 1000000 in
theorem X12_left_b53_ok {K : Kt} {X : Cx} {D : Nat} {τ : Tau} {nx : Nat} {a : Nat} {res : Int32} {σ : Sig}  (hD : 3 ≤ D) (hF : Fx K X cX12_left 5 RX12 D 0 0) (hS : ShX12 τ a) (hE : En K X (some .int) 0 0 (some (.int res)) (τ, σ, nx)) {k5 : Int32 → Int32 → Int32 → Int32 → Option (Int32)} (hk5 : ∀ (x1 x2 x3 x4 : Int32), k5 x1 x2 x3 x4 = some res → G K X 5 0 0 5 [some (.ref a), some (.int x1), some (.int x2), some (.int x3), some (.int x4)] [] (τ, σ, nx)) {x1 x2 x4 y0 y1 : Int32} (H : X12_left_b53 a σ k5 x1 x2 x4 y0 y1 = some res) : G K X 5 0 0 53 [some (.ref a), some (.int x1), some (.int x2), none, some (.int x4)] [.int y0, .int y1] (τ, σ, nx) := by
  refine g_p (S' := [.int x1, .int y0, .int y1]) hF tX12_left_ok 29 1 rfl rfl rfl rfl ?_
  obtain ⟨Ht1, Hf1⟩ := oi H
  refine g_icmp_ne hF (dAt tX12_left_ok 30 rfl rfl) rfl (fun c1 => ?_) (fun c1 => ?_)
  · have H := Hf1 c1
    refine g_p (L' := [some (.ref a), some (.int x1), some (.int x2), some (.int (y1 + 0)), some (.int (x4 + 1))]) (S' := []) hF tX12_left_ok 36 4 rfl rfl rfl rfl ?_
    refine g_goto hF (dAt tX12_left_ok 40 rfl rfl) rfl ?_
    exact hk5 _ _ _ _ H
  · have H := Ht1 c1
    refine g_p (S' := [.int 2, .int x4, .ref a, .int y1]) hF tX12_left_ok 31 3 rfl rfl rfl rfl ?_
    obtain ⟨v2, e3, H⟩ := ob H
    refine g_cV (S := [.int y1]) hF (X12_debtOf_ok (Nat.le_refl _) hS e3 K) mbX12_debtOf mvX12_debtOf mlX12_76 (by omega) (by decide) (dAt tX12_left_ok 34 rfl rfl) hS.1 rfl rfl rfl (Nat.le_of_ble_eq_true rfl) rfl rfl (by decide) (by decide) rfl ?_
    refine g_goto hF (dAt tX12_left_ok 35 rfl rfl) rfl ?_
    refine g_p (L' := [some (.ref a), some (.int x1), some (.int x2), some (.int (y1 + v2)), some (.int (x4 + 1))]) (S' := []) hF tX12_left_ok 37 3 rfl rfl rfl rfl ?_
    refine g_goto hF (dAt tX12_left_ok 40 rfl rfl) rfl ?_
    exact hk5 _ _ _ _ H
def X12_left_b5 (a : Nat) (σ : Sig) : Nat → Int32 → Int32 → Int32 → Int32 → Option (Int32)
  | 0, _, _, _, _ => none
  | fu + 1, x1, x2, x3, x4 => (ld 20240 (σ (a + 1)) 10).bind fun v1 => if v1 ≤ x4 then (some x3) else (if x2 = 0 then ((X12_debtOf_f a x4 0 σ).bind fun v10 => X12_left_b53 a σ (X12_left_b5 a σ fu) x1 x2 x4 v10 x3) else (if x2 = 1 then ((X12_debtOf_f a x4 1 σ).bind fun v8 => X12_left_b53 a σ (X12_left_b5 a σ fu) x1 x2 x4 v8 x3) else ((X12_workerOf_f a x4 σ).bind fun v6 => X12_left_b53 a σ (X12_left_b5 a σ fu) x1 x2 x4 v6 x3)))
set_option maxRecDepth 4000 in
set_option maxHeartbeats 1000000 in
theorem X12_left_b5_ok {K : Kt} {X : Cx} {D : Nat} {τ : Tau} {nx : Nat} {a : Nat} {res : Int32} {σ : Sig}  (hD : 3 ≤ D) (hF : Fx K X cX12_left 5 RX12 D 0 0) (hS : ShX12 τ a) (hE : En K X (some .int) 0 0 (some (.int res)) (τ, σ, nx)) : ∀ (fu : Nat) (x1 x2 x3 x4 : Int32), X12_left_b5 a σ fu x1 x2 x3 x4 = some res → G K X 5 0 0 5 [some (.ref a), some (.int x1), some (.int x2), some (.int x3), some (.int x4)] [] (τ, σ, nx)
  | 0, _, _, _, _, H => nomatch H
  | fu + 1, x1, x2, x3, x4, H => by
    refine g_p (S' := [.ref a, .int x4]) hF tX12_left_ok 4 2 rfl rfl rfl rfl ?_
    refine g_getR hF (dAt tX12_left_ok 6 rfl rfl) flX12_7 hS.1 rfl ?_
    refine g_p (S' := [.int 10, .ref (a + 1), .int x4]) hF tX12_left_ok 7 1 rfl rfl rfl rfl ?_
    obtain ⟨v1, e2, H⟩ := ob H
    refine g_ild hF (dAt tX12_left_ok 8 rfl rfl) hS.2.1 e2 ?_
    obtain ⟨Ht3, Hf3⟩ := oi H
    refine g_icmp_ge hF (dAt tX12_left_ok 9 rfl rfl) rfl (fun c3 => ?_) (fun c3 => ?_)
    · have H := Ht3 c3
      refine g_p (S' := [.int x3]) hF tX12_left_ok 41 1 rfl rfl rfl rfl ?_
      exact g_iret hF (en_i H hE) (dAt tX12_left_ok 42 rfl rfl) (by decide) (by decide)
    · have H := Hf3 c3
      refine g_p (S' := [.int x2, .int x3]) hF tX12_left_ok 10 2 rfl rfl rfl rfl ?_
      obtain ⟨Ht4, Hf4⟩ := oi H
      refine g_if_ne hF (dAt tX12_left_ok 12 rfl rfl) rfl (fun c4 => ?_) (fun c4 => ?_)
      · have H := Hf4 c4
        refine g_p (S' := [.int 1, .int x2, .int x3]) hF tX12_left_ok 18 2 rfl rfl rfl rfl ?_
        obtain ⟨Ht5, Hf5⟩ := oi H
        refine g_icmp_ne hF (dAt tX12_left_ok 20 rfl rfl) rfl (fun c5 => ?_) (fun c5 => ?_)
        · have H := Hf5 c5
          refine g_p (S' := [.int x4, .ref a, .int x3]) hF tX12_left_ok 26 2 rfl rfl rfl rfl ?_
          obtain ⟨v6, e7, H⟩ := ob H
          refine g_cV (S := [.int x3]) hF (X12_workerOf_ok (Nat.le_refl _) hS e7 K) mbX12_workerOf mvX12_workerOf mlX12_79 (by omega) (by decide) (dAt tX12_left_ok 28 rfl rfl) hS.1 rfl rfl rfl (Nat.le_of_ble_eq_true rfl) rfl rfl (by decide) (by decide) rfl ?_
          refine g_m [true, true, true, false, true] rfl ?_
          exact X12_left_b53_ok hD hF hS hE (fun _ _ _ _ H => X12_left_b5_ok hD hF hS hE fu _ _ _ _ H) H
        · have H := Ht5 c5
          refine g_p (S' := [.int 1, .int x4, .ref a, .int x3]) hF tX12_left_ok 21 3 rfl rfl rfl rfl ?_
          obtain ⟨v8, e9, H⟩ := ob H
          refine g_cV (S := [.int x3]) hF (X12_debtOf_ok (Nat.le_refl _) hS e9 K) mbX12_debtOf mvX12_debtOf mlX12_76 (by omega) (by decide) (dAt tX12_left_ok 24 rfl rfl) hS.1 rfl rfl rfl (Nat.le_of_ble_eq_true rfl) rfl rfl (by decide) (by decide) rfl ?_
          refine g_goto hF (dAt tX12_left_ok 25 rfl rfl) rfl ?_
          refine g_m [true, true, true, false, true] rfl ?_
          exact X12_left_b53_ok hD hF hS hE (fun _ _ _ _ H => X12_left_b5_ok hD hF hS hE fu _ _ _ _ H) H
      · have H := Ht4 c4
        refine g_p (S' := [.int 0, .int x4, .ref a, .int x3]) hF tX12_left_ok 13 3 rfl rfl rfl rfl ?_
        obtain ⟨v10, e11, H⟩ := ob H
        refine g_cV (S := [.int x3]) hF (X12_debtOf_ok (Nat.le_refl _) hS e11 K) mbX12_debtOf mvX12_debtOf mlX12_76 (by omega) (by decide) (dAt tX12_left_ok 16 rfl rfl) hS.1 rfl rfl rfl (Nat.le_of_ble_eq_true rfl) rfl rfl (by decide) (by decide) rfl ?_
        refine g_goto hF (dAt tX12_left_ok 17 rfl rfl) rfl ?_
        refine g_m [true, true, true, false, true] rfl ?_
        exact X12_left_b53_ok hD hF hS hE (fun _ _ _ _ H => X12_left_b5_ok hD hF hS hE fu _ _ _ _ H) H
def X12_left_f (a : Nat) (x1 x2 : Int32) (σ : Sig) : Option (Int32) := X12_left_b5 a σ FU x1 x2 0 0
set_option maxRecDepth 4000 in
set_option maxHeartbeats 1000000 in
theorem X12_left_ok {D : Nat} {τ : Tau} {nx : Nat} {a : Nat} {x1 x2 : Int32} {σ : Sig} {res : Int32} (hD : 3 ≤ D) (hS : ShX12 τ a) (H : X12_left_f a x1 x2 σ = some res) : Ok D 0 0 yX12_left cX12_left 5 (some .int) [.ref a, .int x1, .int x2] (τ, σ, nx) (some (.int res)) (τ, σ, nx) := by
  refine ok_of (by decide +kernel) rfl (Nat.le_of_ble_eq_true rfl) (fun K X hF hE hN L0 hL0 => ?_)
  obtain rfl : [some (.ref a), some (.int x1), some (.int x2), none, none] = L0 := hL0
  have hF : Fx K X cX12_left 5 RX12 D 0 0 := hF
  refine g_p (L' := [some (.ref a), some (.int x1), some (.int x2), some (.int 0), some (.int 0)]) (S' := []) hF tX12_left_ok 0 4 rfl rfl rfl rfl ?_
  exact X12_left_b5_ok hD hF hS hE FU _ _ _ _ H
def X12_ruled_b143 (a : Nat) (x1 x2 y0 y1 : Int32) (σ : Sig) : Option (Int32 × Sig) := (st 12 σ (a + 8) y1 y0).bind fun s1 => (X12_left_f a x1 2 s1).bind fun v3 => (st 12 s1 (a + 8) 9 v3).bind fun s5 => (X12_left_f a x1 1 s5).bind fun v7 => (st 12 s5 (a + 8) 10 v7).bind fun s9 => (st 12 s9 (a + 8) 11 x2).bind fun s11 => (X12_own_f a x1 4 s11).bind fun v13 => (X12_firstLine_f a (2 + v13) s11).bind fun ⟨v15, s16⟩ => if v15 = (-1) then (some ((-1), s16)) else ((ld 20240 (s16 (a + 1)) (2560 + v15)).bind fun v19 => if v19 = 3 then (some ((-1), s16)) else (some (v15, s16)))
set_option maxRecDepth 4000 in
set_option maxHeartbeats 1000000 in
theorem X12_ruled_b143_ok {K : Kt} {X : Cx} {D : Nat} {τ : Tau} {nx : Nat} {a : Nat} {res : Int32} {rsg : Sig}  (hD : 4 ≤ D) (hF : Fx K X cX12_ruled 4 RX12 D 0 0) (hS : ShX12 τ a) (hE : En K X (some .int) 0 0 (some (.int res)) (τ, rsg, nx)) {x1 x2 y0 y1 : Int32} {σ : Sig} (H : X12_ruled_b143 a x1 x2 y0 y1 σ = some (res, rsg)) : G K X 4 0 0 143 [some (.ref a), some (.int x1), some (.int x2), none] [.int y0, .int y1, .ref (a + 8)] (τ, σ, nx) := by
  obtain ⟨s1, e2, H⟩ := ob H
  refine g_ist hF (dAt tX12_ruled_ok 86 rfl rfl) hS.2.2.2.2.2.2.2.2.1 e2 ?_
  refine g_p (S' := [.ref a]) hF tX12_ruled_ok 87 1 rfl rfl rfl rfl ?_
  refine g_getR hF (dAt tX12_ruled_ok 88 rfl rfl) flX12_31 hS.1 rfl ?_
  refine g_p (S' := [.int 2, .int x1, .ref a, .int 9, .ref (a + 8)]) hF tX12_ruled_ok 89 4 rfl rfl rfl rfl ?_
  obtain ⟨v3, e4, H⟩ := ob H
  refine g_cV (S := [.int 9, .ref (a + 8)]) hF (X12_left_ok (Nat.le_refl _) hS e4 K) mbX12_left mvX12_left mlX12_254 (by omega) (by decide) (dAt tX12_ruled_ok 93 rfl rfl) hS.1 rfl rfl rfl (Nat.le_of_ble_eq_true rfl) rfl rfl (by decide) (by decide) rfl ?_
  obtain ⟨s5, e6, H⟩ := ob H
  refine g_ist hF (dAt tX12_ruled_ok 94 rfl rfl) hS.2.2.2.2.2.2.2.2.1 e6 ?_
  refine g_p (S' := [.ref a]) hF tX12_ruled_ok 95 1 rfl rfl rfl rfl ?_
  refine g_getR hF (dAt tX12_ruled_ok 96 rfl rfl) flX12_31 hS.1 rfl ?_
  refine g_p (S' := [.int 1, .int x1, .ref a, .int 10, .ref (a + 8)]) hF tX12_ruled_ok 97 4 rfl rfl rfl rfl ?_
  obtain ⟨v7, e8, H⟩ := ob H
  refine g_cV (S := [.int 10, .ref (a + 8)]) hF (X12_left_ok (Nat.le_refl _) hS e8 K) mbX12_left mvX12_left mlX12_254 (by omega) (by decide) (dAt tX12_ruled_ok 101 rfl rfl) hS.1 rfl rfl rfl (Nat.le_of_ble_eq_true rfl) rfl rfl (by decide) (by decide) rfl ?_
  obtain ⟨s9, e10, H⟩ := ob H
  refine g_ist hF (dAt tX12_ruled_ok 102 rfl rfl) hS.2.2.2.2.2.2.2.2.1 e10 ?_
  refine g_p (S' := [.ref a]) hF tX12_ruled_ok 103 1 rfl rfl rfl rfl ?_
  refine g_getR hF (dAt tX12_ruled_ok 104 rfl rfl) flX12_31 hS.1 rfl ?_
  refine g_p (S' := [.int x2, .int 11, .ref (a + 8)]) hF tX12_ruled_ok 105 2 rfl rfl rfl rfl ?_
  obtain ⟨s11, e12, H⟩ := ob H
  refine g_ist hF (dAt tX12_ruled_ok 107 rfl rfl) hS.2.2.2.2.2.2.2.2.1 e12 ?_
  refine g_p (S' := [.int 4, .int x1, .ref a, .int 2, .ref a]) hF tX12_ruled_ok 108 5 rfl rfl rfl rfl ?_
  obtain ⟨v13, e14, H⟩ := ob H
  refine g_cV (S := [.int 2, .ref a]) hF (X12_own_ok (Nat.le_refl _) hS e14 K) mbX12_own mvX12_own mlX12_65 (by omega) (by decide) (dAt tX12_ruled_ok 113 rfl rfl) hS.1 rfl rfl rfl (Nat.le_of_ble_eq_true rfl) rfl rfl (by decide) (by decide) rfl ?_
  refine g_p (S' := [.int (2 + v13), .ref a]) hF tX12_ruled_ok 114 1 rfl rfl rfl rfl ?_
  obtain ⟨⟨v15, s16⟩, e17, H⟩ := ob H
  refine g_cV (S := []) hF (X12_firstLine_ok (Nat.le_refl _) hS e17 K) mbX12_firstLine mvX12_firstLine mlX12_241 (by omega) (by decide) (dAt tX12_ruled_ok 115 rfl rfl) hS.1 rfl rfl rfl (Nat.le_of_ble_eq_true rfl) rfl rfl (by decide) (by decide) rfl ?_
  refine g_p (L' := [some (.ref a), some (.int x1), some (.int x2), some (.int v15)]) (S' := [.int (-1), .int v15]) hF tX12_ruled_ok 116 3 rfl rfl rfl rfl ?_
  obtain ⟨Ht18, Hf18⟩ := oi H
  refine g_icmp_eq hF (dAt tX12_ruled_ok 119 rfl rfl) rfl (fun c18 => ?_) (fun c18 => ?_)
  · have H := Ht18 c18
    refine g_p (S' := [.int (-1)]) hF tX12_ruled_ok 128 1 rfl rfl rfl rfl ?_
    refine g_goto hF (dAt tX12_ruled_ok 129 rfl rfl) rfl ?_
    exact g_iret hF (en_p H hE) (dAt tX12_ruled_ok 131 rfl rfl) (by decide) (by decide)
  · have H := Hf18 c18
    refine g_p (S' := [.ref a]) hF tX12_ruled_ok 120 1 rfl rfl rfl rfl ?_
    refine g_getR hF (dAt tX12_ruled_ok 121 rfl rfl) flX12_7 hS.1 rfl ?_
    refine g_p (S' := [.int (2560 + v15), .ref (a + 1)]) hF tX12_ruled_ok 122 3 rfl rfl rfl rfl ?_
    obtain ⟨v19, e20, H⟩ := ob H
    refine g_ild hF (dAt tX12_ruled_ok 125 rfl rfl) hS.2.1 e20 ?_
    refine g_p (S' := [.int 3, .int v19]) hF tX12_ruled_ok 126 1 rfl rfl rfl rfl ?_
    obtain ⟨Ht21, Hf21⟩ := oi H
    refine g_icmp_ne hF (dAt tX12_ruled_ok 127 rfl rfl) rfl (fun c21 => ?_) (fun c21 => ?_)
    · have H := Hf21 c21
      refine g_p (S' := [.int v15]) hF tX12_ruled_ok 130 1 rfl rfl rfl rfl ?_
      exact g_iret hF (en_p H hE) (dAt tX12_ruled_ok 131 rfl rfl) (by decide) (by decide)
    · have H := Ht21 c21
      refine g_p (S' := [.int (-1)]) hF tX12_ruled_ok 128 1 rfl rfl rfl rfl ?_
      refine g_goto hF (dAt tX12_ruled_ok 129 rfl rfl) rfl ?_
      exact g_iret hF (en_p H hE) (dAt tX12_ruled_ok 131 rfl rfl) (by decide) (by decide)
def X12_ruled_b119 (a : Nat) (x1 x2 y0 y1 : Int32) (σ : Sig) : Option (Int32 × Sig) := (st 12 σ (a + 8) y1 y0).bind fun s1 => (ld 20240 (s1 (a + 1)) 1).bind fun v3 => (X12_isFeast_f a v3 s1).bind fun v5 => if v5 = 0 then (X12_ruled_b143 a x1 x2 0 5 s1) else (X12_ruled_b143 a x1 x2 1 5 s1)
set_option maxRecDepth 4000 in
set_option maxHeartbeats 1000000 in
theorem X12_ruled_b119_ok {K : Kt} {X : Cx} {D : Nat} {τ : Tau} {nx : Nat} {a : Nat} {res : Int32} {rsg : Sig}  (hD : 4 ≤ D) (hF : Fx K X cX12_ruled 4 RX12 D 0 0) (hS : ShX12 τ a) (hE : En K X (some .int) 0 0 (some (.int res)) (τ, rsg, nx)) {x1 x2 y0 y1 : Int32} {σ : Sig} (H : X12_ruled_b119 a x1 x2 y0 y1 σ = some (res, rsg)) : G K X 4 0 0 119 [some (.ref a), some (.int x1), some (.int x2), none] [.int y0, .int y1, .ref (a + 8)] (τ, σ, nx) := by
  obtain ⟨s1, e2, H⟩ := ob H
  refine g_ist hF (dAt tX12_ruled_ok 72 rfl rfl) hS.2.2.2.2.2.2.2.2.1 e2 ?_
  refine g_p (S' := [.ref a]) hF tX12_ruled_ok 73 1 rfl rfl rfl rfl ?_
  refine g_getR hF (dAt tX12_ruled_ok 74 rfl rfl) flX12_31 hS.1 rfl ?_
  refine g_p (S' := [.ref a, .ref a, .int 5, .ref (a + 8)]) hF tX12_ruled_ok 75 3 rfl rfl rfl rfl ?_
  refine g_getR hF (dAt tX12_ruled_ok 78 rfl rfl) flX12_7 hS.1 rfl ?_
  refine g_p (S' := [.int 1, .ref (a + 1), .ref a, .int 5, .ref (a + 8)]) hF tX12_ruled_ok 79 1 rfl rfl rfl rfl ?_
  obtain ⟨v3, e4, H⟩ := ob H
  refine g_ild hF (dAt tX12_ruled_ok 80 rfl rfl) hS.2.1 e4 ?_
  obtain ⟨v5, e6, H⟩ := ob H
  refine g_cV (S := [.int 5, .ref (a + 8)]) hF (X12_isFeast_ok (Nat.le_refl _) hS e6 K) mbX12_isFeast mvX12_isFeast mlX12_251 (by omega) (by decide) (dAt tX12_ruled_ok 81 rfl rfl) hS.1 rfl rfl rfl (Nat.le_of_ble_eq_true rfl) rfl rfl (by decide) (by decide) rfl ?_
  obtain ⟨Ht7, Hf7⟩ := oi H
  refine g_if_eq hF (dAt tX12_ruled_ok 82 rfl rfl) rfl (fun c7 => ?_) (fun c7 => ?_)
  · have H := Ht7 c7
    refine g_p (S' := [.int 0, .int 5, .ref (a + 8)]) hF tX12_ruled_ok 85 1 rfl rfl rfl rfl ?_
    exact X12_ruled_b143_ok hD hF hS hE H
  · have H := Hf7 c7
    refine g_p (S' := [.int 1, .int 5, .ref (a + 8)]) hF tX12_ruled_ok 83 1 rfl rfl rfl rfl ?_
    refine g_goto hF (dAt tX12_ruled_ok 84 rfl rfl) rfl ?_
    exact X12_ruled_b143_ok hD hF hS hE H
def X12_ruled_b16 (a : Nat) : Nat → Int32 → Int32 → Int32 → Sig → Option (Int32 × Sig)
  | 0, _, _, _, _ => none
  | fu + 1, x1, x2, x3, σ => (ld 20240 (σ (a + 1)) 9).bind fun v1 => if v1 ≤ x3 then ((X12_hourNow_f a σ).bind fun v4 => (st 12 σ (a + 8) 3 v4).bind fun s6 => (ld 20240 (s6 (a + 1)) 2).bind fun v8 => (st 12 s6 (a + 8) 7 (v8 - v8 / 4 * 4)).bind fun s10 => (ld 20240 (s10 (a + 1)) 1).bind fun v12 => (st 12 s10 (a + 8) 8 v12).bind fun s14 => (X12_hourNow_f a s14).bind fun v16 => (X12_isNight_f v16 s14).bind fun v18 => if v18 = 0 then (X12_ruled_b119 a x1 x2 0 4 s14) else (X12_ruled_b119 a x1 x2 1 4 s14)) else (if x3 = x1 then (X12_ruled_b16 a fu x1 (x2 + 0) (x3 + 1) σ) else ((X12_own_f a x3 1 σ).bind fun v22 => (X12_own_f a x1 1 σ).bind fun v24 => if v22 = v24 then (X12_ruled_b16 a fu x1 (x2 + 1) (x3 + 1) σ) else (X12_ruled_b16 a fu x1 (x2 + 0) (x3 + 1) σ)))
set_option maxRecDepth 4000 in
set_option maxHeartbeats 1000000 in
theorem X12_ruled_b16_ok {K : Kt} {X : Cx} {D : Nat} {τ : Tau} {nx : Nat} {a : Nat} {res : Int32} {rsg : Sig}  (hD : 4 ≤ D) (hF : Fx K X cX12_ruled 4 RX12 D 0 0) (hS : ShX12 τ a) (hE : En K X (some .int) 0 0 (some (.int res)) (τ, rsg, nx)) : ∀ (fu : Nat) (x1 x2 x3 : Int32) (σ : Sig), X12_ruled_b16 a fu x1 x2 x3 σ = some (res, rsg) → G K X 4 0 0 16 [some (.ref a), some (.int x1), some (.int x2), some (.int x3)] [] (τ, σ, nx)
  | 0, _, _, _, _, H => nomatch H
  | fu + 1, x1, x2, x3, σ, H => by
    refine g_p (S' := [.ref a, .int x3]) hF tX12_ruled_ok 12 2 rfl rfl rfl rfl ?_
    refine g_getR hF (dAt tX12_ruled_ok 14 rfl rfl) flX12_7 hS.1 rfl ?_
    refine g_p (S' := [.int 9, .ref (a + 1), .int x3]) hF tX12_ruled_ok 15 1 rfl rfl rfl rfl ?_
    obtain ⟨v1, e2, H⟩ := ob H
    refine g_ild hF (dAt tX12_ruled_ok 16 rfl rfl) hS.2.1 e2 ?_
    obtain ⟨Ht3, Hf3⟩ := oi H
    refine g_icmp_ge hF (dAt tX12_ruled_ok 17 rfl rfl) rfl (fun c3 => ?_) (fun c3 => ?_)
    · have H := Ht3 c3
      refine g_p (S' := [.ref a]) hF tX12_ruled_ok 38 1 rfl rfl rfl rfl ?_
      refine g_getR hF (dAt tX12_ruled_ok 39 rfl rfl) flX12_31 hS.1 rfl ?_
      refine g_p (S' := [.ref a, .int 3, .ref (a + 8)]) hF tX12_ruled_ok 40 2 rfl rfl rfl rfl ?_
      obtain ⟨v4, e5, H⟩ := ob H
      refine g_cV (S := [.int 3, .ref (a + 8)]) hF (X12_hourNow_ok (Nat.le_refl _) hS e5 K) mbX12_hourNow mvX12_hourNow mlX12_248 (by omega) (by decide) (dAt tX12_ruled_ok 42 rfl rfl) hS.1 rfl rfl rfl (Nat.le_of_ble_eq_true rfl) rfl rfl (by decide) (by decide) rfl ?_
      obtain ⟨s6, e7, H⟩ := ob H
      refine g_ist hF (dAt tX12_ruled_ok 43 rfl rfl) hS.2.2.2.2.2.2.2.2.1 e7 ?_
      refine g_p (S' := [.ref a]) hF tX12_ruled_ok 44 1 rfl rfl rfl rfl ?_
      refine g_getR hF (dAt tX12_ruled_ok 45 rfl rfl) flX12_31 hS.1 rfl ?_
      refine g_p (S' := [.ref a, .int 7, .ref (a + 8)]) hF tX12_ruled_ok 46 2 rfl rfl rfl rfl ?_
      refine g_getR hF (dAt tX12_ruled_ok 48 rfl rfl) flX12_7 hS.1 rfl ?_
      refine g_p (S' := [.int 2, .ref (a + 1), .int 7, .ref (a + 8)]) hF tX12_ruled_ok 49 1 rfl rfl rfl rfl ?_
      obtain ⟨v8, e9, H⟩ := ob H
      refine g_ild hF (dAt tX12_ruled_ok 50 rfl rfl) hS.2.1 e9 ?_
      refine g_p (S' := [.int 4, .int v8, .int 7, .ref (a + 8)]) hF tX12_ruled_ok 51 1 rfl rfl rfl rfl ?_
      refine g_irem hF (dAt tX12_ruled_ok 52 rfl rfl) (by decide) ?_
      obtain ⟨s10, e11, H⟩ := ob H
      refine g_ist hF (dAt tX12_ruled_ok 53 rfl rfl) hS.2.2.2.2.2.2.2.2.1 e11 ?_
      refine g_p (S' := [.ref a]) hF tX12_ruled_ok 54 1 rfl rfl rfl rfl ?_
      refine g_getR hF (dAt tX12_ruled_ok 55 rfl rfl) flX12_31 hS.1 rfl ?_
      refine g_p (S' := [.ref a, .int 8, .ref (a + 8)]) hF tX12_ruled_ok 56 2 rfl rfl rfl rfl ?_
      refine g_getR hF (dAt tX12_ruled_ok 58 rfl rfl) flX12_7 hS.1 rfl ?_
      refine g_p (S' := [.int 1, .ref (a + 1), .int 8, .ref (a + 8)]) hF tX12_ruled_ok 59 1 rfl rfl rfl rfl ?_
      obtain ⟨v12, e13, H⟩ := ob H
      refine g_ild hF (dAt tX12_ruled_ok 60 rfl rfl) hS.2.1 e13 ?_
      obtain ⟨s14, e15, H⟩ := ob H
      refine g_ist hF (dAt tX12_ruled_ok 61 rfl rfl) hS.2.2.2.2.2.2.2.2.1 e15 ?_
      refine g_p (S' := [.ref a]) hF tX12_ruled_ok 62 1 rfl rfl rfl rfl ?_
      refine g_getR hF (dAt tX12_ruled_ok 63 rfl rfl) flX12_31 hS.1 rfl ?_
      refine g_p (S' := [.ref a, .int 4, .ref (a + 8)]) hF tX12_ruled_ok 64 2 rfl rfl rfl rfl ?_
      obtain ⟨v16, e17, H⟩ := ob H
      refine g_cV (S := [.int 4, .ref (a + 8)]) hF (X12_hourNow_ok (Nat.le_refl _) hS e17 K) mbX12_hourNow mvX12_hourNow mlX12_248 (by omega) (by decide) (dAt tX12_ruled_ok 66 rfl rfl) hS.1 rfl rfl rfl (Nat.le_of_ble_eq_true rfl) rfl rfl (by decide) (by decide) rfl ?_
      obtain ⟨v18, e19, H⟩ := ob H
      refine g_cS (S := [.int 4, .ref (a + 8)]) hF (X12_isNight_ok (Nat.le_refl _)  e19 K) mbX12_isNight msX12_isNight mlX12_238 (by omega) (by decide) (dAt tX12_ruled_ok 67 rfl rfl) rfl rfl (Nat.le_of_ble_eq_true rfl) rfl rfl (by decide) (by decide) rfl ?_
      obtain ⟨Ht20, Hf20⟩ := oi H
      refine g_if_eq hF (dAt tX12_ruled_ok 68 rfl rfl) rfl (fun c20 => ?_) (fun c20 => ?_)
      · have H := Ht20 c20
        refine g_p (S' := [.int 0, .int 4, .ref (a + 8)]) hF tX12_ruled_ok 71 1 rfl rfl rfl rfl ?_
        refine g_m [true, true, true, false] rfl ?_
        exact X12_ruled_b119_ok hD hF hS hE H
      · have H := Hf20 c20
        refine g_p (S' := [.int 1, .int 4, .ref (a + 8)]) hF tX12_ruled_ok 69 1 rfl rfl rfl rfl ?_
        refine g_goto hF (dAt tX12_ruled_ok 70 rfl rfl) rfl ?_
        refine g_m [true, true, true, false] rfl ?_
        exact X12_ruled_b119_ok hD hF hS hE H
    · have H := Hf3 c3
      refine g_p (S' := [.int x1, .int x3, .int x2]) hF tX12_ruled_ok 18 3 rfl rfl rfl rfl ?_
      obtain ⟨Ht21, Hf21⟩ := oi H
      refine g_icmp_eq hF (dAt tX12_ruled_ok 21 rfl rfl) rfl (fun c21 => ?_) (fun c21 => ?_)
      · have H := Ht21 c21
        refine g_p (L' := [some (.ref a), some (.int x1), some (.int (x2 + 0)), some (.int (x3 + 1))]) (S' := []) hF tX12_ruled_ok 33 4 rfl rfl rfl rfl ?_
        refine g_goto hF (dAt tX12_ruled_ok 37 rfl rfl) rfl ?_
        exact X12_ruled_b16_ok hD hF hS hE fu _ _ _ _ H
      · have H := Hf21 c21
        refine g_p (S' := [.int 1, .int x3, .ref a, .int x2]) hF tX12_ruled_ok 22 3 rfl rfl rfl rfl ?_
        obtain ⟨v22, e23, H⟩ := ob H
        refine g_cV (S := [.int x2]) hF (X12_own_ok (Nat.le_refl _) hS e23 K) mbX12_own mvX12_own mlX12_65 (by omega) (by decide) (dAt tX12_ruled_ok 25 rfl rfl) hS.1 rfl rfl rfl (Nat.le_of_ble_eq_true rfl) rfl rfl (by decide) (by decide) rfl ?_
        refine g_p (S' := [.int 1, .int x1, .ref a, .int v22, .int x2]) hF tX12_ruled_ok 26 3 rfl rfl rfl rfl ?_
        obtain ⟨v24, e25, H⟩ := ob H
        refine g_cV (S := [.int v22, .int x2]) hF (X12_own_ok (Nat.le_refl _) hS e25 K) mbX12_own mvX12_own mlX12_65 (by omega) (by decide) (dAt tX12_ruled_ok 29 rfl rfl) hS.1 rfl rfl rfl (Nat.le_of_ble_eq_true rfl) rfl rfl (by decide) (by decide) rfl ?_
        obtain ⟨Ht26, Hf26⟩ := oi H
        refine g_icmp_ne hF (dAt tX12_ruled_ok 30 rfl rfl) rfl (fun c26 => ?_) (fun c26 => ?_)
        · have H := Hf26 c26
          refine g_p (L' := [some (.ref a), some (.int x1), some (.int (x2 + 0)), some (.int (x3 + 1))]) (S' := []) hF tX12_ruled_ok 33 4 rfl rfl rfl rfl ?_
          refine g_goto hF (dAt tX12_ruled_ok 37 rfl rfl) rfl ?_
          exact X12_ruled_b16_ok hD hF hS hE fu _ _ _ _ H
        · have H := Ht26 c26
          refine g_p (S' := [.int 1, .int x2]) hF tX12_ruled_ok 31 1 rfl rfl rfl rfl ?_
          refine g_goto hF (dAt tX12_ruled_ok 32 rfl rfl) rfl ?_
          refine g_p (L' := [some (.ref a), some (.int x1), some (.int (x2 + 1)), some (.int (x3 + 1))]) (S' := []) hF tX12_ruled_ok 34 3 rfl rfl rfl rfl ?_
          refine g_goto hF (dAt tX12_ruled_ok 37 rfl rfl) rfl ?_
          exact X12_ruled_b16_ok hD hF hS hE fu _ _ _ _ H
def X12_ruled_f (a : Nat) (x1 : Int32) (σ : Sig) : Option (Int32 × Sig) := (X12_own_f a x1 4 σ).bind fun v1 => if v1 = 4 then (some ((-1), σ)) else (X12_ruled_b16 a FU x1 0 0 σ)
set_option maxRecDepth 4000 in
set_option maxHeartbeats 1000000 in
theorem X12_ruled_ok {D : Nat} {τ : Tau} {nx : Nat} {a : Nat} {x1 : Int32} {σ : Sig} {res : Int32} {rsg : Sig} (hD : 4 ≤ D) (hS : ShX12 τ a) (H : X12_ruled_f a x1 σ = some (res, rsg)) : Ok D 0 0 yX12_ruled cX12_ruled 4 (some .int) [.ref a, .int x1] (τ, σ, nx) (some (.int res)) (τ, rsg, nx) := by
  refine ok_of (by decide +kernel) rfl (Nat.le_of_ble_eq_true rfl) (fun K X hF hE hN L0 hL0 => ?_)
  obtain rfl : [some (.ref a), some (.int x1), none, none] = L0 := hL0
  have hF : Fx K X cX12_ruled 4 RX12 D 0 0 := hF
  refine g_p (S' := [.int 4, .int x1, .ref a]) hF tX12_ruled_ok 0 3 rfl rfl rfl rfl ?_
  obtain ⟨v1, e2, H⟩ := ob H
  refine g_cV (S := []) hF (X12_own_ok (Nat.le_refl _) hS e2 K) mbX12_own mvX12_own mlX12_65 (by omega) (by decide) (dAt tX12_ruled_ok 3 rfl rfl) hS.1 rfl rfl rfl (Nat.le_of_ble_eq_true rfl) rfl rfl (by decide) (by decide) rfl ?_
  refine g_p (S' := [.int 4, .int v1]) hF tX12_ruled_ok 4 1 rfl rfl rfl rfl ?_
  obtain ⟨Ht3, Hf3⟩ := oi H
  refine g_icmp_ne hF (dAt tX12_ruled_ok 5 rfl rfl) rfl (fun c3 => ?_) (fun c3 => ?_)
  · have H := Hf3 c3
    refine g_p (L' := [some (.ref a), some (.int x1), some (.int 0), some (.int 0)]) (S' := []) hF tX12_ruled_ok 8 4 rfl rfl rfl rfl ?_
    exact X12_ruled_b16_ok hD hF hS hE FU _ _ _ _ H
  · have H := Ht3 c3
    refine g_p (S' := [.int (-1)]) hF tX12_ruled_ok 6 1 rfl rfl rfl rfl ?_
    exact g_iret hF (en_p H hE) (dAt tX12_ruled_ok 7 rfl rfl) (by decide) (by decide)
def X12_does_b54 (a : Nat) (x2 y0 : Int32) (σ : Sig) : Option (Int32 × Sig) := (ld 20240 (σ (a + 1)) (2660 + x2)).bind fun v1 => some ((y0 + v1), σ)
set_option maxRecDepth 4000 in
set_option maxHeartbeats 1000000 in
theorem X12_does_b54_ok {K : Kt} {X : Cx} {D : Nat} {τ : Tau} {nx : Nat} {a : Nat} {res : Int32} {rsg : Sig}  (hD : 5 ≤ D) (hF : Fx K X cX12_does 3 RX12 D 0 0) (hS : ShX12 τ a) (hE : En K X (some .int) 0 0 (some (.int res)) (τ, rsg, nx)) {x2 y0 : Int32} {σ : Sig} (H : X12_does_b54 a x2 y0 σ = some (res, rsg)) : G K X 3 0 0 54 [some (.ref a), none, some (.int x2)] [.int y0] (τ, σ, nx) := by
  refine g_p (S' := [.ref a, .int y0]) hF tX12_does_ok 31 1 rfl rfl rfl rfl ?_
  refine g_getR hF (dAt tX12_does_ok 32 rfl rfl) flX12_7 hS.1 rfl ?_
  refine g_p (S' := [.int (2660 + x2), .ref (a + 1), .int y0]) hF tX12_does_ok 33 3 rfl rfl rfl rfl ?_
  obtain ⟨v1, e2, H⟩ := ob H
  refine g_ild hF (dAt tX12_does_ok 36 rfl rfl) hS.2.1 e2 ?_
  refine g_p (S' := [.int (y0 + v1)]) hF tX12_does_ok 37 1 rfl rfl rfl rfl ?_
  exact g_iret hF (en_p H hE) (dAt tX12_does_ok 38 rfl rfl) (by decide) (by decide)
def X12_does_f (a : Nat) (x1 : Int32) (σ : Sig) : Option (Int32 × Sig) := (X12_isOne_f a x1 σ).bind fun v1 => if v1 = 0 then (some ((-1), σ)) else ((X12_own_f a x1 0 σ).bind fun v4 => if v4 = 0 then ((X12_ruled_f a x1 σ).bind fun ⟨v7, s8⟩ => if v7 = (-1) then (some (0, s8)) else ((ld 20240 (s8 (a + 1)) (2560 + v7)).bind fun v11 => if v11 = 1 then (X12_does_b54 a v7 1 s8) else (X12_does_b54 a v7 101 s8))) else (some ((-1), σ)))
set_option maxRecDepth 4000 in
set_option maxHeartbeats 1000000 in
theorem X12_does_ok {D : Nat} {τ : Tau} {nx : Nat} {a : Nat} {x1 : Int32} {σ : Sig} {res : Int32} {rsg : Sig} (hD : 5 ≤ D) (hS : ShX12 τ a) (H : X12_does_f a x1 σ = some (res, rsg)) : Ok D 0 0 yX12_does cX12_does 3 (some .int) [.ref a, .int x1] (τ, σ, nx) (some (.int res)) (τ, rsg, nx) := by
  refine ok_of (by decide +kernel) rfl (Nat.le_of_ble_eq_true rfl) (fun K X hF hE hN L0 hL0 => ?_)
  obtain rfl : [some (.ref a), some (.int x1), none] = L0 := hL0
  have hF : Fx K X cX12_does 3 RX12 D 0 0 := hF
  refine g_p (S' := [.int x1, .ref a]) hF tX12_does_ok 0 2 rfl rfl rfl rfl ?_
  obtain ⟨v1, e2, H⟩ := ob H
  refine g_cV (S := []) hF (X12_isOne_ok (Nat.le_refl _) hS e2 K) mbX12_isOne mvX12_isOne mlX12_62 (by omega) (by decide) (dAt tX12_does_ok 2 rfl rfl) hS.1 rfl rfl rfl (Nat.le_of_ble_eq_true rfl) rfl rfl (by decide) (by decide) rfl ?_
  obtain ⟨Ht3, Hf3⟩ := oi H
  refine g_if_eq hF (dAt tX12_does_ok 3 rfl rfl) rfl (fun c3 => ?_) (fun c3 => ?_)
  · have H := Ht3 c3
    refine g_p (S' := [.int (-1)]) hF tX12_does_ok 9 1 rfl rfl rfl rfl ?_
    exact g_iret hF (en_p H hE) (dAt tX12_does_ok 10 rfl rfl) (by decide) (by decide)
  · have H := Hf3 c3
    refine g_p (S' := [.int 0, .int x1, .ref a]) hF tX12_does_ok 4 3 rfl rfl rfl rfl ?_
    obtain ⟨v4, e5, H⟩ := ob H
    refine g_cV (S := []) hF (X12_own_ok (Nat.le_refl _) hS e5 K) mbX12_own mvX12_own mlX12_65 (by omega) (by decide) (dAt tX12_does_ok 7 rfl rfl) hS.1 rfl rfl rfl (Nat.le_of_ble_eq_true rfl) rfl rfl (by decide) (by decide) rfl ?_
    obtain ⟨Ht6, Hf6⟩ := oi H
    refine g_if_eq hF (dAt tX12_does_ok 8 rfl rfl) rfl (fun c6 => ?_) (fun c6 => ?_)
    · have H := Ht6 c6
      refine g_p (S' := [.int x1, .ref a]) hF tX12_does_ok 11 2 rfl rfl rfl rfl ?_
      obtain ⟨⟨v7, s8⟩, e9, H⟩ := ob H
      refine g_cV (S := []) hF (X12_ruled_ok (Nat.le_refl _) hS e9 K) mbX12_ruled mvX12_ruled mlX12_257 (by omega) (by decide) (dAt tX12_does_ok 13 rfl rfl) hS.1 rfl rfl rfl (Nat.le_of_ble_eq_true rfl) rfl rfl (by decide) (by decide) rfl ?_
      refine g_p (L' := [some (.ref a), some (.int x1), some (.int v7)]) (S' := [.int (-1), .int v7]) hF tX12_does_ok 14 3 rfl rfl rfl rfl ?_
      obtain ⟨Ht10, Hf10⟩ := oi H
      refine g_icmp_ne hF (dAt tX12_does_ok 17 rfl rfl) rfl (fun c10 => ?_) (fun c10 => ?_)
      · have H := Hf10 c10
        refine g_p (S' := [.ref a]) hF tX12_does_ok 20 1 rfl rfl rfl rfl ?_
        refine g_getR hF (dAt tX12_does_ok 21 rfl rfl) flX12_7 hS.1 rfl ?_
        refine g_p (S' := [.int (2560 + v7), .ref (a + 1)]) hF tX12_does_ok 22 3 rfl rfl rfl rfl ?_
        obtain ⟨v11, e12, H⟩ := ob H
        refine g_ild hF (dAt tX12_does_ok 25 rfl rfl) hS.2.1 e12 ?_
        refine g_p (S' := [.int 1, .int v11]) hF tX12_does_ok 26 1 rfl rfl rfl rfl ?_
        obtain ⟨Ht13, Hf13⟩ := oi H
        refine g_icmp_ne hF (dAt tX12_does_ok 27 rfl rfl) rfl (fun c13 => ?_) (fun c13 => ?_)
        · have H := Hf13 c13
          refine g_p (S' := [.int 101]) hF tX12_does_ok 30 1 rfl rfl rfl rfl ?_
          refine g_m [true, false, true] rfl ?_
          exact X12_does_b54_ok hD hF hS hE H
        · have H := Ht13 c13
          refine g_p (S' := [.int 1]) hF tX12_does_ok 28 1 rfl rfl rfl rfl ?_
          refine g_goto hF (dAt tX12_does_ok 29 rfl rfl) rfl ?_
          refine g_m [true, false, true] rfl ?_
          exact X12_does_b54_ok hD hF hS hE H
      · have H := Ht10 c10
        refine g_p (S' := [.int 0]) hF tX12_does_ok 18 1 rfl rfl rfl rfl ?_
        refine g_goto hF (dAt tX12_does_ok 19 rfl rfl) rfl ?_
        exact g_iret hF (en_p H hE) (dAt tX12_does_ok 38 rfl rfl) (by decide) (by decide)
    · have H := Hf6 c6
      refine g_p (S' := [.int (-1)]) hF tX12_does_ok 9 1 rfl rfl rfl rfl ?_
      exact g_iret hF (en_p H hE) (dAt tX12_does_ok 10 rfl rfl) (by decide) (by decide)
def X12_sounds_b91 (a : Nat) (y0 y1 : Int32) (σ : Sig) : Option (Sig) := (st 20240 σ (a + 1) y1 y0).bind fun s1 => some s1
set_option maxRecDepth 4000 in
set_option maxHeartbeats 1000000 in
theorem X12_sounds_b91_ok {K : Kt} {X : Cx} {D : Nat} {τ : Tau} {nx : Nat} {a : Nat} {res : Sig}  (hD : 5 ≤ D) (hF : Fx K X cX12_sounds 4 RX12 D 0 0) (hS : ShX12 τ a) (hE : En K X none 0 0 none (τ, res, nx)) {y0 y1 : Int32} {σ : Sig} (H : X12_sounds_b91 a y0 y1 σ = some res) : G K X 4 0 0 91 [none, none, none, none] [.int y0, .int y1, .ref (a + 1)] (τ, σ, nx) := by
  obtain ⟨s1, e2, H⟩ := ob H
  refine g_ist hF (dAt tX12_sounds_ok 58 rfl rfl) hS.2.1 e2 ?_
  exact g_vret hF (en_v H hE) (dAt tX12_sounds_ok 59 rfl rfl) (by decide) (by decide)
def X12_sounds_b70 (a : Nat) (y0 y1 y2 y3 y4 y6 : Int32) (σ : Sig) : Option (Sig) := (ld 20240 (σ (a + 1)) 1).bind fun v1 => (X12_isFeast_f a v1 σ).bind fun v3 => (X12_isWord_f a y4 y3 y2 y1 y0 v3 σ).bind fun ⟨v5, s6⟩ => if v5 = 0 then (X12_sounds_b91 a 0 y6 s6) else (X12_sounds_b91 a 1 y6 s6)
set_option maxRecDepth 4000 in
set_option maxHeartbeats 1000000 in
theorem X12_sounds_b70_ok {K : Kt} {X : Cx} {D : Nat} {τ : Tau} {nx : Nat} {a : Nat} {res : Sig}  (hD : 5 ≤ D) (hF : Fx K X cX12_sounds 4 RX12 D 0 0) (hS : ShX12 τ a) (hE : En K X none 0 0 none (τ, res, nx)) {y0 y1 y2 y3 y4 y6 : Int32} {σ : Sig} (H : X12_sounds_b70 a y0 y1 y2 y3 y4 y6 σ = some res) : G K X 4 0 0 70 [some (.ref a), none, none, none] [.int y0, .int y1, .int y2, .int y3, .int y4, .ref a, .int y6, .ref (a + 1)] (τ, σ, nx) := by
  refine g_p (S' := [.ref a, .ref a, .int y0, .int y1, .int y2, .int y3, .int y4, .ref a, .int y6, .ref (a + 1)]) hF tX12_sounds_ok 47 2 rfl rfl rfl rfl ?_
  refine g_getR hF (dAt tX12_sounds_ok 49 rfl rfl) flX12_7 hS.1 rfl ?_
  refine g_p (S' := [.int 1, .ref (a + 1), .ref a, .int y0, .int y1, .int y2, .int y3, .int y4, .ref a, .int y6, .ref (a + 1)]) hF tX12_sounds_ok 50 1 rfl rfl rfl rfl ?_
  obtain ⟨v1, e2, H⟩ := ob H
  refine g_ild hF (dAt tX12_sounds_ok 51 rfl rfl) hS.2.1 e2 ?_
  obtain ⟨v3, e4, H⟩ := ob H
  refine g_cV (S := [.int y0, .int y1, .int y2, .int y3, .int y4, .ref a, .int y6, .ref (a + 1)]) hF (X12_isFeast_ok (Nat.le_refl _) hS e4 K) mbX12_isFeast mvX12_isFeast mlX12_251 (by omega) (by decide) (dAt tX12_sounds_ok 52 rfl rfl) hS.1 rfl rfl rfl (Nat.le_of_ble_eq_true rfl) rfl rfl (by decide) (by decide) rfl ?_
  obtain ⟨⟨v5, s6⟩, e7, H⟩ := ob H
  refine g_cV (S := [.int y6, .ref (a + 1)]) hF (X12_isWord_ok (Nat.le_refl _) hS e7 K) mbX12_isWord mvX12_isWord mlX12_244 (by omega) (by decide) (dAt tX12_sounds_ok 53 rfl rfl) hS.1 rfl rfl rfl (Nat.le_of_ble_eq_true rfl) rfl rfl (by decide) (by decide) rfl ?_
  obtain ⟨Ht8, Hf8⟩ := oi H
  refine g_if_eq hF (dAt tX12_sounds_ok 54 rfl rfl) rfl (fun c8 => ?_) (fun c8 => ?_)
  · have H := Ht8 c8
    refine g_p (S' := [.int 0, .int y6, .ref (a + 1)]) hF tX12_sounds_ok 57 1 rfl rfl rfl rfl ?_
    refine g_m [false, false, false, false] rfl ?_
    exact X12_sounds_b91_ok hD hF hS hE H
  · have H := Hf8 c8
    refine g_p (S' := [.int 1, .int y6, .ref (a + 1)]) hF tX12_sounds_ok 55 1 rfl rfl rfl rfl ?_
    refine g_goto hF (dAt tX12_sounds_ok 56 rfl rfl) rfl ?_
    refine g_m [false, false, false, false] rfl ?_
    exact X12_sounds_b91_ok hD hF hS hE H
def X12_sounds_f (a : Nat) (x1 x2 x3 : Int32) (σ : Sig) : Option (Sig) := (st 20240 σ (a + 1) (190 + (3 * x1)) x2).bind fun s1 => (st 20240 s1 (a + 1) ((190 + (3 * x1)) + 1) x3).bind fun s3 => (ld 20240 (s3 (a + 1)) 8).bind fun v5 => (X12_hourNow_f a s3).bind fun v7 => (X12_own_f a x1 0 s3).bind fun v9 => if v9 = 1 then (X12_sounds_b70 a 1 v7 x3 x2 v5 ((190 + (3 * x1)) + 2) s3) else (X12_sounds_b70 a 0 v7 x3 x2 v5 ((190 + (3 * x1)) + 2) s3)
set_option maxRecDepth 4000 in
set_option maxHeartbeats 1000000 in
theorem X12_sounds_ok {D : Nat} {τ : Tau} {nx : Nat} {a : Nat} {x1 x2 x3 : Int32} {σ : Sig} {res : Sig} (hD : 5 ≤ D) (hS : ShX12 τ a) (H : X12_sounds_f a x1 x2 x3 σ = some res) : Ok D 0 0 yX12_sounds cX12_sounds 4 none [.ref a, .int x1, .int x2, .int x3] (τ, σ, nx) none (τ, res, nx) := by
  refine ok_of (by decide +kernel) rfl (Nat.le_of_ble_eq_true rfl) (fun K X hF hE hN L0 hL0 => ?_)
  obtain rfl : [some (.ref a), some (.int x1), some (.int x2), some (.int x3)] = L0 := hL0
  have hF : Fx K X cX12_sounds 4 RX12 D 0 0 := hF
  refine g_p (S' := [.ref a]) hF tX12_sounds_ok 0 1 rfl rfl rfl rfl ?_
  refine g_getR hF (dAt tX12_sounds_ok 1 rfl rfl) flX12_7 hS.1 rfl ?_
  refine g_p (S' := [.int x2, .int (190 + (3 * x1)), .ref (a + 1)]) hF tX12_sounds_ok 2 6 rfl rfl rfl rfl ?_
  obtain ⟨s1, e2, H⟩ := ob H
  refine g_ist hF (dAt tX12_sounds_ok 8 rfl rfl) hS.2.1 e2 ?_
  refine g_p (S' := [.ref a]) hF tX12_sounds_ok 9 1 rfl rfl rfl rfl ?_
  refine g_getR hF (dAt tX12_sounds_ok 10 rfl rfl) flX12_7 hS.1 rfl ?_
  refine g_p (S' := [.int x3, .int ((190 + (3 * x1)) + 1), .ref (a + 1)]) hF tX12_sounds_ok 11 8 rfl rfl rfl rfl ?_
  obtain ⟨s3, e4, H⟩ := ob H
  refine g_ist hF (dAt tX12_sounds_ok 19 rfl rfl) hS.2.1 e4 ?_
  refine g_p (S' := [.ref a]) hF tX12_sounds_ok 20 1 rfl rfl rfl rfl ?_
  refine g_getR hF (dAt tX12_sounds_ok 21 rfl rfl) flX12_7 hS.1 rfl ?_
  refine g_p (S' := [.ref a, .ref a, .int ((190 + (3 * x1)) + 2), .ref (a + 1)]) hF tX12_sounds_ok 22 9 rfl rfl rfl rfl ?_
  refine g_getR hF (dAt tX12_sounds_ok 31 rfl rfl) flX12_7 hS.1 rfl ?_
  refine g_p (S' := [.int 8, .ref (a + 1), .ref a, .int ((190 + (3 * x1)) + 2), .ref (a + 1)]) hF tX12_sounds_ok 32 1 rfl rfl rfl rfl ?_
  obtain ⟨v5, e6, H⟩ := ob H
  refine g_ild hF (dAt tX12_sounds_ok 33 rfl rfl) hS.2.1 e6 ?_
  refine g_p (S' := [.ref a, .int x3, .int x2, .int v5, .ref a, .int ((190 + (3 * x1)) + 2), .ref (a + 1)]) hF tX12_sounds_ok 34 3 rfl rfl rfl rfl ?_
  obtain ⟨v7, e8, H⟩ := ob H
  refine g_cV (S := [.int x3, .int x2, .int v5, .ref a, .int ((190 + (3 * x1)) + 2), .ref (a + 1)]) hF (X12_hourNow_ok (Nat.le_refl _) hS e8 K) mbX12_hourNow mvX12_hourNow mlX12_248 (by omega) (by decide) (dAt tX12_sounds_ok 37 rfl rfl) hS.1 rfl rfl rfl (Nat.le_of_ble_eq_true rfl) rfl rfl (by decide) (by decide) rfl ?_
  refine g_p (S' := [.int 0, .int x1, .ref a, .int v7, .int x3, .int x2, .int v5, .ref a, .int ((190 + (3 * x1)) + 2), .ref (a + 1)]) hF tX12_sounds_ok 38 3 rfl rfl rfl rfl ?_
  obtain ⟨v9, e10, H⟩ := ob H
  refine g_cV (S := [.int v7, .int x3, .int x2, .int v5, .ref a, .int ((190 + (3 * x1)) + 2), .ref (a + 1)]) hF (X12_own_ok (Nat.le_refl _) hS e10 K) mbX12_own mvX12_own mlX12_65 (by omega) (by decide) (dAt tX12_sounds_ok 41 rfl rfl) hS.1 rfl rfl rfl (Nat.le_of_ble_eq_true rfl) rfl rfl (by decide) (by decide) rfl ?_
  refine g_p (S' := [.int 1, .int v9, .int v7, .int x3, .int x2, .int v5, .ref a, .int ((190 + (3 * x1)) + 2), .ref (a + 1)]) hF tX12_sounds_ok 42 1 rfl rfl rfl rfl ?_
  obtain ⟨Ht11, Hf11⟩ := oi H
  refine g_icmp_ne hF (dAt tX12_sounds_ok 43 rfl rfl) rfl (fun c11 => ?_) (fun c11 => ?_)
  · have H := Hf11 c11
    refine g_p (S' := [.int 0, .int v7, .int x3, .int x2, .int v5, .ref a, .int ((190 + (3 * x1)) + 2), .ref (a + 1)]) hF tX12_sounds_ok 46 1 rfl rfl rfl rfl ?_
    refine g_m [true, false, false, false] rfl ?_
    exact X12_sounds_b70_ok hD hF hS hE H
  · have H := Ht11 c11
    refine g_p (S' := [.int 1, .int v7, .int x3, .int x2, .int v5, .ref a, .int ((190 + (3 * x1)) + 2), .ref (a + 1)]) hF tX12_sounds_ok 44 1 rfl rfl rfl rfl ?_
    refine g_goto hF (dAt tX12_sounds_ok 45 rfl rfl) rfl ?_
    refine g_m [true, false, false, false] rfl ?_
    exact X12_sounds_b70_ok hD hF hS hE H
def X12_makesNoise_b130 (a : Nat) (x3 y0 y1 : Int32) (σ : Sig) : Option (Sig) := (ld 20240 (σ (a + 1)) (2660 + x3)).bind fun v1 => (X12_sounds_f a y1 y0 v1 σ).bind fun s3 => some s3
set_option maxRecDepth 4000 in
set_option maxHeartbeats 1000000 in
theorem X12_makesNoise_b130_ok {K : Kt} {X : Cx} {D : Nat} {τ : Tau} {nx : Nat} {a : Nat} {res : Sig}  (hD : 6 ≤ D) (hF : Fx K X cX12_makesNoise 4 RX12 D 0 0) (hS : ShX12 τ a) (hE : En K X none 0 0 none (τ, res, nx)) {x3 y0 y1 : Int32} {σ : Sig} (H : X12_makesNoise_b130 a x3 y0 y1 σ = some res) : G K X 4 0 0 130 [some (.ref a), none, none, some (.int x3)] [.int y0, .int y1, .ref a] (τ, σ, nx) := by
  refine g_p (S' := [.ref a, .int y0, .int y1, .ref a]) hF tX12_makesNoise_ok 76 1 rfl rfl rfl rfl ?_
  refine g_getR hF (dAt tX12_makesNoise_ok 77 rfl rfl) flX12_7 hS.1 rfl ?_
  refine g_p (S' := [.int (2660 + x3), .ref (a + 1), .int y0, .int y1, .ref a]) hF tX12_makesNoise_ok 78 3 rfl rfl rfl rfl ?_
  obtain ⟨v1, e2, H⟩ := ob H
  refine g_ild hF (dAt tX12_makesNoise_ok 81 rfl rfl) hS.2.1 e2 ?_
  obtain ⟨s3, e4, H⟩ := ob H
  refine g_cV (S := []) hF (X12_sounds_ok (Nat.le_refl _) hS e4 K) mbX12_sounds mvX12_sounds mlX12_263 (by omega) (by decide) (dAt tX12_makesNoise_ok 82 rfl rfl) hS.1 rfl rfl rfl (Nat.le_of_ble_eq_true rfl) rfl rfl (by decide) (by decide) rfl ?_
  exact g_vret hF (en_v H hE) (dAt tX12_makesNoise_ok 83 rfl rfl) (by decide) (by decide)
def X12_makesNoise_b94 (a : Nat) (y0 y1 y2 : Int32) (σ : Sig) : Option (Sig) := (X12_sounds_f a y2 y1 y0 σ).bind fun s1 => some s1
set_option maxRecDepth 4000 in
set_option maxHeartbeats 1000000 in
theorem X12_makesNoise_b94_ok {K : Kt} {X : Cx} {D : Nat} {τ : Tau} {nx : Nat} {a : Nat} {res : Sig}  (hD : 6 ≤ D) (hF : Fx K X cX12_makesNoise 4 RX12 D 0 0) (hS : ShX12 τ a) (hE : En K X none 0 0 none (τ, res, nx)) {y0 y1 y2 : Int32} {σ : Sig} (H : X12_makesNoise_b94 a y0 y1 y2 σ = some res) : G K X 4 0 0 94 [none, none, none, none] [.int y0, .int y1, .int y2, .ref a] (τ, σ, nx) := by
  obtain ⟨s1, e2, H⟩ := ob H
  refine g_cV (S := []) hF (X12_sounds_ok (Nat.le_refl _) hS e2 K) mbX12_sounds mvX12_sounds mlX12_263 (by omega) (by decide) (dAt tX12_makesNoise_ok 54 rfl rfl) hS.1 rfl rfl rfl (Nat.le_of_ble_eq_true rfl) rfl rfl (by decide) (by decide) rfl ?_
  exact g_vret hF (en_v H hE) (dAt tX12_makesNoise_ok 55 rfl rfl) (by decide) (by decide)
def X12_makesNoise_b73 (a : Nat) (x1 x2 y0 y1 : Int32) (σ : Sig) : Option (Sig) := if x2 = 0 then ((X12_own_f a x1 2 σ).bind fun v2 => X12_makesNoise_b94 a (v2 / 2) y0 y1 σ) else ((X12_own_f a x1 2 σ).bind fun v4 => X12_makesNoise_b94 a v4 y0 y1 σ)
set_option maxRecDepth 4000 in
set_option maxHeartbeats 1000000 in
theorem X12_makesNoise_b73_ok {K : Kt} {X : Cx} {D : Nat} {τ : Tau} {nx : Nat} {a : Nat} {res : Sig}  (hD : 6 ≤ D) (hF : Fx K X cX12_makesNoise 4 RX12 D 0 0) (hS : ShX12 τ a) (hE : En K X none 0 0 none (τ, res, nx)) {x1 x2 y0 y1 : Int32} {σ : Sig} (H : X12_makesNoise_b73 a x1 x2 y0 y1 σ = some res) : G K X 4 0 0 73 [some (.ref a), some (.int x1), some (.int x2), none] [.int y0, .int y1, .ref a] (τ, σ, nx) := by
  refine g_p (S' := [.int x2, .int y0, .int y1, .ref a]) hF tX12_makesNoise_ok 41 1 rfl rfl rfl rfl ?_
  obtain ⟨Ht1, Hf1⟩ := oi H
  refine g_if_eq hF (dAt tX12_makesNoise_ok 42 rfl rfl) rfl (fun c1 => ?_) (fun c1 => ?_)
  · have H := Ht1 c1
    refine g_p (S' := [.int 2, .int x1, .ref a, .int y0, .int y1, .ref a]) hF tX12_makesNoise_ok 48 3 rfl rfl rfl rfl ?_
    obtain ⟨v2, e3, H⟩ := ob H
    refine g_cV (S := [.int y0, .int y1, .ref a]) hF (X12_own_ok (Nat.le_refl _) hS e3 K) mbX12_own mvX12_own mlX12_65 (by omega) (by decide) (dAt tX12_makesNoise_ok 51 rfl rfl) hS.1 rfl rfl rfl (Nat.le_of_ble_eq_true rfl) rfl rfl (by decide) (by decide) rfl ?_
    refine g_p (S' := [.int 2, .int v2, .int y0, .int y1, .ref a]) hF tX12_makesNoise_ok 52 1 rfl rfl rfl rfl ?_
    refine g_idiv hF (dAt tX12_makesNoise_ok 53 rfl rfl) (by decide) ?_
    refine g_m [false, false, false, false] rfl ?_
    exact X12_makesNoise_b94_ok hD hF hS hE H
  · have H := Hf1 c1
    refine g_p (S' := [.int 2, .int x1, .ref a, .int y0, .int y1, .ref a]) hF tX12_makesNoise_ok 43 3 rfl rfl rfl rfl ?_
    obtain ⟨v4, e5, H⟩ := ob H
    refine g_cV (S := [.int y0, .int y1, .ref a]) hF (X12_own_ok (Nat.le_refl _) hS e5 K) mbX12_own mvX12_own mlX12_65 (by omega) (by decide) (dAt tX12_makesNoise_ok 46 rfl rfl) hS.1 rfl rfl rfl (Nat.le_of_ble_eq_true rfl) rfl rfl (by decide) (by decide) rfl ?_
    refine g_goto hF (dAt tX12_makesNoise_ok 47 rfl rfl) rfl ?_
    refine g_m [false, false, false, false] rfl ?_
    exact X12_makesNoise_b94_ok hD hF hS hE H
def X12_makesNoise_b46 (a : Nat) (x1 x2 : Int32) (σ : Sig) : Option (Sig) := (X12_draw_f a 1000 σ).bind fun ⟨v1, s2⟩ => (X12_own_f a x1 3 s2).bind fun v4 => if v4 ≤ v1 then (some s2) else (if x2 = 0 then (X12_makesNoise_b73 a x1 x2 1 x1 s2) else (X12_makesNoise_b73 a x1 x2 2 x1 s2))
set_option maxRecDepth 4000 in
set_option maxHeartbeats 1000000 in
theorem X12_makesNoise_b46_ok {K : Kt} {X : Cx} {D : Nat} {τ : Tau} {nx : Nat} {a : Nat} {res : Sig}  (hD : 6 ≤ D) (hF : Fx K X cX12_makesNoise 4 RX12 D 0 0) (hS : ShX12 τ a) (hE : En K X none 0 0 none (τ, res, nx)) {x1 x2 : Int32} {σ : Sig} (H : X12_makesNoise_b46 a x1 x2 σ = some res) : G K X 4 0 0 46 [some (.ref a), some (.int x1), some (.int x2), none] [] (τ, σ, nx) := by
  refine g_p (S' := [.int 1000, .ref a]) hF tX12_makesNoise_ok 26 2 rfl rfl rfl rfl ?_
  obtain ⟨⟨v1, s2⟩, e3, H⟩ := ob H
  refine g_cV (S := []) hF (X12_draw_ok (Nat.le_refl _) hS e3 K) mbX12_draw mvX12_draw mlX12_260 (by omega) (by decide) (dAt tX12_makesNoise_ok 28 rfl rfl) hS.1 rfl rfl rfl (Nat.le_of_ble_eq_true rfl) rfl rfl (by decide) (by decide) rfl ?_
  refine g_p (S' := [.int 3, .int x1, .ref a, .int v1]) hF tX12_makesNoise_ok 29 3 rfl rfl rfl rfl ?_
  obtain ⟨v4, e5, H⟩ := ob H
  refine g_cV (S := [.int v1]) hF (X12_own_ok (Nat.le_refl _) hS e5 K) mbX12_own mvX12_own mlX12_65 (by omega) (by decide) (dAt tX12_makesNoise_ok 32 rfl rfl) hS.1 rfl rfl rfl (Nat.le_of_ble_eq_true rfl) rfl rfl (by decide) (by decide) rfl ?_
  obtain ⟨Ht6, Hf6⟩ := oi H
  refine g_icmp_ge hF (dAt tX12_makesNoise_ok 33 rfl rfl) rfl (fun c6 => ?_) (fun c6 => ?_)
  · have H := Ht6 c6
    exact g_vret hF (en_v H hE) (dAt tX12_makesNoise_ok 55 rfl rfl) (by decide) (by decide)
  · have H := Hf6 c6
    refine g_p (S' := [.int x2, .int x1, .ref a]) hF tX12_makesNoise_ok 34 3 rfl rfl rfl rfl ?_
    obtain ⟨Ht7, Hf7⟩ := oi H
    refine g_if_eq hF (dAt tX12_makesNoise_ok 37 rfl rfl) rfl (fun c7 => ?_) (fun c7 => ?_)
    · have H := Ht7 c7
      refine g_p (S' := [.int 1, .int x1, .ref a]) hF tX12_makesNoise_ok 40 1 rfl rfl rfl rfl ?_
      exact X12_makesNoise_b73_ok hD hF hS hE H
    · have H := Hf7 c7
      refine g_p (S' := [.int 2, .int x1, .ref a]) hF tX12_makesNoise_ok 38 1 rfl rfl rfl rfl ?_
      refine g_goto hF (dAt tX12_makesNoise_ok 39 rfl rfl) rfl ?_
      exact X12_makesNoise_b73_ok hD hF hS hE H
def X12_makesNoise_b31 (a : Nat) (x1 y0 : Int32) (σ : Sig) : Option (Sig) := if y0 = 0 then ((X12_hourNow_f a σ).bind fun v2 => (X12_isNight_f v2 σ).bind fun v4 => if v4 = 0 then ((X12_ruled_f a x1 σ).bind fun ⟨v7, s8⟩ => if v7 = (-1) then (some s8) else ((ld 20240 (s8 (a + 1)) (2560 + v7)).bind fun v11 => if v11 = 1 then (X12_makesNoise_b130 a v7 0 x1 s8) else (X12_makesNoise_b130 a v7 3 x1 s8))) else (X12_makesNoise_b46 a x1 y0 σ)) else (X12_makesNoise_b46 a x1 y0 σ)
set_option maxRecDepth 4000 in
set_option maxHeartbeats 1000000 in
theorem X12_makesNoise_b31_ok {K : Kt} {X : Cx} {D : Nat} {τ : Tau} {nx : Nat} {a : Nat} {res : Sig}  (hD : 6 ≤ D) (hF : Fx K X cX12_makesNoise 4 RX12 D 0 0) (hS : ShX12 τ a) (hE : En K X none 0 0 none (τ, res, nx)) {x1 y0 : Int32} {σ : Sig} (H : X12_makesNoise_b31 a x1 y0 σ = some res) : G K X 4 0 0 31 [some (.ref a), some (.int x1), none, none] [.int y0] (τ, σ, nx) := by
  refine g_p (L' := [some (.ref a), some (.int x1), some (.int y0), none]) (S' := [.int y0]) hF tX12_makesNoise_ok 19 2 rfl rfl rfl rfl ?_
  obtain ⟨Ht1, Hf1⟩ := oi H
  refine g_if_ne hF (dAt tX12_makesNoise_ok 21 rfl rfl) rfl (fun c1 => ?_) (fun c1 => ?_)
  · have H := Hf1 c1
    exact X12_makesNoise_b46_ok hD hF hS hE H
  · have H := Ht1 c1
    refine g_p (S' := [.ref a]) hF tX12_makesNoise_ok 22 1 rfl rfl rfl rfl ?_
    obtain ⟨v2, e3, H⟩ := ob H
    refine g_cV (S := []) hF (X12_hourNow_ok (Nat.le_refl _) hS e3 K) mbX12_hourNow mvX12_hourNow mlX12_248 (by omega) (by decide) (dAt tX12_makesNoise_ok 23 rfl rfl) hS.1 rfl rfl rfl (Nat.le_of_ble_eq_true rfl) rfl rfl (by decide) (by decide) rfl ?_
    obtain ⟨v4, e5, H⟩ := ob H
    refine g_cS (S := []) hF (X12_isNight_ok (Nat.le_refl _)  e5 K) mbX12_isNight msX12_isNight mlX12_238 (by omega) (by decide) (dAt tX12_makesNoise_ok 24 rfl rfl) rfl rfl (Nat.le_of_ble_eq_true rfl) rfl rfl (by decide) (by decide) rfl ?_
    obtain ⟨Ht6, Hf6⟩ := oi H
    refine g_if_eq hF (dAt tX12_makesNoise_ok 25 rfl rfl) rfl (fun c6 => ?_) (fun c6 => ?_)
    · have H := Ht6 c6
      refine g_p (S' := [.int x1, .ref a]) hF tX12_makesNoise_ok 56 2 rfl rfl rfl rfl ?_
      obtain ⟨⟨v7, s8⟩, e9, H⟩ := ob H
      refine g_cV (S := []) hF (X12_ruled_ok (Nat.le_refl _) hS e9 K) mbX12_ruled mvX12_ruled mlX12_257 (by omega) (by decide) (dAt tX12_makesNoise_ok 58 rfl rfl) hS.1 rfl rfl rfl (Nat.le_of_ble_eq_true rfl) rfl rfl (by decide) (by decide) rfl ?_
      refine g_p (L' := [some (.ref a), some (.int x1), some (.int y0), some (.int v7)]) (S' := [.int (-1), .int v7]) hF tX12_makesNoise_ok 59 3 rfl rfl rfl rfl ?_
      obtain ⟨Ht10, Hf10⟩ := oi H
      refine g_icmp_eq hF (dAt tX12_makesNoise_ok 62 rfl rfl) rfl (fun c10 => ?_) (fun c10 => ?_)
      · have H := Ht10 c10
        exact g_vret hF (en_v H hE) (dAt tX12_makesNoise_ok 83 rfl rfl) (by decide) (by decide)
      · have H := Hf10 c10
        refine g_p (S' := [.ref a, .int x1, .ref a]) hF tX12_makesNoise_ok 63 3 rfl rfl rfl rfl ?_
        refine g_getR hF (dAt tX12_makesNoise_ok 66 rfl rfl) flX12_7 hS.1 rfl ?_
        refine g_p (S' := [.int (2560 + v7), .ref (a + 1), .int x1, .ref a]) hF tX12_makesNoise_ok 67 3 rfl rfl rfl rfl ?_
        obtain ⟨v11, e12, H⟩ := ob H
        refine g_ild hF (dAt tX12_makesNoise_ok 70 rfl rfl) hS.2.1 e12 ?_
        refine g_p (S' := [.int 1, .int v11, .int x1, .ref a]) hF tX12_makesNoise_ok 71 1 rfl rfl rfl rfl ?_
        obtain ⟨Ht13, Hf13⟩ := oi H
        refine g_icmp_ne hF (dAt tX12_makesNoise_ok 72 rfl rfl) rfl (fun c13 => ?_) (fun c13 => ?_)
        · have H := Hf13 c13
          refine g_p (S' := [.int 3, .int x1, .ref a]) hF tX12_makesNoise_ok 75 1 rfl rfl rfl rfl ?_
          refine g_m [true, false, false, true] rfl ?_
          exact X12_makesNoise_b130_ok hD hF hS hE H
        · have H := Ht13 c13
          refine g_p (S' := [.int 0, .int x1, .ref a]) hF tX12_makesNoise_ok 73 1 rfl rfl rfl rfl ?_
          refine g_goto hF (dAt tX12_makesNoise_ok 74 rfl rfl) rfl ?_
          refine g_m [true, false, false, true] rfl ?_
          exact X12_makesNoise_b130_ok hD hF hS hE H
    · have H := Hf6 c6
      exact X12_makesNoise_b46_ok hD hF hS hE H
def X12_makesNoise_f (a : Nat) (x1 : Int32) (σ : Sig) : Option (Sig) := (X12_hushes_f a x1 σ).bind fun s1 => (X12_own_f a x1 0 s1).bind fun v3 => if v3 = 2 then (some s1) else ((X12_own_f a x1 0 s1).bind fun v6 => if v6 = 1 then (X12_makesNoise_b31 a x1 1 s1) else (X12_makesNoise_b31 a x1 0 s1))
set_option maxRecDepth 4000 in
set_option maxHeartbeats 1000000 in
theorem X12_makesNoise_ok {D : Nat} {τ : Tau} {nx : Nat} {a : Nat} {x1 : Int32} {σ : Sig} {res : Sig} (hD : 6 ≤ D) (hS : ShX12 τ a) (H : X12_makesNoise_f a x1 σ = some res) : Ok D 0 0 yX12_makesNoise cX12_makesNoise 4 none [.ref a, .int x1] (τ, σ, nx) none (τ, res, nx) := by
  refine ok_of (by decide +kernel) rfl (Nat.le_of_ble_eq_true rfl) (fun K X hF hE hN L0 hL0 => ?_)
  obtain rfl : [some (.ref a), some (.int x1), none, none] = L0 := hL0
  have hF : Fx K X cX12_makesNoise 4 RX12 D 0 0 := hF
  refine g_p (S' := [.int x1, .ref a]) hF tX12_makesNoise_ok 0 2 rfl rfl rfl rfl ?_
  obtain ⟨s1, e2, H⟩ := ob H
  refine g_cV (S := []) hF (X12_hushes_ok (Nat.le_refl _) hS e2 K) mbX12_hushes mvX12_hushes mlX12_44 (by omega) (by decide) (dAt tX12_makesNoise_ok 2 rfl rfl) hS.1 rfl rfl rfl (Nat.le_of_ble_eq_true rfl) rfl rfl (by decide) (by decide) rfl ?_
  refine g_p (S' := [.int 0, .int x1, .ref a]) hF tX12_makesNoise_ok 3 3 rfl rfl rfl rfl ?_
  obtain ⟨v3, e4, H⟩ := ob H
  refine g_cV (S := []) hF (X12_own_ok (Nat.le_refl _) hS e4 K) mbX12_own mvX12_own mlX12_65 (by omega) (by decide) (dAt tX12_makesNoise_ok 6 rfl rfl) hS.1 rfl rfl rfl (Nat.le_of_ble_eq_true rfl) rfl rfl (by decide) (by decide) rfl ?_
  refine g_p (S' := [.int 2, .int v3]) hF tX12_makesNoise_ok 7 1 rfl rfl rfl rfl ?_
  obtain ⟨Ht5, Hf5⟩ := oi H
  refine g_icmp_ne hF (dAt tX12_makesNoise_ok 8 rfl rfl) rfl (fun c5 => ?_) (fun c5 => ?_)
  · have H := Hf5 c5
    refine g_p (S' := [.int 0, .int x1, .ref a]) hF tX12_makesNoise_ok 10 3 rfl rfl rfl rfl ?_
    obtain ⟨v6, e7, H⟩ := ob H
    refine g_cV (S := []) hF (X12_own_ok (Nat.le_refl _) hS e7 K) mbX12_own mvX12_own mlX12_65 (by omega) (by decide) (dAt tX12_makesNoise_ok 13 rfl rfl) hS.1 rfl rfl rfl (Nat.le_of_ble_eq_true rfl) rfl rfl (by decide) (by decide) rfl ?_
    refine g_p (S' := [.int 1, .int v6]) hF tX12_makesNoise_ok 14 1 rfl rfl rfl rfl ?_
    obtain ⟨Ht8, Hf8⟩ := oi H
    refine g_icmp_ne hF (dAt tX12_makesNoise_ok 15 rfl rfl) rfl (fun c8 => ?_) (fun c8 => ?_)
    · have H := Hf8 c8
      refine g_p (S' := [.int 0]) hF tX12_makesNoise_ok 18 1 rfl rfl rfl rfl ?_
      exact X12_makesNoise_b31_ok hD hF hS hE H
    · have H := Ht8 c8
      refine g_p (S' := [.int 1]) hF tX12_makesNoise_ok 16 1 rfl rfl rfl rfl ?_
      refine g_goto hF (dAt tX12_makesNoise_ok 17 rfl rfl) rfl ?_
      exact X12_makesNoise_b31_ok hD hF hS hE H
  · have H := Ht5 c5
    exact g_vret hF (en_v H hE) (dAt tX12_makesNoise_ok 9 rfl rfl) (by decide) (by decide)
def X12_noise_f (a : Nat) (x1 x2 : Int32) (σ : Sig) : Option (Int32) := (X12_isOne_f a x1 σ).bind fun v1 => if v1 = 0 then (some (-2)) else ((X12_isIn_f x2 0 2 σ).bind fun v4 => if v4 = 0 then (some (-2)) else ((ld 20240 (σ (a + 1)) ((190 + (3 * x1)) + x2)).bind fun v7 => some v7))
set_option maxRecDepth 4000 in
set_option maxHeartbeats 1000000 in
theorem X12_noise_ok {D : Nat} {τ : Tau} {nx : Nat} {a : Nat} {x1 x2 : Int32} {σ : Sig} {res : Int32} (hD : 3 ≤ D) (hS : ShX12 τ a) (H : X12_noise_f a x1 x2 σ = some res) : Ok D 0 0 yX12_noise cX12_noise 3 (some .int) [.ref a, .int x1, .int x2] (τ, σ, nx) (some (.int res)) (τ, σ, nx) := by
  refine ok_of (by decide +kernel) rfl (Nat.le_of_ble_eq_true rfl) (fun K X hF hE hN L0 hL0 => ?_)
  obtain rfl : [some (.ref a), some (.int x1), some (.int x2)] = L0 := hL0
  have hF : Fx K X cX12_noise 3 RX12 D 0 0 := hF
  refine g_p (S' := [.int x1, .ref a]) hF tX12_noise_ok 0 2 rfl rfl rfl rfl ?_
  obtain ⟨v1, e2, H⟩ := ob H
  refine g_cV (S := []) hF (X12_isOne_ok (Nat.le_refl _) hS e2 K) mbX12_isOne mvX12_isOne mlX12_62 (by omega) (by decide) (dAt tX12_noise_ok 2 rfl rfl) hS.1 rfl rfl rfl (Nat.le_of_ble_eq_true rfl) rfl rfl (by decide) (by decide) rfl ?_
  obtain ⟨Ht3, Hf3⟩ := oi H
  refine g_if_eq hF (dAt tX12_noise_ok 3 rfl rfl) rfl (fun c3 => ?_) (fun c3 => ?_)
  · have H := Ht3 c3
    refine g_p (S' := [.int (-2)]) hF tX12_noise_ok 20 1 rfl rfl rfl rfl ?_
    exact g_iret hF (en_i H hE) (dAt tX12_noise_ok 21 rfl rfl) (by decide) (by decide)
  · have H := Hf3 c3
    refine g_p (S' := [.int 2, .int 0, .int x2]) hF tX12_noise_ok 4 3 rfl rfl rfl rfl ?_
    obtain ⟨v4, e5, H⟩ := ob H
    refine g_cS (S := []) hF (X12_isIn_ok (Nat.le_refl _)  e5 K) mbX12_isIn msX12_isIn mlX12_50 (by omega) (by decide) (dAt tX12_noise_ok 7 rfl rfl) rfl rfl (Nat.le_of_ble_eq_true rfl) rfl rfl (by decide) (by decide) rfl ?_
    obtain ⟨Ht6, Hf6⟩ := oi H
    refine g_if_eq hF (dAt tX12_noise_ok 8 rfl rfl) rfl (fun c6 => ?_) (fun c6 => ?_)
    · have H := Ht6 c6
      refine g_p (S' := [.int (-2)]) hF tX12_noise_ok 20 1 rfl rfl rfl rfl ?_
      exact g_iret hF (en_i H hE) (dAt tX12_noise_ok 21 rfl rfl) (by decide) (by decide)
    · have H := Hf6 c6
      refine g_p (S' := [.ref a]) hF tX12_noise_ok 9 1 rfl rfl rfl rfl ?_
      refine g_getR hF (dAt tX12_noise_ok 10 rfl rfl) flX12_7 hS.1 rfl ?_
      refine g_p (S' := [.int ((190 + (3 * x1)) + x2), .ref (a + 1)]) hF tX12_noise_ok 11 7 rfl rfl rfl rfl ?_
      obtain ⟨v7, e8, H⟩ := ob H
      refine g_ild hF (dAt tX12_noise_ok 18 rfl rfl) hS.2.1 e8 ?_
      refine g_goto hF (dAt tX12_noise_ok 19 rfl rfl) rfl ?_
      exact g_iret hF (en_i H hE) (dAt tX12_noise_ok 21 rfl rfl) (by decide) (by decide)
def X12_writes_f (a : Nat) (x1 x2 x3 : Int32) (σ : Sig) : Option (Sig) := (ld 20240 (σ (a + 1)) 11).bind fun v1 => if v1 = 400 then (some σ) else ((ld 20240 (σ (a + 1)) 11).bind fun v4 => (ld 20240 (σ (a + 1)) 1).bind fun v6 => (st 20240 σ (a + 1) (550 + (5 * v4)) v6).bind fun s8 => (ld 20240 (s8 (a + 1)) 2).bind fun v10 => (st 20240 s8 (a + 1) ((550 + (5 * v4)) + 1) v10).bind fun s12 => (st 20240 s12 (a + 1) ((550 + (5 * v4)) + 2) x1).bind fun s14 => (st 20240 s14 (a + 1) ((550 + (5 * v4)) + 3) x2).bind fun s16 => (st 20240 s16 (a + 1) ((550 + (5 * v4)) + 4) x3).bind fun s18 => (ld 20240 (s18 (a + 1)) 11).bind fun v20 => (st 20240 s18 (a + 1) 11 (v20 + 1)).bind fun s22 => some s22)
set_option maxRecDepth 4000 in
set_option maxHeartbeats 1000000 in
theorem X12_writes_ok {D : Nat} {τ : Tau} {nx : Nat} {a : Nat} {x1 x2 x3 : Int32} {σ : Sig} {res : Sig} (hD : 1 ≤ D) (hS : ShX12 τ a) (H : X12_writes_f a x1 x2 x3 σ = some res) : Ok D 0 0 yX12_writes cX12_writes 5 none [.ref a, .int x1, .int x2, .int x3] (τ, σ, nx) none (τ, res, nx) := by
  refine ok_of (by decide +kernel) rfl (Nat.le_of_ble_eq_true rfl) (fun K X hF hE hN L0 hL0 => ?_)
  obtain rfl : [some (.ref a), some (.int x1), some (.int x2), some (.int x3), none] = L0 := hL0
  have hF : Fx K X cX12_writes 5 RX12 D 0 0 := hF
  refine g_p (S' := [.ref a]) hF tX12_writes_ok 0 1 rfl rfl rfl rfl ?_
  refine g_getR hF (dAt tX12_writes_ok 1 rfl rfl) flX12_7 hS.1 rfl ?_
  refine g_p (S' := [.int 11, .ref (a + 1)]) hF tX12_writes_ok 2 1 rfl rfl rfl rfl ?_
  obtain ⟨v1, e2, H⟩ := ob H
  refine g_ild hF (dAt tX12_writes_ok 3 rfl rfl) hS.2.1 e2 ?_
  refine g_p (S' := [.int 400, .int v1]) hF tX12_writes_ok 4 1 rfl rfl rfl rfl ?_
  obtain ⟨Ht3, Hf3⟩ := oi H
  refine g_icmp_ne hF (dAt tX12_writes_ok 5 rfl rfl) rfl (fun c3 => ?_) (fun c3 => ?_)
  · have H := Hf3 c3
    refine g_p (S' := [.ref a, .int 5, .int 550]) hF tX12_writes_ok 7 3 rfl rfl rfl rfl ?_
    refine g_getR hF (dAt tX12_writes_ok 10 rfl rfl) flX12_7 hS.1 rfl ?_
    refine g_p (S' := [.int 11, .ref (a + 1), .int 5, .int 550]) hF tX12_writes_ok 11 1 rfl rfl rfl rfl ?_
    obtain ⟨v4, e5, H⟩ := ob H
    refine g_ild hF (dAt tX12_writes_ok 12 rfl rfl) hS.2.1 e5 ?_
    refine g_p (L' := [some (.ref a), some (.int x1), some (.int x2), some (.int x3), some (.int (550 + (5 * v4)))]) (S' := [.ref a]) hF tX12_writes_ok 13 4 rfl rfl rfl rfl ?_
    refine g_getR hF (dAt tX12_writes_ok 17 rfl rfl) flX12_7 hS.1 rfl ?_
    refine g_p (S' := [.ref a, .int (550 + (5 * v4)), .ref (a + 1)]) hF tX12_writes_ok 18 2 rfl rfl rfl rfl ?_
    refine g_getR hF (dAt tX12_writes_ok 20 rfl rfl) flX12_7 hS.1 rfl ?_
    refine g_p (S' := [.int 1, .ref (a + 1), .int (550 + (5 * v4)), .ref (a + 1)]) hF tX12_writes_ok 21 1 rfl rfl rfl rfl ?_
    obtain ⟨v6, e7, H⟩ := ob H
    refine g_ild hF (dAt tX12_writes_ok 22 rfl rfl) hS.2.1 e7 ?_
    obtain ⟨s8, e9, H⟩ := ob H
    refine g_ist hF (dAt tX12_writes_ok 23 rfl rfl) hS.2.1 e9 ?_
    refine g_p (S' := [.ref a]) hF tX12_writes_ok 24 1 rfl rfl rfl rfl ?_
    refine g_getR hF (dAt tX12_writes_ok 25 rfl rfl) flX12_7 hS.1 rfl ?_
    refine g_p (S' := [.ref a, .int ((550 + (5 * v4)) + 1), .ref (a + 1)]) hF tX12_writes_ok 26 4 rfl rfl rfl rfl ?_
    refine g_getR hF (dAt tX12_writes_ok 30 rfl rfl) flX12_7 hS.1 rfl ?_
    refine g_p (S' := [.int 2, .ref (a + 1), .int ((550 + (5 * v4)) + 1), .ref (a + 1)]) hF tX12_writes_ok 31 1 rfl rfl rfl rfl ?_
    obtain ⟨v10, e11, H⟩ := ob H
    refine g_ild hF (dAt tX12_writes_ok 32 rfl rfl) hS.2.1 e11 ?_
    obtain ⟨s12, e13, H⟩ := ob H
    refine g_ist hF (dAt tX12_writes_ok 33 rfl rfl) hS.2.1 e13 ?_
    refine g_p (S' := [.ref a]) hF tX12_writes_ok 34 1 rfl rfl rfl rfl ?_
    refine g_getR hF (dAt tX12_writes_ok 35 rfl rfl) flX12_7 hS.1 rfl ?_
    refine g_p (S' := [.int x1, .int ((550 + (5 * v4)) + 2), .ref (a + 1)]) hF tX12_writes_ok 36 4 rfl rfl rfl rfl ?_
    obtain ⟨s14, e15, H⟩ := ob H
    refine g_ist hF (dAt tX12_writes_ok 40 rfl rfl) hS.2.1 e15 ?_
    refine g_p (S' := [.ref a]) hF tX12_writes_ok 41 1 rfl rfl rfl rfl ?_
    refine g_getR hF (dAt tX12_writes_ok 42 rfl rfl) flX12_7 hS.1 rfl ?_
    refine g_p (S' := [.int x2, .int ((550 + (5 * v4)) + 3), .ref (a + 1)]) hF tX12_writes_ok 43 4 rfl rfl rfl rfl ?_
    obtain ⟨s16, e17, H⟩ := ob H
    refine g_ist hF (dAt tX12_writes_ok 47 rfl rfl) hS.2.1 e17 ?_
    refine g_p (S' := [.ref a]) hF tX12_writes_ok 48 1 rfl rfl rfl rfl ?_
    refine g_getR hF (dAt tX12_writes_ok 49 rfl rfl) flX12_7 hS.1 rfl ?_
    refine g_p (S' := [.int x3, .int ((550 + (5 * v4)) + 4), .ref (a + 1)]) hF tX12_writes_ok 50 4 rfl rfl rfl rfl ?_
    obtain ⟨s18, e19, H⟩ := ob H
    refine g_ist hF (dAt tX12_writes_ok 54 rfl rfl) hS.2.1 e19 ?_
    refine g_p (S' := [.ref a]) hF tX12_writes_ok 55 1 rfl rfl rfl rfl ?_
    refine g_getR hF (dAt tX12_writes_ok 56 rfl rfl) flX12_7 hS.1 rfl ?_
    refine g_p (S' := [.int 11, .ref (a + 1), .int 11, .ref (a + 1)]) hF tX12_writes_ok 57 2 rfl rfl rfl rfl ?_
    obtain ⟨v20, e21, H⟩ := ob H
    refine g_ild hF (dAt tX12_writes_ok 59 rfl rfl) hS.2.1 e21 ?_
    refine g_p (S' := [.int (v20 + 1), .int 11, .ref (a + 1)]) hF tX12_writes_ok 60 2 rfl rfl rfl rfl ?_
    obtain ⟨s22, e23, H⟩ := ob H
    refine g_ist hF (dAt tX12_writes_ok 62 rfl rfl) hS.2.1 e23 ?_
    exact g_vret hF (en_v H hE) (dAt tX12_writes_ok 63 rfl rfl) (by decide) (by decide)
  · have H := Ht3 c3
    exact g_vret hF (en_v H hE) (dAt tX12_writes_ok 6 rfl rfl) (by decide) (by decide)
def X12_isHeard_f (a : Nat) (x1 : Int32) (σ : Sig) : Option (Int32) := (ld 20240 (σ (a + 1)) ((190 + (3 * x1)) + 2)).bind fun v1 => if v1 = 1 then ((ld 20240 (σ (a + 1)) ((190 + (3 * x1)) + 1)).bind fun v4 => (X12_own_f a x1 1 σ).bind fun v6 => (X12_hourNow_f a σ).bind fun v8 => (ld 20240 (σ (a + 1)) (20 + v8)).bind fun v10 => (ld 20240 (σ (a + 1)) ((50 + (6 * v6)) + v10)).bind fun v12 => (ld 20240 (σ (a + 1)) 4).bind fun v14 => if (v4 - v12) < v14 then (some 0) else (some 1)) else (some 0)
set_option maxRecDepth 4000 in
set_option maxHeartbeats 1000000 in
theorem X12_isHeard_ok {D : Nat} {τ : Tau} {nx : Nat} {a : Nat} {x1 : Int32} {σ : Sig} {res : Int32} (hD : 2 ≤ D) (hS : ShX12 τ a) (H : X12_isHeard_f a x1 σ = some res) : Ok D 0 0 yX12_isHeard cX12_isHeard 2 (some .boolean) [.ref a, .int x1] (τ, σ, nx) (some (.int res)) (τ, σ, nx) := by
  refine ok_of (by decide +kernel) rfl (Nat.le_of_ble_eq_true rfl) (fun K X hF hE hN L0 hL0 => ?_)
  obtain rfl : [some (.ref a), some (.int x1)] = L0 := hL0
  have hF : Fx K X cX12_isHeard 2 RX12 D 0 0 := hF
  refine g_p (S' := [.ref a]) hF tX12_isHeard_ok 0 1 rfl rfl rfl rfl ?_
  refine g_getR hF (dAt tX12_isHeard_ok 1 rfl rfl) flX12_7 hS.1 rfl ?_
  refine g_p (S' := [.int ((190 + (3 * x1)) + 2), .ref (a + 1)]) hF tX12_isHeard_ok 2 7 rfl rfl rfl rfl ?_
  obtain ⟨v1, e2, H⟩ := ob H
  refine g_ild hF (dAt tX12_isHeard_ok 9 rfl rfl) hS.2.1 e2 ?_
  refine g_p (S' := [.int 1, .int v1]) hF tX12_isHeard_ok 10 1 rfl rfl rfl rfl ?_
  obtain ⟨Ht3, Hf3⟩ := oi H
  refine g_icmp_eq hF (dAt tX12_isHeard_ok 11 rfl rfl) rfl (fun c3 => ?_) (fun c3 => ?_)
  · have H := Ht3 c3
    refine g_p (S' := [.ref a]) hF tX12_isHeard_ok 14 1 rfl rfl rfl rfl ?_
    refine g_getR hF (dAt tX12_isHeard_ok 15 rfl rfl) flX12_7 hS.1 rfl ?_
    refine g_p (S' := [.int ((190 + (3 * x1)) + 1), .ref (a + 1)]) hF tX12_isHeard_ok 16 7 rfl rfl rfl rfl ?_
    obtain ⟨v4, e5, H⟩ := ob H
    refine g_ild hF (dAt tX12_isHeard_ok 23 rfl rfl) hS.2.1 e5 ?_
    refine g_p (S' := [.ref a, .int v4]) hF tX12_isHeard_ok 24 1 rfl rfl rfl rfl ?_
    refine g_getR hF (dAt tX12_isHeard_ok 25 rfl rfl) flX12_7 hS.1 rfl ?_
    refine g_p (S' := [.int 1, .int x1, .ref a, .int 6, .int 50, .ref (a + 1), .int v4]) hF tX12_isHeard_ok 26 5 rfl rfl rfl rfl ?_
    obtain ⟨v6, e7, H⟩ := ob H
    refine g_cV (S := [.int 6, .int 50, .ref (a + 1), .int v4]) hF (X12_own_ok (Nat.le_refl _) hS e7 K) mbX12_own mvX12_own mlX12_65 (by omega) (by decide) (dAt tX12_isHeard_ok 31 rfl rfl) hS.1 rfl rfl rfl (Nat.le_of_ble_eq_true rfl) rfl rfl (by decide) (by decide) rfl ?_
    refine g_p (S' := [.ref a, .int (50 + (6 * v6)), .ref (a + 1), .int v4]) hF tX12_isHeard_ok 32 3 rfl rfl rfl rfl ?_
    refine g_getR hF (dAt tX12_isHeard_ok 35 rfl rfl) flX12_7 hS.1 rfl ?_
    refine g_p (S' := [.ref a, .int 20, .ref (a + 1), .int (50 + (6 * v6)), .ref (a + 1), .int v4]) hF tX12_isHeard_ok 36 2 rfl rfl rfl rfl ?_
    obtain ⟨v8, e9, H⟩ := ob H
    refine g_cV (S := [.int 20, .ref (a + 1), .int (50 + (6 * v6)), .ref (a + 1), .int v4]) hF (X12_hourNow_ok (Nat.le_refl _) hS e9 K) mbX12_hourNow mvX12_hourNow mlX12_248 (by omega) (by decide) (dAt tX12_isHeard_ok 38 rfl rfl) hS.1 rfl rfl rfl (Nat.le_of_ble_eq_true rfl) rfl rfl (by decide) (by decide) rfl ?_
    refine g_p (S' := [.int (20 + v8), .ref (a + 1), .int (50 + (6 * v6)), .ref (a + 1), .int v4]) hF tX12_isHeard_ok 39 1 rfl rfl rfl rfl ?_
    obtain ⟨v10, e11, H⟩ := ob H
    refine g_ild hF (dAt tX12_isHeard_ok 40 rfl rfl) hS.2.1 e11 ?_
    refine g_p (S' := [.int ((50 + (6 * v6)) + v10), .ref (a + 1), .int v4]) hF tX12_isHeard_ok 41 1 rfl rfl rfl rfl ?_
    obtain ⟨v12, e13, H⟩ := ob H
    refine g_ild hF (dAt tX12_isHeard_ok 42 rfl rfl) hS.2.1 e13 ?_
    refine g_p (S' := [.ref a, .int (v4 - v12)]) hF tX12_isHeard_ok 43 2 rfl rfl rfl rfl ?_
    refine g_getR hF (dAt tX12_isHeard_ok 45 rfl rfl) flX12_7 hS.1 rfl ?_
    refine g_p (S' := [.int 4, .ref (a + 1), .int (v4 - v12)]) hF tX12_isHeard_ok 46 1 rfl rfl rfl rfl ?_
    obtain ⟨v14, e15, H⟩ := ob H
    refine g_ild hF (dAt tX12_isHeard_ok 47 rfl rfl) hS.2.1 e15 ?_
    obtain ⟨Ht16, Hf16⟩ := oi H
    refine g_icmp_lt hF (dAt tX12_isHeard_ok 48 rfl rfl) rfl (fun c16 => ?_) (fun c16 => ?_)
    · have H := Ht16 c16
      refine g_p (S' := [.int 0]) hF tX12_isHeard_ok 51 1 rfl rfl rfl rfl ?_
      exact g_zret hF (en_i H hE) (Or.inl rfl) (dAt tX12_isHeard_ok 52 rfl rfl) (by decide) (by decide)
    · have H := Hf16 c16
      refine g_p (S' := [.int 1]) hF tX12_isHeard_ok 49 1 rfl rfl rfl rfl ?_
      refine g_goto hF (dAt tX12_isHeard_ok 50 rfl rfl) rfl ?_
      exact g_zret hF (en_i H hE) (Or.inr rfl) (dAt tX12_isHeard_ok 52 rfl rfl) (by decide) (by decide)
  · have H := Hf3 c3
    refine g_p (S' := [.int 0]) hF tX12_isHeard_ok 12 1 rfl rfl rfl rfl ?_
    exact g_zret hF (en_i H hE) (Or.inl rfl) (dAt tX12_isHeard_ok 13 rfl rfl) (by decide) (by decide)
def X12_isBetrayed_b12 (a : Nat) (σ : Sig) : Nat → Int32 → Int32 → Option (Int32)
  | 0, _, _ => none
  | fu + 1, x1, x2 => (ld 20240 (σ (a + 1)) 9).bind fun v1 => if v1 ≤ x2 then (some 0) else ((X12_own_f a x2 0 σ).bind fun v4 => if v4 = 1 then ((X12_own_f a x2 6 σ).bind fun v7 => if v7 = x1 then ((X12_isHeard_f a x2 σ).bind fun v10 => if v10 = 0 then (X12_isBetrayed_b12 a σ fu x1 (x2 + 1)) else (some 1)) else (X12_isBetrayed_b12 a σ fu x1 (x2 + 1))) else (X12_isBetrayed_b12 a σ fu x1 (x2 + 1)))
set_option maxRecDepth 4000 in
set_option maxHeartbeats 1000000 in
theorem X12_isBetrayed_b12_ok {K : Kt} {X : Cx} {D : Nat} {τ : Tau} {nx : Nat} {a : Nat} {res : Int32} {σ : Sig}  (hD : 3 ≤ D) (hF : Fx K X cX12_isBetrayed 3 RX12 D 0 0) (hS : ShX12 τ a) (hE : En K X (some .boolean) 0 0 (some (.int res)) (τ, σ, nx)) : ∀ (fu : Nat) (x1 x2 : Int32), X12_isBetrayed_b12 a σ fu x1 x2 = some res → G K X 3 0 0 12 [some (.ref a), some (.int x1), some (.int x2)] [] (τ, σ, nx)
  | 0, _, _, H => nomatch H
  | fu + 1, x1, x2, H => by
    refine g_p (S' := [.ref a, .int x2]) hF tX12_isBetrayed_ok 8 2 rfl rfl rfl rfl ?_
    refine g_getR hF (dAt tX12_isBetrayed_ok 10 rfl rfl) flX12_7 hS.1 rfl ?_
    refine g_p (S' := [.int 9, .ref (a + 1), .int x2]) hF tX12_isBetrayed_ok 11 1 rfl rfl rfl rfl ?_
    obtain ⟨v1, e2, H⟩ := ob H
    refine g_ild hF (dAt tX12_isBetrayed_ok 12 rfl rfl) hS.2.1 e2 ?_
    obtain ⟨Ht3, Hf3⟩ := oi H
    refine g_icmp_ge hF (dAt tX12_isBetrayed_ok 13 rfl rfl) rfl (fun c3 => ?_) (fun c3 => ?_)
    · have H := Ht3 c3
      refine g_p (S' := [.int 0]) hF tX12_isBetrayed_ok 34 1 rfl rfl rfl rfl ?_
      exact g_zret hF (en_i H hE) (Or.inl rfl) (dAt tX12_isBetrayed_ok 35 rfl rfl) (by decide) (by decide)
    · have H := Hf3 c3
      refine g_p (S' := [.int 0, .int x2, .ref a]) hF tX12_isBetrayed_ok 14 3 rfl rfl rfl rfl ?_
      obtain ⟨v4, e5, H⟩ := ob H
      refine g_cV (S := []) hF (X12_own_ok (Nat.le_refl _) hS e5 K) mbX12_own mvX12_own mlX12_65 (by omega) (by decide) (dAt tX12_isBetrayed_ok 17 rfl rfl) hS.1 rfl rfl rfl (Nat.le_of_ble_eq_true rfl) rfl rfl (by decide) (by decide) rfl ?_
      refine g_p (S' := [.int 1, .int v4]) hF tX12_isBetrayed_ok 18 1 rfl rfl rfl rfl ?_
      obtain ⟨Ht6, Hf6⟩ := oi H
      refine g_icmp_ne hF (dAt tX12_isBetrayed_ok 19 rfl rfl) rfl (fun c6 => ?_) (fun c6 => ?_)
      · have H := Hf6 c6
        refine g_p (L' := [some (.ref a), some (.int x1), some (.int (x2 + 1))]) (S' := []) hF tX12_isBetrayed_ok 32 1 rfl rfl rfl rfl ?_
        refine g_goto hF (dAt tX12_isBetrayed_ok 33 rfl rfl) rfl ?_
        exact X12_isBetrayed_b12_ok hD hF hS hE fu _ _ H
      · have H := Ht6 c6
        refine g_p (S' := [.int 6, .int x2, .ref a]) hF tX12_isBetrayed_ok 20 3 rfl rfl rfl rfl ?_
        obtain ⟨v7, e8, H⟩ := ob H
        refine g_cV (S := []) hF (X12_own_ok (Nat.le_refl _) hS e8 K) mbX12_own mvX12_own mlX12_65 (by omega) (by decide) (dAt tX12_isBetrayed_ok 23 rfl rfl) hS.1 rfl rfl rfl (Nat.le_of_ble_eq_true rfl) rfl rfl (by decide) (by decide) rfl ?_
        refine g_p (S' := [.int x1, .int v7]) hF tX12_isBetrayed_ok 24 1 rfl rfl rfl rfl ?_
        obtain ⟨Ht9, Hf9⟩ := oi H
        refine g_icmp_ne hF (dAt tX12_isBetrayed_ok 25 rfl rfl) rfl (fun c9 => ?_) (fun c9 => ?_)
        · have H := Hf9 c9
          refine g_p (L' := [some (.ref a), some (.int x1), some (.int (x2 + 1))]) (S' := []) hF tX12_isBetrayed_ok 32 1 rfl rfl rfl rfl ?_
          refine g_goto hF (dAt tX12_isBetrayed_ok 33 rfl rfl) rfl ?_
          exact X12_isBetrayed_b12_ok hD hF hS hE fu _ _ H
        · have H := Ht9 c9
          refine g_p (S' := [.int x2, .ref a]) hF tX12_isBetrayed_ok 26 2 rfl rfl rfl rfl ?_
          obtain ⟨v10, e11, H⟩ := ob H
          refine g_cV (S := []) hF (X12_isHeard_ok (Nat.le_refl _) hS e11 K) mbX12_isHeard mvX12_isHeard mlX12_266 (by omega) (by decide) (dAt tX12_isBetrayed_ok 28 rfl rfl) hS.1 rfl rfl rfl (Nat.le_of_ble_eq_true rfl) rfl rfl (by decide) (by decide) rfl ?_
          obtain ⟨Ht12, Hf12⟩ := oi H
          refine g_if_eq hF (dAt tX12_isBetrayed_ok 29 rfl rfl) rfl (fun c12 => ?_) (fun c12 => ?_)
          · have H := Ht12 c12
            refine g_p (L' := [some (.ref a), some (.int x1), some (.int (x2 + 1))]) (S' := []) hF tX12_isBetrayed_ok 32 1 rfl rfl rfl rfl ?_
            refine g_goto hF (dAt tX12_isBetrayed_ok 33 rfl rfl) rfl ?_
            exact X12_isBetrayed_b12_ok hD hF hS hE fu _ _ H
          · have H := Hf12 c12
            refine g_p (S' := [.int 1]) hF tX12_isBetrayed_ok 30 1 rfl rfl rfl rfl ?_
            exact g_zret hF (en_i H hE) (Or.inr rfl) (dAt tX12_isBetrayed_ok 31 rfl rfl) (by decide) (by decide)
def X12_isBetrayed_f (a : Nat) (x1 : Int32) (σ : Sig) : Option (Int32) := (X12_isHeard_f a x1 σ).bind fun v1 => if v1 = 0 then (X12_isBetrayed_b12 a σ FU x1 0) else (some 1)
set_option maxRecDepth 4000 in
set_option maxHeartbeats 1000000 in
theorem X12_isBetrayed_ok {D : Nat} {τ : Tau} {nx : Nat} {a : Nat} {x1 : Int32} {σ : Sig} {res : Int32} (hD : 3 ≤ D) (hS : ShX12 τ a) (H : X12_isBetrayed_f a x1 σ = some res) : Ok D 0 0 yX12_isBetrayed cX12_isBetrayed 3 (some .boolean) [.ref a, .int x1] (τ, σ, nx) (some (.int res)) (τ, σ, nx) := by
  refine ok_of (by decide +kernel) rfl (Nat.le_of_ble_eq_true rfl) (fun K X hF hE hN L0 hL0 => ?_)
  obtain rfl : [some (.ref a), some (.int x1), none] = L0 := hL0
  have hF : Fx K X cX12_isBetrayed 3 RX12 D 0 0 := hF
  refine g_p (S' := [.int x1, .ref a]) hF tX12_isBetrayed_ok 0 2 rfl rfl rfl rfl ?_
  obtain ⟨v1, e2, H⟩ := ob H
  refine g_cV (S := []) hF (X12_isHeard_ok (Nat.le_refl _) hS e2 K) mbX12_isHeard mvX12_isHeard mlX12_266 (by omega) (by decide) (dAt tX12_isBetrayed_ok 2 rfl rfl) hS.1 rfl rfl rfl (Nat.le_of_ble_eq_true rfl) rfl rfl (by decide) (by decide) rfl ?_
  obtain ⟨Ht3, Hf3⟩ := oi H
  refine g_if_eq hF (dAt tX12_isBetrayed_ok 3 rfl rfl) rfl (fun c3 => ?_) (fun c3 => ?_)
  · have H := Ht3 c3
    refine g_p (L' := [some (.ref a), some (.int x1), some (.int 0)]) (S' := []) hF tX12_isBetrayed_ok 6 2 rfl rfl rfl rfl ?_
    exact X12_isBetrayed_b12_ok hD hF hS hE FU _ _ H
  · have H := Hf3 c3
    refine g_p (S' := [.int 1]) hF tX12_isBetrayed_ok 4 1 rfl rfl rfl rfl ?_
    exact g_zret hF (en_i H hE) (Or.inr rfl) (dAt tX12_isBetrayed_ok 5 rfl rfl) (by decide) (by decide)
def X12_keptFor_b67 (a : Nat) (σ : Sig) (k4 : Int32 → Int32 → Int32 → Option (Int32)) (x1 x2 x3 : Int32) : Option (Int32) := (ld 20240 (σ (a + 1)) 6).bind fun v1 => if v1 = 2 then ((X12_debtOf_f a x3 2 σ).bind fun v4 => (X12_debtOf_f a x2 2 σ).bind fun v6 => if v4 ≤ v6 then (k4 x1 x2 (x3 + 1)) else (k4 x1 x3 (x3 + 1))) else (k4 x1 x2 (x3 + 1))
set_option maxRecDepth 4000 in
set_option maxHeartbeats 1000000 in
theorem X12_keptFor_b67_ok {K : Kt} {X : Cx} {D : Nat} {τ : Tau} {nx : Nat} {a : Nat} {res : Int32} {σ : Sig}  (hD : 3 ≤ D) (hF : Fx K X cX12_keptFor 4 RX12 D 0 0) (hS : ShX12 τ a) (hE : En K X (some .int) 0 0 (some (.int res)) (τ, σ, nx)) {k4 : Int32 → Int32 → Int32 → Option (Int32)} (hk4 : ∀ (x1 x2 x3 : Int32), k4 x1 x2 x3 = some res → G K X 4 0 0 4 [some (.ref a), some (.int x1), some (.int x2), some (.int x3)] [] (τ, σ, nx)) {x1 x2 x3 : Int32} (H : X12_keptFor_b67 a σ k4 x1 x2 x3 = some res) : G K X 4 0 0 67 [some (.ref a), some (.int x1), some (.int x2), some (.int x3)] [] (τ, σ, nx) := by
  refine g_p (S' := [.ref a]) hF tX12_keptFor_ok 39 1 rfl rfl rfl rfl ?_
  refine g_getR hF (dAt tX12_keptFor_ok 40 rfl rfl) flX12_7 hS.1 rfl ?_
  refine g_p (S' := [.int 6, .ref (a + 1)]) hF tX12_keptFor_ok 41 1 rfl rfl rfl rfl ?_
  obtain ⟨v1, e2, H⟩ := ob H
  refine g_ild hF (dAt tX12_keptFor_ok 42 rfl rfl) hS.2.1 e2 ?_
  refine g_p (S' := [.int 2, .int v1]) hF tX12_keptFor_ok 43 1 rfl rfl rfl rfl ?_
  obtain ⟨Ht3, Hf3⟩ := oi H
  refine g_icmp_ne hF (dAt tX12_keptFor_ok 44 rfl rfl) rfl (fun c3 => ?_) (fun c3 => ?_)
  · have H := Hf3 c3
    refine g_p (L' := [some (.ref a), some (.int x1), some (.int x2), some (.int (x3 + 1))]) (S' := []) hF tX12_keptFor_ok 56 1 rfl rfl rfl rfl ?_
    refine g_goto hF (dAt tX12_keptFor_ok 57 rfl rfl) rfl ?_
    exact hk4 _ _ _ H
  · have H := Ht3 c3
    refine g_p (S' := [.int 2, .int x3, .ref a]) hF tX12_keptFor_ok 45 3 rfl rfl rfl rfl ?_
    obtain ⟨v4, e5, H⟩ := ob H
    refine g_cV (S := []) hF (X12_debtOf_ok (Nat.le_refl _) hS e5 K) mbX12_debtOf mvX12_debtOf mlX12_76 (by omega) (by decide) (dAt tX12_keptFor_ok 48 rfl rfl) hS.1 rfl rfl rfl (Nat.le_of_ble_eq_true rfl) rfl rfl (by decide) (by decide) rfl ?_
    refine g_p (S' := [.int 2, .int x2, .ref a, .int v4]) hF tX12_keptFor_ok 49 3 rfl rfl rfl rfl ?_
    obtain ⟨v6, e7, H⟩ := ob H
    refine g_cV (S := [.int v4]) hF (X12_debtOf_ok (Nat.le_refl _) hS e7 K) mbX12_debtOf mvX12_debtOf mlX12_76 (by omega) (by decide) (dAt tX12_keptFor_ok 52 rfl rfl) hS.1 rfl rfl rfl (Nat.le_of_ble_eq_true rfl) rfl rfl (by decide) (by decide) rfl ?_
    obtain ⟨Ht8, Hf8⟩ := oi H
    refine g_icmp_le hF (dAt tX12_keptFor_ok 53 rfl rfl) rfl (fun c8 => ?_) (fun c8 => ?_)
    · have H := Ht8 c8
      refine g_p (L' := [some (.ref a), some (.int x1), some (.int x2), some (.int (x3 + 1))]) (S' := []) hF tX12_keptFor_ok 56 1 rfl rfl rfl rfl ?_
      refine g_goto hF (dAt tX12_keptFor_ok 57 rfl rfl) rfl ?_
      exact hk4 _ _ _ H
    · have H := Hf8 c8
      refine g_p (L' := [some (.ref a), some (.int x1), some (.int x3), some (.int (x3 + 1))]) (S' := []) hF tX12_keptFor_ok 54 3 rfl rfl rfl rfl ?_
      refine g_goto hF (dAt tX12_keptFor_ok 57 rfl rfl) rfl ?_
      exact hk4 _ _ _ H
def X12_keptFor_b4 (a : Nat) (σ : Sig) : Nat → Int32 → Int32 → Int32 → Option (Int32)
  | 0, _, _, _ => none
  | fu + 1, x1, x2, x3 => (ld 20240 (σ (a + 1)) 10).bind fun v1 => if v1 ≤ x3 then (some x2) else ((X12_debtOf_f a x3 2 σ).bind fun v4 => if v4 = 0 then (X12_keptFor_b4 a σ fu x1 x2 (x3 + 1)) else ((X12_workerOf_f a x3 σ).bind fun v7 => if v7 = x1 then (if x2 = (-1) then (X12_keptFor_b4 a σ fu x1 x3 (x3 + 1)) else ((ld 20240 (σ (a + 1)) 6).bind fun v11 => if v11 = 1 then ((X12_debtOf_f a x3 2 σ).bind fun v14 => (X12_debtOf_f a x2 2 σ).bind fun v16 => if v14 < v16 then (X12_keptFor_b4 a σ fu x1 x3 (x3 + 1)) else (X12_keptFor_b67 a σ (X12_keptFor_b4 a σ fu) x1 x2 x3)) else (X12_keptFor_b67 a σ (X12_keptFor_b4 a σ fu) x1 x2 x3))) else (X12_keptFor_b4 a σ fu x1 x2 (x3 + 1))))
set_option maxRecDepth 4000 in
set_option maxHeartbeats 1000000 in
theorem X12_keptFor_b4_ok {K : Kt} {X : Cx} {D : Nat} {τ : Tau} {nx : Nat} {a : Nat} {res : Int32} {σ : Sig}  (hD : 3 ≤ D) (hF : Fx K X cX12_keptFor 4 RX12 D 0 0) (hS : ShX12 τ a) (hE : En K X (some .int) 0 0 (some (.int res)) (τ, σ, nx)) : ∀ (fu : Nat) (x1 x2 x3 : Int32), X12_keptFor_b4 a σ fu x1 x2 x3 = some res → G K X 4 0 0 4 [some (.ref a), some (.int x1), some (.int x2), some (.int x3)] [] (τ, σ, nx)
  | 0, _, _, _, H => nomatch H
  | fu + 1, x1, x2, x3, H => by
    refine g_p (S' := [.ref a, .int x3]) hF tX12_keptFor_ok 4 2 rfl rfl rfl rfl ?_
    refine g_getR hF (dAt tX12_keptFor_ok 6 rfl rfl) flX12_7 hS.1 rfl ?_
    refine g_p (S' := [.int 10, .ref (a + 1), .int x3]) hF tX12_keptFor_ok 7 1 rfl rfl rfl rfl ?_
    obtain ⟨v1, e2, H⟩ := ob H
    refine g_ild hF (dAt tX12_keptFor_ok 8 rfl rfl) hS.2.1 e2 ?_
    obtain ⟨Ht3, Hf3⟩ := oi H
    refine g_icmp_ge hF (dAt tX12_keptFor_ok 9 rfl rfl) rfl (fun c3 => ?_) (fun c3 => ?_)
    · have H := Ht3 c3
      refine g_p (S' := [.int x2]) hF tX12_keptFor_ok 58 1 rfl rfl rfl rfl ?_
      exact g_iret hF (en_i H hE) (dAt tX12_keptFor_ok 59 rfl rfl) (by decide) (by decide)
    · have H := Hf3 c3
      refine g_p (S' := [.int 2, .int x3, .ref a]) hF tX12_keptFor_ok 10 3 rfl rfl rfl rfl ?_
      obtain ⟨v4, e5, H⟩ := ob H
      refine g_cV (S := []) hF (X12_debtOf_ok (Nat.le_refl _) hS e5 K) mbX12_debtOf mvX12_debtOf mlX12_76 (by omega) (by decide) (dAt tX12_keptFor_ok 13 rfl rfl) hS.1 rfl rfl rfl (Nat.le_of_ble_eq_true rfl) rfl rfl (by decide) (by decide) rfl ?_
      obtain ⟨Ht6, Hf6⟩ := oi H
      refine g_if_eq hF (dAt tX12_keptFor_ok 14 rfl rfl) rfl (fun c6 => ?_) (fun c6 => ?_)
      · have H := Ht6 c6
        refine g_p (L' := [some (.ref a), some (.int x1), some (.int x2), some (.int (x3 + 1))]) (S' := []) hF tX12_keptFor_ok 56 1 rfl rfl rfl rfl ?_
        refine g_goto hF (dAt tX12_keptFor_ok 57 rfl rfl) rfl ?_
        exact X12_keptFor_b4_ok hD hF hS hE fu _ _ _ H
      · have H := Hf6 c6
        refine g_p (S' := [.int x3, .ref a]) hF tX12_keptFor_ok 15 2 rfl rfl rfl rfl ?_
        obtain ⟨v7, e8, H⟩ := ob H
        refine g_cV (S := []) hF (X12_workerOf_ok (Nat.le_refl _) hS e8 K) mbX12_workerOf mvX12_workerOf mlX12_79 (by omega) (by decide) (dAt tX12_keptFor_ok 17 rfl rfl) hS.1 rfl rfl rfl (Nat.le_of_ble_eq_true rfl) rfl rfl (by decide) (by decide) rfl ?_
        refine g_p (S' := [.int x1, .int v7]) hF tX12_keptFor_ok 18 1 rfl rfl rfl rfl ?_
        obtain ⟨Ht9, Hf9⟩ := oi H
        refine g_icmp_eq hF (dAt tX12_keptFor_ok 19 rfl rfl) rfl (fun c9 => ?_) (fun c9 => ?_)
        · have H := Ht9 c9
          refine g_p (S' := [.int (-1), .int x2]) hF tX12_keptFor_ok 21 2 rfl rfl rfl rfl ?_
          obtain ⟨Ht10, Hf10⟩ := oi H
          refine g_icmp_eq hF (dAt tX12_keptFor_ok 23 rfl rfl) rfl (fun c10 => ?_) (fun c10 => ?_)
          · have H := Ht10 c10
            refine g_p (L' := [some (.ref a), some (.int x1), some (.int x3), some (.int (x3 + 1))]) (S' := []) hF tX12_keptFor_ok 54 3 rfl rfl rfl rfl ?_
            refine g_goto hF (dAt tX12_keptFor_ok 57 rfl rfl) rfl ?_
            exact X12_keptFor_b4_ok hD hF hS hE fu _ _ _ H
          · have H := Hf10 c10
            refine g_p (S' := [.ref a]) hF tX12_keptFor_ok 24 1 rfl rfl rfl rfl ?_
            refine g_getR hF (dAt tX12_keptFor_ok 25 rfl rfl) flX12_7 hS.1 rfl ?_
            refine g_p (S' := [.int 6, .ref (a + 1)]) hF tX12_keptFor_ok 26 1 rfl rfl rfl rfl ?_
            obtain ⟨v11, e12, H⟩ := ob H
            refine g_ild hF (dAt tX12_keptFor_ok 27 rfl rfl) hS.2.1 e12 ?_
            refine g_p (S' := [.int 1, .int v11]) hF tX12_keptFor_ok 28 1 rfl rfl rfl rfl ?_
            obtain ⟨Ht13, Hf13⟩ := oi H
            refine g_icmp_ne hF (dAt tX12_keptFor_ok 29 rfl rfl) rfl (fun c13 => ?_) (fun c13 => ?_)
            · have H := Hf13 c13
              exact X12_keptFor_b67_ok hD hF hS hE (fun _ _ _ H => X12_keptFor_b4_ok hD hF hS hE fu _ _ _ H) H
            · have H := Ht13 c13
              refine g_p (S' := [.int 2, .int x3, .ref a]) hF tX12_keptFor_ok 30 3 rfl rfl rfl rfl ?_
              obtain ⟨v14, e15, H⟩ := ob H
              refine g_cV (S := []) hF (X12_debtOf_ok (Nat.le_refl _) hS e15 K) mbX12_debtOf mvX12_debtOf mlX12_76 (by omega) (by decide) (dAt tX12_keptFor_ok 33 rfl rfl) hS.1 rfl rfl rfl (Nat.le_of_ble_eq_true rfl) rfl rfl (by decide) (by decide) rfl ?_
              refine g_p (S' := [.int 2, .int x2, .ref a, .int v14]) hF tX12_keptFor_ok 34 3 rfl rfl rfl rfl ?_
              obtain ⟨v16, e17, H⟩ := ob H
              refine g_cV (S := [.int v14]) hF (X12_debtOf_ok (Nat.le_refl _) hS e17 K) mbX12_debtOf mvX12_debtOf mlX12_76 (by omega) (by decide) (dAt tX12_keptFor_ok 37 rfl rfl) hS.1 rfl rfl rfl (Nat.le_of_ble_eq_true rfl) rfl rfl (by decide) (by decide) rfl ?_
              obtain ⟨Ht18, Hf18⟩ := oi H
              refine g_icmp_lt hF (dAt tX12_keptFor_ok 38 rfl rfl) rfl (fun c18 => ?_) (fun c18 => ?_)
              · have H := Ht18 c18
                refine g_p (L' := [some (.ref a), some (.int x1), some (.int x3), some (.int (x3 + 1))]) (S' := []) hF tX12_keptFor_ok 54 3 rfl rfl rfl rfl ?_
                refine g_goto hF (dAt tX12_keptFor_ok 57 rfl rfl) rfl ?_
                exact X12_keptFor_b4_ok hD hF hS hE fu _ _ _ H
              · have H := Hf18 c18
                exact X12_keptFor_b67_ok hD hF hS hE (fun _ _ _ H => X12_keptFor_b4_ok hD hF hS hE fu _ _ _ H) H
        · have H := Hf9 c9
          refine g_goto hF (dAt tX12_keptFor_ok 20 rfl rfl) rfl ?_
          refine g_p (L' := [some (.ref a), some (.int x1), some (.int x2), some (.int (x3 + 1))]) (S' := []) hF tX12_keptFor_ok 56 1 rfl rfl rfl rfl ?_
          refine g_goto hF (dAt tX12_keptFor_ok 57 rfl rfl) rfl ?_
          exact X12_keptFor_b4_ok hD hF hS hE fu _ _ _ H
def X12_keptFor_f (a : Nat) (x1 : Int32) (σ : Sig) : Option (Int32) := X12_keptFor_b4 a σ FU x1 (-1) 0
set_option maxRecDepth 4000 in
set_option maxHeartbeats 1000000 in
theorem X12_keptFor_ok {D : Nat} {τ : Tau} {nx : Nat} {a : Nat} {x1 : Int32} {σ : Sig} {res : Int32} (hD : 3 ≤ D) (hS : ShX12 τ a) (H : X12_keptFor_f a x1 σ = some res) : Ok D 0 0 yX12_keptFor cX12_keptFor 4 (some .int) [.ref a, .int x1] (τ, σ, nx) (some (.int res)) (τ, σ, nx) := by
  refine ok_of (by decide +kernel) rfl (Nat.le_of_ble_eq_true rfl) (fun K X hF hE hN L0 hL0 => ?_)
  obtain rfl : [some (.ref a), some (.int x1), none, none] = L0 := hL0
  have hF : Fx K X cX12_keptFor 4 RX12 D 0 0 := hF
  refine g_p (L' := [some (.ref a), some (.int x1), some (.int (-1)), some (.int 0)]) (S' := []) hF tX12_keptFor_ok 0 4 rfl rfl rfl rfl ?_
  exact X12_keptFor_b4_ok hD hF hS hE FU _ _ _ H
def X12_keeps_b94 (a : Nat) (x2 : Int32) (σ : Sig) : Option (Sig) := (X12_lays0_f a x2 3 0 σ).bind fun s1 => some s1
set_option maxRecDepth 4000 in
set_option maxHeartbeats 1000000 in
theorem X12_keeps_b94_ok {K : Kt} {X : Cx} {D : Nat} {τ : Tau} {nx : Nat} {a : Nat} {res : Sig}  (hD : 4 ≤ D) (hF : Fx K X cX12_keeps 4 RX12 D 0 0) (hS : ShX12 τ a) (hE : En K X none 0 0 none (τ, res, nx)) {x2 : Int32} {σ : Sig} (H : X12_keeps_b94 a x2 σ = some res) : G K X 4 0 0 94 [some (.ref a), none, some (.int x2), none] [] (τ, σ, nx) := by
  refine g_p (S' := [.int 0, .int 3, .int x2, .ref a]) hF tX12_keeps_ok 56 4 rfl rfl rfl rfl ?_
  obtain ⟨s1, e2, H⟩ := ob H
  refine g_cV (S := []) hF (X12_lays0_ok (Nat.le_refl _) hS e2 K) mbX12_lays0 mvX12_lays0 mlX12_70 (by omega) (by decide) (dAt tX12_keeps_ok 60 rfl rfl) hS.1 rfl rfl rfl (Nat.le_of_ble_eq_true rfl) rfl rfl (by decide) (by decide) rfl ?_
  exact g_vret hF (en_v H hE) (dAt tX12_keeps_ok 61 rfl rfl) (by decide) (by decide)
def X12_keeps_b61 (a : Nat) (x1 x2 x3 y0 y1 y2 : Int32) (σ : Sig) : Option (Sig) := (st 20240 σ (a + 1) y2 (y1 + y0)).bind fun s1 => if x3 ≤ 0 then ((X12_debtOf_f a x2 3 s1).bind fun v4 => (X12_lays0_f a x2 3 (v4 + 1) s1).bind fun s6 => (X12_debtOf_f a x2 3 s6).bind fun v8 => if 4 ≤ v8 then ((X12_lays0_f a x2 3 0 s6).bind fun s11 => (X12_debtOf_f a x2 2 s11).bind fun v13 => (X12_lays0_f a x2 2 (v13 - 1) s11).bind fun s15 => (X12_debtOf_f a x2 6 s15).bind fun v17 => (X12_lays0_f a x2 6 (v17 + 1) s15).bind fun s19 => (ld 20240 (s19 (a + 1)) 12).bind fun v21 => (st 20240 s19 (a + 1) 12 (v21 + 1)).bind fun s23 => (X12_writes_f a 0 x1 x2 s23).bind fun s25 => (X12_debtOf_f a x2 2 s25).bind fun v27 => if v27 = 0 then ((X12_writes_f a 4 x1 x2 s25).bind fun s30 => some s30) else (some s25)) else (some s6)) else ((X12_debtOf_f a x2 3 s1).bind fun v32 => if v32 ≤ 0 then (X12_keeps_b94 a x2 s1) else ((ld 20240 (s1 (a + 1)) 13).bind fun v35 => (st 20240 s1 (a + 1) 13 (v35 + 1)).bind fun s37 => (X12_writes_f a x3 x1 x2 s37).bind fun s39 => X12_keeps_b94 a x2 s39))
set_option maxRecDepth 4000 in
set_option maxHeartbeats 1000000 in
theorem X12_keeps_b61_ok {K : Kt} {X : Cx} {D : Nat} {τ : Tau} {nx : Nat} {a : Nat} {res : Sig}  (hD : 4 ≤ D) (hF : Fx K X cX12_keeps 4 RX12 D 0 0) (hS : ShX12 τ a) (hE : En K X none 0 0 none (τ, res, nx)) {x1 x2 x3 y0 y1 y2 : Int32} {σ : Sig} (H : X12_keeps_b61 a x1 x2 x3 y0 y1 y2 σ = some res) : G K X 4 0 0 61 [some (.ref a), some (.int x1), some (.int x2), some (.int x3)] [.int y0, .int y1, .int y2, .ref (a + 1)] (τ, σ, nx) := by
  refine g_p (S' := [.int (y1 + y0), .int y2, .ref (a + 1)]) hF tX12_keeps_ok 34 1 rfl rfl rfl rfl ?_
  obtain ⟨s1, e2, H⟩ := ob H
  refine g_ist hF (dAt tX12_keeps_ok 35 rfl rfl) hS.2.1 e2 ?_
  refine g_p (S' := [.int x3]) hF tX12_keeps_ok 36 1 rfl rfl rfl rfl ?_
  obtain ⟨Ht3, Hf3⟩ := oi H
  refine g_if_le hF (dAt tX12_keeps_ok 37 rfl rfl) rfl (fun c3 => ?_) (fun c3 => ?_)
  · have H := Ht3 c3
    refine g_p (S' := [.int 3, .int x2, .ref a, .int 3, .int x2, .ref a]) hF tX12_keeps_ok 62 6 rfl rfl rfl rfl ?_
    obtain ⟨v4, e5, H⟩ := ob H
    refine g_cV (S := [.int 3, .int x2, .ref a]) hF (X12_debtOf_ok (Nat.le_refl _) hS e5 K) mbX12_debtOf mvX12_debtOf mlX12_76 (by omega) (by decide) (dAt tX12_keeps_ok 68 rfl rfl) hS.1 rfl rfl rfl (Nat.le_of_ble_eq_true rfl) rfl rfl (by decide) (by decide) rfl ?_
    refine g_p (S' := [.int (v4 + 1), .int 3, .int x2, .ref a]) hF tX12_keeps_ok 69 2 rfl rfl rfl rfl ?_
    obtain ⟨s6, e7, H⟩ := ob H
    refine g_cV (S := []) hF (X12_lays0_ok (Nat.le_refl _) hS e7 K) mbX12_lays0 mvX12_lays0 mlX12_70 (by omega) (by decide) (dAt tX12_keeps_ok 71 rfl rfl) hS.1 rfl rfl rfl (Nat.le_of_ble_eq_true rfl) rfl rfl (by decide) (by decide) rfl ?_
    refine g_p (S' := [.int 3, .int x2, .ref a]) hF tX12_keeps_ok 72 3 rfl rfl rfl rfl ?_
    obtain ⟨v8, e9, H⟩ := ob H
    refine g_cV (S := []) hF (X12_debtOf_ok (Nat.le_refl _) hS e9 K) mbX12_debtOf mvX12_debtOf mlX12_76 (by omega) (by decide) (dAt tX12_keeps_ok 75 rfl rfl) hS.1 rfl rfl rfl (Nat.le_of_ble_eq_true rfl) rfl rfl (by decide) (by decide) rfl ?_
    refine g_p (S' := [.int 4, .int v8]) hF tX12_keeps_ok 76 1 rfl rfl rfl rfl ?_
    obtain ⟨Ht10, Hf10⟩ := oi H
    refine g_icmp_ge hF (dAt tX12_keeps_ok 77 rfl rfl) rfl (fun c10 => ?_) (fun c10 => ?_)
    · have H := Ht10 c10
      refine g_p (S' := [.int 0, .int 3, .int x2, .ref a]) hF tX12_keeps_ok 79 4 rfl rfl rfl rfl ?_
      obtain ⟨s11, e12, H⟩ := ob H
      refine g_cV (S := []) hF (X12_lays0_ok (Nat.le_refl _) hS e12 K) mbX12_lays0 mvX12_lays0 mlX12_70 (by omega) (by decide) (dAt tX12_keeps_ok 83 rfl rfl) hS.1 rfl rfl rfl (Nat.le_of_ble_eq_true rfl) rfl rfl (by decide) (by decide) rfl ?_
      refine g_p (S' := [.int 2, .int x2, .ref a, .int 2, .int x2, .ref a]) hF tX12_keeps_ok 84 6 rfl rfl rfl rfl ?_
      obtain ⟨v13, e14, H⟩ := ob H
      refine g_cV (S := [.int 2, .int x2, .ref a]) hF (X12_debtOf_ok (Nat.le_refl _) hS e14 K) mbX12_debtOf mvX12_debtOf mlX12_76 (by omega) (by decide) (dAt tX12_keeps_ok 90 rfl rfl) hS.1 rfl rfl rfl (Nat.le_of_ble_eq_true rfl) rfl rfl (by decide) (by decide) rfl ?_
      refine g_p (S' := [.int (v13 - 1), .int 2, .int x2, .ref a]) hF tX12_keeps_ok 91 2 rfl rfl rfl rfl ?_
      obtain ⟨s15, e16, H⟩ := ob H
      refine g_cV (S := []) hF (X12_lays0_ok (Nat.le_refl _) hS e16 K) mbX12_lays0 mvX12_lays0 mlX12_70 (by omega) (by decide) (dAt tX12_keeps_ok 93 rfl rfl) hS.1 rfl rfl rfl (Nat.le_of_ble_eq_true rfl) rfl rfl (by decide) (by decide) rfl ?_
      refine g_p (S' := [.int 6, .int x2, .ref a, .int 6, .int x2, .ref a]) hF tX12_keeps_ok 94 6 rfl rfl rfl rfl ?_
      obtain ⟨v17, e18, H⟩ := ob H
      refine g_cV (S := [.int 6, .int x2, .ref a]) hF (X12_debtOf_ok (Nat.le_refl _) hS e18 K) mbX12_debtOf mvX12_debtOf mlX12_76 (by omega) (by decide) (dAt tX12_keeps_ok 100 rfl rfl) hS.1 rfl rfl rfl (Nat.le_of_ble_eq_true rfl) rfl rfl (by decide) (by decide) rfl ?_
      refine g_p (S' := [.int (v17 + 1), .int 6, .int x2, .ref a]) hF tX12_keeps_ok 101 2 rfl rfl rfl rfl ?_
      obtain ⟨s19, e20, H⟩ := ob H
      refine g_cV (S := []) hF (X12_lays0_ok (Nat.le_refl _) hS e20 K) mbX12_lays0 mvX12_lays0 mlX12_70 (by omega) (by decide) (dAt tX12_keeps_ok 103 rfl rfl) hS.1 rfl rfl rfl (Nat.le_of_ble_eq_true rfl) rfl rfl (by decide) (by decide) rfl ?_
      refine g_p (S' := [.ref a]) hF tX12_keeps_ok 104 1 rfl rfl rfl rfl ?_
      refine g_getR hF (dAt tX12_keeps_ok 105 rfl rfl) flX12_7 hS.1 rfl ?_
      refine g_p (S' := [.int 12, .ref (a + 1), .int 12, .ref (a + 1)]) hF tX12_keeps_ok 106 2 rfl rfl rfl rfl ?_
      obtain ⟨v21, e22, H⟩ := ob H
      refine g_ild hF (dAt tX12_keeps_ok 108 rfl rfl) hS.2.1 e22 ?_
      refine g_p (S' := [.int (v21 + 1), .int 12, .ref (a + 1)]) hF tX12_keeps_ok 109 2 rfl rfl rfl rfl ?_
      obtain ⟨s23, e24, H⟩ := ob H
      refine g_ist hF (dAt tX12_keeps_ok 111 rfl rfl) hS.2.1 e24 ?_
      refine g_p (S' := [.int x2, .int x1, .int 0, .ref a]) hF tX12_keeps_ok 112 4 rfl rfl rfl rfl ?_
      obtain ⟨s25, e26, H⟩ := ob H
      refine g_cV (S := []) hF (X12_writes_ok (Nat.le_refl _) hS e26 K) mbX12_writes mvX12_writes mlX12_272 (by omega) (by decide) (dAt tX12_keeps_ok 116 rfl rfl) hS.1 rfl rfl rfl (Nat.le_of_ble_eq_true rfl) rfl rfl (by decide) (by decide) rfl ?_
      refine g_p (S' := [.int 2, .int x2, .ref a]) hF tX12_keeps_ok 117 3 rfl rfl rfl rfl ?_
      obtain ⟨v27, e28, H⟩ := ob H
      refine g_cV (S := []) hF (X12_debtOf_ok (Nat.le_refl _) hS e28 K) mbX12_debtOf mvX12_debtOf mlX12_76 (by omega) (by decide) (dAt tX12_keeps_ok 120 rfl rfl) hS.1 rfl rfl rfl (Nat.le_of_ble_eq_true rfl) rfl rfl (by decide) (by decide) rfl ?_
      obtain ⟨Ht29, Hf29⟩ := oi H
      refine g_if_ne hF (dAt tX12_keeps_ok 121 rfl rfl) rfl (fun c29 => ?_) (fun c29 => ?_)
      · have H := Hf29 c29
        exact g_vret hF (en_v H hE) (dAt tX12_keeps_ok 127 rfl rfl) (by decide) (by decide)
      · have H := Ht29 c29
        refine g_p (S' := [.int x2, .int x1, .int 4, .ref a]) hF tX12_keeps_ok 122 4 rfl rfl rfl rfl ?_
        obtain ⟨s30, e31, H⟩ := ob H
        refine g_cV (S := []) hF (X12_writes_ok (Nat.le_refl _) hS e31 K) mbX12_writes mvX12_writes mlX12_272 (by omega) (by decide) (dAt tX12_keeps_ok 126 rfl rfl) hS.1 rfl rfl rfl (Nat.le_of_ble_eq_true rfl) rfl rfl (by decide) (by decide) rfl ?_
        exact g_vret hF (en_v H hE) (dAt tX12_keeps_ok 127 rfl rfl) (by decide) (by decide)
    · have H := Hf10 c10
      exact g_vret hF (en_v H hE) (dAt tX12_keeps_ok 78 rfl rfl) (by decide) (by decide)
  · have H := Hf3 c3
    refine g_p (S' := [.int 3, .int x2, .ref a]) hF tX12_keeps_ok 38 3 rfl rfl rfl rfl ?_
    obtain ⟨v32, e33, H⟩ := ob H
    refine g_cV (S := []) hF (X12_debtOf_ok (Nat.le_refl _) hS e33 K) mbX12_debtOf mvX12_debtOf mlX12_76 (by omega) (by decide) (dAt tX12_keeps_ok 41 rfl rfl) hS.1 rfl rfl rfl (Nat.le_of_ble_eq_true rfl) rfl rfl (by decide) (by decide) rfl ?_
    obtain ⟨Ht34, Hf34⟩ := oi H
    refine g_if_le hF (dAt tX12_keeps_ok 42 rfl rfl) rfl (fun c34 => ?_) (fun c34 => ?_)
    · have H := Ht34 c34
      refine g_m [true, false, true, false] rfl ?_
      exact X12_keeps_b94_ok hD hF hS hE H
    · have H := Hf34 c34
      refine g_p (S' := [.ref a]) hF tX12_keeps_ok 43 1 rfl rfl rfl rfl ?_
      refine g_getR hF (dAt tX12_keeps_ok 44 rfl rfl) flX12_7 hS.1 rfl ?_
      refine g_p (S' := [.int 13, .ref (a + 1), .int 13, .ref (a + 1)]) hF tX12_keeps_ok 45 2 rfl rfl rfl rfl ?_
      obtain ⟨v35, e36, H⟩ := ob H
      refine g_ild hF (dAt tX12_keeps_ok 47 rfl rfl) hS.2.1 e36 ?_
      refine g_p (S' := [.int (v35 + 1), .int 13, .ref (a + 1)]) hF tX12_keeps_ok 48 2 rfl rfl rfl rfl ?_
      obtain ⟨s37, e38, H⟩ := ob H
      refine g_ist hF (dAt tX12_keeps_ok 50 rfl rfl) hS.2.1 e38 ?_
      refine g_p (S' := [.int x2, .int x1, .int x3, .ref a]) hF tX12_keeps_ok 51 4 rfl rfl rfl rfl ?_
      obtain ⟨s39, e40, H⟩ := ob H
      refine g_cV (S := []) hF (X12_writes_ok (Nat.le_refl _) hS e40 K) mbX12_writes mvX12_writes mlX12_272 (by omega) (by decide) (dAt tX12_keeps_ok 55 rfl rfl) hS.1 rfl rfl rfl (Nat.le_of_ble_eq_true rfl) rfl rfl (by decide) (by decide) rfl ?_
      refine g_m [true, false, true, false] rfl ?_
      exact X12_keeps_b94_ok hD hF hS hE H
def X12_keeps_b42 (a : Nat) (x1 x2 y0 : Int32) (σ : Sig) : Option (Sig) := (ld 20240 (σ (a + 1)) 14).bind fun v1 => if y0 = 2 then (X12_keeps_b61 a x1 x2 y0 1 v1 14 σ) else (X12_keeps_b61 a x1 x2 y0 0 v1 14 σ)
set_option maxRecDepth 4000 in
set_option maxHeartbeats 1000000 in
theorem X12_keeps_b42_ok {K : Kt} {X : Cx} {D : Nat} {τ : Tau} {nx : Nat} {a : Nat} {res : Sig}  (hD : 4 ≤ D) (hF : Fx K X cX12_keeps 4 RX12 D 0 0) (hS : ShX12 τ a) (hE : En K X none 0 0 none (τ, res, nx)) {x1 x2 y0 : Int32} {σ : Sig} (H : X12_keeps_b42 a x1 x2 y0 σ = some res) : G K X 4 0 0 42 [some (.ref a), some (.int x1), some (.int x2), none] [.int y0] (τ, σ, nx) := by
  refine g_p (L' := [some (.ref a), some (.int x1), some (.int x2), some (.int y0)]) (S' := [.ref a]) hF tX12_keeps_ok 22 2 rfl rfl rfl rfl ?_
  refine g_getR hF (dAt tX12_keeps_ok 24 rfl rfl) flX12_7 hS.1 rfl ?_
  refine g_p (S' := [.int 14, .ref (a + 1), .int 14, .ref (a + 1)]) hF tX12_keeps_ok 25 2 rfl rfl rfl rfl ?_
  obtain ⟨v1, e2, H⟩ := ob H
  refine g_ild hF (dAt tX12_keeps_ok 27 rfl rfl) hS.2.1 e2 ?_
  refine g_p (S' := [.int 2, .int y0, .int v1, .int 14, .ref (a + 1)]) hF tX12_keeps_ok 28 2 rfl rfl rfl rfl ?_
  obtain ⟨Ht3, Hf3⟩ := oi H
  refine g_icmp_ne hF (dAt tX12_keeps_ok 30 rfl rfl) rfl (fun c3 => ?_) (fun c3 => ?_)
  · have H := Hf3 c3
    refine g_p (S' := [.int 0, .int v1, .int 14, .ref (a + 1)]) hF tX12_keeps_ok 33 1 rfl rfl rfl rfl ?_
    exact X12_keeps_b61_ok hD hF hS hE H
  · have H := Ht3 c3
    refine g_p (S' := [.int 1, .int v1, .int 14, .ref (a + 1)]) hF tX12_keeps_ok 31 1 rfl rfl rfl rfl ?_
    refine g_goto hF (dAt tX12_keeps_ok 32 rfl rfl) rfl ?_
    exact X12_keeps_b61_ok hD hF hS hE H
def X12_keeps_b41 (a : Nat) (x1 x2 : Int32) (σ : Sig) : Option (Sig) := X12_keeps_b42 a x1 x2 0 σ
set_option maxRecDepth 4000 in
set_option maxHeartbeats 1000000 in
theorem X12_keeps_b41_ok {K : Kt} {X : Cx} {D : Nat} {τ : Tau} {nx : Nat} {a : Nat} {res : Sig}  (hD : 4 ≤ D) (hF : Fx K X cX12_keeps 4 RX12 D 0 0) (hS : ShX12 τ a) (hE : En K X none 0 0 none (τ, res, nx)) {x1 x2 : Int32} {σ : Sig} (H : X12_keeps_b41 a x1 x2 σ = some res) : G K X 4 0 0 41 [some (.ref a), some (.int x1), some (.int x2), none] [] (τ, σ, nx) := by
  refine g_p (S' := [.int 0]) hF tX12_keeps_ok 21 1 rfl rfl rfl rfl ?_
  exact X12_keeps_b42_ok hD hF hS hE H
def X12_keeps_f (a : Nat) (x1 x2 : Int32) (σ : Sig) : Option (Sig) := (X12_isBetrayed_f a x1 σ).bind fun v1 => if v1 = 0 then ((ld 20240 (σ (a + 1)) 5).bind fun v4 => if v4 ≤ 0 then (X12_keeps_b41 a x1 x2 σ) else ((X12_draw_f a 1000 σ).bind fun ⟨v7, s8⟩ => (ld 20240 (s8 (a + 1)) 5).bind fun v10 => if v10 ≤ v7 then (X12_keeps_b41 a x1 x2 s8) else (X12_keeps_b42 a x1 x2 2 s8))) else (X12_keeps_b42 a x1 x2 1 σ)
set_option maxRecDepth 4000 in
set_option maxHeartbeats 1000000 in
theorem X12_keeps_ok {D : Nat} {τ : Tau} {nx : Nat} {a : Nat} {x1 x2 : Int32} {σ : Sig} {res : Sig} (hD : 4 ≤ D) (hS : ShX12 τ a) (H : X12_keeps_f a x1 x2 σ = some res) : Ok D 0 0 yX12_keeps cX12_keeps 4 none [.ref a, .int x1, .int x2] (τ, σ, nx) none (τ, res, nx) := by
  refine ok_of (by decide +kernel) rfl (Nat.le_of_ble_eq_true rfl) (fun K X hF hE hN L0 hL0 => ?_)
  obtain rfl : [some (.ref a), some (.int x1), some (.int x2), none] = L0 := hL0
  have hF : Fx K X cX12_keeps 4 RX12 D 0 0 := hF
  refine g_p (S' := [.int x1, .ref a]) hF tX12_keeps_ok 0 2 rfl rfl rfl rfl ?_
  obtain ⟨v1, e2, H⟩ := ob H
  refine g_cV (S := []) hF (X12_isBetrayed_ok (Nat.le_refl _) hS e2 K) mbX12_isBetrayed mvX12_isBetrayed mlX12_269 (by omega) (by decide) (dAt tX12_keeps_ok 2 rfl rfl) hS.1 rfl rfl rfl (Nat.le_of_ble_eq_true rfl) rfl rfl (by decide) (by decide) rfl ?_
  obtain ⟨Ht3, Hf3⟩ := oi H
  refine g_if_eq hF (dAt tX12_keeps_ok 3 rfl rfl) rfl (fun c3 => ?_) (fun c3 => ?_)
  · have H := Ht3 c3
    refine g_p (S' := [.ref a]) hF tX12_keeps_ok 6 1 rfl rfl rfl rfl ?_
    refine g_getR hF (dAt tX12_keeps_ok 7 rfl rfl) flX12_7 hS.1 rfl ?_
    refine g_p (S' := [.int 5, .ref (a + 1)]) hF tX12_keeps_ok 8 1 rfl rfl rfl rfl ?_
    obtain ⟨v4, e5, H⟩ := ob H
    refine g_ild hF (dAt tX12_keeps_ok 9 rfl rfl) hS.2.1 e5 ?_
    obtain ⟨Ht6, Hf6⟩ := oi H
    refine g_if_le hF (dAt tX12_keeps_ok 10 rfl rfl) rfl (fun c6 => ?_) (fun c6 => ?_)
    · have H := Ht6 c6
      exact X12_keeps_b41_ok hD hF hS hE H
    · have H := Hf6 c6
      refine g_p (S' := [.int 1000, .ref a]) hF tX12_keeps_ok 11 2 rfl rfl rfl rfl ?_
      obtain ⟨⟨v7, s8⟩, e9, H⟩ := ob H
      refine g_cV (S := []) hF (X12_draw_ok (Nat.le_refl _) hS e9 K) mbX12_draw mvX12_draw mlX12_260 (by omega) (by decide) (dAt tX12_keeps_ok 13 rfl rfl) hS.1 rfl rfl rfl (Nat.le_of_ble_eq_true rfl) rfl rfl (by decide) (by decide) rfl ?_
      refine g_p (S' := [.ref a, .int v7]) hF tX12_keeps_ok 14 1 rfl rfl rfl rfl ?_
      refine g_getR hF (dAt tX12_keeps_ok 15 rfl rfl) flX12_7 hS.1 rfl ?_
      refine g_p (S' := [.int 5, .ref (a + 1), .int v7]) hF tX12_keeps_ok 16 1 rfl rfl rfl rfl ?_
      obtain ⟨v10, e11, H⟩ := ob H
      refine g_ild hF (dAt tX12_keeps_ok 17 rfl rfl) hS.2.1 e11 ?_
      obtain ⟨Ht12, Hf12⟩ := oi H
      refine g_icmp_ge hF (dAt tX12_keeps_ok 18 rfl rfl) rfl (fun c12 => ?_) (fun c12 => ?_)
      · have H := Ht12 c12
        exact X12_keeps_b41_ok hD hF hS hE H
      · have H := Hf12 c12
        refine g_p (S' := [.int 2]) hF tX12_keeps_ok 19 1 rfl rfl rfl rfl ?_
        refine g_goto hF (dAt tX12_keeps_ok 20 rfl rfl) rfl ?_
        exact X12_keeps_b42_ok hD hF hS hE H
  · have H := Hf3 c3
    refine g_p (S' := [.int 1]) hF tX12_keeps_ok 4 1 rfl rfl rfl rfl ?_
    refine g_goto hF (dAt tX12_keeps_ok 5 rfl rfl) rfl ?_
    exact X12_keeps_b42_ok hD hF hS hE H
def X12_aQuarter_b132 (a : Nat) (σ : Sig) : Option (Sig) := (ld 20240 (σ (a + 1)) 2).bind fun v1 => (st 20240 σ (a + 1) 2 (v1 + 1)).bind fun s3 => (ld 20240 (s3 (a + 1)) 2).bind fun v5 => if 96 ≤ v5 then ((st 20240 s3 (a + 1) 2 0).bind fun s8 => (ld 20240 (s8 (a + 1)) 1).bind fun v10 => (st 20240 s8 (a + 1) 1 (v10 + 1)).bind fun s12 => some s12) else (some s3)
set_option maxRecDepth 4000 in
set_option maxHeartbeats 1000000 in
theorem X12_aQuarter_b132_ok {K : Kt} {X : Cx} {D : Nat} {τ : Tau} {nx : Nat} {a : Nat} {res : Sig}  (hD : 7 ≤ D) (hF : Fx K X cX12_aQuarter 3 RX12 D 0 0) (hS : ShX12 τ a) (hE : En K X none 0 0 none (τ, res, nx)) {σ : Sig} (H : X12_aQuarter_b132 a σ = some res) : G K X 3 0 0 132 [some (.ref a), none, none] [] (τ, σ, nx) := by
  refine g_p (S' := [.ref a]) hF tX12_aQuarter_ok 79 1 rfl rfl rfl rfl ?_
  refine g_getR hF (dAt tX12_aQuarter_ok 80 rfl rfl) flX12_7 hS.1 rfl ?_
  refine g_p (S' := [.int 2, .ref (a + 1), .int 2, .ref (a + 1)]) hF tX12_aQuarter_ok 81 2 rfl rfl rfl rfl ?_
  obtain ⟨v1, e2, H⟩ := ob H
  refine g_ild hF (dAt tX12_aQuarter_ok 83 rfl rfl) hS.2.1 e2 ?_
  refine g_p (S' := [.int (v1 + 1), .int 2, .ref (a + 1)]) hF tX12_aQuarter_ok 84 2 rfl rfl rfl rfl ?_
  obtain ⟨s3, e4, H⟩ := ob H
  refine g_ist hF (dAt tX12_aQuarter_ok 86 rfl rfl) hS.2.1 e4 ?_
  refine g_p (S' := [.ref a]) hF tX12_aQuarter_ok 87 1 rfl rfl rfl rfl ?_
  refine g_getR hF (dAt tX12_aQuarter_ok 88 rfl rfl) flX12_7 hS.1 rfl ?_
  refine g_p (S' := [.int 2, .ref (a + 1)]) hF tX12_aQuarter_ok 89 1 rfl rfl rfl rfl ?_
  obtain ⟨v5, e6, H⟩ := ob H
  refine g_ild hF (dAt tX12_aQuarter_ok 90 rfl rfl) hS.2.1 e6 ?_
  refine g_p (S' := [.int 96, .int v5]) hF tX12_aQuarter_ok 91 1 rfl rfl rfl rfl ?_
  obtain ⟨Ht7, Hf7⟩ := oi H
  refine g_icmp_ge hF (dAt tX12_aQuarter_ok 92 rfl rfl) rfl (fun c7 => ?_) (fun c7 => ?_)
  · have H := Ht7 c7
    refine g_p (S' := [.ref a]) hF tX12_aQuarter_ok 94 1 rfl rfl rfl rfl ?_
    refine g_getR hF (dAt tX12_aQuarter_ok 95 rfl rfl) flX12_7 hS.1 rfl ?_
    refine g_p (S' := [.int 0, .int 2, .ref (a + 1)]) hF tX12_aQuarter_ok 96 2 rfl rfl rfl rfl ?_
    obtain ⟨s8, e9, H⟩ := ob H
    refine g_ist hF (dAt tX12_aQuarter_ok 98 rfl rfl) hS.2.1 e9 ?_
    refine g_p (S' := [.ref a]) hF tX12_aQuarter_ok 99 1 rfl rfl rfl rfl ?_
    refine g_getR hF (dAt tX12_aQuarter_ok 100 rfl rfl) flX12_7 hS.1 rfl ?_
    refine g_p (S' := [.int 1, .ref (a + 1), .int 1, .ref (a + 1)]) hF tX12_aQuarter_ok 101 2 rfl rfl rfl rfl ?_
    obtain ⟨v10, e11, H⟩ := ob H
    refine g_ild hF (dAt tX12_aQuarter_ok 103 rfl rfl) hS.2.1 e11 ?_
    refine g_p (S' := [.int (v10 + 1), .int 1, .ref (a + 1)]) hF tX12_aQuarter_ok 104 2 rfl rfl rfl rfl ?_
    obtain ⟨s12, e13, H⟩ := ob H
    refine g_ist hF (dAt tX12_aQuarter_ok 106 rfl rfl) hS.2.1 e13 ?_
    exact g_vret hF (en_v H hE) (dAt tX12_aQuarter_ok 107 rfl rfl) (by decide) (by decide)
  · have H := Hf7 c7
    exact g_vret hF (en_v H hE) (dAt tX12_aQuarter_ok 93 rfl rfl) (by decide) (by decide)
def X12_aQuarter_b98 (a : Nat) : Nat → Int32 → Sig → Option (Sig)
  | 0, _, _ => none
  | fu + 1, x1, σ => (ld 20240 (σ (a + 1)) 9).bind fun v1 => if v1 ≤ x1 then (X12_aQuarter_b132 a σ) else ((X12_keptFor_f a x1 σ).bind fun v4 => if v4 = (-1) then (X12_aQuarter_b98 a fu (x1 + 1) σ) else ((X12_keeps_f a x1 v4 σ).bind fun s7 => X12_aQuarter_b98 a fu (x1 + 1) s7))
set_option maxRecDepth 4000 in
set_option maxHeartbeats 1000000 in
theorem X12_aQuarter_b98_ok {K : Kt} {X : Cx} {D : Nat} {τ : Tau} {nx : Nat} {a : Nat} {res : Sig}  (hD : 7 ≤ D) (hF : Fx K X cX12_aQuarter 3 RX12 D 0 0) (hS : ShX12 τ a) (hE : En K X none 0 0 none (τ, res, nx)) : ∀ (fu : Nat) (x1 : Int32) (σ : Sig), X12_aQuarter_b98 a fu x1 σ = some res → G K X 3 0 0 98 [some (.ref a), some (.int x1), none] [] (τ, σ, nx)
  | 0, _, _, H => nomatch H
  | fu + 1, x1, σ, H => by
    refine g_p (S' := [.ref a, .int x1]) hF tX12_aQuarter_ok 60 2 rfl rfl rfl rfl ?_
    refine g_getR hF (dAt tX12_aQuarter_ok 62 rfl rfl) flX12_7 hS.1 rfl ?_
    refine g_p (S' := [.int 9, .ref (a + 1), .int x1]) hF tX12_aQuarter_ok 63 1 rfl rfl rfl rfl ?_
    obtain ⟨v1, e2, H⟩ := ob H
    refine g_ild hF (dAt tX12_aQuarter_ok 64 rfl rfl) hS.2.1 e2 ?_
    obtain ⟨Ht3, Hf3⟩ := oi H
    refine g_icmp_ge hF (dAt tX12_aQuarter_ok 65 rfl rfl) rfl (fun c3 => ?_) (fun c3 => ?_)
    · have H := Ht3 c3
      refine g_m [true, false, false] rfl ?_
      exact X12_aQuarter_b132_ok hD hF hS hE H
    · have H := Hf3 c3
      refine g_p (S' := [.int x1, .ref a]) hF tX12_aQuarter_ok 66 2 rfl rfl rfl rfl ?_
      obtain ⟨v4, e5, H⟩ := ob H
      refine g_cV (S := []) hF (X12_keptFor_ok (Nat.le_refl _) hS e5 K) mbX12_keptFor mvX12_keptFor mlX12_278 (by omega) (by decide) (dAt tX12_aQuarter_ok 68 rfl rfl) hS.1 rfl rfl rfl (Nat.le_of_ble_eq_true rfl) rfl rfl (by decide) (by decide) rfl ?_
      refine g_p (L' := [some (.ref a), some (.int x1), some (.int v4)]) (S' := [.int (-1), .int v4]) hF tX12_aQuarter_ok 69 3 rfl rfl rfl rfl ?_
      obtain ⟨Ht6, Hf6⟩ := oi H
      refine g_icmp_eq hF (dAt tX12_aQuarter_ok 72 rfl rfl) rfl (fun c6 => ?_) (fun c6 => ?_)
      · have H := Ht6 c6
        refine g_p (L' := [some (.ref a), some (.int (x1 + 1)), some (.int v4)]) (S' := []) hF tX12_aQuarter_ok 77 1 rfl rfl rfl rfl ?_
        refine g_goto hF (dAt tX12_aQuarter_ok 78 rfl rfl) rfl ?_
        refine g_m [true, true, false] rfl ?_
        exact X12_aQuarter_b98_ok hD hF hS hE fu _ _ H
      · have H := Hf6 c6
        refine g_p (S' := [.int v4, .int x1, .ref a]) hF tX12_aQuarter_ok 73 3 rfl rfl rfl rfl ?_
        obtain ⟨s7, e8, H⟩ := ob H
        refine g_cV (S := []) hF (X12_keeps_ok (Nat.le_refl _) hS e8 K) mbX12_keeps mvX12_keeps mlX12_281 (by omega) (by decide) (dAt tX12_aQuarter_ok 76 rfl rfl) hS.1 rfl rfl rfl (Nat.le_of_ble_eq_true rfl) rfl rfl (by decide) (by decide) rfl ?_
        refine g_p (L' := [some (.ref a), some (.int (x1 + 1)), some (.int v4)]) (S' := []) hF tX12_aQuarter_ok 77 1 rfl rfl rfl rfl ?_
        refine g_goto hF (dAt tX12_aQuarter_ok 78 rfl rfl) rfl ?_
        refine g_m [true, true, false] rfl ?_
        exact X12_aQuarter_b98_ok hD hF hS hE fu _ _ H
def X12_aQuarter_b2 (a : Nat) : Nat → Int32 → Sig → Option (Sig)
  | 0, _, _ => none
  | fu + 1, x1, σ => (ld 20240 (σ (a + 1)) 9).bind fun v1 => if v1 ≤ x1 then ((ld 20240 (σ (a + 1)) 3).bind fun v4 => if v4 = (-1) then (X12_aQuarter_b132 a σ) else ((ld 20240 (σ (a + 1)) 1).bind fun v7 => (X12_isFeast_f a v7 σ).bind fun v9 => if v9 = 0 then ((ld 20240 (σ (a + 1)) 3).bind fun v12 => (ld 20240 (σ (a + 1)) ((190 + (3 * v12)) + 2)).bind fun v14 => if v14 = 1 then ((ld 20240 (σ (a + 1)) 15).bind fun v17 => (st 20240 σ (a + 1) 15 (v17 + 1)).bind fun s19 => (ld 20240 (s19 (a + 1)) 3).bind fun v21 => (X12_writes_f a 3 v21 (-1) s19).bind fun s23 => X12_aQuarter_b132 a s23) else (X12_aQuarter_b98 a FU 0 σ)) else (X12_aQuarter_b132 a σ))) else ((X12_makesNoise_f a x1 σ).bind fun s25 => X12_aQuarter_b2 a fu (x1 + 1) s25)
set_option maxRecDepth 4000 in
set_option maxHeartbeats 1000000 in
theorem X12_aQuarter_b2_ok {K : Kt} {X : Cx} {D : Nat} {τ : Tau} {nx : Nat} {a : Nat} {res : Sig}  (hD : 7 ≤ D) (hF : Fx K X cX12_aQuarter 3 RX12 D 0 0) (hS : ShX12 τ a) (hE : En K X none 0 0 none (τ, res, nx)) : ∀ (fu : Nat) (x1 : Int32) (σ : Sig), X12_aQuarter_b2 a fu x1 σ = some res → G K X 3 0 0 2 [some (.ref a), some (.int x1), none] [] (τ, σ, nx)
  | 0, _, _, H => nomatch H
  | fu + 1, x1, σ, H => by
    refine g_p (S' := [.ref a, .int x1]) hF tX12_aQuarter_ok 2 2 rfl rfl rfl rfl ?_
    refine g_getR hF (dAt tX12_aQuarter_ok 4 rfl rfl) flX12_7 hS.1 rfl ?_
    refine g_p (S' := [.int 9, .ref (a + 1), .int x1]) hF tX12_aQuarter_ok 5 1 rfl rfl rfl rfl ?_
    obtain ⟨v1, e2, H⟩ := ob H
    refine g_ild hF (dAt tX12_aQuarter_ok 6 rfl rfl) hS.2.1 e2 ?_
    obtain ⟨Ht3, Hf3⟩ := oi H
    refine g_icmp_ge hF (dAt tX12_aQuarter_ok 7 rfl rfl) rfl (fun c3 => ?_) (fun c3 => ?_)
    · have H := Ht3 c3
      refine g_p (S' := [.ref a]) hF tX12_aQuarter_ok 13 1 rfl rfl rfl rfl ?_
      refine g_getR hF (dAt tX12_aQuarter_ok 14 rfl rfl) flX12_7 hS.1 rfl ?_
      refine g_p (S' := [.int 3, .ref (a + 1)]) hF tX12_aQuarter_ok 15 1 rfl rfl rfl rfl ?_
      obtain ⟨v4, e5, H⟩ := ob H
      refine g_ild hF (dAt tX12_aQuarter_ok 16 rfl rfl) hS.2.1 e5 ?_
      refine g_p (S' := [.int (-1), .int v4]) hF tX12_aQuarter_ok 17 1 rfl rfl rfl rfl ?_
      obtain ⟨Ht6, Hf6⟩ := oi H
      refine g_icmp_eq hF (dAt tX12_aQuarter_ok 18 rfl rfl) rfl (fun c6 => ?_) (fun c6 => ?_)
      · have H := Ht6 c6
        refine g_m [true, false, false] rfl ?_
        exact X12_aQuarter_b132_ok hD hF hS hE H
      · have H := Hf6 c6
        refine g_p (S' := [.ref a, .ref a]) hF tX12_aQuarter_ok 19 2 rfl rfl rfl rfl ?_
        refine g_getR hF (dAt tX12_aQuarter_ok 21 rfl rfl) flX12_7 hS.1 rfl ?_
        refine g_p (S' := [.int 1, .ref (a + 1), .ref a]) hF tX12_aQuarter_ok 22 1 rfl rfl rfl rfl ?_
        obtain ⟨v7, e8, H⟩ := ob H
        refine g_ild hF (dAt tX12_aQuarter_ok 23 rfl rfl) hS.2.1 e8 ?_
        obtain ⟨v9, e10, H⟩ := ob H
        refine g_cV (S := []) hF (X12_isFeast_ok (Nat.le_refl _) hS e10 K) mbX12_isFeast mvX12_isFeast mlX12_251 (by omega) (by decide) (dAt tX12_aQuarter_ok 24 rfl rfl) hS.1 rfl rfl rfl (Nat.le_of_ble_eq_true rfl) rfl rfl (by decide) (by decide) rfl ?_
        obtain ⟨Ht11, Hf11⟩ := oi H
        refine g_if_ne hF (dAt tX12_aQuarter_ok 25 rfl rfl) rfl (fun c11 => ?_) (fun c11 => ?_)
        · have H := Hf11 c11
          refine g_m [true, false, false] rfl ?_
          exact X12_aQuarter_b132_ok hD hF hS hE H
        · have H := Ht11 c11
          refine g_p (S' := [.ref a]) hF tX12_aQuarter_ok 26 1 rfl rfl rfl rfl ?_
          refine g_getR hF (dAt tX12_aQuarter_ok 27 rfl rfl) flX12_7 hS.1 rfl ?_
          refine g_p (S' := [.ref a, .int 3, .int 190, .ref (a + 1)]) hF tX12_aQuarter_ok 28 3 rfl rfl rfl rfl ?_
          refine g_getR hF (dAt tX12_aQuarter_ok 31 rfl rfl) flX12_7 hS.1 rfl ?_
          refine g_p (S' := [.int 3, .ref (a + 1), .int 3, .int 190, .ref (a + 1)]) hF tX12_aQuarter_ok 32 1 rfl rfl rfl rfl ?_
          obtain ⟨v12, e13, H⟩ := ob H
          refine g_ild hF (dAt tX12_aQuarter_ok 33 rfl rfl) hS.2.1 e13 ?_
          refine g_p (S' := [.int ((190 + (3 * v12)) + 2), .ref (a + 1)]) hF tX12_aQuarter_ok 34 4 rfl rfl rfl rfl ?_
          obtain ⟨v14, e15, H⟩ := ob H
          refine g_ild hF (dAt tX12_aQuarter_ok 38 rfl rfl) hS.2.1 e15 ?_
          refine g_p (S' := [.int 1, .int v14]) hF tX12_aQuarter_ok 39 1 rfl rfl rfl rfl ?_
          obtain ⟨Ht16, Hf16⟩ := oi H
          refine g_icmp_ne hF (dAt tX12_aQuarter_ok 40 rfl rfl) rfl (fun c16 => ?_) (fun c16 => ?_)
          · have H := Hf16 c16
            refine g_p (L' := [some (.ref a), some (.int 0), none]) (S' := []) hF tX12_aQuarter_ok 58 2 rfl rfl rfl rfl ?_
            exact X12_aQuarter_b98_ok hD hF hS hE FU _ _ H
          · have H := Ht16 c16
            refine g_p (S' := [.ref a]) hF tX12_aQuarter_ok 41 1 rfl rfl rfl rfl ?_
            refine g_getR hF (dAt tX12_aQuarter_ok 42 rfl rfl) flX12_7 hS.1 rfl ?_
            refine g_p (S' := [.int 15, .ref (a + 1), .int 15, .ref (a + 1)]) hF tX12_aQuarter_ok 43 2 rfl rfl rfl rfl ?_
            obtain ⟨v17, e18, H⟩ := ob H
            refine g_ild hF (dAt tX12_aQuarter_ok 45 rfl rfl) hS.2.1 e18 ?_
            refine g_p (S' := [.int (v17 + 1), .int 15, .ref (a + 1)]) hF tX12_aQuarter_ok 46 2 rfl rfl rfl rfl ?_
            obtain ⟨s19, e20, H⟩ := ob H
            refine g_ist hF (dAt tX12_aQuarter_ok 48 rfl rfl) hS.2.1 e20 ?_
            refine g_p (S' := [.ref a, .int 3, .ref a]) hF tX12_aQuarter_ok 49 3 rfl rfl rfl rfl ?_
            refine g_getR hF (dAt tX12_aQuarter_ok 52 rfl rfl) flX12_7 hS.1 rfl ?_
            refine g_p (S' := [.int 3, .ref (a + 1), .int 3, .ref a]) hF tX12_aQuarter_ok 53 1 rfl rfl rfl rfl ?_
            obtain ⟨v21, e22, H⟩ := ob H
            refine g_ild hF (dAt tX12_aQuarter_ok 54 rfl rfl) hS.2.1 e22 ?_
            refine g_p (S' := [.int (-1), .int v21, .int 3, .ref a]) hF tX12_aQuarter_ok 55 1 rfl rfl rfl rfl ?_
            obtain ⟨s23, e24, H⟩ := ob H
            refine g_cV (S := []) hF (X12_writes_ok (Nat.le_refl _) hS e24 K) mbX12_writes mvX12_writes mlX12_272 (by omega) (by decide) (dAt tX12_aQuarter_ok 56 rfl rfl) hS.1 rfl rfl rfl (Nat.le_of_ble_eq_true rfl) rfl rfl (by decide) (by decide) rfl ?_
            refine g_goto hF (dAt tX12_aQuarter_ok 57 rfl rfl) rfl ?_
            refine g_m [true, false, false] rfl ?_
            exact X12_aQuarter_b132_ok hD hF hS hE H
    · have H := Hf3 c3
      refine g_p (S' := [.int x1, .ref a]) hF tX12_aQuarter_ok 8 2 rfl rfl rfl rfl ?_
      obtain ⟨s25, e26, H⟩ := ob H
      refine g_cV (S := []) hF (X12_makesNoise_ok (Nat.le_refl _) hS e26 K) mbX12_makesNoise mvX12_makesNoise mlX12_275 (by omega) (by decide) (dAt tX12_aQuarter_ok 10 rfl rfl) hS.1 rfl rfl rfl (Nat.le_of_ble_eq_true rfl) rfl rfl (by decide) (by decide) rfl ?_
      refine g_p (L' := [some (.ref a), some (.int (x1 + 1)), none]) (S' := []) hF tX12_aQuarter_ok 11 1 rfl rfl rfl rfl ?_
      refine g_goto hF (dAt tX12_aQuarter_ok 12 rfl rfl) rfl ?_
      exact X12_aQuarter_b2_ok hD hF hS hE fu _ _ H
def X12_aQuarter_f (a : Nat) (σ : Sig) : Option (Sig) := X12_aQuarter_b2 a FU 0 σ
set_option maxRecDepth 4000 in
set_option maxHeartbeats 1000000 in
theorem X12_aQuarter_ok {D : Nat} {τ : Tau} {nx : Nat} {a : Nat} {σ : Sig} {res : Sig} (hD : 7 ≤ D) (hS : ShX12 τ a) (H : X12_aQuarter_f a σ = some res) : Ok D 0 0 yX12_aQuarter cX12_aQuarter 3 none [.ref a] (τ, σ, nx) none (τ, res, nx) := by
  refine ok_of (by decide +kernel) rfl (Nat.le_of_ble_eq_true rfl) (fun K X hF hE hN L0 hL0 => ?_)
  obtain rfl : [some (.ref a), none, none] = L0 := hL0
  have hF : Fx K X cX12_aQuarter 3 RX12 D 0 0 := hF
  refine g_p (L' := [some (.ref a), some (.int 0), none]) (S' := []) hF tX12_aQuarter_ok 0 2 rfl rfl rfl rfl ?_
  exact X12_aQuarter_b2_ok hD hF hS hE FU _ _ H
def X12_quarters_b47 (a : Nat) : Nat → Int32 → Int32 → Int32 → Sig → Option (Int32 × Sig)
  | 0, _, _, _, _ => none
  | fu + 1, x1, x2, x3, σ => if x1 ≤ x3 then ((ld 20240 (σ (a + 1)) 12).bind fun v2 => some ((v2 - x2), σ)) else ((X12_aQuarter_f a σ).bind fun s4 => X12_quarters_b47 a fu x1 x2 (x3 + 1) s4)
set_option maxRecDepth 4000 in
set_option maxHeartbeats 1000000 in
theorem X12_quarters_b47_ok {K : Kt} {X : Cx} {D : Nat} {τ : Tau} {nx : Nat} {a : Nat} {res : Int32} {rsg : Sig}  (hD : 8 ≤ D) (hF : Fx K X cX12_quarters 4 RX12 D 0 0) (hS : ShX12 τ a) (hE : En K X (some .int) 0 0 (some (.int res)) (τ, rsg, nx)) : ∀ (fu : Nat) (x1 x2 x3 : Int32) (σ : Sig), X12_quarters_b47 a fu x1 x2 x3 σ = some (res, rsg) → G K X 4 0 0 47 [some (.ref a), some (.int x1), some (.int x2), some (.int x3)] [] (τ, σ, nx)
  | 0, _, _, _, _, H => nomatch H
  | fu + 1, x1, x2, x3, σ, H => by
    refine g_p (S' := [.int x1, .int x3]) hF tX12_quarters_ok 29 2 rfl rfl rfl rfl ?_
    obtain ⟨Ht1, Hf1⟩ := oi H
    refine g_icmp_ge hF (dAt tX12_quarters_ok 31 rfl rfl) rfl (fun c1 => ?_) (fun c1 => ?_)
    · have H := Ht1 c1
      refine g_p (S' := [.ref a]) hF tX12_quarters_ok 36 1 rfl rfl rfl rfl ?_
      refine g_getR hF (dAt tX12_quarters_ok 37 rfl rfl) flX12_7 hS.1 rfl ?_
      refine g_p (S' := [.int 12, .ref (a + 1)]) hF tX12_quarters_ok 38 1 rfl rfl rfl rfl ?_
      obtain ⟨v2, e3, H⟩ := ob H
      refine g_ild hF (dAt tX12_quarters_ok 39 rfl rfl) hS.2.1 e3 ?_
      refine g_p (S' := [.int (v2 - x2)]) hF tX12_quarters_ok 40 2 rfl rfl rfl rfl ?_
      exact g_iret hF (en_p H hE) (dAt tX12_quarters_ok 42 rfl rfl) (by decide) (by decide)
    · have H := Hf1 c1
      refine g_p (S' := [.ref a]) hF tX12_quarters_ok 32 1 rfl rfl rfl rfl ?_
      obtain ⟨s4, e5, H⟩ := ob H
      refine g_cV (S := []) hF (X12_aQuarter_ok (Nat.le_refl _) hS e5 K) mbX12_aQuarter mvX12_aQuarter mlX12_284 (by omega) (by decide) (dAt tX12_quarters_ok 33 rfl rfl) hS.1 rfl rfl rfl (Nat.le_of_ble_eq_true rfl) rfl rfl (by decide) (by decide) rfl ?_
      refine g_p (L' := [some (.ref a), some (.int x1), some (.int x2), some (.int (x3 + 1))]) (S' := []) hF tX12_quarters_ok 34 1 rfl rfl rfl rfl ?_
      refine g_goto hF (dAt tX12_quarters_ok 35 rfl rfl) rfl ?_
      exact X12_quarters_b47_ok hD hF hS hE fu _ _ _ _ H
def X12_quarters_f (a : Nat) (x1 : Int32) (σ : Sig) : Option (Int32 × Sig) := (X12_isIn_f x1 1 960 σ).bind fun v1 => if v1 = 0 then (some ((-1), σ)) else ((ld 20240 (σ (a + 1)) 1).bind fun v4 => (ld 20240 (σ (a + 1)) 2).bind fun v6 => if (v4 + ((v6 + x1) / 96)) ≤ 9999 then ((ld 20240 (σ (a + 1)) 12).bind fun v9 => X12_quarters_b47 a FU x1 v9 0 σ) else (some ((-1), σ)))
set_option maxRecDepth 4000 in
set_option maxHeartbeats 1000000 in
theorem X12_quarters_ok {D : Nat} {τ : Tau} {nx : Nat} {a : Nat} {x1 : Int32} {σ : Sig} {res : Int32} {rsg : Sig} (hD : 8 ≤ D) (hS : ShX12 τ a) (H : X12_quarters_f a x1 σ = some (res, rsg)) : Ok D 0 0 yX12_quarters cX12_quarters 4 (some .int) [.ref a, .int x1] (τ, σ, nx) (some (.int res)) (τ, rsg, nx) := by
  refine ok_of (by decide +kernel) rfl (Nat.le_of_ble_eq_true rfl) (fun K X hF hE hN L0 hL0 => ?_)
  obtain rfl : [some (.ref a), some (.int x1), none, none] = L0 := hL0
  have hF : Fx K X cX12_quarters 4 RX12 D 0 0 := hF
  refine g_p (S' := [.int 960, .int 1, .int x1]) hF tX12_quarters_ok 0 3 rfl rfl rfl rfl ?_
  obtain ⟨v1, e2, H⟩ := ob H
  refine g_cS (S := []) hF (X12_isIn_ok (Nat.le_refl _)  e2 K) mbX12_isIn msX12_isIn mlX12_50 (by omega) (by decide) (dAt tX12_quarters_ok 3 rfl rfl) rfl rfl (Nat.le_of_ble_eq_true rfl) rfl rfl (by decide) (by decide) rfl ?_
  obtain ⟨Ht3, Hf3⟩ := oi H
  refine g_if_eq hF (dAt tX12_quarters_ok 4 rfl rfl) rfl (fun c3 => ?_) (fun c3 => ?_)
  · have H := Ht3 c3
    refine g_p (S' := [.int (-1)]) hF tX12_quarters_ok 20 1 rfl rfl rfl rfl ?_
    exact g_iret hF (en_p H hE) (dAt tX12_quarters_ok 21 rfl rfl) (by decide) (by decide)
  · have H := Hf3 c3
    refine g_p (S' := [.ref a]) hF tX12_quarters_ok 5 1 rfl rfl rfl rfl ?_
    refine g_getR hF (dAt tX12_quarters_ok 6 rfl rfl) flX12_7 hS.1 rfl ?_
    refine g_p (S' := [.int 1, .ref (a + 1)]) hF tX12_quarters_ok 7 1 rfl rfl rfl rfl ?_
    obtain ⟨v4, e5, H⟩ := ob H
    refine g_ild hF (dAt tX12_quarters_ok 8 rfl rfl) hS.2.1 e5 ?_
    refine g_p (S' := [.ref a, .int v4]) hF tX12_quarters_ok 9 1 rfl rfl rfl rfl ?_
    refine g_getR hF (dAt tX12_quarters_ok 10 rfl rfl) flX12_7 hS.1 rfl ?_
    refine g_p (S' := [.int 2, .ref (a + 1), .int v4]) hF tX12_quarters_ok 11 1 rfl rfl rfl rfl ?_
    obtain ⟨v6, e7, H⟩ := ob H
    refine g_ild hF (dAt tX12_quarters_ok 12 rfl rfl) hS.2.1 e7 ?_
    refine g_p (S' := [.int 96, .int (v6 + x1), .int v4]) hF tX12_quarters_ok 13 3 rfl rfl rfl rfl ?_
    refine g_idiv hF (dAt tX12_quarters_ok 16 rfl rfl) (by decide) ?_
    refine g_p (S' := [.int 9999, .int (v4 + ((v6 + x1) / 96))]) hF tX12_quarters_ok 17 2 rfl rfl rfl rfl ?_
    obtain ⟨Ht8, Hf8⟩ := oi H
    refine g_icmp_le hF (dAt tX12_quarters_ok 19 rfl rfl) rfl (fun c8 => ?_) (fun c8 => ?_)
    · have H := Ht8 c8
      refine g_p (S' := [.ref a]) hF tX12_quarters_ok 22 1 rfl rfl rfl rfl ?_
      refine g_getR hF (dAt tX12_quarters_ok 23 rfl rfl) flX12_7 hS.1 rfl ?_
      refine g_p (S' := [.int 12, .ref (a + 1)]) hF tX12_quarters_ok 24 1 rfl rfl rfl rfl ?_
      obtain ⟨v9, e10, H⟩ := ob H
      refine g_ild hF (dAt tX12_quarters_ok 25 rfl rfl) hS.2.1 e10 ?_
      refine g_p (L' := [some (.ref a), some (.int x1), some (.int v9), some (.int 0)]) (S' := []) hF tX12_quarters_ok 26 3 rfl rfl rfl rfl ?_
      exact X12_quarters_b47_ok hD hF hS hE FU _ _ _ _ H
    · have H := Hf8 c8
      refine g_p (S' := [.int (-1)]) hF tX12_quarters_ok 20 1 rfl rfl rfl rfl ?_
      exact g_iret hF (en_p H hE) (dAt tX12_quarters_ok 21 rfl rfl) (by decide) (by decide)
def X12_pays_f (a : Nat) (x1 x2 x3 : Int32) (σ : Sig) : Option (Sig) := if x1 = (-1) then (some σ) else (if x2 = (-1) then (some σ) else ((X12_own_f a x1 5 σ).bind fun v3 => (X12_gives_f a x1 5 (v3 - x3) σ).bind fun s5 => (X12_own_f a x2 5 s5).bind fun v7 => (X12_gives_f a x2 5 (v7 + x3) s5).bind fun s9 => some s9))
set_option maxRecDepth 4000 in
set_option maxHeartbeats 1000000 in
theorem X12_pays_ok {D : Nat} {τ : Tau} {nx : Nat} {a : Nat} {x1 x2 x3 : Int32} {σ : Sig} {res : Sig} (hD : 2 ≤ D) (hS : ShX12 τ a) (H : X12_pays_f a x1 x2 x3 σ = some res) : Ok D 0 0 yX12_pays cX12_pays 4 none [.ref a, .int x1, .int x2, .int x3] (τ, σ, nx) none (τ, res, nx) := by
  refine ok_of (by decide +kernel) rfl (Nat.le_of_ble_eq_true rfl) (fun K X hF hE hN L0 hL0 => ?_)
  obtain rfl : [some (.ref a), some (.int x1), some (.int x2), some (.int x3)] = L0 := hL0
  have hF : Fx K X cX12_pays 4 RX12 D 0 0 := hF
  refine g_p (S' := [.int (-1), .int x1]) hF tX12_pays_ok 0 2 rfl rfl rfl rfl ?_
  obtain ⟨Ht1, Hf1⟩ := oi H
  refine g_icmp_eq hF (dAt tX12_pays_ok 2 rfl rfl) rfl (fun c1 => ?_) (fun c1 => ?_)
  · have H := Ht1 c1
    exact g_vret hF (en_v H hE) (dAt tX12_pays_ok 6 rfl rfl) (by decide) (by decide)
  · have H := Hf1 c1
    refine g_p (S' := [.int (-1), .int x2]) hF tX12_pays_ok 3 2 rfl rfl rfl rfl ?_
    obtain ⟨Ht2, Hf2⟩ := oi H
    refine g_icmp_ne hF (dAt tX12_pays_ok 5 rfl rfl) rfl (fun c2 => ?_) (fun c2 => ?_)
    · have H := Hf2 c2
      refine g_p (S' := [.int 5, .int x1, .ref a, .int 5, .int x1, .ref a]) hF tX12_pays_ok 7 6 rfl rfl rfl rfl ?_
      obtain ⟨v3, e4, H⟩ := ob H
      refine g_cV (S := [.int 5, .int x1, .ref a]) hF (X12_own_ok (Nat.le_refl _) hS e4 K) mbX12_own mvX12_own mlX12_65 (by omega) (by decide) (dAt tX12_pays_ok 13 rfl rfl) hS.1 rfl rfl rfl (Nat.le_of_ble_eq_true rfl) rfl rfl (by decide) (by decide) rfl ?_
      refine g_p (S' := [.int (v3 - x3), .int 5, .int x1, .ref a]) hF tX12_pays_ok 14 2 rfl rfl rfl rfl ?_
      obtain ⟨s5, e6, H⟩ := ob H
      refine g_cV (S := []) hF (X12_gives_ok (Nat.le_refl _) hS e6 K) mbX12_gives mvX12_gives mlX12_58 (by omega) (by decide) (dAt tX12_pays_ok 16 rfl rfl) hS.1 rfl rfl rfl (Nat.le_of_ble_eq_true rfl) rfl rfl (by decide) (by decide) rfl ?_
      refine g_p (S' := [.int 5, .int x2, .ref a, .int 5, .int x2, .ref a]) hF tX12_pays_ok 17 6 rfl rfl rfl rfl ?_
      obtain ⟨v7, e8, H⟩ := ob H
      refine g_cV (S := [.int 5, .int x2, .ref a]) hF (X12_own_ok (Nat.le_refl _) hS e8 K) mbX12_own mvX12_own mlX12_65 (by omega) (by decide) (dAt tX12_pays_ok 23 rfl rfl) hS.1 rfl rfl rfl (Nat.le_of_ble_eq_true rfl) rfl rfl (by decide) (by decide) rfl ?_
      refine g_p (S' := [.int (v7 + x3), .int 5, .int x2, .ref a]) hF tX12_pays_ok 24 2 rfl rfl rfl rfl ?_
      obtain ⟨s9, e10, H⟩ := ob H
      refine g_cV (S := []) hF (X12_gives_ok (Nat.le_refl _) hS e10 K) mbX12_gives mvX12_gives mlX12_58 (by omega) (by decide) (dAt tX12_pays_ok 26 rfl rfl) hS.1 rfl rfl rfl (Nat.le_of_ble_eq_true rfl) rfl rfl (by decide) (by decide) rfl ?_
      exact g_vret hF (en_v H hE) (dAt tX12_pays_ok 27 rfl rfl) (by decide) (by decide)
    · have H := Ht2 c2
      exact g_vret hF (en_v H hE) (dAt tX12_pays_ok 6 rfl rfl) (by decide) (by decide)
def X12_isOf_b19 (a : Nat) (x1 y0 y1 : Int32) (σ : Sig) : Option (Sig) := (ld 20240 (σ (a + 1)) (y1 + y0)).bind fun v1 => (st 20240 σ (a + 1) (y1 + y0) (v1 ||| (1 <<< ((x1 - x1 / 20 * 20) &&& 31)))).bind fun s3 => some s3
set_option maxRecDepth 4000 in
set_option maxHeartbeats 1000000 in
theorem X12_isOf_b19_ok {K : Kt} {X : Cx} {D : Nat} {τ : Tau} {nx : Nat} {a : Nat} {res : Sig}  (hD : 1 ≤ D) (hF : Fx K X cX12_isOf 2 RX12 D 0 0) (hS : ShX12 τ a) (hE : En K X none 0 0 none (τ, res, nx)) {x1 y0 y1 : Int32} {σ : Sig} (H : X12_isOf_b19 a x1 y0 y1 σ = some res) : G K X 2 0 0 19 [none, some (.int x1)] [.int y0, .int y1, .ref (a + 1)] (τ, σ, nx) := by
  refine g_p (S' := [.int (y1 + y0), .ref (a + 1), .int (y1 + y0), .ref (a + 1)]) hF tX12_isOf_ok 10 2 rfl rfl rfl rfl ?_
  obtain ⟨v1, e2, H⟩ := ob H
  refine g_ild hF (dAt tX12_isOf_ok 12 rfl rfl) hS.2.1 e2 ?_
  refine g_p (S' := [.int 20, .int x1, .int 1, .int v1, .int (y1 + y0), .ref (a + 1)]) hF tX12_isOf_ok 13 3 rfl rfl rfl rfl ?_
  refine g_irem hF (dAt tX12_isOf_ok 16 rfl rfl) (by decide) ?_
  refine g_p (S' := [.int (v1 ||| (1 <<< ((x1 - x1 / 20 * 20) &&& 31))), .int (y1 + y0), .ref (a + 1)]) hF tX12_isOf_ok 17 2 rfl rfl rfl rfl ?_
  obtain ⟨s3, e4, H⟩ := ob H
  refine g_ist hF (dAt tX12_isOf_ok 19 rfl rfl) hS.2.1 e4 ?_
  exact g_vret hF (en_v H hE) (dAt tX12_isOf_ok 20 rfl rfl) (by decide) (by decide)
def X12_isOf_f (a : Nat) (x1 : Int32) (σ : Sig) : Option (Sig) := if 20 ≤ x1 then (X12_isOf_b19 a x1 5 (σ a 22) σ) else (X12_isOf_b19 a x1 4 (σ a 22) σ)
set_option maxRecDepth 4000 in
set_option maxHeartbeats 1000000 in
theorem X12_isOf_ok {D : Nat} {τ : Tau} {nx : Nat} {a : Nat} {x1 : Int32} {σ : Sig} {res : Sig} (hD : 1 ≤ D) (hS : ShX12 τ a) (H : X12_isOf_f a x1 σ = some res) : Ok D 0 0 yX12_isOf cX12_isOf 2 none [.ref a, .int x1] (τ, σ, nx) none (τ, res, nx) := by
  refine ok_of (by decide +kernel) rfl (Nat.le_of_ble_eq_true rfl) (fun K X hF hE hN L0 hL0 => ?_)
  obtain rfl : [some (.ref a), some (.int x1)] = L0 := hL0
  have hF : Fx K X cX12_isOf 2 RX12 D 0 0 := hF
  refine g_p (S' := [.ref a]) hF tX12_isOf_ok 0 1 rfl rfl rfl rfl ?_
  refine g_getR hF (dAt tX12_isOf_ok 1 rfl rfl) flX12_7 hS.1 rfl ?_
  refine g_p (S' := [.ref a, .ref (a + 1)]) hF tX12_isOf_ok 2 1 rfl rfl rfl rfl ?_
  refine g_getI hF (dAt tX12_isOf_ok 3 rfl rfl) flX12_287 hS.1 rfl ?_
  refine g_p (S' := [.int 20, .int x1, .int (σ a 22), .ref (a + 1)]) hF tX12_isOf_ok 4 2 rfl rfl rfl rfl ?_
  obtain ⟨Ht1, Hf1⟩ := oi H
  refine g_icmp_ge hF (dAt tX12_isOf_ok 6 rfl rfl) rfl (fun c1 => ?_) (fun c1 => ?_)
  · have H := Ht1 c1
    refine g_p (S' := [.int 5, .int (σ a 22), .ref (a + 1)]) hF tX12_isOf_ok 9 1 rfl rfl rfl rfl ?_
    refine g_m [false, true] rfl ?_
    exact X12_isOf_b19_ok hD hF hS hE H
  · have H := Hf1 c1
    refine g_p (S' := [.int 4, .int (σ a 22), .ref (a + 1)]) hF tX12_isOf_ok 7 1 rfl rfl rfl rfl ?_
    refine g_goto hF (dAt tX12_isOf_ok 8 rfl rfl) rfl ?_
    refine g_m [false, true] rfl ?_
    exact X12_isOf_b19_ok hD hF hS hE H
def X12_ends_b2 (a : Nat) : Nat → Int32 → Sig → Option (Sig)
  | 0, _, _ => none
  | fu + 1, x1, σ => (ld 20240 (σ (a + 1)) 10).bind fun v1 => if v1 ≤ x1 then ((ld 20240 (σ (a + 1)) 16).bind fun v4 => (st 20240 σ (a + 1) 16 (v4 + 1)).bind fun s6 => some s6) else ((X12_debtOf_f a x1 2 σ).bind fun v8 => (st 20240 σ (a + 1) (((σ a 22) + 166) + x1) v8).bind fun s10 => X12_ends_b2 a fu (x1 + 1) s10)
set_option maxRecDepth 4000 in
set_option maxHeartbeats 1000000 in
theorem X12_ends_b2_ok {K : Kt} {X : Cx} {D : Nat} {τ : Tau} {nx : Nat} {a : Nat} {res : Sig}  (hD : 2 ≤ D) (hF : Fx K X cX12_ends 2 RX12 D 0 0) (hS : ShX12 τ a) (hE : En K X none 0 0 none (τ, res, nx)) : ∀ (fu : Nat) (x1 : Int32) (σ : Sig), X12_ends_b2 a fu x1 σ = some res → G K X 2 0 0 2 [some (.ref a), some (.int x1)] [] (τ, σ, nx)
  | 0, _, _, H => nomatch H
  | fu + 1, x1, σ, H => by
    refine g_p (S' := [.ref a, .int x1]) hF tX12_ends_ok 2 2 rfl rfl rfl rfl ?_
    refine g_getR hF (dAt tX12_ends_ok 4 rfl rfl) flX12_7 hS.1 rfl ?_
    refine g_p (S' := [.int 10, .ref (a + 1), .int x1]) hF tX12_ends_ok 5 1 rfl rfl rfl rfl ?_
    obtain ⟨v1, e2, H⟩ := ob H
    refine g_ild hF (dAt tX12_ends_ok 6 rfl rfl) hS.2.1 e2 ?_
    obtain ⟨Ht3, Hf3⟩ := oi H
    refine g_icmp_ge hF (dAt tX12_ends_ok 7 rfl rfl) rfl (fun c3 => ?_) (fun c3 => ?_)
    · have H := Ht3 c3
      refine g_p (S' := [.ref a]) hF tX12_ends_ok 23 1 rfl rfl rfl rfl ?_
      refine g_getR hF (dAt tX12_ends_ok 24 rfl rfl) flX12_7 hS.1 rfl ?_
      refine g_p (S' := [.int 16, .ref (a + 1), .int 16, .ref (a + 1)]) hF tX12_ends_ok 25 2 rfl rfl rfl rfl ?_
      obtain ⟨v4, e5, H⟩ := ob H
      refine g_ild hF (dAt tX12_ends_ok 27 rfl rfl) hS.2.1 e5 ?_
      refine g_p (S' := [.int (v4 + 1), .int 16, .ref (a + 1)]) hF tX12_ends_ok 28 2 rfl rfl rfl rfl ?_
      obtain ⟨s6, e7, H⟩ := ob H
      refine g_ist hF (dAt tX12_ends_ok 30 rfl rfl) hS.2.1 e7 ?_
      exact g_vret hF (en_v H hE) (dAt tX12_ends_ok 31 rfl rfl) (by decide) (by decide)
    · have H := Hf3 c3
      refine g_p (S' := [.ref a]) hF tX12_ends_ok 8 1 rfl rfl rfl rfl ?_
      refine g_getR hF (dAt tX12_ends_ok 9 rfl rfl) flX12_7 hS.1 rfl ?_
      refine g_p (S' := [.ref a, .ref (a + 1)]) hF tX12_ends_ok 10 1 rfl rfl rfl rfl ?_
      refine g_getI hF (dAt tX12_ends_ok 11 rfl rfl) flX12_287 hS.1 rfl ?_
      refine g_p (S' := [.int 2, .int x1, .ref a, .int (((σ a 22) + 166) + x1), .ref (a + 1)]) hF tX12_ends_ok 12 7 rfl rfl rfl rfl ?_
      obtain ⟨v8, e9, H⟩ := ob H
      refine g_cV (S := [.int (((σ a 22) + 166) + x1), .ref (a + 1)]) hF (X12_debtOf_ok (Nat.le_refl _) hS e9 K) mbX12_debtOf mvX12_debtOf mlX12_76 (by omega) (by decide) (dAt tX12_ends_ok 19 rfl rfl) hS.1 rfl rfl rfl (Nat.le_of_ble_eq_true rfl) rfl rfl (by decide) (by decide) rfl ?_
      obtain ⟨s10, e11, H⟩ := ob H
      refine g_ist hF (dAt tX12_ends_ok 20 rfl rfl) hS.2.1 e11 ?_
      refine g_p (L' := [some (.ref a), some (.int (x1 + 1))]) (S' := []) hF tX12_ends_ok 21 1 rfl rfl rfl rfl ?_
      refine g_goto hF (dAt tX12_ends_ok 22 rfl rfl) rfl ?_
      exact X12_ends_b2_ok hD hF hS hE fu _ _ H
def X12_ends_f (a : Nat) (σ : Sig) : Option (Sig) := X12_ends_b2 a FU 0 σ
set_option maxRecDepth 4000 in
set_option maxHeartbeats 1000000 in
theorem X12_ends_ok {D : Nat} {τ : Tau} {nx : Nat} {a : Nat} {σ : Sig} {res : Sig} (hD : 2 ≤ D) (hS : ShX12 τ a) (H : X12_ends_f a σ = some res) : Ok D 0 0 yX12_ends cX12_ends 2 none [.ref a] (τ, σ, nx) none (τ, res, nx) := by
  refine ok_of (by decide +kernel) rfl (Nat.le_of_ble_eq_true rfl) (fun K X hF hE hN L0 hL0 => ?_)
  obtain rfl : [some (.ref a), none] = L0 := hL0
  have hF : Fx K X cX12_ends 2 RX12 D 0 0 := hF
  refine g_p (L' := [some (.ref a), some (.int 0)]) (S' := []) hF tX12_ends_ok 0 2 rfl rfl rfl rfl ?_
  exact X12_ends_b2_ok hD hF hS hE FU _ _ H
def X12_isLeft_f (a : Nat) (x1 : Int32) (σ : Sig) : Option (Int32) := (X12_isDebt_f a x1 σ).bind fun v1 => if v1 = 0 then (some 0) else ((X12_debtOf_f a x1 2 σ).bind fun v4 => if v4 ≤ 0 then (some 0) else (some 1))
set_option maxRecDepth 4000 in
set_option maxHeartbeats 1000000 in
theorem X12_isLeft_ok {D : Nat} {τ : Tau} {nx : Nat} {a : Nat} {x1 : Int32} {σ : Sig} {res : Int32} (hD : 3 ≤ D) (hS : ShX12 τ a) (H : X12_isLeft_f a x1 σ = some res) : Ok D 0 0 yX12_isLeft cX12_isLeft 2 (some .boolean) [.ref a, .int x1] (τ, σ, nx) (some (.int res)) (τ, σ, nx) := by
  refine ok_of (by decide +kernel) rfl (Nat.le_of_ble_eq_true rfl) (fun K X hF hE hN L0 hL0 => ?_)
  obtain rfl : [some (.ref a), some (.int x1)] = L0 := hL0
  have hF : Fx K X cX12_isLeft 2 RX12 D 0 0 := hF
  refine g_p (S' := [.int x1, .ref a]) hF tX12_isLeft_ok 0 2 rfl rfl rfl rfl ?_
  obtain ⟨v1, e2, H⟩ := ob H
  refine g_cV (S := []) hF (X12_isDebt_ok (Nat.le_refl _) hS e2 K) mbX12_isDebt mvX12_isDebt mlX12_73 (by omega) (by decide) (dAt tX12_isLeft_ok 2 rfl rfl) hS.1 rfl rfl rfl (Nat.le_of_ble_eq_true rfl) rfl rfl (by decide) (by decide) rfl ?_
  obtain ⟨Ht3, Hf3⟩ := oi H
  refine g_if_eq hF (dAt tX12_isLeft_ok 3 rfl rfl) rfl (fun c3 => ?_) (fun c3 => ?_)
  · have H := Ht3 c3
    refine g_p (S' := [.int 0]) hF tX12_isLeft_ok 11 1 rfl rfl rfl rfl ?_
    exact g_zret hF (en_i H hE) (Or.inl rfl) (dAt tX12_isLeft_ok 12 rfl rfl) (by decide) (by decide)
  · have H := Hf3 c3
    refine g_p (S' := [.int 2, .int x1, .ref a]) hF tX12_isLeft_ok 4 3 rfl rfl rfl rfl ?_
    obtain ⟨v4, e5, H⟩ := ob H
    refine g_cV (S := []) hF (X12_debtOf_ok (Nat.le_refl _) hS e5 K) mbX12_debtOf mvX12_debtOf mlX12_76 (by omega) (by decide) (dAt tX12_isLeft_ok 7 rfl rfl) hS.1 rfl rfl rfl (Nat.le_of_ble_eq_true rfl) rfl rfl (by decide) (by decide) rfl ?_
    obtain ⟨Ht6, Hf6⟩ := oi H
    refine g_if_le hF (dAt tX12_isLeft_ok 8 rfl rfl) rfl (fun c6 => ?_) (fun c6 => ?_)
    · have H := Ht6 c6
      refine g_p (S' := [.int 0]) hF tX12_isLeft_ok 11 1 rfl rfl rfl rfl ?_
      exact g_zret hF (en_i H hE) (Or.inl rfl) (dAt tX12_isLeft_ok 12 rfl rfl) (by decide) (by decide)
    · have H := Hf6 c6
      refine g_p (S' := [.int 1]) hF tX12_isLeft_ok 9 1 rfl rfl rfl rfl ?_
      refine g_goto hF (dAt tX12_isLeft_ok 10 rfl rfl) rfl ?_
      exact g_zret hF (en_i H hE) (Or.inr rfl) (dAt tX12_isLeft_ok 12 rfl rfl) (by decide) (by decide)
def X12_isIt_b16 (a : Nat) (σ : Sig) (x2 y0 y1 : Int32) : Option (Int32) := (ld 20240 (σ (a + 1)) (y1 + y0)).bind fun v1 => if ((v1 >>> ((x2 - x2 / 20 * 20) &&& 31)) &&& 1) = 1 then (some 1) else (some 0)
set_option maxRecDepth 4000 in
set_option maxHeartbeats 1000000 in
theorem X12_isIt_b16_ok {K : Kt} {X : Cx} {D : Nat} {τ : Tau} {nx : Nat} {a : Nat} {res : Int32} {σ : Sig}  (hD : 1 ≤ D) (hF : Fx K X cX12_isIt 3 RX12 D 0 0) (hS : ShX12 τ a) (hE : En K X (some .boolean) 0 0 (some (.int res)) (τ, σ, nx)) {x2 y0 y1 : Int32} (H : X12_isIt_b16 a σ x2 y0 y1 = some res) : G K X 3 0 0 16 [none, none, some (.int x2)] [.int y0, .int y1, .ref (a + 1)] (τ, σ, nx) := by
  refine g_p (S' := [.int (y1 + y0), .ref (a + 1)]) hF tX12_isIt_ok 9 1 rfl rfl rfl rfl ?_
  obtain ⟨v1, e2, H⟩ := ob H
  refine g_ild hF (dAt tX12_isIt_ok 10 rfl rfl) hS.2.1 e2 ?_
  refine g_p (S' := [.int 20, .int x2, .int v1]) hF tX12_isIt_ok 11 2 rfl rfl rfl rfl ?_
  refine g_irem hF (dAt tX12_isIt_ok 13 rfl rfl) (by decide) ?_
  refine g_p (S' := [.int 1, .int ((v1 >>> ((x2 - x2 / 20 * 20) &&& 31)) &&& 1)]) hF tX12_isIt_ok 14 4 rfl rfl rfl rfl ?_
  obtain ⟨Ht3, Hf3⟩ := oi H
  refine g_icmp_ne hF (dAt tX12_isIt_ok 18 rfl rfl) rfl (fun c3 => ?_) (fun c3 => ?_)
  · have H := Hf3 c3
    refine g_p (S' := [.int 0]) hF tX12_isIt_ok 21 1 rfl rfl rfl rfl ?_
    exact g_zret hF (en_i H hE) (Or.inl rfl) (dAt tX12_isIt_ok 22 rfl rfl) (by decide) (by decide)
  · have H := Ht3 c3
    refine g_p (S' := [.int 1]) hF tX12_isIt_ok 19 1 rfl rfl rfl rfl ?_
    refine g_goto hF (dAt tX12_isIt_ok 20 rfl rfl) rfl ?_
    exact g_zret hF (en_i H hE) (Or.inr rfl) (dAt tX12_isIt_ok 22 rfl rfl) (by decide) (by decide)
def X12_isIt_f (a : Nat) (x1 x2 : Int32) (σ : Sig) : Option (Int32) := if 20 ≤ x2 then (X12_isIt_b16 a σ x2 5 x1) else (X12_isIt_b16 a σ x2 4 x1)
set_option maxRecDepth 4000 in
set_option maxHeartbeats 1000000 in
theorem X12_isIt_ok {D : Nat} {τ : Tau} {nx : Nat} {a : Nat} {x1 x2 : Int32} {σ : Sig} {res : Int32} (hD : 1 ≤ D) (hS : ShX12 τ a) (H : X12_isIt_f a x1 x2 σ = some res) : Ok D 0 0 yX12_isIt cX12_isIt 3 (some .boolean) [.ref a, .int x1, .int x2] (τ, σ, nx) (some (.int res)) (τ, σ, nx) := by
  refine ok_of (by decide +kernel) rfl (Nat.le_of_ble_eq_true rfl) (fun K X hF hE hN L0 hL0 => ?_)
  obtain rfl : [some (.ref a), some (.int x1), some (.int x2)] = L0 := hL0
  have hF : Fx K X cX12_isIt 3 RX12 D 0 0 := hF
  refine g_p (S' := [.ref a]) hF tX12_isIt_ok 0 1 rfl rfl rfl rfl ?_
  refine g_getR hF (dAt tX12_isIt_ok 1 rfl rfl) flX12_7 hS.1 rfl ?_
  refine g_p (S' := [.int 20, .int x2, .int x1, .ref (a + 1)]) hF tX12_isIt_ok 2 3 rfl rfl rfl rfl ?_
  obtain ⟨Ht1, Hf1⟩ := oi H
  refine g_icmp_ge hF (dAt tX12_isIt_ok 5 rfl rfl) rfl (fun c1 => ?_) (fun c1 => ?_)
  · have H := Ht1 c1
    refine g_p (S' := [.int 5, .int x1, .ref (a + 1)]) hF tX12_isIt_ok 8 1 rfl rfl rfl rfl ?_
    refine g_m [false, false, true] rfl ?_
    exact X12_isIt_b16_ok hD hF hS hE H
  · have H := Hf1 c1
    refine g_p (S' := [.int 4, .int x1, .ref (a + 1)]) hF tX12_isIt_ok 6 1 rfl rfl rfl rfl ?_
    refine g_goto hF (dAt tX12_isIt_ok 7 rfl rfl) rfl ?_
    refine g_m [false, false, true] rfl ?_
    exact X12_isIt_b16_ok hD hF hS hE H
def X12_undo_b251 (a : Nat) (x1 : Int32) (σ : Sig) : Option (Int32 × Sig) := (ld 20240 (σ (a + 1)) (x1 + 1)).bind fun v1 => (ld 20240 (σ (a + 1)) (x1 + 0)).bind fun v3 => (ld 20240 (σ (a + 1)) (x1 + 2)).bind fun v5 => (X12_pays_f a v1 v3 v5 σ).bind fun s7 => (ld 20240 (s7 (a + 1)) 16).bind fun v9 => (st 20240 s7 (a + 1) 16 (v9 - 1)).bind fun s11 => some (1, s11)
set_option maxRecDepth 4000 in
set_option maxHeartbeats 1000000 in
theorem X12_undo_b251_ok {K : Kt} {X : Cx} {D : Nat} {τ : Tau} {nx : Nat} {a : Nat} {res : Int32} {rsg : Sig}  (hD : 3 ≤ D) (hF : Fx K X cX12_undo 6 RX12 D 0 0) (hS : ShX12 τ a) (hE : En K X (some .boolean) 0 0 (some (.int res)) (τ, rsg, nx)) {x1 : Int32} {σ : Sig} (H : X12_undo_b251 a x1 σ = some (res, rsg)) : G K X 6 0 0 251 [some (.ref a), some (.int x1), none, none, none, none] [] (τ, σ, nx) := by
  refine g_p (S' := [.ref a, .ref a]) hF tX12_undo_ok 148 2 rfl rfl rfl rfl ?_
  refine g_getR hF (dAt tX12_undo_ok 150 rfl rfl) flX12_7 hS.1 rfl ?_
  refine g_p (S' := [.int (x1 + 1), .ref (a + 1), .ref a]) hF tX12_undo_ok 151 3 rfl rfl rfl rfl ?_
  obtain ⟨v1, e2, H⟩ := ob H
  refine g_ild hF (dAt tX12_undo_ok 154 rfl rfl) hS.2.1 e2 ?_
  refine g_p (S' := [.ref a, .int v1, .ref a]) hF tX12_undo_ok 155 1 rfl rfl rfl rfl ?_
  refine g_getR hF (dAt tX12_undo_ok 156 rfl rfl) flX12_7 hS.1 rfl ?_
  refine g_p (S' := [.int (x1 + 0), .ref (a + 1), .int v1, .ref a]) hF tX12_undo_ok 157 3 rfl rfl rfl rfl ?_
  obtain ⟨v3, e4, H⟩ := ob H
  refine g_ild hF (dAt tX12_undo_ok 160 rfl rfl) hS.2.1 e4 ?_
  refine g_p (S' := [.ref a, .int v3, .int v1, .ref a]) hF tX12_undo_ok 161 1 rfl rfl rfl rfl ?_
  refine g_getR hF (dAt tX12_undo_ok 162 rfl rfl) flX12_7 hS.1 rfl ?_
  refine g_p (S' := [.int (x1 + 2), .ref (a + 1), .int v3, .int v1, .ref a]) hF tX12_undo_ok 163 3 rfl rfl rfl rfl ?_
  obtain ⟨v5, e6, H⟩ := ob H
  refine g_ild hF (dAt tX12_undo_ok 166 rfl rfl) hS.2.1 e6 ?_
  obtain ⟨s7, e8, H⟩ := ob H
  refine g_cV (S := []) hF (X12_pays_ok (Nat.le_refl _) hS e8 K) mbX12_pays mvX12_pays mlX12_290 (by omega) (by decide) (dAt tX12_undo_ok 167 rfl rfl) hS.1 rfl rfl rfl (Nat.le_of_ble_eq_true rfl) rfl rfl (by decide) (by decide) rfl ?_
  refine g_p (S' := [.ref a]) hF tX12_undo_ok 168 1 rfl rfl rfl rfl ?_
  refine g_getR hF (dAt tX12_undo_ok 169 rfl rfl) flX12_7 hS.1 rfl ?_
  refine g_p (S' := [.int 16, .ref (a + 1), .int 16, .ref (a + 1)]) hF tX12_undo_ok 170 2 rfl rfl rfl rfl ?_
  obtain ⟨v9, e10, H⟩ := ob H
  refine g_ild hF (dAt tX12_undo_ok 172 rfl rfl) hS.2.1 e10 ?_
  refine g_p (S' := [.int (v9 - 1), .int 16, .ref (a + 1)]) hF tX12_undo_ok 173 2 rfl rfl rfl rfl ?_
  obtain ⟨s11, e12, H⟩ := ob H
  refine g_ist hF (dAt tX12_undo_ok 175 rfl rfl) hS.2.1 e12 ?_
  refine g_p (S' := [.int 1]) hF tX12_undo_ok 176 1 rfl rfl rfl rfl ?_
  exact g_zret hF (en_p H hE) (Or.inr rfl) (dAt tX12_undo_ok 177 rfl rfl) (by decide) (by decide)
def X12_undo_b138 (a : Nat) : Nat → Int32 → Int32 → Int32 → Int32 → Sig → Option (Int32 × Sig)
  | 0, _, _, _, _, _ => none
  | fu + 1, x1, x2, x3, x4, σ => if x2 ≤ x4 then (if x3 = 0 then (X12_undo_b251 a x1 σ) else ((ld 20240 (σ (a + 1)) 10).bind fun v3 => (st 20240 σ (a + 1) 10 (v3 - 1)).bind fun s5 => X12_undo_b251 a x1 s5)) else ((X12_isIt_f a x1 x4 σ).bind fun v7 => if v7 = 0 then (X12_undo_b138 a fu x1 x2 x3 (x4 + 1) σ) else ((ld 20240 (σ (a + 1)) ((x1 + 6) + (4 * x4))).bind fun v10 => (X12_lays0_f a x4 0 v10 σ).bind fun s12 => (ld 20240 (s12 (a + 1)) (((x1 + 6) + (4 * x4)) + 1)).bind fun v14 => (X12_lays0_f a x4 1 v14 s12).bind fun s16 => (ld 20240 (s16 (a + 1)) (((x1 + 6) + (4 * x4)) + 2)).bind fun v18 => (X12_lays0_f a x4 4 v18 s16).bind fun s20 => (ld 20240 (s20 (a + 1)) (((x1 + 6) + (4 * x4)) + 3)).bind fun v22 => (X12_lays0_f a x4 2 v22 s20).bind fun s24 => X12_undo_b138 a fu x1 x2 x3 (x4 + 1) s24))
set_option maxRecDepth 4000 in
set_option maxHeartbeats 1000000 in
theorem X12_undo_b138_ok {K : Kt} {X : Cx} {D : Nat} {τ : Tau} {nx : Nat} {a : Nat} {res : Int32} {rsg : Sig}  (hD : 3 ≤ D) (hF : Fx K X cX12_undo 6 RX12 D 0 0) (hS : ShX12 τ a) (hE : En K X (some .boolean) 0 0 (some (.int res)) (τ, rsg, nx)) : ∀ (fu : Nat) (x1 x2 x3 x4 : Int32) (σ : Sig), X12_undo_b138 a fu x1 x2 x3 x4 σ = some (res, rsg) → G K X 6 0 0 138 [some (.ref a), some (.int x1), some (.int x2), some (.int x3), some (.int x4), none] [] (τ, σ, nx)
  | 0, _, _, _, _, _, H => nomatch H
  | fu + 1, x1, x2, x3, x4, σ, H => by
    refine g_p (S' := [.int x2, .int x4]) hF tX12_undo_ok 81 2 rfl rfl rfl rfl ?_
    obtain ⟨Ht1, Hf1⟩ := oi H
    refine g_icmp_ge hF (dAt tX12_undo_ok 83 rfl rfl) rfl (fun c1 => ?_) (fun c1 => ?_)
    · have H := Ht1 c1
      refine g_p (S' := [.int x3]) hF tX12_undo_ok 138 1 rfl rfl rfl rfl ?_
      obtain ⟨Ht2, Hf2⟩ := oi H
      refine g_if_eq hF (dAt tX12_undo_ok 139 rfl rfl) rfl (fun c2 => ?_) (fun c2 => ?_)
      · have H := Ht2 c2
        refine g_m [true, true, false, false, false, false] rfl ?_
        exact X12_undo_b251_ok hD hF hS hE H
      · have H := Hf2 c2
        refine g_p (S' := [.ref a]) hF tX12_undo_ok 140 1 rfl rfl rfl rfl ?_
        refine g_getR hF (dAt tX12_undo_ok 141 rfl rfl) flX12_7 hS.1 rfl ?_
        refine g_p (S' := [.int 10, .ref (a + 1), .int 10, .ref (a + 1)]) hF tX12_undo_ok 142 2 rfl rfl rfl rfl ?_
        obtain ⟨v3, e4, H⟩ := ob H
        refine g_ild hF (dAt tX12_undo_ok 144 rfl rfl) hS.2.1 e4 ?_
        refine g_p (S' := [.int (v3 - 1), .int 10, .ref (a + 1)]) hF tX12_undo_ok 145 2 rfl rfl rfl rfl ?_
        obtain ⟨s5, e6, H⟩ := ob H
        refine g_ist hF (dAt tX12_undo_ok 147 rfl rfl) hS.2.1 e6 ?_
        refine g_m [true, true, false, false, false, false] rfl ?_
        exact X12_undo_b251_ok hD hF hS hE H
    · have H := Hf1 c1
      refine g_p (S' := [.int x4, .int x1, .ref a]) hF tX12_undo_ok 84 3 rfl rfl rfl rfl ?_
      obtain ⟨v7, e8, H⟩ := ob H
      refine g_cV (S := []) hF (X12_isIt_ok (Nat.le_refl _) hS e8 K) mbX12_isIt mvX12_isIt mlX12_305 (by omega) (by decide) (dAt tX12_undo_ok 87 rfl rfl) hS.1 rfl rfl rfl (Nat.le_of_ble_eq_true rfl) rfl rfl (by decide) (by decide) rfl ?_
      obtain ⟨Ht9, Hf9⟩ := oi H
      refine g_if_ne hF (dAt tX12_undo_ok 88 rfl rfl) rfl (fun c9 => ?_) (fun c9 => ?_)
      · have H := Hf9 c9
        refine g_p (L' := [some (.ref a), some (.int x1), some (.int x2), some (.int x3), some (.int x4), some (.int ((x1 + 6) + (4 * x4)))]) (S' := [.ref a, .int 0, .int x4, .ref a]) hF tX12_undo_ok 90 12 rfl rfl rfl rfl ?_
        refine g_getR hF (dAt tX12_undo_ok 102 rfl rfl) flX12_7 hS.1 rfl ?_
        refine g_p (S' := [.int ((x1 + 6) + (4 * x4)), .ref (a + 1), .int 0, .int x4, .ref a]) hF tX12_undo_ok 103 1 rfl rfl rfl rfl ?_
        obtain ⟨v10, e11, H⟩ := ob H
        refine g_ild hF (dAt tX12_undo_ok 104 rfl rfl) hS.2.1 e11 ?_
        obtain ⟨s12, e13, H⟩ := ob H
        refine g_cV (S := []) hF (X12_lays0_ok (Nat.le_refl _) hS e13 K) mbX12_lays0 mvX12_lays0 mlX12_70 (by omega) (by decide) (dAt tX12_undo_ok 105 rfl rfl) hS.1 rfl rfl rfl (Nat.le_of_ble_eq_true rfl) rfl rfl (by decide) (by decide) rfl ?_
        refine g_p (S' := [.ref a, .int 1, .int x4, .ref a]) hF tX12_undo_ok 106 4 rfl rfl rfl rfl ?_
        refine g_getR hF (dAt tX12_undo_ok 110 rfl rfl) flX12_7 hS.1 rfl ?_
        refine g_p (S' := [.int (((x1 + 6) + (4 * x4)) + 1), .ref (a + 1), .int 1, .int x4, .ref a]) hF tX12_undo_ok 111 3 rfl rfl rfl rfl ?_
        obtain ⟨v14, e15, H⟩ := ob H
        refine g_ild hF (dAt tX12_undo_ok 114 rfl rfl) hS.2.1 e15 ?_
        obtain ⟨s16, e17, H⟩ := ob H
        refine g_cV (S := []) hF (X12_lays0_ok (Nat.le_refl _) hS e17 K) mbX12_lays0 mvX12_lays0 mlX12_70 (by omega) (by decide) (dAt tX12_undo_ok 115 rfl rfl) hS.1 rfl rfl rfl (Nat.le_of_ble_eq_true rfl) rfl rfl (by decide) (by decide) rfl ?_
        refine g_p (S' := [.ref a, .int 4, .int x4, .ref a]) hF tX12_undo_ok 116 4 rfl rfl rfl rfl ?_
        refine g_getR hF (dAt tX12_undo_ok 120 rfl rfl) flX12_7 hS.1 rfl ?_
        refine g_p (S' := [.int (((x1 + 6) + (4 * x4)) + 2), .ref (a + 1), .int 4, .int x4, .ref a]) hF tX12_undo_ok 121 3 rfl rfl rfl rfl ?_
        obtain ⟨v18, e19, H⟩ := ob H
        refine g_ild hF (dAt tX12_undo_ok 124 rfl rfl) hS.2.1 e19 ?_
        obtain ⟨s20, e21, H⟩ := ob H
        refine g_cV (S := []) hF (X12_lays0_ok (Nat.le_refl _) hS e21 K) mbX12_lays0 mvX12_lays0 mlX12_70 (by omega) (by decide) (dAt tX12_undo_ok 125 rfl rfl) hS.1 rfl rfl rfl (Nat.le_of_ble_eq_true rfl) rfl rfl (by decide) (by decide) rfl ?_
        refine g_p (S' := [.ref a, .int 2, .int x4, .ref a]) hF tX12_undo_ok 126 4 rfl rfl rfl rfl ?_
        refine g_getR hF (dAt tX12_undo_ok 130 rfl rfl) flX12_7 hS.1 rfl ?_
        refine g_p (S' := [.int (((x1 + 6) + (4 * x4)) + 3), .ref (a + 1), .int 2, .int x4, .ref a]) hF tX12_undo_ok 131 3 rfl rfl rfl rfl ?_
        obtain ⟨v22, e23, H⟩ := ob H
        refine g_ild hF (dAt tX12_undo_ok 134 rfl rfl) hS.2.1 e23 ?_
        obtain ⟨s24, e25, H⟩ := ob H
        refine g_cV (S := []) hF (X12_lays0_ok (Nat.le_refl _) hS e25 K) mbX12_lays0 mvX12_lays0 mlX12_70 (by omega) (by decide) (dAt tX12_undo_ok 135 rfl rfl) hS.1 rfl rfl rfl (Nat.le_of_ble_eq_true rfl) rfl rfl (by decide) (by decide) rfl ?_
        refine g_p (L' := [some (.ref a), some (.int x1), some (.int x2), some (.int x3), some (.int (x4 + 1)), some (.int ((x1 + 6) + (4 * x4)))]) (S' := []) hF tX12_undo_ok 136 1 rfl rfl rfl rfl ?_
        refine g_goto hF (dAt tX12_undo_ok 137 rfl rfl) rfl ?_
        refine g_m [true, true, true, true, true, false] rfl ?_
        exact X12_undo_b138_ok hD hF hS hE fu _ _ _ _ _ H
      · have H := Ht9 c9
        refine g_goto hF (dAt tX12_undo_ok 89 rfl rfl) rfl ?_
        refine g_p (L' := [some (.ref a), some (.int x1), some (.int x2), some (.int x3), some (.int (x4 + 1)), none]) (S' := []) hF tX12_undo_ok 136 1 rfl rfl rfl rfl ?_
        refine g_goto hF (dAt tX12_undo_ok 137 rfl rfl) rfl ?_
        exact X12_undo_b138_ok hD hF hS hE fu _ _ _ _ _ H
def X12_undo_b82 (a : Nat) : Nat → Int32 → Int32 → Int32 → Int32 → Sig → Option (Int32 × Sig)
  | 0, _, _, _, _, _ => none
  | fu + 1, x1, x2, x3, x4, σ => (ld 20240 (σ (a + 1)) 10).bind fun v1 => if v1 ≤ x4 then (X12_undo_b138 a FU x1 x2 x3 0 σ) else ((X12_isIt_f a x1 x4 σ).bind fun v4 => if v4 = 0 then (X12_undo_b82 a fu x1 x2 x3 (x4 + 1) σ) else ((X12_debtOf_f a x4 2 σ).bind fun v7 => (ld 20240 (σ (a + 1)) ((x1 + 166) + x4)).bind fun v9 => if v7 = v9 then (X12_undo_b82 a fu x1 x2 x3 (x4 + 1) σ) else (some (0, σ))))
set_option maxRecDepth 4000 in
set_option maxHeartbeats 1000000 in
theorem X12_undo_b82_ok {K : Kt} {X : Cx} {D : Nat} {τ : Tau} {nx : Nat} {a : Nat} {res : Int32} {rsg : Sig}  (hD : 3 ≤ D) (hF : Fx K X cX12_undo 6 RX12 D 0 0) (hS : ShX12 τ a) (hE : En K X (some .boolean) 0 0 (some (.int res)) (τ, rsg, nx)) : ∀ (fu : Nat) (x1 x2 x3 x4 : Int32) (σ : Sig), X12_undo_b82 a fu x1 x2 x3 x4 σ = some (res, rsg) → G K X 6 0 0 82 [some (.ref a), some (.int x1), some (.int x2), some (.int x3), some (.int x4), none] [] (τ, σ, nx)
  | 0, _, _, _, _, _, H => nomatch H
  | fu + 1, x1, x2, x3, x4, σ, H => by
    refine g_p (S' := [.ref a, .int x4]) hF tX12_undo_ok 51 2 rfl rfl rfl rfl ?_
    refine g_getR hF (dAt tX12_undo_ok 53 rfl rfl) flX12_7 hS.1 rfl ?_
    refine g_p (S' := [.int 10, .ref (a + 1), .int x4]) hF tX12_undo_ok 54 1 rfl rfl rfl rfl ?_
    obtain ⟨v1, e2, H⟩ := ob H
    refine g_ild hF (dAt tX12_undo_ok 55 rfl rfl) hS.2.1 e2 ?_
    obtain ⟨Ht3, Hf3⟩ := oi H
    refine g_icmp_ge hF (dAt tX12_undo_ok 56 rfl rfl) rfl (fun c3 => ?_) (fun c3 => ?_)
    · have H := Ht3 c3
      refine g_p (L' := [some (.ref a), some (.int x1), some (.int x2), some (.int x3), some (.int 0), none]) (S' := []) hF tX12_undo_ok 79 2 rfl rfl rfl rfl ?_
      exact X12_undo_b138_ok hD hF hS hE FU _ _ _ _ _ H
    · have H := Hf3 c3
      refine g_p (S' := [.int x4, .int x1, .ref a]) hF tX12_undo_ok 57 3 rfl rfl rfl rfl ?_
      obtain ⟨v4, e5, H⟩ := ob H
      refine g_cV (S := []) hF (X12_isIt_ok (Nat.le_refl _) hS e5 K) mbX12_isIt mvX12_isIt mlX12_305 (by omega) (by decide) (dAt tX12_undo_ok 60 rfl rfl) hS.1 rfl rfl rfl (Nat.le_of_ble_eq_true rfl) rfl rfl (by decide) (by decide) rfl ?_
      obtain ⟨Ht6, Hf6⟩ := oi H
      refine g_if_eq hF (dAt tX12_undo_ok 61 rfl rfl) rfl (fun c6 => ?_) (fun c6 => ?_)
      · have H := Ht6 c6
        refine g_p (L' := [some (.ref a), some (.int x1), some (.int x2), some (.int x3), some (.int (x4 + 1)), none]) (S' := []) hF tX12_undo_ok 77 1 rfl rfl rfl rfl ?_
        refine g_goto hF (dAt tX12_undo_ok 78 rfl rfl) rfl ?_
        exact X12_undo_b82_ok hD hF hS hE fu _ _ _ _ _ H
      · have H := Hf6 c6
        refine g_p (S' := [.int 2, .int x4, .ref a]) hF tX12_undo_ok 62 3 rfl rfl rfl rfl ?_
        obtain ⟨v7, e8, H⟩ := ob H
        refine g_cV (S := []) hF (X12_debtOf_ok (Nat.le_refl _) hS e8 K) mbX12_debtOf mvX12_debtOf mlX12_76 (by omega) (by decide) (dAt tX12_undo_ok 65 rfl rfl) hS.1 rfl rfl rfl (Nat.le_of_ble_eq_true rfl) rfl rfl (by decide) (by decide) rfl ?_
        refine g_p (S' := [.ref a, .int v7]) hF tX12_undo_ok 66 1 rfl rfl rfl rfl ?_
        refine g_getR hF (dAt tX12_undo_ok 67 rfl rfl) flX12_7 hS.1 rfl ?_
        refine g_p (S' := [.int ((x1 + 166) + x4), .ref (a + 1), .int v7]) hF tX12_undo_ok 68 5 rfl rfl rfl rfl ?_
        obtain ⟨v9, e10, H⟩ := ob H
        refine g_ild hF (dAt tX12_undo_ok 73 rfl rfl) hS.2.1 e10 ?_
        obtain ⟨Ht11, Hf11⟩ := oi H
        refine g_icmp_eq hF (dAt tX12_undo_ok 74 rfl rfl) rfl (fun c11 => ?_) (fun c11 => ?_)
        · have H := Ht11 c11
          refine g_p (L' := [some (.ref a), some (.int x1), some (.int x2), some (.int x3), some (.int (x4 + 1)), none]) (S' := []) hF tX12_undo_ok 77 1 rfl rfl rfl rfl ?_
          refine g_goto hF (dAt tX12_undo_ok 78 rfl rfl) rfl ?_
          exact X12_undo_b82_ok hD hF hS hE fu _ _ _ _ _ H
        · have H := Hf11 c11
          refine g_p (S' := [.int 0]) hF tX12_undo_ok 75 1 rfl rfl rfl rfl ?_
          exact g_zret hF (en_p H hE) (Or.inl rfl) (dAt tX12_undo_ok 76 rfl rfl) (by decide) (by decide)
def X12_undo_b59 (a : Nat) (x1 x2 y0 : Int32) (σ : Sig) : Option (Int32 × Sig) := if y0 = 0 then (X12_undo_b82 a FU x1 x2 y0 0 σ) else ((ld 20240 (σ (a + 1)) 10).bind fun v2 => if v2 = (x2 + 1) then (X12_undo_b82 a FU x1 x2 y0 0 σ) else (some (0, σ)))
set_option maxRecDepth 4000 in
set_option maxHeartbeats 1000000 in
theorem X12_undo_b59_ok {K : Kt} {X : Cx} {D : Nat} {τ : Tau} {nx : Nat} {a : Nat} {res : Int32} {rsg : Sig}  (hD : 3 ≤ D) (hF : Fx K X cX12_undo 6 RX12 D 0 0) (hS : ShX12 τ a) (hE : En K X (some .boolean) 0 0 (some (.int res)) (τ, rsg, nx)) {x1 x2 y0 : Int32} {σ : Sig} (H : X12_undo_b59 a x1 x2 y0 σ = some (res, rsg)) : G K X 6 0 0 59 [some (.ref a), some (.int x1), some (.int x2), none, none, none] [.int y0] (τ, σ, nx) := by
  refine g_p (L' := [some (.ref a), some (.int x1), some (.int x2), some (.int y0), none, none]) (S' := [.int y0]) hF tX12_undo_ok 36 2 rfl rfl rfl rfl ?_
  obtain ⟨Ht1, Hf1⟩ := oi H
  refine g_if_eq hF (dAt tX12_undo_ok 38 rfl rfl) rfl (fun c1 => ?_) (fun c1 => ?_)
  · have H := Ht1 c1
    refine g_p (L' := [some (.ref a), some (.int x1), some (.int x2), some (.int y0), some (.int 0), none]) (S' := []) hF tX12_undo_ok 49 2 rfl rfl rfl rfl ?_
    exact X12_undo_b82_ok hD hF hS hE FU _ _ _ _ _ H
  · have H := Hf1 c1
    refine g_p (S' := [.ref a]) hF tX12_undo_ok 39 1 rfl rfl rfl rfl ?_
    refine g_getR hF (dAt tX12_undo_ok 40 rfl rfl) flX12_7 hS.1 rfl ?_
    refine g_p (S' := [.int 10, .ref (a + 1)]) hF tX12_undo_ok 41 1 rfl rfl rfl rfl ?_
    obtain ⟨v2, e3, H⟩ := ob H
    refine g_ild hF (dAt tX12_undo_ok 42 rfl rfl) hS.2.1 e3 ?_
    refine g_p (S' := [.int (x2 + 1), .int v2]) hF tX12_undo_ok 43 3 rfl rfl rfl rfl ?_
    obtain ⟨Ht4, Hf4⟩ := oi H
    refine g_icmp_eq hF (dAt tX12_undo_ok 46 rfl rfl) rfl (fun c4 => ?_) (fun c4 => ?_)
    · have H := Ht4 c4
      refine g_p (L' := [some (.ref a), some (.int x1), some (.int x2), some (.int y0), some (.int 0), none]) (S' := []) hF tX12_undo_ok 49 2 rfl rfl rfl rfl ?_
      exact X12_undo_b82_ok hD hF hS hE FU _ _ _ _ _ H
    · have H := Hf4 c4
      refine g_p (S' := [.int 0]) hF tX12_undo_ok 47 1 rfl rfl rfl rfl ?_
      exact g_zret hF (en_p H hE) (Or.inl rfl) (dAt tX12_undo_ok 48 rfl rfl) (by decide) (by decide)
def X12_undo_b58 (a : Nat) (x1 x2 : Int32) (σ : Sig) : Option (Int32 × Sig) := X12_undo_b59 a x1 x2 0 σ
set_option maxRecDepth 4000 in
set_option maxHeartbeats 1000000 in
theorem X12_undo_b58_ok {K : Kt} {X : Cx} {D : Nat} {τ : Tau} {nx : Nat} {a : Nat} {res : Int32} {rsg : Sig}  (hD : 3 ≤ D) (hF : Fx K X cX12_undo 6 RX12 D 0 0) (hS : ShX12 τ a) (hE : En K X (some .boolean) 0 0 (some (.int res)) (τ, rsg, nx)) {x1 x2 : Int32} {σ : Sig} (H : X12_undo_b58 a x1 x2 σ = some (res, rsg)) : G K X 6 0 0 58 [some (.ref a), some (.int x1), some (.int x2), none, none, none] [] (τ, σ, nx) := by
  refine g_p (S' := [.int 0]) hF tX12_undo_ok 35 1 rfl rfl rfl rfl ?_
  exact X12_undo_b59_ok hD hF hS hE H
def X12_undo_f (a : Nat) (σ : Sig) : Option (Int32 × Sig) := (ld 20240 (σ (a + 1)) 16).bind fun v1 => if v1 = 0 then (some (0, σ)) else ((ld 20240 (σ (a + 1)) 16).bind fun v4 => (ld 20240 (σ (a + 1)) ((7880 + (206 * (v4 - 1))) + 3)).bind fun v6 => (X12_isIt_f a (7880 + (206 * (v4 - 1))) v6 σ).bind fun v8 => if v8 = 0 then (X12_undo_b58 a (7880 + (206 * (v4 - 1))) v6 σ) else (if 40 ≤ v6 then (X12_undo_b58 a (7880 + (206 * (v4 - 1))) v6 σ) else (X12_undo_b59 a (7880 + (206 * (v4 - 1))) v6 1 σ)))
set_option maxRecDepth 4000 in
set_option maxHeartbeats 1000000 in
theorem X12_undo_ok {D : Nat} {τ : Tau} {nx : Nat} {a : Nat} {σ : Sig} {res : Int32} {rsg : Sig} (hD : 3 ≤ D) (hS : ShX12 τ a) (H : X12_undo_f a σ = some (res, rsg)) : Ok D 0 0 yX12_undo cX12_undo 6 (some .boolean) [.ref a] (τ, σ, nx) (some (.int res)) (τ, rsg, nx) := by
  refine ok_of (by decide +kernel) rfl (Nat.le_of_ble_eq_true rfl) (fun K X hF hE hN L0 hL0 => ?_)
  obtain rfl : [some (.ref a), none, none, none, none, none] = L0 := hL0
  have hF : Fx K X cX12_undo 6 RX12 D 0 0 := hF
  refine g_p (S' := [.ref a]) hF tX12_undo_ok 0 1 rfl rfl rfl rfl ?_
  refine g_getR hF (dAt tX12_undo_ok 1 rfl rfl) flX12_7 hS.1 rfl ?_
  refine g_p (S' := [.int 16, .ref (a + 1)]) hF tX12_undo_ok 2 1 rfl rfl rfl rfl ?_
  obtain ⟨v1, e2, H⟩ := ob H
  refine g_ild hF (dAt tX12_undo_ok 3 rfl rfl) hS.2.1 e2 ?_
  obtain ⟨Ht3, Hf3⟩ := oi H
  refine g_if_ne hF (dAt tX12_undo_ok 4 rfl rfl) rfl (fun c3 => ?_) (fun c3 => ?_)
  · have H := Hf3 c3
    refine g_p (S' := [.ref a, .int 206, .int 7880]) hF tX12_undo_ok 7 3 rfl rfl rfl rfl ?_
    refine g_getR hF (dAt tX12_undo_ok 10 rfl rfl) flX12_7 hS.1 rfl ?_
    refine g_p (S' := [.int 16, .ref (a + 1), .int 206, .int 7880]) hF tX12_undo_ok 11 1 rfl rfl rfl rfl ?_
    obtain ⟨v4, e5, H⟩ := ob H
    refine g_ild hF (dAt tX12_undo_ok 12 rfl rfl) hS.2.1 e5 ?_
    refine g_p (L' := [some (.ref a), some (.int (7880 + (206 * (v4 - 1)))), none, none, none, none]) (S' := [.ref a]) hF tX12_undo_ok 13 6 rfl rfl rfl rfl ?_
    refine g_getR hF (dAt tX12_undo_ok 19 rfl rfl) flX12_7 hS.1 rfl ?_
    refine g_p (S' := [.int ((7880 + (206 * (v4 - 1))) + 3), .ref (a + 1)]) hF tX12_undo_ok 20 3 rfl rfl rfl rfl ?_
    obtain ⟨v6, e7, H⟩ := ob H
    refine g_ild hF (dAt tX12_undo_ok 23 rfl rfl) hS.2.1 e7 ?_
    refine g_p (L' := [some (.ref a), some (.int (7880 + (206 * (v4 - 1)))), some (.int v6), none, none, none]) (S' := [.int v6, .int (7880 + (206 * (v4 - 1))), .ref a]) hF tX12_undo_ok 24 4 rfl rfl rfl rfl ?_
    obtain ⟨v8, e9, H⟩ := ob H
    refine g_cV (S := []) hF (X12_isIt_ok (Nat.le_refl _) hS e9 K) mbX12_isIt mvX12_isIt mlX12_305 (by omega) (by decide) (dAt tX12_undo_ok 28 rfl rfl) hS.1 rfl rfl rfl (Nat.le_of_ble_eq_true rfl) rfl rfl (by decide) (by decide) rfl ?_
    obtain ⟨Ht10, Hf10⟩ := oi H
    refine g_if_eq hF (dAt tX12_undo_ok 29 rfl rfl) rfl (fun c10 => ?_) (fun c10 => ?_)
    · have H := Ht10 c10
      exact X12_undo_b58_ok hD hF hS hE H
    · have H := Hf10 c10
      refine g_p (S' := [.int 40, .int v6]) hF tX12_undo_ok 30 2 rfl rfl rfl rfl ?_
      obtain ⟨Ht11, Hf11⟩ := oi H
      refine g_icmp_ge hF (dAt tX12_undo_ok 32 rfl rfl) rfl (fun c11 => ?_) (fun c11 => ?_)
      · have H := Ht11 c11
        exact X12_undo_b58_ok hD hF hS hE H
      · have H := Hf11 c11
        refine g_p (S' := [.int 1]) hF tX12_undo_ok 33 1 rfl rfl rfl rfl ?_
        refine g_goto hF (dAt tX12_undo_ok 34 rfl rfl) rfl ?_
        exact X12_undo_b59_ok hD hF hS hE H
  · have H := Ht3 c3
    refine g_p (S' := [.int 0]) hF tX12_undo_ok 5 1 rfl rfl rfl rfl ?_
    exact g_zret hF (en_p H hE) (Or.inl rfl) (dAt tX12_undo_ok 6 rfl rfl) (by decide) (by decide)
def X12_mays_b115 (a : Nat) (k45 : Int32 → Int32 → Int32 → Sig → Option (Int32 × Sig)) (x1 x2 x3 x4 : Int32) (σ : Sig) : Option (Int32 × Sig) := (st 40 σ (a + 9) x3 (x4 &&& (x2 ^^^ (-1)))).bind fun s1 => (ld 40 (s1 (a + 9)) x3).bind fun v3 => if v3 = 0 then (some ((-1), s1)) else ((ld 40 (s1 (a + 9)) x3).bind fun v6 => k45 (x1 ||| v6) x2 (x3 + 1) s1)
set_option maxRecDepth 4000 in
set_option maxHeartbeats 1000000 in
theorem X12_mays_b115_ok {K : Kt} {X : Cx} {D : Nat} {τ : Tau} {nx : Nat} {a : Nat} {res : Int32} {rsg : Sig}  (hD : 2 ≤ D) (hF : Fx K X cX12_mays 5 RX12 D 0 0) (hS : ShX12 τ a) (hE : En K X (some .int) 0 0 (some (.int res)) (τ, rsg, nx)) {k45 : Int32 → Int32 → Int32 → Sig → Option (Int32 × Sig)} (hk45 : ∀ (x1 x2 x3 : Int32) (σ : Sig), k45 x1 x2 x3 σ = some (res, rsg) → G K X 5 0 0 45 [some (.ref a), some (.int x1), some (.int x2), some (.int x3), none] [] (τ, σ, nx)) {x1 x2 x3 x4 : Int32} {σ : Sig} (H : X12_mays_b115 a k45 x1 x2 x3 x4 σ = some (res, rsg)) : G K X 5 0 0 115 [some (.ref a), some (.int x1), some (.int x2), some (.int x3), some (.int x4)] [] (τ, σ, nx) := by
  refine g_p (S' := [.ref a]) hF tX12_mays_ok 74 1 rfl rfl rfl rfl ?_
  refine g_getR hF (dAt tX12_mays_ok 75 rfl rfl) flX12_38 hS.1 rfl ?_
  refine g_p (S' := [.int (x4 &&& (x2 ^^^ (-1))), .int x3, .ref (a + 9)]) hF tX12_mays_ok 76 6 rfl rfl rfl rfl ?_
  obtain ⟨s1, e2, H⟩ := ob H
  refine g_ist hF (dAt tX12_mays_ok 82 rfl rfl) hS.2.2.2.2.2.2.2.2.2.1 e2 ?_
  refine g_p (S' := [.ref a]) hF tX12_mays_ok 83 1 rfl rfl rfl rfl ?_
  refine g_getR hF (dAt tX12_mays_ok 84 rfl rfl) flX12_38 hS.1 rfl ?_
  refine g_p (S' := [.int x3, .ref (a + 9)]) hF tX12_mays_ok 85 1 rfl rfl rfl rfl ?_
  obtain ⟨v3, e4, H⟩ := ob H
  refine g_ild hF (dAt tX12_mays_ok 86 rfl rfl) hS.2.2.2.2.2.2.2.2.2.1 e4 ?_
  obtain ⟨Ht5, Hf5⟩ := oi H
  refine g_if_ne hF (dAt tX12_mays_ok 87 rfl rfl) rfl (fun c5 => ?_) (fun c5 => ?_)
  · have H := Hf5 c5
    refine g_p (S' := [.ref a, .int x1]) hF tX12_mays_ok 90 2 rfl rfl rfl rfl ?_
    refine g_getR hF (dAt tX12_mays_ok 92 rfl rfl) flX12_38 hS.1 rfl ?_
    refine g_p (S' := [.int x3, .ref (a + 9), .int x1]) hF tX12_mays_ok 93 1 rfl rfl rfl rfl ?_
    obtain ⟨v6, e7, H⟩ := ob H
    refine g_ild hF (dAt tX12_mays_ok 94 rfl rfl) hS.2.2.2.2.2.2.2.2.2.1 e7 ?_
    refine g_p (L' := [some (.ref a), some (.int (x1 ||| v6)), some (.int x2), some (.int (x3 + 1)), some (.int x4)]) (S' := []) hF tX12_mays_ok 95 3 rfl rfl rfl rfl ?_
    refine g_goto hF (dAt tX12_mays_ok 98 rfl rfl) rfl ?_
    refine g_m [true, true, true, true, false] rfl ?_
    exact hk45 _ _ _ _ H
  · have H := Ht5 c5
    refine g_p (S' := [.int (-1)]) hF tX12_mays_ok 88 1 rfl rfl rfl rfl ?_
    exact g_iret hF (en_p H hE) (dAt tX12_mays_ok 89 rfl rfl) (by decide) (by decide)
def X12_mays_b45 (a : Nat) : Nat → Int32 → Int32 → Int32 → Sig → Option (Int32 × Sig)
  | 0, _, _, _, _ => none
  | fu + 1, x1, x2, x3, σ => (ld 20240 (σ (a + 1)) 10).bind fun v1 => if v1 ≤ x3 then (some (x1, σ)) else ((st 40 σ (a + 9) x3 0).bind fun s4 => (X12_debtOf_f a x3 2 s4).bind fun v6 => if v6 = 0 then (X12_mays_b45 a fu x1 x2 (x3 + 1) s4) else ((X12_debtOf_f a x3 5 s4).bind fun v9 => (X12_debtOf_f a x3 0 s4).bind fun v11 => (X12_debtOf_f a x3 4 s4).bind fun v13 => if v13 = (-1) then (X12_mays_b115 a (X12_mays_b45 a fu) x1 x2 x3 (v9 ||| (1 <<< (v11 &&& 31))) s4) else ((X12_debtOf_f a x3 4 s4).bind fun v16 => X12_mays_b115 a (X12_mays_b45 a fu) x1 x2 x3 ((v9 ||| (1 <<< (v11 &&& 31))) ||| (1 <<< (v16 &&& 31))) s4)))
set_option maxRecDepth 4000 in
set_option maxHeartbeats 1000000 in
theorem X12_mays_b45_ok {K : Kt} {X : Cx} {D : Nat} {τ : Tau} {nx : Nat} {a : Nat} {res : Int32} {rsg : Sig}  (hD : 2 ≤ D) (hF : Fx K X cX12_mays 5 RX12 D 0 0) (hS : ShX12 τ a) (hE : En K X (some .int) 0 0 (some (.int res)) (τ, rsg, nx)) : ∀ (fu : Nat) (x1 x2 x3 : Int32) (σ : Sig), X12_mays_b45 a fu x1 x2 x3 σ = some (res, rsg) → G K X 5 0 0 45 [some (.ref a), some (.int x1), some (.int x2), some (.int x3), none] [] (τ, σ, nx)
  | 0, _, _, _, _, H => nomatch H
  | fu + 1, x1, x2, x3, σ, H => by
    refine g_p (S' := [.ref a, .int x3]) hF tX12_mays_ok 30 2 rfl rfl rfl rfl ?_
    refine g_getR hF (dAt tX12_mays_ok 32 rfl rfl) flX12_7 hS.1 rfl ?_
    refine g_p (S' := [.int 10, .ref (a + 1), .int x3]) hF tX12_mays_ok 33 1 rfl rfl rfl rfl ?_
    obtain ⟨v1, e2, H⟩ := ob H
    refine g_ild hF (dAt tX12_mays_ok 34 rfl rfl) hS.2.1 e2 ?_
    obtain ⟨Ht3, Hf3⟩ := oi H
    refine g_icmp_ge hF (dAt tX12_mays_ok 35 rfl rfl) rfl (fun c3 => ?_) (fun c3 => ?_)
    · have H := Ht3 c3
      refine g_p (S' := [.int x1]) hF tX12_mays_ok 99 1 rfl rfl rfl rfl ?_
      exact g_iret hF (en_p H hE) (dAt tX12_mays_ok 100 rfl rfl) (by decide) (by decide)
    · have H := Hf3 c3
      refine g_p (S' := [.ref a]) hF tX12_mays_ok 36 1 rfl rfl rfl rfl ?_
      refine g_getR hF (dAt tX12_mays_ok 37 rfl rfl) flX12_38 hS.1 rfl ?_
      refine g_p (S' := [.int 0, .int x3, .ref (a + 9)]) hF tX12_mays_ok 38 2 rfl rfl rfl rfl ?_
      obtain ⟨s4, e5, H⟩ := ob H
      refine g_ist hF (dAt tX12_mays_ok 40 rfl rfl) hS.2.2.2.2.2.2.2.2.2.1 e5 ?_
      refine g_p (S' := [.int 2, .int x3, .ref a]) hF tX12_mays_ok 41 3 rfl rfl rfl rfl ?_
      obtain ⟨v6, e7, H⟩ := ob H
      refine g_cV (S := []) hF (X12_debtOf_ok (Nat.le_refl _) hS e7 K) mbX12_debtOf mvX12_debtOf mlX12_76 (by omega) (by decide) (dAt tX12_mays_ok 44 rfl rfl) hS.1 rfl rfl rfl (Nat.le_of_ble_eq_true rfl) rfl rfl (by decide) (by decide) rfl ?_
      obtain ⟨Ht8, Hf8⟩ := oi H
      refine g_if_ne hF (dAt tX12_mays_ok 45 rfl rfl) rfl (fun c8 => ?_) (fun c8 => ?_)
      · have H := Hf8 c8
        refine g_p (S' := [.int 5, .int x3, .ref a]) hF tX12_mays_ok 47 3 rfl rfl rfl rfl ?_
        obtain ⟨v9, e10, H⟩ := ob H
        refine g_cV (S := []) hF (X12_debtOf_ok (Nat.le_refl _) hS e10 K) mbX12_debtOf mvX12_debtOf mlX12_76 (by omega) (by decide) (dAt tX12_mays_ok 50 rfl rfl) hS.1 rfl rfl rfl (Nat.le_of_ble_eq_true rfl) rfl rfl (by decide) (by decide) rfl ?_
        refine g_p (S' := [.int 0, .int x3, .ref a, .int 1, .int v9]) hF tX12_mays_ok 51 4 rfl rfl rfl rfl ?_
        obtain ⟨v11, e12, H⟩ := ob H
        refine g_cV (S := [.int 1, .int v9]) hF (X12_debtOf_ok (Nat.le_refl _) hS e12 K) mbX12_debtOf mvX12_debtOf mlX12_76 (by omega) (by decide) (dAt tX12_mays_ok 55 rfl rfl) hS.1 rfl rfl rfl (Nat.le_of_ble_eq_true rfl) rfl rfl (by decide) (by decide) rfl ?_
        refine g_p (L' := [some (.ref a), some (.int x1), some (.int x2), some (.int x3), some (.int (v9 ||| (1 <<< (v11 &&& 31))))]) (S' := [.int 4, .int x3, .ref a]) hF tX12_mays_ok 56 6 rfl rfl rfl rfl ?_
        obtain ⟨v13, e14, H⟩ := ob H
        refine g_cV (S := []) hF (X12_debtOf_ok (Nat.le_refl _) hS e14 K) mbX12_debtOf mvX12_debtOf mlX12_76 (by omega) (by decide) (dAt tX12_mays_ok 62 rfl rfl) hS.1 rfl rfl rfl (Nat.le_of_ble_eq_true rfl) rfl rfl (by decide) (by decide) rfl ?_
        refine g_p (S' := [.int (-1), .int v13]) hF tX12_mays_ok 63 1 rfl rfl rfl rfl ?_
        obtain ⟨Ht15, Hf15⟩ := oi H
        refine g_icmp_eq hF (dAt tX12_mays_ok 64 rfl rfl) rfl (fun c15 => ?_) (fun c15 => ?_)
        · have H := Ht15 c15
          exact X12_mays_b115_ok hD hF hS hE (fun _ _ _ _ H => X12_mays_b45_ok hD hF hS hE fu _ _ _ _ H) H
        · have H := Hf15 c15
          refine g_p (S' := [.int 4, .int x3, .ref a, .int 1, .int (v9 ||| (1 <<< (v11 &&& 31)))]) hF tX12_mays_ok 65 5 rfl rfl rfl rfl ?_
          obtain ⟨v16, e17, H⟩ := ob H
          refine g_cV (S := [.int 1, .int (v9 ||| (1 <<< (v11 &&& 31)))]) hF (X12_debtOf_ok (Nat.le_refl _) hS e17 K) mbX12_debtOf mvX12_debtOf mlX12_76 (by omega) (by decide) (dAt tX12_mays_ok 70 rfl rfl) hS.1 rfl rfl rfl (Nat.le_of_ble_eq_true rfl) rfl rfl (by decide) (by decide) rfl ?_
          refine g_p (L' := [some (.ref a), some (.int x1), some (.int x2), some (.int x3), some (.int ((v9 ||| (1 <<< (v11 &&& 31))) ||| (1 <<< (v16 &&& 31))))]) (S' := []) hF tX12_mays_ok 71 3 rfl rfl rfl rfl ?_
          exact X12_mays_b115_ok hD hF hS hE (fun _ _ _ _ H => X12_mays_b45_ok hD hF hS hE fu _ _ _ _ H) H
      · have H := Ht8 c8
        refine g_goto hF (dAt tX12_mays_ok 46 rfl rfl) rfl ?_
        refine g_p (L' := [some (.ref a), some (.int x1), some (.int x2), some (.int (x3 + 1)), none]) (S' := []) hF tX12_mays_ok 97 1 rfl rfl rfl rfl ?_
        refine g_goto hF (dAt tX12_mays_ok 98 rfl rfl) rfl ?_
        exact X12_mays_b45_ok hD hF hS hE fu _ _ _ _ H
def X12_mays_b6 (a : Nat) : Nat → Int32 → Int32 → Int32 → Sig → Option (Int32 × Sig)
  | 0, _, _, _, _ => none
  | fu + 1, x1, x2, x3, σ => (ld 20240 (σ (a + 1)) 9).bind fun v1 => if v1 ≤ x3 then (X12_mays_b45 a FU x1 x2 0 σ) else ((X12_own_f a x3 0 σ).bind fun v4 => if v4 = 1 then (X12_mays_b6 a fu x1 (x2 ||| (1 <<< (x3 &&& 31))) (x3 + 1) σ) else (X12_mays_b6 a fu x1 (x2 ||| 0) (x3 + 1) σ))
set_option maxRecDepth 4000 in
set_option maxHeartbeats 1000000 in
theorem X12_mays_b6_ok {K : Kt} {X : Cx} {D : Nat} {τ : Tau} {nx : Nat} {a : Nat} {res : Int32} {rsg : Sig}  (hD : 2 ≤ D) (hF : Fx K X cX12_mays 5 RX12 D 0 0) (hS : ShX12 τ a) (hE : En K X (some .int) 0 0 (some (.int res)) (τ, rsg, nx)) : ∀ (fu : Nat) (x1 x2 x3 : Int32) (σ : Sig), X12_mays_b6 a fu x1 x2 x3 σ = some (res, rsg) → G K X 5 0 0 6 [some (.ref a), some (.int x1), some (.int x2), some (.int x3), none] [] (τ, σ, nx)
  | 0, _, _, _, _, H => nomatch H
  | fu + 1, x1, x2, x3, σ, H => by
    refine g_p (S' := [.ref a, .int x3]) hF tX12_mays_ok 6 2 rfl rfl rfl rfl ?_
    refine g_getR hF (dAt tX12_mays_ok 8 rfl rfl) flX12_7 hS.1 rfl ?_
    refine g_p (S' := [.int 9, .ref (a + 1), .int x3]) hF tX12_mays_ok 9 1 rfl rfl rfl rfl ?_
    obtain ⟨v1, e2, H⟩ := ob H
    refine g_ild hF (dAt tX12_mays_ok 10 rfl rfl) hS.2.1 e2 ?_
    obtain ⟨Ht3, Hf3⟩ := oi H
    refine g_icmp_ge hF (dAt tX12_mays_ok 11 rfl rfl) rfl (fun c3 => ?_) (fun c3 => ?_)
    · have H := Ht3 c3
      refine g_p (L' := [some (.ref a), some (.int x1), some (.int x2), some (.int 0), none]) (S' := []) hF tX12_mays_ok 28 2 rfl rfl rfl rfl ?_
      exact X12_mays_b45_ok hD hF hS hE FU _ _ _ _ H
    · have H := Hf3 c3
      refine g_p (S' := [.int 0, .int x3, .ref a, .int x2]) hF tX12_mays_ok 12 4 rfl rfl rfl rfl ?_
      obtain ⟨v4, e5, H⟩ := ob H
      refine g_cV (S := [.int x2]) hF (X12_own_ok (Nat.le_refl _) hS e5 K) mbX12_own mvX12_own mlX12_65 (by omega) (by decide) (dAt tX12_mays_ok 16 rfl rfl) hS.1 rfl rfl rfl (Nat.le_of_ble_eq_true rfl) rfl rfl (by decide) (by decide) rfl ?_
      refine g_p (S' := [.int 1, .int v4, .int x2]) hF tX12_mays_ok 17 1 rfl rfl rfl rfl ?_
      obtain ⟨Ht6, Hf6⟩ := oi H
      refine g_icmp_ne hF (dAt tX12_mays_ok 18 rfl rfl) rfl (fun c6 => ?_) (fun c6 => ?_)
      · have H := Hf6 c6
        refine g_p (L' := [some (.ref a), some (.int x1), some (.int (x2 ||| 0)), some (.int (x3 + 1)), none]) (S' := []) hF tX12_mays_ok 23 4 rfl rfl rfl rfl ?_
        refine g_goto hF (dAt tX12_mays_ok 27 rfl rfl) rfl ?_
        exact X12_mays_b6_ok hD hF hS hE fu _ _ _ _ H
      · have H := Ht6 c6
        refine g_p (S' := [.int (1 <<< (x3 &&& 31)), .int x2]) hF tX12_mays_ok 19 3 rfl rfl rfl rfl ?_
        refine g_goto hF (dAt tX12_mays_ok 22 rfl rfl) rfl ?_
        refine g_p (L' := [some (.ref a), some (.int x1), some (.int (x2 ||| (1 <<< (x3 &&& 31)))), some (.int (x3 + 1)), none]) (S' := []) hF tX12_mays_ok 24 3 rfl rfl rfl rfl ?_
        refine g_goto hF (dAt tX12_mays_ok 27 rfl rfl) rfl ?_
        exact X12_mays_b6_ok hD hF hS hE fu _ _ _ _ H
def X12_mays_f (a : Nat) (σ : Sig) : Option (Int32 × Sig) := X12_mays_b6 a FU 0 0 0 σ
set_option maxRecDepth 4000 in
set_option maxHeartbeats 1000000 in
theorem X12_mays_ok {D : Nat} {τ : Tau} {nx : Nat} {a : Nat} {σ : Sig} {res : Int32} {rsg : Sig} (hD : 2 ≤ D) (hS : ShX12 τ a) (H : X12_mays_f a σ = some (res, rsg)) : Ok D 0 0 yX12_mays cX12_mays 5 (some .int) [.ref a] (τ, σ, nx) (some (.int res)) (τ, rsg, nx) := by
  refine ok_of (by decide +kernel) rfl (Nat.le_of_ble_eq_true rfl) (fun K X hF hE hN L0 hL0 => ?_)
  obtain rfl : [some (.ref a), none, none, none, none] = L0 := hL0
  have hF : Fx K X cX12_mays 5 RX12 D 0 0 := hF
  refine g_p (L' := [some (.ref a), some (.int 0), some (.int 0), some (.int 0), none]) (S' := []) hF tX12_mays_ok 0 6 rfl rfl rfl rfl ?_
  exact X12_mays_b6_ok hD hF hS hE FU _ _ _ _ H
def X12_count_b4 (σ : Sig) : Nat → Int32 → Int32 → Int32 → Option (Int32)
  | 0, _, _, _ => none
  | fu + 1, x0, x1, x2 => if 30 ≤ x2 then (some x1) else (X12_count_b4 σ fu x0 (x1 + ((x0 >>> (x2 &&& 31)) &&& 1)) (x2 + 1))
set_option maxRecDepth 4000 in
set_option maxHeartbeats 1000000 in
theorem X12_count_b4_ok {K : Kt} {X : Cx} {D : Nat} {τ : Tau} {nx : Nat} {res : Int32} {σ : Sig}  (hD : 1 ≤ D) (hF : Fx K X cX12_count 3 RX12 D 0 0) (hE : En K X (some .int) 0 0 (some (.int res)) (τ, σ, nx)) : ∀ (fu : Nat) (x0 x1 x2 : Int32), X12_count_b4 σ fu x0 x1 x2 = some res → G K X 3 0 0 4 [some (.int x0), some (.int x1), some (.int x2)] [] (τ, σ, nx)
  | 0, _, _, _, H => nomatch H
  | fu + 1, x0, x1, x2, H => by
    refine g_p (S' := [.int 30, .int x2]) hF tX12_count_ok 4 2 rfl rfl rfl rfl ?_
    obtain ⟨Ht1, Hf1⟩ := oi H
    refine g_icmp_ge hF (dAt tX12_count_ok 6 rfl rfl) rfl (fun c1 => ?_) (fun c1 => ?_)
    · have H := Ht1 c1
      refine g_p (S' := [.int x1]) hF tX12_count_ok 17 1 rfl rfl rfl rfl ?_
      exact g_iret hF (en_i H hE) (dAt tX12_count_ok 18 rfl rfl) (by decide) (by decide)
    · have H := Hf1 c1
      refine g_p (L' := [some (.int x0), some (.int (x1 + ((x0 >>> (x2 &&& 31)) &&& 1))), some (.int (x2 + 1))]) (S' := []) hF tX12_count_ok 7 9 rfl rfl rfl rfl ?_
      refine g_goto hF (dAt tX12_count_ok 16 rfl rfl) rfl ?_
      exact X12_count_b4_ok hD hF hE fu _ _ _ H
def X12_count_f (x0 : Int32) (σ : Sig) : Option (Int32) := X12_count_b4 σ FU x0 0 0
set_option maxRecDepth 4000 in
set_option maxHeartbeats 1000000 in
theorem X12_count_ok {D : Nat} {τ : Tau} {nx : Nat} {x0 : Int32} {σ : Sig} {res : Int32} (hD : 1 ≤ D) (H : X12_count_f x0 σ = some res) : Ok D 0 0 yX12_count cX12_count 3 (some .int) [.int x0] (τ, σ, nx) (some (.int res)) (τ, σ, nx) := by
  refine ok_of (by decide +kernel) rfl (Nat.le_of_ble_eq_true rfl) (fun K X hF hE hN L0 hL0 => ?_)
  obtain rfl : [some (.int x0), none, none] = L0 := hL0
  have hF : Fx K X cX12_count 3 RX12 D 0 0 := hF
  refine g_p (L' := [some (.int x0), some (.int 0), some (.int 0)]) (S' := []) hF tX12_count_ok 0 4 rfl rfl rfl rfl ?_
  exact X12_count_b4_ok hD hF hE FU _ _ _ H
def X12_upwards_f (x0 x1 : Int32) (σ : Sig) : Option (Int32) := if x1 = 0 then none else (some (((x0 + x1) - 1) / x1))
set_option maxRecDepth 4000 in
set_option maxHeartbeats 1000000 in
theorem X12_upwards_ok {D : Nat} {τ : Tau} {nx : Nat} {x0 x1 : Int32} {σ : Sig} {res : Int32} (hD : 1 ≤ D) (H : X12_upwards_f x0 x1 σ = some res) : Ok D 0 0 yX12_upwards cX12_upwards 2 (some .int) [.int x0, .int x1] (τ, σ, nx) (some (.int res)) (τ, σ, nx) := by
  refine ok_of (by decide +kernel) rfl (Nat.le_of_ble_eq_true rfl) (fun K X hF hE hN L0 hL0 => ?_)
  obtain rfl : [some (.int x0), some (.int x1)] = L0 := hL0
  have hF : Fx K X cX12_upwards 2 RX12 D 0 0 := hF
  refine g_p (S' := [.int x1, .int ((x0 + x1) - 1)]) hF tX12_upwards_ok 0 6 rfl rfl rfl rfl ?_
  obtain ⟨z1, H⟩ := on H
  refine g_idiv hF (dAt tX12_upwards_ok 6 rfl rfl) z1 ?_
  exact g_iret hF (en_i H hE) (dAt tX12_upwards_ok 7 rfl rfl) (by decide) (by decide)
def X12_greatest_b4 (a : Nat) (σ : Sig) : Nat → Int32 → Int32 → Option (Int32)
  | 0, _, _ => none
  | fu + 1, x1, x2 => (ld 20240 (σ (a + 1)) 10).bind fun v1 => if v1 ≤ x2 then (some x1) else ((X12_debtOf_f a x2 2 σ).bind fun v4 => if v4 ≤ x1 then (X12_greatest_b4 a σ fu x1 (x2 + 1)) else ((X12_debtOf_f a x2 2 σ).bind fun v7 => X12_greatest_b4 a σ fu v7 (x2 + 1)))
set_option maxRecDepth 4000 in
set_option maxHeartbeats 1000000 in
theorem X12_greatest_b4_ok {K : Kt} {X : Cx} {D : Nat} {τ : Tau} {nx : Nat} {a : Nat} {res : Int32} {σ : Sig}  (hD : 2 ≤ D) (hF : Fx K X cX12_greatest 3 RX12 D 0 0) (hS : ShX12 τ a) (hE : En K X (some .int) 0 0 (some (.int res)) (τ, σ, nx)) : ∀ (fu : Nat) (x1 x2 : Int32), X12_greatest_b4 a σ fu x1 x2 = some res → G K X 3 0 0 4 [some (.ref a), some (.int x1), some (.int x2)] [] (τ, σ, nx)
  | 0, _, _, H => nomatch H
  | fu + 1, x1, x2, H => by
    refine g_p (S' := [.ref a, .int x2]) hF tX12_greatest_ok 4 2 rfl rfl rfl rfl ?_
    refine g_getR hF (dAt tX12_greatest_ok 6 rfl rfl) flX12_7 hS.1 rfl ?_
    refine g_p (S' := [.int 10, .ref (a + 1), .int x2]) hF tX12_greatest_ok 7 1 rfl rfl rfl rfl ?_
    obtain ⟨v1, e2, H⟩ := ob H
    refine g_ild hF (dAt tX12_greatest_ok 8 rfl rfl) hS.2.1 e2 ?_
    obtain ⟨Ht3, Hf3⟩ := oi H
    refine g_icmp_ge hF (dAt tX12_greatest_ok 9 rfl rfl) rfl (fun c3 => ?_) (fun c3 => ?_)
    · have H := Ht3 c3
      refine g_p (S' := [.int x1]) hF tX12_greatest_ok 25 1 rfl rfl rfl rfl ?_
      exact g_iret hF (en_i H hE) (dAt tX12_greatest_ok 26 rfl rfl) (by decide) (by decide)
    · have H := Hf3 c3
      refine g_p (S' := [.int 2, .int x2, .ref a]) hF tX12_greatest_ok 10 3 rfl rfl rfl rfl ?_
      obtain ⟨v4, e5, H⟩ := ob H
      refine g_cV (S := []) hF (X12_debtOf_ok (Nat.le_refl _) hS e5 K) mbX12_debtOf mvX12_debtOf mlX12_76 (by omega) (by decide) (dAt tX12_greatest_ok 13 rfl rfl) hS.1 rfl rfl rfl (Nat.le_of_ble_eq_true rfl) rfl rfl (by decide) (by decide) rfl ?_
      refine g_p (S' := [.int x1, .int v4]) hF tX12_greatest_ok 14 1 rfl rfl rfl rfl ?_
      obtain ⟨Ht6, Hf6⟩ := oi H
      refine g_icmp_le hF (dAt tX12_greatest_ok 15 rfl rfl) rfl (fun c6 => ?_) (fun c6 => ?_)
      · have H := Ht6 c6
        refine g_p (L' := [some (.ref a), some (.int x1), some (.int (x2 + 1))]) (S' := []) hF tX12_greatest_ok 21 3 rfl rfl rfl rfl ?_
        refine g_goto hF (dAt tX12_greatest_ok 24 rfl rfl) rfl ?_
        exact X12_greatest_b4_ok hD hF hS hE fu _ _ H
      · have H := Hf6 c6
        refine g_p (S' := [.int 2, .int x2, .ref a]) hF tX12_greatest_ok 16 3 rfl rfl rfl rfl ?_
        obtain ⟨v7, e8, H⟩ := ob H
        refine g_cV (S := []) hF (X12_debtOf_ok (Nat.le_refl _) hS e8 K) mbX12_debtOf mvX12_debtOf mlX12_76 (by omega) (by decide) (dAt tX12_greatest_ok 19 rfl rfl) hS.1 rfl rfl rfl (Nat.le_of_ble_eq_true rfl) rfl rfl (by decide) (by decide) rfl ?_
        refine g_goto hF (dAt tX12_greatest_ok 20 rfl rfl) rfl ?_
        refine g_p (L' := [some (.ref a), some (.int v7), some (.int (x2 + 1))]) (S' := []) hF tX12_greatest_ok 22 2 rfl rfl rfl rfl ?_
        refine g_goto hF (dAt tX12_greatest_ok 24 rfl rfl) rfl ?_
        exact X12_greatest_b4_ok hD hF hS hE fu _ _ H
def X12_greatest_f (a : Nat) (σ : Sig) : Option (Int32) := X12_greatest_b4 a σ FU 0 0
set_option maxRecDepth 4000 in
set_option maxHeartbeats 1000000 in
theorem X12_greatest_ok {D : Nat} {τ : Tau} {nx : Nat} {a : Nat} {σ : Sig} {res : Int32} (hD : 2 ≤ D) (hS : ShX12 τ a) (H : X12_greatest_f a σ = some res) : Ok D 0 0 yX12_greatest cX12_greatest 3 (some .int) [.ref a] (τ, σ, nx) (some (.int res)) (τ, σ, nx) := by
  refine ok_of (by decide +kernel) rfl (Nat.le_of_ble_eq_true rfl) (fun K X hF hE hN L0 hL0 => ?_)
  obtain rfl : [some (.ref a), none, none] = L0 := hL0
  have hF : Fx K X cX12_greatest 3 RX12 D 0 0 := hF
  refine g_p (L' := [some (.ref a), some (.int 0), some (.int 0)]) (S' := []) hF tX12_greatest_ok 0 4 rfl rfl rfl rfl ?_
  exact X12_greatest_b4_ok hD hF hS hE FU _ _ H
def X12_within_b4 (a : Nat) (σ : Sig) : Nat → Int32 → Int32 → Int32 → Option (Int32)
  | 0, _, _, _ => none
  | fu + 1, x1, x2, x3 => (ld 20240 (σ (a + 1)) 10).bind fun v1 => if v1 ≤ x3 then (some x2) else ((X12_debtOf_f a x3 2 σ).bind fun v4 => if v4 ≤ 0 then (X12_within_b4 a σ fu x1 (x2 + 0) (x3 + 1)) else ((ld 40 (σ (a + 9)) x3).bind fun v7 => if (v7 &&& (x1 ^^^ (-1))) = 0 then ((X12_debtOf_f a x3 2 σ).bind fun v10 => X12_within_b4 a σ fu x1 (x2 + v10) (x3 + 1)) else (X12_within_b4 a σ fu x1 (x2 + 0) (x3 + 1))))
set_option maxRecDepth 4000 in
set_option maxHeartbeats 1000000 in
theorem X12_within_b4_ok {K : Kt} {X : Cx} {D : Nat} {τ : Tau} {nx : Nat} {a : Nat} {res : Int32} {σ : Sig}  (hD : 2 ≤ D) (hF : Fx K X cX12_within 4 RX12 D 0 0) (hS : ShX12 τ a) (hE : En K X (some .int) 0 0 (some (.int res)) (τ, σ, nx)) : ∀ (fu : Nat) (x1 x2 x3 : Int32), X12_within_b4 a σ fu x1 x2 x3 = some res → G K X 4 0 0 4 [some (.ref a), some (.int x1), some (.int x2), some (.int x3)] [] (τ, σ, nx)
  | 0, _, _, _, H => nomatch H
  | fu + 1, x1, x2, x3, H => by
    refine g_p (S' := [.ref a, .int x3]) hF tX12_within_ok 4 2 rfl rfl rfl rfl ?_
    refine g_getR hF (dAt tX12_within_ok 6 rfl rfl) flX12_7 hS.1 rfl ?_
    refine g_p (S' := [.int 10, .ref (a + 1), .int x3]) hF tX12_within_ok 7 1 rfl rfl rfl rfl ?_
    obtain ⟨v1, e2, H⟩ := ob H
    refine g_ild hF (dAt tX12_within_ok 8 rfl rfl) hS.2.1 e2 ?_
    obtain ⟨Ht3, Hf3⟩ := oi H
    refine g_icmp_ge hF (dAt tX12_within_ok 9 rfl rfl) rfl (fun c3 => ?_) (fun c3 => ?_)
    · have H := Ht3 c3
      refine g_p (S' := [.int x2]) hF tX12_within_ok 35 1 rfl rfl rfl rfl ?_
      exact g_iret hF (en_i H hE) (dAt tX12_within_ok 36 rfl rfl) (by decide) (by decide)
    · have H := Hf3 c3
      refine g_p (S' := [.int 2, .int x3, .ref a, .int x2]) hF tX12_within_ok 10 4 rfl rfl rfl rfl ?_
      obtain ⟨v4, e5, H⟩ := ob H
      refine g_cV (S := [.int x2]) hF (X12_debtOf_ok (Nat.le_refl _) hS e5 K) mbX12_debtOf mvX12_debtOf mlX12_76 (by omega) (by decide) (dAt tX12_within_ok 14 rfl rfl) hS.1 rfl rfl rfl (Nat.le_of_ble_eq_true rfl) rfl rfl (by decide) (by decide) rfl ?_
      obtain ⟨Ht6, Hf6⟩ := oi H
      refine g_if_le hF (dAt tX12_within_ok 15 rfl rfl) rfl (fun c6 => ?_) (fun c6 => ?_)
      · have H := Ht6 c6
        refine g_p (L' := [some (.ref a), some (.int x1), some (.int (x2 + 0)), some (.int (x3 + 1))]) (S' := []) hF tX12_within_ok 30 4 rfl rfl rfl rfl ?_
        refine g_goto hF (dAt tX12_within_ok 34 rfl rfl) rfl ?_
        exact X12_within_b4_ok hD hF hS hE fu _ _ _ H
      · have H := Hf6 c6
        refine g_p (S' := [.ref a, .int x2]) hF tX12_within_ok 16 1 rfl rfl rfl rfl ?_
        refine g_getR hF (dAt tX12_within_ok 17 rfl rfl) flX12_38 hS.1 rfl ?_
        refine g_p (S' := [.int x3, .ref (a + 9), .int x2]) hF tX12_within_ok 18 1 rfl rfl rfl rfl ?_
        obtain ⟨v7, e8, H⟩ := ob H
        refine g_ild hF (dAt tX12_within_ok 19 rfl rfl) hS.2.2.2.2.2.2.2.2.2.1 e8 ?_
        refine g_p (S' := [.int (v7 &&& (x1 ^^^ (-1))), .int x2]) hF tX12_within_ok 20 4 rfl rfl rfl rfl ?_
        obtain ⟨Ht9, Hf9⟩ := oi H
        refine g_if_ne hF (dAt tX12_within_ok 24 rfl rfl) rfl (fun c9 => ?_) (fun c9 => ?_)
        · have H := Hf9 c9
          refine g_p (L' := [some (.ref a), some (.int x1), some (.int (x2 + 0)), some (.int (x3 + 1))]) (S' := []) hF tX12_within_ok 30 4 rfl rfl rfl rfl ?_
          refine g_goto hF (dAt tX12_within_ok 34 rfl rfl) rfl ?_
          exact X12_within_b4_ok hD hF hS hE fu _ _ _ H
        · have H := Ht9 c9
          refine g_p (S' := [.int 2, .int x3, .ref a, .int x2]) hF tX12_within_ok 25 3 rfl rfl rfl rfl ?_
          obtain ⟨v10, e11, H⟩ := ob H
          refine g_cV (S := [.int x2]) hF (X12_debtOf_ok (Nat.le_refl _) hS e11 K) mbX12_debtOf mvX12_debtOf mlX12_76 (by omega) (by decide) (dAt tX12_within_ok 28 rfl rfl) hS.1 rfl rfl rfl (Nat.le_of_ble_eq_true rfl) rfl rfl (by decide) (by decide) rfl ?_
          refine g_goto hF (dAt tX12_within_ok 29 rfl rfl) rfl ?_
          refine g_p (L' := [some (.ref a), some (.int x1), some (.int (x2 + v10)), some (.int (x3 + 1))]) (S' := []) hF tX12_within_ok 31 3 rfl rfl rfl rfl ?_
          refine g_goto hF (dAt tX12_within_ok 34 rfl rfl) rfl ?_
          exact X12_within_b4_ok hD hF hS hE fu _ _ _ H
def X12_within_f (a : Nat) (x1 : Int32) (σ : Sig) : Option (Int32) := X12_within_b4 a σ FU x1 0 0
set_option maxRecDepth 4000 in
set_option maxHeartbeats 1000000 in
theorem X12_within_ok {D : Nat} {τ : Tau} {nx : Nat} {a : Nat} {x1 : Int32} {σ : Sig} {res : Int32} (hD : 2 ≤ D) (hS : ShX12 τ a) (H : X12_within_f a x1 σ = some res) : Ok D 0 0 yX12_within cX12_within 4 (some .int) [.ref a, .int x1] (τ, σ, nx) (some (.int res)) (τ, σ, nx) := by
  refine ok_of (by decide +kernel) rfl (Nat.le_of_ble_eq_true rfl) (fun K X hF hE hN L0 hL0 => ?_)
  obtain rfl : [some (.ref a), some (.int x1), none, none] = L0 := hL0
  have hF : Fx K X cX12_within 4 RX12 D 0 0 := hF
  refine g_p (L' := [some (.ref a), some (.int x1), some (.int 0), some (.int 0)]) (S' := []) hF tX12_within_ok 0 4 rfl rfl rfl rfl ?_
  exact X12_within_b4_ok hD hF hS hE FU _ _ _ H
def X12_alone_b4 (a : Nat) (σ : Sig) : Nat → Int32 → Int32 → Option (Int32)
  | 0, _, _ => none
  | fu + 1, x1, x2 => (ld 20240 (σ (a + 1)) 9).bind fun v1 => if v1 ≤ x2 then (some x1) else ((X12_left_f a x2 2 σ).bind fun v4 => if v4 ≤ x1 then (X12_alone_b4 a σ fu x1 (x2 + 1)) else ((X12_left_f a x2 2 σ).bind fun v7 => X12_alone_b4 a σ fu v7 (x2 + 1)))
set_option maxRecDepth 4000 in
set_option maxHeartbeats 1000000 in
theorem X12_alone_b4_ok {K : Kt} {X : Cx} {D : Nat} {τ : Tau} {nx : Nat} {a : Nat} {res : Int32} {σ : Sig}  (hD : 4 ≤ D) (hF : Fx K X cX12_alone 3 RX12 D 0 0) (hS : ShX12 τ a) (hE : En K X (some .int) 0 0 (some (.int res)) (τ, σ, nx)) : ∀ (fu : Nat) (x1 x2 : Int32), X12_alone_b4 a σ fu x1 x2 = some res → G K X 3 0 0 4 [some (.ref a), some (.int x1), some (.int x2)] [] (τ, σ, nx)
  | 0, _, _, H => nomatch H
  | fu + 1, x1, x2, H => by
    refine g_p (S' := [.ref a, .int x2]) hF tX12_alone_ok 4 2 rfl rfl rfl rfl ?_
    refine g_getR hF (dAt tX12_alone_ok 6 rfl rfl) flX12_7 hS.1 rfl ?_
    refine g_p (S' := [.int 9, .ref (a + 1), .int x2]) hF tX12_alone_ok 7 1 rfl rfl rfl rfl ?_
    obtain ⟨v1, e2, H⟩ := ob H
    refine g_ild hF (dAt tX12_alone_ok 8 rfl rfl) hS.2.1 e2 ?_
    obtain ⟨Ht3, Hf3⟩ := oi H
    refine g_icmp_ge hF (dAt tX12_alone_ok 9 rfl rfl) rfl (fun c3 => ?_) (fun c3 => ?_)
    · have H := Ht3 c3
      refine g_p (S' := [.int x1]) hF tX12_alone_ok 25 1 rfl rfl rfl rfl ?_
      exact g_iret hF (en_i H hE) (dAt tX12_alone_ok 26 rfl rfl) (by decide) (by decide)
    · have H := Hf3 c3
      refine g_p (S' := [.int 2, .int x2, .ref a]) hF tX12_alone_ok 10 3 rfl rfl rfl rfl ?_
      obtain ⟨v4, e5, H⟩ := ob H
      refine g_cV (S := []) hF (X12_left_ok (Nat.le_refl _) hS e5 K) mbX12_left mvX12_left mlX12_254 (by omega) (by decide) (dAt tX12_alone_ok 13 rfl rfl) hS.1 rfl rfl rfl (Nat.le_of_ble_eq_true rfl) rfl rfl (by decide) (by decide) rfl ?_
      refine g_p (S' := [.int x1, .int v4]) hF tX12_alone_ok 14 1 rfl rfl rfl rfl ?_
      obtain ⟨Ht6, Hf6⟩ := oi H
      refine g_icmp_le hF (dAt tX12_alone_ok 15 rfl rfl) rfl (fun c6 => ?_) (fun c6 => ?_)
      · have H := Ht6 c6
        refine g_p (L' := [some (.ref a), some (.int x1), some (.int (x2 + 1))]) (S' := []) hF tX12_alone_ok 21 3 rfl rfl rfl rfl ?_
        refine g_goto hF (dAt tX12_alone_ok 24 rfl rfl) rfl ?_
        exact X12_alone_b4_ok hD hF hS hE fu _ _ H
      · have H := Hf6 c6
        refine g_p (S' := [.int 2, .int x2, .ref a]) hF tX12_alone_ok 16 3 rfl rfl rfl rfl ?_
        obtain ⟨v7, e8, H⟩ := ob H
        refine g_cV (S := []) hF (X12_left_ok (Nat.le_refl _) hS e8 K) mbX12_left mvX12_left mlX12_254 (by omega) (by decide) (dAt tX12_alone_ok 19 rfl rfl) hS.1 rfl rfl rfl (Nat.le_of_ble_eq_true rfl) rfl rfl (by decide) (by decide) rfl ?_
        refine g_goto hF (dAt tX12_alone_ok 20 rfl rfl) rfl ?_
        refine g_p (L' := [some (.ref a), some (.int v7), some (.int (x2 + 1))]) (S' := []) hF tX12_alone_ok 22 2 rfl rfl rfl rfl ?_
        refine g_goto hF (dAt tX12_alone_ok 24 rfl rfl) rfl ?_
        exact X12_alone_b4_ok hD hF hS hE fu _ _ H
def X12_alone_f (a : Nat) (σ : Sig) : Option (Int32) := X12_alone_b4 a σ FU 0 0
set_option maxRecDepth 4000 in
set_option maxHeartbeats 1000000 in
theorem X12_alone_ok {D : Nat} {τ : Tau} {nx : Nat} {a : Nat} {σ : Sig} {res : Int32} (hD : 4 ≤ D) (hS : ShX12 τ a) (H : X12_alone_f a σ = some res) : Ok D 0 0 yX12_alone cX12_alone 3 (some .int) [.ref a] (τ, σ, nx) (some (.int res)) (τ, σ, nx) := by
  refine ok_of (by decide +kernel) rfl (Nat.le_of_ble_eq_true rfl) (fun K X hF hE hN L0 hL0 => ?_)
  obtain rfl : [some (.ref a), none, none] = L0 := hL0
  have hF : Fx K X cX12_alone 3 RX12 D 0 0 := hF
  refine g_p (L' := [some (.ref a), some (.int 0), some (.int 0)]) (S' := []) hF tX12_alone_ok 0 4 rfl rfl rfl rfl ?_
  exact X12_alone_b4_ok hD hF hS hE FU _ _ H
def X12_soonest_b79 (a : Nat) (k50 : Int32 → Int32 → Int32 → Int32 → Sig → Option (Int32 × Sig)) (x1 x2 x3 x4 : Int32) (σ : Sig) : Option (Int32 × Sig) := (X12_within_f a x4 σ).bind fun v1 => (X12_count_f x4 σ).bind fun v3 => (X12_upwards_f v1 v3 σ).bind fun v5 => if v5 ≤ x3 then (k50 x1 x2 x3 (x4 + 1) σ) else (k50 x1 x2 v5 (x4 + 1) σ)
set_option maxRecDepth 4000 in
set_option maxHeartbeats 1000000 in
theorem X12_soonest_b79_ok {K : Kt} {X : Cx} {D : Nat} {τ : Tau} {nx : Nat} {a : Nat} {res : Int32} {rsg : Sig}  (hD : 5 ≤ D) (hF : Fx K X cX12_soonest 6 RX12 D 0 0) (hS : ShX12 τ a) (hE : En K X (some .int) 0 0 (some (.int res)) (τ, rsg, nx)) {k50 : Int32 → Int32 → Int32 → Int32 → Sig → Option (Int32 × Sig)} (hk50 : ∀ (x1 x2 x3 x4 : Int32) (σ : Sig), k50 x1 x2 x3 x4 σ = some (res, rsg) → G K X 6 0 0 50 [some (.ref a), some (.int x1), some (.int x2), some (.int x3), some (.int x4), none] [] (τ, σ, nx)) {x1 x2 x3 x4 : Int32} {σ : Sig} (H : X12_soonest_b79 a k50 x1 x2 x3 x4 σ = some (res, rsg)) : G K X 6 0 0 79 [some (.ref a), some (.int x1), some (.int x2), some (.int x3), some (.int x4), none] [] (τ, σ, nx) := by
  refine g_p (S' := [.int x4, .ref a]) hF tX12_soonest_ok 47 2 rfl rfl rfl rfl ?_
  obtain ⟨v1, e2, H⟩ := ob H
  refine g_cV (S := []) hF (X12_within_ok (Nat.le_refl _) hS e2 K) mbX12_within mvX12_within mlX12_317 (by omega) (by decide) (dAt tX12_soonest_ok 49 rfl rfl) hS.1 rfl rfl rfl (Nat.le_of_ble_eq_true rfl) rfl rfl (by decide) (by decide) rfl ?_
  refine g_p (S' := [.int x4, .int v1]) hF tX12_soonest_ok 50 1 rfl rfl rfl rfl ?_
  obtain ⟨v3, e4, H⟩ := ob H
  refine g_cS (S := [.int v1]) hF (X12_count_ok (Nat.le_refl _)  e4 K) mbX12_count msX12_count mlX12_320 (by omega) (by decide) (dAt tX12_soonest_ok 51 rfl rfl) rfl rfl (Nat.le_of_ble_eq_true rfl) rfl rfl (by decide) (by decide) rfl ?_
  obtain ⟨v5, e6, H⟩ := ob H
  refine g_cS (S := []) hF (X12_upwards_ok (Nat.le_refl _)  e6 K) mbX12_upwards msX12_upwards mlX12_323 (by omega) (by decide) (dAt tX12_soonest_ok 52 rfl rfl) rfl rfl (Nat.le_of_ble_eq_true rfl) rfl rfl (by decide) (by decide) rfl ?_
  refine g_p (L' := [some (.ref a), some (.int x1), some (.int x2), some (.int x3), some (.int x4), some (.int v5)]) (S' := [.int x3, .int v5]) hF tX12_soonest_ok 53 3 rfl rfl rfl rfl ?_
  obtain ⟨Ht7, Hf7⟩ := oi H
  refine g_icmp_le hF (dAt tX12_soonest_ok 56 rfl rfl) rfl (fun c7 => ?_) (fun c7 => ?_)
  · have H := Ht7 c7
    refine g_p (L' := [some (.ref a), some (.int x1), some (.int x2), some (.int x3), some (.int (x4 + 1)), some (.int v5)]) (S' := []) hF tX12_soonest_ok 59 3 rfl rfl rfl rfl ?_
    refine g_goto hF (dAt tX12_soonest_ok 62 rfl rfl) rfl ?_
    refine g_m [true, true, true, true, true, false] rfl ?_
    exact hk50 _ _ _ _ _ H
  · have H := Hf7 c7
    refine g_p (S' := [.int v5]) hF tX12_soonest_ok 57 1 rfl rfl rfl rfl ?_
    refine g_goto hF (dAt tX12_soonest_ok 58 rfl rfl) rfl ?_
    refine g_p (L' := [some (.ref a), some (.int x1), some (.int x2), some (.int v5), some (.int (x4 + 1)), some (.int v5)]) (S' := []) hF tX12_soonest_ok 60 2 rfl rfl rfl rfl ?_
    refine g_goto hF (dAt tX12_soonest_ok 62 rfl rfl) rfl ?_
    refine g_m [true, true, true, true, true, false] rfl ?_
    exact hk50 _ _ _ _ _ H
def X12_soonest_b50 (a : Nat) : Nat → Int32 → Int32 → Int32 → Int32 → Sig → Option (Int32 × Sig)
  | 0, _, _, _, _, _ => none
  | fu + 1, x1, x2, x3, x4, σ => if x2 < x4 then (some (x3, σ)) else (if (x4 &&& (x2 ^^^ (-1))) = 0 then (if x1 = 1 then (if x4 = x2 then (X12_soonest_b79 a (X12_soonest_b50 a fu) x1 x2 x3 x4 σ) else (X12_soonest_b50 a fu x1 x2 x3 (x4 + 1) σ)) else (X12_soonest_b79 a (X12_soonest_b50 a fu) x1 x2 x3 x4 σ)) else (X12_soonest_b50 a fu x1 x2 x3 (x4 + 1) σ))
set_option maxRecDepth 4000 in
set_option maxHeartbeats 1000000 in
theorem X12_soonest_b50_ok {K : Kt} {X : Cx} {D : Nat} {τ : Tau} {nx : Nat} {a : Nat} {res : Int32} {rsg : Sig}  (hD : 5 ≤ D) (hF : Fx K X cX12_soonest 6 RX12 D 0 0) (hS : ShX12 τ a) (hE : En K X (some .int) 0 0 (some (.int res)) (τ, rsg, nx)) : ∀ (fu : Nat) (x1 x2 x3 x4 : Int32) (σ : Sig), X12_soonest_b50 a fu x1 x2 x3 x4 σ = some (res, rsg) → G K X 6 0 0 50 [some (.ref a), some (.int x1), some (.int x2), some (.int x3), some (.int x4), none] [] (τ, σ, nx)
  | 0, _, _, _, _, _, H => nomatch H
  | fu + 1, x1, x2, x3, x4, σ, H => by
    refine g_p (S' := [.int x2, .int x4]) hF tX12_soonest_ok 31 2 rfl rfl rfl rfl ?_
    obtain ⟨Ht1, Hf1⟩ := oi H
    refine g_icmp_gt hF (dAt tX12_soonest_ok 33 rfl rfl) rfl (fun c1 => ?_) (fun c1 => ?_)
    · have H := Ht1 c1
      refine g_p (S' := [.int x3]) hF tX12_soonest_ok 63 1 rfl rfl rfl rfl ?_
      exact g_iret hF (en_p H hE) (dAt tX12_soonest_ok 64 rfl rfl) (by decide) (by decide)
    · have H := Hf1 c1
      refine g_p (S' := [.int (x4 &&& (x2 ^^^ (-1)))]) hF tX12_soonest_ok 34 5 rfl rfl rfl rfl ?_
      obtain ⟨Ht2, Hf2⟩ := oi H
      refine g_if_ne hF (dAt tX12_soonest_ok 39 rfl rfl) rfl (fun c2 => ?_) (fun c2 => ?_)
      · have H := Hf2 c2
        refine g_p (L' := [some (.ref a), some (.int x1), some (.int x2), some (.int x3), some (.int (x4 + 1)), none]) (S' := []) hF tX12_soonest_ok 61 1 rfl rfl rfl rfl ?_
        refine g_goto hF (dAt tX12_soonest_ok 62 rfl rfl) rfl ?_
        exact X12_soonest_b50_ok hD hF hS hE fu _ _ _ _ _ H
      · have H := Ht2 c2
        refine g_p (S' := [.int 1, .int x1]) hF tX12_soonest_ok 40 2 rfl rfl rfl rfl ?_
        obtain ⟨Ht3, Hf3⟩ := oi H
        refine g_icmp_ne hF (dAt tX12_soonest_ok 42 rfl rfl) rfl (fun c3 => ?_) (fun c3 => ?_)
        · have H := Hf3 c3
          exact X12_soonest_b79_ok hD hF hS hE (fun _ _ _ _ _ H => X12_soonest_b50_ok hD hF hS hE fu _ _ _ _ _ H) H
        · have H := Ht3 c3
          refine g_p (S' := [.int x2, .int x4]) hF tX12_soonest_ok 43 2 rfl rfl rfl rfl ?_
          obtain ⟨Ht4, Hf4⟩ := oi H
          refine g_icmp_eq hF (dAt tX12_soonest_ok 45 rfl rfl) rfl (fun c4 => ?_) (fun c4 => ?_)
          · have H := Ht4 c4
            exact X12_soonest_b79_ok hD hF hS hE (fun _ _ _ _ _ H => X12_soonest_b50_ok hD hF hS hE fu _ _ _ _ _ H) H
          · have H := Hf4 c4
            refine g_goto hF (dAt tX12_soonest_ok 46 rfl rfl) rfl ?_
            refine g_p (L' := [some (.ref a), some (.int x1), some (.int x2), some (.int x3), some (.int (x4 + 1)), none]) (S' := []) hF tX12_soonest_ok 61 1 rfl rfl rfl rfl ?_
            refine g_goto hF (dAt tX12_soonest_ok 62 rfl rfl) rfl ?_
            exact X12_soonest_b50_ok hD hF hS hE fu _ _ _ _ _ H
def X12_soonest_f (a : Nat) (x1 : Int32) (σ : Sig) : Option (Int32 × Sig) := (X12_isIn_f x1 0 2 σ).bind fun v1 => if v1 = 0 then (some ((-1), σ)) else (if x1 = 2 then ((X12_alone_f a σ).bind fun v14 => some (v14, σ)) else ((X12_greatest_f a σ).bind fun v5 => if v5 = 0 then (some (0, σ)) else ((X12_mays_f a σ).bind fun ⟨v8, s9⟩ => if v8 = (-1) then (some ((-1), s9)) else ((X12_greatest_f a s9).bind fun v12 => X12_soonest_b50 a FU x1 v8 v12 1 s9))))
set_option maxRecDepth 4000 in
set_option maxHeartbeats 1000000 in
theorem X12_soonest_ok {D : Nat} {τ : Tau} {nx : Nat} {a : Nat} {x1 : Int32} {σ : Sig} {res : Int32} {rsg : Sig} (hD : 5 ≤ D) (hS : ShX12 τ a) (H : X12_soonest_f a x1 σ = some (res, rsg)) : Ok D 0 0 yX12_soonest cX12_soonest 6 (some .int) [.ref a, .int x1] (τ, σ, nx) (some (.int res)) (τ, rsg, nx) := by
  refine ok_of (by decide +kernel) rfl (Nat.le_of_ble_eq_true rfl) (fun K X hF hE hN L0 hL0 => ?_)
  obtain rfl : [some (.ref a), some (.int x1), none, none, none, none] = L0 := hL0
  have hF : Fx K X cX12_soonest 6 RX12 D 0 0 := hF
  refine g_p (S' := [.int 2, .int 0, .int x1]) hF tX12_soonest_ok 0 3 rfl rfl rfl rfl ?_
  obtain ⟨v1, e2, H⟩ := ob H
  refine g_cS (S := []) hF (X12_isIn_ok (Nat.le_refl _)  e2 K) mbX12_isIn msX12_isIn mlX12_50 (by omega) (by decide) (dAt tX12_soonest_ok 3 rfl rfl) rfl rfl (Nat.le_of_ble_eq_true rfl) rfl rfl (by decide) (by decide) rfl ?_
  obtain ⟨Ht3, Hf3⟩ := oi H
  refine g_if_ne hF (dAt tX12_soonest_ok 4 rfl rfl) rfl (fun c3 => ?_) (fun c3 => ?_)
  · have H := Hf3 c3
    refine g_p (S' := [.int 2, .int x1]) hF tX12_soonest_ok 7 2 rfl rfl rfl rfl ?_
    obtain ⟨Ht4, Hf4⟩ := oi H
    refine g_icmp_ne hF (dAt tX12_soonest_ok 9 rfl rfl) rfl (fun c4 => ?_) (fun c4 => ?_)
    · have H := Hf4 c4
      refine g_p (S' := [.ref a]) hF tX12_soonest_ok 13 1 rfl rfl rfl rfl ?_
      obtain ⟨v5, e6, H⟩ := ob H
      refine g_cV (S := []) hF (X12_greatest_ok (Nat.le_refl _) hS e6 K) mbX12_greatest mvX12_greatest mlX12_311 (by omega) (by decide) (dAt tX12_soonest_ok 14 rfl rfl) hS.1 rfl rfl rfl (Nat.le_of_ble_eq_true rfl) rfl rfl (by decide) (by decide) rfl ?_
      obtain ⟨Ht7, Hf7⟩ := oi H
      refine g_if_ne hF (dAt tX12_soonest_ok 15 rfl rfl) rfl (fun c7 => ?_) (fun c7 => ?_)
      · have H := Hf7 c7
        refine g_p (S' := [.ref a]) hF tX12_soonest_ok 18 1 rfl rfl rfl rfl ?_
        obtain ⟨⟨v8, s9⟩, e10, H⟩ := ob H
        refine g_cV (S := []) hF (X12_mays_ok (Nat.le_refl _) hS e10 K) mbX12_mays mvX12_mays mlX12_314 (by omega) (by decide) (dAt tX12_soonest_ok 19 rfl rfl) hS.1 rfl rfl rfl (Nat.le_of_ble_eq_true rfl) rfl rfl (by decide) (by decide) rfl ?_
        refine g_p (L' := [some (.ref a), some (.int x1), some (.int v8), none, none, none]) (S' := [.int (-1), .int v8]) hF tX12_soonest_ok 20 3 rfl rfl rfl rfl ?_
        obtain ⟨Ht11, Hf11⟩ := oi H
        refine g_icmp_ne hF (dAt tX12_soonest_ok 23 rfl rfl) rfl (fun c11 => ?_) (fun c11 => ?_)
        · have H := Hf11 c11
          refine g_p (S' := [.ref a]) hF tX12_soonest_ok 26 1 rfl rfl rfl rfl ?_
          obtain ⟨v12, e13, H⟩ := ob H
          refine g_cV (S := []) hF (X12_greatest_ok (Nat.le_refl _) hS e13 K) mbX12_greatest mvX12_greatest mlX12_311 (by omega) (by decide) (dAt tX12_soonest_ok 27 rfl rfl) hS.1 rfl rfl rfl (Nat.le_of_ble_eq_true rfl) rfl rfl (by decide) (by decide) rfl ?_
          refine g_p (L' := [some (.ref a), some (.int x1), some (.int v8), some (.int v12), some (.int 1), none]) (S' := []) hF tX12_soonest_ok 28 3 rfl rfl rfl rfl ?_
          exact X12_soonest_b50_ok hD hF hS hE FU _ _ _ _ _ H
        · have H := Ht11 c11
          refine g_p (S' := [.int (-1)]) hF tX12_soonest_ok 24 1 rfl rfl rfl rfl ?_
          exact g_iret hF (en_p H hE) (dAt tX12_soonest_ok 25 rfl rfl) (by decide) (by decide)
      · have H := Ht7 c7
        refine g_p (S' := [.int 0]) hF tX12_soonest_ok 16 1 rfl rfl rfl rfl ?_
        exact g_iret hF (en_p H hE) (dAt tX12_soonest_ok 17 rfl rfl) (by decide) (by decide)
    · have H := Ht4 c4
      refine g_p (S' := [.ref a]) hF tX12_soonest_ok 10 1 rfl rfl rfl rfl ?_
      obtain ⟨v14, e15, H⟩ := ob H
      refine g_cV (S := []) hF (X12_alone_ok (Nat.le_refl _) hS e15 K) mbX12_alone mvX12_alone mlX12_308 (by omega) (by decide) (dAt tX12_soonest_ok 11 rfl rfl) hS.1 rfl rfl rfl (Nat.le_of_ble_eq_true rfl) rfl rfl (by decide) (by decide) rfl ?_
      exact g_iret hF (en_p H hE) (dAt tX12_soonest_ok 12 rfl rfl) (by decide) (by decide)
  · have H := Ht3 c3
    refine g_p (S' := [.int (-1)]) hF tX12_soonest_ok 5 1 rfl rfl rfl rfl ?_
    exact g_iret hF (en_p H hE) (dAt tX12_soonest_ok 6 rfl rfl) (by decide) (by decide)
def X12_canBe_b55 (a : Nat) (x6 y0 y1 y2 y3 y4 : Int32) (σ : Sig) : Option (Int32 × Sig) := (X12_isWord_f a y4 y3 y2 y1 y0 x6 σ).bind fun ⟨v1, s2⟩ => if v1 = 0 then (some (0, s2)) else (some (1, s2))
set_option maxRecDepth 4000 in
set_option maxHeartbeats 1000000 in
theorem X12_canBe_b55_ok {K : Kt} {X : Cx} {D : Nat} {τ : Tau} {nx : Nat} {a : Nat} {res : Int32} {rsg : Sig}  (hD : 5 ≤ D) (hF : Fx K X cX12_canBe 8 RX12 D 0 0) (hS : ShX12 τ a) (hE : En K X (some .boolean) 0 0 (some (.int res)) (τ, rsg, nx)) {x6 y0 y1 y2 y3 y4 : Int32} {σ : Sig} (H : X12_canBe_b55 a x6 y0 y1 y2 y3 y4 σ = some (res, rsg)) : G K X 8 0 0 55 [none, none, none, none, none, none, some (.int x6), none] [.int y0, .int y1, .int y2, .int y3, .int y4, .ref a] (τ, σ, nx) := by
  refine g_p (S' := [.int x6, .int y0, .int y1, .int y2, .int y3, .int y4, .ref a]) hF tX12_canBe_ok 34 1 rfl rfl rfl rfl ?_
  obtain ⟨⟨v1, s2⟩, e3, H⟩ := ob H
  refine g_cV (S := []) hF (X12_isWord_ok (Nat.le_refl _) hS e3 K) mbX12_isWord mvX12_isWord mlX12_244 (by omega) (by decide) (dAt tX12_canBe_ok 35 rfl rfl) hS.1 rfl rfl rfl (Nat.le_of_ble_eq_true rfl) rfl rfl (by decide) (by decide) rfl ?_
  obtain ⟨Ht4, Hf4⟩ := oi H
  refine g_if_eq hF (dAt tX12_canBe_ok 36 rfl rfl) rfl (fun c4 => ?_) (fun c4 => ?_)
  · have H := Ht4 c4
    refine g_p (S' := [.int 0]) hF tX12_canBe_ok 39 1 rfl rfl rfl rfl ?_
    exact g_zret hF (en_p H hE) (Or.inl rfl) (dAt tX12_canBe_ok 40 rfl rfl) (by decide) (by decide)
  · have H := Hf4 c4
    refine g_p (S' := [.int 1]) hF tX12_canBe_ok 37 1 rfl rfl rfl rfl ?_
    refine g_goto hF (dAt tX12_canBe_ok 38 rfl rfl) rfl ?_
    exact g_zret hF (en_p H hE) (Or.inr rfl) (dAt tX12_canBe_ok 40 rfl rfl) (by decide) (by decide)
def X12_canBe_f (a : Nat) (x1 x2 x3 x4 x5 x6 x7 : Int32) (σ : Sig) : Option (Int32 × Sig) := (X12_own_f a x1 1 σ).bind fun v1 => (ld 20240 (σ (a + 1)) ((50 + (6 * v1)) + x2)).bind fun v3 => if (x4 - v3) = x7 then ((ld 20240 (σ (a + 1)) 8).bind fun v6 => (X12_own_f a x1 0 σ).bind fun v8 => if v8 = 1 then (X12_canBe_b55 a x6 1 x5 x4 x3 v6 σ) else (X12_canBe_b55 a x6 0 x5 x4 x3 v6 σ)) else (some (0, σ))
set_option maxRecDepth 4000 in
set_option maxHeartbeats 1000000 in
theorem X12_canBe_ok {D : Nat} {τ : Tau} {nx : Nat} {a : Nat} {x1 x2 x3 x4 x5 x6 x7 : Int32} {σ : Sig} {res : Int32} {rsg : Sig} (hD : 5 ≤ D) (hS : ShX12 τ a) (H : X12_canBe_f a x1 x2 x3 x4 x5 x6 x7 σ = some (res, rsg)) : Ok D 0 0 yX12_canBe cX12_canBe 8 (some .boolean) [.ref a, .int x1, .int x2, .int x3, .int x4, .int x5, .int x6, .int x7] (τ, σ, nx) (some (.int res)) (τ, rsg, nx) := by
  refine ok_of (by decide +kernel) rfl (Nat.le_of_ble_eq_true rfl) (fun K X hF hE hN L0 hL0 => ?_)
  obtain rfl : [some (.ref a), some (.int x1), some (.int x2), some (.int x3), some (.int x4), some (.int x5), some (.int x6), some (.int x7)] = L0 := hL0
  have hF : Fx K X cX12_canBe 8 RX12 D 0 0 := hF
  refine g_p (S' := [.ref a, .int x4]) hF tX12_canBe_ok 0 2 rfl rfl rfl rfl ?_
  refine g_getR hF (dAt tX12_canBe_ok 2 rfl rfl) flX12_7 hS.1 rfl ?_
  refine g_p (S' := [.int 1, .int x1, .ref a, .int 6, .int 50, .ref (a + 1), .int x4]) hF tX12_canBe_ok 3 5 rfl rfl rfl rfl ?_
  obtain ⟨v1, e2, H⟩ := ob H
  refine g_cV (S := [.int 6, .int 50, .ref (a + 1), .int x4]) hF (X12_own_ok (Nat.le_refl _) hS e2 K) mbX12_own mvX12_own mlX12_65 (by omega) (by decide) (dAt tX12_canBe_ok 8 rfl rfl) hS.1 rfl rfl rfl (Nat.le_of_ble_eq_true rfl) rfl rfl (by decide) (by decide) rfl ?_
  refine g_p (S' := [.int ((50 + (6 * v1)) + x2), .ref (a + 1), .int x4]) hF tX12_canBe_ok 9 4 rfl rfl rfl rfl ?_
  obtain ⟨v3, e4, H⟩ := ob H
  refine g_ild hF (dAt tX12_canBe_ok 13 rfl rfl) hS.2.1 e4 ?_
  refine g_p (S' := [.int x7, .int (x4 - v3)]) hF tX12_canBe_ok 14 2 rfl rfl rfl rfl ?_
  obtain ⟨Ht5, Hf5⟩ := oi H
  refine g_icmp_ne hF (dAt tX12_canBe_ok 16 rfl rfl) rfl (fun c5 => ?_) (fun c5 => ?_)
  · have H := Hf5 c5
    refine g_p (S' := [.int 0]) hF tX12_canBe_ok 39 1 rfl rfl rfl rfl ?_
    exact g_zret hF (en_p H hE) (Or.inl rfl) (dAt tX12_canBe_ok 40 rfl rfl) (by decide) (by decide)
  · have H := Ht5 c5
    refine g_p (S' := [.ref a, .ref a]) hF tX12_canBe_ok 17 2 rfl rfl rfl rfl ?_
    refine g_getR hF (dAt tX12_canBe_ok 19 rfl rfl) flX12_7 hS.1 rfl ?_
    refine g_p (S' := [.int 8, .ref (a + 1), .ref a]) hF tX12_canBe_ok 20 1 rfl rfl rfl rfl ?_
    obtain ⟨v6, e7, H⟩ := ob H
    refine g_ild hF (dAt tX12_canBe_ok 21 rfl rfl) hS.2.1 e7 ?_
    refine g_p (S' := [.int 0, .int x1, .ref a, .int x5, .int x4, .int x3, .int v6, .ref a]) hF tX12_canBe_ok 22 6 rfl rfl rfl rfl ?_
    obtain ⟨v8, e9, H⟩ := ob H
    refine g_cV (S := [.int x5, .int x4, .int x3, .int v6, .ref a]) hF (X12_own_ok (Nat.le_refl _) hS e9 K) mbX12_own mvX12_own mlX12_65 (by omega) (by decide) (dAt tX12_canBe_ok 28 rfl rfl) hS.1 rfl rfl rfl (Nat.le_of_ble_eq_true rfl) rfl rfl (by decide) (by decide) rfl ?_
    refine g_p (S' := [.int 1, .int v8, .int x5, .int x4, .int x3, .int v6, .ref a]) hF tX12_canBe_ok 29 1 rfl rfl rfl rfl ?_
    obtain ⟨Ht10, Hf10⟩ := oi H
    refine g_icmp_ne hF (dAt tX12_canBe_ok 30 rfl rfl) rfl (fun c10 => ?_) (fun c10 => ?_)
    · have H := Hf10 c10
      refine g_p (S' := [.int 0, .int x5, .int x4, .int x3, .int v6, .ref a]) hF tX12_canBe_ok 33 1 rfl rfl rfl rfl ?_
      refine g_m [false, false, false, false, false, false, true, false] rfl ?_
      exact X12_canBe_b55_ok hD hF hS hE H
    · have H := Ht10 c10
      refine g_p (S' := [.int 1, .int x5, .int x4, .int x3, .int v6, .ref a]) hF tX12_canBe_ok 31 1 rfl rfl rfl rfl ?_
      refine g_goto hF (dAt tX12_canBe_ok 32 rfl rfl) rfl ?_
      refine g_m [false, false, false, false, false, false, true, false] rfl ?_
      exact X12_canBe_b55_ok hD hF hS hE H
def X12_canSay_b192 (a : Nat) (k128 : Int32 → Int32 → Int32 → Int32 → Int32 → Int32 → Int32 → Sig → Option (Int32 × Sig)) (x1 x2 x3 x4 x5 x6 x7 x8 y0 y1 y2 : Int32) (σ : Sig) : Option (Int32 × Sig) := (ld 20240 (σ (a + 1)) (2660 + x8)).bind fun v1 => (X12_canBe_f a y2 y1 y0 v1 x3 x4 x5 σ).bind fun ⟨v3, s4⟩ => if v3 = 0 then (k128 x1 x2 x3 x4 x5 x6 (x7 + 1) s4) else (some (1, s4))
set_option maxRecDepth 4000 in
set_option maxHeartbeats 1000000 in
theorem X12_canSay_b192_ok {K : Kt} {X : Cx} {D : Nat} {τ : Tau} {nx : Nat} {a : Nat} {res : Int32} {rsg : Sig}  (hD : 6 ≤ D) (hF : Fx K X cX12_canSay 9 RX12 D 0 0) (hS : ShX12 τ a) (hE : En K X (some .boolean) 0 0 (some (.int res)) (τ, rsg, nx)) {k128 : Int32 → Int32 → Int32 → Int32 → Int32 → Int32 → Int32 → Sig → Option (Int32 × Sig)} (hk128 : ∀ (x1 x2 x3 x4 x5 x6 x7 : Int32) (σ : Sig), k128 x1 x2 x3 x4 x5 x6 x7 σ = some (res, rsg) → G K X 9 0 0 128 [some (.ref a), some (.int x1), some (.int x2), some (.int x3), some (.int x4), some (.int x5), some (.int x6), some (.int x7), none] [] (τ, σ, nx)) {x1 x2 x3 x4 x5 x6 x7 x8 y0 y1 y2 : Int32} {σ : Sig} (H : X12_canSay_b192 a k128 x1 x2 x3 x4 x5 x6 x7 x8 y0 y1 y2 σ = some (res, rsg)) : G K X 9 0 0 192 [some (.ref a), some (.int x1), some (.int x2), some (.int x3), some (.int x4), some (.int x5), some (.int x6), some (.int x7), some (.int x8)] [.int y0, .int y1, .int y2, .ref a] (τ, σ, nx) := by
  refine g_p (S' := [.ref a, .int y0, .int y1, .int y2, .ref a]) hF tX12_canSay_ok 116 1 rfl rfl rfl rfl ?_
  refine g_getR hF (dAt tX12_canSay_ok 117 rfl rfl) flX12_7 hS.1 rfl ?_
  refine g_p (S' := [.int (2660 + x8), .ref (a + 1), .int y0, .int y1, .int y2, .ref a]) hF tX12_canSay_ok 118 3 rfl rfl rfl rfl ?_
  obtain ⟨v1, e2, H⟩ := ob H
  refine g_ild hF (dAt tX12_canSay_ok 121 rfl rfl) hS.2.1 e2 ?_
  refine g_p (S' := [.int x5, .int x4, .int x3, .int v1, .int y0, .int y1, .int y2, .ref a]) hF tX12_canSay_ok 122 3 rfl rfl rfl rfl ?_
  obtain ⟨⟨v3, s4⟩, e5, H⟩ := ob H
  refine g_cV (S := []) hF (X12_canBe_ok (Nat.le_refl _) hS e5 K) mbX12_canBe mvX12_canBe mlX12_326 (by omega) (by decide) (dAt tX12_canSay_ok 125 rfl rfl) hS.1 rfl rfl rfl (Nat.le_of_ble_eq_true rfl) rfl rfl (by decide) (by decide) rfl ?_
  obtain ⟨Ht6, Hf6⟩ := oi H
  refine g_if_eq hF (dAt tX12_canSay_ok 126 rfl rfl) rfl (fun c6 => ?_) (fun c6 => ?_)
  · have H := Ht6 c6
    refine g_p (L' := [some (.ref a), some (.int x1), some (.int x2), some (.int x3), some (.int x4), some (.int x5), some (.int x6), some (.int (x7 + 1)), some (.int x8)]) (S' := []) hF tX12_canSay_ok 129 1 rfl rfl rfl rfl ?_
    refine g_goto hF (dAt tX12_canSay_ok 130 rfl rfl) rfl ?_
    refine g_m [true, true, true, true, true, true, true, true, false] rfl ?_
    exact hk128 _ _ _ _ _ _ _ _ H
  · have H := Hf6 c6
    refine g_p (S' := [.int 1]) hF tX12_canSay_ok 127 1 rfl rfl rfl rfl ?_
    exact g_zret hF (en_p H hE) (Or.inr rfl) (dAt tX12_canSay_ok 128 rfl rfl) (by decide) (by decide)
def X12_canSay_b128 (a : Nat) : Nat → Int32 → Int32 → Int32 → Int32 → Int32 → Int32 → Int32 → Sig → Option (Int32 × Sig)
  | 0, _, _, _, _, _, _, _, _ => none
  | fu + 1, x1, x2, x3, x4, x5, x6, x7, σ => (ld 20240 (σ (a + 1)) (2550 + x6)).bind fun v1 => if v1 ≤ x7 then (some (0, σ)) else ((ld 20240 (σ (a + 1)) (2560 + ((16 * x6) + x7))).bind fun v4 => if v4 = 3 then (X12_canSay_b128 a fu x1 x2 x3 x4 x5 x6 (x7 + 1) σ) else ((ld 20240 (σ (a + 1)) (2560 + ((16 * x6) + x7))).bind fun v7 => if v7 = 1 then (X12_canSay_b192 a (X12_canSay_b128 a fu) x1 x2 x3 x4 x5 x6 x7 ((16 * x6) + x7) 0 x2 x1 σ) else (X12_canSay_b192 a (X12_canSay_b128 a fu) x1 x2 x3 x4 x5 x6 x7 ((16 * x6) + x7) 3 x2 x1 σ)))
set_option maxRecDepth 4000 in
set_option maxHeartbeats 1000000 in
theorem X12_canSay_b128_ok {K : Kt} {X : Cx} {D : Nat} {τ : Tau} {nx : Nat} {a : Nat} {res : Int32} {rsg : Sig}  (hD : 6 ≤ D) (hF : Fx K X cX12_canSay 9 RX12 D 0 0) (hS : ShX12 τ a) (hE : En K X (some .boolean) 0 0 (some (.int res)) (τ, rsg, nx)) : ∀ (fu : Nat) (x1 x2 x3 x4 x5 x6 x7 : Int32) (σ : Sig), X12_canSay_b128 a fu x1 x2 x3 x4 x5 x6 x7 σ = some (res, rsg) → G K X 9 0 0 128 [some (.ref a), some (.int x1), some (.int x2), some (.int x3), some (.int x4), some (.int x5), some (.int x6), some (.int x7), none] [] (τ, σ, nx)
  | 0, _, _, _, _, _, _, _, _, H => nomatch H
  | fu + 1, x1, x2, x3, x4, x5, x6, x7, σ, H => by
    refine g_p (S' := [.ref a, .int x7]) hF tX12_canSay_ok 80 2 rfl rfl rfl rfl ?_
    refine g_getR hF (dAt tX12_canSay_ok 82 rfl rfl) flX12_7 hS.1 rfl ?_
    refine g_p (S' := [.int (2550 + x6), .ref (a + 1), .int x7]) hF tX12_canSay_ok 83 3 rfl rfl rfl rfl ?_
    obtain ⟨v1, e2, H⟩ := ob H
    refine g_ild hF (dAt tX12_canSay_ok 86 rfl rfl) hS.2.1 e2 ?_
    obtain ⟨Ht3, Hf3⟩ := oi H
    refine g_icmp_ge hF (dAt tX12_canSay_ok 87 rfl rfl) rfl (fun c3 => ?_) (fun c3 => ?_)
    · have H := Ht3 c3
      refine g_p (S' := [.int 0]) hF tX12_canSay_ok 131 1 rfl rfl rfl rfl ?_
      exact g_zret hF (en_p H hE) (Or.inl rfl) (dAt tX12_canSay_ok 132 rfl rfl) (by decide) (by decide)
    · have H := Hf3 c3
      refine g_p (L' := [some (.ref a), some (.int x1), some (.int x2), some (.int x3), some (.int x4), some (.int x5), some (.int x6), some (.int x7), some (.int ((16 * x6) + x7))]) (S' := [.ref a]) hF tX12_canSay_ok 88 7 rfl rfl rfl rfl ?_
      refine g_getR hF (dAt tX12_canSay_ok 95 rfl rfl) flX12_7 hS.1 rfl ?_
      refine g_p (S' := [.int (2560 + ((16 * x6) + x7)), .ref (a + 1)]) hF tX12_canSay_ok 96 3 rfl rfl rfl rfl ?_
      obtain ⟨v4, e5, H⟩ := ob H
      refine g_ild hF (dAt tX12_canSay_ok 99 rfl rfl) hS.2.1 e5 ?_
      refine g_p (S' := [.int 3, .int v4]) hF tX12_canSay_ok 100 1 rfl rfl rfl rfl ?_
      obtain ⟨Ht6, Hf6⟩ := oi H
      refine g_icmp_eq hF (dAt tX12_canSay_ok 101 rfl rfl) rfl (fun c6 => ?_) (fun c6 => ?_)
      · have H := Ht6 c6
        refine g_p (L' := [some (.ref a), some (.int x1), some (.int x2), some (.int x3), some (.int x4), some (.int x5), some (.int x6), some (.int (x7 + 1)), some (.int ((16 * x6) + x7))]) (S' := []) hF tX12_canSay_ok 129 1 rfl rfl rfl rfl ?_
        refine g_goto hF (dAt tX12_canSay_ok 130 rfl rfl) rfl ?_
        refine g_m [true, true, true, true, true, true, true, true, false] rfl ?_
        exact X12_canSay_b128_ok hD hF hS hE fu _ _ _ _ _ _ _ _ H
      · have H := Hf6 c6
        refine g_p (S' := [.ref a, .int x2, .int x1, .ref a]) hF tX12_canSay_ok 102 4 rfl rfl rfl rfl ?_
        refine g_getR hF (dAt tX12_canSay_ok 106 rfl rfl) flX12_7 hS.1 rfl ?_
        refine g_p (S' := [.int (2560 + ((16 * x6) + x7)), .ref (a + 1), .int x2, .int x1, .ref a]) hF tX12_canSay_ok 107 3 rfl rfl rfl rfl ?_
        obtain ⟨v7, e8, H⟩ := ob H
        refine g_ild hF (dAt tX12_canSay_ok 110 rfl rfl) hS.2.1 e8 ?_
        refine g_p (S' := [.int 1, .int v7, .int x2, .int x1, .ref a]) hF tX12_canSay_ok 111 1 rfl rfl rfl rfl ?_
        obtain ⟨Ht9, Hf9⟩ := oi H
        refine g_icmp_ne hF (dAt tX12_canSay_ok 112 rfl rfl) rfl (fun c9 => ?_) (fun c9 => ?_)
        · have H := Hf9 c9
          refine g_p (S' := [.int 3, .int x2, .int x1, .ref a]) hF tX12_canSay_ok 115 1 rfl rfl rfl rfl ?_
          exact X12_canSay_b192_ok hD hF hS hE (fun _ _ _ _ _ _ _ _ H => X12_canSay_b128_ok hD hF hS hE fu _ _ _ _ _ _ _ _ H) H
        · have H := Ht9 c9
          refine g_p (S' := [.int 0, .int x2, .int x1, .ref a]) hF tX12_canSay_ok 113 1 rfl rfl rfl rfl ?_
          refine g_goto hF (dAt tX12_canSay_ok 114 rfl rfl) rfl ?_
          exact X12_canSay_b192_ok hD hF hS hE (fun _ _ _ _ _ _ _ _ H => X12_canSay_b128_ok hD hF hS hE fu _ _ _ _ _ _ _ _ H) H
def X12_canSay_f (a : Nat) (x1 x2 x3 x4 x5 : Int32) (σ : Sig) : Option (Int32 × Sig) := (X12_own_f a x1 0 σ).bind fun v1 => if v1 = 2 then (some (0, σ)) else ((X12_own_f a x1 0 σ).bind fun v4 => if v4 = 1 then ((X12_own_f a x1 3 σ).bind fun v24 => if v24 ≤ 0 then (some (0, σ)) else ((X12_own_f a x1 2 σ).bind fun v27 => (X12_canBe_f a x1 x2 2 v27 x3 x4 x5 σ).bind fun ⟨v29, s30⟩ => if v29 = 0 then (some (0, s30)) else (some (1, s30)))) else ((X12_isNight_f x3 σ).bind fun v7 => if v7 = 0 then ((X12_own_f a x1 4 σ).bind fun v10 => if v10 = 4 then (some (0, σ)) else ((X12_own_f a x1 4 σ).bind fun v13 => X12_canSay_b128 a FU x1 x2 x3 x4 x5 (2 + v13) 0 σ)) else ((X12_own_f a x1 3 σ).bind fun v15 => if v15 ≤ 0 then (some (0, σ)) else ((X12_own_f a x1 2 σ).bind fun v18 => (X12_canBe_f a x1 x2 1 (v18 / 2) x3 x4 x5 σ).bind fun ⟨v20, s21⟩ => if v20 = 0 then (some (0, s21)) else (some (1, s21))))))
set_option maxRecDepth 4000 in
set_option maxHeartbeats 1000000 in
theorem X12_canSay_ok {D : Nat} {τ : Tau} {nx : Nat} {a : Nat} {x1 x2 x3 x4 x5 : Int32} {σ : Sig} {res : Int32} {rsg : Sig} (hD : 6 ≤ D) (hS : ShX12 τ a) (H : X12_canSay_f a x1 x2 x3 x4 x5 σ = some (res, rsg)) : Ok D 0 0 yX12_canSay cX12_canSay 9 (some .boolean) [.ref a, .int x1, .int x2, .int x3, .int x4, .int x5] (τ, σ, nx) (some (.int res)) (τ, rsg, nx) := by
  refine ok_of (by decide +kernel) rfl (Nat.le_of_ble_eq_true rfl) (fun K X hF hE hN L0 hL0 => ?_)
  obtain rfl : [some (.ref a), some (.int x1), some (.int x2), some (.int x3), some (.int x4), some (.int x5), none, none, none] = L0 := hL0
  have hF : Fx K X cX12_canSay 9 RX12 D 0 0 := hF
  refine g_p (S' := [.int 0, .int x1, .ref a]) hF tX12_canSay_ok 0 3 rfl rfl rfl rfl ?_
  obtain ⟨v1, e2, H⟩ := ob H
  refine g_cV (S := []) hF (X12_own_ok (Nat.le_refl _) hS e2 K) mbX12_own mvX12_own mlX12_65 (by omega) (by decide) (dAt tX12_canSay_ok 3 rfl rfl) hS.1 rfl rfl rfl (Nat.le_of_ble_eq_true rfl) rfl rfl (by decide) (by decide) rfl ?_
  refine g_p (S' := [.int 2, .int v1]) hF tX12_canSay_ok 4 1 rfl rfl rfl rfl ?_
  obtain ⟨Ht3, Hf3⟩ := oi H
  refine g_icmp_ne hF (dAt tX12_canSay_ok 5 rfl rfl) rfl (fun c3 => ?_) (fun c3 => ?_)
  · have H := Hf3 c3
    refine g_p (S' := [.int 0, .int x1, .ref a]) hF tX12_canSay_ok 8 3 rfl rfl rfl rfl ?_
    obtain ⟨v4, e5, H⟩ := ob H
    refine g_cV (S := []) hF (X12_own_ok (Nat.le_refl _) hS e5 K) mbX12_own mvX12_own mlX12_65 (by omega) (by decide) (dAt tX12_canSay_ok 11 rfl rfl) hS.1 rfl rfl rfl (Nat.le_of_ble_eq_true rfl) rfl rfl (by decide) (by decide) rfl ?_
    refine g_p (S' := [.int 1, .int v4]) hF tX12_canSay_ok 12 1 rfl rfl rfl rfl ?_
    obtain ⟨Ht6, Hf6⟩ := oi H
    refine g_icmp_ne hF (dAt tX12_canSay_ok 13 rfl rfl) rfl (fun c6 => ?_) (fun c6 => ?_)
    · have H := Hf6 c6
      refine g_p (S' := [.int x3]) hF tX12_canSay_ok 36 1 rfl rfl rfl rfl ?_
      obtain ⟨v7, e8, H⟩ := ob H
      refine g_cS (S := []) hF (X12_isNight_ok (Nat.le_refl _)  e8 K) mbX12_isNight msX12_isNight mlX12_238 (by omega) (by decide) (dAt tX12_canSay_ok 37 rfl rfl) rfl rfl (Nat.le_of_ble_eq_true rfl) rfl rfl (by decide) (by decide) rfl ?_
      obtain ⟨Ht9, Hf9⟩ := oi H
      refine g_if_eq hF (dAt tX12_canSay_ok 38 rfl rfl) rfl (fun c9 => ?_) (fun c9 => ?_)
      · have H := Ht9 c9
        refine g_p (S' := [.int 4, .int x1, .ref a]) hF tX12_canSay_ok 63 3 rfl rfl rfl rfl ?_
        obtain ⟨v10, e11, H⟩ := ob H
        refine g_cV (S := []) hF (X12_own_ok (Nat.le_refl _) hS e11 K) mbX12_own mvX12_own mlX12_65 (by omega) (by decide) (dAt tX12_canSay_ok 66 rfl rfl) hS.1 rfl rfl rfl (Nat.le_of_ble_eq_true rfl) rfl rfl (by decide) (by decide) rfl ?_
        refine g_p (S' := [.int 4, .int v10]) hF tX12_canSay_ok 67 1 rfl rfl rfl rfl ?_
        obtain ⟨Ht12, Hf12⟩ := oi H
        refine g_icmp_ne hF (dAt tX12_canSay_ok 68 rfl rfl) rfl (fun c12 => ?_) (fun c12 => ?_)
        · have H := Hf12 c12
          refine g_p (S' := [.int 4, .int x1, .ref a, .int 2]) hF tX12_canSay_ok 71 4 rfl rfl rfl rfl ?_
          obtain ⟨v13, e14, H⟩ := ob H
          refine g_cV (S := [.int 2]) hF (X12_own_ok (Nat.le_refl _) hS e14 K) mbX12_own mvX12_own mlX12_65 (by omega) (by decide) (dAt tX12_canSay_ok 75 rfl rfl) hS.1 rfl rfl rfl (Nat.le_of_ble_eq_true rfl) rfl rfl (by decide) (by decide) rfl ?_
          refine g_p (L' := [some (.ref a), some (.int x1), some (.int x2), some (.int x3), some (.int x4), some (.int x5), some (.int (2 + v13)), some (.int 0), none]) (S' := []) hF tX12_canSay_ok 76 4 rfl rfl rfl rfl ?_
          exact X12_canSay_b128_ok hD hF hS hE FU _ _ _ _ _ _ _ _ H
        · have H := Ht12 c12
          refine g_p (S' := [.int 0]) hF tX12_canSay_ok 69 1 rfl rfl rfl rfl ?_
          exact g_zret hF (en_p H hE) (Or.inl rfl) (dAt tX12_canSay_ok 70 rfl rfl) (by decide) (by decide)
      · have H := Hf9 c9
        refine g_p (S' := [.int 3, .int x1, .ref a]) hF tX12_canSay_ok 39 3 rfl rfl rfl rfl ?_
        obtain ⟨v15, e16, H⟩ := ob H
        refine g_cV (S := []) hF (X12_own_ok (Nat.le_refl _) hS e16 K) mbX12_own mvX12_own mlX12_65 (by omega) (by decide) (dAt tX12_canSay_ok 42 rfl rfl) hS.1 rfl rfl rfl (Nat.le_of_ble_eq_true rfl) rfl rfl (by decide) (by decide) rfl ?_
        obtain ⟨Ht17, Hf17⟩ := oi H
        refine g_if_le hF (dAt tX12_canSay_ok 43 rfl rfl) rfl (fun c17 => ?_) (fun c17 => ?_)
        · have H := Ht17 c17
          refine g_p (S' := [.int 0]) hF tX12_canSay_ok 61 1 rfl rfl rfl rfl ?_
          exact g_zret hF (en_p H hE) (Or.inl rfl) (dAt tX12_canSay_ok 62 rfl rfl) (by decide) (by decide)
        · have H := Hf17 c17
          refine g_p (S' := [.int 2, .int x1, .ref a, .int 1, .int x2, .int x1, .ref a]) hF tX12_canSay_ok 44 7 rfl rfl rfl rfl ?_
          obtain ⟨v18, e19, H⟩ := ob H
          refine g_cV (S := [.int 1, .int x2, .int x1, .ref a]) hF (X12_own_ok (Nat.le_refl _) hS e19 K) mbX12_own mvX12_own mlX12_65 (by omega) (by decide) (dAt tX12_canSay_ok 51 rfl rfl) hS.1 rfl rfl rfl (Nat.le_of_ble_eq_true rfl) rfl rfl (by decide) (by decide) rfl ?_
          refine g_p (S' := [.int 2, .int v18, .int 1, .int x2, .int x1, .ref a]) hF tX12_canSay_ok 52 1 rfl rfl rfl rfl ?_
          refine g_idiv hF (dAt tX12_canSay_ok 53 rfl rfl) (by decide) ?_
          refine g_p (S' := [.int x5, .int x4, .int x3, .int (v18 / 2), .int 1, .int x2, .int x1, .ref a]) hF tX12_canSay_ok 54 3 rfl rfl rfl rfl ?_
          obtain ⟨⟨v20, s21⟩, e22, H⟩ := ob H
          refine g_cV (S := []) hF (X12_canBe_ok (Nat.le_refl _) hS e22 K) mbX12_canBe mvX12_canBe mlX12_326 (by omega) (by decide) (dAt tX12_canSay_ok 57 rfl rfl) hS.1 rfl rfl rfl (Nat.le_of_ble_eq_true rfl) rfl rfl (by decide) (by decide) rfl ?_
          obtain ⟨Ht23, Hf23⟩ := oi H
          refine g_if_eq hF (dAt tX12_canSay_ok 58 rfl rfl) rfl (fun c23 => ?_) (fun c23 => ?_)
          · have H := Ht23 c23
            refine g_p (S' := [.int 0]) hF tX12_canSay_ok 61 1 rfl rfl rfl rfl ?_
            exact g_zret hF (en_p H hE) (Or.inl rfl) (dAt tX12_canSay_ok 62 rfl rfl) (by decide) (by decide)
          · have H := Hf23 c23
            refine g_p (S' := [.int 1]) hF tX12_canSay_ok 59 1 rfl rfl rfl rfl ?_
            refine g_goto hF (dAt tX12_canSay_ok 60 rfl rfl) rfl ?_
            exact g_zret hF (en_p H hE) (Or.inr rfl) (dAt tX12_canSay_ok 62 rfl rfl) (by decide) (by decide)
    · have H := Ht6 c6
      refine g_p (S' := [.int 3, .int x1, .ref a]) hF tX12_canSay_ok 14 3 rfl rfl rfl rfl ?_
      obtain ⟨v24, e25, H⟩ := ob H
      refine g_cV (S := []) hF (X12_own_ok (Nat.le_refl _) hS e25 K) mbX12_own mvX12_own mlX12_65 (by omega) (by decide) (dAt tX12_canSay_ok 17 rfl rfl) hS.1 rfl rfl rfl (Nat.le_of_ble_eq_true rfl) rfl rfl (by decide) (by decide) rfl ?_
      obtain ⟨Ht26, Hf26⟩ := oi H
      refine g_if_le hF (dAt tX12_canSay_ok 18 rfl rfl) rfl (fun c26 => ?_) (fun c26 => ?_)
      · have H := Ht26 c26
        refine g_p (S' := [.int 0]) hF tX12_canSay_ok 34 1 rfl rfl rfl rfl ?_
        exact g_zret hF (en_p H hE) (Or.inl rfl) (dAt tX12_canSay_ok 35 rfl rfl) (by decide) (by decide)
      · have H := Hf26 c26
        refine g_p (S' := [.int 2, .int x1, .ref a, .int 2, .int x2, .int x1, .ref a]) hF tX12_canSay_ok 19 7 rfl rfl rfl rfl ?_
        obtain ⟨v27, e28, H⟩ := ob H
        refine g_cV (S := [.int 2, .int x2, .int x1, .ref a]) hF (X12_own_ok (Nat.le_refl _) hS e28 K) mbX12_own mvX12_own mlX12_65 (by omega) (by decide) (dAt tX12_canSay_ok 26 rfl rfl) hS.1 rfl rfl rfl (Nat.le_of_ble_eq_true rfl) rfl rfl (by decide) (by decide) rfl ?_
        refine g_p (S' := [.int x5, .int x4, .int x3, .int v27, .int 2, .int x2, .int x1, .ref a]) hF tX12_canSay_ok 27 3 rfl rfl rfl rfl ?_
        obtain ⟨⟨v29, s30⟩, e31, H⟩ := ob H
        refine g_cV (S := []) hF (X12_canBe_ok (Nat.le_refl _) hS e31 K) mbX12_canBe mvX12_canBe mlX12_326 (by omega) (by decide) (dAt tX12_canSay_ok 30 rfl rfl) hS.1 rfl rfl rfl (Nat.le_of_ble_eq_true rfl) rfl rfl (by decide) (by decide) rfl ?_
        obtain ⟨Ht32, Hf32⟩ := oi H
        refine g_if_eq hF (dAt tX12_canSay_ok 31 rfl rfl) rfl (fun c32 => ?_) (fun c32 => ?_)
        · have H := Ht32 c32
          refine g_p (S' := [.int 0]) hF tX12_canSay_ok 34 1 rfl rfl rfl rfl ?_
          exact g_zret hF (en_p H hE) (Or.inl rfl) (dAt tX12_canSay_ok 35 rfl rfl) (by decide) (by decide)
        · have H := Hf32 c32
          refine g_p (S' := [.int 1]) hF tX12_canSay_ok 32 1 rfl rfl rfl rfl ?_
          refine g_goto hF (dAt tX12_canSay_ok 33 rfl rfl) rfl ?_
          exact g_zret hF (en_p H hE) (Or.inr rfl) (dAt tX12_canSay_ok 35 rfl rfl) (by decide) (by decide)
  · have H := Ht3 c3
    refine g_p (S' := [.int 0]) hF tX12_canSay_ok 6 1 rfl rfl rfl rfl ?_
    exact g_zret hF (en_p H hE) (Or.inl rfl) (dAt tX12_canSay_ok 7 rfl rfl) (by decide) (by decide)
def X12_whom_b47 (a : Nat) : Nat → Int32 → Int32 → Int32 → Int32 → Int32 → Int32 → Sig → Option (Int32 × Sig)
  | 0, _, _, _, _, _, _, _ => none
  | fu + 1, x1, x2, x3, x4, x5, x6, σ => (ld 20240 (σ (a + 1)) 9).bind fun v1 => if v1 ≤ x6 then (some (x5, σ)) else ((X12_isFeast_f a x2 σ).bind fun v4 => (X12_canSay_f a x6 x1 x3 v4 x4 σ).bind fun ⟨v6, s7⟩ => if v6 = 0 then (X12_whom_b47 a fu x1 x2 x3 x4 (x5 ||| 0) (x6 + 1) s7) else (X12_whom_b47 a fu x1 x2 x3 x4 (x5 ||| (1 <<< (x6 &&& 31))) (x6 + 1) s7))
set_option maxRecDepth 4000 in
set_option maxHeartbeats 1000000 in
theorem X12_whom_b47_ok {K : Kt} {X : Cx} {D : Nat} {τ : Tau} {nx : Nat} {a : Nat} {res : Int32} {rsg : Sig}  (hD : 7 ≤ D) (hF : Fx K X cX12_whom 7 RX12 D 0 0) (hS : ShX12 τ a) (hE : En K X (some .int) 0 0 (some (.int res)) (τ, rsg, nx)) : ∀ (fu : Nat) (x1 x2 x3 x4 x5 x6 : Int32) (σ : Sig), X12_whom_b47 a fu x1 x2 x3 x4 x5 x6 σ = some (res, rsg) → G K X 7 0 0 47 [some (.ref a), some (.int x1), some (.int x2), some (.int x3), some (.int x4), some (.int x5), some (.int x6)] [] (τ, σ, nx)
  | 0, _, _, _, _, _, _, _, H => nomatch H
  | fu + 1, x1, x2, x3, x4, x5, x6, σ, H => by
    refine g_p (S' := [.ref a, .int x6]) hF tX12_whom_ok 24 2 rfl rfl rfl rfl ?_
    refine g_getR hF (dAt tX12_whom_ok 26 rfl rfl) flX12_7 hS.1 rfl ?_
    refine g_p (S' := [.int 9, .ref (a + 1), .int x6]) hF tX12_whom_ok 27 1 rfl rfl rfl rfl ?_
    obtain ⟨v1, e2, H⟩ := ob H
    refine g_ild hF (dAt tX12_whom_ok 28 rfl rfl) hS.2.1 e2 ?_
    obtain ⟨Ht3, Hf3⟩ := oi H
    refine g_icmp_ge hF (dAt tX12_whom_ok 29 rfl rfl) rfl (fun c3 => ?_) (fun c3 => ?_)
    · have H := Ht3 c3
      refine g_p (S' := [.int x5]) hF tX12_whom_ok 50 1 rfl rfl rfl rfl ?_
      exact g_iret hF (en_p H hE) (dAt tX12_whom_ok 51 rfl rfl) (by decide) (by decide)
    · have H := Hf3 c3
      refine g_p (S' := [.int x2, .ref a, .int x3, .int x1, .int x6, .ref a, .int x5]) hF tX12_whom_ok 30 7 rfl rfl rfl rfl ?_
      obtain ⟨v4, e5, H⟩ := ob H
      refine g_cV (S := [.int x3, .int x1, .int x6, .ref a, .int x5]) hF (X12_isFeast_ok (Nat.le_refl _) hS e5 K) mbX12_isFeast mvX12_isFeast mlX12_251 (by omega) (by decide) (dAt tX12_whom_ok 37 rfl rfl) hS.1 rfl rfl rfl (Nat.le_of_ble_eq_true rfl) rfl rfl (by decide) (by decide) rfl ?_
      refine g_p (S' := [.int x4, .int v4, .int x3, .int x1, .int x6, .ref a, .int x5]) hF tX12_whom_ok 38 1 rfl rfl rfl rfl ?_
      obtain ⟨⟨v6, s7⟩, e8, H⟩ := ob H
      refine g_cV (S := [.int x5]) hF (X12_canSay_ok (Nat.le_refl _) hS e8 K) mbX12_canSay mvX12_canSay mlX12_330 (by omega) (by decide) (dAt tX12_whom_ok 39 rfl rfl) hS.1 rfl rfl rfl (Nat.le_of_ble_eq_true rfl) rfl rfl (by decide) (by decide) rfl ?_
      obtain ⟨Ht9, Hf9⟩ := oi H
      refine g_if_eq hF (dAt tX12_whom_ok 40 rfl rfl) rfl (fun c9 => ?_) (fun c9 => ?_)
      · have H := Ht9 c9
        refine g_p (L' := [some (.ref a), some (.int x1), some (.int x2), some (.int x3), some (.int x4), some (.int (x5 ||| 0)), some (.int (x6 + 1))]) (S' := []) hF tX12_whom_ok 45 4 rfl rfl rfl rfl ?_
        refine g_goto hF (dAt tX12_whom_ok 49 rfl rfl) rfl ?_
        exact X12_whom_b47_ok hD hF hS hE fu _ _ _ _ _ _ _ H
      · have H := Hf9 c9
        refine g_p (S' := [.int (1 <<< (x6 &&& 31)), .int x5]) hF tX12_whom_ok 41 3 rfl rfl rfl rfl ?_
        refine g_goto hF (dAt tX12_whom_ok 44 rfl rfl) rfl ?_
        refine g_p (L' := [some (.ref a), some (.int x1), some (.int x2), some (.int x3), some (.int x4), some (.int (x5 ||| (1 <<< (x6 &&& 31)))), some (.int (x6 + 1))]) (S' := []) hF tX12_whom_ok 46 3 rfl rfl rfl rfl ?_
        refine g_goto hF (dAt tX12_whom_ok 49 rfl rfl) rfl ?_
        exact X12_whom_b47_ok hD hF hS hE fu _ _ _ _ _ _ _ H
def X12_whom_f (a : Nat) (x1 x2 x3 x4 : Int32) (σ : Sig) : Option (Int32 × Sig) := (X12_isPlace_f x1 σ).bind fun v1 => if v1 = 0 then (some ((-1), σ)) else ((X12_isIn_f x2 0 9999 σ).bind fun v4 => if v4 = 0 then (some ((-1), σ)) else ((X12_isIn_f x3 0 23 σ).bind fun v7 => if v7 = 0 then (some ((-1), σ)) else ((X12_isIn_f x4 0 99 σ).bind fun v10 => if v10 = 0 then (some ((-1), σ)) else (X12_whom_b47 a FU x1 x2 x3 x4 0 0 σ))))
set_option maxRecDepth 4000 in
set_option maxHeartbeats 1000000 in
theorem X12_whom_ok {D : Nat} {τ : Tau} {nx : Nat} {a : Nat} {x1 x2 x3 x4 : Int32} {σ : Sig} {res : Int32} {rsg : Sig} (hD : 7 ≤ D) (hS : ShX12 τ a) (H : X12_whom_f a x1 x2 x3 x4 σ = some (res, rsg)) : Ok D 0 0 yX12_whom cX12_whom 7 (some .int) [.ref a, .int x1, .int x2, .int x3, .int x4] (τ, σ, nx) (some (.int res)) (τ, rsg, nx) := by
  refine ok_of (by decide +kernel) rfl (Nat.le_of_ble_eq_true rfl) (fun K X hF hE hN L0 hL0 => ?_)
  obtain rfl : [some (.ref a), some (.int x1), some (.int x2), some (.int x3), some (.int x4), none, none] = L0 := hL0
  have hF : Fx K X cX12_whom 7 RX12 D 0 0 := hF
  refine g_p (S' := [.int x1]) hF tX12_whom_ok 0 1 rfl rfl rfl rfl ?_
  obtain ⟨v1, e2, H⟩ := ob H
  refine g_cS (S := []) hF (X12_isPlace_ok (Nat.le_refl _)  e2 K) mbX12_isPlace msX12_isPlace mlX12_54 (by omega) (by decide) (dAt tX12_whom_ok 1 rfl rfl) rfl rfl (Nat.le_of_ble_eq_true rfl) rfl rfl (by decide) (by decide) rfl ?_
  obtain ⟨Ht3, Hf3⟩ := oi H
  refine g_if_eq hF (dAt tX12_whom_ok 2 rfl rfl) rfl (fun c3 => ?_) (fun c3 => ?_)
  · have H := Ht3 c3
    refine g_p (S' := [.int (-1)]) hF tX12_whom_ok 18 1 rfl rfl rfl rfl ?_
    exact g_iret hF (en_p H hE) (dAt tX12_whom_ok 19 rfl rfl) (by decide) (by decide)
  · have H := Hf3 c3
    refine g_p (S' := [.int 9999, .int 0, .int x2]) hF tX12_whom_ok 3 3 rfl rfl rfl rfl ?_
    obtain ⟨v4, e5, H⟩ := ob H
    refine g_cS (S := []) hF (X12_isIn_ok (Nat.le_refl _)  e5 K) mbX12_isIn msX12_isIn mlX12_50 (by omega) (by decide) (dAt tX12_whom_ok 6 rfl rfl) rfl rfl (Nat.le_of_ble_eq_true rfl) rfl rfl (by decide) (by decide) rfl ?_
    obtain ⟨Ht6, Hf6⟩ := oi H
    refine g_if_eq hF (dAt tX12_whom_ok 7 rfl rfl) rfl (fun c6 => ?_) (fun c6 => ?_)
    · have H := Ht6 c6
      refine g_p (S' := [.int (-1)]) hF tX12_whom_ok 18 1 rfl rfl rfl rfl ?_
      exact g_iret hF (en_p H hE) (dAt tX12_whom_ok 19 rfl rfl) (by decide) (by decide)
    · have H := Hf6 c6
      refine g_p (S' := [.int 23, .int 0, .int x3]) hF tX12_whom_ok 8 3 rfl rfl rfl rfl ?_
      obtain ⟨v7, e8, H⟩ := ob H
      refine g_cS (S := []) hF (X12_isIn_ok (Nat.le_refl _)  e8 K) mbX12_isIn msX12_isIn mlX12_50 (by omega) (by decide) (dAt tX12_whom_ok 11 rfl rfl) rfl rfl (Nat.le_of_ble_eq_true rfl) rfl rfl (by decide) (by decide) rfl ?_
      obtain ⟨Ht9, Hf9⟩ := oi H
      refine g_if_eq hF (dAt tX12_whom_ok 12 rfl rfl) rfl (fun c9 => ?_) (fun c9 => ?_)
      · have H := Ht9 c9
        refine g_p (S' := [.int (-1)]) hF tX12_whom_ok 18 1 rfl rfl rfl rfl ?_
        exact g_iret hF (en_p H hE) (dAt tX12_whom_ok 19 rfl rfl) (by decide) (by decide)
      · have H := Hf9 c9
        refine g_p (S' := [.int 99, .int 0, .int x4]) hF tX12_whom_ok 13 3 rfl rfl rfl rfl ?_
        obtain ⟨v10, e11, H⟩ := ob H
        refine g_cS (S := []) hF (X12_isIn_ok (Nat.le_refl _)  e11 K) mbX12_isIn msX12_isIn mlX12_50 (by omega) (by decide) (dAt tX12_whom_ok 16 rfl rfl) rfl rfl (Nat.le_of_ble_eq_true rfl) rfl rfl (by decide) (by decide) rfl ?_
        obtain ⟨Ht12, Hf12⟩ := oi H
        refine g_if_ne hF (dAt tX12_whom_ok 17 rfl rfl) rfl (fun c12 => ?_) (fun c12 => ?_)
        · have H := Hf12 c12
          refine g_p (L' := [some (.ref a), some (.int x1), some (.int x2), some (.int x3), some (.int x4), some (.int 0), some (.int 0)]) (S' := []) hF tX12_whom_ok 20 4 rfl rfl rfl rfl ?_
          exact X12_whom_b47_ok hD hF hS hE FU _ _ _ _ _ _ _ H
        · have H := Ht12 c12
          refine g_p (S' := [.int (-1)]) hF tX12_whom_ok 18 1 rfl rfl rfl rfl ?_
          exact g_iret hF (en_p H hE) (dAt tX12_whom_ok 19 rfl rfl) (by decide) (by decide)
def X12_setsOut_b2 (a : Nat) : Nat → Int32 → Sig → Option (Sig)
  | 0, _, _ => none
  | fu + 1, x1, σ => if 2550 ≤ x1 then (some σ) else ((ld 20240 (σ (a + 1)) x1).bind fun v2 => (st 2550 σ (a + 3) x1 v2).bind fun s4 => X12_setsOut_b2 a fu (x1 + 1) s4)
set_option maxRecDepth 4000 in
set_option maxHeartbeats 1000000 in
theorem X12_setsOut_b2_ok {K : Kt} {X : Cx} {D : Nat} {τ : Tau} {nx : Nat} {a : Nat} {res : Sig}  (hD : 1 ≤ D) (hF : Fx K X cX12_setsOut 2 RX12 D 0 0) (hS : ShX12 τ a) (hE : En K X none 0 0 none (τ, res, nx)) : ∀ (fu : Nat) (x1 : Int32) (σ : Sig), X12_setsOut_b2 a fu x1 σ = some res → G K X 2 0 0 2 [some (.ref a), some (.int x1)] [] (τ, σ, nx)
  | 0, _, _, H => nomatch H
  | fu + 1, x1, σ, H => by
    refine g_p (S' := [.int 2550, .int x1]) hF tX12_setsOut_ok 2 2 rfl rfl rfl rfl ?_
    obtain ⟨Ht1, Hf1⟩ := oi H
    refine g_icmp_ge hF (dAt tX12_setsOut_ok 4 rfl rfl) rfl (fun c1 => ?_) (fun c1 => ?_)
    · have H := Ht1 c1
      exact g_vret hF (en_v H hE) (dAt tX12_setsOut_ok 15 rfl rfl) (by decide) (by decide)
    · have H := Hf1 c1
      refine g_p (S' := [.ref a]) hF tX12_setsOut_ok 5 1 rfl rfl rfl rfl ?_
      refine g_getR hF (dAt tX12_setsOut_ok 6 rfl rfl) flX12_16 hS.1 rfl ?_
      refine g_p (S' := [.ref a, .int x1, .ref (a + 3)]) hF tX12_setsOut_ok 7 2 rfl rfl rfl rfl ?_
      refine g_getR hF (dAt tX12_setsOut_ok 9 rfl rfl) flX12_7 hS.1 rfl ?_
      refine g_p (S' := [.int x1, .ref (a + 1), .int x1, .ref (a + 3)]) hF tX12_setsOut_ok 10 1 rfl rfl rfl rfl ?_
      obtain ⟨v2, e3, H⟩ := ob H
      refine g_ild hF (dAt tX12_setsOut_ok 11 rfl rfl) hS.2.1 e3 ?_
      obtain ⟨s4, e5, H⟩ := ob H
      refine g_ist hF (dAt tX12_setsOut_ok 12 rfl rfl) hS.2.2.2.1 e5 ?_
      refine g_p (L' := [some (.ref a), some (.int (x1 + 1))]) (S' := []) hF tX12_setsOut_ok 13 1 rfl rfl rfl rfl ?_
      refine g_goto hF (dAt tX12_setsOut_ok 14 rfl rfl) rfl ?_
      exact X12_setsOut_b2_ok hD hF hS hE fu _ _ H
def X12_setsOut_f (a : Nat) (σ : Sig) : Option (Sig) := X12_setsOut_b2 a FU 0 σ
set_option maxRecDepth 4000 in
set_option maxHeartbeats 1000000 in
theorem X12_setsOut_ok {D : Nat} {τ : Tau} {nx : Nat} {a : Nat} {σ : Sig} {res : Sig} (hD : 1 ≤ D) (hS : ShX12 τ a) (H : X12_setsOut_f a σ = some res) : Ok D 0 0 yX12_setsOut cX12_setsOut 2 none [.ref a] (τ, σ, nx) none (τ, res, nx) := by
  refine ok_of (by decide +kernel) rfl (Nat.le_of_ble_eq_true rfl) (fun K X hF hE hN L0 hL0 => ?_)
  obtain rfl : [some (.ref a), none] = L0 := hL0
  have hF : Fx K X cX12_setsOut 2 RX12 D 0 0 := hF
  refine g_p (L' := [some (.ref a), some (.int 0)]) (S' := []) hF tX12_setsOut_ok 0 2 rfl rfl rfl rfl ?_
  exact X12_setsOut_b2_ok hD hF hS hE FU _ _ H
def X12_comesBack_b2 (a : Nat) : Nat → Int32 → Sig → Option (Sig)
  | 0, _, _ => none
  | fu + 1, x1, σ => if 2550 ≤ x1 then (some σ) else ((ld 2550 (σ (a + 3)) x1).bind fun v2 => (st 20240 σ (a + 1) x1 v2).bind fun s4 => X12_comesBack_b2 a fu (x1 + 1) s4)
set_option maxRecDepth 4000 in
set_option maxHeartbeats 1000000 in
theorem X12_comesBack_b2_ok {K : Kt} {X : Cx} {D : Nat} {τ : Tau} {nx : Nat} {a : Nat} {res : Sig}  (hD : 1 ≤ D) (hF : Fx K X cX12_comesBack 2 RX12 D 0 0) (hS : ShX12 τ a) (hE : En K X none 0 0 none (τ, res, nx)) : ∀ (fu : Nat) (x1 : Int32) (σ : Sig), X12_comesBack_b2 a fu x1 σ = some res → G K X 2 0 0 2 [some (.ref a), some (.int x1)] [] (τ, σ, nx)
  | 0, _, _, H => nomatch H
  | fu + 1, x1, σ, H => by
    refine g_p (S' := [.int 2550, .int x1]) hF tX12_comesBack_ok 2 2 rfl rfl rfl rfl ?_
    obtain ⟨Ht1, Hf1⟩ := oi H
    refine g_icmp_ge hF (dAt tX12_comesBack_ok 4 rfl rfl) rfl (fun c1 => ?_) (fun c1 => ?_)
    · have H := Ht1 c1
      exact g_vret hF (en_v H hE) (dAt tX12_comesBack_ok 15 rfl rfl) (by decide) (by decide)
    · have H := Hf1 c1
      refine g_p (S' := [.ref a]) hF tX12_comesBack_ok 5 1 rfl rfl rfl rfl ?_
      refine g_getR hF (dAt tX12_comesBack_ok 6 rfl rfl) flX12_7 hS.1 rfl ?_
      refine g_p (S' := [.ref a, .int x1, .ref (a + 1)]) hF tX12_comesBack_ok 7 2 rfl rfl rfl rfl ?_
      refine g_getR hF (dAt tX12_comesBack_ok 9 rfl rfl) flX12_16 hS.1 rfl ?_
      refine g_p (S' := [.int x1, .ref (a + 3), .int x1, .ref (a + 1)]) hF tX12_comesBack_ok 10 1 rfl rfl rfl rfl ?_
      obtain ⟨v2, e3, H⟩ := ob H
      refine g_ild hF (dAt tX12_comesBack_ok 11 rfl rfl) hS.2.2.2.1 e3 ?_
      obtain ⟨s4, e5, H⟩ := ob H
      refine g_ist hF (dAt tX12_comesBack_ok 12 rfl rfl) hS.2.1 e5 ?_
      refine g_p (L' := [some (.ref a), some (.int (x1 + 1))]) (S' := []) hF tX12_comesBack_ok 13 1 rfl rfl rfl rfl ?_
      refine g_goto hF (dAt tX12_comesBack_ok 14 rfl rfl) rfl ?_
      exact X12_comesBack_b2_ok hD hF hS hE fu _ _ H
def X12_comesBack_f (a : Nat) (σ : Sig) : Option (Sig) := X12_comesBack_b2 a FU 0 σ
set_option maxRecDepth 4000 in
set_option maxHeartbeats 1000000 in
theorem X12_comesBack_ok {D : Nat} {τ : Tau} {nx : Nat} {a : Nat} {σ : Sig} {res : Sig} (hD : 1 ≤ D) (hS : ShX12 τ a) (H : X12_comesBack_f a σ = some res) : Ok D 0 0 yX12_comesBack cX12_comesBack 2 none [.ref a] (τ, σ, nx) none (τ, res, nx) := by
  refine ok_of (by decide +kernel) rfl (Nat.le_of_ble_eq_true rfl) (fun K X hF hE hN L0 hL0 => ?_)
  obtain rfl : [some (.ref a), none] = L0 := hL0
  have hF : Fx K X cX12_comesBack 2 RX12 D 0 0 := hF
  refine g_p (L' := [some (.ref a), some (.int 0)]) (S' := []) hF tX12_comesBack_ok 0 2 rfl rfl rfl rfl ?_
  exact X12_comesBack_b2_ok hD hF hS hE FU _ _ H
def X12_quiet_b120 (a : Nat) (k36 : Int32 → Int32 → Int32 → Int32 → Int32 → Int32 → Sig → Option (Int32 × Sig)) (x1 x2 x4 x5 x6 x8 y0 : Int32) (σ : Sig) : Option (Int32 × Sig) := if x8 ≤ x4 then (k36 x1 x2 y0 x4 x5 (x6 + 1) σ) else (k36 x1 x2 y0 x8 x5 (x6 + 1) σ)
set_option maxRecDepth 4000 in
set_option maxHeartbeats 1000000 in
theorem X12_quiet_b120_ok {K : Kt} {X : Cx} {D : Nat} {τ : Tau} {nx : Nat} {a : Nat} {res : Int32} {rsg : Sig}  (hD : 8 ≤ D) (hF : Fx K X cX12_quiet 9 RX12 D 0 0) (hS : ShX12 τ a) (hE : En K X (some .int) 0 0 (some (.int res)) (τ, rsg, nx)) {k36 : Int32 → Int32 → Int32 → Int32 → Int32 → Int32 → Sig → Option (Int32 × Sig)} (hk36 : ∀ (x1 x2 x3 x4 x5 x6 : Int32) (σ : Sig), k36 x1 x2 x3 x4 x5 x6 σ = some (res, rsg) → G K X 9 0 0 36 [some (.ref a), some (.int x1), some (.int x2), some (.int x3), some (.int x4), some (.int x5), some (.int x6), none, none] [] (τ, σ, nx)) {x1 x2 x4 x5 x6 x8 y0 : Int32} {σ : Sig} (H : X12_quiet_b120 a k36 x1 x2 x4 x5 x6 x8 y0 σ = some (res, rsg)) : G K X 9 0 0 120 [some (.ref a), some (.int x1), some (.int x2), none, some (.int x4), some (.int x5), some (.int x6), none, some (.int x8)] [.int y0] (τ, σ, nx) := by
  refine g_p (L' := [some (.ref a), some (.int x1), some (.int x2), some (.int y0), some (.int x4), some (.int x5), some (.int x6), none, some (.int x8)]) (S' := [.int x4, .int x8]) hF tX12_quiet_ok 63 3 rfl rfl rfl rfl ?_
  obtain ⟨Ht1, Hf1⟩ := oi H
  refine g_icmp_le hF (dAt tX12_quiet_ok 66 rfl rfl) rfl (fun c1 => ?_) (fun c1 => ?_)
  · have H := Ht1 c1
    refine g_p (L' := [some (.ref a), some (.int x1), some (.int x2), some (.int y0), some (.int x4), some (.int x5), some (.int (x6 + 1)), none, some (.int x8)]) (S' := []) hF tX12_quiet_ok 69 3 rfl rfl rfl rfl ?_
    refine g_goto hF (dAt tX12_quiet_ok 72 rfl rfl) rfl ?_
    refine g_m [true, true, true, true, true, true, true, false, false] rfl ?_
    exact hk36 _ _ _ _ _ _ _ H
  · have H := Hf1 c1
    refine g_p (S' := [.int x8]) hF tX12_quiet_ok 67 1 rfl rfl rfl rfl ?_
    refine g_goto hF (dAt tX12_quiet_ok 68 rfl rfl) rfl ?_
    refine g_p (L' := [some (.ref a), some (.int x1), some (.int x2), some (.int y0), some (.int x8), some (.int x5), some (.int (x6 + 1)), none, some (.int x8)]) (S' := []) hF tX12_quiet_ok 70 2 rfl rfl rfl rfl ?_
    refine g_goto hF (dAt tX12_quiet_ok 72 rfl rfl) rfl ?_
    refine g_m [true, true, true, true, true, true, true, false, false] rfl ?_
    exact hk36 _ _ _ _ _ _ _ H
def X12_quiet_b90 (a : Nat) (k36 : Int32 → Int32 → Int32 → Int32 → Int32 → Int32 → Sig → Option (Int32 × Sig)) (x1 x2 x3 x4 x5 x6 x8 : Int32) (σ : Sig) : Option (Int32 × Sig) := (X12_greatest_f a σ).bind fun v1 => if v1 ≤ 0 then (if x3 = (-1) then (X12_quiet_b120 a k36 x1 x2 x4 x5 x6 x8 x8 σ) else (if x3 ≤ x8 then (X12_quiet_b120 a k36 x1 x2 x4 x5 x6 x8 x3 σ) else (X12_quiet_b120 a k36 x1 x2 x4 x5 x6 x8 x8 σ))) else (k36 x1 x2 x3 x4 (x5 + 1) (x6 + 1) σ)
set_option maxRecDepth 4000 in
set_option maxHeartbeats 1000000 in
theorem X12_quiet_b90_ok {K : Kt} {X : Cx} {D : Nat} {τ : Tau} {nx : Nat} {a : Nat} {res : Int32} {rsg : Sig}  (hD : 8 ≤ D) (hF : Fx K X cX12_quiet 9 RX12 D 0 0) (hS : ShX12 τ a) (hE : En K X (some .int) 0 0 (some (.int res)) (τ, rsg, nx)) {k36 : Int32 → Int32 → Int32 → Int32 → Int32 → Int32 → Sig → Option (Int32 × Sig)} (hk36 : ∀ (x1 x2 x3 x4 x5 x6 : Int32) (σ : Sig), k36 x1 x2 x3 x4 x5 x6 σ = some (res, rsg) → G K X 9 0 0 36 [some (.ref a), some (.int x1), some (.int x2), some (.int x3), some (.int x4), some (.int x5), some (.int x6), none, none] [] (τ, σ, nx)) {x1 x2 x3 x4 x5 x6 x8 : Int32} {σ : Sig} (H : X12_quiet_b90 a k36 x1 x2 x3 x4 x5 x6 x8 σ = some (res, rsg)) : G K X 9 0 0 90 [some (.ref a), some (.int x1), some (.int x2), some (.int x3), some (.int x4), some (.int x5), some (.int x6), none, some (.int x8)] [] (τ, σ, nx) := by
  refine g_p (S' := [.ref a]) hF tX12_quiet_ok 49 1 rfl rfl rfl rfl ?_
  obtain ⟨v1, e2, H⟩ := ob H
  refine g_cV (S := []) hF (X12_greatest_ok (Nat.le_refl _) hS e2 K) mbX12_greatest mvX12_greatest mlX12_311 (by omega) (by decide) (dAt tX12_quiet_ok 50 rfl rfl) hS.1 rfl rfl rfl (Nat.le_of_ble_eq_true rfl) rfl rfl (by decide) (by decide) rfl ?_
  obtain ⟨Ht3, Hf3⟩ := oi H
  refine g_if_le hF (dAt tX12_quiet_ok 51 rfl rfl) rfl (fun c3 => ?_) (fun c3 => ?_)
  · have H := Ht3 c3
    refine g_p (S' := [.int (-1), .int x3]) hF tX12_quiet_ok 54 2 rfl rfl rfl rfl ?_
    obtain ⟨Ht4, Hf4⟩ := oi H
    refine g_icmp_eq hF (dAt tX12_quiet_ok 56 rfl rfl) rfl (fun c4 => ?_) (fun c4 => ?_)
    · have H := Ht4 c4
      refine g_p (S' := [.int x8]) hF tX12_quiet_ok 60 1 rfl rfl rfl rfl ?_
      refine g_goto hF (dAt tX12_quiet_ok 61 rfl rfl) rfl ?_
      refine g_m [true, true, true, false, true, true, true, false, true] rfl ?_
      exact X12_quiet_b120_ok hD hF hS hE hk36 H
    · have H := Hf4 c4
      refine g_p (S' := [.int x3, .int x8]) hF tX12_quiet_ok 57 2 rfl rfl rfl rfl ?_
      obtain ⟨Ht5, Hf5⟩ := oi H
      refine g_icmp_ge hF (dAt tX12_quiet_ok 59 rfl rfl) rfl (fun c5 => ?_) (fun c5 => ?_)
      · have H := Ht5 c5
        refine g_p (S' := [.int x3]) hF tX12_quiet_ok 62 1 rfl rfl rfl rfl ?_
        refine g_m [true, true, true, false, true, true, true, false, true] rfl ?_
        exact X12_quiet_b120_ok hD hF hS hE hk36 H
      · have H := Hf5 c5
        refine g_p (S' := [.int x8]) hF tX12_quiet_ok 60 1 rfl rfl rfl rfl ?_
        refine g_goto hF (dAt tX12_quiet_ok 61 rfl rfl) rfl ?_
        refine g_m [true, true, true, false, true, true, true, false, true] rfl ?_
        exact X12_quiet_b120_ok hD hF hS hE hk36 H
  · have H := Hf3 c3
    refine g_p (L' := [some (.ref a), some (.int x1), some (.int x2), some (.int x3), some (.int x4), some (.int (x5 + 1)), some (.int x6), none, some (.int x8)]) (S' := []) hF tX12_quiet_ok 52 1 rfl rfl rfl rfl ?_
    refine g_goto hF (dAt tX12_quiet_ok 53 rfl rfl) rfl ?_
    refine g_p (L' := [some (.ref a), some (.int x1), some (.int x2), some (.int x3), some (.int x4), some (.int (x5 + 1)), some (.int (x6 + 1)), none, some (.int x8)]) (S' := []) hF tX12_quiet_ok 71 1 rfl rfl rfl rfl ?_
    refine g_goto hF (dAt tX12_quiet_ok 72 rfl rfl) rfl ?_
    refine g_m [true, true, true, true, true, true, true, false, false] rfl ?_
    exact hk36 _ _ _ _ _ _ _ H
def X12_quiet_b65 (a : Nat) (k36 : Int32 → Int32 → Int32 → Int32 → Int32 → Int32 → Sig → Option (Int32 × Sig)) : Nat → Int32 → Int32 → Int32 → Int32 → Int32 → Int32 → Int32 → Sig → Option (Int32 × Sig)
  | 0, _, _, _, _, _, _, _, _ => none
  | fu + 1, x1, x2, x3, x4, x5, x6, x8, σ => if 5760 ≤ x8 then (X12_quiet_b90 a k36 x1 x2 x3 x4 x5 x6 x8 σ) else ((X12_greatest_f a σ).bind fun v2 => if v2 ≤ 0 then (X12_quiet_b90 a k36 x1 x2 x3 x4 x5 x6 x8 σ) else ((X12_aQuarter_f a σ).bind fun s5 => X12_quiet_b65 a k36 fu x1 x2 x3 x4 x5 x6 (x8 + 1) s5))
set_option maxRecDepth 4000 in
set_option maxHeartbeats 1000000 in
theorem X12_quiet_b65_ok {K : Kt} {X : Cx} {D : Nat} {τ : Tau} {nx : Nat} {a : Nat} {res : Int32} {rsg : Sig}  (hD : 8 ≤ D) (hF : Fx K X cX12_quiet 9 RX12 D 0 0) (hS : ShX12 τ a) (hE : En K X (some .int) 0 0 (some (.int res)) (τ, rsg, nx)) {k36 : Int32 → Int32 → Int32 → Int32 → Int32 → Int32 → Sig → Option (Int32 × Sig)} (hk36 : ∀ (x1 x2 x3 x4 x5 x6 : Int32) (σ : Sig), k36 x1 x2 x3 x4 x5 x6 σ = some (res, rsg) → G K X 9 0 0 36 [some (.ref a), some (.int x1), some (.int x2), some (.int x3), some (.int x4), some (.int x5), some (.int x6), none, none] [] (τ, σ, nx)) : ∀ (fu : Nat) (x1 x2 x3 x4 x5 x6 x8 : Int32) (σ : Sig), X12_quiet_b65 a k36 fu x1 x2 x3 x4 x5 x6 x8 σ = some (res, rsg) → G K X 9 0 0 65 [some (.ref a), some (.int x1), some (.int x2), some (.int x3), some (.int x4), some (.int x5), some (.int x6), none, some (.int x8)] [] (τ, σ, nx)
  | 0, _, _, _, _, _, _, _, _, H => nomatch H
  | fu + 1, x1, x2, x3, x4, x5, x6, x8, σ, H => by
    refine g_p (S' := [.int 5760, .int x8]) hF tX12_quiet_ok 39 2 rfl rfl rfl rfl ?_
    obtain ⟨Ht1, Hf1⟩ := oi H
    refine g_icmp_ge hF (dAt tX12_quiet_ok 41 rfl rfl) rfl (fun c1 => ?_) (fun c1 => ?_)
    · have H := Ht1 c1
      exact X12_quiet_b90_ok hD hF hS hE hk36 H
    · have H := Hf1 c1
      refine g_p (S' := [.ref a]) hF tX12_quiet_ok 42 1 rfl rfl rfl rfl ?_
      obtain ⟨v2, e3, H⟩ := ob H
      refine g_cV (S := []) hF (X12_greatest_ok (Nat.le_refl _) hS e3 K) mbX12_greatest mvX12_greatest mlX12_311 (by omega) (by decide) (dAt tX12_quiet_ok 43 rfl rfl) hS.1 rfl rfl rfl (Nat.le_of_ble_eq_true rfl) rfl rfl (by decide) (by decide) rfl ?_
      obtain ⟨Ht4, Hf4⟩ := oi H
      refine g_if_le hF (dAt tX12_quiet_ok 44 rfl rfl) rfl (fun c4 => ?_) (fun c4 => ?_)
      · have H := Ht4 c4
        exact X12_quiet_b90_ok hD hF hS hE hk36 H
      · have H := Hf4 c4
        refine g_p (S' := [.ref a]) hF tX12_quiet_ok 45 1 rfl rfl rfl rfl ?_
        obtain ⟨s5, e6, H⟩ := ob H
        refine g_cV (S := []) hF (X12_aQuarter_ok (Nat.le_refl _) hS e6 K) mbX12_aQuarter mvX12_aQuarter mlX12_284 (by omega) (by decide) (dAt tX12_quiet_ok 46 rfl rfl) hS.1 rfl rfl rfl (Nat.le_of_ble_eq_true rfl) rfl rfl (by decide) (by decide) rfl ?_
        refine g_p (L' := [some (.ref a), some (.int x1), some (.int x2), some (.int x3), some (.int x4), some (.int x5), some (.int x6), none, some (.int (x8 + 1))]) (S' := []) hF tX12_quiet_ok 47 1 rfl rfl rfl rfl ?_
        refine g_goto hF (dAt tX12_quiet_ok 48 rfl rfl) rfl ?_
        exact X12_quiet_b65_ok hD hF hS hE hk36 fu _ _ _ _ _ _ _ _ H
def X12_quiet_b36 (a : Nat) : Nat → Int32 → Int32 → Int32 → Int32 → Int32 → Int32 → Sig → Option (Int32 × Sig)
  | 0, _, _, _, _, _, _, _ => none
  | fu + 1, x1, x2, x3, x4, x5, x6, σ => if x1 ≤ x6 then ((X12_comesBack_f a σ).bind fun s2 => if x2 = 0 then (some (x3, s2)) else (if x2 = 1 then (some (x4, s2)) else (some (x5, s2)))) else ((ld 20240 (σ (a + 1)) 0).bind fun v6 => (X12_comesBack_f a σ).bind fun s8 => (st 20240 s8 (a + 1) 0 v6).bind fun s10 => X12_quiet_b65 a (X12_quiet_b36 a fu) FU x1 x2 x3 x4 x5 x6 0 s10)
set_option maxRecDepth 4000 in
set_option maxHeartbeats 1000000 in
theorem X12_quiet_b36_ok {K : Kt} {X : Cx} {D : Nat} {τ : Tau} {nx : Nat} {a : Nat} {res : Int32} {rsg : Sig}  (hD : 8 ≤ D) (hF : Fx K X cX12_quiet 9 RX12 D 0 0) (hS : ShX12 τ a) (hE : En K X (some .int) 0 0 (some (.int res)) (τ, rsg, nx)) : ∀ (fu : Nat) (x1 x2 x3 x4 x5 x6 : Int32) (σ : Sig), X12_quiet_b36 a fu x1 x2 x3 x4 x5 x6 σ = some (res, rsg) → G K X 9 0 0 36 [some (.ref a), some (.int x1), some (.int x2), some (.int x3), some (.int x4), some (.int x5), some (.int x6), none, none] [] (τ, σ, nx)
  | 0, _, _, _, _, _, _, _, H => nomatch H
  | fu + 1, x1, x2, x3, x4, x5, x6, σ, H => by
    refine g_p (S' := [.int x1, .int x6]) hF tX12_quiet_ok 22 2 rfl rfl rfl rfl ?_
    obtain ⟨Ht1, Hf1⟩ := oi H
    refine g_icmp_ge hF (dAt tX12_quiet_ok 24 rfl rfl) rfl (fun c1 => ?_) (fun c1 => ?_)
    · have H := Ht1 c1
      refine g_p (S' := [.ref a]) hF tX12_quiet_ok 73 1 rfl rfl rfl rfl ?_
      obtain ⟨s2, e3, H⟩ := ob H
      refine g_cV (S := []) hF (X12_comesBack_ok (Nat.le_refl _) hS e3 K) mbX12_comesBack mvX12_comesBack mlX12_337 (by omega) (by decide) (dAt tX12_quiet_ok 74 rfl rfl) hS.1 rfl rfl rfl (Nat.le_of_ble_eq_true rfl) rfl rfl (by decide) (by decide) rfl ?_
      refine g_p (S' := [.int x2]) hF tX12_quiet_ok 75 1 rfl rfl rfl rfl ?_
      obtain ⟨Ht4, Hf4⟩ := oi H
      refine g_if_ne hF (dAt tX12_quiet_ok 76 rfl rfl) rfl (fun c4 => ?_) (fun c4 => ?_)
      · have H := Hf4 c4
        refine g_p (S' := [.int 1, .int x2]) hF tX12_quiet_ok 79 2 rfl rfl rfl rfl ?_
        obtain ⟨Ht5, Hf5⟩ := oi H
        refine g_icmp_ne hF (dAt tX12_quiet_ok 81 rfl rfl) rfl (fun c5 => ?_) (fun c5 => ?_)
        · have H := Hf5 c5
          refine g_p (S' := [.int x5]) hF tX12_quiet_ok 84 1 rfl rfl rfl rfl ?_
          exact g_iret hF (en_p H hE) (dAt tX12_quiet_ok 85 rfl rfl) (by decide) (by decide)
        · have H := Ht5 c5
          refine g_p (S' := [.int x4]) hF tX12_quiet_ok 82 1 rfl rfl rfl rfl ?_
          refine g_goto hF (dAt tX12_quiet_ok 83 rfl rfl) rfl ?_
          exact g_iret hF (en_p H hE) (dAt tX12_quiet_ok 85 rfl rfl) (by decide) (by decide)
      · have H := Ht4 c4
        refine g_p (S' := [.int x3]) hF tX12_quiet_ok 77 1 rfl rfl rfl rfl ?_
        refine g_goto hF (dAt tX12_quiet_ok 78 rfl rfl) rfl ?_
        exact g_iret hF (en_p H hE) (dAt tX12_quiet_ok 85 rfl rfl) (by decide) (by decide)
    · have H := Hf1 c1
      refine g_p (S' := [.ref a]) hF tX12_quiet_ok 25 1 rfl rfl rfl rfl ?_
      refine g_getR hF (dAt tX12_quiet_ok 26 rfl rfl) flX12_7 hS.1 rfl ?_
      refine g_p (S' := [.int 0, .ref (a + 1)]) hF tX12_quiet_ok 27 1 rfl rfl rfl rfl ?_
      obtain ⟨v6, e7, H⟩ := ob H
      refine g_ild hF (dAt tX12_quiet_ok 28 rfl rfl) hS.2.1 e7 ?_
      refine g_p (L' := [some (.ref a), some (.int x1), some (.int x2), some (.int x3), some (.int x4), some (.int x5), some (.int x6), some (.int v6), none]) (S' := [.ref a]) hF tX12_quiet_ok 29 2 rfl rfl rfl rfl ?_
      obtain ⟨s8, e9, H⟩ := ob H
      refine g_cV (S := []) hF (X12_comesBack_ok (Nat.le_refl _) hS e9 K) mbX12_comesBack mvX12_comesBack mlX12_337 (by omega) (by decide) (dAt tX12_quiet_ok 31 rfl rfl) hS.1 rfl rfl rfl (Nat.le_of_ble_eq_true rfl) rfl rfl (by decide) (by decide) rfl ?_
      refine g_p (S' := [.ref a]) hF tX12_quiet_ok 32 1 rfl rfl rfl rfl ?_
      refine g_getR hF (dAt tX12_quiet_ok 33 rfl rfl) flX12_7 hS.1 rfl ?_
      refine g_p (S' := [.int v6, .int 0, .ref (a + 1)]) hF tX12_quiet_ok 34 2 rfl rfl rfl rfl ?_
      obtain ⟨s10, e11, H⟩ := ob H
      refine g_ist hF (dAt tX12_quiet_ok 36 rfl rfl) hS.2.1 e11 ?_
      refine g_p (L' := [some (.ref a), some (.int x1), some (.int x2), some (.int x3), some (.int x4), some (.int x5), some (.int x6), some (.int v6), some (.int 0)]) (S' := []) hF tX12_quiet_ok 37 2 rfl rfl rfl rfl ?_
      refine g_m [true, true, true, true, true, true, true, false, true] rfl ?_
      exact X12_quiet_b65_ok hD hF hS hE (fun _ _ _ _ _ _ _ H => X12_quiet_b36_ok hD hF hS hE fu _ _ _ _ _ _ _ H) FU _ _ _ _ _ _ _ _ H
def X12_quiet_f (a : Nat) (x1 x2 : Int32) (σ : Sig) : Option (Int32 × Sig) := (X12_isIn_f x1 1 8 σ).bind fun v1 => if v1 = 0 then (some ((-1), σ)) else ((X12_isIn_f x2 0 2 σ).bind fun v4 => if v4 = 0 then (some ((-1), σ)) else ((X12_setsOut_f a σ).bind fun s7 => X12_quiet_b36 a FU x1 x2 (-1) (-1) 0 0 s7))
set_option maxRecDepth 4000 in
set_option maxHeartbeats 1000000 in
theorem X12_quiet_ok {D : Nat} {τ : Tau} {nx : Nat} {a : Nat} {x1 x2 : Int32} {σ : Sig} {res : Int32} {rsg : Sig} (hD : 8 ≤ D) (hS : ShX12 τ a) (H : X12_quiet_f a x1 x2 σ = some (res, rsg)) : Ok D 0 0 yX12_quiet cX12_quiet 9 (some .int) [.ref a, .int x1, .int x2] (τ, σ, nx) (some (.int res)) (τ, rsg, nx) := by
  refine ok_of (by decide +kernel) rfl (Nat.le_of_ble_eq_true rfl) (fun K X hF hE hN L0 hL0 => ?_)
  obtain rfl : [some (.ref a), some (.int x1), some (.int x2), none, none, none, none, none, none] = L0 := hL0
  have hF : Fx K X cX12_quiet 9 RX12 D 0 0 := hF
  refine g_p (S' := [.int 8, .int 1, .int x1]) hF tX12_quiet_ok 0 3 rfl rfl rfl rfl ?_
  obtain ⟨v1, e2, H⟩ := ob H
  refine g_cS (S := []) hF (X12_isIn_ok (Nat.le_refl _)  e2 K) mbX12_isIn msX12_isIn mlX12_50 (by omega) (by decide) (dAt tX12_quiet_ok 3 rfl rfl) rfl rfl (Nat.le_of_ble_eq_true rfl) rfl rfl (by decide) (by decide) rfl ?_
  obtain ⟨Ht3, Hf3⟩ := oi H
  refine g_if_eq hF (dAt tX12_quiet_ok 4 rfl rfl) rfl (fun c3 => ?_) (fun c3 => ?_)
  · have H := Ht3 c3
    refine g_p (S' := [.int (-1)]) hF tX12_quiet_ok 10 1 rfl rfl rfl rfl ?_
    exact g_iret hF (en_p H hE) (dAt tX12_quiet_ok 11 rfl rfl) (by decide) (by decide)
  · have H := Hf3 c3
    refine g_p (S' := [.int 2, .int 0, .int x2]) hF tX12_quiet_ok 5 3 rfl rfl rfl rfl ?_
    obtain ⟨v4, e5, H⟩ := ob H
    refine g_cS (S := []) hF (X12_isIn_ok (Nat.le_refl _)  e5 K) mbX12_isIn msX12_isIn mlX12_50 (by omega) (by decide) (dAt tX12_quiet_ok 8 rfl rfl) rfl rfl (Nat.le_of_ble_eq_true rfl) rfl rfl (by decide) (by decide) rfl ?_
    obtain ⟨Ht6, Hf6⟩ := oi H
    refine g_if_ne hF (dAt tX12_quiet_ok 9 rfl rfl) rfl (fun c6 => ?_) (fun c6 => ?_)
    · have H := Hf6 c6
      refine g_p (S' := [.ref a]) hF tX12_quiet_ok 12 1 rfl rfl rfl rfl ?_
      obtain ⟨s7, e8, H⟩ := ob H
      refine g_cV (S := []) hF (X12_setsOut_ok (Nat.le_refl _) hS e8 K) mbX12_setsOut mvX12_setsOut mlX12_334 (by omega) (by decide) (dAt tX12_quiet_ok 13 rfl rfl) hS.1 rfl rfl rfl (Nat.le_of_ble_eq_true rfl) rfl rfl (by decide) (by decide) rfl ?_
      refine g_p (L' := [some (.ref a), some (.int x1), some (.int x2), some (.int (-1)), some (.int (-1)), some (.int 0), some (.int 0), none, none]) (S' := []) hF tX12_quiet_ok 14 8 rfl rfl rfl rfl ?_
      exact X12_quiet_b36_ok hD hF hS hE FU _ _ _ _ _ _ _ H
    · have H := Ht6 c6
      refine g_p (S' := [.int (-1)]) hF tX12_quiet_ok 10 1 rfl rfl rfl rfl ?_
      exact g_iret hF (en_p H hE) (dAt tX12_quiet_ok 11 rfl rfl) (by decide) (by decide)
def X12_leads_b34 (a : Nat) : Nat → Int32 → Sig → Option (Sig)
  | 0, _, _ => none
  | fu + 1, x3, σ => if 4 ≤ x3 then ((X12_comesBack_f a σ).bind fun s2 => some s2) else ((ld 20240 (σ (a + 1)) (12 + x3)).bind fun v4 => (ld 2550 (σ (a + 3)) (12 + x3)).bind fun v6 => (st 4 σ (a + 10) x3 (v4 - v6)).bind fun s8 => X12_leads_b34 a fu (x3 + 1) s8)
set_option maxRecDepth 4000 in
set_option maxHeartbeats 1000000 in
theorem X12_leads_b34_ok {K : Kt} {X : Cx} {D : Nat} {τ : Tau} {nx : Nat} {a : Nat} {res : Sig}  (hD : 8 ≤ D) (hF : Fx K X cX12_leads 4 RX12 D 0 0) (hS : ShX12 τ a) (hE : En K X none 0 0 none (τ, res, nx)) : ∀ (fu : Nat) (x3 : Int32) (σ : Sig), X12_leads_b34 a fu x3 σ = some res → G K X 4 0 0 34 [some (.ref a), none, none, some (.int x3)] [] (τ, σ, nx)
  | 0, _, _, H => nomatch H
  | fu + 1, x3, σ, H => by
    refine g_p (S' := [.int 4, .int x3]) hF tX12_leads_ok 20 2 rfl rfl rfl rfl ?_
    obtain ⟨Ht1, Hf1⟩ := oi H
    refine g_icmp_ge hF (dAt tX12_leads_ok 22 rfl rfl) rfl (fun c1 => ?_) (fun c1 => ?_)
    · have H := Ht1 c1
      refine g_p (S' := [.ref a]) hF tX12_leads_ok 42 1 rfl rfl rfl rfl ?_
      obtain ⟨s2, e3, H⟩ := ob H
      refine g_cV (S := []) hF (X12_comesBack_ok (Nat.le_refl _) hS e3 K) mbX12_comesBack mvX12_comesBack mlX12_337 (by omega) (by decide) (dAt tX12_leads_ok 43 rfl rfl) hS.1 rfl rfl rfl (Nat.le_of_ble_eq_true rfl) rfl rfl (by decide) (by decide) rfl ?_
      exact g_vret hF (en_v H hE) (dAt tX12_leads_ok 44 rfl rfl) (by decide) (by decide)
    · have H := Hf1 c1
      refine g_p (S' := [.ref a]) hF tX12_leads_ok 23 1 rfl rfl rfl rfl ?_
      refine g_getR hF (dAt tX12_leads_ok 24 rfl rfl) flX12_41 hS.1 rfl ?_
      refine g_p (S' := [.ref a, .int x3, .ref (a + 10)]) hF tX12_leads_ok 25 2 rfl rfl rfl rfl ?_
      refine g_getR hF (dAt tX12_leads_ok 27 rfl rfl) flX12_7 hS.1 rfl ?_
      refine g_p (S' := [.int (12 + x3), .ref (a + 1), .int x3, .ref (a + 10)]) hF tX12_leads_ok 28 3 rfl rfl rfl rfl ?_
      obtain ⟨v4, e5, H⟩ := ob H
      refine g_ild hF (dAt tX12_leads_ok 31 rfl rfl) hS.2.1 e5 ?_
      refine g_p (S' := [.ref a, .int v4, .int x3, .ref (a + 10)]) hF tX12_leads_ok 32 1 rfl rfl rfl rfl ?_
      refine g_getR hF (dAt tX12_leads_ok 33 rfl rfl) flX12_16 hS.1 rfl ?_
      refine g_p (S' := [.int (12 + x3), .ref (a + 3), .int v4, .int x3, .ref (a + 10)]) hF tX12_leads_ok 34 3 rfl rfl rfl rfl ?_
      obtain ⟨v6, e7, H⟩ := ob H
      refine g_ild hF (dAt tX12_leads_ok 37 rfl rfl) hS.2.2.2.1 e7 ?_
      refine g_p (S' := [.int (v4 - v6), .int x3, .ref (a + 10)]) hF tX12_leads_ok 38 1 rfl rfl rfl rfl ?_
      obtain ⟨s8, e9, H⟩ := ob H
      refine g_ist hF (dAt tX12_leads_ok 39 rfl rfl) hS.2.2.2.2.2.2.2.2.2.2 e9 ?_
      refine g_p (L' := [some (.ref a), none, none, some (.int (x3 + 1))]) (S' := []) hF tX12_leads_ok 40 1 rfl rfl rfl rfl ?_
      refine g_goto hF (dAt tX12_leads_ok 41 rfl rfl) rfl ?_
      exact X12_leads_b34_ok hD hF hS hE fu _ _ H
def X12_leads_b14 (a : Nat) : Nat → Int32 → Int32 → Sig → Option (Sig)
  | 0, _, _, _ => none
  | fu + 1, x1, x3, σ => if (96 * x1) ≤ x3 then (X12_leads_b34 a FU 0 σ) else ((X12_aQuarter_f a σ).bind fun s2 => X12_leads_b14 a fu x1 (x3 + 1) s2)
set_option maxRecDepth 4000 in
set_option maxHeartbeats 1000000 in
theorem X12_leads_b14_ok {K : Kt} {X : Cx} {D : Nat} {τ : Tau} {nx : Nat} {a : Nat} {res : Sig}  (hD : 8 ≤ D) (hF : Fx K X cX12_leads 4 RX12 D 0 0) (hS : ShX12 τ a) (hE : En K X none 0 0 none (τ, res, nx)) : ∀ (fu : Nat) (x1 x3 : Int32) (σ : Sig), X12_leads_b14 a fu x1 x3 σ = some res → G K X 4 0 0 14 [some (.ref a), some (.int x1), none, some (.int x3)] [] (τ, σ, nx)
  | 0, _, _, _, H => nomatch H
  | fu + 1, x1, x3, σ, H => by
    refine g_p (S' := [.int (96 * x1), .int x3]) hF tX12_leads_ok 9 4 rfl rfl rfl rfl ?_
    obtain ⟨Ht1, Hf1⟩ := oi H
    refine g_icmp_ge hF (dAt tX12_leads_ok 13 rfl rfl) rfl (fun c1 => ?_) (fun c1 => ?_)
    · have H := Ht1 c1
      refine g_p (L' := [some (.ref a), some (.int x1), none, some (.int 0)]) (S' := []) hF tX12_leads_ok 18 2 rfl rfl rfl rfl ?_
      refine g_m [true, false, false, true] rfl ?_
      exact X12_leads_b34_ok hD hF hS hE FU _ _ H
    · have H := Hf1 c1
      refine g_p (S' := [.ref a]) hF tX12_leads_ok 14 1 rfl rfl rfl rfl ?_
      obtain ⟨s2, e3, H⟩ := ob H
      refine g_cV (S := []) hF (X12_aQuarter_ok (Nat.le_refl _) hS e3 K) mbX12_aQuarter mvX12_aQuarter mlX12_284 (by omega) (by decide) (dAt tX12_leads_ok 15 rfl rfl) hS.1 rfl rfl rfl (Nat.le_of_ble_eq_true rfl) rfl rfl (by decide) (by decide) rfl ?_
      refine g_p (L' := [some (.ref a), some (.int x1), none, some (.int (x3 + 1))]) (S' := []) hF tX12_leads_ok 16 1 rfl rfl rfl rfl ?_
      refine g_goto hF (dAt tX12_leads_ok 17 rfl rfl) rfl ?_
      exact X12_leads_b14_ok hD hF hS hE fu _ _ _ H
def X12_leads_f (a : Nat) (x1 x2 : Int32) (σ : Sig) : Option (Sig) := (X12_setsOut_f a σ).bind fun s1 => (st 20240 s1 (a + 1) 8 x2).bind fun s3 => X12_leads_b14 a FU x1 0 s3
set_option maxRecDepth 4000 in
set_option maxHeartbeats 1000000 in
theorem X12_leads_ok {D : Nat} {τ : Tau} {nx : Nat} {a : Nat} {x1 x2 : Int32} {σ : Sig} {res : Sig} (hD : 8 ≤ D) (hS : ShX12 τ a) (H : X12_leads_f a x1 x2 σ = some res) : Ok D 0 0 yX12_leads cX12_leads 4 none [.ref a, .int x1, .int x2] (τ, σ, nx) none (τ, res, nx) := by
  refine ok_of (by decide +kernel) rfl (Nat.le_of_ble_eq_true rfl) (fun K X hF hE hN L0 hL0 => ?_)
  obtain rfl : [some (.ref a), some (.int x1), some (.int x2), none] = L0 := hL0
  have hF : Fx K X cX12_leads 4 RX12 D 0 0 := hF
  refine g_p (S' := [.ref a]) hF tX12_leads_ok 0 1 rfl rfl rfl rfl ?_
  obtain ⟨s1, e2, H⟩ := ob H
  refine g_cV (S := []) hF (X12_setsOut_ok (Nat.le_refl _) hS e2 K) mbX12_setsOut mvX12_setsOut mlX12_334 (by omega) (by decide) (dAt tX12_leads_ok 1 rfl rfl) hS.1 rfl rfl rfl (Nat.le_of_ble_eq_true rfl) rfl rfl (by decide) (by decide) rfl ?_
  refine g_p (S' := [.ref a]) hF tX12_leads_ok 2 1 rfl rfl rfl rfl ?_
  refine g_getR hF (dAt tX12_leads_ok 3 rfl rfl) flX12_7 hS.1 rfl ?_
  refine g_p (S' := [.int x2, .int 8, .ref (a + 1)]) hF tX12_leads_ok 4 2 rfl rfl rfl rfl ?_
  obtain ⟨s3, e4, H⟩ := ob H
  refine g_ist hF (dAt tX12_leads_ok 6 rfl rfl) hS.2.1 e4 ?_
  refine g_p (L' := [some (.ref a), some (.int x1), some (.int x2), some (.int 0)]) (S' := []) hF tX12_leads_ok 7 2 rfl rfl rfl rfl ?_
  refine g_m [true, true, false, true] rfl ?_
  exact X12_leads_b14_ok hD hF hS hE FU _ _ _ H
def X12_thought_b35 (a : Nat) (x1 x2 x3 : Int32) (σ : Sig) : Option (Int32 × Sig) := if x2 = (-1) then ((X12_leads_f a x1 0 σ).bind fun s2 => (ld 4 (s2 (a + 10)) 0).bind fun v4 => (ld 4 (s2 (a + 10)) 1).bind fun v6 => (X12_leads_f a x1 1 s2).bind fun s8 => (ld 4 (s8 (a + 10)) 0).bind fun v10 => if v4 < v10 then (some (1, s8)) else ((ld 4 (s8 (a + 10)) 0).bind fun v13 => if v13 = v4 then ((ld 4 (s8 (a + 10)) 1).bind fun v16 => if v6 ≤ v16 then (some (0, s8)) else (some (1, s8))) else (some (0, s8)))) else ((X12_leads_f a x1 x2 σ).bind fun s19 => (ld 4 (s19 (a + 10)) x3).bind fun v21 => some (v21, s19))
set_option maxRecDepth 4000 in
set_option maxHeartbeats 1000000 in
theorem X12_thought_b35_ok {K : Kt} {X : Cx} {D : Nat} {τ : Tau} {nx : Nat} {a : Nat} {res : Int32} {rsg : Sig}  (hD : 9 ≤ D) (hF : Fx K X cX12_thought 6 RX12 D 0 0) (hS : ShX12 τ a) (hE : En K X (some .int) 0 0 (some (.int res)) (τ, rsg, nx)) {x1 x2 x3 : Int32} {σ : Sig} (H : X12_thought_b35 a x1 x2 x3 σ = some (res, rsg)) : G K X 6 0 0 35 [some (.ref a), some (.int x1), some (.int x2), some (.int x3), none, none] [] (τ, σ, nx) := by
  refine g_p (S' := [.int (-1), .int x2]) hF tX12_thought_ok 20 2 rfl rfl rfl rfl ?_
  obtain ⟨Ht1, Hf1⟩ := oi H
  refine g_icmp_eq hF (dAt tX12_thought_ok 22 rfl rfl) rfl (fun c1 => ?_) (fun c1 => ?_)
  · have H := Ht1 c1
    refine g_p (S' := [.int 0, .int x1, .ref a]) hF tX12_thought_ok 32 3 rfl rfl rfl rfl ?_
    obtain ⟨s2, e3, H⟩ := ob H
    refine g_cV (S := []) hF (X12_leads_ok (Nat.le_refl _) hS e3 K) mbX12_leads mvX12_leads mlX12_340 (by omega) (by decide) (dAt tX12_thought_ok 35 rfl rfl) hS.1 rfl rfl rfl (Nat.le_of_ble_eq_true rfl) rfl rfl (by decide) (by decide) rfl ?_
    refine g_p (S' := [.ref a]) hF tX12_thought_ok 36 1 rfl rfl rfl rfl ?_
    refine g_getR hF (dAt tX12_thought_ok 37 rfl rfl) flX12_41 hS.1 rfl ?_
    refine g_p (S' := [.int 0, .ref (a + 10)]) hF tX12_thought_ok 38 1 rfl rfl rfl rfl ?_
    obtain ⟨v4, e5, H⟩ := ob H
    refine g_ild hF (dAt tX12_thought_ok 39 rfl rfl) hS.2.2.2.2.2.2.2.2.2.2 e5 ?_
    refine g_p (L' := [some (.ref a), some (.int x1), some (.int x2), some (.int x3), some (.int v4), none]) (S' := [.ref a]) hF tX12_thought_ok 40 2 rfl rfl rfl rfl ?_
    refine g_getR hF (dAt tX12_thought_ok 42 rfl rfl) flX12_41 hS.1 rfl ?_
    refine g_p (S' := [.int 1, .ref (a + 10)]) hF tX12_thought_ok 43 1 rfl rfl rfl rfl ?_
    obtain ⟨v6, e7, H⟩ := ob H
    refine g_ild hF (dAt tX12_thought_ok 44 rfl rfl) hS.2.2.2.2.2.2.2.2.2.2 e7 ?_
    refine g_p (L' := [some (.ref a), some (.int x1), some (.int x2), some (.int x3), some (.int v4), some (.int v6)]) (S' := [.int 1, .int x1, .ref a]) hF tX12_thought_ok 45 4 rfl rfl rfl rfl ?_
    obtain ⟨s8, e9, H⟩ := ob H
    refine g_cV (S := []) hF (X12_leads_ok (Nat.le_refl _) hS e9 K) mbX12_leads mvX12_leads mlX12_340 (by omega) (by decide) (dAt tX12_thought_ok 49 rfl rfl) hS.1 rfl rfl rfl (Nat.le_of_ble_eq_true rfl) rfl rfl (by decide) (by decide) rfl ?_
    refine g_p (S' := [.ref a]) hF tX12_thought_ok 50 1 rfl rfl rfl rfl ?_
    refine g_getR hF (dAt tX12_thought_ok 51 rfl rfl) flX12_41 hS.1 rfl ?_
    refine g_p (S' := [.int 0, .ref (a + 10)]) hF tX12_thought_ok 52 1 rfl rfl rfl rfl ?_
    obtain ⟨v10, e11, H⟩ := ob H
    refine g_ild hF (dAt tX12_thought_ok 53 rfl rfl) hS.2.2.2.2.2.2.2.2.2.2 e11 ?_
    refine g_p (S' := [.int v4, .int v10]) hF tX12_thought_ok 54 1 rfl rfl rfl rfl ?_
    obtain ⟨Ht12, Hf12⟩ := oi H
    refine g_icmp_gt hF (dAt tX12_thought_ok 55 rfl rfl) rfl (fun c12 => ?_) (fun c12 => ?_)
    · have H := Ht12 c12
      refine g_p (S' := [.int 1]) hF tX12_thought_ok 68 1 rfl rfl rfl rfl ?_
      refine g_goto hF (dAt tX12_thought_ok 69 rfl rfl) rfl ?_
      exact g_iret hF (en_p H hE) (dAt tX12_thought_ok 71 rfl rfl) (by decide) (by decide)
    · have H := Hf12 c12
      refine g_p (S' := [.ref a]) hF tX12_thought_ok 56 1 rfl rfl rfl rfl ?_
      refine g_getR hF (dAt tX12_thought_ok 57 rfl rfl) flX12_41 hS.1 rfl ?_
      refine g_p (S' := [.int 0, .ref (a + 10)]) hF tX12_thought_ok 58 1 rfl rfl rfl rfl ?_
      obtain ⟨v13, e14, H⟩ := ob H
      refine g_ild hF (dAt tX12_thought_ok 59 rfl rfl) hS.2.2.2.2.2.2.2.2.2.2 e14 ?_
      refine g_p (S' := [.int v4, .int v13]) hF tX12_thought_ok 60 1 rfl rfl rfl rfl ?_
      obtain ⟨Ht15, Hf15⟩ := oi H
      refine g_icmp_ne hF (dAt tX12_thought_ok 61 rfl rfl) rfl (fun c15 => ?_) (fun c15 => ?_)
      · have H := Hf15 c15
        refine g_p (S' := [.int 0]) hF tX12_thought_ok 70 1 rfl rfl rfl rfl ?_
        exact g_iret hF (en_p H hE) (dAt tX12_thought_ok 71 rfl rfl) (by decide) (by decide)
      · have H := Ht15 c15
        refine g_p (S' := [.ref a]) hF tX12_thought_ok 62 1 rfl rfl rfl rfl ?_
        refine g_getR hF (dAt tX12_thought_ok 63 rfl rfl) flX12_41 hS.1 rfl ?_
        refine g_p (S' := [.int 1, .ref (a + 10)]) hF tX12_thought_ok 64 1 rfl rfl rfl rfl ?_
        obtain ⟨v16, e17, H⟩ := ob H
        refine g_ild hF (dAt tX12_thought_ok 65 rfl rfl) hS.2.2.2.2.2.2.2.2.2.2 e17 ?_
        refine g_p (S' := [.int v6, .int v16]) hF tX12_thought_ok 66 1 rfl rfl rfl rfl ?_
        obtain ⟨Ht18, Hf18⟩ := oi H
        refine g_icmp_ge hF (dAt tX12_thought_ok 67 rfl rfl) rfl (fun c18 => ?_) (fun c18 => ?_)
        · have H := Ht18 c18
          refine g_p (S' := [.int 0]) hF tX12_thought_ok 70 1 rfl rfl rfl rfl ?_
          exact g_iret hF (en_p H hE) (dAt tX12_thought_ok 71 rfl rfl) (by decide) (by decide)
        · have H := Hf18 c18
          refine g_p (S' := [.int 1]) hF tX12_thought_ok 68 1 rfl rfl rfl rfl ?_
          refine g_goto hF (dAt tX12_thought_ok 69 rfl rfl) rfl ?_
          exact g_iret hF (en_p H hE) (dAt tX12_thought_ok 71 rfl rfl) (by decide) (by decide)
  · have H := Hf1 c1
    refine g_p (S' := [.int x2, .int x1, .ref a]) hF tX12_thought_ok 23 3 rfl rfl rfl rfl ?_
    obtain ⟨s19, e20, H⟩ := ob H
    refine g_cV (S := []) hF (X12_leads_ok (Nat.le_refl _) hS e20 K) mbX12_leads mvX12_leads mlX12_340 (by omega) (by decide) (dAt tX12_thought_ok 26 rfl rfl) hS.1 rfl rfl rfl (Nat.le_of_ble_eq_true rfl) rfl rfl (by decide) (by decide) rfl ?_
    refine g_p (S' := [.ref a]) hF tX12_thought_ok 27 1 rfl rfl rfl rfl ?_
    refine g_getR hF (dAt tX12_thought_ok 28 rfl rfl) flX12_41 hS.1 rfl ?_
    refine g_p (S' := [.int x3, .ref (a + 10)]) hF tX12_thought_ok 29 1 rfl rfl rfl rfl ?_
    obtain ⟨v21, e22, H⟩ := ob H
    refine g_ild hF (dAt tX12_thought_ok 30 rfl rfl) hS.2.2.2.2.2.2.2.2.2.2 e22 ?_
    exact g_iret hF (en_p H hE) (dAt tX12_thought_ok 31 rfl rfl) (by decide) (by decide)
def X12_thought_f (a : Nat) (x1 x2 x3 : Int32) (σ : Sig) : Option (Int32 × Sig) := (X12_isIn_f x1 1 30 σ).bind fun v1 => if v1 = 0 then (some ((-1), σ)) else ((X12_isIn_f x2 (-1) 1 σ).bind fun v4 => if v4 = 0 then (some ((-1), σ)) else (if x2 = (-1) then (X12_thought_b35 a x1 x2 x3 σ) else ((X12_isIn_f x3 0 3 σ).bind fun v8 => if v8 = 0 then (some ((-1), σ)) else (X12_thought_b35 a x1 x2 x3 σ))))
set_option maxRecDepth 4000 in
set_option maxHeartbeats 1000000 in
theorem X12_thought_ok {D : Nat} {τ : Tau} {nx : Nat} {a : Nat} {x1 x2 x3 : Int32} {σ : Sig} {res : Int32} {rsg : Sig} (hD : 9 ≤ D) (hS : ShX12 τ a) (H : X12_thought_f a x1 x2 x3 σ = some (res, rsg)) : Ok D 0 0 yX12_thought cX12_thought 6 (some .int) [.ref a, .int x1, .int x2, .int x3] (τ, σ, nx) (some (.int res)) (τ, rsg, nx) := by
  refine ok_of (by decide +kernel) rfl (Nat.le_of_ble_eq_true rfl) (fun K X hF hE hN L0 hL0 => ?_)
  obtain rfl : [some (.ref a), some (.int x1), some (.int x2), some (.int x3), none, none] = L0 := hL0
  have hF : Fx K X cX12_thought 6 RX12 D 0 0 := hF
  refine g_p (S' := [.int 30, .int 1, .int x1]) hF tX12_thought_ok 0 3 rfl rfl rfl rfl ?_
  obtain ⟨v1, e2, H⟩ := ob H
  refine g_cS (S := []) hF (X12_isIn_ok (Nat.le_refl _)  e2 K) mbX12_isIn msX12_isIn mlX12_50 (by omega) (by decide) (dAt tX12_thought_ok 3 rfl rfl) rfl rfl (Nat.le_of_ble_eq_true rfl) rfl rfl (by decide) (by decide) rfl ?_
  obtain ⟨Ht3, Hf3⟩ := oi H
  refine g_if_eq hF (dAt tX12_thought_ok 4 rfl rfl) rfl (fun c3 => ?_) (fun c3 => ?_)
  · have H := Ht3 c3
    refine g_p (S' := [.int (-1)]) hF tX12_thought_ok 18 1 rfl rfl rfl rfl ?_
    exact g_iret hF (en_p H hE) (dAt tX12_thought_ok 19 rfl rfl) (by decide) (by decide)
  · have H := Hf3 c3
    refine g_p (S' := [.int 1, .int (-1), .int x2]) hF tX12_thought_ok 5 3 rfl rfl rfl rfl ?_
    obtain ⟨v4, e5, H⟩ := ob H
    refine g_cS (S := []) hF (X12_isIn_ok (Nat.le_refl _)  e5 K) mbX12_isIn msX12_isIn mlX12_50 (by omega) (by decide) (dAt tX12_thought_ok 8 rfl rfl) rfl rfl (Nat.le_of_ble_eq_true rfl) rfl rfl (by decide) (by decide) rfl ?_
    obtain ⟨Ht6, Hf6⟩ := oi H
    refine g_if_eq hF (dAt tX12_thought_ok 9 rfl rfl) rfl (fun c6 => ?_) (fun c6 => ?_)
    · have H := Ht6 c6
      refine g_p (S' := [.int (-1)]) hF tX12_thought_ok 18 1 rfl rfl rfl rfl ?_
      exact g_iret hF (en_p H hE) (dAt tX12_thought_ok 19 rfl rfl) (by decide) (by decide)
    · have H := Hf6 c6
      refine g_p (S' := [.int (-1), .int x2]) hF tX12_thought_ok 10 2 rfl rfl rfl rfl ?_
      obtain ⟨Ht7, Hf7⟩ := oi H
      refine g_icmp_eq hF (dAt tX12_thought_ok 12 rfl rfl) rfl (fun c7 => ?_) (fun c7 => ?_)
      · have H := Ht7 c7
        exact X12_thought_b35_ok hD hF hS hE H
      · have H := Hf7 c7
        refine g_p (S' := [.int 3, .int 0, .int x3]) hF tX12_thought_ok 13 3 rfl rfl rfl rfl ?_
        obtain ⟨v8, e9, H⟩ := ob H
        refine g_cS (S := []) hF (X12_isIn_ok (Nat.le_refl _)  e9 K) mbX12_isIn msX12_isIn mlX12_50 (by omega) (by decide) (dAt tX12_thought_ok 16 rfl rfl) rfl rfl (Nat.le_of_ble_eq_true rfl) rfl rfl (by decide) (by decide) rfl ?_
        obtain ⟨Ht10, Hf10⟩ := oi H
        refine g_if_ne hF (dAt tX12_thought_ok 17 rfl rfl) rfl (fun c10 => ?_) (fun c10 => ?_)
        · have H := Hf10 c10
          exact X12_thought_b35_ok hD hF hS hE H
        · have H := Ht10 c10
          refine g_p (S' := [.int (-1)]) hF tX12_thought_ok 18 1 rfl rfl rfl rfl ?_
          exact g_iret hF (en_p H hE) (dAt tX12_thought_ok 19 rfl rfl) (by decide) (by decide)
def X12_person_f (a : Nat) (x1 x2 : Int32) (σ : Sig) : Option (Int32) := (X12_isOne_f a x1 σ).bind fun v1 => if v1 = 0 then (some (-2)) else ((X12_isIn_f x2 0 9 σ).bind fun v4 => if v4 = 0 then (some (-2)) else (if 7 ≤ x2 then ((X12_left_f a x1 (x2 - 7) σ).bind fun v8 => some v8) else ((X12_own_f a x1 x2 σ).bind fun v10 => some v10)))
set_option maxRecDepth 4000 in
set_option maxHeartbeats 1000000 in
theorem X12_person_ok {D : Nat} {τ : Tau} {nx : Nat} {a : Nat} {x1 x2 : Int32} {σ : Sig} {res : Int32} (hD : 4 ≤ D) (hS : ShX12 τ a) (H : X12_person_f a x1 x2 σ = some res) : Ok D 0 0 yX12_person cX12_person 3 (some .int) [.ref a, .int x1, .int x2] (τ, σ, nx) (some (.int res)) (τ, σ, nx) := by
  refine ok_of (by decide +kernel) rfl (Nat.le_of_ble_eq_true rfl) (fun K X hF hE hN L0 hL0 => ?_)
  obtain rfl : [some (.ref a), some (.int x1), some (.int x2)] = L0 := hL0
  have hF : Fx K X cX12_person 3 RX12 D 0 0 := hF
  refine g_p (S' := [.int x1, .ref a]) hF tX12_person_ok 0 2 rfl rfl rfl rfl ?_
  obtain ⟨v1, e2, H⟩ := ob H
  refine g_cV (S := []) hF (X12_isOne_ok (Nat.le_refl _) hS e2 K) mbX12_isOne mvX12_isOne mlX12_62 (by omega) (by decide) (dAt tX12_person_ok 2 rfl rfl) hS.1 rfl rfl rfl (Nat.le_of_ble_eq_true rfl) rfl rfl (by decide) (by decide) rfl ?_
  obtain ⟨Ht3, Hf3⟩ := oi H
  refine g_if_eq hF (dAt tX12_person_ok 3 rfl rfl) rfl (fun c3 => ?_) (fun c3 => ?_)
  · have H := Ht3 c3
    refine g_p (S' := [.int (-2)]) hF tX12_person_ok 9 1 rfl rfl rfl rfl ?_
    exact g_iret hF (en_i H hE) (dAt tX12_person_ok 10 rfl rfl) (by decide) (by decide)
  · have H := Hf3 c3
    refine g_p (S' := [.int 9, .int 0, .int x2]) hF tX12_person_ok 4 3 rfl rfl rfl rfl ?_
    obtain ⟨v4, e5, H⟩ := ob H
    refine g_cS (S := []) hF (X12_isIn_ok (Nat.le_refl _)  e5 K) mbX12_isIn msX12_isIn mlX12_50 (by omega) (by decide) (dAt tX12_person_ok 7 rfl rfl) rfl rfl (Nat.le_of_ble_eq_true rfl) rfl rfl (by decide) (by decide) rfl ?_
    obtain ⟨Ht6, Hf6⟩ := oi H
    refine g_if_ne hF (dAt tX12_person_ok 8 rfl rfl) rfl (fun c6 => ?_) (fun c6 => ?_)
    · have H := Hf6 c6
      refine g_p (S' := [.int 7, .int x2]) hF tX12_person_ok 11 2 rfl rfl rfl rfl ?_
      obtain ⟨Ht7, Hf7⟩ := oi H
      refine g_icmp_ge hF (dAt tX12_person_ok 13 rfl rfl) rfl (fun c7 => ?_) (fun c7 => ?_)
      · have H := Ht7 c7
        refine g_p (S' := [.int (x2 - 7), .int x1, .ref a]) hF tX12_person_ok 19 5 rfl rfl rfl rfl ?_
        obtain ⟨v8, e9, H⟩ := ob H
        refine g_cV (S := []) hF (X12_left_ok (Nat.le_refl _) hS e9 K) mbX12_left mvX12_left mlX12_254 (by omega) (by decide) (dAt tX12_person_ok 24 rfl rfl) hS.1 rfl rfl rfl (Nat.le_of_ble_eq_true rfl) rfl rfl (by decide) (by decide) rfl ?_
        exact g_iret hF (en_i H hE) (dAt tX12_person_ok 25 rfl rfl) (by decide) (by decide)
      · have H := Hf7 c7
        refine g_p (S' := [.int x2, .int x1, .ref a]) hF tX12_person_ok 14 3 rfl rfl rfl rfl ?_
        obtain ⟨v10, e11, H⟩ := ob H
        refine g_cV (S := []) hF (X12_own_ok (Nat.le_refl _) hS e11 K) mbX12_own mvX12_own mlX12_65 (by omega) (by decide) (dAt tX12_person_ok 17 rfl rfl) hS.1 rfl rfl rfl (Nat.le_of_ble_eq_true rfl) rfl rfl (by decide) (by decide) rfl ?_
        refine g_goto hF (dAt tX12_person_ok 18 rfl rfl) rfl ?_
        exact g_iret hF (en_i H hE) (dAt tX12_person_ok 25 rfl rfl) (by decide) (by decide)
    · have H := Ht6 c6
      refine g_p (S' := [.int (-2)]) hF tX12_person_ok 9 1 rfl rfl rfl rfl ?_
      exact g_iret hF (en_i H hE) (dAt tX12_person_ok 10 rfl rfl) (by decide) (by decide)
def X12_book_f (a : Nat) (x1 x2 : Int32) (σ : Sig) : Option (Int32) := (ld 20240 (σ (a + 1)) 11).bind fun v1 => (X12_isIn_f x1 0 (v1 - 1) σ).bind fun v3 => if v3 = 0 then (some (-1)) else ((X12_isIn_f x2 0 4 σ).bind fun v6 => if v6 = 0 then (some (-1)) else ((ld 20240 (σ (a + 1)) ((550 + (5 * x1)) + x2)).bind fun v9 => some v9))
set_option maxRecDepth 4000 in
set_option maxHeartbeats 1000000 in
theorem X12_book_ok {D : Nat} {τ : Tau} {nx : Nat} {a : Nat} {x1 x2 : Int32} {σ : Sig} {res : Int32} (hD : 2 ≤ D) (hS : ShX12 τ a) (H : X12_book_f a x1 x2 σ = some res) : Ok D 0 0 yX12_book cX12_book 3 (some .int) [.ref a, .int x1, .int x2] (τ, σ, nx) (some (.int res)) (τ, σ, nx) := by
  refine ok_of (by decide +kernel) rfl (Nat.le_of_ble_eq_true rfl) (fun K X hF hE hN L0 hL0 => ?_)
  obtain rfl : [some (.ref a), some (.int x1), some (.int x2)] = L0 := hL0
  have hF : Fx K X cX12_book 3 RX12 D 0 0 := hF
  refine g_p (S' := [.ref a, .int 0, .int x1]) hF tX12_book_ok 0 3 rfl rfl rfl rfl ?_
  refine g_getR hF (dAt tX12_book_ok 3 rfl rfl) flX12_7 hS.1 rfl ?_
  refine g_p (S' := [.int 11, .ref (a + 1), .int 0, .int x1]) hF tX12_book_ok 4 1 rfl rfl rfl rfl ?_
  obtain ⟨v1, e2, H⟩ := ob H
  refine g_ild hF (dAt tX12_book_ok 5 rfl rfl) hS.2.1 e2 ?_
  refine g_p (S' := [.int (v1 - 1), .int 0, .int x1]) hF tX12_book_ok 6 2 rfl rfl rfl rfl ?_
  obtain ⟨v3, e4, H⟩ := ob H
  refine g_cS (S := []) hF (X12_isIn_ok (Nat.le_refl _)  e4 K) mbX12_isIn msX12_isIn mlX12_50 (by omega) (by decide) (dAt tX12_book_ok 8 rfl rfl) rfl rfl (Nat.le_of_ble_eq_true rfl) rfl rfl (by decide) (by decide) rfl ?_
  obtain ⟨Ht5, Hf5⟩ := oi H
  refine g_if_eq hF (dAt tX12_book_ok 9 rfl rfl) rfl (fun c5 => ?_) (fun c5 => ?_)
  · have H := Ht5 c5
    refine g_p (S' := [.int (-1)]) hF tX12_book_ok 26 1 rfl rfl rfl rfl ?_
    exact g_iret hF (en_i H hE) (dAt tX12_book_ok 27 rfl rfl) (by decide) (by decide)
  · have H := Hf5 c5
    refine g_p (S' := [.int 4, .int 0, .int x2]) hF tX12_book_ok 10 3 rfl rfl rfl rfl ?_
    obtain ⟨v6, e7, H⟩ := ob H
    refine g_cS (S := []) hF (X12_isIn_ok (Nat.le_refl _)  e7 K) mbX12_isIn msX12_isIn mlX12_50 (by omega) (by decide) (dAt tX12_book_ok 13 rfl rfl) rfl rfl (Nat.le_of_ble_eq_true rfl) rfl rfl (by decide) (by decide) rfl ?_
    obtain ⟨Ht8, Hf8⟩ := oi H
    refine g_if_eq hF (dAt tX12_book_ok 14 rfl rfl) rfl (fun c8 => ?_) (fun c8 => ?_)
    · have H := Ht8 c8
      refine g_p (S' := [.int (-1)]) hF tX12_book_ok 26 1 rfl rfl rfl rfl ?_
      exact g_iret hF (en_i H hE) (dAt tX12_book_ok 27 rfl rfl) (by decide) (by decide)
    · have H := Hf8 c8
      refine g_p (S' := [.ref a]) hF tX12_book_ok 15 1 rfl rfl rfl rfl ?_
      refine g_getR hF (dAt tX12_book_ok 16 rfl rfl) flX12_7 hS.1 rfl ?_
      refine g_p (S' := [.int ((550 + (5 * x1)) + x2), .ref (a + 1)]) hF tX12_book_ok 17 7 rfl rfl rfl rfl ?_
      obtain ⟨v9, e10, H⟩ := ob H
      refine g_ild hF (dAt tX12_book_ok 24 rfl rfl) hS.2.1 e10 ?_
      refine g_goto hF (dAt tX12_book_ok 25 rfl rfl) rfl ?_
      exact g_iret hF (en_i H hE) (dAt tX12_book_ok 27 rfl rfl) (by decide) (by decide)
def X12_image_b15 (a : Nat) : Nat → Int32 → Int32 → Sig → Option (Int32 × Sig)
  | 0, _, _, _ => none
  | fu + 1, x1, x2, σ => if 20240 ≤ x2 then ((pZ σ a 3 1).bind fun s2 => some (1, s2)) else (if x1 = 0 then ((ld 20240 (σ (a + 2)) x2).bind fun v5 => (st 20240 σ (a + 1) x2 v5).bind fun s7 => X12_image_b15 a fu x1 (x2 + 1) s7) else ((ld 20240 (σ (a + 1)) x2).bind fun v9 => (st 20240 σ (a + 2) x2 v9).bind fun s11 => X12_image_b15 a fu x1 (x2 + 1) s11))
set_option maxRecDepth 4000 in
set_option maxHeartbeats 1000000 in
theorem X12_image_b15_ok {K : Kt} {X : Cx} {D : Nat} {τ : Tau} {nx : Nat} {a : Nat} {res : Int32} {rsg : Sig}  (hD : 1 ≤ D) (hF : Fx K X cX12_image 3 RX12 D 0 0) (hS : ShX12 τ a) (hE : En K X (some .boolean) 0 0 (some (.int res)) (τ, rsg, nx)) : ∀ (fu : Nat) (x1 x2 : Int32) (σ : Sig), X12_image_b15 a fu x1 x2 σ = some (res, rsg) → G K X 3 0 0 15 [some (.ref a), some (.int x1), some (.int x2)] [] (τ, σ, nx)
  | 0, _, _, _, H => nomatch H
  | fu + 1, x1, x2, σ, H => by
    refine g_p (S' := [.int 20240, .int x2]) hF tX12_image_ok 9 2 rfl rfl rfl rfl ?_
    obtain ⟨Ht1, Hf1⟩ := oi H
    refine g_icmp_ge hF (dAt tX12_image_ok 11 rfl rfl) rfl (fun c1 => ?_) (fun c1 => ?_)
    · have H := Ht1 c1
      refine g_p (S' := [.int 1, .ref a]) hF tX12_image_ok 33 2 rfl rfl rfl rfl ?_
      obtain ⟨s2, e3, H⟩ := ob H
      refine g_pZ hF (dAt tX12_image_ok 35 rfl rfl) flX12_343 (Or.inl rfl) hS.1 rfl e3 ?_
      refine g_p (S' := [.int 1]) hF tX12_image_ok 36 1 rfl rfl rfl rfl ?_
      exact g_zret hF (en_p H hE) (Or.inr rfl) (dAt tX12_image_ok 37 rfl rfl) (by decide) (by decide)
    · have H := Hf1 c1
      refine g_p (S' := [.int x1]) hF tX12_image_ok 12 1 rfl rfl rfl rfl ?_
      obtain ⟨Ht4, Hf4⟩ := oi H
      refine g_if_eq hF (dAt tX12_image_ok 13 rfl rfl) rfl (fun c4 => ?_) (fun c4 => ?_)
      · have H := Ht4 c4
        refine g_p (S' := [.ref a]) hF tX12_image_ok 23 1 rfl rfl rfl rfl ?_
        refine g_getR hF (dAt tX12_image_ok 24 rfl rfl) flX12_7 hS.1 rfl ?_
        refine g_p (S' := [.ref a, .int x2, .ref (a + 1)]) hF tX12_image_ok 25 2 rfl rfl rfl rfl ?_
        refine g_getR hF (dAt tX12_image_ok 27 rfl rfl) flX12_13 hS.1 rfl ?_
        refine g_p (S' := [.int x2, .ref (a + 2), .int x2, .ref (a + 1)]) hF tX12_image_ok 28 1 rfl rfl rfl rfl ?_
        obtain ⟨v5, e6, H⟩ := ob H
        refine g_ild hF (dAt tX12_image_ok 29 rfl rfl) hS.2.2.1 e6 ?_
        obtain ⟨s7, e8, H⟩ := ob H
        refine g_ist hF (dAt tX12_image_ok 30 rfl rfl) hS.2.1 e8 ?_
        refine g_p (L' := [some (.ref a), some (.int x1), some (.int (x2 + 1))]) (S' := []) hF tX12_image_ok 31 1 rfl rfl rfl rfl ?_
        refine g_goto hF (dAt tX12_image_ok 32 rfl rfl) rfl ?_
        exact X12_image_b15_ok hD hF hS hE fu _ _ _ H
      · have H := Hf4 c4
        refine g_p (S' := [.ref a]) hF tX12_image_ok 14 1 rfl rfl rfl rfl ?_
        refine g_getR hF (dAt tX12_image_ok 15 rfl rfl) flX12_13 hS.1 rfl ?_
        refine g_p (S' := [.ref a, .int x2, .ref (a + 2)]) hF tX12_image_ok 16 2 rfl rfl rfl rfl ?_
        refine g_getR hF (dAt tX12_image_ok 18 rfl rfl) flX12_7 hS.1 rfl ?_
        refine g_p (S' := [.int x2, .ref (a + 1), .int x2, .ref (a + 2)]) hF tX12_image_ok 19 1 rfl rfl rfl rfl ?_
        obtain ⟨v9, e10, H⟩ := ob H
        refine g_ild hF (dAt tX12_image_ok 20 rfl rfl) hS.2.1 e10 ?_
        obtain ⟨s11, e12, H⟩ := ob H
        refine g_ist hF (dAt tX12_image_ok 21 rfl rfl) hS.2.2.1 e12 ?_
        refine g_goto hF (dAt tX12_image_ok 22 rfl rfl) rfl ?_
        refine g_p (L' := [some (.ref a), some (.int x1), some (.int (x2 + 1))]) (S' := []) hF tX12_image_ok 31 1 rfl rfl rfl rfl ?_
        refine g_goto hF (dAt tX12_image_ok 32 rfl rfl) rfl ?_
        exact X12_image_b15_ok hD hF hS hE fu _ _ _ H
def X12_image_f (a : Nat) (x1 : Int32) (σ : Sig) : Option (Int32 × Sig) := if x1 = 0 then (if (σ a 3) = 0 then (some (0, σ)) else (X12_image_b15 a FU x1 0 σ)) else (X12_image_b15 a FU x1 0 σ)
set_option maxRecDepth 4000 in
set_option maxHeartbeats 1000000 in
theorem X12_image_ok {D : Nat} {τ : Tau} {nx : Nat} {a : Nat} {x1 : Int32} {σ : Sig} {res : Int32} {rsg : Sig} (hD : 1 ≤ D) (hS : ShX12 τ a) (H : X12_image_f a x1 σ = some (res, rsg)) : Ok D 0 0 yX12_image cX12_image 3 (some .boolean) [.ref a, .int x1] (τ, σ, nx) (some (.int res)) (τ, rsg, nx) := by
  refine ok_of (by decide +kernel) rfl (Nat.le_of_ble_eq_true rfl) (fun K X hF hE hN L0 hL0 => ?_)
  obtain rfl : [some (.ref a), some (.int x1), none] = L0 := hL0
  have hF : Fx K X cX12_image 3 RX12 D 0 0 := hF
  refine g_p (S' := [.int x1]) hF tX12_image_ok 0 1 rfl rfl rfl rfl ?_
  obtain ⟨Ht1, Hf1⟩ := oi H
  refine g_if_ne hF (dAt tX12_image_ok 1 rfl rfl) rfl (fun c1 => ?_) (fun c1 => ?_)
  · have H := Hf1 c1
    refine g_p (L' := [some (.ref a), some (.int x1), some (.int 0)]) (S' := []) hF tX12_image_ok 7 2 rfl rfl rfl rfl ?_
    exact X12_image_b15_ok hD hF hS hE FU _ _ _ H
  · have H := Ht1 c1
    refine g_p (S' := [.ref a]) hF tX12_image_ok 2 1 rfl rfl rfl rfl ?_
    refine g_getI hF (dAt tX12_image_ok 3 rfl rfl) flX12_343 hS.1 rfl ?_
    obtain ⟨Ht2, Hf2⟩ := oi H
    refine g_if_ne hF (dAt tX12_image_ok 4 rfl rfl) rfl (fun c2 => ?_) (fun c2 => ?_)
    · have H := Hf2 c2
      refine g_p (L' := [some (.ref a), some (.int x1), some (.int 0)]) (S' := []) hF tX12_image_ok 7 2 rfl rfl rfl rfl ?_
      exact X12_image_b15_ok hD hF hS hE FU _ _ _ H
    · have H := Ht2 c2
      refine g_p (S' := [.int 0]) hF tX12_image_ok 5 1 rfl rfl rfl rfl ?_
      exact g_zret hF (en_p H hE) (Or.inl rfl) (dAt tX12_image_ok 6 rfl rfl) (by decide) (by decide)
def X12_look_b158 (a : Nat) (σ : Sig) : Nat → Int32 → Int32 → Option (Int32)
  | 0, _, _ => none
  | fu + 1, x2, x3 => (ld 20240 (σ (a + 1)) 10).bind fun v1 => if v1 ≤ x3 then (some x2) else ((X12_debtOf_f a x3 2 σ).bind fun v4 => X12_look_b158 a σ fu (x2 + v4) (x3 + 1))
set_option maxRecDepth 4000 in
set_option maxHeartbeats 1000000 in
theorem X12_look_b158_ok {K : Kt} {X : Cx} {D : Nat} {τ : Tau} {nx : Nat} {a : Nat} {res : Int32} {σ : Sig}  (hD : 2 ≤ D) (hF : Fx K X cX12_look 4 RX12 D 0 0) (hS : ShX12 τ a) (hE : En K X (some .int) 0 0 (some (.int res)) (τ, σ, nx)) : ∀ (fu : Nat) (x2 x3 : Int32), X12_look_b158 a σ fu x2 x3 = some res → G K X 4 0 0 158 [some (.ref a), none, some (.int x2), some (.int x3)] [] (τ, σ, nx)
  | 0, _, _, H => nomatch H
  | fu + 1, x2, x3, H => by
    refine g_p (S' := [.ref a, .int x3]) hF tX12_look_ok 63 2 rfl rfl rfl rfl ?_
    refine g_getR hF (dAt tX12_look_ok 65 rfl rfl) flX12_7 hS.1 rfl ?_
    refine g_p (S' := [.int 10, .ref (a + 1), .int x3]) hF tX12_look_ok 66 1 rfl rfl rfl rfl ?_
    obtain ⟨v1, e2, H⟩ := ob H
    refine g_ild hF (dAt tX12_look_ok 67 rfl rfl) hS.2.1 e2 ?_
    obtain ⟨Ht3, Hf3⟩ := oi H
    refine g_icmp_ge hF (dAt tX12_look_ok 68 rfl rfl) rfl (fun c3 => ?_) (fun c3 => ?_)
    · have H := Ht3 c3
      refine g_p (S' := [.int x2]) hF tX12_look_ok 78 1 rfl rfl rfl rfl ?_
      exact g_iret hF (en_i H hE) (dAt tX12_look_ok 79 rfl rfl) (by decide) (by decide)
    · have H := Hf3 c3
      refine g_p (S' := [.int 2, .int x3, .ref a, .int x2]) hF tX12_look_ok 69 4 rfl rfl rfl rfl ?_
      obtain ⟨v4, e5, H⟩ := ob H
      refine g_cV (S := [.int x2]) hF (X12_debtOf_ok (Nat.le_refl _) hS e5 K) mbX12_debtOf mvX12_debtOf mlX12_76 (by omega) (by decide) (dAt tX12_look_ok 73 rfl rfl) hS.1 rfl rfl rfl (Nat.le_of_ble_eq_true rfl) rfl rfl (by decide) (by decide) rfl ?_
      refine g_p (L' := [some (.ref a), none, some (.int (x2 + v4)), some (.int (x3 + 1))]) (S' := []) hF tX12_look_ok 74 3 rfl rfl rfl rfl ?_
      refine g_goto hF (dAt tX12_look_ok 77 rfl rfl) rfl ?_
      exact X12_look_b158_ok hD hF hS hE fu _ _ H
def X12_look_b120 (a : Nat) (σ : Sig) : Nat → Int32 → Int32 → Option (Int32)
  | 0, _, _ => none
  | fu + 1, x2, x3 => (ld 20240 (σ (a + 1)) 10).bind fun v1 => if v1 ≤ x3 then (some x2) else ((X12_debtOf_f a x3 2 σ).bind fun v4 => if v4 = 0 then (X12_look_b120 a σ fu (x2 + 1) (x3 + 1)) else (X12_look_b120 a σ fu (x2 + 0) (x3 + 1)))
set_option maxRecDepth 4000 in
set_option maxHeartbeats 1000000 in
theorem X12_look_b120_ok {K : Kt} {X : Cx} {D : Nat} {τ : Tau} {nx : Nat} {a : Nat} {res : Int32} {σ : Sig}  (hD : 2 ≤ D) (hF : Fx K X cX12_look 4 RX12 D 0 0) (hS : ShX12 τ a) (hE : En K X (some .int) 0 0 (some (.int res)) (τ, σ, nx)) : ∀ (fu : Nat) (x2 x3 : Int32), X12_look_b120 a σ fu x2 x3 = some res → G K X 4 0 0 120 [some (.ref a), none, some (.int x2), some (.int x3)] [] (τ, σ, nx)
  | 0, _, _, H => nomatch H
  | fu + 1, x2, x3, H => by
    refine g_p (S' := [.ref a, .int x3]) hF tX12_look_ok 40 2 rfl rfl rfl rfl ?_
    refine g_getR hF (dAt tX12_look_ok 42 rfl rfl) flX12_7 hS.1 rfl ?_
    refine g_p (S' := [.int 10, .ref (a + 1), .int x3]) hF tX12_look_ok 43 1 rfl rfl rfl rfl ?_
    obtain ⟨v1, e2, H⟩ := ob H
    refine g_ild hF (dAt tX12_look_ok 44 rfl rfl) hS.2.1 e2 ?_
    obtain ⟨Ht3, Hf3⟩ := oi H
    refine g_icmp_ge hF (dAt tX12_look_ok 45 rfl rfl) rfl (fun c3 => ?_) (fun c3 => ?_)
    · have H := Ht3 c3
      refine g_p (S' := [.int x2]) hF tX12_look_ok 59 1 rfl rfl rfl rfl ?_
      exact g_iret hF (en_i H hE) (dAt tX12_look_ok 60 rfl rfl) (by decide) (by decide)
    · have H := Hf3 c3
      refine g_p (S' := [.int 2, .int x3, .ref a, .int x2]) hF tX12_look_ok 46 4 rfl rfl rfl rfl ?_
      obtain ⟨v4, e5, H⟩ := ob H
      refine g_cV (S := [.int x2]) hF (X12_debtOf_ok (Nat.le_refl _) hS e5 K) mbX12_debtOf mvX12_debtOf mlX12_76 (by omega) (by decide) (dAt tX12_look_ok 50 rfl rfl) hS.1 rfl rfl rfl (Nat.le_of_ble_eq_true rfl) rfl rfl (by decide) (by decide) rfl ?_
      obtain ⟨Ht6, Hf6⟩ := oi H
      refine g_if_ne hF (dAt tX12_look_ok 51 rfl rfl) rfl (fun c6 => ?_) (fun c6 => ?_)
      · have H := Hf6 c6
        refine g_p (L' := [some (.ref a), none, some (.int (x2 + 0)), some (.int (x3 + 1))]) (S' := []) hF tX12_look_ok 54 4 rfl rfl rfl rfl ?_
        refine g_goto hF (dAt tX12_look_ok 58 rfl rfl) rfl ?_
        exact X12_look_b120_ok hD hF hS hE fu _ _ H
      · have H := Ht6 c6
        refine g_p (S' := [.int 1, .int x2]) hF tX12_look_ok 52 1 rfl rfl rfl rfl ?_
        refine g_goto hF (dAt tX12_look_ok 53 rfl rfl) rfl ?_
        refine g_p (L' := [some (.ref a), none, some (.int (x2 + 1)), some (.int (x3 + 1))]) (S' := []) hF tX12_look_ok 55 3 rfl rfl rfl rfl ?_
        refine g_goto hF (dAt tX12_look_ok 58 rfl rfl) rfl ?_
        exact X12_look_b120_ok hD hF hS hE fu _ _ H
def X12_look_f (a : Nat) (x1 : Int32) (σ : Sig) : Option (Int32) := if x1 = 0 then ((ld 20240 (σ (a + 1)) 9).bind fun v2 => some v2) else if x1 = 1 then ((ld 20240 (σ (a + 1)) 10).bind fun v4 => some v4) else if x1 = 2 then ((ld 20240 (σ (a + 1)) 11).bind fun v6 => some v6) else if x1 = 3 then ((ld 20240 (σ (a + 1)) 1).bind fun v8 => some v8) else if x1 = 4 then ((ld 20240 (σ (a + 1)) 2).bind fun v10 => some v10) else if x1 = 5 then ((ld 20240 (σ (a + 1)) ((12 + x1) - 5)).bind fun v12 => some v12) else if x1 = 6 then ((ld 20240 (σ (a + 1)) ((12 + x1) - 5)).bind fun v14 => some v14) else if x1 = 7 then ((ld 20240 (σ (a + 1)) ((12 + x1) - 5)).bind fun v16 => some v16) else if x1 = 8 then ((ld 20240 (σ (a + 1)) ((12 + x1) - 5)).bind fun v18 => some v18) else if x1 = 9 then (X12_look_b120 a σ FU 0 0) else if x1 = 10 then (X12_look_b158 a σ FU 0 0) else if x1 = 11 then ((ld 20240 (σ (a + 1)) 16).bind fun v20 => some v20) else if x1 = 12 then ((ld 20240 (σ (a + 1)) 0).bind fun v22 => some v22) else (some (-1))
set_option maxRecDepth 4000 in
set_option maxHeartbeats 1000000 in
theorem X12_look_ok {D : Nat} {τ : Tau} {nx : Nat} {a : Nat} {x1 : Int32} {σ : Sig} {res : Int32} (hD : 2 ≤ D) (hS : ShX12 τ a) (H : X12_look_f a x1 σ = some res) : Ok D 0 0 yX12_look cX12_look 4 (some .int) [.ref a, .int x1] (τ, σ, nx) (some (.int res)) (τ, σ, nx) := by
  refine ok_of (by decide +kernel) rfl (Nat.le_of_ble_eq_true rfl) (fun K X hF hE hN L0 hL0 => ?_)
  obtain rfl : [some (.ref a), some (.int x1), none, none] = L0 := hL0
  have hF : Fx K X cX12_look 4 RX12 D 0 0 := hF
  refine g_p (L' := [some (.ref a), some (.int x1), some (.int 0), none]) (S' := [.int x1]) hF tX12_look_ok 0 3 rfl rfl rfl rfl ?_
  obtain ⟨Ht1_0, Hf1_0⟩ := oi H
  by_cases c1_0 : x1 = 0
  · have H := Ht1_0 c1_0
    refine g_tsw (c := 0) hF (dAt tX12_look_ok 3 rfl rfl) c1_0 (by decide) (by decide) rfl rfl ?_
    refine g_p (S' := [.ref a]) hF tX12_look_ok 4 1 rfl rfl rfl rfl ?_
    refine g_getR hF (dAt tX12_look_ok 5 rfl rfl) flX12_7 hS.1 rfl ?_
    refine g_p (S' := [.int 9, .ref (a + 1)]) hF tX12_look_ok 6 1 rfl rfl rfl rfl ?_
    obtain ⟨v2, e3, H⟩ := ob H
    refine g_ild hF (dAt tX12_look_ok 7 rfl rfl) hS.2.1 e3 ?_
    exact g_iret hF (en_i H hE) (dAt tX12_look_ok 8 rfl rfl) (by decide) (by decide)
  have H := Hf1_0 c1_0
  obtain ⟨Ht1_1, Hf1_1⟩ := oi H
  by_cases c1_1 : x1 = 1
  · have H := Ht1_1 c1_1
    refine g_tsw (c := 1) hF (dAt tX12_look_ok 3 rfl rfl) c1_1 (by decide) (by decide) rfl rfl ?_
    refine g_p (S' := [.ref a]) hF tX12_look_ok 9 1 rfl rfl rfl rfl ?_
    refine g_getR hF (dAt tX12_look_ok 10 rfl rfl) flX12_7 hS.1 rfl ?_
    refine g_p (S' := [.int 10, .ref (a + 1)]) hF tX12_look_ok 11 1 rfl rfl rfl rfl ?_
    obtain ⟨v4, e5, H⟩ := ob H
    refine g_ild hF (dAt tX12_look_ok 12 rfl rfl) hS.2.1 e5 ?_
    exact g_iret hF (en_i H hE) (dAt tX12_look_ok 13 rfl rfl) (by decide) (by decide)
  have H := Hf1_1 c1_1
  obtain ⟨Ht1_2, Hf1_2⟩ := oi H
  by_cases c1_2 : x1 = 2
  · have H := Ht1_2 c1_2
    refine g_tsw (c := 2) hF (dAt tX12_look_ok 3 rfl rfl) c1_2 (by decide) (by decide) rfl rfl ?_
    refine g_p (S' := [.ref a]) hF tX12_look_ok 14 1 rfl rfl rfl rfl ?_
    refine g_getR hF (dAt tX12_look_ok 15 rfl rfl) flX12_7 hS.1 rfl ?_
    refine g_p (S' := [.int 11, .ref (a + 1)]) hF tX12_look_ok 16 1 rfl rfl rfl rfl ?_
    obtain ⟨v6, e7, H⟩ := ob H
    refine g_ild hF (dAt tX12_look_ok 17 rfl rfl) hS.2.1 e7 ?_
    exact g_iret hF (en_i H hE) (dAt tX12_look_ok 18 rfl rfl) (by decide) (by decide)
  have H := Hf1_2 c1_2
  obtain ⟨Ht1_3, Hf1_3⟩ := oi H
  by_cases c1_3 : x1 = 3
  · have H := Ht1_3 c1_3
    refine g_tsw (c := 3) hF (dAt tX12_look_ok 3 rfl rfl) c1_3 (by decide) (by decide) rfl rfl ?_
    refine g_p (S' := [.ref a]) hF tX12_look_ok 19 1 rfl rfl rfl rfl ?_
    refine g_getR hF (dAt tX12_look_ok 20 rfl rfl) flX12_7 hS.1 rfl ?_
    refine g_p (S' := [.int 1, .ref (a + 1)]) hF tX12_look_ok 21 1 rfl rfl rfl rfl ?_
    obtain ⟨v8, e9, H⟩ := ob H
    refine g_ild hF (dAt tX12_look_ok 22 rfl rfl) hS.2.1 e9 ?_
    exact g_iret hF (en_i H hE) (dAt tX12_look_ok 23 rfl rfl) (by decide) (by decide)
  have H := Hf1_3 c1_3
  obtain ⟨Ht1_4, Hf1_4⟩ := oi H
  by_cases c1_4 : x1 = 4
  · have H := Ht1_4 c1_4
    refine g_tsw (c := 4) hF (dAt tX12_look_ok 3 rfl rfl) c1_4 (by decide) (by decide) rfl rfl ?_
    refine g_p (S' := [.ref a]) hF tX12_look_ok 24 1 rfl rfl rfl rfl ?_
    refine g_getR hF (dAt tX12_look_ok 25 rfl rfl) flX12_7 hS.1 rfl ?_
    refine g_p (S' := [.int 2, .ref (a + 1)]) hF tX12_look_ok 26 1 rfl rfl rfl rfl ?_
    obtain ⟨v10, e11, H⟩ := ob H
    refine g_ild hF (dAt tX12_look_ok 27 rfl rfl) hS.2.1 e11 ?_
    exact g_iret hF (en_i H hE) (dAt tX12_look_ok 28 rfl rfl) (by decide) (by decide)
  have H := Hf1_4 c1_4
  obtain ⟨Ht1_5, Hf1_5⟩ := oi H
  by_cases c1_5 : x1 = 5
  · have H := Ht1_5 c1_5
    refine g_tsw (c := 5) hF (dAt tX12_look_ok 3 rfl rfl) c1_5 (by decide) (by decide) rfl rfl ?_
    refine g_p (S' := [.ref a]) hF tX12_look_ok 29 1 rfl rfl rfl rfl ?_
    refine g_getR hF (dAt tX12_look_ok 30 rfl rfl) flX12_7 hS.1 rfl ?_
    refine g_p (S' := [.int ((12 + x1) - 5), .ref (a + 1)]) hF tX12_look_ok 31 5 rfl rfl rfl rfl ?_
    obtain ⟨v12, e13, H⟩ := ob H
    refine g_ild hF (dAt tX12_look_ok 36 rfl rfl) hS.2.1 e13 ?_
    exact g_iret hF (en_i H hE) (dAt tX12_look_ok 37 rfl rfl) (by decide) (by decide)
  have H := Hf1_5 c1_5
  obtain ⟨Ht1_6, Hf1_6⟩ := oi H
  by_cases c1_6 : x1 = 6
  · have H := Ht1_6 c1_6
    refine g_tsw (c := 6) hF (dAt tX12_look_ok 3 rfl rfl) c1_6 (by decide) (by decide) rfl rfl ?_
    refine g_p (S' := [.ref a]) hF tX12_look_ok 29 1 rfl rfl rfl rfl ?_
    refine g_getR hF (dAt tX12_look_ok 30 rfl rfl) flX12_7 hS.1 rfl ?_
    refine g_p (S' := [.int ((12 + x1) - 5), .ref (a + 1)]) hF tX12_look_ok 31 5 rfl rfl rfl rfl ?_
    obtain ⟨v14, e15, H⟩ := ob H
    refine g_ild hF (dAt tX12_look_ok 36 rfl rfl) hS.2.1 e15 ?_
    exact g_iret hF (en_i H hE) (dAt tX12_look_ok 37 rfl rfl) (by decide) (by decide)
  have H := Hf1_6 c1_6
  obtain ⟨Ht1_7, Hf1_7⟩ := oi H
  by_cases c1_7 : x1 = 7
  · have H := Ht1_7 c1_7
    refine g_tsw (c := 7) hF (dAt tX12_look_ok 3 rfl rfl) c1_7 (by decide) (by decide) rfl rfl ?_
    refine g_p (S' := [.ref a]) hF tX12_look_ok 29 1 rfl rfl rfl rfl ?_
    refine g_getR hF (dAt tX12_look_ok 30 rfl rfl) flX12_7 hS.1 rfl ?_
    refine g_p (S' := [.int ((12 + x1) - 5), .ref (a + 1)]) hF tX12_look_ok 31 5 rfl rfl rfl rfl ?_
    obtain ⟨v16, e17, H⟩ := ob H
    refine g_ild hF (dAt tX12_look_ok 36 rfl rfl) hS.2.1 e17 ?_
    exact g_iret hF (en_i H hE) (dAt tX12_look_ok 37 rfl rfl) (by decide) (by decide)
  have H := Hf1_7 c1_7
  obtain ⟨Ht1_8, Hf1_8⟩ := oi H
  by_cases c1_8 : x1 = 8
  · have H := Ht1_8 c1_8
    refine g_tsw (c := 8) hF (dAt tX12_look_ok 3 rfl rfl) c1_8 (by decide) (by decide) rfl rfl ?_
    refine g_p (S' := [.ref a]) hF tX12_look_ok 29 1 rfl rfl rfl rfl ?_
    refine g_getR hF (dAt tX12_look_ok 30 rfl rfl) flX12_7 hS.1 rfl ?_
    refine g_p (S' := [.int ((12 + x1) - 5), .ref (a + 1)]) hF tX12_look_ok 31 5 rfl rfl rfl rfl ?_
    obtain ⟨v18, e19, H⟩ := ob H
    refine g_ild hF (dAt tX12_look_ok 36 rfl rfl) hS.2.1 e19 ?_
    exact g_iret hF (en_i H hE) (dAt tX12_look_ok 37 rfl rfl) (by decide) (by decide)
  have H := Hf1_8 c1_8
  obtain ⟨Ht1_9, Hf1_9⟩ := oi H
  by_cases c1_9 : x1 = 9
  · have H := Ht1_9 c1_9
    refine g_tsw (c := 9) hF (dAt tX12_look_ok 3 rfl rfl) c1_9 (by decide) (by decide) rfl rfl ?_
    refine g_p (L' := [some (.ref a), some (.int x1), some (.int 0), some (.int 0)]) (S' := []) hF tX12_look_ok 38 2 rfl rfl rfl rfl ?_
    refine g_m [true, false, true, true] rfl ?_
    exact X12_look_b120_ok hD hF hS hE FU _ _ H
  have H := Hf1_9 c1_9
  obtain ⟨Ht1_10, Hf1_10⟩ := oi H
  by_cases c1_10 : x1 = 10
  · have H := Ht1_10 c1_10
    refine g_tsw (c := 10) hF (dAt tX12_look_ok 3 rfl rfl) c1_10 (by decide) (by decide) rfl rfl ?_
    refine g_p (L' := [some (.ref a), some (.int x1), some (.int 0), some (.int 0)]) (S' := []) hF tX12_look_ok 61 2 rfl rfl rfl rfl ?_
    refine g_m [true, false, true, true] rfl ?_
    exact X12_look_b158_ok hD hF hS hE FU _ _ H
  have H := Hf1_10 c1_10
  obtain ⟨Ht1_11, Hf1_11⟩ := oi H
  by_cases c1_11 : x1 = 11
  · have H := Ht1_11 c1_11
    refine g_tsw (c := 11) hF (dAt tX12_look_ok 3 rfl rfl) c1_11 (by decide) (by decide) rfl rfl ?_
    refine g_p (S' := [.ref a]) hF tX12_look_ok 80 1 rfl rfl rfl rfl ?_
    refine g_getR hF (dAt tX12_look_ok 81 rfl rfl) flX12_7 hS.1 rfl ?_
    refine g_p (S' := [.int 16, .ref (a + 1)]) hF tX12_look_ok 82 1 rfl rfl rfl rfl ?_
    obtain ⟨v20, e21, H⟩ := ob H
    refine g_ild hF (dAt tX12_look_ok 83 rfl rfl) hS.2.1 e21 ?_
    exact g_iret hF (en_i H hE) (dAt tX12_look_ok 84 rfl rfl) (by decide) (by decide)
  have H := Hf1_11 c1_11
  obtain ⟨Ht1_12, Hf1_12⟩ := oi H
  by_cases c1_12 : x1 = 12
  · have H := Ht1_12 c1_12
    refine g_tsw (c := 12) hF (dAt tX12_look_ok 3 rfl rfl) c1_12 (by decide) (by decide) rfl rfl ?_
    refine g_p (S' := [.ref a]) hF tX12_look_ok 85 1 rfl rfl rfl rfl ?_
    refine g_getR hF (dAt tX12_look_ok 86 rfl rfl) flX12_7 hS.1 rfl ?_
    refine g_p (S' := [.int 0, .ref (a + 1)]) hF tX12_look_ok 87 1 rfl rfl rfl rfl ?_
    obtain ⟨v22, e23, H⟩ := ob H
    refine g_ild hF (dAt tX12_look_ok 88 rfl rfl) hS.2.1 e23 ?_
    exact g_iret hF (en_i H hE) (dAt tX12_look_ok 89 rfl rfl) (by decide) (by decide)
  have H := Hf1_12 c1_12
  refine g_tswD hF (dAt tX12_look_ok 3 rfl rfl) (tsw_l 0 12 13 [0, 1, 2, 3, 4, 5, 6, 7, 8, 9, 10, 11, 12] (al1 c1_0 (al1 c1_1 (al1 c1_2 (al1 c1_3 (al1 c1_4 (al1 c1_5 (al1 c1_6 (al1 c1_7 (al1 c1_8 (al1 c1_9 (al1 c1_10 (al1 c1_11 (al1 c1_12 al0))))))))))))) (by decide) (by decide)) rfl ?_
  refine g_p (S' := [.int (-1)]) hF tX12_look_ok 90 1 rfl rfl rfl rfl ?_
  exact g_iret hF (en_i H hE) (dAt tX12_look_ok 91 rfl rfl) (by decide) (by decide)
def X12_product_b44 (a : Nat) (k9 : Sig → Option (Int32 × Sig)) (y0 : Int32) (σ : Sig) : Option (Int32 × Sig) := (X12_next0_f a σ).bind fun s1 => if y0 = 0 then ((X12_unit_f a s1).bind fun ⟨v4, s5⟩ => if v4 = 0 then (some (0, s5)) else ((X12_lay_f a 14 0 s5).bind fun s8 => k9 s8)) else ((X12_number_f a 1 9999 s1).bind fun ⟨v10, s11⟩ => if v10 = 0 then (some (0, s11)) else ((X12_lay_f a 15 (s1 a 16) s11).bind fun s14 => k9 s14))
set_option maxRecDepth 4000 in
set_option maxHeartbeats 1000000 in
theorem X12_product_b44_ok {K : Kt} {X : Cx} {D : Nat} {τ : Tau} {nx : Nat} {a : Nat} {res : Int32} {rsg : Sig}  (hD : 10 ≤ D) (hF : Fx K X cX12_product 3 RX12 D 0 0) (hS : ShX12 τ a) (hE : En K X (some .boolean) 0 0 (some (.int res)) (τ, rsg, nx)) {k9 : Sig → Option (Int32 × Sig)} (hk9 : ∀ (σ : Sig), k9 σ = some (res, rsg) → G K X 3 0 0 9 [some (.ref a), none, none] [] (τ, σ, nx)) {y0 : Int32} {σ : Sig} (H : X12_product_b44 a k9 y0 σ = some (res, rsg)) : G K X 3 0 0 44 [some (.ref a), none, none] [.int y0] (τ, σ, nx) := by
  refine g_p (L' := [some (.ref a), some (.int y0), none]) (S' := [.ref a]) hF tX12_product_ok 20 2 rfl rfl rfl rfl ?_
  obtain ⟨s1, e2, H⟩ := ob H
  refine g_cV (S := []) hF (X12_next0_ok (Nat.le_refl _) hS e2 K) mbX12_next0 mvX12_next0 mlX12_180 (by omega) (by decide) (dAt tX12_product_ok 22 rfl rfl) hS.1 rfl rfl rfl (Nat.le_of_ble_eq_true rfl) rfl rfl (by decide) (by decide) rfl ?_
  refine g_p (S' := [.int y0]) hF tX12_product_ok 23 1 rfl rfl rfl rfl ?_
  obtain ⟨Ht3, Hf3⟩ := oi H
  refine g_if_eq hF (dAt tX12_product_ok 24 rfl rfl) rfl (fun c3 => ?_) (fun c3 => ?_)
  · have H := Ht3 c3
    refine g_p (S' := [.ref a]) hF tX12_product_ok 40 1 rfl rfl rfl rfl ?_
    obtain ⟨⟨v4, s5⟩, e6, H⟩ := ob H
    refine g_cV (S := []) hF (X12_unit_ok (Nat.le_refl _) hS e6 K) mbX12_unit mvX12_unit mlX12_197 (by omega) (by decide) (dAt tX12_product_ok 41 rfl rfl) hS.1 rfl rfl rfl (Nat.le_of_ble_eq_true rfl) rfl rfl (by decide) (by decide) rfl ?_
    obtain ⟨Ht7, Hf7⟩ := oi H
    refine g_if_ne hF (dAt tX12_product_ok 42 rfl rfl) rfl (fun c7 => ?_) (fun c7 => ?_)
    · have H := Hf7 c7
      refine g_p (S' := [.int 0, .int 14, .ref a]) hF tX12_product_ok 45 3 rfl rfl rfl rfl ?_
      obtain ⟨s8, e9, H⟩ := ob H
      refine g_cV (S := []) hF (X12_lay_ok (Nat.le_refl _) hS e9 K) mbX12_lay mvX12_lay mlX12_193 (by omega) (by decide) (dAt tX12_product_ok 48 rfl rfl) hS.1 rfl rfl rfl (Nat.le_of_ble_eq_true rfl) rfl rfl (by decide) (by decide) rfl ?_
      refine g_goto hF (dAt tX12_product_ok 49 rfl rfl) rfl ?_
      refine g_m [true, false, false] rfl ?_
      exact hk9 _ H
    · have H := Ht7 c7
      refine g_p (S' := [.int 0]) hF tX12_product_ok 43 1 rfl rfl rfl rfl ?_
      exact g_zret hF (en_p H hE) (Or.inl rfl) (dAt tX12_product_ok 44 rfl rfl) (by decide) (by decide)
  · have H := Hf3 c3
    refine g_p (S' := [.ref a]) hF tX12_product_ok 25 1 rfl rfl rfl rfl ?_
    refine g_getI hF (dAt tX12_product_ok 26 rfl rfl) flX12_168 hS.1 rfl ?_
    refine g_p (L' := [some (.ref a), some (.int y0), some (.int (s1 a 16))]) (S' := [.int 9999, .int 1, .ref a]) hF tX12_product_ok 27 4 rfl rfl rfl rfl ?_
    obtain ⟨⟨v10, s11⟩, e12, H⟩ := ob H
    refine g_cV (S := []) hF (X12_number_ok (Nat.le_refl _) hS e12 K) mbX12_number mvX12_number mlX12_200 (by omega) (by decide) (dAt tX12_product_ok 31 rfl rfl) hS.1 rfl rfl rfl (Nat.le_of_ble_eq_true rfl) rfl rfl (by decide) (by decide) rfl ?_
    obtain ⟨Ht13, Hf13⟩ := oi H
    refine g_if_ne hF (dAt tX12_product_ok 32 rfl rfl) rfl (fun c13 => ?_) (fun c13 => ?_)
    · have H := Hf13 c13
      refine g_p (S' := [.int (s1 a 16), .int 15, .ref a]) hF tX12_product_ok 35 3 rfl rfl rfl rfl ?_
      obtain ⟨s14, e15, H⟩ := ob H
      refine g_cV (S := []) hF (X12_lay_ok (Nat.le_refl _) hS e15 K) mbX12_lay mvX12_lay mlX12_193 (by omega) (by decide) (dAt tX12_product_ok 38 rfl rfl) hS.1 rfl rfl rfl (Nat.le_of_ble_eq_true rfl) rfl rfl (by decide) (by decide) rfl ?_
      refine g_goto hF (dAt tX12_product_ok 39 rfl rfl) rfl ?_
      refine g_goto hF (dAt tX12_product_ok 49 rfl rfl) rfl ?_
      refine g_m [true, false, false] rfl ?_
      exact hk9 _ H
    · have H := Ht13 c13
      refine g_p (S' := [.int 0]) hF tX12_product_ok 33 1 rfl rfl rfl rfl ?_
      exact g_zret hF (en_p H hE) (Or.inl rfl) (dAt tX12_product_ok 34 rfl rfl) (by decide) (by decide)
def X12_product_b29 (a : Nat) (k9 : Sig → Option (Int32 × Sig)) (σ : Sig) : Option (Int32 × Sig) := if (σ a 14) = 147 then (X12_product_b44 a k9 1 σ) else (X12_product_b44 a k9 0 σ)
set_option maxRecDepth 4000 in
set_option maxHeartbeats 1000000 in
theorem X12_product_b29_ok {K : Kt} {X : Cx} {D : Nat} {τ : Tau} {nx : Nat} {a : Nat} {res : Int32} {rsg : Sig}  (hD : 10 ≤ D) (hF : Fx K X cX12_product 3 RX12 D 0 0) (hS : ShX12 τ a) (hE : En K X (some .boolean) 0 0 (some (.int res)) (τ, rsg, nx)) {k9 : Sig → Option (Int32 × Sig)} (hk9 : ∀ (σ : Sig), k9 σ = some (res, rsg) → G K X 3 0 0 9 [some (.ref a), none, none] [] (τ, σ, nx)) {σ : Sig} (H : X12_product_b29 a k9 σ = some (res, rsg)) : G K X 3 0 0 29 [some (.ref a), none, none] [] (τ, σ, nx) := by
  refine g_p (S' := [.ref a]) hF tX12_product_ok 13 1 rfl rfl rfl rfl ?_
  refine g_getI hF (dAt tX12_product_ok 14 rfl rfl) flX12_156 hS.1 rfl ?_
  refine g_p (S' := [.int 147, .int (σ a 14)]) hF tX12_product_ok 15 1 rfl rfl rfl rfl ?_
  obtain ⟨Ht1, Hf1⟩ := oi H
  refine g_icmp_ne hF (dAt tX12_product_ok 16 rfl rfl) rfl (fun c1 => ?_) (fun c1 => ?_)
  · have H := Hf1 c1
    refine g_p (S' := [.int 0]) hF tX12_product_ok 19 1 rfl rfl rfl rfl ?_
    exact X12_product_b44_ok hD hF hS hE hk9 H
  · have H := Ht1 c1
    refine g_p (S' := [.int 1]) hF tX12_product_ok 17 1 rfl rfl rfl rfl ?_
    refine g_goto hF (dAt tX12_product_ok 18 rfl rfl) rfl ?_
    exact X12_product_b44_ok hD hF hS hE hk9 H
def X12_product_b9 (a : Nat) : Nat → Sig → Option (Int32 × Sig)
  | 0, _ => none
  | fu + 1, σ => if (σ a 14) = 142 then (X12_product_b29 a (X12_product_b9 a fu) σ) else (if (σ a 14) = 147 then (X12_product_b29 a (X12_product_b9 a fu) σ) else (some (1, σ)))
set_option maxRecDepth 4000 in
set_option maxHeartbeats 1000000 in
theorem X12_product_b9_ok {K : Kt} {X : Cx} {D : Nat} {τ : Tau} {nx : Nat} {a : Nat} {res : Int32} {rsg : Sig}  (hD : 10 ≤ D) (hF : Fx K X cX12_product 3 RX12 D 0 0) (hS : ShX12 τ a) (hE : En K X (some .boolean) 0 0 (some (.int res)) (τ, rsg, nx)) : ∀ (fu : Nat) (σ : Sig), X12_product_b9 a fu σ = some (res, rsg) → G K X 3 0 0 9 [some (.ref a), none, none] [] (τ, σ, nx)
  | 0, _, H => nomatch H
  | fu + 1, σ, H => by
    refine g_p (S' := [.ref a]) hF tX12_product_ok 5 1 rfl rfl rfl rfl ?_
    refine g_getI hF (dAt tX12_product_ok 6 rfl rfl) flX12_156 hS.1 rfl ?_
    refine g_p (S' := [.int 142, .int (σ a 14)]) hF tX12_product_ok 7 1 rfl rfl rfl rfl ?_
    obtain ⟨Ht1, Hf1⟩ := oi H
    refine g_icmp_eq hF (dAt tX12_product_ok 8 rfl rfl) rfl (fun c1 => ?_) (fun c1 => ?_)
    · have H := Ht1 c1
      exact X12_product_b29_ok hD hF hS hE (fun _ H => X12_product_b9_ok hD hF hS hE fu _ H) H
    · have H := Hf1 c1
      refine g_p (S' := [.ref a]) hF tX12_product_ok 9 1 rfl rfl rfl rfl ?_
      refine g_getI hF (dAt tX12_product_ok 10 rfl rfl) flX12_156 hS.1 rfl ?_
      refine g_p (S' := [.int 147, .int (σ a 14)]) hF tX12_product_ok 11 1 rfl rfl rfl rfl ?_
      obtain ⟨Ht2, Hf2⟩ := oi H
      refine g_icmp_ne hF (dAt tX12_product_ok 12 rfl rfl) rfl (fun c2 => ?_) (fun c2 => ?_)
      · have H := Hf2 c2
        refine g_p (S' := [.int 1]) hF tX12_product_ok 50 1 rfl rfl rfl rfl ?_
        exact g_zret hF (en_p H hE) (Or.inr rfl) (dAt tX12_product_ok 51 rfl rfl) (by decide) (by decide)
      · have H := Ht2 c2
        exact X12_product_b29_ok hD hF hS hE (fun _ H => X12_product_b9_ok hD hF hS hE fu _ H) H
def X12_product_f (a : Nat) (σ : Sig) : Option (Int32 × Sig) := (X12_unit_f a σ).bind fun ⟨v1, s2⟩ => if v1 = 0 then (some (0, s2)) else (X12_product_b9 a FU s2)
set_option maxRecDepth 4000 in
set_option maxHeartbeats 1000000 in
theorem X12_product_ok {D : Nat} {τ : Tau} {nx : Nat} {a : Nat} {σ : Sig} {res : Int32} {rsg : Sig} (hD : 10 ≤ D) (hS : ShX12 τ a) (H : X12_product_f a σ = some (res, rsg)) : Ok D 0 0 yX12_product cX12_product 3 (some .boolean) [.ref a] (τ, σ, nx) (some (.int res)) (τ, rsg, nx) := by
  refine ok_of (by decide +kernel) rfl (Nat.le_of_ble_eq_true rfl) (fun K X hF hE hN L0 hL0 => ?_)
  obtain rfl : [some (.ref a), none, none] = L0 := hL0
  have hF : Fx K X cX12_product 3 RX12 D 0 0 := hF
  refine g_p (S' := [.ref a]) hF tX12_product_ok 0 1 rfl rfl rfl rfl ?_
  obtain ⟨⟨v1, s2⟩, e3, H⟩ := ob H
  refine g_cV (S := []) hF (X12_unit_ok (Nat.le_refl _) hS e3 K) mbX12_unit mvX12_unit mlX12_197 (by omega) (by decide) (dAt tX12_product_ok 1 rfl rfl) hS.1 rfl rfl rfl (Nat.le_of_ble_eq_true rfl) rfl rfl (by decide) (by decide) rfl ?_
  obtain ⟨Ht4, Hf4⟩ := oi H
  refine g_if_ne hF (dAt tX12_product_ok 2 rfl rfl) rfl (fun c4 => ?_) (fun c4 => ?_)
  · have H := Hf4 c4
    exact X12_product_b9_ok hD hF hS hE FU _ H
  · have H := Ht4 c4
    refine g_p (S' := [.int 0]) hF tX12_product_ok 3 1 rfl rfl rfl rfl ?_
    exact g_zret hF (en_p H hE) (Or.inl rfl) (dAt tX12_product_ok 4 rfl rfl) (by decide) (by decide)
def X12_begins_b160 (a : Nat) : Nat → Int32 → Int32 → Int32 → Int32 → Sig → Option (Sig)
  | 0, _, _, _, _, _ => none
  | fu + 1, x1, x2, x3, x4, σ => (ld 20240 (σ (a + 1)) 10).bind fun v1 => if v1 ≤ x4 then ((X12_pays_f a x1 x2 x3 σ).bind fun s4 => some s4) else ((X12_debtOf_f a x4 0 σ).bind fun v6 => (st 20240 σ (a + 1) (((σ a 22) + 6) + (4 * x4)) v6).bind fun s8 => (X12_debtOf_f a x4 1 s8).bind fun v10 => (st 20240 s8 (a + 1) ((((σ a 22) + 6) + (4 * x4)) + 1) v10).bind fun s12 => (X12_debtOf_f a x4 4 s12).bind fun v14 => (st 20240 s12 (a + 1) ((((σ a 22) + 6) + (4 * x4)) + 2) v14).bind fun s16 => (X12_debtOf_f a x4 2 s16).bind fun v18 => (st 20240 s16 (a + 1) ((((σ a 22) + 6) + (4 * x4)) + 3) v18).bind fun s20 => X12_begins_b160 a fu x1 x2 x3 (x4 + 1) s20)
set_option maxRecDepth 4000 in
set_option maxHeartbeats 1000000 in
theorem X12_begins_b160_ok {K : Kt} {X : Cx} {D : Nat} {τ : Tau} {nx : Nat} {a : Nat} {res : Sig}  (hD : 3 ≤ D) (hF : Fx K X cX12_begins 6 RX12 D 0 0) (hS : ShX12 τ a) (hE : En K X none 0 0 none (τ, res, nx)) : ∀ (fu : Nat) (x1 x2 x3 x4 : Int32) (σ : Sig), X12_begins_b160 a fu x1 x2 x3 x4 σ = some res → G K X 6 0 0 160 [some (.ref a), some (.int x1), some (.int x2), some (.int x3), some (.int x4), none] [] (τ, σ, nx)
  | 0, _, _, _, _, _, H => nomatch H
  | fu + 1, x1, x2, x3, x4, σ, H => by
    refine g_p (S' := [.ref a, .int x4]) hF tX12_begins_ok 94 2 rfl rfl rfl rfl ?_
    refine g_getR hF (dAt tX12_begins_ok 96 rfl rfl) flX12_7 hS.1 rfl ?_
    refine g_p (S' := [.int 10, .ref (a + 1), .int x4]) hF tX12_begins_ok 97 1 rfl rfl rfl rfl ?_
    obtain ⟨v1, e2, H⟩ := ob H
    refine g_ild hF (dAt tX12_begins_ok 98 rfl rfl) hS.2.1 e2 ?_
    obtain ⟨Ht3, Hf3⟩ := oi H
    refine g_icmp_ge hF (dAt tX12_begins_ok 99 rfl rfl) rfl (fun c3 => ?_) (fun c3 => ?_)
    · have H := Ht3 c3
      refine g_p (S' := [.int x3, .int x2, .int x1, .ref a]) hF tX12_begins_ok 149 4 rfl rfl rfl rfl ?_
      obtain ⟨s4, e5, H⟩ := ob H
      refine g_cV (S := []) hF (X12_pays_ok (Nat.le_refl _) hS e5 K) mbX12_pays mvX12_pays mlX12_290 (by omega) (by decide) (dAt tX12_begins_ok 153 rfl rfl) hS.1 rfl rfl rfl (Nat.le_of_ble_eq_true rfl) rfl rfl (by decide) (by decide) rfl ?_
      exact g_vret hF (en_v H hE) (dAt tX12_begins_ok 154 rfl rfl) (by decide) (by decide)
    · have H := Hf3 c3
      refine g_p (S' := [.ref a]) hF tX12_begins_ok 100 1 rfl rfl rfl rfl ?_
      refine g_getI hF (dAt tX12_begins_ok 101 rfl rfl) flX12_287 hS.1 rfl ?_
      refine g_p (L' := [some (.ref a), some (.int x1), some (.int x2), some (.int x3), some (.int x4), some (.int (((σ a 22) + 6) + (4 * x4)))]) (S' := [.ref a]) hF tX12_begins_ok 102 8 rfl rfl rfl rfl ?_
      refine g_getR hF (dAt tX12_begins_ok 110 rfl rfl) flX12_7 hS.1 rfl ?_
      refine g_p (S' := [.int 0, .int x4, .ref a, .int (((σ a 22) + 6) + (4 * x4)), .ref (a + 1)]) hF tX12_begins_ok 111 4 rfl rfl rfl rfl ?_
      obtain ⟨v6, e7, H⟩ := ob H
      refine g_cV (S := [.int (((σ a 22) + 6) + (4 * x4)), .ref (a + 1)]) hF (X12_debtOf_ok (Nat.le_refl _) hS e7 K) mbX12_debtOf mvX12_debtOf mlX12_76 (by omega) (by decide) (dAt tX12_begins_ok 115 rfl rfl) hS.1 rfl rfl rfl (Nat.le_of_ble_eq_true rfl) rfl rfl (by decide) (by decide) rfl ?_
      obtain ⟨s8, e9, H⟩ := ob H
      refine g_ist hF (dAt tX12_begins_ok 116 rfl rfl) hS.2.1 e9 ?_
      refine g_p (S' := [.ref a]) hF tX12_begins_ok 117 1 rfl rfl rfl rfl ?_
      refine g_getR hF (dAt tX12_begins_ok 118 rfl rfl) flX12_7 hS.1 rfl ?_
      refine g_p (S' := [.int 1, .int x4, .ref a, .int ((((σ a 22) + 6) + (4 * x4)) + 1), .ref (a + 1)]) hF tX12_begins_ok 119 6 rfl rfl rfl rfl ?_
      obtain ⟨v10, e11, H⟩ := ob H
      refine g_cV (S := [.int ((((σ a 22) + 6) + (4 * x4)) + 1), .ref (a + 1)]) hF (X12_debtOf_ok (Nat.le_refl _) hS e11 K) mbX12_debtOf mvX12_debtOf mlX12_76 (by omega) (by decide) (dAt tX12_begins_ok 125 rfl rfl) hS.1 rfl rfl rfl (Nat.le_of_ble_eq_true rfl) rfl rfl (by decide) (by decide) rfl ?_
      obtain ⟨s12, e13, H⟩ := ob H
      refine g_ist hF (dAt tX12_begins_ok 126 rfl rfl) hS.2.1 e13 ?_
      refine g_p (S' := [.ref a]) hF tX12_begins_ok 127 1 rfl rfl rfl rfl ?_
      refine g_getR hF (dAt tX12_begins_ok 128 rfl rfl) flX12_7 hS.1 rfl ?_
      refine g_p (S' := [.int 4, .int x4, .ref a, .int ((((σ a 22) + 6) + (4 * x4)) + 2), .ref (a + 1)]) hF tX12_begins_ok 129 6 rfl rfl rfl rfl ?_
      obtain ⟨v14, e15, H⟩ := ob H
      refine g_cV (S := [.int ((((σ a 22) + 6) + (4 * x4)) + 2), .ref (a + 1)]) hF (X12_debtOf_ok (Nat.le_refl _) hS e15 K) mbX12_debtOf mvX12_debtOf mlX12_76 (by omega) (by decide) (dAt tX12_begins_ok 135 rfl rfl) hS.1 rfl rfl rfl (Nat.le_of_ble_eq_true rfl) rfl rfl (by decide) (by decide) rfl ?_
      obtain ⟨s16, e17, H⟩ := ob H
      refine g_ist hF (dAt tX12_begins_ok 136 rfl rfl) hS.2.1 e17 ?_
      refine g_p (S' := [.ref a]) hF tX12_begins_ok 137 1 rfl rfl rfl rfl ?_
      refine g_getR hF (dAt tX12_begins_ok 138 rfl rfl) flX12_7 hS.1 rfl ?_
      refine g_p (S' := [.int 2, .int x4, .ref a, .int ((((σ a 22) + 6) + (4 * x4)) + 3), .ref (a + 1)]) hF tX12_begins_ok 139 6 rfl rfl rfl rfl ?_
      obtain ⟨v18, e19, H⟩ := ob H
      refine g_cV (S := [.int ((((σ a 22) + 6) + (4 * x4)) + 3), .ref (a + 1)]) hF (X12_debtOf_ok (Nat.le_refl _) hS e19 K) mbX12_debtOf mvX12_debtOf mlX12_76 (by omega) (by decide) (dAt tX12_begins_ok 145 rfl rfl) hS.1 rfl rfl rfl (Nat.le_of_ble_eq_true rfl) rfl rfl (by decide) (by decide) rfl ?_
      obtain ⟨s20, e21, H⟩ := ob H
      refine g_ist hF (dAt tX12_begins_ok 146 rfl rfl) hS.2.1 e21 ?_
      refine g_p (L' := [some (.ref a), some (.int x1), some (.int x2), some (.int x3), some (.int (x4 + 1)), some (.int (((σ a 22) + 6) + (4 * x4)))]) (S' := []) hF tX12_begins_ok 147 1 rfl rfl rfl rfl ?_
      refine g_goto hF (dAt tX12_begins_ok 148 rfl rfl) rfl ?_
      refine g_m [true, true, true, true, true, false] rfl ?_
      exact X12_begins_b160_ok hD hF hS hE fu _ _ _ _ _ H
def X12_begins_b60 (a : Nat) (x1 x2 x3 : Int32) (σ : Sig) : Option (Sig) := (ld 20240 (σ (a + 1)) 16).bind fun v1 => (pI σ a 22 (7880 + (206 * v1))).bind fun s3 => (st 20240 s3 (a + 1) ((s3 a 22) + 0) x1).bind fun s5 => (st 20240 s5 (a + 1) ((s5 a 22) + 1) x2).bind fun s7 => (st 20240 s7 (a + 1) ((s7 a 22) + 2) x3).bind fun s9 => (ld 20240 (s9 (a + 1)) 10).bind fun v11 => (st 20240 s9 (a + 1) ((s9 a 22) + 3) v11).bind fun s13 => (st 20240 s13 (a + 1) ((s13 a 22) + 4) 0).bind fun s15 => (st 20240 s15 (a + 1) ((s15 a 22) + 5) 0).bind fun s17 => X12_begins_b160 a FU x1 x2 x3 0 s17
set_option maxRecDepth 4000 in
set_option maxHeartbeats 1000000 in
theorem X12_begins_b60_ok {K : Kt} {X : Cx} {D : Nat} {τ : Tau} {nx : Nat} {a : Nat} {res : Sig}  (hD : 3 ≤ D) (hF : Fx K X cX12_begins 6 RX12 D 0 0) (hS : ShX12 τ a) (hE : En K X none 0 0 none (τ, res, nx)) {x1 x2 x3 : Int32} {σ : Sig} (H : X12_begins_b60 a x1 x2 x3 σ = some res) : G K X 6 0 0 60 [some (.ref a), some (.int x1), some (.int x2), some (.int x3), none, none] [] (τ, σ, nx) := by
  refine g_p (S' := [.ref a, .int 206, .int 7880, .ref a]) hF tX12_begins_ok 31 4 rfl rfl rfl rfl ?_
  refine g_getR hF (dAt tX12_begins_ok 35 rfl rfl) flX12_7 hS.1 rfl ?_
  refine g_p (S' := [.int 16, .ref (a + 1), .int 206, .int 7880, .ref a]) hF tX12_begins_ok 36 1 rfl rfl rfl rfl ?_
  obtain ⟨v1, e2, H⟩ := ob H
  refine g_ild hF (dAt tX12_begins_ok 37 rfl rfl) hS.2.1 e2 ?_
  refine g_p (S' := [.int (7880 + (206 * v1)), .ref a]) hF tX12_begins_ok 38 2 rfl rfl rfl rfl ?_
  obtain ⟨s3, e4, H⟩ := ob H
  refine g_pI hF (dAt tX12_begins_ok 40 rfl rfl) flX12_287 (Or.inl rfl) hS.1 rfl e4 ?_
  refine g_p (S' := [.ref a]) hF tX12_begins_ok 41 1 rfl rfl rfl rfl ?_
  refine g_getR hF (dAt tX12_begins_ok 42 rfl rfl) flX12_7 hS.1 rfl ?_
  refine g_p (S' := [.ref a, .ref (a + 1)]) hF tX12_begins_ok 43 1 rfl rfl rfl rfl ?_
  refine g_getI hF (dAt tX12_begins_ok 44 rfl rfl) flX12_287 hS.1 rfl ?_
  refine g_p (S' := [.int x1, .int ((s3 a 22) + 0), .ref (a + 1)]) hF tX12_begins_ok 45 3 rfl rfl rfl rfl ?_
  obtain ⟨s5, e6, H⟩ := ob H
  refine g_ist hF (dAt tX12_begins_ok 48 rfl rfl) hS.2.1 e6 ?_
  refine g_p (S' := [.ref a]) hF tX12_begins_ok 49 1 rfl rfl rfl rfl ?_
  refine g_getR hF (dAt tX12_begins_ok 50 rfl rfl) flX12_7 hS.1 rfl ?_
  refine g_p (S' := [.ref a, .ref (a + 1)]) hF tX12_begins_ok 51 1 rfl rfl rfl rfl ?_
  refine g_getI hF (dAt tX12_begins_ok 52 rfl rfl) flX12_287 hS.1 rfl ?_
  refine g_p (S' := [.int x2, .int ((s5 a 22) + 1), .ref (a + 1)]) hF tX12_begins_ok 53 3 rfl rfl rfl rfl ?_
  obtain ⟨s7, e8, H⟩ := ob H
  refine g_ist hF (dAt tX12_begins_ok 56 rfl rfl) hS.2.1 e8 ?_
  refine g_p (S' := [.ref a]) hF tX12_begins_ok 57 1 rfl rfl rfl rfl ?_
  refine g_getR hF (dAt tX12_begins_ok 58 rfl rfl) flX12_7 hS.1 rfl ?_
  refine g_p (S' := [.ref a, .ref (a + 1)]) hF tX12_begins_ok 59 1 rfl rfl rfl rfl ?_
  refine g_getI hF (dAt tX12_begins_ok 60 rfl rfl) flX12_287 hS.1 rfl ?_
  refine g_p (S' := [.int x3, .int ((s7 a 22) + 2), .ref (a + 1)]) hF tX12_begins_ok 61 3 rfl rfl rfl rfl ?_
  obtain ⟨s9, e10, H⟩ := ob H
  refine g_ist hF (dAt tX12_begins_ok 64 rfl rfl) hS.2.1 e10 ?_
  refine g_p (S' := [.ref a]) hF tX12_begins_ok 65 1 rfl rfl rfl rfl ?_
  refine g_getR hF (dAt tX12_begins_ok 66 rfl rfl) flX12_7 hS.1 rfl ?_
  refine g_p (S' := [.ref a, .ref (a + 1)]) hF tX12_begins_ok 67 1 rfl rfl rfl rfl ?_
  refine g_getI hF (dAt tX12_begins_ok 68 rfl rfl) flX12_287 hS.1 rfl ?_
  refine g_p (S' := [.ref a, .int ((s9 a 22) + 3), .ref (a + 1)]) hF tX12_begins_ok 69 3 rfl rfl rfl rfl ?_
  refine g_getR hF (dAt tX12_begins_ok 72 rfl rfl) flX12_7 hS.1 rfl ?_
  refine g_p (S' := [.int 10, .ref (a + 1), .int ((s9 a 22) + 3), .ref (a + 1)]) hF tX12_begins_ok 73 1 rfl rfl rfl rfl ?_
  obtain ⟨v11, e12, H⟩ := ob H
  refine g_ild hF (dAt tX12_begins_ok 74 rfl rfl) hS.2.1 e12 ?_
  obtain ⟨s13, e14, H⟩ := ob H
  refine g_ist hF (dAt tX12_begins_ok 75 rfl rfl) hS.2.1 e14 ?_
  refine g_p (S' := [.ref a]) hF tX12_begins_ok 76 1 rfl rfl rfl rfl ?_
  refine g_getR hF (dAt tX12_begins_ok 77 rfl rfl) flX12_7 hS.1 rfl ?_
  refine g_p (S' := [.ref a, .ref (a + 1)]) hF tX12_begins_ok 78 1 rfl rfl rfl rfl ?_
  refine g_getI hF (dAt tX12_begins_ok 79 rfl rfl) flX12_287 hS.1 rfl ?_
  refine g_p (S' := [.int 0, .int ((s13 a 22) + 4), .ref (a + 1)]) hF tX12_begins_ok 80 3 rfl rfl rfl rfl ?_
  obtain ⟨s15, e16, H⟩ := ob H
  refine g_ist hF (dAt tX12_begins_ok 83 rfl rfl) hS.2.1 e16 ?_
  refine g_p (S' := [.ref a]) hF tX12_begins_ok 84 1 rfl rfl rfl rfl ?_
  refine g_getR hF (dAt tX12_begins_ok 85 rfl rfl) flX12_7 hS.1 rfl ?_
  refine g_p (S' := [.ref a, .ref (a + 1)]) hF tX12_begins_ok 86 1 rfl rfl rfl rfl ?_
  refine g_getI hF (dAt tX12_begins_ok 87 rfl rfl) flX12_287 hS.1 rfl ?_
  refine g_p (S' := [.int 0, .int ((s15 a 22) + 5), .ref (a + 1)]) hF tX12_begins_ok 88 3 rfl rfl rfl rfl ?_
  obtain ⟨s17, e18, H⟩ := ob H
  refine g_ist hF (dAt tX12_begins_ok 91 rfl rfl) hS.2.1 e18 ?_
  refine g_p (L' := [some (.ref a), some (.int x1), some (.int x2), some (.int x3), some (.int 0), none]) (S' := []) hF tX12_begins_ok 92 2 rfl rfl rfl rfl ?_
  exact X12_begins_b160_ok hD hF hS hE FU _ _ _ _ _ H
def X12_begins_b17 (a : Nat) : Nat → Int32 → Int32 → Int32 → Int32 → Sig → Option (Sig)
  | 0, _, _, _, _, _ => none
  | fu + 1, x1, x2, x3, x4, σ => if 20034 ≤ x4 then ((ld 20240 (σ (a + 1)) 16).bind fun v2 => (st 20240 σ (a + 1) 16 (v2 - 1)).bind fun s4 => X12_begins_b60 a x1 x2 x3 s4) else ((ld 20240 (σ (a + 1)) (x4 + 206)).bind fun v6 => (st 20240 σ (a + 1) x4 v6).bind fun s8 => X12_begins_b17 a fu x1 x2 x3 (x4 + 1) s8)
set_option maxRecDepth 4000 in
set_option maxHeartbeats 1000000 in
theorem X12_begins_b17_ok {K : Kt} {X : Cx} {D : Nat} {τ : Tau} {nx : Nat} {a : Nat} {res : Sig}  (hD : 3 ≤ D) (hF : Fx K X cX12_begins 6 RX12 D 0 0) (hS : ShX12 τ a) (hE : En K X none 0 0 none (τ, res, nx)) : ∀ (fu : Nat) (x1 x2 x3 x4 : Int32) (σ : Sig), X12_begins_b17 a fu x1 x2 x3 x4 σ = some res → G K X 6 0 0 17 [some (.ref a), some (.int x1), some (.int x2), some (.int x3), some (.int x4), none] [] (τ, σ, nx)
  | 0, _, _, _, _, _, H => nomatch H
  | fu + 1, x1, x2, x3, x4, σ, H => by
    refine g_p (S' := [.int 20034, .int x4]) hF tX12_begins_ok 8 2 rfl rfl rfl rfl ?_
    obtain ⟨Ht1, Hf1⟩ := oi H
    refine g_icmp_ge hF (dAt tX12_begins_ok 10 rfl rfl) rfl (fun c1 => ?_) (fun c1 => ?_)
    · have H := Ht1 c1
      refine g_p (S' := [.ref a]) hF tX12_begins_ok 23 1 rfl rfl rfl rfl ?_
      refine g_getR hF (dAt tX12_begins_ok 24 rfl rfl) flX12_7 hS.1 rfl ?_
      refine g_p (S' := [.int 16, .ref (a + 1), .int 16, .ref (a + 1)]) hF tX12_begins_ok 25 2 rfl rfl rfl rfl ?_
      obtain ⟨v2, e3, H⟩ := ob H
      refine g_ild hF (dAt tX12_begins_ok 27 rfl rfl) hS.2.1 e3 ?_
      refine g_p (S' := [.int (v2 - 1), .int 16, .ref (a + 1)]) hF tX12_begins_ok 28 2 rfl rfl rfl rfl ?_
      obtain ⟨s4, e5, H⟩ := ob H
      refine g_ist hF (dAt tX12_begins_ok 30 rfl rfl) hS.2.1 e5 ?_
      refine g_m [true, true, true, true, false, false] rfl ?_
      exact X12_begins_b60_ok hD hF hS hE H
    · have H := Hf1 c1
      refine g_p (S' := [.ref a]) hF tX12_begins_ok 11 1 rfl rfl rfl rfl ?_
      refine g_getR hF (dAt tX12_begins_ok 12 rfl rfl) flX12_7 hS.1 rfl ?_
      refine g_p (S' := [.ref a, .int x4, .ref (a + 1)]) hF tX12_begins_ok 13 2 rfl rfl rfl rfl ?_
      refine g_getR hF (dAt tX12_begins_ok 15 rfl rfl) flX12_7 hS.1 rfl ?_
      refine g_p (S' := [.int (x4 + 206), .ref (a + 1), .int x4, .ref (a + 1)]) hF tX12_begins_ok 16 3 rfl rfl rfl rfl ?_
      obtain ⟨v6, e7, H⟩ := ob H
      refine g_ild hF (dAt tX12_begins_ok 19 rfl rfl) hS.2.1 e7 ?_
      obtain ⟨s8, e9, H⟩ := ob H
      refine g_ist hF (dAt tX12_begins_ok 20 rfl rfl) hS.2.1 e9 ?_
      refine g_p (L' := [some (.ref a), some (.int x1), some (.int x2), some (.int x3), some (.int (x4 + 1)), none]) (S' := []) hF tX12_begins_ok 21 1 rfl rfl rfl rfl ?_
      refine g_goto hF (dAt tX12_begins_ok 22 rfl rfl) rfl ?_
      exact X12_begins_b17_ok hD hF hS hE fu _ _ _ _ _ H
def X12_begins_f (a : Nat) (x1 x2 x3 : Int32) (σ : Sig) : Option (Sig) := (ld 20240 (σ (a + 1)) 16).bind fun v1 => if v1 = 60 then (X12_begins_b17 a FU x1 x2 x3 7880 σ) else (X12_begins_b60 a x1 x2 x3 σ)
set_option maxRecDepth 4000 in
set_option maxHeartbeats 1000000 in
theorem X12_begins_ok {D : Nat} {τ : Tau} {nx : Nat} {a : Nat} {x1 x2 x3 : Int32} {σ : Sig} {res : Sig} (hD : 3 ≤ D) (hS : ShX12 τ a) (H : X12_begins_f a x1 x2 x3 σ = some res) : Ok D 0 0 yX12_begins cX12_begins 6 none [.ref a, .int x1, .int x2, .int x3] (τ, σ, nx) none (τ, res, nx) := by
  refine ok_of (by decide +kernel) rfl (Nat.le_of_ble_eq_true rfl) (fun K X hF hE hN L0 hL0 => ?_)
  obtain rfl : [some (.ref a), some (.int x1), some (.int x2), some (.int x3), none, none] = L0 := hL0
  have hF : Fx K X cX12_begins 6 RX12 D 0 0 := hF
  refine g_p (S' := [.ref a]) hF tX12_begins_ok 0 1 rfl rfl rfl rfl ?_
  refine g_getR hF (dAt tX12_begins_ok 1 rfl rfl) flX12_7 hS.1 rfl ?_
  refine g_p (S' := [.int 16, .ref (a + 1)]) hF tX12_begins_ok 2 1 rfl rfl rfl rfl ?_
  obtain ⟨v1, e2, H⟩ := ob H
  refine g_ild hF (dAt tX12_begins_ok 3 rfl rfl) hS.2.1 e2 ?_
  refine g_p (S' := [.int 60, .int v1]) hF tX12_begins_ok 4 1 rfl rfl rfl rfl ?_
  obtain ⟨Ht3, Hf3⟩ := oi H
  refine g_icmp_ne hF (dAt tX12_begins_ok 5 rfl rfl) rfl (fun c3 => ?_) (fun c3 => ?_)
  · have H := Hf3 c3
    exact X12_begins_b60_ok hD hF hS hE H
  · have H := Ht3 c3
    refine g_p (L' := [some (.ref a), some (.int x1), some (.int x2), some (.int x3), some (.int 7880), none]) (S' := []) hF tX12_begins_ok 6 2 rfl rfl rfl rfl ?_
    exact X12_begins_b17_ok hD hF hS hE FU _ _ _ _ _ H
def X12_lend_f (a : Nat) (x1 x2 x3 : Int32) (σ : Sig) : Option (Int32 × Sig) := (X12_isLeft_f a x1 σ).bind fun v1 => if v1 = 0 then (some (0, σ)) else ((X12_isOne_f a x2 σ).bind fun v4 => if v4 = 0 then (some (0, σ)) else ((X12_debtOf_f a x1 1 σ).bind fun v7 => if x2 = v7 then (some (0, σ)) else ((X12_debtOf_f a x1 0 σ).bind fun v10 => if x2 = v10 then (some (0, σ)) else ((X12_isIn_f x3 0 9999 σ).bind fun v13 => if v13 = 0 then (some (0, σ)) else ((X12_own_f a x2 5 σ).bind fun v16 => if x3 ≤ v16 then ((X12_debtOf_f a x1 1 σ).bind fun v19 => (X12_begins_f a x2 v19 x3 σ).bind fun s21 => (X12_isOf_f a x1 s21).bind fun s23 => (X12_lays0_f a x1 1 x2 s23).bind fun s25 => (X12_ends_f a s25).bind fun s27 => some (1, s27)) else (some (0, σ)))))))
set_option maxRecDepth 4000 in
set_option maxHeartbeats 1000000 in
theorem X12_lend_ok {D : Nat} {τ : Tau} {nx : Nat} {a : Nat} {x1 x2 x3 : Int32} {σ : Sig} {res : Int32} {rsg : Sig} (hD : 4 ≤ D) (hS : ShX12 τ a) (H : X12_lend_f a x1 x2 x3 σ = some (res, rsg)) : Ok D 0 0 yX12_lend cX12_lend 4 (some .boolean) [.ref a, .int x1, .int x2, .int x3] (τ, σ, nx) (some (.int res)) (τ, rsg, nx) := by
  refine ok_of (by decide +kernel) rfl (Nat.le_of_ble_eq_true rfl) (fun K X hF hE hN L0 hL0 => ?_)
  obtain rfl : [some (.ref a), some (.int x1), some (.int x2), some (.int x3)] = L0 := hL0
  have hF : Fx K X cX12_lend 4 RX12 D 0 0 := hF
  refine g_p (S' := [.int x1, .ref a]) hF tX12_lend_ok 0 2 rfl rfl rfl rfl ?_
  obtain ⟨v1, e2, H⟩ := ob H
  refine g_cV (S := []) hF (X12_isLeft_ok (Nat.le_refl _) hS e2 K) mbX12_isLeft mvX12_isLeft mlX12_293 (by omega) (by decide) (dAt tX12_lend_ok 2 rfl rfl) hS.1 rfl rfl rfl (Nat.le_of_ble_eq_true rfl) rfl rfl (by decide) (by decide) rfl ?_
  obtain ⟨Ht3, Hf3⟩ := oi H
  refine g_if_eq hF (dAt tX12_lend_ok 3 rfl rfl) rfl (fun c3 => ?_) (fun c3 => ?_)
  · have H := Ht3 c3
    refine g_p (S' := [.int 0]) hF tX12_lend_ok 31 1 rfl rfl rfl rfl ?_
    exact g_zret hF (en_p H hE) (Or.inl rfl) (dAt tX12_lend_ok 32 rfl rfl) (by decide) (by decide)
  · have H := Hf3 c3
    refine g_p (S' := [.int x2, .ref a]) hF tX12_lend_ok 4 2 rfl rfl rfl rfl ?_
    obtain ⟨v4, e5, H⟩ := ob H
    refine g_cV (S := []) hF (X12_isOne_ok (Nat.le_refl _) hS e5 K) mbX12_isOne mvX12_isOne mlX12_62 (by omega) (by decide) (dAt tX12_lend_ok 6 rfl rfl) hS.1 rfl rfl rfl (Nat.le_of_ble_eq_true rfl) rfl rfl (by decide) (by decide) rfl ?_
    obtain ⟨Ht6, Hf6⟩ := oi H
    refine g_if_eq hF (dAt tX12_lend_ok 7 rfl rfl) rfl (fun c6 => ?_) (fun c6 => ?_)
    · have H := Ht6 c6
      refine g_p (S' := [.int 0]) hF tX12_lend_ok 31 1 rfl rfl rfl rfl ?_
      exact g_zret hF (en_p H hE) (Or.inl rfl) (dAt tX12_lend_ok 32 rfl rfl) (by decide) (by decide)
    · have H := Hf6 c6
      refine g_p (S' := [.int 1, .int x1, .ref a, .int x2]) hF tX12_lend_ok 8 4 rfl rfl rfl rfl ?_
      obtain ⟨v7, e8, H⟩ := ob H
      refine g_cV (S := [.int x2]) hF (X12_debtOf_ok (Nat.le_refl _) hS e8 K) mbX12_debtOf mvX12_debtOf mlX12_76 (by omega) (by decide) (dAt tX12_lend_ok 12 rfl rfl) hS.1 rfl rfl rfl (Nat.le_of_ble_eq_true rfl) rfl rfl (by decide) (by decide) rfl ?_
      obtain ⟨Ht9, Hf9⟩ := oi H
      refine g_icmp_eq hF (dAt tX12_lend_ok 13 rfl rfl) rfl (fun c9 => ?_) (fun c9 => ?_)
      · have H := Ht9 c9
        refine g_p (S' := [.int 0]) hF tX12_lend_ok 31 1 rfl rfl rfl rfl ?_
        exact g_zret hF (en_p H hE) (Or.inl rfl) (dAt tX12_lend_ok 32 rfl rfl) (by decide) (by decide)
      · have H := Hf9 c9
        refine g_p (S' := [.int 0, .int x1, .ref a, .int x2]) hF tX12_lend_ok 14 4 rfl rfl rfl rfl ?_
        obtain ⟨v10, e11, H⟩ := ob H
        refine g_cV (S := [.int x2]) hF (X12_debtOf_ok (Nat.le_refl _) hS e11 K) mbX12_debtOf mvX12_debtOf mlX12_76 (by omega) (by decide) (dAt tX12_lend_ok 18 rfl rfl) hS.1 rfl rfl rfl (Nat.le_of_ble_eq_true rfl) rfl rfl (by decide) (by decide) rfl ?_
        obtain ⟨Ht12, Hf12⟩ := oi H
        refine g_icmp_eq hF (dAt tX12_lend_ok 19 rfl rfl) rfl (fun c12 => ?_) (fun c12 => ?_)
        · have H := Ht12 c12
          refine g_p (S' := [.int 0]) hF tX12_lend_ok 31 1 rfl rfl rfl rfl ?_
          exact g_zret hF (en_p H hE) (Or.inl rfl) (dAt tX12_lend_ok 32 rfl rfl) (by decide) (by decide)
        · have H := Hf12 c12
          refine g_p (S' := [.int 9999, .int 0, .int x3]) hF tX12_lend_ok 20 3 rfl rfl rfl rfl ?_
          obtain ⟨v13, e14, H⟩ := ob H
          refine g_cS (S := []) hF (X12_isIn_ok (Nat.le_refl _)  e14 K) mbX12_isIn msX12_isIn mlX12_50 (by omega) (by decide) (dAt tX12_lend_ok 23 rfl rfl) rfl rfl (Nat.le_of_ble_eq_true rfl) rfl rfl (by decide) (by decide) rfl ?_
          obtain ⟨Ht15, Hf15⟩ := oi H
          refine g_if_eq hF (dAt tX12_lend_ok 24 rfl rfl) rfl (fun c15 => ?_) (fun c15 => ?_)
          · have H := Ht15 c15
            refine g_p (S' := [.int 0]) hF tX12_lend_ok 31 1 rfl rfl rfl rfl ?_
            exact g_zret hF (en_p H hE) (Or.inl rfl) (dAt tX12_lend_ok 32 rfl rfl) (by decide) (by decide)
          · have H := Hf15 c15
            refine g_p (S' := [.int 5, .int x2, .ref a]) hF tX12_lend_ok 25 3 rfl rfl rfl rfl ?_
            obtain ⟨v16, e17, H⟩ := ob H
            refine g_cV (S := []) hF (X12_own_ok (Nat.le_refl _) hS e17 K) mbX12_own mvX12_own mlX12_65 (by omega) (by decide) (dAt tX12_lend_ok 28 rfl rfl) hS.1 rfl rfl rfl (Nat.le_of_ble_eq_true rfl) rfl rfl (by decide) (by decide) rfl ?_
            refine g_p (S' := [.int x3, .int v16]) hF tX12_lend_ok 29 1 rfl rfl rfl rfl ?_
            obtain ⟨Ht18, Hf18⟩ := oi H
            refine g_icmp_ge hF (dAt tX12_lend_ok 30 rfl rfl) rfl (fun c18 => ?_) (fun c18 => ?_)
            · have H := Ht18 c18
              refine g_p (S' := [.int 1, .int x1, .ref a, .int x2, .ref a]) hF tX12_lend_ok 33 5 rfl rfl rfl rfl ?_
              obtain ⟨v19, e20, H⟩ := ob H
              refine g_cV (S := [.int x2, .ref a]) hF (X12_debtOf_ok (Nat.le_refl _) hS e20 K) mbX12_debtOf mvX12_debtOf mlX12_76 (by omega) (by decide) (dAt tX12_lend_ok 38 rfl rfl) hS.1 rfl rfl rfl (Nat.le_of_ble_eq_true rfl) rfl rfl (by decide) (by decide) rfl ?_
              refine g_p (S' := [.int x3, .int v19, .int x2, .ref a]) hF tX12_lend_ok 39 1 rfl rfl rfl rfl ?_
              obtain ⟨s21, e22, H⟩ := ob H
              refine g_cV (S := []) hF (X12_begins_ok (Nat.le_refl _) hS e22 K) mbX12_begins mvX12_begins mlX12_296 (by omega) (by decide) (dAt tX12_lend_ok 40 rfl rfl) hS.1 rfl rfl rfl (Nat.le_of_ble_eq_true rfl) rfl rfl (by decide) (by decide) rfl ?_
              refine g_p (S' := [.int x1, .ref a]) hF tX12_lend_ok 41 2 rfl rfl rfl rfl ?_
              obtain ⟨s23, e24, H⟩ := ob H
              refine g_cV (S := []) hF (X12_isOf_ok (Nat.le_refl _) hS e24 K) mbX12_isOf mvX12_isOf mlX12_299 (by omega) (by decide) (dAt tX12_lend_ok 43 rfl rfl) hS.1 rfl rfl rfl (Nat.le_of_ble_eq_true rfl) rfl rfl (by decide) (by decide) rfl ?_
              refine g_p (S' := [.int x2, .int 1, .int x1, .ref a]) hF tX12_lend_ok 44 4 rfl rfl rfl rfl ?_
              obtain ⟨s25, e26, H⟩ := ob H
              refine g_cV (S := []) hF (X12_lays0_ok (Nat.le_refl _) hS e26 K) mbX12_lays0 mvX12_lays0 mlX12_70 (by omega) (by decide) (dAt tX12_lend_ok 48 rfl rfl) hS.1 rfl rfl rfl (Nat.le_of_ble_eq_true rfl) rfl rfl (by decide) (by decide) rfl ?_
              refine g_p (S' := [.ref a]) hF tX12_lend_ok 49 1 rfl rfl rfl rfl ?_
              obtain ⟨s27, e28, H⟩ := ob H
              refine g_cV (S := []) hF (X12_ends_ok (Nat.le_refl _) hS e28 K) mbX12_ends mvX12_ends mlX12_302 (by omega) (by decide) (dAt tX12_lend_ok 50 rfl rfl) hS.1 rfl rfl rfl (Nat.le_of_ble_eq_true rfl) rfl rfl (by decide) (by decide) rfl ?_
              refine g_p (S' := [.int 1]) hF tX12_lend_ok 51 1 rfl rfl rfl rfl ?_
              exact g_zret hF (en_p H hE) (Or.inr rfl) (dAt tX12_lend_ok 52 rfl rfl) (by decide) (by decide)
            · have H := Hf18 c18
              refine g_p (S' := [.int 0]) hF tX12_lend_ok 31 1 rfl rfl rfl rfl ?_
              exact g_zret hF (en_p H hE) (Or.inl rfl) (dAt tX12_lend_ok 32 rfl rfl) (by decide) (by decide)
def X12_split_b61 (a : Nat) : Nat → Int32 → Int32 → Int32 → Int32 → Sig → Option (Int32 × Sig)
  | 0, _, _, _, _, _ => none
  | fu + 1, x1, x2, x3, x4, σ => if 8 ≤ x4 then ((X12_lays0_f a x3 2 x2 σ).bind fun s2 => (X12_lays0_f a x3 3 0 s2).bind fun s4 => (X12_lays0_f a x3 6 0 s4).bind fun s6 => (X12_debtOf_f a x1 2 s6).bind fun v8 => (X12_lays0_f a x1 2 (v8 - x2) s6).bind fun s10 => (ld 20240 (s10 (a + 1)) 10).bind fun v12 => (st 20240 s10 (a + 1) 10 (v12 + 1)).bind fun s14 => (X12_isOf_f a x1 s14).bind fun s16 => (X12_isOf_f a x3 s16).bind fun s18 => (X12_ends_f a s18).bind fun s20 => some (x3, s20)) else ((X12_debtOf_f a x1 x4 σ).bind fun v22 => (X12_lays0_f a x3 x4 v22 σ).bind fun s24 => X12_split_b61 a fu x1 x2 x3 (x4 + 1) s24)
set_option maxRecDepth 4000 in
set_option maxHeartbeats 1000000 in
theorem X12_split_b61_ok {K : Kt} {X : Cx} {D : Nat} {τ : Tau} {nx : Nat} {a : Nat} {res : Int32} {rsg : Sig}  (hD : 4 ≤ D) (hF : Fx K X cX12_split 5 RX12 D 0 0) (hS : ShX12 τ a) (hE : En K X (some .int) 0 0 (some (.int res)) (τ, rsg, nx)) : ∀ (fu : Nat) (x1 x2 x3 x4 : Int32) (σ : Sig), X12_split_b61 a fu x1 x2 x3 x4 σ = some (res, rsg) → G K X 5 0 0 61 [some (.ref a), some (.int x1), some (.int x2), some (.int x3), some (.int x4)] [] (τ, σ, nx)
  | 0, _, _, _, _, _, H => nomatch H
  | fu + 1, x1, x2, x3, x4, σ, H => by
    refine g_p (S' := [.int 8, .int x4]) hF tX12_split_ok 35 2 rfl rfl rfl rfl ?_
    obtain ⟨Ht1, Hf1⟩ := oi H
    refine g_icmp_ge hF (dAt tX12_split_ok 37 rfl rfl) rfl (fun c1 => ?_) (fun c1 => ?_)
    · have H := Ht1 c1
      refine g_p (S' := [.int x2, .int 2, .int x3, .ref a]) hF tX12_split_ok 48 4 rfl rfl rfl rfl ?_
      obtain ⟨s2, e3, H⟩ := ob H
      refine g_cV (S := []) hF (X12_lays0_ok (Nat.le_refl _) hS e3 K) mbX12_lays0 mvX12_lays0 mlX12_70 (by omega) (by decide) (dAt tX12_split_ok 52 rfl rfl) hS.1 rfl rfl rfl (Nat.le_of_ble_eq_true rfl) rfl rfl (by decide) (by decide) rfl ?_
      refine g_p (S' := [.int 0, .int 3, .int x3, .ref a]) hF tX12_split_ok 53 4 rfl rfl rfl rfl ?_
      obtain ⟨s4, e5, H⟩ := ob H
      refine g_cV (S := []) hF (X12_lays0_ok (Nat.le_refl _) hS e5 K) mbX12_lays0 mvX12_lays0 mlX12_70 (by omega) (by decide) (dAt tX12_split_ok 57 rfl rfl) hS.1 rfl rfl rfl (Nat.le_of_ble_eq_true rfl) rfl rfl (by decide) (by decide) rfl ?_
      refine g_p (S' := [.int 0, .int 6, .int x3, .ref a]) hF tX12_split_ok 58 4 rfl rfl rfl rfl ?_
      obtain ⟨s6, e7, H⟩ := ob H
      refine g_cV (S := []) hF (X12_lays0_ok (Nat.le_refl _) hS e7 K) mbX12_lays0 mvX12_lays0 mlX12_70 (by omega) (by decide) (dAt tX12_split_ok 62 rfl rfl) hS.1 rfl rfl rfl (Nat.le_of_ble_eq_true rfl) rfl rfl (by decide) (by decide) rfl ?_
      refine g_p (S' := [.int 2, .int x1, .ref a, .int 2, .int x1, .ref a]) hF tX12_split_ok 63 6 rfl rfl rfl rfl ?_
      obtain ⟨v8, e9, H⟩ := ob H
      refine g_cV (S := [.int 2, .int x1, .ref a]) hF (X12_debtOf_ok (Nat.le_refl _) hS e9 K) mbX12_debtOf mvX12_debtOf mlX12_76 (by omega) (by decide) (dAt tX12_split_ok 69 rfl rfl) hS.1 rfl rfl rfl (Nat.le_of_ble_eq_true rfl) rfl rfl (by decide) (by decide) rfl ?_
      refine g_p (S' := [.int (v8 - x2), .int 2, .int x1, .ref a]) hF tX12_split_ok 70 2 rfl rfl rfl rfl ?_
      obtain ⟨s10, e11, H⟩ := ob H
      refine g_cV (S := []) hF (X12_lays0_ok (Nat.le_refl _) hS e11 K) mbX12_lays0 mvX12_lays0 mlX12_70 (by omega) (by decide) (dAt tX12_split_ok 72 rfl rfl) hS.1 rfl rfl rfl (Nat.le_of_ble_eq_true rfl) rfl rfl (by decide) (by decide) rfl ?_
      refine g_p (S' := [.ref a]) hF tX12_split_ok 73 1 rfl rfl rfl rfl ?_
      refine g_getR hF (dAt tX12_split_ok 74 rfl rfl) flX12_7 hS.1 rfl ?_
      refine g_p (S' := [.int 10, .ref (a + 1), .int 10, .ref (a + 1)]) hF tX12_split_ok 75 2 rfl rfl rfl rfl ?_
      obtain ⟨v12, e13, H⟩ := ob H
      refine g_ild hF (dAt tX12_split_ok 77 rfl rfl) hS.2.1 e13 ?_
      refine g_p (S' := [.int (v12 + 1), .int 10, .ref (a + 1)]) hF tX12_split_ok 78 2 rfl rfl rfl rfl ?_
      obtain ⟨s14, e15, H⟩ := ob H
      refine g_ist hF (dAt tX12_split_ok 80 rfl rfl) hS.2.1 e15 ?_
      refine g_p (S' := [.int x1, .ref a]) hF tX12_split_ok 81 2 rfl rfl rfl rfl ?_
      obtain ⟨s16, e17, H⟩ := ob H
      refine g_cV (S := []) hF (X12_isOf_ok (Nat.le_refl _) hS e17 K) mbX12_isOf mvX12_isOf mlX12_299 (by omega) (by decide) (dAt tX12_split_ok 83 rfl rfl) hS.1 rfl rfl rfl (Nat.le_of_ble_eq_true rfl) rfl rfl (by decide) (by decide) rfl ?_
      refine g_p (S' := [.int x3, .ref a]) hF tX12_split_ok 84 2 rfl rfl rfl rfl ?_
      obtain ⟨s18, e19, H⟩ := ob H
      refine g_cV (S := []) hF (X12_isOf_ok (Nat.le_refl _) hS e19 K) mbX12_isOf mvX12_isOf mlX12_299 (by omega) (by decide) (dAt tX12_split_ok 86 rfl rfl) hS.1 rfl rfl rfl (Nat.le_of_ble_eq_true rfl) rfl rfl (by decide) (by decide) rfl ?_
      refine g_p (S' := [.ref a]) hF tX12_split_ok 87 1 rfl rfl rfl rfl ?_
      obtain ⟨s20, e21, H⟩ := ob H
      refine g_cV (S := []) hF (X12_ends_ok (Nat.le_refl _) hS e21 K) mbX12_ends mvX12_ends mlX12_302 (by omega) (by decide) (dAt tX12_split_ok 88 rfl rfl) hS.1 rfl rfl rfl (Nat.le_of_ble_eq_true rfl) rfl rfl (by decide) (by decide) rfl ?_
      refine g_p (S' := [.int x3]) hF tX12_split_ok 89 1 rfl rfl rfl rfl ?_
      exact g_iret hF (en_p H hE) (dAt tX12_split_ok 90 rfl rfl) (by decide) (by decide)
    · have H := Hf1 c1
      refine g_p (S' := [.int x4, .int x1, .ref a, .int x4, .int x3, .ref a]) hF tX12_split_ok 38 6 rfl rfl rfl rfl ?_
      obtain ⟨v22, e23, H⟩ := ob H
      refine g_cV (S := [.int x4, .int x3, .ref a]) hF (X12_debtOf_ok (Nat.le_refl _) hS e23 K) mbX12_debtOf mvX12_debtOf mlX12_76 (by omega) (by decide) (dAt tX12_split_ok 44 rfl rfl) hS.1 rfl rfl rfl (Nat.le_of_ble_eq_true rfl) rfl rfl (by decide) (by decide) rfl ?_
      obtain ⟨s24, e25, H⟩ := ob H
      refine g_cV (S := []) hF (X12_lays0_ok (Nat.le_refl _) hS e25 K) mbX12_lays0 mvX12_lays0 mlX12_70 (by omega) (by decide) (dAt tX12_split_ok 45 rfl rfl) hS.1 rfl rfl rfl (Nat.le_of_ble_eq_true rfl) rfl rfl (by decide) (by decide) rfl ?_
      refine g_p (L' := [some (.ref a), some (.int x1), some (.int x2), some (.int x3), some (.int (x4 + 1))]) (S' := []) hF tX12_split_ok 46 1 rfl rfl rfl rfl ?_
      refine g_goto hF (dAt tX12_split_ok 47 rfl rfl) rfl ?_
      exact X12_split_b61_ok hD hF hS hE fu _ _ _ _ _ H
def X12_split_f (a : Nat) (x1 x2 : Int32) (σ : Sig) : Option (Int32 × Sig) := (X12_isLeft_f a x1 σ).bind fun v1 => if v1 = 0 then (some ((-1), σ)) else ((X12_isIn_f x2 1 199 σ).bind fun v4 => if v4 = 0 then (some ((-1), σ)) else ((X12_debtOf_f a x1 2 σ).bind fun v7 => if v7 ≤ x2 then (some ((-1), σ)) else ((ld 20240 (σ (a + 1)) 10).bind fun v10 => if v10 = 40 then (some ((-1), σ)) else ((X12_begins_f a (-1) (-1) 0 σ).bind fun s13 => (ld 20240 (s13 (a + 1)) 10).bind fun v15 => X12_split_b61 a FU x1 x2 v15 0 s13))))
set_option maxRecDepth 4000 in
set_option maxHeartbeats 1000000 in
theorem X12_split_ok {D : Nat} {τ : Tau} {nx : Nat} {a : Nat} {x1 x2 : Int32} {σ : Sig} {res : Int32} {rsg : Sig} (hD : 4 ≤ D) (hS : ShX12 τ a) (H : X12_split_f a x1 x2 σ = some (res, rsg)) : Ok D 0 0 yX12_split cX12_split 5 (some .int) [.ref a, .int x1, .int x2] (τ, σ, nx) (some (.int res)) (τ, rsg, nx) := by
  refine ok_of (by decide +kernel) rfl (Nat.le_of_ble_eq_true rfl) (fun K X hF hE hN L0 hL0 => ?_)
  obtain rfl : [some (.ref a), some (.int x1), some (.int x2), none, none] = L0 := hL0
  have hF : Fx K X cX12_split 5 RX12 D 0 0 := hF
  refine g_p (S' := [.int x1, .ref a]) hF tX12_split_ok 0 2 rfl rfl rfl rfl ?_
  obtain ⟨v1, e2, H⟩ := ob H
  refine g_cV (S := []) hF (X12_isLeft_ok (Nat.le_refl _) hS e2 K) mbX12_isLeft mvX12_isLeft mlX12_293 (by omega) (by decide) (dAt tX12_split_ok 2 rfl rfl) hS.1 rfl rfl rfl (Nat.le_of_ble_eq_true rfl) rfl rfl (by decide) (by decide) rfl ?_
  obtain ⟨Ht3, Hf3⟩ := oi H
  refine g_if_eq hF (dAt tX12_split_ok 3 rfl rfl) rfl (fun c3 => ?_) (fun c3 => ?_)
  · have H := Ht3 c3
    refine g_p (S' := [.int (-1)]) hF tX12_split_ok 21 1 rfl rfl rfl rfl ?_
    exact g_iret hF (en_p H hE) (dAt tX12_split_ok 22 rfl rfl) (by decide) (by decide)
  · have H := Hf3 c3
    refine g_p (S' := [.int 199, .int 1, .int x2]) hF tX12_split_ok 4 3 rfl rfl rfl rfl ?_
    obtain ⟨v4, e5, H⟩ := ob H
    refine g_cS (S := []) hF (X12_isIn_ok (Nat.le_refl _)  e5 K) mbX12_isIn msX12_isIn mlX12_50 (by omega) (by decide) (dAt tX12_split_ok 7 rfl rfl) rfl rfl (Nat.le_of_ble_eq_true rfl) rfl rfl (by decide) (by decide) rfl ?_
    obtain ⟨Ht6, Hf6⟩ := oi H
    refine g_if_eq hF (dAt tX12_split_ok 8 rfl rfl) rfl (fun c6 => ?_) (fun c6 => ?_)
    · have H := Ht6 c6
      refine g_p (S' := [.int (-1)]) hF tX12_split_ok 21 1 rfl rfl rfl rfl ?_
      exact g_iret hF (en_p H hE) (dAt tX12_split_ok 22 rfl rfl) (by decide) (by decide)
    · have H := Hf6 c6
      refine g_p (S' := [.int 2, .int x1, .ref a]) hF tX12_split_ok 9 3 rfl rfl rfl rfl ?_
      obtain ⟨v7, e8, H⟩ := ob H
      refine g_cV (S := []) hF (X12_debtOf_ok (Nat.le_refl _) hS e8 K) mbX12_debtOf mvX12_debtOf mlX12_76 (by omega) (by decide) (dAt tX12_split_ok 12 rfl rfl) hS.1 rfl rfl rfl (Nat.le_of_ble_eq_true rfl) rfl rfl (by decide) (by decide) rfl ?_
      refine g_p (S' := [.int x2, .int v7]) hF tX12_split_ok 13 1 rfl rfl rfl rfl ?_
      obtain ⟨Ht9, Hf9⟩ := oi H
      refine g_icmp_le hF (dAt tX12_split_ok 14 rfl rfl) rfl (fun c9 => ?_) (fun c9 => ?_)
      · have H := Ht9 c9
        refine g_p (S' := [.int (-1)]) hF tX12_split_ok 21 1 rfl rfl rfl rfl ?_
        exact g_iret hF (en_p H hE) (dAt tX12_split_ok 22 rfl rfl) (by decide) (by decide)
      · have H := Hf9 c9
        refine g_p (S' := [.ref a]) hF tX12_split_ok 15 1 rfl rfl rfl rfl ?_
        refine g_getR hF (dAt tX12_split_ok 16 rfl rfl) flX12_7 hS.1 rfl ?_
        refine g_p (S' := [.int 10, .ref (a + 1)]) hF tX12_split_ok 17 1 rfl rfl rfl rfl ?_
        obtain ⟨v10, e11, H⟩ := ob H
        refine g_ild hF (dAt tX12_split_ok 18 rfl rfl) hS.2.1 e11 ?_
        refine g_p (S' := [.int 40, .int v10]) hF tX12_split_ok 19 1 rfl rfl rfl rfl ?_
        obtain ⟨Ht12, Hf12⟩ := oi H
        refine g_icmp_ne hF (dAt tX12_split_ok 20 rfl rfl) rfl (fun c12 => ?_) (fun c12 => ?_)
        · have H := Hf12 c12
          refine g_p (S' := [.int 0, .int (-1), .int (-1), .ref a]) hF tX12_split_ok 23 4 rfl rfl rfl rfl ?_
          obtain ⟨s13, e14, H⟩ := ob H
          refine g_cV (S := []) hF (X12_begins_ok (Nat.le_refl _) hS e14 K) mbX12_begins mvX12_begins mlX12_296 (by omega) (by decide) (dAt tX12_split_ok 27 rfl rfl) hS.1 rfl rfl rfl (Nat.le_of_ble_eq_true rfl) rfl rfl (by decide) (by decide) rfl ?_
          refine g_p (S' := [.ref a]) hF tX12_split_ok 28 1 rfl rfl rfl rfl ?_
          refine g_getR hF (dAt tX12_split_ok 29 rfl rfl) flX12_7 hS.1 rfl ?_
          refine g_p (S' := [.int 10, .ref (a + 1)]) hF tX12_split_ok 30 1 rfl rfl rfl rfl ?_
          obtain ⟨v15, e16, H⟩ := ob H
          refine g_ild hF (dAt tX12_split_ok 31 rfl rfl) hS.2.1 e16 ?_
          refine g_p (L' := [some (.ref a), some (.int x1), some (.int x2), some (.int v15), some (.int 0)]) (S' := []) hF tX12_split_ok 32 3 rfl rfl rfl rfl ?_
          exact X12_split_b61_ok hD hF hS hE FU _ _ _ _ _ H
        · have H := Ht12 c12
          refine g_p (S' := [.int (-1)]) hF tX12_split_ok 21 1 rfl rfl rfl rfl ?_
          exact g_iret hF (en_p H hE) (dAt tX12_split_ok 22 rfl rfl) (by decide) (by decide)
def X12_inherit_b218 (a : Nat) (k102 : Int32 → Int32 → Int32 → Int32 → Sig → Option (Int32 × Sig)) (x1 x2 x3 x4 : Int32) (σ : Sig) : Option (Int32 × Sig) := (X12_debtOf_f a x4 0 σ).bind fun v1 => (X12_debtOf_f a x4 1 σ).bind fun v3 => if v1 = v3 then ((X12_lays0_f a x4 2 0 σ).bind fun s6 => k102 x1 x2 x3 (x4 + 1) s6) else (k102 x1 x2 x3 (x4 + 1) σ)
set_option maxRecDepth 4000 in
set_option maxHeartbeats 1000000 in
theorem X12_inherit_b218_ok {K : Kt} {X : Cx} {D : Nat} {τ : Tau} {nx : Nat} {a : Nat} {res : Int32} {rsg : Sig}  (hD : 4 ≤ D) (hF : Fx K X cX12_inherit 5 RX12 D 0 0) (hS : ShX12 τ a) (hE : En K X (some .int) 0 0 (some (.int res)) (τ, rsg, nx)) {k102 : Int32 → Int32 → Int32 → Int32 → Sig → Option (Int32 × Sig)} (hk102 : ∀ (x1 x2 x3 x4 : Int32) (σ : Sig), k102 x1 x2 x3 x4 σ = some (res, rsg) → G K X 5 0 0 102 [some (.ref a), some (.int x1), some (.int x2), some (.int x3), some (.int x4)] [] (τ, σ, nx)) {x1 x2 x3 x4 : Int32} {σ : Sig} (H : X12_inherit_b218 a k102 x1 x2 x3 x4 σ = some (res, rsg)) : G K X 5 0 0 218 [some (.ref a), some (.int x1), some (.int x2), some (.int x3), some (.int x4)] [] (τ, σ, nx) := by
  refine g_p (S' := [.int 0, .int x4, .ref a]) hF tX12_inherit_ok 122 3 rfl rfl rfl rfl ?_
  obtain ⟨v1, e2, H⟩ := ob H
  refine g_cV (S := []) hF (X12_debtOf_ok (Nat.le_refl _) hS e2 K) mbX12_debtOf mvX12_debtOf mlX12_76 (by omega) (by decide) (dAt tX12_inherit_ok 125 rfl rfl) hS.1 rfl rfl rfl (Nat.le_of_ble_eq_true rfl) rfl rfl (by decide) (by decide) rfl ?_
  refine g_p (S' := [.int 1, .int x4, .ref a, .int v1]) hF tX12_inherit_ok 126 3 rfl rfl rfl rfl ?_
  obtain ⟨v3, e4, H⟩ := ob H
  refine g_cV (S := [.int v1]) hF (X12_debtOf_ok (Nat.le_refl _) hS e4 K) mbX12_debtOf mvX12_debtOf mlX12_76 (by omega) (by decide) (dAt tX12_inherit_ok 129 rfl rfl) hS.1 rfl rfl rfl (Nat.le_of_ble_eq_true rfl) rfl rfl (by decide) (by decide) rfl ?_
  obtain ⟨Ht5, Hf5⟩ := oi H
  refine g_icmp_ne hF (dAt tX12_inherit_ok 130 rfl rfl) rfl (fun c5 => ?_) (fun c5 => ?_)
  · have H := Hf5 c5
    refine g_p (L' := [some (.ref a), some (.int x1), some (.int x2), some (.int x3), some (.int (x4 + 1))]) (S' := []) hF tX12_inherit_ok 136 1 rfl rfl rfl rfl ?_
    refine g_goto hF (dAt tX12_inherit_ok 137 rfl rfl) rfl ?_
    exact hk102 _ _ _ _ _ H
  · have H := Ht5 c5
    refine g_p (S' := [.int 0, .int 2, .int x4, .ref a]) hF tX12_inherit_ok 131 4 rfl rfl rfl rfl ?_
    obtain ⟨s6, e7, H⟩ := ob H
    refine g_cV (S := []) hF (X12_lays0_ok (Nat.le_refl _) hS e7 K) mbX12_lays0 mvX12_lays0 mlX12_70 (by omega) (by decide) (dAt tX12_inherit_ok 135 rfl rfl) hS.1 rfl rfl rfl (Nat.le_of_ble_eq_true rfl) rfl rfl (by decide) (by decide) rfl ?_
    refine g_p (L' := [some (.ref a), some (.int x1), some (.int x2), some (.int x3), some (.int (x4 + 1))]) (S' := []) hF tX12_inherit_ok 136 1 rfl rfl rfl rfl ?_
    refine g_goto hF (dAt tX12_inherit_ok 137 rfl rfl) rfl ?_
    exact hk102 _ _ _ _ _ H
def X12_inherit_b193 (a : Nat) (k102 : Int32 → Int32 → Int32 → Int32 → Sig → Option (Int32 × Sig)) (x1 x2 x3 x4 : Int32) (σ : Sig) : Option (Int32 × Sig) := (X12_debtOf_f a x4 4 σ).bind fun v1 => (X12_debtOf_f a x4 0 σ).bind fun v3 => if v1 = v3 then ((X12_lays0_f a x4 4 (-1) σ).bind fun s6 => X12_inherit_b218 a k102 x1 x2 x3 x4 s6) else (X12_inherit_b218 a k102 x1 x2 x3 x4 σ)
set_option maxRecDepth 4000 in
set_option maxHeartbeats 1000000 in
theorem X12_inherit_b193_ok {K : Kt} {X : Cx} {D : Nat} {τ : Tau} {nx : Nat} {a : Nat} {res : Int32} {rsg : Sig}  (hD : 4 ≤ D) (hF : Fx K X cX12_inherit 5 RX12 D 0 0) (hS : ShX12 τ a) (hE : En K X (some .int) 0 0 (some (.int res)) (τ, rsg, nx)) {k102 : Int32 → Int32 → Int32 → Int32 → Sig → Option (Int32 × Sig)} (hk102 : ∀ (x1 x2 x3 x4 : Int32) (σ : Sig), k102 x1 x2 x3 x4 σ = some (res, rsg) → G K X 5 0 0 102 [some (.ref a), some (.int x1), some (.int x2), some (.int x3), some (.int x4)] [] (τ, σ, nx)) {x1 x2 x3 x4 : Int32} {σ : Sig} (H : X12_inherit_b193 a k102 x1 x2 x3 x4 σ = some (res, rsg)) : G K X 5 0 0 193 [some (.ref a), some (.int x1), some (.int x2), some (.int x3), some (.int x4)] [] (τ, σ, nx) := by
  refine g_p (S' := [.int 4, .int x4, .ref a]) hF tX12_inherit_ok 108 3 rfl rfl rfl rfl ?_
  obtain ⟨v1, e2, H⟩ := ob H
  refine g_cV (S := []) hF (X12_debtOf_ok (Nat.le_refl _) hS e2 K) mbX12_debtOf mvX12_debtOf mlX12_76 (by omega) (by decide) (dAt tX12_inherit_ok 111 rfl rfl) hS.1 rfl rfl rfl (Nat.le_of_ble_eq_true rfl) rfl rfl (by decide) (by decide) rfl ?_
  refine g_p (S' := [.int 0, .int x4, .ref a, .int v1]) hF tX12_inherit_ok 112 3 rfl rfl rfl rfl ?_
  obtain ⟨v3, e4, H⟩ := ob H
  refine g_cV (S := [.int v1]) hF (X12_debtOf_ok (Nat.le_refl _) hS e4 K) mbX12_debtOf mvX12_debtOf mlX12_76 (by omega) (by decide) (dAt tX12_inherit_ok 115 rfl rfl) hS.1 rfl rfl rfl (Nat.le_of_ble_eq_true rfl) rfl rfl (by decide) (by decide) rfl ?_
  obtain ⟨Ht5, Hf5⟩ := oi H
  refine g_icmp_ne hF (dAt tX12_inherit_ok 116 rfl rfl) rfl (fun c5 => ?_) (fun c5 => ?_)
  · have H := Hf5 c5
    exact X12_inherit_b218_ok hD hF hS hE hk102 H
  · have H := Ht5 c5
    refine g_p (S' := [.int (-1), .int 4, .int x4, .ref a]) hF tX12_inherit_ok 117 4 rfl rfl rfl rfl ?_
    obtain ⟨s6, e7, H⟩ := ob H
    refine g_cV (S := []) hF (X12_lays0_ok (Nat.le_refl _) hS e7 K) mbX12_lays0 mvX12_lays0 mlX12_70 (by omega) (by decide) (dAt tX12_inherit_ok 121 rfl rfl) hS.1 rfl rfl rfl (Nat.le_of_ble_eq_true rfl) rfl rfl (by decide) (by decide) rfl ?_
    exact X12_inherit_b218_ok hD hF hS hE hk102 H
def X12_inherit_b174 (a : Nat) (k102 : Int32 → Int32 → Int32 → Int32 → Sig → Option (Int32 × Sig)) (x1 x2 x3 x4 : Int32) (σ : Sig) : Option (Int32 × Sig) := (X12_debtOf_f a x4 1 σ).bind fun v1 => if v1 = x1 then ((X12_lays0_f a x4 1 x2 σ).bind fun s4 => X12_inherit_b193 a k102 x1 x2 x3 x4 s4) else (X12_inherit_b193 a k102 x1 x2 x3 x4 σ)
set_option maxRecDepth 4000 in
set_option maxHeartbeats 1000000 in
theorem X12_inherit_b174_ok {K : Kt} {X : Cx} {D : Nat} {τ : Tau} {nx : Nat} {a : Nat} {res : Int32} {rsg : Sig}  (hD : 4 ≤ D) (hF : Fx K X cX12_inherit 5 RX12 D 0 0) (hS : ShX12 τ a) (hE : En K X (some .int) 0 0 (some (.int res)) (τ, rsg, nx)) {k102 : Int32 → Int32 → Int32 → Int32 → Sig → Option (Int32 × Sig)} (hk102 : ∀ (x1 x2 x3 x4 : Int32) (σ : Sig), k102 x1 x2 x3 x4 σ = some (res, rsg) → G K X 5 0 0 102 [some (.ref a), some (.int x1), some (.int x2), some (.int x3), some (.int x4)] [] (τ, σ, nx)) {x1 x2 x3 x4 : Int32} {σ : Sig} (H : X12_inherit_b174 a k102 x1 x2 x3 x4 σ = some (res, rsg)) : G K X 5 0 0 174 [some (.ref a), some (.int x1), some (.int x2), some (.int x3), some (.int x4)] [] (τ, σ, nx) := by
  refine g_p (S' := [.int 1, .int x4, .ref a]) hF tX12_inherit_ok 97 3 rfl rfl rfl rfl ?_
  obtain ⟨v1, e2, H⟩ := ob H
  refine g_cV (S := []) hF (X12_debtOf_ok (Nat.le_refl _) hS e2 K) mbX12_debtOf mvX12_debtOf mlX12_76 (by omega) (by decide) (dAt tX12_inherit_ok 100 rfl rfl) hS.1 rfl rfl rfl (Nat.le_of_ble_eq_true rfl) rfl rfl (by decide) (by decide) rfl ?_
  refine g_p (S' := [.int x1, .int v1]) hF tX12_inherit_ok 101 1 rfl rfl rfl rfl ?_
  obtain ⟨Ht3, Hf3⟩ := oi H
  refine g_icmp_ne hF (dAt tX12_inherit_ok 102 rfl rfl) rfl (fun c3 => ?_) (fun c3 => ?_)
  · have H := Hf3 c3
    exact X12_inherit_b193_ok hD hF hS hE hk102 H
  · have H := Ht3 c3
    refine g_p (S' := [.int x2, .int 1, .int x4, .ref a]) hF tX12_inherit_ok 103 4 rfl rfl rfl rfl ?_
    obtain ⟨s4, e5, H⟩ := ob H
    refine g_cV (S := []) hF (X12_lays0_ok (Nat.le_refl _) hS e5 K) mbX12_lays0 mvX12_lays0 mlX12_70 (by omega) (by decide) (dAt tX12_inherit_ok 107 rfl rfl) hS.1 rfl rfl rfl (Nat.le_of_ble_eq_true rfl) rfl rfl (by decide) (by decide) rfl ?_
    exact X12_inherit_b193_ok hD hF hS hE hk102 H
def X12_inherit_b149 (a : Nat) (k102 : Int32 → Int32 → Int32 → Int32 → Sig → Option (Int32 × Sig)) (x1 x2 x3 x4 : Int32) (σ : Sig) : Option (Int32 × Sig) := (X12_isOf_f a x4 σ).bind fun s1 => (X12_debtOf_f a x4 0 s1).bind fun v3 => if v3 = x1 then ((X12_lays0_f a x4 0 x2 s1).bind fun s6 => X12_inherit_b174 a k102 x1 x2 x3 x4 s6) else (X12_inherit_b174 a k102 x1 x2 x3 x4 s1)
set_option maxRecDepth 4000 in
set_option maxHeartbeats 1000000 in
theorem X12_inherit_b149_ok {K : Kt} {X : Cx} {D : Nat} {τ : Tau} {nx : Nat} {a : Nat} {res : Int32} {rsg : Sig}  (hD : 4 ≤ D) (hF : Fx K X cX12_inherit 5 RX12 D 0 0) (hS : ShX12 τ a) (hE : En K X (some .int) 0 0 (some (.int res)) (τ, rsg, nx)) {k102 : Int32 → Int32 → Int32 → Int32 → Sig → Option (Int32 × Sig)} (hk102 : ∀ (x1 x2 x3 x4 : Int32) (σ : Sig), k102 x1 x2 x3 x4 σ = some (res, rsg) → G K X 5 0 0 102 [some (.ref a), some (.int x1), some (.int x2), some (.int x3), some (.int x4)] [] (τ, σ, nx)) {x1 x2 x3 x4 : Int32} {σ : Sig} (H : X12_inherit_b149 a k102 x1 x2 x3 x4 σ = some (res, rsg)) : G K X 5 0 0 149 [some (.ref a), some (.int x1), some (.int x2), some (.int x3), some (.int x4)] [] (τ, σ, nx) := by
  refine g_p (S' := [.int x4, .ref a]) hF tX12_inherit_ok 83 2 rfl rfl rfl rfl ?_
  obtain ⟨s1, e2, H⟩ := ob H
  refine g_cV (S := []) hF (X12_isOf_ok (Nat.le_refl _) hS e2 K) mbX12_isOf mvX12_isOf mlX12_299 (by omega) (by decide) (dAt tX12_inherit_ok 85 rfl rfl) hS.1 rfl rfl rfl (Nat.le_of_ble_eq_true rfl) rfl rfl (by decide) (by decide) rfl ?_
  refine g_p (S' := [.int 0, .int x4, .ref a]) hF tX12_inherit_ok 86 3 rfl rfl rfl rfl ?_
  obtain ⟨v3, e4, H⟩ := ob H
  refine g_cV (S := []) hF (X12_debtOf_ok (Nat.le_refl _) hS e4 K) mbX12_debtOf mvX12_debtOf mlX12_76 (by omega) (by decide) (dAt tX12_inherit_ok 89 rfl rfl) hS.1 rfl rfl rfl (Nat.le_of_ble_eq_true rfl) rfl rfl (by decide) (by decide) rfl ?_
  refine g_p (S' := [.int x1, .int v3]) hF tX12_inherit_ok 90 1 rfl rfl rfl rfl ?_
  obtain ⟨Ht5, Hf5⟩ := oi H
  refine g_icmp_ne hF (dAt tX12_inherit_ok 91 rfl rfl) rfl (fun c5 => ?_) (fun c5 => ?_)
  · have H := Hf5 c5
    exact X12_inherit_b174_ok hD hF hS hE hk102 H
  · have H := Ht5 c5
    refine g_p (S' := [.int x2, .int 0, .int x4, .ref a]) hF tX12_inherit_ok 92 4 rfl rfl rfl rfl ?_
    obtain ⟨s6, e7, H⟩ := ob H
    refine g_cV (S := []) hF (X12_lays0_ok (Nat.le_refl _) hS e7 K) mbX12_lays0 mvX12_lays0 mlX12_70 (by omega) (by decide) (dAt tX12_inherit_ok 96 rfl rfl) hS.1 rfl rfl rfl (Nat.le_of_ble_eq_true rfl) rfl rfl (by decide) (by decide) rfl ?_
    exact X12_inherit_b174_ok hD hF hS hE hk102 H
def X12_inherit_b102 (a : Nat) : Nat → Int32 → Int32 → Int32 → Int32 → Sig → Option (Int32 × Sig)
  | 0, _, _, _, _, _ => none
  | fu + 1, x1, x2, x3, x4, σ => (ld 20240 (σ (a + 1)) 10).bind fun v1 => if v1 ≤ x4 then ((X12_ends_f a σ).bind fun s4 => some (x3, s4)) else ((X12_debtOf_f a x4 2 σ).bind fun v6 => if v6 = 0 then (X12_inherit_b102 a fu x1 x2 x3 (x4 + 1) σ) else ((X12_debtOf_f a x4 0 σ).bind fun v9 => if v9 = x1 then (X12_inherit_b149 a (X12_inherit_b102 a fu) x1 x2 x3 x4 σ) else ((X12_debtOf_f a x4 1 σ).bind fun v12 => if v12 = x1 then (X12_inherit_b149 a (X12_inherit_b102 a fu) x1 x2 x3 x4 σ) else (X12_inherit_b102 a fu x1 x2 x3 (x4 + 1) σ))))
set_option maxRecDepth 4000 in
set_option maxHeartbeats 1000000 in
theorem X12_inherit_b102_ok {K : Kt} {X : Cx} {D : Nat} {τ : Tau} {nx : Nat} {a : Nat} {res : Int32} {rsg : Sig}  (hD : 4 ≤ D) (hF : Fx K X cX12_inherit 5 RX12 D 0 0) (hS : ShX12 τ a) (hE : En K X (some .int) 0 0 (some (.int res)) (τ, rsg, nx)) : ∀ (fu : Nat) (x1 x2 x3 x4 : Int32) (σ : Sig), X12_inherit_b102 a fu x1 x2 x3 x4 σ = some (res, rsg) → G K X 5 0 0 102 [some (.ref a), some (.int x1), some (.int x2), some (.int x3), some (.int x4)] [] (τ, σ, nx)
  | 0, _, _, _, _, _, H => nomatch H
  | fu + 1, x1, x2, x3, x4, σ, H => by
    refine g_p (S' := [.ref a, .int x4]) hF tX12_inherit_ok 59 2 rfl rfl rfl rfl ?_
    refine g_getR hF (dAt tX12_inherit_ok 61 rfl rfl) flX12_7 hS.1 rfl ?_
    refine g_p (S' := [.int 10, .ref (a + 1), .int x4]) hF tX12_inherit_ok 62 1 rfl rfl rfl rfl ?_
    obtain ⟨v1, e2, H⟩ := ob H
    refine g_ild hF (dAt tX12_inherit_ok 63 rfl rfl) hS.2.1 e2 ?_
    obtain ⟨Ht3, Hf3⟩ := oi H
    refine g_icmp_ge hF (dAt tX12_inherit_ok 64 rfl rfl) rfl (fun c3 => ?_) (fun c3 => ?_)
    · have H := Ht3 c3
      refine g_p (S' := [.ref a]) hF tX12_inherit_ok 138 1 rfl rfl rfl rfl ?_
      obtain ⟨s4, e5, H⟩ := ob H
      refine g_cV (S := []) hF (X12_ends_ok (Nat.le_refl _) hS e5 K) mbX12_ends mvX12_ends mlX12_302 (by omega) (by decide) (dAt tX12_inherit_ok 139 rfl rfl) hS.1 rfl rfl rfl (Nat.le_of_ble_eq_true rfl) rfl rfl (by decide) (by decide) rfl ?_
      refine g_p (S' := [.int x3]) hF tX12_inherit_ok 140 1 rfl rfl rfl rfl ?_
      exact g_iret hF (en_p H hE) (dAt tX12_inherit_ok 141 rfl rfl) (by decide) (by decide)
    · have H := Hf3 c3
      refine g_p (S' := [.int 2, .int x4, .ref a]) hF tX12_inherit_ok 65 3 rfl rfl rfl rfl ?_
      obtain ⟨v6, e7, H⟩ := ob H
      refine g_cV (S := []) hF (X12_debtOf_ok (Nat.le_refl _) hS e7 K) mbX12_debtOf mvX12_debtOf mlX12_76 (by omega) (by decide) (dAt tX12_inherit_ok 68 rfl rfl) hS.1 rfl rfl rfl (Nat.le_of_ble_eq_true rfl) rfl rfl (by decide) (by decide) rfl ?_
      obtain ⟨Ht8, Hf8⟩ := oi H
      refine g_if_eq hF (dAt tX12_inherit_ok 69 rfl rfl) rfl (fun c8 => ?_) (fun c8 => ?_)
      · have H := Ht8 c8
        refine g_p (L' := [some (.ref a), some (.int x1), some (.int x2), some (.int x3), some (.int (x4 + 1))]) (S' := []) hF tX12_inherit_ok 136 1 rfl rfl rfl rfl ?_
        refine g_goto hF (dAt tX12_inherit_ok 137 rfl rfl) rfl ?_
        exact X12_inherit_b102_ok hD hF hS hE fu _ _ _ _ _ H
      · have H := Hf8 c8
        refine g_p (S' := [.int 0, .int x4, .ref a]) hF tX12_inherit_ok 70 3 rfl rfl rfl rfl ?_
        obtain ⟨v9, e10, H⟩ := ob H
        refine g_cV (S := []) hF (X12_debtOf_ok (Nat.le_refl _) hS e10 K) mbX12_debtOf mvX12_debtOf mlX12_76 (by omega) (by decide) (dAt tX12_inherit_ok 73 rfl rfl) hS.1 rfl rfl rfl (Nat.le_of_ble_eq_true rfl) rfl rfl (by decide) (by decide) rfl ?_
        refine g_p (S' := [.int x1, .int v9]) hF tX12_inherit_ok 74 1 rfl rfl rfl rfl ?_
        obtain ⟨Ht11, Hf11⟩ := oi H
        refine g_icmp_eq hF (dAt tX12_inherit_ok 75 rfl rfl) rfl (fun c11 => ?_) (fun c11 => ?_)
        · have H := Ht11 c11
          exact X12_inherit_b149_ok hD hF hS hE (fun _ _ _ _ _ H => X12_inherit_b102_ok hD hF hS hE fu _ _ _ _ _ H) H
        · have H := Hf11 c11
          refine g_p (S' := [.int 1, .int x4, .ref a]) hF tX12_inherit_ok 76 3 rfl rfl rfl rfl ?_
          obtain ⟨v12, e13, H⟩ := ob H
          refine g_cV (S := []) hF (X12_debtOf_ok (Nat.le_refl _) hS e13 K) mbX12_debtOf mvX12_debtOf mlX12_76 (by omega) (by decide) (dAt tX12_inherit_ok 79 rfl rfl) hS.1 rfl rfl rfl (Nat.le_of_ble_eq_true rfl) rfl rfl (by decide) (by decide) rfl ?_
          refine g_p (S' := [.int x1, .int v12]) hF tX12_inherit_ok 80 1 rfl rfl rfl rfl ?_
          obtain ⟨Ht14, Hf14⟩ := oi H
          refine g_icmp_eq hF (dAt tX12_inherit_ok 81 rfl rfl) rfl (fun c14 => ?_) (fun c14 => ?_)
          · have H := Ht14 c14
            exact X12_inherit_b149_ok hD hF hS hE (fun _ _ _ _ _ H => X12_inherit_b102_ok hD hF hS hE fu _ _ _ _ _ H) H
          · have H := Hf14 c14
            refine g_goto hF (dAt tX12_inherit_ok 82 rfl rfl) rfl ?_
            refine g_p (L' := [some (.ref a), some (.int x1), some (.int x2), some (.int x3), some (.int (x4 + 1))]) (S' := []) hF tX12_inherit_ok 136 1 rfl rfl rfl rfl ?_
            refine g_goto hF (dAt tX12_inherit_ok 137 rfl rfl) rfl ?_
            exact X12_inherit_b102_ok hD hF hS hE fu _ _ _ _ _ H
def X12_inherit_b28 (a : Nat) : Nat → Int32 → Int32 → Int32 → Int32 → Sig → Option (Int32 × Sig)
  | 0, _, _, _, _, _ => none
  | fu + 1, x1, x2, x3, x4, σ => (ld 20240 (σ (a + 1)) 10).bind fun v1 => if v1 ≤ x4 then (if x3 = 0 then (some (0, σ)) else ((X12_begins_f a (-1) (-1) 0 σ).bind fun s5 => X12_inherit_b102 a FU x1 x2 x3 0 s5)) else ((X12_debtOf_f a x4 2 σ).bind fun v7 => if v7 ≤ 0 then (X12_inherit_b28 a fu x1 x2 (x3 + 0) (x4 + 1) σ) else ((X12_debtOf_f a x4 0 σ).bind fun v10 => if v10 = x1 then (X12_inherit_b28 a fu x1 x2 (x3 + 1) (x4 + 1) σ) else ((X12_debtOf_f a x4 1 σ).bind fun v13 => if v13 = x1 then (X12_inherit_b28 a fu x1 x2 (x3 + 1) (x4 + 1) σ) else (X12_inherit_b28 a fu x1 x2 (x3 + 0) (x4 + 1) σ))))
set_option maxRecDepth 4000 in
set_option maxHeartbeats 1000000 in
theorem X12_inherit_b28_ok {K : Kt} {X : Cx} {D : Nat} {τ : Tau} {nx : Nat} {a : Nat} {res : Int32} {rsg : Sig}  (hD : 4 ≤ D) (hF : Fx K X cX12_inherit 5 RX12 D 0 0) (hS : ShX12 τ a) (hE : En K X (some .int) 0 0 (some (.int res)) (τ, rsg, nx)) : ∀ (fu : Nat) (x1 x2 x3 x4 : Int32) (σ : Sig), X12_inherit_b28 a fu x1 x2 x3 x4 σ = some (res, rsg) → G K X 5 0 0 28 [some (.ref a), some (.int x1), some (.int x2), some (.int x3), some (.int x4)] [] (τ, σ, nx)
  | 0, _, _, _, _, _, H => nomatch H
  | fu + 1, x1, x2, x3, x4, σ, H => by
    refine g_p (S' := [.ref a, .int x4]) hF tX12_inherit_ok 17 2 rfl rfl rfl rfl ?_
    refine g_getR hF (dAt tX12_inherit_ok 19 rfl rfl) flX12_7 hS.1 rfl ?_
    refine g_p (S' := [.int 10, .ref (a + 1), .int x4]) hF tX12_inherit_ok 20 1 rfl rfl rfl rfl ?_
    obtain ⟨v1, e2, H⟩ := ob H
    refine g_ild hF (dAt tX12_inherit_ok 21 rfl rfl) hS.2.1 e2 ?_
    obtain ⟨Ht3, Hf3⟩ := oi H
    refine g_icmp_ge hF (dAt tX12_inherit_ok 22 rfl rfl) rfl (fun c3 => ?_) (fun c3 => ?_)
    · have H := Ht3 c3
      refine g_p (S' := [.int x3]) hF tX12_inherit_ok 48 1 rfl rfl rfl rfl ?_
      obtain ⟨Ht4, Hf4⟩ := oi H
      refine g_if_ne hF (dAt tX12_inherit_ok 49 rfl rfl) rfl (fun c4 => ?_) (fun c4 => ?_)
      · have H := Hf4 c4
        refine g_p (S' := [.int 0, .int (-1), .int (-1), .ref a]) hF tX12_inherit_ok 52 4 rfl rfl rfl rfl ?_
        obtain ⟨s5, e6, H⟩ := ob H
        refine g_cV (S := []) hF (X12_begins_ok (Nat.le_refl _) hS e6 K) mbX12_begins mvX12_begins mlX12_296 (by omega) (by decide) (dAt tX12_inherit_ok 56 rfl rfl) hS.1 rfl rfl rfl (Nat.le_of_ble_eq_true rfl) rfl rfl (by decide) (by decide) rfl ?_
        refine g_p (L' := [some (.ref a), some (.int x1), some (.int x2), some (.int x3), some (.int 0)]) (S' := []) hF tX12_inherit_ok 57 2 rfl rfl rfl rfl ?_
        exact X12_inherit_b102_ok hD hF hS hE FU _ _ _ _ _ H
      · have H := Ht4 c4
        refine g_p (S' := [.int 0]) hF tX12_inherit_ok 50 1 rfl rfl rfl rfl ?_
        exact g_iret hF (en_p H hE) (dAt tX12_inherit_ok 51 rfl rfl) (by decide) (by decide)
    · have H := Hf3 c3
      refine g_p (S' := [.int 2, .int x4, .ref a, .int x3]) hF tX12_inherit_ok 23 4 rfl rfl rfl rfl ?_
      obtain ⟨v7, e8, H⟩ := ob H
      refine g_cV (S := [.int x3]) hF (X12_debtOf_ok (Nat.le_refl _) hS e8 K) mbX12_debtOf mvX12_debtOf mlX12_76 (by omega) (by decide) (dAt tX12_inherit_ok 27 rfl rfl) hS.1 rfl rfl rfl (Nat.le_of_ble_eq_true rfl) rfl rfl (by decide) (by decide) rfl ?_
      obtain ⟨Ht9, Hf9⟩ := oi H
      refine g_if_le hF (dAt tX12_inherit_ok 28 rfl rfl) rfl (fun c9 => ?_) (fun c9 => ?_)
      · have H := Ht9 c9
        refine g_p (L' := [some (.ref a), some (.int x1), some (.int x2), some (.int (x3 + 0)), some (.int (x4 + 1))]) (S' := []) hF tX12_inherit_ok 43 4 rfl rfl rfl rfl ?_
        refine g_goto hF (dAt tX12_inherit_ok 47 rfl rfl) rfl ?_
        exact X12_inherit_b28_ok hD hF hS hE fu _ _ _ _ _ H
      · have H := Hf9 c9
        refine g_p (S' := [.int 0, .int x4, .ref a, .int x3]) hF tX12_inherit_ok 29 3 rfl rfl rfl rfl ?_
        obtain ⟨v10, e11, H⟩ := ob H
        refine g_cV (S := [.int x3]) hF (X12_debtOf_ok (Nat.le_refl _) hS e11 K) mbX12_debtOf mvX12_debtOf mlX12_76 (by omega) (by decide) (dAt tX12_inherit_ok 32 rfl rfl) hS.1 rfl rfl rfl (Nat.le_of_ble_eq_true rfl) rfl rfl (by decide) (by decide) rfl ?_
        refine g_p (S' := [.int x1, .int v10, .int x3]) hF tX12_inherit_ok 33 1 rfl rfl rfl rfl ?_
        obtain ⟨Ht12, Hf12⟩ := oi H
        refine g_icmp_eq hF (dAt tX12_inherit_ok 34 rfl rfl) rfl (fun c12 => ?_) (fun c12 => ?_)
        · have H := Ht12 c12
          refine g_p (S' := [.int 1, .int x3]) hF tX12_inherit_ok 41 1 rfl rfl rfl rfl ?_
          refine g_goto hF (dAt tX12_inherit_ok 42 rfl rfl) rfl ?_
          refine g_p (L' := [some (.ref a), some (.int x1), some (.int x2), some (.int (x3 + 1)), some (.int (x4 + 1))]) (S' := []) hF tX12_inherit_ok 44 3 rfl rfl rfl rfl ?_
          refine g_goto hF (dAt tX12_inherit_ok 47 rfl rfl) rfl ?_
          exact X12_inherit_b28_ok hD hF hS hE fu _ _ _ _ _ H
        · have H := Hf12 c12
          refine g_p (S' := [.int 1, .int x4, .ref a, .int x3]) hF tX12_inherit_ok 35 3 rfl rfl rfl rfl ?_
          obtain ⟨v13, e14, H⟩ := ob H
          refine g_cV (S := [.int x3]) hF (X12_debtOf_ok (Nat.le_refl _) hS e14 K) mbX12_debtOf mvX12_debtOf mlX12_76 (by omega) (by decide) (dAt tX12_inherit_ok 38 rfl rfl) hS.1 rfl rfl rfl (Nat.le_of_ble_eq_true rfl) rfl rfl (by decide) (by decide) rfl ?_
          refine g_p (S' := [.int x1, .int v13, .int x3]) hF tX12_inherit_ok 39 1 rfl rfl rfl rfl ?_
          obtain ⟨Ht15, Hf15⟩ := oi H
          refine g_icmp_ne hF (dAt tX12_inherit_ok 40 rfl rfl) rfl (fun c15 => ?_) (fun c15 => ?_)
          · have H := Hf15 c15
            refine g_p (L' := [some (.ref a), some (.int x1), some (.int x2), some (.int (x3 + 0)), some (.int (x4 + 1))]) (S' := []) hF tX12_inherit_ok 43 4 rfl rfl rfl rfl ?_
            refine g_goto hF (dAt tX12_inherit_ok 47 rfl rfl) rfl ?_
            exact X12_inherit_b28_ok hD hF hS hE fu _ _ _ _ _ H
          · have H := Ht15 c15
            refine g_p (S' := [.int 1, .int x3]) hF tX12_inherit_ok 41 1 rfl rfl rfl rfl ?_
            refine g_goto hF (dAt tX12_inherit_ok 42 rfl rfl) rfl ?_
            refine g_p (L' := [some (.ref a), some (.int x1), some (.int x2), some (.int (x3 + 1)), some (.int (x4 + 1))]) (S' := []) hF tX12_inherit_ok 44 3 rfl rfl rfl rfl ?_
            refine g_goto hF (dAt tX12_inherit_ok 47 rfl rfl) rfl ?_
            exact X12_inherit_b28_ok hD hF hS hE fu _ _ _ _ _ H
def X12_inherit_f (a : Nat) (x1 x2 : Int32) (σ : Sig) : Option (Int32 × Sig) := (X12_isOne_f a x1 σ).bind fun v1 => if v1 = 0 then (some ((-1), σ)) else ((X12_isOne_f a x2 σ).bind fun v4 => if v4 = 0 then (some ((-1), σ)) else (if x1 = x2 then (some ((-1), σ)) else (X12_inherit_b28 a FU x1 x2 0 0 σ)))
set_option maxRecDepth 4000 in
set_option maxHeartbeats 1000000 in
theorem X12_inherit_ok {D : Nat} {τ : Tau} {nx : Nat} {a : Nat} {x1 x2 : Int32} {σ : Sig} {res : Int32} {rsg : Sig} (hD : 4 ≤ D) (hS : ShX12 τ a) (H : X12_inherit_f a x1 x2 σ = some (res, rsg)) : Ok D 0 0 yX12_inherit cX12_inherit 5 (some .int) [.ref a, .int x1, .int x2] (τ, σ, nx) (some (.int res)) (τ, rsg, nx) := by
  refine ok_of (by decide +kernel) rfl (Nat.le_of_ble_eq_true rfl) (fun K X hF hE hN L0 hL0 => ?_)
  obtain rfl : [some (.ref a), some (.int x1), some (.int x2), none, none] = L0 := hL0
  have hF : Fx K X cX12_inherit 5 RX12 D 0 0 := hF
  refine g_p (S' := [.int x1, .ref a]) hF tX12_inherit_ok 0 2 rfl rfl rfl rfl ?_
  obtain ⟨v1, e2, H⟩ := ob H
  refine g_cV (S := []) hF (X12_isOne_ok (Nat.le_refl _) hS e2 K) mbX12_isOne mvX12_isOne mlX12_62 (by omega) (by decide) (dAt tX12_inherit_ok 2 rfl rfl) hS.1 rfl rfl rfl (Nat.le_of_ble_eq_true rfl) rfl rfl (by decide) (by decide) rfl ?_
  obtain ⟨Ht3, Hf3⟩ := oi H
  refine g_if_eq hF (dAt tX12_inherit_ok 3 rfl rfl) rfl (fun c3 => ?_) (fun c3 => ?_)
  · have H := Ht3 c3
    refine g_p (S' := [.int (-1)]) hF tX12_inherit_ok 11 1 rfl rfl rfl rfl ?_
    exact g_iret hF (en_p H hE) (dAt tX12_inherit_ok 12 rfl rfl) (by decide) (by decide)
  · have H := Hf3 c3
    refine g_p (S' := [.int x2, .ref a]) hF tX12_inherit_ok 4 2 rfl rfl rfl rfl ?_
    obtain ⟨v4, e5, H⟩ := ob H
    refine g_cV (S := []) hF (X12_isOne_ok (Nat.le_refl _) hS e5 K) mbX12_isOne mvX12_isOne mlX12_62 (by omega) (by decide) (dAt tX12_inherit_ok 6 rfl rfl) hS.1 rfl rfl rfl (Nat.le_of_ble_eq_true rfl) rfl rfl (by decide) (by decide) rfl ?_
    obtain ⟨Ht6, Hf6⟩ := oi H
    refine g_if_eq hF (dAt tX12_inherit_ok 7 rfl rfl) rfl (fun c6 => ?_) (fun c6 => ?_)
    · have H := Ht6 c6
      refine g_p (S' := [.int (-1)]) hF tX12_inherit_ok 11 1 rfl rfl rfl rfl ?_
      exact g_iret hF (en_p H hE) (dAt tX12_inherit_ok 12 rfl rfl) (by decide) (by decide)
    · have H := Hf6 c6
      refine g_p (S' := [.int x2, .int x1]) hF tX12_inherit_ok 8 2 rfl rfl rfl rfl ?_
      obtain ⟨Ht7, Hf7⟩ := oi H
      refine g_icmp_ne hF (dAt tX12_inherit_ok 10 rfl rfl) rfl (fun c7 => ?_) (fun c7 => ?_)
      · have H := Hf7 c7
        refine g_p (L' := [some (.ref a), some (.int x1), some (.int x2), some (.int 0), some (.int 0)]) (S' := []) hF tX12_inherit_ok 13 4 rfl rfl rfl rfl ?_
        exact X12_inherit_b28_ok hD hF hS hE FU _ _ _ _ _ H
      · have H := Ht7 c7
        refine g_p (S' := [.int (-1)]) hF tX12_inherit_ok 11 1 rfl rfl rfl rfl ?_
        exact g_iret hF (en_p H hE) (dAt tX12_inherit_ok 12 rfl rfl) (by decide) (by decide)
def X12_sell_b90 (a : Nat) (x1 x2 x3 y0 : Int32) (σ : Sig) : Option (Int32 × Sig) := (X12_begins_f a y0 x2 x3 σ).bind fun s1 => (X12_isOf_f a x1 s1).bind fun s3 => (X12_lays0_f a x1 4 x2 s3).bind fun s5 => (X12_ends_f a s5).bind fun s7 => some (1, s7)
set_option maxRecDepth 4000 in
set_option maxHeartbeats 1000000 in
theorem X12_sell_b90_ok {K : Kt} {X : Cx} {D : Nat} {τ : Tau} {nx : Nat} {a : Nat} {res : Int32} {rsg : Sig}  (hD : 4 ≤ D) (hF : Fx K X cX12_sell 4 RX12 D 0 0) (hS : ShX12 τ a) (hE : En K X (some .boolean) 0 0 (some (.int res)) (τ, rsg, nx)) {x1 x2 x3 y0 : Int32} {σ : Sig} (H : X12_sell_b90 a x1 x2 x3 y0 σ = some (res, rsg)) : G K X 4 0 0 90 [some (.ref a), some (.int x1), some (.int x2), some (.int x3)] [.int y0, .ref a] (τ, σ, nx) := by
  refine g_p (S' := [.int x3, .int x2, .int y0, .ref a]) hF tX12_sell_ok 52 2 rfl rfl rfl rfl ?_
  obtain ⟨s1, e2, H⟩ := ob H
  refine g_cV (S := []) hF (X12_begins_ok (Nat.le_refl _) hS e2 K) mbX12_begins mvX12_begins mlX12_296 (by omega) (by decide) (dAt tX12_sell_ok 54 rfl rfl) hS.1 rfl rfl rfl (Nat.le_of_ble_eq_true rfl) rfl rfl (by decide) (by decide) rfl ?_
  refine g_p (S' := [.int x1, .ref a]) hF tX12_sell_ok 55 2 rfl rfl rfl rfl ?_
  obtain ⟨s3, e4, H⟩ := ob H
  refine g_cV (S := []) hF (X12_isOf_ok (Nat.le_refl _) hS e4 K) mbX12_isOf mvX12_isOf mlX12_299 (by omega) (by decide) (dAt tX12_sell_ok 57 rfl rfl) hS.1 rfl rfl rfl (Nat.le_of_ble_eq_true rfl) rfl rfl (by decide) (by decide) rfl ?_
  refine g_p (S' := [.int x2, .int 4, .int x1, .ref a]) hF tX12_sell_ok 58 4 rfl rfl rfl rfl ?_
  obtain ⟨s5, e6, H⟩ := ob H
  refine g_cV (S := []) hF (X12_lays0_ok (Nat.le_refl _) hS e6 K) mbX12_lays0 mvX12_lays0 mlX12_70 (by omega) (by decide) (dAt tX12_sell_ok 62 rfl rfl) hS.1 rfl rfl rfl (Nat.le_of_ble_eq_true rfl) rfl rfl (by decide) (by decide) rfl ?_
  refine g_p (S' := [.ref a]) hF tX12_sell_ok 63 1 rfl rfl rfl rfl ?_
  obtain ⟨s7, e8, H⟩ := ob H
  refine g_cV (S := []) hF (X12_ends_ok (Nat.le_refl _) hS e8 K) mbX12_ends mvX12_ends mlX12_302 (by omega) (by decide) (dAt tX12_sell_ok 64 rfl rfl) hS.1 rfl rfl rfl (Nat.le_of_ble_eq_true rfl) rfl rfl (by decide) (by decide) rfl ?_
  refine g_p (S' := [.int 1]) hF tX12_sell_ok 65 1 rfl rfl rfl rfl ?_
  exact g_zret hF (en_p H hE) (Or.inr rfl) (dAt tX12_sell_ok 66 rfl rfl) (by decide) (by decide)
def X12_sell_b74 (a : Nat) (x1 x2 x3 : Int32) (σ : Sig) : Option (Int32 × Sig) := if x2 = (-1) then (X12_sell_b90 a x1 x2 x3 (-1) σ) else ((X12_debtOf_f a x1 0 σ).bind fun v2 => X12_sell_b90 a x1 x2 x3 v2 σ)
set_option maxRecDepth 4000 in
set_option maxHeartbeats 1000000 in
theorem X12_sell_b74_ok {K : Kt} {X : Cx} {D : Nat} {τ : Tau} {nx : Nat} {a : Nat} {res : Int32} {rsg : Sig}  (hD : 4 ≤ D) (hF : Fx K X cX12_sell 4 RX12 D 0 0) (hS : ShX12 τ a) (hE : En K X (some .boolean) 0 0 (some (.int res)) (τ, rsg, nx)) {x1 x2 x3 : Int32} {σ : Sig} (H : X12_sell_b74 a x1 x2 x3 σ = some (res, rsg)) : G K X 4 0 0 74 [some (.ref a), some (.int x1), some (.int x2), some (.int x3)] [] (τ, σ, nx) := by
  refine g_p (S' := [.int (-1), .int x2, .ref a]) hF tX12_sell_ok 42 3 rfl rfl rfl rfl ?_
  obtain ⟨Ht1, Hf1⟩ := oi H
  refine g_icmp_ne hF (dAt tX12_sell_ok 45 rfl rfl) rfl (fun c1 => ?_) (fun c1 => ?_)
  · have H := Hf1 c1
    refine g_p (S' := [.int 0, .int x1, .ref a, .ref a]) hF tX12_sell_ok 48 3 rfl rfl rfl rfl ?_
    obtain ⟨v2, e3, H⟩ := ob H
    refine g_cV (S := [.ref a]) hF (X12_debtOf_ok (Nat.le_refl _) hS e3 K) mbX12_debtOf mvX12_debtOf mlX12_76 (by omega) (by decide) (dAt tX12_sell_ok 51 rfl rfl) hS.1 rfl rfl rfl (Nat.le_of_ble_eq_true rfl) rfl rfl (by decide) (by decide) rfl ?_
    exact X12_sell_b90_ok hD hF hS hE H
  · have H := Ht1 c1
    refine g_p (S' := [.int (-1), .ref a]) hF tX12_sell_ok 46 1 rfl rfl rfl rfl ?_
    refine g_goto hF (dAt tX12_sell_ok 47 rfl rfl) rfl ?_
    exact X12_sell_b90_ok hD hF hS hE H
def X12_sell_b41 (a : Nat) (x1 x2 x3 : Int32) (σ : Sig) : Option (Int32 × Sig) := (X12_isIn_f x3 0 9999 σ).bind fun v1 => if v1 = 0 then (some (0, σ)) else (if x2 = (-1) then (X12_sell_b74 a x1 x2 x3 σ) else ((X12_debtOf_f a x1 0 σ).bind fun v5 => (X12_own_f a v5 5 σ).bind fun v7 => if x3 ≤ v7 then (X12_sell_b74 a x1 x2 x3 σ) else (some (0, σ))))
set_option maxRecDepth 4000 in
set_option maxHeartbeats 1000000 in
theorem X12_sell_b41_ok {K : Kt} {X : Cx} {D : Nat} {τ : Tau} {nx : Nat} {a : Nat} {res : Int32} {rsg : Sig}  (hD : 4 ≤ D) (hF : Fx K X cX12_sell 4 RX12 D 0 0) (hS : ShX12 τ a) (hE : En K X (some .boolean) 0 0 (some (.int res)) (τ, rsg, nx)) {x1 x2 x3 : Int32} {σ : Sig} (H : X12_sell_b41 a x1 x2 x3 σ = some (res, rsg)) : G K X 4 0 0 41 [some (.ref a), some (.int x1), some (.int x2), some (.int x3)] [] (τ, σ, nx) := by
  refine g_p (S' := [.int 9999, .int 0, .int x3]) hF tX12_sell_ok 23 3 rfl rfl rfl rfl ?_
  obtain ⟨v1, e2, H⟩ := ob H
  refine g_cS (S := []) hF (X12_isIn_ok (Nat.le_refl _)  e2 K) mbX12_isIn msX12_isIn mlX12_50 (by omega) (by decide) (dAt tX12_sell_ok 26 rfl rfl) rfl rfl (Nat.le_of_ble_eq_true rfl) rfl rfl (by decide) (by decide) rfl ?_
  obtain ⟨Ht3, Hf3⟩ := oi H
  refine g_if_eq hF (dAt tX12_sell_ok 27 rfl rfl) rfl (fun c3 => ?_) (fun c3 => ?_)
  · have H := Ht3 c3
    refine g_p (S' := [.int 0]) hF tX12_sell_ok 40 1 rfl rfl rfl rfl ?_
    exact g_zret hF (en_p H hE) (Or.inl rfl) (dAt tX12_sell_ok 41 rfl rfl) (by decide) (by decide)
  · have H := Hf3 c3
    refine g_p (S' := [.int (-1), .int x2]) hF tX12_sell_ok 28 2 rfl rfl rfl rfl ?_
    obtain ⟨Ht4, Hf4⟩ := oi H
    refine g_icmp_eq hF (dAt tX12_sell_ok 30 rfl rfl) rfl (fun c4 => ?_) (fun c4 => ?_)
    · have H := Ht4 c4
      exact X12_sell_b74_ok hD hF hS hE H
    · have H := Hf4 c4
      refine g_p (S' := [.int 0, .int x1, .ref a, .ref a]) hF tX12_sell_ok 31 4 rfl rfl rfl rfl ?_
      obtain ⟨v5, e6, H⟩ := ob H
      refine g_cV (S := [.ref a]) hF (X12_debtOf_ok (Nat.le_refl _) hS e6 K) mbX12_debtOf mvX12_debtOf mlX12_76 (by omega) (by decide) (dAt tX12_sell_ok 35 rfl rfl) hS.1 rfl rfl rfl (Nat.le_of_ble_eq_true rfl) rfl rfl (by decide) (by decide) rfl ?_
      refine g_p (S' := [.int 5, .int v5, .ref a]) hF tX12_sell_ok 36 1 rfl rfl rfl rfl ?_
      obtain ⟨v7, e8, H⟩ := ob H
      refine g_cV (S := []) hF (X12_own_ok (Nat.le_refl _) hS e8 K) mbX12_own mvX12_own mlX12_65 (by omega) (by decide) (dAt tX12_sell_ok 37 rfl rfl) hS.1 rfl rfl rfl (Nat.le_of_ble_eq_true rfl) rfl rfl (by decide) (by decide) rfl ?_
      refine g_p (S' := [.int x3, .int v7]) hF tX12_sell_ok 38 1 rfl rfl rfl rfl ?_
      obtain ⟨Ht9, Hf9⟩ := oi H
      refine g_icmp_ge hF (dAt tX12_sell_ok 39 rfl rfl) rfl (fun c9 => ?_) (fun c9 => ?_)
      · have H := Ht9 c9
        exact X12_sell_b74_ok hD hF hS hE H
      · have H := Hf9 c9
        refine g_p (S' := [.int 0]) hF tX12_sell_ok 40 1 rfl rfl rfl rfl ?_
        exact g_zret hF (en_p H hE) (Or.inl rfl) (dAt tX12_sell_ok 41 rfl rfl) (by decide) (by decide)
def X12_sell_f (a : Nat) (x1 x2 x3 : Int32) (σ : Sig) : Option (Int32 × Sig) := (X12_isLeft_f a x1 σ).bind fun v1 => if v1 = 0 then (some (0, σ)) else (if x2 = (-1) then (X12_sell_b41 a x1 x2 x3 σ) else ((X12_isOne_f a x2 σ).bind fun v5 => if v5 = 0 then (some (0, σ)) else ((X12_debtOf_f a x1 0 σ).bind fun v8 => if x2 = v8 then (some (0, σ)) else ((X12_own_f a x2 0 σ).bind fun v11 => if v11 = 1 then (some (0, σ)) else (X12_sell_b41 a x1 x2 x3 σ)))))
set_option maxRecDepth 4000 in
set_option maxHeartbeats 1000000 in
theorem X12_sell_ok {D : Nat} {τ : Tau} {nx : Nat} {a : Nat} {x1 x2 x3 : Int32} {σ : Sig} {res : Int32} {rsg : Sig} (hD : 4 ≤ D) (hS : ShX12 τ a) (H : X12_sell_f a x1 x2 x3 σ = some (res, rsg)) : Ok D 0 0 yX12_sell cX12_sell 4 (some .boolean) [.ref a, .int x1, .int x2, .int x3] (τ, σ, nx) (some (.int res)) (τ, rsg, nx) := by
  refine ok_of (by decide +kernel) rfl (Nat.le_of_ble_eq_true rfl) (fun K X hF hE hN L0 hL0 => ?_)
  obtain rfl : [some (.ref a), some (.int x1), some (.int x2), some (.int x3)] = L0 := hL0
  have hF : Fx K X cX12_sell 4 RX12 D 0 0 := hF
  refine g_p (S' := [.int x1, .ref a]) hF tX12_sell_ok 0 2 rfl rfl rfl rfl ?_
  obtain ⟨v1, e2, H⟩ := ob H
  refine g_cV (S := []) hF (X12_isLeft_ok (Nat.le_refl _) hS e2 K) mbX12_isLeft mvX12_isLeft mlX12_293 (by omega) (by decide) (dAt tX12_sell_ok 2 rfl rfl) hS.1 rfl rfl rfl (Nat.le_of_ble_eq_true rfl) rfl rfl (by decide) (by decide) rfl ?_
  obtain ⟨Ht3, Hf3⟩ := oi H
  refine g_if_eq hF (dAt tX12_sell_ok 3 rfl rfl) rfl (fun c3 => ?_) (fun c3 => ?_)
  · have H := Ht3 c3
    refine g_p (S' := [.int 0]) hF tX12_sell_ok 40 1 rfl rfl rfl rfl ?_
    exact g_zret hF (en_p H hE) (Or.inl rfl) (dAt tX12_sell_ok 41 rfl rfl) (by decide) (by decide)
  · have H := Hf3 c3
    refine g_p (S' := [.int (-1), .int x2]) hF tX12_sell_ok 4 2 rfl rfl rfl rfl ?_
    obtain ⟨Ht4, Hf4⟩ := oi H
    refine g_icmp_eq hF (dAt tX12_sell_ok 6 rfl rfl) rfl (fun c4 => ?_) (fun c4 => ?_)
    · have H := Ht4 c4
      exact X12_sell_b41_ok hD hF hS hE H
    · have H := Hf4 c4
      refine g_p (S' := [.int x2, .ref a]) hF tX12_sell_ok 7 2 rfl rfl rfl rfl ?_
      obtain ⟨v5, e6, H⟩ := ob H
      refine g_cV (S := []) hF (X12_isOne_ok (Nat.le_refl _) hS e6 K) mbX12_isOne mvX12_isOne mlX12_62 (by omega) (by decide) (dAt tX12_sell_ok 9 rfl rfl) hS.1 rfl rfl rfl (Nat.le_of_ble_eq_true rfl) rfl rfl (by decide) (by decide) rfl ?_
      obtain ⟨Ht7, Hf7⟩ := oi H
      refine g_if_eq hF (dAt tX12_sell_ok 10 rfl rfl) rfl (fun c7 => ?_) (fun c7 => ?_)
      · have H := Ht7 c7
        refine g_p (S' := [.int 0]) hF tX12_sell_ok 40 1 rfl rfl rfl rfl ?_
        exact g_zret hF (en_p H hE) (Or.inl rfl) (dAt tX12_sell_ok 41 rfl rfl) (by decide) (by decide)
      · have H := Hf7 c7
        refine g_p (S' := [.int 0, .int x1, .ref a, .int x2]) hF tX12_sell_ok 11 4 rfl rfl rfl rfl ?_
        obtain ⟨v8, e9, H⟩ := ob H
        refine g_cV (S := [.int x2]) hF (X12_debtOf_ok (Nat.le_refl _) hS e9 K) mbX12_debtOf mvX12_debtOf mlX12_76 (by omega) (by decide) (dAt tX12_sell_ok 15 rfl rfl) hS.1 rfl rfl rfl (Nat.le_of_ble_eq_true rfl) rfl rfl (by decide) (by decide) rfl ?_
        obtain ⟨Ht10, Hf10⟩ := oi H
        refine g_icmp_eq hF (dAt tX12_sell_ok 16 rfl rfl) rfl (fun c10 => ?_) (fun c10 => ?_)
        · have H := Ht10 c10
          refine g_p (S' := [.int 0]) hF tX12_sell_ok 40 1 rfl rfl rfl rfl ?_
          exact g_zret hF (en_p H hE) (Or.inl rfl) (dAt tX12_sell_ok 41 rfl rfl) (by decide) (by decide)
        · have H := Hf10 c10
          refine g_p (S' := [.int 0, .int x2, .ref a]) hF tX12_sell_ok 17 3 rfl rfl rfl rfl ?_
          obtain ⟨v11, e12, H⟩ := ob H
          refine g_cV (S := []) hF (X12_own_ok (Nat.le_refl _) hS e12 K) mbX12_own mvX12_own mlX12_65 (by omega) (by decide) (dAt tX12_sell_ok 20 rfl rfl) hS.1 rfl rfl rfl (Nat.le_of_ble_eq_true rfl) rfl rfl (by decide) (by decide) rfl ?_
          refine g_p (S' := [.int 1, .int v11]) hF tX12_sell_ok 21 1 rfl rfl rfl rfl ?_
          obtain ⟨Ht13, Hf13⟩ := oi H
          refine g_icmp_eq hF (dAt tX12_sell_ok 22 rfl rfl) rfl (fun c13 => ?_) (fun c13 => ?_)
          · have H := Ht13 c13
            refine g_p (S' := [.int 0]) hF tX12_sell_ok 40 1 rfl rfl rfl rfl ?_
            exact g_zret hF (en_p H hE) (Or.inl rfl) (dAt tX12_sell_ok 41 rfl rfl) (by decide) (by decide)
          · have H := Hf13 c13
            exact X12_sell_b41_ok hD hF hS hE H
def X12_sumUp_b46 (a : Nat) (k9 : Sig → Option (Int32 × Sig)) (y0 : Int32) (σ : Sig) : Option (Int32 × Sig) := (X12_next0_f a σ).bind fun s1 => (X12_product_f a s1).bind fun ⟨v3, s4⟩ => if v3 = 0 then (some (0, s4)) else ((X12_lay_f a y0 0 s4).bind fun s7 => k9 s7)
set_option maxRecDepth 4000 in
set_option maxHeartbeats 1000000 in
theorem X12_sumUp_b46_ok {K : Kt} {X : Cx} {D : Nat} {τ : Tau} {nx : Nat} {a : Nat} {res : Int32} {rsg : Sig}  (hD : 11 ≤ D) (hF : Fx K X cX12_sumUp 2 RX12 D 0 0) (hS : ShX12 τ a) (hE : En K X (some .boolean) 0 0 (some (.int res)) (τ, rsg, nx)) {k9 : Sig → Option (Int32 × Sig)} (hk9 : ∀ (σ : Sig), k9 σ = some (res, rsg) → G K X 2 0 0 9 [some (.ref a), none] [] (τ, σ, nx)) {y0 : Int32} {σ : Sig} (H : X12_sumUp_b46 a k9 y0 σ = some (res, rsg)) : G K X 2 0 0 46 [some (.ref a), none] [.int y0] (τ, σ, nx) := by
  refine g_p (L' := [some (.ref a), some (.int y0)]) (S' := [.ref a]) hF tX12_sumUp_ok 20 2 rfl rfl rfl rfl ?_
  obtain ⟨s1, e2, H⟩ := ob H
  refine g_cV (S := []) hF (X12_next0_ok (Nat.le_refl _) hS e2 K) mbX12_next0 mvX12_next0 mlX12_180 (by omega) (by decide) (dAt tX12_sumUp_ok 22 rfl rfl) hS.1 rfl rfl rfl (Nat.le_of_ble_eq_true rfl) rfl rfl (by decide) (by decide) rfl ?_
  refine g_p (S' := [.ref a]) hF tX12_sumUp_ok 23 1 rfl rfl rfl rfl ?_
  obtain ⟨⟨v3, s4⟩, e5, H⟩ := ob H
  refine g_cV (S := []) hF (X12_product_ok (Nat.le_refl _) hS e5 K) mbX12_product mvX12_product mlX12_189 (by omega) (by decide) (dAt tX12_sumUp_ok 24 rfl rfl) hS.1 rfl rfl rfl (Nat.le_of_ble_eq_true rfl) rfl rfl (by decide) (by decide) rfl ?_
  obtain ⟨Ht6, Hf6⟩ := oi H
  refine g_if_ne hF (dAt tX12_sumUp_ok 25 rfl rfl) rfl (fun c6 => ?_) (fun c6 => ?_)
  · have H := Hf6 c6
    refine g_p (S' := [.int 0, .int y0, .ref a]) hF tX12_sumUp_ok 28 3 rfl rfl rfl rfl ?_
    obtain ⟨s7, e8, H⟩ := ob H
    refine g_cV (S := []) hF (X12_lay_ok (Nat.le_refl _) hS e8 K) mbX12_lay mvX12_lay mlX12_193 (by omega) (by decide) (dAt tX12_sumUp_ok 31 rfl rfl) hS.1 rfl rfl rfl (Nat.le_of_ble_eq_true rfl) rfl rfl (by decide) (by decide) rfl ?_
    refine g_goto hF (dAt tX12_sumUp_ok 32 rfl rfl) rfl ?_
    refine g_m [true, false] rfl ?_
    exact hk9 _ H
  · have H := Ht6 c6
    refine g_p (S' := [.int 0]) hF tX12_sumUp_ok 26 1 rfl rfl rfl rfl ?_
    exact g_zret hF (en_p H hE) (Or.inl rfl) (dAt tX12_sumUp_ok 27 rfl rfl) (by decide) (by decide)
def X12_sumUp_b29 (a : Nat) (k9 : Sig → Option (Int32 × Sig)) (σ : Sig) : Option (Int32 × Sig) := if (σ a 14) = 143 then (X12_sumUp_b46 a k9 12 σ) else (X12_sumUp_b46 a k9 13 σ)
set_option maxRecDepth 4000 in
set_option maxHeartbeats 1000000 in
theorem X12_sumUp_b29_ok {K : Kt} {X : Cx} {D : Nat} {τ : Tau} {nx : Nat} {a : Nat} {res : Int32} {rsg : Sig}  (hD : 11 ≤ D) (hF : Fx K X cX12_sumUp 2 RX12 D 0 0) (hS : ShX12 τ a) (hE : En K X (some .boolean) 0 0 (some (.int res)) (τ, rsg, nx)) {k9 : Sig → Option (Int32 × Sig)} (hk9 : ∀ (σ : Sig), k9 σ = some (res, rsg) → G K X 2 0 0 9 [some (.ref a), none] [] (τ, σ, nx)) {σ : Sig} (H : X12_sumUp_b29 a k9 σ = some (res, rsg)) : G K X 2 0 0 29 [some (.ref a), none] [] (τ, σ, nx) := by
  refine g_p (S' := [.ref a]) hF tX12_sumUp_ok 13 1 rfl rfl rfl rfl ?_
  refine g_getI hF (dAt tX12_sumUp_ok 14 rfl rfl) flX12_156 hS.1 rfl ?_
  refine g_p (S' := [.int 143, .int (σ a 14)]) hF tX12_sumUp_ok 15 1 rfl rfl rfl rfl ?_
  obtain ⟨Ht1, Hf1⟩ := oi H
  refine g_icmp_ne hF (dAt tX12_sumUp_ok 16 rfl rfl) rfl (fun c1 => ?_) (fun c1 => ?_)
  · have H := Hf1 c1
    refine g_p (S' := [.int 13]) hF tX12_sumUp_ok 19 1 rfl rfl rfl rfl ?_
    exact X12_sumUp_b46_ok hD hF hS hE hk9 H
  · have H := Ht1 c1
    refine g_p (S' := [.int 12]) hF tX12_sumUp_ok 17 1 rfl rfl rfl rfl ?_
    refine g_goto hF (dAt tX12_sumUp_ok 18 rfl rfl) rfl ?_
    exact X12_sumUp_b46_ok hD hF hS hE hk9 H
def X12_sumUp_b9 (a : Nat) : Nat → Sig → Option (Int32 × Sig)
  | 0, _ => none
  | fu + 1, σ => if (σ a 14) = 143 then (X12_sumUp_b29 a (X12_sumUp_b9 a fu) σ) else (if (σ a 14) = 145 then (X12_sumUp_b29 a (X12_sumUp_b9 a fu) σ) else (some (1, σ)))
set_option maxRecDepth 4000 in
set_option maxHeartbeats 1000000 in
theorem X12_sumUp_b9_ok {K : Kt} {X : Cx} {D : Nat} {τ : Tau} {nx : Nat} {a : Nat} {res : Int32} {rsg : Sig}  (hD : 11 ≤ D) (hF : Fx K X cX12_sumUp 2 RX12 D 0 0) (hS : ShX12 τ a) (hE : En K X (some .boolean) 0 0 (some (.int res)) (τ, rsg, nx)) : ∀ (fu : Nat) (σ : Sig), X12_sumUp_b9 a fu σ = some (res, rsg) → G K X 2 0 0 9 [some (.ref a), none] [] (τ, σ, nx)
  | 0, _, H => nomatch H
  | fu + 1, σ, H => by
    refine g_p (S' := [.ref a]) hF tX12_sumUp_ok 5 1 rfl rfl rfl rfl ?_
    refine g_getI hF (dAt tX12_sumUp_ok 6 rfl rfl) flX12_156 hS.1 rfl ?_
    refine g_p (S' := [.int 143, .int (σ a 14)]) hF tX12_sumUp_ok 7 1 rfl rfl rfl rfl ?_
    obtain ⟨Ht1, Hf1⟩ := oi H
    refine g_icmp_eq hF (dAt tX12_sumUp_ok 8 rfl rfl) rfl (fun c1 => ?_) (fun c1 => ?_)
    · have H := Ht1 c1
      exact X12_sumUp_b29_ok hD hF hS hE (fun _ H => X12_sumUp_b9_ok hD hF hS hE fu _ H) H
    · have H := Hf1 c1
      refine g_p (S' := [.ref a]) hF tX12_sumUp_ok 9 1 rfl rfl rfl rfl ?_
      refine g_getI hF (dAt tX12_sumUp_ok 10 rfl rfl) flX12_156 hS.1 rfl ?_
      refine g_p (S' := [.int 145, .int (σ a 14)]) hF tX12_sumUp_ok 11 1 rfl rfl rfl rfl ?_
      obtain ⟨Ht2, Hf2⟩ := oi H
      refine g_icmp_ne hF (dAt tX12_sumUp_ok 12 rfl rfl) rfl (fun c2 => ?_) (fun c2 => ?_)
      · have H := Hf2 c2
        refine g_p (S' := [.int 1]) hF tX12_sumUp_ok 33 1 rfl rfl rfl rfl ?_
        exact g_zret hF (en_p H hE) (Or.inr rfl) (dAt tX12_sumUp_ok 34 rfl rfl) (by decide) (by decide)
      · have H := Ht2 c2
        exact X12_sumUp_b29_ok hD hF hS hE (fun _ H => X12_sumUp_b9_ok hD hF hS hE fu _ H) H
def X12_sumUp_f (a : Nat) (σ : Sig) : Option (Int32 × Sig) := (X12_product_f a σ).bind fun ⟨v1, s2⟩ => if v1 = 0 then (some (0, s2)) else (X12_sumUp_b9 a FU s2)
set_option maxRecDepth 4000 in
set_option maxHeartbeats 1000000 in
theorem X12_sumUp_ok {D : Nat} {τ : Tau} {nx : Nat} {a : Nat} {σ : Sig} {res : Int32} {rsg : Sig} (hD : 11 ≤ D) (hS : ShX12 τ a) (H : X12_sumUp_f a σ = some (res, rsg)) : Ok D 0 0 yX12_sumUp cX12_sumUp 2 (some .boolean) [.ref a] (τ, σ, nx) (some (.int res)) (τ, rsg, nx) := by
  refine ok_of (by decide +kernel) rfl (Nat.le_of_ble_eq_true rfl) (fun K X hF hE hN L0 hL0 => ?_)
  obtain rfl : [some (.ref a), none] = L0 := hL0
  have hF : Fx K X cX12_sumUp 2 RX12 D 0 0 := hF
  refine g_p (S' := [.ref a]) hF tX12_sumUp_ok 0 1 rfl rfl rfl rfl ?_
  obtain ⟨⟨v1, s2⟩, e3, H⟩ := ob H
  refine g_cV (S := []) hF (X12_product_ok (Nat.le_refl _) hS e3 K) mbX12_product mvX12_product mlX12_189 (by omega) (by decide) (dAt tX12_sumUp_ok 1 rfl rfl) hS.1 rfl rfl rfl (Nat.le_of_ble_eq_true rfl) rfl rfl (by decide) (by decide) rfl ?_
  obtain ⟨Ht4, Hf4⟩ := oi H
  refine g_if_ne hF (dAt tX12_sumUp_ok 2 rfl rfl) rfl (fun c4 => ?_) (fun c4 => ?_)
  · have H := Hf4 c4
    exact X12_sumUp_b9_ok hD hF hS hE FU _ H
  · have H := Ht4 c4
    refine g_p (S' := [.int 0]) hF tX12_sumUp_ok 3 1 rfl rfl rfl rfl ?_
    exact g_zret hF (en_p H hE) (Or.inl rfl) (dAt tX12_sumUp_ok 4 rfl rfl) (by decide) (by decide)

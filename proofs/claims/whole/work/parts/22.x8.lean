/-! SilenceForMoney$Time -/
def X8_copyFrom_f (a : Nat) (r1 : Nat) (σ : Sig) : Option (Sig) := (pI σ a 0 (σ r1 0)).bind fun s1 => (pI s1 a 1 (s1 r1 1)).bind fun s3 => (pI s3 a 2 (s3 r1 2)).bind fun s5 => (pI s5 a 3 (s5 r1 3)).bind fun s7 => some s7
set_option maxRecDepth 4000 in
set_option maxHeartbeats 1000000 in
theorem X8_copyFrom_ok {D : Nat} {τ : Tau} {nx : Nat} {a : Nat} {r1 : Nat} {σ : Sig} {res : Sig} (hD : 1 ≤ D) (hS : ShX8 τ a) (hr1 : ShX8 τ r1) (H : X8_copyFrom_f a r1 σ = some res) : Ok D 0 0 yX8_copyFrom cX8_copyFrom 2 none [.ref a, .ref r1] (τ, σ, nx) none (τ, res, nx) := by
  refine ok_of (by decide +kernel) rfl (Nat.le_of_ble_eq_true rfl) (fun K X hF hE hN L0 hL0 => ?_)
  obtain rfl : [some (.ref a), some (.ref r1)] = L0 := hL0
  have hF : Fx K X cX8_copyFrom 2 RX8 D 0 0 := hF
  refine g_p (S' := [.ref r1, .ref a]) hF tX8_copyFrom_ok 0 2 rfl rfl rfl rfl ?_
  refine g_getI hF (dAt tX8_copyFrom_ok 2 rfl rfl) flX8_9 hr1 rfl ?_
  obtain ⟨s1, e2, H⟩ := ob H
  refine g_pI hF (dAt tX8_copyFrom_ok 3 rfl rfl) flX8_9 (Or.inl rfl) hS rfl e2 ?_
  refine g_p (S' := [.ref r1, .ref a]) hF tX8_copyFrom_ok 4 2 rfl rfl rfl rfl ?_
  refine g_getI hF (dAt tX8_copyFrom_ok 6 rfl rfl) flX8_15 hr1 rfl ?_
  obtain ⟨s3, e4, H⟩ := ob H
  refine g_pI hF (dAt tX8_copyFrom_ok 7 rfl rfl) flX8_15 (Or.inl rfl) hS rfl e4 ?_
  refine g_p (S' := [.ref r1, .ref a]) hF tX8_copyFrom_ok 8 2 rfl rfl rfl rfl ?_
  refine g_getI hF (dAt tX8_copyFrom_ok 10 rfl rfl) flX8_18 hr1 rfl ?_
  obtain ⟨s5, e6, H⟩ := ob H
  refine g_pI hF (dAt tX8_copyFrom_ok 11 rfl rfl) flX8_18 (Or.inl rfl) hS rfl e6 ?_
  refine g_p (S' := [.ref r1, .ref a]) hF tX8_copyFrom_ok 12 2 rfl rfl rfl rfl ?_
  refine g_getI hF (dAt tX8_copyFrom_ok 14 rfl rfl) flX8_21 hr1 rfl ?_
  obtain ⟨s7, e8, H⟩ := ob H
  refine g_pI hF (dAt tX8_copyFrom_ok 15 rfl rfl) flX8_21 (Or.inl rfl) hS rfl e8 ?_
  exact g_vret hF (en_v H hE) (dAt tX8_copyFrom_ok 16 rfl rfl) (by decide) (by decide)
def X8_draw_f (a : Nat) (x1 : Int32) (σ : Sig) : Option (Int32 × Sig) := (pI σ a 0 ((1664525 * (σ a 0)) + 1013904223)).bind fun s1 => if x1 ≤ 0 then (some (0, s1)) else (if x1 = 0 then none else (some (((((s1 a 0) : Int32).toUInt32 >>> ((8 : Int32).toUInt32 &&& Int32.toUInt32 31)).toInt32 - (((s1 a 0) : Int32).toUInt32 >>> ((8 : Int32).toUInt32 &&& Int32.toUInt32 31)).toInt32 / x1 * x1), s1)))
set_option maxRecDepth 4000 in
set_option maxHeartbeats 1000000 in
theorem X8_draw_ok {D : Nat} {τ : Tau} {nx : Nat} {a : Nat} {x1 : Int32} {σ : Sig} {res : Int32} {rsg : Sig} (hD : 1 ≤ D) (hS : ShX8 τ a) (H : X8_draw_f a x1 σ = some (res, rsg)) : Ok D 0 0 yX8_draw cX8_draw 2 (some .int) [.ref a, .int x1] (τ, σ, nx) (some (.int res)) (τ, rsg, nx) := by
  refine ok_of (by decide +kernel) rfl (Nat.le_of_ble_eq_true rfl) (fun K X hF hE hN L0 hL0 => ?_)
  obtain rfl : [some (.ref a), some (.int x1)] = L0 := hL0
  have hF : Fx K X cX8_draw 2 RX8 D 0 0 := hF
  refine g_p (S' := [.ref a]) hF tX8_draw_ok 0 1 rfl rfl rfl rfl ?_
  refine g_ldc hF (dAt tX8_draw_ok 1 rfl rfl) coX8_24 ?_
  refine g_p (S' := [.ref a, .int 1664525, .ref a]) hF tX8_draw_ok 2 1 rfl rfl rfl rfl ?_
  refine g_getI hF (dAt tX8_draw_ok 3 rfl rfl) flX8_9 hS rfl ?_
  refine g_p (S' := [.int (1664525 * (σ a 0)), .ref a]) hF tX8_draw_ok 4 1 rfl rfl rfl rfl ?_
  refine g_ldc hF (dAt tX8_draw_ok 5 rfl rfl) coX8_25 ?_
  refine g_p (S' := [.int ((1664525 * (σ a 0)) + 1013904223), .ref a]) hF tX8_draw_ok 6 1 rfl rfl rfl rfl ?_
  obtain ⟨s1, e2, H⟩ := ob H
  refine g_pI hF (dAt tX8_draw_ok 7 rfl rfl) flX8_9 (Or.inl rfl) hS rfl e2 ?_
  refine g_p (S' := [.int x1]) hF tX8_draw_ok 8 1 rfl rfl rfl rfl ?_
  obtain ⟨Ht3, Hf3⟩ := oi H
  refine g_if_le hF (dAt tX8_draw_ok 9 rfl rfl) rfl (fun c3 => ?_) (fun c3 => ?_)
  · have H := Ht3 c3
    refine g_p (S' := [.int 0]) hF tX8_draw_ok 17 1 rfl rfl rfl rfl ?_
    exact g_iret hF (en_p H hE) (dAt tX8_draw_ok 18 rfl rfl) (by decide) (by decide)
  · have H := Hf3 c3
    refine g_p (S' := [.ref a]) hF tX8_draw_ok 10 1 rfl rfl rfl rfl ?_
    refine g_getI hF (dAt tX8_draw_ok 11 rfl rfl) flX8_9 hS rfl ?_
    refine g_p (S' := [.int x1, .int ((((s1 a 0) : Int32).toUInt32 >>> ((8 : Int32).toUInt32 &&& Int32.toUInt32 31)).toInt32)]) hF tX8_draw_ok 12 3 rfl rfl rfl rfl ?_
    obtain ⟨z4, H⟩ := on H
    refine g_irem hF (dAt tX8_draw_ok 15 rfl rfl) z4 ?_
    refine g_goto hF (dAt tX8_draw_ok 16 rfl rfl) rfl ?_
    exact g_iret hF (en_p H hE) (dAt tX8_draw_ok 18 rfl rfl) (by decide) (by decide)
def X8_hour_f (a : Nat) (σ : Sig) : Option (Int32) := some ((σ a 2) / 4)
set_option maxRecDepth 4000 in
set_option maxHeartbeats 1000000 in
theorem X8_hour_ok {D : Nat} {τ : Tau} {nx : Nat} {a : Nat} {σ : Sig} {res : Int32} (hD : 1 ≤ D) (hS : ShX8 τ a) (H : X8_hour_f a σ = some res) : Ok D 0 0 yX8_hour cX8_hour 1 (some .int) [.ref a] (τ, σ, nx) (some (.int res)) (τ, σ, nx) := by
  refine ok_of (by decide +kernel) rfl (Nat.le_of_ble_eq_true rfl) (fun K X hF hE hN L0 hL0 => ?_)
  obtain rfl : [some (.ref a)] = L0 := hL0
  have hF : Fx K X cX8_hour 1 RX8 D 0 0 := hF
  refine g_p (S' := [.ref a]) hF tX8_hour_ok 0 1 rfl rfl rfl rfl ?_
  refine g_getI hF (dAt tX8_hour_ok 1 rfl rfl) flX8_18 hS rfl ?_
  refine g_p (S' := [.int 4, .int (σ a 2)]) hF tX8_hour_ok 2 1 rfl rfl rfl rfl ?_
  refine g_idiv hF (dAt tX8_hour_ok 3 rfl rfl) (by decide) ?_
  exact g_iret hF (en_i H hE) (dAt tX8_hour_ok 4 rfl rfl) (by decide) (by decide)
def X8_isNight_f (a : Nat) (σ : Sig) : Option (Int32) := (X8_hour_f a σ).bind fun v1 => (X11_isNightIn_f v1 σ).bind fun v3 => if v3 = 0 ∨ v3 = 1 then some v3 else none
set_option maxRecDepth 4000 in
set_option maxHeartbeats 1000000 in
theorem X8_isNight_ok {D : Nat} {τ : Tau} {nx : Nat} {a : Nat} {σ : Sig} {res : Int32} (hD : 2 ≤ D) (hS : ShX8 τ a) (H : X8_isNight_f a σ = some res) : Ok D 0 0 yX8_isNight cX8_isNight 1 (some .boolean) [.ref a] (τ, σ, nx) (some (.int res)) (τ, σ, nx) := by
  refine ok_of (by decide +kernel) rfl (Nat.le_of_ble_eq_true rfl) (fun K X hF hE hN L0 hL0 => ?_)
  obtain rfl : [some (.ref a)] = L0 := hL0
  have hF : Fx K X cX8_isNight 1 RX8 D 0 0 := hF
  refine g_p (S' := [.ref a]) hF tX8_isNight_ok 0 1 rfl rfl rfl rfl ?_
  obtain ⟨v1, e2, H⟩ := ob H
  refine g_cV (S := []) hF (X8_hour_ok (Nat.le_refl _) hS e2 K) mbX8_hour mvX8_hour mlX8_26 (by omega) (by decide) (dAt tX8_isNight_ok 1 rfl rfl) hS rfl rfl rfl (Nat.le_of_ble_eq_true rfl) rfl rfl (by decide) (by decide) rfl ?_
  obtain ⟨v3, e4, H⟩ := ob H
  refine g_cSN (S := []) hF (X11_isNightIn_ok (Nat.le_refl _)  e4 K) mbX11_isNightIn msX11_isNightIn nlX8_30 (by omega) (by decide) (dAt tX8_isNight_ok 2 rfl rfl) rfl rfl (Nat.le_of_ble_eq_true rfl) rfl rfl (by decide) (by decide) rfl ?_
  obtain ⟨hb, H⟩ := oy H
  exact g_zret hF (en_i H hE) hb (dAt tX8_isNight_ok 3 rfl rfl) (by decide) (by decide)
def X8_isFeastOn_f (a : Nat) (x1 : Int32) (σ : Sig) : Option (Int32) := if (σ a 3) ≤ 0 then (some 0) else (if (σ a 3) = 0 then none else (if (x1 - x1 / (σ a 3) * (σ a 3)) = 0 then (some 1) else (some 0)))
set_option maxRecDepth 4000 in
set_option maxHeartbeats 1000000 in
theorem X8_isFeastOn_ok {D : Nat} {τ : Tau} {nx : Nat} {a : Nat} {x1 : Int32} {σ : Sig} {res : Int32} (hD : 1 ≤ D) (hS : ShX8 τ a) (H : X8_isFeastOn_f a x1 σ = some res) : Ok D 0 0 yX8_isFeastOn cX8_isFeastOn 2 (some .boolean) [.ref a, .int x1] (τ, σ, nx) (some (.int res)) (τ, σ, nx) := by
  refine ok_of (by decide +kernel) rfl (Nat.le_of_ble_eq_true rfl) (fun K X hF hE hN L0 hL0 => ?_)
  obtain rfl : [some (.ref a), some (.int x1)] = L0 := hL0
  have hF : Fx K X cX8_isFeastOn 2 RX8 D 0 0 := hF
  refine g_p (S' := [.ref a]) hF tX8_isFeastOn_ok 0 1 rfl rfl rfl rfl ?_
  refine g_getI hF (dAt tX8_isFeastOn_ok 1 rfl rfl) flX8_21 hS rfl ?_
  obtain ⟨Ht1, Hf1⟩ := oi H
  refine g_if_le hF (dAt tX8_isFeastOn_ok 2 rfl rfl) rfl (fun c1 => ?_) (fun c1 => ?_)
  · have H := Ht1 c1
    refine g_p (S' := [.int 0]) hF tX8_isFeastOn_ok 10 1 rfl rfl rfl rfl ?_
    exact g_zret hF (en_i H hE) (Or.inl rfl) (dAt tX8_isFeastOn_ok 11 rfl rfl) (by decide) (by decide)
  · have H := Hf1 c1
    refine g_p (S' := [.ref a, .int x1]) hF tX8_isFeastOn_ok 3 2 rfl rfl rfl rfl ?_
    refine g_getI hF (dAt tX8_isFeastOn_ok 5 rfl rfl) flX8_21 hS rfl ?_
    obtain ⟨z2, H⟩ := on H
    refine g_irem hF (dAt tX8_isFeastOn_ok 6 rfl rfl) z2 ?_
    obtain ⟨Ht3, Hf3⟩ := oi H
    refine g_if_ne hF (dAt tX8_isFeastOn_ok 7 rfl rfl) rfl (fun c3 => ?_) (fun c3 => ?_)
    · have H := Hf3 c3
      refine g_p (S' := [.int 0]) hF tX8_isFeastOn_ok 10 1 rfl rfl rfl rfl ?_
      exact g_zret hF (en_i H hE) (Or.inl rfl) (dAt tX8_isFeastOn_ok 11 rfl rfl) (by decide) (by decide)
    · have H := Ht3 c3
      refine g_p (S' := [.int 1]) hF tX8_isFeastOn_ok 8 1 rfl rfl rfl rfl ?_
      refine g_goto hF (dAt tX8_isFeastOn_ok 9 rfl rfl) rfl ?_
      exact g_zret hF (en_i H hE) (Or.inr rfl) (dAt tX8_isFeastOn_ok 11 rfl rfl) (by decide) (by decide)
def X8_goOn_f (a : Nat) (σ : Sig) : Option (Sig) := (pI σ a 2 ((σ a 2) + 1)).bind fun s1 => if (s1 a 2) < 96 then (some s1) else ((pI s1 a 2 0).bind fun s4 => (pI s4 a 1 ((s4 a 1) + 1)).bind fun s6 => some s6)
set_option maxRecDepth 4000 in
set_option maxHeartbeats 1000000 in
theorem X8_goOn_ok {D : Nat} {τ : Tau} {nx : Nat} {a : Nat} {σ : Sig} {res : Sig} (hD : 1 ≤ D) (hS : ShX8 τ a) (H : X8_goOn_f a σ = some res) : Ok D 0 0 yX8_goOn cX8_goOn 1 none [.ref a] (τ, σ, nx) none (τ, res, nx) := by
  refine ok_of (by decide +kernel) rfl (Nat.le_of_ble_eq_true rfl) (fun K X hF hE hN L0 hL0 => ?_)
  obtain rfl : [some (.ref a)] = L0 := hL0
  have hF : Fx K X cX8_goOn 1 RX8 D 0 0 := hF
  refine g_p (S' := [.ref a, .ref a]) hF tX8_goOn_ok 0 2 rfl rfl rfl rfl ?_
  refine g_getI hF (dAt tX8_goOn_ok 2 rfl rfl) flX8_18 hS rfl ?_
  refine g_p (S' := [.int ((σ a 2) + 1), .ref a]) hF tX8_goOn_ok 3 2 rfl rfl rfl rfl ?_
  obtain ⟨s1, e2, H⟩ := ob H
  refine g_pI hF (dAt tX8_goOn_ok 5 rfl rfl) flX8_18 (Or.inl rfl) hS rfl e2 ?_
  refine g_p (S' := [.ref a]) hF tX8_goOn_ok 6 1 rfl rfl rfl rfl ?_
  refine g_getI hF (dAt tX8_goOn_ok 7 rfl rfl) flX8_18 hS rfl ?_
  refine g_p (S' := [.int 96, .int (s1 a 2)]) hF tX8_goOn_ok 8 1 rfl rfl rfl rfl ?_
  obtain ⟨Ht3, Hf3⟩ := oi H
  refine g_icmp_lt hF (dAt tX8_goOn_ok 9 rfl rfl) rfl (fun c3 => ?_) (fun c3 => ?_)
  · have H := Ht3 c3
    exact g_vret hF (en_v H hE) (dAt tX8_goOn_ok 19 rfl rfl) (by decide) (by decide)
  · have H := Hf3 c3
    refine g_p (S' := [.int 0, .ref a]) hF tX8_goOn_ok 10 2 rfl rfl rfl rfl ?_
    obtain ⟨s4, e5, H⟩ := ob H
    refine g_pI hF (dAt tX8_goOn_ok 12 rfl rfl) flX8_18 (Or.inl rfl) hS rfl e5 ?_
    refine g_p (S' := [.ref a, .ref a]) hF tX8_goOn_ok 13 2 rfl rfl rfl rfl ?_
    refine g_getI hF (dAt tX8_goOn_ok 15 rfl rfl) flX8_15 hS rfl ?_
    refine g_p (S' := [.int ((s4 a 1) + 1), .ref a]) hF tX8_goOn_ok 16 2 rfl rfl rfl rfl ?_
    obtain ⟨s6, e7, H⟩ := ob H
    refine g_pI hF (dAt tX8_goOn_ok 18 rfl rfl) flX8_15 (Or.inl rfl) hS rfl e7 ?_
    exact g_vret hF (en_v H hE) (dAt tX8_goOn_ok 19 rfl rfl) (by decide) (by decide)
def X8_isFeast_f (a : Nat) (σ : Sig) : Option (Int32) := (X8_isFeastOn_f a (σ a 1) σ).bind fun v1 => if v1 = 0 ∨ v1 = 1 then some v1 else none
set_option maxRecDepth 4000 in
set_option maxHeartbeats 1000000 in
theorem X8_isFeast_ok {D : Nat} {τ : Tau} {nx : Nat} {a : Nat} {σ : Sig} {res : Int32} (hD : 2 ≤ D) (hS : ShX8 τ a) (H : X8_isFeast_f a σ = some res) : Ok D 0 0 yX8_isFeast cX8_isFeast 1 (some .boolean) [.ref a] (τ, σ, nx) (some (.int res)) (τ, σ, nx) := by
  refine ok_of (by decide +kernel) rfl (Nat.le_of_ble_eq_true rfl) (fun K X hF hE hN L0 hL0 => ?_)
  obtain rfl : [some (.ref a)] = L0 := hL0
  have hF : Fx K X cX8_isFeast 1 RX8 D 0 0 := hF
  refine g_p (S' := [.ref a, .ref a]) hF tX8_isFeast_ok 0 2 rfl rfl rfl rfl ?_
  refine g_getI hF (dAt tX8_isFeast_ok 2 rfl rfl) flX8_15 hS rfl ?_
  obtain ⟨v1, e2, H⟩ := ob H
  refine g_cV (S := []) hF (X8_isFeastOn_ok (Nat.le_refl _) hS e2 K) mbX8_isFeastOn mvX8_isFeastOn mlX8_34 (by omega) (by decide) (dAt tX8_isFeast_ok 3 rfl rfl) hS rfl rfl rfl (Nat.le_of_ble_eq_true rfl) rfl rfl (by decide) (by decide) rfl ?_
  obtain ⟨hb, H⟩ := oy H
  exact g_zret hF (en_i H hE) hb (dAt tX8_isFeast_ok 4 rfl rfl) (by decide) (by decide)

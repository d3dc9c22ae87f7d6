/-! SilenceForMoney$Town -/
def X9_copyFrom_f (a : Nat) (r1 : Nat) (σ : Sig) : Option (Sig) := (cp 36 36 σ (r1 + 1) 0 (a + 1) 0 36).bind fun s1 => (cp 24 24 s1 (r1 + 2) 0 (a + 2) 0 24).bind fun s3 => (pI s3 a 2 (s3 r1 2)).bind fun s5 => (pI s5 a 3 (s5 r1 3)).bind fun s7 => (pI s7 a 4 (s7 r1 4)).bind fun s9 => (pI s9 a 5 (s9 r1 5)).bind fun s11 => (pI s11 a 6 (s11 r1 6)).bind fun s13 => some s13
set_option maxRecDepth 4000 in
set_option maxHeartbeats 1000000 in
theorem X9_copyFrom_ok {D : Nat} {τ : Tau} {nx : Nat} {a : Nat} {r1 : Nat} {σ : Sig} {res : Sig} (hD : 1 ≤ D) (hS : ShX9 τ a) (hr1 : ShX9 τ r1) (H : X9_copyFrom_f a r1 σ = some res) : Ok D 0 0 yX9_copyFrom cX9_copyFrom 2 none [.ref a, .ref r1] (τ, σ, nx) none (τ, res, nx) := by
  refine ok_of (by decide +kernel) rfl (Nat.le_of_ble_eq_true rfl) (fun K X hF hE hN L0 hL0 => ?_)
  obtain rfl : [some (.ref a), some (.ref r1)] = L0 := hL0
  have hF : Fx K X cX9_copyFrom 2 RX9 D 0 0 := hF
  refine g_p (S' := [.ref r1]) hF tX9_copyFrom_ok 0 1 rfl rfl rfl rfl ?_
  refine g_getR hF (dAt tX9_copyFrom_ok 1 rfl rfl) flX9_9 hr1.1 rfl ?_
  refine g_p (S' := [.ref a, .int 0, .ref (r1 + 1)]) hF tX9_copyFrom_ok 2 2 rfl rfl rfl rfl ?_
  refine g_getR hF (dAt tX9_copyFrom_ok 4 rfl rfl) flX9_9 hS.1 rfl ?_
  refine g_p (S' := [.ref a, .int 0, .ref (a + 1), .int 0, .ref (r1 + 1)]) hF tX9_copyFrom_ok 5 2 rfl rfl rfl rfl ?_
  refine g_getR hF (dAt tX9_copyFrom_ok 7 rfl rfl) flX9_9 hS.1 rfl ?_
  refine g_alen hF (dAt tX9_copyFrom_ok 8 rfl rfl) hS.2.1 rfl ?_
  obtain ⟨s1, e2, H⟩ := ob H
  refine g_copy hF mlX9_31 (dAt tX9_copyFrom_ok 9 rfl rfl) hr1.2.1 hS.2.1 e2 (by omega) (Nat.le_of_ble_eq_true rfl) ?_
  refine g_p (S' := [.ref r1]) hF tX9_copyFrom_ok 10 1 rfl rfl rfl rfl ?_
  refine g_getR hF (dAt tX9_copyFrom_ok 11 rfl rfl) flX9_15 hr1.1 rfl ?_
  refine g_p (S' := [.ref a, .int 0, .ref (r1 + 2)]) hF tX9_copyFrom_ok 12 2 rfl rfl rfl rfl ?_
  refine g_getR hF (dAt tX9_copyFrom_ok 14 rfl rfl) flX9_15 hS.1 rfl ?_
  refine g_p (S' := [.ref a, .int 0, .ref (a + 2), .int 0, .ref (r1 + 2)]) hF tX9_copyFrom_ok 15 2 rfl rfl rfl rfl ?_
  refine g_getR hF (dAt tX9_copyFrom_ok 17 rfl rfl) flX9_15 hS.1 rfl ?_
  refine g_alen hF (dAt tX9_copyFrom_ok 18 rfl rfl) hS.2.2 rfl ?_
  obtain ⟨s3, e4, H⟩ := ob H
  refine g_copy hF mlX9_31 (dAt tX9_copyFrom_ok 19 rfl rfl) hr1.2.2 hS.2.2 e4 (by omega) (Nat.le_of_ble_eq_true rfl) ?_
  refine g_p (S' := [.ref r1, .ref a]) hF tX9_copyFrom_ok 20 2 rfl rfl rfl rfl ?_
  refine g_getI hF (dAt tX9_copyFrom_ok 22 rfl rfl) flX9_18 hr1.1 rfl ?_
  obtain ⟨s5, e6, H⟩ := ob H
  refine g_pI hF (dAt tX9_copyFrom_ok 23 rfl rfl) flX9_18 (Or.inl rfl) hS.1 rfl e6 ?_
  refine g_p (S' := [.ref r1, .ref a]) hF tX9_copyFrom_ok 24 2 rfl rfl rfl rfl ?_
  refine g_getI hF (dAt tX9_copyFrom_ok 26 rfl rfl) flX9_22 hr1.1 rfl ?_
  obtain ⟨s7, e8, H⟩ := ob H
  refine g_pI hF (dAt tX9_copyFrom_ok 27 rfl rfl) flX9_22 (Or.inl rfl) hS.1 rfl e8 ?_
  refine g_p (S' := [.ref r1, .ref a]) hF tX9_copyFrom_ok 28 2 rfl rfl rfl rfl ?_
  refine g_getI hF (dAt tX9_copyFrom_ok 30 rfl rfl) flX9_37 hr1.1 rfl ?_
  obtain ⟨s9, e10, H⟩ := ob H
  refine g_pI hF (dAt tX9_copyFrom_ok 31 rfl rfl) flX9_37 (Or.inl rfl) hS.1 rfl e10 ?_
  refine g_p (S' := [.ref r1, .ref a]) hF tX9_copyFrom_ok 32 2 rfl rfl rfl rfl ?_
  refine g_getI hF (dAt tX9_copyFrom_ok 34 rfl rfl) flX9_40 hr1.1 rfl ?_
  obtain ⟨s11, e12, H⟩ := ob H
  refine g_pI hF (dAt tX9_copyFrom_ok 35 rfl rfl) flX9_40 (Or.inl rfl) hS.1 rfl e12 ?_
  refine g_p (S' := [.ref r1, .ref a]) hF tX9_copyFrom_ok 36 2 rfl rfl rfl rfl ?_
  refine g_getI hF (dAt tX9_copyFrom_ok 38 rfl rfl) flX9_43 hr1.1 rfl ?_
  obtain ⟨s13, e14, H⟩ := ob H
  refine g_pI hF (dAt tX9_copyFrom_ok 39 rfl rfl) flX9_43 (Or.inl rfl) hS.1 rfl e14 ?_
  exact g_vret hF (en_v H hE) (dAt tX9_copyFrom_ok 40 rfl rfl) (by decide) (by decide)
def X9_putWall_f (a : Nat) (x1 x2 x3 : Int32) (σ : Sig) : Option (Sig) := (st 36 σ (a + 1) ((x1 * 6) + x2) x3).bind fun s1 => (st 36 s1 (a + 1) ((x2 * 6) + x1) x3).bind fun s3 => some s3
set_option maxRecDepth 4000 in
set_option maxHeartbeats 1000000 in
theorem X9_putWall_ok {D : Nat} {τ : Tau} {nx : Nat} {a : Nat} {x1 x2 x3 : Int32} {σ : Sig} {res : Sig} (hD : 1 ≤ D) (hS : ShX9 τ a) (H : X9_putWall_f a x1 x2 x3 σ = some res) : Ok D 0 0 yX9_putWall cX9_putWall 4 none [.ref a, .int x1, .int x2, .int x3] (τ, σ, nx) none (τ, res, nx) := by
  refine ok_of (by decide +kernel) rfl (Nat.le_of_ble_eq_true rfl) (fun K X hF hE hN L0 hL0 => ?_)
  obtain rfl : [some (.ref a), some (.int x1), some (.int x2), some (.int x3)] = L0 := hL0
  have hF : Fx K X cX9_putWall 4 RX9 D 0 0 := hF
  refine g_p (S' := [.ref a]) hF tX9_putWall_ok 0 1 rfl rfl rfl rfl ?_
  refine g_getR hF (dAt tX9_putWall_ok 1 rfl rfl) flX9_9 hS.1 rfl ?_
  refine g_p (S' := [.int x3, .int ((x1 * 6) + x2), .ref (a + 1)]) hF tX9_putWall_ok 2 6 rfl rfl rfl rfl ?_
  obtain ⟨s1, e2, H⟩ := ob H
  refine g_ist hF (dAt tX9_putWall_ok 8 rfl rfl) hS.2.1 e2 ?_
  refine g_p (S' := [.ref a]) hF tX9_putWall_ok 9 1 rfl rfl rfl rfl ?_
  refine g_getR hF (dAt tX9_putWall_ok 10 rfl rfl) flX9_9 hS.1 rfl ?_
  refine g_p (S' := [.int x3, .int ((x2 * 6) + x1), .ref (a + 1)]) hF tX9_putWall_ok 11 6 rfl rfl rfl rfl ?_
  obtain ⟨s3, e4, H⟩ := ob H
  refine g_ist hF (dAt tX9_putWall_ok 17 rfl rfl) hS.2.1 e4 ?_
  exact g_vret hF (en_v H hE) (dAt tX9_putWall_ok 18 rfl rfl) (by decide) (by decide)
def X9_wallBetween_f (a : Nat) (x1 x2 : Int32) (σ : Sig) : Option (Int32) := if ((x1 * 6) + x2) < 0 then (some 0) else (if 36 ≤ ((x1 * 6) + x2) then (some 0) else ((ld 36 (σ (a + 1)) ((x1 * 6) + x2)).bind fun v3 => some v3))
set_option maxRecDepth 4000 in
set_option maxHeartbeats 1000000 in
theorem X9_wallBetween_ok {D : Nat} {τ : Tau} {nx : Nat} {a : Nat} {x1 x2 : Int32} {σ : Sig} {res : Int32} (hD : 1 ≤ D) (hS : ShX9 τ a) (H : X9_wallBetween_f a x1 x2 σ = some res) : Ok D 0 0 yX9_wallBetween cX9_wallBetween 4 (some .int) [.ref a, .int x1, .int x2] (τ, σ, nx) (some (.int res)) (τ, σ, nx) := by
  refine ok_of (by decide +kernel) rfl (Nat.le_of_ble_eq_true rfl) (fun K X hF hE hN L0 hL0 => ?_)
  obtain rfl : [some (.ref a), some (.int x1), some (.int x2), none] = L0 := hL0
  have hF : Fx K X cX9_wallBetween 4 RX9 D 0 0 := hF
  refine g_p (L' := [some (.ref a), some (.int x1), some (.int x2), some (.int ((x1 * 6) + x2))]) (S' := [.int ((x1 * 6) + x2)]) hF tX9_wallBetween_ok 0 7 rfl rfl rfl rfl ?_
  obtain ⟨Ht1, Hf1⟩ := oi H
  refine g_if_lt hF (dAt tX9_wallBetween_ok 7 rfl rfl) rfl (fun c1 => ?_) (fun c1 => ?_)
  · have H := Ht1 c1
    refine g_p (S' := [.int 0]) hF tX9_wallBetween_ok 18 1 rfl rfl rfl rfl ?_
    exact g_iret hF (en_i H hE) (dAt tX9_wallBetween_ok 19 rfl rfl) (by decide) (by decide)
  · have H := Hf1 c1
    refine g_p (S' := [.ref a, .int ((x1 * 6) + x2)]) hF tX9_wallBetween_ok 8 2 rfl rfl rfl rfl ?_
    refine g_getR hF (dAt tX9_wallBetween_ok 10 rfl rfl) flX9_9 hS.1 rfl ?_
    refine g_alen hF (dAt tX9_wallBetween_ok 11 rfl rfl) hS.2.1 rfl ?_
    obtain ⟨Ht2, Hf2⟩ := oi H
    refine g_icmp_ge hF (dAt tX9_wallBetween_ok 12 rfl rfl) rfl (fun c2 => ?_) (fun c2 => ?_)
    · have H := Ht2 c2
      refine g_p (S' := [.int 0]) hF tX9_wallBetween_ok 18 1 rfl rfl rfl rfl ?_
      exact g_iret hF (en_i H hE) (dAt tX9_wallBetween_ok 19 rfl rfl) (by decide) (by decide)
    · have H := Hf2 c2
      refine g_p (S' := [.ref a]) hF tX9_wallBetween_ok 13 1 rfl rfl rfl rfl ?_
      refine g_getR hF (dAt tX9_wallBetween_ok 14 rfl rfl) flX9_9 hS.1 rfl ?_
      refine g_p (S' := [.int ((x1 * 6) + x2), .ref (a + 1)]) hF tX9_wallBetween_ok 15 1 rfl rfl rfl rfl ?_
      obtain ⟨v3, e4, H⟩ := ob H
      refine g_ild hF (dAt tX9_wallBetween_ok 16 rfl rfl) hS.2.1 e4 ?_
      refine g_goto hF (dAt tX9_wallBetween_ok 17 rfl rfl) rfl ?_
      exact g_iret hF (en_i H hE) (dAt tX9_wallBetween_ok 19 rfl rfl) (by decide) (by decide)
def X9_placeAt_f (a : Nat) (x1 : Int32) (σ : Sig) : Option (Int32) := if x1 < 0 then (some 0) else (if 24 ≤ x1 then (some 0) else ((ld 24 (σ (a + 2)) x1).bind fun v3 => some v3))
set_option maxRecDepth 4000 in
set_option maxHeartbeats 1000000 in
theorem X9_placeAt_ok {D : Nat} {τ : Tau} {nx : Nat} {a : Nat} {x1 : Int32} {σ : Sig} {res : Int32} (hD : 1 ≤ D) (hS : ShX9 τ a) (H : X9_placeAt_f a x1 σ = some res) : Ok D 0 0 yX9_placeAt cX9_placeAt 2 (some .int) [.ref a, .int x1] (τ, σ, nx) (some (.int res)) (τ, σ, nx) := by
  refine ok_of (by decide +kernel) rfl (Nat.le_of_ble_eq_true rfl) (fun K X hF hE hN L0 hL0 => ?_)
  obtain rfl : [some (.ref a), some (.int x1)] = L0 := hL0
  have hF : Fx K X cX9_placeAt 2 RX9 D 0 0 := hF
  refine g_p (S' := [.int x1]) hF tX9_placeAt_ok 0 1 rfl rfl rfl rfl ?_
  obtain ⟨Ht1, Hf1⟩ := oi H
  refine g_if_lt hF (dAt tX9_placeAt_ok 1 rfl rfl) rfl (fun c1 => ?_) (fun c1 => ?_)
  · have H := Ht1 c1
    refine g_p (S' := [.int 0]) hF tX9_placeAt_ok 12 1 rfl rfl rfl rfl ?_
    exact g_iret hF (en_i H hE) (dAt tX9_placeAt_ok 13 rfl rfl) (by decide) (by decide)
  · have H := Hf1 c1
    refine g_p (S' := [.ref a, .int x1]) hF tX9_placeAt_ok 2 2 rfl rfl rfl rfl ?_
    refine g_getR hF (dAt tX9_placeAt_ok 4 rfl rfl) flX9_15 hS.1 rfl ?_
    refine g_alen hF (dAt tX9_placeAt_ok 5 rfl rfl) hS.2.2 rfl ?_
    obtain ⟨Ht2, Hf2⟩ := oi H
    refine g_icmp_ge hF (dAt tX9_placeAt_ok 6 rfl rfl) rfl (fun c2 => ?_) (fun c2 => ?_)
    · have H := Ht2 c2
      refine g_p (S' := [.int 0]) hF tX9_placeAt_ok 12 1 rfl rfl rfl rfl ?_
      exact g_iret hF (en_i H hE) (dAt tX9_placeAt_ok 13 rfl rfl) (by decide) (by decide)
    · have H := Hf2 c2
      refine g_p (S' := [.ref a]) hF tX9_placeAt_ok 7 1 rfl rfl rfl rfl ?_
      refine g_getR hF (dAt tX9_placeAt_ok 8 rfl rfl) flX9_15 hS.1 rfl ?_
      refine g_p (S' := [.int x1, .ref (a + 2)]) hF tX9_placeAt_ok 9 1 rfl rfl rfl rfl ?_
      obtain ⟨v3, e4, H⟩ := ob H
      refine g_ild hF (dAt tX9_placeAt_ok 10 rfl rfl) hS.2.2 e4 ?_
      refine g_goto hF (dAt tX9_placeAt_ok 11 rfl rfl) rfl ?_
      exact g_iret hF (en_i H hE) (dAt tX9_placeAt_ok 13 rfl rfl) (by decide) (by decide)

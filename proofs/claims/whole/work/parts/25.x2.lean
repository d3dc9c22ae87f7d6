/-! SilenceForMoney$Book -/
def X2_copyFrom_f (a : Nat) (M : Nat) (r1 : Nat) (M1 : Nat) (σ : Sig) : Option (Sig) := (pI σ a 2 (mmin (σ r1 2) (σ a 0))).bind fun s1 => (cp M1 M s1 (r1 + 1) 0 (a + 1) 0 ((s1 a 2) * 5)).bind fun s3 => (pI s3 a 3 (s3 r1 3)).bind fun s5 => (pI s5 a 4 (s5 r1 4)).bind fun s7 => (pI s7 a 5 (s7 r1 5)).bind fun s9 => (pI s9 a 6 (s9 r1 6)).bind fun s11 => some s11
set_option maxRecDepth 4000 in
set_option maxHeartbeats 1000000 in
theorem X2_copyFrom_ok {D : Nat} {τ : Tau} {nx : Nat} {a : Nat} {M : Nat} {r1 : Nat} {M1 : Nat} {σ : Sig} {res : Sig} (hD : 1 ≤ D) (hS : ShX2 τ a M) (hr1 : ShX2 τ r1 M1) (H : X2_copyFrom_f a M r1 M1 σ = some res) : Ok D 0 0 yX2_copyFrom cX2_copyFrom 2 none [.ref a, .ref r1] (τ, σ, nx) none (τ, res, nx) := by
  refine ok_of (by decide +kernel) rfl (Nat.le_of_ble_eq_true rfl) (fun K X hF hE hN L0 hL0 => ?_)
  obtain rfl : [some (.ref a), some (.ref r1)] = L0 := hL0
  have hF : Fx K X cX2_copyFrom 2 RX2 D 0 0 := hF
  refine g_p (S' := [.ref r1, .ref a]) hF tX2_copyFrom_ok 0 2 rfl rfl rfl rfl ?_
  refine g_getI hF (dAt tX2_copyFrom_ok 2 rfl rfl) flX2_28 hr1.1 rfl ?_
  refine g_p (S' := [.ref a, .int (σ r1 2), .ref a]) hF tX2_copyFrom_ok 3 1 rfl rfl rfl rfl ?_
  refine g_getI hF (dAt tX2_copyFrom_ok 4 rfl rfl) flX2_18 hS.1 rfl ?_
  refine g_mmin hF mlX2_9 (dAt tX2_copyFrom_ok 5 rfl rfl) (by omega) (Nat.le_of_ble_eq_true rfl) (by decide) (by decide) ?_
  obtain ⟨s1, e2, H⟩ := ob H
  refine g_pI hF (dAt tX2_copyFrom_ok 6 rfl rfl) flX2_28 (Or.inl rfl) hS.1 rfl e2 ?_
  refine g_p (S' := [.ref r1]) hF tX2_copyFrom_ok 7 1 rfl rfl rfl rfl ?_
  refine g_getR hF (dAt tX2_copyFrom_ok 8 rfl rfl) flX2_24 hr1.1 rfl ?_
  refine g_p (S' := [.ref a, .int 0, .ref (r1 + 1)]) hF tX2_copyFrom_ok 9 2 rfl rfl rfl rfl ?_
  refine g_getR hF (dAt tX2_copyFrom_ok 11 rfl rfl) flX2_24 hS.1 rfl ?_
  refine g_p (S' := [.ref a, .int 0, .ref (a + 1), .int 0, .ref (r1 + 1)]) hF tX2_copyFrom_ok 12 2 rfl rfl rfl rfl ?_
  refine g_getI hF (dAt tX2_copyFrom_ok 14 rfl rfl) flX2_28 hS.1 rfl ?_
  refine g_p (S' := [.int ((s1 a 2) * 5), .int 0, .ref (a + 1), .int 0, .ref (r1 + 1)]) hF tX2_copyFrom_ok 15 2 rfl rfl rfl rfl ?_
  obtain ⟨s3, e4, H⟩ := ob H
  refine g_copy hF mlX2_31 (dAt tX2_copyFrom_ok 17 rfl rfl) hr1.2 hS.2 e4 (by omega) (Nat.le_of_ble_eq_true rfl) ?_
  refine g_p (S' := [.ref r1, .ref a]) hF tX2_copyFrom_ok 18 2 rfl rfl rfl rfl ?_
  refine g_getI hF (dAt tX2_copyFrom_ok 20 rfl rfl) flX2_37 hr1.1 rfl ?_
  obtain ⟨s5, e6, H⟩ := ob H
  refine g_pI hF (dAt tX2_copyFrom_ok 21 rfl rfl) flX2_37 (Or.inl rfl) hS.1 rfl e6 ?_
  refine g_p (S' := [.ref r1, .ref a]) hF tX2_copyFrom_ok 22 2 rfl rfl rfl rfl ?_
  refine g_getI hF (dAt tX2_copyFrom_ok 24 rfl rfl) flX2_40 hr1.1 rfl ?_
  obtain ⟨s7, e8, H⟩ := ob H
  refine g_pI hF (dAt tX2_copyFrom_ok 25 rfl rfl) flX2_40 (Or.inl rfl) hS.1 rfl e8 ?_
  refine g_p (S' := [.ref r1, .ref a]) hF tX2_copyFrom_ok 26 2 rfl rfl rfl rfl ?_
  refine g_getI hF (dAt tX2_copyFrom_ok 28 rfl rfl) flX2_43 hr1.1 rfl ?_
  obtain ⟨s9, e10, H⟩ := ob H
  refine g_pI hF (dAt tX2_copyFrom_ok 29 rfl rfl) flX2_43 (Or.inl rfl) hS.1 rfl e10 ?_
  refine g_p (S' := [.ref r1, .ref a]) hF tX2_copyFrom_ok 30 2 rfl rfl rfl rfl ?_
  refine g_getI hF (dAt tX2_copyFrom_ok 32 rfl rfl) flX2_46 hr1.1 rfl ?_
  obtain ⟨s11, e12, H⟩ := ob H
  refine g_pI hF (dAt tX2_copyFrom_ok 33 rfl rfl) flX2_46 (Or.inl rfl) hS.1 rfl e12 ?_
  exact g_vret hF (en_v H hE) (dAt tX2_copyFrom_ok 34 rfl rfl) (by decide) (by decide)
def X2_write_f (a : Nat) (M : Nat) (r1 : Nat) (x2 x3 x4 : Int32) (σ : Sig) : Option (Sig) := if (σ a 2) < (σ a 0) then ((st M σ (a + 1) ((σ a 2) * 5) (σ r1 1)).bind fun s2 => (st M s2 (a + 1) (((σ a 2) * 5) + 1) (s2 r1 2)).bind fun s4 => (st M s4 (a + 1) (((σ a 2) * 5) + 2) x2).bind fun s6 => (st M s6 (a + 1) (((σ a 2) * 5) + 3) x3).bind fun s8 => (st M s8 (a + 1) (((σ a 2) * 5) + 4) x4).bind fun s10 => (pI s10 a 2 ((s10 a 2) + 1)).bind fun s12 => some s12) else (some σ)
set_option maxRecDepth 4000 in
set_option maxHeartbeats 1000000 in
theorem X2_write_ok {D : Nat} {τ : Tau} {nx : Nat} {a : Nat} {M : Nat} {r1 : Nat} {x2 x3 x4 : Int32} {σ : Sig} {res : Sig} (hD : 1 ≤ D) (hS : ShX2 τ a M) (hr1 : ShX8 τ r1) (H : X2_write_f a M r1 x2 x3 x4 σ = some res) : Ok D 0 0 yX2_write cX2_write 6 none [.ref a, .ref r1, .int x2, .int x3, .int x4] (τ, σ, nx) none (τ, res, nx) := by
  refine ok_of (by decide +kernel) rfl (Nat.le_of_ble_eq_true rfl) (fun K X hF hE hN L0 hL0 => ?_)
  obtain rfl : [some (.ref a), some (.ref r1), some (.int x2), some (.int x3), some (.int x4), none] = L0 := hL0
  have hF : Fx K X cX2_write 6 RX2 D 0 0 := hF
  refine g_p (S' := [.ref a]) hF tX2_write_ok 0 1 rfl rfl rfl rfl ?_
  refine g_getI hF (dAt tX2_write_ok 1 rfl rfl) flX2_28 hS.1 rfl ?_
  refine g_p (S' := [.ref a, .int (σ a 2)]) hF tX2_write_ok 2 1 rfl rfl rfl rfl ?_
  refine g_getI hF (dAt tX2_write_ok 3 rfl rfl) flX2_18 hS.1 rfl ?_
  obtain ⟨Ht1, Hf1⟩ := oi H
  refine g_icmp_lt hF (dAt tX2_write_ok 4 rfl rfl) rfl (fun c1 => ?_) (fun c1 => ?_)
  · have H := Ht1 c1
    refine g_p (S' := [.ref a]) hF tX2_write_ok 6 1 rfl rfl rfl rfl ?_
    refine g_getI hF (dAt tX2_write_ok 7 rfl rfl) flX2_28 hS.1 rfl ?_
    refine g_p (L' := [some (.ref a), some (.ref r1), some (.int x2), some (.int x3), some (.int x4), some (.int ((σ a 2) * 5))]) (S' := [.ref a]) hF tX2_write_ok 8 4 rfl rfl rfl rfl ?_
    refine g_getR hF (dAt tX2_write_ok 12 rfl rfl) flX2_24 hS.1 rfl ?_
    refine g_p (S' := [.ref r1, .int ((σ a 2) * 5), .ref (a + 1)]) hF tX2_write_ok 13 2 rfl rfl rfl rfl ?_
    refine g_getI hF (dAt tX2_write_ok 15 rfl rfl) flX2_49 hr1 rfl ?_
    obtain ⟨s2, e3, H⟩ := ob H
    refine g_ist hF (dAt tX2_write_ok 16 rfl rfl) hS.2 e3 ?_
    refine g_p (S' := [.ref a]) hF tX2_write_ok 17 1 rfl rfl rfl rfl ?_
    refine g_getR hF (dAt tX2_write_ok 18 rfl rfl) flX2_24 hS.1 rfl ?_
    refine g_p (S' := [.ref r1, .int (((σ a 2) * 5) + 1), .ref (a + 1)]) hF tX2_write_ok 19 4 rfl rfl rfl rfl ?_
    refine g_getI hF (dAt tX2_write_ok 23 rfl rfl) flX2_54 hr1 rfl ?_
    obtain ⟨s4, e5, H⟩ := ob H
    refine g_ist hF (dAt tX2_write_ok 24 rfl rfl) hS.2 e5 ?_
    refine g_p (S' := [.ref a]) hF tX2_write_ok 25 1 rfl rfl rfl rfl ?_
    refine g_getR hF (dAt tX2_write_ok 26 rfl rfl) flX2_24 hS.1 rfl ?_
    refine g_p (S' := [.int x2, .int (((σ a 2) * 5) + 2), .ref (a + 1)]) hF tX2_write_ok 27 4 rfl rfl rfl rfl ?_
    obtain ⟨s6, e7, H⟩ := ob H
    refine g_ist hF (dAt tX2_write_ok 31 rfl rfl) hS.2 e7 ?_
    refine g_p (S' := [.ref a]) hF tX2_write_ok 32 1 rfl rfl rfl rfl ?_
    refine g_getR hF (dAt tX2_write_ok 33 rfl rfl) flX2_24 hS.1 rfl ?_
    refine g_p (S' := [.int x3, .int (((σ a 2) * 5) + 3), .ref (a + 1)]) hF tX2_write_ok 34 4 rfl rfl rfl rfl ?_
    obtain ⟨s8, e9, H⟩ := ob H
    refine g_ist hF (dAt tX2_write_ok 38 rfl rfl) hS.2 e9 ?_
    refine g_p (S' := [.ref a]) hF tX2_write_ok 39 1 rfl rfl rfl rfl ?_
    refine g_getR hF (dAt tX2_write_ok 40 rfl rfl) flX2_24 hS.1 rfl ?_
    refine g_p (S' := [.int x4, .int (((σ a 2) * 5) + 4), .ref (a + 1)]) hF tX2_write_ok 41 4 rfl rfl rfl rfl ?_
    obtain ⟨s10, e11, H⟩ := ob H
    refine g_ist hF (dAt tX2_write_ok 45 rfl rfl) hS.2 e11 ?_
    refine g_p (S' := [.ref a, .ref a]) hF tX2_write_ok 46 2 rfl rfl rfl rfl ?_
    refine g_getI hF (dAt tX2_write_ok 48 rfl rfl) flX2_28 hS.1 rfl ?_
    refine g_p (S' := [.int ((s10 a 2) + 1), .ref a]) hF tX2_write_ok 49 2 rfl rfl rfl rfl ?_
    obtain ⟨s12, e13, H⟩ := ob H
    refine g_pI hF (dAt tX2_write_ok 51 rfl rfl) flX2_28 (Or.inl rfl) hS.1 rfl e13 ?_
    exact g_vret hF (en_v H hE) (dAt tX2_write_ok 52 rfl rfl) (by decide) (by decide)
  · have H := Hf1 c1
    exact g_vret hF (en_v H hE) (dAt tX2_write_ok 5 rfl rfl) (by decide) (by decide)
def X2_isBetterThan_f (a : Nat) (M : Nat) (x1 x2 : Int32) (σ : Sig) : Option (Int32) := if (σ a 3) = x1 then (if x2 ≤ (σ a 4) then (some 0) else (some 1)) else (if (σ a 3) ≤ x1 then (some 0) else (some 1))
set_option maxRecDepth 4000 in
set_option maxHeartbeats 1000000 in
theorem X2_isBetterThan_ok {D : Nat} {τ : Tau} {nx : Nat} {a : Nat} {M : Nat} {x1 x2 : Int32} {σ : Sig} {res : Int32} (hD : 1 ≤ D) (hS : ShX2 τ a M) (H : X2_isBetterThan_f a M x1 x2 σ = some res) : Ok D 0 0 yX2_isBetterThan cX2_isBetterThan 3 (some .boolean) [.ref a, .int x1, .int x2] (τ, σ, nx) (some (.int res)) (τ, σ, nx) := by
  refine ok_of (by decide +kernel) rfl (Nat.le_of_ble_eq_true rfl) (fun K X hF hE hN L0 hL0 => ?_)
  obtain rfl : [some (.ref a), some (.int x1), some (.int x2)] = L0 := hL0
  have hF : Fx K X cX2_isBetterThan 3 RX2 D 0 0 := hF
  refine g_p (S' := [.ref a]) hF tX2_isBetterThan_ok 0 1 rfl rfl rfl rfl ?_
  refine g_getI hF (dAt tX2_isBetterThan_ok 1 rfl rfl) flX2_37 hS.1 rfl ?_
  refine g_p (S' := [.int x1, .int (σ a 3)]) hF tX2_isBetterThan_ok 2 1 rfl rfl rfl rfl ?_
  obtain ⟨Ht1, Hf1⟩ := oi H
  refine g_icmp_ne hF (dAt tX2_isBetterThan_ok 3 rfl rfl) rfl (fun c1 => ?_) (fun c1 => ?_)
  · have H := Hf1 c1
    refine g_p (S' := [.ref a]) hF tX2_isBetterThan_ok 12 1 rfl rfl rfl rfl ?_
    refine g_getI hF (dAt tX2_isBetterThan_ok 13 rfl rfl) flX2_37 hS.1 rfl ?_
    refine g_p (S' := [.int x1, .int (σ a 3)]) hF tX2_isBetterThan_ok 14 1 rfl rfl rfl rfl ?_
    obtain ⟨Ht2, Hf2⟩ := oi H
    refine g_icmp_le hF (dAt tX2_isBetterThan_ok 15 rfl rfl) rfl (fun c2 => ?_) (fun c2 => ?_)
    · have H := Ht2 c2
      refine g_p (S' := [.int 0]) hF tX2_isBetterThan_ok 18 1 rfl rfl rfl rfl ?_
      exact g_zret hF (en_i H hE) (Or.inl rfl) (dAt tX2_isBetterThan_ok 19 rfl rfl) (by decide) (by decide)
    · have H := Hf2 c2
      refine g_p (S' := [.int 1]) hF tX2_isBetterThan_ok 16 1 rfl rfl rfl rfl ?_
      refine g_goto hF (dAt tX2_isBetterThan_ok 17 rfl rfl) rfl ?_
      exact g_zret hF (en_i H hE) (Or.inr rfl) (dAt tX2_isBetterThan_ok 19 rfl rfl) (by decide) (by decide)
  · have H := Ht1 c1
    refine g_p (S' := [.ref a]) hF tX2_isBetterThan_ok 4 1 rfl rfl rfl rfl ?_
    refine g_getI hF (dAt tX2_isBetterThan_ok 5 rfl rfl) flX2_40 hS.1 rfl ?_
    refine g_p (S' := [.int x2, .int (σ a 4)]) hF tX2_isBetterThan_ok 6 1 rfl rfl rfl rfl ?_
    obtain ⟨Ht3, Hf3⟩ := oi H
    refine g_icmp_ge hF (dAt tX2_isBetterThan_ok 7 rfl rfl) rfl (fun c3 => ?_) (fun c3 => ?_)
    · have H := Ht3 c3
      refine g_p (S' := [.int 0]) hF tX2_isBetterThan_ok 10 1 rfl rfl rfl rfl ?_
      refine g_goto hF (dAt tX2_isBetterThan_ok 11 rfl rfl) rfl ?_
      exact g_zret hF (en_i H hE) (Or.inl rfl) (dAt tX2_isBetterThan_ok 19 rfl rfl) (by decide) (by decide)
    · have H := Hf3 c3
      refine g_p (S' := [.int 1]) hF tX2_isBetterThan_ok 8 1 rfl rfl rfl rfl ?_
      refine g_goto hF (dAt tX2_isBetterThan_ok 9 rfl rfl) rfl ?_
      exact g_zret hF (en_i H hE) (Or.inr rfl) (dAt tX2_isBetterThan_ok 19 rfl rfl) (by decide) (by decide)
def X2_countOf_f (a : Nat) (M : Nat) (x1 : Int32) (σ : Sig) : Option (Int32) := if x1 = 0 then (some (σ a 3)) else if x1 = 1 then (some (σ a 4)) else if x1 = 2 then (some (σ a 5)) else (some (σ a 6))
set_option maxRecDepth 4000 in
set_option maxHeartbeats 1000000 in
theorem X2_countOf_ok {D : Nat} {τ : Tau} {nx : Nat} {a : Nat} {M : Nat} {x1 : Int32} {σ : Sig} {res : Int32} (hD : 1 ≤ D) (hS : ShX2 τ a M) (H : X2_countOf_f a M x1 σ = some res) : Ok D 0 0 yX2_countOf cX2_countOf 2 (some .int) [.ref a, .int x1] (τ, σ, nx) (some (.int res)) (τ, σ, nx) := by
  refine ok_of (by decide +kernel) rfl (Nat.le_of_ble_eq_true rfl) (fun K X hF hE hN L0 hL0 => ?_)
  obtain rfl : [some (.ref a), some (.int x1)] = L0 := hL0
  have hF : Fx K X cX2_countOf 2 RX2 D 0 0 := hF
  refine g_p (S' := [.int x1]) hF tX2_countOf_ok 0 1 rfl rfl rfl rfl ?_
  obtain ⟨Ht1_0, Hf1_0⟩ := oi H
  by_cases c1_0 : x1 = 0
  · have H := Ht1_0 c1_0
    refine g_tsw (c := 0) hF (dAt tX2_countOf_ok 1 rfl rfl) c1_0 (by decide) (by decide) rfl rfl ?_
    refine g_p (S' := [.ref a]) hF tX2_countOf_ok 2 1 rfl rfl rfl rfl ?_
    refine g_getI hF (dAt tX2_countOf_ok 3 rfl rfl) flX2_37 hS.1 rfl ?_
    exact g_iret hF (en_i H hE) (dAt tX2_countOf_ok 4 rfl rfl) (by decide) (by decide)
  have H := Hf1_0 c1_0
  obtain ⟨Ht1_1, Hf1_1⟩ := oi H
  by_cases c1_1 : x1 = 1
  · have H := Ht1_1 c1_1
    refine g_tsw (c := 1) hF (dAt tX2_countOf_ok 1 rfl rfl) c1_1 (by decide) (by decide) rfl rfl ?_
    refine g_p (S' := [.ref a]) hF tX2_countOf_ok 5 1 rfl rfl rfl rfl ?_
    refine g_getI hF (dAt tX2_countOf_ok 6 rfl rfl) flX2_40 hS.1 rfl ?_
    exact g_iret hF (en_i H hE) (dAt tX2_countOf_ok 7 rfl rfl) (by decide) (by decide)
  have H := Hf1_1 c1_1
  obtain ⟨Ht1_2, Hf1_2⟩ := oi H
  by_cases c1_2 : x1 = 2
  · have H := Ht1_2 c1_2
    refine g_tsw (c := 2) hF (dAt tX2_countOf_ok 1 rfl rfl) c1_2 (by decide) (by decide) rfl rfl ?_
    refine g_p (S' := [.ref a]) hF tX2_countOf_ok 8 1 rfl rfl rfl rfl ?_
    refine g_getI hF (dAt tX2_countOf_ok 9 rfl rfl) flX2_43 hS.1 rfl ?_
    exact g_iret hF (en_i H hE) (dAt tX2_countOf_ok 10 rfl rfl) (by decide) (by decide)
  have H := Hf1_2 c1_2
  refine g_tswD hF (dAt tX2_countOf_ok 1 rfl rfl) (tsw_l 0 2 3 [0, 1, 2] (al1 c1_0 (al1 c1_1 (al1 c1_2 al0))) (by decide) (by decide)) rfl ?_
  refine g_p (S' := [.ref a]) hF tX2_countOf_ok 11 1 rfl rfl rfl rfl ?_
  refine g_getI hF (dAt tX2_countOf_ok 12 rfl rfl) flX2_46 hS.1 rfl ?_
  exact g_iret hF (en_i H hE) (dAt tX2_countOf_ok 13 rfl rfl) (by decide) (by decide)

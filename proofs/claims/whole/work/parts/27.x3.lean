/-! SilenceForMoney$Debts -/
def X3_copyFrom_f (a : Nat) (r1 : Nat) (σ : Sig) : Option (Sig) := (pI σ a 0 (σ r1 0)).bind fun s1 => (cp 40 40 s1 (r1 + 1) 0 (a + 1) 0 40).bind fun s3 => (cp 40 40 s3 (r1 + 2) 0 (a + 2) 0 40).bind fun s5 => (cp 40 40 s5 (r1 + 3) 0 (a + 3) 0 40).bind fun s7 => (cp 40 40 s7 (r1 + 4) 0 (a + 4) 0 40).bind fun s9 => (cp 40 40 s9 (r1 + 5) 0 (a + 5) 0 40).bind fun s11 => (cp 40 40 s11 (r1 + 6) 0 (a + 6) 0 40).bind fun s13 => (cp 40 40 s13 (r1 + 7) 0 (a + 7) 0 40).bind fun s15 => some s15
set_option maxRecDepth 4000 in
set_option maxHeartbeats 1000000 in
theorem X3_copyFrom_ok {D : Nat} {τ : Tau} {nx : Nat} {a : Nat} {r1 : Nat} {σ : Sig} {res : Sig} (hD : 1 ≤ D) (hS : ShX3 τ a) (hr1 : ShX3 τ r1) (H : X3_copyFrom_f a r1 σ = some res) : Ok D 0 0 yX3_copyFrom cX3_copyFrom 2 none [.ref a, .ref r1] (τ, σ, nx) none (τ, res, nx) := by
  refine ok_of (by decide +kernel) rfl (Nat.le_of_ble_eq_true rfl) (fun K X hF hE hN L0 hL0 => ?_)
  obtain rfl : [some (.ref a), some (.ref r1)] = L0 := hL0
  have hF : Fx K X cX3_copyFrom 2 RX3 D 0 0 := hF
  refine g_p (S' := [.ref r1, .ref a]) hF tX3_copyFrom_ok 0 2 rfl rfl rfl rfl ?_
  refine g_getI hF (dAt tX3_copyFrom_ok 2 rfl rfl) flX3_42 hr1.1 rfl ?_
  obtain ⟨s1, e2, H⟩ := ob H
  refine g_pI hF (dAt tX3_copyFrom_ok 3 rfl rfl) flX3_42 (Or.inl rfl) hS.1 rfl e2 ?_
  refine g_p (S' := [.ref r1]) hF tX3_copyFrom_ok 4 1 rfl rfl rfl rfl ?_
  refine g_getR hF (dAt tX3_copyFrom_ok 5 rfl rfl) flX3_9 hr1.1 rfl ?_
  refine g_p (S' := [.ref a, .int 0, .ref (r1 + 1)]) hF tX3_copyFrom_ok 6 2 rfl rfl rfl rfl ?_
  refine g_getR hF (dAt tX3_copyFrom_ok 8 rfl rfl) flX3_9 hS.1 rfl ?_
  refine g_p (S' := [.int 40, .int 0, .ref (a + 1), .int 0, .ref (r1 + 1)]) hF tX3_copyFrom_ok 9 2 rfl rfl rfl rfl ?_
  obtain ⟨s3, e4, H⟩ := ob H
  refine g_copy hF mlX3_46 (dAt tX3_copyFrom_ok 11 rfl rfl) hr1.2.1 hS.2.1 e4 (by omega) (Nat.le_of_ble_eq_true rfl) ?_
  refine g_p (S' := [.ref r1]) hF tX3_copyFrom_ok 12 1 rfl rfl rfl rfl ?_
  refine g_getR hF (dAt tX3_copyFrom_ok 13 rfl rfl) flX3_15 hr1.1 rfl ?_
  refine g_p (S' := [.ref a, .int 0, .ref (r1 + 2)]) hF tX3_copyFrom_ok 14 2 rfl rfl rfl rfl ?_
  refine g_getR hF (dAt tX3_copyFrom_ok 16 rfl rfl) flX3_15 hS.1 rfl ?_
  refine g_p (S' := [.int 40, .int 0, .ref (a + 2), .int 0, .ref (r1 + 2)]) hF tX3_copyFrom_ok 17 2 rfl rfl rfl rfl ?_
  obtain ⟨s5, e6, H⟩ := ob H
  refine g_copy hF mlX3_46 (dAt tX3_copyFrom_ok 19 rfl rfl) hr1.2.2.1 hS.2.2.1 e6 (by omega) (Nat.le_of_ble_eq_true rfl) ?_
  refine g_p (S' := [.ref r1]) hF tX3_copyFrom_ok 20 1 rfl rfl rfl rfl ?_
  refine g_getR hF (dAt tX3_copyFrom_ok 21 rfl rfl) flX3_18 hr1.1 rfl ?_
  refine g_p (S' := [.ref a, .int 0, .ref (r1 + 3)]) hF tX3_copyFrom_ok 22 2 rfl rfl rfl rfl ?_
  refine g_getR hF (dAt tX3_copyFrom_ok 24 rfl rfl) flX3_18 hS.1 rfl ?_
  refine g_p (S' := [.int 40, .int 0, .ref (a + 3), .int 0, .ref (r1 + 3)]) hF tX3_copyFrom_ok 25 2 rfl rfl rfl rfl ?_
  obtain ⟨s7, e8, H⟩ := ob H
  refine g_copy hF mlX3_46 (dAt tX3_copyFrom_ok 27 rfl rfl) hr1.2.2.2.1 hS.2.2.2.1 e8 (by omega) (Nat.le_of_ble_eq_true rfl) ?_
  refine g_p (S' := [.ref r1]) hF tX3_copyFrom_ok 28 1 rfl rfl rfl rfl ?_
  refine g_getR hF (dAt tX3_copyFrom_ok 29 rfl rfl) flX3_21 hr1.1 rfl ?_
  refine g_p (S' := [.ref a, .int 0, .ref (r1 + 4)]) hF tX3_copyFrom_ok 30 2 rfl rfl rfl rfl ?_
  refine g_getR hF (dAt tX3_copyFrom_ok 32 rfl rfl) flX3_21 hS.1 rfl ?_
  refine g_p (S' := [.int 40, .int 0, .ref (a + 4), .int 0, .ref (r1 + 4)]) hF tX3_copyFrom_ok 33 2 rfl rfl rfl rfl ?_
  obtain ⟨s9, e10, H⟩ := ob H
  refine g_copy hF mlX3_46 (dAt tX3_copyFrom_ok 35 rfl rfl) hr1.2.2.2.2.1 hS.2.2.2.2.1 e10 (by omega) (Nat.le_of_ble_eq_true rfl) ?_
  refine g_p (S' := [.ref r1]) hF tX3_copyFrom_ok 36 1 rfl rfl rfl rfl ?_
  refine g_getR hF (dAt tX3_copyFrom_ok 37 rfl rfl) flX3_24 hr1.1 rfl ?_
  refine g_p (S' := [.ref a, .int 0, .ref (r1 + 5)]) hF tX3_copyFrom_ok 38 2 rfl rfl rfl rfl ?_
  refine g_getR hF (dAt tX3_copyFrom_ok 40 rfl rfl) flX3_24 hS.1 rfl ?_
  refine g_p (S' := [.int 40, .int 0, .ref (a + 5), .int 0, .ref (r1 + 5)]) hF tX3_copyFrom_ok 41 2 rfl rfl rfl rfl ?_
  obtain ⟨s11, e12, H⟩ := ob H
  refine g_copy hF mlX3_46 (dAt tX3_copyFrom_ok 43 rfl rfl) hr1.2.2.2.2.2.1 hS.2.2.2.2.2.1 e12 (by omega) (Nat.le_of_ble_eq_true rfl) ?_
  refine g_p (S' := [.ref r1]) hF tX3_copyFrom_ok 44 1 rfl rfl rfl rfl ?_
  refine g_getR hF (dAt tX3_copyFrom_ok 45 rfl rfl) flX3_27 hr1.1 rfl ?_
  refine g_p (S' := [.ref a, .int 0, .ref (r1 + 6)]) hF tX3_copyFrom_ok 46 2 rfl rfl rfl rfl ?_
  refine g_getR hF (dAt tX3_copyFrom_ok 48 rfl rfl) flX3_27 hS.1 rfl ?_
  refine g_p (S' := [.int 40, .int 0, .ref (a + 6), .int 0, .ref (r1 + 6)]) hF tX3_copyFrom_ok 49 2 rfl rfl rfl rfl ?_
  obtain ⟨s13, e14, H⟩ := ob H
  refine g_copy hF mlX3_46 (dAt tX3_copyFrom_ok 51 rfl rfl) hr1.2.2.2.2.2.2.1 hS.2.2.2.2.2.2.1 e14 (by omega) (Nat.le_of_ble_eq_true rfl) ?_
  refine g_p (S' := [.ref r1]) hF tX3_copyFrom_ok 52 1 rfl rfl rfl rfl ?_
  refine g_getR hF (dAt tX3_copyFrom_ok 53 rfl rfl) flX3_30 hr1.1 rfl ?_
  refine g_p (S' := [.ref a, .int 0, .ref (r1 + 7)]) hF tX3_copyFrom_ok 54 2 rfl rfl rfl rfl ?_
  refine g_getR hF (dAt tX3_copyFrom_ok 56 rfl rfl) flX3_30 hS.1 rfl ?_
  refine g_p (S' := [.int 40, .int 0, .ref (a + 7), .int 0, .ref (r1 + 7)]) hF tX3_copyFrom_ok 57 2 rfl rfl rfl rfl ?_
  obtain ⟨s15, e16, H⟩ := ob H
  refine g_copy hF mlX3_46 (dAt tX3_copyFrom_ok 59 rfl rfl) hr1.2.2.2.2.2.2.2.1 hS.2.2.2.2.2.2.2.1 e16 (by omega) (Nat.le_of_ble_eq_true rfl) ?_
  exact g_vret hF (en_v H hE) (dAt tX3_copyFrom_ok 60 rfl rfl) (by decide) (by decide)
def X3_has_f (a : Nat) (x1 : Int32) (σ : Sig) : Option (Int32) := if x1 < 0 then (some 0) else (if (σ a 0) ≤ x1 then (some 0) else (some 1))
set_option maxRecDepth 4000 in
set_option maxHeartbeats 1000000 in
theorem X3_has_ok {D : Nat} {τ : Tau} {nx : Nat} {a : Nat} {x1 : Int32} {σ : Sig} {res : Int32} (hD : 1 ≤ D) (hS : ShX3 τ a) (H : X3_has_f a x1 σ = some res) : Ok D 0 0 yX3_has cX3_has 2 (some .boolean) [.ref a, .int x1] (τ, σ, nx) (some (.int res)) (τ, σ, nx) := by
  refine ok_of (by decide +kernel) rfl (Nat.le_of_ble_eq_true rfl) (fun K X hF hE hN L0 hL0 => ?_)
  obtain rfl : [some (.ref a), some (.int x1)] = L0 := hL0
  have hF : Fx K X cX3_has 2 RX3 D 0 0 := hF
  refine g_p (S' := [.int x1]) hF tX3_has_ok 0 1 rfl rfl rfl rfl ?_
  obtain ⟨Ht1, Hf1⟩ := oi H
  refine g_if_lt hF (dAt tX3_has_ok 1 rfl rfl) rfl (fun c1 => ?_) (fun c1 => ?_)
  · have H := Ht1 c1
    refine g_p (S' := [.int 0]) hF tX3_has_ok 8 1 rfl rfl rfl rfl ?_
    exact g_zret hF (en_i H hE) (Or.inl rfl) (dAt tX3_has_ok 9 rfl rfl) (by decide) (by decide)
  · have H := Hf1 c1
    refine g_p (S' := [.ref a, .int x1]) hF tX3_has_ok 2 2 rfl rfl rfl rfl ?_
    refine g_getI hF (dAt tX3_has_ok 4 rfl rfl) flX3_42 hS.1 rfl ?_
    obtain ⟨Ht2, Hf2⟩ := oi H
    refine g_icmp_ge hF (dAt tX3_has_ok 5 rfl rfl) rfl (fun c2 => ?_) (fun c2 => ?_)
    · have H := Ht2 c2
      refine g_p (S' := [.int 0]) hF tX3_has_ok 8 1 rfl rfl rfl rfl ?_
      exact g_zret hF (en_i H hE) (Or.inl rfl) (dAt tX3_has_ok 9 rfl rfl) (by decide) (by decide)
    · have H := Hf2 c2
      refine g_p (S' := [.int 1]) hF tX3_has_ok 6 1 rfl rfl rfl rfl ?_
      refine g_goto hF (dAt tX3_has_ok 7 rfl rfl) rfl ?_
      exact g_zret hF (en_i H hE) (Or.inr rfl) (dAt tX3_has_ok 9 rfl rfl) (by decide) (by decide)
def X3_isOpen_f (a : Nat) (x1 : Int32) (σ : Sig) : Option (Int32) := (X3_has_f a x1 σ).bind fun v1 => if v1 = 0 then (some 0) else ((ld 40 (σ (a + 3)) x1).bind fun v4 => if v4 ≤ 0 then (some 0) else (some 1))
set_option maxRecDepth 4000 in
set_option maxHeartbeats 1000000 in
theorem X3_isOpen_ok {D : Nat} {τ : Tau} {nx : Nat} {a : Nat} {x1 : Int32} {σ : Sig} {res : Int32} (hD : 2 ≤ D) (hS : ShX3 τ a) (H : X3_isOpen_f a x1 σ = some res) : Ok D 0 0 yX3_isOpen cX3_isOpen 2 (some .boolean) [.ref a, .int x1] (τ, σ, nx) (some (.int res)) (τ, σ, nx) := by
  refine ok_of (by decide +kernel) rfl (Nat.le_of_ble_eq_true rfl) (fun K X hF hE hN L0 hL0 => ?_)
  obtain rfl : [some (.ref a), some (.int x1)] = L0 := hL0
  have hF : Fx K X cX3_isOpen 2 RX3 D 0 0 := hF
  refine g_p (S' := [.int x1, .ref a]) hF tX3_isOpen_ok 0 2 rfl rfl rfl rfl ?_
  obtain ⟨v1, e2, H⟩ := ob H
  refine g_cV (S := []) hF (X3_has_ok (Nat.le_refl _) hS e2 K) mbX3_has mvX3_has mlX3_52 (by omega) (by decide) (dAt tX3_isOpen_ok 2 rfl rfl) hS.1 rfl rfl rfl (Nat.le_of_ble_eq_true rfl) rfl rfl (by decide) (by decide) rfl ?_
  obtain ⟨Ht3, Hf3⟩ := oi H
  refine g_if_eq hF (dAt tX3_isOpen_ok 3 rfl rfl) rfl (fun c3 => ?_) (fun c3 => ?_)
  · have H := Ht3 c3
    refine g_p (S' := [.int 0]) hF tX3_isOpen_ok 11 1 rfl rfl rfl rfl ?_
    exact g_zret hF (en_i H hE) (Or.inl rfl) (dAt tX3_isOpen_ok 12 rfl rfl) (by decide) (by decide)
  · have H := Hf3 c3
    refine g_p (S' := [.ref a]) hF tX3_isOpen_ok 4 1 rfl rfl rfl rfl ?_
    refine g_getR hF (dAt tX3_isOpen_ok 5 rfl rfl) flX3_18 hS.1 rfl ?_
    refine g_p (S' := [.int x1, .ref (a + 3)]) hF tX3_isOpen_ok 6 1 rfl rfl rfl rfl ?_
    obtain ⟨v4, e5, H⟩ := ob H
    refine g_ild hF (dAt tX3_isOpen_ok 7 rfl rfl) hS.2.2.2.1 e5 ?_
    obtain ⟨Ht6, Hf6⟩ := oi H
    refine g_if_le hF (dAt tX3_isOpen_ok 8 rfl rfl) rfl (fun c6 => ?_) (fun c6 => ?_)
    · have H := Ht6 c6
      refine g_p (S' := [.int 0]) hF tX3_isOpen_ok 11 1 rfl rfl rfl rfl ?_
      exact g_zret hF (en_i H hE) (Or.inl rfl) (dAt tX3_isOpen_ok 12 rfl rfl) (by decide) (by decide)
    · have H := Hf6 c6
      refine g_p (S' := [.int 1]) hF tX3_isOpen_ok 9 1 rfl rfl rfl rfl ?_
      refine g_goto hF (dAt tX3_isOpen_ok 10 rfl rfl) rfl ?_
      exact g_zret hF (en_i H hE) (Or.inr rfl) (dAt tX3_isOpen_ok 12 rfl rfl) (by decide) (by decide)
def X3_isOpenWith_f (a : Nat) (x1 x2 : Int32) (σ : Sig) : Option (Int32) := (X3_isOpen_f a x1 σ).bind fun v1 => if v1 = 0 then (some 0) else ((ld 40 (σ (a + 1)) x1).bind fun v4 => if v4 = x2 then (some 1) else ((ld 40 (σ (a + 2)) x1).bind fun v7 => if v7 = x2 then (some 1) else (some 0)))
set_option maxRecDepth 4000 in
set_option maxHeartbeats 1000000 in
theorem X3_isOpenWith_ok {D : Nat} {τ : Tau} {nx : Nat} {a : Nat} {x1 x2 : Int32} {σ : Sig} {res : Int32} (hD : 3 ≤ D) (hS : ShX3 τ a) (H : X3_isOpenWith_f a x1 x2 σ = some res) : Ok D 0 0 yX3_isOpenWith cX3_isOpenWith 3 (some .boolean) [.ref a, .int x1, .int x2] (τ, σ, nx) (some (.int res)) (τ, σ, nx) := by
  refine ok_of (by decide +kernel) rfl (Nat.le_of_ble_eq_true rfl) (fun K X hF hE hN L0 hL0 => ?_)
  obtain rfl : [some (.ref a), some (.int x1), some (.int x2)] = L0 := hL0
  have hF : Fx K X cX3_isOpenWith 3 RX3 D 0 0 := hF
  refine g_p (S' := [.int x1, .ref a]) hF tX3_isOpenWith_ok 0 2 rfl rfl rfl rfl ?_
  obtain ⟨v1, e2, H⟩ := ob H
  refine g_cV (S := []) hF (X3_isOpen_ok (Nat.le_refl _) hS e2 K) mbX3_isOpen mvX3_isOpen mlX3_56 (by omega) (by decide) (dAt tX3_isOpenWith_ok 2 rfl rfl) hS.1 rfl rfl rfl (Nat.le_of_ble_eq_true rfl) rfl rfl (by decide) (by decide) rfl ?_
  obtain ⟨Ht3, Hf3⟩ := oi H
  refine g_if_eq hF (dAt tX3_isOpenWith_ok 3 rfl rfl) rfl (fun c3 => ?_) (fun c3 => ?_)
  · have H := Ht3 c3
    refine g_p (S' := [.int 0]) hF tX3_isOpenWith_ok 18 1 rfl rfl rfl rfl ?_
    exact g_zret hF (en_i H hE) (Or.inl rfl) (dAt tX3_isOpenWith_ok 19 rfl rfl) (by decide) (by decide)
  · have H := Hf3 c3
    refine g_p (S' := [.ref a]) hF tX3_isOpenWith_ok 4 1 rfl rfl rfl rfl ?_
    refine g_getR hF (dAt tX3_isOpenWith_ok 5 rfl rfl) flX3_9 hS.1 rfl ?_
    refine g_p (S' := [.int x1, .ref (a + 1)]) hF tX3_isOpenWith_ok 6 1 rfl rfl rfl rfl ?_
    obtain ⟨v4, e5, H⟩ := ob H
    refine g_ild hF (dAt tX3_isOpenWith_ok 7 rfl rfl) hS.2.1 e5 ?_
    refine g_p (S' := [.int x2, .int v4]) hF tX3_isOpenWith_ok 8 1 rfl rfl rfl rfl ?_
    obtain ⟨Ht6, Hf6⟩ := oi H
    refine g_icmp_eq hF (dAt tX3_isOpenWith_ok 9 rfl rfl) rfl (fun c6 => ?_) (fun c6 => ?_)
    · have H := Ht6 c6
      refine g_p (S' := [.int 1]) hF tX3_isOpenWith_ok 16 1 rfl rfl rfl rfl ?_
      refine g_goto hF (dAt tX3_isOpenWith_ok 17 rfl rfl) rfl ?_
      exact g_zret hF (en_i H hE) (Or.inr rfl) (dAt tX3_isOpenWith_ok 19 rfl rfl) (by decide) (by decide)
    · have H := Hf6 c6
      refine g_p (S' := [.ref a]) hF tX3_isOpenWith_ok 10 1 rfl rfl rfl rfl ?_
      refine g_getR hF (dAt tX3_isOpenWith_ok 11 rfl rfl) flX3_15 hS.1 rfl ?_
      refine g_p (S' := [.int x1, .ref (a + 2)]) hF tX3_isOpenWith_ok 12 1 rfl rfl rfl rfl ?_
      obtain ⟨v7, e8, H⟩ := ob H
      refine g_ild hF (dAt tX3_isOpenWith_ok 13 rfl rfl) hS.2.2.1 e8 ?_
      refine g_p (S' := [.int x2, .int v7]) hF tX3_isOpenWith_ok 14 1 rfl rfl rfl rfl ?_
      obtain ⟨Ht9, Hf9⟩ := oi H
      refine g_icmp_ne hF (dAt tX3_isOpenWith_ok 15 rfl rfl) rfl (fun c9 => ?_) (fun c9 => ?_)
      · have H := Hf9 c9
        refine g_p (S' := [.int 0]) hF tX3_isOpenWith_ok 18 1 rfl rfl rfl rfl ?_
        exact g_zret hF (en_i H hE) (Or.inl rfl) (dAt tX3_isOpenWith_ok 19 rfl rfl) (by decide) (by decide)
      · have H := Ht9 c9
        refine g_p (S' := [.int 1]) hF tX3_isOpenWith_ok 16 1 rfl rfl rfl rfl ?_
        refine g_goto hF (dAt tX3_isOpenWith_ok 17 rfl rfl) rfl ?_
        exact g_zret hF (en_i H hE) (Or.inr rfl) (dAt tX3_isOpenWith_ok 19 rfl rfl) (by decide) (by decide)
def X3_openCountWith_b4 (a : Nat) (σ : Sig) : Nat → Int32 → Int32 → Int32 → Option (Int32)
  | 0, _, _, _ => none
  | fu + 1, x1, x2, x3 => if (σ a 0) ≤ x3 then (some x2) else ((X3_isOpenWith_f a x3 x1 σ).bind fun v2 => if v2 = 0 then (X3_openCountWith_b4 a σ fu x1 x2 (x3 + 1)) else (X3_openCountWith_b4 a σ fu x1 (x2 + 1) (x3 + 1)))
set_option maxRecDepth 4000 in
set_option maxHeartbeats 1000000 in
theorem X3_openCountWith_b4_ok {K : Kt} {X : Cx} {D : Nat} {τ : Tau} {nx : Nat} {a : Nat} {res : Int32} {σ : Sig}  (hD : 4 ≤ D) (hF : Fx K X cX3_openCountWith 4 RX3 D 0 0) (hS : ShX3 τ a) (hE : En K X (some .int) 0 0 (some (.int res)) (τ, σ, nx)) : ∀ (fu : Nat) (x1 x2 x3 : Int32), X3_openCountWith_b4 a σ fu x1 x2 x3 = some res → G K X 4 0 0 4 [some (.ref a), some (.int x1), some (.int x2), some (.int x3)] [] (τ, σ, nx)
  | 0, _, _, _, H => nomatch H
  | fu + 1, x1, x2, x3, H => by
    refine g_p (S' := [.ref a, .int x3]) hF tX3_openCountWith_ok 4 2 rfl rfl rfl rfl ?_
    refine g_getI hF (dAt tX3_openCountWith_ok 6 rfl rfl) flX3_42 hS.1 rfl ?_
    obtain ⟨Ht1, Hf1⟩ := oi H
    refine g_icmp_ge hF (dAt tX3_openCountWith_ok 7 rfl rfl) rfl (fun c1 => ?_) (fun c1 => ?_)
    · have H := Ht1 c1
      refine g_p (S' := [.int x2]) hF tX3_openCountWith_ok 16 1 rfl rfl rfl rfl ?_
      exact g_iret hF (en_i H hE) (dAt tX3_openCountWith_ok 17 rfl rfl) (by decide) (by decide)
    · have H := Hf1 c1
      refine g_p (S' := [.int x1, .int x3, .ref a]) hF tX3_openCountWith_ok 8 3 rfl rfl rfl rfl ?_
      obtain ⟨v2, e3, H⟩ := ob H
      refine g_cV (S := []) hF (X3_isOpenWith_ok (Nat.le_refl _) hS e3 K) mbX3_isOpenWith mvX3_isOpenWith mlX3_59 (by omega) (by decide) (dAt tX3_openCountWith_ok 11 rfl rfl) hS.1 rfl rfl rfl (Nat.le_of_ble_eq_true rfl) rfl rfl (by decide) (by decide) rfl ?_
      obtain ⟨Ht4, Hf4⟩ := oi H
      refine g_if_eq hF (dAt tX3_openCountWith_ok 12 rfl rfl) rfl (fun c4 => ?_) (fun c4 => ?_)
      · have H := Ht4 c4
        refine g_p (L' := [some (.ref a), some (.int x1), some (.int x2), some (.int (x3 + 1))]) (S' := []) hF tX3_openCountWith_ok 14 1 rfl rfl rfl rfl ?_
        refine g_goto hF (dAt tX3_openCountWith_ok 15 rfl rfl) rfl ?_
        exact X3_openCountWith_b4_ok hD hF hS hE fu _ _ _ H
      · have H := Hf4 c4
        refine g_p (L' := [some (.ref a), some (.int x1), some (.int (x2 + 1)), some (.int (x3 + 1))]) (S' := []) hF tX3_openCountWith_ok 13 2 rfl rfl rfl rfl ?_
        refine g_goto hF (dAt tX3_openCountWith_ok 15 rfl rfl) rfl ?_
        exact X3_openCountWith_b4_ok hD hF hS hE fu _ _ _ H
def X3_openCountWith_f (a : Nat) (x1 : Int32) (σ : Sig) : Option (Int32) := X3_openCountWith_b4 a σ FU x1 0 0
set_option maxRecDepth 4000 in
set_option maxHeartbeats 1000000 in
theorem X3_openCountWith_ok {D : Nat} {τ : Tau} {nx : Nat} {a : Nat} {x1 : Int32} {σ : Sig} {res : Int32} (hD : 4 ≤ D) (hS : ShX3 τ a) (H : X3_openCountWith_f a x1 σ = some res) : Ok D 0 0 yX3_openCountWith cX3_openCountWith 4 (some .int) [.ref a, .int x1] (τ, σ, nx) (some (.int res)) (τ, σ, nx) := by
  refine ok_of (by decide +kernel) rfl (Nat.le_of_ble_eq_true rfl) (fun K X hF hE hN L0 hL0 => ?_)
  obtain rfl : [some (.ref a), some (.int x1), none, none] = L0 := hL0
  have hF : Fx K X cX3_openCountWith 4 RX3 D 0 0 := hF
  refine g_p (L' := [some (.ref a), some (.int x1), some (.int 0), some (.int 0)]) (S' := []) hF tX3_openCountWith_ok 0 4 rfl rfl rfl rfl ?_
  exact X3_openCountWith_b4_ok hD hF hS hE FU _ _ _ H
def X3_handDown_b49 (a : Nat) (x1 : Int32) (σ : Sig) : Option (Sig) := (ld 40 (σ (a + 1)) x1).bind fun v1 => (ld 40 (σ (a + 2)) x1).bind fun v3 => if v1 = v3 then ((st 40 σ (a + 3) x1 0).bind fun s6 => some s6) else (some σ)
set_option maxRecDepth 4000 in
set_option maxHeartbeats 1000000 in
theorem X3_handDown_b49_ok {K : Kt} {X : Cx} {D : Nat} {τ : Tau} {nx : Nat} {a : Nat} {res : Sig}  (hD : 1 ≤ D) (hF : Fx K X cX3_handDown 4 RX3 D 0 0) (hS : ShX3 τ a) (hE : En K X none 0 0 none (τ, res, nx)) {x1 : Int32} {σ : Sig} (H : X3_handDown_b49 a x1 σ = some res) : G K X 4 0 0 49 [some (.ref a), some (.int x1), none, none] [] (τ, σ, nx) := by
  refine g_p (S' := [.ref a]) hF tX3_handDown_ok 31 1 rfl rfl rfl rfl ?_
  refine g_getR hF (dAt tX3_handDown_ok 32 rfl rfl) flX3_9 hS.1 rfl ?_
  refine g_p (S' := [.int x1, .ref (a + 1)]) hF tX3_handDown_ok 33 1 rfl rfl rfl rfl ?_
  obtain ⟨v1, e2, H⟩ := ob H
  refine g_ild hF (dAt tX3_handDown_ok 34 rfl rfl) hS.2.1 e2 ?_
  refine g_p (S' := [.ref a, .int v1]) hF tX3_handDown_ok 35 1 rfl rfl rfl rfl ?_
  refine g_getR hF (dAt tX3_handDown_ok 36 rfl rfl) flX3_15 hS.1 rfl ?_
  refine g_p (S' := [.int x1, .ref (a + 2), .int v1]) hF tX3_handDown_ok 37 1 rfl rfl rfl rfl ?_
  obtain ⟨v3, e4, H⟩ := ob H
  refine g_ild hF (dAt tX3_handDown_ok 38 rfl rfl) hS.2.2.1 e4 ?_
  obtain ⟨Ht5, Hf5⟩ := oi H
  refine g_icmp_ne hF (dAt tX3_handDown_ok 39 rfl rfl) rfl (fun c5 => ?_) (fun c5 => ?_)
  · have H := Hf5 c5
    exact g_vret hF (en_v H hE) (dAt tX3_handDown_ok 45 rfl rfl) (by decide) (by decide)
  · have H := Ht5 c5
    refine g_p (S' := [.ref a]) hF tX3_handDown_ok 40 1 rfl rfl rfl rfl ?_
    refine g_getR hF (dAt tX3_handDown_ok 41 rfl rfl) flX3_18 hS.1 rfl ?_
    refine g_p (S' := [.int 0, .int x1, .ref (a + 3)]) hF tX3_handDown_ok 42 2 rfl rfl rfl rfl ?_
    obtain ⟨s6, e7, H⟩ := ob H
    refine g_ist hF (dAt tX3_handDown_ok 44 rfl rfl) hS.2.2.2.1 e7 ?_
    exact g_vret hF (en_v H hE) (dAt tX3_handDown_ok 45 rfl rfl) (by decide) (by decide)
def X3_handDown_b27 (a : Nat) (x1 : Int32) (σ : Sig) : Option (Sig) := (ld 40 (σ (a + 5)) x1).bind fun v1 => (ld 40 (σ (a + 1)) x1).bind fun v3 => if v1 = v3 then ((st 40 σ (a + 5) x1 (-1)).bind fun s6 => X3_handDown_b49 a x1 s6) else (X3_handDown_b49 a x1 σ)
set_option maxRecDepth 4000 in
set_option maxHeartbeats 1000000 in
theorem X3_handDown_b27_ok {K : Kt} {X : Cx} {D : Nat} {τ : Tau} {nx : Nat} {a : Nat} {res : Sig}  (hD : 1 ≤ D) (hF : Fx K X cX3_handDown 4 RX3 D 0 0) (hS : ShX3 τ a) (hE : En K X none 0 0 none (τ, res, nx)) {x1 : Int32} {σ : Sig} (H : X3_handDown_b27 a x1 σ = some res) : G K X 4 0 0 27 [some (.ref a), some (.int x1), none, none] [] (τ, σ, nx) := by
  refine g_p (S' := [.ref a]) hF tX3_handDown_ok 17 1 rfl rfl rfl rfl ?_
  refine g_getR hF (dAt tX3_handDown_ok 18 rfl rfl) flX3_24 hS.1 rfl ?_
  refine g_p (S' := [.int x1, .ref (a + 5)]) hF tX3_handDown_ok 19 1 rfl rfl rfl rfl ?_
  obtain ⟨v1, e2, H⟩ := ob H
  refine g_ild hF (dAt tX3_handDown_ok 20 rfl rfl) hS.2.2.2.2.2.1 e2 ?_
  refine g_p (S' := [.ref a, .int v1]) hF tX3_handDown_ok 21 1 rfl rfl rfl rfl ?_
  refine g_getR hF (dAt tX3_handDown_ok 22 rfl rfl) flX3_9 hS.1 rfl ?_
  refine g_p (S' := [.int x1, .ref (a + 1), .int v1]) hF tX3_handDown_ok 23 1 rfl rfl rfl rfl ?_
  obtain ⟨v3, e4, H⟩ := ob H
  refine g_ild hF (dAt tX3_handDown_ok 24 rfl rfl) hS.2.1 e4 ?_
  obtain ⟨Ht5, Hf5⟩ := oi H
  refine g_icmp_ne hF (dAt tX3_handDown_ok 25 rfl rfl) rfl (fun c5 => ?_) (fun c5 => ?_)
  · have H := Hf5 c5
    exact X3_handDown_b49_ok hD hF hS hE H
  · have H := Ht5 c5
    refine g_p (S' := [.ref a]) hF tX3_handDown_ok 26 1 rfl rfl rfl rfl ?_
    refine g_getR hF (dAt tX3_handDown_ok 27 rfl rfl) flX3_24 hS.1 rfl ?_
    refine g_p (S' := [.int (-1), .int x1, .ref (a + 5)]) hF tX3_handDown_ok 28 2 rfl rfl rfl rfl ?_
    obtain ⟨s6, e7, H⟩ := ob H
    refine g_ist hF (dAt tX3_handDown_ok 30 rfl rfl) hS.2.2.2.2.2.1 e7 ?_
    exact X3_handDown_b49_ok hD hF hS hE H
def X3_handDown_f (a : Nat) (x1 x2 x3 : Int32) (σ : Sig) : Option (Sig) := (ld 40 (σ (a + 1)) x1).bind fun v1 => if v1 = x2 then ((st 40 σ (a + 1) x1 x3).bind fun s6 => X3_handDown_b27 a x1 s6) else ((st 40 σ (a + 2) x1 x3).bind fun s4 => X3_handDown_b27 a x1 s4)
set_option maxRecDepth 4000 in
set_option maxHeartbeats 1000000 in
theorem X3_handDown_ok {D : Nat} {τ : Tau} {nx : Nat} {a : Nat} {x1 x2 x3 : Int32} {σ : Sig} {res : Sig} (hD : 1 ≤ D) (hS : ShX3 τ a) (H : X3_handDown_f a x1 x2 x3 σ = some res) : Ok D 0 0 yX3_handDown cX3_handDown 4 none [.ref a, .int x1, .int x2, .int x3] (τ, σ, nx) none (τ, res, nx) := by
  refine ok_of (by decide +kernel) rfl (Nat.le_of_ble_eq_true rfl) (fun K X hF hE hN L0 hL0 => ?_)
  obtain rfl : [some (.ref a), some (.int x1), some (.int x2), some (.int x3)] = L0 := hL0
  have hF : Fx K X cX3_handDown 4 RX3 D 0 0 := hF
  refine g_p (S' := [.ref a]) hF tX3_handDown_ok 0 1 rfl rfl rfl rfl ?_
  refine g_getR hF (dAt tX3_handDown_ok 1 rfl rfl) flX3_9 hS.1 rfl ?_
  refine g_p (S' := [.int x1, .ref (a + 1)]) hF tX3_handDown_ok 2 1 rfl rfl rfl rfl ?_
  obtain ⟨v1, e2, H⟩ := ob H
  refine g_ild hF (dAt tX3_handDown_ok 3 rfl rfl) hS.2.1 e2 ?_
  refine g_p (S' := [.int x2, .int v1]) hF tX3_handDown_ok 4 1 rfl rfl rfl rfl ?_
  obtain ⟨Ht3, Hf3⟩ := oi H
  refine g_icmp_ne hF (dAt tX3_handDown_ok 5 rfl rfl) rfl (fun c3 => ?_) (fun c3 => ?_)
  · have H := Hf3 c3
    refine g_p (S' := [.ref a]) hF tX3_handDown_ok 12 1 rfl rfl rfl rfl ?_
    refine g_getR hF (dAt tX3_handDown_ok 13 rfl rfl) flX3_15 hS.1 rfl ?_
    refine g_p (S' := [.int x3, .int x1, .ref (a + 2)]) hF tX3_handDown_ok 14 2 rfl rfl rfl rfl ?_
    obtain ⟨s4, e5, H⟩ := ob H
    refine g_ist hF (dAt tX3_handDown_ok 16 rfl rfl) hS.2.2.1 e5 ?_
    refine g_m [true, true, false, false] rfl ?_
    exact X3_handDown_b27_ok hD hF hS hE H
  · have H := Ht3 c3
    refine g_p (S' := [.ref a]) hF tX3_handDown_ok 6 1 rfl rfl rfl rfl ?_
    refine g_getR hF (dAt tX3_handDown_ok 7 rfl rfl) flX3_9 hS.1 rfl ?_
    refine g_p (S' := [.int x3, .int x1, .ref (a + 1)]) hF tX3_handDown_ok 8 2 rfl rfl rfl rfl ?_
    obtain ⟨s6, e7, H⟩ := ob H
    refine g_ist hF (dAt tX3_handDown_ok 10 rfl rfl) hS.2.1 e7 ?_
    refine g_goto hF (dAt tX3_handDown_ok 11 rfl rfl) rfl ?_
    refine g_m [true, true, false, false] rfl ?_
    exact X3_handDown_b27_ok hD hF hS hE H
def X3_add_f (a : Nat) (x1 x2 x3 : Int32) (σ : Sig) : Option (Int32 × Sig) := if (σ a 0) < 40 then ((st 40 σ (a + 1) (σ a 0) x1).bind fun s2 => (st 40 s2 (a + 2) (σ a 0) x2).bind fun s4 => (st 40 s4 (a + 3) (σ a 0) x3).bind fun s6 => (st 40 s6 (a + 4) (σ a 0) 0).bind fun s8 => (st 40 s8 (a + 5) (σ a 0) (-1)).bind fun s10 => (st 40 s10 (a + 6) (σ a 0) 0).bind fun s12 => (st 40 s12 (a + 7) (σ a 0) 0).bind fun s14 => (pI s14 a 0 ((s14 a 0) + 1)).bind fun s16 => some ((σ a 0), s16)) else (some ((-1), σ))
set_option maxRecDepth 4000 in
set_option maxHeartbeats 1000000 in
theorem X3_add_ok {D : Nat} {τ : Tau} {nx : Nat} {a : Nat} {x1 x2 x3 : Int32} {σ : Sig} {res : Int32} {rsg : Sig} (hD : 1 ≤ D) (hS : ShX3 τ a) (H : X3_add_f a x1 x2 x3 σ = some (res, rsg)) : Ok D 0 0 yX3_add cX3_add 5 (some .int) [.ref a, .int x1, .int x2, .int x3] (τ, σ, nx) (some (.int res)) (τ, rsg, nx) := by
  refine ok_of (by decide +kernel) rfl (Nat.le_of_ble_eq_true rfl) (fun K X hF hE hN L0 hL0 => ?_)
  obtain rfl : [some (.ref a), some (.int x1), some (.int x2), some (.int x3), none] = L0 := hL0
  have hF : Fx K X cX3_add 5 RX3 D 0 0 := hF
  refine g_p (S' := [.ref a]) hF tX3_add_ok 0 1 rfl rfl rfl rfl ?_
  refine g_getI hF (dAt tX3_add_ok 1 rfl rfl) flX3_42 hS.1 rfl ?_
  refine g_p (L' := [some (.ref a), some (.int x1), some (.int x2), some (.int x3), some (.int (σ a 0))]) (S' := [.int 40, .int (σ a 0)]) hF tX3_add_ok 2 3 rfl rfl rfl rfl ?_
  obtain ⟨Ht1, Hf1⟩ := oi H
  refine g_icmp_lt hF (dAt tX3_add_ok 5 rfl rfl) rfl (fun c1 => ?_) (fun c1 => ?_)
  · have H := Ht1 c1
    refine g_p (S' := [.ref a]) hF tX3_add_ok 8 1 rfl rfl rfl rfl ?_
    refine g_getR hF (dAt tX3_add_ok 9 rfl rfl) flX3_9 hS.1 rfl ?_
    refine g_p (S' := [.int x1, .int (σ a 0), .ref (a + 1)]) hF tX3_add_ok 10 2 rfl rfl rfl rfl ?_
    obtain ⟨s2, e3, H⟩ := ob H
    refine g_ist hF (dAt tX3_add_ok 12 rfl rfl) hS.2.1 e3 ?_
    refine g_p (S' := [.ref a]) hF tX3_add_ok 13 1 rfl rfl rfl rfl ?_
    refine g_getR hF (dAt tX3_add_ok 14 rfl rfl) flX3_15 hS.1 rfl ?_
    refine g_p (S' := [.int x2, .int (σ a 0), .ref (a + 2)]) hF tX3_add_ok 15 2 rfl rfl rfl rfl ?_
    obtain ⟨s4, e5, H⟩ := ob H
    refine g_ist hF (dAt tX3_add_ok 17 rfl rfl) hS.2.2.1 e5 ?_
    refine g_p (S' := [.ref a]) hF tX3_add_ok 18 1 rfl rfl rfl rfl ?_
    refine g_getR hF (dAt tX3_add_ok 19 rfl rfl) flX3_18 hS.1 rfl ?_
    refine g_p (S' := [.int x3, .int (σ a 0), .ref (a + 3)]) hF tX3_add_ok 20 2 rfl rfl rfl rfl ?_
    obtain ⟨s6, e7, H⟩ := ob H
    refine g_ist hF (dAt tX3_add_ok 22 rfl rfl) hS.2.2.2.1 e7 ?_
    refine g_p (S' := [.ref a]) hF tX3_add_ok 23 1 rfl rfl rfl rfl ?_
    refine g_getR hF (dAt tX3_add_ok 24 rfl rfl) flX3_21 hS.1 rfl ?_
    refine g_p (S' := [.int 0, .int (σ a 0), .ref (a + 4)]) hF tX3_add_ok 25 2 rfl rfl rfl rfl ?_
    obtain ⟨s8, e9, H⟩ := ob H
    refine g_ist hF (dAt tX3_add_ok 27 rfl rfl) hS.2.2.2.2.1 e9 ?_
    refine g_p (S' := [.ref a]) hF tX3_add_ok 28 1 rfl rfl rfl rfl ?_
    refine g_getR hF (dAt tX3_add_ok 29 rfl rfl) flX3_24 hS.1 rfl ?_
    refine g_p (S' := [.int (-1), .int (σ a 0), .ref (a + 5)]) hF tX3_add_ok 30 2 rfl rfl rfl rfl ?_
    obtain ⟨s10, e11, H⟩ := ob H
    refine g_ist hF (dAt tX3_add_ok 32 rfl rfl) hS.2.2.2.2.2.1 e11 ?_
    refine g_p (S' := [.ref a]) hF tX3_add_ok 33 1 rfl rfl rfl rfl ?_
    refine g_getR hF (dAt tX3_add_ok 34 rfl rfl) flX3_27 hS.1 rfl ?_
    refine g_p (S' := [.int 0, .int (σ a 0), .ref (a + 6)]) hF tX3_add_ok 35 2 rfl rfl rfl rfl ?_
    obtain ⟨s12, e13, H⟩ := ob H
    refine g_ist hF (dAt tX3_add_ok 37 rfl rfl) hS.2.2.2.2.2.2.1 e13 ?_
    refine g_p (S' := [.ref a]) hF tX3_add_ok 38 1 rfl rfl rfl rfl ?_
    refine g_getR hF (dAt tX3_add_ok 39 rfl rfl) flX3_30 hS.1 rfl ?_
    refine g_p (S' := [.int 0, .int (σ a 0), .ref (a + 7)]) hF tX3_add_ok 40 2 rfl rfl rfl rfl ?_
    obtain ⟨s14, e15, H⟩ := ob H
    refine g_ist hF (dAt tX3_add_ok 42 rfl rfl) hS.2.2.2.2.2.2.2.1 e15 ?_
    refine g_p (S' := [.ref a, .ref a]) hF tX3_add_ok 43 2 rfl rfl rfl rfl ?_
    refine g_getI hF (dAt tX3_add_ok 45 rfl rfl) flX3_42 hS.1 rfl ?_
    refine g_p (S' := [.int ((s14 a 0) + 1), .ref a]) hF tX3_add_ok 46 2 rfl rfl rfl rfl ?_
    obtain ⟨s16, e17, H⟩ := ob H
    refine g_pI hF (dAt tX3_add_ok 48 rfl rfl) flX3_42 (Or.inl rfl) hS.1 rfl e17 ?_
    refine g_p (S' := [.int (σ a 0)]) hF tX3_add_ok 49 1 rfl rfl rfl rfl ?_
    exact g_iret hF (en_p H hE) (dAt tX3_add_ok 50 rfl rfl) (by decide) (by decide)
  · have H := Hf1 c1
    refine g_p (S' := [.int (-1)]) hF tX3_add_ok 6 1 rfl rfl rfl rfl ?_
    exact g_iret hF (en_p H hE) (dAt tX3_add_ok 7 rfl rfl) (by decide) (by decide)
def X3_workerOf_f (a : Nat) (x1 : Int32) (σ : Sig) : Option (Int32) := (ld 40 (σ (a + 5)) x1).bind fun v1 => if v1 = (-1) then ((ld 40 (σ (a + 1)) x1).bind fun v4 => some v4) else ((ld 40 (σ (a + 5)) x1).bind fun v6 => some v6)
set_option maxRecDepth 4000 in
set_option maxHeartbeats 1000000 in
theorem X3_workerOf_ok {D : Nat} {τ : Tau} {nx : Nat} {a : Nat} {x1 : Int32} {σ : Sig} {res : Int32} (hD : 1 ≤ D) (hS : ShX3 τ a) (H : X3_workerOf_f a x1 σ = some res) : Ok D 0 0 yX3_workerOf cX3_workerOf 2 (some .int) [.ref a, .int x1] (τ, σ, nx) (some (.int res)) (τ, σ, nx) := by
  refine ok_of (by decide +kernel) rfl (Nat.le_of_ble_eq_true rfl) (fun K X hF hE hN L0 hL0 => ?_)
  obtain rfl : [some (.ref a), some (.int x1)] = L0 := hL0
  have hF : Fx K X cX3_workerOf 2 RX3 D 0 0 := hF
  refine g_p (S' := [.ref a]) hF tX3_workerOf_ok 0 1 rfl rfl rfl rfl ?_
  refine g_getR hF (dAt tX3_workerOf_ok 1 rfl rfl) flX3_24 hS.1 rfl ?_
  refine g_p (S' := [.int x1, .ref (a + 5)]) hF tX3_workerOf_ok 2 1 rfl rfl rfl rfl ?_
  obtain ⟨v1, e2, H⟩ := ob H
  refine g_ild hF (dAt tX3_workerOf_ok 3 rfl rfl) hS.2.2.2.2.2.1 e2 ?_
  refine g_p (S' := [.int (-1), .int v1]) hF tX3_workerOf_ok 4 1 rfl rfl rfl rfl ?_
  obtain ⟨Ht3, Hf3⟩ := oi H
  refine g_icmp_eq hF (dAt tX3_workerOf_ok 5 rfl rfl) rfl (fun c3 => ?_) (fun c3 => ?_)
  · have H := Ht3 c3
    refine g_p (S' := [.ref a]) hF tX3_workerOf_ok 11 1 rfl rfl rfl rfl ?_
    refine g_getR hF (dAt tX3_workerOf_ok 12 rfl rfl) flX3_9 hS.1 rfl ?_
    refine g_p (S' := [.int x1, .ref (a + 1)]) hF tX3_workerOf_ok 13 1 rfl rfl rfl rfl ?_
    obtain ⟨v4, e5, H⟩ := ob H
    refine g_ild hF (dAt tX3_workerOf_ok 14 rfl rfl) hS.2.1 e5 ?_
    exact g_iret hF (en_i H hE) (dAt tX3_workerOf_ok 15 rfl rfl) (by decide) (by decide)
  · have H := Hf3 c3
    refine g_p (S' := [.ref a]) hF tX3_workerOf_ok 6 1 rfl rfl rfl rfl ?_
    refine g_getR hF (dAt tX3_workerOf_ok 7 rfl rfl) flX3_24 hS.1 rfl ?_
    refine g_p (S' := [.int x1, .ref (a + 5)]) hF tX3_workerOf_ok 8 1 rfl rfl rfl rfl ?_
    obtain ⟨v6, e7, H⟩ := ob H
    refine g_ild hF (dAt tX3_workerOf_ok 9 rfl rfl) hS.2.2.2.2.2.1 e7 ?_
    refine g_goto hF (dAt tX3_workerOf_ok 10 rfl rfl) rfl ?_
    exact g_iret hF (en_i H hE) (dAt tX3_workerOf_ok 15 rfl rfl) (by decide) (by decide)
def X3_tellOf_f (a : Nat) (x1 x2 : Int32) (σ : Sig) : Option (Int32) := if x2 = 0 then ((ld 40 (σ (a + 1)) x1).bind fun v2 => some v2) else if x2 = 1 then ((ld 40 (σ (a + 2)) x1).bind fun v4 => some v4) else if x2 = 2 then ((ld 40 (σ (a + 3)) x1).bind fun v6 => some v6) else if x2 = 3 then ((ld 40 (σ (a + 4)) x1).bind fun v8 => some v8) else if x2 = 4 then ((ld 40 (σ (a + 5)) x1).bind fun v10 => some v10) else if x2 = 5 then ((ld 40 (σ (a + 6)) x1).bind fun v12 => some v12) else if x2 = 6 then ((X3_workerOf_f a x1 σ).bind fun v14 => some v14) else if x2 = 7 then ((ld 40 (σ (a + 7)) x1).bind fun v16 => some v16) else (some (-2))
set_option maxRecDepth 4000 in
set_option maxHeartbeats 1000000 in
theorem X3_tellOf_ok {D : Nat} {τ : Tau} {nx : Nat} {a : Nat} {x1 x2 : Int32} {σ : Sig} {res : Int32} (hD : 2 ≤ D) (hS : ShX3 τ a) (H : X3_tellOf_f a x1 x2 σ = some res) : Ok D 0 0 yX3_tellOf cX3_tellOf 3 (some .int) [.ref a, .int x1, .int x2] (τ, σ, nx) (some (.int res)) (τ, σ, nx) := by
  refine ok_of (by decide +kernel) rfl (Nat.le_of_ble_eq_true rfl) (fun K X hF hE hN L0 hL0 => ?_)
  obtain rfl : [some (.ref a), some (.int x1), some (.int x2)] = L0 := hL0
  have hF : Fx K X cX3_tellOf 3 RX3 D 0 0 := hF
  refine g_p (S' := [.int x2]) hF tX3_tellOf_ok 0 1 rfl rfl rfl rfl ?_
  obtain ⟨Ht1_0, Hf1_0⟩ := oi H
  by_cases c1_0 : x2 = 0
  · have H := Ht1_0 c1_0
    refine g_tsw (c := 0) hF (dAt tX3_tellOf_ok 1 rfl rfl) c1_0 (by decide) (by decide) rfl rfl ?_
    refine g_p (S' := [.ref a]) hF tX3_tellOf_ok 2 1 rfl rfl rfl rfl ?_
    refine g_getR hF (dAt tX3_tellOf_ok 3 rfl rfl) flX3_9 hS.1 rfl ?_
    refine g_p (S' := [.int x1, .ref (a + 1)]) hF tX3_tellOf_ok 4 1 rfl rfl rfl rfl ?_
    obtain ⟨v2, e3, H⟩ := ob H
    refine g_ild hF (dAt tX3_tellOf_ok 5 rfl rfl) hS.2.1 e3 ?_
    exact g_iret hF (en_i H hE) (dAt tX3_tellOf_ok 6 rfl rfl) (by decide) (by decide)
  have H := Hf1_0 c1_0
  obtain ⟨Ht1_1, Hf1_1⟩ := oi H
  by_cases c1_1 : x2 = 1
  · have H := Ht1_1 c1_1
    refine g_tsw (c := 1) hF (dAt tX3_tellOf_ok 1 rfl rfl) c1_1 (by decide) (by decide) rfl rfl ?_
    refine g_p (S' := [.ref a]) hF tX3_tellOf_ok 7 1 rfl rfl rfl rfl ?_
    refine g_getR hF (dAt tX3_tellOf_ok 8 rfl rfl) flX3_15 hS.1 rfl ?_
    refine g_p (S' := [.int x1, .ref (a + 2)]) hF tX3_tellOf_ok 9 1 rfl rfl rfl rfl ?_
    obtain ⟨v4, e5, H⟩ := ob H
    refine g_ild hF (dAt tX3_tellOf_ok 10 rfl rfl) hS.2.2.1 e5 ?_
    exact g_iret hF (en_i H hE) (dAt tX3_tellOf_ok 11 rfl rfl) (by decide) (by decide)
  have H := Hf1_1 c1_1
  obtain ⟨Ht1_2, Hf1_2⟩ := oi H
  by_cases c1_2 : x2 = 2
  · have H := Ht1_2 c1_2
    refine g_tsw (c := 2) hF (dAt tX3_tellOf_ok 1 rfl rfl) c1_2 (by decide) (by decide) rfl rfl ?_
    refine g_p (S' := [.ref a]) hF tX3_tellOf_ok 12 1 rfl rfl rfl rfl ?_
    refine g_getR hF (dAt tX3_tellOf_ok 13 rfl rfl) flX3_18 hS.1 rfl ?_
    refine g_p (S' := [.int x1, .ref (a + 3)]) hF tX3_tellOf_ok 14 1 rfl rfl rfl rfl ?_
    obtain ⟨v6, e7, H⟩ := ob H
    refine g_ild hF (dAt tX3_tellOf_ok 15 rfl rfl) hS.2.2.2.1 e7 ?_
    exact g_iret hF (en_i H hE) (dAt tX3_tellOf_ok 16 rfl rfl) (by decide) (by decide)
  have H := Hf1_2 c1_2
  obtain ⟨Ht1_3, Hf1_3⟩ := oi H
  by_cases c1_3 : x2 = 3
  · have H := Ht1_3 c1_3
    refine g_tsw (c := 3) hF (dAt tX3_tellOf_ok 1 rfl rfl) c1_3 (by decide) (by decide) rfl rfl ?_
    refine g_p (S' := [.ref a]) hF tX3_tellOf_ok 17 1 rfl rfl rfl rfl ?_
    refine g_getR hF (dAt tX3_tellOf_ok 18 rfl rfl) flX3_21 hS.1 rfl ?_
    refine g_p (S' := [.int x1, .ref (a + 4)]) hF tX3_tellOf_ok 19 1 rfl rfl rfl rfl ?_
    obtain ⟨v8, e9, H⟩ := ob H
    refine g_ild hF (dAt tX3_tellOf_ok 20 rfl rfl) hS.2.2.2.2.1 e9 ?_
    exact g_iret hF (en_i H hE) (dAt tX3_tellOf_ok 21 rfl rfl) (by decide) (by decide)
  have H := Hf1_3 c1_3
  obtain ⟨Ht1_4, Hf1_4⟩ := oi H
  by_cases c1_4 : x2 = 4
  · have H := Ht1_4 c1_4
    refine g_tsw (c := 4) hF (dAt tX3_tellOf_ok 1 rfl rfl) c1_4 (by decide) (by decide) rfl rfl ?_
    refine g_p (S' := [.ref a]) hF tX3_tellOf_ok 22 1 rfl rfl rfl rfl ?_
    refine g_getR hF (dAt tX3_tellOf_ok 23 rfl rfl) flX3_24 hS.1 rfl ?_
    refine g_p (S' := [.int x1, .ref (a + 5)]) hF tX3_tellOf_ok 24 1 rfl rfl rfl rfl ?_
    obtain ⟨v10, e11, H⟩ := ob H
    refine g_ild hF (dAt tX3_tellOf_ok 25 rfl rfl) hS.2.2.2.2.2.1 e11 ?_
    exact g_iret hF (en_i H hE) (dAt tX3_tellOf_ok 26 rfl rfl) (by decide) (by decide)
  have H := Hf1_4 c1_4
  obtain ⟨Ht1_5, Hf1_5⟩ := oi H
  by_cases c1_5 : x2 = 5
  · have H := Ht1_5 c1_5
    refine g_tsw (c := 5) hF (dAt tX3_tellOf_ok 1 rfl rfl) c1_5 (by decide) (by decide) rfl rfl ?_
    refine g_p (S' := [.ref a]) hF tX3_tellOf_ok 27 1 rfl rfl rfl rfl ?_
    refine g_getR hF (dAt tX3_tellOf_ok 28 rfl rfl) flX3_27 hS.1 rfl ?_
    refine g_p (S' := [.int x1, .ref (a + 6)]) hF tX3_tellOf_ok 29 1 rfl rfl rfl rfl ?_
    obtain ⟨v12, e13, H⟩ := ob H
    refine g_ild hF (dAt tX3_tellOf_ok 30 rfl rfl) hS.2.2.2.2.2.2.1 e13 ?_
    exact g_iret hF (en_i H hE) (dAt tX3_tellOf_ok 31 rfl rfl) (by decide) (by decide)
  have H := Hf1_5 c1_5
  obtain ⟨Ht1_6, Hf1_6⟩ := oi H
  by_cases c1_6 : x2 = 6
  · have H := Ht1_6 c1_6
    refine g_tsw (c := 6) hF (dAt tX3_tellOf_ok 1 rfl rfl) c1_6 (by decide) (by decide) rfl rfl ?_
    refine g_p (S' := [.int x1, .ref a]) hF tX3_tellOf_ok 32 2 rfl rfl rfl rfl ?_
    obtain ⟨v14, e15, H⟩ := ob H
    refine g_cV (S := []) hF (X3_workerOf_ok (Nat.le_refl _) hS e15 K) mbX3_workerOf mvX3_workerOf mlX3_63 (by omega) (by decide) (dAt tX3_tellOf_ok 34 rfl rfl) hS.1 rfl rfl rfl (Nat.le_of_ble_eq_true rfl) rfl rfl (by decide) (by decide) rfl ?_
    exact g_iret hF (en_i H hE) (dAt tX3_tellOf_ok 35 rfl rfl) (by decide) (by decide)
  have H := Hf1_6 c1_6
  obtain ⟨Ht1_7, Hf1_7⟩ := oi H
  by_cases c1_7 : x2 = 7
  · have H := Ht1_7 c1_7
    refine g_tsw (c := 7) hF (dAt tX3_tellOf_ok 1 rfl rfl) c1_7 (by decide) (by decide) rfl rfl ?_
    refine g_p (S' := [.ref a]) hF tX3_tellOf_ok 36 1 rfl rfl rfl rfl ?_
    refine g_getR hF (dAt tX3_tellOf_ok 37 rfl rfl) flX3_30 hS.1 rfl ?_
    refine g_p (S' := [.int x1, .ref (a + 7)]) hF tX3_tellOf_ok 38 1 rfl rfl rfl rfl ?_
    obtain ⟨v16, e17, H⟩ := ob H
    refine g_ild hF (dAt tX3_tellOf_ok 39 rfl rfl) hS.2.2.2.2.2.2.2.1 e17 ?_
    exact g_iret hF (en_i H hE) (dAt tX3_tellOf_ok 40 rfl rfl) (by decide) (by decide)
  have H := Hf1_7 c1_7
  refine g_tswD hF (dAt tX3_tellOf_ok 1 rfl rfl) (tsw_l 0 7 8 [0, 1, 2, 3, 4, 5, 6, 7] (al1 c1_0 (al1 c1_1 (al1 c1_2 (al1 c1_3 (al1 c1_4 (al1 c1_5 (al1 c1_6 (al1 c1_7 al0)))))))) (by decide) (by decide)) rfl ?_
  refine g_p (S' := [.int (-2)]) hF tX3_tellOf_ok 41 1 rfl rfl rfl rfl ?_
  exact g_iret hF (en_i H hE) (dAt tX3_tellOf_ok 42 rfl rfl) (by decide) (by decide)
def X3_allHours_b4 (a : Nat) (σ : Sig) : Nat → Int32 → Int32 → Option (Int32)
  | 0, _, _ => none
  | fu + 1, x1, x2 => if (σ a 0) ≤ x2 then (some x1) else ((ld 40 (σ (a + 3)) x2).bind fun v2 => X3_allHours_b4 a σ fu (x1 + v2) (x2 + 1))
set_option maxRecDepth 4000 in
set_option maxHeartbeats 1000000 in
theorem X3_allHours_b4_ok {K : Kt} {X : Cx} {D : Nat} {τ : Tau} {nx : Nat} {a : Nat} {res : Int32} {σ : Sig}  (hD : 1 ≤ D) (hF : Fx K X cX3_allHours 3 RX3 D 0 0) (hS : ShX3 τ a) (hE : En K X (some .int) 0 0 (some (.int res)) (τ, σ, nx)) : ∀ (fu : Nat) (x1 x2 : Int32), X3_allHours_b4 a σ fu x1 x2 = some res → G K X 3 0 0 4 [some (.ref a), some (.int x1), some (.int x2)] [] (τ, σ, nx)
  | 0, _, _, H => nomatch H
  | fu + 1, x1, x2, H => by
    refine g_p (S' := [.ref a, .int x2]) hF tX3_allHours_ok 4 2 rfl rfl rfl rfl ?_
    refine g_getI hF (dAt tX3_allHours_ok 6 rfl rfl) flX3_42 hS.1 rfl ?_
    obtain ⟨Ht1, Hf1⟩ := oi H
    refine g_icmp_ge hF (dAt tX3_allHours_ok 7 rfl rfl) rfl (fun c1 => ?_) (fun c1 => ?_)
    · have H := Ht1 c1
      refine g_p (S' := [.int x1]) hF tX3_allHours_ok 17 1 rfl rfl rfl rfl ?_
      exact g_iret hF (en_i H hE) (dAt tX3_allHours_ok 18 rfl rfl) (by decide) (by decide)
    · have H := Hf1 c1
      refine g_p (S' := [.ref a, .int x1]) hF tX3_allHours_ok 8 2 rfl rfl rfl rfl ?_
      refine g_getR hF (dAt tX3_allHours_ok 10 rfl rfl) flX3_18 hS.1 rfl ?_
      refine g_p (S' := [.int x2, .ref (a + 3), .int x1]) hF tX3_allHours_ok 11 1 rfl rfl rfl rfl ?_
      obtain ⟨v2, e3, H⟩ := ob H
      refine g_ild hF (dAt tX3_allHours_ok 12 rfl rfl) hS.2.2.2.1 e3 ?_
      refine g_p (L' := [some (.ref a), some (.int (x1 + v2)), some (.int (x2 + 1))]) (S' := []) hF tX3_allHours_ok 13 3 rfl rfl rfl rfl ?_
      refine g_goto hF (dAt tX3_allHours_ok 16 rfl rfl) rfl ?_
      exact X3_allHours_b4_ok hD hF hS hE fu _ _ H
def X3_allHours_f (a : Nat) (σ : Sig) : Option (Int32) := X3_allHours_b4 a σ FU 0 0
set_option maxRecDepth 4000 in
set_option maxHeartbeats 1000000 in
theorem X3_allHours_ok {D : Nat} {τ : Tau} {nx : Nat} {a : Nat} {σ : Sig} {res : Int32} (hD : 1 ≤ D) (hS : ShX3 τ a) (H : X3_allHours_f a σ = some res) : Ok D 0 0 yX3_allHours cX3_allHours 3 (some .int) [.ref a] (τ, σ, nx) (some (.int res)) (τ, σ, nx) := by
  refine ok_of (by decide +kernel) rfl (Nat.le_of_ble_eq_true rfl) (fun K X hF hE hN L0 hL0 => ?_)
  obtain rfl : [some (.ref a), none, none] = L0 := hL0
  have hF : Fx K X cX3_allHours 3 RX3 D 0 0 := hF
  refine g_p (L' := [some (.ref a), some (.int 0), some (.int 0)]) (S' := []) hF tX3_allHours_ok 0 4 rfl rfl rfl rfl ?_
  exact X3_allHours_b4_ok hD hF hS hE FU _ _ H
def X3_doneCount_b4 (a : Nat) (σ : Sig) : Nat → Int32 → Int32 → Option (Int32)
  | 0, _, _ => none
  | fu + 1, x1, x2 => if (σ a 0) ≤ x2 then (some x1) else ((ld 40 (σ (a + 3)) x2).bind fun v2 => if v2 = 0 then (X3_doneCount_b4 a σ fu (x1 + 1) (x2 + 1)) else (X3_doneCount_b4 a σ fu x1 (x2 + 1)))
set_option maxRecDepth 4000 in
set_option maxHeartbeats 1000000 in
theorem X3_doneCount_b4_ok {K : Kt} {X : Cx} {D : Nat} {τ : Tau} {nx : Nat} {a : Nat} {res : Int32} {σ : Sig}  (hD : 1 ≤ D) (hF : Fx K X cX3_doneCount 3 RX3 D 0 0) (hS : ShX3 τ a) (hE : En K X (some .int) 0 0 (some (.int res)) (τ, σ, nx)) : ∀ (fu : Nat) (x1 x2 : Int32), X3_doneCount_b4 a σ fu x1 x2 = some res → G K X 3 0 0 4 [some (.ref a), some (.int x1), some (.int x2)] [] (τ, σ, nx)
  | 0, _, _, H => nomatch H
  | fu + 1, x1, x2, H => by
    refine g_p (S' := [.ref a, .int x2]) hF tX3_doneCount_ok 4 2 rfl rfl rfl rfl ?_
    refine g_getI hF (dAt tX3_doneCount_ok 6 rfl rfl) flX3_42 hS.1 rfl ?_
    obtain ⟨Ht1, Hf1⟩ := oi H
    refine g_icmp_ge hF (dAt tX3_doneCount_ok 7 rfl rfl) rfl (fun c1 => ?_) (fun c1 => ?_)
    · have H := Ht1 c1
      refine g_p (S' := [.int x1]) hF tX3_doneCount_ok 16 1 rfl rfl rfl rfl ?_
      exact g_iret hF (en_i H hE) (dAt tX3_doneCount_ok 17 rfl rfl) (by decide) (by decide)
    · have H := Hf1 c1
      refine g_p (S' := [.ref a]) hF tX3_doneCount_ok 8 1 rfl rfl rfl rfl ?_
      refine g_getR hF (dAt tX3_doneCount_ok 9 rfl rfl) flX3_18 hS.1 rfl ?_
      refine g_p (S' := [.int x2, .ref (a + 3)]) hF tX3_doneCount_ok 10 1 rfl rfl rfl rfl ?_
      obtain ⟨v2, e3, H⟩ := ob H
      refine g_ild hF (dAt tX3_doneCount_ok 11 rfl rfl) hS.2.2.2.1 e3 ?_
      obtain ⟨Ht4, Hf4⟩ := oi H
      refine g_if_ne hF (dAt tX3_doneCount_ok 12 rfl rfl) rfl (fun c4 => ?_) (fun c4 => ?_)
      · have H := Hf4 c4
        refine g_p (L' := [some (.ref a), some (.int x1), some (.int (x2 + 1))]) (S' := []) hF tX3_doneCount_ok 14 1 rfl rfl rfl rfl ?_
        refine g_goto hF (dAt tX3_doneCount_ok 15 rfl rfl) rfl ?_
        exact X3_doneCount_b4_ok hD hF hS hE fu _ _ H
      · have H := Ht4 c4
        refine g_p (L' := [some (.ref a), some (.int (x1 + 1)), some (.int (x2 + 1))]) (S' := []) hF tX3_doneCount_ok 13 2 rfl rfl rfl rfl ?_
        refine g_goto hF (dAt tX3_doneCount_ok 15 rfl rfl) rfl ?_
        exact X3_doneCount_b4_ok hD hF hS hE fu _ _ H
def X3_doneCount_f (a : Nat) (σ : Sig) : Option (Int32) := X3_doneCount_b4 a σ FU 0 0
set_option maxRecDepth 4000 in
set_option maxHeartbeats 1000000 in
theorem X3_doneCount_ok {D : Nat} {τ : Tau} {nx : Nat} {a : Nat} {σ : Sig} {res : Int32} (hD : 1 ≤ D) (hS : ShX3 τ a) (H : X3_doneCount_f a σ = some res) : Ok D 0 0 yX3_doneCount cX3_doneCount 3 (some .int) [.ref a] (τ, σ, nx) (some (.int res)) (τ, σ, nx) := by
  refine ok_of (by decide +kernel) rfl (Nat.le_of_ble_eq_true rfl) (fun K X hF hE hN L0 hL0 => ?_)
  obtain rfl : [some (.ref a), none, none] = L0 := hL0
  have hF : Fx K X cX3_doneCount 3 RX3 D 0 0 := hF
  refine g_p (L' := [some (.ref a), some (.int 0), some (.int 0)]) (S' := []) hF tX3_doneCount_ok 0 4 rfl rfl rfl rfl ?_
  exact X3_doneCount_b4_ok hD hF hS hE FU _ _ H
def X3_hoursOf_b49 (a : Nat) (σ : Sig) (k5 : Int32 → Int32 → Int32 → Int32 → Option (Int32)) (x1 x2 x3 x4 y0 : Int32) : Option (Int32) := if y0 = x1 then ((ld 40 (σ (a + 3)) x4).bind fun v2 => k5 x1 x2 (x3 + v2) (x4 + 1)) else (k5 x1 x2 x3 (x4 + 1))
set_option maxRecDepth 4000 in
set_option maxHeartbeats 1000000 in
theorem X3_hoursOf_b49_ok {K : Kt} {X : Cx} {D : Nat} {τ : Tau} {nx : Nat} {a : Nat} {res : Int32} {σ : Sig}  (hD : 2 ≤ D) (hF : Fx K X cX3_hoursOf 6 RX3 D 0 0) (hS : ShX3 τ a) (hE : En K X (some .int) 0 0 (some (.int res)) (τ, σ, nx)) {k5 : Int32 → Int32 → Int32 → Int32 → Option (Int32)} (hk5 : ∀ (x1 x2 x3 x4 : Int32), k5 x1 x2 x3 x4 = some res → G K X 6 0 0 5 [some (.ref a), some (.int x1), some (.int x2), some (.int x3), some (.int x4), none] [] (τ, σ, nx)) {x1 x2 x3 x4 y0 : Int32} (H : X3_hoursOf_b49 a σ k5 x1 x2 x3 x4 y0 = some res) : G K X 6 0 0 49 [some (.ref a), some (.int x1), some (.int x2), some (.int x3), some (.int x4), none] [.int y0] (τ, σ, nx) := by
  refine g_p (L' := [some (.ref a), some (.int x1), some (.int x2), some (.int x3), some (.int x4), some (.int y0)]) (S' := [.int x1, .int y0]) hF tX3_hoursOf_ok 26 3 rfl rfl rfl rfl ?_
  obtain ⟨Ht1, Hf1⟩ := oi H
  refine g_icmp_ne hF (dAt tX3_hoursOf_ok 29 rfl rfl) rfl (fun c1 => ?_) (fun c1 => ?_)
  · have H := Hf1 c1
    refine g_p (L' := [some (.ref a), some (.int x1), some (.int x2), some (.int x3), some (.int (x4 + 1)), some (.int y0)]) (S' := []) hF tX3_hoursOf_ok 37 1 rfl rfl rfl rfl ?_
    refine g_goto hF (dAt tX3_hoursOf_ok 38 rfl rfl) rfl ?_
    refine g_m [true, true, true, true, true, false] rfl ?_
    exact hk5 _ _ _ _ H
  · have H := Ht1 c1
    refine g_p (S' := [.ref a, .int x3]) hF tX3_hoursOf_ok 30 2 rfl rfl rfl rfl ?_
    refine g_getR hF (dAt tX3_hoursOf_ok 32 rfl rfl) flX3_18 hS.1 rfl ?_
    refine g_p (S' := [.int x4, .ref (a + 3), .int x3]) hF tX3_hoursOf_ok 33 1 rfl rfl rfl rfl ?_
    obtain ⟨v2, e3, H⟩ := ob H
    refine g_ild hF (dAt tX3_hoursOf_ok 34 rfl rfl) hS.2.2.2.1 e3 ?_
    refine g_p (L' := [some (.ref a), some (.int x1), some (.int x2), some (.int (x3 + v2)), some (.int (x4 + 1)), some (.int y0)]) (S' := []) hF tX3_hoursOf_ok 35 3 rfl rfl rfl rfl ?_
    refine g_goto hF (dAt tX3_hoursOf_ok 38 rfl rfl) rfl ?_
    refine g_m [true, true, true, true, true, false] rfl ?_
    exact hk5 _ _ _ _ H
def X3_hoursOf_b5 (a : Nat) (σ : Sig) : Nat → Int32 → Int32 → Int32 → Int32 → Option (Int32)
  | 0, _, _, _, _ => none
  | fu + 1, x1, x2, x3, x4 => if (σ a 0) ≤ x4 then (some x3) else (if x2 = 0 then ((ld 40 (σ (a + 1)) x4).bind fun v8 => X3_hoursOf_b49 a σ (X3_hoursOf_b5 a σ fu) x1 x2 x3 x4 v8) else (if x2 = 1 then ((ld 40 (σ (a + 2)) x4).bind fun v6 => X3_hoursOf_b49 a σ (X3_hoursOf_b5 a σ fu) x1 x2 x3 x4 v6) else ((X3_workerOf_f a x4 σ).bind fun v4 => X3_hoursOf_b49 a σ (X3_hoursOf_b5 a σ fu) x1 x2 x3 x4 v4)))
set_option maxRecDepth 4000 in
set_option maxHeartbeats 1000000 in
theorem X3_hoursOf_b5_ok {K : Kt} {X : Cx} {D : Nat} {τ : Tau} {nx : Nat} {a : Nat} {res : Int32} {σ : Sig}  (hD : 2 ≤ D) (hF : Fx K X cX3_hoursOf 6 RX3 D 0 0) (hS : ShX3 τ a) (hE : En K X (some .int) 0 0 (some (.int res)) (τ, σ, nx)) : ∀ (fu : Nat) (x1 x2 x3 x4 : Int32), X3_hoursOf_b5 a σ fu x1 x2 x3 x4 = some res → G K X 6 0 0 5 [some (.ref a), some (.int x1), some (.int x2), some (.int x3), some (.int x4), none] [] (τ, σ, nx)
  | 0, _, _, _, _, H => nomatch H
  | fu + 1, x1, x2, x3, x4, H => by
    refine g_p (S' := [.ref a, .int x4]) hF tX3_hoursOf_ok 4 2 rfl rfl rfl rfl ?_
    refine g_getI hF (dAt tX3_hoursOf_ok 6 rfl rfl) flX3_42 hS.1 rfl ?_
    obtain ⟨Ht1, Hf1⟩ := oi H
    refine g_icmp_ge hF (dAt tX3_hoursOf_ok 7 rfl rfl) rfl (fun c1 => ?_) (fun c1 => ?_)
    · have H := Ht1 c1
      refine g_p (S' := [.int x3]) hF tX3_hoursOf_ok 39 1 rfl rfl rfl rfl ?_
      exact g_iret hF (en_i H hE) (dAt tX3_hoursOf_ok 40 rfl rfl) (by decide) (by decide)
    · have H := Hf1 c1
      refine g_p (S' := [.int x2]) hF tX3_hoursOf_ok 8 1 rfl rfl rfl rfl ?_
      obtain ⟨Ht2, Hf2⟩ := oi H
      refine g_if_ne hF (dAt tX3_hoursOf_ok 9 rfl rfl) rfl (fun c2 => ?_) (fun c2 => ?_)
      · have H := Hf2 c2
        refine g_p (S' := [.int 1, .int x2]) hF tX3_hoursOf_ok 15 2 rfl rfl rfl rfl ?_
        obtain ⟨Ht3, Hf3⟩ := oi H
        refine g_icmp_ne hF (dAt tX3_hoursOf_ok 17 rfl rfl) rfl (fun c3 => ?_) (fun c3 => ?_)
        · have H := Hf3 c3
          refine g_p (S' := [.int x4, .ref a]) hF tX3_hoursOf_ok 23 2 rfl rfl rfl rfl ?_
          obtain ⟨v4, e5, H⟩ := ob H
          refine g_cV (S := []) hF (X3_workerOf_ok (Nat.le_refl _) hS e5 K) mbX3_workerOf mvX3_workerOf mlX3_63 (by omega) (by decide) (dAt tX3_hoursOf_ok 25 rfl rfl) hS.1 rfl rfl rfl (Nat.le_of_ble_eq_true rfl) rfl rfl (by decide) (by decide) rfl ?_
          exact X3_hoursOf_b49_ok hD hF hS hE (fun _ _ _ _ H => X3_hoursOf_b5_ok hD hF hS hE fu _ _ _ _ H) H
        · have H := Ht3 c3
          refine g_p (S' := [.ref a]) hF tX3_hoursOf_ok 18 1 rfl rfl rfl rfl ?_
          refine g_getR hF (dAt tX3_hoursOf_ok 19 rfl rfl) flX3_15 hS.1 rfl ?_
          refine g_p (S' := [.int x4, .ref (a + 2)]) hF tX3_hoursOf_ok 20 1 rfl rfl rfl rfl ?_
          obtain ⟨v6, e7, H⟩ := ob H
          refine g_ild hF (dAt tX3_hoursOf_ok 21 rfl rfl) hS.2.2.1 e7 ?_
          refine g_goto hF (dAt tX3_hoursOf_ok 22 rfl rfl) rfl ?_
          exact X3_hoursOf_b49_ok hD hF hS hE (fun _ _ _ _ H => X3_hoursOf_b5_ok hD hF hS hE fu _ _ _ _ H) H
      · have H := Ht2 c2
        refine g_p (S' := [.ref a]) hF tX3_hoursOf_ok 10 1 rfl rfl rfl rfl ?_
        refine g_getR hF (dAt tX3_hoursOf_ok 11 rfl rfl) flX3_9 hS.1 rfl ?_
        refine g_p (S' := [.int x4, .ref (a + 1)]) hF tX3_hoursOf_ok 12 1 rfl rfl rfl rfl ?_
        obtain ⟨v8, e9, H⟩ := ob H
        refine g_ild hF (dAt tX3_hoursOf_ok 13 rfl rfl) hS.2.1 e9 ?_
        refine g_goto hF (dAt tX3_hoursOf_ok 14 rfl rfl) rfl ?_
        exact X3_hoursOf_b49_ok hD hF hS hE (fun _ _ _ _ H => X3_hoursOf_b5_ok hD hF hS hE fu _ _ _ _ H) H
def X3_hoursOf_f (a : Nat) (x1 x2 : Int32) (σ : Sig) : Option (Int32) := X3_hoursOf_b5 a σ FU x1 x2 0 0
set_option maxRecDepth 4000 in
set_option maxHeartbeats 1000000 in
theorem X3_hoursOf_ok {D : Nat} {τ : Tau} {nx : Nat} {a : Nat} {x1 x2 : Int32} {σ : Sig} {res : Int32} (hD : 2 ≤ D) (hS : ShX3 τ a) (H : X3_hoursOf_f a x1 x2 σ = some res) : Ok D 0 0 yX3_hoursOf cX3_hoursOf 6 (some .int) [.ref a, .int x1, .int x2] (τ, σ, nx) (some (.int res)) (τ, σ, nx) := by
  refine ok_of (by decide +kernel) rfl (Nat.le_of_ble_eq_true rfl) (fun K X hF hE hN L0 hL0 => ?_)
  obtain rfl : [some (.ref a), some (.int x1), some (.int x2), none, none, none] = L0 := hL0
  have hF : Fx K X cX3_hoursOf 6 RX3 D 0 0 := hF
  refine g_p (L' := [some (.ref a), some (.int x1), some (.int x2), some (.int 0), some (.int 0), none]) (S' := []) hF tX3_hoursOf_ok 0 4 rfl rfl rfl rfl ?_
  exact X3_hoursOf_b5_ok hD hF hS hE FU _ _ _ _ H
def X3_tally_b18 (a : Nat) : Nat → Int32 → Sig → Option (Sig)
  | 0, _, _ => none
  | fu + 1, x1, σ => if (σ a 0) ≤ x1 then (some σ) else ((X3_workerOf_f a x1 σ).bind fun v2 => (ld 40 (σ (a + 2)) x1).bind fun v4 => if v2 < 0 then (X3_tally_b18 a fu (x1 + 1) σ) else (if 12 ≤ v2 then (X3_tally_b18 a fu (x1 + 1) σ) else (if v4 < 0 then (X3_tally_b18 a fu (x1 + 1) σ) else (if 12 ≤ v4 then (X3_tally_b18 a fu (x1 + 1) σ) else ((ld 12 (σ (a + 9)) v2).bind fun v10 => (ld 40 (σ (a + 3)) x1).bind fun v12 => (st 12 σ (a + 9) v2 (v10 + v12)).bind fun s14 => (ld 12 (s14 (a + 10)) v4).bind fun v16 => (ld 40 (s14 (a + 3)) x1).bind fun v18 => (st 12 s14 (a + 10) v4 (v16 + v18)).bind fun s20 => X3_tally_b18 a fu (x1 + 1) s20)))))
set_option maxRecDepth 4000 in
set_option maxHeartbeats 1000000 in
theorem X3_tally_b18_ok {K : Kt} {X : Cx} {D : Nat} {τ : Tau} {nx : Nat} {a : Nat} {res : Sig}  (hD : 2 ≤ D) (hF : Fx K X cX3_tally 4 RX3 D 0 0) (hS : ShX3 τ a) (hE : En K X none 0 0 none (τ, res, nx)) : ∀ (fu : Nat) (x1 : Int32) (σ : Sig), X3_tally_b18 a fu x1 σ = some res → G K X 4 0 0 18 [some (.ref a), some (.int x1), none, none] [] (τ, σ, nx)
  | 0, _, _, H => nomatch H
  | fu + 1, x1, σ, H => by
    refine g_p (S' := [.ref a, .int x1]) hF tX3_tally_ok 10 2 rfl rfl rfl rfl ?_
    refine g_getI hF (dAt tX3_tally_ok 12 rfl rfl) flX3_42 hS.1 rfl ?_
    obtain ⟨Ht1, Hf1⟩ := oi H
    refine g_icmp_ge hF (dAt tX3_tally_ok 13 rfl rfl) rfl (fun c1 => ?_) (fun c1 => ?_)
    · have H := Ht1 c1
      exact g_vret hF (en_v H hE) (dAt tX3_tally_ok 57 rfl rfl) (by decide) (by decide)
    · have H := Hf1 c1
      refine g_p (S' := [.int x1, .ref a]) hF tX3_tally_ok 14 2 rfl rfl rfl rfl ?_
      obtain ⟨v2, e3, H⟩ := ob H
      refine g_cV (S := []) hF (X3_workerOf_ok (Nat.le_refl _) hS e3 K) mbX3_workerOf mvX3_workerOf mlX3_63 (by omega) (by decide) (dAt tX3_tally_ok 16 rfl rfl) hS.1 rfl rfl rfl (Nat.le_of_ble_eq_true rfl) rfl rfl (by decide) (by decide) rfl ?_
      refine g_p (L' := [some (.ref a), some (.int x1), some (.int v2), none]) (S' := [.ref a]) hF tX3_tally_ok 17 2 rfl rfl rfl rfl ?_
      refine g_getR hF (dAt tX3_tally_ok 19 rfl rfl) flX3_15 hS.1 rfl ?_
      refine g_p (S' := [.int x1, .ref (a + 2)]) hF tX3_tally_ok 20 1 rfl rfl rfl rfl ?_
      obtain ⟨v4, e5, H⟩ := ob H
      refine g_ild hF (dAt tX3_tally_ok 21 rfl rfl) hS.2.2.1 e5 ?_
      refine g_p (L' := [some (.ref a), some (.int x1), some (.int v2), some (.int v4)]) (S' := [.int v2]) hF tX3_tally_ok 22 2 rfl rfl rfl rfl ?_
      obtain ⟨Ht6, Hf6⟩ := oi H
      refine g_if_lt hF (dAt tX3_tally_ok 24 rfl rfl) rfl (fun c6 => ?_) (fun c6 => ?_)
      · have H := Ht6 c6
        refine g_p (L' := [some (.ref a), some (.int (x1 + 1)), some (.int v2), some (.int v4)]) (S' := []) hF tX3_tally_ok 55 1 rfl rfl rfl rfl ?_
        refine g_goto hF (dAt tX3_tally_ok 56 rfl rfl) rfl ?_
        refine g_m [true, true, false, false] rfl ?_
        exact X3_tally_b18_ok hD hF hS hE fu _ _ H
      · have H := Hf6 c6
        refine g_p (S' := [.int 12, .int v2]) hF tX3_tally_ok 25 2 rfl rfl rfl rfl ?_
        obtain ⟨Ht7, Hf7⟩ := oi H
        refine g_icmp_ge hF (dAt tX3_tally_ok 27 rfl rfl) rfl (fun c7 => ?_) (fun c7 => ?_)
        · have H := Ht7 c7
          refine g_p (L' := [some (.ref a), some (.int (x1 + 1)), some (.int v2), some (.int v4)]) (S' := []) hF tX3_tally_ok 55 1 rfl rfl rfl rfl ?_
          refine g_goto hF (dAt tX3_tally_ok 56 rfl rfl) rfl ?_
          refine g_m [true, true, false, false] rfl ?_
          exact X3_tally_b18_ok hD hF hS hE fu _ _ H
        · have H := Hf7 c7
          refine g_p (S' := [.int v4]) hF tX3_tally_ok 28 1 rfl rfl rfl rfl ?_
          obtain ⟨Ht8, Hf8⟩ := oi H
          refine g_if_lt hF (dAt tX3_tally_ok 29 rfl rfl) rfl (fun c8 => ?_) (fun c8 => ?_)
          · have H := Ht8 c8
            refine g_p (L' := [some (.ref a), some (.int (x1 + 1)), some (.int v2), some (.int v4)]) (S' := []) hF tX3_tally_ok 55 1 rfl rfl rfl rfl ?_
            refine g_goto hF (dAt tX3_tally_ok 56 rfl rfl) rfl ?_
            refine g_m [true, true, false, false] rfl ?_
            exact X3_tally_b18_ok hD hF hS hE fu _ _ H
          · have H := Hf8 c8
            refine g_p (S' := [.int 12, .int v4]) hF tX3_tally_ok 30 2 rfl rfl rfl rfl ?_
            obtain ⟨Ht9, Hf9⟩ := oi H
            refine g_icmp_ge hF (dAt tX3_tally_ok 32 rfl rfl) rfl (fun c9 => ?_) (fun c9 => ?_)
            · have H := Ht9 c9
              refine g_p (L' := [some (.ref a), some (.int (x1 + 1)), some (.int v2), some (.int v4)]) (S' := []) hF tX3_tally_ok 55 1 rfl rfl rfl rfl ?_
              refine g_goto hF (dAt tX3_tally_ok 56 rfl rfl) rfl ?_
              refine g_m [true, true, false, false] rfl ?_
              exact X3_tally_b18_ok hD hF hS hE fu _ _ H
            · have H := Hf9 c9
              refine g_p (S' := [.ref a]) hF tX3_tally_ok 33 1 rfl rfl rfl rfl ?_
              refine g_getR hF (dAt tX3_tally_ok 34 rfl rfl) flX3_36 hS.1 rfl ?_
              refine g_p (S' := [.int v2, .ref (a + 9), .int v2, .ref (a + 9)]) hF tX3_tally_ok 35 2 rfl rfl rfl rfl ?_
              obtain ⟨v10, e11, H⟩ := ob H
              refine g_ild hF (dAt tX3_tally_ok 37 rfl rfl) hS.2.2.2.2.2.2.2.2.2.1 e11 ?_
              refine g_p (S' := [.ref a, .int v10, .int v2, .ref (a + 9)]) hF tX3_tally_ok 38 1 rfl rfl rfl rfl ?_
              refine g_getR hF (dAt tX3_tally_ok 39 rfl rfl) flX3_18 hS.1 rfl ?_
              refine g_p (S' := [.int x1, .ref (a + 3), .int v10, .int v2, .ref (a + 9)]) hF tX3_tally_ok 40 1 rfl rfl rfl rfl ?_
              obtain ⟨v12, e13, H⟩ := ob H
              refine g_ild hF (dAt tX3_tally_ok 41 rfl rfl) hS.2.2.2.1 e13 ?_
              refine g_p (S' := [.int (v10 + v12), .int v2, .ref (a + 9)]) hF tX3_tally_ok 42 1 rfl rfl rfl rfl ?_
              obtain ⟨s14, e15, H⟩ := ob H
              refine g_ist hF (dAt tX3_tally_ok 43 rfl rfl) hS.2.2.2.2.2.2.2.2.2.1 e15 ?_
              refine g_p (S' := [.ref a]) hF tX3_tally_ok 44 1 rfl rfl rfl rfl ?_
              refine g_getR hF (dAt tX3_tally_ok 45 rfl rfl) flX3_39 hS.1 rfl ?_
              refine g_p (S' := [.int v4, .ref (a + 10), .int v4, .ref (a + 10)]) hF tX3_tally_ok 46 2 rfl rfl rfl rfl ?_
              obtain ⟨v16, e17, H⟩ := ob H
              refine g_ild hF (dAt tX3_tally_ok 48 rfl rfl) hS.2.2.2.2.2.2.2.2.2.2 e17 ?_
              refine g_p (S' := [.ref a, .int v16, .int v4, .ref (a + 10)]) hF tX3_tally_ok 49 1 rfl rfl rfl rfl ?_
              refine g_getR hF (dAt tX3_tally_ok 50 rfl rfl) flX3_18 hS.1 rfl ?_
              refine g_p (S' := [.int x1, .ref (a + 3), .int v16, .int v4, .ref (a + 10)]) hF tX3_tally_ok 51 1 rfl rfl rfl rfl ?_
              obtain ⟨v18, e19, H⟩ := ob H
              refine g_ild hF (dAt tX3_tally_ok 52 rfl rfl) hS.2.2.2.1 e19 ?_
              refine g_p (S' := [.int (v16 + v18), .int v4, .ref (a + 10)]) hF tX3_tally_ok 53 1 rfl rfl rfl rfl ?_
              obtain ⟨s20, e21, H⟩ := ob H
              refine g_ist hF (dAt tX3_tally_ok 54 rfl rfl) hS.2.2.2.2.2.2.2.2.2.2 e21 ?_
              refine g_p (L' := [some (.ref a), some (.int (x1 + 1)), some (.int v2), some (.int v4)]) (S' := []) hF tX3_tally_ok 55 1 rfl rfl rfl rfl ?_
              refine g_goto hF (dAt tX3_tally_ok 56 rfl rfl) rfl ?_
              refine g_m [true, true, false, false] rfl ?_
              exact X3_tally_b18_ok hD hF hS hE fu _ _ H
def X3_tally_f (a : Nat) (σ : Sig) : Option (Sig) := (J7_fill_53178_f (a + 9) 12 0 σ).bind fun s1 => (J7_fill_53178_f (a + 10) 12 0 s1).bind fun s3 => X3_tally_b18 a FU 0 s3
set_option maxRecDepth 4000 in
set_option maxHeartbeats 1000000 in
theorem X3_tally_ok {D : Nat} {τ : Tau} {nx : Nat} {a : Nat} {σ : Sig} {res : Sig} (hD : 2 ≤ D) (hS : ShX3 τ a) (H : X3_tally_f a σ = some res) : Ok D 0 0 yX3_tally cX3_tally 4 none [.ref a] (τ, σ, nx) none (τ, res, nx) := by
  refine ok_of (by decide +kernel) rfl (Nat.le_of_ble_eq_true rfl) (fun K X hF hE hN L0 hL0 => ?_)
  obtain rfl : [some (.ref a), none, none, none] = L0 := hL0
  have hF : Fx K X cX3_tally 4 RX3 D 0 0 := hF
  refine g_p (S' := [.ref a]) hF tX3_tally_ok 0 1 rfl rfl rfl rfl ?_
  refine g_getR hF (dAt tX3_tally_ok 1 rfl rfl) flX3_36 hS.1 rfl ?_
  refine g_p (S' := [.int 0, .ref (a + 9)]) hF tX3_tally_ok 2 1 rfl rfl rfl rfl ?_
  obtain ⟨s1, e2, H⟩ := ob H
  refine g_cS (S := []) hF (J7_fill_53178_ok (Nat.le_refl _) hS.2.2.2.2.2.2.2.2.2.1 e2 K) mbJ7_fill_53178 msJ7_fill_53178 mlX3_67 (by omega) (by decide) (dAt tX3_tally_ok 3 rfl rfl) rfl rfl (Nat.le_of_ble_eq_true rfl) rfl rfl (by decide) (by decide) rfl ?_
  refine g_p (S' := [.ref a]) hF tX3_tally_ok 4 1 rfl rfl rfl rfl ?_
  refine g_getR hF (dAt tX3_tally_ok 5 rfl rfl) flX3_39 hS.1 rfl ?_
  refine g_p (S' := [.int 0, .ref (a + 10)]) hF tX3_tally_ok 6 1 rfl rfl rfl rfl ?_
  obtain ⟨s3, e4, H⟩ := ob H
  refine g_cS (S := []) hF (J7_fill_53178_ok (Nat.le_refl _) hS.2.2.2.2.2.2.2.2.2.2 e4 K) mbJ7_fill_53178 msJ7_fill_53178 mlX3_67 (by omega) (by decide) (dAt tX3_tally_ok 7 rfl rfl) rfl rfl (Nat.le_of_ble_eq_true rfl) rfl rfl (by decide) (by decide) rfl ?_
  refine g_p (L' := [some (.ref a), some (.int 0), none, none]) (S' := []) hF tX3_tally_ok 8 2 rfl rfl rfl rfl ?_
  exact X3_tally_b18_ok hD hF hS hE FU _ _ H
def X3_goesAhead_f (a : Nat) (x1 x2 x3 : Int32) (σ : Sig) : Option (Int32) := if x3 = 0 then (some 0) else (if x3 = 1 then ((ld 40 (σ (a + 3)) x1).bind fun v8 => (ld 40 (σ (a + 3)) x2).bind fun v10 => if v10 ≤ v8 then (some 0) else (some 1)) else ((ld 40 (σ (a + 3)) x1).bind fun v3 => (ld 40 (σ (a + 3)) x2).bind fun v5 => if v3 ≤ v5 then (some 0) else (some 1)))
set_option maxRecDepth 4000 in
set_option maxHeartbeats 1000000 in
theorem X3_goesAhead_ok {D : Nat} {τ : Tau} {nx : Nat} {a : Nat} {x1 x2 x3 : Int32} {σ : Sig} {res : Int32} (hD : 1 ≤ D) (hS : ShX3 τ a) (H : X3_goesAhead_f a x1 x2 x3 σ = some res) : Ok D 0 0 yX3_goesAhead cX3_goesAhead 4 (some .boolean) [.ref a, .int x1, .int x2, .int x3] (τ, σ, nx) (some (.int res)) (τ, σ, nx) := by
  refine ok_of (by decide +kernel) rfl (Nat.le_of_ble_eq_true rfl) (fun K X hF hE hN L0 hL0 => ?_)
  obtain rfl : [some (.ref a), some (.int x1), some (.int x2), some (.int x3)] = L0 := hL0
  have hF : Fx K X cX3_goesAhead 4 RX3 D 0 0 := hF
  refine g_p (S' := [.int x3]) hF tX3_goesAhead_ok 0 1 rfl rfl rfl rfl ?_
  obtain ⟨Ht1, Hf1⟩ := oi H
  refine g_if_ne hF (dAt tX3_goesAhead_ok 1 rfl rfl) rfl (fun c1 => ?_) (fun c1 => ?_)
  · have H := Hf1 c1
    refine g_p (S' := [.int 1, .int x3]) hF tX3_goesAhead_ok 4 2 rfl rfl rfl rfl ?_
    obtain ⟨Ht2, Hf2⟩ := oi H
    refine g_icmp_ne hF (dAt tX3_goesAhead_ok 6 rfl rfl) rfl (fun c2 => ?_) (fun c2 => ?_)
    · have H := Hf2 c2
      refine g_p (S' := [.ref a]) hF tX3_goesAhead_ok 20 1 rfl rfl rfl rfl ?_
      refine g_getR hF (dAt tX3_goesAhead_ok 21 rfl rfl) flX3_18 hS.1 rfl ?_
      refine g_p (S' := [.int x1, .ref (a + 3)]) hF tX3_goesAhead_ok 22 1 rfl rfl rfl rfl ?_
      obtain ⟨v3, e4, H⟩ := ob H
      refine g_ild hF (dAt tX3_goesAhead_ok 23 rfl rfl) hS.2.2.2.1 e4 ?_
      refine g_p (S' := [.ref a, .int v3]) hF tX3_goesAhead_ok 24 1 rfl rfl rfl rfl ?_
      refine g_getR hF (dAt tX3_goesAhead_ok 25 rfl rfl) flX3_18 hS.1 rfl ?_
      refine g_p (S' := [.int x2, .ref (a + 3), .int v3]) hF tX3_goesAhead_ok 26 1 rfl rfl rfl rfl ?_
      obtain ⟨v5, e6, H⟩ := ob H
      refine g_ild hF (dAt tX3_goesAhead_ok 27 rfl rfl) hS.2.2.2.1 e6 ?_
      obtain ⟨Ht7, Hf7⟩ := oi H
      refine g_icmp_le hF (dAt tX3_goesAhead_ok 28 rfl rfl) rfl (fun c7 => ?_) (fun c7 => ?_)
      · have H := Ht7 c7
        refine g_p (S' := [.int 0]) hF tX3_goesAhead_ok 31 1 rfl rfl rfl rfl ?_
        exact g_zret hF (en_i H hE) (Or.inl rfl) (dAt tX3_goesAhead_ok 32 rfl rfl) (by decide) (by decide)
      · have H := Hf7 c7
        refine g_p (S' := [.int 1]) hF tX3_goesAhead_ok 29 1 rfl rfl rfl rfl ?_
        refine g_goto hF (dAt tX3_goesAhead_ok 30 rfl rfl) rfl ?_
        exact g_zret hF (en_i H hE) (Or.inr rfl) (dAt tX3_goesAhead_ok 32 rfl rfl) (by decide) (by decide)
    · have H := Ht2 c2
      refine g_p (S' := [.ref a]) hF tX3_goesAhead_ok 7 1 rfl rfl rfl rfl ?_
      refine g_getR hF (dAt tX3_goesAhead_ok 8 rfl rfl) flX3_18 hS.1 rfl ?_
      refine g_p (S' := [.int x1, .ref (a + 3)]) hF tX3_goesAhead_ok 9 1 rfl rfl rfl rfl ?_
      obtain ⟨v8, e9, H⟩ := ob H
      refine g_ild hF (dAt tX3_goesAhead_ok 10 rfl rfl) hS.2.2.2.1 e9 ?_
      refine g_p (S' := [.ref a, .int v8]) hF tX3_goesAhead_ok 11 1 rfl rfl rfl rfl ?_
      refine g_getR hF (dAt tX3_goesAhead_ok 12 rfl rfl) flX3_18 hS.1 rfl ?_
      refine g_p (S' := [.int x2, .ref (a + 3), .int v8]) hF tX3_goesAhead_ok 13 1 rfl rfl rfl rfl ?_
      obtain ⟨v10, e11, H⟩ := ob H
      refine g_ild hF (dAt tX3_goesAhead_ok 14 rfl rfl) hS.2.2.2.1 e11 ?_
      obtain ⟨Ht12, Hf12⟩ := oi H
      refine g_icmp_ge hF (dAt tX3_goesAhead_ok 15 rfl rfl) rfl (fun c12 => ?_) (fun c12 => ?_)
      · have H := Ht12 c12
        refine g_p (S' := [.int 0]) hF tX3_goesAhead_ok 18 1 rfl rfl rfl rfl ?_
        refine g_goto hF (dAt tX3_goesAhead_ok 19 rfl rfl) rfl ?_
        exact g_zret hF (en_i H hE) (Or.inl rfl) (dAt tX3_goesAhead_ok 32 rfl rfl) (by decide) (by decide)
      · have H := Hf12 c12
        refine g_p (S' := [.int 1]) hF tX3_goesAhead_ok 16 1 rfl rfl rfl rfl ?_
        refine g_goto hF (dAt tX3_goesAhead_ok 17 rfl rfl) rfl ?_
        exact g_zret hF (en_i H hE) (Or.inr rfl) (dAt tX3_goesAhead_ok 32 rfl rfl) (by decide) (by decide)
  · have H := Ht1 c1
    refine g_p (S' := [.int 0]) hF tX3_goesAhead_ok 2 1 rfl rfl rfl rfl ?_
    exact g_zret hF (en_i H hE) (Or.inl rfl) (dAt tX3_goesAhead_ok 3 rfl rfl) (by decide) (by decide)
def X3_findWhoMay_b63 (a : Nat) (r1 : Nat) (k10 : Int32 → Int32 → Int32 → Sig → Option (Int32 × Sig)) (x2 x3 x4 x5 : Int32) (σ : Sig) : Option (Int32 × Sig) := (st 40 σ (a + 8) x4 (x5 &&& x2)).bind fun s1 => (ld 40 (s1 (a + 3)) x4).bind fun v3 => if v3 ≤ 0 then (k10 x2 x3 (x4 + 1) s1) else ((ld 40 (s1 (a + 8)) x4).bind fun v6 => if v6 = 0 then (k10 x2 0 (x4 + 1) s1) else (k10 x2 x3 (x4 + 1) s1))
set_option maxRecDepth 4000 in
set_option maxHeartbeats 1000000 in
theorem X3_findWhoMay_b63_ok {K : Kt} {X : Cx} {D : Nat} {τ : Tau} {nx : Nat} {a : Nat} {r1 : Nat} {res : Int32} {rsg : Sig}  (hD : 2 ≤ D) (hF : Fx K X cX3_findWhoMay 6 RX3 D 0 0) (hS : ShX3 τ a) (hr1 : ShX4 τ r1) (hE : En K X (some .boolean) 0 0 (some (.int res)) (τ, rsg, nx)) {k10 : Int32 → Int32 → Int32 → Sig → Option (Int32 × Sig)} (hk10 : ∀ (x2 x3 x4 : Int32) (σ : Sig), k10 x2 x3 x4 σ = some (res, rsg) → G K X 6 0 0 10 [some (.ref a), none, some (.int x2), some (.int x3), some (.int x4), none] [] (τ, σ, nx)) {x2 x3 x4 x5 : Int32} {σ : Sig} (H : X3_findWhoMay_b63 a r1 k10 x2 x3 x4 x5 σ = some (res, rsg)) : G K X 6 0 0 63 [some (.ref a), none, some (.int x2), some (.int x3), some (.int x4), some (.int x5)] [] (τ, σ, nx) := by
  refine g_p (S' := [.ref a]) hF tX3_findWhoMay_ok 38 1 rfl rfl rfl rfl ?_
  refine g_getR hF (dAt tX3_findWhoMay_ok 39 rfl rfl) flX3_33 hS.1 rfl ?_
  refine g_p (S' := [.int (x5 &&& x2), .int x4, .ref (a + 8)]) hF tX3_findWhoMay_ok 40 4 rfl rfl rfl rfl ?_
  obtain ⟨s1, e2, H⟩ := ob H
  refine g_ist hF (dAt tX3_findWhoMay_ok 44 rfl rfl) hS.2.2.2.2.2.2.2.2.1 e2 ?_
  refine g_p (S' := [.ref a]) hF tX3_findWhoMay_ok 45 1 rfl rfl rfl rfl ?_
  refine g_getR hF (dAt tX3_findWhoMay_ok 46 rfl rfl) flX3_18 hS.1 rfl ?_
  refine g_p (S' := [.int x4, .ref (a + 3)]) hF tX3_findWhoMay_ok 47 1 rfl rfl rfl rfl ?_
  obtain ⟨v3, e4, H⟩ := ob H
  refine g_ild hF (dAt tX3_findWhoMay_ok 48 rfl rfl) hS.2.2.2.1 e4 ?_
  obtain ⟨Ht5, Hf5⟩ := oi H
  refine g_if_le hF (dAt tX3_findWhoMay_ok 49 rfl rfl) rfl (fun c5 => ?_) (fun c5 => ?_)
  · have H := Ht5 c5
    refine g_p (L' := [some (.ref a), none, some (.int x2), some (.int x3), some (.int (x4 + 1)), some (.int x5)]) (S' := []) hF tX3_findWhoMay_ok 57 1 rfl rfl rfl rfl ?_
    refine g_goto hF (dAt tX3_findWhoMay_ok 58 rfl rfl) rfl ?_
    refine g_m [true, false, true, true, true, false] rfl ?_
    exact hk10 _ _ _ _ H
  · have H := Hf5 c5
    refine g_p (S' := [.ref a]) hF tX3_findWhoMay_ok 50 1 rfl rfl rfl rfl ?_
    refine g_getR hF (dAt tX3_findWhoMay_ok 51 rfl rfl) flX3_33 hS.1 rfl ?_
    refine g_p (S' := [.int x4, .ref (a + 8)]) hF tX3_findWhoMay_ok 52 1 rfl rfl rfl rfl ?_
    obtain ⟨v6, e7, H⟩ := ob H
    refine g_ild hF (dAt tX3_findWhoMay_ok 53 rfl rfl) hS.2.2.2.2.2.2.2.2.1 e7 ?_
    obtain ⟨Ht8, Hf8⟩ := oi H
    refine g_if_ne hF (dAt tX3_findWhoMay_ok 54 rfl rfl) rfl (fun c8 => ?_) (fun c8 => ?_)
    · have H := Hf8 c8
      refine g_p (L' := [some (.ref a), none, some (.int x2), some (.int x3), some (.int (x4 + 1)), some (.int x5)]) (S' := []) hF tX3_findWhoMay_ok 57 1 rfl rfl rfl rfl ?_
      refine g_goto hF (dAt tX3_findWhoMay_ok 58 rfl rfl) rfl ?_
      refine g_m [true, false, true, true, true, false] rfl ?_
      exact hk10 _ _ _ _ H
    · have H := Ht8 c8
      refine g_p (L' := [some (.ref a), none, some (.int x2), some (.int 0), some (.int (x4 + 1)), some (.int x5)]) (S' := []) hF tX3_findWhoMay_ok 55 3 rfl rfl rfl rfl ?_
      refine g_goto hF (dAt tX3_findWhoMay_ok 58 rfl rfl) rfl ?_
      refine g_m [true, false, true, true, true, false] rfl ?_
      exact hk10 _ _ _ _ H
def X3_findWhoMay_b10 (a : Nat) (r1 : Nat) : Nat → Int32 → Int32 → Int32 → Sig → Option (Int32 × Sig)
  | 0, _, _, _, _ => none
  | fu + 1, x2, x3, x4, σ => if (σ a 0) ≤ x4 then (if x3 = 0 ∨ x3 = 1 then some (x3, σ) else none) else ((ld 40 (σ (a + 6)) x4).bind fun v2 => (ld 40 (σ (a + 1)) x4).bind fun v4 => (ld 40 (σ (a + 5)) x4).bind fun v6 => if v6 = (-1) then (X3_findWhoMay_b63 a r1 (X3_findWhoMay_b10 a r1 fu) x2 x3 x4 (v2 ||| (1 <<< (v4 &&& 31))) σ) else ((ld 40 (σ (a + 5)) x4).bind fun v9 => X3_findWhoMay_b63 a r1 (X3_findWhoMay_b10 a r1 fu) x2 x3 x4 ((v2 ||| (1 <<< (v4 &&& 31))) ||| (1 <<< (v9 &&& 31))) σ))
set_option maxRecDepth 4000 in
set_option maxHeartbeats 1000000 in
theorem X3_findWhoMay_b10_ok {K : Kt} {X : Cx} {D : Nat} {τ : Tau} {nx : Nat} {a : Nat} {r1 : Nat} {res : Int32} {rsg : Sig}  (hD : 2 ≤ D) (hF : Fx K X cX3_findWhoMay 6 RX3 D 0 0) (hS : ShX3 τ a) (hr1 : ShX4 τ r1) (hE : En K X (some .boolean) 0 0 (some (.int res)) (τ, rsg, nx)) : ∀ (fu : Nat) (x2 x3 x4 : Int32) (σ : Sig), X3_findWhoMay_b10 a r1 fu x2 x3 x4 σ = some (res, rsg) → G K X 6 0 0 10 [some (.ref a), none, some (.int x2), some (.int x3), some (.int x4), none] [] (τ, σ, nx)
  | 0, _, _, _, _, H => nomatch H
  | fu + 1, x2, x3, x4, σ, H => by
    refine g_p (S' := [.ref a, .int x4]) hF tX3_findWhoMay_ok 7 2 rfl rfl rfl rfl ?_
    refine g_getI hF (dAt tX3_findWhoMay_ok 9 rfl rfl) flX3_42 hS.1 rfl ?_
    obtain ⟨Ht1, Hf1⟩ := oi H
    refine g_icmp_ge hF (dAt tX3_findWhoMay_ok 10 rfl rfl) rfl (fun c1 => ?_) (fun c1 => ?_)
    · have H := Ht1 c1
      refine g_p (S' := [.int x3]) hF tX3_findWhoMay_ok 59 1 rfl rfl rfl rfl ?_
      obtain ⟨hb, H⟩ := oy H
      exact g_zret hF (en_p H hE) hb (dAt tX3_findWhoMay_ok 60 rfl rfl) (by decide) (by decide)
    · have H := Hf1 c1
      refine g_p (S' := [.ref a]) hF tX3_findWhoMay_ok 11 1 rfl rfl rfl rfl ?_
      refine g_getR hF (dAt tX3_findWhoMay_ok 12 rfl rfl) flX3_27 hS.1 rfl ?_
      refine g_p (S' := [.int x4, .ref (a + 6)]) hF tX3_findWhoMay_ok 13 1 rfl rfl rfl rfl ?_
      obtain ⟨v2, e3, H⟩ := ob H
      refine g_ild hF (dAt tX3_findWhoMay_ok 14 rfl rfl) hS.2.2.2.2.2.2.1 e3 ?_
      refine g_p (S' := [.ref a, .int 1, .int v2]) hF tX3_findWhoMay_ok 15 2 rfl rfl rfl rfl ?_
      refine g_getR hF (dAt tX3_findWhoMay_ok 17 rfl rfl) flX3_9 hS.1 rfl ?_
      refine g_p (S' := [.int x4, .ref (a + 1), .int 1, .int v2]) hF tX3_findWhoMay_ok 18 1 rfl rfl rfl rfl ?_
      obtain ⟨v4, e5, H⟩ := ob H
      refine g_ild hF (dAt tX3_findWhoMay_ok 19 rfl rfl) hS.2.1 e5 ?_
      refine g_p (L' := [some (.ref a), none, some (.int x2), some (.int x3), some (.int x4), some (.int (v2 ||| (1 <<< (v4 &&& 31))))]) (S' := [.ref a]) hF tX3_findWhoMay_ok 20 4 rfl rfl rfl rfl ?_
      refine g_getR hF (dAt tX3_findWhoMay_ok 24 rfl rfl) flX3_24 hS.1 rfl ?_
      refine g_p (S' := [.int x4, .ref (a + 5)]) hF tX3_findWhoMay_ok 25 1 rfl rfl rfl rfl ?_
      obtain ⟨v6, e7, H⟩ := ob H
      refine g_ild hF (dAt tX3_findWhoMay_ok 26 rfl rfl) hS.2.2.2.2.2.1 e7 ?_
      refine g_p (S' := [.int (-1), .int v6]) hF tX3_findWhoMay_ok 27 1 rfl rfl rfl rfl ?_
      obtain ⟨Ht8, Hf8⟩ := oi H
      refine g_icmp_eq hF (dAt tX3_findWhoMay_ok 28 rfl rfl) rfl (fun c8 => ?_) (fun c8 => ?_)
      · have H := Ht8 c8
        exact X3_findWhoMay_b63_ok hD hF hS hr1 hE (fun _ _ _ _ H => X3_findWhoMay_b10_ok hD hF hS hr1 hE fu _ _ _ _ H) H
      · have H := Hf8 c8
        refine g_p (S' := [.ref a, .int 1, .int (v2 ||| (1 <<< (v4 &&& 31)))]) hF tX3_findWhoMay_ok 29 3 rfl rfl rfl rfl ?_
        refine g_getR hF (dAt tX3_findWhoMay_ok 32 rfl rfl) flX3_24 hS.1 rfl ?_
        refine g_p (S' := [.int x4, .ref (a + 5), .int 1, .int (v2 ||| (1 <<< (v4 &&& 31)))]) hF tX3_findWhoMay_ok 33 1 rfl rfl rfl rfl ?_
        obtain ⟨v9, e10, H⟩ := ob H
        refine g_ild hF (dAt tX3_findWhoMay_ok 34 rfl rfl) hS.2.2.2.2.2.1 e10 ?_
        refine g_p (L' := [some (.ref a), none, some (.int x2), some (.int x3), some (.int x4), some (.int ((v2 ||| (1 <<< (v4 &&& 31))) ||| (1 <<< (v9 &&& 31))))]) (S' := []) hF tX3_findWhoMay_ok 35 3 rfl rfl rfl rfl ?_
        exact X3_findWhoMay_b63_ok hD hF hS hr1 hE (fun _ _ _ _ H => X3_findWhoMay_b10_ok hD hF hS hr1 hE fu _ _ _ _ H) H
def X3_findWhoMay_f (a : Nat) (r1 : Nat) (σ : Sig) : Option (Int32 × Sig) := (X4_noChildren_f r1 σ).bind fun v1 => X3_findWhoMay_b10 a r1 FU v1 1 0 σ
set_option maxRecDepth 4000 in
set_option maxHeartbeats 1000000 in
theorem X3_findWhoMay_ok {D : Nat} {τ : Tau} {nx : Nat} {a : Nat} {r1 : Nat} {σ : Sig} {res : Int32} {rsg : Sig} (hD : 2 ≤ D) (hS : ShX3 τ a) (hr1 : ShX4 τ r1) (H : X3_findWhoMay_f a r1 σ = some (res, rsg)) : Ok D 0 0 yX3_findWhoMay cX3_findWhoMay 6 (some .boolean) [.ref a, .ref r1] (τ, σ, nx) (some (.int res)) (τ, rsg, nx) := by
  refine ok_of (by decide +kernel) rfl (Nat.le_of_ble_eq_true rfl) (fun K X hF hE hN L0 hL0 => ?_)
  obtain rfl : [some (.ref a), some (.ref r1), none, none, none, none] = L0 := hL0
  have hF : Fx K X cX3_findWhoMay 6 RX3 D 0 0 := hF
  refine g_p (S' := [.ref r1]) hF tX3_findWhoMay_ok 0 1 rfl rfl rfl rfl ?_
  obtain ⟨v1, e2, H⟩ := ob H
  refine g_cV (S := []) hF (X4_noChildren_ok (Nat.le_refl _) hr1 e2 K) mbX4_noChildren mvX4_noChildren mlX3_73 (by omega) (by decide) (dAt tX3_findWhoMay_ok 1 rfl rfl) hr1.1 rfl rfl rfl (Nat.le_of_ble_eq_true rfl) rfl rfl (by decide) (by decide) rfl ?_
  refine g_p (L' := [some (.ref a), some (.ref r1), some (.int v1), some (.int 1), some (.int 0), none]) (S' := []) hF tX3_findWhoMay_ok 2 5 rfl rfl rfl rfl ?_
  refine g_m [true, false, true, true, true, false] rfl ?_
  exact X3_findWhoMay_b10_ok hD hF hS hr1 hE FU _ _ _ _ H
def X3_greatestLeft_b4 (a : Nat) (σ : Sig) : Nat → Int32 → Int32 → Option (Int32)
  | 0, _, _ => none
  | fu + 1, x1, x2 => if (σ a 0) ≤ x2 then (some x1) else ((ld 40 (σ (a + 3)) x2).bind fun v2 => X3_greatestLeft_b4 a σ fu (mmax x1 v2) (x2 + 1))
set_option maxRecDepth 4000 in
set_option maxHeartbeats 1000000 in
theorem X3_greatestLeft_b4_ok {K : Kt} {X : Cx} {D : Nat} {τ : Tau} {nx : Nat} {a : Nat} {res : Int32} {σ : Sig}  (hD : 1 ≤ D) (hF : Fx K X cX3_greatestLeft 3 RX3 D 0 0) (hS : ShX3 τ a) (hE : En K X (some .int) 0 0 (some (.int res)) (τ, σ, nx)) : ∀ (fu : Nat) (x1 x2 : Int32), X3_greatestLeft_b4 a σ fu x1 x2 = some res → G K X 3 0 0 4 [some (.ref a), some (.int x1), some (.int x2)] [] (τ, σ, nx)
  | 0, _, _, H => nomatch H
  | fu + 1, x1, x2, H => by
    refine g_p (S' := [.ref a, .int x2]) hF tX3_greatestLeft_ok 4 2 rfl rfl rfl rfl ?_
    refine g_getI hF (dAt tX3_greatestLeft_ok 6 rfl rfl) flX3_42 hS.1 rfl ?_
    obtain ⟨Ht1, Hf1⟩ := oi H
    refine g_icmp_ge hF (dAt tX3_greatestLeft_ok 7 rfl rfl) rfl (fun c1 => ?_) (fun c1 => ?_)
    · have H := Ht1 c1
      refine g_p (S' := [.int x1]) hF tX3_greatestLeft_ok 17 1 rfl rfl rfl rfl ?_
      exact g_iret hF (en_i H hE) (dAt tX3_greatestLeft_ok 18 rfl rfl) (by decide) (by decide)
    · have H := Hf1 c1
      refine g_p (S' := [.ref a, .int x1]) hF tX3_greatestLeft_ok 8 2 rfl rfl rfl rfl ?_
      refine g_getR hF (dAt tX3_greatestLeft_ok 10 rfl rfl) flX3_18 hS.1 rfl ?_
      refine g_p (S' := [.int x2, .ref (a + 3), .int x1]) hF tX3_greatestLeft_ok 11 1 rfl rfl rfl rfl ?_
      obtain ⟨v2, e3, H⟩ := ob H
      refine g_ild hF (dAt tX3_greatestLeft_ok 12 rfl rfl) hS.2.2.2.1 e3 ?_
      refine g_mmax hF mlX3_79 (dAt tX3_greatestLeft_ok 13 rfl rfl) (by omega) (Nat.le_of_ble_eq_true rfl) (by decide) (by decide) ?_
      refine g_p (L' := [some (.ref a), some (.int (mmax x1 v2)), some (.int (x2 + 1))]) (S' := []) hF tX3_greatestLeft_ok 14 2 rfl rfl rfl rfl ?_
      refine g_goto hF (dAt tX3_greatestLeft_ok 16 rfl rfl) rfl ?_
      exact X3_greatestLeft_b4_ok hD hF hS hE fu _ _ H
def X3_greatestLeft_f (a : Nat) (σ : Sig) : Option (Int32) := X3_greatestLeft_b4 a σ FU 0 0
set_option maxRecDepth 4000 in
set_option maxHeartbeats 1000000 in
theorem X3_greatestLeft_ok {D : Nat} {τ : Tau} {nx : Nat} {a : Nat} {σ : Sig} {res : Int32} (hD : 1 ≤ D) (hS : ShX3 τ a) (H : X3_greatestLeft_f a σ = some res) : Ok D 0 0 yX3_greatestLeft cX3_greatestLeft 3 (some .int) [.ref a] (τ, σ, nx) (some (.int res)) (τ, σ, nx) := by
  refine ok_of (by decide +kernel) rfl (Nat.le_of_ble_eq_true rfl) (fun K X hF hE hN L0 hL0 => ?_)
  obtain rfl : [some (.ref a), none, none] = L0 := hL0
  have hF : Fx K X cX3_greatestLeft 3 RX3 D 0 0 := hF
  refine g_p (L' := [some (.ref a), some (.int 0), some (.int 0)]) (S' := []) hF tX3_greatestLeft_ok 0 4 rfl rfl rfl rfl ?_
  exact X3_greatestLeft_b4_ok hD hF hS hE FU _ _ H
def X3_hoursOnlyFor_b4 (a : Nat) (σ : Sig) : Nat → Int32 → Int32 → Int32 → Option (Int32)
  | 0, _, _, _ => none
  | fu + 1, x1, x2, x3 => if (σ a 0) ≤ x3 then (some x2) else ((ld 40 (σ (a + 8)) x3).bind fun v2 => if (v2 &&& (x1 ^^^ (-1))) = 0 then ((ld 40 (σ (a + 3)) x3).bind fun v5 => X3_hoursOnlyFor_b4 a σ fu x1 (x2 + v5) (x3 + 1)) else (X3_hoursOnlyFor_b4 a σ fu x1 x2 (x3 + 1)))
set_option maxRecDepth 4000 in
set_option maxHeartbeats 1000000 in
theorem X3_hoursOnlyFor_b4_ok {K : Kt} {X : Cx} {D : Nat} {τ : Tau} {nx : Nat} {a : Nat} {res : Int32} {σ : Sig}  (hD : 1 ≤ D) (hF : Fx K X cX3_hoursOnlyFor 4 RX3 D 0 0) (hS : ShX3 τ a) (hE : En K X (some .int) 0 0 (some (.int res)) (τ, σ, nx)) : ∀ (fu : Nat) (x1 x2 x3 : Int32), X3_hoursOnlyFor_b4 a σ fu x1 x2 x3 = some res → G K X 4 0 0 4 [some (.ref a), some (.int x1), some (.int x2), some (.int x3)] [] (τ, σ, nx)
  | 0, _, _, _, H => nomatch H
  | fu + 1, x1, x2, x3, H => by
    refine g_p (S' := [.ref a, .int x3]) hF tX3_hoursOnlyFor_ok 4 2 rfl rfl rfl rfl ?_
    refine g_getI hF (dAt tX3_hoursOnlyFor_ok 6 rfl rfl) flX3_42 hS.1 rfl ?_
    obtain ⟨Ht1, Hf1⟩ := oi H
    refine g_icmp_ge hF (dAt tX3_hoursOnlyFor_ok 7 rfl rfl) rfl (fun c1 => ?_) (fun c1 => ?_)
    · have H := Ht1 c1
      refine g_p (S' := [.int x2]) hF tX3_hoursOnlyFor_ok 26 1 rfl rfl rfl rfl ?_
      exact g_iret hF (en_i H hE) (dAt tX3_hoursOnlyFor_ok 27 rfl rfl) (by decide) (by decide)
    · have H := Hf1 c1
      refine g_p (S' := [.ref a]) hF tX3_hoursOnlyFor_ok 8 1 rfl rfl rfl rfl ?_
      refine g_getR hF (dAt tX3_hoursOnlyFor_ok 9 rfl rfl) flX3_33 hS.1 rfl ?_
      refine g_p (S' := [.int x3, .ref (a + 8)]) hF tX3_hoursOnlyFor_ok 10 1 rfl rfl rfl rfl ?_
      obtain ⟨v2, e3, H⟩ := ob H
      refine g_ild hF (dAt tX3_hoursOnlyFor_ok 11 rfl rfl) hS.2.2.2.2.2.2.2.2.1 e3 ?_
      refine g_p (S' := [.int (v2 &&& (x1 ^^^ (-1)))]) hF tX3_hoursOnlyFor_ok 12 4 rfl rfl rfl rfl ?_
      obtain ⟨Ht4, Hf4⟩ := oi H
      refine g_if_ne hF (dAt tX3_hoursOnlyFor_ok 16 rfl rfl) rfl (fun c4 => ?_) (fun c4 => ?_)
      · have H := Hf4 c4
        refine g_p (L' := [some (.ref a), some (.int x1), some (.int x2), some (.int (x3 + 1))]) (S' := []) hF tX3_hoursOnlyFor_ok 24 1 rfl rfl rfl rfl ?_
        refine g_goto hF (dAt tX3_hoursOnlyFor_ok 25 rfl rfl) rfl ?_
        exact X3_hoursOnlyFor_b4_ok hD hF hS hE fu _ _ _ H
      · have H := Ht4 c4
        refine g_p (S' := [.ref a, .int x2]) hF tX3_hoursOnlyFor_ok 17 2 rfl rfl rfl rfl ?_
        refine g_getR hF (dAt tX3_hoursOnlyFor_ok 19 rfl rfl) flX3_18 hS.1 rfl ?_
        refine g_p (S' := [.int x3, .ref (a + 3), .int x2]) hF tX3_hoursOnlyFor_ok 20 1 rfl rfl rfl rfl ?_
        obtain ⟨v5, e6, H⟩ := ob H
        refine g_ild hF (dAt tX3_hoursOnlyFor_ok 21 rfl rfl) hS.2.2.2.1 e6 ?_
        refine g_p (L' := [some (.ref a), some (.int x1), some (.int (x2 + v5)), some (.int (x3 + 1))]) (S' := []) hF tX3_hoursOnlyFor_ok 22 3 rfl rfl rfl rfl ?_
        refine g_goto hF (dAt tX3_hoursOnlyFor_ok 25 rfl rfl) rfl ?_
        exact X3_hoursOnlyFor_b4_ok hD hF hS hE fu _ _ _ H
def X3_hoursOnlyFor_f (a : Nat) (x1 : Int32) (σ : Sig) : Option (Int32) := X3_hoursOnlyFor_b4 a σ FU x1 0 0
set_option maxRecDepth 4000 in
set_option maxHeartbeats 1000000 in
theorem X3_hoursOnlyFor_ok {D : Nat} {τ : Tau} {nx : Nat} {a : Nat} {x1 : Int32} {σ : Sig} {res : Int32} (hD : 1 ≤ D) (hS : ShX3 τ a) (H : X3_hoursOnlyFor_f a x1 σ = some res) : Ok D 0 0 yX3_hoursOnlyFor cX3_hoursOnlyFor 4 (some .int) [.ref a, .int x1] (τ, σ, nx) (some (.int res)) (τ, σ, nx) := by
  refine ok_of (by decide +kernel) rfl (Nat.le_of_ble_eq_true rfl) (fun K X hF hE hN L0 hL0 => ?_)
  obtain rfl : [some (.ref a), some (.int x1), none, none] = L0 := hL0
  have hF : Fx K X cX3_hoursOnlyFor 4 RX3 D 0 0 := hF
  refine g_p (L' := [some (.ref a), some (.int x1), some (.int 0), some (.int 0)]) (S' := []) hF tX3_hoursOnlyFor_ok 0 4 rfl rfl rfl rfl ?_
  exact X3_hoursOnlyFor_b4_ok hD hF hS hE FU _ _ _ H
def X3_bestHours_b13 (a : Nat) (σ : Sig) : Nat → Int32 → Int32 → Int32 → Option (Int32)
  | 0, _, _, _ => none
  | fu + 1, x1, x2, x3 => if (1 <<< (x1 &&& 31)) ≤ x3 then (some x2) else ((X3_hoursOnlyFor_f a x3 σ).bind fun v2 => (J6_bitCount_0f7a4_f x3 σ).bind fun v4 => (X11_upwards_f v2 v4 σ).bind fun v6 => X3_bestHours_b13 a σ fu x1 (mmax x2 v6) (x3 + 1))
set_option maxRecDepth 4000 in
set_option maxHeartbeats 1000000 in
theorem X3_bestHours_b13_ok {K : Kt} {X : Cx} {D : Nat} {τ : Tau} {nx : Nat} {a : Nat} {res : Int32} {σ : Sig}  (hD : 2 ≤ D) (hF : Fx K X cX3_bestHours 4 RX3 D 0 0) (hS : ShX3 τ a) (hE : En K X (some .int) 0 0 (some (.int res)) (τ, σ, nx)) : ∀ (fu : Nat) (x1 x2 x3 : Int32), X3_bestHours_b13 a σ fu x1 x2 x3 = some res → G K X 4 0 0 13 [some (.ref a), some (.int x1), some (.int x2), some (.int x3)] [] (τ, σ, nx)
  | 0, _, _, _, H => nomatch H
  | fu + 1, x1, x2, x3, H => by
    refine g_p (S' := [.int (1 <<< (x1 &&& 31)), .int x3]) hF tX3_bestHours_ok 9 4 rfl rfl rfl rfl ?_
    obtain ⟨Ht1, Hf1⟩ := oi H
    refine g_icmp_ge hF (dAt tX3_bestHours_ok 13 rfl rfl) rfl (fun c1 => ?_) (fun c1 => ?_)
    · have H := Ht1 c1
      refine g_p (S' := [.int x2]) hF tX3_bestHours_ok 25 1 rfl rfl rfl rfl ?_
      exact g_iret hF (en_i H hE) (dAt tX3_bestHours_ok 26 rfl rfl) (by decide) (by decide)
    · have H := Hf1 c1
      refine g_p (S' := [.int x3, .ref a, .int x2]) hF tX3_bestHours_ok 14 3 rfl rfl rfl rfl ?_
      obtain ⟨v2, e3, H⟩ := ob H
      refine g_cV (S := [.int x2]) hF (X3_hoursOnlyFor_ok (Nat.le_refl _) hS e3 K) mbX3_hoursOnlyFor mvX3_hoursOnlyFor mlX3_88 (by omega) (by decide) (dAt tX3_bestHours_ok 17 rfl rfl) hS.1 rfl rfl rfl (Nat.le_of_ble_eq_true rfl) rfl rfl (by decide) (by decide) rfl ?_
      refine g_p (S' := [.int x3, .int v2, .int x2]) hF tX3_bestHours_ok 18 1 rfl rfl rfl rfl ?_
      obtain ⟨v4, e5, H⟩ := ob H
      refine g_cS (S := [.int v2, .int x2]) hF (J6_bitCount_0f7a4_ok (Nat.le_refl _)  e5 K) mbJ6_bitCount_0f7a4 msJ6_bitCount_0f7a4 mlX3_91 (by omega) (by decide) (dAt tX3_bestHours_ok 19 rfl rfl) rfl rfl (Nat.le_of_ble_eq_true rfl) rfl rfl (by decide) (by decide) rfl ?_
      obtain ⟨v6, e7, H⟩ := ob H
      refine g_cSN (S := [.int x2]) hF (X11_upwards_ok (Nat.le_refl _)  e7 K) mbX11_upwards msX11_upwards nlX3_96 (by omega) (by decide) (dAt tX3_bestHours_ok 20 rfl rfl) rfl rfl (Nat.le_of_ble_eq_true rfl) rfl rfl (by decide) (by decide) rfl ?_
      refine g_mmax hF mlX3_79 (dAt tX3_bestHours_ok 21 rfl rfl) (by omega) (Nat.le_of_ble_eq_true rfl) (by decide) (by decide) ?_
      refine g_p (L' := [some (.ref a), some (.int x1), some (.int (mmax x2 v6)), some (.int (x3 + 1))]) (S' := []) hF tX3_bestHours_ok 22 2 rfl rfl rfl rfl ?_
      refine g_goto hF (dAt tX3_bestHours_ok 24 rfl rfl) rfl ?_
      exact X3_bestHours_b13_ok hD hF hS hE fu _ _ _ H
def X3_bestHours_f (a : Nat) (x1 : Int32) (σ : Sig) : Option (Int32) := (X3_greatestLeft_f a σ).bind fun v1 => if v1 = 0 then (some 0) else (X3_bestHours_b13 a σ FU x1 v1 1)
set_option maxRecDepth 4000 in
set_option maxHeartbeats 1000000 in
theorem X3_bestHours_ok {D : Nat} {τ : Tau} {nx : Nat} {a : Nat} {x1 : Int32} {σ : Sig} {res : Int32} (hD : 2 ≤ D) (hS : ShX3 τ a) (H : X3_bestHours_f a x1 σ = some res) : Ok D 0 0 yX3_bestHours cX3_bestHours 4 (some .int) [.ref a, .int x1] (τ, σ, nx) (some (.int res)) (τ, σ, nx) := by
  refine ok_of (by decide +kernel) rfl (Nat.le_of_ble_eq_true rfl) (fun K X hF hE hN L0 hL0 => ?_)
  obtain rfl : [some (.ref a), some (.int x1), none, none] = L0 := hL0
  have hF : Fx K X cX3_bestHours 4 RX3 D 0 0 := hF
  refine g_p (S' := [.ref a]) hF tX3_bestHours_ok 0 1 rfl rfl rfl rfl ?_
  obtain ⟨v1, e2, H⟩ := ob H
  refine g_cV (S := []) hF (X3_greatestLeft_ok (Nat.le_refl _) hS e2 K) mbX3_greatestLeft mvX3_greatestLeft mlX3_85 (by omega) (by decide) (dAt tX3_bestHours_ok 1 rfl rfl) hS.1 rfl rfl rfl (Nat.le_of_ble_eq_true rfl) rfl rfl (by decide) (by decide) rfl ?_
  refine g_p (L' := [some (.ref a), some (.int x1), some (.int v1), none]) (S' := [.int v1]) hF tX3_bestHours_ok 2 2 rfl rfl rfl rfl ?_
  obtain ⟨Ht3, Hf3⟩ := oi H
  refine g_if_ne hF (dAt tX3_bestHours_ok 4 rfl rfl) rfl (fun c3 => ?_) (fun c3 => ?_)
  · have H := Hf3 c3
    refine g_p (L' := [some (.ref a), some (.int x1), some (.int v1), some (.int 1)]) (S' := []) hF tX3_bestHours_ok 7 2 rfl rfl rfl rfl ?_
    exact X3_bestHours_b13_ok hD hF hS hE FU _ _ _ H
  · have H := Ht3 c3
    refine g_p (S' := [.int 0]) hF tX3_bestHours_ok 5 1 rfl rfl rfl rfl ?_
    exact g_iret hF (en_i H hE) (dAt tX3_bestHours_ok 6 rfl rfl) (by decide) (by decide)
def X3_boundHours_b4 (a : Nat) (σ : Sig) : Nat → Int32 → Int32 → Option (Int32)
  | 0, _, _ => none
  | fu + 1, x1, x2 => if (σ a 0) ≤ x2 then ((X3_greatestLeft_f a σ).bind fun v2 => (X3_allHours_f a σ).bind fun v4 => (J6_bitCount_0f7a4_f x1 σ).bind fun v6 => (X11_upwards_f v4 v6 σ).bind fun v8 => some (mmax v2 v8)) else ((ld 40 (σ (a + 3)) x2).bind fun v10 => if v10 ≤ 0 then (X3_boundHours_b4 a σ fu x1 (x2 + 1)) else ((ld 40 (σ (a + 8)) x2).bind fun v13 => X3_boundHours_b4 a σ fu (x1 ||| v13) (x2 + 1)))
set_option maxRecDepth 4000 in
set_option maxHeartbeats 1000000 in
theorem X3_boundHours_b4_ok {K : Kt} {X : Cx} {D : Nat} {τ : Tau} {nx : Nat} {a : Nat} {res : Int32} {σ : Sig}  (hD : 2 ≤ D) (hF : Fx K X cX3_boundHours 3 RX3 D 0 0) (hS : ShX3 τ a) (hE : En K X (some .int) 0 0 (some (.int res)) (τ, σ, nx)) : ∀ (fu : Nat) (x1 x2 : Int32), X3_boundHours_b4 a σ fu x1 x2 = some res → G K X 3 0 0 4 [some (.ref a), some (.int x1), some (.int x2)] [] (τ, σ, nx)
  | 0, _, _, H => nomatch H
  | fu + 1, x1, x2, H => by
    refine g_p (S' := [.ref a, .int x2]) hF tX3_boundHours_ok 4 2 rfl rfl rfl rfl ?_
    refine g_getI hF (dAt tX3_boundHours_ok 6 rfl rfl) flX3_42 hS.1 rfl ?_
    obtain ⟨Ht1, Hf1⟩ := oi H
    refine g_icmp_ge hF (dAt tX3_boundHours_ok 7 rfl rfl) rfl (fun c1 => ?_) (fun c1 => ?_)
    · have H := Ht1 c1
      refine g_p (S' := [.ref a]) hF tX3_boundHours_ok 22 1 rfl rfl rfl rfl ?_
      obtain ⟨v2, e3, H⟩ := ob H
      refine g_cV (S := []) hF (X3_greatestLeft_ok (Nat.le_refl _) hS e3 K) mbX3_greatestLeft mvX3_greatestLeft mlX3_85 (by omega) (by decide) (dAt tX3_boundHours_ok 23 rfl rfl) hS.1 rfl rfl rfl (Nat.le_of_ble_eq_true rfl) rfl rfl (by decide) (by decide) rfl ?_
      refine g_p (S' := [.ref a, .int v2]) hF tX3_boundHours_ok 24 1 rfl rfl rfl rfl ?_
      obtain ⟨v4, e5, H⟩ := ob H
      refine g_cV (S := [.int v2]) hF (X3_allHours_ok (Nat.le_refl _) hS e5 K) mbX3_allHours mvX3_allHours mlX3_99 (by omega) (by decide) (dAt tX3_boundHours_ok 25 rfl rfl) hS.1 rfl rfl rfl (Nat.le_of_ble_eq_true rfl) rfl rfl (by decide) (by decide) rfl ?_
      refine g_p (S' := [.int x1, .int v4, .int v2]) hF tX3_boundHours_ok 26 1 rfl rfl rfl rfl ?_
      obtain ⟨v6, e7, H⟩ := ob H
      refine g_cS (S := [.int v4, .int v2]) hF (J6_bitCount_0f7a4_ok (Nat.le_refl _)  e7 K) mbJ6_bitCount_0f7a4 msJ6_bitCount_0f7a4 mlX3_91 (by omega) (by decide) (dAt tX3_boundHours_ok 27 rfl rfl) rfl rfl (Nat.le_of_ble_eq_true rfl) rfl rfl (by decide) (by decide) rfl ?_
      obtain ⟨v8, e9, H⟩ := ob H
      refine g_cSN (S := [.int v2]) hF (X11_upwards_ok (Nat.le_refl _)  e9 K) mbX11_upwards msX11_upwards nlX3_96 (by omega) (by decide) (dAt tX3_boundHours_ok 28 rfl rfl) rfl rfl (Nat.le_of_ble_eq_true rfl) rfl rfl (by decide) (by decide) rfl ?_
      refine g_mmax hF mlX3_79 (dAt tX3_boundHours_ok 29 rfl rfl) (by omega) (Nat.le_of_ble_eq_true rfl) (by decide) (by decide) ?_
      exact g_iret hF (en_i H hE) (dAt tX3_boundHours_ok 30 rfl rfl) (by decide) (by decide)
    · have H := Hf1 c1
      refine g_p (S' := [.ref a]) hF tX3_boundHours_ok 8 1 rfl rfl rfl rfl ?_
      refine g_getR hF (dAt tX3_boundHours_ok 9 rfl rfl) flX3_18 hS.1 rfl ?_
      refine g_p (S' := [.int x2, .ref (a + 3)]) hF tX3_boundHours_ok 10 1 rfl rfl rfl rfl ?_
      obtain ⟨v10, e11, H⟩ := ob H
      refine g_ild hF (dAt tX3_boundHours_ok 11 rfl rfl) hS.2.2.2.1 e11 ?_
      obtain ⟨Ht12, Hf12⟩ := oi H
      refine g_if_le hF (dAt tX3_boundHours_ok 12 rfl rfl) rfl (fun c12 => ?_) (fun c12 => ?_)
      · have H := Ht12 c12
        refine g_p (L' := [some (.ref a), some (.int x1), some (.int (x2 + 1))]) (S' := []) hF tX3_boundHours_ok 20 1 rfl rfl rfl rfl ?_
        refine g_goto hF (dAt tX3_boundHours_ok 21 rfl rfl) rfl ?_
        exact X3_boundHours_b4_ok hD hF hS hE fu _ _ H
      · have H := Hf12 c12
        refine g_p (S' := [.ref a, .int x1]) hF tX3_boundHours_ok 13 2 rfl rfl rfl rfl ?_
        refine g_getR hF (dAt tX3_boundHours_ok 15 rfl rfl) flX3_33 hS.1 rfl ?_
        refine g_p (S' := [.int x2, .ref (a + 8), .int x1]) hF tX3_boundHours_ok 16 1 rfl rfl rfl rfl ?_
        obtain ⟨v13, e14, H⟩ := ob H
        refine g_ild hF (dAt tX3_boundHours_ok 17 rfl rfl) hS.2.2.2.2.2.2.2.2.1 e14 ?_
        refine g_p (L' := [some (.ref a), some (.int (x1 ||| v13)), some (.int (x2 + 1))]) (S' := []) hF tX3_boundHours_ok 18 3 rfl rfl rfl rfl ?_
        refine g_goto hF (dAt tX3_boundHours_ok 21 rfl rfl) rfl ?_
        exact X3_boundHours_b4_ok hD hF hS hE fu _ _ H
def X3_boundHours_f (a : Nat) (σ : Sig) : Option (Int32) := X3_boundHours_b4 a σ FU 0 0
set_option maxRecDepth 4000 in
set_option maxHeartbeats 1000000 in
theorem X3_boundHours_ok {D : Nat} {τ : Tau} {nx : Nat} {a : Nat} {σ : Sig} {res : Int32} (hD : 2 ≤ D) (hS : ShX3 τ a) (H : X3_boundHours_f a σ = some res) : Ok D 0 0 yX3_boundHours cX3_boundHours 3 (some .int) [.ref a] (τ, σ, nx) (some (.int res)) (τ, σ, nx) := by
  refine ok_of (by decide +kernel) rfl (Nat.le_of_ble_eq_true rfl) (fun K X hF hE hN L0 hL0 => ?_)
  obtain rfl : [some (.ref a), none, none] = L0 := hL0
  have hF : Fx K X cX3_boundHours 3 RX3 D 0 0 := hF
  refine g_p (L' := [some (.ref a), some (.int 0), some (.int 0)]) (S' := []) hF tX3_boundHours_ok 0 4 rfl rfl rfl rfl ?_
  exact X3_boundHours_b4_ok hD hF hS hE FU _ _ H
def X3_aloneHours_b8 (a : Nat) : Nat → Int32 → Int32 → Sig → Option (Int32 × Sig)
  | 0, _, _, _ => none
  | fu + 1, x1, x2, σ => if 12 ≤ x2 then (some (x1, σ)) else ((ld 12 (σ (a + 9)) x2).bind fun v2 => X3_aloneHours_b8 a fu (mmax x1 v2) (x2 + 1) σ)
set_option maxRecDepth 4000 in
set_option maxHeartbeats 1000000 in
theorem X3_aloneHours_b8_ok {K : Kt} {X : Cx} {D : Nat} {τ : Tau} {nx : Nat} {a : Nat} {res : Int32} {rsg : Sig}  (hD : 3 ≤ D) (hF : Fx K X cX3_aloneHours 3 RX3 D 0 0) (hS : ShX3 τ a) (hE : En K X (some .int) 0 0 (some (.int res)) (τ, rsg, nx)) : ∀ (fu : Nat) (x1 x2 : Int32) (σ : Sig), X3_aloneHours_b8 a fu x1 x2 σ = some (res, rsg) → G K X 3 0 0 8 [some (.ref a), some (.int x1), some (.int x2)] [] (τ, σ, nx)
  | 0, _, _, _, H => nomatch H
  | fu + 1, x1, x2, σ, H => by
    refine g_p (S' := [.int 12, .int x2]) hF tX3_aloneHours_ok 6 2 rfl rfl rfl rfl ?_
    obtain ⟨Ht1, Hf1⟩ := oi H
    refine g_icmp_ge hF (dAt tX3_aloneHours_ok 8 rfl rfl) rfl (fun c1 => ?_) (fun c1 => ?_)
    · have H := Ht1 c1
      refine g_p (S' := [.int x1]) hF tX3_aloneHours_ok 18 1 rfl rfl rfl rfl ?_
      exact g_iret hF (en_p H hE) (dAt tX3_aloneHours_ok 19 rfl rfl) (by decide) (by decide)
    · have H := Hf1 c1
      refine g_p (S' := [.ref a, .int x1]) hF tX3_aloneHours_ok 9 2 rfl rfl rfl rfl ?_
      refine g_getR hF (dAt tX3_aloneHours_ok 11 rfl rfl) flX3_36 hS.1 rfl ?_
      refine g_p (S' := [.int x2, .ref (a + 9), .int x1]) hF tX3_aloneHours_ok 12 1 rfl rfl rfl rfl ?_
      obtain ⟨v2, e3, H⟩ := ob H
      refine g_ild hF (dAt tX3_aloneHours_ok 13 rfl rfl) hS.2.2.2.2.2.2.2.2.2.1 e3 ?_
      refine g_mmax hF mlX3_79 (dAt tX3_aloneHours_ok 14 rfl rfl) (by omega) (Nat.le_of_ble_eq_true rfl) (by decide) (by decide) ?_
      refine g_p (L' := [some (.ref a), some (.int (mmax x1 v2)), some (.int (x2 + 1))]) (S' := []) hF tX3_aloneHours_ok 15 2 rfl rfl rfl rfl ?_
      refine g_goto hF (dAt tX3_aloneHours_ok 17 rfl rfl) rfl ?_
      exact X3_aloneHours_b8_ok hD hF hS hE fu _ _ _ H
def X3_aloneHours_f (a : Nat) (σ : Sig) : Option (Int32 × Sig) := (X3_tally_f a σ).bind fun s1 => X3_aloneHours_b8 a FU 0 0 s1
set_option maxRecDepth 4000 in
set_option maxHeartbeats 1000000 in
theorem X3_aloneHours_ok {D : Nat} {τ : Tau} {nx : Nat} {a : Nat} {σ : Sig} {res : Int32} {rsg : Sig} (hD : 3 ≤ D) (hS : ShX3 τ a) (H : X3_aloneHours_f a σ = some (res, rsg)) : Ok D 0 0 yX3_aloneHours cX3_aloneHours 3 (some .int) [.ref a] (τ, σ, nx) (some (.int res)) (τ, rsg, nx) := by
  refine ok_of (by decide +kernel) rfl (Nat.le_of_ble_eq_true rfl) (fun K X hF hE hN L0 hL0 => ?_)
  obtain rfl : [some (.ref a), none, none] = L0 := hL0
  have hF : Fx K X cX3_aloneHours 3 RX3 D 0 0 := hF
  refine g_p (S' := [.ref a]) hF tX3_aloneHours_ok 0 1 rfl rfl rfl rfl ?_
  obtain ⟨s1, e2, H⟩ := ob H
  refine g_cV (S := []) hF (X3_tally_ok (Nat.le_refl _) hS e2 K) mbX3_tally mvX3_tally mlX3_102 (by omega) (by decide) (dAt tX3_aloneHours_ok 1 rfl rfl) hS.1 rfl rfl rfl (Nat.le_of_ble_eq_true rfl) rfl rfl (by decide) (by decide) rfl ?_
  refine g_p (L' := [some (.ref a), some (.int 0), some (.int 0)]) (S' := []) hF tX3_aloneHours_ok 2 4 rfl rfl rfl rfl ?_
  exact X3_aloneHours_b8_ok hD hF hS hE FU _ _ _ H

/-! SilenceForMoney$Reader -/
def X5_readLine_b131 (a : Nat) (x2 : Int32) (σ : Sig) : Option (Sig) := (X5_take_f a 59 σ).bind fun ⟨v1, s2⟩ => if v1 = 0 then (some s2) else ((X5_closeLine_f a x2 s2).bind fun s5 => some s5)
set_option maxRecDepth 4000 in
set_option maxHeartbeats 1000000 in
theorem X5_readLine_b131_ok {K : Kt} {X : Cx} {D : Nat} {τ : Tau} {nx : Nat} {a : Nat} {res : Sig}  (hD : 45 ≤ D) (hF : Fx K X cX5_readLine 3 RX5 D 0 0) (hS : ShX5 τ a) (hE : En K X none 0 0 none (τ, res, nx)) {x2 : Int32} {σ : Sig} (H : X5_readLine_b131 a x2 σ = some res) : G K X 3 0 0 131 [some (.ref a), none, some (.int x2)] [] (τ, σ, nx) := by
  refine g_p (S' := [.int 59, .ref a]) hF tX5_readLine_ok 68 2 rfl rfl rfl rfl ?_
  obtain ⟨⟨v1, s2⟩, e3, H⟩ := ob H
  refine g_cV (S := []) hF (X5_take_ok (Nat.le_refl _) hS e3 K) mbX5_take mvX5_take mlX5_132 (by omega) (by decide) (dAt tX5_readLine_ok 70 rfl rfl) hS.1 rfl rfl rfl (Nat.le_of_ble_eq_true rfl) rfl rfl (by decide) (by decide) rfl ?_
  obtain ⟨Ht4, Hf4⟩ := oi H
  refine g_if_eq hF (dAt tX5_readLine_ok 71 rfl rfl) rfl (fun c4 => ?_) (fun c4 => ?_)
  · have H := Ht4 c4
    exact g_vret hF (en_v H hE) (dAt tX5_readLine_ok 75 rfl rfl) (by decide) (by decide)
  · have H := Hf4 c4
    refine g_p (S' := [.int x2, .ref a]) hF tX5_readLine_ok 72 2 rfl rfl rfl rfl ?_
    obtain ⟨s5, e6, H⟩ := ob H
    refine g_cV (S := []) hF (X5_closeLine_ok (Nat.le_refl _) hS e6 K) mbX5_closeLine mvX5_closeLine mlX5_138 (by omega) (by decide) (dAt tX5_readLine_ok 74 rfl rfl) hS.1 rfl rfl rfl (Nat.le_of_ble_eq_true rfl) rfl rfl (by decide) (by decide) rfl ?_
    exact g_vret hF (en_v H hE) (dAt tX5_readLine_ok 75 rfl rfl) (by decide) (by decide)
def X5_readLine_b117 (a : Nat) (x2 : Int32) (σ : Sig) : Option (Sig) := (X5_take_f a 100 σ).bind fun ⟨v1, s2⟩ => if v1 = 0 then (X5_readLine_b131 a x2 s2) else ((X5_anyOf_f a 0 s2).bind fun s5 => X5_readLine_b131 a x2 s5)
set_option maxRecDepth 4000 in
set_option maxHeartbeats 1000000 in
theorem X5_readLine_b117_ok {K : Kt} {X : Cx} {D : Nat} {τ : Tau} {nx : Nat} {a : Nat} {res : Sig}  (hD : 45 ≤ D) (hF : Fx K X cX5_readLine 3 RX5 D 0 0) (hS : ShX5 τ a) (hE : En K X none 0 0 none (τ, res, nx)) {x2 : Int32} {σ : Sig} (H : X5_readLine_b117 a x2 σ = some res) : G K X 3 0 0 117 [some (.ref a), none, some (.int x2)] [] (τ, σ, nx) := by
  refine g_p (S' := [.int 100, .ref a]) hF tX5_readLine_ok 61 2 rfl rfl rfl rfl ?_
  obtain ⟨⟨v1, s2⟩, e3, H⟩ := ob H
  refine g_cV (S := []) hF (X5_take_ok (Nat.le_refl _) hS e3 K) mbX5_take mvX5_take mlX5_132 (by omega) (by decide) (dAt tX5_readLine_ok 63 rfl rfl) hS.1 rfl rfl rfl (Nat.le_of_ble_eq_true rfl) rfl rfl (by decide) (by decide) rfl ?_
  obtain ⟨Ht4, Hf4⟩ := oi H
  refine g_if_eq hF (dAt tX5_readLine_ok 64 rfl rfl) rfl (fun c4 => ?_) (fun c4 => ?_)
  · have H := Ht4 c4
    exact X5_readLine_b131_ok hD hF hS hE H
  · have H := Hf4 c4
    refine g_p (S' := [.int 0, .ref a]) hF tX5_readLine_ok 65 2 rfl rfl rfl rfl ?_
    obtain ⟨s5, e6, H⟩ := ob H
    refine g_cV (S := []) hF (X5_anyOf_ok (Nat.le_refl _) hS e6 K) mbX5_anyOf mvX5_anyOf mlX5_135 (by omega) (by decide) (dAt tX5_readLine_ok 67 rfl rfl) hS.1 rfl rfl rfl (Nat.le_of_ble_eq_true rfl) rfl rfl (by decide) (by decide) rfl ?_
    exact X5_readLine_b131_ok hD hF hS hE H
def X5_readLine_b96 (a : Nat) (x2 : Int32) (σ : Sig) : Option (Sig) := if (σ a 2) = 0 then ((ld 401 (σ (a + 4)) (σ a 12)).bind fun v2 => if v2 = 100 then (X5_readLine_b117 a x2 σ) else (X5_readLine_b131 a x2 σ)) else (X5_readLine_b117 a x2 σ)
set_option maxRecDepth 4000 in
set_option maxHeartbeats 1000000 in
theorem X5_readLine_b96_ok {K : Kt} {X : Cx} {D : Nat} {τ : Tau} {nx : Nat} {a : Nat} {res : Sig}  (hD : 45 ≤ D) (hF : Fx K X cX5_readLine 3 RX5 D 0 0) (hS : ShX5 τ a) (hE : En K X none 0 0 none (τ, res, nx)) {x2 : Int32} {σ : Sig} (H : X5_readLine_b96 a x2 σ = some res) : G K X 3 0 0 96 [some (.ref a), none, some (.int x2)] [] (τ, σ, nx) := by
  refine g_p (S' := [.ref a]) hF tX5_readLine_ok 51 1 rfl rfl rfl rfl ?_
  refine g_getI hF (dAt tX5_readLine_ok 52 rfl rfl) flX5_40 hS.1 rfl ?_
  obtain ⟨Ht1, Hf1⟩ := oi H
  refine g_if_ne hF (dAt tX5_readLine_ok 53 rfl rfl) rfl (fun c1 => ?_) (fun c1 => ?_)
  · have H := Hf1 c1
    exact X5_readLine_b117_ok hD hF hS hE H
  · have H := Ht1 c1
    refine g_p (S' := [.ref a]) hF tX5_readLine_ok 54 1 rfl rfl rfl rfl ?_
    refine g_getR hF (dAt tX5_readLine_ok 55 rfl rfl) flX5_25 hS.1 rfl ?_
    refine g_p (S' := [.ref a, .ref (a + 4)]) hF tX5_readLine_ok 56 1 rfl rfl rfl rfl ?_
    refine g_getI hF (dAt tX5_readLine_ok 57 rfl rfl) flX5_54 hS.1 rfl ?_
    obtain ⟨v2, e3, H⟩ := ob H
    refine g_ild hF (dAt tX5_readLine_ok 58 rfl rfl) hS.2.2.2.2.1 e3 ?_
    refine g_p (S' := [.int 100, .int v2]) hF tX5_readLine_ok 59 1 rfl rfl rfl rfl ?_
    obtain ⟨Ht4, Hf4⟩ := oi H
    refine g_icmp_ne hF (dAt tX5_readLine_ok 60 rfl rfl) rfl (fun c4 => ?_) (fun c4 => ?_)
    · have H := Hf4 c4
      exact X5_readLine_b131_ok hD hF hS hE H
    · have H := Ht4 c4
      exact X5_readLine_b117_ok hD hF hS hE H
def X5_readLine_b94 (a : Nat) (y0 y1 : Int32) (σ : Sig) : Option (Sig) := X5_readLine_b96 a (y1 + y0) σ
set_option maxRecDepth 4000 in
set_option maxHeartbeats 1000000 in
theorem X5_readLine_b94_ok {K : Kt} {X : Cx} {D : Nat} {τ : Tau} {nx : Nat} {a : Nat} {res : Sig}  (hD : 45 ≤ D) (hF : Fx K X cX5_readLine 3 RX5 D 0 0) (hS : ShX5 τ a) (hE : En K X none 0 0 none (τ, res, nx)) {y0 y1 : Int32} {σ : Sig} (H : X5_readLine_b94 a y0 y1 σ = some res) : G K X 3 0 0 94 [some (.ref a), none, none] [.int y0, .int y1] (τ, σ, nx) := by
  refine g_p (L' := [some (.ref a), none, some (.int (y1 + y0))]) (S' := []) hF tX5_readLine_ok 49 2 rfl rfl rfl rfl ?_
  exact X5_readLine_b96_ok hD hF hS hE H
def X5_readLine_b44 (a : Nat) (x1 : Int32) (σ : Sig) : Option (Sig) := if (σ a 3) < 16 then ((X5_step_f a σ).bind fun s2 => if (s2 a 2) = 0 then (if x1 = 106 then (X5_readLine_b96 a 0 s2) else ((X5_readLoud_f a s2).bind fun ⟨v6, s7⟩ => if x1 = 104 then (X5_readLine_b94 a 1 v6 s7) else (X5_readLine_b94 a 101 v6 s7))) else (X5_readLine_b96 a 0 s2)) else ((X5_fail_f a 3 σ).bind fun s10 => some s10)
set_option maxRecDepth 4000 in
set_option maxHeartbeats 1000000 in
theorem X5_readLine_b44_ok {K : Kt} {X : Cx} {D : Nat} {τ : Tau} {nx : Nat} {a : Nat} {res : Sig}  (hD : 45 ≤ D) (hF : Fx K X cX5_readLine 3 RX5 D 0 0) (hS : ShX5 τ a) (hE : En K X none 0 0 none (τ, res, nx)) {x1 : Int32} {σ : Sig} (H : X5_readLine_b44 a x1 σ = some res) : G K X 3 0 0 44 [some (.ref a), some (.int x1), none] [] (τ, σ, nx) := by
  refine g_p (S' := [.ref a]) hF tX5_readLine_ok 23 1 rfl rfl rfl rfl ?_
  refine g_getI hF (dAt tX5_readLine_ok 24 rfl rfl) flX5_44 hS.1 rfl ?_
  refine g_p (S' := [.int 16, .int (σ a 3)]) hF tX5_readLine_ok 25 1 rfl rfl rfl rfl ?_
  obtain ⟨Ht1, Hf1⟩ := oi H
  refine g_icmp_lt hF (dAt tX5_readLine_ok 26 rfl rfl) rfl (fun c1 => ?_) (fun c1 => ?_)
  · have H := Ht1 c1
    refine g_p (S' := [.ref a]) hF tX5_readLine_ok 31 1 rfl rfl rfl rfl ?_
    obtain ⟨s2, e3, H⟩ := ob H
    refine g_cV (S := []) hF (X5_step_ok (Nat.le_refl _) hS e3 K) mbX5_step mvX5_step mlX5_126 (by omega) (by decide) (dAt tX5_readLine_ok 32 rfl rfl) hS.1 rfl rfl rfl (Nat.le_of_ble_eq_true rfl) rfl rfl (by decide) (by decide) rfl ?_
    refine g_p (L' := [some (.ref a), some (.int x1), some (.int 0)]) (S' := [.ref a]) hF tX5_readLine_ok 33 3 rfl rfl rfl rfl ?_
    refine g_getI hF (dAt tX5_readLine_ok 36 rfl rfl) flX5_40 hS.1 rfl ?_
    obtain ⟨Ht4, Hf4⟩ := oi H
    refine g_if_ne hF (dAt tX5_readLine_ok 37 rfl rfl) rfl (fun c4 => ?_) (fun c4 => ?_)
    · have H := Hf4 c4
      refine g_m [true, false, true] rfl ?_
      exact X5_readLine_b96_ok hD hF hS hE H
    · have H := Ht4 c4
      refine g_p (S' := [.int 106, .int x1]) hF tX5_readLine_ok 38 2 rfl rfl rfl rfl ?_
      obtain ⟨Ht5, Hf5⟩ := oi H
      refine g_icmp_eq hF (dAt tX5_readLine_ok 40 rfl rfl) rfl (fun c5 => ?_) (fun c5 => ?_)
      · have H := Ht5 c5
        refine g_m [true, false, true] rfl ?_
        exact X5_readLine_b96_ok hD hF hS hE H
      · have H := Hf5 c5
        refine g_p (S' := [.ref a]) hF tX5_readLine_ok 41 1 rfl rfl rfl rfl ?_
        obtain ⟨⟨v6, s7⟩, e8, H⟩ := ob H
        refine g_cV (S := []) hF (X5_readLoud_ok (Nat.le_refl _) hS e8 K) mbX5_readLoud mvX5_readLoud mlX5_129 (by omega) (by decide) (dAt tX5_readLine_ok 42 rfl rfl) hS.1 rfl rfl rfl (Nat.le_of_ble_eq_true rfl) rfl rfl (by decide) (by decide) rfl ?_
        refine g_p (S' := [.int 104, .int x1, .int v6]) hF tX5_readLine_ok 43 2 rfl rfl rfl rfl ?_
        obtain ⟨Ht9, Hf9⟩ := oi H
        refine g_icmp_ne hF (dAt tX5_readLine_ok 45 rfl rfl) rfl (fun c9 => ?_) (fun c9 => ?_)
        · have H := Hf9 c9
          refine g_p (S' := [.int 101, .int v6]) hF tX5_readLine_ok 48 1 rfl rfl rfl rfl ?_
          refine g_m [true, false, false] rfl ?_
          exact X5_readLine_b94_ok hD hF hS hE H
        · have H := Ht9 c9
          refine g_p (S' := [.int 1, .int v6]) hF tX5_readLine_ok 46 1 rfl rfl rfl rfl ?_
          refine g_goto hF (dAt tX5_readLine_ok 47 rfl rfl) rfl ?_
          refine g_m [true, false, false] rfl ?_
          exact X5_readLine_b94_ok hD hF hS hE H
  · have H := Hf1 c1
    refine g_p (S' := [.int 3, .ref a]) hF tX5_readLine_ok 27 2 rfl rfl rfl rfl ?_
    obtain ⟨s10, e11, H⟩ := ob H
    refine g_cV (S := []) hF (X5_fail_ok (Nat.le_refl _) hS e11 K) mbX5_fail mvX5_fail mlX5_122 (by omega) (by decide) (dAt tX5_readLine_ok 29 rfl rfl) hS.1 rfl rfl rfl (Nat.le_of_ble_eq_true rfl) rfl rfl (by decide) (by decide) rfl ?_
    exact g_vret hF (en_v H hE) (dAt tX5_readLine_ok 30 rfl rfl) (by decide) (by decide)
def X5_readLine_b38 (a : Nat) (σ : Sig) : Option (Sig) := (X5_fail_f a 1 σ).bind fun s1 => some s1
set_option maxRecDepth 4000 in
set_option maxHeartbeats 1000000 in
theorem X5_readLine_b38_ok {K : Kt} {X : Cx} {D : Nat} {τ : Tau} {nx : Nat} {a : Nat} {res : Sig}  (hD : 45 ≤ D) (hF : Fx K X cX5_readLine 3 RX5 D 0 0) (hS : ShX5 τ a) (hE : En K X none 0 0 none (τ, res, nx)) {σ : Sig} (H : X5_readLine_b38 a σ = some res) : G K X 3 0 0 38 [some (.ref a), none, none] [] (τ, σ, nx) := by
  refine g_p (S' := [.int 1, .ref a]) hF tX5_readLine_ok 19 2 rfl rfl rfl rfl ?_
  obtain ⟨s1, e2, H⟩ := ob H
  refine g_cV (S := []) hF (X5_fail_ok (Nat.le_refl _) hS e2 K) mbX5_fail mvX5_fail mlX5_122 (by omega) (by decide) (dAt tX5_readLine_ok 21 rfl rfl) hS.1 rfl rfl rfl (Nat.le_of_ble_eq_true rfl) rfl rfl (by decide) (by decide) rfl ?_
  exact g_vret hF (en_v H hE) (dAt tX5_readLine_ok 22 rfl rfl) (by decide) (by decide)
def X5_readLine_f (a : Nat) (σ : Sig) : Option (Sig) := (ld 401 (σ (a + 4)) (σ a 12)).bind fun v1 => if (σ a 2) = 0 then (if v1 < 104 then (X5_readLine_b38 a σ) else (if v1 ≤ 106 then (X5_readLine_b44 a v1 σ) else (X5_readLine_b38 a σ))) else (if v1 = 104 then (X5_readLine_b44 a v1 σ) else (X5_readLine_b38 a σ))
set_option maxRecDepth 4000 in
set_option maxHeartbeats 1000000 in
theorem X5_readLine_ok {D : Nat} {τ : Tau} {nx : Nat} {a : Nat} {σ : Sig} {res : Sig} (hD : 45 ≤ D) (hS : ShX5 τ a) (H : X5_readLine_f a σ = some res) : Ok D 0 0 yX5_readLine cX5_readLine 3 none [.ref a] (τ, σ, nx) none (τ, res, nx) := by
  refine ok_of (by decide +kernel) rfl (Nat.le_of_ble_eq_true rfl) (fun K X hF hE hN L0 hL0 => ?_)
  obtain rfl : [some (.ref a), none, none] = L0 := hL0
  have hF : Fx K X cX5_readLine 3 RX5 D 0 0 := hF
  refine g_p (S' := [.ref a]) hF tX5_readLine_ok 0 1 rfl rfl rfl rfl ?_
  refine g_getR hF (dAt tX5_readLine_ok 1 rfl rfl) flX5_25 hS.1 rfl ?_
  refine g_p (S' := [.ref a, .ref (a + 4)]) hF tX5_readLine_ok 2 1 rfl rfl rfl rfl ?_
  refine g_getI hF (dAt tX5_readLine_ok 3 rfl rfl) flX5_54 hS.1 rfl ?_
  obtain ⟨v1, e2, H⟩ := ob H
  refine g_ild hF (dAt tX5_readLine_ok 4 rfl rfl) hS.2.2.2.2.1 e2 ?_
  refine g_p (L' := [some (.ref a), some (.int v1), none]) (S' := [.ref a]) hF tX5_readLine_ok 5 2 rfl rfl rfl rfl ?_
  refine g_getI hF (dAt tX5_readLine_ok 7 rfl rfl) flX5_40 hS.1 rfl ?_
  obtain ⟨Ht3, Hf3⟩ := oi H
  refine g_if_eq hF (dAt tX5_readLine_ok 8 rfl rfl) rfl (fun c3 => ?_) (fun c3 => ?_)
  · have H := Ht3 c3
    refine g_p (S' := [.int 104, .int v1]) hF tX5_readLine_ok 13 2 rfl rfl rfl rfl ?_
    obtain ⟨Ht4, Hf4⟩ := oi H
    refine g_icmp_lt hF (dAt tX5_readLine_ok 15 rfl rfl) rfl (fun c4 => ?_) (fun c4 => ?_)
    · have H := Ht4 c4
      refine g_m [true, false, false] rfl ?_
      exact X5_readLine_b38_ok hD hF hS hE H
    · have H := Hf4 c4
      refine g_p (S' := [.int 106, .int v1]) hF tX5_readLine_ok 16 2 rfl rfl rfl rfl ?_
      obtain ⟨Ht5, Hf5⟩ := oi H
      refine g_icmp_le hF (dAt tX5_readLine_ok 18 rfl rfl) rfl (fun c5 => ?_) (fun c5 => ?_)
      · have H := Ht5 c5
        exact X5_readLine_b44_ok hD hF hS hE H
      · have H := Hf5 c5
        refine g_m [true, false, false] rfl ?_
        exact X5_readLine_b38_ok hD hF hS hE H
  · have H := Hf3 c3
    refine g_p (S' := [.int 104, .int v1]) hF tX5_readLine_ok 9 2 rfl rfl rfl rfl ?_
    obtain ⟨Ht6, Hf6⟩ := oi H
    refine g_icmp_eq hF (dAt tX5_readLine_ok 11 rfl rfl) rfl (fun c6 => ?_) (fun c6 => ?_)
    · have H := Ht6 c6
      exact X5_readLine_b44_ok hD hF hS hE H
    · have H := Hf6 c6
      refine g_goto hF (dAt tX5_readLine_ok 12 rfl rfl) rfl ?_
      refine g_m [true, false, false] rfl ?_
      exact X5_readLine_b38_ok hD hF hS hE H

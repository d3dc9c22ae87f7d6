/-! X5_cg: methods that call one another. -/
def X5_condition_b141 (q_X5_condition : Nat → Int32 → Sig → Option (Sig)) (q_X5_anyOf : Nat → Int32 → Sig → Option (Sig)) (a : Nat) (y0 : Int32) (σ : Sig) : Option (Sig) := (X5_emit_f a y0 0 σ).bind fun s1 => some s1
set_option maxRecDepth 4000 in
set_option maxHeartbeats 1000000 in
theorem X5_condition_b141_ok {K : Kt} {X : Cx} {D : Nat} {τ : Tau} {nx : Nat} {a : Nat} {res : Sig}  {q_X5_condition : Nat → Int32 → Sig → Option (Sig)} {q_X5_anyOf : Nat → Int32 → Sig → Option (Sig)} {D2 : Nat} (hD : 4 ≤ D) (hDD : D2 + 1 ≤ D) (hq_X5_condition : ∀ {τ : Tau} {nx : Nat} (a : Nat) (x1 : Int32) (σ : Sig) (res : Sig), ShX5 τ a → q_X5_condition a x1 σ = some res → Ok D2 0 0 yX5_condition cX5_condition 4 none [.ref a, .int x1] (τ, σ, nx) none (τ, res, nx)) (hq_X5_anyOf : ∀ {τ : Tau} {nx : Nat} (a : Nat) (x1 : Int32) (σ : Sig) (res : Sig), ShX5 τ a → q_X5_anyOf a x1 σ = some res → Ok D2 0 0 yX5_anyOf cX5_anyOf 5 none [.ref a, .int x1] (τ, σ, nx) none (τ, res, nx)) (hF : Fx K X cX5_condition 4 RX5 D 0 0) (hS : ShX5 τ a) (hE : En K X none 0 0 none (τ, res, nx)) {y0 : Int32} {σ : Sig} (H : X5_condition_b141 q_X5_condition q_X5_anyOf a y0 σ = some res) : G K X 4 0 0 141 [none, none, none, none] [.int y0, .ref a] (τ, σ, nx) := by
  refine g_p (S' := [.int 0, .int y0, .ref a]) hF tX5_condition_ok 77 1 rfl rfl rfl rfl ?_
  obtain ⟨s1, e2, H⟩ := ob H
  refine g_cV (S := []) hF (X5_emit_ok (Nat.le_refl _) hS e2 K) mbX5_emit mvX5_emit mlX5_144 (by omega) (by decide) (dAt tX5_condition_ok 78 rfl rfl) hS.1 rfl rfl rfl (Nat.le_of_ble_eq_true rfl) rfl rfl (by decide) (by decide) rfl ?_
  refine g_goto hF (dAt tX5_condition_ok 79 rfl rfl) rfl ?_
  exact g_vret hF (en_v H hE) (dAt tX5_condition_ok 83 rfl rfl) (by decide) (by decide)
def X5_condition_b108 (q_X5_condition : Nat → Int32 → Sig → Option (Sig)) (q_X5_anyOf : Nat → Int32 → Sig → Option (Sig)) (a : Nat) (x3 : Int32) (σ : Sig) : Option (Sig) := (X5_step_f a σ).bind fun s1 => (X5_sum_f a s1).bind fun s3 => if x3 = 60 then (X5_condition_b141 q_X5_condition q_X5_anyOf a 6 s3) else (if x3 = 61 then (X5_condition_b141 q_X5_condition q_X5_anyOf a 7 s3) else (X5_condition_b141 q_X5_condition q_X5_anyOf a 8 s3))
set_option maxRecDepth 4000 in
set_option maxHeartbeats 1000000 in
theorem X5_condition_b108_ok {K : Kt} {X : Cx} {D : Nat} {τ : Tau} {nx : Nat} {a : Nat} {res : Sig}  {q_X5_condition : Nat → Int32 → Sig → Option (Sig)} {q_X5_anyOf : Nat → Int32 → Sig → Option (Sig)} {D2 : Nat} (hD : 4 ≤ D) (hDD : D2 + 1 ≤ D) (hq_X5_condition : ∀ {τ : Tau} {nx : Nat} (a : Nat) (x1 : Int32) (σ : Sig) (res : Sig), ShX5 τ a → q_X5_condition a x1 σ = some res → Ok D2 0 0 yX5_condition cX5_condition 4 none [.ref a, .int x1] (τ, σ, nx) none (τ, res, nx)) (hq_X5_anyOf : ∀ {τ : Tau} {nx : Nat} (a : Nat) (x1 : Int32) (σ : Sig) (res : Sig), ShX5 τ a → q_X5_anyOf a x1 σ = some res → Ok D2 0 0 yX5_anyOf cX5_anyOf 5 none [.ref a, .int x1] (τ, σ, nx) none (τ, res, nx)) (hF : Fx K X cX5_condition 4 RX5 D 0 0) (hS : ShX5 τ a) (hE : En K X none 0 0 none (τ, res, nx)) {x3 : Int32} {σ : Sig} (H : X5_condition_b108 q_X5_condition q_X5_anyOf a x3 σ = some res) : G K X 4 0 0 108 [some (.ref a), none, none, some (.int x3)] [] (τ, σ, nx) := by
  refine g_p (S' := [.ref a]) hF tX5_condition_ok 61 1 rfl rfl rfl rfl ?_
  obtain ⟨s1, e2, H⟩ := ob H
  refine g_cV (S := []) hF (X5_step_ok (Nat.le_refl _) hS e2 K) mbX5_step mvX5_step mlX5_126 (by omega) (by decide) (dAt tX5_condition_ok 62 rfl rfl) hS.1 rfl rfl rfl (Nat.le_of_ble_eq_true rfl) rfl rfl (by decide) (by decide) rfl ?_
  refine g_p (S' := [.ref a]) hF tX5_condition_ok 63 1 rfl rfl rfl rfl ?_
  obtain ⟨s3, e4, H⟩ := ob H
  refine g_cV (S := []) hF (X5_sum_ok (Nat.le_refl _) hS e4 K) mbX5_sum mvX5_sum mlX5_148 (by omega) (by decide) (dAt tX5_condition_ok 64 rfl rfl) hS.1 rfl rfl rfl (Nat.le_of_ble_eq_true rfl) rfl rfl (by decide) (by decide) rfl ?_
  refine g_p (S' := [.int 60, .int x3, .ref a]) hF tX5_condition_ok 65 3 rfl rfl rfl rfl ?_
  obtain ⟨Ht5, Hf5⟩ := oi H
  refine g_icmp_ne hF (dAt tX5_condition_ok 68 rfl rfl) rfl (fun c5 => ?_) (fun c5 => ?_)
  · have H := Hf5 c5
    refine g_p (S' := [.int 61, .int x3, .ref a]) hF tX5_condition_ok 71 2 rfl rfl rfl rfl ?_
    obtain ⟨Ht6, Hf6⟩ := oi H
    refine g_icmp_ne hF (dAt tX5_condition_ok 73 rfl rfl) rfl (fun c6 => ?_) (fun c6 => ?_)
    · have H := Hf6 c6
      refine g_p (S' := [.int 8, .ref a]) hF tX5_condition_ok 76 1 rfl rfl rfl rfl ?_
      refine g_m [false, false, false, false] rfl ?_
      exact X5_condition_b141_ok hD hDD hq_X5_condition hq_X5_anyOf hF hS hE H
    · have H := Ht6 c6
      refine g_p (S' := [.int 7, .ref a]) hF tX5_condition_ok 74 1 rfl rfl rfl rfl ?_
      refine g_goto hF (dAt tX5_condition_ok 75 rfl rfl) rfl ?_
      refine g_m [false, false, false, false] rfl ?_
      exact X5_condition_b141_ok hD hDD hq_X5_condition hq_X5_anyOf hF hS hE H
  · have H := Ht5 c5
    refine g_p (S' := [.int 6, .ref a]) hF tX5_condition_ok 69 1 rfl rfl rfl rfl ?_
    refine g_goto hF (dAt tX5_condition_ok 70 rfl rfl) rfl ?_
    refine g_m [false, false, false, false] rfl ?_
    exact X5_condition_b141_ok hD hDD hq_X5_condition hq_X5_anyOf hF hS hE H
def X5_condition_b22 (q_X5_condition : Nat → Int32 → Sig → Option (Sig)) (q_X5_anyOf : Nat → Int32 → Sig → Option (Sig)) (a : Nat) (x1 x2 : Int32) (σ : Sig) : Option (Sig) := if x1 < 8 then ((X5_step_f a σ).bind fun s2 => if x2 = 103 then ((q_X5_condition a (x1 + 1) s2).bind fun s10 => (X5_emit_f a 9 0 s10).bind fun s12 => some s12) else ((q_X5_anyOf a (x1 + 1) s2).bind fun s5 => (X5_take_f a 41 s5).bind fun ⟨v7, s8⟩ => some s8)) else ((X5_fail_f a 3 σ).bind fun s14 => some s14)
set_option maxRecDepth 4000 in
set_option maxHeartbeats 1000000 in
theorem X5_condition_b22_ok {K : Kt} {X : Cx} {D : Nat} {τ : Tau} {nx : Nat} {a : Nat} {res : Sig}  {q_X5_condition : Nat → Int32 → Sig → Option (Sig)} {q_X5_anyOf : Nat → Int32 → Sig → Option (Sig)} {D2 : Nat} (hD : 4 ≤ D) (hDD : D2 + 1 ≤ D) (hq_X5_condition : ∀ {τ : Tau} {nx : Nat} (a : Nat) (x1 : Int32) (σ : Sig) (res : Sig), ShX5 τ a → q_X5_condition a x1 σ = some res → Ok D2 0 0 yX5_condition cX5_condition 4 none [.ref a, .int x1] (τ, σ, nx) none (τ, res, nx)) (hq_X5_anyOf : ∀ {τ : Tau} {nx : Nat} (a : Nat) (x1 : Int32) (σ : Sig) (res : Sig), ShX5 τ a → q_X5_anyOf a x1 σ = some res → Ok D2 0 0 yX5_anyOf cX5_anyOf 5 none [.ref a, .int x1] (τ, σ, nx) none (τ, res, nx)) (hF : Fx K X cX5_condition 4 RX5 D 0 0) (hS : ShX5 τ a) (hE : En K X none 0 0 none (τ, res, nx)) {x1 x2 : Int32} {σ : Sig} (H : X5_condition_b22 q_X5_condition q_X5_anyOf a x1 x2 σ = some res) : G K X 4 0 0 22 [some (.ref a), some (.int x1), some (.int x2), none] [] (τ, σ, nx) := by
  refine g_p (S' := [.int 8, .int x1]) hF tX5_condition_ok 12 2 rfl rfl rfl rfl ?_
  obtain ⟨Ht1, Hf1⟩ := oi H
  refine g_icmp_lt hF (dAt tX5_condition_ok 14 rfl rfl) rfl (fun c1 => ?_) (fun c1 => ?_)
  · have H := Ht1 c1
    refine g_p (S' := [.ref a]) hF tX5_condition_ok 19 1 rfl rfl rfl rfl ?_
    obtain ⟨s2, e3, H⟩ := ob H
    refine g_cV (S := []) hF (X5_step_ok (Nat.le_refl _) hS e3 K) mbX5_step mvX5_step mlX5_126 (by omega) (by decide) (dAt tX5_condition_ok 20 rfl rfl) hS.1 rfl rfl rfl (Nat.le_of_ble_eq_true rfl) rfl rfl (by decide) (by decide) rfl ?_
    refine g_p (S' := [.int 103, .int x2]) hF tX5_condition_ok 21 2 rfl rfl rfl rfl ?_
    obtain ⟨Ht4, Hf4⟩ := oi H
    refine g_icmp_ne hF (dAt tX5_condition_ok 23 rfl rfl) rfl (fun c4 => ?_) (fun c4 => ?_)
    · have H := Hf4 c4
      refine g_p (S' := [.int (x1 + 1), .ref a]) hF tX5_condition_ok 34 4 rfl rfl rfl rfl ?_
      obtain ⟨s5, e6, H⟩ := ob H
      refine g_cV (S := []) hF (hq_X5_anyOf _ _ _ _ hS e6 K) mbX5_anyOf mvX5_anyOf mlX5_135 (by omega) (by decide) (dAt tX5_condition_ok 38 rfl rfl) hS.1 rfl rfl rfl (Nat.le_of_ble_eq_true rfl) rfl rfl (by decide) (by decide) rfl ?_
      refine g_p (S' := [.int 41, .ref a]) hF tX5_condition_ok 39 2 rfl rfl rfl rfl ?_
      obtain ⟨⟨v7, s8⟩, e9, H⟩ := ob H
      refine g_cV (S := []) hF (X5_take_ok (Nat.le_refl _) hS e9 K) mbX5_take mvX5_take mlX5_132 (by omega) (by decide) (dAt tX5_condition_ok 41 rfl rfl) hS.1 rfl rfl rfl (Nat.le_of_ble_eq_true rfl) rfl rfl (by decide) (by decide) rfl ?_
      refine g_p (S' := []) hF tX5_condition_ok 42 1 rfl rfl rfl rfl ?_
      exact g_vret hF (en_v H hE) (dAt tX5_condition_ok 43 rfl rfl) (by decide) (by decide)
    · have H := Ht4 c4
      refine g_p (S' := [.int (x1 + 1), .ref a]) hF tX5_condition_ok 24 4 rfl rfl rfl rfl ?_
      obtain ⟨s10, e11, H⟩ := ob H
      refine g_cV (S := []) hF (hq_X5_condition _ _ _ _ hS e11 K) mbX5_condition mvX5_condition mlX5_141 (by omega) (by decide) (dAt tX5_condition_ok 28 rfl rfl) hS.1 rfl rfl rfl (Nat.le_of_ble_eq_true rfl) rfl rfl (by decide) (by decide) rfl ?_
      refine g_p (S' := [.int 0, .int 9, .ref a]) hF tX5_condition_ok 29 3 rfl rfl rfl rfl ?_
      obtain ⟨s12, e13, H⟩ := ob H
      refine g_cV (S := []) hF (X5_emit_ok (Nat.le_refl _) hS e13 K) mbX5_emit mvX5_emit mlX5_144 (by omega) (by decide) (dAt tX5_condition_ok 32 rfl rfl) hS.1 rfl rfl rfl (Nat.le_of_ble_eq_true rfl) rfl rfl (by decide) (by decide) rfl ?_
      refine g_goto hF (dAt tX5_condition_ok 33 rfl rfl) rfl ?_
      exact g_vret hF (en_v H hE) (dAt tX5_condition_ok 43 rfl rfl) (by decide) (by decide)
  · have H := Hf1 c1
    refine g_p (S' := [.int 3, .ref a]) hF tX5_condition_ok 15 2 rfl rfl rfl rfl ?_
    obtain ⟨s14, e15, H⟩ := ob H
    refine g_cV (S := []) hF (X5_fail_ok (Nat.le_refl _) hS e15 K) mbX5_fail mvX5_fail mlX5_122 (by omega) (by decide) (dAt tX5_condition_ok 17 rfl rfl) hS.1 rfl rfl rfl (Nat.le_of_ble_eq_true rfl) rfl rfl (by decide) (by decide) rfl ?_
    exact g_vret hF (en_v H hE) (dAt tX5_condition_ok 18 rfl rfl) (by decide) (by decide)
def X5_condition_F (q_X5_condition : Nat → Int32 → Sig → Option (Sig)) (q_X5_anyOf : Nat → Int32 → Sig → Option (Sig)) (a : Nat) (x1 : Int32) (σ : Sig) : Option (Sig) := (ld 401 (σ (a + 4)) (σ a 12)).bind fun v1 => if v1 = 103 then (X5_condition_b22 q_X5_condition q_X5_anyOf a x1 v1 σ) else (if v1 = 40 then (X5_condition_b22 q_X5_condition q_X5_anyOf a x1 v1 σ) else ((X5_sum_f a σ).bind fun s5 => (ld 401 (s5 (a + 4)) (s5 a 12)).bind fun v7 => if v7 = 60 then (X5_condition_b108 q_X5_condition q_X5_anyOf a v7 s5) else (if v7 = 61 then (X5_condition_b108 q_X5_condition q_X5_anyOf a v7 s5) else (if v7 = 62 then (X5_condition_b108 q_X5_condition q_X5_anyOf a v7 s5) else ((X5_fail_f a 1 s5).bind fun s12 => some s12)))))
set_option maxRecDepth 4000 in
set_option maxHeartbeats 1000000 in
theorem X5_conditionF_ok {D : Nat} {τ : Tau} {nx : Nat} {a : Nat} {x1 : Int32} {σ : Sig} {res : Sig} {q_X5_condition : Nat → Int32 → Sig → Option (Sig)} {q_X5_anyOf : Nat → Int32 → Sig → Option (Sig)} {D2 : Nat} (hD : 4 ≤ D) (hDD : D2 + 1 ≤ D) (hq_X5_condition : ∀ {τ : Tau} {nx : Nat} (a : Nat) (x1 : Int32) (σ : Sig) (res : Sig), ShX5 τ a → q_X5_condition a x1 σ = some res → Ok D2 0 0 yX5_condition cX5_condition 4 none [.ref a, .int x1] (τ, σ, nx) none (τ, res, nx)) (hq_X5_anyOf : ∀ {τ : Tau} {nx : Nat} (a : Nat) (x1 : Int32) (σ : Sig) (res : Sig), ShX5 τ a → q_X5_anyOf a x1 σ = some res → Ok D2 0 0 yX5_anyOf cX5_anyOf 5 none [.ref a, .int x1] (τ, σ, nx) none (τ, res, nx)) (hS : ShX5 τ a) (H : X5_condition_F q_X5_condition q_X5_anyOf a x1 σ = some res) : Ok D 0 0 yX5_condition cX5_condition 4 none [.ref a, .int x1] (τ, σ, nx) none (τ, res, nx) := by
  refine ok_of (by decide +kernel) rfl (Nat.le_of_ble_eq_true rfl) (fun K X hF hE hN L0 hL0 => ?_)
  obtain rfl : [some (.ref a), some (.int x1), none, none] = L0 := hL0
  have hF : Fx K X cX5_condition 4 RX5 D 0 0 := hF
  refine g_p (S' := [.ref a]) hF tX5_condition_ok 0 1 rfl rfl rfl rfl ?_
  refine g_getR hF (dAt tX5_condition_ok 1 rfl rfl) flX5_25 hS.1 rfl ?_
  refine g_p (S' := [.ref a, .ref (a + 4)]) hF tX5_condition_ok 2 1 rfl rfl rfl rfl ?_
  refine g_getI hF (dAt tX5_condition_ok 3 rfl rfl) flX5_54 hS.1 rfl ?_
  obtain ⟨v1, e2, H⟩ := ob H
  refine g_ild hF (dAt tX5_condition_ok 4 rfl rfl) hS.2.2.2.2.1 e2 ?_
  refine g_p (L' := [some (.ref a), some (.int x1), some (.int v1), none]) (S' := [.int 103, .int v1]) hF tX5_condition_ok 5 3 rfl rfl rfl rfl ?_
  obtain ⟨Ht3, Hf3⟩ := oi H
  refine g_icmp_eq hF (dAt tX5_condition_ok 8 rfl rfl) rfl (fun c3 => ?_) (fun c3 => ?_)
  · have H := Ht3 c3
    exact X5_condition_b22_ok hD hDD hq_X5_condition hq_X5_anyOf hF hS hE H
  · have H := Hf3 c3
    refine g_p (S' := [.int 40, .int v1]) hF tX5_condition_ok 9 2 rfl rfl rfl rfl ?_
    obtain ⟨Ht4, Hf4⟩ := oi H
    refine g_icmp_ne hF (dAt tX5_condition_ok 11 rfl rfl) rfl (fun c4 => ?_) (fun c4 => ?_)
    · have H := Hf4 c4
      refine g_p (S' := [.ref a]) hF tX5_condition_ok 44 1 rfl rfl rfl rfl ?_
      obtain ⟨s5, e6, H⟩ := ob H
      refine g_cV (S := []) hF (X5_sum_ok (Nat.le_refl _) hS e6 K) mbX5_sum mvX5_sum mlX5_148 (by omega) (by decide) (dAt tX5_condition_ok 45 rfl rfl) hS.1 rfl rfl rfl (Nat.le_of_ble_eq_true rfl) rfl rfl (by decide) (by decide) rfl ?_
      refine g_p (S' := [.ref a]) hF tX5_condition_ok 46 1 rfl rfl rfl rfl ?_
      refine g_getR hF (dAt tX5_condition_ok 47 rfl rfl) flX5_25 hS.1 rfl ?_
      refine g_p (S' := [.ref a, .ref (a + 4)]) hF tX5_condition_ok 48 1 rfl rfl rfl rfl ?_
      refine g_getI hF (dAt tX5_condition_ok 49 rfl rfl) flX5_54 hS.1 rfl ?_
      obtain ⟨v7, e8, H⟩ := ob H
      refine g_ild hF (dAt tX5_condition_ok 50 rfl rfl) hS.2.2.2.2.1 e8 ?_
      refine g_p (L' := [some (.ref a), some (.int x1), some (.int v1), some (.int v7)]) (S' := [.int 60, .int v7]) hF tX5_condition_ok 51 3 rfl rfl rfl rfl ?_
      obtain ⟨Ht9, Hf9⟩ := oi H
      refine g_icmp_eq hF (dAt tX5_condition_ok 54 rfl rfl) rfl (fun c9 => ?_) (fun c9 => ?_)
      · have H := Ht9 c9
        refine g_m [true, false, false, true] rfl ?_
        exact X5_condition_b108_ok hD hDD hq_X5_condition hq_X5_anyOf hF hS hE H
      · have H := Hf9 c9
        refine g_p (S' := [.int 61, .int v7]) hF tX5_condition_ok 55 2 rfl rfl rfl rfl ?_
        obtain ⟨Ht10, Hf10⟩ := oi H
        refine g_icmp_eq hF (dAt tX5_condition_ok 57 rfl rfl) rfl (fun c10 => ?_) (fun c10 => ?_)
        · have H := Ht10 c10
          refine g_m [true, false, false, true] rfl ?_
          exact X5_condition_b108_ok hD hDD hq_X5_condition hq_X5_anyOf hF hS hE H
        · have H := Hf10 c10
          refine g_p (S' := [.int 62, .int v7]) hF tX5_condition_ok 58 2 rfl rfl rfl rfl ?_
          obtain ⟨Ht11, Hf11⟩ := oi H
          refine g_icmp_ne hF (dAt tX5_condition_ok 60 rfl rfl) rfl (fun c11 => ?_) (fun c11 => ?_)
          · have H := Hf11 c11
            refine g_p (S' := [.int 1, .ref a]) hF tX5_condition_ok 80 2 rfl rfl rfl rfl ?_
            obtain ⟨s12, e13, H⟩ := ob H
            refine g_cV (S := []) hF (X5_fail_ok (Nat.le_refl _) hS e13 K) mbX5_fail mvX5_fail mlX5_122 (by omega) (by decide) (dAt tX5_condition_ok 82 rfl rfl) hS.1 rfl rfl rfl (Nat.le_of_ble_eq_true rfl) rfl rfl (by decide) (by decide) rfl ?_
            exact g_vret hF (en_v H hE) (dAt tX5_condition_ok 83 rfl rfl) (by decide) (by decide)
          · have H := Ht11 c11
            refine g_m [true, false, false, true] rfl ?_
            exact X5_condition_b108_ok hD hDD hq_X5_condition hq_X5_anyOf hF hS hE H
    · have H := Ht4 c4
      exact X5_condition_b22_ok hD hDD hq_X5_condition hq_X5_anyOf hF hS hE H
def X5_anyOf_b130 (q_X5_condition : Nat → Int32 → Sig → Option (Sig)) (q_X5_anyOf : Nat → Int32 → Sig → Option (Sig)) (a : Nat) (x2 : Int32) (σ : Sig) : Option (Sig) := if x2 = 0 then (some σ) else ((X5_emit_f a 11 0 σ).bind fun s2 => some s2)
set_option maxRecDepth 4000 in
set_option maxHeartbeats 1000000 in
theorem X5_anyOf_b130_ok {K : Kt} {X : Cx} {D : Nat} {τ : Tau} {nx : Nat} {a : Nat} {res : Sig}  {q_X5_condition : Nat → Int32 → Sig → Option (Sig)} {q_X5_anyOf : Nat → Int32 → Sig → Option (Sig)} {D2 : Nat} (hD : 2 ≤ D) (hDD : D2 + 1 ≤ D) (hq_X5_condition : ∀ {τ : Tau} {nx : Nat} (a : Nat) (x1 : Int32) (σ : Sig) (res : Sig), ShX5 τ a → q_X5_condition a x1 σ = some res → Ok D2 0 0 yX5_condition cX5_condition 4 none [.ref a, .int x1] (τ, σ, nx) none (τ, res, nx)) (hq_X5_anyOf : ∀ {τ : Tau} {nx : Nat} (a : Nat) (x1 : Int32) (σ : Sig) (res : Sig), ShX5 τ a → q_X5_anyOf a x1 σ = some res → Ok D2 0 0 yX5_anyOf cX5_anyOf 5 none [.ref a, .int x1] (τ, σ, nx) none (τ, res, nx)) (hF : Fx K X cX5_anyOf 5 RX5 D 0 0) (hS : ShX5 τ a) (hE : En K X none 0 0 none (τ, res, nx)) {x2 : Int32} {σ : Sig} (H : X5_anyOf_b130 q_X5_condition q_X5_anyOf a x2 σ = some res) : G K X 5 0 0 130 [some (.ref a), none, some (.int x2), none, none] [] (τ, σ, nx) := by
  refine g_p (S' := [.int x2]) hF tX5_anyOf_ok 67 1 rfl rfl rfl rfl ?_
  obtain ⟨Ht1, Hf1⟩ := oi H
  refine g_if_eq hF (dAt tX5_anyOf_ok 68 rfl rfl) rfl (fun c1 => ?_) (fun c1 => ?_)
  · have H := Ht1 c1
    exact g_vret hF (en_v H hE) (dAt tX5_anyOf_ok 73 rfl rfl) (by decide) (by decide)
  · have H := Hf1 c1
    refine g_p (S' := [.int 0, .int 11, .ref a]) hF tX5_anyOf_ok 69 3 rfl rfl rfl rfl ?_
    obtain ⟨s2, e3, H⟩ := ob H
    refine g_cV (S := []) hF (X5_emit_ok (Nat.le_refl _) hS e3 K) mbX5_emit mvX5_emit mlX5_144 (by omega) (by decide) (dAt tX5_anyOf_ok 72 rfl rfl) hS.1 rfl rfl rfl (Nat.le_of_ble_eq_true rfl) rfl rfl (by decide) (by decide) rfl ?_
    exact g_vret hF (en_v H hE) (dAt tX5_anyOf_ok 73 rfl rfl) (by decide) (by decide)
def X5_anyOf_b102 (q_X5_condition : Nat → Int32 → Sig → Option (Sig)) (q_X5_anyOf : Nat → Int32 → Sig → Option (Sig)) (a : Nat) (k9 : Int32 → Int32 → Int32 → Sig → Option (Sig)) (x1 x3 x4 y0 : Int32) (σ : Sig) : Option (Sig) := (X5_step_f a σ).bind fun s1 => (q_X5_condition a x1 s1).bind fun s3 => if x4 = 0 then (k9 x1 y0 (x3 + 1) s3) else ((X5_emit_f a 10 0 s3).bind fun s6 => k9 x1 y0 (x3 + 1) s6)
set_option maxRecDepth 4000 in
set_option maxHeartbeats 1000000 in
theorem X5_anyOf_b102_ok {K : Kt} {X : Cx} {D : Nat} {τ : Tau} {nx : Nat} {a : Nat} {res : Sig}  {q_X5_condition : Nat → Int32 → Sig → Option (Sig)} {q_X5_anyOf : Nat → Int32 → Sig → Option (Sig)} {D2 : Nat} (hD : 2 ≤ D) (hDD : D2 + 1 ≤ D) (hq_X5_condition : ∀ {τ : Tau} {nx : Nat} (a : Nat) (x1 : Int32) (σ : Sig) (res : Sig), ShX5 τ a → q_X5_condition a x1 σ = some res → Ok D2 0 0 yX5_condition cX5_condition 4 none [.ref a, .int x1] (τ, σ, nx) none (τ, res, nx)) (hq_X5_anyOf : ∀ {τ : Tau} {nx : Nat} (a : Nat) (x1 : Int32) (σ : Sig) (res : Sig), ShX5 τ a → q_X5_anyOf a x1 σ = some res → Ok D2 0 0 yX5_anyOf cX5_anyOf 5 none [.ref a, .int x1] (τ, σ, nx) none (τ, res, nx)) (hF : Fx K X cX5_anyOf 5 RX5 D 0 0) (hS : ShX5 τ a) (hE : En K X none 0 0 none (τ, res, nx)) {k9 : Int32 → Int32 → Int32 → Sig → Option (Sig)} (hk9 : ∀ (x1 x2 x3 : Int32) (σ : Sig), k9 x1 x2 x3 σ = some res → G K X 5 0 0 9 [some (.ref a), some (.int x1), some (.int x2), some (.int x3), none] [] (τ, σ, nx)) {x1 x3 x4 y0 : Int32} {σ : Sig} (H : X5_anyOf_b102 q_X5_condition q_X5_anyOf a k9 x1 x3 x4 y0 σ = some res) : G K X 5 0 0 102 [some (.ref a), some (.int x1), none, some (.int x3), some (.int x4)] [.int y0] (τ, σ, nx) := by
  refine g_p (L' := [some (.ref a), some (.int x1), some (.int y0), some (.int x3), some (.int x4)]) (S' := [.ref a]) hF tX5_anyOf_ok 53 2 rfl rfl rfl rfl ?_
  obtain ⟨s1, e2, H⟩ := ob H
  refine g_cV (S := []) hF (X5_step_ok (Nat.le_refl _) hS e2 K) mbX5_step mvX5_step mlX5_126 (by omega) (by decide) (dAt tX5_anyOf_ok 55 rfl rfl) hS.1 rfl rfl rfl (Nat.le_of_ble_eq_true rfl) rfl rfl (by decide) (by decide) rfl ?_
  refine g_p (S' := [.int x1, .ref a]) hF tX5_anyOf_ok 56 2 rfl rfl rfl rfl ?_
  obtain ⟨s3, e4, H⟩ := ob H
  refine g_cV (S := []) hF (hq_X5_condition _ _ _ _ hS e4 K) mbX5_condition mvX5_condition mlX5_141 (by omega) (by decide) (dAt tX5_anyOf_ok 58 rfl rfl) hS.1 rfl rfl rfl (Nat.le_of_ble_eq_true rfl) rfl rfl (by decide) (by decide) rfl ?_
  refine g_p (S' := [.int x4]) hF tX5_anyOf_ok 59 1 rfl rfl rfl rfl ?_
  obtain ⟨Ht5, Hf5⟩ := oi H
  refine g_if_eq hF (dAt tX5_anyOf_ok 60 rfl rfl) rfl (fun c5 => ?_) (fun c5 => ?_)
  · have H := Ht5 c5
    refine g_p (L' := [some (.ref a), some (.int x1), some (.int y0), some (.int (x3 + 1)), some (.int x4)]) (S' := []) hF tX5_anyOf_ok 65 1 rfl rfl rfl rfl ?_
    refine g_goto hF (dAt tX5_anyOf_ok 66 rfl rfl) rfl ?_
    refine g_m [true, true, true, true, false] rfl ?_
    exact hk9 _ _ _ _ H
  · have H := Hf5 c5
    refine g_p (S' := [.int 0, .int 10, .ref a]) hF tX5_anyOf_ok 61 3 rfl rfl rfl rfl ?_
    obtain ⟨s6, e7, H⟩ := ob H
    refine g_cV (S := []) hF (X5_emit_ok (Nat.le_refl _) hS e7 K) mbX5_emit mvX5_emit mlX5_144 (by omega) (by decide) (dAt tX5_anyOf_ok 64 rfl rfl) hS.1 rfl rfl rfl (Nat.le_of_ble_eq_true rfl) rfl rfl (by decide) (by decide) rfl ?_
    refine g_p (L' := [some (.ref a), some (.int x1), some (.int y0), some (.int (x3 + 1)), some (.int x4)]) (S' := []) hF tX5_anyOf_ok 65 1 rfl rfl rfl rfl ?_
    refine g_goto hF (dAt tX5_anyOf_ok 66 rfl rfl) rfl ?_
    refine g_m [true, true, true, true, false] rfl ?_
    exact hk9 _ _ _ _ H
def X5_anyOf_b88 (q_X5_condition : Nat → Int32 → Sig → Option (Sig)) (q_X5_anyOf : Nat → Int32 → Sig → Option (Sig)) (a : Nat) (k9 : Int32 → Int32 → Int32 → Sig → Option (Sig)) (x1 x2 x3 x4 : Int32) (σ : Sig) : Option (Sig) := if x2 = 0 then (if x4 = 0 then (X5_anyOf_b102 q_X5_condition q_X5_anyOf a k9 x1 x3 x4 1 σ) else (X5_anyOf_b102 q_X5_condition q_X5_anyOf a k9 x1 x3 x4 0 σ)) else (X5_anyOf_b102 q_X5_condition q_X5_anyOf a k9 x1 x3 x4 1 σ)
set_option maxRecDepth 4000 in
set_option maxHeartbeats 1000000 in
theorem X5_anyOf_b88_ok {K : Kt} {X : Cx} {D : Nat} {τ : Tau} {nx : Nat} {a : Nat} {res : Sig}  {q_X5_condition : Nat → Int32 → Sig → Option (Sig)} {q_X5_anyOf : Nat → Int32 → Sig → Option (Sig)} {D2 : Nat} (hD : 2 ≤ D) (hDD : D2 + 1 ≤ D) (hq_X5_condition : ∀ {τ : Tau} {nx : Nat} (a : Nat) (x1 : Int32) (σ : Sig) (res : Sig), ShX5 τ a → q_X5_condition a x1 σ = some res → Ok D2 0 0 yX5_condition cX5_condition 4 none [.ref a, .int x1] (τ, σ, nx) none (τ, res, nx)) (hq_X5_anyOf : ∀ {τ : Tau} {nx : Nat} (a : Nat) (x1 : Int32) (σ : Sig) (res : Sig), ShX5 τ a → q_X5_anyOf a x1 σ = some res → Ok D2 0 0 yX5_anyOf cX5_anyOf 5 none [.ref a, .int x1] (τ, σ, nx) none (τ, res, nx)) (hF : Fx K X cX5_anyOf 5 RX5 D 0 0) (hS : ShX5 τ a) (hE : En K X none 0 0 none (τ, res, nx)) {k9 : Int32 → Int32 → Int32 → Sig → Option (Sig)} (hk9 : ∀ (x1 x2 x3 : Int32) (σ : Sig), k9 x1 x2 x3 σ = some res → G K X 5 0 0 9 [some (.ref a), some (.int x1), some (.int x2), some (.int x3), none] [] (τ, σ, nx)) {x1 x2 x3 x4 : Int32} {σ : Sig} (H : X5_anyOf_b88 q_X5_condition q_X5_anyOf a k9 x1 x2 x3 x4 σ = some res) : G K X 5 0 0 88 [some (.ref a), some (.int x1), some (.int x2), some (.int x3), some (.int x4)] [] (τ, σ, nx) := by
  refine g_p (S' := [.int x2]) hF tX5_anyOf_ok 46 1 rfl rfl rfl rfl ?_
  obtain ⟨Ht1, Hf1⟩ := oi H
  refine g_if_ne hF (dAt tX5_anyOf_ok 47 rfl rfl) rfl (fun c1 => ?_) (fun c1 => ?_)
  · have H := Hf1 c1
    refine g_p (S' := [.int 1]) hF tX5_anyOf_ok 50 1 rfl rfl rfl rfl ?_
    refine g_goto hF (dAt tX5_anyOf_ok 51 rfl rfl) rfl ?_
    refine g_m [true, true, false, true, true] rfl ?_
    exact X5_anyOf_b102_ok hD hDD hq_X5_condition hq_X5_anyOf hF hS hE hk9 H
  · have H := Ht1 c1
    refine g_p (S' := [.int x4]) hF tX5_anyOf_ok 48 1 rfl rfl rfl rfl ?_
    obtain ⟨Ht2, Hf2⟩ := oi H
    refine g_if_ne hF (dAt tX5_anyOf_ok 49 rfl rfl) rfl (fun c2 => ?_) (fun c2 => ?_)
    · have H := Hf2 c2
      refine g_p (S' := [.int 0]) hF tX5_anyOf_ok 52 1 rfl rfl rfl rfl ?_
      refine g_m [true, true, false, true, true] rfl ?_
      exact X5_anyOf_b102_ok hD hDD hq_X5_condition hq_X5_anyOf hF hS hE hk9 H
    · have H := Ht2 c2
      refine g_p (S' := [.int 1]) hF tX5_anyOf_ok 50 1 rfl rfl rfl rfl ?_
      refine g_goto hF (dAt tX5_anyOf_ok 51 rfl rfl) rfl ?_
      refine g_m [true, true, false, true, true] rfl ?_
      exact X5_anyOf_b102_ok hD hDD hq_X5_condition hq_X5_anyOf hF hS hE hk9 H
def X5_anyOf_b70 (q_X5_condition : Nat → Int32 → Sig → Option (Sig)) (q_X5_anyOf : Nat → Int32 → Sig → Option (Sig)) (a : Nat) (k9 : Int32 → Int32 → Int32 → Sig → Option (Sig)) (x1 x2 x3 y0 : Int32) (σ : Sig) : Option (Sig) := if y0 = 0 then (if x2 = 0 then (X5_anyOf_b88 q_X5_condition q_X5_anyOf a k9 x1 x2 x3 y0 σ) else ((X5_emit_f a 11 0 σ).bind fun s3 => X5_anyOf_b88 q_X5_condition q_X5_anyOf a k9 x1 x2 x3 y0 s3)) else (X5_anyOf_b88 q_X5_condition q_X5_anyOf a k9 x1 x2 x3 y0 σ)
set_option maxRecDepth 4000 in
set_option maxHeartbeats 1000000 in
theorem X5_anyOf_b70_ok {K : Kt} {X : Cx} {D : Nat} {τ : Tau} {nx : Nat} {a : Nat} {res : Sig}  {q_X5_condition : Nat → Int32 → Sig → Option (Sig)} {q_X5_anyOf : Nat → Int32 → Sig → Option (Sig)} {D2 : Nat} (hD : 2 ≤ D) (hDD : D2 + 1 ≤ D) (hq_X5_condition : ∀ {τ : Tau} {nx : Nat} (a : Nat) (x1 : Int32) (σ : Sig) (res : Sig), ShX5 τ a → q_X5_condition a x1 σ = some res → Ok D2 0 0 yX5_condition cX5_condition 4 none [.ref a, .int x1] (τ, σ, nx) none (τ, res, nx)) (hq_X5_anyOf : ∀ {τ : Tau} {nx : Nat} (a : Nat) (x1 : Int32) (σ : Sig) (res : Sig), ShX5 τ a → q_X5_anyOf a x1 σ = some res → Ok D2 0 0 yX5_anyOf cX5_anyOf 5 none [.ref a, .int x1] (τ, σ, nx) none (τ, res, nx)) (hF : Fx K X cX5_anyOf 5 RX5 D 0 0) (hS : ShX5 τ a) (hE : En K X none 0 0 none (τ, res, nx)) {k9 : Int32 → Int32 → Int32 → Sig → Option (Sig)} (hk9 : ∀ (x1 x2 x3 : Int32) (σ : Sig), k9 x1 x2 x3 σ = some res → G K X 5 0 0 9 [some (.ref a), some (.int x1), some (.int x2), some (.int x3), none] [] (τ, σ, nx)) {x1 x2 x3 y0 : Int32} {σ : Sig} (H : X5_anyOf_b70 q_X5_condition q_X5_anyOf a k9 x1 x2 x3 y0 σ = some res) : G K X 5 0 0 70 [some (.ref a), some (.int x1), some (.int x2), some (.int x3), none] [.int y0] (τ, σ, nx) := by
  refine g_p (L' := [some (.ref a), some (.int x1), some (.int x2), some (.int x3), some (.int y0)]) (S' := [.int y0]) hF tX5_anyOf_ok 37 2 rfl rfl rfl rfl ?_
  obtain ⟨Ht1, Hf1⟩ := oi H
  refine g_if_ne hF (dAt tX5_anyOf_ok 39 rfl rfl) rfl (fun c1 => ?_) (fun c1 => ?_)
  · have H := Hf1 c1
    exact X5_anyOf_b88_ok hD hDD hq_X5_condition hq_X5_anyOf hF hS hE hk9 H
  · have H := Ht1 c1
    refine g_p (S' := [.int x2]) hF tX5_anyOf_ok 40 1 rfl rfl rfl rfl ?_
    obtain ⟨Ht2, Hf2⟩ := oi H
    refine g_if_eq hF (dAt tX5_anyOf_ok 41 rfl rfl) rfl (fun c2 => ?_) (fun c2 => ?_)
    · have H := Ht2 c2
      exact X5_anyOf_b88_ok hD hDD hq_X5_condition hq_X5_anyOf hF hS hE hk9 H
    · have H := Hf2 c2
      refine g_p (S' := [.int 0, .int 11, .ref a]) hF tX5_anyOf_ok 42 3 rfl rfl rfl rfl ?_
      obtain ⟨s3, e4, H⟩ := ob H
      refine g_cV (S := []) hF (X5_emit_ok (Nat.le_refl _) hS e4 K) mbX5_emit mvX5_emit mlX5_144 (by omega) (by decide) (dAt tX5_anyOf_ok 45 rfl rfl) hS.1 rfl rfl rfl (Nat.le_of_ble_eq_true rfl) rfl rfl (by decide) (by decide) rfl ?_
      exact X5_anyOf_b88_ok hD hDD hq_X5_condition hq_X5_anyOf hF hS hE hk9 H
def X5_anyOf_b51 (q_X5_condition : Nat → Int32 → Sig → Option (Sig)) (q_X5_anyOf : Nat → Int32 → Sig → Option (Sig)) (a : Nat) (k9 : Int32 → Int32 → Int32 → Sig → Option (Sig)) (x1 x2 x3 : Int32) (σ : Sig) : Option (Sig) := (ld 401 (σ (a + 4)) (σ a 12)).bind fun v1 => if v1 = 102 then (X5_anyOf_b70 q_X5_condition q_X5_anyOf a k9 x1 x2 x3 1 σ) else (X5_anyOf_b70 q_X5_condition q_X5_anyOf a k9 x1 x2 x3 0 σ)
set_option maxRecDepth 4000 in
set_option maxHeartbeats 1000000 in
theorem X5_anyOf_b51_ok {K : Kt} {X : Cx} {D : Nat} {τ : Tau} {nx : Nat} {a : Nat} {res : Sig}  {q_X5_condition : Nat → Int32 → Sig → Option (Sig)} {q_X5_anyOf : Nat → Int32 → Sig → Option (Sig)} {D2 : Nat} (hD : 2 ≤ D) (hDD : D2 + 1 ≤ D) (hq_X5_condition : ∀ {τ : Tau} {nx : Nat} (a : Nat) (x1 : Int32) (σ : Sig) (res : Sig), ShX5 τ a → q_X5_condition a x1 σ = some res → Ok D2 0 0 yX5_condition cX5_condition 4 none [.ref a, .int x1] (τ, σ, nx) none (τ, res, nx)) (hq_X5_anyOf : ∀ {τ : Tau} {nx : Nat} (a : Nat) (x1 : Int32) (σ : Sig) (res : Sig), ShX5 τ a → q_X5_anyOf a x1 σ = some res → Ok D2 0 0 yX5_anyOf cX5_anyOf 5 none [.ref a, .int x1] (τ, σ, nx) none (τ, res, nx)) (hF : Fx K X cX5_anyOf 5 RX5 D 0 0) (hS : ShX5 τ a) (hE : En K X none 0 0 none (τ, res, nx)) {k9 : Int32 → Int32 → Int32 → Sig → Option (Sig)} (hk9 : ∀ (x1 x2 x3 : Int32) (σ : Sig), k9 x1 x2 x3 σ = some res → G K X 5 0 0 9 [some (.ref a), some (.int x1), some (.int x2), some (.int x3), none] [] (τ, σ, nx)) {x1 x2 x3 : Int32} {σ : Sig} (H : X5_anyOf_b51 q_X5_condition q_X5_anyOf a k9 x1 x2 x3 σ = some res) : G K X 5 0 0 51 [some (.ref a), some (.int x1), some (.int x2), some (.int x3), none] [] (τ, σ, nx) := by
  refine g_p (S' := [.ref a]) hF tX5_anyOf_ok 27 1 rfl rfl rfl rfl ?_
  refine g_getR hF (dAt tX5_anyOf_ok 28 rfl rfl) flX5_25 hS.1 rfl ?_
  refine g_p (S' := [.ref a, .ref (a + 4)]) hF tX5_anyOf_ok 29 1 rfl rfl rfl rfl ?_
  refine g_getI hF (dAt tX5_anyOf_ok 30 rfl rfl) flX5_54 hS.1 rfl ?_
  obtain ⟨v1, e2, H⟩ := ob H
  refine g_ild hF (dAt tX5_anyOf_ok 31 rfl rfl) hS.2.2.2.2.1 e2 ?_
  refine g_p (S' := [.int 102, .int v1]) hF tX5_anyOf_ok 32 1 rfl rfl rfl rfl ?_
  obtain ⟨Ht3, Hf3⟩ := oi H
  refine g_icmp_ne hF (dAt tX5_anyOf_ok 33 rfl rfl) rfl (fun c3 => ?_) (fun c3 => ?_)
  · have H := Hf3 c3
    refine g_p (S' := [.int 0]) hF tX5_anyOf_ok 36 1 rfl rfl rfl rfl ?_
    exact X5_anyOf_b70_ok hD hDD hq_X5_condition hq_X5_anyOf hF hS hE hk9 H
  · have H := Ht3 c3
    refine g_p (S' := [.int 1]) hF tX5_anyOf_ok 34 1 rfl rfl rfl rfl ?_
    refine g_goto hF (dAt tX5_anyOf_ok 35 rfl rfl) rfl ?_
    exact X5_anyOf_b70_ok hD hDD hq_X5_condition hq_X5_anyOf hF hS hE hk9 H
def X5_anyOf_b9 (q_X5_condition : Nat → Int32 → Sig → Option (Sig)) (q_X5_anyOf : Nat → Int32 → Sig → Option (Sig)) (a : Nat) : Nat → Int32 → Int32 → Int32 → Sig → Option (Sig)
  | 0, _, _, _, _ => none
  | fu + 1, x1, x2, x3, σ => if 400 ≤ x3 then (X5_anyOf_b130 q_X5_condition q_X5_anyOf a x2 σ) else (if (σ a 0) = 0 then ((ld 401 (σ (a + 4)) (σ a 12)).bind fun v3 => if v3 = 101 then (X5_anyOf_b51 q_X5_condition q_X5_anyOf a (X5_anyOf_b9 q_X5_condition q_X5_anyOf a fu) x1 x2 x3 σ) else ((ld 401 (σ (a + 4)) (σ a 12)).bind fun v6 => if v6 = 102 then (X5_anyOf_b51 q_X5_condition q_X5_anyOf a (X5_anyOf_b9 q_X5_condition q_X5_anyOf a fu) x1 x2 x3 σ) else (X5_anyOf_b130 q_X5_condition q_X5_anyOf a x2 σ))) else (X5_anyOf_b130 q_X5_condition q_X5_anyOf a x2 σ))
set_option maxRecDepth 4000 in
set_option maxHeartbeats 1000000 in
theorem X5_anyOf_b9_ok {K : Kt} {X : Cx} {D : Nat} {τ : Tau} {nx : Nat} {a : Nat} {res : Sig}  {q_X5_condition : Nat → Int32 → Sig → Option (Sig)} {q_X5_anyOf : Nat → Int32 → Sig → Option (Sig)} {D2 : Nat} (hD : 2 ≤ D) (hDD : D2 + 1 ≤ D) (hq_X5_condition : ∀ {τ : Tau} {nx : Nat} (a : Nat) (x1 : Int32) (σ : Sig) (res : Sig), ShX5 τ a → q_X5_condition a x1 σ = some res → Ok D2 0 0 yX5_condition cX5_condition 4 none [.ref a, .int x1] (τ, σ, nx) none (τ, res, nx)) (hq_X5_anyOf : ∀ {τ : Tau} {nx : Nat} (a : Nat) (x1 : Int32) (σ : Sig) (res : Sig), ShX5 τ a → q_X5_anyOf a x1 σ = some res → Ok D2 0 0 yX5_anyOf cX5_anyOf 5 none [.ref a, .int x1] (τ, σ, nx) none (τ, res, nx)) (hF : Fx K X cX5_anyOf 5 RX5 D 0 0) (hS : ShX5 τ a) (hE : En K X none 0 0 none (τ, res, nx)) : ∀ (fu : Nat) (x1 x2 x3 : Int32) (σ : Sig), X5_anyOf_b9 q_X5_condition q_X5_anyOf a fu x1 x2 x3 σ = some res → G K X 5 0 0 9 [some (.ref a), some (.int x1), some (.int x2), some (.int x3), none] [] (τ, σ, nx)
  | 0, _, _, _, _, H => nomatch H
  | fu + 1, x1, x2, x3, σ, H => by
    refine g_p (S' := [.int 400, .int x3]) hF tX5_anyOf_ok 7 2 rfl rfl rfl rfl ?_
    obtain ⟨Ht1, Hf1⟩ := oi H
    refine g_icmp_ge hF (dAt tX5_anyOf_ok 9 rfl rfl) rfl (fun c1 => ?_) (fun c1 => ?_)
    · have H := Ht1 c1
      refine g_m [true, false, true, false, false] rfl ?_
      exact X5_anyOf_b130_ok hD hDD hq_X5_condition hq_X5_anyOf hF hS hE H
    · have H := Hf1 c1
      refine g_p (S' := [.ref a]) hF tX5_anyOf_ok 10 1 rfl rfl rfl rfl ?_
      refine g_getI hF (dAt tX5_anyOf_ok 11 rfl rfl) flX5_34 hS.1 rfl ?_
      obtain ⟨Ht2, Hf2⟩ := oi H
      refine g_if_ne hF (dAt tX5_anyOf_ok 12 rfl rfl) rfl (fun c2 => ?_) (fun c2 => ?_)
      · have H := Hf2 c2
        refine g_m [true, false, true, false, false] rfl ?_
        exact X5_anyOf_b130_ok hD hDD hq_X5_condition hq_X5_anyOf hF hS hE H
      · have H := Ht2 c2
        refine g_p (S' := [.ref a]) hF tX5_anyOf_ok 13 1 rfl rfl rfl rfl ?_
        refine g_getR hF (dAt tX5_anyOf_ok 14 rfl rfl) flX5_25 hS.1 rfl ?_
        refine g_p (S' := [.ref a, .ref (a + 4)]) hF tX5_anyOf_ok 15 1 rfl rfl rfl rfl ?_
        refine g_getI hF (dAt tX5_anyOf_ok 16 rfl rfl) flX5_54 hS.1 rfl ?_
        obtain ⟨v3, e4, H⟩ := ob H
        refine g_ild hF (dAt tX5_anyOf_ok 17 rfl rfl) hS.2.2.2.2.1 e4 ?_
        refine g_p (S' := [.int 101, .int v3]) hF tX5_anyOf_ok 18 1 rfl rfl rfl rfl ?_
        obtain ⟨Ht5, Hf5⟩ := oi H
        refine g_icmp_eq hF (dAt tX5_anyOf_ok 19 rfl rfl) rfl (fun c5 => ?_) (fun c5 => ?_)
        · have H := Ht5 c5
          exact X5_anyOf_b51_ok hD hDD hq_X5_condition hq_X5_anyOf hF hS hE (fun _ _ _ _ H => X5_anyOf_b9_ok hD hDD hq_X5_condition hq_X5_anyOf hF hS hE fu _ _ _ _ H) H
        · have H := Hf5 c5
          refine g_p (S' := [.ref a]) hF tX5_anyOf_ok 20 1 rfl rfl rfl rfl ?_
          refine g_getR hF (dAt tX5_anyOf_ok 21 rfl rfl) flX5_25 hS.1 rfl ?_
          refine g_p (S' := [.ref a, .ref (a + 4)]) hF tX5_anyOf_ok 22 1 rfl rfl rfl rfl ?_
          refine g_getI hF (dAt tX5_anyOf_ok 23 rfl rfl) flX5_54 hS.1 rfl ?_
          obtain ⟨v6, e7, H⟩ := ob H
          refine g_ild hF (dAt tX5_anyOf_ok 24 rfl rfl) hS.2.2.2.2.1 e7 ?_
          refine g_p (S' := [.int 102, .int v6]) hF tX5_anyOf_ok 25 1 rfl rfl rfl rfl ?_
          obtain ⟨Ht8, Hf8⟩ := oi H
          refine g_icmp_ne hF (dAt tX5_anyOf_ok 26 rfl rfl) rfl (fun c8 => ?_) (fun c8 => ?_)
          · have H := Hf8 c8
            refine g_m [true, false, true, false, false] rfl ?_
            exact X5_anyOf_b130_ok hD hDD hq_X5_condition hq_X5_anyOf hF hS hE H
          · have H := Ht8 c8
            exact X5_anyOf_b51_ok hD hDD hq_X5_condition hq_X5_anyOf hF hS hE (fun _ _ _ _ H => X5_anyOf_b9_ok hD hDD hq_X5_condition hq_X5_anyOf hF hS hE fu _ _ _ _ H) H
def X5_anyOf_F (q_X5_condition : Nat → Int32 → Sig → Option (Sig)) (q_X5_anyOf : Nat → Int32 → Sig → Option (Sig)) (a : Nat) (x1 : Int32) (σ : Sig) : Option (Sig) := (q_X5_condition a x1 σ).bind fun s1 => X5_anyOf_b9 q_X5_condition q_X5_anyOf a FU x1 0 0 s1
set_option maxRecDepth 4000 in
set_option maxHeartbeats 1000000 in
theorem X5_anyOfF_ok {D : Nat} {τ : Tau} {nx : Nat} {a : Nat} {x1 : Int32} {σ : Sig} {res : Sig} {q_X5_condition : Nat → Int32 → Sig → Option (Sig)} {q_X5_anyOf : Nat → Int32 → Sig → Option (Sig)} {D2 : Nat} (hD : 2 ≤ D) (hDD : D2 + 1 ≤ D) (hq_X5_condition : ∀ {τ : Tau} {nx : Nat} (a : Nat) (x1 : Int32) (σ : Sig) (res : Sig), ShX5 τ a → q_X5_condition a x1 σ = some res → Ok D2 0 0 yX5_condition cX5_condition 4 none [.ref a, .int x1] (τ, σ, nx) none (τ, res, nx)) (hq_X5_anyOf : ∀ {τ : Tau} {nx : Nat} (a : Nat) (x1 : Int32) (σ : Sig) (res : Sig), ShX5 τ a → q_X5_anyOf a x1 σ = some res → Ok D2 0 0 yX5_anyOf cX5_anyOf 5 none [.ref a, .int x1] (τ, σ, nx) none (τ, res, nx)) (hS : ShX5 τ a) (H : X5_anyOf_F q_X5_condition q_X5_anyOf a x1 σ = some res) : Ok D 0 0 yX5_anyOf cX5_anyOf 5 none [.ref a, .int x1] (τ, σ, nx) none (τ, res, nx) := by
  refine ok_of (by decide +kernel) rfl (Nat.le_of_ble_eq_true rfl) (fun K X hF hE hN L0 hL0 => ?_)
  obtain rfl : [some (.ref a), some (.int x1), none, none, none] = L0 := hL0
  have hF : Fx K X cX5_anyOf 5 RX5 D 0 0 := hF
  refine g_p (S' := [.int x1, .ref a]) hF tX5_anyOf_ok 0 2 rfl rfl rfl rfl ?_
  obtain ⟨s1, e2, H⟩ := ob H
  refine g_cV (S := []) hF (hq_X5_condition _ _ _ _ hS e2 K) mbX5_condition mvX5_condition mlX5_141 (by omega) (by decide) (dAt tX5_anyOf_ok 2 rfl rfl) hS.1 rfl rfl rfl (Nat.le_of_ble_eq_true rfl) rfl rfl (by decide) (by decide) rfl ?_
  refine g_p (L' := [some (.ref a), some (.int x1), some (.int 0), some (.int 0), none]) (S' := []) hF tX5_anyOf_ok 3 4 rfl rfl rfl rfl ?_
  exact X5_anyOf_b9_ok hD hDD hq_X5_condition hq_X5_anyOf hF hS hE FU _ _ _ _ H
def X5_cg : Nat → (Nat → Int32 → Sig → Option (Sig)) × (Nat → Int32 → Sig → Option (Sig))
  | 0 => (fun _ _ _ => none, fun _ _ _ => none)
  | r + 1 => (X5_condition_F (X5_cg r).1 (X5_cg r).2, X5_anyOf_F (X5_cg r).1 (X5_cg r).2)
theorem X5_cg_ok : ∀ (r D : Nat), 4 + r ≤ D → (∀ {τ : Tau} {nx : Nat} (a : Nat) (x1 : Int32) (σ : Sig) (res : Sig), ShX5 τ a → (X5_cg r).1 a x1 σ = some res → Ok D 0 0 yX5_condition cX5_condition 4 none [.ref a, .int x1] (τ, σ, nx) none (τ, res, nx)) ∧ (∀ {τ : Tau} {nx : Nat} (a : Nat) (x1 : Int32) (σ : Sig) (res : Sig), ShX5 τ a → (X5_cg r).2 a x1 σ = some res → Ok D 0 0 yX5_anyOf cX5_anyOf 5 none [.ref a, .int x1] (τ, σ, nx) none (τ, res, nx))
  | 0, D, _ => ⟨(fun {_ _} _ _ _ _ hS H => nomatch H), (fun {_ _} _ _ _ _ hS H => nomatch H)⟩
  | r + 1, D, hD => ⟨(fun {_ _} _ _ _ _ hS H => X5_conditionF_ok (D2 := D - 1) (by omega) (by omega) (X5_cg_ok r (D - 1) (by omega)).1 (X5_cg_ok r (D - 1) (by omega)).2 hS H), (fun {_ _} _ _ _ _ hS H => X5_anyOfF_ok (D2 := D - 1) (by omega) (by omega) (X5_cg_ok r (D - 1) (by omega)).1 (X5_cg_ok r (D - 1) (by omega)).2 hS H)⟩
def X5_condition_f (a : Nat) (x1 : Int32) (σ : Sig) : Option (Sig) := (X5_cg 40).1 a x1 σ
theorem X5_condition_ok {D : Nat} {τ : Tau} {nx : Nat} {a : Nat} {x1 : Int32} {σ : Sig} {res : Sig} (hD : 44 ≤ D) (hS : ShX5 τ a) (H : X5_condition_f a x1 σ = some res) : Ok D 0 0 yX5_condition cX5_condition 4 none [.ref a, .int x1] (τ, σ, nx) none (τ, res, nx) := (X5_cg_ok 40 D hD).1 _ _ _ _ hS H
def X5_anyOf_f (a : Nat) (x1 : Int32) (σ : Sig) : Option (Sig) := (X5_cg 40).2 a x1 σ
theorem X5_anyOf_ok {D : Nat} {τ : Tau} {nx : Nat} {a : Nat} {x1 : Int32} {σ : Sig} {res : Sig} (hD : 44 ≤ D) (hS : ShX5 τ a) (H : X5_anyOf_f a x1 σ = some res) : Ok D 0 0 yX5_anyOf cX5_anyOf 5 none [.ref a, .int x1] (τ, σ, nx) none (τ, res, nx) := (X5_cg_ok 40 D hD).2 _ _ _ _ hS H

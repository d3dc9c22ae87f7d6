/-! SilenceForMoneyModel -/
def X12_aLine_b183 (a : Nat) (σ : Sig) : Option (Int32 × Sig) := (st 64 σ (a + 4) ((4 * (σ a 10)) + 3) (σ a 11)).bind fun s1 => (X12_need_f a 159 s1).bind fun ⟨v3, s4⟩ => if v3 = 0 ∨ v3 = 1 then some (v3, s4) else none
set_option maxRecDepth 4000 in
set_option maxHeartbeats 1000000 in
theorem X12_aLine_b183_ok {K : Kt} {X : Cx} {D : Nat} {τ : Tau} {nx : Nat} {a : Nat} {res : Int32} {rsg : Sig}  (hD : 53 ≤ D) (hF : Fx K X cX12_aLine 3 RX12 D 0 0) (hS : ShX12 τ a) (hE : En K X (some .boolean) 0 0 (some (.int res)) (τ, rsg, nx)) {σ : Sig} (H : X12_aLine_b183 a σ = some (res, rsg)) : G K X 3 0 0 183 [some (.ref a), none, none] [] (τ, σ, nx) := by
  refine g_p (S' := [.ref a]) hF tX12_aLine_ok 106 1 rfl rfl rfl rfl ?_
  refine g_getR hF (dAt tX12_aLine_ok 107 rfl rfl) flX12_19 hS.1 rfl ?_
  refine g_p (S' := [.ref a, .int 4, .ref (a + 4)]) hF tX12_aLine_ok 108 2 rfl rfl rfl rfl ?_
  refine g_getI hF (dAt tX12_aLine_ok 110 rfl rfl) flX12_222 hS.1 rfl ?_
  refine g_p (S' := [.ref a, .int ((4 * (σ a 10)) + 3), .ref (a + 4)]) hF tX12_aLine_ok 111 4 rfl rfl rfl rfl ?_
  refine g_getI hF (dAt tX12_aLine_ok 115 rfl rfl) flX12_183 hS.1 rfl ?_
  obtain ⟨s1, e2, H⟩ := ob H
  refine g_ist hF (dAt tX12_aLine_ok 116 rfl rfl) hS.2.2.2.2.1 e2 ?_
  refine g_p (S' := [.int 159, .ref a]) hF tX12_aLine_ok 117 2 rfl rfl rfl rfl ?_
  obtain ⟨⟨v3, s4⟩, e5, H⟩ := ob H
  refine g_cV (S := []) hF (X12_need_ok (Nat.le_refl _) hS e5 K) mbX12_need mvX12_need mlX12_216 (by omega) (by decide) (dAt tX12_aLine_ok 119 rfl rfl) hS.1 rfl rfl rfl (Nat.le_of_ble_eq_true rfl) rfl rfl (by decide) (by decide) rfl ?_
  obtain ⟨hb, H⟩ := oy H
  exact g_zret hF (en_p H hE) hb (dAt tX12_aLine_ok 120 rfl rfl) (by decide) (by decide)
def X12_aLine_b166 (a : Nat) (σ : Sig) : Option (Int32 × Sig) := (X12_need_f a 3 σ).bind fun ⟨v1, s2⟩ => if v1 = 0 then (some (0, s2)) else ((X12_any_f a s2).bind fun ⟨v5, s6⟩ => if v5 = 0 then (some (0, s6)) else (X12_aLine_b183 a s6))
set_option maxRecDepth 4000 in
set_option maxHeartbeats 1000000 in
theorem X12_aLine_b166_ok {K : Kt} {X : Cx} {D : Nat} {τ : Tau} {nx : Nat} {a : Nat} {res : Int32} {rsg : Sig}  (hD : 53 ≤ D) (hF : Fx K X cX12_aLine 3 RX12 D 0 0) (hS : ShX12 τ a) (hE : En K X (some .boolean) 0 0 (some (.int res)) (τ, rsg, nx)) {σ : Sig} (H : X12_aLine_b166 a σ = some (res, rsg)) : G K X 3 0 0 166 [some (.ref a), none, none] [] (τ, σ, nx) := by
  refine g_p (S' := [.int 3, .ref a]) hF tX12_aLine_ok 97 2 rfl rfl rfl rfl ?_
  obtain ⟨⟨v1, s2⟩, e3, H⟩ := ob H
  refine g_cV (S := []) hF (X12_need_ok (Nat.le_refl _) hS e3 K) mbX12_need mvX12_need mlX12_216 (by omega) (by decide) (dAt tX12_aLine_ok 99 rfl rfl) hS.1 rfl rfl rfl (Nat.le_of_ble_eq_true rfl) rfl rfl (by decide) (by decide) rfl ?_
  obtain ⟨Ht4, Hf4⟩ := oi H
  refine g_if_eq hF (dAt tX12_aLine_ok 100 rfl rfl) rfl (fun c4 => ?_) (fun c4 => ?_)
  · have H := Ht4 c4
    refine g_p (S' := [.int 0]) hF tX12_aLine_ok 104 1 rfl rfl rfl rfl ?_
    exact g_zret hF (en_p H hE) (Or.inl rfl) (dAt tX12_aLine_ok 105 rfl rfl) (by decide) (by decide)
  · have H := Hf4 c4
    refine g_p (S' := [.ref a]) hF tX12_aLine_ok 101 1 rfl rfl rfl rfl ?_
    obtain ⟨⟨v5, s6⟩, e7, H⟩ := ob H
    refine g_cV (S := []) hF (X12_any_ok (Nat.le_refl _) hS e7 K) mbX12_any mvX12_any mlX12_213 (by omega) (by decide) (dAt tX12_aLine_ok 102 rfl rfl) hS.1 rfl rfl rfl (Nat.le_of_ble_eq_true rfl) rfl rfl (by decide) (by decide) rfl ?_
    obtain ⟨Ht8, Hf8⟩ := oi H
    refine g_if_ne hF (dAt tX12_aLine_ok 103 rfl rfl) rfl (fun c8 => ?_) (fun c8 => ?_)
    · have H := Hf8 c8
      exact X12_aLine_b183_ok hD hF hS hE H
    · have H := Ht8 c8
      refine g_p (S' := [.int 0]) hF tX12_aLine_ok 104 1 rfl rfl rfl rfl ?_
      exact g_zret hF (en_p H hE) (Or.inl rfl) (dAt tX12_aLine_ok 105 rfl rfl) (by decide) (by decide)
def X12_aLine_b137 (a : Nat) (x1 : Int32) (σ : Sig) : Option (Int32 × Sig) := (st 64 σ (a + 4) ((4 * (σ a 10)) + 2) (σ a 11)).bind fun s1 => if x1 = 0 then (if (s1 a 14) = 3 then (X12_aLine_b166 a s1) else (X12_aLine_b183 a s1)) else (X12_aLine_b166 a s1)
set_option maxRecDepth 4000 in
set_option maxHeartbeats 1000000 in
theorem X12_aLine_b137_ok {K : Kt} {X : Cx} {D : Nat} {τ : Tau} {nx : Nat} {a : Nat} {res : Int32} {rsg : Sig}  (hD : 53 ≤ D) (hF : Fx K X cX12_aLine 3 RX12 D 0 0) (hS : ShX12 τ a) (hE : En K X (some .boolean) 0 0 (some (.int res)) (τ, rsg, nx)) {x1 : Int32} {σ : Sig} (H : X12_aLine_b137 a x1 σ = some (res, rsg)) : G K X 3 0 0 137 [some (.ref a), some (.int x1), none] [] (τ, σ, nx) := by
  refine g_p (S' := [.ref a]) hF tX12_aLine_ok 80 1 rfl rfl rfl rfl ?_
  refine g_getR hF (dAt tX12_aLine_ok 81 rfl rfl) flX12_19 hS.1 rfl ?_
  refine g_p (S' := [.ref a, .int 4, .ref (a + 4)]) hF tX12_aLine_ok 82 2 rfl rfl rfl rfl ?_
  refine g_getI hF (dAt tX12_aLine_ok 84 rfl rfl) flX12_222 hS.1 rfl ?_
  refine g_p (S' := [.ref a, .int ((4 * (σ a 10)) + 2), .ref (a + 4)]) hF tX12_aLine_ok 85 4 rfl rfl rfl rfl ?_
  refine g_getI hF (dAt tX12_aLine_ok 89 rfl rfl) flX12_183 hS.1 rfl ?_
  obtain ⟨s1, e2, H⟩ := ob H
  refine g_ist hF (dAt tX12_aLine_ok 90 rfl rfl) hS.2.2.2.2.1 e2 ?_
  refine g_p (S' := [.int x1]) hF tX12_aLine_ok 91 1 rfl rfl rfl rfl ?_
  obtain ⟨Ht3, Hf3⟩ := oi H
  refine g_if_ne hF (dAt tX12_aLine_ok 92 rfl rfl) rfl (fun c3 => ?_) (fun c3 => ?_)
  · have H := Hf3 c3
    refine g_m [true, false, false] rfl ?_
    exact X12_aLine_b166_ok hD hF hS hE H
  · have H := Ht3 c3
    refine g_p (S' := [.ref a]) hF tX12_aLine_ok 93 1 rfl rfl rfl rfl ?_
    refine g_getI hF (dAt tX12_aLine_ok 94 rfl rfl) flX12_156 hS.1 rfl ?_
    refine g_p (S' := [.int 3, .int (s1 a 14)]) hF tX12_aLine_ok 95 1 rfl rfl rfl rfl ?_
    obtain ⟨Ht4, Hf4⟩ := oi H
    refine g_icmp_ne hF (dAt tX12_aLine_ok 96 rfl rfl) rfl (fun c4 => ?_) (fun c4 => ?_)
    · have H := Hf4 c4
      refine g_m [true, false, false] rfl ?_
      exact X12_aLine_b183_ok hD hF hS hE H
    · have H := Ht4 c4
      refine g_m [true, false, false] rfl ?_
      exact X12_aLine_b166_ok hD hF hS hE H
def X12_aLine_b125 (a : Nat) (x1 : Int32) (σ : Sig) : Option (Int32 × Sig) := (X12_number_f a 0 99 σ).bind fun ⟨v1, s2⟩ => if v1 = 0 then (some (0, s2)) else (X12_aLine_b137 a x1 s2)
set_option maxRecDepth 4000 in
set_option maxHeartbeats 1000000 in
theorem X12_aLine_b125_ok {K : Kt} {X : Cx} {D : Nat} {τ : Tau} {nx : Nat} {a : Nat} {res : Int32} {rsg : Sig}  (hD : 53 ≤ D) (hF : Fx K X cX12_aLine 3 RX12 D 0 0) (hS : ShX12 τ a) (hE : En K X (some .boolean) 0 0 (some (.int res)) (τ, rsg, nx)) {x1 : Int32} {σ : Sig} (H : X12_aLine_b125 a x1 σ = some (res, rsg)) : G K X 3 0 0 125 [some (.ref a), some (.int x1), none] [] (τ, σ, nx) := by
  refine g_p (S' := [.int 99, .int 0, .ref a]) hF tX12_aLine_ok 73 3 rfl rfl rfl rfl ?_
  obtain ⟨⟨v1, s2⟩, e3, H⟩ := ob H
  refine g_cV (S := []) hF (X12_number_ok (Nat.le_refl _) hS e3 K) mbX12_number mvX12_number mlX12_200 (by omega) (by decide) (dAt tX12_aLine_ok 76 rfl rfl) hS.1 rfl rfl rfl (Nat.le_of_ble_eq_true rfl) rfl rfl (by decide) (by decide) rfl ?_
  obtain ⟨Ht4, Hf4⟩ := oi H
  refine g_if_ne hF (dAt tX12_aLine_ok 77 rfl rfl) rfl (fun c4 => ?_) (fun c4 => ?_)
  · have H := Hf4 c4
    exact X12_aLine_b137_ok hD hF hS hE H
  · have H := Ht4 c4
    refine g_p (S' := [.int 0]) hF tX12_aLine_ok 78 1 rfl rfl rfl rfl ?_
    exact g_zret hF (en_p H hE) (Or.inl rfl) (dAt tX12_aLine_ok 79 rfl rfl) (by decide) (by decide)
def X12_aLine_b41 (a : Nat) (x1 y0 y1 y2 y3 : Int32) (σ : Sig) : Option (Int32 × Sig) := (X12_isIn_f y3 y2 (y1 + y0) σ).bind fun v1 => if v1 = 0 then ((X12_bad_f a 1 σ).bind fun ⟨v18, s19⟩ => if v18 = 0 ∨ v18 = 1 then some (v18, s19) else none) else (if (σ a 10) = 16 then ((X12_bad_f a 3 σ).bind fun ⟨v15, s16⟩ => if v15 = 0 ∨ v15 = 1 then some (v15, s16) else none) else ((pI σ a 20 0).bind fun s5 => (X12_next0_f a s5).bind fun s7 => (st 64 s7 (a + 4) (4 * (s7 a 10)) ((σ a 14) - 20)).bind fun s9 => (st 64 s9 (a + 4) ((4 * (s9 a 10)) + 1) (s9 a 16)).bind fun s11 => if ((σ a 14) - 20) = 1 then (X12_aLine_b125 a x1 s11) else (if ((σ a 14) - 20) = 2 then (X12_aLine_b125 a x1 s11) else (X12_aLine_b137 a x1 s11))))
set_option maxRecDepth 4000 in
set_option maxHeartbeats 1000000 in
theorem X12_aLine_b41_ok {K : Kt} {X : Cx} {D : Nat} {τ : Tau} {nx : Nat} {a : Nat} {res : Int32} {rsg : Sig}  (hD : 53 ≤ D) (hF : Fx K X cX12_aLine 3 RX12 D 0 0) (hS : ShX12 τ a) (hE : En K X (some .boolean) 0 0 (some (.int res)) (τ, rsg, nx)) {x1 y0 y1 y2 y3 : Int32} {σ : Sig} (H : X12_aLine_b41 a x1 y0 y1 y2 y3 σ = some (res, rsg)) : G K X 3 0 0 41 [some (.ref a), some (.int x1), none] [.int y0, .int y1, .int y2, .int y3] (τ, σ, nx) := by
  refine g_p (S' := [.int (y1 + y0), .int y2, .int y3]) hF tX12_aLine_ok 23 1 rfl rfl rfl rfl ?_
  obtain ⟨v1, e2, H⟩ := ob H
  refine g_cS (S := []) hF (X12_isIn_ok (Nat.le_refl _)  e2 K) mbX12_isIn msX12_isIn mlX12_50 (by omega) (by decide) (dAt tX12_aLine_ok 24 rfl rfl) rfl rfl (Nat.le_of_ble_eq_true rfl) rfl rfl (by decide) (by decide) rfl ?_
  obtain ⟨Ht3, Hf3⟩ := oi H
  refine g_if_ne hF (dAt tX12_aLine_ok 25 rfl rfl) rfl (fun c3 => ?_) (fun c3 => ?_)
  · have H := Hf3 c3
    refine g_p (S' := [.ref a]) hF tX12_aLine_ok 30 1 rfl rfl rfl rfl ?_
    refine g_getI hF (dAt tX12_aLine_ok 31 rfl rfl) flX12_222 hS.1 rfl ?_
    refine g_p (S' := [.int 16, .int (σ a 10)]) hF tX12_aLine_ok 32 1 rfl rfl rfl rfl ?_
    obtain ⟨Ht4, Hf4⟩ := oi H
    refine g_icmp_ne hF (dAt tX12_aLine_ok 33 rfl rfl) rfl (fun c4 => ?_) (fun c4 => ?_)
    · have H := Hf4 c4
      refine g_p (S' := [.ref a]) hF tX12_aLine_ok 38 1 rfl rfl rfl rfl ?_
      refine g_getI hF (dAt tX12_aLine_ok 39 rfl rfl) flX12_156 hS.1 rfl ?_
      refine g_p (L' := [some (.ref a), some (.int x1), some (.int ((σ a 14) - 20))]) (S' := [.int 0, .ref a]) hF tX12_aLine_ok 40 5 rfl rfl rfl rfl ?_
      obtain ⟨s5, e6, H⟩ := ob H
      refine g_pI hF (dAt tX12_aLine_ok 45 rfl rfl) flX12_186 (Or.inl rfl) hS.1 rfl e6 ?_
      refine g_p (S' := [.ref a]) hF tX12_aLine_ok 46 1 rfl rfl rfl rfl ?_
      obtain ⟨s7, e8, H⟩ := ob H
      refine g_cV (S := []) hF (X12_next0_ok (Nat.le_refl _) hS e8 K) mbX12_next0 mvX12_next0 mlX12_180 (by omega) (by decide) (dAt tX12_aLine_ok 47 rfl rfl) hS.1 rfl rfl rfl (Nat.le_of_ble_eq_true rfl) rfl rfl (by decide) (by decide) rfl ?_
      refine g_p (S' := [.ref a]) hF tX12_aLine_ok 48 1 rfl rfl rfl rfl ?_
      refine g_getR hF (dAt tX12_aLine_ok 49 rfl rfl) flX12_19 hS.1 rfl ?_
      refine g_p (S' := [.ref a, .int 4, .ref (a + 4)]) hF tX12_aLine_ok 50 2 rfl rfl rfl rfl ?_
      refine g_getI hF (dAt tX12_aLine_ok 52 rfl rfl) flX12_222 hS.1 rfl ?_
      refine g_p (S' := [.int ((σ a 14) - 20), .int (4 * (s7 a 10)), .ref (a + 4)]) hF tX12_aLine_ok 53 2 rfl rfl rfl rfl ?_
      obtain ⟨s9, e10, H⟩ := ob H
      refine g_ist hF (dAt tX12_aLine_ok 55 rfl rfl) hS.2.2.2.2.1 e10 ?_
      refine g_p (S' := [.ref a]) hF tX12_aLine_ok 56 1 rfl rfl rfl rfl ?_
      refine g_getR hF (dAt tX12_aLine_ok 57 rfl rfl) flX12_19 hS.1 rfl ?_
      refine g_p (S' := [.ref a, .int 4, .ref (a + 4)]) hF tX12_aLine_ok 58 2 rfl rfl rfl rfl ?_
      refine g_getI hF (dAt tX12_aLine_ok 60 rfl rfl) flX12_222 hS.1 rfl ?_
      refine g_p (S' := [.ref a, .int ((4 * (s9 a 10)) + 1), .ref (a + 4)]) hF tX12_aLine_ok 61 4 rfl rfl rfl rfl ?_
      refine g_getI hF (dAt tX12_aLine_ok 65 rfl rfl) flX12_168 hS.1 rfl ?_
      obtain ⟨s11, e12, H⟩ := ob H
      refine g_ist hF (dAt tX12_aLine_ok 66 rfl rfl) hS.2.2.2.2.1 e12 ?_
      refine g_p (S' := [.int 1, .int ((σ a 14) - 20)]) hF tX12_aLine_ok 67 2 rfl rfl rfl rfl ?_
      obtain ⟨Ht13, Hf13⟩ := oi H
      refine g_icmp_eq hF (dAt tX12_aLine_ok 69 rfl rfl) rfl (fun c13 => ?_) (fun c13 => ?_)
      · have H := Ht13 c13
        refine g_m [true, true, false] rfl ?_
        exact X12_aLine_b125_ok hD hF hS hE H
      · have H := Hf13 c13
        refine g_p (S' := [.int 2, .int ((σ a 14) - 20)]) hF tX12_aLine_ok 70 2 rfl rfl rfl rfl ?_
        obtain ⟨Ht14, Hf14⟩ := oi H
        refine g_icmp_ne hF (dAt tX12_aLine_ok 72 rfl rfl) rfl (fun c14 => ?_) (fun c14 => ?_)
        · have H := Hf14 c14
          refine g_m [true, true, false] rfl ?_
          exact X12_aLine_b137_ok hD hF hS hE H
        · have H := Ht14 c14
          refine g_m [true, true, false] rfl ?_
          exact X12_aLine_b125_ok hD hF hS hE H
    · have H := Ht4 c4
      refine g_p (S' := [.int 3, .ref a]) hF tX12_aLine_ok 34 2 rfl rfl rfl rfl ?_
      obtain ⟨⟨v15, s16⟩, e17, H⟩ := ob H
      refine g_cV (S := []) hF (X12_bad_ok (Nat.le_refl _) hS e17 K) mbX12_bad mvX12_bad mlX12_177 (by omega) (by decide) (dAt tX12_aLine_ok 36 rfl rfl) hS.1 rfl rfl rfl (Nat.le_of_ble_eq_true rfl) rfl rfl (by decide) (by decide) rfl ?_
      obtain ⟨hb, H⟩ := oy H
      exact g_zret hF (en_p H hE) hb (dAt tX12_aLine_ok 37 rfl rfl) (by decide) (by decide)
  · have H := Ht3 c3
    refine g_p (S' := [.int 1, .ref a]) hF tX12_aLine_ok 26 2 rfl rfl rfl rfl ?_
    obtain ⟨⟨v18, s19⟩, e20, H⟩ := ob H
    refine g_cV (S := []) hF (X12_bad_ok (Nat.le_refl _) hS e20 K) mbX12_bad mvX12_bad mlX12_177 (by omega) (by decide) (dAt tX12_aLine_ok 28 rfl rfl) hS.1 rfl rfl rfl (Nat.le_of_ble_eq_true rfl) rfl rfl (by decide) (by decide) rfl ?_
    obtain ⟨hb, H⟩ := oy H
    exact g_zret hF (en_p H hE) hb (dAt tX12_aLine_ok 29 rfl rfl) (by decide) (by decide)
def X12_aLine_b29 (a : Nat) (x1 y0 y1 y2 : Int32) (σ : Sig) : Option (Int32 × Sig) := if x1 = 0 then (X12_aLine_b41 a x1 3 20 (y1 + y0) y2 σ) else (X12_aLine_b41 a x1 0 20 (y1 + y0) y2 σ)
set_option maxRecDepth 4000 in
set_option maxHeartbeats 1000000 in
theorem X12_aLine_b29_ok {K : Kt} {X : Cx} {D : Nat} {τ : Tau} {nx : Nat} {a : Nat} {res : Int32} {rsg : Sig}  (hD : 53 ≤ D) (hF : Fx K X cX12_aLine 3 RX12 D 0 0) (hS : ShX12 τ a) (hE : En K X (some .boolean) 0 0 (some (.int res)) (τ, rsg, nx)) {x1 y0 y1 y2 : Int32} {σ : Sig} (H : X12_aLine_b29 a x1 y0 y1 y2 σ = some (res, rsg)) : G K X 3 0 0 29 [some (.ref a), some (.int x1), none] [.int y0, .int y1, .int y2] (τ, σ, nx) := by
  refine g_p (S' := [.int x1, .int 20, .int (y1 + y0), .int y2]) hF tX12_aLine_ok 16 3 rfl rfl rfl rfl ?_
  obtain ⟨Ht1, Hf1⟩ := oi H
  refine g_if_eq hF (dAt tX12_aLine_ok 19 rfl rfl) rfl (fun c1 => ?_) (fun c1 => ?_)
  · have H := Ht1 c1
    refine g_p (S' := [.int 3, .int 20, .int (y1 + y0), .int y2]) hF tX12_aLine_ok 22 1 rfl rfl rfl rfl ?_
    exact X12_aLine_b41_ok hD hF hS hE H
  · have H := Hf1 c1
    refine g_p (S' := [.int 0, .int 20, .int (y1 + y0), .int y2]) hF tX12_aLine_ok 20 1 rfl rfl rfl rfl ?_
    refine g_goto hF (dAt tX12_aLine_ok 21 rfl rfl) rfl ?_
    exact X12_aLine_b41_ok hD hF hS hE H
def X12_aLine_b13 (a : Nat) (y0 : Int32) (σ : Sig) : Option (Int32 × Sig) := if y0 = 0 then (X12_aLine_b29 a y0 1 20 (σ a 14) σ) else (X12_aLine_b29 a y0 0 20 (σ a 14) σ)
set_option maxRecDepth 4000 in
set_option maxHeartbeats 1000000 in
theorem X12_aLine_b13_ok {K : Kt} {X : Cx} {D : Nat} {τ : Tau} {nx : Nat} {a : Nat} {res : Int32} {rsg : Sig}  (hD : 53 ≤ D) (hF : Fx K X cX12_aLine 3 RX12 D 0 0) (hS : ShX12 τ a) (hE : En K X (some .boolean) 0 0 (some (.int res)) (τ, rsg, nx)) {y0 : Int32} {σ : Sig} (H : X12_aLine_b13 a y0 σ = some (res, rsg)) : G K X 3 0 0 13 [some (.ref a), none, none] [.int y0] (τ, σ, nx) := by
  refine g_p (L' := [some (.ref a), some (.int y0), none]) (S' := [.ref a]) hF tX12_aLine_ok 7 2 rfl rfl rfl rfl ?_
  refine g_getI hF (dAt tX12_aLine_ok 9 rfl rfl) flX12_156 hS.1 rfl ?_
  refine g_p (S' := [.int y0, .int 20, .int (σ a 14)]) hF tX12_aLine_ok 10 2 rfl rfl rfl rfl ?_
  obtain ⟨Ht1, Hf1⟩ := oi H
  refine g_if_eq hF (dAt tX12_aLine_ok 12 rfl rfl) rfl (fun c1 => ?_) (fun c1 => ?_)
  · have H := Ht1 c1
    refine g_p (S' := [.int 1, .int 20, .int (σ a 14)]) hF tX12_aLine_ok 15 1 rfl rfl rfl rfl ?_
    exact X12_aLine_b29_ok hD hF hS hE H
  · have H := Hf1 c1
    refine g_p (S' := [.int 0, .int 20, .int (σ a 14)]) hF tX12_aLine_ok 13 1 rfl rfl rfl rfl ?_
    refine g_goto hF (dAt tX12_aLine_ok 14 rfl rfl) rfl ?_
    exact X12_aLine_b29_ok hD hF hS hE H
def X12_aLine_f (a : Nat) (σ : Sig) : Option (Int32 × Sig) := if 2 ≤ (σ a 9) then (X12_aLine_b13 a 0 σ) else (X12_aLine_b13 a 1 σ)
set_option maxRecDepth 4000 in
set_option maxHeartbeats 1000000 in
theorem X12_aLine_ok {D : Nat} {τ : Tau} {nx : Nat} {a : Nat} {σ : Sig} {res : Int32} {rsg : Sig} (hD : 53 ≤ D) (hS : ShX12 τ a) (H : X12_aLine_f a σ = some (res, rsg)) : Ok D 0 0 yX12_aLine cX12_aLine 3 (some .boolean) [.ref a] (τ, σ, nx) (some (.int res)) (τ, rsg, nx) := by
  refine ok_of (by decide +kernel) rfl (Nat.le_of_ble_eq_true rfl) (fun K X hF hE hN L0 hL0 => ?_)
  obtain rfl : [some (.ref a), none, none] = L0 := hL0
  have hF : Fx K X cX12_aLine 3 RX12 D 0 0 := hF
  refine g_p (S' := [.ref a]) hF tX12_aLine_ok 0 1 rfl rfl rfl rfl ?_
  refine g_getI hF (dAt tX12_aLine_ok 1 rfl rfl) flX12_144 hS.1 rfl ?_
  refine g_p (S' := [.int 2, .int (σ a 9)]) hF tX12_aLine_ok 2 1 rfl rfl rfl rfl ?_
  obtain ⟨Ht1, Hf1⟩ := oi H
  refine g_icmp_ge hF (dAt tX12_aLine_ok 3 rfl rfl) rfl (fun c1 => ?_) (fun c1 => ?_)
  · have H := Ht1 c1
    refine g_p (S' := [.int 0]) hF tX12_aLine_ok 6 1 rfl rfl rfl rfl ?_
    exact X12_aLine_b13_ok hD hF hS hE H
  · have H := Hf1 c1
    refine g_p (S' := [.int 1]) hF tX12_aLine_ok 4 1 rfl rfl rfl rfl ?_
    refine g_goto hF (dAt tX12_aLine_ok 5 rfl rfl) rfl ?_
    exact X12_aLine_b13_ok hD hF hS hE H
def X12_text_b259 (a : Nat) : Nat → Int32 → Int32 → Sig → Option (Int32 × Sig)
  | 0, _, _, _ => none
  | fu + 1, x1, x3, σ => if (2 * (σ a 11)) ≤ x3 then (some ((σ a 10), σ)) else ((ld 820 (σ (a + 5)) x3).bind fun v2 => (st 20240 σ (a + 1) ((2960 + (820 * x1)) + x3) v2).bind fun s4 => X12_text_b259 a fu x1 (x3 + 1) s4)
set_option maxRecDepth 4000 in
set_option maxHeartbeats 1000000 in
theorem X12_text_b259_ok {K : Kt} {X : Cx} {D : Nat} {τ : Tau} {nx : Nat} {a : Nat} {res : Int32} {rsg : Sig}  (hD : 54 ≤ D) (hF : Fx K X cX12_text 4 RX12 D 0 0) (hS : ShX12 τ a) (hE : En K X (some .int) 0 0 (some (.int res)) (τ, rsg, nx)) : ∀ (fu : Nat) (x1 x3 : Int32) (σ : Sig), X12_text_b259 a fu x1 x3 σ = some (res, rsg) → G K X 4 0 0 259 [some (.ref a), some (.int x1), none, some (.int x3)] [] (τ, σ, nx)
  | 0, _, _, _, H => nomatch H
  | fu + 1, x1, x3, σ, H => by
    refine g_p (S' := [.ref a, .int 2, .int x3]) hF tX12_text_ok 161 3 rfl rfl rfl rfl ?_
    refine g_getI hF (dAt tX12_text_ok 164 rfl rfl) flX12_183 hS.1 rfl ?_
    refine g_p (S' := [.int (2 * (σ a 11)), .int x3]) hF tX12_text_ok 165 1 rfl rfl rfl rfl ?_
    obtain ⟨Ht1, Hf1⟩ := oi H
    refine g_icmp_ge hF (dAt tX12_text_ok 166 rfl rfl) rfl (fun c1 => ?_) (fun c1 => ?_)
    · have H := Ht1 c1
      refine g_p (S' := [.ref a]) hF tX12_text_ok 183 1 rfl rfl rfl rfl ?_
      refine g_getI hF (dAt tX12_text_ok 184 rfl rfl) flX12_222 hS.1 rfl ?_
      exact g_iret hF (en_p H hE) (dAt tX12_text_ok 185 rfl rfl) (by decide) (by decide)
    · have H := Hf1 c1
      refine g_p (S' := [.ref a]) hF tX12_text_ok 167 1 rfl rfl rfl rfl ?_
      refine g_getR hF (dAt tX12_text_ok 168 rfl rfl) flX12_7 hS.1 rfl ?_
      refine g_p (S' := [.ref a, .int ((2960 + (820 * x1)) + x3), .ref (a + 1)]) hF tX12_text_ok 169 8 rfl rfl rfl rfl ?_
      refine g_getR hF (dAt tX12_text_ok 177 rfl rfl) flX12_22 hS.1 rfl ?_
      refine g_p (S' := [.int x3, .ref (a + 5), .int ((2960 + (820 * x1)) + x3), .ref (a + 1)]) hF tX12_text_ok 178 1 rfl rfl rfl rfl ?_
      obtain ⟨v2, e3, H⟩ := ob H
      refine g_ild hF (dAt tX12_text_ok 179 rfl rfl) hS.2.2.2.2.2.1 e3 ?_
      obtain ⟨s4, e5, H⟩ := ob H
      refine g_ist hF (dAt tX12_text_ok 180 rfl rfl) hS.2.1 e5 ?_
      refine g_p (L' := [some (.ref a), some (.int x1), none, some (.int (x3 + 1))]) (S' := []) hF tX12_text_ok 181 1 rfl rfl rfl rfl ?_
      refine g_goto hF (dAt tX12_text_ok 182 rfl rfl) rfl ?_
      exact X12_text_b259_ok hD hF hS hE fu _ _ _ H
def X12_text_b145 (a : Nat) : Nat → Int32 → Int32 → Sig → Option (Int32 × Sig)
  | 0, _, _, _ => none
  | fu + 1, x1, x3, σ => if (σ a 10) ≤ x3 then (X12_text_b259 a FU x1 0 σ) else ((ld 64 (σ (a + 4)) (4 * x3)).bind fun v2 => (st 20240 σ (a + 1) ((2560 + (16 * x1)) + x3) v2).bind fun s4 => (ld 64 (s4 (a + 4)) ((4 * x3) + 1)).bind fun v6 => (st 20240 s4 (a + 1) ((2660 + (16 * x1)) + x3) v6).bind fun s8 => (ld 64 (s8 (a + 4)) ((4 * x3) + 2)).bind fun v10 => (st 20240 s8 (a + 1) ((2760 + (16 * x1)) + x3) v10).bind fun s12 => (ld 64 (s12 (a + 4)) ((4 * x3) + 3)).bind fun v14 => (st 20240 s12 (a + 1) ((2860 + (16 * x1)) + x3) v14).bind fun s16 => X12_text_b145 a fu x1 (x3 + 1) s16)
set_option maxRecDepth 4000 in
set_option maxHeartbeats 1000000 in
theorem X12_text_b145_ok {K : Kt} {X : Cx} {D : Nat} {τ : Tau} {nx : Nat} {a : Nat} {res : Int32} {rsg : Sig}  (hD : 54 ≤ D) (hF : Fx K X cX12_text 4 RX12 D 0 0) (hS : ShX12 τ a) (hE : En K X (some .int) 0 0 (some (.int res)) (τ, rsg, nx)) : ∀ (fu : Nat) (x1 x3 : Int32) (σ : Sig), X12_text_b145 a fu x1 x3 σ = some (res, rsg) → G K X 4 0 0 145 [some (.ref a), some (.int x1), none, some (.int x3)] [] (τ, σ, nx)
  | 0, _, _, _, H => nomatch H
  | fu + 1, x1, x3, σ, H => by
    refine g_p (S' := [.ref a, .int x3]) hF tX12_text_ok 83 2 rfl rfl rfl rfl ?_
    refine g_getI hF (dAt tX12_text_ok 85 rfl rfl) flX12_222 hS.1 rfl ?_
    obtain ⟨Ht1, Hf1⟩ := oi H
    refine g_icmp_ge hF (dAt tX12_text_ok 86 rfl rfl) rfl (fun c1 => ?_) (fun c1 => ?_)
    · have H := Ht1 c1
      refine g_p (L' := [some (.ref a), some (.int x1), none, some (.int 0)]) (S' := []) hF tX12_text_ok 159 2 rfl rfl rfl rfl ?_
      exact X12_text_b259_ok hD hF hS hE FU _ _ _ H
    · have H := Hf1 c1
      refine g_p (S' := [.ref a]) hF tX12_text_ok 87 1 rfl rfl rfl rfl ?_
      refine g_getR hF (dAt tX12_text_ok 88 rfl rfl) flX12_7 hS.1 rfl ?_
      refine g_p (S' := [.ref a, .int ((2560 + (16 * x1)) + x3), .ref (a + 1)]) hF tX12_text_ok 89 8 rfl rfl rfl rfl ?_
      refine g_getR hF (dAt tX12_text_ok 97 rfl rfl) flX12_19 hS.1 rfl ?_
      refine g_p (S' := [.int (4 * x3), .ref (a + 4), .int ((2560 + (16 * x1)) + x3), .ref (a + 1)]) hF tX12_text_ok 98 3 rfl rfl rfl rfl ?_
      obtain ⟨v2, e3, H⟩ := ob H
      refine g_ild hF (dAt tX12_text_ok 101 rfl rfl) hS.2.2.2.2.1 e3 ?_
      obtain ⟨s4, e5, H⟩ := ob H
      refine g_ist hF (dAt tX12_text_ok 102 rfl rfl) hS.2.1 e5 ?_
      refine g_p (S' := [.ref a]) hF tX12_text_ok 103 1 rfl rfl rfl rfl ?_
      refine g_getR hF (dAt tX12_text_ok 104 rfl rfl) flX12_7 hS.1 rfl ?_
      refine g_p (S' := [.ref a, .int ((2660 + (16 * x1)) + x3), .ref (a + 1)]) hF tX12_text_ok 105 8 rfl rfl rfl rfl ?_
      refine g_getR hF (dAt tX12_text_ok 113 rfl rfl) flX12_19 hS.1 rfl ?_
      refine g_p (S' := [.int ((4 * x3) + 1), .ref (a + 4), .int ((2660 + (16 * x1)) + x3), .ref (a + 1)]) hF tX12_text_ok 114 5 rfl rfl rfl rfl ?_
      obtain ⟨v6, e7, H⟩ := ob H
      refine g_ild hF (dAt tX12_text_ok 119 rfl rfl) hS.2.2.2.2.1 e7 ?_
      obtain ⟨s8, e9, H⟩ := ob H
      refine g_ist hF (dAt tX12_text_ok 120 rfl rfl) hS.2.1 e9 ?_
      refine g_p (S' := [.ref a]) hF tX12_text_ok 121 1 rfl rfl rfl rfl ?_
      refine g_getR hF (dAt tX12_text_ok 122 rfl rfl) flX12_7 hS.1 rfl ?_
      refine g_p (S' := [.ref a, .int ((2760 + (16 * x1)) + x3), .ref (a + 1)]) hF tX12_text_ok 123 8 rfl rfl rfl rfl ?_
      refine g_getR hF (dAt tX12_text_ok 131 rfl rfl) flX12_19 hS.1 rfl ?_
      refine g_p (S' := [.int ((4 * x3) + 2), .ref (a + 4), .int ((2760 + (16 * x1)) + x3), .ref (a + 1)]) hF tX12_text_ok 132 5 rfl rfl rfl rfl ?_
      obtain ⟨v10, e11, H⟩ := ob H
      refine g_ild hF (dAt tX12_text_ok 137 rfl rfl) hS.2.2.2.2.1 e11 ?_
      obtain ⟨s12, e13, H⟩ := ob H
      refine g_ist hF (dAt tX12_text_ok 138 rfl rfl) hS.2.1 e13 ?_
      refine g_p (S' := [.ref a]) hF tX12_text_ok 139 1 rfl rfl rfl rfl ?_
      refine g_getR hF (dAt tX12_text_ok 140 rfl rfl) flX12_7 hS.1 rfl ?_
      refine g_p (S' := [.ref a, .int ((2860 + (16 * x1)) + x3), .ref (a + 1)]) hF tX12_text_ok 141 8 rfl rfl rfl rfl ?_
      refine g_getR hF (dAt tX12_text_ok 149 rfl rfl) flX12_19 hS.1 rfl ?_
      refine g_p (S' := [.int ((4 * x3) + 3), .ref (a + 4), .int ((2860 + (16 * x1)) + x3), .ref (a + 1)]) hF tX12_text_ok 150 5 rfl rfl rfl rfl ?_
      obtain ⟨v14, e15, H⟩ := ob H
      refine g_ild hF (dAt tX12_text_ok 155 rfl rfl) hS.2.2.2.2.1 e15 ?_
      obtain ⟨s16, e17, H⟩ := ob H
      refine g_ist hF (dAt tX12_text_ok 156 rfl rfl) hS.2.1 e17 ?_
      refine g_p (L' := [some (.ref a), some (.int x1), none, some (.int (x3 + 1))]) (S' := []) hF tX12_text_ok 157 1 rfl rfl rfl rfl ?_
      refine g_goto hF (dAt tX12_text_ok 158 rfl rfl) rfl ?_
      exact X12_text_b145_ok hD hF hS hE fu _ _ _ H
def X12_text_b120 (a : Nat) (x1 x2 y0 : Int32) (σ : Sig) : Option (Int32 × Sig) := (pI σ a 21 y0).bind fun s1 => if x2 = 0 then (some ((-1), s1)) else ((st 20240 s1 (a + 1) (2550 + x1) (s1 a 10)).bind fun s4 => X12_text_b145 a FU x1 0 s4)
set_option maxRecDepth 4000 in
set_option maxHeartbeats 1000000 in
theorem X12_text_b120_ok {K : Kt} {X : Cx} {D : Nat} {τ : Tau} {nx : Nat} {a : Nat} {res : Int32} {rsg : Sig}  (hD : 54 ≤ D) (hF : Fx K X cX12_text 4 RX12 D 0 0) (hS : ShX12 τ a) (hE : En K X (some .int) 0 0 (some (.int res)) (τ, rsg, nx)) {x1 x2 y0 : Int32} {σ : Sig} (H : X12_text_b120 a x1 x2 y0 σ = some (res, rsg)) : G K X 4 0 0 120 [some (.ref a), some (.int x1), some (.int x2), none] [.int y0, .ref a] (τ, σ, nx) := by
  obtain ⟨s1, e2, H⟩ := ob H
  refine g_pI hF (dAt tX12_text_ok 68 rfl rfl) flX12_34 (Or.inl rfl) hS.1 rfl e2 ?_
  refine g_p (S' := [.int x2]) hF tX12_text_ok 69 1 rfl rfl rfl rfl ?_
  obtain ⟨Ht3, Hf3⟩ := oi H
  refine g_if_ne hF (dAt tX12_text_ok 70 rfl rfl) rfl (fun c3 => ?_) (fun c3 => ?_)
  · have H := Hf3 c3
    refine g_p (S' := [.ref a]) hF tX12_text_ok 73 1 rfl rfl rfl rfl ?_
    refine g_getR hF (dAt tX12_text_ok 74 rfl rfl) flX12_7 hS.1 rfl ?_
    refine g_p (S' := [.ref a, .int (2550 + x1), .ref (a + 1)]) hF tX12_text_ok 75 4 rfl rfl rfl rfl ?_
    refine g_getI hF (dAt tX12_text_ok 79 rfl rfl) flX12_222 hS.1 rfl ?_
    obtain ⟨s4, e5, H⟩ := ob H
    refine g_ist hF (dAt tX12_text_ok 80 rfl rfl) hS.2.1 e5 ?_
    refine g_p (L' := [some (.ref a), some (.int x1), some (.int x2), some (.int 0)]) (S' := []) hF tX12_text_ok 81 2 rfl rfl rfl rfl ?_
    refine g_m [true, true, false, true] rfl ?_
    exact X12_text_b145_ok hD hF hS hE FU _ _ _ H
  · have H := Ht3 c3
    refine g_p (S' := [.int (-1)]) hF tX12_text_ok 71 1 rfl rfl rfl rfl ?_
    exact g_iret hF (en_p H hE) (dAt tX12_text_ok 72 rfl rfl) (by decide) (by decide)
def X12_text_b94 (a : Nat) (x1 x2 : Int32) (σ : Sig) : Option (Int32 × Sig) := (pI σ a 12 0).bind fun s1 => (pI s1 a 19 (s1 a 17)).bind fun s3 => if x2 = 0 then (X12_text_b120 a x1 x2 (s3 a 18) s3) else (X12_text_b120 a x1 x2 (-1) s3)
set_option maxRecDepth 4000 in
set_option maxHeartbeats 1000000 in
theorem X12_text_b94_ok {K : Kt} {X : Cx} {D : Nat} {τ : Tau} {nx : Nat} {a : Nat} {res : Int32} {rsg : Sig}  (hD : 54 ≤ D) (hF : Fx K X cX12_text 4 RX12 D 0 0) (hS : ShX12 τ a) (hE : En K X (some .int) 0 0 (some (.int res)) (τ, rsg, nx)) {x1 x2 : Int32} {σ : Sig} (H : X12_text_b94 a x1 x2 σ = some (res, rsg)) : G K X 4 0 0 94 [some (.ref a), some (.int x1), some (.int x2), none] [] (τ, σ, nx) := by
  refine g_p (S' := [.int 0, .ref a]) hF tX12_text_ok 54 2 rfl rfl rfl rfl ?_
  obtain ⟨s1, e2, H⟩ := ob H
  refine g_pI hF (dAt tX12_text_ok 56 rfl rfl) flX12_83 (Or.inl rfl) hS.1 rfl e2 ?_
  refine g_p (S' := [.ref a, .ref a]) hF tX12_text_ok 57 2 rfl rfl rfl rfl ?_
  refine g_getI hF (dAt tX12_text_ok 59 rfl rfl) flX12_171 hS.1 rfl ?_
  obtain ⟨s3, e4, H⟩ := ob H
  refine g_pI hF (dAt tX12_text_ok 60 rfl rfl) flX12_225 (Or.inl rfl) hS.1 rfl e4 ?_
  refine g_p (S' := [.int x2, .ref a]) hF tX12_text_ok 61 2 rfl rfl rfl rfl ?_
  obtain ⟨Ht5, Hf5⟩ := oi H
  refine g_if_eq hF (dAt tX12_text_ok 63 rfl rfl) rfl (fun c5 => ?_) (fun c5 => ?_)
  · have H := Ht5 c5
    refine g_p (S' := [.ref a, .ref a]) hF tX12_text_ok 66 1 rfl rfl rfl rfl ?_
    refine g_getI hF (dAt tX12_text_ok 67 rfl rfl) flX12_174 hS.1 rfl ?_
    exact X12_text_b120_ok hD hF hS hE H
  · have H := Hf5 c5
    refine g_p (S' := [.int (-1), .ref a]) hF tX12_text_ok 64 1 rfl rfl rfl rfl ?_
    refine g_goto hF (dAt tX12_text_ok 65 rfl rfl) rfl ?_
    exact X12_text_b120_ok hD hF hS hE H
def X12_text_b87 (a : Nat) (k57 : Int32 → Int32 → Sig → Option (Int32 × Sig)) (x1 x2 y0 y1 : Int32) (σ : Sig) : Option (Int32 × Sig) := (pI σ a 10 (y1 + y0)).bind fun s1 => k57 x1 x2 s1
set_option maxRecDepth 4000 in
set_option maxHeartbeats 1000000 in
theorem X12_text_b87_ok {K : Kt} {X : Cx} {D : Nat} {τ : Tau} {nx : Nat} {a : Nat} {res : Int32} {rsg : Sig}  (hD : 54 ≤ D) (hF : Fx K X cX12_text 4 RX12 D 0 0) (hS : ShX12 τ a) (hE : En K X (some .int) 0 0 (some (.int res)) (τ, rsg, nx)) {k57 : Int32 → Int32 → Sig → Option (Int32 × Sig)} (hk57 : ∀ (x1 x2 : Int32) (σ : Sig), k57 x1 x2 σ = some (res, rsg) → G K X 4 0 0 57 [some (.ref a), some (.int x1), some (.int x2), none] [] (τ, σ, nx)) {x1 x2 y0 y1 : Int32} {σ : Sig} (H : X12_text_b87 a k57 x1 x2 y0 y1 σ = some (res, rsg)) : G K X 4 0 0 87 [some (.ref a), some (.int x1), some (.int x2), none] [.int y0, .int y1, .ref a] (τ, σ, nx) := by
  refine g_p (S' := [.int (y1 + y0), .ref a]) hF tX12_text_ok 51 1 rfl rfl rfl rfl ?_
  obtain ⟨s1, e2, H⟩ := ob H
  refine g_pI hF (dAt tX12_text_ok 52 rfl rfl) flX12_222 (Or.inl rfl) hS.1 rfl e2 ?_
  refine g_goto hF (dAt tX12_text_ok 53 rfl rfl) rfl ?_
  exact hk57 _ _ _ H
def X12_text_b57 (a : Nat) : Nat → Int32 → Int32 → Sig → Option (Int32 × Sig)
  | 0, _, _, _ => none
  | fu + 1, x1, x2, σ => if x2 = 0 then (X12_text_b94 a x1 x2 σ) else (if (σ a 14) = 0 then (X12_text_b94 a x1 x2 σ) else ((X12_aLine_f a σ).bind fun ⟨v3, s4⟩ => if v3 = 0 then (X12_text_b87 a (X12_text_b57 a fu) x1 v3 0 (s4 a 10) s4) else (X12_text_b87 a (X12_text_b57 a fu) x1 v3 1 (s4 a 10) s4)))
set_option maxRecDepth 4000 in
set_option maxHeartbeats 1000000 in
theorem X12_text_b57_ok {K : Kt} {X : Cx} {D : Nat} {τ : Tau} {nx : Nat} {a : Nat} {res : Int32} {rsg : Sig}  (hD : 54 ≤ D) (hF : Fx K X cX12_text 4 RX12 D 0 0) (hS : ShX12 τ a) (hE : En K X (some .int) 0 0 (some (.int res)) (τ, rsg, nx)) : ∀ (fu : Nat) (x1 x2 : Int32) (σ : Sig), X12_text_b57 a fu x1 x2 σ = some (res, rsg) → G K X 4 0 0 57 [some (.ref a), some (.int x1), some (.int x2), none] [] (τ, σ, nx)
  | 0, _, _, _, H => nomatch H
  | fu + 1, x1, x2, σ, H => by
    refine g_p (S' := [.int x2]) hF tX12_text_ok 35 1 rfl rfl rfl rfl ?_
    obtain ⟨Ht1, Hf1⟩ := oi H
    refine g_if_eq hF (dAt tX12_text_ok 36 rfl rfl) rfl (fun c1 => ?_) (fun c1 => ?_)
    · have H := Ht1 c1
      exact X12_text_b94_ok hD hF hS hE H
    · have H := Hf1 c1
      refine g_p (S' := [.ref a]) hF tX12_text_ok 37 1 rfl rfl rfl rfl ?_
      refine g_getI hF (dAt tX12_text_ok 38 rfl rfl) flX12_156 hS.1 rfl ?_
      obtain ⟨Ht2, Hf2⟩ := oi H
      refine g_if_eq hF (dAt tX12_text_ok 39 rfl rfl) rfl (fun c2 => ?_) (fun c2 => ?_)
      · have H := Ht2 c2
        exact X12_text_b94_ok hD hF hS hE H
      · have H := Hf2 c2
        refine g_p (S' := [.ref a]) hF tX12_text_ok 40 1 rfl rfl rfl rfl ?_
        obtain ⟨⟨v3, s4⟩, e5, H⟩ := ob H
        refine g_cV (S := []) hF (X12_aLine_ok (Nat.le_refl _) hS e5 K) mbX12_aLine mvX12_aLine mlX12_228 (by omega) (by decide) (dAt tX12_text_ok 41 rfl rfl) hS.1 rfl rfl rfl (Nat.le_of_ble_eq_true rfl) rfl rfl (by decide) (by decide) rfl ?_
        refine g_p (L' := [some (.ref a), some (.int x1), some (.int v3), none]) (S' := [.ref a, .ref a]) hF tX12_text_ok 42 3 rfl rfl rfl rfl ?_
        refine g_getI hF (dAt tX12_text_ok 45 rfl rfl) flX12_222 hS.1 rfl ?_
        refine g_p (S' := [.int v3, .int (s4 a 10), .ref a]) hF tX12_text_ok 46 1 rfl rfl rfl rfl ?_
        obtain ⟨Ht6, Hf6⟩ := oi H
        refine g_if_eq hF (dAt tX12_text_ok 47 rfl rfl) rfl (fun c6 => ?_) (fun c6 => ?_)
        · have H := Ht6 c6
          refine g_p (S' := [.int 0, .int (s4 a 10), .ref a]) hF tX12_text_ok 50 1 rfl rfl rfl rfl ?_
          exact X12_text_b87_ok hD hF hS hE (fun _ _ _ H => X12_text_b57_ok hD hF hS hE fu _ _ _ H) H
        · have H := Hf6 c6
          refine g_p (S' := [.int 1, .int (s4 a 10), .ref a]) hF tX12_text_ok 48 1 rfl rfl rfl rfl ?_
          refine g_goto hF (dAt tX12_text_ok 49 rfl rfl) rfl ?_
          exact X12_text_b87_ok hD hF hS hE (fun _ _ _ H => X12_text_b57_ok hD hF hS hE fu _ _ _ H) H
def X12_text_f (a : Nat) (x1 : Int32) (σ : Sig) : Option (Int32 × Sig) := (pI σ a 17 0).bind fun s1 => (X12_isIn_f x1 0 5 s1).bind fun v3 => if v3 = 0 then ((pI s1 a 12 0).bind fun s16 => (pI s16 a 19 0).bind fun s18 => (pI s18 a 21 (-1)).bind fun s20 => some ((-1), s20)) else ((pI s1 a 9 x1).bind fun s6 => (pI s6 a 13 0).bind fun s8 => (pI s8 a 10 0).bind fun s10 => (pI s10 a 11 0).bind fun s12 => (X12_next0_f a s12).bind fun s14 => X12_text_b57 a FU x1 1 s14)
set_option maxRecDepth 4000 in
set_option maxHeartbeats 1000000 in
theorem X12_text_ok {D : Nat} {τ : Tau} {nx : Nat} {a : Nat} {x1 : Int32} {σ : Sig} {res : Int32} {rsg : Sig} (hD : 54 ≤ D) (hS : ShX12 τ a) (H : X12_text_f a x1 σ = some (res, rsg)) : Ok D 0 0 yX12_text cX12_text 4 (some .int) [.ref a, .int x1] (τ, σ, nx) (some (.int res)) (τ, rsg, nx) := by
  refine ok_of (by decide +kernel) rfl (Nat.le_of_ble_eq_true rfl) (fun K X hF hE hN L0 hL0 => ?_)
  obtain rfl : [some (.ref a), some (.int x1), none, none] = L0 := hL0
  have hF : Fx K X cX12_text 4 RX12 D 0 0 := hF
  refine g_p (S' := [.int 0, .ref a]) hF tX12_text_ok 0 2 rfl rfl rfl rfl ?_
  obtain ⟨s1, e2, H⟩ := ob H
  refine g_pI hF (dAt tX12_text_ok 2 rfl rfl) flX12_171 (Or.inl rfl) hS.1 rfl e2 ?_
  refine g_p (S' := [.int 5, .int 0, .int x1]) hF tX12_text_ok 3 3 rfl rfl rfl rfl ?_
  obtain ⟨v3, e4, H⟩ := ob H
  refine g_cS (S := []) hF (X12_isIn_ok (Nat.le_refl _)  e4 K) mbX12_isIn msX12_isIn mlX12_50 (by omega) (by decide) (dAt tX12_text_ok 6 rfl rfl) rfl rfl (Nat.le_of_ble_eq_true rfl) rfl rfl (by decide) (by decide) rfl ?_
  obtain ⟨Ht5, Hf5⟩ := oi H
  refine g_if_ne hF (dAt tX12_text_ok 7 rfl rfl) rfl (fun c5 => ?_) (fun c5 => ?_)
  · have H := Hf5 c5
    refine g_p (S' := [.int x1, .ref a]) hF tX12_text_ok 19 2 rfl rfl rfl rfl ?_
    obtain ⟨s6, e7, H⟩ := ob H
    refine g_pI hF (dAt tX12_text_ok 21 rfl rfl) flX12_144 (Or.inl rfl) hS.1 rfl e7 ?_
    refine g_p (S' := [.int 0, .ref a]) hF tX12_text_ok 22 2 rfl rfl rfl rfl ?_
    obtain ⟨s8, e9, H⟩ := ob H
    refine g_pI hF (dAt tX12_text_ok 24 rfl rfl) flX12_86 (Or.inl rfl) hS.1 rfl e9 ?_
    refine g_p (S' := [.int 0, .ref a]) hF tX12_text_ok 25 2 rfl rfl rfl rfl ?_
    obtain ⟨s10, e11, H⟩ := ob H
    refine g_pI hF (dAt tX12_text_ok 27 rfl rfl) flX12_222 (Or.inl rfl) hS.1 rfl e11 ?_
    refine g_p (S' := [.int 0, .ref a]) hF tX12_text_ok 28 2 rfl rfl rfl rfl ?_
    obtain ⟨s12, e13, H⟩ := ob H
    refine g_pI hF (dAt tX12_text_ok 30 rfl rfl) flX12_183 (Or.inl rfl) hS.1 rfl e13 ?_
    refine g_p (S' := [.ref a]) hF tX12_text_ok 31 1 rfl rfl rfl rfl ?_
    obtain ⟨s14, e15, H⟩ := ob H
    refine g_cV (S := []) hF (X12_next0_ok (Nat.le_refl _) hS e15 K) mbX12_next0 mvX12_next0 mlX12_180 (by omega) (by decide) (dAt tX12_text_ok 32 rfl rfl) hS.1 rfl rfl rfl (Nat.le_of_ble_eq_true rfl) rfl rfl (by decide) (by decide) rfl ?_
    refine g_p (L' := [some (.ref a), some (.int x1), some (.int 1), none]) (S' := []) hF tX12_text_ok 33 2 rfl rfl rfl rfl ?_
    exact X12_text_b57_ok hD hF hS hE FU _ _ _ H
  · have H := Ht5 c5
    refine g_p (S' := [.int 0, .ref a]) hF tX12_text_ok 8 2 rfl rfl rfl rfl ?_
    obtain ⟨s16, e17, H⟩ := ob H
    refine g_pI hF (dAt tX12_text_ok 10 rfl rfl) flX12_83 (Or.inl rfl) hS.1 rfl e17 ?_
    refine g_p (S' := [.int 0, .ref a]) hF tX12_text_ok 11 2 rfl rfl rfl rfl ?_
    obtain ⟨s18, e19, H⟩ := ob H
    refine g_pI hF (dAt tX12_text_ok 13 rfl rfl) flX12_225 (Or.inl rfl) hS.1 rfl e19 ?_
    refine g_p (S' := [.int (-1), .ref a]) hF tX12_text_ok 14 2 rfl rfl rfl rfl ?_
    obtain ⟨s20, e21, H⟩ := ob H
    refine g_pI hF (dAt tX12_text_ok 16 rfl rfl) flX12_34 (Or.inl rfl) hS.1 rfl e21 ?_
    refine g_p (S' := [.int (-1)]) hF tX12_text_ok 17 1 rfl rfl rfl rfl ?_
    exact g_iret hF (en_p H hE) (dAt tX12_text_ok 18 rfl rfl) (by decide) (by decide)

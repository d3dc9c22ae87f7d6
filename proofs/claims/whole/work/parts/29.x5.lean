/-! SilenceForMoney$Reader -/
def X5_forget_f (a : Nat) (σ : Sig) : Option (Sig) := (pI σ a 0 0).bind fun s1 => (pI s1 a 1 (-1)).bind fun s3 => some s3
set_option maxRecDepth 4000 in
set_option maxHeartbeats 1000000 in
theorem X5_forget_ok {D : Nat} {τ : Tau} {nx : Nat} {a : Nat} {σ : Sig} {res : Sig} (hD : 1 ≤ D) (hS : ShX5 τ a) (H : X5_forget_f a σ = some res) : Ok D 0 0 yX5_forget cX5_forget 1 none [.ref a] (τ, σ, nx) none (τ, res, nx) := by
  refine ok_of (by decide +kernel) rfl (Nat.le_of_ble_eq_true rfl) (fun K X hF hE hN L0 hL0 => ?_)
  obtain rfl : [some (.ref a)] = L0 := hL0
  have hF : Fx K X cX5_forget 1 RX5 D 0 0 := hF
  refine g_p (S' := [.int 0, .ref a]) hF tX5_forget_ok 0 2 rfl rfl rfl rfl ?_
  obtain ⟨s1, e2, H⟩ := ob H
  refine g_pI hF (dAt tX5_forget_ok 2 rfl rfl) flX5_34 (Or.inl rfl) hS.1 rfl e2 ?_
  refine g_p (S' := [.int (-1), .ref a]) hF tX5_forget_ok 3 2 rfl rfl rfl rfl ?_
  obtain ⟨s3, e4, H⟩ := ob H
  refine g_pI hF (dAt tX5_forget_ok 5 rfl rfl) flX5_11 (Or.inl rfl) hS.1 rfl e4 ?_
  exact g_vret hF (en_v H hE) (dAt tX5_forget_ok 6 rfl rfl) (by decide) (by decide)
def X5_putToken_f (a : Nat) (x1 x2 x3 : Int32) (σ : Sig) : Option (Sig) := if 400 < (σ a 11) then (some σ) else ((st 401 σ (a + 4) (σ a 11) x1).bind fun s2 => (st 401 s2 (a + 5) (s2 a 11) x2).bind fun s4 => (st 401 s4 (a + 6) (s4 a 11) x3).bind fun s6 => (pI s6 a 11 ((s6 a 11) + 1)).bind fun s8 => some s8)
set_option maxRecDepth 4000 in
set_option maxHeartbeats 1000000 in
theorem X5_putToken_ok {D : Nat} {τ : Tau} {nx : Nat} {a : Nat} {x1 x2 x3 : Int32} {σ : Sig} {res : Sig} (hD : 1 ≤ D) (hS : ShX5 τ a) (H : X5_putToken_f a x1 x2 x3 σ = some res) : Ok D 0 0 yX5_putToken cX5_putToken 4 none [.ref a, .int x1, .int x2, .int x3] (τ, σ, nx) none (τ, res, nx) := by
  refine ok_of (by decide +kernel) rfl (Nat.le_of_ble_eq_true rfl) (fun K X hF hE hN L0 hL0 => ?_)
  obtain rfl : [some (.ref a), some (.int x1), some (.int x2), some (.int x3)] = L0 := hL0
  have hF : Fx K X cX5_putToken 4 RX5 D 0 0 := hF
  refine g_p (S' := [.ref a]) hF tX5_putToken_ok 0 1 rfl rfl rfl rfl ?_
  refine g_getI hF (dAt tX5_putToken_ok 1 rfl rfl) flX5_71 hS.1 rfl ?_
  refine g_p (S' := [.int 400, .int (σ a 11)]) hF tX5_putToken_ok 2 1 rfl rfl rfl rfl ?_
  obtain ⟨Ht1, Hf1⟩ := oi H
  refine g_icmp_gt hF (dAt tX5_putToken_ok 3 rfl rfl) rfl (fun c1 => ?_) (fun c1 => ?_)
  · have H := Ht1 c1
    exact g_vret hF (en_v H hE) (dAt tX5_putToken_ok 28 rfl rfl) (by decide) (by decide)
  · have H := Hf1 c1
    refine g_p (S' := [.ref a]) hF tX5_putToken_ok 4 1 rfl rfl rfl rfl ?_
    refine g_getR hF (dAt tX5_putToken_ok 5 rfl rfl) flX5_25 hS.1 rfl ?_
    refine g_p (S' := [.ref a, .ref (a + 4)]) hF tX5_putToken_ok 6 1 rfl rfl rfl rfl ?_
    refine g_getI hF (dAt tX5_putToken_ok 7 rfl rfl) flX5_71 hS.1 rfl ?_
    refine g_p (S' := [.int x1, .int (σ a 11), .ref (a + 4)]) hF tX5_putToken_ok 8 1 rfl rfl rfl rfl ?_
    obtain ⟨s2, e3, H⟩ := ob H
    refine g_ist hF (dAt tX5_putToken_ok 9 rfl rfl) hS.2.2.2.2.1 e3 ?_
    refine g_p (S' := [.ref a]) hF tX5_putToken_ok 10 1 rfl rfl rfl rfl ?_
    refine g_getR hF (dAt tX5_putToken_ok 11 rfl rfl) flX5_28 hS.1 rfl ?_
    refine g_p (S' := [.ref a, .ref (a + 5)]) hF tX5_putToken_ok 12 1 rfl rfl rfl rfl ?_
    refine g_getI hF (dAt tX5_putToken_ok 13 rfl rfl) flX5_71 hS.1 rfl ?_
    refine g_p (S' := [.int x2, .int (s2 a 11), .ref (a + 5)]) hF tX5_putToken_ok 14 1 rfl rfl rfl rfl ?_
    obtain ⟨s4, e5, H⟩ := ob H
    refine g_ist hF (dAt tX5_putToken_ok 15 rfl rfl) hS.2.2.2.2.2.1 e5 ?_
    refine g_p (S' := [.ref a]) hF tX5_putToken_ok 16 1 rfl rfl rfl rfl ?_
    refine g_getR hF (dAt tX5_putToken_ok 17 rfl rfl) flX5_31 hS.1 rfl ?_
    refine g_p (S' := [.ref a, .ref (a + 6)]) hF tX5_putToken_ok 18 1 rfl rfl rfl rfl ?_
    refine g_getI hF (dAt tX5_putToken_ok 19 rfl rfl) flX5_71 hS.1 rfl ?_
    refine g_p (S' := [.int x3, .int (s4 a 11), .ref (a + 6)]) hF tX5_putToken_ok 20 1 rfl rfl rfl rfl ?_
    obtain ⟨s6, e7, H⟩ := ob H
    refine g_ist hF (dAt tX5_putToken_ok 21 rfl rfl) hS.2.2.2.2.2.2 e7 ?_
    refine g_p (S' := [.ref a, .ref a]) hF tX5_putToken_ok 22 2 rfl rfl rfl rfl ?_
    refine g_getI hF (dAt tX5_putToken_ok 24 rfl rfl) flX5_71 hS.1 rfl ?_
    refine g_p (S' := [.int ((s6 a 11) + 1), .ref a]) hF tX5_putToken_ok 25 2 rfl rfl rfl rfl ?_
    obtain ⟨s8, e9, H⟩ := ob H
    refine g_pI hF (dAt tX5_putToken_ok 27 rfl rfl) flX5_71 (Or.inl rfl) hS.1 rfl e9 ?_
    exact g_vret hF (en_v H hE) (dAt tX5_putToken_ok 28 rfl rfl) (by decide) (by decide)
def X5_isLetter_b12 (σ : Sig) (x0 : Int32) : Option (Int32) := if x0 < 65 then (some 0) else (if 90 < x0 then (some 0) else (some 1))
set_option maxRecDepth 4000 in
set_option maxHeartbeats 1000000 in
theorem X5_isLetter_b12_ok {K : Kt} {X : Cx} {D : Nat} {τ : Tau} {nx : Nat} {res : Int32} {σ : Sig}  (hD : 1 ≤ D) (hF : Fx K X cX5_isLetter 1 RX5 D 0 0) (hE : En K X (some .boolean) 0 0 (some (.int res)) (τ, σ, nx)) {x0 : Int32} (H : X5_isLetter_b12 σ x0 = some res) : G K X 1 0 0 12 [some (.int x0)] [] (τ, σ, nx) := by
  refine g_p (S' := [.int 65, .int x0]) hF tX5_isLetter_ok 6 2 rfl rfl rfl rfl ?_
  obtain ⟨Ht1, Hf1⟩ := oi H
  refine g_icmp_lt hF (dAt tX5_isLetter_ok 8 rfl rfl) rfl (fun c1 => ?_) (fun c1 => ?_)
  · have H := Ht1 c1
    refine g_p (S' := [.int 0]) hF tX5_isLetter_ok 14 1 rfl rfl rfl rfl ?_
    exact g_zret hF (en_i H hE) (Or.inl rfl) (dAt tX5_isLetter_ok 15 rfl rfl) (by decide) (by decide)
  · have H := Hf1 c1
    refine g_p (S' := [.int 90, .int x0]) hF tX5_isLetter_ok 9 2 rfl rfl rfl rfl ?_
    obtain ⟨Ht2, Hf2⟩ := oi H
    refine g_icmp_gt hF (dAt tX5_isLetter_ok 11 rfl rfl) rfl (fun c2 => ?_) (fun c2 => ?_)
    · have H := Ht2 c2
      refine g_p (S' := [.int 0]) hF tX5_isLetter_ok 14 1 rfl rfl rfl rfl ?_
      exact g_zret hF (en_i H hE) (Or.inl rfl) (dAt tX5_isLetter_ok 15 rfl rfl) (by decide) (by decide)
    · have H := Hf2 c2
      refine g_p (S' := [.int 1]) hF tX5_isLetter_ok 12 1 rfl rfl rfl rfl ?_
      refine g_goto hF (dAt tX5_isLetter_ok 13 rfl rfl) rfl ?_
      exact g_zret hF (en_i H hE) (Or.inr rfl) (dAt tX5_isLetter_ok 15 rfl rfl) (by decide) (by decide)
def X5_isLetter_f (x0 : Int32) (σ : Sig) : Option (Int32) := if x0 < 97 then (X5_isLetter_b12 σ x0) else (if x0 ≤ 122 then (some 1) else (X5_isLetter_b12 σ x0))
set_option maxRecDepth 4000 in
set_option maxHeartbeats 1000000 in
theorem X5_isLetter_ok {D : Nat} {τ : Tau} {nx : Nat} {x0 : Int32} {σ : Sig} {res : Int32} (hD : 1 ≤ D) (H : X5_isLetter_f x0 σ = some res) : Ok D 0 0 yX5_isLetter cX5_isLetter 1 (some .boolean) [.int x0] (τ, σ, nx) (some (.int res)) (τ, σ, nx) := by
  refine ok_of (by decide +kernel) rfl (Nat.le_of_ble_eq_true rfl) (fun K X hF hE hN L0 hL0 => ?_)
  obtain rfl : [some (.int x0)] = L0 := hL0
  have hF : Fx K X cX5_isLetter 1 RX5 D 0 0 := hF
  refine g_p (S' := [.int 97, .int x0]) hF tX5_isLetter_ok 0 2 rfl rfl rfl rfl ?_
  obtain ⟨Ht1, Hf1⟩ := oi H
  refine g_icmp_lt hF (dAt tX5_isLetter_ok 2 rfl rfl) rfl (fun c1 => ?_) (fun c1 => ?_)
  · have H := Ht1 c1
    exact X5_isLetter_b12_ok hD hF hE H
  · have H := Hf1 c1
    refine g_p (S' := [.int 122, .int x0]) hF tX5_isLetter_ok 3 2 rfl rfl rfl rfl ?_
    obtain ⟨Ht2, Hf2⟩ := oi H
    refine g_icmp_le hF (dAt tX5_isLetter_ok 5 rfl rfl) rfl (fun c2 => ?_) (fun c2 => ?_)
    · have H := Ht2 c2
      refine g_p (S' := [.int 1]) hF tX5_isLetter_ok 12 1 rfl rfl rfl rfl ?_
      refine g_goto hF (dAt tX5_isLetter_ok 13 rfl rfl) rfl ?_
      exact g_zret hF (en_i H hE) (Or.inr rfl) (dAt tX5_isLetter_ok 15 rfl rfl) (by decide) (by decide)
    · have H := Hf2 c2
      exact X5_isLetter_b12_ok hD hF hE H
def X5_isDigit_f (x0 : Int32) (σ : Sig) : Option (Int32) := if x0 < 48 then (some 0) else (if 57 < x0 then (some 0) else (some 1))
set_option maxRecDepth 4000 in
set_option maxHeartbeats 1000000 in
theorem X5_isDigit_ok {D : Nat} {τ : Tau} {nx : Nat} {x0 : Int32} {σ : Sig} {res : Int32} (hD : 1 ≤ D) (H : X5_isDigit_f x0 σ = some res) : Ok D 0 0 yX5_isDigit cX5_isDigit 1 (some .boolean) [.int x0] (τ, σ, nx) (some (.int res)) (τ, σ, nx) := by
  refine ok_of (by decide +kernel) rfl (Nat.le_of_ble_eq_true rfl) (fun K X hF hE hN L0 hL0 => ?_)
  obtain rfl : [some (.int x0)] = L0 := hL0
  have hF : Fx K X cX5_isDigit 1 RX5 D 0 0 := hF
  refine g_p (S' := [.int 48, .int x0]) hF tX5_isDigit_ok 0 2 rfl rfl rfl rfl ?_
  obtain ⟨Ht1, Hf1⟩ := oi H
  refine g_icmp_lt hF (dAt tX5_isDigit_ok 2 rfl rfl) rfl (fun c1 => ?_) (fun c1 => ?_)
  · have H := Ht1 c1
    refine g_p (S' := [.int 0]) hF tX5_isDigit_ok 8 1 rfl rfl rfl rfl ?_
    exact g_zret hF (en_i H hE) (Or.inl rfl) (dAt tX5_isDigit_ok 9 rfl rfl) (by decide) (by decide)
  · have H := Hf1 c1
    refine g_p (S' := [.int 57, .int x0]) hF tX5_isDigit_ok 3 2 rfl rfl rfl rfl ?_
    obtain ⟨Ht2, Hf2⟩ := oi H
    refine g_icmp_gt hF (dAt tX5_isDigit_ok 5 rfl rfl) rfl (fun c2 => ?_) (fun c2 => ?_)
    · have H := Ht2 c2
      refine g_p (S' := [.int 0]) hF tX5_isDigit_ok 8 1 rfl rfl rfl rfl ?_
      exact g_zret hF (en_i H hE) (Or.inl rfl) (dAt tX5_isDigit_ok 9 rfl rfl) (by decide) (by decide)
    · have H := Hf2 c2
      refine g_p (S' := [.int 1]) hF tX5_isDigit_ok 6 1 rfl rfl rfl rfl ?_
      refine g_goto hF (dAt tX5_isDigit_ok 7 rfl rfl) rfl ?_
      exact g_zret hF (en_i H hE) (Or.inr rfl) (dAt tX5_isDigit_ok 9 rfl rfl) (by decide) (by decide)
def X5_isSign_f (x0 : Int32) (σ : Sig) : Option (Int32) := if x0 = 59 then (some 1) else (if x0 = 43 then (some 1) else (if x0 = 45 then (some 1) else (if x0 = 42 then (some 1) else (if x0 = 47 then (some 1) else (if x0 = 40 then (some 1) else (if x0 = 41 then (some 1) else (if x0 = 60 then (some 1) else (if x0 = 61 then (some 1) else (if x0 = 62 then (some 1) else (some 0))))))))))
set_option maxRecDepth 4000 in
set_option maxHeartbeats 1000000 in
theorem X5_isSign_ok {D : Nat} {τ : Tau} {nx : Nat} {x0 : Int32} {σ : Sig} {res : Int32} (hD : 1 ≤ D) (H : X5_isSign_f x0 σ = some res) : Ok D 0 0 yX5_isSign cX5_isSign 1 (some .boolean) [.int x0] (τ, σ, nx) (some (.int res)) (τ, σ, nx) := by
  refine ok_of (by decide +kernel) rfl (Nat.le_of_ble_eq_true rfl) (fun K X hF hE hN L0 hL0 => ?_)
  obtain rfl : [some (.int x0)] = L0 := hL0
  have hF : Fx K X cX5_isSign 1 RX5 D 0 0 := hF
  refine g_p (S' := [.int 59, .int x0]) hF tX5_isSign_ok 0 2 rfl rfl rfl rfl ?_
  obtain ⟨Ht1, Hf1⟩ := oi H
  refine g_icmp_eq hF (dAt tX5_isSign_ok 2 rfl rfl) rfl (fun c1 => ?_) (fun c1 => ?_)
  · have H := Ht1 c1
    refine g_p (S' := [.int 1]) hF tX5_isSign_ok 30 1 rfl rfl rfl rfl ?_
    refine g_goto hF (dAt tX5_isSign_ok 31 rfl rfl) rfl ?_
    exact g_zret hF (en_i H hE) (Or.inr rfl) (dAt tX5_isSign_ok 33 rfl rfl) (by decide) (by decide)
  · have H := Hf1 c1
    refine g_p (S' := [.int 43, .int x0]) hF tX5_isSign_ok 3 2 rfl rfl rfl rfl ?_
    obtain ⟨Ht2, Hf2⟩ := oi H
    refine g_icmp_eq hF (dAt tX5_isSign_ok 5 rfl rfl) rfl (fun c2 => ?_) (fun c2 => ?_)
    · have H := Ht2 c2
      refine g_p (S' := [.int 1]) hF tX5_isSign_ok 30 1 rfl rfl rfl rfl ?_
      refine g_goto hF (dAt tX5_isSign_ok 31 rfl rfl) rfl ?_
      exact g_zret hF (en_i H hE) (Or.inr rfl) (dAt tX5_isSign_ok 33 rfl rfl) (by decide) (by decide)
    · have H := Hf2 c2
      refine g_p (S' := [.int 45, .int x0]) hF tX5_isSign_ok 6 2 rfl rfl rfl rfl ?_
      obtain ⟨Ht3, Hf3⟩ := oi H
      refine g_icmp_eq hF (dAt tX5_isSign_ok 8 rfl rfl) rfl (fun c3 => ?_) (fun c3 => ?_)
      · have H := Ht3 c3
        refine g_p (S' := [.int 1]) hF tX5_isSign_ok 30 1 rfl rfl rfl rfl ?_
        refine g_goto hF (dAt tX5_isSign_ok 31 rfl rfl) rfl ?_
        exact g_zret hF (en_i H hE) (Or.inr rfl) (dAt tX5_isSign_ok 33 rfl rfl) (by decide) (by decide)
      · have H := Hf3 c3
        refine g_p (S' := [.int 42, .int x0]) hF tX5_isSign_ok 9 2 rfl rfl rfl rfl ?_
        obtain ⟨Ht4, Hf4⟩ := oi H
        refine g_icmp_eq hF (dAt tX5_isSign_ok 11 rfl rfl) rfl (fun c4 => ?_) (fun c4 => ?_)
        · have H := Ht4 c4
          refine g_p (S' := [.int 1]) hF tX5_isSign_ok 30 1 rfl rfl rfl rfl ?_
          refine g_goto hF (dAt tX5_isSign_ok 31 rfl rfl) rfl ?_
          exact g_zret hF (en_i H hE) (Or.inr rfl) (dAt tX5_isSign_ok 33 rfl rfl) (by decide) (by decide)
        · have H := Hf4 c4
          refine g_p (S' := [.int 47, .int x0]) hF tX5_isSign_ok 12 2 rfl rfl rfl rfl ?_
          obtain ⟨Ht5, Hf5⟩ := oi H
          refine g_icmp_eq hF (dAt tX5_isSign_ok 14 rfl rfl) rfl (fun c5 => ?_) (fun c5 => ?_)
          · have H := Ht5 c5
            refine g_p (S' := [.int 1]) hF tX5_isSign_ok 30 1 rfl rfl rfl rfl ?_
            refine g_goto hF (dAt tX5_isSign_ok 31 rfl rfl) rfl ?_
            exact g_zret hF (en_i H hE) (Or.inr rfl) (dAt tX5_isSign_ok 33 rfl rfl) (by decide) (by decide)
          · have H := Hf5 c5
            refine g_p (S' := [.int 40, .int x0]) hF tX5_isSign_ok 15 2 rfl rfl rfl rfl ?_
            obtain ⟨Ht6, Hf6⟩ := oi H
            refine g_icmp_eq hF (dAt tX5_isSign_ok 17 rfl rfl) rfl (fun c6 => ?_) (fun c6 => ?_)
            · have H := Ht6 c6
              refine g_p (S' := [.int 1]) hF tX5_isSign_ok 30 1 rfl rfl rfl rfl ?_
              refine g_goto hF (dAt tX5_isSign_ok 31 rfl rfl) rfl ?_
              exact g_zret hF (en_i H hE) (Or.inr rfl) (dAt tX5_isSign_ok 33 rfl rfl) (by decide) (by decide)
            · have H := Hf6 c6
              refine g_p (S' := [.int 41, .int x0]) hF tX5_isSign_ok 18 2 rfl rfl rfl rfl ?_
              obtain ⟨Ht7, Hf7⟩ := oi H
              refine g_icmp_eq hF (dAt tX5_isSign_ok 20 rfl rfl) rfl (fun c7 => ?_) (fun c7 => ?_)
              · have H := Ht7 c7
                refine g_p (S' := [.int 1]) hF tX5_isSign_ok 30 1 rfl rfl rfl rfl ?_
                refine g_goto hF (dAt tX5_isSign_ok 31 rfl rfl) rfl ?_
                exact g_zret hF (en_i H hE) (Or.inr rfl) (dAt tX5_isSign_ok 33 rfl rfl) (by decide) (by decide)
              · have H := Hf7 c7
                refine g_p (S' := [.int 60, .int x0]) hF tX5_isSign_ok 21 2 rfl rfl rfl rfl ?_
                obtain ⟨Ht8, Hf8⟩ := oi H
                refine g_icmp_eq hF (dAt tX5_isSign_ok 23 rfl rfl) rfl (fun c8 => ?_) (fun c8 => ?_)
                · have H := Ht8 c8
                  refine g_p (S' := [.int 1]) hF tX5_isSign_ok 30 1 rfl rfl rfl rfl ?_
                  refine g_goto hF (dAt tX5_isSign_ok 31 rfl rfl) rfl ?_
                  exact g_zret hF (en_i H hE) (Or.inr rfl) (dAt tX5_isSign_ok 33 rfl rfl) (by decide) (by decide)
                · have H := Hf8 c8
                  refine g_p (S' := [.int 61, .int x0]) hF tX5_isSign_ok 24 2 rfl rfl rfl rfl ?_
                  obtain ⟨Ht9, Hf9⟩ := oi H
                  refine g_icmp_eq hF (dAt tX5_isSign_ok 26 rfl rfl) rfl (fun c9 => ?_) (fun c9 => ?_)
                  · have H := Ht9 c9
                    refine g_p (S' := [.int 1]) hF tX5_isSign_ok 30 1 rfl rfl rfl rfl ?_
                    refine g_goto hF (dAt tX5_isSign_ok 31 rfl rfl) rfl ?_
                    exact g_zret hF (en_i H hE) (Or.inr rfl) (dAt tX5_isSign_ok 33 rfl rfl) (by decide) (by decide)
                  · have H := Hf9 c9
                    refine g_p (S' := [.int 62, .int x0]) hF tX5_isSign_ok 27 2 rfl rfl rfl rfl ?_
                    obtain ⟨Ht10, Hf10⟩ := oi H
                    refine g_icmp_ne hF (dAt tX5_isSign_ok 29 rfl rfl) rfl (fun c10 => ?_) (fun c10 => ?_)
                    · have H := Hf10 c10
                      refine g_p (S' := [.int 0]) hF tX5_isSign_ok 32 1 rfl rfl rfl rfl ?_
                      exact g_zret hF (en_i H hE) (Or.inl rfl) (dAt tX5_isSign_ok 33 rfl rfl) (by decide) (by decide)
                    · have H := Ht10 c10
                      refine g_p (S' := [.int 1]) hF tX5_isSign_ok 30 1 rfl rfl rfl rfl ?_
                      refine g_goto hF (dAt tX5_isSign_ok 31 rfl rfl) rfl ?_
                      exact g_zret hF (en_i H hE) (Or.inr rfl) (dAt tX5_isSign_ok 33 rfl rfl) (by decide) (by decide)
def X5_endOfRun_b5 (r0 : Nat) (σ : Sig) : Nat → Int32 → Int32 → Int32 → Option (Int32)
  | 0, _, _, _ => none
  | fu + 1, x2, x3, x4 => if (σ r0 1) ≤ x4 then (some x3) else (if x2 = 0 then ((ld 400 (σ (r0 + 1)) x4).bind fun v3 => (X5_isDigit_f v3 σ).bind fun v5 => if v5 = 0 then (some x3) else (X5_endOfRun_b5 r0 σ fu x2 (x4 + 1) (x4 + 1))) else ((ld 400 (σ (r0 + 1)) x4).bind fun v8 => (X5_isLetter_f v8 σ).bind fun v10 => if v10 = 0 then (some x3) else (X5_endOfRun_b5 r0 σ fu x2 (x4 + 1) (x4 + 1))))
set_option maxRecDepth 4000 in
set_option maxHeartbeats 1000000 in
theorem X5_endOfRun_b5_ok {K : Kt} {X : Cx} {D : Nat} {τ : Tau} {nx : Nat} {r0 : Nat} {res : Int32} {σ : Sig}  (hD : 2 ≤ D) (hF : Fx K X cX5_endOfRun 5 RX5 D 0 0) (hr0 : ShX6 τ r0) (hE : En K X (some .int) 0 0 (some (.int res)) (τ, σ, nx)) : ∀ (fu : Nat) (x2 x3 x4 : Int32), X5_endOfRun_b5 r0 σ fu x2 x3 x4 = some res → G K X 5 0 0 5 [some (.ref r0), none, some (.int x2), some (.int x3), some (.int x4)] [] (τ, σ, nx)
  | 0, _, _, _, H => nomatch H
  | fu + 1, x2, x3, x4, H => by
    refine g_p (S' := [.ref r0, .int x4]) hF tX5_endOfRun_ok 4 2 rfl rfl rfl rfl ?_
    refine g_getI hF (dAt tX5_endOfRun_ok 6 rfl rfl) flX5_74 hr0.1 rfl ?_
    obtain ⟨Ht1, Hf1⟩ := oi H
    refine g_icmp_ge hF (dAt tX5_endOfRun_ok 7 rfl rfl) rfl (fun c1 => ?_) (fun c1 => ?_)
    · have H := Ht1 c1
      refine g_p (S' := [.int x3]) hF tX5_endOfRun_ok 30 1 rfl rfl rfl rfl ?_
      exact g_iret hF (en_i H hE) (dAt tX5_endOfRun_ok 31 rfl rfl) (by decide) (by decide)
    · have H := Hf1 c1
      refine g_p (S' := [.int x2]) hF tX5_endOfRun_ok 8 1 rfl rfl rfl rfl ?_
      obtain ⟨Ht2, Hf2⟩ := oi H
      refine g_if_eq hF (dAt tX5_endOfRun_ok 9 rfl rfl) rfl (fun c2 => ?_) (fun c2 => ?_)
      · have H := Ht2 c2
        refine g_p (S' := [.ref r0]) hF tX5_endOfRun_ok 17 1 rfl rfl rfl rfl ?_
        refine g_getR hF (dAt tX5_endOfRun_ok 18 rfl rfl) flX5_85 hr0.1 rfl ?_
        refine g_p (S' := [.int x4, .ref (r0 + 1)]) hF tX5_endOfRun_ok 19 1 rfl rfl rfl rfl ?_
        obtain ⟨v3, e4, H⟩ := ob H
        refine g_ild hF (dAt tX5_endOfRun_ok 20 rfl rfl) hr0.2 e4 ?_
        obtain ⟨v5, e6, H⟩ := ob H
        refine g_cS (S := []) hF (X5_isDigit_ok (Nat.le_refl _)  e6 K) mbX5_isDigit msX5_isDigit mlX5_100 (by omega) (by decide) (dAt tX5_endOfRun_ok 21 rfl rfl) rfl rfl (Nat.le_of_ble_eq_true rfl) rfl rfl (by decide) (by decide) rfl ?_
        obtain ⟨Ht7, Hf7⟩ := oi H
        refine g_if_ne hF (dAt tX5_endOfRun_ok 22 rfl rfl) rfl (fun c7 => ?_) (fun c7 => ?_)
        · have H := Hf7 c7
          refine g_p (L' := [some (.ref r0), none, some (.int x2), some (.int (x4 + 1)), some (.int (x4 + 1))]) (S' := []) hF tX5_endOfRun_ok 24 5 rfl rfl rfl rfl ?_
          refine g_goto hF (dAt tX5_endOfRun_ok 29 rfl rfl) rfl ?_
          exact X5_endOfRun_b5_ok hD hF hr0 hE fu _ _ _ H
        · have H := Ht7 c7
          refine g_goto hF (dAt tX5_endOfRun_ok 23 rfl rfl) rfl ?_
          refine g_p (S' := [.int x3]) hF tX5_endOfRun_ok 30 1 rfl rfl rfl rfl ?_
          exact g_iret hF (en_i H hE) (dAt tX5_endOfRun_ok 31 rfl rfl) (by decide) (by decide)
      · have H := Hf2 c2
        refine g_p (S' := [.ref r0]) hF tX5_endOfRun_ok 10 1 rfl rfl rfl rfl ?_
        refine g_getR hF (dAt tX5_endOfRun_ok 11 rfl rfl) flX5_85 hr0.1 rfl ?_
        refine g_p (S' := [.int x4, .ref (r0 + 1)]) hF tX5_endOfRun_ok 12 1 rfl rfl rfl rfl ?_
        obtain ⟨v8, e9, H⟩ := ob H
        refine g_ild hF (dAt tX5_endOfRun_ok 13 rfl rfl) hr0.2 e9 ?_
        obtain ⟨v10, e11, H⟩ := ob H
        refine g_cS (S := []) hF (X5_isLetter_ok (Nat.le_refl _)  e11 K) mbX5_isLetter msX5_isLetter mlX5_88 (by omega) (by decide) (dAt tX5_endOfRun_ok 14 rfl rfl) rfl rfl (Nat.le_of_ble_eq_true rfl) rfl rfl (by decide) (by decide) rfl ?_
        obtain ⟨Ht12, Hf12⟩ := oi H
        refine g_if_ne hF (dAt tX5_endOfRun_ok 15 rfl rfl) rfl (fun c12 => ?_) (fun c12 => ?_)
        · have H := Hf12 c12
          refine g_p (L' := [some (.ref r0), none, some (.int x2), some (.int (x4 + 1)), some (.int (x4 + 1))]) (S' := []) hF tX5_endOfRun_ok 24 5 rfl rfl rfl rfl ?_
          refine g_goto hF (dAt tX5_endOfRun_ok 29 rfl rfl) rfl ?_
          exact X5_endOfRun_b5_ok hD hF hr0 hE fu _ _ _ H
        · have H := Ht12 c12
          refine g_goto hF (dAt tX5_endOfRun_ok 16 rfl rfl) rfl ?_
          refine g_p (S' := [.int x3]) hF tX5_endOfRun_ok 30 1 rfl rfl rfl rfl ?_
          exact g_iret hF (en_i H hE) (dAt tX5_endOfRun_ok 31 rfl rfl) (by decide) (by decide)
def X5_endOfRun_f (r0 : Nat) (x1 x2 : Int32) (σ : Sig) : Option (Int32) := X5_endOfRun_b5 r0 σ FU x2 x1 x1
set_option maxRecDepth 4000 in
set_option maxHeartbeats 1000000 in
theorem X5_endOfRun_ok {D : Nat} {τ : Tau} {nx : Nat} {r0 : Nat} {x1 x2 : Int32} {σ : Sig} {res : Int32} (hD : 2 ≤ D) (hr0 : ShX6 τ r0) (H : X5_endOfRun_f r0 x1 x2 σ = some res) : Ok D 0 0 yX5_endOfRun cX5_endOfRun 5 (some .int) [.ref r0, .int x1, .int x2] (τ, σ, nx) (some (.int res)) (τ, σ, nx) := by
  refine ok_of (by decide +kernel) rfl (Nat.le_of_ble_eq_true rfl) (fun K X hF hE hN L0 hL0 => ?_)
  obtain rfl : [some (.ref r0), some (.int x1), some (.int x2), none, none] = L0 := hL0
  have hF : Fx K X cX5_endOfRun 5 RX5 D 0 0 := hF
  refine g_p (L' := [some (.ref r0), some (.int x1), some (.int x2), some (.int x1), some (.int x1)]) (S' := []) hF tX5_endOfRun_ok 0 4 rfl rfl rfl rfl ?_
  refine g_m [true, false, true, true, true] rfl ?_
  exact X5_endOfRun_b5_ok hD hF hr0 hE FU _ _ _ H
def X5_numberOf_b5 (r0 : Nat) (σ : Sig) : Nat → Int32 → Int32 → Int32 → Option (Int32)
  | 0, _, _, _ => none
  | fu + 1, x2, x3, x4 => if x2 ≤ x4 then (some x3) else ((ld 400 (σ (r0 + 1)) x4).bind fun v2 => X5_numberOf_b5 r0 σ fu x2 (((x3 * 10) + v2) - 48) (x4 + 1))
set_option maxRecDepth 4000 in
set_option maxHeartbeats 1000000 in
theorem X5_numberOf_b5_ok {K : Kt} {X : Cx} {D : Nat} {τ : Tau} {nx : Nat} {r0 : Nat} {res : Int32} {σ : Sig}  (hD : 1 ≤ D) (hF : Fx K X cX5_numberOf 5 RX5 D 0 0) (hr0 : ShX6 τ r0) (hE : En K X (some .int) 0 0 (some (.int res)) (τ, σ, nx)) : ∀ (fu : Nat) (x2 x3 x4 : Int32), X5_numberOf_b5 r0 σ fu x2 x3 x4 = some res → G K X 5 0 0 5 [some (.ref r0), none, some (.int x2), some (.int x3), some (.int x4)] [] (τ, σ, nx)
  | 0, _, _, _, H => nomatch H
  | fu + 1, x2, x3, x4, H => by
    refine g_p (S' := [.int x2, .int x4]) hF tX5_numberOf_ok 4 2 rfl rfl rfl rfl ?_
    obtain ⟨Ht1, Hf1⟩ := oi H
    refine g_icmp_ge hF (dAt tX5_numberOf_ok 6 rfl rfl) rfl (fun c1 => ?_) (fun c1 => ?_)
    · have H := Ht1 c1
      refine g_p (S' := [.int x3]) hF tX5_numberOf_ok 20 1 rfl rfl rfl rfl ?_
      exact g_iret hF (en_i H hE) (dAt tX5_numberOf_ok 21 rfl rfl) (by decide) (by decide)
    · have H := Hf1 c1
      refine g_p (S' := [.ref r0, .int (x3 * 10)]) hF tX5_numberOf_ok 7 4 rfl rfl rfl rfl ?_
      refine g_getR hF (dAt tX5_numberOf_ok 11 rfl rfl) flX5_85 hr0.1 rfl ?_
      refine g_p (S' := [.int x4, .ref (r0 + 1), .int (x3 * 10)]) hF tX5_numberOf_ok 12 1 rfl rfl rfl rfl ?_
      obtain ⟨v2, e3, H⟩ := ob H
      refine g_ild hF (dAt tX5_numberOf_ok 13 rfl rfl) hr0.2 e3 ?_
      refine g_p (L' := [some (.ref r0), none, some (.int x2), some (.int (((x3 * 10) + v2) - 48)), some (.int (x4 + 1))]) (S' := []) hF tX5_numberOf_ok 14 5 rfl rfl rfl rfl ?_
      refine g_goto hF (dAt tX5_numberOf_ok 19 rfl rfl) rfl ?_
      exact X5_numberOf_b5_ok hD hF hr0 hE fu _ _ _ H
def X5_numberOf_f (r0 : Nat) (x1 x2 : Int32) (σ : Sig) : Option (Int32) := X5_numberOf_b5 r0 σ FU x2 0 x1
set_option maxRecDepth 4000 in
set_option maxHeartbeats 1000000 in
theorem X5_numberOf_ok {D : Nat} {τ : Tau} {nx : Nat} {r0 : Nat} {x1 x2 : Int32} {σ : Sig} {res : Int32} (hD : 1 ≤ D) (hr0 : ShX6 τ r0) (H : X5_numberOf_f r0 x1 x2 σ = some res) : Ok D 0 0 yX5_numberOf cX5_numberOf 5 (some .int) [.ref r0, .int x1, .int x2] (τ, σ, nx) (some (.int res)) (τ, σ, nx) := by
  refine ok_of (by decide +kernel) rfl (Nat.le_of_ble_eq_true rfl) (fun K X hF hE hN L0 hL0 => ?_)
  obtain rfl : [some (.ref r0), some (.int x1), some (.int x2), none, none] = L0 := hL0
  have hF : Fx K X cX5_numberOf 5 RX5 D 0 0 := hF
  refine g_p (L' := [some (.ref r0), some (.int x1), some (.int x2), some (.int 0), some (.int x1)]) (S' := []) hF tX5_numberOf_ok 0 4 rfl rfl rfl rfl ?_
  refine g_m [true, false, true, true, true] rfl ?_
  exact X5_numberOf_b5_ok hD hF hr0 hE FU _ _ _ H
def X5_keyword_b61 (a : Nat) (r1 : Nat) (σ : Sig) (k29 : Nat → Int32 → Int32 → Int32 → Int32 → Int32 → Int32 → Option (Int32)) (w4 : Nat) (x2 x3 x5 x6 x7 x8 y0 : Int32) : Option (Int32) := if y0 = 32 then (if x7 = 0 then (k29 w4 x2 x3 (x5 + 1) x2 1 (x8 + 1)) else (if x6 = x3 then (some x5) else (k29 w4 x2 x3 (x5 + 1) x2 1 (x8 + 1)))) else (if x7 = 0 then (k29 w4 x2 x3 x5 (x6 + 1) 0 (x8 + 1)) else (if x3 ≤ x6 then (k29 w4 x2 x3 x5 (x6 + 1) 0 (x8 + 1)) else ((ld 400 (σ (r1 + 1)) x6).bind fun v6 => if v6 = y0 then (k29 w4 x2 x3 x5 (x6 + 1) 1 (x8 + 1)) else (k29 w4 x2 x3 x5 (x6 + 1) 0 (x8 + 1)))))
set_option maxRecDepth 4000 in
set_option maxHeartbeats 1000000 in
theorem X5_keyword_b61_ok {K : Kt} {X : Cx} {D : Nat} {τ : Tau} {nx : Nat} {a : Nat} {r1 : Nat} {res : Int32} {σ : Sig}  (hD : 5 ≤ D) (hF : Fx K X cX5_keyword 10 RX5 D 0 0) (hS : ShX5 τ a) (hr1 : ShX6 τ r1) (hE : En K X (some .int) 0 0 (some (.int res)) (τ, σ, nx)) {k29 : Nat → Int32 → Int32 → Int32 → Int32 → Int32 → Int32 → Option (Int32)} (hk29 : ∀ (w4 : Nat) (x2 x3 x5 x6 x7 x8 : Int32) (hw4 : w4 < 21), k29 w4 x2 x3 x5 x6 x7 x8 = some res → G K X 10 0 0 29 [none, some (.ref r1), some (.int x2), some (.int x3), some (.ref (kK K w4)), some (.int x5), some (.int x6), some (.int x7), some (.int x8), none] [] (τ, σ, nx)) {w4 : Nat} {x2 x3 x5 x6 x7 x8 y0 : Int32} (hw4 : w4 < 21) (H : X5_keyword_b61 a r1 σ k29 w4 x2 x3 x5 x6 x7 x8 y0 = some res) : G K X 10 0 0 61 [none, some (.ref r1), some (.int x2), some (.int x3), some (.ref (kK K w4)), some (.int x5), some (.int x6), some (.int x7), some (.int x8), none] [.int y0] (τ, σ, nx) := by
  refine g_p (L' := [none, some (.ref r1), some (.int x2), some (.int x3), some (.ref (kK K w4)), some (.int x5), some (.int x6), some (.int x7), some (.int x8), some (.int y0)]) (S' := [.int 32, .int y0]) hF tX5_keyword_ok 28 3 rfl rfl rfl rfl ?_
  obtain ⟨Ht1, Hf1⟩ := oi H
  refine g_icmp_eq hF (dAt tX5_keyword_ok 31 rfl rfl) rfl (fun c1 => ?_) (fun c1 => ?_)
  · have H := Ht1 c1
    refine g_p (S' := [.int x7]) hF tX5_keyword_ok 49 1 rfl rfl rfl rfl ?_
    obtain ⟨Ht2, Hf2⟩ := oi H
    refine g_if_eq hF (dAt tX5_keyword_ok 50 rfl rfl) rfl (fun c2 => ?_) (fun c2 => ?_)
    · have H := Ht2 c2
      refine g_p (L' := [none, some (.ref r1), some (.int x2), some (.int x3), some (.ref (kK K w4)), some (.int (x5 + 1)), some (.int x2), some (.int 1), some (.int (x8 + 1)), some (.int y0)]) (S' := []) hF tX5_keyword_ok 56 6 rfl rfl rfl rfl ?_
      refine g_goto hF (dAt tX5_keyword_ok 62 rfl rfl) rfl ?_
      refine g_m [false, true, true, true, true, true, true, true, true, false] rfl ?_
      exact hk29 _ _ _ _ _ _ _ hw4 H
    · have H := Hf2 c2
      refine g_p (S' := [.int x3, .int x6]) hF tX5_keyword_ok 51 2 rfl rfl rfl rfl ?_
      obtain ⟨Ht3, Hf3⟩ := oi H
      refine g_icmp_ne hF (dAt tX5_keyword_ok 53 rfl rfl) rfl (fun c3 => ?_) (fun c3 => ?_)
      · have H := Hf3 c3
        refine g_p (L' := [none, some (.ref r1), some (.int x2), some (.int x3), some (.ref (kK K w4)), some (.int (x5 + 1)), some (.int x2), some (.int 1), some (.int (x8 + 1)), some (.int y0)]) (S' := []) hF tX5_keyword_ok 56 6 rfl rfl rfl rfl ?_
        refine g_goto hF (dAt tX5_keyword_ok 62 rfl rfl) rfl ?_
        refine g_m [false, true, true, true, true, true, true, true, true, false] rfl ?_
        exact hk29 _ _ _ _ _ _ _ hw4 H
      · have H := Ht3 c3
        refine g_p (S' := [.int x5]) hF tX5_keyword_ok 54 1 rfl rfl rfl rfl ?_
        exact g_iret hF (en_i H hE) (dAt tX5_keyword_ok 55 rfl rfl) (by decide) (by decide)
  · have H := Hf1 c1
    refine g_p (S' := [.int x7]) hF tX5_keyword_ok 32 1 rfl rfl rfl rfl ?_
    obtain ⟨Ht4, Hf4⟩ := oi H
    refine g_if_eq hF (dAt tX5_keyword_ok 33 rfl rfl) rfl (fun c4 => ?_) (fun c4 => ?_)
    · have H := Ht4 c4
      refine g_p (L' := [none, some (.ref r1), some (.int x2), some (.int x3), some (.ref (kK K w4)), some (.int x5), some (.int (x6 + 1)), some (.int 0), some (.int x8), some (.int y0)]) (S' := []) hF tX5_keyword_ok 45 3 rfl rfl rfl rfl ?_
      refine g_goto hF (dAt tX5_keyword_ok 48 rfl rfl) rfl ?_
      refine g_p (L' := [none, some (.ref r1), some (.int x2), some (.int x3), some (.ref (kK K w4)), some (.int x5), some (.int (x6 + 1)), some (.int 0), some (.int (x8 + 1)), some (.int y0)]) (S' := []) hF tX5_keyword_ok 61 1 rfl rfl rfl rfl ?_
      refine g_goto hF (dAt tX5_keyword_ok 62 rfl rfl) rfl ?_
      refine g_m [false, true, true, true, true, true, true, true, true, false] rfl ?_
      exact hk29 _ _ _ _ _ _ _ hw4 H
    · have H := Hf4 c4
      refine g_p (S' := [.int x3, .int x6]) hF tX5_keyword_ok 34 2 rfl rfl rfl rfl ?_
      obtain ⟨Ht5, Hf5⟩ := oi H
      refine g_icmp_ge hF (dAt tX5_keyword_ok 36 rfl rfl) rfl (fun c5 => ?_) (fun c5 => ?_)
      · have H := Ht5 c5
        refine g_p (L' := [none, some (.ref r1), some (.int x2), some (.int x3), some (.ref (kK K w4)), some (.int x5), some (.int (x6 + 1)), some (.int 0), some (.int x8), some (.int y0)]) (S' := []) hF tX5_keyword_ok 45 3 rfl rfl rfl rfl ?_
        refine g_goto hF (dAt tX5_keyword_ok 48 rfl rfl) rfl ?_
        refine g_p (L' := [none, some (.ref r1), some (.int x2), some (.int x3), some (.ref (kK K w4)), some (.int x5), some (.int (x6 + 1)), some (.int 0), some (.int (x8 + 1)), some (.int y0)]) (S' := []) hF tX5_keyword_ok 61 1 rfl rfl rfl rfl ?_
        refine g_goto hF (dAt tX5_keyword_ok 62 rfl rfl) rfl ?_
        refine g_m [false, true, true, true, true, true, true, true, true, false] rfl ?_
        exact hk29 _ _ _ _ _ _ _ hw4 H
      · have H := Hf5 c5
        refine g_p (S' := [.ref r1]) hF tX5_keyword_ok 37 1 rfl rfl rfl rfl ?_
        refine g_getR hF (dAt tX5_keyword_ok 38 rfl rfl) flX5_85 hr1.1 rfl ?_
        refine g_p (S' := [.int x6, .ref (r1 + 1)]) hF tX5_keyword_ok 39 1 rfl rfl rfl rfl ?_
        obtain ⟨v6, e7, H⟩ := ob H
        refine g_ild hF (dAt tX5_keyword_ok 40 rfl rfl) hr1.2 e7 ?_
        refine g_p (S' := [.int y0, .int v6]) hF tX5_keyword_ok 41 1 rfl rfl rfl rfl ?_
        obtain ⟨Ht8, Hf8⟩ := oi H
        refine g_icmp_ne hF (dAt tX5_keyword_ok 42 rfl rfl) rfl (fun c8 => ?_) (fun c8 => ?_)
        · have H := Hf8 c8
          refine g_p (L' := [none, some (.ref r1), some (.int x2), some (.int x3), some (.ref (kK K w4)), some (.int x5), some (.int (x6 + 1)), some (.int 0), some (.int x8), some (.int y0)]) (S' := []) hF tX5_keyword_ok 45 3 rfl rfl rfl rfl ?_
          refine g_goto hF (dAt tX5_keyword_ok 48 rfl rfl) rfl ?_
          refine g_p (L' := [none, some (.ref r1), some (.int x2), some (.int x3), some (.ref (kK K w4)), some (.int x5), some (.int (x6 + 1)), some (.int 0), some (.int (x8 + 1)), some (.int y0)]) (S' := []) hF tX5_keyword_ok 61 1 rfl rfl rfl rfl ?_
          refine g_goto hF (dAt tX5_keyword_ok 62 rfl rfl) rfl ?_
          refine g_m [false, true, true, true, true, true, true, true, true, false] rfl ?_
          exact hk29 _ _ _ _ _ _ _ hw4 H
        · have H := Ht8 c8
          refine g_p (S' := [.int 1]) hF tX5_keyword_ok 43 1 rfl rfl rfl rfl ?_
          refine g_goto hF (dAt tX5_keyword_ok 44 rfl rfl) rfl ?_
          refine g_p (L' := [none, some (.ref r1), some (.int x2), some (.int x3), some (.ref (kK K w4)), some (.int x5), some (.int (x6 + 1)), some (.int 1), some (.int x8), some (.int y0)]) (S' := []) hF tX5_keyword_ok 46 2 rfl rfl rfl rfl ?_
          refine g_goto hF (dAt tX5_keyword_ok 48 rfl rfl) rfl ?_
          refine g_p (L' := [none, some (.ref r1), some (.int x2), some (.int x3), some (.ref (kK K w4)), some (.int x5), some (.int (x6 + 1)), some (.int 1), some (.int (x8 + 1)), some (.int y0)]) (S' := []) hF tX5_keyword_ok 61 1 rfl rfl rfl rfl ?_
          refine g_goto hF (dAt tX5_keyword_ok 62 rfl rfl) rfl ?_
          refine g_m [false, true, true, true, true, true, true, true, true, false] rfl ?_
          exact hk29 _ _ _ _ _ _ _ hw4 H
def X5_keyword_b29 (a : Nat) (r1 : Nat) (σ : Sig) : Nat → Nat → Int32 → Int32 → Int32 → Int32 → Int32 → Int32 → Option (Int32)
  | 0, _, _, _, _, _, _, _ => none
  | fu + 1, w4, x2, x3, x5, x6, x7, x8 => if (slen w4) < x8 then (some 2) else (if (slen w4) ≤ x8 then (X5_keyword_b61 a r1 σ (X5_keyword_b29 a r1 σ fu) w4 x2 x3 x5 x6 x7 x8 32) else ((sch w4 x8).bind fun v3 => X5_keyword_b61 a r1 σ (X5_keyword_b29 a r1 σ fu) w4 x2 x3 x5 x6 x7 x8 v3))
set_option maxRecDepth 4000 in
set_option maxHeartbeats 1000000 in
theorem X5_keyword_b29_ok {K : Kt} {X : Cx} {D : Nat} {τ : Tau} {nx : Nat} {a : Nat} {r1 : Nat} {res : Int32} {σ : Sig}  (hD : 5 ≤ D) (hF : Fx K X cX5_keyword 10 RX5 D 0 0) (hS : ShX5 τ a) (hr1 : ShX6 τ r1) (hE : En K X (some .int) 0 0 (some (.int res)) (τ, σ, nx)) : ∀ (fu : Nat) (w4 : Nat) (x2 x3 x5 x6 x7 x8 : Int32) (hw4 : w4 < 21), X5_keyword_b29 a r1 σ fu w4 x2 x3 x5 x6 x7 x8 = some res → G K X 10 0 0 29 [none, some (.ref r1), some (.int x2), some (.int x3), some (.ref (kK K w4)), some (.int x5), some (.int x6), some (.int x7), some (.int x8), none] [] (τ, σ, nx)
  | 0, _, _, _, _, _, _, _, _, H => nomatch H
  | fu + 1, w4, x2, x3, x5, x6, x7, x8, hw4, H => by
    refine g_p (S' := [.ref (kK K w4), .int x8]) hF tX5_keyword_ok 15 2 rfl rfl rfl rfl ?_
    refine g_cV0 (S := [.int x8]) hF (J0_length_ok hw4 (Nat.le_refl _)) mbJ0_length_8abf5 mvJ0_length_8abf5 mlX5_113 (by omega) (by decide) (dAt tX5_keyword_ok 17 rfl rfl) (srec hF hw4) rfl rfl (Nat.le_of_ble_eq_true rfl) rfl rfl (by decide) (by decide) rfl ?_
    obtain ⟨Ht1, Hf1⟩ := oi H
    refine g_icmp_gt hF (dAt tX5_keyword_ok 18 rfl rfl) rfl (fun c1 => ?_) (fun c1 => ?_)
    · have H := Ht1 c1
      refine g_p (S' := [.int 2]) hF tX5_keyword_ok 63 1 rfl rfl rfl rfl ?_
      exact g_iret hF (en_i H hE) (dAt tX5_keyword_ok 64 rfl rfl) (by decide) (by decide)
    · have H := Hf1 c1
      refine g_p (S' := [.ref (kK K w4), .int x8]) hF tX5_keyword_ok 19 2 rfl rfl rfl rfl ?_
      refine g_cV0 (S := [.int x8]) hF (J0_length_ok hw4 (Nat.le_refl _)) mbJ0_length_8abf5 mvJ0_length_8abf5 mlX5_113 (by omega) (by decide) (dAt tX5_keyword_ok 21 rfl rfl) (srec hF hw4) rfl rfl (Nat.le_of_ble_eq_true rfl) rfl rfl (by decide) (by decide) rfl ?_
      obtain ⟨Ht2, Hf2⟩ := oi H
      refine g_icmp_ge hF (dAt tX5_keyword_ok 22 rfl rfl) rfl (fun c2 => ?_) (fun c2 => ?_)
      · have H := Ht2 c2
        refine g_p (S' := [.int 32]) hF tX5_keyword_ok 27 1 rfl rfl rfl rfl ?_
        exact X5_keyword_b61_ok hD hF hS hr1 hE (fun _ _ _ _ _ _ _ hz0 H => X5_keyword_b29_ok hD hF hS hr1 hE fu _ _ _ _ _ _ _ hz0 H) hw4 H
      · have H := Hf2 c2
        refine g_p (S' := [.int x8, .ref (kK K w4)]) hF tX5_keyword_ok 23 2 rfl rfl rfl rfl ?_
        obtain ⟨v3, e4, H⟩ := ob H
        refine g_cV0 (S := []) hF (J0_charAt_ok hw4 e4 (Nat.le_refl _)) mbJ0_charAt_5068e mvJ0_charAt_5068e mlX5_118 (by omega) (by decide) (dAt tX5_keyword_ok 25 rfl rfl) (srec hF hw4) rfl rfl (Nat.le_of_ble_eq_true rfl) rfl rfl (by decide) (by decide) rfl ?_
        refine g_goto hF (dAt tX5_keyword_ok 26 rfl rfl) rfl ?_
        exact X5_keyword_b61_ok hD hF hS hr1 hE (fun _ _ _ _ _ _ _ hz0 H => X5_keyword_b29_ok hD hF hS hr1 hE fu _ _ _ _ _ _ _ hz0 H) hw4 H
def X5_keyword_b14 (a : Nat) (r1 : Nat) (σ : Sig) (w0_ : Nat) (x2 x3 : Int32) : Option (Int32) := X5_keyword_b29 a r1 σ FU w0_ x2 x3 100 x2 1 0
set_option maxRecDepth 4000 in
set_option maxHeartbeats 1000000 in
theorem X5_keyword_b14_ok {K : Kt} {X : Cx} {D : Nat} {τ : Tau} {nx : Nat} {a : Nat} {r1 : Nat} {res : Int32} {σ : Sig}  (hD : 5 ≤ D) (hF : Fx K X cX5_keyword 10 RX5 D 0 0) (hS : ShX5 τ a) (hr1 : ShX6 τ r1) (hE : En K X (some .int) 0 0 (some (.int res)) (τ, σ, nx)) {w0_ : Nat} {x2 x3 : Int32} (hw0_ : w0_ < 21) (H : X5_keyword_b14 a r1 σ w0_ x2 x3 = some res) : G K X 10 0 0 14 [none, some (.ref r1), some (.int x2), some (.int x3), none, none, none, none, none, none] [.ref (kK K w0_)] (τ, σ, nx) := by
  refine g_p (L' := [none, some (.ref r1), some (.int x2), some (.int x3), some (.ref (kK K w0_)), some (.int 100), some (.int x2), some (.int 1), some (.int 0), none]) (S' := []) hF tX5_keyword_ok 6 9 rfl rfl rfl rfl ?_
  exact X5_keyword_b29_ok hD hF hS hr1 hE FU _ _ _ _ _ _ _ hw0_ H
def X5_keyword_f (a : Nat) (r1 : Nat) (x2 x3 : Int32) (σ : Sig) : Option (Int32) := if (σ a 2) = 0 then (X5_keyword_b14 a r1 σ 1 x2 x3) else (X5_keyword_b14 a r1 σ 0 x2 x3)
set_option maxRecDepth 4000 in
set_option maxHeartbeats 1000000 in
theorem X5_keyword_ok {D : Nat} {τ : Tau} {nx : Nat} {a : Nat} {r1 : Nat} {x2 x3 : Int32} {σ : Sig} {res : Int32} (hD : 5 ≤ D) (hS : ShX5 τ a) (hr1 : ShX6 τ r1) (H : X5_keyword_f a r1 x2 x3 σ = some res) : Ok D 0 0 yX5_keyword cX5_keyword 10 (some .int) [.ref a, .ref r1, .int x2, .int x3] (τ, σ, nx) (some (.int res)) (τ, σ, nx) := by
  refine ok_of (by decide +kernel) rfl (Nat.le_of_ble_eq_true rfl) (fun K X hF hE hN L0 hL0 => ?_)
  obtain rfl : [some (.ref a), some (.ref r1), some (.int x2), some (.int x3), none, none, none, none, none, none] = L0 := hL0
  have hF : Fx K X cX5_keyword 10 RX5 D 0 0 := hF
  refine g_p (S' := [.ref a]) hF tX5_keyword_ok 0 1 rfl rfl rfl rfl ?_
  refine g_getI hF (dAt tX5_keyword_ok 1 rfl rfl) flX5_40 hS.1 rfl ?_
  obtain ⟨Ht1, Hf1⟩ := oi H
  refine g_if_eq hF (dAt tX5_keyword_ok 2 rfl rfl) rfl (fun c1 => ?_) (fun c1 => ?_)
  · have H := Ht1 c1
    refine g_ldcS (i := 1) hF (dAt tX5_keyword_ok 5 rfl rfl) rfl ?_
    refine g_m [false, true, true, true, false, false, false, false, false, false] rfl ?_
    exact X5_keyword_b14_ok hD hF hS hr1 hE (by decide) H
  · have H := Hf1 c1
    refine g_ldcS (i := 0) hF (dAt tX5_keyword_ok 3 rfl rfl) rfl ?_
    refine g_goto hF (dAt tX5_keyword_ok 4 rfl rfl) rfl ?_
    refine g_m [false, true, true, true, false, false, false, false, false, false] rfl ?_
    exact X5_keyword_b14_ok hD hF hS hr1 hE (by decide) H
def X5_emit_f (a : Nat) (x1 x2 : Int32) (σ : Sig) : Option (Sig) := if 400 ≤ (σ a 4) then (some σ) else ((st 400 σ (a + 1) (σ a 4) ((x2 <<< (4 &&& 31)) ||| x1)).bind fun s2 => (pI s2 a 4 ((s2 a 4) + 1)).bind fun s4 => some s4)
set_option maxRecDepth 4000 in
set_option maxHeartbeats 1000000 in
theorem X5_emit_ok {D : Nat} {τ : Tau} {nx : Nat} {a : Nat} {x1 x2 : Int32} {σ : Sig} {res : Sig} (hD : 1 ≤ D) (hS : ShX5 τ a) (H : X5_emit_f a x1 x2 σ = some res) : Ok D 0 0 yX5_emit cX5_emit 3 none [.ref a, .int x1, .int x2] (τ, σ, nx) none (τ, res, nx) := by
  refine ok_of (by decide +kernel) rfl (Nat.le_of_ble_eq_true rfl) (fun K X hF hE hN L0 hL0 => ?_)
  obtain rfl : [some (.ref a), some (.int x1), some (.int x2)] = L0 := hL0
  have hF : Fx K X cX5_emit 3 RX5 D 0 0 := hF
  refine g_p (S' := [.ref a]) hF tX5_emit_ok 0 1 rfl rfl rfl rfl ?_
  refine g_getI hF (dAt tX5_emit_ok 1 rfl rfl) flX5_47 hS.1 rfl ?_
  refine g_p (S' := [.ref a, .int (σ a 4)]) hF tX5_emit_ok 2 1 rfl rfl rfl rfl ?_
  refine g_getR hF (dAt tX5_emit_ok 3 rfl rfl) flX5_15 hS.1 rfl ?_
  refine g_alen hF (dAt tX5_emit_ok 4 rfl rfl) hS.2.1 rfl ?_
  obtain ⟨Ht1, Hf1⟩ := oi H
  refine g_icmp_ge hF (dAt tX5_emit_ok 5 rfl rfl) rfl (fun c1 => ?_) (fun c1 => ?_)
  · have H := Ht1 c1
    exact g_vret hF (en_v H hE) (dAt tX5_emit_ok 22 rfl rfl) (by decide) (by decide)
  · have H := Hf1 c1
    refine g_p (S' := [.ref a]) hF tX5_emit_ok 6 1 rfl rfl rfl rfl ?_
    refine g_getR hF (dAt tX5_emit_ok 7 rfl rfl) flX5_15 hS.1 rfl ?_
    refine g_p (S' := [.ref a, .ref (a + 1)]) hF tX5_emit_ok 8 1 rfl rfl rfl rfl ?_
    refine g_getI hF (dAt tX5_emit_ok 9 rfl rfl) flX5_47 hS.1 rfl ?_
    refine g_p (S' := [.int ((x2 <<< (4 &&& 31)) ||| x1), .int (σ a 4), .ref (a + 1)]) hF tX5_emit_ok 10 5 rfl rfl rfl rfl ?_
    obtain ⟨s2, e3, H⟩ := ob H
    refine g_ist hF (dAt tX5_emit_ok 15 rfl rfl) hS.2.1 e3 ?_
    refine g_p (S' := [.ref a, .ref a]) hF tX5_emit_ok 16 2 rfl rfl rfl rfl ?_
    refine g_getI hF (dAt tX5_emit_ok 18 rfl rfl) flX5_47 hS.1 rfl ?_
    refine g_p (S' := [.int ((s2 a 4) + 1), .ref a]) hF tX5_emit_ok 19 2 rfl rfl rfl rfl ?_
    obtain ⟨s4, e5, H⟩ := ob H
    refine g_pI hF (dAt tX5_emit_ok 21 rfl rfl) flX5_47 (Or.inl rfl) hS.1 rfl e5 ?_
    exact g_vret hF (en_v H hE) (dAt tX5_emit_ok 22 rfl rfl) (by decide) (by decide)
def X5_closeLine_f (a : Nat) (x1 : Int32) (σ : Sig) : Option (Sig) := if 16 ≤ (σ a 3) then (some σ) else ((st 16 σ (a + 3) (σ a 3) x1).bind fun s2 => (pI s2 a 3 ((s2 a 3) + 1)).bind fun s4 => (st 17 s4 (a + 2) (s4 a 3) (s4 a 4)).bind fun s6 => some s6)
set_option maxRecDepth 4000 in
set_option maxHeartbeats 1000000 in
theorem X5_closeLine_ok {D : Nat} {τ : Tau} {nx : Nat} {a : Nat} {x1 : Int32} {σ : Sig} {res : Sig} (hD : 1 ≤ D) (hS : ShX5 τ a) (H : X5_closeLine_f a x1 σ = some res) : Ok D 0 0 yX5_closeLine cX5_closeLine 2 none [.ref a, .int x1] (τ, σ, nx) none (τ, res, nx) := by
  refine ok_of (by decide +kernel) rfl (Nat.le_of_ble_eq_true rfl) (fun K X hF hE hN L0 hL0 => ?_)
  obtain rfl : [some (.ref a), some (.int x1)] = L0 := hL0
  have hF : Fx K X cX5_closeLine 2 RX5 D 0 0 := hF
  refine g_p (S' := [.ref a]) hF tX5_closeLine_ok 0 1 rfl rfl rfl rfl ?_
  refine g_getI hF (dAt tX5_closeLine_ok 1 rfl rfl) flX5_44 hS.1 rfl ?_
  refine g_p (S' := [.int 16, .int (σ a 3)]) hF tX5_closeLine_ok 2 1 rfl rfl rfl rfl ?_
  obtain ⟨Ht1, Hf1⟩ := oi H
  refine g_icmp_ge hF (dAt tX5_closeLine_ok 3 rfl rfl) rfl (fun c1 => ?_) (fun c1 => ?_)
  · have H := Ht1 c1
    exact g_vret hF (en_v H hE) (dAt tX5_closeLine_ok 23 rfl rfl) (by decide) (by decide)
  · have H := Hf1 c1
    refine g_p (S' := [.ref a]) hF tX5_closeLine_ok 4 1 rfl rfl rfl rfl ?_
    refine g_getR hF (dAt tX5_closeLine_ok 5 rfl rfl) flX5_22 hS.1 rfl ?_
    refine g_p (S' := [.ref a, .ref (a + 3)]) hF tX5_closeLine_ok 6 1 rfl rfl rfl rfl ?_
    refine g_getI hF (dAt tX5_closeLine_ok 7 rfl rfl) flX5_44 hS.1 rfl ?_
    refine g_p (S' := [.int x1, .int (σ a 3), .ref (a + 3)]) hF tX5_closeLine_ok 8 1 rfl rfl rfl rfl ?_
    obtain ⟨s2, e3, H⟩ := ob H
    refine g_ist hF (dAt tX5_closeLine_ok 9 rfl rfl) hS.2.2.2.1 e3 ?_
    refine g_p (S' := [.ref a, .ref a]) hF tX5_closeLine_ok 10 2 rfl rfl rfl rfl ?_
    refine g_getI hF (dAt tX5_closeLine_ok 12 rfl rfl) flX5_44 hS.1 rfl ?_
    refine g_p (S' := [.int ((s2 a 3) + 1), .ref a]) hF tX5_closeLine_ok 13 2 rfl rfl rfl rfl ?_
    obtain ⟨s4, e5, H⟩ := ob H
    refine g_pI hF (dAt tX5_closeLine_ok 15 rfl rfl) flX5_44 (Or.inl rfl) hS.1 rfl e5 ?_
    refine g_p (S' := [.ref a]) hF tX5_closeLine_ok 16 1 rfl rfl rfl rfl ?_
    refine g_getR hF (dAt tX5_closeLine_ok 17 rfl rfl) flX5_19 hS.1 rfl ?_
    refine g_p (S' := [.ref a, .ref (a + 2)]) hF tX5_closeLine_ok 18 1 rfl rfl rfl rfl ?_
    refine g_getI hF (dAt tX5_closeLine_ok 19 rfl rfl) flX5_44 hS.1 rfl ?_
    refine g_p (S' := [.ref a, .int (s4 a 3), .ref (a + 2)]) hF tX5_closeLine_ok 20 1 rfl rfl rfl rfl ?_
    refine g_getI hF (dAt tX5_closeLine_ok 21 rfl rfl) flX5_47 hS.1 rfl ?_
    obtain ⟨s6, e7, H⟩ := ob H
    refine g_ist hF (dAt tX5_closeLine_ok 22 rfl rfl) hS.2.2.1 e7 ?_
    exact g_vret hF (en_v H hE) (dAt tX5_closeLine_ok 23 rfl rfl) (by decide) (by decide)
def X5_fail_f (a : Nat) (x1 : Int32) (σ : Sig) : Option (Sig) := if (σ a 0) = 0 then ((pI σ a 0 x1).bind fun s2 => (ld 401 (s2 (a + 5)) (s2 a 12)).bind fun v4 => (pI s2 a 1 v4).bind fun s6 => some s6) else (some σ)
set_option maxRecDepth 4000 in
set_option maxHeartbeats 1000000 in
theorem X5_fail_ok {D : Nat} {τ : Tau} {nx : Nat} {a : Nat} {x1 : Int32} {σ : Sig} {res : Sig} (hD : 1 ≤ D) (hS : ShX5 τ a) (H : X5_fail_f a x1 σ = some res) : Ok D 0 0 yX5_fail cX5_fail 2 none [.ref a, .int x1] (τ, σ, nx) none (τ, res, nx) := by
  refine ok_of (by decide +kernel) rfl (Nat.le_of_ble_eq_true rfl) (fun K X hF hE hN L0 hL0 => ?_)
  obtain rfl : [some (.ref a), some (.int x1)] = L0 := hL0
  have hF : Fx K X cX5_fail 2 RX5 D 0 0 := hF
  refine g_p (S' := [.ref a]) hF tX5_fail_ok 0 1 rfl rfl rfl rfl ?_
  refine g_getI hF (dAt tX5_fail_ok 1 rfl rfl) flX5_34 hS.1 rfl ?_
  obtain ⟨Ht1, Hf1⟩ := oi H
  refine g_if_ne hF (dAt tX5_fail_ok 2 rfl rfl) rfl (fun c1 => ?_) (fun c1 => ?_)
  · have H := Hf1 c1
    exact g_vret hF (en_v H hE) (dAt tX5_fail_ok 13 rfl rfl) (by decide) (by decide)
  · have H := Ht1 c1
    refine g_p (S' := [.int x1, .ref a]) hF tX5_fail_ok 3 2 rfl rfl rfl rfl ?_
    obtain ⟨s2, e3, H⟩ := ob H
    refine g_pI hF (dAt tX5_fail_ok 5 rfl rfl) flX5_34 (Or.inl rfl) hS.1 rfl e3 ?_
    refine g_p (S' := [.ref a, .ref a]) hF tX5_fail_ok 6 2 rfl rfl rfl rfl ?_
    refine g_getR hF (dAt tX5_fail_ok 8 rfl rfl) flX5_28 hS.1 rfl ?_
    refine g_p (S' := [.ref a, .ref (a + 5), .ref a]) hF tX5_fail_ok 9 1 rfl rfl rfl rfl ?_
    refine g_getI hF (dAt tX5_fail_ok 10 rfl rfl) flX5_54 hS.1 rfl ?_
    obtain ⟨v4, e5, H⟩ := ob H
    refine g_ild hF (dAt tX5_fail_ok 11 rfl rfl) hS.2.2.2.2.2.1 e5 ?_
    obtain ⟨s6, e7, H⟩ := ob H
    refine g_pI hF (dAt tX5_fail_ok 12 rfl rfl) flX5_11 (Or.inl rfl) hS.1 rfl e7 ?_
    exact g_vret hF (en_v H hE) (dAt tX5_fail_ok 13 rfl rfl) (by decide) (by decide)
def X5_step_f (a : Nat) (σ : Sig) : Option (Sig) := if ((σ a 11) - 1) ≤ (σ a 12) then (some σ) else ((pI σ a 12 ((σ a 12) + 1)).bind fun s2 => some s2)
set_option maxRecDepth 4000 in
set_option maxHeartbeats 1000000 in
theorem X5_step_ok {D : Nat} {τ : Tau} {nx : Nat} {a : Nat} {σ : Sig} {res : Sig} (hD : 1 ≤ D) (hS : ShX5 τ a) (H : X5_step_f a σ = some res) : Ok D 0 0 yX5_step cX5_step 1 none [.ref a] (τ, σ, nx) none (τ, res, nx) := by
  refine ok_of (by decide +kernel) rfl (Nat.le_of_ble_eq_true rfl) (fun K X hF hE hN L0 hL0 => ?_)
  obtain rfl : [some (.ref a)] = L0 := hL0
  have hF : Fx K X cX5_step 1 RX5 D 0 0 := hF
  refine g_p (S' := [.ref a]) hF tX5_step_ok 0 1 rfl rfl rfl rfl ?_
  refine g_getI hF (dAt tX5_step_ok 1 rfl rfl) flX5_54 hS.1 rfl ?_
  refine g_p (S' := [.ref a, .int (σ a 12)]) hF tX5_step_ok 2 1 rfl rfl rfl rfl ?_
  refine g_getI hF (dAt tX5_step_ok 3 rfl rfl) flX5_71 hS.1 rfl ?_
  refine g_p (S' := [.int ((σ a 11) - 1), .int (σ a 12)]) hF tX5_step_ok 4 2 rfl rfl rfl rfl ?_
  obtain ⟨Ht1, Hf1⟩ := oi H
  refine g_icmp_ge hF (dAt tX5_step_ok 6 rfl rfl) rfl (fun c1 => ?_) (fun c1 => ?_)
  · have H := Ht1 c1
    exact g_vret hF (en_v H hE) (dAt tX5_step_ok 13 rfl rfl) (by decide) (by decide)
  · have H := Hf1 c1
    refine g_p (S' := [.ref a, .ref a]) hF tX5_step_ok 7 2 rfl rfl rfl rfl ?_
    refine g_getI hF (dAt tX5_step_ok 9 rfl rfl) flX5_54 hS.1 rfl ?_
    refine g_p (S' := [.int ((σ a 12) + 1), .ref a]) hF tX5_step_ok 10 2 rfl rfl rfl rfl ?_
    obtain ⟨s2, e3, H⟩ := ob H
    refine g_pI hF (dAt tX5_step_ok 12 rfl rfl) flX5_54 (Or.inl rfl) hS.1 rfl e3 ?_
    exact g_vret hF (en_v H hE) (dAt tX5_step_ok 13 rfl rfl) (by decide) (by decide)
def X5_take_b20 (a : Nat) (σ : Sig) : Option (Int32 × Sig) := (X5_fail_f a 1 σ).bind fun s1 => some (0, s1)
set_option maxRecDepth 4000 in
set_option maxHeartbeats 1000000 in
theorem X5_take_b20_ok {K : Kt} {X : Cx} {D : Nat} {τ : Tau} {nx : Nat} {a : Nat} {res : Int32} {rsg : Sig}  (hD : 2 ≤ D) (hF : Fx K X cX5_take 2 RX5 D 0 0) (hS : ShX5 τ a) (hE : En K X (some .boolean) 0 0 (some (.int res)) (τ, rsg, nx)) {σ : Sig} (H : X5_take_b20 a σ = some (res, rsg)) : G K X 2 0 0 20 [some (.ref a), none] [] (τ, σ, nx) := by
  refine g_p (S' := [.int 1, .ref a]) hF tX5_take_ok 10 2 rfl rfl rfl rfl ?_
  obtain ⟨s1, e2, H⟩ := ob H
  refine g_cV (S := []) hF (X5_fail_ok (Nat.le_refl _) hS e2 K) mbX5_fail mvX5_fail mlX5_122 (by omega) (by decide) (dAt tX5_take_ok 12 rfl rfl) hS.1 rfl rfl rfl (Nat.le_of_ble_eq_true rfl) rfl rfl (by decide) (by decide) rfl ?_
  refine g_p (S' := [.int 0]) hF tX5_take_ok 13 1 rfl rfl rfl rfl ?_
  exact g_zret hF (en_p H hE) (Or.inl rfl) (dAt tX5_take_ok 14 rfl rfl) (by decide) (by decide)
def X5_take_f (a : Nat) (x1 : Int32) (σ : Sig) : Option (Int32 × Sig) := if (σ a 0) = 0 then ((ld 401 (σ (a + 4)) (σ a 12)).bind fun v2 => if v2 = x1 then ((X5_step_f a σ).bind fun s5 => some (1, s5)) else (X5_take_b20 a σ)) else (X5_take_b20 a σ)
set_option maxRecDepth 4000 in
set_option maxHeartbeats 1000000 in
theorem X5_take_ok {D : Nat} {τ : Tau} {nx : Nat} {a : Nat} {x1 : Int32} {σ : Sig} {res : Int32} {rsg : Sig} (hD : 2 ≤ D) (hS : ShX5 τ a) (H : X5_take_f a x1 σ = some (res, rsg)) : Ok D 0 0 yX5_take cX5_take 2 (some .boolean) [.ref a, .int x1] (τ, σ, nx) (some (.int res)) (τ, rsg, nx) := by
  refine ok_of (by decide +kernel) rfl (Nat.le_of_ble_eq_true rfl) (fun K X hF hE hN L0 hL0 => ?_)
  obtain rfl : [some (.ref a), some (.int x1)] = L0 := hL0
  have hF : Fx K X cX5_take 2 RX5 D 0 0 := hF
  refine g_p (S' := [.ref a]) hF tX5_take_ok 0 1 rfl rfl rfl rfl ?_
  refine g_getI hF (dAt tX5_take_ok 1 rfl rfl) flX5_34 hS.1 rfl ?_
  obtain ⟨Ht1, Hf1⟩ := oi H
  refine g_if_ne hF (dAt tX5_take_ok 2 rfl rfl) rfl (fun c1 => ?_) (fun c1 => ?_)
  · have H := Hf1 c1
    refine g_m [true, false] rfl ?_
    exact X5_take_b20_ok hD hF hS hE H
  · have H := Ht1 c1
    refine g_p (S' := [.ref a]) hF tX5_take_ok 3 1 rfl rfl rfl rfl ?_
    refine g_getR hF (dAt tX5_take_ok 4 rfl rfl) flX5_25 hS.1 rfl ?_
    refine g_p (S' := [.ref a, .ref (a + 4)]) hF tX5_take_ok 5 1 rfl rfl rfl rfl ?_
    refine g_getI hF (dAt tX5_take_ok 6 rfl rfl) flX5_54 hS.1 rfl ?_
    obtain ⟨v2, e3, H⟩ := ob H
    refine g_ild hF (dAt tX5_take_ok 7 rfl rfl) hS.2.2.2.2.1 e3 ?_
    refine g_p (S' := [.int x1, .int v2]) hF tX5_take_ok 8 1 rfl rfl rfl rfl ?_
    obtain ⟨Ht4, Hf4⟩ := oi H
    refine g_icmp_eq hF (dAt tX5_take_ok 9 rfl rfl) rfl (fun c4 => ?_) (fun c4 => ?_)
    · have H := Ht4 c4
      refine g_p (S' := [.ref a]) hF tX5_take_ok 15 1 rfl rfl rfl rfl ?_
      obtain ⟨s5, e6, H⟩ := ob H
      refine g_cV (S := []) hF (X5_step_ok (Nat.le_refl _) hS e6 K) mbX5_step mvX5_step mlX5_126 (by omega) (by decide) (dAt tX5_take_ok 16 rfl rfl) hS.1 rfl rfl rfl (Nat.le_of_ble_eq_true rfl) rfl rfl (by decide) (by decide) rfl ?_
      refine g_p (S' := [.int 1]) hF tX5_take_ok 17 1 rfl rfl rfl rfl ?_
      exact g_zret hF (en_p H hE) (Or.inr rfl) (dAt tX5_take_ok 18 rfl rfl) (by decide) (by decide)
    · have H := Hf4 c4
      refine g_m [true, false] rfl ?_
      exact X5_take_b20_ok hD hF hS hE H
def X5_readLoud_b34 (a : Nat) (x1 : Int32) (σ : Sig) : Option (Int32 × Sig) := (X5_take_f a 1 σ).bind fun ⟨v1, s2⟩ => some (x1, s2)
set_option maxRecDepth 4000 in
set_option maxHeartbeats 1000000 in
theorem X5_readLoud_b34_ok {K : Kt} {X : Cx} {D : Nat} {τ : Tau} {nx : Nat} {a : Nat} {res : Int32} {rsg : Sig}  (hD : 3 ≤ D) (hF : Fx K X cX5_readLoud 2 RX5 D 0 0) (hS : ShX5 τ a) (hE : En K X (some .int) 0 0 (some (.int res)) (τ, rsg, nx)) {x1 : Int32} {σ : Sig} (H : X5_readLoud_b34 a x1 σ = some (res, rsg)) : G K X 2 0 0 34 [some (.ref a), some (.int x1)] [] (τ, σ, nx) := by
  refine g_p (S' := [.int 1, .ref a]) hF tX5_readLoud_ok 19 2 rfl rfl rfl rfl ?_
  obtain ⟨⟨v1, s2⟩, e3, H⟩ := ob H
  refine g_cV (S := []) hF (X5_take_ok (Nat.le_refl _) hS e3 K) mbX5_take mvX5_take mlX5_132 (by omega) (by decide) (dAt tX5_readLoud_ok 21 rfl rfl) hS.1 rfl rfl rfl (Nat.le_of_ble_eq_true rfl) rfl rfl (by decide) (by decide) rfl ?_
  refine g_p (S' := [.int x1]) hF tX5_readLoud_ok 22 2 rfl rfl rfl rfl ?_
  exact g_iret hF (en_p H hE) (dAt tX5_readLoud_ok 24 rfl rfl) (by decide) (by decide)
def X5_readLoud_f (a : Nat) (σ : Sig) : Option (Int32 × Sig) := (ld 401 (σ (a + 6)) (σ a 12)).bind fun v1 => (ld 401 (σ (a + 4)) (σ a 12)).bind fun v3 => if v3 = 1 then (if v1 ≤ 99 then (X5_readLoud_b34 a v1 σ) else ((X5_fail_f a 2 σ).bind fun s7 => X5_readLoud_b34 a v1 s7)) else (X5_readLoud_b34 a v1 σ)
set_option maxRecDepth 4000 in
set_option maxHeartbeats 1000000 in
theorem X5_readLoud_ok {D : Nat} {τ : Tau} {nx : Nat} {a : Nat} {σ : Sig} {res : Int32} {rsg : Sig} (hD : 3 ≤ D) (hS : ShX5 τ a) (H : X5_readLoud_f a σ = some (res, rsg)) : Ok D 0 0 yX5_readLoud cX5_readLoud 2 (some .int) [.ref a] (τ, σ, nx) (some (.int res)) (τ, rsg, nx) := by
  refine ok_of (by decide +kernel) rfl (Nat.le_of_ble_eq_true rfl) (fun K X hF hE hN L0 hL0 => ?_)
  obtain rfl : [some (.ref a), none] = L0 := hL0
  have hF : Fx K X cX5_readLoud 2 RX5 D 0 0 := hF
  refine g_p (S' := [.ref a]) hF tX5_readLoud_ok 0 1 rfl rfl rfl rfl ?_
  refine g_getR hF (dAt tX5_readLoud_ok 1 rfl rfl) flX5_31 hS.1 rfl ?_
  refine g_p (S' := [.ref a, .ref (a + 6)]) hF tX5_readLoud_ok 2 1 rfl rfl rfl rfl ?_
  refine g_getI hF (dAt tX5_readLoud_ok 3 rfl rfl) flX5_54 hS.1 rfl ?_
  obtain ⟨v1, e2, H⟩ := ob H
  refine g_ild hF (dAt tX5_readLoud_ok 4 rfl rfl) hS.2.2.2.2.2.2 e2 ?_
  refine g_p (L' := [some (.ref a), some (.int v1)]) (S' := [.ref a]) hF tX5_readLoud_ok 5 2 rfl rfl rfl rfl ?_
  refine g_getR hF (dAt tX5_readLoud_ok 7 rfl rfl) flX5_25 hS.1 rfl ?_
  refine g_p (S' := [.ref a, .ref (a + 4)]) hF tX5_readLoud_ok 8 1 rfl rfl rfl rfl ?_
  refine g_getI hF (dAt tX5_readLoud_ok 9 rfl rfl) flX5_54 hS.1 rfl ?_
  obtain ⟨v3, e4, H⟩ := ob H
  refine g_ild hF (dAt tX5_readLoud_ok 10 rfl rfl) hS.2.2.2.2.1 e4 ?_
  refine g_p (S' := [.int 1, .int v3]) hF tX5_readLoud_ok 11 1 rfl rfl rfl rfl ?_
  obtain ⟨Ht5, Hf5⟩ := oi H
  refine g_icmp_ne hF (dAt tX5_readLoud_ok 12 rfl rfl) rfl (fun c5 => ?_) (fun c5 => ?_)
  · have H := Hf5 c5
    exact X5_readLoud_b34_ok hD hF hS hE H
  · have H := Ht5 c5
    refine g_p (S' := [.int 99, .int v1]) hF tX5_readLoud_ok 13 2 rfl rfl rfl rfl ?_
    obtain ⟨Ht6, Hf6⟩ := oi H
    refine g_icmp_le hF (dAt tX5_readLoud_ok 15 rfl rfl) rfl (fun c6 => ?_) (fun c6 => ?_)
    · have H := Ht6 c6
      exact X5_readLoud_b34_ok hD hF hS hE H
    · have H := Hf6 c6
      refine g_p (S' := [.int 2, .ref a]) hF tX5_readLoud_ok 16 2 rfl rfl rfl rfl ?_
      obtain ⟨s7, e8, H⟩ := ob H
      refine g_cV (S := []) hF (X5_fail_ok (Nat.le_refl _) hS e8 K) mbX5_fail mvX5_fail mlX5_122 (by omega) (by decide) (dAt tX5_readLoud_ok 18 rfl rfl) hS.1 rfl rfl rfl (Nat.le_of_ble_eq_true rfl) rfl rfl (by decide) (by decide) rfl ?_
      exact X5_readLoud_b34_ok hD hF hS hE H
def X5_isReckoning_f (x0 : Int32) (σ : Sig) : Option (Int32) := if x0 = 43 then (some 1) else (if x0 = 45 then (some 1) else (if x0 = 42 then (some 1) else (if x0 = 47 then (some 1) else (some 0))))
set_option maxRecDepth 4000 in
set_option maxHeartbeats 1000000 in
theorem X5_isReckoning_ok {D : Nat} {τ : Tau} {nx : Nat} {x0 : Int32} {σ : Sig} {res : Int32} (hD : 1 ≤ D) (H : X5_isReckoning_f x0 σ = some res) : Ok D 0 0 yX5_isReckoning cX5_isReckoning 1 (some .boolean) [.int x0] (τ, σ, nx) (some (.int res)) (τ, σ, nx) := by
  refine ok_of (by decide +kernel) rfl (Nat.le_of_ble_eq_true rfl) (fun K X hF hE hN L0 hL0 => ?_)
  obtain rfl : [some (.int x0)] = L0 := hL0
  have hF : Fx K X cX5_isReckoning 1 RX5 D 0 0 := hF
  refine g_p (S' := [.int 43, .int x0]) hF tX5_isReckoning_ok 0 2 rfl rfl rfl rfl ?_
  obtain ⟨Ht1, Hf1⟩ := oi H
  refine g_icmp_eq hF (dAt tX5_isReckoning_ok 2 rfl rfl) rfl (fun c1 => ?_) (fun c1 => ?_)
  · have H := Ht1 c1
    refine g_p (S' := [.int 1]) hF tX5_isReckoning_ok 12 1 rfl rfl rfl rfl ?_
    refine g_goto hF (dAt tX5_isReckoning_ok 13 rfl rfl) rfl ?_
    exact g_zret hF (en_i H hE) (Or.inr rfl) (dAt tX5_isReckoning_ok 15 rfl rfl) (by decide) (by decide)
  · have H := Hf1 c1
    refine g_p (S' := [.int 45, .int x0]) hF tX5_isReckoning_ok 3 2 rfl rfl rfl rfl ?_
    obtain ⟨Ht2, Hf2⟩ := oi H
    refine g_icmp_eq hF (dAt tX5_isReckoning_ok 5 rfl rfl) rfl (fun c2 => ?_) (fun c2 => ?_)
    · have H := Ht2 c2
      refine g_p (S' := [.int 1]) hF tX5_isReckoning_ok 12 1 rfl rfl rfl rfl ?_
      refine g_goto hF (dAt tX5_isReckoning_ok 13 rfl rfl) rfl ?_
      exact g_zret hF (en_i H hE) (Or.inr rfl) (dAt tX5_isReckoning_ok 15 rfl rfl) (by decide) (by decide)
    · have H := Hf2 c2
      refine g_p (S' := [.int 42, .int x0]) hF tX5_isReckoning_ok 6 2 rfl rfl rfl rfl ?_
      obtain ⟨Ht3, Hf3⟩ := oi H
      refine g_icmp_eq hF (dAt tX5_isReckoning_ok 8 rfl rfl) rfl (fun c3 => ?_) (fun c3 => ?_)
      · have H := Ht3 c3
        refine g_p (S' := [.int 1]) hF tX5_isReckoning_ok 12 1 rfl rfl rfl rfl ?_
        refine g_goto hF (dAt tX5_isReckoning_ok 13 rfl rfl) rfl ?_
        exact g_zret hF (en_i H hE) (Or.inr rfl) (dAt tX5_isReckoning_ok 15 rfl rfl) (by decide) (by decide)
      · have H := Hf3 c3
        refine g_p (S' := [.int 47, .int x0]) hF tX5_isReckoning_ok 9 2 rfl rfl rfl rfl ?_
        obtain ⟨Ht4, Hf4⟩ := oi H
        refine g_icmp_ne hF (dAt tX5_isReckoning_ok 11 rfl rfl) rfl (fun c4 => ?_) (fun c4 => ?_)
        · have H := Hf4 c4
          refine g_p (S' := [.int 0]) hF tX5_isReckoning_ok 14 1 rfl rfl rfl rfl ?_
          exact g_zret hF (en_i H hE) (Or.inl rfl) (dAt tX5_isReckoning_ok 15 rfl rfl) (by decide) (by decide)
        · have H := Ht4 c4
          refine g_p (S' := [.int 1]) hF tX5_isReckoning_ok 12 1 rfl rfl rfl rfl ?_
          refine g_goto hF (dAt tX5_isReckoning_ok 13 rfl rfl) rfl ?_
          exact g_zret hF (en_i H hE) (Or.inr rfl) (dAt tX5_isReckoning_ok 15 rfl rfl) (by decide) (by decide)
def X5_divisor_f (a : Nat) (σ : Sig) : Option (Sig) := (ld 401 (σ (a + 4)) (σ a 12)).bind fun v1 => if v1 = 1 then ((ld 401 (σ (a + 6)) (σ a 12)).bind fun v4 => if v4 = 0 then ((X5_fail_f a 2 σ).bind fun s13 => some s13) else ((ld 401 (σ (a + 6)) (σ a 12)).bind fun v7 => (X5_emit_f a 5 v7 σ).bind fun s9 => (X5_step_f a s9).bind fun s11 => some s11)) else ((X5_fail_f a 1 σ).bind fun s15 => some s15)
set_option maxRecDepth 4000 in
set_option maxHeartbeats 1000000 in
theorem X5_divisor_ok {D : Nat} {τ : Tau} {nx : Nat} {a : Nat} {σ : Sig} {res : Sig} (hD : 2 ≤ D) (hS : ShX5 τ a) (H : X5_divisor_f a σ = some res) : Ok D 0 0 yX5_divisor cX5_divisor 1 none [.ref a] (τ, σ, nx) none (τ, res, nx) := by
  refine ok_of (by decide +kernel) rfl (Nat.le_of_ble_eq_true rfl) (fun K X hF hE hN L0 hL0 => ?_)
  obtain rfl : [some (.ref a)] = L0 := hL0
  have hF : Fx K X cX5_divisor 1 RX5 D 0 0 := hF
  refine g_p (S' := [.ref a]) hF tX5_divisor_ok 0 1 rfl rfl rfl rfl ?_
  refine g_getR hF (dAt tX5_divisor_ok 1 rfl rfl) flX5_25 hS.1 rfl ?_
  refine g_p (S' := [.ref a, .ref (a + 4)]) hF tX5_divisor_ok 2 1 rfl rfl rfl rfl ?_
  refine g_getI hF (dAt tX5_divisor_ok 3 rfl rfl) flX5_54 hS.1 rfl ?_
  obtain ⟨v1, e2, H⟩ := ob H
  refine g_ild hF (dAt tX5_divisor_ok 4 rfl rfl) hS.2.2.2.2.1 e2 ?_
  refine g_p (S' := [.int 1, .int v1]) hF tX5_divisor_ok 5 1 rfl rfl rfl rfl ?_
  obtain ⟨Ht3, Hf3⟩ := oi H
  refine g_icmp_eq hF (dAt tX5_divisor_ok 6 rfl rfl) rfl (fun c3 => ?_) (fun c3 => ?_)
  · have H := Ht3 c3
    refine g_p (S' := [.ref a]) hF tX5_divisor_ok 11 1 rfl rfl rfl rfl ?_
    refine g_getR hF (dAt tX5_divisor_ok 12 rfl rfl) flX5_31 hS.1 rfl ?_
    refine g_p (S' := [.ref a, .ref (a + 6)]) hF tX5_divisor_ok 13 1 rfl rfl rfl rfl ?_
    refine g_getI hF (dAt tX5_divisor_ok 14 rfl rfl) flX5_54 hS.1 rfl ?_
    obtain ⟨v4, e5, H⟩ := ob H
    refine g_ild hF (dAt tX5_divisor_ok 15 rfl rfl) hS.2.2.2.2.2.2 e5 ?_
    obtain ⟨Ht6, Hf6⟩ := oi H
    refine g_if_ne hF (dAt tX5_divisor_ok 16 rfl rfl) rfl (fun c6 => ?_) (fun c6 => ?_)
    · have H := Hf6 c6
      refine g_p (S' := [.ref a, .int 5, .ref a]) hF tX5_divisor_ok 21 3 rfl rfl rfl rfl ?_
      refine g_getR hF (dAt tX5_divisor_ok 24 rfl rfl) flX5_31 hS.1 rfl ?_
      refine g_p (S' := [.ref a, .ref (a + 6), .int 5, .ref a]) hF tX5_divisor_ok 25 1 rfl rfl rfl rfl ?_
      refine g_getI hF (dAt tX5_divisor_ok 26 rfl rfl) flX5_54 hS.1 rfl ?_
      obtain ⟨v7, e8, H⟩ := ob H
      refine g_ild hF (dAt tX5_divisor_ok 27 rfl rfl) hS.2.2.2.2.2.2 e8 ?_
      obtain ⟨s9, e10, H⟩ := ob H
      refine g_cV (S := []) hF (X5_emit_ok (Nat.le_refl _) hS e10 K) mbX5_emit mvX5_emit mlX5_144 (by omega) (by decide) (dAt tX5_divisor_ok 28 rfl rfl) hS.1 rfl rfl rfl (Nat.le_of_ble_eq_true rfl) rfl rfl (by decide) (by decide) rfl ?_
      refine g_p (S' := [.ref a]) hF tX5_divisor_ok 29 1 rfl rfl rfl rfl ?_
      obtain ⟨s11, e12, H⟩ := ob H
      refine g_cV (S := []) hF (X5_step_ok (Nat.le_refl _) hS e12 K) mbX5_step mvX5_step mlX5_126 (by omega) (by decide) (dAt tX5_divisor_ok 30 rfl rfl) hS.1 rfl rfl rfl (Nat.le_of_ble_eq_true rfl) rfl rfl (by decide) (by decide) rfl ?_
      exact g_vret hF (en_v H hE) (dAt tX5_divisor_ok 31 rfl rfl) (by decide) (by decide)
    · have H := Ht6 c6
      refine g_p (S' := [.int 2, .ref a]) hF tX5_divisor_ok 17 2 rfl rfl rfl rfl ?_
      obtain ⟨s13, e14, H⟩ := ob H
      refine g_cV (S := []) hF (X5_fail_ok (Nat.le_refl _) hS e14 K) mbX5_fail mvX5_fail mlX5_122 (by omega) (by decide) (dAt tX5_divisor_ok 19 rfl rfl) hS.1 rfl rfl rfl (Nat.le_of_ble_eq_true rfl) rfl rfl (by decide) (by decide) rfl ?_
      refine g_goto hF (dAt tX5_divisor_ok 20 rfl rfl) rfl ?_
      exact g_vret hF (en_v H hE) (dAt tX5_divisor_ok 31 rfl rfl) (by decide) (by decide)
  · have H := Hf3 c3
    refine g_p (S' := [.int 1, .ref a]) hF tX5_divisor_ok 7 2 rfl rfl rfl rfl ?_
    obtain ⟨s15, e16, H⟩ := ob H
    refine g_cV (S := []) hF (X5_fail_ok (Nat.le_refl _) hS e16 K) mbX5_fail mvX5_fail mlX5_122 (by omega) (by decide) (dAt tX5_divisor_ok 9 rfl rfl) hS.1 rfl rfl rfl (Nat.le_of_ble_eq_true rfl) rfl rfl (by decide) (by decide) rfl ?_
    refine g_goto hF (dAt tX5_divisor_ok 10 rfl rfl) rfl ?_
    exact g_vret hF (en_v H hE) (dAt tX5_divisor_ok 31 rfl rfl) (by decide) (by decide)
def X5_unit_b24 (a : Nat) (x1 y0 : Int32) (σ : Sig) : Option (Sig) := if x1 = 1 then ((ld 401 (σ (a + 6)) (σ a 12)).bind fun v9 => (X5_emit_f a 0 v9 σ).bind fun s11 => (X5_step_f a s11).bind fun s13 => some s13) else (if x1 < y0 then ((X5_fail_f a 1 σ).bind fun s3 => some s3) else ((X5_emit_f a 1 (x1 - y0) σ).bind fun s5 => (X5_step_f a s5).bind fun s7 => some s7))
set_option maxRecDepth 4000 in
set_option maxHeartbeats 1000000 in
theorem X5_unit_b24_ok {K : Kt} {X : Cx} {D : Nat} {τ : Tau} {nx : Nat} {a : Nat} {res : Sig}  (hD : 2 ≤ D) (hF : Fx K X cX5_unit 3 RX5 D 0 0) (hS : ShX5 τ a) (hE : En K X none 0 0 none (τ, res, nx)) {x1 y0 : Int32} {σ : Sig} (H : X5_unit_b24 a x1 y0 σ = some res) : G K X 3 0 0 24 [some (.ref a), some (.int x1), none] [.int y0] (τ, σ, nx) := by
  refine g_p (L' := [some (.ref a), some (.int x1), some (.int y0)]) (S' := [.int 1, .int x1]) hF tX5_unit_ok 12 3 rfl rfl rfl rfl ?_
  obtain ⟨Ht1, Hf1⟩ := oi H
  refine g_icmp_ne hF (dAt tX5_unit_ok 15 rfl rfl) rfl (fun c1 => ?_) (fun c1 => ?_)
  · have H := Hf1 c1
    refine g_p (S' := [.int y0, .int x1]) hF tX5_unit_ok 27 2 rfl rfl rfl rfl ?_
    obtain ⟨Ht2, Hf2⟩ := oi H
    refine g_icmp_lt hF (dAt tX5_unit_ok 29 rfl rfl) rfl (fun c2 => ?_) (fun c2 => ?_)
    · have H := Ht2 c2
      refine g_p (S' := [.int 1, .ref a]) hF tX5_unit_ok 39 2 rfl rfl rfl rfl ?_
      obtain ⟨s3, e4, H⟩ := ob H
      refine g_cV (S := []) hF (X5_fail_ok (Nat.le_refl _) hS e4 K) mbX5_fail mvX5_fail mlX5_122 (by omega) (by decide) (dAt tX5_unit_ok 41 rfl rfl) hS.1 rfl rfl rfl (Nat.le_of_ble_eq_true rfl) rfl rfl (by decide) (by decide) rfl ?_
      exact g_vret hF (en_v H hE) (dAt tX5_unit_ok 42 rfl rfl) (by decide) (by decide)
    · have H := Hf2 c2
      refine g_p (S' := [.int (x1 - y0), .int 1, .ref a]) hF tX5_unit_ok 30 5 rfl rfl rfl rfl ?_
      obtain ⟨s5, e6, H⟩ := ob H
      refine g_cV (S := []) hF (X5_emit_ok (Nat.le_refl _) hS e6 K) mbX5_emit mvX5_emit mlX5_144 (by omega) (by decide) (dAt tX5_unit_ok 35 rfl rfl) hS.1 rfl rfl rfl (Nat.le_of_ble_eq_true rfl) rfl rfl (by decide) (by decide) rfl ?_
      refine g_p (S' := [.ref a]) hF tX5_unit_ok 36 1 rfl rfl rfl rfl ?_
      obtain ⟨s7, e8, H⟩ := ob H
      refine g_cV (S := []) hF (X5_step_ok (Nat.le_refl _) hS e8 K) mbX5_step mvX5_step mlX5_126 (by omega) (by decide) (dAt tX5_unit_ok 37 rfl rfl) hS.1 rfl rfl rfl (Nat.le_of_ble_eq_true rfl) rfl rfl (by decide) (by decide) rfl ?_
      refine g_goto hF (dAt tX5_unit_ok 38 rfl rfl) rfl ?_
      exact g_vret hF (en_v H hE) (dAt tX5_unit_ok 42 rfl rfl) (by decide) (by decide)
  · have H := Ht1 c1
    refine g_p (S' := [.ref a, .int 0, .ref a]) hF tX5_unit_ok 16 3 rfl rfl rfl rfl ?_
    refine g_getR hF (dAt tX5_unit_ok 19 rfl rfl) flX5_31 hS.1 rfl ?_
    refine g_p (S' := [.ref a, .ref (a + 6), .int 0, .ref a]) hF tX5_unit_ok 20 1 rfl rfl rfl rfl ?_
    refine g_getI hF (dAt tX5_unit_ok 21 rfl rfl) flX5_54 hS.1 rfl ?_
    obtain ⟨v9, e10, H⟩ := ob H
    refine g_ild hF (dAt tX5_unit_ok 22 rfl rfl) hS.2.2.2.2.2.2 e10 ?_
    obtain ⟨s11, e12, H⟩ := ob H
    refine g_cV (S := []) hF (X5_emit_ok (Nat.le_refl _) hS e12 K) mbX5_emit mvX5_emit mlX5_144 (by omega) (by decide) (dAt tX5_unit_ok 23 rfl rfl) hS.1 rfl rfl rfl (Nat.le_of_ble_eq_true rfl) rfl rfl (by decide) (by decide) rfl ?_
    refine g_p (S' := [.ref a]) hF tX5_unit_ok 24 1 rfl rfl rfl rfl ?_
    obtain ⟨s13, e14, H⟩ := ob H
    refine g_cV (S := []) hF (X5_step_ok (Nat.le_refl _) hS e14 K) mbX5_step mvX5_step mlX5_126 (by omega) (by decide) (dAt tX5_unit_ok 25 rfl rfl) hS.1 rfl rfl rfl (Nat.le_of_ble_eq_true rfl) rfl rfl (by decide) (by decide) rfl ?_
    refine g_goto hF (dAt tX5_unit_ok 26 rfl rfl) rfl ?_
    exact g_vret hF (en_v H hE) (dAt tX5_unit_ok 42 rfl rfl) (by decide) (by decide)
def X5_unit_f (a : Nat) (σ : Sig) : Option (Sig) := (ld 401 (σ (a + 4)) (σ a 12)).bind fun v1 => if (σ a 2) = 0 then (X5_unit_b24 a v1 107 σ) else (X5_unit_b24 a v1 105 σ)
set_option maxRecDepth 4000 in
set_option maxHeartbeats 1000000 in
theorem X5_unit_ok {D : Nat} {τ : Tau} {nx : Nat} {a : Nat} {σ : Sig} {res : Sig} (hD : 2 ≤ D) (hS : ShX5 τ a) (H : X5_unit_f a σ = some res) : Ok D 0 0 yX5_unit cX5_unit 3 none [.ref a] (τ, σ, nx) none (τ, res, nx) := by
  refine ok_of (by decide +kernel) rfl (Nat.le_of_ble_eq_true rfl) (fun K X hF hE hN L0 hL0 => ?_)
  obtain rfl : [some (.ref a), none, none] = L0 := hL0
  have hF : Fx K X cX5_unit 3 RX5 D 0 0 := hF
  refine g_p (S' := [.ref a]) hF tX5_unit_ok 0 1 rfl rfl rfl rfl ?_
  refine g_getR hF (dAt tX5_unit_ok 1 rfl rfl) flX5_25 hS.1 rfl ?_
  refine g_p (S' := [.ref a, .ref (a + 4)]) hF tX5_unit_ok 2 1 rfl rfl rfl rfl ?_
  refine g_getI hF (dAt tX5_unit_ok 3 rfl rfl) flX5_54 hS.1 rfl ?_
  obtain ⟨v1, e2, H⟩ := ob H
  refine g_ild hF (dAt tX5_unit_ok 4 rfl rfl) hS.2.2.2.2.1 e2 ?_
  refine g_p (L' := [some (.ref a), some (.int v1), none]) (S' := [.ref a]) hF tX5_unit_ok 5 2 rfl rfl rfl rfl ?_
  refine g_getI hF (dAt tX5_unit_ok 7 rfl rfl) flX5_40 hS.1 rfl ?_
  obtain ⟨Ht3, Hf3⟩ := oi H
  refine g_if_eq hF (dAt tX5_unit_ok 8 rfl rfl) rfl (fun c3 => ?_) (fun c3 => ?_)
  · have H := Ht3 c3
    refine g_p (S' := [.int 107]) hF tX5_unit_ok 11 1 rfl rfl rfl rfl ?_
    exact X5_unit_b24_ok hD hF hS hE H
  · have H := Hf3 c3
    refine g_p (S' := [.int 105]) hF tX5_unit_ok 9 1 rfl rfl rfl rfl ?_
    refine g_goto hF (dAt tX5_unit_ok 10 rfl rfl) rfl ?_
    exact X5_unit_b24_ok hD hF hS hE H
def X5_findToken_b111 (a : Nat) (r1 : Nat) (x2 y0 : Int32) (σ : Sig) : Option (Int32 × Sig) := (X5_putToken_f a y0 x2 0 σ).bind fun s1 => some ((x2 + 1), s1)
set_option maxRecDepth 4000 in
set_option maxHeartbeats 1000000 in
theorem X5_findToken_b111_ok {K : Kt} {X : Cx} {D : Nat} {τ : Tau} {nx : Nat} {a : Nat} {r1 : Nat} {res : Int32} {rsg : Sig}  (hD : 6 ≤ D) (hF : Fx K X cX5_findToken 5 RX5 D 0 0) (hS : ShX5 τ a) (hr1 : ShX6 τ r1) (hE : En K X (some .int) 0 0 (some (.int res)) (τ, rsg, nx)) {x2 y0 : Int32} {σ : Sig} (H : X5_findToken_b111 a r1 x2 y0 σ = some (res, rsg)) : G K X 5 0 0 111 [none, none, some (.int x2), none, none] [.int y0, .ref a] (τ, σ, nx) := by
  refine g_p (S' := [.int 0, .int x2, .int y0, .ref a]) hF tX5_findToken_ok 66 2 rfl rfl rfl rfl ?_
  obtain ⟨s1, e2, H⟩ := ob H
  refine g_cV (S := []) hF (X5_putToken_ok (Nat.le_refl _) hS e2 K) mbX5_putToken mvX5_putToken mlX5_81 (by omega) (by decide) (dAt tX5_findToken_ok 68 rfl rfl) hS.1 rfl rfl rfl (Nat.le_of_ble_eq_true rfl) rfl rfl (by decide) (by decide) rfl ?_
  refine g_p (S' := [.int (x2 + 1)]) hF tX5_findToken_ok 69 3 rfl rfl rfl rfl ?_
  exact g_iret hF (en_p H hE) (dAt tX5_findToken_ok 72 rfl rfl) (by decide) (by decide)
def X5_findToken_b84 (a : Nat) (r1 : Nat) (x2 x4 y0 : Int32) (σ : Sig) : Option (Int32 × Sig) := (X5_numberOf_f r1 x2 x4 σ).bind fun v1 => (X5_putToken_f a y0 x2 v1 σ).bind fun s3 => some (x4, s3)
set_option maxRecDepth 4000 in
set_option maxHeartbeats 1000000 in
theorem X5_findToken_b84_ok {K : Kt} {X : Cx} {D : Nat} {τ : Tau} {nx : Nat} {a : Nat} {r1 : Nat} {res : Int32} {rsg : Sig}  (hD : 6 ≤ D) (hF : Fx K X cX5_findToken 5 RX5 D 0 0) (hS : ShX5 τ a) (hr1 : ShX6 τ r1) (hE : En K X (some .int) 0 0 (some (.int res)) (τ, rsg, nx)) {x2 x4 y0 : Int32} {σ : Sig} (H : X5_findToken_b84 a r1 x2 x4 y0 σ = some (res, rsg)) : G K X 5 0 0 84 [none, some (.ref r1), some (.int x2), none, some (.int x4)] [.int y0, .ref a] (τ, σ, nx) := by
  refine g_p (S' := [.int x4, .int x2, .ref r1, .int x2, .int y0, .ref a]) hF tX5_findToken_ok 51 4 rfl rfl rfl rfl ?_
  obtain ⟨v1, e2, H⟩ := ob H
  refine g_cS (S := [.int x2, .int y0, .ref a]) hF (X5_numberOf_ok (Nat.le_refl _) hr1 e2 K) mbX5_numberOf msX5_numberOf mlX5_103 (by omega) (by decide) (dAt tX5_findToken_ok 55 rfl rfl) rfl rfl (Nat.le_of_ble_eq_true rfl) rfl rfl (by decide) (by decide) rfl ?_
  obtain ⟨s3, e4, H⟩ := ob H
  refine g_cV (S := []) hF (X5_putToken_ok (Nat.le_refl _) hS e4 K) mbX5_putToken mvX5_putToken mlX5_81 (by omega) (by decide) (dAt tX5_findToken_ok 56 rfl rfl) hS.1 rfl rfl rfl (Nat.le_of_ble_eq_true rfl) rfl rfl (by decide) (by decide) rfl ?_
  refine g_p (S' := [.int x4]) hF tX5_findToken_ok 57 1 rfl rfl rfl rfl ?_
  exact g_iret hF (en_p H hE) (dAt tX5_findToken_ok 58 rfl rfl) (by decide) (by decide)
def X5_findToken_f (a : Nat) (r1 : Nat) (x2 : Int32) (σ : Sig) : Option (Int32 × Sig) := (ld 400 (σ (r1 + 1)) x2).bind fun v1 => if v1 = 32 then (some ((x2 + 1), σ)) else (if v1 = 10 then (some ((x2 + 1), σ)) else ((X5_isLetter_f v1 σ).bind fun v5 => if v5 = 0 then ((X5_isDigit_f v1 σ).bind fun v8 => if v8 = 0 then ((X5_isSign_f v1 σ).bind fun v11 => if v11 = 0 then (X5_findToken_b111 a r1 x2 2 σ) else (X5_findToken_b111 a r1 x2 v1 σ)) else ((X5_endOfRun_f r1 x2 0 σ).bind fun v14 => if 4 < (v14 - x2) then (X5_findToken_b84 a r1 x2 v14 2 σ) else (X5_findToken_b84 a r1 x2 v14 1 σ))) else ((X5_endOfRun_f r1 x2 1 σ).bind fun v17 => (X5_keyword_f a r1 x2 v17 σ).bind fun v19 => (X5_putToken_f a v19 x2 0 σ).bind fun s21 => some (v17, s21))))
set_option maxRecDepth 4000 in
set_option maxHeartbeats 1000000 in
theorem X5_findToken_ok {D : Nat} {τ : Tau} {nx : Nat} {a : Nat} {r1 : Nat} {x2 : Int32} {σ : Sig} {res : Int32} {rsg : Sig} (hD : 6 ≤ D) (hS : ShX5 τ a) (hr1 : ShX6 τ r1) (H : X5_findToken_f a r1 x2 σ = some (res, rsg)) : Ok D 0 0 yX5_findToken cX5_findToken 5 (some .int) [.ref a, .ref r1, .int x2] (τ, σ, nx) (some (.int res)) (τ, rsg, nx) := by
  refine ok_of (by decide +kernel) rfl (Nat.le_of_ble_eq_true rfl) (fun K X hF hE hN L0 hL0 => ?_)
  obtain rfl : [some (.ref a), some (.ref r1), some (.int x2), none, none] = L0 := hL0
  have hF : Fx K X cX5_findToken 5 RX5 D 0 0 := hF
  refine g_p (S' := [.ref r1]) hF tX5_findToken_ok 0 1 rfl rfl rfl rfl ?_
  refine g_getR hF (dAt tX5_findToken_ok 1 rfl rfl) flX5_85 hr1.1 rfl ?_
  refine g_p (S' := [.int x2, .ref (r1 + 1)]) hF tX5_findToken_ok 2 1 rfl rfl rfl rfl ?_
  obtain ⟨v1, e2, H⟩ := ob H
  refine g_ild hF (dAt tX5_findToken_ok 3 rfl rfl) hr1.2 e2 ?_
  refine g_p (L' := [some (.ref a), some (.ref r1), some (.int x2), some (.int v1), none]) (S' := [.int 32, .int v1]) hF tX5_findToken_ok 4 3 rfl rfl rfl rfl ?_
  obtain ⟨Ht3, Hf3⟩ := oi H
  refine g_icmp_eq hF (dAt tX5_findToken_ok 7 rfl rfl) rfl (fun c3 => ?_) (fun c3 => ?_)
  · have H := Ht3 c3
    refine g_p (S' := [.int (x2 + 1)]) hF tX5_findToken_ok 11 3 rfl rfl rfl rfl ?_
    exact g_iret hF (en_p H hE) (dAt tX5_findToken_ok 14 rfl rfl) (by decide) (by decide)
  · have H := Hf3 c3
    refine g_p (S' := [.int 10, .int v1]) hF tX5_findToken_ok 8 2 rfl rfl rfl rfl ?_
    obtain ⟨Ht4, Hf4⟩ := oi H
    refine g_icmp_ne hF (dAt tX5_findToken_ok 10 rfl rfl) rfl (fun c4 => ?_) (fun c4 => ?_)
    · have H := Hf4 c4
      refine g_p (S' := [.int v1]) hF tX5_findToken_ok 15 1 rfl rfl rfl rfl ?_
      obtain ⟨v5, e6, H⟩ := ob H
      refine g_cS (S := []) hF (X5_isLetter_ok (Nat.le_refl _)  e6 K) mbX5_isLetter msX5_isLetter mlX5_88 (by omega) (by decide) (dAt tX5_findToken_ok 16 rfl rfl) rfl rfl (Nat.le_of_ble_eq_true rfl) rfl rfl (by decide) (by decide) rfl ?_
      obtain ⟨Ht7, Hf7⟩ := oi H
      refine g_if_eq hF (dAt tX5_findToken_ok 17 rfl rfl) rfl (fun c7 => ?_) (fun c7 => ?_)
      · have H := Ht7 c7
        refine g_p (S' := [.int v1]) hF tX5_findToken_ok 34 1 rfl rfl rfl rfl ?_
        obtain ⟨v8, e9, H⟩ := ob H
        refine g_cS (S := []) hF (X5_isDigit_ok (Nat.le_refl _)  e9 K) mbX5_isDigit msX5_isDigit mlX5_100 (by omega) (by decide) (dAt tX5_findToken_ok 35 rfl rfl) rfl rfl (Nat.le_of_ble_eq_true rfl) rfl rfl (by decide) (by decide) rfl ?_
        obtain ⟨Ht10, Hf10⟩ := oi H
        refine g_if_eq hF (dAt tX5_findToken_ok 36 rfl rfl) rfl (fun c10 => ?_) (fun c10 => ?_)
        · have H := Ht10 c10
          refine g_p (S' := [.int v1, .ref a]) hF tX5_findToken_ok 59 2 rfl rfl rfl rfl ?_
          obtain ⟨v11, e12, H⟩ := ob H
          refine g_cS (S := [.ref a]) hF (X5_isSign_ok (Nat.le_refl _)  e12 K) mbX5_isSign msX5_isSign mlX5_106 (by omega) (by decide) (dAt tX5_findToken_ok 61 rfl rfl) rfl rfl (Nat.le_of_ble_eq_true rfl) rfl rfl (by decide) (by decide) rfl ?_
          obtain ⟨Ht13, Hf13⟩ := oi H
          refine g_if_eq hF (dAt tX5_findToken_ok 62 rfl rfl) rfl (fun c13 => ?_) (fun c13 => ?_)
          · have H := Ht13 c13
            refine g_p (S' := [.int 2, .ref a]) hF tX5_findToken_ok 65 1 rfl rfl rfl rfl ?_
            refine g_m [false, false, true, false, false] rfl ?_
            exact X5_findToken_b111_ok hD hF hS hr1 hE H
          · have H := Hf13 c13
            refine g_p (S' := [.int v1, .ref a]) hF tX5_findToken_ok 63 1 rfl rfl rfl rfl ?_
            refine g_goto hF (dAt tX5_findToken_ok 64 rfl rfl) rfl ?_
            refine g_m [false, false, true, false, false] rfl ?_
            exact X5_findToken_b111_ok hD hF hS hr1 hE H
        · have H := Hf10 c10
          refine g_p (S' := [.int 0, .int x2, .ref r1]) hF tX5_findToken_ok 37 3 rfl rfl rfl rfl ?_
          obtain ⟨v14, e15, H⟩ := ob H
          refine g_cS (S := []) hF (X5_endOfRun_ok (Nat.le_refl _) hr1 e15 K) mbX5_endOfRun msX5_endOfRun mlX5_92 (by omega) (by decide) (dAt tX5_findToken_ok 40 rfl rfl) rfl rfl (Nat.le_of_ble_eq_true rfl) rfl rfl (by decide) (by decide) rfl ?_
          refine g_p (L' := [some (.ref a), some (.ref r1), some (.int x2), some (.int v1), some (.int v14)]) (S' := [.int 4, .int (v14 - x2), .ref a]) hF tX5_findToken_ok 41 6 rfl rfl rfl rfl ?_
          obtain ⟨Ht16, Hf16⟩ := oi H
          refine g_icmp_gt hF (dAt tX5_findToken_ok 47 rfl rfl) rfl (fun c16 => ?_) (fun c16 => ?_)
          · have H := Ht16 c16
            refine g_p (S' := [.int 2, .ref a]) hF tX5_findToken_ok 50 1 rfl rfl rfl rfl ?_
            refine g_m [false, true, true, false, true] rfl ?_
            exact X5_findToken_b84_ok hD hF hS hr1 hE H
          · have H := Hf16 c16
            refine g_p (S' := [.int 1, .ref a]) hF tX5_findToken_ok 48 1 rfl rfl rfl rfl ?_
            refine g_goto hF (dAt tX5_findToken_ok 49 rfl rfl) rfl ?_
            refine g_m [false, true, true, false, true] rfl ?_
            exact X5_findToken_b84_ok hD hF hS hr1 hE H
      · have H := Hf7 c7
        refine g_p (S' := [.int 1, .int x2, .ref r1]) hF tX5_findToken_ok 18 3 rfl rfl rfl rfl ?_
        obtain ⟨v17, e18, H⟩ := ob H
        refine g_cS (S := []) hF (X5_endOfRun_ok (Nat.le_refl _) hr1 e18 K) mbX5_endOfRun msX5_endOfRun mlX5_92 (by omega) (by decide) (dAt tX5_findToken_ok 21 rfl rfl) rfl rfl (Nat.le_of_ble_eq_true rfl) rfl rfl (by decide) (by decide) rfl ?_
        refine g_p (L' := [some (.ref a), some (.ref r1), some (.int x2), some (.int v1), some (.int v17)]) (S' := [.int v17, .int x2, .ref r1, .ref a, .ref a]) hF tX5_findToken_ok 22 6 rfl rfl rfl rfl ?_
        obtain ⟨v19, e20, H⟩ := ob H
        refine g_cV (S := [.ref a]) hF (X5_keyword_ok (Nat.le_refl _) hS hr1 e20 K) mbX5_keyword mvX5_keyword mlX5_96 (by omega) (by decide) (dAt tX5_findToken_ok 28 rfl rfl) hS.1 rfl rfl rfl (Nat.le_of_ble_eq_true rfl) rfl rfl (by decide) (by decide) rfl ?_
        refine g_p (S' := [.int 0, .int x2, .int v19, .ref a]) hF tX5_findToken_ok 29 2 rfl rfl rfl rfl ?_
        obtain ⟨s21, e22, H⟩ := ob H
        refine g_cV (S := []) hF (X5_putToken_ok (Nat.le_refl _) hS e22 K) mbX5_putToken mvX5_putToken mlX5_81 (by omega) (by decide) (dAt tX5_findToken_ok 31 rfl rfl) hS.1 rfl rfl rfl (Nat.le_of_ble_eq_true rfl) rfl rfl (by decide) (by decide) rfl ?_
        refine g_p (S' := [.int v17]) hF tX5_findToken_ok 32 1 rfl rfl rfl rfl ?_
        exact g_iret hF (en_p H hE) (dAt tX5_findToken_ok 33 rfl rfl) (by decide) (by decide)
    · have H := Ht4 c4
      refine g_p (S' := [.int (x2 + 1)]) hF tX5_findToken_ok 11 3 rfl rfl rfl rfl ?_
      exact g_iret hF (en_p H hE) (dAt tX5_findToken_ok 14 rfl rfl) (by decide) (by decide)
def X5_sum_b116 (a : Nat) (x1 : Int32) (σ : Sig) : Option (Sig) := if x1 = (-1) then (some σ) else ((X5_emit_f a x1 0 σ).bind fun s2 => some s2)
set_option maxRecDepth 4000 in
set_option maxHeartbeats 1000000 in
theorem X5_sum_b116_ok {K : Kt} {X : Cx} {D : Nat} {τ : Tau} {nx : Nat} {a : Nat} {res : Sig}  (hD : 3 ≤ D) (hF : Fx K X cX5_sum 4 RX5 D 0 0) (hS : ShX5 τ a) (hE : En K X none 0 0 none (τ, res, nx)) {x1 : Int32} {σ : Sig} (H : X5_sum_b116 a x1 σ = some res) : G K X 4 0 0 116 [some (.ref a), some (.int x1), none, none] [] (τ, σ, nx) := by
  refine g_p (S' := [.int (-1), .int x1]) hF tX5_sum_ok 61 2 rfl rfl rfl rfl ?_
  obtain ⟨Ht1, Hf1⟩ := oi H
  refine g_icmp_eq hF (dAt tX5_sum_ok 63 rfl rfl) rfl (fun c1 => ?_) (fun c1 => ?_)
  · have H := Ht1 c1
    exact g_vret hF (en_v H hE) (dAt tX5_sum_ok 68 rfl rfl) (by decide) (by decide)
  · have H := Hf1 c1
    refine g_p (S' := [.int 0, .int x1, .ref a]) hF tX5_sum_ok 64 3 rfl rfl rfl rfl ?_
    obtain ⟨s2, e3, H⟩ := ob H
    refine g_cV (S := []) hF (X5_emit_ok (Nat.le_refl _) hS e3 K) mbX5_emit mvX5_emit mlX5_144 (by omega) (by decide) (dAt tX5_sum_ok 67 rfl rfl) hS.1 rfl rfl rfl (Nat.le_of_ble_eq_true rfl) rfl rfl (by decide) (by decide) rfl ?_
    exact g_vret hF (en_v H hE) (dAt tX5_sum_ok 68 rfl rfl) (by decide) (by decide)
def X5_sum_b105 (a : Nat) (k8 : Int32 → Int32 → Sig → Option (Sig)) (x2 y0 : Int32) (σ : Sig) : Option (Sig) := (X5_unit_f a σ).bind fun s1 => k8 y0 (x2 + 1) s1
set_option maxRecDepth 4000 in
set_option maxHeartbeats 1000000 in
theorem X5_sum_b105_ok {K : Kt} {X : Cx} {D : Nat} {τ : Tau} {nx : Nat} {a : Nat} {res : Sig}  (hD : 3 ≤ D) (hF : Fx K X cX5_sum 4 RX5 D 0 0) (hS : ShX5 τ a) (hE : En K X none 0 0 none (τ, res, nx)) {k8 : Int32 → Int32 → Sig → Option (Sig)} (hk8 : ∀ (x1 x2 : Int32) (σ : Sig), k8 x1 x2 σ = some res → G K X 4 0 0 8 [some (.ref a), some (.int x1), some (.int x2), none] [] (τ, σ, nx)) {x2 y0 : Int32} {σ : Sig} (H : X5_sum_b105 a k8 x2 y0 σ = some res) : G K X 4 0 0 105 [some (.ref a), none, some (.int x2), none] [.int y0] (τ, σ, nx) := by
  refine g_p (L' := [some (.ref a), some (.int y0), some (.int x2), none]) (S' := [.ref a]) hF tX5_sum_ok 56 2 rfl rfl rfl rfl ?_
  obtain ⟨s1, e2, H⟩ := ob H
  refine g_cV (S := []) hF (X5_unit_ok (Nat.le_refl _) hS e2 K) mbX5_unit mvX5_unit mlX5_151 (by omega) (by decide) (dAt tX5_sum_ok 58 rfl rfl) hS.1 rfl rfl rfl (Nat.le_of_ble_eq_true rfl) rfl rfl (by decide) (by decide) rfl ?_
  refine g_p (L' := [some (.ref a), some (.int y0), some (.int (x2 + 1)), none]) (S' := []) hF tX5_sum_ok 59 1 rfl rfl rfl rfl ?_
  refine g_goto hF (dAt tX5_sum_ok 60 rfl rfl) rfl ?_
  exact hk8 _ _ _ H
def X5_sum_b94 (a : Nat) (k8 : Int32 → Int32 → Sig → Option (Sig)) (x2 x3 : Int32) (σ : Sig) : Option (Sig) := if x3 = 43 then (X5_sum_b105 a k8 x2 2 σ) else (X5_sum_b105 a k8 x2 3 σ)
set_option maxRecDepth 4000 in
set_option maxHeartbeats 1000000 in
theorem X5_sum_b94_ok {K : Kt} {X : Cx} {D : Nat} {τ : Tau} {nx : Nat} {a : Nat} {res : Sig}  (hD : 3 ≤ D) (hF : Fx K X cX5_sum 4 RX5 D 0 0) (hS : ShX5 τ a) (hE : En K X none 0 0 none (τ, res, nx)) {k8 : Int32 → Int32 → Sig → Option (Sig)} (hk8 : ∀ (x1 x2 : Int32) (σ : Sig), k8 x1 x2 σ = some res → G K X 4 0 0 8 [some (.ref a), some (.int x1), some (.int x2), none] [] (τ, σ, nx)) {x2 x3 : Int32} {σ : Sig} (H : X5_sum_b94 a k8 x2 x3 σ = some res) : G K X 4 0 0 94 [some (.ref a), none, some (.int x2), some (.int x3)] [] (τ, σ, nx) := by
  refine g_p (S' := [.int 43, .int x3]) hF tX5_sum_ok 50 2 rfl rfl rfl rfl ?_
  obtain ⟨Ht1, Hf1⟩ := oi H
  refine g_icmp_ne hF (dAt tX5_sum_ok 52 rfl rfl) rfl (fun c1 => ?_) (fun c1 => ?_)
  · have H := Hf1 c1
    refine g_p (S' := [.int 3]) hF tX5_sum_ok 55 1 rfl rfl rfl rfl ?_
    refine g_m [true, false, true, false] rfl ?_
    exact X5_sum_b105_ok hD hF hS hE hk8 H
  · have H := Ht1 c1
    refine g_p (S' := [.int 2]) hF tX5_sum_ok 53 1 rfl rfl rfl rfl ?_
    refine g_goto hF (dAt tX5_sum_ok 54 rfl rfl) rfl ?_
    refine g_m [true, false, true, false] rfl ?_
    exact X5_sum_b105_ok hD hF hS hE hk8 H
def X5_sum_b8 (a : Nat) : Nat → Int32 → Int32 → Sig → Option (Sig)
  | 0, _, _, _ => none
  | fu + 1, x1, x2, σ => if 400 ≤ x2 then (X5_sum_b116 a x1 σ) else (if (σ a 0) = 0 then ((ld 401 (σ (a + 4)) (σ a 12)).bind fun v3 => (X5_isReckoning_f v3 σ).bind fun v5 => if v5 = 0 then (X5_sum_b116 a x1 σ) else ((ld 401 (σ (a + 4)) (σ a 12)).bind fun v8 => (X5_step_f a σ).bind fun s10 => if v8 = 47 then ((X5_divisor_f a s10).bind fun s21 => X5_sum_b8 a fu x1 (x2 + 1) s21) else (if v8 = 42 then ((X5_unit_f a s10).bind fun s17 => (X5_emit_f a 4 0 s17).bind fun s19 => X5_sum_b8 a fu x1 (x2 + 1) s19) else (if x1 = (-1) then (X5_sum_b94 a (X5_sum_b8 a fu) x2 v8 s10) else ((X5_emit_f a x1 0 s10).bind fun s15 => X5_sum_b94 a (X5_sum_b8 a fu) x2 v8 s15))))) else (X5_sum_b116 a x1 σ))
set_option maxRecDepth 4000 in
set_option maxHeartbeats 1000000 in
theorem X5_sum_b8_ok {K : Kt} {X : Cx} {D : Nat} {τ : Tau} {nx : Nat} {a : Nat} {res : Sig}  (hD : 3 ≤ D) (hF : Fx K X cX5_sum 4 RX5 D 0 0) (hS : ShX5 τ a) (hE : En K X none 0 0 none (τ, res, nx)) : ∀ (fu : Nat) (x1 x2 : Int32) (σ : Sig), X5_sum_b8 a fu x1 x2 σ = some res → G K X 4 0 0 8 [some (.ref a), some (.int x1), some (.int x2), none] [] (τ, σ, nx)
  | 0, _, _, _, H => nomatch H
  | fu + 1, x1, x2, σ, H => by
    refine g_p (S' := [.int 400, .int x2]) hF tX5_sum_ok 6 2 rfl rfl rfl rfl ?_
    obtain ⟨Ht1, Hf1⟩ := oi H
    refine g_icmp_ge hF (dAt tX5_sum_ok 8 rfl rfl) rfl (fun c1 => ?_) (fun c1 => ?_)
    · have H := Ht1 c1
      refine g_m [true, true, false, false] rfl ?_
      exact X5_sum_b116_ok hD hF hS hE H
    · have H := Hf1 c1
      refine g_p (S' := [.ref a]) hF tX5_sum_ok 9 1 rfl rfl rfl rfl ?_
      refine g_getI hF (dAt tX5_sum_ok 10 rfl rfl) flX5_34 hS.1 rfl ?_
      obtain ⟨Ht2, Hf2⟩ := oi H
      refine g_if_ne hF (dAt tX5_sum_ok 11 rfl rfl) rfl (fun c2 => ?_) (fun c2 => ?_)
      · have H := Hf2 c2
        refine g_m [true, true, false, false] rfl ?_
        exact X5_sum_b116_ok hD hF hS hE H
      · have H := Ht2 c2
        refine g_p (S' := [.ref a]) hF tX5_sum_ok 12 1 rfl rfl rfl rfl ?_
        refine g_getR hF (dAt tX5_sum_ok 13 rfl rfl) flX5_25 hS.1 rfl ?_
        refine g_p (S' := [.ref a, .ref (a + 4)]) hF tX5_sum_ok 14 1 rfl rfl rfl rfl ?_
        refine g_getI hF (dAt tX5_sum_ok 15 rfl rfl) flX5_54 hS.1 rfl ?_
        obtain ⟨v3, e4, H⟩ := ob H
        refine g_ild hF (dAt tX5_sum_ok 16 rfl rfl) hS.2.2.2.2.1 e4 ?_
        obtain ⟨v5, e6, H⟩ := ob H
        refine g_cS (S := []) hF (X5_isReckoning_ok (Nat.le_refl _)  e6 K) mbX5_isReckoning msX5_isReckoning mlX5_154 (by omega) (by decide) (dAt tX5_sum_ok 17 rfl rfl) rfl rfl (Nat.le_of_ble_eq_true rfl) rfl rfl (by decide) (by decide) rfl ?_
        obtain ⟨Ht7, Hf7⟩ := oi H
        refine g_if_eq hF (dAt tX5_sum_ok 18 rfl rfl) rfl (fun c7 => ?_) (fun c7 => ?_)
        · have H := Ht7 c7
          refine g_m [true, true, false, false] rfl ?_
          exact X5_sum_b116_ok hD hF hS hE H
        · have H := Hf7 c7
          refine g_p (S' := [.ref a]) hF tX5_sum_ok 19 1 rfl rfl rfl rfl ?_
          refine g_getR hF (dAt tX5_sum_ok 20 rfl rfl) flX5_25 hS.1 rfl ?_
          refine g_p (S' := [.ref a, .ref (a + 4)]) hF tX5_sum_ok 21 1 rfl rfl rfl rfl ?_
          refine g_getI hF (dAt tX5_sum_ok 22 rfl rfl) flX5_54 hS.1 rfl ?_
          obtain ⟨v8, e9, H⟩ := ob H
          refine g_ild hF (dAt tX5_sum_ok 23 rfl rfl) hS.2.2.2.2.1 e9 ?_
          refine g_p (L' := [some (.ref a), some (.int x1), some (.int x2), some (.int v8)]) (S' := [.ref a]) hF tX5_sum_ok 24 2 rfl rfl rfl rfl ?_
          obtain ⟨s10, e11, H⟩ := ob H
          refine g_cV (S := []) hF (X5_step_ok (Nat.le_refl _) hS e11 K) mbX5_step mvX5_step mlX5_126 (by omega) (by decide) (dAt tX5_sum_ok 26 rfl rfl) hS.1 rfl rfl rfl (Nat.le_of_ble_eq_true rfl) rfl rfl (by decide) (by decide) rfl ?_
          refine g_p (S' := [.int 47, .int v8]) hF tX5_sum_ok 27 2 rfl rfl rfl rfl ?_
          obtain ⟨Ht12, Hf12⟩ := oi H
          refine g_icmp_ne hF (dAt tX5_sum_ok 29 rfl rfl) rfl (fun c12 => ?_) (fun c12 => ?_)
          · have H := Hf12 c12
            refine g_p (S' := [.int 42, .int v8]) hF tX5_sum_ok 33 2 rfl rfl rfl rfl ?_
            obtain ⟨Ht13, Hf13⟩ := oi H
            refine g_icmp_ne hF (dAt tX5_sum_ok 35 rfl rfl) rfl (fun c13 => ?_) (fun c13 => ?_)
            · have H := Hf13 c13
              refine g_p (S' := [.int (-1), .int x1]) hF tX5_sum_ok 43 2 rfl rfl rfl rfl ?_
              obtain ⟨Ht14, Hf14⟩ := oi H
              refine g_icmp_eq hF (dAt tX5_sum_ok 45 rfl rfl) rfl (fun c14 => ?_) (fun c14 => ?_)
              · have H := Ht14 c14
                refine g_m [true, false, true, true] rfl ?_
                exact X5_sum_b94_ok hD hF hS hE (fun _ _ _ H => X5_sum_b8_ok hD hF hS hE fu _ _ _ H) H
              · have H := Hf14 c14
                refine g_p (S' := [.int 0, .int x1, .ref a]) hF tX5_sum_ok 46 3 rfl rfl rfl rfl ?_
                obtain ⟨s15, e16, H⟩ := ob H
                refine g_cV (S := []) hF (X5_emit_ok (Nat.le_refl _) hS e16 K) mbX5_emit mvX5_emit mlX5_144 (by omega) (by decide) (dAt tX5_sum_ok 49 rfl rfl) hS.1 rfl rfl rfl (Nat.le_of_ble_eq_true rfl) rfl rfl (by decide) (by decide) rfl ?_
                refine g_m [true, false, true, true] rfl ?_
                exact X5_sum_b94_ok hD hF hS hE (fun _ _ _ H => X5_sum_b8_ok hD hF hS hE fu _ _ _ H) H
            · have H := Ht13 c13
              refine g_p (S' := [.ref a]) hF tX5_sum_ok 36 1 rfl rfl rfl rfl ?_
              obtain ⟨s17, e18, H⟩ := ob H
              refine g_cV (S := []) hF (X5_unit_ok (Nat.le_refl _) hS e18 K) mbX5_unit mvX5_unit mlX5_151 (by omega) (by decide) (dAt tX5_sum_ok 37 rfl rfl) hS.1 rfl rfl rfl (Nat.le_of_ble_eq_true rfl) rfl rfl (by decide) (by decide) rfl ?_
              refine g_p (S' := [.int 0, .int 4, .ref a]) hF tX5_sum_ok 38 3 rfl rfl rfl rfl ?_
              obtain ⟨s19, e20, H⟩ := ob H
              refine g_cV (S := []) hF (X5_emit_ok (Nat.le_refl _) hS e20 K) mbX5_emit mvX5_emit mlX5_144 (by omega) (by decide) (dAt tX5_sum_ok 41 rfl rfl) hS.1 rfl rfl rfl (Nat.le_of_ble_eq_true rfl) rfl rfl (by decide) (by decide) rfl ?_
              refine g_goto hF (dAt tX5_sum_ok 42 rfl rfl) rfl ?_
              refine g_p (L' := [some (.ref a), some (.int x1), some (.int (x2 + 1)), some (.int v8)]) (S' := []) hF tX5_sum_ok 59 1 rfl rfl rfl rfl ?_
              refine g_goto hF (dAt tX5_sum_ok 60 rfl rfl) rfl ?_
              refine g_m [true, true, true, false] rfl ?_
              exact X5_sum_b8_ok hD hF hS hE fu _ _ _ H
          · have H := Ht12 c12
            refine g_p (S' := [.ref a]) hF tX5_sum_ok 30 1 rfl rfl rfl rfl ?_
            obtain ⟨s21, e22, H⟩ := ob H
            refine g_cV (S := []) hF (X5_divisor_ok (Nat.le_refl _) hS e22 K) mbX5_divisor mvX5_divisor mlX5_157 (by omega) (by decide) (dAt tX5_sum_ok 31 rfl rfl) hS.1 rfl rfl rfl (Nat.le_of_ble_eq_true rfl) rfl rfl (by decide) (by decide) rfl ?_
            refine g_goto hF (dAt tX5_sum_ok 32 rfl rfl) rfl ?_
            refine g_p (L' := [some (.ref a), some (.int x1), some (.int (x2 + 1)), some (.int v8)]) (S' := []) hF tX5_sum_ok 59 1 rfl rfl rfl rfl ?_
            refine g_goto hF (dAt tX5_sum_ok 60 rfl rfl) rfl ?_
            refine g_m [true, true, true, false] rfl ?_
            exact X5_sum_b8_ok hD hF hS hE fu _ _ _ H
def X5_sum_f (a : Nat) (σ : Sig) : Option (Sig) := (X5_unit_f a σ).bind fun s1 => X5_sum_b8 a FU (-1) 0 s1
set_option maxRecDepth 4000 in
set_option maxHeartbeats 1000000 in
theorem X5_sum_ok {D : Nat} {τ : Tau} {nx : Nat} {a : Nat} {σ : Sig} {res : Sig} (hD : 3 ≤ D) (hS : ShX5 τ a) (H : X5_sum_f a σ = some res) : Ok D 0 0 yX5_sum cX5_sum 4 none [.ref a] (τ, σ, nx) none (τ, res, nx) := by
  refine ok_of (by decide +kernel) rfl (Nat.le_of_ble_eq_true rfl) (fun K X hF hE hN L0 hL0 => ?_)
  obtain rfl : [some (.ref a), none, none, none] = L0 := hL0
  have hF : Fx K X cX5_sum 4 RX5 D 0 0 := hF
  refine g_p (S' := [.ref a]) hF tX5_sum_ok 0 1 rfl rfl rfl rfl ?_
  obtain ⟨s1, e2, H⟩ := ob H
  refine g_cV (S := []) hF (X5_unit_ok (Nat.le_refl _) hS e2 K) mbX5_unit mvX5_unit mlX5_151 (by omega) (by decide) (dAt tX5_sum_ok 1 rfl rfl) hS.1 rfl rfl rfl (Nat.le_of_ble_eq_true rfl) rfl rfl (by decide) (by decide) rfl ?_
  refine g_p (L' := [some (.ref a), some (.int (-1)), some (.int 0), none]) (S' := []) hF tX5_sum_ok 2 4 rfl rfl rfl rfl ?_
  exact X5_sum_b8_ok hD hF hS hE FU _ _ _ H
def X5_findTokens_b37 (a : Nat) (r1 : Nat) (σ : Sig) : Option (Sig) := (X5_putToken_f a 0 (σ r1 1) 0 σ).bind fun s1 => some s1
set_option maxRecDepth 4000 in
set_option maxHeartbeats 1000000 in
theorem X5_findTokens_b37_ok {K : Kt} {X : Cx} {D : Nat} {τ : Tau} {nx : Nat} {a : Nat} {r1 : Nat} {res : Sig}  (hD : 7 ≤ D) (hF : Fx K X cX5_findTokens 4 RX5 D 0 0) (hS : ShX5 τ a) (hr1 : ShX6 τ r1) (hE : En K X none 0 0 none (τ, res, nx)) {σ : Sig} (H : X5_findTokens_b37 a r1 σ = some res) : G K X 4 0 0 37 [some (.ref a), some (.ref r1), none, none] [] (τ, σ, nx) := by
  refine g_p (S' := [.ref r1, .int 0, .ref a]) hF tX5_findTokens_ok 21 3 rfl rfl rfl rfl ?_
  refine g_getI hF (dAt tX5_findTokens_ok 24 rfl rfl) flX5_74 hr1.1 rfl ?_
  refine g_p (S' := [.int 0, .int (σ r1 1), .int 0, .ref a]) hF tX5_findTokens_ok 25 1 rfl rfl rfl rfl ?_
  obtain ⟨s1, e2, H⟩ := ob H
  refine g_cV (S := []) hF (X5_putToken_ok (Nat.le_refl _) hS e2 K) mbX5_putToken mvX5_putToken mlX5_81 (by omega) (by decide) (dAt tX5_findTokens_ok 26 rfl rfl) hS.1 rfl rfl rfl (Nat.le_of_ble_eq_true rfl) rfl rfl (by decide) (by decide) rfl ?_
  exact g_vret hF (en_v H hE) (dAt tX5_findTokens_ok 27 rfl rfl) (by decide) (by decide)
def X5_findTokens_b9 (a : Nat) (r1 : Nat) : Nat → Int32 → Int32 → Sig → Option (Sig)
  | 0, _, _, _ => none
  | fu + 1, x2, x3, σ => if 400 ≤ x3 then (X5_findTokens_b37 a r1 σ) else (if (σ r1 1) ≤ x2 then (X5_findTokens_b37 a r1 σ) else ((X5_findToken_f a r1 x2 σ).bind fun ⟨v3, s4⟩ => X5_findTokens_b9 a r1 fu v3 (x3 + 1) s4))
set_option maxRecDepth 4000 in
set_option maxHeartbeats 1000000 in
theorem X5_findTokens_b9_ok {K : Kt} {X : Cx} {D : Nat} {τ : Tau} {nx : Nat} {a : Nat} {r1 : Nat} {res : Sig}  (hD : 7 ≤ D) (hF : Fx K X cX5_findTokens 4 RX5 D 0 0) (hS : ShX5 τ a) (hr1 : ShX6 τ r1) (hE : En K X none 0 0 none (τ, res, nx)) : ∀ (fu : Nat) (x2 x3 : Int32) (σ : Sig), X5_findTokens_b9 a r1 fu x2 x3 σ = some res → G K X 4 0 0 9 [some (.ref a), some (.ref r1), some (.int x2), some (.int x3)] [] (τ, σ, nx)
  | 0, _, _, _, H => nomatch H
  | fu + 1, x2, x3, σ, H => by
    refine g_p (S' := [.int 400, .int x3]) hF tX5_findTokens_ok 7 2 rfl rfl rfl rfl ?_
    obtain ⟨Ht1, Hf1⟩ := oi H
    refine g_icmp_ge hF (dAt tX5_findTokens_ok 9 rfl rfl) rfl (fun c1 => ?_) (fun c1 => ?_)
    · have H := Ht1 c1
      refine g_m [true, true, false, false] rfl ?_
      exact X5_findTokens_b37_ok hD hF hS hr1 hE H
    · have H := Hf1 c1
      refine g_p (S' := [.ref r1, .int x2]) hF tX5_findTokens_ok 10 2 rfl rfl rfl rfl ?_
      refine g_getI hF (dAt tX5_findTokens_ok 12 rfl rfl) flX5_74 hr1.1 rfl ?_
      obtain ⟨Ht2, Hf2⟩ := oi H
      refine g_icmp_ge hF (dAt tX5_findTokens_ok 13 rfl rfl) rfl (fun c2 => ?_) (fun c2 => ?_)
      · have H := Ht2 c2
        refine g_m [true, true, false, false] rfl ?_
        exact X5_findTokens_b37_ok hD hF hS hr1 hE H
      · have H := Hf2 c2
        refine g_p (S' := [.int x2, .ref r1, .ref a]) hF tX5_findTokens_ok 14 3 rfl rfl rfl rfl ?_
        obtain ⟨⟨v3, s4⟩, e5, H⟩ := ob H
        refine g_cV (S := []) hF (X5_findToken_ok (Nat.le_refl _) hS hr1 e5 K) mbX5_findToken mvX5_findToken mlX5_77 (by omega) (by decide) (dAt tX5_findTokens_ok 17 rfl rfl) hS.1 rfl rfl rfl (Nat.le_of_ble_eq_true rfl) rfl rfl (by decide) (by decide) rfl ?_
        refine g_p (L' := [some (.ref a), some (.ref r1), some (.int v3), some (.int (x3 + 1))]) (S' := []) hF tX5_findTokens_ok 18 2 rfl rfl rfl rfl ?_
        refine g_goto hF (dAt tX5_findTokens_ok 20 rfl rfl) rfl ?_
        exact X5_findTokens_b9_ok hD hF hS hr1 hE fu _ _ _ H
def X5_findTokens_f (a : Nat) (r1 : Nat) (σ : Sig) : Option (Sig) := (pI σ a 11 0).bind fun s1 => X5_findTokens_b9 a r1 FU 0 0 s1
set_option maxRecDepth 4000 in
set_option maxHeartbeats 1000000 in
theorem X5_findTokens_ok {D : Nat} {τ : Tau} {nx : Nat} {a : Nat} {r1 : Nat} {σ : Sig} {res : Sig} (hD : 7 ≤ D) (hS : ShX5 τ a) (hr1 : ShX6 τ r1) (H : X5_findTokens_f a r1 σ = some res) : Ok D 0 0 yX5_findTokens cX5_findTokens 4 none [.ref a, .ref r1] (τ, σ, nx) none (τ, res, nx) := by
  refine ok_of (by decide +kernel) rfl (Nat.le_of_ble_eq_true rfl) (fun K X hF hE hN L0 hL0 => ?_)
  obtain rfl : [some (.ref a), some (.ref r1), none, none] = L0 := hL0
  have hF : Fx K X cX5_findTokens 4 RX5 D 0 0 := hF
  refine g_p (S' := [.int 0, .ref a]) hF tX5_findTokens_ok 0 2 rfl rfl rfl rfl ?_
  obtain ⟨s1, e2, H⟩ := ob H
  refine g_pI hF (dAt tX5_findTokens_ok 2 rfl rfl) flX5_71 (Or.inl rfl) hS.1 rfl e2 ?_
  refine g_p (L' := [some (.ref a), some (.ref r1), some (.int 0), some (.int 0)]) (S' := []) hF tX5_findTokens_ok 3 4 rfl rfl rfl rfl ?_
  exact X5_findTokens_b9_ok hD hF hS hr1 hE FU _ _ _ H

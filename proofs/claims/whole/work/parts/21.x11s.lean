/-! The static helpers. -/
def X11_isWithin_f (x0 x1 x2 : Int32) (σ : Sig) : Option (Int32) := if x0 < x1 then (some 0) else (if x2 < x0 then (some 0) else (some 1))
set_option maxRecDepth 4000 in
set_option maxHeartbeats 1000000 in
theorem X11_isWithin_ok {D : Nat} {τ : Tau} {nx : Nat} {x0 x1 x2 : Int32} {σ : Sig} {res : Int32} (hD : 1 ≤ D) (H : X11_isWithin_f x0 x1 x2 σ = some res) : Ok D 0 0 yX11_isWithin cX11_isWithin 3 (some .boolean) [.int x0, .int x1, .int x2] (τ, σ, nx) (some (.int res)) (τ, σ, nx) := by
  refine ok_of (by decide +kernel) rfl (Nat.le_of_ble_eq_true rfl) (fun K X hF hE hN L0 hL0 => ?_)
  obtain rfl : [some (.int x0), some (.int x1), some (.int x2)] = L0 := hL0
  have hF : Fx K X cX11_isWithin 3 RX11 D 0 0 := hF
  refine g_p (S' := [.int x1, .int x0]) hF tX11_isWithin_ok 0 2 rfl rfl rfl rfl ?_
  obtain ⟨Ht1, Hf1⟩ := oi H
  refine g_icmp_lt hF (dAt tX11_isWithin_ok 2 rfl rfl) rfl (fun c1 => ?_) (fun c1 => ?_)
  · have H := Ht1 c1
    refine g_p (S' := [.int 0]) hF tX11_isWithin_ok 8 1 rfl rfl rfl rfl ?_
    exact g_zret hF (en_i H hE) (Or.inl rfl) (dAt tX11_isWithin_ok 9 rfl rfl) (by decide) (by decide)
  · have H := Hf1 c1
    refine g_p (S' := [.int x2, .int x0]) hF tX11_isWithin_ok 3 2 rfl rfl rfl rfl ?_
    obtain ⟨Ht2, Hf2⟩ := oi H
    refine g_icmp_gt hF (dAt tX11_isWithin_ok 5 rfl rfl) rfl (fun c2 => ?_) (fun c2 => ?_)
    · have H := Ht2 c2
      refine g_p (S' := [.int 0]) hF tX11_isWithin_ok 8 1 rfl rfl rfl rfl ?_
      exact g_zret hF (en_i H hE) (Or.inl rfl) (dAt tX11_isWithin_ok 9 rfl rfl) (by decide) (by decide)
    · have H := Hf2 c2
      refine g_p (S' := [.int 1]) hF tX11_isWithin_ok 6 1 rfl rfl rfl rfl ?_
      refine g_goto hF (dAt tX11_isWithin_ok 7 rfl rfl) rfl ?_
      exact g_zret hF (en_i H hE) (Or.inr rfl) (dAt tX11_isWithin_ok 9 rfl rfl) (by decide) (by decide)
def X11_isPlace_f (x0 : Int32) (σ : Sig) : Option (Int32) := if x0 < 0 then (some 0) else (if 6 ≤ x0 then (some 0) else (some 1))
set_option maxRecDepth 4000 in
set_option maxHeartbeats 1000000 in
theorem X11_isPlace_ok {D : Nat} {τ : Tau} {nx : Nat} {x0 : Int32} {σ : Sig} {res : Int32} (hD : 1 ≤ D) (H : X11_isPlace_f x0 σ = some res) : Ok D 0 0 yX11_isPlace cX11_isPlace 1 (some .boolean) [.int x0] (τ, σ, nx) (some (.int res)) (τ, σ, nx) := by
  refine ok_of (by decide +kernel) rfl (Nat.le_of_ble_eq_true rfl) (fun K X hF hE hN L0 hL0 => ?_)
  obtain rfl : [some (.int x0)] = L0 := hL0
  have hF : Fx K X cX11_isPlace 1 RX11 D 0 0 := hF
  refine g_p (S' := [.int x0]) hF tX11_isPlace_ok 0 1 rfl rfl rfl rfl ?_
  obtain ⟨Ht1, Hf1⟩ := oi H
  refine g_if_lt hF (dAt tX11_isPlace_ok 1 rfl rfl) rfl (fun c1 => ?_) (fun c1 => ?_)
  · have H := Ht1 c1
    refine g_p (S' := [.int 0]) hF tX11_isPlace_ok 7 1 rfl rfl rfl rfl ?_
    exact g_zret hF (en_i H hE) (Or.inl rfl) (dAt tX11_isPlace_ok 8 rfl rfl) (by decide) (by decide)
  · have H := Hf1 c1
    refine g_p (S' := [.int 6, .int x0]) hF tX11_isPlace_ok 2 2 rfl rfl rfl rfl ?_
    obtain ⟨Ht2, Hf2⟩ := oi H
    refine g_icmp_ge hF (dAt tX11_isPlace_ok 4 rfl rfl) rfl (fun c2 => ?_) (fun c2 => ?_)
    · have H := Ht2 c2
      refine g_p (S' := [.int 0]) hF tX11_isPlace_ok 7 1 rfl rfl rfl rfl ?_
      exact g_zret hF (en_i H hE) (Or.inl rfl) (dAt tX11_isPlace_ok 8 rfl rfl) (by decide) (by decide)
    · have H := Hf2 c2
      refine g_p (S' := [.int 1]) hF tX11_isPlace_ok 5 1 rfl rfl rfl rfl ?_
      refine g_goto hF (dAt tX11_isPlace_ok 6 rfl rfl) rfl ?_
      exact g_zret hF (en_i H hE) (Or.inr rfl) (dAt tX11_isPlace_ok 8 rfl rfl) (by decide) (by decide)
def X11_isHour_f (x0 : Int32) (σ : Sig) : Option (Int32) := if x0 < 0 then (some 0) else (if 24 ≤ x0 then (some 0) else (some 1))
set_option maxRecDepth 4000 in
set_option maxHeartbeats 1000000 in
theorem X11_isHour_ok {D : Nat} {τ : Tau} {nx : Nat} {x0 : Int32} {σ : Sig} {res : Int32} (hD : 1 ≤ D) (H : X11_isHour_f x0 σ = some res) : Ok D 0 0 yX11_isHour cX11_isHour 1 (some .boolean) [.int x0] (τ, σ, nx) (some (.int res)) (τ, σ, nx) := by
  refine ok_of (by decide +kernel) rfl (Nat.le_of_ble_eq_true rfl) (fun K X hF hE hN L0 hL0 => ?_)
  obtain rfl : [some (.int x0)] = L0 := hL0
  have hF : Fx K X cX11_isHour 1 RX11 D 0 0 := hF
  refine g_p (S' := [.int x0]) hF tX11_isHour_ok 0 1 rfl rfl rfl rfl ?_
  obtain ⟨Ht1, Hf1⟩ := oi H
  refine g_if_lt hF (dAt tX11_isHour_ok 1 rfl rfl) rfl (fun c1 => ?_) (fun c1 => ?_)
  · have H := Ht1 c1
    refine g_p (S' := [.int 0]) hF tX11_isHour_ok 7 1 rfl rfl rfl rfl ?_
    exact g_zret hF (en_i H hE) (Or.inl rfl) (dAt tX11_isHour_ok 8 rfl rfl) (by decide) (by decide)
  · have H := Hf1 c1
    refine g_p (S' := [.int 24, .int x0]) hF tX11_isHour_ok 2 2 rfl rfl rfl rfl ?_
    obtain ⟨Ht2, Hf2⟩ := oi H
    refine g_icmp_ge hF (dAt tX11_isHour_ok 4 rfl rfl) rfl (fun c2 => ?_) (fun c2 => ?_)
    · have H := Ht2 c2
      refine g_p (S' := [.int 0]) hF tX11_isHour_ok 7 1 rfl rfl rfl rfl ?_
      exact g_zret hF (en_i H hE) (Or.inl rfl) (dAt tX11_isHour_ok 8 rfl rfl) (by decide) (by decide)
    · have H := Hf2 c2
      refine g_p (S' := [.int 1]) hF tX11_isHour_ok 5 1 rfl rfl rfl rfl ?_
      refine g_goto hF (dAt tX11_isHour_ok 6 rfl rfl) rfl ?_
      exact g_zret hF (en_i H hE) (Or.inr rfl) (dAt tX11_isHour_ok 8 rfl rfl) (by decide) (by decide)
def X11_isLaw_f (x0 : Int32) (σ : Sig) : Option (Int32) := if x0 < 0 then (some 0) else (if 2 ≤ x0 then (some 0) else (some 1))
set_option maxRecDepth 4000 in
set_option maxHeartbeats 1000000 in
theorem X11_isLaw_ok {D : Nat} {τ : Tau} {nx : Nat} {x0 : Int32} {σ : Sig} {res : Int32} (hD : 1 ≤ D) (H : X11_isLaw_f x0 σ = some res) : Ok D 0 0 yX11_isLaw cX11_isLaw 1 (some .boolean) [.int x0] (τ, σ, nx) (some (.int res)) (τ, σ, nx) := by
  refine ok_of (by decide +kernel) rfl (Nat.le_of_ble_eq_true rfl) (fun K X hF hE hN L0 hL0 => ?_)
  obtain rfl : [some (.int x0)] = L0 := hL0
  have hF : Fx K X cX11_isLaw 1 RX11 D 0 0 := hF
  refine g_p (S' := [.int x0]) hF tX11_isLaw_ok 0 1 rfl rfl rfl rfl ?_
  obtain ⟨Ht1, Hf1⟩ := oi H
  refine g_if_lt hF (dAt tX11_isLaw_ok 1 rfl rfl) rfl (fun c1 => ?_) (fun c1 => ?_)
  · have H := Ht1 c1
    refine g_p (S' := [.int 0]) hF tX11_isLaw_ok 7 1 rfl rfl rfl rfl ?_
    exact g_zret hF (en_i H hE) (Or.inl rfl) (dAt tX11_isLaw_ok 8 rfl rfl) (by decide) (by decide)
  · have H := Hf1 c1
    refine g_p (S' := [.int 2, .int x0]) hF tX11_isLaw_ok 2 2 rfl rfl rfl rfl ?_
    obtain ⟨Ht2, Hf2⟩ := oi H
    refine g_icmp_ge hF (dAt tX11_isLaw_ok 4 rfl rfl) rfl (fun c2 => ?_) (fun c2 => ?_)
    · have H := Ht2 c2
      refine g_p (S' := [.int 0]) hF tX11_isLaw_ok 7 1 rfl rfl rfl rfl ?_
      exact g_zret hF (en_i H hE) (Or.inl rfl) (dAt tX11_isLaw_ok 8 rfl rfl) (by decide) (by decide)
    · have H := Hf2 c2
      refine g_p (S' := [.int 1]) hF tX11_isLaw_ok 5 1 rfl rfl rfl rfl ?_
      refine g_goto hF (dAt tX11_isLaw_ok 6 rfl rfl) rfl ?_
      exact g_zret hF (en_i H hE) (Or.inr rfl) (dAt tX11_isLaw_ok 8 rfl rfl) (by decide) (by decide)
def X11_isNightIn_f (x0 : Int32) (σ : Sig) : Option (Int32) := if x0 < 6 then (some 1) else (if x0 < 22 then (some 0) else (some 1))
set_option maxRecDepth 4000 in
set_option maxHeartbeats 1000000 in
theorem X11_isNightIn_ok {D : Nat} {τ : Tau} {nx : Nat} {x0 : Int32} {σ : Sig} {res : Int32} (hD : 1 ≤ D) (H : X11_isNightIn_f x0 σ = some res) : Ok D 0 0 yX11_isNightIn cX11_isNightIn 1 (some .boolean) [.int x0] (τ, σ, nx) (some (.int res)) (τ, σ, nx) := by
  refine ok_of (by decide +kernel) rfl (Nat.le_of_ble_eq_true rfl) (fun K X hF hE hN L0 hL0 => ?_)
  obtain rfl : [some (.int x0)] = L0 := hL0
  have hF : Fx K X cX11_isNightIn 1 RX11 D 0 0 := hF
  refine g_p (S' := [.int 6, .int x0]) hF tX11_isNightIn_ok 0 2 rfl rfl rfl rfl ?_
  obtain ⟨Ht1, Hf1⟩ := oi H
  refine g_icmp_lt hF (dAt tX11_isNightIn_ok 2 rfl rfl) rfl (fun c1 => ?_) (fun c1 => ?_)
  · have H := Ht1 c1
    refine g_p (S' := [.int 1]) hF tX11_isNightIn_ok 6 1 rfl rfl rfl rfl ?_
    refine g_goto hF (dAt tX11_isNightIn_ok 7 rfl rfl) rfl ?_
    exact g_zret hF (en_i H hE) (Or.inr rfl) (dAt tX11_isNightIn_ok 9 rfl rfl) (by decide) (by decide)
  · have H := Hf1 c1
    refine g_p (S' := [.int 22, .int x0]) hF tX11_isNightIn_ok 3 2 rfl rfl rfl rfl ?_
    obtain ⟨Ht2, Hf2⟩ := oi H
    refine g_icmp_lt hF (dAt tX11_isNightIn_ok 5 rfl rfl) rfl (fun c2 => ?_) (fun c2 => ?_)
    · have H := Ht2 c2
      refine g_p (S' := [.int 0]) hF tX11_isNightIn_ok 8 1 rfl rfl rfl rfl ?_
      exact g_zret hF (en_i H hE) (Or.inl rfl) (dAt tX11_isNightIn_ok 9 rfl rfl) (by decide) (by decide)
    · have H := Hf2 c2
      refine g_p (S' := [.int 1]) hF tX11_isNightIn_ok 6 1 rfl rfl rfl rfl ?_
      refine g_goto hF (dAt tX11_isNightIn_ok 7 rfl rfl) rfl ?_
      exact g_zret hF (en_i H hE) (Or.inr rfl) (dAt tX11_isNightIn_ok 9 rfl rfl) (by decide) (by decide)
def X11_upwards_f (x0 x1 : Int32) (σ : Sig) : Option (Int32) := if x1 ≤ 0 then (some 0) else (if x1 = 0 then none else (some (((x0 + x1) - 1) / x1)))
set_option maxRecDepth 4000 in
set_option maxHeartbeats 1000000 in
theorem X11_upwards_ok {D : Nat} {τ : Tau} {nx : Nat} {x0 x1 : Int32} {σ : Sig} {res : Int32} (hD : 1 ≤ D) (H : X11_upwards_f x0 x1 σ = some res) : Ok D 0 0 yX11_upwards cX11_upwards 2 (some .int) [.int x0, .int x1] (τ, σ, nx) (some (.int res)) (τ, σ, nx) := by
  refine ok_of (by decide +kernel) rfl (Nat.le_of_ble_eq_true rfl) (fun K X hF hE hN L0 hL0 => ?_)
  obtain rfl : [some (.int x0), some (.int x1)] = L0 := hL0
  have hF : Fx K X cX11_upwards 2 RX11 D 0 0 := hF
  refine g_p (S' := [.int x1]) hF tX11_upwards_ok 0 1 rfl rfl rfl rfl ?_
  obtain ⟨Ht1, Hf1⟩ := oi H
  refine g_if_le hF (dAt tX11_upwards_ok 1 rfl rfl) rfl (fun c1 => ?_) (fun c1 => ?_)
  · have H := Ht1 c1
    refine g_p (S' := [.int 0]) hF tX11_upwards_ok 10 1 rfl rfl rfl rfl ?_
    exact g_iret hF (en_i H hE) (dAt tX11_upwards_ok 11 rfl rfl) (by decide) (by decide)
  · have H := Hf1 c1
    refine g_p (S' := [.int x1, .int ((x0 + x1) - 1)]) hF tX11_upwards_ok 2 6 rfl rfl rfl rfl ?_
    obtain ⟨z2, H⟩ := on H
    refine g_idiv hF (dAt tX11_upwards_ok 8 rfl rfl) z2 ?_
    refine g_goto hF (dAt tX11_upwards_ok 9 rfl rfl) rfl ?_
    exact g_iret hF (en_i H hE) (dAt tX11_upwards_ok 11 rfl rfl) (by decide) (by decide)

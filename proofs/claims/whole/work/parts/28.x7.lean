/-! SilenceForMoney$Text -/
def X7_deedOf_f (a : Nat) (n1 : Nat) (n2 : Nat) (n3 : Nat) (x1 : Int32) (σ : Sig) : Option (Int32) := if x1 < 0 then (some 0) else (if (Int32.ofNat n2) ≤ x1 then (some 0) else ((ld n2 (σ (a + 2)) x1).bind fun v3 => some v3))
set_option maxRecDepth 4000 in
set_option maxHeartbeats 1000000 in
theorem X7_deedOf_ok {D : Nat} {τ : Tau} {nx : Nat} {a : Nat} {n1 : Nat} {n2 : Nat} {n3 : Nat} {x1 : Int32} {σ : Sig} {res : Int32} (hD : 1 ≤ D) (hS : ShX7 τ a n1 n2 n3) (H : X7_deedOf_f a n1 n2 n3 x1 σ = some res) : Ok D 0 0 yX7_deedOf cX7_deedOf 2 (some .int) [.ref a, .int x1] (τ, σ, nx) (some (.int res)) (τ, σ, nx) := by
  refine ok_of (by decide +kernel) rfl (Nat.le_of_ble_eq_true rfl) (fun K X hF hE hN L0 hL0 => ?_)
  obtain rfl : [some (.ref a), some (.int x1)] = L0 := hL0
  have hF : Fx K X cX7_deedOf 2 RX7 D 0 0 := hF
  refine g_p (S' := [.int x1]) hF tX7_deedOf_ok 0 1 rfl rfl rfl rfl ?_
  obtain ⟨Ht1, Hf1⟩ := oi H
  refine g_if_lt hF (dAt tX7_deedOf_ok 1 rfl rfl) rfl (fun c1 => ?_) (fun c1 => ?_)
  · have H := Ht1 c1
    refine g_p (S' := [.int 0]) hF tX7_deedOf_ok 12 1 rfl rfl rfl rfl ?_
    exact g_iret hF (en_i H hE) (dAt tX7_deedOf_ok 13 rfl rfl) (by decide) (by decide)
  · have H := Hf1 c1
    refine g_p (S' := [.ref a, .int x1]) hF tX7_deedOf_ok 2 2 rfl rfl rfl rfl ?_
    refine g_getR hF (dAt tX7_deedOf_ok 4 rfl rfl) flX7_19 hS.1 rfl ?_
    refine g_alen hF (dAt tX7_deedOf_ok 5 rfl rfl) hS.2.2.1 rfl ?_
    obtain ⟨Ht2, Hf2⟩ := oi H
    refine g_icmp_ge hF (dAt tX7_deedOf_ok 6 rfl rfl) rfl (fun c2 => ?_) (fun c2 => ?_)
    · have H := Ht2 c2
      refine g_p (S' := [.int 0]) hF tX7_deedOf_ok 12 1 rfl rfl rfl rfl ?_
      exact g_iret hF (en_i H hE) (dAt tX7_deedOf_ok 13 rfl rfl) (by decide) (by decide)
    · have H := Hf2 c2
      refine g_p (S' := [.ref a]) hF tX7_deedOf_ok 7 1 rfl rfl rfl rfl ?_
      refine g_getR hF (dAt tX7_deedOf_ok 8 rfl rfl) flX7_19 hS.1 rfl ?_
      refine g_p (S' := [.int x1, .ref (a + 2)]) hF tX7_deedOf_ok 9 1 rfl rfl rfl rfl ?_
      obtain ⟨v3, e4, H⟩ := ob H
      refine g_ild hF (dAt tX7_deedOf_ok 10 rfl rfl) hS.2.2.1 e4 ?_
      refine g_goto hF (dAt tX7_deedOf_ok 11 rfl rfl) rfl ?_
      exact g_iret hF (en_i H hE) (dAt tX7_deedOf_ok 13 rfl rfl) (by decide) (by decide)
def X7_valueAt_f (r0 : Nat) (n0_ : Nat) (x1 : Int32) (σ : Sig) : Option (Int32) := if x1 < 0 then (some 0) else (if (Int32.ofNat n0_) ≤ x1 then (some 0) else ((ld n0_ (σ r0) x1).bind fun v3 => some v3))
set_option maxRecDepth 4000 in
set_option maxHeartbeats 1000000 in
theorem X7_valueAt_ok {D : Nat} {τ : Tau} {nx : Nat} {r0 : Nat} {n0_ : Nat} {x1 : Int32} {σ : Sig} {res : Int32} (hD : 1 ≤ D) (hr0 : τ r0 = some (.inr (.inl n0_))) (H : X7_valueAt_f r0 n0_ x1 σ = some res) : Ok D 0 0 yX7_valueAt cX7_valueAt 2 (some .int) [.ref r0, .int x1] (τ, σ, nx) (some (.int res)) (τ, σ, nx) := by
  refine ok_of (by decide +kernel) rfl (Nat.le_of_ble_eq_true rfl) (fun K X hF hE hN L0 hL0 => ?_)
  obtain rfl : [some (.ref r0), some (.int x1)] = L0 := hL0
  have hF : Fx K X cX7_valueAt 2 RX7 D 0 0 := hF
  refine g_p (S' := [.int x1]) hF tX7_valueAt_ok 0 1 rfl rfl rfl rfl ?_
  obtain ⟨Ht1, Hf1⟩ := oi H
  refine g_if_lt hF (dAt tX7_valueAt_ok 1 rfl rfl) rfl (fun c1 => ?_) (fun c1 => ?_)
  · have H := Ht1 c1
    refine g_p (S' := [.int 0]) hF tX7_valueAt_ok 10 1 rfl rfl rfl rfl ?_
    exact g_iret hF (en_i H hE) (dAt tX7_valueAt_ok 11 rfl rfl) (by decide) (by decide)
  · have H := Hf1 c1
    refine g_p (S' := [.ref r0, .int x1]) hF tX7_valueAt_ok 2 2 rfl rfl rfl rfl ?_
    refine g_alen hF (dAt tX7_valueAt_ok 4 rfl rfl) hr0 rfl ?_
    obtain ⟨Ht2, Hf2⟩ := oi H
    refine g_icmp_ge hF (dAt tX7_valueAt_ok 5 rfl rfl) rfl (fun c2 => ?_) (fun c2 => ?_)
    · have H := Ht2 c2
      refine g_p (S' := [.int 0]) hF tX7_valueAt_ok 10 1 rfl rfl rfl rfl ?_
      exact g_iret hF (en_i H hE) (dAt tX7_valueAt_ok 11 rfl rfl) (by decide) (by decide)
    · have H := Hf2 c2
      refine g_p (S' := [.int x1, .ref r0]) hF tX7_valueAt_ok 6 2 rfl rfl rfl rfl ?_
      obtain ⟨v3, e4, H⟩ := ob H
      refine g_ild hF (dAt tX7_valueAt_ok 8 rfl rfl) hr0 e4 ?_
      refine g_goto hF (dAt tX7_valueAt_ok 9 rfl rfl) rfl ?_
      exact g_iret hF (en_i H hE) (dAt tX7_valueAt_ok 11 rfl rfl) (by decide) (by decide)
def X7_join_f (x0 x1 x2 : Int32) (σ : Sig) : Option (Int32) := if x0 = 2 then (some (x1 + x2)) else if x0 = 3 then (some (x1 - x2)) else if x0 = 4 then (some (x1 * x2)) else if x0 = 5 then (some 0) else if x0 = 6 then (if x2 ≤ x1 then (some 0) else (some 1)) else if x0 = 7 then (if x1 = x2 then (some 1) else (some 0)) else if x0 = 8 then (if x1 ≤ x2 then (some 0) else (some 1)) else if x0 = 9 then (some 0) else if x0 = 10 then (some (x1 &&& x2)) else if x0 = 11 then (some (x1 ||| x2)) else (some 0)
set_option maxRecDepth 4000 in
set_option maxHeartbeats 1000000 in
theorem X7_join_ok {D : Nat} {τ : Tau} {nx : Nat} {x0 x1 x2 : Int32} {σ : Sig} {res : Int32} (hD : 1 ≤ D) (H : X7_join_f x0 x1 x2 σ = some res) : Ok D 0 0 yX7_join cX7_join 3 (some .int) [.int x0, .int x1, .int x2] (τ, σ, nx) (some (.int res)) (τ, σ, nx) := by
  refine ok_of (by decide +kernel) rfl (Nat.le_of_ble_eq_true rfl) (fun K X hF hE hN L0 hL0 => ?_)
  obtain rfl : [some (.int x0), some (.int x1), some (.int x2)] = L0 := hL0
  have hF : Fx K X cX7_join 3 RX7 D 0 0 := hF
  refine g_p (S' := [.int x0]) hF tX7_join_ok 0 1 rfl rfl rfl rfl ?_
  obtain ⟨Ht1_0, Hf1_0⟩ := oi H
  by_cases c1_0 : x0 = 2
  · have H := Ht1_0 c1_0
    refine g_tsw (c := 2) hF (dAt tX7_join_ok 1 rfl rfl) c1_0 (by decide) (by decide) rfl rfl ?_
    refine g_p (S' := [.int (x1 + x2)]) hF tX7_join_ok 2 3 rfl rfl rfl rfl ?_
    exact g_iret hF (en_i H hE) (dAt tX7_join_ok 5 rfl rfl) (by decide) (by decide)
  have H := Hf1_0 c1_0
  obtain ⟨Ht1_1, Hf1_1⟩ := oi H
  by_cases c1_1 : x0 = 3
  · have H := Ht1_1 c1_1
    refine g_tsw (c := 3) hF (dAt tX7_join_ok 1 rfl rfl) c1_1 (by decide) (by decide) rfl rfl ?_
    refine g_p (S' := [.int (x1 - x2)]) hF tX7_join_ok 6 3 rfl rfl rfl rfl ?_
    exact g_iret hF (en_i H hE) (dAt tX7_join_ok 9 rfl rfl) (by decide) (by decide)
  have H := Hf1_1 c1_1
  obtain ⟨Ht1_2, Hf1_2⟩ := oi H
  by_cases c1_2 : x0 = 4
  · have H := Ht1_2 c1_2
    refine g_tsw (c := 4) hF (dAt tX7_join_ok 1 rfl rfl) c1_2 (by decide) (by decide) rfl rfl ?_
    refine g_p (S' := [.int (x1 * x2)]) hF tX7_join_ok 10 3 rfl rfl rfl rfl ?_
    exact g_iret hF (en_i H hE) (dAt tX7_join_ok 13 rfl rfl) (by decide) (by decide)
  have H := Hf1_2 c1_2
  obtain ⟨Ht1_3, Hf1_3⟩ := oi H
  by_cases c1_3 : x0 = 5
  · have H := Ht1_3 c1_3
    refine g_tsw (c := 5) hF (dAt tX7_join_ok 1 rfl rfl) c1_3 (by decide) (by decide) rfl rfl ?_
    refine g_p (S' := [.int 0]) hF tX7_join_ok 43 1 rfl rfl rfl rfl ?_
    exact g_iret hF (en_i H hE) (dAt tX7_join_ok 44 rfl rfl) (by decide) (by decide)
  have H := Hf1_3 c1_3
  obtain ⟨Ht1_4, Hf1_4⟩ := oi H
  by_cases c1_4 : x0 = 6
  · have H := Ht1_4 c1_4
    refine g_tsw (c := 6) hF (dAt tX7_join_ok 1 rfl rfl) c1_4 (by decide) (by decide) rfl rfl ?_
    refine g_p (S' := [.int x2, .int x1]) hF tX7_join_ok 14 2 rfl rfl rfl rfl ?_
    obtain ⟨Ht2, Hf2⟩ := oi H
    refine g_icmp_ge hF (dAt tX7_join_ok 16 rfl rfl) rfl (fun c2 => ?_) (fun c2 => ?_)
    · have H := Ht2 c2
      refine g_p (S' := [.int 0]) hF tX7_join_ok 19 1 rfl rfl rfl rfl ?_
      exact g_iret hF (en_i H hE) (dAt tX7_join_ok 20 rfl rfl) (by decide) (by decide)
    · have H := Hf2 c2
      refine g_p (S' := [.int 1]) hF tX7_join_ok 17 1 rfl rfl rfl rfl ?_
      refine g_goto hF (dAt tX7_join_ok 18 rfl rfl) rfl ?_
      exact g_iret hF (en_i H hE) (dAt tX7_join_ok 20 rfl rfl) (by decide) (by decide)
  have H := Hf1_4 c1_4
  obtain ⟨Ht1_5, Hf1_5⟩ := oi H
  by_cases c1_5 : x0 = 7
  · have H := Ht1_5 c1_5
    refine g_tsw (c := 7) hF (dAt tX7_join_ok 1 rfl rfl) c1_5 (by decide) (by decide) rfl rfl ?_
    refine g_p (S' := [.int x2, .int x1]) hF tX7_join_ok 21 2 rfl rfl rfl rfl ?_
    obtain ⟨Ht3, Hf3⟩ := oi H
    refine g_icmp_ne hF (dAt tX7_join_ok 23 rfl rfl) rfl (fun c3 => ?_) (fun c3 => ?_)
    · have H := Hf3 c3
      refine g_p (S' := [.int 0]) hF tX7_join_ok 26 1 rfl rfl rfl rfl ?_
      exact g_iret hF (en_i H hE) (dAt tX7_join_ok 27 rfl rfl) (by decide) (by decide)
    · have H := Ht3 c3
      refine g_p (S' := [.int 1]) hF tX7_join_ok 24 1 rfl rfl rfl rfl ?_
      refine g_goto hF (dAt tX7_join_ok 25 rfl rfl) rfl ?_
      exact g_iret hF (en_i H hE) (dAt tX7_join_ok 27 rfl rfl) (by decide) (by decide)
  have H := Hf1_5 c1_5
  obtain ⟨Ht1_6, Hf1_6⟩ := oi H
  by_cases c1_6 : x0 = 8
  · have H := Ht1_6 c1_6
    refine g_tsw (c := 8) hF (dAt tX7_join_ok 1 rfl rfl) c1_6 (by decide) (by decide) rfl rfl ?_
    refine g_p (S' := [.int x2, .int x1]) hF tX7_join_ok 28 2 rfl rfl rfl rfl ?_
    obtain ⟨Ht4, Hf4⟩ := oi H
    refine g_icmp_le hF (dAt tX7_join_ok 30 rfl rfl) rfl (fun c4 => ?_) (fun c4 => ?_)
    · have H := Ht4 c4
      refine g_p (S' := [.int 0]) hF tX7_join_ok 33 1 rfl rfl rfl rfl ?_
      exact g_iret hF (en_i H hE) (dAt tX7_join_ok 34 rfl rfl) (by decide) (by decide)
    · have H := Hf4 c4
      refine g_p (S' := [.int 1]) hF tX7_join_ok 31 1 rfl rfl rfl rfl ?_
      refine g_goto hF (dAt tX7_join_ok 32 rfl rfl) rfl ?_
      exact g_iret hF (en_i H hE) (dAt tX7_join_ok 34 rfl rfl) (by decide) (by decide)
  have H := Hf1_6 c1_6
  obtain ⟨Ht1_7, Hf1_7⟩ := oi H
  by_cases c1_7 : x0 = 9
  · have H := Ht1_7 c1_7
    refine g_tsw (c := 9) hF (dAt tX7_join_ok 1 rfl rfl) c1_7 (by decide) (by decide) rfl rfl ?_
    refine g_p (S' := [.int 0]) hF tX7_join_ok 43 1 rfl rfl rfl rfl ?_
    exact g_iret hF (en_i H hE) (dAt tX7_join_ok 44 rfl rfl) (by decide) (by decide)
  have H := Hf1_7 c1_7
  obtain ⟨Ht1_8, Hf1_8⟩ := oi H
  by_cases c1_8 : x0 = 10
  · have H := Ht1_8 c1_8
    refine g_tsw (c := 10) hF (dAt tX7_join_ok 1 rfl rfl) c1_8 (by decide) (by decide) rfl rfl ?_
    refine g_p (S' := [.int (x1 &&& x2)]) hF tX7_join_ok 35 3 rfl rfl rfl rfl ?_
    exact g_iret hF (en_i H hE) (dAt tX7_join_ok 38 rfl rfl) (by decide) (by decide)
  have H := Hf1_8 c1_8
  obtain ⟨Ht1_9, Hf1_9⟩ := oi H
  by_cases c1_9 : x0 = 11
  · have H := Ht1_9 c1_9
    refine g_tsw (c := 11) hF (dAt tX7_join_ok 1 rfl rfl) c1_9 (by decide) (by decide) rfl rfl ?_
    refine g_p (S' := [.int (x1 ||| x2)]) hF tX7_join_ok 39 3 rfl rfl rfl rfl ?_
    exact g_iret hF (en_i H hE) (dAt tX7_join_ok 42 rfl rfl) (by decide) (by decide)
  have H := Hf1_9 c1_9
  refine g_tswD hF (dAt tX7_join_ok 1 rfl rfl) (tsw_l 2 11 10 [2, 3, 4, 5, 6, 7, 8, 9, 10, 11] (al1 c1_0 (al1 c1_1 (al1 c1_2 (al1 c1_3 (al1 c1_4 (al1 c1_5 (al1 c1_6 (al1 c1_7 (al1 c1_8 (al1 c1_9 al0)))))))))) (by decide) (by decide)) rfl ?_
  refine g_p (S' := [.int 0]) hF tX7_join_ok 43 1 rfl rfl rfl rfl ?_
  exact g_iret hF (en_i H hE) (dAt tX7_join_ok 44 rfl rfl) (by decide) (by decide)
def X7_isSo_b194 (a : Nat) (n1 : Nat) (n2 : Nat) (n3 : Nat) (r3 : Nat) (n3_ : Nat) (r4 : Nat) (n4_ : Nat) (x5 : Int32) (σ : Sig) : Option (Int32 × Sig) := if x5 < 1 then (some (0, σ)) else ((ld n4_ (σ r4) 0).bind fun v2 => if v2 = 0 then (some (0, σ)) else (some (1, σ)))
set_option maxRecDepth 4000 in
set_option maxHeartbeats 1000000 in
theorem X7_isSo_b194_ok {K : Kt} {X : Cx} {D : Nat} {τ : Tau} {nx : Nat} {a : Nat} {n1 : Nat} {n2 : Nat} {n3 : Nat} {r3 : Nat} {n3_ : Nat} {r4 : Nat} {n4_ : Nat} {res : Int32} {rsg : Sig}  (hD : 2 ≤ D) (hF : Fx K X cX7_isSo 9 RX7 D 0 0) (hS : ShX7 τ a n1 n2 n3) (hr3 : τ r3 = some (.inr (.inl n3_))) (hr4 : τ r4 = some (.inr (.inl n4_))) (hE : En K X (some .boolean) 0 0 (some (.int res)) (τ, rsg, nx)) {x5 : Int32} {σ : Sig} (H : X7_isSo_b194 a n1 n2 n3 r3 n3_ r4 n4_ x5 σ = some (res, rsg)) : G K X 9 0 0 194 [none, none, none, none, some (.ref r4), some (.int x5), none, none, none] [] (τ, σ, nx) := by
  refine g_p (S' := [.int 1, .int x5]) hF tX7_isSo_ok 105 2 rfl rfl rfl rfl ?_
  obtain ⟨Ht1, Hf1⟩ := oi H
  refine g_icmp_lt hF (dAt tX7_isSo_ok 107 rfl rfl) rfl (fun c1 => ?_) (fun c1 => ?_)
  · have H := Ht1 c1
    refine g_p (S' := [.int 0]) hF tX7_isSo_ok 114 1 rfl rfl rfl rfl ?_
    exact g_zret hF (en_p H hE) (Or.inl rfl) (dAt tX7_isSo_ok 115 rfl rfl) (by decide) (by decide)
  · have H := Hf1 c1
    refine g_p (S' := [.int 0, .ref r4]) hF tX7_isSo_ok 108 2 rfl rfl rfl rfl ?_
    obtain ⟨v2, e3, H⟩ := ob H
    refine g_ild hF (dAt tX7_isSo_ok 110 rfl rfl) hr4 e3 ?_
    obtain ⟨Ht4, Hf4⟩ := oi H
    refine g_if_eq hF (dAt tX7_isSo_ok 111 rfl rfl) rfl (fun c4 => ?_) (fun c4 => ?_)
    · have H := Ht4 c4
      refine g_p (S' := [.int 0]) hF tX7_isSo_ok 114 1 rfl rfl rfl rfl ?_
      exact g_zret hF (en_p H hE) (Or.inl rfl) (dAt tX7_isSo_ok 115 rfl rfl) (by decide) (by decide)
    · have H := Hf4 c4
      refine g_p (S' := [.int 1]) hF tX7_isSo_ok 112 1 rfl rfl rfl rfl ?_
      refine g_goto hF (dAt tX7_isSo_ok 113 rfl rfl) rfl ?_
      exact g_zret hF (en_p H hE) (Or.inr rfl) (dAt tX7_isSo_ok 115 rfl rfl) (by decide) (by decide)
def X7_isSo_b84 (a : Nat) (n1 : Nat) (n2 : Nat) (n3 : Nat) (r3 : Nat) (n3_ : Nat) (r4 : Nat) (n4_ : Nat) (k6 : Int32 → Int32 → Int32 → Sig → Option (Int32 × Sig)) (x2 x5 x6 y0 y1 : Int32) (σ : Sig) : Option (Int32 × Sig) := (st n4_ σ r4 y1 y0).bind fun s1 => k6 x2 (x5 + 1) (x6 + 1) s1
set_option maxRecDepth 4000 in
set_option maxHeartbeats 1000000 in
theorem X7_isSo_b84_ok {K : Kt} {X : Cx} {D : Nat} {τ : Tau} {nx : Nat} {a : Nat} {n1 : Nat} {n2 : Nat} {n3 : Nat} {r3 : Nat} {n3_ : Nat} {r4 : Nat} {n4_ : Nat} {res : Int32} {rsg : Sig}  (hD : 2 ≤ D) (hF : Fx K X cX7_isSo 9 RX7 D 0 0) (hS : ShX7 τ a n1 n2 n3) (hr3 : τ r3 = some (.inr (.inl n3_))) (hr4 : τ r4 = some (.inr (.inl n4_))) (hE : En K X (some .boolean) 0 0 (some (.int res)) (τ, rsg, nx)) {k6 : Int32 → Int32 → Int32 → Sig → Option (Int32 × Sig)} (hk6 : ∀ (x2 x5 x6 : Int32) (σ : Sig), k6 x2 x5 x6 σ = some (res, rsg) → G K X 9 0 0 6 [some (.ref a), none, some (.int x2), some (.ref r3), some (.ref r4), some (.int x5), some (.int x6), none, none] [] (τ, σ, nx)) {x2 x5 x6 y0 y1 : Int32} {σ : Sig} (H : X7_isSo_b84 a n1 n2 n3 r3 n3_ r4 n4_ k6 x2 x5 x6 y0 y1 σ = some (res, rsg)) : G K X 9 0 0 84 [some (.ref a), none, some (.int x2), some (.ref r3), some (.ref r4), some (.int x5), some (.int x6), none, none] [.int y0, .int y1, .ref r4] (τ, σ, nx) := by
  obtain ⟨s1, e2, H⟩ := ob H
  refine g_ist hF (dAt tX7_isSo_ok 44 rfl rfl) hr4 e2 ?_
  refine g_p (L' := [some (.ref a), none, some (.int x2), some (.ref r3), some (.ref r4), some (.int (x5 + 1)), some (.int x6), none, none]) (S' := []) hF tX7_isSo_ok 45 1 rfl rfl rfl rfl ?_
  refine g_goto hF (dAt tX7_isSo_ok 46 rfl rfl) rfl ?_
  refine g_p (L' := [some (.ref a), none, some (.int x2), some (.ref r3), some (.ref r4), some (.int (x5 + 1)), some (.int (x6 + 1)), none, none]) (S' := []) hF tX7_isSo_ok 103 1 rfl rfl rfl rfl ?_
  refine g_goto hF (dAt tX7_isSo_ok 104 rfl rfl) rfl ?_
  exact hk6 _ _ _ _ H
def X7_isSo_b56 (a : Nat) (n1 : Nat) (n2 : Nat) (n3 : Nat) (r3 : Nat) (n3_ : Nat) (r4 : Nat) (n4_ : Nat) (k6 : Int32 → Int32 → Int32 → Sig → Option (Int32 × Sig)) (x2 x5 x6 x7 x8 : Int32) (σ : Sig) : Option (Int32 × Sig) := if (Int32.ofNat n4_) ≤ x5 then (k6 x2 x5 (x6 + 1) σ) else (if x7 = 0 then (X7_isSo_b84 a n1 n2 n3 r3 n3_ r4 n4_ k6 x2 x5 x6 x8 x5 σ) else ((X7_valueAt_f r3 n3_ x8 σ).bind fun v3 => X7_isSo_b84 a n1 n2 n3 r3 n3_ r4 n4_ k6 x2 x5 x6 v3 x5 σ))
set_option maxRecDepth 4000 in
set_option maxHeartbeats 1000000 in
theorem X7_isSo_b56_ok {K : Kt} {X : Cx} {D : Nat} {τ : Tau} {nx : Nat} {a : Nat} {n1 : Nat} {n2 : Nat} {n3 : Nat} {r3 : Nat} {n3_ : Nat} {r4 : Nat} {n4_ : Nat} {res : Int32} {rsg : Sig}  (hD : 2 ≤ D) (hF : Fx K X cX7_isSo 9 RX7 D 0 0) (hS : ShX7 τ a n1 n2 n3) (hr3 : τ r3 = some (.inr (.inl n3_))) (hr4 : τ r4 = some (.inr (.inl n4_))) (hE : En K X (some .boolean) 0 0 (some (.int res)) (τ, rsg, nx)) {k6 : Int32 → Int32 → Int32 → Sig → Option (Int32 × Sig)} (hk6 : ∀ (x2 x5 x6 : Int32) (σ : Sig), k6 x2 x5 x6 σ = some (res, rsg) → G K X 9 0 0 6 [some (.ref a), none, some (.int x2), some (.ref r3), some (.ref r4), some (.int x5), some (.int x6), none, none] [] (τ, σ, nx)) {x2 x5 x6 x7 x8 : Int32} {σ : Sig} (H : X7_isSo_b56 a n1 n2 n3 r3 n3_ r4 n4_ k6 x2 x5 x6 x7 x8 σ = some (res, rsg)) : G K X 9 0 0 56 [some (.ref a), none, some (.int x2), some (.ref r3), some (.ref r4), some (.int x5), some (.int x6), some (.int x7), some (.int x8)] [] (τ, σ, nx) := by
  refine g_p (S' := [.ref r4, .int x5]) hF tX7_isSo_ok 31 2 rfl rfl rfl rfl ?_
  refine g_alen hF (dAt tX7_isSo_ok 33 rfl rfl) hr4 rfl ?_
  obtain ⟨Ht1, Hf1⟩ := oi H
  refine g_icmp_ge hF (dAt tX7_isSo_ok 34 rfl rfl) rfl (fun c1 => ?_) (fun c1 => ?_)
  · have H := Ht1 c1
    refine g_p (L' := [some (.ref a), none, some (.int x2), some (.ref r3), some (.ref r4), some (.int x5), some (.int (x6 + 1)), some (.int x7), some (.int x8)]) (S' := []) hF tX7_isSo_ok 103 1 rfl rfl rfl rfl ?_
    refine g_goto hF (dAt tX7_isSo_ok 104 rfl rfl) rfl ?_
    refine g_m [true, false, true, true, true, true, true, false, false] rfl ?_
    exact hk6 _ _ _ _ H
  · have H := Hf1 c1
    refine g_p (S' := [.int x7, .int x5, .ref r4]) hF tX7_isSo_ok 35 3 rfl rfl rfl rfl ?_
    obtain ⟨Ht2, Hf2⟩ := oi H
    refine g_if_ne hF (dAt tX7_isSo_ok 38 rfl rfl) rfl (fun c2 => ?_) (fun c2 => ?_)
    · have H := Hf2 c2
      refine g_p (S' := [.int x8, .ref r3, .int x5, .ref r4]) hF tX7_isSo_ok 41 2 rfl rfl rfl rfl ?_
      obtain ⟨v3, e4, H⟩ := ob H
      refine g_cS (S := [.int x5, .ref r4]) hF (X7_valueAt_ok (Nat.le_refl _) hr3 e4 K) mbX7_valueAt msX7_valueAt mlX7_29 (by omega) (by decide) (dAt tX7_isSo_ok 43 rfl rfl) rfl rfl (Nat.le_of_ble_eq_true rfl) rfl rfl (by decide) (by decide) rfl ?_
      refine g_m [true, false, true, true, true, true, true, false, false] rfl ?_
      exact X7_isSo_b84_ok hD hF hS hr3 hr4 hE hk6 H
    · have H := Ht2 c2
      refine g_p (S' := [.int x8, .int x5, .ref r4]) hF tX7_isSo_ok 39 1 rfl rfl rfl rfl ?_
      refine g_goto hF (dAt tX7_isSo_ok 40 rfl rfl) rfl ?_
      refine g_m [true, false, true, true, true, true, true, false, false] rfl ?_
      exact X7_isSo_b84_ok hD hF hS hr3 hr4 hE hk6 H
def X7_isSo_b6 (a : Nat) (n1 : Nat) (n2 : Nat) (n3 : Nat) (r3 : Nat) (n3_ : Nat) (r4 : Nat) (n4_ : Nat) : Nat → Int32 → Int32 → Int32 → Sig → Option (Int32 × Sig)
  | 0, _, _, _, _ => none
  | fu + 1, x2, x5, x6, σ => if x2 ≤ x6 then (X7_isSo_b194 a n1 n2 n3 r3 n3_ r4 n4_ x5 σ) else (if (Int32.ofNat n3) ≤ x6 then (X7_isSo_b194 a n1 n2 n3 r3 n3_ r4 n4_ x5 σ) else ((ld n3 (σ (a + 3)) x6).bind fun v3 => (ld n3 (σ (a + 3)) x6).bind fun v5 => if (v3 &&& 15) = 0 then (X7_isSo_b56 a n1 n2 n3 r3 n3_ r4 n4_ (X7_isSo_b6 a n1 n2 n3 r3 n3_ r4 n4_ fu) x2 x5 x6 (v3 &&& 15) (v5 >>> (4 &&& 31)) σ) else (if (v3 &&& 15) = 1 then (X7_isSo_b56 a n1 n2 n3 r3 n3_ r4 n4_ (X7_isSo_b6 a n1 n2 n3 r3 n3_ r4 n4_ fu) x2 x5 x6 (v3 &&& 15) (v5 >>> (4 &&& 31)) σ) else (if (v3 &&& 15) = 5 then (if x5 < 1 then (X7_isSo_b6 a n1 n2 n3 r3 n3_ r4 n4_ fu x2 x5 (x6 + 1) σ) else (if (v5 >>> (4 &&& 31)) ≤ 0 then (X7_isSo_b6 a n1 n2 n3 r3 n3_ r4 n4_ fu x2 x5 (x6 + 1) σ) else ((ld n4_ (σ r4) (x5 - 1)).bind fun v27 => if (v5 >>> (4 &&& 31)) = 0 then none else ((st n4_ σ r4 (x5 - 1) (v27 / (v5 >>> (4 &&& 31)))).bind fun s30 => X7_isSo_b6 a n1 n2 n3 r3 n3_ r4 n4_ fu x2 x5 (x6 + 1) s30)))) else (if (v3 &&& 15) = 9 then (if x5 < 1 then (X7_isSo_b6 a n1 n2 n3 r3 n3_ r4 n4_ fu x2 x5 (x6 + 1) σ) else ((ld n4_ (σ r4) (x5 - 1)).bind fun v21 => (st n4_ σ r4 (x5 - 1) (1 - v21)).bind fun s23 => X7_isSo_b6 a n1 n2 n3 r3 n3_ r4 n4_ fu x2 x5 (x6 + 1) s23)) else (if x5 < 2 then (X7_isSo_b6 a n1 n2 n3 r3 n3_ r4 n4_ fu x2 x5 (x6 + 1) σ) else ((ld n4_ (σ r4) ((x5 + (-1)) - 1)).bind fun v12 => (ld n4_ (σ r4) (x5 + (-1))).bind fun v14 => (X7_join_f (v3 &&& 15) v12 v14 σ).bind fun v16 => (st n4_ σ r4 ((x5 + (-1)) - 1) v16).bind fun s18 => X7_isSo_b6 a n1 n2 n3 r3 n3_ r4 n4_ fu x2 (x5 + (-1)) (x6 + 1) s18)))))))
set_option maxRecDepth 4000 in
set_option maxHeartbeats 1000000 in
theorem X7_isSo_b6_ok {K : Kt} {X : Cx} {D : Nat} {τ : Tau} {nx : Nat} {a : Nat} {n1 : Nat} {n2 : Nat} {n3 : Nat} {r3 : Nat} {n3_ : Nat} {r4 : Nat} {n4_ : Nat} {res : Int32} {rsg : Sig}  (hD : 2 ≤ D) (hF : Fx K X cX7_isSo 9 RX7 D 0 0) (hS : ShX7 τ a n1 n2 n3) (hr3 : τ r3 = some (.inr (.inl n3_))) (hr4 : τ r4 = some (.inr (.inl n4_))) (hE : En K X (some .boolean) 0 0 (some (.int res)) (τ, rsg, nx)) : ∀ (fu : Nat) (x2 x5 x6 : Int32) (σ : Sig), X7_isSo_b6 a n1 n2 n3 r3 n3_ r4 n4_ fu x2 x5 x6 σ = some (res, rsg) → G K X 9 0 0 6 [some (.ref a), none, some (.int x2), some (.ref r3), some (.ref r4), some (.int x5), some (.int x6), none, none] [] (τ, σ, nx)
  | 0, _, _, _, _, H => nomatch H
  | fu + 1, x2, x5, x6, σ, H => by
    refine g_p (S' := [.int x2, .int x6]) hF tX7_isSo_ok 4 2 rfl rfl rfl rfl ?_
    obtain ⟨Ht1, Hf1⟩ := oi H
    refine g_icmp_ge hF (dAt tX7_isSo_ok 6 rfl rfl) rfl (fun c1 => ?_) (fun c1 => ?_)
    · have H := Ht1 c1
      refine g_m [false, false, false, false, true, true, false, false, false] rfl ?_
      exact X7_isSo_b194_ok hD hF hS hr3 hr4 hE H
    · have H := Hf1 c1
      refine g_p (S' := [.ref a, .int x6]) hF tX7_isSo_ok 7 2 rfl rfl rfl rfl ?_
      refine g_getR hF (dAt tX7_isSo_ok 9 rfl rfl) flX7_22 hS.1 rfl ?_
      refine g_alen hF (dAt tX7_isSo_ok 10 rfl rfl) hS.2.2.2 rfl ?_
      obtain ⟨Ht2, Hf2⟩ := oi H
      refine g_icmp_ge hF (dAt tX7_isSo_ok 11 rfl rfl) rfl (fun c2 => ?_) (fun c2 => ?_)
      · have H := Ht2 c2
        refine g_m [false, false, false, false, true, true, false, false, false] rfl ?_
        exact X7_isSo_b194_ok hD hF hS hr3 hr4 hE H
      · have H := Hf2 c2
        refine g_p (S' := [.ref a]) hF tX7_isSo_ok 12 1 rfl rfl rfl rfl ?_
        refine g_getR hF (dAt tX7_isSo_ok 13 rfl rfl) flX7_22 hS.1 rfl ?_
        refine g_p (S' := [.int x6, .ref (a + 3)]) hF tX7_isSo_ok 14 1 rfl rfl rfl rfl ?_
        obtain ⟨v3, e4, H⟩ := ob H
        refine g_ild hF (dAt tX7_isSo_ok 15 rfl rfl) hS.2.2.2 e4 ?_
        refine g_p (L' := [some (.ref a), none, some (.int x2), some (.ref r3), some (.ref r4), some (.int x5), some (.int x6), some (.int (v3 &&& 15)), none]) (S' := [.ref a]) hF tX7_isSo_ok 16 4 rfl rfl rfl rfl ?_
        refine g_getR hF (dAt tX7_isSo_ok 20 rfl rfl) flX7_22 hS.1 rfl ?_
        refine g_p (S' := [.int x6, .ref (a + 3)]) hF tX7_isSo_ok 21 1 rfl rfl rfl rfl ?_
        obtain ⟨v5, e6, H⟩ := ob H
        refine g_ild hF (dAt tX7_isSo_ok 22 rfl rfl) hS.2.2.2 e6 ?_
        refine g_p (L' := [some (.ref a), none, some (.int x2), some (.ref r3), some (.ref r4), some (.int x5), some (.int x6), some (.int (v3 &&& 15)), some (.int (v5 >>> (4 &&& 31)))]) (S' := [.int (v3 &&& 15)]) hF tX7_isSo_ok 23 4 rfl rfl rfl rfl ?_
        obtain ⟨Ht7, Hf7⟩ := oi H
        refine g_if_eq hF (dAt tX7_isSo_ok 27 rfl rfl) rfl (fun c7 => ?_) (fun c7 => ?_)
        · have H := Ht7 c7
          exact X7_isSo_b56_ok hD hF hS hr3 hr4 hE (fun _ _ _ _ H => X7_isSo_b6_ok hD hF hS hr3 hr4 hE fu _ _ _ _ H) H
        · have H := Hf7 c7
          refine g_p (S' := [.int 1, .int (v3 &&& 15)]) hF tX7_isSo_ok 28 2 rfl rfl rfl rfl ?_
          obtain ⟨Ht8, Hf8⟩ := oi H
          refine g_icmp_ne hF (dAt tX7_isSo_ok 30 rfl rfl) rfl (fun c8 => ?_) (fun c8 => ?_)
          · have H := Hf8 c8
            refine g_p (S' := [.int 5, .int (v3 &&& 15)]) hF tX7_isSo_ok 47 2 rfl rfl rfl rfl ?_
            obtain ⟨Ht9, Hf9⟩ := oi H
            refine g_icmp_ne hF (dAt tX7_isSo_ok 49 rfl rfl) rfl (fun c9 => ?_) (fun c9 => ?_)
            · have H := Hf9 c9
              refine g_p (S' := [.int 9, .int (v3 &&& 15)]) hF tX7_isSo_ok 65 2 rfl rfl rfl rfl ?_
              obtain ⟨Ht10, Hf10⟩ := oi H
              refine g_icmp_ne hF (dAt tX7_isSo_ok 67 rfl rfl) rfl (fun c10 => ?_) (fun c10 => ?_)
              · have H := Hf10 c10
                refine g_p (S' := [.int 2, .int x5]) hF tX7_isSo_ok 84 2 rfl rfl rfl rfl ?_
                obtain ⟨Ht11, Hf11⟩ := oi H
                refine g_icmp_lt hF (dAt tX7_isSo_ok 86 rfl rfl) rfl (fun c11 => ?_) (fun c11 => ?_)
                · have H := Ht11 c11
                  refine g_p (L' := [some (.ref a), none, some (.int x2), some (.ref r3), some (.ref r4), some (.int x5), some (.int (x6 + 1)), some (.int (v3 &&& 15)), some (.int (v5 >>> (4 &&& 31)))]) (S' := []) hF tX7_isSo_ok 103 1 rfl rfl rfl rfl ?_
                  refine g_goto hF (dAt tX7_isSo_ok 104 rfl rfl) rfl ?_
                  refine g_m [true, false, true, true, true, true, true, false, false] rfl ?_
                  exact X7_isSo_b6_ok hD hF hS hr3 hr4 hE fu _ _ _ _ H
                · have H := Hf11 c11
                  refine g_p (L' := [some (.ref a), none, some (.int x2), some (.ref r3), some (.ref r4), some (.int (x5 + (-1))), some (.int x6), some (.int (v3 &&& 15)), some (.int (v5 >>> (4 &&& 31)))]) (S' := [.int ((x5 + (-1)) - 1), .ref r4, .int (v3 &&& 15), .int ((x5 + (-1)) - 1), .ref r4]) hF tX7_isSo_ok 87 10 rfl rfl rfl rfl ?_
                  obtain ⟨v12, e13, H⟩ := ob H
                  refine g_ild hF (dAt tX7_isSo_ok 97 rfl rfl) hr4 e13 ?_
                  refine g_p (S' := [.int (x5 + (-1)), .ref r4, .int v12, .int (v3 &&& 15), .int ((x5 + (-1)) - 1), .ref r4]) hF tX7_isSo_ok 98 2 rfl rfl rfl rfl ?_
                  obtain ⟨v14, e15, H⟩ := ob H
                  refine g_ild hF (dAt tX7_isSo_ok 100 rfl rfl) hr4 e15 ?_
                  obtain ⟨v16, e17, H⟩ := ob H
                  refine g_cS (S := [.int ((x5 + (-1)) - 1), .ref r4]) hF (X7_join_ok (Nat.le_refl _)  e17 K) mbX7_join msX7_join mlX7_33 (by omega) (by decide) (dAt tX7_isSo_ok 101 rfl rfl) rfl rfl (Nat.le_of_ble_eq_true rfl) rfl rfl (by decide) (by decide) rfl ?_
                  obtain ⟨s18, e19, H⟩ := ob H
                  refine g_ist hF (dAt tX7_isSo_ok 102 rfl rfl) hr4 e19 ?_
                  refine g_p (L' := [some (.ref a), none, some (.int x2), some (.ref r3), some (.ref r4), some (.int (x5 + (-1))), some (.int (x6 + 1)), some (.int (v3 &&& 15)), some (.int (v5 >>> (4 &&& 31)))]) (S' := []) hF tX7_isSo_ok 103 1 rfl rfl rfl rfl ?_
                  refine g_goto hF (dAt tX7_isSo_ok 104 rfl rfl) rfl ?_
                  refine g_m [true, false, true, true, true, true, true, false, false] rfl ?_
                  exact X7_isSo_b6_ok hD hF hS hr3 hr4 hE fu _ _ _ _ H
              · have H := Ht10 c10
                refine g_p (S' := [.int 1, .int x5]) hF tX7_isSo_ok 68 2 rfl rfl rfl rfl ?_
                obtain ⟨Ht20, Hf20⟩ := oi H
                refine g_icmp_lt hF (dAt tX7_isSo_ok 70 rfl rfl) rfl (fun c20 => ?_) (fun c20 => ?_)
                · have H := Ht20 c20
                  refine g_p (L' := [some (.ref a), none, some (.int x2), some (.ref r3), some (.ref r4), some (.int x5), some (.int (x6 + 1)), some (.int (v3 &&& 15)), some (.int (v5 >>> (4 &&& 31)))]) (S' := []) hF tX7_isSo_ok 103 1 rfl rfl rfl rfl ?_
                  refine g_goto hF (dAt tX7_isSo_ok 104 rfl rfl) rfl ?_
                  refine g_m [true, false, true, true, true, true, true, false, false] rfl ?_
                  exact X7_isSo_b6_ok hD hF hS hr3 hr4 hE fu _ _ _ _ H
                · have H := Hf20 c20
                  refine g_p (S' := [.int (x5 - 1), .ref r4, .int 1, .int (x5 - 1), .ref r4]) hF tX7_isSo_ok 71 9 rfl rfl rfl rfl ?_
                  obtain ⟨v21, e22, H⟩ := ob H
                  refine g_ild hF (dAt tX7_isSo_ok 80 rfl rfl) hr4 e22 ?_
                  refine g_p (S' := [.int (1 - v21), .int (x5 - 1), .ref r4]) hF tX7_isSo_ok 81 1 rfl rfl rfl rfl ?_
                  obtain ⟨s23, e24, H⟩ := ob H
                  refine g_ist hF (dAt tX7_isSo_ok 82 rfl rfl) hr4 e24 ?_
                  refine g_goto hF (dAt tX7_isSo_ok 83 rfl rfl) rfl ?_
                  refine g_p (L' := [some (.ref a), none, some (.int x2), some (.ref r3), some (.ref r4), some (.int x5), some (.int (x6 + 1)), some (.int (v3 &&& 15)), some (.int (v5 >>> (4 &&& 31)))]) (S' := []) hF tX7_isSo_ok 103 1 rfl rfl rfl rfl ?_
                  refine g_goto hF (dAt tX7_isSo_ok 104 rfl rfl) rfl ?_
                  refine g_m [true, false, true, true, true, true, true, false, false] rfl ?_
                  exact X7_isSo_b6_ok hD hF hS hr3 hr4 hE fu _ _ _ _ H
            · have H := Ht9 c9
              refine g_p (S' := [.int 1, .int x5]) hF tX7_isSo_ok 50 2 rfl rfl rfl rfl ?_
              obtain ⟨Ht25, Hf25⟩ := oi H
              refine g_icmp_lt hF (dAt tX7_isSo_ok 52 rfl rfl) rfl (fun c25 => ?_) (fun c25 => ?_)
              · have H := Ht25 c25
                refine g_p (L' := [some (.ref a), none, some (.int x2), some (.ref r3), some (.ref r4), some (.int x5), some (.int (x6 + 1)), some (.int (v3 &&& 15)), some (.int (v5 >>> (4 &&& 31)))]) (S' := []) hF tX7_isSo_ok 103 1 rfl rfl rfl rfl ?_
                refine g_goto hF (dAt tX7_isSo_ok 104 rfl rfl) rfl ?_
                refine g_m [true, false, true, true, true, true, true, false, false] rfl ?_
                exact X7_isSo_b6_ok hD hF hS hr3 hr4 hE fu _ _ _ _ H
              · have H := Hf25 c25
                refine g_p (S' := [.int (v5 >>> (4 &&& 31))]) hF tX7_isSo_ok 53 1 rfl rfl rfl rfl ?_
                obtain ⟨Ht26, Hf26⟩ := oi H
                refine g_if_le hF (dAt tX7_isSo_ok 54 rfl rfl) rfl (fun c26 => ?_) (fun c26 => ?_)
                · have H := Ht26 c26
                  refine g_p (L' := [some (.ref a), none, some (.int x2), some (.ref r3), some (.ref r4), some (.int x5), some (.int (x6 + 1)), some (.int (v3 &&& 15)), some (.int (v5 >>> (4 &&& 31)))]) (S' := []) hF tX7_isSo_ok 103 1 rfl rfl rfl rfl ?_
                  refine g_goto hF (dAt tX7_isSo_ok 104 rfl rfl) rfl ?_
                  refine g_m [true, false, true, true, true, true, true, false, false] rfl ?_
                  exact X7_isSo_b6_ok hD hF hS hr3 hr4 hE fu _ _ _ _ H
                · have H := Hf26 c26
                  refine g_p (S' := [.int (x5 - 1), .ref r4, .int (x5 - 1), .ref r4]) hF tX7_isSo_ok 55 5 rfl rfl rfl rfl ?_
                  obtain ⟨v27, e28, H⟩ := ob H
                  refine g_ild hF (dAt tX7_isSo_ok 60 rfl rfl) hr4 e28 ?_
                  refine g_p (S' := [.int (v5 >>> (4 &&& 31)), .int v27, .int (x5 - 1), .ref r4]) hF tX7_isSo_ok 61 1 rfl rfl rfl rfl ?_
                  obtain ⟨z29, H⟩ := on H
                  refine g_idiv hF (dAt tX7_isSo_ok 62 rfl rfl) z29 ?_
                  obtain ⟨s30, e31, H⟩ := ob H
                  refine g_ist hF (dAt tX7_isSo_ok 63 rfl rfl) hr4 e31 ?_
                  refine g_goto hF (dAt tX7_isSo_ok 64 rfl rfl) rfl ?_
                  refine g_p (L' := [some (.ref a), none, some (.int x2), some (.ref r3), some (.ref r4), some (.int x5), some (.int (x6 + 1)), some (.int (v3 &&& 15)), some (.int (v5 >>> (4 &&& 31)))]) (S' := []) hF tX7_isSo_ok 103 1 rfl rfl rfl rfl ?_
                  refine g_goto hF (dAt tX7_isSo_ok 104 rfl rfl) rfl ?_
                  refine g_m [true, false, true, true, true, true, true, false, false] rfl ?_
                  exact X7_isSo_b6_ok hD hF hS hr3 hr4 hE fu _ _ _ _ H
          · have H := Ht8 c8
            exact X7_isSo_b56_ok hD hF hS hr3 hr4 hE (fun _ _ _ _ H => X7_isSo_b6_ok hD hF hS hr3 hr4 hE fu _ _ _ _ H) H
def X7_isSo_f (a : Nat) (n1 : Nat) (n2 : Nat) (n3 : Nat) (r3 : Nat) (n3_ : Nat) (r4 : Nat) (n4_ : Nat) (x1 x2 : Int32) (σ : Sig) : Option (Int32 × Sig) := X7_isSo_b6 a n1 n2 n3 r3 n3_ r4 n4_ FU x2 0 x1 σ
set_option maxRecDepth 4000 in
set_option maxHeartbeats 1000000 in
theorem X7_isSo_ok {D : Nat} {τ : Tau} {nx : Nat} {a : Nat} {n1 : Nat} {n2 : Nat} {n3 : Nat} {r3 : Nat} {n3_ : Nat} {r4 : Nat} {n4_ : Nat} {x1 x2 : Int32} {σ : Sig} {res : Int32} {rsg : Sig} (hD : 2 ≤ D) (hS : ShX7 τ a n1 n2 n3) (hr3 : τ r3 = some (.inr (.inl n3_))) (hr4 : τ r4 = some (.inr (.inl n4_))) (H : X7_isSo_f a n1 n2 n3 r3 n3_ r4 n4_ x1 x2 σ = some (res, rsg)) : Ok D 0 0 yX7_isSo cX7_isSo 9 (some .boolean) [.ref a, .int x1, .int x2, .ref r3, .ref r4] (τ, σ, nx) (some (.int res)) (τ, rsg, nx) := by
  refine ok_of (by decide +kernel) rfl (Nat.le_of_ble_eq_true rfl) (fun K X hF hE hN L0 hL0 => ?_)
  obtain rfl : [some (.ref a), some (.int x1), some (.int x2), some (.ref r3), some (.ref r4), none, none, none, none] = L0 := hL0
  have hF : Fx K X cX7_isSo 9 RX7 D 0 0 := hF
  refine g_p (L' := [some (.ref a), some (.int x1), some (.int x2), some (.ref r3), some (.ref r4), some (.int 0), some (.int x1), none, none]) (S' := []) hF tX7_isSo_ok 0 4 rfl rfl rfl rfl ?_
  refine g_m [true, false, true, true, true, true, true, false, false] rfl ?_
  exact X7_isSo_b6_ok hD hF hS hr3 hr4 hE FU _ _ _ _ H
def X7_firstLine_b2 (a : Nat) (n1 : Nat) (n2 : Nat) (n3 : Nat) (r1 : Nat) (n1_ : Nat) (r2 : Nat) (n2_ : Nat) : Nat → Int32 → Sig → Option (Int32 × Sig)
  | 0, _, _ => none
  | fu + 1, x3, σ => if (σ a 0) ≤ x3 then (some ((-1), σ)) else (if (Int32.ofNat n1) ≤ (x3 + 1) then (some ((-1), σ)) else ((ld n1 (σ (a + 1)) x3).bind fun v3 => (ld n1 (σ (a + 1)) (x3 + 1)).bind fun v5 => if v3 = v5 then (some (x3, σ)) else ((ld n1 (σ (a + 1)) x3).bind fun v8 => (ld n1 (σ (a + 1)) (x3 + 1)).bind fun v10 => (X7_isSo_f a n1 n2 n3 r1 n1_ r2 n2_ v8 v10 σ).bind fun ⟨v12, s13⟩ => if v12 = 0 then (X7_firstLine_b2 a n1 n2 n3 r1 n1_ r2 n2_ fu (x3 + 1) s13) else (some (x3, s13)))))
set_option maxRecDepth 4000 in
set_option maxHeartbeats 1000000 in
theorem X7_firstLine_b2_ok {K : Kt} {X : Cx} {D : Nat} {τ : Tau} {nx : Nat} {a : Nat} {n1 : Nat} {n2 : Nat} {n3 : Nat} {r1 : Nat} {n1_ : Nat} {r2 : Nat} {n2_ : Nat} {res : Int32} {rsg : Sig}  (hD : 3 ≤ D) (hF : Fx K X cX7_firstLine 4 RX7 D 0 0) (hS : ShX7 τ a n1 n2 n3) (hr1 : τ r1 = some (.inr (.inl n1_))) (hr2 : τ r2 = some (.inr (.inl n2_))) (hE : En K X (some .int) 0 0 (some (.int res)) (τ, rsg, nx)) : ∀ (fu : Nat) (x3 : Int32) (σ : Sig), X7_firstLine_b2 a n1 n2 n3 r1 n1_ r2 n2_ fu x3 σ = some (res, rsg) → G K X 4 0 0 2 [some (.ref a), some (.ref r1), some (.ref r2), some (.int x3)] [] (τ, σ, nx)
  | 0, _, _, H => nomatch H
  | fu + 1, x3, σ, H => by
    refine g_p (S' := [.ref a, .int x3]) hF tX7_firstLine_ok 2 2 rfl rfl rfl rfl ?_
    refine g_getI hF (dAt tX7_firstLine_ok 4 rfl rfl) flX7_9 hS.1 rfl ?_
    obtain ⟨Ht1, Hf1⟩ := oi H
    refine g_icmp_ge hF (dAt tX7_firstLine_ok 5 rfl rfl) rfl (fun c1 => ?_) (fun c1 => ?_)
    · have H := Ht1 c1
      refine g_p (S' := [.int (-1)]) hF tX7_firstLine_ok 43 1 rfl rfl rfl rfl ?_
      exact g_iret hF (en_p H hE) (dAt tX7_firstLine_ok 44 rfl rfl) (by decide) (by decide)
    · have H := Hf1 c1
      refine g_p (S' := [.ref a, .int (x3 + 1)]) hF tX7_firstLine_ok 6 4 rfl rfl rfl rfl ?_
      refine g_getR hF (dAt tX7_firstLine_ok 10 rfl rfl) flX7_15 hS.1 rfl ?_
      refine g_alen hF (dAt tX7_firstLine_ok 11 rfl rfl) hS.2.1 rfl ?_
      obtain ⟨Ht2, Hf2⟩ := oi H
      refine g_icmp_ge hF (dAt tX7_firstLine_ok 12 rfl rfl) rfl (fun c2 => ?_) (fun c2 => ?_)
      · have H := Ht2 c2
        refine g_p (S' := [.int (-1)]) hF tX7_firstLine_ok 43 1 rfl rfl rfl rfl ?_
        exact g_iret hF (en_p H hE) (dAt tX7_firstLine_ok 44 rfl rfl) (by decide) (by decide)
      · have H := Hf2 c2
        refine g_p (S' := [.ref a]) hF tX7_firstLine_ok 13 1 rfl rfl rfl rfl ?_
        refine g_getR hF (dAt tX7_firstLine_ok 14 rfl rfl) flX7_15 hS.1 rfl ?_
        refine g_p (S' := [.int x3, .ref (a + 1)]) hF tX7_firstLine_ok 15 1 rfl rfl rfl rfl ?_
        obtain ⟨v3, e4, H⟩ := ob H
        refine g_ild hF (dAt tX7_firstLine_ok 16 rfl rfl) hS.2.1 e4 ?_
        refine g_p (S' := [.ref a, .int v3]) hF tX7_firstLine_ok 17 1 rfl rfl rfl rfl ?_
        refine g_getR hF (dAt tX7_firstLine_ok 18 rfl rfl) flX7_15 hS.1 rfl ?_
        refine g_p (S' := [.int (x3 + 1), .ref (a + 1), .int v3]) hF tX7_firstLine_ok 19 3 rfl rfl rfl rfl ?_
        obtain ⟨v5, e6, H⟩ := ob H
        refine g_ild hF (dAt tX7_firstLine_ok 22 rfl rfl) hS.2.1 e6 ?_
        obtain ⟨Ht7, Hf7⟩ := oi H
        refine g_icmp_eq hF (dAt tX7_firstLine_ok 23 rfl rfl) rfl (fun c7 => ?_) (fun c7 => ?_)
        · have H := Ht7 c7
          refine g_p (S' := [.int x3]) hF tX7_firstLine_ok 39 1 rfl rfl rfl rfl ?_
          exact g_iret hF (en_p H hE) (dAt tX7_firstLine_ok 40 rfl rfl) (by decide) (by decide)
        · have H := Hf7 c7
          refine g_p (S' := [.ref a, .ref a]) hF tX7_firstLine_ok 24 2 rfl rfl rfl rfl ?_
          refine g_getR hF (dAt tX7_firstLine_ok 26 rfl rfl) flX7_15 hS.1 rfl ?_
          refine g_p (S' := [.int x3, .ref (a + 1), .ref a]) hF tX7_firstLine_ok 27 1 rfl rfl rfl rfl ?_
          obtain ⟨v8, e9, H⟩ := ob H
          refine g_ild hF (dAt tX7_firstLine_ok 28 rfl rfl) hS.2.1 e9 ?_
          refine g_p (S' := [.ref a, .int v8, .ref a]) hF tX7_firstLine_ok 29 1 rfl rfl rfl rfl ?_
          refine g_getR hF (dAt tX7_firstLine_ok 30 rfl rfl) flX7_15 hS.1 rfl ?_
          refine g_p (S' := [.int (x3 + 1), .ref (a + 1), .int v8, .ref a]) hF tX7_firstLine_ok 31 3 rfl rfl rfl rfl ?_
          obtain ⟨v10, e11, H⟩ := ob H
          refine g_ild hF (dAt tX7_firstLine_ok 34 rfl rfl) hS.2.1 e11 ?_
          refine g_p (S' := [.ref r2, .ref r1, .int v10, .int v8, .ref a]) hF tX7_firstLine_ok 35 2 rfl rfl rfl rfl ?_
          obtain ⟨⟨v12, s13⟩, e14, H⟩ := ob H
          refine g_cV (S := []) hF (X7_isSo_ok (Nat.le_refl _) hS hr1 hr2 e14 K) mbX7_isSo mvX7_isSo mlX7_25 (by omega) (by decide) (dAt tX7_firstLine_ok 37 rfl rfl) hS.1 rfl rfl rfl (Nat.le_of_ble_eq_true rfl) rfl rfl (by decide) (by decide) rfl ?_
          obtain ⟨Ht15, Hf15⟩ := oi H
          refine g_if_eq hF (dAt tX7_firstLine_ok 38 rfl rfl) rfl (fun c15 => ?_) (fun c15 => ?_)
          · have H := Ht15 c15
            refine g_p (L' := [some (.ref a), some (.ref r1), some (.ref r2), some (.int (x3 + 1))]) (S' := []) hF tX7_firstLine_ok 41 1 rfl rfl rfl rfl ?_
            refine g_goto hF (dAt tX7_firstLine_ok 42 rfl rfl) rfl ?_
            exact X7_firstLine_b2_ok hD hF hS hr1 hr2 hE fu _ _ H
          · have H := Hf15 c15
            refine g_p (S' := [.int x3]) hF tX7_firstLine_ok 39 1 rfl rfl rfl rfl ?_
            exact g_iret hF (en_p H hE) (dAt tX7_firstLine_ok 40 rfl rfl) (by decide) (by decide)
def X7_firstLine_f (a : Nat) (n1 : Nat) (n2 : Nat) (n3 : Nat) (r1 : Nat) (n1_ : Nat) (r2 : Nat) (n2_ : Nat) (σ : Sig) : Option (Int32 × Sig) := X7_firstLine_b2 a n1 n2 n3 r1 n1_ r2 n2_ FU 0 σ
set_option maxRecDepth 4000 in
set_option maxHeartbeats 1000000 in
theorem X7_firstLine_ok {D : Nat} {τ : Tau} {nx : Nat} {a : Nat} {n1 : Nat} {n2 : Nat} {n3 : Nat} {r1 : Nat} {n1_ : Nat} {r2 : Nat} {n2_ : Nat} {σ : Sig} {res : Int32} {rsg : Sig} (hD : 3 ≤ D) (hS : ShX7 τ a n1 n2 n3) (hr1 : τ r1 = some (.inr (.inl n1_))) (hr2 : τ r2 = some (.inr (.inl n2_))) (H : X7_firstLine_f a n1 n2 n3 r1 n1_ r2 n2_ σ = some (res, rsg)) : Ok D 0 0 yX7_firstLine cX7_firstLine 4 (some .int) [.ref a, .ref r1, .ref r2] (τ, σ, nx) (some (.int res)) (τ, rsg, nx) := by
  refine ok_of (by decide +kernel) rfl (Nat.le_of_ble_eq_true rfl) (fun K X hF hE hN L0 hL0 => ?_)
  obtain rfl : [some (.ref a), some (.ref r1), some (.ref r2), none] = L0 := hL0
  have hF : Fx K X cX7_firstLine 4 RX7 D 0 0 := hF
  refine g_p (L' := [some (.ref a), some (.ref r1), some (.ref r2), some (.int 0)]) (S' := []) hF tX7_firstLine_ok 0 2 rfl rfl rfl rfl ?_
  exact X7_firstLine_b2_ok hD hF hS hr1 hr2 hE FU _ _ H

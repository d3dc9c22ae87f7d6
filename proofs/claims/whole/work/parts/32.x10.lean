/-! SilenceForMoney$World -/
def X10_change_f (a : Nat) (M : Nat) (x1 x2 : Int32) (σ : Sig) : Option (Sig) := if x1 = 1 then ((pI σ (a + 23) 3 x2).bind fun s2 => some s2) else if x1 = 2 then ((pI σ (a + 23) 4 x2).bind fun s4 => some s4) else if x1 = 3 then ((pI σ (a + 23) 5 x2).bind fun s6 => some s6) else if x1 = 4 then ((pI σ (a + 26) 3 x2).bind fun s8 => some s8) else if x1 = 5 then ((pI σ (a + 23) 6 x2).bind fun s10 => some s10) else if x1 = 6 then ((pI σ (a + 26) 1 x2).bind fun s12 => some s12) else if x1 = 7 then ((pI σ (a + 26) 2 x2).bind fun s14 => some s14) else (some σ)
set_option maxRecDepth 4000 in
set_option maxHeartbeats 1000000 in
theorem X10_change_ok {D : Nat} {τ : Tau} {nx : Nat} {a : Nat} {M : Nat} {x1 x2 : Int32} {σ : Sig} {res : Sig} (hD : 1 ≤ D) (hS : ShX10 τ a M) (H : X10_change_f a M x1 x2 σ = some res) : Ok D 0 0 yX10_change cX10_change 3 none [.ref a, .int x1, .int x2] (τ, σ, nx) none (τ, res, nx) := by
  refine ok_of (by decide +kernel) rfl (Nat.le_of_ble_eq_true rfl) (fun K X hF hE hN L0 hL0 => ?_)
  obtain rfl : [some (.ref a), some (.int x1), some (.int x2)] = L0 := hL0
  have hF : Fx K X cX10_change 3 RX10 D 0 0 := hF
  refine g_p (S' := [.int x1]) hF tX10_change_ok 0 1 rfl rfl rfl rfl ?_
  obtain ⟨Ht1_0, Hf1_0⟩ := oi H
  by_cases c1_0 : x1 = 1
  · have H := Ht1_0 c1_0
    refine g_tsw (c := 1) hF (dAt tX10_change_ok 1 rfl rfl) c1_0 (by decide) (by decide) rfl rfl ?_
    refine g_p (S' := [.ref a]) hF tX10_change_ok 2 1 rfl rfl rfl rfl ?_
    refine g_getR hF (dAt tX10_change_ok 3 rfl rfl) flX10_28 hS.1 rfl ?_
    refine g_p (S' := [.int x2, .ref (a + 23)]) hF tX10_change_ok 4 1 rfl rfl rfl rfl ?_
    obtain ⟨s2, e3, H⟩ := ob H
    refine g_pI hF (dAt tX10_change_ok 5 rfl rfl) flX10_90 (Or.inl rfl) hS.2.2.2.1.1 rfl e3 ?_
    refine g_goto hF (dAt tX10_change_ok 6 rfl rfl) rfl ?_
    exact g_vret hF (en_v H hE) (dAt tX10_change_ok 37 rfl rfl) (by decide) (by decide)
  have H := Hf1_0 c1_0
  obtain ⟨Ht1_1, Hf1_1⟩ := oi H
  by_cases c1_1 : x1 = 2
  · have H := Ht1_1 c1_1
    refine g_tsw (c := 2) hF (dAt tX10_change_ok 1 rfl rfl) c1_1 (by decide) (by decide) rfl rfl ?_
    refine g_p (S' := [.ref a]) hF tX10_change_ok 7 1 rfl rfl rfl rfl ?_
    refine g_getR hF (dAt tX10_change_ok 8 rfl rfl) flX10_28 hS.1 rfl ?_
    refine g_p (S' := [.int x2, .ref (a + 23)]) hF tX10_change_ok 9 1 rfl rfl rfl rfl ?_
    obtain ⟨s4, e5, H⟩ := ob H
    refine g_pI hF (dAt tX10_change_ok 10 rfl rfl) flX10_94 (Or.inl rfl) hS.2.2.2.1.1 rfl e5 ?_
    refine g_goto hF (dAt tX10_change_ok 11 rfl rfl) rfl ?_
    exact g_vret hF (en_v H hE) (dAt tX10_change_ok 37 rfl rfl) (by decide) (by decide)
  have H := Hf1_1 c1_1
  obtain ⟨Ht1_2, Hf1_2⟩ := oi H
  by_cases c1_2 : x1 = 3
  · have H := Ht1_2 c1_2
    refine g_tsw (c := 3) hF (dAt tX10_change_ok 1 rfl rfl) c1_2 (by decide) (by decide) rfl rfl ?_
    refine g_p (S' := [.ref a]) hF tX10_change_ok 12 1 rfl rfl rfl rfl ?_
    refine g_getR hF (dAt tX10_change_ok 13 rfl rfl) flX10_28 hS.1 rfl ?_
    refine g_p (S' := [.int x2, .ref (a + 23)]) hF tX10_change_ok 14 1 rfl rfl rfl rfl ?_
    obtain ⟨s6, e7, H⟩ := ob H
    refine g_pI hF (dAt tX10_change_ok 15 rfl rfl) flX10_97 (Or.inl rfl) hS.2.2.2.1.1 rfl e7 ?_
    refine g_goto hF (dAt tX10_change_ok 16 rfl rfl) rfl ?_
    exact g_vret hF (en_v H hE) (dAt tX10_change_ok 37 rfl rfl) (by decide) (by decide)
  have H := Hf1_2 c1_2
  obtain ⟨Ht1_3, Hf1_3⟩ := oi H
  by_cases c1_3 : x1 = 4
  · have H := Ht1_3 c1_3
    refine g_tsw (c := 4) hF (dAt tX10_change_ok 1 rfl rfl) c1_3 (by decide) (by decide) rfl rfl ?_
    refine g_p (S' := [.ref a]) hF tX10_change_ok 17 1 rfl rfl rfl rfl ?_
    refine g_getR hF (dAt tX10_change_ok 18 rfl rfl) flX10_35 hS.1 rfl ?_
    refine g_p (S' := [.int x2, .ref (a + 26)]) hF tX10_change_ok 19 1 rfl rfl rfl rfl ?_
    obtain ⟨s8, e9, H⟩ := ob H
    refine g_pI hF (dAt tX10_change_ok 20 rfl rfl) flX10_100 (Or.inl rfl) hS.2.2.2.2.1 rfl e9 ?_
    refine g_goto hF (dAt tX10_change_ok 21 rfl rfl) rfl ?_
    exact g_vret hF (en_v H hE) (dAt tX10_change_ok 37 rfl rfl) (by decide) (by decide)
  have H := Hf1_3 c1_3
  obtain ⟨Ht1_4, Hf1_4⟩ := oi H
  by_cases c1_4 : x1 = 5
  · have H := Ht1_4 c1_4
    refine g_tsw (c := 5) hF (dAt tX10_change_ok 1 rfl rfl) c1_4 (by decide) (by decide) rfl rfl ?_
    refine g_p (S' := [.ref a]) hF tX10_change_ok 22 1 rfl rfl rfl rfl ?_
    refine g_getR hF (dAt tX10_change_ok 23 rfl rfl) flX10_28 hS.1 rfl ?_
    refine g_p (S' := [.int x2, .ref (a + 23)]) hF tX10_change_ok 24 1 rfl rfl rfl rfl ?_
    obtain ⟨s10, e11, H⟩ := ob H
    refine g_pI hF (dAt tX10_change_ok 25 rfl rfl) flX10_103 (Or.inl rfl) hS.2.2.2.1.1 rfl e11 ?_
    refine g_goto hF (dAt tX10_change_ok 26 rfl rfl) rfl ?_
    exact g_vret hF (en_v H hE) (dAt tX10_change_ok 37 rfl rfl) (by decide) (by decide)
  have H := Hf1_4 c1_4
  obtain ⟨Ht1_5, Hf1_5⟩ := oi H
  by_cases c1_5 : x1 = 6
  · have H := Ht1_5 c1_5
    refine g_tsw (c := 6) hF (dAt tX10_change_ok 1 rfl rfl) c1_5 (by decide) (by decide) rfl rfl ?_
    refine g_p (S' := [.ref a]) hF tX10_change_ok 27 1 rfl rfl rfl rfl ?_
    refine g_getR hF (dAt tX10_change_ok 28 rfl rfl) flX10_35 hS.1 rfl ?_
    refine g_p (S' := [.int x2, .ref (a + 26)]) hF tX10_change_ok 29 1 rfl rfl rfl rfl ?_
    obtain ⟨s12, e13, H⟩ := ob H
    refine g_pI hF (dAt tX10_change_ok 30 rfl rfl) flX10_106 (Or.inl rfl) hS.2.2.2.2.1 rfl e13 ?_
    refine g_goto hF (dAt tX10_change_ok 31 rfl rfl) rfl ?_
    exact g_vret hF (en_v H hE) (dAt tX10_change_ok 37 rfl rfl) (by decide) (by decide)
  have H := Hf1_5 c1_5
  obtain ⟨Ht1_6, Hf1_6⟩ := oi H
  by_cases c1_6 : x1 = 7
  · have H := Ht1_6 c1_6
    refine g_tsw (c := 7) hF (dAt tX10_change_ok 1 rfl rfl) c1_6 (by decide) (by decide) rfl rfl ?_
    refine g_p (S' := [.ref a]) hF tX10_change_ok 32 1 rfl rfl rfl rfl ?_
    refine g_getR hF (dAt tX10_change_ok 33 rfl rfl) flX10_35 hS.1 rfl ?_
    refine g_p (S' := [.int x2, .ref (a + 26)]) hF tX10_change_ok 34 1 rfl rfl rfl rfl ?_
    obtain ⟨s14, e15, H⟩ := ob H
    refine g_pI hF (dAt tX10_change_ok 35 rfl rfl) flX10_109 (Or.inl rfl) hS.2.2.2.2.1 rfl e15 ?_
    refine g_goto hF (dAt tX10_change_ok 36 rfl rfl) rfl ?_
    exact g_vret hF (en_v H hE) (dAt tX10_change_ok 37 rfl rfl) (by decide) (by decide)
  have H := Hf1_6 c1_6
  refine g_tswD hF (dAt tX10_change_ok 1 rfl rfl) (tsw_l 1 7 7 [1, 2, 3, 4, 5, 6, 7] (al1 c1_0 (al1 c1_1 (al1 c1_2 (al1 c1_3 (al1 c1_4 (al1 c1_5 (al1 c1_6 al0))))))) (by decide) (by decide)) rfl ?_
  exact g_vret hF (en_v H hE) (dAt tX10_change_ok 37 rfl rfl) (by decide) (by decide)
noncomputable def X10_isWord_b81 (τ : Tau) (a : Nat) (M : Nat) (x1 y0 y1 : Int32) (σ : Sig) : Option (Int32 × Sig) := (st 8 σ (a + 30) y1 y0).bind fun s1 => (ldr 6 (rcon τ (a + 29)) x1).bind fun r3 => r3.bind fun t4 => chk (ShX7 τ t4 (tl τ t4 1) (tl τ t4 2) (tl τ t4 3)) ((X7_firstLine_f t4 (tl τ t4 1) (tl τ t4 2) (tl τ t4 3) (a + 30) 8 (a + 31) 32 s1).bind fun ⟨v6, s7⟩ => if v6 = (-1) then (some (0, s7)) else (some (1, s7)))
set_option maxRecDepth 4000 in
set_option maxHeartbeats 1000000 in
theorem X10_isWord_b81_ok {K : Kt} {X : Cx} {D : Nat} {τ : Tau} {nx : Nat} {a : Nat} {M : Nat} {res : Int32} {rsg : Sig}  (hD : 4 ≤ D) (hF : Fx K X cX10_isWord 7 RX10 D 0 0) (hS : ShX10 τ a M) (hE : En K X (some .boolean) 0 0 (some (.int res)) (τ, rsg, nx)) {x1 y0 y1 : Int32} {σ : Sig} (H : X10_isWord_b81 τ a M x1 y0 y1 σ = some (res, rsg)) : G K X 7 0 0 81 [some (.ref a), some (.int x1), none, none, none, none, none] [.int y0, .int y1, .ref (a + 30)] (τ, σ, nx) := by
  obtain ⟨s1, e2, H⟩ := ob H
  refine g_ist hF (dAt tX10_isWord_ok 47 rfl rfl) hS.2.2.2.2.2.2.2.2.1 e2 ?_
  refine g_p (S' := [.ref a]) hF tX10_isWord_ok 48 1 rfl rfl rfl rfl ?_
  refine g_getR hF (dAt tX10_isWord_ok 49 rfl rfl) flX10_48 hS.1 rfl ?_
  refine g_p (S' := [.int x1, .ref (a + 29)]) hF tX10_isWord_ok 50 1 rfl rfl rfl rfl ?_
  obtain ⟨r3, e5, H⟩ := ob H
  obtain ⟨t4, qe5, H⟩ := ob H
  subst qe5
  obtain ⟨ht4, H⟩ := oc H
  refine g_rld hF (dAt tX10_isWord_ok 51 rfl rfl) hS.2.2.2.2.2.2.2.1 (tj := 2) rfl e5 ?_
  show G _ _ _ _ _ _ _ [.ref t4] _
  refine g_p (S' := [.ref a, .ref t4]) hF tX10_isWord_ok 52 1 rfl rfl rfl rfl ?_
  refine g_getR hF (dAt tX10_isWord_ok 53 rfl rfl) flX10_52 hS.1 rfl ?_
  refine g_p (S' := [.ref a, .ref (a + 30), .ref t4]) hF tX10_isWord_ok 54 1 rfl rfl rfl rfl ?_
  refine g_getR hF (dAt tX10_isWord_ok 55 rfl rfl) flX10_56 hS.1 rfl ?_
  obtain ⟨⟨v6, s7⟩, e8, H⟩ := ob H
  refine g_cV (S := []) hF (X7_firstLine_ok (Nat.le_refl _) ht4 hS.2.2.2.2.2.2.2.2.1 hS.2.2.2.2.2.2.2.2.2.1 e8 K) mbX7_firstLine mvX7_firstLine mlX10_119 (by omega) (by decide) (dAt tX10_isWord_ok 56 rfl rfl) ht4.1 rfl rfl rfl (Nat.le_of_ble_eq_true rfl) rfl rfl (by decide) (by decide) rfl ?_
  refine g_p (S' := [.int (-1), .int v6]) hF tX10_isWord_ok 57 1 rfl rfl rfl rfl ?_
  obtain ⟨Ht9, Hf9⟩ := oi H
  refine g_icmp_eq hF (dAt tX10_isWord_ok 58 rfl rfl) rfl (fun c9 => ?_) (fun c9 => ?_)
  · have H := Ht9 c9
    refine g_p (S' := [.int 0]) hF tX10_isWord_ok 61 1 rfl rfl rfl rfl ?_
    exact g_zret hF (en_p H hE) (Or.inl rfl) (dAt tX10_isWord_ok 62 rfl rfl) (by decide) (by decide)
  · have H := Hf9 c9
    refine g_p (S' := [.int 1]) hF tX10_isWord_ok 59 1 rfl rfl rfl rfl ?_
    refine g_goto hF (dAt tX10_isWord_ok 60 rfl rfl) rfl ?_
    exact g_zret hF (en_p H hE) (Or.inr rfl) (dAt tX10_isWord_ok 62 rfl rfl) (by decide) (by decide)
noncomputable def X10_isWord_b65 (τ : Tau) (a : Nat) (M : Nat) (x1 x5 y0 y1 : Int32) (σ : Sig) : Option (Int32 × Sig) := (st 8 σ (a + 30) y1 y0).bind fun s1 => if x5 = 0 then (X10_isWord_b81 τ a M x1 0 5 s1) else (X10_isWord_b81 τ a M x1 1 5 s1)
set_option maxRecDepth 4000 in
set_option maxHeartbeats 1000000 in
theorem X10_isWord_b65_ok {K : Kt} {X : Cx} {D : Nat} {τ : Tau} {nx : Nat} {a : Nat} {M : Nat} {res : Int32} {rsg : Sig}  (hD : 4 ≤ D) (hF : Fx K X cX10_isWord 7 RX10 D 0 0) (hS : ShX10 τ a M) (hE : En K X (some .boolean) 0 0 (some (.int res)) (τ, rsg, nx)) {x1 x5 y0 y1 : Int32} {σ : Sig} (H : X10_isWord_b65 τ a M x1 x5 y0 y1 σ = some (res, rsg)) : G K X 7 0 0 65 [some (.ref a), some (.int x1), none, none, none, some (.int x5), none] [.int y0, .int y1, .ref (a + 30)] (τ, σ, nx) := by
  obtain ⟨s1, e2, H⟩ := ob H
  refine g_ist hF (dAt tX10_isWord_ok 38 rfl rfl) hS.2.2.2.2.2.2.2.2.1 e2 ?_
  refine g_p (S' := [.ref a]) hF tX10_isWord_ok 39 1 rfl rfl rfl rfl ?_
  refine g_getR hF (dAt tX10_isWord_ok 40 rfl rfl) flX10_52 hS.1 rfl ?_
  refine g_p (S' := [.int x5, .int 5, .ref (a + 30)]) hF tX10_isWord_ok 41 2 rfl rfl rfl rfl ?_
  obtain ⟨Ht3, Hf3⟩ := oi H
  refine g_if_eq hF (dAt tX10_isWord_ok 43 rfl rfl) rfl (fun c3 => ?_) (fun c3 => ?_)
  · have H := Ht3 c3
    refine g_p (S' := [.int 0, .int 5, .ref (a + 30)]) hF tX10_isWord_ok 46 1 rfl rfl rfl rfl ?_
    refine g_m [true, true, false, false, false, false, false] rfl ?_
    exact X10_isWord_b81_ok hD hF hS hE H
  · have H := Hf3 c3
    refine g_p (S' := [.int 1, .int 5, .ref (a + 30)]) hF tX10_isWord_ok 44 1 rfl rfl rfl rfl ?_
    refine g_goto hF (dAt tX10_isWord_ok 45 rfl rfl) rfl ?_
    refine g_m [true, true, false, false, false, false, false] rfl ?_
    exact X10_isWord_b81_ok hD hF hS hE H
noncomputable def X10_isWord_b49 (τ : Tau) (a : Nat) (M : Nat) (x1 x5 x6 y0 y1 : Int32) (σ : Sig) : Option (Int32 × Sig) := (st 8 σ (a + 30) y1 y0).bind fun s1 => if x6 = 0 then (X10_isWord_b65 τ a M x1 x5 0 4 s1) else (X10_isWord_b65 τ a M x1 x5 1 4 s1)
set_option maxRecDepth 4000 in
set_option maxHeartbeats 1000000 in
theorem X10_isWord_b49_ok {K : Kt} {X : Cx} {D : Nat} {τ : Tau} {nx : Nat} {a : Nat} {M : Nat} {res : Int32} {rsg : Sig}  (hD : 4 ≤ D) (hF : Fx K X cX10_isWord 7 RX10 D 0 0) (hS : ShX10 τ a M) (hE : En K X (some .boolean) 0 0 (some (.int res)) (τ, rsg, nx)) {x1 x5 x6 y0 y1 : Int32} {σ : Sig} (H : X10_isWord_b49 τ a M x1 x5 x6 y0 y1 σ = some (res, rsg)) : G K X 7 0 0 49 [some (.ref a), some (.int x1), none, none, none, some (.int x5), some (.int x6)] [.int y0, .int y1, .ref (a + 30)] (τ, σ, nx) := by
  obtain ⟨s1, e2, H⟩ := ob H
  refine g_ist hF (dAt tX10_isWord_ok 29 rfl rfl) hS.2.2.2.2.2.2.2.2.1 e2 ?_
  refine g_p (S' := [.ref a]) hF tX10_isWord_ok 30 1 rfl rfl rfl rfl ?_
  refine g_getR hF (dAt tX10_isWord_ok 31 rfl rfl) flX10_52 hS.1 rfl ?_
  refine g_p (S' := [.int x6, .int 4, .ref (a + 30)]) hF tX10_isWord_ok 32 2 rfl rfl rfl rfl ?_
  obtain ⟨Ht3, Hf3⟩ := oi H
  refine g_if_eq hF (dAt tX10_isWord_ok 34 rfl rfl) rfl (fun c3 => ?_) (fun c3 => ?_)
  · have H := Ht3 c3
    refine g_p (S' := [.int 0, .int 4, .ref (a + 30)]) hF tX10_isWord_ok 37 1 rfl rfl rfl rfl ?_
    refine g_m [true, true, false, false, false, true, false] rfl ?_
    exact X10_isWord_b65_ok hD hF hS hE H
  · have H := Hf3 c3
    refine g_p (S' := [.int 1, .int 4, .ref (a + 30)]) hF tX10_isWord_ok 35 1 rfl rfl rfl rfl ?_
    refine g_goto hF (dAt tX10_isWord_ok 36 rfl rfl) rfl ?_
    refine g_m [true, true, false, false, false, true, false] rfl ?_
    exact X10_isWord_b65_ok hD hF hS hE H
noncomputable def X10_isWord_f (τ : Tau) (a : Nat) (M : Nat) (x1 x2 x3 x4 x5 x6 : Int32) (σ : Sig) : Option (Int32 × Sig) := (X11_isLaw_f x1 σ).bind fun v1 => if v1 = 0 then (some (0, σ)) else ((st 8 σ (a + 30) 0 x3).bind fun s4 => (st 8 s4 (a + 30) 1 x2).bind fun s6 => (st 8 s6 (a + 30) 2 x4).bind fun s8 => (X11_isNightIn_f x4 s8).bind fun v10 => if v10 = 0 then (X10_isWord_b49 τ a M x1 x5 x6 0 3 s8) else (X10_isWord_b49 τ a M x1 x5 x6 1 3 s8))
set_option maxRecDepth 4000 in
set_option maxHeartbeats 1000000 in
theorem X10_isWord_ok {D : Nat} {τ : Tau} {nx : Nat} {a : Nat} {M : Nat} {x1 x2 x3 x4 x5 x6 : Int32} {σ : Sig} {res : Int32} {rsg : Sig} (hD : 4 ≤ D) (hS : ShX10 τ a M) (H : X10_isWord_f τ a M x1 x2 x3 x4 x5 x6 σ = some (res, rsg)) : Ok D 0 0 yX10_isWord cX10_isWord 7 (some .boolean) [.ref a, .int x1, .int x2, .int x3, .int x4, .int x5, .int x6] (τ, σ, nx) (some (.int res)) (τ, rsg, nx) := by
  refine ok_of (by decide +kernel) rfl (Nat.le_of_ble_eq_true rfl) (fun K X hF hE hN L0 hL0 => ?_)
  obtain rfl : [some (.ref a), some (.int x1), some (.int x2), some (.int x3), some (.int x4), some (.int x5), some (.int x6)] = L0 := hL0
  have hF : Fx K X cX10_isWord 7 RX10 D 0 0 := hF
  refine g_p (S' := [.int x1]) hF tX10_isWord_ok 0 1 rfl rfl rfl rfl ?_
  obtain ⟨v1, e2, H⟩ := ob H
  refine g_cSN (S := []) hF (X11_isLaw_ok (Nat.le_refl _)  e2 K) mbX11_isLaw msX11_isLaw nlX10_112 (by omega) (by decide) (dAt tX10_isWord_ok 1 rfl rfl) rfl rfl (Nat.le_of_ble_eq_true rfl) rfl rfl (by decide) (by decide) rfl ?_
  obtain ⟨Ht3, Hf3⟩ := oi H
  refine g_if_ne hF (dAt tX10_isWord_ok 2 rfl rfl) rfl (fun c3 => ?_) (fun c3 => ?_)
  · have H := Hf3 c3
    refine g_p (S' := [.ref a]) hF tX10_isWord_ok 5 1 rfl rfl rfl rfl ?_
    refine g_getR hF (dAt tX10_isWord_ok 6 rfl rfl) flX10_52 hS.1 rfl ?_
    refine g_p (S' := [.int x3, .int 0, .ref (a + 30)]) hF tX10_isWord_ok 7 2 rfl rfl rfl rfl ?_
    obtain ⟨s4, e5, H⟩ := ob H
    refine g_ist hF (dAt tX10_isWord_ok 9 rfl rfl) hS.2.2.2.2.2.2.2.2.1 e5 ?_
    refine g_p (S' := [.ref a]) hF tX10_isWord_ok 10 1 rfl rfl rfl rfl ?_
    refine g_getR hF (dAt tX10_isWord_ok 11 rfl rfl) flX10_52 hS.1 rfl ?_
    refine g_p (S' := [.int x2, .int 1, .ref (a + 30)]) hF tX10_isWord_ok 12 2 rfl rfl rfl rfl ?_
    obtain ⟨s6, e7, H⟩ := ob H
    refine g_ist hF (dAt tX10_isWord_ok 14 rfl rfl) hS.2.2.2.2.2.2.2.2.1 e7 ?_
    refine g_p (S' := [.ref a]) hF tX10_isWord_ok 15 1 rfl rfl rfl rfl ?_
    refine g_getR hF (dAt tX10_isWord_ok 16 rfl rfl) flX10_52 hS.1 rfl ?_
    refine g_p (S' := [.int x4, .int 2, .ref (a + 30)]) hF tX10_isWord_ok 17 2 rfl rfl rfl rfl ?_
    obtain ⟨s8, e9, H⟩ := ob H
    refine g_ist hF (dAt tX10_isWord_ok 19 rfl rfl) hS.2.2.2.2.2.2.2.2.1 e9 ?_
    refine g_p (S' := [.ref a]) hF tX10_isWord_ok 20 1 rfl rfl rfl rfl ?_
    refine g_getR hF (dAt tX10_isWord_ok 21 rfl rfl) flX10_52 hS.1 rfl ?_
    refine g_p (S' := [.int x4, .int 3, .ref (a + 30)]) hF tX10_isWord_ok 22 2 rfl rfl rfl rfl ?_
    obtain ⟨v10, e11, H⟩ := ob H
    refine g_cSN (S := [.int 3, .ref (a + 30)]) hF (X11_isNightIn_ok (Nat.le_refl _)  e11 K) mbX11_isNightIn msX11_isNightIn nlX10_116 (by omega) (by decide) (dAt tX10_isWord_ok 24 rfl rfl) rfl rfl (Nat.le_of_ble_eq_true rfl) rfl rfl (by decide) (by decide) rfl ?_
    obtain ⟨Ht12, Hf12⟩ := oi H
    refine g_if_eq hF (dAt tX10_isWord_ok 25 rfl rfl) rfl (fun c12 => ?_) (fun c12 => ?_)
    · have H := Ht12 c12
      refine g_p (S' := [.int 0, .int 3, .ref (a + 30)]) hF tX10_isWord_ok 28 1 rfl rfl rfl rfl ?_
      refine g_m [true, true, false, false, false, true, true] rfl ?_
      exact X10_isWord_b49_ok hD hF hS hE H
    · have H := Hf12 c12
      refine g_p (S' := [.int 1, .int 3, .ref (a + 30)]) hF tX10_isWord_ok 26 1 rfl rfl rfl rfl ?_
      refine g_goto hF (dAt tX10_isWord_ok 27 rfl rfl) rfl ?_
      refine g_m [true, true, false, false, false, true, true] rfl ?_
      exact X10_isWord_b49_ok hD hF hS hE H
  · have H := Ht3 c3
    refine g_p (S' := [.int 0]) hF tX10_isWord_ok 3 1 rfl rfl rfl rfl ?_
    exact g_zret hF (en_p H hE) (Or.inl rfl) (dAt tX10_isWord_ok 4 rfl rfl) (by decide) (by decide)
noncomputable def X10_deedOf_b103 (τ : Tau) (a : Nat) (M : Nat) (x1 x2 y0 y1 : Int32) (σ : Sig) : Option (Int32 × Sig) := (st 8 σ (a + 30) y1 y0).bind fun s1 => (ld 12 (s1 ((a + 12) + 9)) x1).bind fun v3 => (st 8 s1 (a + 30) 5 v3).bind fun s5 => (ld 12 (s5 ((a + 12) + 10)) x1).bind fun v7 => (st 8 s5 (a + 30) 6 v7).bind fun s9 => (X4_othersWith_f (a + 1) x1 s9).bind fun v11 => (st 8 s9 (a + 30) 7 v11).bind fun s13 => (ldr 6 (rcon τ (a + 29)) (2 + x2)).bind fun r15 => r15.bind fun t16 => chk (ShX7 τ t16 (tl τ t16 1) (tl τ t16 2) (tl τ t16 3)) ((X7_firstLine_f t16 (tl τ t16 1) (tl τ t16 2) (tl τ t16 3) (a + 30) 8 (a + 31) 32 s13).bind fun ⟨v18, s19⟩ => (X7_deedOf_f t16 (tl τ t16 1) (tl τ t16 2) (tl τ t16 3) v18 s19).bind fun v21 => some (v21, s19))
set_option maxRecDepth 4000 in
set_option maxHeartbeats 1000000 in
theorem X10_deedOf_b103_ok {K : Kt} {X : Cx} {D : Nat} {τ : Tau} {nx : Nat} {a : Nat} {M : Nat} {res : Int32} {rsg : Sig}  (hD : 4 ≤ D) (hF : Fx K X cX10_deedOf 4 RX10 D 0 0) (hS : ShX10 τ a M) (hE : En K X (some .int) 0 0 (some (.int res)) (τ, rsg, nx)) {x1 x2 y0 y1 : Int32} {σ : Sig} (H : X10_deedOf_b103 τ a M x1 x2 y0 y1 σ = some (res, rsg)) : G K X 4 0 0 103 [some (.ref a), some (.int x1), some (.int x2), none] [.int y0, .int y1, .ref (a + 30)] (τ, σ, nx) := by
  obtain ⟨s1, e2, H⟩ := ob H
  refine g_ist hF (dAt tX10_deedOf_ok 57 rfl rfl) hS.2.2.2.2.2.2.2.2.1 e2 ?_
  refine g_p (S' := [.ref a]) hF tX10_deedOf_ok 58 1 rfl rfl rfl rfl ?_
  refine g_getR hF (dAt tX10_deedOf_ok 59 rfl rfl) flX10_52 hS.1 rfl ?_
  refine g_p (S' := [.ref a, .int 5, .ref (a + 30)]) hF tX10_deedOf_ok 60 2 rfl rfl rfl rfl ?_
  refine g_getR hF (dAt tX10_deedOf_ok 62 rfl rfl) flX10_21 hS.1 rfl ?_
  refine g_getR hF (dAt tX10_deedOf_ok 63 rfl rfl) flX10_137 hS.2.2.1.1 rfl ?_
  refine g_p (S' := [.int x1, .ref ((a + 12) + 9), .int 5, .ref (a + 30)]) hF tX10_deedOf_ok 64 1 rfl rfl rfl rfl ?_
  obtain ⟨v3, e4, H⟩ := ob H
  refine g_ild hF (dAt tX10_deedOf_ok 65 rfl rfl) hS.2.2.1.2.2.2.2.2.2.2.2.2.1 e4 ?_
  obtain ⟨s5, e6, H⟩ := ob H
  refine g_ist hF (dAt tX10_deedOf_ok 66 rfl rfl) hS.2.2.2.2.2.2.2.2.1 e6 ?_
  refine g_p (S' := [.ref a]) hF tX10_deedOf_ok 67 1 rfl rfl rfl rfl ?_
  refine g_getR hF (dAt tX10_deedOf_ok 68 rfl rfl) flX10_52 hS.1 rfl ?_
  refine g_p (S' := [.ref a, .int 6, .ref (a + 30)]) hF tX10_deedOf_ok 69 2 rfl rfl rfl rfl ?_
  refine g_getR hF (dAt tX10_deedOf_ok 71 rfl rfl) flX10_21 hS.1 rfl ?_
  refine g_getR hF (dAt tX10_deedOf_ok 72 rfl rfl) flX10_140 hS.2.2.1.1 rfl ?_
  refine g_p (S' := [.int x1, .ref ((a + 12) + 10), .int 6, .ref (a + 30)]) hF tX10_deedOf_ok 73 1 rfl rfl rfl rfl ?_
  obtain ⟨v7, e8, H⟩ := ob H
  refine g_ild hF (dAt tX10_deedOf_ok 74 rfl rfl) hS.2.2.1.2.2.2.2.2.2.2.2.2.2 e8 ?_
  obtain ⟨s9, e10, H⟩ := ob H
  refine g_ist hF (dAt tX10_deedOf_ok 75 rfl rfl) hS.2.2.2.2.2.2.2.2.1 e10 ?_
  refine g_p (S' := [.ref a]) hF tX10_deedOf_ok 76 1 rfl rfl rfl rfl ?_
  refine g_getR hF (dAt tX10_deedOf_ok 77 rfl rfl) flX10_52 hS.1 rfl ?_
  refine g_p (S' := [.ref a, .int 7, .ref (a + 30)]) hF tX10_deedOf_ok 78 2 rfl rfl rfl rfl ?_
  refine g_getR hF (dAt tX10_deedOf_ok 80 rfl rfl) flX10_12 hS.1 rfl ?_
  refine g_p (S' := [.int x1, .ref (a + 1), .int 7, .ref (a + 30)]) hF tX10_deedOf_ok 81 1 rfl rfl rfl rfl ?_
  obtain ⟨v11, e12, H⟩ := ob H
  refine g_cV (S := [.int 7, .ref (a + 30)]) hF (X4_othersWith_ok (Nat.le_refl _) hS.2.1 e12 K) mbX4_othersWith mvX4_othersWith mlX10_143 (by omega) (by decide) (dAt tX10_deedOf_ok 82 rfl rfl) hS.2.1.1 rfl rfl rfl (Nat.le_of_ble_eq_true rfl) rfl rfl (by decide) (by decide) rfl ?_
  obtain ⟨s13, e14, H⟩ := ob H
  refine g_ist hF (dAt tX10_deedOf_ok 83 rfl rfl) hS.2.2.2.2.2.2.2.2.1 e14 ?_
  refine g_p (S' := [.ref a]) hF tX10_deedOf_ok 84 1 rfl rfl rfl rfl ?_
  refine g_getR hF (dAt tX10_deedOf_ok 85 rfl rfl) flX10_48 hS.1 rfl ?_
  refine g_p (S' := [.int (2 + x2), .ref (a + 29)]) hF tX10_deedOf_ok 86 3 rfl rfl rfl rfl ?_
  obtain ⟨r15, e17, H⟩ := ob H
  obtain ⟨t16, qe17, H⟩ := ob H
  subst qe17
  obtain ⟨ht16, H⟩ := oc H
  refine g_rld hF (dAt tX10_deedOf_ok 89 rfl rfl) hS.2.2.2.2.2.2.2.1 (tj := 2) rfl e17 ?_
  show G _ _ _ _ _ _ _ [.ref t16] _
  refine g_p (L' := [some (.ref a), some (.int x1), some (.int x2), some (.ref t16)]) (S' := [.ref a, .ref t16, .ref t16]) hF tX10_deedOf_ok 90 4 rfl rfl rfl rfl ?_
  refine g_getR hF (dAt tX10_deedOf_ok 94 rfl rfl) flX10_52 hS.1 rfl ?_
  refine g_p (S' := [.ref a, .ref (a + 30), .ref t16, .ref t16]) hF tX10_deedOf_ok 95 1 rfl rfl rfl rfl ?_
  refine g_getR hF (dAt tX10_deedOf_ok 96 rfl rfl) flX10_56 hS.1 rfl ?_
  obtain ⟨⟨v18, s19⟩, e20, H⟩ := ob H
  refine g_cV (S := [.ref t16]) hF (X7_firstLine_ok (Nat.le_refl _) ht16 hS.2.2.2.2.2.2.2.2.1 hS.2.2.2.2.2.2.2.2.2.1 e20 K) mbX7_firstLine mvX7_firstLine mlX10_119 (by omega) (by decide) (dAt tX10_deedOf_ok 97 rfl rfl) ht16.1 rfl rfl rfl (Nat.le_of_ble_eq_true rfl) rfl rfl (by decide) (by decide) rfl ?_
  obtain ⟨v21, e22, H⟩ := ob H
  refine g_cV (S := []) hF (X7_deedOf_ok (Nat.le_refl _) ht16 e22 K) mbX7_deedOf mvX7_deedOf mlX10_147 (by omega) (by decide) (dAt tX10_deedOf_ok 98 rfl rfl) ht16.1 rfl rfl rfl (Nat.le_of_ble_eq_true rfl) rfl rfl (by decide) (by decide) rfl ?_
  exact g_iret hF (en_p H hE) (dAt tX10_deedOf_ok 99 rfl rfl) (by decide) (by decide)
noncomputable def X10_deedOf_b82 (τ : Tau) (a : Nat) (M : Nat) (x1 x2 y0 y1 : Int32) (σ : Sig) : Option (Int32 × Sig) := (st 8 σ (a + 30) y1 y0).bind fun s1 => (X8_isFeast_f (a + 26) s1).bind fun v3 => if v3 = 0 then (X10_deedOf_b103 τ a M x1 x2 0 4 s1) else (X10_deedOf_b103 τ a M x1 x2 1 4 s1)
set_option maxRecDepth 4000 in
set_option maxHeartbeats 1000000 in
theorem X10_deedOf_b82_ok {K : Kt} {X : Cx} {D : Nat} {τ : Tau} {nx : Nat} {a : Nat} {M : Nat} {res : Int32} {rsg : Sig}  (hD : 4 ≤ D) (hF : Fx K X cX10_deedOf 4 RX10 D 0 0) (hS : ShX10 τ a M) (hE : En K X (some .int) 0 0 (some (.int res)) (τ, rsg, nx)) {x1 x2 y0 y1 : Int32} {σ : Sig} (H : X10_deedOf_b82 τ a M x1 x2 y0 y1 σ = some (res, rsg)) : G K X 4 0 0 82 [some (.ref a), some (.int x1), some (.int x2), none] [.int y0, .int y1, .ref (a + 30)] (τ, σ, nx) := by
  obtain ⟨s1, e2, H⟩ := ob H
  refine g_ist hF (dAt tX10_deedOf_ok 46 rfl rfl) hS.2.2.2.2.2.2.2.2.1 e2 ?_
  refine g_p (S' := [.ref a]) hF tX10_deedOf_ok 47 1 rfl rfl rfl rfl ?_
  refine g_getR hF (dAt tX10_deedOf_ok 48 rfl rfl) flX10_52 hS.1 rfl ?_
  refine g_p (S' := [.ref a, .int 4, .ref (a + 30)]) hF tX10_deedOf_ok 49 2 rfl rfl rfl rfl ?_
  refine g_getR hF (dAt tX10_deedOf_ok 51 rfl rfl) flX10_35 hS.1 rfl ?_
  obtain ⟨v3, e4, H⟩ := ob H
  refine g_cV (S := [.int 4, .ref (a + 30)]) hF (X8_isFeast_ok (Nat.le_refl _) hS.2.2.2.2.1 e4 K) mbX8_isFeast mvX8_isFeast mlX10_134 (by omega) (by decide) (dAt tX10_deedOf_ok 52 rfl rfl) hS.2.2.2.2.1 rfl rfl rfl (Nat.le_of_ble_eq_true rfl) rfl rfl (by decide) (by decide) rfl ?_
  obtain ⟨Ht5, Hf5⟩ := oi H
  refine g_if_eq hF (dAt tX10_deedOf_ok 53 rfl rfl) rfl (fun c5 => ?_) (fun c5 => ?_)
  · have H := Ht5 c5
    refine g_p (S' := [.int 0, .int 4, .ref (a + 30)]) hF tX10_deedOf_ok 56 1 rfl rfl rfl rfl ?_
    exact X10_deedOf_b103_ok hD hF hS hE H
  · have H := Hf5 c5
    refine g_p (S' := [.int 1, .int 4, .ref (a + 30)]) hF tX10_deedOf_ok 54 1 rfl rfl rfl rfl ?_
    refine g_goto hF (dAt tX10_deedOf_ok 55 rfl rfl) rfl ?_
    exact X10_deedOf_b103_ok hD hF hS hE H
noncomputable def X10_deedOf_f (τ : Tau) (a : Nat) (M : Nat) (x1 : Int32) (σ : Sig) : Option (Int32 × Sig) := (ld 12 (σ ((a + 1) + 5)) x1).bind fun v1 => if v1 < 0 then (some (0, σ)) else (if v1 < 4 then ((X8_hour_f (a + 26) σ).bind fun v5 => (st 8 σ (a + 30) 0 v5).bind fun s7 => (st 8 s7 (a + 30) 1 ((s7 (a + 26) 2) - (s7 (a + 26) 2) / 4 * 4)).bind fun s9 => (st 8 s9 (a + 30) 2 (s9 (a + 26) 1)).bind fun s11 => (X8_isNight_f (a + 26) s11).bind fun v13 => if v13 = 0 then (X10_deedOf_b82 τ a M x1 v1 0 3 s11) else (X10_deedOf_b82 τ a M x1 v1 1 3 s11)) else (some (0, σ)))
set_option maxRecDepth 4000 in
set_option maxHeartbeats 1000000 in
theorem X10_deedOf_ok {D : Nat} {τ : Tau} {nx : Nat} {a : Nat} {M : Nat} {x1 : Int32} {σ : Sig} {res : Int32} {rsg : Sig} (hD : 4 ≤ D) (hS : ShX10 τ a M) (H : X10_deedOf_f τ a M x1 σ = some (res, rsg)) : Ok D 0 0 yX10_deedOf cX10_deedOf 4 (some .int) [.ref a, .int x1] (τ, σ, nx) (some (.int res)) (τ, rsg, nx) := by
  refine ok_of (by decide +kernel) rfl (Nat.le_of_ble_eq_true rfl) (fun K X hF hE hN L0 hL0 => ?_)
  obtain rfl : [some (.ref a), some (.int x1), none, none] = L0 := hL0
  have hF : Fx K X cX10_deedOf 4 RX10 D 0 0 := hF
  refine g_p (S' := [.ref a]) hF tX10_deedOf_ok 0 1 rfl rfl rfl rfl ?_
  refine g_getR hF (dAt tX10_deedOf_ok 1 rfl rfl) flX10_12 hS.1 rfl ?_
  refine g_getR hF (dAt tX10_deedOf_ok 2 rfl rfl) flX10_123 hS.2.1.1 rfl ?_
  refine g_p (S' := [.int x1, .ref ((a + 1) + 5)]) hF tX10_deedOf_ok 3 1 rfl rfl rfl rfl ?_
  obtain ⟨v1, e2, H⟩ := ob H
  refine g_ild hF (dAt tX10_deedOf_ok 4 rfl rfl) hS.2.1.2.2.2.2.2.1 e2 ?_
  refine g_p (L' := [some (.ref a), some (.int x1), some (.int v1), none]) (S' := [.int v1]) hF tX10_deedOf_ok 5 2 rfl rfl rfl rfl ?_
  obtain ⟨Ht3, Hf3⟩ := oi H
  refine g_if_lt hF (dAt tX10_deedOf_ok 7 rfl rfl) rfl (fun c3 => ?_) (fun c3 => ?_)
  · have H := Ht3 c3
    refine g_p (S' := [.int 0]) hF tX10_deedOf_ok 11 1 rfl rfl rfl rfl ?_
    exact g_iret hF (en_p H hE) (dAt tX10_deedOf_ok 12 rfl rfl) (by decide) (by decide)
  · have H := Hf3 c3
    refine g_p (S' := [.int 4, .int v1]) hF tX10_deedOf_ok 8 2 rfl rfl rfl rfl ?_
    obtain ⟨Ht4, Hf4⟩ := oi H
    refine g_icmp_lt hF (dAt tX10_deedOf_ok 10 rfl rfl) rfl (fun c4 => ?_) (fun c4 => ?_)
    · have H := Ht4 c4
      refine g_p (S' := [.ref a]) hF tX10_deedOf_ok 13 1 rfl rfl rfl rfl ?_
      refine g_getR hF (dAt tX10_deedOf_ok 14 rfl rfl) flX10_52 hS.1 rfl ?_
      refine g_p (S' := [.ref a, .int 0, .ref (a + 30)]) hF tX10_deedOf_ok 15 2 rfl rfl rfl rfl ?_
      refine g_getR hF (dAt tX10_deedOf_ok 17 rfl rfl) flX10_35 hS.1 rfl ?_
      obtain ⟨v5, e6, H⟩ := ob H
      refine g_cV (S := [.int 0, .ref (a + 30)]) hF (X8_hour_ok (Nat.le_refl _) hS.2.2.2.2.1 e6 K) mbX8_hour mvX8_hour mlX10_126 (by omega) (by decide) (dAt tX10_deedOf_ok 18 rfl rfl) hS.2.2.2.2.1 rfl rfl rfl (Nat.le_of_ble_eq_true rfl) rfl rfl (by decide) (by decide) rfl ?_
      obtain ⟨s7, e8, H⟩ := ob H
      refine g_ist hF (dAt tX10_deedOf_ok 19 rfl rfl) hS.2.2.2.2.2.2.2.2.1 e8 ?_
      refine g_p (S' := [.ref a]) hF tX10_deedOf_ok 20 1 rfl rfl rfl rfl ?_
      refine g_getR hF (dAt tX10_deedOf_ok 21 rfl rfl) flX10_52 hS.1 rfl ?_
      refine g_p (S' := [.ref a, .int 1, .ref (a + 30)]) hF tX10_deedOf_ok 22 2 rfl rfl rfl rfl ?_
      refine g_getR hF (dAt tX10_deedOf_ok 24 rfl rfl) flX10_35 hS.1 rfl ?_
      refine g_getI hF (dAt tX10_deedOf_ok 25 rfl rfl) flX10_109 hS.2.2.2.2.1 rfl ?_
      refine g_p (S' := [.int 4, .int (s7 (a + 26) 2), .int 1, .ref (a + 30)]) hF tX10_deedOf_ok 26 1 rfl rfl rfl rfl ?_
      refine g_irem hF (dAt tX10_deedOf_ok 27 rfl rfl) (by decide) ?_
      obtain ⟨s9, e10, H⟩ := ob H
      refine g_ist hF (dAt tX10_deedOf_ok 28 rfl rfl) hS.2.2.2.2.2.2.2.2.1 e10 ?_
      refine g_p (S' := [.ref a]) hF tX10_deedOf_ok 29 1 rfl rfl rfl rfl ?_
      refine g_getR hF (dAt tX10_deedOf_ok 30 rfl rfl) flX10_52 hS.1 rfl ?_
      refine g_p (S' := [.ref a, .int 2, .ref (a + 30)]) hF tX10_deedOf_ok 31 2 rfl rfl rfl rfl ?_
      refine g_getR hF (dAt tX10_deedOf_ok 33 rfl rfl) flX10_35 hS.1 rfl ?_
      refine g_getI hF (dAt tX10_deedOf_ok 34 rfl rfl) flX10_106 hS.2.2.2.2.1 rfl ?_
      obtain ⟨s11, e12, H⟩ := ob H
      refine g_ist hF (dAt tX10_deedOf_ok 35 rfl rfl) hS.2.2.2.2.2.2.2.2.1 e12 ?_
      refine g_p (S' := [.ref a]) hF tX10_deedOf_ok 36 1 rfl rfl rfl rfl ?_
      refine g_getR hF (dAt tX10_deedOf_ok 37 rfl rfl) flX10_52 hS.1 rfl ?_
      refine g_p (S' := [.ref a, .int 3, .ref (a + 30)]) hF tX10_deedOf_ok 38 2 rfl rfl rfl rfl ?_
      refine g_getR hF (dAt tX10_deedOf_ok 40 rfl rfl) flX10_35 hS.1 rfl ?_
      obtain ⟨v13, e14, H⟩ := ob H
      refine g_cV (S := [.int 3, .ref (a + 30)]) hF (X8_isNight_ok (Nat.le_refl _) hS.2.2.2.2.1 e14 K) mbX8_isNight mvX8_isNight mlX10_130 (by omega) (by decide) (dAt tX10_deedOf_ok 41 rfl rfl) hS.2.2.2.2.1 rfl rfl rfl (Nat.le_of_ble_eq_true rfl) rfl rfl (by decide) (by decide) rfl ?_
      obtain ⟨Ht15, Hf15⟩ := oi H
      refine g_if_eq hF (dAt tX10_deedOf_ok 42 rfl rfl) rfl (fun c15 => ?_) (fun c15 => ?_)
      · have H := Ht15 c15
        refine g_p (S' := [.int 0, .int 3, .ref (a + 30)]) hF tX10_deedOf_ok 45 1 rfl rfl rfl rfl ?_
        exact X10_deedOf_b82_ok hD hF hS hE H
      · have H := Hf15 c15
        refine g_p (S' := [.int 1, .int 3, .ref (a + 30)]) hF tX10_deedOf_ok 43 1 rfl rfl rfl rfl ?_
        refine g_goto hF (dAt tX10_deedOf_ok 44 rfl rfl) rfl ?_
        exact X10_deedOf_b82_ok hD hF hS hE H
    · have H := Hf4 c4
      refine g_p (S' := [.int 0]) hF tX10_deedOf_ok 11 1 rfl rfl rfl rfl ?_
      exact g_iret hF (en_p H hE) (dAt tX10_deedOf_ok 12 rfl rfl) (by decide) (by decide)
def X10_putNoise_f (a : Nat) (M : Nat) (x1 x2 x3 : Int32) (σ : Sig) : Option (Sig) := (st 12 σ ((a + 1) + 8) x1 x2).bind fun s1 => (st 12 s1 ((a + 1) + 9) x1 x3).bind fun s3 => some s3
set_option maxRecDepth 4000 in
set_option maxHeartbeats 1000000 in
theorem X10_putNoise_ok {D : Nat} {τ : Tau} {nx : Nat} {a : Nat} {M : Nat} {x1 x2 x3 : Int32} {σ : Sig} {res : Sig} (hD : 1 ≤ D) (hS : ShX10 τ a M) (H : X10_putNoise_f a M x1 x2 x3 σ = some res) : Ok D 0 0 yX10_putNoise cX10_putNoise 4 none [.ref a, .int x1, .int x2, .int x3] (τ, σ, nx) none (τ, res, nx) := by
  refine ok_of (by decide +kernel) rfl (Nat.le_of_ble_eq_true rfl) (fun K X hF hE hN L0 hL0 => ?_)
  obtain rfl : [some (.ref a), some (.int x1), some (.int x2), some (.int x3)] = L0 := hL0
  have hF : Fx K X cX10_putNoise 4 RX10 D 0 0 := hF
  refine g_p (S' := [.ref a]) hF tX10_putNoise_ok 0 1 rfl rfl rfl rfl ?_
  refine g_getR hF (dAt tX10_putNoise_ok 1 rfl rfl) flX10_12 hS.1 rfl ?_
  refine g_getR hF (dAt tX10_putNoise_ok 2 rfl rfl) flX10_194 hS.2.1.1 rfl ?_
  refine g_p (S' := [.int x2, .int x1, .ref ((a + 1) + 8)]) hF tX10_putNoise_ok 3 2 rfl rfl rfl rfl ?_
  obtain ⟨s1, e2, H⟩ := ob H
  refine g_ist hF (dAt tX10_putNoise_ok 5 rfl rfl) hS.2.1.2.2.2.2.2.2.2.2.1 e2 ?_
  refine g_p (S' := [.ref a]) hF tX10_putNoise_ok 6 1 rfl rfl rfl rfl ?_
  refine g_getR hF (dAt tX10_putNoise_ok 7 rfl rfl) flX10_12 hS.1 rfl ?_
  refine g_getR hF (dAt tX10_putNoise_ok 8 rfl rfl) flX10_197 hS.2.1.1 rfl ?_
  refine g_p (S' := [.int x3, .int x1, .ref ((a + 1) + 9)]) hF tX10_putNoise_ok 9 2 rfl rfl rfl rfl ?_
  obtain ⟨s3, e4, H⟩ := ob H
  refine g_ist hF (dAt tX10_putNoise_ok 11 rfl rfl) hS.2.1.2.2.2.2.2.2.2.2.2.1 e4 ?_
  exact g_vret hF (en_v H hE) (dAt tX10_putNoise_ok 12 rfl rfl) (by decide) (by decide)
noncomputable def X10_judgeNoise_b91 (τ : Tau) (a : Nat) (M : Nat) (y0 y1 : Int32) (σ : Sig) : Option (Sig) := (st 12 σ ((a + 1) + 10) y1 y0).bind fun s1 => some s1
set_option maxRecDepth 4000 in
set_option maxHeartbeats 1000000 in
theorem X10_judgeNoise_b91_ok {K : Kt} {X : Cx} {D : Nat} {τ : Tau} {nx : Nat} {a : Nat} {M : Nat} {res : Sig}  (hD : 5 ≤ D) (hF : Fx K X cX10_judgeNoise 5 RX10 D 0 0) (hS : ShX10 τ a M) (hE : En K X none 0 0 none (τ, res, nx)) {y0 y1 : Int32} {σ : Sig} (H : X10_judgeNoise_b91 τ a M y0 y1 σ = some res) : G K X 5 0 0 91 [none, none, none, none, none] [.int y0, .int y1, .ref ((a + 1) + 10)] (τ, σ, nx) := by
  obtain ⟨s1, e2, H⟩ := ob H
  refine g_ist hF (dAt tX10_judgeNoise_ok 49 rfl rfl) hS.2.1.2.2.2.2.2.2.2.2.2.2 e2 ?_
  exact g_vret hF (en_v H hE) (dAt tX10_judgeNoise_ok 50 rfl rfl) (by decide) (by decide)
noncomputable def X10_judgeNoise_b34 (τ : Tau) (a : Nat) (M : Nat) (x1 x2 y0 : Int32) (σ : Sig) : Option (Sig) := (ld 12 (σ ((a + 1) + 9)) x1).bind fun v1 => (X8_hour_f (a + 26) σ).bind fun v3 => (X8_isFeast_f (a + 26) σ).bind fun v5 => (X10_isWord_f τ a M (σ (a + 23) 6) x2 v1 v3 y0 v5 σ).bind fun ⟨v7, s8⟩ => if v7 = 0 then (X10_judgeNoise_b91 τ a M 0 x1 s8) else (X10_judgeNoise_b91 τ a M 1 x1 s8)
set_option maxRecDepth 4000 in
set_option maxHeartbeats 1000000 in
theorem X10_judgeNoise_b34_ok {K : Kt} {X : Cx} {D : Nat} {τ : Tau} {nx : Nat} {a : Nat} {M : Nat} {res : Sig}  (hD : 5 ≤ D) (hF : Fx K X cX10_judgeNoise 5 RX10 D 0 0) (hS : ShX10 τ a M) (hE : En K X none 0 0 none (τ, res, nx)) {x1 x2 y0 : Int32} {σ : Sig} (H : X10_judgeNoise_b34 τ a M x1 x2 y0 σ = some res) : G K X 5 0 0 34 [some (.ref a), some (.int x1), some (.int x2), none, none] [.int y0] (τ, σ, nx) := by
  refine g_p (L' := [some (.ref a), some (.int x1), some (.int x2), some (.int y0), none]) (S' := [.ref a, .ref a]) hF tX10_judgeNoise_ok 20 3 rfl rfl rfl rfl ?_
  refine g_getR hF (dAt tX10_judgeNoise_ok 23 rfl rfl) flX10_28 hS.1 rfl ?_
  refine g_getI hF (dAt tX10_judgeNoise_ok 24 rfl rfl) flX10_103 hS.2.2.2.1.1 rfl ?_
  refine g_p (S' := [.ref a, .int x2, .int (σ (a + 23) 6), .ref a]) hF tX10_judgeNoise_ok 25 2 rfl rfl rfl rfl ?_
  refine g_getR hF (dAt tX10_judgeNoise_ok 27 rfl rfl) flX10_12 hS.1 rfl ?_
  refine g_getR hF (dAt tX10_judgeNoise_ok 28 rfl rfl) flX10_197 hS.2.1.1 rfl ?_
  refine g_p (S' := [.int x1, .ref ((a + 1) + 9), .int x2, .int (σ (a + 23) 6), .ref a]) hF tX10_judgeNoise_ok 29 1 rfl rfl rfl rfl ?_
  obtain ⟨v1, e2, H⟩ := ob H
  refine g_ild hF (dAt tX10_judgeNoise_ok 30 rfl rfl) hS.2.1.2.2.2.2.2.2.2.2.2.1 e2 ?_
  refine g_p (S' := [.ref a, .int v1, .int x2, .int (σ (a + 23) 6), .ref a]) hF tX10_judgeNoise_ok 31 1 rfl rfl rfl rfl ?_
  refine g_getR hF (dAt tX10_judgeNoise_ok 32 rfl rfl) flX10_35 hS.1 rfl ?_
  obtain ⟨v3, e4, H⟩ := ob H
  refine g_cV (S := [.int v1, .int x2, .int (σ (a + 23) 6), .ref a]) hF (X8_hour_ok (Nat.le_refl _) hS.2.2.2.2.1 e4 K) mbX8_hour mvX8_hour mlX10_126 (by omega) (by decide) (dAt tX10_judgeNoise_ok 33 rfl rfl) hS.2.2.2.2.1 rfl rfl rfl (Nat.le_of_ble_eq_true rfl) rfl rfl (by decide) (by decide) rfl ?_
  refine g_p (S' := [.ref a, .int y0, .int v3, .int v1, .int x2, .int (σ (a + 23) 6), .ref a]) hF tX10_judgeNoise_ok 34 2 rfl rfl rfl rfl ?_
  refine g_getR hF (dAt tX10_judgeNoise_ok 36 rfl rfl) flX10_35 hS.1 rfl ?_
  obtain ⟨v5, e6, H⟩ := ob H
  refine g_cV (S := [.int y0, .int v3, .int v1, .int x2, .int (σ (a + 23) 6), .ref a]) hF (X8_isFeast_ok (Nat.le_refl _) hS.2.2.2.2.1 e6 K) mbX8_isFeast mvX8_isFeast mlX10_134 (by omega) (by decide) (dAt tX10_judgeNoise_ok 37 rfl rfl) hS.2.2.2.2.1 rfl rfl rfl (Nat.le_of_ble_eq_true rfl) rfl rfl (by decide) (by decide) rfl ?_
  obtain ⟨⟨v7, s8⟩, e9, H⟩ := ob H
  refine g_cV (S := []) hF (X10_isWord_ok (Nat.le_refl _) hS e9 K) mbX10_isWord mvX10_isWord mlX10_200 (by omega) (by decide) (dAt tX10_judgeNoise_ok 38 rfl rfl) hS.1 rfl rfl rfl (Nat.le_of_ble_eq_true rfl) rfl rfl (by decide) (by decide) rfl ?_
  refine g_p (L' := [some (.ref a), some (.int x1), some (.int x2), some (.int y0), some (.int v7)]) (S' := [.ref a]) hF tX10_judgeNoise_ok 39 2 rfl rfl rfl rfl ?_
  refine g_getR hF (dAt tX10_judgeNoise_ok 41 rfl rfl) flX10_12 hS.1 rfl ?_
  refine g_getR hF (dAt tX10_judgeNoise_ok 42 rfl rfl) flX10_204 hS.2.1.1 rfl ?_
  refine g_p (S' := [.int v7, .int x1, .ref ((a + 1) + 10)]) hF tX10_judgeNoise_ok 43 2 rfl rfl rfl rfl ?_
  obtain ⟨Ht10, Hf10⟩ := oi H
  refine g_if_eq hF (dAt tX10_judgeNoise_ok 45 rfl rfl) rfl (fun c10 => ?_) (fun c10 => ?_)
  · have H := Ht10 c10
    refine g_p (S' := [.int 0, .int x1, .ref ((a + 1) + 10)]) hF tX10_judgeNoise_ok 48 1 rfl rfl rfl rfl ?_
    refine g_m [false, false, false, false, false] rfl ?_
    exact X10_judgeNoise_b91_ok hD hF hS hE H
  · have H := Hf10 c10
    refine g_p (S' := [.int 1, .int x1, .ref ((a + 1) + 10)]) hF tX10_judgeNoise_ok 46 1 rfl rfl rfl rfl ?_
    refine g_goto hF (dAt tX10_judgeNoise_ok 47 rfl rfl) rfl ?_
    refine g_m [false, false, false, false, false] rfl ?_
    exact X10_judgeNoise_b91_ok hD hF hS hE H
noncomputable def X10_judgeNoise_f (τ : Tau) (a : Nat) (M : Nat) (x1 : Int32) (σ : Sig) : Option (Sig) := (ld 12 (σ ((a + 1) + 8)) x1).bind fun v1 => if v1 = (-1) then (some σ) else ((ld 12 (σ ((a + 1) + 1)) x1).bind fun v4 => if v4 = 1 then (X10_judgeNoise_b34 τ a M x1 v1 1 σ) else (X10_judgeNoise_b34 τ a M x1 v1 0 σ))
set_option maxRecDepth 4000 in
set_option maxHeartbeats 1000000 in
theorem X10_judgeNoise_ok {D : Nat} {τ : Tau} {nx : Nat} {a : Nat} {M : Nat} {x1 : Int32} {σ : Sig} {res : Sig} (hD : 5 ≤ D) (hS : ShX10 τ a M) (H : X10_judgeNoise_f τ a M x1 σ = some res) : Ok D 0 0 yX10_judgeNoise cX10_judgeNoise 5 none [.ref a, .int x1] (τ, σ, nx) none (τ, res, nx) := by
  refine ok_of (by decide +kernel) rfl (Nat.le_of_ble_eq_true rfl) (fun K X hF hE hN L0 hL0 => ?_)
  obtain rfl : [some (.ref a), some (.int x1), none, none, none] = L0 := hL0
  have hF : Fx K X cX10_judgeNoise 5 RX10 D 0 0 := hF
  refine g_p (S' := [.ref a]) hF tX10_judgeNoise_ok 0 1 rfl rfl rfl rfl ?_
  refine g_getR hF (dAt tX10_judgeNoise_ok 1 rfl rfl) flX10_12 hS.1 rfl ?_
  refine g_getR hF (dAt tX10_judgeNoise_ok 2 rfl rfl) flX10_194 hS.2.1.1 rfl ?_
  refine g_p (S' := [.int x1, .ref ((a + 1) + 8)]) hF tX10_judgeNoise_ok 3 1 rfl rfl rfl rfl ?_
  obtain ⟨v1, e2, H⟩ := ob H
  refine g_ild hF (dAt tX10_judgeNoise_ok 4 rfl rfl) hS.2.1.2.2.2.2.2.2.2.2.1 e2 ?_
  refine g_p (L' := [some (.ref a), some (.int x1), some (.int v1), none, none]) (S' := [.int (-1), .int v1]) hF tX10_judgeNoise_ok 5 3 rfl rfl rfl rfl ?_
  obtain ⟨Ht3, Hf3⟩ := oi H
  refine g_icmp_ne hF (dAt tX10_judgeNoise_ok 8 rfl rfl) rfl (fun c3 => ?_) (fun c3 => ?_)
  · have H := Hf3 c3
    refine g_p (S' := [.ref a]) hF tX10_judgeNoise_ok 10 1 rfl rfl rfl rfl ?_
    refine g_getR hF (dAt tX10_judgeNoise_ok 11 rfl rfl) flX10_12 hS.1 rfl ?_
    refine g_getR hF (dAt tX10_judgeNoise_ok 12 rfl rfl) flX10_177 hS.2.1.1 rfl ?_
    refine g_p (S' := [.int x1, .ref ((a + 1) + 1)]) hF tX10_judgeNoise_ok 13 1 rfl rfl rfl rfl ?_
    obtain ⟨v4, e5, H⟩ := ob H
    refine g_ild hF (dAt tX10_judgeNoise_ok 14 rfl rfl) hS.2.1.2.1 e5 ?_
    refine g_p (S' := [.int 1, .int v4]) hF tX10_judgeNoise_ok 15 1 rfl rfl rfl rfl ?_
    obtain ⟨Ht6, Hf6⟩ := oi H
    refine g_icmp_ne hF (dAt tX10_judgeNoise_ok 16 rfl rfl) rfl (fun c6 => ?_) (fun c6 => ?_)
    · have H := Hf6 c6
      refine g_p (S' := [.int 0]) hF tX10_judgeNoise_ok 19 1 rfl rfl rfl rfl ?_
      exact X10_judgeNoise_b34_ok hD hF hS hE H
    · have H := Ht6 c6
      refine g_p (S' := [.int 1]) hF tX10_judgeNoise_ok 17 1 rfl rfl rfl rfl ?_
      refine g_goto hF (dAt tX10_judgeNoise_ok 18 rfl rfl) rfl ?_
      exact X10_judgeNoise_b34_ok hD hF hS hE H
  · have H := Ht3 c3
    exact g_vret hF (en_v H hE) (dAt tX10_judgeNoise_ok 9 rfl rfl) (by decide) (by decide)
def X10_chooseDebts_b84 (a : Nat) (M : Nat) (k10 : Int32 → Sig → Option (Sig)) (x1 x2 : Int32) (σ : Sig) : Option (Sig) := (st 12 σ (a + 32) x2 x1).bind fun s1 => k10 (x1 + 1) s1
set_option maxRecDepth 4000 in
set_option maxHeartbeats 1000000 in
theorem X10_chooseDebts_b84_ok {K : Kt} {X : Cx} {D : Nat} {τ : Tau} {nx : Nat} {a : Nat} {M : Nat} {res : Sig}  (hD : 2 ≤ D) (hF : Fx K X cX10_chooseDebts 4 RX10 D 0 0) (hS : ShX10 τ a M) (hE : En K X none 0 0 none (τ, res, nx)) {k10 : Int32 → Sig → Option (Sig)} (hk10 : ∀ (x1 : Int32) (σ : Sig), k10 x1 σ = some res → G K X 4 0 0 10 [some (.ref a), some (.int x1), none, none] [] (τ, σ, nx)) {x1 x2 : Int32} {σ : Sig} (H : X10_chooseDebts_b84 a M k10 x1 x2 σ = some res) : G K X 4 0 0 84 [some (.ref a), some (.int x1), some (.int x2), none] [] (τ, σ, nx) := by
  refine g_p (S' := [.ref a]) hF tX10_chooseDebts_ok 44 1 rfl rfl rfl rfl ?_
  refine g_getR hF (dAt tX10_chooseDebts_ok 45 rfl rfl) flX10_59 hS.1 rfl ?_
  refine g_p (S' := [.int x1, .int x2, .ref (a + 32)]) hF tX10_chooseDebts_ok 46 2 rfl rfl rfl rfl ?_
  obtain ⟨s1, e2, H⟩ := ob H
  refine g_ist hF (dAt tX10_chooseDebts_ok 48 rfl rfl) hS.2.2.2.2.2.2.2.2.2.2 e2 ?_
  refine g_p (L' := [some (.ref a), some (.int (x1 + 1)), some (.int x2), none]) (S' := []) hF tX10_chooseDebts_ok 49 1 rfl rfl rfl rfl ?_
  refine g_goto hF (dAt tX10_chooseDebts_ok 50 rfl rfl) rfl ?_
  refine g_m [true, true, false, false] rfl ?_
  exact hk10 _ _ H
def X10_chooseDebts_b10 (a : Nat) (M : Nat) : Nat → Int32 → Sig → Option (Sig)
  | 0, _, _ => none
  | fu + 1, x1, σ => if (σ (a + 12) 0) ≤ x1 then (some σ) else ((X3_workerOf_f (a + 12) x1 σ).bind fun v2 => (ld 40 (σ ((a + 12) + 3)) x1).bind fun v4 => if v4 ≤ 0 then (X10_chooseDebts_b10 a M fu (x1 + 1) σ) else ((X4_has_f (a + 1) v2 σ).bind fun v7 => if v7 = 0 then (X10_chooseDebts_b10 a M fu (x1 + 1) σ) else ((ld 12 (σ (a + 32)) v2).bind fun v10 => if v10 = (-1) then (X10_chooseDebts_b84 a M (X10_chooseDebts_b10 a M fu) x1 v2 σ) else ((X3_goesAhead_f (a + 12) x1 v10 (σ (a + 23) 5) σ).bind fun v13 => if v13 = 0 then (X10_chooseDebts_b10 a M fu (x1 + 1) σ) else (X10_chooseDebts_b84 a M (X10_chooseDebts_b10 a M fu) x1 v2 σ)))))
set_option maxRecDepth 4000 in
set_option maxHeartbeats 1000000 in
theorem X10_chooseDebts_b10_ok {K : Kt} {X : Cx} {D : Nat} {τ : Tau} {nx : Nat} {a : Nat} {M : Nat} {res : Sig}  (hD : 2 ≤ D) (hF : Fx K X cX10_chooseDebts 4 RX10 D 0 0) (hS : ShX10 τ a M) (hE : En K X none 0 0 none (τ, res, nx)) : ∀ (fu : Nat) (x1 : Int32) (σ : Sig), X10_chooseDebts_b10 a M fu x1 σ = some res → G K X 4 0 0 10 [some (.ref a), some (.int x1), none, none] [] (τ, σ, nx)
  | 0, _, _, H => nomatch H
  | fu + 1, x1, σ, H => by
    refine g_p (S' := [.ref a, .int x1]) hF tX10_chooseDebts_ok 6 2 rfl rfl rfl rfl ?_
    refine g_getR hF (dAt tX10_chooseDebts_ok 8 rfl rfl) flX10_21 hS.1 rfl ?_
    refine g_getI hF (dAt tX10_chooseDebts_ok 9 rfl rfl) flX10_227 hS.2.2.1.1 rfl ?_
    obtain ⟨Ht1, Hf1⟩ := oi H
    refine g_icmp_ge hF (dAt tX10_chooseDebts_ok 10 rfl rfl) rfl (fun c1 => ?_) (fun c1 => ?_)
    · have H := Ht1 c1
      exact g_vret hF (en_v H hE) (dAt tX10_chooseDebts_ok 51 rfl rfl) (by decide) (by decide)
    · have H := Hf1 c1
      refine g_p (S' := [.ref a]) hF tX10_chooseDebts_ok 11 1 rfl rfl rfl rfl ?_
      refine g_getR hF (dAt tX10_chooseDebts_ok 12 rfl rfl) flX10_21 hS.1 rfl ?_
      refine g_p (S' := [.int x1, .ref (a + 12)]) hF tX10_chooseDebts_ok 13 1 rfl rfl rfl rfl ?_
      obtain ⟨v2, e3, H⟩ := ob H
      refine g_cV (S := []) hF (X3_workerOf_ok (Nat.le_refl _) hS.2.2.1 e3 K) mbX3_workerOf mvX3_workerOf mlX10_228 (by omega) (by decide) (dAt tX10_chooseDebts_ok 14 rfl rfl) hS.2.2.1.1 rfl rfl rfl (Nat.le_of_ble_eq_true rfl) rfl rfl (by decide) (by decide) rfl ?_
      refine g_p (L' := [some (.ref a), some (.int x1), some (.int v2), none]) (S' := [.ref a]) hF tX10_chooseDebts_ok 15 2 rfl rfl rfl rfl ?_
      refine g_getR hF (dAt tX10_chooseDebts_ok 17 rfl rfl) flX10_21 hS.1 rfl ?_
      refine g_getR hF (dAt tX10_chooseDebts_ok 18 rfl rfl) flX10_231 hS.2.2.1.1 rfl ?_
      refine g_p (S' := [.int x1, .ref ((a + 12) + 3)]) hF tX10_chooseDebts_ok 19 1 rfl rfl rfl rfl ?_
      obtain ⟨v4, e5, H⟩ := ob H
      refine g_ild hF (dAt tX10_chooseDebts_ok 20 rfl rfl) hS.2.2.1.2.2.2.1 e5 ?_
      obtain ⟨Ht6, Hf6⟩ := oi H
      refine g_if_le hF (dAt tX10_chooseDebts_ok 21 rfl rfl) rfl (fun c6 => ?_) (fun c6 => ?_)
      · have H := Ht6 c6
        refine g_p (L' := [some (.ref a), some (.int (x1 + 1)), some (.int v2), none]) (S' := []) hF tX10_chooseDebts_ok 49 1 rfl rfl rfl rfl ?_
        refine g_goto hF (dAt tX10_chooseDebts_ok 50 rfl rfl) rfl ?_
        refine g_m [true, true, false, false] rfl ?_
        exact X10_chooseDebts_b10_ok hD hF hS hE fu _ _ H
      · have H := Hf6 c6
        refine g_p (S' := [.ref a]) hF tX10_chooseDebts_ok 22 1 rfl rfl rfl rfl ?_
        refine g_getR hF (dAt tX10_chooseDebts_ok 23 rfl rfl) flX10_12 hS.1 rfl ?_
        refine g_p (S' := [.int v2, .ref (a + 1)]) hF tX10_chooseDebts_ok 24 1 rfl rfl rfl rfl ?_
        obtain ⟨v7, e8, H⟩ := ob H
        refine g_cV (S := []) hF (X4_has_ok (Nat.le_refl _) hS.2.1 e8 K) mbX4_has mvX4_has mlX10_165 (by omega) (by decide) (dAt tX10_chooseDebts_ok 25 rfl rfl) hS.2.1.1 rfl rfl rfl (Nat.le_of_ble_eq_true rfl) rfl rfl (by decide) (by decide) rfl ?_
        obtain ⟨Ht9, Hf9⟩ := oi H
        refine g_if_eq hF (dAt tX10_chooseDebts_ok 26 rfl rfl) rfl (fun c9 => ?_) (fun c9 => ?_)
        · have H := Ht9 c9
          refine g_p (L' := [some (.ref a), some (.int (x1 + 1)), some (.int v2), none]) (S' := []) hF tX10_chooseDebts_ok 49 1 rfl rfl rfl rfl ?_
          refine g_goto hF (dAt tX10_chooseDebts_ok 50 rfl rfl) rfl ?_
          refine g_m [true, true, false, false] rfl ?_
          exact X10_chooseDebts_b10_ok hD hF hS hE fu _ _ H
        · have H := Hf9 c9
          refine g_p (S' := [.ref a]) hF tX10_chooseDebts_ok 27 1 rfl rfl rfl rfl ?_
          refine g_getR hF (dAt tX10_chooseDebts_ok 28 rfl rfl) flX10_59 hS.1 rfl ?_
          refine g_p (S' := [.int v2, .ref (a + 32)]) hF tX10_chooseDebts_ok 29 1 rfl rfl rfl rfl ?_
          obtain ⟨v10, e11, H⟩ := ob H
          refine g_ild hF (dAt tX10_chooseDebts_ok 30 rfl rfl) hS.2.2.2.2.2.2.2.2.2.2 e11 ?_
          refine g_p (L' := [some (.ref a), some (.int x1), some (.int v2), some (.int v10)]) (S' := [.int (-1), .int v10]) hF tX10_chooseDebts_ok 31 3 rfl rfl rfl rfl ?_
          obtain ⟨Ht12, Hf12⟩ := oi H
          refine g_icmp_eq hF (dAt tX10_chooseDebts_ok 34 rfl rfl) rfl (fun c12 => ?_) (fun c12 => ?_)
          · have H := Ht12 c12
            refine g_m [true, true, true, false] rfl ?_
            exact X10_chooseDebts_b84_ok hD hF hS hE (fun _ _ H => X10_chooseDebts_b10_ok hD hF hS hE fu _ _ H) H
          · have H := Hf12 c12
            refine g_p (S' := [.ref a]) hF tX10_chooseDebts_ok 35 1 rfl rfl rfl rfl ?_
            refine g_getR hF (dAt tX10_chooseDebts_ok 36 rfl rfl) flX10_21 hS.1 rfl ?_
            refine g_p (S' := [.ref a, .int v10, .int x1, .ref (a + 12)]) hF tX10_chooseDebts_ok 37 3 rfl rfl rfl rfl ?_
            refine g_getR hF (dAt tX10_chooseDebts_ok 40 rfl rfl) flX10_28 hS.1 rfl ?_
            refine g_getI hF (dAt tX10_chooseDebts_ok 41 rfl rfl) flX10_97 hS.2.2.2.1.1 rfl ?_
            obtain ⟨v13, e14, H⟩ := ob H
            refine g_cV (S := []) hF (X3_goesAhead_ok (Nat.le_refl _) hS.2.2.1 e14 K) mbX3_goesAhead mvX3_goesAhead mlX10_234 (by omega) (by decide) (dAt tX10_chooseDebts_ok 42 rfl rfl) hS.2.2.1.1 rfl rfl rfl (Nat.le_of_ble_eq_true rfl) rfl rfl (by decide) (by decide) rfl ?_
            obtain ⟨Ht15, Hf15⟩ := oi H
            refine g_if_eq hF (dAt tX10_chooseDebts_ok 43 rfl rfl) rfl (fun c15 => ?_) (fun c15 => ?_)
            · have H := Ht15 c15
              refine g_p (L' := [some (.ref a), some (.int (x1 + 1)), some (.int v2), some (.int v10)]) (S' := []) hF tX10_chooseDebts_ok 49 1 rfl rfl rfl rfl ?_
              refine g_goto hF (dAt tX10_chooseDebts_ok 50 rfl rfl) rfl ?_
              refine g_m [true, true, false, false] rfl ?_
              exact X10_chooseDebts_b10_ok hD hF hS hE fu _ _ H
            · have H := Hf15 c15
              refine g_m [true, true, true, false] rfl ?_
              exact X10_chooseDebts_b84_ok hD hF hS hE (fun _ _ H => X10_chooseDebts_b10_ok hD hF hS hE fu _ _ H) H
def X10_chooseDebts_f (a : Nat) (M : Nat) (σ : Sig) : Option (Sig) := (J7_fill_53178_f (a + 32) 12 (-1) σ).bind fun s1 => X10_chooseDebts_b10 a M FU 0 s1
set_option maxRecDepth 4000 in
set_option maxHeartbeats 1000000 in
theorem X10_chooseDebts_ok {D : Nat} {τ : Tau} {nx : Nat} {a : Nat} {M : Nat} {σ : Sig} {res : Sig} (hD : 2 ≤ D) (hS : ShX10 τ a M) (H : X10_chooseDebts_f a M σ = some res) : Ok D 0 0 yX10_chooseDebts cX10_chooseDebts 4 none [.ref a] (τ, σ, nx) none (τ, res, nx) := by
  refine ok_of (by decide +kernel) rfl (Nat.le_of_ble_eq_true rfl) (fun K X hF hE hN L0 hL0 => ?_)
  obtain rfl : [some (.ref a), none, none, none] = L0 := hL0
  have hF : Fx K X cX10_chooseDebts 4 RX10 D 0 0 := hF
  refine g_p (S' := [.ref a]) hF tX10_chooseDebts_ok 0 1 rfl rfl rfl rfl ?_
  refine g_getR hF (dAt tX10_chooseDebts_ok 1 rfl rfl) flX10_59 hS.1 rfl ?_
  refine g_p (S' := [.int (-1), .ref (a + 32)]) hF tX10_chooseDebts_ok 2 1 rfl rfl rfl rfl ?_
  obtain ⟨s1, e2, H⟩ := ob H
  refine g_cS (S := []) hF (J7_fill_53178_ok (Nat.le_refl _) hS.2.2.2.2.2.2.2.2.2.2 e2 K) mbJ7_fill_53178 msJ7_fill_53178 mlX10_221 (by omega) (by decide) (dAt tX10_chooseDebts_ok 3 rfl rfl) rfl rfl (Nat.le_of_ble_eq_true rfl) rfl rfl (by decide) (by decide) rfl ?_
  refine g_p (L' := [some (.ref a), some (.int 0), none, none]) (S' := []) hF tX10_chooseDebts_ok 4 2 rfl rfl rfl rfl ?_
  exact X10_chooseDebts_b10_ok hD hF hS hE FU _ _ H
def X10_isHeard_f (a : Nat) (M : Nat) (x1 : Int32) (σ : Sig) : Option (Int32) := (ld 12 (σ ((a + 1) + 10)) x1).bind fun v1 => if v1 = 1 then ((ld 12 (σ ((a + 1) + 2)) x1).bind fun v4 => (X8_hour_f (a + 26) σ).bind fun v6 => (X9_placeAt_f (a + 23) v6 σ).bind fun v8 => (X9_wallBetween_f (a + 23) v4 v8 σ).bind fun v10 => (ld 12 (σ ((a + 1) + 9)) x1).bind fun v12 => if (v12 - v10) < (σ (a + 23) 3) then (some 0) else (some 1)) else (some 0)
set_option maxRecDepth 4000 in
set_option maxHeartbeats 1000000 in
theorem X10_isHeard_ok {D : Nat} {τ : Tau} {nx : Nat} {a : Nat} {M : Nat} {x1 : Int32} {σ : Sig} {res : Int32} (hD : 2 ≤ D) (hS : ShX10 τ a M) (H : X10_isHeard_f a M x1 σ = some res) : Ok D 0 0 yX10_isHeard cX10_isHeard 3 (some .boolean) [.ref a, .int x1] (τ, σ, nx) (some (.int res)) (τ, σ, nx) := by
  refine ok_of (by decide +kernel) rfl (Nat.le_of_ble_eq_true rfl) (fun K X hF hE hN L0 hL0 => ?_)
  obtain rfl : [some (.ref a), some (.int x1), none] = L0 := hL0
  have hF : Fx K X cX10_isHeard 3 RX10 D 0 0 := hF
  refine g_p (S' := [.ref a]) hF tX10_isHeard_ok 0 1 rfl rfl rfl rfl ?_
  refine g_getR hF (dAt tX10_isHeard_ok 1 rfl rfl) flX10_12 hS.1 rfl ?_
  refine g_getR hF (dAt tX10_isHeard_ok 2 rfl rfl) flX10_204 hS.2.1.1 rfl ?_
  refine g_p (S' := [.int x1, .ref ((a + 1) + 10)]) hF tX10_isHeard_ok 3 1 rfl rfl rfl rfl ?_
  obtain ⟨v1, e2, H⟩ := ob H
  refine g_ild hF (dAt tX10_isHeard_ok 4 rfl rfl) hS.2.1.2.2.2.2.2.2.2.2.2.2 e2 ?_
  refine g_p (S' := [.int 1, .int v1]) hF tX10_isHeard_ok 5 1 rfl rfl rfl rfl ?_
  obtain ⟨Ht3, Hf3⟩ := oi H
  refine g_icmp_eq hF (dAt tX10_isHeard_ok 6 rfl rfl) rfl (fun c3 => ?_) (fun c3 => ?_)
  · have H := Ht3 c3
    refine g_p (S' := [.ref a]) hF tX10_isHeard_ok 9 1 rfl rfl rfl rfl ?_
    refine g_getR hF (dAt tX10_isHeard_ok 10 rfl rfl) flX10_28 hS.1 rfl ?_
    refine g_p (S' := [.ref a, .ref (a + 23)]) hF tX10_isHeard_ok 11 1 rfl rfl rfl rfl ?_
    refine g_getR hF (dAt tX10_isHeard_ok 12 rfl rfl) flX10_12 hS.1 rfl ?_
    refine g_getR hF (dAt tX10_isHeard_ok 13 rfl rfl) flX10_256 hS.2.1.1 rfl ?_
    refine g_p (S' := [.int x1, .ref ((a + 1) + 2), .ref (a + 23)]) hF tX10_isHeard_ok 14 1 rfl rfl rfl rfl ?_
    obtain ⟨v4, e5, H⟩ := ob H
    refine g_ild hF (dAt tX10_isHeard_ok 15 rfl rfl) hS.2.1.2.2.1 e5 ?_
    refine g_p (S' := [.ref a, .int v4, .ref (a + 23)]) hF tX10_isHeard_ok 16 1 rfl rfl rfl rfl ?_
    refine g_getR hF (dAt tX10_isHeard_ok 17 rfl rfl) flX10_28 hS.1 rfl ?_
    refine g_p (S' := [.ref a, .ref (a + 23), .int v4, .ref (a + 23)]) hF tX10_isHeard_ok 18 1 rfl rfl rfl rfl ?_
    refine g_getR hF (dAt tX10_isHeard_ok 19 rfl rfl) flX10_35 hS.1 rfl ?_
    obtain ⟨v6, e7, H⟩ := ob H
    refine g_cV (S := [.ref (a + 23), .int v4, .ref (a + 23)]) hF (X8_hour_ok (Nat.le_refl _) hS.2.2.2.2.1 e7 K) mbX8_hour mvX8_hour mlX10_126 (by omega) (by decide) (dAt tX10_isHeard_ok 20 rfl rfl) hS.2.2.2.2.1 rfl rfl rfl (Nat.le_of_ble_eq_true rfl) rfl rfl (by decide) (by decide) rfl ?_
    obtain ⟨v8, e9, H⟩ := ob H
    refine g_cV (S := [.int v4, .ref (a + 23)]) hF (X9_placeAt_ok (Nat.le_refl _) hS.2.2.2.1 e9 K) mbX9_placeAt mvX9_placeAt mlX10_259 (by omega) (by decide) (dAt tX10_isHeard_ok 21 rfl rfl) hS.2.2.2.1.1 rfl rfl rfl (Nat.le_of_ble_eq_true rfl) rfl rfl (by decide) (by decide) rfl ?_
    obtain ⟨v10, e11, H⟩ := ob H
    refine g_cV (S := []) hF (X9_wallBetween_ok (Nat.le_refl _) hS.2.2.2.1 e11 K) mbX9_wallBetween mvX9_wallBetween mlX10_262 (by omega) (by decide) (dAt tX10_isHeard_ok 22 rfl rfl) hS.2.2.2.1.1 rfl rfl rfl (Nat.le_of_ble_eq_true rfl) rfl rfl (by decide) (by decide) rfl ?_
    refine g_p (L' := [some (.ref a), some (.int x1), some (.int v10)]) (S' := [.ref a]) hF tX10_isHeard_ok 23 2 rfl rfl rfl rfl ?_
    refine g_getR hF (dAt tX10_isHeard_ok 25 rfl rfl) flX10_12 hS.1 rfl ?_
    refine g_getR hF (dAt tX10_isHeard_ok 26 rfl rfl) flX10_197 hS.2.1.1 rfl ?_
    refine g_p (S' := [.int x1, .ref ((a + 1) + 9)]) hF tX10_isHeard_ok 27 1 rfl rfl rfl rfl ?_
    obtain ⟨v12, e13, H⟩ := ob H
    refine g_ild hF (dAt tX10_isHeard_ok 28 rfl rfl) hS.2.1.2.2.2.2.2.2.2.2.2.1 e13 ?_
    refine g_p (S' := [.ref a, .int (v12 - v10)]) hF tX10_isHeard_ok 29 3 rfl rfl rfl rfl ?_
    refine g_getR hF (dAt tX10_isHeard_ok 32 rfl rfl) flX10_28 hS.1 rfl ?_
    refine g_getI hF (dAt tX10_isHeard_ok 33 rfl rfl) flX10_90 hS.2.2.2.1.1 rfl ?_
    obtain ⟨Ht14, Hf14⟩ := oi H
    refine g_icmp_lt hF (dAt tX10_isHeard_ok 34 rfl rfl) rfl (fun c14 => ?_) (fun c14 => ?_)
    · have H := Ht14 c14
      refine g_p (S' := [.int 0]) hF tX10_isHeard_ok 37 1 rfl rfl rfl rfl ?_
      exact g_zret hF (en_i H hE) (Or.inl rfl) (dAt tX10_isHeard_ok 38 rfl rfl) (by decide) (by decide)
    · have H := Hf14 c14
      refine g_p (S' := [.int 1]) hF tX10_isHeard_ok 35 1 rfl rfl rfl rfl ?_
      refine g_goto hF (dAt tX10_isHeard_ok 36 rfl rfl) rfl ?_
      exact g_zret hF (en_i H hE) (Or.inr rfl) (dAt tX10_isHeard_ok 38 rfl rfl) (by decide) (by decide)
  · have H := Hf3 c3
    refine g_p (S' := [.int 0]) hF tX10_isHeard_ok 7 1 rfl rfl rfl rfl ?_
    exact g_zret hF (en_i H hE) (Or.inl rfl) (dAt tX10_isHeard_ok 8 rfl rfl) (by decide) (by decide)
def X10_beginAgain_b39 (a : Nat) (M : Nat) (x2 : Int32) (σ : Sig) : Option (Sig) := (st 40 σ ((a + 12) + 4) x2 0).bind fun s1 => some s1
set_option maxRecDepth 4000 in
set_option maxHeartbeats 1000000 in
theorem X10_beginAgain_b39_ok {K : Kt} {X : Cx} {D : Nat} {τ : Tau} {nx : Nat} {a : Nat} {M : Nat} {res : Sig}  (hD : 2 ≤ D) (hF : Fx K X cX10_beginAgain 4 RX10 D 0 0) (hS : ShX10 τ a M) (hE : En K X none 0 0 none (τ, res, nx)) {x2 : Int32} {σ : Sig} (H : X10_beginAgain_b39 a M x2 σ = some res) : G K X 4 0 0 39 [some (.ref a), none, some (.int x2), none] [] (τ, σ, nx) := by
  refine g_p (S' := [.ref a]) hF tX10_beginAgain_ok 21 1 rfl rfl rfl rfl ?_
  refine g_getR hF (dAt tX10_beginAgain_ok 22 rfl rfl) flX10_21 hS.1 rfl ?_
  refine g_getR hF (dAt tX10_beginAgain_ok 23 rfl rfl) flX10_266 hS.2.2.1.1 rfl ?_
  refine g_p (S' := [.int 0, .int x2, .ref ((a + 12) + 4)]) hF tX10_beginAgain_ok 24 2 rfl rfl rfl rfl ?_
  obtain ⟨s1, e2, H⟩ := ob H
  refine g_ist hF (dAt tX10_beginAgain_ok 26 rfl rfl) hS.2.2.1.2.2.2.2.1 e2 ?_
  exact g_vret hF (en_v H hE) (dAt tX10_beginAgain_ok 27 rfl rfl) (by decide) (by decide)
def X10_beginAgain_f (a : Nat) (M : Nat) (x1 x2 x3 : Int32) (σ : Sig) : Option (Sig) := (ld 40 (σ ((a + 12) + 4)) x2).bind fun v1 => if v1 ≤ 0 then (X10_beginAgain_b39 a M x2 σ) else ((pI σ (a + 33) 4 ((σ (a + 33) 4) + 1)).bind fun s4 => (X2_write_f (a + 33) M (a + 26) x3 x1 x2 s4).bind fun s6 => X10_beginAgain_b39 a M x2 s6)
set_option maxRecDepth 4000 in
set_option maxHeartbeats 1000000 in
theorem X10_beginAgain_ok {D : Nat} {τ : Tau} {nx : Nat} {a : Nat} {M : Nat} {x1 x2 x3 : Int32} {σ : Sig} {res : Sig} (hD : 2 ≤ D) (hS : ShX10 τ a M) (H : X10_beginAgain_f a M x1 x2 x3 σ = some res) : Ok D 0 0 yX10_beginAgain cX10_beginAgain 4 none [.ref a, .int x1, .int x2, .int x3] (τ, σ, nx) none (τ, res, nx) := by
  refine ok_of (by decide +kernel) rfl (Nat.le_of_ble_eq_true rfl) (fun K X hF hE hN L0 hL0 => ?_)
  obtain rfl : [some (.ref a), some (.int x1), some (.int x2), some (.int x3)] = L0 := hL0
  have hF : Fx K X cX10_beginAgain 4 RX10 D 0 0 := hF
  refine g_p (S' := [.ref a]) hF tX10_beginAgain_ok 0 1 rfl rfl rfl rfl ?_
  refine g_getR hF (dAt tX10_beginAgain_ok 1 rfl rfl) flX10_21 hS.1 rfl ?_
  refine g_getR hF (dAt tX10_beginAgain_ok 2 rfl rfl) flX10_266 hS.2.2.1.1 rfl ?_
  refine g_p (S' := [.int x2, .ref ((a + 12) + 4)]) hF tX10_beginAgain_ok 3 1 rfl rfl rfl rfl ?_
  obtain ⟨v1, e2, H⟩ := ob H
  refine g_ild hF (dAt tX10_beginAgain_ok 4 rfl rfl) hS.2.2.1.2.2.2.2.1 e2 ?_
  obtain ⟨Ht3, Hf3⟩ := oi H
  refine g_if_le hF (dAt tX10_beginAgain_ok 5 rfl rfl) rfl (fun c3 => ?_) (fun c3 => ?_)
  · have H := Ht3 c3
    refine g_m [true, false, true, false] rfl ?_
    exact X10_beginAgain_b39_ok hD hF hS hE H
  · have H := Hf3 c3
    refine g_p (S' := [.ref a]) hF tX10_beginAgain_ok 6 1 rfl rfl rfl rfl ?_
    refine g_getR hF (dAt tX10_beginAgain_ok 7 rfl rfl) flX10_67 hS.1 rfl ?_
    refine g_p (S' := [.ref (a + 33), .ref (a + 33)]) hF tX10_beginAgain_ok 8 1 rfl rfl rfl rfl ?_
    refine g_getI hF (dAt tX10_beginAgain_ok 9 rfl rfl) flX10_269 hS.2.2.2.2.2.1.1 rfl ?_
    refine g_p (S' := [.int ((σ (a + 33) 4) + 1), .ref (a + 33)]) hF tX10_beginAgain_ok 10 2 rfl rfl rfl rfl ?_
    obtain ⟨s4, e5, H⟩ := ob H
    refine g_pI hF (dAt tX10_beginAgain_ok 12 rfl rfl) flX10_269 (Or.inl rfl) hS.2.2.2.2.2.1.1 rfl e5 ?_
    refine g_p (S' := [.ref a]) hF tX10_beginAgain_ok 13 1 rfl rfl rfl rfl ?_
    refine g_getR hF (dAt tX10_beginAgain_ok 14 rfl rfl) flX10_67 hS.1 rfl ?_
    refine g_p (S' := [.ref a, .ref (a + 33)]) hF tX10_beginAgain_ok 15 1 rfl rfl rfl rfl ?_
    refine g_getR hF (dAt tX10_beginAgain_ok 16 rfl rfl) flX10_35 hS.1 rfl ?_
    refine g_p (S' := [.int x2, .int x1, .int x3, .ref (a + 26), .ref (a + 33)]) hF tX10_beginAgain_ok 17 3 rfl rfl rfl rfl ?_
    obtain ⟨s6, e7, H⟩ := ob H
    refine g_cV (S := []) hF (X2_write_ok (Nat.le_refl _) hS.2.2.2.2.2.1 hS.2.2.2.2.1 e7 K) mbX2_write mvX2_write mlX10_210 (by omega) (by decide) (dAt tX10_beginAgain_ok 20 rfl rfl) hS.2.2.2.2.2.1.1 rfl rfl rfl (Nat.le_of_ble_eq_true rfl) rfl rfl (by decide) (by decide) rfl ?_
    refine g_m [true, false, true, false] rfl ?_
    exact X10_beginAgain_b39_ok hD hF hS hE H
def X10_payQuarter_f (a : Nat) (M : Nat) (x1 x2 : Int32) (σ : Sig) : Option (Sig) := (ld 40 (σ ((a + 12) + 4)) x2).bind fun v1 => (st 40 σ ((a + 12) + 4) x2 (v1 + 1)).bind fun s3 => (ld 40 (s3 ((a + 12) + 4)) x2).bind fun v5 => if 4 ≤ v5 then ((st 40 s3 ((a + 12) + 4) x2 0).bind fun s8 => (ld 40 (s8 ((a + 12) + 3)) x2).bind fun v10 => (st 40 s8 ((a + 12) + 3) x2 (v10 - 1)).bind fun s12 => (ld 40 (s12 ((a + 12) + 7)) x2).bind fun v14 => (st 40 s12 ((a + 12) + 7) x2 (v14 + 1)).bind fun s16 => (pI s16 (a + 33) 3 ((s16 (a + 33) 3) + 1)).bind fun s18 => (X2_write_f (a + 33) M (a + 26) 0 x1 x2 s18).bind fun s20 => (ld 40 (s20 ((a + 12) + 3)) x2).bind fun v22 => if v22 = 0 then ((X2_write_f (a + 33) M (a + 26) 4 x1 x2 s20).bind fun s25 => some s25) else (some s20)) else (some s3)
set_option maxRecDepth 4000 in
set_option maxHeartbeats 1000000 in
theorem X10_payQuarter_ok {D : Nat} {τ : Tau} {nx : Nat} {a : Nat} {M : Nat} {x1 x2 : Int32} {σ : Sig} {res : Sig} (hD : 2 ≤ D) (hS : ShX10 τ a M) (H : X10_payQuarter_f a M x1 x2 σ = some res) : Ok D 0 0 yX10_payQuarter cX10_payQuarter 3 none [.ref a, .int x1, .int x2] (τ, σ, nx) none (τ, res, nx) := by
  refine ok_of (by decide +kernel) rfl (Nat.le_of_ble_eq_true rfl) (fun K X hF hE hN L0 hL0 => ?_)
  obtain rfl : [some (.ref a), some (.int x1), some (.int x2)] = L0 := hL0
  have hF : Fx K X cX10_payQuarter 3 RX10 D 0 0 := hF
  refine g_p (S' := [.ref a]) hF tX10_payQuarter_ok 0 1 rfl rfl rfl rfl ?_
  refine g_getR hF (dAt tX10_payQuarter_ok 1 rfl rfl) flX10_21 hS.1 rfl ?_
  refine g_getR hF (dAt tX10_payQuarter_ok 2 rfl rfl) flX10_266 hS.2.2.1.1 rfl ?_
  refine g_p (S' := [.int x2, .ref ((a + 12) + 4), .int x2, .ref ((a + 12) + 4)]) hF tX10_payQuarter_ok 3 2 rfl rfl rfl rfl ?_
  obtain ⟨v1, e2, H⟩ := ob H
  refine g_ild hF (dAt tX10_payQuarter_ok 5 rfl rfl) hS.2.2.1.2.2.2.2.1 e2 ?_
  refine g_p (S' := [.int (v1 + 1), .int x2, .ref ((a + 12) + 4)]) hF tX10_payQuarter_ok 6 2 rfl rfl rfl rfl ?_
  obtain ⟨s3, e4, H⟩ := ob H
  refine g_ist hF (dAt tX10_payQuarter_ok 8 rfl rfl) hS.2.2.1.2.2.2.2.1 e4 ?_
  refine g_p (S' := [.ref a]) hF tX10_payQuarter_ok 9 1 rfl rfl rfl rfl ?_
  refine g_getR hF (dAt tX10_payQuarter_ok 10 rfl rfl) flX10_21 hS.1 rfl ?_
  refine g_getR hF (dAt tX10_payQuarter_ok 11 rfl rfl) flX10_266 hS.2.2.1.1 rfl ?_
  refine g_p (S' := [.int x2, .ref ((a + 12) + 4)]) hF tX10_payQuarter_ok 12 1 rfl rfl rfl rfl ?_
  obtain ⟨v5, e6, H⟩ := ob H
  refine g_ild hF (dAt tX10_payQuarter_ok 13 rfl rfl) hS.2.2.1.2.2.2.2.1 e6 ?_
  refine g_p (S' := [.int 4, .int v5]) hF tX10_payQuarter_ok 14 1 rfl rfl rfl rfl ?_
  obtain ⟨Ht7, Hf7⟩ := oi H
  refine g_icmp_ge hF (dAt tX10_payQuarter_ok 15 rfl rfl) rfl (fun c7 => ?_) (fun c7 => ?_)
  · have H := Ht7 c7
    refine g_p (S' := [.ref a]) hF tX10_payQuarter_ok 17 1 rfl rfl rfl rfl ?_
    refine g_getR hF (dAt tX10_payQuarter_ok 18 rfl rfl) flX10_21 hS.1 rfl ?_
    refine g_getR hF (dAt tX10_payQuarter_ok 19 rfl rfl) flX10_266 hS.2.2.1.1 rfl ?_
    refine g_p (S' := [.int 0, .int x2, .ref ((a + 12) + 4)]) hF tX10_payQuarter_ok 20 2 rfl rfl rfl rfl ?_
    obtain ⟨s8, e9, H⟩ := ob H
    refine g_ist hF (dAt tX10_payQuarter_ok 22 rfl rfl) hS.2.2.1.2.2.2.2.1 e9 ?_
    refine g_p (S' := [.ref a]) hF tX10_payQuarter_ok 23 1 rfl rfl rfl rfl ?_
    refine g_getR hF (dAt tX10_payQuarter_ok 24 rfl rfl) flX10_21 hS.1 rfl ?_
    refine g_getR hF (dAt tX10_payQuarter_ok 25 rfl rfl) flX10_231 hS.2.2.1.1 rfl ?_
    refine g_p (S' := [.int x2, .ref ((a + 12) + 3), .int x2, .ref ((a + 12) + 3)]) hF tX10_payQuarter_ok 26 2 rfl rfl rfl rfl ?_
    obtain ⟨v10, e11, H⟩ := ob H
    refine g_ild hF (dAt tX10_payQuarter_ok 28 rfl rfl) hS.2.2.1.2.2.2.1 e11 ?_
    refine g_p (S' := [.int (v10 - 1), .int x2, .ref ((a + 12) + 3)]) hF tX10_payQuarter_ok 29 2 rfl rfl rfl rfl ?_
    obtain ⟨s12, e13, H⟩ := ob H
    refine g_ist hF (dAt tX10_payQuarter_ok 31 rfl rfl) hS.2.2.1.2.2.2.1 e13 ?_
    refine g_p (S' := [.ref a]) hF tX10_payQuarter_ok 32 1 rfl rfl rfl rfl ?_
    refine g_getR hF (dAt tX10_payQuarter_ok 33 rfl rfl) flX10_21 hS.1 rfl ?_
    refine g_getR hF (dAt tX10_payQuarter_ok 34 rfl rfl) flX10_272 hS.2.2.1.1 rfl ?_
    refine g_p (S' := [.int x2, .ref ((a + 12) + 7), .int x2, .ref ((a + 12) + 7)]) hF tX10_payQuarter_ok 35 2 rfl rfl rfl rfl ?_
    obtain ⟨v14, e15, H⟩ := ob H
    refine g_ild hF (dAt tX10_payQuarter_ok 37 rfl rfl) hS.2.2.1.2.2.2.2.2.2.2.1 e15 ?_
    refine g_p (S' := [.int (v14 + 1), .int x2, .ref ((a + 12) + 7)]) hF tX10_payQuarter_ok 38 2 rfl rfl rfl rfl ?_
    obtain ⟨s16, e17, H⟩ := ob H
    refine g_ist hF (dAt tX10_payQuarter_ok 40 rfl rfl) hS.2.2.1.2.2.2.2.2.2.2.1 e17 ?_
    refine g_p (S' := [.ref a]) hF tX10_payQuarter_ok 41 1 rfl rfl rfl rfl ?_
    refine g_getR hF (dAt tX10_payQuarter_ok 42 rfl rfl) flX10_67 hS.1 rfl ?_
    refine g_p (S' := [.ref (a + 33), .ref (a + 33)]) hF tX10_payQuarter_ok 43 1 rfl rfl rfl rfl ?_
    refine g_getI hF (dAt tX10_payQuarter_ok 44 rfl rfl) flX10_275 hS.2.2.2.2.2.1.1 rfl ?_
    refine g_p (S' := [.int ((s16 (a + 33) 3) + 1), .ref (a + 33)]) hF tX10_payQuarter_ok 45 2 rfl rfl rfl rfl ?_
    obtain ⟨s18, e19, H⟩ := ob H
    refine g_pI hF (dAt tX10_payQuarter_ok 47 rfl rfl) flX10_275 (Or.inl rfl) hS.2.2.2.2.2.1.1 rfl e19 ?_
    refine g_p (S' := [.ref a]) hF tX10_payQuarter_ok 48 1 rfl rfl rfl rfl ?_
    refine g_getR hF (dAt tX10_payQuarter_ok 49 rfl rfl) flX10_67 hS.1 rfl ?_
    refine g_p (S' := [.ref a, .ref (a + 33)]) hF tX10_payQuarter_ok 50 1 rfl rfl rfl rfl ?_
    refine g_getR hF (dAt tX10_payQuarter_ok 51 rfl rfl) flX10_35 hS.1 rfl ?_
    refine g_p (S' := [.int x2, .int x1, .int 0, .ref (a + 26), .ref (a + 33)]) hF tX10_payQuarter_ok 52 3 rfl rfl rfl rfl ?_
    obtain ⟨s20, e21, H⟩ := ob H
    refine g_cV (S := []) hF (X2_write_ok (Nat.le_refl _) hS.2.2.2.2.2.1 hS.2.2.2.2.1 e21 K) mbX2_write mvX2_write mlX10_210 (by omega) (by decide) (dAt tX10_payQuarter_ok 55 rfl rfl) hS.2.2.2.2.2.1.1 rfl rfl rfl (Nat.le_of_ble_eq_true rfl) rfl rfl (by decide) (by decide) rfl ?_
    refine g_p (S' := [.ref a]) hF tX10_payQuarter_ok 56 1 rfl rfl rfl rfl ?_
    refine g_getR hF (dAt tX10_payQuarter_ok 57 rfl rfl) flX10_21 hS.1 rfl ?_
    refine g_getR hF (dAt tX10_payQuarter_ok 58 rfl rfl) flX10_231 hS.2.2.1.1 rfl ?_
    refine g_p (S' := [.int x2, .ref ((a + 12) + 3)]) hF tX10_payQuarter_ok 59 1 rfl rfl rfl rfl ?_
    obtain ⟨v22, e23, H⟩ := ob H
    refine g_ild hF (dAt tX10_payQuarter_ok 60 rfl rfl) hS.2.2.1.2.2.2.1 e23 ?_
    obtain ⟨Ht24, Hf24⟩ := oi H
    refine g_if_ne hF (dAt tX10_payQuarter_ok 61 rfl rfl) rfl (fun c24 => ?_) (fun c24 => ?_)
    · have H := Hf24 c24
      exact g_vret hF (en_v H hE) (dAt tX10_payQuarter_ok 70 rfl rfl) (by decide) (by decide)
    · have H := Ht24 c24
      refine g_p (S' := [.ref a]) hF tX10_payQuarter_ok 62 1 rfl rfl rfl rfl ?_
      refine g_getR hF (dAt tX10_payQuarter_ok 63 rfl rfl) flX10_67 hS.1 rfl ?_
      refine g_p (S' := [.ref a, .ref (a + 33)]) hF tX10_payQuarter_ok 64 1 rfl rfl rfl rfl ?_
      refine g_getR hF (dAt tX10_payQuarter_ok 65 rfl rfl) flX10_35 hS.1 rfl ?_
      refine g_p (S' := [.int x2, .int x1, .int 4, .ref (a + 26), .ref (a + 33)]) hF tX10_payQuarter_ok 66 3 rfl rfl rfl rfl ?_
      obtain ⟨s25, e26, H⟩ := ob H
      refine g_cV (S := []) hF (X2_write_ok (Nat.le_refl _) hS.2.2.2.2.2.1 hS.2.2.2.2.1 e26 K) mbX2_write mvX2_write mlX10_210 (by omega) (by decide) (dAt tX10_payQuarter_ok 69 rfl rfl) hS.2.2.2.2.2.1.1 rfl rfl rfl (Nat.le_of_ble_eq_true rfl) rfl rfl (by decide) (by decide) rfl ?_
      exact g_vret hF (en_v H hE) (dAt tX10_payQuarter_ok 70 rfl rfl) (by decide) (by decide)
  · have H := Hf7 c7
    exact g_vret hF (en_v H hE) (dAt tX10_payQuarter_ok 16 rfl rfl) (by decide) (by decide)
noncomputable def X10_canMakeWord_b263 (τ : Tau) (a : Nat) (M : Nat) (k176 : Nat → Int32 → Int32 → Int32 → Int32 → Int32 → Sig → Option (Int32 × Sig)) (t_7 : Nat) (x2 x3 x4 x9 x11 : Int32) (σ : Sig) : Option (Int32 × Sig) := if x11 = 0 then (k176 t_7 x2 x3 x4 0 (x9 + 1) σ) else ((X10_isWord_f τ a M (σ (a + 23) 6) 3 x2 x3 0 x4 σ).bind fun ⟨v2, s3⟩ => if v2 = 0 then (k176 t_7 x2 x3 x4 0 (x9 + 1) s3) else (k176 t_7 x2 x3 x4 1 (x9 + 1) s3))
set_option maxRecDepth 4000 in
set_option maxHeartbeats 1000000 in
theorem X10_canMakeWord_b263_ok {K : Kt} {X : Cx} {D : Nat} {τ : Tau} {nx : Nat} {a : Nat} {M : Nat} {res : Int32} {rsg : Sig}  (hD : 5 ≤ D) (hF : Fx K X cX10_canMakeWord 12 RX10 D 0 0) (hS : ShX10 τ a M) (hE : En K X (some .boolean) 0 0 (some (.int res)) (τ, rsg, nx)) {k176 : Nat → Int32 → Int32 → Int32 → Int32 → Int32 → Sig → Option (Int32 × Sig)} (hk176 : ∀ (t_7 : Nat) (x2 x3 x4 x8 x9 : Int32) (σ : Sig) (ht_7 : ShX7 τ t_7 (tl τ t_7 1) (tl τ t_7 2) (tl τ t_7 3)), k176 t_7 x2 x3 x4 x8 x9 σ = some (res, rsg) → G K X 12 0 0 176 [some (.ref a), none, some (.int x2), some (.int x3), some (.int x4), none, none, some (.ref t_7), some (.int x8), some (.int x9), none, none] [] (τ, σ, nx)) {t_7 : Nat} {x2 x3 x4 x9 x11 : Int32} {σ : Sig} (ht_7 : ShX7 τ t_7 (tl τ t_7 1) (tl τ t_7 2) (tl τ t_7 3)) (H : X10_canMakeWord_b263 τ a M k176 t_7 x2 x3 x4 x9 x11 σ = some (res, rsg)) : G K X 12 0 0 263 [some (.ref a), none, some (.int x2), some (.int x3), some (.int x4), none, none, some (.ref t_7), none, some (.int x9), none, some (.int x11)] [] (τ, σ, nx) := by
  refine g_p (S' := [.int x11]) hF tX10_canMakeWord_ok 142 1 rfl rfl rfl rfl ?_
  obtain ⟨Ht1, Hf1⟩ := oi H
  refine g_if_eq hF (dAt tX10_canMakeWord_ok 143 rfl rfl) rfl (fun c1 => ?_) (fun c1 => ?_)
  · have H := Ht1 c1
    refine g_p (L' := [some (.ref a), none, some (.int x2), some (.int x3), some (.int x4), none, none, some (.ref t_7), some (.int 0), some (.int (x9 + 1)), none, some (.int x11)]) (S' := []) hF tX10_canMakeWord_ok 157 3 rfl rfl rfl rfl ?_
    refine g_goto hF (dAt tX10_canMakeWord_ok 160 rfl rfl) rfl ?_
    refine g_m [true, false, true, true, true, false, false, true, true, true, false, false] rfl ?_
    exact hk176 _ _ _ _ _ _ _ ht_7 H
  · have H := Hf1 c1
    refine g_p (S' := [.ref a, .ref a]) hF tX10_canMakeWord_ok 144 2 rfl rfl rfl rfl ?_
    refine g_getR hF (dAt tX10_canMakeWord_ok 146 rfl rfl) flX10_28 hS.1 rfl ?_
    refine g_getI hF (dAt tX10_canMakeWord_ok 147 rfl rfl) flX10_103 hS.2.2.2.1.1 rfl ?_
    refine g_p (S' := [.int x4, .int 0, .int x3, .int x2, .int 3, .int (σ (a + 23) 6), .ref a]) hF tX10_canMakeWord_ok 148 5 rfl rfl rfl rfl ?_
    obtain ⟨⟨v2, s3⟩, e4, H⟩ := ob H
    refine g_cV (S := []) hF (X10_isWord_ok (Nat.le_refl _) hS e4 K) mbX10_isWord mvX10_isWord mlX10_200 (by omega) (by decide) (dAt tX10_canMakeWord_ok 153 rfl rfl) hS.1 rfl rfl rfl (Nat.le_of_ble_eq_true rfl) rfl rfl (by decide) (by decide) rfl ?_
    obtain ⟨Ht5, Hf5⟩ := oi H
    refine g_if_eq hF (dAt tX10_canMakeWord_ok 154 rfl rfl) rfl (fun c5 => ?_) (fun c5 => ?_)
    · have H := Ht5 c5
      refine g_p (L' := [some (.ref a), none, some (.int x2), some (.int x3), some (.int x4), none, none, some (.ref t_7), some (.int 0), some (.int (x9 + 1)), none, some (.int x11)]) (S' := []) hF tX10_canMakeWord_ok 157 3 rfl rfl rfl rfl ?_
      refine g_goto hF (dAt tX10_canMakeWord_ok 160 rfl rfl) rfl ?_
      refine g_m [true, false, true, true, true, false, false, true, true, true, false, false] rfl ?_
      exact hk176 _ _ _ _ _ _ _ ht_7 H
    · have H := Hf5 c5
      refine g_p (S' := [.int 1]) hF tX10_canMakeWord_ok 155 1 rfl rfl rfl rfl ?_
      refine g_goto hF (dAt tX10_canMakeWord_ok 156 rfl rfl) rfl ?_
      refine g_p (L' := [some (.ref a), none, some (.int x2), some (.int x3), some (.int x4), none, none, some (.ref t_7), some (.int 1), some (.int (x9 + 1)), none, some (.int x11)]) (S' := []) hF tX10_canMakeWord_ok 158 2 rfl rfl rfl rfl ?_
      refine g_goto hF (dAt tX10_canMakeWord_ok 160 rfl rfl) rfl ?_
      refine g_m [true, false, true, true, true, false, false, true, true, true, false, false] rfl ?_
      exact hk176 _ _ _ _ _ _ _ ht_7 H
noncomputable def X10_canMakeWord_b236 (τ : Tau) (a : Nat) (M : Nat) (k176 : Nat → Int32 → Int32 → Int32 → Int32 → Int32 → Sig → Option (Int32 × Sig)) (t_7 : Nat) (x2 x3 x4 x9 x10 y0 : Int32) (σ : Sig) : Option (Int32 × Sig) := if x10 = 0 then (X10_canMakeWord_b263 τ a M k176 t_7 x2 x3 x4 x9 y0 σ) else ((X10_isWord_f τ a M (σ (a + 23) 6) 0 x2 x3 0 x4 σ).bind fun ⟨v2, s3⟩ => if v2 = 0 then (X10_canMakeWord_b263 τ a M k176 t_7 x2 x3 x4 x9 y0 s3) else (k176 t_7 x2 x3 x4 1 (x9 + 1) s3))
set_option maxRecDepth 4000 in
set_option maxHeartbeats 1000000 in
theorem X10_canMakeWord_b236_ok {K : Kt} {X : Cx} {D : Nat} {τ : Tau} {nx : Nat} {a : Nat} {M : Nat} {res : Int32} {rsg : Sig}  (hD : 5 ≤ D) (hF : Fx K X cX10_canMakeWord 12 RX10 D 0 0) (hS : ShX10 τ a M) (hE : En K X (some .boolean) 0 0 (some (.int res)) (τ, rsg, nx)) {k176 : Nat → Int32 → Int32 → Int32 → Int32 → Int32 → Sig → Option (Int32 × Sig)} (hk176 : ∀ (t_7 : Nat) (x2 x3 x4 x8 x9 : Int32) (σ : Sig) (ht_7 : ShX7 τ t_7 (tl τ t_7 1) (tl τ t_7 2) (tl τ t_7 3)), k176 t_7 x2 x3 x4 x8 x9 σ = some (res, rsg) → G K X 12 0 0 176 [some (.ref a), none, some (.int x2), some (.int x3), some (.int x4), none, none, some (.ref t_7), some (.int x8), some (.int x9), none, none] [] (τ, σ, nx)) {t_7 : Nat} {x2 x3 x4 x9 x10 y0 : Int32} {σ : Sig} (ht_7 : ShX7 τ t_7 (tl τ t_7 1) (tl τ t_7 2) (tl τ t_7 3)) (H : X10_canMakeWord_b236 τ a M k176 t_7 x2 x3 x4 x9 x10 y0 σ = some (res, rsg)) : G K X 12 0 0 236 [some (.ref a), none, some (.int x2), some (.int x3), some (.int x4), none, none, some (.ref t_7), none, some (.int x9), some (.int x10), none] [.int y0] (τ, σ, nx) := by
  refine g_p (L' := [some (.ref a), none, some (.int x2), some (.int x3), some (.int x4), none, none, some (.ref t_7), none, some (.int x9), some (.int x10), some (.int y0)]) (S' := [.int x10]) hF tX10_canMakeWord_ok 128 2 rfl rfl rfl rfl ?_
  obtain ⟨Ht1, Hf1⟩ := oi H
  refine g_if_eq hF (dAt tX10_canMakeWord_ok 130 rfl rfl) rfl (fun c1 => ?_) (fun c1 => ?_)
  · have H := Ht1 c1
    refine g_m [true, false, true, true, true, false, false, true, false, true, false, true] rfl ?_
    exact X10_canMakeWord_b263_ok hD hF hS hE hk176 ht_7 H
  · have H := Hf1 c1
    refine g_p (S' := [.ref a, .ref a]) hF tX10_canMakeWord_ok 131 2 rfl rfl rfl rfl ?_
    refine g_getR hF (dAt tX10_canMakeWord_ok 133 rfl rfl) flX10_28 hS.1 rfl ?_
    refine g_getI hF (dAt tX10_canMakeWord_ok 134 rfl rfl) flX10_103 hS.2.2.2.1.1 rfl ?_
    refine g_p (S' := [.int x4, .int 0, .int x3, .int x2, .int 0, .int (σ (a + 23) 6), .ref a]) hF tX10_canMakeWord_ok 135 5 rfl rfl rfl rfl ?_
    obtain ⟨⟨v2, s3⟩, e4, H⟩ := ob H
    refine g_cV (S := []) hF (X10_isWord_ok (Nat.le_refl _) hS e4 K) mbX10_isWord mvX10_isWord mlX10_200 (by omega) (by decide) (dAt tX10_canMakeWord_ok 140 rfl rfl) hS.1 rfl rfl rfl (Nat.le_of_ble_eq_true rfl) rfl rfl (by decide) (by decide) rfl ?_
    obtain ⟨Ht5, Hf5⟩ := oi H
    refine g_if_ne hF (dAt tX10_canMakeWord_ok 141 rfl rfl) rfl (fun c5 => ?_) (fun c5 => ?_)
    · have H := Hf5 c5
      refine g_p (S' := [.int 1]) hF tX10_canMakeWord_ok 155 1 rfl rfl rfl rfl ?_
      refine g_goto hF (dAt tX10_canMakeWord_ok 156 rfl rfl) rfl ?_
      refine g_p (L' := [some (.ref a), none, some (.int x2), some (.int x3), some (.int x4), none, none, some (.ref t_7), some (.int 1), some (.int (x9 + 1)), some (.int x10), some (.int y0)]) (S' := []) hF tX10_canMakeWord_ok 158 2 rfl rfl rfl rfl ?_
      refine g_goto hF (dAt tX10_canMakeWord_ok 160 rfl rfl) rfl ?_
      refine g_m [true, false, true, true, true, false, false, true, true, true, false, false] rfl ?_
      exact hk176 _ _ _ _ _ _ _ ht_7 H
    · have H := Ht5 c5
      refine g_m [true, false, true, true, true, false, false, true, false, true, false, true] rfl ?_
      exact X10_canMakeWord_b263_ok hD hF hS hE hk176 ht_7 H
noncomputable def X10_canMakeWord_b215 (τ : Tau) (a : Nat) (M : Nat) (k176 : Nat → Int32 → Int32 → Int32 → Int32 → Int32 → Sig → Option (Int32 × Sig)) (t_7 : Nat) (x2 x3 x4 x9 y0 : Int32) (σ : Sig) : Option (Int32 × Sig) := (X7_deedOf_f t_7 (tl τ t_7 1) (tl τ t_7 2) (tl τ t_7 3) x9 σ).bind fun v1 => if v1 = (x2 + 101) then (X10_canMakeWord_b236 τ a M k176 t_7 x2 x3 x4 x9 y0 1 σ) else (X10_canMakeWord_b236 τ a M k176 t_7 x2 x3 x4 x9 y0 0 σ)
set_option maxRecDepth 4000 in
set_option maxHeartbeats 1000000 in
theorem X10_canMakeWord_b215_ok {K : Kt} {X : Cx} {D : Nat} {τ : Tau} {nx : Nat} {a : Nat} {M : Nat} {res : Int32} {rsg : Sig}  (hD : 5 ≤ D) (hF : Fx K X cX10_canMakeWord 12 RX10 D 0 0) (hS : ShX10 τ a M) (hE : En K X (some .boolean) 0 0 (some (.int res)) (τ, rsg, nx)) {k176 : Nat → Int32 → Int32 → Int32 → Int32 → Int32 → Sig → Option (Int32 × Sig)} (hk176 : ∀ (t_7 : Nat) (x2 x3 x4 x8 x9 : Int32) (σ : Sig) (ht_7 : ShX7 τ t_7 (tl τ t_7 1) (tl τ t_7 2) (tl τ t_7 3)), k176 t_7 x2 x3 x4 x8 x9 σ = some (res, rsg) → G K X 12 0 0 176 [some (.ref a), none, some (.int x2), some (.int x3), some (.int x4), none, none, some (.ref t_7), some (.int x8), some (.int x9), none, none] [] (τ, σ, nx)) {t_7 : Nat} {x2 x3 x4 x9 y0 : Int32} {σ : Sig} (ht_7 : ShX7 τ t_7 (tl τ t_7 1) (tl τ t_7 2) (tl τ t_7 3)) (H : X10_canMakeWord_b215 τ a M k176 t_7 x2 x3 x4 x9 y0 σ = some (res, rsg)) : G K X 12 0 0 215 [some (.ref a), none, some (.int x2), some (.int x3), some (.int x4), none, none, some (.ref t_7), none, some (.int x9), none, none] [.int y0] (τ, σ, nx) := by
  refine g_p (L' := [some (.ref a), none, some (.int x2), some (.int x3), some (.int x4), none, none, some (.ref t_7), none, some (.int x9), some (.int y0), none]) (S' := [.int x9, .ref t_7]) hF tX10_canMakeWord_ok 117 3 rfl rfl rfl rfl ?_
  obtain ⟨v1, e2, H⟩ := ob H
  refine g_cV (S := []) hF (X7_deedOf_ok (Nat.le_refl _) ht_7 e2 K) mbX7_deedOf mvX7_deedOf mlX10_147 (by omega) (by decide) (dAt tX10_canMakeWord_ok 120 rfl rfl) ht_7.1 rfl rfl rfl (Nat.le_of_ble_eq_true rfl) rfl rfl (by decide) (by decide) rfl ?_
  refine g_p (S' := [.int (x2 + 101), .int v1]) hF tX10_canMakeWord_ok 121 3 rfl rfl rfl rfl ?_
  obtain ⟨Ht3, Hf3⟩ := oi H
  refine g_icmp_ne hF (dAt tX10_canMakeWord_ok 124 rfl rfl) rfl (fun c3 => ?_) (fun c3 => ?_)
  · have H := Hf3 c3
    refine g_p (S' := [.int 0]) hF tX10_canMakeWord_ok 127 1 rfl rfl rfl rfl ?_
    exact X10_canMakeWord_b236_ok hD hF hS hE hk176 ht_7 H
  · have H := Ht3 c3
    refine g_p (S' := [.int 1]) hF tX10_canMakeWord_ok 125 1 rfl rfl rfl rfl ?_
    refine g_goto hF (dAt tX10_canMakeWord_ok 126 rfl rfl) rfl ?_
    exact X10_canMakeWord_b236_ok hD hF hS hE hk176 ht_7 H
noncomputable def X10_canMakeWord_b214 (τ : Tau) (a : Nat) (M : Nat) (k176 : Nat → Int32 → Int32 → Int32 → Int32 → Int32 → Sig → Option (Int32 × Sig)) (t_7 : Nat) (x2 x3 x4 x9 : Int32) (σ : Sig) : Option (Int32 × Sig) := X10_canMakeWord_b215 τ a M k176 t_7 x2 x3 x4 x9 0 σ
set_option maxRecDepth 4000 in
set_option maxHeartbeats 1000000 in
theorem X10_canMakeWord_b214_ok {K : Kt} {X : Cx} {D : Nat} {τ : Tau} {nx : Nat} {a : Nat} {M : Nat} {res : Int32} {rsg : Sig}  (hD : 5 ≤ D) (hF : Fx K X cX10_canMakeWord 12 RX10 D 0 0) (hS : ShX10 τ a M) (hE : En K X (some .boolean) 0 0 (some (.int res)) (τ, rsg, nx)) {k176 : Nat → Int32 → Int32 → Int32 → Int32 → Int32 → Sig → Option (Int32 × Sig)} (hk176 : ∀ (t_7 : Nat) (x2 x3 x4 x8 x9 : Int32) (σ : Sig) (ht_7 : ShX7 τ t_7 (tl τ t_7 1) (tl τ t_7 2) (tl τ t_7 3)), k176 t_7 x2 x3 x4 x8 x9 σ = some (res, rsg) → G K X 12 0 0 176 [some (.ref a), none, some (.int x2), some (.int x3), some (.int x4), none, none, some (.ref t_7), some (.int x8), some (.int x9), none, none] [] (τ, σ, nx)) {t_7 : Nat} {x2 x3 x4 x9 : Int32} {σ : Sig} (ht_7 : ShX7 τ t_7 (tl τ t_7 1) (tl τ t_7 2) (tl τ t_7 3)) (H : X10_canMakeWord_b214 τ a M k176 t_7 x2 x3 x4 x9 σ = some (res, rsg)) : G K X 12 0 0 214 [some (.ref a), none, some (.int x2), some (.int x3), some (.int x4), none, none, some (.ref t_7), none, some (.int x9), none, none] [] (τ, σ, nx) := by
  refine g_p (S' := [.int 0]) hF tX10_canMakeWord_ok 116 1 rfl rfl rfl rfl ?_
  exact X10_canMakeWord_b215_ok hD hF hS hE hk176 ht_7 H
noncomputable def X10_canMakeWord_b176 (τ : Tau) (a : Nat) (M : Nat) : Nat → Nat → Int32 → Int32 → Int32 → Int32 → Int32 → Sig → Option (Int32 × Sig)
  | 0, _, _, _, _, _, _, _ => none
  | fu + 1, t_7, x2, x3, x4, x8, x9, σ => if (σ t_7 0) ≤ x9 then (if x8 = 0 ∨ x8 = 1 then some (x8, σ) else none) else (if x8 = 0 then ((X7_deedOf_f t_7 (tl τ t_7 1) (tl τ t_7 2) (tl τ t_7 3) x9 σ).bind fun v3 => if v3 = (x2 + 1) then (if 99 < x2 then (X10_canMakeWord_b214 τ a M (X10_canMakeWord_b176 τ a M fu) t_7 x2 x3 x4 x9 σ) else (X10_canMakeWord_b215 τ a M (X10_canMakeWord_b176 τ a M fu) t_7 x2 x3 x4 x9 1 σ)) else (X10_canMakeWord_b214 τ a M (X10_canMakeWord_b176 τ a M fu) t_7 x2 x3 x4 x9 σ)) else (if x8 = 0 ∨ x8 = 1 then some (x8, σ) else none))
set_option maxRecDepth 4000 in
set_option maxHeartbeats 1000000 in
theorem X10_canMakeWord_b176_ok {K : Kt} {X : Cx} {D : Nat} {τ : Tau} {nx : Nat} {a : Nat} {M : Nat} {res : Int32} {rsg : Sig}  (hD : 5 ≤ D) (hF : Fx K X cX10_canMakeWord 12 RX10 D 0 0) (hS : ShX10 τ a M) (hE : En K X (some .boolean) 0 0 (some (.int res)) (τ, rsg, nx)) : ∀ (fu : Nat) (t_7 : Nat) (x2 x3 x4 x8 x9 : Int32) (σ : Sig) (ht_7 : ShX7 τ t_7 (tl τ t_7 1) (tl τ t_7 2) (tl τ t_7 3)), X10_canMakeWord_b176 τ a M fu t_7 x2 x3 x4 x8 x9 σ = some (res, rsg) → G K X 12 0 0 176 [some (.ref a), none, some (.int x2), some (.int x3), some (.int x4), none, none, some (.ref t_7), some (.int x8), some (.int x9), none, none] [] (τ, σ, nx)
  | 0, _, _, _, _, _, _, _, _, H => nomatch H
  | fu + 1, t_7, x2, x3, x4, x8, x9, σ, ht_7, H => by
    refine g_p (S' := [.ref t_7, .int x9]) hF tX10_canMakeWord_ok 98 2 rfl rfl rfl rfl ?_
    refine g_getI hF (dAt tX10_canMakeWord_ok 100 rfl rfl) flX10_287 ht_7.1 rfl ?_
    obtain ⟨Ht1, Hf1⟩ := oi H
    refine g_icmp_ge hF (dAt tX10_canMakeWord_ok 101 rfl rfl) rfl (fun c1 => ?_) (fun c1 => ?_)
    · have H := Ht1 c1
      refine g_p (S' := [.int x8]) hF tX10_canMakeWord_ok 161 1 rfl rfl rfl rfl ?_
      obtain ⟨hb, H⟩ := oy H
      exact g_zret hF (en_p H hE) hb (dAt tX10_canMakeWord_ok 162 rfl rfl) (by decide) (by decide)
    · have H := Hf1 c1
      refine g_p (S' := [.int x8]) hF tX10_canMakeWord_ok 102 1 rfl rfl rfl rfl ?_
      obtain ⟨Ht2, Hf2⟩ := oi H
      refine g_if_ne hF (dAt tX10_canMakeWord_ok 103 rfl rfl) rfl (fun c2 => ?_) (fun c2 => ?_)
      · have H := Hf2 c2
        refine g_p (S' := [.int x8]) hF tX10_canMakeWord_ok 161 1 rfl rfl rfl rfl ?_
        obtain ⟨hb, H⟩ := oy H
        exact g_zret hF (en_p H hE) hb (dAt tX10_canMakeWord_ok 162 rfl rfl) (by decide) (by decide)
      · have H := Ht2 c2
        refine g_p (S' := [.int x9, .ref t_7]) hF tX10_canMakeWord_ok 104 2 rfl rfl rfl rfl ?_
        obtain ⟨v3, e4, H⟩ := ob H
        refine g_cV (S := []) hF (X7_deedOf_ok (Nat.le_refl _) ht_7 e4 K) mbX7_deedOf mvX7_deedOf mlX10_147 (by omega) (by decide) (dAt tX10_canMakeWord_ok 106 rfl rfl) ht_7.1 rfl rfl rfl (Nat.le_of_ble_eq_true rfl) rfl rfl (by decide) (by decide) rfl ?_
        refine g_p (S' := [.int (x2 + 1), .int v3]) hF tX10_canMakeWord_ok 107 3 rfl rfl rfl rfl ?_
        obtain ⟨Ht5, Hf5⟩ := oi H
        refine g_icmp_ne hF (dAt tX10_canMakeWord_ok 110 rfl rfl) rfl (fun c5 => ?_) (fun c5 => ?_)
        · have H := Hf5 c5
          refine g_m [true, false, true, true, true, false, false, true, false, true, false, false] rfl ?_
          exact X10_canMakeWord_b214_ok hD hF hS hE (fun _ _ _ _ _ _ _ hz0 H => X10_canMakeWord_b176_ok hD hF hS hE fu _ _ _ _ _ _ _ hz0 H) ht_7 H
        · have H := Ht5 c5
          refine g_p (S' := [.int 99, .int x2]) hF tX10_canMakeWord_ok 111 2 rfl rfl rfl rfl ?_
          obtain ⟨Ht6, Hf6⟩ := oi H
          refine g_icmp_gt hF (dAt tX10_canMakeWord_ok 113 rfl rfl) rfl (fun c6 => ?_) (fun c6 => ?_)
          · have H := Ht6 c6
            refine g_m [true, false, true, true, true, false, false, true, false, true, false, false] rfl ?_
            exact X10_canMakeWord_b214_ok hD hF hS hE (fun _ _ _ _ _ _ _ hz0 H => X10_canMakeWord_b176_ok hD hF hS hE fu _ _ _ _ _ _ _ hz0 H) ht_7 H
          · have H := Hf6 c6
            refine g_p (S' := [.int 1]) hF tX10_canMakeWord_ok 114 1 rfl rfl rfl rfl ?_
            refine g_goto hF (dAt tX10_canMakeWord_ok 115 rfl rfl) rfl ?_
            refine g_m [true, false, true, true, true, false, false, true, false, true, false, false] rfl ?_
            exact X10_canMakeWord_b215_ok hD hF hS hE (fun _ _ _ _ _ _ _ hz0 H => X10_canMakeWord_b176_ok hD hF hS hE fu _ _ _ _ _ _ _ hz0 H) ht_7 H
noncomputable def X10_canMakeWord_f (τ : Tau) (a : Nat) (M : Nat) (x1 x2 x3 x4 : Int32) (σ : Sig) : Option (Int32 × Sig) := (ld 12 (σ ((a + 1) + 1)) x1).bind fun v1 => if v1 = 1 then ((ld 12 (σ ((a + 1) + 4)) x1).bind fun v25 => if v25 ≤ 0 then (some (0, σ)) else ((ld 12 (σ ((a + 1) + 3)) x1).bind fun v28 => if v28 = x2 then ((X10_isWord_f τ a M (σ (a + 23) 6) 2 x2 x3 1 x4 σ).bind fun ⟨v31, s32⟩ => if v31 = 0 then (some (0, s32)) else (some (1, s32))) else (some (0, σ)))) else (if v1 = 0 then ((X11_isNightIn_f x3 σ).bind fun v5 => if v5 = 0 then ((ld 12 (σ ((a + 1) + 5)) x1).bind fun v8 => if v8 < 0 then (some (0, σ)) else (if v8 < 4 then ((ldr 6 (rcon τ (a + 29)) (2 + v8)).bind fun r12 => r12.bind fun t13 => chk (ShX7 τ t13 (tl τ t13 1) (tl τ t13 2) (tl τ t13 3)) (X10_canMakeWord_b176 τ a M FU t13 x2 x3 x4 0 0 σ)) else (some (0, σ)))) else ((ld 12 (σ ((a + 1) + 4)) x1).bind fun v15 => if v15 ≤ 0 then (some (0, σ)) else ((ld 12 (σ ((a + 1) + 3)) x1).bind fun v18 => if (v18 / 2) = x2 then ((X10_isWord_f τ a M (σ (a + 23) 6) 1 x2 x3 0 x4 σ).bind fun ⟨v21, s22⟩ => if v21 = 0 then (some (0, s22)) else (some (1, s22))) else (some (0, σ))))) else (some (0, σ)))
set_option maxRecDepth 4000 in
set_option maxHeartbeats 1000000 in
theorem X10_canMakeWord_ok {D : Nat} {τ : Tau} {nx : Nat} {a : Nat} {M : Nat} {x1 x2 x3 x4 : Int32} {σ : Sig} {res : Int32} {rsg : Sig} (hD : 5 ≤ D) (hS : ShX10 τ a M) (H : X10_canMakeWord_f τ a M x1 x2 x3 x4 σ = some (res, rsg)) : Ok D 0 0 yX10_canMakeWord cX10_canMakeWord 12 (some .boolean) [.ref a, .int x1, .int x2, .int x3, .int x4] (τ, σ, nx) (some (.int res)) (τ, rsg, nx) := by
  refine ok_of (by decide +kernel) rfl (Nat.le_of_ble_eq_true rfl) (fun K X hF hE hN L0 hL0 => ?_)
  obtain rfl : [some (.ref a), some (.int x1), some (.int x2), some (.int x3), some (.int x4), none, none, none, none, none, none, none] = L0 := hL0
  have hF : Fx K X cX10_canMakeWord 12 RX10 D 0 0 := hF
  refine g_p (S' := [.ref a]) hF tX10_canMakeWord_ok 0 1 rfl rfl rfl rfl ?_
  refine g_getR hF (dAt tX10_canMakeWord_ok 1 rfl rfl) flX10_12 hS.1 rfl ?_
  refine g_getR hF (dAt tX10_canMakeWord_ok 2 rfl rfl) flX10_177 hS.2.1.1 rfl ?_
  refine g_p (S' := [.int x1, .ref ((a + 1) + 1)]) hF tX10_canMakeWord_ok 3 1 rfl rfl rfl rfl ?_
  obtain ⟨v1, e2, H⟩ := ob H
  refine g_ild hF (dAt tX10_canMakeWord_ok 4 rfl rfl) hS.2.1.2.1 e2 ?_
  refine g_p (L' := [some (.ref a), some (.int x1), some (.int x2), some (.int x3), some (.int x4), some (.int v1), none, none, none, none, none, none]) (S' := [.int 1, .int v1]) hF tX10_canMakeWord_ok 5 3 rfl rfl rfl rfl ?_
  obtain ⟨Ht3, Hf3⟩ := oi H
  refine g_icmp_ne hF (dAt tX10_canMakeWord_ok 8 rfl rfl) rfl (fun c3 => ?_) (fun c3 => ?_)
  · have H := Hf3 c3
    refine g_p (S' := [.int v1]) hF tX10_canMakeWord_ok 37 1 rfl rfl rfl rfl ?_
    obtain ⟨Ht4, Hf4⟩ := oi H
    refine g_if_eq hF (dAt tX10_canMakeWord_ok 38 rfl rfl) rfl (fun c4 => ?_) (fun c4 => ?_)
    · have H := Ht4 c4
      refine g_p (S' := [.int x3]) hF tX10_canMakeWord_ok 41 1 rfl rfl rfl rfl ?_
      obtain ⟨v5, e6, H⟩ := ob H
      refine g_cSN (S := []) hF (X11_isNightIn_ok (Nat.le_refl _)  e6 K) mbX11_isNightIn msX11_isNightIn nlX10_116 (by omega) (by decide) (dAt tX10_canMakeWord_ok 42 rfl rfl) rfl rfl (Nat.le_of_ble_eq_true rfl) rfl rfl (by decide) (by decide) rfl ?_
      obtain ⟨Ht7, Hf7⟩ := oi H
      refine g_if_eq hF (dAt tX10_canMakeWord_ok 43 rfl rfl) rfl (fun c7 => ?_) (fun c7 => ?_)
      · have H := Ht7 c7
        refine g_p (S' := [.ref a]) hF tX10_canMakeWord_ok 74 1 rfl rfl rfl rfl ?_
        refine g_getR hF (dAt tX10_canMakeWord_ok 75 rfl rfl) flX10_12 hS.1 rfl ?_
        refine g_getR hF (dAt tX10_canMakeWord_ok 76 rfl rfl) flX10_123 hS.2.1.1 rfl ?_
        refine g_p (S' := [.int x1, .ref ((a + 1) + 5)]) hF tX10_canMakeWord_ok 77 1 rfl rfl rfl rfl ?_
        obtain ⟨v8, e9, H⟩ := ob H
        refine g_ild hF (dAt tX10_canMakeWord_ok 78 rfl rfl) hS.2.1.2.2.2.2.2.1 e9 ?_
        refine g_p (L' := [some (.ref a), some (.int x1), some (.int x2), some (.int x3), some (.int x4), some (.int v1), some (.int v8), none, none, none, none, none]) (S' := [.int v8]) hF tX10_canMakeWord_ok 79 2 rfl rfl rfl rfl ?_
        obtain ⟨Ht10, Hf10⟩ := oi H
        refine g_if_lt hF (dAt tX10_canMakeWord_ok 81 rfl rfl) rfl (fun c10 => ?_) (fun c10 => ?_)
        · have H := Ht10 c10
          refine g_p (S' := [.int 0]) hF tX10_canMakeWord_ok 85 1 rfl rfl rfl rfl ?_
          exact g_zret hF (en_p H hE) (Or.inl rfl) (dAt tX10_canMakeWord_ok 86 rfl rfl) (by decide) (by decide)
        · have H := Hf10 c10
          refine g_p (S' := [.int 4, .int v8]) hF tX10_canMakeWord_ok 82 2 rfl rfl rfl rfl ?_
          obtain ⟨Ht11, Hf11⟩ := oi H
          refine g_icmp_lt hF (dAt tX10_canMakeWord_ok 84 rfl rfl) rfl (fun c11 => ?_) (fun c11 => ?_)
          · have H := Ht11 c11
            refine g_p (S' := [.ref a]) hF tX10_canMakeWord_ok 87 1 rfl rfl rfl rfl ?_
            refine g_getR hF (dAt tX10_canMakeWord_ok 88 rfl rfl) flX10_48 hS.1 rfl ?_
            refine g_p (S' := [.int (2 + v8), .ref (a + 29)]) hF tX10_canMakeWord_ok 89 3 rfl rfl rfl rfl ?_
            obtain ⟨r12, e14, H⟩ := ob H
            obtain ⟨t13, qe14, H⟩ := ob H
            subst qe14
            obtain ⟨ht13, H⟩ := oc H
            refine g_rld hF (dAt tX10_canMakeWord_ok 92 rfl rfl) hS.2.2.2.2.2.2.2.1 (tj := 2) rfl e14 ?_
            show G _ _ _ _ _ _ _ [.ref t13] _
            refine g_p (L' := [some (.ref a), some (.int x1), some (.int x2), some (.int x3), some (.int x4), some (.int v1), some (.int v8), some (.ref t13), some (.int 0), some (.int 0), none, none]) (S' := []) hF tX10_canMakeWord_ok 93 5 rfl rfl rfl rfl ?_
            refine g_m [true, false, true, true, true, false, false, true, true, true, false, false] rfl ?_
            exact X10_canMakeWord_b176_ok hD hF hS hE FU _ _ _ _ _ _ _ ht13 H
          · have H := Hf11 c11
            refine g_p (S' := [.int 0]) hF tX10_canMakeWord_ok 85 1 rfl rfl rfl rfl ?_
            exact g_zret hF (en_p H hE) (Or.inl rfl) (dAt tX10_canMakeWord_ok 86 rfl rfl) (by decide) (by decide)
      · have H := Hf7 c7
        refine g_p (S' := [.ref a]) hF tX10_canMakeWord_ok 44 1 rfl rfl rfl rfl ?_
        refine g_getR hF (dAt tX10_canMakeWord_ok 45 rfl rfl) flX10_12 hS.1 rfl ?_
        refine g_getR hF (dAt tX10_canMakeWord_ok 46 rfl rfl) flX10_183 hS.2.1.1 rfl ?_
        refine g_p (S' := [.int x1, .ref ((a + 1) + 4)]) hF tX10_canMakeWord_ok 47 1 rfl rfl rfl rfl ?_
        obtain ⟨v15, e16, H⟩ := ob H
        refine g_ild hF (dAt tX10_canMakeWord_ok 48 rfl rfl) hS.2.1.2.2.2.2.1 e16 ?_
        obtain ⟨Ht17, Hf17⟩ := oi H
        refine g_if_le hF (dAt tX10_canMakeWord_ok 49 rfl rfl) rfl (fun c17 => ?_) (fun c17 => ?_)
        · have H := Ht17 c17
          refine g_p (S' := [.int 0]) hF tX10_canMakeWord_ok 72 1 rfl rfl rfl rfl ?_
          exact g_zret hF (en_p H hE) (Or.inl rfl) (dAt tX10_canMakeWord_ok 73 rfl rfl) (by decide) (by decide)
        · have H := Hf17 c17
          refine g_p (S' := [.ref a]) hF tX10_canMakeWord_ok 50 1 rfl rfl rfl rfl ?_
          refine g_getR hF (dAt tX10_canMakeWord_ok 51 rfl rfl) flX10_12 hS.1 rfl ?_
          refine g_getR hF (dAt tX10_canMakeWord_ok 52 rfl rfl) flX10_186 hS.2.1.1 rfl ?_
          refine g_p (S' := [.int x1, .ref ((a + 1) + 3)]) hF tX10_canMakeWord_ok 53 1 rfl rfl rfl rfl ?_
          obtain ⟨v18, e19, H⟩ := ob H
          refine g_ild hF (dAt tX10_canMakeWord_ok 54 rfl rfl) hS.2.1.2.2.2.1 e19 ?_
          refine g_p (S' := [.int 2, .int v18]) hF tX10_canMakeWord_ok 55 1 rfl rfl rfl rfl ?_
          refine g_idiv hF (dAt tX10_canMakeWord_ok 56 rfl rfl) (by decide) ?_
          refine g_p (S' := [.int x2, .int (v18 / 2)]) hF tX10_canMakeWord_ok 57 1 rfl rfl rfl rfl ?_
          obtain ⟨Ht20, Hf20⟩ := oi H
          refine g_icmp_ne hF (dAt tX10_canMakeWord_ok 58 rfl rfl) rfl (fun c20 => ?_) (fun c20 => ?_)
          · have H := Hf20 c20
            refine g_p (S' := [.int 0]) hF tX10_canMakeWord_ok 72 1 rfl rfl rfl rfl ?_
            exact g_zret hF (en_p H hE) (Or.inl rfl) (dAt tX10_canMakeWord_ok 73 rfl rfl) (by decide) (by decide)
          · have H := Ht20 c20
            refine g_p (S' := [.ref a, .ref a]) hF tX10_canMakeWord_ok 59 2 rfl rfl rfl rfl ?_
            refine g_getR hF (dAt tX10_canMakeWord_ok 61 rfl rfl) flX10_28 hS.1 rfl ?_
            refine g_getI hF (dAt tX10_canMakeWord_ok 62 rfl rfl) flX10_103 hS.2.2.2.1.1 rfl ?_
            refine g_p (S' := [.int x4, .int 0, .int x3, .int x2, .int 1, .int (σ (a + 23) 6), .ref a]) hF tX10_canMakeWord_ok 63 5 rfl rfl rfl rfl ?_
            obtain ⟨⟨v21, s22⟩, e23, H⟩ := ob H
            refine g_cV (S := []) hF (X10_isWord_ok (Nat.le_refl _) hS e23 K) mbX10_isWord mvX10_isWord mlX10_200 (by omega) (by decide) (dAt tX10_canMakeWord_ok 68 rfl rfl) hS.1 rfl rfl rfl (Nat.le_of_ble_eq_true rfl) rfl rfl (by decide) (by decide) rfl ?_
            obtain ⟨Ht24, Hf24⟩ := oi H
            refine g_if_eq hF (dAt tX10_canMakeWord_ok 69 rfl rfl) rfl (fun c24 => ?_) (fun c24 => ?_)
            · have H := Ht24 c24
              refine g_p (S' := [.int 0]) hF tX10_canMakeWord_ok 72 1 rfl rfl rfl rfl ?_
              exact g_zret hF (en_p H hE) (Or.inl rfl) (dAt tX10_canMakeWord_ok 73 rfl rfl) (by decide) (by decide)
            · have H := Hf24 c24
              refine g_p (S' := [.int 1]) hF tX10_canMakeWord_ok 70 1 rfl rfl rfl rfl ?_
              refine g_goto hF (dAt tX10_canMakeWord_ok 71 rfl rfl) rfl ?_
              exact g_zret hF (en_p H hE) (Or.inr rfl) (dAt tX10_canMakeWord_ok 73 rfl rfl) (by decide) (by decide)
    · have H := Hf4 c4
      refine g_p (S' := [.int 0]) hF tX10_canMakeWord_ok 39 1 rfl rfl rfl rfl ?_
      exact g_zret hF (en_p H hE) (Or.inl rfl) (dAt tX10_canMakeWord_ok 40 rfl rfl) (by decide) (by decide)
  · have H := Ht3 c3
    refine g_p (S' := [.ref a]) hF tX10_canMakeWord_ok 9 1 rfl rfl rfl rfl ?_
    refine g_getR hF (dAt tX10_canMakeWord_ok 10 rfl rfl) flX10_12 hS.1 rfl ?_
    refine g_getR hF (dAt tX10_canMakeWord_ok 11 rfl rfl) flX10_183 hS.2.1.1 rfl ?_
    refine g_p (S' := [.int x1, .ref ((a + 1) + 4)]) hF tX10_canMakeWord_ok 12 1 rfl rfl rfl rfl ?_
    obtain ⟨v25, e26, H⟩ := ob H
    refine g_ild hF (dAt tX10_canMakeWord_ok 13 rfl rfl) hS.2.1.2.2.2.2.1 e26 ?_
    obtain ⟨Ht27, Hf27⟩ := oi H
    refine g_if_le hF (dAt tX10_canMakeWord_ok 14 rfl rfl) rfl (fun c27 => ?_) (fun c27 => ?_)
    · have H := Ht27 c27
      refine g_p (S' := [.int 0]) hF tX10_canMakeWord_ok 35 1 rfl rfl rfl rfl ?_
      exact g_zret hF (en_p H hE) (Or.inl rfl) (dAt tX10_canMakeWord_ok 36 rfl rfl) (by decide) (by decide)
    · have H := Hf27 c27
      refine g_p (S' := [.ref a]) hF tX10_canMakeWord_ok 15 1 rfl rfl rfl rfl ?_
      refine g_getR hF (dAt tX10_canMakeWord_ok 16 rfl rfl) flX10_12 hS.1 rfl ?_
      refine g_getR hF (dAt tX10_canMakeWord_ok 17 rfl rfl) flX10_186 hS.2.1.1 rfl ?_
      refine g_p (S' := [.int x1, .ref ((a + 1) + 3)]) hF tX10_canMakeWord_ok 18 1 rfl rfl rfl rfl ?_
      obtain ⟨v28, e29, H⟩ := ob H
      refine g_ild hF (dAt tX10_canMakeWord_ok 19 rfl rfl) hS.2.1.2.2.2.1 e29 ?_
      refine g_p (S' := [.int x2, .int v28]) hF tX10_canMakeWord_ok 20 1 rfl rfl rfl rfl ?_
      obtain ⟨Ht30, Hf30⟩ := oi H
      refine g_icmp_ne hF (dAt tX10_canMakeWord_ok 21 rfl rfl) rfl (fun c30 => ?_) (fun c30 => ?_)
      · have H := Hf30 c30
        refine g_p (S' := [.int 0]) hF tX10_canMakeWord_ok 35 1 rfl rfl rfl rfl ?_
        exact g_zret hF (en_p H hE) (Or.inl rfl) (dAt tX10_canMakeWord_ok 36 rfl rfl) (by decide) (by decide)
      · have H := Ht30 c30
        refine g_p (S' := [.ref a, .ref a]) hF tX10_canMakeWord_ok 22 2 rfl rfl rfl rfl ?_
        refine g_getR hF (dAt tX10_canMakeWord_ok 24 rfl rfl) flX10_28 hS.1 rfl ?_
        refine g_getI hF (dAt tX10_canMakeWord_ok 25 rfl rfl) flX10_103 hS.2.2.2.1.1 rfl ?_
        refine g_p (S' := [.int x4, .int 1, .int x3, .int x2, .int 2, .int (σ (a + 23) 6), .ref a]) hF tX10_canMakeWord_ok 26 5 rfl rfl rfl rfl ?_
        obtain ⟨⟨v31, s32⟩, e33, H⟩ := ob H
        refine g_cV (S := []) hF (X10_isWord_ok (Nat.le_refl _) hS e33 K) mbX10_isWord mvX10_isWord mlX10_200 (by omega) (by decide) (dAt tX10_canMakeWord_ok 31 rfl rfl) hS.1 rfl rfl rfl (Nat.le_of_ble_eq_true rfl) rfl rfl (by decide) (by decide) rfl ?_
        obtain ⟨Ht34, Hf34⟩ := oi H
        refine g_if_eq hF (dAt tX10_canMakeWord_ok 32 rfl rfl) rfl (fun c34 => ?_) (fun c34 => ?_)
        · have H := Ht34 c34
          refine g_p (S' := [.int 0]) hF tX10_canMakeWord_ok 35 1 rfl rfl rfl rfl ?_
          exact g_zret hF (en_p H hE) (Or.inl rfl) (dAt tX10_canMakeWord_ok 36 rfl rfl) (by decide) (by decide)
        · have H := Hf34 c34
          refine g_p (S' := [.int 1]) hF tX10_canMakeWord_ok 33 1 rfl rfl rfl rfl ?_
          refine g_goto hF (dAt tX10_canMakeWord_ok 34 rfl rfl) rfl ?_
          exact g_zret hF (en_p H hE) (Or.inr rfl) (dAt tX10_canMakeWord_ok 36 rfl rfl) (by decide) (by decide)
noncomputable def X10_makeNoise_b119 (τ : Tau) (a : Nat) (M : Nat) (x1 x2 : Int32) (σ : Sig) : Option (Sig) := if x2 = 0 then ((X10_deedOf_f τ a M x1 σ).bind fun ⟨v2, s3⟩ => if v2 < 101 then (if v2 < 1 then (some s3) else ((X10_putNoise_f a M x1 0 (v2 - 1) s3).bind fun s7 => some s7)) else ((X10_putNoise_f a M x1 3 (v2 - 101) s3).bind fun s9 => some s9)) else (some σ)
set_option maxRecDepth 4000 in
set_option maxHeartbeats 1000000 in
theorem X10_makeNoise_b119_ok {K : Kt} {X : Cx} {D : Nat} {τ : Tau} {nx : Nat} {a : Nat} {M : Nat} {res : Sig}  (hD : 5 ≤ D) (hF : Fx K X cX10_makeNoise 4 RX10 D 0 0) (hS : ShX10 τ a M) (hE : En K X none 0 0 none (τ, res, nx)) {x1 x2 : Int32} {σ : Sig} (H : X10_makeNoise_b119 τ a M x1 x2 σ = some res) : G K X 4 0 0 119 [some (.ref a), some (.int x1), some (.int x2), none] [] (τ, σ, nx) := by
  refine g_p (S' := [.int x2]) hF tX10_makeNoise_ok 61 1 rfl rfl rfl rfl ?_
  obtain ⟨Ht1, Hf1⟩ := oi H
  refine g_if_ne hF (dAt tX10_makeNoise_ok 62 rfl rfl) rfl (fun c1 => ?_) (fun c1 => ?_)
  · have H := Hf1 c1
    exact g_vret hF (en_v H hE) (dAt tX10_makeNoise_ok 88 rfl rfl) (by decide) (by decide)
  · have H := Ht1 c1
    refine g_p (S' := [.int x1, .ref a]) hF tX10_makeNoise_ok 63 2 rfl rfl rfl rfl ?_
    obtain ⟨⟨v2, s3⟩, e4, H⟩ := ob H
    refine g_cV (S := []) hF (X10_deedOf_ok (Nat.le_refl _) hS e4 K) mbX10_deedOf mvX10_deedOf mlX10_193 (by omega) (by decide) (dAt tX10_makeNoise_ok 65 rfl rfl) hS.1 rfl rfl rfl (Nat.le_of_ble_eq_true rfl) rfl rfl (by decide) (by decide) rfl ?_
    refine g_p (L' := [some (.ref a), some (.int x1), some (.int x2), some (.int v2)]) (S' := [.int 101, .int v2]) hF tX10_makeNoise_ok 66 3 rfl rfl rfl rfl ?_
    obtain ⟨Ht5, Hf5⟩ := oi H
    refine g_icmp_lt hF (dAt tX10_makeNoise_ok 69 rfl rfl) rfl (fun c5 => ?_) (fun c5 => ?_)
    · have H := Ht5 c5
      refine g_p (S' := [.int 1, .int v2]) hF tX10_makeNoise_ok 78 2 rfl rfl rfl rfl ?_
      obtain ⟨Ht6, Hf6⟩ := oi H
      refine g_icmp_lt hF (dAt tX10_makeNoise_ok 80 rfl rfl) rfl (fun c6 => ?_) (fun c6 => ?_)
      · have H := Ht6 c6
        exact g_vret hF (en_v H hE) (dAt tX10_makeNoise_ok 88 rfl rfl) (by decide) (by decide)
      · have H := Hf6 c6
        refine g_p (S' := [.int (v2 - 1), .int 0, .int x1, .ref a]) hF tX10_makeNoise_ok 81 6 rfl rfl rfl rfl ?_
        obtain ⟨s7, e8, H⟩ := ob H
        refine g_cV (S := []) hF (X10_putNoise_ok (Nat.le_refl _) hS e8 K) mbX10_putNoise mvX10_putNoise mlX10_189 (by omega) (by decide) (dAt tX10_makeNoise_ok 87 rfl rfl) hS.1 rfl rfl rfl (Nat.le_of_ble_eq_true rfl) rfl rfl (by decide) (by decide) rfl ?_
        exact g_vret hF (en_v H hE) (dAt tX10_makeNoise_ok 88 rfl rfl) (by decide) (by decide)
    · have H := Hf5 c5
      refine g_p (S' := [.int (v2 - 101), .int 3, .int x1, .ref a]) hF tX10_makeNoise_ok 70 6 rfl rfl rfl rfl ?_
      obtain ⟨s9, e10, H⟩ := ob H
      refine g_cV (S := []) hF (X10_putNoise_ok (Nat.le_refl _) hS e10 K) mbX10_putNoise mvX10_putNoise mlX10_189 (by omega) (by decide) (dAt tX10_makeNoise_ok 76 rfl rfl) hS.1 rfl rfl rfl (Nat.le_of_ble_eq_true rfl) rfl rfl (by decide) (by decide) rfl ?_
      refine g_goto hF (dAt tX10_makeNoise_ok 77 rfl rfl) rfl ?_
      exact g_vret hF (en_v H hE) (dAt tX10_makeNoise_ok 88 rfl rfl) (by decide) (by decide)
noncomputable def X10_makeNoise_f (τ : Tau) (a : Nat) (M : Nat) (x1 : Int32) (σ : Sig) : Option (Sig) := (X4_hush_f (a + 1) x1 σ).bind fun s1 => (ld 12 (s1 ((a + 1) + 1)) x1).bind fun v3 => if v3 = 1 then ((X8_draw_f (a + 26) 1000 s1).bind fun ⟨v20, s21⟩ => (ld 12 (s21 ((a + 1) + 4)) x1).bind fun v23 => if v23 ≤ v20 then (some s21) else ((ld 12 (s21 ((a + 1) + 3)) x1).bind fun v26 => (X10_putNoise_f a M x1 2 v26 s21).bind fun s28 => some s28)) else (if v3 = 0 then ((X8_isNight_f (a + 26) s1).bind fun v7 => if v7 = 0 then (X10_makeNoise_b119 τ a M x1 v3 s1) else ((X8_draw_f (a + 26) 1000 s1).bind fun ⟨v10, s11⟩ => (ld 12 (s11 ((a + 1) + 4)) x1).bind fun v13 => if v13 ≤ v10 then (some s11) else ((ld 12 (s11 ((a + 1) + 3)) x1).bind fun v16 => (X10_putNoise_f a M x1 1 (v16 / 2) s11).bind fun s18 => some s18))) else (X10_makeNoise_b119 τ a M x1 v3 s1))
set_option maxRecDepth 4000 in
set_option maxHeartbeats 1000000 in
theorem X10_makeNoise_ok {D : Nat} {τ : Tau} {nx : Nat} {a : Nat} {M : Nat} {x1 : Int32} {σ : Sig} {res : Sig} (hD : 5 ≤ D) (hS : ShX10 τ a M) (H : X10_makeNoise_f τ a M x1 σ = some res) : Ok D 0 0 yX10_makeNoise cX10_makeNoise 4 none [.ref a, .int x1] (τ, σ, nx) none (τ, res, nx) := by
  refine ok_of (by decide +kernel) rfl (Nat.le_of_ble_eq_true rfl) (fun K X hF hE hN L0 hL0 => ?_)
  obtain rfl : [some (.ref a), some (.int x1), none, none] = L0 := hL0
  have hF : Fx K X cX10_makeNoise 4 RX10 D 0 0 := hF
  refine g_p (S' := [.ref a]) hF tX10_makeNoise_ok 0 1 rfl rfl rfl rfl ?_
  refine g_getR hF (dAt tX10_makeNoise_ok 1 rfl rfl) flX10_12 hS.1 rfl ?_
  refine g_p (S' := [.int x1, .ref (a + 1)]) hF tX10_makeNoise_ok 2 1 rfl rfl rfl rfl ?_
  obtain ⟨s1, e2, H⟩ := ob H
  refine g_cV (S := []) hF (X4_hush_ok (Nat.le_refl _) hS.2.1 e2 K) mbX4_hush mvX4_hush mlX10_174 (by omega) (by decide) (dAt tX10_makeNoise_ok 3 rfl rfl) hS.2.1.1 rfl rfl rfl (Nat.le_of_ble_eq_true rfl) rfl rfl (by decide) (by decide) rfl ?_
  refine g_p (S' := [.ref a]) hF tX10_makeNoise_ok 4 1 rfl rfl rfl rfl ?_
  refine g_getR hF (dAt tX10_makeNoise_ok 5 rfl rfl) flX10_12 hS.1 rfl ?_
  refine g_getR hF (dAt tX10_makeNoise_ok 6 rfl rfl) flX10_177 hS.2.1.1 rfl ?_
  refine g_p (S' := [.int x1, .ref ((a + 1) + 1)]) hF tX10_makeNoise_ok 7 1 rfl rfl rfl rfl ?_
  obtain ⟨v3, e4, H⟩ := ob H
  refine g_ild hF (dAt tX10_makeNoise_ok 8 rfl rfl) hS.2.1.2.1 e4 ?_
  refine g_p (L' := [some (.ref a), some (.int x1), some (.int v3), none]) (S' := [.int 1, .int v3]) hF tX10_makeNoise_ok 9 3 rfl rfl rfl rfl ?_
  obtain ⟨Ht5, Hf5⟩ := oi H
  refine g_icmp_ne hF (dAt tX10_makeNoise_ok 12 rfl rfl) rfl (fun c5 => ?_) (fun c5 => ?_)
  · have H := Hf5 c5
    refine g_p (S' := [.int v3]) hF tX10_makeNoise_ok 33 1 rfl rfl rfl rfl ?_
    obtain ⟨Ht6, Hf6⟩ := oi H
    refine g_if_ne hF (dAt tX10_makeNoise_ok 34 rfl rfl) rfl (fun c6 => ?_) (fun c6 => ?_)
    · have H := Hf6 c6
      exact X10_makeNoise_b119_ok hD hF hS hE H
    · have H := Ht6 c6
      refine g_p (S' := [.ref a]) hF tX10_makeNoise_ok 35 1 rfl rfl rfl rfl ?_
      refine g_getR hF (dAt tX10_makeNoise_ok 36 rfl rfl) flX10_35 hS.1 rfl ?_
      obtain ⟨v7, e8, H⟩ := ob H
      refine g_cV (S := []) hF (X8_isNight_ok (Nat.le_refl _) hS.2.2.2.2.1 e8 K) mbX8_isNight mvX8_isNight mlX10_130 (by omega) (by decide) (dAt tX10_makeNoise_ok 37 rfl rfl) hS.2.2.2.2.1 rfl rfl rfl (Nat.le_of_ble_eq_true rfl) rfl rfl (by decide) (by decide) rfl ?_
      obtain ⟨Ht9, Hf9⟩ := oi H
      refine g_if_eq hF (dAt tX10_makeNoise_ok 38 rfl rfl) rfl (fun c9 => ?_) (fun c9 => ?_)
      · have H := Ht9 c9
        exact X10_makeNoise_b119_ok hD hF hS hE H
      · have H := Hf9 c9
        refine g_p (S' := [.ref a]) hF tX10_makeNoise_ok 39 1 rfl rfl rfl rfl ?_
        refine g_getR hF (dAt tX10_makeNoise_ok 40 rfl rfl) flX10_35 hS.1 rfl ?_
        refine g_p (S' := [.int 1000, .ref (a + 26)]) hF tX10_makeNoise_ok 41 1 rfl rfl rfl rfl ?_
        obtain ⟨⟨v10, s11⟩, e12, H⟩ := ob H
        refine g_cV (S := []) hF (X8_draw_ok (Nat.le_refl _) hS.2.2.2.2.1 e12 K) mbX8_draw mvX8_draw mlX10_180 (by omega) (by decide) (dAt tX10_makeNoise_ok 42 rfl rfl) hS.2.2.2.2.1 rfl rfl rfl (Nat.le_of_ble_eq_true rfl) rfl rfl (by decide) (by decide) rfl ?_
        refine g_p (S' := [.ref a, .int v10]) hF tX10_makeNoise_ok 43 1 rfl rfl rfl rfl ?_
        refine g_getR hF (dAt tX10_makeNoise_ok 44 rfl rfl) flX10_12 hS.1 rfl ?_
        refine g_getR hF (dAt tX10_makeNoise_ok 45 rfl rfl) flX10_183 hS.2.1.1 rfl ?_
        refine g_p (S' := [.int x1, .ref ((a + 1) + 4), .int v10]) hF tX10_makeNoise_ok 46 1 rfl rfl rfl rfl ?_
        obtain ⟨v13, e14, H⟩ := ob H
        refine g_ild hF (dAt tX10_makeNoise_ok 47 rfl rfl) hS.2.1.2.2.2.2.1 e14 ?_
        obtain ⟨Ht15, Hf15⟩ := oi H
        refine g_icmp_ge hF (dAt tX10_makeNoise_ok 48 rfl rfl) rfl (fun c15 => ?_) (fun c15 => ?_)
        · have H := Ht15 c15
          exact g_vret hF (en_v H hE) (dAt tX10_makeNoise_ok 88 rfl rfl) (by decide) (by decide)
        · have H := Hf15 c15
          refine g_p (S' := [.ref a, .int 1, .int x1, .ref a]) hF tX10_makeNoise_ok 49 4 rfl rfl rfl rfl ?_
          refine g_getR hF (dAt tX10_makeNoise_ok 53 rfl rfl) flX10_12 hS.1 rfl ?_
          refine g_getR hF (dAt tX10_makeNoise_ok 54 rfl rfl) flX10_186 hS.2.1.1 rfl ?_
          refine g_p (S' := [.int x1, .ref ((a + 1) + 3), .int 1, .int x1, .ref a]) hF tX10_makeNoise_ok 55 1 rfl rfl rfl rfl ?_
          obtain ⟨v16, e17, H⟩ := ob H
          refine g_ild hF (dAt tX10_makeNoise_ok 56 rfl rfl) hS.2.1.2.2.2.1 e17 ?_
          refine g_p (S' := [.int 2, .int v16, .int 1, .int x1, .ref a]) hF tX10_makeNoise_ok 57 1 rfl rfl rfl rfl ?_
          refine g_idiv hF (dAt tX10_makeNoise_ok 58 rfl rfl) (by decide) ?_
          obtain ⟨s18, e19, H⟩ := ob H
          refine g_cV (S := []) hF (X10_putNoise_ok (Nat.le_refl _) hS e19 K) mbX10_putNoise mvX10_putNoise mlX10_189 (by omega) (by decide) (dAt tX10_makeNoise_ok 59 rfl rfl) hS.1 rfl rfl rfl (Nat.le_of_ble_eq_true rfl) rfl rfl (by decide) (by decide) rfl ?_
          refine g_goto hF (dAt tX10_makeNoise_ok 60 rfl rfl) rfl ?_
          exact g_vret hF (en_v H hE) (dAt tX10_makeNoise_ok 88 rfl rfl) (by decide) (by decide)
  · have H := Ht5 c5
    refine g_p (S' := [.ref a]) hF tX10_makeNoise_ok 13 1 rfl rfl rfl rfl ?_
    refine g_getR hF (dAt tX10_makeNoise_ok 14 rfl rfl) flX10_35 hS.1 rfl ?_
    refine g_p (S' := [.int 1000, .ref (a + 26)]) hF tX10_makeNoise_ok 15 1 rfl rfl rfl rfl ?_
    obtain ⟨⟨v20, s21⟩, e22, H⟩ := ob H
    refine g_cV (S := []) hF (X8_draw_ok (Nat.le_refl _) hS.2.2.2.2.1 e22 K) mbX8_draw mvX8_draw mlX10_180 (by omega) (by decide) (dAt tX10_makeNoise_ok 16 rfl rfl) hS.2.2.2.2.1 rfl rfl rfl (Nat.le_of_ble_eq_true rfl) rfl rfl (by decide) (by decide) rfl ?_
    refine g_p (S' := [.ref a, .int v20]) hF tX10_makeNoise_ok 17 1 rfl rfl rfl rfl ?_
    refine g_getR hF (dAt tX10_makeNoise_ok 18 rfl rfl) flX10_12 hS.1 rfl ?_
    refine g_getR hF (dAt tX10_makeNoise_ok 19 rfl rfl) flX10_183 hS.2.1.1 rfl ?_
    refine g_p (S' := [.int x1, .ref ((a + 1) + 4), .int v20]) hF tX10_makeNoise_ok 20 1 rfl rfl rfl rfl ?_
    obtain ⟨v23, e24, H⟩ := ob H
    refine g_ild hF (dAt tX10_makeNoise_ok 21 rfl rfl) hS.2.1.2.2.2.2.1 e24 ?_
    obtain ⟨Ht25, Hf25⟩ := oi H
    refine g_icmp_ge hF (dAt tX10_makeNoise_ok 22 rfl rfl) rfl (fun c25 => ?_) (fun c25 => ?_)
    · have H := Ht25 c25
      exact g_vret hF (en_v H hE) (dAt tX10_makeNoise_ok 88 rfl rfl) (by decide) (by decide)
    · have H := Hf25 c25
      refine g_p (S' := [.ref a, .int 2, .int x1, .ref a]) hF tX10_makeNoise_ok 23 4 rfl rfl rfl rfl ?_
      refine g_getR hF (dAt tX10_makeNoise_ok 27 rfl rfl) flX10_12 hS.1 rfl ?_
      refine g_getR hF (dAt tX10_makeNoise_ok 28 rfl rfl) flX10_186 hS.2.1.1 rfl ?_
      refine g_p (S' := [.int x1, .ref ((a + 1) + 3), .int 2, .int x1, .ref a]) hF tX10_makeNoise_ok 29 1 rfl rfl rfl rfl ?_
      obtain ⟨v26, e27, H⟩ := ob H
      refine g_ild hF (dAt tX10_makeNoise_ok 30 rfl rfl) hS.2.1.2.2.2.1 e27 ?_
      obtain ⟨s28, e29, H⟩ := ob H
      refine g_cV (S := []) hF (X10_putNoise_ok (Nat.le_refl _) hS e29 K) mbX10_putNoise mvX10_putNoise mlX10_189 (by omega) (by decide) (dAt tX10_makeNoise_ok 31 rfl rfl) hS.1 rfl rfl rfl (Nat.le_of_ble_eq_true rfl) rfl rfl (by decide) (by decide) rfl ?_
      refine g_goto hF (dAt tX10_makeNoise_ok 32 rfl rfl) rfl ?_
      exact g_vret hF (en_v H hE) (dAt tX10_makeNoise_ok 88 rfl rfl) (by decide) (by decide)
def X10_isWordHeardOf_b8 (a : Nat) (M : Nat) (σ : Sig) : Nat → Int32 → Int32 → Int32 → Option (Int32)
  | 0, _, _, _ => none
  | fu + 1, x1, x2, x3 => if (σ (a + 1) 0) ≤ x3 then (if x2 = 0 ∨ x2 = 1 then some x2 else none) else (if x2 = 0 then ((ld 12 (σ ((a + 1) + 7)) x3).bind fun v3 => if v3 = x1 then ((X10_isHeard_f a M x3 σ).bind fun v6 => if v6 = 0 then (X10_isWordHeardOf_b8 a M σ fu x1 0 (x3 + 1)) else (X10_isWordHeardOf_b8 a M σ fu x1 1 (x3 + 1))) else (X10_isWordHeardOf_b8 a M σ fu x1 0 (x3 + 1))) else (if x2 = 0 ∨ x2 = 1 then some x2 else none))
set_option maxRecDepth 4000 in
set_option maxHeartbeats 1000000 in
theorem X10_isWordHeardOf_b8_ok {K : Kt} {X : Cx} {D : Nat} {τ : Tau} {nx : Nat} {a : Nat} {M : Nat} {res : Int32} {σ : Sig}  (hD : 3 ≤ D) (hF : Fx K X cX10_isWordHeardOf 4 RX10 D 0 0) (hS : ShX10 τ a M) (hE : En K X (some .boolean) 0 0 (some (.int res)) (τ, σ, nx)) : ∀ (fu : Nat) (x1 x2 x3 : Int32), X10_isWordHeardOf_b8 a M σ fu x1 x2 x3 = some res → G K X 4 0 0 8 [some (.ref a), some (.int x1), some (.int x2), some (.int x3)] [] (τ, σ, nx)
  | 0, _, _, _, H => nomatch H
  | fu + 1, x1, x2, x3, H => by
    refine g_p (S' := [.ref a, .int x3]) hF tX10_isWordHeardOf_ok 6 2 rfl rfl rfl rfl ?_
    refine g_getR hF (dAt tX10_isWordHeardOf_ok 8 rfl rfl) flX10_12 hS.1 rfl ?_
    refine g_getI hF (dAt tX10_isWordHeardOf_ok 9 rfl rfl) flX10_153 hS.2.1.1 rfl ?_
    obtain ⟨Ht1, Hf1⟩ := oi H
    refine g_icmp_ge hF (dAt tX10_isWordHeardOf_ok 10 rfl rfl) rfl (fun c1 => ?_) (fun c1 => ?_)
    · have H := Ht1 c1
      refine g_p (S' := [.int x2]) hF tX10_isWordHeardOf_ok 30 1 rfl rfl rfl rfl ?_
      obtain ⟨hb, H⟩ := oy H
      exact g_zret hF (en_i H hE) hb (dAt tX10_isWordHeardOf_ok 31 rfl rfl) (by decide) (by decide)
    · have H := Hf1 c1
      refine g_p (S' := [.int x2]) hF tX10_isWordHeardOf_ok 11 1 rfl rfl rfl rfl ?_
      obtain ⟨Ht2, Hf2⟩ := oi H
      refine g_if_ne hF (dAt tX10_isWordHeardOf_ok 12 rfl rfl) rfl (fun c2 => ?_) (fun c2 => ?_)
      · have H := Hf2 c2
        refine g_p (S' := [.int x2]) hF tX10_isWordHeardOf_ok 30 1 rfl rfl rfl rfl ?_
        obtain ⟨hb, H⟩ := oy H
        exact g_zret hF (en_i H hE) hb (dAt tX10_isWordHeardOf_ok 31 rfl rfl) (by decide) (by decide)
      · have H := Ht2 c2
        refine g_p (S' := [.ref a]) hF tX10_isWordHeardOf_ok 13 1 rfl rfl rfl rfl ?_
        refine g_getR hF (dAt tX10_isWordHeardOf_ok 14 rfl rfl) flX10_12 hS.1 rfl ?_
        refine g_getR hF (dAt tX10_isWordHeardOf_ok 15 rfl rfl) flX10_253 hS.2.1.1 rfl ?_
        refine g_p (S' := [.int x3, .ref ((a + 1) + 7)]) hF tX10_isWordHeardOf_ok 16 1 rfl rfl rfl rfl ?_
        obtain ⟨v3, e4, H⟩ := ob H
        refine g_ild hF (dAt tX10_isWordHeardOf_ok 17 rfl rfl) hS.2.1.2.2.2.2.2.2.2.1 e4 ?_
        refine g_p (S' := [.int x1, .int v3]) hF tX10_isWordHeardOf_ok 18 1 rfl rfl rfl rfl ?_
        obtain ⟨Ht5, Hf5⟩ := oi H
        refine g_icmp_ne hF (dAt tX10_isWordHeardOf_ok 19 rfl rfl) rfl (fun c5 => ?_) (fun c5 => ?_)
        · have H := Hf5 c5
          refine g_p (L' := [some (.ref a), some (.int x1), some (.int 0), some (.int (x3 + 1))]) (S' := []) hF tX10_isWordHeardOf_ok 26 3 rfl rfl rfl rfl ?_
          refine g_goto hF (dAt tX10_isWordHeardOf_ok 29 rfl rfl) rfl ?_
          exact X10_isWordHeardOf_b8_ok hD hF hS hE fu _ _ _ H
        · have H := Ht5 c5
          refine g_p (S' := [.int x3, .ref a]) hF tX10_isWordHeardOf_ok 20 2 rfl rfl rfl rfl ?_
          obtain ⟨v6, e7, H⟩ := ob H
          refine g_cV (S := []) hF (X10_isHeard_ok (Nat.le_refl _) hS e7 K) mbX10_isHeard mvX10_isHeard mlX10_250 (by omega) (by decide) (dAt tX10_isWordHeardOf_ok 22 rfl rfl) hS.1 rfl rfl rfl (Nat.le_of_ble_eq_true rfl) rfl rfl (by decide) (by decide) rfl ?_
          obtain ⟨Ht8, Hf8⟩ := oi H
          refine g_if_eq hF (dAt tX10_isWordHeardOf_ok 23 rfl rfl) rfl (fun c8 => ?_) (fun c8 => ?_)
          · have H := Ht8 c8
            refine g_p (L' := [some (.ref a), some (.int x1), some (.int 0), some (.int (x3 + 1))]) (S' := []) hF tX10_isWordHeardOf_ok 26 3 rfl rfl rfl rfl ?_
            refine g_goto hF (dAt tX10_isWordHeardOf_ok 29 rfl rfl) rfl ?_
            exact X10_isWordHeardOf_b8_ok hD hF hS hE fu _ _ _ H
          · have H := Hf8 c8
            refine g_p (S' := [.int 1]) hF tX10_isWordHeardOf_ok 24 1 rfl rfl rfl rfl ?_
            refine g_goto hF (dAt tX10_isWordHeardOf_ok 25 rfl rfl) rfl ?_
            refine g_p (L' := [some (.ref a), some (.int x1), some (.int 1), some (.int (x3 + 1))]) (S' := []) hF tX10_isWordHeardOf_ok 27 2 rfl rfl rfl rfl ?_
            refine g_goto hF (dAt tX10_isWordHeardOf_ok 29 rfl rfl) rfl ?_
            exact X10_isWordHeardOf_b8_ok hD hF hS hE fu _ _ _ H
def X10_isWordHeardOf_f (a : Nat) (M : Nat) (x1 : Int32) (σ : Sig) : Option (Int32) := (X10_isHeard_f a M x1 σ).bind fun v1 => X10_isWordHeardOf_b8 a M σ FU x1 v1 0
set_option maxRecDepth 4000 in
set_option maxHeartbeats 1000000 in
theorem X10_isWordHeardOf_ok {D : Nat} {τ : Tau} {nx : Nat} {a : Nat} {M : Nat} {x1 : Int32} {σ : Sig} {res : Int32} (hD : 3 ≤ D) (hS : ShX10 τ a M) (H : X10_isWordHeardOf_f a M x1 σ = some res) : Ok D 0 0 yX10_isWordHeardOf cX10_isWordHeardOf 4 (some .boolean) [.ref a, .int x1] (τ, σ, nx) (some (.int res)) (τ, σ, nx) := by
  refine ok_of (by decide +kernel) rfl (Nat.le_of_ble_eq_true rfl) (fun K X hF hE hN L0 hL0 => ?_)
  obtain rfl : [some (.ref a), some (.int x1), none, none] = L0 := hL0
  have hF : Fx K X cX10_isWordHeardOf 4 RX10 D 0 0 := hF
  refine g_p (S' := [.int x1, .ref a]) hF tX10_isWordHeardOf_ok 0 2 rfl rfl rfl rfl ?_
  obtain ⟨v1, e2, H⟩ := ob H
  refine g_cV (S := []) hF (X10_isHeard_ok (Nat.le_refl _) hS e2 K) mbX10_isHeard mvX10_isHeard mlX10_250 (by omega) (by decide) (dAt tX10_isWordHeardOf_ok 2 rfl rfl) hS.1 rfl rfl rfl (Nat.le_of_ble_eq_true rfl) rfl rfl (by decide) (by decide) rfl ?_
  refine g_p (L' := [some (.ref a), some (.int x1), some (.int v1), some (.int 0)]) (S' := []) hF tX10_isWordHeardOf_ok 3 3 rfl rfl rfl rfl ?_
  exact X10_isWordHeardOf_b8_ok hD hF hS hE FU _ _ _ H
noncomputable def X10_byWhom_b6 (τ : Tau) (a : Nat) (M : Nat) : Nat → Int32 → Int32 → Int32 → Int32 → Int32 → Int32 → Sig → Option (Int32 × Sig)
  | 0, _, _, _, _, _, _, _ => none
  | fu + 1, x1, x2, x3, x4, x5, x6, σ => if (σ (a + 1) 0) ≤ x6 then (some (x5, σ)) else ((ld 12 (σ ((a + 1) + 2)) x6).bind fun v2 => (X9_wallBetween_f (a + 23) v2 x1 σ).bind fun v4 => (X10_canMakeWord_f τ a M x6 (x4 + v4) x3 x2 σ).bind fun ⟨v6, s7⟩ => if v6 = 0 then (X10_byWhom_b6 τ a M fu x1 x2 x3 x4 x5 (x6 + 1) s7) else (X10_byWhom_b6 τ a M fu x1 x2 x3 x4 (x5 ||| (1 <<< (x6 &&& 31))) (x6 + 1) s7))
set_option maxRecDepth 4000 in
set_option maxHeartbeats 1000000 in
theorem X10_byWhom_b6_ok {K : Kt} {X : Cx} {D : Nat} {τ : Tau} {nx : Nat} {a : Nat} {M : Nat} {res : Int32} {rsg : Sig}  (hD : 6 ≤ D) (hF : Fx K X cX10_byWhom 8 RX10 D 0 0) (hS : ShX10 τ a M) (hE : En K X (some .int) 0 0 (some (.int res)) (τ, rsg, nx)) : ∀ (fu : Nat) (x1 x2 x3 x4 x5 x6 : Int32) (σ : Sig), X10_byWhom_b6 τ a M fu x1 x2 x3 x4 x5 x6 σ = some (res, rsg) → G K X 8 0 0 6 [some (.ref a), some (.int x1), some (.int x2), some (.int x3), some (.int x4), some (.int x5), some (.int x6), none] [] (τ, σ, nx)
  | 0, _, _, _, _, _, _, _, H => nomatch H
  | fu + 1, x1, x2, x3, x4, x5, x6, σ, H => by
    refine g_p (S' := [.ref a, .int x6]) hF tX10_byWhom_ok 4 2 rfl rfl rfl rfl ?_
    refine g_getR hF (dAt tX10_byWhom_ok 6 rfl rfl) flX10_12 hS.1 rfl ?_
    refine g_getI hF (dAt tX10_byWhom_ok 7 rfl rfl) flX10_153 hS.2.1.1 rfl ?_
    obtain ⟨Ht1, Hf1⟩ := oi H
    refine g_icmp_ge hF (dAt tX10_byWhom_ok 8 rfl rfl) rfl (fun c1 => ?_) (fun c1 => ?_)
    · have H := Ht1 c1
      refine g_p (S' := [.int x5]) hF tX10_byWhom_ok 36 1 rfl rfl rfl rfl ?_
      exact g_iret hF (en_p H hE) (dAt tX10_byWhom_ok 37 rfl rfl) (by decide) (by decide)
    · have H := Hf1 c1
      refine g_p (S' := [.ref a, .int x4]) hF tX10_byWhom_ok 9 2 rfl rfl rfl rfl ?_
      refine g_getR hF (dAt tX10_byWhom_ok 11 rfl rfl) flX10_28 hS.1 rfl ?_
      refine g_p (S' := [.ref a, .ref (a + 23), .int x4]) hF tX10_byWhom_ok 12 1 rfl rfl rfl rfl ?_
      refine g_getR hF (dAt tX10_byWhom_ok 13 rfl rfl) flX10_12 hS.1 rfl ?_
      refine g_getR hF (dAt tX10_byWhom_ok 14 rfl rfl) flX10_256 hS.2.1.1 rfl ?_
      refine g_p (S' := [.int x6, .ref ((a + 1) + 2), .ref (a + 23), .int x4]) hF tX10_byWhom_ok 15 1 rfl rfl rfl rfl ?_
      obtain ⟨v2, e3, H⟩ := ob H
      refine g_ild hF (dAt tX10_byWhom_ok 16 rfl rfl) hS.2.1.2.2.1 e3 ?_
      refine g_p (S' := [.int x1, .int v2, .ref (a + 23), .int x4]) hF tX10_byWhom_ok 17 1 rfl rfl rfl rfl ?_
      obtain ⟨v4, e5, H⟩ := ob H
      refine g_cV (S := [.int x4]) hF (X9_wallBetween_ok (Nat.le_refl _) hS.2.2.2.1 e5 K) mbX9_wallBetween mvX9_wallBetween mlX10_262 (by omega) (by decide) (dAt tX10_byWhom_ok 18 rfl rfl) hS.2.2.2.1.1 rfl rfl rfl (Nat.le_of_ble_eq_true rfl) rfl rfl (by decide) (by decide) rfl ?_
      refine g_p (L' := [some (.ref a), some (.int x1), some (.int x2), some (.int x3), some (.int x4), some (.int x5), some (.int x6), some (.int (x4 + v4))]) (S' := [.int x2, .int x3, .int (x4 + v4), .int x6, .ref a]) hF tX10_byWhom_ok 19 7 rfl rfl rfl rfl ?_
      obtain ⟨⟨v6, s7⟩, e8, H⟩ := ob H
      refine g_cV (S := []) hF (X10_canMakeWord_ok (Nat.le_refl _) hS e8 K) mbX10_canMakeWord mvX10_canMakeWord mlX10_283 (by omega) (by decide) (dAt tX10_byWhom_ok 26 rfl rfl) hS.1 rfl rfl rfl (Nat.le_of_ble_eq_true rfl) rfl rfl (by decide) (by decide) rfl ?_
      obtain ⟨Ht9, Hf9⟩ := oi H
      refine g_if_eq hF (dAt tX10_byWhom_ok 27 rfl rfl) rfl (fun c9 => ?_) (fun c9 => ?_)
      · have H := Ht9 c9
        refine g_p (L' := [some (.ref a), some (.int x1), some (.int x2), some (.int x3), some (.int x4), some (.int x5), some (.int (x6 + 1)), some (.int (x4 + v4))]) (S' := []) hF tX10_byWhom_ok 34 1 rfl rfl rfl rfl ?_
        refine g_goto hF (dAt tX10_byWhom_ok 35 rfl rfl) rfl ?_
        refine g_m [true, true, true, true, true, true, true, false] rfl ?_
        exact X10_byWhom_b6_ok hD hF hS hE fu _ _ _ _ _ _ _ H
      · have H := Hf9 c9
        refine g_p (L' := [some (.ref a), some (.int x1), some (.int x2), some (.int x3), some (.int x4), some (.int (x5 ||| (1 <<< (x6 &&& 31)))), some (.int (x6 + 1)), some (.int (x4 + v4))]) (S' := []) hF tX10_byWhom_ok 28 7 rfl rfl rfl rfl ?_
        refine g_goto hF (dAt tX10_byWhom_ok 35 rfl rfl) rfl ?_
        refine g_m [true, true, true, true, true, true, true, false] rfl ?_
        exact X10_byWhom_b6_ok hD hF hS hE fu _ _ _ _ _ _ _ H
noncomputable def X10_byWhom_f (τ : Tau) (a : Nat) (M : Nat) (x1 x2 x3 x4 : Int32) (σ : Sig) : Option (Int32 × Sig) := X10_byWhom_b6 τ a M FU x1 x2 x3 x4 0 0 σ
set_option maxRecDepth 4000 in
set_option maxHeartbeats 1000000 in
theorem X10_byWhom_ok {D : Nat} {τ : Tau} {nx : Nat} {a : Nat} {M : Nat} {x1 x2 x3 x4 : Int32} {σ : Sig} {res : Int32} {rsg : Sig} (hD : 6 ≤ D) (hS : ShX10 τ a M) (H : X10_byWhom_f τ a M x1 x2 x3 x4 σ = some (res, rsg)) : Ok D 0 0 yX10_byWhom cX10_byWhom 8 (some .int) [.ref a, .int x1, .int x2, .int x3, .int x4] (τ, σ, nx) (some (.int res)) (τ, rsg, nx) := by
  refine ok_of (by decide +kernel) rfl (Nat.le_of_ble_eq_true rfl) (fun K X hF hE hN L0 hL0 => ?_)
  obtain rfl : [some (.ref a), some (.int x1), some (.int x2), some (.int x3), some (.int x4), none, none, none] = L0 := hL0
  have hF : Fx K X cX10_byWhom 8 RX10 D 0 0 := hF
  refine g_p (L' := [some (.ref a), some (.int x1), some (.int x2), some (.int x3), some (.int x4), some (.int 0), some (.int 0), none]) (S' := []) hF tX10_byWhom_ok 0 4 rfl rfl rfl rfl ?_
  exact X10_byWhom_b6_ok hD hF hS hE FU _ _ _ _ _ _ _ H
def X10_keepQuiet_b71 (a : Nat) (M : Nat) (x1 x2 : Int32) (σ : Sig) : Option (Sig) := (X10_payQuarter_f a M x1 x2 σ).bind fun s1 => some s1
set_option maxRecDepth 4000 in
set_option maxHeartbeats 1000000 in
theorem X10_keepQuiet_b71_ok {K : Kt} {X : Cx} {D : Nat} {τ : Tau} {nx : Nat} {a : Nat} {M : Nat} {res : Sig}  (hD : 4 ≤ D) (hF : Fx K X cX10_keepQuiet 3 RX10 D 0 0) (hS : ShX10 τ a M) (hE : En K X none 0 0 none (τ, res, nx)) {x1 x2 : Int32} {σ : Sig} (H : X10_keepQuiet_b71 a M x1 x2 σ = some res) : G K X 3 0 0 71 [some (.ref a), some (.int x1), some (.int x2)] [] (τ, σ, nx) := by
  refine g_p (S' := [.int x2, .int x1, .ref a]) hF tX10_keepQuiet_ok 35 3 rfl rfl rfl rfl ?_
  obtain ⟨s1, e2, H⟩ := ob H
  refine g_cV (S := []) hF (X10_payQuarter_ok (Nat.le_refl _) hS e2 K) mbX10_payQuarter mvX10_payQuarter mlX10_247 (by omega) (by decide) (dAt tX10_keepQuiet_ok 38 rfl rfl) hS.1 rfl rfl rfl (Nat.le_of_ble_eq_true rfl) rfl rfl (by decide) (by decide) rfl ?_
  exact g_vret hF (en_v H hE) (dAt tX10_keepQuiet_ok 39 rfl rfl) (by decide) (by decide)
def X10_keepQuiet_f (a : Nat) (M : Nat) (x1 x2 : Int32) (σ : Sig) : Option (Sig) := (X10_isWordHeardOf_f a M x1 σ).bind fun v1 => if v1 = 0 then (if (σ (a + 23) 4) ≤ 0 then (X10_keepQuiet_b71 a M x1 x2 σ) else ((X8_draw_f (a + 26) 1000 σ).bind fun ⟨v5, s6⟩ => if (s6 (a + 23) 4) ≤ v5 then (X10_keepQuiet_b71 a M x1 x2 s6) else ((pI s6 (a + 33) 5 ((s6 (a + 33) 5) + 1)).bind fun s9 => (X10_beginAgain_f a M x1 x2 2 s9).bind fun s11 => some s11))) else ((X10_beginAgain_f a M x1 x2 1 σ).bind fun s13 => some s13)
set_option maxRecDepth 4000 in
set_option maxHeartbeats 1000000 in
theorem X10_keepQuiet_ok {D : Nat} {τ : Tau} {nx : Nat} {a : Nat} {M : Nat} {x1 x2 : Int32} {σ : Sig} {res : Sig} (hD : 4 ≤ D) (hS : ShX10 τ a M) (H : X10_keepQuiet_f a M x1 x2 σ = some res) : Ok D 0 0 yX10_keepQuiet cX10_keepQuiet 3 none [.ref a, .int x1, .int x2] (τ, σ, nx) none (τ, res, nx) := by
  refine ok_of (by decide +kernel) rfl (Nat.le_of_ble_eq_true rfl) (fun K X hF hE hN L0 hL0 => ?_)
  obtain rfl : [some (.ref a), some (.int x1), some (.int x2)] = L0 := hL0
  have hF : Fx K X cX10_keepQuiet 3 RX10 D 0 0 := hF
  refine g_p (S' := [.int x1, .ref a]) hF tX10_keepQuiet_ok 0 2 rfl rfl rfl rfl ?_
  obtain ⟨v1, e2, H⟩ := ob H
  refine g_cV (S := []) hF (X10_isWordHeardOf_ok (Nat.le_refl _) hS e2 K) mbX10_isWordHeardOf mvX10_isWordHeardOf mlX10_238 (by omega) (by decide) (dAt tX10_keepQuiet_ok 2 rfl rfl) hS.1 rfl rfl rfl (Nat.le_of_ble_eq_true rfl) rfl rfl (by decide) (by decide) rfl ?_
  obtain ⟨Ht3, Hf3⟩ := oi H
  refine g_if_eq hF (dAt tX10_keepQuiet_ok 3 rfl rfl) rfl (fun c3 => ?_) (fun c3 => ?_)
  · have H := Ht3 c3
    refine g_p (S' := [.ref a]) hF tX10_keepQuiet_ok 10 1 rfl rfl rfl rfl ?_
    refine g_getR hF (dAt tX10_keepQuiet_ok 11 rfl rfl) flX10_28 hS.1 rfl ?_
    refine g_getI hF (dAt tX10_keepQuiet_ok 12 rfl rfl) flX10_94 hS.2.2.2.1.1 rfl ?_
    obtain ⟨Ht4, Hf4⟩ := oi H
    refine g_if_le hF (dAt tX10_keepQuiet_ok 13 rfl rfl) rfl (fun c4 => ?_) (fun c4 => ?_)
    · have H := Ht4 c4
      exact X10_keepQuiet_b71_ok hD hF hS hE H
    · have H := Hf4 c4
      refine g_p (S' := [.ref a]) hF tX10_keepQuiet_ok 14 1 rfl rfl rfl rfl ?_
      refine g_getR hF (dAt tX10_keepQuiet_ok 15 rfl rfl) flX10_35 hS.1 rfl ?_
      refine g_p (S' := [.int 1000, .ref (a + 26)]) hF tX10_keepQuiet_ok 16 1 rfl rfl rfl rfl ?_
      obtain ⟨⟨v5, s6⟩, e7, H⟩ := ob H
      refine g_cV (S := []) hF (X8_draw_ok (Nat.le_refl _) hS.2.2.2.2.1 e7 K) mbX8_draw mvX8_draw mlX10_180 (by omega) (by decide) (dAt tX10_keepQuiet_ok 17 rfl rfl) hS.2.2.2.2.1 rfl rfl rfl (Nat.le_of_ble_eq_true rfl) rfl rfl (by decide) (by decide) rfl ?_
      refine g_p (S' := [.ref a, .int v5]) hF tX10_keepQuiet_ok 18 1 rfl rfl rfl rfl ?_
      refine g_getR hF (dAt tX10_keepQuiet_ok 19 rfl rfl) flX10_28 hS.1 rfl ?_
      refine g_getI hF (dAt tX10_keepQuiet_ok 20 rfl rfl) flX10_94 hS.2.2.2.1.1 rfl ?_
      obtain ⟨Ht8, Hf8⟩ := oi H
      refine g_icmp_ge hF (dAt tX10_keepQuiet_ok 21 rfl rfl) rfl (fun c8 => ?_) (fun c8 => ?_)
      · have H := Ht8 c8
        exact X10_keepQuiet_b71_ok hD hF hS hE H
      · have H := Hf8 c8
        refine g_p (S' := [.ref a]) hF tX10_keepQuiet_ok 22 1 rfl rfl rfl rfl ?_
        refine g_getR hF (dAt tX10_keepQuiet_ok 23 rfl rfl) flX10_67 hS.1 rfl ?_
        refine g_p (S' := [.ref (a + 33), .ref (a + 33)]) hF tX10_keepQuiet_ok 24 1 rfl rfl rfl rfl ?_
        refine g_getI hF (dAt tX10_keepQuiet_ok 25 rfl rfl) flX10_244 hS.2.2.2.2.2.1.1 rfl ?_
        refine g_p (S' := [.int ((s6 (a + 33) 5) + 1), .ref (a + 33)]) hF tX10_keepQuiet_ok 26 2 rfl rfl rfl rfl ?_
        obtain ⟨s9, e10, H⟩ := ob H
        refine g_pI hF (dAt tX10_keepQuiet_ok 28 rfl rfl) flX10_244 (Or.inl rfl) hS.2.2.2.2.2.1.1 rfl e10 ?_
        refine g_p (S' := [.int 2, .int x2, .int x1, .ref a]) hF tX10_keepQuiet_ok 29 4 rfl rfl rfl rfl ?_
        obtain ⟨s11, e12, H⟩ := ob H
        refine g_cV (S := []) hF (X10_beginAgain_ok (Nat.le_refl _) hS e12 K) mbX10_beginAgain mvX10_beginAgain mlX10_241 (by omega) (by decide) (dAt tX10_keepQuiet_ok 33 rfl rfl) hS.1 rfl rfl rfl (Nat.le_of_ble_eq_true rfl) rfl rfl (by decide) (by decide) rfl ?_
        refine g_goto hF (dAt tX10_keepQuiet_ok 34 rfl rfl) rfl ?_
        exact g_vret hF (en_v H hE) (dAt tX10_keepQuiet_ok 39 rfl rfl) (by decide) (by decide)
  · have H := Hf3 c3
    refine g_p (S' := [.int 1, .int x2, .int x1, .ref a]) hF tX10_keepQuiet_ok 4 4 rfl rfl rfl rfl ?_
    obtain ⟨s13, e14, H⟩ := ob H
    refine g_cV (S := []) hF (X10_beginAgain_ok (Nat.le_refl _) hS e14 K) mbX10_beginAgain mvX10_beginAgain mlX10_241 (by omega) (by decide) (dAt tX10_keepQuiet_ok 8 rfl rfl) hS.1 rfl rfl rfl (Nat.le_of_ble_eq_true rfl) rfl rfl (by decide) (by decide) rfl ?_
    refine g_goto hF (dAt tX10_keepQuiet_ok 9 rfl rfl) rfl ?_
    exact g_vret hF (en_v H hE) (dAt tX10_keepQuiet_ok 39 rfl rfl) (by decide) (by decide)
def X10_ring_b47 (a : Nat) (M : Nat) : Nat → Int32 → Sig → Option (Sig)
  | 0, _, _ => none
  | fu + 1, x2, σ => if (σ (a + 1) 0) ≤ x2 then (some σ) else ((ld 12 (σ (a + 32)) x2).bind fun v2 => if v2 = (-1) then (X10_ring_b47 a M fu (x2 + 1) σ) else ((ld 12 (σ (a + 32)) x2).bind fun v5 => (X10_keepQuiet_f a M x2 v5 σ).bind fun s7 => X10_ring_b47 a M fu (x2 + 1) s7))
set_option maxRecDepth 4000 in
set_option maxHeartbeats 1000000 in
theorem X10_ring_b47_ok {K : Kt} {X : Cx} {D : Nat} {τ : Tau} {nx : Nat} {a : Nat} {M : Nat} {res : Sig}  (hD : 5 ≤ D) (hF : Fx K X cX10_ring 3 RX10 D 0 0) (hS : ShX10 τ a M) (hE : En K X none 0 0 none (τ, res, nx)) : ∀ (fu : Nat) (x2 : Int32) (σ : Sig), X10_ring_b47 a M fu x2 σ = some res → G K X 3 0 0 47 [some (.ref a), none, some (.int x2)] [] (τ, σ, nx)
  | 0, _, _, H => nomatch H
  | fu + 1, x2, σ, H => by
    refine g_p (S' := [.ref a, .int x2]) hF tX10_ring_ok 27 2 rfl rfl rfl rfl ?_
    refine g_getR hF (dAt tX10_ring_ok 29 rfl rfl) flX10_12 hS.1 rfl ?_
    refine g_getI hF (dAt tX10_ring_ok 30 rfl rfl) flX10_153 hS.2.1.1 rfl ?_
    obtain ⟨Ht1, Hf1⟩ := oi H
    refine g_icmp_ge hF (dAt tX10_ring_ok 31 rfl rfl) rfl (fun c1 => ?_) (fun c1 => ?_)
    · have H := Ht1 c1
      exact g_vret hF (en_v H hE) (dAt tX10_ring_ok 47 rfl rfl) (by decide) (by decide)
    · have H := Hf1 c1
      refine g_p (S' := [.ref a]) hF tX10_ring_ok 32 1 rfl rfl rfl rfl ?_
      refine g_getR hF (dAt tX10_ring_ok 33 rfl rfl) flX10_59 hS.1 rfl ?_
      refine g_p (S' := [.int x2, .ref (a + 32)]) hF tX10_ring_ok 34 1 rfl rfl rfl rfl ?_
      obtain ⟨v2, e3, H⟩ := ob H
      refine g_ild hF (dAt tX10_ring_ok 35 rfl rfl) hS.2.2.2.2.2.2.2.2.2.2 e3 ?_
      refine g_p (S' := [.int (-1), .int v2]) hF tX10_ring_ok 36 1 rfl rfl rfl rfl ?_
      obtain ⟨Ht4, Hf4⟩ := oi H
      refine g_icmp_eq hF (dAt tX10_ring_ok 37 rfl rfl) rfl (fun c4 => ?_) (fun c4 => ?_)
      · have H := Ht4 c4
        refine g_p (L' := [some (.ref a), none, some (.int (x2 + 1))]) (S' := []) hF tX10_ring_ok 45 1 rfl rfl rfl rfl ?_
        refine g_goto hF (dAt tX10_ring_ok 46 rfl rfl) rfl ?_
        exact X10_ring_b47_ok hD hF hS hE fu _ _ H
      · have H := Hf4 c4
        refine g_p (S' := [.ref a, .int x2, .ref a]) hF tX10_ring_ok 38 3 rfl rfl rfl rfl ?_
        refine g_getR hF (dAt tX10_ring_ok 41 rfl rfl) flX10_59 hS.1 rfl ?_
        refine g_p (S' := [.int x2, .ref (a + 32), .int x2, .ref a]) hF tX10_ring_ok 42 1 rfl rfl rfl rfl ?_
        obtain ⟨v5, e6, H⟩ := ob H
        refine g_ild hF (dAt tX10_ring_ok 43 rfl rfl) hS.2.2.2.2.2.2.2.2.2.2 e6 ?_
        obtain ⟨s7, e8, H⟩ := ob H
        refine g_cV (S := []) hF (X10_keepQuiet_ok (Nat.le_refl _) hS e8 K) mbX10_keepQuiet mvX10_keepQuiet mlX10_217 (by omega) (by decide) (dAt tX10_ring_ok 44 rfl rfl) hS.1 rfl rfl rfl (Nat.le_of_ble_eq_true rfl) rfl rfl (by decide) (by decide) rfl ?_
        refine g_p (L' := [some (.ref a), none, some (.int (x2 + 1))]) (S' := []) hF tX10_ring_ok 45 1 rfl rfl rfl rfl ?_
        refine g_goto hF (dAt tX10_ring_ok 46 rfl rfl) rfl ?_
        exact X10_ring_b47_ok hD hF hS hE fu _ _ H
def X10_ring_f (a : Nat) (M : Nat) (x1 : Int32) (σ : Sig) : Option (Sig) := (ld 12 (σ ((a + 1) + 10)) x1).bind fun v1 => if v1 = 1 then ((pI σ (a + 33) 6 ((σ (a + 33) 6) + 1)).bind fun s6 => (X2_write_f (a + 33) M (a + 26) 3 x1 (-1) s6).bind fun s8 => some s8) else ((X10_chooseDebts_f a M σ).bind fun s4 => X10_ring_b47 a M FU 0 s4)
set_option maxRecDepth 4000 in
set_option maxHeartbeats 1000000 in
theorem X10_ring_ok {D : Nat} {τ : Tau} {nx : Nat} {a : Nat} {M : Nat} {x1 : Int32} {σ : Sig} {res : Sig} (hD : 5 ≤ D) (hS : ShX10 τ a M) (H : X10_ring_f a M x1 σ = some res) : Ok D 0 0 yX10_ring cX10_ring 3 none [.ref a, .int x1] (τ, σ, nx) none (τ, res, nx) := by
  refine ok_of (by decide +kernel) rfl (Nat.le_of_ble_eq_true rfl) (fun K X hF hE hN L0 hL0 => ?_)
  obtain rfl : [some (.ref a), some (.int x1), none] = L0 := hL0
  have hF : Fx K X cX10_ring 3 RX10 D 0 0 := hF
  refine g_p (S' := [.ref a]) hF tX10_ring_ok 0 1 rfl rfl rfl rfl ?_
  refine g_getR hF (dAt tX10_ring_ok 1 rfl rfl) flX10_12 hS.1 rfl ?_
  refine g_getR hF (dAt tX10_ring_ok 2 rfl rfl) flX10_204 hS.2.1.1 rfl ?_
  refine g_p (S' := [.int x1, .ref ((a + 1) + 10)]) hF tX10_ring_ok 3 1 rfl rfl rfl rfl ?_
  obtain ⟨v1, e2, H⟩ := ob H
  refine g_ild hF (dAt tX10_ring_ok 4 rfl rfl) hS.2.1.2.2.2.2.2.2.2.2.2.2 e2 ?_
  refine g_p (S' := [.int 1, .int v1]) hF tX10_ring_ok 5 1 rfl rfl rfl rfl ?_
  obtain ⟨Ht3, Hf3⟩ := oi H
  refine g_icmp_ne hF (dAt tX10_ring_ok 6 rfl rfl) rfl (fun c3 => ?_) (fun c3 => ?_)
  · have H := Hf3 c3
    refine g_p (S' := [.ref a]) hF tX10_ring_ok 23 1 rfl rfl rfl rfl ?_
    obtain ⟨s4, e5, H⟩ := ob H
    refine g_cV (S := []) hF (X10_chooseDebts_ok (Nat.le_refl _) hS e5 K) mbX10_chooseDebts mvX10_chooseDebts mlX10_214 (by omega) (by decide) (dAt tX10_ring_ok 24 rfl rfl) hS.1 rfl rfl rfl (Nat.le_of_ble_eq_true rfl) rfl rfl (by decide) (by decide) rfl ?_
    refine g_p (L' := [some (.ref a), some (.int x1), some (.int 0)]) (S' := []) hF tX10_ring_ok 25 2 rfl rfl rfl rfl ?_
    refine g_m [true, false, true] rfl ?_
    exact X10_ring_b47_ok hD hF hS hE FU _ _ H
  · have H := Ht3 c3
    refine g_p (S' := [.ref a]) hF tX10_ring_ok 7 1 rfl rfl rfl rfl ?_
    refine g_getR hF (dAt tX10_ring_ok 8 rfl rfl) flX10_67 hS.1 rfl ?_
    refine g_p (S' := [.ref (a + 33), .ref (a + 33)]) hF tX10_ring_ok 9 1 rfl rfl rfl rfl ?_
    refine g_getI hF (dAt tX10_ring_ok 10 rfl rfl) flX10_207 hS.2.2.2.2.2.1.1 rfl ?_
    refine g_p (S' := [.int ((σ (a + 33) 6) + 1), .ref (a + 33)]) hF tX10_ring_ok 11 2 rfl rfl rfl rfl ?_
    obtain ⟨s6, e7, H⟩ := ob H
    refine g_pI hF (dAt tX10_ring_ok 13 rfl rfl) flX10_207 (Or.inl rfl) hS.2.2.2.2.2.1.1 rfl e7 ?_
    refine g_p (S' := [.ref a]) hF tX10_ring_ok 14 1 rfl rfl rfl rfl ?_
    refine g_getR hF (dAt tX10_ring_ok 15 rfl rfl) flX10_67 hS.1 rfl ?_
    refine g_p (S' := [.ref a, .ref (a + 33)]) hF tX10_ring_ok 16 1 rfl rfl rfl rfl ?_
    refine g_getR hF (dAt tX10_ring_ok 17 rfl rfl) flX10_35 hS.1 rfl ?_
    refine g_p (S' := [.int (-1), .int x1, .int 3, .ref (a + 26), .ref (a + 33)]) hF tX10_ring_ok 18 3 rfl rfl rfl rfl ?_
    obtain ⟨s8, e9, H⟩ := ob H
    refine g_cV (S := []) hF (X2_write_ok (Nat.le_refl _) hS.2.2.2.2.2.1 hS.2.2.2.2.1 e9 K) mbX2_write mvX2_write mlX10_210 (by omega) (by decide) (dAt tX10_ring_ok 21 rfl rfl) hS.2.2.2.2.2.1.1 rfl rfl rfl (Nat.le_of_ble_eq_true rfl) rfl rfl (by decide) (by decide) rfl ?_
    exact g_vret hF (en_v H hE) (dAt tX10_ring_ok 22 rfl rfl) (by decide) (by decide)
noncomputable def X10_pass_b84 (τ : Tau) (a : Nat) (M : Nat) (σ : Sig) : Option (Sig) := (X8_goOn_f (a + 26) σ).bind fun s1 => some s1
set_option maxRecDepth 4000 in
set_option maxHeartbeats 1000000 in
theorem X10_pass_b84_ok {K : Kt} {X : Cx} {D : Nat} {τ : Tau} {nx : Nat} {a : Nat} {M : Nat} {res : Sig}  (hD : 6 ≤ D) (hF : Fx K X cX10_pass 2 RX10 D 0 0) (hS : ShX10 τ a M) (hE : En K X none 0 0 none (τ, res, nx)) {σ : Sig} (H : X10_pass_b84 τ a M σ = some res) : G K X 2 0 0 84 [some (.ref a), none] [] (τ, σ, nx) := by
  refine g_p (S' := [.ref a]) hF tX10_pass_ok 38 1 rfl rfl rfl rfl ?_
  refine g_getR hF (dAt tX10_pass_ok 39 rfl rfl) flX10_35 hS.1 rfl ?_
  obtain ⟨s1, e2, H⟩ := ob H
  refine g_cV (S := []) hF (X8_goOn_ok (Nat.le_refl _) hS.2.2.2.2.1 e2 K) mbX8_goOn mvX8_goOn mlX10_171 (by omega) (by decide) (dAt tX10_pass_ok 40 rfl rfl) hS.2.2.2.2.1 rfl rfl rfl (Nat.le_of_ble_eq_true rfl) rfl rfl (by decide) (by decide) rfl ?_
  exact g_vret hF (en_v H hE) (dAt tX10_pass_ok 41 rfl rfl) (by decide) (by decide)
noncomputable def X10_pass_b19 (τ : Tau) (a : Nat) (M : Nat) : Nat → Int32 → Sig → Option (Sig)
  | 0, _, _ => none
  | fu + 1, x1, σ => if (σ (a + 1) 0) ≤ x1 then ((X4_has_f (a + 1) (σ (a + 23) 2) σ).bind fun v2 => if v2 = 0 then (X10_pass_b84 τ a M σ) else ((X8_isFeast_f (a + 26) σ).bind fun v5 => if v5 = 0 then ((X10_ring_f a M (σ (a + 23) 2) σ).bind fun s8 => X10_pass_b84 τ a M s8) else (X10_pass_b84 τ a M σ))) else ((X10_makeNoise_f τ a M x1 σ).bind fun s10 => (X10_judgeNoise_f τ a M x1 s10).bind fun s12 => X10_pass_b19 τ a M fu (x1 + 1) s12)
set_option maxRecDepth 4000 in
set_option maxHeartbeats 1000000 in
theorem X10_pass_b19_ok {K : Kt} {X : Cx} {D : Nat} {τ : Tau} {nx : Nat} {a : Nat} {M : Nat} {res : Sig}  (hD : 6 ≤ D) (hF : Fx K X cX10_pass 2 RX10 D 0 0) (hS : ShX10 τ a M) (hE : En K X none 0 0 none (τ, res, nx)) : ∀ (fu : Nat) (x1 : Int32) (σ : Sig), X10_pass_b19 τ a M fu x1 σ = some res → G K X 2 0 0 19 [some (.ref a), some (.int x1)] [] (τ, σ, nx)
  | 0, _, _, H => nomatch H
  | fu + 1, x1, σ, H => by
    refine g_p (S' := [.ref a, .int x1]) hF tX10_pass_ok 9 2 rfl rfl rfl rfl ?_
    refine g_getR hF (dAt tX10_pass_ok 11 rfl rfl) flX10_12 hS.1 rfl ?_
    refine g_getI hF (dAt tX10_pass_ok 12 rfl rfl) flX10_153 hS.2.1.1 rfl ?_
    obtain ⟨Ht1, Hf1⟩ := oi H
    refine g_icmp_ge hF (dAt tX10_pass_ok 13 rfl rfl) rfl (fun c1 => ?_) (fun c1 => ?_)
    · have H := Ht1 c1
      refine g_p (S' := [.ref a]) hF tX10_pass_ok 22 1 rfl rfl rfl rfl ?_
      refine g_getR hF (dAt tX10_pass_ok 23 rfl rfl) flX10_12 hS.1 rfl ?_
      refine g_p (S' := [.ref a, .ref (a + 1)]) hF tX10_pass_ok 24 1 rfl rfl rfl rfl ?_
      refine g_getR hF (dAt tX10_pass_ok 25 rfl rfl) flX10_28 hS.1 rfl ?_
      refine g_getI hF (dAt tX10_pass_ok 26 rfl rfl) flX10_162 hS.2.2.2.1.1 rfl ?_
      obtain ⟨v2, e3, H⟩ := ob H
      refine g_cV (S := []) hF (X4_has_ok (Nat.le_refl _) hS.2.1 e3 K) mbX4_has mvX4_has mlX10_165 (by omega) (by decide) (dAt tX10_pass_ok 27 rfl rfl) hS.2.1.1 rfl rfl rfl (Nat.le_of_ble_eq_true rfl) rfl rfl (by decide) (by decide) rfl ?_
      obtain ⟨Ht4, Hf4⟩ := oi H
      refine g_if_eq hF (dAt tX10_pass_ok 28 rfl rfl) rfl (fun c4 => ?_) (fun c4 => ?_)
      · have H := Ht4 c4
        refine g_m [true, false] rfl ?_
        exact X10_pass_b84_ok hD hF hS hE H
      · have H := Hf4 c4
        refine g_p (S' := [.ref a]) hF tX10_pass_ok 29 1 rfl rfl rfl rfl ?_
        refine g_getR hF (dAt tX10_pass_ok 30 rfl rfl) flX10_35 hS.1 rfl ?_
        obtain ⟨v5, e6, H⟩ := ob H
        refine g_cV (S := []) hF (X8_isFeast_ok (Nat.le_refl _) hS.2.2.2.2.1 e6 K) mbX8_isFeast mvX8_isFeast mlX10_134 (by omega) (by decide) (dAt tX10_pass_ok 31 rfl rfl) hS.2.2.2.2.1 rfl rfl rfl (Nat.le_of_ble_eq_true rfl) rfl rfl (by decide) (by decide) rfl ?_
        obtain ⟨Ht7, Hf7⟩ := oi H
        refine g_if_ne hF (dAt tX10_pass_ok 32 rfl rfl) rfl (fun c7 => ?_) (fun c7 => ?_)
        · have H := Hf7 c7
          refine g_m [true, false] rfl ?_
          exact X10_pass_b84_ok hD hF hS hE H
        · have H := Ht7 c7
          refine g_p (S' := [.ref a, .ref a]) hF tX10_pass_ok 33 2 rfl rfl rfl rfl ?_
          refine g_getR hF (dAt tX10_pass_ok 35 rfl rfl) flX10_28 hS.1 rfl ?_
          refine g_getI hF (dAt tX10_pass_ok 36 rfl rfl) flX10_162 hS.2.2.2.1.1 rfl ?_
          obtain ⟨s8, e9, H⟩ := ob H
          refine g_cV (S := []) hF (X10_ring_ok (Nat.le_refl _) hS e9 K) mbX10_ring mvX10_ring mlX10_168 (by omega) (by decide) (dAt tX10_pass_ok 37 rfl rfl) hS.1 rfl rfl rfl (Nat.le_of_ble_eq_true rfl) rfl rfl (by decide) (by decide) rfl ?_
          refine g_m [true, false] rfl ?_
          exact X10_pass_b84_ok hD hF hS hE H
    · have H := Hf1 c1
      refine g_p (S' := [.int x1, .ref a]) hF tX10_pass_ok 14 2 rfl rfl rfl rfl ?_
      obtain ⟨s10, e11, H⟩ := ob H
      refine g_cV (S := []) hF (X10_makeNoise_ok (Nat.le_refl _) hS e11 K) mbX10_makeNoise mvX10_makeNoise mlX10_156 (by omega) (by decide) (dAt tX10_pass_ok 16 rfl rfl) hS.1 rfl rfl rfl (Nat.le_of_ble_eq_true rfl) rfl rfl (by decide) (by decide) rfl ?_
      refine g_p (S' := [.int x1, .ref a]) hF tX10_pass_ok 17 2 rfl rfl rfl rfl ?_
      obtain ⟨s12, e13, H⟩ := ob H
      refine g_cV (S := []) hF (X10_judgeNoise_ok (Nat.le_refl _) hS e13 K) mbX10_judgeNoise mvX10_judgeNoise mlX10_159 (by omega) (by decide) (dAt tX10_pass_ok 19 rfl rfl) hS.1 rfl rfl rfl (Nat.le_of_ble_eq_true rfl) rfl rfl (by decide) (by decide) rfl ?_
      refine g_p (L' := [some (.ref a), some (.int (x1 + 1))]) (S' := []) hF tX10_pass_ok 20 1 rfl rfl rfl rfl ?_
      refine g_goto hF (dAt tX10_pass_ok 21 rfl rfl) rfl ?_
      exact X10_pass_b19_ok hD hF hS hE fu _ _ H
noncomputable def X10_pass_f (τ : Tau) (a : Nat) (M : Nat) (σ : Sig) : Option (Sig) := (X8_isNight_f (a + 26) σ).bind fun v1 => if v1 = 0 then ((X3_tally_f (a + 12) σ).bind fun s4 => X10_pass_b19 τ a M FU 0 s4) else (X10_pass_b19 τ a M FU 0 σ)
set_option maxRecDepth 4000 in
set_option maxHeartbeats 1000000 in
theorem X10_pass_ok {D : Nat} {τ : Tau} {nx : Nat} {a : Nat} {M : Nat} {σ : Sig} {res : Sig} (hD : 6 ≤ D) (hS : ShX10 τ a M) (H : X10_pass_f τ a M σ = some res) : Ok D 0 0 yX10_pass cX10_pass 2 none [.ref a] (τ, σ, nx) none (τ, res, nx) := by
  refine ok_of (by decide +kernel) rfl (Nat.le_of_ble_eq_true rfl) (fun K X hF hE hN L0 hL0 => ?_)
  obtain rfl : [some (.ref a), none] = L0 := hL0
  have hF : Fx K X cX10_pass 2 RX10 D 0 0 := hF
  refine g_p (S' := [.ref a]) hF tX10_pass_ok 0 1 rfl rfl rfl rfl ?_
  refine g_getR hF (dAt tX10_pass_ok 1 rfl rfl) flX10_35 hS.1 rfl ?_
  obtain ⟨v1, e2, H⟩ := ob H
  refine g_cV (S := []) hF (X8_isNight_ok (Nat.le_refl _) hS.2.2.2.2.1 e2 K) mbX8_isNight mvX8_isNight mlX10_130 (by omega) (by decide) (dAt tX10_pass_ok 2 rfl rfl) hS.2.2.2.2.1 rfl rfl rfl (Nat.le_of_ble_eq_true rfl) rfl rfl (by decide) (by decide) rfl ?_
  obtain ⟨Ht3, Hf3⟩ := oi H
  refine g_if_ne hF (dAt tX10_pass_ok 3 rfl rfl) rfl (fun c3 => ?_) (fun c3 => ?_)
  · have H := Hf3 c3
    refine g_p (L' := [some (.ref a), some (.int 0)]) (S' := []) hF tX10_pass_ok 7 2 rfl rfl rfl rfl ?_
    exact X10_pass_b19_ok hD hF hS hE FU _ _ H
  · have H := Ht3 c3
    refine g_p (S' := [.ref a]) hF tX10_pass_ok 4 1 rfl rfl rfl rfl ?_
    refine g_getR hF (dAt tX10_pass_ok 5 rfl rfl) flX10_21 hS.1 rfl ?_
    obtain ⟨s4, e5, H⟩ := ob H
    refine g_cV (S := []) hF (X3_tally_ok (Nat.le_refl _) hS.2.2.1 e5 K) mbX3_tally mvX3_tally mlX10_150 (by omega) (by decide) (dAt tX10_pass_ok 6 rfl rfl) hS.2.2.1.1 rfl rfl rfl (Nat.le_of_ble_eq_true rfl) rfl rfl (by decide) (by decide) rfl ?_
    refine g_p (L' := [some (.ref a), some (.int 0)]) (S' := []) hF tX10_pass_ok 7 2 rfl rfl rfl rfl ?_
    exact X10_pass_b19_ok hD hF hS hE FU _ _ H
noncomputable def X10_tillQuiet_b53 (τ : Tau) (a : Nat) (M : Nat) : Nat → Int32 → Int32 → Sig → Option (Int32 × Sig)
  | 0, _, _, _ => none
  | fu + 1, x1, x2, σ => if 5760 ≤ x2 then (if (σ (a + 33) 3) = x1 then (some (5760, σ)) else (some ((-1), σ))) else (if (σ (a + 33) 3) = x1 then (some (x2, σ)) else ((X10_pass_f τ a M σ).bind fun s4 => X10_tillQuiet_b53 τ a M fu x1 (x2 + 1) s4))
set_option maxRecDepth 4000 in
set_option maxHeartbeats 1000000 in
theorem X10_tillQuiet_b53_ok {K : Kt} {X : Cx} {D : Nat} {τ : Tau} {nx : Nat} {a : Nat} {M : Nat} {res : Int32} {rsg : Sig}  (hD : 7 ≤ D) (hF : Fx K X cX10_tillQuiet 3 RX10 D 0 0) (hS : ShX10 τ a M) (hE : En K X (some .int) 0 0 (some (.int res)) (τ, rsg, nx)) : ∀ (fu : Nat) (x1 x2 : Int32) (σ : Sig), X10_tillQuiet_b53 τ a M fu x1 x2 σ = some (res, rsg) → G K X 3 0 0 53 [some (.ref a), some (.int x1), some (.int x2)] [] (τ, σ, nx)
  | 0, _, _, _, H => nomatch H
  | fu + 1, x1, x2, σ, H => by
    refine g_p (S' := [.int 5760, .int x2]) hF tX10_tillQuiet_ok 27 2 rfl rfl rfl rfl ?_
    obtain ⟨Ht1, Hf1⟩ := oi H
    refine g_icmp_ge hF (dAt tX10_tillQuiet_ok 29 rfl rfl) rfl (fun c1 => ?_) (fun c1 => ?_)
    · have H := Ht1 c1
      refine g_p (S' := [.ref a]) hF tX10_tillQuiet_ok 41 1 rfl rfl rfl rfl ?_
      refine g_getR hF (dAt tX10_tillQuiet_ok 42 rfl rfl) flX10_67 hS.1 rfl ?_
      refine g_getI hF (dAt tX10_tillQuiet_ok 43 rfl rfl) flX10_275 hS.2.2.2.2.2.1.1 rfl ?_
      refine g_p (S' := [.int x1, .int (σ (a + 33) 3)]) hF tX10_tillQuiet_ok 44 1 rfl rfl rfl rfl ?_
      obtain ⟨Ht2, Hf2⟩ := oi H
      refine g_icmp_ne hF (dAt tX10_tillQuiet_ok 45 rfl rfl) rfl (fun c2 => ?_) (fun c2 => ?_)
      · have H := Hf2 c2
        refine g_p (S' := [.int (-1)]) hF tX10_tillQuiet_ok 48 1 rfl rfl rfl rfl ?_
        exact g_iret hF (en_p H hE) (dAt tX10_tillQuiet_ok 49 rfl rfl) (by decide) (by decide)
      · have H := Ht2 c2
        refine g_p (S' := [.int 5760]) hF tX10_tillQuiet_ok 46 1 rfl rfl rfl rfl ?_
        refine g_goto hF (dAt tX10_tillQuiet_ok 47 rfl rfl) rfl ?_
        exact g_iret hF (en_p H hE) (dAt tX10_tillQuiet_ok 49 rfl rfl) (by decide) (by decide)
    · have H := Hf1 c1
      refine g_p (S' := [.ref a]) hF tX10_tillQuiet_ok 30 1 rfl rfl rfl rfl ?_
      refine g_getR hF (dAt tX10_tillQuiet_ok 31 rfl rfl) flX10_67 hS.1 rfl ?_
      refine g_getI hF (dAt tX10_tillQuiet_ok 32 rfl rfl) flX10_275 hS.2.2.2.2.2.1.1 rfl ?_
      refine g_p (S' := [.int x1, .int (σ (a + 33) 3)]) hF tX10_tillQuiet_ok 33 1 rfl rfl rfl rfl ?_
      obtain ⟨Ht3, Hf3⟩ := oi H
      refine g_icmp_ne hF (dAt tX10_tillQuiet_ok 34 rfl rfl) rfl (fun c3 => ?_) (fun c3 => ?_)
      · have H := Hf3 c3
        refine g_p (S' := [.ref a]) hF tX10_tillQuiet_ok 37 1 rfl rfl rfl rfl ?_
        obtain ⟨s4, e5, H⟩ := ob H
        refine g_cV (S := []) hF (X10_pass_ok (Nat.le_refl _) hS e5 K) mbX10_pass mvX10_pass mlX10_280 (by omega) (by decide) (dAt tX10_tillQuiet_ok 38 rfl rfl) hS.1 rfl rfl rfl (Nat.le_of_ble_eq_true rfl) rfl rfl (by decide) (by decide) rfl ?_
        refine g_p (L' := [some (.ref a), some (.int x1), some (.int (x2 + 1))]) (S' := []) hF tX10_tillQuiet_ok 39 1 rfl rfl rfl rfl ?_
        refine g_goto hF (dAt tX10_tillQuiet_ok 40 rfl rfl) rfl ?_
        exact X10_tillQuiet_b53_ok hD hF hS hE fu _ _ _ H
      · have H := Ht3 c3
        refine g_p (S' := [.int x2]) hF tX10_tillQuiet_ok 35 1 rfl rfl rfl rfl ?_
        exact g_iret hF (en_p H hE) (dAt tX10_tillQuiet_ok 36 rfl rfl) (by decide) (by decide)
noncomputable def X10_tillQuiet_f (τ : Tau) (a : Nat) (M : Nat) (σ : Sig) : Option (Int32 × Sig) := (X3_allHours_f (a + 12) σ).bind fun v1 => if ((σ (a + 33) 3) + v1) ≤ (σ (a + 33) 3) then (X10_tillQuiet_b53 τ a M FU ((σ (a + 33) 3) + v1) 0 σ) else (if (σ (a + 23) 2) = (-1) then (some ((-1), σ)) else (if (σ (a + 26) 3) = 1 then (some ((-1), σ)) else (X10_tillQuiet_b53 τ a M FU ((σ (a + 33) 3) + v1) 0 σ)))
set_option maxRecDepth 4000 in
set_option maxHeartbeats 1000000 in
theorem X10_tillQuiet_ok {D : Nat} {τ : Tau} {nx : Nat} {a : Nat} {M : Nat} {σ : Sig} {res : Int32} {rsg : Sig} (hD : 7 ≤ D) (hS : ShX10 τ a M) (H : X10_tillQuiet_f τ a M σ = some (res, rsg)) : Ok D 0 0 yX10_tillQuiet cX10_tillQuiet 3 (some .int) [.ref a] (τ, σ, nx) (some (.int res)) (τ, rsg, nx) := by
  refine ok_of (by decide +kernel) rfl (Nat.le_of_ble_eq_true rfl) (fun K X hF hE hN L0 hL0 => ?_)
  obtain rfl : [some (.ref a), none, none] = L0 := hL0
  have hF : Fx K X cX10_tillQuiet 3 RX10 D 0 0 := hF
  refine g_p (S' := [.ref a]) hF tX10_tillQuiet_ok 0 1 rfl rfl rfl rfl ?_
  refine g_getR hF (dAt tX10_tillQuiet_ok 1 rfl rfl) flX10_67 hS.1 rfl ?_
  refine g_getI hF (dAt tX10_tillQuiet_ok 2 rfl rfl) flX10_275 hS.2.2.2.2.2.1.1 rfl ?_
  refine g_p (S' := [.ref a, .int (σ (a + 33) 3)]) hF tX10_tillQuiet_ok 3 1 rfl rfl rfl rfl ?_
  refine g_getR hF (dAt tX10_tillQuiet_ok 4 rfl rfl) flX10_21 hS.1 rfl ?_
  obtain ⟨v1, e2, H⟩ := ob H
  refine g_cV (S := [.int (σ (a + 33) 3)]) hF (X3_allHours_ok (Nat.le_refl _) hS.2.2.1 e2 K) mbX3_allHours mvX3_allHours mlX10_277 (by omega) (by decide) (dAt tX10_tillQuiet_ok 5 rfl rfl) hS.2.2.1.1 rfl rfl rfl (Nat.le_of_ble_eq_true rfl) rfl rfl (by decide) (by decide) rfl ?_
  refine g_p (L' := [some (.ref a), some (.int ((σ (a + 33) 3) + v1)), none]) (S' := [.ref a, .int ((σ (a + 33) 3) + v1)]) hF tX10_tillQuiet_ok 6 4 rfl rfl rfl rfl ?_
  refine g_getR hF (dAt tX10_tillQuiet_ok 10 rfl rfl) flX10_67 hS.1 rfl ?_
  refine g_getI hF (dAt tX10_tillQuiet_ok 11 rfl rfl) flX10_275 hS.2.2.2.2.2.1.1 rfl ?_
  obtain ⟨Ht3, Hf3⟩ := oi H
  refine g_icmp_le hF (dAt tX10_tillQuiet_ok 12 rfl rfl) rfl (fun c3 => ?_) (fun c3 => ?_)
  · have H := Ht3 c3
    refine g_p (L' := [some (.ref a), some (.int ((σ (a + 33) 3) + v1)), some (.int 0)]) (S' := []) hF tX10_tillQuiet_ok 25 2 rfl rfl rfl rfl ?_
    exact X10_tillQuiet_b53_ok hD hF hS hE FU _ _ _ H
  · have H := Hf3 c3
    refine g_p (S' := [.ref a]) hF tX10_tillQuiet_ok 13 1 rfl rfl rfl rfl ?_
    refine g_getR hF (dAt tX10_tillQuiet_ok 14 rfl rfl) flX10_28 hS.1 rfl ?_
    refine g_getI hF (dAt tX10_tillQuiet_ok 15 rfl rfl) flX10_162 hS.2.2.2.1.1 rfl ?_
    refine g_p (S' := [.int (-1), .int (σ (a + 23) 2)]) hF tX10_tillQuiet_ok 16 1 rfl rfl rfl rfl ?_
    obtain ⟨Ht4, Hf4⟩ := oi H
    refine g_icmp_eq hF (dAt tX10_tillQuiet_ok 17 rfl rfl) rfl (fun c4 => ?_) (fun c4 => ?_)
    · have H := Ht4 c4
      refine g_p (S' := [.int (-1)]) hF tX10_tillQuiet_ok 23 1 rfl rfl rfl rfl ?_
      exact g_iret hF (en_p H hE) (dAt tX10_tillQuiet_ok 24 rfl rfl) (by decide) (by decide)
    · have H := Hf4 c4
      refine g_p (S' := [.ref a]) hF tX10_tillQuiet_ok 18 1 rfl rfl rfl rfl ?_
      refine g_getR hF (dAt tX10_tillQuiet_ok 19 rfl rfl) flX10_35 hS.1 rfl ?_
      refine g_getI hF (dAt tX10_tillQuiet_ok 20 rfl rfl) flX10_100 hS.2.2.2.2.1 rfl ?_
      refine g_p (S' := [.int 1, .int (σ (a + 26) 3)]) hF tX10_tillQuiet_ok 21 1 rfl rfl rfl rfl ?_
      obtain ⟨Ht5, Hf5⟩ := oi H
      refine g_icmp_ne hF (dAt tX10_tillQuiet_ok 22 rfl rfl) rfl (fun c5 => ?_) (fun c5 => ?_)
      · have H := Hf5 c5
        refine g_p (L' := [some (.ref a), some (.int ((σ (a + 33) 3) + v1)), some (.int 0)]) (S' := []) hF tX10_tillQuiet_ok 25 2 rfl rfl rfl rfl ?_
        exact X10_tillQuiet_b53_ok hD hF hS hE FU _ _ _ H
      · have H := Ht5 c5
        refine g_p (S' := [.int (-1)]) hF tX10_tillQuiet_ok 23 1 rfl rfl rfl rfl ?_
        exact g_iret hF (en_p H hE) (dAt tX10_tillQuiet_ok 24 rfl rfl) (by decide) (by decide)

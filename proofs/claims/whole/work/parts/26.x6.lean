/-! SilenceForMoney$Tape -/
def X6_put_b3 (a : Nat) : Nat → Int32 → Int32 → Sig → Option (Sig)
  | 0, _, _, _ => none
  | fu + 1, x1, x2, σ => if x2 < 0 then (some σ) else (if 400 ≤ (σ a 1) then (X6_put_b3 a fu x1 (x2 + (-8)) σ) else ((st 400 σ (a + 1) (σ a 1) (((x1 : Int32).toUInt32 >>> ((x2 : Int32).toUInt32 &&& Int32.toUInt32 31)).toInt32 &&& 255)).bind fun s3 => (pI s3 a 1 ((s3 a 1) + 1)).bind fun s5 => X6_put_b3 a fu x1 (x2 + (-8)) s5))
set_option maxRecDepth 4000 in
set_option maxHeartbeats 1000000 in
theorem X6_put_b3_ok {K : Kt} {X : Cx} {D : Nat} {τ : Tau} {nx : Nat} {a : Nat} {res : Sig}  (hD : 1 ≤ D) (hF : Fx K X cX6_put 3 RX6 D 0 0) (hS : ShX6 τ a) (hE : En K X none 0 0 none (τ, res, nx)) : ∀ (fu : Nat) (x1 x2 : Int32) (σ : Sig), X6_put_b3 a fu x1 x2 σ = some res → G K X 3 0 0 3 [some (.ref a), some (.int x1), some (.int x2)] [] (τ, σ, nx)
  | 0, _, _, _, H => nomatch H
  | fu + 1, x1, x2, σ, H => by
    refine g_p (S' := [.int x2]) hF tX6_put_ok 2 1 rfl rfl rfl rfl ?_
    obtain ⟨Ht1, Hf1⟩ := oi H
    refine g_if_lt hF (dAt tX6_put_ok 3 rfl rfl) rfl (fun c1 => ?_) (fun c1 => ?_)
    · have H := Ht1 c1
      exact g_vret hF (en_v H hE) (dAt tX6_put_ok 26 rfl rfl) (by decide) (by decide)
    · have H := Hf1 c1
      refine g_p (S' := [.ref a]) hF tX6_put_ok 4 1 rfl rfl rfl rfl ?_
      refine g_getI hF (dAt tX6_put_ok 5 rfl rfl) flX6_15 hS.1 rfl ?_
      refine g_p (S' := [.int 400, .int (σ a 1)]) hF tX6_put_ok 6 1 rfl rfl rfl rfl ?_
      obtain ⟨Ht2, Hf2⟩ := oi H
      refine g_icmp_ge hF (dAt tX6_put_ok 7 rfl rfl) rfl (fun c2 => ?_) (fun c2 => ?_)
      · have H := Ht2 c2
        refine g_p (L' := [some (.ref a), some (.int x1), some (.int (x2 + (-8)))]) (S' := []) hF tX6_put_ok 24 1 rfl rfl rfl rfl ?_
        refine g_goto hF (dAt tX6_put_ok 25 rfl rfl) rfl ?_
        exact X6_put_b3_ok hD hF hS hE fu _ _ _ H
      · have H := Hf2 c2
        refine g_p (S' := [.ref a]) hF tX6_put_ok 8 1 rfl rfl rfl rfl ?_
        refine g_getR hF (dAt tX6_put_ok 9 rfl rfl) flX6_9 hS.1 rfl ?_
        refine g_p (S' := [.ref a, .ref (a + 1)]) hF tX6_put_ok 10 1 rfl rfl rfl rfl ?_
        refine g_getI hF (dAt tX6_put_ok 11 rfl rfl) flX6_15 hS.1 rfl ?_
        refine g_p (S' := [.int (((x1 : Int32).toUInt32 >>> ((x2 : Int32).toUInt32 &&& Int32.toUInt32 31)).toInt32 &&& 255), .int (σ a 1), .ref (a + 1)]) hF tX6_put_ok 12 5 rfl rfl rfl rfl ?_
        obtain ⟨s3, e4, H⟩ := ob H
        refine g_ist hF (dAt tX6_put_ok 17 rfl rfl) hS.2 e4 ?_
        refine g_p (S' := [.ref a, .ref a]) hF tX6_put_ok 18 2 rfl rfl rfl rfl ?_
        refine g_getI hF (dAt tX6_put_ok 20 rfl rfl) flX6_15 hS.1 rfl ?_
        refine g_p (S' := [.int ((s3 a 1) + 1), .ref a]) hF tX6_put_ok 21 2 rfl rfl rfl rfl ?_
        obtain ⟨s5, e6, H⟩ := ob H
        refine g_pI hF (dAt tX6_put_ok 23 rfl rfl) flX6_15 (Or.inl rfl) hS.1 rfl e6 ?_
        refine g_p (L' := [some (.ref a), some (.int x1), some (.int (x2 + (-8)))]) (S' := []) hF tX6_put_ok 24 1 rfl rfl rfl rfl ?_
        refine g_goto hF (dAt tX6_put_ok 25 rfl rfl) rfl ?_
        exact X6_put_b3_ok hD hF hS hE fu _ _ _ H
def X6_put_f (a : Nat) (x1 : Int32) (σ : Sig) : Option (Sig) := X6_put_b3 a FU x1 24 σ
set_option maxRecDepth 4000 in
set_option maxHeartbeats 1000000 in
theorem X6_put_ok {D : Nat} {τ : Tau} {nx : Nat} {a : Nat} {x1 : Int32} {σ : Sig} {res : Sig} (hD : 1 ≤ D) (hS : ShX6 τ a) (H : X6_put_f a x1 σ = some res) : Ok D 0 0 yX6_put cX6_put 3 none [.ref a, .int x1] (τ, σ, nx) none (τ, res, nx) := by
  refine ok_of (by decide +kernel) rfl (Nat.le_of_ble_eq_true rfl) (fun K X hF hE hN L0 hL0 => ?_)
  obtain rfl : [some (.ref a), some (.int x1), none] = L0 := hL0
  have hF : Fx K X cX6_put 3 RX6 D 0 0 := hF
  refine g_p (L' := [some (.ref a), some (.int x1), some (.int 24)]) (S' := []) hF tX6_put_ok 0 2 rfl rfl rfl rfl ?_
  exact X6_put_b3_ok hD hF hS hE FU _ _ _ H

/-! X12_cg: methods that call one another. -/
def X12_any_b9 (q_X12_any : Nat → Sig → Option (Int32 × Sig)) (q_X12_every : Nat → Sig → Option (Int32 × Sig)) (q_X12_one0 : Nat → Sig → Option (Int32 × Sig)) (a : Nat) : Nat → Sig → Option (Int32 × Sig)
  | 0, _ => none
  | fu + 1, σ => if (σ a 14) = 4 then ((X12_next0_f a σ).bind fun s2 => (q_X12_every a s2).bind fun ⟨v4, s5⟩ => if v4 = 0 then (some (0, s5)) else ((X12_lay_f a 21 0 s5).bind fun s8 => X12_any_b9 q_X12_any q_X12_every q_X12_one0 a fu s8)) else (some (1, σ))
set_option maxRecDepth 4000 in
set_option maxHeartbeats 1000000 in
theorem X12_any_b9_ok {K : Kt} {X : Cx} {D : Nat} {τ : Tau} {nx : Nat} {a : Nat} {res : Int32} {rsg : Sig}  {q_X12_any : Nat → Sig → Option (Int32 × Sig)} {q_X12_every : Nat → Sig → Option (Int32 × Sig)} {q_X12_one0 : Nat → Sig → Option (Int32 × Sig)} {D2 : Nat} (hD : 9 ≤ D) (hDD : D2 + 1 ≤ D) (hq_X12_any : ∀ {τ : Tau} {nx : Nat} (a : Nat) (σ : Sig) (res : Int32) (rsg : Sig), ShX12 τ a → q_X12_any a σ = some (res, rsg) → Ok D2 0 0 yX12_any cX12_any 1 (some .boolean) [.ref a] (τ, σ, nx) (some (.int res)) (τ, rsg, nx)) (hq_X12_every : ∀ {τ : Tau} {nx : Nat} (a : Nat) (σ : Sig) (res : Int32) (rsg : Sig), ShX12 τ a → q_X12_every a σ = some (res, rsg) → Ok D2 0 0 yX12_every cX12_every 1 (some .boolean) [.ref a] (τ, σ, nx) (some (.int res)) (τ, rsg, nx)) (hq_X12_one0 : ∀ {τ : Tau} {nx : Nat} (a : Nat) (σ : Sig) (res : Int32) (rsg : Sig), ShX12 τ a → q_X12_one0 a σ = some (res, rsg) → Ok D2 0 0 yX12_one0 cX12_one0 2 (some .boolean) [.ref a] (τ, σ, nx) (some (.int res)) (τ, rsg, nx)) (hF : Fx K X cX12_any 1 RX12 D 0 0) (hS : ShX12 τ a) (hE : En K X (some .boolean) 0 0 (some (.int res)) (τ, rsg, nx)) : ∀ (fu : Nat) (σ : Sig), X12_any_b9 q_X12_any q_X12_every q_X12_one0 a fu σ = some (res, rsg) → G K X 1 0 0 9 [some (.ref a)] [] (τ, σ, nx)
  | 0, _, H => nomatch H
  | fu + 1, σ, H => by
    refine g_p (S' := [.ref a]) hF tX12_any_ok 5 1 rfl rfl rfl rfl ?_
    refine g_getI hF (dAt tX12_any_ok 6 rfl rfl) flX12_156 hS.1 rfl ?_
    refine g_p (S' := [.int 4, .int (σ a 14)]) hF tX12_any_ok 7 1 rfl rfl rfl rfl ?_
    obtain ⟨Ht1, Hf1⟩ := oi H
    refine g_icmp_ne hF (dAt tX12_any_ok 8 rfl rfl) rfl (fun c1 => ?_) (fun c1 => ?_)
    · have H := Hf1 c1
      refine g_p (S' := [.int 1]) hF tX12_any_ok 21 1 rfl rfl rfl rfl ?_
      exact g_zret hF (en_p H hE) (Or.inr rfl) (dAt tX12_any_ok 22 rfl rfl) (by decide) (by decide)
    · have H := Ht1 c1
      refine g_p (S' := [.ref a]) hF tX12_any_ok 9 1 rfl rfl rfl rfl ?_
      obtain ⟨s2, e3, H⟩ := ob H
      refine g_cV (S := []) hF (X12_next0_ok (Nat.le_refl _) hS e3 K) mbX12_next0 mvX12_next0 mlX12_180 (by omega) (by decide) (dAt tX12_any_ok 10 rfl rfl) hS.1 rfl rfl rfl (Nat.le_of_ble_eq_true rfl) rfl rfl (by decide) (by decide) rfl ?_
      refine g_p (S' := [.ref a]) hF tX12_any_ok 11 1 rfl rfl rfl rfl ?_
      obtain ⟨⟨v4, s5⟩, e6, H⟩ := ob H
      refine g_cV (S := []) hF (hq_X12_every _ _ _ _ hS e6 K) mbX12_every mvX12_every mlX12_204 (by omega) (by decide) (dAt tX12_any_ok 12 rfl rfl) hS.1 rfl rfl rfl (Nat.le_of_ble_eq_true rfl) rfl rfl (by decide) (by decide) rfl ?_
      obtain ⟨Ht7, Hf7⟩ := oi H
      refine g_if_ne hF (dAt tX12_any_ok 13 rfl rfl) rfl (fun c7 => ?_) (fun c7 => ?_)
      · have H := Hf7 c7
        refine g_p (S' := [.int 0, .int 21, .ref a]) hF tX12_any_ok 16 3 rfl rfl rfl rfl ?_
        obtain ⟨s8, e9, H⟩ := ob H
        refine g_cV (S := []) hF (X12_lay_ok (Nat.le_refl _) hS e9 K) mbX12_lay mvX12_lay mlX12_193 (by omega) (by decide) (dAt tX12_any_ok 19 rfl rfl) hS.1 rfl rfl rfl (Nat.le_of_ble_eq_true rfl) rfl rfl (by decide) (by decide) rfl ?_
        refine g_goto hF (dAt tX12_any_ok 20 rfl rfl) rfl ?_
        exact X12_any_b9_ok hD hDD hq_X12_any hq_X12_every hq_X12_one0 hF hS hE fu _ H
      · have H := Ht7 c7
        refine g_p (S' := [.int 0]) hF tX12_any_ok 14 1 rfl rfl rfl rfl ?_
        exact g_zret hF (en_p H hE) (Or.inl rfl) (dAt tX12_any_ok 15 rfl rfl) (by decide) (by decide)
def X12_any_F (q_X12_any : Nat → Sig → Option (Int32 × Sig)) (q_X12_every : Nat → Sig → Option (Int32 × Sig)) (q_X12_one0 : Nat → Sig → Option (Int32 × Sig)) (a : Nat) (σ : Sig) : Option (Int32 × Sig) := (q_X12_every a σ).bind fun ⟨v1, s2⟩ => if v1 = 0 then (some (0, s2)) else (X12_any_b9 q_X12_any q_X12_every q_X12_one0 a FU s2)
set_option maxRecDepth 4000 in
set_option maxHeartbeats 1000000 in
theorem X12_anyF_ok {D : Nat} {τ : Tau} {nx : Nat} {a : Nat} {σ : Sig} {res : Int32} {rsg : Sig} {q_X12_any : Nat → Sig → Option (Int32 × Sig)} {q_X12_every : Nat → Sig → Option (Int32 × Sig)} {q_X12_one0 : Nat → Sig → Option (Int32 × Sig)} {D2 : Nat} (hD : 9 ≤ D) (hDD : D2 + 1 ≤ D) (hq_X12_any : ∀ {τ : Tau} {nx : Nat} (a : Nat) (σ : Sig) (res : Int32) (rsg : Sig), ShX12 τ a → q_X12_any a σ = some (res, rsg) → Ok D2 0 0 yX12_any cX12_any 1 (some .boolean) [.ref a] (τ, σ, nx) (some (.int res)) (τ, rsg, nx)) (hq_X12_every : ∀ {τ : Tau} {nx : Nat} (a : Nat) (σ : Sig) (res : Int32) (rsg : Sig), ShX12 τ a → q_X12_every a σ = some (res, rsg) → Ok D2 0 0 yX12_every cX12_every 1 (some .boolean) [.ref a] (τ, σ, nx) (some (.int res)) (τ, rsg, nx)) (hq_X12_one0 : ∀ {τ : Tau} {nx : Nat} (a : Nat) (σ : Sig) (res : Int32) (rsg : Sig), ShX12 τ a → q_X12_one0 a σ = some (res, rsg) → Ok D2 0 0 yX12_one0 cX12_one0 2 (some .boolean) [.ref a] (τ, σ, nx) (some (.int res)) (τ, rsg, nx)) (hS : ShX12 τ a) (H : X12_any_F q_X12_any q_X12_every q_X12_one0 a σ = some (res, rsg)) : Ok D 0 0 yX12_any cX12_any 1 (some .boolean) [.ref a] (τ, σ, nx) (some (.int res)) (τ, rsg, nx) := by
  refine ok_of (by decide +kernel) rfl (Nat.le_of_ble_eq_true rfl) (fun K X hF hE hN L0 hL0 => ?_)
  obtain rfl : [some (.ref a)] = L0 := hL0
  have hF : Fx K X cX12_any 1 RX12 D 0 0 := hF
  refine g_p (S' := [.ref a]) hF tX12_any_ok 0 1 rfl rfl rfl rfl ?_
  obtain ⟨⟨v1, s2⟩, e3, H⟩ := ob H
  refine g_cV (S := []) hF (hq_X12_every _ _ _ _ hS e3 K) mbX12_every mvX12_every mlX12_204 (by omega) (by decide) (dAt tX12_any_ok 1 rfl rfl) hS.1 rfl rfl rfl (Nat.le_of_ble_eq_true rfl) rfl rfl (by decide) (by decide) rfl ?_
  obtain ⟨Ht4, Hf4⟩ := oi H
  refine g_if_ne hF (dAt tX12_any_ok 2 rfl rfl) rfl (fun c4 => ?_) (fun c4 => ?_)
  · have H := Hf4 c4
    exact X12_any_b9_ok hD hDD hq_X12_any hq_X12_every hq_X12_one0 hF hS hE FU _ H
  · have H := Ht4 c4
    refine g_p (S' := [.int 0]) hF tX12_any_ok 3 1 rfl rfl rfl rfl ?_
    exact g_zret hF (en_p H hE) (Or.inl rfl) (dAt tX12_any_ok 4 rfl rfl) (by decide) (by decide)
def X12_every_b9 (q_X12_any : Nat → Sig → Option (Int32 × Sig)) (q_X12_every : Nat → Sig → Option (Int32 × Sig)) (q_X12_one0 : Nat → Sig → Option (Int32 × Sig)) (a : Nat) : Nat → Sig → Option (Int32 × Sig)
  | 0, _ => none
  | fu + 1, σ => if (σ a 14) = 5 then ((X12_next0_f a σ).bind fun s2 => (q_X12_one0 a s2).bind fun ⟨v4, s5⟩ => if v4 = 0 then (some (0, s5)) else ((X12_lay_f a 20 0 s5).bind fun s8 => X12_every_b9 q_X12_any q_X12_every q_X12_one0 a fu s8)) else (some (1, σ))
set_option maxRecDepth 4000 in
set_option maxHeartbeats 1000000 in
theorem X12_every_b9_ok {K : Kt} {X : Cx} {D : Nat} {τ : Tau} {nx : Nat} {a : Nat} {res : Int32} {rsg : Sig}  {q_X12_any : Nat → Sig → Option (Int32 × Sig)} {q_X12_every : Nat → Sig → Option (Int32 × Sig)} {q_X12_one0 : Nat → Sig → Option (Int32 × Sig)} {D2 : Nat} (hD : 9 ≤ D) (hDD : D2 + 1 ≤ D) (hq_X12_any : ∀ {τ : Tau} {nx : Nat} (a : Nat) (σ : Sig) (res : Int32) (rsg : Sig), ShX12 τ a → q_X12_any a σ = some (res, rsg) → Ok D2 0 0 yX12_any cX12_any 1 (some .boolean) [.ref a] (τ, σ, nx) (some (.int res)) (τ, rsg, nx)) (hq_X12_every : ∀ {τ : Tau} {nx : Nat} (a : Nat) (σ : Sig) (res : Int32) (rsg : Sig), ShX12 τ a → q_X12_every a σ = some (res, rsg) → Ok D2 0 0 yX12_every cX12_every 1 (some .boolean) [.ref a] (τ, σ, nx) (some (.int res)) (τ, rsg, nx)) (hq_X12_one0 : ∀ {τ : Tau} {nx : Nat} (a : Nat) (σ : Sig) (res : Int32) (rsg : Sig), ShX12 τ a → q_X12_one0 a σ = some (res, rsg) → Ok D2 0 0 yX12_one0 cX12_one0 2 (some .boolean) [.ref a] (τ, σ, nx) (some (.int res)) (τ, rsg, nx)) (hF : Fx K X cX12_every 1 RX12 D 0 0) (hS : ShX12 τ a) (hE : En K X (some .boolean) 0 0 (some (.int res)) (τ, rsg, nx)) : ∀ (fu : Nat) (σ : Sig), X12_every_b9 q_X12_any q_X12_every q_X12_one0 a fu σ = some (res, rsg) → G K X 1 0 0 9 [some (.ref a)] [] (τ, σ, nx)
  | 0, _, H => nomatch H
  | fu + 1, σ, H => by
    refine g_p (S' := [.ref a]) hF tX12_every_ok 5 1 rfl rfl rfl rfl ?_
    refine g_getI hF (dAt tX12_every_ok 6 rfl rfl) flX12_156 hS.1 rfl ?_
    refine g_p (S' := [.int 5, .int (σ a 14)]) hF tX12_every_ok 7 1 rfl rfl rfl rfl ?_
    obtain ⟨Ht1, Hf1⟩ := oi H
    refine g_icmp_ne hF (dAt tX12_every_ok 8 rfl rfl) rfl (fun c1 => ?_) (fun c1 => ?_)
    · have H := Hf1 c1
      refine g_p (S' := [.int 1]) hF tX12_every_ok 21 1 rfl rfl rfl rfl ?_
      exact g_zret hF (en_p H hE) (Or.inr rfl) (dAt tX12_every_ok 22 rfl rfl) (by decide) (by decide)
    · have H := Ht1 c1
      refine g_p (S' := [.ref a]) hF tX12_every_ok 9 1 rfl rfl rfl rfl ?_
      obtain ⟨s2, e3, H⟩ := ob H
      refine g_cV (S := []) hF (X12_next0_ok (Nat.le_refl _) hS e3 K) mbX12_next0 mvX12_next0 mlX12_180 (by omega) (by decide) (dAt tX12_every_ok 10 rfl rfl) hS.1 rfl rfl rfl (Nat.le_of_ble_eq_true rfl) rfl rfl (by decide) (by decide) rfl ?_
      refine g_p (S' := [.ref a]) hF tX12_every_ok 11 1 rfl rfl rfl rfl ?_
      obtain ⟨⟨v4, s5⟩, e6, H⟩ := ob H
      refine g_cV (S := []) hF (hq_X12_one0 _ _ _ _ hS e6 K) mbX12_one0 mvX12_one0 mlX12_207 (by omega) (by decide) (dAt tX12_every_ok 12 rfl rfl) hS.1 rfl rfl rfl (Nat.le_of_ble_eq_true rfl) rfl rfl (by decide) (by decide) rfl ?_
      obtain ⟨Ht7, Hf7⟩ := oi H
      refine g_if_ne hF (dAt tX12_every_ok 13 rfl rfl) rfl (fun c7 => ?_) (fun c7 => ?_)
      · have H := Hf7 c7
        refine g_p (S' := [.int 0, .int 20, .ref a]) hF tX12_every_ok 16 3 rfl rfl rfl rfl ?_
        obtain ⟨s8, e9, H⟩ := ob H
        refine g_cV (S := []) hF (X12_lay_ok (Nat.le_refl _) hS e9 K) mbX12_lay mvX12_lay mlX12_193 (by omega) (by decide) (dAt tX12_every_ok 19 rfl rfl) hS.1 rfl rfl rfl (Nat.le_of_ble_eq_true rfl) rfl rfl (by decide) (by decide) rfl ?_
        refine g_goto hF (dAt tX12_every_ok 20 rfl rfl) rfl ?_
        exact X12_every_b9_ok hD hDD hq_X12_any hq_X12_every hq_X12_one0 hF hS hE fu _ H
      · have H := Ht7 c7
        refine g_p (S' := [.int 0]) hF tX12_every_ok 14 1 rfl rfl rfl rfl ?_
        exact g_zret hF (en_p H hE) (Or.inl rfl) (dAt tX12_every_ok 15 rfl rfl) (by decide) (by decide)
def X12_every_F (q_X12_any : Nat → Sig → Option (Int32 × Sig)) (q_X12_every : Nat → Sig → Option (Int32 × Sig)) (q_X12_one0 : Nat → Sig → Option (Int32 × Sig)) (a : Nat) (σ : Sig) : Option (Int32 × Sig) := (q_X12_one0 a σ).bind fun ⟨v1, s2⟩ => if v1 = 0 then (some (0, s2)) else (X12_every_b9 q_X12_any q_X12_every q_X12_one0 a FU s2)
set_option maxRecDepth 4000 in
set_option maxHeartbeats 1000000 in
theorem X12_everyF_ok {D : Nat} {τ : Tau} {nx : Nat} {a : Nat} {σ : Sig} {res : Int32} {rsg : Sig} {q_X12_any : Nat → Sig → Option (Int32 × Sig)} {q_X12_every : Nat → Sig → Option (Int32 × Sig)} {q_X12_one0 : Nat → Sig → Option (Int32 × Sig)} {D2 : Nat} (hD : 9 ≤ D) (hDD : D2 + 1 ≤ D) (hq_X12_any : ∀ {τ : Tau} {nx : Nat} (a : Nat) (σ : Sig) (res : Int32) (rsg : Sig), ShX12 τ a → q_X12_any a σ = some (res, rsg) → Ok D2 0 0 yX12_any cX12_any 1 (some .boolean) [.ref a] (τ, σ, nx) (some (.int res)) (τ, rsg, nx)) (hq_X12_every : ∀ {τ : Tau} {nx : Nat} (a : Nat) (σ : Sig) (res : Int32) (rsg : Sig), ShX12 τ a → q_X12_every a σ = some (res, rsg) → Ok D2 0 0 yX12_every cX12_every 1 (some .boolean) [.ref a] (τ, σ, nx) (some (.int res)) (τ, rsg, nx)) (hq_X12_one0 : ∀ {τ : Tau} {nx : Nat} (a : Nat) (σ : Sig) (res : Int32) (rsg : Sig), ShX12 τ a → q_X12_one0 a σ = some (res, rsg) → Ok D2 0 0 yX12_one0 cX12_one0 2 (some .boolean) [.ref a] (τ, σ, nx) (some (.int res)) (τ, rsg, nx)) (hS : ShX12 τ a) (H : X12_every_F q_X12_any q_X12_every q_X12_one0 a σ = some (res, rsg)) : Ok D 0 0 yX12_every cX12_every 1 (some .boolean) [.ref a] (τ, σ, nx) (some (.int res)) (τ, rsg, nx) := by
  refine ok_of (by decide +kernel) rfl (Nat.le_of_ble_eq_true rfl) (fun K X hF hE hN L0 hL0 => ?_)
  obtain rfl : [some (.ref a)] = L0 := hL0
  have hF : Fx K X cX12_every 1 RX12 D 0 0 := hF
  refine g_p (S' := [.ref a]) hF tX12_every_ok 0 1 rfl rfl rfl rfl ?_
  obtain ⟨⟨v1, s2⟩, e3, H⟩ := ob H
  refine g_cV (S := []) hF (hq_X12_one0 _ _ _ _ hS e3 K) mbX12_one0 mvX12_one0 mlX12_207 (by omega) (by decide) (dAt tX12_every_ok 1 rfl rfl) hS.1 rfl rfl rfl (Nat.le_of_ble_eq_true rfl) rfl rfl (by decide) (by decide) rfl ?_
  obtain ⟨Ht4, Hf4⟩ := oi H
  refine g_if_ne hF (dAt tX12_every_ok 2 rfl rfl) rfl (fun c4 => ?_) (fun c4 => ?_)
  · have H := Hf4 c4
    exact X12_every_b9_ok hD hDD hq_X12_any hq_X12_every hq_X12_one0 hF hS hE FU _ H
  · have H := Ht4 c4
    refine g_p (S' := [.int 0]) hF tX12_every_ok 3 1 rfl rfl rfl rfl ?_
    exact g_zret hF (en_p H hE) (Or.inl rfl) (dAt tX12_every_ok 4 rfl rfl) (by decide) (by decide)
def X12_one0_b147 (q_X12_any : Nat → Sig → Option (Int32 × Sig)) (q_X12_every : Nat → Sig → Option (Int32 × Sig)) (q_X12_one0 : Nat → Sig → Option (Int32 × Sig)) (a : Nat) (y0 : Int32) (σ : Sig) : Option (Int32 × Sig) := if y0 = (-1) then ((X12_bad_f a 1 σ).bind fun ⟨v10, s11⟩ => if v10 = 0 ∨ v10 = 1 then some (v10, s11) else none) else ((X12_next0_f a σ).bind fun s2 => (X12_sumUp_f a s2).bind fun ⟨v4, s5⟩ => if v4 = 0 then (some (0, s5)) else ((X12_lay_f a y0 0 s5).bind fun s8 => some (1, s8)))
set_option maxRecDepth 4000 in
set_option maxHeartbeats 1000000 in
theorem X12_one0_b147_ok {K : Kt} {X : Cx} {D : Nat} {τ : Tau} {nx : Nat} {a : Nat} {res : Int32} {rsg : Sig}  {q_X12_any : Nat → Sig → Option (Int32 × Sig)} {q_X12_every : Nat → Sig → Option (Int32 × Sig)} {q_X12_one0 : Nat → Sig → Option (Int32 × Sig)} {D2 : Nat} (hD : 12 ≤ D) (hDD : D2 + 1 ≤ D) (hq_X12_any : ∀ {τ : Tau} {nx : Nat} (a : Nat) (σ : Sig) (res : Int32) (rsg : Sig), ShX12 τ a → q_X12_any a σ = some (res, rsg) → Ok D2 0 0 yX12_any cX12_any 1 (some .boolean) [.ref a] (τ, σ, nx) (some (.int res)) (τ, rsg, nx)) (hq_X12_every : ∀ {τ : Tau} {nx : Nat} (a : Nat) (σ : Sig) (res : Int32) (rsg : Sig), ShX12 τ a → q_X12_every a σ = some (res, rsg) → Ok D2 0 0 yX12_every cX12_every 1 (some .boolean) [.ref a] (τ, σ, nx) (some (.int res)) (τ, rsg, nx)) (hq_X12_one0 : ∀ {τ : Tau} {nx : Nat} (a : Nat) (σ : Sig) (res : Int32) (rsg : Sig), ShX12 τ a → q_X12_one0 a σ = some (res, rsg) → Ok D2 0 0 yX12_one0 cX12_one0 2 (some .boolean) [.ref a] (τ, σ, nx) (some (.int res)) (τ, rsg, nx)) (hF : Fx K X cX12_one0 2 RX12 D 0 0) (hS : ShX12 τ a) (hE : En K X (some .boolean) 0 0 (some (.int res)) (τ, rsg, nx)) {y0 : Int32} {σ : Sig} (H : X12_one0_b147 q_X12_any q_X12_every q_X12_one0 a y0 σ = some (res, rsg)) : G K X 2 0 0 147 [some (.ref a), none] [.int y0] (τ, σ, nx) := by
  refine g_p (L' := [some (.ref a), some (.int y0)]) (S' := [.int (-1), .int y0]) hF tX12_one0_ok 72 3 rfl rfl rfl rfl ?_
  obtain ⟨Ht1, Hf1⟩ := oi H
  refine g_icmp_ne hF (dAt tX12_one0_ok 75 rfl rfl) rfl (fun c1 => ?_) (fun c1 => ?_)
  · have H := Hf1 c1
    refine g_p (S' := [.ref a]) hF tX12_one0_ok 80 1 rfl rfl rfl rfl ?_
    obtain ⟨s2, e3, H⟩ := ob H
    refine g_cV (S := []) hF (X12_next0_ok (Nat.le_refl _) hS e3 K) mbX12_next0 mvX12_next0 mlX12_180 (by omega) (by decide) (dAt tX12_one0_ok 81 rfl rfl) hS.1 rfl rfl rfl (Nat.le_of_ble_eq_true rfl) rfl rfl (by decide) (by decide) rfl ?_
    refine g_p (S' := [.ref a]) hF tX12_one0_ok 82 1 rfl rfl rfl rfl ?_
    obtain ⟨⟨v4, s5⟩, e6, H⟩ := ob H
    refine g_cV (S := []) hF (X12_sumUp_ok (Nat.le_refl _) hS e6 K) mbX12_sumUp mvX12_sumUp mlX12_219 (by omega) (by decide) (dAt tX12_one0_ok 83 rfl rfl) hS.1 rfl rfl rfl (Nat.le_of_ble_eq_true rfl) rfl rfl (by decide) (by decide) rfl ?_
    obtain ⟨Ht7, Hf7⟩ := oi H
    refine g_if_ne hF (dAt tX12_one0_ok 84 rfl rfl) rfl (fun c7 => ?_) (fun c7 => ?_)
    · have H := Hf7 c7
      refine g_p (S' := [.int 0, .int y0, .ref a]) hF tX12_one0_ok 87 3 rfl rfl rfl rfl ?_
      obtain ⟨s8, e9, H⟩ := ob H
      refine g_cV (S := []) hF (X12_lay_ok (Nat.le_refl _) hS e9 K) mbX12_lay mvX12_lay mlX12_193 (by omega) (by decide) (dAt tX12_one0_ok 90 rfl rfl) hS.1 rfl rfl rfl (Nat.le_of_ble_eq_true rfl) rfl rfl (by decide) (by decide) rfl ?_
      refine g_p (S' := [.int 1]) hF tX12_one0_ok 91 1 rfl rfl rfl rfl ?_
      exact g_zret hF (en_p H hE) (Or.inr rfl) (dAt tX12_one0_ok 92 rfl rfl) (by decide) (by decide)
    · have H := Ht7 c7
      refine g_p (S' := [.int 0]) hF tX12_one0_ok 85 1 rfl rfl rfl rfl ?_
      exact g_zret hF (en_p H hE) (Or.inl rfl) (dAt tX12_one0_ok 86 rfl rfl) (by decide) (by decide)
  · have H := Ht1 c1
    refine g_p (S' := [.int 1, .ref a]) hF tX12_one0_ok 76 2 rfl rfl rfl rfl ?_
    obtain ⟨⟨v10, s11⟩, e12, H⟩ := ob H
    refine g_cV (S := []) hF (X12_bad_ok (Nat.le_refl _) hS e12 K) mbX12_bad mvX12_bad mlX12_177 (by omega) (by decide) (dAt tX12_one0_ok 78 rfl rfl) hS.1 rfl rfl rfl (Nat.le_of_ble_eq_true rfl) rfl rfl (by decide) (by decide) rfl ?_
    obtain ⟨hb, H⟩ := oy H
    exact g_zret hF (en_p H hE) hb (dAt tX12_one0_ok 79 rfl rfl) (by decide) (by decide)
def X12_one0_F (q_X12_any : Nat → Sig → Option (Int32 × Sig)) (q_X12_every : Nat → Sig → Option (Int32 × Sig)) (q_X12_one0 : Nat → Sig → Option (Int32 × Sig)) (a : Nat) (σ : Sig) : Option (Int32 × Sig) := if (σ a 14) = 6 then ((X12_opens_f a σ).bind fun ⟨v24, s25⟩ => if v24 = 0 then (some (0, s25)) else ((q_X12_one0 a s25).bind fun ⟨v28, s29⟩ => if v28 = 0 then (some (0, s29)) else ((pI s29 a 20 ((s29 a 20) - 1)).bind fun s32 => (X12_lay_f a 19 0 s32).bind fun s34 => some (1, s34)))) else (if (σ a 14) = 140 then ((X12_opens_f a σ).bind fun ⟨v10, s11⟩ => if v10 = 0 then (some (0, s11)) else ((q_X12_any a s11).bind fun ⟨v14, s15⟩ => if v14 = 0 then (some (0, s15)) else ((X12_need_f a 141 s15).bind fun ⟨v18, s19⟩ => if v18 = 0 then (some (0, s19)) else ((pI s19 a 20 ((s19 a 20) - 1)).bind fun s22 => some (1, s22))))) else ((X12_sumUp_f a σ).bind fun ⟨v3, s4⟩ => if v3 = 0 then (some (0, s4)) else (if (s4 a 14) = 160 then (X12_one0_b147 q_X12_any q_X12_every q_X12_one0 a 16 s4) else (if (s4 a 14) = 161 then (X12_one0_b147 q_X12_any q_X12_every q_X12_one0 a 17 s4) else (if (s4 a 14) = 162 then (X12_one0_b147 q_X12_any q_X12_every q_X12_one0 a 18 s4) else (X12_one0_b147 q_X12_any q_X12_every q_X12_one0 a (-1) s4))))))
set_option maxRecDepth 4000 in
set_option maxHeartbeats 1000000 in
theorem X12_one0F_ok {D : Nat} {τ : Tau} {nx : Nat} {a : Nat} {σ : Sig} {res : Int32} {rsg : Sig} {q_X12_any : Nat → Sig → Option (Int32 × Sig)} {q_X12_every : Nat → Sig → Option (Int32 × Sig)} {q_X12_one0 : Nat → Sig → Option (Int32 × Sig)} {D2 : Nat} (hD : 12 ≤ D) (hDD : D2 + 1 ≤ D) (hq_X12_any : ∀ {τ : Tau} {nx : Nat} (a : Nat) (σ : Sig) (res : Int32) (rsg : Sig), ShX12 τ a → q_X12_any a σ = some (res, rsg) → Ok D2 0 0 yX12_any cX12_any 1 (some .boolean) [.ref a] (τ, σ, nx) (some (.int res)) (τ, rsg, nx)) (hq_X12_every : ∀ {τ : Tau} {nx : Nat} (a : Nat) (σ : Sig) (res : Int32) (rsg : Sig), ShX12 τ a → q_X12_every a σ = some (res, rsg) → Ok D2 0 0 yX12_every cX12_every 1 (some .boolean) [.ref a] (τ, σ, nx) (some (.int res)) (τ, rsg, nx)) (hq_X12_one0 : ∀ {τ : Tau} {nx : Nat} (a : Nat) (σ : Sig) (res : Int32) (rsg : Sig), ShX12 τ a → q_X12_one0 a σ = some (res, rsg) → Ok D2 0 0 yX12_one0 cX12_one0 2 (some .boolean) [.ref a] (τ, σ, nx) (some (.int res)) (τ, rsg, nx)) (hS : ShX12 τ a) (H : X12_one0_F q_X12_any q_X12_every q_X12_one0 a σ = some (res, rsg)) : Ok D 0 0 yX12_one0 cX12_one0 2 (some .boolean) [.ref a] (τ, σ, nx) (some (.int res)) (τ, rsg, nx) := by
  refine ok_of (by decide +kernel) rfl (Nat.le_of_ble_eq_true rfl) (fun K X hF hE hN L0 hL0 => ?_)
  obtain rfl : [some (.ref a), none] = L0 := hL0
  have hF : Fx K X cX12_one0 2 RX12 D 0 0 := hF
  refine g_p (S' := [.ref a]) hF tX12_one0_ok 0 1 rfl rfl rfl rfl ?_
  refine g_getI hF (dAt tX12_one0_ok 1 rfl rfl) flX12_156 hS.1 rfl ?_
  refine g_p (S' := [.int 6, .int (σ a 14)]) hF tX12_one0_ok 2 1 rfl rfl rfl rfl ?_
  obtain ⟨Ht1, Hf1⟩ := oi H
  refine g_icmp_ne hF (dAt tX12_one0_ok 3 rfl rfl) rfl (fun c1 => ?_) (fun c1 => ?_)
  · have H := Hf1 c1
    refine g_p (S' := [.ref a]) hF tX12_one0_ok 24 1 rfl rfl rfl rfl ?_
    refine g_getI hF (dAt tX12_one0_ok 25 rfl rfl) flX12_156 hS.1 rfl ?_
    refine g_p (S' := [.int 140, .int (σ a 14)]) hF tX12_one0_ok 26 1 rfl rfl rfl rfl ?_
    obtain ⟨Ht2, Hf2⟩ := oi H
    refine g_icmp_ne hF (dAt tX12_one0_ok 27 rfl rfl) rfl (fun c2 => ?_) (fun c2 => ?_)
    · have H := Hf2 c2
      refine g_p (S' := [.ref a]) hF tX12_one0_ok 48 1 rfl rfl rfl rfl ?_
      obtain ⟨⟨v3, s4⟩, e5, H⟩ := ob H
      refine g_cV (S := []) hF (X12_sumUp_ok (Nat.le_refl _) hS e5 K) mbX12_sumUp mvX12_sumUp mlX12_219 (by omega) (by decide) (dAt tX12_one0_ok 49 rfl rfl) hS.1 rfl rfl rfl (Nat.le_of_ble_eq_true rfl) rfl rfl (by decide) (by decide) rfl ?_
      obtain ⟨Ht6, Hf6⟩ := oi H
      refine g_if_ne hF (dAt tX12_one0_ok 50 rfl rfl) rfl (fun c6 => ?_) (fun c6 => ?_)
      · have H := Hf6 c6
        refine g_p (S' := [.ref a]) hF tX12_one0_ok 53 1 rfl rfl rfl rfl ?_
        refine g_getI hF (dAt tX12_one0_ok 54 rfl rfl) flX12_156 hS.1 rfl ?_
        refine g_p (S' := [.int 160, .int (s4 a 14)]) hF tX12_one0_ok 55 1 rfl rfl rfl rfl ?_
        obtain ⟨Ht7, Hf7⟩ := oi H
        refine g_icmp_ne hF (dAt tX12_one0_ok 56 rfl rfl) rfl (fun c7 => ?_) (fun c7 => ?_)
        · have H := Hf7 c7
          refine g_p (S' := [.ref a]) hF tX12_one0_ok 59 1 rfl rfl rfl rfl ?_
          refine g_getI hF (dAt tX12_one0_ok 60 rfl rfl) flX12_156 hS.1 rfl ?_
          refine g_p (S' := [.int 161, .int (s4 a 14)]) hF tX12_one0_ok 61 1 rfl rfl rfl rfl ?_
          obtain ⟨Ht8, Hf8⟩ := oi H
          refine g_icmp_ne hF (dAt tX12_one0_ok 62 rfl rfl) rfl (fun c8 => ?_) (fun c8 => ?_)
          · have H := Hf8 c8
            refine g_p (S' := [.ref a]) hF tX12_one0_ok 65 1 rfl rfl rfl rfl ?_
            refine g_getI hF (dAt tX12_one0_ok 66 rfl rfl) flX12_156 hS.1 rfl ?_
            refine g_p (S' := [.int 162, .int (s4 a 14)]) hF tX12_one0_ok 67 1 rfl rfl rfl rfl ?_
            obtain ⟨Ht9, Hf9⟩ := oi H
            refine g_icmp_ne hF (dAt tX12_one0_ok 68 rfl rfl) rfl (fun c9 => ?_) (fun c9 => ?_)
            · have H := Hf9 c9
              refine g_p (S' := [.int (-1)]) hF tX12_one0_ok 71 1 rfl rfl rfl rfl ?_
              exact X12_one0_b147_ok hD hDD hq_X12_any hq_X12_every hq_X12_one0 hF hS hE H
            · have H := Ht9 c9
              refine g_p (S' := [.int 18]) hF tX12_one0_ok 69 1 rfl rfl rfl rfl ?_
              refine g_goto hF (dAt tX12_one0_ok 70 rfl rfl) rfl ?_
              exact X12_one0_b147_ok hD hDD hq_X12_any hq_X12_every hq_X12_one0 hF hS hE H
          · have H := Ht8 c8
            refine g_p (S' := [.int 17]) hF tX12_one0_ok 63 1 rfl rfl rfl rfl ?_
            refine g_goto hF (dAt tX12_one0_ok 64 rfl rfl) rfl ?_
            exact X12_one0_b147_ok hD hDD hq_X12_any hq_X12_every hq_X12_one0 hF hS hE H
        · have H := Ht7 c7
          refine g_p (S' := [.int 16]) hF tX12_one0_ok 57 1 rfl rfl rfl rfl ?_
          refine g_goto hF (dAt tX12_one0_ok 58 rfl rfl) rfl ?_
          exact X12_one0_b147_ok hD hDD hq_X12_any hq_X12_every hq_X12_one0 hF hS hE H
      · have H := Ht6 c6
        refine g_p (S' := [.int 0]) hF tX12_one0_ok 51 1 rfl rfl rfl rfl ?_
        exact g_zret hF (en_p H hE) (Or.inl rfl) (dAt tX12_one0_ok 52 rfl rfl) (by decide) (by decide)
    · have H := Ht2 c2
      refine g_p (S' := [.ref a]) hF tX12_one0_ok 28 1 rfl rfl rfl rfl ?_
      obtain ⟨⟨v10, s11⟩, e12, H⟩ := ob H
      refine g_cV (S := []) hF (X12_opens_ok (Nat.le_refl _) hS e12 K) mbX12_opens mvX12_opens mlX12_210 (by omega) (by decide) (dAt tX12_one0_ok 29 rfl rfl) hS.1 rfl rfl rfl (Nat.le_of_ble_eq_true rfl) rfl rfl (by decide) (by decide) rfl ?_
      obtain ⟨Ht13, Hf13⟩ := oi H
      refine g_if_eq hF (dAt tX12_one0_ok 30 rfl rfl) rfl (fun c13 => ?_) (fun c13 => ?_)
      · have H := Ht13 c13
        refine g_p (S' := [.int 0]) hF tX12_one0_ok 38 1 rfl rfl rfl rfl ?_
        exact g_zret hF (en_p H hE) (Or.inl rfl) (dAt tX12_one0_ok 39 rfl rfl) (by decide) (by decide)
      · have H := Hf13 c13
        refine g_p (S' := [.ref a]) hF tX12_one0_ok 31 1 rfl rfl rfl rfl ?_
        obtain ⟨⟨v14, s15⟩, e16, H⟩ := ob H
        refine g_cV (S := []) hF (hq_X12_any _ _ _ _ hS e16 K) mbX12_any mvX12_any mlX12_213 (by omega) (by decide) (dAt tX12_one0_ok 32 rfl rfl) hS.1 rfl rfl rfl (Nat.le_of_ble_eq_true rfl) rfl rfl (by decide) (by decide) rfl ?_
        obtain ⟨Ht17, Hf17⟩ := oi H
        refine g_if_eq hF (dAt tX12_one0_ok 33 rfl rfl) rfl (fun c17 => ?_) (fun c17 => ?_)
        · have H := Ht17 c17
          refine g_p (S' := [.int 0]) hF tX12_one0_ok 38 1 rfl rfl rfl rfl ?_
          exact g_zret hF (en_p H hE) (Or.inl rfl) (dAt tX12_one0_ok 39 rfl rfl) (by decide) (by decide)
        · have H := Hf17 c17
          refine g_p (S' := [.int 141, .ref a]) hF tX12_one0_ok 34 2 rfl rfl rfl rfl ?_
          obtain ⟨⟨v18, s19⟩, e20, H⟩ := ob H
          refine g_cV (S := []) hF (X12_need_ok (Nat.le_refl _) hS e20 K) mbX12_need mvX12_need mlX12_216 (by omega) (by decide) (dAt tX12_one0_ok 36 rfl rfl) hS.1 rfl rfl rfl (Nat.le_of_ble_eq_true rfl) rfl rfl (by decide) (by decide) rfl ?_
          obtain ⟨Ht21, Hf21⟩ := oi H
          refine g_if_ne hF (dAt tX12_one0_ok 37 rfl rfl) rfl (fun c21 => ?_) (fun c21 => ?_)
          · have H := Hf21 c21
            refine g_p (S' := [.ref a, .ref a]) hF tX12_one0_ok 40 2 rfl rfl rfl rfl ?_
            refine g_getI hF (dAt tX12_one0_ok 42 rfl rfl) flX12_186 hS.1 rfl ?_
            refine g_p (S' := [.int ((s19 a 20) - 1), .ref a]) hF tX12_one0_ok 43 2 rfl rfl rfl rfl ?_
            obtain ⟨s22, e23, H⟩ := ob H
            refine g_pI hF (dAt tX12_one0_ok 45 rfl rfl) flX12_186 (Or.inl rfl) hS.1 rfl e23 ?_
            refine g_p (S' := [.int 1]) hF tX12_one0_ok 46 1 rfl rfl rfl rfl ?_
            exact g_zret hF (en_p H hE) (Or.inr rfl) (dAt tX12_one0_ok 47 rfl rfl) (by decide) (by decide)
          · have H := Ht21 c21
            refine g_p (S' := [.int 0]) hF tX12_one0_ok 38 1 rfl rfl rfl rfl ?_
            exact g_zret hF (en_p H hE) (Or.inl rfl) (dAt tX12_one0_ok 39 rfl rfl) (by decide) (by decide)
  · have H := Ht1 c1
    refine g_p (S' := [.ref a]) hF tX12_one0_ok 4 1 rfl rfl rfl rfl ?_
    obtain ⟨⟨v24, s25⟩, e26, H⟩ := ob H
    refine g_cV (S := []) hF (X12_opens_ok (Nat.le_refl _) hS e26 K) mbX12_opens mvX12_opens mlX12_210 (by omega) (by decide) (dAt tX12_one0_ok 5 rfl rfl) hS.1 rfl rfl rfl (Nat.le_of_ble_eq_true rfl) rfl rfl (by decide) (by decide) rfl ?_
    obtain ⟨Ht27, Hf27⟩ := oi H
    refine g_if_eq hF (dAt tX12_one0_ok 6 rfl rfl) rfl (fun c27 => ?_) (fun c27 => ?_)
    · have H := Ht27 c27
      refine g_p (S' := [.int 0]) hF tX12_one0_ok 10 1 rfl rfl rfl rfl ?_
      exact g_zret hF (en_p H hE) (Or.inl rfl) (dAt tX12_one0_ok 11 rfl rfl) (by decide) (by decide)
    · have H := Hf27 c27
      refine g_p (S' := [.ref a]) hF tX12_one0_ok 7 1 rfl rfl rfl rfl ?_
      obtain ⟨⟨v28, s29⟩, e30, H⟩ := ob H
      refine g_cV (S := []) hF (hq_X12_one0 _ _ _ _ hS e30 K) mbX12_one0 mvX12_one0 mlX12_207 (by omega) (by decide) (dAt tX12_one0_ok 8 rfl rfl) hS.1 rfl rfl rfl (Nat.le_of_ble_eq_true rfl) rfl rfl (by decide) (by decide) rfl ?_
      obtain ⟨Ht31, Hf31⟩ := oi H
      refine g_if_ne hF (dAt tX12_one0_ok 9 rfl rfl) rfl (fun c31 => ?_) (fun c31 => ?_)
      · have H := Hf31 c31
        refine g_p (S' := [.ref a, .ref a]) hF tX12_one0_ok 12 2 rfl rfl rfl rfl ?_
        refine g_getI hF (dAt tX12_one0_ok 14 rfl rfl) flX12_186 hS.1 rfl ?_
        refine g_p (S' := [.int ((s29 a 20) - 1), .ref a]) hF tX12_one0_ok 15 2 rfl rfl rfl rfl ?_
        obtain ⟨s32, e33, H⟩ := ob H
        refine g_pI hF (dAt tX12_one0_ok 17 rfl rfl) flX12_186 (Or.inl rfl) hS.1 rfl e33 ?_
        refine g_p (S' := [.int 0, .int 19, .ref a]) hF tX12_one0_ok 18 3 rfl rfl rfl rfl ?_
        obtain ⟨s34, e35, H⟩ := ob H
        refine g_cV (S := []) hF (X12_lay_ok (Nat.le_refl _) hS e35 K) mbX12_lay mvX12_lay mlX12_193 (by omega) (by decide) (dAt tX12_one0_ok 21 rfl rfl) hS.1 rfl rfl rfl (Nat.le_of_ble_eq_true rfl) rfl rfl (by decide) (by decide) rfl ?_
        refine g_p (S' := [.int 1]) hF tX12_one0_ok 22 1 rfl rfl rfl rfl ?_
        exact g_zret hF (en_p H hE) (Or.inr rfl) (dAt tX12_one0_ok 23 rfl rfl) (by decide) (by decide)
      · have H := Ht31 c31
        refine g_p (S' := [.int 0]) hF tX12_one0_ok 10 1 rfl rfl rfl rfl ?_
        exact g_zret hF (en_p H hE) (Or.inl rfl) (dAt tX12_one0_ok 11 rfl rfl) (by decide) (by decide)
def X12_cg : Nat → (Nat → Sig → Option (Int32 × Sig)) × (Nat → Sig → Option (Int32 × Sig)) × (Nat → Sig → Option (Int32 × Sig))
  | 0 => (fun _ _ => none, fun _ _ => none, fun _ _ => none)
  | r + 1 => (X12_any_F (X12_cg r).1 (X12_cg r).2.1 (X12_cg r).2.2, X12_every_F (X12_cg r).1 (X12_cg r).2.1 (X12_cg r).2.2, X12_one0_F (X12_cg r).1 (X12_cg r).2.1 (X12_cg r).2.2)
theorem X12_cg_ok : ∀ (r D : Nat), 12 + r ≤ D → (∀ {τ : Tau} {nx : Nat} (a : Nat) (σ : Sig) (res : Int32) (rsg : Sig), ShX12 τ a → (X12_cg r).1 a σ = some (res, rsg) → Ok D 0 0 yX12_any cX12_any 1 (some .boolean) [.ref a] (τ, σ, nx) (some (.int res)) (τ, rsg, nx)) ∧ (∀ {τ : Tau} {nx : Nat} (a : Nat) (σ : Sig) (res : Int32) (rsg : Sig), ShX12 τ a → (X12_cg r).2.1 a σ = some (res, rsg) → Ok D 0 0 yX12_every cX12_every 1 (some .boolean) [.ref a] (τ, σ, nx) (some (.int res)) (τ, rsg, nx)) ∧ (∀ {τ : Tau} {nx : Nat} (a : Nat) (σ : Sig) (res : Int32) (rsg : Sig), ShX12 τ a → (X12_cg r).2.2 a σ = some (res, rsg) → Ok D 0 0 yX12_one0 cX12_one0 2 (some .boolean) [.ref a] (τ, σ, nx) (some (.int res)) (τ, rsg, nx))
  | 0, D, _ => ⟨(fun {_ _} _ _ _ _ hS H => nomatch H), (fun {_ _} _ _ _ _ hS H => nomatch H), (fun {_ _} _ _ _ _ hS H => nomatch H)⟩
  | r + 1, D, hD => ⟨(fun {_ _} _ _ _ _ hS H => X12_anyF_ok (D2 := D - 1) (by omega) (by omega) (X12_cg_ok r (D - 1) (by omega)).1 (X12_cg_ok r (D - 1) (by omega)).2.1 (X12_cg_ok r (D - 1) (by omega)).2.2 hS H), (fun {_ _} _ _ _ _ hS H => X12_everyF_ok (D2 := D - 1) (by omega) (by omega) (X12_cg_ok r (D - 1) (by omega)).1 (X12_cg_ok r (D - 1) (by omega)).2.1 (X12_cg_ok r (D - 1) (by omega)).2.2 hS H), (fun {_ _} _ _ _ _ hS H => X12_one0F_ok (D2 := D - 1) (by omega) (by omega) (X12_cg_ok r (D - 1) (by omega)).1 (X12_cg_ok r (D - 1) (by omega)).2.1 (X12_cg_ok r (D - 1) (by omega)).2.2 hS H)⟩
def X12_any_f (a : Nat) (σ : Sig) : Option (Int32 × Sig) := (X12_cg 40).1 a σ
theorem X12_any_ok {D : Nat} {τ : Tau} {nx : Nat} {a : Nat} {σ : Sig} {res : Int32} {rsg : Sig} (hD : 52 ≤ D) (hS : ShX12 τ a) (H : X12_any_f a σ = some (res, rsg)) : Ok D 0 0 yX12_any cX12_any 1 (some .boolean) [.ref a] (τ, σ, nx) (some (.int res)) (τ, rsg, nx) := (X12_cg_ok 40 D hD).1 _ _ _ _ hS H
def X12_every_f (a : Nat) (σ : Sig) : Option (Int32 × Sig) := (X12_cg 40).2.1 a σ
theorem X12_every_ok {D : Nat} {τ : Tau} {nx : Nat} {a : Nat} {σ : Sig} {res : Int32} {rsg : Sig} (hD : 52 ≤ D) (hS : ShX12 τ a) (H : X12_every_f a σ = some (res, rsg)) : Ok D 0 0 yX12_every cX12_every 1 (some .boolean) [.ref a] (τ, σ, nx) (some (.int res)) (τ, rsg, nx) := (X12_cg_ok 40 D hD).2.1 _ _ _ _ hS H
def X12_one0_f (a : Nat) (σ : Sig) : Option (Int32 × Sig) := (X12_cg 40).2.2 a σ
theorem X12_one0_ok {D : Nat} {τ : Tau} {nx : Nat} {a : Nat} {σ : Sig} {res : Int32} {rsg : Sig} (hD : 52 ≤ D) (hS : ShX12 τ a) (H : X12_one0_f a σ = some (res, rsg)) : Ok D 0 0 yX12_one0 cX12_one0 2 (some .boolean) [.ref a] (τ, σ, nx) (some (.int res)) (τ, rsg, nx) := (X12_cg_ok 40 D hD).2.2 _ _ _ _ hS H

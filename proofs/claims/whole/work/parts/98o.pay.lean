/-! PAY on both sides. -/
def okO (o : Option (Nat × Nat)) (n : Nat) : Prop := ∀ p q, o = some (p, q) → p < n ∧ q < n
def payS (P : Nat) (o : Option (Nat × Nat)) (x : Int32) (σ : Sig) : Sig := match o with
  | none => σ
  | some (p, q) => wr (wr σ (P + 6) p (σ (P + 6) p - x)) (P + 6) q ((wr σ (P + 6) p (σ (P + 6) p - x)) (P + 6) q + x)
def payW (o : Option (Nat × Nat)) (x : Int32) (w : wF) : wF := match o with
  | none => w
  | some (p, q) => upd (upd w (90 + 8 * p + 5) (w (90 + 8 * p + 5) - x)) (90 + 8 * q + 5) ((upd w (90 + 8 * p + 5) (w (90 + 8 * p + 5) - x)) (90 + 8 * q + 5) + x)
theorem payS_ne {P : Nat} {o : Option (Nat × Nat)} {x : Int32} {σ : Sig} {a : Nat} (h : a ≠ P + 6) : payS P o x σ a = σ a := by
  unfold payS; split
  · rfl
  · rw [wr_row h, wr_row h]
theorem payW_ne {o : Option (Nat × Nat)} {x : Int32} {w : wF} {n j : Nat} (ho : okO o n) (h : ∀ p, p < n → j ≠ 90 + 8 * p + 5) : payW o x w j = w j := by
  unfold payW; split
  · rfl
  · next p q =>
    obtain ⟨h1, h2⟩ := ho p q rfl
    rw [upd_ne (h q h2), upd_ne (h p h1)]
theorem pay_rc {σ : Sig} {W : Nat} {w : wF} {n nd : Nat} {o : Option (Nat × Nat)} {x : Int32} (hn : n ≤ 12) (hd : nd ≤ 40) (h : Rc σ W w n nd) (ho : okO o n) : Rc (payS (W + 1) o x σ) W (payW o x w) n nd := by
  unfold payS payW; split
  · exact h
  · next p q =>
    obtain ⟨h1, h2⟩ := ho p q rfl
    have cp : ∀ p, p < n → Cor n nd 7 p (90 + 8 * p + 5) := fun p hp => Or.inr (Or.inr (Or.inl ⟨hp, 5, by decide, rfl, rfl⟩))
    have e1 : σ (W + 1 + 6) p = w (90 + 8 * p + 5) := Rc.cor.mp h _ _ _ (cp p h1)
    have r1 := h.put (v := w (90 + 8 * p + 5) - x) hn hd (cp p h1)
    have e2 := Rc.cor.mp r1 _ _ _ (cp q h2)
    rw [e1, ← e2]
    exact r1.put hn hd (cp q h2)
theorem Rg.payW {w : wF} {n nd : Nat} {o : Option (Nat × Nat)} {x : Int32} (h : Rg w n nd) (ho : okO o n) : Rg (payW o x w) n nd := by
  have h12 := h.le12
  refine ⟨⟨h12, by rw [payW_ne ho (fun q _ => by omega)]; exact h.wn, fun p hp => ?_⟩, h.2.1.fr (Nat.le_refl _) (fun j hj => payW_ne ho (fun q _ => by omega)), h.2.2.fr (Nat.le_refl _) (fun j hj => payW_ne ho (fun q _ => by omega))⟩
  rw [payW_ne ho (fun q _ => by omega), payW_ne ho (fun q _ => by omega), payW_ne ho (fun q _ => by omega), payW_ne ho (fun q _ => by omega), payW_ne ho (fun q _ => by omega), payW_ne ho (fun q _ => by omega)]
  exact h.1.2.2 p hp
/-- who pays whom, of the class and of the reference -/
def PayOk (o : Option (Nat × Nat)) (n : Nat) (x1 x2 y1 y2 : Int32) : Prop := (∃ p q, o = some (p, q) ∧ p < n ∧ q < n ∧ x1 = nI p ∧ x2 = nI q ∧ y1 = nI p ∧ y2 = nI q) ∨ (o = none ∧ (y1 = -1 ∨ y2 = -1) ∧ (x1 = -1 ∨ x2 = -1))
theorem PayOk.ok {o : Option (Nat × Nat)} {n : Nat} {x1 x2 y1 y2 : Int32} (h : PayOk o n x1 x2 y1 y2) : okO o n := by
  intro p q e
  rcases h with ⟨p', q', h1, h2, h3, -⟩ | ⟨h1, -⟩
  · rw [h1] at e; injection e with e; injection e with a c; subst a; subst c; exact ⟨h2, h3⟩
  · rw [h1] at e; cases e
theorem nI_m1 {p : Nat} (h : p < 40) : nI p ≠ -1 := fun z => by
  have h1 := (nI_le (a := 0) (b := p) (by omega) (by omega))
  rw [z] at h1; exact absurd h1 (by decide)
theorem pay_C {P n : Nat} {σ : Sig} {o : Option (Nat × Nat)} {x1 x2 y1 y2 x : Int32} (hn : n ≤ 12) (hc : σ P 0 = nI n) (h : PayOk o n x1 x2 y1 y2) : X4_pay_f P x1 x2 x σ = some (payS P o x σ) := by
  unfold X4_pay_f
  have out : X4_has_f P (-1) σ = some 0 := has4_out hn hc (fun p hp => (nI_m1 (by omega)).symm)
  rcases h with ⟨p, q, rfl, h2, h3, rfl, rfl, -⟩ | ⟨rfl, -, h2⟩
  · rw [has4_in hn hc h2, bsm, if_neg n10, has4_in hn hc h3, bsm, if_neg n10, ldn (by omega) (by decide), bsm, stn (by omega) (by decide), bsm, ldn (by omega) (by decide), bsm, stn (by omega) (by decide), bsm]
    rfl
  · rcases h2 with rfl | rfl
    · rw [out, bsm, if_pos rfl]; rfl
    · rcases oneOf x1 n with ⟨p, hp, rfl⟩ | ho
      · rw [has4_in hn hc hp, bsm, if_neg n10, out, bsm, if_pos rfl]; rfl
      · rw [has4_out hn hc ho, bsm, if_pos rfl]; rfl
theorem pay_R {B n : Nat} {ρ : Sig} {o : Option (Nat × Nat)} {x1 x2 y1 y2 x : Int32} (hn : n ≤ 12) (h : PayOk o n x1 x2 y1 y2) : ∃ r, X12_pays_f B y1 y2 x ρ = some r ∧ r (B + 1) = payW o x (ρ (B + 1)) ∧ ∀ a, a ≠ B + 1 → r a = ρ a := by
  unfold X12_pays_f
  rcases h with ⟨p, q, rfl, h2, h3, -, -, rfl, rfl⟩ | ⟨rfl, h2, -⟩
  · rw [if_neg (nI_m1 (by omega)), if_neg (nI_m1 (by omega)), rO5 (by omega), bsm, rG5 (by omega), bsm, rO5 (by omega), bsm, rG5 (by omega), bsm]
    exact ⟨_, rfl, by rw [wr_w, wr_w]; rfl, fun a ha => by rw [wr_row ha, wr_row ha]⟩
  · refine ⟨ρ, ?_, rfl, fun _ _ => rfl⟩
    by_cases c : y1 = -1
    · rw [if_pos c]
    · rw [if_neg c]
      rcases h2 with h2 | h2
      · exact absurd h2 c
      · rw [if_pos h2]
theorem stD_of {τ : Tau} {σ : Sig} {a N k : Nat} {v : Int32} (h : τ a = some (.inr (.inl N))) (hk : k < N) (hN : N < 2 ^ 31) : stD τ σ a (nI k) v = some (wr σ a k v) := by
  unfold stD; rw [h]; exact stn hk hN
theorem ldD_of {τ : Tau} {σ : Sig} {a N k : Nat} (h : τ a = some (.inr (.inl N))) (hk : k < N) (hN : N < 2 ^ 31) : ldD τ σ a (nI k) = some (σ a k) := by
  unfold ldD; rw [h]; exact ldn hk hN
theorem ShX3.arr {τ : Tau} {P f : Nat} (h : ShX3 τ P) (hf : f < 7) : gRs τ 3 P (1 + f) = some (P + (1 + f)) ∧ τ (P + (1 + f)) = some (.inr (.inl 40)) := by
  obtain ⟨h0, h1, h2, h3, h4, h5, h6, h7, -⟩ := h
  have : f = 0 ∨ f = 1 ∨ f = 2 ∨ f = 3 ∨ f = 4 ∨ f = 5 ∨ f = 6 := by omega
  rcases this with rfl | rfl | rfl | rfl | rfl | rfl | rfl
  · exact ⟨gRs_of h0 rfl, h1⟩
  · exact ⟨gRs_of h0 rfl, h2⟩
  · exact ⟨gRs_of h0 rfl, h3⟩
  · exact ⟨gRs_of h0 rfl, h4⟩
  · exact ⟨gRs_of h0 rfl, h5⟩
  · exact ⟨gRs_of h0 rfl, h6⟩
  · exact ⟨gRs_of h0 rfl, h7⟩
theorem ShX3.same {τ τ' : Tau} {P : Nat} (h : ShX3 τ P) (ht : ∀ x, P ≤ x → x ≤ P + 10 → τ' x = τ x) : ShX3 τ' P := by
  unfold ShX3 at h ⊢
  rw [ht P (by omega) (by omega), ht (P + 1) (by omega) (by omega), ht (P + 2) (by omega) (by omega), ht (P + 3) (by omega) (by omega), ht (P + 4) (by omega) (by omega), ht (P + 5) (by omega) (by omega), ht (P + 6) (by omega) (by omega), ht (P + 7) (by omega) (by omega), ht (P + 8) (by omega) (by omega), ht (P + 9) (by omega) (by omega), ht (P + 10) (by omega) (by omega)]
  exact h
theorem ShX4.same {τ τ' : Tau} {P : Nat} (h : ShX4 τ P) (ht : ∀ x, P ≤ x → x ≤ P + 10 → τ' x = τ x) : ShX4 τ' P := by
  unfold ShX4 at h ⊢
  rw [ht P (by omega) (by omega), ht (P + 1) (by omega) (by omega), ht (P + 2) (by omega) (by omega), ht (P + 3) (by omega) (by omega), ht (P + 4) (by omega) (by omega), ht (P + 5) (by omega) (by omega), ht (P + 6) (by omega) (by omega), ht (P + 7) (by omega) (by omega), ht (P + 8) (by omega) (by omega), ht (P + 9) (by omega) (by omega), ht (P + 10) (by omega) (by omega)]
  exact h
theorem tl_of {τ : Tau} {a N : Nat} (h : ShX0 τ a N) : tl τ a 1 = N := by unfold tl; rw [h.2]
theorem payW_congr {o : Option (Nat × Nat)} {x : Int32} {w w' : wF} {n j : Nat} (ho : okO o n) (h : ∀ p, p < n → w (90 + 8 * p + 5) = w' (90 + 8 * p + 5)) (hj : w j = w' j) : payW o x w j = payW o x w' j := by
  unfold payW; split
  · exact hj
  · next p q =>
    obtain ⟨h1, h2⟩ := ho p q rfl
    have key : ∀ i, w i = w' i → upd w (90 + 8 * p + 5) (w (90 + 8 * p + 5) - x) i = upd w' (90 + 8 * p + 5) (w' (90 + 8 * p + 5) - x) i := by
      intro i hi
      by_cases e : i = 90 + 8 * p + 5
      · rw [e, upd_eq, upd_eq, h p h1]
      · rw [upd_ne e, upd_ne e, hi]
    by_cases e : j = 90 + 8 * q + 5
    · rw [e, upd_eq, upd_eq, key _ (h q h2)]
    · rw [upd_ne e, upd_ne e]; exact key j hj
theorem payS_congr {P N : Nat} {o : Option (Nat × Nat)} {x : Int32} {s s' : Sig} (h : ∀ a, a < N → s a = s' a) (hP : P + 6 < N) {a : Nat} (ha : a < N) : payS P o x s a = payS P o x s' a := by
  by_cases e : a = P + 6
  · subst e
    unfold payS; split
    · exact h _ hP
    · next p q => funext k; simp only [wr_same, h _ hP]
  · rw [payS_ne e, payS_ne e]; exact h a ha

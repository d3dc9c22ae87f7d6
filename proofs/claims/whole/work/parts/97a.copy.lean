/-! A WORLD COPIED. -/
theorem cpS_ne {σ : Sig} {a0 a1 m x : Nat} (h : x ≠ a1) : cpS σ a0 a1 0 0 m x = σ x := by funext j; unfold cpS; rw [if_neg h]
theorem cpS_v {σ : Sig} {a0 a1 m j : Nat} (h : j < m) : cpS σ a0 a1 0 0 m a1 j = σ a0 j := by
  unfold cpS; rw [if_pos rfl, pk_cpy_in (by omega) (by omega)]; congr 1; omega
theorem cp_ok {n0 n1 m : Nat} (h0 : m ≤ n0) (h1 : m ≤ n1) (hm : m < 2 ^ 31) (s : Sig) (a0 a1 : Nat) : cp n0 n1 s a0 0 a1 0 (nI m) = some (cpS s a0 a1 0 0 m) := by
  have e0 : (0 : Int32).toNatClampNeg = 0 := by decide
  have em : (nI m).toNatClampNeg = m := nI_clamp hm
  unfold cp
  rw [e0, em, if_neg]
  intro q
  rcases q with q | q | q | q | q
  · exact absurd q (by decide)
  · exact absurd q (by decide)
  · exact nI_pos hm q
  · omega
  · omega
/-- rows Q + 1 .. Q + k into P + 1 .. P + k, m of each -/
def cpN (P Q m : Nat) : Nat → Sig → Sig
  | 0, σ => σ
  | k + 1, σ => cpS (cpN P Q m k σ) (Q + (k + 1)) (P + (k + 1)) 0 0 m
theorem cpN_ne {P Q m : Nat} {σ : Sig} {x : Nat} : ∀ k, (x ≤ P ∨ P + k < x) → cpN P Q m k σ x = σ x
  | 0, _ => rfl
  | k + 1, h => by rw [cpN, cpS_ne (by omega), cpN_ne k (by omega)]
theorem cpN_v {P Q m : Nat} {σ : Sig} {i j : Nat} (hj : j < m) : ∀ k, (P + k < Q ∨ Q + k < P) → 1 ≤ i → i ≤ k → cpN P Q m k σ (P + i) j = σ (Q + i) j
  | 0, _, h1, h2 => absurd h1 (by omega)
  | k + 1, hd, h1, h2 => by
    rw [cpN]
    by_cases e : i = k + 1
    · subst e; rw [cpS_v hj, cpN_ne k (by omega)]
    · rw [cpS_ne (by omega)]; exact cpN_v hj k (by omega) h1 (by omega)
theorem copy4 (a r : Nat) (σ : Sig) : X4_copyFrom_f a r σ = some (cpN a r 12 10 (wr σ a 0 (σ r 0))) := by
  have e : ∀ s a0 a1, cp 12 12 s a0 0 a1 0 12 = some (cpS s a0 a1 0 0 12) := fun s a0 a1 => cp_ok (m := 12) (by omega) (by omega) (by omega) s a0 a1
  unfold X4_copyFrom_f pI
  simp only [e, bsm]
  rfl
theorem copy3 (a r : Nat) (σ : Sig) : X3_copyFrom_f a r σ = some (cpN a r 40 7 (wr σ a 0 (σ r 0))) := by
  have e : ∀ s a0 a1, cp 40 40 s a0 0 a1 0 40 = some (cpS s a0 a1 0 0 40) := fun s a0 a1 => cp_ok (m := 40) (by omega) (by omega) (by omega) s a0 a1
  unfold X3_copyFrom_f pI
  simp only [e, bsm]
  rfl
theorem copy9 {a r : Nat} {σ : Sig} (hd : a + 3 ≤ r ∨ r + 3 ≤ a) : ∃ s, X9_copyFrom_f a r σ = some s ∧ (∀ x, x < a ∨ a + 2 < x → s x = σ x) ∧ (∀ j, j < 36 → s (a + 1) j = σ (r + 1) j) ∧ (∀ j, j < 24 → s (a + 2) j = σ (r + 2) j) ∧ ∀ k, 2 ≤ k → k < 7 → s a k = σ r k := by
  have e1 : ∀ s a0 a1, cp 36 36 s a0 0 a1 0 36 = some (cpS s a0 a1 0 0 36) := fun s a0 a1 => cp_ok (m := 36) (by omega) (by omega) (by omega) s a0 a1
  have e2 : ∀ s a0 a1, cp 24 24 s a0 0 a1 0 24 = some (cpS s a0 a1 0 0 24) := fun s a0 a1 => cp_ok (m := 24) (by omega) (by omega) (by omega) s a0 a1
  unfold X9_copyFrom_f pI
  simp only [e1, e2, bsm]
  have hr : r ≠ a := by omega
  have rr : ∀ j, cpS (cpS σ (r + 1) (a + 1) 0 0 36) (r + 2) (a + 2) 0 0 24 r j = σ r j := fun j => by rw [cpS_ne (by omega), cpS_ne (by omega)]
  refine ⟨_, rfl, fun x hx => ?_, fun j hj => ?_, fun j hj => ?_, fun k h1 h2 => ?_⟩
  · rw [wr_row (by omega), wr_row (by omega), wr_row (by omega), wr_row (by omega), wr_row (by omega), cpS_ne (by omega), cpS_ne (by omega)]
  · rw [wr_row (by omega), wr_row (by omega), wr_row (by omega), wr_row (by omega), wr_row (by omega), cpS_ne (by omega), cpS_v hj]
  · rw [wr_row (by omega), wr_row (by omega), wr_row (by omega), wr_row (by omega), wr_row (by omega), cpS_v hj, cpS_ne (by omega)]
  · simp only [wr_row hr, rr, wr_same]
    have : k = 2 ∨ k = 3 ∨ k = 4 ∨ k = 5 ∨ k = 6 := by omega
    rcases this with rfl | rfl | rfl | rfl | rfl <;> simp
theorem copy8 {a r : Nat} {σ : Sig} (hr : r ≠ a) : ∃ s, X8_copyFrom_f a r σ = some s ∧ (∀ x, x ≠ a → s x = σ x) ∧ ∀ k, k < 4 → s a k = σ r k := by
  unfold X8_copyFrom_f pI
  simp only [bsm]
  refine ⟨_, rfl, fun x hx => ?_, fun k h1 => ?_⟩
  · rw [wr_row hx, wr_row hx, wr_row hx, wr_row hx]
  · simp only [wr_row hr, wr_same]
    have : k = 0 ∨ k = 1 ∨ k = 2 ∨ k = 3 := by omega
    rcases this with rfl | rfl | rfl | rfl <;> simp
theorem copy2 {a r M k : Nat} {σ : Sig} (hd : a + 2 ≤ r ∨ r + 2 ≤ a) (hk : k ≤ 400) (ek : σ r 2 = nI k) (hM : (M = 2000 ∧ σ a 0 = 400) ∨ (M = 0 ∧ σ a 0 = 0)) : ∃ s, X2_copyFrom_f a M r 2000 σ = some s ∧ (∀ x, x ≠ a → x ≠ a + 1 → s x = σ x) ∧ s a 0 = σ a 0 ∧ (M = 2000 → s a 2 = nI k ∧ ∀ j, j < 5 * k → s (a + 1) j = σ (r + 1) j) ∧ (M = 0 → s a 2 = 0) ∧ ∀ i, 3 ≤ i → i < 7 → s a i = σ r i := by
  have hr : r ≠ a := by omega
  have q1 : a ≠ a + 1 := by omega
  obtain ⟨m, hm, hm0, hm1, em, hmv⟩ : ∃ m, m ≤ 400 ∧ 5 * m ≤ 2000 ∧ 5 * m ≤ M ∧ mmin (σ r 2) (σ a 0) = nI m ∧ (M = 2000 → m = k) ∧ (M = 0 → m = 0) := by
    rcases hM with ⟨rfl, e0⟩ | ⟨rfl, e0⟩
    · refine ⟨k, hk, by omega, by omega, ?_, fun _ => rfl, fun h => absurd h (by omega)⟩
      unfold mmin; rw [ek, e0, if_neg (show ¬ (400 : Int32) < nI k from nI_nlt (a := 400) hk (by decide))]
    · refine ⟨0, by omega, by omega, by omega, ?_, fun h => absurd h (by omega), fun _ => rfl⟩
      unfold mmin; rw [ek, e0]
      by_cases c : k = 0
      · subst c; rw [if_neg (show ¬ (0 : Int32) < nI 0 by decide)]
      · rw [if_pos (show (0 : Int32) < nI k from nI_lt (a := 0) (by omega) (by omega))]; rfl
  have e5 : (nI m * 5 : Int32) = nI (5 * m) := by rw [show (5 : Int32) = nI 5 from rfl, pk_mul, Nat.mul_comm]
  unfold X2_copyFrom_f pI
  rw [bsm, em, wr_v, e5, cp_ok hm0 hm1 (by omega), bsm, bsm, bsm, bsm, bsm]
  have rr : ∀ j, cpS (wr σ a 2 (nI m)) (r + 1) (a + 1) 0 0 (5 * m) r j = σ r j := fun j => by rw [cpS_ne (by omega), wr_row hr]
  refine ⟨_, rfl, fun x h1 h2 => ?_, ?_, fun h => ⟨?_, fun j hj => ?_⟩, fun h => ?_, fun i h1 h2 => ?_⟩
  · rw [wr_row h1, wr_row h1, wr_row h1, wr_row h1, cpS_ne h2, wr_row h1]
  · rw [wr_o (by decide), wr_o (by decide), wr_o (by decide), wr_o (by decide), cpS_ne q1, wr_o (by decide)]
  · rw [wr_o (by decide), wr_o (by decide), wr_o (by decide), wr_o (by decide), cpS_ne q1, wr_v, hmv.1 h]
  · rw [wr_row (by omega), wr_row (by omega), wr_row (by omega), wr_row (by omega), cpS_v (by rw [hmv.1 h]; exact hj), wr_row (by omega)]
  · rw [wr_o (by decide), wr_o (by decide), wr_o (by decide), wr_o (by decide), cpS_ne q1, wr_v, hmv.2 h]; rfl
  · simp only [wr_row hr, rr, wr_same]
    have : i = 3 ∨ i = 4 ∨ i = 5 ∨ i = 6 := by omega
    rcases this with rfl | rfl | rfl | rfl <;> simp
/-- references copied -/
theorem gRs_of {τ : Tau} {ci a kf b : Nat} {rs : List (Option (Option Nat))} (h : τ a = some (.inl (ci, rs))) (hk : rs[kf]? = some (some (some b))) : gRs τ ci a kf = some b := by
  unfold gRs gR; rw [h]; simp [hk]
theorem lnR_of {τ : Tau} {ci a N : Nat} {f : Nat → Option Nat} (h : τ a = some (.inr (.inr (ci, N, f)))) : lnR τ ci a = some (nI N) := by
  unfold lnR; rw [h]; simp; rfl
theorem ldrD_of {τ : Tau} {ci a N i : Nat} {f : Nat → Option Nat} (h : τ a = some (.inr (.inr (ci, N, f)))) (hi : i < N) (hN : N < 2 ^ 31) : ldrD τ ci a (nI i) = some (f i) := by
  unfold ldrD; rw [h]; simp [ldr_ok hi hN]
def upR (τ : Tau) (a ci N : Nat) (f : Nat → Option Nat) : Tau := fun b => if b = a then some (.inr (.inr (ci, N, f))) else τ b
theorem strD_of {τ : Tau} {ci a N i : Nat} {f : Nat → Option Nat} {r : Option Nat} (h : τ a = some (.inr (.inr (ci, N, f)))) (ho : isOb τ ci r = true) (hi : i < N) (hN : N < 2 ^ 31) : strD τ ci a (nI i) r = some (upR τ a ci N (va_up f i r)) := by
  have e : (nI i).toNatClampNeg = i := nI_clamp (by omega)
  unfold strD; rw [h]
  simp only [ho, and_self, if_true]
  unfold str; rw [h]
  simp only [e]
  rw [if_neg (fun q => q.elim (fun z => nI_pos (by omega) z) (fun z => by omega))]
  rfl
theorem isOb_fr {τ τ' : Tau} {ci : Nat} {r : Option Nat} (h : isOb τ ci r = true) (hf : ∀ b rs, r = some b → τ b = some (.inl (ci, rs)) → τ' b = τ b) : isOb τ' ci r = true := by
  cases r with
  | none => rfl
  | some b =>
    have h2 : (match τ b with | some (.inl (c, _)) => c == ci | _ => false) = true := h
    split at h2
    · next c rs e =>
      have : c = ci := by simpa using h2
      subst this
      show (match τ' b with | some (.inl (c', _)) => c' == c | _ => false) = true
      rw [hf b rs rfl e, e]; simp
    · cases h2
theorem rcon_of {τ : Tau} {a ci N : Nat} {f : Nat → Option Nat} (h : τ a = some (.inr (.inr (ci, N, f)))) : rcon τ a = f := by unfold rcon; rw [h]
theorem upR_ne {τ : Tau} {a ci N x : Nat} {f : Nat → Option Nat} (h : x ≠ a) : upR τ a ci N f x = τ x := by unfold upR; rw [if_neg h]
theorem upR_eq {τ : Tau} {a ci N : Nat} {f : Nat → Option Nat} : upR τ a ci N f a = some (.inr (.inr (ci, N, f))) := by unfold upR; rw [if_pos rfl]
theorem copy1 {τ : Tau} {σ : Sig} {nx a r : Nat} (ha : ShX1 τ a) (hr : ShX1 τ r) (hd : a + 2 ≤ r ∨ r + 2 ≤ a) (hO : ∀ j, j < 60 → isOb τ 0 (rcon τ (r + 1) j) = true) : ∃ τ', X1_copyFrom_f τ σ nx a r = some (τ', wr σ a 0 (σ r 0), nx) ∧ (∀ x, x ≠ a + 1 → τ' x = τ x) ∧ τ' (a + 1) = some (.inr (.inr (0, 60, rcon τ' (a + 1)))) ∧ ∀ j, j < 60 → rcon τ' (a + 1) j = rcon τ (r + 1) j := by
  obtain ⟨a1, a2⟩ := ha
  obtain ⟨r1, r2⟩ := hr
  have g1 : gI τ σ 1 r 0 = some (σ r 0) := by unfold gI; rw [r1]; simp
  have d1 : dI τ σ 1 a 0 (σ r 0) = some (wr σ a 0 (σ r 0)) := by unfold dI; rw [a1]; simp
  unfold X1_copyFrom_f
  rw [g1, bsm, d1, bsm]
  generalize wr σ a 0 (σ r 0) = s
  have key := fuel_up (m := 60) (C := fun fu i => ∀ t f, (∀ x, x ≠ a + 1 → t x = τ x) → t (a + 1) = some (.inr (.inr (0, 60, f))) → (∀ j, j < i → f j = rcon τ (r + 1) j) → ∃ τ', X1_copyFrom_b10 a r fu (nI i) t s nx = some (τ', s, nx) ∧ (∀ x, x ≠ a + 1 → τ' x = τ x) ∧ τ' (a + 1) = some (.inr (.inr (0, 60, rcon τ' (a + 1)))) ∧ ∀ j, j < 60 → rcon τ' (a + 1) j = rcon τ (r + 1) j) (fun fu t f e1 e2 e3 => ?_) (fun fu i hi ih t f e1 e2 e3 => ?_) 60 0 FU (by omega) (by unfold FU; omega)
  · rw [nI_0] at key
    exact key τ _ (fun _ _ => rfl) a2 (fun j hj => absurd hj (by omega))
  · refine ⟨t, ?_, e1, by rw [rcon_of e2]; exact e2, fun j hj => by rw [rcon_of e2]; exact e3 j hj⟩
    unfold X1_copyFrom_b10
    rw [gRs_of (by rw [e1 _ (by omega)]; exact a1) rfl, bsm, lnR_of e2, bsm, if_pos (Int32.le_refl _)]
  · unfold X1_copyFrom_b10
    have er : t (r + 1) = some (.inr (.inr (0, 60, rcon τ (r + 1)))) := by rw [e1 _ (by omega)]; exact r2
    have ob : isOb t 0 (rcon τ (r + 1) i) = true := isOb_fr (hO i hi) (fun b rs e q => e1 b (fun z => by
      subst z; rw [a2] at q; cases q))
    rw [gRs_of (by rw [e1 _ (by omega)]; exact a1) rfl, bsm, lnR_of e2, bsm, if_neg (nI_ge hi (by omega)), bsm, gRs_of (by rw [e1 _ (by omega)]; exact r1) rfl, bsm, ldrD_of er hi (by decide), bsm, strD_of e2 ob hi (by decide), bsm, nI_s]
    refine ih _ _ (fun x hx => by rw [upR_ne hx]; exact e1 x hx) upR_eq (fun j hj => ?_)
    unfold va_up
    by_cases e : j = i
    · rw [if_pos e, e]
    · rw [if_neg e]; exact e3 j (by omega)

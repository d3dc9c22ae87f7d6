/-! BARGAINS: how one is made and kept. -/
theorem bt_one20 : ∀ p, p < 20 → ∀ i, i < 32 → bt ((1 : Int32) <<< (nI p &&& 31)) i = decide (i = p) := by decide +kernel
theorem bt_1q {p : Nat} (hp : p < 20) (i : Nat) : bt ((1 : Int32) <<< (nI p &&& 31)) i = decide (i = p) := by
  by_cases h : i < 32
  · exact bt_one20 p hp i h
  · rw [bt_ge _ (by omega)]; simp; omega
theorem shr20 : ∀ k, k < 20 → ((nI k &&& 31).toBitVec.smod 32).toNat = k := by decide +kernel
theorem bit_is {x : Int32} {k : Nat} (hk : k < 20) : (x >>> (nI k &&& 31)) &&& 1 = 1 ↔ bt x k = true := by
  rw [pk_and _ 1 (by decide)]
  have h1 := pk_shr x (nI k &&& 31) k (shr20 k hk)
  have h2 := i32_nat (x >>> (nI k &&& 31))
  have h4 := x.toBitVec.isLt
  have h5 : x.toInt = (x.toBitVec.toNat : Int) ∨ x.toInt = (x.toBitVec.toNat : Int) - 4294967296 := by
    have h : x.toInt = x.toBitVec.toInt := rfl
    rw [h, BitVec.toInt_eq_toNat_cond]
    split
    · exact Or.inl rfl
    · exact Or.inr rfl
  have e : bt x k = decide (x.toBitVec.toNat / 2 ^ k % 2 = 1) := by
    unfold bt
    rw [← BitVec.testBit_toNat, Nat.testBit_eq_decide_div_mod_eq]
  rw [e, decide_eq_true_iff, show (1 : Int32) = nI 1 from rfl]
  have key : (x >>> (nI k &&& 31)).toBitVec.toNat % 2 ^ 1 = x.toBitVec.toNat / 2 ^ k % 2 := by
    rw [h1, Int.shiftRight_eq_div_pow] at h2
    have hd : ((2 ^ k : Nat) : Int) ∣ 4294967296 ∧ (4294967296 / ((2 ^ k : Nat) : Int)) % 2 = 0 := by
      have : ∀ k, k < 20 → ((2 ^ k : Nat) : Int) ∣ 4294967296 ∧ (4294967296 / ((2 ^ k : Nat) : Int)) % 2 = 0 := by decide +kernel
      exact this k hk
    have hp : (0 : Int) < ((2 ^ k : Nat) : Int) := by exact_mod_cast Nat.two_pow_pos k
    have hn : ((x.toBitVec.toNat / 2 ^ k : Nat) : Int) = (x.toBitVec.toNat : Int) / ((2 ^ k : Nat) : Int) := by rw [Int.natCast_ediv]
    have hq : x.toInt / ((2 ^ k : Nat) : Int) % 2 = (x.toBitVec.toNat : Int) / ((2 ^ k : Nat) : Int) % 2 := by
      rcases h5 with h5 | h5
      · rw [h5]
      · obtain ⟨c, hc⟩ := hd.1
        have hc2 : 4294967296 / ((2 ^ k : Nat) : Int) = c := by rw [hc]; exact Int.mul_ediv_cancel_left c (Int.ne_of_gt hp)
        rw [hc2] at hd
        rw [h5, hc, Int.sub_eq_add_neg, ← Int.mul_neg, Int.add_mul_ediv_left _ _ (Int.ne_of_gt hp)]
        have := hd.2
        omega
    rw [show (2 : Nat) ^ 1 = 2 from rfl]
    omega
  constructor
  · intro z
    have := nI_inj (by have := Nat.mod_lt (x >>> (nI k &&& 31)).toBitVec.toNat (show 0 < 2 ^ 1 by decide); omega) (by decide) z
    omega
  · intro z; rw [key, z]
/-- a new bargain -/
theorem make0 {τ : Tau} {σ : Sig} {nx cap : Nat} {x1 x2 x3 : Int32} (hc : cap ≤ 40) : ∃ τ' s, X0_init_f (al τ nx (.inl (0, rsX0))) (zr σ nx) (nx + 1) nx x1 x2 x3 (nI cap) = some (τ', s, nx + 2) ∧ ShX0 τ' nx (6 * cap) ∧ (∀ x, x ≠ nx → x ≠ nx + 1 → τ' x = τ x) ∧ s nx 0 = x1 ∧ s nx 1 = x2 ∧ s nx 2 = x3 ∧ s nx 4 = 0 ∧ s nx 5 = -1 ∧ ∀ x, x ≠ nx → x ≠ nx + 1 → s x = σ x := by
  have h0 : al τ nx (.inl (0, rsX0)) nx = some (.inl (0, rsX0)) := al_eq
  have h1 : al (al τ nx (.inl (0, rsX0))) (nx + 1) (.inr (.inl (6 * cap))) nx = some (.inl (0, rsX0)) := by rw [al_ne (by omega)]; exact h0
  have h2 := setR_eq (kf := 3) (r := some (nx + 1)) h1
  have em : mmax 0 (mmin (nI cap) 40) = nI cap := by
    have e1 : mmin (nI cap) 40 = nI cap := by unfold mmin; rw [if_neg (show ¬ (40 : Int32) < nI cap from nI_nlt (a := 40) hc (by decide))]
    rw [e1]; unfold mmax
    by_cases c : (0 : Int32) < nI cap
    · rw [if_pos c]
    · rw [if_neg c]
      rcases Nat.eq_zero_or_pos cap with z | z
      · subst z; rfl
      · exact absurd (nI_lt (a := 0) z (by omega)) c
  have e6 : (nI cap * 6 : Int32) = nI (6 * cap) := by rw [show (6 : Int32) = nI 6 from rfl, pk_mul, Nat.mul_comm]
  refine ⟨setR (al (al τ nx (.inl (0, rsX0))) (nx + 1) (.inr (.inl (6 * cap)))) nx 3 (some (nx + 1)), zr (wr (wr (wr (wr (zr σ nx) nx 5 (-1)) nx 0 x1) nx 1 x2) nx 2 x3) (nx + 1), ?_, ⟨h2, ?_⟩, fun x a1 a2 => by rw [setR_ne a1, al_ne a2, al_ne a1], ?_, ?_, ?_, ?_, ?_, fun x a1 a2 => ?_⟩
  · unfold X0_init_f
    rw [dI_of h0 rfl, bsm, dI_of h0 rfl, bsm, dI_of h0 rfl, bsm, dI_of h0 rfl, bsm, em, e6, nwI_of (by omega) (by omega), bsm, dR_of h1 rfl, bsm]
  · rw [setR_ne (by omega), al_eq]
  · rw [zr_ne (by omega), wr_o (by decide), wr_o (by decide), wr_v]
  · rw [zr_ne (by omega), wr_o (by decide), wr_v]
  · rw [zr_ne (by omega), wr_v]
  · rw [zr_ne (by omega), wr_o (by decide), wr_o (by decide), wr_o (by decide), wr_o (by decide)]; exact zr_eq
  · rw [zr_ne (by omega), wr_o (by decide), wr_o (by decide), wr_o (by decide), wr_v]
  · rw [zr_ne a2, wr_row a1, wr_row a1, wr_row a1, wr_row a1, zr_ne a1]
theorem take0 {σ : Sig} {b N P t d nd : Nat} (hN : 6 * t + 6 ≤ N) (hN2 : N ≤ 240) (ht : σ b 4 = nI t) (hc : σ P 0 = nI nd) (hd : d < nd) (h40 : nd ≤ 40) (hP : P + 8 ≤ b) : ∃ s, X0_takeIn_f b N P (nI d) σ = some s ∧ s b 4 = nI (t + 1) ∧ (∀ j, j ≠ 4 → s b j = σ b j) ∧ (∀ x, x ≠ b → x ≠ b + 1 → s x = σ x) ∧ s (b + 1) (6 * t) = nI d ∧ s (b + 1) (6 * t + 1) = σ (P + 1) d ∧ s (b + 1) (6 * t + 2) = σ (P + 2) d ∧ s (b + 1) (6 * t + 3) = σ (P + 5) d ∧ s (b + 1) (6 * t + 4) = σ (P + 3) d ∧ s (b + 1) (6 * t + 5) = σ (P + 3) d ∧ ∀ k, k < 6 * t → s (b + 1) k = σ (b + 1) k := by
  have e6 : (nI t * 6 : Int32) = nI (6 * t) := by rw [show (6 : Int32) = nI 6 from rfl, pk_mul, Nat.mul_comm]
  have e0 : nI (6 * t) + 0 = nI (6 * t) := by rw [Int32.add_zero]
  have e1 : nI (6 * t) + 1 = nI (6 * t + 1) := nI_add _ 1
  have e2 : nI (6 * t) + 2 = nI (6 * t + 2) := nI_add _ 2
  have e3 : nI (6 * t) + 3 = nI (6 * t + 3) := nI_add _ 3
  have e4 : nI (6 * t) + 4 = nI (6 * t + 4) := nI_add _ 4
  have e5 : nI (6 * t) + 5 = nI (6 * t + 5) := nI_add _ 5
  have e66 : nI (6 * t) + 6 = nI (6 * t + 6) := nI_add _ 6
  have T : ∀ j, j < N → ∀ (s : Sig) (v : Int32), st N s (b + 1) (nI j) v = some (wr s (b + 1) j v) := fun j hj s v => stn hj (by omega)
  have L : ∀ f : Nat → Int32, ld 40 f (nI d) = some (f d) := fun f => ldn (by omega) (by decide)
  have q : b ≠ b + 1 := by omega
  unfold X0_takeIn_f pI
  rw [ht, e6, e66, if_neg (show ¬ Int32.ofNat N < nI (6 * t + 6) from nI_nlt hN (by omega)), has3_in h40 hc hd, bsm, if_neg n10]
  simp only [e0, e1, e2, e3, e4, e5, T (6 * t) (by omega), T (6 * t + 1) (by omega), T (6 * t + 2) (by omega), T (6 * t + 3) (by omega), T (6 * t + 4) (by omega), T (6 * t + 5) (by omega), L, bsm]
  refine ⟨_, rfl, ?_, fun j hj => ?_, fun x h1 h2 => ?_, ?_, ?_, ?_, ?_, ?_, ?_, fun k hk => ?_⟩
  · rw [wr_v, wr_row q, wr_row q, wr_row q, wr_row q, wr_row q, wr_row q, ht, nI_s]
  · rw [wr_o hj, wr_row q, wr_row q, wr_row q, wr_row q, wr_row q, wr_row q]
  · rw [wr_row h1, wr_row h2, wr_row h2, wr_row h2, wr_row h2, wr_row h2, wr_row h2]
  · rw [wr_row q.symm, wr_o (by omega), wr_o (by omega), wr_o (by omega), wr_o (by omega), wr_o (by omega), wr_v]
  · rw [wr_row q.symm, wr_o (by omega), wr_o (by omega), wr_o (by omega), wr_o (by omega), wr_v, wr_row (by omega)]
  · rw [wr_row q.symm, wr_o (by omega), wr_o (by omega), wr_o (by omega), wr_v, wr_row (by omega), wr_row (by omega)]
  · rw [wr_row q.symm, wr_o (by omega), wr_o (by omega), wr_v, wr_row (by omega), wr_row (by omega), wr_row (by omega)]
  · rw [wr_row q.symm, wr_o (by omega), wr_v, wr_row (by omega), wr_row (by omega), wr_row (by omega), wr_row (by omega)]
  · rw [wr_row q.symm, wr_v, wr_row (by omega), wr_row (by omega), wr_row (by omega), wr_row (by omega), wr_row (by omega)]
  · rw [wr_row q.symm, wr_o (by omega), wr_o (by omega), wr_o (by omega), wr_o (by omega), wr_o (by omega), wr_o (by omega)]
/-- kept: the oldest goes when there are sixty -/
def sh60 (m : Nat) : Nat := if m = 60 then 1 else 0
theorem keep1 {τ : Tau} {σ : Sig} {nx a r m : Nat} (ha : ShX1 τ a) (hm : m ≤ 60) (ec : σ a 0 = nI m) (hr : isOb τ 0 (some r) = true) (hO : ∀ j, j < 60 → isOb τ 0 (rcon τ (a + 1) j) = true) : ∃ τ', X1_keep_f τ σ nx a r = some (τ', wr σ a 0 (nI (m - sh60 m + 1)), nx) ∧ (∀ x, x ≠ a + 1 → τ' x = τ x) ∧ τ' (a + 1) = some (.inr (.inr (0, 60, rcon τ' (a + 1)))) ∧ (∀ j, j < m - sh60 m → rcon τ' (a + 1) j = rcon τ (a + 1) (j + sh60 m)) ∧ rcon τ' (a + 1) (m - sh60 m) = some r ∧ ∀ j, j < 60 → isOb τ 0 (rcon τ' (a + 1) j) = true := by
  obtain ⟨a1, a2⟩ := ha
  have obne : ∀ t : Tau, (∀ x, x ≠ a + 1 → t x = τ x) → ∀ q, isOb τ 0 q = true → isOb t 0 q = true := fun t ht q hq => isOb_fr hq (fun b rs _ z => ht b (fun e => by subst e; rw [a2] at z; cases z))
  have b43 : ∀ (t : Tau) (f : Nat → Option Nat) (s : Sig) (k : Nat), k < 60 → (∀ x, x ≠ a + 1 → t x = τ x) → t (a + 1) = some (.inr (.inr (0, 60, f))) → s a 0 = nI k → X1_keep_b43 a r t s nx = some (upR t (a + 1) 0 60 (va_up f k (some r)), wr s a 0 (nI (k + 1)), nx) := by
    intro t f s k hk h1 h2 h3
    have ta : t a = some (.inl (1, [none, some (some (a + 1))])) := by rw [h1 a (by omega)]; exact a1
    have ta' : upR t (a + 1) 0 60 (va_up f k (some r)) a = some (.inl (1, [none, some (some (a + 1))])) := by rw [upR_ne (by omega)]; exact ta
    unfold X1_keep_b43
    rw [gRs_of ta rfl, bsm, gI_of ta rfl, bsm, h3, strD_of h2 (obne t h1 _ hr) hk (by decide), bsm, gI_of ta' rfl, bsm, h3, nI_s, dI_of ta' rfl, bsm]
  have g1 : gI τ σ 1 a 0 = some (nI m) := by rw [gI_of a1 rfl, ec]
  unfold X1_keep_f
  rw [g1, bsm]
  by_cases c : m = 60
  · subst c
    have es : sh60 60 = 1 := rfl
    rw [if_neg (show ¬ nI 60 < 60 by decide), es]
    have key := fuel_up (m := 60) (C := fun fu i => 1 ≤ i → ∀ t f, (∀ x, x ≠ a + 1 → t x = τ x) → t (a + 1) = some (.inr (.inr (0, 60, f))) → (∀ j, j + 1 < i → f j = rcon τ (a + 1) (j + 1)) → (∀ j, i - 1 ≤ j → f j = rcon τ (a + 1) j) → ∃ t' f', X1_keep_b11 a r fu (nI i) t σ nx = some (upR t' (a + 1) 0 60 (va_up f' 59 (some r)), wr σ a 0 (nI 60), nx) ∧ (∀ x, x ≠ a + 1 → t' x = τ x) ∧ ∀ j, j < 60 → f' j = (if j < 59 then rcon τ (a + 1) (j + 1) else rcon τ (a + 1) j)) (fun fu h1 t f e1 e2 e3 e4 => ?_) (fun fu i hi ih h1 t f e1 e2 e3 e4 => ?_) 59 1 FU (by omega) (by unfold FU; omega)
    · obtain ⟨t', f', k1, k2, k3⟩ := key (Nat.le_refl _) τ (rcon τ (a + 1)) (fun _ _ => rfl) a2 (fun j hj => absurd hj (by omega)) (fun _ _ => rfl)
      refine ⟨_, k1, fun x hx => by rw [upR_ne hx]; exact k2 x hx, by rw [rcon_of upR_eq]; exact upR_eq, fun j hj => ?_, ?_, fun j hj => ?_⟩
      · rw [rcon_of upR_eq]; unfold va_up; rw [if_neg (by omega), k3 j (by omega), if_pos (by omega)]
      · rw [rcon_of upR_eq]; unfold va_up; rw [if_pos rfl]
      · rw [rcon_of upR_eq]; unfold va_up
        by_cases e : j = 59
        · rw [if_pos e]; exact hr
        · rw [if_neg e, k3 j hj, if_pos (by omega)]; exact hO _ (by omega)
    · have ta : t a = some (.inl (1, [none, some (some (a + 1))])) := by rw [e1 a (by omega)]; exact a1
      refine ⟨t, f, ?_, e1, fun j hj => ?_⟩
      · unfold X1_keep_b11
        rw [if_pos (show (60 : Int32) ≤ nI 60 from Int32.le_refl _), dI_of ta rfl, bsm, b43 t f (wr σ a 0 59) 59 (by decide) e1 e2 wr_v, wr_wr]
      · by_cases c : j < 59
        · rw [if_pos c]; exact e3 j (by omega)
        · rw [if_neg c]; exact e4 j (by omega)
    · have ta : t a = some (.inl (1, [none, some (some (a + 1))])) := by rw [e1 a (by omega)]; exact a1
      unfold X1_keep_b11
      have ei : nI i - 1 = nI (i - 1) := pk_sub (b := 1) (by omega)
      rw [if_neg (show ¬ (60 : Int32) ≤ nI i from nI_ge (b := 60) hi (by decide)), gRs_of ta rfl, bsm, bsm, ldrD_of e2 hi (by decide), bsm, ei, strD_of e2 (obne t e1 _ (by rw [e4 i (by omega)]; exact hO i hi)) (by omega) (by decide), bsm, nI_s]
      refine ih (by omega) _ _ (fun x hx => by rw [upR_ne hx]; exact e1 x hx) upR_eq (fun j hj => ?_) (fun j hj => ?_)
      · unfold va_up
        by_cases e : j = i - 1
        · rw [if_pos e, e4 i (by omega), e, show i - 1 + 1 = i by omega]
        · rw [if_neg e]; exact e3 j (by omega)
      · unfold va_up; rw [if_neg (by omega)]; exact e4 j (by omega)
  · have es : sh60 m = 0 := if_neg c
    rw [if_pos (show nI m < 60 from nI_lt (b := 60) (by omega) (by decide)), es, b43 τ (rcon τ (a + 1)) σ m (by omega) (fun _ _ => rfl) a2 ec]
    refine ⟨_, rfl, fun x hx => upR_ne hx, by rw [rcon_of upR_eq]; exact upR_eq, fun j hj => ?_, ?_, fun j hj => ?_⟩
    · rw [rcon_of upR_eq]; unfold va_up; rw [if_neg (by omega)]; rfl
    · rw [rcon_of upR_eq]; unfold va_up; rw [if_pos (by omega)]
    · rw [rcon_of upR_eq]; unfold va_up
      by_cases e : j = m
      · rw [if_pos e]; exact hr
      · rw [if_neg e]; exact hO j hj

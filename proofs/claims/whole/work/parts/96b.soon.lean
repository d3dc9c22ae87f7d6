/-! soonest. -/
theorem mmax_nI {a b : Nat} (ha : a < 2 ^ 31) (hb : b < 2 ^ 31) : mmax (nI a) (nI b) = nI (max a b) := by
  unfold mmax
  by_cases c : a < b
  · rw [if_pos ((nI_ltI ha hb).mpr c), show max a b = b by omega]
  · rw [if_neg (fun z => c ((nI_ltI ha hb).mp z)), show max a b = a by omega]
/-- the people who may at all -/
def chB (w : wF) (p : Nat) : Bool := decide (w (90 + 8 * p) = 1)
def mayE (w : wF) (d : Nat) : Int32 := if w (230 + 8 * d + 4) = -1 then (w (230 + 8 * d + 5) ||| ((1 : Int32) <<< (w (230 + 8 * d) &&& 31))) else ((w (230 + 8 * d + 5) ||| ((1 : Int32) <<< (w (230 + 8 * d) &&& 31))) ||| ((1 : Int32) <<< (w (230 + 8 * d + 4) &&& 31)))
theorem mayE_small {w : wF} {n nd d : Nat} (h : Rg w n nd) (hd : d < nd) : ∀ i, bt (mayE w d) i = true → i < n := by
  have h12 := h.le12
  obtain ⟨⟨k1, q1, q1'⟩, -, -, -, q5, ⟨k6, q6, q6'⟩, -⟩ := h.dok hd
  have p3 : 2 ^ n ≤ 2 ^ 12 := Nat.pow_le_pow_right (by decide) h12
  have b6 : ∀ i, bt (w (230 + 8 * d + 5)) i = true → i < n := by
    intro i hi
    rw [q6', bt_nI (by omega)] at hi
    rcases Nat.lt_or_ge i n with z | z
    · exact z
    · have := Nat.testBit_lt_two_pow (Nat.lt_of_lt_of_le q6 (Nat.pow_le_pow_right (by decide) z))
      rw [this] at hi; cases hi
  have b1 : ∀ i, bt ((1 : Int32) <<< (w (230 + 8 * d) &&& 31)) i = true → i < n := by
    intro i hi
    rw [q1', bt_1p (by omega)] at hi
    have := of_decide_eq_true hi
    omega
  intro i hi
  unfold mayE at hi
  by_cases c : w (230 + 8 * d + 4) = -1
  · rw [if_pos c, bt_or, Bool.or_eq_true] at hi
    exact hi.elim (b6 i) (b1 i)
  · rw [if_neg c, bt_or, bt_or, Bool.or_eq_true, Bool.or_eq_true] at hi
    obtain ⟨k4, hk4, e4⟩ := q5.resolve_left c
    rcases hi with (hi | hi) | hi
    · exact b6 i hi
    · exact b1 i hi
    · rw [e4, bt_1p (by omega)] at hi
      have := of_decide_eq_true hi
      omega
/-- whoever may -/
def allV (w : wF) (may : Nat → Int32) : Nat → Int32
  | 0 => 0
  | d + 1 => if w (230 + 8 * d + 2) = 0 then allV w may d else allV w may d ||| may d
theorem allV_bits {w : wF} {may : Nat → Int32} {n : Nat} : ∀ m, (∀ d, d < m → ∀ i, bt (may d) i = true → i < n) → (∀ i, bt (allV w may m) i = true → i < n) ∧ ∀ d, d < m → ¬ w (230 + 8 * d + 2) = 0 → ∀ i, bt (may d) i = true → bt (allV w may m) i = true
  | 0, _ => ⟨fun i hi => (by rw [allV, bt_0] at hi; cases hi), fun d hd => absurd hd (by omega)⟩
  | m + 1, h => by
    obtain ⟨a1, a2⟩ := allV_bits m (fun d hd => h d (by omega))
    rw [allV]
    by_cases c : w (230 + 8 * m + 2) = 0
    · rw [if_pos c]
      refine ⟨a1, fun d hd hl => ?_⟩
      rcases Nat.lt_or_ge d m with z | z
      · exact a2 d z hl
      · obtain rfl : d = m := by omega
        exact absurd c hl
    · rw [if_neg c]
      refine ⟨fun i hi => ?_, fun d hd hl i hi => ?_⟩
      · rw [bt_or, Bool.or_eq_true] at hi
        exact hi.elim (a1 i) (h m (by omega) i)
      · rw [bt_or, Bool.or_eq_true]
        rcases Nat.lt_or_ge d m with z | z
        · exact Or.inl (a2 d z hl i hi)
        · obtain rfl : d = m := by omega
          exact Or.inr hi
/-- hours left as numbers -/
def lfN (w : wF) (d : Nat) : Nat := (w (230 + 8 * d + 2)).toBitVec.toNat
theorem lfN_is {w : wF} {n nd d : Nat} (h : Rg w n nd) (hd : d < nd) : w (230 + 8 * d + 2) = nI (lfN w d) ∧ lfN w d ≤ 200 := by
  obtain ⟨-, -, ⟨k, hk, e⟩, -⟩ := h.dok hd
  refine ⟨i32_eq _, ?_⟩
  unfold lfN; rw [e, pk_tn (by omega)]; exact hk
def gN (w : wF) : Nat → Nat
  | 0 => 0
  | d + 1 => max (gN w d) (lfN w d)
def hN (w : wF) (may : Nat → Int32) (S : Int32) : Nat → Nat
  | 0 => 0
  | d + 1 => hN w may S d + (if (may d &&& (S ^^^ (-1))) = 0 then lfN w d else 0)
def tN (w : wF) : Nat → Nat
  | 0 => 0
  | d + 1 => tN w d + lfN w d
theorem gN_le {w : wF} {n nd : Nat} (h : Rg w n nd) : ∀ m, m ≤ nd → gN w m ≤ 200
  | 0, _ => by rw [gN]; omega
  | m + 1, hm => by have := gN_le h m (by omega); have := (lfN_is h (show m < nd by omega)).2; rw [gN]; omega
theorem hN_le {w : wF} {n nd : Nat} {may : Nat → Int32} {S : Int32} (h : Rg w n nd) : ∀ m, m ≤ nd → hN w may S m ≤ 200 * m
  | 0, _ => by rw [hN]; omega
  | m + 1, hm => by
    have h1 := hN_le (may := may) (S := S) h m (by omega)
    have h2 := (lfN_is h (show m < nd by omega)).2
    rw [hN]; split <;> omega
theorem tN_le {w : wF} {n nd : Nat} (h : Rg w n nd) : ∀ m, m ≤ nd → tN w m ≤ 200 * m
  | 0, _ => by rw [tN]; omega
  | m + 1, hm => by
    have h1 := tN_le h m (by omega)
    have h2 := (lfN_is h (show m < nd by omega)).2
    rw [tN]; omega
theorem sm_tN {w : wF} {n nd : Nat} (h : Rg w n nd) : ∀ m, m ≤ nd → sm (lefts w) m = nI (tN w m)
  | 0, _ => rfl
  | m + 1, hm => by
    rw [sm, tN, sm_tN h m (by omega), ← nI_add]; unfold lefts; rw [← (lfN_is h (show m < nd by omega)).1]
theorem left0 {w : wF} {n nd d : Nat} (h : Rg w n nd) (hd : d < nd) : w (230 + 8 * d + 2) = 0 ↔ lfN w d = 0 := by
  obtain ⟨e, hl⟩ := lfN_is h hd
  constructor
  · intro z; rw [z] at e; exact (nI_inj (by omega) (by omega) (e.symm.trans nI_0.symm))
  · intro z; rw [e, z]; rfl
/-- only those of whoever count -/
theorem hN_and {w : wF} {n nd : Nat} {may : Nat → Int32} {S T : Int32} (h : Rg w n nd) (m : Nat) (hm : m ≤ nd) (hb : ∀ d, d < m → ¬ w (230 + 8 * d + 2) = 0 → ∀ i, bt (may d) i = true → bt T i = true) : hN w may S m = hN w may (S &&& T) m := by
  induction m with
  | zero => rfl
  | succ m ih =>
    rw [hN, hN, ih (by omega) (fun d hd => hb d (by omega))]
    congr 1
    by_cases c0 : w (230 + 8 * m + 2) = 0
    · rw [(left0 h (by omega)).mp c0, ite_self, ite_self]
    · by_cases c : (may m &&& (S ^^^ (-1))) = 0
      · rw [if_pos c, if_pos]
        rw [sub_bits] at c ⊢
        intro i hi
        rw [bt_and, c i hi, hb m (by omega) c0 i hi]; rfl
      · rw [if_neg c, if_neg]
        intro q
        rw [sub_bits] at q
        refine c (sub_bits.mpr (fun i hi => ?_))
        have := q i hi
        rw [bt_and, Bool.and_eq_true] at this
        exact this.1
theorem hN_none {w : wF} {n nd : Nat} {may : Nat → Int32} (h : Rg w n nd) (m : Nat) (hm : m ≤ nd) (hne : ∀ d, d < m → ¬ w (230 + 8 * d + 2) = 0 → ¬ may d = 0) : hN w may 0 m = 0 := by
  induction m with
  | zero => rfl
  | succ m ih =>
    rw [hN, ih (by omega) (fun d hd => hne d (by omega))]
    by_cases c0 : w (230 + 8 * m + 2) = 0
    · rw [(left0 h (by omega)).mp c0, ite_self]
    · rw [if_neg]
      intro q
      rw [sub_bits] at q
      refine hne m (by omega) c0 (bt_ext (fun i => ?_))
      rw [bt_0]
      cases e : bt (may m) i with
      | false => rfl
      | true => have := q i e; rw [bt_0] at this; cases this
theorem hN_all {w : wF} {n nd : Nat} {may : Nat → Int32} {S : Int32} (h : Rg w n nd) (m : Nat) (hm : m ≤ nd) (hb : ∀ d, d < m → ¬ w (230 + 8 * d + 2) = 0 → ∀ i, bt (may d) i = true → bt S i = true) : hN w may S m = tN w m := by
  induction m with
  | zero => rfl
  | succ m ih =>
    rw [hN, tN, ih (by omega) (fun d hd => hb d (by omega))]
    congr 1
    by_cases c0 : w (230 + 8 * m + 2) = 0
    · rw [(left0 h (by omega)).mp c0, ite_self]
    · rw [if_pos (sub_bits.mpr (hb m (by omega) c0))]
section SO
variable {W M B n nd : Nat} {σ0 ρ0 σ ρ : Sig}
theorem cl_noCh (h : Z W M B n nd σ0 ρ0 σ ρ) : ∃ v, X4_noChildren_f (W + 1) σ = some v ∧ ∀ i, bt v i = (decide (i < n) && !chB (ρ (B + 1)) i) := by
  have h12 := h.n12
  have key := fuel_up (m := n) (C := fun fu p => ∀ x : Int32, (∀ i, bt x i = (decide (i < p) && !chB (ρ (B + 1)) i)) → ∃ v, X4_noChildren_b4 (W + 1) σ fu x (nI p) = some v ∧ ∀ i, bt v i = (decide (i < n) && !chB (ρ (B + 1)) i)) (fun fu x hx => ⟨x, ?_, hx⟩) (fun fu p hp ih x hx => ?_) n 0 FU (by omega) (by unfold FU; omega)
  · rw [nI_0] at key
    exact key 0 (fun i => by rw [bt_0, show decide (i < 0) = false by simp]; rfl)
  · unfold X4_noChildren_b4; rw [h.cn, if_pos (Int32.le_refl _)]
  · unfold X4_noChildren_b4
    rw [h.cn, if_neg (nI_ge hp (by omega)), h.p0 hp, bsm, nI_s]
    have lt : ∀ i, decide (i < p + 1) = (decide (i < p) || decide (i = p)) := fun i => by
      rw [← Bool.decide_or]; congr 1; exact propext (by omega)
    by_cases c : ρ (B + 1) (90 + 8 * p) = 1
    · rw [if_pos c]
      refine ih x (fun i => ?_)
      rw [hx i, lt]
      by_cases e : i = p
      · subst e; rw [show chB (ρ (B + 1)) i = true from decide_eq_true c]; simp
      · rw [decide_eq_false e, Bool.or_false]
    · rw [if_neg c]
      refine ih _ (fun i => ?_)
      rw [bt_or, hx i, bt_1p (by omega), lt]
      by_cases e : i = p
      · subst e; rw [show chB (ρ (B + 1)) i = false from decide_eq_false c]; simp
      · rw [decide_eq_false e, Bool.or_false, Bool.or_false]
theorem re_ch (h : Z W M B n nd σ0 ρ0 σ ρ) : ∃ c, X12_mays_f B ρ = X12_mays_b45 B FU 0 c 0 ρ ∧ ∀ i, bt c i = (decide (i < n) && chB (ρ (B + 1)) i) := by
  have h12 := h.n12
  have key := fuel_up (m := n) (C := fun fu p => ∀ x : Int32, (∀ i, bt x i = (decide (i < p) && chB (ρ (B + 1)) i)) → ∃ c, X12_mays_b6 B fu 0 x (nI p) ρ = X12_mays_b45 B FU 0 c 0 ρ ∧ ∀ i, bt c i = (decide (i < n) && chB (ρ (B + 1)) i)) (fun fu x hx => ⟨x, ?_, hx⟩) (fun fu p hp ih x hx => ?_) n 0 FU (by omega) (by unfold FU; omega)
  · rw [nI_0] at key
    exact key 0 (fun i => by rw [bt_0, show decide (i < 0) = false by simp]; rfl)
  · unfold X12_mays_b6; rw [LW.2.2.2.2.2.2.2.2.2.1, bsm, h.wn, if_pos (Int32.le_refl _)]
  · unfold X12_mays_b6
    rw [LW.2.2.2.2.2.2.2.2.2.1, bsm, h.wn, if_neg (nI_ge hp (by omega)), rO0 (by omega), bsm, nI_s]
    have lt : ∀ i, decide (i < p + 1) = (decide (i < p) || decide (i = p)) := fun i => by
      rw [← Bool.decide_or]; congr 1; exact propext (by omega)
    by_cases c : ρ (B + 1) (90 + 8 * p) = 1
    · rw [if_pos c]
      refine ih _ (fun i => ?_)
      rw [bt_or, hx i, bt_1p (by omega), lt]
      by_cases e : i = p
      · subst e; rw [show chB (ρ (B + 1)) i = true from decide_eq_true c]; simp
      · rw [decide_eq_false e, Bool.or_false, Bool.or_false]
    · rw [if_neg c]
      refine ih _ (fun i => ?_)
      rw [bt_or, bt_0, Bool.or_false, hx i, lt]
      by_cases e : i = p
      · subst e; rw [show chB (ρ (B + 1)) i = false from decide_eq_false c]; simp
      · rw [decide_eq_false e, Bool.or_false]
theorem may_same {w : wF} {v c : Int32} (h : Rg w n nd) {d : Nat} (hd : d < nd) (hv : ∀ i, bt v i = (decide (i < n) && !chB w i)) (hc : ∀ i, bt c i = (decide (i < n) && chB w i)) : (mayE w d &&& (c ^^^ (-1))) = (mayE w d &&& v) := by
  have h12 := h.le12
  refine bt_ext (fun i => ?_)
  rw [bt_and, bt_and, bt_not, hv, hc]
  cases e : bt (mayE w d) i with
  | false => rfl
  | true =>
    have := mayE_small h hd i e
    rw [decide_eq_true this, decide_eq_true (show i < 32 by omega)]
    simp

/-- the class finds who may -/
theorem cl_find (h : Z W M B n nd σ0 ρ0 σ ρ) {v : Int32} (hv : X4_noChildren_f (W + 1) σ = some v) : ∃ f s, X3_findWhoMay_f (W + 12) (W + 1) σ = some (f, s) ∧ (∀ a, a ≠ W + 20 → s a = σ a) ∧ (∀ d, d < nd → s (W + 20) d = mayE (ρ (B + 1)) d &&& v) ∧ ((f = 1 ∧ ∀ d, d < nd → ¬ ρ (B + 1) (230 + 8 * d + 2) = 0 → ¬ (mayE (ρ (B + 1)) d &&& v) = 0) ∨ (f = 0 ∧ ∃ d, d < nd ∧ ¬ ρ (B + 1) (230 + 8 * d + 2) = 0 ∧ (mayE (ρ (B + 1)) d &&& v) = 0)) := by
  have h40 := h.d40
  unfold X3_findWhoMay_f
  rw [hv, bsm]
  have key := fuel_up (m := nd) (C := fun fu d => ∀ (f : Int32) (s0 : Sig), (∀ a, a ≠ W + 20 → s0 a = σ a) → (∀ x, x < d → s0 (W + 20) x = mayE (ρ (B + 1)) x &&& v) → ((f = 1 ∧ ∀ x, x < d → ¬ ρ (B + 1) (230 + 8 * x + 2) = 0 → ¬ (mayE (ρ (B + 1)) x &&& v) = 0) ∨ (f = 0 ∧ ∃ x, x < nd ∧ ¬ ρ (B + 1) (230 + 8 * x + 2) = 0 ∧ (mayE (ρ (B + 1)) x &&& v) = 0)) → ∃ f' s, X3_findWhoMay_b10 (W + 12) (W + 1) fu v f (nI d) s0 = some (f', s) ∧ (∀ a, a ≠ W + 20 → s a = σ a) ∧ (∀ d, d < nd → s (W + 20) d = mayE (ρ (B + 1)) d &&& v) ∧ ((f' = 1 ∧ ∀ d, d < nd → ¬ ρ (B + 1) (230 + 8 * d + 2) = 0 → ¬ (mayE (ρ (B + 1)) d &&& v) = 0) ∨ (f' = 0 ∧ ∃ d, d < nd ∧ ¬ ρ (B + 1) (230 + 8 * d + 2) = 0 ∧ (mayE (ρ (B + 1)) d &&& v) = 0))) (fun fu f s0 e1 e2 e3 => ?_) (fun fu d hd ih f s0 e1 e2 e3 => ?_) nd 0 FU (by omega) (by unfold FU; omega)
  · rw [nI_0] at key
    exact key 1 σ (fun _ _ => rfl) (fun x hx => absurd hx (by omega)) (Or.inl ⟨rfl, fun x hx => absurd hx (by omega)⟩)
  · refine ⟨f, s0, ?_, e1, e2, e3⟩
    unfold X3_findWhoMay_b10
    rw [e1 _ (by omega), h.cd, if_pos (Int32.le_refl _), if_pos (by rcases e3 with z | z; exact Or.inr z.1; exact Or.inl z.1)]
  · have hz : Z W M B n nd σ0 ρ0 s0 ρ := h.scr (fun a h1 _ _ _ _ _ => e1 a h1)
    have b63 : ∀ x5 : Int32, x5 = mayE (ρ (B + 1)) d → ∃ f' s, X3_findWhoMay_b63 (W + 12) (W + 1) (X3_findWhoMay_b10 (W + 12) (W + 1) fu) v f (nI d) x5 s0 = some (f', s) ∧ (∀ a, a ≠ W + 20 → s a = σ a) ∧ (∀ d, d < nd → s (W + 20) d = mayE (ρ (B + 1)) d &&& v) ∧ ((f' = 1 ∧ ∀ d, d < nd → ¬ ρ (B + 1) (230 + 8 * d + 2) = 0 → ¬ (mayE (ρ (B + 1)) d &&& v) = 0) ∨ (f' = 0 ∧ ∃ d, d < nd ∧ ¬ ρ (B + 1) (230 + 8 * d + 2) = 0 ∧ (mayE (ρ (B + 1)) d &&& v) = 0)) := by
      intro x5 hx
      subst hx
      unfold X3_findWhoMay_b63
      rw [stn (by omega) (by decide), bsm, wr_row (show W + 12 + 3 ≠ W + 12 + 8 by omega), hz.d2 hd, bsm, ldn (by omega) (by decide), bsm, wr_v, nI_s]
      have f1 : ∀ a, a ≠ W + 20 → wr s0 (W + 12 + 8) d (mayE (ρ (B + 1)) d &&& v) a = σ a := fun a ha => by rw [wr_row (by omega)]; exact e1 a ha
      have f2 : ∀ x, x < d + 1 → wr s0 (W + 12 + 8) d (mayE (ρ (B + 1)) d &&& v) (W + 20) x = mayE (ρ (B + 1)) x &&& v := fun x hx => by
        rw [show W + 20 = W + 12 + 8 by omega]
        by_cases e : x = d
        · subst e; rw [wr_v]
        · rw [wr_o e]; exact e2 x (by omega)
      obtain ⟨el, hl⟩ := lfN_is h.g hd
      by_cases c0 : ρ (B + 1) (230 + 8 * d + 2) ≤ 0
      · rw [if_pos c0]
        have cz : ρ (B + 1) (230 + 8 * d + 2) = 0 := by
          rw [left0 h.g hd]
          rw [el] at c0
          rcases Nat.eq_zero_or_pos (lfN (ρ (B + 1)) d) with z | z
          · exact z
          · exact absurd c0 (nI_nle z (by omega))
        refine ih f _ f1 f2 (e3.imp (fun q => ⟨q.1, fun x hx hne => ?_⟩) (fun q => q))
        by_cases e : x = d
        · subst e; exact absurd cz hne
        · exact q.2 x (by omega) hne
      · rw [if_neg c0]
        have cz : ¬ ρ (B + 1) (230 + 8 * d + 2) = 0 := fun z => c0 (by rw [z]; exact Int32.le_refl _)
        by_cases cm : (mayE (ρ (B + 1)) d &&& v) = 0
        · rw [if_pos cm]
          exact ih 0 _ f1 f2 (Or.inr ⟨rfl, d, hd, cz, cm⟩)
        · rw [if_neg cm]
          refine ih f _ f1 f2 (e3.imp (fun q => ⟨q.1, fun x hx hne => ?_⟩) (fun q => q))
          by_cases e : x = d
          · subst e; exact cm
          · exact q.2 x (by omega) hne
    unfold X3_findWhoMay_b10
    rw [hz.cd, if_neg (nI_ge hd (by omega)), hz.d5 hd, bsm, hz.d0 hd, bsm, hz.d4 hd, bsm, bsm]
    by_cases c4 : ρ (B + 1) (230 + 8 * d + 4) = -1
    · rw [if_pos c4]; exact b63 _ (by unfold mayE; rw [if_pos c4])
    · rw [if_neg c4]; exact b63 _ (by unfold mayE; rw [if_neg c4])
/-- the reference finds who may -/
theorem re_mays (h : Z W M B n nd σ0 ρ0 σ ρ) {v : Int32} (hv : ∀ i, bt v i = (decide (i < n) && !chB (ρ (B + 1)) i)) : ∃ g r, X12_mays_f B ρ = some (g, r) ∧ (∀ a, a ≠ B + 9 → r a = ρ a) ∧ ((g = -1 ∧ ∃ d, d < nd ∧ ¬ ρ (B + 1) (230 + 8 * d + 2) = 0 ∧ (mayE (ρ (B + 1)) d &&& v) = 0) ∨ (g = allV (ρ (B + 1)) (fun d => mayE (ρ (B + 1)) d &&& v) nd ∧ (∀ d, d < nd → ¬ ρ (B + 1) (230 + 8 * d + 2) = 0 → ¬ (mayE (ρ (B + 1)) d &&& v) = 0) ∧ ∀ d, d < nd → ¬ ρ (B + 1) (230 + 8 * d + 2) = 0 → r (B + 9) d = mayE (ρ (B + 1)) d &&& v)) := by
  have h40 := h.d40
  obtain ⟨c, hc1, hc2⟩ := re_ch h
  rw [hc1]
  have key := fuel_up (m := nd) (C := fun fu d => ∀ (r0 : Sig), (∀ a, a ≠ B + 9 → r0 a = ρ a) → (∀ x, x < d → ¬ ρ (B + 1) (230 + 8 * x + 2) = 0 → ¬ (mayE (ρ (B + 1)) x &&& v) = 0) → (∀ x, x < d → ¬ ρ (B + 1) (230 + 8 * x + 2) = 0 → r0 (B + 9) x = mayE (ρ (B + 1)) x &&& v) → ∃ g r, X12_mays_b45 B fu (allV (ρ (B + 1)) (fun d => mayE (ρ (B + 1)) d &&& v) d) c (nI d) r0 = some (g, r) ∧ (∀ a, a ≠ B + 9 → r a = ρ a) ∧ ((g = -1 ∧ ∃ d, d < nd ∧ ¬ ρ (B + 1) (230 + 8 * d + 2) = 0 ∧ (mayE (ρ (B + 1)) d &&& v) = 0) ∨ (g = allV (ρ (B + 1)) (fun d => mayE (ρ (B + 1)) d &&& v) nd ∧ (∀ d, d < nd → ¬ ρ (B + 1) (230 + 8 * d + 2) = 0 → ¬ (mayE (ρ (B + 1)) d &&& v) = 0) ∧ ∀ d, d < nd → ¬ ρ (B + 1) (230 + 8 * d + 2) = 0 → r (B + 9) d = mayE (ρ (B + 1)) d &&& v))) (fun fu r0 e1 e2 e3 => ?_) (fun fu d hd ih r0 e1 e2 e3 => ?_) nd 0 FU (by omega) (by unfold FU; omega)
  · rw [nI_0] at key
    exact key ρ (fun _ _ => rfl) (fun x hx => absurd hx (by omega)) (fun x hx => absurd hx (by omega))
  · refine ⟨_, r0, ?_, e1, Or.inr ⟨rfl, e2, e3⟩⟩
    unfold X12_mays_b45
    rw [LW.2.2.2.2.2.2.2.2.2.2.1, bsm, e1 _ (by omega), h.wd, if_pos (Int32.le_refl _)]
  · have ew : ∀ u : Int32, wr r0 (B + 9) d u (B + 1) = ρ (B + 1) := fun u => by rw [wr_row (by omega)]; exact e1 _ (by omega)
    unfold X12_mays_b45
    rw [LW.2.2.2.2.2.2.2.2.2.2.1, bsm, e1 _ (by omega), h.wd, if_neg (nI_ge hd (by omega)), stn (by omega) (by decide), bsm, rD2 (by omega), bsm, ew, nI_s]
    have f1 : ∀ u : Int32, ∀ a, a ≠ B + 9 → wr r0 (B + 9) d u a = ρ a := fun u a ha => by rw [wr_row ha]; exact e1 a ha
    by_cases c0 : ρ (B + 1) (230 + 8 * d + 2) = 0
    · rw [if_pos c0]
      have := ih (wr r0 (B + 9) d 0) (f1 0) (fun x hx hne => ?_) (fun x hx hne => ?_)
      · rw [allV, if_pos c0] at this; exact this
      · by_cases e : x = d
        · subst e; exact absurd c0 hne
        · exact e2 x (by omega) hne
      · by_cases e : x = d
        · subst e; exact absurd c0 hne
        · rw [wr_o e]; exact e3 x (by omega) hne
    · rw [if_neg c0, rD5 (by omega), bsm, rD0 (by omega), bsm, rD4 (by omega), bsm, bsm, ew]
      have b115 : ∀ x5 : Int32, x5 = mayE (ρ (B + 1)) d → ∃ g r, X12_mays_b115 B (X12_mays_b45 B fu) (allV (ρ (B + 1)) (fun d => mayE (ρ (B + 1)) d &&& v) d) c (nI d) x5 (wr r0 (B + 9) d 0) = some (g, r) ∧ (∀ a, a ≠ B + 9 → r a = ρ a) ∧ ((g = -1 ∧ ∃ d, d < nd ∧ ¬ ρ (B + 1) (230 + 8 * d + 2) = 0 ∧ (mayE (ρ (B + 1)) d &&& v) = 0) ∨ (g = allV (ρ (B + 1)) (fun d => mayE (ρ (B + 1)) d &&& v) nd ∧ (∀ d, d < nd → ¬ ρ (B + 1) (230 + 8 * d + 2) = 0 → ¬ (mayE (ρ (B + 1)) d &&& v) = 0) ∧ ∀ d, d < nd → ¬ ρ (B + 1) (230 + 8 * d + 2) = 0 → r (B + 9) d = mayE (ρ (B + 1)) d &&& v)) := by
        intro x5 hx
        subst hx
        unfold X12_mays_b115
        rw [may_same h.g hd hv hc2, stn (by omega) (by decide), bsm, wr_wr, ldn (by omega) (by decide), bsm, bsm, wr_v, nI_s]
        by_cases cm : (mayE (ρ (B + 1)) d &&& v) = 0
        · rw [if_pos cm]
          exact ⟨_, _, rfl, f1 _, Or.inl ⟨rfl, d, hd, c0, cm⟩⟩
        · rw [if_neg cm]
          have := ih (wr r0 (B + 9) d (mayE (ρ (B + 1)) d &&& v)) (f1 _) (fun x hx hne => ?_) (fun x hx hne => ?_)
          · rw [allV, if_neg c0] at this; exact this
          · by_cases e : x = d
            · subst e; exact cm
            · exact e2 x (by omega) hne
          · by_cases e : x = d
            · subst e; rw [wr_v]
            · rw [wr_o e]; exact e3 x (by omega) hne
      by_cases c4 : ρ (B + 1) (230 + 8 * d + 4) = -1
      · rw [if_pos c4]; exact b115 _ (by unfold mayE; rw [if_pos c4])
      · rw [if_neg c4]; exact b115 _ (by unfold mayE; rw [if_neg c4])
theorem cl_great (h : Z W M B n nd σ0 ρ0 σ ρ) : X3_greatestLeft_f (W + 12) σ = some (nI (gN (ρ (B + 1)) nd)) := by
  have h40 := h.d40
  refine fuel_up (m := nd) (C := fun fu d => X3_greatestLeft_b4 (W + 12) σ fu (nI (gN (ρ (B + 1)) d)) (nI d) = some (nI (gN (ρ (B + 1)) nd))) (fun fu => ?_) (fun fu d hd ih => ?_) nd 0 FU (by omega) (by unfold FU; omega)
  · unfold X3_greatestLeft_b4; rw [h.cd, if_pos (Int32.le_refl _)]
  · obtain ⟨el, hl⟩ := lfN_is h.g hd
    have := gN_le h.g d (by omega)
    unfold X3_greatestLeft_b4
    rw [h.cd, if_neg (nI_ge hd (by omega)), h.d2 hd, bsm, nI_s, el, mmax_nI (by omega) (by omega)]
    exact ih
theorem re_great (h : Z W M B n nd σ0 ρ0 σ ρ) : X12_greatest_f B ρ = some (nI (gN (ρ (B + 1)) nd)) := by
  have h40 := h.d40
  refine fuel_up (m := nd) (C := fun fu d => X12_greatest_b4 B ρ fu (nI (gN (ρ (B + 1)) d)) (nI d) = some (nI (gN (ρ (B + 1)) nd))) (fun fu => ?_) (fun fu d hd ih => ?_) nd 0 FU (by omega) (by unfold FU; omega)
  · unfold X12_greatest_b4; rw [LW.2.2.2.2.2.2.2.2.2.2.1, bsm, h.wd, if_pos (Int32.le_refl _)]
  · obtain ⟨el, hl⟩ := lfN_is h.g hd
    have := gN_le h.g d (by omega)
    unfold X12_greatest_b4
    rw [LW.2.2.2.2.2.2.2.2.2.2.1, bsm, h.wd, if_neg (nI_ge hd (by omega)), rD2 (by omega), bsm, bsm, nI_s, el]
    rw [gN] at ih
    by_cases c : lfN (ρ (B + 1)) d ≤ gN (ρ (B + 1)) d
    · rw [if_pos ((nI_leI (by omega) (by omega)).mpr c)]; rw [show max (gN (ρ (B + 1)) d) (lfN (ρ (B + 1)) d) = gN (ρ (B + 1)) d by omega] at ih; exact ih
    · rw [if_neg (fun z => c ((nI_leI (by omega) (by omega)).mp z))]; rw [show max (gN (ρ (B + 1)) d) (lfN (ρ (B + 1)) d) = lfN (ρ (B + 1)) d by omega] at ih; exact ih
theorem cl_only (h : Z W M B n nd σ0 ρ0 σ ρ) {may : Nat → Int32} (hm : ∀ d, d < nd → σ (W + 20) d = may d) (S : Int32) : X3_hoursOnlyFor_f (W + 12) S σ = some (nI (hN (ρ (B + 1)) may S nd)) := by
  have h40 := h.d40
  refine fuel_up (m := nd) (C := fun fu d => X3_hoursOnlyFor_b4 (W + 12) σ fu S (nI (hN (ρ (B + 1)) may S d)) (nI d) = some (nI (hN (ρ (B + 1)) may S nd))) (fun fu => ?_) (fun fu d hd ih => ?_) nd 0 FU (by omega) (by unfold FU; omega)
  · unfold X3_hoursOnlyFor_b4; rw [h.cd, if_pos (Int32.le_refl _)]
  · obtain ⟨el, hl⟩ := lfN_is h.g hd
    unfold X3_hoursOnlyFor_b4
    rw [h.cd, if_neg (nI_ge hd (by omega)), ldn (by omega) (by decide), bsm, show W + 12 + 8 = W + 20 by omega, hm d hd, h.d2 hd, bsm, nI_s, el]
    rw [hN] at ih
    by_cases c : (may d &&& (S ^^^ (-1))) = 0
    · rw [if_pos c, nI_add]; rw [if_pos c] at ih; exact ih
    · rw [if_neg c]; rw [if_neg c, Nat.add_zero] at ih; exact ih
theorem re_within (h : Z W M B n nd σ0 ρ0 σ ρ) {may : Nat → Int32} (hm : ∀ d, d < nd → ¬ ρ (B + 1) (230 + 8 * d + 2) = 0 → ρ (B + 9) d = may d) (S : Int32) : X12_within_f B S ρ = some (nI (hN (ρ (B + 1)) may S nd)) := by
  have h40 := h.d40
  refine fuel_up (m := nd) (C := fun fu d => X12_within_b4 B ρ fu S (nI (hN (ρ (B + 1)) may S d)) (nI d) = some (nI (hN (ρ (B + 1)) may S nd))) (fun fu => ?_) (fun fu d hd ih => ?_) nd 0 FU (by omega) (by unfold FU; omega)
  · unfold X12_within_b4; rw [LW.2.2.2.2.2.2.2.2.2.2.1, bsm, h.wd, if_pos (Int32.le_refl _)]
  · obtain ⟨el, hl⟩ := lfN_is h.g hd
    unfold X12_within_b4
    rw [LW.2.2.2.2.2.2.2.2.2.2.1, bsm, h.wd, if_neg (nI_ge hd (by omega)), rD2 (by omega), bsm, bsm, nI_s, Int32.add_zero]
    rw [hN] at ih
    by_cases c0 : ρ (B + 1) (230 + 8 * d + 2) = 0
    · rw [if_pos (by rw [c0]; exact Int32.le_refl _)]
      rw [(left0 h.g hd).mp c0, ite_self, Nat.add_zero] at ih; exact ih
    · have cz : ¬ ρ (B + 1) (230 + 8 * d + 2) ≤ 0 := by
        rw [el]
        refine nI_nle (Nat.pos_of_ne_zero (fun z => c0 ((left0 h.g hd).mpr z))) (by omega)
      rw [if_neg cz, ldn (by omega) (by decide), bsm, hm d hd c0, el]
      by_cases c : (may d &&& (S ^^^ (-1))) = 0
      · rw [if_pos c, nI_add]; rw [if_pos c] at ih; exact ih
      · rw [if_neg c]; rw [if_neg c, Nat.add_zero] at ih; exact ih
end SO

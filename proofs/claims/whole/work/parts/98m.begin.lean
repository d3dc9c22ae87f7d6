/-! BARGAINS of the reference. -/
section BG
variable {B m nd : Nat} {ρ : Sig}
/-- the place of the new one -/
def bs (m : Nat) : Nat := 7880 + 206 * (m - sh60 m)
theorem bs_le (hm : m ≤ 60) : bs m + 206 ≤ 20240 := by
  unfold bs sh60; split <;> omega
theorem re_b160 {payer payee price : Int32} {k : Nat} (hk : 7880 ≤ k) (hk2 : k + 206 ≤ 20240) (h40 : nd ≤ 40) (h10 : ρ (B + 1) 10 = nI nd) (h22 : ρ B 22 = nI k) : ∃ r, X12_begins_b160 B FU payer payee price 0 ρ = (X12_pays_f B payer payee price r).bind (fun s => some s) ∧ (∀ x, x ≠ B + 1 → r x = ρ x) ∧ (∀ j, (j < k + 6 ∨ k + 6 + 4 * nd ≤ j) → r (B + 1) j = ρ (B + 1) j) ∧ ∀ d, d < nd → r (B + 1) (k + 6 + 4 * d) = ρ (B + 1) (230 + 8 * d) ∧ r (B + 1) (k + 6 + 4 * d + 1) = ρ (B + 1) (230 + 8 * d + 1) ∧ r (B + 1) (k + 6 + 4 * d + 2) = ρ (B + 1) (230 + 8 * d + 4) ∧ r (B + 1) (k + 6 + 4 * d + 3) = ρ (B + 1) (230 + 8 * d + 2) := by
  have key := fuel_up (m := nd) (C := fun fu d => ∀ r0 : Sig, (∀ x, x ≠ B + 1 → r0 x = ρ x) → (∀ j, (j < k + 6 ∨ k + 6 + 4 * d ≤ j) → r0 (B + 1) j = ρ (B + 1) j) → (∀ x, x < d → r0 (B + 1) (k + 6 + 4 * x) = ρ (B + 1) (230 + 8 * x) ∧ r0 (B + 1) (k + 6 + 4 * x + 1) = ρ (B + 1) (230 + 8 * x + 1) ∧ r0 (B + 1) (k + 6 + 4 * x + 2) = ρ (B + 1) (230 + 8 * x + 4) ∧ r0 (B + 1) (k + 6 + 4 * x + 3) = ρ (B + 1) (230 + 8 * x + 2)) → ∃ r, X12_begins_b160 B fu payer payee price (nI d) r0 = (X12_pays_f B payer payee price r).bind (fun s => some s) ∧ (∀ x, x ≠ B + 1 → r x = ρ x) ∧ (∀ j, (j < k + 6 ∨ k + 6 + 4 * nd ≤ j) → r (B + 1) j = ρ (B + 1) j) ∧ ∀ d, d < nd → r (B + 1) (k + 6 + 4 * d) = ρ (B + 1) (230 + 8 * d) ∧ r (B + 1) (k + 6 + 4 * d + 1) = ρ (B + 1) (230 + 8 * d + 1) ∧ r (B + 1) (k + 6 + 4 * d + 2) = ρ (B + 1) (230 + 8 * d + 4) ∧ r (B + 1) (k + 6 + 4 * d + 3) = ρ (B + 1) (230 + 8 * d + 2)) (fun fu r0 e1 e2 e3 => ⟨r0, ?_, e1, e2, e3⟩) (fun fu d hd ih r0 e1 e2 e3 => ?_) nd 0 FU (by omega) (by unfold FU; omega)
  · rw [nI_0] at key
    exact key ρ (fun _ _ => rfl) (fun _ _ => rfl) (fun x hx => absurd hx (by omega))
  · unfold X12_begins_b160
    rw [LW.2.2.2.2.2.2.2.2.2.2.1, bsm, e2 10 (by omega), h10, if_pos (Int32.le_refl _)]
  · have ei : (nI k + 6 + 4 * nI d : Int32) = nI (k + 6 + 4 * d) := by rw [show (6 : Int32) = nI 6 from rfl, show (4 : Int32) = nI 4 from rfl, pk_mul, nI_add, nI_add]
    have i1 : nI (k + 6 + 4 * d) + 1 = nI (k + 6 + 4 * d + 1) := nI_add _ 1
    have i2 : nI (k + 6 + 4 * d) + 2 = nI (k + 6 + 4 * d + 2) := nI_add _ 2
    have i3 : nI (k + 6 + 4 * d) + 3 = nI (k + 6 + 4 * d + 3) := nI_add _ 3
    have T : ∀ j, j < 20240 → ∀ (s : Sig) (v : Int32), st 20240 s (B + 1) (nI j) v = some (wr s (B + 1) j v) := fun j hj s v => stn hj (by decide)
    have hd' : d < 40 := by omega
    unfold X12_begins_b160
    rw [LW.2.2.2.2.2.2.2.2.2.2.1, bsm, e2 10 (by omega), h10, if_neg (nI_ge hd (by omega)), e1 B (by omega), h22, ei, i1, i2, i3]
    simp only [rD0 hd', rD1 hd', rD4 hd', rD2 hd', T (k + 6 + 4 * d) (by omega), T (k + 6 + 4 * d + 1) (by omega), T (k + 6 + 4 * d + 2) (by omega), T (k + 6 + 4 * d + 3) (by omega), bsm, nI_s]
    refine ih _ (fun x hx => by rw [wr_row hx, wr_row hx, wr_row hx, wr_row hx]; exact e1 x hx) (fun j hj => by rw [wr_o (by omega), wr_o (by omega), wr_o (by omega), wr_o (by omega)]; exact e2 j (by omega)) (fun x hx => ?_)
    by_cases e : x = d
    · subst e
      refine ⟨?_, ?_, ?_, ?_⟩
      · rw [wr_o (by omega), wr_o (by omega), wr_o (by omega), wr_v, e2 _ (by omega)]
      · rw [wr_o (by omega), wr_o (by omega), wr_v, wr_o (by omega), e2 _ (by omega)]
      · rw [wr_o (by omega), wr_v, wr_o (by omega), wr_o (by omega), e2 _ (by omega)]
      · rw [wr_v, wr_o (by omega), wr_o (by omega), wr_o (by omega), e2 _ (by omega)]
    · obtain ⟨q1, q2, q3, q4⟩ := e3 x (by omega)
      refine ⟨?_, ?_, ?_, ?_⟩
      · rw [wr_o (by omega), wr_o (by omega), wr_o (by omega), wr_o (by omega)]; exact q1
      · rw [wr_o (by omega), wr_o (by omega), wr_o (by omega), wr_o (by omega)]; exact q2
      · rw [wr_o (by omega), wr_o (by omega), wr_o (by omega), wr_o (by omega)]; exact q3
      · rw [wr_o (by omega), wr_o (by omega), wr_o (by omega), wr_o (by omega)]; exact q4
theorem re_begins {payer payee price : Int32} (hm : m ≤ 60) (h16 : ρ (B + 1) 16 = nI m) (h40 : nd ≤ 40) (h10 : ρ (B + 1) 10 = nI nd) : ∃ r, X12_begins_f B payer payee price ρ = (X12_pays_f B payer payee price r).bind (fun s => some s) ∧ r B 22 = nI (bs m) ∧ (∀ j, j ≠ 22 → r B j = ρ B j) ∧ (∀ x, x ≠ B → x ≠ B + 1 → r x = ρ x) ∧ r (B + 1) 16 = nI (m - sh60 m) ∧ (∀ j, j < 7880 → j ≠ 16 → r (B + 1) j = ρ (B + 1) j) ∧ (∀ j i, j < m - sh60 m → i < 206 → r (B + 1) (7880 + 206 * j + i) = ρ (B + 1) (7880 + 206 * (j + sh60 m) + i)) ∧ r (B + 1) (bs m) = payer ∧ r (B + 1) (bs m + 1) = payee ∧ r (B + 1) (bs m + 2) = price ∧ r (B + 1) (bs m + 3) = nI nd ∧ r (B + 1) (bs m + 4) = 0 ∧ r (B + 1) (bs m + 5) = 0 ∧ ∀ d, d < nd → r (B + 1) (bs m + 6 + 4 * d) = ρ (B + 1) (230 + 8 * d) ∧ r (B + 1) (bs m + 6 + 4 * d + 1) = ρ (B + 1) (230 + 8 * d + 1) ∧ r (B + 1) (bs m + 6 + 4 * d + 2) = ρ (B + 1) (230 + 8 * d + 4) ∧ r (B + 1) (bs m + 6 + 4 * d + 3) = ρ (B + 1) (230 + 8 * d + 2) := by
  have hb := bs_le hm
  have q : B ≠ B + 1 := by omega
  have T : ∀ j, j < 20240 → ∀ (s : Sig) (v : Int32), st 20240 s (B + 1) (nI j) v = some (wr s (B + 1) j v) := fun j hj s v => stn hj (by decide)
  -- the head, from a row that has room
  have b60 : ∀ s0 : Sig, (∀ x, x ≠ B + 1 → s0 x = ρ x) → s0 (B + 1) 16 = nI (m - sh60 m) → (∀ j, j < 7880 → j ≠ 16 → s0 (B + 1) j = ρ (B + 1) j) → (∀ j i, j < m - sh60 m → i < 206 → s0 (B + 1) (7880 + 206 * j + i) = ρ (B + 1) (7880 + 206 * (j + sh60 m) + i)) → ∃ r, X12_begins_b60 B payer payee price s0 = (X12_pays_f B payer payee price r).bind (fun s => some s) ∧ r B 22 = nI (bs m) ∧ (∀ j, j ≠ 22 → r B j = ρ B j) ∧ (∀ x, x ≠ B → x ≠ B + 1 → r x = ρ x) ∧ r (B + 1) 16 = nI (m - sh60 m) ∧ (∀ j, j < 7880 → j ≠ 16 → r (B + 1) j = ρ (B + 1) j) ∧ (∀ j i, j < m - sh60 m → i < 206 → r (B + 1) (7880 + 206 * j + i) = ρ (B + 1) (7880 + 206 * (j + sh60 m) + i)) ∧ r (B + 1) (bs m) = payer ∧ r (B + 1) (bs m + 1) = payee ∧ r (B + 1) (bs m + 2) = price ∧ r (B + 1) (bs m + 3) = nI nd ∧ r (B + 1) (bs m + 4) = 0 ∧ r (B + 1) (bs m + 5) = 0 ∧ ∀ d, d < nd → r (B + 1) (bs m + 6 + 4 * d) = ρ (B + 1) (230 + 8 * d) ∧ r (B + 1) (bs m + 6 + 4 * d + 1) = ρ (B + 1) (230 + 8 * d + 1) ∧ r (B + 1) (bs m + 6 + 4 * d + 2) = ρ (B + 1) (230 + 8 * d + 4) ∧ r (B + 1) (bs m + 6 + 4 * d + 3) = ρ (B + 1) (230 + 8 * d + 2) := by
    intro s0 f1 f2 f3 f4
    have ei : (7880 + 206 * nI (m - sh60 m) : Int32) = nI (bs m) := by rw [show (7880 : Int32) = nI 7880 from rfl, show (206 : Int32) = nI 206 from rfl, pk_mul, nI_add]; rfl
    have i0 : nI (bs m) + 0 = nI (bs m) := Int32.add_zero _
    have i1 : nI (bs m) + 1 = nI (bs m + 1) := nI_add _ 1
    have i2 : nI (bs m) + 2 = nI (bs m + 2) := nI_add _ 2
    have i3 : nI (bs m) + 3 = nI (bs m + 3) := nI_add _ 3
    have i4 : nI (bs m) + 4 = nI (bs m + 4) := nI_add _ 4
    have i5 : nI (bs m) + 5 = nI (bs m + 5) := nI_add _ 5
    have hbs : 7880 ≤ bs m := by unfold bs; omega
    unfold X12_begins_b60 pI
    rw [LW.2.2.2.2.2.2.2.2.2.2.2.2.2.2.2.2, bsm, f2, ei]
    simp only [bsm, wr_v, wr_row q, i0, i1, i2, i3, i4, i5, T (bs m) (by omega), T (bs m + 1) (by omega), T (bs m + 2) (by omega), T (bs m + 3) (by omega), T (bs m + 4) (by omega), T (bs m + 5) (by omega), LW]
    have e10 : wr (wr (wr (wr s0 B 22 (nI (bs m))) (B + 1) (bs m) payer) (B + 1) (bs m + 1) payee) (B + 1) (bs m + 2) price (B + 1) 10 = nI nd := by
      rw [wr_o (by omega), wr_o (by omega), wr_o (by omega), wr_row q.symm, f3 10 (by decide) (by decide)]; exact h10
    rw [e10]
    have lo : ∀ j, j < bs m → wr (wr (wr (wr (wr (wr (wr s0 B 22 (nI (bs m))) (B + 1) (bs m) payer) (B + 1) (bs m + 1) payee) (B + 1) (bs m + 2) price) (B + 1) (bs m + 3) (nI nd)) (B + 1) (bs m + 4) 0) (B + 1) (bs m + 5) 0 (B + 1) j = s0 (B + 1) j := fun j hj => by
      rw [wr_o (by omega), wr_o (by omega), wr_o (by omega), wr_o (by omega), wr_o (by omega), wr_o (by omega), wr_row q.symm]
    obtain ⟨r, r1, r2, r3, r4⟩ := re_b160 (B := B) (payer := payer) (payee := payee) (price := price) (k := bs m) (nd := nd) hbs hb h40 (ρ := wr (wr (wr (wr (wr (wr (wr s0 B 22 (nI (bs m))) (B + 1) (bs m) payer) (B + 1) (bs m + 1) payee) (B + 1) (bs m + 2) price) (B + 1) (bs m + 3) (nI nd)) (B + 1) (bs m + 4) 0) (B + 1) (bs m + 5) 0) (by rw [lo 10 (by omega), f3 10 (by decide) (by decide)]; exact h10) (by rw [wr_row q, wr_row q, wr_row q, wr_row q, wr_row q, wr_row q, wr_v])
    refine ⟨r, r1, ?_, fun j hj => ?_, fun x h1 h2 => ?_, ?_, fun j h1 h2 => ?_, fun j i h1 h2 => ?_, ?_, ?_, ?_, ?_, ?_, ?_, fun d hd => ?_⟩
    · rw [r2 B q, wr_row q, wr_row q, wr_row q, wr_row q, wr_row q, wr_row q, wr_v]
    · rw [r2 B q, wr_row q, wr_row q, wr_row q, wr_row q, wr_row q, wr_row q, wr_o hj, f1 B q]
    · rw [r2 x h2, wr_row h2, wr_row h2, wr_row h2, wr_row h2, wr_row h2, wr_row h2, wr_row h1, f1 x h2]
    · rw [r3 16 (by omega), lo 16 (by omega)]; exact f2
    · rw [r3 j (by omega), lo j (by omega)]; exact f3 j h1 h2
    · have : 7880 + 206 * j + i < bs m := by unfold bs; omega
      rw [r3 _ (by omega), lo _ this]; exact f4 j i h1 h2
    · rw [r3 _ (by omega), wr_o (by omega), wr_o (by omega), wr_o (by omega), wr_o (by omega), wr_o (by omega), wr_v]
    · rw [r3 _ (by omega), wr_o (by omega), wr_o (by omega), wr_o (by omega), wr_o (by omega), wr_v]
    · rw [r3 _ (by omega), wr_o (by omega), wr_o (by omega), wr_o (by omega), wr_v]
    · rw [r3 _ (by omega), wr_o (by omega), wr_o (by omega), wr_v]
    · rw [r3 _ (by omega), wr_o (by omega), wr_v]
    · rw [r3 _ (by omega), wr_v]
    · obtain ⟨q1, q2, q3, q4⟩ := r4 d hd
      rw [lo _ (by omega), f3 _ (by omega) (by omega)] at q1 q2 q3 q4
      exact ⟨q1, q2, q3, q4⟩
  unfold X12_begins_f
  rw [LW.2.2.2.2.2.2.2.2.2.2.2.2.2.2.2.2, bsm, h16]
  by_cases c : m = 60
  · subst c
    rw [if_pos (show nI 60 = 60 from rfl)]
    have key := fuel_up (m := 20034) (C := fun fu k => 7880 ≤ k → ∀ r0 : Sig, (∀ x, x ≠ B + 1 → r0 x = ρ x) → (∀ j, 7880 ≤ j → j < k → r0 (B + 1) j = ρ (B + 1) (j + 206)) → (∀ j, (j < 7880 ∨ k ≤ j) → r0 (B + 1) j = ρ (B + 1) j) → ∃ s0, X12_begins_b17 B fu payer payee price (nI k) r0 = X12_begins_b60 B payer payee price s0 ∧ (∀ x, x ≠ B + 1 → s0 x = ρ x) ∧ s0 (B + 1) 16 = nI 59 ∧ (∀ j, j < 7880 → j ≠ 16 → s0 (B + 1) j = ρ (B + 1) j) ∧ ∀ j, 7880 ≤ j → j < 20034 → s0 (B + 1) j = ρ (B + 1) (j + 206)) (fun fu h1 r0 e1 e2 e3 => ?_) (fun fu k hk ih h1 r0 e1 e2 e3 => ?_) (20034 - 7880) 7880 FU (by omega) (by unfold FU; omega)
    · obtain ⟨s0, k1, k2, k3, k4, k5⟩ := key (Nat.le_refl _) ρ (fun _ _ => rfl) (fun j h1 h2 => absurd h1 (by omega)) (fun _ _ => rfl)
      obtain ⟨r, hr⟩ := b60 s0 k2 k3 k4 (fun j i h1 h2 => by
        have h1 : j < 59 := h1
        rw [k5 _ (by omega) (by omega)]
        have : sh60 60 = 1 := rfl
        rw [this, show 7880 + 206 * j + i + 206 = 7880 + 206 * (j + 1) + i by omega])
      exact ⟨r, by rw [← hr.1]; exact k1, hr.2⟩
    · refine ⟨wr r0 (B + 1) 16 (nI 59), ?_, fun x hx => by rw [wr_row hx]; exact e1 x hx, wr_v, fun j h1 h2 => by rw [wr_o h2]; exact e3 j (by omega), fun j h1 h2 => by rw [wr_o (by omega)]; exact e2 j h1 h2⟩
      unfold X12_begins_b17
      rw [if_pos (show (20034 : Int32) ≤ nI 20034 from Int32.le_refl _), LW.2.2.2.2.2.2.2.2.2.2.2.2.2.2.2.2, bsm, e3 16 (by omega), h16, show nI 60 - 1 = nI 59 from rfl, SW.2.2.2.2.2.2.2.2.2.2.2.2, bsm]
    · unfold X12_begins_b17
      rw [if_neg (show ¬ (20034 : Int32) ≤ nI k from nI_ge (b := 20034) hk (by decide)), show nI k + 206 = nI (k + 206) from nI_add k 206, ldn (by omega) (by decide), bsm, T k (by omega), bsm, nI_s]
      refine ih (by omega) _ (fun x hx => by rw [wr_row hx]; exact e1 x hx) (fun j h1 h2 => ?_) (fun j hj => by rw [wr_o (by omega)]; exact e3 j (by omega))
      by_cases e : j = k
      · subst e; rw [wr_v]; exact e3 _ (by omega)
      · rw [wr_o e]; exact e2 j h1 (by omega)
  · have es : sh60 m = 0 := if_neg c
    rw [if_neg (show ¬ nI m = 60 from fun z => c (nI_inj (b := 60) (by omega) (by decide) z))]
    refine b60 ρ (fun _ _ => rfl) (by rw [es]; exact h16) (fun _ _ _ => rfl) (fun j i _ _ => by rw [es]; rfl)
theorem re_isOf {d k : Nat} (hd : d < 40) (hk : k + 206 ≤ 20240) (h22 : ρ B 22 = nI k) : X12_isOf_f B (nI d) ρ = some (wr ρ (B + 1) (k + (if d < 20 then 4 else 5)) (ρ (B + 1) (k + (if d < 20 then 4 else 5)) ||| ((1 : Int32) <<< (nI (d % 20) &&& 31)))) := by
  have er : (nI d - nI d / 20 * 20 : Int32) = nI (d % 20) := pk_rem (a := d) (d := 20) (by omega) (by decide) (by decide)
  have i4 : nI k + 4 = nI (k + 4) := nI_add k 4
  have i5 : nI k + 5 = nI (k + 5) := nI_add k 5
  unfold X12_isOf_f X12_isOf_b19
  rw [h22, er, i4, i5]
  by_cases c : d < 20
  · rw [if_neg (show ¬ (20 : Int32) ≤ nI d from nI_ge (b := 20) c (by decide)), if_pos c, ldn (by omega) (by decide), bsm, stn (by omega) (by decide), bsm]
  · rw [if_pos (show (20 : Int32) ≤ nI d from nI_le (a := 20) (by omega) (by omega)), if_neg c, ldn (by omega) (by decide), bsm, stn (by omega) (by decide), bsm]
theorem re_ends {k m' : Nat} (hk : 7880 ≤ k) (hk2 : k + 206 ≤ 20240) (h40 : nd ≤ 40) (h10 : ρ (B + 1) 10 = nI nd) (h16 : ρ (B + 1) 16 = nI m') (h22 : ρ B 22 = nI k) : ∃ r, X12_ends_f B ρ = some r ∧ (∀ x, x ≠ B + 1 → r x = ρ x) ∧ r (B + 1) 16 = nI (m' + 1) ∧ (∀ j, j ≠ 16 → (j < k + 166 ∨ k + 166 + nd ≤ j) → r (B + 1) j = ρ (B + 1) j) ∧ ∀ d, d < nd → r (B + 1) (k + 166 + d) = ρ (B + 1) (230 + 8 * d + 2) := by
  have key := fuel_up (m := nd) (C := fun fu d => ∀ r0 : Sig, (∀ x, x ≠ B + 1 → r0 x = ρ x) → (∀ j, (j < k + 166 ∨ k + 166 + d ≤ j) → r0 (B + 1) j = ρ (B + 1) j) → (∀ x, x < d → r0 (B + 1) (k + 166 + x) = ρ (B + 1) (230 + 8 * x + 2)) → ∃ r, X12_ends_b2 B fu (nI d) r0 = some r ∧ (∀ x, x ≠ B + 1 → r x = ρ x) ∧ r (B + 1) 16 = nI (m' + 1) ∧ (∀ j, j ≠ 16 → (j < k + 166 ∨ k + 166 + nd ≤ j) → r (B + 1) j = ρ (B + 1) j) ∧ ∀ d, d < nd → r (B + 1) (k + 166 + d) = ρ (B + 1) (230 + 8 * d + 2)) (fun fu r0 e1 e2 e3 => ?_) (fun fu d hd ih r0 e1 e2 e3 => ?_) nd 0 FU (by omega) (by unfold FU; omega)
  · rw [nI_0] at key
    exact key ρ (fun _ _ => rfl) (fun _ _ => rfl) (fun x hx => absurd hx (by omega))
  · refine ⟨wr r0 (B + 1) 16 (nI (m' + 1)), ?_, fun x hx => by rw [wr_row hx]; exact e1 x hx, wr_v, fun j h1 h2 => by rw [wr_o h1]; exact e2 j h2, fun d hd => by rw [wr_o (by omega)]; exact e3 d hd⟩
    unfold X12_ends_b2
    rw [LW.2.2.2.2.2.2.2.2.2.2.1, bsm, e2 10 (by omega), h10, if_pos (Int32.le_refl _), LW.2.2.2.2.2.2.2.2.2.2.2.2.2.2.2.2, bsm, e2 16 (by omega), h16, nI_s, SW.2.2.2.2.2.2.2.2.2.2.2.2, bsm]
  · have ei : (nI k + 166 + nI d : Int32) = nI (k + 166 + d) := by rw [show (166 : Int32) = nI 166 from rfl, nI_add, nI_add]
    unfold X12_ends_b2
    rw [LW.2.2.2.2.2.2.2.2.2.2.1, bsm, e2 10 (by omega), h10, if_neg (nI_ge hd (by omega)), rD2 (by omega), bsm, e1 B (by omega), h22, ei, stn (by omega) (by decide), bsm, nI_s]
    refine ih _ (fun x hx => by rw [wr_row hx]; exact e1 x hx) (fun j hj => by rw [wr_o (by omega)]; exact e2 j (by omega)) (fun x hx => ?_)
    by_cases e : x = d
    · subst e; rw [wr_v, e2 _ (by omega)]
    · rw [wr_o (by omega)]; exact e3 x (by omega)
end BG

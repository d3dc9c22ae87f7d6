/-! split. -/
theorem add3 {P nd : Nat} {a b c : Int32} {σ : Sig} (hc : σ P 0 = nI nd) (hd : nd < 40) : X3_add_f P a b c σ = some (nI nd, debC P nd a b c σ) := by
  have s40 : ∀ (s : Sig) (a : Nat) (v : Int32), st 40 s a (nI nd) v = some (wr s a nd v) := fun s a v => stn hd (by decide)
  unfold X3_add_f
  rw [hc, if_pos (show nI nd < 40 from nI_lt (b := 40) hd (by decide))]
  simp only [s40, bsm, pI]
  unfold debC
  rw [wr_row (show P ≠ P + 7 by omega), wr_row (show P ≠ P + 6 by omega), wr_row (show P ≠ P + 5 by omega), wr_row (show P ≠ P + 4 by omega), wr_row (show P ≠ P + 3 by omega), wr_row (show P ≠ P + 2 by omega), wr_row (show P ≠ P + 1 by omega), hc, nI_s]
theorem bits_add {w : wF} {k d : Nat} {ds : List Nat} (hd : d < 40) (h : ∀ y, y < 40 → (bt (w (k + (if y < 20 then 4 else 5))) (y % 20) = true ↔ y ∈ ds)) (y : Nat) (hy : y < 40) : bt (upd w (k + (if d < 20 then 4 else 5)) (w (k + (if d < 20 then 4 else 5)) ||| ((1 : Int32) <<< (nI (d % 20) &&& 31))) (k + (if y < 20 then 4 else 5))) (y % 20) = true ↔ y ∈ ds ++ [d] := by
  by_cases e : k + (if y < 20 then 4 else 5) = k + (if d < 20 then 4 else 5)
  · rw [e, upd_eq, bt_or, bt_1q (Nat.mod_lt _ (by decide)), ← e, Bool.or_eq_true, h y hy, decide_eq_true_iff, List.mem_append, List.mem_singleton]
    have : y % 20 = d % 20 ↔ y = d := by
      constructor
      · intro z; split at e <;> split at e <;> omega
      · intro z; rw [z]
    rw [this]
  · rw [upd_ne e, h y hy, List.mem_append, List.mem_singleton]
    constructor
    · exact Or.inl
    · rintro (z | rfl)
      · exact z
      · exact absurd rfl e
def splW (nd d : Nat) (x2 : Int32) (w : wF) : wF := fun j => if j = 10 then nI (nd + 1) else if j = 230 + 8 * d + 2 then w j - x2 else if j = 230 + 8 * nd + 2 then x2 else if j = 230 + 8 * nd + 3 ∨ j = 230 + 8 * nd + 6 then 0 else if 230 + 8 * nd ≤ j ∧ j < 230 + 8 * nd + 8 then w (j - 8 * (nd - d)) else w j
theorem splW_o {nd d j : Nat} {x2 : Int32} {w : wF} (h1 : j ≠ 10) (h2 : j ≠ 230 + 8 * d + 2) (h3 : j < 230 + 8 * nd ∨ 230 + 8 * nd + 8 ≤ j) : splW nd d x2 w j = w j := by
  unfold splW; rw [if_neg h1, if_neg h2, if_neg (by omega), if_neg (by omega), if_neg (by omega)]
theorem splW_v {nd d : Nat} {x2 : Int32} {w : wF} (hd : d < nd) : splW nd d x2 w (230 + 8 * nd) = w (230 + 8 * d) ∧ splW nd d x2 w (230 + 8 * nd + 1) = w (230 + 8 * d + 1) ∧ splW nd d x2 w (230 + 8 * nd + 2) = x2 ∧ splW nd d x2 w (230 + 8 * nd + 3) = 0 ∧ splW nd d x2 w (230 + 8 * nd + 4) = w (230 + 8 * d + 4) ∧ splW nd d x2 w (230 + 8 * nd + 5) = w (230 + 8 * d + 5) ∧ splW nd d x2 w (230 + 8 * nd + 6) = 0 ∧ splW nd d x2 w 10 = nI (nd + 1) ∧ splW nd d x2 w (230 + 8 * d + 2) = w (230 + 8 * d + 2) - x2 := by
  unfold splW
  refine ⟨?_, ?_, ?_, ?_, ?_, ?_, ?_, if_pos rfl, ?_⟩
  · rw [if_neg (by omega), if_neg (by omega), if_neg (by omega), if_neg (by omega), if_pos (by omega)]; exact congrArg w (by omega)
  · rw [if_neg (by omega), if_neg (by omega), if_neg (by omega), if_neg (by omega), if_pos (by omega)]; exact congrArg w (by omega)
  · rw [if_neg (by omega), if_neg (by omega), if_pos rfl]
  · rw [if_neg (by omega), if_neg (by omega), if_neg (by omega), if_pos (by omega)]
  · rw [if_neg (by omega), if_neg (by omega), if_neg (by omega), if_neg (by omega), if_pos (by omega)]; exact congrArg w (by omega)
  · rw [if_neg (by omega), if_neg (by omega), if_neg (by omega), if_neg (by omega), if_pos (by omega)]; exact congrArg w (by omega)
  · rw [if_neg (by omega), if_neg (by omega), if_neg (by omega), if_pos (by omega)]
  · rw [if_neg (by omega), if_pos rfl]
theorem splW_eq {nd d j : Nat} {x2 : Int32} {w : wF} (hd : d < nd) (h7 : j ≠ 230 + 8 * nd + 7) : splW nd d x2 w j = upd (upd (debW nd (w (230 + 8 * d)) (w (230 + 8 * d + 1)) x2 (upd w (230 + 8 * d + 2) (w (230 + 8 * d + 2) - x2))) (230 + 8 * nd + 4) (w (230 + 8 * d + 4))) (230 + 8 * nd + 5) (w (230 + 8 * d + 5)) j := by
  obtain ⟨u0, u1, u2, u3, u4, u5, u6, u10⟩ := @debW_v nd (w (230 + 8 * d)) (w (230 + 8 * d + 1)) x2 (upd w (230 + 8 * d + 2) (w (230 + 8 * d + 2) - x2))
  obtain ⟨v0, v1, v2, v3, v4, v5, v6, v10, vd⟩ := @splW_v nd d x2 w hd
  by_cases c : 230 + 8 * nd ≤ j ∧ j ≤ 230 + 8 * nd + 6
  · have : j = 230 + 8 * nd ∨ j = 230 + 8 * nd + 1 ∨ j = 230 + 8 * nd + 2 ∨ j = 230 + 8 * nd + 3 ∨ j = 230 + 8 * nd + 4 ∨ j = 230 + 8 * nd + 5 ∨ j = 230 + 8 * nd + 6 := by omega
    rcases this with rfl | rfl | rfl | rfl | rfl | rfl | rfl
    · rw [v0, upd_ne (by omega), upd_ne (by omega), u0]
    · rw [v1, upd_ne (by omega), upd_ne (by omega), u1]
    · rw [v2, upd_ne (by omega), upd_ne (by omega), u2]
    · rw [v3, upd_ne (by omega), upd_ne (by omega), u3]
    · rw [v4, upd_ne (by omega), upd_eq]
    · rw [v5, upd_eq]
    · rw [v6, upd_ne (by omega), upd_ne (by omega), u6]
  · rw [upd_ne (by omega), upd_ne (by omega)]
    by_cases c1 : j = 10
    · subst c1; rw [v10, u10]
    · rw [debW_ne c1 (by omega)]
      by_cases c2 : j = 230 + 8 * d + 2
      · subst c2; rw [vd, upd_eq]
      · rw [upd_ne c2, splW_o c1 c2 (by omega)]
def splT (a : Nat) (x1 x2 x3 : Int32) (σ : Sig) : Option (Int32 × Sig) := (X12_lays0_f a x3 2 x2 σ).bind fun s2 => (X12_lays0_f a x3 3 0 s2).bind fun s4 => (X12_lays0_f a x3 6 0 s4).bind fun s6 => (X12_debtOf_f a x1 2 s6).bind fun v8 => (X12_lays0_f a x1 2 (v8 - x2) s6).bind fun s10 => (ld 20240 (s10 (a + 1)) 10).bind fun v12 => (st 20240 s10 (a + 1) 10 (v12 + 1)).bind fun s14 => (X12_isOf_f a x1 s14).bind fun s16 => (X12_isOf_f a x3 s16).bind fun s18 => (X12_ends_f a s18).bind fun s20 => some (x3, s20)
theorem re_b61 {B nd d : Nat} {x2 : Int32} {ρ : Sig} (hd : d < nd) (hn : nd < 40) : ∃ r, X12_split_b61 B FU (nI d) x2 (nI nd) 0 ρ = splT B (nI d) x2 (nI nd) r ∧ (∀ x, x ≠ B + 1 → r x = ρ x) ∧ ∀ j, r (B + 1) j = if 230 + 8 * nd ≤ j ∧ j < 230 + 8 * nd + 8 then ρ (B + 1) (j - 8 * (nd - d)) else ρ (B + 1) j := by
  have key := fuel_up (m := 8) (C := fun fu f => ∀ r0 : Sig, (∀ x, x ≠ B + 1 → r0 x = ρ x) → (∀ j, r0 (B + 1) j = if 230 + 8 * nd ≤ j ∧ j < 230 + 8 * nd + f then ρ (B + 1) (j - 8 * (nd - d)) else ρ (B + 1) j) → ∃ r, X12_split_b61 B fu (nI d) x2 (nI nd) (nI f) r0 = splT B (nI d) x2 (nI nd) r ∧ (∀ x, x ≠ B + 1 → r x = ρ x) ∧ ∀ j, r (B + 1) j = if 230 + 8 * nd ≤ j ∧ j < 230 + 8 * nd + 8 then ρ (B + 1) (j - 8 * (nd - d)) else ρ (B + 1) j) (fun fu r0 e1 e2 => ⟨r0, ?_, e1, e2⟩) (fun fu f hf ih r0 e1 e2 => ?_) 8 0 FU (by omega) (by unfold FU; omega)
  · rw [nI_0] at key
    exact key ρ (fun _ _ => rfl) (fun j => by rw [if_neg (by omega)])
  · unfold X12_split_b61 splT
    rw [if_pos (show (8 : Int32) ≤ nI 8 from Int32.le_refl _)]
  · unfold X12_split_b61
    rw [if_neg (show ¬ (8 : Int32) ≤ nI f from nI_ge (b := 8) hf (by decide)), re_debtOf (by omega) hf, bsm, re_lays hn hf, bsm, nI_s]
    refine ih _ (fun x hx => by rw [wr_row hx]; exact e1 x hx) (fun j => ?_)
    by_cases e : j = 230 + 8 * nd + f
    · rw [e, wr_v, e2, if_neg (by omega), if_pos (by omega)]; exact congrArg _ (by omega)
    · rw [wr_o e, e2]
      by_cases c : 230 + 8 * nd ≤ j ∧ j < 230 + 8 * nd + f
      · rw [if_pos c, if_pos (by omega)]
      · rw [if_neg c, if_neg (by omega)]
theorem re_splits {B m nd d : Nat} {x2 : Int32} {ρ : Sig} (hm : m ≤ 60) (h16 : ρ (B + 1) 16 = nI m) (hn : nd < 40) (h10 : ρ (B + 1) 10 = nI nd) (hd : d < nd) : ∃ r, ((X12_begins_f B (-1) (-1) 0 ρ).bind fun s13 => (ld 20240 (s13 (B + 1)) 10).bind fun v15 => X12_split_b61 B FU (nI d) x2 v15 0 s13) = some (nI nd, r) ∧ (∀ j, j ≠ 22 → r B j = ρ B j) ∧ (∀ x, x ≠ B → x ≠ B + 1 → r x = ρ x) ∧ r (B + 1) 16 = nI (m - sh60 m + 1) ∧ (∀ j, j < 7880 → j ≠ 16 → r (B + 1) j = splW nd d x2 (ρ (B + 1)) j) ∧ (∀ j i, j < m - sh60 m → i < 206 → r (B + 1) (7880 + 206 * j + i) = ρ (B + 1) (7880 + 206 * (j + sh60 m) + i)) ∧ r (B + 1) (bs m) = -1 ∧ r (B + 1) (bs m + 3) = nI nd ∧ (∀ y, y < 40 → (bt (r (B + 1) (bs m + (if y < 20 then 4 else 5))) (y % 20) = true ↔ y ∈ [d, nd])) ∧ (r (B + 1) (bs m + 6 + 4 * d) = ρ (B + 1) (230 + 8 * d) ∧ r (B + 1) (bs m + 6 + 4 * d + 1) = ρ (B + 1) (230 + 8 * d + 1) ∧ r (B + 1) (bs m + 6 + 4 * d + 2) = ρ (B + 1) (230 + 8 * d + 4) ∧ r (B + 1) (bs m + 6 + 4 * d + 3) = ρ (B + 1) (230 + 8 * d + 2)) ∧ ∀ y, y < nd + 1 → r (B + 1) (bs m + 166 + y) = splW nd d x2 (ρ (B + 1)) (230 + 8 * y + 2) := by
  have hbs := bs_le hm
  have hb7 : 7880 ≤ bs m := by unfold bs; omega
  obtain ⟨r1, b1, b22, bB, bO, b16, bL, bOld, c0, c1, c2, c3, c4, c5, cD⟩ := re_begins (B := B) (ρ := ρ) (payer := -1) (payee := -1) (price := 0) hm h16 (by omega) h10
  have p1 : X12_pays_f B (-1) (-1) 0 r1 = some r1 := by unfold X12_pays_f; rw [if_pos rfl]
  obtain ⟨r2, l1, lO, lW⟩ := re_b61 (B := B) (x2 := x2) (ρ := r1) hd hn
  have lo : ∀ j, (j < 230 + 8 * nd ∨ 230 + 8 * nd + 8 ≤ j) → r2 (B + 1) j = r1 (B + 1) j := fun j hj => by rw [lW, if_neg (by omega)]
  have lp : ∀ j, 230 + 8 * nd ≤ j → j < 230 + 8 * nd + 8 → r2 (B + 1) j = ρ (B + 1) (j - 8 * (nd - d)) := fun j h1 h2 => by rw [lW, if_pos ⟨h1, h2⟩, bL _ (by omega) (by omega)]
  obtain ⟨r3, hr3⟩ : ∃ r3, r3 = wr (wr (wr (wr (wr r2 (B + 1) (230 + 8 * nd + 2) x2) (B + 1) (230 + 8 * nd + 3) 0) (B + 1) (230 + 8 * nd + 6) 0) (B + 1) (230 + 8 * d + 2) (ρ (B + 1) (230 + 8 * d + 2) - x2)) (B + 1) 10 (nI (nd + 1)) := ⟨_, rfl⟩
  have w3 : ∀ j, j < 7880 → j ≠ 16 → r3 (B + 1) j = splW nd d x2 (ρ (B + 1)) j := by
    intro j h1 h2
    rw [hr3]
    unfold splW
    by_cases a1 : j = 10
    · rw [if_pos a1, a1, wr_v]
    rw [if_neg a1, wr_o a1]
    by_cases a2 : j = 230 + 8 * d + 2
    · rw [if_pos a2, a2, wr_v]
    rw [if_neg a2, wr_o a2]
    by_cases a3 : j = 230 + 8 * nd + 2
    · rw [if_pos a3, wr_o (by omega), wr_o (by omega), a3, wr_v]
    rw [if_neg a3]
    by_cases a4 : j = 230 + 8 * nd + 3 ∨ j = 230 + 8 * nd + 6
    · rw [if_pos a4]
      rcases a4 with a4 | a4
      · rw [wr_o (by omega), a4, wr_v]
      · rw [a4, wr_v]
    rw [if_neg a4, wr_o (by omega), wr_o (by omega), wr_o (by omega)]
    by_cases a5 : 230 + 8 * nd ≤ j ∧ j < 230 + 8 * nd + 8
    · rw [if_pos a5]; exact lp j a5.1 a5.2
    · rw [if_neg a5, lo j (by omega)]; exact bL j h1 h2
  have w3h : ∀ j, 550 ≤ j → r3 (B + 1) j = r1 (B + 1) j := fun j hj => by
    rw [hr3, wr_o (by omega), wr_o (by omega), wr_o (by omega), wr_o (by omega), wr_o (by omega)]; exact lo j (by omega)
  have w316 : r3 (B + 1) 16 = nI (m - sh60 m) := by
    rw [hr3, wr_o (by omega), wr_o (by omega), wr_o (by omega), wr_o (by omega), wr_o (by omega), lo _ (by omega)]; exact b16
  have O3 : ∀ x, x ≠ B + 1 → r3 x = r1 x := fun x hx => by rw [hr3, wr_row hx, wr_row hx, wr_row hx, wr_row hx, wr_row hx]; exact lO x hx
  have i1 := re_isOf (B := B) (ρ := r3) (d := d) (k := bs m) (by omega) hbs (by rw [O3 _ (by omega)]; exact b22)
  obtain ⟨r4, hr4⟩ : ∃ r4, r4 = wr r3 (B + 1) (bs m + (if d < 20 then 4 else 5)) (r3 (B + 1) (bs m + (if d < 20 then 4 else 5)) ||| ((1 : Int32) <<< (nI (d % 20) &&& 31))) := ⟨_, rfl⟩
  rw [← hr4] at i1
  have O4 : ∀ x, x ≠ B + 1 → r4 x = r1 x := fun x hx => by rw [hr4, wr_row hx]; exact O3 x hx
  have i2 := re_isOf (B := B) (ρ := r4) (d := nd) (k := bs m) hn hbs (by rw [O4 _ (by omega)]; exact b22)
  obtain ⟨r5, hr5⟩ : ∃ r5, r5 = wr r4 (B + 1) (bs m + (if nd < 20 then 4 else 5)) (r4 (B + 1) (bs m + (if nd < 20 then 4 else 5)) ||| ((1 : Int32) <<< (nI (nd % 20) &&& 31))) := ⟨_, rfl⟩
  rw [← hr5] at i2
  have O5 : ∀ x, x ≠ B + 1 → r5 x = r1 x := fun x hx => by rw [hr5, wr_row hx]; exact O4 x hx
  have k45 : ∀ y : Nat, (if y < 20 then 4 else 5) = 4 ∨ (if y < 20 then 4 else 5) = 5 := fun y => by split <;> omega
  have w5 : ∀ j, j ≠ bs m + 4 → j ≠ bs m + 5 → r5 (B + 1) j = r3 (B + 1) j := fun j h1 h2 => by
    have a1 := k45 d
    have a2 := k45 nd
    rw [hr5, wr_o (by omega), hr4, wr_o (by omega)]
  have bits : ∀ y, y < 40 → (bt (r5 (B + 1) (bs m + (if y < 20 then 4 else 5))) (y % 20) = true ↔ y ∈ [d, nd]) := by
    have z0 : ∀ y, y < 40 → (bt (r3 (B + 1) (bs m + (if y < 20 then 4 else 5))) (y % 20) = true ↔ y ∈ ([] : List Nat)) := fun y hy => by
      have : r3 (B + 1) (bs m + (if y < 20 then 4 else 5)) = 0 := by
        rw [w3h _ (by omega)]
        split
        · exact c4
        · exact c5
      rw [this, bt_0]; simp
    have z1 := bits_add (d := d) (by omega) z0
    rw [← wr_w, ← hr4] at z1
    have z2 := bits_add (d := nd) hn z1
    rw [← wr_w, ← hr5] at z2
    exact z2
  obtain ⟨r6, f1, fO, f16, fL, fD⟩ := re_ends (B := B) (ρ := r5) (nd := nd + 1) (k := bs m) (m' := m - sh60 m) hb7 hbs (by omega) (by rw [w5 10 (by omega) (by omega), hr3, wr_v]) (by rw [w5 16 (by omega) (by omega)]; exact w316) (by rw [O5 _ (by omega)]; exact b22)
  have w6 : ∀ j, bs m ≤ j → j < bs m + 166 → j ≠ bs m + 4 → j ≠ bs m + 5 → r6 (B + 1) j = r1 (B + 1) j := fun j h1 h2 h3 h4 => by
    rw [fL j (by omega) (by omega), w5 j h3 h4]; exact w3h j (by omega)
  refine ⟨r6, ?_, fun j hj => ?_, fun x h1 h2 => ?_, f16, fun j h1 h2 => ?_, fun j i h1 h2 => ?_, ?_, ?_, fun y hy => ?_, ?_, fun y hy => ?_⟩
  · rw [b1, p1, bsm, bsm, LW.2.2.2.2.2.2.2.2.2.2.1, bsm, bL 10 (by omega) (by omega), h10, l1]
    unfold splT
    rw [rL2 hn, bsm, rL3 hn, bsm, rL6 hn, bsm, rD2 (by omega), bsm, rL2 (by omega), bsm, LW.2.2.2.2.2.2.2.2.2.2.1, bsm, SW.2.2.2.2.2.2.1, bsm]
    have e1 : wr (wr (wr r2 (B + 1) (230 + 8 * nd + 2) x2) (B + 1) (230 + 8 * nd + 3) 0) (B + 1) (230 + 8 * nd + 6) 0 (B + 1) (230 + 8 * d + 2) = ρ (B + 1) (230 + 8 * d + 2) := by
      rw [wr_o (by omega), wr_o (by omega), wr_o (by omega), lo _ (by omega)]; exact bL _ (by omega) (by omega)
    rw [e1]
    have e2 : wr (wr (wr (wr r2 (B + 1) (230 + 8 * nd + 2) x2) (B + 1) (230 + 8 * nd + 3) 0) (B + 1) (230 + 8 * nd + 6) 0) (B + 1) (230 + 8 * d + 2) (ρ (B + 1) (230 + 8 * d + 2) - x2) (B + 1) 10 = nI nd := by
      rw [wr_o (by omega), wr_o (by omega), wr_o (by omega), wr_o (by omega), lo _ (by omega), bL _ (by omega) (by omega)]; exact h10
    rw [e2, nI_s, ← hr3, i1, bsm, i2, bsm, f1, bsm]
  · rw [fO _ (by omega), O5 _ (by omega)]; exact bB j hj
  · rw [fO _ h2, O5 _ h2]; exact bO x h1 h2
  · rw [fL j h2 (by omega), w5 j (by omega) (by omega)]; exact w3 j h1 h2
  · have : 7880 + 206 * j + i < bs m := by unfold bs; omega
    rw [fL _ (by omega) (by omega), w5 _ (by omega) (by omega), w3h _ (by omega)]; exact bOld j i h1 h2
  · rw [w6 _ (by omega) (by omega) (by omega) (by omega)]; exact c0
  · rw [w6 _ (by omega) (by omega) (by omega) (by omega)]; exact c3
  · rw [fL _ (by have := k45 y; omega) (by have := k45 y; omega)]; exact bits y hy
  · obtain ⟨z0, z1, z2, z3⟩ := cD d hd
    exact ⟨by rw [w6 _ (by omega) (by omega) (by omega) (by omega)]; exact z0, by rw [w6 _ (by omega) (by omega) (by omega) (by omega)]; exact z1, by rw [w6 _ (by omega) (by omega) (by omega) (by omega)]; exact z2, by rw [w6 _ (by omega) (by omega) (by omega) (by omega)]; exact z3⟩
  · rw [fD y hy, w5 _ (by omega) (by omega)]; exact w3 _ (by omega) (by omega)

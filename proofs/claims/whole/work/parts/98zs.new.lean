/-! TEXTS: the new Text of the class, the new rows of the reference. -/
theorem lnD_of {τ : Tau} {a N : Nat} (h : τ a = some (.inr (.inl N))) : lnD τ a = some (nI N) := by unfold lnD; rw [h]; rfl
theorem copy_of {τ : Tau} {σ : Sig} {nx r0 N m : Nat} (h0 : τ r0 = some (.inr (.inl N))) (hm : m ≤ N) (hN : N ≤ 401) (hn : r0 < nx) : ∃ s, J7_copyOf_59c91_f τ σ nx r0 (nI m) = some (some nx, (al τ nx (.inr (.inl m)), s, nx + 1)) ∧ (∀ x, x ≠ nx → s x = σ x) ∧ ∀ j, j < m → s nx j = σ r0 j := by
  unfold J7_copyOf_59c91_f
  rw [lnD_of h0, bsm]
  by_cases c : m = N
  · subst c
    have e : clD τ r0 401 = some m := by unfold clD; rw [h0]; exact if_pos hN
    rw [if_pos rfl, e, bsm, lnD_of (al_eq), bsm]
    exact ⟨_, rfl, fun x hx => by funext j; exact if_neg hx, fun j _ => if_pos rfl⟩
  · have lt : nI m < nI N := nI_lt (by omega) (by omega)
    have e : mmin (nI N) (nI m) = nI m := if_pos lt
    have e2 : cpD (al τ nx (.inr (.inl m))) (zr σ nx) r0 0 nx 0 (nI m) = some (cpS (zr σ nx) r0 nx 0 0 m) := by
      unfold cpD
      rw [al_ne (by omega), h0, al_eq]
      exact cp_ok hm (Nat.le_refl _) (by omega) _ _ _
    rw [if_neg (fun z => c (nI_inj (by omega) (by omega) z)), nwI_of (by omega) (by omega), bsm, lnD_of (by rw [al_ne (by omega)]; exact h0), bsm, e, e2, bsm]
    exact ⟨_, rfl, fun x hx => by rw [cpS_ne hx, zr_ne hx], fun j hj => by rw [cpS_v hj, zr_ne (by omega)]⟩
theorem b67_ok {τ : Tau} {σ : Sig} {nx a T m c : Nat} (hS : ShX5 τ a) (ha : a + 6 < nx) (h0 : σ a 0 = 0) (h3 : σ a 3 = nI m) (h4 : σ a 4 = nI c) (hm : m ≤ 16) (hc : c ≤ 400) : ∃ τ' s', X5_read_b67 a T τ σ nx = some (some nx, (τ', s', nx + 4)) ∧ ShX7 τ' nx (m + 1) m c ∧ (∀ x, x < nx ∨ nx + 4 ≤ x → τ' x = τ x) ∧ (∀ x, x < nx ∨ nx + 4 ≤ x → s' x = σ x) ∧ s' nx 0 = nI m ∧ (∀ j, j ≤ m → s' (nx + 1) j = σ (a + 2) j) ∧ (∀ j, j < m → s' (nx + 2) j = σ (a + 3) j) ∧ ∀ j, j < c → s' (nx + 3) j = σ (a + 1) j := by
  obtain ⟨p0, p1, p2, p3, -⟩ := id hS
  generalize hT0 : al τ nx (.inl (7, rsX7)) = T0
  have o0 : ∀ x, x ≠ nx → T0 x = τ x := fun x hx => by rw [← hT0, al_ne hx]
  have z0 : ∀ x, x ≠ nx → zr σ nx x = σ x := fun x hx => zr_ne hx
  obtain ⟨s1, c1, f1, v1⟩ := copy_of (τ := T0) (σ := zr σ nx) (nx := nx + 1) (r0 := a + 2) (N := 17) (m := m + 1) (by rw [o0 _ (by omega)]; exact p2) (by omega) (by omega) (by omega)
  generalize hT1 : al T0 (nx + 1) (.inr (.inl (m + 1))) = T1 at c1
  have o1 : ∀ x, x ≠ nx + 1 → T1 x = T0 x := fun x hx => by rw [← hT1, al_ne hx]
  obtain ⟨s2, c2, f2, v2⟩ := copy_of (τ := T1) (σ := s1) (nx := nx + 1 + 1) (r0 := a + 3) (N := 16) (m := m) (by rw [o1 _ (by omega), o0 _ (by omega)]; exact p3) (by omega) (by omega) (by omega)
  generalize hT2 : al T1 (nx + 1 + 1) (.inr (.inl m)) = T2 at c2
  have o2 : ∀ x, x ≠ nx + 1 + 1 → T2 x = T1 x := fun x hx => by rw [← hT2, al_ne hx]
  obtain ⟨s3, c3, f3, v3⟩ := copy_of (τ := T2) (σ := s2) (nx := nx + 1 + 1 + 1) (r0 := a + 1) (N := 400) (m := c) (by rw [o2 _ (by omega), o1 _ (by omega), o0 _ (by omega)]; exact p1) (by omega) (by omega) (by omega)
  generalize hT3 : al T2 (nx + 1 + 1 + 1) (.inr (.inl c)) = T3 at c3
  have o3 : ∀ x, x ≠ nx + 1 + 1 + 1 → T3 x = T2 x := fun x hx => by rw [← hT3, al_ne hx]
  have n0 : T3 nx = some (.inl (7, rsX7)) := by rw [o3 _ (by omega), o2 _ (by omega), o1 _ (by omega), ← hT0, al_eq]
  have a0 : T0 a = some (.inl (5, _)) := (o0 a (by omega)).trans p0
  have a1 : T1 a = some (.inl (5, _)) := (o1 a (by omega)).trans a0
  have a2 : T2 a = some (.inl (5, _)) := (o2 a (by omega)).trans a1
  have g1 := setR_eq (kf := 1) (r := some (nx + 1)) n0
  generalize hT4 : setR T3 nx 1 (some (nx + 1)) = T4 at g1
  have g2 := setR_eq (kf := 2) (r := some (nx + 1 + 1)) g1
  generalize hT5 : setR T4 nx 2 (some (nx + 1 + 1)) = T5 at g2
  have g3 := setR_eq (kf := 3) (r := some (nx + 1 + 1 + 1)) g2
  generalize hT6 : setR T5 nx 3 (some (nx + 1 + 1 + 1)) = T6 at g3
  have o6 : ∀ x, x ≠ nx → T6 x = T3 x := fun x hx => by rw [← hT6, setR_ne hx, ← hT5, setR_ne hx, ← hT4, setR_ne hx]
  have sa : ∀ j, zr σ nx a j = σ a j := fun j => by rw [z0 a (by omega)]
  have sa1 : ∀ j, s1 a j = σ a j := fun j => by rw [f1 a (by omega), sa]
  have sa2 : ∀ j, s2 a j = σ a j := fun j => by rw [f2 a (by omega), sa1]
  have e : X5_read_b67 a T τ σ nx = some (some nx, (T6, wr s3 nx 0 (nI m), nx + 4)) := by
    unfold X5_read_b67
    rw [gI_of p0 rfl, bsm, if_pos h0, hT0, gI_of a0 rfl, bsm, sa, h3, gRs_of a0 rfl, bsm, bsm, nI_s, c1, bsm]
    dsimp only
    rw [bsm, gRs_of a1 rfl, bsm, gI_of a1 rfl, bsm, sa1, h3, c2, bsm]
    dsimp only
    rw [bsm, gRs_of a2 rfl, bsm, gI_of a2 rfl, bsm, sa2, h4, c3, bsm]
    dsimp only
    unfold X7_init_f
    rw [bsm, dI_of n0 rfl, bsm, dR_of n0 rfl, bsm, hT4, dR_of g1 rfl, bsm, hT5, dR_of g2 rfl, bsm, hT6, bsm]
  refine ⟨T6, wr s3 nx 0 (nI m), e, ⟨g3, ?_, ?_, ?_⟩, fun x hx => ?_, fun x hx => ?_, wr_v, fun j hj => ?_, fun j hj => ?_, fun j hj => ?_⟩
  · rw [o6 _ (by omega), o3 _ (by omega), o2 _ (by omega), ← hT1, al_eq]
  · rw [o6 _ (by omega), o3 _ (by omega), ← hT2, al_eq]
  · rw [o6 _ (by omega), ← hT3, al_eq]
  · rw [o6 _ (by omega), o3 _ (by omega), o2 _ (by omega), o1 _ (by omega), o0 _ (by omega)]
  · rw [wr_row (by omega), f3 _ (by omega), f2 _ (by omega), f1 _ (by omega), z0 _ (by omega)]
  · rw [wr_row (by omega), f3 _ (by omega), f2 _ (by omega), v1 j (by omega), z0 _ (by omega)]
  · rw [wr_row (by omega), f3 _ (by omega), show nx + 2 = nx + 1 + 1 from rfl, v2 j hj, f1 _ (by omega), z0 _ (by omega)]
  · rw [wr_row (by omega), show nx + 3 = nx + 1 + 1 + 1 from rfl, v3 j hj, f2 _ (by omega), f1 _ (by omega), z0 _ (by omega)]
/-- the reference's steps -/
theorem re_b259 {B k c : Nat} {r : Sig} (hk : k < 6) (hc : c ≤ 400) (h11 : r B 11 = nI c) : ∃ r', X12_text_b259 B FU (nI k) 0 r = some (r B 10, r') ∧ (∀ x, x ≠ B + 1 → r' x = r x) ∧ (∀ j, j < 2 * c → r' (B + 1) (2960 + 820 * k + j) = r (B + 5) j) ∧ ∀ j, (j < 2960 + 820 * k ∨ 2960 + 820 * k + 820 ≤ j) → r' (B + 1) j = r (B + 1) j := by
  have key := fuel_up (m := 2 * c) (C := fun fu i => ∀ r0 : Sig, (∀ x, x ≠ B + 1 → r0 x = r x) → (∀ j, j < i → r0 (B + 1) (2960 + 820 * k + j) = r (B + 5) j) → (∀ j, (j < 2960 + 820 * k ∨ 2960 + 820 * k + 820 ≤ j) → r0 (B + 1) j = r (B + 1) j) → ∃ r', X12_text_b259 B fu (nI k) (nI i) r0 = some (r B 10, r') ∧ (∀ x, x ≠ B + 1 → r' x = r x) ∧ (∀ j, j < 2 * c → r' (B + 1) (2960 + 820 * k + j) = r (B + 5) j) ∧ ∀ j, (j < 2960 + 820 * k ∨ 2960 + 820 * k + 820 ≤ j) → r' (B + 1) j = r (B + 1) j) (fun fu r0 q1 q2 q3 => ?_) (fun fu i hi ih r0 q1 q2 q3 => ?_) (2 * c) 0 FU (by omega) (by unfold FU; omega)
  · exact key r (fun _ _ => rfl) (fun j hj => absurd hj (by omega)) (fun _ _ => rfl)
  · have e2 : (2 * nI c : Int32) = nI (2 * c) := by rw [show (2 : Int32) = nI 2 from rfl, pk_mul]
    refine ⟨r0, ?_, q1, q2, q3⟩
    show (if (2 * (r0 B 11)) ≤ nI (2 * c) then _ else _) = _
    rw [q1 B (by omega), h11, e2, if_pos (Int32.le_refl _)]
  · have e2 : (2 * nI c : Int32) = nI (2 * c) := by rw [show (2 : Int32) = nI 2 from rfl, pk_mul]
    have ei : (2960 + 820 * nI k + nI i : Int32) = nI (2960 + 820 * k + i) := by rw [show (820 : Int32) = nI 820 from rfl, pk_mul, show (2960 : Int32) = nI 2960 from rfl, nI_add, nI_add]
    have es : X12_text_b259 B (fu + 1) (nI k) (nI i) r0 = X12_text_b259 B fu (nI k) (nI (i + 1)) (wr r0 (B + 1) (2960 + 820 * k + i) (r (B + 5) i)) := by
      show (if (2 * (r0 B 11)) ≤ nI i then _ else _) = _
      rw [q1 B (by omega), h11, e2, if_neg (nI_ge hi (by omega)), q1 (B + 5) (by omega), ldn (by omega) (by decide), bsm, ei, stn (by omega) (by decide), bsm, nI_s]
    rw [es]
    refine ih _ (fun x hx => by rw [wr_row hx]; exact q1 x hx) (fun j hj => ?_) (fun j hj => ?_)
    · by_cases e : j = i
      · subst e; rw [wr_v]
      · rw [wr_o (by omega)]; exact q2 j (by omega)
    · rw [wr_o (by omega)]; exact q3 j hj
/-- the reference's lines and steps -/
def Ro (k j : Nat) : Prop := (j < 2560 + 16 * k ∨ 2560 + 16 * k + 16 ≤ j) ∧ (j < 2660 + 16 * k ∨ 2660 + 16 * k + 16 ≤ j) ∧ (j < 2760 + 16 * k ∨ 2760 + 16 * k + 16 ≤ j) ∧ (j < 2860 + 16 * k ∨ 2860 + 16 * k + 16 ≤ j)
def Rw4 (B k l : Nat) (r r0 : Sig) : Prop := (∀ x, x ≠ B + 1 → r0 x = r x) ∧ (∀ j, j < l → r0 (B + 1) (2560 + 16 * k + j) = r (B + 4) (4 * j) ∧ r0 (B + 1) (2660 + 16 * k + j) = r (B + 4) (4 * j + 1) ∧ r0 (B + 1) (2760 + 16 * k + j) = r (B + 4) (4 * j + 2) ∧ r0 (B + 1) (2860 + 16 * k + j) = r (B + 4) (4 * j + 3)) ∧ ∀ j, Ro k j → r0 (B + 1) j = r (B + 1) j
theorem Rw4.next {B k i : Nat} {r r0 : Sig} (hk : k < 6) (hi : i < 16) (h : Rw4 B k i r r0) : Rw4 B k (i + 1) r (wr (wr (wr (wr r0 (B + 1) (2560 + 16 * k + i) (r (B + 4) (4 * i))) (B + 1) (2660 + 16 * k + i) (r (B + 4) (4 * i + 1))) (B + 1) (2760 + 16 * k + i) (r (B + 4) (4 * i + 2))) (B + 1) (2860 + 16 * k + i) (r (B + 4) (4 * i + 3))) := by
  obtain ⟨h1, h2, h3⟩ := h
  refine ⟨fun x hx => by rw [wr_row hx, wr_row hx, wr_row hx, wr_row hx]; exact h1 x hx, fun j hj => ?_, fun j hj => ?_⟩
  · by_cases e : j = i
    · subst e
      refine ⟨?_, ?_, ?_, wr_v⟩
      · rw [wr_o (by omega), wr_o (by omega), wr_o (by omega), wr_v]
      · rw [wr_o (by omega), wr_o (by omega), wr_v]
      · rw [wr_o (by omega), wr_v]
    · obtain ⟨a1, a2, a3, a4⟩ := h2 j (by omega)
      refine ⟨?_, ?_, ?_, ?_⟩
      · rw [wr_o (by omega), wr_o (by omega), wr_o (by omega), wr_o (by omega)]; exact a1
      · rw [wr_o (by omega), wr_o (by omega), wr_o (by omega), wr_o (by omega)]; exact a2
      · rw [wr_o (by omega), wr_o (by omega), wr_o (by omega), wr_o (by omega)]; exact a3
      · rw [wr_o (by omega), wr_o (by omega), wr_o (by omega), wr_o (by omega)]; exact a4
  · obtain ⟨a1, a2, a3, a4⟩ := id hj
    rw [wr_o (by omega), wr_o (by omega), wr_o (by omega), wr_o (by omega)]; exact h3 j hj
theorem re_b145 {B k l c : Nat} {r : Sig} (hk : k < 6) (hl : l ≤ 16) (hc : c ≤ 400) (h10 : r B 10 = nI l) (h11 : r B 11 = nI c) : ∃ r', X12_text_b145 B FU (nI k) 0 r = some (nI l, r') ∧ (∀ x, x ≠ B + 1 → r' x = r x) ∧ (∀ j, j < l → r' (B + 1) (2560 + 16 * k + j) = r (B + 4) (4 * j) ∧ r' (B + 1) (2660 + 16 * k + j) = r (B + 4) (4 * j + 1) ∧ r' (B + 1) (2760 + 16 * k + j) = r (B + 4) (4 * j + 2) ∧ r' (B + 1) (2860 + 16 * k + j) = r (B + 4) (4 * j + 3)) ∧ (∀ j, j < 2 * c → r' (B + 1) (2960 + 820 * k + j) = r (B + 5) j) ∧ ∀ j, Ro k j → (j < 2960 + 820 * k ∨ 2960 + 820 * k + 820 ≤ j) → r' (B + 1) j = r (B + 1) j := by
  have e4 : ∀ i o : Nat, (4 * nI i + nI o : Int32) = nI (4 * i + o) := fun i o => by rw [show (4 : Int32) = nI 4 from rfl, pk_mul, nI_add]
  have ek : ∀ i o : Nat, (nI o + 16 * nI k + nI i : Int32) = nI (o + 16 * k + i) := fun i o => by rw [show (16 : Int32) = nI 16 from rfl, pk_mul, nI_add, nI_add]
  have key := fuel_up (m := l) (C := fun fu i => ∀ r0 : Sig, Rw4 B k i r r0 → ∃ r1, X12_text_b145 B fu (nI k) (nI i) r0 = X12_text_b259 B FU (nI k) 0 r1 ∧ Rw4 B k l r r1) (fun fu r0 q => ?_) (fun fu i hi ih r0 q => ?_) l 0 FU (by omega) (by unfold FU; omega)
  · obtain ⟨r1, z1, z2, z3, z4⟩ := key r ⟨fun _ _ => rfl, fun j hj => absurd hj (by omega), fun _ _ => rfl⟩
    obtain ⟨r2, y1, y2, y3, y4⟩ := re_b259 (B := B) (k := k) (c := c) (r := r1) hk hc (by rw [z2 B (by omega)]; exact h11)
    refine ⟨r2, ?_, fun x hx => by rw [y2 x hx]; exact z2 x hx, fun j hj => ?_, fun j hj => by rw [y3 j hj, z2 _ (by omega)], fun j h1 h2 => by rw [y4 j h2]; exact z4 j h1⟩
    · have z1' : X12_text_b145 B FU (nI k) 0 r = X12_text_b259 B FU (nI k) 0 r1 := z1
      rw [z1', y1, z2 B (by omega), h10]
    · rw [y4 _ (by omega), y4 _ (by omega), y4 _ (by omega), y4 _ (by omega)]; exact z3 j hj
  · refine ⟨r0, ?_, q⟩
    show (if (r0 B 10) ≤ nI l then _ else _) = _
    rw [q.1 B (by omega), h10, if_pos (Int32.le_refl _)]
  · have q1 : ∀ x, x ≠ B + 1 → r0 x = r x := q.1
    have es : X12_text_b145 B (fu + 1) (nI k) (nI i) r0 = X12_text_b145 B fu (nI k) (nI (i + 1)) (wr (wr (wr (wr r0 (B + 1) (2560 + 16 * k + i) (r (B + 4) (4 * i))) (B + 1) (2660 + 16 * k + i) (r (B + 4) (4 * i + 1))) (B + 1) (2760 + 16 * k + i) (r (B + 4) (4 * i + 2))) (B + 1) (2860 + 16 * k + i) (r (B + 4) (4 * i + 3))) := by
      show (if (r0 B 10) ≤ nI i then _ else _) = _
      have e0 : (4 * nI i : Int32) = nI (4 * i) := by rw [show (4 : Int32) = nI 4 from rfl, pk_mul]
      rw [q1 B (by omega), h10, if_neg (nI_ge hi (by omega)), q1 (B + 4) (by omega), e0, ldn (by omega) (by decide), bsm, show (2560 : Int32) = nI 2560 from rfl, ek, stn (by omega) (by decide), bsm, wr_row (by omega), q1 (B + 4) (by omega), show (1 : Int32) = nI 1 from rfl, nI_add, ldn (by omega) (by decide), bsm, show (2660 : Int32) = nI 2660 from rfl, ek, stn (by omega) (by decide), bsm, wr_row (by omega), wr_row (by omega), q1 (B + 4) (by omega), show (2 : Int32) = nI 2 from rfl, nI_add, ldn (by omega) (by decide), bsm, show (2760 : Int32) = nI 2760 from rfl, ek, stn (by omega) (by decide), bsm, wr_row (by omega), wr_row (by omega), wr_row (by omega), q1 (B + 4) (by omega), show (3 : Int32) = nI 3 from rfl, nI_add, ldn (by omega) (by decide), bsm, show (2860 : Int32) = nI 2860 from rfl, ek, stn (by omega) (by decide), bsm, nI_add]
    rw [es]
    exact ih _ (q.next hk (by omega))

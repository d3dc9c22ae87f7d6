/-! TEXTS: pieces of a line. -/
section LN
variable {a B : Nat} {t : Nat → Int32} {len : Nat} {law : Bool} {n i d : Nat} {L : List (Nat × Nat)} {s r : Sig}
/-- when -/
theorem Rl.when (h : Rl a B t len law n i L d s r) (hl : L.length ≤ 400) : ∃ (v : Int32) (s' : Sig) (r' : Sig), X5_take_f a 100 s = some (v, s') ∧ X12_need_f B 3 r = some (v, r') ∧ Fc a s s' ∧ Fq B r r' ∧ ((v = 1 ∧ i < n ∧ Rl a B t len law n (i + 1) L d s' r') ∨ (v = 0 ∧ Bd a B t len law n s' r')) := by
  obtain ⟨kd, kl⟩ := tK_dom (t := t) (len := len) (law := law) i
  have h0 : s a 0 = 0 := h.2.2.2.1
  obtain ⟨b, -, -, -⟩ := h.k4
  have k100 : nI (tK t len law i) = 100 ↔ tK t len law i = 100 := nI_eq (b := 100) (by omega) (by decide)
  unfold X5_take_f X12_need_f X5_take_b20
  rw [if_pos h0, h.kd, bsm]
  by_cases k : tK t len law i = 100
  · obtain ⟨s1, r1, y1, y2, y3, y4, y5⟩ := h.step (by omega)
    rw [if_pos (k100.mpr k), y1, bsm, if_pos (b.mpr k), y2, bsm]
    exact ⟨1, s1, r1, rfl, rfl, y3, y4, Or.inl ⟨rfl, h.lt (by omega), y5⟩⟩
  · obtain ⟨s1, r1, z1, z2, z3, z4, z5⟩ := h.fail (k := 1) hl (by decide) (by decide)
    rw [if_neg (fun z => k (k100.mp z)), show (1 : Int32) = nI 1 from rfl, z1, bsm, if_neg (fun z => k (b.mp z)), z2, bsm]
    exact ⟨0, s1, r1, rfl, rfl, z3, z4, Or.inr ⟨rfl, z5⟩⟩
/-- how loud -/
theorem Rl.loud (h : Rl a B t len law n i L d s r) (hl : L.length ≤ 400) : ∃ (w : Int32) (s' : Sig) (v : Int32) (r' : Sig), X5_readLoud_f a s = some (w, s') ∧ X12_number_f B 0 99 r = some (v, r') ∧ Fc a s s' ∧ Fq B r r' ∧ ((v = 1 ∧ i < n ∧ tV t len law i ≤ 99 ∧ w = nI (tV t len law i) ∧ r B 16 = nI (tV t len law i) ∧ Rl a B t len law n (i + 1) L d s' r') ∨ (v = 0 ∧ Bd a B t len law n s' r')) := by
  obtain ⟨kd, kl⟩ := tK_dom (t := t) (len := len) (law := law) i
  obtain ⟨k200, t1, -, -⟩ := kr_tab law _ kl kd
  have hn : n ≤ 400 := h.1.1
  have hi : i ≤ n := h.2.2.1
  have h0 : s a 0 = 0 := h.2.2.2.1
  have h12 : s a 12 = nI i := h.2.2.2.2.1
  have h14 : r B 14 = nI (kr law (tK t len law i)) := h.2.2.2.2.2.2.2.1
  have e2 : r B 14 = 2 ↔ tK t len law i = 1 := by
    rw [h14, ← t1]; exact nI_eq (b := 2) (by omega) (by decide)
  have k1 : nI (tK t len law i) = 1 ↔ tK t len law i = 1 := nI_eq (b := 1) (by omega) (by decide)
  have hv0 : ld 401 (s (a + 6)) (s a 12) = some (s (a + 6) i) := by rw [h12]; exact ldn (by omega) (by decide)
  unfold X5_readLoud_f X12_number_f X5_readLoud_b34
  rw [hv0, bsm, h.kd, bsm]
  by_cases c1 : tK t len law i = 1
  · obtain ⟨hv, hv9⟩ := h.vl c1
    have h16 : r B 16 = nI (tV t len law i) := h.2.2.2.2.2.2.2.2.2.1 c1
    have ev : s (a + 6) i = nI (tV t len law i) := by rw [hv0] at hv; injection hv
    rw [ev, if_pos (k1.mpr c1), if_pos (e2.mpr c1), h16]
    by_cases c99 : tV t len law i ≤ 99
    · obtain ⟨s1, r1, y1, y2, y3, y4, y5⟩ := h.step (by omega)
      have tk : X5_take_f a 1 s = some (1, s1) := by
        unfold X5_take_f
        rw [if_pos h0, h.kd, bsm, if_pos (k1.mpr c1), y1, bsm]
      rw [if_pos (show nI (tV t len law i) ≤ 99 from nI_le (b := 99) c99 (by decide)), tk, bsm, re_isIn_in (show (0 : Int32) ≤ nI (tV t len law i) from nI_le (a := 0) (by omega) (by omega)) (show nI (tV t len law i) ≤ 99 from nI_le (b := 99) c99 (by decide)), bsm, if_neg n10, y2, bsm]
      exact ⟨_, s1, 1, r1, rfl, rfl, y3, y4, Or.inl ⟨rfl, h.lt (by omega), c99, rfl, rfl, y5⟩⟩
    · obtain ⟨s1, r1, z1, z2, z3, z4, z5⟩ := h.fail (k := 2) hl (by decide) (by decide)
      rw [if_neg (show ¬ nI (tV t len law i) ≤ 99 from nI_ge (a := 99 + 1 - 1) (b := tV t len law i) |> fun _ => Int32.not_le.mpr (nI_lt (a := 99) (by omega) (by omega))), show (2 : Int32) = nI 2 from rfl, z1, bsm, z5.1.take, bsm, re_isIn_out (Or.inr (show (99 : Int32) < nI (tV t len law i) from nI_lt (a := 99) (by omega) (by omega))), bsm, if_pos rfl, z2, bsm]
      exact ⟨_, s1, 0, r1, rfl, rfl, z3, z4, Or.inr ⟨rfl, z5⟩⟩
  · obtain ⟨s1, r1, z1, z2, z3, z4, z5⟩ := h.fail (k := 1) hl (by decide) (by decide)
    have tk : X5_take_f a 1 s = some (0, s1) := by
      unfold X5_take_f X5_take_b20
      rw [if_pos h0, h.kd, bsm, if_neg (fun z => c1 (k1.mp z)), show (1 : Int32) = nI 1 from rfl, z1, bsm]
    rw [if_neg (fun z => c1 (k1.mp z)), tk, bsm, if_neg (fun z => c1 (e2.mp z)), show (1 : Int32) = nI 1 from rfl, z2, bsm]
    exact ⟨_, s1, 0, r1, rfl, rfl, z3, z4, Or.inr ⟨rfl, z5⟩⟩
end LN
theorem tyR_L {so : Nat → Nat} : ∀ (M : List (Nat × Nat)) (i : Nat) (T : List Bool), (∀ j x, M[j]? = some x → so (i + j) = x.1) → tyR so M.length i T = tyL M T
  | [], _, _, _ => rfl
  | x :: M, i, T, h => by
    show (tyS (so i) T).bind (tyR so M.length (i + 1)) = (tyS x.1 T).bind (tyL M)
    rw [show so i = x.1 from h 0 x rfl]
    cases tyS x.1 T with
    | none => rfl
    | some T' => exact tyR_L M (i + 1) T' (fun j y hj => by rw [show i + 1 + j = i + (j + 1) by omega]; exact h (j + 1) y hj)

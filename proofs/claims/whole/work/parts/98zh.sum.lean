/-! TEXTS: after a fault; a sum. -/
def Ke (a : Nat) (s s' : Sig) : Prop := Fc a s s' ∧ s' a 0 = s a 0 ∧ s' a 1 = s a 1
theorem Ke.rfl {a : Nat} {s : Sig} : Ke a s s := ⟨Fc.rfl, Eq.refl _, Eq.refl _⟩
theorem Ke.tr {a : Nat} {s s' s'' : Sig} (h : Ke a s s') (h' : Ke a s' s'') : Ke a s s'' := ⟨h.1.tr h'.1, h'.2.1.trans h.2.1, h'.2.2.trans h.2.2⟩
section VD
variable {a B : Nat} {t : Nat → Int32} {len : Nat} {law : Bool} {n i d : Nat} {L : List (Nat × Nat)} {s r : Sig}
theorem Vd.emit (h : Vd a t len law n s) (x1 x2 : Int32) : ∃ s', X5_emit_f a x1 x2 s = some s' ∧ Ke a s s' ∧ Vd a t len law n s' := by
  obtain ⟨hS, h0, i, c, hi, hc, h12, h4⟩ := id h
  unfold X5_emit_f pI
  rw [h4]
  by_cases q : c = 400
  · rw [q, if_pos (show (400 : Int32) ≤ nI 400 from Int32.le_refl _)]
    exact ⟨s, rfl, Ke.rfl, h⟩
  · rw [if_neg (show ¬ (400 : Int32) ≤ nI c from nI_ge (b := 400) (by omega) (by decide)), stn (by omega) (by decide), bsm, wr_row (by omega), h4, nI_s, bsm]
    have ke : Ke a s (wr (wr s (a + 1) c ((x2 <<< (4 &&& 31)) ||| x1)) a 4 (nI (c + 1))) := ⟨⟨fun x e1 e2 => by rw [wr_row e1, wr_row e2], fun j e1 e2 e3 e4 => by rw [wr_o e3, wr_row (by omega)]⟩, by rw [wr_o (by decide), wr_row (by omega)], by rw [wr_o (by decide), wr_row (by omega)]⟩
    exact ⟨_, rfl, ke, hS.fr ke.1, by rw [ke.2.1]; exact h0, i, c + 1, hi, by omega, by rw [wr_o (by decide), wr_row (by omega)]; exact h12, wr_v⟩
theorem Vd.step (h : Vd a t len law n s) : ∃ s', X5_step_f a s = some s' ∧ Ke a s s' ∧ Vd a t len law n s' := by
  obtain ⟨hS, h0, i, c, hi, hc, h12, h4⟩ := id h
  have hn := hS.1
  have e1 : nI (n + 1) - 1 = nI n := by
    have := pk_sub (a := n + 1) (b := 1) (by omega)
    exact this
  unfold X5_step_f pI
  rw [hS.2.1, h12, e1]
  by_cases q : n ≤ i
  · rw [if_pos (nI_le q (by omega))]
    exact ⟨s, rfl, Ke.rfl, h⟩
  · rw [if_neg (nI_ge (by omega) (by omega)), bsm, nI_s]
    have ke : Ke a s (wr s a 12 (nI (i + 1))) := ⟨⟨fun x e1 e2 => wr_row e1, fun j e1 e2 e3 e4 => wr_o e4⟩, wr_o (by decide), wr_o (by decide)⟩
    exact ⟨_, rfl, ke, hS.fr ke.1, by rw [ke.2.1]; exact h0, i + 1, c, by omega, hc, wr_v, by rw [wr_o (by decide)]; exact h4⟩
theorem Vd.fail (h : Vd a t len law n s) (k : Int32) : X5_fail_f a k s = some s := by
  unfold X5_fail_f; rw [if_neg h.2.1]
theorem Vd.take (h : Vd a t len law n s) (k : Int32) : X5_take_f a k s = some (0, s) := by
  unfold X5_take_f X5_take_b20; rw [if_neg h.2.1, h.fail, bsm]
theorem Vd.kd (h : Vd a t len law n s) : ∃ x y, ld 401 (s (a + 4)) (s a 12) = some x ∧ ld 401 (s (a + 6)) (s a 12) = some y := by
  obtain ⟨hS, h0, i, c, hi, hc, h12, h4⟩ := h
  have hn := hS.1
  rw [h12]
  exact ⟨_, _, ldn (by omega) (by decide), ldn (by omega) (by decide)⟩
theorem Vd.unit (h : Vd a t len law n s) : ∃ s', X5_unit_f a s = some s' ∧ Ke a s s' ∧ Vd a t len law n s' := by
  obtain ⟨x, y, hx, hy⟩ := h.kd
  have b24 : ∀ y0, ∃ s', X5_unit_b24 a x y0 s = some s' ∧ Ke a s s' ∧ Vd a t len law n s' := fun y0 => by
    unfold X5_unit_b24
    by_cases c : x = 1
    · obtain ⟨s1, z1, z2, z3⟩ := h.emit 0 y
      obtain ⟨s2, w1, w2, w3⟩ := z3.step
      rw [if_pos c, hy, bsm, z1, bsm, w1, bsm]
      exact ⟨s2, rfl, z2.tr w2, w3⟩
    · rw [if_neg c]
      by_cases c2 : x < y0
      · rw [if_pos c2, h.fail, bsm]
        exact ⟨s, rfl, Ke.rfl, h⟩
      · obtain ⟨s1, z1, z2, z3⟩ := h.emit 1 (x - y0)
        obtain ⟨s2, w1, w2, w3⟩ := z3.step
        rw [if_neg c2, z1, bsm, w1, bsm]
        exact ⟨s2, rfl, z2.tr w2, w3⟩
  unfold X5_unit_f
  rw [hx, bsm]
  by_cases c : s a 2 = 0
  · rw [if_pos c]; exact b24 107
  · rw [if_neg c]; exact b24 105
theorem Vd.b116 (h : Vd a t len law n s) (x1 : Int32) : ∃ s', X5_sum_b116 a x1 s = some s' ∧ Ke a s s' ∧ Vd a t len law n s' := by
  unfold X5_sum_b116
  by_cases c : x1 = -1
  · rw [if_pos c]; exact ⟨s, rfl, Ke.rfl, h⟩
  · obtain ⟨s1, z1, z2, z3⟩ := h.emit x1 0
    rw [if_neg c, z1, bsm]; exact ⟨s1, rfl, z2, z3⟩
theorem Vd.b8 (h : Vd a t len law n s) (fu : Nat) (x1 x2 : Int32) : ∃ s', X5_sum_b8 a (fu + 1) x1 x2 s = some s' ∧ Ke a s s' ∧ Vd a t len law n s' := by
  obtain ⟨s', z1, z2, z3⟩ := h.b116 x1
  refine ⟨s', ?_, z2, z3⟩
  show (if (400 : Int32) ≤ x2 then _ else _) = _
  rw [if_neg h.2.1, z1]
  split <;> rfl
theorem Vd.sum (h : Vd a t len law n s) : ∃ s', X5_sum_f a s = some s' ∧ Ke a s s' ∧ Vd a t len law n s' := by
  obtain ⟨s1, z1, z2, z3⟩ := h.unit
  obtain ⟨s2, w1, w2, w3⟩ := z3.b8 (FU - 1) (-1) 0
  refine ⟨s2, ?_, z2.tr w2, w3⟩
  unfold X5_sum_f
  rw [z1, bsm]
  exact w1
theorem Bd.ke (h : Bd a B t len law n s r) {s' : Sig} (hk : Ke a s s') (hv : Vd a t len law n s') : Bd a B t len law n s' r := ⟨hv, hk.2.1.trans h.2.1, hk.2.2.trans h.2.2⟩
end VD
/-- the kinds that a row of steps leaves on the pile -/
def tyL : List (Nat × Nat) → List Bool → Option (List Bool)
  | [], T => some T
  | x :: M, T => (tyS x.1 T).bind (tyL M)
theorem tyL_app : ∀ (M N : List (Nat × Nat)) (T : List Bool), tyL (M ++ N) T = (tyL M T).bind (tyL N)
  | [], N, T => rfl
  | x :: M, N, T => by
    show (tyS x.1 T).bind (tyL (M ++ N)) = ((tyS x.1 T).bind (tyL M)).bind (tyL N)
    cases tyS x.1 T with
    | none => rfl
    | some T' => exact tyL_app M N T'
theorem kr_sig : ∀ law : Bool, ∀ kc, kc < 115 → kDom law kc = true → ∀ c, c < 63 → 40 ≤ c → (kr law kc = 100 + c ↔ kc = c) := by decide +kernel
def pdC (p : Option Nat) : Int32 := match p with | none => -1 | some x => nI (x - 10)
def pdN (p : Option Nat) : Nat := match p with | none => 0 | some _ => 1
def stk (p : Option Nat) (T : List Bool) : List Bool := match p with | none => false :: T | some _ => false :: false :: T
def tailR (B : Nat) (p : Option Nat) (fu : Nat) (s : Sig) : Option (Int32 × Sig) := match p with | none => X12_sumUp_b9 B fu s | some x => (X12_lay_f B (nI x) 0 s).bind fun s7 => X12_sumUp_b9 B fu s7
def sumR (B : Nat) (p : Option Nat) (fu fu2 : Nat) (r : Sig) : Option (Int32 × Sig) := (X12_product_b9 B fu r).bind fun ⟨v, s4⟩ => if v = 0 then some (0, s4) else tailR B p fu2 s4
section SU
variable {a B : Nat} {t : Nat → Int32} {len : Nat} {law : Bool} {n i d : Nat} {L : List (Nat × Nat)} {s r : Sig}
theorem enc_op : ∀ law : Bool, enc law 12 0 = some 2 ∧ enc law 13 0 = some 3 ∧ enc law 14 0 = some 4 ∧ enc law 16 0 = some 6 ∧ enc law 17 0 = some 7 ∧ enc law 18 0 = some 8 ∧ enc law 19 0 = some 9 ∧ enc law 20 0 = some 10 ∧ enc law 21 0 = some 11 := by decide
/-- what is pending is laid -/
theorem Rl.pend (h : Rl a B t len law n i L d s r) {p : Option Nat} (hp : p = none ∨ p = some 12 ∨ p = some 13) (hl : L.length + pdN p ≤ i) : ∃ s' r' M, X5_sum_b116 a (pdC p) s = some s' ∧ (∀ fu, tailR B p fu r = X12_sumUp_b9 B fu r') ∧ Fc a s s' ∧ Fq B r r' ∧ M.length = pdN p ∧ Rl a B t len law n i (L ++ M) d s' r' ∧ ∀ T, tyL M (stk p T) = some (false :: T) := by
  have hn : n ≤ 400 := h.1.1
  have hi := h.2.2.1
  obtain ⟨e12, e13, -⟩ := enc_op law
  rcases hp with rfl | rfl | rfl
  · refine ⟨s, r, [], ?_, fun fu => rfl, Fc.rfl, Fq.rfl, rfl, by rw [List.append_nil]; exact h, fun T => rfl⟩
    unfold X5_sum_b116; exact if_pos rfl
  · have hl : L.length + 1 ≤ i := hl
    obtain ⟨s', r', z1, z2, z3, z4, z5⟩ := h.emit (x := 12) (y := 0) (e := 2) (x1 := 2) (x2 := 0) (v := 0) (by omega) (by decide) (by decide) e12 (fun z => by omega) (sh4 (x := 2) (y := 0) (by decide) (by decide))
    refine ⟨s', r', [(12, 0)], ?_, fun fu => ?_, z3, z4, rfl, z5, fun T => rfl⟩
    · unfold X5_sum_b116
      rw [if_neg (show ¬ pdC (some 12) = -1 by decide), show pdC (some 12) = 2 from rfl, z1, bsm]
    · show ((X12_lay_f B (nI 12) 0 r).bind _) = _
      rw [z2, bsm]
  · have hl : L.length + 1 ≤ i := hl
    obtain ⟨s', r', z1, z2, z3, z4, z5⟩ := h.emit (x := 13) (y := 0) (e := 3) (x1 := 3) (x2 := 0) (v := 0) (by omega) (by decide) (by decide) e13 (fun z => by omega) (sh4 (x := 3) (y := 0) (by decide) (by decide))
    refine ⟨s', r', [(13, 0)], ?_, fun fu => ?_, z3, z4, rfl, z5, fun T => rfl⟩
    · unfold X5_sum_b116
      rw [if_neg (show ¬ pdC (some 13) = -1 by decide), show pdC (some 13) = 3 from rfl, z1, bsm]
    · show ((X12_lay_f B (nI 13) 0 r).bind _) = _
      rw [z2, bsm]
end SU

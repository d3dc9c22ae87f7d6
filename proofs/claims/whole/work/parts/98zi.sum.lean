/-! TEXTS: a sum, both sides. -/
def Oc (a B : Nat) (t : Nat → Int32) (len : Nat) (law : Bool) (n i : Nat) (L : List (Nat × Nat)) (d : Nat) (s r : Sig) (K : Nat) (P0 : List Bool → List Bool) (x : Bool) (lim : Nat) (X : Option Sig) (Y : Option (Int32 × Sig)) : Prop := ∃ s' v r', X = some s' ∧ Y = some (v, r') ∧ Fc a s s' ∧ Fq B r r' ∧ ((v = 1 ∧ ∃ i' M, i ≤ i' ∧ M.length + i ≤ i' + lim ∧ Rl a B t len law n i' (L ++ M) d s' r' ∧ ∀ T, T.length + K ≤ 32 → tyL M (P0 T) = some (x :: T)) ∨ (v = 0 ∧ Bd a B t len law n s' r'))
theorem wr_comm {s : Sig} {a b k j : Nat} {v w : Int32} (h : a ≠ b ∨ k ≠ j) : wr (wr s a k v) b j w = wr (wr s b j w) a k v := by
  funext x y
  by_cases c1 : x = a
  · subst c1
    by_cases c2 : x = b
    · subst c2
      have hk : k ≠ j := h.elim (fun z => absurd rfl z) id
      rw [wr_same, wr_same, wr_same, wr_same]
      by_cases e : y = j
      · rw [if_pos e, if_neg (by omega), if_pos e]
      · rw [if_neg e, if_neg e]
    · rw [wr_row c2, wr_same, wr_same, wr_row c2]
  · rw [wr_row c1]
    by_cases c2 : x = b
    · subst c2; rw [wr_same, wr_same, wr_row c1]
    · rw [wr_row c2, wr_row c2, wr_row c1]
section SS
variable {a B : Nat} {t : Nat → Int32} {len : Nat} {law : Bool} {n i d : Nat} {L : List (Nat × Nat)} {s r : Sig}
/-- emit and step in either order -/
theorem Rl.es (h : Rl a B t len law n i L d s r) (hi : i < n) (hl : L.length < 400) (x1 x2 : Int32) : (X5_step_f a s).bind (fun q => X5_emit_f a x1 x2 q) = (X5_emit_f a x1 x2 s).bind (fun q => X5_step_f a q) := by
  obtain ⟨hS, -, h1, h3, h4, h5, -⟩ := h
  have hn := hS.1
  have e1 : nI (n + 1) - 1 = nI n := by
    have := pk_sub (a := n + 1) (b := 1) (by omega)
    exact this
  have E : ∀ q : Sig, q a 4 = nI L.length → X5_emit_f a x1 x2 q = some (wr (wr q (a + 1) L.length ((x2 <<< (4 &&& 31)) ||| x1)) a 4 (nI (L.length + 1))) := fun q hq => by
    unfold X5_emit_f pI
    rw [hq, if_neg (show ¬ (400 : Int32) ≤ nI L.length from nI_ge (b := 400) hl (by decide)), stn (by omega) (by decide), bsm, wr_row (by omega), hq, nI_s, bsm]
  have S : ∀ q : Sig, q a 11 = nI (n + 1) → q a 12 = nI i → X5_step_f a q = some (wr q a 12 (nI (i + 1))) := fun q q1 q2 => by
    unfold X5_step_f pI
    rw [q1, q2, e1, if_neg (nI_ge hi (by omega)), bsm, nI_s]
  rw [S s hS.2.1 h4, E s h5, bsm, bsm, E _ (by rw [wr_o (by decide)]; exact h5), S _ (by rw [wr_o (by decide), wr_row (by omega)]; exact hS.2.1) (by rw [wr_o (by decide), wr_row (by omega)]; exact h4)]
  rw [wr_comm (s := s) (a := a) (b := a + 1) (by omega), wr_comm (a := a) (b := a) (k := 12) (j := 4) (by omega)]
theorem Rl.lt (h : Rl a B t len law n i L d s r) (hk : tK t len law i ≠ 0) : i < n := by
  have hi : i ≤ n := h.2.2.1
  rcases Nat.lt_or_ge i n with c | c
  · exact c
  · exact absurd (by rw [show i = n by omega]; exact h.1.2.2.2.1) hk
theorem Rl.k14 (h : Rl a B t len law n i L d s r) {c : Nat} (hc : c < 63) (hc2 : 40 ≤ c) : r B 14 = nI (100 + c) ↔ tK t len law i = c := by
  obtain ⟨kd, kl⟩ := tK_dom (t := t) (len := len) (law := law) i
  have k200 := (kr_tab law _ kl kd).1
  rw [h.2.2.2.2.2.2.2.1, nI_eq (by omega) (by omega)]
  exact kr_sig law _ kl kd c hc hc2
theorem recK {kc : Nat} (hk : kc < 115) {σ : Sig} : ((kc = 42 ∨ kc = 43 ∨ kc = 45 ∨ kc = 47) → X5_isReckoning_f (nI kc) σ = some 1) ∧ (¬ (kc = 42 ∨ kc = 43 ∨ kc = 45 ∨ kc = 47) → X5_isReckoning_f (nI kc) σ = some 0) := by
  unfold X5_isReckoning_f
  constructor
  · rintro (rfl | rfl | rfl | rfl) <;> rfl
  · intro h
    rw [if_neg (fun z => h (by have := nI_inj (b := 43) (by omega) (by decide) z; omega)), if_neg (fun z => h (by have := nI_inj (b := 45) (by omega) (by decide) z; omega)), if_neg (fun z => h (by have := nI_inj (b := 42) (by omega) (by decide) z; omega)), if_neg (fun z => h (by have := nI_inj (b := 47) (by omega) (by decide) z; omega))]
/-- the class's divisor, the reference's number -/
theorem Rl.div (h : Rl a B t len law n i L d s r) (hl : L.length ≤ i) : ∃ (s' : Sig) (v : Int32) (r' : Sig), X5_divisor_f a s = some s' ∧ (((X12_number_f B 1 9999 r).bind fun ⟨v10, s11⟩ => if v10 = 0 then (some ((0 : Int32), s11)) else ((X12_lay_f B 15 (r B 16) s11).bind fun s14 => some ((1 : Int32), s14))) = some (v, r')) ∧ Fc a s s' ∧ Fq B r r' ∧ ((v = 1 ∧ i < n ∧ ∃ y, Rl a B t len law n (i + 1) (L ++ [(15, y)]) d s' r') ∨ (v = 0 ∧ Bd a B t len law n s' r')) := by
  obtain ⟨kd, kl⟩ := tK_dom (t := t) (len := len) (law := law) i
  obtain ⟨k200, t1, -, -⟩ := kr_tab law _ kl kd
  have hn : n ≤ 400 := h.1.1
  have hi : i ≤ n := h.2.2.1
  have h14 : r B 14 = nI (kr law (tK t len law i)) := h.2.2.2.2.2.2.2.1
  have e2 : r B 14 = 2 ↔ tK t len law i = 1 := by
    rw [h14, ← t1]; exact nI_eq (b := 2) (by omega) (by decide)
  unfold X5_divisor_f X12_number_f
  rw [h.kd, bsm]
  by_cases c1 : tK t len law i = 1
  · obtain ⟨hv, hv9⟩ := h.vl c1
    have h16 : r B 16 = nI (tV t len law i) := h.2.2.2.2.2.2.2.2.2.1 c1
    have hlt := h.lt (by omega)
    rw [c1, if_pos (show nI 1 = 1 from rfl), hv, bsm, bsm, if_pos (e2.mpr c1), h16]
    by_cases c0 : tV t len law i = 0
    · obtain ⟨s1, r1, z1, z2, z3, z4, z5⟩ := h.fail (k := 2) (by omega) (by decide) (by decide)
      rw [c0, if_pos (show nI 0 = 0 from rfl), show (2 : Int32) = nI 2 from rfl, z1, bsm, re_isIn_out (Or.inl (show nI 0 < 1 by decide)), bsm, if_pos rfl, z2, bsm]
      exact ⟨s1, 0, r1, rfl, rfl, z3, z4, Or.inr ⟨rfl, z5⟩⟩
    · have hne : ¬ nI (tV t len law i) = 0 := fun z => c0 (nI_inj (b := 0) (by omega) (by decide) z)
      obtain ⟨s2, r2, y1, y2, y3, y4, y5⟩ := h.step (by omega)
      have ee : enc law 15 (tV t len law i) = some (16 * tV t len law i + 5) := by
        unfold enc; rw [if_neg (by decide), if_neg (by decide), if_pos rfl, if_pos (by omega)]
      obtain ⟨s3, r3, z1, z2, z3, z4, z5⟩ := y5.emit (x := 15) (y := tV t len law i) (e := 16 * tV t len law i + 5) (x1 := 5) (x2 := nI (tV t len law i)) (v := nI (tV t len law i)) (by omega) (by decide) hv9 ee (fun _ => rfl) (sh4 (x := 5) (by decide) hv9)
      have hes := h.es hlt (by omega) 5 (nI (tV t len law i))
      rw [y1, bsm, z1] at hes
      rw [if_neg hne]
      have hcl : ((X5_emit_f a 5 (nI (tV t len law i)) s).bind fun s9 => (X5_step_f a s9).bind fun s11 => some s11) = some s3 := by
        cases he : X5_emit_f a 5 (nI (tV t len law i)) s with
        | none => rw [he] at hes; cases hes
        | some q =>
          rw [he, bsm] at hes
          rw [bsm, ← hes, bsm]
      rw [hcl, re_isIn_in (show (1 : Int32) ≤ nI (tV t len law i) from nI_le (a := 1) (by omega) (by omega)) (show nI (tV t len law i) ≤ 9999 from nI_le (b := 9999) hv9 (by decide)), bsm, if_neg n10, y2, bsm, bsm]
      dsimp only
      rw [if_neg n10, show (15 : Int32) = nI 15 from rfl, z2, bsm]
      exact ⟨s3, 1, r3, rfl, rfl, y3.tr z3, y4.tr z4, Or.inl ⟨rfl, hlt, _, z5⟩⟩
  · have c1' : ¬ nI (tK t len law i) = 1 := fun z => c1 (nI_inj (b := 1) (by omega) (by decide) z)
    obtain ⟨s1, r1, z1, z2, z3, z4, z5⟩ := h.fail (k := 1) (by omega) (by decide) (by decide)
    rw [if_neg c1', if_neg (fun z => c1 (e2.mp z)), show (1 : Int32) = nI 1 from rfl, z1, bsm, z2, bsm]
    exact ⟨s1, 0, r1, rfl, rfl, z3, z4, Or.inr ⟨rfl, z5⟩⟩
end SS

/-! TEXTS: a unit. -/
theorem bt_shl4 (x : Int32) (i : Nat) : bt (x <<< (4 &&& 31)) i = (decide (4 ≤ i ∧ i < 32) && bt x (i - 4)) := by
  unfold bt
  rw [Int32.toBitVec_shiftLeft, show ((4 &&& 31 : Int32).toBitVec.smod 32) = 4#32 from by decide, BitVec.shiftLeft_eq', BitVec.getLsbD_shiftLeft]
  show (decide (i < 32) && !decide (i < 4) && x.toBitVec.getLsbD (i - 4)) = _
  by_cases c : i < 4
  · simp [c]; intro z; omega
  · by_cases c2 : i < 32
    · simp [c, c2, show 4 ≤ i by omega]
    · simp [c2]
theorem sh4 {x y : Nat} (hx : x < 16) (hy : y ≤ 9999) : (nI y <<< (4 &&& 31)) ||| nI x = nI (16 * y + x) := by
  refine bt_ext (fun i => ?_)
  rw [bt_or, bt_shl4, bt_nI (by omega), bt_nI (by omega), bt_nI (by omega), show 16 * y + x = 2 ^ 4 * y + x by omega, Nat.testBit_two_pow_mul_add _ (by omega)]
  by_cases c : i < 4
  · rw [if_pos c, decide_eq_false (by omega), Bool.false_and, Bool.false_or]
  · have h16 : (2 : Nat) ^ 4 ≤ 2 ^ i := Nat.pow_le_pow_right (by decide) (by omega)
    rw [if_neg c, Nat.testBit_lt_two_pow (i := i) (show x < 2 ^ i by omega), Bool.or_false]
    by_cases c2 : i < 32
    · rw [decide_eq_true (by omega), Bool.true_and]
    · have h14 : (2 : Nat) ^ 14 ≤ 2 ^ (i - 4) := Nat.pow_le_pow_right (by decide) (by omega)
      rw [decide_eq_false (by omega), Bool.false_and, Nat.testBit_lt_two_pow (show y < 2 ^ (i - 4) by omega)]
/-- which kinds there are -/
def kDom (law : Bool) (kc : Nat) : Bool := decide (kc ≤ 2) || (decide (40 ≤ kc) && decide (kc ≤ 62)) || (decide (100 ≤ kc) && decide (kc < if law then 111 else 115))
theorem tK_dom {t : Nat → Int32} {len : Nat} {law : Bool} (i : Nat) : kDom law (tK t len law i) = true ∧ tK t len law i < 115 := by
  obtain ⟨-, -, -, -, h⟩ := tk_ok (t := t) (len := len) (law := law) i
  generalize tK t len law i = kc at h
  have fin : (kc ≤ 2 ∨ (40 ≤ kc ∧ kc ≤ 62) ∨ (100 ≤ kc ∧ kc < if law then 111 else 115)) → kDom law kc = true ∧ kc < 115 := by
    intro h
    refine ⟨?_, ?_⟩
    · unfold kDom
      simp only [Bool.or_eq_true, Bool.and_eq_true, decide_eq_true_iff]
      rcases h with h | h | h
      · exact Or.inl (Or.inl h)
      · exact Or.inl (Or.inr h)
      · exact Or.inr h
    · cases law <;> simp at h <;> omega
  rcases h with ⟨-, h, -⟩ | ⟨-, -, -, -, h⟩
  · exact fin (by omega)
  · rcases h with ⟨-, -, -, r, g4, g5⟩ | ⟨-, -, -, -, g5⟩ | ⟨-, -, -, g4⟩
    · rcases kwF_cases _ _ _ g4 with ⟨j, x, h1, h2, -⟩ | ⟨h2, -⟩
      · rw [h2] at g5
        have g5 : kc = 100 + j := g5
        have hj : j < (if law then lawL else ruleL).length := (List.getElem?_eq_some_iff.mp h1).1
        refine fin (Or.inr (Or.inr ⟨by omega, ?_⟩))
        cases law
        · have : ruleL.length = 15 := rfl
          simp at hj ⊢; omega
        · have : lawL.length = 11 := rfl
          simp at hj ⊢; omega
      · rw [h2] at g5
        have g5 : kc = 2 := g5
        exact fin (by omega)
    · rcases g5 with ⟨-, h⟩ | ⟨-, h, -⟩ <;> exact fin (by omega)
    · rcases g4 with ⟨-, -, h1, h2⟩ | ⟨-, h⟩
      · exact fin (Or.inr (Or.inl ⟨h1, h2⟩))
      · exact fin (by omega)
def base (law : Bool) : Nat := if law then 105 else 107
theorem kr_tab : ∀ law : Bool, ∀ kc, kc < 115 → kDom law kc = true → kr law kc < 200 ∧ ((kr law kc = 2) ↔ kc = 1) ∧ ((41 ≤ kr law kc ∧ kr law kc ≤ 51) ↔ base law ≤ kc) ∧ (base law ≤ kc → encV law (kr law kc - 40) = some (kc - base law)) := by decide +kernel
theorem enc_unit {law : Bool} {x y k : Nat} (h1 : 1 ≤ x) (h2 : x < 12) (h : encV law x = some k) : enc law x y = some (16 * k + 1) := by
  unfold enc; rw [if_neg (by omega), if_pos h2, h]; rfl
section UN
variable {a B : Nat} {t : Nat → Int32} {len : Nat} {law : Bool} {n i d : Nat} {L : List (Nat × Nat)} {s r : Sig}
theorem Rl.unit (h : Rl a B t len law n i L d s r) (hl : L.length ≤ i) : ∃ s' v r', X5_unit_f a s = some s' ∧ X12_unit_f B r = some (v, r') ∧ Fc a s s' ∧ Fq B r r' ∧ ((v = 1 ∧ i < n ∧ ∃ x y, x < 12 ∧ Rl a B t len law n (i + 1) (L ++ [(x, y)]) d s' r') ∨ (v = 0 ∧ Bd a B t len law n s' r')) := by
  obtain ⟨kd, kl⟩ := tK_dom (t := t) (len := len) (law := law) i
  obtain ⟨k200, t1, t2, t3⟩ := kr_tab law _ kl kd
  have hkd := h.kd
  have hi : i ≤ n := h.2.2.1
  have hn : n ≤ 400 := h.1.1
  have h14 : r B 14 = nI (kr law (tK t len law i)) := h.2.2.2.2.2.2.2.1
  have h2 : s a 2 = if law then 1 else 0 := h.1.2.2.2.2
  have hin : tK t len law i ≠ 0 → i < n := fun hk => by
    rcases Nat.lt_or_ge i n with c | c
    · exact c
    · exact absurd (by rw [show i = n by omega]; exact h.1.2.2.2.1) hk
  have hcl : X5_unit_f a s = X5_unit_b24 a (nI (tK t len law i)) (nI (base law)) s := by
    unfold X5_unit_f
    rw [hkd, bsm, h2]
    cases law
    · rfl
    · rfl
  have e2 : nI (kr law (tK t len law i)) = 2 ↔ tK t len law i = 1 := by
    rw [← t1]; exact nI_eq (b := 2) (by omega) (by decide)
  by_cases c1 : tK t len law i = 1
  · obtain ⟨hv, hv9⟩ := h.vl c1
    have h16 : r B 16 = nI (tV t len law i) := h.2.2.2.2.2.2.2.2.2.1 c1
    have hlt := hin (by omega)
    obtain ⟨s1, r1, z1, z2, z3, z4, z5⟩ := h.emit (x := 0) (y := tV t len law i) (e := 16 * tV t len law i) (x1 := 0) (x2 := nI (tV t len law i)) (v := nI (tV t len law i)) (by omega) (by decide) hv9 rfl (fun _ => rfl) (sh4 (x := 0) (by decide) hv9)
    obtain ⟨s2, r2, y1, y2, y3, y4, y5⟩ := z5.step (by omega)
    refine ⟨s2, 1, r2, ?_, ?_, z3.tr y3, z4.tr y4, Or.inl ⟨rfl, hlt, 0, _, by decide, y5⟩⟩
    · rw [hcl]; unfold X5_unit_b24
      rw [c1, if_pos (show nI 1 = 1 from rfl), hv, bsm, z1, bsm, y1, bsm]
    · unfold X12_unit_f X12_unit_b30 X12_unit_b46
      have o : X12_isIn_f (r B 14) 41 51 r = some 0 := by
        rw [h14, c1]; exact re_isIn_out (Or.inl (show nI (kr law 1) < 41 from by cases law <;> decide))
      rw [o, bsm, if_pos (by rw [h14]; exact e2.mpr c1), if_pos rfl, h16, show (0 : Int32) = nI 0 from rfl, z2, bsm, y2, bsm]
  · have c1' : ¬ nI (tK t len law i) = 1 := fun z => c1 (nI_inj (b := 1) (by omega) (by decide) z)
    have c2' : ¬ r B 14 = 2 := by rw [h14]; exact fun z => c1 (e2.mp z)
    have hb : base law ≤ 107 := by cases law <;> decide
    have hb5 : 105 ≤ base law := by cases law <;> decide
    by_cases c : base law ≤ tK t len law i
    · obtain ⟨k1, k2⟩ := t2.mpr c
      have hk0 : tK t len law i ≠ 0 := by omega
      have hlt := hin hk0
      have ee : (nI (tK t len law i) - nI (base law) : Int32) = nI (tK t len law i - base law) := pk_sub c
      have es : (nI (kr law (tK t len law i)) - 40 : Int32) = nI (kr law (tK t len law i) - 40) := pk_sub (b := 40) (by omega)
      obtain ⟨s1, r1, z1, z2, z3, z4, z5⟩ := h.emit (x := kr law (tK t len law i) - 40) (y := 0) (e := 16 * (tK t len law i - base law) + 1) (x1 := 1) (x2 := nI (tK t len law i - base law)) (v := r B 16) (by omega) (by omega) (by omega) (enc_unit (by omega) (by omega) (t3 c)) (fun z => by omega) (sh4 (x := 1) (by decide) (by omega))
      obtain ⟨s2, r2, y1, y2, y3, y4, y5⟩ := z5.step hk0
      refine ⟨s2, 1, r2, ?_, ?_, z3.tr y3, z4.tr y4, Or.inl ⟨rfl, hlt, _, 0, by omega, y5⟩⟩
      · rw [hcl]; unfold X5_unit_b24
        rw [if_neg c1', if_neg (nI_nlt c (by omega)), ee, z1, bsm, y1, bsm]
      · unfold X12_unit_f X12_unit_b30 X12_unit_b46
        have o : X12_isIn_f (r B 14) 41 51 r = some 1 := by
          rw [h14]; exact re_isIn_in (nI_le (a := 41) k1 (by omega)) (nI_le (b := 51) k2 (by decide))
        rw [o, bsm, if_neg c2', if_neg n10, if_neg n10, h14, es, z2, bsm, y2, bsm]
    · obtain ⟨s1, r1, z1, z2, z3, z4, z5⟩ := h.fail (k := 1) (by omega) (by decide) (by decide)
      refine ⟨s1, 0, r1, ?_, ?_, z3, z4, Or.inr ⟨rfl, z5⟩⟩
      · rw [hcl]; unfold X5_unit_b24
        rw [if_neg c1', if_pos (nI_lt (by omega) (by omega)), show (1 : Int32) = nI 1 from rfl, z1, bsm]
      · unfold X12_unit_f
        have o : X12_isIn_f (r B 14) 41 51 r = some 0 := by
          rw [h14]
          refine re_isIn_out ?_
          rcases Nat.lt_or_ge (kr law (tK t len law i)) 41 with q | q
          · exact Or.inl (nI_lt (b := 41) q (by decide))
          · exact Or.inr (nI_lt (a := 51) (by
              rcases Nat.lt_or_ge 51 (kr law (tK t len law i)) with w | w
              · exact w
              · exact absurd (t2.mp ⟨q, w⟩) c) (by omega))
        rw [o, bsm, if_neg c2', if_pos rfl, show (1 : Int32) = nI 1 from rfl, z2, bsm]
        rfl
end UN

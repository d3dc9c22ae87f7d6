/-! TEXTS: the words. -/
abbrev sw (w j : Nat) : Int32 := (strByt.getD w []).getD j 0
abbrev sl (w : Nat) : Nat := strLen.getD w 0
theorem sl_le : ∀ w, sl w ≤ 74 := by
  intro w
  rcases Nat.lt_or_ge w 21 with h | h
  · have : ∀ w, w < 21 → sl w ≤ 74 := by decide
    exact this w h
  · have e : strLen[w]? = none := List.getElem?_eq_none h
    unfold sl List.getD; rw [e]; decide
theorem slen_n (w : Nat) : slen w = nI (sl w) := rfl
theorem sch_n {w j : Nat} (h : j < sl w) : sch w (nI j) = some (sw w j) := by
  have := sl_le w
  unfold sch; exact ldn h (Nat.lt_of_le_of_lt this (by decide))
/-- the run of n bytes from q is word w -/
def Mt (t : Nat → Int32) (q n w : Nat) : Prop := n = sl w ∧ ∀ i, i < sl w → t (q + i) = sw w i
/-- word w lies at p in the list s -/
def wordAt (s p w : Nat) : Bool := ((List.range (sl w)).all fun i => sw s (p + i) == sw w i && sw w i != 32) && ((p + sl w == sl s) || (decide (p + sl w < sl s) && sw s (p + sl w) == 32))
theorem kw_step {a T e q s p w idx : Nat} {σ : Sig} (hw : wordAt s p w = true) (hq : q ≤ e) (he : e ≤ 400) {fu : Nat} (hf : sl w < fu) : (Mt (σ (T + 1)) q (e - q) w → X5_keyword_b29 a T σ fu s (nI q) (nI e) (nI idx) (nI q) 1 (nI p) = some (nI idx)) ∧ (¬ Mt (σ (T + 1)) q (e - q) w → ∃ fu', fu = fu' + (sl w + 1) ∧ X5_keyword_b29 a T σ fu s (nI q) (nI e) (nI idx) (nI q) 1 (nI p) = X5_keyword_b29 a T σ fu' s (nI q) (nI e) (nI (idx + 1)) (nI q) 1 (nI (p + sl w + 1))) := by
  unfold wordAt at hw
  rw [Bool.and_eq_true, List.all_eq_true] at hw
  obtain ⟨h1, h2⟩ := hw
  have hs := sl_le s
  have hlw := sl_le w
  have hle : p + sl w ≤ sl s := by
    rw [Bool.or_eq_true, Bool.and_eq_true, decide_eq_true_iff, beq_iff_eq] at h2
    rcases h2 with h | ⟨h, -⟩ <;> omega
  have hc : ∀ i, i < sl w → sw s (p + i) = sw w i ∧ sw w i ≠ 32 := fun i hi => by
    have := h1 i (List.mem_range.mpr hi)
    rw [Bool.and_eq_true, beq_iff_eq, bne_iff_ne] at this
    exact this
  have hend : ∀ (fu : Nat) (x6 x7 : Int32), X5_keyword_b29 a T σ (fu + 1) s (nI q) (nI e) (nI idx) x6 x7 (nI (p + sl w)) = X5_keyword_b61 a T σ (X5_keyword_b29 a T σ fu) s (nI q) (nI e) (nI idx) x6 x7 (nI (p + sl w)) 32 := fun fu x6 x7 => by
    show (if (slen s) < nI (p + sl w) then _ else _) = _
    rw [slen_n, if_neg (nI_nlt hle (by omega))]
    rw [Bool.or_eq_true, Bool.and_eq_true, decide_eq_true_iff, beq_iff_eq, beq_iff_eq] at h2
    rcases h2 with h | ⟨h, h'⟩
    · rw [h, if_pos (Int32.le_refl _)]
    · rw [if_neg (nI_ge h (by omega)), sch_n h, bsm, h']
  have key : ∀ k i fu m, i + k = sl w → k < fu → ((m = (1 : Int32) ∧ ∀ j, j < i → q + j < e ∧ σ (T + 1) (q + j) = sw w j) ∨ (m = 0 ∧ ¬ ∀ j, j < i → q + j < e ∧ σ (T + 1) (q + j) = sw w j)) → (Mt (σ (T + 1)) q (e - q) w → X5_keyword_b29 a T σ fu s (nI q) (nI e) (nI idx) (nI (q + i)) m (nI (p + i)) = some (nI idx)) ∧ (¬ Mt (σ (T + 1)) q (e - q) w → ∃ fu', fu = fu' + (k + 1) ∧ X5_keyword_b29 a T σ fu s (nI q) (nI e) (nI idx) (nI (q + i)) m (nI (p + i)) = X5_keyword_b29 a T σ fu' s (nI q) (nI e) (nI (idx + 1)) (nI q) 1 (nI (p + sl w + 1))) := by
    intro k
    induction k with
    | zero =>
      intro i fu m hi hfu hm
      obtain rfl : i = sl w := by omega
      obtain ⟨fu, rfl⟩ : ∃ f, fu = f + 1 := ⟨fu - 1, by omega⟩
      rw [hend]
      unfold X5_keyword_b61
      rw [if_pos rfl, nI_s, nI_s]
      rcases hm with ⟨rfl, hm⟩ | ⟨rfl, hm⟩
      · rw [if_neg n10]
        by_cases c : q + sl w = e
        · rw [c, if_pos rfl]
          exact ⟨fun _ => rfl, fun z => absurd ⟨by omega, fun i hi => (hm i hi).2⟩ z⟩
        · rw [if_neg (fun z => c (nI_inj (by omega) (by omega) z))]
          exact ⟨fun z => absurd z.1 (by omega), fun _ => ⟨fu, rfl, rfl⟩⟩
      · rw [if_pos rfl]
        refine ⟨fun z => absurd (fun j hj => ⟨by have := z.1; omega, z.2 j hj⟩) hm, fun _ => ⟨fu, rfl, rfl⟩⟩
    | succ k ih =>
      intro i fu m hi hfu hm
      obtain ⟨fu, rfl⟩ : ∃ f, fu = f + 1 := ⟨fu - 1, by omega⟩
      obtain ⟨c1, c2⟩ := hc i (by omega)
      have st : X5_keyword_b29 a T σ (fu + 1) s (nI q) (nI e) (nI idx) (nI (q + i)) m (nI (p + i)) = X5_keyword_b61 a T σ (X5_keyword_b29 a T σ fu) s (nI q) (nI e) (nI idx) (nI (q + i)) m (nI (p + i)) (sw w i) := by
        show (if (slen s) < nI (p + i) then _ else _) = _
        rw [slen_n, if_neg (nI_nlt (by omega) (by omega)), if_neg (nI_ge (by omega) (by omega)), sch_n (by omega), bsm, c1]
      rw [st]
      unfold X5_keyword_b61
      rw [if_neg c2, nI_s, nI_s]
      have bad : (¬ ∀ j, j < i + 1 → q + j < e ∧ σ (T + 1) (q + j) = sw w j) → (Mt (σ (T + 1)) q (e - q) w → X5_keyword_b29 a T σ fu s (nI q) (nI e) (nI idx) (nI (q + i + 1)) 0 (nI (p + i + 1)) = some (nI idx)) ∧ (¬ Mt (σ (T + 1)) q (e - q) w → ∃ fu', fu + 1 = fu' + (k + 1 + 1) ∧ X5_keyword_b29 a T σ fu s (nI q) (nI e) (nI idx) (nI (q + i + 1)) 0 (nI (p + i + 1)) = X5_keyword_b29 a T σ fu' s (nI q) (nI e) (nI (idx + 1)) (nI q) 1 (nI (p + sl w + 1))) := fun hb => by
        obtain ⟨z1, z2⟩ := ih (i + 1) fu 0 (by omega) (by omega) (Or.inr ⟨rfl, hb⟩)
        refine ⟨z1, fun z => ?_⟩
        obtain ⟨fu', e1, e2⟩ := z2 z
        exact ⟨fu', by omega, e2⟩
      rcases hm with ⟨rfl, hm⟩ | ⟨rfl, hm⟩
      · rw [if_neg n10]
        by_cases c : e ≤ q + i
        · rw [if_pos (nI_le c (by omega))]
          exact bad (fun z => by have := (z i (by omega)).1; omega)
        · rw [if_neg (nI_ge (by omega) (by omega)), ldn (by omega) (by decide), bsm]
          by_cases c3 : σ (T + 1) (q + i) = sw w i
          · rw [if_pos c3]
            obtain ⟨z1, z2⟩ := ih (i + 1) fu 1 (by omega) (by omega) (Or.inl ⟨rfl, fun j hj => by
              by_cases ej : j = i
              · rw [ej]; exact ⟨by omega, c3⟩
              · exact hm j (by omega)⟩)
            refine ⟨z1, fun z => ?_⟩
            obtain ⟨fu', e1, e2⟩ := z2 z
            exact ⟨fu', by omega, e2⟩
          · rw [if_neg c3]
            exact bad (fun z => c3 (z i (by omega)).2)
      · rw [if_pos rfl]
        exact bad (fun z => hm (fun j hj => z j (by omega)))
  exact key (sl w) 0 fu 1 (by omega) hf (Or.inl ⟨rfl, fun j hj => absurd hj (by omega)⟩)
/-- the first word of a list that matches -/
def kwF (t : Nat → Int32) (q n : Nat) : List (Nat × Nat) → Nat → Option Nat → Prop
  | [], _, r => r = none
  | (_, w) :: l, idx, r => (Mt t q n w ∧ r = some idx) ∨ (¬ Mt t q n w ∧ kwF t q n l (idx + 1) r)
theorem kwF_ex {t : Nat → Int32} {q n : Nat} : ∀ (l : List (Nat × Nat)) (idx : Nat), ∃ r, kwF t q n l idx r
  | [], _ => ⟨none, rfl⟩
  | (_, w) :: l, idx => by
    by_cases c : Mt t q n w
    · exact ⟨some idx, Or.inl ⟨c, rfl⟩⟩
    · obtain ⟨r, hr⟩ := kwF_ex l (idx + 1)
      exact ⟨r, Or.inr ⟨c, hr⟩⟩
/-- the words of a list lie one behind the other from p on -/
def kwL (s : Nat) : List (Nat × Nat) → Nat → Bool
  | [], p => p == sl s + 1
  | (p', w) :: l, p => p' == p && wordAt s p w && kwL s l (p + sl w + 1)
def kwN (r : Option Nat) : Nat := match r with | some k => k | none => 2
theorem kw_list {a T e q s : Nat} {σ : Sig} (hq : q ≤ e) (he : e ≤ 400) : ∀ (l : List (Nat × Nat)) (p idx fu : Nat) (r : Option Nat), kwL s l p = true → p ≤ sl s + 1 → sl s + 1 < fu + p → kwF (σ (T + 1)) q (e - q) l idx r → X5_keyword_b29 a T σ fu s (nI q) (nI e) (nI idx) (nI q) 1 (nI p) = some (nI (kwN r))
  | [], p, idx, fu, r, hL, hp, hf, hr => by
    have hs := sl_le s
    unfold kwL at hL
    rw [beq_iff_eq] at hL
    subst hL
    obtain ⟨fu, rfl⟩ : ∃ f, fu = f + 1 := ⟨fu - 1, by omega⟩
    show (if (slen s) < nI (sl s + 1) then _ else _) = _
    rw [slen_n, if_pos (nI_lt (by omega) (by omega))]
    unfold kwF at hr; rw [hr]; rfl
  | (p', w) :: l, p, idx, fu, r, hL, hp, hf, hr => by
    unfold kwL at hL
    rw [Bool.and_eq_true, Bool.and_eq_true, beq_iff_eq] at hL
    obtain ⟨⟨rfl, hw⟩, hl⟩ := hL
    have hle : p' + sl w ≤ sl s := by
      have h2 := hw
      unfold wordAt at h2
      rw [Bool.and_eq_true, Bool.or_eq_true, Bool.and_eq_true, decide_eq_true_iff, beq_iff_eq] at h2
      rcases h2.2 with h | ⟨h, -⟩ <;> omega
    obtain ⟨z1, z2⟩ := kw_step (a := a) (T := T) (idx := idx) (σ := σ) hw hq he (fu := fu) (by omega)
    unfold kwF at hr
    rcases hr with ⟨hm, rfl⟩ | ⟨hm, hr⟩
    · exact z1 hm
    · obtain ⟨fu', e1, e2⟩ := z2 hm
      rw [e2]
      exact kw_list hq he l (p' + sl w + 1) (idx + 1) fu' r hl (by omega) (by omega) hr
def lawL : List (Nat × Nat) := [(0, 2), (5, 3), (8, 4), (12, 5), (16, 9), (21, 10), (26, 11), (31, 6), (36, 7), (42, 8), (48, 12)]
def ruleL : List (Nat × Nat) := [(0, 2), (5, 3), (8, 4), (12, 5), (16, 13), (21, 14), (26, 15), (31, 6), (36, 16), (44, 17), (48, 7), (54, 8), (60, 18), (65, 19), (70, 20)]
theorem lawL_ok : kwL 0 lawL 0 = true := by decide +kernel
theorem ruleL_ok : kwL 1 ruleL 0 = true := by decide +kernel
/-- what a word is, to the class -/
theorem cl_kw {a T e q : Nat} {σ : Sig} {law : Bool} {r : Option Nat} (hlaw : σ a 2 = if law then 1 else 0) (hq : q ≤ e) (he : e ≤ 400) (hr : kwF (σ (T + 1)) q (e - q) (if law then lawL else ruleL) 100 r) : X5_keyword_f a T (nI q) (nI e) σ = some (nI (kwN r)) := by
  unfold X5_keyword_f X5_keyword_b14
  cases law with
  | true =>
    rw [hlaw, if_pos rfl, if_neg n10]
    exact kw_list (a := a) (T := T) (s := 0) (σ := σ) hq he lawL 0 100 FU r lawL_ok (by decide) (by unfold FU; decide) hr
  | false =>
    rw [hlaw, if_neg Bool.false_ne_true, if_pos rfl]
    exact kw_list (a := a) (T := T) (s := 1) (σ := σ) hq he ruleL 0 100 FU r ruleL_ok (by decide) (by unfold FU; decide) hr

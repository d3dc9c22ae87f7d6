/-! TEXTS: the tokens. -/
def isL (x : Int32) : Prop := (97 ≤ x ∧ x ≤ 122) ∨ (65 ≤ x ∧ x ≤ 90)
def isD (x : Int32) : Prop := 48 ≤ x ∧ x ≤ 57
def isS (x : Int32) : Prop := x = 59 ∨ x = 43 ∨ x = 45 ∨ x = 42 ∨ x = 47 ∨ x = 40 ∨ x = 41 ∨ x = 60 ∨ x = 61 ∨ x = 62
theorem letC {x : Int32} {σ : Sig} : (isL x → X5_isLetter_f x σ = some 1) ∧ (¬ isL x → X5_isLetter_f x σ = some 0) := by
  have b12 : ((65 ≤ x ∧ x ≤ 90) → X5_isLetter_b12 σ x = some 1) ∧ (¬ (65 ≤ x ∧ x ≤ 90) → X5_isLetter_b12 σ x = some 0) := by
    unfold X5_isLetter_b12
    constructor
    · intro h; rw [if_neg (Int32.not_lt.mpr h.1), if_neg (Int32.not_lt.mpr h.2)]
    · intro h
      by_cases c : x < 65
      · rw [if_pos c]
      · rw [if_neg c, if_pos (Int32.not_le.mp (fun z => h ⟨Int32.not_lt.mp c, z⟩))]
  unfold X5_isLetter_f
  constructor
  · rintro (h | h)
    · rw [if_neg (Int32.not_lt.mpr h.1), if_pos h.2]
    · split
      · exact b12.1 h
      · split
        · rfl
        · exact b12.1 h
  · intro h
    have h2 : ¬ (65 ≤ x ∧ x ≤ 90) := fun z => h (Or.inr z)
    split
    · exact b12.2 h2
    · next c => rw [if_neg (fun z => h (Or.inl ⟨Int32.not_lt.mp c, z⟩))]; exact b12.2 h2
theorem digC {x : Int32} {σ : Sig} : (isD x → X5_isDigit_f x σ = some 1) ∧ (¬ isD x → X5_isDigit_f x σ = some 0) := by
  unfold X5_isDigit_f
  constructor
  · intro h; rw [if_neg (Int32.not_lt.mpr h.1), if_neg (Int32.not_lt.mpr h.2)]
  · intro h
    by_cases c : x < 48
    · rw [if_pos c]
    · rw [if_neg c, if_pos (Int32.not_le.mp (fun z => h ⟨Int32.not_lt.mp c, z⟩))]
theorem sigC {x : Int32} {σ : Sig} : (isS x → X5_isSign_f x σ = some 1) ∧ (¬ isS x → X5_isSign_f x σ = some 0) := by
  unfold X5_isSign_f
  constructor
  · rintro (rfl | rfl | rfl | rfl | rfl | rfl | rfl | rfl | rfl | rfl) <;> rfl
  · intro h
    unfold isS at h
    simp only [not_or] at h
    obtain ⟨h1, h2, h3, h4, h5, h6, h7, h8, h9, h10⟩ := h
    rw [if_neg h1, if_neg h2, if_neg h3, if_neg h4, if_neg h5, if_neg h6, if_neg h7, if_neg h8, if_neg h9, if_neg h10]
theorem letR {x : Int32} {σ : Sig} : (isL x → X12_isLetter_f x σ = some 1) ∧ (¬ isL x → X12_isLetter_f x σ = some 0) := by
  unfold X12_isLetter_f
  constructor
  · rintro (h | h)
    · rw [re_isIn_in h.1 h.2, bsm, if_neg n10]
    · rcases within_in x 97 122 σ σ with ⟨a1, a2, -, a3⟩ | ⟨-, a3⟩
      · rw [a3, bsm, if_neg n10]
      · rw [a3, bsm, if_pos rfl, re_isIn_in h.1 h.2, bsm, if_neg n10]
  · intro h
    rcases within_in x 97 122 σ σ with ⟨a1, a2, -, a3⟩ | ⟨-, a3⟩
    · exact absurd (Or.inl ⟨a1, a2⟩) h
    · rw [a3, bsm, if_pos rfl]
      rcases within_in x 65 90 σ σ with ⟨a1, a2, -, a3⟩ | ⟨-, a3⟩
      · exact absurd (Or.inr ⟨a1, a2⟩) h
      · rw [a3, bsm, if_pos rfl]
theorem digR {x : Int32} {σ : Sig} : (isD x → X12_isDigit_f x σ = some 1) ∧ (¬ isD x → X12_isDigit_f x σ = some 0) := by
  unfold X12_isDigit_f
  constructor
  · intro h; rw [re_isIn_in h.1 h.2, bsm]; rfl
  · intro h
    rcases within_in x 48 57 σ σ with ⟨a1, a2, -, a3⟩ | ⟨-, a3⟩
    · exact absurd ⟨a1, a2⟩ h
    · rw [a3, bsm]; rfl
/-- the number that k digits from q on are -/
def valF (t : Nat → Int32) (q : Nat) : Nat → Int32
  | 0 => 0
  | k + 1 => valF t q k * 10 + t (q + k) - 48
theorem isD_n {x : Int32} (h : isD x) : ∃ d, d ≤ 9 ∧ x = nI (48 + d) := by
  obtain ⟨k, hk, rfl⟩ := within_up (m := 57) (by decide) (Int32.le_trans (show (0 : Int32) ≤ 48 by decide) h.1) h.2
  have : 48 ≤ k := (nI_le_iff (a := 48) (by decide) (by omega)).mp h.1
  exact ⟨k - 48, by omega, by rw [show 48 + (k - 48) = k by omega]⟩
theorem valF_n {t : Nat → Int32} {q : Nat} : ∀ k, k ≤ 4 → (∀ j, j < k → isD (t (q + j))) → ∃ v, v < 10 ^ k ∧ valF t q k = nI v
  | 0, _, _ => ⟨0, by decide, rfl⟩
  | k + 1, hk, h => by
    obtain ⟨v, hv, e⟩ := valF_n k (by omega) (fun j hj => h j (by omega))
    obtain ⟨d, hd, e2⟩ := isD_n (h k (by omega))
    refine ⟨v * 10 + d, by rw [Nat.pow_succ]; omega, ?_⟩
    unfold valF
    have h10 : 10 ^ k ≤ 10 ^ 4 := Nat.pow_le_pow_right (by decide) (by omega)
    rw [e, e2, show (10 : Int32) = nI 10 from rfl, pk_mul, nI_add, show (48 : Int32) = nI 48 from rfl, pk_sub (by omega)]
    congr 1; omega
/-- the token behind p: kind kc (as the class names it), at q, of value v, up to e -/
def Tk (t : Nat → Int32) (len : Nat) (law : Bool) (p kc q v e : Nat) : Prop := p ≤ q ∧ q ≤ e ∧ e ≤ len ∧ (∀ j, p ≤ j → j < q → t j = 32 ∨ t j = 10) ∧
  ((q = len ∧ kc = 0 ∧ e = len) ∨ (q < e ∧ kc ≠ 0 ∧ t q ≠ 32 ∧ t q ≠ 10 ∧
    ((isL (t q) ∧ (∀ j, q ≤ j → j < e → isL (t j)) ∧ (e = len ∨ ¬ isL (t e)) ∧ ∃ r, kwF t q (e - q) (if law then lawL else ruleL) 100 r ∧ kc = kwN r) ∨
     (¬ isL (t q) ∧ isD (t q) ∧ (∀ j, q ≤ j → j < e → isD (t j)) ∧ (e = len ∨ ¬ isD (t e)) ∧ ((4 < e - q ∧ kc = 2) ∨ (e - q ≤ 4 ∧ kc = 1 ∧ v ≤ 9999 ∧ valF t q (e - q) = nI v))) ∨
     (¬ isL (t q) ∧ ¬ isD (t q) ∧ e = q + 1 ∧ ((isS (t q) ∧ t q = nI kc ∧ 40 ≤ kc ∧ kc ≤ 62) ∨ (¬ isS (t q) ∧ kc = 2))))))
theorem run_ex {P : Nat → Prop} {len : Nat} : ∀ k q, q + k = len → ∃ e, q ≤ e ∧ e ≤ len ∧ (∀ j, q ≤ j → j < e → P j) ∧ (e = len ∨ ¬ P e)
  | 0, q, h => ⟨q, Nat.le_refl _, by omega, fun j h1 h2 => absurd h1 (by omega), Or.inl (by omega)⟩
  | k + 1, q, h => by
    by_cases c : P q
    · obtain ⟨e, a1, a2, a3, a4⟩ := run_ex (P := P) (len := len) k (q + 1) (by omega)
      refine ⟨e, by omega, a2, fun j h1 h2 => ?_, a4⟩
      by_cases ej : j = q
      · rw [ej]; exact c
      · exact a3 j (by omega) h2
    · exact ⟨q, Nat.le_refl _, by omega, fun j h1 h2 => absurd h1 (by omega), Or.inr c⟩
theorem Tk_ex (t : Nat → Int32) (len : Nat) (law : Bool) (p : Nat) (hp : p ≤ len) : ∃ kc q v e, Tk t len law p kc q v e := by
  obtain ⟨q, a1, a2, a3, a4⟩ := run_ex (P := fun j => t j = 32 ∨ t j = 10) (len := len) (len - p) p (by omega)
  by_cases c : q = len
  · exact ⟨0, q, 0, len, a1, a2, Nat.le_refl _, a3, Or.inl ⟨c, rfl, rfl⟩⟩
  have hn := a4.resolve_left c
  have n1 : t q ≠ 32 := fun z => hn (Or.inl z)
  have n2 : t q ≠ 10 := fun z => hn (Or.inr z)
  by_cases cl : isL (t q)
  · obtain ⟨e, b1, b2, b3, b4⟩ := run_ex (P := fun j => isL (t j)) (len := len) (len - q) q (by omega)
    have : q ≠ e := fun z => b4.elim (fun w => c (by omega)) (fun w => w (z ▸ cl))
    obtain ⟨r, hr⟩ := kwF_ex (t := t) (q := q) (n := e - q) (if law then lawL else ruleL) 100
    refine ⟨kwN r, q, 0, e, a1, b1, b2, a3, Or.inr ⟨by omega, ?_, n1, n2, Or.inl ⟨cl, b3, b4, r, hr, rfl⟩⟩⟩
    rcases kwF_cases _ _ _ hr with ⟨i, x, -, h2, -⟩ | ⟨h2, -⟩
    · rw [h2]; unfold kwN; dsimp only; omega
    · rw [h2]; decide
  by_cases cd : isD (t q)
  · obtain ⟨e, b1, b2, b3, b4⟩ := run_ex (P := fun j => isD (t j)) (len := len) (len - q) q (by omega)
    have hne : q ≠ e := fun z => b4.elim (fun w => c (by omega)) (fun w => w (z ▸ cd))
    by_cases c4 : 4 < e - q
    · exact ⟨2, q, 0, e, a1, b1, b2, a3, Or.inr ⟨by omega, by decide, n1, n2, Or.inr (Or.inl ⟨cl, cd, b3, b4, Or.inl ⟨c4, rfl⟩⟩)⟩⟩
    · obtain ⟨v, hv, ev⟩ := valF_n (t := t) (q := q) (e - q) (by omega) (fun j hj => b3 _ (by omega) (by omega))
      have h10 : 10 ^ (e - q) ≤ 10 ^ 4 := Nat.pow_le_pow_right (by decide) (by omega)
      exact ⟨1, q, v, e, a1, b1, b2, a3, Or.inr ⟨by omega, by decide, n1, n2, Or.inr (Or.inl ⟨cl, cd, b3, b4, Or.inr ⟨by omega, rfl, by omega, ev⟩⟩)⟩⟩
  by_cases cs : isS (t q)
  · have : ∃ kc, t q = nI kc ∧ 40 ≤ kc ∧ kc ≤ 62 := by
      rcases cs with h | h | h | h | h | h | h | h | h | h
      · exact ⟨59, h, by decide, by decide⟩
      · exact ⟨43, h, by decide, by decide⟩
      · exact ⟨45, h, by decide, by decide⟩
      · exact ⟨42, h, by decide, by decide⟩
      · exact ⟨47, h, by decide, by decide⟩
      · exact ⟨40, h, by decide, by decide⟩
      · exact ⟨41, h, by decide, by decide⟩
      · exact ⟨60, h, by decide, by decide⟩
      · exact ⟨61, h, by decide, by decide⟩
      · exact ⟨62, h, by decide, by decide⟩
    obtain ⟨kc, h1, h2, h3⟩ := this
    exact ⟨kc, q, 0, q + 1, a1, by omega, by omega, a3, Or.inr ⟨by omega, by omega, n1, n2, Or.inr (Or.inr ⟨cl, cd, rfl, Or.inl ⟨cs, h1, h2, h3⟩⟩)⟩⟩
  · exact ⟨2, q, 0, q + 1, a1, by omega, by omega, a3, Or.inr ⟨by omega, by decide, n1, n2, Or.inr (Or.inr ⟨cl, cd, rfl, Or.inr ⟨cs, rfl⟩⟩)⟩⟩
/-- the class: the end of a run, its number -/
theorem cl_run {T q e len : Nat} {x2 : Int32} {σ : Sig} {P : Int32 → Prop} (hl : len ≤ 400) (h1 : σ T 1 = nI len) (hq : q ≤ e) (he : e ≤ len) (hP : (x2 = 0 ∧ P = isD) ∨ (x2 = 1 ∧ P = isL)) (hr : ∀ j, q ≤ j → j < e → P (σ (T + 1) j)) (hend : e = len ∨ ¬ P (σ (T + 1) e)) : X5_endOfRun_f T (nI q) x2 σ = some (nI e) := by
  have key := fuel_up (m := e) (C := fun fu j => q ≤ j → X5_endOfRun_b5 T σ fu x2 (nI j) (nI j) = some (nI e)) (fun fu _ => ?_) (fun fu j hj ih hqj => ?_) (e - q) q FU (by omega) (by unfold FU; omega)
  · exact key (Nat.le_refl _)
  · unfold X5_endOfRun_b5
    rw [h1]
    rcases hend with h | h
    · rw [h, if_pos (Int32.le_refl _)]
    · by_cases c : e = len
      · rw [c, if_pos (Int32.le_refl _)]
      · rw [if_neg (nI_ge (by omega) (by omega))]
        rcases hP with ⟨rfl, rfl⟩ | ⟨rfl, rfl⟩
        · rw [if_pos rfl, ldn (by omega) (by decide), bsm, digC.2 h, bsm, if_pos rfl]
        · rw [if_neg n10, ldn (by omega) (by decide), bsm, letC.2 h, bsm, if_pos rfl]
  · unfold X5_endOfRun_b5
    rw [h1, if_neg (nI_ge (by omega) (by omega)), nI_s]
    rcases hP with ⟨rfl, rfl⟩ | ⟨rfl, rfl⟩
    · rw [if_pos rfl, ldn (by omega) (by decide), bsm, digC.1 (hr j hqj hj), bsm, if_neg n10]; exact ih (by omega)
    · rw [if_neg n10, ldn (by omega) (by decide), bsm, letC.1 (hr j hqj hj), bsm, if_neg n10]; exact ih (by omega)
theorem cl_val {T q e : Nat} {σ : Sig} (hq : q ≤ e) (he : e ≤ 400) : X5_numberOf_f T (nI q) (nI e) σ = some (valF (σ (T + 1)) q (e - q)) := by
  have key := fuel_up (m := e) (C := fun fu j => q ≤ j → X5_numberOf_b5 T σ fu (nI e) (valF (σ (T + 1)) q (j - q)) (nI j) = some (valF (σ (T + 1)) q (e - q))) (fun fu _ => ?_) (fun fu j hj ih hqj => ?_) (e - q) q FU (by omega) (by unfold FU; omega)
  · have := key (Nat.le_refl _)
    rw [Nat.sub_self] at this; exact this
  · unfold X5_numberOf_b5; rw [if_pos (Int32.le_refl _)]
  · unfold X5_numberOf_b5
    rw [if_neg (nI_ge hj (by omega)), ldn (by omega) (by decide), bsm, nI_s]
    have h := ih (by omega)
    rw [show j + 1 - q = (j - q) + 1 by omega] at h
    have e1 : valF (σ (T + 1)) q (j - q + 1) = valF (σ (T + 1)) q (j - q) * 10 + σ (T + 1) (q + (j - q)) - 48 := rfl
    rw [e1, show q + (j - q) = j by omega] at h
    exact h

/-! READING: time, people, debts on both sides. -/
theorem nI_s (d : Nat) : nI d + 1 = nI (d + 1) := nI_add d 1
theorem nI_inj {a b : Nat} (ha : a < 2 ^ 31) (hb : b < 2 ^ 31) (h : nI a = nI b) : a = b := (nI_eq ha hb).mp h
section RR
variable {W M B n nd : Nat} {σ0 ρ0 σ ρ : Sig}
theorem Z.p0 (h : Z W M B n nd σ0 ρ0 σ ρ) {p : Nat} (hp : p < n) : ld 12 (σ (W + 1 + 1)) (nI p) = some (ρ (B + 1) (90 + 8 * p)) := by
  have := h.n12
  rw [ldn (by omega) (by decide)]
  exact congrArg some (h.at (Or.inr (Or.inr (Or.inl ⟨hp, 0, by decide, rfl, rfl⟩))))
theorem Z.p1 (h : Z W M B n nd σ0 ρ0 σ ρ) {p : Nat} (hp : p < n) : ld 12 (σ (W + 1 + 2)) (nI p) = some (ρ (B + 1) (90 + 8 * p + 1)) := by
  have := h.n12
  rw [ldn (by omega) (by decide)]
  exact congrArg some (h.at (Or.inr (Or.inr (Or.inl ⟨hp, 1, by decide, rfl, rfl⟩))))
theorem Z.p2 (h : Z W M B n nd σ0 ρ0 σ ρ) {p : Nat} (hp : p < n) : ld 12 (σ (W + 1 + 3)) (nI p) = some (ρ (B + 1) (90 + 8 * p + 2)) := by
  have := h.n12
  rw [ldn (by omega) (by decide)]
  exact congrArg some (h.at (Or.inr (Or.inr (Or.inl ⟨hp, 2, by decide, rfl, rfl⟩))))
theorem Z.p3 (h : Z W M B n nd σ0 ρ0 σ ρ) {p : Nat} (hp : p < n) : ld 12 (σ (W + 1 + 4)) (nI p) = some (ρ (B + 1) (90 + 8 * p + 3)) := by
  have := h.n12
  rw [ldn (by omega) (by decide)]
  exact congrArg some (h.at (Or.inr (Or.inr (Or.inl ⟨hp, 3, by decide, rfl, rfl⟩))))
theorem Z.p4 (h : Z W M B n nd σ0 ρ0 σ ρ) {p : Nat} (hp : p < n) : ld 12 (σ (W + 1 + 5)) (nI p) = some (ρ (B + 1) (90 + 8 * p + 4)) := by
  have := h.n12
  rw [ldn (by omega) (by decide)]
  exact congrArg some (h.at (Or.inr (Or.inr (Or.inl ⟨hp, 4, by decide, rfl, rfl⟩))))
theorem Z.p5 (h : Z W M B n nd σ0 ρ0 σ ρ) {p : Nat} (hp : p < n) : ld 12 (σ (W + 1 + 6)) (nI p) = some (ρ (B + 1) (90 + 8 * p + 5)) := by
  have := h.n12
  rw [ldn (by omega) (by decide)]
  exact congrArg some (h.at (Or.inr (Or.inr (Or.inl ⟨hp, 5, by decide, rfl, rfl⟩))))
theorem Z.p6 (h : Z W M B n nd σ0 ρ0 σ ρ) {p : Nat} (hp : p < n) : ld 12 (σ (W + 1 + 7)) (nI p) = some (ρ (B + 1) (90 + 8 * p + 6)) := by
  have := h.n12
  rw [ldn (by omega) (by decide)]
  exact congrArg some (h.at (Or.inr (Or.inr (Or.inl ⟨hp, 6, by decide, rfl, rfl⟩))))
theorem Z.s0 (h : Z W M B n nd σ0 ρ0 σ ρ) {p : Nat} (hp : p < n) : ld 12 (σ (W + 1 + 8)) (nI p) = some (ρ (B + 1) (190 + 3 * p)) := by
  have := h.n12
  rw [ldn (by omega) (by decide)]
  exact congrArg some (h.at (Or.inr (Or.inr (Or.inr (Or.inl ⟨hp, 0, by decide, rfl, rfl⟩)))))
theorem Z.s1 (h : Z W M B n nd σ0 ρ0 σ ρ) {p : Nat} (hp : p < n) : ld 12 (σ (W + 1 + 9)) (nI p) = some (ρ (B + 1) (190 + 3 * p + 1)) := by
  have := h.n12
  rw [ldn (by omega) (by decide)]
  exact congrArg some (h.at (Or.inr (Or.inr (Or.inr (Or.inl ⟨hp, 1, by decide, rfl, rfl⟩)))))
theorem Z.s2 (h : Z W M B n nd σ0 ρ0 σ ρ) {p : Nat} (hp : p < n) : ld 12 (σ (W + 1 + 10)) (nI p) = some (ρ (B + 1) (190 + 3 * p + 2)) := by
  have := h.n12
  rw [ldn (by omega) (by decide)]
  exact congrArg some (h.at (Or.inr (Or.inr (Or.inr (Or.inl ⟨hp, 2, by decide, rfl, rfl⟩)))))
theorem Z.d0 (h : Z W M B n nd σ0 ρ0 σ ρ) {d : Nat} (hd : d < nd) : ld 40 (σ (W + 12 + 1)) (nI d) = some (ρ (B + 1) (230 + 8 * d)) := by
  have := h.d40
  rw [ldn (by omega) (by decide)]
  exact congrArg some (h.at (Or.inr (Or.inr (Or.inr (Or.inr (Or.inl ⟨hd, 0, by decide, rfl, rfl⟩))))))
theorem Z.d1 (h : Z W M B n nd σ0 ρ0 σ ρ) {d : Nat} (hd : d < nd) : ld 40 (σ (W + 12 + 2)) (nI d) = some (ρ (B + 1) (230 + 8 * d + 1)) := by
  have := h.d40
  rw [ldn (by omega) (by decide)]
  exact congrArg some (h.at (Or.inr (Or.inr (Or.inr (Or.inr (Or.inl ⟨hd, 1, by decide, rfl, rfl⟩))))))
theorem Z.d2 (h : Z W M B n nd σ0 ρ0 σ ρ) {d : Nat} (hd : d < nd) : ld 40 (σ (W + 12 + 3)) (nI d) = some (ρ (B + 1) (230 + 8 * d + 2)) := by
  have := h.d40
  rw [ldn (by omega) (by decide)]
  exact congrArg some (h.at (Or.inr (Or.inr (Or.inr (Or.inr (Or.inl ⟨hd, 2, by decide, rfl, rfl⟩))))))
theorem Z.d3 (h : Z W M B n nd σ0 ρ0 σ ρ) {d : Nat} (hd : d < nd) : ld 40 (σ (W + 12 + 4)) (nI d) = some (ρ (B + 1) (230 + 8 * d + 3)) := by
  have := h.d40
  rw [ldn (by omega) (by decide)]
  exact congrArg some (h.at (Or.inr (Or.inr (Or.inr (Or.inr (Or.inl ⟨hd, 3, by decide, rfl, rfl⟩))))))
theorem Z.d4 (h : Z W M B n nd σ0 ρ0 σ ρ) {d : Nat} (hd : d < nd) : ld 40 (σ (W + 12 + 5)) (nI d) = some (ρ (B + 1) (230 + 8 * d + 4)) := by
  have := h.d40
  rw [ldn (by omega) (by decide)]
  exact congrArg some (h.at (Or.inr (Or.inr (Or.inr (Or.inr (Or.inl ⟨hd, 4, by decide, rfl, rfl⟩))))))
theorem Z.d5 (h : Z W M B n nd σ0 ρ0 σ ρ) {d : Nat} (hd : d < nd) : ld 40 (σ (W + 12 + 6)) (nI d) = some (ρ (B + 1) (230 + 8 * d + 5)) := by
  have := h.d40
  rw [ldn (by omega) (by decide)]
  exact congrArg some (h.at (Or.inr (Or.inr (Or.inr (Or.inr (Or.inl ⟨hd, 5, by decide, rfl, rfl⟩))))))
theorem Z.d6 (h : Z W M B n nd σ0 ρ0 σ ρ) {d : Nat} (hd : d < nd) : ld 40 (σ (W + 12 + 7)) (nI d) = some (ρ (B + 1) (230 + 8 * d + 6)) := by
  have := h.d40
  rw [ldn (by omega) (by decide)]
  exact congrArg some (h.at (Or.inr (Or.inr (Or.inr (Or.inr (Or.inl ⟨hd, 6, by decide, rfl, rfl⟩))))))
theorem rD0 {d : Nat} (hd : d < 40) : X12_debtOf_f B (nI d) 0 ρ = some (ρ (B + 1) (230 + 8 * d)) := re_debtOf (f := 0) hd (by decide)
theorem rL0 {d : Nat} {v : Int32} (hd : d < 40) : X12_lays0_f B (nI d) 0 v ρ = some (wr ρ (B + 1) (230 + 8 * d) v) := re_lays (f := 0) hd (by decide)
theorem rD1 {d : Nat} (hd : d < 40) : X12_debtOf_f B (nI d) 1 ρ = some (ρ (B + 1) (230 + 8 * d + 1)) := re_debtOf (f := 1) hd (by decide)
theorem rL1 {d : Nat} {v : Int32} (hd : d < 40) : X12_lays0_f B (nI d) 1 v ρ = some (wr ρ (B + 1) (230 + 8 * d + 1) v) := re_lays (f := 1) hd (by decide)
theorem rD2 {d : Nat} (hd : d < 40) : X12_debtOf_f B (nI d) 2 ρ = some (ρ (B + 1) (230 + 8 * d + 2)) := re_debtOf (f := 2) hd (by decide)
theorem rL2 {d : Nat} {v : Int32} (hd : d < 40) : X12_lays0_f B (nI d) 2 v ρ = some (wr ρ (B + 1) (230 + 8 * d + 2) v) := re_lays (f := 2) hd (by decide)
theorem rD3 {d : Nat} (hd : d < 40) : X12_debtOf_f B (nI d) 3 ρ = some (ρ (B + 1) (230 + 8 * d + 3)) := re_debtOf (f := 3) hd (by decide)
theorem rL3 {d : Nat} {v : Int32} (hd : d < 40) : X12_lays0_f B (nI d) 3 v ρ = some (wr ρ (B + 1) (230 + 8 * d + 3) v) := re_lays (f := 3) hd (by decide)
theorem rD4 {d : Nat} (hd : d < 40) : X12_debtOf_f B (nI d) 4 ρ = some (ρ (B + 1) (230 + 8 * d + 4)) := re_debtOf (f := 4) hd (by decide)
theorem rL4 {d : Nat} {v : Int32} (hd : d < 40) : X12_lays0_f B (nI d) 4 v ρ = some (wr ρ (B + 1) (230 + 8 * d + 4) v) := re_lays (f := 4) hd (by decide)
theorem rD5 {d : Nat} (hd : d < 40) : X12_debtOf_f B (nI d) 5 ρ = some (ρ (B + 1) (230 + 8 * d + 5)) := re_debtOf (f := 5) hd (by decide)
theorem rL5 {d : Nat} {v : Int32} (hd : d < 40) : X12_lays0_f B (nI d) 5 v ρ = some (wr ρ (B + 1) (230 + 8 * d + 5) v) := re_lays (f := 5) hd (by decide)
theorem rD6 {d : Nat} (hd : d < 40) : X12_debtOf_f B (nI d) 6 ρ = some (ρ (B + 1) (230 + 8 * d + 6)) := re_debtOf (f := 6) hd (by decide)
theorem rL6 {d : Nat} {v : Int32} (hd : d < 40) : X12_lays0_f B (nI d) 6 v ρ = some (wr ρ (B + 1) (230 + 8 * d + 6) v) := re_lays (f := 6) hd (by decide)
theorem rO0 {p : Nat} (hp : p < 12) : X12_own_f B (nI p) 0 ρ = some (ρ (B + 1) (90 + 8 * p)) := re_own (f := 0) hp (by decide)
theorem rG0 {p : Nat} {v : Int32} (hp : p < 12) : X12_gives_f B (nI p) 0 v ρ = some (wr ρ (B + 1) (90 + 8 * p) v) := re_gives (f := 0) hp (by decide)
theorem rO1 {p : Nat} (hp : p < 12) : X12_own_f B (nI p) 1 ρ = some (ρ (B + 1) (90 + 8 * p + 1)) := re_own (f := 1) hp (by decide)
theorem rG1 {p : Nat} {v : Int32} (hp : p < 12) : X12_gives_f B (nI p) 1 v ρ = some (wr ρ (B + 1) (90 + 8 * p + 1) v) := re_gives (f := 1) hp (by decide)
theorem rO2 {p : Nat} (hp : p < 12) : X12_own_f B (nI p) 2 ρ = some (ρ (B + 1) (90 + 8 * p + 2)) := re_own (f := 2) hp (by decide)
theorem rG2 {p : Nat} {v : Int32} (hp : p < 12) : X12_gives_f B (nI p) 2 v ρ = some (wr ρ (B + 1) (90 + 8 * p + 2) v) := re_gives (f := 2) hp (by decide)
theorem rO3 {p : Nat} (hp : p < 12) : X12_own_f B (nI p) 3 ρ = some (ρ (B + 1) (90 + 8 * p + 3)) := re_own (f := 3) hp (by decide)
theorem rG3 {p : Nat} {v : Int32} (hp : p < 12) : X12_gives_f B (nI p) 3 v ρ = some (wr ρ (B + 1) (90 + 8 * p + 3) v) := re_gives (f := 3) hp (by decide)
theorem rO4 {p : Nat} (hp : p < 12) : X12_own_f B (nI p) 4 ρ = some (ρ (B + 1) (90 + 8 * p + 4)) := re_own (f := 4) hp (by decide)
theorem rG4 {p : Nat} {v : Int32} (hp : p < 12) : X12_gives_f B (nI p) 4 v ρ = some (wr ρ (B + 1) (90 + 8 * p + 4) v) := re_gives (f := 4) hp (by decide)
theorem rO5 {p : Nat} (hp : p < 12) : X12_own_f B (nI p) 5 ρ = some (ρ (B + 1) (90 + 8 * p + 5)) := re_own (f := 5) hp (by decide)
theorem rG5 {p : Nat} {v : Int32} (hp : p < 12) : X12_gives_f B (nI p) 5 v ρ = some (wr ρ (B + 1) (90 + 8 * p + 5) v) := re_gives (f := 5) hp (by decide)
theorem rO6 {p : Nat} (hp : p < 12) : X12_own_f B (nI p) 6 ρ = some (ρ (B + 1) (90 + 8 * p + 6)) := re_own (f := 6) hp (by decide)
theorem rG6 {p : Nat} {v : Int32} (hp : p < 12) : X12_gives_f B (nI p) 6 v ρ = some (wr ρ (B + 1) (90 + 8 * p + 6) v) := re_gives (f := 6) hp (by decide)
theorem rN0 {p : Nat} (hp : p < 12) : ld 20240 (ρ (B + 1)) (190 + 3 * nI p) = some (ρ (B + 1) (190 + 3 * p)) := by
  have e : (190 + 3 * nI p : Int32) = nI (190 + 3 * p) := by
    rw [show (190 : Int32) = nI 190 from rfl, show (3 : Int32) = nI 3 from rfl, pk_mul, nI_add]
  rw [e]; exact ldn (by omega) (by decide)
theorem rM0 {p : Nat} {v : Int32} (hp : p < 12) : st 20240 ρ (B + 1) (190 + 3 * nI p) v = some (wr ρ (B + 1) (190 + 3 * p) v) := by
  have e : (190 + 3 * nI p : Int32) = nI (190 + 3 * p) := by
    rw [show (190 : Int32) = nI 190 from rfl, show (3 : Int32) = nI 3 from rfl, pk_mul, nI_add]
  rw [e]; exact stn (by omega) (by decide)
theorem rN1 {p : Nat} (hp : p < 12) : ld 20240 (ρ (B + 1)) (190 + 3 * nI p + 1) = some (ρ (B + 1) (190 + 3 * p + 1)) := by
  have e : (190 + 3 * nI p + 1 : Int32) = nI (190 + 3 * p + 1) := by
    rw [show (190 : Int32) = nI 190 from rfl, show (3 : Int32) = nI 3 from rfl, pk_mul, nI_add]; exact nI_add _ 1
  rw [e]; exact ldn (by omega) (by decide)
theorem rM1 {p : Nat} {v : Int32} (hp : p < 12) : st 20240 ρ (B + 1) (190 + 3 * nI p + 1) v = some (wr ρ (B + 1) (190 + 3 * p + 1) v) := by
  have e : (190 + 3 * nI p + 1 : Int32) = nI (190 + 3 * p + 1) := by
    rw [show (190 : Int32) = nI 190 from rfl, show (3 : Int32) = nI 3 from rfl, pk_mul, nI_add]; exact nI_add _ 1
  rw [e]; exact stn (by omega) (by decide)
theorem rN2 {p : Nat} (hp : p < 12) : ld 20240 (ρ (B + 1)) (190 + 3 * nI p + 2) = some (ρ (B + 1) (190 + 3 * p + 2)) := by
  have e : (190 + 3 * nI p + 2 : Int32) = nI (190 + 3 * p + 2) := by
    rw [show (190 : Int32) = nI 190 from rfl, show (3 : Int32) = nI 3 from rfl, pk_mul, nI_add]; exact nI_add _ 2
  rw [e]; exact ldn (by omega) (by decide)
theorem rM2 {p : Nat} {v : Int32} (hp : p < 12) : st 20240 ρ (B + 1) (190 + 3 * nI p + 2) v = some (wr ρ (B + 1) (190 + 3 * p + 2) v) := by
  have e : (190 + 3 * nI p + 2 : Int32) = nI (190 + 3 * p + 2) := by
    rw [show (190 : Int32) = nI 190 from rfl, show (3 : Int32) = nI 3 from rfl, pk_mul, nI_add]; exact nI_add _ 2
  rw [e]; exact stn (by omega) (by decide)

theorem Z.cn (h : Z W M B n nd σ0 ρ0 σ ρ) : σ (W + 1) 0 = nI n := (h.at (by simp [Cor])).trans h.g.wn
theorem Z.cd (h : Z W M B n nd σ0 ρ0 σ ρ) : σ (W + 12) 0 = nI nd := (h.at (by simp [Cor])).trans h.g.wd
theorem Z.wn (h : Z W M B n nd σ0 ρ0 σ ρ) : ρ (B + 1) 9 = nI n := h.g.wn
theorem Z.wd (h : Z W M B n nd σ0 ρ0 σ ρ) : ρ (B + 1) 10 = nI nd := h.g.wd
theorem Z.sca (h : Z W M B n nd σ0 ρ0 σ ρ) : σ (W + 23) 2 = ρ (B + 1) 3 ∧ σ (W + 23) 3 = ρ (B + 1) 4 ∧ σ (W + 23) 4 = ρ (B + 1) 5 ∧ σ (W + 23) 5 = ρ (B + 1) 6 ∧ σ (W + 23) 6 = ρ (B + 1) 8 ∧ σ (W + 26) 0 = ρ (B + 1) 0 ∧ σ (W + 26) 1 = ρ (B + 1) 1 ∧ σ (W + 26) 2 = ρ (B + 1) 2 ∧ σ (W + 26) 3 = ρ (B + 1) 7 ∧ σ (W + 33) 3 = ρ (B + 1) 12 ∧ σ (W + 33) 4 = ρ (B + 1) 13 ∧ σ (W + 33) 5 = ρ (B + 1) 14 ∧ σ (W + 33) 6 = ρ (B + 1) 15 :=
  ⟨h.at (by simp [Cor]), h.at (by simp [Cor]), h.at (by simp [Cor]), h.at (by simp [Cor]), h.at (by simp [Cor]), h.at (by simp [Cor]), h.at (by simp [Cor]), h.at (by simp [Cor]), h.at (by simp [Cor]), h.at (by simp [Cor]), h.at (by simp [Cor]), h.at (by simp [Cor]), h.at (by simp [Cor])⟩
/-- NIGHT, FEAST -/
def nightV (h : Int32) : Int32 := if h < 6 then 1 else if h < 22 then 0 else 1
def feastV (f day : Int32) : Int32 := if f ≤ 0 then 0 else if (day - day / f * f) = 0 then 1 else 0
theorem cl_night {x : Int32} : X11_isNightIn_f x σ = some (nightV x) := by
  unfold X11_isNightIn_f nightV
  by_cases h1 : x < 6
  · rw [if_pos h1, if_pos h1]
  · rw [if_neg h1, if_neg h1]
    by_cases h2 : x < 22
    · rw [if_pos h2, if_pos h2]
    · rw [if_neg h2, if_neg h2]
theorem re_night {x : Int32} : X12_isNight_f x ρ = some (nightV x) := by
  unfold X12_isNight_f nightV
  by_cases h1 : x < 6
  · rw [if_pos h1, if_pos h1]
  · rw [if_neg h1, if_neg h1]
    have e : x ≤ 21 ↔ x < 22 := by
      rw [Int32.le_iff_toInt_le, Int32.lt_iff_toInt_lt]
      have e1 : (21 : Int32).toInt = 21 := by decide
      have e2 : (22 : Int32).toInt = 22 := by decide
      omega
    by_cases h2 : x < 22
    · rw [if_pos h2, if_pos (e.mpr h2)]
    · rw [if_neg h2, if_neg (fun q => h2 (e.mp q))]
theorem nightV_01 (x : Int32) : nightV x = 0 ∨ nightV x = 1 := by
  unfold nightV; split
  · exact Or.inr rfl
  · split
    · exact Or.inl rfl
    · exact Or.inr rfl
theorem feastV_01 (f x : Int32) : feastV f x = 0 ∨ feastV f x = 1 := by
  unfold feastV; split
  · exact Or.inl rfl
  · split
    · exact Or.inr rfl
    · exact Or.inl rfl
theorem feast_f {α : Type} {f x : Int32} {a b : Option α} : (if f ≤ 0 then a else (if f = 0 then none else (if (x - x / f * f) = 0 then b else a))) = (if feastV f x = 0 then a else b) := by
  unfold feastV
  by_cases h1 : f ≤ 0
  · rw [if_pos h1, if_pos h1, if_pos rfl]
  · have h0 : ¬ f = 0 := fun e => h1 (by rw [e]; exact Int32.le_refl _)
    rw [if_neg h1, if_neg h1, if_neg h0]
    by_cases h2 : (x - x / f * f) = 0
    · rw [if_pos h2, if_pos h2, if_neg (by decide)]
    · rw [if_neg h2, if_neg h2, if_pos rfl]
theorem cl_feastOn {T : Nat} {x : Int32} : X8_isFeastOn_f T x σ = some (feastV (σ T 3) x) := by
  unfold X8_isFeastOn_f; rw [feast_f]
  rcases feastV_01 (σ T 3) x with h | h <;> rw [h] <;> rfl
theorem cl_feast {T : Nat} : X8_isFeast_f T σ = some (feastV (σ T 3) (σ T 1)) := by
  unfold X8_isFeast_f; rw [cl_feastOn]; simp only [Option.bind_some]
  rw [if_pos (feastV_01 _ _)]
theorem re_feast {x : Int32} : X12_isFeast_f B x ρ = some (feastV (ρ (B + 1) 7) x) := by
  unfold X12_isFeast_f
  simp only [LW, Option.bind_some]
  rw [feast_f]
  rcases feastV_01 (ρ (B + 1) 7) x with h | h <;> rw [h] <;> rfl
theorem cl_hour (h : Z W M B n nd σ0 ρ0 σ ρ) : X8_hour_f (W + 26) σ = some (ρ (B + 1) 2 / 4) := by
  unfold X8_hour_f; rw [h.sca.2.2.2.2.2.2.2.1]
theorem re_hour : X12_hourNow_f B ρ = some (ρ (B + 1) 2 / 4) := by
  unfold X12_hourNow_f; simp only [LW, Option.bind_some]
theorem cl_isNight (h : Z W M B n nd σ0 ρ0 σ ρ) : X8_isNight_f (W + 26) σ = some (nightV (ρ (B + 1) 2 / 4)) := by
  unfold X8_isNight_f; rw [cl_hour h]; simp only [Option.bind_some]; rw [cl_night]; simp only [Option.bind_some]; rw [if_pos (nightV_01 _)]
theorem cl_isFeast (h : Z W M B n nd σ0 ρ0 σ ρ) : X8_isFeast_f (W + 26) σ = some (feastV (ρ (B + 1) 7) (ρ (B + 1) 1)) := by
  rw [cl_feast, h.sca.2.2.2.2.2.2.1, h.sca.2.2.2.2.2.2.2.2.1]
/-- a draw -/
theorem two_draw (h : Z W M B n nd σ0 ρ0 σ ρ) : Two (X8_draw_f (W + 26) 1000 σ) (X12_draw_f B 1000 ρ) (fun x y => x.1 = y.1 ∧ Z W M B n nd σ0 ρ0 x.2 y.2) := by
  unfold X8_draw_f X12_draw_f
  simp only [LW, SW, pI, Option.bind_some]
  rw [if_neg (by decide), if_neg (by decide), if_neg (by decide)]
  refine two_some ⟨?_, ?_⟩
  · dsimp only
    rw [wr_same, wr_same, if_pos rfl, if_pos rfl, h.sca.2.2.2.2.2.1]
  · dsimp only
    rw [h.sca.2.2.2.2.2.1]
    exact h.put0 (by simp [Cor]) (by omega)
/-- sums -/
def sm (f : Nat → Int32) : Nat → Int32
  | 0 => 0
  | d + 1 => sm f d + f d
def wkr (w : wF) (d : Nat) : Int32 := if w (230 + 8 * d + 4) = -1 then w (230 + 8 * d) else w (230 + 8 * d + 4)
def whoS (w : wF) (x : Int32) (d : Nat) : Int32 := if x = 0 then w (230 + 8 * d) else if x = 1 then w (230 + 8 * d + 1) else wkr w d
def lfS (w : wF) (x p : Int32) (d : Nat) : Int32 := if whoS w x d = p then w (230 + 8 * d + 2) else 0
theorem lfS_pos {w : wF} {x p : Int32} {d : Nat} (h : whoS w x d = p) : lfS w x p d = w (230 + 8 * d + 2) := if_pos h
theorem lfS_neg {w : wF} {x p : Int32} {d : Nat} (h : ¬ whoS w x d = p) : lfS w x p d = 0 := if_neg h
theorem cl_worker (h : Z W M B n nd σ0 ρ0 σ ρ) {d : Nat} (hd : d < nd) : X3_workerOf_f (W + 12) (nI d) σ = some (wkr (ρ (B + 1)) d) := wk3 h.g h.r hd
theorem re_worker {d : Nat} (hd : d < 40) : X12_workerOf_f B (nI d) ρ = some (wkr (ρ (B + 1)) d) := wk12 (Nat.le_refl 40) hd
theorem wkr_is {w : wF} (h : Rg w n nd) {d : Nat} (hd : d < nd) : ∃ k, k < n ∧ wkr w d = nI k := by
  obtain ⟨⟨k1, q1, q1'⟩, -, -, -, q5, -⟩ := h.2.1.2.2 d hd
  unfold wkr
  by_cases c : w (230 + 8 * d + 4) = -1
  · rw [if_pos c]; exact ⟨k1, q1, q1'⟩
  · rw [if_neg c]; exact q5.resolve_left c
theorem cl_hours (h : Z W M B n nd σ0 ρ0 σ ρ) (p x : Int32) : X3_hoursOf_f (W + 12) p x σ = some (sm (lfS (ρ (B + 1)) x p) nd) := by
  have h40 := h.d40
  refine fuel_up (m := nd) (C := fun fu d => X3_hoursOf_b5 (W + 12) σ fu p x (sm (lfS (ρ (B + 1)) x p) d) (nI d) = some (sm (lfS (ρ (B + 1)) x p) nd)) (fun fu => ?_) (fun fu d hd ih => ?_) nd 0 FU (by omega) (by unfold FU; omega)
  · unfold X3_hoursOf_b5; rw [h.cd, if_pos (Int32.le_refl _)]
  · unfold X3_hoursOf_b5
    rw [h.cd, if_neg (nI_ge hd (by omega))]
    have key : ∀ y : Int32, whoS (ρ (B + 1)) x d = y → X3_hoursOf_b49 (W + 12) σ (X3_hoursOf_b5 (W + 12) σ fu) p x (sm (lfS (ρ (B + 1)) x p) d) (nI d) y = some (sm (lfS (ρ (B + 1)) x p) nd) := by
      intro y hy
      unfold X3_hoursOf_b49
      rw [h.d2 hd, nI_s]
      simp only [Option.bind_some]
      by_cases c : y = p
      · rw [if_pos c, ← ih]; rw [sm]; unfold lfS; rw [hy, if_pos c]
      · rw [if_neg c, ← ih]; rw [sm]; unfold lfS; rw [hy, if_neg c, Int32.add_zero]
    by_cases c0 : x = 0
    · rw [if_pos c0, h.d0 hd]; simp only [Option.bind_some]
      exact key _ (by unfold whoS; rw [if_pos c0])
    · rw [if_neg c0]
      by_cases c1 : x = 1
      · rw [if_pos c1, h.d1 hd]; simp only [Option.bind_some]
        exact key _ (by unfold whoS; rw [if_neg c0, if_pos c1])
      · rw [if_neg c1, cl_worker h hd]; simp only [Option.bind_some]
        exact key _ (by unfold whoS; rw [if_neg c0, if_neg c1])
theorem re_left (hn : nd ≤ 40) (hw : ρ (B + 1) 10 = nI nd) (p x : Int32) : X12_left_f B p x ρ = some (sm (lfS (ρ (B + 1)) x p) nd) := by
  refine fuel_up (m := nd) (C := fun fu d => X12_left_b5 B ρ fu p x (sm (lfS (ρ (B + 1)) x p) d) (nI d) = some (sm (lfS (ρ (B + 1)) x p) nd)) (fun fu => ?_) (fun fu d hd ih => ?_) nd 0 FU (by omega) (by unfold FU; omega)
  · unfold X12_left_b5; simp only [LW, Option.bind_some]; rw [hw, if_pos (Int32.le_refl _)]
  · unfold X12_left_b5
    simp only [LW, Option.bind_some]
    rw [hw, if_neg (nI_ge hd (by omega))]
    have hd' : d < 40 := by omega
    have key : ∀ y : Int32, whoS (ρ (B + 1)) x d = y → X12_left_b53 B ρ (X12_left_b5 B ρ fu) p x (nI d) y (sm (lfS (ρ (B + 1)) x p) d) = some (sm (lfS (ρ (B + 1)) x p) nd) := by
      intro y hy
      unfold X12_left_b53
      rw [rD2 hd', nI_s]
      simp only [Option.bind_some]
      by_cases c : y = p
      · rw [if_pos c, ← ih]; rw [sm]; unfold lfS; rw [hy, if_pos c]
      · rw [if_neg c, ← ih]; rw [sm]; unfold lfS; rw [hy, if_neg c]
    by_cases c0 : x = 0
    · rw [if_pos c0, rD0 hd']; simp only [Option.bind_some]
      exact key _ (by unfold whoS; rw [if_pos c0])
    · rw [if_neg c0]
      by_cases c1 : x = 1
      · rw [if_pos c1, rD1 hd']; simp only [Option.bind_some]
        exact key _ (by unfold whoS; rw [if_neg c0, if_pos c1])
      · rw [if_neg c1, re_worker hd']; simp only [Option.bind_some]
        exact key _ (by unfold whoS; rw [if_neg c0, if_neg c1])
/-- fill -/
theorem fill_ok {r N : Nat} {v : Int32} (hN : N < 10000) : ∃ s, J7_fill_53178_f r N v σ = some s ∧ (∀ a, a ≠ r → s a = σ a) ∧ ∀ j, j < N → s r j = v := by
  have key := fuel_up (m := N) (C := fun fu d => ∀ s0 : Sig, (∀ a, a ≠ r → s0 a = σ a) → (∀ j, j < d → s0 r j = v) → ∃ s, J7_fill_53178_b5 r N fu v (nI d) (nI N) s0 = some s ∧ (∀ a, a ≠ r → s a = σ a) ∧ ∀ j, j < N → s r j = v) (fun fu s0 h1 h2 => ?_) (fun fu d hd ih s0 h1 h2 => ?_) N 0 FU (by omega) (by unfold FU; omega)
  · exact key σ (fun _ _ => rfl) (fun j hj => absurd hj (by omega))
  · refine ⟨s0, ?_, h1, h2⟩
    unfold J7_fill_53178_b5; rw [if_pos (Int32.le_refl _)]
  · unfold J7_fill_53178_b5
    rw [if_neg (nI_ge hd (by omega)), stn hd (by omega), nI_s]
    simp only [Option.bind_some]
    refine ih _ (fun a ha => by rw [wr_row ha]; exact h1 a ha) (fun j hj => ?_)
    rw [wr_same]
    by_cases e : j = d
    · rw [if_pos e]
    · rw [if_neg e]; exact h2 j (by omega)
/-- the sums for all people -/
theorem cl_tally (h : Z W M B n nd σ0 ρ0 σ ρ) : ∃ s, X3_tally_f (W + 12) σ = some s ∧ (∀ a, a ≠ W + 21 → a ≠ W + 22 → s a = σ a) ∧ (∀ p, p < 12 → s (W + 21) p = sm (lfS (ρ (B + 1)) 2 (nI p)) nd) ∧ ∀ p, p < 12 → s (W + 22) p = sm (lfS (ρ (B + 1)) 1 (nI p)) nd := by
  have h40 := h.d40
  have h12 := h.n12
  obtain ⟨s1, f1, f2, f3⟩ := fill_ok (σ := σ) (r := W + 12 + 9) (N := 12) (v := 0) (by decide)
  obtain ⟨s2, g1, g2, g3⟩ := fill_ok (σ := s1) (r := W + 12 + 10) (N := 12) (v := 0) (by decide)
  unfold X3_tally_f
  rw [f1, Option.bind_some, g1, Option.bind_some]
  have key := fuel_up (m := nd) (C := fun fu d => ∀ s : Sig, (∀ a, a ≠ W + 21 → a ≠ W + 22 → s a = σ a) → (∀ p, p < 12 → s (W + 21) p = sm (lfS (ρ (B + 1)) 2 (nI p)) d) → (∀ p, p < 12 → s (W + 22) p = sm (lfS (ρ (B + 1)) 1 (nI p)) d) → ∃ s', X3_tally_b18 (W + 12) fu (nI d) s = some s' ∧ (∀ a, a ≠ W + 21 → a ≠ W + 22 → s' a = σ a) ∧ (∀ p, p < 12 → s' (W + 21) p = sm (lfS (ρ (B + 1)) 2 (nI p)) nd) ∧ ∀ p, p < 12 → s' (W + 22) p = sm (lfS (ρ (B + 1)) 1 (nI p)) nd) (fun fu s e1 e2 e3 => ?_) (fun fu d hd ih s e1 e2 e3 => ?_) nd 0 FU (by omega) (by unfold FU; omega)
  · have fin := key s2 (fun a h1 h2 => by rw [g2 a (by omega)]; exact f2 a (by omega)) (fun p hp => by rw [sm, g2 _ (by omega), show W + 21 = W + 12 + 9 by omega]; exact f3 p hp) (fun p hp => by rw [sm, show W + 22 = W + 12 + 10 by omega]; exact g3 p hp)
    rw [nI_0] at fin
    exact fin
  · refine ⟨s, ?_, e1, e2, e3⟩
    unfold X3_tally_b18
    rw [e1 _ (by omega) (by omega), h.cd, if_pos (Int32.le_refl _)]
  · have hz : Z W M B n nd σ0 ρ0 s ρ := h.scr (fun a _ h2 h3 _ _ _ => e1 a h2 h3)
    obtain ⟨k, hk, ek⟩ := wkr_is h.g hd
    obtain ⟨-, ⟨c, hc, ec⟩, -⟩ := h.g.2.1.2.2 d hd
    unfold X3_tally_b18
    rw [hz.cd, if_neg (nI_ge hd (by omega)), cl_worker hz hd, hz.d1 hd]
    simp only [Option.bind_some]
    rw [ek, ec, if_neg (nI_nn (by omega)), if_neg (show ¬ (12 : Int32) ≤ nI k from nI_ge (by omega : k < 12) (by decide)), if_neg (nI_nn (by omega)), if_neg (show ¬ (12 : Int32) ≤ nI c from nI_ge (by omega : c < 12) (by decide)), hz.d2 hd, ldn (by omega) (by decide)]
    simp only [Option.bind_some]
    rw [stn (by omega) (by decide)]
    simp only [Option.bind_some]
    rw [wr_row (by omega), ldn (by omega) (by decide), wr_row (by omega), hz.d2 hd]
    simp only [Option.bind_some]
    rw [stn (by omega) (by decide)]
    simp only [Option.bind_some]
    rw [nI_s]
    refine ih _ (fun a h1 h2 => by rw [wr_row (by omega), wr_row (by omega)]; exact e1 a h1 h2) (fun p hp => ?_) (fun p hp => ?_)
    · rw [wr_row (by omega), show W + 21 = W + 12 + 9 by omega, wr_same, sm]
      have e4 := e2 p hp
      rw [show W + 21 = W + 12 + 9 by omega] at e4
      have ew : whoS (ρ (B + 1)) 2 d = nI k := by unfold whoS; rw [if_neg (by decide), if_neg (by decide)]; exact ek
      by_cases q : p = k
      · subst q; rw [if_pos rfl, lfS_pos ew, e4]
      · rw [if_neg q, lfS_neg (fun z => q (nI_inj (by omega) (by omega) (ew.symm.trans z)).symm), Int32.add_zero, e4]
    · rw [show W + 22 = W + 12 + 10 by omega, wr_same, sm]
      have e4 := e3 p hp
      rw [show W + 22 = W + 12 + 10 by omega] at e4
      have ew : whoS (ρ (B + 1)) 1 d = nI c := by unfold whoS; rw [if_neg (by decide), if_pos rfl]; exact ec
      by_cases q : p = c
      · subst q; rw [if_pos rfl, lfS_pos ew, e4]
      · rw [if_neg q, lfS_neg (fun z => q (nI_inj (by omega) (by omega) (ew.symm.trans z)).symm), Int32.add_zero, wr_row (by omega), e4]
/-- how many others are in his place -/
def othS (w : wF) (p o : Nat) : Int32 := if o = p then 0 else if w (90 + 8 * o + 1) = w (90 + 8 * p + 1) then 1 else 0
theorem cl_others (h : Z W M B n nd σ0 ρ0 σ ρ) {p : Nat} (hp : p < n) : X4_othersWith_f (W + 1) (nI p) σ = some (sm (othS (ρ (B + 1)) p) n) := by
  have h12 := h.n12
  refine fuel_up (m := n) (C := fun fu d => X4_othersWith_b4 (W + 1) σ fu (nI p) (sm (othS (ρ (B + 1)) p) d) (nI d) = some (sm (othS (ρ (B + 1)) p) n)) (fun fu => ?_) (fun fu d hd ih => ?_) n 0 FU (by omega) (by unfold FU; omega)
  · unfold X4_othersWith_b4; rw [h.cn, if_pos (Int32.le_refl _)]
  · unfold X4_othersWith_b4
    rw [h.cn, if_neg (nI_ge hd (by omega)), nI_s, h.p1 hd, h.p1 hp]
    simp only [Option.bind_some]
    rw [sm] at ih
    unfold othS at ih
    by_cases c : d = p
    · subst c; rw [if_pos rfl]; rw [if_pos rfl, Int32.add_zero] at ih; exact ih
    · rw [if_neg (fun z => c (nI_inj (by omega) (by omega) z))]; rw [if_neg c] at ih
      by_cases c2 : ρ (B + 1) (90 + 8 * d + 1) = ρ (B + 1) (90 + 8 * p + 1)
      · rw [if_pos c2]; rw [if_pos c2] at ih; exact ih
      · rw [if_neg c2]; rw [if_neg c2, Int32.add_zero] at ih; exact ih
end RR

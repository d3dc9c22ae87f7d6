/-! feed. -/
def byt (x : Int32) (i : Nat) : Int32 := nI (x.toBitVec.toNat / 2 ^ (24 - 8 * i) % 256)
theorem byt_c (x s : Int32) (k : Nat) (hs : ((s.toUInt32 &&& Int32.toUInt32 31).toBitVec % 32).toNat = k) : ((x.toUInt32 >>> (s.toUInt32 &&& Int32.toUInt32 31)).toInt32 &&& 255) = nI (x.toBitVec.toNat / 2 ^ k % 256) := by
  rw [pk_and _ 8 (by decide), pk_ushr x s k hs]
theorem i32_nat (y : Int32) : ((y.toBitVec.toNat : Nat) : Int) = y.toInt % 4294967296 := by
  have h : y.toInt = y.toBitVec.toInt := rfl
  rw [h, BitVec.toInt_eq_toNat_cond]
  have := y.toBitVec.isLt
  split <;> omega
theorem byt_r (x s : Int32) (k : Nat) (hk : k = 0 ∨ k = 8 ∨ k = 16 ∨ k = 24) (hs : (s.toBitVec.smod 32).toNat = k) : ((x >>> s) &&& 255) = nI (x.toBitVec.toNat / 2 ^ k % 256) := by
  rw [pk_and _ 8 (by decide)]
  have h1 := pk_shr x s k hs
  rw [Int.shiftRight_eq_div_pow] at h1
  have h2 := i32_nat (x >>> s)
  have h3 := i32_nat x
  have h4 := x.toBitVec.isLt
  congr 1
  have h5 : x.toInt = (x.toBitVec.toNat : Int) ∨ x.toInt = (x.toBitVec.toNat : Int) - 4294967296 := by
    have h : x.toInt = x.toBitVec.toInt := rfl
    rw [h, BitVec.toInt_eq_toNat_cond]
    split
    · exact Or.inl rfl
    · exact Or.inr rfl
  rw [h1] at h2
  have e8 : (2 : Nat) ^ 8 = 256 := by decide
  rw [e8]
  rcases hk with rfl | rfl | rfl | rfl
  · have e : ((2 ^ 0 : Nat) : Int) = 1 := by decide
    rw [e] at h2
    have e' : (2 : Nat) ^ 0 = 1 := by decide
    rw [e']
    omega
  · have e : ((2 ^ 8 : Nat) : Int) = 256 := by decide
    rw [e] at h2
    omega
  · have e : ((2 ^ 16 : Nat) : Int) = 65536 := by decide
    rw [e] at h2
    have e' : (2 : Nat) ^ 16 = 65536 := by decide
    rw [e']
    omega
  · have e : ((2 ^ 24 : Nat) : Int) = 16777216 := by decide
    rw [e] at h2
    have e' : (2 : Nat) ^ 24 = 16777216 := by decide
    rw [e']
    omega
theorem byt_up (x : Int32) (i : Nat) : upTo (byt x i) 255 := ⟨_, by have := Nat.mod_lt (x.toBitVec.toNat / 2 ^ (24 - 8 * i)) (show 0 < 256 by decide); omega, rfl⟩
theorem cl_put {P : Nat} {x : Int32} {σ : Sig} {l : Nat} (hl : l + 4 ≤ 400) (h1 : σ P 1 = nI l) : ∃ s, X6_put_f P x σ = some s ∧ s P 1 = nI (l + 4) ∧ (∀ a, a ≠ P → a ≠ P + 1 → s a = σ a) ∧ (∀ j, j < l → s (P + 1) j = σ (P + 1) j) ∧ ∀ i, i < 4 → s (P + 1) (l + i) = byt x i := by
  have q : P ≠ P + 1 := by omega
  have step : ∀ (fu i : Nat) (sh sh' : Int32) (s : Sig), i < 4 → s P 1 = nI (l + i) → ¬ sh < 0 → sh + (-8) = sh' → ((sh.toUInt32 &&& Int32.toUInt32 31).toBitVec % 32).toNat = 24 - 8 * i → X6_put_b3 P (fu + 1) x sh s = X6_put_b3 P fu x sh' (wr (wr s (P + 1) (l + i) (byt x i)) P 1 (nI (l + (i + 1)))) := by
    intro fu i sh sh' s hi e h0 e8 hs
    conv => lhs; unfold X6_put_b3
    rw [if_neg h0, e, if_neg (show ¬ (400 : Int32) ≤ nI (l + i) from nI_ge (b := 400) (by omega) (by decide)), byt_c x sh _ hs, stn (by omega) (by decide), bsm]
    unfold pI
    rw [bsm, wr_row q, e, nI_s, e8]; rfl
  unfold X6_put_f
  rw [show FU = 29995 + 1 + 1 + 1 + 1 + 1 from rfl]
  rw [step (29995 + 1 + 1 + 1 + 1) 0 24 16 σ (by decide) h1 (by decide) (by decide) (by decide)]
  rw [step (29995 + 1 + 1 + 1) 1 16 8 _ (by decide) wr_v (by decide) (by decide) (by decide)]
  rw [step (29995 + 1 + 1) 2 8 0 _ (by decide) wr_v (by decide) (by decide) (by decide)]
  rw [step (29995 + 1) 3 0 (-8) _ (by decide) wr_v (by decide) (by decide) (by decide)]
  conv => enter [1, s, 1]; unfold X6_put_b3
  rw [if_pos (by decide)]
  refine ⟨_, rfl, wr_v, fun a h1 h2 => ?_, fun j hj => ?_, fun i hi => ?_⟩
  · rw [wr_row h1, wr_row h2, wr_row h1, wr_row h2, wr_row h1, wr_row h2, wr_row h1, wr_row h2]
  · rw [wr_row q.symm, wr_o (by omega), wr_row q.symm, wr_o (by omega), wr_row q.symm, wr_o (by omega), wr_row q.symm, wr_o (by omega)]
  · have : i = 0 ∨ i = 1 ∨ i = 2 ∨ i = 3 := by omega
    rcases this with rfl | rfl | rfl | rfl
    · rw [wr_row q.symm, wr_o (by omega), wr_row q.symm, wr_o (by omega), wr_row q.symm, wr_o (by omega), wr_row q.symm, wr_v]
    · rw [wr_row q.symm, wr_o (by omega), wr_row q.symm, wr_o (by omega), wr_row q.symm, wr_v]
    · rw [wr_row q.symm, wr_o (by omega), wr_row q.symm, wr_v]
    · rw [wr_row q.symm, wr_v]
def sel5 (a b c d e : Int32) (k : Nat) : Int32 := if k < 4 then a else if k < 8 then b else if k < 12 then c else if k < 16 then d else e
theorem re_feed20 {B : Nat} {a b c d e : Int32} {σ : Sig} {l : Nat} (hl : l + 20 ≤ 400) (h1 : σ B 12 = nI l) : ∃ s, X12_feed_b18 B FU a b c d e 0 σ = some (nI (l + 20), s) ∧ s B 12 = nI (l + 20) ∧ (∀ x, x ≠ B → x ≠ B + 6 → s x = σ x) ∧ (∀ j, j ≠ 12 → s B j = σ B j) ∧ (∀ j, j < l → s (B + 6) j = σ (B + 6) j) ∧ ∀ i, i < 20 → s (B + 6) (l + i) = byt (sel5 a b c d e i) (i % 4) := by
  have q : B ≠ B + 6 := by omega
  have key := fuel_up (m := 20) (C := fun fu k => ∀ s0 : Sig, s0 B 12 = nI (l + k) → (∀ x, x ≠ B → x ≠ B + 6 → s0 x = σ x) → (∀ j, j ≠ 12 → s0 B j = σ B j) → (∀ j, j < l → s0 (B + 6) j = σ (B + 6) j) → (∀ i, i < k → s0 (B + 6) (l + i) = byt (sel5 a b c d e i) (i % 4)) → ∃ s, X12_feed_b18 B fu a b c d e (nI k) s0 = some (nI (l + 20), s) ∧ s B 12 = nI (l + 20) ∧ (∀ x, x ≠ B → x ≠ B + 6 → s x = σ x) ∧ (∀ j, j ≠ 12 → s B j = σ B j) ∧ (∀ j, j < l → s (B + 6) j = σ (B + 6) j) ∧ ∀ i, i < 20 → s (B + 6) (l + i) = byt (sel5 a b c d e i) (i % 4)) (fun fu s0 g1 g2 g3 g4 g5 => ?_) (fun fu k hk ih s0 g1 g2 g3 g4 g5 => ?_) 20 0 FU (by omega) (by unfold FU; omega)
  · rw [nI_0] at key
    exact key σ h1 (fun _ _ _ => rfl) (fun _ _ => rfl) (fun _ _ => rfl) (fun i hi => absurd hi (by omega))
  · refine ⟨s0, ?_, g1, g2, g3, g4, g5⟩
    unfold X12_feed_b18
    rw [if_pos (show (20 : Int32) ≤ nI 20 from Int32.le_refl _), g1]
  · have b71 : ∀ y : Int32, y = sel5 a b c d e k → ∃ s, X12_feed_b71 B (X12_feed_b18 B fu) a b c d e (nI k) y s0 = some (nI (l + 20), s) ∧ s B 12 = nI (l + 20) ∧ (∀ x, x ≠ B → x ≠ B + 6 → s x = σ x) ∧ (∀ j, j ≠ 12 → s B j = σ B j) ∧ (∀ j, j < l → s (B + 6) j = σ (B + 6) j) ∧ ∀ i, i < 20 → s (B + 6) (l + i) = byt (sel5 a b c d e i) (i % 4) := by
      intro y hy
      unfold X12_feed_b71
      have er : (nI k - nI k / 4 * 4 : Int32) = nI (k % 4) := pk_rem (a := k) (d := 4) (by omega) (by decide) (by decide)
      have eb : ((y >>> ((24 - (8 * (nI k - nI k / 4 * 4))) &&& 31)) &&& 255) = byt y (k % 4) := by
        rw [er]
        have h4 : k % 4 = 0 ∨ k % 4 = 1 ∨ k % 4 = 2 ∨ k % 4 = 3 := by omega
        rcases h4 with z | z | z | z <;> rw [z]
        · exact byt_r y _ 24 (by omega) (by decide)
        · exact byt_r y _ 16 (by omega) (by decide)
        · exact byt_r y _ 8 (by omega) (by decide)
        · exact byt_r y _ 0 (by omega) (by decide)
      rw [eb, g1, stn (by omega) (by decide), bsm]
      unfold pI
      rw [bsm, wr_row q, g1, nI_s, nI_s]
      refine ih _ wr_v (fun x h1 h2 => by rw [wr_row h1, wr_row h2]; exact g2 x h1 h2) (fun j hj => by rw [wr_o hj, wr_row q]; exact g3 j hj) (fun j hj => by rw [wr_row q.symm, wr_o (by omega)]; exact g4 j hj) (fun i hi => ?_)
      rw [wr_row q.symm]
      by_cases c0 : i = k
      · subst c0; rw [wr_v, hy]
      · rw [wr_o (by omega)]; exact g5 i (by omega)
    unfold X12_feed_b18
    rw [if_neg (show ¬ (20 : Int32) ≤ nI k from nI_ge (b := 20) hk (by decide))]
    have le : ∀ m : Nat, m < 2 ^ 31 → (nI m ≤ nI k ↔ m ≤ k) := fun m hm => nI_leI hm (by omega)
    by_cases c4 : k < 4
    · rw [if_neg (show ¬ (4 : Int32) ≤ nI k from fun z => absurd ((le 4 (by decide)).mp z) (by omega))]; exact b71 a (by unfold sel5; rw [if_pos c4])
    rw [if_pos (show (4 : Int32) ≤ nI k from (le 4 (by decide)).mpr (by omega))]
    by_cases c8 : k < 8
    · rw [if_neg (show ¬ (8 : Int32) ≤ nI k from fun z => absurd ((le 8 (by decide)).mp z) (by omega))]; exact b71 b (by unfold sel5; rw [if_neg c4, if_pos c8])
    rw [if_pos (show (8 : Int32) ≤ nI k from (le 8 (by decide)).mpr (by omega))]
    by_cases c12 : k < 12
    · rw [if_neg (show ¬ (12 : Int32) ≤ nI k from fun z => absurd ((le 12 (by decide)).mp z) (by omega))]; exact b71 c (by unfold sel5; rw [if_neg c4, if_neg c8, if_pos c12])
    rw [if_pos (show (12 : Int32) ≤ nI k from (le 12 (by decide)).mpr (by omega))]
    by_cases c16 : k < 16
    · rw [if_neg (show ¬ (16 : Int32) ≤ nI k from fun z => absurd ((le 16 (by decide)).mp z) (by omega))]; exact b71 d (by unfold sel5; rw [if_neg c4, if_neg c8, if_neg c12, if_pos c16])
    rw [if_pos (show (16 : Int32) ≤ nI k from (le 16 (by decide)).mpr (by omega))]
    exact b71 e (by unfold sel5; rw [if_neg c4, if_neg c8, if_neg c12, if_neg c16])
theorem st_feed (A b : Nat) : St_feed (Inv A b) A (A + 84) := by
  intro h v1 v2 v3 v4 v5 hI
  obtain ⟨τ, σ, nx⟩ := h
  obtain ⟨-, -, -, -, -, -, ⟨l, hl, e1, e2, ht⟩, -⟩ := id hI
  dsimp only at e1 e2 ht
  show ∃ (r : Int32) (h1 h2 : Hp), ((X11_feed_f A v1 v2 v3 v4 v5 σ).bind fun p => some (p.1, ((τ, p.2, nx) : Hp))) = some (r, h1) ∧ ShX12 h1.1 (A + 84) ∧ ((X12_feed_f (A + 84) v1 v2 v3 v4 v5 h1.2.1).bind fun p => some (p.1, ((h1.1, p.2, h1.2.2) : Hp))) = some (r, h2) ∧ Inv A b h2
  have e20 : nI l + 20 = nI (l + 20) := nI_add l 20
  by_cases cf : l + 20 ≤ 400
  · have hle : nI (l + 20) ≤ 400 := nI_le (b := 400) cf (by decide)
    obtain ⟨s1, a1, a2, a3, a4, a5⟩ := cl_put (P := A + 75) (x := v1) (l := l) (by omega) e1
    obtain ⟨s2, b1, b2, b3, b4, b5⟩ := cl_put (P := A + 75) (x := v2) (l := l + 4) (by omega) a2
    obtain ⟨s3, c1, c2, c3, c4, c5⟩ := cl_put (P := A + 75) (x := v3) (l := l + 4 + 4) (by omega) b2
    obtain ⟨s4, d1, d2, d3, d4, d5⟩ := cl_put (P := A + 75) (x := v4) (l := l + 4 + 4 + 4) (by omega) c2
    obtain ⟨s5, f1, f2, f3, f4, f5⟩ := cl_put (P := A + 75) (x := v5) (l := l + 4 + 4 + 4 + 4) (by omega) d2
    have fr : ∀ a, a ≠ A + 75 → a ≠ A + 76 → s5 a = σ a := fun a h1 h2 => by rw [f3 a h1 h2, d3 a h1 h2, c3 a h1 h2, b3 a h1 h2, a3 a h1 h2]
    obtain ⟨r, g1, g2, g3, g4, g5, g6⟩ := re_feed20 (B := A + 84) (a := v1) (b := v2) (c := v3) (d := v4) (e := v5) (σ := s5) cf (by rw [fr _ (by omega) (by omega)]; exact e2)
    refine hI.yes (re := fun ρ => X12_feed_f (A + 84) v1 v2 v3 v4 v5 ρ) (r := nI (l + 20)) (s := s5) (r' := r) ?_ ?_ ?_
    · unfold X11_feed_f
      rw [e1, e20, if_pos hle, a1, bsm, b1, bsm, c1, bsm, d1, bsm, f1, bsm, f2]
    · unfold X12_feed_f
      rw [fr _ (by omega) (by omega), e2, e20, if_pos hle, g1]
    · refine hI.tp (fun a h1 h2 h3 h4 => by rw [g3 a h3 (by omega), fr a h1 h2]) (fun j hj => by rw [g4 j hj, fr _ (by omega) (by omega)]) ⟨l + 20, cf, by rw [g3 _ (by omega) (by omega), f2], g2, fun j hj => ?_⟩
      rw [g3 (A + 75 + 1) (by omega) (by omega)]
      by_cases c0 : j < l
      · rw [g5 j c0, fr (A + 84 + 6) (by omega) (by omega), f4 j (by omega), d4 j (by omega), c4 j (by omega), b4 j (by omega), a4 j c0]
        exact ht j c0
      · obtain ⟨i, hi, rfl⟩ : ∃ i, i < 20 ∧ j = l + i := ⟨j - l, by omega, by omega⟩
        rw [g6 i hi]
        refine ⟨?_, byt_up _ _⟩
        unfold sel5
        by_cases k4 : i < 4
        · rw [if_pos k4, f4 _ (by omega), d4 _ (by omega), c4 _ (by omega), b4 _ (by omega), a5 i k4, show i % 4 = i by omega]
        rw [if_neg k4]
        by_cases k8 : i < 8
        · rw [if_pos k8, f4 _ (by omega), d4 _ (by omega), c4 _ (by omega), show l + i = l + 4 + (i - 4) by omega, b5 _ (by omega), show i % 4 = i - 4 by omega]
        rw [if_neg k8]
        by_cases k12 : i < 12
        · rw [if_pos k12, f4 _ (by omega), d4 _ (by omega), show l + i = l + 4 + 4 + (i - 8) by omega, c5 _ (by omega), show i % 4 = i - 8 by omega]
        rw [if_neg k12]
        by_cases k16 : i < 16
        · rw [if_pos k16, f4 _ (by omega), show l + i = l + 4 + 4 + 4 + (i - 12) by omega, d5 _ (by omega), show i % 4 = i - 12 by omega]
        rw [if_neg k16, show l + i = l + 4 + 4 + 4 + 4 + (i - 16) by omega, f5 _ (by omega), show i % 4 = i - 16 by omega]
  · have hgt : ¬ nI (l + 20) ≤ 400 := fun z => cf ((nI_leI (b := 400) (by omega) (by decide)).mp z)
    refine hI.no (re := fun ρ => X12_feed_f (A + 84) v1 v2 v3 v4 v5 ρ) (r := -1) ?_ ?_
    · unfold X11_feed_f; rw [e1, e20, if_neg hgt]
    · unfold X12_feed_f; rw [e2, e20, if_neg hgt]

/-! A NOISE, on both sides. -/
theorem two_bind2 {α β γ δ ε : Type} {o : Option α} {f : α → Option β} {q : Option γ} {S : β → γ → Prop} {g : β → Option δ} {h : γ → Option ε} {R : δ → ε → Prop} (k : Two (o.bind f) q S) (kk : ∀ x y, S x y → Two (g x) (h y) R) : Two (o.bind fun a => (f a).bind g) (q.bind h) R := by
  obtain ⟨x, y, e1, e2, hs⟩ := k
  subst e2
  cases o with
  | none => cases e1
  | some a => rw [bsm] at e1; rw [bsm, e1]; exact kk x y hs
section NO
variable {τ : Tau} {A nx : Nat} {kp : Option Nat} {W M B n nd : Nat} {σ0 ρ0 σ ρ : Sig}
theorem Z.n0 (h : Z W M B n nd σ0 ρ0 σ ρ) {p : Nat} {v : Int32} (hp : p < n) : Z W M B n nd σ0 ρ0 (wr σ (W + 1 + 8) p v) (wr ρ (B + 1) (190 + 3 * p) v) := by
  have := h.n12
  exact h.put0 (i := 9) (Or.inr (Or.inr (Or.inr (Or.inl ⟨hp, 0, by decide, rfl, rfl⟩)))) (by omega)
theorem Z.n1 (h : Z W M B n nd σ0 ρ0 σ ρ) {p : Nat} {v : Int32} (hp : p < n) : Z W M B n nd σ0 ρ0 (wr σ (W + 1 + 9) p v) (wr ρ (B + 1) (190 + 3 * p + 1) v) := by
  have := h.n12
  exact h.put0 (i := 10) (Or.inr (Or.inr (Or.inr (Or.inl ⟨hp, 1, by decide, rfl, rfl⟩)))) (by omega)
theorem Z.n2 (h : Z W M B n nd σ0 ρ0 σ ρ) {p : Nat} {v : Int32} (hp : p < n) : Z W M B n nd σ0 ρ0 (wr σ (W + 1 + 10) p v) (wr ρ (B + 1) (190 + 3 * p + 2) v) := by
  have := h.n12
  exact h.put0 (i := 11) (Or.inr (Or.inr (Or.inr (Or.inl ⟨hp, 2, by decide, rfl, rfl⟩)))) (by omega)
/-- a quarter's noise changes no more of the row -/
def Nf (B : Nat) (ρ0 ρ : Sig) : Prop := ∀ j, j ≠ 0 ∧ (j < 190 ∨ 226 ≤ j) → ρ (B + 1) j = ρ0 (B + 1) j
/-- the sums are those of now, by day -/
def Y (W M B n nd : Nat) (σ0 ρ0 σ ρ : Sig) : Prop := Z W M B n nd σ0 ρ0 σ ρ ∧ (nightV (ρ (B + 1) 2 / 4) = 0 → Tly W B nd σ ρ) ∧ Nf B ρ0 ρ
theorem lfS_fr {w w' : wF} (hw : ∀ j, 230 ≤ j → w' j = w j) (x p : Int32) : lfS w' x p = lfS w x p := by
  funext d
  unfold lfS whoS wkr
  rw [hw (230 + 8 * d) (by omega), hw (230 + 8 * d + 1) (by omega), hw (230 + 8 * d + 2) (by omega), hw (230 + 8 * d + 4) (by omega)]
theorem Y.of {σ' ρ' : Sig} (h : Y W M B n nd σ0 ρ0 σ ρ) (hZ : Z W M B n nd σ0 ρ0 σ' ρ') (h1 : σ' (W + 21) = σ (W + 21)) (h2 : σ' (W + 22) = σ (W + 22)) (hw : ∀ j, j ≠ 0 ∧ (j < 190 ∨ 226 ≤ j) → ρ' (B + 1) j = ρ (B + 1) j) : Y W M B n nd σ0 ρ0 σ' ρ' := by
  refine ⟨hZ, fun hn => ?_, fun j hj => (hw j hj).trans (h.2.2 j hj)⟩
  rw [hw 2 (by omega)] at hn
  obtain ⟨t1, t2⟩ := h.2.1 hn
  refine ⟨fun p hp => ?_, fun p hp => ?_⟩
  · rw [h1, lfS_fr (fun j hj => hw j (by omega))]; exact t1 p hp
  · rw [h2, lfS_fr (fun j hj => hw j (by omega))]; exact t2 p hp
theorem Y.fx {σ' ρ' : Sig} (h : Y W M B n nd σ0 ρ0 σ ρ) (h1 : FxC W σ σ') (h2 : FxR B ρ ρ') : Y W M B n nd σ0 ρ0 σ' ρ' :=
  h.of (h.1.fx h1 h2) (h1 _ (by omega) (by omega)) (h1 _ (by omega) (by omega)) (fun j _ => by rw [h2 _ (by omega) (by omega)])
theorem Y.n0 (h : Y W M B n nd σ0 ρ0 σ ρ) {p : Nat} {v : Int32} (hp : p < n) : Y W M B n nd σ0 ρ0 (wr σ (W + 1 + 8) p v) (wr ρ (B + 1) (190 + 3 * p) v) := by
  have := h.1.n12
  exact h.of (h.1.n0 hp) (wr_row (by omega)) (wr_row (by omega)) (fun j hj => by rw [wr_w, upd_ne (by omega)])
theorem Y.n1 (h : Y W M B n nd σ0 ρ0 σ ρ) {p : Nat} {v : Int32} (hp : p < n) : Y W M B n nd σ0 ρ0 (wr σ (W + 1 + 9) p v) (wr ρ (B + 1) (190 + 3 * p + 1) v) := by
  have := h.1.n12
  exact h.of (h.1.n1 hp) (wr_row (by omega)) (wr_row (by omega)) (fun j hj => by rw [wr_w, upd_ne (by omega)])
theorem Y.n2 (h : Y W M B n nd σ0 ρ0 σ ρ) {p : Nat} {v : Int32} (hp : p < n) : Y W M B n nd σ0 ρ0 (wr σ (W + 1 + 10) p v) (wr ρ (B + 1) (190 + 3 * p + 2) v) := by
  have := h.1.n12
  exact h.of (h.1.n2 hp) (wr_row (by omega)) (wr_row (by omega)) (fun j hj => by rw [wr_w, upd_ne (by omega)])
theorem two_drawY (h : Y W M B n nd σ0 ρ0 σ ρ) : Two (X8_draw_f (W + 26) 1000 σ) (X12_draw_f B 1000 ρ) (fun x y => x.1 = y.1 ∧ Y W M B n nd σ0 ρ0 x.2 y.2) := by
  unfold X8_draw_f X12_draw_f
  simp only [LW, SW, pI, bsm]
  rw [if_neg (by decide), if_neg (by decide), if_neg (by decide)]
  have hz := h.1
  refine two_some ⟨?_, ?_⟩
  · dsimp only
    rw [wr_same, wr_same, if_pos rfl, if_pos rfl, hz.sca.2.2.2.2.2.1]
  · dsimp only
    rw [hz.sca.2.2.2.2.2.1]
    exact h.of (hz.put0 (i := 26) (by simp [Cor]) (by omega)) (wr_row (by omega)) (wr_row (by omega)) (fun j hj => by rw [wr_w, upd_ne (by omega)])
theorem X12_fix (p : Nat) : (190 + 3 * nI p : Int32) = nI (190 + 3 * p) := by
  rw [show (190 : Int32) = nI 190 from rfl, show (3 : Int32) = nI 3 from rfl, pk_mul, nI_add]
theorem sound_two (h : Y W M B n nd σ0 ρ0 σ ρ) (hT : Txs τ σ0 A nx kp W (ρ0 (B + 1))) (hW : A + 5 ≤ W ∧ W + 35 ≤ A + 95) {p : Nat} (hp : p < n) {sort loud : Int32} (hs : sort ≠ -1) : Two ((X10_putNoise_f W M (nI p) sort loud σ).bind fun s => X10_judgeNoise_f τ W M (nI p) s) (X12_sounds_f B (nI p) sort loud ρ) (Y W M B n nd σ0 ρ0) := by
  have h12 := h.1.n12
  have h1 := (h.n0 (v := sort) hp).n1 (v := loud) hp
  generalize e1 : wr (wr σ (W + 1 + 8) p sort) (W + 1 + 9) p loud = σ1 at h1
  generalize e2 : wr (wr ρ (B + 1) (190 + 3 * p) sort) (B + 1) (190 + 3 * p + 1) loud = ρ1 at h1
  have hl : ∀ f : Nat → Int32, ld 12 f (nI p) = some (f p) := fun f => ldn (by omega) (by decide)
  have a1 : X10_putNoise_f W M (nI p) sort loud σ = some σ1 := by
    unfold X10_putNoise_f; rw [stn (by omega) (by decide), bsm, stn (by omega) (by decide), bsm, e1]
  have s0 : σ1 (W + 1 + 8) p = sort := by rw [← e1, wr_row (by omega), wr_same, if_pos rfl]
  have s1 : σ1 (W + 1 + 9) p = loud := by rw [← e1, wr_same, if_pos rfl]
  rw [a1, bsm]
  unfold X10_judgeNoise_f X12_sounds_f
  rw [hl, bsm, s0, if_neg hs, rM0 (by omega), bsm, rM1 (by omega), bsm, e2, LW.2.2.2.2.2.2.2.2.1, bsm, re_hour, bsm, h1.1.p0 hp, bsm, rO0 (by omega), bsm]
  obtain ⟨k, hk, ek⟩ := h1.1.g.2.2.2.2.2.2.2.1
  have hst : ∀ v : Int32, ∀ σ' ρ' : Sig, FxC W σ1 σ' → FxR B ρ1 ρ' → Two (X10_judgeNoise_b91 τ W M v (nI p) σ') (X12_sounds_b91 B v (190 + 3 * nI p + 2) ρ') (Y W M B n nd σ0 ρ0) := by
    intro v σ' ρ' q1 q2
    unfold X10_judgeNoise_b91 X12_sounds_b91
    rw [stn (by omega) (by decide), bsm, rM2 (by omega), bsm]
    exact two_some ((h1.fx q1 q2).n2 hp)
  have go : ∀ ch : Int32, Two (X10_judgeNoise_b34 τ W M (nI p) sort ch σ1) (X12_sounds_b70 B ch (ρ1 (B + 1) 2 / 4) loud sort (ρ1 (B + 1) 8) (190 + 3 * nI p + 2) ρ1) (Y W M B n nd σ0 ρ0) := by
    intro ch
    unfold X10_judgeNoise_b34 X12_sounds_b70
    rw [hl, bsm, s1, cl_hour h1.1, bsm, cl_isFeast h1.1, bsm, LW.2.1, bsm, re_feast, bsm, h1.1.sca.2.2.2.2.1, ek]
    refine two_bind (word_two h1.1 hT hW (by omega) sort loud _ ch _) (fun x y hxy => ?_)
    obtain ⟨x1, x2⟩ := x
    obtain ⟨y1, y2⟩ := y
    obtain ⟨r1, r2, r3, r4⟩ := hxy
    dsimp only at r1 r2 r3 r4 ⊢
    subst r1
    exact two_if Iff.rfl (fun _ _ => hst 0 x2 y2 r3 r4) (fun _ _ => hst 1 x2 y2 r3 r4)
  exact two_if Iff.rfl (fun _ _ => go 1) (fun _ _ => go 0)
/-- no noise: nothing to judge -/
theorem judge_none {p : Nat} (hp : p < 12) (hs : σ (W + 1 + 8) p = -1) : X10_judgeNoise_f τ W M (nI p) σ = some σ := by
  unfold X10_judgeNoise_f
  rw [ldn (by omega) (by decide), bsm, hs, if_pos rfl]
theorem bind_ra {α β γ : Type} (o : Option α) (f : α → Option β) (g : β → Option γ) : (o.bind f).bind g = o.bind fun a => (f a).bind g := by cases o <;> rfl
theorem bind_if {α β : Type} {c : Prop} [Decidable c] (a b : Option α) (g : α → Option β) : (if c then a else b).bind g = if c then a.bind g else b.bind g := by
  by_cases h : c
  · rw [if_pos h, if_pos h]
  · rw [if_neg h, if_neg h]
theorem noise_two (h : Y W M B n nd σ0 ρ0 σ ρ) (hT : Txs τ σ0 A nx kp W (ρ0 (B + 1))) (hW : A + 5 ≤ W ∧ W + 35 ≤ A + 95) {p : Nat} (hp : p < n) : Two ((X10_makeNoise_f τ W M (nI p) σ).bind fun s => X10_judgeNoise_f τ W M (nI p) s) (X12_makesNoise_f B (nI p) ρ) (Y W M B n nd σ0 ρ0) := by
  have h12 := h.1.n12
  have h1 := ((h.n0 (v := -1) hp).n1 (v := -1) hp).n2 (v := -1) hp
  generalize e1 : wr (wr (wr σ (W + 1 + 8) p (-1)) (W + 1 + 9) p (-1)) (W + 1 + 10) p (-1) = σ1 at h1
  generalize e2 : wr (wr (wr ρ (B + 1) (190 + 3 * p) (-1)) (B + 1) (190 + 3 * p + 1) (-1)) (B + 1) (190 + 3 * p + 2) (-1) = ρ1 at h1
  have s0 : σ1 (W + 1 + 8) p = -1 := by rw [← e1, wr_row (by omega), wr_row (by omega), wr_same, if_pos rfl]
  have jn : ∀ σ' ρ' : Sig, Y W M B n nd σ0 ρ0 σ' ρ' → σ' (W + 1 + 8) p = -1 → Two ((some σ').bind fun s => X10_judgeNoise_f τ W M (nI p) s) (some ρ') (Y W M B n nd σ0 ρ0) := by
    intro σ' ρ' hy hs
    rw [bsm, judge_none (by omega) hs]; exact two_some hy
  have a1 : X4_hush_f (W + 1) (nI p) σ = some σ1 := by
    unfold X4_hush_f; rw [stn (by omega) (by decide), bsm, stn (by omega) (by decide), bsm, stn (by omega) (by decide), bsm, e1]
  have a2 : X12_hushes_f B (nI p) ρ = some ρ1 := by
    unfold X12_hushes_f; rw [rM0 (by omega), bsm, rM1 (by omega), bsm, rM2 (by omega), bsm, e2]
  obtain ⟨so, hso, eso⟩ := (h1.1.g.1.2.2 p hp).1
  unfold X10_makeNoise_f X12_makesNoise_f
  rw [a1, bsm, a2, bsm, h1.1.p0 hp, bsm, rO0 (by omega), bsm, bsm, eso]
  -- by chance: child or at night
  have chance : ∀ (ch so2 : Int32) (f : Int32 → Int32), so2 ≠ -1 → (∀ ρ' : Sig, ∀ σ' : Sig, Y W M B n nd σ0 ρ0 σ' ρ' → X12_makesNoise_b73 B (nI p) ch so2 (nI p) ρ' = (X12_sounds_f B (nI p) so2 (f (ρ' (B + 1) (90 + 8 * p + 2))) ρ').bind fun s => some s) → (if ch = 0 then (1 : Int32) else 2) = so2 → Two ((X8_draw_f (W + 26) 1000 σ1).bind fun q => ((ld 12 (q.2 ((W + 1) + 4)) (nI p)).bind fun v13 => if v13 ≤ q.1 then (some q.2) else ((ld 12 (q.2 ((W + 1) + 3)) (nI p)).bind fun v16 => (X10_putNoise_f W M (nI p) so2 (f v16) q.2).bind fun s18 => some s18)).bind fun s => X10_judgeNoise_f τ W M (nI p) s) (X12_makesNoise_b46 B (nI p) ch ρ1) (Y W M B n nd σ0 ρ0) := by
    intro ch so2 f hso2 hb hch
    unfold X12_makesNoise_b46
    obtain ⟨x, y, dx, dy, hxy⟩ := two_drawY h1
    obtain ⟨x1, x2⟩ := x
    obtain ⟨y1, y2⟩ := y
    obtain ⟨r1, r2⟩ := hxy
    dsimp only at r1 r2
    subst r1
    have keep : x2 (W + 1 + 8) p = -1 := by
      unfold X8_draw_f at dx
      simp only [pI, bsm] at dx
      rw [if_neg (by decide), if_neg (by decide)] at dx
      cases dx
      rw [wr_row (by omega)]; exact s0
    rw [dx, dy, bsm, bsm]
    dsimp only
    rw [r2.1.p3 hp, bsm, rO3 (by omega), bsm, r2.1.p2 hp, bsm, bind_if]
    refine two_if Iff.rfl (fun _ _ => jn _ _ r2 keep) (fun _ _ => ?_)
    have e : (if ch = 0 then (X12_makesNoise_b73 B (nI p) ch 1 (nI p) y2) else (X12_makesNoise_b73 B (nI p) ch 2 (nI p) y2)) = X12_makesNoise_b73 B (nI p) ch so2 (nI p) y2 := by
      rw [← hch]; split <;> rfl
    rw [e, hb y2 x2 r2, bind_ra]
    refine two_eq (o' := (X10_putNoise_f W M (nI p) so2 (f (y2 (B + 1) (90 + 8 * p + 2))) x2).bind fun s => X10_judgeNoise_f τ W M (nI p) s) (by cases X10_putNoise_f W M (nI p) so2 (f (y2 (B + 1) (90 + 8 * p + 2))) x2 <;> rfl) (q' := X12_sounds_f B (nI p) so2 (f (y2 (B + 1) (90 + 8 * p + 2))) y2) (by cases X12_sounds_f B (nI p) so2 (f (y2 (B + 1) (90 + 8 * p + 2))) y2 <;> rfl) ?_
    exact sound_two r2 hT hW hp hso2
  have h3 : so = 0 ∨ so = 1 ∨ so = 2 := by omega
  rcases h3 with rfl | rfl | rfl
  · rw [if_neg (by decide), if_pos (by decide), if_neg (by decide), if_neg (by decide), cl_isNight h1.1, bsm]
    unfold X12_makesNoise_b31
    rw [if_pos rfl, re_hour, bsm, re_night, bsm, bind_if]
    refine two_if Iff.rfl (fun hn _ => ?_) (fun _ _ => ?_)
    · unfold X10_makeNoise_b119
      rw [if_pos (by decide), bind_ra]
      obtain ⟨x, y, dx, dy, hxy⟩ := deed_two h1.1 hT hW (h1.2.1 hn) hp
      obtain ⟨x1, x2⟩ := x
      obtain ⟨y1, y2⟩ := y
      obtain ⟨r1, r2, r3⟩ := hxy
      dsimp only at r1 r2 r3
      have h2 := h1.fx r2 r3
      have keep : x2 (W + 1 + 8) p = -1 := by rw [r2 _ (by omega) (by omega)]; exact s0
      have ew : y2 (B + 1) = ρ1 (B + 1) := r3 _ (by omega) (by omega)
      rw [dx, dy, bsm, bsm]
      dsimp only
      rcases r1 with ⟨rfl, rfl⟩ | ⟨l, q, hl, rfl, hq, e26, hd⟩
      · rw [if_pos (by decide), if_pos (by decide), if_pos rfl]; exact jn _ _ h2 keep
      · have ld25 : ld 20240 (y2 (B + 1)) (2560 + nI l) = some (ρ1 (B + 1) (2560 + l)) := by
          rw [show (2560 + nI l : Int32) = nI (2560 + l) from nI_add 2560 l, ldn (by omega) (by decide), ew]
        have ld26 : ld 20240 (y2 (B + 1)) (2660 + nI l) = some (nI q) := by
          rw [show (2660 + nI l : Int32) = nI (2660 + l) from nI_add 2660 l, ldn (by omega) (by decide), ew, e26]
        rw [if_neg (ne_m1 (by omega)), ld25, bsm]
        unfold X12_makesNoise_b130
        rw [ld26, bsm, bsm]
        have done : ∀ so2 : Int32, so2 ≠ -1 → Two (((X10_putNoise_f W M (nI p) so2 (nI q) x2).bind fun s => some s).bind fun s => X10_judgeNoise_f τ W M (nI p) s) ((X12_sounds_f B (nI p) so2 (nI q) y2).bind fun s3 => some s3) (Y W M B n nd σ0 ρ0) := fun so2 hne =>
          two_eq (o' := (X10_putNoise_f W M (nI p) so2 (nI q) x2).bind fun s => X10_judgeNoise_f τ W M (nI p) s) (by cases X10_putNoise_f W M (nI p) so2 (nI q) x2 <;> rfl) (q' := X12_sounds_f B (nI p) so2 (nI q) y2) (by cases X12_sounds_f B (nI p) so2 (nI q) y2 <;> rfl) (sound_two h2 hT hW hp hne)
        rcases hd with ⟨hd1, rfl⟩ | ⟨hd1, rfl⟩
        · rw [if_pos (show nI (q + 1) < 101 from nI_lt (by omega : q + 1 < 101) (by decide)), if_neg (show ¬ nI (q + 1) < 1 from nI_nlt (by omega : 1 ≤ q + 1) (by omega)), nI_pred, hd1, if_pos rfl]
          exact done 0 (by decide)
        · rw [if_neg (show ¬ nI (q + 101) < 101 from nI_nlt (by omega : 101 ≤ q + 101) (by omega)), show nI (q + 101) - 101 = nI q from (pk_sub (a := q + 101) (b := 101) (by omega)).trans (by rw [Nat.add_sub_cancel]), hd1, if_neg (by decide)]
          exact done 3 (by decide)
    · rw [bind_ra]
      refine chance 0 1 (fun x => x / 2) (by decide) (fun ρ' σ' _ => ?_) rfl
      unfold X12_makesNoise_b73 X12_makesNoise_b94
      rw [if_pos rfl, rO2 (by omega), bsm]
  · rw [if_pos (by decide), if_neg (by decide), if_pos (by decide), bind_ra]
    unfold X12_makesNoise_b31
    rw [if_neg (by decide)]
    refine chance 1 2 (fun x => x) (by decide) (fun ρ' σ' _ => ?_) rfl
    unfold X12_makesNoise_b73 X12_makesNoise_b94
    rw [if_neg (by decide), rO2 (by omega), bsm]
  · rw [if_neg (by decide), if_neg (by decide), if_pos (by decide)]
    unfold X10_makeNoise_b119
    rw [if_neg (by decide)]
    exact jn _ _ h1 s0
end NO

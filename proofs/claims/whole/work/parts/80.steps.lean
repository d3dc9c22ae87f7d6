/-! A CONDITION, on both sides. -/
theorem code_bits {e : Nat} (he : e < 2 ^ 31) : (nI e &&& 15 = nI (e % 16)) ∧ (nI e >>> (4 &&& 31) = nI (e / 16)) :=
  ⟨pk_andN (by omega) 4 (by decide), pk_shrN he (4 &&& 31) 4 (by decide)⟩
theorem ofN (n : Nat) : Int32.ofNat n = nI n := rfl
section CS
variable {t n1 n2 c r3 r4 fu e i q : Nat} {σ : Sig}
theorem cs_open (hie : i < e) (he : e ≤ c) (hc : c ≤ 400) {x : Nat} (hx : x < 2 ^ 31) (hcd : σ (t + 3) i = nI x) {top : Int32} {R : Option (Int32 × Sig)}
    (hR : (if nI (x % 16) = 0 then (X7_isSo_b56 t n1 n2 c r3 8 r4 32 (X7_isSo_b6 t n1 n2 c r3 8 r4 32 fu) (nI e) top (nI i) (nI (x % 16)) (nI (x / 16)) σ) else (if nI (x % 16) = 1 then (X7_isSo_b56 t n1 n2 c r3 8 r4 32 (X7_isSo_b6 t n1 n2 c r3 8 r4 32 fu) (nI e) top (nI i) (nI (x % 16)) (nI (x / 16)) σ) else (if nI (x % 16) = 5 then (if top < 1 then (X7_isSo_b6 t n1 n2 c r3 8 r4 32 fu (nI e) top (nI i + 1) σ) else (if nI (x / 16) ≤ 0 then (X7_isSo_b6 t n1 n2 c r3 8 r4 32 fu (nI e) top (nI i + 1) σ) else ((ld 32 (σ r4) (top - 1)).bind fun v27 => if nI (x / 16) = 0 then none else ((st 32 σ r4 (top - 1) (v27 / nI (x / 16))).bind fun s30 => X7_isSo_b6 t n1 n2 c r3 8 r4 32 fu (nI e) top (nI i + 1) s30)))) else (if nI (x % 16) = 9 then (if top < 1 then (X7_isSo_b6 t n1 n2 c r3 8 r4 32 fu (nI e) top (nI i + 1) σ) else ((ld 32 (σ r4) (top - 1)).bind fun v21 => (st 32 σ r4 (top - 1) (1 - v21)).bind fun s23 => X7_isSo_b6 t n1 n2 c r3 8 r4 32 fu (nI e) top (nI i + 1) s23)) else (if top < 2 then (X7_isSo_b6 t n1 n2 c r3 8 r4 32 fu (nI e) top (nI i + 1) σ) else ((ld 32 (σ r4) ((top + (-1)) - 1)).bind fun v12 => (ld 32 (σ r4) (top + (-1))).bind fun v14 => (X7_join_f (nI (x % 16)) v12 v14 σ).bind fun v16 => (st 32 σ r4 ((top + (-1)) - 1) v16).bind fun s18 => X7_isSo_b6 t n1 n2 c r3 8 r4 32 fu (nI e) (top + (-1)) (nI i + 1) s18))))) ) = R) : X7_isSo_b6 t n1 n2 c r3 8 r4 32 (fu + 1) (nI e) top (nI i) σ = R := by
  subst hR
  conv => lhs; unfold X7_isSo_b6
  rw [if_neg (nI_ge hie (by omega)), if_neg (show ¬ Int32.ofNat c ≤ nI i from nI_ge (by omega : i < c) (by omega)), ldn (by omega) (by omega), hcd]
  simp only [Option.bind_some]
  rw [(code_bits hx).1, (code_bits hx).2]
theorem cs_push0 (hie : i < e) (he : e ≤ c) (hc : c ≤ 400) {v : Nat} (hv : v ≤ 9999) (hcd : σ (t + 3) i = nI (16 * v)) (hq : q < 32) : X7_isSo_b6 t n1 n2 c r3 8 r4 32 (fu + 1) (nI e) (nI q) (nI i) σ = X7_isSo_b6 t n1 n2 c r3 8 r4 32 fu (nI e) (nI (q + 1)) (nI (i + 1)) (wr σ r4 q (nI v)) := by
  refine cs_open hie he hc (by omega) hcd ?_
  rw [show 16 * v % 16 = 0 by omega, show 16 * v / 16 = v by omega, if_pos nI_0]
  unfold X7_isSo_b56 X7_isSo_b84
  rw [if_neg (show ¬ Int32.ofNat 32 ≤ nI q from nI_ge hq (by omega)), if_pos nI_0, stn hq (by decide)]
  simp only [Option.bind_some]
  rw [nI_s, nI_s]
theorem cs_push1 (hie : i < e) (he : e ≤ c) (hc : c ≤ 400) {v : Nat} (hv : v < 8) (hcd : σ (t + 3) i = nI (16 * v + 1)) (hq : q < 32) : X7_isSo_b6 t n1 n2 c r3 8 r4 32 (fu + 1) (nI e) (nI q) (nI i) σ = X7_isSo_b6 t n1 n2 c r3 8 r4 32 fu (nI e) (nI (q + 1)) (nI (i + 1)) (wr σ r4 q (σ r3 v)) := by
  refine cs_open hie he hc (by omega) hcd ?_
  rw [show (16 * v + 1) % 16 = 1 by omega, show (16 * v + 1) / 16 = v by omega, if_neg (by decide), if_pos (by decide)]
  unfold X7_isSo_b56 X7_isSo_b84 X7_valueAt_f
  rw [if_neg (show ¬ Int32.ofNat 32 ≤ nI q from nI_ge hq (by omega)), if_neg (by decide), if_neg (nI_nn (by omega)), if_neg (show ¬ Int32.ofNat 8 ≤ nI v from nI_ge hv (by omega)), ldn hv (by decide)]
  simp only [Option.bind_some]
  rw [stn hq (by decide)]
  simp only [Option.bind_some]
  rw [nI_s, nI_s]
theorem cs_part (hie : i < e) (he : e ≤ c) (hc : c ≤ 400) {v : Nat} (hv : v ≤ 9999) (hv1 : 1 ≤ v) (hcd : σ (t + 3) i = nI (16 * v + 5)) (hq : q < 32) : X7_isSo_b6 t n1 n2 c r3 8 r4 32 (fu + 1) (nI e) (nI (q + 1)) (nI i) σ = X7_isSo_b6 t n1 n2 c r3 8 r4 32 fu (nI e) (nI (q + 1)) (nI (i + 1)) (wr σ r4 q (σ r4 q / nI v)) := by
  refine cs_open hie he hc (by omega) hcd ?_
  rw [show (16 * v + 5) % 16 = 5 by omega, show (16 * v + 5) / 16 = v by omega, if_neg (by decide), if_neg (by decide), if_pos (by decide), if_neg (show ¬ nI (q + 1) < 1 from nI_nlt (by omega : 1 ≤ q + 1) (by omega)), if_neg (nI_nle (by omega) (by omega)), nI_pred, ldn hq (by decide)]
  simp only [Option.bind_some]
  rw [if_neg (nI_ne0 (by omega) (by omega)), stn hq (by decide)]
  simp only [Option.bind_some]
  rw [nI_s]
theorem cs_not (hie : i < e) (he : e ≤ c) (hc : c ≤ 400) (hcd : σ (t + 3) i = nI 9) (hq : q < 32) : X7_isSo_b6 t n1 n2 c r3 8 r4 32 (fu + 1) (nI e) (nI (q + 1)) (nI i) σ = X7_isSo_b6 t n1 n2 c r3 8 r4 32 fu (nI e) (nI (q + 1)) (nI (i + 1)) (wr σ r4 q (1 - σ r4 q)) := by
  refine cs_open hie he hc (by omega) hcd ?_
  rw [show 9 % 16 = 9 by omega, if_neg (by decide), if_neg (by decide), if_neg (by decide), if_pos (by decide), if_neg (show ¬ nI (q + 1) < 1 from nI_nlt (by omega : 1 ≤ q + 1) (by omega)), nI_pred, ldn hq (by decide)]
  simp only [Option.bind_some]
  rw [stn hq (by decide)]
  simp only [Option.bind_some]
  rw [nI_s]
theorem cs_bin (hie : i < e) (he : e ≤ c) (hc : c ≤ 400) {o : Nat} (ho : o = 2 ∨ o = 3 ∨ o = 4 ∨ o = 6 ∨ o = 7 ∨ o = 8 ∨ o = 10 ∨ o = 11) (hcd : σ (t + 3) i = nI o) (hq : q + 1 < 32) {v : Int32} (hj : X7_join_f (nI o) (σ r4 q) (σ r4 (q + 1)) σ = some v) : X7_isSo_b6 t n1 n2 c r3 8 r4 32 (fu + 1) (nI e) (nI (q + 2)) (nI i) σ = X7_isSo_b6 t n1 n2 c r3 8 r4 32 fu (nI e) (nI (q + 1)) (nI (i + 1)) (wr σ r4 q v) := by
  refine cs_open hie he hc (by omega) hcd ?_
  have e2 : ¬ nI (q + 2) < 2 := nI_nlt (by omega : 2 ≤ q + 2) (by omega)
  have e0 : ¬ nI o = 0 := nI_ne0 (by omega) (by omega)
  have e1 : ¬ nI o = 1 := fun z => by have := nI_inj (b := 1) (by omega) (by omega) z; omega
  have e5 : ¬ nI o = 5 := fun z => by have := nI_inj (b := 5) (by omega) (by omega) z; omega
  have e9 : ¬ nI o = 9 := fun z => by have := nI_inj (b := 9) (by omega) (by omega) z; omega
  rw [show o % 16 = o by omega, if_neg e0, if_neg e1, if_neg e5, if_neg e9, if_neg e2, show nI (q + 2) + (-1) = nI (q + 1) from pk_m1 (q + 1), nI_pred, ldn (by omega) (by decide), ldn hq (by decide)]
  simp only [Option.bind_some]
  rw [hj]
  simp only [Option.bind_some]
  rw [stn (by omega) (by decide)]
  simp only [Option.bind_some]
  rw [nI_s]
end CS
section RS
variable {B k fu e i q : Nat} {ρ : Sig}
theorem stp_ix (k i : Nat) : (2960 + 820 * nI k + 2 * nI i : Int32) = nI (2960 + 820 * k + 2 * i) := by
  rw [show (2960 : Int32) = nI 2960 from rfl, show (820 : Int32) = nI 820 from rfl, show (2 : Int32) = nI 2 from rfl, pk_mul, pk_mul, nI_add, nI_add]
theorem stp_ix1 (k i : Nat) : (2960 + 820 * nI k + 2 * nI i + 1 : Int32) = nI (2960 + 820 * k + 2 * i + 1) := by
  rw [stp_ix, nI_s]
theorem rs_open (hie : i < e) (he : e ≤ 400) (hk : k < 6) {s : Nat} (hs : ρ (B + 1) (2960 + 820 * k + 2 * i) = nI s) {top : Int32} {R : Option (Int32 × Sig)}
    (hR : (if 12 ≤ nI s then (if nI s = 15 then ((ld 420 (ρ (B + 7)) (top - 1)).bind fun v23 => if ρ (B + 1) (2960 + 820 * k + 2 * i + 1) = 0 then none else ((st 420 ρ (B + 7) (top - 1) (v23 / ρ (B + 1) (2960 + 820 * k + 2 * i + 1))).bind fun s26 => X12_comesTo_b6 B fu (nI k) (nI e) top (nI i + 1) s26)) else (if nI s = 19 then ((ld 420 (ρ (B + 7)) (top - 1)).bind fun v19 => (st 420 ρ (B + 7) (top - 1) (1 - v19)).bind fun s21 => X12_comesTo_b6 B fu (nI k) (nI e) top (nI i + 1) s21) else ((ld 420 (ρ (B + 7)) ((top + (-1)) - 1)).bind fun v11 => (ld 420 (ρ (B + 7)) (top + (-1))).bind fun v13 => (X12_both_f (nI s) v11 v13 ρ).bind fun v15 => (st 420 ρ (B + 7) ((top + (-1)) - 1) v15).bind fun s17 => X12_comesTo_b6 B fu (nI k) (nI e) (top + (-1)) (nI i + 1) s17))) else (if nI s = 0 then (X12_comesTo_b86 B (X12_comesTo_b6 B fu) (nI k) (nI e) top (nI i) (ρ (B + 1) (2960 + 820 * k + 2 * i + 1)) top ρ) else ((ld 12 (ρ (B + 8)) (nI s)).bind fun v29 => X12_comesTo_b86 B (X12_comesTo_b6 B fu) (nI k) (nI e) top (nI i) v29 top ρ))) = R) : X12_comesTo_b6 B (fu + 1) (nI k) (nI e) top (nI i) ρ = R := by
  subst hR
  conv => lhs; unfold X12_comesTo_b6
  rw [if_neg (nI_ge hie (by omega)), stp_ix1, stp_ix, ldn (by omega) (by decide), ldn (by omega) (by decide), hs]
  rfl
theorem rs_push0 (hie : i < e) (he : e ≤ 400) (hk : k < 6) {v : Int32} (hs : ρ (B + 1) (2960 + 820 * k + 2 * i) = nI 0) (hv : ρ (B + 1) (2960 + 820 * k + 2 * i + 1) = v) (hq : q < 420) : X12_comesTo_b6 B (fu + 1) (nI k) (nI e) (nI q) (nI i) ρ = X12_comesTo_b6 B fu (nI k) (nI e) (nI (q + 1)) (nI (i + 1)) (wr ρ (B + 7) q v) := by
  refine rs_open hie he hk hs ?_
  rw [if_neg (by decide), if_pos nI_0, hv]
  unfold X12_comesTo_b86
  rw [stn hq (by decide)]
  simp only [Option.bind_some]
  rw [nI_s, nI_s]
theorem rs_push1 (hie : i < e) (he : e ≤ 400) (hk : k < 6) {s : Nat} (hs : ρ (B + 1) (2960 + 820 * k + 2 * i) = nI s) (h1 : 1 ≤ s) (h12 : s < 12) (hq : q < 420) : X12_comesTo_b6 B (fu + 1) (nI k) (nI e) (nI q) (nI i) ρ = X12_comesTo_b6 B fu (nI k) (nI e) (nI (q + 1)) (nI (i + 1)) (wr ρ (B + 7) q (ρ (B + 8) s)) := by
  refine rs_open hie he hk hs ?_
  rw [if_neg (show ¬ (12 : Int32) ≤ nI s from nI_ge h12 (by decide)), if_neg (nI_ne0 h1 (by omega)), ldn h12 (by decide)]
  unfold X12_comesTo_b86
  simp only [Option.bind_some]
  rw [stn hq (by decide)]
  simp only [Option.bind_some]
  rw [nI_s, nI_s]
theorem rs_part (hie : i < e) (he : e ≤ 400) (hk : k < 6) {v : Nat} (hs : ρ (B + 1) (2960 + 820 * k + 2 * i) = nI 15) (hv : ρ (B + 1) (2960 + 820 * k + 2 * i + 1) = nI v) (hv1 : 1 ≤ v) (hv2 : v ≤ 9999) (hq : q < 420) : X12_comesTo_b6 B (fu + 1) (nI k) (nI e) (nI (q + 1)) (nI i) ρ = X12_comesTo_b6 B fu (nI k) (nI e) (nI (q + 1)) (nI (i + 1)) (wr ρ (B + 7) q (ρ (B + 7) q / nI v)) := by
  refine rs_open hie he hk hs ?_
  rw [if_pos (by decide), if_pos (by decide), nI_pred, ldn hq (by decide), hv]
  simp only [Option.bind_some]
  rw [if_neg (nI_ne0 hv1 (by omega)), stn hq (by decide)]
  simp only [Option.bind_some]
  rw [nI_s]
theorem rs_not (hie : i < e) (he : e ≤ 400) (hk : k < 6) (hs : ρ (B + 1) (2960 + 820 * k + 2 * i) = nI 19) (hq : q < 420) : X12_comesTo_b6 B (fu + 1) (nI k) (nI e) (nI (q + 1)) (nI i) ρ = X12_comesTo_b6 B fu (nI k) (nI e) (nI (q + 1)) (nI (i + 1)) (wr ρ (B + 7) q (1 - ρ (B + 7) q)) := by
  refine rs_open hie he hk hs ?_
  rw [if_pos (by decide), if_neg (by decide), if_pos (by decide), nI_pred, ldn hq (by decide)]
  simp only [Option.bind_some]
  rw [stn hq (by decide)]
  simp only [Option.bind_some]
  rw [nI_s]
theorem rs_bin (hie : i < e) (he : e ≤ 400) (hk : k < 6) {s : Nat} (hs : ρ (B + 1) (2960 + 820 * k + 2 * i) = nI s) (h1 : 12 ≤ s) (h2 : s < 22) (h3 : s ≠ 15) (h4 : s ≠ 19) (hq : q + 1 < 420) {v : Int32} (hj : X12_both_f (nI s) (ρ (B + 7) q) (ρ (B + 7) (q + 1)) ρ = some v) : X12_comesTo_b6 B (fu + 1) (nI k) (nI e) (nI (q + 2)) (nI i) ρ = X12_comesTo_b6 B fu (nI k) (nI e) (nI (q + 1)) (nI (i + 1)) (wr ρ (B + 7) q v) := by
  refine rs_open hie he hk hs ?_
  have e5 : ¬ nI s = 15 := fun z => h3 (nI_inj (b := 15) (by omega) (by omega) z)
  have e9 : ¬ nI s = 19 := fun z => h4 (nI_inj (b := 19) (by omega) (by omega) z)
  rw [if_pos (show (12 : Int32) ≤ nI s from nI_le h1 (by omega)), if_neg e5, if_neg e9, show nI (q + 2) + (-1) = nI (q + 1) from pk_m1 (q + 1), nI_pred, ldn (by omega) (by decide), ldn hq (by decide)]
  simp only [Option.bind_some]
  rw [hj]
  simp only [Option.bind_some]
  rw [stn (by omega) (by decide)]
  simp only [Option.bind_some]
  rw [nI_s]
end RS
/-- what lies on the two piles -/
def Stk : List Bool → (Nat → Int32) → (Nat → Int32) → Prop
  | [], _, _ => True
  | b :: T, f, g => f T.length = g T.length ∧ (b = true → g T.length = 0 ∨ g T.length = 1) ∧ Stk T f g
theorem Stk.keep : ∀ {T : List Bool} {f g f' g' : Nat → Int32}, Stk T f g → (∀ i, i < T.length → f' i = f i) → (∀ i, i < T.length → g' i = g i) → Stk T f' g'
  | [], _, _, _, _, _, _, _ => trivial
  | b :: T, f, g, f', g', h, h1, h2 => by
    obtain ⟨a1, a2, a3⟩ := h
    have l : T.length < (b :: T).length := by simp
    refine ⟨by rw [h1 _ l, h2 _ l]; exact a1, by rw [h2 _ l]; exact a2, a3.keep (fun i hi => h1 i (by simp only [List.length_cons]; omega)) (fun i hi => h2 i (by simp only [List.length_cons]; omega))⟩
/-- pushed on both -/
theorem Stk.put {T : List Bool} {σ ρ : Sig} {r r' q : Nat} {v : Int32} {b : Bool} (h : Stk T (σ r) (ρ r')) (hq : q = T.length) (hb : b = true → v = 0 ∨ v = 1) : Stk (b :: T) (wr σ r q v r) (wr ρ r' q v r') := by
  subst hq
  refine ⟨by rw [wr_same, wr_same, if_pos rfl, if_pos rfl], by rw [wr_same, if_pos rfl]; exact hb, h.keep (fun i hi => ?_) (fun i hi => ?_)⟩
  · rw [wr_same, if_neg (by omega)]
  · rw [wr_same, if_neg (by omega)]
theorem b01 {a b : Int32} (ha : a = 0 ∨ a = 1) (hb : b = 0 ∨ b = 1) : (a &&& b = 0 ∨ a &&& b = 1) ∧ (a ||| b = 0 ∨ a ||| b = 1) := by
  rcases ha with rfl | rfl <;> rcases hb with rfl | rfl <;> decide

/-- what a text says of its steps; the values that a condition may ask for -/
def Steps (law : Bool) (w cd : wF) (k c : Nat) (so sv : Nat → Nat) : Prop := ∀ i, i < c → so i < 22 ∧ sv i ≤ 9999 ∧ w (2960 + 820 * k + 2 * i) = nI (so i) ∧ (so i = 0 ∨ so i = 15 → w (2960 + 820 * k + 2 * i + 1) = nI (sv i)) ∧ ∃ e, enc law (so i) (sv i) = some e ∧ cd i = nI e
def Fct (law : Bool) (vl fc : wF) : Prop := ∀ s x, encV law s = some x → vl x = fc s
theorem encV_lt {law : Bool} {s x : Nat} (h : encV law s = some x) : x < 8 ∧ 1 ≤ s := by
  unfold encV at h
  cases law
  · simp only [Bool.false_eq_true, if_false] at h
    split at h <;> first | (cases h; omega) | cases h
  · simp only [if_true] at h
    split at h <;> first | (cases h; omega) | cases h
theorem join_both {a b : Int32} {σ ρ : Sig} {s o : Nat} (h : (s = 12 ∧ o = 2) ∨ (s = 13 ∧ o = 3) ∨ (s = 14 ∧ o = 4) ∨ (s = 16 ∧ o = 6) ∨ (s = 17 ∧ o = 7) ∨ (s = 18 ∧ o = 8) ∨ (s = 20 ∧ o = 10) ∨ (s = 21 ∧ o = 11)) : ∃ v, X7_join_f (nI o) a b σ = some v ∧ X12_both_f (nI s) a b ρ = some v ∧ (16 ≤ s → s < 19 → v = 0 ∨ v = 1) ∧ (19 < s → (a = 0 ∨ a = 1) → (b = 0 ∨ b = 1) → v = 0 ∨ v = 1) := by
  rcases h with ⟨rfl, rfl⟩ | ⟨rfl, rfl⟩ | ⟨rfl, rfl⟩ | ⟨rfl, rfl⟩ | ⟨rfl, rfl⟩ | ⟨rfl, rfl⟩ | ⟨rfl, rfl⟩ | ⟨rfl, rfl⟩
  · exact ⟨_, rfl, rfl, by omega, by omega⟩
  · exact ⟨_, rfl, rfl, by omega, by omega⟩
  · exact ⟨_, rfl, rfl, by omega, by omega⟩
  · by_cases c : b ≤ a
    · exact ⟨0, if_pos c, if_pos c, fun _ _ => Or.inl rfl, by omega⟩
    · exact ⟨1, if_neg c, if_neg c, fun _ _ => Or.inr rfl, by omega⟩
  · by_cases c : a = b
    · exact ⟨1, if_pos c, if_pos c, fun _ _ => Or.inr rfl, by omega⟩
    · exact ⟨0, if_neg c, if_neg c, fun _ _ => Or.inl rfl, by omega⟩
  · by_cases c : a ≤ b
    · exact ⟨0, if_pos c, if_pos c, fun _ _ => Or.inl rfl, by omega⟩
    · exact ⟨1, if_neg c, if_neg c, fun _ _ => Or.inr rfl, by omega⟩
  · exact ⟨a &&& b, rfl, rfl, by omega, fun _ ha hb => (b01 ha hb).1⟩
  · exact ⟨a ||| b, rfl, rfl, by omega, fun _ ha hb => (b01 ha hb).2⟩

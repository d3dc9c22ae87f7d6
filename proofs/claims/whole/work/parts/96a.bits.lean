/-! BITS of sets of people. -/
def bt (x : Int32) (i : Nat) : Bool := x.toBitVec.getLsbD i
theorem bt_and (x y : Int32) (i : Nat) : bt (x &&& y) i = (bt x i && bt y i) := by simp [bt]
theorem bt_or (x y : Int32) (i : Nat) : bt (x ||| y) i = (bt x i || bt y i) := by simp [bt]
theorem bt_not (x : Int32) (i : Nat) : bt (x ^^^ (-1)) i = (decide (i < 32) && !bt x i) := by
  have : (x ^^^ (-1)).toBitVec = ~~~ x.toBitVec := by
    rw [Int32.toBitVec_xor, show (-1 : Int32).toBitVec = BitVec.allOnes 32 by decide, BitVec.xor_allOnes]
  unfold bt; rw [this]; simp
theorem bt_0 (i : Nat) : bt 0 i = false := by simp [bt]
theorem bt_ge (x : Int32) {i : Nat} (h : 32 ≤ i) : bt x i = false := by unfold bt; exact BitVec.getLsbD_of_ge _ _ h
theorem bt_ext {x y : Int32} (h : ∀ i, bt x i = bt y i) : x = y := by
  apply Int32.toBitVec_inj.mp
  apply BitVec.eq_of_getLsbD_eq
  intro i _
  exact h i
theorem bt_one : ∀ p, p < 12 → ∀ i, i < 32 → bt ((1 : Int32) <<< (nI p &&& 31)) i = decide (i = p) := by decide +kernel
theorem bt_1p {p : Nat} (hp : p < 12) (i : Nat) : bt ((1 : Int32) <<< (nI p &&& 31)) i = decide (i = p) := by
  by_cases h : i < 32
  · exact bt_one p hp i h
  · rw [bt_ge _ (by omega)]; simp; omega
theorem bt_nI {s : Nat} (hs : s < 2 ^ 32) (i : Nat) : bt (nI s) i = s.testBit i := by
  have e : (nI s).toBitVec.toNat = s := pk_tn hs
  unfold bt
  rw [← BitVec.testBit_toNat, e]
theorem i32_eq (x : Int32) : x = nI x.toBitVec.toNat := by
  apply Int32.toBitVec_inj.mp
  apply BitVec.eq_of_toNat_eq
  rw [pk_tn x.toBitVec.isLt]
theorem bt_small {x : Int32} {n : Nat} (hn : n ≤ 12) (h : ∀ i, bt x i = true → i < n) : ∃ a, a < 2 ^ n ∧ x = nI a := by
  refine ⟨x.toBitVec.toNat, ?_, i32_eq x⟩
  refine Nat.lt_pow_two_of_testBit _ (fun i hi => ?_)
  rw [BitVec.testBit_toNat]
  cases e : x.toBitVec.getLsbD i with
  | false => rfl
  | true => exact absurd (h i e) (by omega)
/-- what lies in a set -/
theorem sub_bits {m s : Int32} : (m &&& (s ^^^ (-1))) = 0 ↔ ∀ i, bt m i = true → bt s i = true := by
  constructor
  · intro h i hi
    have h1 : bt (m &&& (s ^^^ (-1))) i = false := by rw [h, bt_0]
    rw [bt_and, bt_not, hi] at h1
    have h32 : i < 32 := by
      rcases Nat.lt_or_ge i 32 with q | q
      · exact q
      · rw [bt_ge m q] at hi; cases hi
    cases e : bt s i with
    | true => rfl
    | false => rw [e] at h1; simp [h32] at h1
  · intro h
    refine bt_ext (fun i => ?_)
    rw [bt_and, bt_not, bt_0]
    cases e : bt m i with
    | false => rfl
    | true => rw [h i e]; simp
/-- how many -/
def pcn (s : Nat) : Nat → Nat
  | 0 => 0
  | k + 1 => pcn s k + s / 2 ^ k % 2
theorem bc_64 : ∀ a, a < 64 → ∀ b, b < 64 → J6_bitCount_0f7a4_f (nI (64 * a + b)) (fun _ _ => 0) = some (nI (pcn (64 * a + b) 30)) := by decide +kernel
theorem bc_ok {s : Nat} (hs : s < 4096) (σ : Sig) : J6_bitCount_0f7a4_f (nI s) σ = some (nI (pcn s 30)) := by
  have h := bc_64 (s / 64) (by omega) (s % 64) (by omega)
  rw [show 64 * (s / 64) + s % 64 = s by omega] at h
  exact h
theorem pcn_le (s : Nat) : ∀ k, pcn s k ≤ k
  | 0 => Nat.le_refl _
  | k + 1 => by
    have := pcn_le s k
    have := Nat.mod_lt (s / 2 ^ k) (show 0 < 2 by decide)
    rw [pcn]; omega
theorem pcn_mono {a b : Nat} (h : ∀ i, a.testBit i = true → b.testBit i = true) : ∀ k, pcn a k ≤ pcn b k
  | 0 => Nat.le_refl _
  | k + 1 => by
    have h1 := pcn_mono h k
    have e : ∀ x : Nat, x / 2 ^ k % 2 = (x.testBit k).toNat := fun x => by rw [Nat.toNat_testBit]
    rw [pcn, pcn, e, e]
    have h2 : (a.testBit k).toNat ≤ (b.testBit k).toNat := by
      cases ea : a.testBit k with
      | false => exact Nat.zero_le _
      | true => rw [h k ea]; exact Nat.le_refl _
    omega
theorem pcn_pos : ∀ a, a < 64 → ∀ b, b < 64 → 0 < 64 * a + b → 0 < pcn (64 * a + b) 30 := by decide +kernel
theorem pc_pos {s : Nat} (hs : s < 4096) (h0 : 0 < s) : 0 < pcn s 30 := by
  have h := pcn_pos (s / 64) (by omega) (s % 64) (by omega)
  rw [show 64 * (s / 64) + s % 64 = s by omega] at h
  exact h h0
theorem sh30 : ∀ k, k < 30 → ((nI k &&& 31).toBitVec.smod 32).toNat = k := by decide +kernel
theorem re_count {s : Nat} (hs : s < 4096) (σ : Sig) : X12_count_f (nI s) σ = some (nI (pcn s 30)) := by
  refine fuel_up (m := 30) (C := fun fu k => X12_count_b4 σ fu (nI s) (nI (pcn s k)) (nI k) = some (nI (pcn s 30))) (fun fu => ?_) (fun fu k hk ih => ?_) 30 0 FU (by omega) (by unfold FU; omega)
  · unfold X12_count_b4; rw [if_pos (show (30 : Int32) ≤ nI 30 from Int32.le_refl _)]
  · unfold X12_count_b4
    rw [if_neg (show ¬ (30 : Int32) ≤ nI k from nI_ge (b := 30) hk (by decide)), pk_shrN (by omega) (nI k &&& 31) k (sh30 k hk), pk_andN (Nat.lt_of_le_of_lt (Nat.div_le_self _ _) (by omega)) 1 (by decide), nI_add, nI_s]
    rw [pcn] at ih
    exact ih
/-- a quotient upwards -/
def upN (h c : Nat) : Nat := (h + c - 1) / c
theorem up_mono {h c c' : Nat} (hc : 0 < c') (hle : c' ≤ c) : upN h c ≤ upN h c' := by
  unfold upN
  have h1 : h ≤ (h + c' - 1) / c' * c' := by
    have := Nat.div_add_mod (h + c' - 1) c'
    have h2 := Nat.mod_lt (h + c' - 1) hc
    rw [Nat.mul_comm] at this
    omega
  have h3 : (h + c' - 1) / c' * c' ≤ (h + c' - 1) / c' * c := Nat.mul_le_mul_left _ hle
  have h4 : h + c - 1 < ((h + c' - 1) / c' + 1) * c := by
    rw [Nat.add_mul, Nat.one_mul]; omega
  have := (Nat.div_lt_iff_lt_mul (by omega)).mpr h4
  omega
theorem up_0 {c : Nat} (hc : 0 < c) : upN 0 c = 0 := by unfold upN; exact Nat.div_eq_of_lt (by omega)
theorem cl_up {h c : Nat} (hh : h ≤ 10000) (hc : 0 < c) (hc2 : c ≤ 30) (σ : Sig) : X11_upwards_f (nI h) (nI c) σ = some (nI (upN h c)) ∧ X12_upwards_f (nI h) (nI c) σ = some (nI (upN h c)) := by
  have e : (nI h + nI c - 1 : Int32) = nI (h + c - 1) := by rw [nI_add]; exact pk_sub (b := 1) (by omega)
  unfold X11_upwards_f X12_upwards_f upN
  rw [if_neg (nI_nle hc (by omega)), if_neg (nI_ne0 hc (by omega)), e, pk_div (by omega) hc (by omega)]
  exact ⟨rfl, rfl⟩

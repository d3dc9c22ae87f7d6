/-! System.arraycopy over int arrays. -/
def cpS (σ : Sig) (a0 a1 sp dp m : Nat) : Sig := fun b j => if b = a1 then va_cpy (σ a0) (σ a1) sp dp m j else σ b j
def cp (n0 n1 : Nat) (σ : Sig) (a0 : Nat) (sp : Int32) (a1 : Nat) (dp m : Int32) : Option Sig := if sp < 0 ∨ dp < 0 ∨ m < 0 ∨ n0 < sp.toNatClampNeg + m.toNatClampNeg ∨ n1 < dp.toNatClampNeg + m.toNatClampNeg then none else some (cpS σ a0 a1 sp.toNatClampNeg dp.toNatClampNeg m.toNatClampNeg)
theorem cp_some {n0 n1 : Nat} {σ σ' : Sig} {a0 a1 : Nat} {sp dp m : Int32} (h : cp n0 n1 σ a0 sp a1 dp m = some σ') : ¬ sp < 0 ∧ ¬ dp < 0 ∧ ¬ m < 0 ∧ sp.toNatClampNeg + m.toNatClampNeg ≤ n0 ∧ dp.toNatClampNeg + m.toNatClampNeg ≤ n1 ∧ σ' = cpS σ a0 a1 sp.toNatClampNeg dp.toNatClampNeg m.toNatClampNeg := by
  unfold cp at h
  split at h
  · cases h
  · next hc =>
    cases h
    refine ⟨fun q => hc (Or.inl q), fun q => hc (Or.inr (Or.inl q)), fun q => hc (Or.inr (Or.inr (Or.inl q))), ?_, ?_, rfl⟩
    · exact Nat.not_lt.mp fun q => hc (Or.inr (Or.inr (Or.inr (Or.inl q))))
    · exact Nat.not_lt.mp fun q => hc (Or.inr (Or.inr (Or.inr (Or.inr q))))
theorem ac_m : Cond.native arraycopyName ∈ gtb ∧ Cond.static arraycopyName ∈ gtb ∧ Cond.initialized "java/lang/System" ∈ gtb := by decide +kernel
theorem ac_w : nativeFrameWords "java/lang/System" "arraycopy" 5 + 11 ≤ 48 := by decide +kernel
theorem nnI (z : Int32) (hz : ¬ z < 0) : z.toInt = (z.toNatClampNeg : Int) := by
  have hz0 : (0 : Int) ≤ z.toInt := by
    have := Int32.not_lt.mp hz
    simpa using Int32.le_iff_toInt_le.mp this
  show z.toInt = ((z.toInt.toNat : Nat) : Int)
  omega
section CP
variable {K : Kt} {X : Cx} {cc : ByteArray} {nL : Nat} {own : String} {D mc ms k n pc : Nat} {L : Lo} {S : List Value} {τ : Tau} {σ σ' : Sig} {nx : Nat}
theorem g_copy (hF : Fx K X cc nL own D mc ms) {idx a0 a1 n0 n1 : Nat} {sp dp m : Int32} (hlk : Cond.methodLink own idx arraycopyName ∈ gtb) (hd : decode cc pc = .ok (.invokestatic idx, 3)) (hs0 : τ a0 = some (.inr (.inl n0))) (hs1 : τ a1 = some (.inr (.inl n1))) (hv : cp n0 n1 σ a0 sp a1 dp m = some σ') (hD : 1 ≤ D) (hS : (S.map fun v => v.category).sum ≤ 8)
    (kk : G K X nL k n (pc + 3) L S (τ, σ', nx)) : G K X nL k n pc L (.int m :: .int dp :: .ref a1 :: .int sp :: .ref a0 :: S) (τ, σ, nx) := by
  intro H locs ls hR hq hl T hT Xs
  obtain ⟨h1, h2, h3, h4, h5, rfl⟩ := cp_some hv
  have hc0 : H[a0]? = some (vp_cell (kI K) (n0, .inl (σ a0))) := hR.arr hs0
  have hc1 : H[a1]? = some (vp_cell (kI K) (n1, .inl (σ a1))) := hR.arr hs1
  obtain ⟨-, k0, hk0, cm0, hkk0⟩ := (hF.kx.1.2 0 _ rfl).1 n0 (fun j => .int (σ a0 j))
  obtain ⟨-, k1, hk1, cm1, hkk1⟩ := (hF.kx.1.2 0 _ rfl).1 n1 (fun j => .int (σ a1 j))
  have hlo := hF.lo; have hfr := hF.fr; have hw := ac_w
  obtain ⟨vm', X', step⟩ := Xs.arraycopy hF.ex hF.ow (hF.ts _ hlk) (hF.ts _ ac_m.1) (hF.ts _ ac_m.2.1) (hF.ts _ ac_m.2.2) (src := a0) (dst := a1) (cs := vp_cell (kI K) (n0, .inl (σ a0))) (cd := vp_cell (kI K) (n1, .inl (σ a1))) (srcPos := sp) (destPos := dp) (n := m) (by rw [hT]; exact hc0) (by rw [hT]; exact hc1)
    (fun _ h => by cases h) (fun _ h => by cases h) (fun h => by cases h) (fun h => by cases h) hk0 hk1 hkk0 hkk1 (by simp [refKind]) h1 h2 h3
    (by rw [nnI sp h1, nnI m h3]; show ¬ _ > ((arrV (kI K) n0 (fun j => .int (σ a0 j))).slots.size : Int); rw [arrV_size]; omega)
    (by rw [nnI dp h2, nnI m h3]; show ¬ _ > ((arrV (kI K) n1 (fun j => .int (σ a1 j))).slots.size : Int); rw [arrV_size]; omega)
    (fun vm₁ _ i hi => by
      have e : (vp_cell (kI K) (n0, .inl (σ a0))).slots.getD (sp.toNatClampNeg + i) .null = .int (σ a0 (sp.toNatClampNeg + i)) := by
        show (arrV (kI K) n0 (fun j => .int (σ a0 j))).slots.getD _ _ = _
        rw [Array.getD_eq_getD_getElem?, arrV_read _ _ (by omega)]
        rfl
      refine ⟨?_, ?_⟩
      · rw [e]; rfl
      · rw [e]; exact trivial)
    (g := F0 (xm X) pc ls (.int m :: .int dp :: .ref a1 :: .int sp :: .ref a0 :: S)) rfl (by rw [hF.ml]; exact hl.1) (rest := S) rfl (by rw [hF.co]; exact hd) (by omega) (by show 2 * 0 + _ + _ ≤ _; omega)
  have e1 : copied (vp_cell (kI K) (n0, .inl (σ a0))) (vp_cell (kI K) (n1, .inl (σ a1))) sp dp m = vp_cell (kI K) (n1, .inl (va_cpy (σ a0) (σ a1) sp.toNatClampNeg dp.toNatClampNeg m.toNatClampNeg)) := va_copied (fun z => .int z) (kI K) (kI K) (σ a0) (σ a1) h4
  rw [e1] at X' step
  have hla : a1 < H.size := (Array.getElem?_eq_some_iff.mp hc1).1
  have ha := (hR.2.2.2.1 a1 _ hs1).1
  have oq : ∀ q : Nat, q ≠ a1 → (H.setIfInBounds a1 (vp_cell (kI K) (n1, .inl (va_cpy (σ a0) (σ a1) sp.toNatClampNeg dp.toNatClampNeg m.toNatClampNeg))))[q]? = H[q]? := fun q hq => by simp [Array.getElem?_setIfInBounds, Ne.symm hq]
  have hR' : Rel K (τ, cpS σ a0 a1 sp.toNatClampNeg dp.toNatClampNeg m.toNatClampNeg, nx) (H.setIfInBounds a1 (vp_cell (kI K) (n1, .inl (va_cpy (σ a0) (σ a1) sp.toNatClampNeg dp.toNatClampNeg m.toNatClampNeg)))) := by
    refine rel_set (τ' := τ) hR hs1 (by simp) oq (fun _ _ => rfl) (fun b hb => by funext j; simp [cpS, hb]) ?_ ⟨_, hs1⟩
    unfold cellOk
    simp only [hs1]
    rw [Array.getElem?_setIfInBounds, if_pos rfl, if_pos hla, vp_cell_i]
    congr 2
    funext j
    simp [cpS]
  have hheap : ((T.setVm vm').setCell a1 (vp_cell (kI K) (n1, .inl (va_cpy (σ a0) (σ a1) sp.toNatClampNeg dp.toNatClampNeg m.toNatClampNeg)))).heap = H.setIfInBounds a1 (vp_cell (kI K) (n1, .inl (va_cpy (σ a0) (σ a1) sp.toNatClampNeg dp.toNatClampNeg m.toNatClampNeg))) := by rw [← hT]; rfl
  obtain ⟨t, b1, b2⟩ := kk _ _ ls hR' (fun q hq2 => by
      rcases List.mem_append.mp hq2 with h | h
      · exact hq q h
      · obtain ⟨z, -, hz⟩ := List.mem_map.mp h
        rw [← hz]
        exact ha) hl _ hheap X'
  exact ⟨t, step t b1, b2⟩
end CP

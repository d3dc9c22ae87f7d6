/-! Arrays.copyOf: a new array, or a clone. -/
theorem cl_w : Cond.methodLink RJ7 316 ⟨"[I", "clone", "()Ljava/lang/Object;"⟩ ∈ gtb ∧ Cond.sameMethod "[I" "java/lang/Object" "clone" "()Ljava/lang/Object;" ∈ gtb ∧ Cond.native ⟨"java/lang/Object", "clone", "()Ljava/lang/Object;"⟩ ∈ gtb ∧ Cond.instanceMethod ⟨"java/lang/Object", "clone", "()Ljava/lang/Object;"⟩ ∈ gtb ∧ Cond.selects "[I" ⟨"[I", "clone", "()Ljava/lang/Object;"⟩ ⟨"java/lang/Object", "clone", "()Ljava/lang/Object;"⟩ ∈ gtb ∧ Cond.classLink RJ7 317 "[I" ∈ gtb := by decide +kernel
theorem cl_c : Cond.castable "[I" "java/lang/Cloneable" ∈ lw_tbl := by decide +kernel
def clD (τ : Tau) (a M : Nat) : Option Nat := match τ a with
  | some (.inr (.inl N)) => if N ≤ M then some N else none
  | _ => none
def clS (σ : Sig) (a nx : Nat) : Sig := fun b j => if b = nx then σ a j else σ b j
theorem clD_some {τ : Tau} {a M N : Nat} (h : clD τ a M = some N) : τ a = some (.inr (.inl N)) ∧ N ≤ M := by
  unfold clD at h
  split at h
  · next N' hq => obtain ⟨hc, h2⟩ := oy h; cases h2; exact ⟨hq, hc⟩
  · cases h
section CN
variable {K : Kt} {X : Cx} {cc : ByteArray} {nL : Nat} {D mc ms k n pc : Nat} {L : Lo} {S : List Value} {τ : Tau} {σ : Sig} {nx : Nat}
theorem rel_new2 {H H' : Heap} {x : Sh} {σ' : Sig} (hR : Rel K (τ, σ, nx) H) (hz : H'.size = nx + 1) (ho : ∀ q, q < nx → H'[q]? = H[q]?) (hσ : ∀ b, b ≠ nx → σ' b = σ b) (hc : cellOk K (al τ nx x) σ' H' nx) : Rel K (al τ nx x, σ', nx + 1) H' := by
  obtain ⟨h1, h2, h3, h4, h5⟩ := hR
  refine ⟨hz, Nat.le_succ_of_le h2, fun b => ?_, fun b y hb => ?_, fun q hq => ?_⟩
  · by_cases e : b = nx
    · subst e; exact hc
    · have ht : al τ nx x b = τ b := by simp [al, e]
      cases hτ : τ b with
      | none => unfold cellOk; simp [ht, hτ]
      | some y =>
        have hlt := (h4 b y hτ).2
        exact ((h3 b).kept (ho b hlt) (hσ b e)).tau ht
  · by_cases e : b = nx
    · subst e; exact ⟨h2, Nat.lt_succ_self _⟩
    · have hb' : τ b = some y := by have : al τ nx x b = some y := hb; simpa [al, e] using this
      have := h4 b y hb'
      exact ⟨this.1, Nat.lt_succ_of_lt this.2⟩
  · rw [ho q (Nat.lt_of_lt_of_le hq h2)]; exact h5 q hq
theorem g_clone (hF : Fx K X cc nL RJ7 D mc ms) {a N M : Nat} (hd : decode cc pc = .ok (.invokevirtual 316, 3)) (e : clD τ a M = some N) (hD : 1 ≤ D) (hS : (S.map fun v => v.category).sum ≤ 8) (hc : k + 1 ≤ mc) (hs : n + M ≤ ms)
    (kk : G K X nL (k + 1) (n + M) (pc + 3) L (.ref nx :: S) (al τ nx (.inr (.inl N)), clS σ a nx, nx + 1)) : G K X nL k n pc L (.ref a :: S) (τ, σ, nx) := by
  intro H locs ls hR hq hl T hT Xs
  obtain ⟨hsa, hNM⟩ := clD_some e
  have h1 := hF.ce; have h2 := hF.sl; have h3 := hF.fr; have h4 := hF.lo
  have hnm : (xs X).vm.findClass "[I" = some (kI K) := (hF.kx.1.2 0 _ rfl).2
  have hcellE : ({ cls := (arrV (kI K) N (fun j => .int (σ a j))).cls, slots := (arrV (kI K) N (fun j => .int (σ a j))).slots } : Cell) = arrV (kI K) N (fun j => .int (σ a j)) := rfl
  have hcl := hF.kx.2.1 _ cl_c rfl
  obtain ⟨c0, t0', f1, f2, f3⟩ := Cond.castable_spec (va_Nw.use (A := xa X) rfl hcl)
  cases hnm.symm.trans f1
  have hcellT : T.heap[a]? = some (arrV (kI K) N (fun j => .int (σ a j))) := by rw [hT]; exact hR.arr hsa
  obtain ⟨-, kA, hkA, comp, hkind⟩ := State.isArrayOf_alike Xs.warmed.alike ((hF.kx.1.2 0 _ rfl).1 0 (fun _ => .null))
  obtain ⟨-, kS, hkS, compS, hkindS⟩ := (hF.kx.1.2 0 _ rfl).1 0 (fun _ => .null)
  obtain ⟨vm', X', st⟩ := Xs.cloneArray hF.ex hF.ow (hF.ts _ cl_w.1) (hF.ts _ cl_w.2.1) (hF.ts _ cl_w.2.2.1) (hF.ts _ cl_w.2.2.2.1) (hF.ts _ cl_w.2.2.2.2.1) (a := a) (cell := arrV (kI K) N (fun j => .int (σ a j))) hcellT (fun k h => by cases h) (fun h => by cases h) hnm f2 f3
    (fun i v hv => by
      have hk' : T.vm.classes[kI K]? = some kA := hkA
      have hv2 : fits .int v = true := by
        by_cases hi : i < N
        · rw [arrV_read _ _ hi] at hv; cases hv; rfl
        · have : (arrV (kI K) N (fun j => .int (σ a j))).slots[i]? = none := by rw [Array.getElem?_eq_none_iff, arrV_size]; omega
          rw [this] at hv; cases hv
      have hcls : (arrV (kI K) N (fun j => .int (σ a j))).cls = kI K := rfl
      rw [hcls]
      simpa [State.fitsSlot, State.slotType?, hk', hkind] using hv2)
    (g := F0 (xm X) pc ls (.ref a :: S)) rfl (by rw [hF.ml]; exact hl.1) rfl (by rw [hF.co]; exact hd) (by omega) (by show 2 * 0 + _ + 14 ≤ _; omega) (by omega) (by rw [arrV_size]; omega) (hloader := Vm.clonesLoader_of_array hkS hkindS)
  rw [hcellE, arrV_size] at X'
  have hsz : H.size = nx := hR.1
  have hheap : ((T.setVm vm').pushCell (arrV (kI K) N (fun j => .int (σ a j)))).heap = H.push (arrV (kI K) N (fun j => .int (σ a j))) := by rw [← hT]; rfl
  have hR' : Rel K (al τ nx (.inr (.inl N)), clS σ a nx, nx + 1) (H.push (arrV (kI K) N (fun j => .int (σ a j)))) := by
    refine rel_new2 hR (by rw [Array.size_push, hsz]) (fun q hlt => by rw [Array.getElem?_push, if_neg (by omega)]) (fun b hb => by funext j; simp [clS, hb]) ?_
    unfold cellOk
    have e : al τ nx (.inr (.inl N)) nx = some (.inr (.inl N)) := by simp [al]
    simp only [e]
    rw [← hsz, Array.getElem?_push_size]
    congr 2
    funext j
    simp [clS]
  have hw := W.widen (Nat.le_refl (k + 1)) (show n + N ≤ n + M by omega) (kk _ locs ls hR' hq hl)
  obtain ⟨t, b1, b2⟩ := hw _ hheap X'
  refine ⟨t, st t ?_, b2⟩
  rw [hcellE, hT]
  rw [hsz]
  exact b1
theorem g_castI (hF : Fx K X cc nL RJ7 D mc ms) {a : Nat} {v : Int32} (hd : decode cc pc = .ok (.checkcast 317, 3)) (e : lnD τ a = some v) (kk : G K X nL k n (pc + 3) L (.ref a :: S) (τ, σ, nx)) : G K X nL k n pc L (.ref a :: S) (τ, σ, nx) := by
  intro H locs ls hR hq hl T hT Xs
  obtain ⟨N, hsa, -⟩ := lnD_some e
  have hnm : (xs X).vm.findClass "[I" = some (kI K) := (hF.kx.1.2 0 _ rfl).2
  obtain ⟨vm', X', st⟩ := Xs.checkcastYes hF.ex hF.ow (hF.ts _ cl_w.2.2.2.2.2) (by rw [hT]; exact hR.arr hsa) rfl hnm (va_asg _ _) (g := F0 (xm X) pc ls (.ref a :: S)) rfl rfl (by rw [hF.co]; exact hd)
  obtain ⟨t, a1, b1⟩ := kk H locs ls hR hq hl (T.setVm vm') hT X'
  exact ⟨t, st t a1, b1⟩
end CN

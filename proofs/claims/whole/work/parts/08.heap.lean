def wr (σ : Sig) (a k : Nat) (v : Int32) : Sig := fun b j => if b = a ∧ j = k then v else σ b j
theorem wr_row {σ : Sig} {a k b : Nat} {v : Int32} (h : b ≠ a) : wr σ a k v b = σ b := by funext j; simp [wr, h]
theorem wr_same {σ : Sig} {a k j : Nat} {v : Int32} : wr σ a k v a j = if j = k then v else σ a j := by simp [wr]
theorem cellOk.kept {K : Kt} {τ : Tau} {σ σ' : Sig} {H H' : Heap} {b : Nat} (h : cellOk K τ σ H b) (hH : H'[b]? = H[b]?) (hσ : σ' b = σ b) : cellOk K τ σ' H' b := by
  unfold cellOk at h ⊢
  split at h
  · trivial
  · refine ⟨h.1, ?_⟩
    have h2 := h.2.kept hH
    exact h2.to (fun k _ => by simp only [valOf]; split <;> simp [hσ])
  · rw [hH, hσ]; exact h
  · rw [hH]; exact h
theorem cellOk.tau {K : Kt} {τ τ' : Tau} {σ : Sig} {H : Heap} {b : Nat} (h : cellOk K τ σ H b) (ht : τ' b = τ b) : cellOk K τ' σ H b := by
  unfold cellOk at h ⊢
  rw [ht]; exact h
theorem Rel.cell {K : Kt} {h : Hp} {H : Heap} (hR : Rel K h H) (a : Nat) : cellOk K h.1 h.2.1 H a := hR.2.2.1 a
theorem Rel.obj {K : Kt} {τ : Tau} {σ : Sig} {nx : Nat} {H : Heap} (hR : Rel K (τ, σ, nx) H) {a ci : Nat} {rs : List (Option (Option Nat))} (hs : τ a = some (.inl (ci, rs))) : (∃ r : vw_C, vwCl[ci]? = some r ∧ r.2.2 = rs.length) ∧ t_OB a (kC K ci) rs.length (kD K ci) H (fun k => valOf σ a k (rs.getD k none)) := by
  have := hR.cell a; unfold cellOk at this; simp only [hs] at this; exact this
theorem Rel.arr {K : Kt} {τ : Tau} {σ : Sig} {nx : Nat} {H : Heap} (hR : Rel K (τ, σ, nx) H) {a N : Nat} (hs : τ a = some (.inr (.inl N))) : H[a]? = some (arrV (kI K) N (fun j => .int (σ a j))) := by
  have := hR.cell a; unfold cellOk at this; simp only [hs] at this; exact this
theorem Rel.rar {K : Kt} {τ : Tau} {σ : Sig} {nx : Nat} {H : Heap} (hR : Rel K (τ, σ, nx) H) {a ci N : Nat} {f : Nat → Option Nat} (hs : τ a = some (.inr (.inr (ci, N, f)))) : H[a]? = some (arrV (kR K ci) N (fun j => va_rf (f j))) := by
  have := hR.cell a; unfold cellOk at this; simp only [hs] at this; exact this
section HP
variable {K : Kt} {X : Cx} {cc : ByteArray} {nL : Nat} {own : String} {D mc ms k n pc : Nat} {L : Lo} {S : List Value} {τ : Tau} {σ : Sig} {nx : Nat} {desc : String} {fin : Bool}
theorem g_get (hF : Fx K X cc nL own D mc ms) {idx ci kf a : Nat} (hd : decode cc pc = .ok (.getfield idx, 3)) (hf : FL own idx ci kf desc fin) {rs : List (Option (Option Nat))} (hs : τ a = some (.inl (ci, rs))) {v : Option (Option Nat)} (hr : rs[kf]? = some v) (kk : G K X nL k n (pc + 3) L (valOf σ a kf v :: S) (τ, σ, nx)) : G K X nL k n pc L (.ref a :: S) (τ, σ, nx) := by
  intro H locs ls hR hq hl
  obtain ⟨C, name, T, N, hc, hT, hk, hlk⟩ := hf
  obtain ⟨⟨r, hr1, hr2⟩, cell, q1, q2, q3, q4⟩ := hR.obj hs
  cases hc.symm.trans hr1
  have hin : ∀ w ∈ u_ws C T N, w ∈ gtb := (clsOk ci _ hc).1
  have hkn : u_Kn (xs X) C T N (kC K ci) (kD K ci) := hF.kx.1.1 ci _ hc
  obtain ⟨hS, hfc, kC, hkC, hkind⟩ := hkn
  obtain ⟨cf, kf', fi, f, hi, hsl⟩ := hS kf hk
  have e : T kf = (C, name, desc, fin) := hT
  have hi' : (xs X).fieldFound? C name desc = some (cf, kf', fi, f) := by simpa [e] using hi
  refine W.getf hF.ex hF.co hF.ow (hF.ts _ hlk) hi' (u_facts hfc hkC (u_lays hF.ts hin hk) hi).1 q1 (by rw [q3]; exact fun h => by cases h) (v := valOf σ a kf v) ?_ rfl rfl hd (kk H locs ls hR hq hl)
  rw [hsl, q4 kf (hr2 ▸ hk)]
  simp only [List.getD_eq_getElem?_getD, hr, Option.getD_some]
theorem g_getI (hF : Fx K X cc nL own D mc ms) {idx ci kf a : Nat} (hd : decode cc pc = .ok (.getfield idx, 3)) (hf : FL own idx ci kf desc fin) {rs : List (Option (Option Nat))} (hs : τ a = some (.inl (ci, rs))) (hr : rs[kf]? = some none) (kk : G K X nL k n (pc + 3) L (.int (σ a kf) :: S) (τ, σ, nx)) : G K X nL k n pc L (.ref a :: S) (τ, σ, nx) := g_get hF hd hf hs hr kk
theorem g_getR (hF : Fx K X cc nL own D mc ms) {idx ci kf a b : Nat} (hd : decode cc pc = .ok (.getfield idx, 3)) (hf : FL own idx ci kf desc fin) {rs : List (Option (Option Nat))} (hs : τ a = some (.inl (ci, rs))) (hr : rs[kf]? = some (some (some b))) (kk : G K X nL k n (pc + 3) L (.ref b :: S) (τ, σ, nx)) : G K X nL k n pc L (.ref a :: S) (τ, σ, nx) := g_get hF hd hf hs hr kk
theorem g_getN (hF : Fx K X cc nL own D mc ms) {idx ci kf a : Nat} (hd : decode cc pc = .ok (.getfield idx, 3)) (hf : FL own idx ci kf desc fin) {rs : List (Option (Option Nat))} (hs : τ a = some (.inl (ci, rs))) (hr : rs[kf]? = some (some none)) (kk : G K X nL k n (pc + 3) L (.null :: S) (τ, σ, nx)) : G K X nL k n pc L (.ref a :: S) (τ, σ, nx) := g_get hF hd hf hs hr kk
/-- the shape behind a store of a reference -/
def setR (τ : Tau) (a kf : Nat) (r : Option Nat) : Tau := fun b => if b = a then (match τ a with | some (.inl (ci, rs)) => some (.inl (ci, rs.set kf (some r))) | x => x) else τ b
theorem slots_apart (hF : Fx K X cc nL own D mc ms) {ci : Nat} {C : String} {T : u_T} {N : Nat} (hc : vwCl[ci]? = some (C, T, N)) : ∀ x y, x < N → y < N → x ≠ y → (kD K ci) x ≠ (kD K ci) y := by
  obtain ⟨hin, ⟨ty0, hty⟩, hnm⟩ := clsOk ci _ hc
  exact va_apart (own := own) hF.ts hin ty0 hty hnm hF.kx.1 hc
theorem g_put0 (hF : Fx K X cc nL own D mc ms) {idx ci kf a : Nat} (hd : decode cc pc = .ok (.putfield idx, 3)) (hf : FL own idx ci kf desc fin) (hfin : fin = false ∨ (fin = true ∧ (xh X).name = "<init>" ∧ ∃ T N, vwCl[ci]? = some (own, T, N))) {rs : List (Option (Option Nat))} (hs : τ a = some (.inl (ci, rs))) {v : Value} {ty : FieldType} (hty : parseFieldDescriptor desc = some ty) (hnw : narrow ty v = v) (hft : fits ty v = true)
    (kk : ∀ (H H' : Heap) (locs : List Loc) (ls : Array Slot), Rel K (τ, σ, nx) H → (∀ q ∈ locs, kB K ≤ q.base) → lh ls nL L → H'.size = H.size → (∀ q, q ≠ a → H'[q]? = H[q]?) → t_OB a (kC K ci) rs.length (kD K ci) H' (updV (fun k => valOf σ a k (rs.getD k none)) kf v) → Wx X H' locs k n (F0 (xm X) (pc + 3) ls S)) : G K X nL k n pc L (v :: .ref a :: S) (τ, σ, nx) := by
  intro H locs ls hR hq hl
  obtain ⟨C, name, T, N, hc, hT, hk, hlk⟩ := hf
  obtain ⟨⟨r, hr1, hr2⟩, cell, q1, q2, q3, q4⟩ := hR.obj hs
  cases hc.symm.trans hr1
  have hin : ∀ w ∈ u_ws C T N, w ∈ gtb := (clsOk ci _ hc).1
  have hkn : u_Kn (xs X) C T N (kC K ci) (kD K ci) := hF.kx.1.1 ci _ hc
  obtain ⟨hS, hfc, kC, hkC, hkind⟩ := hkn
  obtain ⟨cf, kf', fi, f, hi, hsl⟩ := hS kf hk
  have hi' : (xs X).fieldFound? C name desc = some (cf, kf', fi, f) := by simpa [hT] using hi
  have hst := (u_facts hfc hkC (u_lays hF.ts hin hk) hi).1
  have hap := slots_apart hF hc
  have hN : N = rs.length := hr2
  have ha := (hR.2.2.2.1 a _ hs).1
  have hend : ∀ H' : Heap, H'[a]? = some (cell.setSlot f.slot v) → H'.size = H.size → (∀ q, q ≠ a → H'[q]? = H[q]?) → Wx X H' (locs ++ [⟨a, f.slot⟩]) k n (F0 (xm X) (pc + 3) ls S) := by
    intro H' e1 e2 e3
    rw [hsl] at e1
    refine kk H H' _ ls hR (fun q h => ?_) hl e2 e3 ⟨_, e1, q2, q3, t_set q4 (hN ▸ hap) (hN ▸ hk) v⟩
    rcases List.mem_append.mp h with h | h
    · exact hq q h
    · rw [List.mem_singleton.mp h]; exact ha
  have hlay := hF.ts _ (hin _ (u_in_lay hk))
  rcases hfin with hfin | ⟨hfin, hini, T2, N2, hc2⟩
  · unfold u_lay at hlay
    rw [if_neg (by rw [hT, hfin]; exact fun h => by cases h)] at hlay
    have h6 := u_store (v := v) hfc hkC hkind hlay hi (by rw [hT]; exact hty) hnw hft
    exact W.putK hF.ex hF.co (f := f) ⟨hF.ow, hF.ts _ hlk, ⟨_, _, _, hi'⟩, hst⟩ (by rw [q2]; exact h6) q1 q3 (by rw [hsl]; exact k2_hasslot (q4 kf (hN ▸ hk))) rfl rfl hd hend
  · cases hc.symm.trans hc2
    unfold u_lay at hlay
    rw [if_pos (by rw [hT, hfin])] at hlay
    have h6 := u_fits (v := v) hfc hkC hkind (Or.inr hlay) hi (by rw [hT]; exact hty) hnw hft
    have hcf : (xm X).cls = cf := by
      obtain ⟨_, _, c', _, _, _, -, -, hf', -, -, -, hown2, -⟩ := Cond.laysFinal_spec hlay
      have e1 : c' = cf := by have := hi.symm.trans hf'; simp at this; exact this.1.symm
      rw [hT] at hown2
      rw [← e1]; exact Option.some.inj (hF.ow.symm.trans hown2)
    exact W.putFinK hF.ex hF.co hF.ow (hF.ts _ hlk) hi' hst hcf hini (by rw [q2]; exact h6) q1 q3 (by rw [hsl]; exact k2_hasslot (q4 kf (hN ▸ hk))) rfl rfl hd hend
theorem rel_set {H H' : Heap} {a : Nat} {x : Sh} {τ' : Tau} {σ' : Sig} (hR : Rel K (τ, σ, nx) H) (hs : τ a = some x) (hz : H'.size = H.size) (ho : ∀ q, q ≠ a → H'[q]? = H[q]?) (hτ : ∀ b, b ≠ a → τ' b = τ b) (hσ : ∀ b, b ≠ a → σ' b = σ b) (hc : cellOk K τ' σ' H' a) (hx : ∃ y, τ' a = some y) : Rel K (τ', σ', nx) H' := by
  obtain ⟨h1, h2, h3, h4, h5⟩ := hR
  have ha := h4 a x hs
  refine ⟨hz.trans h1, h2, fun b => ?_, fun b y hb => ?_, fun q hq => ?_⟩
  · by_cases e : b = a
    · subst e; exact hc
    · exact ((h3 b).kept (ho b e) (hσ b e)).tau (hτ b e)
  · by_cases e : b = a
    · subst e; exact ha
    · exact h4 b y ((hτ b e).symm.trans hb)
  · rw [ho q (by have := ha.1; omega)]; exact h5 q hq
theorem g_putI (hF : Fx K X cc nL own D mc ms) {idx ci kf a : Nat} (hd : decode cc pc = .ok (.putfield idx, 3)) (hf : FL own idx ci kf desc fin) (hfin : fin = false ∨ (fin = true ∧ (xh X).name = "<init>" ∧ ∃ T N, vwCl[ci]? = some (own, T, N))) {rs : List (Option (Option Nat))} (hs : τ a = some (.inl (ci, rs))) (hr : rs[kf]? = some none) {v : Int32} (hty : desc = "I" ∨ (desc = "Z" ∧ (v = 0 ∨ v = 1)))
    (kk : G K X nL k n (pc + 3) L S (τ, wr σ a kf v, nx)) : G K X nL k n pc L (.int v :: .ref a :: S) (τ, σ, nx) := by
  have hend : ∀ (H H' : Heap) (locs : List Loc) (ls : Array Slot), Rel K (τ, σ, nx) H → (∀ q ∈ locs, kB K ≤ q.base) → lh ls nL L → H'.size = H.size → (∀ q, q ≠ a → H'[q]? = H[q]?) → t_OB a (kC K ci) rs.length (kD K ci) H' (updV (fun k => valOf σ a k (rs.getD k none)) kf (.int v)) → Wx X H' locs k n (F0 (xm X) (pc + 3) ls S) := by
    intro H H' locs ls hR hq hl hz ho hob
    refine kk H' locs ls (rel_set (τ' := τ) (σ' := wr σ a kf v) hR hs hz ho (fun _ _ => rfl) (fun b hb => wr_row hb) ?_ ⟨_, hs⟩) hq hl
    unfold cellOk
    simp only [hs]
    refine ⟨(hR.obj hs).1, hob.to (fun j hj => ?_)⟩
    by_cases e : j = kf
    · subst e; simp [updV, valOf, List.getD_eq_getElem?_getD, hr, wr]
    · simp only [updV, e, if_false, valOf]; split <;> simp [wr, e]
  rcases hty with rfl | ⟨rfl, hv⟩
  · exact g_put0 hF hd hf hfin hs (ty := .int) rfl rfl rfl hend
  · refine g_put0 hF hd hf hfin hs (ty := .boolean) rfl ?_ ?_ hend
    · rcases hv with rfl | rfl <;> rfl
    · rcases hv with rfl | rfl <;> rfl
theorem g_putR (hF : Fx K X cc nL own D mc ms) {idx ci kf a : Nat} (hd : decode cc pc = .ok (.putfield idx, 3)) (hf : FL own idx ci kf desc fin) (hfin : fin = false ∨ (fin = true ∧ (xh X).name = "<init>" ∧ ∃ T N, vwCl[ci]? = some (own, T, N))) {rs : List (Option (Option Nat))} (hs : τ a = some (.inl (ci, rs))) {r0 r : Option Nat} (hr : rs[kf]? = some (some r0)) (hty : (∃ C, parseFieldDescriptor desc = some (.object C)) ∨ ∃ t, parseFieldDescriptor desc = some (.array t))
    (kk : G K X nL k n (pc + 3) L S (setR τ a kf r, σ, nx)) : G K X nL k n pc L (va_rf r :: .ref a :: S) (τ, σ, nx) := by
  have hkl : kf < rs.length := (List.getElem?_eq_some_iff.mp hr).1
  have hta : setR τ a kf r a = some (.inl (ci, rs.set kf (some r))) := by simp [setR, hs]
  have hend : ∀ (H H' : Heap) (locs : List Loc) (ls : Array Slot), Rel K (τ, σ, nx) H → (∀ q ∈ locs, kB K ≤ q.base) → lh ls nL L → H'.size = H.size → (∀ q, q ≠ a → H'[q]? = H[q]?) → t_OB a (kC K ci) rs.length (kD K ci) H' (updV (fun k => valOf σ a k (rs.getD k none)) kf (va_rf r)) → Wx X H' locs k n (F0 (xm X) (pc + 3) ls S) := by
    intro H H' locs ls hR hq hl hz ho hob
    refine kk H' locs ls (rel_set (τ' := setR τ a kf r) (σ' := σ) hR hs hz ho (fun b hb => by simp [setR, hb]) (fun b hb => rfl) ?_ ⟨_, hta⟩) hq hl
    unfold cellOk
    simp only [hta]
    refine ⟨by rw [List.length_set]; exact (hR.obj hs).1, ?_⟩
    rw [List.length_set]
    refine hob.to (fun j hj => ?_)
    by_cases e : j = kf
    · subst e; simp [updV, valOf, List.getD_eq_getElem?_getD, hkl]
    · simp only [updV, e, if_false, List.getD_eq_getElem?_getD, List.getElem?_set_ne (Ne.symm e)]
  rcases hty with ⟨C, hC⟩ | ⟨t, ht⟩
  · refine g_put0 hF hd hf hfin hs hC ?_ ?_ hend
    · cases r <;> rfl
    · cases r <;> rfl
  · refine g_put0 hF hd hf hfin hs ht ?_ ?_ hend
    · cases r <;> rfl
    · cases r <;> rfl
/-- a place of an int array -/
def ld (N : Nat) (f : Nat → Int32) (i : Int32) : Option Int32 := if i < 0 ∨ N ≤ i.toNatClampNeg then none else some (f i.toNatClampNeg)
theorem ld_some {N : Nat} {f : Nat → Int32} {i v : Int32} (h : ld N f i = some v) : ¬ (i < 0 ∨ N ≤ i.toNatClampNeg) ∧ v = f i.toNatClampNeg := by
  unfold ld at h
  split at h
  · cases h
  · next hc => cases h; exact ⟨hc, rfl⟩
theorem g_ild (hF : Fx K X cc nL own D mc ms) {a N : Nat} {i v : Int32} (hd : decode cc pc = .ok (.iaload, 1)) (hs : τ a = some (.inr (.inl N))) (hv : ld N (σ a) i = some v) (kk : G K X nL k n (pc + 1) L (.int v :: S) (τ, σ, nx)) : G K X nL k n pc L (.int i :: .ref a :: S) (τ, σ, nx) := by
  intro H locs ls hR hq hl
  obtain ⟨hin, rfl⟩ := ld_some hv
  have hlt : i.toNatClampNeg < N := Nat.not_le.mp fun q => hin (Or.inr q)
  exact W.iald (v := .int (σ a i.toNatClampNeg)) hF.ex hF.co (hR.arr hs) ((hF.kx.1.2 0 _ rfl).1 N (fun j => .int (σ a j))) (fun q => by cases q) (by rw [arrV_size]; exact hin) (by rw [arrV_read _ _ hlt]) rfl rfl hd (kk H locs ls hR hq hl)
/-- a store into an int array of N places -/
def st (N : Nat) (σ : Sig) (a : Nat) (i v : Int32) : Option Sig := if i < 0 ∨ N ≤ i.toNatClampNeg then none else some (wr σ a i.toNatClampNeg v)
theorem st_some {N : Nat} {σ σ' : Sig} {a : Nat} {i v : Int32} (h : st N σ a i v = some σ') : ¬ (i < 0 ∨ N ≤ i.toNatClampNeg) ∧ σ' = wr σ a i.toNatClampNeg v := by
  unfold st at h
  split at h
  · cases h
  · next hc => cases h; exact ⟨hc, rfl⟩
theorem g_ist (hF : Fx K X cc nL own D mc ms) {a N : Nat} {i v : Int32} {σ' : Sig} (hd : decode cc pc = .ok (.iastore, 1)) (hs : τ a = some (.inr (.inl N))) (hv : st N σ a i v = some σ') (kk : G K X nL k n (pc + 1) L S (τ, σ', nx)) : G K X nL k n pc L (.int v :: .int i :: .ref a :: S) (τ, σ, nx) := by
  intro H locs ls hR hq hl
  obtain ⟨hin, rfl⟩ := st_some hv
  have hlt : i.toNatClampNeg < N := Nat.not_le.mp fun q => hin (Or.inr q)
  have ha := (hR.2.2.2.1 a _ hs).1
  refine W.iast hF.ex hF.co (hR.arr hs) ((hF.kx.1.2 0 _ rfl).1 N (fun j => .int (σ a j))) (fun q => by cases q) (by rw [arrV_size]; exact hin) rfl rfl hd fun H1 e z oq => ?_
  refine kk H1 _ ls (rel_set (τ' := τ) (σ' := wr σ a i.toNatClampNeg v) hR hs z oq (fun _ _ => rfl) (fun b hb => wr_row hb) ?_ ⟨_, hs⟩) (fun q h => ?_) hl
  · unfold cellOk
    simp only [hs]
    rw [e, arrV_store]
    congr 2
    funext q
    by_cases hqe : q = i.toNatClampNeg
    · subst hqe; simp [updV, wr]
    · simp [updV, wr, hqe]
  · rcases List.mem_append.mp h with h | h
    · exact hq q h
    · rw [List.mem_singleton.mp h]; exact ha
theorem g_alen (hF : Fx K X cc nL own D mc ms) {a N : Nat} {v : Int32} (hd : decode cc pc = .ok (.arraylength, 1)) (hs : τ a = some (.inr (.inl N))) (hv : Int32.ofNat N = v) (kk : G K X nL k n (pc + 1) L (.int v :: S) (τ, σ, nx)) : G K X nL k n pc L (.ref a :: S) (τ, σ, nx) := by
  intro H locs ls hR hq hl
  exact W.alen (n := v) hF.ex hF.co (hR.arr hs) ((hF.kx.1.2 0 _ rfl).1 N (fun j => .int (σ a j))) (by rw [arrV_size]; exact hv) rfl rfl hd (kk H locs ls hR hq hl)
end HP

/-! NEW CELLS, ARRAYS OF REFERENCES, THE COPY, STATICS. -/
def al (τ : Tau) (nx : Nat) (x : Sh) : Tau := fun b => if b = nx then some x else τ b
def zr (σ : Sig) (nx : Nat) : Sig := fun b j => if b = nx then 0 else σ b j
/-- the shape of a new object: int fields, references (none yet) -/
def rs0 (ty : Nat → FieldType) (N : Nat) : List (Option (Option Nat)) := (List.range N).map fun j => match defaultValue (ty j) with | .int _ => none | _ => some none
section AL
variable {K : Kt} {X : Cx} {cc : ByteArray} {nL : Nat} {own : String} {D mc ms k n pc : Nat} {L : Lo} {S : List Value} {τ : Tau} {σ : Sig} {nx : Nat}
theorem rel_new {H H' : Heap} {x : Sh} (hR : Rel K (τ, σ, nx) H) (hz : H'.size = nx + 1) (ho : ∀ q, q < nx → H'[q]? = H[q]?) (hc : cellOk K (al τ nx x) (zr σ nx) H' nx) : Rel K (al τ nx x, zr σ nx, nx + 1) H' := by
  obtain ⟨h1, h2, h3, h4, h5⟩ := hR
  refine ⟨hz, Nat.le_succ_of_le h2, fun b => ?_, fun b y hb => ?_, fun q hq => ?_⟩
  · by_cases e : b = nx
    · subst e; exact hc
    · have ht : al τ nx x b = τ b := by simp [al, e]
      cases hτ : τ b with
      | none => unfold cellOk; simp [ht, hτ]
      | some y =>
        have hlt := (h4 b y hτ).2
        exact ((h3 b).kept (ho b hlt) (by funext j; simp [zr, e])).tau ht
  · by_cases e : b = nx
    · subst e; exact ⟨h2, Nat.lt_succ_self _⟩
    · have hb' : τ b = some y := by have : al τ nx x b = some y := hb; simpa [al, e] using this
      have := h4 b y hb'
      exact ⟨this.1, Nat.lt_succ_of_lt this.2⟩
  · rw [ho q (Nat.lt_of_lt_of_le hq h2)]; exact h5 q hq
theorem g_new (hF : Fx K X cc nL own D mc ms) {idx ci N : Nat} {C : String} {T : u_T} (ty : Nat → FieldType) (hd : decode cc pc = .ok (.new idx, 3)) (hcl : vwCl[ci]? = some (C, T, N)) (hty : ∀ j, j < N → parseFieldDescriptor (T j).2.2.1 = some (ty j)) (hck : Cond.classLink own idx C ∈ gtb) (hit : Cond.instantiable C N ∈ gtb) (hin : Cond.initialized C ∈ gtb) {rs : List (Option (Option Nat))} (hrs : rs.length = N) (hdv : ∀ j, j < N → defaultValue (ty j) = (match rs.getD j none with | none => .int 0 | some x => va_rf x)) (hc : k + 1 ≤ mc) (hs : n + N ≤ ms)
    (kk : G K X nL (k + 1) (n + N) (pc + 3) L (.ref nx :: S) (al τ nx (.inl (ci, rs)), zr σ nx, nx + 1)) : G K X nL k n pc L S (τ, σ, nx) := by
  intro H locs ls hR hq hl
  have h1 := hF.ce; have h2 := hF.sl
  have hin2 : ∀ w ∈ u_ws C T N, w ∈ gtb := (clsOk ci _ hcl).1
  have hkn : u_Kn (xs X) C T N (kC K ci) (kD K ci) := hF.kx.1.1 ci _ hcl
  have hsz : H.size = nx := hR.1
  refine W.newcK (g := F0 (xm X) pc ls S) hF.ex hF.co hF.ow (hF.ts _ hck) (hF.ts _ hit) (hF.ts _ hin) rfl hd (by omega) (by omega) hkn.2.1 hsz fun H1 kC hkC e1 z1 o1 => ?_
  refine kk H1 locs ls (rel_new hR z1 o1 ?_) hq hl
  unfold cellOk
  have e : al τ nx (.inl (ci, rs)) nx = some (.inl (ci, rs)) := by simp [al]
  simp only [e]
  refine ⟨⟨_, hcl, hrs.symm⟩, ?_⟩
  rw [hrs]
  refine (u_born ty hF.ts hin2 hkn hkC e1 hty).to (fun j hj => ?_)
  rw [hdv j hj]
  simp only [valOf]
  split <;> simp_all [zr]
theorem g_newI (hF : Fx K X cc nL own D mc ms) {i : Int32} {N M : Nat} (hd : decode cc pc = .ok (.newarray .int, 2)) (hac : Cond.arrayClass .int ∈ gtb) (hi : ¬ i < 0) (hN : i.toNatClampNeg = N) (hM : N ≤ M) (hb : M ≤ 100000) (hc : k + 1 ≤ mc) (hs : n + M ≤ ms)
    (kk : G K X nL (k + 1) (n + M) (pc + 2) L (.ref nx :: S) (al τ nx (.inr (.inl N)), zr σ nx, nx + 1)) : G K X nL k n pc L (.int i :: S) (τ, σ, nx) := by
  intro H locs ls hR hq hl
  have h1 := hF.ce; have h2 := hF.sl
  have hsz : H.size = nx := hR.1
  refine va_newaK (g := F0 (xm X) pc ls (.int i :: S)) (atype := .int) hF.ex hF.co (hF.ts _ hac) rfl hd rfl hi hN (by show N * 4 ≤ _; omega) (by omega) (by omega) hsz fun H1 cA e1 z1 o1 hAr hNm => ?_
  have hcA : cA = kI K := by
    have h3 : (xs X).vm.findClass ("[" ++ FieldType.int.toString) = some (kI K) := (hF.kx.1.2 0 _ rfl).2
    exact Option.some.inj (hNm.symm.trans h3)
  refine W.widen (Nat.le_refl _) (show n + N ≤ n + M by omega) ?_
  refine kk H1 locs ls (rel_new hR z1 o1 ?_) hq hl
  unfold cellOk
  have e : al τ nx (.inr (.inl N)) nx = some (.inr (.inl N)) := by simp [al]
  simp only [e]
  rw [e1, hcA]
  congr 2
  funext j
  simp [zr, defaultValue, newarray.typeOf]
theorem g_newR (hF : Fx K X cc nL own D mc ms) {idx ci tj N : Nat} {i : Int32} {C : String} (hd : decode cc pc = .ok (.anewarray idx, 3)) (hck : Cond.classLink own idx C ∈ gtb) (hov : va_AO C (xs X)) (htk : (tysK K)[tj]? = some (kR K ci, .object C)) (hi : ¬ i < 0) (hN : i.toNatClampNeg = N) (hb : N ≤ 100000) (hc : k + 1 ≤ mc) (hs : n + N ≤ ms)
    (kk : G K X nL (k + 1) (n + N) (pc + 3) L (.ref nx :: S) (al τ nx (.inr (.inr (ci, N, fun _ => none))), zr σ nx, nx + 1)) : G K X nL k n pc L (.int i :: S) (τ, σ, nx) := by
  intro H locs ls hR hq hl
  subst hN
  have h1 := hF.ce; have h2 := hF.sl
  have hsz : H.size = nx := hR.1
  refine W.anew (g := F0 (xm X) pc ls (.int i :: S)) hF.ex hF.co hF.ow (hF.ts _ hck) hov.use rfl hd rfl hi (by omega) (by omega) (by omega) fun cA kA comp g1 g2 g3 g4 => ?_
  have hcA : cA = kR K ci := by
    obtain ⟨_, _, _, _, _, h4⟩ := (hF.kx.1.2 tj _ htk).2
    exact Option.some.inj (g1.symm.trans h4)
  subst hsz
  refine kk _ locs ls (rel_new hR (by simp) (fun q hlt => by rw [Array.getElem?_push, if_neg (by omega)]) ?_) hq hl
  unfold cellOk
  have e : al τ H.size (.inr (.inr (ci, i.toNatClampNeg, fun _ => none))) H.size = some (.inr (.inr (ci, i.toNatClampNeg, fun _ => none))) := by simp [al]
  simp only [e]
  rw [Array.getElem?_push, if_pos rfl, arrV_new, hcA]
  rfl
/-- a place of an array of references -/
def ldr (N : Nat) (f : Nat → Option Nat) (i : Int32) : Option (Option Nat) := if i < 0 ∨ N ≤ i.toNatClampNeg then none else some (f i.toNatClampNeg)
theorem ldr_some {N : Nat} {f : Nat → Option Nat} {i : Int32} {v : Option Nat} (h : ldr N f i = some v) : ¬ (i < 0 ∨ N ≤ i.toNatClampNeg) ∧ v = f i.toNatClampNeg := by
  unfold ldr at h
  split at h
  · cases h
  · next hc => cases h; exact ⟨hc, rfl⟩
theorem g_rld (hF : Fx K X cc nL own D mc ms) {a ci N tj : Nat} {C : String} {f : Nat → Option Nat} {i : Int32} {v : Option Nat} (hd : decode cc pc = .ok (.aaload, 1)) (hs : τ a = some (.inr (.inr (ci, N, f)))) (htk : (tysK K)[tj]? = some (kR K ci, .object C)) (hv : ldr N f i = some v) (kk : G K X nL k n (pc + 1) L (va_rf v :: S) (τ, σ, nx)) : G K X nL k n pc L (.int i :: .ref a :: S) (τ, σ, nx) := by
  intro H locs ls hR hq hl
  obtain ⟨hin, rfl⟩ := ldr_some hv
  have hlt : i.toNatClampNeg < N := Nat.not_le.mp fun q => hin (Or.inr q)
  exact W.aald (v := va_rf (f i.toNatClampNeg)) (ty := .object C) hF.ex hF.co (hR.rar hs) ((hF.kx.1.2 tj _ htk).1 N (fun j => va_rf (f j))) rfl (fun q => by cases q) (by rw [arrV_size]; exact hin) (by rw [arrV_read _ _ hlt]) rfl rfl hd (kk H locs ls hR hq hl)
/-- a store into an array of references -/
def str (τ : Tau) (a : Nat) (i : Int32) (v : Option Nat) : Option Tau := match τ a with
  | some (.inr (.inr (ci, N, f))) => if i < 0 ∨ N ≤ i.toNatClampNeg then none else some (fun b => if b = a then some (.inr (.inr (ci, N, va_up f i.toNatClampNeg v))) else τ b)
  | _ => none
theorem str_some {τ τ' : Tau} {a ci N : Nat} {f : Nat → Option Nat} {i : Int32} {v : Option Nat} (hs : τ a = some (.inr (.inr (ci, N, f)))) (h : str τ a i v = some τ') : ¬ (i < 0 ∨ N ≤ i.toNatClampNeg) ∧ τ' = fun b => if b = a then some (.inr (.inr (ci, N, va_up f i.toNatClampNeg v))) else τ b := by
  unfold str at h
  simp only [hs] at h
  split at h
  · cases h
  · next hc => cases h; exact ⟨hc, rfl⟩
theorem g_rst (hF : Fx K X cc nL own D mc ms) {a ci N tj v : Nat} {C : String} {T : u_T} {M : Nat} {f : Nat → Option Nat} {i : Int32} {τ' : Tau} {rs : List (Option (Option Nat))} (hd : decode cc pc = .ok (.aastore, 1)) (hs : τ a = some (.inr (.inr (ci, N, f)))) (htk : (tysK K)[tj]? = some (kR K ci, .object C)) (hvs : τ v = some (.inl (ci, rs))) (hcl : vwCl[ci]? = some (C, T, M)) (hv : str τ a i (some v) = some τ') (kk : G K X nL k n (pc + 1) L S (τ', σ, nx)) : G K X nL k n pc L (.ref v :: .int i :: .ref a :: S) (τ, σ, nx) := by
  intro H locs ls hR hq hl
  obtain ⟨hin, rfl⟩ := str_some hs hv
  have hlt : i.toNatClampNeg < N := Nat.not_le.mp fun q => hin (Or.inr q)
  have h0 : ¬ i < 0 := fun q => hin (Or.inl q)
  have ha := (hR.2.2.2.1 a _ hs).1
  obtain ⟨-, cellV, g1, g2, g3, -⟩ := hR.obj hvs
  have hcls : ClassAt (xs X) C (kC K ci) := (hF.kx.1.1 ci _ hcl).2
  obtain ⟨kA, comp, k1, k2, k3, -⟩ := (hF.kx.1.2 tj _ htk).2
  have hcomp : comp = kC K ci := Option.some.inj (k3.symm.trans hcls.1)
  subst hcomp
  obtain ⟨kC', hkC, -⟩ := hcls.2
  refine W.aast hF.ex hF.co (hR.rar hs) (fun q h => by cases h) (fun h => by cases h) k1 k2 rfl hkC ⟨h0, by rw [arrV_size]; exact hlt⟩ g1 (fun q h => by rw [g3] at h; cases h) (by rw [g2]; exact hkC) (by rw [g2]; exact va_assign hcls) rfl rfl hd fun H1 e z oq => ?_
  refine kk H1 _ ls (rel_set (a := a) hR hs z oq (fun b hb => by simp [hb]) (fun b hb => rfl) ?_ ⟨.inr (.inr (ci, N, va_up f i.toNatClampNeg (some v))), by simp⟩) (fun q h => ?_) hl
  · unfold cellOk
    simp only [if_true]
    rw [e, arrV_store]
    congr 2
    funext q
    by_cases hqe : q = i.toNatClampNeg
    · subst hqe; simp [updV, va_up, va_rf]
    · simp [updV, va_up, hqe]
  · rcases List.mem_append.mp h with h | h
    · exact hq q h
    · rw [List.mem_singleton.mp h]; exact ha
theorem g_rstN (hF : Fx K X cc nL own D mc ms) {a ci N tj : Nat} {C : String} {f : Nat → Option Nat} {i : Int32} {τ' : Tau} (hd : decode cc pc = .ok (.aastore, 1)) (hs : τ a = some (.inr (.inr (ci, N, f)))) (htk : (tysK K)[tj]? = some (kR K ci, .object C)) (hv : str τ a i none = some τ') (kk : G K X nL k n (pc + 1) L S (τ', σ, nx)) : G K X nL k n pc L (.null :: .int i :: .ref a :: S) (τ, σ, nx) := by
  intro H locs ls hR hq hl
  obtain ⟨hin, rfl⟩ := str_some hs hv
  have ha := (hR.2.2.2.1 a _ hs).1
  refine va_WaastN (C := C) hF.ex hF.co (hR.rar hs) ((hF.kx.1.2 tj _ htk).1 N (fun j => va_rf (f j))) (fun h => by cases h) (by rw [arrV_size]; exact hin) rfl rfl hd fun H1 e z oq => ?_
  refine kk H1 _ ls (rel_set (a := a) hR hs z oq (fun b hb => by simp [hb]) (fun b hb => rfl) ?_ ⟨.inr (.inr (ci, N, va_up f i.toNatClampNeg none)), by simp⟩) (fun q h => ?_) hl
  · unfold cellOk
    simp only [if_true]
    rw [e, arrV_store]
    congr 2
    funext q
    by_cases hqe : q = i.toNatClampNeg
    · subst hqe; simp [updV, va_up, va_rf]
    · simp [updV, va_up, hqe]
  · rcases List.mem_append.mp h with h | h
    · exact hq q h
    · rw [List.mem_singleton.mp h]; exact ha
theorem g_ralen (hF : Fx K X cc nL own D mc ms) {a ci N tj : Nat} {C : String} {f : Nat → Option Nat} {v : Int32} (hd : decode cc pc = .ok (.arraylength, 1)) (hs : τ a = some (.inr (.inr (ci, N, f)))) (htk : (tysK K)[tj]? = some (kR K ci, .object C)) (hv : Int32.ofNat N = v) (kk : G K X nL k n (pc + 1) L (.int v :: S) (τ, σ, nx)) : G K X nL k n pc L (.ref a :: S) (τ, σ, nx) := by
  intro H locs ls hR hq hl
  exact W.alen (n := v) hF.ex hF.co (hR.rar hs) ((hF.kx.1.2 tj _ htk).1 N (fun j => va_rf (f j))) (by rw [arrV_size]; exact hv) rfl rfl hd (kk H locs ls hR hq hl)
/-- outside arrays: the script, the two tables -/
theorem g_xld (hF : Fx K X cc nL own D mc ms) {a N : Nat} {f : Nat → Int32} {i v : Int32} (hd : decode cc pc = .ok (.iaload, 1)) (hs : kX K a = some (N, f)) (hv : ld N f i = some v) {h : Hp} (kk : G K X nL k n (pc + 1) L (.int v :: S) h) : G K X nL k n pc L (.int i :: .ref a :: S) h := by
  intro H locs ls hR hq hl
  obtain ⟨hin, rfl⟩ := ld_some hv
  have hlt : i.toNatClampNeg < N := Nat.not_le.mp fun q => hin (Or.inr q)
  obtain ⟨cell, c1, c2, c3, c4, c5, c6, c7⟩ := hF.kx.2.2.2.1 a N f hs
  have hb : a < kB K := Nat.not_le.mp c7
  exact W.iald (v := .int (f i.toNatClampNeg)) hF.ex hF.co (by rw [hR.2.2.2.2 a hb]; exact c1) c2 c3 (fun q => hin (q.elim Or.inl (fun z => Or.inr (Nat.le_trans c4 z)))) (c6 _ hlt) rfl rfl hd (kk H locs ls hR hq hl)
theorem g_xlen (hF : Fx K X cc nL own D mc ms) {a N : Nat} {f : Nat → Int32} {v : Int32} (hd : decode cc pc = .ok (.arraylength, 1)) (hs : kX K a = some (N, f)) (hv : Int32.ofNat N = v) {h : Hp} (kk : G K X nL k n (pc + 1) L (.int v :: S) h) : G K X nL k n pc L (.ref a :: S) h := by
  intro H locs ls hR hq hl
  obtain ⟨cell, c1, c2, c3, c4, c5, c6, c7⟩ := hF.kx.2.2.2.1 a N f hs
  have hb : a < kB K := Nat.not_le.mp c7
  exact W.alen (n := v) hF.ex hF.co (by rw [hR.2.2.2.2 a hb]; exact c1) c2 (c5.trans hv) rfl rfl hd (kk H locs ls hR hq hl)
/-- a static that is said -/
theorem g_sta (hF : Fx K X cc nL own D mc ms) {idx : Nat} {C nm de : String} {v : Value} (hd : decode cc pc = .ok (.getstatic idx, 3)) (hlk : Cond.fieldLink own idx C nm de ∈ gtb) (hz : va_Z C nm de v (kA K) (xs X) (kH K)) {h : Hp} (kk : G K X nL k n (pc + 3) L (v :: S) h) : G K X nL k n pc L S h := by
  intro H locs ls hR hq hl
  have hz' : va_Z C nm de v (kA K) (xs X) H := hz.kept (fun a h1 h2 => hR.2.2.2.2 a (Nat.not_le.mp h2))
  obtain ⟨cf, kf, fi, f, a, cell, g1, g2, g3, g4, g5, g6, g7, g8⟩ := hz'
  exact W.gets (g := F0 (xm X) pc ls S) hF.ex hF.co hF.ow (hF.ts _ hlk) g1 g2 g3 g4 g5 (fun e => by rw [e] at g6; cases g6) g7 rfl hd (kk H locs ls hR hq hl)
theorem g_ldcS (hF : Fx K X cc nL own D mc ms) {idx i : Nat} {tx : String} (hd : decode cc pc = .ok (.ldc idx, 2)) (hs : strTab[i]? = some (own, idx, tx)) {h : Hp} (kk : G K X nL k n (pc + 2) L (.ref (kK K i) :: S) h) : G K X nL k n pc L S h :=
  fun H locs ls hR hq hl => va_ldcS hF.ex hF.co hF.ow (hF.kx.2.2.2.2.2.2.2.2.2.1 i _ hs) hd (kk H locs ls hR hq hl)
end AL

/-! THE SAME WITH SHAPES LOOKED UP: for methods that make cells or store references. -/
def gI (τ : Tau) (σ : Sig) (ci a kf : Nat) : Option Int32 := match τ a with
  | some (.inl (c, rs)) => if c = ci ∧ rs[kf]? = some none then some (σ a kf) else none
  | _ => none
def gR (τ : Tau) (ci a kf : Nat) : Option (Option Nat) := match τ a with
  | some (.inl (c, rs)) => if c = ci then (match rs[kf]? with | some (some r) => some r | _ => none) else none
  | _ => none
def gRs (τ : Tau) (ci a kf : Nat) : Option Nat := (gR τ ci a kf).bind id
def dI (τ : Tau) (σ : Sig) (ci a kf : Nat) (v : Int32) : Option Sig := match τ a with
  | some (.inl (c, rs)) => if c = ci ∧ rs[kf]? = some none then some (wr σ a kf v) else none
  | _ => none
def dZ (τ : Tau) (σ : Sig) (ci a kf : Nat) (v : Int32) : Option Sig := if v = 0 ∨ v = 1 then dI τ σ ci a kf v else none
def dR (τ : Tau) (ci a kf : Nat) (r : Option Nat) : Option Tau := (gR τ ci a kf).bind fun _ => some (setR τ a kf r)
def ldD (τ : Tau) (σ : Sig) (a : Nat) (i : Int32) : Option Int32 := match τ a with
  | some (.inr (.inl N)) => ld N (σ a) i
  | _ => none
def stD (τ : Tau) (σ : Sig) (a : Nat) (i v : Int32) : Option Sig := match τ a with
  | some (.inr (.inl N)) => st N σ a i v
  | _ => none
def lnD (τ : Tau) (a : Nat) : Option Int32 := match τ a with
  | some (.inr (.inl N)) => some (Int32.ofNat N)
  | _ => none
def lnR (τ : Tau) (ci a : Nat) : Option Int32 := match τ a with
  | some (.inr (.inr (c, N, _))) => if c = ci then some (Int32.ofNat N) else none
  | _ => none
def ldrD (τ : Tau) (ci a : Nat) (i : Int32) : Option (Option Nat) := match τ a with
  | some (.inr (.inr (c, N, f))) => if c = ci then ldr N f i else none
  | _ => none
def isOb (τ : Tau) (ci : Nat) (r : Option Nat) : Bool := match r with
  | none => true
  | some b => (match τ b with | some (.inl (c, _)) => c == ci | _ => false)
def strD (τ : Tau) (ci a : Nat) (i : Int32) (r : Option Nat) : Option Tau := match τ a with
  | some (.inr (.inr (c, _, _))) => if c = ci ∧ isOb τ ci r = true then str τ a i r else none
  | _ => none
def cpD (τ : Tau) (σ : Sig) (a0 : Nat) (sp : Int32) (a1 : Nat) (dp m : Int32) : Option Sig := match τ a0, τ a1 with
  | some (.inr (.inl n0)), some (.inr (.inl n1)) => cp n0 n1 σ a0 sp a1 dp m
  | _, _ => none
def nwI (i : Int32) (M : Nat) : Option Nat := if i < 0 ∨ M < i.toNatClampNeg then none else some i.toNatClampNeg
def onl {α : Type} (r : Option Nat) (A : α) (B : Nat → α) : α := match r with
  | none => A
  | some b => B b
theorem nwI_some {i : Int32} {M N : Nat} (h : nwI i M = some N) : ¬ i < 0 ∧ i.toNatClampNeg = N ∧ N ≤ M := by
  obtain ⟨hc, h⟩ := on h
  cases h
  exact ⟨fun q => hc (Or.inl q), rfl, Nat.not_lt.mp fun q => hc (Or.inr q)⟩
theorem gI_some {τ : Tau} {σ : Sig} {ci a kf : Nat} {v : Int32} (h : gI τ σ ci a kf = some v) : ∃ rs, τ a = some (.inl (ci, rs)) ∧ rs[kf]? = some none ∧ v = σ a kf := by
  unfold gI at h
  split at h
  · next c rs hq => obtain ⟨⟨hc, hr⟩, h2⟩ := oy h; subst hc; cases h2; exact ⟨rs, hq, hr, rfl⟩
  · cases h
theorem gR_some {τ : Tau} {ci a kf : Nat} {r : Option Nat} (h : gR τ ci a kf = some r) : ∃ rs, τ a = some (.inl (ci, rs)) ∧ rs[kf]? = some (some r) := by
  unfold gR at h
  split at h
  · next c rs hq =>
    obtain ⟨hc, h2⟩ := oy h
    subst hc
    split at h2
    · next r' hr => cases h2; exact ⟨rs, hq, hr⟩
    · cases h2
  · cases h
theorem gRs_some {τ : Tau} {ci a kf b : Nat} (h : gRs τ ci a kf = some b) : gR τ ci a kf = some (some b) := by
  obtain ⟨r, h1, h2⟩ := ob h
  rw [h1]; exact congrArg some h2
theorem dI_some {τ : Tau} {σ σ' : Sig} {ci a kf : Nat} {v : Int32} (h : dI τ σ ci a kf v = some σ') : ∃ rs, τ a = some (.inl (ci, rs)) ∧ rs[kf]? = some none ∧ σ' = wr σ a kf v := by
  unfold dI at h
  split at h
  · next c rs hq => obtain ⟨⟨hc, hr⟩, h2⟩ := oy h; subst hc; cases h2; exact ⟨rs, hq, hr, rfl⟩
  · cases h
theorem ldD_some {τ : Tau} {σ : Sig} {a : Nat} {i v : Int32} (h : ldD τ σ a i = some v) : ∃ N, τ a = some (.inr (.inl N)) ∧ ld N (σ a) i = some v := by
  unfold ldD at h
  split at h
  · next N hq => exact ⟨N, hq, h⟩
  · cases h
theorem stD_some {τ : Tau} {σ σ' : Sig} {a : Nat} {i v : Int32} (h : stD τ σ a i v = some σ') : ∃ N, τ a = some (.inr (.inl N)) ∧ st N σ a i v = some σ' := by
  unfold stD at h
  split at h
  · next N hq => exact ⟨N, hq, h⟩
  · cases h
theorem lnD_some {τ : Tau} {a : Nat} {v : Int32} (h : lnD τ a = some v) : ∃ N, τ a = some (.inr (.inl N)) ∧ Int32.ofNat N = v := by
  unfold lnD at h
  split at h
  · next N hq => exact ⟨N, hq, Option.some.inj h⟩
  · cases h
theorem lnR_some {τ : Tau} {ci a : Nat} {v : Int32} (h : lnR τ ci a = some v) : ∃ N f, τ a = some (.inr (.inr (ci, N, f))) ∧ Int32.ofNat N = v := by
  unfold lnR at h
  split at h
  · next c N f hq => obtain ⟨hc, h2⟩ := oy h; subst hc; exact ⟨N, f, hq, Option.some.inj h2⟩
  · cases h
theorem ldrD_some {τ : Tau} {ci a : Nat} {i : Int32} {r : Option Nat} (h : ldrD τ ci a i = some r) : ∃ N f, τ a = some (.inr (.inr (ci, N, f))) ∧ ldr N f i = some r := by
  unfold ldrD at h
  split at h
  · next c N f hq => obtain ⟨hc, h2⟩ := oy h; subst hc; exact ⟨N, f, hq, h2⟩
  · cases h
theorem strD_some {τ τ' : Tau} {ci a : Nat} {i : Int32} {r : Option Nat} (h : strD τ ci a i r = some τ') : ∃ N f, τ a = some (.inr (.inr (ci, N, f))) ∧ isOb τ ci r = true ∧ str τ a i r = some τ' := by
  unfold strD at h
  split at h
  · next c N f hq => obtain ⟨⟨hc, ho⟩, h2⟩ := oy h; subst hc; exact ⟨N, f, hq, ho, h2⟩
  · cases h
theorem cpD_some {τ : Tau} {σ σ' : Sig} {a0 a1 : Nat} {sp dp m : Int32} (h : cpD τ σ a0 sp a1 dp m = some σ') : ∃ n0 n1, τ a0 = some (.inr (.inl n0)) ∧ τ a1 = some (.inr (.inl n1)) ∧ cp n0 n1 σ a0 sp a1 dp m = some σ' := by
  unfold cpD at h
  split at h
  · next n0 n1 h0 h1 => exact ⟨n0, n1, h0, h1, h⟩
  · cases h
section DY
variable {K : Kt} {X : Cx} {cc : ByteArray} {nL : Nat} {own : String} {D mc ms k n pc : Nat} {L : Lo} {S : List Value} {τ : Tau} {σ : Sig} {nx : Nat} {desc : String} {fin : Bool}
theorem g_dgI (hF : Fx K X cc nL own D mc ms) {idx ci kf a : Nat} {v : Int32} (hd : decode cc pc = .ok (.getfield idx, 3)) (hf : FL own idx ci kf desc fin) (e : gI τ σ ci a kf = some v) (kk : G K X nL k n (pc + 3) L (.int v :: S) (τ, σ, nx)) : G K X nL k n pc L (.ref a :: S) (τ, σ, nx) := by
  obtain ⟨rs, h1, h2, rfl⟩ := gI_some e
  exact g_getI hF hd hf h1 h2 kk
theorem g_dgO (hF : Fx K X cc nL own D mc ms) {idx ci kf a : Nat} {r : Option Nat} (hd : decode cc pc = .ok (.getfield idx, 3)) (hf : FL own idx ci kf desc fin) (e : gR τ ci a kf = some r) (kk : G K X nL k n (pc + 3) L (va_rf r :: S) (τ, σ, nx)) : G K X nL k n pc L (.ref a :: S) (τ, σ, nx) := by
  obtain ⟨rs, h1, h2⟩ := gR_some e
  exact g_get hF hd hf h1 h2 kk
theorem g_dgR (hF : Fx K X cc nL own D mc ms) {idx ci kf a b : Nat} (hd : decode cc pc = .ok (.getfield idx, 3)) (hf : FL own idx ci kf desc fin) (e : gRs τ ci a kf = some b) (kk : G K X nL k n (pc + 3) L (.ref b :: S) (τ, σ, nx)) : G K X nL k n pc L (.ref a :: S) (τ, σ, nx) := g_dgO hF hd hf (gRs_some e) kk
theorem g_dpI (hF : Fx K X cc nL own D mc ms) {idx ci kf a : Nat} {v : Int32} {σ' : Sig} (hd : decode cc pc = .ok (.putfield idx, 3)) (hf : FL own idx ci kf "I" fin) (hfin : fin = false ∨ (fin = true ∧ (xh X).name = "<init>" ∧ ∃ T N, vwCl[ci]? = some (own, T, N))) (e : dI τ σ ci a kf v = some σ') (kk : G K X nL k n (pc + 3) L S (τ, σ', nx)) : G K X nL k n pc L (.int v :: .ref a :: S) (τ, σ, nx) := by
  obtain ⟨rs, h1, h2, rfl⟩ := dI_some e
  exact g_putI hF hd hf hfin h1 h2 (Or.inl rfl) kk
theorem g_dpZ (hF : Fx K X cc nL own D mc ms) {idx ci kf a : Nat} {v : Int32} {σ' : Sig} (hd : decode cc pc = .ok (.putfield idx, 3)) (hf : FL own idx ci kf "Z" fin) (hfin : fin = false ∨ (fin = true ∧ (xh X).name = "<init>" ∧ ∃ T N, vwCl[ci]? = some (own, T, N))) (e : dZ τ σ ci a kf v = some σ') (kk : G K X nL k n (pc + 3) L S (τ, σ', nx)) : G K X nL k n pc L (.int v :: .ref a :: S) (τ, σ, nx) := by
  obtain ⟨hv, e⟩ := oy e
  obtain ⟨rs, h1, h2, rfl⟩ := dI_some e
  exact g_putI hF hd hf hfin h1 h2 (Or.inr ⟨rfl, hv⟩) kk
theorem g_dpR (r : Option Nat) (hF : Fx K X cc nL own D mc ms) {idx ci kf a : Nat} {τ' : Tau} (hd : decode cc pc = .ok (.putfield idx, 3)) (hf : FL own idx ci kf desc fin) (hfin : fin = false ∨ (fin = true ∧ (xh X).name = "<init>" ∧ ∃ T N, vwCl[ci]? = some (own, T, N))) (hty : (∃ C, parseFieldDescriptor desc = some (.object C)) ∨ ∃ t, parseFieldDescriptor desc = some (.array t)) (e : dR τ ci a kf r = some τ') (kk : G K X nL k n (pc + 3) L S (τ', σ, nx)) : G K X nL k n pc L (va_rf r :: .ref a :: S) (τ, σ, nx) := by
  obtain ⟨r0, h0, e⟩ := ob e
  obtain ⟨rs, h1, h2⟩ := gR_some h0
  cases e
  exact g_putR hF hd hf hfin h1 h2 hty kk
theorem g_dild (hF : Fx K X cc nL own D mc ms) {a : Nat} {i v : Int32} (hd : decode cc pc = .ok (.iaload, 1)) (e : ldD τ σ a i = some v) (kk : G K X nL k n (pc + 1) L (.int v :: S) (τ, σ, nx)) : G K X nL k n pc L (.int i :: .ref a :: S) (τ, σ, nx) := by
  obtain ⟨N, h1, h2⟩ := ldD_some e
  exact g_ild hF hd h1 h2 kk
theorem g_dist (hF : Fx K X cc nL own D mc ms) {a : Nat} {i v : Int32} {σ' : Sig} (hd : decode cc pc = .ok (.iastore, 1)) (e : stD τ σ a i v = some σ') (kk : G K X nL k n (pc + 1) L S (τ, σ', nx)) : G K X nL k n pc L (.int v :: .int i :: .ref a :: S) (τ, σ, nx) := by
  obtain ⟨N, h1, h2⟩ := stD_some e
  exact g_ist hF hd h1 h2 kk
theorem g_dlen (hF : Fx K X cc nL own D mc ms) {a : Nat} {v : Int32} (hd : decode cc pc = .ok (.arraylength, 1)) (e : lnD τ a = some v) (kk : G K X nL k n (pc + 1) L (.int v :: S) (τ, σ, nx)) : G K X nL k n pc L (.ref a :: S) (τ, σ, nx) := by
  obtain ⟨N, h1, h2⟩ := lnD_some e
  exact g_alen hF hd h1 h2 kk
theorem g_dlnR (hF : Fx K X cc nL own D mc ms) {a ci tj : Nat} {C : String} {v : Int32} (htk : (tysK K)[tj]? = some (kR K ci, .object C)) (hd : decode cc pc = .ok (.arraylength, 1)) (e : lnR τ ci a = some v) (kk : G K X nL k n (pc + 1) L (.int v :: S) (τ, σ, nx)) : G K X nL k n pc L (.ref a :: S) (τ, σ, nx) := by
  obtain ⟨N, f, h1, h2⟩ := lnR_some e
  exact g_ralen hF hd h1 htk h2 kk
theorem g_drld (hF : Fx K X cc nL own D mc ms) {a ci tj : Nat} {C : String} {i : Int32} {r : Option Nat} (htk : (tysK K)[tj]? = some (kR K ci, .object C)) (hd : decode cc pc = .ok (.aaload, 1)) (e : ldrD τ ci a i = some r) (kk : G K X nL k n (pc + 1) L (va_rf r :: S) (τ, σ, nx)) : G K X nL k n pc L (.int i :: .ref a :: S) (τ, σ, nx) := by
  obtain ⟨N, f, h1, h2⟩ := ldrD_some e
  exact g_rld hF hd h1 htk h2 kk
theorem g_drst (r : Option Nat) (hF : Fx K X cc nL own D mc ms) {a ci tj : Nat} {C : String} {T : u_T} {M : Nat} {i : Int32} {τ' : Tau} (htk : (tysK K)[tj]? = some (kR K ci, .object C)) (hcl : vwCl[ci]? = some (C, T, M)) (hd : decode cc pc = .ok (.aastore, 1)) (e : strD τ ci a i r = some τ') (kk : G K X nL k n (pc + 1) L S (τ', σ, nx)) : G K X nL k n pc L (va_rf r :: .int i :: .ref a :: S) (τ, σ, nx) := by
  obtain ⟨N, f, h1, ho, h2⟩ := strD_some e
  cases r with
  | none => exact g_rstN hF hd h1 htk h2 kk
  | some b =>
    unfold isOb at ho
    dsimp only at ho
    split at ho
    · next c rs hb =>
      have hc : c = ci := by simpa using ho
      subst hc
      exact g_rst hF hd h1 htk hb hcl h2 kk
    · cases ho
theorem g_dcopy (hF : Fx K X cc nL own D mc ms) {idx a0 a1 : Nat} {sp dp m : Int32} {σ' : Sig} (hlk : Cond.methodLink own idx arraycopyName ∈ gtb) (hd : decode cc pc = .ok (.invokestatic idx, 3)) (e : cpD τ σ a0 sp a1 dp m = some σ') (hD : 1 ≤ D) (hS : (S.map fun v => v.category).sum ≤ 8)
    (kk : G K X nL k n (pc + 3) L S (τ, σ', nx)) : G K X nL k n pc L (.int m :: .int dp :: .ref a1 :: .int sp :: .ref a0 :: S) (τ, σ, nx) := by
  obtain ⟨n0, n1, h0, h1, h2⟩ := cpD_some e
  exact g_copy hF hlk hd h0 h1 h2 hD hS kk
end DY
theorem g_ifnlO {K : Kt} {X : Cx} {cc : ByteArray} {nL : Nat} {own : String} {D mc ms k n pc : Nat} {L : Lo} {S : List Value} {h : Hp} (r : Option Nat) (hF : Fx K X cc nL own D mc ms) {off : Int} {tgt : Nat} (hd : decode cc pc = .ok (.ifnull off, 3)) (ht : (pc : Int) + off = (tgt : Int)) (k0 : r = none → G K X nL k n tgt L S h) (k1 : ∀ b, r = some b → G K X nL k n (pc + 3) L S h) : G K X nL k n pc L (va_rf r :: S) h := by
  cases r with
  | none => exact g_ifnullN hF hd ht (k0 rfl)
  | some b => exact g_ifnull hF hd (k1 b rfl)
theorem g_ifnnO {K : Kt} {X : Cx} {cc : ByteArray} {nL : Nat} {own : String} {D mc ms k n pc : Nat} {L : Lo} {S : List Value} {h : Hp} (r : Option Nat) (hF : Fx K X cc nL own D mc ms) {off : Int} {tgt : Nat} (hd : decode cc pc = .ok (.ifnonnull off, 3)) (ht : (pc : Int) + off = (tgt : Int)) (k0 : r = none → G K X nL k n (pc + 3) L S h) (k1 : ∀ b, r = some b → G K X nL k n tgt L S h) : G K X nL k n pc L (va_rf r :: S) h := by
  cases r with
  | none => exact g_ifnonnullN hF hd (k0 rfl)
  | some b => exact g_ifnonnull hF hd ht (k1 b rfl)

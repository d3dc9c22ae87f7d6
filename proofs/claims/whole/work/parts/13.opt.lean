/-! WHAT THE FUNCTIONS OF THE METHODS ARE MADE OF. -/
theorem ob {α β : Type} {x : Option α} {f : α → Option β} {r : β} (h : x.bind f = some r) : ∃ v, x = some v ∧ f v = some r := by
  cases x with
  | none => cases h
  | some v => exact ⟨v, rfl, h⟩
theorem oi {α : Type} {c : Prop} [Decidable c] {a b : Option α} {r : α} (h : (if c then a else b) = some r) : (c → a = some r) ∧ (¬ c → b = some r) := by
  split at h
  · next hc => exact ⟨fun _ => h, fun hn => absurd hc hn⟩
  · next hc => exact ⟨fun hp => absurd hp hc, fun _ => h⟩
/-- what must not be -/
theorem on {α : Type} {c : Prop} [Decidable c] {b : Option α} {r : α} (h : (if c then none else b) = some r) : ¬ c ∧ b = some r := by
  split at h
  · cases h
  · next hc => exact ⟨hc, h⟩
/-- what must be -/
theorem oy {α : Type} {c : Prop} [Decidable c] {b : Option α} {r : α} (h : (if c then b else none) = some r) : c ∧ b = some r := by
  split at h
  · next hc => exact ⟨hc, h⟩
  · cases h
/-- a shape that must be -/
noncomputable def chk {α : Type} (p : Prop) (x : Option α) : Option α := @ite _ p (Classical.propDecidable p) x none
theorem oc {α : Type} {p : Prop} {x : Option α} {r : α} (h : chk p x = some r) : p ∧ x = some r := by
  unfold chk at h
  by_cases hp : p
  · rw [if_pos hp] at h; exact ⟨hp, h⟩
  · rw [if_neg hp] at h; cases h
theorem chk_pos {α : Type} {p : Prop} {x : Option α} (h : p) : chk p x = x := by unfold chk; rw [if_pos h]
/-- how often a loop may go round -/
def FU : Nat := 30000
theorem en_i {K : Kt} {X : Cx} {ret : Option FieldType} {mc ms : Nat} {x r : Int32} {h : Hp} (H : some x = some r) (hE : En K X ret mc ms (some (.int r)) h) : En K X ret mc ms (some (.int x)) h := by cases H; exact hE
theorem en_v {K : Kt} {X : Cx} {ret : Option FieldType} {mc ms : Nat} {τ : Tau} {nx : Nat} {s t : Sig} (H : some s = some t) (hE : En K X ret mc ms none (τ, t, nx)) : En K X ret mc ms none (τ, s, nx) := by cases H; exact hE
theorem en_p {K : Kt} {X : Cx} {ret : Option FieldType} {mc ms : Nat} {τ : Tau} {nx : Nat} {x r : Int32} {s t : Sig} (H : some (x, s) = some (r, t)) (hE : En K X ret mc ms (some (.int r)) (τ, t, nx)) : En K X ret mc ms (some (.int x)) (τ, s, nx) := by cases H; exact hE
theorem en_vh {K : Kt} {X : Cx} {ret : Option FieldType} {mc ms : Nat} {s t : Hp} (H : some s = some t) (hE : En K X ret mc ms none t) : En K X ret mc ms none s := by cases H; exact hE
theorem en_ph {K : Kt} {X : Cx} {ret : Option FieldType} {mc ms : Nat} {x r : Int32} {s t : Hp} (H : some (x, s) = some (r, t)) (hE : En K X ret mc ms (some (.int r)) t) : En K X ret mc ms (some (.int x)) s := by cases H; exact hE
theorem en_rh {K : Kt} {X : Cx} {ret : Option FieldType} {mc ms : Nat} {x r : Option Nat} {s t : Hp} (H : some (x, s) = some (r, t)) (hE : En K X ret mc ms (some (va_rf r)) t) : En K X ret mc ms (some (va_rf x)) s := by cases H; exact hE
/-- locals that count no more -/
def mkL : List Bool → Lo → Lo
  | true :: m, x :: L => x :: mkL m L
  | false :: m, _ :: L => none :: mkL m L
  | _, _ => []
theorem mkL_sub : ∀ (m : List Bool) (L : Lo) (i : Nat) (v : Value), (mkL m L)[i]? = some (some v) → L[i]? = some (some v)
  | [], L, i, v, h => by simp [mkL] at h
  | true :: m, [], i, v, h => by simp [mkL] at h
  | false :: m, [], i, v, h => by simp [mkL] at h
  | true :: m, x :: L, 0, v, h => by simpa [mkL] using h
  | false :: m, x :: L, 0, v, h => by simp [mkL] at h
  | true :: m, x :: L, i + 1, v, h => by simp only [mkL, List.getElem?_cons_succ] at h ⊢; exact mkL_sub m L i v h
  | false :: m, x :: L, i + 1, v, h => by simp only [mkL, List.getElem?_cons_succ] at h ⊢; exact mkL_sub m L i v h
theorem g_m {K : Kt} {X : Cx} {nL k n pc : Nat} {L L' : Lo} {S : List Value} {h : Hp} (m : List Bool) (hL : mkL m L = L') (kk : G K X nL k n pc L' S h) : G K X nL k n pc L S h := g_drop (fun i v hv => mkL_sub m L i v (by rw [hL]; exact hv)) kk
theorem al0 {α : Type} {p : α → Prop} : ∀ c ∈ ([] : List α), p c := fun _ h => by cases h
theorem al1 {α : Type} {p : α → Prop} {a : α} {l : List α} (h1 : p a) (h2 : ∀ c ∈ l, p c) : ∀ c ∈ a :: l, p c := List.forall_mem_cons.mpr ⟨h1, h2⟩
theorem tsw_l {x : Int32} (lo hi : Int) (m : Nat) (cs : List Int32) (hc : ∀ c ∈ cs, ¬ x = c) (hm : ∀ j : Nat, j < m → ∃ c ∈ cs, c.toInt = lo + j) (hh : lo + m = hi + 1) : x.toInt < lo ∨ hi < x.toInt := by
  rcases tsw_out (x := x) lo m (fun j hj e => by
    obtain ⟨c, h1, h2⟩ := hm j hj
    exact hc c h1 (Int32.toInt_inj.mp (e.trans h2.symm))) with h | h
  · exact Or.inl h
  · exact Or.inr (by omega)
/-- a store of an int field -/
def pI (σ : Sig) (a k : Nat) (v : Int32) : Option Sig := some (wr σ a k v)
theorem g_pI {K : Kt} {X : Cx} {cc : ByteArray} {nL : Nat} {own : String} {D mc ms k n pc : Nat} {L : Lo} {S : List Value} {τ : Tau} {σ σ' : Sig} {nx : Nat} {fin : Bool} (hF : Fx K X cc nL own D mc ms) {idx ci kf a : Nat} (hd : decode cc pc = .ok (.putfield idx, 3)) (hf : FL own idx ci kf "I" fin) (hfin : fin = false ∨ (fin = true ∧ (xh X).name = "<init>" ∧ ∃ T N, vwCl[ci]? = some (own, T, N))) {rs : List (Option (Option Nat))} (hs : τ a = some (.inl (ci, rs))) (hr : rs[kf]? = some none) {v : Int32} (e : pI σ a kf v = some σ')
    (kk : G K X nL k n (pc + 3) L S (τ, σ', nx)) : G K X nL k n pc L (.int v :: .ref a :: S) (τ, σ, nx) := by
  cases e; exact g_putI hF hd hf hfin hs hr (Or.inl rfl) kk
def pZ (σ : Sig) (a k : Nat) (v : Int32) : Option Sig := if v = 0 ∨ v = 1 then some (wr σ a k v) else none
theorem g_pZ {K : Kt} {X : Cx} {cc : ByteArray} {nL : Nat} {own : String} {D mc ms k n pc : Nat} {L : Lo} {S : List Value} {τ : Tau} {σ σ' : Sig} {nx : Nat} {fin : Bool} (hF : Fx K X cc nL own D mc ms) {idx ci kf a : Nat} (hd : decode cc pc = .ok (.putfield idx, 3)) (hf : FL own idx ci kf "Z" fin) (hfin : fin = false ∨ (fin = true ∧ (xh X).name = "<init>" ∧ ∃ T N, vwCl[ci]? = some (own, T, N))) {rs : List (Option (Option Nat))} (hs : τ a = some (.inl (ci, rs))) (hr : rs[kf]? = some none) {v : Int32} (e : pZ σ a kf v = some σ')
    (kk : G K X nL k n (pc + 3) L S (τ, σ', nx)) : G K X nL k n pc L (.int v :: .ref a :: S) (τ, σ, nx) := by
  obtain ⟨hv, e⟩ := oy e
  cases e; exact g_putI hF hd hf hfin hs hr (Or.inr ⟨rfl, hv⟩) kk

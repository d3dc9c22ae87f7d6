/-! THE MINI HEAP: shapes (which cell an address is, and its references), ints (fields and elements by address and place), the next free address. -/
abbrev Sh : Type := (Nat × List (Option (Option Nat))) ⊕ (Nat ⊕ (Nat × Nat × (Nat → Option Nat)))
abbrev Tau : Type := Nat → Option Sh
abbrev Sig : Type := Nat → Nat → Int32
abbrev Hp : Type := Tau × Sig × Nat
/-- the constants of a run: class ids, field places, class of int arrays, classes of arrays of references, first own address, the heap below it, two static arrays, the Strings -/
abbrev Kt : Type := (Nat → ClassId) × (Nat → Nat → Nat) × ClassId × (Nat → ClassId) × Nat × Heap × (Nat × Nat) × (Nat → Nat) × (Nat → Nat) × (Nat → Option (Nat × (Nat → Int32)))
abbrev kC (K : Kt) : Nat → ClassId := K.1
abbrev kD (K : Kt) : Nat → Nat → Nat := K.2.1
abbrev kI (K : Kt) : ClassId := K.2.2.1
abbrev kR (K : Kt) : Nat → ClassId := K.2.2.2.1
abbrev kB (K : Kt) : Nat := K.2.2.2.2.1
abbrev kH (K : Kt) : Heap := K.2.2.2.2.2.1
abbrev kT (K : Kt) : Nat := K.2.2.2.2.2.2.1.1
abbrev kS (K : Kt) : Nat := K.2.2.2.2.2.2.1.2
abbrev kK (K : Kt) : Nat → Nat := K.2.2.2.2.2.2.2.1
abbrev kV (K : Kt) : Nat → Nat := K.2.2.2.2.2.2.2.2.1
abbrev kX (K : Kt) : Nat → Option (Nat × (Nat → Int32)) := K.2.2.2.2.2.2.2.2.2
abbrev kA (K : Kt) : Nat → Prop := fun q => kB K ≤ q
def valOf (σ : Sig) (a k : Nat) (r : Option (Option Nat)) : Value := match r with
  | none => .int (σ a k)
  | some x => va_rf x
def cellOk (K : Kt) (τ : Tau) (σ : Sig) (H : Heap) (a : Nat) : Prop := match τ a with
  | none => True
  | some (.inl (ci, rs)) => (∃ r : vw_C, vwCl[ci]? = some r ∧ r.2.2 = rs.length) ∧ t_OB a (kC K ci) rs.length (kD K ci) H (fun k => valOf σ a k (rs.getD k none))
  | some (.inr (.inl N)) => H[a]? = some (arrV (kI K) N (fun j => .int (σ a j)))
  | some (.inr (.inr (ci, N, f))) => H[a]? = some (arrV (kR K ci) N (fun j => va_rf (f j)))
def Rel (K : Kt) (h : Hp) (H : Heap) : Prop := H.size = h.2.2 ∧ kB K ≤ h.2.2 ∧ (∀ a, cellOk K h.1 h.2.1 H a) ∧ (∀ a x, h.1 a = some x → kB K ≤ a ∧ a < h.2.2) ∧ ∀ q, q < kB K → H[q]? = (kH K)[q]?
/-- the Strings of the claim: class, pool index, text -/
def strTab : List (String × Nat × String) := [("SilenceForMoney$Reader", 109, "when or and not word loud sort hour night feast child"), ("SilenceForMoney$Reader", 111, "when or and not talk work hush hour quarter day night feast owes owed with"), ("SilenceForMoneyModel", 130, "when"), ("SilenceForMoneyModel", 132, "or"), ("SilenceForMoneyModel", 134, "and"), ("SilenceForMoneyModel", 136, "not"), ("SilenceForMoneyModel", 138, "hour"), ("SilenceForMoneyModel", 140, "night"), ("SilenceForMoneyModel", 142, "feast"), ("SilenceForMoneyModel", 102, "word"), ("SilenceForMoneyModel", 108, "loud"), ("SilenceForMoneyModel", 110, "sort"), ("SilenceForMoneyModel", 112, "child"), ("SilenceForMoneyModel", 114, "talk"), ("SilenceForMoneyModel", 116, "work"), ("SilenceForMoneyModel", 118, "hush"), ("SilenceForMoneyModel", 120, "quarter"), ("SilenceForMoneyModel", 122, "day"), ("SilenceForMoneyModel", 124, "owes"), ("SilenceForMoneyModel", 126, "owed"), ("SilenceForMoneyModel", 128, "with")]
def strLen : List Nat := [53, 74, 4, 2, 3, 3, 4, 5, 5, 4, 4, 4, 5, 4, 4, 4, 7, 3, 4, 4, 4]
def strByt : List (List Int32) := [[119, 104, 101, 110, 32, 111, 114, 32, 97, 110, 100, 32, 110, 111, 116, 32, 119, 111, 114, 100, 32, 108, 111, 117, 100, 32, 115, 111, 114, 116, 32, 104, 111, 117, 114, 32, 110, 105, 103, 104, 116, 32, 102, 101, 97, 115, 116, 32, 99, 104, 105, 108, 100], [119, 104, 101, 110, 32, 111, 114, 32, 97, 110, 100, 32, 110, 111, 116, 32, 116, 97, 108, 107, 32, 119, 111, 114, 107, 32, 104, 117, 115, 104, 32, 104, 111, 117, 114, 32, 113, 117, 97, 114, 116, 101, 114, 32, 100, 97, 121, 32, 110, 105, 103, 104, 116, 32, 102, 101, 97, 115, 116, 32, 111, 119, 101, 115, 32, 111, 119, 101, 100, 32, 119, 105, 116, 104], [119, 104, 101, 110], [111, 114], [97, 110, 100], [110, 111, 116], [104, 111, 117, 114], [110, 105, 103, 104, 116], [102, 101, 97, 115, 116], [119, 111, 114, 100], [108, 111, 117, 100], [115, 111, 114, 116], [99, 104, 105, 108, 100], [116, 97, 108, 107], [119, 111, 114, 107], [104, 117, 115, 104], [113, 117, 97, 114, 116, 101, 114], [100, 97, 121], [111, 119, 101, 115], [111, 119, 101, 100], [119, 105, 116, 104]]
def isNest : Cond → Bool
  | .methodLinkNest _ _ _ _ => true
  | .castable _ _ => true
  | _ => false
def tysK (K : Kt) : List (ClassId × FieldType) := [(kI K, .int), (kR K 0, .object RX0), (kR K 7, .object RX7)]
def extOk (K : Kt) (U : State) : Prop := ∀ a N f, kX K a = some (N, f) → va_T .int a N (fun j => .int (f j)) (kA K) U (kH K)
def tellMost : Nat → Int32 := fun j => ([5, 99, 1000, 4, 99999] : List Int32).getD j 0
def setMost : Nat → Int32 := fun j => ([0, 99, 1000, 2, 99, 1, 9999, 95] : List Int32).getD j 0
/-- the two static arrays and the Strings -/
def Kz (K : Kt) (U : State) : Prop := va_Z RX11 "TELL_MOST" "[I" (.ref (kT K)) (kA K) U (kH K) ∧ va_Z RX11 "SET_MOST" "[I" (.ref (kS K)) (kA K) U (kH K) ∧ kX K (kT K) = some (5, tellMost) ∧ kX K (kS K) = some (8, setMost) ∧ vk_S 21 strLen strByt (kK K) (kV K) (kA K) U (kH K) ∧ (∀ (i : Nat) (q : String × Nat × String), strTab[i]? = some q → vk_R q.1 q.2.1 q.2.2 (kK K i) U) ∧ va_AO RX0 U ∧ va_AO RX7 U ∧ va_Z RJ0 "COMPACT_STRINGS" "Z" (.int 1) (kA K) U (kH K) ∧ va_Zq RJ3 "SIOOBE_FORMATTER" "Ljava/util/function/BiFunction;" (kA K) U (kH K)
def Kx (K : Kt) (U : State) : Prop := va_K (kC K, kD K) vwCl (tysK K) U ∧ (∀ w ∈ lw_tbl, isNest w = true → va_Nw w U) ∧ (kH K).size = kB K ∧ extOk K U ∧ Kz K U
theorem Kx.warm {K : Kt} {s U : State} (hW : s.WarmedH U.vm) (h : Kx K s) : Kx K U := by
  obtain ⟨h1, h2, h3, h4, z1, z2, z3, z4, z5, z6, z7, z8, z9, z10⟩ := h
  refine ⟨va_K.moved hW.alike h1, fun w hw hn => ?_, h3, fun a N f ha => (h4 a N f ha).moved hW.alike, z1.moved hW.alike, z2.moved hW.alike, z3, z4, z5.moved hW.alike, fun i q hq => (z6 i q hq).warm hW, z7.moved hW.alike, z8.moved hW.alike, z9.moved hW.alike, z10.moved hW.alike⟩
  cases w <;> first | exact va_Nw.warmM hW (h2 _ hw hn) | exact va_Nw.warmC hW (h2 _ hw hn) | (simp [isNest] at hn)
theorem Kx.same {K : Kt} {s U : State} (hv : s.vm = U.vm) (h : Kx K s) : Kx K U := by
  have ha : s.vm.Alike U.vm := by rw [hv]; exact Vm.Alike.refl _
  obtain ⟨h1, h2, h3, h4, z1, z2, z3, z4, z5, z6, z7, z8, z9, z10⟩ := h
  refine ⟨va_K.moved ha h1, fun w hw hn => ?_, h3, fun a N f hx => (h4 a N f hx).moved ha, z1.moved ha, z2.moved ha, z3, z4, z5.moved ha, fun i q hq => (z6 i q hq).same hv.symm, z7.moved ha, z8.moved ha, z9.moved ha, z10.moved ha⟩
  exact va_Nw.same (by cases w <;> first | rfl | (simp [isNest] at hn)) hv (h2 _ hw hn)
abbrev Cx : Type := Program × Launch × Env × Room × State × MethodId × Array Value × List Frame × Method × Code × (State → Prop)
abbrev xp (X : Cx) : Program := X.1
abbrev xl (X : Cx) : Launch := X.2.1
abbrev xe (X : Cx) : Env := X.2.2.1
abbrev xR (X : Cx) : Room := X.2.2.2.1
abbrev xs (X : Cx) : State := X.2.2.2.2.1
abbrev xm (X : Cx) : MethodId := X.2.2.2.2.2.1
abbrev xa (X : Cx) : Array Value := X.2.2.2.2.2.2.1
abbrev xb (X : Cx) : List Frame := X.2.2.2.2.2.2.2.1
abbrev xh (X : Cx) : Method := X.2.2.2.2.2.2.2.2.1
abbrev xc (X : Cx) : Code := X.2.2.2.2.2.2.2.2.2.1
abbrev xQ (X : Cx) : State → Prop := X.2.2.2.2.2.2.2.2.2.2
abbrev Lo : Type := List (Option Value)
def lh (ls : Array Slot) (nL : Nat) (L : Lo) : Prop := ls.size = nL ∧ lv_wf ls ∧ ∀ (i : Nat) (v : Value), L[i]? = some (some v) → ls[i]? = some (.val v) ∧ v.category = 1
abbrev Wx (X : Cx) (H : Heap) (locs : List Loc) (k n : Nat) (g : JFrame) : Prop := W (xp X) (xl X) (xe X) (xR X) (xs X) (xm X) (xa X) (xb X) (xh X) (xc X) H locs k n (xQ X) g
/-- THE JUDGEMENT: from every machine state that shows this mini heap, these locals and this stack at pc, the machine comes to a state with Q -/
def G (K : Kt) (X : Cx) (nL k n pc : Nat) (L : Lo) (S : List Value) (h : Hp) : Prop :=
  ∀ (H : Heap) (locs : List Loc) (ls : Array Slot), Rel K h H → (∀ q ∈ locs, kB K ≤ q.base) → lh ls nL L → Wx X H locs k n (F0 (xm X) pc ls S)
/-- what holds throughout a method -/
def Fx (K : Kt) (X : Cx) (cc : ByteArray) (nL : Nat) (own : String) (D mc ms : Nat) : Prop :=
  (xp X).tables.exec = Jvm.exec ∧ (xc X).code = cc ∧ (xc X).maxLocals = nL ∧ (xs X).vm.findClass own = some (xm X).cls ∧ (∀ w ∈ gtb, w.before (xa X) (xs X) = true) ∧ Kx K (xs X) ∧ (xh X).locks = false ∧ D ≤ (xR X).frames ∧ 64 * D ≤ (xR X).locals ∧ mc ≤ (xR X).cells ∧ ms ≤ (xR X).slots
section FX
variable {K : Kt} {X : Cx} {cc : ByteArray} {nL : Nat} {own : String} {D mc ms : Nat}
theorem Fx.ex (h : Fx K X cc nL own D mc ms) : (xp X).tables.exec = Jvm.exec := h.1
theorem Fx.co (h : Fx K X cc nL own D mc ms) : (xc X).code = cc := h.2.1
theorem Fx.ml (h : Fx K X cc nL own D mc ms) : (xc X).maxLocals = nL := h.2.2.1
theorem Fx.ow (h : Fx K X cc nL own D mc ms) : (xs X).vm.findClass own = some (xm X).cls := h.2.2.2.1
theorem Fx.ts (h : Fx K X cc nL own D mc ms) : ∀ w ∈ gtb, w.before (xa X) (xs X) = true := h.2.2.2.2.1
theorem Fx.kx (h : Fx K X cc nL own D mc ms) : Kx K (xs X) := h.2.2.2.2.2.1
theorem Fx.lk (h : Fx K X cc nL own D mc ms) : (xh X).locks = false := h.2.2.2.2.2.2.1
theorem Fx.fr (h : Fx K X cc nL own D mc ms) : D ≤ (xR X).frames := h.2.2.2.2.2.2.2.1
theorem Fx.lo (h : Fx K X cc nL own D mc ms) : 64 * D ≤ (xR X).locals := h.2.2.2.2.2.2.2.2.1
theorem Fx.ce (h : Fx K X cc nL own D mc ms) : mc ≤ (xR X).cells := h.2.2.2.2.2.2.2.2.2.1
theorem Fx.sl (h : Fx K X cc nL own D mc ms) : ms ≤ (xR X).slots := h.2.2.2.2.2.2.2.2.2.2
end FX
/-- a method's contract: with these arguments over this mini heap it returns r, and the mini heap is h' -/
def Qcc (K : Kt) (r : Option Value) (h' : Hp) : Array Value → State → Outcome → State → Prop := fun _ _ o t => o = .returned r ∧ Rel K h' t.heap
def Pcc (K : Kt) (A : List Value) (h : Hp) : Array Value → State → Prop := fun v U => v = A.toArray ∧ Rel K h U.heap ∧ Kx K U
def OkK (D mc ms : Nat) (y : MethodName) (cc : ByteArray) (nL : Nat) (ret : Option FieldType) (K : Kt) (A : List Value) (h : Hp) (r : Option Value) (h' : Hp) : Prop :=
  ∀ (l : Launch), Met l y (.code y cc nL ret :: gtb) { frames := D, cells := mc, slots := ms, locals := 64 * D } (Pcc K A h) (Qcc K r h') mc ms (kA K)
def Ok (D mc ms : Nat) (y : MethodName) (cc : ByteArray) (nL : Nat) (ret : Option FieldType) (A : List Value) (h : Hp) (r : Option Value) (h' : Hp) : Prop := ∀ K : Kt, OkK D mc ms y cc nL ret K A h r h'
/-- a method's end -/
def En (K : Kt) (X : Cx) (ret : Option FieldType) (mc ms : Nat) (r : Option Value) (h' : Hp) : Prop :=
  xQ X = MQ (xb X) (Qcc K r h') (xa X) (xs X) mc ms (kA K) ∧ (xh X).sig.returnType = ret
theorem lh_entry (A : List Value) {n : Nat} (hA : ∀ v ∈ A, v.category = 1) (hn : A.length ≤ n) (m : MethodId) : ∃ ls : Array Slot, entryFrame m A.toArray n = F0 m 0 ls [] ∧ lh ls n (A.map some ++ List.replicate (n - A.length) none) := by
  have hsl : ∀ B : List Value, (∀ v ∈ B, v.category = 1) → lg_sl B = B.map (fun v => .val v) := by
    intro B
    induction B with
    | nil => intro _; rfl
    | cons v vs ih =>
      intro h
      have h1 : v.category = 1 := h v (List.mem_cons_self)
      have h2 := ih (fun w hw => h w (List.mem_cons_of_mem _ hw))
      show (if v.category = 2 then [Slot.val v, Slot.second] else [Slot.val v]) ++ lg_sl vs = _
      rw [h1, h2]; rfl
  have hlen : (lg_sl A).length = A.length := by rw [hsl A hA, List.length_map]
  have hE := lv_entry A (n := n) (by rw [hlen]; exact hn)
  refine ⟨_, lg_entry_eq m A n, hE.1, hE.2.1, fun i v hv => ?_⟩
  have hi : i < A.length := by
    by_cases hi : i < A.length
    · exact hi
    · rw [List.getElem?_append_right (by rw [List.length_map]; omega)] at hv
      have := List.eq_of_mem_replicate (List.mem_of_getElem? hv)
      cases this
  rw [List.getElem?_append_left (by rw [List.length_map]; exact hi), List.getElem?_map] at hv
  have hv2 : A[i]? = some v := by
    cases hz : A[i]? with
    | none => rw [hz] at hv; cases hv
    | some z => rw [hz] at hv; simp at hv; rw [hv]
  refine ⟨?_, hA v (List.mem_of_getElem? hv2)⟩
  rw [List.getElem?_toArray, hsl A hA, List.getElem?_append_left (by rw [List.length_map]; exact hi), List.getElem?_map, hv2]
  rfl
theorem ok_ofK {K : Kt} {D mc ms : Nat} {y : MethodName} {cc : ByteArray} {nL : Nat} {ret : Option FieldType} {A : List Value} {h h' : Hp} {r : Option Value} (hy : plainName y.cls = true) (hA0 : (A.all fun v => v.category == 1) = true) (hn : A.length ≤ nL)
    (body : ∀ (X : Cx), Fx K X cc nL y.cls D mc ms → En K X ret mc ms r h' → (xh X).name = y.name → ∀ L0 : Lo, A.map some ++ List.replicate (nL - A.length) none = L0 → G K X nL 0 0 0 L0 [] h) : OkK D mc ms y cc nL ret K A h r h' := by
  have hA : ∀ v ∈ A, v.category = 1 := fun v hv => by have := List.all_eq_true.mp hA0 v hv; simpa using this
  intro l
  refine Met.ofW (cc := cc) (maxL := nL) (ret := ret) hy rfl ?_
  intro p e s m args below meth c s₁ B hml hv
  obtain ⟨rfl, hR, hKx⟩ := hv
  have hpre : ∀ w ∈ (Cond.code y cc nL ret :: gtb), w.before A.toArray s = true := atoms_spec (ws := Cond.code y cc nL ret :: gtb) B.pre
  have hb := body (p, l, e, (headSpec (Cond.code y cc nL ret :: gtb) { frames := D, cells := mc, slots := ms, locals := 64 * D }).room, s, m, A.toArray, below, meth, c, MQ below (Qcc K r h') A.toArray s mc ms (kA K))
    ⟨B.exec, B.bytes, hml, findClass_of_methodNamed B.named, fun w hw => hpre w (List.mem_cons_of_mem _ hw), hKx, B.notSynchronized, Nat.le_refl _, Nat.le_refl _, Nat.le_refl _, Nat.le_refl _⟩ ⟨rfl, B.returns⟩ (name_of_methodNamed B.named B.method).1
  obtain ⟨ls, hE, hls⟩ := lh_entry A hA hn m
  rw [hE]
  exact hb _ rfl s.heap [] ls hR (fun q hq => by cases hq) hls
theorem ok_of {D mc ms : Nat} {y : MethodName} {cc : ByteArray} {nL : Nat} {ret : Option FieldType} {A : List Value} {h h' : Hp} {r : Option Value} (hy : plainName y.cls = true) (hA0 : (A.all fun v => v.category == 1) = true) (hn : A.length ≤ nL)
    (body : ∀ (K : Kt) (X : Cx), Fx K X cc nL y.cls D mc ms → En K X ret mc ms r h' → (xh X).name = y.name → ∀ L0 : Lo, A.map some ++ List.replicate (nL - A.length) none = L0 → G K X nL 0 0 0 L0 [] h) : Ok D mc ms y cc nL ret A h r h' := fun K => ok_ofK hy hA0 hn (body K)

/-! STRAIGHT RUNS: a method's instructions as a list; what stands on the stack and in the locals alone is computed. -/
def lnI : List (Instr × Nat) → Nat
  | [] => 0
  | (_, n) :: r => n + lnI r
theorem sgB_drop {cc : ByteArray} : ∀ (j pc : Nat) (t : List (Instr × Nat)), sgB cc pc t = true → sgB cc (pc + lnI (t.take j)) (t.drop j) = true
  | 0, pc, t, h => by simpa [lnI] using h
  | j + 1, pc, [], h => by simp [lnI, sgB]
  | j + 1, pc, (i, n) :: r, h => by
    have h2 : sgB cc (pc + n) r = true := by simp [sgB] at h; exact h.2
    have h3 := sgB_drop j (pc + n) r h2
    simp only [List.take_succ_cons, List.drop_succ_cons, lnI]
    rw [← Nat.add_assoc]; exact h3
theorem sgB_take {cc : ByteArray} : ∀ (j pc : Nat) (t : List (Instr × Nat)), sgB cc pc t = true → sgB cc pc (t.take j) = true
  | 0, pc, t, h => by simp [sgB]
  | j + 1, pc, [], h => by simp [sgB]
  | j + 1, pc, (i, n) :: r, h => by
    simp [sgB] at h
    simp only [List.take_succ_cons, sgB, Bool.and_eq_true, decide_eq_true_eq]
    exact ⟨h.1, sgB_take j (pc + n) r h.2⟩
/-- the instruction at place j of the table -/
theorem dAt {cc : ByteArray} {t : List (Instr × Nat)} (h : sgB cc 0 t = true) (j : Nat) {pc : Nat} {q : Instr × Nat} (hp : lnI (t.take j) = pc) (hq : t[j]? = some q) : decode cc pc = .ok q := by
  have h1 := sgB_drop j 0 t h
  obtain ⟨hj, hz⟩ := List.getElem?_eq_some_iff.mp hq
  rw [List.drop_eq_getElem_cons hj, hz, Nat.zero_add, hp] at h1
  obtain ⟨i, n⟩ := q
  simp [sgB] at h1
  exact h1.1
def lget (L : Lo) (i : Nat) : Option Value := match L[i]? with
  | some (some v) => some v
  | _ => none
def px (i : Instr) (L : Lo) (S : List Value) : Option (Nat × Lo × List Value) := match i with
  | .iconst n => some (1, L, .int (Int32.ofInt n) :: S)
  | .bipush n => some (2, L, .int (Int8.ofInt n).toInt32 :: S)
  | .sipush n => some (3, L, .int (Int16.ofInt n).toInt32 :: S)
  | .aconst_null => some (1, L, .null :: S)
  | .iload_n k => (match lget L k.val with | some (.int x) => some (1, L, .int x :: S) | _ => none)
  | .iload k => (match lget L k with | some (.int x) => some (2, L, .int x :: S) | _ => none)
  | .aload_n k => (match lget L k.val with | some (.ref x) => some (1, L, .ref x :: S) | some .null => some (1, L, .null :: S) | _ => none)
  | .aload k => (match lget L k with | some (.ref x) => some (2, L, .ref x :: S) | some .null => some (2, L, .null :: S) | _ => none)
  | .istore_n k => (match S with | .int x :: S => if k.val < L.length then some (1, L.set k.val (some (.int x)), S) else none | _ => none)
  | .istore k => (match S with | .int x :: S => if k < L.length then some (2, L.set k (some (.int x)), S) else none | _ => none)
  | .astore_n k => (match S with | .ref x :: S => if k.val < L.length then some (1, L.set k.val (some (.ref x)), S) else none | .null :: S => if k.val < L.length then some (1, L.set k.val (some .null), S) else none | _ => none)
  | .astore k => (match S with | .ref x :: S => if k < L.length then some (2, L.set k (some (.ref x)), S) else none | .null :: S => if k < L.length then some (2, L.set k (some .null), S) else none | _ => none)
  | .iinc k n => (match lget L k with | some (.int x) => if k < L.length then some (3, L.set k (some (.int (x + Int32.ofInt n))), S) else none | _ => none)
  | .iadd => (match S with | .int y :: .int x :: S => some (1, L, .int (x + y) :: S) | _ => none)
  | .isub => (match S with | .int y :: .int x :: S => some (1, L, .int (x - y) :: S) | _ => none)
  | .imul => (match S with | .int y :: .int x :: S => some (1, L, .int (x * y) :: S) | _ => none)
  | .iand => (match S with | .int y :: .int x :: S => some (1, L, .int (x &&& y) :: S) | _ => none)
  | .ior => (match S with | .int y :: .int x :: S => some (1, L, .int (x ||| y) :: S) | _ => none)
  | .ixor => (match S with | .int y :: .int x :: S => some (1, L, .int (x ^^^ y) :: S) | _ => none)
  | .ishl => (match S with | .int y :: .int x :: S => some (1, L, .int (x <<< (y &&& 31)) :: S) | _ => none)
  | .ishr => (match S with | .int y :: .int x :: S => some (1, L, .int (x >>> (y &&& 31)) :: S) | _ => none)
  | .iushr => (match S with | .int y :: .int x :: S => some (1, L, .int (x.toUInt32 >>> (y.toUInt32 &&& Int32.toUInt32 31)).toInt32 :: S) | _ => none)
  | .dup => (match S with | .int x :: S => some (1, L, .int x :: .int x :: S) | .ref x :: S => some (1, L, .ref x :: .ref x :: S) | _ => none)
  | .pop => (match S with | .int _ :: S => some (1, L, S) | .ref _ :: S => some (1, L, S) | _ => none)
  | .dup2 => (match S with | .int y :: .ref x :: S => some (1, L, .int y :: .ref x :: .int y :: .ref x :: S) | _ => none)
  | _ => none
def pxs : List (Instr × Nat) → Lo → List Value → Option (Lo × List Value)
  | [], L, S => some (L, S)
  | (i, m) :: r, L, S => (match px i L S with | none => none | some (z, L', S') => if z = m then pxs r L' S' else none)
theorem lget_some {L : Lo} {i : Nat} {v : Value} (h : lget L i = some v) : L[i]? = some (some v) := by
  unfold lget at h
  split at h
  · next hq => rw [hq]; cases h; rfl
  · cases h
def lvOf (L : Lo) : List (Nat × Value) := (L.zipIdx).filterMap (fun q => match q.1 with | some v => some (q.2, v) | none => none)
theorem lvOf_mem {L : Lo} {q : Nat × Value} : q ∈ lvOf L ↔ L[q.1]? = some (some q.2) := by
  obtain ⟨i, v⟩ := q
  simp only [lvOf, List.mem_filterMap]
  constructor
  · rintro ⟨⟨z, j⟩, hm, hz⟩
    rw [List.mem_zipIdx_iff_getElem?] at hm
    cases z with
    | none => simp at hz
    | some w => simp at hz; obtain ⟨rfl, rfl⟩ := hz; exact hm
  · intro h
    exact ⟨(some v, i), by rw [List.mem_zipIdx_iff_getElem?]; exact h, rfl⟩
theorem lh.has {ls : Array Slot} {nL : Nat} {L : Lo} (h : lh ls nL L) : lv_has ls nL (lvOf L) := ⟨h.1, h.2.1, fun q hq => (h.2.2 q.1 q.2 (lvOf_mem.mp hq)).1⟩
theorem lh.at {ls : Array Slot} {nL : Nat} {L : Lo} {i : Nat} {v : Value} (h : lh ls nL L) (hv : lget L i = some v) : ls[i]? = some (.val v) := (h.2.2 i v (lget_some hv)).1
theorem lh.set {ls ls' : Array Slot} {nL : Nat} {L : Lo} {i : Nat} {v : Value} (h : lh ls nL L) (hc : v.category = 1) (h' : lv_has ls' nL ((i, v) :: (lvOf L).filter (fun q => !(q.1 == i) && !(q.1 + 1 == i && q.2.category == 2)))) : lh ls' nL (L.set i (some v)) := by
  refine ⟨h'.1, h'.2.1, fun j w hw => ?_⟩
  by_cases hj : i = j
  · subst hj
    rw [List.getElem?_set] at hw
    split at hw
    · split at hw
      · cases hw; exact ⟨h'.2.2 (i, v) List.mem_cons_self, hc⟩
      · cases hw
    · contradiction
  · rw [List.getElem?_set_ne hj] at hw
    have hcat := (h.2.2 j w hw).2
    refine ⟨h'.2.2 (j, w) (List.mem_cons_of_mem _ (List.mem_filter.mpr ⟨lvOf_mem.mpr hw, ?_⟩)), hcat⟩
    simp [Ne.symm hj, hcat]
section PX
variable {K : Kt} {X : Cx} {cc : ByteArray} {nL : Nat} {own : String} {D mc ms k n pc : Nat} {L L' : Lo} {S S' : List Value} {h : Hp}
set_option maxHeartbeats 4000000 in
theorem g_px (hF : Fx K X cc nL own D mc ms) (hn : L.length = nL) {i : Instr} {len : Nat} (hd : decode cc pc = .ok (i, len)) (hp : px i L S = some (len, L', S')) (kk : G K X nL k n (pc + len) L' S' h) : G K X nL k n pc L S h ∧ L'.length = nL := by
  have hx := hF.ex
  have hb := hF.co
  have stI : ∀ {i : Nat} {v : Value} {ls ls' : Array Slot}, i < L.length → v.category = 1 → lh ls nL L → lv_has ls' nL ((i, v) :: (lvOf L).filter (fun q => !(q.1 == i) && !(q.1 + 1 == i && q.2.category == 2))) → lh ls' nL (L.set i (some v)) := fun _ hc hl h' => hl.set hc h'
  unfold px at hp
  split at hp
  · cases hp; exact ⟨fun H locs ls hR hq hl => lv_iconst hx hb hd rfl (kk H locs ls hR hq hl), hn⟩
  · cases hp; exact ⟨fun H locs ls hR hq hl => lv_bipush hx hb hd rfl (kk H locs ls hR hq hl), hn⟩
  · cases hp; exact ⟨fun H locs ls hR hq hl => lv_sipush hx hb hd rfl (kk H locs ls hR hq hl), hn⟩
  · cases hp; exact ⟨fun H locs ls hR hq hl => lv_null hx hb hd (kk H locs ls hR hq hl), hn⟩
  · split at hp
    · next hg => cases hp; exact ⟨fun H locs ls hR hq hl => lv_iload_n hx hb hd rfl (hl.at hg) (kk H locs ls hR hq hl), hn⟩
    · cases hp
  · split at hp
    · next hg => cases hp; exact ⟨fun H locs ls hR hq hl => lv_iload hx hb hd (hl.at hg) (kk H locs ls hR hq hl), hn⟩
    · cases hp
  · split at hp
    · next hg => cases hp; exact ⟨fun H locs ls hR hq hl => lv_aload_n hx hb hd rfl (hl.at hg) (kk H locs ls hR hq hl), hn⟩
    · next hg => cases hp; exact ⟨fun H locs ls hR hq hl => lv_aload_nN hx hb hd rfl (hl.at hg) (kk H locs ls hR hq hl), hn⟩
    · cases hp
  · split at hp
    · next hg => cases hp; exact ⟨fun H locs ls hR hq hl => lv_aload hx hb hd (hl.at hg) (kk H locs ls hR hq hl), hn⟩
    · next hg => cases hp; exact ⟨fun H locs ls hR hq hl => lv_aloadN hx hb hd (hl.at hg) (kk H locs ls hR hq hl), hn⟩
    · cases hp
  · split at hp
    · split at hp
      · next hg => cases hp; exact ⟨fun H locs ls hR hq hl => lv_istore_n hx hb hd rfl hl.has (hn ▸ hg) rfl (fun ls' h' => kk H locs ls' hR hq (stI hg rfl hl h')), by rw [List.length_set]; exact hn⟩
      · cases hp
    · cases hp
  · split at hp
    · split at hp
      · next hg => cases hp; exact ⟨fun H locs ls hR hq hl => lv_istore hx hb hd hl.has (hn ▸ hg) rfl (fun ls' h' => kk H locs ls' hR hq (stI hg rfl hl h')), by rw [List.length_set]; exact hn⟩
      · cases hp
    · cases hp
  · split at hp
    · split at hp
      · next hg => cases hp; exact ⟨fun H locs ls hR hq hl => lv_astore_n hx hb hd rfl hl.has (hn ▸ hg) rfl (fun ls' h' => kk H locs ls' hR hq (stI hg rfl hl h')), by rw [List.length_set]; exact hn⟩
      · cases hp
    · split at hp
      · next hg => cases hp; exact ⟨fun H locs ls hR hq hl => lv_astore_nN hx hb hd rfl hl.has (hn ▸ hg) rfl (fun ls' h' => kk H locs ls' hR hq (stI hg rfl hl h')), by rw [List.length_set]; exact hn⟩
      · cases hp
    · cases hp
  · split at hp
    · split at hp
      · next hg => cases hp; exact ⟨fun H locs ls hR hq hl => lv_astore hx hb hd hl.has (hn ▸ hg) rfl (fun ls' h' => kk H locs ls' hR hq (stI hg rfl hl h')), by rw [List.length_set]; exact hn⟩
      · cases hp
    · split at hp
      · next hg => cases hp; exact ⟨fun H locs ls hR hq hl => lv_astoreN hx hb hd hl.has (hn ▸ hg) rfl (fun ls' h' => kk H locs ls' hR hq (stI hg rfl hl h')), by rw [List.length_set]; exact hn⟩
      · cases hp
    · cases hp
  · split at hp
    · next hg0 =>
      split at hp
      · next hg =>
        cases hp
        refine ⟨fun H locs ls hR hq hl => ?_, by rw [List.length_set]; exact hn⟩
        obtain ⟨j, hj⟩ := List.getElem?_of_mem (lvOf_mem (q := (_, _)).mpr (lget_some hg0))
        exact lv_iinc hx hb hd hl.has hj rfl (hn ▸ hg) rfl (fun ls' h' => kk H locs ls' hR hq (stI hg rfl hl h'))
      · cases hp
    · cases hp
  · split at hp
    · cases hp; exact ⟨fun H locs ls hR hq hl => lv_iadd hx hb hd (kk H locs ls hR hq hl), hn⟩
    · cases hp
  · split at hp
    · cases hp; exact ⟨fun H locs ls hR hq hl => lv_isub hx hb hd (kk H locs ls hR hq hl), hn⟩
    · cases hp
  · split at hp
    · cases hp; exact ⟨fun H locs ls hR hq hl => lv_imul hx hb hd (kk H locs ls hR hq hl), hn⟩
    · cases hp
  · split at hp
    · cases hp; exact ⟨fun H locs ls hR hq hl => lv_iand hx hb hd (kk H locs ls hR hq hl), hn⟩
    · cases hp
  · split at hp
    · cases hp; exact ⟨fun H locs ls hR hq hl => lv_ior hx hb hd (kk H locs ls hR hq hl), hn⟩
    · cases hp
  · split at hp
    · cases hp; exact ⟨fun H locs ls hR hq hl => lv_ixor hx hb hd (kk H locs ls hR hq hl), hn⟩
    · cases hp
  · split at hp
    · cases hp; exact ⟨fun H locs ls hR hq hl => lv_ishl hx hb hd (kk H locs ls hR hq hl), hn⟩
    · cases hp
  · split at hp
    · cases hp; exact ⟨fun H locs ls hR hq hl => lv_ishr hx hb hd (kk H locs ls hR hq hl), hn⟩
    · cases hp
  · split at hp
    · cases hp; exact ⟨fun H locs ls hR hq hl => lv_iushr hx hb hd rfl (kk H locs ls hR hq hl), hn⟩
    · cases hp
  · split at hp
    · cases hp; exact ⟨fun H locs ls hR hq hl => lv_dup hx hb hd rfl (kk H locs ls hR hq hl), hn⟩
    · cases hp; exact ⟨fun H locs ls hR hq hl => lv_dup hx hb hd rfl (kk H locs ls hR hq hl), hn⟩
    · cases hp
  · split at hp
    · cases hp; exact ⟨fun H locs ls hR hq hl => lv_pop hx hb hd rfl (kk H locs ls hR hq hl), hn⟩
    · cases hp; exact ⟨fun H locs ls hR hq hl => lv_pop hx hb hd rfl (kk H locs ls hR hq hl), hn⟩
    · cases hp
  · split at hp
    · cases hp; exact ⟨fun H locs ls hR hq hl => lv_dup2_11 hx hb hd rfl rfl (kk H locs ls hR hq hl), hn⟩
    · cases hp
  · cases hp
/-- how long the locals are behind a run -/
theorem px_len {i : Instr} {z : Nat} {L L' : Lo} {S S' : List Value} (hp : px i L S = some (z, L', S')) : L'.length = L.length := by
  unfold px at hp
  repeat' split at hp
  all_goals first | (cases hp; done) | (cases hp; rfl) | (cases hp; simp)
theorem g_ps (hF : Fx K X cc nL own D mc ms) (kk : G K X nL k n pc L' S' h) : ∀ (is : List (Instr × Nat)) (pc0 : Nat) (L : Lo) (S : List Value), L.length = nL → sgB cc pc0 is = true → pxs is L S = some (L', S') → pc0 + lnI is = pc → G K X nL k n pc0 L S h
  | [], pc0, L, S, hn, hs, hp, he => by
    simp only [pxs, Option.some.injEq, Prod.mk.injEq] at hp
    obtain ⟨rfl, rfl⟩ := hp
    simp only [lnI, Nat.add_zero] at he
    subst he; exact kk
  | (i, m) :: r, pc0, L, S, hn, hs, hp, he => by
    simp only [sgB, Bool.and_eq_true, decide_eq_true_eq] at hs
    simp only [pxs] at hp
    split at hp
    · cases hp
    · next z L1 S1 hq =>
      split at hp
      · next hz =>
        subst hz
        exact (g_px hF hn hs.1 hq (g_ps hF kk r (pc0 + z) L1 S1 ((px_len hq).trans hn) hs.2 hp (by simp only [lnI] at he; omega))).1
      · cases hp
/-- A STRAIGHT RUN: m instructions from place j of the method's table on -/
theorem g_p {t : List (Instr × Nat)} (hF : Fx K X cc nL own D mc ms) (ht : sgB cc 0 t = true) (j m : Nat) {pc0 : Nat} (h0 : lnI (t.take j) = pc0) (hn : L.length = nL) (hp : pxs ((t.drop j).take m) L S = some (L', S')) (he : pc0 + lnI ((t.drop j).take m) = pc) (kk : G K X nL k n pc L' S' h) : G K X nL k n pc0 L S h := by
  have h1 := sgB_drop j 0 t ht
  rw [Nat.zero_add, h0] at h1
  exact g_ps hF kk _ pc0 L S hn (sgB_take m pc0 _ h1) hp he
end PX

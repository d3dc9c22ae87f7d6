/-! STRING CONSTANTS: length() and charAt(). -/
def slen (w : Nat) : Int32 := Int32.ofNat (strLen.getD w 0)
def sch (w : Nat) (i : Int32) : Option Int32 := ld (strLen.getD w 0) (fun j => (strByt.getD w []).getD j 0) i
theorem str_fits : ∀ w, w < 21 → ∀ j, j < strLen.getD w 0 → 0 ≤ (strByt.getD w []).getD j 0 ∧ (strByt.getD w []).getD j 0 < 128 := by decide +kernel
theorem str_len : ∀ w, w < 21 → strLen.getD w 0 < 100 := by decide +kernel
section SR
variable {K : Kt} {X : Cx} {cc : ByteArray} {nL : Nat} {own : String} {D mc ms k n pc : Nat} {L : Lo} {S : List Value} {h : Hp} {w : Nat}
theorem Fx.vs (hF : Fx K X cc nL own D mc ms) : vk_S 21 strLen strByt (kK K) (kV K) (kA K) (xs X) (kH K) := hF.kx.2.2.2.2.2.2.2.2.1
theorem Rel.low {H : Heap} (hR : Rel K h H) : ∀ a : Nat, a < (kH K).size → ¬ kA K a → H[a]? = (kH K)[a]? := fun a _ h2 => hR.2.2.2.2 a (Nat.not_le.mp h2)
theorem g_sfld (hF : Fx K X cc nL own D mc ms) {idx q : Nat} {nm de : String} {v : Value} (hd : decode cc pc = .ok (.getfield idx, 3)) (hlk : Cond.fieldLink own idx RJ0 nm de ∈ gtb) (hE : va_OF RJ0 nm de v q (kA K) (xs X) (kH K)) (kk : G K X nL k n (pc + 3) L (v :: S) h) : G K X nL k n pc L (.ref q :: S) h := by
  intro H locs ls hR hq hl
  obtain ⟨cf, k', fi, f, cell, h1, h2, h3, h4, h5, h6⟩ := hE.kept hR.low
  exact W.getf hF.ex hF.co hF.ow (hF.ts _ hlk) h1 h2 h3 h4 (v := v) h5 rfl rfl hd (kk H locs ls hR hq hl)
theorem g_sblen (hF : Fx K X cc nL own D mc ms) {t N : Nat} {f : Nat → Value} (hd : decode cc pc = .ok (.arraylength, 1)) (hT : va_T .byte t N f (kA K) (xs X) (kH K)) (kk : G K X nL k n (pc + 1) L (.int (Int32.ofNat N) :: S) h) : G K X nL k n pc L (.ref t :: S) h := by
  intro H locs ls hR hq hl
  obtain ⟨cell, c1, c2, c3, c4, c5, c6, c7⟩ := hT.kept hR.low
  exact W.alen (n := Int32.ofNat N) hF.ex hF.co c1 c2 c5 rfl rfl hd (kk H locs ls hR hq hl)
theorem g_sbld (hF : Fx K X cc nL own D mc ms) {t N : Nat} {f : Nat → Int32} {i v : Int32} (hd : decode cc pc = .ok (.baload, 1)) (hT : va_T .byte t N (fun j => .int (f j)) (kA K) (xs X) (kH K)) (hv : ld N f i = some v) (kk : G K X nL k n (pc + 1) L (.int v :: S) h) : G K X nL k n pc L (.int i :: .ref t :: S) h := by
  intro H locs ls hR hq hl
  obtain ⟨hin, rfl⟩ := ld_some hv
  have hlt : i.toNatClampNeg < N := Nat.not_le.mp fun q => hin (Or.inr q)
  obtain ⟨cell, c1, c2, c3, c4, c5, c6, c7⟩ := hT.kept hR.low
  exact W.bald (v := .int (f i.toNatClampNeg)) hF.ex hF.co c1 c2 c3 (fun q => hin (q.elim Or.inl (fun z => Or.inr (Nat.le_trans c4 z)))) (c6 _ hlt) rfl rfl hd (kk H locs ls hR hq hl)
theorem g_i2c (hF : Fx K X cc nL own D mc ms) {x v : Int32} (hd : decode cc pc = .ok (.i2c, 1)) (hv : (x.toUInt32 % 65536).toInt32 = v) (kk : G K X nL k n (pc + 1) L (.int v :: S) h) : G K X nL k n pc L (.int x :: S) h :=
  fun H locs ls hR hq hl => lv_i2c hF.ex hF.co hd hv (kk H locs ls hR hq hl)
theorem g_nret (hF : Fx K X cc nL own D mc ms) {v : Int32} {ty : FieldType} (hE : En K X (some ty) mc ms (some (.int v)) h) (hn : narrow ty (.int v) = .int v) (hd : decode cc pc = .ok (.ireturn, 1)) (h1 : k ≤ mc) (h2 : n ≤ ms) : G K X nL k n pc L [.int v] h := by
  intro H locs ls hR hq hl
  refine W.widen h1 h2 ?_
  rw [hE.1]
  exact W.zret hF.ex hF.co hE.2 hn (fun t ht _ => ⟨rfl, by rw [ht]; exact hR⟩) hq hd hF.lk
theorem srec (hF : Fx K X cc nL own D mc ms) (hw : w < 21) : ∀ H : Heap, Rel K h H → ∃ cellB : Cell, H[kK K w]? = some cellB ∧ cellB.vm.isStatics = false ∧ (xs X).vm.findClass "java/lang/String" = some cellB.cls := by
  intro H hR
  obtain ⟨cell, h1, h2, h3, -⟩ := (hF.vs.1 w hw).1.kept hR.low
  exact ⟨cell, h1, h2, h3⟩
end SR
theorem lkS38 : Cond.fieldLink RJ0 38 RJ0 "COMPACT_STRINGS" "Z" ∈ gtb := by decide +kernel
theorem lkS1053 : Cond.fieldLink RJ0 1053 RJ3 "SIOOBE_FORMATTER" "Ljava/util/function/BiFunction;" ∈ gtb := by decide +kernel
theorem lkS9 : Cond.fieldLink RJ0 9 RJ0 "value" "[B" ∈ gtb := by decide +kernel
theorem lkS15 : Cond.fieldLink RJ0 15 RJ0 "coder" "B" ∈ gtb := by decide +kernel
theorem J0_coder_ok {K : Kt} {D : Nat} {h : Hp} {w : Nat} (hw : w < 21) (hD : 1 ≤ D) : OkK D 0 0 yJ0_coder_7d493 cJ0_coder_7d493 1 (some .byte) K [.ref (kK K w)] h (some (.int 0)) h := by
  refine ok_ofK (by decide +kernel) rfl (Nat.le_of_ble_eq_true rfl) (fun X hF hE hN L0 hL0 => ?_)
  obtain rfl : [some (.ref (kK K w))] = L0 := hL0
  have hF : Fx K X cJ0_coder_7d493 1 RJ0 D 0 0 := hF
  refine g_sta hF (dAt tJ0_coder_7d493_ok 0 rfl rfl) lkS38 hF.kx.2.2.2.2.2.2.2.2.2.2.2.2.1 ?_
  refine g_if_eq hF (dAt tJ0_coder_7d493_ok 1 rfl rfl) rfl (fun c => absurd c (by decide)) (fun _ => ?_)
  refine g_p (S' := [.ref (kK K w)]) hF tJ0_coder_7d493_ok 2 1 rfl rfl rfl rfl ?_
  refine g_sfld hF (dAt tJ0_coder_7d493_ok 3 rfl rfl) lkS15 (hF.vs.1 w hw).2.1 ?_
  refine g_goto hF (dAt tJ0_coder_7d493_ok 4 rfl rfl) rfl ?_
  exact g_nret hF hE rfl (dAt tJ0_coder_7d493_ok 6 rfl rfl) (by decide) (by decide)
theorem J0_isLatin1_ok {K : Kt} {D : Nat} {h : Hp} {w : Nat} (hw : w < 21) (hD : 1 ≤ D) : OkK D 0 0 yJ0_isLatin1_aae02 cJ0_isLatin1_aae02 1 (some .boolean) K [.ref (kK K w)] h (some (.int 1)) h := by
  refine ok_ofK (by decide +kernel) rfl (Nat.le_of_ble_eq_true rfl) (fun X hF hE hN L0 hL0 => ?_)
  obtain rfl : [some (.ref (kK K w))] = L0 := hL0
  have hF : Fx K X cJ0_isLatin1_aae02 1 RJ0 D 0 0 := hF
  refine g_sta hF (dAt tJ0_isLatin1_aae02_ok 0 rfl rfl) lkS38 hF.kx.2.2.2.2.2.2.2.2.2.2.2.2.1 ?_
  refine g_if_eq hF (dAt tJ0_isLatin1_aae02_ok 1 rfl rfl) rfl (fun c => absurd c (by decide)) (fun _ => ?_)
  refine g_p (S' := [.ref (kK K w)]) hF tJ0_isLatin1_aae02_ok 2 1 rfl rfl rfl rfl ?_
  refine g_sfld hF (dAt tJ0_isLatin1_aae02_ok 3 rfl rfl) lkS15 (hF.vs.1 w hw).2.1 ?_
  refine g_if_ne hF (dAt tJ0_isLatin1_aae02_ok 4 rfl rfl) rfl (fun c => absurd rfl c) (fun _ => ?_)
  refine g_p (S' := [.int 1]) hF tJ0_isLatin1_aae02_ok 5 1 rfl rfl rfl rfl ?_
  refine g_goto hF (dAt tJ0_isLatin1_aae02_ok 6 rfl rfl) rfl ?_
  exact g_nret hF hE rfl (dAt tJ0_isLatin1_aae02_ok 8 rfl rfl) (by decide) (by decide)
theorem shr0 {N : Nat} (h : N < 100) : (Int32.ofNat N) >>> ((0 : Int32) &&& 31) = Int32.ofNat N := by
  have h1 : ∀ N, N < 100 → (Int32.ofNat N) >>> ((0 : Int32) &&& 31) = Int32.ofNat N := by decide +kernel
  exact h1 N h
theorem J0_length_ok {K : Kt} {D : Nat} {h : Hp} {w : Nat} (hw : w < 21) (hD : 2 ≤ D) : OkK D 0 0 yJ0_length_8abf5 cJ0_length_8abf5 1 (some .int) K [.ref (kK K w)] h (some (.int (slen w))) h := by
  refine ok_ofK (by decide +kernel) rfl (Nat.le_of_ble_eq_true rfl) (fun X hF hE hN L0 hL0 => ?_)
  obtain rfl : [some (.ref (kK K w))] = L0 := hL0
  have hF : Fx K X cJ0_length_8abf5 1 RJ0 D 0 0 := hF
  refine g_p (S' := [.ref (kK K w)]) hF tJ0_length_8abf5_ok 0 1 rfl rfl rfl rfl ?_
  refine g_sfld hF (dAt tJ0_length_8abf5_ok 1 rfl rfl) lkS9 (hF.vs.1 w hw).2.2.1 ?_
  refine g_sblen hF (dAt tJ0_length_8abf5_ok 2 rfl rfl) (hF.vs.1 w hw).2.2.2 ?_
  refine g_p (S' := [.ref (kK K w), .int (slen w)]) hF tJ0_length_8abf5_ok 3 1 rfl rfl rfl rfl ?_
  refine g_cV0 (S := [.int (slen w)]) hF (J0_coder_ok hw (Nat.le_refl _)) mbJ0_coder_7d493 mvJ0_coder_7d493 mlJ0_335 (by omega) (by decide) (dAt tJ0_length_8abf5_ok 4 rfl rfl) (srec hF hw) rfl rfl (Nat.le_of_ble_eq_true rfl) rfl rfl (by decide) (by decide) rfl ?_
  refine g_p (S' := [.int (slen w >>> ((0 : Int32) &&& 31))]) hF tJ0_length_8abf5_ok 5 1 rfl rfl rfl rfl ?_
  rw [show slen w >>> ((0 : Int32) &&& 31) = slen w from shr0 (str_len w hw)]
  exact g_iret hF hE (dAt tJ0_length_8abf5_ok 6 rfl rfl) (by decide) (by decide)
theorem J3_check_ok {D : Nat} {h : Hp} {i m : Int32} {r : Option Nat} (h0 : ¬ i < 0) (h1 : i < m) (hD : 1 ≤ D) : Ok D 0 0 yJ3_checkIndex_8e157 cJ3_checkIndex_8e157 3 (some .int) [.int i, .int m, va_rf r] h (some (.int i)) h := by
  refine ok_of (by decide +kernel) (by cases r <;> rfl) (Nat.le_of_ble_eq_true rfl) (fun K X hF hE hN L0 hL0 => ?_)
  obtain rfl : [some (.int i), some (.int m), some (va_rf r)] = L0 := hL0
  have hF : Fx K X cJ3_checkIndex_8e157 3 RJ3 D 0 0 := hF
  refine g_p (S' := [.int i]) hF tJ3_checkIndex_8e157_ok 0 1 rfl rfl rfl rfl ?_
  refine g_if_lt hF (dAt tJ3_checkIndex_8e157_ok 1 rfl rfl) rfl (fun c => absurd c h0) (fun _ => ?_)
  refine g_p (S' := [.int m, .int i]) hF tJ3_checkIndex_8e157_ok 2 2 rfl rfl rfl rfl ?_
  refine g_icmp_lt hF (dAt tJ3_checkIndex_8e157_ok 4 rfl rfl) rfl (fun _ => ?_) (fun c => absurd h1 c)
  refine g_p (S' := [.int i]) hF tJ3_checkIndex_8e157_ok 10 1 rfl rfl rfl rfl ?_
  exact g_iret hF hE (dAt tJ3_checkIndex_8e157_ok 11 rfl rfl) (by decide) (by decide)
theorem J0_check_ok {D : Nat} {h : Hp} {i m : Int32} (h0 : ¬ i < 0) (h1 : i < m) (hD : 2 ≤ D) : Ok D 0 0 yJ0_checkIndex_df160 cJ0_checkIndex_df160 2 none [.int i, .int m] h none h := by
  refine ok_of (by decide +kernel) rfl (Nat.le_of_ble_eq_true rfl) (fun K X hF hE hN L0 hL0 => ?_)
  obtain rfl : [some (.int i), some (.int m)] = L0 := hL0
  have hF : Fx K X cJ0_checkIndex_df160 2 RJ0 D 0 0 := hF
  refine g_p (S' := [.int m, .int i]) hF tJ0_checkIndex_df160_ok 0 2 rfl rfl rfl rfl ?_
  have hend : ∀ r : Option Nat, va_Z RJ3 "SIOOBE_FORMATTER" "Ljava/util/function/BiFunction;" (va_rf r) (kA K) (xs X) (kH K) → G K X 2 0 0 2 [some (.int i), some (.int m)] [.int m, .int i] h := by
    intro r hz
    refine g_sta hF (dAt tJ0_checkIndex_df160_ok 2 rfl rfl) lkS1053 hz ?_
    refine g_cS (S := []) hF (J3_check_ok (r := r) h0 h1 (Nat.le_refl _) K) mbJ3_checkIndex_8e157 msJ3_checkIndex_8e157 mlJ0_1059 (by omega) (by decide) (dAt tJ0_checkIndex_df160_ok 3 rfl rfl) rfl rfl (Nat.le_of_ble_eq_true rfl) rfl rfl (by decide) (by decide) rfl ?_
    refine g_p (S' := []) hF tJ0_checkIndex_df160_ok 4 1 rfl rfl rfl rfl ?_
    exact g_vret hF hE (dAt tJ0_checkIndex_df160_ok 5 rfl rfl) (by decide) (by decide)
  rcases hF.kx.2.2.2.2.2.2.2.2.2.2.2.2.2 with hz | ⟨t, hz⟩
  · exact hend none hz
  · exact hend (some t) hz
theorem c_and : ∀ v : Int32, 0 ≤ v → v < 128 → v &&& 255 = v ∧ (v.toUInt32 % 65536).toInt32 = v ∧ narrow .char (.int v) = .int v := by
  intro v h0 h1
  have key : ∀ j : Nat, j < 128 → Int32.ofNat j &&& 255 = Int32.ofNat j ∧ ((Int32.ofNat j).toUInt32 % 65536).toInt32 = Int32.ofNat j ∧ narrow .char (.int (Int32.ofNat j)) = .int (Int32.ofNat j) := by decide +kernel
  obtain ⟨j, hj, rfl⟩ := nI_of (Int32.not_lt.mpr h0)
  have hj2 : j < 128 := by
    have := (nI_ltI hj (by decide : (128 : Nat) < 2 ^ 31)).mp (show nI j < nI 128 from h1)
    exact this
  exact key j hj2
theorem J1_charAt_ok {K : Kt} {D : Nat} {h : Hp} {w : Nat} {i v : Int32} (hw : w < 21) (e : sch w i = some v) (hD : 3 ≤ D) : OkK D 0 0 yJ1_charAt_3b067 cJ1_charAt_3b067 2 (some .char) K [.ref (kV K w), .int i] h (some (.int v)) h := by
  refine ok_ofK (by decide +kernel) rfl (Nat.le_of_ble_eq_true rfl) (fun X hF hE hN L0 hL0 => ?_)
  obtain rfl : [some (.ref (kV K w)), some (.int i)] = L0 := hL0
  have hF : Fx K X cJ1_charAt_3b067 2 RJ1 D 0 0 := hF
  obtain ⟨hin, hv⟩ := ld_some e
  have hlt : i.toNatClampNeg < strLen.getD w 0 := Nat.not_le.mp fun q => hin (Or.inr q)
  have h0 : ¬ i < 0 := fun q => hin (Or.inl q)
  have h1 : i < slen w := by
    obtain ⟨j, hj, rfl⟩ := nI_of h0
    rw [nI_clamp hj] at hlt
    exact nI_lt hlt (by have := str_len w hw; omega)
  have hb := str_fits w hw _ hlt
  obtain ⟨q1, q2, q3⟩ := c_and v (hv ▸ hb.1) (hv ▸ hb.2)
  refine g_p (S' := [.ref (kV K w), .int i]) hF tJ1_charAt_3b067_ok 0 2 rfl rfl rfl rfl ?_
  refine g_sblen hF (dAt tJ1_charAt_3b067_ok 2 rfl rfl) (hF.vs.1 w hw).2.2.2 ?_
  refine g_cS (S := []) hF (J0_check_ok h0 h1 (Nat.le_refl _) K) mbJ0_checkIndex_df160 msJ0_checkIndex_df160 mlJ1_9 (by omega) (by decide) (dAt tJ1_charAt_3b067_ok 3 rfl rfl) rfl rfl (Nat.le_of_ble_eq_true rfl) rfl rfl (by decide) (by decide) rfl ?_
  refine g_p (S' := [.int i, .ref (kV K w)]) hF tJ1_charAt_3b067_ok 4 2 rfl rfl rfl rfl ?_
  refine g_sbld hF (dAt tJ1_charAt_3b067_ok 6 rfl rfl) (hF.vs.1 w hw).2.2.2 e ?_
  refine g_p (S' := [.int (v &&& 255)]) hF tJ1_charAt_3b067_ok 7 2 rfl rfl rfl rfl ?_
  rw [q1]
  refine g_i2c hF (dAt tJ1_charAt_3b067_ok 9 rfl rfl) q2 ?_
  exact g_nret hF hE q3 (dAt tJ1_charAt_3b067_ok 10 rfl rfl) (by decide) (by decide)
theorem J0_charAt_ok {K : Kt} {D : Nat} {h : Hp} {w : Nat} {i v : Int32} (hw : w < 21) (e : sch w i = some v) (hD : 4 ≤ D) : OkK D 0 0 yJ0_charAt_5068e cJ0_charAt_5068e 2 (some .char) K [.ref (kK K w), .int i] h (some (.int v)) h := by
  refine ok_ofK (by decide +kernel) rfl (Nat.le_of_ble_eq_true rfl) (fun X hF hE hN L0 hL0 => ?_)
  obtain rfl : [some (.ref (kK K w)), some (.int i)] = L0 := hL0
  have hF : Fx K X cJ0_charAt_5068e 2 RJ0 D 0 0 := hF
  obtain ⟨hin, hv⟩ := ld_some e
  have hlt : i.toNatClampNeg < strLen.getD w 0 := Nat.not_le.mp fun q => hin (Or.inr q)
  have hb := str_fits w hw _ hlt
  obtain ⟨q1, q2, q3⟩ := c_and v (hv ▸ hb.1) (hv ▸ hb.2)
  refine g_p (S' := [.ref (kK K w)]) hF tJ0_charAt_5068e_ok 0 1 rfl rfl rfl rfl ?_
  refine g_cV0 (S := []) hF (J0_isLatin1_ok hw (Nat.le_refl _)) mbJ0_isLatin1_aae02 mvJ0_isLatin1_aae02 mlJ0_492 (by omega) (by decide) (dAt tJ0_charAt_5068e_ok 1 rfl rfl) (srec hF hw) rfl rfl (Nat.le_of_ble_eq_true rfl) rfl rfl (by decide) (by decide) rfl ?_
  refine g_if_eq hF (dAt tJ0_charAt_5068e_ok 2 rfl rfl) rfl (fun c => absurd c (by decide)) (fun _ => ?_)
  refine g_p (S' := [.ref (kK K w)]) hF tJ0_charAt_5068e_ok 3 1 rfl rfl rfl rfl ?_
  refine g_sfld hF (dAt tJ0_charAt_5068e_ok 4 rfl rfl) lkS9 (hF.vs.1 w hw).2.2.1 ?_
  refine g_p (S' := [.int i, .ref (kV K w)]) hF tJ0_charAt_5068e_ok 5 1 rfl rfl rfl rfl ?_
  refine g_cS (S := []) hF (J1_charAt_ok hw e (Nat.le_refl _)) mbJ1_charAt_3b067 msJ1_charAt_3b067 mlJ0_495 (by omega) (by decide) (dAt tJ0_charAt_5068e_ok 6 rfl rfl) rfl rfl (Nat.le_of_ble_eq_true rfl) rfl rfl (by decide) (by decide) rfl ?_
  exact g_nret hF hE q3 (dAt tJ0_charAt_5068e_ok 7 rfl rfl) (by decide) (by decide)

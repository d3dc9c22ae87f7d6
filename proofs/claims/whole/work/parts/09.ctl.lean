/-! BRANCHES, RETURNS, DIVISIONS, CONSTANTS OF THE POOL, SWITCHES. -/
section CT
variable {K : Kt} {X : Cx} {cc : ByteArray} {nL : Nat} {own : String} {D mc ms k n pc : Nat} {L : Lo} {S : List Value} {h : Hp}
theorem g_if_eq (hF : Fx K X cc nL own D mc ms) {x : Int32} {off : Int} {tgt : Nat} (hd : decode cc pc = .ok (.ifCond .eq off, 3)) (ht : (pc : Int) + off = (tgt : Int)) (kt : x = 0 → G K X nL k n tgt L S h) (kf : ¬ x = 0 → G K X nL k n (pc + 3) L S h) : G K X nL k n pc L (.int x :: S) h :=
  fun H locs ls hR hq hl => lv_if_eq hF.ex hF.co hd ht (fun c => kt c H locs ls hR hq hl) (fun c => kf c H locs ls hR hq hl)
theorem g_icmp_eq (hF : Fx K X cc nL own D mc ms) {x y : Int32} {off : Int} {tgt : Nat} (hd : decode cc pc = .ok (.if_icmp .eq off, 3)) (ht : (pc : Int) + off = (tgt : Int)) (kt : x = y → G K X nL k n tgt L S h) (kf : ¬ x = y → G K X nL k n (pc + 3) L S h) : G K X nL k n pc L (.int y :: .int x :: S) h :=
  fun H locs ls hR hq hl => lv_icmp_eq hF.ex hF.co hd ht (fun c => kt c H locs ls hR hq hl) (fun c => kf c H locs ls hR hq hl)
theorem g_if_ne (hF : Fx K X cc nL own D mc ms) {x : Int32} {off : Int} {tgt : Nat} (hd : decode cc pc = .ok (.ifCond .ne off, 3)) (ht : (pc : Int) + off = (tgt : Int)) (kt : ¬ x = 0 → G K X nL k n tgt L S h) (kf : x = 0 → G K X nL k n (pc + 3) L S h) : G K X nL k n pc L (.int x :: S) h :=
  fun H locs ls hR hq hl => lv_if_ne hF.ex hF.co hd ht (fun c => kt c H locs ls hR hq hl) (fun c => kf c H locs ls hR hq hl)
theorem g_icmp_ne (hF : Fx K X cc nL own D mc ms) {x y : Int32} {off : Int} {tgt : Nat} (hd : decode cc pc = .ok (.if_icmp .ne off, 3)) (ht : (pc : Int) + off = (tgt : Int)) (kt : ¬ x = y → G K X nL k n tgt L S h) (kf : x = y → G K X nL k n (pc + 3) L S h) : G K X nL k n pc L (.int y :: .int x :: S) h :=
  fun H locs ls hR hq hl => lv_icmp_ne hF.ex hF.co hd ht (fun c => kt c H locs ls hR hq hl) (fun c => kf c H locs ls hR hq hl)
theorem g_if_lt (hF : Fx K X cc nL own D mc ms) {x : Int32} {off : Int} {tgt : Nat} (hd : decode cc pc = .ok (.ifCond .lt off, 3)) (ht : (pc : Int) + off = (tgt : Int)) (kt : x < 0 → G K X nL k n tgt L S h) (kf : ¬ x < 0 → G K X nL k n (pc + 3) L S h) : G K X nL k n pc L (.int x :: S) h :=
  fun H locs ls hR hq hl => lv_if_lt hF.ex hF.co hd ht (fun c => kt c H locs ls hR hq hl) (fun c => kf c H locs ls hR hq hl)
theorem g_icmp_lt (hF : Fx K X cc nL own D mc ms) {x y : Int32} {off : Int} {tgt : Nat} (hd : decode cc pc = .ok (.if_icmp .lt off, 3)) (ht : (pc : Int) + off = (tgt : Int)) (kt : x < y → G K X nL k n tgt L S h) (kf : ¬ x < y → G K X nL k n (pc + 3) L S h) : G K X nL k n pc L (.int y :: .int x :: S) h :=
  fun H locs ls hR hq hl => lv_icmp_lt hF.ex hF.co hd ht (fun c => kt c H locs ls hR hq hl) (fun c => kf c H locs ls hR hq hl)
theorem g_if_ge (hF : Fx K X cc nL own D mc ms) {x : Int32} {off : Int} {tgt : Nat} (hd : decode cc pc = .ok (.ifCond .ge off, 3)) (ht : (pc : Int) + off = (tgt : Int)) (kt : 0 ≤ x → G K X nL k n tgt L S h) (kf : ¬ 0 ≤ x → G K X nL k n (pc + 3) L S h) : G K X nL k n pc L (.int x :: S) h :=
  fun H locs ls hR hq hl => lv_if_ge hF.ex hF.co hd ht (fun c => kt c H locs ls hR hq hl) (fun c => kf c H locs ls hR hq hl)
theorem g_icmp_ge (hF : Fx K X cc nL own D mc ms) {x y : Int32} {off : Int} {tgt : Nat} (hd : decode cc pc = .ok (.if_icmp .ge off, 3)) (ht : (pc : Int) + off = (tgt : Int)) (kt : y ≤ x → G K X nL k n tgt L S h) (kf : ¬ y ≤ x → G K X nL k n (pc + 3) L S h) : G K X nL k n pc L (.int y :: .int x :: S) h :=
  fun H locs ls hR hq hl => lv_icmp_ge hF.ex hF.co hd ht (fun c => kt c H locs ls hR hq hl) (fun c => kf c H locs ls hR hq hl)
theorem g_if_gt (hF : Fx K X cc nL own D mc ms) {x : Int32} {off : Int} {tgt : Nat} (hd : decode cc pc = .ok (.ifCond .gt off, 3)) (ht : (pc : Int) + off = (tgt : Int)) (kt : 0 < x → G K X nL k n tgt L S h) (kf : ¬ 0 < x → G K X nL k n (pc + 3) L S h) : G K X nL k n pc L (.int x :: S) h :=
  fun H locs ls hR hq hl => lv_if_gt hF.ex hF.co hd ht (fun c => kt c H locs ls hR hq hl) (fun c => kf c H locs ls hR hq hl)
theorem g_icmp_gt (hF : Fx K X cc nL own D mc ms) {x y : Int32} {off : Int} {tgt : Nat} (hd : decode cc pc = .ok (.if_icmp .gt off, 3)) (ht : (pc : Int) + off = (tgt : Int)) (kt : y < x → G K X nL k n tgt L S h) (kf : ¬ y < x → G K X nL k n (pc + 3) L S h) : G K X nL k n pc L (.int y :: .int x :: S) h :=
  fun H locs ls hR hq hl => lv_icmp_gt hF.ex hF.co hd ht (fun c => kt c H locs ls hR hq hl) (fun c => kf c H locs ls hR hq hl)
theorem g_if_le (hF : Fx K X cc nL own D mc ms) {x : Int32} {off : Int} {tgt : Nat} (hd : decode cc pc = .ok (.ifCond .le off, 3)) (ht : (pc : Int) + off = (tgt : Int)) (kt : x ≤ 0 → G K X nL k n tgt L S h) (kf : ¬ x ≤ 0 → G K X nL k n (pc + 3) L S h) : G K X nL k n pc L (.int x :: S) h :=
  fun H locs ls hR hq hl => lv_if_le hF.ex hF.co hd ht (fun c => kt c H locs ls hR hq hl) (fun c => kf c H locs ls hR hq hl)
theorem g_icmp_le (hF : Fx K X cc nL own D mc ms) {x y : Int32} {off : Int} {tgt : Nat} (hd : decode cc pc = .ok (.if_icmp .le off, 3)) (ht : (pc : Int) + off = (tgt : Int)) (kt : x ≤ y → G K X nL k n tgt L S h) (kf : ¬ x ≤ y → G K X nL k n (pc + 3) L S h) : G K X nL k n pc L (.int y :: .int x :: S) h :=
  fun H locs ls hR hq hl => lv_icmp_le hF.ex hF.co hd ht (fun c => kt c H locs ls hR hq hl) (fun c => kf c H locs ls hR hq hl)
theorem g_goto (hF : Fx K X cc nL own D mc ms) {off : Int} {tgt : Nat} (hd : decode cc pc = .ok (.goto off, 3)) (ht : (pc : Int) + off = (tgt : Int)) (kk : G K X nL k n tgt L S h) : G K X nL k n pc L S h :=
  fun H locs ls hR hq hl => lv_goto hF.ex hF.co hd ht (kk H locs ls hR hq hl)
theorem g_idiv (hF : Fx K X cc nL own D mc ms) {x y : Int32} (hd : decode cc pc = .ok (.idiv, 1)) (hne : ¬ y = 0) (kk : G K X nL k n (pc + 1) L (.int (x / y) :: S) h) : G K X nL k n pc L (.int y :: .int x :: S) h :=
  fun H locs ls hR hq hl => lv_idiv hF.ex hF.co hd hne (kk H locs ls hR hq hl)
theorem g_irem (hF : Fx K X cc nL own D mc ms) {x y : Int32} (hd : decode cc pc = .ok (.irem, 1)) (hne : ¬ y = 0) (kk : G K X nL k n (pc + 1) L (.int (x - x / y * y) :: S) h) : G K X nL k n pc L (.int y :: .int x :: S) h :=
  fun H locs ls hR hq hl => lv_irem hF.ex hF.co hd hne (kk H locs ls hR hq hl)
theorem g_ldc (hF : Fx K X cc nL own D mc ms) {idx : Nat} {v : Int32} (hd : decode cc pc = .ok (.ldc idx, 2)) (hw : Cond.constant own idx v ∈ gtb) (kk : G K X nL k n (pc + 2) L (.int v :: S) h) : G K X nL k n pc L S h :=
  fun H locs ls hR hq hl => lv_ldc hF.ex hF.co hF.ow (hF.ts _ hw) hd (kk H locs ls hR hq hl)
theorem g_ldcw (hF : Fx K X cc nL own D mc ms) {idx : Nat} {v : Int32} (hd : decode cc pc = .ok (.ldc_w idx, 3)) (hw : Cond.constant own idx v ∈ gtb) (kk : G K X nL k n (pc + 3) L (.int v :: S) h) : G K X nL k n pc L S h :=
  fun H locs ls hR hq hl => lv_ldcw hF.ex hF.co hF.ow (hF.ts _ hw) hd (kk H locs ls hR hq hl)
theorem g_ifnonnull (hF : Fx K X cc nL own D mc ms) {x : Nat} {off : Int} {tgt : Nat} (hd : decode cc pc = .ok (.ifnonnull off, 3)) (ht : (pc : Int) + off = (tgt : Int)) (kk : G K X nL k n tgt L S h) : G K X nL k n pc L (.ref x :: S) h :=
  fun H locs ls hR hq hl => lv_ifnonnull hF.ex hF.co hd ht (kk H locs ls hR hq hl)
theorem g_ifnonnullN (hF : Fx K X cc nL own D mc ms) {off : Int} (hd : decode cc pc = .ok (.ifnonnull off, 3)) (kk : G K X nL k n (pc + 3) L S h) : G K X nL k n pc L (.null :: S) h :=
  fun H locs ls hR hq hl => lv_ifnonnullN hF.ex hF.co hd (kk H locs ls hR hq hl)
theorem g_ifnull (hF : Fx K X cc nL own D mc ms) {x : Nat} {off : Int} (hd : decode cc pc = .ok (.ifnull off, 3)) (kk : G K X nL k n (pc + 3) L S h) : G K X nL k n pc L (.ref x :: S) h :=
  fun H locs ls hR hq hl => lv_ifnull hF.ex hF.co hd (kk H locs ls hR hq hl)
theorem g_ifnullN (hF : Fx K X cc nL own D mc ms) {off : Int} {tgt : Nat} (hd : decode cc pc = .ok (.ifnull off, 3)) (ht : (pc : Int) + off = (tgt : Int)) (kk : G K X nL k n tgt L S h) : G K X nL k n pc L (.null :: S) h :=
  fun H locs ls hR hq hl => lv_ifnullN hF.ex hF.co hd ht (kk H locs ls hR hq hl)
/-- more room than was used -/
theorem g_widen {k' n' : Nat} (h1 : k ≤ k') (h2 : n ≤ n') (kk : G K X nL k' n' pc L S h) : G K X nL k n pc L S h :=
  fun H locs ls hR hq hl => W.widen h1 h2 (kk H locs ls hR hq hl)
/-- locals that are not looked at any more -/
theorem g_drop {L' : Lo} (hd : ∀ (i : Nat) (v : Value), L'[i]? = some (some v) → L[i]? = some (some v)) (kk : G K X nL k n pc L' S h) : G K X nL k n pc L S h :=
  fun H locs ls hR hq hl => kk H locs ls hR hq ⟨hl.1, hl.2.1, fun i v hv => hl.2.2 i v (hd i v hv)⟩
def lsub : Lo → Lo → Bool
  | [], _ => true
  | none :: L', _ :: L => lsub L' L
  | none :: L', [] => lsub L' []
  | some _ :: _, _ => false
theorem g_iret (hF : Fx K X cc nL own D mc ms) {v : Int32} (hE : En K X (some .int) mc ms (some (.int v)) h) (hd : decode cc pc = .ok (.ireturn, 1)) (h1 : k ≤ mc) (h2 : n ≤ ms) : G K X nL k n pc L [.int v] h := by
  intro H locs ls hR hq hl
  refine W.widen h1 h2 ?_
  rw [hE.1]
  exact W.iret hF.ex hF.co hE.2 (fun t ht _ => ⟨rfl, by rw [ht]; exact hR⟩) hq hd hF.lk
theorem g_zret (hF : Fx K X cc nL own D mc ms) {v : Int32} (hE : En K X (some .boolean) mc ms (some (.int v)) h) (hv : v = 0 ∨ v = 1) (hd : decode cc pc = .ok (.ireturn, 1)) (h1 : k ≤ mc) (h2 : n ≤ ms) : G K X nL k n pc L [.int v] h := by
  intro H locs ls hR hq hl
  refine W.widen h1 h2 ?_
  rw [hE.1]
  exact W.zret hF.ex hF.co hE.2 (by rcases hv with rfl | rfl <;> rfl) (fun t ht _ => ⟨rfl, by rw [ht]; exact hR⟩) hq hd hF.lk
theorem g_vret (hF : Fx K X cc nL own D mc ms) (hE : En K X none mc ms none h) (hd : decode cc pc = .ok (.return_, 1)) (h1 : k ≤ mc) (h2 : n ≤ ms) : G K X nL k n pc L [] h := by
  intro H locs ls hR hq hl
  refine W.widen h1 h2 ?_
  rw [hE.1]
  exact W.vret hF.ex hF.co hE.2 (fun t ht _ => ⟨rfl, by rw [ht]; exact hR⟩) hq hd hF.lk
theorem g_aret (hF : Fx K X cc nL own D mc ms) {r : Option Nat} {rt : FieldType} (hE : En K X (some rt) mc ms (some (va_rf r)) h) (hrt : (∃ c, rt = .object c) ∨ ∃ t, rt = .array t) (hd : decode cc pc = .ok (.areturn, 1)) (h1 : k ≤ mc) (h2 : n ≤ ms) : G K X nL k n pc L [va_rf r] h := by
  intro H locs ls hR hq hl
  refine W.widen h1 h2 ?_
  rw [hE.1]
  exact W.aret hF.ex hF.co hE.2 hrt (by cases r; exact Or.inl rfl; exact Or.inr ⟨_, rfl⟩) (fun t ht _ => ⟨rfl, by rw [ht]; exact hR⟩) hq hd hF.lk
/-- a switch whose places are known one by one -/
theorem g_tsw (hF : Fx K X cc nL own D mc ms) {dflt lo hi : Int} {offs : Array Int} {len : Nat} {x c : Int32} {off : Int} {tgt : Nat} (hd : decode cc pc = .ok (.tableswitch dflt lo hi offs, len)) (hx : x = c) (h1 : ¬ c.toInt < lo) (h2 : ¬ hi < c.toInt) (ho : offs[(c.toInt - lo).toNat]? = some off) (ht : (pc : Int) + off = (tgt : Int)) (kk : G K X nL k n tgt L S h) : G K X nL k n pc L (.int x :: S) h := by
  subst hx
  exact fun H locs ls hR hq hl => lv_tableIn hF.ex hF.co hd h1 h2 ho ht (kk H locs ls hR hq hl)
theorem g_tswD (hF : Fx K X cc nL own D mc ms) {dflt lo hi : Int} {offs : Array Int} {len : Nat} {x : Int32} {tgt : Nat} (hd : decode cc pc = .ok (.tableswitch dflt lo hi offs, len)) (ho : x.toInt < lo ∨ hi < x.toInt) (ht : (pc : Int) + dflt = (tgt : Int)) (kk : G K X nL k n tgt L S h) : G K X nL k n pc L (.int x :: S) h :=
  fun H locs ls hR hq hl => lv_tableOut hF.ex hF.co hd ho ht (kk H locs ls hR hq hl)
/-- none of the numbers lo, lo + 1 .. : outside -/
theorem tsw_out {x : Int32} (lo : Int) : ∀ (m : Nat), (∀ j : Nat, j < m → x.toInt ≠ lo + j) → x.toInt < lo ∨ lo + m ≤ x.toInt := by
  intro m hm
  by_cases h1 : x.toInt < lo
  · exact Or.inl h1
  · refine Or.inr ?_
    by_cases h2 : lo + m ≤ x.toInt
    · exact h2
    · exact absurd (by omega) (hm (x.toInt - lo).toNat (by omega))
end CT

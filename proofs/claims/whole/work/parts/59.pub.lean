/-! The public calls, in one form: answer and mini heap. -/
def cl_state (a : Nat) (x1 : Int32) (h : Hp) : Option (Int32 × Hp) := (X11_state_f a x1 h.2.1).bind fun p => some (p.1, (h.1, p.2, h.2.2))
theorem cl_state_ok {D a : Nat} {x1 : Int32} {h h1 : Hp} {r : Int32} (hD : 1 ≤ D) (hS : ShX11 h.1 a) (e : cl_state a x1 h = some (r, h1)) : Ok D 0 0 yX11_state cX11_state 3 (some .int) [.ref a, .int x1] h (some (.int r)) h1 := by
  obtain ⟨τ, σ, nx⟩ := h
  obtain ⟨⟨v, s⟩, e1, e2⟩ := ob e
  cases e2
  exact X11_state_ok hD hS e1
def cl_one (a : Nat) (x1 : Int32) (x2 : Int32) (x3 : Int32) (x4 : Int32) (x5 : Int32) (h : Hp) : Option (Int32 × Hp) := (X11_one_f a x1 x2 x3 x4 x5 h.2.1).bind fun p => some (p.1, (h.1, p.2, h.2.2))
theorem cl_one_ok {D a : Nat} {x1 : Int32} {x2 : Int32} {x3 : Int32} {x4 : Int32} {x5 : Int32} {h h1 : Hp} {r : Int32} (hD : 3 ≤ D) (hS : ShX11 h.1 a) (e : cl_one a x1 x2 x3 x4 x5 h = some (r, h1)) : Ok D 0 0 yX11_one cX11_one 6 (some .int) [.ref a, .int x1, .int x2, .int x3, .int x4, .int x5] h (some (.int r)) h1 := by
  obtain ⟨τ, σ, nx⟩ := h
  obtain ⟨⟨v, s⟩, e1, e2⟩ := ob e
  cases e2
  exact X11_one_ok hD hS e1
def cl_tell (a : Nat) (x1 : Int32) (x2 : Int32) (x3 : Int32) (h : Hp) : Option (Int32 × Hp) := (X11_tell_f a x1 x2 x3 h.2.1).bind fun p => some (p.1, (h.1, p.2, h.2.2))
theorem cl_tell_ok {D a : Nat} {x1 : Int32} {x2 : Int32} {x3 : Int32} {h h1 : Hp} {r : Int32} (hD : 4 ≤ D) (hS : ShX11 h.1 a) (e : cl_tell a x1 x2 x3 h = some (r, h1)) : Ok D 0 0 yX11_tell cX11_tell 5 (some .boolean) [.ref a, .int x1, .int x2, .int x3] h (some (.int r)) h1 := by
  obtain ⟨τ, σ, nx⟩ := h
  obtain ⟨⟨v, s⟩, e1, e2⟩ := ob e
  cases e2
  exact X11_tell_ok hD hS e1
def cl_wall (a : Nat) (x1 : Int32) (x2 : Int32) (x3 : Int32) (h : Hp) : Option (Int32 × Hp) := (X11_wall_f a x1 x2 x3 h.2.1).bind fun p => some (p.1, (h.1, p.2, h.2.2))
theorem cl_wall_ok {D a : Nat} {x1 : Int32} {x2 : Int32} {x3 : Int32} {h h1 : Hp} {r : Int32} (hD : 2 ≤ D) (hS : ShX11 h.1 a) (e : cl_wall a x1 x2 x3 h = some (r, h1)) : Ok D 0 0 yX11_wall cX11_wall 4 (some .boolean) [.ref a, .int x1, .int x2, .int x3] h (some (.int r)) h1 := by
  obtain ⟨τ, σ, nx⟩ := h
  obtain ⟨⟨v, s⟩, e1, e2⟩ := ob e
  cases e2
  exact X11_wall_ok hD hS e1
def cl_set (a : Nat) (x1 : Int32) (x2 : Int32) (h : Hp) : Option (Int32 × Hp) := (X11_set_f a x1 x2 h.2.1).bind fun p => some (p.1, (h.1, p.2, h.2.2))
theorem cl_set_ok {D a : Nat} {x1 : Int32} {x2 : Int32} {h h1 : Hp} {r : Int32} (hD : 2 ≤ D) (hS : ShX11 h.1 a) (e : cl_set a x1 x2 h = some (r, h1)) : Ok D 0 0 yX11_set cX11_set 3 (some .boolean) [.ref a, .int x1, .int x2] h (some (.int r)) h1 := by
  obtain ⟨τ, σ, nx⟩ := h
  obtain ⟨⟨v, s⟩, e1, e2⟩ := ob e
  cases e2
  exact X11_set_ok hD hS e1
def cl_debt (a : Nat) (x1 : Int32) (x2 : Int32) (x3 : Int32) (h : Hp) : Option (Int32 × Hp) := (X11_debt_f a x1 x2 x3 h.2.1).bind fun p => some (p.1, (h.1, p.2, h.2.2))
theorem cl_debt_ok {D a : Nat} {x1 : Int32} {x2 : Int32} {x3 : Int32} {h h1 : Hp} {r : Int32} (hD : 2 ≤ D) (hS : ShX11 h.1 a) (e : cl_debt a x1 x2 x3 h = some (r, h1)) : Ok D 0 0 yX11_debt cX11_debt 4 (some .int) [.ref a, .int x1, .int x2, .int x3] h (some (.int r)) h1 := by
  obtain ⟨τ, σ, nx⟩ := h
  obtain ⟨⟨v, s⟩, e1, e2⟩ := ob e
  cases e2
  exact X11_debt_ok hD hS e1
def cl_helpers (a : Nat) (x1 : Int32) (x2 : Int32) (h : Hp) : Option (Int32 × Hp) := (X11_helpers_f a x1 x2 h.2.1).bind fun p => some (p.1, (h.1, p.2, h.2.2))
theorem cl_helpers_ok {D a : Nat} {x1 : Int32} {x2 : Int32} {h h1 : Hp} {r : Int32} (hD : 2 ≤ D) (hS : ShX11 h.1 a) (e : cl_helpers a x1 x2 h = some (r, h1)) : Ok D 0 0 yX11_helpers cX11_helpers 3 (some .boolean) [.ref a, .int x1, .int x2] h (some (.int r)) h1 := by
  obtain ⟨τ, σ, nx⟩ := h
  obtain ⟨⟨v, s⟩, e1, e2⟩ := ob e
  cases e2
  exact X11_helpers_ok hD hS e1
def cl_of (a : Nat) (x1 : Int32) (x2 : Int32) (h : Hp) : Option (Int32 × Hp) := (X11_of_f a x1 x2 h.2.1).bind fun r => some (r, h)
theorem cl_of_ok {D a : Nat} {x1 : Int32} {x2 : Int32} {h h1 : Hp} {r : Int32} (hD : 3 ≤ D) (hS : ShX11 h.1 a) (e : cl_of a x1 x2 h = some (r, h1)) : Ok D 0 0 yX11_of cX11_of 3 (some .int) [.ref a, .int x1, .int x2] h (some (.int r)) h1 := by
  obtain ⟨τ, σ, nx⟩ := h
  obtain ⟨v, e1, e2⟩ := ob e
  cases e2
  exact X11_of_ok hD hS e1
def cl_feed (a : Nat) (x1 : Int32) (x2 : Int32) (x3 : Int32) (x4 : Int32) (x5 : Int32) (h : Hp) : Option (Int32 × Hp) := (X11_feed_f a x1 x2 x3 x4 x5 h.2.1).bind fun p => some (p.1, (h.1, p.2, h.2.2))
theorem cl_feed_ok {D a : Nat} {x1 : Int32} {x2 : Int32} {x3 : Int32} {x4 : Int32} {x5 : Int32} {h h1 : Hp} {r : Int32} (hD : 2 ≤ D) (hS : ShX11 h.1 a) (e : cl_feed a x1 x2 x3 x4 x5 h = some (r, h1)) : Ok D 0 0 yX11_feed cX11_feed 6 (some .int) [.ref a, .int x1, .int x2, .int x3, .int x4, .int x5] h (some (.int r)) h1 := by
  obtain ⟨τ, σ, nx⟩ := h
  obtain ⟨⟨v, s⟩, e1, e2⟩ := ob e
  cases e2
  exact X11_feed_ok hD hS e1
def cl_end (a : Nat) (x1 : Int32) (h : Hp) : Option (Int32 × Hp) := (X11_end_f a x1 h.2.1).bind fun p => some (p.1, (h.1, p.2, h.2.2))
theorem cl_end_ok {D a : Nat} {x1 : Int32} {h h1 : Hp} {r : Int32} (hD : 2 ≤ D) (hS : ShX11 h.1 a) (e : cl_end a x1 h = some (r, h1)) : Ok D 0 0 yX11_end cX11_end 2 (some .boolean) [.ref a, .int x1] h (some (.int r)) h1 := by
  obtain ⟨τ, σ, nx⟩ := h
  obtain ⟨⟨v, s⟩, e1, e2⟩ := ob e
  cases e2
  exact X11_end_ok hD hS e1
noncomputable def cl_text (a : Nat) (x1 : Int32) (h : Hp) : Option (Int32 × Hp) := X11_text_f h.1 h.2.1 h.2.2 a x1
theorem cl_text_ok {D a : Nat} {x1 : Int32} {h h1 : Hp} {r : Int32} (hD : 47 ≤ D) (hS : ShX11 h.1 a) (e : cl_text a x1 h = some (r, h1)) : Ok D 4 1207 yX11_text cX11_text 3 (some .int) [.ref a, .int x1] h (some (.int r)) h1 := by
  obtain ⟨τ, σ, nx⟩ := h
  exact X11_text_ok hD e
def cl_fault (a : Nat) (x1 : Int32) (h : Hp) : Option (Int32 × Hp) := (X11_fault_f a x1 h.2.1).bind fun r => some (r, h)
theorem cl_fault_ok {D a : Nat} {x1 : Int32} {h h1 : Hp} {r : Int32} (hD : 1 ≤ D) (hS : ShX11 h.1 a) (e : cl_fault a x1 h = some (r, h1)) : Ok D 0 0 yX11_fault cX11_fault 2 (some .int) [.ref a, .int x1] h (some (.int r)) h1 := by
  obtain ⟨τ, σ, nx⟩ := h
  obtain ⟨v, e1, e2⟩ := ob e
  cases e2
  exact X11_fault_ok hD hS e1
noncomputable def cl_does (a : Nat) (x1 : Int32) (h : Hp) : Option (Int32 × Hp) := (X11_does_f h.1 a x1 h.2.1).bind fun p => some (p.1, (h.1, p.2, h.2.2))
theorem cl_does_ok {D a : Nat} {x1 : Int32} {h h1 : Hp} {r : Int32} (hD : 5 ≤ D) (hS : ShX11 h.1 a) (e : cl_does a x1 h = some (r, h1)) : Ok D 0 0 yX11_does cX11_does 2 (some .int) [.ref a, .int x1] h (some (.int r)) h1 := by
  obtain ⟨τ, σ, nx⟩ := h
  obtain ⟨⟨v, s⟩, e1, e2⟩ := ob e
  cases e2
  exact X11_does_ok hD hS e1
noncomputable def cl_word (a : Nat) (x1 : Int32) (x2 : Int32) (x3 : Int32) (x4 : Int32) (x5 : Int32) (x6 : Int32) (h : Hp) : Option (Int32 × Hp) := (X11_word_f h.1 a x1 x2 x3 x4 x5 x6 h.2.1).bind fun p => some (p.1, (h.1, p.2, h.2.2))
theorem cl_word_ok {D a : Nat} {x1 : Int32} {x2 : Int32} {x3 : Int32} {x4 : Int32} {x5 : Int32} {x6 : Int32} {h h1 : Hp} {r : Int32} (hD : 5 ≤ D) (hS : ShX11 h.1 a) (e : cl_word a x1 x2 x3 x4 x5 x6 h = some (r, h1)) : Ok D 0 0 yX11_word cX11_word 7 (some .int) [.ref a, .int x1, .int x2, .int x3, .int x4, .int x5, .int x6] h (some (.int r)) h1 := by
  obtain ⟨τ, σ, nx⟩ := h
  obtain ⟨⟨v, s⟩, e1, e2⟩ := ob e
  cases e2
  exact X11_word_ok hD hS e1
noncomputable def cl_quarters (a : Nat) (x1 : Int32) (h : Hp) : Option (Int32 × Hp) := (X11_quarters_f h.1 a x1 h.2.1).bind fun p => some (p.1, (h.1, p.2, h.2.2))
theorem cl_quarters_ok {D a : Nat} {x1 : Int32} {h h1 : Hp} {r : Int32} (hD : 7 ≤ D) (hS : ShX11 h.1 a) (e : cl_quarters a x1 h = some (r, h1)) : Ok D 0 0 yX11_quarters cX11_quarters 4 (some .int) [.ref a, .int x1] h (some (.int r)) h1 := by
  obtain ⟨τ, σ, nx⟩ := h
  obtain ⟨⟨v, s⟩, e1, e2⟩ := ob e
  cases e2
  exact X11_quarters_ok hD hS e1
def cl_noise (a : Nat) (x1 : Int32) (x2 : Int32) (h : Hp) : Option (Int32 × Hp) := (X11_noise_f a x1 x2 h.2.1).bind fun r => some (r, h)
theorem cl_noise_ok {D a : Nat} {x1 : Int32} {x2 : Int32} {h h1 : Hp} {r : Int32} (hD : 2 ≤ D) (hS : ShX11 h.1 a) (e : cl_noise a x1 x2 h = some (r, h1)) : Ok D 0 0 yX11_noise cX11_noise 3 (some .int) [.ref a, .int x1, .int x2] h (some (.int r)) h1 := by
  obtain ⟨τ, σ, nx⟩ := h
  obtain ⟨v, e1, e2⟩ := ob e
  cases e2
  exact X11_noise_ok hD hS e1
noncomputable def cl_lend (a : Nat) (x1 : Int32) (x2 : Int32) (x3 : Int32) (h : Hp) : Option (Int32 × Hp) := X11_lend_f h.1 h.2.1 h.2.2 a x1 x2 x3
theorem cl_lend_ok {D a : Nat} {x1 : Int32} {x2 : Int32} {x3 : Int32} {h h1 : Hp} {r : Int32} (hD : 4 ≤ D) (hS : ShX11 h.1 a) (e : cl_lend a x1 x2 x3 h = some (r, h1)) : Ok D 2 246 yX11_lend cX11_lend 4 (some .boolean) [.ref a, .int x1, .int x2, .int x3] h (some (.int r)) h1 := by
  obtain ⟨τ, σ, nx⟩ := h
  exact X11_lend_ok hD e
noncomputable def cl_split (a : Nat) (x1 : Int32) (x2 : Int32) (h : Hp) : Option (Int32 × Hp) := X11_split_f h.1 h.2.1 h.2.2 a x1 x2
theorem cl_split_ok {D a : Nat} {x1 : Int32} {x2 : Int32} {h h1 : Hp} {r : Int32} (hD : 4 ≤ D) (hS : ShX11 h.1 a) (e : cl_split a x1 x2 h = some (r, h1)) : Ok D 2 246 yX11_split cX11_split 3 (some .int) [.ref a, .int x1, .int x2] h (some (.int r)) h1 := by
  obtain ⟨τ, σ, nx⟩ := h
  exact X11_split_ok hD e
noncomputable def cl_inherit (a : Nat) (x1 : Int32) (x2 : Int32) (h : Hp) : Option (Int32 × Hp) := X11_inherit_f h.1 h.2.1 h.2.2 a x1 x2
theorem cl_inherit_ok {D a : Nat} {x1 : Int32} {x2 : Int32} {h h1 : Hp} {r : Int32} (hD : 6 ≤ D) (hS : ShX11 h.1 a) (e : cl_inherit a x1 x2 h = some (r, h1)) : Ok D 2 246 yX11_inherit cX11_inherit 3 (some .int) [.ref a, .int x1, .int x2] h (some (.int r)) h1 := by
  obtain ⟨τ, σ, nx⟩ := h
  exact X11_inherit_ok hD e
noncomputable def cl_sell (a : Nat) (x1 : Int32) (x2 : Int32) (x3 : Int32) (h : Hp) : Option (Int32 × Hp) := X11_sell_f h.1 h.2.1 h.2.2 a x1 x2 x3
theorem cl_sell_ok {D a : Nat} {x1 : Int32} {x2 : Int32} {x3 : Int32} {h h1 : Hp} {r : Int32} (hD : 4 ≤ D) (hS : ShX11 h.1 a) (e : cl_sell a x1 x2 x3 h = some (r, h1)) : Ok D 2 246 yX11_sell cX11_sell 4 (some .boolean) [.ref a, .int x1, .int x2, .int x3] h (some (.int r)) h1 := by
  obtain ⟨τ, σ, nx⟩ := h
  exact X11_sell_ok hD e
noncomputable def cl_undo (a : Nat) (h : Hp) : Option (Int32 × Hp) := X11_undo_f h.1 h.2.1 h.2.2 a
theorem cl_undo_ok {D a : Nat} {h h1 : Hp} {r : Int32} (hD : 5 ≤ D) (hS : ShX11 h.1 a) (e : cl_undo a h = some (r, h1)) : Ok D 0 0 yX11_undo cX11_undo 1 (some .boolean) [.ref a] h (some (.int r)) h1 := by
  obtain ⟨τ, σ, nx⟩ := h
  exact X11_undo_ok hD e
def cl_soonest (a : Nat) (x1 : Int32) (h : Hp) : Option (Int32 × Hp) := (X11_soonest_f a x1 h.2.1).bind fun p => some (p.1, (h.1, p.2, h.2.2))
theorem cl_soonest_ok {D a : Nat} {x1 : Int32} {h h1 : Hp} {r : Int32} (hD : 4 ≤ D) (hS : ShX11 h.1 a) (e : cl_soonest a x1 h = some (r, h1)) : Ok D 0 0 yX11_soonest cX11_soonest 3 (some .int) [.ref a, .int x1] h (some (.int r)) h1 := by
  obtain ⟨τ, σ, nx⟩ := h
  obtain ⟨⟨v, s⟩, e1, e2⟩ := ob e
  cases e2
  exact X11_soonest_ok hD hS e1
noncomputable def cl_whom (a : Nat) (x1 : Int32) (x2 : Int32) (x3 : Int32) (x4 : Int32) (h : Hp) : Option (Int32 × Hp) := (X11_whom_f h.1 a x1 x2 x3 x4 h.2.1).bind fun p => some (p.1, (h.1, p.2, h.2.2))
theorem cl_whom_ok {D a : Nat} {x1 : Int32} {x2 : Int32} {x3 : Int32} {x4 : Int32} {h h1 : Hp} {r : Int32} (hD : 7 ≤ D) (hS : ShX11 h.1 a) (e : cl_whom a x1 x2 x3 x4 h = some (r, h1)) : Ok D 0 0 yX11_whom cX11_whom 5 (some .int) [.ref a, .int x1, .int x2, .int x3, .int x4] h (some (.int r)) h1 := by
  obtain ⟨τ, σ, nx⟩ := h
  obtain ⟨⟨v, s⟩, e1, e2⟩ := ob e
  cases e2
  exact X11_whom_ok hD hS e1
noncomputable def cl_quiet (a : Nat) (x1 : Int32) (x2 : Int32) (h : Hp) : Option (Int32 × Hp) := X11_quiet_f h.1 h.2.1 h.2.2 a x1 x2
theorem cl_quiet_ok {D a : Nat} {x1 : Int32} {x2 : Int32} {h h1 : Hp} {r : Int32} (hD : 8 ≤ D) (hS : ShX11 h.1 a) (e : cl_quiet a x1 x2 h = some (r, h1)) : Ok D 0 0 yX11_quiet cX11_quiet 9 (some .int) [.ref a, .int x1, .int x2] h (some (.int r)) h1 := by
  obtain ⟨τ, σ, nx⟩ := h
  exact X11_quiet_ok hD e
noncomputable def cl_thought (a : Nat) (x1 : Int32) (x2 : Int32) (x3 : Int32) (h : Hp) : Option (Int32 × Hp) := X11_thought_f h.1 h.2.1 h.2.2 a x1 x2 x3
theorem cl_thought_ok {D a : Nat} {x1 : Int32} {x2 : Int32} {x3 : Int32} {h h1 : Hp} {r : Int32} (hD : 8 ≤ D) (hS : ShX11 h.1 a) (e : cl_thought a x1 x2 x3 h = some (r, h1)) : Ok D 0 0 yX11_thought cX11_thought 6 (some .int) [.ref a, .int x1, .int x2, .int x3] h (some (.int r)) h1 := by
  obtain ⟨τ, σ, nx⟩ := h
  exact X11_thought_ok hD e
def cl_person (a : Nat) (x1 : Int32) (x2 : Int32) (h : Hp) : Option (Int32 × Hp) := (X11_person_f a x1 x2 h.2.1).bind fun r => some (r, h)
theorem cl_person_ok {D a : Nat} {x1 : Int32} {x2 : Int32} {h h1 : Hp} {r : Int32} (hD : 3 ≤ D) (hS : ShX11 h.1 a) (e : cl_person a x1 x2 h = some (r, h1)) : Ok D 0 0 yX11_person cX11_person 3 (some .int) [.ref a, .int x1, .int x2] h (some (.int r)) h1 := by
  obtain ⟨τ, σ, nx⟩ := h
  obtain ⟨v, e1, e2⟩ := ob e
  cases e2
  exact X11_person_ok hD hS e1
def cl_book (a : Nat) (x1 : Int32) (x2 : Int32) (h : Hp) : Option (Int32 × Hp) := (X11_book_f a x1 x2 h.2.1).bind fun r => some (r, h)
theorem cl_book_ok {D a : Nat} {x1 : Int32} {x2 : Int32} {h h1 : Hp} {r : Int32} (hD : 2 ≤ D) (hS : ShX11 h.1 a) (e : cl_book a x1 x2 h = some (r, h1)) : Ok D 0 0 yX11_book cX11_book 3 (some .int) [.ref a, .int x1, .int x2] h (some (.int r)) h1 := by
  obtain ⟨τ, σ, nx⟩ := h
  obtain ⟨v, e1, e2⟩ := ob e
  cases e2
  exact X11_book_ok hD hS e1
noncomputable def cl_image (a : Nat) (x1 : Int32) (h : Hp) : Option (Int32 × Hp) := X11_image_f h.1 h.2.1 h.2.2 a x1
theorem cl_image_ok {D a : Nat} {x1 : Int32} {h h1 : Hp} {r : Int32} (hD : 4 ≤ D) (hS : ShX11 h.1 a) (e : cl_image a x1 h = some (r, h1)) : Ok D 35 2694 yX11_image cX11_image 2 (some .boolean) [.ref a, .int x1] h (some (.int r)) h1 := by
  obtain ⟨τ, σ, nx⟩ := h
  exact X11_image_ok hD e
def cl_look (a : Nat) (x1 : Int32) (h : Hp) : Option (Int32 × Hp) := (X11_look_f a x1 h.2.1).bind fun r => some (r, h)
theorem cl_look_ok {D a : Nat} {x1 : Int32} {h h1 : Hp} {r : Int32} (hD : 2 ≤ D) (hS : ShX11 h.1 a) (e : cl_look a x1 h = some (r, h1)) : Ok D 0 0 yX11_look cX11_look 2 (some .int) [.ref a, .int x1] h (some (.int r)) h1 := by
  obtain ⟨τ, σ, nx⟩ := h
  obtain ⟨v, e1, e2⟩ := ob e
  cases e2
  exact X11_look_ok hD hS e1
def re_state (a : Nat) (x1 : Int32) (h : Hp) : Option (Int32 × Hp) := (X12_state_f a x1 h.2.1).bind fun p => some (p.1, (h.1, p.2, h.2.2))
theorem re_state_ok {D a : Nat} {x1 : Int32} {h h1 : Hp} {r : Int32} (hD : 1 ≤ D) (hS : ShX12 h.1 a) (e : re_state a x1 h = some (r, h1)) : Ok D 0 0 yX12_state cX12_state 3 (some .int) [.ref a, .int x1] h (some (.int r)) h1 := by
  obtain ⟨τ, σ, nx⟩ := h
  obtain ⟨⟨v, s⟩, e1, e2⟩ := ob e
  cases e2
  exact X12_state_ok hD hS e1
def re_one (a : Nat) (x1 : Int32) (x2 : Int32) (x3 : Int32) (x4 : Int32) (x5 : Int32) (h : Hp) : Option (Int32 × Hp) := (X12_one_f a x1 x2 x3 x4 x5 h.2.1).bind fun p => some (p.1, (h.1, p.2, h.2.2))
theorem re_one_ok {D a : Nat} {x1 : Int32} {x2 : Int32} {x3 : Int32} {x4 : Int32} {x5 : Int32} {h h1 : Hp} {r : Int32} (hD : 3 ≤ D) (hS : ShX12 h.1 a) (e : re_one a x1 x2 x3 x4 x5 h = some (r, h1)) : Ok D 0 0 yX12_one cX12_one 7 (some .int) [.ref a, .int x1, .int x2, .int x3, .int x4, .int x5] h (some (.int r)) h1 := by
  obtain ⟨τ, σ, nx⟩ := h
  obtain ⟨⟨v, s⟩, e1, e2⟩ := ob e
  cases e2
  exact X12_one_ok hD hS e1
def re_tell (a : Nat) (x1 : Int32) (x2 : Int32) (x3 : Int32) (h : Hp) : Option (Int32 × Hp) := (X12_tell_f a x1 x2 x3 h.2.1).bind fun p => some (p.1, (h.1, p.2, h.2.2))
theorem re_tell_ok {D a : Nat} {x1 : Int32} {x2 : Int32} {x3 : Int32} {h h1 : Hp} {r : Int32} (hD : 3 ≤ D) (hS : ShX12 h.1 a) (e : re_tell a x1 x2 x3 h = some (r, h1)) : Ok D 0 0 yX12_tell cX12_tell 5 (some .boolean) [.ref a, .int x1, .int x2, .int x3] h (some (.int r)) h1 := by
  obtain ⟨τ, σ, nx⟩ := h
  obtain ⟨⟨v, s⟩, e1, e2⟩ := ob e
  cases e2
  exact X12_tell_ok hD hS e1
def re_wall (a : Nat) (x1 : Int32) (x2 : Int32) (x3 : Int32) (h : Hp) : Option (Int32 × Hp) := (X12_wall_f a x1 x2 x3 h.2.1).bind fun p => some (p.1, (h.1, p.2, h.2.2))
theorem re_wall_ok {D a : Nat} {x1 : Int32} {x2 : Int32} {x3 : Int32} {h h1 : Hp} {r : Int32} (hD : 3 ≤ D) (hS : ShX12 h.1 a) (e : re_wall a x1 x2 x3 h = some (r, h1)) : Ok D 0 0 yX12_wall cX12_wall 4 (some .boolean) [.ref a, .int x1, .int x2, .int x3] h (some (.int r)) h1 := by
  obtain ⟨τ, σ, nx⟩ := h
  obtain ⟨⟨v, s⟩, e1, e2⟩ := ob e
  cases e2
  exact X12_wall_ok hD hS e1
def re_set (a : Nat) (x1 : Int32) (x2 : Int32) (h : Hp) : Option (Int32 × Hp) := (X12_set_f a x1 x2 h.2.1).bind fun p => some (p.1, (h.1, p.2, h.2.2))
theorem re_set_ok {D a : Nat} {x1 : Int32} {x2 : Int32} {h h1 : Hp} {r : Int32} (hD : 3 ≤ D) (hS : ShX12 h.1 a) (e : re_set a x1 x2 h = some (r, h1)) : Ok D 0 0 yX12_set cX12_set 4 (some .boolean) [.ref a, .int x1, .int x2] h (some (.int r)) h1 := by
  obtain ⟨τ, σ, nx⟩ := h
  obtain ⟨⟨v, s⟩, e1, e2⟩ := ob e
  cases e2
  exact X12_set_ok hD hS e1
def re_debt (a : Nat) (x1 : Int32) (x2 : Int32) (x3 : Int32) (h : Hp) : Option (Int32 × Hp) := (X12_debt_f a x1 x2 x3 h.2.1).bind fun p => some (p.1, (h.1, p.2, h.2.2))
theorem re_debt_ok {D a : Nat} {x1 : Int32} {x2 : Int32} {x3 : Int32} {h h1 : Hp} {r : Int32} (hD : 3 ≤ D) (hS : ShX12 h.1 a) (e : re_debt a x1 x2 x3 h = some (r, h1)) : Ok D 0 0 yX12_debt cX12_debt 5 (some .int) [.ref a, .int x1, .int x2, .int x3] h (some (.int r)) h1 := by
  obtain ⟨τ, σ, nx⟩ := h
  obtain ⟨⟨v, s⟩, e1, e2⟩ := ob e
  cases e2
  exact X12_debt_ok hD hS e1
def re_helpers (a : Nat) (x1 : Int32) (x2 : Int32) (h : Hp) : Option (Int32 × Hp) := (X12_helpers_f a x1 x2 h.2.1).bind fun p => some (p.1, (h.1, p.2, h.2.2))
theorem re_helpers_ok {D a : Nat} {x1 : Int32} {x2 : Int32} {h h1 : Hp} {r : Int32} (hD : 3 ≤ D) (hS : ShX12 h.1 a) (e : re_helpers a x1 x2 h = some (r, h1)) : Ok D 0 0 yX12_helpers cX12_helpers 3 (some .boolean) [.ref a, .int x1, .int x2] h (some (.int r)) h1 := by
  obtain ⟨τ, σ, nx⟩ := h
  obtain ⟨⟨v, s⟩, e1, e2⟩ := ob e
  cases e2
  exact X12_helpers_ok hD hS e1
def re_of (a : Nat) (x1 : Int32) (x2 : Int32) (h : Hp) : Option (Int32 × Hp) := (X12_of_f a x1 x2 h.2.1).bind fun r => some (r, h)
theorem re_of_ok {D a : Nat} {x1 : Int32} {x2 : Int32} {h h1 : Hp} {r : Int32} (hD : 3 ≤ D) (hS : ShX12 h.1 a) (e : re_of a x1 x2 h = some (r, h1)) : Ok D 0 0 yX12_of cX12_of 3 (some .int) [.ref a, .int x1, .int x2] h (some (.int r)) h1 := by
  obtain ⟨τ, σ, nx⟩ := h
  obtain ⟨v, e1, e2⟩ := ob e
  cases e2
  exact X12_of_ok hD hS e1
def re_feed (a : Nat) (x1 : Int32) (x2 : Int32) (x3 : Int32) (x4 : Int32) (x5 : Int32) (h : Hp) : Option (Int32 × Hp) := (X12_feed_f a x1 x2 x3 x4 x5 h.2.1).bind fun p => some (p.1, (h.1, p.2, h.2.2))
theorem re_feed_ok {D a : Nat} {x1 : Int32} {x2 : Int32} {x3 : Int32} {x4 : Int32} {x5 : Int32} {h h1 : Hp} {r : Int32} (hD : 1 ≤ D) (hS : ShX12 h.1 a) (e : re_feed a x1 x2 x3 x4 x5 h = some (r, h1)) : Ok D 0 0 yX12_feed cX12_feed 8 (some .int) [.ref a, .int x1, .int x2, .int x3, .int x4, .int x5] h (some (.int r)) h1 := by
  obtain ⟨τ, σ, nx⟩ := h
  obtain ⟨⟨v, s⟩, e1, e2⟩ := ob e
  cases e2
  exact X12_feed_ok hD hS e1
def re_end (a : Nat) (x1 : Int32) (h : Hp) : Option (Int32 × Hp) := (X12_end_f a x1 h.2.1).bind fun p => some (p.1, (h.1, p.2, h.2.2))
theorem re_end_ok {D a : Nat} {x1 : Int32} {h h1 : Hp} {r : Int32} (hD : 2 ≤ D) (hS : ShX12 h.1 a) (e : re_end a x1 h = some (r, h1)) : Ok D 0 0 yX12_end cX12_end 2 (some .boolean) [.ref a, .int x1] h (some (.int r)) h1 := by
  obtain ⟨τ, σ, nx⟩ := h
  obtain ⟨⟨v, s⟩, e1, e2⟩ := ob e
  cases e2
  exact X12_end_ok hD hS e1
def re_text (a : Nat) (x1 : Int32) (h : Hp) : Option (Int32 × Hp) := (X12_text_f a x1 h.2.1).bind fun p => some (p.1, (h.1, p.2, h.2.2))
theorem re_text_ok {D a : Nat} {x1 : Int32} {h h1 : Hp} {r : Int32} (hD : 54 ≤ D) (hS : ShX12 h.1 a) (e : re_text a x1 h = some (r, h1)) : Ok D 0 0 yX12_text cX12_text 4 (some .int) [.ref a, .int x1] h (some (.int r)) h1 := by
  obtain ⟨τ, σ, nx⟩ := h
  obtain ⟨⟨v, s⟩, e1, e2⟩ := ob e
  cases e2
  exact X12_text_ok hD hS e1
def re_fault (a : Nat) (x1 : Int32) (h : Hp) : Option (Int32 × Hp) := (X12_fault_f a x1 h.2.1).bind fun r => some (r, h)
theorem re_fault_ok {D a : Nat} {x1 : Int32} {h h1 : Hp} {r : Int32} (hD : 1 ≤ D) (hS : ShX12 h.1 a) (e : re_fault a x1 h = some (r, h1)) : Ok D 0 0 yX12_fault cX12_fault 2 (some .int) [.ref a, .int x1] h (some (.int r)) h1 := by
  obtain ⟨τ, σ, nx⟩ := h
  obtain ⟨v, e1, e2⟩ := ob e
  cases e2
  exact X12_fault_ok hD hS e1
def re_does (a : Nat) (x1 : Int32) (h : Hp) : Option (Int32 × Hp) := (X12_does_f a x1 h.2.1).bind fun p => some (p.1, (h.1, p.2, h.2.2))
theorem re_does_ok {D a : Nat} {x1 : Int32} {h h1 : Hp} {r : Int32} (hD : 5 ≤ D) (hS : ShX12 h.1 a) (e : re_does a x1 h = some (r, h1)) : Ok D 0 0 yX12_does cX12_does 3 (some .int) [.ref a, .int x1] h (some (.int r)) h1 := by
  obtain ⟨τ, σ, nx⟩ := h
  obtain ⟨⟨v, s⟩, e1, e2⟩ := ob e
  cases e2
  exact X12_does_ok hD hS e1
def re_word (a : Nat) (x1 : Int32) (x2 : Int32) (x3 : Int32) (x4 : Int32) (x5 : Int32) (x6 : Int32) (h : Hp) : Option (Int32 × Hp) := (X12_word_f a x1 x2 x3 x4 x5 x6 h.2.1).bind fun p => some (p.1, (h.1, p.2, h.2.2))
theorem re_word_ok {D a : Nat} {x1 : Int32} {x2 : Int32} {x3 : Int32} {x4 : Int32} {x5 : Int32} {x6 : Int32} {h h1 : Hp} {r : Int32} (hD : 5 ≤ D) (hS : ShX12 h.1 a) (e : re_word a x1 x2 x3 x4 x5 x6 h = some (r, h1)) : Ok D 0 0 yX12_word cX12_word 7 (some .int) [.ref a, .int x1, .int x2, .int x3, .int x4, .int x5, .int x6] h (some (.int r)) h1 := by
  obtain ⟨τ, σ, nx⟩ := h
  obtain ⟨⟨v, s⟩, e1, e2⟩ := ob e
  cases e2
  exact X12_word_ok hD hS e1
def re_quarters (a : Nat) (x1 : Int32) (h : Hp) : Option (Int32 × Hp) := (X12_quarters_f a x1 h.2.1).bind fun p => some (p.1, (h.1, p.2, h.2.2))
theorem re_quarters_ok {D a : Nat} {x1 : Int32} {h h1 : Hp} {r : Int32} (hD : 8 ≤ D) (hS : ShX12 h.1 a) (e : re_quarters a x1 h = some (r, h1)) : Ok D 0 0 yX12_quarters cX12_quarters 4 (some .int) [.ref a, .int x1] h (some (.int r)) h1 := by
  obtain ⟨τ, σ, nx⟩ := h
  obtain ⟨⟨v, s⟩, e1, e2⟩ := ob e
  cases e2
  exact X12_quarters_ok hD hS e1
def re_noise (a : Nat) (x1 : Int32) (x2 : Int32) (h : Hp) : Option (Int32 × Hp) := (X12_noise_f a x1 x2 h.2.1).bind fun r => some (r, h)
theorem re_noise_ok {D a : Nat} {x1 : Int32} {x2 : Int32} {h h1 : Hp} {r : Int32} (hD : 3 ≤ D) (hS : ShX12 h.1 a) (e : re_noise a x1 x2 h = some (r, h1)) : Ok D 0 0 yX12_noise cX12_noise 3 (some .int) [.ref a, .int x1, .int x2] h (some (.int r)) h1 := by
  obtain ⟨τ, σ, nx⟩ := h
  obtain ⟨v, e1, e2⟩ := ob e
  cases e2
  exact X12_noise_ok hD hS e1
def re_lend (a : Nat) (x1 : Int32) (x2 : Int32) (x3 : Int32) (h : Hp) : Option (Int32 × Hp) := (X12_lend_f a x1 x2 x3 h.2.1).bind fun p => some (p.1, (h.1, p.2, h.2.2))
theorem re_lend_ok {D a : Nat} {x1 : Int32} {x2 : Int32} {x3 : Int32} {h h1 : Hp} {r : Int32} (hD : 4 ≤ D) (hS : ShX12 h.1 a) (e : re_lend a x1 x2 x3 h = some (r, h1)) : Ok D 0 0 yX12_lend cX12_lend 4 (some .boolean) [.ref a, .int x1, .int x2, .int x3] h (some (.int r)) h1 := by
  obtain ⟨τ, σ, nx⟩ := h
  obtain ⟨⟨v, s⟩, e1, e2⟩ := ob e
  cases e2
  exact X12_lend_ok hD hS e1
def re_split (a : Nat) (x1 : Int32) (x2 : Int32) (h : Hp) : Option (Int32 × Hp) := (X12_split_f a x1 x2 h.2.1).bind fun p => some (p.1, (h.1, p.2, h.2.2))
theorem re_split_ok {D a : Nat} {x1 : Int32} {x2 : Int32} {h h1 : Hp} {r : Int32} (hD : 4 ≤ D) (hS : ShX12 h.1 a) (e : re_split a x1 x2 h = some (r, h1)) : Ok D 0 0 yX12_split cX12_split 5 (some .int) [.ref a, .int x1, .int x2] h (some (.int r)) h1 := by
  obtain ⟨τ, σ, nx⟩ := h
  obtain ⟨⟨v, s⟩, e1, e2⟩ := ob e
  cases e2
  exact X12_split_ok hD hS e1
def re_inherit (a : Nat) (x1 : Int32) (x2 : Int32) (h : Hp) : Option (Int32 × Hp) := (X12_inherit_f a x1 x2 h.2.1).bind fun p => some (p.1, (h.1, p.2, h.2.2))
theorem re_inherit_ok {D a : Nat} {x1 : Int32} {x2 : Int32} {h h1 : Hp} {r : Int32} (hD : 4 ≤ D) (hS : ShX12 h.1 a) (e : re_inherit a x1 x2 h = some (r, h1)) : Ok D 0 0 yX12_inherit cX12_inherit 5 (some .int) [.ref a, .int x1, .int x2] h (some (.int r)) h1 := by
  obtain ⟨τ, σ, nx⟩ := h
  obtain ⟨⟨v, s⟩, e1, e2⟩ := ob e
  cases e2
  exact X12_inherit_ok hD hS e1
def re_sell (a : Nat) (x1 : Int32) (x2 : Int32) (x3 : Int32) (h : Hp) : Option (Int32 × Hp) := (X12_sell_f a x1 x2 x3 h.2.1).bind fun p => some (p.1, (h.1, p.2, h.2.2))
theorem re_sell_ok {D a : Nat} {x1 : Int32} {x2 : Int32} {x3 : Int32} {h h1 : Hp} {r : Int32} (hD : 4 ≤ D) (hS : ShX12 h.1 a) (e : re_sell a x1 x2 x3 h = some (r, h1)) : Ok D 0 0 yX12_sell cX12_sell 4 (some .boolean) [.ref a, .int x1, .int x2, .int x3] h (some (.int r)) h1 := by
  obtain ⟨τ, σ, nx⟩ := h
  obtain ⟨⟨v, s⟩, e1, e2⟩ := ob e
  cases e2
  exact X12_sell_ok hD hS e1
def re_undo (a : Nat) (h : Hp) : Option (Int32 × Hp) := (X12_undo_f a h.2.1).bind fun p => some (p.1, (h.1, p.2, h.2.2))
theorem re_undo_ok {D a : Nat} {h h1 : Hp} {r : Int32} (hD : 3 ≤ D) (hS : ShX12 h.1 a) (e : re_undo a h = some (r, h1)) : Ok D 0 0 yX12_undo cX12_undo 6 (some .boolean) [.ref a] h (some (.int r)) h1 := by
  obtain ⟨τ, σ, nx⟩ := h
  obtain ⟨⟨v, s⟩, e1, e2⟩ := ob e
  cases e2
  exact X12_undo_ok hD hS e1
def re_soonest (a : Nat) (x1 : Int32) (h : Hp) : Option (Int32 × Hp) := (X12_soonest_f a x1 h.2.1).bind fun p => some (p.1, (h.1, p.2, h.2.2))
theorem re_soonest_ok {D a : Nat} {x1 : Int32} {h h1 : Hp} {r : Int32} (hD : 5 ≤ D) (hS : ShX12 h.1 a) (e : re_soonest a x1 h = some (r, h1)) : Ok D 0 0 yX12_soonest cX12_soonest 6 (some .int) [.ref a, .int x1] h (some (.int r)) h1 := by
  obtain ⟨τ, σ, nx⟩ := h
  obtain ⟨⟨v, s⟩, e1, e2⟩ := ob e
  cases e2
  exact X12_soonest_ok hD hS e1
def re_whom (a : Nat) (x1 : Int32) (x2 : Int32) (x3 : Int32) (x4 : Int32) (h : Hp) : Option (Int32 × Hp) := (X12_whom_f a x1 x2 x3 x4 h.2.1).bind fun p => some (p.1, (h.1, p.2, h.2.2))
theorem re_whom_ok {D a : Nat} {x1 : Int32} {x2 : Int32} {x3 : Int32} {x4 : Int32} {h h1 : Hp} {r : Int32} (hD : 7 ≤ D) (hS : ShX12 h.1 a) (e : re_whom a x1 x2 x3 x4 h = some (r, h1)) : Ok D 0 0 yX12_whom cX12_whom 7 (some .int) [.ref a, .int x1, .int x2, .int x3, .int x4] h (some (.int r)) h1 := by
  obtain ⟨τ, σ, nx⟩ := h
  obtain ⟨⟨v, s⟩, e1, e2⟩ := ob e
  cases e2
  exact X12_whom_ok hD hS e1
def re_quiet (a : Nat) (x1 : Int32) (x2 : Int32) (h : Hp) : Option (Int32 × Hp) := (X12_quiet_f a x1 x2 h.2.1).bind fun p => some (p.1, (h.1, p.2, h.2.2))
theorem re_quiet_ok {D a : Nat} {x1 : Int32} {x2 : Int32} {h h1 : Hp} {r : Int32} (hD : 8 ≤ D) (hS : ShX12 h.1 a) (e : re_quiet a x1 x2 h = some (r, h1)) : Ok D 0 0 yX12_quiet cX12_quiet 9 (some .int) [.ref a, .int x1, .int x2] h (some (.int r)) h1 := by
  obtain ⟨τ, σ, nx⟩ := h
  obtain ⟨⟨v, s⟩, e1, e2⟩ := ob e
  cases e2
  exact X12_quiet_ok hD hS e1
def re_thought (a : Nat) (x1 : Int32) (x2 : Int32) (x3 : Int32) (h : Hp) : Option (Int32 × Hp) := (X12_thought_f a x1 x2 x3 h.2.1).bind fun p => some (p.1, (h.1, p.2, h.2.2))
theorem re_thought_ok {D a : Nat} {x1 : Int32} {x2 : Int32} {x3 : Int32} {h h1 : Hp} {r : Int32} (hD : 9 ≤ D) (hS : ShX12 h.1 a) (e : re_thought a x1 x2 x3 h = some (r, h1)) : Ok D 0 0 yX12_thought cX12_thought 6 (some .int) [.ref a, .int x1, .int x2, .int x3] h (some (.int r)) h1 := by
  obtain ⟨τ, σ, nx⟩ := h
  obtain ⟨⟨v, s⟩, e1, e2⟩ := ob e
  cases e2
  exact X12_thought_ok hD hS e1
def re_person (a : Nat) (x1 : Int32) (x2 : Int32) (h : Hp) : Option (Int32 × Hp) := (X12_person_f a x1 x2 h.2.1).bind fun r => some (r, h)
theorem re_person_ok {D a : Nat} {x1 : Int32} {x2 : Int32} {h h1 : Hp} {r : Int32} (hD : 4 ≤ D) (hS : ShX12 h.1 a) (e : re_person a x1 x2 h = some (r, h1)) : Ok D 0 0 yX12_person cX12_person 3 (some .int) [.ref a, .int x1, .int x2] h (some (.int r)) h1 := by
  obtain ⟨τ, σ, nx⟩ := h
  obtain ⟨v, e1, e2⟩ := ob e
  cases e2
  exact X12_person_ok hD hS e1
def re_book (a : Nat) (x1 : Int32) (x2 : Int32) (h : Hp) : Option (Int32 × Hp) := (X12_book_f a x1 x2 h.2.1).bind fun r => some (r, h)
theorem re_book_ok {D a : Nat} {x1 : Int32} {x2 : Int32} {h h1 : Hp} {r : Int32} (hD : 2 ≤ D) (hS : ShX12 h.1 a) (e : re_book a x1 x2 h = some (r, h1)) : Ok D 0 0 yX12_book cX12_book 3 (some .int) [.ref a, .int x1, .int x2] h (some (.int r)) h1 := by
  obtain ⟨τ, σ, nx⟩ := h
  obtain ⟨v, e1, e2⟩ := ob e
  cases e2
  exact X12_book_ok hD hS e1
def re_image (a : Nat) (x1 : Int32) (h : Hp) : Option (Int32 × Hp) := (X12_image_f a x1 h.2.1).bind fun p => some (p.1, (h.1, p.2, h.2.2))
theorem re_image_ok {D a : Nat} {x1 : Int32} {h h1 : Hp} {r : Int32} (hD : 1 ≤ D) (hS : ShX12 h.1 a) (e : re_image a x1 h = some (r, h1)) : Ok D 0 0 yX12_image cX12_image 3 (some .boolean) [.ref a, .int x1] h (some (.int r)) h1 := by
  obtain ⟨τ, σ, nx⟩ := h
  obtain ⟨⟨v, s⟩, e1, e2⟩ := ob e
  cases e2
  exact X12_image_ok hD hS e1
def re_look (a : Nat) (x1 : Int32) (h : Hp) : Option (Int32 × Hp) := (X12_look_f a x1 h.2.1).bind fun r => some (r, h)
theorem re_look_ok {D a : Nat} {x1 : Int32} {h h1 : Hp} {r : Int32} (hD : 2 ≤ D) (hS : ShX12 h.1 a) (e : re_look a x1 h = some (r, h1)) : Ok D 0 0 yX12_look cX12_look 4 (some .int) [.ref a, .int x1] h (some (.int r)) h1 := by
  obtain ⟨τ, σ, nx⟩ := h
  obtain ⟨v, e1, e2⟩ := ob e
  cases e2
  exact X12_look_ok hD hS e1

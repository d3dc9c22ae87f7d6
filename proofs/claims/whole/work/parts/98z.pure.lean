/-! ALL but the texts. -/
theorem pure_of (ht : ∀ A b, St_text (Inv A b) A (A + 84)) : Pure := by
  refine ⟨fun base j => Inv base (11520 * j), init_ok (11520 * 0), fun base j h hI => hI.mono (by omega), fun base j hj => ?_⟩
  have hb : 11520 * j ≤ 10000000 := by omega
  refine ⟨fun h hI => hI.s1, st_state _ _, st_one _ _, st_tell _ _, st_wall _ _, st_set _ _, st_debt _ _, st_helpers _ _, st_of _ _, st_feed _ _, st_end _ _, ht _ _, st_fault _ _, st_does _ _, st_word _ _, ?_, st_noise _ _, st_lend _ _, st_split _ _, st_inherit _ _, st_sell _ _, st_undo _ _, st_soonest _ _, st_whom _ _, st_quiet _ _ hb, st_thought _ _ hb, st_person _ _, st_book _ _, st_image _ _, st_look _ _⟩
  have := st_quarters base (11520 * j)
  rw [show 11520 * j + 11520 = 11520 * (j + 1) by omega] at this
  exact this

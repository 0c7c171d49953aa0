/-! the whole of the law -/
theorem xq_set (ρ : Nat → Int32) : ∃ rg, xokR ρ rg ∧ xpair false rg 66 124 3 = true := ⟨_, xrg0_ok ρ, xp_set⟩
theorem xq_house (ρ : Nat → Int32) : ∃ rg, xokR ρ rg ∧ xpair false rg 67 128 2 = true := ⟨_, xrg0_ok ρ, xp_house⟩
theorem xq_bind (ρ : Nat → Int32) : ∃ rg, xokR ρ rg ∧ xpair false rg 68 130 3 = true := ⟨_, xrg0_ok ρ, xp_bind⟩
theorem xq_told (ρ : Nat → Int32) : ∃ rg, xokR ρ rg ∧ xpair false rg 69 131 2 = true := ⟨_, xrg0_ok ρ, xp_told⟩
theorem xq_feed (ρ : Nat → Int32) : ∃ rg, xokR ρ rg ∧ xpair false rg 70 133 1 = true := ⟨_, xrg0_ok ρ, xp_feed⟩
theorem xq_text (ρ : Nat → Int32) : ∃ rg, xokR ρ rg ∧ xpair false rg 71 180 0 = true := ⟨_, xrg0_ok ρ, xp_text⟩
theorem xq_force (ρ : Nat → Int32) : ∃ rg, xokR ρ rg ∧ xpair false rg 72 181 1 = true := ⟨_, xrg0_ok ρ, xp_force⟩
theorem xq_asks (ρ : Nat → Int32) : ∃ rg, xokR ρ rg ∧ xpair false rg 73 187 3 = true := ⟨_, xrg0_ok ρ, xp_asks⟩
theorem xq_feast (ρ : Nat → Int32) : ∃ rg, xokR ρ rg ∧ xpair false rg 74 190 0 = true := ⟨_, xrg0_ok ρ, xp_feast⟩
theorem xq_year (ρ : Nat → Int32) : ∃ rg, xokR ρ rg ∧ xpair false rg 75 191 0 = true := ⟨_, xrg0_ok ρ, xp_year⟩
theorem xq_street (ρ : Nat → Int32) : ∃ rg, xokR ρ rg ∧ xpair false rg 76 201 1 = true := ⟨_, xrg0_ok ρ, xp_street⟩
theorem xq_way (ρ : Nat → Int32) : ∃ rg, xokR ρ rg ∧ xpair false rg 77 202 2 = true := ⟨_, xrg0_ok ρ, xp_way⟩
theorem xq_best (ρ : Nat → Int32) : ∃ rg, xokR ρ rg ∧ xpair false rg 80 209 3 = true := ⟨_, xrg0_ok ρ, xp_best⟩
theorem xq_missed (ρ : Nat → Int32) : ∃ rg, xokR ρ rg ∧ xpair false rg 83 214 1 = true := ⟨_, xrg0_ok ρ, xp_missed⟩
theorem xq_match (ρ : Nat → Int32) : ∃ rg, xokR ρ rg ∧ xpair false rg 84 215 1 = true := ⟨_, xrg0_ok ρ, xp_match⟩
theorem xq_tells (ρ : Nat → Int32) : ∃ rg, xokR ρ rg ∧ xpair false rg 85 218 3 = true := ⟨_, xrg0_ok ρ, xp_tells⟩
theorem xq_film (ρ : Nat → Int32) : ∃ rg, xokR ρ rg ∧ xpair false rg 86 219 2 = true := ⟨_, xrg0_ok ρ, xp_film⟩
theorem xq_image (ρ : Nat → Int32) : ∃ rg, xokR ρ rg ∧ xpair false rg 89 223 0 = true := ⟨_, xrg0_ok ρ, xp_image⟩
theorem xq_back (ρ : Nat → Int32) : ∃ rg, xokR ρ rg ∧ xpair false rg 90 224 0 = true := ⟨_, xrg0_ok ρ, xp_back⟩
theorem xq_count (ρ : Nat → Int32) : ∃ rg, xokR ρ rg ∧ xpair false rg 91 225 1 = true := ⟨_, xrg0_ok ρ, xp_count⟩
theorem xq_sheet (ρ : Nat → Int32) : ∃ rg, xokR ρ rg ∧ xpair false rg 92 227 3 = true := ⟨_, xrg0_ok ρ, xp_sheet⟩
theorem xq_cell (ρ : Nat → Int32) : ∃ rg, xokR ρ rg ∧ xpair false rg 93 228 3 = true := ⟨_, xrg0_ok ρ, xp_cell⟩
theorem xq_copy (ρ : Nat → Int32) : ∃ rg, xokR ρ rg ∧ xpair false rg 94 229 5 = true := ⟨_, xrg0_ok ρ, xp_copy⟩
theorem xq_houses (ρ : Nat → Int32) : ∃ rg, xokR ρ rg ∧ xpair false rg 95 230 4 = true := ⟨_, xrg0_ok ρ, xp_houses⟩
theorem xq_taken (ρ : Nat → Int32) : ∃ rg, xokR ρ rg ∧ xpair false rg 96 232 2 = true := ⟨_, xrg0_ok ρ, xp_taken⟩
theorem xq_split (ρ : Nat → Int32) : ∃ rg, xokR ρ rg ∧ xpair false rg 82 213 2 = true := ⟨_, xrg_5 (xfull_ok _) (xfull_ok _) (xfull_ok _) (xfull_ok _) (xfull_ok _), xp_split0⟩
theorem xq_drawn (ρ : Nat → Int32) : ∃ rg, xokR ρ rg ∧ xpair false rg 87 221 2 = true := ⟨_, xrg_5 (xfull_ok _) (xfull_ok _) (xfull_ok _) (xfull_ok _) (xfull_ok _), xp_drawn0⟩
theorem xq_run (ρ : Nat → Int32) : ∃ rg, xokR ρ rg ∧ xpair false rg 78 206 2 = true := by
  rcases xcut (ρ 0) 6 7 rfl with h | h
  · exact ⟨_, xrg_5 h (xfull_ok _) (xfull_ok _) (xfull_ok _) (xfull_ok _), xp_run0⟩
  rcases xcut2 (ρ 0) 7 13 14 rfl h with h | h
  · exact ⟨_, xrg_5 h (xfull_ok _) (xfull_ok _) (xfull_ok _) (xfull_ok _), xp_run1⟩
  rcases xcut2 (ρ 0) 14 20 21 rfl h with h | h
  · exact ⟨_, xrg_5 h (xfull_ok _) (xfull_ok _) (xfull_ok _) (xfull_ok _), xp_run2⟩
  exact ⟨_, xrg_5 (xcut3 _ _ h) (xfull_ok _) (xfull_ok _) (xfull_ok _) (xfull_ok _), xp_run3⟩
theorem xq_takes (ρ : Nat → Int32) : ∃ rg, xokR ρ rg ∧ xpair false rg 79 208 1 = true := by
  rcases xcut (ρ 0) 14 15 rfl with h | h
  · exact ⟨_, xrg_5 h (xfull_ok _) (xfull_ok _) (xfull_ok _) (xfull_ok _), xp_takes0⟩
  exact ⟨_, xrg_5 (xcut3 _ _ h) (xfull_ok _) (xfull_ok _) (xfull_ok _) (xfull_ok _), xp_takes1⟩
theorem xq_change (ρ : Nat → Int32) : ∃ rg, xokR ρ rg ∧ xpair false rg 81 210 2 = true := by
  rcases xcut (ρ 0) 9 10 rfl with h | h
  · exact ⟨_, xrg_5 h (xfull_ok _) (xfull_ok _) (xfull_ok _) (xfull_ok _), xp_change0⟩
  rcases xcut2 (ρ 0) 10 19 20 rfl h with h | h
  · exact ⟨_, xrg_5 h (xfull_ok _) (xfull_ok _) (xfull_ok _) (xfull_ok _), xp_change1⟩
  exact ⟨_, xrg_5 (xcut3 _ _ h) (xfull_ok _) (xfull_ok _) (xfull_ok _) (xfull_ok _), xp_change2⟩
theorem xq_chance (ρ : Nat → Int32) : ∃ rg, xokR ρ rg ∧ xpair true rg 88 222 4 = true := by
  rcases xcut (ρ 1) 19 20 rfl with u | u <;> rcases xcut (ρ 2) 0 1 rfl with h | h <;> rcases xcut (ρ 3) 0 1 rfl with g | g
  · exact ⟨_, xrg_5 (xfull_ok _) u h g (xfull_ok _), xp_chance0⟩
  · exact ⟨_, xrg_5 (xfull_ok _) u h (xcut3 _ _ g) (xfull_ok _), xp_chance1⟩
  · rcases xcut2 (ρ 2) 1 27 28 rfl h with h | h
    · exact ⟨_, xrg_5 (xfull_ok _) u h g (xfull_ok _), xp_chance2⟩
    · exact ⟨_, xrg_5 (xfull_ok _) u (xcut3 _ _ h) g (xfull_ok _), xp_chance4⟩
  · rcases xcut2 (ρ 2) 1 27 28 rfl h with h | h
    · exact ⟨_, xrg_5 (xfull_ok _) u h (xcut3 _ _ g) (xfull_ok _), xp_chance3⟩
    · exact ⟨_, xrg_5 (xfull_ok _) u (xcut3 _ _ h) (xcut3 _ _ g) (xfull_ok _), xp_chance5⟩
  · exact ⟨_, xrg_5 (xfull_ok _) (xcut3 _ _ u) h g (xfull_ok _), xp_chance6⟩
  · exact ⟨_, xrg_5 (xfull_ok _) (xcut3 _ _ u) h (xcut3 _ _ g) (xfull_ok _), xp_chance7⟩
  · rcases xcut2 (ρ 2) 1 27 28 rfl h with h | h
    · exact ⟨_, xrg_5 (xfull_ok _) (xcut3 _ _ u) h g (xfull_ok _), xp_chance8⟩
    · exact ⟨_, xrg_5 (xfull_ok _) (xcut3 _ _ u) (xcut3 _ _ h) g (xfull_ok _), xp_chance10⟩
  · rcases xcut2 (ρ 2) 1 27 28 rfl h with h | h
    · exact ⟨_, xrg_5 (xfull_ok _) (xcut3 _ _ u) h (xcut3 _ _ g) (xfull_ok _), xp_chance9⟩
    · exact ⟨_, xrg_5 (xfull_ok _) (xcut3 _ _ u) (xcut3 _ _ h) (xcut3 _ _ g) (xfull_ok _), xp_chance11⟩

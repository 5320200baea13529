/-! a token leaves the model at a place of the text -/
theorem zTkO_le {T : Nat → Int32} {m b : Nat} {old : Int32} {S : Nat → Nat → Int32} (hb : b ≤ m) : (zTkO T m b old (zthen S m b)).1 ≤ m := by
  unfold zTkO
  split
  · exact hb
  · rename_i h
    split
    · exact (zend_le (p := fun q => zcs1 (T q)) (m := m) (m - b) b (by omega)).2
    · split
      · exact (zend_le (p := fun q => zcd1 (T q)) (m := m) (m - b) b (by omega)).2
      · show zsgN (T b).toInt (zthen S m b) b ≤ m
        unfold zthen
        by_cases h3 : b + 1 < m
        · rw [if_pos h3]
          unfold zsgN
          split <;> omega
        · rw [if_neg h3]
          unfold zsgN
          rw [if_neg (by omega)]
          omega
theorem zTok2_pos {S S' : Nat → Nat → Int32} {m b : Nat} (h : zTok2 S S' m b) (hb : b ≤ m) (hm : m ≤ 600) (h6 : S 0 6 = Int32.ofInt (m : Int)) : ∃ a, zPos m a S' ∧ S' 1 = S 1 ∧ S' 2 = S 2 := by
  obtain ⟨h1, h2, h3, h4, h5, h7⟩ := h
  exact ⟨_, ⟨(h2 6 (by decide) (by decide) (by decide) (by decide)).trans h6, h4, zTkO_le hb, hm⟩, h1 1 (by decide), h1 2 (by decide)⟩

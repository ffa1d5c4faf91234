/-! the reference's write: its other copies are its copy for (tried, shown) -/
theorem weq_fr_pairs_word (a0 a1 a2 a3 k : Nat) : fr_MO_pairs_word a0 a1 a2 a3 k = fr_MO_pairs_tried a0 a1 a2 a3 k := rfl
theorem weq_pairs_word (a0 a1 a2 a3 : Nat) : f_MO_pairs_word a0 a1 a2 a3 = f_MO_pairs_tried a0 a1 a2 a3 := by
  unfold f_MO_pairs_word f_MO_pairs_tried e_MO_pairs_word e_MO_pairs_tried
  rw [weq_fr_pairs_word]
theorem weq_nodeAt_word (a0 a1 a2 : Nat) : f_MO_nodeAt_word a0 a1 a2 = f_MO_nodeAt_tried a0 a1 a2 := rfl
theorem weq_fr_showPlane_note (a0 a1 a2 k : Nat) : fr_MO_showPlane_note a0 a1 a2 k = fr_MO_showPlane_shown a0 a1 a2 k := rfl
theorem weq_showPlane_note (a0 a1 a2 : Nat) : f_MO_showPlane_note a0 a1 a2 = f_MO_showPlane_shown a0 a1 a2 := by
  unfold f_MO_showPlane_note f_MO_showPlane_shown e_MO_showPlane_note e_MO_showPlane_shown
  rw [weq_fr_showPlane_note]
theorem weq_fr_showBinary_word_note (a0 a1 a2 a3 a4 k : Nat) : fr_MO_showBinary_word_note a0 a1 a2 a3 a4 k = fr_MO_showBinary_tried_shown a0 a1 a2 a3 a4 k := rfl
theorem weq_showBinary_word_note (a0 a1 a2 a3 a4 : Nat) : f_MO_showBinary_word_note a0 a1 a2 a3 a4 = f_MO_showBinary_tried_shown a0 a1 a2 a3 a4 := by
  unfold f_MO_showBinary_word_note f_MO_showBinary_tried_shown e_MO_showBinary_word_note e_MO_showBinary_tried_shown
  rw [weq_fr_showBinary_word_note]
theorem weq_fr_showBinary_word_shown (a0 a1 a2 a3 a4 k : Nat) : fr_MO_showBinary_word_shown a0 a1 a2 a3 a4 k = fr_MO_showBinary_tried_shown a0 a1 a2 a3 a4 k := rfl
theorem weq_showBinary_word_shown (a0 a1 a2 a3 a4 : Nat) : f_MO_showBinary_word_shown a0 a1 a2 a3 a4 = f_MO_showBinary_tried_shown a0 a1 a2 a3 a4 := by
  unfold f_MO_showBinary_word_shown f_MO_showBinary_tried_shown e_MO_showBinary_word_shown e_MO_showBinary_tried_shown
  rw [weq_fr_showBinary_word_shown]
theorem weq_fr_showDiagonals_word_note (a0 a1 a2 a3 a4 a5 a6 k : Nat) : fr_MO_showDiagonals_word_note a0 a1 a2 a3 a4 a5 a6 k = fr_MO_showDiagonals_tried_shown a0 a1 a2 a3 a4 a5 a6 k := rfl
theorem weq_showDiagonals_word_note (a0 a1 a2 a3 a4 a5 a6 : Nat) : f_MO_showDiagonals_word_note a0 a1 a2 a3 a4 a5 a6 = f_MO_showDiagonals_tried_shown a0 a1 a2 a3 a4 a5 a6 := by
  unfold f_MO_showDiagonals_word_note f_MO_showDiagonals_tried_shown e_MO_showDiagonals_word_note e_MO_showDiagonals_tried_shown
  rw [weq_fr_showDiagonals_word_note]
theorem weq_fr_showDiagonals_word_shown (a0 a1 a2 a3 a4 a5 a6 k : Nat) : fr_MO_showDiagonals_word_shown a0 a1 a2 a3 a4 a5 a6 k = fr_MO_showDiagonals_tried_shown a0 a1 a2 a3 a4 a5 a6 k := rfl
theorem weq_showDiagonals_word_shown (a0 a1 a2 a3 a4 a5 a6 : Nat) : f_MO_showDiagonals_word_shown a0 a1 a2 a3 a4 a5 a6 = f_MO_showDiagonals_tried_shown a0 a1 a2 a3 a4 a5 a6 := by
  unfold f_MO_showDiagonals_word_shown f_MO_showDiagonals_tried_shown e_MO_showDiagonals_word_shown e_MO_showDiagonals_tried_shown
  rw [weq_fr_showDiagonals_word_shown]
theorem weq_fr_showBlocks_word_note (a0 a1 a2 a3 k : Nat) : fr_MO_showBlocks_word_note a0 a1 a2 a3 k = fr_MO_showBlocks_tried_shown a0 a1 a2 a3 k := rfl
theorem weq_showBlocks_word_note (a0 a1 a2 a3 : Nat) : f_MO_showBlocks_word_note a0 a1 a2 a3 = f_MO_showBlocks_tried_shown a0 a1 a2 a3 := by
  unfold f_MO_showBlocks_word_note f_MO_showBlocks_tried_shown e_MO_showBlocks_word_note e_MO_showBlocks_tried_shown
  rw [weq_fr_showBlocks_word_note]
theorem weq_fr_showBlocks_word_shown (a0 a1 a2 a3 k : Nat) : fr_MO_showBlocks_word_shown a0 a1 a2 a3 k = fr_MO_showBlocks_tried_shown a0 a1 a2 a3 k := rfl
theorem weq_showBlocks_word_shown (a0 a1 a2 a3 : Nat) : f_MO_showBlocks_word_shown a0 a1 a2 a3 = f_MO_showBlocks_tried_shown a0 a1 a2 a3 := by
  unfold f_MO_showBlocks_word_shown f_MO_showBlocks_tried_shown e_MO_showBlocks_word_shown e_MO_showBlocks_tried_shown
  rw [weq_fr_showBlocks_word_shown]
theorem weq_fr_showPermutation_word_note (a0 a1 a2 a3 k : Nat) : fr_MO_showPermutation_word_note a0 a1 a2 a3 k = fr_MO_showPermutation_tried_shown a0 a1 a2 a3 k := rfl
theorem weq_showPermutation_word_note (a0 a1 a2 a3 : Nat) : f_MO_showPermutation_word_note a0 a1 a2 a3 = f_MO_showPermutation_tried_shown a0 a1 a2 a3 := by
  unfold f_MO_showPermutation_word_note f_MO_showPermutation_tried_shown e_MO_showPermutation_word_note e_MO_showPermutation_tried_shown
  rw [weq_fr_showPermutation_word_note]
theorem weq_fr_showPermutation_word_shown (a0 a1 a2 a3 k : Nat) : fr_MO_showPermutation_word_shown a0 a1 a2 a3 k = fr_MO_showPermutation_tried_shown a0 a1 a2 a3 k := rfl
theorem weq_showPermutation_word_shown (a0 a1 a2 a3 : Nat) : f_MO_showPermutation_word_shown a0 a1 a2 a3 = f_MO_showPermutation_tried_shown a0 a1 a2 a3 := by
  unfold f_MO_showPermutation_word_shown f_MO_showPermutation_tried_shown e_MO_showPermutation_word_shown e_MO_showPermutation_tried_shown
  rw [weq_fr_showPermutation_word_shown]
theorem weq_fr_write_word_note (a0 a1 a2 a3 a4 a5 a6 a7 a8 k : Nat) : fr_MO_write_word_note a0 a1 a2 a3 a4 a5 a6 a7 a8 k = fr_MO_write_tried_shown a0 a1 a2 a3 a4 a5 a6 a7 a8 k := Eq.trans rfl rfl
theorem weq_write_word_note (a0 a1 a2 a3 a4 a5 a6 a7 a8 : Nat) : f_MO_write_word_note a0 a1 a2 a3 a4 a5 a6 a7 a8 = f_MO_write_tried_shown a0 a1 a2 a3 a4 a5 a6 a7 a8 := by
  unfold f_MO_write_word_note f_MO_write_tried_shown e_MO_write_word_note e_MO_write_tried_shown
  simp only [weq_fr_write_word_note, weq_pairs_word, weq_showBinary_word_note, weq_showDiagonals_word_note, weq_showBlocks_word_note, weq_showPermutation_word_note, weq_showPlane_note]
theorem weq_fr_write_word_shown (a0 a1 a2 a3 a4 a5 a6 a7 a8 k : Nat) : fr_MO_write_word_shown a0 a1 a2 a3 a4 a5 a6 a7 a8 k = fr_MO_write_tried_shown a0 a1 a2 a3 a4 a5 a6 a7 a8 k := Eq.trans rfl rfl
theorem weq_write_word_shown (a0 a1 a2 a3 a4 a5 a6 a7 a8 : Nat) : f_MO_write_word_shown a0 a1 a2 a3 a4 a5 a6 a7 a8 = f_MO_write_tried_shown a0 a1 a2 a3 a4 a5 a6 a7 a8 := by
  unfold f_MO_write_word_shown f_MO_write_tried_shown e_MO_write_word_shown e_MO_write_tried_shown
  simp only [weq_fr_write_word_shown, weq_pairs_word, weq_showBinary_word_shown, weq_showDiagonals_word_shown, weq_showBlocks_word_shown, weq_showPermutation_word_shown]

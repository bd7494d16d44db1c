/-! ship: LEFT in millionths, from its lowest terms -/
theorem sLft_low {i L : Nat} {M : zM} {E : zE} {a c : Nat} (hs : zSt i L M E) (hc : c < 256) : 1000000 * (sL1 E M a c / sG (sL1 E M a c) (sL2 E M a c)) / (sL2 E M a c / sG (sL1 E M a c) (sL2 E M a c)) = sLft E M a c ∧ 0 ≤ sLft E M a c ∧ sLft E M a c ≤ 1000000 := by
  have hL := sL_r (a := a) hs hc
  unfold sLft
  generalize sL1 E M a c = u at *
  generalize sL2 E M a c = b at *
  have g1 := sG_p (u := u) hL.2.2.1
  obtain ⟨q, hq⟩ := sG_b (u := u) (b := b) (by omega)
  obtain ⟨r, hr⟩ := sG_u (u := u) (b := b) hL.1
  generalize sG u b = g at *
  have e1 : u / g = r := by rw [hr]; exact Int.mul_ediv_cancel_left r (by omega)
  have e2 : b / g = q := by rw [hq]; exact Int.mul_ediv_cancel_left q (by omega)
  refine ⟨?_, Int.ediv_nonneg (by omega) (by omega), Int.ediv_le_of_le_mul hL.2.2.1 (by omega)⟩
  rw [e1, e2, hr, hq, Int.mul_assoc, Int.mul_ediv_mul_of_pos _ _ g1, Int.mul_comm r]

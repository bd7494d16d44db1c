theorem f11_div {i : Nat} {u b : Int} {M : zM} (hu : 0 ≤ u ∧ u ≤ 9223372036854775807) (hb : 0 < b ∧ b ≤ 9223372036854775807) : f_X11_divisor (zKn i) u b M = some (sG u b) := by
  have hl := f11_gcd_l (k := zKn i) (M := M) 64 zfu u.toNat b.toNat (by have h64 : (2 : Nat) ^ 64 = 18446744073709551616 := (by decide); omega) (by omega) (by omega) (by unfold zfu; omega)
  rw [show ((u.toNat : Nat) : Int) = u by omega, show ((b.toNat : Nat) : Int) = b by omega] at hl
  unfold f_X11_divisor zw2
  rw [show zbl u 0 (0 ≤ u) (some u) (some (-u)) = some u by unfold zbl; rw [if_pos ⟨by omega, by omega⟩, if_pos hu.1]]
  rw [zb1_some]
  rw [hl]
  rfl
theorem r11_doubt {i L n : Nat} {M : zM} {E : zE} {a : Nat} (hs : zSt i L M E) (hv : zMw M E a) (ha : a < 100) (hn : M 80 0 = (n : Int)) (hn' : n ≤ 10) (hn0 : 0 < n) : zO (zw5 (gb_X11_doubt_33 (zKn i)) zfu (-1) 0 1 0 M) (fun r => r.1 = ((sDb E M a n).1 : Int) ∧ zQm M r.2) := by
  unfold zw5
  refine zO_for (fun s => s.2.2.2.1) n (fun j s => (s.1 = if j = 0 then -1 else ((sDb E M a j).1 : Int)) ∧ s.2.1 = ((sDb E M a j).2.1 : Int) ∧ s.2.2.1 = ((sDb E M a j).2.2 : Int) ∧ zQm M s.2.2.2.2 ∧ zMw s.2.2.2.2 E a) ?_ ?_ (by omega) 0 (by omega) rfl ⟨rfl, rfl, rfl, zQm.rf, hv⟩
  · rintro j ⟨y2, y3, y5, y7, A⟩ hj hcnt ⟨h1, h2, h3, h4, h5⟩
    dsimp only at *
    subst hcnt h2 h3
    have hsA := hs.qm h4
    have e91 : A 91 = M 91 := h4.1 91 (by omega) (by omega)
    have e80 : A 80 = M 80 := h4.1 80 (by omega) (by omega)
    obtain ⟨hc1, hc2, hc3⟩ := hs.plc.2 j (by omega)
    have hO := sOp_r hs (a := a) (p := j) (by omega)
    have hU := sLp_r hs (a := a) (p := j) (by omega)
    have hB := sDb_r hs (a := a) j (by omega)
    have hL := sL_r (a := a) hs (c := (M 13 j).toNat) (by omega)
    have hl := g11_left hsA h5 ha (by omega : (M 13 j).toNat < 256)
    rw [(sL_qm h4).1, (sL_qm h4).2, show (((M 13 j).toNat : Nat) : Int) = M 13 j by omega] at hl
    rw [gb_X11_doubt_33]
    simp only [Int.toNat_natCast, Int.toNat_zero, e91, e80, hn, ← hc1]
    refine zO_gd (by omega) (zO_brn ⟨by omega, by omega⟩ ⟨by omega, by omega⟩ (by omega) (zO_gd (by omega) (zO_b1q hl ?_)))
    rintro D ⟨D1, D2, D3, D4, D5⟩
    have qD : zQm M D := h4.tr D1
    have hdv : f_X11_divisor (zKn i) (D 76 63) (D 76 64) D = some (sG (sL1 E M a (M 13 j).toNat) (sL2 E M a (M 13 j).toNat)) := by
      rw [D4, D5]
      exact f11_div ⟨hL.1, by omega⟩ ⟨hL.2.2.1, by omega⟩
    have g1 := sG_p (u := sL1 E M a (M 13 j).toNat) hL.2.2.1
    have g2 := sG_le (u := sL1 E M a (M 13 j).toNat) hL.2.2.1
    refine zO_b1e hdv ?_
    simp only [D4, D5]
    refine zO_gd ⟨⟨by omega, by omega⟩, by omega, by omega⟩ (zO_lt (zO_gd ⟨⟨by omega, by omega⟩, by omega, by omega⟩ (zO_lt ?_)))
    change zO (zb1 (zbl (2 * sUp E M a j) (sLp E M a j) (2 * sUp E M a j ≤ sLp E M a j) (some (sLp E M a j - 2 * sUp E M a j)) (some (2 * sUp E M a j - sLp E M a j))) (fun x9 => _)) _
    have hx9 : zbl (2 * sUp E M a j) (sLp E M a j) (2 * sUp E M a j ≤ sLp E M a j) (some (sLp E M a j - 2 * sUp E M a j)) (some (2 * sUp E M a j - sLp E M a j)) = some ((sOp E M a j : Nat) : Int) := by
      apply zO_get
      rw [hO.1]
      unfold zabs
      refine zO_bl ⟨by omega, by omega⟩ ⟨by omega, by omega⟩ (fun h => zO_some ?_) (fun h => zO_some ?_)
      · rw [if_neg (by omega)]; omega
      · rw [if_pos (by omega)]
    refine zO_b1e hx9 ?_
    have yes : sDb E M a (j + 1) = (j, sOp E M a j, sDp E M a j) → zEl (fun s' : Int × Int × Int × Int × zM => s'.2.2.2.1 = ((j + 1 : Nat) : Int) ∧ (s'.1 = if j + 1 = 0 then -1 else ((sDb E M a (j + 1)).1 : Int)) ∧ s'.2.1 = ((sDb E M a (j + 1)).2.1 : Int) ∧ s'.2.2.1 = ((sDb E M a (j + 1)).2.2 : Int) ∧ zQm M s'.2.2.2.2 ∧ zMw s'.2.2.2.2 E a) (fun r : Int × zM => r.1 = ((sDb E M a n).1 : Int) ∧ zQm M r.2) (Sum.inl ((j : Int), ((sOp E M a j : Nat) : Int), sLp E M a j, (j : Int) + 1, D)) := by
      intro e
      refine ⟨by dsimp only; omega, ?_, ?_, ?_, qD, D2⟩
      · rw [if_neg (by omega), e]
      · rw [e]
      · rw [e]; exact hO.2.2.1.symm
    refine zO_sp1 ?_
    by_cases hj0 : j = 0
    · rw [if_pos hj0] at h1
      refine zO_brp ⟨by omega, by omega⟩ ⟨by omega, by omega⟩ (by omega) (zO_inl (zO_lt (zO_lt ⟨_, rfl, yes ?_⟩)))
      rw [sDb_s, if_pos (Or.inl hj0)]
    · rw [if_neg hj0] at h1
      have hcmp := f11_notless (k := zKn i) (M := D) (a := sOp E M a j) (b := sDp E M a j) (c := (sDb E M a j).2.1) (d := (sDb E M a j).2.2) (by omega) (by omega) (by omega) (by omega) (by omega) (by omega)
      rw [hO.2.2.1] at hcmp
      refine zO_brn ⟨by omega, by omega⟩ ⟨by omega, by omega⟩ (by omega) (zO_b1q hcmp ?_)
      intro v z
      by_cases hc : (sDb E M a j).2.1 * sDp E M a j ≤ sOp E M a j * (sDb E M a j).2.2
      · rw [if_pos hc] at z
        refine zO_brn ⟨by omega, by omega⟩ ⟨by omega, by omega⟩ (by omega) ?_
        refine zO_lt (zO_inr (show zO _ _ from zO_some ?_))
        have e : sDb E M a (j + 1) = sDb E M a j := by rw [sDb_s, if_neg (fun h => by rcases h with h | h; exact hj0 h; exact h hc)]
        refine ⟨by dsimp only; omega, ?_, ?_, ?_, qD, D2⟩
        · rw [if_neg (by omega), e]; exact h1
        · rw [e]
        · rw [e]
      · rw [if_neg hc] at z
        refine zO_brp ⟨by omega, by omega⟩ ⟨by omega, by omega⟩ (by omega) ?_
        refine zO_inl (zO_lt (zO_lt ⟨_, rfl, yes ?_⟩))
        rw [sDb_s, if_pos (Or.inr hc)]
  · rintro ⟨y2, y3, y5, y7, A⟩ hcnt ⟨h1, h2, h3, h4, h5⟩
    dsimp only at *
    subst hcnt h2 h3
    rw [if_neg (by omega)] at h1
    have e80 : A 80 = M 80 := h4.1 80 (by omega) (by omega)
    rw [gb_X11_doubt_33]
    simp only [Int.toNat_zero, e80, hn]
    exact zO_gd (by omega) (zO_brp ⟨by omega, by omega⟩ ⟨by omega, by omega⟩ (by omega) (zO_inr ⟨h1, h4⟩))

/-! right -/
theorem sLean_4 {E : zE} {M : zM} {a : Nat} : zsum 4 (fun k => sLean E M a (k : Int) 256) = sLean E M a (-1) 256 := by
  unfold sLean
  rw [zsum_swap]
  refine zsum_congr (fun c hc => ?_)
  have h := sQu_r (c := c)
  generalize sQu c = s at h
  rw [if_pos (Or.inl (by omega))]
  generalize zfi E M a c = z
  have hs : s = 0 ∨ s = 1 ∨ s = 2 ∨ s = 3 := by omega
  show 0 + (if ((0 : Nat) : Int) < 0 ∨ s = ((0 : Nat) : Int) then z else 0) + (if ((1 : Nat) : Int) < 0 ∨ s = ((1 : Nat) : Int) then z else 0) + (if ((2 : Nat) : Int) < 0 ∨ s = ((2 : Nat) : Int) then z else 0) + (if ((3 : Nat) : Int) < 0 ∨ s = ((3 : Nat) : Int) then z else 0) = z
  rcases hs with rfl | rfl | rfl | rfl
  · rw [if_pos (by omega), if_neg (by omega), if_neg (by omega), if_neg (by omega)]; omega
  · rw [if_neg (by omega), if_pos (by omega), if_neg (by omega), if_neg (by omega)]; omega
  · rw [if_neg (by omega), if_neg (by omega), if_pos (by omega), if_neg (by omega)]; omega
  · rw [if_neg (by omega), if_neg (by omega), if_neg (by omega), if_pos (by omega)]; omega
def sQt (M : zM) (n : Nat) : Int := zsum n (fun f => if M 10 f = 0 then 1 else 0)
def sQf (M : zM) (q : Int) (n : Nat) : Int := zsum n (fun f => if M 10 f = 0 ∧ sQu (M 9 f).toNat = q then 1 else 0)
theorem sQt_r {M : zM} {n : Nat} : 0 ≤ sQt M n ∧ sQt M n ≤ n := by
  refine ⟨zsum_nn (fun j _ => by split <;> omega), ?_⟩
  have := zsum_le (n := n) (f := fun f => if M 10 f = 0 then 1 else 0) (b := 1) (fun j _ => by split <;> omega)
  unfold sQt
  omega
theorem sQf_r {M : zM} {q : Int} {n : Nat} : 0 ≤ sQf M q n ∧ sQf M q n ≤ n := by
  refine ⟨zsum_nn (fun j _ => by split <;> omega), ?_⟩
  have := zsum_le (n := n) (f := fun f => if M 10 f = 0 ∧ sQu (M 9 f).toNat = q then 1 else 0) (b := 1) (fun j _ => by split <;> omega)
  unfold sQf
  omega
theorem r10_cnt {i L n : Nat} {M : zM} {E : zE} {q p u v : Int} (hs : zSt i L M E) (hq : 0 ≤ q ∧ q ≤ 3) (hn : M 4 17 = (n : Int)) (hn' : n ≤ 60) : zw3 (gb_X10_right_98 (zKn i) q p u v M) zfu 0 0 0 = some (sQf M q n, sQt M n) := by
  unfold zw3
  refine zO_up (F := fun t => gb_X10_right_98 (zKn i) q p u v M t.1 t.2.1 t.2.2) (fun j => (sQf M q j, sQt M j, (j : Int))) n ?_ ?_ (by omega) 0 (by omega)
  · intro j hj
    obtain ⟨⟨_, k1, k2⟩, ⟨_, k3, k4⟩, _⟩ := hs.find (f := j) (by omega)
    have e1 : sQf M q (j + 1) = sQf M q j + if M 10 j = 0 ∧ sQu (M 9 j).toNat = q then 1 else 0 := rfl
    have e2 : sQt M (j + 1) = sQt M j + if M 10 j = 0 then 1 else 0 := rfl
    have hqr := sQu_r (c := (M 9 j).toNat)
    apply zO_get
    dsimp only
    rw [gb_X10_right_98, e1, e2]
    simp only [Int.toNat_natCast, hn]
    rw [show ((j + 1 : Nat) : Int) = (j : Int) + 1 by omega]
    refine zO_brn ⟨by omega, by omega⟩ ⟨by omega, by omega⟩ (by omega) (zO_gd (by omega) ?_)
    by_cases h0 : M 10 j = 0
    · refine zO_brn ⟨by omega, by omega⟩ ⟨by omega, by omega⟩ (by omega) (zO_lt (zO_gd (by omega) (zO_b1e (f_qu ⟨k1, k2⟩).1 ?_)))
      rw [if_pos h0]
      by_cases h1 : sQu (M 9 j).toNat = q
      · rw [if_pos ⟨h0, h1⟩]
        exact zO_brn ⟨by omega, by omega⟩ ⟨by omega, by omega⟩ (by omega) (zO_lt (zO_lt (zO_some rfl)))
      · rw [if_neg (fun h => h1 h.2)]
        exact zO_brp ⟨by omega, by omega⟩ ⟨by omega, by omega⟩ h1 (zO_lt (zO_lt (zO_some rfl)))
    · refine zO_brp ⟨by omega, by omega⟩ ⟨by omega, by omega⟩ h0 (zO_lt (zO_some ?_))
      rw [if_neg (fun h => h0 h.1), if_neg h0, Int.add_zero, Int.add_zero]
  · apply zO_get
    dsimp only
    rw [gb_X10_right_98, hn]
    exact zO_brp ⟨by omega, by omega⟩ ⟨by omega, by omega⟩ (by omega) (zO_some rfl)
theorem r11_cnt {i L n : Nat} {M : zM} {E : zE} {q p u : Int} (hs : zSt i L M E) (hq : 0 ≤ q ∧ q ≤ 3) (hn : M 79 0 = (n : Int)) (hn' : n ≤ 60) : zw3 (gb_X11_right_43 (zKn i) q u p M) zfu 0 0 0 = some (sQf M q n, sQt M n) := by
  unfold zw3
  refine zO_up (F := fun t => gb_X11_right_43 (zKn i) q u p M t.1 t.2.1 t.2.2) (fun j => (sQf M q j, sQt M j, (j : Int))) n ?_ ?_ (by omega) 0 (by omega)
  · intro j hj
    obtain ⟨⟨c1, k1, k2⟩, ⟨c2, k3, k4⟩, _⟩ := hs.find (f := j) (by omega)
    have e1 : sQf M q (j + 1) = sQf M q j + if M 10 j = 0 ∧ sQu (M 9 j).toNat = q then 1 else 0 := rfl
    have e2 : sQt M (j + 1) = sQt M j + if M 10 j = 0 then 1 else 0 := rfl
    have hqr := sQu_r (c := (M 9 j).toNat)
    apply zO_get
    dsimp only
    rw [gb_X11_right_43, e1, e2]
    simp only [Int.toNat_natCast, Int.toNat_zero, hn, ← c1, ← c2]
    rw [show ((j + 1 : Nat) : Int) = (j : Int) + 1 by omega]
    refine zO_gd (by omega) (zO_brn ⟨by omega, by omega⟩ ⟨by omega, by omega⟩ (by omega) (zO_gd (by omega) ?_))
    by_cases h0 : M 10 j = 0
    · refine zO_brp ⟨by omega, by omega⟩ ⟨by omega, by omega⟩ h0 (zO_lt (zO_gd (by omega) (zO_b1e (f_qu ⟨k1, k2⟩).2 ?_)))
      rw [if_pos h0]
      by_cases h1 : sQu (M 9 j).toNat = q
      · rw [if_pos ⟨h0, h1⟩]
        exact zO_brn ⟨by omega, by omega⟩ ⟨by omega, by omega⟩ (by omega) (zO_lt (zO_lt (zO_some rfl)))
      · rw [if_neg (fun h => h1 h.2)]
        exact zO_brp ⟨by omega, by omega⟩ ⟨by omega, by omega⟩ h1 (zO_lt (zO_lt (zO_some rfl)))
    · refine zO_brn ⟨by omega, by omega⟩ ⟨by omega, by omega⟩ h0 (zO_lt (zO_some ?_))
      rw [if_neg (fun h => h0 h.1), if_neg h0, Int.add_zero, Int.add_zero]
  · apply zO_get
    dsimp only
    rw [gb_X11_right_43]
    simp only [Int.toNat_zero, hn]
    exact zO_gd (by omega) (zO_brp ⟨by omega, by omega⟩ ⟨by omega, by omega⟩ (by omega) (zO_some rfl))
/-- the class's sum over all quarters -/
theorem r10_all {i L : Nat} {M : zM} {E : zE} {a : Nat} {q p : Int} (hI : zInv i L M E) (hv : zVw M E (eV E a)) (ha : a < 100) (hq : 0 ≤ q ∧ q ≤ 3) : zO (zw3 (gb_X10_right_51 (zKn i) q (a : Int) p (sLean E M a q 256)) zfu 0 0 M) (fun r => r.1 = sLean E M a (-1) 256 ∧ zQw M r.2 ∧ zVw r.2 E (eV E a) ∧ zInv i L r.2 E) := by
  rw [← sLean_4]
  unfold zw3
  refine zO_for (fun s => s.2.1) 4 (fun j s => s.1 = zsum j (fun k => sLean E M a (k : Int) 256) ∧ zQw M s.2.2 ∧ zVw s.2.2 E (eV E a) ∧ zInv i L s.2.2 E) ?_ ?_ (by omega) 0 (by omega) rfl ⟨rfl, zQw.rf, hv, hI⟩
  · rintro j ⟨y, c, A⟩ hj hc ⟨h1, h2, h3, h4⟩
    dsimp only at *
    subst hc
    rw [gb_X10_right_51]
    refine zO_brn ⟨by omega, by omega⟩ ⟨by omega, by omega⟩ (by omega) ?_
    by_cases hjq : (j : Int) = q
    · refine zO_brn ⟨by omega, by omega⟩ ⟨by omega, by omega⟩ (by omega) (zO_lt (zO_lt (zO_inl ⟨by dsimp only; omega, ?_, h2, h3, h4⟩)))
      dsimp only
      rw [zsum_s, h1, hjq]
    · refine zO_brp ⟨by omega, by omega⟩ ⟨by omega, by omega⟩ hjq ?_
      refine zO_bdq (g10_fish h4 h3 ha (q := (j : Int)) (by omega)) ?_
      rintro B u ⟨b1, b2, b3, b4⟩
      dsimp only at *
      have hr := sLean_r h4.1 (a := a) (q := (j : Int)) (n := 256) (by omega)
      refine zO_gd ⟨by omega, by omega⟩ (zO_lt (zO_lt (zO_inl ⟨by dsimp only; omega, ?_, h2.tr b2, b3, b4⟩)))
      dsimp only
      rw [zsum_s, h1, b1, sLean_q (zgm_qc h2.1)]
  · rintro ⟨y, c, A⟩ hc ⟨h1, h2, h3, h4⟩
    dsimp only at *
    subst hc
    rw [gb_X10_right_51]
    exact zO_brp ⟨by omega, by omega⟩ ⟨by omega, by omega⟩ (by omega) (zO_inr ⟨h1, h2, h3, h4⟩)

/-! doubt -/
def sUp (E : zE) (M : zM) (a p : Nat) : Int := sL1 E M a (M 13 p).toNat / sG (sL1 E M a (M 13 p).toNat) (sL2 E M a (M 13 p).toNat)
def sLp (E : zE) (M : zM) (a p : Nat) : Int := sL2 E M a (M 13 p).toNat / sG (sL1 E M a (M 13 p).toNat) (sL2 E M a (M 13 p).toNat)
def sOp (E : zE) (M : zM) (a p : Nat) : Nat := (zabs (2 * sUp E M a p - sLp E M a p)).toNat
def sDp (E : zE) (M : zM) (a p : Nat) : Nat := (sLp E M a p).toNat
theorem zSt.plc {i L : Nat} {M : zM} {E : zE} (h : zSt i L M E) : (∃ n : Nat, M 4 18 = n ∧ M 80 0 = n ∧ n ≤ 10) ∧ ∀ p, p < 10 → M 13 p = M 91 p ∧ 0 ≤ M 13 p ∧ M 13 p < 256 := by
  have h1 := h.2.2.1.2.2.2.2.2.2.2.2.2.2.1
  have h2 := h.2.2.1.2.2.2.2.2.2.2.2.2.2.2.1
  simp only [Nat.mul_zero, Nat.zero_add, Nat.reduceAdd] at h2
  exact ⟨⟨(M 80 0).toNat, by omega, by omega, by omega⟩, h2⟩
theorem sLp_r {i L : Nat} {M : zM} {E : zE} (h : zSt i L M E) {a p : Nat} (hp : p < 10) : 0 ≤ sUp E M a p ∧ sUp E M a p ≤ 20000000000 ∧ 0 < sLp E M a p ∧ sLp E M a p ≤ 20000000000 := by
  have hc := h.plc.2 p hp
  have hL := sL_r (a := a) h (c := (M 13 p).toNat) (by omega)
  unfold sUp sLp
  generalize sL1 E M a (M 13 p).toNat = u at *
  generalize sL2 E M a (M 13 p).toNat = b at *
  have g1 := sG_p (u := u) hL.2.2.1
  obtain ⟨q, hq⟩ := sG_b (u := u) (b := b) (by omega)
  have d1 := Int.ediv_nonneg hL.1 (by omega : 0 ≤ sG u b)
  have d2 := Int.ediv_le_self (sG u b) hL.1
  have d3 := Int.ediv_le_self (sG u b) (by omega : 0 ≤ b)
  have d4 : 0 < b / sG u b := Int.ediv_pos_of_pos_of_dvd hL.2.2.1 (by omega) ⟨q, hq⟩
  omega
theorem sOp_r {i L : Nat} {M : zM} {E : zE} (h : zSt i L M E) {a p : Nat} (hp : p < 10) : ((sOp E M a p : Nat) : Int) = zabs (2 * sUp E M a p - sLp E M a p) ∧ sOp E M a p ≤ 60000000000 ∧ ((sDp E M a p : Nat) : Int) = sLp E M a p ∧ 0 < sDp E M a p ∧ sDp E M a p ≤ 20000000000 := by
  have := sLp_r h (a := a) hp
  unfold sOp sDp zabs
  split <;> omega
def sDb (E : zE) (M : zM) (a : Nat) : Nat → Nat × Nat × Nat
  | 0 => (0, 0, 1)
  | p + 1 => if p = 0 ∨ ¬ (sDb E M a p).2.1 * sDp E M a p ≤ sOp E M a p * (sDb E M a p).2.2 then (p, sOp E M a p, sDp E M a p) else sDb E M a p
theorem sDb_s {E : zE} {M : zM} {a p : Nat} : sDb E M a (p + 1) = if p = 0 ∨ ¬ (sDb E M a p).2.1 * sDp E M a p ≤ sOp E M a p * (sDb E M a p).2.2 then (p, sOp E M a p, sDp E M a p) else sDb E M a p := rfl
theorem sDb_r {i L : Nat} {M : zM} {E : zE} (h : zSt i L M E) {a : Nat} : ∀ p, p ≤ 10 → (sDb E M a p).1 ≤ 10 ∧ (sDb E M a p).2.1 ≤ 60000000000 ∧ 0 < (sDb E M a p).2.2 ∧ (sDb E M a p).2.2 ≤ 20000000000 := by
  intro p
  induction p with
  | zero => intro _; exact ⟨by show 0 ≤ 10; omega, by show 0 ≤ 60000000000; omega, by show 0 < 1; omega, by show 1 ≤ 20000000000; omega⟩
  | succ p ih =>
    intro hp
    have h1 := ih (by omega)
    have h2 := sOp_r h (a := a) (p := p) (by omega)
    rw [sDb_s]
    split
    · exact ⟨by dsimp only; omega, h2.2.1, h2.2.2.2.1, h2.2.2.2.2⟩
    · exact h1
theorem sDb_q {E : zE} {M M' : zM} {a : Nat} (h13 : M' 13 = M 13) (hL : ∀ c, sL1 E M' a c = sL1 E M a c ∧ sL2 E M' a c = sL2 E M a c) : (∀ p, sUp E M' a p = sUp E M a p ∧ sLp E M' a p = sLp E M a p) ∧ ∀ p, sDb E M' a p = sDb E M a p := by
  have e : ∀ p, sUp E M' a p = sUp E M a p ∧ sLp E M' a p = sLp E M a p := by
    intro p
    unfold sUp sLp
    rw [h13, (hL _).1, (hL _).2]
    exact ⟨rfl, rfl⟩
  refine ⟨e, ?_⟩
  intro p
  induction p with
  | zero => rfl
  | succ p ih =>
    rw [sDb_s, sDb_s, ih]
    unfold sOp sDp
    rw [(e p).1, (e p).2]
theorem r10_doubt {i L n : Nat} {M : zM} {E : zE} {a : Nat} (hI : zInv i L M E) (hv : zVw M E (eV E a)) (ha : a < 100) (hn : M 4 18 = (n : Int)) (hn' : n ≤ 10) : zO (zw5 (gb_X10_doubt_36 (zKn i)) zfu 0 0 1 0 M) (fun r => r.1 = ((sDb E M a n).1 : Int) ∧ zQw M r.2 ∧ zCa r.2 E) := by
  unfold zw5
  refine zO_for (fun s => s.2.2.2.1) n (fun j s => s.1 = ((sDb E M a j).1 : Int) ∧ s.2.1 = ((sDb E M a j).2.1 : Int) ∧ s.2.2.1 = ((sDb E M a j).2.2 : Int) ∧ zQw M s.2.2.2.2 ∧ zVw s.2.2.2.2 E (eV E a)) ?_ ?_ (by omega) 0 (by omega) rfl ⟨rfl, rfl, rfl, zQw.rf, hv⟩
  · rintro j ⟨y3, y4, y6, y8, A⟩ hj hcnt ⟨h1, h2, h3, h4, h5⟩
    dsimp only at *
    subst hcnt h1 h2 h3
    have hsA := hI.1.qc h4.1
    have e13 : A 13 = M 13 := h4.1.1 13 (by omega) (by omega)
    have e4 : A 4 = M 4 := h4.1.1 4 (by omega) (by omega)
    obtain ⟨_, hc2, hc3⟩ := hI.1.plc.2 j (by omega)
    have hO := sOp_r hI.1 (a := a) (p := j) (by omega)
    have hU := sLp_r hI.1 (a := a) (p := j) (by omega)
    have hB := sDb_r hI.1 (a := a) j (by omega)
    have hl := g10_left (c := (M 13 j).toNat) hsA h5 (by omega)
    rw [(sL_qc h4.1).1, (sL_qc h4.1).2, show (((M 13 j).toNat : Nat) : Int) = M 13 j by omega] at hl
    have hl' : g_X10_reckonLeft (zKn i) (M 13 j) A = some (zst (zst A 50 0 (sUp E M a j)) 50 1 (sLp E M a j)) := hl
    have hcmp := f5_compare (k := zKn i) (M := zst (zst A 50 0 (sUp E M a j)) 50 1 (sLp E M a j)) (a := sOp E M a j) (b := sDp E M a j) (c := (sDb E M a j).2.1) (d := (sDb E M a j).2.2) (by omega) (by omega) (by omega) (by omega) (by omega) (by omega)
    rw [hO.1, hO.2.2.1] at hcmp
    have v5 : zVw (zst (zst A 50 0 (sUp E M a j)) 50 1 (sLp E M a j)) E (eV E a) := h5.fr (by rw [zst_ne (by decide), zst_ne (by decide)]) (fun q hq => by rw [zst_ne (by omega), zst_ne (by omega)])
    rw [gb_X10_doubt_36]
    simp only [Int.toNat_natCast, e13, e4, hn]
    refine zO_brn ⟨by omega, by omega⟩ ⟨by omega, by omega⟩ (by omega) (zO_gd (by omega) (zO_b1e hl' ?_))
    generalize hD : zst (zst A 50 0 (sUp E M a j)) 50 1 (sLp E M a j) = D at *
    have d0 : D 50 0 = sUp E M a j := by rw [← hD, zst_ns (by decide), zst_eq]
    have d1 : D 50 1 = sLp E M a j := by rw [← hD, zst_eq]
    have qD : zQw M D := h4.tr (by rw [← hD]; exact zq50)
    simp only [d0, d1]
    have yes : sDb E M a (j + 1) = (j, sOp E M a j, sDp E M a j) → zEl (fun s' : Int × Int × Int × Int × zM => s'.2.2.2.1 = ((j + 1 : Nat) : Int) ∧ s'.1 = ((sDb E M a (j + 1)).1 : Int) ∧ s'.2.1 = ((sDb E M a (j + 1)).2.1 : Int) ∧ s'.2.2.1 = ((sDb E M a (j + 1)).2.2 : Int) ∧ zQw M s'.2.2.2.2 ∧ zVw s'.2.2.2.2 E (eV E a)) (fun r : Int × zM => r.1 = ((sDb E M a n).1 : Int) ∧ zQw M r.2 ∧ zCa r.2 E) (Sum.inl ((j : Int), zabs (2 * sUp E M a j - sLp E M a j), sLp E M a j, (j : Int) + 1, D)) := by
      intro e
      refine ⟨by dsimp only; omega, ?_, ?_, ?_, qD, v5⟩
      · rw [e]
      · rw [e]; exact hO.1.symm
      · rw [e]; exact hO.2.2.1.symm
    refine zO_gd ⟨⟨by omega, by omega⟩, by omega⟩ (zO_lt (zO_sp1 ?_))
    by_cases hj0 : j = 0
    · refine zO_brp ⟨by omega, by omega⟩ ⟨by omega, by omega⟩ (by omega) (zO_inl (zO_lt (zO_lt ⟨_, rfl, yes ?_⟩)))
      rw [sDb_s, if_pos (Or.inl hj0)]
    · refine zO_brn ⟨by omega, by omega⟩ ⟨by omega, by omega⟩ (by omega) (zO_b1q hcmp ?_)
      rintro v ⟨z1, z2⟩
      refine zO_br z1 ⟨by omega, by omega⟩ (fun hc => ?_) (fun hc => ?_)
      · refine zO_lt (zO_inr (show zO _ _ from zO_some ?_))
        have e : sDb E M a (j + 1) = sDb E M a j := by rw [sDb_s, if_neg (fun h => by rcases h with h | h; exact hj0 h; exact h (z2.1 hc))]
        refine ⟨by dsimp only; omega, ?_, ?_, ?_, qD, v5⟩
        · rw [e]
        · rw [e]
        · rw [e]
      · refine zO_inl (zO_lt (zO_lt ⟨_, rfl, yes ?_⟩))
        rw [sDb_s, if_pos (Or.inr (fun h => hc (z2.2 h)))]
  · rintro ⟨y3, y4, y6, y8, A⟩ hcnt ⟨h1, h2, h3, h4, h5⟩
    dsimp only at *
    subst hcnt h1 h2 h3
    have e4 : A 4 = M 4 := h4.1.1 4 (by omega) (by omega)
    rw [gb_X10_doubt_36]
    simp only [e4, hn]
    exact zO_brp ⟨by omega, by omega⟩ ⟨by omega, by omega⟩ (by omega) (zO_inr ⟨rfl, h4, h5.1.ca⟩)

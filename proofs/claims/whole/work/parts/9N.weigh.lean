/-! ship: what each place weighs -/
theorem g9_weigh {k : zK} {M : zM} {p : Nat} {lf ct : Int} (hp : p < 10) (hl : 0 ≤ lf ∧ lf ≤ 1000000) (hc : 0 ≤ ct ∧ ct ≤ 10) : zO (g_X9_weigh k (p : Int) lf ct M) (fun M' => zFr [49] M M' ∧ (∀ x, x < 7 * p ∨ 7 * p + 7 ≤ x → M' 49 x = M 49 x) ∧ ∀ j, j < 7 → M' 49 (7 * p + j) = zNo lf ct (j : Int)) := by
  unfold g_X9_weigh
  refine zO_b1 ?_
  unfold zw4
  refine zO_for (fun s => s.2.2.1) 7 (fun j s => s.1 = (10 - ct) ^ j ∧ s.2.1 = 10 ^ j ∧ zFr [49] M s.2.2.2 ∧ (∀ x, x < 7 * p ∨ 7 * p + 7 ≤ x → s.2.2.2 49 x = M 49 x) ∧ ∀ x, x < j → s.2.2.2 49 (7 * p + x) = zNo lf ct (x : Int)) ?_ ?_ (by omega) 0 (by omega) rfl ⟨(Int.pow_zero _).symm, (Int.pow_zero _).symm, zFr_refl, fun _ _ => rfl, fun x hx => absurd hx (by omega)⟩
  · rintro j ⟨y5, y7, y9, A⟩ hj hcnt ⟨h1, h2, h3, h4, h5⟩
    dsimp only at *
    subst hcnt h1 h2
    have p1 := z_pow (v := 10 - ct) (by omega) j (by omega)
    have p2 := z_p8 j (by omega)
    have m1 : 0 ≤ lf * (10 - ct) ^ j := Int.mul_nonneg hl.1 p1.1
    have m2 : lf * (10 - ct) ^ j ≤ 1000000 * 100000000 := Int.mul_le_mul hl.2 (by omega) p1.1 (by omega)
    rw [gb_X9_weigh_9]
    refine zO_brn ⟨by omega, by omega⟩ ⟨by omega, by omega⟩ (by omega) (zO_gd ⟨⟨m1, by omega⟩, by omega, by omega⟩ (zO_gd ⟨by omega, by omega⟩ (zO_lt (zO_gd ⟨by omega, by omega⟩ (zO_lt (zO_lt (zO_lt (zO_inl ⟨by dsimp only; omega, ?_, ?_, ?_, ?_, ?_⟩))))))))
    · dsimp only
      rw [Int.pow_succ]
    · dsimp only
      rw [Int.pow_succ]
    · exact h3.st (by decide)
    · intro x hx
      dsimp only
      rw [zst_ns (by omega)]
      exact h4 x hx
    · intro x hx
      dsimp only
      rw [show ((p : Int) * 7 + (j : Int)).toNat = 7 * p + j by omega]
      by_cases e : x = j
      · subst e
        rw [zst_eq]
        unfold zNo
        rw [Int.toNat_natCast]
      · rw [zst_ns (by omega)]
        exact h5 x (by omega)
  · rintro ⟨y5, y7, y9, A⟩ hcnt ⟨h1, h2, h3, h4, h5⟩
    dsimp only at *
    subst hcnt
    rw [gb_X9_weigh_9]
    exact zO_brp ⟨by omega, by omega⟩ ⟨by omega, by omega⟩ (by omega) (zO_inr (show zO _ _ from zO_some ⟨h3, h4, h5⟩))

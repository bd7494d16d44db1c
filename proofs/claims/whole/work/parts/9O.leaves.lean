/-! ship: what a way leaves, by the reference -/
theorem zNo_r {lf ct : Int} {k : Nat} (hl : 0 ≤ lf ∧ lf ≤ 1000000) (hc : 0 ≤ ct ∧ ct ≤ 10) (hk : k ≤ 6) : 0 ≤ zNo lf ct (k : Int) ∧ zNo lf ct (k : Int) ≤ 1000000 := by
  have p1 := z_pow (v := 10 - ct) (by omega) k (by omega)
  have p2 := z_p8 k (by omega)
  unfold zNo
  rw [Int.toNat_natCast]
  have m1 : 0 ≤ lf * (10 - ct) ^ k := Int.mul_nonneg hl.1 p1.1
  have m2 : lf * (10 - ct) ^ k ≤ lf * 10 ^ k := Int.mul_le_mul_of_nonneg_left p1.2 hl.1
  have d1 := Int.ediv_nonneg m1 (by omega : (0 : Int) ≤ 10 ^ k)
  have d2 : lf * (10 - ct) ^ k / 10 ^ k ≤ lf := Int.ediv_le_of_le_mul (by omega) m2
  omega
theorem zVal_r {lf : Nat → Int} {ct : Int} {w : Nat → Nat} (hc : 0 ≤ ct ∧ ct ≤ 10) : ∀ n, (∀ p, p < n → (0 ≤ lf p ∧ lf p ≤ 1000000) ∧ w p ≤ 6) → 0 ≤ zVal lf ct (fun p => (w p : Int)) n ∧ zVal lf ct (fun p => (w p : Int)) n ≤ 1000000 := by
  intro n
  induction n with
  | zero => intro _; exact ⟨by show (0 : Int) ≤ 1000000; omega, by show (1000000 : Int) ≤ 1000000; omega⟩
  | succ n ih =>
    intro h
    have h1 := ih (fun p hp => h p (by omega))
    have h2 := h n (by omega)
    have h3 := zNo_r h2.1 hc h2.2
    show 0 ≤ zVal lf ct _ n * zNo (lf n) ct (w n : Int) / 1000000 ∧ zVal lf ct _ n * zNo (lf n) ct (w n : Int) / 1000000 ≤ 1000000
    generalize zVal lf ct (fun p => (w p : Int)) n = v at *
    generalize zNo (lf n) ct (w n : Int) = x at *
    have m1 : 0 ≤ v * x := Int.mul_nonneg h1.1 h3.1
    have m2 : v * x ≤ 1000000 * 1000000 := Int.mul_le_mul h1.2 h3.2 h3.1 (by omega)
    omega
theorem g11_leaves {k : zK} {M : zM} {n : Nat} {ct : Int} {lf : Nat → Int} {w : Nat → Nat} (hn : M 80 0 = (n : Int)) (hn' : n ≤ 10) (hc : 0 ≤ ct ∧ ct ≤ 10) (h : ∀ p, p < n → (0 ≤ lf p ∧ lf p ≤ 1000000) ∧ w p ≤ 6) (h1 : ∀ p, p < n → M 123 p = lf p) (h2 : ∀ p, p < n → M 124 p = (w p : Int)) : g_X11_leaves k ct M = some (zVal lf ct (fun p => (w p : Int)) n) := by
  unfold g_X11_leaves
  have hl : zw2 (gb_X11_leaves_7 k ct M) zfu 1000000 0 = some (zVal lf ct (fun p => (w p : Int)) n) := by
    unfold zw2
    refine zO_up (F := fun t => gb_X11_leaves_7 k ct M t.1 t.2) (fun j => (zVal lf ct (fun p => (w p : Int)) j, (j : Int))) n ?_ ?_ (by omega) 0 (by omega)
    · intro j hj
      have hv := zVal_r (lf := lf) (w := w) hc j (fun p hp => h p (by omega))
      have hj' := h j hj
      have hx := zNo_r hj'.1 hc hj'.2
      have p1 := z_pow (v := 10 - ct) (by omega) (w j) (by omega)
      have p2 := z_p8 (w j) (by omega)
      have m1 : 0 ≤ lf j * (10 - ct) ^ (w j) := Int.mul_nonneg hj'.1.1 p1.1
      have m2 : lf j * (10 - ct) ^ (w j) ≤ 1000000 * 100000000 := Int.mul_le_mul hj'.1.2 (by omega) p1.1 (by omega)
      apply zO_get
      dsimp only
      rw [gb_X11_leaves_7]
      simp only [Int.toNat_natCast, Int.toNat_zero, hn, h1 j hj, h2 j hj]
      refine zO_gd (by omega) (zO_brn ⟨by omega, by omega⟩ ⟨by omega, by omega⟩ (by omega) (zO_gd (by omega) (zO_gd ⟨by omega, by omega⟩ (zO_gd (by omega) (zO_gd ⟨by omega, by omega⟩ (zO_gd ⟨by omega, by omega⟩ (zO_gd (by omega) (zO_b1e (f11_power (by omega)) (zO_gd (by omega) (zO_b1e (f11_power (by omega)) (zO_gd ⟨⟨m1, by omega⟩, by omega, by omega⟩ ?_)))))))))))
      have e : 1000000 - lf j + lf j * (10 - ct) ^ w j / 10 ^ w j = zNo (lf j) ct (w j : Int) := by
        unfold zNo
        rw [Int.toNat_natCast]
      rw [e]
      have m3 : 0 ≤ zVal lf ct (fun p => (w p : Int)) j * zNo (lf j) ct (w j : Int) := Int.mul_nonneg hv.1 hx.1
      have m4 : zVal lf ct (fun p => (w p : Int)) j * zNo (lf j) ct (w j : Int) ≤ 1000000 * 1000000 := Int.mul_le_mul hv.2 hx.2 hx.1 (by omega)
      exact zO_gd ⟨m3, by omega⟩ (zO_lt (zO_lt (zO_some rfl)))
    · apply zO_get
      dsimp only
      rw [gb_X11_leaves_7]
      simp only [Int.toNat_zero, hn]
      exact zO_gd (by omega) (zO_brp ⟨by omega, by omega⟩ ⟨by omega, by omega⟩ (by omega) (zO_some rfl))
  exact zO_get (zO_b1e hl (zO_some rfl))

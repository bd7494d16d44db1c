/-! the reference's comparison, digit by digit -/
def zNl (a b c d j : Nat) (u v : Nat) : Prop := (c * b < a * d → v * b + 1000000 ^ j ≤ u * d) ∧ (a * d < c * b → u * d + 1000000 ^ j ≤ v * b) ∧ (j = 0 ∨ (u < b * 1000000 ∧ v < d * 1000000)) ∧ u < 9223372036854775808 ∧ v < 9223372036854775808 ∧ (c * b = a * d → v * b = u * d)
theorem zNl_s {a b c d j u v : Nat} (hb : 0 < b) (hd : 0 < d) (hb' : b ≤ 20000000000) (hd' : d ≤ 20000000000) (h : zNl a b c d j u v) (he : u / b = v / d) : zNl a b c d (j + 1) (u % b * 1000000) (v % d * 1000000) := by
  obtain ⟨h1, h2, h3, h4, h5, h0⟩ := h
  have m1 := Nat.mod_lt u hb
  have m2 := Nat.mod_lt v hd
  have e1 := Nat.div_add_mod u b
  have e2 := Nat.div_add_mod v d
  have f1 : u * d = b * (u / b) * d + u % b * d := by
    have := congrArg (· * d) e1
    simp only [Nat.add_mul] at this
    exact this.symm
  have f2 : v * b = b * (u / b) * d + v % d * b := by
    have := congrArg (· * b) e2
    simp only [Nat.add_mul] at this
    rw [← this, he, Nat.mul_comm d, Nat.mul_assoc, Nat.mul_comm d b, ← Nat.mul_assoc, Nat.mul_comm (v / d) b]
  have p : 1000000 ^ (j + 1) = 1000000 ^ j * 1000000 := Nat.pow_succ _ _
  have g1 : u % b * 1000000 * d = u % b * d * 1000000 := by rw [Nat.mul_assoc, Nat.mul_comm 1000000 d, ← Nat.mul_assoc]
  have g2 : v % d * 1000000 * b = v % d * b * 1000000 := by rw [Nat.mul_assoc, Nat.mul_comm 1000000 b, ← Nat.mul_assoc]
  refine ⟨fun h => ?_, fun h => ?_, Or.inr ⟨by omega, by omega⟩, by omega, by omega, fun h => ?_⟩
  · have := h1 h
    rw [g1, g2, p]
    omega
  · have := h2 h
    rw [g1, g2, p]
    omega
  · have := h0 h
    rw [g1, g2]
    omega
theorem f11_notless {k : zK} {M : zM} {a b c d : Nat} (hb : 0 < b) (hd : 0 < d) (hb' : b ≤ 20000000000) (hd' : d ≤ 20000000000) (ha' : a < 9223372036854775808) (hc' : c < 9223372036854775808) : zO (f_X11_isNotLess k (a : Int) (b : Int) (c : Int) (d : Int) M) (fun v => v = if c * b ≤ a * d then 1 else 0) := by
  unfold f_X11_isNotLess zw3
  refine zO_sp2 (zO_for (fun s => s.2.2) 30 (fun j s => ∃ u v : Nat, s.1 = (u : Int) ∧ s.2.1 = (v : Int) ∧ zNl a b c d j u v) ?_ ?_ (by omega) 0 (by omega) rfl ?_)
  · rintro j ⟨y8, y10, y12⟩ hj hcnt ⟨u, v, e1, e2, h⟩
    dsimp only at *
    subst hcnt e1 e2
    obtain ⟨h1, h2, h3, h4, h5, h0⟩ := id h
    have q1 : ((u : Int) / (b : Int)) = ((u / b : Nat) : Int) := by simp
    have q2 : ((v : Int) / (d : Int)) = ((v / d : Nat) : Int) := by simp
    have l1 := Nat.div_le_self u b
    have l2 := Nat.div_le_self v d
    have p1 : (0 : Int) ≤ ((u / b : Nat) : Int) := Int.natCast_nonneg _
    have p2 : (0 : Int) ≤ ((v / d : Nat) : Int) := Int.natCast_nonneg _
    rw [fb_X11_isNotLess_10]
    refine zO_brn ⟨by omega, by omega⟩ ⟨by omega, by omega⟩ (by omega) (zO_gd (by omega) (zO_lt (zO_gd (by omega) (zO_lt ?_))))
    rw [q1, q2, z_mod, z_mod]
    have hp : 0 < 1000000 ^ j := Nat.pow_pos (by omega)
    by_cases he : u / b = v / d
    · refine zO_blp (by omega) (by omega) (by omega) (zO_gd (by omega) (zO_lt (zO_gd (by omega) (zO_lt (zO_lt (zO_inl ⟨by dsimp only; omega, u % b * 1000000, v % d * 1000000, ?_, ?_, zNl_s hb hd hb' hd' h he⟩))))))
      · dsimp only; omega
      · dsimp only; omega
    · refine zO_bln (by omega) (by omega) (by omega) (zO_inr ?_)
      refine show zO _ _ from ?_
      dsimp only
      rcases Nat.lt_or_gt_of_ne he with hl | hl
      · refine zO_blp (by omega) (by omega) (by omega) (zO_some ?_)
        have := z_cmp_gt hb hd hl
        rw [if_neg]
        intro hc
        rcases Nat.lt_or_eq_of_le hc with h6 | h6
        · have := h1 h6
          omega
        · have := h0 h6
          omega
      · refine zO_bln (by omega) (by omega) (by omega) (zO_some ?_)
        have := z_cmp_lt hb hd hl
        rw [if_pos]
        rcases Nat.lt_or_ge (a * d) (c * b) with h6 | h6
        · have := h2 h6
          omega
        · exact h6
  · rintro ⟨y8, y10, y12⟩ hcnt ⟨u, v, e1, e2, h⟩
    dsimp only at *
    subst hcnt e1 e2
    obtain ⟨h1, h2, h3, h4, h5, h0⟩ := id h
    rw [fb_X11_isNotLess_10]
    refine zO_brp ⟨by omega, by omega⟩ ⟨by omega, by omega⟩ (by omega) (zO_inr ?_)
    refine show zO _ _ from ?_
    refine zO_some ?_
    rw [if_pos]
    rcases Nat.lt_or_ge (a * d) (c * b) with h6 | h6
    · have h7 := h2 h6
      obtain ⟨h8, h9⟩ : u < b * 1000000 ∧ v < d * 1000000 := by rcases h3 with h3 | h3; exact absurd h3 (by omega); exact h3
      have h10 : v * b ≤ d * 1000000 * 20000000000 := Nat.mul_le_mul (by omega) hb'
      have h11 : (1000000 : Nat) ^ 30 > 400000000000000000000000000 := by decide
      omega
    · exact h6
  · exact ⟨a, c, rfl, rfl, fun h => by rw [Nat.pow_zero]; omega, fun h => by rw [Nat.pow_zero]; omega, Or.inl rfl, ha', hc', fun h => h⟩

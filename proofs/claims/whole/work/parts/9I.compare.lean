/-! two ratios compared -/
def zQr (φ : Prop) : (Int × Int) ⊕ Int → Prop := zEl (fun p => (0 ≤ p.1 ∧ p.1 ≤ 9223372036854775807) ∧ (0 ≤ p.2 ∧ p.2 ≤ 9223372036854775807) ∧ (p.2 ≤ p.1 ↔ φ)) (fun v => zr v ∧ (0 ≤ v ↔ φ))
theorem zJ_cmp {k : zK} {x y : Int} {M : zM} (hx : 0 ≤ x ∧ x ≤ 9223372036854775807) (hy : 0 ≤ y ∧ y ≤ 9223372036854775807) : f_J13_compare_74951 k x y M = some (if y ≤ x then (if x = y then 0 else 1) else -1) := by
  apply zO_get
  unfold f_J13_compare_74951
  by_cases h : y ≤ x
  · rw [if_pos h]
    refine zO_blp (by omega) (by omega) h ?_
    by_cases h' : x = y
    · rw [if_pos h']
      exact zO_bln (by omega) (by omega) (by omega) (zO_some rfl)
    · rw [if_neg h']
      exact zO_blp (by omega) (by omega) h' (zO_some rfl)
  · rw [if_neg h]
    exact zO_bln (by omega) (by omega) h (zO_some rfl)
theorem z_cmp_eq {a b c d : Nat} (h : a / b = c / d) : c * b ≤ a * d ↔ b * (c % d) ≤ d * (a % b) := by
  have h1 := Nat.div_add_mod a b
  have h2 := Nat.div_add_mod c d
  have e1 : c * b = d * (c / d) * b + b * (c % d) := by
    have := congrArg (· * b) h2
    simp only [Nat.add_mul] at this
    rw [← this, Nat.mul_comm (c % d) b]
  have e2 : a * d = b * (a / b) * d + d * (a % b) := by
    have := congrArg (· * d) h1
    simp only [Nat.add_mul] at this
    rw [← this, Nat.mul_comm (a % b) d]
  have e3 : d * (c / d) * b = b * (a / b) * d := by
    rw [h, Nat.mul_comm (d * (c / d)) b, ← Nat.mul_assoc, Nat.mul_assoc b d, Nat.mul_comm d (c / d), Nat.mul_assoc b (c / d) d]
  rw [e1, e2, e3]
  omega
theorem z_cmp_lt {a b c d : Nat} (hb : 0 < b) (hd : 0 < d) (h : c / d < a / b) : c * b ≤ a * d := by
  have h1 : b * (a / b) ≤ a := Nat.mul_div_le a b
  have h2 : c < d * (c / d + 1) := by
    have := Nat.div_add_mod c d
    have := Nat.mod_lt c hd
    rw [Nat.mul_add, Nat.mul_one]
    omega
  have h3 : d * (c / d + 1) ≤ d * (a / b) := Nat.mul_le_mul_left d h
  have h4 : c * b ≤ d * (a / b) * b := Nat.mul_le_mul_right b (by omega)
  have h5 : d * (a / b) * b = b * (a / b) * d := by rw [Nat.mul_comm d, Nat.mul_assoc, Nat.mul_comm d b, ← Nat.mul_assoc, Nat.mul_comm (a / b) b]
  have h6 : b * (a / b) * d ≤ a * d := Nat.mul_le_mul_right d h1
  omega
theorem z_cmp_gt {a b c d : Nat} (hb : 0 < b) (hd : 0 < d) (h : a / b < c / d) : ¬ c * b ≤ a * d := by
  have h1 : d * (c / d) ≤ c := Nat.mul_div_le c d
  have h2 : a < b * (a / b + 1) := by
    have := Nat.div_add_mod a b
    have := Nat.mod_lt a hb
    rw [Nat.mul_add, Nat.mul_one]
    omega
  have h3 : b * (a / b + 1) ≤ b * (c / d) := Nat.mul_le_mul_left b h
  have h4 : a * d < b * (c / d) * d := Nat.mul_lt_mul_of_pos_right (by omega) hd
  have h5 : b * (c / d) * d = d * (c / d) * b := by rw [Nat.mul_comm b, Nat.mul_assoc, Nat.mul_comm b d, ← Nat.mul_assoc, Nat.mul_comm (c / d) d]
  have h6 : d * (c / d) * b ≤ c * b := Nat.mul_le_mul_right b h1
  omega
theorem g5_cmp_s {k : zK} {M : zM} {a b c d i : Nat} (hb : 0 < b) (hd : 0 < d) (ha' : a < 9223372036854775808) (hb' : b < 9223372036854775808) (hc' : c < 9223372036854775808) (hd' : d < 9223372036854775808) (hi : i < 200) : zO (fb_X5_compare_17 k M (a : Int) (b : Int) (c : Int) (d : Int) (i : Int)) (zEl (fun s' => s' = (((d : Nat) : Int), ((c % d : Nat) : Int), ((b : Nat) : Int), ((a % b : Nat) : Int), ((i + 1 : Nat) : Int)) ∧ 0 < c % d ∧ 0 < a % b ∧ (c * b ≤ a * d ↔ b * (c % d) ≤ d * (a % b))) (zQr (c * b ≤ a * d))) := by
  have q1 : ((a : Int) / (b : Int)) = ((a / b : Nat) : Int) := by simp
  have q2 : ((c : Int) / (d : Int)) = ((c / d : Nat) : Int) := by simp
  have l1 := Nat.div_le_self a b
  have l2 := Nat.div_le_self c d
  have m1 := Nat.mod_lt a hb
  have m2 := Nat.mod_lt c hd
  rw [fb_X5_compare_17]
  refine zO_brn ⟨by omega, by omega⟩ ⟨by omega, by omega⟩ (by omega) (zO_bln (by omega) (by omega) (by omega) (zO_bln (by omega) (by omega) (by omega) (zO_gd (by omega) (zO_gd (by omega) ?_))))
  rw [q1, q2]
  have p1 : (0 : Int) ≤ ((a / b : Nat) : Int) := Int.natCast_nonneg _
  have p2 : (0 : Int) ≤ ((c / d : Nat) : Int) := Int.natCast_nonneg _
  refine zO_b1e (zJ_cmp ⟨p1, by omega⟩ ⟨p2, by omega⟩) ?_
  rw [z_mod, z_mod]
  rcases Nat.lt_trichotomy (a / b) (c / d) with h | h | h
  · rw [if_neg (by omega)]
    refine zO_brn ⟨by omega, by omega⟩ ⟨by omega, by omega⟩ (by omega) (zO_inr ?_)
    exact ⟨⟨by omega, by omega⟩, fun h' => absurd h' (by omega), fun h' => absurd h' (z_cmp_gt hb hd h)⟩
  · rw [if_pos (by omega), if_pos (by omega)]
    have he := z_cmp_eq h
    refine zO_brp ⟨by omega, by omega⟩ ⟨by omega, by omega⟩ rfl (zO_gd (by omega) (zO_lt (zO_gd (by omega) (zO_lt ?_))))
    by_cases h0 : a % b = 0
    · refine zO_blp (by omega) (by omega) (by omega) (zO_inr ?_)
      refine ⟨⟨by dsimp only; omega, by dsimp only; omega⟩, ⟨by dsimp only; omega, by dsimp only; omega⟩, ?_⟩
      dsimp only
      rw [he, h0, Nat.mul_zero]
      constructor
      · intro h'
        rw [show c % d = 0 by omega, Nat.mul_zero]
        omega
      · intro h'
        have : c % d = 0 := by
          rcases Nat.mul_eq_zero.1 (Nat.le_zero.1 h') with h2 | h2
          · omega
          · exact h2
        omega
    · refine zO_bln (by omega) (by omega) (by omega) ?_
      by_cases h1 : c % d = 0
      · refine zO_bln (by omega) (by omega) (by omega) (zO_inr ?_)
        refine ⟨⟨by dsimp only; omega, by dsimp only; omega⟩, ⟨by dsimp only; omega, by dsimp only; omega⟩, ?_⟩
        dsimp only
        rw [he, h1, Nat.mul_zero]
        exact ⟨fun _ => Nat.zero_le _, fun _ => by omega⟩
      · refine zO_blp (by omega) (by omega) (by omega) (zO_lt (zO_inl ⟨?_, by omega, by omega, he⟩))
        rw [show ((i + 1 : Nat) : Int) = (i : Int) + 1 by omega]
  · rw [if_pos (by omega), if_neg (by omega)]
    refine zO_brn ⟨by omega, by omega⟩ ⟨by omega, by omega⟩ (by omega) (zO_inr ?_)
    exact ⟨⟨by omega, by omega⟩, fun _ => z_cmp_lt hb hd h, fun _ => by omega⟩
theorem g5_cmp_l {k : zK} {M : zM} : ∀ (e n : Nat) (a b c d i : Nat), 0 < b → 0 < d → b < 2 ^ e → d < 2 ^ e → a < 9223372036854775808 → b < 9223372036854775808 → c < 9223372036854775808 → d < 9223372036854775808 → i + 2 * e < 200 → 2 * e + 2 ≤ n → zO (zwh (fun t => fb_X5_compare_17 k M t.1 t.2.1 t.2.2.1 t.2.2.2.1 t.2.2.2.2) n ((a : Int), (b : Int), (c : Int), (d : Int), (i : Int))) (zQr (c * b ≤ a * d)) := by
  intro e
  induction e with
  | zero =>
    intro n a b c d i hb hd hb2
    exact absurd hb2 (by omega)
  | succ e ih =>
    intro n a b c d i hb hd hb2 hd2 ha' hb' hc' hd' hi hn
    obtain ⟨m, rfl⟩ : ∃ m, n = m + 1 + 1 := ⟨n - 2, by omega⟩
    have m1 := Nat.mod_lt a hb
    have m2 := Nat.mod_lt c hd
    refine zO_whs ?_
    dsimp only
    refine zO_mono (g5_cmp_s (i := i) hb hd ha' hb' hc' hd' (by omega)) (fun u hu => ?_)
    cases u with
    | inr r => exact hu
    | inl s' =>
      obtain ⟨rfl, r2, r1, he⟩ := hu
      refine show zO _ _ from ?_
      rw [he]
      have k1 := z_half2 (a := b) (b := a % b) r1 m1 hb2
      have k2 := z_half2 (a := d) (b := c % d) r2 m2 hd2
      refine zO_whs ?_
      dsimp only
      refine zO_mono (g5_cmp_s (i := i + 1) (a := d) (b := c % d) (c := b) (d := a % b) r2 r1 hd' (by omega) hb' (by omega) (by omega)) (fun u hu => ?_)
      cases u with
      | inr r => exact hu
      | inl s' =>
        obtain ⟨rfl, s2, s1, he2⟩ := hu
        refine show zO _ _ from ?_
        rw [he2]
        have n1 := Nat.mod_lt b (y := a % b) r1
        have n2 := Nat.mod_lt d (y := c % d) r2
        exact ih m (a % b) (b % (a % b)) (c % d) (d % (c % d)) (i + 1 + 1) s2 s1 k1 k2 (by omega) (by omega) (by omega) (by omega) (by omega) (by omega)
theorem f5_compare {k : zK} {M : zM} {a b c d : Nat} (hb : 0 < b) (hd : 0 < d) (ha' : a < 9223372036854775808) (hb' : b < 9223372036854775808) (hc' : c < 9223372036854775808) (hd' : d < 9223372036854775808) : zO (f_X5_compare k (a : Int) (b : Int) (c : Int) (d : Int) M) (fun v => zr v ∧ (0 ≤ v ↔ c * b ≤ a * d)) := by
  unfold f_X5_compare zw5
  have h64 : (2 : Nat) ^ 64 = 18446744073709551616 := by decide
  refine zO_sp2 (zO_mono (g5_cmp_l (k := k) (M := M) 64 zfu a b c d 0 hb hd (by omega) (by omega) ha' hb' hc' hd' (by omega) (by unfold zfu; omega)) (fun u hu => ?_))
  cases u with
  | inr r => exact zO_some hu
  | inl p =>
    obtain ⟨x, y⟩ := p
    obtain ⟨h1, h2, h3⟩ := hu
    dsimp only at h1 h2 h3
    refine show zO _ _ from ?_
    dsimp only
    refine zO_b1e (zJ_cmp h1 h2) (zO_some ?_)
    rw [← h3]
    split
    · split
      · exact ⟨⟨by omega, by omega⟩, fun _ => by assumption, fun _ => by omega⟩
      · exact ⟨⟨by omega, by omega⟩, fun _ => by assumption, fun _ => by omega⟩
    · exact ⟨⟨by omega, by omega⟩, fun h => absurd h (by omega), fun h => absurd h (by assumption)⟩

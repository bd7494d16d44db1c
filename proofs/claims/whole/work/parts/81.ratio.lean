/-! ratios -/
section zRa
theorem zO_blt {τ : Type} {P : τ → Prop} {a b : Int} {c : Prop} {hdec : Decidable c} {X Y : Option τ} (ha : zrl a) (hb : zrl b) (h1 : c → zO X P) (h2 : ¬ c → zO Y P) : zO (zbl a b c X Y) P := zO_bl ha hb h1 h2
end zRa
theorem z_mod {a b : Nat} : ((a : Int) % (b : Int)) = ((a % b : Nat) : Int) := by simp
theorem z_half {a b : Nat} (hb : 0 < b) (hab : b < a) : a % b < a / 2 + a % 2 := by
  have h1 := Nat.mod_lt a hb
  have h2 := Nat.div_add_mod a b
  have h3 : 1 ≤ a / b := Nat.div_pos (by omega) hb
  have h4 : b * 1 ≤ b * (a / b) := Nat.mul_le_mul_left b h3
  omega
theorem z_half2 {a b : Nat} (hb : 0 < b) (hab : b < a) {k : Nat} (hk : a < 2 ^ (k + 1)) : a % b < 2 ^ k := by
  have h1 := Nat.mod_lt a hb
  have h2 := Nat.div_add_mod a b
  have h3 : 1 ≤ a / b := Nat.div_pos (by omega) hb
  have h4 : b * 1 ≤ b * (a / b) := Nat.mul_le_mul_left b h3
  have h5 : 2 ^ (k + 1) = 2 * 2 ^ k := by rw [Nat.pow_succ]; omega
  omega
theorem g5_gcd_l {k : zK} {l1 l3 : Int} {M : zM} : ∀ (e n : Nat) (a b i : Nat), b < 2 ^ e → a < 9223372036854775808 → b < 9223372036854775808 → i + 2 * e < 200 → 2 * e + 2 ≤ n → zwh (fun t => gb_X5_put_9 k l1 l3 M t.1 t.2.1 t.2.2) n ((a : Int), (b : Int), (i : Int)) = some ((Nat.gcd a b : Nat) : Int) := by
  intro e
  induction e with
  | zero =>
    intro n a b i hb ha hb' hi hn
    obtain ⟨m, rfl⟩ : ∃ m, n = m + 1 := ⟨n - 1, by omega⟩
    have h0 : b = 0 := by omega
    subst h0
    apply zO_get
    refine zO_whs ?_
    dsimp only
    rw [gb_X5_put_9]
    refine zO_brn (by omega) (by omega) (by omega) (zO_blp (by omega) (by omega) (by omega) (zO_inr ?_))
    rw [Nat.gcd_zero_right]
  | succ e ih =>
    intro n a b i hb ha hb' hi hn
    obtain ⟨m, rfl⟩ : ∃ m, n = m + 1 + 1 := ⟨n - 2, by omega⟩
    apply zO_get
    refine zO_whs ?_
    dsimp only
    rw [gb_X5_put_9]
    by_cases h0 : b = 0
    · subst h0
      refine zO_brn (by omega) (by omega) (by omega) (zO_blp (by omega) (by omega) (by omega) (zO_inr ?_))
      rw [Nat.gcd_zero_right]
    · have hbp : 0 < b := by omega
      have hlt := Nat.mod_lt a hbp
      refine zO_brn (by omega) (by omega) (by omega) (zO_bln (by omega) (by omega) (by omega) ?_)
      refine zO_gd (by omega) (zO_lt (zO_lt (zO_inl ?_)))
      rw [z_mod, Nat.gcd_comm a b, Nat.gcd_rec b a, Nat.gcd_comm (a % b) b]
      refine zO_whs ?_
      dsimp only
      rw [gb_X5_put_9]
      by_cases h1 : a % b = 0
      · rw [h1]
        refine zO_brn (by omega) (by omega) (by omega) (zO_blp (by omega) (by omega) (by omega) (zO_inr ?_))
        rw [Nat.gcd_zero_right]
      · have h2 := z_half2 (a := b) (b := a % b) (by omega) hlt hb
        have h3 := Nat.mod_lt b (y := a % b) (by omega)
        refine zO_brn (by omega) (by omega) (by omega) (zO_bln (by omega) (by omega) (by omega) ?_)
        refine zO_gd (by omega) (zO_lt (zO_lt (zO_inl ?_)))
        rw [z_mod, Nat.gcd_comm b (a % b), Nat.gcd_rec (a % b) b, Nat.gcd_comm (b % (a % b)) (a % b)]
        have := ih m (a % b) (b % (a % b)) (i + 2) h2 (by omega) (by omega) (by omega) (by omega)
        rw [show (((i + 2 : Nat)) : Int) = (i : Int) + 1 + 1 by omega] at this
        exact zO_is this
theorem f11_gcd_l {k : zK} {M : zM} : ∀ (e n : Nat) (a b : Nat), b < 2 ^ e → a < 9223372036854775808 → b < 9223372036854775808 → 2 * e + 2 ≤ n → zwh (fun t => fb_X11_divisor_17 k M t.1 t.2) n ((a : Int), (b : Int)) = some ((Nat.gcd a b : Nat) : Int) := by
  intro e
  induction e with
  | zero =>
    intro n a b hb ha hb' hn
    obtain ⟨m, rfl⟩ : ∃ m, n = m + 1 := ⟨n - 1, by omega⟩
    have h0 : b = 0 := by omega
    subst h0
    apply zO_get
    refine zO_whs ?_
    dsimp only
    rw [fb_X11_divisor_17]
    refine zO_blp (by omega) (by omega) (by omega) (zO_inr ?_)
    rw [Nat.gcd_zero_right]
  | succ e ih =>
    intro n a b hb ha hb' hn
    obtain ⟨m, rfl⟩ : ∃ m, n = m + 1 + 1 := ⟨n - 2, by omega⟩
    apply zO_get
    refine zO_whs ?_
    dsimp only
    rw [fb_X11_divisor_17]
    by_cases h0 : b = 0
    · subst h0
      refine zO_blp (by omega) (by omega) (by omega) (zO_inr ?_)
      rw [Nat.gcd_zero_right]
    · have hbp : 0 < b := by omega
      have hlt := Nat.mod_lt a hbp
      refine zO_bln (by omega) (by omega) (by omega) ?_
      refine zO_gd (by omega) (zO_lt (zO_inl ?_))
      rw [z_mod, Nat.gcd_comm a b, Nat.gcd_rec b a, Nat.gcd_comm (a % b) b]
      refine zO_whs ?_
      dsimp only
      rw [fb_X11_divisor_17]
      by_cases h1 : a % b = 0
      · rw [h1]
        refine zO_blp (by omega) (by omega) (by omega) (zO_inr ?_)
        rw [Nat.gcd_zero_right]
      · have h2 := z_half2 (a := b) (b := a % b) (by omega) hlt hb
        have h3 := Nat.mod_lt b (y := a % b) (by omega)
        refine zO_bln (by omega) (by omega) (by omega) ?_
        refine zO_gd (by omega) (zO_lt (zO_inl ?_))
        rw [z_mod, Nat.gcd_comm b (a % b), Nat.gcd_rec (a % b) b, Nat.gcd_comm (b % (a % b)) (a % b)]
        exact zO_is (ih m (a % b) (b % (a % b)) h2 (by omega) (by omega) (by omega))
/-- the common divisor -/
def sG (u b : Int) : Int := ((Nat.gcd u.toNat b.toNat : Nat) : Int)
theorem sG_p {u b : Int} (hb : 0 < b) : 0 < sG u b := by
  unfold sG
  have := Nat.gcd_pos_of_pos_right u.toNat (n := b.toNat) (by omega)
  omega
theorem sG_le {u b : Int} (hb : 0 < b) : sG u b ≤ b := by
  unfold sG
  have := Nat.le_of_dvd (by omega : 0 < b.toNat) (Nat.gcd_dvd_right u.toNat b.toNat)
  omega
theorem sG_u {u b : Int} (hu : 0 ≤ u) : ∃ q, u = sG u b * q := by
  obtain ⟨q, hq⟩ := Nat.gcd_dvd_left u.toNat b.toNat
  refine ⟨(q : Int), ?_⟩
  unfold sG
  rw [← Int.natCast_mul, ← hq]
  omega
theorem sG_b {u b : Int} (hb : 0 ≤ b) : ∃ q, b = sG u b * q := by
  obtain ⟨q, hq⟩ := Nat.gcd_dvd_right u.toNat b.toNat
  refine ⟨(q : Int), ?_⟩
  unfold sG
  rw [← Int.natCast_mul, ← hq]
  omega
theorem g5_put {i : Nat} {u b : Int} {M : zM} (hu : 0 ≤ u ∧ u ≤ 9223372036854775807) (hb : 0 < b ∧ b ≤ 9223372036854775807) : g_X5_put (zKn i) u b M = some (zst (zst M 50 0 (u / sG u b)) 50 1 (b / sG u b)) := by
  apply zO_get
  unfold g_X5_put zw3
  have hl := g5_gcd_l (k := zKn i) (l1 := u) (l3 := b) (M := M) 64 zfu u.toNat b.toNat 0 (by have h64 : (2 : Nat) ^ 64 = 18446744073709551616 := (by decide); omega) (by omega) (by omega) (by omega) (by unfold zfu; omega)
  rw [show ((u.toNat : Nat) : Int) = u by omega, show ((b.toNat : Nat) : Int) = b by omega] at hl
  have hp := sG_p (u := u) hb.1
  have hle := sG_le (u := u) hb.1
  refine zO_b1e hl ?_
  refine zO_b1e (a := sG u b) ?_ ?_
  · unfold zbl
    rw [if_pos ⟨by unfold sG at hp hle; omega, by omega⟩, if_pos (by unfold sG at hp; omega)]
    rfl
  · refine zO_gd ⟨by omega, by omega, by omega⟩ (zO_lt ?_)
    refine zO_blp (by omega) (by omega) (by omega) ?_
    exact zO_gd ⟨by omega, by omega, by omega⟩ (zO_lt (zO_some rfl))
def sLow (u b w : Int) : Int := if w = 0 then u / sG u b else b / sG u b
theorem f11_low {i : Nat} {u b w : Int} {M : zM} (hw : w = 0 ∨ w = 1) (hu : 0 ≤ u ∧ u ≤ 9223372036854775807) (hb : 0 < b ∧ b ≤ 9223372036854775807) : f_X11_lowest (zKn i) u b w M = some (sLow u b w) := by
  apply zO_get
  unfold f_X11_lowest
  have hl := f11_gcd_l (k := zKn i) (M := M) 64 zfu u.toNat b.toNat (by have h64 : (2 : Nat) ^ 64 = 18446744073709551616 := (by decide); omega) (by omega) (by omega) (by unfold zfu; omega)
  rw [show ((u.toNat : Nat) : Int) = u by omega, show ((b.toNat : Nat) : Int) = b by omega] at hl
  have hp := sG_p (u := u) hb.1
  have hle := sG_le (u := u) hb.1
  have hd : f_X11_divisor (zKn i) u b M = some (sG u b) := by
    unfold f_X11_divisor zw2
    rw [show zbl u 0 (0 ≤ u) (some u) (some (-u)) = some u by unfold zbl; rw [if_pos ⟨by omega, by omega⟩, if_pos hu.1]]
    rw [zb1_some]
    rw [hl]
    rfl
  refine zO_b1e hd ?_
  unfold sLow
  rcases hw with rfl | rfl
  · refine zO_brn (by omega) (by omega) (by omega) (zO_gd ⟨by omega, by omega, by omega⟩ (zO_some ?_))
    rw [if_pos rfl]
  · refine zO_brp (by omega) (by omega) (by omega) (zO_gd ⟨by omega, by omega, by omega⟩ (zO_some ?_))
    rw [if_neg (by omega)]
theorem g5_part {k : zK} {w u b : Int} {M : zM} (hw : w = 0 ∨ w = 1) : g_X5_part k w (zst (zst M 50 0 (u / sG u b)) 50 1 (b / sG u b)) = some (sLow u b w) := by
  apply zO_get
  unfold g_X5_part sLow
  rcases hw with rfl | rfl
  · repeat' (first | (with_reducible refine zO_lt ?_) | (with_reducible refine zO_gd ?hc ?_; case hc => (first | omega | (simp (disch := omega) only [zst_ne, zst_s, zup_eq, zup_ne, Int.toNat_natCast, not_true_eq_false, not_false_eq_true, true_or, or_true, true_and, and_true]; first | done | omega) | with_reducible exact True.intro)) | (with_reducible refine zO_brp ?ha ?hb ?hc ?_; (case ha => (first | omega | (simp (disch := omega) only [zst_ne, zst_s, zup_eq, zup_ne, Int.toNat_natCast, not_true_eq_false, not_false_eq_true, true_or, or_true, true_and, and_true]; first | done | omega) | with_reducible exact True.intro)); (case hb => (first | omega | (simp (disch := omega) only [zst_ne, zst_s, zup_eq, zup_ne, Int.toNat_natCast, not_true_eq_false, not_false_eq_true, true_or, or_true, true_and, and_true]; first | done | omega) | with_reducible exact True.intro)); (case hc => (first | omega | (simp (disch := omega) only [zst_ne, zst_s, zup_eq, zup_ne, Int.toNat_natCast, not_true_eq_false, not_false_eq_true, true_or, or_true, true_and, and_true]; first | done | omega) | with_reducible exact True.intro))) | (with_reducible refine zO_brn ?ha ?hb ?hc ?_; (case ha => (first | omega | (simp (disch := omega) only [zst_ne, zst_s, zup_eq, zup_ne, Int.toNat_natCast, not_true_eq_false, not_false_eq_true, true_or, or_true, true_and, and_true]; first | done | omega) | with_reducible exact True.intro)); (case hb => (first | omega | (simp (disch := omega) only [zst_ne, zst_s, zup_eq, zup_ne, Int.toNat_natCast, not_true_eq_false, not_false_eq_true, true_or, or_true, true_and, and_true]; first | done | omega) | with_reducible exact True.intro)); (case hc => (first | omega | (simp (disch := omega) only [zst_ne, zst_s, zup_eq, zup_ne, Int.toNat_natCast, not_true_eq_false, not_false_eq_true, true_or, or_true, true_and, and_true]; first | done | omega) | with_reducible exact True.intro))) | simp (disch := omega) only [zst_ne, zst_s, zup_eq, zup_ne, Int.toNat_natCast, not_true_eq_false, not_false_eq_true, true_or, or_true, true_and, and_true] | (with_reducible refine zO_br ?ha ?hb (fun _ => ?_) (fun _ => ?_); (case ha => (first | omega | (simp (disch := omega) only [zst_ne, zst_s, zup_eq, zup_ne, Int.toNat_natCast, not_true_eq_false, not_false_eq_true, true_or, or_true, true_and, and_true]; first | done | omega) | with_reducible exact True.intro)); (case hb => (first | omega | (simp (disch := omega) only [zst_ne, zst_s, zup_eq, zup_ne, Int.toNat_natCast, not_true_eq_false, not_false_eq_true, true_or, or_true, true_and, and_true]; first | done | omega) | with_reducible exact True.intro))) | (with_reducible refine zO_ifp ?hc ?_; case hc => (first | omega | (simp (disch := omega) only [zst_ne, zst_s, zup_eq, zup_ne, Int.toNat_natCast, not_true_eq_false, not_false_eq_true, true_or, or_true, true_and, and_true]; first | done | omega) | with_reducible exact True.intro)) | (with_reducible refine zO_ifn ?hc ?_; case hc => (first | omega | (simp (disch := omega) only [zst_ne, zst_s, zup_eq, zup_ne, Int.toNat_natCast, not_true_eq_false, not_false_eq_true, true_or, or_true, true_and, and_true]; first | done | omega) | with_reducible exact True.intro)) | fail)
    exact zO_some (by simp)
  · repeat' (first | (with_reducible refine zO_lt ?_) | (with_reducible refine zO_gd ?hc ?_; case hc => (first | omega | (simp (disch := omega) only [zst_ne, zst_s, zup_eq, zup_ne, Int.toNat_natCast, not_true_eq_false, not_false_eq_true, true_or, or_true, true_and, and_true]; first | done | omega) | with_reducible exact True.intro)) | (with_reducible refine zO_brp ?ha ?hb ?hc ?_; (case ha => (first | omega | (simp (disch := omega) only [zst_ne, zst_s, zup_eq, zup_ne, Int.toNat_natCast, not_true_eq_false, not_false_eq_true, true_or, or_true, true_and, and_true]; first | done | omega) | with_reducible exact True.intro)); (case hb => (first | omega | (simp (disch := omega) only [zst_ne, zst_s, zup_eq, zup_ne, Int.toNat_natCast, not_true_eq_false, not_false_eq_true, true_or, or_true, true_and, and_true]; first | done | omega) | with_reducible exact True.intro)); (case hc => (first | omega | (simp (disch := omega) only [zst_ne, zst_s, zup_eq, zup_ne, Int.toNat_natCast, not_true_eq_false, not_false_eq_true, true_or, or_true, true_and, and_true]; first | done | omega) | with_reducible exact True.intro))) | (with_reducible refine zO_brn ?ha ?hb ?hc ?_; (case ha => (first | omega | (simp (disch := omega) only [zst_ne, zst_s, zup_eq, zup_ne, Int.toNat_natCast, not_true_eq_false, not_false_eq_true, true_or, or_true, true_and, and_true]; first | done | omega) | with_reducible exact True.intro)); (case hb => (first | omega | (simp (disch := omega) only [zst_ne, zst_s, zup_eq, zup_ne, Int.toNat_natCast, not_true_eq_false, not_false_eq_true, true_or, or_true, true_and, and_true]; first | done | omega) | with_reducible exact True.intro)); (case hc => (first | omega | (simp (disch := omega) only [zst_ne, zst_s, zup_eq, zup_ne, Int.toNat_natCast, not_true_eq_false, not_false_eq_true, true_or, or_true, true_and, and_true]; first | done | omega) | with_reducible exact True.intro))) | simp (disch := omega) only [zst_ne, zst_s, zup_eq, zup_ne, Int.toNat_natCast, not_true_eq_false, not_false_eq_true, true_or, or_true, true_and, and_true] | (with_reducible refine zO_br ?ha ?hb (fun _ => ?_) (fun _ => ?_); (case ha => (first | omega | (simp (disch := omega) only [zst_ne, zst_s, zup_eq, zup_ne, Int.toNat_natCast, not_true_eq_false, not_false_eq_true, true_or, or_true, true_and, and_true]; first | done | omega) | with_reducible exact True.intro)); (case hb => (first | omega | (simp (disch := omega) only [zst_ne, zst_s, zup_eq, zup_ne, Int.toNat_natCast, not_true_eq_false, not_false_eq_true, true_or, or_true, true_and, and_true]; first | done | omega) | with_reducible exact True.intro))) | (with_reducible refine zO_ifp ?hc ?_; case hc => (first | omega | (simp (disch := omega) only [zst_ne, zst_s, zup_eq, zup_ne, Int.toNat_natCast, not_true_eq_false, not_false_eq_true, true_or, or_true, true_and, and_true]; first | done | omega) | with_reducible exact True.intro)) | (with_reducible refine zO_ifn ?hc ?_; case hc => (first | omega | (simp (disch := omega) only [zst_ne, zst_s, zup_eq, zup_ne, Int.toNat_natCast, not_true_eq_false, not_false_eq_true, true_or, or_true, true_and, and_true]; first | done | omega) | with_reducible exact True.intro)) | fail)
    exact zO_some (by simp)
/-! LEFT -/
theorem f11_power {k : zK} {v : Int} {n : Nat} {M : zM} (hn : n ≤ 8) : f_X11_power k v n M = some (v ^ n) := by
  unfold f_X11_power zw2
  have h := zO_up (F := fun t => fb_X11_power_5 k v n M t.1 t.2) (fun j => (v ^ j, (j : Int))) n (t := v ^ n) (fun j hj => by
    apply zO_get
    dsimp only
    rw [fb_X11_power_5]
    repeat' (first | (with_reducible refine zO_lt ?_) | (with_reducible refine zO_gd ?hc ?_; case hc => (first | omega | (simp (disch := omega) only [zst_ne, zst_s, zup_eq, zup_ne, Int.toNat_natCast, not_true_eq_false, not_false_eq_true, true_or, or_true, true_and, and_true]; first | done | omega) | with_reducible exact True.intro)) | (with_reducible refine zO_brp ?ha ?hb ?hc ?_; (case ha => (first | omega | (simp (disch := omega) only [zst_ne, zst_s, zup_eq, zup_ne, Int.toNat_natCast, not_true_eq_false, not_false_eq_true, true_or, or_true, true_and, and_true]; first | done | omega) | with_reducible exact True.intro)); (case hb => (first | omega | (simp (disch := omega) only [zst_ne, zst_s, zup_eq, zup_ne, Int.toNat_natCast, not_true_eq_false, not_false_eq_true, true_or, or_true, true_and, and_true]; first | done | omega) | with_reducible exact True.intro)); (case hc => (first | omega | (simp (disch := omega) only [zst_ne, zst_s, zup_eq, zup_ne, Int.toNat_natCast, not_true_eq_false, not_false_eq_true, true_or, or_true, true_and, and_true]; first | done | omega) | with_reducible exact True.intro))) | (with_reducible refine zO_brn ?ha ?hb ?hc ?_; (case ha => (first | omega | (simp (disch := omega) only [zst_ne, zst_s, zup_eq, zup_ne, Int.toNat_natCast, not_true_eq_false, not_false_eq_true, true_or, or_true, true_and, and_true]; first | done | omega) | with_reducible exact True.intro)); (case hb => (first | omega | (simp (disch := omega) only [zst_ne, zst_s, zup_eq, zup_ne, Int.toNat_natCast, not_true_eq_false, not_false_eq_true, true_or, or_true, true_and, and_true]; first | done | omega) | with_reducible exact True.intro)); (case hc => (first | omega | (simp (disch := omega) only [zst_ne, zst_s, zup_eq, zup_ne, Int.toNat_natCast, not_true_eq_false, not_false_eq_true, true_or, or_true, true_and, and_true]; first | done | omega) | with_reducible exact True.intro))) | simp (disch := omega) only [zst_ne, zst_s, zup_eq, zup_ne, Int.toNat_natCast, not_true_eq_false, not_false_eq_true, true_or, or_true, true_and, and_true] | (with_reducible refine zO_br ?ha ?hb (fun _ => ?_) (fun _ => ?_); (case ha => (first | omega | (simp (disch := omega) only [zst_ne, zst_s, zup_eq, zup_ne, Int.toNat_natCast, not_true_eq_false, not_false_eq_true, true_or, or_true, true_and, and_true]; first | done | omega) | with_reducible exact True.intro)); (case hb => (first | omega | (simp (disch := omega) only [zst_ne, zst_s, zup_eq, zup_ne, Int.toNat_natCast, not_true_eq_false, not_false_eq_true, true_or, or_true, true_and, and_true]; first | done | omega) | with_reducible exact True.intro))) | (with_reducible refine zO_ifp ?hc ?_; case hc => (first | omega | (simp (disch := omega) only [zst_ne, zst_s, zup_eq, zup_ne, Int.toNat_natCast, not_true_eq_false, not_false_eq_true, true_or, or_true, true_and, and_true]; first | done | omega) | with_reducible exact True.intro)) | (with_reducible refine zO_ifn ?hc ?_; case hc => (first | omega | (simp (disch := omega) only [zst_ne, zst_s, zup_eq, zup_ne, Int.toNat_natCast, not_true_eq_false, not_false_eq_true, true_or, or_true, true_and, and_true]; first | done | omega) | with_reducible exact True.intro)) | fail)
    exact zO_some (by rw [Int.pow_succ, show (j : Int) + 1 = ((j + 1 : Nat) : Int) by omega])) (by
    apply zO_get
    dsimp only
    rw [fb_X11_power_5]
    repeat' (first | (with_reducible refine zO_lt ?_) | (with_reducible refine zO_gd ?hc ?_; case hc => (first | omega | (simp (disch := omega) only [zst_ne, zst_s, zup_eq, zup_ne, Int.toNat_natCast, not_true_eq_false, not_false_eq_true, true_or, or_true, true_and, and_true]; first | done | omega) | with_reducible exact True.intro)) | (with_reducible refine zO_brp ?ha ?hb ?hc ?_; (case ha => (first | omega | (simp (disch := omega) only [zst_ne, zst_s, zup_eq, zup_ne, Int.toNat_natCast, not_true_eq_false, not_false_eq_true, true_or, or_true, true_and, and_true]; first | done | omega) | with_reducible exact True.intro)); (case hb => (first | omega | (simp (disch := omega) only [zst_ne, zst_s, zup_eq, zup_ne, Int.toNat_natCast, not_true_eq_false, not_false_eq_true, true_or, or_true, true_and, and_true]; first | done | omega) | with_reducible exact True.intro)); (case hc => (first | omega | (simp (disch := omega) only [zst_ne, zst_s, zup_eq, zup_ne, Int.toNat_natCast, not_true_eq_false, not_false_eq_true, true_or, or_true, true_and, and_true]; first | done | omega) | with_reducible exact True.intro))) | (with_reducible refine zO_brn ?ha ?hb ?hc ?_; (case ha => (first | omega | (simp (disch := omega) only [zst_ne, zst_s, zup_eq, zup_ne, Int.toNat_natCast, not_true_eq_false, not_false_eq_true, true_or, or_true, true_and, and_true]; first | done | omega) | with_reducible exact True.intro)); (case hb => (first | omega | (simp (disch := omega) only [zst_ne, zst_s, zup_eq, zup_ne, Int.toNat_natCast, not_true_eq_false, not_false_eq_true, true_or, or_true, true_and, and_true]; first | done | omega) | with_reducible exact True.intro)); (case hc => (first | omega | (simp (disch := omega) only [zst_ne, zst_s, zup_eq, zup_ne, Int.toNat_natCast, not_true_eq_false, not_false_eq_true, true_or, or_true, true_and, and_true]; first | done | omega) | with_reducible exact True.intro))) | simp (disch := omega) only [zst_ne, zst_s, zup_eq, zup_ne, Int.toNat_natCast, not_true_eq_false, not_false_eq_true, true_or, or_true, true_and, and_true] | (with_reducible refine zO_br ?ha ?hb (fun _ => ?_) (fun _ => ?_); (case ha => (first | omega | (simp (disch := omega) only [zst_ne, zst_s, zup_eq, zup_ne, Int.toNat_natCast, not_true_eq_false, not_false_eq_true, true_or, or_true, true_and, and_true]; first | done | omega) | with_reducible exact True.intro)); (case hb => (first | omega | (simp (disch := omega) only [zst_ne, zst_s, zup_eq, zup_ne, Int.toNat_natCast, not_true_eq_false, not_false_eq_true, true_or, or_true, true_and, and_true]; first | done | omega) | with_reducible exact True.intro))) | (with_reducible refine zO_ifp ?hc ?_; case hc => (first | omega | (simp (disch := omega) only [zst_ne, zst_s, zup_eq, zup_ne, Int.toNat_natCast, not_true_eq_false, not_false_eq_true, true_or, or_true, true_and, and_true]; first | done | omega) | with_reducible exact True.intro)) | (with_reducible refine zO_ifn ?hc ?_; case hc => (first | omega | (simp (disch := omega) only [zst_ne, zst_s, zup_eq, zup_ne, Int.toNat_natCast, not_true_eq_false, not_false_eq_true, true_or, or_true, true_and, and_true]; first | done | omega) | with_reducible exact True.intro)) | fail)
    exact zO_some rfl) (by omega) 0 (by omega)
  rw [Int.pow_zero] at h
  have h' : zwh (fun t => fb_X11_power_5 k v n M t.1 t.2) zfu (1, 0) = some (v ^ n) := h
  rw [h']
  rfl
theorem z_pow {v : Int} (hv : 0 ≤ v ∧ v ≤ 10) : ∀ n : Nat, n ≤ 8 → 0 ≤ v ^ n ∧ v ^ n ≤ 10 ^ n := by
  intro n
  induction n with
  | zero => intro _; simp
  | succ n ih =>
    intro hn
    have h := ih (by omega)
    rw [Int.pow_succ, Int.pow_succ]
    exact ⟨Int.mul_nonneg h.1 hv.1, Int.mul_le_mul h.2 hv.2 hv.1 (by have : (0 : Int) ≤ 10 ^ n := Int.pow_nonneg (by omega); exact this)⟩
theorem z_p8 : ∀ n : Nat, n ≤ 8 → (1 : Int) ≤ 10 ^ n ∧ (10 : Int) ^ n ≤ 100000000 := by
  intro n hn
  rcases (show n = 0 ∨ n = 1 ∨ n = 2 ∨ n = 3 ∨ n = 4 ∨ n = 5 ∨ n = 6 ∨ n = 7 ∨ n = 8 by omega) with rfl | rfl | rfl | rfl | rfl | rfl | rfl | rfl | rfl <;> decide
theorem zSt.dry {i L : Nat} {M : zM} {E : zE} (h : zSt i L M E) {k : Nat} (hk : k < 16) : 0 ≤ M 8 k ∧ M 8 k ≤ M 7 k ∧ M 7 k ≤ 80 := by
  have hT := h.2.2.1
  have h8 := hT.2.2.2.2.2.2.2.1 k hk
  have h7 := hT.2.2.2.2.2.2.1
  have hn := hT.2.2.2.2.2.1.2
  rw [show M 8 k = _ from h8.2, show M 7 k = _ from h8.1]
  have e95 : ∀ d, d < (M 78 0).toNat → (M 95 (80 * 0 + d) = 0 ∨ M 95 (80 * 0 + d) = 1) := fun d hd => (h7 d (by omega)).2.2
  refine ⟨zsum_nn (fun d hd => ?_), zsum_mono (fun d hd => ?_), ?_⟩
  · show 0 ≤ (if _ then M 95 (80 * 0 + d) else 0)
    have := e95 d hd
    split <;> omega
  · show (if _ then M 95 (80 * 0 + d) else 0) ≤ (if _ then (1 : Int) else 0)
    have := e95 d hd
    split <;> omega
  · have : zsum (M 78 0).toNat (fun d => if M 86 (80 * 0 + d) = (k : Int) then (1 : Int) else 0) ≤ ((M 78 0).toNat : Int) * 1 := zsum_le (fun d _ => by show (if _ then (1 : Int) else 0) ≤ 1; split <;> omega)
    omega
theorem zSt.buck {i L : Nat} {M : zM} {E : zE} (h : zSt i L M E) {c : Nat} (hc : c < 256) : M 6 c = M 84 c ∧ 0 ≤ M 6 c ∧ M 6 c ≤ 8 := by
  have := h.2.2.1.2.2.1 c hc
  rw [show 256 * 0 + c = c by omega] at this
  exact this
/-- LEFT's numbers: not below 0, the lower above 0, not too great -/
theorem sL_r {i L : Nat} {M : zM} {E : zE} {a c : Nat} (h : zSt i L M E) (hc : c < 256) : 0 ≤ sL1 E M a c ∧ sL1 E M a c ≤ sL2 E M a c ∧ 0 < sL2 E M a c ∧ sL2 E M a c ≤ 20000000000 := by
  have hk := sKi_r (m := zgm E M) (lv := eV E a) (c := c)
  have hd := h.dry (k := (sKi (zgm E M) (eV E a) c).toNat) (by omega)
  have hb := (h.buck hc).2
  have hct := h.1.2.2.1
  have hp := z_pow (v := 10 - eT E) ⟨by omega, by omega⟩ (M 6 c).toNat (by omega)
  have hp8 := z_p8 (M 6 c).toNat (by omega)
  unfold sL2
  by_cases hl : eV E a < zgm E M c
  · rw [if_pos hl]
    have e : sL1 E M a c = (M 8 (sKi (zgm E M) (eV E a) c).toNat + 1) * (10 - eT E) ^ (M 6 c).toNat := by unfold sL1; rw [if_pos hl]
    generalize (10 - eT E) ^ (M 6 c).toNat = p at *
    generalize (10 : Int) ^ (M 6 c).toNat = q at *
    generalize M 8 (sKi (zgm E M) (eV E a) c).toNat = x at *
    generalize M 7 (sKi (zgm E M) (eV E a) c).toNat = y at *
    have h1 : 0 ≤ (x + 1) * p := Int.mul_nonneg (by omega) hp.1
    have h2 : (x + 1) * p ≤ 81 * 100000000 := Int.mul_le_mul (by omega) (by omega) hp.1 (by omega)
    have h3 : 1 * 1 ≤ (y + 2 - (x + 1)) * q := Int.mul_le_mul (by omega) hp8.1 (by omega) (by omega)
    have h4 : (y + 2 - (x + 1)) * q ≤ 81 * 100000000 := Int.mul_le_mul (by omega) hp8.2 (by omega) (by omega)
    rw [e]
    omega
  · rw [if_neg hl]
    have e : sL1 E M a c = 0 := by unfold sL1; rw [if_neg hl]
    rw [e]
    omega
theorem g10_left {i L : Nat} {M : zM} {E : zE} {a c : Nat} (hs : zSt i L M E) (hv : zVw M E (eV E a)) (hc : c < 256) : g_X10_reckonLeft (zKn i) c M = some (zst (zst M 50 0 (sL1 E M a c / sG (sL1 E M a c) (sL2 E M a c))) 50 1 (sL2 E M a c / sG (sL1 E M a c) (sL2 E M a c))) := by
  have hL := sL_r (a := a) hs hc
  have hput := g5_put (i := i) (u := sL1 E M a c) (b := sL2 E M a c) (M := M) ⟨by omega, by omega⟩ ⟨by omega, by omega⟩
  have hla := hv.land hc
  apply zO_get
  unfold g_X10_reckonLeft
  simp only [Int.toNat_natCast]
  by_cases hl : eV E a < zgm E M c
  · rw [sLand_p hl] at hla
    have hki := hv.ki hs (c := (c : Int)) ⟨by omega, by omega⟩
    rw [Int.toNat_natCast] at hki
    have hkr := sKi_r (m := zgm E M) (lv := eV E a) (c := c)
    have hd := hs.dry (k := (sKi (zgm E M) (eV E a) c).toNat) (by omega)
    have hb := (hs.buck hc).2
    have hct := hs.1.2.2.1
    have hcat := hs.2.1.2.2.2.2.2.1
    have e1 : sL1 E M a c = (M 8 (sKi (zgm E M) (eV E a) c).toNat + 1) * (10 - eT E) ^ (M 6 c).toNat := by unfold sL1; rw [if_pos hl]
    have e2 : sL2 E M a c = sL1 E M a c + (M 7 (sKi (zgm E M) (eV E a) c).toNat + 2 - (M 8 (sKi (zgm E M) (eV E a) c).toNat + 1)) * 10 ^ (M 6 c).toNat := by unfold sL2; rw [if_pos hl]
    obtain ⟨l1, l2, l3, l4⟩ := hs.law
    have l23 : ztag (zKn i) L = 4 ∧ L ≠ 0 := ⟨l2, l3⟩
    clear l2 l3 l4
    generalize hkk : sKi (zgm E M) (eV E a) c = k at *
    generalize hx : M 8 k.toNat = x at *
    generalize hy : M 7 k.toNat = y at *
    obtain ⟨n, hn⟩ : ∃ n : Nat, M 6 c = n := ⟨(M 6 c).toNat, by omega⟩
    rw [hn, Int.toNat_natCast] at e1 e2
    have hloop : zw3 (gb_X10_reckonLeft_59 (zKn i) c M) zfu (x + 1) (y + 2 - (x + 1)) 0 = some ((x + 1) * (10 - eT E) ^ n, (y + 2 - (x + 1)) * 10 ^ n) := by
      unfold zw3
      have h := zO_up (F := fun t => gb_X10_reckonLeft_59 (zKn i) c M t.1 t.2.1 t.2.2) (fun j => ((x + 1) * (10 - eT E) ^ j, (y + 2 - (x + 1)) * 10 ^ j, (j : Int))) n (t := ((x + 1) * (10 - eT E) ^ n, (y + 2 - (x + 1)) * 10 ^ n)) (fun j hj => by
        apply zO_get
        dsimp only
        rw [gb_X10_reckonLeft_59]
        simp only [Int.toNat_natCast, hn, l1]
        refine zO_gd (by omega) (zO_brn (by omega) (by omega) (by omega) (zO_gd l23 (zO_lt ?_)))
        rw [hcat]
        refine zO_gd (by omega) (zO_lt (zO_lt (zO_lt (zO_some ?_))))
        rw [Int.pow_succ, Int.pow_succ, show (j : Int) + 1 = ((j + 1 : Nat) : Int) by omega, Int.mul_assoc, Int.mul_assoc]) (by
        apply zO_get
        dsimp only
        rw [gb_X10_reckonLeft_59]
        simp only [Int.toNat_natCast, hn]
        exact zO_gd (by omega) (zO_brp (by omega) (by omega) (by omega) (zO_some rfl))) (by omega) 0 (by omega)
      have h' : zwh (fun t => gb_X10_reckonLeft_59 (zKn i) c M t.1 t.2.1 t.2.2) zfu ((x + 1) * (10 - eT E) ^ 0, (y + 2 - (x + 1)) * 10 ^ 0, 0) = _ := h
      rw [Int.pow_zero, Int.pow_zero, Int.mul_one, Int.mul_one] at h'
      exact h'
    refine zO_gd (by omega) (zO_brp (by omega) (by omega) (by omega) ?_)
    refine zO_b1e hki (zO_gd (by omega) ?_)
    rw [hx, hy]
    refine zO_gd (by omega) (zO_lt (zO_gd (by omega) (zO_gd (by omega) (zO_lt ?_))))
    refine zO_b2 (zO_eq hloop ?_)
    dsimp only
    rw [← e1, ← e2]
    exact zO_b1e hput (zO_some rfl)
  · rw [sLand_n hl] at hla
    have e1 : sL1 E M a c = 0 := by unfold sL1; rw [if_neg hl]
    have e2 : sL2 E M a c = 1 := by unfold sL2; rw [if_neg hl]
    rw [e1, e2] at hput ⊢
    refine zO_gd (by omega) (zO_brn (by omega) (by omega) (by omega) ?_)
    exact zO_b1e hput (zO_some rfl)
theorem g11_left {i L : Nat} {M : zM} {E : zE} {a c : Nat} (hs : zSt i L M E) (hv : zMw M E a) (ha : a < 100) (hc : c < 256) : zO (g_X11_findLeft (zKn i) c M) (fun M' => zQm M M' ∧ zMw M' E a ∧ zFr [76] M M' ∧ M' 76 63 = sL1 E M a c ∧ M' 76 64 = sL2 E M a c) := by
  have hL := sL_r (a := a) hs hc
  have hla := hv.land hs hc
  unfold g_X11_findLeft
  simp only [Int.toNat_natCast]
  refine zO_lt (zO_lt (zO_gd (by omega) ?_))
  generalize hA : zst (zst M 76 63 0) 76 64 1 = A
  have fA : zFr [76] M A := by rw [← hA]; exact (zFr_refl.st (by decide)).st (by decide)
  have xA : ∀ x, x ≠ 63 → x ≠ 64 → A 76 x = M 76 x := fun x h1 h2 => by rw [← hA, zst_ns h2, zst_ns h1]
  have a63 : A 76 63 = 0 := by rw [← hA]; simp (disch := omega) only [zst_ne, zst_s, zup_eq, zup_ne, Int.toNat_natCast, not_true_eq_false, not_false_eq_true, true_or, or_true, true_and, and_true]
  have a64 : A 76 64 = 1 := by rw [← hA, zst_eq]
  have qA : zQm M A := ⟨fun q x y => fA q (by simp; omega), fun x hx => xA x (by omega) (by omega)⟩
  have vA : zMw A E a := hv.fr (fun q hq => fA q (by simp; omega)) (xA 48 (by omega) (by omega)) (xA 49 (by omega) (by omega))
  have hsA := hs.qm qA
  have hg : zgm E A = zgm E M := zgm_qm qA
  have a118 : A 118 = M 118 := fA 118 (by decide)
  rw [a118]
  by_cases hl : eV E a < zgm E M c
  · rw [sLand_p hl] at hla
    have hki := vA.ki hsA ha (c := (c : Int)) ⟨by omega, by omega⟩
    rw [Int.toNat_natCast, hg] at hki
    have hkr := sKi_r (m := zgm E M) (lv := eV E a) (c := c)
    have e1 : sL1 E M a c = (M 8 (sKi (zgm E M) (eV E a) c).toNat + 1) * (10 - eT E) ^ (M 6 c).toNat := by unfold sL1; rw [if_pos hl]
    have e2 : sL2 E M a c = sL1 E M a c + (M 7 (sKi (zgm E M) (eV E a) c).toNat + 2 - (M 8 (sKi (zgm E M) (eV E a) c).toNat + 1)) * 10 ^ (M 6 c).toNat := by unfold sL2; rw [if_pos hl]
    have hd := hs.dry (k := (sKi (zgm E M) (eV E a) c).toNat) (by omega)
    have hlk := sLu_k hsA (k := (sKi (zgm E M) (eV E a) c).toNat) (by omega)
    have hln := g11_learn' hsA (kind := sKi (zgm E M) (eV E a) c) (but := -1) ⟨by omega, by omega⟩ ⟨by omega, by omega⟩
    generalize sKi (zgm E M) (eV E a) c = k at *
    rw [show ((k.toNat : Nat) : Int) = k by omega] at hlk
    rw [hlk.1, hlk.2, qA.1 8 (by omega) (by omega), qA.1 7 (by omega) (by omega)] at hln
    clear hlk
    have hct := hs.1.2.2.1
    obtain ⟨hb6, hb⟩ := hs.buck hc
    refine zO_brp (by omega) (by omega) (by omega) ?_
    refine zO_b1e hki ?_
    refine zO_b1q hln ?_
    rintro B ⟨qB, fB, xB, b61, b62⟩
    have hsB := hsA.qm qB
    have hcat := (hsB.2.1.2.2.2.2.2.2.2.2.2.2.2 B (zla (fun _ _ _ => rfl))).1
    have hcc : g_X11_catches (zKn i) B = some (eT E) := by unfold g_X11_catches; rw [hcat]; rfl
    obtain ⟨n, hn⟩ : ∃ n : Nat, M 6 c = n := ⟨(M 6 c).toNat, by omega⟩
    have b84 : B 84 c = n := by rw [fB 84 (by decide), fA 84 (by decide), ← hb6, hn]
    rw [hn, Int.toNat_natCast] at e1 e2
    refine zO_gd (by rw [b61]; omega) (zO_b1e hcc (zO_gd (by omega) (zO_gd (by omega) ?_)))
    rw [b84]
    refine zO_b1e (f11_power (by omega)) ?_
    refine zO_lt ?_
    simp (disch := omega) only [zst_ne, zst_s, zup_eq, zup_ne, Int.toNat_natCast, not_true_eq_false, not_false_eq_true, true_or, or_true, true_and, and_true]
    rw [b61, b62, b84]
    refine zO_gd (by omega) (zO_gd (by omega) ?_)
    refine zO_b1e (f11_power (by omega)) (zO_lt (zO_some ?_))
    rw [← e1, ← e2]
    generalize hC : zst (zst B 76 63 (sL1 E M a c)) 76 64 (sL2 E M a c) = C
    have fC : zFr [76] B C := by rw [← hC]; exact (zFr_refl.st (by decide)).st (by decide)
    have xC : ∀ x, x ≠ 63 → x ≠ 64 → C 76 x = B 76 x := fun x h1 h2 => by rw [← hC, zst_ns h2, zst_ns h1]
    refine ⟨qA.tr (qB.tr ⟨fun q x y => fC q (by simp; omega), fun x hx => xC x (by omega) (by omega)⟩), ?_, (fA.tr fB).tr fC, ?_, ?_⟩
    · exact vA.fr (fun q hq => (fC q (by simp; omega)).trans (fB q (by simp; omega))) ((xC 48 (by omega) (by omega)).trans (xB 48 (by omega) (by omega))) ((xC 49 (by omega) (by omega)).trans (xB 49 (by omega) (by omega)))
    · rw [← hC]; simp (disch := omega) only [zst_ne, zst_s, zup_eq, zup_ne, Int.toNat_natCast, not_true_eq_false, not_false_eq_true, true_or, or_true, true_and, and_true]
    · rw [← hC, zst_eq]
  · rw [sLand_n hl] at hla
    have e1 : sL1 E M a c = 0 := by unfold sL1; rw [if_neg hl]
    have e2 : sL2 E M a c = 1 := by unfold sL2; rw [if_neg hl]
    refine zO_brn (by omega) (by omega) (by omega) (zO_some ⟨qA, vA, fA, by rw [a63, e1], by rw [a64, e2]⟩)

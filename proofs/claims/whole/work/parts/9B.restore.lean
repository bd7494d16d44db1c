theorem g11_copies {k : zK} {a b : Nat} {M : zM} (ha : a < 4) (hb : b < 4) (hab : a ≠ b) (h95 : ∀ d, d < 80 → M 95 (80 * a + d) = 0 ∨ M 95 (80 * a + d) = 1) (h96 : ∀ d, d < 40 → M 96 (40 * a + d) = 0 ∨ M 96 (40 * a + d) = 1) : zO (g_X11_copies k (a : Int) (b : Int) M) (fun M' => zCq [78, 79, 80, 81, 82, 83, 84, 85, 86, 95, 87, 88, 89, 90, 91, 96, 92, 93, 94] a b M M') := by
  unfold g_X11_copies
  simp only [Int.toNat_natCast]
  repeat' (first | (with_reducible refine zO_gd (by omega) ?_) | (with_reducible refine zO_lt ?_))
  have hm : ∀ q, q ∈ [78, 79, 80, 81] → zof q = 1 := by decide
  have h0 : zCq [78, 79, 80, 81] a b M (zst (zst (zst (zst M 78 b (M 78 a)) 79 b (zst M 78 b (M 78 a) 79 a)) 80 b (zst (zst M 78 b (M 78 a)) 79 b (zst M 78 b (M 78 a) 79 a) 80 a)) 81 b (zst (zst (zst M 78 b (M 78 a)) 79 b (zst M 78 b (M 78 a) 79 a)) 80 b (zst (zst M 78 b (M 78 a)) 79 b (zst M 78 b (M 78 a) 79 a) 80 a) 81 a)) := by
    refine (zCo_all zCo_0 (fun q hq => by rw [hm q hq]; omega) hab (fun q hq => ?_) (fun q x hq => ?_)).q hm
    · rw [hm q hq, Nat.one_mul, Nat.one_mul, Nat.add_zero, Nat.add_zero]
      simp only [List.mem_cons, List.not_mem_nil, or_false] at hq
      rcases hq with rfl | rfl | rfl | rfl
      all_goals simp (disch := omega) only [zst_ne, zst_s, zup_eq, zup_ne, Int.toNat_natCast, not_true_eq_false, not_false_eq_true, true_or, or_true, true_and, and_true]
    · replace hq : ¬ (q ∈ [78, 79, 80, 81] ∧ x = b) := fun h => hq ⟨h.1, by rw [hm q h.1]; have := h.2; omega⟩
      by_cases h78 : q = 78
      · subst h78
        have hx : x ≠ b := fun e => hq ⟨by decide, e⟩
        simp (disch := omega) only [zst_ne, zst_s, zup_eq, zup_ne, Int.toNat_natCast, not_true_eq_false, not_false_eq_true, true_or, or_true, true_and, and_true]
      by_cases h79 : q = 79
      · subst h79
        have hx : x ≠ b := fun e => hq ⟨by decide, e⟩
        simp (disch := omega) only [zst_ne, zst_s, zup_eq, zup_ne, Int.toNat_natCast, not_true_eq_false, not_false_eq_true, true_or, or_true, true_and, and_true]
      by_cases h80 : q = 80
      · subst h80
        have hx : x ≠ b := fun e => hq ⟨by decide, e⟩
        simp (disch := omega) only [zst_ne, zst_s, zup_eq, zup_ne, Int.toNat_natCast, not_true_eq_false, not_false_eq_true, true_or, or_true, true_and, and_true]
      by_cases h81 : q = 81
      · subst h81
        have hx : x ≠ b := fun e => hq ⟨by decide, e⟩
        simp (disch := omega) only [zst_ne, zst_s, zup_eq, zup_ne, Int.toNat_natCast, not_true_eq_false, not_false_eq_true, true_or, or_true, true_and, and_true]
      simp (disch := omega) only [zst_ne, zst_s, zup_eq, zup_ne, Int.toNat_natCast, not_true_eq_false, not_false_eq_true, true_or, or_true, true_and, and_true]
  refine zO_b1q (g11_c50 ha hb hab) ?_
  intro A hA
  have h1 := h0.tr hA (by decide)
  refine zO_b1q (g11_c161 ha hb hab (fun d hd => by
    have := h1 95 (80 * a + d)
    rw [if_neg (fun h => absurd h.1 (by decide))] at this
    rw [this]
    exact h95 d hd)) ?_
  intro B hB
  have h2 := h1.tr hB (by decide)
  refine zO_b1q (g11_c219 ha hb hab) ?_
  intro C hC
  have h3 := h2.tr hC (by decide)
  refine zO_b1q (g11_c321 ha hb hab) ?_
  intro D hD
  have h4 := h3.tr hD (by decide)
  refine zO_b1q (g11_c357 ha hb hab (fun d hd => by
    have := h4 96 (40 * a + d)
    rw [if_neg (fun h => absurd h.1 (by decide))] at this
    rw [this]
    exact h96 d hd)) ?_
  intro G hG
  exact zO_some (h4.tr hG (by decide))
theorem zCq_mem {q : Nat} (h1 : 78 ≤ q) (h2 : q ≤ 96) : q ∈ [78, 79, 80, 81, 82, 83, 84, 85, 86, 95, 87, 88, 89, 90, 91, 96, 92, 93, 94] := by
  have : ∀ q, q < 97 → 78 ≤ q → q ∈ [78, 79, 80, 81, 82, 83, 84, 85, 86, 95, 87, 88, 89, 90, 91, 96, 92, 93, 94] := by decide
  exact this q (by omega) h1
theorem zCq_not {q : Nat} (h : q < 78 ∨ 96 < q) : ¬ q ∈ [78, 79, 80, 81, 82, 83, 84, 85, 86, 95, 87, 88, 89, 90, 91, 96, 92, 93, 94] := by
  intro hq
  have : ∀ x, x ∈ [78, 79, 80, 81, 82, 83, 84, 85, 86, 95, 87, 88, 89, 90, 91, 96, 92, 93, 94] → 78 ≤ x ∧ x ≤ 96 := by decide
  have := this q hq
  omega
theorem p_restore {i L : Nat} {M : zM} {E : zE} {p1 : Int} (hI : zInv i L M E) (h1 : zr p1) : zP2 i L E (g_X10_restore (zKn i) p1) (g_X11_restore (zKn i) p1) M := by
  obtain ⟨s1, s2, hT, ⟨hi3, hi0⟩, e13, e20, him, h51, htp, _, hfa⟩ := hI.1
  have z0 : zr 0 := ⟨by omega, by omega⟩
  unfold zP2 g_X10_restore g_X11_restore
  by_cases hc : 0 ≤ p1 ∧ p1 ≤ (i : Int) - 1
  · obtain ⟨j, rfl⟩ : ∃ j : Nat, p1 = (j : Int) := ⟨p1.toNat, by omega⟩
    obtain ⟨d1, d2⟩ := him j (by omega)
    have dn : (M 20 j).toNat = 129 + 16 * j := by omega
    simp only [Int.toNat_natCast, dn]
    refine zO_sp1 ?_
    refine zO_brn ⟨by omega, by omega⟩ ⟨by omega, by omega⟩ (by omega) ?_
    refine zO_brn ⟨by omega, by omega⟩ ⟨by omega, by omega⟩ (by omega) ?_
    refine zO_brn ⟨by omega, by omega⟩ ⟨by omega, by omega⟩ (by omega) (zO_gd (by omega) (zO_ifn (by omega) (zO_gd (by omega) (zO_gd ⟨ztag_i (by omega) hi3, by omega⟩ ?_))))
    refine zO_b1q (f7_take zTr_4 (zTr_i (i := i) (j := j) (by omega) hi3) (by omega)) ?_
    rintro A ⟨A1, A2, A3⟩
    refine zO_b1e g10_forgetGround ?_
    refine zO_inr ?_
    refine zO_some ?_
    dsimp only
    generalize hB : zst (zst A 1 14 1) 46 6 (-1) = B
    have B1 : ∀ q, q ≠ 1 → q ≠ 46 → (q < 4 ∨ 19 < q) → B q = M q := fun q a b c => by rw [← hB, zst_ne b, zst_ne a, A1 q (by omega)]
    have B2 : ∀ x, x ≠ 14 → B 1 x = M 1 x := fun x hx => by rw [← hB, zst_ne (by decide), zst_ns hx, A1 1 (by omega)]
    have B3 : ∀ x, x ≠ 6 → B 46 x = M 46 x := fun x hx => by rw [← hB, zst_ns hx, zst_ne (by decide), A1 46 (by omega)]
    have B4 : ∀ q, 4 ≤ q → q ≤ 19 → B q = A q := fun q a b => by rw [← hB, zst_ne (by omega), zst_ne (by omega)]
    have B5 : B 1 14 = 1 := by rw [← hB, zst_ne (by decide), zst_eq]
    have B6 : B 46 6 = -1 := by rw [← hB, zst_eq]
    have hw : f_X11_within (zKn i) (j : Int) 0 (B 76 20 - 1) B = some 1 := by
      rw [B1 76 (by omega) (by omega) (by omega), e20]
      exact t_in ⟨by omega, by omega⟩ z0 ⟨by omega, by omega⟩ (by omega)
    refine zO_b1e hw (zO_brp ⟨by omega, by omega⟩ ⟨by omega, by omega⟩ (by omega) ?_)
    have hcp := g11_copies (k := zKn i) (a := j + 1) (b := 0) (M := B) (by omega) (by omega) (by omega) (fun d hd => by rw [B1 95 (by omega) (by omega) (by omega)]; exact (d2.2.2.2.2.2.2.1 d hd).2.2) (fun d hd => by rw [B1 96 (by omega) (by omega) (by omega)]; have := (d2.2.2.2.2.2.2.2.2.2.2.2.2.2 d hd).1; rw [← this.1]; exact this.2)
    rw [show ((j + 1 : Nat) : Int) = (j : Int) + 1 by omega] at hcp
    refine zO_b1q hcp ?_
    intro C hC
    refine zO_some ⟨rfl, ?_⟩
    dsimp only
    have C1 : ∀ q, q < 78 ∨ 96 < q → C q = B q := fun q hq => by
      funext x
      rw [hC q x, if_neg (fun h => zCq_not hq h.1)]
    have C2 : ∀ q x, 78 ≤ q → q ≤ 96 → zof q ≤ x → C q x = B q x := fun q x a b c => by
      rw [hC q x, if_neg (fun h => by omega)]
    have C3 : ∀ q x, 78 ≤ q → q ≤ 96 → x < zof q → C q x = B q (zof q * (j + 1) + x) := fun q x a b c => by
      rw [hC q x, if_pos ⟨zCq_mem a b, by omega, by omega⟩]
      congr 1
    refine hI.td2 ⟨?_, ?_, ?_, ?_⟩ ?_ ?_ (fun hd => hI.2.1.st hd (by rw [C1 1 (by omega)]; exact B5)) (fun _ => Or.inl (by rw [C1 46 (by omega)]; exact B6))
    · intro q a b c d e
      rw [C1 q (by omega), B1 q a b c]
    · intro x hx
      rw [C1 1 (by omega), B2 x hx]
    · intro x hx
      rw [C1 46 (by omega), B3 x hx]
    · intro q x a b c
      rw [C2 q x a b c, B1 q (by omega) (by omega) (by omega)]
    · refine d2.cp ?_ ?_ ?_
      · intro n x n1 n2 hx
        rw [C1 (4 + n) (by omega), B4 _ (by omega) (by omega), A2 n x n1 n2 hx]
      · intro x x1 x2
        rw [C1 4 (by omega), B4 _ (by omega) (by omega), A3 x x1 x2]
      · intro q x a b c
        rw [Nat.mul_zero, Nat.zero_add, C3 q x a b c, B1 q (by omega) (by omega) (by omega)]
    · intro r hr
      rw [C1 51 (by omega), C1 77 (by omega), B1 51 (by omega) (by omega) (by omega), B1 77 (by omega) (by omega) (by omega)]
      exact h51 r hr
  · have fin : zO (zbd (g_X10_refuse (zKn i) 0 M) fun M6 v5 => some (M6, (0 : Int))) (fun r => zO (zb1 (f_X11_within (zKn i) p1 0 (r.1 76 20 - 1) r.1) (fun v1 => zbr v1 0 (¬ v1 = 0) (zb1 (g_X11_copies (zKn i) (p1 + 1) 0 r.1) (fun M3 => some (M3, 1))) (zbd (g_X11_isNot (zKn i) r.1) (fun M5 v4 => zgd (v4 = 0 ∨ v4 = 1) (some (M5, v4)))))) (fun r' => r.2 = r'.2 ∧ zInv i L r'.1 E)) := by
      refine zO_bde (g10_refuse (by omega)) (zO_some ?_)
      dsimp only
      have hw : ∀ v : Int, f_X11_within (zKn i) p1 0 (zst M 51 0 v 76 20 - 1) (zst M 51 0 v) = some 0 := fun v => by
        rw [zst_ne (by decide), e20]
        exact t_in_n h1 z0 ⟨by omega, by omega⟩ (by omega)
      refine zO_b1e (hw _) (zO_brn ⟨by omega, by omega⟩ ⟨by omega, by omega⟩ (by omega) (zO_bde g11_isNot (zO_gd (by omega) (zO_some ⟨rfl, ?_⟩))))
      exact hI.ref (p := 0) (by omega)
    rcases Classical.em (p1 < 0) with c | c
    · refine zO_sp1 (zO_brp ⟨by omega, by omega⟩ ⟨by omega, by omega⟩ c (zO_inl ?_))
      exact fin
    · refine zO_sp1 (zO_brn ⟨by omega, by omega⟩ ⟨by omega, by omega⟩ c (zO_brp ⟨by omega, by omega⟩ ⟨by omega, by omega⟩ (by omega) (zO_inl ?_)))
      exact fin

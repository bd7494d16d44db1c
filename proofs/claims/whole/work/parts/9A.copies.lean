/-! the reference copies -/
theorem g11_c50 {k : zK} {a b : Nat} {M : zM} (ha : a < 4) (hb : b < 4) (hab : a ≠ b) : zO (zw2 (gb_X11_copies_50 k (a : Int) (b : Int)) zfu 0 M) (fun M' => zCq [82, 83, 84, 85] a b M M') := by
  have hm : ∀ q, q ∈ [82, 83, 84, 85] → zof q = 256 := by decide
  unfold zw2
  refine zO_for (fun s => s.1) 256 (fun j s => zCo [82, 83, 84, 85] a b j M s.2) ?_ ?_ (by omega) 0 (by omega) rfl zCo_0
  · rintro j ⟨y, A⟩ hj rfl hI
    dsimp only at *
    rw [gb_X11_copies_50]
    rw [show (256 * (a : Int) + (j : Int)).toNat = 256 * a + j by omega, show (256 * (b : Int) + (j : Int)).toNat = 256 * b + j by omega]
    refine zO_brn ⟨by omega, by omega⟩ ⟨by omega, by omega⟩ (by omega) ?_
    repeat' (first | (with_reducible refine zO_gd (by first | omega | (simp (disch := omega) only [zst_ne, zst_s, zup_eq, zup_ne, Int.toNat_natCast, not_true_eq_false, not_false_eq_true, true_or, or_true, true_and, and_true]; omega)) ?_) | (with_reducible refine zO_lt ?_))
    refine zO_inl ⟨by dsimp only; omega, ?_⟩
    dsimp only
    refine zCo_all hI (fun q hq => by rw [hm q hq]; exact hj) hab (fun q hq => ?_) (fun q x hq => ?_)
    · rw [hm q hq]
      simp only [List.mem_cons, List.not_mem_nil, or_false] at hq
      rcases hq with rfl | rfl | rfl | rfl
      all_goals simp (disch := omega) only [zst_ne, zst_s, zup_eq, zup_ne, Int.toNat_natCast, not_true_eq_false, not_false_eq_true, true_or, or_true, true_and, and_true]
    · have hz : ∀ r, r ∈ [82, 83, 84, 85] → zof r = 256 := hm
      replace hq : ¬ (q ∈ [82, 83, 84, 85] ∧ x = 256 * b + j) := fun h => hq ⟨h.1, by rw [hm q h.1]; exact h.2⟩
      by_cases h82 : q = 82
      · subst h82
        have hx : x ≠ 256 * b + j := fun e => hq ⟨by decide, e⟩
        simp (disch := omega) only [zst_ne, zst_s, zup_eq, zup_ne, Int.toNat_natCast, not_true_eq_false, not_false_eq_true, true_or, or_true, true_and, and_true]
      by_cases h83 : q = 83
      · subst h83
        have hx : x ≠ 256 * b + j := fun e => hq ⟨by decide, e⟩
        simp (disch := omega) only [zst_ne, zst_s, zup_eq, zup_ne, Int.toNat_natCast, not_true_eq_false, not_false_eq_true, true_or, or_true, true_and, and_true]
      by_cases h84 : q = 84
      · subst h84
        have hx : x ≠ 256 * b + j := fun e => hq ⟨by decide, e⟩
        simp (disch := omega) only [zst_ne, zst_s, zup_eq, zup_ne, Int.toNat_natCast, not_true_eq_false, not_false_eq_true, true_or, or_true, true_and, and_true]
      by_cases h85 : q = 85
      · subst h85
        have hx : x ≠ 256 * b + j := fun e => hq ⟨by decide, e⟩
        simp (disch := omega) only [zst_ne, zst_s, zup_eq, zup_ne, Int.toNat_natCast, not_true_eq_false, not_false_eq_true, true_or, or_true, true_and, and_true]
      simp (disch := omega) only [zst_ne, zst_s, zup_eq, zup_ne, Int.toNat_natCast, not_true_eq_false, not_false_eq_true, true_or, or_true, true_and, and_true]
  · rintro ⟨y, A⟩ rfl hI
    dsimp only at *
    rw [gb_X11_copies_50]
    exact zO_brp ⟨by omega, by omega⟩ ⟨by omega, by omega⟩ (by omega) (zO_inr (hI.q hm))
theorem g11_c161 {k : zK} {a b : Nat} {M : zM} (ha : a < 4) (hb : b < 4) (hab : a ≠ b) (hbit : ∀ d, d < 80 → M 95 (80 * a + d) = 0 ∨ M 95 (80 * a + d) = 1) : zO (zw2 (gb_X11_copies_161 k (a : Int) (b : Int)) zfu 0 M) (fun M' => zCq [86, 95] a b M M') := by
  have hm : ∀ q, q ∈ [86, 95] → zof q = 80 := by decide
  unfold zw2
  refine zO_for (fun s => s.1) 80 (fun j s => zCo [86, 95] a b j M s.2) ?_ ?_ (by omega) 0 (by omega) rfl zCo_0
  · rintro j ⟨y, A⟩ hj rfl hI
    dsimp only at *
    rw [gb_X11_copies_161]
    rw [show (80 * (a : Int) + (j : Int)).toNat = 80 * a + j by omega, show (80 * (b : Int) + (j : Int)).toNat = 80 * b + j by omega]
    have hA : A 95 (80 * a + j) = 0 ∨ A 95 (80 * a + j) = 1 := by
      have := hI 95 (80 * a + j)
      rw [if_neg (fun h' => zCo_out (q := 95) hj hab h'.2)] at this
      rw [this]
      exact hbit j hj
    refine zO_brn ⟨by omega, by omega⟩ ⟨by omega, by omega⟩ (by omega) ?_
    repeat' (first | (with_reducible refine zO_gd (by first | omega | (simp (disch := omega) only [zst_ne, zst_s, zup_eq, zup_ne, Int.toNat_natCast, not_true_eq_false, not_false_eq_true, true_or, or_true, true_and, and_true]; omega)) ?_) | (with_reducible refine zO_lt ?_))
    refine zO_inl ⟨by dsimp only; omega, ?_⟩
    dsimp only
    refine zCo_all hI (fun q hq => by rw [hm q hq]; exact hj) hab (fun q hq => ?_) (fun q x hq => ?_)
    · rw [hm q hq]
      simp only [List.mem_cons, List.not_mem_nil, or_false] at hq
      rcases hq with rfl | rfl
      all_goals simp (disch := omega) only [zst_ne, zst_s, zup_eq, zup_ne, Int.toNat_natCast, not_true_eq_false, not_false_eq_true, true_or, or_true, true_and, and_true]
    · have hz : ∀ r, r ∈ [86, 95] → zof r = 80 := hm
      replace hq : ¬ (q ∈ [86, 95] ∧ x = 80 * b + j) := fun h => hq ⟨h.1, by rw [hm q h.1]; exact h.2⟩
      by_cases h86 : q = 86
      · subst h86
        have hx : x ≠ 80 * b + j := fun e => hq ⟨by decide, e⟩
        simp (disch := omega) only [zst_ne, zst_s, zup_eq, zup_ne, Int.toNat_natCast, not_true_eq_false, not_false_eq_true, true_or, or_true, true_and, and_true]
      by_cases h95 : q = 95
      · subst h95
        have hx : x ≠ 80 * b + j := fun e => hq ⟨by decide, e⟩
        simp (disch := omega) only [zst_ne, zst_s, zup_eq, zup_ne, Int.toNat_natCast, not_true_eq_false, not_false_eq_true, true_or, or_true, true_and, and_true]
      simp (disch := omega) only [zst_ne, zst_s, zup_eq, zup_ne, Int.toNat_natCast, not_true_eq_false, not_false_eq_true, true_or, or_true, true_and, and_true]
  · rintro ⟨y, A⟩ rfl hI
    dsimp only at *
    rw [gb_X11_copies_161]
    exact zO_brp ⟨by omega, by omega⟩ ⟨by omega, by omega⟩ (by omega) (zO_inr (hI.q hm))
theorem g11_c219 {k : zK} {a b : Nat} {M : zM} (ha : a < 4) (hb : b < 4) (hab : a ≠ b) : zO (zw2 (gb_X11_copies_219 k (a : Int) (b : Int)) zfu 0 M) (fun M' => zCq [87, 88, 89, 90] a b M M') := by
  have hm : ∀ q, q ∈ [87, 88, 89, 90] → zof q = 60 := by decide
  unfold zw2
  refine zO_for (fun s => s.1) 60 (fun j s => zCo [87, 88, 89, 90] a b j M s.2) ?_ ?_ (by omega) 0 (by omega) rfl zCo_0
  · rintro j ⟨y, A⟩ hj rfl hI
    dsimp only at *
    rw [gb_X11_copies_219]
    rw [show (60 * (a : Int) + (j : Int)).toNat = 60 * a + j by omega, show (60 * (b : Int) + (j : Int)).toNat = 60 * b + j by omega]
    refine zO_brn ⟨by omega, by omega⟩ ⟨by omega, by omega⟩ (by omega) ?_
    repeat' (first | (with_reducible refine zO_gd (by first | omega | (simp (disch := omega) only [zst_ne, zst_s, zup_eq, zup_ne, Int.toNat_natCast, not_true_eq_false, not_false_eq_true, true_or, or_true, true_and, and_true]; omega)) ?_) | (with_reducible refine zO_lt ?_))
    refine zO_inl ⟨by dsimp only; omega, ?_⟩
    dsimp only
    refine zCo_all hI (fun q hq => by rw [hm q hq]; exact hj) hab (fun q hq => ?_) (fun q x hq => ?_)
    · rw [hm q hq]
      simp only [List.mem_cons, List.not_mem_nil, or_false] at hq
      rcases hq with rfl | rfl | rfl | rfl
      all_goals simp (disch := omega) only [zst_ne, zst_s, zup_eq, zup_ne, Int.toNat_natCast, not_true_eq_false, not_false_eq_true, true_or, or_true, true_and, and_true]
    · have hz : ∀ r, r ∈ [87, 88, 89, 90] → zof r = 60 := hm
      replace hq : ¬ (q ∈ [87, 88, 89, 90] ∧ x = 60 * b + j) := fun h => hq ⟨h.1, by rw [hm q h.1]; exact h.2⟩
      by_cases h87 : q = 87
      · subst h87
        have hx : x ≠ 60 * b + j := fun e => hq ⟨by decide, e⟩
        simp (disch := omega) only [zst_ne, zst_s, zup_eq, zup_ne, Int.toNat_natCast, not_true_eq_false, not_false_eq_true, true_or, or_true, true_and, and_true]
      by_cases h88 : q = 88
      · subst h88
        have hx : x ≠ 60 * b + j := fun e => hq ⟨by decide, e⟩
        simp (disch := omega) only [zst_ne, zst_s, zup_eq, zup_ne, Int.toNat_natCast, not_true_eq_false, not_false_eq_true, true_or, or_true, true_and, and_true]
      by_cases h89 : q = 89
      · subst h89
        have hx : x ≠ 60 * b + j := fun e => hq ⟨by decide, e⟩
        simp (disch := omega) only [zst_ne, zst_s, zup_eq, zup_ne, Int.toNat_natCast, not_true_eq_false, not_false_eq_true, true_or, or_true, true_and, and_true]
      by_cases h90 : q = 90
      · subst h90
        have hx : x ≠ 60 * b + j := fun e => hq ⟨by decide, e⟩
        simp (disch := omega) only [zst_ne, zst_s, zup_eq, zup_ne, Int.toNat_natCast, not_true_eq_false, not_false_eq_true, true_or, or_true, true_and, and_true]
      simp (disch := omega) only [zst_ne, zst_s, zup_eq, zup_ne, Int.toNat_natCast, not_true_eq_false, not_false_eq_true, true_or, or_true, true_and, and_true]
  · rintro ⟨y, A⟩ rfl hI
    dsimp only at *
    rw [gb_X11_copies_219]
    exact zO_brp ⟨by omega, by omega⟩ ⟨by omega, by omega⟩ (by omega) (zO_inr (hI.q hm))
theorem g11_c321 {k : zK} {a b : Nat} {M : zM} (ha : a < 4) (hb : b < 4) (hab : a ≠ b) : zO (zw2 (gb_X11_copies_321 k (a : Int) (b : Int)) zfu 0 M) (fun M' => zCq [91] a b M M') := by
  have hm : ∀ q, q ∈ [91] → zof q = 10 := by decide
  unfold zw2
  refine zO_for (fun s => s.1) 10 (fun j s => zCo [91] a b j M s.2) ?_ ?_ (by omega) 0 (by omega) rfl zCo_0
  · rintro j ⟨y, A⟩ hj rfl hI
    dsimp only at *
    rw [gb_X11_copies_321]
    rw [show (10 * (a : Int) + (j : Int)).toNat = 10 * a + j by omega, show (10 * (b : Int) + (j : Int)).toNat = 10 * b + j by omega]
    refine zO_brn ⟨by omega, by omega⟩ ⟨by omega, by omega⟩ (by omega) ?_
    repeat' (first | (with_reducible refine zO_gd (by first | omega | (simp (disch := omega) only [zst_ne, zst_s, zup_eq, zup_ne, Int.toNat_natCast, not_true_eq_false, not_false_eq_true, true_or, or_true, true_and, and_true]; omega)) ?_) | (with_reducible refine zO_lt ?_))
    refine zO_inl ⟨by dsimp only; omega, ?_⟩
    dsimp only
    refine zCo_all hI (fun q hq => by rw [hm q hq]; exact hj) hab (fun q hq => ?_) (fun q x hq => ?_)
    · rw [hm q hq]
      simp only [List.mem_cons, List.not_mem_nil, or_false] at hq
      subst hq
      all_goals simp (disch := omega) only [zst_ne, zst_s, zup_eq, zup_ne, Int.toNat_natCast, not_true_eq_false, not_false_eq_true, true_or, or_true, true_and, and_true]
    · have hz : ∀ r, r ∈ [91] → zof r = 10 := hm
      replace hq : ¬ (q ∈ [91] ∧ x = 10 * b + j) := fun h => hq ⟨h.1, by rw [hm q h.1]; exact h.2⟩
      by_cases h91 : q = 91
      · subst h91
        have hx : x ≠ 10 * b + j := fun e => hq ⟨by decide, e⟩
        simp (disch := omega) only [zst_ne, zst_s, zup_eq, zup_ne, Int.toNat_natCast, not_true_eq_false, not_false_eq_true, true_or, or_true, true_and, and_true]
      simp (disch := omega) only [zst_ne, zst_s, zup_eq, zup_ne, Int.toNat_natCast, not_true_eq_false, not_false_eq_true, true_or, or_true, true_and, and_true]
  · rintro ⟨y, A⟩ rfl hI
    dsimp only at *
    rw [gb_X11_copies_321]
    exact zO_brp ⟨by omega, by omega⟩ ⟨by omega, by omega⟩ (by omega) (zO_inr (hI.q hm))
theorem g11_c357 {k : zK} {a b : Nat} {M : zM} (ha : a < 4) (hb : b < 4) (hab : a ≠ b) (hbit : ∀ d, d < 40 → M 96 (40 * a + d) = 0 ∨ M 96 (40 * a + d) = 1) : zO (zw2 (gb_X11_copies_357 k (a : Int) (b : Int)) zfu 0 M) (fun M' => zCq [96, 92, 93, 94] a b M M') := by
  have hm : ∀ q, q ∈ [96, 92, 93, 94] → zof q = 40 := by decide
  unfold zw2
  refine zO_for (fun s => s.1) 40 (fun j s => zCo [96, 92, 93, 94] a b j M s.2) ?_ ?_ (by omega) 0 (by omega) rfl zCo_0
  · rintro j ⟨y, A⟩ hj rfl hI
    dsimp only at *
    rw [gb_X11_copies_357]
    rw [show (40 * (a : Int) + (j : Int)).toNat = 40 * a + j by omega, show (40 * (b : Int) + (j : Int)).toNat = 40 * b + j by omega]
    have hA : A 96 (40 * a + j) = 0 ∨ A 96 (40 * a + j) = 1 := by
      have := hI 96 (40 * a + j)
      rw [if_neg (fun h' => zCo_out (q := 96) hj hab h'.2)] at this
      rw [this]
      exact hbit j hj
    refine zO_brn ⟨by omega, by omega⟩ ⟨by omega, by omega⟩ (by omega) ?_
    repeat' (first | (with_reducible refine zO_gd (by first | omega | (simp (disch := omega) only [zst_ne, zst_s, zup_eq, zup_ne, Int.toNat_natCast, not_true_eq_false, not_false_eq_true, true_or, or_true, true_and, and_true]; omega)) ?_) | (with_reducible refine zO_lt ?_))
    refine zO_inl ⟨by dsimp only; omega, ?_⟩
    dsimp only
    refine zCo_all hI (fun q hq => by rw [hm q hq]; exact hj) hab (fun q hq => ?_) (fun q x hq => ?_)
    · rw [hm q hq]
      simp only [List.mem_cons, List.not_mem_nil, or_false] at hq
      rcases hq with rfl | rfl | rfl | rfl
      all_goals simp (disch := omega) only [zst_ne, zst_s, zup_eq, zup_ne, Int.toNat_natCast, not_true_eq_false, not_false_eq_true, true_or, or_true, true_and, and_true]
    · have hz : ∀ r, r ∈ [96, 92, 93, 94] → zof r = 40 := hm
      replace hq : ¬ (q ∈ [96, 92, 93, 94] ∧ x = 40 * b + j) := fun h => hq ⟨h.1, by rw [hm q h.1]; exact h.2⟩
      by_cases h96 : q = 96
      · subst h96
        have hx : x ≠ 40 * b + j := fun e => hq ⟨by decide, e⟩
        simp (disch := omega) only [zst_ne, zst_s, zup_eq, zup_ne, Int.toNat_natCast, not_true_eq_false, not_false_eq_true, true_or, or_true, true_and, and_true]
      by_cases h92 : q = 92
      · subst h92
        have hx : x ≠ 40 * b + j := fun e => hq ⟨by decide, e⟩
        simp (disch := omega) only [zst_ne, zst_s, zup_eq, zup_ne, Int.toNat_natCast, not_true_eq_false, not_false_eq_true, true_or, or_true, true_and, and_true]
      by_cases h93 : q = 93
      · subst h93
        have hx : x ≠ 40 * b + j := fun e => hq ⟨by decide, e⟩
        simp (disch := omega) only [zst_ne, zst_s, zup_eq, zup_ne, Int.toNat_natCast, not_true_eq_false, not_false_eq_true, true_or, or_true, true_and, and_true]
      by_cases h94 : q = 94
      · subst h94
        have hx : x ≠ 40 * b + j := fun e => hq ⟨by decide, e⟩
        simp (disch := omega) only [zst_ne, zst_s, zup_eq, zup_ne, Int.toNat_natCast, not_true_eq_false, not_false_eq_true, true_or, or_true, true_and, and_true]
      simp (disch := omega) only [zst_ne, zst_s, zup_eq, zup_ne, Int.toNat_natCast, not_true_eq_false, not_false_eq_true, true_or, or_true, true_and, and_true]
  · rintro ⟨y, A⟩ rfl hI
    dsimp only at *
    rw [gb_X11_copies_357]
    exact zO_brp ⟨by omega, by omega⟩ ⟨by omega, by omega⟩ (by omega) (zO_inr (hI.q hm))

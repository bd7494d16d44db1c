theorem f7_take {i A B : Nat} {M : zM} (hA : zTr i A) (hB : zTr i B) (hd : A + 15 < B ∨ B + 15 < A) : zO (f_X7_take (zKn i) A B M) (fun M' => (∀ q, q < A ∨ A + 15 < q → M' q = M q) ∧ (∀ n x, 1 ≤ n → n ≤ 15 → x < zol n → M' (A + n) x = M (B + n) x) ∧ (∀ x, 15 ≤ x → x ≤ 19 → M' A x = M B x)) := by
  obtain ⟨a0, a1, a2, a3, a4, a5, a6, a7, a8, a9, a10, a11, a12, a13, a14⟩ := hA
  obtain ⟨b0, b1, b2, b3, b4, b5, b6, b7, b8, b9, b10, b11, b12, b13, b14⟩ := hB
  unfold f_X7_take
  simp only [a0, a1, a2, a3, a4, a5, a6, a7, a8, a9, a10, a11, a12, a13, a14, b0, b1, b2, b3, b4, b5, b6, b7, b8, b9, b10, b11, b12, b13, b14]
  clear a0 a1 a2 a3 a4 a5 a6 a7 a8 a9 a10 a11 a12 a13 a14 b0 b1 b2 b3 b4 b5 b6 b7 b8 b9 b10 b11 b12 b13 b14
  repeat' (first | (with_reducible refine zO_gd (by decide) ?_) | (with_reducible refine zO_lt ?_))
  refine zO_some ⟨?_, ?_, ?_⟩
  · intro q hq
    simp (disch := omega) only [zcp_ne, zst_ne]
  · intro n x n1 n2 hx
    have hn : n = 1 ∨ n = 2 ∨ n = 3 ∨ n = 4 ∨ n = 5 ∨ n = 6 ∨ n = 7 ∨ n = 8 ∨ n = 9 ∨ n = 10 ∨ n = 11 ∨ n = 12 ∨ n = 13 ∨ n = 14 ∨ n = 15 := by omega
    rcases hn with rfl | rfl | rfl | rfl | rfl | rfl | rfl | rfl | rfl | rfl | rfl | rfl | rfl | rfl | rfl
    all_goals
      simp [zol] at hx
      rcases hd with hd | hd <;> simp (disch := omega) only [zcp_ne, zst_ne, zcp_in]
  · intro x x1 x2
    have hn : x = 15 ∨ x = 16 ∨ x = 17 ∨ x = 18 ∨ x = 19 := by omega
    rcases hn with rfl | rfl | rfl | rfl | rfl
    all_goals
      rcases hd with hd | hd <;> simp (disch := omega) only [zcp_ne, zst_ne, zst_s, zup_eq, zup_ne]
/-- a copying loop over some rows -/
def zCo (rows : List Nat) (a b n : Nat) (M M' : zM) : Prop := ∀ q x, M' q x = if q ∈ rows ∧ zof q * b ≤ x ∧ x < zof q * b + n then M q (zof q * a + (x - zof q * b)) else M q x
theorem zCo_0 {rows : List Nat} {a b : Nat} {M : zM} : zCo rows a b 0 M M := fun q x => by rw [if_neg (by omega)]
theorem zCo_out {q n a b : Nat} (hz : n < zof q) (hab : a ≠ b) : ¬ (zof q * b ≤ zof q * a + n ∧ zof q * a + n < zof q * b + n) := by
  rintro ⟨c1, c2⟩
  rcases Nat.lt_or_gt_of_ne hab with hl | hl
  · have := Nat.mul_le_mul_left (zof q) (show a + 1 ≤ b from hl)
    rw [Nat.mul_add, Nat.mul_one] at this
    omega
  · have := Nat.mul_le_mul_left (zof q) (show b + 1 ≤ a from hl)
    rw [Nat.mul_add, Nat.mul_one] at this
    omega
/-- one row's step, not yet told -/
theorem zCo_all {rows : List Nat} {a b n : Nat} {M A B : zM} (h : zCo rows a b n M A) (hr : ∀ q, q ∈ rows → n < zof q) (hab : a ≠ b) (h1 : ∀ q, q ∈ rows → B q (zof q * b + n) = A q (zof q * a + n)) (h2 : ∀ q x, ¬ (q ∈ rows ∧ x = zof q * b + n) → B q x = A q x) : zCo rows a b (n + 1) M B := by
  intro q x
  by_cases hq : q ∈ rows
  · have hz := hr q hq
    by_cases hx : x = zof q * b + n
    · subst hx
      have hc := zCo_out (q := q) hz hab
      rw [h1 q hq, h q, if_neg (fun h' => hc h'.2), if_pos ⟨hq, by omega, by omega⟩, Nat.add_sub_cancel_left]
    · rw [h2 q x (fun h' => hx h'.2), h q x]
      by_cases hc : zof q * b ≤ x ∧ x < zof q * b + n
      · rw [if_pos ⟨hq, hc⟩, if_pos ⟨hq, hc.1, by omega⟩]
      · rw [if_neg (fun h' => hc h'.2), if_neg (fun h' => by omega)]
  · rw [h2 q x (fun h' => hq h'.1), h q x, if_neg (fun h' => hq h'.1), if_neg (fun h' => hq h'.1)]
def zCq (rows : List Nat) (a b : Nat) (M M' : zM) : Prop := ∀ q x, M' q x = if q ∈ rows ∧ zof q * b ≤ x ∧ x < zof q * b + zof q then M q (zof q * a + (x - zof q * b)) else M q x
theorem zCo.q {rows : List Nat} {a b n : Nat} {M M' : zM} (h : zCo rows a b n M M') (hn : ∀ q, q ∈ rows → zof q = n) : zCq rows a b M M' := by
  intro q x
  rw [h q x]
  by_cases hq : q ∈ rows
  · rw [hn q hq]
  · rw [if_neg (fun h' => hq h'.1), if_neg (fun h' => hq h'.1)]
theorem zCq.tr {r1 r2 : List Nat} {a b : Nat} {M A B : zM} (h1 : zCq r1 a b M A) (h2 : zCq r2 a b A B) (hd : ∀ q, q ∈ r1 → ¬ q ∈ r2) : zCq (r1 ++ r2) a b M B := by
  have e : ∀ q x, ¬ q ∈ r1 → A q x = M q x := fun q x hq => by rw [h1 q x, if_neg (fun h' => hq h'.1)]
  intro q x
  rw [h2 q x]
  by_cases q2 : q ∈ r2
  · have q1 : ¬ q ∈ r1 := fun h => hd q h q2
    rw [e q _ q1, e q x q1]
    by_cases hc : zof q * b ≤ x ∧ x < zof q * b + zof q
    · rw [if_pos ⟨q2, hc⟩, if_pos ⟨List.mem_append.2 (Or.inr q2), hc⟩]
    · rw [if_neg (fun h => hc h.2), if_neg (fun h => hc h.2)]
  · rw [if_neg (fun h => q2 h.1), h1 q x]
    by_cases hc : q ∈ r1 ∧ zof q * b ≤ x ∧ x < zof q * b + zof q
    · rw [if_pos hc, if_pos ⟨List.mem_append.2 (Or.inl hc.1), hc.2⟩]
    · rw [if_neg hc, if_neg (fun h => by
        rcases List.mem_append.1 h.1 with h' | h'
        · exact hc ⟨h', h.2⟩
        · exact q2 h')]

/-- a new image: N is the world with the new object -/
theorem p_image_c {i L : Nat} {M N : zM} {E : zE} (hI : zInv i L M E) (hi : i < 3) (hN : ∀ q, q < 129 + 16 * i → N q = M q) : zO (f_X7_take (zKn (i + 1)) (129 + 16 * i) 4 N) (fun A => zO (g_X11_image (zKn (i + 1)) (zst (zst A 20 i (129 + 16 * (i : Int))) 1 13 ((i : Int) + 1))) (fun r => r.2 = (i : Int) ∧ zInv (i + 1) L r.1 E)) := by
  obtain ⟨⟨s1, s2, hT, ⟨hi3, hi0⟩, e13, e20, him, h51, htp, h3, hfa⟩, hca, hwy⟩ := hI
  refine zO_mono (f7_take (i := i + 1) (zTr_i (by omega) (by omega)) zTr_4 (by omega)) ?_
  rintro A ⟨A1, A2, A3⟩
  generalize hB : zst (zst A 20 i (129 + 16 * (i : Int))) 1 13 ((i : Int) + 1) = B
  have B1 : ∀ q, q ≠ 1 → q ≠ 20 → q < 129 + 16 * i → B q = M q := fun q a b c => by rw [← hB, zst_ne a, zst_ne b, A1 q (by omega), hN q c]
  have B2 : ∀ x, x ≠ 13 → B 1 x = M 1 x := fun x hx => by rw [← hB, zst_ns hx, zst_ne (by decide), A1 1 (by omega), hN 1 (by omega)]
  have B3 : ∀ x, x ≠ i → B 20 x = M 20 x := fun x hx => by rw [← hB, zst_ne (by decide), zst_ns hx, A1 20 (by omega), hN 20 (by omega)]
  have B4 : B 1 13 = (i : Int) + 1 := by rw [← hB, zst_eq]
  have B5 : B 20 i = 129 + 16 * (i : Int) := by rw [← hB, zst_ne (by decide), zst_eq]
  have B6 : ∀ n x, 1 ≤ n → n ≤ 15 → x < zol n → B (129 + 16 * i + n) x = M (4 + n) x := fun n x n1 n2 hx => by rw [← hB, zst_ne (by omega), zst_ne (by omega), A2 n x n1 n2 hx, hN (4 + n) (by omega)]
  have B7 : ∀ x, 15 ≤ x → x ≤ 19 → B (129 + 16 * i) x = M 4 x := fun x x1 x2 => by rw [← hB, zst_ne (by omega), zst_ne (by omega), A3 x x1 x2, hN 4 (by omega)]
  clear hB A1 A2 A3
  have e76 : B 76 20 = (i : Int) := by rw [B1 76 (by omega) (by omega) (by omega)]; exact e20
  unfold g_X11_image
  refine zO_brp ⟨by omega, by omega⟩ ⟨by omega, by omega⟩ (by omega) (zO_lt ?_)
  rw [zst_eq, e76]
  have hcp := g11_copies (k := zKn (i + 1)) (a := 0) (b := i + 1) (M := zst B 76 20 ((i : Int) + 1)) (by omega) (by omega) (by omega) (fun d hd => by rw [zst_ne (by decide), B1 95 (by omega) (by omega) (by omega)]; exact (hT.2.2.2.2.2.2.1 d hd).2.2) (fun d hd => by rw [zst_ne (by decide), B1 96 (by omega) (by omega) (by omega)]; have := (hT.2.2.2.2.2.2.2.2.2.2.2.2.2 d hd).1; rw [← this.1]; exact this.2)
  rw [show ((i + 1 : Nat) : Int) = (i : Int) + 1 by omega, show ((0 : Nat) : Int) = 0 from rfl] at hcp
  refine zO_b1q hcp ?_
  intro C hC
  have C1 : ∀ q, q ≠ 76 → q < 78 ∨ 96 < q → C q = B q := fun q h76 hq => by
    funext x
    rw [hC q x, if_neg (fun h => zCq_not hq h.1), zst_ne h76]
  have C2 : ∀ q x, 78 ≤ q → q ≤ 96 → (x < zof q * (i + 1) ∨ zof q * (i + 1) + zof q ≤ x) → C q x = B q x := fun q x a b c => by
    rw [hC q x, if_neg (fun h => by omega), zst_ne (by omega)]
  have C3 : ∀ q x, 78 ≤ q → q ≤ 96 → x < zof q → C q (zof q * (i + 1) + x) = B q x := fun q x a b c => by
    rw [hC q _, if_pos ⟨zCq_mem a b, by omega, by omega⟩, zst_ne (by omega), Nat.mul_zero, Nat.zero_add, Nat.add_sub_cancel_left]
  have C4 : C 76 20 = (i : Int) + 1 := by
    rw [hC 76 20, if_neg (fun h => zCq_not (by omega) h.1), zst_eq]
  have C5 : ∀ x, x ≠ 20 → C 76 x = M 76 x := fun x hx => by
    rw [hC 76 x, if_neg (fun h => zCq_not (by omega) h.1), zst_ns hx, B1 76 (by omega) (by omega) (by omega)]
  have D1 : ∀ q, q ≠ 1 → q ≠ 20 → q ≠ 76 → q < 78 ∨ 96 < q → q < 129 + 16 * i → C q = M q := fun q a b c d e => by rw [C1 q c d, B1 q a b e]
  have D2 : ∀ b q x, b < i + 1 → 78 ≤ q → q ≤ 96 → x < zof q → C q (zof q * b + x) = M q (zof q * b + x) := fun b q x hb a c hx => by
    have := Nat.mul_le_mul_left (zof q) (show b + 1 ≤ i + 1 from hb)
    rw [Nat.mul_add (zof q) b 1, Nat.mul_one] at this
    rw [C2 q _ a c (by omega), B1 q (by omega) (by omega) (by omega)]
  refine zO_some ⟨by dsimp only; omega, ?_⟩
  dsimp only
  refine ⟨⟨s1, ?_, ?_, ⟨by omega, fun j x y => by rw [C1 20 (by omega) (by omega), B3 j (by omega)]; exact hi0 j (by omega) y⟩, ?_, ?_, ?_, ?_, ?_, ?_, ?_⟩, ?_, ?_⟩
  · exact s2.im.fr (fun q x y => D1 q (by omega) (by omega) (by omega) (by omega) (by omega)) (fun q x y => D1 q (by omega) (by omega) (by omega) (by omega) (by omega)) (by rw [C1 1 (by omega) (by omega), B2 10 (by omega)]) (by rw [C1 1 (by omega) (by omega), B2 11 (by omega)])
  · refine hT.cp (fun n x n1 n2 hx => by rw [D1 (4 + n) (by omega) (by omega) (by omega) (by omega) (by omega)]) (fun x x1 x2 => by rw [D1 4 (by omega) (by omega) (by omega) (by omega) (by omega)]) (fun q x a b c => D2 0 q x (by omega) a b c)
  · rw [C1 1 (by omega) (by omega), B4]; omega
  · rw [C4]; omega
  · intro j hj
    by_cases hq : j = i
    · subst hq
      rw [C1 20 (by omega) (by omega), B5]
      refine ⟨rfl, hT.cp (fun n x n1 n2 hx => by rw [C1 _ (by omega) (by omega), B6 n x n1 n2 hx]) (fun x x1 x2 => by rw [C1 _ (by omega) (by omega), B7 x x1 x2]) (fun q x a b c => by rw [C3 q x a b c, Nat.mul_zero, Nat.zero_add, B1 q (by omega) (by omega) (by omega)])⟩
    · obtain ⟨d1, d2⟩ := him j (by omega)
      rw [C1 20 (by omega) (by omega), B3 j hq]
      refine ⟨d1, d2.cp (fun n x n1 n2 hx => by rw [D1 (129 + 16 * j + n) (by omega) (by omega) (by omega) (by omega) (by omega)]) (fun x x1 x2 => by rw [D1 (129 + 16 * j) (by omega) (by omega) (by omega) (by omega) (by omega)]) (fun q x a b c => D2 (j + 1) q x (by omega) a b c)⟩
  · intro r hr
    rw [D1 51 (by omega) (by omega) (by omega) (by omega) (by omega), D1 77 (by omega) (by omega) (by omega) (by omega) (by omega)]
    exact h51 r hr
  · rw [D1 2 (by omega) (by omega) (by omega) (by omega) (by omega), C5 34 (by omega)]
    exact htp
  · intro j hj
    rw [D1 3 (by omega) (by omega) (by omega) (by omega) (by omega), D1 108 (by omega) (by omega) (by omega) (by omega) (by omega)]
    exact h3 j hj
  · rw [C1 1 (by omega) (by omega), B2 12 (by omega), C5 35 (by omega)]
    exact hfa
  · exact hca.fr (by rw [C1 1 (by omega) (by omega), B2 14 (by omega)]) (fun q hq => D1 q (by omega) (by omega) (by omega) (by omega) (by omega))
  · exact hwy.fr (D1 46 (by omega) (by omega) (by omega) (by omega) (by omega)) (D1 47 (by omega) (by omega) (by omega) (by omega) (by omega)) (by rw [D1 4 (by omega) (by omega) (by omega) (by omega) (by omega)]) (fun q hq => D1 q (by omega) (by omega) (by omega) (by omega) (by omega))
theorem p_image_n {L : Nat} {M : zM} {E : zE} (hI : zInv 3 L M E) : zP2 3 L E (g_X10_refuse (zKn 3) 1) (g_X11_image (zKn 3)) M := by
  have e20 : M 76 20 = 3 := hI.1.2.2.2.2.2.1
  refine zO_eq (g10_refuse (by omega)) ?_
  dsimp only
  unfold g_X11_image
  refine zO_brn ⟨by rw [zst_ne (by decide), e20]; omega, by rw [zst_ne (by decide), e20]; omega⟩ ⟨by omega, by omega⟩ (by rw [zst_ne (by decide), e20]; omega) (zO_bde (g11_refuses (by omega)) (zO_some ⟨rfl, ?_⟩))
  exact hI.ref (p := 1) (by omega)

/-! the start -/
def zNew (M : zM) : Prop := (∀ q s, q ≠ 1 → q ≠ 18 → q ≠ 19 → q ≠ 21 → q ≠ 46 → q ≠ 50 → q ≠ 76 → q ≠ 83 → q ≠ 85 → M q s = 0) ∧ (M 1 10 = 52 ∧ M 1 11 = 64 ∧ M 1 12 = -1 ∧ M 1 13 = 0 ∧ M 1 14 = 1) ∧ (∀ s, s < 256 → M 18 s = 99 ∧ M 19 s = -1 ∧ M 83 s = 99 ∧ M 85 s = -1) ∧ M 46 6 = -1 ∧ M 76 20 = 0 ∧ M 76 34 = 0 ∧ M 76 35 = -1
theorem gL_0 : ∀ a, gL [] a = (0, 0) := by
  intro a
  induction a with
  | zero => rfl
  | succ a ih => unfold gL; rw [ih]; rfl
theorem gP_0 : ∀ a, gP (fun _ => 0) a = 0 := by
  intro a
  induction a with
  | zero => rfl
  | succ a ih => unfold gP; rw [if_pos rfl, ih]
theorem zInv_new {M : zM} (h : zNew M) : zInv 0 52 M (zLE [] (fun _ => 0)) := by
  obtain ⟨z, ⟨a10, a11, a12, a13, a14⟩, w, b6, b20, b34, b35⟩ := h
  refine ⟨⟨?_, ?_, ?_, ?_⟩, ⟨fun j _ _ => z 35 j (by decide) (by decide) (by decide) (by decide) (by decide) (by decide) (by decide) (by decide) (by decide), Or.inl a14⟩, Or.inl b6⟩
  · exact zLE_ok (fun r hr => absurd hr (List.not_mem_nil)) (fun a _ v hv => by cases hv) (fun r hr => absurd hr (List.not_mem_nil))
  · have zz : ∀ q s, 52 ≤ q → q ≤ 75 ∨ q = 97 → M q s = 0 := fun q s h1 h2 => z q s (by omega) (by omega) (by omega) (by omega) (by omega) (by omega) (by omega) (by omega) (by omega)
    exact zLaw_new (c1 := 0) (Or.inl rfl) (by decide) (fun r hr => absurd hr (List.not_mem_nil)) (by omega) a10 a11 (zz 52 0 (by omega) (by omega)) (zz 52 1 (by omega) (by omega)) trivial (zz 52 13 (by omega) (by omega)) (fun h _ => zz 63 h (by omega) (by omega)) (fun a _ => by rw [gL_0, gP_0]; exact ⟨zz 58 a (by omega) (by omega), zz 59 a (by omega) (by omega), zz 62 a (by omega) (by omega)⟩) (zz 97 0 (by omega) (by omega)) trivial
  · have zz : ∀ q s, q ≤ 17 ∨ (78 ≤ q ∧ q ≤ 96 ∧ q ≠ 83 ∧ q ≠ 85) → q ≠ 1 → M q s = 0 := fun q s h1 h2 => z q s (by omega) (by omega) (by omega) (by omega) (by omega) (by omega) (by omega) (by omega) (by omega)
    refine ⟨fun c hc => ?_, fun c hc => ?_, fun c hc => ?_, fun c hc => ?_, ?_, ?_, fun d _ => ?_, fun k hk => ?_, ?_, fun f _ => ?_, ?_, fun p _ => ?_, ?_, fun l _ => ?_⟩
    · rw [zz 5 c (by omega) (by omega), zz 82 _ (by omega) (by omega)]; omega
    · rw [show 256 * 0 + c = c by omega, (w c hc).2.2.1, show M (4 + 14) c = 99 from (w c hc).1]; omega
    · rw [zz 6 c (by omega) (by omega), zz 84 _ (by omega) (by omega)]; omega
    · rw [show 256 * 0 + c = c by omega, (w c hc).2.2.2, show M (4 + 15) c = -1 from (w c hc).2.1]; omega
    · rw [zz 4 15 (by omega) (by omega), zsum_zero (fun c hc => by rw [show M (4 + 15) c = -1 from (w c hc).2.1]; rfl)]; omega
    · rw [zz 4 16 (by omega) (by omega), zz 78 0 (by omega) (by omega)]; omega
    · rw [zz 86 _ (by omega) (by omega), zz 95 _ (by omega) (by omega)]; omega
    · rw [zz 7 k (by omega) (by omega), zz 8 k (by omega) (by omega), zz 78 0 (by omega) (by omega)]; exact ⟨rfl, rfl⟩
    · rw [zz 4 17 (by omega) (by omega), zz 79 0 (by omega) (by omega)]; omega
    · rw [zz 9 f (by omega) (by omega), zz 10 f (by omega) (by omega), zz 11 f (by omega) (by omega), zz 12 f (by omega) (by omega), zz 87 _ (by omega) (by omega), zz 88 _ (by omega) (by omega), zz 89 _ (by omega) (by omega), zz 90 _ (by omega) (by omega)]; omega
    · rw [zz 4 18 (by omega) (by omega), zz 80 0 (by omega) (by omega)]; omega
    · rw [zz 13 p (by omega) (by omega), zz 91 _ (by omega) (by omega)]; omega
    · rw [zz 4 19 (by omega) (by omega), zz 81 0 (by omega) (by omega)]; omega
    · rw [zz 14 l (by omega) (by omega), zz 15 l (by omega) (by omega), zz 16 l (by omega) (by omega), zz 17 l (by omega) (by omega), zz 96 _ (by omega) (by omega), zz 92 _ (by omega) (by omega), zz 93 _ (by omega) (by omega), zz 94 _ (by omega) (by omega)]; omega
  · have zz : ∀ q s, q = 51 ∨ q = 77 ∨ q = 2 ∨ q = 3 ∨ q = 108 → M q s = 0 := fun q s h1 => z q s (by omega) (by omega) (by omega) (by omega) (by omega) (by omega) (by omega) (by omega) (by omega)
    refine ⟨⟨by omega, fun j _ _ => z 20 j (by decide) (by decide) (by decide) (by decide) (by decide) (by decide) (by decide) (by decide) (by decide)⟩, a13, b20, fun j hj => absurd hj (Nat.not_lt_zero j), fun r _ => by rw [zz 51 r (by omega), zz 77 r (by omega)], ?_, fun j _ => ?_, by rw [a12, b35]⟩
    · rw [zz 2 1 (by omega), b34]; omega
    · rw [zz 3 j (by omega), zz 108 j (by omega)]; omega

theorem g10_layOut {i L n : Nat} {M : zM} {E : zE} {a : Nat} (hs : zSt i L M E) (hv : zVw M E (eV E a)) (hn : M 4 18 = (n : Int)) (hn' : n ≤ 10) : zO (g_X10_layOut (zKn i) M) (fun M' => zFr [49, 50] M M' ∧ ∀ p : Nat, p < n → ∀ j : Nat, j < 7 → M' 49 (7 * p + j) = zNo (sLft E M a (M 13 p).toNat) (eT E) (j : Int)) := by
  unfold g_X10_layOut
  refine zO_b1 ?_
  unfold zw2
  refine zO_for (fun s => s.1) n (fun j s => zFr [49, 50] M s.2 ∧ ∀ p : Nat, p < j → ∀ x : Nat, x < 7 → s.2 49 (7 * p + x) = zNo (sLft E M a (M 13 p).toNat) (eT E) (x : Int)) ?_ ?_ (by omega) 0 (by omega) rfl ⟨zFr_refl, fun p hp => absurd hp (by omega)⟩
  · rintro j ⟨y, A⟩ hj hcnt ⟨h1, h2⟩
    dsimp only at *
    subst hcnt
    have qA : zQc M A := zQc.of h1 (by decide)
    have hsA := hs.qc qA
    have vA : zVw A E (eV E a) := hv.fr (by rw [h1 1 (by decide)]) (fun q hq => h1 q (by simp; omega))
    obtain ⟨_, c2, c3⟩ := hs.plc.2 j (by omega)
    have hl := g10_left (c := (M 13 j).toNat) hsA vA (by omega)
    rw [(sL_qc qA).1, (sL_qc qA).2, show (((M 13 j).toNat : Nat) : Int) = M 13 j by omega] at hl
    obtain ⟨k1, k2, k3⟩ := sLft_low (a := a) hs (c := (M 13 j).toNat) (by omega)
    have hU := sLp_r hs (a := a) (p := j) (by omega)
    unfold sUp sLp at hU
    rw [gb_X10_layOut_2]
    simp only [Int.toNat_natCast, h1 4 (by decide), h1 13 (by decide), hn]
    refine zO_brn ⟨by omega, by omega⟩ ⟨by omega, by omega⟩ (by omega) (zO_gd (by omega) (zO_b1e hl ?_))
    have hcut : ∀ D : zM, D 50 0 = sL1 E M a (M 13 j).toNat / sG (sL1 E M a (M 13 j).toNat) (sL2 E M a (M 13 j).toNat) → D 50 1 = sL2 E M a (M 13 j).toNat / sG (sL1 E M a (M 13 j).toNat) (sL2 E M a (M 13 j).toNat) → g_X5_cutTo (zKn i) 1000000 D = some (sLft E M a (M 13 j).toNat) := by
      intro D d0 d1
      apply zO_get
      unfold g_X5_cutTo
      rw [d0, d1]
      exact zO_blp ⟨by omega, by omega⟩ ⟨by omega, by omega⟩ (by omega) (zO_gd ⟨⟨by omega, by omega⟩, by omega, by omega⟩ (zO_some k1))
    refine zO_b1e (hcut _ (by rw [zst_ns (by decide), zst_eq]) (by rw [zst_eq])) ?_
    obtain ⟨aL, a10, _, _, _, a13, _⟩ := hs.2.1
    have tL : ztag (zKn i) L = 4 := by
      rcases aL with rfl | rfl
      · exact zT_ (by decide) rfl
      · exact zT_ (by decide) rfl
    generalize hD : zst (zst A 50 0 (sL1 E M a (M 13 j).toNat / sG (sL1 E M a (M 13 j).toNat) (sL2 E M a (M 13 j).toNat))) 50 1 (sL2 E M a (M 13 j).toNat / sG (sL1 E M a (M 13 j).toNat) (sL2 E M a (M 13 j).toNat)) = D
    have fD : ∀ q, q ≠ 49 → q ≠ 50 → D q = M q := fun q x y => by rw [← hD, zst_ne y, zst_ne y, h1 q (by simp; omega)]
    have f49 : D 49 = A 49 := by rw [← hD, zst_ne (by decide), zst_ne (by decide)]
    have dL : (D 1 10).toNat = L := by rw [fD 1 (by decide) (by decide), a10, Int.toNat_natCast]
    simp only [dL]
    have d13 : D L 13 = eT E := by rw [fD L (by omega) (by omega)]; exact a13
    refine zO_gd ⟨tL, by omega⟩ (zO_lt ?_)
    rw [d13]
    refine zO_b1q (g9_weigh (by omega) ⟨k2, k3⟩ hs.1.2.2.1) ?_
    rintro B ⟨b1, b2, b3⟩
    refine zO_lt (zO_inl ⟨by dsimp only; omega, ?_, ?_⟩)
    · intro q hq
      have q1 : q ≠ 49 := fun e => hq (by rw [e]; decide)
      have q2 : q ≠ 50 := fun e => hq (by rw [e]; decide)
      dsimp only
      rw [b1 q (by simp; omega), fD q q1 q2]
    · intro p hp x hx
      dsimp only
      by_cases e : p = j
      · subst e
        exact b3 x hx
      · rw [b2 (7 * p + x) (by omega), f49]
        exact h2 p (by omega) x hx
  · rintro ⟨y, A⟩ hcnt ⟨h1, h2⟩
    dsimp only at *
    subst hcnt
    rw [gb_X10_layOut_2]
    simp only [h1 4 (by decide), hn]
    exact zO_brp ⟨by omega, by omega⟩ ⟨by omega, by omega⟩ (by omega) (zO_inr (show zO _ _ from zO_some ⟨h1, h2⟩))

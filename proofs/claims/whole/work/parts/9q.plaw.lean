/-! law -/
theorem zLaw.lo {i L : Nat} {M M' : zM} {E : zE} (h : zLaw i L M E) (h1 : ∀ q, L ≤ q → q ≤ L + 11 → M' q = M q) (h2 : ∀ q, 97 ≤ q → q ≤ 107 → ∀ j, j < zlo q → M' q j = M q j) (h3 : M' 1 10 = M 1 10) (h4 : M' 1 11 = M 1 11) : zLaw i L M' E := by
  obtain ⟨a1, a2, a3, a4, a5, a6, a7, a8, a9, b1, b2, b3⟩ := h
  have e97 : M' 97 0 = M 97 0 := h2 97 (by omega) (by omega) 0 (by unfold zlo; rw [if_pos rfl]; omega)
  refine ⟨a1, by rw [h3]; exact a2, by rw [h4]; exact a3, a4.fr (h1 L (by omega) (by omega)) (fun q x y => h1 q (by omega) (by omega)), ?_, ?_, ?_, ?_, ?_, fun kind other M'' hk e hr => b1 kind other M'' hk (fun q a b j hj => (e q a b j hj).trans (h2 q a b j hj)) hr, fun a M'' ha e => b2 a M'' ha (fun q x y j hj => (e q x y j hj).trans (h2 q x y j hj)), fun M'' e => b3 M'' (fun q x y j hj => (e q x y j hj).trans (h2 q x y j hj))⟩
  · intro a ha
    rw [h1 (L + 6) (by omega) (by omega), h1 (L + 7) (by omega) (by omega), h1 (L + 10) (by omega) (by omega)]
    exact a5 a ha
  · rw [h1 L (by omega) (by omega)]; exact a6
  · intro h hh
    rw [h1 (L + 11) (by omega) (by omega)]
    exact a7 h hh
  · rw [h1 L (by omega) (by omega), e97]; exact a8
  · rw [e97]; exact a9
/-- the LAW of these rules stands, on both sides -/
theorem zLaw_new {i D c1 : Nat} {M : zM} {R : List zRu} {e : Nat → Int} (hD : zDr D) (hR : R.length ≤ 40) (hg : ∀ r, r ∈ R → zRg r) (hc : c1 ≤ 700) (h10 : M 1 10 = (D : Int)) (h11 : M 1 11 = 116 - (D : Int)) (d0 : M D 0 = (R.length : Int)) (d1 : M D 1 = (aN R : Int)) (dA : zAsk D c1 M R) (d13 : M D 13 = rCat R) (dc : ∀ h : Nat, h < 3 → M (D + 11) h = rCar (h : Int) R) (dl : ∀ a : Nat, a < 100 → M (D + 6) a = (gL R (a + 1)).1 ∧ M (D + 7) a = (gL R (a + 1)).2 ∧ M (D + 10) a = gP e (a + 1)) (m97 : M 97 0 = (R.length : Int)) (mr : zRw M 0 700 R) : zLaw i D M (zLE R e) := by
  have hd : ∀ r, r ∈ R → dp r.2.2.2.2 0 := fun r hr => (hg r hr).2.2.2.2.2.2.2.2.2.2.2.2
  have low : ∀ M' : zM, (∀ q, 97 ≤ q → q ≤ 107 → ∀ j, j < zlo q → M' q j = M q j) → M' 97 0 = (R.length : Int) ∧ zRw M' 0 700 R := fun M' h => ⟨by rw [h 97 (by omega) (by omega) 0 (by unfold zlo; rw [if_pos rfl]; omega)]; exact m97, zRw_c (by omega) R hR mr h⟩
  refine ⟨hD, h10, h11, ?_, dl, d13, dc, by rw [d0, m97], by rw [m97]; omega, ?_, ?_, ?_⟩
  · intro w kind other M' hw hk e0 e1 hr
    exact f3_firstR hD hR hc d1 dA hd (by omega) e0 e1 hr
  · intro kind other M' hk h hr
    obtain ⟨l1, l2⟩ := low M' h
    exact g11_firstR hR l1 l2 hg (by omega) hr
  · intro a M' ha h
    obtain ⟨l1, l2⟩ := low M' h
    exact g11_seaR hR l1 l2 hg ha
  · intro M' h
    obtain ⟨l1, l2⟩ := low M' h
    refine ⟨?_, fun h hh => ?_⟩
    · rw [g11_lastR hR l1 l2 hg (Or.inl ⟨rfl, rfl⟩), lst_6]
      rfl
    · rw [g11_lastR hR l1 l2 hg (Or.inr ⟨rfl, by omega, by omega⟩), lst_5 (by omega)]
      rfl
theorem p_law {i L : Nat} {M : zM} {E : zE} {p1 : Int} (hI : zInv i L M E) (h1 : zr p1) : zO (g_X10_law (zKn i) p1 M) (fun r => zO (g_X11_law (zKn i) p1 r.1) (fun r' => r.2 = r'.2 ∧ ∃ L' E', zInv i L' r'.1 E')) := by
  obtain ⟨s1, s2, hT, ⟨hi3, hi0⟩, e13, e20, him, h51, htp, h3, hfa⟩ := hI.1
  have aL := s2.1
  have a10 := s2.2.1
  have a11 := s2.2.2.1
  by_cases hc : 0 ≤ p1 ∧ p1 ≤ M 2 1
  · obtain ⟨n, rfl⟩ : ∃ n : Nat, p1 = (n : Int) := ⟨p1.toNat, by omega⟩
    have hn : n ≤ 700 := by omega
    have hb8 : zB8 M := h3
    obtain ⟨D, hDe⟩ : ∃ D, 116 - L = D := ⟨_, rfl⟩
    have hD : zDr D := by rcases aL with rfl | rfl <;> (unfold zDr; omega)
    have eD : (M 1 11).toNat = D := by rw [a11]; rcases aL with rfl | rfl <;> omega
    have tD : ztag (zKn i) D = 4 := by
      rcases hD with rfl | rfl
      · exact zt_52
      · exact zt_64
    have tL : ztag (zKn i) L = 4 := by
      rcases aL with rfl | rfl
      · exact zt_52
      · exact zt_64
    have dl : D ≠ L ∧ (D + 11 < L ∨ L + 11 < D) ∧ 52 ≤ D ∧ D + 11 ≤ 75 ∧ 52 ≤ L ∧ L + 11 ≤ 75 := by rcases aL with rfl | rfl <;> omega
    unfold g_X10_law
    refine zO_sp1 (zO_brn h1 ⟨by omega, by omega⟩ (by omega) (zO_brp h1 ⟨by omega, by omega⟩ hc.2 ?_))
    rw [eD]
    refine zO_gd ⟨tD, by omega⟩ (zO_lt (zO_bdq (g6_readL hn hb8.by hD) ?_))
    rintro A v ⟨b1, b2, b3⟩
    dsimp only at b1 b2 b3
    refine zO_lte (fun B eB => zO_lte (fun C eC => ?_))
    have c1 : ∀ q, q ≠ 1 → q ≠ 2 → (q < D ∨ D + 11 < q) → C q = M q := fun q x y z => by rw [eC, zst_ne y, eB, zst_ne x, b1 q y z]
    have cD : ∀ q, D ≤ q → q ≤ D + 11 → C q = A q := fun q x y => by rw [eC, zst_ne (by omega), eB, zst_ne (by omega)]
    have c11 : ∀ s, s ≠ 12 → C 1 s = M 1 s := fun s hs => by rw [eC, zst_ne (by decide), eB, zst_ns hs, b1 1 (by decide) (by omega)]
    have c12 : C 1 12 = v := by rw [eC, zst_ne (by decide), eB, zst_eq]
    have c21 : C 2 1 = 0 := by rw [eC, zst_eq]
    clear eB eC
    rw [c12]
    cases ho : pLaw (M 3) n 40 0 [] with
    | inr e =>
      rw [ho] at b3
      obtain ⟨rfl, hen⟩ := b3
      have hA := yA_r (b := M 3) hen
      refine zO_brn ⟨by omega, by omega⟩ ⟨by omega, by omega⟩ (by omega) (zO_bde (g10_refuse (by omega)) (zO_inr (show zO _ _ from zO_some ?_)))
      dsimp only
      rw [show Int.toNat 2 = 2 from rfl]
      have d1 : ∀ q, q ≠ 51 → zst C 51 2 (C 51 2 + 1) q = C q := fun q h => zst_ne h
      have d51 : ∀ r, zst C 51 2 (C 51 2 + 1) 51 r = if r = 2 then M 51 2 + 1 else M 51 r := fun r => by
        rw [zst_r, c1 51 (by decide) (by decide) (by omega)]
        by_cases e : r = 2
        · rw [if_pos ⟨rfl, e⟩, if_pos e]
        · rw [if_neg (fun h => e h.2), if_neg e]
      generalize zst C 51 2 (C 51 2 + 1) = Q at *
      have q1 : ∀ q, q ≠ 1 → q ≠ 2 → q ≠ 51 → (q < D ∨ D + 11 < q) → Q q = M q := fun q x y z w => by rw [d1 q z, c1 q x y w]
      have q3 : Q 3 = M 3 := q1 3 (by decide) (by decide) (by decide) (by omega)
      have q8 : zB8 Q := fun j hj => by rw [q3, q1 108 (by decide) (by decide) (by decide) (by omega)]; exact hb8 j hj
      have q76 : Q 76 = M 76 := q1 76 (by decide) (by decide) (by decide) (by omega)
      refine zO_mono (g11_lawR hn q8 (by rw [q76]; omega) (by rw [q76]; omega)) ?_
      rintro ⟨N, w⟩ ⟨n1, n2, n3, n4⟩
      rw [q3, ho] at n4
      obtain ⟨rfl, n5, n6, n7⟩ := n4
      dsimp only at n1 n2 n3 n5 n6 n7 ⊢
      have N1 : ∀ q, q ≠ 1 → q ≠ 2 → q ≠ 51 → (q < D ∨ D + 11 < q) → q ≠ 76 → q ≠ 77 → (q < 97 ∨ 107 < q) → q ≠ 109 → q ≠ 110 → N q = M q := fun q x y z w a b c d f => by rw [n1 q (by simp; omega), q1 q x y z w]
      have N1' : ∀ s, s ≠ 12 → N 1 s = M 1 s := fun s hs => by rw [n1 1 (by decide), d1 1 (by decide), c11 s hs]
      refine ⟨rfl, L, E, ⟨s1, s2.lo (fun q x y => N1 q (by omega) (by omega) (by omega) (by omega) (by omega) (by omega) (by omega) (by omega) (by omega)) (fun q a b j hj => by rw [n6 q a b j hj, q1 q (by omega) (by omega) (by omega) (by omega)]) (N1' 10 (by decide)) (N1' 11 (by decide)), hT.fr (fun q x y => N1 q (by omega) (by omega) (by omega) (by omega) (by omega) (by omega) (by omega) (by omega) (by omega)) (fun q x y => N1 q (by omega) (by omega) (by omega) (by omega) (by omega) (by omega) (by omega) (by omega) (by omega)), ⟨hi3, fun j x y => by rw [N1 20 (by omega) (by omega) (by omega) (by omega) (by omega) (by omega) (by omega) (by omega) (by omega)]; exact hi0 j x y⟩, by rw [N1' 13 (by decide)]; exact e13, by rw [n2 20 (by omega), q76]; exact e20, ?_, ?_, ?_, ?_, ?_⟩, hI.2.1.fr (N1' 14 (by decide)) (fun q hq => N1 q (by omega) (by omega) (by omega) (by omega) (by omega) (by omega) (by omega) (by omega) (by omega)), hI.2.2.fr (N1 46 (by omega) (by omega) (by omega) (by omega) (by omega) (by omega) (by omega) (by omega) (by omega)) (N1 47 (by omega) (by omega) (by omega) (by omega) (by omega) (by omega) (by omega) (by omega) (by omega)) (by rw [N1 4 (by omega) (by omega) (by omega) (by omega) (by omega) (by omega) (by omega) (by omega) (by omega)]) (fun q hq => N1 q (by omega) (by omega) (by omega) (by omega) (by omega) (by omega) (by omega) (by omega) (by omega))⟩
      · intro j hj
        rw [N1 20 (by omega) (by omega) (by omega) (by omega) (by omega) (by omega) (by omega) (by omega) (by omega)]
        exact ⟨(him j hj).1, (him j hj).2.fr (fun q x y => N1 q (by omega) (by omega) (by omega) (by omega) (by omega) (by omega) (by omega) (by omega) (by omega)) (fun q x y => N1 q (by omega) (by omega) (by omega) (by omega) (by omega) (by omega) (by omega) (by omega) (by omega))⟩
      · intro r hr
        rw [n1 51 (by decide), d51 r, n7, q1 77 (by decide) (by decide) (by decide) (by omega)]
        by_cases e : r = 2
        · subst e
          rw [if_pos rfl, zup_eq, h51 2 (by omega)]
        · rw [if_neg e, zup_ne e]
          exact h51 r hr
      · rw [n1 2 (by decide), d1 2 (by decide), c21, n3]
        omega
      · intro j hj
        rw [N1 3 (by omega) (by omega) (by omega) (by omega) (by omega) (by omega) (by omega) (by omega) (by omega), N1 108 (by omega) (by omega) (by omega) (by omega) (by omega) (by omega) (by omega) (by omega) (by omega)]
        exact h3 j hj
      · rw [n1 1 (by decide), d1 1 (by decide), c12, n5]
    | inl R =>
      rw [ho] at b3
      obtain ⟨rfl, hR, A0, e, c1', hc1, A1, AA, A13, A11, ee1, ee2, Al⟩ := b3
      have hg : ∀ r, r ∈ R → zRg r := zRg_law hb8.by hn 40 0 [] R (fun r hr => absurd hr (by simp)) ho
      refine zO_brp (by omega) (by omega) rfl ?_
      have eL' : (C 1 10).toNat = L := by rw [c11 10 (by decide), a10, Int.toNat_natCast]
      have eD' : (C 1 11).toNat = D := by rw [c11 11 (by decide)]; exact eD
      rw [eL', eD']
      refine zO_gd ⟨tL, by omega⟩ (zO_lt (zO_gd ⟨tD, by omega⟩ (zO_lt (zO_lte (fun F eF => zO_lte (fun G eG => zO_b1e g10_forgetGround ?_))))))
      have k1 : ∀ q, q ≠ 1 → q ≠ 2 → q ≠ 46 → (q < D ∨ D + 11 < q) → zst (zst G 1 14 1) 46 6 (-1) q = M q := fun q x y z w => by rw [zst_ne z, zst_ne x, eG, zst_ne x, eF, zst_ne x, c1 q x y w]
      have kD : ∀ q, D ≤ q → q ≤ D + 11 → zst (zst G 1 14 1) 46 6 (-1) q = A q := fun q x y => by rw [zst_ne (by omega), zst_ne (by omega), eG, zst_ne (by omega), eF, zst_ne (by omega), cD q x y]
      have k110 : zst (zst G 1 14 1) 46 6 (-1) 1 10 = (D : Int) := by rw [zst_ne (by decide), zst_ns (by decide), eG, zst_ns (by decide), eF, zst_eq]
      have k111 : zst (zst G 1 14 1) 46 6 (-1) 1 11 = (L : Int) := by rw [zst_ne (by decide), zst_ns (by decide), eG, zst_eq]
      have k112 : zst (zst G 1 14 1) 46 6 (-1) 1 12 = -1 := by rw [zst_ne (by decide), zst_ns (by decide), eG, zst_ns (by decide), eF, zst_ns (by decide), c12]
      have k113 : zst (zst G 1 14 1) 46 6 (-1) 1 13 = M 1 13 := by rw [zst_ne (by decide), zst_ns (by decide), eG, zst_ns (by decide), eF, zst_ns (by decide), c11 13 (by decide)]
      have k114 : zst (zst G 1 14 1) 46 6 (-1) 1 14 = 1 := by rw [zst_ne (by decide), zst_eq]
      have k21 : zst (zst G 1 14 1) 46 6 (-1) 2 1 = 0 := by rw [zst_ne (by decide), zst_ne (by decide), eG, zst_ne (by decide), eF, zst_ne (by decide), c21]
      have k46 : zst (zst G 1 14 1) 46 6 (-1) 46 6 = -1 := zst_eq
      generalize zst (zst G 1 14 1) 46 6 (-1) = Q at *
      clear eF eG
      have eDQ : (Q 1 10).toNat = D := by rw [k110, Int.toNat_natCast]
      rw [eDQ]
      refine zO_gd ⟨tD, by omega⟩ (zO_lt (zO_inr (show zO _ _ from zO_some ?_)))
      dsimp only
      have q3 : Q 3 = M 3 := k1 3 (by decide) (by decide) (by decide) (by omega)
      have q8 : zB8 Q := fun j hj => by rw [q3, k1 108 (by decide) (by decide) (by decide) (by omega)]; exact hb8 j hj
      have q76 : Q 76 = M 76 := k1 76 (by decide) (by decide) (by decide) (by omega)
      refine zO_mono (g11_lawR hn q8 (by rw [q76]; omega) (by rw [q76]; omega)) ?_
      rintro ⟨N, w⟩ ⟨n1, n2, n3, n4⟩
      rw [q3, ho] at n4
      obtain ⟨rfl, n5, n97, nR, n7⟩ := n4
      dsimp only at n1 n2 n3 n5 n97 nR n7 ⊢
      have N1 : ∀ q, q ≠ 1 → q ≠ 2 → q ≠ 46 → (q < D ∨ D + 11 < q) → q ≠ 76 → q ≠ 77 → (q < 97 ∨ 107 < q) → q ≠ 109 → q ≠ 110 → N q = M q := fun q x y z w a b c d f => by rw [n1 q (by simp; omega), k1 q x y z w]
      have ND : ∀ q, D ≤ q → q ≤ D + 11 → N q = A q := fun q x y => by rw [n1 q (by simp; omega), kD q x y]
      have N11 : N 1 = Q 1 := n1 1 (by decide)
      refine ⟨by rw [kD D (by omega) (by omega)]; exact A0, D, zLE R e, ⟨zLE_ok hg ee1 ee2, ?_, hT.fr (fun q x y => N1 q (by omega) (by omega) (by omega) (by omega) (by omega) (by omega) (by omega) (by omega) (by omega)) (fun q x y => N1 q (by omega) (by omega) (by omega) (by omega) (by omega) (by omega) (by omega) (by omega) (by omega)), ⟨hi3, fun j x y => by rw [N1 20 (by omega) (by omega) (by omega) (by omega) (by omega) (by omega) (by omega) (by omega) (by omega)]; exact hi0 j x y⟩, by rw [N11, k113]; exact e13, by rw [n2 20 (by omega), q76]; exact e20, ?_, ?_, ?_, ?_, ?_⟩, ⟨by rw [N1 35 (by omega) (by omega) (by omega) (by omega) (by omega) (by omega) (by omega) (by omega) (by omega)]; exact hI.2.1.1, Or.inl (by rw [N11]; exact k114)⟩, Or.inl (by rw [n1 46 (by decide)]; exact k46)⟩
      · refine zLaw_new (c1 := c1') hD hR hg hc1 (by rw [N11]; exact k110) (by rw [N11, k111]; omega) (by rw [ND D (by omega) (by omega)]; exact A0) (by rw [ND D (by omega) (by omega)]; exact A1) (zAsk_c (Nat.le_refl _) R AA (fun q j x y _ => by rw [ND q (by omega) (by omega)]) (fun j _ => by rw [ND (D + 5) (by omega) (by omega)])) (by rw [ND D (by omega) (by omega)]; exact A13) (fun h hh => by rw [ND (D + 11) (by omega) (by omega)]; exact A11 h hh) (fun a ha => by rw [ND (D + 6) (by omega) (by omega), ND (D + 7) (by omega) (by omega), ND (D + 10) (by omega) (by omega)]; exact Al a ha) n97 nR
      · intro j hj
        rw [N1 20 (by omega) (by omega) (by omega) (by omega) (by omega) (by omega) (by omega) (by omega) (by omega)]
        exact ⟨(him j hj).1, (him j hj).2.fr (fun q x y => N1 q (by omega) (by omega) (by omega) (by omega) (by omega) (by omega) (by omega) (by omega) (by omega)) (fun q x y => N1 q (by omega) (by omega) (by omega) (by omega) (by omega) (by omega) (by omega) (by omega) (by omega))⟩
      · intro r hr
        rw [N1 51 (by omega) (by omega) (by omega) (by omega) (by omega) (by omega) (by omega) (by omega) (by omega), n7, k1 77 (by decide) (by decide) (by decide) (by omega)]
        exact h51 r hr
      · rw [n1 2 (by decide), k21, n3]
        omega
      · intro j hj
        rw [N1 3 (by omega) (by omega) (by omega) (by omega) (by omega) (by omega) (by omega) (by omega) (by omega), N1 108 (by omega) (by omega) (by omega) (by omega) (by omega) (by omega) (by omega) (by omega) (by omega)]
        exact h3 j hj
      · rw [N11, k112, n5]
  · have fin : zO (zbd (g_X10_refuse (zKn i) 0 M) (fun M20 v19 => some (M20, (-2 : Int)))) (fun r => zO (g_X11_law (zKn i) p1 r.1) (fun r' => r.2 = r'.2 ∧ ∃ L' E', zInv i L' r'.1 E')) := by
      refine zO_bde (g10_refuse (by omega)) (zO_some ?_)
      dsimp only
      have ref := hI.ref (p := 0) (by omega)
      rw [show Int.toNat 0 = 0 from rfl]
      have e76 : zst M 51 0 (M 51 0 + 1) 76 = M 76 := zst_ne (by decide)
      generalize zst M 51 0 (M 51 0 + 1) = Q at *
      unfold g_X11_law
      refine zO_sp1 (zO_mono (Q := fun u => u = .inl Q) ?_ ?_)
      · refine zO_br h1 ⟨by omega, by omega⟩ (fun _ => zO_some rfl) (fun c => zO_brn h1 ⟨by rw [e76]; omega, by rw [e76]; omega⟩ (by rw [e76]; omega) (zO_some rfl))
      · rintro u rfl
        refine show zO _ _ from zO_gd (by omega) (zO_gd (by omega) (zO_lt (zO_some ⟨rfl, L, E, ?_⟩)))
        exact ref
    unfold g_X10_law
    refine zO_sp1 (zO_br h1 ⟨by omega, by omega⟩ (fun _ => zO_inl fin) (fun c => zO_brn h1 ⟨by omega, by omega⟩ (by omega) (zO_inl fin)))

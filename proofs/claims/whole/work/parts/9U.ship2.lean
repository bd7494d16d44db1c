/-! ship -/
def sSh (E : zE) (M : zM) (a : Nat) : Nat → Int := fun p => sLft E M a (M 13 p).toNat
theorem sSh_qc {E : zE} {M M' : zM} {a : Nat} (q : zQc M M') : sSh E M' a = sSh E M a := by
  funext p
  unfold sSh sLft
  rw [q.1 13 (by omega) (by omega), (sL_qc q).1, (sL_qc q).2]
theorem sSh_qm {E : zE} {M M' : zM} {a : Nat} (q : zQm M M') : sSh E M' a = sSh E M a := by
  funext p
  unfold sSh sLft
  rw [q.1 13 (by omega) (by omega), (sL_qm q).1, (sL_qm q).2]
theorem sSh_r {i L : Nat} {M : zM} {E : zE} {a p : Nat} (hs : zSt i L M E) (hp : p < 10) : 0 ≤ sSh E M a p ∧ sSh E M a p ≤ 1000000 := by
  obtain ⟨c1, c2, c3⟩ := hs.plc.2 p hp
  exact (sLft_low (a := a) hs (c := (M 13 p).toNat) (by omega)).2
theorem g9_choose {i P n a : Nat} {lf : Nat → Int} {ct : Int} {M : zM} (hP : P ≤ 10) (hP' : 1 ≤ P) (hn : n ≤ 6) (hc : 0 ≤ ct ∧ ct ≤ 10) (hl : ∀ p, p < P → 0 ≤ lf p ∧ lf p ≤ 1000000) (h49 : ∀ p, p < P → ∀ j : Nat, j < 7 → M 49 (7 * p + j) = zNo (lf p) ct (j : Int)) : zO (g_X9_choose (zKn i) (n : Int) (a : Int) (P : Int) M) (fun M' => zFr [46, 47, 48] M M' ∧ M' 46 6 = (a : Int) ∧ M' 46 5 = (n : Int) ∧ zBest P (n : Int) lf ct (M' 46 1) (M' 47)) := by
  unfold g_X9_choose
  refine zO_lt (zO_lt (zO_lt (zO_lt ?_)))
  have h := g9_lay (i := i) (P := P) (n := (n : Int)) (lf := lf) (ct := ct) hP (by omega) hc hl P 12 0 n 1000000 (zst (zst (zst (zst M 46 5 (n : Int)) 46 6 (a : Int)) 46 4 (P : Int)) 46 1 1000001) (by omega) hP' (by omega) (by rw [zst_ns (by decide), zst_eq]) (by simp only [zst_ne (show (49 : Nat) ≠ 46 by decide)]; exact h49) (fun q hq => by omega) (by show 0 + (n : Int) = n; omega) rfl (by rw [zst_eq]; omega)
  unfold g_X9_lay
  refine zO_b1q h ?_
  rintro A ⟨⟨a1, a2, _, _⟩, a5⟩
  refine zO_some ⟨fun q hq => ?_, ?_, ?_, ?_⟩
  · rw [a1 q hq]
    have q46 : q ≠ 46 := fun e => hq (by rw [e]; decide)
    rw [zst_ne q46, zst_ne q46, zst_ne q46, zst_ne q46]
  · rw [a2 6 (by decide), zst_ns (by decide), zst_ns (by decide), zst_eq]
  · rw [a2 5 (by decide), zst_ns (by decide), zst_ns (by decide), zst_ns (by decide), zst_eq]
  · rcases a5 with ⟨_, _, c3⟩ | ⟨c1, c2, _, c4⟩
    · have hw : zWay P (n : Int) (fun p => if p = 0 then (n : Int) else 0) := ⟨fun p hp => by dsimp only; split <;> omega, zsum_one (c := 0) (by omega)⟩
      have c := c3 _ ⟨hw, fun q hq => by omega⟩
      rw [zst_eq] at c
      have v := zVal_i (lf := lf) (ct := ct) hc P (w := fun p => if p = 0 then (n : Int) else 0) (fun p hp => ⟨hl p hp, by constructor <;> split <;> omega⟩)
      omega
    · exact ⟨c1.1, c2, fun w hw => c4 w ⟨hw, fun q hq => by omega⟩⟩
theorem s10_ship {i L P n a : Nat} {M : zM} {E : zE} {p3 : Int} (hI : zInv i L M E) (hn : 1 ≤ n ∧ n ≤ 6) (ha : a < 100) (hP : M 4 18 = (P : Int)) (hP' : 1 ≤ P) (hw : p3 = 0 ∨ (10 ≤ p3 ∧ p3 < 10 + (P : Int))) : zO (g_X10_ship (zKn i) (n : Int) (a : Int) p3 M) (fun r => zQc M r.1 ∧ zInv i L r.1 E ∧ ∃ least w, zBest P (n : Int) (sSh E M a) (eT E) least w ∧ r.2 = if p3 = 0 then 1000000 - least else w (p3 - 10).toNat) := by
  obtain ⟨⟨P', x1, _, x3⟩, _⟩ := hI.1.plc
  have hP10 : P ≤ 10 := by omega
  clear x1 x3
  unfold g_X10_ship
  refine zO_brn ⟨by omega, by omega⟩ ⟨by omega, by omega⟩ (by omega) (zO_brn ⟨by omega, by omega⟩ ⟨by omega, by omega⟩ (by omega) (zO_b1e (t_age (by omega)).1 (zO_brn (by omega) (by omega) (by omega) ?_)))
  rw [hP]
  refine zO_brp ⟨by omega, by omega⟩ ⟨by omega, by omega⟩ (by omega) (zO_lt (zO_sp0 ?_))
  have hX : zbr p3 0 (p3 = 0) (some (Sum.inl ())) (zbr p3 10 (p3 < 10) (some (Sum.inr (M, (-1 : Int)))) (zbr (p3 - 10) (P : Int) (p3 - 10 < (P : Int)) (some (Sum.inl ())) (some (Sum.inr (M, (-1 : Int)))))) = some (Sum.inl ()) := by
    rcases hw with rfl | hw
    · exact zbr_p (by omega) (by omega) rfl
    · rw [zbr_n ⟨by omega, by omega⟩ ⟨by omega, by omega⟩ (by omega), zbr_n ⟨by omega, by omega⟩ ⟨by omega, by omega⟩ (by omega), zbr_p ⟨by omega, by omega⟩ ⟨by omega, by omega⟩ (by omega)]
  rw [hX]
  refine zO_inl ?_
  -- the answer out of what is kept
  have fin : ∀ B : zM, zQc M B → zInv i L B E → zBest P (n : Int) (sSh E M a) (eT E) (B 46 1) (B 47) → zO (zbr p3 0 (¬ p3 = 0) (zgd (0 ≤ p3 - 10 ∧ p3 - 10 < 10) (some (B, B 47 (p3 - 10).toNat))) (some (B, 1000000 - (B 46 1)))) (fun r => zQc M r.1 ∧ zInv i L r.1 E ∧ ∃ least w, zBest P (n : Int) (sSh E M a) (eT E) least w ∧ r.2 = if p3 = 0 then 1000000 - least else w (p3 - 10).toNat) := by
    intro B hq hI' hB
    refine zO_br ⟨by omega, by omega⟩ ⟨by omega, by omega⟩ (fun hc => zO_gd (by omega) (zO_some ⟨hq, hI', _, _, hB, ?_⟩)) (fun hc => zO_some ⟨hq, hI', _, _, hB, ?_⟩)
    · rw [if_neg hc]
    · rw [if_pos (by omega)]
  -- laid anew
  have anew : zO (zbd (g_X10_viewAt (zKn i) (a : Int) M) (fun M7 v6 => zgd (ztag (zKn i) v6.toNat = 9) (zb1 (f_X10_layOut (zKn i) 1 (v6.toNat) M7) (fun M9 => zb1 (g_X9_choose (zKn i) (n : Int) (a : Int) (M9 4 18) M9) (fun M10 => some (M10)))))) (fun B => zQc M B ∧ zInv i L B E ∧ zBest P (n : Int) (sSh E M a) (eT E) (B 46 1) (B 47)) := by
    refine zO_bdq (g10_view' ha hI) ?_
    rintro A v ⟨hv1, hq, hv, hI'⟩
    dsimp only at hv1 hq hv hI'
    subst hv1
    refine zO_gd zt_21 ?_
    simp only [show (21 : Int).toNat = 21 from rfl, e_X10_layOut]
    have a4 : A 4 18 = (P : Int) := by rw [hq.1.1 4 (by omega) (by omega)]; exact hP
    refine zO_b1q (g10_layOut hI'.1 hv a4 hP10) ?_
    rintro B ⟨b1, b2⟩
    have b4 : B 4 18 = (P : Int) := by rw [b1 4 (by decide)]; exact a4
    rw [b4]
    refine zO_b1q (g9_choose (lf := sSh E A a) (ct := eT E) hP10 hP' hn.2 hI.1.1.2.2.1 (fun p hp => sSh_r hI'.1 (by omega)) b2) ?_
    rintro C ⟨c1, c2, c3, c4⟩
    have qAC : zQc A C := (zQc.of b1 (by decide)).tr (zQc.of c1 (by decide))
    have qC : zQc M C := hq.1.tr qAC
    have fC : ∀ q, q ≠ 46 → q ≠ 47 → q ≠ 48 → q ≠ 49 → q ≠ 50 → C q = A q := fun q d1 d2 d3 d4 d5 => (c1 q (by simp; omega)).trans (b1 q (by simp; omega))
    rw [sSh_qc hq.1] at c4
    refine zO_some ⟨qC, ⟨hI.1.qc qC, hv.1.ca.fr (by rw [fC 1 (by decide) (by decide) (by decide) (by decide) (by decide)]) (fun q hq' => fC q (by omega) (by omega) (by omega) (by omega) (by omega)), Or.inr ⟨n, a, c2, c3, ha, hn.1, hn.2, ?_, ?_⟩⟩, c4⟩
    · rw [qC.1 4 (by omega) (by omega), hP]; omega
    · rw [show (C 4 18).toNat = P by rw [qC.1 4 (by omega) (by omega), hP]; omega]
      show zBest P (n : Int) (sSh E C a) (eT E) (C 46 1) (C 47)
      rw [sSh_qc qC]
      exact c4
  have kept : ∀ v4 : Int, zr v4 → g_X9_isOf (zKn i) (n : Int) (a : Int) M = some v4 → (v4 ≠ 0 → zBest P (n : Int) (sSh E M a) (eT E) (M 46 1) (M 47)) → zO (zb1 (g_X9_isOf (zKn i) (n : Int) (a : Int) M) (fun v4 => zb1 (zbr v4 0 (¬ v4 = 0) (some (M)) (zbd (g_X10_viewAt (zKn i) (a : Int) M) (fun M7 v6 => zgd (ztag (zKn i) v6.toNat = 9) (zb1 (f_X10_layOut (zKn i) 1 (v6.toNat) M7) (fun M9 => zb1 (g_X9_choose (zKn i) (n : Int) (a : Int) (M9 4 18) M9) (fun M10 => some (M10))))))) (fun M11 => zbr p3 0 (¬ p3 = 0) (zgd (0 ≤ p3 - 10 ∧ p3 - 10 < 10) (some (M11, M11 47 (p3 - 10).toNat))) (some (M11, 1000000 - (M11 46 1)))))) (fun r => zQc M r.1 ∧ zInv i L r.1 E ∧ ∃ least w, zBest P (n : Int) (sSh E M a) (eT E) least w ∧ r.2 = if p3 = 0 then 1000000 - least else w (p3 - 10).toNat) := by
    intro v4 hz hv hk
    refine zO_b1e hv (zO_b1 ?_)
    refine zO_br hz ⟨by omega, by omega⟩ (fun hc => zO_some (fin M zQc.rf hI (hk hc))) (fun hc => ?_)
    refine zO_mono anew ?_
    rintro B ⟨b1, b2, b3⟩
    exact fin B b1 b2 b3
  have hq0 : 0 ≤ (a : Int) ∧ (a : Int) < 100 := by omega
  rcases hI.2.2 with h6 | ⟨n', a', h6, h5, k1, k2, k3, k4, k5⟩
  · refine kept 0 (by omega) ?_ (fun h => absurd rfl h)
    unfold g_X9_isOf
    rw [h6]
    exact zbr_p ⟨by omega, by omega⟩ ⟨by omega, by omega⟩ (by omega)
  · by_cases e : a' = a
    · by_cases e' : n' = n
      · subst e e'
        refine kept 1 (by omega) ?_ (fun _ => ?_)
        · unfold g_X9_isOf
          rw [h6, h5, zbr_n ⟨by omega, by omega⟩ ⟨by omega, by omega⟩ (fun h => h rfl), zbr_n ⟨by omega, by omega⟩ ⟨by omega, by omega⟩ (fun h => h rfl)]
        · rw [show (M 4 18).toNat = P by omega] at k5
          exact k5
      · refine kept 0 (by omega) ?_ (fun h => absurd rfl h)
        unfold g_X9_isOf
        rw [h6, h5, zbr_n ⟨by omega, by omega⟩ ⟨by omega, by omega⟩ (by omega), zbr_p ⟨by omega, by omega⟩ ⟨by omega, by omega⟩ (by omega)]
    · refine kept 0 (by omega) ?_ (fun h => absurd rfl h)
      unfold g_X9_isOf
      rw [h6, zbr_p ⟨by omega, by omega⟩ ⟨by omega, by omega⟩ (by omega)]
theorem s11_ship {i L P n a : Nat} {M : zM} {E : zE} {p3 : Int} (hI : zInv i L M E) (hn : 1 ≤ n ∧ n ≤ 6) (ha : a < 100) (hP : M 80 0 = (P : Int)) (hP' : 1 ≤ P) (hw : p3 = 0 ∨ (10 ≤ p3 ∧ p3 < 10 + (P : Int))) : zO (g_X11_ship (zKn i) (n : Int) (a : Int) p3 M) (fun r => zQm M r.1 ∧ ∃ least w, zBest P (n : Int) (sSh E M a) (eT E) least w ∧ r.2 = if p3 = 0 then 1000000 - least else w (p3 - 10).toNat) := by
  obtain ⟨⟨P', _, x2, x3⟩, _⟩ := hI.1.plc
  have hP10 : P ≤ 10 := by omega
  clear x2 x3
  unfold g_X11_ship
  simp only [Int.toNat_zero, hP]
  refine zO_b1e (t_in ⟨by omega, by omega⟩ ⟨by omega, by omega⟩ ⟨by omega, by omega⟩ ⟨by omega, by omega⟩) (zO_brn (by omega) (by omega) (by omega) (zO_b1e (t_age (by omega)).2 (zO_brn (by omega) (by omega) (by omega) (zO_gd (by omega) (zO_brn ⟨by omega, by omega⟩ ⟨by omega, by omega⟩ (by omega) (zO_sp0 ?_))))))
  have hX : zbr p3 0 (p3 = 0) (some (Sum.inl ())) (zgd (0 ≤ (0 : Int) ∧ (0 : Int) < 4) (zb1 (f_X11_within (zKn i) p3 10 (9 + (P : Int)) M) (fun v5 => zbr v5 0 (¬ v5 = 0) (some (Sum.inl ())) (some (Sum.inr (M, (-1 : Int))))))) = some (Sum.inl ()) := by
    rcases hw with rfl | hw
    · exact zbr_p (by omega) (by omega) rfl
    · rw [zbr_n ⟨by omega, by omega⟩ ⟨by omega, by omega⟩ (by omega), zgd_p (by omega), t_in ⟨by omega, by omega⟩ ⟨by omega, by omega⟩ ⟨by omega, by omega⟩ ⟨by omega, by omega⟩]
      exact zbr_p (by omega) (by omega) (by omega)
  rw [hX]
  refine zO_inl (zO_b1q (g11_finds hI.1 ha) ?_)
  rintro A ⟨qA, vA⟩
  have sA := hI.1.qm qA
  refine zO_b1q (r11_ship sA vA ha hn.2 (by rw [qA.1 80 (by omega) (by omega)]; exact hP) hP10) ?_
  rintro B ⟨qB, b1, b2⟩
  have qMB := qA.tr qB
  refine zO_b2 (zO_mono (r11_ship2 (n := n) (lf := sSh E A a) (hI.1.qm qMB) hP10 hP' (by rw [qMB.1 80 (by omega) (by omega)]; exact hP) hn.2 (fun p hp => sSh_r sA (by omega)) b1 b2) ?_)
  rintro ⟨v, C⟩ ⟨c1, c2⟩
  dsimp only at *
  rw [sSh_qm qA] at c2
  refine zO_br ⟨by omega, by omega⟩ ⟨by omega, by omega⟩ (fun hc => zO_gd (by omega) (zO_some ⟨qMB.tr c1, _, _, c2, ?_⟩)) (fun hc => zO_some ⟨qMB.tr c1, _, _, c2, ?_⟩)
  · rw [if_neg hc]
  · rw [if_pos (by omega)]
theorem p_ship {i L : Nat} {M : zM} {E : zE} {p1 p2 p3 : Int} (hI : zInv i L M E) (h1 : zr p1) (h2 : zr p2) (h3 : zr p3) : zP2 i L E (g_X10_ship (zKn i) p1 p2 p3) (g_X11_ship (zKn i) p1 p2 p3) M := by
  obtain ⟨⟨P, e1, e2, e3⟩, _⟩ := hI.1.plc
  have no : (∀ X : zM → Option (zM × Int), X M = some (M, -1) → True) → g_X10_ship (zKn i) p1 p2 p3 M = some (M, -1) → g_X11_ship (zKn i) p1 p2 p3 M = some (M, -1) → zP2 i L E (g_X10_ship (zKn i) p1 p2 p3) (g_X11_ship (zKn i) p1 p2 p3) M := fun _ a b => zO_eq a (zO_eq b ⟨rfl, hI⟩)
  have no := no (fun _ _ => trivial)
  by_cases c1 : 1 ≤ p1 ∧ p1 ≤ 6
  · by_cases c2 : 0 ≤ p2 ∧ p2 < 100
    · by_cases c3 : P = 0
      · subst c3
        refine no ?_ ?_ <;> apply zO_get
        · unfold g_X10_ship
          rw [e1]
          exact zO_brn ⟨by omega, by omega⟩ ⟨by omega, by omega⟩ (by omega) (zO_brn ⟨by omega, by omega⟩ ⟨by omega, by omega⟩ (by omega) (zO_b1e (t_age c2).1 (zO_brn (by omega) (by omega) (by omega) (zO_brn ⟨by omega, by omega⟩ ⟨by omega, by omega⟩ (by omega) (zO_some rfl)))))
        · unfold g_X11_ship
          simp only [Int.toNat_zero, e2]
          exact zO_b1e (t_in ⟨by omega, by omega⟩ ⟨by omega, by omega⟩ ⟨by omega, by omega⟩ ⟨by omega, by omega⟩) (zO_brn (by omega) (by omega) (by omega) (zO_b1e (t_age c2).2 (zO_brn (by omega) (by omega) (by omega) (zO_gd (by omega) (zO_brp ⟨by omega, by omega⟩ ⟨by omega, by omega⟩ (by omega) (zO_some rfl))))))
      · by_cases c4 : p3 = 0 ∨ (10 ≤ p3 ∧ p3 < 10 + (P : Int))
        · obtain ⟨n, rfl⟩ : ∃ n : Nat, p1 = n := ⟨p1.toNat, by omega⟩
          obtain ⟨a, rfl⟩ : ∃ a : Nat, p2 = a := ⟨p2.toNat, by omega⟩
          refine zO_mono (s10_ship hI (n := n) (a := a) (by omega) (by omega) e1 (by omega) c4) ?_
          rintro ⟨A, v⟩ ⟨q, hI', l, w, k1, k2⟩
          dsimp only at *
          refine zO_mono (s11_ship hI' (P := P) (n := n) (a := a) (by omega) (by omega) (by rw [q.1 80 (by omega) (by omega)]; exact e2) (by omega) c4) ?_
          rintro ⟨B, v'⟩ ⟨q', l', w', k1', k2'⟩
          dsimp only at *
          rw [sSh_qc q] at k1'
          obtain ⟨r1, r2⟩ := zBest_one k1 k1'
          refine ⟨?_, hI'.qm q'⟩
          rw [k2, k2', r1]
          by_cases c5 : p3 = 0
          · rw [if_pos c5, if_pos c5]
          · rw [if_neg c5, if_neg c5, r2 _ (by omega)]
        · refine no ?_ ?_ <;> apply zO_get
          · unfold g_X10_ship
            rw [e1]
            refine zO_brn ⟨by omega, by omega⟩ ⟨by omega, by omega⟩ (by omega) (zO_brn ⟨by omega, by omega⟩ ⟨by omega, by omega⟩ (by omega) (zO_b1e (t_age c2).1 (zO_brn (by omega) (by omega) (by omega) (zO_brp ⟨by omega, by omega⟩ ⟨by omega, by omega⟩ (by omega) (zO_lt (zO_sp0 ?_))))))
            refine zO_brn h3 ⟨by omega, by omega⟩ (by omega) (zO_br h3 ⟨by omega, by omega⟩ (fun hc => zO_inr (show zO _ _ from zO_some rfl)) (fun hc => ?_))
            exact zO_brn ⟨by omega, by omega⟩ ⟨by omega, by omega⟩ (by omega) (zO_inr (show zO _ _ from zO_some rfl))
          · unfold g_X11_ship
            simp only [Int.toNat_zero, e2]
            refine zO_b1e (t_in ⟨by omega, by omega⟩ ⟨by omega, by omega⟩ ⟨by omega, by omega⟩ ⟨by omega, by omega⟩) (zO_brn (by omega) (by omega) (by omega) (zO_b1e (t_age c2).2 (zO_brn (by omega) (by omega) (by omega) (zO_gd (by omega) (zO_brn ⟨by omega, by omega⟩ ⟨by omega, by omega⟩ (by omega) (zO_sp0 ?_))))))
            exact zO_brn h3 ⟨by omega, by omega⟩ (by omega) (zO_gd (by omega) (zO_b1e (t_in_n h3 ⟨by omega, by omega⟩ ⟨by omega, by omega⟩ (by omega)) (zO_brn (by omega) (by omega) (by omega) (zO_inr (show zO _ _ from zO_some rfl)))))
    · refine no ?_ ?_ <;> apply zO_get
      · unfold g_X10_ship
        exact zO_brn ⟨by omega, by omega⟩ ⟨by omega, by omega⟩ (by omega) (zO_brn ⟨by omega, by omega⟩ ⟨by omega, by omega⟩ (by omega) (zO_b1e (t_age_n h2 c2).1 (zO_brp (by omega) (by omega) (by omega) (zO_some rfl))))
      · unfold g_X11_ship
        exact zO_b1e (t_in ⟨by omega, by omega⟩ ⟨by omega, by omega⟩ ⟨by omega, by omega⟩ ⟨by omega, by omega⟩) (zO_brn (by omega) (by omega) (by omega) (zO_b1e (t_age_n h2 c2).2 (zO_brp (by omega) (by omega) (by omega) (zO_some rfl))))
  · refine no ?_ ?_ <;> apply zO_get
    · unfold g_X10_ship
      refine zO_br h1 ⟨by omega, by omega⟩ (fun hc => zO_some rfl) (fun hc => zO_brp h1 ⟨by omega, by omega⟩ (by omega) (zO_some rfl))
    · unfold g_X11_ship
      exact zO_b1e (t_in_n h1 ⟨by omega, by omega⟩ ⟨by omega, by omega⟩ c1) (zO_brp (by omega) (by omega) (by omega) (zO_some rfl))

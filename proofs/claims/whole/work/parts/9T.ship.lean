/-! ship: the reference's way -/
theorem zSt.cat {i L : Nat} {M : zM} {E : zE} (h : zSt i L M E) : g_X11_catches (zKn i) M = some (eT E) := by
  obtain ⟨_, _, _, _, _, _, _, _, _, _, _, b3⟩ := h.2.1
  have := (b3 M (zla (fun q _ _ => rfl))).1
  unfold g_X11_catches
  rw [this]
  rfl
theorem r11_ship {i L P n : Nat} {M : zM} {E : zE} {a : Nat} {p3 : Int} (hs : zSt i L M E) (hv : zMw M E a) (ha : a < 100) (hn6 : n ≤ 6) (h80 : M 80 0 = (P : Int)) (hP : P ≤ 10) : zO (zw2 (gb_X11_ship_58 (zKn i) (n : Int) p3) zfu 0 M) (fun M' => zQm M M' ∧ (∀ p, p < P → M' 123 p = sLft E M a (M 13 p).toNat) ∧ ∀ p, p < P → M' 124 p = if p = 0 then (n : Int) else 0) := by
  unfold zw2
  refine zO_for (fun s => s.1) P (fun j s => zQm M s.2 ∧ zMw s.2 E a ∧ (∀ p, p < j → s.2 123 p = sLft E M a (M 13 p).toNat) ∧ ∀ p, p < j → s.2 124 p = if p = 0 then (n : Int) else 0) ?_ ?_ (by omega) 0 (by omega) rfl ⟨zQm.rf, hv, fun p hp => absurd hp (by omega), fun p hp => absurd hp (by omega)⟩
  · rintro j ⟨y, A⟩ hj hcnt ⟨h1, h2, h3, h4⟩
    dsimp only at *
    subst hcnt
    have hsA := hs.qm h1
    have e91 : A 91 = M 91 := h1.1 91 (by omega) (by omega)
    have e80 : A 80 = M 80 := h1.1 80 (by omega) (by omega)
    obtain ⟨c1, c2, c3⟩ := hs.plc.2 j (by omega)
    have hL := sL_r (a := a) hs (c := (M 13 j).toNat) (by omega)
    have hl := g11_left hsA h2 ha (by omega : (M 13 j).toNat < 256)
    rw [(sL_qm h1).1, (sL_qm h1).2, show (((M 13 j).toNat : Nat) : Int) = M 13 j by omega] at hl
    rw [gb_X11_ship_58]
    simp only [Int.toNat_natCast, Int.toNat_zero, e91, e80, h80, ← c1]
    refine zO_gd (by omega) (zO_brn ⟨by omega, by omega⟩ ⟨by omega, by omega⟩ (by omega) (zO_gd (by omega) (zO_b1q hl ?_)))
    rintro D ⟨D1, D2, D3, D4, D5⟩
    have qD : zQm M D := h1.tr D1
    rw [D4, D5]
    have f123 : ∀ v, zQm M (zst D 123 j v) := fun v => qD.tr (zQm.of (zFr.st1 (l := [123]) (by decide)) (by decide))
    have f124 : ∀ v w, zQm M (zst (zst D 123 j v) 124 j w) := fun v w => (f123 v).tr (zQm.of (zFr.st1 (l := [124]) (by decide)) (by decide))
    have v124 : ∀ v w, zMw (zst (zst D 123 j v) 124 j w) E a := fun v w => D2.fr2 (l := [123, 124]) ((zFr.st1 (by decide)).st (by decide)) (by decide)
    have o3 : ∀ w p, p < j + 1 → zst (zst D 123 j (sLft E M a (M 13 j).toNat)) 124 j w 123 p = sLft E M a (M 13 p).toNat := by
      intro w p hp
      rw [zst_ne (by decide)]
      by_cases e : p = j
      · subst e; rw [zst_eq]
      · rw [zst_ns (by omega), D3 123 (by decide)]; exact h3 p (by omega)
    have o4 : ∀ v w, (w = if j = 0 then (n : Int) else 0) → ∀ p, p < j + 1 → zst (zst D 123 j v) 124 j w 124 p = if p = 0 then (n : Int) else 0 := by
      intro v w hw p hp
      by_cases e : p = j
      · subst e; rw [zst_eq]; exact hw
      · rw [zst_ns (by omega), zst_ne (by decide), D3 124 (by decide)]; exact h4 p (by omega)
    refine zO_gd ⟨⟨by omega, by omega⟩, by omega, by omega⟩ (zO_gd (by omega) (zO_lt ?_))
    change zO (zbr (j : Int) 0 (¬ (j : Int) = 0) _ _) _
    refine zO_br ⟨by omega, by omega⟩ ⟨by omega, by omega⟩ (fun hc => zO_gd (by omega) (zO_lt (zO_lt (zO_inl ⟨by dsimp only; omega, f124 _ 0, v124 _ 0, o3 0, o4 _ 0 (by rw [if_neg (by omega)])⟩)))) (fun hc => zO_gd (by omega) (zO_lt (zO_lt (zO_inl ⟨by dsimp only; omega, f124 _ (n : Int), v124 _ (n : Int), o3 (n : Int), o4 _ (n : Int) (by rw [if_pos (by omega)])⟩))))
  · rintro ⟨y, A⟩ hcnt ⟨h1, h2, h3, h4⟩
    dsimp only at *
    subst hcnt
    rw [gb_X11_ship_58]
    simp only [Int.toNat_zero, h1.1 80 (by omega) (by omega), h80]
    exact zO_gd (by omega) (zO_brp ⟨by omega, by omega⟩ ⟨by omega, by omega⟩ (by omega) (zO_inr ⟨h1, h3, h4⟩))
theorem r11_keep {i P : Nat} {M : zM} {p3 v : Int} (h80 : M 80 0 = (P : Int)) (hP : P ≤ 10) : zO (zw2 (gb_X11_ship_169 (zKn i) p3 v) zfu 0 M) (fun M' => zFr [125] M M' ∧ ∀ p, p < P → M' 125 p = M 124 p) := by
  unfold zw2
  refine zO_for (fun s => s.1) P (fun j s => zFr [125] M s.2 ∧ ∀ p, p < j → s.2 125 p = M 124 p) ?_ ?_ (by omega) 0 (by omega) rfl ⟨zFr_refl, fun p hp => absurd hp (by omega)⟩
  · rintro j ⟨y, A⟩ hj hcnt ⟨h1, h2⟩
    dsimp only at *
    subst hcnt
    rw [gb_X11_ship_169]
    simp only [Int.toNat_natCast, Int.toNat_zero, h1 80 (by decide), h1 124 (by decide), h80]
    refine zO_gd (by omega) (zO_brn ⟨by omega, by omega⟩ ⟨by omega, by omega⟩ (by omega) (zO_gd (by omega) (zO_gd (by omega) (zO_lt (zO_lt (zO_inl ⟨by dsimp only; omega, h1.st (by decide), fun p hp => ?_⟩))))))
    dsimp only
    by_cases e : p = j
    · subst e; rw [zst_eq]
    · rw [zst_ns (by omega)]; exact h2 p (by omega)
  · rintro ⟨y, A⟩ hcnt ⟨h1, h2⟩
    dsimp only at *
    subst hcnt
    rw [gb_X11_ship_169]
    simp only [Int.toNat_zero, h1 80 (by decide), h80]
    exact zO_gd (by omega) (zO_brp ⟨by omega, by omega⟩ ⟨by omega, by omega⟩ (by omega) (zO_inr ⟨h1, h2⟩))
/-- the best of the ways that came ahead -/
def zSo (P : Nat) (n : Int) (lf : Nat → Int) (ct v : Int) (b W : Nat → Int) : Prop := (v = -1 ∧ ∀ w, zWay P n w → ¬ zLex P w W) ∨ (0 ≤ v ∧ zWay P n b ∧ zLex P b W ∧ v = zVal lf ct b P ∧ ∀ w, zWay P n w → zLex P w W → v < zVal lf ct w P ∨ (v = zVal lf ct w P ∧ ((∀ p, p < P → b p = w p) ∨ zLex P b w)))
/-- with the way in hand -/
def zSx (P : Nat) (n : Int) (lf : Nat → Int) (ct v : Int) (b W : Nat → Int) : Prop := 0 ≤ v ∧ zWay P n b ∧ (zLex P b W ∨ ∀ p, p < P → b p = W p) ∧ v = zVal lf ct b P ∧ ∀ w, zWay P n w → (zLex P w W ∨ ∀ p, p < P → w p = W p) → v < zVal lf ct w P ∨ (v = zVal lf ct w P ∧ ((∀ p, p < P → b p = w p) ∨ zLex P b w))
theorem zLex_tr {P : Nat} {u w W : Nat → Int} (h : zLex P u w) (h' : zLex P w W) : zLex P u W := by
  obtain ⟨p, a1, a2, a3⟩ := h
  obtain ⟨q, b1, b2, b3⟩ := h'
  rcases Nat.lt_trichotomy p q with c | c | c
  · exact ⟨p, a1, fun r hr => by rw [a2 r hr, b2 r (by omega)], by rw [← b2 p c]; exact a3⟩
  · subst c
    exact ⟨p, a1, fun r hr => by rw [a2 r hr, b2 r hr], by omega⟩
  · exact ⟨q, b1, fun r hr => by rw [a2 r (by omega), b2 r hr], by rw [a2 q c]; exact b3⟩
theorem zSx_next {P : Nat} {n : Int} {lf : Nat → Int} {ct v : Int} {b W W' : Nat → Int} (h : zSx P n lf ct v b W) (h0 : zLex P W W') (h1 : ∀ w, zWay P n w → zLex P W w → (∀ p, p < P → W' p = w p) ∨ zLex P W' w) : zSo P n lf ct v b W' := by
  obtain ⟨a1, a2, a3, a4, a5⟩ := h
  refine Or.inr ⟨a1, a2, ?_, a4, fun w hw hl => a5 w hw ?_⟩
  · rcases a3 with a3 | a3
    · exact zLex_tr a3 h0
    · exact zLex_c h0 (fun p hp => (a3 p hp).symm) (fun _ _ => rfl)
  · rcases zLex_tri (P := P) (w := w) (W := W) with c | c | c
    · exact Or.inr c
    · exact Or.inl c
    · rcases h1 w hw c with d | d
      · exact (zLex_ne hl (fun p hp => (d p hp).symm)).elim
      · exact (zLex_as hl d).elim
theorem zSx_last {P : Nat} {n : Int} {lf : Nat → Int} {ct v : Int} {b W : Nat → Int} (h : zSx P n lf ct v b W) (h1 : ∀ w, zWay P n w → ¬ zLex P W w) : zBest P n lf ct v b := by
  obtain ⟨a1, a2, a3, a4, a5⟩ := h
  refine ⟨a2, a4, fun w hw => a5 w hw ?_⟩
  rcases zLex_tri (P := P) (w := w) (W := W) with c | c | c
  · exact Or.inr c
  · exact Or.inl c
  · exact (h1 w hw c).elim
theorem zSx_old {P : Nat} {n : Int} {lf : Nat → Int} {ct v : Int} {b W : Nat → Int} (h : zSo P n lf ct v b W) (h0 : 0 ≤ v) (hle : v ≤ zVal lf ct W P) : zSx P n lf ct v b W := by
  rcases h with ⟨h, _⟩ | ⟨a1, a2, a3, a4, a5⟩
  · omega
  · refine ⟨a1, a2, Or.inl a3, a4, fun w hw hx => ?_⟩
    rcases hx with hx | hx
    · exact a5 w hw hx
    · rw [zVal_c P hx]
      rcases Int.lt_or_le v (zVal lf ct W P) with c | c
      · exact Or.inl c
      · exact Or.inr ⟨by omega, Or.inr (zLex_c a3 (fun _ _ => rfl) (fun p hp => (hx p hp).symm))⟩
theorem zSx_new {P : Nat} {n : Int} {lf : Nat → Int} {ct v : Int} {b b' W : Nat → Int} (h : zSo P n lf ct v b W) (hW : zWay P n W) (h0 : 0 ≤ zVal lf ct W P) (hlt : v < 0 ∨ zVal lf ct W P < v) (hb : ∀ p, p < P → b' p = W p) : zSx P n lf ct (zVal lf ct W P) b' W := by
  refine ⟨h0, zWay_c hW (fun p hp => (hb p hp).symm), Or.inr hb, (zVal_c P hb).symm, fun w hw hx => ?_⟩
  rcases hx with hx | hx
  · rcases h with ⟨_, h⟩ | ⟨a1, a2, a3, a4, a5⟩
    · exact (h w hw hx).elim
    · refine Or.inl ?_
      rcases a5 w hw hx with c | ⟨c, _⟩ <;> omega
  · exact Or.inr ⟨(zVal_c P hx).symm, Or.inl (fun p hp => by rw [hb p hp, hx p hp])⟩
theorem r11_ship2 {i L P n : Nat} {M : zM} {E : zE} {p3 : Int} {lf : Nat → Int} (hs : zSt i L M E) (hP : P ≤ 10) (hP' : 1 ≤ P) (h80 : M 80 0 = (P : Int)) (hn6 : n ≤ 6) (hl : ∀ p, p < P → 0 ≤ lf p ∧ lf p ≤ 1000000) (h123 : ∀ p, p < P → M 123 p = lf p) (h124 : ∀ p, p < P → M 124 p = if p = 0 then (n : Int) else 0) : zO (zw3 (gb_X11_ship_132 (zKn i) p3) zfu (-1) 1 M) (fun r => zQm M r.2 ∧ zBest P (n : Int) lf (eT E) r.1 (r.2 125)) := by
  have hct := hs.1.2.2.1
  unfold zw3
  refine zO_wh (fun s => (s.2.1 = 0 ∨ s.2.1 = 1) ∧ zQm M s.2.2 ∧ (s.2.1 = 0 → zBest P (n : Int) lf (eT E) s.1 (s.2.2 125)) ∧ (s.2.1 = 1 → (∀ p, p < P → s.2.2 123 p = lf p) ∧ zWay P (n : Int) (s.2.2 124) ∧ -1 ≤ s.1 ∧ s.1 ≤ 1000000 ∧ zSo P (n : Int) lf (eT E) s.1 (s.2.2 125) (s.2.2 124))) (fun s => if s.2.1 = 0 then 0 else zPl P (n : Int) (s.2.2 124) + 1) ?_ zfu (-1, 1, M) ?_ ?_
  · rintro ⟨v, g, A⟩ ⟨hg, hq, hg0, hg1⟩
    dsimp only at *
    have e80 : A 80 0 = (P : Int) := by rw [hq.1 80 (by omega) (by omega)]; exact h80
    rw [gb_X11_ship_132]
    rcases hg with rfl | rfl
    · exact zO_brp (by omega) (by omega) (by omega) (zO_inr ⟨hq, hg0 rfl⟩)
    · obtain ⟨k1, k2, k3, k4, k5⟩ := hg1 rfl
      clear hg0 hg1
      have b6 : ∀ q, q < P → 0 ≤ A 124 q ∧ A 124 q ≤ 6 := fun q hq' => ⟨k2.1 q hq', by have := zWay_le k2 hq'; omega⟩
      have hv := zVal_i (lf := lf) (w := A 124) hct P (fun q hq' => ⟨hl q hq', b6 q hq'⟩)
      have hlv : g_X11_leaves (zKn i) (eT E) A = some (zVal lf (eT E) (A 124) P) := by
        have h := g11_leaves (k := zKn i) (M := A) (lf := lf) (w := fun p => (A 124 p).toNat) e80 hP hct (fun p hp => ⟨hl p hp, by have := b6 p hp; omega⟩) k1 (fun p hp => by have := b6 p hp; omega)
        rw [h, zVal_c (w' := A 124) P (fun p hp => by have := b6 p hp; omega)]
      refine zO_brn (by omega) (by omega) (by omega) (zO_b1e (hs.qm hq).cat (zO_b1e hlv ?_))
      generalize hV : zVal lf (eT E) (A 124) P = V at *
      -- what follows when the best is known
      have goon : ∀ (B : zM) (v' : Int), zQm A B → (∀ q, q ≠ 125 → B q = A q) → 0 ≤ v' → v' ≤ 1000000 → zSx P (n : Int) lf (eT E) v' (B 125) (A 124) → zO (g_X11_goesOn (zKn i) B) (fun r => (fun s : Int × Int × zM => ((s.2.1 = 0 ∨ s.2.1 = 1) ∧ zQm M s.2.2 ∧ (s.2.1 = 0 → zBest P (n : Int) lf (eT E) s.1 (s.2.2 125)) ∧ (s.2.1 = 1 → (∀ p, p < P → s.2.2 123 p = lf p) ∧ zWay P (n : Int) (s.2.2 124) ∧ -1 ≤ s.1 ∧ s.1 ≤ 1000000 ∧ zSo P (n : Int) lf (eT E) s.1 (s.2.2 125) (s.2.2 124))) ∧ (if s.2.1 = 0 then 0 else zPl P (n : Int) (s.2.2 124) + 1) < zPl P (n : Int) (A 124) + 1) (v', r.2, r.1)) := by
        intro B v' qB fB v0 v1 hx
        have h := g11_goesOn (i := i) (M := B) (n := (n : Int)) hP hP' (by rw [fB 80 (by decide)]; exact e80) (by omega) (by rw [fB 124 (by decide)]; exact k2)
        rw [fB 124 (by decide)] at h
        refine zO_mono h ?_
        rintro ⟨C, g⟩ hC
        dsimp only at *
        rcases hC with ⟨rfl, rfl, hC⟩ | ⟨rfl, c1, c2, c3, c4⟩
        · exact ⟨⟨Or.inl rfl, hq.tr qB, fun _ => zSx_last hx hC, fun h => absurd h (by omega)⟩, by rw [if_pos rfl]; omega⟩
        · refine ⟨⟨Or.inr rfl, (hq.tr qB).tr (zQm.of c1 (by decide)), fun h => absurd h (by omega), fun _ => ⟨fun p hp => by rw [c1 123 (by decide), fB 123 (by decide)]; exact k1 p hp, c2, by omega, v1, ?_⟩⟩, ?_⟩
          · rw [c1 125 (by decide)]
            exact zSx_next hx c3 c4
          · rw [if_neg (by omega)]
            have := zPl_lex k2 c2 c3
            omega
      -- the way in hand is the best so far
      have keep : v < 0 ∨ V < v → zO (zb1 (zw2 (gb_X11_ship_169 (zKn i) p3 V) zfu 0 A) (fun M24 => zbd (g_X11_goesOn (zKn i) M24) (fun M26 v25 => some (Sum.inl (V, v25, M26))))) (zEl (fun s' : Int × Int × zM => ((s'.2.1 = 0 ∨ s'.2.1 = 1) ∧ zQm M s'.2.2 ∧ (s'.2.1 = 0 → zBest P (n : Int) lf (eT E) s'.1 (s'.2.2 125)) ∧ (s'.2.1 = 1 → (∀ p, p < P → s'.2.2 123 p = lf p) ∧ zWay P (n : Int) (s'.2.2 124) ∧ -1 ≤ s'.1 ∧ s'.1 ≤ 1000000 ∧ zSo P (n : Int) lf (eT E) s'.1 (s'.2.2 125) (s'.2.2 124))) ∧ (if s'.2.1 = 0 then 0 else zPl P (n : Int) (s'.2.2 124) + 1) < (if (1 : Int) = 0 then 0 else zPl P (n : Int) (A 124) + 1)) (fun r : Int × zM => zQm M r.2 ∧ zBest P (n : Int) lf (eT E) r.1 (r.2 125))) := by
        intro hlt
        refine zO_b1q (r11_keep e80 hP) ?_
        rintro B ⟨b1, b2⟩
        have hx := zSx_new (b' := B 125) k5 k2 (by rw [hV]; exact hv.1) (by rw [hV]; exact hlt) b2
        rw [hV] at hx
        refine zO_bdq (goon B V (zQm.of b1 (by decide)) (fun q hq' => b1 q (by simp; exact hq')) hv.1 hv.2 hx) ?_
        intro C g hC
        exact zO_inl hC
      refine zO_sp1 (zO_bl ⟨by omega, by omega⟩ ⟨by omega, by omega⟩ (fun hc => zO_inl (keep (Or.inl hc))) (fun hc => zO_bl ⟨by omega, by omega⟩ ⟨by omega, by omega⟩ (fun hc' => ?_) (fun hc' => zO_inl (keep (Or.inr (by omega))))))
      refine zO_bdq (goon A v zQm.rf (fun _ _ => rfl) (by omega) k4 (zSx_old k5 (by omega) (by rw [hV]; exact hc'))) ?_
      intro C g hC
      exact zO_inr (show zO _ _ from zO_inl hC)
  · dsimp only
    refine ⟨Or.inr rfl, zQm.rf, fun h => absurd h (by omega), fun _ => ⟨h123, ⟨fun p hp => ?_, ?_⟩, by omega, by omega, Or.inl ⟨rfl, ?_⟩⟩⟩
    · rw [h124 p hp]; split <;> omega
    · rw [zsum_congr h124]
      exact zsum_one (c := 0) (by omega)
    · rintro w hw ⟨p, a1, a2, a3⟩
      rw [h124 p a1] at a3
      by_cases e : p = 0
      · subst e
        rw [if_pos rfl] at a3
        have := zWay_le hw a1
        omega
      · rw [if_neg e] at a3
        have e0 := a2 0 (by omega)
        rw [h124 0 (by omega), if_pos rfl] at e0
        have h0 := zWay_z hw (m := 1) (by omega) (by show 0 + w 0 = _; omega) p (by omega) a1
        omega
  · dsimp only
    rw [if_neg (by omega)]
    have hw : zWay P (n : Int) (M 124) := ⟨fun p hp => by rw [h124 p hp]; split <;> omega, by rw [zsum_congr h124]; exact zsum_one (c := 0) (by omega)⟩
    have := zPl_b hw hP (by omega)
    unfold zfu
    omega

/-! law: the class reads a LAW -/
theorem b_body {b : Nat → Int} {i n D c0 x : Nat} {r : Int} {M : zM} {R : List zRu} (hn : n ≤ 700) (hb : zBy b) (hD : zDr D) (hS : zCS b n D c0 x M) (hL : zCL D c0 M R) (hr : 0 ≤ r ∧ r ≤ 6) (hR : R.length < 40) : zO (zbr r 0 (¬ r = 0) (zbr r 5 (¬ r = 5) (zbr r 6 (¬ r = 6) (zbd (g_X6_readAsking (zKn i) r D M) (fun M9 v8 => some (v8, M9))) (zbd (g_X6_readCatch (zKn i) D M) (fun M11 v10 => some (v10, M11)))) (zbd (g_X6_readCarry (zKn i) D M) (fun M13 v12 => some (v12, M13)))) (zbd (g_X6_readSea (zKn i) D M) (fun M15 v14 => some (v14, M15)))) (fun u => zBr b n D M R (pBdy b n r x) (u.2, u.1)) := by
  unfold pBdy
  refine zO_br ⟨by omega, by omega⟩ (by omega) (fun c0' => ?_) (fun c0' => ?_)
  · rw [if_neg c0']
    refine zO_br ⟨by omega, by omega⟩ (by omega) (fun c5 => ?_) (fun c5 => ?_)
    · rw [if_neg c5]
      refine zO_br ⟨by omega, by omega⟩ (by omega) (fun c6 => ?_) (fun c6 => ?_)
      · rw [if_neg c6]
        exact zO_bdq (b_ask hn hb hD hS hL (by omega) hR) (fun A v h => zO_some h)
      · rw [if_pos (by omega)]
        exact zO_bdq (b_catch hn hb hD hS hL) (fun A v h => zO_some h)
    · rw [if_pos (by omega)]
      exact zO_bdq (b_carry hn hb hD hS hL) (fun A v h => zO_some h)
  · rw [if_pos (by omega)]
    exact zO_bdq (b_sea hn hb hD hS hL) (fun A v h => zO_some h)
def zLr (b : Nat → Int) (n D : Nat) (M0 : zM) (B : List zRu ⊕ Nat) (u : zM ⊕ (zM × Int)) : Prop := match B with
  | .inl R => ∃ M' c1, u = .inl M' ∧ zFd D M0 M' ∧ M' 2 5 = 0 ∧ zCL D c1 M' R ∧ M' D 0 = (R.length : Int) ∧ R.length ≤ 40 ∧ c1 ≤ 700
  | .inr e => e ≤ n ∧ ((∃ M', u = .inl M' ∧ zFd D M0 M' ∧ zTc b n e M' ∧ yK b n e ≠ 0) ∨ ∃ M', u = .inr (M', (yA b n e : Int)) ∧ zFd D M0 M')
theorem c_read {b : Nat → Int} {i n D : Nat} (hn : n ≤ 700) (hb : zBy b) (hD : zDr D) (M0 : zM) : ∀ f x R c0 M F, f + R.length = 40 → f < F → zCS b n D c0 x M → zCL D c0 M R → M D 0 = (R.length : Int) → zFd D M0 M → zO (zwh (fun t : Int × zM => gb_X6_read_20 (zKn i) D t.1 t.2) F ((40 : Int) - (f : Int), M)) (zLr b n D M0 (pLaw b n f x R)) := by
  intro f
  induction f with
  | zero =>
    intro x R c0 M F h1 hF hS hL h0 hfr
    obtain ⟨F, rfl⟩ : ∃ g, F = g + 1 := ⟨F - 1, by omega⟩
    refine zO_wh1 ?_
    show zO (gb_X6_read_20 (zKn i) D (40 - ((0 : Nat) : Int)) M) _
    rw [gb_X6_read_20]
    refine zO_brp ⟨by omega, by omega⟩ ⟨by omega, by omega⟩ (by omega) (zO_some ?_)
    show zLr b n D M0 (if yK b n x = 0 then _ else _) _
    by_cases k : yK b n x = 0
    · rw [if_pos k]
      exact ⟨M, c0, rfl, hfr, by rw [hS.2.2.1.2.2.1]; exact k, hL, h0, by omega, by have := hS.2.2.2.2; omega⟩
    · rw [if_neg k]
      exact ⟨hS.2.2.2.2.2, Or.inl ⟨M, rfl, hfr, hS.2.2.1, k⟩⟩
  | succ f ih =>
    intro x R c0 M F h1 hF hS hL h0 hfr
    obtain ⟨F, rfl⟩ : ∃ g, F = g + 1 := ⟨F - 1, by omega⟩
    refine zO_wh1 ?_
    show zO (gb_X6_read_20 (zKn i) D (40 - ((f + 1 : Nat) : Int)) M) _
    rw [gb_X6_read_20, hS.2.2.1.2.2.1]
    have hk := yK_r (b := b) (n := n) (x := x)
    have hw := g6_ruleWord (i := i) (M := M) hn hS.2.2.2.2.2 (by rw [hS.1]; exact hb) (by rw [hS.1]; exact hS.2.2.1)
    rw [hS.1] at hw
    have hr := yRule_r (b := b) (n := n) (x := x)
    have hE := yE_r (b := b) hS.2.2.2.2.2
    refine zO_brn ⟨by omega, by omega⟩ ⟨by omega, by omega⟩ (by omega) ?_
    have unf : pLaw b n (f + 1) x R = if yK b n x = 0 then .inl R else match pRul b n x with
      | .inl q => pLaw b n f q.2 (q.1 :: R)
      | .inr e => .inr e := rfl
    rw [unf]
    by_cases k : yK b n x = 0
    · rw [if_pos k]
      exact zO_brp ⟨by omega, by omega⟩ ⟨by omega, by omega⟩ k (zO_some ⟨M, c0, rfl, hfr, by rw [hS.2.2.1.2.2.1]; exact k, hL, h0, by omega, by have := hS.2.2.2.2; omega⟩)
    · rw [if_neg k]
      refine zO_brn ⟨by omega, by omega⟩ ⟨by omega, by omega⟩ k (zO_b1e hw ?_)
      unfold pRul
      by_cases c : yRule b n x = -1
      · rw [if_pos c]
        refine zO_brn ⟨by omega, by omega⟩ ⟨by omega, by omega⟩ (by omega) (zO_some ?_)
        exact ⟨hS.2.2.2.2.2, Or.inr ⟨M, by rw [hS.2.2.1.1], hfr⟩⟩
      · rw [if_neg c]
        refine zO_brp ⟨by omega, by omega⟩ ⟨by omega, by omega⟩ c (zO_b1q (g6_stepS hn hb hD hS) ?_)
        rintro A ⟨f5, _, _, s5⟩
        refine zO_b2 (zO_mono (b_body hn hb hD s5 (hL.fc hD f5 (Nat.le_refl _)) (by omega) (by omega)) ?_)
        rintro ⟨v, B⟩ ⟨g1, g2, g3⟩
        dsimp only at g1 g2 g3 ⊢
        have fr := hfr.tr (f5.fd.1.tr g1)
        have d0 : B D 0 = (R.length : Int) := by rw [g2, f5.fd.2]; exact h0
        cases ho : pBdy b n (yRule b n x) (yE b n x) with
        | inr e =>
          rw [ho] at g3
          obtain ⟨g4, g5, g6⟩ := g3
          subst g4
          exact zO_brp (by omega) (by omega) (by omega) (zO_some ⟨g6, Or.inr ⟨B, by rw [g5.1], fr⟩⟩)
        | inl q =>
          rw [ho] at g3
          obtain ⟨g4, c1, s6, L6⟩ := g3
          subst g4
          have hs2 := g6_isSign (i := i) (c := 59) (M := B) hn s6.2.2.2.2.2 (by rw [s6.1]; exact hb) (by rw [s6.1]; exact s6.2.2.1) (by decide)
          rw [s6.1] at hs2
          refine zO_brn (by omega) (by omega) (by omega) ?_
          unfold g_X6_takeSign
          dsimp only
          by_cases w : wS b n q.2 59
          · rw [if_pos w] at hs2 ⊢
            refine zO_bd (zO_b1e hs2 (zO_brp (by omega) (by omega) (by omega) (zO_b1q (g6_stepS hn hb hD s6) ?_)))
            rintro C ⟨f9, g9, _, s9⟩
            refine zO_some (show zO _ _ from zO_brp (by omega) (by omega) (by omega) (zO_lt (zO_lt (zO_some ?_))))
            have dD : C D = B D := g9 D (by rcases hD with rfl | rfl <;> decide)
            have L9 := L6.fc hD f9 (Nat.le_refl _)
            dsimp only
            rw [show (40 : Int) - ((f + 1 : Nat) : Int) + 1 = 40 - (f : Int) by omega, dD, d0]
            have e2 : ∀ q', q' ≠ D → zst C D 0 ((R.length : Int) + 1) q' = C q' := fun q' h => zst_ne h
            have fz : zFc D c1 C (zst C D 7 (C D 7)) := by rw [zst_id rfl]; exact zFc.rf
            refine ih (yE b n q.2) (q.1 :: R) c1 _ F (by rw [List.length_cons]; omega) (by omega) (s9.fr (e2 2 (by rcases hD with rfl | rfl <;> decide)) (e2 3 (by rcases hD with rfl | rfl <;> decide)) (zst_ns (by decide))) ?_ (by rw [zst_eq, List.length_cons]; omega) (fr.tr (f9.fd.1.tr ⟨fun q' a c => e2 q' (by omega), fun s _ => by rw [e2 2 (by rcases hD with rfl | rfl <;> decide)]⟩))
            obtain ⟨k1, k2, k3, k4, k5, k6, k7⟩ := L9
            refine ⟨by rw [zst_ns (by decide)]; exact k1, zAsk_c (Nat.le_refl _) _ k2 (fun q' j a c _ => by rw [e2 q' (by omega)]) (fun j _ => by rw [e2 _ (by omega)]), by rw [zst_ns (by decide)]; exact k3, fun h hh => by rw [e2 _ (by omega)]; exact k4 h hh, fun a ha => ?_, fun a ha => by rw [e2 _ (by omega)]; exact k6 a ha, fun r hr a ha he => by rw [e2 _ (by omega)]; exact k7 r hr a ha he⟩
            rw [e2 _ (by omega), e2 _ (by omega), e2 _ (by omega), e2 _ (by omega)]
            exact k5 a ha
          · rw [if_neg w] at hs2 ⊢
            exact zO_bd (zO_b1e hs2 (zO_brn (by omega) (by omega) (by omega) (zO_some (show zO _ _ from zO_brn (by omega) (by omega) (by omega) (zO_some ⟨s6.2.2.2.2.2, Or.inr ⟨B, by dsimp only; rw [s6.2.2.1.1], fr⟩⟩)))))
/-! its end: "sea" carried on, spans -/
def gL (R : List zRu) : Nat → Int × Int
  | 0 => (0, 0)
  | j + 1 => (rSe (j : Int) R).getD (gL R j)
def gP (e : Nat → Int) : Nat → Int
  | 0 => 0
  | j + 1 => if e j = 0 then gP e j else (j : Int)
theorem gP_r {e : Nat → Int} : ∀ j, 0 ≤ gP e j ∧ gP e j ≤ (j : Int) := by
  intro j
  induction j with
  | zero => exact ⟨Int.le_refl 0, Int.le_refl 0⟩
  | succ j ih =>
    show 0 ≤ (if e j = 0 then gP e j else (j : Int)) ∧ (if e j = 0 then gP e j else (j : Int)) ≤ _
    split <;> omega
theorem c_finish {i D c1 : Nat} {M : zM} {R : List zRu} (hD : zDr D) (hL : zCL D c1 M R) (hr : ∀ j, 0 ≤ (gL R j).1 ∧ (gL R j).1 ≤ 99 ∧ 0 ≤ (gL R j).2 ∧ (gL R j).2 ≤ 99) : zO (f_X3_finish (zKn i) D M) (fun M' => zFr [D + 6, D + 7, D + 10] M M' ∧ ∀ a : Nat, a < 100 → M' (D + 6) a = (gL R (a + 1)).1 ∧ M' (D + 7) a = (gL R (a + 1)).2 ∧ M' (D + 10) a = gP (M (D + 9)) (a + 1)) := by
  have z := zQL (i := i) hD
  obtain ⟨_, _, _, _, h5, h6, _⟩ := hL
  unfold f_X3_finish
  refine zO_b1 ?_
  unfold zw5
  refine zO_for (fun s => s.2.2.2.1) 100 (fun j s => s.1 = (gL R j).1 ∧ s.2.1 = (gL R j).2 ∧ s.2.2.1 = gP (M (D + 9)) j ∧ zFr [D + 6, D + 7, D + 10] M s.2.2.2.2 ∧ (∀ a, j ≤ a → s.2.2.2.2 (D + 6) a = M (D + 6) a ∧ s.2.2.2.2 (D + 7) a = M (D + 7) a) ∧ ∀ a : Nat, a < j → s.2.2.2.2 (D + 6) a = (gL R (a + 1)).1 ∧ s.2.2.2.2 (D + 7) a = (gL R (a + 1)).2 ∧ s.2.2.2.2 (D + 10) a = gP (M (D + 9)) (a + 1)) ?_ ?_ (by omega) 0 (by omega) rfl ⟨rfl, rfl, rfl, zFr_refl, fun a _ => ⟨rfl, rfl⟩, fun a h => absurd h (by omega)⟩
  · rintro j ⟨y1, y2, y3, y4, A⟩ hj hcnt ⟨e1, e2, e3, e4, e5, e6⟩
    dsimp only at *
    subst hcnt e1 e2 e3
    have hs := h5 j hj
    have he := h6 j hj
    have hg := hr j
    have hg1 := hr (j + 1)
    have hp := gP_r (e := M (D + 9)) j
    rw [fb_X3_finish_9, z.2.2.2.2.2.1, z.2.2.2.2.2.2.1, z.2.2.2.2.2.2.2.1, z.2.2.2.2.2.2.2.2.1, z.2.2.2.2.2.2.2.2.2.1]
    simp only [Int.toNat_natCast]
    refine zO_brn ⟨by omega, by omega⟩ ⟨by omega, by omega⟩ (by omega) (zO_gd (by omega) ?_)
    have hx : zO (zbr (A (D + 8) j) 0 (A (D + 8) j = 0) (some ((gL R j).1, (gL R j).2)) (zgd (0 ≤ (j : Int) ∧ (j : Int) < 100) (zlt (A (D + 6) j) (fun x1 => zgd (0 ≤ (j : Int) ∧ (j : Int) < 100) (zlt (A (D + 7) j) (fun x2 => some (x1, x2))))))) (fun u => u = gL R (j + 1)) := by
      rw [e4 (D + 8) (by simp), (e5 j (Nat.le_refl _)).1, (e5 j (Nat.le_refl _)).2]
      show zO _ (fun u => u = (rSe (j : Int) R).getD (gL R j))
      cases ho : rSe (j : Int) R with
      | none =>
        rw [hs.1 ho]
        exact zO_brp (by omega) (by omega) rfl (zO_some rfl)
      | some v =>
        obtain ⟨v1, v2, v3, _⟩ := hs.2 v ho
        rw [v1, v2, v3]
        exact zO_brn (by omega) (by omega) (by omega) (zO_gd (by omega) (zO_lt (zO_gd (by omega) (zO_lt (zO_some rfl)))))
    refine zO_b2 (zO_mono hx ?_)
    rintro u rfl
    refine zO_gd (by omega) (zO_lt (zO_gd (by omega) (zO_lt (zO_gd (by omega) ?_))))
    have e9 : zst (zst A (D + 6) j (gL R (j + 1)).1) (D + 7) j (gL R (j + 1)).2 (D + 9) j = M (D + 9) j := by rw [zst_ne (by omega), zst_ne (by omega), e4 (D + 9) (by simp)]
    have hr9 : zr (zst (zst A (D + 6) j (gL R (j + 1)).1) (D + 7) j (gL R (j + 1)).2 (D + 9) j) := by rw [e9]; omega
    refine zO_b1q (Q := fun v => v = gP (M (D + 9)) (j + 1)) ?_ ?_
    · show zO _ (fun u => u = if M (D + 9) j = 0 then gP (M (D + 9)) j else (j : Int))
      refine zO_br hr9 ⟨by omega, by omega⟩ (fun h => zO_some ?_) (fun h => zO_some ?_)
      · rw [e9] at h
        rw [if_pos h]
      · rw [e9] at h
        rw [if_neg h]
    rintro x7 rfl
    refine zO_gd (by omega) (zO_lt (zO_lt (zO_inl ⟨by dsimp only; omega, rfl, rfl, rfl, ?_, ?_, ?_⟩)))
    · exact ((e4.st (by simp)).st (by simp)).st (by simp)
    · intro a ha
      dsimp only
      rw [zst_ne (show D + 6 ≠ D + 10 by omega), zst_ne (show D + 6 ≠ D + 7 by omega), zst_ns (show a ≠ j by omega), zst_ne (show D + 7 ≠ D + 10 by omega), zst_ns (show a ≠ j by omega), zst_ne (show D + 7 ≠ D + 6 by omega)]
      exact e5 a (by omega)
    · intro a ha
      dsimp only
      by_cases e : a = j
      · subst e
        rw [zst_ne (show D + 6 ≠ D + 10 by omega), zst_ne (show D + 6 ≠ D + 7 by omega), zst_eq, zst_ne (show D + 7 ≠ D + 10 by omega), zst_eq, zst_eq]
        exact ⟨rfl, rfl, rfl⟩
      · rw [zst_ne (show D + 6 ≠ D + 10 by omega), zst_ne (show D + 6 ≠ D + 7 by omega), zst_ns e, zst_ne (show D + 7 ≠ D + 10 by omega), zst_ns e, zst_ne (show D + 7 ≠ D + 6 by omega), zst_ns e, zst_ne (show D + 10 ≠ D + 7 by omega), zst_ne (show D + 10 ≠ D + 6 by omega)]
        exact e6 a (by omega)
  · rintro ⟨y1, y2, y3, y4, A⟩ hcnt ⟨e1, e2, e3, e4, e5, e6⟩
    dsimp only at *
    subst hcnt
    rw [fb_X3_finish_9]
    exact zO_brp ⟨by omega, by omega⟩ ⟨by omega, by omega⟩ (by omega) (zO_inr (show zO _ _ from zO_some ⟨e4, e6⟩))

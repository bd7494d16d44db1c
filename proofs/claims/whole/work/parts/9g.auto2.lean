/-! law: the reference's condition, put together -/
theorem m_tst {b : Nat → Int} {i n W x : Nat} {M : zM} (hn : n ≤ 700) (hS : zMS b n W x M) : zO (g_X11_readTest (zKn i) M) (fun M' => zFm W M M' ∧ match pTst b n x with
  | .inl q => zMS b n (W + q.1.length) q.2 M' ∧ zMk M' W q.1 ∧ M' 109 = M 109 ∧ M' 110 = M 110 ∧ M' 76 45 = M 76 45
  | .inr e => zME b n e M') := by
  have r1 := yAsk_r (b := b) (n := n) (x := x)
  unfold g_X11_readTest pTst
  refine zO_b1e (m_word hS) ?_
  by_cases c1 : yAsk b n x = -1
  · rw [if_pos c1]
    refine zO_brn ⟨by omega, by omega⟩ ⟨by omega, by omega⟩ (by omega) (zO_b1q (m_errs hS) ?_)
    rintro A ⟨g1, _, g3, _⟩
    exact zO_some ⟨g1, g3⟩
  · rw [if_neg c1]
    refine zO_brp ⟨by omega, by omega⟩ ⟨by omega, by omega⟩ (by omega) (zO_b1q (m_next hn hS) ?_)
    rintro A ⟨a1, a2, a3, a4⟩
    have ht := yT_1 a4.2.2.2.1.2.2.1
    have w60 := ht.2.2.2.1 60 (by unfold ySg; omega)
    have w61 := ht.2.2.2.1 61 (by unfold ySg; omega)
    have w62 := ht.2.2.2.1 62 (by unfold ySg; omega)
    have hr := ht.2.2.2.2
    refine zO_lt (zO_sp1 ?_)
    have hE := yE_r (b := b) hS.2.2.2.2.2.2.2.2.2
    have hA := yA_r (b := b) hS.2.2.2.2.2.2.2.2.2
    have hE2 := yE_r (b := b) (n := n) (x := yE b n x) hE.2.1
    have hA2 := yA_r (b := b) (n := n) (x := yE b n x) hE.2.1
    by_cases c2 : ySig b n (yE b n x) = -1
    · rw [if_pos c2]
      have n60 : ¬ wS b n (yE b n x) 60 := fun h => by unfold ySig at c2; rw [if_pos h] at c2; omega
      have n62 : ¬ wS b n (yE b n x) 62 := fun h => by unfold ySig at c2; rw [if_neg n60, if_pos h] at c2; omega
      have n61 : ¬ wS b n (yE b n x) 61 := fun h => by unfold ySig at c2; rw [if_neg n60, if_neg n62, if_pos h] at c2; omega
      refine zO_brn ⟨by omega, by omega⟩ ⟨by omega, by omega⟩ (fun h => n60 (w60.1 h)) (zO_brn ⟨by omega, by omega⟩ ⟨by omega, by omega⟩ (fun h => n62 (w62.1 h)) (zO_brn ⟨by omega, by omega⟩ ⟨by omega, by omega⟩ (fun h => n61 (w61.1 h)) (zO_b1q (m_errs a4) ?_)))
      rintro B ⟨g1, _, g3, _⟩
      exact zO_inr (show zO _ _ from zO_some ⟨a1.tr g1 (Nat.le_refl _), g3⟩)
    · rw [if_neg c2]
      -- the sign is one of three
      have hsg : (A 76 39 = 60 ∧ ySig b n (yE b n x) = 0) ∨ (A 76 39 = 62 ∧ ySig b n (yE b n x) = 1) ∨ (A 76 39 = 61 ∧ ySig b n (yE b n x) = 2) := by
        unfold ySig at c2 ⊢
        by_cases d1 : wS b n (yE b n x) 60
        · rw [if_pos d1]; exact Or.inl ⟨w60.2 d1, rfl⟩
        · rw [if_neg d1] at c2 ⊢
          by_cases d2 : wS b n (yE b n x) 62
          · rw [if_pos d2]; exact Or.inr (Or.inl ⟨w62.2 d2, rfl⟩)
          · rw [if_neg d2] at c2 ⊢
            by_cases d3 : wS b n (yE b n x) 61
            · rw [if_pos d3]; exact Or.inr (Or.inr ⟨w61.2 d3, rfl⟩)
            · rw [if_neg d3] at c2; exact absurd rfl c2
      have hk2 := hE2.2.2.1 (by have := (ySig_r (b := b) (n := n) (x := yE b n x)).2.2 (by omega); omega)
      have hk1 := hE.2.2.1 (by have := r1.2.2 (by omega); omega)
      refine zO_mono (Q := fun u => u = Sum.inl A) ?_ ?_
      · rcases hsg with ⟨h, _⟩ | ⟨h, _⟩ | ⟨h, _⟩ <;> rw [h]
        · exact zO_brp (by omega) (by omega) (by omega) (zO_some rfl)
        · exact zO_brn (by omega) (by omega) (by omega) (zO_brp (by omega) (by omega) (by omega) (zO_some rfl))
        · exact zO_brn (by omega) (by omega) (by omega) (zO_brn (by omega) (by omega) (by omega) (zO_brp (by omega) (by omega) (by omega) (zO_some rfl)))
      rintro u rfl
      refine show zO _ _ from zO_b1q (m_next hn a4) ?_
      rintro B ⟨b1, b2, b3, b4⟩
      refine zO_bdq (m_num hn b4 (by omega) (by omega)) ?_
      rintro C v ⟨d1, d2, d3⟩
      dsimp only at d1 d2 d3
      have fr := a1.tr (b1.tr d1 (Nat.le_refl _)) (Nat.le_refl _)
      rcases d3 with ⟨w, rfl, s3, o3⟩ | ⟨w, rfl, e3, w3⟩
      · rw [if_pos w]
        have hE3 := yE_r (b := b) (n := n) (x := yE b n (yE b n x)) hE2.2.1
        have hA3 := yA_r (b := b) (n := n) (x := yE b n (yE b n x)) hE2.2.1
        have hk3 := hE3.2.2.1 (by have := w.1; omega)
        have hw := hS.2.2.2.2.2.2.2.2.1
        refine zO_b1q (m_step hn s3 (by omega)) ?_
        rintro D ⟨g1, g2, g3, g4, g5, g6, g7, g8, g9⟩
        refine zO_some ⟨fr.tr g1 (Nat.le_refl _), g2, ⟨⟨g6, g7, ?_, g9⟩, trivial⟩, ?_, ?_, ?_⟩
        · rw [g8]
          show _ = if (0 : Int) = 0 then _ else _
          rw [if_pos rfl]
          dsimp only
          rcases hsg with ⟨h, k⟩ | ⟨h, k⟩ | ⟨h, k⟩ <;> rw [h, k] <;> rfl
        · rw [g3, d2 109 (by decide), b2 109 (by decide), a2 109 (by decide)]
        · rw [g4, d2 110 (by decide), b2 110 (by decide), a2 110 (by decide)]
        · rw [g5, o3 45 (by omega), b3 45 (by omega), a3 45 (by omega)]
      · rw [if_neg w]
        -- something is written down still
        have hw9 := hS.2.2.2.2.2.2.2.2
        have hst : zO (g_X11_step (zKn i) 0 (yAsk b n x) (A 76 39) 0 C) (fun D => zFm W C D ∧ zME b n (yE b n (yE b n x)) D) := by
          unfold g_X11_step
          have n1 : ∀ (A : zM) q j v, q ≠ 76 → zst A q j v 76 28 = A 76 28 := fun A q j v e => by rw [zst_ne (fun g => e g.symm)]
          simp only [n1 _ 104 _ _ (by decide), n1 _ 105 _ _ (by decide), n1 _ 106 _ _ (by decide), n1 _ 107 _ _ (by decide), w3, zlt, Int.toNat_natCast]
          refine zO_gd (by omega) (zO_gd (by omega) (zO_gd (by omega) (zO_gd (by omega) (zO_some ?_))))
          have e6 : ∀ s, s ≠ 28 → zst (zst (zst (zst (zst C 104 W 0) 105 W (yAsk b n x)) 106 W (A 76 39)) 107 W 0) 76 28 ((W : Int) + 1) 76 s = C 76 s := fun s a => by rw [zst_ns a, zst_ne (by decide), zst_ne (by decide), zst_ne (by decide), zst_ne (by decide)]
          refine ⟨⟨((((zFr.st1 (by decide)).st (by decide)).st (by decide)).st (by decide)).st (by decide), fun s a c d e => e6 s a, fun q j a c d => ?_⟩, ?_, ?_, e3.2.2.1, by rw [e6 39 (by decide)]; exact e3.2.2.2⟩
          · rw [zst_ne (by omega), zst_r, if_neg (by omega), zst_r, if_neg (by omega), zst_r, if_neg (by omega), zst_r, if_neg (by omega)]
          · rw [e6 42 (by decide)]; exact e3.1
          · rw [e6 35 (by decide)]; exact e3.2.1
        refine zO_b1q hst ?_
        rintro D ⟨g1, g2⟩
        exact zO_some ⟨fr.tr g1 (Nat.le_refl _), g2⟩
/-- one row of the loop that reads conditions -/
theorem mO_tst {b : Nat → Int} {i n W x f : Nat} {P : zM → Prop} {M : zM} (hn : n ≤ 700) (hS : zMS b n W x M) (hw : ¬ wI b n x 10631) (hs : ¬ wS b n x 40) (hf : 1 ≤ f) (K : match pTst b n x with
  | .inl q => ∀ M', zFm W M M' → zMS b n (W + q.1.length) q.2 M' → zMk M' W q.1 → M' 109 = M 109 → M' 110 = M 110 → M' 76 45 = M 76 45 → mCL i P f 999999 zfu M'
  | .inr e => ∀ M', zFm W M M' → zME b n e M' → P M') : mOP i P (f + 1) 1 M := by
  refine zO_wh1 ?_
  show zO (gb_X11_readCondition_14 (zKn i) 1 M) _
  rw [gb_X11_readCondition_14, hS.2.2.2.2.1]
  have ht := yT_1 hS.2.2.2.1.2.2.1
  have w40 := ht.2.2.2.1 40 (by unfold ySg; omega)
  refine zO_brn (by omega) (by omega) (by omega) (zO_brn (by omega) (by omega) (by omega) (zO_b1e (m_is hS (by omega)) ?_))
  rw [if_neg hw]
  have hr := ht.2.2.2.2
  have body : zO (zbr (0 : Int) 0 (¬ (0 : Int) = 0) (some (Sum.inl ((1 : Int), M))) (zbr (M 76 39) 40 (¬ M 76 39 = 40) (zb1 (g_X11_readTest (zKn i) M) (fun M5 => zbr (M5 76 42) 0 (¬ M5 76 42 = 0) (some (.inr (.inl ((0 : Int), M5)))) (zbd (g_X11_closes (zKn i) M5) (fun M7 v6 => zbr v6 0 (v6 = 0) (some (.inr (.inl (0, M7)))) (some (.inr (.inl (1, M7)))))))) (some (.inl (1, M))))) (fun u => ∃ r : (Int × zM) ⊕ (zM ⊕ zM), u = .inr r ∧ zEl (fun s' : Int × zM => zO (zwh (fun t : Int × zM => gb_X11_readCondition_14 (zKn i) t.1 t.2) f s') (zQC i P)) (zQC i P) r) := by
    refine zO_brn (by omega) (by omega) (by omega) (zO_brp ⟨by omega, by omega⟩ ⟨by omega, by omega⟩ (fun h => hs (w40.1 h)) (zO_b1q (m_tst hn hS) ?_))
    rintro A ⟨a1, a2⟩
    obtain ⟨f, rfl⟩ : ∃ t, f = t + 1 := ⟨f - 1, by omega⟩
    cases ho : pTst b n x with
    | inr e =>
      rw [ho] at a2 K
      rw [show A 76 42 = 1 from a2.1]
      exact zO_brp (by omega) (by omega) (by omega) (zO_some ⟨_, rfl, mOP_0 (K A a1 a2)⟩)
    | inl q =>
      rw [ho] at a2 K
      obtain ⟨s1, k1, e1, e2, e3⟩ := a2
      rw [s1.2.2.2.2.1]
      refine zO_brn (by omega) (by omega) (by omega) (zO_bdq (mCL_cl s1.2.2.2.2.1 (K A a1 s1 k1 e1 e2 e3)) ?_)
      rintro B v (⟨h1, h2⟩ | ⟨h1, h2⟩)
      · dsimp only at h1 h2
        subst h1
        exact zO_brp (by omega) (by omega) (by omega) (zO_some ⟨_, rfl, h2⟩)
      · dsimp only at h1 h2
        subst h1
        exact zO_brn (by omega) (by omega) (by omega) (zO_some ⟨_, rfl, h2⟩)
  unfold zsp2
  refine zO_s1 (zO_mono body ?_)
  rintro u ⟨r, rfl, hr⟩
  exact show zO _ _ from zO_some hr
/-- "not" or "(": one more stands open -/
theorem mO_push {b : Nat → Int} {i n o W x f : Nat} {P : zM → Prop} {op jo : Nat → Int} {v : Int} {M : zM} (hn : n ≤ 700) (hS : zMS b n W x M) (hK : zSk o op jo M) (ho : o < 9) (hv : (wI b n x 10631 ∧ v = 1) ∨ (¬ wI b n x 10631 ∧ wS b n x 40 ∧ v = 2)) (K : ∀ M', zFm W M M' → zMS b n W (yE b n x) M' → zSk (o + 1) (zup op o v) (zup jo (o + 1) 0) M' → mOP i P f 1 M') : mOP i P (f + 1) 1 M := by
  refine zO_wh1 ?_
  show zO (gb_X11_readCondition_14 (zKn i) 1 M) _
  rw [gb_X11_readCondition_14, hS.2.2.2.2.1]
  have ht := yT_1 hS.2.2.2.1.2.2.1
  have w40 := ht.2.2.2.1 40 (by unfold ySg; omega)
  have hr := ht.2.2.2.2
  refine zO_brn (by omega) (by omega) (by omega) (zO_brn (by omega) (by omega) (by omega) (zO_b1e (m_is hS (by omega)) ?_))
  unfold zsp2
  have push : zO (zbr (M 76 45) 9 (¬ M 76 45 = 9) (zb1 (some v) (fun x10 => zgd (0 ≤ M 76 45 ∧ M 76 45 < 12) (zlt (zst M 109 (M 76 45).toNat (x10)) (fun M11 => zlt (zst M11 76 45 ((M11 76 45) + 1)) (fun M12 => zgd (0 ≤ M12 76 45 ∧ M12 76 45 < 12) (zlt (zst M12 110 (M12 76 45).toNat (0)) (fun M13 => zb1 (g_X11_next (zKn i) M13) (fun M14 => some (Sum.inl ((1 : Int), M14)))))))))) (some (.inr (.inl M)))) (zEl (fun s' : Int × zM => zO (zwh (fun t : Int × zM => gb_X11_readCondition_14 (zKn i) t.1 t.2) f s') (zQC i P)) (zQC i P)) := by
    rw [hK.1]
    simp only [Int.toNat_natCast]
    refine zO_brp ⟨by omega, by omega⟩ ⟨by omega, by omega⟩ (by omega) (zO_b1e rfl (zO_gd (by omega) (zO_lte (fun A eA => zO_lte (fun B eB => ?_)))))
    have b45 : B 76 45 = ((o + 1 : Nat) : Int) := by rw [eB, zst_eq, eA, zst_ne (by decide), hK.1]; omega
    rw [b45]
    simp only [Int.toNat_natCast]
    refine zO_gd (by omega) (zO_lte (fun C eC => ?_))
    have c45 : C 76 45 = ((o + 1 : Nat) : Int) := by rw [eC, zst_ne (by decide)]; exact b45
    have c109 : C 109 = zup (M 109) o v := by rw [eC, zst_ne (by decide), eB, zst_ne (by decide), eA, zst_s]
    have c110 : C 110 = zup (M 110) (o + 1) 0 := by rw [eC, zst_s, eB, zst_ne (by decide), eA, zst_ne (by decide)]
    have c76 : ∀ s, s ≠ 45 → C 76 s = M 76 s := fun s hs => by rw [eC, zst_ne (by decide), eB, zst_ns hs, eA, zst_ne (by decide)]
    have fC : zFr [76, 109, 110] M C := by rw [eC, eB, eA]; exact ((zFr.st1 (by decide)).st (by decide)).st (by decide)
    clear eA eB eC
    have sC : zMS b n W x C := hS.fr (fun q hq => fC q (by simp; omega)) (fun s hs => c76 s (by omega)) (by rw [c76 28 (by decide)]; exact hS.2.2.2.2.2.2.1) hS.2.2.2.2.2.2.2.1 hS.2.2.2.2.2.2.2.2.1
    refine zO_b1q (m_next hn sC) ?_
    rintro D ⟨d1, d2, d3, d4⟩
    refine zO_some (K D ((zFm.of fC (fun s a c d e => c76 s e)).tr d1 (Nat.le_refl _)) d4 ⟨?_, fun q hq => ?_, fun q hq => ?_⟩)
    · rw [d3 45 (by omega)]; exact c45
    · rw [d2 109 (by decide), c109]
      by_cases e : q = o
      · subst e; rw [zup_eq, zup_eq]
      · rw [zup_ne e, zup_ne e]; exact hK.2.1 q (by omega)
    · rw [d2 110 (by decide), c110]
      by_cases e : q = o + 1
      · subst e; rw [zup_eq, zup_eq]
      · rw [zup_ne e, zup_ne e]; exact hK.2.2 q (by omega)
  refine zO_s1 ?_
  rcases hv with ⟨hw, rfl⟩ | ⟨hw, hs, rfl⟩
  · rw [if_pos hw]
    refine zO_brp (by omega) (by omega) (by omega) (zO_some ?_)
    show zO (zbr (M 76 45) 9 _ (zb1 (zbr 1 0 _ _ _) _) _) _
    rw [show zbr (1 : Int) 0 ((1 : Int) = 0) (some (2 : Int)) (some (1 : Int)) = some 1 from zbr_n (by omega) (by omega) (by omega)]
    exact push
  · rw [if_neg hw]
    refine zO_brn (by omega) (by omega) (by omega) (zO_brn ⟨by omega, by omega⟩ ⟨by omega, by omega⟩ (fun h => h (w40.2 hs)) (zO_some ?_))
    show zO (zbr (M 76 45) 9 _ (zb1 (zbr 0 0 _ _ _) _) _) _
    rw [show zbr (0 : Int) 0 ((0 : Int) = 0) (some (2 : Int)) (some (1 : Int)) = some 2 from zbr_p (by omega) (by omega) rfl]
    exact push
/-- nine stand open already -/
theorem mO_nine {b : Nat → Int} {i n W x f : Nat} {P : zM → Prop} {op jo : Nat → Int} {M : zM} (hS : zMS b n W x M) (hK : zSk 9 op jo M) (hv : wI b n x 10631 ∨ wS b n x 40) (K : ∀ M', zFm W M M' → zME b n x M' → P M') : mOP i P (f + 1) 1 M := by
  refine zO_wh1 ?_
  show zO (gb_X11_readCondition_14 (zKn i) 1 M) _
  rw [gb_X11_readCondition_14, hS.2.2.2.2.1]
  have ht := yT_1 hS.2.2.2.1.2.2.1
  have w40 := ht.2.2.2.1 40 (by unfold ySg; omega)
  have hr := ht.2.2.2.2
  have bad : zO (zb1 (g_X11_errs (zKn i) M) (fun M16 => some M16)) P := by
    refine zO_b1q (m_errs hS) ?_
    rintro A ⟨g1, _, g3, _⟩
    exact zO_some (K A g1 g3)
  refine zO_brn (by omega) (by omega) (by omega) (zO_brn (by omega) (by omega) (by omega) (zO_b1e (m_is hS (by omega)) ?_))
  unfold zsp2
  refine zO_s1 ?_
  by_cases hw : wI b n x 10631
  · rw [if_pos hw]
    refine zO_brp (by omega) (by omega) (by omega) (zO_some ?_)
    have h45 : M 76 45 = 9 := hK.1
    exact zO_brn (c := ¬ M 76 45 = 9) ⟨by dsimp only; omega, by dsimp only; omega⟩ ⟨by omega, by omega⟩ (by omega) (zO_inr (show zO _ _ from bad))
  · rw [if_neg hw]
    have hs := hv.resolve_left hw
    refine zO_brn (by omega) (by omega) (by omega) (zO_brn ⟨by omega, by omega⟩ ⟨by omega, by omega⟩ (fun h => h (w40.2 hs)) (zO_some ?_))
    have h45 : M 76 45 = 9 := hK.1
    exact zO_brn (c := ¬ M 76 45 = 9) ⟨by dsimp only; omega, by dsimp only; omega⟩ ⟨by omega, by omega⟩ (by omega) (zO_inr (show zO _ _ from bad))

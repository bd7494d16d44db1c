/-! law: the class reads a condition whole -/
theorem f3_putStep' {i D c0 c1 : Nat} {v : Int} {M : zM} (hD : zDr D) (h : M D 7 = (c1 : Int)) (h0 : c0 ≤ c1) (h7 : c1 ≤ 700) : zO (f_X3_putStep (zKn i) D v M) (fun M' => zFc D c0 M M' ∧ (∀ s, M' 2 s = M 2 s) ∧ ∃ c2 : Nat, c0 ≤ c2 ∧ c2 ≤ 700 ∧ M' D 7 = (c2 : Int)) := by
  by_cases c : c1 < 700
  · refine zO_eq (f3_putStep hD h c) ⟨zFc.rf.tr (zFc_put (D := D) (c0 := c1)) h0, fun s => ?_, c1 + 1, by omega, by omega, ?_⟩
    · rw [zst_ne (show (2 : Nat) ≠ D by rcases hD with rfl | rfl <;> decide), zst_ne (show (2 : Nat) ≠ D + 5 by omega)]
    · rw [zst_eq]; omega
  · unfold f_X3_putStep
    rw [h]
    exact zO_brp ⟨by omega, by omega⟩ ⟨by omega, by omega⟩ (by omega) (zO_some ⟨zFc.rf, fun _ => rfl, c1, h0, h7, h⟩)
theorem c_one0 {b : Nat → Int} {i n D : Nat} {ra rl rn : Nat → Int → Nat → zM → Option (zM × Int)} (hn : n ≤ 700) (hb : zBy b) (hD : zDr D) : zCg i b n D 9 (fo_X6_readOne (zKn i) ra rl rn) (pOne b n 0) := by
  intro c0 x M hS
  have hw := g6_isWord (i := i) (j := 4) (M := M) hn hS.2.2.2.2.2 (by rw [hS.1]; exact hb) (by rw [hS.1]; exact hS.2.2.1) (by decide)
  have hs := g6_isSign (i := i) (c := 40) (M := M) hn hS.2.2.2.2.2 (by rw [hS.1]; exact hb) (by rw [hS.1]; exact hS.2.2.1) (by decide)
  rw [hS.1, show zhs 4 = 10631 by decide] at hw
  rw [hS.1] at hs
  have bad : zCr b n D c0 M (.inr x) (M, 0) := ⟨zFc.rf, rfl, hS.2.2.1, hS.2.2.2.2.2, c0, Nat.le_refl _, by have := hS.2.2.2.2; omega, hS.2.2.2.1⟩
  unfold fo_X6_readOne pOne
  simp only [e_X6_isWord, e_X6_isSign, e_X6_askedWord, e_X6_comparingSign, e_X6_step, e_X6_takeNumber, e_X6_takeSign]
  refine zO_b1e hw (zO_sp1 ?_)
  by_cases c : wI b n x 10631
  · rw [if_pos c, if_pos (Or.inl c)]
    exact zO_brp (by omega) (by omega) (by omega) (zO_inl (zO_brn (by omega) (by omega) (by omega) (zO_some bad)))
  · rw [if_neg c]
    refine zO_brn (by omega) (by omega) (by omega) (zO_b1e hs ?_)
    by_cases d : wS b n x 40
    · rw [if_pos d, if_pos (Or.inr d)]
      exact zO_brn (by omega) (by omega) (by omega) (zO_inl (zO_brn (by omega) (by omega) (by omega) (zO_some bad)))
    · rw [if_neg d, if_neg (fun h => h.elim c d)]
      refine zO_brp (by omega) (by omega) (by omega) (zO_mono (c_tst hn hb hD hS) ?_)
      rintro u ⟨r, rfl, hr⟩
      exact show zO _ _ from zO_some hr
theorem c_oneS {b : Nat → Int} {i n D m : Nat} {ra rl rn : Nat → Int → Nat → zM → Option (zM × Int)} (hn : n ≤ 700) (hb : zBy b) (hD : zDr D) (hm : m < 9) (h1 : zCg i b n D (9 - (m : Int)) rn (pOne b n m)) (h2 : zCg i b n D (9 - (m : Int)) ra (pAny b n (pOne b n m))) : zCg i b n D (9 - ((m + 1 : Nat) : Int)) (fo_X6_readOne (zKn i) ra rl rn) (pOne b n (m + 1)) := by
  intro c0 x M hS
  have hw := g6_isWord (i := i) (j := 4) (M := M) hn hS.2.2.2.2.2 (by rw [hS.1]; exact hb) (by rw [hS.1]; exact hS.2.2.1) (by decide)
  have hs := g6_isSign (i := i) (c := 40) (M := M) hn hS.2.2.2.2.2 (by rw [hS.1]; exact hb) (by rw [hS.1]; exact hS.2.2.1) (by decide)
  rw [hS.1, show zhs 4 = 10631 by decide] at hw
  rw [hS.1] at hs
  have hEn := yE_r (b := b) hS.2.2.2.2.2
  have hA := yA_r (b := b) hS.2.2.2.2.2
  have hx := hS.2.2.2.2.1
  have eo : (9 : Int) - ((m + 1 : Nat) : Int) + 1 = 9 - (m : Int) := by omega
  unfold fo_X6_readOne pOne
  simp only [e_X6_isWord, e_X6_isSign, e_X6_askedWord, e_X6_comparingSign, e_X6_step, e_X6_takeNumber, e_X6_takeSign, eo]
  refine zO_b1e hw (zO_sp1 ?_)
  by_cases c : wI b n x 10631
  · rw [if_pos c, if_pos c]
    have hk := hEn.2.2.1 (by have := c.1; omega)
    refine zO_brp (by omega) (by omega) (by omega) (zO_inl (zO_brp ⟨by omega, by omega⟩ (by omega) (by omega) ?_))
    refine zO_b1q (g6_stepS hn hb hD hS) ?_
    rintro M5 ⟨f5, _, _, s5⟩
    refine zO_brp (by omega) (by omega) (by omega) (zO_bdq (h1 _ _ _ s5) ?_)
    rintro M7 v6 ⟨hr1, hr2⟩
    dsimp only at hr1 hr2
    have fr := f5.tr hr1 (Nat.le_refl _)
    cases ho : pOne b n m (yE b n x) with
    | inl q =>
      rw [ho] at hr2
      obtain ⟨v1, s7, k7, e7⟩ := hr2
      subst v1
      have gd := (pOne_g m (yE b n x) hEn.2.1).1 q ho
      refine zO_b1e (f3_putStep hD s7.2.2.2.1 (by omega)) (zO_gd (Or.inr rfl) (zO_some ?_))
      have hlen : (q.1 ++ [((1 : Int), (0 : Int), (0 : Int), (0 : Int))]).length = q.1.length + 1 := by simp
      have sP := zCS_put (v := 3) hD s7 (by omega)
      refine ⟨fr.tr (zFc_put (D := D) (c0 := c0 + q.1.length)) (by omega), rfl, ?_, ?_, ?_⟩
      · dsimp only
        rw [hlen]
        exact sP
      · dsimp only
        rw [zCk_app, zst_ne (show D + 5 ≠ D by omega)]
        refine ⟨zCk_c q.1 c0 k7 (fun t a d => ?_), zst_eq, trivial⟩
        rw [zst_ns (by omega)]
      · intro a ha he
        dsimp only at he ⊢
        rw [zst_ne (show D + 9 ≠ D by omega), zst_ne (show D + 9 ≠ D + 5 by omega)]
        rw [zEd_app] at he
        rcases he with he | he
        · exact e7 a ha he
        · rw [zEd_1] at he
          exact absurd he.1 (by decide)
    | inr e =>
      rw [ho] at hr2
      obtain ⟨v1, t7, e7, c1, d1, d2, d3⟩ := hr2
      subst v1
      refine zO_b1q (f3_putStep' (c0 := c0) hD d3 d1 d2) ?_
      rintro M8 ⟨g1, g2, c2, g3, g4, g5⟩
      refine zO_gd (Or.inl rfl) (zO_some ⟨fr.tr g1 (Nat.le_refl _), rfl, ?_, e7, c2, g3, g4, g5⟩)
      obtain ⟨t1, t2, t3, t4⟩ := t7
      exact show zTc b n e M8 from ⟨by rw [g2]; exact t1, by rw [g2]; exact t2, by rw [g2]; exact t3, by rw [g2]; exact t4⟩
  · rw [if_neg c, if_neg c]
    refine zO_brn (by omega) (by omega) (by omega) (zO_b1e hs ?_)
    by_cases d : wS b n x 40
    · rw [if_pos d, if_pos d]
      have hk := hEn.2.2.1 (by have := d.1; omega)
      refine zO_brn (by omega) (by omega) (by omega) (zO_inl (zO_brp ⟨by omega, by omega⟩ (by omega) (by omega) ?_))
      refine zO_b1q (g6_stepS hn hb hD hS) ?_
      rintro M5 ⟨f5, _, _, s5⟩
      refine zO_brn (by omega) (by omega) (by omega) (zO_bdq (h2 _ _ _ s5) ?_)
      rintro M7 v6 ⟨hr1, hr2⟩
      dsimp only at hr1 hr2
      have fr := f5.tr hr1 (Nat.le_refl _)
      cases ho : pAny b n (pOne b n m) (yE b n x) with
      | inl q =>
        rw [ho] at hr2
        obtain ⟨v1, s7, k7, e7⟩ := hr2
        subst v1
        have hs2 := g6_isSign (i := i) (c := 41) (M := M7) hn s7.2.2.2.2.2 (by rw [s7.1]; exact hb) (by rw [s7.1]; exact s7.2.2.1) (by decide)
        rw [s7.1] at hs2
        dsimp only
        refine zO_brn (by omega) (by omega) (by omega) ?_
        unfold g_X6_takeSign
        by_cases w : wS b n q.2 41
        · rw [if_pos w] at hs2 ⊢
          refine zO_bd (zO_b1e hs2 (zO_brp (by omega) (by omega) (by omega) (zO_b1q (g6_stepS hn hb hD s7) ?_)))
          rintro M9 ⟨f9, g9, _, s9⟩
          refine zO_some (show zO _ _ from zO_brn (by omega) (by omega) (by omega) (zO_some ⟨fr.tr f9 (by omega), rfl, s9, ?_, ?_⟩))
          · dsimp only
            rw [g9 (D + 5) (by rcases hD with rfl | rfl <;> decide)]
            exact k7
          · intro a ha he
            dsimp only
            rw [g9 (D + 9) (by rcases hD with rfl | rfl <;> decide)]
            exact e7 a ha he
        · rw [if_neg w] at hs2 ⊢
          refine zO_bd (zO_b1e hs2 (zO_brn (by omega) (by omega) (by omega) (zO_some (show zO _ _ from zO_brp (by omega) (by omega) (by omega) (zO_some ⟨fr, rfl, s7.2.2.1, s7.2.2.2.2.2, c0 + q.1.length, by omega, by have := s7.2.2.2.2; omega, s7.2.2.2.1⟩)))))
      | inr e =>
        rw [ho] at hr2
        obtain ⟨v1, r7⟩ := hr2
        subst v1
        exact zO_brp (by omega) (by omega) (by omega) (zO_some ⟨fr, rfl, r7⟩)
    · rw [if_neg d, if_neg d]
      refine zO_brp (by omega) (by omega) (by omega) (zO_mono (c_tst hn hb hD hS) ?_)
      rintro u ⟨r, rfl, hr⟩
      exact show zO _ _ from zO_some hr
theorem c_rd {b : Nat → Int} {i n D : Nat} (hn : n ≤ 700) (hb : zBy b) (hD : zDr D) : ∀ m : Nat, m ≤ 9 → (∀ f : Nat, 3 * m + 1 ≤ f → zCg i b n D (9 - (m : Int)) (fG_rd (zKn i) f).2.2 (pOne b n m)) ∧ (∀ f : Nat, 3 * m + 2 ≤ f → zCg i b n D (9 - (m : Int)) (fG_rd (zKn i) f).2.1 (pAll b n (pOne b n m))) ∧ ∀ f : Nat, 3 * m + 3 ≤ f → zCg i b n D (9 - (m : Int)) (fG_rd (zKn i) f).1 (pAny b n (pOne b n m)) := by
  intro m
  induction m with
  | zero =>
    intro _
    have h1 : ∀ f, 3 * 0 + 1 ≤ f → zCg i b n D (9 - ((0 : Nat) : Int)) (fG_rd (zKn i) f).2.2 (pOne b n 0) := by
      intro f hf
      obtain ⟨f, rfl⟩ : ∃ g, f = g + 1 := ⟨f - 1, by omega⟩
      exact c_one0 (rl := (fG_rd (zKn i) f).2.1) hn hb hD
    have h2 : ∀ f, 3 * 0 + 2 ≤ f → zCg i b n D (9 - ((0 : Nat) : Int)) (fG_rd (zKn i) f).2.1 (pAll b n (pOne b n 0)) := by
      intro f hf
      obtain ⟨f, rfl⟩ : ∃ g, f = g + 1 := ⟨f - 1, by omega⟩
      exact c_all hn hb hD (h1 f (by omega)) (pOne_g 0)
    refine ⟨h1, h2, ?_⟩
    intro f hf
    obtain ⟨f, rfl⟩ : ∃ g, f = g + 1 := ⟨f - 1, by omega⟩
    exact c_any hn hb hD (h2 f (by omega)) (pOne_g 0)
  | succ m ih =>
    intro hm
    obtain ⟨i1, _, i3⟩ := ih (by omega)
    have h1 : ∀ f, 3 * (m + 1) + 1 ≤ f → zCg i b n D (9 - ((m + 1 : Nat) : Int)) (fG_rd (zKn i) f).2.2 (pOne b n (m + 1)) := by
      intro f hf
      obtain ⟨f, rfl⟩ : ∃ g, f = g + 1 := ⟨f - 1, by omega⟩
      exact c_oneS (rl := (fG_rd (zKn i) f).2.1) hn hb hD (by omega) (i1 f (by omega)) (i3 f (by omega))
    have h2 : ∀ f, 3 * (m + 1) + 2 ≤ f → zCg i b n D (9 - ((m + 1 : Nat) : Int)) (fG_rd (zKn i) f).2.1 (pAll b n (pOne b n (m + 1))) := by
      intro f hf
      obtain ⟨f, rfl⟩ : ∃ g, f = g + 1 := ⟨f - 1, by omega⟩
      exact c_all hn hb hD (h1 f (by omega)) (pOne_g (m + 1))
    refine ⟨h1, h2, ?_⟩
    intro f hf
    obtain ⟨f, rfl⟩ : ∃ g, f = g + 1 := ⟨f - 1, by omega⟩
    exact c_any hn hb hD (h2 f (by omega)) (pOne_g (m + 1))
/-- a whole condition -/
def pCnd (b : Nat → Int) (n : Nat) : Nat → zPr := pAny b n (pOne b n 9)
theorem pCnd_g {b : Nat → Int} {n : Nat} : zGd b n (pCnd b n) := pSeq_g (pSeq_g (pOne_g 9))
theorem g6_readAny {b : Nat → Int} {i n D c0 x : Nat} {M : zM} (hn : n ≤ 700) (hb : zBy b) (hD : zDr D) (hS : zCS b n D c0 x M) : zO (g_X6_readAny (zKn i) 0 D M) (fun r => zCr b n D c0 M (pCnd b n x) r) := (c_rd hn hb hD 9 (by omega)).2.2 45 (by omega) c0 x M hS

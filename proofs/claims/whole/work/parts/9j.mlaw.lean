/-! law: the reference reads a LAW -/
/-- row t holds the rule r, its steps end by W -/
def zRo (M : zM) (W t : Nat) (r : zRu) : Prop := M 98 t = r.1 ∧ M 99 t = r.2.1 ∧ (r.1 = 0 → M 100 t = r.2.2.1 ∧ M 101 t = r.2.2.2.1) ∧ (r.1 = 5 → M 100 t = r.2.2.1) ∧ ∃ f : Nat, M 102 t = (f : Int) ∧ M 103 t = ((f + r.2.2.2.2.length : Nat) : Int) ∧ f + r.2.2.2.2.length ≤ W ∧ zMk M f r.2.2.2.2
def zRw (M : zM) (base W : Nat) : List zRu → Prop
  | [] => True
  | r :: R => zRo M W (base + R.length) r ∧ zRw M base W R
/-- the same from base on, its steps not ahead of 1000 -/
def zRh (M : zM) (W : Nat) : List zRu → Prop
  | [] => True
  | r :: R => (zRo M W (40 + R.length) r ∧ 1000 ≤ M 102 (40 + R.length)) ∧ zRh M W R
theorem zRh_c {M M' : zM} {W W' : Nat} (hw : W ≤ W') : ∀ R : List zRu, zRh M W R → (∀ q j, 98 ≤ q → q ≤ 103 → j < 40 + R.length → M' q j = M q j) → (∀ q j, 104 ≤ q → q ≤ 107 → j < W → M' q j = M q j) → zRh M' W' R := by
  intro R
  induction R with
  | nil => intro _ _ _; exact trivial
  | cons r R ih =>
    rintro ⟨⟨⟨h1, h2, h3, h4, f, h5, h6, h7, h8⟩, h9⟩, h10⟩ e1 e2
    rw [List.length_cons] at e1
    refine ⟨⟨?_, by rw [e1 102 _ (by omega) (by omega) (by omega)]; exact h9⟩, ih h10 (fun q j a b c => e1 q j a b (by omega)) e2⟩
    unfold zRo
    rw [e1 98 _ (by omega) (by omega) (by omega), e1 99 _ (by omega) (by omega) (by omega), e1 100 _ (by omega) (by omega) (by omega), e1 101 _ (by omega) (by omega) (by omega), e1 102 _ (by omega) (by omega) (by omega), e1 103 _ (by omega) (by omega) (by omega)]
    exact ⟨h1, h2, h3, h4, f, h5, h6, by omega, zMk_c _ _ h8 (fun q t x y u v => e2 q t x y (by omega))⟩
def zFn (M M' : zM) : Prop := zFr [76, 97, 98, 99, 100, 101, 102, 103, 104, 105, 106, 107, 109, 110] M M' ∧ (∀ s, s ≠ 28 → s ≠ 35 → (s < 37 ∨ 42 < s) → s ≠ 45 → M' 76 s = M 76 s) ∧ ∀ q, 97 ≤ q → q ≤ 107 → ∀ j, j < zlo q → M' q j = M q j
theorem zFn.rf {M : zM} : zFn M M := ⟨zFr_refl, fun _ _ _ _ _ => rfl, fun _ _ _ _ _ => rfl⟩
theorem zFn.tr {M M' M'' : zM} (h : zFn M M') (h' : zFn M' M'') : zFn M M'' := ⟨h.1.tr h'.1, fun s a b c d => (h'.2.1 s a b c d).trans (h.2.1 s a b c d), fun q a b j c => (h'.2.2 q a b j c).trans (h.2.2 q a b j c)⟩
theorem zFo.fn {t W : Nat} {M M' : zM} (h : zFo t W M M') (ht : 40 ≤ t) (hW : 1000 ≤ W) : zFn M M' := by
  refine ⟨h.1.mono (by simp), h.2.1, fun q a b j c => ?_⟩
  unfold zlo at c
  by_cases q1 : q = 97
  · rw [h.1 q (by simp; omega)]
  · by_cases q2 : q ≤ 103
    · rw [if_neg q1, if_pos q2] at c
      by_cases q3 : 99 ≤ q ∧ q ≤ 101
      · exact h.2.2.2 q j q3.1 q3.2 (by omega)
      · rw [h.1 q (by simp; omega)]
    · rw [if_neg q1, if_neg q2] at c
      exact h.2.2.1 q j (by omega) b (by omega)
theorem zFm.fn {W : Nat} {M M' : zM} (h : zFm W M M') (hW : 1000 ≤ W) : zFn M M' := (h.fo (t := 40)).fn (Nat.le_refl _) hW
theorem m_readRule {b : Nat → Int} {i n W x : Nat} {M : zM} {R : List zRu} (hn : n ≤ 700) (hS : zMS b n W x M) (h97 : M 97 1 = (R.length : Int)) (hR : R.length ≤ 40) (hw : zRh M W R) : zO (g_X11_readRule (zKn i) M) (fun M' => zFn M M' ∧ match (if R.length = 40 then Sum.inr x else pRul b n x : zBd) with
  | .inl q => ∃ W', zMS b n W' q.2 M' ∧ M' 97 1 = ((R.length + 1 : Nat) : Int) ∧ zRh M' W' (q.1 :: R)
  | .inr e => zME b n e M') := by
  have hy := yRule_r (b := b) (n := n) (x := x)
  have hW := hS.2.2.2.2.2.2.2.1
  have hW2 := hS.2.2.2.2.2.2.2.2.1
  have hxn := hS.2.2.2.2.2.2.2.2.2
  unfold g_X11_readRule
  simp only [Int.toNat_one, h97]
  rw [show (40 : Int) + (R.length : Int) = ((40 + R.length : Nat) : Int) by omega]
  refine zO_gd (by omega) (zO_lt (zO_b1e (m_rule hS) (zO_sp1 ?_)))
  have bad : ∀ e, e = x → zO (zb1 (g_X11_errs (zKn i) M) (fun M29 => some M29)) (fun M' => zFn M M' ∧ zME b n e M') := by
    rintro e rfl
    refine zO_b1q (m_errs hS) ?_
    rintro A ⟨a1, _, a3, _⟩
    exact zO_some ⟨a1.fn hW, a3⟩
  unfold pRul
  by_cases c : yRule b n x = -1
  · refine zO_brp ⟨by omega, by omega⟩ ⟨by omega, by omega⟩ (by omega) (zO_inl ?_)
    rw [if_pos c]
    refine zO_mono (bad x rfl) ?_
    rintro A ⟨a1, a2⟩
    refine ⟨a1, ?_⟩
    rw [show (if R.length = 40 then (Sum.inr x : zBd) else Sum.inr x) = Sum.inr x by split <;> rfl]
    exact a2
  · refine zO_brn ⟨by omega, by omega⟩ ⟨by omega, by omega⟩ (by omega) (zO_gd (by omega) ?_)
    rw [if_neg c]
    by_cases c40 : R.length = 40
    · rw [if_pos c40]
      exact zO_brn ⟨by omega, by omega⟩ ⟨by omega, by omega⟩ (by omega) (zO_inl (bad x rfl))
    · rw [if_neg c40]
      refine zO_brp ⟨by omega, by omega⟩ ⟨by omega, by omega⟩ (by omega) (zO_b1q (m_next hn hS) ?_)
      rintro A ⟨a1, a2, _, a4⟩
      obtain ⟨t, ht⟩ : ∃ t, 40 + R.length = t := ⟨_, rfl⟩
      rw [ht]
      simp only [Int.toNat_natCast]
      refine zO_gd (by omega) (zO_lt (zO_gd (by omega) (zO_lt ?_)))
      have s6 := (a4.st (q := 98) (t := t) (v := yRule b n x) (by omega)).st (q := 102) (t := t) (v := zst A 98 t (yRule b n x) 76 28) (by omega)
      have e28 : zst A 98 t (yRule b n x) 76 28 = (W : Int) := by rw [zst_ne (by decide)]; exact a4.2.2.2.2.2.2.1
      rw [e28] at s6 ⊢
      have b98 : zst (zst A 98 t (yRule b n x)) 102 t (W : Int) 98 t = yRule b n x := by rw [zst_ne (by decide), zst_eq]
      have b102 : zst (zst A 98 t (yRule b n x)) 102 t (W : Int) 102 t = (W : Int) := zst_eq
      have fB : zFn M (zst (zst A 98 t (yRule b n x)) 102 t (W : Int)) := by
        refine (a1.fn hW).tr ⟨(zFr.st1 (by decide)).st (by decide), fun s _ _ _ _ => by rw [zst_ne (by decide), zst_ne (by decide)], fun q u v j w => ?_⟩
        unfold zlo at w
        by_cases q1 : q = 97
        · rw [zst_ne (by omega), zst_ne (by omega)]
        · by_cases q2 : q ≤ 103
          · rw [if_neg q1, if_pos q2] at w
            rw [zst_r, if_neg (by omega), zst_r, if_neg (by omega)]
          · rw [zst_ne (by omega), zst_ne (by omega)]
      have bl : ∀ q j, 98 ≤ q → q ≤ 103 → j < t → zst (zst A 98 t (yRule b n x)) 102 t (W : Int) q j = M q j := fun q j u v w => by rw [zst_r, if_neg (by omega), zst_r, if_neg (by omega), a2 q (by simp; omega)]
      have bc : ∀ q j, 104 ≤ q → q ≤ 107 → zst (zst A 98 t (yRule b n x)) 102 t (W : Int) q j = M q j := fun q j u v => by rw [zst_ne (by omega), zst_ne (by omega), a2 q (by simp; omega)]
      have b97 : zst (zst A 98 t (yRule b n x)) 102 t (W : Int) 97 1 = (R.length : Int) := by rw [zst_ne (by decide), zst_ne (by decide), a2 97 (by decide)]; exact h97
      generalize zst (zst A 98 t (yRule b n x)) 102 t (W : Int) = B at *
      have hbody := m_body (i := i) (t := t) hn (by omega) (r := yRule b n x) ⟨by omega, by omega⟩ s6
      simp only [Int.toNat_natCast] at hbody
      refine zO_b1q hbody ?_
      intro C hC
      obtain ⟨c1, c2⟩ := hC
      have d76 : ∀ s, zst C 103 t (C 76 28) 76 s = C 76 s := fun s => by rw [zst_ne (by decide)]
      have fC := fB.tr (c1.fn (by omega) hW)
      have fD : zFn M (zst C 103 t (C 76 28)) := by
        refine fC.tr ⟨zFr.st1 (by decide), fun s _ _ _ _ => d76 s, fun q u v j w => ?_⟩
        unfold zlo at w
        by_cases q1 : q = 97
        · rw [zst_ne (by omega)]
        · by_cases q2 : q ≤ 103
          · rw [if_neg q1, if_pos q2] at w
            rw [zst_r, if_neg (by omega)]
          · rw [zst_ne (by omega)]
      refine zO_gd (by omega) (zO_lt ?_)
      cases ho : pBdy b n (yRule b n x) (yE b n x) with
      | inr e =>
        rw [ho] at c2
        have e2 : zME b n e (zst C 103 t (C 76 28)) := c2.fr (fun s _ => d76 s)
        generalize zst C 103 t (C 76 28) = D at *
        refine zO_b1 ?_
        rw [e2.1]
        refine zO_brp (by omega) (by omega) (by omega) (zO_some ?_)
        rw [e2.1]
        exact zO_brn (by omega) (by omega) (by omega) (zO_inr (show zO _ _ from zO_some ⟨fD, e2⟩))
      | inl q =>
        rw [ho] at c2
        obtain ⟨k1, k2, k3, k4, k5, k6⟩ := c2
        have s7 : zMS b n (W + q.1.2.2.2.2.length) q.2 (zst C 103 t (C 76 28)) := k1.st (by omega)
        have d103 : zst C 103 t (C 76 28) 103 t = ((W + q.1.2.2.2.2.length : Nat) : Int) := by rw [zst_eq]; exact k1.2.2.2.2.2.2.1
        have d9 : ∀ q', q' ≠ 103 → zst C 103 t (C 76 28) q' = C q' := fun q' h => zst_ne h
        have d3n : ∀ j, j ≠ t → zst C 103 t (C 76 28) 103 j = C 103 j := fun j h => zst_ns h
        generalize zst C 103 t (C 76 28) = D at *
        have row : zRo D (W + q.1.2.2.2.2.length) t q.1 := by
          refine ⟨?_, ?_, ?_, ?_, W, ?_, d103, Nat.le_refl _, zMk_c _ _ k6 (fun q' t' u v _ _ => by rw [d9 q' (by omega)])⟩
          · rw [d9 98 (by decide), c1.1 98 (by decide), b98, k2]
          · rw [d9 99 (by decide)]; exact k3
          · intro h
            rw [d9 100 (by decide), d9 101 (by decide)]
            exact k4 (by rw [← k2]; exact h)
          · intro h
            rw [d9 100 (by decide)]
            exact k5 (by rw [← k2]; exact h)
          · rw [d9 102 (by decide), c1.1 102 (by decide)]; exact b102
        have d102 : D 102 t = (W : Int) := by rw [d9 102 (by decide), c1.1 102 (by decide)]; exact b102
        have rest : zRh D (W + q.1.2.2.2.2.length) R := by
          refine zRh_c (by omega) R hw (fun q' j u v w => ?_) (fun q' j u v w => ?_)
          · by_cases e3 : q' = 103
            · subst e3
              rw [d3n j (by omega), c1.1 103 (by decide)]
              exact bl 103 j (by omega) (by omega) (by omega)
            · rw [d9 q' e3]
              by_cases e4 : 99 ≤ q' ∧ q' ≤ 101
              · rw [c1.2.2.2 q' j e4.1 e4.2 (by omega)]
                exact bl q' j u v (by omega)
              · rw [c1.1 q' (by simp; omega)]
                exact bl q' j u v (by omega)
          · rw [d9 q' (by omega), c1.2.2.1 q' j u v w]
            exact bc q' j u v
        have hs9 := yT_1 s7.2.2.2.1.2.2.1
        have w59 := hs9.2.2.2.1 59 (by unfold ySg; omega)
        have hr9 := hs9.2.2.2.2
        refine zO_b1 ?_
        have s75 := s7.2.2.2.2.1
        rw [s75]
        refine zO_brn (by omega) (by omega) (by omega) ?_
        dsimp only
        by_cases w : wS b n q.2 59
        · rw [if_pos w]
          refine zO_brp ⟨by omega, by omega⟩ ⟨by omega, by omega⟩ (w59.2 w) (zO_some ?_)
          rw [s75]
          refine zO_brp (by omega) (by omega) rfl (zO_b1q (m_next hn s7) ?_)
          rintro E ⟨e1, e2, _, e4⟩
          have e97 : E 97 1 = (R.length : Int) := by rw [e2 97 (by decide), d9 97 (by decide), c1.1 97 (by decide)]; exact b97
          simp only [Int.toNat_one, e97]
          refine zO_gd (by omega) (zO_gd (by omega) (zO_lt (zO_inr (show zO _ _ from zO_some ⟨?_, W + q.1.2.2.2.2.length, ?_, ?_, ⟨?_, ?_⟩, ?_⟩))))
          · refine fD.tr ((e1.fn (by omega)).tr ⟨zFr.st1 (by decide), fun s _ _ _ _ => by rw [zst_ne (by decide)], fun q u v j w => ?_⟩)
            unfold zlo at w
            by_cases q1 : q = 97
            · rw [if_pos q1] at w
              rw [zst_r, if_neg (by omega)]
            · rw [zst_ne q1]
          · exact e4.st (by omega)
          · rw [zst_eq]; omega
          · rw [ht]
            obtain ⟨r1, r2, r3, r4, f, r5, r6, r7, r8⟩ := row
            unfold zRo
            have ee : ∀ q', q' ≠ 97 → q' ≠ 76 → zst E 97 1 ((R.length : Int) + 1) q' = D q' := fun q' h h' => by rw [zst_ne h, e2 q' (by simp; exact h')]
            rw [ee 98 (by decide) (by decide), ee 99 (by decide) (by decide), ee 100 (by decide) (by decide), ee 101 (by decide) (by decide), ee 102 (by decide) (by decide), ee 103 (by decide) (by decide)]
            exact ⟨r1, r2, r3, r4, f, r5, r6, r7, zMk_c _ _ r8 (fun q' t' u v _ _ => by rw [ee q' (by omega) (by omega)])⟩
          · rw [ht, zst_ne (by decide), e2 102 (by decide), d102]
            omega
          · refine zRh_c (Nat.le_refl _) R rest (fun q' j u v w => ?_) (fun q' j u v w => ?_)
            · rw [zst_ne (by omega), e2 q' (by simp; omega)]
            · rw [zst_ne (by omega), e2 q' (by simp; omega)]
        · rw [if_neg w]
          refine zO_brn ⟨by omega, by omega⟩ ⟨by omega, by omega⟩ (fun h => w (w59.1 h)) (zO_b1q (m_errs s7) ?_)
          rintro E ⟨e1, _, e3, _⟩
          refine zO_some ?_
          rw [e3.1]
          exact zO_brn (by omega) (by omega) (by omega) (zO_inr (show zO _ _ from zO_some ⟨fD.tr (e1.fn (by omega)), e3⟩))

/-! law: the reference's rules -/
theorem zME.fr {b : Nat → Int} {n e : Nat} {M M' : zM} (h : zME b n e M) (f : ∀ s, s = 35 ∨ s = 39 ∨ s = 42 → M' 76 s = M 76 s) : zME b n e M' := by
  unfold zME at *
  rw [f 42 (by omega), f 35 (by omega), f 39 (by omega)]
  exact h
theorem m_numE {b : Nat → Int} {i n e : Nat} {lo hi : Int} {M : zM} (h : zME b n e M) : g_X11_numeral (zKn i) lo hi M = some (M, 0) := by
  apply zO_get
  unfold g_X11_numeral
  rw [h.1]
  exact zO_lt (zO_brn (by omega) (by omega) (by omega) (zO_some rfl))
theorem m_isE {b : Nat → Int} {i n e : Nat} {w : Int} {M : zM} (h : zME b n e M) : g_X11_is (zKn i) w M = some 0 := by
  apply zO_get
  unfold g_X11_is
  rw [h.1]
  exact zO_brp (by omega) (by omega) (by omega) (zO_some rfl)
/-- what the body of a rule leaves -/
def zFo (t W : Nat) (M M' : zM) : Prop := zFr [76, 99, 100, 101, 104, 105, 106, 107, 109, 110] M M' ∧ (∀ s, s ≠ 28 → s ≠ 35 → (s < 37 ∨ 42 < s) → s ≠ 45 → M' 76 s = M 76 s) ∧ (∀ q j, 104 ≤ q → q ≤ 107 → j < W → M' q j = M q j) ∧ ∀ q j, 99 ≤ q → q ≤ 101 → j ≠ t → M' q j = M q j
theorem zFo.rf {t W : Nat} {M : zM} : zFo t W M M := ⟨zFr_refl, fun _ _ _ _ _ => rfl, fun _ _ _ _ _ => rfl, fun _ _ _ _ _ => rfl⟩
theorem zFo.tr {t W W' : Nat} {M M' M'' : zM} (h : zFo t W M M') (h' : zFo t W' M' M'') (hw : W ≤ W') : zFo t W M M'' := ⟨h.1.tr h'.1, fun s a b c d => (h'.2.1 s a b c d).trans (h.2.1 s a b c d), fun q j a b c => (h'.2.2.1 q j a b (by omega)).trans (h.2.2.1 q j a b c), fun q j a b c => (h'.2.2.2 q j a b c).trans (h.2.2.2 q j a b c)⟩
theorem zFm.fo {t W : Nat} {M M' : zM} (h : zFm W M M') : zFo t W M M' := ⟨h.1.mono (by simp), h.2.1, h.2.2, fun q j a b _ => by rw [h.1 q (by simp; omega)]⟩
theorem zFo.st {t W q : Nat} {v : Int} {M M' : zM} (h : zFo t W M M') (hq : 99 ≤ q ∧ q ≤ 101) : zFo t W M (zst M' q t v) := ⟨h.1.st (by simp; omega), fun s a b c d => by rw [zst_ne (by omega)]; exact h.2.1 s a b c d, fun q' j a b c => by rw [zst_ne (by omega)]; exact h.2.2.1 q' j a b c, fun q' j a b c => by rw [zst_r, if_neg (fun e => c e.2)]; exact h.2.2.2 q' j a b c⟩
theorem zMS.st {b : Nat → Int} {n W x q t : Nat} {v : Int} {M : zM} (h : zMS b n W x M) (hq : 97 ≤ q ∧ q ≤ 103) : zMS b n W x (zst M q t v) := h.fr (fun q' hq' => zst_ne (by omega)) (fun s _ => by rw [zst_ne (by omega)]) (by rw [zst_ne (by omega)]; exact h.2.2.2.2.2.2.1) h.2.2.2.2.2.2.2.1 h.2.2.2.2.2.2.2.2.1
theorem zME.st {b : Nat → Int} {n e q t : Nat} {v : Int} {M : zM} (h : zME b n e M) (hq : 97 ≤ q ∧ q ≤ 103) : zME b n e (zst M q t v) := h.fr (fun s _ => by rw [zst_ne (by omega)])
def zBo (b : Nat → Int) (n t W : Nat) (r : Int) (M : zM) (B : zBd) (A : zM) : Prop := zFo t W M A ∧ match B with
  | .inl q => zMS b n (W + q.1.2.2.2.2.length) q.2 A ∧ q.1.1 = r ∧ A 99 t = q.1.2.1 ∧ (r = 0 → A 100 t = q.1.2.2.1 ∧ A 101 t = q.1.2.2.2.1) ∧ (r = 5 → A 100 t = q.1.2.2.1) ∧ zMk A W q.1.2.2.2.2
  | .inr e => zME b n e A
theorem m_sea {b : Nat → Int} {i n W x t : Nat} {M : zM} (hn : n ≤ 700) (ht : t < 80) (hS : zMS b n W x M) : zO (g_X11_readSea (zKn i) (t : Int) M) (zBo b n t W 0 M (pSea b n x)) := by
  unfold g_X11_readSea pSea
  refine zO_bdq (m_num hn hS (by omega) (by omega)) ?_
  rintro A v ⟨a1, _, a3⟩
  dsimp only at a1 a3
  rw [Int.toNat_natCast]
  refine zO_gd (by omega) (zO_lt ?_)
  have fA : zFo t W M (zst A 99 t v) := a1.fo.st (by omega)
  rcases a3 with ⟨w1, rfl, s1, _⟩ | ⟨w1, rfl, e1, _⟩
  · rw [if_pos w1]
    have s1' := s1.st (q := 99) (t := t) (v := yV b n x) (by omega)
    have z9 : zst A 99 t (yV b n x) 99 t = yV b n x := zst_eq
    generalize zst A 99 t (yV b n x) = A' at *
    refine zO_bdq (m_num hn s1' (by omega) (by omega)) ?_
    rintro B v ⟨b1, b2, b3⟩
    dsimp only at b1 b2 b3
    have fB := fA.tr b1.fo (Nat.le_refl _)
    have z9B : B 99 t = yV b n x := by rw [b2 99 (by decide)]; exact z9
    refine zO_gd (by omega) (zO_lt (zO_gd (by omega) (zO_gd (by omega) (zO_lt ?_))))
    have fC : zFo t W M (zst (zst B 100 t v) 101 t (zst B 100 t v 100 t)) := (fB.st (by omega)).st (by omega)
    have c9 : zst (zst B 100 t v) 101 t (zst B 100 t v 100 t) 99 t = yV b n x := by rw [zst_ne (by decide), zst_ne (by decide)]; exact z9B
    have c100 : zst (zst B 100 t v) 101 t (zst B 100 t v 100 t) 100 t = v := by rw [zst_ne (by decide), zst_eq]
    have c101 : zst (zst B 100 t v) 101 t (zst B 100 t v 100 t) 101 t = v := by rw [zst_eq, zst_eq]
    rcases b3 with ⟨w2, rfl, s2, _⟩ | ⟨w2, rfl, e2, _⟩
    · rw [if_pos w2]
      have s2' := (s2.st (q := 100) (t := t) (v := yV b n (yE b n x)) (by omega)).st (q := 101) (t := t) (v := zst B 100 t (yV b n (yE b n x)) 100 t) (by omega)
      generalize zst (zst B 100 t (yV b n (yE b n x))) 101 t (zst B 100 t (yV b n (yE b n x)) 100 t) = C at *
      refine zO_b1e (m_is s2' (by omega)) ?_
      have r2 := w2.2
      by_cases w3 : wI b n (yE b n (yE b n x)) 555
      · rw [if_pos w3, if_pos w3]
        refine zO_brp (by omega) (by omega) (by omega) (zO_b1q (m_next hn s2') ?_)
        rintro D ⟨d1, d2, _, d4⟩
        have d100 : D 100 t = yV b n (yE b n x) := by rw [d2 100 (by decide)]; exact c100
        have d9 : D 99 t = yV b n x := by rw [d2 99 (by decide)]; exact c9
        rw [d100]
        refine zO_gd (by omega) (zO_bdq (m_num hn d4 ⟨by omega, by omega⟩ (by omega)) ?_)
        rintro E v ⟨e1, e2, e3⟩
        dsimp only at e1 e2 e3
        have fE := fC.tr (d1.fo.tr e1.fo (Nat.le_refl _)) (Nat.le_refl _)
        refine zO_gd (by omega) (zO_lt (zO_some ?_))
        rcases e3 with ⟨w4, rfl, s4, _⟩ | ⟨w4, rfl, e4, _⟩
        · rw [if_pos w4]
          refine ⟨fE.st (by omega), s4.st (by omega), rfl, ?_, fun _ => ⟨?_, zst_eq⟩, fun h => by omega, trivial⟩
          · rw [zst_ne (by decide), e2 99 (by decide)]; exact d9
          · rw [zst_ne (by decide), e2 100 (by decide)]; exact d100
        · rw [if_neg w4]
          exact ⟨fE.st (by omega), e4.st (by omega)⟩
      · rw [if_neg w3, if_neg w3]
        exact zO_brn (by omega) (by omega) (by omega) (zO_some ⟨fC, s2', rfl, c9, fun _ => ⟨c100, c101⟩, fun h => by omega, trivial⟩)
    · rw [if_neg w2]
      have e2' := (e2.st (q := 100) (t := t) (v := 0) (by omega)).st (q := 101) (t := t) (v := zst B 100 t 0 100 t) (by omega)
      exact zO_b1e (m_isE e2') (zO_brn (by omega) (by omega) (by omega) (zO_some ⟨fC, e2'⟩))
  · rw [if_neg w1]
    have e1' := e1.st (q := 99) (t := t) (v := 0) (by omega)
    refine zO_bde (m_numE e1') ?_
    have e2' := (e1'.st (q := 100) (t := t) (v := 0) (by omega)).st (q := 101) (t := t) (v := zst (zst A 99 t 0) 100 t 0 100 t) (by omega)
    exact zO_gd (by omega) (zO_lt (zO_gd (by omega) (zO_gd (by omega) (zO_lt (zO_b1e (m_isE e2') (zO_brn (by omega) (by omega) (by omega) (zO_some ⟨(fA.st (by omega)).st (by omega), e2'⟩)))))))
theorem m_body {b : Nat → Int} {i n W x t : Nat} {r : Int} {M : zM} (hn : n ≤ 700) (ht : t < 80) (hr : 0 ≤ r ∧ r ≤ 6) (hS : zMS b n W x M) : zO (zbr r 0 (¬ r = 0) (zbr r 5 (¬ r = 5) (zb1 (zbr r 4 (¬ r = 4) (zbr r 6 (¬ r = 6) (some (99)) (some (10))) (some (100))) (fun x7 => zbd (g_X11_numeral (zKn i) 0 x7 M) (fun M9 v8 => zgd (0 ≤ (t : Int) ∧ (t : Int) < 80) (zlt (zst M9 99 (t : Int).toNat (v8)) (fun M10 => zbr r 6 (r = 6) (some (M10)) (zb1 (g_X11_is (zKn i) 249 M10) (fun v11 => zbr v11 0 (v11 = 0) (some (M10)) (zb1 (g_X11_next (zKn i) M10) (fun M13 => zb1 (g_X11_readCondition (zKn i) M13) (fun M14 => some (M14))))))))))) (zbd (g_X11_howHere (zKn i) M) (fun M16 v15 => zgd (0 ≤ (t : Int) ∧ (t : Int) < 80) (zlt (zst M16 100 (t : Int).toNat (v15)) (fun M17 => zbd (g_X11_numeral (zKn i) 0 100 M17) (fun M19 v18 => zgd (0 ≤ (t : Int) ∧ (t : Int) < 80) (zlt (zst M19 99 (t : Int).toNat (v18)) (fun M20 => some (M20))))))))) (zb1 (g_X11_readSea (zKn i) (t : Int) M) (fun M21 => some (M21)))) (zBo b n t W r M (pBdy b n r x)) := by
  unfold pBdy
  rw [Int.toNat_natCast]
  refine zO_br ⟨by omega, by omega⟩ (by omega) (fun c0 => ?_) (fun c0 => ?_)
  · rw [if_neg c0]
    refine zO_br ⟨by omega, by omega⟩ (by omega) (fun c5 => ?_) (fun c5 => ?_)
    · rw [if_neg c5]
      -- numbers with conditions, and "catch"
      have hx7 : zO (zbr r 4 (¬ r = 4) (zbr r 6 (¬ r = 6) (some (99)) (some (10))) (some (100))) (fun v => v = if r = 6 then (10 : Int) else if r = 4 then 100 else 99) := by
        refine zO_br ⟨by omega, by omega⟩ (by omega) (fun h => zO_br ⟨by omega, by omega⟩ (by omega) (fun h' => zO_some ?_) (fun h' => zO_some ?_)) (fun h => zO_some ?_)
        · rw [if_neg h', if_neg h]
        · rw [if_pos (by omega)]
        · rw [if_neg (by omega), if_pos (by omega)]
      refine zO_b1q hx7 ?_
      rintro hi rfl
      by_cases c6 : r = 6
      · rw [if_pos c6, if_pos c6]
        unfold pCat
        refine zO_bdq (m_num hn hS (by omega) (by omega)) ?_
        rintro A v ⟨a1, _, a3⟩
        dsimp only at a1 a3
        refine zO_gd (by omega) (zO_lt (zO_brp ⟨by omega, by omega⟩ (by omega) c6 (zO_some ?_)))
        rcases a3 with ⟨w1, rfl, s1, _⟩ | ⟨w1, rfl, e1, _⟩
        · rw [if_pos w1]
          exact ⟨a1.fo.st (by omega), s1.st (by omega), c6.symm, zst_eq, fun h => by omega, fun h => by omega, trivial⟩
        · rw [if_neg w1]
          exact ⟨a1.fo.st (by omega), e1.st (by omega)⟩
      · rw [if_neg c6, if_neg c6]
        unfold pAsk
        have hhi : (if r = 4 then (100 : Int) else 99) = 100 ∨ (if r = 4 then (100 : Int) else 99) = 99 := by split <;> omega
        generalize (if r = 4 then (100 : Int) else 99) = hi at *
        refine zO_bdq (m_num hn hS (by omega) (by omega)) ?_
        rintro A v ⟨a1, _, a3⟩
        dsimp only at a1 a3
        refine zO_gd (by omega) (zO_lt (zO_brn ⟨by omega, by omega⟩ (by omega) c6 ?_))
        have fA : zFo t W M (zst A 99 t v) := a1.fo.st (by omega)
        have z9 : zst A 99 t v 99 t = v := zst_eq
        rcases a3 with ⟨w1, rfl, s1, _⟩ | ⟨w1, rfl, e1, _⟩
        · rw [if_pos w1]
          have s1' := s1.st (q := 99) (t := t) (v := yV b n x) (by omega)
          generalize zst A 99 t (yV b n x) = A' at *
          refine zO_b1e (m_is s1' (by omega)) ?_
          by_cases w2 : wI b n (yE b n x) 249
          · rw [if_pos w2, if_pos w2]
            refine zO_brn (by omega) (by omega) (by omega) (zO_b1q (m_next hn s1') ?_)
            rintro B ⟨b1, b2, _, b4⟩
            refine zO_b1q (m_cond hn b4) ?_
            rintro C ⟨c1, c2⟩
            refine zO_some ?_
            have fC := fA.tr (b1.fo.tr c1.fo (Nat.le_refl _)) (Nat.le_refl _)
            cases ho : pCnd b n (yE b n (yE b n x)) with
            | inr e =>
              rw [ho] at c2
              exact ⟨fC, c2⟩
            | inl q =>
              rw [ho] at c2
              exact ⟨fC, c2.1, rfl, by rw [c1.1 99 (by decide), b2 99 (by decide)]; exact z9, fun h => by omega, fun h => by omega, c2.2⟩
          · rw [if_neg w2, if_neg w2]
            exact zO_brp (by omega) (by omega) (by omega) (zO_some ⟨fA, s1', rfl, z9, fun h => by omega, fun h => by omega, trivial⟩)
        · rw [if_neg w1]
          have e1' := e1.st (q := 99) (t := t) (v := 0) (by omega)
          exact zO_b1e (m_isE e1') (zO_brp (by omega) (by omega) (by omega) (zO_some ⟨fA, e1'⟩))
    · have c5' : r = 5 := by omega
      rw [if_pos c5']
      unfold pCar
      refine zO_bdq (m_how hn hS) ?_
      rintro A v ⟨rfl, a1, _, a3⟩
      dsimp only at a1 a3
      have hy := yHow_r (b := b) (n := n) (x := x)
      refine zO_gd (by omega) (zO_lt ?_)
      have fA : zFo t W M (zst A 100 t (yHow b n x)) := a1.fo.st (by omega)
      rcases a3 with ⟨w1, s1, _⟩ | ⟨w1, e1⟩
      · rw [if_neg w1]
        have s1' := s1.st (q := 100) (t := t) (v := yHow b n x) (by omega)
        have z9 : zst A 100 t (yHow b n x) 100 t = yHow b n x := zst_eq
        generalize zst A 100 t (yHow b n x) = A' at *
        refine zO_bdq (m_num hn s1' (by omega) (by omega)) ?_
        rintro B v ⟨b1, b2, b3⟩
        dsimp only at b1 b2 b3
        have fB := fA.tr b1.fo (Nat.le_refl _)
        refine zO_gd (by omega) (zO_lt (zO_some ?_))
        rcases b3 with ⟨w2, rfl, s2, _⟩ | ⟨w2, rfl, e2, _⟩
        · rw [if_pos w2]
          refine ⟨fB.st (by omega), s2.st (by omega), c5'.symm, zst_eq, fun h => by omega, fun _ => ?_, trivial⟩
          rw [zst_ne (by decide), b2 100 (by decide)]
          exact z9
        · rw [if_neg w2]
          exact ⟨fB.st (by omega), e2.st (by omega)⟩
      · rw [if_pos w1]
        have e1' := e1.st (q := 100) (t := t) (v := yHow b n x) (by omega)
        exact zO_bde (m_numE e1') (zO_gd (by omega) (zO_lt (zO_some ⟨fA.st (by omega), e1'.st (by omega)⟩)))
  · have c0' : r = 0 := by omega
    rw [if_pos c0']
    refine zO_b1q (m_sea hn ht hS) ?_
    intro A h
    rw [c0']
    exact zO_some h

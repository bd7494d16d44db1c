/-! the class looks -/
theorem zSt.law {i L : Nat} {M : zM} {E : zE} (h : zSt i L M E) : (M 1 10).toNat = L ∧ ztag (zKn i) L = 4 ∧ L ≠ 0 ∧ (L = 52 ∨ L = 64) := by
  obtain ⟨aL, a10, _⟩ := h.2.1
  refine ⟨by rw [a10, Int.toNat_natCast], ?_, by omega, aL⟩
  rcases aL with rfl | rfl
  · exact zt_52
  · exact zt_64
theorem f3_both {i L : Nat} {M : zM} {E : zE} (h : zSt i L M E) {a : Nat} (ha : a < 100) : f_X3_bothLevels (zKn i) L (a : Int) M = some (eV E a) := by
  obtain ⟨q1, q2, q3, q4, q5, q6, q7, q8, q9, q10, q11⟩ := zQL (i := i) h.law.2.2.2
  have h5 := h.2.1.2.2.2.2.1 a ha
  unfold f_X3_bothLevels
  rw [zgd_p (by omega), zgd_p (by omega), q6, q7, Int.toNat_natCast, h5.1, h5.2.1]
  rfl
/-- the class's view of an AGE -/
def zVw (M : zM) (E : zE) (lv : Int) : Prop := zSe M E ∧ M 21 6 = lv ∧ 0 ≤ lv ∧ lv ≤ 198 ∧ zVC M lv
theorem zLi.fr {M M' : zM} {E : zE} (h : zLi M E) (h1 : M' 40 = M 40) (h2 : M' 41 = M 41) (h3 : zgm E M' = zgm E M) : zLi M' E := by
  unfold zLi zto zlv at *
  rw [h1, h2, h3]
  exact h
theorem zGC.fr {M M' : zM} {F : Int → (Nat → Int) → Int → Int} (h : zGC M F) (h1 : ∀ q, 25 ≤ q → q ≤ 32 → M' q = M q) (h2 : M' 5 = M 5) (h3 : M' 18 = M 18) : zGC M' F := by
  unfold zGC at *
  rw [h1 25 (by omega) (by omega), h1 26 (by omega) (by omega), h1 27 (by omega) (by omega), h1 28 (by omega) (by omega), h1 29 (by omega) (by omega), h1 30 (by omega) (by omega), h1 31 (by omega) (by omega), h1 32 (by omega) (by omega), h2, h3]
  exact h
theorem zVC.fr {M M' : zM} {lv : Int} (h : zVC M lv) (h1 : M' 22 = M 22) (h2 : M' 23 = M 23) (h3 : M' 28 = M 28) : zVC M' lv := by
  unfold zVC at *
  rw [h1, h2, h3]
  exact h
theorem zSe.fr {M M' : zM} {E : zE} (h : zSe M E) (h0 : M' 1 14 = M 1 14) (h1 : ∀ q, q = 5 ∨ q = 18 ∨ (21 ≤ q ∧ q ≤ 23) ∨ (25 ≤ q ∧ q ≤ 32) ∨ q = 35 ∨ q = 40 ∨ q = 41 → M' q = M q) : zSe M' E := by
  obtain ⟨a1, a2, a3, a4, a5⟩ := h
  refine ⟨by rw [h0]; exact a1, by rw [h1 35 (by omega)]; exact a2, a3.fr (fun q x y => h1 q (by omega)) (h1 5 (by omega)) (h1 18 (by omega)), ?_, a5.fr (h1 40 (by omega)) (h1 41 (by omega)) (by unfold zgm; rw [h1 5 (by omega), h1 18 (by omega)])⟩
  rw [h1 21 (by omega)]
  rcases a4 with a4 | ⟨b1, b2, b3⟩
  · exact Or.inl a4
  · exact Or.inr ⟨b1, b2, b3.fr (h1 22 (by omega)) (h1 23 (by omega)) (h1 28 (by omega))⟩
theorem zVw.fr {M M' : zM} {E : zE} {lv : Int} (h : zVw M E lv) (h0 : M' 1 14 = M 1 14) (h1 : ∀ q, q = 5 ∨ q = 18 ∨ (21 ≤ q ∧ q ≤ 23) ∨ (25 ≤ q ∧ q ≤ 32) ∨ q = 35 ∨ q = 40 ∨ q = 41 → M' q = M q) : zVw M' E lv := ⟨h.1.fr h0 h1, by rw [h1 21 (by omega)]; exact h.2.1, h.2.2.1, h.2.2.2.1, h.2.2.2.2.fr (h1 22 (by omega)) (h1 23 (by omega)) (h1 28 (by omega))⟩
theorem g8_turn' {i L : Nat} {M : zM} {E : zE} {lv : Int} (hs : zSt i L M E) (hc : zSe M E) (hl : 0 ≤ lv ∧ lv ≤ 198) : zO (g_X8_turnTo (zKn i) lv M) (fun M' => zQc M M' ∧ zFr [21, 22, 23, 36] M M' ∧ zVw M' E lv) := by
  refine zO_mono (g8_turn (hc.mid hs) hl hc.2.2.2.1) ?_
  rintro M' ⟨h1, h2, h3, h4⟩
  have hq : zQc M M' := zQc.of h1 (by decide)
  refine ⟨hq, h1, ⟨?_, ?_, ?_, ?_, ?_⟩, h3, hl.1, hl.2, h4⟩
  · rw [h1 1 (by decide)]; exact hc.1
  · rw [h1 35 (by decide)]; exact hc.2.1
  · exact hc.2.2.1.fr (fun q a b => h1 q (by simp; omega)) (h1 5 (by decide)) (h1 18 (by decide))
  · exact Or.inr (by rw [h3]; exact ⟨hl.1, hl.2, h4⟩)
  · exact hc.2.2.2.2.fr (h1 40 (by decide)) (h1 41 (by decide)) (zgm_qc hq)
theorem g10_view {i L : Nat} {M : zM} {E : zE} {a : Nat} (ha : a < 100) (hs : zSt i L M E) (hc : zCa M E) : zO (g_X10_viewAt (zKn i) (a : Int) M) (fun r => r.2 = 21 ∧ zQc M r.1 ∧ zVw r.1 E (eV E a) ∧ zFr [1, 21, 22, 23, 25, 26, 27, 28, 29, 30, 31, 32, 33, 34, 35, 36, 40] M r.1) := by
  unfold g_X10_viewAt
  refine zO_b1q (g10_settle hs hc) ?_
  rintro A ⟨qA, sA, fA⟩
  have hsA := hs.qc qA
  obtain ⟨l1, l2, l3, l4⟩ := hsA.law
  rw [l1]
  refine zO_gd ⟨l2, l3⟩ (zO_lt ?_)
  refine zO_b1e (f3_both hsA ha) ?_
  refine zO_b1q (g8_turn' hsA sA (eV_r hs.1 ha)) ?_
  rintro B ⟨qB, fB, vB⟩
  exact zO_some ⟨rfl, qA.tr qB, vB, (fA.mono (by decide)).tr (fB.mono (by decide))⟩
/-- facts of a view -/
theorem zVw.eq {M : zM} {E : zE} {lv : Int} (h : zVw M E lv) : zEqm (M 28) (zgm E M) := h.1.eq
theorem zVw.rw {M : zM} {E : zE} {lv : Int} (h : zVw M E lv) : ∀ x : Nat, x < 256 → M 30 x = sRiv (M 28) x ∧ M 31 x = sWind (M 28) x := fun x hx => ⟨(h.1.2.2.1 x hx).2.2.2.2.2.1, (h.1.2.2.1 x hx).2.2.2.2.2.2.1⟩
theorem zVw.land {M : zM} {E : zE} {lv : Int} (h : zVw M E lv) {c : Nat} (hc : c < 256) : M 22 c = sLand (zgm E M) lv c := by rw [(h.2.2.2.2 c hc).1, sLand_congr h.eq hc]
theorem zVw.coast {M : zM} {E : zE} {lv : Int} (h : zVw M E lv) {c : Nat} (hc : c < 256) : M 23 c = sCo (sSea (zgm E M) lv) c := by rw [(h.2.2.2.2 c hc).2, sCo_congr h.eq hc]
theorem zVw.ht {i L : Nat} {M : zM} {E : zE} {lv c : Int} (hs : zSt i L M E) (h : zVw M E lv) (hc : 0 ≤ c ∧ c < 256) : g_X8_heightOf (zKn i) c M = some (sHt (zgm E M) lv c.toNat) := by
  rw [g8_height hc (h.1.mid hs) h.2.1 ⟨h.2.2.1, h.2.2.2.1⟩ h.2.2.2.2]
  unfold sHt
  rw [h.eq _ (by omega)]
theorem zVw.ki {i L : Nat} {M : zM} {E : zE} {lv c : Int} (hs : zSt i L M E) (h : zVw M E lv) (hc : 0 ≤ c ∧ c < 256) : g_X8_kindOf (zKn i) c M = some (sKi (zgm E M) lv c.toNat) := by
  rw [g8_kind hc (h.1.mid hs) h.2.1 ⟨h.2.2.1, h.2.2.2.1⟩ h.2.2.2.2 h.rw, sKi_congr h.eq (by omega)]
/-- the words asked of a CELL, and the LAW's answer -/
theorem zVw.wo {i L : Nat} {M : zM} {E : zE} {lv c : Int} {a : Nat} (hs : zSt i L M E) (h : zVw M E lv) (hc : 0 ≤ c ∧ c < 256) (ha : a < 100) : zO (g_X8_wordsOf (zKn i) c (a : Int) M) (fun r => r.2 = 37 ∧ zFr [37] M r.1 ∧ zSt i L r.1 E ∧ zVw r.1 E lv ∧ zgm E r.1 = zgm E M ∧ ∀ kind other, (kind = 1 ∨ kind = 2 ∨ kind = 3 ∨ kind = 4) → f_X3_first (zKn i) L kind 37 other r.1 = some (eF E kind (sWo (zgm E M) lv a c.toNat) other)) := by
  refine zO_mono (g8_words hc (h.1.mid hs) h.2.1 ⟨h.2.2.1, h.2.2.2.1⟩ h.2.2.2.2 h.rw) ?_
  rintro ⟨M', v⟩ ⟨h1, h2, h3⟩
  dsimp only at *
  have q : zQc M M' := zQc.of h2 (by decide)
  refine ⟨h1, h2, hs.qc q, h.fr (by rw [h2 1 (by decide)]) (fun x hx => h2 x (by simp; omega)), zgm_qc q, ?_⟩
  intro kind other hk
  have hwc := sWo_congr h.eq (lv := lv) (age := a) (c := c.toNat) (by omega)
  have hL := hs.law.2.2.2
  rw [hs.2.1.2.2.2.1 37 kind other M' (Or.inr rfl) hk (h2 L (by simp; omega)) (fun x a b => h2 x (by simp; omega)) (fun j hj => by
    rw [h3 j hj, hwc]
    exact sWo_r hs.mid (by omega) h.2.2.1 ⟨by omega, by omega⟩)]
  rw [hs.1.1.1 kind _ (sWo (zgm E M) lv a c.toNat) other (fun j hj => by rw [h3 j hj, hwc])]
/-- a span's LIVE -/
theorem zo_i2b_id {v : Int} (h : 0 ≤ v ∧ v ≤ 99) : zo_i2b v = v := by
  unfold zo_i2b
  have e : ∀ n : Nat, n < 100 → ((Int32.ofInt (n : Int)).toInt8.toInt32).toInt = (n : Int) := by decide
  have := e v.toNat (by omega)
  rw [show ((v.toNat : Nat) : Int) = v by omega] at this
  exact this
theorem zVw_41 {M M' : zM} {E : zE} {lv : Int} {a : Nat} (h : zVw M E lv) (h40 : M 40 a = -1) (hf : zFr [37, 41] M M') (hx : ∀ x, (x < 256 * a ∨ 256 * a + 256 ≤ x) → M' 41 x = M 41 x) : zVw M' E lv := by
  obtain ⟨⟨a1, a2, a3, a4, a5⟩, b1, b2, b3, b4⟩ := h
  have hv : ∀ lv, zVC M lv → zVC M' lv := fun lv h => h.fr (hf 22 (by decide)) (hf 23 (by decide)) (hf 28 (by decide))
  refine ⟨⟨by rw [hf 1 (by decide)]; exact a1, by rw [hf 35 (by decide)]; exact a2, a3.fr (fun q x y => hf q (by simp; omega)) (hf 5 (by decide)) (hf 18 (by decide)), ?_, ?_⟩, by rw [hf 21 (by decide)]; exact b1, b2, b3, hv lv b4⟩
  · rw [hf 21 (by decide)]
    rcases a4 with a4 | ⟨c1, c2, c3⟩
    · exact Or.inl a4
    · exact Or.inr ⟨c1, c2, hv _ c3⟩
  · intro b hb
    rw [hf 40 (by decide)]
    by_cases e : b = a
    · subst e; exact Or.inl h40
    · have hg : zgm E M' = zgm E M := by unfold zgm; rw [hf 5 (by decide), hf 18 (by decide)]
      rcases a5 b hb with c | ⟨c1, c2⟩
      · exact Or.inl c
      · refine Or.inr ⟨?_, fun c hc => ?_⟩
        · rw [c1]; unfold zto zlv; rw [hg]
        · rw [hx _ (by omega), c2 c hc]; unfold zlv; rw [hg]
theorem g4_work {i L : Nat} {M : zM} {E : zE} {a : Nat} (hs : zSt i L M E) (h : zVw M E (eV E a)) (ha : a < 100) (h40 : M 40 a = -1) : zO (g_X4_workOut (zKn i) (a : Int) L M) (fun M' => zQc M M' ∧ zVw M' E (eV E a) ∧ M' 40 a = zto E M a ∧ zFr [37, 40, 41] M M') := by
  unfold g_X4_workOut
  refine zO_b2 ?_
  refine zO_mono (Q := fun r => r.1 = zto E M a ∧ zFr [37, 41] M r.2 ∧ (∀ c, c < 256 → r.2 41 (256 * a + c) = zlv E M a c) ∧ ∀ x, (x < 256 * a ∨ 256 * a + 256 ≤ x) → r.2 41 x = M 41 x) ?_ ?_
  · unfold zw3
    refine zO_for (fun s => s.2.1) 256 (fun j t => t.1 = zsum j (zlv E M a) ∧ zFr [37, 41] M t.2.2 ∧ (∀ c, c < j → t.2.2 41 (256 * a + c) = zlv E M a c) ∧ ∀ x, (x < 256 * a ∨ 256 * a + 256 ≤ x) → t.2.2 41 x = M 41 x) ?_ ?_ (by omega) 0 (by omega) rfl (by dsimp only; exact ⟨rfl, zFr_refl, fun c hc => by omega, fun _ _ => rfl⟩)
    · rintro j ⟨y4, y5, M'⟩ hj hc ⟨hy, hfr, hI, hx⟩
      simp only at hc hy hfr hI hx
      subst hc
      have hq : zgm E M' = zgm E M := by unfold zgm; rw [hfr 5 (by decide), hfr 18 (by decide)]
      have hs' : zSt i L M' E := hs.qc (zQc.of hfr (by decide))
      have hvw : zVw M' E (eV E a) := zVw_41 h h40 hfr hx
      have hland : M' 22 j = sLand (zgm E M) (eV E a) j := by rw [hvw.land hj, hq]
      have hr := sLiv_r hs.1 (m := zgm E M) (lv := eV E a) (age := a) (c := j)
      have fin : ∀ (B : zM) (v : Int), v = zlv E M a j → zFr [37, 41] M B → B 41 = M' 41 → (zEl (fun s' : Int × Int × zM => s'.2.1 = ((j + 1 : Nat) : Int) ∧ s'.1 = zsum (j + 1) (zlv E M a) ∧ zFr [37, 41] M s'.2.2 ∧ (∀ c, c < j + 1 → s'.2.2 41 (256 * a + c) = zlv E M a c) ∧ ∀ x, (x < 256 * a ∨ 256 * a + 256 ≤ x) → s'.2.2 41 x = M 41 x) (fun r : Int × zM => r.1 = zto E M a ∧ zFr [37, 41] M r.2 ∧ (∀ c, c < 256 → r.2 41 (256 * a + c) = zlv E M a c) ∧ ∀ x, (x < 256 * a ∨ 256 * a + 256 ≤ x) → r.2 41 x = M 41 x)) (Sum.inl (y4 + v, (j : Int) + 1, zst B 41 (((a : Int) * 256) + (j : Int)).toNat (zo_i2b (zo_i2b v)))) := by
        intro B v hv hB hB41
        have hv2 : zo_i2b (zo_i2b v) = v := by
          have h1 : zo_i2b v = v := zo_i2b_id (by rw [hv]; exact hr)
          rw [h1, h1]
        have ei : ((a : Int) * 256 + (j : Int)).toNat = 256 * a + j := by omega
        rw [hv2, ei]
        refine ⟨by dsimp only; omega, by dsimp only; rw [zsum_s, hv, hy], hB.st (by decide), ?_, ?_⟩
        · intro c hc
          dsimp only
          rw [zst_s]
          rcases Nat.lt_or_ge c j with h' | h'
          · rw [zup_ne (by omega), hB41]
            exact hI c h'
          · have : c = j := by omega
            subst this
            rw [zup_eq]
            exact hv
        · intro x hx'
          dsimp only
          rw [zst_s, zup_ne (by omega), hB41]
          exact hx x hx'
      dsimp only
      rw [gb_X4_workOut_6]
      by_cases hl : eV E a < zgm E M j
      · rw [sLand_p hl] at hland
        simp only [Int.toNat_natCast]
        repeat' (first | (with_reducible refine zO_lt ?_) | (with_reducible refine zO_gd ?hc ?_; case hc => (first | omega | (simp (disch := omega) only [zst_ne, zst_s, zup_eq, zup_ne, Int.toNat_natCast, not_true_eq_false, not_false_eq_true, true_or, or_true, true_and, and_true]; first | done | omega))) | (with_reducible refine zO_brp ?ha ?hb ?hc ?_; (case ha => (first | omega | (simp (disch := omega) only [zst_ne, zst_s, zup_eq, zup_ne, Int.toNat_natCast, not_true_eq_false, not_false_eq_true, true_or, or_true, true_and, and_true]; first | done | omega))); (case hb => (first | omega | (simp (disch := omega) only [zst_ne, zst_s, zup_eq, zup_ne, Int.toNat_natCast, not_true_eq_false, not_false_eq_true, true_or, or_true, true_and, and_true]; first | done | omega))); (case hc => (first | omega | (simp (disch := omega) only [zst_ne, zst_s, zup_eq, zup_ne, Int.toNat_natCast, not_true_eq_false, not_false_eq_true, true_or, or_true, true_and, and_true]; first | done | omega)))) | (with_reducible refine zO_brn ?ha ?hb ?hc ?_; (case ha => (first | omega | (simp (disch := omega) only [zst_ne, zst_s, zup_eq, zup_ne, Int.toNat_natCast, not_true_eq_false, not_false_eq_true, true_or, or_true, true_and, and_true]; first | done | omega))); (case hb => (first | omega | (simp (disch := omega) only [zst_ne, zst_s, zup_eq, zup_ne, Int.toNat_natCast, not_true_eq_false, not_false_eq_true, true_or, or_true, true_and, and_true]; first | done | omega))); (case hc => (first | omega | (simp (disch := omega) only [zst_ne, zst_s, zup_eq, zup_ne, Int.toNat_natCast, not_true_eq_false, not_false_eq_true, true_or, or_true, true_and, and_true]; first | done | omega)))) | simp (disch := omega) only [zst_ne, zst_s, zup_eq, zup_ne, Int.toNat_natCast, not_true_eq_false, not_false_eq_true, true_or, or_true, true_and, and_true] | (with_reducible refine zO_br ?ha ?hb (fun _ => ?_) (fun _ => ?_); (case ha => (first | omega | (simp (disch := omega) only [zst_ne, zst_s, zup_eq, zup_ne, Int.toNat_natCast, not_true_eq_false, not_false_eq_true, true_or, or_true, true_and, and_true]; first | done | omega))); (case hb => (first | omega | (simp (disch := omega) only [zst_ne, zst_s, zup_eq, zup_ne, Int.toNat_natCast, not_true_eq_false, not_false_eq_true, true_or, or_true, true_and, and_true]; first | done | omega)))) | (with_reducible refine zO_ifp ?hc ?_; case hc => (first | omega | (simp (disch := omega) only [zst_ne, zst_s, zup_eq, zup_ne, Int.toNat_natCast, not_true_eq_false, not_false_eq_true, true_or, or_true, true_and, and_true]; first | done | omega))) | (with_reducible refine zO_ifn ?hc ?_; case hc => (first | omega | (simp (disch := omega) only [zst_ne, zst_s, zup_eq, zup_ne, Int.toNat_natCast, not_true_eq_false, not_false_eq_true, true_or, or_true, true_and, and_true]; first | done | omega))))
        refine zO_b2 ?_
        repeat' (first | (with_reducible refine zO_lt ?_) | (with_reducible refine zO_gd ?hc ?_; case hc => (first | omega | (simp (disch := omega) only [zst_ne, zst_s, zup_eq, zup_ne, Int.toNat_natCast, not_true_eq_false, not_false_eq_true, true_or, or_true, true_and, and_true]; first | done | omega))) | (with_reducible refine zO_brp ?ha ?hb ?hc ?_; (case ha => (first | omega | (simp (disch := omega) only [zst_ne, zst_s, zup_eq, zup_ne, Int.toNat_natCast, not_true_eq_false, not_false_eq_true, true_or, or_true, true_and, and_true]; first | done | omega))); (case hb => (first | omega | (simp (disch := omega) only [zst_ne, zst_s, zup_eq, zup_ne, Int.toNat_natCast, not_true_eq_false, not_false_eq_true, true_or, or_true, true_and, and_true]; first | done | omega))); (case hc => (first | omega | (simp (disch := omega) only [zst_ne, zst_s, zup_eq, zup_ne, Int.toNat_natCast, not_true_eq_false, not_false_eq_true, true_or, or_true, true_and, and_true]; first | done | omega)))) | (with_reducible refine zO_brn ?ha ?hb ?hc ?_; (case ha => (first | omega | (simp (disch := omega) only [zst_ne, zst_s, zup_eq, zup_ne, Int.toNat_natCast, not_true_eq_false, not_false_eq_true, true_or, or_true, true_and, and_true]; first | done | omega))); (case hb => (first | omega | (simp (disch := omega) only [zst_ne, zst_s, zup_eq, zup_ne, Int.toNat_natCast, not_true_eq_false, not_false_eq_true, true_or, or_true, true_and, and_true]; first | done | omega))); (case hc => (first | omega | (simp (disch := omega) only [zst_ne, zst_s, zup_eq, zup_ne, Int.toNat_natCast, not_true_eq_false, not_false_eq_true, true_or, or_true, true_and, and_true]; first | done | omega)))) | simp (disch := omega) only [zst_ne, zst_s, zup_eq, zup_ne, Int.toNat_natCast, not_true_eq_false, not_false_eq_true, true_or, or_true, true_and, and_true] | (with_reducible refine zO_br ?ha ?hb (fun _ => ?_) (fun _ => ?_); (case ha => (first | omega | (simp (disch := omega) only [zst_ne, zst_s, zup_eq, zup_ne, Int.toNat_natCast, not_true_eq_false, not_false_eq_true, true_or, or_true, true_and, and_true]; first | done | omega))); (case hb => (first | omega | (simp (disch := omega) only [zst_ne, zst_s, zup_eq, zup_ne, Int.toNat_natCast, not_true_eq_false, not_false_eq_true, true_or, or_true, true_and, and_true]; first | done | omega)))) | (with_reducible refine zO_ifp ?hc ?_; case hc => (first | omega | (simp (disch := omega) only [zst_ne, zst_s, zup_eq, zup_ne, Int.toNat_natCast, not_true_eq_false, not_false_eq_true, true_or, or_true, true_and, and_true]; first | done | omega))) | (with_reducible refine zO_ifn ?hc ?_; case hc => (first | omega | (simp (disch := omega) only [zst_ne, zst_s, zup_eq, zup_ne, Int.toNat_natCast, not_true_eq_false, not_false_eq_true, true_or, or_true, true_and, and_true]; first | done | omega))))
        refine zO_bdq (hvw.wo (c := (j : Int)) hs' ⟨by omega, by omega⟩ ha) ?_
        rintro B v ⟨hv, fB, _, _, _, hfst⟩
        dsimp only at hv
        subst hv
        have hf := hfst 2 0 (Or.inr (Or.inl rfl))
        rw [hq, Int.toNat_natCast] at hf
        refine zO_gd ⟨zt_37, by rw [show (37 : Int).toNat = 37 from rfl, zl_37]; rfl⟩ ?_
        refine zO_b1e hf ?_
        repeat' (first | (with_reducible refine zO_lt ?_) | (with_reducible refine zO_gd ?hc ?_; case hc => (first | omega | (simp (disch := omega) only [zst_ne, zst_s, zup_eq, zup_ne, Int.toNat_natCast, not_true_eq_false, not_false_eq_true, true_or, or_true, true_and, and_true]; first | done | omega))) | (with_reducible refine zO_brp ?ha ?hb ?hc ?_; (case ha => (first | omega | (simp (disch := omega) only [zst_ne, zst_s, zup_eq, zup_ne, Int.toNat_natCast, not_true_eq_false, not_false_eq_true, true_or, or_true, true_and, and_true]; first | done | omega))); (case hb => (first | omega | (simp (disch := omega) only [zst_ne, zst_s, zup_eq, zup_ne, Int.toNat_natCast, not_true_eq_false, not_false_eq_true, true_or, or_true, true_and, and_true]; first | done | omega))); (case hc => (first | omega | (simp (disch := omega) only [zst_ne, zst_s, zup_eq, zup_ne, Int.toNat_natCast, not_true_eq_false, not_false_eq_true, true_or, or_true, true_and, and_true]; first | done | omega)))) | (with_reducible refine zO_brn ?ha ?hb ?hc ?_; (case ha => (first | omega | (simp (disch := omega) only [zst_ne, zst_s, zup_eq, zup_ne, Int.toNat_natCast, not_true_eq_false, not_false_eq_true, true_or, or_true, true_and, and_true]; first | done | omega))); (case hb => (first | omega | (simp (disch := omega) only [zst_ne, zst_s, zup_eq, zup_ne, Int.toNat_natCast, not_true_eq_false, not_false_eq_true, true_or, or_true, true_and, and_true]; first | done | omega))); (case hc => (first | omega | (simp (disch := omega) only [zst_ne, zst_s, zup_eq, zup_ne, Int.toNat_natCast, not_true_eq_false, not_false_eq_true, true_or, or_true, true_and, and_true]; first | done | omega)))) | simp (disch := omega) only [zst_ne, zst_s, zup_eq, zup_ne, Int.toNat_natCast, not_true_eq_false, not_false_eq_true, true_or, or_true, true_and, and_true] | (with_reducible refine zO_br ?ha ?hb (fun _ => ?_) (fun _ => ?_); (case ha => (first | omega | (simp (disch := omega) only [zst_ne, zst_s, zup_eq, zup_ne, Int.toNat_natCast, not_true_eq_false, not_false_eq_true, true_or, or_true, true_and, and_true]; first | done | omega))); (case hb => (first | omega | (simp (disch := omega) only [zst_ne, zst_s, zup_eq, zup_ne, Int.toNat_natCast, not_true_eq_false, not_false_eq_true, true_or, or_true, true_and, and_true]; first | done | omega)))) | (with_reducible refine zO_ifp ?hc ?_; case hc => (first | omega | (simp (disch := omega) only [zst_ne, zst_s, zup_eq, zup_ne, Int.toNat_natCast, not_true_eq_false, not_false_eq_true, true_or, or_true, true_and, and_true]; first | done | omega))) | (with_reducible refine zO_ifn ?hc ?_; case hc => (first | omega | (simp (disch := omega) only [zst_ne, zst_s, zup_eq, zup_ne, Int.toNat_natCast, not_true_eq_false, not_false_eq_true, true_or, or_true, true_and, and_true]; first | done | omega))) | (with_reducible refine zO_somek ?_) | (with_reducible refine zO_inlk ?_) | (with_reducible refine zO_inrk ?_) | (with_reducible refine zO_sp0 ?_) | (with_reducible refine zO_sp1 ?_) | (with_reducible refine zO_sp2 ?_) | (with_reducible refine zO_sp3 ?_) | (with_reducible refine zO_sp4 ?_) | (with_reducible refine zO_b2 ?_) | (with_reducible refine zO_b3 ?_) | (with_reducible refine zO_b4 ?_) | (with_reducible refine zO_bd ?_) | (with_reducible refine zO_b0 ?_) | (with_reducible refine zO_b1 ?_))
        refine zO_some (fin B _ ?_ (hfr.tr (fB.mono (by decide))) (fB 41 (by decide)))
        unfold zlv sLiv
        rw [if_pos hl]
      · rw [sLand_n hl] at hland
        simp only [Int.toNat_natCast]
        repeat' (first | (with_reducible refine zO_lt ?_) | (with_reducible refine zO_gd ?hc ?_; case hc => (first | omega | (simp (disch := omega) only [zst_ne, zst_s, zup_eq, zup_ne, Int.toNat_natCast, not_true_eq_false, not_false_eq_true, true_or, or_true, true_and, and_true]; first | done | omega))) | (with_reducible refine zO_brp ?ha ?hb ?hc ?_; (case ha => (first | omega | (simp (disch := omega) only [zst_ne, zst_s, zup_eq, zup_ne, Int.toNat_natCast, not_true_eq_false, not_false_eq_true, true_or, or_true, true_and, and_true]; first | done | omega))); (case hb => (first | omega | (simp (disch := omega) only [zst_ne, zst_s, zup_eq, zup_ne, Int.toNat_natCast, not_true_eq_false, not_false_eq_true, true_or, or_true, true_and, and_true]; first | done | omega))); (case hc => (first | omega | (simp (disch := omega) only [zst_ne, zst_s, zup_eq, zup_ne, Int.toNat_natCast, not_true_eq_false, not_false_eq_true, true_or, or_true, true_and, and_true]; first | done | omega)))) | (with_reducible refine zO_brn ?ha ?hb ?hc ?_; (case ha => (first | omega | (simp (disch := omega) only [zst_ne, zst_s, zup_eq, zup_ne, Int.toNat_natCast, not_true_eq_false, not_false_eq_true, true_or, or_true, true_and, and_true]; first | done | omega))); (case hb => (first | omega | (simp (disch := omega) only [zst_ne, zst_s, zup_eq, zup_ne, Int.toNat_natCast, not_true_eq_false, not_false_eq_true, true_or, or_true, true_and, and_true]; first | done | omega))); (case hc => (first | omega | (simp (disch := omega) only [zst_ne, zst_s, zup_eq, zup_ne, Int.toNat_natCast, not_true_eq_false, not_false_eq_true, true_or, or_true, true_and, and_true]; first | done | omega)))) | simp (disch := omega) only [zst_ne, zst_s, zup_eq, zup_ne, Int.toNat_natCast, not_true_eq_false, not_false_eq_true, true_or, or_true, true_and, and_true] | (with_reducible refine zO_br ?ha ?hb (fun _ => ?_) (fun _ => ?_); (case ha => (first | omega | (simp (disch := omega) only [zst_ne, zst_s, zup_eq, zup_ne, Int.toNat_natCast, not_true_eq_false, not_false_eq_true, true_or, or_true, true_and, and_true]; first | done | omega))); (case hb => (first | omega | (simp (disch := omega) only [zst_ne, zst_s, zup_eq, zup_ne, Int.toNat_natCast, not_true_eq_false, not_false_eq_true, true_or, or_true, true_and, and_true]; first | done | omega)))) | (with_reducible refine zO_ifp ?hc ?_; case hc => (first | omega | (simp (disch := omega) only [zst_ne, zst_s, zup_eq, zup_ne, Int.toNat_natCast, not_true_eq_false, not_false_eq_true, true_or, or_true, true_and, and_true]; first | done | omega))) | (with_reducible refine zO_ifn ?hc ?_; case hc => (first | omega | (simp (disch := omega) only [zst_ne, zst_s, zup_eq, zup_ne, Int.toNat_natCast, not_true_eq_false, not_false_eq_true, true_or, or_true, true_and, and_true]; first | done | omega))) | (with_reducible refine zO_somek ?_) | (with_reducible refine zO_inlk ?_) | (with_reducible refine zO_inrk ?_) | (with_reducible refine zO_sp0 ?_) | (with_reducible refine zO_sp1 ?_) | (with_reducible refine zO_sp2 ?_) | (with_reducible refine zO_sp3 ?_) | (with_reducible refine zO_sp4 ?_) | (with_reducible refine zO_b2 ?_) | (with_reducible refine zO_b3 ?_) | (with_reducible refine zO_b4 ?_) | (with_reducible refine zO_bd ?_) | (with_reducible refine zO_b0 ?_) | (with_reducible refine zO_b1 ?_))
        refine zO_some (fin M' 0 ?_ hfr rfl)
        unfold zlv sLiv
        rw [if_neg hl]
    · rintro ⟨y4, y5, M'⟩ hc ⟨hy, hfr, hI, hx⟩
      simp only at hc hy hfr hI hx
      subst hc
      dsimp only
      rw [gb_X4_workOut_6]
      repeat' (first | (with_reducible refine zO_lt ?_) | (with_reducible refine zO_gd ?hc ?_; case hc => (first | omega | (simp (disch := omega) only [zst_ne, zst_s, zup_eq, zup_ne, Int.toNat_natCast, not_true_eq_false, not_false_eq_true, true_or, or_true, true_and, and_true]; first | done | omega))) | (with_reducible refine zO_brp ?ha ?hb ?hc ?_; (case ha => (first | omega | (simp (disch := omega) only [zst_ne, zst_s, zup_eq, zup_ne, Int.toNat_natCast, not_true_eq_false, not_false_eq_true, true_or, or_true, true_and, and_true]; first | done | omega))); (case hb => (first | omega | (simp (disch := omega) only [zst_ne, zst_s, zup_eq, zup_ne, Int.toNat_natCast, not_true_eq_false, not_false_eq_true, true_or, or_true, true_and, and_true]; first | done | omega))); (case hc => (first | omega | (simp (disch := omega) only [zst_ne, zst_s, zup_eq, zup_ne, Int.toNat_natCast, not_true_eq_false, not_false_eq_true, true_or, or_true, true_and, and_true]; first | done | omega)))) | (with_reducible refine zO_brn ?ha ?hb ?hc ?_; (case ha => (first | omega | (simp (disch := omega) only [zst_ne, zst_s, zup_eq, zup_ne, Int.toNat_natCast, not_true_eq_false, not_false_eq_true, true_or, or_true, true_and, and_true]; first | done | omega))); (case hb => (first | omega | (simp (disch := omega) only [zst_ne, zst_s, zup_eq, zup_ne, Int.toNat_natCast, not_true_eq_false, not_false_eq_true, true_or, or_true, true_and, and_true]; first | done | omega))); (case hc => (first | omega | (simp (disch := omega) only [zst_ne, zst_s, zup_eq, zup_ne, Int.toNat_natCast, not_true_eq_false, not_false_eq_true, true_or, or_true, true_and, and_true]; first | done | omega)))) | simp (disch := omega) only [zst_ne, zst_s, zup_eq, zup_ne, Int.toNat_natCast, not_true_eq_false, not_false_eq_true, true_or, or_true, true_and, and_true] | (with_reducible refine zO_br ?ha ?hb (fun _ => ?_) (fun _ => ?_); (case ha => (first | omega | (simp (disch := omega) only [zst_ne, zst_s, zup_eq, zup_ne, Int.toNat_natCast, not_true_eq_false, not_false_eq_true, true_or, or_true, true_and, and_true]; first | done | omega))); (case hb => (first | omega | (simp (disch := omega) only [zst_ne, zst_s, zup_eq, zup_ne, Int.toNat_natCast, not_true_eq_false, not_false_eq_true, true_or, or_true, true_and, and_true]; first | done | omega)))) | (with_reducible refine zO_ifp ?hc ?_; case hc => (first | omega | (simp (disch := omega) only [zst_ne, zst_s, zup_eq, zup_ne, Int.toNat_natCast, not_true_eq_false, not_false_eq_true, true_or, or_true, true_and, and_true]; first | done | omega))) | (with_reducible refine zO_ifn ?hc ?_; case hc => (first | omega | (simp (disch := omega) only [zst_ne, zst_s, zup_eq, zup_ne, Int.toNat_natCast, not_true_eq_false, not_false_eq_true, true_or, or_true, true_and, and_true]; first | done | omega))))
      exact zO_inr ⟨hy, hfr, hI, hx⟩
  · rintro ⟨t, A⟩ ⟨hy, hfr, hI, hx⟩
    dsimp only at *
    repeat' (first | (with_reducible refine zO_lt ?_) | (with_reducible refine zO_gd ?hc ?_; case hc => (first | omega | (simp (disch := omega) only [zst_ne, zst_s, zup_eq, zup_ne, Int.toNat_natCast, not_true_eq_false, not_false_eq_true, true_or, or_true, true_and, and_true]; first | done | omega))) | (with_reducible refine zO_brp ?ha ?hb ?hc ?_; (case ha => (first | omega | (simp (disch := omega) only [zst_ne, zst_s, zup_eq, zup_ne, Int.toNat_natCast, not_true_eq_false, not_false_eq_true, true_or, or_true, true_and, and_true]; first | done | omega))); (case hb => (first | omega | (simp (disch := omega) only [zst_ne, zst_s, zup_eq, zup_ne, Int.toNat_natCast, not_true_eq_false, not_false_eq_true, true_or, or_true, true_and, and_true]; first | done | omega))); (case hc => (first | omega | (simp (disch := omega) only [zst_ne, zst_s, zup_eq, zup_ne, Int.toNat_natCast, not_true_eq_false, not_false_eq_true, true_or, or_true, true_and, and_true]; first | done | omega)))) | (with_reducible refine zO_brn ?ha ?hb ?hc ?_; (case ha => (first | omega | (simp (disch := omega) only [zst_ne, zst_s, zup_eq, zup_ne, Int.toNat_natCast, not_true_eq_false, not_false_eq_true, true_or, or_true, true_and, and_true]; first | done | omega))); (case hb => (first | omega | (simp (disch := omega) only [zst_ne, zst_s, zup_eq, zup_ne, Int.toNat_natCast, not_true_eq_false, not_false_eq_true, true_or, or_true, true_and, and_true]; first | done | omega))); (case hc => (first | omega | (simp (disch := omega) only [zst_ne, zst_s, zup_eq, zup_ne, Int.toNat_natCast, not_true_eq_false, not_false_eq_true, true_or, or_true, true_and, and_true]; first | done | omega)))) | simp (disch := omega) only [zst_ne, zst_s, zup_eq, zup_ne, Int.toNat_natCast, not_true_eq_false, not_false_eq_true, true_or, or_true, true_and, and_true] | (with_reducible refine zO_br ?ha ?hb (fun _ => ?_) (fun _ => ?_); (case ha => (first | omega | (simp (disch := omega) only [zst_ne, zst_s, zup_eq, zup_ne, Int.toNat_natCast, not_true_eq_false, not_false_eq_true, true_or, or_true, true_and, and_true]; first | done | omega))); (case hb => (first | omega | (simp (disch := omega) only [zst_ne, zst_s, zup_eq, zup_ne, Int.toNat_natCast, not_true_eq_false, not_false_eq_true, true_or, or_true, true_and, and_true]; first | done | omega)))) | (with_reducible refine zO_ifp ?hc ?_; case hc => (first | omega | (simp (disch := omega) only [zst_ne, zst_s, zup_eq, zup_ne, Int.toNat_natCast, not_true_eq_false, not_false_eq_true, true_or, or_true, true_and, and_true]; first | done | omega))) | (with_reducible refine zO_ifn ?hc ?_; case hc => (first | omega | (simp (disch := omega) only [zst_ne, zst_s, zup_eq, zup_ne, Int.toNat_natCast, not_true_eq_false, not_false_eq_true, true_or, or_true, true_and, and_true]; first | done | omega))))
    have g : zFr [37, 40, 41] M (zst A 40 a t) := (hfr.mono (by decide)).st (by decide)
    have hvw : zVw A E (eV E a) := zVw_41 h h40 hfr hx
    have q : zQc M (zst A 40 a t) := zQc.of g (by decide)
    have hq : zgm E A = zgm E M := by unfold zgm; rw [hfr 5 (by decide), hfr 18 (by decide)]
    have hq2 : zgm E (zst A 40 a t) = zgm E M := zgm_qc q
    refine zO_some ⟨q, ?_, by rw [zst_eq]; exact hy, g⟩
    obtain ⟨⟨a1, a2, a3, a4, a5⟩, b1, b2, b3, b4⟩ := hvw
    have hv : ∀ lv, zVC A lv → zVC (zst A 40 a t) lv := fun lv h => h.fr (zst_ne (by decide)) (zst_ne (by decide)) (zst_ne (by decide))
    refine ⟨⟨by rw [zst_ne (by decide)]; exact a1, by rw [zst_ne (by decide)]; exact a2, a3.fr (fun q x y => zst_ne (by omega)) (zst_ne (by decide)) (zst_ne (by decide)), ?_, ?_⟩, by rw [zst_ne (by decide)]; exact b1, b2, b3, hv _ b4⟩
    · rw [zst_ne (by decide)]
      rcases a4 with a4 | ⟨c1, c2, c3⟩
      · exact Or.inl a4
      · exact Or.inr ⟨c1, c2, hv _ c3⟩
    · intro b hb
      rw [zst_ne (q := 41) (by decide), zst_r]
      by_cases e : b = a
      · subst e
        rw [if_pos ⟨rfl, rfl⟩]
        refine Or.inr ⟨?_, fun c hc => ?_⟩
        · refine hy.trans ?_; unfold zto zlv; rw [hq2]
        · rw [hI c hc]; unfold zlv; rw [hq2]
      · rw [if_neg (fun h => e h.2)]
        rcases a5 b hb with c | ⟨c1, c2⟩
        · exact Or.inl c
        · refine Or.inr ⟨?_, fun c hc => ?_⟩
          · rw [c1]; unfold zto zlv; rw [hq2, hq]
          · rw [c2 c hc]; unfold zlv; rw [hq2, hq]
/-- the span of an AGE, LIVE worked out for it -/
theorem g10_span {i L : Nat} {M : zM} {E : zE} {a : Nat} (hs : zSt i L M E) (h : zSe M E) (ha : a < 100) : zO (g_X10_spanKnown (zKn i) (a : Int) M) (fun r => r.2 = eP E a ∧ zQc M r.1 ∧ zSe r.1 E ∧ (∀ lv, zVw M E lv → lv = eV E a → zVw r.1 E lv) ∧ r.1 40 (eP E a).toNat = zto E M a ∧ (∀ c, c < 256 → r.1 41 (256 * (eP E a).toNat + c) = zlv E M a c) ∧ zFr [21, 22, 23, 36, 37, 40, 41] M r.1) := by
  unfold g_X10_spanKnown
  obtain ⟨l1, l2, l3, l4⟩ := hs.law
  obtain ⟨q1, q2, q3, q4, q5, q6, q7, q8, q9, q10, q11⟩ := zQL (i := i) l4
  have hp := hs.1.2.2.2.2.1 a ha
  have h5 := hs.2.1.2.2.2.2.1 a ha
  rw [l1]
  refine zO_gd ⟨l2, l3⟩ (zO_lt ?_)
  rw [q10, Int.toNat_natCast, h5.2.2]
  refine zO_gd (by omega) (zO_lt (zO_gd (by omega) ?_))
  have hli := h.2.2.2.2 (eP E a).toNat (by omega)
  have hto := zto_sp hs.1 (M := M) ha
  have hlv := fun c => zlv_sp hs.1 (M := M) (a := a) (c := c) ha
  have h0 : 0 ≤ zto E M a := zsum_nn (fun c _ => (sLiv_r hs.1).1)
  have h9 : zto E M a ≤ (256 : Nat) * 99 := zsum_le (fun c _ => (sLiv_r hs.1).2)
  rcases hli with hn | ⟨hk, hk'⟩
  · refine zO_brn (by omega) (by omega) (by omega) ?_
    refine zO_gd ⟨l2, l3⟩ (zO_lt ?_)
    have hsp : ((eP E a).toNat : Int) = eP E a := by omega
    have hb := f3_both hs (a := (eP E a).toNat) (by omega)
    rw [hsp] at hb
    refine zO_b1e hb ?_
    refine zO_b1q (g8_turn' hs h (eV_r hs.1 (by omega))) ?_
    rintro A ⟨qA, fA, vA⟩
    have sA := hs.qc qA
    rw [sA.law.1]
    refine zO_gd ⟨l2, l3⟩ (zO_lt ?_)
    have hw := g4_work (a := (eP E a).toNat) sA vA (by omega) (by rw [fA 40 (by decide)]; exact hn)
    rw [hsp] at hw
    refine zO_b1q hw ?_
    rintro B ⟨qB, vB, tB, fB⟩
    have hg : zgm E A = zgm E M := zgm_qc qA
    have hgB : zgm E B = zgm E M := (zgm_qc qB).trans hg
    have htA : zto E A (eP E a).toNat = zto E M a := by
      rw [← hto]; unfold zto zlv; rw [hg]
    have hgt : zto E B (eP E a).toNat = zto E M (eP E a).toNat := by unfold zto zlv; rw [hgB]
    refine zO_some ⟨rfl, qA.tr qB, vB.1, ?_, ?_, ?_, (fA.mono (by decide)).tr (fB.mono (by decide))⟩
    · intro lv _ hlv'
      rw [hlv', ← eV_sp hs.1 ha]
      exact vB
    · dsimp only; rw [tB, htA]
    · intro c hc
      have hB := vB.1.2.2.2.2 (eP E a).toNat (by omega)
      rcases hB with hB | ⟨_, hB⟩
      · rw [tB, htA] at hB
        omega
      · dsimp only
        rw [hB c hc, ← hlv c]
        unfold zlv
        rw [hgB]
  · refine zO_brp (by rw [hk, hto]; omega) (by omega) (by rw [hk, hto]; omega) ?_
    refine zO_some ⟨rfl, zQc.rf, h, fun lv hv _ => hv, ?_, ?_, zFr_refl⟩
    · dsimp only; rw [hk, hto]
    · intro c hc
      dsimp only
      rw [hk' c hc, hlv c]

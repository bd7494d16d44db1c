/-! law: the class reads conditions -/
def zCg (i : Nat) (b : Nat → Int) (n D : Nat) (o : Int) (g : Nat → Int → Nat → zM → Option (zM × Int)) (one : Nat → zPr) : Prop := ∀ c0 x M, zCS b n D c0 x M → zO (g 2 o D M) (fun r => zCr b n D c0 M (one x) r)
def cLp (k : zK) (rc : Nat → Int → Nat → zM → Option (zM × Int)) (o : Int) (D : Nat) (j : Nat) (v : Int) (y3 : Int) (M0 : zM) : Option ((Int × zM) ⊕ ((zM) ⊕ (zM × Int))) :=
  zbr y3 700 (700 ≤ y3) (some (.inr (.inl M0))) (zb1 (g_X6_isWord k j M0) (fun v3 => zbr v3 0 (v3 = 0) (some (.inr (.inl M0))) (zb1 (g_X6_step k M0) (fun M5 => zbd (rc 2 o D M5) (fun M7 v6 => zbr v6 0 (¬ v6 = 0) (zb1 (f_X3_putStep k D v M7) (fun M8 => zlt (y3 + 1) (fun x9 => some (.inl (x9, M8))))) (some (.inr (.inr (M7, 0)))))))))
theorem c_chain {b : Nat → Int} {i n D j : Nat} {o h : Int} {st : zStp} {g : Nat → Int → Nat → zM → Option (zM × Int)} {one : Nat → zPr} (hn : n ≤ 700) (hb : zBy b) (hD : zDr D) (hj : j < 22) (hh : zhs j = h) (hst : ∀ a, ¬ zEd [st] a) (hg : zCg i b n D o g one) (hgd : zGd b n one) (M0 : zM) (c0 : Nat) : ∀ f c x M F, f ≤ 700 → f < F → zCS b n D (c0 + c.length) x M → zCk (M (D + 5)) c0 c → (∀ a, a < 100 → zEd c a → M (D + 9) a = 1) → zFc D c0 M0 M → zO (zwh (fun t : Int × zM => cLp (zKn i) g o D j (eStp st) t.1 t.2) F ((700 : Int) - (f : Int), M)) (fun u => match u with
    | .inl M' => zCr b n D c0 M0 (pChn b n h st one f c x) (M', 1)
    | .inr r => zCr b n D c0 M0 (pChn b n h st one f c x) r ∧ r.2 = 0) := by
  intro f
  induction f with
  | zero =>
    intro c x M F _ hF hS hC hE hfr
    obtain ⟨F, rfl⟩ : ∃ g, F = g + 1 := ⟨F - 1, by omega⟩
    refine zO_wh1 ?_
    show zO (cLp (zKn i) g o D j (eStp st) (700 - ((0 : Nat) : Int)) M) _
    unfold cLp
    refine zO_brp ⟨by omega, by omega⟩ ⟨by omega, by omega⟩ (by omega) (zO_some ?_)
    exact ⟨hfr, rfl, hS, hC, hE⟩
  | succ f ih =>
    intro c x M F hf7 hF hS hC hE hfr
    obtain ⟨F, rfl⟩ : ∃ g, F = g + 1 := ⟨F - 1, by omega⟩
    refine zO_wh1 ?_
    show zO (cLp (zKn i) g o D j (eStp st) (700 - ((f + 1 : Nat) : Int)) M) _
    have hw := g6_isWord (i := i) (j := j) (M := M) hn hS.2.2.2.2.2 (by rw [hS.1]; exact hb) (by rw [hS.1]; exact hS.2.2.1) hj
    rw [hS.1, hh] at hw
    unfold cLp
    refine zO_brn ⟨by omega, by omega⟩ ⟨by omega, by omega⟩ (by omega) (zO_b1e hw ?_)
    rw [pChn_s]
    by_cases cw : wI b n x h
    · rw [if_pos cw, if_pos cw]
      refine zO_brn (by omega) (by omega) (by omega) (zO_b1q (g6_stepS hn hb hD hS) ?_)
      rintro M5 ⟨f5, _, _, s5⟩
      refine zO_bdq (hg _ _ _ s5) ?_
      intro M7 v6 hr
      obtain ⟨hr1, hr2⟩ := hr
      dsimp only at hr1 hr2
      have fr7 := hfr.tr (f5.tr hr1 (Nat.le_refl _)) (by omega : c0 ≤ c0 + c.length)
      have hEn := yE_r (b := b) hS.2.2.2.2.2
      cases ho : one (yE b n x) with
      | inl q =>
        rw [ho] at hr2
        obtain ⟨v1, s7, k7, e7⟩ := hr2
        have gd := (hgd (yE b n x) hEn.2.1).1 q ho
        have hA := yA_r (b := b) hS.2.2.2.2.2
        have hk := hEn.2.2.1 (by have := cw.1; omega)
        have hx := hS.2.2.2.2.1
        subst v1
        refine zO_brp (by omega) (by omega) (by omega) ?_
        have hlen : (c ++ (q.1 ++ [st])).length = c.length + q.1.length + 1 := by simp only [List.length_append, List.length_singleton]; omega
        have c07 : c0 + c.length + q.1.length < 700 := by omega
        refine zO_b1e (f3_putStep hD s7.2.2.2.1 c07) (zO_lt (zO_some ?_))
        rw [show (700 : Int) - ((f + 1 : Nat) : Int) + 1 = 700 - (f : Int) by omega]
        refine ih (c ++ (q.1 ++ [st])) q.2 _ F (by omega) (by omega) ?_ ?_ ?_ ?_
        · rw [hlen, show c0 + (c.length + q.1.length + 1) = c0 + c.length + q.1.length + 1 by omega]
          exact zCS_put hD s7 (by omega)
        · rw [zCk_app, zCk_app]
          rw [zst_ne (show D + 5 ≠ D by omega)]
          refine ⟨?_, ?_, ?_⟩
          · refine zCk_c c c0 hC (fun t a d => ?_)
            rw [zst_ns (by omega), hr1.2.2.2.1 t (by omega), f5.2.2.2.1 t (by omega)]
          · refine zCk_c q.1 (c0 + c.length) k7 (fun t a d => ?_)
            rw [zst_ns (by omega)]
          · exact ⟨zst_eq, trivial⟩
        · intro a ha he
          rw [zst_ne (show D + 9 ≠ D by omega), zst_ne (show D + 9 ≠ D + 5 by omega)]
          rw [zEd_app, zEd_app] at he
          rcases he with he | he | he
          · exact hr1.2.2.2.2.1 a (f5.2.2.2.2.1 a (hE a ha he))
          · exact e7 a ha he
          · exact absurd he (hst a)
        · exact fr7.tr (zFc_put (D := D) (c0 := c0 + c.length + q.1.length)) (by omega)
      | inr e =>
        rw [ho] at hr2
        obtain ⟨v1, t7, e7, c1, d1, d2, d3⟩ := hr2
        subst v1
        refine zO_brn (by omega) (by omega) (by omega) (zO_some ?_)
        exact ⟨⟨fr7, rfl, t7, e7, c1, by omega, d2, d3⟩, rfl⟩
    · rw [if_neg cw, if_neg cw]
      exact zO_brp (by omega) (by omega) (by omega) (zO_some ⟨hfr, rfl, hS, hC, hE⟩)
theorem c_seq {b : Nat → Int} {i n D j : Nat} {o h : Int} {st : zStp} {g : Nat → Int → Nat → zM → Option (zM × Int)} {one : Nat → zPr} (hn : n ≤ 700) (hb : zBy b) (hD : zDr D) (hj : j < 22) (hh : zhs j = h) (hst : ∀ a, ¬ zEd [st] a) (hg : zCg i b n D o g one) (hgd : zGd b n one) {c0 x : Nat} {M : zM} (hS : zCS b n D c0 x M) : zO (zbd (g 2 o D M) (fun M2 v1 => zbr v1 0 (¬ v1 = 0) (zsp1 (zw2 (cLp (zKn i) g o D j (eStp st)) zfu 0 M2) (fun r => some (r)) (fun M10 => some (M10, 1))) (some (M2, 0)))) (fun r => zCr b n D c0 M (pSeq b n h st one x) r) := by
  refine zO_bdq (hg _ _ _ hS) ?_
  intro M2 v1 hr
  obtain ⟨hr1, hr2⟩ := hr
  dsimp only at hr1 hr2
  unfold pSeq
  cases ho : one x with
  | inl q =>
    rw [ho] at hr2
    obtain ⟨e1, s7, k7, e7⟩ := hr2
    subst e1
    refine zO_brp (by omega) (by omega) (by omega) (zO_sp1 ?_)
    have h := c_chain (i := i) (o := o) hn hb hD hj hh hst hg hgd M c0 700 q.1 q.2 M2 zfu (by omega) (by unfold zfu; omega) s7 k7 e7 hr1
    rw [show (700 : Int) - ((700 : Nat) : Int) = 0 by omega] at h
    refine zO_mono h ?_
    rintro (M' | r) hu
    · exact show zO _ _ from zO_some hu
    · exact show zO _ _ from zO_some hu.1
  | inr e =>
    rw [ho] at hr2
    obtain ⟨e1, s7⟩ := hr2
    subst e1
    exact zO_brn (by omega) (by omega) (by omega) (zO_some ⟨hr1, rfl, s7⟩)
theorem c_all {b : Nat → Int} {i n D : Nat} {o : Int} {ra rl g : Nat → Int → Nat → zM → Option (zM × Int)} {one : Nat → zPr} (hn : n ≤ 700) (hb : zBy b) (hD : zDr D) (hg : zCg i b n D o g one) (hgd : zGd b n one) : zCg i b n D o (fo_X6_readAll (zKn i) ra rl g) (pAll b n one) := by
  intro c0 x M hS
  unfold fo_X6_readAll
  rw [eb_X6_readAll_13]
  exact c_seq (j := 3) (h := 1111) (st := (2, 0, 0, 0)) hn hb hD (by decide) (by decide) (fun a h => by rw [zEd_1] at h; exact absurd h.1 (by decide)) hg hgd hS
theorem c_any {b : Nat → Int} {i n D : Nat} {o : Int} {ra g rn : Nat → Int → Nat → zM → Option (zM × Int)} {one : Nat → zPr} (hn : n ≤ 700) (hb : zBy b) (hD : zDr D) (hg : zCg i b n D o g (pAll b n one)) (hgd : zGd b n one) : zCg i b n D o (fo_X6_readAny (zKn i) ra g rn) (pAny b n one) := by
  intro c0 x M hS
  unfold fo_X6_readAny
  rw [eb_X6_readAny_13]
  exact c_seq (j := 2) (h := 423) (st := (3, 0, 0, 0)) hn hb hD (by decide) (by decide) (fun a h => by rw [zEd_1] at h; exact absurd h.1 (by decide)) hg (pSeq_g hgd) hS
theorem f3_putEdge {i D a : Nat} {M : zM} (hD : zDr D) (ha : a ≤ 20000) : f_X3_putEdge (zKn i) D (a : Int) M = some (if a < 100 then zst M (D + 9) a 1 else M) := by
  apply zO_get
  unfold f_X3_putEdge
  rw [(zQL (i := i) hD).2.2.2.2.2.2.2.2.1]
  by_cases c : a < 100
  · rw [if_pos c]
    exact zO_brn ⟨by omega, by omega⟩ ⟨by omega, by omega⟩ (by omega) (zO_gd (by omega) (zO_lt (zO_some rfl)))
  · rw [if_neg c]
    exact zO_brp ⟨by omega, by omega⟩ ⟨by omega, by omega⟩ (by omega) (zO_some rfl)
theorem zFc_edge {D c0 a : Nat} {M : zM} (hD : zDr D) : zFc D c0 M (if a < 100 then zst M (D + 9) a 1 else M) := by
  split
  · refine ⟨zFr.st1 (by simp), fun s _ => ?_, fun s hs => ?_, fun j hj => ?_, fun t e => ?_, fun t e => ?_⟩
    · rw [zst_ne (by omega)]
    · rw [zst_ne (by omega)]
    · rw [zst_ne (by omega)]
    · rw [zst_r]; split
      · rfl
      · exact e
    · rw [zst_r]; split
      · exact Or.inr rfl
      · exact e
  · exact zFc.rf
theorem c_tst {b : Nat → Int} {i n D c0 x : Nat} {M : zM} (hn : n ≤ 700) (hb : zBy b) (hD : zDr D) (hS : zCS b n D c0 x M) : zO (zb1 (g_X6_askedWord (zKn i) M) (fun v5 => zbr v5 (-1) (¬ v5 = (-1)) (zb1 (g_X6_step (zKn i) M) (fun M7 => zb1 (g_X6_comparingSign (zKn i) M7) (fun v8 => zbr v8 (-1) (¬ v8 = (-1)) (zb1 (g_X6_step (zKn i) M7) (fun M10 => zbd (g_X6_takeNumber (zKn i) 0 9999 M10) (fun M12 v11 => zbr v11 0 (¬ v11 = 0) (zb1 (f_X3_putComparison (zKn i) D v5 v8 (M12 2 7) M12) (fun M13 => some (Sum.inr (α := zM) (M13, (1 : Int))))) (some (.inr (M12, 0)))))) (some (.inr (M7, 0)))))) (some (.inr (M, 0))))) (fun u => ∃ r, u = .inr r ∧ zCr b n D c0 M (pTst b n x) r) := by
  have ha := g6_askedWord (i := i) (M := M) hn hS.2.2.2.2.2 (by rw [hS.1]; exact hb) (by rw [hS.1]; exact hS.2.2.1)
  rw [hS.1] at ha
  have r1 := yAsk_r (b := b) (n := n) (x := x)
  have hE := yE_r (b := b) hS.2.2.2.2.2
  have hA := yA_r (b := b) hS.2.2.2.2.2
  unfold pTst
  refine zO_b1e ha ?_
  by_cases c1 : yAsk b n x = -1
  · rw [if_pos c1]
    exact zO_brn ⟨by omega, by omega⟩ ⟨by omega, by omega⟩ (by omega) (zO_some ⟨_, rfl, zFc.rf, rfl, hS.2.2.1, hS.2.2.2.2.2, c0, Nat.le_refl _, by have := hS.2.2.2.2; omega, hS.2.2.2.1⟩)
  · rw [if_neg c1]
    refine zO_brp ⟨by omega, by omega⟩ ⟨by omega, by omega⟩ (by omega) (zO_b1q (g6_stepS hn hb hD hS) ?_)
    rintro M7 ⟨f7, _, _, s7⟩
    have hs := g6_comparingSign (i := i) (M := M7) hn s7.2.2.2.2.2 (by rw [s7.1]; exact hb) (by rw [s7.1]; exact s7.2.2.1)
    rw [s7.1] at hs
    have r2 := ySig_r (b := b) (n := n) (x := yE b n x)
    refine zO_b1e hs ?_
    by_cases c2 : ySig b n (yE b n x) = -1
    · rw [if_pos c2]
      exact zO_brn ⟨by omega, by omega⟩ ⟨by omega, by omega⟩ (by omega) (zO_some ⟨_, rfl, f7, rfl, s7.2.2.1, s7.2.2.2.2.2, c0, Nat.le_refl _, by have := s7.2.2.2.2; omega, s7.2.2.2.1⟩)
    · rw [if_neg c2]
      refine zO_brp ⟨by omega, by omega⟩ ⟨by omega, by omega⟩ (by omega) (zO_b1q (g6_stepS hn hb hD s7) ?_)
      rintro M10 ⟨f10, _, _, s10⟩
      refine zO_bdq (g6_takeS hn hb hD s10 (by omega) (by omega)) ?_
      rintro M12 v11 ⟨f12, _, h12⟩
      dsimp only at f12 h12
      have fr := f7.tr (f10.tr f12 (Nat.le_refl _)) (Nat.le_refl _)
      rcases h12 with ⟨w, rfl, s12, v12⟩ | ⟨w, rfl, rfl⟩
      · rw [if_pos w]
        refine zO_brp (by omega) (by omega) (by omega) ?_
        rw [v12]
        have hE2 := yE_r (b := b) s7.2.2.2.2.2
        have hA2 := yA_r (b := b) s7.2.2.2.2.2
        have hE3 := yE_r (b := b) s10.2.2.2.2.2
        have hA3 := yA_r (b := b) s10.2.2.2.2.2
        have k1 := hE.2.2.1 (by have := r1.2.2 (by omega); omega)
        have k2 := hE2.2.2.1 (by have := r2.2.2 (by omega); omega)
        have k3 := hE3.2.2.1 (by have := w.1; omega)
        have hx := hS.2.2.2.2.1
        obtain ⟨wd, ewd⟩ : ∃ t : Nat, yAsk b n x = (t : Int) := ⟨(yAsk b n x).toNat, by omega⟩
        obtain ⟨sg, esg⟩ : ∃ t : Nat, ySig b n (yE b n x) = (t : Int) := ⟨(ySig b n (yE b n x)).toNat, by omega⟩
        obtain ⟨vl, evl⟩ : ∃ t : Nat, yV b n (yE b n (yE b n x)) = (t : Int) := ⟨(yV b n (yE b n (yE b n x))).toNat, by have := w.2.1; omega⟩
        have vr : vl < 10000 := by have := w.2.2; omega
        rw [ewd, esg, evl]
        generalize yE b n (yE b n (yE b n x)) = x3 at *
        -- the step, then the AGES where it turns
        have hput := f3_putStep (i := i) (v := zo_or (zo_or (zo_shl (vl : Int) 8) (zo_shl (wd : Int) 4)) (sg : Int)) hD s12.2.2.2.1 (by omega)
        rw [w_pack vr (by omega) (by omega)] at hput
        have s13 := zCS_put (v := ((vl * 256 + wd * 16 + sg : Nat) : Int)) hD s12 (by omega)
        have f13 := fr.tr (zFc_put (D := D) (c0 := c0) (v := ((vl * 256 + wd * 16 + sg : Nat) : Int)) (M := M12)) (Nat.le_refl _)
        have k13 : zst (zst M12 (D + 5) c0 ((vl * 256 + wd * 16 + sg : Nat) : Int)) D 7 ((c0 : Int) + 1) (D + 5) c0 = ((vl * 256 + wd * 16 + sg : Nat) : Int) := by rw [zst_ne (show D + 5 ≠ D by omega), zst_eq]
        generalize zst (zst M12 (D + 5) c0 ((vl * 256 + wd * 16 + sg : Nat) : Int)) D 7 ((c0 : Int) + 1) = A at *
        have fin : ∀ B : zM, zFc D c0 A B → B 3 = A 3 → (∀ s, B 2 s = A 2 s) → B D = A D → B (D + 5) = A (D + 5) → (∀ a, a < 100 → zEd [((0 : Int), (wd : Int), (sg : Int), (vl : Int))] a → B (D + 9) a = 1) → zCr b n D c0 M (.inl ([(0, (wd : Int), (sg : Int), (vl : Int))], x3)) (B, 1) := by
          intro B fB e3 e2 eD e5 hB
          obtain ⟨h1, h2, ⟨t1, t2, t3, t4⟩, h4, h5, h6⟩ := s13
          have sB : zCS b n D (c0 + 1) x3 B := ⟨by rw [e3]; exact h1, by rw [e2]; exact h2, ⟨by rw [e2]; exact t1, by rw [e2]; exact t2, by rw [e2]; exact t3, by rw [e2]; exact t4⟩, by rw [eD]; exact h4, h5, h6⟩
          refine ⟨f13.tr fB (Nat.le_refl _), rfl, sB, ⟨?_, trivial⟩, hB⟩
          show B (D + 5) c0 = _
          rw [e5, k13]
          show _ = (if (0 : Int) = 0 then (vl : Int) * 256 + (wd : Int) * 16 + (sg : Int) else _)
          rw [if_pos rfl]
          omega
        have nD : ∀ (A' : zM) a, (zFr [D + 9] A' (if a < 100 then zst A' (D + 9) a 1 else A')) := fun A' a => by
          split
          · exact zFr.st1 (by simp)
          · exact zFr_refl
        have close : ∀ B : zM, zFr [D + 9] A B → zFc D c0 A B → (∀ a, a < 100 → zEd [((0 : Int), (wd : Int), (sg : Int), (vl : Int))] a → B (D + 9) a = 1) → zCr b n D c0 M (.inl ([(0, (wd : Int), (sg : Int), (vl : Int))], x3)) (B, 1) := by
          intro B gB fB hB
          refine fin B fB (gB 3 (by rcases hD with rfl | rfl <;> decide)) (fun s => by rw [gB 2 (by rcases hD with rfl | rfl <;> decide)]) (gB D (by simp)) (gB (D + 5) (by simp)) hB
        unfold f_X3_putComparison
        refine zO_b1 ?_
        rw [w_pack vr (by omega) (by omega)]
        refine zO_b1e hput ?_
        by_cases cw : wd = 2
        · subst cw
          refine zO_brn ⟨by omega, by omega⟩ ⟨by omega, by omega⟩ (by omega) ?_
          have e1 := f3_putEdge (i := i) (a := vl) (M := A) hD (by omega)
          have e2 := fun B => f3_putEdge (i := i) (a := vl + 1) (M := B) hD (by omega)
          rcases (show sg = 0 ∨ sg = 1 ∨ sg = 2 by omega) with rfl | rfl | rfl
          · refine zO_b1 (zO_brn (by omega) (by omega) (by omega) (zO_b1e e1 (zO_some ?_)))
            refine zO_brp (by omega) (by omega) (by omega) (zO_some (zO_some ⟨_, rfl, close _ (nD A vl) (zFc_edge hD) ?_⟩))
            intro a ha he
            rw [zEd_1] at he
            dsimp only at he
            rw [if_pos (by omega), show a = vl by omega, zst_eq]
          · refine zO_b1 (zO_brp (by omega) (by omega) (by omega) (zO_some ?_))
            have e3 := e2 A
            rw [show ((vl + 1 : Nat) : Int) = (vl : Int) + 1 by omega] at e3
            refine zO_brn (by omega) (by omega) (by omega) (zO_b1e e3 (zO_some (zO_some ⟨_, rfl, close _ (nD A (vl + 1)) (zFc_edge hD) ?_⟩)))
            intro a ha he
            rw [zEd_1] at he
            dsimp only at he
            rw [if_pos (by omega), show a = vl + 1 by omega, zst_eq]
          · refine zO_b1 (zO_brn (by omega) (by omega) (by omega) (zO_b1e e1 (zO_some ?_)))
            have e3 := e2 (if vl < 100 then zst A (D + 9) vl 1 else A)
            rw [show ((vl + 1 : Nat) : Int) = (vl : Int) + 1 by omega] at e3
            refine zO_brn (by omega) (by omega) (by omega) (zO_b1e e3 (zO_some (zO_some ⟨_, rfl, close _ ?_ ((zFc_edge hD).tr (zFc_edge hD) (Nat.le_refl _)) ?_⟩)))
            · exact (nD A vl).tr (nD _ (vl + 1))
            · intro a ha he
              rw [zEd_1] at he
              dsimp only at he
              rcases (show a = vl ∨ a = vl + 1 by omega) with rfl | rfl
              · rw [if_pos ha]
                by_cases d : a + 1 < 100
                · rw [if_pos d, zst_ns (by omega), zst_eq]
                · rw [if_neg d, zst_eq]
              · rw [if_pos ha, zst_eq]
        · refine zO_brp ⟨by omega, by omega⟩ ⟨by omega, by omega⟩ (by omega) (zO_some (zO_some ⟨_, rfl, close _ zFr_refl zFc.rf ?_⟩))
          intro a ha he
          rw [zEd_1] at he
          dsimp only at he
          omega
      · rw [if_neg w]
        exact zO_brn (by omega) (by omega) (by omega) (zO_some ⟨_, rfl, fr, rfl, s10.2.2.1, s10.2.2.2.2.2, c0, Nat.le_refl _, by have := s10.2.2.2.2; omega, s10.2.2.2.1⟩)

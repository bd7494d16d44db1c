/-! law: the reference's condition whole -/
theorem m_all {b : Nat → Int} {i n o : Nat} {one : Nat → zPr} (hn : n ≤ 700) (ho : o ≤ 9) (h1 : mS1 i b n o one) (gd : zGd b n one) : mS2 i b n o (pAll b n one) := by
  intro P op jo W x M f j hS hK hop hj hjo hf K
  have key : ∀ (f0 : Nat) (c : List zStp) (x1 : Nat) (M1 : zM) (f g h : Nat) (a : Int) (c' : List zStp), 700 ≤ f0 + x1 → (a = 0 ∨ a = 1) → zFm W M M1 → zMS b n (W + c'.length) x1 M1 → zSk o op (zup jo o (j + a)) M1 → zMk M1 W c' → c = c' ++ (if a = 1 then [((2 : Int), (0 : Int), (0 : Int), (0 : Int))] else []) → W + c.length ≤ 1000 + x1 → 702 ≤ f + x1 → 702 ≤ g + x1 → o + 1 ≤ h → (match pChn b n 1111 (2, 0, 0, 0) one f0 c x1 with
    | .inl q => ∀ (M' : zM) (f g h : Nat) (a : Int) (c' : List zStp), (a = 0 ∨ a = 1) → zFm W M M' → zMS b n (W + c'.length) q.2 M' → zSk o op (zup jo o (j + a)) M' → zMk M' W c' → q.1 = c' ++ (if a = 1 then [((2 : Int), (0 : Int), (0 : Int), (0 : Int))] else []) → ¬ wI b n q.2 1111 → 702 ≤ f + q.2 → 702 ≤ g + q.2 → o + 1 ≤ h → mCL i P f g h M'
    | .inr e => ∀ M', zFm W M M' → zME b n e M' → P M') → mCL i P f g h M1 := by
    intro f0
    induction f0 with
    | zero =>
      intro c x1 M1 f g h a c' hx ha fr S1 K1 k1 hc hW hf hg hh H
      exact H M1 f g h a c' ha fr S1 K1 k1 hc (S1.n0 (by omega)) hf hg hh
    | succ f0 ih =>
      intro c x1 M1 f g h a c' hx ha fr S1 K1 k1 hc hW hf hg hh H
      rw [pChn_s] at H
      have hxn := S1.2.2.2.2.2.2.2.2.2
      have hE := yE_r (b := b) hxn
      have hA := yA_r (b := b) hxn
      by_cases hw : wI b n x1 1111
      · rw [if_pos hw] at H
        have hk := hE.2.2.1 (by have := hw.1; omega)
        have hWc := hW
        rw [hc] at hW
        refine m_and hn ho hop hj ha S1 K1 k1 hW hw (by omega) ?_
        rw [← hc]
        intro M2 fr2 S2 K2 k2
        refine h1 P op (zup jo o (j + 1)) (W + c.length) (yE b n x1) M2 f S2 K2 (by omega) ?_
        obtain ⟨g1, g2⟩ := gd (yE b n x1) hE.2.1
        cases ho1 : one (yE b n x1) with
        | inr e =>
          rw [ho1] at H
          intro M3 fr3 E3
          exact H M3 ((fr.tr fr2 (Nat.le_refl _)).tr fr3 (by omega)) E3
        | inl q =>
          rw [ho1] at H
          have gq := g1 q ho1
          intro M3 f3 g3 h3 fr3 S3 K3 k3 hf3 hg3 hh3
          have hl : (c ++ q.1).length = c.length + q.1.length := List.length_append
          have S3' : zMS b n (W + (c ++ q.1).length) q.2 M3 := by rw [hl, ← Nat.add_assoc]; exact S3
          have k3' : zMk M3 W (c ++ q.1) := by
            rw [zMk_app]
            exact ⟨zMk_c _ _ k2 (fun q t x y u v => fr3.2.2 q t x y v), k3⟩
          refine ih (c ++ (q.1 ++ [((2 : Int), (0 : Int), (0 : Int), (0 : Int))])) q.2 M3 f3 g3 h3 1 (c ++ q.1) (by omega) (Or.inr rfl) ((fr.tr fr2 (Nat.le_refl _)).tr fr3 (by omega)) S3' K3 k3' ?_ ?_ hf3 hg3 hh3 H
          · rw [if_pos rfl, List.append_assoc]
          · rw [← List.append_assoc, List.length_append, hl, List.length_singleton]
            omega
      · rw [if_neg hw] at H
        exact H M1 f g h a c' ha fr S1 K1 k1 hc hw hf hg hh
  refine h1 P op jo W x M f hS hK hf ?_
  unfold pAll pSeq at K
  have hxn := hS.2.2.2.2.2.2.2.2.2
  have hW0 := hS.2.2.2.2.2.2.2.2.1
  obtain ⟨g1, g2⟩ := gd x hxn
  cases ho1 : one x with
  | inr e => rw [ho1] at K; exact K
  | inl q =>
    rw [ho1] at K
    have gq := g1 q ho1
    intro M3 f3 g3 h3 fr3 S3 K3 k3 hf3 hg3 hh3
    refine key 700 q.1 q.2 M3 f3 g3 h3 0 q.1 (by omega) (Or.inl rfl) fr3 S3 ⟨K3.1, K3.2.1, fun t ht => ?_⟩ k3 (by rw [if_neg (by omega), List.append_nil]) (by omega) hf3 hg3 hh3 K
    rw [K3.2.2 t ht]
    by_cases e : t = o
    · subst e; rw [zup_eq, hjo]; omega
    · rw [zup_ne e]
theorem m_any {b : Nat → Int} {i n o : Nat} {all : Nat → zPr} (hn : n ≤ 700) (ho : o ≤ 9) (h1 : mS2 i b n o all) (gd : zGd b n all) : mS3 i b n o (pSeq b n 423 (3, 0, 0, 0) all) := by
  intro P op jo W x M f hS hK hop hjo hf K
  have key : ∀ (f0 : Nat) (c : List zStp) (x1 : Nat) (M1 : zM) (f g h : Nat) (a j : Int) (c' : List zStp), 700 ≤ f0 + x1 → (a = 0 ∨ a = 1) → (j = 0 ∨ j = 2) → zFm W M M1 → zMS b n (W + c'.length) x1 M1 → zSk o op (zup jo o (j + a)) M1 → zMk M1 W c' → c = c' ++ ((if a = 1 then [((2 : Int), (0 : Int), (0 : Int), (0 : Int))] else []) ++ (if j = 2 then [((3 : Int), (0 : Int), (0 : Int), (0 : Int))] else [])) → ¬ wI b n x1 1111 → W + c.length ≤ 1000 + x1 → 702 ≤ f + x1 → 702 ≤ g + x1 → o + 1 ≤ h → (match pChn b n 423 (3, 0, 0, 0) all f0 c x1 with
    | .inl q => ∀ (M' : zM) (f g h : Nat) (a j : Int) (c' : List zStp), (a = 0 ∨ a = 1) → (j = 0 ∨ j = 2) → zFm W M M' → zMS b n (W + c'.length) q.2 M' → zSk o op (zup jo o (j + a)) M' → zMk M' W c' → q.1 = c' ++ ((if a = 1 then [((2 : Int), (0 : Int), (0 : Int), (0 : Int))] else []) ++ (if j = 2 then [((3 : Int), (0 : Int), (0 : Int), (0 : Int))] else [])) → ¬ wI b n q.2 1111 → ¬ wI b n q.2 423 → 702 ≤ f + q.2 → 702 ≤ g + q.2 → o + 1 ≤ h → mCL i P f g h M'
    | .inr e => ∀ M', zFm W M M' → zME b n e M' → P M') → mCL i P f g h M1 := by
    intro f0
    induction f0 with
    | zero =>
      intro c x1 M1 f g h a j c' hx ha hj fr S1 K1 k1 hc hna hW hf hg hh H
      exact H M1 f g h a j c' ha hj fr S1 K1 k1 hc hna (S1.n0 (by omega)) hf hg hh
    | succ f0 ih =>
      intro c x1 M1 f g h a j c' hx ha hj fr S1 K1 k1 hc hna hW hf hg hh H
      rw [pChn_s] at H
      have hxn := S1.2.2.2.2.2.2.2.2.2
      have hE := yE_r (b := b) hxn
      have hA := yA_r (b := b) hxn
      by_cases hw : wI b n x1 423
      · rw [if_pos hw] at H
        have hk := hE.2.2.1 (by have := hw.1; omega)
        rw [hc] at hW
        refine m_pop0 K1 (by omega) hop (by omega) (m_flush hn ho hj ha S1 K1 k1 hW hna ?_)
        rw [← hc]
        intro M2 fr2 S2 K2 k2
        unfold kEnd
        refine zO_b1e (m_is S2 (by omega)) ?_
        rw [if_pos hw]
        refine zO_brn (by omega) (by omega) (by omega) ?_
        rw [K2.1]
        simp only [Int.toNat_natCast]
        refine zO_gd (by omega) (zO_lte (fun B eB => ?_))
        have f2 : zFm (W + c.length) M2 B := by rw [eB]; exact zFm.of (zFr.st1 (by decide)) (fun s _ _ _ _ => by rw [zst_ne (by decide)])
        have s2 : zMS b n (W + c.length) x1 B := S2.fr (fun q hq => by rw [eB, zst_ne (by omega)]) (fun s hs => by rw [eB, zst_ne (by decide)]) (by rw [eB, zst_ne (by decide)]; exact S2.2.2.2.2.2.2.1) S2.2.2.2.2.2.2.2.1 S2.2.2.2.2.2.2.2.2.1
        refine zO_b1q (m_next hn s2) ?_
        rintro C ⟨c1, c2, c3, c4⟩
        refine zO_some (show zO _ _ from zO_some (Or.inr ⟨rfl, ?_⟩))
        have KC : zSk o op (zup jo o 2) C := by
          refine ⟨?_, fun q hq => ?_, fun q hq => ?_⟩
          · rw [c3 45 (by omega), eB, zst_ne (by decide)]; exact K2.1
          · rw [c2 109 (by decide), eB, zst_ne (by decide)]; exact K2.2.1 q hq
          · rw [c2 110 (by decide), eB]
            by_cases e : q = o
            · subst e; rw [zst_eq, zup_eq]
            · rw [zst_ns e, zup_ne e, K2.2.2 q hq, zup_ne e]
        have kC : zMk C W c := zMk_c _ _ k2 (fun q t x y u v => by rw [c2 q (by simp; omega), eB, zst_ne (by omega)])
        have frC := fr.tr (fr2.tr (f2.tr c1 (Nat.le_refl _)) (by omega)) (Nat.le_refl _)
        clear eB
        show mOP i P f 1 C
        refine h1 P op (zup jo o 2) (W + c.length) (yE b n x1) C f 2 c4 KC hop (Or.inr rfl) zup_eq (by omega) ?_
        obtain ⟨g1, g2⟩ := gd (yE b n x1) hE.2.1
        cases ho1 : all (yE b n x1) with
        | inr e =>
          rw [ho1] at H
          intro M3 fr3 E3
          exact H M3 (frC.tr fr3 (by omega)) E3
        | inl q =>
          rw [ho1] at H
          have gq := g1 q ho1
          intro M3 f3 g3 h3 a3 c3' ha3 fr3 S3 K3 k3 hq3 hna3 hf3 hg3 hh3
          have hl : (c ++ c3').length = c.length + c3'.length := List.length_append
          have S3' : zMS b n (W + (c ++ c3').length) q.2 M3 := by rw [hl, ← Nat.add_assoc]; exact S3
          have k3' : zMk M3 W (c ++ c3') := by
            rw [zMk_app]
            exact ⟨zMk_c _ _ kC (fun q t x y u v => fr3.2.2 q t x y v), k3⟩
          rw [zup_up] at K3
          refine ih (c ++ (q.1 ++ [((3 : Int), (0 : Int), (0 : Int), (0 : Int))])) q.2 M3 f3 g3 h3 a3 2 (c ++ c3') (by omega) ha3 (Or.inr rfl) (frC.tr fr3 (by omega)) S3' K3 k3' ?_ hna3 ?_ hf3 hg3 hh3 H
          · rw [if_pos (show (2 : Int) = 2 from rfl), hq3, List.append_assoc, List.append_assoc]
          · rw [List.length_append, List.length_append, List.length_singleton]
            have := hW
            rw [← hc] at this
            omega
      · rw [if_neg hw] at H
        exact H M1 f g h a j c' ha hj fr S1 K1 k1 hc hna hw hf hg hh
  refine h1 P op jo W x M f 0 hS hK hop (Or.inl rfl) hjo hf ?_
  unfold pSeq at K
  have hxn := hS.2.2.2.2.2.2.2.2.2
  have hW0 := hS.2.2.2.2.2.2.2.2.1
  obtain ⟨g1, g2⟩ := gd x hxn
  cases ho1 : all x with
  | inr e => rw [ho1] at K; exact K
  | inl q =>
    rw [ho1] at K
    have gq := g1 q ho1
    intro M3 f3 g3 h3 a3 c3 ha3 fr3 S3 K3 k3 hq3 hna3 hf3 hg3 hh3
    refine key 700 q.1 q.2 M3 f3 g3 h3 a3 0 c3 (by omega) ha3 (Or.inl rfl) fr3 S3 K3 k3 ?_ hna3 (by omega) hf3 hg3 hh3 K
    rw [if_neg (show ¬ (0 : Int) = 2 by omega), List.append_nil]
    exact hq3
theorem m_one0 {b : Nat → Int} {i n : Nat} (hn : n ≤ 700) : mS1 i b n 9 (pOne b n 0) := by
  intro P op jo W x M f hS hK hf K
  have hxn := hS.2.2.2.2.2.2.2.2.2
  obtain ⟨f, rfl⟩ : ∃ t, f = t + 1 := ⟨f - 1, by omega⟩
  unfold pOne at K
  by_cases c : wI b n x 10631 ∨ wS b n x 40
  · rw [if_pos c] at K
    exact mO_nine hS hK c K
  · rw [if_neg c] at K
    refine mO_tst hn hS (fun h => c (Or.inl h)) (fun h => c (Or.inr h)) (by omega) ?_
    have gd := pTst_g (b := b) (n := n) x hxn
    cases ho : pTst b n x with
    | inr e => rw [ho] at K; exact K
    | inl q =>
      rw [ho] at K
      have gq := gd.1 q ho
      intro M' fr S1 k1 e1 e2 e3
      exact K M' f 999999 zfu fr S1 (hK.fr e3 e1 e2) k1 (by omega) (by omega) (by unfold zfu; omega)
theorem m_oneS {b : Nat → Int} {i n m : Nat} (hn : n ≤ 700) (hm : m < 9) (h1 : mS1 i b n (9 - m) (pOne b n m)) (h3 : mS3 i b n (9 - m) (pAny b n (pOne b n m))) : mS1 i b n (9 - (m + 1)) (pOne b n (m + 1)) := by
  intro P op jo W x M f hS hK hf K
  have hxn := hS.2.2.2.2.2.2.2.2.2
  have hW0 := hS.2.2.2.2.2.2.2.2.1
  have hE := yE_r (b := b) hxn
  have hA := yA_r (b := b) hxn
  obtain ⟨f, rfl⟩ : ∃ t, f = t + 1 := ⟨f - 1, by omega⟩
  obtain ⟨o, hoe⟩ : ∃ o, 9 - (m + 1) = o := ⟨_, rfl⟩
  have hoe' : 9 - m = o + 1 := by omega
  rw [hoe] at hK K
  rw [hoe'] at h1 h3
  unfold pOne at K
  by_cases c : wI b n x 10631
  · rw [if_pos c] at K
    have hk := hE.2.2.1 (by have := c.1; omega)
    refine mO_push hn hS hK (by omega) (Or.inl ⟨c, rfl⟩) ?_
    intro M1 fr1 S1 K1
    refine h1 P _ _ W (yE b n x) M1 f S1 K1 (by omega) ?_
    obtain ⟨g1, g2⟩ := pOne_g (b := b) (n := n) m (yE b n x) hE.2.1
    cases ho1 : pOne b n m (yE b n x) with
    | inr e =>
      rw [ho1] at K
      intro M2 fr2 E2
      exact K M2 (fr1.tr fr2 (Nat.le_refl _)) E2
    | inl q =>
      rw [ho1] at K
      have gq := g1 q ho1
      intro M2 f2 g2 h2 fr2 S2 K2 k2 hf2 hg2 hh2
      obtain ⟨h2, rfl⟩ : ∃ t, h2 = t + 1 := ⟨h2 - 1, by omega⟩
      refine m_pop1 (o := o) hn S2 (by omega) (by omega) K2.1 (by rw [K2.2.1 o (by omega), zup_eq]) ?_
      intro M3 fr3 S3 e45 e109 e110 k3
      have hl : (q.1 ++ [((1 : Int), (0 : Int), (0 : Int), (0 : Int))]).length = q.1.length + 1 := by simp
      refine K M3 f2 g2 h2 ((fr1.tr fr2 (Nat.le_refl _)).tr fr3 (by omega)) ?_ ⟨e45, fun t ht => ?_, fun t ht => ?_⟩ ?_ hf2 hg2 (by omega)
      · dsimp only
        rw [hl]
        exact S3
      · rw [e109, K2.2.1 t (by omega), zup_ne (by omega)]
      · rw [e110, K2.2.2 t (by omega), zup_ne (by omega)]
      · dsimp only
        rw [zMk_app]
        exact ⟨zMk_c _ _ k2 (fun q t x y u v => fr3.2.2 q t x y v), k3⟩
  · rw [if_neg c] at K
    by_cases d : wS b n x 40
    · rw [if_pos d] at K
      have hk := hE.2.2.1 (by have := d.1; omega)
      refine mO_push hn hS hK (by omega) (Or.inr ⟨c, d, rfl⟩) ?_
      intro M1 fr1 S1 K1
      refine h3 P _ _ W (yE b n x) M1 f S1 K1 (Or.inr (by rw [show o + 1 - 1 = o by omega, zup_eq])) zup_eq (by omega) ?_
      obtain ⟨g1, g2⟩ := (show zGd b n (pAny b n (pOne b n m)) from pSeq_g (pSeq_g (pOne_g m))) (yE b n x) hE.2.1
      cases ho1 : pAny b n (pOne b n m) (yE b n x) with
      | inr e =>
        rw [ho1] at K
        intro M2 fr2 E2
        exact K M2 (fr1.tr fr2 (Nat.le_refl _)) E2
      | inl q =>
        rw [ho1] at K
        dsimp only at K
        have gq := g1 q ho1
        intro M2 f2 g2 h2 a2 j2 c2 ha2 hj2 fr2 S2 K2 k2 hq2 hna hno hf2 hg2 hh2
        have hW2 : W + q.1.length ≤ 1000 + q.2 := by omega
        rw [hq2] at hW2
        refine m_pop0 K2 (by omega) (Or.inr (by rw [show o + 1 - 1 = o by omega, zup_eq])) (by omega) (m_flush hn (by omega) hj2 ha2 S2 K2 k2 hW2 hna ?_)
        rw [← hq2]
        intro M3 fr3 S3 K3 k3
        have ht := yT_1 S3.2.2.2.1.2.2.1
        have w41 := ht.2.2.2.1 41 (by unfold ySg; omega)
        have hr := ht.2.2.2.2
        unfold kEnd
        refine zO_b1e (m_is S3 (by omega)) ?_
        rw [if_neg hno]
        refine zO_brp (by omega) (by omega) (by omega) ?_
        rw [K3.1]
        refine zO_b1e (zbr_n ⟨by omega, by omega⟩ ⟨by omega, by omega⟩ (by omega)) (zO_brp (by omega) (by omega) (by omega) ?_)
        have hE2 := yE_r (b := b) gq.2.2
        have hA2 := yA_r (b := b) gq.2.2
        by_cases w : wS b n q.2 41
        · rw [if_pos w] at K
          have hk2 := hE2.2.2.1 (by have := w.1; omega)
          refine zO_brp ⟨by omega, by omega⟩ ⟨by omega, by omega⟩ (w41.2 w) (zO_lte (fun A eA => ?_))
          have fA : zFm (W + q.1.length) M3 A := by rw [eA]; exact zFm.of (zFr.st1 (by decide)) (fun s _ _ _ e => zst_ns e)
          have sA : zMS b n (W + q.1.length) q.2 A := S3.fr (fun q hq => by rw [eA, zst_ne (by omega)]) (fun s hs => by rw [eA, zst_ns (by omega)]) (by rw [eA, zst_ns (by decide)]; exact S3.2.2.2.2.2.2.1) S3.2.2.2.2.2.2.2.1 S3.2.2.2.2.2.2.2.2.1
          refine zO_b1q (m_next hn sA) ?_
          rintro B ⟨b1, b2, b3, b4⟩
          obtain ⟨g2, rfl⟩ : ∃ t, g2 = t + 1 := ⟨g2 - 1, by omega⟩
          refine zO_some (mCL_2 b4.2.2.2.2.1 (K B f2 g2 zfu ((fr1.tr fr2 (Nat.le_refl _)).tr (fr3.tr (fA.tr b1 (Nat.le_refl _)) (by omega)) (Nat.le_refl _)) b4 ⟨?_, fun t ht => ?_, fun t ht => ?_⟩ ?_ (by dsimp only; omega) (by dsimp only; omega) (by unfold zfu; omega)))
          · rw [b3 45 (by omega), eA, zst_eq]; omega
          · rw [b2 109 (by decide), eA, zst_ne (by decide), K3.2.1 t (by omega), zup_ne (by omega)]
          · rw [b2 110 (by decide), eA, zst_ne (by decide), K3.2.2 t (by omega), zup_up, zup_ne (by omega)]
          · exact zMk_c _ _ k3 (fun q t x y u v => by rw [b2 q (by simp; omega), eA, zst_ne (by omega)])
        · rw [if_neg w] at K
          refine zO_brn ⟨by omega, by omega⟩ ⟨by omega, by omega⟩ (fun h => w (w41.1 h)) (zO_b1q (m_errs S3) ?_)
          rintro A ⟨a1, _, a3, _⟩
          obtain ⟨f2, rfl⟩ : ∃ t, f2 = t + 1 := ⟨f2 - 1, by omega⟩
          exact zO_some (show zO _ _ from zO_some (Or.inl ⟨rfl, mOP_0 (K A ((fr1.tr fr2 (Nat.le_refl _)).tr (fr3.tr a1 (by omega)) (Nat.le_refl _)) a3)⟩))
    · rw [if_neg d] at K
      refine mO_tst hn hS c d (by omega) ?_
      have gd := pTst_g (b := b) (n := n) x hxn
      cases ho : pTst b n x with
      | inr e => rw [ho] at K; exact K
      | inl q =>
        rw [ho] at K
        have gq := gd.1 q ho
        intro M' fr S1 k1 e1 e2 e3
        exact K M' f 999999 zfu fr S1 (hK.fr e3 e1 e2) k1 (by omega) (by omega) (by unfold zfu; omega)
theorem m_rd {b : Nat → Int} {i n : Nat} (hn : n ≤ 700) : ∀ m : Nat, m ≤ 9 → mS1 i b n (9 - m) (pOne b n m) ∧ mS3 i b n (9 - m) (pAny b n (pOne b n m)) := by
  intro m
  induction m with
  | zero =>
    intro _
    exact ⟨m_one0 hn, m_any hn (by omega) (m_all hn (by omega) (m_one0 hn) (pOne_g 0)) (pSeq_g (pOne_g 0))⟩
  | succ m ih =>
    intro hm
    obtain ⟨i1, i3⟩ := ih (by omega)
    have h1 := m_oneS (i := i) hn (by omega) i1 i3
    exact ⟨h1, m_any hn (by omega) (m_all hn (by omega) h1 (pOne_g (m + 1))) (pSeq_g (pOne_g (m + 1)))⟩
theorem m_cond {b : Nat → Int} {i n W x : Nat} {M : zM} (hn : n ≤ 700) (hS : zMS b n W x M) : zO (g_X11_readCondition (zKn i) M) (fun M' => zFm W M M' ∧ match pCnd b n x with
  | .inl q => zMS b n (W + q.1.length) q.2 M' ∧ zMk M' W q.1
  | .inr e => zME b n e M') := by
  unfold g_X11_readCondition
  refine zO_lte (fun A eA => zO_gd (by omega) (zO_lte (fun B eB => zO_sp1 ?_)))
  have b76 : ∀ s, s ≠ 45 → B 76 s = M 76 s := fun s hs => by rw [eB, zst_ne (by decide), eA, zst_ns hs]
  have fB : zFr [76, 109, 110] M B := by rw [eB, eA]; exact (zFr.st1 (by decide)).st (by decide)
  have b45 : B 76 45 = 0 := by rw [eB, zst_ne (by decide), eA, zst_eq]
  have b110 : B 110 0 = 0 := by rw [eB]; exact zst_eq
  clear eA eB
  have sB : zMS b n W x B := hS.fr (fun q hq => fB q (by simp; omega)) (fun s hs => b76 s (by omega)) (by rw [b76 28 (by decide)]; exact hS.2.2.2.2.2.2.1) hS.2.2.2.2.2.2.2.1 hS.2.2.2.2.2.2.2.2.1
  have frB : zFm W M B := zFm.of fB (fun s _ _ _ e => b76 s e)
  have hxn := hS.2.2.2.2.2.2.2.2.2
  have hW0 := hS.2.2.2.2.2.2.2.2.1
  refine (m_rd (i := i) (b := b) hn 9 (by omega)).2 (fun M' => zFm W M M' ∧ match pCnd b n x with
    | .inl q => zMS b n (W + q.1.length) q.2 M' ∧ zMk M' W q.1
    | .inr e => zME b n e M') (fun _ => 0) (fun _ => 0) W x B zfu sB ⟨b45, fun q hq => by omega, fun q hq => by rw [show q = 0 by omega]; exact b110⟩ (Or.inl rfl) rfl (by unfold zfu; omega) ?_
  obtain ⟨g1, g2⟩ := pCnd_g (b := b) (n := n) x hxn
  show (match pCnd b n x with
    | .inl q => _
    | .inr e => _)
  cases ho1 : pCnd b n x with
  | inr e =>
    intro M2 fr2 E2
    exact ⟨frB.tr fr2 (Nat.le_refl _), E2⟩
  | inl q =>
    have gq := g1 q ho1
    intro M2 f2 g2 h2 a2 j2 c2 ha2 hj2 fr2 S2 K2 k2 hq2 hna hno hf2 hg2 hh2
    have hW2 : W + q.1.length ≤ 1000 + q.2 := by omega
    rw [hq2] at hW2
    refine m_pop0 K2 (by omega) (Or.inl rfl) (by omega) (m_flush hn (by omega) hj2 ha2 S2 K2 k2 hW2 hna ?_)
    rw [← hq2]
    intro M3 fr3 S3 K3 k3
    unfold kEnd
    refine zO_b1e (m_is S3 (by omega)) ?_
    rw [if_neg hno]
    refine zO_brp (by omega) (by omega) (by omega) ?_
    rw [K3.1]
    refine zO_b1e (zbr_p (by omega) (by omega) (by omega)) (zO_brn (by omega) (by omega) (by omega) ?_)
    obtain ⟨f2, rfl⟩ : ∃ t, f2 = t + 1 := ⟨f2 - 1, by omega⟩
    exact zO_some (show zO _ _ from zO_some (Or.inl ⟨rfl, mOP_0 ⟨frB.tr (fr2.tr fr3 (Nat.le_refl _)) (Nat.le_refl _), S3, k3⟩⟩))

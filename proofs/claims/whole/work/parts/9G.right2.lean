def sRig (E : zE) (M : zM) (a : Nat) (q w : Int) (n : Nat) : Int := if sLean E M a q 256 = 0 then -1 else if sQt M n = 0 then -1 else sLow (sQf M q n * sLean E M a (-1) 256) (sLean E M a q 256 * sQt M n) w
theorem sRig_q {E : zE} {M M' : zM} (hg : zgm E M' = zgm E M) (h9 : M' 9 = M 9) (h10 : M' 10 = M 10) {a : Nat} {q w : Int} {n : Nat} : sRig E M' a q w n = sRig E M a q w n := by
  unfold sRig sQt sQf
  rw [sLean_q hg, sLean_q hg, h9, h10]
theorem p_right {i L : Nat} {M : zM} {E : zE} {p1 p2 p3 : Int} (hI : zInv i L M E) (h1 : zr p1) (h2 : zr p2) (h3 : zr p3) : zP2 i L E (g_X10_right (zKn i) p1 p2 p3) (g_X11_right (zKn i) p1 p2 p3) M := by
  have no : (∀ A, zInv i L A E → g_X10_right (zKn i) p1 p2 p3 A = some (A, -1)) → (∀ A, zInv i L A E → g_X11_right (zKn i) p1 p2 p3 A = some (A, -1)) → zP2 i L E (g_X10_right (zKn i) p1 p2 p3) (g_X11_right (zKn i) p1 p2 p3) M := by
    intro c m
    exact zO_eq (c M hI) (zO_eq (m M hI) ⟨rfl, hI⟩)
  have z0 : zr 0 := ⟨by omega, by omega⟩
  have z1 : zr 1 := ⟨by omega, by omega⟩
  have z3 : zr 3 := ⟨by omega, by omega⟩
  by_cases hq : 0 ≤ p1 ∧ p1 ≤ 3
  · by_cases ha : 0 ≤ p2 ∧ p2 < 100
    · by_cases hw : p3 = 0 ∨ p3 = 1
      · obtain ⟨a, rfl⟩ : ∃ a : Nat, p2 = a := ⟨p2.toNat, by omega⟩
        have ha' : a < 100 := by omega
        clear no
        refine zP2_of (fun M => sRig E M a p1 p3 (M 4 17).toNat) hI ?_ (fun M' h => ?_) (fun M' q => by rw [q.1 4 (by omega) (by omega)]; exact sRig_q (zgm_qc q) (q.1 9 (by omega) (by omega)) (q.1 10 (by omega) (by omega)))
        · obtain ⟨tb, _⟩ := t_age (k := zKn i) (M := M) ha
          obtain ⟨tp, _⟩ := t_part (k := zKn i) (M := M) hw
          unfold g_X10_right
          refine zO_brn ⟨by omega, by omega⟩ ⟨by omega, by omega⟩ (by omega) (zO_brn ⟨by omega, by omega⟩ ⟨by omega, by omega⟩ (by omega) (zO_b1e tb (zO_brn (by omega) (by omega) (by omega) (zO_b1e tp (zO_brp (by omega) (by omega) (by omega) ?_)))))
          refine zO_bdq (g10_view' ha' hI) ?_
          rintro A v ⟨hv1, hq', hv, hI'⟩
          dsimp only at hv1 hq' hv hI'
          subst hv1
          refine zO_gd zt_21 ?_
          simp only [show (21 : Int).toNat = 21 from rfl, show (37 : Int).toNat = 37 from rfl, zq_21_0, zq_21_1, zq_21_2, e_X8_heightOf, e_X8_wordsOf, e_X8_kindOf, e_X10_reckonLeft, e_X10_sumFish]
          refine zO_bdq (g10_fish hI' hv ha' hq) ?_
          rintro B u ⟨b1, b2, b3, b4⟩
          dsimp only at b1 b2 b3 b4
          have hr := sLean_r hI'.1 (a := a) (q := p1) (n := 256) (by omega)
          have hr2 := sLean_r hI.1 (a := a) (q := -1) (n := 256) (by omega)
          have hr3 := sLean_r hI.1 (a := a) (q := p1) (n := 256) (by omega)
          have eB : sLean E B a p1 256 = sLean E A a p1 256 := sLean_q (zgm_qc b2.1)
          have eA : sLean E A a p1 256 = sLean E M a p1 256 := sLean_q (zgm_qc hq'.1)
          refine zO_gd ⟨by omega, by omega⟩ ?_
          rw [b1, ← eB, eb_X10_right_51]
          refine zO_b2 (zO_mono (r10_all b4 b3 ha' hq) ?_)
          rintro ⟨x, C⟩ ⟨c1, c2, c3, c4⟩
          dsimp only at c1 c2 c3 c4
          dsimp only
          have qC : zQw M C := (hq'.tr b2).tr c2
          have hx : x = sLean E M a (-1) 256 := by
            rw [c1]
            exact sLean_q (zgm_qc (hq'.tr b2).1)
          obtain ⟨n, n1, n2, n3⟩ := c4.1.finds
          have hn : M 4 17 = (n : Int) := by rw [← qC.1.1 4 (by omega) (by omega)]; exact n1
          refine zO_b2 (zO_eq (r10_cnt c4.1 hq n1 n3) ?_)
          dsimp only
          have f1 : sQf C p1 n = sQf M p1 n := by unfold sQf; rw [qC.1.1 9 (by omega) (by omega), qC.1.1 10 (by omega) (by omega)]
          have f2 : sQt C n = sQt M n := by unfold sQt; rw [qC.1.1 10 (by omega) (by omega)]
          have r1 := sQf_r (M := M) (q := p1) (n := n)
          have r2 := sQt_r (M := M) (n := n)
          rw [eB, eA] at *
          rw [f1, f2, hx]
          rw [hn, Int.toNat_natCast]
          unfold sRig
          generalize sLean E M a p1 256 = S at *
          generalize sLean E M a (-1) 256 = T at *
          generalize sQf M p1 n = U at *
          generalize sQt M n = V at *
          by_cases g1 : S = 0
          · rw [if_pos g1]
            exact zO_blp (by omega) (by omega) g1 (zO_some ⟨rfl, qC, c3.1.ca⟩)
          · rw [if_neg g1]
            refine zO_bln (by omega) (by omega) g1 ?_
            by_cases g2 : V = 0
            · rw [if_pos g2]
              exact zO_bln (by omega) (by omega) (by omega) (zO_some ⟨rfl, qC, c3.1.ca⟩)
            · rw [if_neg g2]
              refine zO_blp (by omega) (by omega) g2 ?_
              have m1 : 0 ≤ U * T := Int.mul_nonneg (by omega) (by omega)
              have m2 : U * T ≤ 60 * 25344 := Int.mul_le_mul (by omega) (by omega) (by omega) (by omega)
              have m3 : 0 < S * V := Int.mul_pos (by omega) (by omega)
              have m4 : S * V ≤ 25344 * 60 := Int.mul_le_mul (by omega) (by omega) (by omega) (by omega)
              refine zO_b1e (g5_put ⟨m1, by omega⟩ ⟨m3, by omega⟩) (zO_b1e (g5_part hw) (zO_some ⟨rfl, qC.tr ⟨?_, by dsimp only; rw [zst_ne (by decide), zst_ne (by decide)], by dsimp only; rw [zst_ne (by decide), zst_ne (by decide)]⟩, ?_⟩))
              · exact ⟨fun q x y => by dsimp only; rw [zst_ne (by omega), zst_ne (by omega)], fun x _ => by dsimp only; rw [zst_ne (by decide), zst_ne (by decide)]⟩
              · exact (c3.1.ca).fr (by dsimp only; rw [zst_ne (by decide), zst_ne (by decide)]) (fun q hq => by dsimp only; rw [zst_ne (by omega), zst_ne (by omega)])
        · obtain ⟨_, tb⟩ := t_age (k := zKn i) (M := M') ha
          obtain ⟨_, tp⟩ := t_part (k := zKn i) (M := M') hw
          have tm := t_in (k := zKn i) (M := M') (a := p1) (b := 0) (c := 3) h1 z0 z3 hq
          unfold g_X11_right
          refine zO_b1e tm (zO_brn (by omega) (by omega) (by omega) (zO_b1e tb (zO_brn (by omega) (by omega) (by omega) (zO_b1e tp (zO_brp (by omega) (by omega) (by omega) ?_)))))
          refine zO_b1q (g11_finds h.1 ha') ?_
          rintro A ⟨hq', hv⟩
          have hA := h.1.qm hq'
          obtain ⟨n, n1, n2, n3⟩ := hA.finds
          have hn : M' 4 17 = (n : Int) := by rw [← hq'.1 4 (by omega) (by omega)]; exact n1
          refine zO_b2 (zO_eq (r11_cnt hA hq n2 n3) ?_)
          dsimp only
          refine zO_bdq (g11_lean hA hv ha' (by omega : -1 ≤ p1 ∧ p1 ≤ 3)) ?_
          rintro B u ⟨b1, b2, b3⟩
          dsimp only at b1 b2 b3
          have qB := hq'.tr b2
          have hB := hA.qm b2
          have hr := sLean_r hA (a := a) (q := p1) (n := 256) (by omega)
          have hr2 := sLean_r hB (a := a) (q := -1) (n := 256) (by omega)
          have f1 : sQf A p1 n = sQf M' p1 n := by unfold sQf; rw [hq'.1 9 (by omega) (by omega), hq'.1 10 (by omega) (by omega)]
          have f2 : sQt A n = sQt M' n := by unfold sQt; rw [hq'.1 10 (by omega) (by omega)]
          have r1 := sQf_r (M := M') (q := p1) (n := n)
          have r2 := sQt_r (M := M') (n := n)
          have eA : sLean E A a p1 256 = sLean E M' a p1 256 := sLean_q (zgm_qm hq')
          have eB : sLean E B a (-1) 256 = sLean E M' a (-1) 256 := sLean_q (zgm_qm qB)
          refine zO_gd ⟨by omega, by omega⟩ ?_
          rw [b1, eA, f1, f2, hn, Int.toNat_natCast]
          rw [eA] at hr
          unfold sRig
          by_cases g1 : sLean E M' a p1 256 = 0
          · rw [if_pos g1]
            exact zO_blp (by omega) (by omega) g1 (zO_some ⟨rfl, qB⟩)
          · rw [if_neg g1]
            refine zO_bln (by omega) (by omega) g1 ?_
            by_cases g2 : sQt M' n = 0
            · rw [if_pos g2]
              exact zO_bln (by omega) (by omega) (by omega) (zO_some ⟨rfl, qB⟩)
            · rw [if_neg g2]
              refine zO_blp (by omega) (by omega) g2 ?_
              refine zO_bdq (g11_lean hB b3 ha' (by omega : -1 ≤ (-1 : Int) ∧ (-1 : Int) ≤ 3)) ?_
              rintro C v ⟨c1, c2, c3⟩
              dsimp only at c1 c2 c3
              refine zO_gd ⟨by omega, by omega⟩ ?_
              rw [c1, eB]
              rw [eB] at hr2
              generalize sLean E M' a p1 256 = S at *
              generalize sLean E M' a (-1) 256 = T at *
              generalize sQf M' p1 n = U at *
              generalize sQt M' n = V at *
              have m1 : 0 ≤ U * T := Int.mul_nonneg (by omega) (by omega)
              have m2 : U * T ≤ 60 * 25344 := Int.mul_le_mul (by omega) (by omega) (by omega) (by omega)
              have m3 : 0 < S * V := Int.mul_pos (by omega) (by omega)
              have m4 : S * V ≤ 25344 * 60 := Int.mul_le_mul (by omega) (by omega) (by omega) (by omega)
              refine zO_b1e (f11_low hw ⟨m1, by omega⟩ ⟨m3, by omega⟩) (zO_some ⟨rfl, qB.tr c2⟩)
      · refine no (fun A _ => ?_) (fun A _ => ?_)
        · apply zO_get
          unfold g_X10_right
          exact zO_brn ⟨by omega, by omega⟩ ⟨by omega, by omega⟩ (by omega) (zO_brn ⟨by omega, by omega⟩ ⟨by omega, by omega⟩ (by omega) (zO_b1e (t_age ha).1 (zO_brn (by omega) (by omega) (by omega) (zO_b1e (t_part_n h3 hw).1 (zO_brn (by omega) (by omega) (by omega) (zO_some rfl))))))
        · apply zO_get
          unfold g_X11_right
          exact zO_b1e (t_in h1 z0 z3 hq) (zO_brn (by omega) (by omega) (by omega) (zO_b1e (t_age ha).2 (zO_brn (by omega) (by omega) (by omega) (zO_b1e (t_part_n h3 hw).2 (zO_brn (by omega) (by omega) (by omega) (zO_some rfl))))))
    · refine no (fun A _ => ?_) (fun A _ => ?_)
      · apply zO_get
        unfold g_X10_right
        exact zO_brn ⟨by omega, by omega⟩ ⟨by omega, by omega⟩ (by omega) (zO_brn ⟨by omega, by omega⟩ ⟨by omega, by omega⟩ (by omega) (zO_b1e (t_age_n h2 ha).1 (zO_brp (by omega) (by omega) (by omega) (zO_some rfl))))
      · apply zO_get
        unfold g_X11_right
        exact zO_b1e (t_in h1 z0 z3 hq) (zO_brn (by omega) (by omega) (by omega) (zO_b1e (t_age_n h2 ha).2 (zO_brp (by omega) (by omega) (by omega) (zO_some rfl))))
  · refine no (fun A _ => ?_) (fun A _ => ?_)
    · apply zO_get
      unfold g_X10_right
      by_cases hn : p1 < 0
      · exact zO_brp ⟨by omega, by omega⟩ ⟨by omega, by omega⟩ hn (zO_some rfl)
      · exact zO_brn ⟨by omega, by omega⟩ ⟨by omega, by omega⟩ hn (zO_brp ⟨by omega, by omega⟩ ⟨by omega, by omega⟩ (by omega) (zO_some rfl))
    · apply zO_get
      unfold g_X11_right
      exact zO_b1e (t_in_n h1 z0 z3 hq) (zO_brp (by omega) (by omega) (by omega) (zO_some rfl))

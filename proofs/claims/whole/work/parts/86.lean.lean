/-! lean -/
def sQu (c : Nat) : Int := (if 7 < c % 16 then 1 else 0) + (if 7 < c / 16 then 2 else 0)
theorem f_qu {k : zK} {c : Int} {M : zM} (hc : 0 ≤ c ∧ c < 256) : f_X10_quarterOf k c M = some (sQu c.toNat) ∧ f_X11_quarterOf k c M = some (sQu c.toNat) := by
  obtain ⟨n, rfl⟩ : ∃ n : Nat, c = n := ⟨c.toNat, by omega⟩
  rw [Int.toNat_natCast]
  constructor
  · apply zO_get
    unfold f_X10_quarterOf sQu
    repeat' (first | (with_reducible refine zO_lt ?_) | (with_reducible refine zO_gd ?hc ?_; case hc => (first | omega | (simp (disch := omega) only [zst_ne, zst_s, zup_eq, zup_ne, Int.toNat_natCast, not_true_eq_false, not_false_eq_true, true_or, or_true, true_and, and_true]; first | done | omega) | with_reducible exact True.intro)) | (with_reducible refine zO_brp ?ha ?hb ?hc ?_; (case ha => (first | omega | (simp (disch := omega) only [zst_ne, zst_s, zup_eq, zup_ne, Int.toNat_natCast, not_true_eq_false, not_false_eq_true, true_or, or_true, true_and, and_true]; first | done | omega) | with_reducible exact True.intro)); (case hb => (first | omega | (simp (disch := omega) only [zst_ne, zst_s, zup_eq, zup_ne, Int.toNat_natCast, not_true_eq_false, not_false_eq_true, true_or, or_true, true_and, and_true]; first | done | omega) | with_reducible exact True.intro)); (case hc => (first | omega | (simp (disch := omega) only [zst_ne, zst_s, zup_eq, zup_ne, Int.toNat_natCast, not_true_eq_false, not_false_eq_true, true_or, or_true, true_and, and_true]; first | done | omega) | with_reducible exact True.intro))) | (with_reducible refine zO_brn ?ha ?hb ?hc ?_; (case ha => (first | omega | (simp (disch := omega) only [zst_ne, zst_s, zup_eq, zup_ne, Int.toNat_natCast, not_true_eq_false, not_false_eq_true, true_or, or_true, true_and, and_true]; first | done | omega) | with_reducible exact True.intro)); (case hb => (first | omega | (simp (disch := omega) only [zst_ne, zst_s, zup_eq, zup_ne, Int.toNat_natCast, not_true_eq_false, not_false_eq_true, true_or, or_true, true_and, and_true]; first | done | omega) | with_reducible exact True.intro)); (case hc => (first | omega | (simp (disch := omega) only [zst_ne, zst_s, zup_eq, zup_ne, Int.toNat_natCast, not_true_eq_false, not_false_eq_true, true_or, or_true, true_and, and_true]; first | done | omega) | with_reducible exact True.intro))) | simp (disch := omega) only [zst_ne, zst_s, zup_eq, zup_ne, Int.toNat_natCast, not_true_eq_false, not_false_eq_true, true_or, or_true, true_and, and_true] | (with_reducible refine zO_br ?ha ?hb (fun _ => ?_) (fun _ => ?_); (case ha => (first | omega | (simp (disch := omega) only [zst_ne, zst_s, zup_eq, zup_ne, Int.toNat_natCast, not_true_eq_false, not_false_eq_true, true_or, or_true, true_and, and_true]; first | done | omega) | with_reducible exact True.intro)); (case hb => (first | omega | (simp (disch := omega) only [zst_ne, zst_s, zup_eq, zup_ne, Int.toNat_natCast, not_true_eq_false, not_false_eq_true, true_or, or_true, true_and, and_true]; first | done | omega) | with_reducible exact True.intro))) | (with_reducible refine zO_ifp ?hc ?_; case hc => (first | omega | (simp (disch := omega) only [zst_ne, zst_s, zup_eq, zup_ne, Int.toNat_natCast, not_true_eq_false, not_false_eq_true, true_or, or_true, true_and, and_true]; first | done | omega) | with_reducible exact True.intro)) | (with_reducible refine zO_ifn ?hc ?_; case hc => (first | omega | (simp (disch := omega) only [zst_ne, zst_s, zup_eq, zup_ne, Int.toNat_natCast, not_true_eq_false, not_false_eq_true, true_or, or_true, true_and, and_true]; first | done | omega) | with_reducible exact True.intro)) | (with_reducible refine zO_somek ?_) | (with_reducible refine zO_inlk ?_) | (with_reducible refine zO_inrk ?_) | (with_reducible refine zO_sp0 ?_) | (with_reducible refine zO_sp1 ?_) | (with_reducible refine zO_sp2 ?_) | (with_reducible refine zO_sp3 ?_) | (with_reducible refine zO_sp4 ?_) | (with_reducible refine zO_b2 ?_) | (with_reducible refine zO_b3 ?_) | (with_reducible refine zO_b4 ?_) | (with_reducible refine zO_bd ?_) | (with_reducible refine zO_b0 ?_) | (with_reducible refine zO_b1 ?_) | fail)
    all_goals refine zO_some ?_
    all_goals repeat' split
    all_goals omega
  · apply zO_get
    unfold f_X11_quarterOf sQu
    repeat' (first | (with_reducible refine zO_lt ?_) | (with_reducible refine zO_gd ?hc ?_; case hc => (first | omega | (simp (disch := omega) only [zst_ne, zst_s, zup_eq, zup_ne, Int.toNat_natCast, not_true_eq_false, not_false_eq_true, true_or, or_true, true_and, and_true]; first | done | omega) | with_reducible exact True.intro)) | (with_reducible refine zO_brp ?ha ?hb ?hc ?_; (case ha => (first | omega | (simp (disch := omega) only [zst_ne, zst_s, zup_eq, zup_ne, Int.toNat_natCast, not_true_eq_false, not_false_eq_true, true_or, or_true, true_and, and_true]; first | done | omega) | with_reducible exact True.intro)); (case hb => (first | omega | (simp (disch := omega) only [zst_ne, zst_s, zup_eq, zup_ne, Int.toNat_natCast, not_true_eq_false, not_false_eq_true, true_or, or_true, true_and, and_true]; first | done | omega) | with_reducible exact True.intro)); (case hc => (first | omega | (simp (disch := omega) only [zst_ne, zst_s, zup_eq, zup_ne, Int.toNat_natCast, not_true_eq_false, not_false_eq_true, true_or, or_true, true_and, and_true]; first | done | omega) | with_reducible exact True.intro))) | (with_reducible refine zO_brn ?ha ?hb ?hc ?_; (case ha => (first | omega | (simp (disch := omega) only [zst_ne, zst_s, zup_eq, zup_ne, Int.toNat_natCast, not_true_eq_false, not_false_eq_true, true_or, or_true, true_and, and_true]; first | done | omega) | with_reducible exact True.intro)); (case hb => (first | omega | (simp (disch := omega) only [zst_ne, zst_s, zup_eq, zup_ne, Int.toNat_natCast, not_true_eq_false, not_false_eq_true, true_or, or_true, true_and, and_true]; first | done | omega) | with_reducible exact True.intro)); (case hc => (first | omega | (simp (disch := omega) only [zst_ne, zst_s, zup_eq, zup_ne, Int.toNat_natCast, not_true_eq_false, not_false_eq_true, true_or, or_true, true_and, and_true]; first | done | omega) | with_reducible exact True.intro))) | simp (disch := omega) only [zst_ne, zst_s, zup_eq, zup_ne, Int.toNat_natCast, not_true_eq_false, not_false_eq_true, true_or, or_true, true_and, and_true] | (with_reducible refine zO_br ?ha ?hb (fun _ => ?_) (fun _ => ?_); (case ha => (first | omega | (simp (disch := omega) only [zst_ne, zst_s, zup_eq, zup_ne, Int.toNat_natCast, not_true_eq_false, not_false_eq_true, true_or, or_true, true_and, and_true]; first | done | omega) | with_reducible exact True.intro)); (case hb => (first | omega | (simp (disch := omega) only [zst_ne, zst_s, zup_eq, zup_ne, Int.toNat_natCast, not_true_eq_false, not_false_eq_true, true_or, or_true, true_and, and_true]; first | done | omega) | with_reducible exact True.intro))) | (with_reducible refine zO_ifp ?hc ?_; case hc => (first | omega | (simp (disch := omega) only [zst_ne, zst_s, zup_eq, zup_ne, Int.toNat_natCast, not_true_eq_false, not_false_eq_true, true_or, or_true, true_and, and_true]; first | done | omega) | with_reducible exact True.intro)) | (with_reducible refine zO_ifn ?hc ?_; case hc => (first | omega | (simp (disch := omega) only [zst_ne, zst_s, zup_eq, zup_ne, Int.toNat_natCast, not_true_eq_false, not_false_eq_true, true_or, or_true, true_and, and_true]; first | done | omega) | with_reducible exact True.intro)) | (with_reducible refine zO_somek ?_) | (with_reducible refine zO_inlk ?_) | (with_reducible refine zO_inrk ?_) | (with_reducible refine zO_sp0 ?_) | (with_reducible refine zO_sp1 ?_) | (with_reducible refine zO_sp2 ?_) | (with_reducible refine zO_sp3 ?_) | (with_reducible refine zO_sp4 ?_) | (with_reducible refine zO_b2 ?_) | (with_reducible refine zO_b3 ?_) | (with_reducible refine zO_b4 ?_) | (with_reducible refine zO_bd ?_) | (with_reducible refine zO_b0 ?_) | (with_reducible refine zO_b1 ?_) | fail)
    all_goals refine zO_some ?_
    all_goals repeat' split
    all_goals omega
theorem sQu_r {c : Nat} : 0 ≤ sQu c ∧ sQu c ≤ 3 := by unfold sQu; split <;> split <;> omega
def zfi (E : zE) (M : zM) (a c : Nat) : Int := eF E 3 (sWo (zgm E M) (eV E a) a c) 0
def sLean (E : zE) (M : zM) (a : Nat) (q : Int) (n : Nat) : Int := zsum n (fun c => if q < 0 ∨ sQu c = q then zfi E M a c else 0)
theorem zfi_r {i L : Nat} {M : zM} {E : zE} (h : zSt i L M E) {a c : Nat} : 0 ≤ zfi E M a c ∧ zfi E M a c ≤ 99 := h.1.1.2.2.2.1 _
theorem sLean_r {i L : Nat} {M : zM} {E : zE} (h : zSt i L M E) {a : Nat} {q : Int} {n : Nat} (hn : n ≤ 256) : 0 ≤ sLean E M a q n ∧ sLean E M a q n ≤ 25344 := by
  have h1 : 0 ≤ sLean E M a q n := zsum_nn (fun c _ => by have := zfi_r h (a := a) (c := c); show 0 ≤ (if _ then zfi E M a c else 0); split <;> omega)
  have h2 : sLean E M a q n ≤ (n : Int) * 99 := zsum_le (fun c _ => by have := zfi_r h (a := a) (c := c); show (if _ then zfi E M a c else 0) ≤ 99; split <;> omega)
  omega
theorem sLean_q {E : zE} {M M' : zM} (h : zgm E M' = zgm E M) {a : Nat} {q : Int} {n : Nat} : sLean E M' a q n = sLean E M a q n := by
  unfold sLean zfi
  rw [h]
theorem g10_fish {i L : Nat} {M : zM} {E : zE} {a : Nat} {q : Int} (hI : zInv i L M E) (hv : zVw M E (eV E a)) (ha : a < 100) (hq : 0 ≤ q ∧ q ≤ 3) : zO (g_X10_sumFish (zKn i) q a M) (fun r => r.2 = sLean E M a q 256 ∧ zQw M r.1 ∧ zVw r.1 E (eV E a) ∧ zInv i L r.1 E) := by
  unfold g_X10_sumFish zw3
  refine zO_b2 ?_
  refine zO_for (fun t => t.2.1) 256 (fun j t => t.1 = sLean E M a q j ∧ zQw M t.2.2 ∧ zVw t.2.2 E (eV E a) ∧ zInv i L t.2.2 E) ?_ ?_ (by omega) 0 (by omega) rfl (by dsimp only; exact ⟨rfl, zQw.rf, hv, hI⟩)
  · rintro j ⟨y4, y5, M'⟩ hj hc ⟨hy, hq', hv', hI'⟩
    simp only at hc hy hq' hv' hI'
    subst hc
    have hqu := (f_qu (k := zKn i) (c := (j : Int)) (M := M') ⟨by omega, by omega⟩).1
    rw [Int.toNat_natCast] at hqu
    have hqr := sQu_r (c := j)
    dsimp only
    rw [gb_X10_sumFish_6]
    refine zO_brn (by omega) (by omega) (by omega) (zO_b1e hqu ?_)
    by_cases h : sQu j = q
    · refine zO_brn (by omega) (by omega) (by omega) ?_
      obtain ⟨l1, l2, l3, l4⟩ := hI'.1.law
      rw [l1]
      refine zO_gd ⟨l2, l3⟩ (zO_lt ?_)
      refine zO_bdq (hv'.wo (c := (j : Int)) hI'.1 ⟨by omega, by omega⟩ ha) ?_
      rintro B v ⟨b1, b2, b3, b4, b5, b6⟩
      dsimp only at b1 b2 b3 b4 b5 b6
      subst b1
      have qB : zQw M' B := zQw.of b2 (by decide)
      have hf := b6 3 0 (Or.inr (Or.inr (Or.inl rfl)))
      rw [zgm_qc hq'.1, Int.toNat_natCast] at hf
      refine zO_gd ⟨zt_37, by rw [show (37 : Int).toNat = 37 from rfl, zl_37]; rfl⟩ ?_
      refine zO_b1e hf (zO_lt (zO_lt (zO_inl ⟨by dsimp only; omega, ?_, hq'.tr qB, b4, hI'.qw qB b4.1.ca⟩)))
      dsimp only
      rw [hy]
      unfold sLean
      rw [zsum_s, if_pos (Or.inr h)]
      rfl
    · refine zO_brp (by omega) (by omega) (by omega) (zO_lt (zO_inl ⟨by dsimp only; omega, ?_, hq', hv', hI'⟩))
      dsimp only
      rw [hy]
      unfold sLean
      rw [zsum_s, if_neg (fun h' => by omega)]
      omega
  · rintro ⟨y4, y5, M'⟩ hc ⟨hy, hq', hv', hI'⟩
    simp only at hc hy hq' hv' hI'
    subst hc
    dsimp only
    rw [gb_X10_sumFish_6]
    exact zO_brp (by omega) (by omega) (by omega) (zO_inr (zO_some ⟨hy, hq', hv', hI'⟩))
theorem g11_lean {i L : Nat} {M : zM} {E : zE} {a : Nat} {q : Int} (hs : zSt i L M E) (hv : zMw M E a) (ha : a < 100) (hq : -1 ≤ q ∧ q ≤ 3) : zO (g_X11_leanOf (zKn i) q a M) (fun r => r.2 = sLean E M a q 256 ∧ zQm M r.1 ∧ zMw r.1 E a) := by
  unfold g_X11_leanOf zw3
  refine zO_b2 ?_
  refine zO_for (fun t => t.2.1) 256 (fun j t => t.1 = sLean E M a q j ∧ zQm M t.2.2 ∧ zMw t.2.2 E a) ?_ ?_ (by omega) 0 (by omega) rfl (by dsimp only; exact ⟨rfl, zQm.rf, hv⟩)
  · rintro j ⟨y4, y5, M'⟩ hj hc ⟨hy, hq', hv'⟩
    simp only at hc hy hq' hv'
    subst hc
    have hqu := (f_qu (k := zKn i) (c := (j : Int)) (M := M') ⟨by omega, by omega⟩).2
    rw [Int.toNat_natCast] at hqu
    have hqr := sQu_r (c := j)
    have hby := g11_by (kind := 3) (c := (j : Int)) (hs.qm hq') hv' ha ⟨by omega, by omega⟩ (Or.inr (Or.inl rfl))
    rw [zgm_qm hq', Int.toNat_natCast] at hby
    have hb3 : sBy (eF E) (zgm E M) (eV E a) a 3 j = zfi E M a j := rfl
    have go : (q < 0 ∨ sQu j = q) → zO (zbd (g_X11_by (zKn i) 3 (j : Int) a M') (fun M6 v5 => zlt (y4 + v5) (fun x7 => zlt ((j : Int) + 1) (fun x8 => some (Sum.inl (x7, x8, M6)))))) (zEl (fun s' : Int × Int × zM => s'.2.1 = ((j + 1 : Nat) : Int) ∧ s'.1 = sLean E M a q (j + 1) ∧ zQm M s'.2.2 ∧ zMw s'.2.2 E a) (fun r : Int × zM => zO (some (r.2, r.1)) (fun r => r.2 = sLean E M a q 256 ∧ zQm M r.1 ∧ zMw r.1 E a))) := by
      intro h
      refine zO_bdq hby ?_
      rintro B v ⟨b1, b2, b3, b4⟩
      dsimp only at b1 b2 b3 b4
      refine zO_lt (zO_lt (zO_inl ⟨by dsimp only; omega, ?_, hq'.tr b3, b4⟩))
      dsimp only
      rw [hy, b1, hb3]
      unfold sLean
      rw [zsum_s, if_pos h]
    dsimp only
    rw [gb_X11_leanOf_5]
    refine zO_brn (by omega) (by omega) (by omega) (zO_sp1 ?_)
    by_cases hn : q < 0
    · refine zO_brp (by omega) (by omega) hn (zO_inlk ?_)
      exact go (Or.inl hn)
    · refine zO_brn (by omega) (by omega) hn (zO_b1e hqu ?_)
      by_cases h : sQu j = q
      · exact zO_brn (by omega) (by omega) (by omega) (zO_inlk (go (Or.inr h)))
      · refine zO_brp (by omega) (by omega) (by omega) (zO_lt (zO_inrk (zO_inl ⟨by dsimp only; omega, ?_, hq', hv'⟩)))
        dsimp only
        rw [hy]
        unfold sLean
        rw [zsum_s, if_neg (fun h' => by omega)]
        omega
  · rintro ⟨y4, y5, M'⟩ hc ⟨hy, hq', hv'⟩
    simp only at hc hy hq' hv'
    subst hc
    dsimp only
    rw [gb_X11_leanOf_5]
    exact zO_brp (by omega) (by omega) (by omega) (zO_inr (zO_some ⟨hy, hq', hv'⟩))
theorem p_lean {i L : Nat} {M : zM} {E : zE} {p1 p2 : Int} (hI : zInv i L M E) (h1 : zr p1) (h2 : zr p2) : zP2 i L E (g_X10_lean (zKn i) p1 p2) (g_X11_lean (zKn i) p1 p2) M := by
  by_cases hq : 0 ≤ p1 ∧ p1 ≤ 3
  · by_cases ha : 0 ≤ p2 ∧ p2 < 100
    · obtain ⟨a, rfl⟩ : ∃ a : Nat, p2 = a := ⟨p2.toNat, by omega⟩
      refine zP2_of (fun M => sLean E M a p1 256) hI ?_ (fun M' h => ?_) (fun M' q => sLean_q (zgm_qc q))
      · obtain ⟨tb, _⟩ := t_age (k := zKn i) (M := M) ha
        unfold g_X10_lean
        refine zO_brn (by omega) (by omega) (by omega) (zO_brn (by omega) (by omega) (by omega) (zO_b1e tb (zO_brp (by omega) (by omega) (by omega) ?_)))
        refine zO_bdq (g10_view' (by omega) hI) ?_
        rintro A v ⟨hv1, hq', hv, hI'⟩
        dsimp only at hv1 hq' hv hI'
        subst hv1
        refine zO_gd zt_21 ?_
        simp only [show (21 : Int).toNat = 21 from rfl, show (37 : Int).toNat = 37 from rfl, zq_21_0, zq_21_1, zq_21_2, e_X8_heightOf, e_X8_wordsOf, e_X8_kindOf, e_X10_reckonLeft, e_X10_sumFish]
        refine zO_bdq (g10_fish hI' hv (by omega) hq) ?_
        rintro B u ⟨b1, b2, b3, _⟩
        refine zO_some ⟨?_, hq'.tr b2, b3.1.ca⟩
        dsimp only at *
        rw [b1, sLean_q (zgm_qc hq'.1)]
      · obtain ⟨_, tb⟩ := t_age (k := zKn i) (M := M') ha
        have tm := t_in (k := zKn i) (M := M') (a := p1) (b := 0) (c := 3) h1 ⟨by omega, by omega⟩ ⟨by omega, by omega⟩ hq
        unfold g_X11_lean
        refine zO_b1e tm (zO_brn (by omega) (by omega) (by omega) (zO_b1e tb (zO_brp (by omega) (by omega) (by omega) ?_)))
        refine zO_b1q (g11_finds h.1 (by omega)) ?_
        rintro A ⟨hq', hv⟩
        refine zO_bdq (g11_lean (h.1.qm hq') hv (by omega) (by omega : -1 ≤ p1 ∧ p1 ≤ 3)) ?_
        rintro B u ⟨b1, b2, _⟩
        refine zO_some ⟨?_, hq'.tr b2⟩
        dsimp only at *
        rw [b1, sLean_q (zgm_qm hq')]
    · refine zP2_of (fun _ => -1) hI ?_ (fun M' h => ?_) (fun _ _ => rfl)
      · obtain ⟨tb, _⟩ := t_age_n (k := zKn i) (M := M) h2 ha
        unfold g_X10_lean
        refine zO_brn (by omega) (by omega) (by omega) (zO_brn (by omega) (by omega) (by omega) (zO_b1e tb (zO_brn (by omega) (by omega) (by omega) ?_)))
        exact zO_some ⟨rfl, zQw.rf, hI.2.1⟩
      · obtain ⟨_, tb⟩ := t_age_n (k := zKn i) (M := M') h2 ha
        have tm := t_in (k := zKn i) (M := M') (a := p1) (b := 0) (c := 3) h1 ⟨by omega, by omega⟩ ⟨by omega, by omega⟩ hq
        unfold g_X11_lean
        refine zO_b1e tm (zO_brn (by omega) (by omega) (by omega) (zO_b1e tb (zO_brn (by omega) (by omega) (by omega) ?_)))
        exact zO_some ⟨rfl, zQm.rf⟩
  · refine zP2_of (fun _ => -1) hI ?_ (fun M' h => ?_) (fun _ _ => rfl)
    · unfold g_X10_lean
      by_cases h0 : p1 < 0
      · exact zO_brp (by omega) (by omega) (by omega) (zO_some ⟨rfl, zQw.rf, hI.2.1⟩)
      · exact zO_brn (by omega) (by omega) (by omega) (zO_brp (by omega) (by omega) (by omega) (zO_some ⟨rfl, zQw.rf, hI.2.1⟩))
    · have tm := t_in_n (k := zKn i) (M := M') (a := p1) (b := 0) (c := 3) h1 ⟨by omega, by omega⟩ ⟨by omega, by omega⟩ hq
      unfold g_X11_lean
      exact zO_b1e tm (zO_brp (by omega) (by omega) (by omega) (zO_some ⟨rfl, zQm.rf⟩))

/-! carried -/
theorem zP2_ofq {i L : Nat} {E : zE} {f g : zM → Option (zM × Int)} {M : zM} (s : Int) (hI : zInv i L M E) (hf : zO (f M) (fun r => r.2 = s ∧ zQw M r.1 ∧ zCa r.1 E)) (hg : ∀ M', zInv i L M' E → zQc M M' → zO (g M') (fun r => r.2 = s ∧ zQm M' r.1)) : zP2 i L E f g M := by
  refine zO_mono hf ?_
  rintro ⟨M', v⟩ ⟨h1, h2, h3⟩
  have hI' := hI.qw h2 h3
  refine zO_mono (hg M' hI' h2.1) ?_
  rintro ⟨M'', v'⟩ ⟨h4, h5⟩
  exact ⟨by dsimp only at *; rw [h1, h4], hI'.qm h5⟩
def sFar (E : zE) (M : zM) (p : Nat) : Int := eA E (M 10 p).toNat * zsumT E M (M 11 p).toNat ((M 12 p).toNat + 1 - (M 11 p).toNat)
def sNear (E : zE) (M : zM) (p : Nat) : Int := (100 - eA E (M 10 p).toNat) * 256 * zsumL E M (M 11 p).toNat ((M 12 p).toNat + 1 - (M 11 p).toNat) (M 9 p).toNat
def sCarried (E : zE) (M : zM) (p : Nat) (w : Int) : Int := if sFar E M p + sNear E M p = 0 then w else sLow (sFar E M p) (sFar E M p + sNear E M p) w
theorem sFN_q {E : zE} {M M' : zM} {p : Nat} (q : ∀ q, q < 21 → q ≠ 1 → M' q = M q) : sFar E M' p = sFar E M p ∧ sNear E M' p = sNear E M p := by
  have hg : zgm E M' = zgm E M := by unfold zgm; rw [q 5 (by omega) (by omega), q 18 (by omega) (by omega)]
  unfold sFar sNear
  rw [q 9 (by omega) (by omega), q 10 (by omega) (by omega), q 11 (by omega) (by omega), q 12 (by omega) (by omega), zsumT_q hg, zsumL_q hg]
  exact ⟨rfl, rfl⟩
theorem sFN_r {i L : Nat} {M : zM} {E : zE} {p : Nat} (h : zSt i L M E) (hp : p < 60) : 0 ≤ sFar E M p ∧ sFar E M p ≤ 253440000 ∧ 0 ≤ sNear E M p ∧ sNear E M p ≤ 64880640000 := by
  obtain ⟨⟨_, f2, f3⟩, ⟨_, f5, f6⟩, ⟨_, f8, f9⟩, _, f11⟩ := h.find hp
  have hT := zsumT_r h (f := (M 11 p).toNat) (n := (M 12 p).toNat + 1 - (M 11 p).toNat) (by omega)
  have hL := zsumL_r h (f := (M 11 p).toNat) (n := (M 12 p).toNat + 1 - (M 11 p).toNat) (c := (M 9 p).toNat) (by omega)
  have hA := h.1.2.2.2.1 (M 10 p).toNat (by omega)
  unfold sFar sNear
  generalize eA E (M 10 p).toNat = x at *
  generalize zsumT E M (M 11 p).toNat ((M 12 p).toNat + 1 - (M 11 p).toNat) = t at *
  generalize zsumL E M (M 11 p).toNat ((M 12 p).toNat + 1 - (M 11 p).toNat) (M 9 p).toNat = l at *
  have h1 : 0 ≤ x * t := Int.mul_nonneg hA.1 hT.1
  have h2 : x * t ≤ 100 * 2534400 := Int.mul_le_mul hA.2 hT.2 hT.1 (by omega)
  have h3 : 0 ≤ (100 - x) * 256 * l := Int.mul_nonneg (by omega) hL.1
  have h4 : (100 - x) * 256 * l ≤ 25600 * 2534400 := Int.mul_le_mul (by omega) (by omega) hL.1 (by omega)
  omega
theorem p_carried {i L : Nat} {M : zM} {E : zE} {p1 p2 : Int} (hI : zInv i L M E) (h1 : zr p1) (h2 : zr p2) : zP2 i L E (g_X10_carried (zKn i) p1 p2) (g_X11_carried (zKn i) p1 p2) M := by
  obtain ⟨n, n1, n2, n3⟩ := hI.1.finds
  have tf : ∀ M' : zM, M' 79 0 = (n : Int) → g_X11_isFind (zKn i) p1 M' = some (if 0 ≤ p1 ∧ p1 < n then 1 else 0) := by
    intro M' h79
    apply zO_get
    unfold g_X11_isFind
    simp only [Int.toNat_zero, h79]
    by_cases h : 0 ≤ p1 ∧ p1 < n
    · repeat' (first | (with_reducible refine zO_lt ?_) | (with_reducible refine zO_gd ?hc ?_; case hc => (first | omega | (simp (disch := omega) only [zst_ne, zst_s, zup_eq, zup_ne, Int.toNat_natCast, not_true_eq_false, not_false_eq_true, true_or, or_true, true_and, and_true]; first | done | omega) | with_reducible exact True.intro)) | (with_reducible refine zO_brp ?ha ?hb ?hc ?_; (case ha => (first | omega | (simp (disch := omega) only [zst_ne, zst_s, zup_eq, zup_ne, Int.toNat_natCast, not_true_eq_false, not_false_eq_true, true_or, or_true, true_and, and_true]; first | done | omega) | with_reducible exact True.intro)); (case hb => (first | omega | (simp (disch := omega) only [zst_ne, zst_s, zup_eq, zup_ne, Int.toNat_natCast, not_true_eq_false, not_false_eq_true, true_or, or_true, true_and, and_true]; first | done | omega) | with_reducible exact True.intro)); (case hc => (first | omega | (simp (disch := omega) only [zst_ne, zst_s, zup_eq, zup_ne, Int.toNat_natCast, not_true_eq_false, not_false_eq_true, true_or, or_true, true_and, and_true]; first | done | omega) | with_reducible exact True.intro))) | (with_reducible refine zO_brn ?ha ?hb ?hc ?_; (case ha => (first | omega | (simp (disch := omega) only [zst_ne, zst_s, zup_eq, zup_ne, Int.toNat_natCast, not_true_eq_false, not_false_eq_true, true_or, or_true, true_and, and_true]; first | done | omega) | with_reducible exact True.intro)); (case hb => (first | omega | (simp (disch := omega) only [zst_ne, zst_s, zup_eq, zup_ne, Int.toNat_natCast, not_true_eq_false, not_false_eq_true, true_or, or_true, true_and, and_true]; first | done | omega) | with_reducible exact True.intro)); (case hc => (first | omega | (simp (disch := omega) only [zst_ne, zst_s, zup_eq, zup_ne, Int.toNat_natCast, not_true_eq_false, not_false_eq_true, true_or, or_true, true_and, and_true]; first | done | omega) | with_reducible exact True.intro))) | simp (disch := omega) only [zst_ne, zst_s, zup_eq, zup_ne, Int.toNat_natCast, not_true_eq_false, not_false_eq_true, true_or, or_true, true_and, and_true] | (with_reducible refine zO_br ?ha ?hb (fun _ => ?_) (fun _ => ?_); (case ha => (first | omega | (simp (disch := omega) only [zst_ne, zst_s, zup_eq, zup_ne, Int.toNat_natCast, not_true_eq_false, not_false_eq_true, true_or, or_true, true_and, and_true]; first | done | omega) | with_reducible exact True.intro)); (case hb => (first | omega | (simp (disch := omega) only [zst_ne, zst_s, zup_eq, zup_ne, Int.toNat_natCast, not_true_eq_false, not_false_eq_true, true_or, or_true, true_and, and_true]; first | done | omega) | with_reducible exact True.intro))) | (with_reducible refine zO_ifp ?hc ?_; case hc => (first | omega | (simp (disch := omega) only [zst_ne, zst_s, zup_eq, zup_ne, Int.toNat_natCast, not_true_eq_false, not_false_eq_true, true_or, or_true, true_and, and_true]; first | done | omega) | with_reducible exact True.intro)) | (with_reducible refine zO_ifn ?hc ?_; case hc => (first | omega | (simp (disch := omega) only [zst_ne, zst_s, zup_eq, zup_ne, Int.toNat_natCast, not_true_eq_false, not_false_eq_true, true_or, or_true, true_and, and_true]; first | done | omega) | with_reducible exact True.intro)) | fail)
      exact zO_some (by rw [if_pos h])
    · by_cases h0 : p1 < 0
      · repeat' (first | (with_reducible refine zO_lt ?_) | (with_reducible refine zO_gd ?hc ?_; case hc => (first | omega | (simp (disch := omega) only [zst_ne, zst_s, zup_eq, zup_ne, Int.toNat_natCast, not_true_eq_false, not_false_eq_true, true_or, or_true, true_and, and_true]; first | done | omega) | with_reducible exact True.intro)) | (with_reducible refine zO_brp ?ha ?hb ?hc ?_; (case ha => (first | omega | (simp (disch := omega) only [zst_ne, zst_s, zup_eq, zup_ne, Int.toNat_natCast, not_true_eq_false, not_false_eq_true, true_or, or_true, true_and, and_true]; first | done | omega) | with_reducible exact True.intro)); (case hb => (first | omega | (simp (disch := omega) only [zst_ne, zst_s, zup_eq, zup_ne, Int.toNat_natCast, not_true_eq_false, not_false_eq_true, true_or, or_true, true_and, and_true]; first | done | omega) | with_reducible exact True.intro)); (case hc => (first | omega | (simp (disch := omega) only [zst_ne, zst_s, zup_eq, zup_ne, Int.toNat_natCast, not_true_eq_false, not_false_eq_true, true_or, or_true, true_and, and_true]; first | done | omega) | with_reducible exact True.intro))) | (with_reducible refine zO_brn ?ha ?hb ?hc ?_; (case ha => (first | omega | (simp (disch := omega) only [zst_ne, zst_s, zup_eq, zup_ne, Int.toNat_natCast, not_true_eq_false, not_false_eq_true, true_or, or_true, true_and, and_true]; first | done | omega) | with_reducible exact True.intro)); (case hb => (first | omega | (simp (disch := omega) only [zst_ne, zst_s, zup_eq, zup_ne, Int.toNat_natCast, not_true_eq_false, not_false_eq_true, true_or, or_true, true_and, and_true]; first | done | omega) | with_reducible exact True.intro)); (case hc => (first | omega | (simp (disch := omega) only [zst_ne, zst_s, zup_eq, zup_ne, Int.toNat_natCast, not_true_eq_false, not_false_eq_true, true_or, or_true, true_and, and_true]; first | done | omega) | with_reducible exact True.intro))) | simp (disch := omega) only [zst_ne, zst_s, zup_eq, zup_ne, Int.toNat_natCast, not_true_eq_false, not_false_eq_true, true_or, or_true, true_and, and_true] | (with_reducible refine zO_br ?ha ?hb (fun _ => ?_) (fun _ => ?_); (case ha => (first | omega | (simp (disch := omega) only [zst_ne, zst_s, zup_eq, zup_ne, Int.toNat_natCast, not_true_eq_false, not_false_eq_true, true_or, or_true, true_and, and_true]; first | done | omega) | with_reducible exact True.intro)); (case hb => (first | omega | (simp (disch := omega) only [zst_ne, zst_s, zup_eq, zup_ne, Int.toNat_natCast, not_true_eq_false, not_false_eq_true, true_or, or_true, true_and, and_true]; first | done | omega) | with_reducible exact True.intro))) | (with_reducible refine zO_ifp ?hc ?_; case hc => (first | omega | (simp (disch := omega) only [zst_ne, zst_s, zup_eq, zup_ne, Int.toNat_natCast, not_true_eq_false, not_false_eq_true, true_or, or_true, true_and, and_true]; first | done | omega) | with_reducible exact True.intro)) | (with_reducible refine zO_ifn ?hc ?_; case hc => (first | omega | (simp (disch := omega) only [zst_ne, zst_s, zup_eq, zup_ne, Int.toNat_natCast, not_true_eq_false, not_false_eq_true, true_or, or_true, true_and, and_true]; first | done | omega) | with_reducible exact True.intro)) | fail)
        exact zO_some (by rw [if_neg h])
      · repeat' (first | (with_reducible refine zO_lt ?_) | (with_reducible refine zO_gd ?hc ?_; case hc => (first | omega | (simp (disch := omega) only [zst_ne, zst_s, zup_eq, zup_ne, Int.toNat_natCast, not_true_eq_false, not_false_eq_true, true_or, or_true, true_and, and_true]; first | done | omega) | with_reducible exact True.intro)) | (with_reducible refine zO_brp ?ha ?hb ?hc ?_; (case ha => (first | omega | (simp (disch := omega) only [zst_ne, zst_s, zup_eq, zup_ne, Int.toNat_natCast, not_true_eq_false, not_false_eq_true, true_or, or_true, true_and, and_true]; first | done | omega) | with_reducible exact True.intro)); (case hb => (first | omega | (simp (disch := omega) only [zst_ne, zst_s, zup_eq, zup_ne, Int.toNat_natCast, not_true_eq_false, not_false_eq_true, true_or, or_true, true_and, and_true]; first | done | omega) | with_reducible exact True.intro)); (case hc => (first | omega | (simp (disch := omega) only [zst_ne, zst_s, zup_eq, zup_ne, Int.toNat_natCast, not_true_eq_false, not_false_eq_true, true_or, or_true, true_and, and_true]; first | done | omega) | with_reducible exact True.intro))) | (with_reducible refine zO_brn ?ha ?hb ?hc ?_; (case ha => (first | omega | (simp (disch := omega) only [zst_ne, zst_s, zup_eq, zup_ne, Int.toNat_natCast, not_true_eq_false, not_false_eq_true, true_or, or_true, true_and, and_true]; first | done | omega) | with_reducible exact True.intro)); (case hb => (first | omega | (simp (disch := omega) only [zst_ne, zst_s, zup_eq, zup_ne, Int.toNat_natCast, not_true_eq_false, not_false_eq_true, true_or, or_true, true_and, and_true]; first | done | omega) | with_reducible exact True.intro)); (case hc => (first | omega | (simp (disch := omega) only [zst_ne, zst_s, zup_eq, zup_ne, Int.toNat_natCast, not_true_eq_false, not_false_eq_true, true_or, or_true, true_and, and_true]; first | done | omega) | with_reducible exact True.intro))) | simp (disch := omega) only [zst_ne, zst_s, zup_eq, zup_ne, Int.toNat_natCast, not_true_eq_false, not_false_eq_true, true_or, or_true, true_and, and_true] | (with_reducible refine zO_br ?ha ?hb (fun _ => ?_) (fun _ => ?_); (case ha => (first | omega | (simp (disch := omega) only [zst_ne, zst_s, zup_eq, zup_ne, Int.toNat_natCast, not_true_eq_false, not_false_eq_true, true_or, or_true, true_and, and_true]; first | done | omega) | with_reducible exact True.intro)); (case hb => (first | omega | (simp (disch := omega) only [zst_ne, zst_s, zup_eq, zup_ne, Int.toNat_natCast, not_true_eq_false, not_false_eq_true, true_or, or_true, true_and, and_true]; first | done | omega) | with_reducible exact True.intro))) | (with_reducible refine zO_ifp ?hc ?_; case hc => (first | omega | (simp (disch := omega) only [zst_ne, zst_s, zup_eq, zup_ne, Int.toNat_natCast, not_true_eq_false, not_false_eq_true, true_or, or_true, true_and, and_true]; first | done | omega) | with_reducible exact True.intro)) | (with_reducible refine zO_ifn ?hc ?_; case hc => (first | omega | (simp (disch := omega) only [zst_ne, zst_s, zup_eq, zup_ne, Int.toNat_natCast, not_true_eq_false, not_false_eq_true, true_or, or_true, true_and, and_true]; first | done | omega) | with_reducible exact True.intro)) | fail)
        exact zO_some (by rw [if_neg h])
  by_cases hf : 0 ≤ p1 ∧ p1 < n
  · by_cases hp : p2 = 0 ∨ p2 = 1
    · obtain ⟨p, rfl⟩ : ∃ p : Nat, p1 = p := ⟨p1.toNat, by omega⟩
      refine zP2_ofq (sCarried E M p p2) hI ?_ (fun M' h q => ?_)
      · obtain ⟨tp, _⟩ := t_part (k := zKn i) (M := M) hp
        unfold g_X10_carried
        simp only [Int.toNat_natCast]
        refine zO_brn (by omega) (by omega) (by omega) (zO_brn (by omega) (by omega) (by omega) (zO_brn (by omega) (by omega) (by omega) (zO_b1e tp (zO_brp (by omega) (by omega) (by omega) ?_))))
        refine zO_b1q (g10_settle' hI) ?_
        rintro A ⟨hq, hse, hI'⟩
        obtain ⟨⟨_, f2, f3⟩, ⟨_, f5, f6⟩, ⟨_, f8, f9⟩, _, f11⟩ := hI'.1.find (f := p) (by omega)
        have hA := hI'.1.1.2.2.2.1 (A 10 p).toNat (by omega)
        have hfn := sFN_r hI'.1 (p := p) (by omega)
        have hcar := hI'.1.2.1.2.2.2.2.2.2.1 (A 10 p).toNat (by omega)
        obtain ⟨l1, l2, l3, l4⟩ := hI'.1.law
        have q11 := (zQL (i := i) l4).2.2.2.2.2.2.2.2.2.2
        have l23 : ztag (zKn i) L = 4 ∧ L ≠ 0 := ⟨l2, l3⟩
        clear l2 l3 l4
        refine zO_gd (by omega) (zO_lt (zO_gd (by omega) (zO_lt ?_)))
        rw [l1]
        refine zO_gd l23 (zO_lt (zO_gd (by omega) (zO_gd (by omega) ?_)))
        rw [q11]
        refine zO_gd (by rw [hcar]; omega) (zO_lt ?_)
        rw [hcar]
        have hT := g10_sumT hI'.1 hse (f := (A 11 p).toNat) (t := (A 12 p).toNat) (by omega) (by omega)
        rw [show (((A 11 p).toNat : Nat) : Int) = A 11 p by omega, show (((A 12 p).toNat : Nat) : Int) = A 12 p by omega] at hT
        refine zO_bdq hT ?_
        rintro B v ⟨bv, qB, sB⟩
        dsimp only at bv qB sB
        refine zO_lt (zO_gd (by omega) ?_)
        have b9 : B 9 = A 9 := qB.1.1 9 (by omega) (by omega)
        have hLL := g10_sumL (hI'.1.qc qB.1) sB (c := (A 9 p).toNat) (f := (A 11 p).toNat) (t := (A 12 p).toNat) (by omega) (by omega) (by omega)
        rw [show (((A 11 p).toNat : Nat) : Int) = A 11 p by omega, show (((A 12 p).toNat : Nat) : Int) = A 12 p by omega, show (((A 9 p).toNat : Nat) : Int) = A 9 p by omega] at hLL
        rw [b9]
        refine zO_bdq hLL ?_
        rintro C u ⟨cu, qC, sC⟩
        dsimp only at cu qC sC
        rw [zsumL_q (zgm_qc qB.1)] at cu
        refine zO_lt ?_
        have e1 : eA E (A 10 p).toNat * v = sFar E A p := by rw [bv]; rfl
        have e2 : (100 - eA E (A 10 p).toNat) * 256 * u = sNear E A p := by rw [cu]; rfl
        rw [e1, e2]
        have hs : sCarried E M p p2 = sCarried E A p p2 := by unfold sCarried; rw [(sFN_q (fun x a b => hq.1.1 x (by omega) (by omega))).1, (sFN_q (fun x a b => hq.1.1 x (by omega) (by omega))).2]
        rw [hs]
        unfold sCarried
        refine zO_b1 ?_
        by_cases hz : sFar E A p + sNear E A p = 0
        · rw [if_pos hz]
          refine zO_bln (by omega) (by omega) (by omega) ?_
          refine zO_b1e (g5_put ⟨by omega, by omega⟩ ⟨by omega, by omega⟩) (zO_some (zO_b1e (g5_part hp) (zO_some ⟨?_, ((hq.tr qB).tr qC).tr zq50, zr50 sC.ca⟩)))
          dsimp only
          rcases hp with rfl | rfl <;> rfl
        · rw [if_neg hz]
          refine zO_blp (by omega) (by omega) (by omega) ?_
          exact zO_b1e (g5_put ⟨by omega, by omega⟩ ⟨by omega, by omega⟩) (zO_some (zO_b1e (g5_part hp) (zO_some ⟨rfl, ((hq.tr qB).tr qC).tr zq50, zr50 sC.ca⟩)))
      · obtain ⟨_, tp⟩ := t_part (k := zKn i) (M := M') hp
        have h79 : M' 79 0 = (n : Int) := by rw [q.1 79 (by omega) (by omega)]; exact n2
        have hs : sCarried E M p p2 = sCarried E M' p p2 := by unfold sCarried; rw [(sFN_q (fun x a b => q.1 x (by omega) (by omega))).1, (sFN_q (fun x a b => q.1 x (by omega) (by omega))).2]
        rw [hs]
        · have tf' := tf M' h79
          rw [if_pos hf] at tf'
          obtain ⟨⟨g1, f2, f3⟩, ⟨g2, f5, f6⟩, ⟨g3, f8, f9⟩, g4, f11⟩ := h.1.find (f := p) (by omega)
          have hA := h.1.1.2.2.2.1 (M' 10 p).toNat (by omega)
          have hfn := sFN_r h.1 (p := p) (by omega)
          unfold g_X11_carried
          simp only [Int.toNat_natCast]
          refine zO_b1e tf' (zO_brn (by omega) (by omega) (by omega) (zO_b1e tp (zO_brp (by omega) (by omega) (by omega) ?_)))
          refine zO_gd (by omega) (zO_gd (by omega) (zO_gd (by omega) ?_))
          have hl := g11_live h.1 (c := (M' 9 p).toNat) (f := (M' 11 p).toNat) (t := (M' 12 p).toNat) (by omega) (by omega) (by omega)
          rw [show (((M' 11 p).toNat : Nat) : Int) = M' 11 p by omega, show (((M' 12 p).toNat : Nat) : Int) = M' 12 p by omega, show (((M' 9 p).toNat : Nat) : Int) = M' 9 p by omega] at hl
          rw [← g1, ← g3, ← g4]
          refine zO_b1q hl ?_
          rintro A ⟨hq, a1, a2⟩
          have a88 : A 88 p = M' 10 p := by rw [hq.1 88 (by omega) (by omega), g2]
          have hlast := ((h.1.qm hq).2.1.2.2.2.2.2.2.2.2.2.2.2 A (zla (fun _ _ _ => rfl))).2 (M' 10 p).toNat (by omega)
          rw [show (((M' 10 p).toNat : Nat) : Int) = M' 10 p by omega] at hlast
          refine zO_gd (by omega) ?_
          rw [a88]
          refine zO_b1e hlast (zO_gd (by omega) (zO_lt ?_))
          have e1 : eA E (M' 10 p).toNat * A 76 60 = sFar E M' p := by rw [a2]; rfl
          have e2 : (100 - eA E (M' 10 p).toNat) * 256 * A 76 59 = sNear E M' p := by rw [a1]; rfl
          rw [e1, e2]
          refine zO_lt ?_
          unfold sCarried
          by_cases hz : sFar E M' p + sNear E M' p = 0
          · rw [if_pos hz]
            exact zO_bln (by omega) (by omega) (by omega) (zO_gd h2 (zO_some ⟨rfl, hq⟩))
          · rw [if_neg hz]
            refine zO_blp (by omega) (by omega) (by omega) ?_
            exact zO_b1e (f11_low hp ⟨by omega, by omega⟩ ⟨by omega, by omega⟩) (zO_some ⟨rfl, hq⟩)
    · refine zP2_ofq (-1) hI ?_ (fun M' h q => ?_)
      · obtain ⟨tp, _⟩ := t_part_n (k := zKn i) (M := M) h2 hp
        unfold g_X10_carried
        refine zO_brn (by omega) (by omega) (by omega) (zO_brn (by omega) (by omega) (by omega) (zO_brn (by omega) (by omega) (by omega) (zO_b1e tp (zO_brn (by omega) (by omega) (by omega) ?_))))
        exact zO_some ⟨rfl, zQw.rf, hI.2.1⟩
      · obtain ⟨_, tp⟩ := t_part_n (k := zKn i) (M := M') h2 hp
        have tf' := tf M' (by rw [q.1 79 (by omega) (by omega)]; exact n2)
        rw [if_pos hf] at tf'
        unfold g_X11_carried
        refine zO_b1e tf' (zO_brn (by omega) (by omega) (by omega) (zO_b1e tp (zO_brn (by omega) (by omega) (by omega) ?_)))
        exact zO_some ⟨rfl, zQm.rf⟩
  · refine zP2_ofq (-1) hI ?_ (fun M' h q => ?_)
    · unfold g_X10_carried
      by_cases h0 : p1 < 0
      · exact zO_brp (by omega) (by omega) (by omega) (zO_some ⟨rfl, zQw.rf, hI.2.1⟩)
      · exact zO_brn (by omega) (by omega) (by omega) (zO_brp (by omega) (by omega) (by omega) (zO_some ⟨rfl, zQw.rf, hI.2.1⟩))
    · have tf' := tf M' (by rw [q.1 79 (by omega) (by omega)]; exact n2)
      rw [if_neg hf] at tf'
      unfold g_X11_carried
      exact zO_b1e tf' (zO_brp (by omega) (by omega) (by omega) (zO_some ⟨rfl, zQm.rf⟩))

theorem p_doubt {i L : Nat} {M : zM} {E : zE} {p1 : Int} (hI : zInv i L M E) (h1 : zr p1) : zP2 i L E (g_X10_doubt (zKn i) p1) (g_X11_doubt (zKn i) p1) M := by
  obtain ⟨⟨n, n1, n2, n3⟩, _⟩ := hI.1.plc
  have e80 : ∀ M', zQc M M' → M' 80 = M 80 := fun M' q => q.1 80 (by omega) (by omega)
  by_cases ha : 0 ≤ p1 ∧ p1 < 100
  · by_cases h0 : n = 0
    · subst h0
      refine zO_eq (a := (M, -1)) ?_ (zO_eq (a := (M, -1)) ?_ ⟨rfl, hI⟩)
      · apply zO_get
        unfold g_X10_doubt
        exact zO_b1e (t_age ha).1 (zO_brn (by omega) (by omega) (by omega) (zO_brn ⟨by omega, by omega⟩ ⟨by omega, by omega⟩ (by omega) (zO_some rfl)))
      · apply zO_get
        unfold g_X11_doubt
        dsimp only
        simp only [Int.toNat_zero, n2]
        exact zO_b1e (t_age ha).2 (zO_brn (by omega) (by omega) (by omega) (zO_gd (by omega) (zO_brn ⟨by omega, by omega⟩ ⟨by omega, by omega⟩ (by omega) (zO_some rfl))))
    · obtain ⟨a, rfl⟩ : ∃ a : Nat, p1 = a := ⟨p1.toNat, by omega⟩
      have ha' : a < 100 := by omega
      refine zP2_of (fun M => if M 4 18 = 0 then -1 else ((sDb E M a (M 4 18).toNat).1 : Int)) hI ?_ (fun M' h => ?_) (fun M' q => ?_)
      · unfold g_X10_doubt
        refine zO_b1e (t_age ha).1 (zO_brn (by omega) (by omega) (by omega) (zO_brp ⟨by omega, by omega⟩ ⟨by omega, by omega⟩ (by omega) ?_))
        refine zO_bdq (g10_view' ha' hI) ?_
        rintro A v ⟨hv1, hq, hv, hI'⟩
        dsimp only at hv1 hq hv hI'
        subst hv1
        refine zO_gd zt_21 ?_
        simp only [show (21 : Int).toNat = 21 from rfl, eb_X10_doubt_36]
        have a4 : A 4 18 = (n : Int) := by rw [hq.1.1 4 (by omega) (by omega)]; exact n1
        refine zO_b2 (zO_mono (r10_doubt hI' hv ha' a4 n3) ?_)
        rintro ⟨x, B⟩ ⟨b1, b2, b3⟩
        refine zO_some ⟨?_, hq.tr b2, b3⟩
        dsimp only at *
        rw [b1, n1, if_neg (by omega), Int.toNat_natCast, (sDb_q (hq.1.1 13 (by omega) (by omega)) (fun c => sL_qc hq.1)).2]
      · obtain ⟨⟨m, m1, m2, m3⟩, _⟩ := h.1.plc
        unfold g_X11_doubt
        by_cases hm0 : m = 0
        · subst hm0
          simp only [Int.toNat_zero, m2]
          refine zO_b1e (t_age ha).2 (zO_brn (by omega) (by omega) (by omega) (zO_gd (by omega) (zO_brn ⟨by omega, by omega⟩ ⟨by omega, by omega⟩ (by omega) (zO_some ⟨?_, zQm.rf⟩))))
          rw [m1, if_pos (by omega)]
        · simp only [Int.toNat_zero, m2]
          refine zO_b1e (t_age ha).2 (zO_brn (by omega) (by omega) (by omega) (zO_gd (by omega) (zO_brp ⟨by omega, by omega⟩ ⟨by omega, by omega⟩ (by omega) ?_)))
          refine zO_b1q (g11_finds h.1 ha') ?_
          rintro A ⟨hq, hv⟩
          have a80 : A 80 0 = (m : Int) := by rw [hq.1 80 (by omega) (by omega)]; exact m2
          refine zO_b2 (zO_mono (r11_doubt (h.1.qm hq) hv ha' a80 m3 (by omega)) ?_)
          rintro ⟨x, B⟩ ⟨b1, b2⟩
          refine zO_some ⟨?_, hq.tr b2⟩
          dsimp only at *
          rw [b1, m1, if_neg (by omega), Int.toNat_natCast, (sDb_q (hq.1 13 (by omega) (by omega)) (fun c => sL_qm hq)).2]
      · rw [q.1 4 (by omega) (by omega), (sDb_q (q.1 13 (by omega) (by omega)) (fun c => sL_qc q)).2]
  · refine zO_eq (a := (M, -1)) ?_ (zO_eq (a := (M, -1)) ?_ ⟨rfl, hI⟩)
    · apply zO_get
      unfold g_X10_doubt
      exact zO_b1e (t_age_n h1 ha).1 (zO_brp (by omega) (by omega) (by omega) (zO_some rfl))
    · apply zO_get
      unfold g_X11_doubt
      exact zO_b1e (t_age_n h1 ha).2 (zO_brp (by omega) (by omega) (by omega) (zO_some rfl))

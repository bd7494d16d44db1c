/-! count -/
def sBu (M : zM) : Int := zsum 256 (M 6)
theorem p_count {i L : Nat} {M : zM} {E : zE} {p1 : Int} (hI : zInv i L M E) (h1 : zr p1) : zP0 (g_X10_count (zKn i) p1) (g_X11_count (zKn i) p1) M := by
  obtain ⟨s1, ⟨aL, a10, _, _, _, a13, a11, a97, a97r, _, _, alast⟩, hT, ⟨hi3, hi0⟩, e13, e20, him, h51, htp, h3, hfa⟩ := hI.1
  have hb := fun (c : Nat) (hc : c < 256) => hI.1.buck hc
  have hmud := fun (c : Nat) (hc : c < 256) => hI.1.mud hc
  obtain ⟨aT, aA⟩ := alast M (zla (fun _ _ _ => rfl))
  have hmu : g_X11_mudMany (zKn i) M = some (M 4 15) := by
    rw [g11_mudMany (fun c hc => by have := hmud c hc; omega), show M 4 15 = sMu (M 19) from hT.2.2.2.2.1.1]
    rw [sMu_c (fun c hc => (hmud c hc).1.symm)]
  have hl : zw2 (gb_X11_count_4 (zKn i) p1 M) zfu 0 0 = some (0 + sBu M) := by
    refine zO_sum _ ?_ ?_ (by omega) 0
    · intro b j hj
      have := hb j hj
      apply zO_get
      rw [gb_X11_count_4]
      simp only [Int.toNat_natCast]
      refine zO_brn ⟨by omega, by omega⟩ ⟨by omega, by omega⟩ (by omega) (zO_gd (by omega) (zO_lt (zO_lt (zO_some ?_))))
      rw [this.1, show ((j + 1 : Nat) : Int) = (j : Int) + 1 by omega]
    · intro b
      apply zO_get
      rw [gb_X11_count_4]
      exact zO_brp ⟨by omega, by omega⟩ ⟨by omega, by omega⟩ (by omega) (zO_some rfl)
  rw [Int.zero_add] at hl
  have hl2 : zw2 (fb_X7_countBuckets_4 (zKn i) 4 M) zfu 0 0 = some (0 + sBu M) := by
    refine zO_sum _ ?_ ?_ (by omega) 0
    · intro b j hj
      have := hb j hj
      apply zO_get
      rw [fb_X7_countBuckets_4]
      simp only [Int.toNat_natCast, zq_4_2]
      refine zO_brn ⟨by omega, by omega⟩ ⟨by omega, by omega⟩ (by omega) (zO_gd (by omega) (zO_lt (zO_lt (zO_some ?_))))
      rw [show ((j + 1 : Nat) : Int) = (j : Int) + 1 by omega]
    · intro b
      apply zO_get
      rw [fb_X7_countBuckets_4]
      exact zO_brp ⟨by omega, by omega⟩ ⟨by omega, by omega⟩ (by omega) (zO_some rfl)
  rw [Int.zero_add] at hl2
  have hk : f_X7_countBuckets (zKn i) 4 M = some (sBu M) := zO_get (zO_b1e hl2 (zO_some rfl))
  have tL : ztag (zKn i) L = 4 := by
    rcases aL with rfl | rfl
    · exact zT_ (by decide) rfl
    · exact zT_ (by decide) rfl
  have zL := (zQL (i := i) aL).2.2.2.2.2.2.2.2.2.2
  have hL : (M 1 10).toNat = L := by omega
  unfold zP0 g_X10_count g_X11_count
  have hcat : g_X11_catches (zKn i) M = some (eT E) := zO_get (zO_b1e aT (zO_some rfl))
  have hA0 : g_X11_last (zKn i) 5 (12 - 12) M = some (eA E 0) := aA 0 (by omega)
  have hA1 : g_X11_last (zKn i) 5 (13 - 12) M = some (eA E 1) := aA 1 (by omega)
  have hA2 : g_X11_last (zKn i) 5 (14 - 12) M = some (eA E 2) := aA 2 (by omega)
  have htag : ztag (zKn i) L = 4 ∧ L ≠ 0 := ⟨tL, by omega⟩
  simp only [hL, hl, zL]
  by_cases hp : 0 ≤ p1 ∧ p1 ≤ 15
  · have hp' : p1 = 0 ∨ p1 = 1 ∨ p1 = 2 ∨ p1 = 3 ∨ p1 = 4 ∨ p1 = 5 ∨ p1 = 6 ∨ p1 = 7 ∨ p1 = 8 ∨ p1 = 9 ∨ p1 = 10 ∨ p1 = 11 ∨ p1 = 12 ∨ p1 = 13 ∨ p1 = 14 ∨ p1 = 15 := by omega
    clear hp
    rcases hp' with rfl | rfl | rfl | rfl | rfl | rfl | rfl | rfl | rfl | rfl | rfl | rfl | rfl | rfl | rfl | rfl
    · refine ⟨M L 0, zO_get ?_, zO_get (zO_b1e rfl ?_)⟩
      · repeat' (first | (with_reducible refine zO_gd ?hc ?_; case hc => (first | exact htag | omega)) | (with_reducible refine zO_ifp ?hc ?_; case hc => omega) | (with_reducible refine zO_ifn ?hc ?_; case hc => omega) | (with_reducible refine zO_lt ?_) | (with_reducible refine zO_b1e hk ?_) | (with_reducible refine zO_b1e hmu ?_) | (with_reducible refine zO_b1e hcat ?_) | (with_reducible refine zO_b1e hA0 ?_) | (with_reducible refine zO_b1e hA1 ?_) | (with_reducible refine zO_b1e hA2 ?_))
        exact zO_some (rfl)
      · repeat' (first | (with_reducible refine zO_gd ?hc ?_; case hc => (first | exact htag | omega)) | (with_reducible refine zO_ifp ?hc ?_; case hc => omega) | (with_reducible refine zO_ifn ?hc ?_; case hc => omega) | (with_reducible refine zO_lt ?_) | (with_reducible refine zO_b1e hk ?_) | (with_reducible refine zO_b1e hmu ?_) | (with_reducible refine zO_b1e hcat ?_) | (with_reducible refine zO_b1e hA0 ?_) | (with_reducible refine zO_b1e hA1 ?_) | (with_reducible refine zO_b1e hA2 ?_))
        exact zO_some (a97.symm)
    · refine ⟨M 4 16, zO_get ?_, zO_get (zO_b1e rfl ?_)⟩
      · repeat' (first | (with_reducible refine zO_gd ?hc ?_; case hc => (first | exact htag | omega)) | (with_reducible refine zO_ifp ?hc ?_; case hc => omega) | (with_reducible refine zO_ifn ?hc ?_; case hc => omega) | (with_reducible refine zO_lt ?_) | (with_reducible refine zO_b1e hk ?_) | (with_reducible refine zO_b1e hmu ?_) | (with_reducible refine zO_b1e hcat ?_) | (with_reducible refine zO_b1e hA0 ?_) | (with_reducible refine zO_b1e hA1 ?_) | (with_reducible refine zO_b1e hA2 ?_))
        exact zO_some (rfl)
      · repeat' (first | (with_reducible refine zO_gd ?hc ?_; case hc => (first | exact htag | omega)) | (with_reducible refine zO_ifp ?hc ?_; case hc => omega) | (with_reducible refine zO_ifn ?hc ?_; case hc => omega) | (with_reducible refine zO_lt ?_) | (with_reducible refine zO_b1e hk ?_) | (with_reducible refine zO_b1e hmu ?_) | (with_reducible refine zO_b1e hcat ?_) | (with_reducible refine zO_b1e hA0 ?_) | (with_reducible refine zO_b1e hA1 ?_) | (with_reducible refine zO_b1e hA2 ?_))
        exact zO_some (hT.2.2.2.2.2.1.1.symm)
    · refine ⟨M 4 17, zO_get ?_, zO_get (zO_b1e rfl ?_)⟩
      · repeat' (first | (with_reducible refine zO_gd ?hc ?_; case hc => (first | exact htag | omega)) | (with_reducible refine zO_ifp ?hc ?_; case hc => omega) | (with_reducible refine zO_ifn ?hc ?_; case hc => omega) | (with_reducible refine zO_lt ?_) | (with_reducible refine zO_b1e hk ?_) | (with_reducible refine zO_b1e hmu ?_) | (with_reducible refine zO_b1e hcat ?_) | (with_reducible refine zO_b1e hA0 ?_) | (with_reducible refine zO_b1e hA1 ?_) | (with_reducible refine zO_b1e hA2 ?_))
        exact zO_some (rfl)
      · repeat' (first | (with_reducible refine zO_gd ?hc ?_; case hc => (first | exact htag | omega)) | (with_reducible refine zO_ifp ?hc ?_; case hc => omega) | (with_reducible refine zO_ifn ?hc ?_; case hc => omega) | (with_reducible refine zO_lt ?_) | (with_reducible refine zO_b1e hk ?_) | (with_reducible refine zO_b1e hmu ?_) | (with_reducible refine zO_b1e hcat ?_) | (with_reducible refine zO_b1e hA0 ?_) | (with_reducible refine zO_b1e hA1 ?_) | (with_reducible refine zO_b1e hA2 ?_))
        exact zO_some (hT.2.2.2.2.2.2.2.2.1.1.symm)
    · refine ⟨sBu M, zO_get ?_, zO_get (zO_b1e rfl ?_)⟩
      · repeat' (first | (with_reducible refine zO_gd ?hc ?_; case hc => (first | exact htag | omega)) | (with_reducible refine zO_ifp ?hc ?_; case hc => omega) | (with_reducible refine zO_ifn ?hc ?_; case hc => omega) | (with_reducible refine zO_lt ?_) | (with_reducible refine zO_b1e hk ?_) | (with_reducible refine zO_b1e hmu ?_) | (with_reducible refine zO_b1e hcat ?_) | (with_reducible refine zO_b1e hA0 ?_) | (with_reducible refine zO_b1e hA1 ?_) | (with_reducible refine zO_b1e hA2 ?_))
        exact zO_some (rfl)
      · repeat' (first | (with_reducible refine zO_gd ?hc ?_; case hc => (first | exact htag | omega)) | (with_reducible refine zO_ifp ?hc ?_; case hc => omega) | (with_reducible refine zO_ifn ?hc ?_; case hc => omega) | (with_reducible refine zO_lt ?_) | (with_reducible refine zO_b1e hk ?_) | (with_reducible refine zO_b1e hmu ?_) | (with_reducible refine zO_b1e hcat ?_) | (with_reducible refine zO_b1e hA0 ?_) | (with_reducible refine zO_b1e hA1 ?_) | (with_reducible refine zO_b1e hA2 ?_))
        exact zO_some (rfl)
    · refine ⟨M 4 18, zO_get ?_, zO_get (zO_b1e rfl ?_)⟩
      · repeat' (first | (with_reducible refine zO_gd ?hc ?_; case hc => (first | exact htag | omega)) | (with_reducible refine zO_ifp ?hc ?_; case hc => omega) | (with_reducible refine zO_ifn ?hc ?_; case hc => omega) | (with_reducible refine zO_lt ?_) | (with_reducible refine zO_b1e hk ?_) | (with_reducible refine zO_b1e hmu ?_) | (with_reducible refine zO_b1e hcat ?_) | (with_reducible refine zO_b1e hA0 ?_) | (with_reducible refine zO_b1e hA1 ?_) | (with_reducible refine zO_b1e hA2 ?_))
        exact zO_some (rfl)
      · repeat' (first | (with_reducible refine zO_gd ?hc ?_; case hc => (first | exact htag | omega)) | (with_reducible refine zO_ifp ?hc ?_; case hc => omega) | (with_reducible refine zO_ifn ?hc ?_; case hc => omega) | (with_reducible refine zO_lt ?_) | (with_reducible refine zO_b1e hk ?_) | (with_reducible refine zO_b1e hmu ?_) | (with_reducible refine zO_b1e hcat ?_) | (with_reducible refine zO_b1e hA0 ?_) | (with_reducible refine zO_b1e hA1 ?_) | (with_reducible refine zO_b1e hA2 ?_))
        exact zO_some (hT.2.2.2.2.2.2.2.2.2.2.1.1.symm)
    · refine ⟨M 4 15, zO_get ?_, zO_get (zO_b1e rfl ?_)⟩
      · repeat' (first | (with_reducible refine zO_gd ?hc ?_; case hc => (first | exact htag | omega)) | (with_reducible refine zO_ifp ?hc ?_; case hc => omega) | (with_reducible refine zO_ifn ?hc ?_; case hc => omega) | (with_reducible refine zO_lt ?_) | (with_reducible refine zO_b1e hk ?_) | (with_reducible refine zO_b1e hmu ?_) | (with_reducible refine zO_b1e hcat ?_) | (with_reducible refine zO_b1e hA0 ?_) | (with_reducible refine zO_b1e hA1 ?_) | (with_reducible refine zO_b1e hA2 ?_))
        exact zO_some (rfl)
      · repeat' (first | (with_reducible refine zO_gd ?hc ?_; case hc => (first | exact htag | omega)) | (with_reducible refine zO_ifp ?hc ?_; case hc => omega) | (with_reducible refine zO_ifn ?hc ?_; case hc => omega) | (with_reducible refine zO_lt ?_) | (with_reducible refine zO_b1e hk ?_) | (with_reducible refine zO_b1e hmu ?_) | (with_reducible refine zO_b1e hcat ?_) | (with_reducible refine zO_b1e hA0 ?_) | (with_reducible refine zO_b1e hA1 ?_) | (with_reducible refine zO_b1e hA2 ?_))
        exact zO_some (rfl)
    · refine ⟨M 2 1, zO_get ?_, zO_get (zO_b1e rfl ?_)⟩
      · repeat' (first | (with_reducible refine zO_gd ?hc ?_; case hc => (first | exact htag | omega)) | (with_reducible refine zO_ifp ?hc ?_; case hc => omega) | (with_reducible refine zO_ifn ?hc ?_; case hc => omega) | (with_reducible refine zO_lt ?_) | (with_reducible refine zO_b1e hk ?_) | (with_reducible refine zO_b1e hmu ?_) | (with_reducible refine zO_b1e hcat ?_) | (with_reducible refine zO_b1e hA0 ?_) | (with_reducible refine zO_b1e hA1 ?_) | (with_reducible refine zO_b1e hA2 ?_))
        exact zO_some (rfl)
      · repeat' (first | (with_reducible refine zO_gd ?hc ?_; case hc => (first | exact htag | omega)) | (with_reducible refine zO_ifp ?hc ?_; case hc => omega) | (with_reducible refine zO_ifn ?hc ?_; case hc => omega) | (with_reducible refine zO_lt ?_) | (with_reducible refine zO_b1e hk ?_) | (with_reducible refine zO_b1e hmu ?_) | (with_reducible refine zO_b1e hcat ?_) | (with_reducible refine zO_b1e hA0 ?_) | (with_reducible refine zO_b1e hA1 ?_) | (with_reducible refine zO_b1e hA2 ?_))
        exact zO_some (htp.1.symm)
    · refine ⟨M 1 13, zO_get ?_, zO_get (zO_b1e rfl ?_)⟩
      · repeat' (first | (with_reducible refine zO_gd ?hc ?_; case hc => (first | exact htag | omega)) | (with_reducible refine zO_ifp ?hc ?_; case hc => omega) | (with_reducible refine zO_ifn ?hc ?_; case hc => omega) | (with_reducible refine zO_lt ?_) | (with_reducible refine zO_b1e hk ?_) | (with_reducible refine zO_b1e hmu ?_) | (with_reducible refine zO_b1e hcat ?_) | (with_reducible refine zO_b1e hA0 ?_) | (with_reducible refine zO_b1e hA1 ?_) | (with_reducible refine zO_b1e hA2 ?_))
        exact zO_some (rfl)
      · repeat' (first | (with_reducible refine zO_gd ?hc ?_; case hc => (first | exact htag | omega)) | (with_reducible refine zO_ifp ?hc ?_; case hc => omega) | (with_reducible refine zO_ifn ?hc ?_; case hc => omega) | (with_reducible refine zO_lt ?_) | (with_reducible refine zO_b1e hk ?_) | (with_reducible refine zO_b1e hmu ?_) | (with_reducible refine zO_b1e hcat ?_) | (with_reducible refine zO_b1e hA0 ?_) | (with_reducible refine zO_b1e hA1 ?_) | (with_reducible refine zO_b1e hA2 ?_))
        exact zO_some (e20.trans e13.symm)
    · refine ⟨M 51 0, zO_get ?_, zO_get (zO_b1e rfl ?_)⟩
      · repeat' (first | (with_reducible refine zO_gd ?hc ?_; case hc => (first | exact htag | omega)) | (with_reducible refine zO_ifp ?hc ?_; case hc => omega) | (with_reducible refine zO_ifn ?hc ?_; case hc => omega) | (with_reducible refine zO_lt ?_) | (with_reducible refine zO_b1e hk ?_) | (with_reducible refine zO_b1e hmu ?_) | (with_reducible refine zO_b1e hcat ?_) | (with_reducible refine zO_b1e hA0 ?_) | (with_reducible refine zO_b1e hA1 ?_) | (with_reducible refine zO_b1e hA2 ?_))
        exact zO_some (rfl)
      · repeat' (first | (with_reducible refine zO_gd ?hc ?_; case hc => (first | exact htag | omega)) | (with_reducible refine zO_ifp ?hc ?_; case hc => omega) | (with_reducible refine zO_ifn ?hc ?_; case hc => omega) | (with_reducible refine zO_lt ?_) | (with_reducible refine zO_b1e hk ?_) | (with_reducible refine zO_b1e hmu ?_) | (with_reducible refine zO_b1e hcat ?_) | (with_reducible refine zO_b1e hA0 ?_) | (with_reducible refine zO_b1e hA1 ?_) | (with_reducible refine zO_b1e hA2 ?_))
        exact zO_some ((h51 0 (by omega)).symm)
    · refine ⟨M 51 1, zO_get ?_, zO_get (zO_b1e rfl ?_)⟩
      · repeat' (first | (with_reducible refine zO_gd ?hc ?_; case hc => (first | exact htag | omega)) | (with_reducible refine zO_ifp ?hc ?_; case hc => omega) | (with_reducible refine zO_ifn ?hc ?_; case hc => omega) | (with_reducible refine zO_lt ?_) | (with_reducible refine zO_b1e hk ?_) | (with_reducible refine zO_b1e hmu ?_) | (with_reducible refine zO_b1e hcat ?_) | (with_reducible refine zO_b1e hA0 ?_) | (with_reducible refine zO_b1e hA1 ?_) | (with_reducible refine zO_b1e hA2 ?_))
        exact zO_some (rfl)
      · repeat' (first | (with_reducible refine zO_gd ?hc ?_; case hc => (first | exact htag | omega)) | (with_reducible refine zO_ifp ?hc ?_; case hc => omega) | (with_reducible refine zO_ifn ?hc ?_; case hc => omega) | (with_reducible refine zO_lt ?_) | (with_reducible refine zO_b1e hk ?_) | (with_reducible refine zO_b1e hmu ?_) | (with_reducible refine zO_b1e hcat ?_) | (with_reducible refine zO_b1e hA0 ?_) | (with_reducible refine zO_b1e hA1 ?_) | (with_reducible refine zO_b1e hA2 ?_))
        exact zO_some ((h51 1 (by omega)).symm)
    · refine ⟨M 51 2, zO_get ?_, zO_get (zO_b1e rfl ?_)⟩
      · repeat' (first | (with_reducible refine zO_gd ?hc ?_; case hc => (first | exact htag | omega)) | (with_reducible refine zO_ifp ?hc ?_; case hc => omega) | (with_reducible refine zO_ifn ?hc ?_; case hc => omega) | (with_reducible refine zO_lt ?_) | (with_reducible refine zO_b1e hk ?_) | (with_reducible refine zO_b1e hmu ?_) | (with_reducible refine zO_b1e hcat ?_) | (with_reducible refine zO_b1e hA0 ?_) | (with_reducible refine zO_b1e hA1 ?_) | (with_reducible refine zO_b1e hA2 ?_))
        exact zO_some (rfl)
      · repeat' (first | (with_reducible refine zO_gd ?hc ?_; case hc => (first | exact htag | omega)) | (with_reducible refine zO_ifp ?hc ?_; case hc => omega) | (with_reducible refine zO_ifn ?hc ?_; case hc => omega) | (with_reducible refine zO_lt ?_) | (with_reducible refine zO_b1e hk ?_) | (with_reducible refine zO_b1e hmu ?_) | (with_reducible refine zO_b1e hcat ?_) | (with_reducible refine zO_b1e hA0 ?_) | (with_reducible refine zO_b1e hA1 ?_) | (with_reducible refine zO_b1e hA2 ?_))
        exact zO_some ((h51 2 (by omega)).symm)
    · refine ⟨eT E, zO_get ?_, zO_get (zO_b1e rfl ?_)⟩
      · repeat' (first | (with_reducible refine zO_gd ?hc ?_; case hc => (first | exact htag | omega)) | (with_reducible refine zO_ifp ?hc ?_; case hc => omega) | (with_reducible refine zO_ifn ?hc ?_; case hc => omega) | (with_reducible refine zO_lt ?_) | (with_reducible refine zO_b1e hk ?_) | (with_reducible refine zO_b1e hmu ?_) | (with_reducible refine zO_b1e hcat ?_) | (with_reducible refine zO_b1e hA0 ?_) | (with_reducible refine zO_b1e hA1 ?_) | (with_reducible refine zO_b1e hA2 ?_))
        exact zO_some (a13)
      · repeat' (first | (with_reducible refine zO_gd ?hc ?_; case hc => (first | exact htag | omega)) | (with_reducible refine zO_ifp ?hc ?_; case hc => omega) | (with_reducible refine zO_ifn ?hc ?_; case hc => omega) | (with_reducible refine zO_lt ?_) | (with_reducible refine zO_b1e hk ?_) | (with_reducible refine zO_b1e hmu ?_) | (with_reducible refine zO_b1e hcat ?_) | (with_reducible refine zO_b1e hA0 ?_) | (with_reducible refine zO_b1e hA1 ?_) | (with_reducible refine zO_b1e hA2 ?_))
        exact zO_some (rfl)
    · refine ⟨eA E 0, zO_get ?_, zO_get (zO_b1e rfl ?_)⟩
      · repeat' (first | (with_reducible refine zO_gd ?hc ?_; case hc => (first | exact htag | omega)) | (with_reducible refine zO_ifp ?hc ?_; case hc => omega) | (with_reducible refine zO_ifn ?hc ?_; case hc => omega) | (with_reducible refine zO_lt ?_) | (with_reducible refine zO_b1e hk ?_) | (with_reducible refine zO_b1e hmu ?_) | (with_reducible refine zO_b1e hcat ?_) | (with_reducible refine zO_b1e hA0 ?_) | (with_reducible refine zO_b1e hA1 ?_) | (with_reducible refine zO_b1e hA2 ?_))
        exact zO_some (by rw [zL]; exact a11 0 (by omega))
      · repeat' (first | (with_reducible refine zO_gd ?hc ?_; case hc => (first | exact htag | omega)) | (with_reducible refine zO_ifp ?hc ?_; case hc => omega) | (with_reducible refine zO_ifn ?hc ?_; case hc => omega) | (with_reducible refine zO_lt ?_) | (with_reducible refine zO_b1e hk ?_) | (with_reducible refine zO_b1e hmu ?_) | (with_reducible refine zO_b1e hcat ?_) | (with_reducible refine zO_b1e hA0 ?_) | (with_reducible refine zO_b1e hA1 ?_) | (with_reducible refine zO_b1e hA2 ?_))
        exact zO_some (rfl)
    · refine ⟨eA E 1, zO_get ?_, zO_get (zO_b1e rfl ?_)⟩
      · repeat' (first | (with_reducible refine zO_gd ?hc ?_; case hc => (first | exact htag | omega)) | (with_reducible refine zO_ifp ?hc ?_; case hc => omega) | (with_reducible refine zO_ifn ?hc ?_; case hc => omega) | (with_reducible refine zO_lt ?_) | (with_reducible refine zO_b1e hk ?_) | (with_reducible refine zO_b1e hmu ?_) | (with_reducible refine zO_b1e hcat ?_) | (with_reducible refine zO_b1e hA0 ?_) | (with_reducible refine zO_b1e hA1 ?_) | (with_reducible refine zO_b1e hA2 ?_))
        exact zO_some (by rw [zL]; exact a11 1 (by omega))
      · repeat' (first | (with_reducible refine zO_gd ?hc ?_; case hc => (first | exact htag | omega)) | (with_reducible refine zO_ifp ?hc ?_; case hc => omega) | (with_reducible refine zO_ifn ?hc ?_; case hc => omega) | (with_reducible refine zO_lt ?_) | (with_reducible refine zO_b1e hk ?_) | (with_reducible refine zO_b1e hmu ?_) | (with_reducible refine zO_b1e hcat ?_) | (with_reducible refine zO_b1e hA0 ?_) | (with_reducible refine zO_b1e hA1 ?_) | (with_reducible refine zO_b1e hA2 ?_))
        exact zO_some (rfl)
    · refine ⟨eA E 2, zO_get ?_, zO_get (zO_b1e rfl ?_)⟩
      · repeat' (first | (with_reducible refine zO_gd ?hc ?_; case hc => (first | exact htag | omega)) | (with_reducible refine zO_ifp ?hc ?_; case hc => omega) | (with_reducible refine zO_ifn ?hc ?_; case hc => omega) | (with_reducible refine zO_lt ?_) | (with_reducible refine zO_b1e hk ?_) | (with_reducible refine zO_b1e hmu ?_) | (with_reducible refine zO_b1e hcat ?_) | (with_reducible refine zO_b1e hA0 ?_) | (with_reducible refine zO_b1e hA1 ?_) | (with_reducible refine zO_b1e hA2 ?_))
        exact zO_some (by rw [zL]; exact a11 2 (by omega))
      · repeat' (first | (with_reducible refine zO_gd ?hc ?_; case hc => (first | exact htag | omega)) | (with_reducible refine zO_ifp ?hc ?_; case hc => omega) | (with_reducible refine zO_ifn ?hc ?_; case hc => omega) | (with_reducible refine zO_lt ?_) | (with_reducible refine zO_b1e hk ?_) | (with_reducible refine zO_b1e hmu ?_) | (with_reducible refine zO_b1e hcat ?_) | (with_reducible refine zO_b1e hA0 ?_) | (with_reducible refine zO_b1e hA1 ?_) | (with_reducible refine zO_b1e hA2 ?_))
        exact zO_some (rfl)
    · refine ⟨M 4 19, zO_get ?_, zO_get (zO_b1e rfl ?_)⟩
      · repeat' (first | (with_reducible refine zO_gd ?hc ?_; case hc => (first | exact htag | omega)) | (with_reducible refine zO_ifp ?hc ?_; case hc => omega) | (with_reducible refine zO_ifn ?hc ?_; case hc => omega) | (with_reducible refine zO_lt ?_) | (with_reducible refine zO_b1e hk ?_) | (with_reducible refine zO_b1e hmu ?_) | (with_reducible refine zO_b1e hcat ?_) | (with_reducible refine zO_b1e hA0 ?_) | (with_reducible refine zO_b1e hA1 ?_) | (with_reducible refine zO_b1e hA2 ?_))
        exact zO_some (rfl)
      · repeat' (first | (with_reducible refine zO_gd ?hc ?_; case hc => (first | exact htag | omega)) | (with_reducible refine zO_ifp ?hc ?_; case hc => omega) | (with_reducible refine zO_ifn ?hc ?_; case hc => omega) | (with_reducible refine zO_lt ?_) | (with_reducible refine zO_b1e hk ?_) | (with_reducible refine zO_b1e hmu ?_) | (with_reducible refine zO_b1e hcat ?_) | (with_reducible refine zO_b1e hA0 ?_) | (with_reducible refine zO_b1e hA1 ?_) | (with_reducible refine zO_b1e hA2 ?_))
        exact zO_some (hT.2.2.2.2.2.2.2.2.2.2.2.2.1.1.symm)
  · refine ⟨-1, zO_get ?_, zO_get (zO_b1e rfl ?_)⟩
    · repeat' (first | (with_reducible refine zO_gd ?hc ?_; case hc => (first | exact htag | omega)) | (with_reducible refine zO_ifp ?hc ?_; case hc => omega) | (with_reducible refine zO_ifn ?hc ?_; case hc => omega) | (with_reducible refine zO_lt ?_) | (with_reducible refine zO_b1e hk ?_) | (with_reducible refine zO_b1e hmu ?_) | (with_reducible refine zO_b1e hcat ?_) | (with_reducible refine zO_b1e hA0 ?_) | (with_reducible refine zO_b1e hA1 ?_) | (with_reducible refine zO_b1e hA2 ?_))
      exact zO_some rfl
    · repeat' (first | (with_reducible refine zO_gd ?hc ?_; case hc => (first | exact htag | omega)) | (with_reducible refine zO_ifp ?hc ?_; case hc => omega) | (with_reducible refine zO_ifn ?hc ?_; case hc => omega) | (with_reducible refine zO_lt ?_) | (with_reducible refine zO_b1e hk ?_) | (with_reducible refine zO_b1e hmu ?_) | (with_reducible refine zO_b1e hcat ?_) | (with_reducible refine zO_b1e hA0 ?_) | (with_reducible refine zO_b1e hA1 ?_) | (with_reducible refine zO_b1e hA2 ?_))
      exact zO_some rfl

/-! the class's ground, whole -/
def zFok (F : Int → (Nat → Int) → Int → Int) : Prop := (∀ k w w' o, (∀ j : Nat, j < 7 → w j = w' j) → F k w o = F k w' o) ∧ (∀ w, 0 ≤ F 1 w 0 ∧ F 1 w 0 ≤ 99) ∧ (∀ w, 0 ≤ F 2 w 0 ∧ F 2 w 0 ≤ 99) ∧ (∀ w, 0 ≤ F 3 w 0 ∧ F 3 w 0 ≤ 99) ∧ (∀ w, 0 ≤ F 4 w 100 ∧ F 4 w 100 ≤ 100)
/-- the class's LAW at L answers as F -/
def zLw (i L : Nat) (M : zM) (F : Int → (Nat → Int) → Int → Int) : Prop := ∀ (w : Nat) (kind other : Int) (M' : zM), (w = 35 ∨ w = 37) → (kind = 1 ∨ kind = 2 ∨ kind = 3 ∨ kind = 4) → M' L = M L → (∀ q, L < q → q ≤ L + 11 → M' q = M q) → (∀ j, j < 7 → 0 ≤ M' w j ∧ M' w j ≤ 1000) → f_X3_first (zKn i) L kind w other M' = some (F kind (M' w) other)
theorem zLw.fr {i L : Nat} {M M' : zM} {F : Int → (Nat → Int) → Int → Int} (h : zLw i L M F) (h0 : M' L = M L) (h1 : ∀ q, L < q → q ≤ L + 11 → M' q = M q) : zLw i L M' F := fun w kind other M'' hw hk e0 e1 hr => h w kind other M'' hw hk (e0.trans h0) (fun q a b => (e1 q a b).trans (h1 q a b)) hr
def zW0 (c : Nat) : Nat → Int := fun j => if j = 0 then ((c % 16 : Nat) : Int) else if j = 1 then ((c / 16 : Nat) : Int) else 0
def sSunk (F : Int → (Nat → Int) → Int → Int) (c : Nat) : Int := F 1 (zW0 c) 0
def sLo (F : Int → (Nat → Int) → Int → Int) (lo : Nat → Int) (c : Nat) : Int := zmin 99 (lo c + sSunk F c)
def sMid (F : Int → (Nat → Int) → Int → Int) (lo hi : Nat → Int) (c : Nat) : Int := sLo F lo c + sLo F hi c
def zLH (lo : Nat → Int) : Prop := ∀ c, c < 256 → 0 ≤ lo c ∧ lo c ≤ 99
theorem sSunk_r {F : Int → (Nat → Int) → Int → Int} (hF : zFok F) {c : Nat} : 0 ≤ sSunk F c ∧ sSunk F c ≤ 99 := hF.2.1 _
theorem sLo_r {F : Int → (Nat → Int) → Int → Int} {lo : Nat → Int} (hF : zFok F) (hl : zLH lo) {c : Nat} (hc : c < 256) : 0 ≤ sLo F lo c ∧ sLo F lo c ≤ 99 := by
  have := sSunk_r hF (c := c)
  have := hl c hc
  unfold sLo zmin
  split <;> omega
theorem sMid_m {F : Int → (Nat → Int) → Int → Int} {lo hi : Nat → Int} (hF : zFok F) (hl : zLH lo) (hh : zLH hi) : zMid (sMid F lo hi) := by
  intro c hc
  have := sLo_r hF hl hc
  have := sLo_r hF hh hc
  unfold sMid
  omega
/-- the class's ground stands -/
def zGC (M : zM) (F : Int → (Nat → Int) → Int → Int) : Prop := ∀ c : Nat, c < 256 → M 25 c = sSunk F c ∧ M 26 c = sLo F (M 5) c ∧ M 27 c = sLo F (M 18) c ∧ M 28 c = sMid F (M 5) (M 18) c ∧ M 29 c = sFl (M 28) c ∧ M 30 c = sRiv (M 28) c ∧ M 31 c = sWind (M 28) c ∧ M 32 c = (sEnd (M 28) c : Int)
abbrev zGi : List Nat := [25, 26, 27, 28, 29, 30, 31, 32, 33, 34, 35]
theorem zGi_n {q : Nat} (h : q < 25 ∨ 35 < q) : q ∉ zGi := by
  intro hm
  simp only [zGi, List.mem_cons, List.not_mem_nil, or_false] at hm
  omega
theorem g2_survey {i L : Nat} {M : zM} {F : Int → (Nat → Int) → Int → Int} (hL : L = 52 ∨ L = 64) (hl : zLw i L M F) (hF : zFok F) (h5 : zLH (M 5)) (h18 : zLH (M 18)) (hw : ∀ j, 2 ≤ j → j < 7 → M 35 j = 0) : zO (g_X2_survey (zKn i) L M) (fun M' => zFr zGi M M' ∧ zGC M' F ∧ ∀ j, 2 ≤ j → j < 7 → M' 35 j = 0) := by
  unfold g_X2_survey
  have hm := sMid_m hF h5 h18
  -- heights
  refine zO_b1q (Q := fun M' => zFr zGi M M' ∧ (∀ j, 2 ≤ j → j < 7 → M' 35 j = 0) ∧ ∀ c : Nat, c < 256 → M' 25 c = sSunk F c ∧ M' 26 c = sLo F (M 5) c ∧ M' 27 c = sLo F (M 18) c ∧ M' 28 c = sMid F (M 5) (M 18) c) ?_ ?_
  · unfold zw2
    refine zO_for (fun s => s.1) 256 (fun j s => zFr zGi M s.2 ∧ (∀ t, 2 ≤ t → t < 7 → s.2 35 t = 0) ∧ ∀ c : Nat, c < j → s.2 25 c = sSunk F c ∧ s.2 26 c = sLo F (M 5) c ∧ s.2 27 c = sLo F (M 18) c ∧ s.2 28 c = sMid F (M 5) (M 18) c) ?_ ?_ (by omega) 0 (by omega) rfl ⟨zFr_refl, hw, fun c hc => by omega⟩
    · rintro j ⟨y, M'⟩ hj hc ⟨hfr, hz, hI⟩
      simp only at hc hfr hz hI
      subst hc
      have e5 : M' 5 = M 5 := hfr 5 (zGi_n (by omega))
      have e18 : M' 18 = M 18 := hfr 18 (zGi_n (by omega))
      have hs := sSunk_r hF (c := j)
      have w0 : ∀ t : Nat, t < 7 → zup (zup (M' 35) 0 ((j : Int) % 16)) 1 ((j : Int) / 16) t = zW0 j t := by
        intro t ht
        unfold zup zW0
        rcases (show t = 0 ∨ t = 1 ∨ 2 ≤ t by omega) with h | h | h
        · subst h; simp
        · subst h; simp
        · rw [if_neg (by omega), if_neg (by omega), if_neg (by omega), if_neg (by omega)]
          exact hz t h ht
      have hfirst : f_X3_first (zKn i) L 1 35 0 (zst (zst M' 35 0 ((j : Int) % 16)) 35 1 ((j : Int) / 16)) = some (sSunk F j) := by
        rw [hl 35 1 0 _ (Or.inl rfl) (Or.inl rfl)]
        · simp (disch := decide) only [zst_s]
          rw [hF.1 1 _ (zW0 j) 0 w0]
          rfl
        · rw [zst_ne (by omega), zst_ne (by omega)]
          exact hfr L (zGi_n (by omega))
        · intro q h1 h2
          rw [zst_ne (by omega), zst_ne (by omega)]
          exact hfr q (zGi_n (by omega))
        · intro t ht
          simp only [zst_s]
          rw [w0 t ht]
          unfold zW0
          split
          · omega
          · split <;> omega
      have h5' := h5 j hj
      have h18' := h18 j hj
      rw [← e5] at h5'
      rw [← e18] at h18'
      unfold gb_X2_survey_2
      dsimp only
      simp only [Int.toNat_zero, Int.toNat_one]
      repeat' (first | (with_reducible refine zO_b1e hfirst ?_) | (with_reducible refine zO_lt ?_) | (with_reducible refine zO_gd ?hc ?_; case hc => (first | omega | (simp (disch := omega) only [zst_ne, zst_s, zup_eq, zup_ne, Int.toNat_natCast, not_true_eq_false, not_false_eq_true, true_or, or_true, true_and, and_true]; first | done | omega) | with_reducible exact True.intro)) | (with_reducible refine zO_brp ?ha ?hb ?hc ?_; (case ha => (first | omega | (simp (disch := omega) only [zst_ne, zst_s, zup_eq, zup_ne, Int.toNat_natCast, not_true_eq_false, not_false_eq_true, true_or, or_true, true_and, and_true]; first | done | omega) | with_reducible exact True.intro)); (case hb => (first | omega | (simp (disch := omega) only [zst_ne, zst_s, zup_eq, zup_ne, Int.toNat_natCast, not_true_eq_false, not_false_eq_true, true_or, or_true, true_and, and_true]; first | done | omega) | with_reducible exact True.intro)); (case hc => (first | omega | (simp (disch := omega) only [zst_ne, zst_s, zup_eq, zup_ne, Int.toNat_natCast, not_true_eq_false, not_false_eq_true, true_or, or_true, true_and, and_true]; first | done | omega) | with_reducible exact True.intro))) | (with_reducible refine zO_brn ?ha ?hb ?hc ?_; (case ha => (first | omega | (simp (disch := omega) only [zst_ne, zst_s, zup_eq, zup_ne, Int.toNat_natCast, not_true_eq_false, not_false_eq_true, true_or, or_true, true_and, and_true]; first | done | omega) | with_reducible exact True.intro)); (case hb => (first | omega | (simp (disch := omega) only [zst_ne, zst_s, zup_eq, zup_ne, Int.toNat_natCast, not_true_eq_false, not_false_eq_true, true_or, or_true, true_and, and_true]; first | done | omega) | with_reducible exact True.intro)); (case hc => (first | omega | (simp (disch := omega) only [zst_ne, zst_s, zup_eq, zup_ne, Int.toNat_natCast, not_true_eq_false, not_false_eq_true, true_or, or_true, true_and, and_true]; first | done | omega) | with_reducible exact True.intro))) | simp (disch := omega) only [zst_ne, zst_s, zup_eq, zup_ne, Int.toNat_natCast, not_true_eq_false, not_false_eq_true, true_or, or_true, true_and, and_true] | (with_reducible refine zO_br ?ha ?hb (fun _ => ?_) (fun _ => ?_); (case ha => (first | omega | (simp (disch := omega) only [zst_ne, zst_s, zup_eq, zup_ne, Int.toNat_natCast, not_true_eq_false, not_false_eq_true, true_or, or_true, true_and, and_true]; first | done | omega) | with_reducible exact True.intro)); (case hb => (first | omega | (simp (disch := omega) only [zst_ne, zst_s, zup_eq, zup_ne, Int.toNat_natCast, not_true_eq_false, not_false_eq_true, true_or, or_true, true_and, and_true]; first | done | omega) | with_reducible exact True.intro))) | (with_reducible refine zO_ifp ?hc ?_; case hc => (first | omega | (simp (disch := omega) only [zst_ne, zst_s, zup_eq, zup_ne, Int.toNat_natCast, not_true_eq_false, not_false_eq_true, true_or, or_true, true_and, and_true]; first | done | omega) | with_reducible exact True.intro)) | (with_reducible refine zO_ifn ?hc ?_; case hc => (first | omega | (simp (disch := omega) only [zst_ne, zst_s, zup_eq, zup_ne, Int.toNat_natCast, not_true_eq_false, not_false_eq_true, true_or, or_true, true_and, and_true]; first | done | omega) | with_reducible exact True.intro)) | fail)
      refine zO_inl ⟨by omega, ?_, ?_, ?_⟩
      · exact (((((hfr.st (by decide)).st (by decide)).st (by decide)).st (by decide)).st (by decide)).st (by decide)
      · intro t h1 h2
        dsimp only
        simp (disch := omega) only [zst_ne, zst_s, zup_ne]
        exact hz t h1 h2
      · intro c hc
        dsimp only
        simp (disch := omega) only [zst_ne, zst_s]
        rcases Nat.lt_or_ge c j with h | h
        · simp (disch := omega) only [zup_ne]
          exact hI c h
        · have : c = j := by omega
          subst this
          simp only [zup_eq]
          refine ⟨trivial, ?_, ?_, ?_⟩
          all_goals rw [e5] at *
          all_goals rw [e18] at *
          all_goals rfl
    · rintro ⟨y, M'⟩ hc ⟨hfr, hz, hI⟩
      simp only at hc
      subst hc
      unfold gb_X2_survey_2
      dsimp only
      repeat' (first | (with_reducible refine zO_lt ?_) | (with_reducible refine zO_gd ?hc ?_; case hc => (first | omega | (simp (disch := omega) only [zst_ne, zst_s, zup_eq, zup_ne, Int.toNat_natCast, not_true_eq_false, not_false_eq_true, true_or, or_true, true_and, and_true]; first | done | omega) | with_reducible exact True.intro)) | (with_reducible refine zO_brp ?ha ?hb ?hc ?_; (case ha => (first | omega | (simp (disch := omega) only [zst_ne, zst_s, zup_eq, zup_ne, Int.toNat_natCast, not_true_eq_false, not_false_eq_true, true_or, or_true, true_and, and_true]; first | done | omega) | with_reducible exact True.intro)); (case hb => (first | omega | (simp (disch := omega) only [zst_ne, zst_s, zup_eq, zup_ne, Int.toNat_natCast, not_true_eq_false, not_false_eq_true, true_or, or_true, true_and, and_true]; first | done | omega) | with_reducible exact True.intro)); (case hc => (first | omega | (simp (disch := omega) only [zst_ne, zst_s, zup_eq, zup_ne, Int.toNat_natCast, not_true_eq_false, not_false_eq_true, true_or, or_true, true_and, and_true]; first | done | omega) | with_reducible exact True.intro))) | (with_reducible refine zO_brn ?ha ?hb ?hc ?_; (case ha => (first | omega | (simp (disch := omega) only [zst_ne, zst_s, zup_eq, zup_ne, Int.toNat_natCast, not_true_eq_false, not_false_eq_true, true_or, or_true, true_and, and_true]; first | done | omega) | with_reducible exact True.intro)); (case hb => (first | omega | (simp (disch := omega) only [zst_ne, zst_s, zup_eq, zup_ne, Int.toNat_natCast, not_true_eq_false, not_false_eq_true, true_or, or_true, true_and, and_true]; first | done | omega) | with_reducible exact True.intro)); (case hc => (first | omega | (simp (disch := omega) only [zst_ne, zst_s, zup_eq, zup_ne, Int.toNat_natCast, not_true_eq_false, not_false_eq_true, true_or, or_true, true_and, and_true]; first | done | omega) | with_reducible exact True.intro))) | simp (disch := omega) only [zst_ne, zst_s, zup_eq, zup_ne, Int.toNat_natCast, not_true_eq_false, not_false_eq_true, true_or, or_true, true_and, and_true] | (with_reducible refine zO_br ?ha ?hb (fun _ => ?_) (fun _ => ?_); (case ha => (first | omega | (simp (disch := omega) only [zst_ne, zst_s, zup_eq, zup_ne, Int.toNat_natCast, not_true_eq_false, not_false_eq_true, true_or, or_true, true_and, and_true]; first | done | omega) | with_reducible exact True.intro)); (case hb => (first | omega | (simp (disch := omega) only [zst_ne, zst_s, zup_eq, zup_ne, Int.toNat_natCast, not_true_eq_false, not_false_eq_true, true_or, or_true, true_and, and_true]; first | done | omega) | with_reducible exact True.intro))) | (with_reducible refine zO_ifp ?hc ?_; case hc => (first | omega | (simp (disch := omega) only [zst_ne, zst_s, zup_eq, zup_ne, Int.toNat_natCast, not_true_eq_false, not_false_eq_true, true_or, or_true, true_and, and_true]; first | done | omega) | with_reducible exact True.intro)) | (with_reducible refine zO_ifn ?hc ?_; case hc => (first | omega | (simp (disch := omega) only [zst_ne, zst_s, zup_eq, zup_ne, Int.toNat_natCast, not_true_eq_false, not_false_eq_true, true_or, or_true, true_and, and_true]; first | done | omega) | with_reducible exact True.intro)) | fail)
      exact zO_inr ⟨hfr, hz, hI⟩
  rintro A ⟨fA, zA, hA⟩
  have mA : zMid (A 28) := fun c hc => by rw [(hA c hc).2.2.2]; exact hm c hc
  -- where they flow, what wind
  refine zO_b1q (Q := fun M' => zFr zGi M M' ∧ (∀ j, 2 ≤ j → j < 7 → M' 35 j = 0) ∧ zFr [29, 31] A M' ∧ ∀ c : Nat, c < 256 → M' 29 c = sFl (A 28) c ∧ M' 31 c = sWind (A 28) c) ?_ ?_
  · unfold zw2
    refine zO_for (fun s => s.1) 256 (fun j s => zFr [29, 31] A s.2 ∧ ∀ c : Nat, c < j → s.2 29 c = sFl (A 28) c ∧ s.2 31 c = sWind (A 28) c) ?_ ?_ (by omega) 0 (by omega) rfl ⟨zFr_refl, fun c hc => by omega⟩
    · rintro j ⟨y, M'⟩ hj hc ⟨hfr, hI⟩
      simp only at hc hfr hI
      subst hc
      have e28 : M' 28 = A 28 := hfr 28 (by decide)
      have hr : ∀ t, t < 256 → zr (A 28 t) := fun t ht => by have := mA t ht; omega
      have hlow : g_X2_lowestBeside (zKn i) j M' = some (sFl (A 28) j) := by
        rw [g2_low ⟨by omega, by omega⟩ (by rw [e28]; exact hr), e28, Int.toNat_natCast]
      have hwin : g_X2_countHigherRound (zKn i) j (zst M' 29 (j : Int).toNat (sFl (A 28) j)) = some (sWind (A 28) j) := by
        rw [g2_cr ⟨by omega, by omega⟩ (by rw [zst_ne (by decide), e28]; exact hr), zst_ne (by decide), e28, Int.toNat_natCast]
      unfold gb_X2_survey_120
      dsimp only
      repeat' (first | (with_reducible refine zO_b1e hlow ?_) | (with_reducible refine zO_b1e hwin ?_) | (with_reducible refine zO_lt ?_) | (with_reducible refine zO_gd ?hc ?_; case hc => (first | omega | (simp (disch := omega) only [zst_ne, zst_s, zup_eq, zup_ne, Int.toNat_natCast, not_true_eq_false, not_false_eq_true, true_or, or_true, true_and, and_true]; first | done | omega) | with_reducible exact True.intro)) | (with_reducible refine zO_brp ?ha ?hb ?hc ?_; (case ha => (first | omega | (simp (disch := omega) only [zst_ne, zst_s, zup_eq, zup_ne, Int.toNat_natCast, not_true_eq_false, not_false_eq_true, true_or, or_true, true_and, and_true]; first | done | omega) | with_reducible exact True.intro)); (case hb => (first | omega | (simp (disch := omega) only [zst_ne, zst_s, zup_eq, zup_ne, Int.toNat_natCast, not_true_eq_false, not_false_eq_true, true_or, or_true, true_and, and_true]; first | done | omega) | with_reducible exact True.intro)); (case hc => (first | omega | (simp (disch := omega) only [zst_ne, zst_s, zup_eq, zup_ne, Int.toNat_natCast, not_true_eq_false, not_false_eq_true, true_or, or_true, true_and, and_true]; first | done | omega) | with_reducible exact True.intro))) | (with_reducible refine zO_brn ?ha ?hb ?hc ?_; (case ha => (first | omega | (simp (disch := omega) only [zst_ne, zst_s, zup_eq, zup_ne, Int.toNat_natCast, not_true_eq_false, not_false_eq_true, true_or, or_true, true_and, and_true]; first | done | omega) | with_reducible exact True.intro)); (case hb => (first | omega | (simp (disch := omega) only [zst_ne, zst_s, zup_eq, zup_ne, Int.toNat_natCast, not_true_eq_false, not_false_eq_true, true_or, or_true, true_and, and_true]; first | done | omega) | with_reducible exact True.intro)); (case hc => (first | omega | (simp (disch := omega) only [zst_ne, zst_s, zup_eq, zup_ne, Int.toNat_natCast, not_true_eq_false, not_false_eq_true, true_or, or_true, true_and, and_true]; first | done | omega) | with_reducible exact True.intro))) | simp (disch := omega) only [zst_ne, zst_s, zup_eq, zup_ne, Int.toNat_natCast, not_true_eq_false, not_false_eq_true, true_or, or_true, true_and, and_true] | (with_reducible refine zO_br ?ha ?hb (fun _ => ?_) (fun _ => ?_); (case ha => (first | omega | (simp (disch := omega) only [zst_ne, zst_s, zup_eq, zup_ne, Int.toNat_natCast, not_true_eq_false, not_false_eq_true, true_or, or_true, true_and, and_true]; first | done | omega) | with_reducible exact True.intro)); (case hb => (first | omega | (simp (disch := omega) only [zst_ne, zst_s, zup_eq, zup_ne, Int.toNat_natCast, not_true_eq_false, not_false_eq_true, true_or, or_true, true_and, and_true]; first | done | omega) | with_reducible exact True.intro))) | (with_reducible refine zO_ifp ?hc ?_; case hc => (first | omega | (simp (disch := omega) only [zst_ne, zst_s, zup_eq, zup_ne, Int.toNat_natCast, not_true_eq_false, not_false_eq_true, true_or, or_true, true_and, and_true]; first | done | omega) | with_reducible exact True.intro)) | (with_reducible refine zO_ifn ?hc ?_; case hc => (first | omega | (simp (disch := omega) only [zst_ne, zst_s, zup_eq, zup_ne, Int.toNat_natCast, not_true_eq_false, not_false_eq_true, true_or, or_true, true_and, and_true]; first | done | omega) | with_reducible exact True.intro)) | fail)
      refine zO_inl ⟨by omega, (hfr.st (by decide)).st (by decide), ?_⟩
      intro c hc
      dsimp only
      simp (disch := omega) only [zst_ne, zst_s, Int.toNat_natCast]
      rcases Nat.lt_or_ge c j with h | h
      · simp (disch := omega) only [zup_ne]
        exact hI c h
      · have : c = j := by omega
        subst this
        simp only [zup_eq, and_self]
    · rintro ⟨y, M'⟩ hc ⟨hfr, hI⟩
      simp only at hc
      subst hc
      unfold gb_X2_survey_120
      dsimp only
      repeat' (first | (with_reducible refine zO_lt ?_) | (with_reducible refine zO_gd ?hc ?_; case hc => (first | omega | (simp (disch := omega) only [zst_ne, zst_s, zup_eq, zup_ne, Int.toNat_natCast, not_true_eq_false, not_false_eq_true, true_or, or_true, true_and, and_true]; first | done | omega) | with_reducible exact True.intro)) | (with_reducible refine zO_brp ?ha ?hb ?hc ?_; (case ha => (first | omega | (simp (disch := omega) only [zst_ne, zst_s, zup_eq, zup_ne, Int.toNat_natCast, not_true_eq_false, not_false_eq_true, true_or, or_true, true_and, and_true]; first | done | omega) | with_reducible exact True.intro)); (case hb => (first | omega | (simp (disch := omega) only [zst_ne, zst_s, zup_eq, zup_ne, Int.toNat_natCast, not_true_eq_false, not_false_eq_true, true_or, or_true, true_and, and_true]; first | done | omega) | with_reducible exact True.intro)); (case hc => (first | omega | (simp (disch := omega) only [zst_ne, zst_s, zup_eq, zup_ne, Int.toNat_natCast, not_true_eq_false, not_false_eq_true, true_or, or_true, true_and, and_true]; first | done | omega) | with_reducible exact True.intro))) | (with_reducible refine zO_brn ?ha ?hb ?hc ?_; (case ha => (first | omega | (simp (disch := omega) only [zst_ne, zst_s, zup_eq, zup_ne, Int.toNat_natCast, not_true_eq_false, not_false_eq_true, true_or, or_true, true_and, and_true]; first | done | omega) | with_reducible exact True.intro)); (case hb => (first | omega | (simp (disch := omega) only [zst_ne, zst_s, zup_eq, zup_ne, Int.toNat_natCast, not_true_eq_false, not_false_eq_true, true_or, or_true, true_and, and_true]; first | done | omega) | with_reducible exact True.intro)); (case hc => (first | omega | (simp (disch := omega) only [zst_ne, zst_s, zup_eq, zup_ne, Int.toNat_natCast, not_true_eq_false, not_false_eq_true, true_or, or_true, true_and, and_true]; first | done | omega) | with_reducible exact True.intro))) | simp (disch := omega) only [zst_ne, zst_s, zup_eq, zup_ne, Int.toNat_natCast, not_true_eq_false, not_false_eq_true, true_or, or_true, true_and, and_true] | (with_reducible refine zO_br ?ha ?hb (fun _ => ?_) (fun _ => ?_); (case ha => (first | omega | (simp (disch := omega) only [zst_ne, zst_s, zup_eq, zup_ne, Int.toNat_natCast, not_true_eq_false, not_false_eq_true, true_or, or_true, true_and, and_true]; first | done | omega) | with_reducible exact True.intro)); (case hb => (first | omega | (simp (disch := omega) only [zst_ne, zst_s, zup_eq, zup_ne, Int.toNat_natCast, not_true_eq_false, not_false_eq_true, true_or, or_true, true_and, and_true]; first | done | omega) | with_reducible exact True.intro))) | (with_reducible refine zO_ifp ?hc ?_; case hc => (first | omega | (simp (disch := omega) only [zst_ne, zst_s, zup_eq, zup_ne, Int.toNat_natCast, not_true_eq_false, not_false_eq_true, true_or, or_true, true_and, and_true]; first | done | omega) | with_reducible exact True.intro)) | (with_reducible refine zO_ifn ?hc ?_; case hc => (first | omega | (simp (disch := omega) only [zst_ne, zst_s, zup_eq, zup_ne, Int.toNat_natCast, not_true_eq_false, not_false_eq_true, true_or, or_true, true_and, and_true]; first | done | omega) | with_reducible exact True.intro)) | fail)
      refine zO_inr ⟨fA.tr (hfr.mono (by decide)), fun t h1 h2 => ?_, hfr, hI⟩
      rw [show M' 35 = A 35 from hfr 35 (by decide)]
      exact zA t h1 h2
  rintro B ⟨fB, zBq, fAB, hB⟩
  have e28 : B 28 = A 28 := fAB 28 (by decide)
  refine zO_b1q (g2_sort (by rw [e28]; exact mA)) ?_
  rintro C ⟨fC, hC⟩
  have c28 : C 28 = A 28 := (fC 28 (by decide)).trans e28
  refine zO_b1q (g2_run (by rw [c28]; exact mA) (by rw [c28]; rw [e28] at hC; exact hC) (fun c hc => by rw [fC 29 (by decide), (hB c hc).1, c28])) ?_
  rintro D ⟨fD, hD⟩
  have gD : zFr zGi M D := (fB.tr (fC.mono (by decide))).tr (fD.mono (by decide))
  have d28 : D 28 = A 28 := (fD 28 (by decide)).trans c28
  refine zO_some ⟨gD, fun c hc => ?_, fun t h1 h2 => ?_⟩
  · have h1 := hA c hc
    have h2 := hB c hc
    have h3 := hD c hc
    rw [d28, show D 5 = M 5 from gD 5 (zGi_n (by omega)), show D 18 = M 18 from gD 18 (zGi_n (by omega))]
    rw [c28] at h3
    refine ⟨?_, ?_, ?_, h1.2.2.2, ?_, h3.1, ?_, h3.2⟩
    · rw [fD 25 (by decide), fC 25 (by decide), fAB 25 (by decide)]; exact h1.1
    · rw [fD 26 (by decide), fC 26 (by decide), fAB 26 (by decide)]; exact h1.2.1
    · rw [fD 27 (by decide), fC 27 (by decide), fAB 27 (by decide)]; exact h1.2.2.1
    · rw [fD 29 (by decide), fC 29 (by decide)]; exact h2.1
    · rw [fD 31 (by decide), fC 31 (by decide)]; exact h2.2
  · rw [fD 35 (by decide), fC 35 (by decide)]
    exact zBq t h1 h2

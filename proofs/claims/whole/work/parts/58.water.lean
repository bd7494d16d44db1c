/-! the class lets the water run -/
def zOrd (m : Nat → Int) (o : Nat → Int) : Prop := ∀ c : Nat, c < 256 → o (sRk m c).toNat = (c : Int)
theorem zOrd_at {m o : Nat → Int} (h : zOrd m o) {j : Nat} (hj : j < 256) : ∃ c : Nat, c < 256 ∧ sRk m c = (j : Int) ∧ o j = (c : Int) := by
  obtain ⟨c, hc, e⟩ := sRk_sur (m := m) (k := (j : Int)) (by omega) (by omega)
  refine ⟨c, hc, e, ?_⟩
  have := h c hc
  rw [e, Int.toNat_natCast] at this
  exact this
/-- what has come to x from the places j and on -/
def zCom (m : Nat → Int) (j x : Nat) : Int := zsum 256 (fun b => if (j : Int) ≤ sRk m b ∧ sFl m b = (x : Int) then sRiv m b else 0)
theorem zCom_r {m : Nat → Int} (hm : zMid m) {j x : Nat} : 0 ≤ zCom m j x ∧ zCom m j x ≤ 25344 := by
  have h1 : 0 ≤ zCom m j x := zsum_nn (fun b _ => by
    have := sRiv_r hm (x := b)
    show 0 ≤ (if _ then sRiv m b else 0)
    split <;> omega)
  have h2 : zCom m j x ≤ (256 : Nat) * 99 := zsum_le (fun b _ => by
    have := sRiv_r hm (x := b)
    show (if _ then sRiv m b else 0) ≤ 99
    split <;> omega)
  omega
theorem zCom_all {m : Nat → Int} (hm : zMid m) {j x : Nat} (hx : x < 256) (hj : sRk m x < (j : Int) + 1) (hj' : (j : Int) ≤ sRk m x + 1) : zmin (1 + zCom m j x) 99 = sRiv m x := by
  rw [sRiv_up hm hx]
  unfold zCom
  rw [zsum_congr (g := fun b => if sFl m b = (x : Int) then sRiv m b else 0)]
  intro b hb
  by_cases h : sFl m b = (x : Int)
  · rcases sFl_r (m := m) hb with h1 | ⟨h2, h3, h4, _⟩
    · omega
    · rw [h, Int.toNat_natCast] at h4
      have := sRk_lt (m := m) hx (Or.inl h4)
      rw [if_pos ⟨by omega, h⟩, if_pos h]
  · rw [if_neg (fun h' => h h'.2), if_neg h]
theorem zCom_s {m : Nat → Int} {j x c : Nat} (hc : c < 256) (e : sRk m c = (j : Int)) : zCom m j x = zCom m (j + 1) x + (if sFl m c = (x : Int) then sRiv m c else 0) := by
  unfold zCom
  rw [zsum_upd (c := c) (f := fun b => if ((j + 1 : Nat) : Int) ≤ sRk m b ∧ sFl m b = (x : Int) then sRiv m b else 0) hc]
  · rw [if_neg (by omega)]
    by_cases h : sFl m c = (x : Int)
    · rw [if_pos ⟨by omega, h⟩, if_pos h]; omega
    · rw [if_neg (fun h' => h h'.2), if_neg h]; omega
  · intro b hb hbc
    have : sRk m b ≠ (j : Int) := fun e' => hbc (sRk_inj (m := m) hb hc (by omega))
    by_cases h : (j : Int) ≤ sRk m b ∧ sFl m b = (x : Int)
    · rw [if_pos h, if_pos ⟨by omega, h.2⟩]
    · rw [if_neg h, if_neg (fun h' => h ⟨by omega, h'.2⟩)]
theorem g2_run {i : Nat} {M : zM} (hm : zMid (M 28)) (ho : zOrd (M 28) (M 33)) (hf : ∀ c, c < 256 → M 29 c = sFl (M 28) c) : zO (g_X2_runWater (zKn i) M) (fun M' => zFr [30, 32] M M' ∧ ∀ c : Nat, c < 256 → M' 30 c = sRiv (M 28) c ∧ M' 32 c = (sEnd (M 28) c : Int)) := by
  unfold g_X2_runWater
  refine zO_b1e (zfill zl_30 (by omega)) ?_
  generalize hA : (fun a b => if a = 30 ∧ b < 256 then (1 : Int) else M a b) = A
  have fA : zFr [30, 32] M A := by
    intro q hq
    rw [← hA]
    funext b
    have : q ≠ 30 := fun e => hq (by rw [e]; decide)
    simp [this]
  have zA : ∀ v, v < 256 → A 30 v = 1 := by
    intro v hv
    rw [← hA]
    simp [hv]
  refine zO_b1q (Q := fun M' => zFr [30, 32] M M' ∧ ∀ c : Nat, c < 256 → M' 30 c = sRiv (M 28) c) ?_ ?_
  · unfold zw2
    refine zO_down (fun s => s.1) 256 (fun j s => zFr [30, 32] M s.2 ∧ ∀ x : Nat, x < 256 → s.2 30 x = if (j : Int) ≤ sRk (M 28) x then sRiv (M 28) x else 1 + zCom (M 28) j x) ?_ ?_ (by omega) rfl ⟨fA, ?_⟩
    · rintro j ⟨y, M'⟩ hj hc ⟨hfr, hI⟩
      simp only at hc hfr hI
      subst hc
      obtain ⟨c, hc, ec, oc⟩ := zOrd_at ho hj
      have e28 : M' 28 = M 28 := hfr 28 (by decide)
      have e29 : M' 29 = M 29 := hfr 29 (by decide)
      have e33 : M' 33 = M 33 := hfr 33 (by decide)
      have ord : M' 33 j = (c : Int) := by rw [e33]; exact oc
      have hr := zCom_r hm (j := j + 1) (x := c)
      have h30 : M' 30 c = 1 + zCom (M 28) (j + 1) c := by rw [hI c hc, if_neg (by omega)]
      have hcap : zmin (M' 30 c) 99 = sRiv (M 28) c := by rw [h30]; exact zCom_all hm hc (by omega) (by omega)
      have h29 : M' 29 c = sFl (M 28) c := by rw [e29]; exact hf c hc
      rcases sFl_r (m := M 28) hc with hfl | hfl2
      · -- nowhere
        unfold gb_X2_runWater_12
        dsimp only
        simp only [Int.toNat_natCast, ord]
        repeat' (first | (with_reducible refine zO_lt ?_) | (with_reducible refine zO_gd ?hc ?_; case hc => (first | omega | (simp (disch := omega) only [zst_ne, zst_s, zup_eq, zup_ne, Int.toNat_natCast]; first | done | omega))) | (with_reducible refine zO_brp ?ha ?hb ?hc ?_; (case ha => (first | omega | (simp (disch := omega) only [zst_ne, zst_s, zup_eq, zup_ne, Int.toNat_natCast]; first | done | omega))); (case hb => (first | omega | (simp (disch := omega) only [zst_ne, zst_s, zup_eq, zup_ne, Int.toNat_natCast]; first | done | omega))); (case hc => (first | omega | (simp (disch := omega) only [zst_ne, zst_s, zup_eq, zup_ne, Int.toNat_natCast]; first | done | omega)))) | (with_reducible refine zO_brn ?ha ?hb ?hc ?_; (case ha => (first | omega | (simp (disch := omega) only [zst_ne, zst_s, zup_eq, zup_ne, Int.toNat_natCast]; first | done | omega))); (case hb => (first | omega | (simp (disch := omega) only [zst_ne, zst_s, zup_eq, zup_ne, Int.toNat_natCast]; first | done | omega))); (case hc => (first | omega | (simp (disch := omega) only [zst_ne, zst_s, zup_eq, zup_ne, Int.toNat_natCast]; first | done | omega)))) | simp (disch := omega) only [zst_ne, zst_s, zup_eq, zup_ne, Int.toNat_natCast] | (with_reducible refine zO_br ?ha ?hb (fun _ => ?_) (fun _ => ?_); (case ha => (first | omega | (simp (disch := omega) only [zst_ne, zst_s, zup_eq, zup_ne, Int.toNat_natCast]; first | done | omega))); (case hb => (first | omega | (simp (disch := omega) only [zst_ne, zst_s, zup_eq, zup_ne, Int.toNat_natCast]; first | done | omega)))) | (with_reducible refine zO_ifp ?hc ?_; case hc => (first | omega | (simp (disch := omega) only [zst_ne, zst_s, zup_eq, zup_ne, Int.toNat_natCast]; first | done | omega))) | (with_reducible refine zO_ifn ?hc ?_; case hc => (first | omega | (simp (disch := omega) only [zst_ne, zst_s, zup_eq, zup_ne, Int.toNat_natCast]; first | done | omega))))
        simp only [Int.toNat_natCast, hcap]
        refine zO_inl ⟨by omega, hfr.st (by decide), ?_⟩
        intro x hx
        dsimp only
        rw [zst_r]
        by_cases h : x = c
        · subst h
          rw [if_pos ⟨rfl, rfl⟩, if_pos (by omega)]
        · rw [if_neg (fun h' => h h'.2), hI x hx]
          have hne : sRk (M 28) x ≠ (j : Int) := fun e' => h (sRk_inj (m := M 28) hx hc (by omega))
          by_cases h2 : (j : Int) ≤ sRk (M 28) x
          · rw [if_pos (by omega), if_pos h2]
          · rw [if_neg (by omega), if_neg h2, zCom_s (m := M 28) (x := x) hc ec, if_neg (by omega)]; omega
      · -- on
        obtain ⟨f1, f2, f3, _⟩ := hfl2
        have hlt := sRk_lt (m := M 28) (a := (sFl (M 28) c).toNat) (b := c) (by omega) (Or.inl f3)
        unfold gb_X2_runWater_12
        dsimp only
        simp only [Int.toNat_natCast, ord]
        repeat' (first | (with_reducible refine zO_lt ?_) | (with_reducible refine zO_gd ?hc ?_; case hc => (first | omega | (simp (disch := omega) only [zst_ne, zst_s, zup_eq, zup_ne, Int.toNat_natCast]; first | done | omega))) | (with_reducible refine zO_brp ?ha ?hb ?hc ?_; (case ha => (first | omega | (simp (disch := omega) only [zst_ne, zst_s, zup_eq, zup_ne, Int.toNat_natCast]; first | done | omega))); (case hb => (first | omega | (simp (disch := omega) only [zst_ne, zst_s, zup_eq, zup_ne, Int.toNat_natCast]; first | done | omega))); (case hc => (first | omega | (simp (disch := omega) only [zst_ne, zst_s, zup_eq, zup_ne, Int.toNat_natCast]; first | done | omega)))) | (with_reducible refine zO_brn ?ha ?hb ?hc ?_; (case ha => (first | omega | (simp (disch := omega) only [zst_ne, zst_s, zup_eq, zup_ne, Int.toNat_natCast]; first | done | omega))); (case hb => (first | omega | (simp (disch := omega) only [zst_ne, zst_s, zup_eq, zup_ne, Int.toNat_natCast]; first | done | omega))); (case hc => (first | omega | (simp (disch := omega) only [zst_ne, zst_s, zup_eq, zup_ne, Int.toNat_natCast]; first | done | omega)))) | simp (disch := omega) only [zst_ne, zst_s, zup_eq, zup_ne, Int.toNat_natCast] | (with_reducible refine zO_br ?ha ?hb (fun _ => ?_) (fun _ => ?_); (case ha => (first | omega | (simp (disch := omega) only [zst_ne, zst_s, zup_eq, zup_ne, Int.toNat_natCast]; first | done | omega))); (case hb => (first | omega | (simp (disch := omega) only [zst_ne, zst_s, zup_eq, zup_ne, Int.toNat_natCast]; first | done | omega)))) | (with_reducible refine zO_ifp ?hc ?_; case hc => (first | omega | (simp (disch := omega) only [zst_ne, zst_s, zup_eq, zup_ne, Int.toNat_natCast]; first | done | omega))) | (with_reducible refine zO_ifn ?hc ?_; case hc => (first | omega | (simp (disch := omega) only [zst_ne, zst_s, zup_eq, zup_ne, Int.toNat_natCast]; first | done | omega))))
        simp only [Int.toNat_natCast, hcap]
        refine zO_inl ⟨by omega, (hfr.st (by decide)).st (by decide), ?_⟩
        intro x hx
        dsimp only
        simp (disch := omega) only [zst_ne, h29]
        have e1 : zup (M' 30) c (sRiv (M 28) c) (sFl (M 28) c).toNat = M' 30 (sFl (M 28) c).toNat := zup_ne (fun e => by rw [e] at f3; omega)
        rw [zst_r, e1]
        by_cases h : x = (sFl (M 28) c).toNat
        · rw [if_pos ⟨rfl, h⟩, ← h, hI x hx, if_neg (by rw [h]; omega), if_neg (by rw [h]; omega), zCom_s (m := M 28) (x := x) hc ec, if_pos (by omega)]
          omega
        · rw [if_neg (fun h' => h h'.2), zst_r]
          by_cases h3 : x = c
          · subst h3
            rw [if_pos ⟨rfl, rfl⟩, if_pos (by omega)]
          · rw [if_neg (fun h' => h3 h'.2), hI x hx]
            have hne : sRk (M 28) x ≠ (j : Int) := fun e' => h3 (sRk_inj (m := M 28) hx hc (by omega))
            by_cases h2 : (j : Int) ≤ sRk (M 28) x
            · rw [if_pos (by omega), if_pos h2]
            · rw [if_neg (by omega), if_neg h2, zCom_s (m := M 28) (x := x) hc ec, if_neg (by omega)]; omega
    · rintro ⟨y, M'⟩ hc ⟨hfr, hI⟩
      simp only at hc hfr hI
      subst hc
      unfold gb_X2_runWater_12
      dsimp only
      repeat' (first | (with_reducible refine zO_lt ?_) | (with_reducible refine zO_gd ?hc ?_; case hc => (first | omega | (simp (disch := omega) only [zst_ne, zst_s, zup_eq, zup_ne, Int.toNat_natCast]; first | done | omega))) | (with_reducible refine zO_brp ?ha ?hb ?hc ?_; (case ha => (first | omega | (simp (disch := omega) only [zst_ne, zst_s, zup_eq, zup_ne, Int.toNat_natCast]; first | done | omega))); (case hb => (first | omega | (simp (disch := omega) only [zst_ne, zst_s, zup_eq, zup_ne, Int.toNat_natCast]; first | done | omega))); (case hc => (first | omega | (simp (disch := omega) only [zst_ne, zst_s, zup_eq, zup_ne, Int.toNat_natCast]; first | done | omega)))) | (with_reducible refine zO_brn ?ha ?hb ?hc ?_; (case ha => (first | omega | (simp (disch := omega) only [zst_ne, zst_s, zup_eq, zup_ne, Int.toNat_natCast]; first | done | omega))); (case hb => (first | omega | (simp (disch := omega) only [zst_ne, zst_s, zup_eq, zup_ne, Int.toNat_natCast]; first | done | omega))); (case hc => (first | omega | (simp (disch := omega) only [zst_ne, zst_s, zup_eq, zup_ne, Int.toNat_natCast]; first | done | omega)))) | simp (disch := omega) only [zst_ne, zst_s, zup_eq, zup_ne, Int.toNat_natCast] | (with_reducible refine zO_br ?ha ?hb (fun _ => ?_) (fun _ => ?_); (case ha => (first | omega | (simp (disch := omega) only [zst_ne, zst_s, zup_eq, zup_ne, Int.toNat_natCast]; first | done | omega))); (case hb => (first | omega | (simp (disch := omega) only [zst_ne, zst_s, zup_eq, zup_ne, Int.toNat_natCast]; first | done | omega)))) | (with_reducible refine zO_ifp ?hc ?_; case hc => (first | omega | (simp (disch := omega) only [zst_ne, zst_s, zup_eq, zup_ne, Int.toNat_natCast]; first | done | omega))) | (with_reducible refine zO_ifn ?hc ?_; case hc => (first | omega | (simp (disch := omega) only [zst_ne, zst_s, zup_eq, zup_ne, Int.toNat_natCast]; first | done | omega))))
      refine zO_inr ⟨hfr, fun c hc => ?_⟩
      have := sRk_r (m := M 28) hc
      rw [hI c hc, if_pos (by omega)]
    · intro x hx
      have := sRk_r (m := M 28) hx
      refine (zA x hx).trans ?_
      rw [if_neg (by omega)]
      have : zCom (M 28) 256 x = 0 := zsum_zero (fun b hb => if_neg (fun h => by have := sRk_r (m := M 28) hb; omega))
      rw [this]; rfl
  rintro A1 ⟨f1, h1⟩
  refine zO_b1 ?_
  unfold zw2
  refine zO_for (fun s => s.1) 256 (fun j s => zFr [30, 32] M s.2 ∧ (∀ c : Nat, c < 256 → s.2 30 c = sRiv (M 28) c) ∧ ∀ c : Nat, c < 256 → sRk (M 28) c < (j : Int) → s.2 32 c = (sEnd (M 28) c : Int)) ?_ ?_ (by omega) 0 (by omega) rfl ⟨f1, h1, fun c hc h => by have := sRk_r (m := M 28) hc; omega⟩
  · rintro j ⟨y, M'⟩ hj hc ⟨hfr, hI, hE⟩
    simp only at hc hfr hI hE
    subst hc
    obtain ⟨c, hc, ec, oc⟩ := zOrd_at ho hj
    have e29 : M' 29 = M 29 := hfr 29 (by decide)
    have e33 : M' 33 = M 33 := hfr 33 (by decide)
    have ord : M' 33 j = (c : Int) := by rw [e33]; exact oc
    have h29 : M' 29 c = sFl (M 28) c := by rw [e29]; exact hf c hc
    have hfl := sFl_r (m := M 28) hc
    rw [← h29] at hfl
    unfold gb_X2_runWater_78
    dsimp only
    simp only [Int.toNat_natCast, ord]
    repeat' (first | (with_reducible refine zO_lt ?_) | (with_reducible refine zO_gd ?hc ?_; case hc => (first | omega | (simp (disch := omega) only [zst_ne, zst_s, zup_eq, zup_ne, Int.toNat_natCast]; first | done | omega))) | (with_reducible refine zO_brp ?ha ?hb ?hc ?_; (case ha => (first | omega | (simp (disch := omega) only [zst_ne, zst_s, zup_eq, zup_ne, Int.toNat_natCast]; first | done | omega))); (case hb => (first | omega | (simp (disch := omega) only [zst_ne, zst_s, zup_eq, zup_ne, Int.toNat_natCast]; first | done | omega))); (case hc => (first | omega | (simp (disch := omega) only [zst_ne, zst_s, zup_eq, zup_ne, Int.toNat_natCast]; first | done | omega)))) | (with_reducible refine zO_brn ?ha ?hb ?hc ?_; (case ha => (first | omega | (simp (disch := omega) only [zst_ne, zst_s, zup_eq, zup_ne, Int.toNat_natCast]; first | done | omega))); (case hb => (first | omega | (simp (disch := omega) only [zst_ne, zst_s, zup_eq, zup_ne, Int.toNat_natCast]; first | done | omega))); (case hc => (first | omega | (simp (disch := omega) only [zst_ne, zst_s, zup_eq, zup_ne, Int.toNat_natCast]; first | done | omega)))) | simp (disch := omega) only [zst_ne, zst_s, zup_eq, zup_ne, Int.toNat_natCast] | (with_reducible refine zO_br ?ha ?hb (fun _ => ?_) (fun _ => ?_); (case ha => (first | omega | (simp (disch := omega) only [zst_ne, zst_s, zup_eq, zup_ne, Int.toNat_natCast]; first | done | omega))); (case hb => (first | omega | (simp (disch := omega) only [zst_ne, zst_s, zup_eq, zup_ne, Int.toNat_natCast]; first | done | omega)))) | (with_reducible refine zO_ifp ?hc ?_; case hc => (first | omega | (simp (disch := omega) only [zst_ne, zst_s, zup_eq, zup_ne, Int.toNat_natCast]; first | done | omega))) | (with_reducible refine zO_ifn ?hc ?_; case hc => (first | omega | (simp (disch := omega) only [zst_ne, zst_s, zup_eq, zup_ne, Int.toNat_natCast]; first | done | omega))))
    all_goals rw [h29] at hfl
    all_goals simp only [h29] at *
    all_goals refine zO_inl ⟨by omega, hfr.st (by decide), fun x hx => ?_, fun x hx hxj => ?_⟩
    all_goals dsimp only
    · rw [zst_ne (by decide)]; exact hI x hx
    · have hfl2 : 0 ≤ sFl (M 28) c ∧ sFl (M 28) c < 256 ∧ M 28 (sFl (M 28) c).toNat < M 28 c := by
        rcases hfl with h | ⟨h1, h2, h3, _⟩
        · omega
        · exact ⟨h1, h2, h3⟩
      have hlt := sRk_lt (m := M 28) (a := (sFl (M 28) c).toNat) (b := c) (by omega) (Or.inl hfl2.2.2)
      rw [zst_r]
      by_cases h : x = c
      · subst h
        rw [if_pos ⟨rfl, rfl⟩, hE _ (by omega) (by omega), sEnd_s hm hx, if_neg (by omega)]
      · rw [if_neg (fun h' => h h'.2)]
        have hne : sRk (M 28) x ≠ (j : Int) := fun e' => h (sRk_inj (m := M 28) hx hc (by omega))
        exact hE x hx (by omega)
    · rw [zst_ne (by decide)]; exact hI x hx
    · rw [zst_r]
      by_cases h : x = c
      · subst h
        rw [if_pos ⟨rfl, rfl⟩, sEnd_s hm hx, if_pos (by omega)]
      · rw [if_neg (fun h' => h h'.2)]
        have hne : sRk (M 28) x ≠ (j : Int) := fun e' => h (sRk_inj (m := M 28) hx hc (by omega))
        exact hE x hx (by omega)
  · rintro ⟨y, M'⟩ hc ⟨hfr, hI, hE⟩
    simp only at hc hfr hI hE
    subst hc
    unfold gb_X2_runWater_78
    dsimp only
    repeat' (first | (with_reducible refine zO_lt ?_) | (with_reducible refine zO_gd ?hc ?_; case hc => (first | omega | (simp (disch := omega) only [zst_ne, zst_s, zup_eq, zup_ne, Int.toNat_natCast]; first | done | omega))) | (with_reducible refine zO_brp ?ha ?hb ?hc ?_; (case ha => (first | omega | (simp (disch := omega) only [zst_ne, zst_s, zup_eq, zup_ne, Int.toNat_natCast]; first | done | omega))); (case hb => (first | omega | (simp (disch := omega) only [zst_ne, zst_s, zup_eq, zup_ne, Int.toNat_natCast]; first | done | omega))); (case hc => (first | omega | (simp (disch := omega) only [zst_ne, zst_s, zup_eq, zup_ne, Int.toNat_natCast]; first | done | omega)))) | (with_reducible refine zO_brn ?ha ?hb ?hc ?_; (case ha => (first | omega | (simp (disch := omega) only [zst_ne, zst_s, zup_eq, zup_ne, Int.toNat_natCast]; first | done | omega))); (case hb => (first | omega | (simp (disch := omega) only [zst_ne, zst_s, zup_eq, zup_ne, Int.toNat_natCast]; first | done | omega))); (case hc => (first | omega | (simp (disch := omega) only [zst_ne, zst_s, zup_eq, zup_ne, Int.toNat_natCast]; first | done | omega)))) | simp (disch := omega) only [zst_ne, zst_s, zup_eq, zup_ne, Int.toNat_natCast] | (with_reducible refine zO_br ?ha ?hb (fun _ => ?_) (fun _ => ?_); (case ha => (first | omega | (simp (disch := omega) only [zst_ne, zst_s, zup_eq, zup_ne, Int.toNat_natCast]; first | done | omega))); (case hb => (first | omega | (simp (disch := omega) only [zst_ne, zst_s, zup_eq, zup_ne, Int.toNat_natCast]; first | done | omega)))) | (with_reducible refine zO_ifp ?hc ?_; case hc => (first | omega | (simp (disch := omega) only [zst_ne, zst_s, zup_eq, zup_ne, Int.toNat_natCast]; first | done | omega))) | (with_reducible refine zO_ifn ?hc ?_; case hc => (first | omega | (simp (disch := omega) only [zst_ne, zst_s, zup_eq, zup_ne, Int.toNat_natCast]; first | done | omega))))
    refine zO_inr (zO_some ⟨hfr, fun c hc => ⟨hI c hc, hE c hc ?_⟩⟩)
    have := sRk_r (m := M 28) hc
    omega

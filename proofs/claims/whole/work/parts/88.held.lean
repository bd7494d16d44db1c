/-! held -/
def sHeld (E : zE) (M : zM) (a : Nat) (k : Int) (n : Nat) : Int := zsum n (fun f => if sRk (sKey (zlv E M a)) (M 9 f).toNat < k then 1 else 0)
theorem sHeld_q {E : zE} {M M' : zM} {a : Nat} {k : Int} {n : Nat} (q : ∀ q, q < 21 → q ≠ 1 → M' q = M q) : sHeld E M' a k n = sHeld E M a k n := by
  have hg : zgm E M' = zgm E M := by unfold zgm; rw [q 5 (by omega) (by omega), q 18 (by omega) (by omega)]
  have e : zlv E M' a = zlv E M a := by funext c; exact zlv_q hg
  unfold sHeld
  rw [e, q 9 (by omega) (by omega)]
theorem p_held {i L : Nat} {M : zM} {E : zE} {p1 p2 p3 : Int} (hI : zInv i L M E) (h1 : zr p1) (h2 : zr p2) (h3 : zr p3) : zP2 i L E (g_X10_held (zKn i) p1 p2 p3) (g_X11_held (zKn i) p1 p2 p3) M := by
  obtain ⟨n, n1, n2, n3⟩ := hI.1.finds
  by_cases ha : 0 ≤ p1 ∧ p1 < 100
  · by_cases hk : 1 ≤ p2 ∧ p2 ≤ 256
    · by_cases hp : p3 = 0 ∨ p3 = 1
      · obtain ⟨a, rfl⟩ : ∃ a : Nat, p1 = a := ⟨p1.toNat, by omega⟩
        refine zP2_ofq (if p3 = 1 then (n : Int) else sHeld E M a p2 n) hI ?_ (fun M' h q => ?_)
        · obtain ⟨tb, _⟩ := t_age (k := zKn i) (M := M) ha
          obtain ⟨tp, _⟩ := t_part (k := zKn i) (M := M) hp
          unfold g_X10_held
          refine zO_b1e tb (zO_brn (by omega) (by omega) (by omega) (zO_brn (by omega) (by omega) (by omega) (zO_brn (by omega) (by omega) (by omega) (zO_b1e tp (zO_brp (by omega) (by omega) (by omega) ?_)))))
          by_cases c1 : p3 = 1
          · rw [if_pos c1]
            exact zO_brn (by omega) (by omega) (by omega) (zO_some ⟨n1, zQw.rf, hI.2.1⟩)
          · rw [if_neg c1]
            refine zO_brp (by omega) (by omega) c1 ?_
            refine zO_b1q (g10_settle' hI) ?_
            rintro A ⟨hq, hse, hI'⟩
            refine zO_bdq (g10_span hI'.1 hse (a := a) (by omega)) ?_
            rintro B v ⟨b1, b2, b3, _, b5, b6, b7⟩
            dsimp only at b1 b2 b3 b5 b6 b7
            have qB : zQw A B := ⟨b2, b7 46 (by decide), b7 47 (by decide)⟩
            have hp := hI.1.1.2.2.2.2.1 a (by omega)
            have hg := zgm_qc (E := E) hq.1
            have hof : ∀ M' : zM, M' 41 = B 41 → ∀ c : Nat, c < 256 → g_X4_of (zKn i) (eP E a) c M' = some (zlv E M a c) := by
              intro M' e41 c hc
              have := b6 c hc
              rw [zlv_q hg] at this
              unfold g_X4_of
              rw [zgd_p (by omega), e41, ← this]
              congr 2
              omega
            rw [b1]
            refine zO_bdq (g4_ranked (k := p2 - 1) (l := zlv E M a) (fun c _ => sLiv_r hI.1.1) hof (by omega)) ?_
            rintro C u ⟨_, c2, c3, c4, fC⟩
            dsimp only at c2 c3 c4 fC
            have sC : zSe C E := b3.fr (by rw [fC 1 (by decide)]) (fun x hx => fC x (by simp; omega))
            have qC : zQw B C := zQw.of fC (by decide)
            have hIC := ((hI'.1.qc qB.1).qc qC.1)
            have e4 : C 4 = M 4 := by rw [fC 4 (by decide), b2.1 4 (by omega) (by omega), hq.1.1 4 (by omega) (by omega)]
            have e9 : C 9 = M 9 := by rw [fC 9 (by decide), b2.1 9 (by omega) (by omega), hq.1.1 9 (by omega) (by omega)]
            have hl : zw2 (gb_X10_held_72 (zKn i) (eP E a) u C) zfu 0 0 = some (0 + sHeld E M a p2 n) := by
              refine zO_sum _ ?_ ?_ (by omega) 0
              · intro b j hj
                obtain ⟨⟨_, f2, f3⟩, _⟩ := hI.1.find (f := j) (by omega)
                have o1 := hof C (fC 41 (by decide)) (M 9 j).toNat (by omega)
                have o2 := hof C (fC 41 (by decide)) u.toNat (by omega)
                rw [show (((M 9 j).toNat : Nat) : Int) = M 9 j by omega] at o1
                rw [show ((u.toNat : Nat) : Int) = u by omega] at o2
                have hr1 := sLiv_r hI.1.1 (m := zgm E M) (lv := eV E a) (age := a) (c := (M 9 j).toNat)
                have hr2 := sLiv_r hI.1.1 (m := zgm E M) (lv := eV E a) (age := a) (c := u.toNat)
                have hx : g_X4_isNotBehind (zKn i) (eP E a) (M 9 j) u C = some (if sRk (sKey (zlv E M a)) (M 9 j).toNat < p2 then 1 else 0) := by
                  apply zO_get
                  unfold g_X4_isNotBehind
                  have lt1 := fun h => sRk_lt (m := sKey (zlv E M a)) (a := (M 9 j).toNat) (b := u.toNat) (by omega) h
                  have lt2 := fun h => sRk_lt (m := sKey (zlv E M a)) (a := u.toNat) (b := (M 9 j).toNat) (by omega) h
                  unfold sKey at lt1 lt2
                  have r1 : 0 ≤ zlv E M a (M 9 j).toNat ∧ zlv E M a (M 9 j).toNat ≤ 99 := hr1
                  have r2 : 0 ≤ zlv E M a u.toNat ∧ zlv E M a u.toNat ≤ 99 := hr2
                  refine zO_brp (by omega) (by omega) (by omega) (zO_b1e o1 (zO_b1e o2 ?_))
                  have c4' : sRk (fun c => -(zlv E M a c)) u.toNat = p2 - 1 := c4
                  show zO _ (fun x => x = if sRk (fun c => -(zlv E M a c)) (M 9 j).toNat < p2 then 1 else 0)
                  by_cases h5 : zlv E M a u.toNat < zlv E M a (M 9 j).toNat
                  · have := lt1 (Or.inl (by omega))
                    refine zO_brp (by omega) (by omega) h5 (zO_some ?_)
                    rw [if_pos (by omega)]
                  · refine zO_brn (by omega) (by omega) h5 ?_
                    by_cases h6 : zlv E M a (M 9 j).toNat = zlv E M a u.toNat
                    · refine zO_brn (by omega) (by omega) (by omega) ?_
                      by_cases h7 : u < M 9 j
                      · have := lt2 (Or.inr ⟨by omega, by omega⟩)
                        refine zO_brp (by omega) (by omega) h7 (zO_some ?_)
                        rw [if_neg (by omega)]
                      · refine zO_brn (by omega) (by omega) h7 (zO_some ?_)
                        by_cases h8 : M 9 j = u
                        · rw [h8, c4', if_pos (by omega)]
                        · have := lt1 (Or.inr ⟨by omega, by omega⟩)
                          rw [if_pos (by omega)]
                    · have := lt2 (Or.inl (by omega))
                      refine zO_brp (by omega) (by omega) h6 (zO_some ?_)
                      rw [if_neg (by omega)]
                apply zO_get
                rw [gb_X10_held_72]
                simp only [Int.toNat_natCast, e4, e9, n1]
                refine zO_brn (by omega) (by omega) (by omega) (zO_gd (by omega) (zO_b1e hx ?_))
                by_cases h9 : sRk (sKey (zlv E M a)) (M 9 j).toNat < p2
                · rw [if_pos h9]
                  refine zO_brn (by omega) (by omega) (by omega) (zO_lt (zO_lt (zO_some ?_)))
                  rw [show (j : Int) + 1 = ((j + 1 : Nat) : Int) by omega]
                · rw [if_neg h9]
                  refine zO_brp (by omega) (by omega) (by omega) (zO_lt (zO_some ?_))
                  rw [show (j : Int) + 1 = ((j + 1 : Nat) : Int) by omega, Int.add_zero]
              · intro b
                apply zO_get
                rw [gb_X10_held_72]
                simp only [e4, n1]
                exact zO_brp (by omega) (by omega) (by omega) (zO_some rfl)
            refine zO_b1e hl (zO_some ⟨by dsimp only; omega, (hq.tr qB).tr qC, sC.ca⟩)
        · obtain ⟨_, tb⟩ := t_age (k := zKn i) (M := M') ha
          obtain ⟨_, tp⟩ := t_part (k := zKn i) (M := M') hp
          have tm := t_in (k := zKn i) (M := M') (a := p2) (b := 1) (c := 256) h2 ⟨by omega, by omega⟩ ⟨by omega, by omega⟩ hk
          have n2' : M' 79 0 = (n : Int) := by rw [q.1 79 (by omega) (by omega)]; exact n2
          unfold g_X11_held
          refine zO_b1e tb (zO_brn (by omega) (by omega) (by omega) (zO_b1e tm (zO_brn (by omega) (by omega) (by omega) (zO_b1e tp (zO_brp (by omega) (by omega) (by omega) ?_)))))
          refine zO_b1q (g11_lives h.1 (a := a) (by omega)) ?_
          rintro A ⟨hq, hv, hA⟩
          have a79 : A 79 0 = (n : Int) := by rw [hq.1 79 (by omega) (by omega)]; exact n2'
          have hl126 : ∀ x, x < 256 → 0 ≤ A 126 x ∧ A 126 x ≤ 99 := fun x hx => by rw [hA x hx]; exact sLiv_r h.1.1
          have hrk : ∀ c, c < 256 → sRk (sKey (A 126)) c = sRk (sKey (zlv E M a)) c := fun c hc => sRk_congr (fun b hb => by unfold sKey; rw [hA b hb, zlv_q (zgm_qc q)]) hc
          have hl : zw2 (gb_X11_held_40 (zKn i) p2 p3 A) zfu 0 0 = some (0 + sHeld E M a p2 n) := by
            refine zO_sum _ ?_ ?_ (by omega) 0
            · intro b j hj
              obtain ⟨⟨f1, f2, f3⟩, _⟩ := hI.1.find (f := j) (by omega)
              have e87 : A 87 j = M 9 j := by rw [hq.1 87 (by omega) (by omega), q.1 87 (by omega) (by omega), f1]
              have hg := g11_rank (k := zKn i) (c := (M 9 j).toNat) (M := A) (by omega) hl126
              rw [hrk _ (by omega), show (((M 9 j).toNat : Nat) : Int) = M 9 j by omega] at hg
              have hr := sRk_r (m := sKey (zlv E M a)) (c := (M 9 j).toNat) (by omega)
              apply zO_get
              rw [gb_X11_held_40]
              simp only [Int.toNat_natCast, Int.toNat_zero, a79, e87]
              refine zO_gd (by omega) (zO_brn (by omega) (by omega) (by omega) (zO_gd (by omega) (zO_b1e hg ?_)))
              by_cases h9 : sRk (sKey (zlv E M a)) (M 9 j).toNat < p2
              · refine zO_brn (by omega) (by omega) (by omega) (zO_lt (zO_lt (zO_some ?_)))
                rw [if_pos h9, show (j : Int) + 1 = ((j + 1 : Nat) : Int) by omega]
              · refine zO_brp (by omega) (by omega) (by omega) (zO_lt (zO_lt (zO_some ?_)))
                rw [if_neg h9, show (j : Int) + 1 = ((j + 1 : Nat) : Int) by omega]
            · intro b
              apply zO_get
              rw [gb_X11_held_40]
              simp only [Int.toNat_zero, a79]
              exact zO_gd (by omega) (zO_brp (by omega) (by omega) (by omega) (zO_some rfl))
          refine zO_b1e hl ?_
          by_cases c1 : p3 = 1
          · rw [if_pos c1]
            refine zO_brp (by omega) (by omega) (by omega) (zO_gd (by omega) (zO_some ⟨?_, hq⟩))
            exact a79
          · rw [if_neg c1]
            exact zO_brn (by omega) (by omega) (by omega) (zO_some ⟨by dsimp only; omega, hq⟩)
      · refine zP2_of (fun _ => -1) hI ?_ (fun M' h => ?_) (fun _ _ => rfl)
        · obtain ⟨tb, _⟩ := t_age (k := zKn i) (M := M) ha
          obtain ⟨tp, _⟩ := t_part_n (k := zKn i) (M := M) h3 hp
          unfold g_X10_held
          exact zO_b1e tb (zO_brn (by omega) (by omega) (by omega) (zO_brn (by omega) (by omega) (by omega) (zO_brn (by omega) (by omega) (by omega) (zO_b1e tp (zO_brn (by omega) (by omega) (by omega) (zO_some ⟨rfl, zQw.rf, hI.2.1⟩))))))
        · obtain ⟨_, tb⟩ := t_age (k := zKn i) (M := M') ha
          obtain ⟨_, tp⟩ := t_part_n (k := zKn i) (M := M') h3 hp
          have tm := t_in (k := zKn i) (M := M') (a := p2) (b := 1) (c := 256) h2 ⟨by omega, by omega⟩ ⟨by omega, by omega⟩ hk
          unfold g_X11_held
          exact zO_b1e tb (zO_brn (by omega) (by omega) (by omega) (zO_b1e tm (zO_brn (by omega) (by omega) (by omega) (zO_b1e tp (zO_brn (by omega) (by omega) (by omega) (zO_some ⟨rfl, zQm.rf⟩))))))
    · refine zP2_of (fun _ => -1) hI ?_ (fun M' h => ?_) (fun _ _ => rfl)
      · obtain ⟨tb, _⟩ := t_age (k := zKn i) (M := M) ha
        unfold g_X10_held
        refine zO_b1e tb (zO_brn (by omega) (by omega) (by omega) ?_)
        by_cases h0 : p2 < 1
        · exact zO_brp (by omega) (by omega) h0 (zO_some ⟨rfl, zQw.rf, hI.2.1⟩)
        · exact zO_brn (by omega) (by omega) h0 (zO_brp (by omega) (by omega) (by omega) (zO_some ⟨rfl, zQw.rf, hI.2.1⟩))
      · obtain ⟨_, tb⟩ := t_age (k := zKn i) (M := M') ha
        have tm := t_in_n (k := zKn i) (M := M') (a := p2) (b := 1) (c := 256) h2 ⟨by omega, by omega⟩ ⟨by omega, by omega⟩ hk
        unfold g_X11_held
        exact zO_b1e tb (zO_brn (by omega) (by omega) (by omega) (zO_b1e tm (zO_brp (by omega) (by omega) (by omega) (zO_some ⟨rfl, zQm.rf⟩))))
  · refine zP2_of (fun _ => -1) hI ?_ (fun M' h => ?_) (fun _ _ => rfl)
    · obtain ⟨tb, _⟩ := t_age_n (k := zKn i) (M := M) h1 ha
      unfold g_X10_held
      exact zO_b1e tb (zO_brp (by omega) (by omega) (by omega) (zO_some ⟨rfl, zQw.rf, hI.2.1⟩))
    · obtain ⟨_, tb⟩ := t_age_n (k := zKn i) (M := M') h1 ha
      unfold g_X11_held
      exact zO_b1e tb (zO_brp (by omega) (by omega) (by omega) (zO_some ⟨rfl, zQm.rf⟩))

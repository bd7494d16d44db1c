/-! the reference's flood -/
def zIs (r s0 : Nat → Int) (c : Nat) : Bool := r c != 0 && s0 c == 0
def zGm (s0 s : Nat → Int) (c : Nat) : Bool := s0 c == 0 && s c != 0
theorem zIs_t {r s0 : Nat → Int} {c : Nat} : zIs r s0 c = true ↔ r c ≠ 0 ∧ s0 c = 0 := by unfold zIs; simp
theorem zIs_f {r s0 : Nat → Int} {c : Nat} : zIs r s0 c = false ↔ r c = 0 ∨ s0 c ≠ 0 := by
  have := zIs_t (r := r) (s0 := s0) (c := c)
  cases hx : zIs r s0 c
  · simp
    by_cases h : r c = 0
    · exact Or.inl h
    · refine Or.inr (fun h' => ?_)
      rw [this.2 ⟨h, h'⟩] at hx
      cases hx
  · have := this.1 hx
    simp
    omega
theorem zGm_t {s0 s : Nat → Int} {c : Nat} : zGm s0 s c = true ↔ s0 c = 0 ∧ s c ≠ 0 := by unfold zGm; simp
theorem zGm_f {s0 s : Nat → Int} {c : Nat} : zGm s0 s c = false ↔ s0 c ≠ 0 ∨ s c = 0 := by
  have := zGm_t (s0 := s0) (s := s) (c := c)
  cases hx : zGm s0 s c
  · simp
    by_cases h : s0 c = 0
    · refine Or.inr ?_
      by_cases h' : s c = 0
      · exact h'
      · rw [this.2 ⟨h, h'⟩] at hx
        cases hx
    · exact Or.inl h
  · have := this.1 hx
    simp
    omega
theorem g11s_in {k : zK} {a i n l : Nat} {r s0 : Nat → Int} {M : zM} (hl : l ≠ 119 ∧ l ≠ 121) (hr : M l = r) (hr1 : z01 r) (hi : i < n) (h1 : z01 (M 119)) (h0 : ∀ c, s0 c ≠ 0 → M 119 c ≠ 0) (hL : zL (zIs r s0) a (zGm s0 (M 119)) (M 121) n i) : zO (zw3 (gb_X11_spread_28 k l i) zfu n 0 M) (fun t => ∃ n' : Nat, t.1 = (n' : Int) ∧ zFr [119, 121] M t.2 ∧ z01 (t.2 119) ∧ (∀ c, s0 c ≠ 0 → t.2 119 c ≠ 0) ∧ zL (zIs r s0) a (zGm s0 (t.2 119)) (t.2 121) n' (i + 1)) := by
  unfold zw3
  refine zO_for (fun s => s.2.1) 4 (fun j t => ∃ n' : Nat, t.1 = (n' : Int) ∧ i < n' ∧ zFr [119, 121] M t.2.2 ∧ z01 (t.2.2 119) ∧ (∀ c, s0 c ≠ 0 → t.2.2 119 c ≠ 0) ∧ zL (zIs r s0) a (zGm s0 (t.2.2 119)) (t.2.2 121) n' i ∧ t.2.2 121 i = M 121 i ∧ ∀ d, d < j → zbs (M 121 i).toNat (zbw d) = -1 ∨ zIs r s0 (zbs (M 121 i).toNat (zbw d)).toNat = false ∨ zGm s0 (t.2.2 119) (zbs (M 121 i).toNat (zbw d)).toNat = true) ?_ ?_ (by omega) 0 (by omega) rfl (by dsimp only; exact ⟨n, rfl, hi, zFr_refl, h1, h0, hL, rfl, fun d hd => by omega⟩)
  · rintro j ⟨y2, y4, M'⟩ hj hc' ⟨n', hn, hi', hfr, hz, h0', hL', hq', hd⟩
    simp only at hc' hn hi' hfr hz h0' hL' hq' hd
    subst hc' hn
    have hn256 := zL_n hL'
    have hq := hL'.2.2.1 i hi'
    have er : M' l = r := (hfr l (by simp; omega)).trans hr
    have hb := zbs_or (c := (M' 121 i).toNat) (d := zbw j) (by omega) (zbw_4 hj)
    have hbs := f11_besN (k := k) (c := M' 121 i) (d := j) (M := M') ⟨hq.1, hq.2.1⟩ hj
    rw [← hq'] at hd
    have vis : (zbs (M' 121 i).toNat (zbw j) = -1 ∨ zIs r s0 (zbs (M' 121 i).toNat (zbw j)).toNat = false ∨ zGm s0 (M' 119) (zbs (M' 121 i).toNat (zbw j)).toNat = true) → ∀ d, d < j + 1 → zbs (M 121 i).toNat (zbw d) = -1 ∨ zIs r s0 (zbs (M 121 i).toNat (zbw d)).toNat = false ∨ zGm s0 (M' 119) (zbs (M 121 i).toNat (zbw d)).toNat = true := by
      rw [← hq']
      intro h2 d hd'
      rcases Nat.lt_or_ge d j with h | h
      · exact hd d h
      · have : d = j := by omega
        subst this
        exact h2
    dsimp only
    rw [gb_X11_spread_28]
    rcases hb with hb | ⟨b0, b1, b2⟩
    · rw [hb] at hbs
      repeat' (first | (with_reducible refine zO_b1e hbs ?_) | (with_reducible refine zO_lt ?_) | (with_reducible refine zO_gd ?hc ?_; case hc => (first | omega | (simp (disch := omega) only [zst_ne, zst_s, zup_eq, zup_ne, Int.toNat_natCast, not_true_eq_false, not_false_eq_true, true_or, or_true, true_and, and_true]; first | done | omega))) | (with_reducible refine zO_brp ?ha ?hb ?hc ?_; (case ha => (first | omega | (simp (disch := omega) only [zst_ne, zst_s, zup_eq, zup_ne, Int.toNat_natCast, not_true_eq_false, not_false_eq_true, true_or, or_true, true_and, and_true]; first | done | omega))); (case hb => (first | omega | (simp (disch := omega) only [zst_ne, zst_s, zup_eq, zup_ne, Int.toNat_natCast, not_true_eq_false, not_false_eq_true, true_or, or_true, true_and, and_true]; first | done | omega))); (case hc => (first | omega | (simp (disch := omega) only [zst_ne, zst_s, zup_eq, zup_ne, Int.toNat_natCast, not_true_eq_false, not_false_eq_true, true_or, or_true, true_and, and_true]; first | done | omega)))) | (with_reducible refine zO_brn ?ha ?hb ?hc ?_; (case ha => (first | omega | (simp (disch := omega) only [zst_ne, zst_s, zup_eq, zup_ne, Int.toNat_natCast, not_true_eq_false, not_false_eq_true, true_or, or_true, true_and, and_true]; first | done | omega))); (case hb => (first | omega | (simp (disch := omega) only [zst_ne, zst_s, zup_eq, zup_ne, Int.toNat_natCast, not_true_eq_false, not_false_eq_true, true_or, or_true, true_and, and_true]; first | done | omega))); (case hc => (first | omega | (simp (disch := omega) only [zst_ne, zst_s, zup_eq, zup_ne, Int.toNat_natCast, not_true_eq_false, not_false_eq_true, true_or, or_true, true_and, and_true]; first | done | omega)))) | simp (disch := omega) only [zst_ne, zst_s, zup_eq, zup_ne, Int.toNat_natCast, not_true_eq_false, not_false_eq_true, true_or, or_true, true_and, and_true] | (with_reducible refine zO_br ?ha ?hb (fun _ => ?_) (fun _ => ?_); (case ha => (first | omega | (simp (disch := omega) only [zst_ne, zst_s, zup_eq, zup_ne, Int.toNat_natCast, not_true_eq_false, not_false_eq_true, true_or, or_true, true_and, and_true]; first | done | omega))); (case hb => (first | omega | (simp (disch := omega) only [zst_ne, zst_s, zup_eq, zup_ne, Int.toNat_natCast, not_true_eq_false, not_false_eq_true, true_or, or_true, true_and, and_true]; first | done | omega)))) | (with_reducible refine zO_ifp ?hc ?_; case hc => (first | omega | (simp (disch := omega) only [zst_ne, zst_s, zup_eq, zup_ne, Int.toNat_natCast, not_true_eq_false, not_false_eq_true, true_or, or_true, true_and, and_true]; first | done | omega))) | (with_reducible refine zO_ifn ?hc ?_; case hc => (first | omega | (simp (disch := omega) only [zst_ne, zst_s, zup_eq, zup_ne, Int.toNat_natCast, not_true_eq_false, not_false_eq_true, true_or, or_true, true_and, and_true]; first | done | omega))) | (with_reducible refine zO_somek ?_) | (with_reducible refine zO_inlk ?_) | (with_reducible refine zO_inrk ?_) | (with_reducible refine zO_sp0 ?_) | (with_reducible refine zO_sp1 ?_) | (with_reducible refine zO_sp2 ?_) | (with_reducible refine zO_sp3 ?_) | (with_reducible refine zO_sp4 ?_) | (with_reducible refine zO_b2 ?_) | (with_reducible refine zO_b3 ?_) | (with_reducible refine zO_b4 ?_) | (with_reducible refine zO_bd ?_) | (with_reducible refine zO_b0 ?_) | (with_reducible refine zO_b1 ?_))
      exact zO_inl ⟨by dsimp only; omega, n', rfl, hi', hfr, hz, h0', hL', hq', vis (Or.inl hb)⟩
    · have hz1 := hz (zbs (M' 121 i).toNat (zbw j)).toNat (by omega)
      have hr2 := hr1 (zbs (M' 121 i).toNat (zbw j)).toNat (by omega)
      by_cases hs : M' 119 (zbs (M' 121 i).toNat (zbw j)).toNat = 0
      · by_cases hop : r (zbs (M' 121 i).toNat (zbw j)).toNat = 0
        · rw [← er] at hop hr2
          repeat' (first | (with_reducible refine zO_b1e hbs ?_) | (with_reducible refine zO_lt ?_) | (with_reducible refine zO_gd ?hc ?_; case hc => (first | omega | (simp (disch := omega) only [zst_ne, zst_s, zup_eq, zup_ne, Int.toNat_natCast, not_true_eq_false, not_false_eq_true, true_or, or_true, true_and, and_true]; first | done | omega))) | (with_reducible refine zO_brp ?ha ?hb ?hc ?_; (case ha => (first | omega | (simp (disch := omega) only [zst_ne, zst_s, zup_eq, zup_ne, Int.toNat_natCast, not_true_eq_false, not_false_eq_true, true_or, or_true, true_and, and_true]; first | done | omega))); (case hb => (first | omega | (simp (disch := omega) only [zst_ne, zst_s, zup_eq, zup_ne, Int.toNat_natCast, not_true_eq_false, not_false_eq_true, true_or, or_true, true_and, and_true]; first | done | omega))); (case hc => (first | omega | (simp (disch := omega) only [zst_ne, zst_s, zup_eq, zup_ne, Int.toNat_natCast, not_true_eq_false, not_false_eq_true, true_or, or_true, true_and, and_true]; first | done | omega)))) | (with_reducible refine zO_brn ?ha ?hb ?hc ?_; (case ha => (first | omega | (simp (disch := omega) only [zst_ne, zst_s, zup_eq, zup_ne, Int.toNat_natCast, not_true_eq_false, not_false_eq_true, true_or, or_true, true_and, and_true]; first | done | omega))); (case hb => (first | omega | (simp (disch := omega) only [zst_ne, zst_s, zup_eq, zup_ne, Int.toNat_natCast, not_true_eq_false, not_false_eq_true, true_or, or_true, true_and, and_true]; first | done | omega))); (case hc => (first | omega | (simp (disch := omega) only [zst_ne, zst_s, zup_eq, zup_ne, Int.toNat_natCast, not_true_eq_false, not_false_eq_true, true_or, or_true, true_and, and_true]; first | done | omega)))) | simp (disch := omega) only [zst_ne, zst_s, zup_eq, zup_ne, Int.toNat_natCast, not_true_eq_false, not_false_eq_true, true_or, or_true, true_and, and_true] | (with_reducible refine zO_br ?ha ?hb (fun _ => ?_) (fun _ => ?_); (case ha => (first | omega | (simp (disch := omega) only [zst_ne, zst_s, zup_eq, zup_ne, Int.toNat_natCast, not_true_eq_false, not_false_eq_true, true_or, or_true, true_and, and_true]; first | done | omega))); (case hb => (first | omega | (simp (disch := omega) only [zst_ne, zst_s, zup_eq, zup_ne, Int.toNat_natCast, not_true_eq_false, not_false_eq_true, true_or, or_true, true_and, and_true]; first | done | omega)))) | (with_reducible refine zO_ifp ?hc ?_; case hc => (first | omega | (simp (disch := omega) only [zst_ne, zst_s, zup_eq, zup_ne, Int.toNat_natCast, not_true_eq_false, not_false_eq_true, true_or, or_true, true_and, and_true]; first | done | omega))) | (with_reducible refine zO_ifn ?hc ?_; case hc => (first | omega | (simp (disch := omega) only [zst_ne, zst_s, zup_eq, zup_ne, Int.toNat_natCast, not_true_eq_false, not_false_eq_true, true_or, or_true, true_and, and_true]; first | done | omega))) | (with_reducible refine zO_somek ?_) | (with_reducible refine zO_inlk ?_) | (with_reducible refine zO_inrk ?_) | (with_reducible refine zO_sp0 ?_) | (with_reducible refine zO_sp1 ?_) | (with_reducible refine zO_sp2 ?_) | (with_reducible refine zO_sp3 ?_) | (with_reducible refine zO_sp4 ?_) | (with_reducible refine zO_b2 ?_) | (with_reducible refine zO_b3 ?_) | (with_reducible refine zO_b4 ?_) | (with_reducible refine zO_bd ?_) | (with_reducible refine zO_b0 ?_) | (with_reducible refine zO_b1 ?_))
          rw [er] at hop
          exact zO_inl ⟨by dsimp only; omega, n', rfl, hi', hfr, hz, h0', hL', hq', vis (Or.inr (Or.inl (zIs_f.2 (Or.inl hop))))⟩
        · have hs0 : s0 (zbs (M' 121 i).toNat (zbw j)).toNat = 0 := by
            by_cases h : s0 (zbs (M' 121 i).toNat (zbw j)).toNat = 0
            · exact h
            · exact absurd hs (h0' _ h)
          obtain ⟨hA, hA1⟩ := zL_add (v' := zGm s0 (zup (M' 119) (zbs (M' 121 i).toNat (zbw j)).toNat 1)) hL' hi' (zbw_4 hj) (by omega) (zIs_t.2 ⟨hop, hs0⟩) (zGm_f.2 (Or.inr hs)) (zGm_t.2 ⟨hs0, by rw [zup_eq]; omega⟩) (fun x hx => by unfold zGm; rw [zup_ne hx])
          rw [← er] at hop hr2
          repeat' (first | (with_reducible refine zO_b1e hbs ?_) | (with_reducible refine zO_lt ?_) | (with_reducible refine zO_gd ?hc ?_; case hc => (first | omega | (simp (disch := omega) only [zst_ne, zst_s, zup_eq, zup_ne, Int.toNat_natCast, not_true_eq_false, not_false_eq_true, true_or, or_true, true_and, and_true]; first | done | omega))) | (with_reducible refine zO_brp ?ha ?hb ?hc ?_; (case ha => (first | omega | (simp (disch := omega) only [zst_ne, zst_s, zup_eq, zup_ne, Int.toNat_natCast, not_true_eq_false, not_false_eq_true, true_or, or_true, true_and, and_true]; first | done | omega))); (case hb => (first | omega | (simp (disch := omega) only [zst_ne, zst_s, zup_eq, zup_ne, Int.toNat_natCast, not_true_eq_false, not_false_eq_true, true_or, or_true, true_and, and_true]; first | done | omega))); (case hc => (first | omega | (simp (disch := omega) only [zst_ne, zst_s, zup_eq, zup_ne, Int.toNat_natCast, not_true_eq_false, not_false_eq_true, true_or, or_true, true_and, and_true]; first | done | omega)))) | (with_reducible refine zO_brn ?ha ?hb ?hc ?_; (case ha => (first | omega | (simp (disch := omega) only [zst_ne, zst_s, zup_eq, zup_ne, Int.toNat_natCast, not_true_eq_false, not_false_eq_true, true_or, or_true, true_and, and_true]; first | done | omega))); (case hb => (first | omega | (simp (disch := omega) only [zst_ne, zst_s, zup_eq, zup_ne, Int.toNat_natCast, not_true_eq_false, not_false_eq_true, true_or, or_true, true_and, and_true]; first | done | omega))); (case hc => (first | omega | (simp (disch := omega) only [zst_ne, zst_s, zup_eq, zup_ne, Int.toNat_natCast, not_true_eq_false, not_false_eq_true, true_or, or_true, true_and, and_true]; first | done | omega)))) | simp (disch := omega) only [zst_ne, zst_s, zup_eq, zup_ne, Int.toNat_natCast, not_true_eq_false, not_false_eq_true, true_or, or_true, true_and, and_true] | (with_reducible refine zO_br ?ha ?hb (fun _ => ?_) (fun _ => ?_); (case ha => (first | omega | (simp (disch := omega) only [zst_ne, zst_s, zup_eq, zup_ne, Int.toNat_natCast, not_true_eq_false, not_false_eq_true, true_or, or_true, true_and, and_true]; first | done | omega))); (case hb => (first | omega | (simp (disch := omega) only [zst_ne, zst_s, zup_eq, zup_ne, Int.toNat_natCast, not_true_eq_false, not_false_eq_true, true_or, or_true, true_and, and_true]; first | done | omega)))) | (with_reducible refine zO_ifp ?hc ?_; case hc => (first | omega | (simp (disch := omega) only [zst_ne, zst_s, zup_eq, zup_ne, Int.toNat_natCast, not_true_eq_false, not_false_eq_true, true_or, or_true, true_and, and_true]; first | done | omega))) | (with_reducible refine zO_ifn ?hc ?_; case hc => (first | omega | (simp (disch := omega) only [zst_ne, zst_s, zup_eq, zup_ne, Int.toNat_natCast, not_true_eq_false, not_false_eq_true, true_or, or_true, true_and, and_true]; first | done | omega))) | (with_reducible refine zO_somek ?_) | (with_reducible refine zO_inlk ?_) | (with_reducible refine zO_inrk ?_) | (with_reducible refine zO_sp0 ?_) | (with_reducible refine zO_sp1 ?_) | (with_reducible refine zO_sp2 ?_) | (with_reducible refine zO_sp3 ?_) | (with_reducible refine zO_sp4 ?_) | (with_reducible refine zO_b2 ?_) | (with_reducible refine zO_b3 ?_) | (with_reducible refine zO_b4 ?_) | (with_reducible refine zO_bd ?_) | (with_reducible refine zO_b0 ?_) | (with_reducible refine zO_b1 ?_))
          refine zO_inl ⟨by dsimp only; omega, n' + 1, by dsimp only; omega, by omega, (hfr.st (by decide)).st (by decide), ?_, ?_, ?_, ?_, ?_⟩
          · dsimp only
            simp (disch := omega) only [zst_ne, zst_s]
            intro x hx
            unfold zup
            split
            · exact Or.inr rfl
            · exact hz x hx
          · dsimp only
            simp (disch := omega) only [zst_ne, zst_s]
            intro x hx
            unfold zup
            split
            · omega
            · exact h0' x hx
          · dsimp only
            simp (disch := omega) only [zst_ne, zst_s, Int.toNat_natCast]
            exact hA
          · dsimp only
            simp (disch := omega) only [zst_ne, zst_s, zup_eq, zup_ne, Int.toNat_natCast, not_true_eq_false, not_false_eq_true, true_or, or_true, true_and, and_true]
            exact hq'
          · dsimp only
            rw [← hq']
            simp (disch := omega) only [zst_ne, zst_s, zup_eq, zup_ne, Int.toNat_natCast, not_true_eq_false, not_false_eq_true, true_or, or_true, true_and, and_true]
            intro d hd'
            rcases Nat.lt_or_ge d j with h | h
            · rcases hd d h with h3 | h3 | h3
              · exact Or.inl h3
              · exact Or.inr (Or.inl h3)
              · refine Or.inr (Or.inr (zGm_t.2 ⟨(zGm_t.1 h3).1, ?_⟩))
                unfold zup
                split
                · omega
                · exact (zGm_t.1 h3).2
            · have : d = j := by omega
              subst this
              exact Or.inr (Or.inr (zGm_t.2 ⟨hs0, by rw [zup_eq]; omega⟩))
      · repeat' (first | (with_reducible refine zO_b1e hbs ?_) | (with_reducible refine zO_lt ?_) | (with_reducible refine zO_gd ?hc ?_; case hc => (first | omega | (simp (disch := omega) only [zst_ne, zst_s, zup_eq, zup_ne, Int.toNat_natCast, not_true_eq_false, not_false_eq_true, true_or, or_true, true_and, and_true]; first | done | omega))) | (with_reducible refine zO_brp ?ha ?hb ?hc ?_; (case ha => (first | omega | (simp (disch := omega) only [zst_ne, zst_s, zup_eq, zup_ne, Int.toNat_natCast, not_true_eq_false, not_false_eq_true, true_or, or_true, true_and, and_true]; first | done | omega))); (case hb => (first | omega | (simp (disch := omega) only [zst_ne, zst_s, zup_eq, zup_ne, Int.toNat_natCast, not_true_eq_false, not_false_eq_true, true_or, or_true, true_and, and_true]; first | done | omega))); (case hc => (first | omega | (simp (disch := omega) only [zst_ne, zst_s, zup_eq, zup_ne, Int.toNat_natCast, not_true_eq_false, not_false_eq_true, true_or, or_true, true_and, and_true]; first | done | omega)))) | (with_reducible refine zO_brn ?ha ?hb ?hc ?_; (case ha => (first | omega | (simp (disch := omega) only [zst_ne, zst_s, zup_eq, zup_ne, Int.toNat_natCast, not_true_eq_false, not_false_eq_true, true_or, or_true, true_and, and_true]; first | done | omega))); (case hb => (first | omega | (simp (disch := omega) only [zst_ne, zst_s, zup_eq, zup_ne, Int.toNat_natCast, not_true_eq_false, not_false_eq_true, true_or, or_true, true_and, and_true]; first | done | omega))); (case hc => (first | omega | (simp (disch := omega) only [zst_ne, zst_s, zup_eq, zup_ne, Int.toNat_natCast, not_true_eq_false, not_false_eq_true, true_or, or_true, true_and, and_true]; first | done | omega)))) | simp (disch := omega) only [zst_ne, zst_s, zup_eq, zup_ne, Int.toNat_natCast, not_true_eq_false, not_false_eq_true, true_or, or_true, true_and, and_true] | (with_reducible refine zO_br ?ha ?hb (fun _ => ?_) (fun _ => ?_); (case ha => (first | omega | (simp (disch := omega) only [zst_ne, zst_s, zup_eq, zup_ne, Int.toNat_natCast, not_true_eq_false, not_false_eq_true, true_or, or_true, true_and, and_true]; first | done | omega))); (case hb => (first | omega | (simp (disch := omega) only [zst_ne, zst_s, zup_eq, zup_ne, Int.toNat_natCast, not_true_eq_false, not_false_eq_true, true_or, or_true, true_and, and_true]; first | done | omega)))) | (with_reducible refine zO_ifp ?hc ?_; case hc => (first | omega | (simp (disch := omega) only [zst_ne, zst_s, zup_eq, zup_ne, Int.toNat_natCast, not_true_eq_false, not_false_eq_true, true_or, or_true, true_and, and_true]; first | done | omega))) | (with_reducible refine zO_ifn ?hc ?_; case hc => (first | omega | (simp (disch := omega) only [zst_ne, zst_s, zup_eq, zup_ne, Int.toNat_natCast, not_true_eq_false, not_false_eq_true, true_or, or_true, true_and, and_true]; first | done | omega))) | (with_reducible refine zO_somek ?_) | (with_reducible refine zO_inlk ?_) | (with_reducible refine zO_inrk ?_) | (with_reducible refine zO_sp0 ?_) | (with_reducible refine zO_sp1 ?_) | (with_reducible refine zO_sp2 ?_) | (with_reducible refine zO_sp3 ?_) | (with_reducible refine zO_sp4 ?_) | (with_reducible refine zO_b2 ?_) | (with_reducible refine zO_b3 ?_) | (with_reducible refine zO_b4 ?_) | (with_reducible refine zO_bd ?_) | (with_reducible refine zO_b0 ?_) | (with_reducible refine zO_b1 ?_))
        refine zO_inl ⟨by dsimp only; omega, n', rfl, hi', hfr, hz, h0', hL', hq', vis ?_⟩
        by_cases h5 : s0 (zbs (M' 121 i).toNat (zbw j)).toNat = 0
        · exact Or.inr (Or.inr (zGm_t.2 ⟨h5, hs⟩))
        · exact Or.inr (Or.inl (zIs_f.2 (Or.inr h5)))
  · rintro ⟨y2, y4, M'⟩ hc' ⟨n', hn, hi', hfr, hz, h0', hL', hq', hd⟩
    simp only at hc' hn hi' hfr hz h0' hL' hq' hd
    subst hc' hn
    dsimp only
    rw [gb_X11_spread_28]
    repeat' (first | (with_reducible refine zO_lt ?_) | (with_reducible refine zO_gd ?hc ?_; case hc => (first | omega | (simp (disch := omega) only [zst_ne, zst_s, zup_eq, zup_ne, Int.toNat_natCast, not_true_eq_false, not_false_eq_true, true_or, or_true, true_and, and_true]; first | done | omega))) | (with_reducible refine zO_brp ?ha ?hb ?hc ?_; (case ha => (first | omega | (simp (disch := omega) only [zst_ne, zst_s, zup_eq, zup_ne, Int.toNat_natCast, not_true_eq_false, not_false_eq_true, true_or, or_true, true_and, and_true]; first | done | omega))); (case hb => (first | omega | (simp (disch := omega) only [zst_ne, zst_s, zup_eq, zup_ne, Int.toNat_natCast, not_true_eq_false, not_false_eq_true, true_or, or_true, true_and, and_true]; first | done | omega))); (case hc => (first | omega | (simp (disch := omega) only [zst_ne, zst_s, zup_eq, zup_ne, Int.toNat_natCast, not_true_eq_false, not_false_eq_true, true_or, or_true, true_and, and_true]; first | done | omega)))) | (with_reducible refine zO_brn ?ha ?hb ?hc ?_; (case ha => (first | omega | (simp (disch := omega) only [zst_ne, zst_s, zup_eq, zup_ne, Int.toNat_natCast, not_true_eq_false, not_false_eq_true, true_or, or_true, true_and, and_true]; first | done | omega))); (case hb => (first | omega | (simp (disch := omega) only [zst_ne, zst_s, zup_eq, zup_ne, Int.toNat_natCast, not_true_eq_false, not_false_eq_true, true_or, or_true, true_and, and_true]; first | done | omega))); (case hc => (first | omega | (simp (disch := omega) only [zst_ne, zst_s, zup_eq, zup_ne, Int.toNat_natCast, not_true_eq_false, not_false_eq_true, true_or, or_true, true_and, and_true]; first | done | omega)))) | simp (disch := omega) only [zst_ne, zst_s, zup_eq, zup_ne, Int.toNat_natCast, not_true_eq_false, not_false_eq_true, true_or, or_true, true_and, and_true] | (with_reducible refine zO_br ?ha ?hb (fun _ => ?_) (fun _ => ?_); (case ha => (first | omega | (simp (disch := omega) only [zst_ne, zst_s, zup_eq, zup_ne, Int.toNat_natCast, not_true_eq_false, not_false_eq_true, true_or, or_true, true_and, and_true]; first | done | omega))); (case hb => (first | omega | (simp (disch := omega) only [zst_ne, zst_s, zup_eq, zup_ne, Int.toNat_natCast, not_true_eq_false, not_false_eq_true, true_or, or_true, true_and, and_true]; first | done | omega)))) | (with_reducible refine zO_ifp ?hc ?_; case hc => (first | omega | (simp (disch := omega) only [zst_ne, zst_s, zup_eq, zup_ne, Int.toNat_natCast, not_true_eq_false, not_false_eq_true, true_or, or_true, true_and, and_true]; first | done | omega))) | (with_reducible refine zO_ifn ?hc ?_; case hc => (first | omega | (simp (disch := omega) only [zst_ne, zst_s, zup_eq, zup_ne, Int.toNat_natCast, not_true_eq_false, not_false_eq_true, true_or, or_true, true_and, and_true]; first | done | omega))))
    refine zO_inr ⟨n', rfl, hfr, hz, h0', zL_nxt hL' hi' ?_⟩
    dsimp only
    rw [hq']
    intro d hd'
    have hw : ∀ d, d < 4 → ∃ e, e < 4 ∧ zbw e = d := by
      intro d hd
      rcases (show d = 0 ∨ d = 1 ∨ d = 2 ∨ d = 3 by omega) with rfl | rfl | rfl | rfl
      · exact ⟨2, by decide, by decide⟩
      · exact ⟨0, by decide, by decide⟩
      · exact ⟨1, by decide, by decide⟩
      · exact ⟨3, by decide, by decide⟩
    obtain ⟨e, he, rfl⟩ := hw d hd'
    exact hd e he
/-- the reference spreads from c over the row l -/
theorem g11_spread {k : zK} {c : Int} {l : Nat} {M : zM} (hc : 0 ≤ c ∧ c < 256) (hl : l ≠ 119 ∧ l ≠ 121) (hr1 : z01 (M l)) (h1 : z01 (M 119)) (hs : M 119 c.toNat = 0) : zO (g_X11_spread k c l M) (fun t => zFr [119, 121] M t.1 ∧ t.2 = sIs (zIs (M l) (M 119)) c.toNat ∧ 1 ≤ t.2 ∧ z01 (t.1 119) ∧ ∀ x, x < 256 → zIs (M l) (t.1 119) x = (zIs (M l) (M 119) x && !zRb (zIs (M l) (M 119)) c.toNat x)) := by
  unfold g_X11_spread
  obtain ⟨a, rfl⟩ : ∃ a : Nat, c = a := ⟨c.toNat, by omega⟩
  rw [Int.toNat_natCast] at hs
  simp only [Int.toNat_natCast, Int.toNat_zero]
  repeat' (first | (with_reducible refine zO_lt ?_) | (with_reducible refine zO_gd ?hc ?_; case hc => (first | omega | (simp (disch := omega) only [zst_ne, zst_s, zup_eq, zup_ne, Int.toNat_natCast, not_true_eq_false, not_false_eq_true, true_or, or_true, true_and, and_true]; first | done | omega))) | (with_reducible refine zO_brp ?ha ?hb ?hc ?_; (case ha => (first | omega | (simp (disch := omega) only [zst_ne, zst_s, zup_eq, zup_ne, Int.toNat_natCast, not_true_eq_false, not_false_eq_true, true_or, or_true, true_and, and_true]; first | done | omega))); (case hb => (first | omega | (simp (disch := omega) only [zst_ne, zst_s, zup_eq, zup_ne, Int.toNat_natCast, not_true_eq_false, not_false_eq_true, true_or, or_true, true_and, and_true]; first | done | omega))); (case hc => (first | omega | (simp (disch := omega) only [zst_ne, zst_s, zup_eq, zup_ne, Int.toNat_natCast, not_true_eq_false, not_false_eq_true, true_or, or_true, true_and, and_true]; first | done | omega)))) | (with_reducible refine zO_brn ?ha ?hb ?hc ?_; (case ha => (first | omega | (simp (disch := omega) only [zst_ne, zst_s, zup_eq, zup_ne, Int.toNat_natCast, not_true_eq_false, not_false_eq_true, true_or, or_true, true_and, and_true]; first | done | omega))); (case hb => (first | omega | (simp (disch := omega) only [zst_ne, zst_s, zup_eq, zup_ne, Int.toNat_natCast, not_true_eq_false, not_false_eq_true, true_or, or_true, true_and, and_true]; first | done | omega))); (case hc => (first | omega | (simp (disch := omega) only [zst_ne, zst_s, zup_eq, zup_ne, Int.toNat_natCast, not_true_eq_false, not_false_eq_true, true_or, or_true, true_and, and_true]; first | done | omega)))) | simp (disch := omega) only [zst_ne, zst_s, zup_eq, zup_ne, Int.toNat_natCast, not_true_eq_false, not_false_eq_true, true_or, or_true, true_and, and_true] | (with_reducible refine zO_br ?ha ?hb (fun _ => ?_) (fun _ => ?_); (case ha => (first | omega | (simp (disch := omega) only [zst_ne, zst_s, zup_eq, zup_ne, Int.toNat_natCast, not_true_eq_false, not_false_eq_true, true_or, or_true, true_and, and_true]; first | done | omega))); (case hb => (first | omega | (simp (disch := omega) only [zst_ne, zst_s, zup_eq, zup_ne, Int.toNat_natCast, not_true_eq_false, not_false_eq_true, true_or, or_true, true_and, and_true]; first | done | omega)))) | (with_reducible refine zO_ifp ?hc ?_; case hc => (first | omega | (simp (disch := omega) only [zst_ne, zst_s, zup_eq, zup_ne, Int.toNat_natCast, not_true_eq_false, not_false_eq_true, true_or, or_true, true_and, and_true]; first | done | omega))) | (with_reducible refine zO_ifn ?hc ?_; case hc => (first | omega | (simp (disch := omega) only [zst_ne, zst_s, zup_eq, zup_ne, Int.toNat_natCast, not_true_eq_false, not_false_eq_true, true_or, or_true, true_and, and_true]; first | done | omega))))
  generalize hA : zst (zst M 121 0 (a : Int)) 119 a 1 = A
  have fA : zFr [119, 121] M A := by rw [← hA]; exact (zFr_refl.st (by decide)).st (by decide)
  have a119 : A 119 = zup (M 119) a 1 := by rw [← hA]; simp (disch := omega) only [zst_ne, zst_s]
  have a121 : A 121 0 = a := by rw [← hA]; simp (disch := omega) only [zst_ne, zst_s, zup_eq, zup_ne, Int.toNat_natCast, not_true_eq_false, not_false_eq_true, true_or, or_true, true_and, and_true]
  have aL : A l = M l := fA l (by simp; omega)
  have hL : zL (zIs (M l) (M 119)) a (zGm (M 119) (A 119)) (A 121) 1 0 := by
    refine zL_0 (by omega) a121 (fun x hx => ?_)
    rw [zGm_t, a119]
    unfold zup
    by_cases e : x = a
    · subst e; rw [if_pos rfl]; exact ⟨fun _ => rfl, fun _ => ⟨hs, by omega⟩⟩
    · rw [if_neg e]; exact ⟨fun h => absurd h.1 h.2, fun h => absurd h e⟩
  refine zO_b2 ?_
  unfold zw3
  refine zO_wh (fun t => ∃ n' i' : Nat, t.1 = (n' : Int) ∧ t.2.1 = (i' : Int) ∧ zFr [119, 121] A t.2.2 ∧ z01 (t.2.2 119) ∧ (∀ c, M 119 c ≠ 0 → t.2.2 119 c ≠ 0) ∧ zL (zIs (M l) (M 119)) a (zGm (M 119) (t.2.2 119)) (t.2.2 121) n' i') (fun t => 300 - t.2.1.toNat) ?_ zfu _ (by
    dsimp only
    refine ⟨1, 0, rfl, rfl, zFr_refl, ?_, ?_, hL⟩
    · intro x hx; rw [a119]; unfold zup; split
      · exact Or.inr rfl
      · exact h1 x hx
    · intro x hx; rw [a119]; unfold zup; split
      · omega
      · exact hx) (by unfold zfu; omega)
  rintro ⟨y2, y3, M'⟩ ⟨n', i', e1, e2, hfr, hz, h0, hL'⟩
  simp only at e1 e2 hfr hz h0 hL'
  subst e1 e2
  have hn := zL_n hL'
  have hle := hL'.2.1
  dsimp only
  rw [gb_X11_spread_19]
  rcases Nat.lt_or_ge i' n' with h | h
  · repeat' (first | (with_reducible refine zO_lt ?_) | (with_reducible refine zO_gd ?hc ?_; case hc => (first | omega | (simp (disch := omega) only [zst_ne, zst_s, zup_eq, zup_ne, Int.toNat_natCast, not_true_eq_false, not_false_eq_true, true_or, or_true, true_and, and_true]; first | done | omega))) | (with_reducible refine zO_brp ?ha ?hb ?hc ?_; (case ha => (first | omega | (simp (disch := omega) only [zst_ne, zst_s, zup_eq, zup_ne, Int.toNat_natCast, not_true_eq_false, not_false_eq_true, true_or, or_true, true_and, and_true]; first | done | omega))); (case hb => (first | omega | (simp (disch := omega) only [zst_ne, zst_s, zup_eq, zup_ne, Int.toNat_natCast, not_true_eq_false, not_false_eq_true, true_or, or_true, true_and, and_true]; first | done | omega))); (case hc => (first | omega | (simp (disch := omega) only [zst_ne, zst_s, zup_eq, zup_ne, Int.toNat_natCast, not_true_eq_false, not_false_eq_true, true_or, or_true, true_and, and_true]; first | done | omega)))) | (with_reducible refine zO_brn ?ha ?hb ?hc ?_; (case ha => (first | omega | (simp (disch := omega) only [zst_ne, zst_s, zup_eq, zup_ne, Int.toNat_natCast, not_true_eq_false, not_false_eq_true, true_or, or_true, true_and, and_true]; first | done | omega))); (case hb => (first | omega | (simp (disch := omega) only [zst_ne, zst_s, zup_eq, zup_ne, Int.toNat_natCast, not_true_eq_false, not_false_eq_true, true_or, or_true, true_and, and_true]; first | done | omega))); (case hc => (first | omega | (simp (disch := omega) only [zst_ne, zst_s, zup_eq, zup_ne, Int.toNat_natCast, not_true_eq_false, not_false_eq_true, true_or, or_true, true_and, and_true]; first | done | omega)))) | simp (disch := omega) only [zst_ne, zst_s, zup_eq, zup_ne, Int.toNat_natCast, not_true_eq_false, not_false_eq_true, true_or, or_true, true_and, and_true] | (with_reducible refine zO_br ?ha ?hb (fun _ => ?_) (fun _ => ?_); (case ha => (first | omega | (simp (disch := omega) only [zst_ne, zst_s, zup_eq, zup_ne, Int.toNat_natCast, not_true_eq_false, not_false_eq_true, true_or, or_true, true_and, and_true]; first | done | omega))); (case hb => (first | omega | (simp (disch := omega) only [zst_ne, zst_s, zup_eq, zup_ne, Int.toNat_natCast, not_true_eq_false, not_false_eq_true, true_or, or_true, true_and, and_true]; first | done | omega)))) | (with_reducible refine zO_ifp ?hc ?_; case hc => (first | omega | (simp (disch := omega) only [zst_ne, zst_s, zup_eq, zup_ne, Int.toNat_natCast, not_true_eq_false, not_false_eq_true, true_or, or_true, true_and, and_true]; first | done | omega))) | (with_reducible refine zO_ifn ?hc ?_; case hc => (first | omega | (simp (disch := omega) only [zst_ne, zst_s, zup_eq, zup_ne, Int.toNat_natCast, not_true_eq_false, not_false_eq_true, true_or, or_true, true_and, and_true]; first | done | omega))))
    refine zO_b2 ?_
    refine zO_mono (g11s_in (M := M') hl ((hfr l (by simp; omega)).trans aL) hr1 h hz h0 hL') ?_
    rintro ⟨y, M''⟩ ⟨n'', h3, h4, h5, h6, h7⟩
    refine zO_lt (zO_inl ⟨⟨n'', i' + 1, h3, by dsimp only; omega, hfr.tr h4, h5, h6, h7⟩, ?_⟩)
    dsimp only
    omega
  · have : i' = n' := by omega
    subst this
    obtain ⟨hE, hV⟩ := zL_end hL'
    have hpos : 1 ≤ (i' : Int) := by
      have h6 : zGm (M 119) (M' 119) a = true := hL'.2.2.2.2.2
      have h7 := hL'.2.2.2.1 a (by omega) h6
      obtain ⟨q, hq, _⟩ := h7
      omega
    repeat' (first | (with_reducible refine zO_lt ?_) | (with_reducible refine zO_gd ?hc ?_; case hc => (first | omega | (simp (disch := omega) only [zst_ne, zst_s, zup_eq, zup_ne, Int.toNat_natCast, not_true_eq_false, not_false_eq_true, true_or, or_true, true_and, and_true]; first | done | omega))) | (with_reducible refine zO_brp ?ha ?hb ?hc ?_; (case ha => (first | omega | (simp (disch := omega) only [zst_ne, zst_s, zup_eq, zup_ne, Int.toNat_natCast, not_true_eq_false, not_false_eq_true, true_or, or_true, true_and, and_true]; first | done | omega))); (case hb => (first | omega | (simp (disch := omega) only [zst_ne, zst_s, zup_eq, zup_ne, Int.toNat_natCast, not_true_eq_false, not_false_eq_true, true_or, or_true, true_and, and_true]; first | done | omega))); (case hc => (first | omega | (simp (disch := omega) only [zst_ne, zst_s, zup_eq, zup_ne, Int.toNat_natCast, not_true_eq_false, not_false_eq_true, true_or, or_true, true_and, and_true]; first | done | omega)))) | (with_reducible refine zO_brn ?ha ?hb ?hc ?_; (case ha => (first | omega | (simp (disch := omega) only [zst_ne, zst_s, zup_eq, zup_ne, Int.toNat_natCast, not_true_eq_false, not_false_eq_true, true_or, or_true, true_and, and_true]; first | done | omega))); (case hb => (first | omega | (simp (disch := omega) only [zst_ne, zst_s, zup_eq, zup_ne, Int.toNat_natCast, not_true_eq_false, not_false_eq_true, true_or, or_true, true_and, and_true]; first | done | omega))); (case hc => (first | omega | (simp (disch := omega) only [zst_ne, zst_s, zup_eq, zup_ne, Int.toNat_natCast, not_true_eq_false, not_false_eq_true, true_or, or_true, true_and, and_true]; first | done | omega)))) | simp (disch := omega) only [zst_ne, zst_s, zup_eq, zup_ne, Int.toNat_natCast, not_true_eq_false, not_false_eq_true, true_or, or_true, true_and, and_true] | (with_reducible refine zO_br ?ha ?hb (fun _ => ?_) (fun _ => ?_); (case ha => (first | omega | (simp (disch := omega) only [zst_ne, zst_s, zup_eq, zup_ne, Int.toNat_natCast, not_true_eq_false, not_false_eq_true, true_or, or_true, true_and, and_true]; first | done | omega))); (case hb => (first | omega | (simp (disch := omega) only [zst_ne, zst_s, zup_eq, zup_ne, Int.toNat_natCast, not_true_eq_false, not_false_eq_true, true_or, or_true, true_and, and_true]; first | done | omega)))) | (with_reducible refine zO_ifp ?hc ?_; case hc => (first | omega | (simp (disch := omega) only [zst_ne, zst_s, zup_eq, zup_ne, Int.toNat_natCast, not_true_eq_false, not_false_eq_true, true_or, or_true, true_and, and_true]; first | done | omega))) | (with_reducible refine zO_ifn ?hc ?_; case hc => (first | omega | (simp (disch := omega) only [zst_ne, zst_s, zup_eq, zup_ne, Int.toNat_natCast, not_true_eq_false, not_false_eq_true, true_or, or_true, true_and, and_true]; first | done | omega))))
    refine zO_inr (zO_some ⟨fA.tr hfr, hE, hpos, hz, fun x hx => ?_⟩)
    dsimp only
    rw [← hV x hx]
    have h5 := hz x hx
    cases hg : zGm (M 119) (M' 119) x
    · rcases zGm_f.1 hg with h6 | h6
      · rw [zIs_f.2 (Or.inr h6), zIs_f.2 (Or.inr (h0 x h6))]; rfl
      · unfold zIs
        have h8 : M 119 x = 0 := by
          by_cases h : M 119 x = 0
          · exact h
          · exact absurd h6 (h0 x h)
        rw [h6, h8]
        simp
    · rw [zIs_f.2 (Or.inr (zGm_t.1 hg).2)]; simp

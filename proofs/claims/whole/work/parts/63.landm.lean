/-! the reference's land -/
/-- the reference's SEA at all AGES -/
def zSm (i : Nat) (M : zM) (sl sh : Nat → Int) : Prop := ∀ (a : Nat) (M' : zM), a < 100 → (∀ q, 97 ≤ q → q ≤ 107 → M' q = M q) → g_X11_findSea (zKn i) (a : Int) M' = some (zst (zst M' 76 48 (sl a)) 76 49 (sh a))
theorem zSm.fr {i : Nat} {M M' : zM} {sl sh : Nat → Int} (h : zSm i M sl sh) (h1 : ∀ q, 97 ≤ q → q ≤ 107 → M' q = M q) : zSm i M' sl sh := fun a M'' ha e => h a M'' ha (fun q x y => (e q x y).trans (h1 q x y))
theorem g11_in {k : zK} {s : Nat → Bool} {M : zM} {n i : Nat} (hi : i < n) (hB : zB s (M 120) (M 121) n i) : zO (zw3 (gb_X11_findLand_104 k i) zfu n 0 M) (fun r => ∃ n' : Nat, r.1 = (n' : Int) ∧ zFr [120, 121] M r.2 ∧ zB s (r.2 120) (r.2 121) n' (i + 1)) := by
  unfold zw3
  refine zO_for (fun s => s.2.1) 4 (fun j t => ∃ n' : Nat, t.1 = (n' : Int) ∧ i < n' ∧ zFr [120, 121] M t.2.2 ∧ zB s (t.2.2 120) (t.2.2 121) n' i ∧ t.2.2 121 i = M 121 i ∧ ∀ d, d < j → zbs (M 121 i).toNat (zbw d) = -1 ∨ t.2.2 120 (zbs (M 121 i).toNat (zbw d)).toNat < 99) ?_ ?_ (by omega) 0 (by omega) rfl (by dsimp only; exact ⟨n, rfl, hi, zFr_refl, hB, rfl, fun d hd => by omega⟩)
  · rintro j ⟨y2, y5, M'⟩ hj hc' ⟨n', hn, hi', hfr, hB', hq', hd⟩
    simp only at hc' hn hi' hfr hB' hq' hd
    subst hc' hn
    have hn256 := zB_n hB'
    have hq := hB'.2.2.1 i hi'
    have hb := zbs_or (c := (M' 121 i).toNat) (d := zbw j) (by omega) (zbw_4 hj)
    have hbs := f11_besN (k := k) (c := M' 121 i) (d := j) (M := M') ⟨hq.1, hq.2.1⟩ hj
    have vis : ∀ M'' : zM, (∀ x, M' 120 x < 99 → M'' 120 x < 99) → (zbs (M' 121 i).toNat (zbw j) = -1 ∨ M'' 120 (zbs (M' 121 i).toNat (zbw j)).toNat < 99) → ∀ d, d < j + 1 → zbs (M 121 i).toNat (zbw d) = -1 ∨ M'' 120 (zbs (M 121 i).toNat (zbw d)).toNat < 99 := by
      rw [hq']
      intro M'' h1 h2 d hd'
      rcases Nat.lt_or_ge d j with h | h
      · rcases hd d h with h3 | h3
        · exact Or.inl h3
        · exact Or.inr (h1 _ h3)
      · have : d = j := by omega
        subst this
        exact h2
    dsimp only
    rw [gb_X11_findLand_104]
    rcases hb with hb | ⟨b0, b1, b2⟩
    · rw [hb] at hbs
      repeat' (first | (with_reducible refine zO_b1e hbs ?_) | (with_reducible refine zO_lt ?_) | (with_reducible refine zO_gd ?hc ?_; case hc => (first | omega | (simp (disch := omega) only [zst_ne, zst_s, zup_eq, zup_ne, Int.toNat_natCast, not_true_eq_false, not_false_eq_true]; first | done | omega))) | (with_reducible refine zO_brp ?ha ?hb ?hc ?_; (case ha => (first | omega | (simp (disch := omega) only [zst_ne, zst_s, zup_eq, zup_ne, Int.toNat_natCast, not_true_eq_false, not_false_eq_true]; first | done | omega))); (case hb => (first | omega | (simp (disch := omega) only [zst_ne, zst_s, zup_eq, zup_ne, Int.toNat_natCast, not_true_eq_false, not_false_eq_true]; first | done | omega))); (case hc => (first | omega | (simp (disch := omega) only [zst_ne, zst_s, zup_eq, zup_ne, Int.toNat_natCast, not_true_eq_false, not_false_eq_true]; first | done | omega)))) | (with_reducible refine zO_brn ?ha ?hb ?hc ?_; (case ha => (first | omega | (simp (disch := omega) only [zst_ne, zst_s, zup_eq, zup_ne, Int.toNat_natCast, not_true_eq_false, not_false_eq_true]; first | done | omega))); (case hb => (first | omega | (simp (disch := omega) only [zst_ne, zst_s, zup_eq, zup_ne, Int.toNat_natCast, not_true_eq_false, not_false_eq_true]; first | done | omega))); (case hc => (first | omega | (simp (disch := omega) only [zst_ne, zst_s, zup_eq, zup_ne, Int.toNat_natCast, not_true_eq_false, not_false_eq_true]; first | done | omega)))) | simp (disch := omega) only [zst_ne, zst_s, zup_eq, zup_ne, Int.toNat_natCast, not_true_eq_false, not_false_eq_true] | (with_reducible refine zO_br ?ha ?hb (fun _ => ?_) (fun _ => ?_); (case ha => (first | omega | (simp (disch := omega) only [zst_ne, zst_s, zup_eq, zup_ne, Int.toNat_natCast, not_true_eq_false, not_false_eq_true]; first | done | omega))); (case hb => (first | omega | (simp (disch := omega) only [zst_ne, zst_s, zup_eq, zup_ne, Int.toNat_natCast, not_true_eq_false, not_false_eq_true]; first | done | omega)))) | (with_reducible refine zO_ifp ?hc ?_; case hc => (first | omega | (simp (disch := omega) only [zst_ne, zst_s, zup_eq, zup_ne, Int.toNat_natCast, not_true_eq_false, not_false_eq_true]; first | done | omega))) | (with_reducible refine zO_ifn ?hc ?_; case hc => (first | omega | (simp (disch := omega) only [zst_ne, zst_s, zup_eq, zup_ne, Int.toNat_natCast, not_true_eq_false, not_false_eq_true]; first | done | omega))) | (with_reducible refine zO_somek ?_) | (with_reducible refine zO_inlk ?_) | (with_reducible refine zO_inrk ?_) | (with_reducible refine zO_sp0 ?_) | (with_reducible refine zO_sp1 ?_) | (with_reducible refine zO_sp2 ?_) | (with_reducible refine zO_sp3 ?_) | (with_reducible refine zO_sp4 ?_) | (with_reducible refine zO_b2 ?_) | (with_reducible refine zO_b3 ?_) | (with_reducible refine zO_b4 ?_) | (with_reducible refine zO_bd ?_) | (with_reducible refine zO_b0 ?_) | (with_reducible refine zO_b1 ?_))
      exact zO_inl ⟨by dsimp only; omega, n', rfl, hi', hfr, hB', hq', vis M' (fun _ h => h) (Or.inl hb)⟩
    · rcases hB'.2.2.2.1 (zbs (M' 121 i).toNat (zbw j)).toNat (by omega) with h99 | ⟨h99, _⟩
      · obtain ⟨hA, hA1, hA2, hA3⟩ := zB_add hB' hi' (zbw_4 hj) (by omega) h99
        repeat' (first | (with_reducible refine zO_b1e hbs ?_) | (with_reducible refine zO_lt ?_) | (with_reducible refine zO_gd ?hc ?_; case hc => (first | omega | (simp (disch := omega) only [zst_ne, zst_s, zup_eq, zup_ne, Int.toNat_natCast, not_true_eq_false, not_false_eq_true]; first | done | omega))) | (with_reducible refine zO_brp ?ha ?hb ?hc ?_; (case ha => (first | omega | (simp (disch := omega) only [zst_ne, zst_s, zup_eq, zup_ne, Int.toNat_natCast, not_true_eq_false, not_false_eq_true]; first | done | omega))); (case hb => (first | omega | (simp (disch := omega) only [zst_ne, zst_s, zup_eq, zup_ne, Int.toNat_natCast, not_true_eq_false, not_false_eq_true]; first | done | omega))); (case hc => (first | omega | (simp (disch := omega) only [zst_ne, zst_s, zup_eq, zup_ne, Int.toNat_natCast, not_true_eq_false, not_false_eq_true]; first | done | omega)))) | (with_reducible refine zO_brn ?ha ?hb ?hc ?_; (case ha => (first | omega | (simp (disch := omega) only [zst_ne, zst_s, zup_eq, zup_ne, Int.toNat_natCast, not_true_eq_false, not_false_eq_true]; first | done | omega))); (case hb => (first | omega | (simp (disch := omega) only [zst_ne, zst_s, zup_eq, zup_ne, Int.toNat_natCast, not_true_eq_false, not_false_eq_true]; first | done | omega))); (case hc => (first | omega | (simp (disch := omega) only [zst_ne, zst_s, zup_eq, zup_ne, Int.toNat_natCast, not_true_eq_false, not_false_eq_true]; first | done | omega)))) | simp (disch := omega) only [zst_ne, zst_s, zup_eq, zup_ne, Int.toNat_natCast, not_true_eq_false, not_false_eq_true] | (with_reducible refine zO_br ?ha ?hb (fun _ => ?_) (fun _ => ?_); (case ha => (first | omega | (simp (disch := omega) only [zst_ne, zst_s, zup_eq, zup_ne, Int.toNat_natCast, not_true_eq_false, not_false_eq_true]; first | done | omega))); (case hb => (first | omega | (simp (disch := omega) only [zst_ne, zst_s, zup_eq, zup_ne, Int.toNat_natCast, not_true_eq_false, not_false_eq_true]; first | done | omega)))) | (with_reducible refine zO_ifp ?hc ?_; case hc => (first | omega | (simp (disch := omega) only [zst_ne, zst_s, zup_eq, zup_ne, Int.toNat_natCast, not_true_eq_false, not_false_eq_true]; first | done | omega))) | (with_reducible refine zO_ifn ?hc ?_; case hc => (first | omega | (simp (disch := omega) only [zst_ne, zst_s, zup_eq, zup_ne, Int.toNat_natCast, not_true_eq_false, not_false_eq_true]; first | done | omega))) | (with_reducible refine zO_somek ?_) | (with_reducible refine zO_inlk ?_) | (with_reducible refine zO_inrk ?_) | (with_reducible refine zO_sp0 ?_) | (with_reducible refine zO_sp1 ?_) | (with_reducible refine zO_sp2 ?_) | (with_reducible refine zO_sp3 ?_) | (with_reducible refine zO_sp4 ?_) | (with_reducible refine zO_b2 ?_) | (with_reducible refine zO_b3 ?_) | (with_reducible refine zO_b4 ?_) | (with_reducible refine zO_bd ?_) | (with_reducible refine zO_b0 ?_) | (with_reducible refine zO_b1 ?_))
        refine zO_inl ⟨by dsimp only; omega, n' + 1, by dsimp only; omega, by omega, (hfr.st (by decide)).st (by decide), ?_, ?_, ?_⟩
        · dsimp only
          simp (disch := omega) only [zst_ne, zst_s, Int.toNat_natCast]
          exact hA
        · dsimp only
          simp (disch := omega) only [zst_ne, zst_s, zup_eq, zup_ne, Int.toNat_natCast, not_true_eq_false, not_false_eq_true]
          exact hq'
        · refine vis _ (fun x hx => ?_) (Or.inr ?_)
          · dsimp only
            simp (disch := omega) only [zst_ne, zst_s]
            unfold zup
            split <;> omega
          · dsimp only
            simp (disch := omega) only [zst_ne, zst_s, zup_eq, zup_ne, Int.toNat_natCast, not_true_eq_false, not_false_eq_true]
            omega
      · have hr0 : 0 ≤ M' 120 (zbs (M' 121 i).toNat (zbw j)).toNat := by
          rcases hB'.2.2.2.1 (zbs (M' 121 i).toNat (zbw j)).toNat (by omega) with h | ⟨_, q, hq1, hq2⟩
          · omega
          · have := hB'.2.2.1 q hq1
            rw [hq2, Int.toNat_natCast] at this
            have := sCo_r (s := s) (c := (zbs (M' 121 i).toNat (zbw j)).toNat)
            omega
        repeat' (first | (with_reducible refine zO_b1e hbs ?_) | (with_reducible refine zO_lt ?_) | (with_reducible refine zO_gd ?hc ?_; case hc => (first | omega | (simp (disch := omega) only [zst_ne, zst_s, zup_eq, zup_ne, Int.toNat_natCast, not_true_eq_false, not_false_eq_true]; first | done | omega))) | (with_reducible refine zO_brp ?ha ?hb ?hc ?_; (case ha => (first | omega | (simp (disch := omega) only [zst_ne, zst_s, zup_eq, zup_ne, Int.toNat_natCast, not_true_eq_false, not_false_eq_true]; first | done | omega))); (case hb => (first | omega | (simp (disch := omega) only [zst_ne, zst_s, zup_eq, zup_ne, Int.toNat_natCast, not_true_eq_false, not_false_eq_true]; first | done | omega))); (case hc => (first | omega | (simp (disch := omega) only [zst_ne, zst_s, zup_eq, zup_ne, Int.toNat_natCast, not_true_eq_false, not_false_eq_true]; first | done | omega)))) | (with_reducible refine zO_brn ?ha ?hb ?hc ?_; (case ha => (first | omega | (simp (disch := omega) only [zst_ne, zst_s, zup_eq, zup_ne, Int.toNat_natCast, not_true_eq_false, not_false_eq_true]; first | done | omega))); (case hb => (first | omega | (simp (disch := omega) only [zst_ne, zst_s, zup_eq, zup_ne, Int.toNat_natCast, not_true_eq_false, not_false_eq_true]; first | done | omega))); (case hc => (first | omega | (simp (disch := omega) only [zst_ne, zst_s, zup_eq, zup_ne, Int.toNat_natCast, not_true_eq_false, not_false_eq_true]; first | done | omega)))) | simp (disch := omega) only [zst_ne, zst_s, zup_eq, zup_ne, Int.toNat_natCast, not_true_eq_false, not_false_eq_true] | (with_reducible refine zO_br ?ha ?hb (fun _ => ?_) (fun _ => ?_); (case ha => (first | omega | (simp (disch := omega) only [zst_ne, zst_s, zup_eq, zup_ne, Int.toNat_natCast, not_true_eq_false, not_false_eq_true]; first | done | omega))); (case hb => (first | omega | (simp (disch := omega) only [zst_ne, zst_s, zup_eq, zup_ne, Int.toNat_natCast, not_true_eq_false, not_false_eq_true]; first | done | omega)))) | (with_reducible refine zO_ifp ?hc ?_; case hc => (first | omega | (simp (disch := omega) only [zst_ne, zst_s, zup_eq, zup_ne, Int.toNat_natCast, not_true_eq_false, not_false_eq_true]; first | done | omega))) | (with_reducible refine zO_ifn ?hc ?_; case hc => (first | omega | (simp (disch := omega) only [zst_ne, zst_s, zup_eq, zup_ne, Int.toNat_natCast, not_true_eq_false, not_false_eq_true]; first | done | omega))) | (with_reducible refine zO_somek ?_) | (with_reducible refine zO_inlk ?_) | (with_reducible refine zO_inrk ?_) | (with_reducible refine zO_sp0 ?_) | (with_reducible refine zO_sp1 ?_) | (with_reducible refine zO_sp2 ?_) | (with_reducible refine zO_sp3 ?_) | (with_reducible refine zO_sp4 ?_) | (with_reducible refine zO_b2 ?_) | (with_reducible refine zO_b3 ?_) | (with_reducible refine zO_b4 ?_) | (with_reducible refine zO_bd ?_) | (with_reducible refine zO_b0 ?_) | (with_reducible refine zO_b1 ?_))
        exact zO_inl ⟨by dsimp only; omega, n', rfl, hi', hfr, hB', hq', vis M' (fun _ h => h) (Or.inr h99)⟩
  · rintro ⟨y2, y5, M'⟩ hc' ⟨n', hn, hi', hfr, hB', hq', hd⟩
    simp only at hc' hn hi' hfr hB' hq' hd
    subst hc' hn
    dsimp only
    rw [gb_X11_findLand_104]
    repeat' (first | (with_reducible refine zO_lt ?_) | (with_reducible refine zO_gd ?hc ?_; case hc => (first | omega | (simp (disch := omega) only [zst_ne, zst_s, zup_eq, zup_ne, Int.toNat_natCast, not_true_eq_false, not_false_eq_true]; first | done | omega))) | (with_reducible refine zO_brp ?ha ?hb ?hc ?_; (case ha => (first | omega | (simp (disch := omega) only [zst_ne, zst_s, zup_eq, zup_ne, Int.toNat_natCast, not_true_eq_false, not_false_eq_true]; first | done | omega))); (case hb => (first | omega | (simp (disch := omega) only [zst_ne, zst_s, zup_eq, zup_ne, Int.toNat_natCast, not_true_eq_false, not_false_eq_true]; first | done | omega))); (case hc => (first | omega | (simp (disch := omega) only [zst_ne, zst_s, zup_eq, zup_ne, Int.toNat_natCast, not_true_eq_false, not_false_eq_true]; first | done | omega)))) | (with_reducible refine zO_brn ?ha ?hb ?hc ?_; (case ha => (first | omega | (simp (disch := omega) only [zst_ne, zst_s, zup_eq, zup_ne, Int.toNat_natCast, not_true_eq_false, not_false_eq_true]; first | done | omega))); (case hb => (first | omega | (simp (disch := omega) only [zst_ne, zst_s, zup_eq, zup_ne, Int.toNat_natCast, not_true_eq_false, not_false_eq_true]; first | done | omega))); (case hc => (first | omega | (simp (disch := omega) only [zst_ne, zst_s, zup_eq, zup_ne, Int.toNat_natCast, not_true_eq_false, not_false_eq_true]; first | done | omega)))) | simp (disch := omega) only [zst_ne, zst_s, zup_eq, zup_ne, Int.toNat_natCast, not_true_eq_false, not_false_eq_true] | (with_reducible refine zO_br ?ha ?hb (fun _ => ?_) (fun _ => ?_); (case ha => (first | omega | (simp (disch := omega) only [zst_ne, zst_s, zup_eq, zup_ne, Int.toNat_natCast, not_true_eq_false, not_false_eq_true]; first | done | omega))); (case hb => (first | omega | (simp (disch := omega) only [zst_ne, zst_s, zup_eq, zup_ne, Int.toNat_natCast, not_true_eq_false, not_false_eq_true]; first | done | omega)))) | (with_reducible refine zO_ifp ?hc ?_; case hc => (first | omega | (simp (disch := omega) only [zst_ne, zst_s, zup_eq, zup_ne, Int.toNat_natCast, not_true_eq_false, not_false_eq_true]; first | done | omega))) | (with_reducible refine zO_ifn ?hc ?_; case hc => (first | omega | (simp (disch := omega) only [zst_ne, zst_s, zup_eq, zup_ne, Int.toNat_natCast, not_true_eq_false, not_false_eq_true]; first | done | omega))))
    refine zO_inr ⟨n', rfl, hfr, zB_nxt hB' hi' ?_⟩
    dsimp only
    rw [hq']
    intro d hd'
    have hw : ∀ d, d < 4 → ∃ e, e < 4 ∧ zbw e = d := by
      intro d hd
      rcases (show d = 0 ∨ d = 1 ∨ d = 2 ∨ d = 3 by omega) with rfl | rfl | rfl | rfl
      · exact ⟨2, by decide, by decide⟩
      · exact ⟨0, by decide, by decide⟩
      · exact ⟨1, by decide, by decide⟩
      · exact ⟨3, by decide, by decide⟩
    obtain ⟨e, he, rfl⟩ := hw d hd'
    exact hd e he
theorem g11_step {k : zK} {s : Nat → Bool} {M : zM} {n : Nat} (hB : zB s (M 120) (M 121) n 0) : zO (zw3 (gb_X11_findLand_96 k) zfu n 0 M) (fun M' => zFr [120, 121] M M' ∧ ∀ c, c < 256 → M' 120 c = sCo s c) := by
  unfold zw3
  refine zO_wh (fun t => ∃ n' i' : Nat, t.1 = (n' : Int) ∧ t.2.1 = (i' : Int) ∧ zFr [120, 121] M t.2.2 ∧ zB s (t.2.2 120) (t.2.2 121) n' i') (fun t => 300 - t.2.1.toNat) ?_ zfu _ (by dsimp only; exact ⟨n, 0, rfl, rfl, zFr_refl, hB⟩) (by unfold zfu; omega)
  rintro ⟨y2, y3, M'⟩ ⟨n', i', h1, h2, hfr, hB'⟩
  simp only at h1 h2 hfr hB'
  subst h1 h2
  have hn := zB_n hB'
  have hle := hB'.2.1
  dsimp only
  rw [gb_X11_findLand_96]
  rcases Nat.lt_or_ge i' n' with h | h
  · repeat' (first | (with_reducible refine zO_lt ?_) | (with_reducible refine zO_gd ?hc ?_; case hc => (first | omega | (simp (disch := omega) only [zst_ne, zst_s, zup_eq, zup_ne, Int.toNat_natCast, not_true_eq_false, not_false_eq_true]; first | done | omega))) | (with_reducible refine zO_brp ?ha ?hb ?hc ?_; (case ha => (first | omega | (simp (disch := omega) only [zst_ne, zst_s, zup_eq, zup_ne, Int.toNat_natCast, not_true_eq_false, not_false_eq_true]; first | done | omega))); (case hb => (first | omega | (simp (disch := omega) only [zst_ne, zst_s, zup_eq, zup_ne, Int.toNat_natCast, not_true_eq_false, not_false_eq_true]; first | done | omega))); (case hc => (first | omega | (simp (disch := omega) only [zst_ne, zst_s, zup_eq, zup_ne, Int.toNat_natCast, not_true_eq_false, not_false_eq_true]; first | done | omega)))) | (with_reducible refine zO_brn ?ha ?hb ?hc ?_; (case ha => (first | omega | (simp (disch := omega) only [zst_ne, zst_s, zup_eq, zup_ne, Int.toNat_natCast, not_true_eq_false, not_false_eq_true]; first | done | omega))); (case hb => (first | omega | (simp (disch := omega) only [zst_ne, zst_s, zup_eq, zup_ne, Int.toNat_natCast, not_true_eq_false, not_false_eq_true]; first | done | omega))); (case hc => (first | omega | (simp (disch := omega) only [zst_ne, zst_s, zup_eq, zup_ne, Int.toNat_natCast, not_true_eq_false, not_false_eq_true]; first | done | omega)))) | simp (disch := omega) only [zst_ne, zst_s, zup_eq, zup_ne, Int.toNat_natCast, not_true_eq_false, not_false_eq_true] | (with_reducible refine zO_br ?ha ?hb (fun _ => ?_) (fun _ => ?_); (case ha => (first | omega | (simp (disch := omega) only [zst_ne, zst_s, zup_eq, zup_ne, Int.toNat_natCast, not_true_eq_false, not_false_eq_true]; first | done | omega))); (case hb => (first | omega | (simp (disch := omega) only [zst_ne, zst_s, zup_eq, zup_ne, Int.toNat_natCast, not_true_eq_false, not_false_eq_true]; first | done | omega)))) | (with_reducible refine zO_ifp ?hc ?_; case hc => (first | omega | (simp (disch := omega) only [zst_ne, zst_s, zup_eq, zup_ne, Int.toNat_natCast, not_true_eq_false, not_false_eq_true]; first | done | omega))) | (with_reducible refine zO_ifn ?hc ?_; case hc => (first | omega | (simp (disch := omega) only [zst_ne, zst_s, zup_eq, zup_ne, Int.toNat_natCast, not_true_eq_false, not_false_eq_true]; first | done | omega))))
    refine zO_b2 ?_
    refine zO_mono (g11_in (M := M') h hB') ?_
    rintro ⟨y, M''⟩ ⟨n'', h3, h4, h5⟩
    refine zO_lt (zO_inl ⟨⟨n'', i' + 1, h3, by dsimp only; omega, hfr.tr h4, h5⟩, ?_⟩)
    dsimp only
    omega
  · have : i' = n' := by omega
    subst this
    repeat' (first | (with_reducible refine zO_lt ?_) | (with_reducible refine zO_gd ?hc ?_; case hc => (first | omega | (simp (disch := omega) only [zst_ne, zst_s, zup_eq, zup_ne, Int.toNat_natCast, not_true_eq_false, not_false_eq_true]; first | done | omega))) | (with_reducible refine zO_brp ?ha ?hb ?hc ?_; (case ha => (first | omega | (simp (disch := omega) only [zst_ne, zst_s, zup_eq, zup_ne, Int.toNat_natCast, not_true_eq_false, not_false_eq_true]; first | done | omega))); (case hb => (first | omega | (simp (disch := omega) only [zst_ne, zst_s, zup_eq, zup_ne, Int.toNat_natCast, not_true_eq_false, not_false_eq_true]; first | done | omega))); (case hc => (first | omega | (simp (disch := omega) only [zst_ne, zst_s, zup_eq, zup_ne, Int.toNat_natCast, not_true_eq_false, not_false_eq_true]; first | done | omega)))) | (with_reducible refine zO_brn ?ha ?hb ?hc ?_; (case ha => (first | omega | (simp (disch := omega) only [zst_ne, zst_s, zup_eq, zup_ne, Int.toNat_natCast, not_true_eq_false, not_false_eq_true]; first | done | omega))); (case hb => (first | omega | (simp (disch := omega) only [zst_ne, zst_s, zup_eq, zup_ne, Int.toNat_natCast, not_true_eq_false, not_false_eq_true]; first | done | omega))); (case hc => (first | omega | (simp (disch := omega) only [zst_ne, zst_s, zup_eq, zup_ne, Int.toNat_natCast, not_true_eq_false, not_false_eq_true]; first | done | omega)))) | simp (disch := omega) only [zst_ne, zst_s, zup_eq, zup_ne, Int.toNat_natCast, not_true_eq_false, not_false_eq_true] | (with_reducible refine zO_br ?ha ?hb (fun _ => ?_) (fun _ => ?_); (case ha => (first | omega | (simp (disch := omega) only [zst_ne, zst_s, zup_eq, zup_ne, Int.toNat_natCast, not_true_eq_false, not_false_eq_true]; first | done | omega))); (case hb => (first | omega | (simp (disch := omega) only [zst_ne, zst_s, zup_eq, zup_ne, Int.toNat_natCast, not_true_eq_false, not_false_eq_true]; first | done | omega)))) | (with_reducible refine zO_ifp ?hc ?_; case hc => (first | omega | (simp (disch := omega) only [zst_ne, zst_s, zup_eq, zup_ne, Int.toNat_natCast, not_true_eq_false, not_false_eq_true]; first | done | omega))) | (with_reducible refine zO_ifn ?hc ?_; case hc => (first | omega | (simp (disch := omega) only [zst_ne, zst_s, zup_eq, zup_ne, Int.toNat_natCast, not_true_eq_false, not_false_eq_true]; first | done | omega))))
    exact zO_inr ⟨hfr, zB_end hB'⟩
/-- the reference's land at a level -/
def zVM (M : zM) (lv : Int) : Prop := ∀ c : Nat, c < 256 → M 118 c = sLand (M 114) lv c ∧ M 120 c = sCo (sSea (M 114) lv) c
theorem g11_land {i : Nat} {M : zM} {sl sh : Nat → Int} {a : Nat} (ha : a < 100) (hs : zSm i M sl sh) (hr : ∀ a, a < 100 → 0 ≤ sl a ∧ sl a ≤ 99 ∧ 0 ≤ sh a ∧ sh a ≤ 99) (hm : zMid (M 114)) : zO (g_X11_findLand (zKn i) (a : Int) M) (fun M' => zFr [76, 118, 120, 121] M M' ∧ (∀ x, x ≠ 48 → x ≠ 49 → M' 76 x = M 76 x) ∧ M' 76 48 = sl a ∧ M' 76 49 = sh a ∧ zVM M' (sl a + sh a)) := by
  unfold g_X11_findLand
  refine zO_b1e (hs a M ha (fun _ _ _ => rfl)) ?_
  have hra := hr a ha
  generalize hA : zst (zst M 76 48 (sl a)) 76 49 (sh a) = A
  have fA : zFr [76, 118, 120, 121] M A := by rw [← hA]; exact (zFr_refl.st (by decide)).st (by decide)
  have a48 : A 76 48 = sl a := by rw [← hA]; simp (disch := omega) only [zst_ne, zst_s, zup_eq, zup_ne, Int.toNat_natCast, not_true_eq_false, not_false_eq_true]
  have a49 : A 76 49 = sh a := by rw [← hA]; simp (disch := omega) only [zst_ne, zst_s, zup_eq, zup_ne, Int.toNat_natCast, not_true_eq_false, not_false_eq_true]
  have a76 : ∀ x, x ≠ 48 → x ≠ 49 → A 76 x = M 76 x := fun x h1 h2 => by rw [← hA, zst_ns h2, zst_ns h1]
  have a114 : A 114 = M 114 := fA 114 (by decide)
  generalize hlv : sl a + sh a = lv
  refine zO_b2 ?_
  refine zO_mono (Q := fun r => ∃ n : Nat, r.1 = (n : Int) ∧ zFr [118, 120, 121] A r.2 ∧ (∀ c, c < 256 → r.2 118 c = sLand (M 114) lv c) ∧ zB (sSea (M 114) lv) (r.2 120) (r.2 121) n 0) ?_ ?_
  · unfold zw3
    refine zO_for (fun s => s.2.1) 256 (fun j t => ∃ n : Nat, t.1 = (n : Int) ∧ zFr [118, 120, 121] A t.2.2 ∧ (∀ c, c < j → t.2.2 118 c = sLand (M 114) lv c) ∧ zB0 (sSea (M 114) lv) (t.2.2 120) (t.2.2 121) n j) ?_ ?_ (by omega) 0 (by omega) rfl (by dsimp only; exact ⟨0, rfl, zFr_refl, fun c hc => by omega, rfl, fun q hq => by omega, fun c hc => by omega, fun c hc => by omega⟩)
    · rintro j ⟨y2, y3, M'⟩ hj hc ⟨n, hn, hfr, hI, hB⟩
      simp only at hc hn hfr hI hB
      subst hc hn
      have e114 : M' 114 = M 114 := (hfr 114 (by decide)).trans a114
      have e76 : M' 76 = A 76 := hfr 76 (by decide)
      have e48 : M' 76 48 = sl a := by rw [e76]; exact a48
      have e49 : M' 76 49 = sh a := by rw [e76]; exact a49
      have hmj := hm j hj
      have hnj := zB0_n hB
      rw [← e114] at hmj
      dsimp only
      rw [gb_X11_findLand_9]
      have lI : ∀ c, c < j + 1 → zup (M' 118) j (sLand (M 114) lv j) c = sLand (M 114) lv c := by
        intro c hc
        rcases Nat.lt_or_ge c j with h | h
        · rw [zup_ne (by omega)]; exact hI c h
        · have : c = j := by omega
          subst this
          exact zup_eq
      by_cases hs : M' 114 j ≤ lv
      · repeat' (first | (with_reducible refine zO_lt ?_) | (with_reducible refine zO_gd ?hc ?_; case hc => (first | omega | (simp (disch := omega) only [zst_ne, zst_s, zup_eq, zup_ne, Int.toNat_natCast, not_true_eq_false, not_false_eq_true]; first | done | omega))) | (with_reducible refine zO_brp ?ha ?hb ?hc ?_; (case ha => (first | omega | (simp (disch := omega) only [zst_ne, zst_s, zup_eq, zup_ne, Int.toNat_natCast, not_true_eq_false, not_false_eq_true]; first | done | omega))); (case hb => (first | omega | (simp (disch := omega) only [zst_ne, zst_s, zup_eq, zup_ne, Int.toNat_natCast, not_true_eq_false, not_false_eq_true]; first | done | omega))); (case hc => (first | omega | (simp (disch := omega) only [zst_ne, zst_s, zup_eq, zup_ne, Int.toNat_natCast, not_true_eq_false, not_false_eq_true]; first | done | omega)))) | (with_reducible refine zO_brn ?ha ?hb ?hc ?_; (case ha => (first | omega | (simp (disch := omega) only [zst_ne, zst_s, zup_eq, zup_ne, Int.toNat_natCast, not_true_eq_false, not_false_eq_true]; first | done | omega))); (case hb => (first | omega | (simp (disch := omega) only [zst_ne, zst_s, zup_eq, zup_ne, Int.toNat_natCast, not_true_eq_false, not_false_eq_true]; first | done | omega))); (case hc => (first | omega | (simp (disch := omega) only [zst_ne, zst_s, zup_eq, zup_ne, Int.toNat_natCast, not_true_eq_false, not_false_eq_true]; first | done | omega)))) | simp (disch := omega) only [zst_ne, zst_s, zup_eq, zup_ne, Int.toNat_natCast, not_true_eq_false, not_false_eq_true] | (with_reducible refine zO_br ?ha ?hb (fun _ => ?_) (fun _ => ?_); (case ha => (first | omega | (simp (disch := omega) only [zst_ne, zst_s, zup_eq, zup_ne, Int.toNat_natCast, not_true_eq_false, not_false_eq_true]; first | done | omega))); (case hb => (first | omega | (simp (disch := omega) only [zst_ne, zst_s, zup_eq, zup_ne, Int.toNat_natCast, not_true_eq_false, not_false_eq_true]; first | done | omega)))) | (with_reducible refine zO_ifp ?hc ?_; case hc => (first | omega | (simp (disch := omega) only [zst_ne, zst_s, zup_eq, zup_ne, Int.toNat_natCast, not_true_eq_false, not_false_eq_true]; first | done | omega))) | (with_reducible refine zO_ifn ?hc ?_; case hc => (first | omega | (simp (disch := omega) only [zst_ne, zst_s, zup_eq, zup_ne, Int.toNat_natCast, not_true_eq_false, not_false_eq_true]; first | done | omega))) | (with_reducible refine zO_somek ?_) | (with_reducible refine zO_inlk ?_) | (with_reducible refine zO_inrk ?_) | (with_reducible refine zO_sp0 ?_) | (with_reducible refine zO_sp1 ?_) | (with_reducible refine zO_sp2 ?_) | (with_reducible refine zO_sp3 ?_) | (with_reducible refine zO_sp4 ?_) | (with_reducible refine zO_b2 ?_) | (with_reducible refine zO_b3 ?_) | (with_reducible refine zO_b4 ?_) | (with_reducible refine zO_bd ?_) | (with_reducible refine zO_b0 ?_) | (with_reducible refine zO_b1 ?_))
        have hL : sLand (M 114) lv j = 0 := by unfold sLand; rw [← e114, if_neg (by omega)]
        refine zO_inl ⟨by dsimp only; omega, n + 1, by dsimp only; omega, ((hfr.st (by decide)).st (by decide)).st (by decide), ?_, ?_⟩
        · dsimp only
          simp (disch := omega) only [zst_ne, zst_s, Int.toNat_natCast]
          rw [← hL]
          exact lI
        · dsimp only
          simp (disch := omega) only [zst_ne, zst_s, Int.toNat_natCast]
          exact zB0_sea hB (sSea_t.2 (by rw [← e114]; omega)) (fun x hx => by rw [zup_ne hx]) zup_eq
      · repeat' (first | (with_reducible refine zO_lt ?_) | (with_reducible refine zO_gd ?hc ?_; case hc => (first | omega | (simp (disch := omega) only [zst_ne, zst_s, zup_eq, zup_ne, Int.toNat_natCast, not_true_eq_false, not_false_eq_true]; first | done | omega))) | (with_reducible refine zO_brp ?ha ?hb ?hc ?_; (case ha => (first | omega | (simp (disch := omega) only [zst_ne, zst_s, zup_eq, zup_ne, Int.toNat_natCast, not_true_eq_false, not_false_eq_true]; first | done | omega))); (case hb => (first | omega | (simp (disch := omega) only [zst_ne, zst_s, zup_eq, zup_ne, Int.toNat_natCast, not_true_eq_false, not_false_eq_true]; first | done | omega))); (case hc => (first | omega | (simp (disch := omega) only [zst_ne, zst_s, zup_eq, zup_ne, Int.toNat_natCast, not_true_eq_false, not_false_eq_true]; first | done | omega)))) | (with_reducible refine zO_brn ?ha ?hb ?hc ?_; (case ha => (first | omega | (simp (disch := omega) only [zst_ne, zst_s, zup_eq, zup_ne, Int.toNat_natCast, not_true_eq_false, not_false_eq_true]; first | done | omega))); (case hb => (first | omega | (simp (disch := omega) only [zst_ne, zst_s, zup_eq, zup_ne, Int.toNat_natCast, not_true_eq_false, not_false_eq_true]; first | done | omega))); (case hc => (first | omega | (simp (disch := omega) only [zst_ne, zst_s, zup_eq, zup_ne, Int.toNat_natCast, not_true_eq_false, not_false_eq_true]; first | done | omega)))) | simp (disch := omega) only [zst_ne, zst_s, zup_eq, zup_ne, Int.toNat_natCast, not_true_eq_false, not_false_eq_true] | (with_reducible refine zO_br ?ha ?hb (fun _ => ?_) (fun _ => ?_); (case ha => (first | omega | (simp (disch := omega) only [zst_ne, zst_s, zup_eq, zup_ne, Int.toNat_natCast, not_true_eq_false, not_false_eq_true]; first | done | omega))); (case hb => (first | omega | (simp (disch := omega) only [zst_ne, zst_s, zup_eq, zup_ne, Int.toNat_natCast, not_true_eq_false, not_false_eq_true]; first | done | omega)))) | (with_reducible refine zO_ifp ?hc ?_; case hc => (first | omega | (simp (disch := omega) only [zst_ne, zst_s, zup_eq, zup_ne, Int.toNat_natCast, not_true_eq_false, not_false_eq_true]; first | done | omega))) | (with_reducible refine zO_ifn ?hc ?_; case hc => (first | omega | (simp (disch := omega) only [zst_ne, zst_s, zup_eq, zup_ne, Int.toNat_natCast, not_true_eq_false, not_false_eq_true]; first | done | omega))) | (with_reducible refine zO_somek ?_) | (with_reducible refine zO_inlk ?_) | (with_reducible refine zO_inrk ?_) | (with_reducible refine zO_sp0 ?_) | (with_reducible refine zO_sp1 ?_) | (with_reducible refine zO_sp2 ?_) | (with_reducible refine zO_sp3 ?_) | (with_reducible refine zO_sp4 ?_) | (with_reducible refine zO_b2 ?_) | (with_reducible refine zO_b3 ?_) | (with_reducible refine zO_b4 ?_) | (with_reducible refine zO_bd ?_) | (with_reducible refine zO_b0 ?_) | (with_reducible refine zO_b1 ?_))
        have hL : sLand (M 114) lv j = 1 := by unfold sLand; rw [← e114, if_pos (by omega)]
        refine zO_inl ⟨by dsimp only; omega, n, rfl, (hfr.st (by decide)).st (by decide), ?_, ?_⟩
        · dsimp only
          simp (disch := omega) only [zst_ne, zst_s, Int.toNat_natCast]
          rw [← hL]
          exact lI
        · dsimp only
          simp (disch := omega) only [zst_ne, zst_s, Int.toNat_natCast]
          refine zB0_land hB ?_ (fun x hx => zup_ne hx) zup_eq
          unfold sSea
          rw [← e114]
          exact decide_eq_false (by omega)
    · rintro ⟨y2, y3, M'⟩ hc ⟨n, hn, hfr, hI, hB⟩
      simp only at hc hn hfr hI hB
      subst hc hn
      dsimp only
      rw [gb_X11_findLand_9]
      repeat' (first | (with_reducible refine zO_lt ?_) | (with_reducible refine zO_gd ?hc ?_; case hc => (first | omega | (simp (disch := omega) only [zst_ne, zst_s, zup_eq, zup_ne, Int.toNat_natCast, not_true_eq_false, not_false_eq_true]; first | done | omega))) | (with_reducible refine zO_brp ?ha ?hb ?hc ?_; (case ha => (first | omega | (simp (disch := omega) only [zst_ne, zst_s, zup_eq, zup_ne, Int.toNat_natCast, not_true_eq_false, not_false_eq_true]; first | done | omega))); (case hb => (first | omega | (simp (disch := omega) only [zst_ne, zst_s, zup_eq, zup_ne, Int.toNat_natCast, not_true_eq_false, not_false_eq_true]; first | done | omega))); (case hc => (first | omega | (simp (disch := omega) only [zst_ne, zst_s, zup_eq, zup_ne, Int.toNat_natCast, not_true_eq_false, not_false_eq_true]; first | done | omega)))) | (with_reducible refine zO_brn ?ha ?hb ?hc ?_; (case ha => (first | omega | (simp (disch := omega) only [zst_ne, zst_s, zup_eq, zup_ne, Int.toNat_natCast, not_true_eq_false, not_false_eq_true]; first | done | omega))); (case hb => (first | omega | (simp (disch := omega) only [zst_ne, zst_s, zup_eq, zup_ne, Int.toNat_natCast, not_true_eq_false, not_false_eq_true]; first | done | omega))); (case hc => (first | omega | (simp (disch := omega) only [zst_ne, zst_s, zup_eq, zup_ne, Int.toNat_natCast, not_true_eq_false, not_false_eq_true]; first | done | omega)))) | simp (disch := omega) only [zst_ne, zst_s, zup_eq, zup_ne, Int.toNat_natCast, not_true_eq_false, not_false_eq_true] | (with_reducible refine zO_br ?ha ?hb (fun _ => ?_) (fun _ => ?_); (case ha => (first | omega | (simp (disch := omega) only [zst_ne, zst_s, zup_eq, zup_ne, Int.toNat_natCast, not_true_eq_false, not_false_eq_true]; first | done | omega))); (case hb => (first | omega | (simp (disch := omega) only [zst_ne, zst_s, zup_eq, zup_ne, Int.toNat_natCast, not_true_eq_false, not_false_eq_true]; first | done | omega)))) | (with_reducible refine zO_ifp ?hc ?_; case hc => (first | omega | (simp (disch := omega) only [zst_ne, zst_s, zup_eq, zup_ne, Int.toNat_natCast, not_true_eq_false, not_false_eq_true]; first | done | omega))) | (with_reducible refine zO_ifn ?hc ?_; case hc => (first | omega | (simp (disch := omega) only [zst_ne, zst_s, zup_eq, zup_ne, Int.toNat_natCast, not_true_eq_false, not_false_eq_true]; first | done | omega))))
      exact zO_inr ⟨n, rfl, hfr, hI, zB0_end hB⟩
  · rintro ⟨y2, M'⟩ ⟨n, hn, hfr, hI, hB⟩
    simp only at hn hfr hI hB
    subst hn
    refine zO_b1q (g11_step hB) ?_
    rintro M'' ⟨h1, h2⟩
    have f : zFr [76, 118, 120, 121] M M'' := (fA.tr (hfr.mono (by decide))).tr (h1.mono (by decide))
    have e76 : M'' 76 = A 76 := (h1 76 (by decide)).trans (hfr 76 (by decide))
    refine zO_some ⟨f, ?_, ?_, ?_, ?_⟩
    · intro x hx hx'
      rw [e76]; exact a76 x hx hx'
    · rw [e76]; exact a48
    · rw [e76]; exact a49
    · intro c hc
      rw [show M'' 114 = M 114 from f 114 (by decide), h1 118 (by decide)]
      exact ⟨hI c hc, h2 c hc⟩

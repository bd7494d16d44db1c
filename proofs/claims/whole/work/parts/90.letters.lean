/-! letters -/
theorem zSt.lett {i L : Nat} {M : zM} {E : zE} (h : zSt i L M E) {l : Nat} (hl : l < 40) : (M 14 l = M 96 l ∧ (M 14 l = 0 ∨ M 14 l = 1)) ∧ (M 15 l = M 92 l ∧ 0 ≤ M 15 l ∧ M 15 l ≤ 99) ∧ (M 16 l = M 93 l ∧ 0 ≤ M 16 l ∧ M 16 l ≤ M 17 l) ∧ M 17 l = M 94 l ∧ M 17 l < 100 := by
  have := h.2.2.1.2.2.2.2.2.2.2.2.2.2.2.2.2 l hl
  rw [show 40 * 0 + l = l by omega] at this
  exact this
theorem zSt.letn {i L : Nat} {M : zM} {E : zE} (h : zSt i L M E) : ∃ n : Nat, M 4 19 = n ∧ M 81 0 = n ∧ n ≤ 40 := by
  have := h.2.2.1.2.2.2.2.2.2.2.2.2.2.2.2.1
  refine ⟨(M 81 0).toNat, ?_, ?_, ?_⟩ <;> omega
def sLv (M : zM) (age : Int) : Nat → Int × Int
  | 0 => (0, 99)
  | l + 1 => (if M 14 l = 0 ∧ M 17 l ≤ age then zmax (sLv M age l).1 (M 15 l) else (sLv M age l).1, if M 14 l = 1 ∧ age ≤ M 16 l then zmin (sLv M age l).2 (M 15 l - 1) else (sLv M age l).2)
theorem sLv_s {M : zM} {age : Int} {l : Nat} : sLv M age (l + 1) = (if M 14 l = 0 ∧ M 17 l ≤ age then zmax (sLv M age l).1 (M 15 l) else (sLv M age l).1, if M 14 l = 1 ∧ age ≤ M 16 l then zmin (sLv M age l).2 (M 15 l - 1) else (sLv M age l).2) := rfl
theorem sLv_r {i L : Nat} {M : zM} {E : zE} (h : zSt i L M E) {age : Int} : ∀ l, l ≤ 40 → 0 ≤ (sLv M age l).1 ∧ (sLv M age l).1 ≤ 99 ∧ -1 ≤ (sLv M age l).2 ∧ (sLv M age l).2 ≤ 99 := by
  intro l
  induction l with
  | zero => intro _; exact ⟨by show (0 : Int) ≤ 0; omega, by show (0 : Int) ≤ 99; omega, by show (-1 : Int) ≤ 99; omega, by show (99 : Int) ≤ 99; omega⟩
  | succ l ih =>
    intro hl
    have h1 := ih (by omega)
    obtain ⟨_, ⟨_, h3, h4⟩, _⟩ := h.lett (l := l) (by omega)
    rw [sLv_s]
    dsimp only
    unfold zmax zmin
    omega
def sLev (M : zM) (age w : Int) (n : Nat) : Int := if (sLv M age n).2 < (sLv M age n).1 then -1 else if w = 0 then (sLv M age n).1 else (sLv M age n).2
theorem p_levels {i L : Nat} {M : zM} {E : zE} {p1 p2 : Int} (hI : zInv i L M E) (h1 : zr p1) (h2 : zr p2) : zP0 (g_X10_levels (zKn i) p1 p2) (g_X11_levels (zKn i) p1 p2) M := by
  obtain ⟨n, n1, n2, n3⟩ := hI.1.letn
  by_cases ha : 0 ≤ p1 ∧ p1 < 100
  · obtain ⟨tb, tb'⟩ := t_age (k := zKn i) (M := M) ha
    by_cases hp : p2 = 0 ∨ p2 = 1
    · obtain ⟨tp, tp'⟩ := t_part (k := zKn i) (M := M) hp
      have hr := sLv_r hI.1 (age := p1) n n3
      refine ⟨sLev M p1 p2 n, ?_, ?_⟩
      · have hl : zw3 (gb_X10_levels_25 (zKn i) p1 p2 M) zfu 0 99 0 = some ((sLv M p1 n).1, (sLv M p1 n).2) := by
          unfold zw3
          refine zO_up (F := fun t => gb_X10_levels_25 (zKn i) p1 p2 M t.1 t.2.1 t.2.2) (fun j => ((sLv M p1 j).1, (sLv M p1 j).2, (j : Int))) n ?_ ?_ (by omega) 0 (by omega)
          · intro j hj
            obtain ⟨⟨_, k1⟩, ⟨_, k3, k4⟩, ⟨_, k5, k6⟩, _, k7⟩ := hI.1.lett (l := j) (by omega)
            have hrj := sLv_r hI.1 (age := p1) j (by omega)
            rw [sLv_s]
            generalize sLv M p1 j = s at *
            apply zO_get
            dsimp only
            rw [gb_X10_levels_25]
            simp only [Int.toNat_natCast, n1]
            rw [show ((j + 1 : Nat) : Int) = (j : Int) + 1 by omega]
            rcases k1 with k1 | k1
            · by_cases h5 : M 17 j ≤ p1
              · repeat' (first | (with_reducible refine zO_lt ?_) | (with_reducible refine zO_gd ?hc ?_; case hc => (first | omega | (simp (disch := omega) only [zst_ne, zst_s, zup_eq, zup_ne, Int.toNat_natCast, not_true_eq_false, not_false_eq_true, true_or, or_true, true_and, and_true]; first | done | omega) | with_reducible exact True.intro)) | (with_reducible refine zO_brp ?ha ?hb ?hc ?_; (case ha => (first | omega | (simp (disch := omega) only [zst_ne, zst_s, zup_eq, zup_ne, Int.toNat_natCast, not_true_eq_false, not_false_eq_true, true_or, or_true, true_and, and_true]; first | done | omega) | with_reducible exact True.intro)); (case hb => (first | omega | (simp (disch := omega) only [zst_ne, zst_s, zup_eq, zup_ne, Int.toNat_natCast, not_true_eq_false, not_false_eq_true, true_or, or_true, true_and, and_true]; first | done | omega) | with_reducible exact True.intro)); (case hc => (first | omega | (simp (disch := omega) only [zst_ne, zst_s, zup_eq, zup_ne, Int.toNat_natCast, not_true_eq_false, not_false_eq_true, true_or, or_true, true_and, and_true]; first | done | omega) | with_reducible exact True.intro))) | (with_reducible refine zO_brn ?ha ?hb ?hc ?_; (case ha => (first | omega | (simp (disch := omega) only [zst_ne, zst_s, zup_eq, zup_ne, Int.toNat_natCast, not_true_eq_false, not_false_eq_true, true_or, or_true, true_and, and_true]; first | done | omega) | with_reducible exact True.intro)); (case hb => (first | omega | (simp (disch := omega) only [zst_ne, zst_s, zup_eq, zup_ne, Int.toNat_natCast, not_true_eq_false, not_false_eq_true, true_or, or_true, true_and, and_true]; first | done | omega) | with_reducible exact True.intro)); (case hc => (first | omega | (simp (disch := omega) only [zst_ne, zst_s, zup_eq, zup_ne, Int.toNat_natCast, not_true_eq_false, not_false_eq_true, true_or, or_true, true_and, and_true]; first | done | omega) | with_reducible exact True.intro))) | simp (disch := omega) only [zst_ne, zst_s, zup_eq, zup_ne, Int.toNat_natCast, not_true_eq_false, not_false_eq_true, true_or, or_true, true_and, and_true] | (with_reducible refine zO_br ?ha ?hb (fun _ => ?_) (fun _ => ?_); (case ha => (first | omega | (simp (disch := omega) only [zst_ne, zst_s, zup_eq, zup_ne, Int.toNat_natCast, not_true_eq_false, not_false_eq_true, true_or, or_true, true_and, and_true]; first | done | omega) | with_reducible exact True.intro)); (case hb => (first | omega | (simp (disch := omega) only [zst_ne, zst_s, zup_eq, zup_ne, Int.toNat_natCast, not_true_eq_false, not_false_eq_true, true_or, or_true, true_and, and_true]; first | done | omega) | with_reducible exact True.intro))) | (with_reducible refine zO_ifp ?hc ?_; case hc => (first | omega | (simp (disch := omega) only [zst_ne, zst_s, zup_eq, zup_ne, Int.toNat_natCast, not_true_eq_false, not_false_eq_true, true_or, or_true, true_and, and_true]; first | done | omega) | with_reducible exact True.intro)) | (with_reducible refine zO_ifn ?hc ?_; case hc => (first | omega | (simp (disch := omega) only [zst_ne, zst_s, zup_eq, zup_ne, Int.toNat_natCast, not_true_eq_false, not_false_eq_true, true_or, or_true, true_and, and_true]; first | done | omega) | with_reducible exact True.intro)) | (with_reducible refine zO_somek ?_) | (with_reducible refine zO_inlk ?_) | (with_reducible refine zO_inrk ?_) | (with_reducible refine zO_sp0 ?_) | (with_reducible refine zO_sp1 ?_) | (with_reducible refine zO_sp2 ?_) | (with_reducible refine zO_sp3 ?_) | (with_reducible refine zO_sp4 ?_) | (with_reducible refine zO_b2 ?_) | (with_reducible refine zO_b3 ?_) | (with_reducible refine zO_b4 ?_) | (with_reducible refine zO_bd ?_) | (with_reducible refine zO_b0 ?_) | (with_reducible refine zO_b1 ?_) | fail)
                refine zO_some ?_
                rw [if_pos ⟨k1, h5⟩, if_neg (fun h => by omega)]
              · repeat' (first | (with_reducible refine zO_lt ?_) | (with_reducible refine zO_gd ?hc ?_; case hc => (first | omega | (simp (disch := omega) only [zst_ne, zst_s, zup_eq, zup_ne, Int.toNat_natCast, not_true_eq_false, not_false_eq_true, true_or, or_true, true_and, and_true]; first | done | omega) | with_reducible exact True.intro)) | (with_reducible refine zO_brp ?ha ?hb ?hc ?_; (case ha => (first | omega | (simp (disch := omega) only [zst_ne, zst_s, zup_eq, zup_ne, Int.toNat_natCast, not_true_eq_false, not_false_eq_true, true_or, or_true, true_and, and_true]; first | done | omega) | with_reducible exact True.intro)); (case hb => (first | omega | (simp (disch := omega) only [zst_ne, zst_s, zup_eq, zup_ne, Int.toNat_natCast, not_true_eq_false, not_false_eq_true, true_or, or_true, true_and, and_true]; first | done | omega) | with_reducible exact True.intro)); (case hc => (first | omega | (simp (disch := omega) only [zst_ne, zst_s, zup_eq, zup_ne, Int.toNat_natCast, not_true_eq_false, not_false_eq_true, true_or, or_true, true_and, and_true]; first | done | omega) | with_reducible exact True.intro))) | (with_reducible refine zO_brn ?ha ?hb ?hc ?_; (case ha => (first | omega | (simp (disch := omega) only [zst_ne, zst_s, zup_eq, zup_ne, Int.toNat_natCast, not_true_eq_false, not_false_eq_true, true_or, or_true, true_and, and_true]; first | done | omega) | with_reducible exact True.intro)); (case hb => (first | omega | (simp (disch := omega) only [zst_ne, zst_s, zup_eq, zup_ne, Int.toNat_natCast, not_true_eq_false, not_false_eq_true, true_or, or_true, true_and, and_true]; first | done | omega) | with_reducible exact True.intro)); (case hc => (first | omega | (simp (disch := omega) only [zst_ne, zst_s, zup_eq, zup_ne, Int.toNat_natCast, not_true_eq_false, not_false_eq_true, true_or, or_true, true_and, and_true]; first | done | omega) | with_reducible exact True.intro))) | simp (disch := omega) only [zst_ne, zst_s, zup_eq, zup_ne, Int.toNat_natCast, not_true_eq_false, not_false_eq_true, true_or, or_true, true_and, and_true] | (with_reducible refine zO_br ?ha ?hb (fun _ => ?_) (fun _ => ?_); (case ha => (first | omega | (simp (disch := omega) only [zst_ne, zst_s, zup_eq, zup_ne, Int.toNat_natCast, not_true_eq_false, not_false_eq_true, true_or, or_true, true_and, and_true]; first | done | omega) | with_reducible exact True.intro)); (case hb => (first | omega | (simp (disch := omega) only [zst_ne, zst_s, zup_eq, zup_ne, Int.toNat_natCast, not_true_eq_false, not_false_eq_true, true_or, or_true, true_and, and_true]; first | done | omega) | with_reducible exact True.intro))) | (with_reducible refine zO_ifp ?hc ?_; case hc => (first | omega | (simp (disch := omega) only [zst_ne, zst_s, zup_eq, zup_ne, Int.toNat_natCast, not_true_eq_false, not_false_eq_true, true_or, or_true, true_and, and_true]; first | done | omega) | with_reducible exact True.intro)) | (with_reducible refine zO_ifn ?hc ?_; case hc => (first | omega | (simp (disch := omega) only [zst_ne, zst_s, zup_eq, zup_ne, Int.toNat_natCast, not_true_eq_false, not_false_eq_true, true_or, or_true, true_and, and_true]; first | done | omega) | with_reducible exact True.intro)) | (with_reducible refine zO_somek ?_) | (with_reducible refine zO_inlk ?_) | (with_reducible refine zO_inrk ?_) | (with_reducible refine zO_sp0 ?_) | (with_reducible refine zO_sp1 ?_) | (with_reducible refine zO_sp2 ?_) | (with_reducible refine zO_sp3 ?_) | (with_reducible refine zO_sp4 ?_) | (with_reducible refine zO_b2 ?_) | (with_reducible refine zO_b3 ?_) | (with_reducible refine zO_b4 ?_) | (with_reducible refine zO_bd ?_) | (with_reducible refine zO_b0 ?_) | (with_reducible refine zO_b1 ?_) | fail)
                refine zO_some ?_
                rw [if_neg (fun h => h5 h.2), if_neg (fun h => by omega)]
            · by_cases h5 : p1 ≤ M 16 j
              · repeat' (first | (with_reducible refine zO_lt ?_) | (with_reducible refine zO_gd ?hc ?_; case hc => (first | omega | (simp (disch := omega) only [zst_ne, zst_s, zup_eq, zup_ne, Int.toNat_natCast, not_true_eq_false, not_false_eq_true, true_or, or_true, true_and, and_true]; first | done | omega) | with_reducible exact True.intro)) | (with_reducible refine zO_brp ?ha ?hb ?hc ?_; (case ha => (first | omega | (simp (disch := omega) only [zst_ne, zst_s, zup_eq, zup_ne, Int.toNat_natCast, not_true_eq_false, not_false_eq_true, true_or, or_true, true_and, and_true]; first | done | omega) | with_reducible exact True.intro)); (case hb => (first | omega | (simp (disch := omega) only [zst_ne, zst_s, zup_eq, zup_ne, Int.toNat_natCast, not_true_eq_false, not_false_eq_true, true_or, or_true, true_and, and_true]; first | done | omega) | with_reducible exact True.intro)); (case hc => (first | omega | (simp (disch := omega) only [zst_ne, zst_s, zup_eq, zup_ne, Int.toNat_natCast, not_true_eq_false, not_false_eq_true, true_or, or_true, true_and, and_true]; first | done | omega) | with_reducible exact True.intro))) | (with_reducible refine zO_brn ?ha ?hb ?hc ?_; (case ha => (first | omega | (simp (disch := omega) only [zst_ne, zst_s, zup_eq, zup_ne, Int.toNat_natCast, not_true_eq_false, not_false_eq_true, true_or, or_true, true_and, and_true]; first | done | omega) | with_reducible exact True.intro)); (case hb => (first | omega | (simp (disch := omega) only [zst_ne, zst_s, zup_eq, zup_ne, Int.toNat_natCast, not_true_eq_false, not_false_eq_true, true_or, or_true, true_and, and_true]; first | done | omega) | with_reducible exact True.intro)); (case hc => (first | omega | (simp (disch := omega) only [zst_ne, zst_s, zup_eq, zup_ne, Int.toNat_natCast, not_true_eq_false, not_false_eq_true, true_or, or_true, true_and, and_true]; first | done | omega) | with_reducible exact True.intro))) | simp (disch := omega) only [zst_ne, zst_s, zup_eq, zup_ne, Int.toNat_natCast, not_true_eq_false, not_false_eq_true, true_or, or_true, true_and, and_true] | (with_reducible refine zO_br ?ha ?hb (fun _ => ?_) (fun _ => ?_); (case ha => (first | omega | (simp (disch := omega) only [zst_ne, zst_s, zup_eq, zup_ne, Int.toNat_natCast, not_true_eq_false, not_false_eq_true, true_or, or_true, true_and, and_true]; first | done | omega) | with_reducible exact True.intro)); (case hb => (first | omega | (simp (disch := omega) only [zst_ne, zst_s, zup_eq, zup_ne, Int.toNat_natCast, not_true_eq_false, not_false_eq_true, true_or, or_true, true_and, and_true]; first | done | omega) | with_reducible exact True.intro))) | (with_reducible refine zO_ifp ?hc ?_; case hc => (first | omega | (simp (disch := omega) only [zst_ne, zst_s, zup_eq, zup_ne, Int.toNat_natCast, not_true_eq_false, not_false_eq_true, true_or, or_true, true_and, and_true]; first | done | omega) | with_reducible exact True.intro)) | (with_reducible refine zO_ifn ?hc ?_; case hc => (first | omega | (simp (disch := omega) only [zst_ne, zst_s, zup_eq, zup_ne, Int.toNat_natCast, not_true_eq_false, not_false_eq_true, true_or, or_true, true_and, and_true]; first | done | omega) | with_reducible exact True.intro)) | (with_reducible refine zO_somek ?_) | (with_reducible refine zO_inlk ?_) | (with_reducible refine zO_inrk ?_) | (with_reducible refine zO_sp0 ?_) | (with_reducible refine zO_sp1 ?_) | (with_reducible refine zO_sp2 ?_) | (with_reducible refine zO_sp3 ?_) | (with_reducible refine zO_sp4 ?_) | (with_reducible refine zO_b2 ?_) | (with_reducible refine zO_b3 ?_) | (with_reducible refine zO_b4 ?_) | (with_reducible refine zO_bd ?_) | (with_reducible refine zO_b0 ?_) | (with_reducible refine zO_b1 ?_) | fail)
                refine zO_some ?_
                rw [if_neg (fun h => by omega), if_pos ⟨k1, h5⟩]
              · repeat' (first | (with_reducible refine zO_lt ?_) | (with_reducible refine zO_gd ?hc ?_; case hc => (first | omega | (simp (disch := omega) only [zst_ne, zst_s, zup_eq, zup_ne, Int.toNat_natCast, not_true_eq_false, not_false_eq_true, true_or, or_true, true_and, and_true]; first | done | omega) | with_reducible exact True.intro)) | (with_reducible refine zO_brp ?ha ?hb ?hc ?_; (case ha => (first | omega | (simp (disch := omega) only [zst_ne, zst_s, zup_eq, zup_ne, Int.toNat_natCast, not_true_eq_false, not_false_eq_true, true_or, or_true, true_and, and_true]; first | done | omega) | with_reducible exact True.intro)); (case hb => (first | omega | (simp (disch := omega) only [zst_ne, zst_s, zup_eq, zup_ne, Int.toNat_natCast, not_true_eq_false, not_false_eq_true, true_or, or_true, true_and, and_true]; first | done | omega) | with_reducible exact True.intro)); (case hc => (first | omega | (simp (disch := omega) only [zst_ne, zst_s, zup_eq, zup_ne, Int.toNat_natCast, not_true_eq_false, not_false_eq_true, true_or, or_true, true_and, and_true]; first | done | omega) | with_reducible exact True.intro))) | (with_reducible refine zO_brn ?ha ?hb ?hc ?_; (case ha => (first | omega | (simp (disch := omega) only [zst_ne, zst_s, zup_eq, zup_ne, Int.toNat_natCast, not_true_eq_false, not_false_eq_true, true_or, or_true, true_and, and_true]; first | done | omega) | with_reducible exact True.intro)); (case hb => (first | omega | (simp (disch := omega) only [zst_ne, zst_s, zup_eq, zup_ne, Int.toNat_natCast, not_true_eq_false, not_false_eq_true, true_or, or_true, true_and, and_true]; first | done | omega) | with_reducible exact True.intro)); (case hc => (first | omega | (simp (disch := omega) only [zst_ne, zst_s, zup_eq, zup_ne, Int.toNat_natCast, not_true_eq_false, not_false_eq_true, true_or, or_true, true_and, and_true]; first | done | omega) | with_reducible exact True.intro))) | simp (disch := omega) only [zst_ne, zst_s, zup_eq, zup_ne, Int.toNat_natCast, not_true_eq_false, not_false_eq_true, true_or, or_true, true_and, and_true] | (with_reducible refine zO_br ?ha ?hb (fun _ => ?_) (fun _ => ?_); (case ha => (first | omega | (simp (disch := omega) only [zst_ne, zst_s, zup_eq, zup_ne, Int.toNat_natCast, not_true_eq_false, not_false_eq_true, true_or, or_true, true_and, and_true]; first | done | omega) | with_reducible exact True.intro)); (case hb => (first | omega | (simp (disch := omega) only [zst_ne, zst_s, zup_eq, zup_ne, Int.toNat_natCast, not_true_eq_false, not_false_eq_true, true_or, or_true, true_and, and_true]; first | done | omega) | with_reducible exact True.intro))) | (with_reducible refine zO_ifp ?hc ?_; case hc => (first | omega | (simp (disch := omega) only [zst_ne, zst_s, zup_eq, zup_ne, Int.toNat_natCast, not_true_eq_false, not_false_eq_true, true_or, or_true, true_and, and_true]; first | done | omega) | with_reducible exact True.intro)) | (with_reducible refine zO_ifn ?hc ?_; case hc => (first | omega | (simp (disch := omega) only [zst_ne, zst_s, zup_eq, zup_ne, Int.toNat_natCast, not_true_eq_false, not_false_eq_true, true_or, or_true, true_and, and_true]; first | done | omega) | with_reducible exact True.intro)) | (with_reducible refine zO_somek ?_) | (with_reducible refine zO_inlk ?_) | (with_reducible refine zO_inrk ?_) | (with_reducible refine zO_sp0 ?_) | (with_reducible refine zO_sp1 ?_) | (with_reducible refine zO_sp2 ?_) | (with_reducible refine zO_sp3 ?_) | (with_reducible refine zO_sp4 ?_) | (with_reducible refine zO_b2 ?_) | (with_reducible refine zO_b3 ?_) | (with_reducible refine zO_b4 ?_) | (with_reducible refine zO_bd ?_) | (with_reducible refine zO_b0 ?_) | (with_reducible refine zO_b1 ?_) | fail)
                refine zO_some ?_
                rw [if_neg (fun h => by omega), if_neg (fun h => h5 h.2)]
          · apply zO_get
            dsimp only
            rw [gb_X10_levels_25]
            simp only [n1]
            exact zO_brp (by omega) (by omega) (by omega) (zO_some rfl)
        apply zO_get
        unfold g_X10_levels
        refine zO_b1e tb (zO_brn (by omega) (by omega) (by omega) (zO_b1e tp (zO_brp (by omega) (by omega) (by omega) (zO_b2 (zO_eq hl ?_)))))
        dsimp only
        unfold sLev
        by_cases h5 : (sLv M p1 n).1 ≤ (sLv M p1 n).2
        · rw [if_neg (by omega)]
          refine zO_brp (by omega) (by omega) h5 ?_
          by_cases h6 : p2 = 0
          · exact zO_brn (by omega) (by omega) (by omega) (zO_some (by rw [if_pos h6]))
          · exact zO_brp (by omega) (by omega) h6 (zO_some (by rw [if_neg h6]))
        · rw [if_pos (by omega)]
          exact zO_brn (by omega) (by omega) h5 (zO_some rfl)
      · have hl : zw3 (gb_X11_levels_27 (zKn i) p1 p2 M) zfu 0 99 0 = some ((sLv M p1 n).1, (sLv M p1 n).2) := by
          unfold zw3
          refine zO_up (F := fun t => gb_X11_levels_27 (zKn i) p1 p2 M t.1 t.2.1 t.2.2) (fun j => ((sLv M p1 j).1, (sLv M p1 j).2, (j : Int))) n ?_ ?_ (by omega) 0 (by omega)
          · intro j hj
            obtain ⟨⟨e1, k1⟩, ⟨e2, k3, k4⟩, ⟨e3, k5, k6⟩, e4, k7⟩ := hI.1.lett (l := j) (by omega)
            have hrj := sLv_r hI.1 (age := p1) j (by omega)
            rw [sLv_s]
            rw [e1, e2, e3, e4]
            rw [e1] at k1
            rw [e2] at k3 k4
            rw [e3] at k5 k6
            rw [e4] at k6 k7
            clear e1 e2 e3 e4
            generalize sLv M p1 j = s at *
            apply zO_get
            dsimp only
            rw [gb_X11_levels_27]
            simp only [Int.toNat_natCast, Int.toNat_zero, n2]
            rw [show ((j + 1 : Nat) : Int) = (j : Int) + 1 by omega]
            rcases k1 with k1 | k1
            · by_cases h5 : M 94 j ≤ p1
              · rw [if_pos ⟨k1, h5⟩, if_neg (fun h => by omega)]
                unfold zmax
                repeat' (first | (with_reducible refine zO_lt ?_) | (with_reducible refine zO_gd ?hc ?_; case hc => (first | omega | (simp (disch := omega) only [zst_ne, zst_s, zup_eq, zup_ne, Int.toNat_natCast, not_true_eq_false, not_false_eq_true, true_or, or_true, true_and, and_true]; first | done | omega) | with_reducible exact True.intro)) | (with_reducible refine zO_brp ?ha ?hb ?hc ?_; (case ha => (first | omega | (simp (disch := omega) only [zst_ne, zst_s, zup_eq, zup_ne, Int.toNat_natCast, not_true_eq_false, not_false_eq_true, true_or, or_true, true_and, and_true]; first | done | omega) | with_reducible exact True.intro)); (case hb => (first | omega | (simp (disch := omega) only [zst_ne, zst_s, zup_eq, zup_ne, Int.toNat_natCast, not_true_eq_false, not_false_eq_true, true_or, or_true, true_and, and_true]; first | done | omega) | with_reducible exact True.intro)); (case hc => (first | omega | (simp (disch := omega) only [zst_ne, zst_s, zup_eq, zup_ne, Int.toNat_natCast, not_true_eq_false, not_false_eq_true, true_or, or_true, true_and, and_true]; first | done | omega) | with_reducible exact True.intro))) | (with_reducible refine zO_brn ?ha ?hb ?hc ?_; (case ha => (first | omega | (simp (disch := omega) only [zst_ne, zst_s, zup_eq, zup_ne, Int.toNat_natCast, not_true_eq_false, not_false_eq_true, true_or, or_true, true_and, and_true]; first | done | omega) | with_reducible exact True.intro)); (case hb => (first | omega | (simp (disch := omega) only [zst_ne, zst_s, zup_eq, zup_ne, Int.toNat_natCast, not_true_eq_false, not_false_eq_true, true_or, or_true, true_and, and_true]; first | done | omega) | with_reducible exact True.intro)); (case hc => (first | omega | (simp (disch := omega) only [zst_ne, zst_s, zup_eq, zup_ne, Int.toNat_natCast, not_true_eq_false, not_false_eq_true, true_or, or_true, true_and, and_true]; first | done | omega) | with_reducible exact True.intro))) | simp (disch := omega) only [zst_ne, zst_s, zup_eq, zup_ne, Int.toNat_natCast, not_true_eq_false, not_false_eq_true, true_or, or_true, true_and, and_true] | (with_reducible refine zO_br ?ha ?hb (fun _ => ?_) (fun _ => ?_); (case ha => (first | omega | (simp (disch := omega) only [zst_ne, zst_s, zup_eq, zup_ne, Int.toNat_natCast, not_true_eq_false, not_false_eq_true, true_or, or_true, true_and, and_true]; first | done | omega) | with_reducible exact True.intro)); (case hb => (first | omega | (simp (disch := omega) only [zst_ne, zst_s, zup_eq, zup_ne, Int.toNat_natCast, not_true_eq_false, not_false_eq_true, true_or, or_true, true_and, and_true]; first | done | omega) | with_reducible exact True.intro))) | (with_reducible refine zO_ifp ?hc ?_; case hc => (first | omega | (simp (disch := omega) only [zst_ne, zst_s, zup_eq, zup_ne, Int.toNat_natCast, not_true_eq_false, not_false_eq_true, true_or, or_true, true_and, and_true]; first | done | omega) | with_reducible exact True.intro)) | (with_reducible refine zO_ifn ?hc ?_; case hc => (first | omega | (simp (disch := omega) only [zst_ne, zst_s, zup_eq, zup_ne, Int.toNat_natCast, not_true_eq_false, not_false_eq_true, true_or, or_true, true_and, and_true]; first | done | omega) | with_reducible exact True.intro)) | (with_reducible refine zO_somek ?_) | (with_reducible refine zO_inlk ?_) | (with_reducible refine zO_inrk ?_) | (with_reducible refine zO_sp0 ?_) | (with_reducible refine zO_sp1 ?_) | (with_reducible refine zO_sp2 ?_) | (with_reducible refine zO_sp3 ?_) | (with_reducible refine zO_sp4 ?_) | (with_reducible refine zO_b2 ?_) | (with_reducible refine zO_b3 ?_) | (with_reducible refine zO_b4 ?_) | (with_reducible refine zO_bd ?_) | (with_reducible refine zO_b0 ?_) | (with_reducible refine zO_b1 ?_) | fail)
                · refine zO_some ?_
                  rw [if_neg (by omega)]
                · refine zO_some ?_
                  rw [if_pos (by omega)]
              · rw [if_neg (fun h => h5 h.2), if_neg (fun h => by omega)]
                repeat' (first | (with_reducible refine zO_lt ?_) | (with_reducible refine zO_gd ?hc ?_; case hc => (first | omega | (simp (disch := omega) only [zst_ne, zst_s, zup_eq, zup_ne, Int.toNat_natCast, not_true_eq_false, not_false_eq_true, true_or, or_true, true_and, and_true]; first | done | omega) | with_reducible exact True.intro)) | (with_reducible refine zO_brp ?ha ?hb ?hc ?_; (case ha => (first | omega | (simp (disch := omega) only [zst_ne, zst_s, zup_eq, zup_ne, Int.toNat_natCast, not_true_eq_false, not_false_eq_true, true_or, or_true, true_and, and_true]; first | done | omega) | with_reducible exact True.intro)); (case hb => (first | omega | (simp (disch := omega) only [zst_ne, zst_s, zup_eq, zup_ne, Int.toNat_natCast, not_true_eq_false, not_false_eq_true, true_or, or_true, true_and, and_true]; first | done | omega) | with_reducible exact True.intro)); (case hc => (first | omega | (simp (disch := omega) only [zst_ne, zst_s, zup_eq, zup_ne, Int.toNat_natCast, not_true_eq_false, not_false_eq_true, true_or, or_true, true_and, and_true]; first | done | omega) | with_reducible exact True.intro))) | (with_reducible refine zO_brn ?ha ?hb ?hc ?_; (case ha => (first | omega | (simp (disch := omega) only [zst_ne, zst_s, zup_eq, zup_ne, Int.toNat_natCast, not_true_eq_false, not_false_eq_true, true_or, or_true, true_and, and_true]; first | done | omega) | with_reducible exact True.intro)); (case hb => (first | omega | (simp (disch := omega) only [zst_ne, zst_s, zup_eq, zup_ne, Int.toNat_natCast, not_true_eq_false, not_false_eq_true, true_or, or_true, true_and, and_true]; first | done | omega) | with_reducible exact True.intro)); (case hc => (first | omega | (simp (disch := omega) only [zst_ne, zst_s, zup_eq, zup_ne, Int.toNat_natCast, not_true_eq_false, not_false_eq_true, true_or, or_true, true_and, and_true]; first | done | omega) | with_reducible exact True.intro))) | simp (disch := omega) only [zst_ne, zst_s, zup_eq, zup_ne, Int.toNat_natCast, not_true_eq_false, not_false_eq_true, true_or, or_true, true_and, and_true] | (with_reducible refine zO_br ?ha ?hb (fun _ => ?_) (fun _ => ?_); (case ha => (first | omega | (simp (disch := omega) only [zst_ne, zst_s, zup_eq, zup_ne, Int.toNat_natCast, not_true_eq_false, not_false_eq_true, true_or, or_true, true_and, and_true]; first | done | omega) | with_reducible exact True.intro)); (case hb => (first | omega | (simp (disch := omega) only [zst_ne, zst_s, zup_eq, zup_ne, Int.toNat_natCast, not_true_eq_false, not_false_eq_true, true_or, or_true, true_and, and_true]; first | done | omega) | with_reducible exact True.intro))) | (with_reducible refine zO_ifp ?hc ?_; case hc => (first | omega | (simp (disch := omega) only [zst_ne, zst_s, zup_eq, zup_ne, Int.toNat_natCast, not_true_eq_false, not_false_eq_true, true_or, or_true, true_and, and_true]; first | done | omega) | with_reducible exact True.intro)) | (with_reducible refine zO_ifn ?hc ?_; case hc => (first | omega | (simp (disch := omega) only [zst_ne, zst_s, zup_eq, zup_ne, Int.toNat_natCast, not_true_eq_false, not_false_eq_true, true_or, or_true, true_and, and_true]; first | done | omega) | with_reducible exact True.intro)) | (with_reducible refine zO_somek ?_) | (with_reducible refine zO_inlk ?_) | (with_reducible refine zO_inrk ?_) | (with_reducible refine zO_sp0 ?_) | (with_reducible refine zO_sp1 ?_) | (with_reducible refine zO_sp2 ?_) | (with_reducible refine zO_sp3 ?_) | (with_reducible refine zO_sp4 ?_) | (with_reducible refine zO_b2 ?_) | (with_reducible refine zO_b3 ?_) | (with_reducible refine zO_b4 ?_) | (with_reducible refine zO_bd ?_) | (with_reducible refine zO_b0 ?_) | (with_reducible refine zO_b1 ?_) | fail)
                exact zO_some rfl
            · by_cases h5 : p1 ≤ M 93 j
              · rw [if_neg (fun h => by omega), if_pos ⟨k1, h5⟩]
                unfold zmin
                repeat' (first | (with_reducible refine zO_lt ?_) | (with_reducible refine zO_gd ?hc ?_; case hc => (first | omega | (simp (disch := omega) only [zst_ne, zst_s, zup_eq, zup_ne, Int.toNat_natCast, not_true_eq_false, not_false_eq_true, true_or, or_true, true_and, and_true]; first | done | omega) | with_reducible exact True.intro)) | (with_reducible refine zO_brp ?ha ?hb ?hc ?_; (case ha => (first | omega | (simp (disch := omega) only [zst_ne, zst_s, zup_eq, zup_ne, Int.toNat_natCast, not_true_eq_false, not_false_eq_true, true_or, or_true, true_and, and_true]; first | done | omega) | with_reducible exact True.intro)); (case hb => (first | omega | (simp (disch := omega) only [zst_ne, zst_s, zup_eq, zup_ne, Int.toNat_natCast, not_true_eq_false, not_false_eq_true, true_or, or_true, true_and, and_true]; first | done | omega) | with_reducible exact True.intro)); (case hc => (first | omega | (simp (disch := omega) only [zst_ne, zst_s, zup_eq, zup_ne, Int.toNat_natCast, not_true_eq_false, not_false_eq_true, true_or, or_true, true_and, and_true]; first | done | omega) | with_reducible exact True.intro))) | (with_reducible refine zO_brn ?ha ?hb ?hc ?_; (case ha => (first | omega | (simp (disch := omega) only [zst_ne, zst_s, zup_eq, zup_ne, Int.toNat_natCast, not_true_eq_false, not_false_eq_true, true_or, or_true, true_and, and_true]; first | done | omega) | with_reducible exact True.intro)); (case hb => (first | omega | (simp (disch := omega) only [zst_ne, zst_s, zup_eq, zup_ne, Int.toNat_natCast, not_true_eq_false, not_false_eq_true, true_or, or_true, true_and, and_true]; first | done | omega) | with_reducible exact True.intro)); (case hc => (first | omega | (simp (disch := omega) only [zst_ne, zst_s, zup_eq, zup_ne, Int.toNat_natCast, not_true_eq_false, not_false_eq_true, true_or, or_true, true_and, and_true]; first | done | omega) | with_reducible exact True.intro))) | simp (disch := omega) only [zst_ne, zst_s, zup_eq, zup_ne, Int.toNat_natCast, not_true_eq_false, not_false_eq_true, true_or, or_true, true_and, and_true] | (with_reducible refine zO_br ?ha ?hb (fun _ => ?_) (fun _ => ?_); (case ha => (first | omega | (simp (disch := omega) only [zst_ne, zst_s, zup_eq, zup_ne, Int.toNat_natCast, not_true_eq_false, not_false_eq_true, true_or, or_true, true_and, and_true]; first | done | omega) | with_reducible exact True.intro)); (case hb => (first | omega | (simp (disch := omega) only [zst_ne, zst_s, zup_eq, zup_ne, Int.toNat_natCast, not_true_eq_false, not_false_eq_true, true_or, or_true, true_and, and_true]; first | done | omega) | with_reducible exact True.intro))) | (with_reducible refine zO_ifp ?hc ?_; case hc => (first | omega | (simp (disch := omega) only [zst_ne, zst_s, zup_eq, zup_ne, Int.toNat_natCast, not_true_eq_false, not_false_eq_true, true_or, or_true, true_and, and_true]; first | done | omega) | with_reducible exact True.intro)) | (with_reducible refine zO_ifn ?hc ?_; case hc => (first | omega | (simp (disch := omega) only [zst_ne, zst_s, zup_eq, zup_ne, Int.toNat_natCast, not_true_eq_false, not_false_eq_true, true_or, or_true, true_and, and_true]; first | done | omega) | with_reducible exact True.intro)) | (with_reducible refine zO_somek ?_) | (with_reducible refine zO_inlk ?_) | (with_reducible refine zO_inrk ?_) | (with_reducible refine zO_sp0 ?_) | (with_reducible refine zO_sp1 ?_) | (with_reducible refine zO_sp2 ?_) | (with_reducible refine zO_sp3 ?_) | (with_reducible refine zO_sp4 ?_) | (with_reducible refine zO_b2 ?_) | (with_reducible refine zO_b3 ?_) | (with_reducible refine zO_b4 ?_) | (with_reducible refine zO_bd ?_) | (with_reducible refine zO_b0 ?_) | (with_reducible refine zO_b1 ?_) | fail)
                · refine zO_some ?_
                  rw [if_neg (by omega)]
                · refine zO_some ?_
                  rw [if_pos (by omega)]
              · rw [if_neg (fun h => by omega), if_neg (fun h => h5 h.2)]
                repeat' (first | (with_reducible refine zO_lt ?_) | (with_reducible refine zO_gd ?hc ?_; case hc => (first | omega | (simp (disch := omega) only [zst_ne, zst_s, zup_eq, zup_ne, Int.toNat_natCast, not_true_eq_false, not_false_eq_true, true_or, or_true, true_and, and_true]; first | done | omega) | with_reducible exact True.intro)) | (with_reducible refine zO_brp ?ha ?hb ?hc ?_; (case ha => (first | omega | (simp (disch := omega) only [zst_ne, zst_s, zup_eq, zup_ne, Int.toNat_natCast, not_true_eq_false, not_false_eq_true, true_or, or_true, true_and, and_true]; first | done | omega) | with_reducible exact True.intro)); (case hb => (first | omega | (simp (disch := omega) only [zst_ne, zst_s, zup_eq, zup_ne, Int.toNat_natCast, not_true_eq_false, not_false_eq_true, true_or, or_true, true_and, and_true]; first | done | omega) | with_reducible exact True.intro)); (case hc => (first | omega | (simp (disch := omega) only [zst_ne, zst_s, zup_eq, zup_ne, Int.toNat_natCast, not_true_eq_false, not_false_eq_true, true_or, or_true, true_and, and_true]; first | done | omega) | with_reducible exact True.intro))) | (with_reducible refine zO_brn ?ha ?hb ?hc ?_; (case ha => (first | omega | (simp (disch := omega) only [zst_ne, zst_s, zup_eq, zup_ne, Int.toNat_natCast, not_true_eq_false, not_false_eq_true, true_or, or_true, true_and, and_true]; first | done | omega) | with_reducible exact True.intro)); (case hb => (first | omega | (simp (disch := omega) only [zst_ne, zst_s, zup_eq, zup_ne, Int.toNat_natCast, not_true_eq_false, not_false_eq_true, true_or, or_true, true_and, and_true]; first | done | omega) | with_reducible exact True.intro)); (case hc => (first | omega | (simp (disch := omega) only [zst_ne, zst_s, zup_eq, zup_ne, Int.toNat_natCast, not_true_eq_false, not_false_eq_true, true_or, or_true, true_and, and_true]; first | done | omega) | with_reducible exact True.intro))) | simp (disch := omega) only [zst_ne, zst_s, zup_eq, zup_ne, Int.toNat_natCast, not_true_eq_false, not_false_eq_true, true_or, or_true, true_and, and_true] | (with_reducible refine zO_br ?ha ?hb (fun _ => ?_) (fun _ => ?_); (case ha => (first | omega | (simp (disch := omega) only [zst_ne, zst_s, zup_eq, zup_ne, Int.toNat_natCast, not_true_eq_false, not_false_eq_true, true_or, or_true, true_and, and_true]; first | done | omega) | with_reducible exact True.intro)); (case hb => (first | omega | (simp (disch := omega) only [zst_ne, zst_s, zup_eq, zup_ne, Int.toNat_natCast, not_true_eq_false, not_false_eq_true, true_or, or_true, true_and, and_true]; first | done | omega) | with_reducible exact True.intro))) | (with_reducible refine zO_ifp ?hc ?_; case hc => (first | omega | (simp (disch := omega) only [zst_ne, zst_s, zup_eq, zup_ne, Int.toNat_natCast, not_true_eq_false, not_false_eq_true, true_or, or_true, true_and, and_true]; first | done | omega) | with_reducible exact True.intro)) | (with_reducible refine zO_ifn ?hc ?_; case hc => (first | omega | (simp (disch := omega) only [zst_ne, zst_s, zup_eq, zup_ne, Int.toNat_natCast, not_true_eq_false, not_false_eq_true, true_or, or_true, true_and, and_true]; first | done | omega) | with_reducible exact True.intro)) | (with_reducible refine zO_somek ?_) | (with_reducible refine zO_inlk ?_) | (with_reducible refine zO_inrk ?_) | (with_reducible refine zO_sp0 ?_) | (with_reducible refine zO_sp1 ?_) | (with_reducible refine zO_sp2 ?_) | (with_reducible refine zO_sp3 ?_) | (with_reducible refine zO_sp4 ?_) | (with_reducible refine zO_b2 ?_) | (with_reducible refine zO_b3 ?_) | (with_reducible refine zO_b4 ?_) | (with_reducible refine zO_bd ?_) | (with_reducible refine zO_b0 ?_) | (with_reducible refine zO_b1 ?_) | fail)
                exact zO_some rfl
          · apply zO_get
            dsimp only
            rw [gb_X11_levels_27]
            simp only [Int.toNat_zero, n2]
            exact zO_gd (by omega) (zO_brp (by omega) (by omega) (by omega) (zO_some rfl))
        apply zO_get
        unfold g_X11_levels
        refine zO_b1e tb' (zO_brn (by omega) (by omega) (by omega) (zO_b1e tp' (zO_brp (by omega) (by omega) (by omega) (zO_b2 (zO_eq hl ?_)))))
        dsimp only
        unfold sLev
        by_cases h5 : (sLv M p1 n).1 ≤ (sLv M p1 n).2
        · rw [if_neg (by omega)]
          refine zO_brp (by omega) (by omega) h5 ?_
          by_cases h6 : p2 = 0
          · exact zO_brn (by omega) (by omega) (by omega) (zO_some (by rw [if_pos h6]))
          · exact zO_brp (by omega) (by omega) h6 (zO_some (by rw [if_neg h6]))
        · rw [if_pos (by omega)]
          exact zO_brn (by omega) (by omega) h5 (zO_some rfl)
    · obtain ⟨tp, tp'⟩ := t_part_n (k := zKn i) (M := M) h2 hp
      refine ⟨-1, ?_, ?_⟩
      · apply zO_get
        unfold g_X10_levels
        exact zO_b1e tb (zO_brn (by omega) (by omega) (by omega) (zO_b1e tp (zO_brn (by omega) (by omega) (by omega) (zO_some rfl))))
      · apply zO_get
        unfold g_X11_levels
        exact zO_b1e tb' (zO_brn (by omega) (by omega) (by omega) (zO_b1e tp' (zO_brn (by omega) (by omega) (by omega) (zO_some rfl))))
  · obtain ⟨tb, tb'⟩ := t_age_n (k := zKn i) (M := M) h1 ha
    refine ⟨-1, ?_, ?_⟩
    · apply zO_get
      unfold g_X10_levels
      exact zO_b1e tb (zO_brp (by omega) (by omega) (by omega) (zO_some rfl))
    · apply zO_get
      unfold g_X11_levels
      exact zO_b1e tb' (zO_brp (by omega) (by omega) (by omega) (zO_some rfl))
/-! fits -/
def zFt (E : zE) (M : zM) (l : Nat) (a : Nat) : Bool := if M 14 l = 1 then decide (eL E a < M 15 l) else decide (M 15 l ≤ eH E a)
def sFt (E : zE) (M : zM) (l : Nat) : Bool := decide (zfst (zFt E M l) ((M 17 l).toNat + 1 - (M 16 l).toNat) (M 16 l).toNat < (M 17 l).toNat + 1)
theorem sFt_t {E : zE} {M : zM} {l j : Nat} (h1 : (M 16 l).toNat ≤ j) (h2 : j < (M 17 l).toNat + 1) (h : zFt E M l j = true) (h3 : ∀ x, (M 16 l).toNat ≤ x → x < j → ¬ zFt E M l x = true) : sFt E M l = true := by
  have e : zfst (zFt E M l) ((M 17 l).toNat + 1 - (M 16 l).toNat) (M 16 l).toNat = j := zfst_at _ _ j h1 (by omega) h h3
  unfold sFt
  rw [e]
  exact decide_eq_true h2
theorem sFt_f {E : zE} {M : zM} {l : Nat} (h0 : (M 16 l).toNat ≤ (M 17 l).toNat) (h3 : ∀ x, (M 16 l).toNat ≤ x → x < (M 17 l).toNat + 1 → ¬ zFt E M l x = true) : sFt E M l = false := by
  have e : zfst (zFt E M l) ((M 17 l).toNat + 1 - (M 16 l).toNat) (M 16 l).toNat = (M 16 l).toNat + ((M 17 l).toNat + 1 - (M 16 l).toNat) := zfst_no _ _ (fun x a b => h3 x a (by omega))
  unfold sFt
  rw [e]
  exact decide_eq_false (by omega)
theorem g10_fit {i L : Nat} {M : zM} {E : zE} {l : Nat} (hs : zSt i L M E) (hl : l < 40) : g_X10_letterFits (zKn i) l M = some (zb01 (sFt E M l)) := by
  obtain ⟨⟨_, k1⟩, ⟨_, k3, k4⟩, ⟨_, k5, k6⟩, _, k7⟩ := hs.lett hl
  have l1 := hs.law.1
  have l23 : ztag (zKn i) L = 4 ∧ L ≠ 0 := ⟨hs.law.2.1, hs.law.2.2.1⟩
  have q67 : zfr (zKn i) L 8 = L + 6 ∧ zfr (zKn i) L 9 = L + 7 := ⟨(zQL (i := i) hs.law.2.2.2).2.2.2.2.2.1, (zQL (i := i) hs.law.2.2.2).2.2.2.2.2.2.1⟩
  have h5 := hs.2.1.2.2.2.2.1
  have hE := hs.1.2.1
  obtain ⟨t, ht⟩ : ∃ t : Int, t = (if M 14 l = 1 then 1 else 0) := ⟨_, rfl⟩
  have ht' : zbr (M 14 l) 1 (¬ M 14 l = 1) (some (0 : Int)) (some 1) = some t := by
    unfold zbr
    rw [if_pos ⟨by omega, by omega⟩]
    by_cases h : M 14 l = 1
    · rw [if_neg (by omega), ht, if_pos h]
    · rw [if_pos h, ht, if_neg h]
  have hbody : ∀ j : Nat, j < (M 17 l).toNat + 1 → gb_X10_letterFits_40 (zKn i) l (M 15 l) t M (j : Int) = some (if zFt E M l j = true then .inr (.inr 1) else .inl ((j + 1 : Nat) : Int)) := by
    intro j h7
    have hj := h5 j (by omega)
    have hr := hE j (by omega)
    apply zO_get
    rw [gb_X10_letterFits_40]
    simp only [Int.toNat_natCast, l1]
    unfold zFt
    refine zO_gd (by omega) (zO_brn (by omega) (by omega) (by omega) ?_)
    rw [show ((j + 1 : Nat) : Int) = (j : Int) + 1 by omega]
    by_cases h8 : M 14 l = 1
    · rw [if_pos h8] at ht ⊢
      refine zO_b1 (zO_brn (by omega) (by omega) (by omega) (zO_gd l23 (zO_lt (zO_gd (by omega) ?_))))
      rw [q67.1]
      by_cases h9 : eL E j < M 15 l
      · rw [decide_eq_true h9]
        exact zO_brn (by omega) (by omega) (by omega) (zO_some (zO_brn (by omega) (by omega) (by omega) (zO_some rfl)))
      · rw [decide_eq_false h9]
        exact zO_brp (by omega) (by omega) (by omega) (zO_some (zO_brp (by omega) (by omega) (by omega) (zO_lt (zO_some rfl))))
    · rw [if_neg h8] at ht ⊢
      refine zO_b1 (zO_brp (by omega) (by omega) (by omega) (zO_gd l23 (zO_lt (zO_gd (by omega) ?_))))
      rw [q67.2]
      by_cases h9 : M 15 l ≤ eH E j
      · rw [decide_eq_true h9]
        exact zO_brn (by omega) (by omega) (by omega) (zO_some (zO_brn (by omega) (by omega) (by omega) (zO_some rfl)))
      · rw [decide_eq_false h9]
        exact zO_brp (by omega) (by omega) (by omega) (zO_some (zO_brp (by omega) (by omega) (by omega) (zO_lt (zO_some rfl))))
  apply zO_get
  unfold g_X10_letterFits
  simp only [Int.toNat_natCast]
  refine zO_gd (by omega) (zO_lt (zO_gd (by omega) (zO_b1e ht' (zO_gd (by omega) (zO_lt (zO_sp0 ?_))))))
  unfold zw1
  have hf := zO_find (F := fun x => gb_X10_letterFits_40 (zKn i) l (M 15 l) t M x) ((M 17 l).toNat + 1) (fun j => zFt E M l j = true) (fun _ => (Sum.inr 1 : Unit ⊕ Int)) (t := Sum.inl ()) (fun j hj hn => by rw [hbody j hj, if_neg hn]) (fun j hj hn => by rw [hbody j hj, if_pos hn]) (by
    apply zO_get
    rw [gb_X10_letterFits_40]
    simp only [Int.toNat_natCast]
    exact zO_gd (by omega) (zO_brp (by omega) (by omega) (by omega) (zO_some rfl))) (by omega) (M 16 l).toNat (by omega)
  rw [show (((M 16 l).toNat : Nat) : Int) = M 16 l by omega] at hf
  refine zO_mono hf ?_
  rintro u (⟨j, j1, j2, j3, j4, rfl⟩ | ⟨j1, rfl⟩)
  · refine show zO (some (1 : Int)) _ from zO_some ?_
    rw [sFt_t j1 j2 j3 j4]; rfl
  · refine show zO (some (0 : Int)) _ from zO_some ?_
    rw [sFt_f (by omega) j1]; rfl
theorem g11_fit {i L : Nat} {M : zM} {E : zE} {l : Nat} (hs : zSt i L M E) (hl : l < 40) : zO (g_X11_doesFit (zKn i) l M) (fun r => r.2 = zb01 (sFt E M l) ∧ zQm M r.1) := by
  obtain ⟨⟨e1, k1⟩, ⟨e2, k3, k4⟩, ⟨e3, k5, k6⟩, e4, k7⟩ := hs.lett hl
  unfold g_X11_doesFit
  simp only [Int.toNat_natCast]
  rw [← e3]
  refine zO_gd (by omega) (zO_lt (zO_sp1 ?_))
  unfold zw2
  refine zO_for (fun s => s.1) ((M 17 l).toNat + 1) (fun j s => zQm M s.2 ∧ (M 16 l).toNat ≤ j ∧ ∀ x, (M 16 l).toNat ≤ x → x < j → ¬ zFt E M l x = true) ?_ ?_ (by omega) (M 16 l).toNat (by omega) (by dsimp only; omega) ⟨zQm.rf, Nat.le_refl _, fun x a b => by omega⟩
  · rintro j ⟨y, M'⟩ hj hc ⟨hq, hfj, hno⟩
    simp only at hc hq hno
    subst hc
    have hs' := hs.qm hq
    have hsea := hs'.2.1.2.2.2.2.2.2.2.2.2.2.1 j M' (by omega) (zla (fun _ _ _ => rfl))
    have hr := hs.1.2.1 j (by omega)
    generalize hB : zst (zst M' 76 48 (eL E j)) 76 49 (eH E j) = B at hsea
    have fB : zFr [76] M' B := by rw [← hB]; exact (zFr_refl.st (by decide)).st (by decide)
    have xB : ∀ x, x ≠ 48 → x ≠ 49 → B 76 x = M' 76 x := fun x h1 h2 => by rw [← hB, zst_ns h2, zst_ns h1]
    have b48 : B 76 48 = eL E j := by rw [← hB]; simp (disch := omega) only [zst_ne, zst_s, zup_eq, zup_ne, Int.toNat_natCast, not_true_eq_false, not_false_eq_true, true_or, or_true, true_and, and_true]
    have b49 : B 76 49 = eH E j := by rw [← hB, zst_eq]
    have qB : zQm M B := hq.tr ⟨fun q a b => fB q (by simp; omega), fun x hx' => xB x (by omega) (by omega)⟩
    have m94 : M' 94 l = M 17 l := by rw [hq.1 94 (by omega) (by omega), e4]
    have b96 : B 96 l = M 14 l := by rw [qB.1 96 (by omega) (by omega), e1]
    have b92 : B 92 l = M 15 l := by rw [qB.1 92 (by omega) (by omega), e2]
    have more : ¬ zFt E M l j = true → ∀ x, (M 16 l).toNat ≤ x → x < j + 1 → ¬ zFt E M l x = true := fun hh x hx hl => by
      rcases Nat.lt_or_ge x j with h1 | h1
      · exact hno x hx h1
      · have : x = j := by omega
        subst this
        exact hh
    have found : zFt E M l j = true → (1 : Int) = zb01 (sFt E M l) := fun hh => by rw [sFt_t hfj hj hh hno]; rfl
    unfold zFt at more found
    dsimp only
    rw [gb_X11_doesFit_7]
    simp only [Int.toNat_natCast, m94]
    refine zO_gd (by omega) (zO_brn (by omega) (by omega) (by omega) (zO_b1e hsea (zO_gd (by omega) ?_)))
    by_cases h8 : M 14 l = 1
    · refine zO_brn (by omega) (by omega) (by omega) (zO_gd (by omega) ?_)
      by_cases h9 : eL E j < M 15 l
      · exact zO_brn (by omega) (by omega) (by omega) (zO_inr (zO_some ⟨found (by rw [if_pos h8]; exact decide_eq_true h9), qB⟩))
      · exact zO_brp (by omega) (by omega) (by omega) (zO_lt (zO_inl ⟨by dsimp only; omega, qB, by omega, by
          have := more (by rw [if_pos h8, decide_eq_false h9]; decide)
          unfold zFt
          exact this⟩))
    · refine zO_brp (by omega) (by omega) (by omega) (zO_gd (by omega) ?_)
      by_cases h9 : M 15 l ≤ eH E j
      · exact zO_brn (by omega) (by omega) (by omega) (zO_inr (zO_some ⟨found (by rw [if_neg h8]; exact decide_eq_true h9), qB⟩))
      · exact zO_brp (by omega) (by omega) (by omega) (zO_lt (zO_inl ⟨by dsimp only; omega, qB, by omega, by
          have := more (by rw [if_neg h8, decide_eq_false h9]; decide)
          unfold zFt
          exact this⟩))
  · rintro ⟨y, M'⟩ hc ⟨hq, hfj, hno⟩
    simp only at hc hq hno
    subst hc
    have m94 : M' 94 l = M 17 l := by rw [hq.1 94 (by omega) (by omega), e4]
    dsimp only
    rw [gb_X11_doesFit_7]
    simp only [Int.toNat_natCast, m94]
    refine zO_gd (by omega) (zO_brp (by omega) (by omega) (by omega) (zO_inr (zO_some ⟨?_, hq⟩)))
    rw [sFt_f (by omega) hno]; rfl
def sFits (E : zE) (M : zM) (k : Int) (n : Nat) : Int := if k = 0 then (if zfst (fun l => !sFt E M l) n 0 < n then (zfst (fun l => !sFt E M l) n 0 : Int) else -1) else zCt (sFt E M) n
theorem zb01_r {b : Bool} : 0 ≤ zb01 b ∧ zb01 b ≤ 1 := by unfold zb01; split <;> omega
theorem p_fits {i L : Nat} {M : zM} {E : zE} {p1 : Int} (hI : zInv i L M E) (h1 : zr p1) : zP1 i L E (g_X10_fits (zKn i) p1) (g_X11_fits (zKn i) p1) M := by
  obtain ⟨n, n1, n2, n3⟩ := hI.1.letn
  by_cases hk : -1 ≤ p1 ∧ p1 ≤ 0
  · have at0 : ∀ j, j < n → sFt E M j = false → (∀ l, l < j → sFt E M l = true) → p1 = 0 → sFits E M p1 n = j := by
      intro j hj hf hall h0
      have e : zfst (fun l => !sFt E M l) n 0 = j := zfst_at n 0 j (by omega) (by omega) (by rw [hf]; rfl) (fun l _ hl => by rw [hall l hl]; decide)
      unfold sFits
      rw [if_pos h0, e, if_pos hj]
    have no0 : (∀ l, l < n → sFt E M l = true) → p1 = 0 → sFits E M p1 n = -1 := by
      intro hall h0
      have e : zfst (fun l => !sFt E M l) n 0 = 0 + n := zfst_no n 0 (fun l _ hl => by rw [hall l (by omega)]; decide)
      unfold sFits
      rw [if_pos h0, e, if_neg (by omega)]
    refine zP1_of (sFits E M p1 n) hI ?_ ?_
    · apply zO_get
      unfold g_X10_fits
      refine zO_sp0 ?_
      have start : zO (zbr p1 (-1) (p1 = -1) (some (Sum.inl () : Unit ⊕ Int)) (zbr p1 0 (p1 = 0) (some (Sum.inl ())) (some (Sum.inr (-1))))) (fun u => u = Sum.inl ()) := by
        by_cases h : p1 = -1
        · exact zO_brp (by omega) (by omega) h (zO_some rfl)
        · exact zO_brn (by omega) (by omega) h (zO_brp (by omega) (by omega) (by omega) (zO_some rfl))
      refine zO_mono start ?_
      rintro u rfl
      refine show zO _ _ from zO_sp1 ?_
      unfold zw2
      refine zO_for (fun t => t.2) n (fun j t => t.1 = zCt (sFt E M) j ∧ (p1 = 0 → ∀ l, l < j → sFt E M l = true)) ?_ ?_ (by omega) 0 (by omega) rfl (by dsimp only; exact ⟨rfl, fun _ l hl => by omega⟩)
      · rintro j ⟨y2, y3⟩ hj hc ⟨hy, hall⟩
        simp only at hc hy hall
        subst hc
        have hf := g10_fit hI.1 (l := j) (by omega)
        have hb := zb01_r (b := sFt E M j)
        dsimp only
        rw [gb_X10_fits_15]
        refine zO_brn (by omega) (by omega) (by omega) (zO_b1e hf ?_)
        cases hs : sFt E M j
        · refine zO_brp (by decide) (by omega) rfl ?_
          by_cases h0 : p1 = 0
          · refine zO_brn (by omega) (by omega) (by omega) (zO_inr (zO_some ?_))
            exact (at0 j hj hs (hall h0) h0).symm
          · refine zO_brp (by omega) (by omega) h0 (zO_lt (zO_inl ⟨by dsimp only; omega, ?_, fun h => absurd h h0⟩))
            dsimp only
            rw [hy]
            unfold zCt
            rw [zsum_s, hs]
            exact (Int.add_zero _).symm
        · refine zO_brn (by decide) (by omega) (by decide) (zO_lt (zO_lt (zO_inl ⟨by dsimp only; omega, ?_, fun h l hl => ?_⟩)))
          · dsimp only
            rw [hy]
            unfold zCt
            rw [zsum_s, hs]
            rfl
          · rcases Nat.lt_or_ge l j with h2 | h2
            · exact hall h l h2
            · have : l = j := by omega
              subst this
              exact hs
      · rintro ⟨y2, y3⟩ hc ⟨hy, hall⟩
        simp only at hc hy hall
        subst hc
        dsimp only
        rw [gb_X10_fits_15]
        refine zO_brp (by omega) (by omega) (by omega) (zO_inr (show zO _ _ from ?_))
        by_cases h0 : p1 = 0
        · exact zO_brp (by omega) (by omega) (by omega) (zO_some (no0 (hall h0) h0).symm)
        · refine zO_brn (by omega) (by omega) (by omega) (zO_some ?_)
          unfold sFits
          rw [if_neg h0]
          exact hy
    · have tm := t_in (k := zKn i) (M := M) (a := p1) (b := -1) (c := 0) h1 ⟨by omega, by omega⟩ ⟨by omega, by omega⟩ hk
      unfold g_X11_fits
      refine zO_b1e tm (zO_brp (by omega) (by omega) (by omega) (zO_sp2 ?_))
      unfold zw3
      refine zO_for (fun t => t.2.1) n (fun j t => t.1 = zCt (sFt E M) j ∧ zQm M t.2.2 ∧ (p1 = 0 → ∀ l, l < j → sFt E M l = true)) ?_ ?_ (by omega) 0 (by omega) rfl (by dsimp only; exact ⟨rfl, zQm.rf, fun _ l hl => by omega⟩)
      · rintro j ⟨y2, y3, M'⟩ hj hc ⟨hy, hq, hall⟩
        simp only at hc hy hq hall
        subst hc
        have m81 : M' 81 0 = (n : Int) := by rw [hq.1 81 (by omega) (by omega)]; exact n2
        have hft : sFt E M' j = sFt E M j := by
          unfold sFt zFt
          rw [hq.1 14 (by omega) (by omega), hq.1 15 (by omega) (by omega), hq.1 16 (by omega) (by omega), hq.1 17 (by omega) (by omega)]
        have hf := g11_fit (hI.1.qm hq) (l := j) (by omega)
        rw [hft] at hf
        dsimp only
        rw [gb_X11_fits_15]
        simp only [Int.toNat_zero, m81]
        refine zO_gd (by omega) (zO_brn (by omega) (by omega) (by omega) (zO_bdq hf ?_))
        rintro B v ⟨bv, qB⟩
        dsimp only at bv qB
        rw [bv]
        cases hs : sFt E M j
        · refine zO_sp0 (zO_brn (by decide) (by omega) (by decide) ?_)
          by_cases h0 : p1 = 0
          · refine zO_brn (by omega) (by omega) (by omega) (zO_inrk (zO_inr (zO_some ⟨?_, hq.tr qB⟩)))
            exact (at0 j hj hs (hall h0) h0).symm
          · refine zO_brp (by omega) (by omega) h0 (zO_inlk (zO_brp (by decide) (by omega) rfl (zO_lt (zO_lt (zO_inl ⟨by dsimp only; omega, ?_, hq.tr qB, fun h => absurd h h0⟩)))))
            dsimp only
            rw [hy]
            unfold zCt
            rw [zsum_s, hs]
            rfl
        · refine zO_sp0 (zO_brp (by decide) (by omega) (by decide) (zO_inlk (zO_brn (by decide) (by omega) (by decide) (zO_lt (zO_lt (zO_inl ⟨by dsimp only; omega, ?_, hq.tr qB, fun h l hl => ?_⟩))))))
          · dsimp only
            rw [hy]
            unfold zCt
            rw [zsum_s, hs]
            rfl
          · rcases Nat.lt_or_ge l j with h2 | h2
            · exact hall h l h2
            · have : l = j := by omega
              subst this
              exact hs
      · rintro ⟨y2, y3, M'⟩ hc ⟨hy, hq, hall⟩
        simp only at hc hy hq hall
        subst hc
        have m81 : M' 81 0 = (n : Int) := by rw [hq.1 81 (by omega) (by omega)]; exact n2
        dsimp only
        rw [gb_X11_fits_15]
        simp only [Int.toNat_zero, m81]
        refine zO_gd (by omega) (zO_brp (by omega) (by omega) (by omega) (zO_inr (show zO _ _ from ?_)))
        by_cases h0 : p1 = 0
        · exact zO_brn (by omega) (by omega) (by omega) (zO_some ⟨(no0 (hall h0) h0).symm, hq⟩)
        · refine zO_brp (by omega) (by omega) (by omega) (zO_some ⟨?_, hq⟩)
          unfold sFits
          rw [if_neg h0]
          exact hy
  · refine zP1_of (-1) hI ?_ ?_
    · apply zO_get
      unfold g_X10_fits
      exact zO_sp0 (zO_brn (by omega) (by omega) (by omega) (zO_brn (by omega) (by omega) (by omega) (zO_inrk (zO_some rfl))))
    · have tm := t_in_n (k := zKn i) (M := M) (a := p1) (b := -1) (c := 0) h1 ⟨by omega, by omega⟩ ⟨by omega, by omega⟩ hk
      unfold g_X11_fits
      exact zO_b1e tm (zO_brn (by omega) (by omega) (by omega) (zO_some ⟨rfl, zQm.rf⟩))

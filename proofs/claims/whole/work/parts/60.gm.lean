/-! more of the calculus: going on -/
section zOk
variable {α β γ δ τ σ ρ : Type} {P : τ → Prop}
theorem zO_somek {a : α} {X : α → Option τ} (h : zO (X a) P) : zO (some a) (fun a => zO (X a) P) := ⟨a, rfl, h⟩
theorem zO_inlk {a : α} {X : α → Option τ} {Q : ρ → Prop} (h : zO (X a) P) : zO (some (Sum.inl a)) (zEl (fun a => zO (X a) P) Q) := ⟨_, rfl, h⟩
theorem zO_inrk {r : ρ} {Y : ρ → Option τ} {Q : α → Prop} (h : zO (Y r) P) : zO (some (Sum.inr r)) (zEl Q (fun r => zO (Y r) P)) := ⟨_, rfl, h⟩
theorem zO_sp4 {o : Option ((α × β × γ × δ) ⊕ ρ)} {Y : ρ → Option τ} {X : α → β → γ → δ → Option τ} (h : zO o (zEl (fun a => zO (X a.1 a.2.1 a.2.2.1 a.2.2.2) P) (fun r => zO (Y r) P))) : zO (zsp4 o Y X) P := zO_s1 h
theorem zO_whs {F : σ → Option (σ ⊕ τ)} {n : Nat} {s : σ} (h : zO (F s) (zEl (fun s' => zO (zwh F n s') P) P)) : zO (zwh F (n + 1) s) P := by
  obtain ⟨u, e, hu⟩ := h
  rw [zwh_s, e]
  cases u with
  | inl s' => exact hu
  | inr t => exact ⟨t, rfl, hu⟩
theorem zO_elm {o : Option (α ⊕ ρ)} {I J : α → Prop} {P Q : ρ → Prop} (h : zO o (zEl I P)) (h1 : ∀ a, I a → J a) (h2 : ∀ a, P a → Q a) : zO o (zEl J Q) := zO_mono h (fun _ hu => zEl_mono hu h1 h2)
end zOk
/-! the reference's ground -/
/-- the reference's LAW: how much of each row is in force -/
def zlo (q : Nat) : Nat := if q = 97 then 1 else if q ≤ 103 then 40 else 1000
theorem zla {M M' : zM} (h : ∀ q, 97 ≤ q → q ≤ 107 → M' q = M q) : ∀ q, 97 ≤ q → q ≤ 107 → ∀ j, j < zlo q → M' q j = M q j := fun q a b j _ => by rw [h q a b]
def zLm (i : Nat) (M : zM) (F : Int → (Nat → Int) → Int → Int) : Prop := ∀ (kind other : Int) (M' : zM), (kind = 1 ∨ kind = 2 ∨ kind = 3 ∨ kind = 4) → (∀ q, 97 ≤ q → q ≤ 107 → ∀ j, j < zlo q → M' q j = M q j) → (∀ j, j < 7 → 0 ≤ M' 111 j ∧ M' 111 j ≤ 1000) → zO (g_X11_first (zKn i) kind other M') (fun r => r.2 = F kind (M' 111) other ∧ zFr [112] M' r.1)
theorem zLm.fr {i : Nat} {M M' : zM} {F : Int → (Nat → Int) → Int → Int} (h : zLm i M F) (h1 : ∀ q, 97 ≤ q → q ≤ 107 → M' q = M q) : zLm i M' F := fun kind other M'' hk e hr => h kind other M'' hk (fun q a b j hj => (e q a b j hj).trans (zla h1 q a b j hj)) hr
theorem f11_held {k : zK} {v : Int} {M : zM} (h : zr v) : f_X11_heldTo99 k v M = some (zmin 99 v) := by
  unfold f_X11_heldTo99 zbr zmin
  repeat' split
  all_goals first | rfl | omega | (congr 1; omega)
theorem g11_low {k : zK} {c : Int} {M : zM} (hc : 0 ≤ c ∧ c < 256) (h : zr (M 82 c.toNat + M 113 c.toNat)) : g_X11_lowOf k c M = some (zmin 99 (M 82 c.toNat + M 113 c.toNat)) := by
  unfold g_X11_lowOf
  rw [zgd_p (by omega), zgd_p (by omega), f11_held h]
  rfl
theorem g11_high {k : zK} {c : Int} {M : zM} (hc : 0 ≤ c ∧ c < 256) (h : zr (M 83 c.toNat + M 113 c.toNat)) : g_X11_highOf k c M = some (zmin 99 (M 83 c.toNat + M 113 c.toNat)) := by
  unfold g_X11_highOf
  rw [zgd_p (by omega), zgd_p (by omega), f11_held h]
  rfl
/-- seven zeros -/
theorem g11_asks0 {k : zK} {l : Int} {M : zM} : zw2 (gb_X11_findGround_11 k l) zfu 0 M = some (fun a b => if a = 111 ∧ b < 7 then 0 else M a b) := by
  have h := zO_up (F := fun t => gb_X11_findGround_11 k l t.1 t.2) (fun j => ((j : Int), (fun a b => if a = 111 ∧ b < j then 0 else M a b))) 7 (t := (fun a b => if a = 111 ∧ b < 7 then 0 else M a b)) ?_ ?_ (by omega) 0 (Nat.zero_le _)
  · simpa [zw2] using h
  · intro j hj
    apply zO_get
    unfold gb_X11_findGround_11
    dsimp only
    repeat' (first | (with_reducible refine zO_lt ?_) | (with_reducible refine zO_gd ?hc ?_; case hc => (first | omega | (simp (disch := omega) only [zst_ne, zst_s, zup_eq, zup_ne, Int.toNat_natCast, not_true_eq_false, not_false_eq_true, true_or, or_true, true_and, and_true]; first | done | omega) | with_reducible exact True.intro)) | (with_reducible refine zO_brp ?ha ?hb ?hc ?_; (case ha => (first | omega | (simp (disch := omega) only [zst_ne, zst_s, zup_eq, zup_ne, Int.toNat_natCast, not_true_eq_false, not_false_eq_true, true_or, or_true, true_and, and_true]; first | done | omega) | with_reducible exact True.intro)); (case hb => (first | omega | (simp (disch := omega) only [zst_ne, zst_s, zup_eq, zup_ne, Int.toNat_natCast, not_true_eq_false, not_false_eq_true, true_or, or_true, true_and, and_true]; first | done | omega) | with_reducible exact True.intro)); (case hc => (first | omega | (simp (disch := omega) only [zst_ne, zst_s, zup_eq, zup_ne, Int.toNat_natCast, not_true_eq_false, not_false_eq_true, true_or, or_true, true_and, and_true]; first | done | omega) | with_reducible exact True.intro))) | (with_reducible refine zO_brn ?ha ?hb ?hc ?_; (case ha => (first | omega | (simp (disch := omega) only [zst_ne, zst_s, zup_eq, zup_ne, Int.toNat_natCast, not_true_eq_false, not_false_eq_true, true_or, or_true, true_and, and_true]; first | done | omega) | with_reducible exact True.intro)); (case hb => (first | omega | (simp (disch := omega) only [zst_ne, zst_s, zup_eq, zup_ne, Int.toNat_natCast, not_true_eq_false, not_false_eq_true, true_or, or_true, true_and, and_true]; first | done | omega) | with_reducible exact True.intro)); (case hc => (first | omega | (simp (disch := omega) only [zst_ne, zst_s, zup_eq, zup_ne, Int.toNat_natCast, not_true_eq_false, not_false_eq_true, true_or, or_true, true_and, and_true]; first | done | omega) | with_reducible exact True.intro))) | simp (disch := omega) only [zst_ne, zst_s, zup_eq, zup_ne, Int.toNat_natCast, not_true_eq_false, not_false_eq_true, true_or, or_true, true_and, and_true] | (with_reducible refine zO_br ?ha ?hb (fun _ => ?_) (fun _ => ?_); (case ha => (first | omega | (simp (disch := omega) only [zst_ne, zst_s, zup_eq, zup_ne, Int.toNat_natCast, not_true_eq_false, not_false_eq_true, true_or, or_true, true_and, and_true]; first | done | omega) | with_reducible exact True.intro)); (case hb => (first | omega | (simp (disch := omega) only [zst_ne, zst_s, zup_eq, zup_ne, Int.toNat_natCast, not_true_eq_false, not_false_eq_true, true_or, or_true, true_and, and_true]; first | done | omega) | with_reducible exact True.intro))) | (with_reducible refine zO_ifp ?hc ?_; case hc => (first | omega | (simp (disch := omega) only [zst_ne, zst_s, zup_eq, zup_ne, Int.toNat_natCast, not_true_eq_false, not_false_eq_true, true_or, or_true, true_and, and_true]; first | done | omega) | with_reducible exact True.intro)) | (with_reducible refine zO_ifn ?hc ?_; case hc => (first | omega | (simp (disch := omega) only [zst_ne, zst_s, zup_eq, zup_ne, Int.toNat_natCast, not_true_eq_false, not_false_eq_true, true_or, or_true, true_and, and_true]; first | done | omega) | with_reducible exact True.intro)) | fail)
    refine zO_some ?_
    congr 2
    funext a b
    rw [zst_r]
    by_cases h : a = 111
    · subst h
      by_cases h2 : b = j
      · subst h2; simp
      · rw [if_neg (by omega)]
        by_cases h3 : b < j
        · rw [if_pos ⟨rfl, h3⟩, if_pos ⟨rfl, by omega⟩]
        · rw [if_neg (by omega), if_neg (by omega)]
    · rw [if_neg (by omega), if_neg (by omega), if_neg (by omega)]
  · apply zO_get
    unfold gb_X11_findGround_11
    dsimp only
    repeat' (first | (with_reducible refine zO_lt ?_) | (with_reducible refine zO_gd ?hc ?_; case hc => (first | omega | (simp (disch := omega) only [zst_ne, zst_s, zup_eq, zup_ne, Int.toNat_natCast, not_true_eq_false, not_false_eq_true, true_or, or_true, true_and, and_true]; first | done | omega) | with_reducible exact True.intro)) | (with_reducible refine zO_brp ?ha ?hb ?hc ?_; (case ha => (first | omega | (simp (disch := omega) only [zst_ne, zst_s, zup_eq, zup_ne, Int.toNat_natCast, not_true_eq_false, not_false_eq_true, true_or, or_true, true_and, and_true]; first | done | omega) | with_reducible exact True.intro)); (case hb => (first | omega | (simp (disch := omega) only [zst_ne, zst_s, zup_eq, zup_ne, Int.toNat_natCast, not_true_eq_false, not_false_eq_true, true_or, or_true, true_and, and_true]; first | done | omega) | with_reducible exact True.intro)); (case hc => (first | omega | (simp (disch := omega) only [zst_ne, zst_s, zup_eq, zup_ne, Int.toNat_natCast, not_true_eq_false, not_false_eq_true, true_or, or_true, true_and, and_true]; first | done | omega) | with_reducible exact True.intro))) | (with_reducible refine zO_brn ?ha ?hb ?hc ?_; (case ha => (first | omega | (simp (disch := omega) only [zst_ne, zst_s, zup_eq, zup_ne, Int.toNat_natCast, not_true_eq_false, not_false_eq_true, true_or, or_true, true_and, and_true]; first | done | omega) | with_reducible exact True.intro)); (case hb => (first | omega | (simp (disch := omega) only [zst_ne, zst_s, zup_eq, zup_ne, Int.toNat_natCast, not_true_eq_false, not_false_eq_true, true_or, or_true, true_and, and_true]; first | done | omega) | with_reducible exact True.intro)); (case hc => (first | omega | (simp (disch := omega) only [zst_ne, zst_s, zup_eq, zup_ne, Int.toNat_natCast, not_true_eq_false, not_false_eq_true, true_or, or_true, true_and, and_true]; first | done | omega) | with_reducible exact True.intro))) | simp (disch := omega) only [zst_ne, zst_s, zup_eq, zup_ne, Int.toNat_natCast, not_true_eq_false, not_false_eq_true, true_or, or_true, true_and, and_true] | (with_reducible refine zO_br ?ha ?hb (fun _ => ?_) (fun _ => ?_); (case ha => (first | omega | (simp (disch := omega) only [zst_ne, zst_s, zup_eq, zup_ne, Int.toNat_natCast, not_true_eq_false, not_false_eq_true, true_or, or_true, true_and, and_true]; first | done | omega) | with_reducible exact True.intro)); (case hb => (first | omega | (simp (disch := omega) only [zst_ne, zst_s, zup_eq, zup_ne, Int.toNat_natCast, not_true_eq_false, not_false_eq_true, true_or, or_true, true_and, and_true]; first | done | omega) | with_reducible exact True.intro))) | (with_reducible refine zO_ifp ?hc ?_; case hc => (first | omega | (simp (disch := omega) only [zst_ne, zst_s, zup_eq, zup_ne, Int.toNat_natCast, not_true_eq_false, not_false_eq_true, true_or, or_true, true_and, and_true]; first | done | omega) | with_reducible exact True.intro)) | (with_reducible refine zO_ifn ?hc ?_; case hc => (first | omega | (simp (disch := omega) only [zst_ne, zst_s, zup_eq, zup_ne, Int.toNat_natCast, not_true_eq_false, not_false_eq_true, true_or, or_true, true_and, and_true]; first | done | omega) | with_reducible exact True.intro)) | fail)
    exact zO_some rfl
def zFlJ (m : Nat → Int) (c j : Nat) (r : Int) : Prop := (r = -1 ∧ ∀ e, e < j → zbs c (zbw e) = -1 ∨ m c ≤ m (zbs c (zbw e)).toNat) ∨ (∃ d, d < 4 ∧ r = zbs c d ∧ 0 ≤ r ∧ m r.toNat < m c ∧ ∀ e, e < j → zbs c (zbw e) = -1 ∨ m r.toNat < m (zbs c (zbw e)).toNat ∨ (m r.toNat = m (zbs c (zbw e)).toNat ∧ r ≤ zbs c (zbw e)))
theorem zbw_4 {e : Nat} (h : e < 4) : zbw e < 4 := by
  unfold zbw
  repeat' split
  all_goals omega
theorem zFlJ_4 {m : Nat → Int} {c : Nat} {r : Int} (h : zFlJ m c 4 r) : zFlP m c r := by
  have hw : ∀ d, d < 4 → ∃ e, e < 4 ∧ zbw e = d := by
    intro d hd
    rcases (show d = 0 ∨ d = 1 ∨ d = 2 ∨ d = 3 by omega) with rfl | rfl | rfl | rfl
    · exact ⟨2, by decide, by decide⟩
    · exact ⟨0, by decide, by decide⟩
    · exact ⟨1, by decide, by decide⟩
    · exact ⟨3, by decide, by decide⟩
  rcases h with ⟨h1, h2⟩ | ⟨d, h1, h2, h3, h4, h5⟩
  · refine Or.inl ⟨h1, fun d hd => ?_⟩
    obtain ⟨e, he, rfl⟩ := hw d hd
    exact h2 e he
  · refine Or.inr ⟨d, h1, h2, h3, h4, fun d' hd' => ?_⟩
    obtain ⟨e, he, rfl⟩ := hw d' hd'
    exact h5 e he
theorem zFlJ_no {m : Nat → Int} {c j : Nat} {r : Int} (h : zFlJ m c j r) (hb : zbs c (zbw j) = -1 ∨ m c ≤ m (zbs c (zbw j)).toNat ∨ (r ≠ -1 ∧ (m r.toNat < m (zbs c (zbw j)).toNat ∨ (m r.toNat = m (zbs c (zbw j)).toNat ∧ r ≤ zbs c (zbw j))))) : zFlJ m c (j + 1) r := by
  rcases h with ⟨h1, h2⟩ | ⟨d, h1, h2, h3, h4, h5⟩
  · refine Or.inl ⟨h1, fun e he => ?_⟩
    rcases Nat.lt_or_ge e j with h | h
    · exact h2 e h
    · have : e = j := by omega
      subst this
      rcases hb with hb | hb | hb
      · exact Or.inl hb
      · exact Or.inr hb
      · exact absurd h1 hb.1
  · refine Or.inr ⟨d, h1, h2, h3, h4, fun e he => ?_⟩
    rcases Nat.lt_or_ge e j with h | h
    · exact h5 e h
    · have : e = j := by omega
      subst this
      rcases hb with hb | hb | hb
      · exact Or.inl hb
      · exact Or.inr (Or.inl (by omega))
      · exact Or.inr hb.2
theorem zFlJ_yes {m : Nat → Int} {c j : Nat} {r : Int} (hj : j < 4) (h : zFlJ m c j r) (h0 : zbs c (zbw j) ≠ -1) (h1 : m (zbs c (zbw j)).toNat < m c) (h2 : r = -1 ∨ m (zbs c (zbw j)).toNat < m r.toNat ∨ (m (zbs c (zbw j)).toNat = m r.toNat ∧ zbs c (zbw j) < r)) : zFlJ m c (j + 1) (zbs c (zbw j)) := by
  have ho := zbs_o (c := c) (zbw_4 hj)
  refine Or.inr ⟨zbw j, zbw_4 hj, rfl, by omega, h1, fun e he => ?_⟩
  rcases Nat.lt_or_ge e j with h' | h'
  · rcases h with ⟨k1, k2⟩ | ⟨d, k1, k2, k3, k4, k5⟩
    · have := k2 e h'
      omega
    · have := k5 e h'
      omega
  · have : e = j := by omega
    subst this
    exact Or.inr (Or.inr ⟨rfl, Int.le_refl _⟩)
theorem g11_flow_b {k : zK} {c j : Nat} {M : zM} (hc : c < 256) (hj : j < 4) (hm : zMid (M 114)) (h : zFlJ (M 114) c j (M 115 c)) : zO (gb_X11_findGround_117 k c j M) (zEl (fun s => s.1 = ((j + 1 : Nat) : Int) ∧ zFr [115] M s.2 ∧ (∀ x, x ≠ c → s.2 115 x = M 115 x) ∧ zFlJ (M 114) c (j + 1) (s.2 115 c)) (fun _ => False)) := by
  have hb := zbs_or (c := c) (d := zbw j) hc (zbw_4 hj)
  have hr : M 115 c = -1 ∨ (0 ≤ M 115 c ∧ M 115 c < 256) := by
    rcases h with ⟨k1, _⟩ | ⟨d, k1, k2, k3, _, _⟩
    · exact Or.inl k1
    · have := zbs_r (c := c) (d := d) hc
      omega
  have hmc := hm c hc
  unfold gb_X11_findGround_117
  have hbs := f11_besN (k := k) (c := (c : Int)) (d := j) (M := M) ⟨by omega, by omega⟩ hj
  rw [Int.toNat_natCast] at hbs
  simp only [Int.toNat_natCast]
  rcases hb with hb | ⟨b0, b1, b2⟩
  · rw [hb] at hbs
    repeat' (first | (with_reducible refine zO_b1e hbs ?_) | (with_reducible refine zO_lt ?_) | (with_reducible refine zO_gd ?hc ?_; case hc => (first | omega | (simp (disch := omega) only [zst_ne, zst_s, zup_eq, zup_ne, Int.toNat_natCast, not_true_eq_false, not_false_eq_true, true_or, or_true, true_and, and_true]; first | done | omega) | with_reducible exact True.intro)) | (with_reducible refine zO_brp ?ha ?hb ?hc ?_; (case ha => (first | omega | (simp (disch := omega) only [zst_ne, zst_s, zup_eq, zup_ne, Int.toNat_natCast, not_true_eq_false, not_false_eq_true, true_or, or_true, true_and, and_true]; first | done | omega) | with_reducible exact True.intro)); (case hb => (first | omega | (simp (disch := omega) only [zst_ne, zst_s, zup_eq, zup_ne, Int.toNat_natCast, not_true_eq_false, not_false_eq_true, true_or, or_true, true_and, and_true]; first | done | omega) | with_reducible exact True.intro)); (case hc => (first | omega | (simp (disch := omega) only [zst_ne, zst_s, zup_eq, zup_ne, Int.toNat_natCast, not_true_eq_false, not_false_eq_true, true_or, or_true, true_and, and_true]; first | done | omega) | with_reducible exact True.intro))) | (with_reducible refine zO_brn ?ha ?hb ?hc ?_; (case ha => (first | omega | (simp (disch := omega) only [zst_ne, zst_s, zup_eq, zup_ne, Int.toNat_natCast, not_true_eq_false, not_false_eq_true, true_or, or_true, true_and, and_true]; first | done | omega) | with_reducible exact True.intro)); (case hb => (first | omega | (simp (disch := omega) only [zst_ne, zst_s, zup_eq, zup_ne, Int.toNat_natCast, not_true_eq_false, not_false_eq_true, true_or, or_true, true_and, and_true]; first | done | omega) | with_reducible exact True.intro)); (case hc => (first | omega | (simp (disch := omega) only [zst_ne, zst_s, zup_eq, zup_ne, Int.toNat_natCast, not_true_eq_false, not_false_eq_true, true_or, or_true, true_and, and_true]; first | done | omega) | with_reducible exact True.intro))) | simp (disch := omega) only [zst_ne, zst_s, zup_eq, zup_ne, Int.toNat_natCast, not_true_eq_false, not_false_eq_true, true_or, or_true, true_and, and_true] | (with_reducible refine zO_br ?ha ?hb (fun _ => ?_) (fun _ => ?_); (case ha => (first | omega | (simp (disch := omega) only [zst_ne, zst_s, zup_eq, zup_ne, Int.toNat_natCast, not_true_eq_false, not_false_eq_true, true_or, or_true, true_and, and_true]; first | done | omega) | with_reducible exact True.intro)); (case hb => (first | omega | (simp (disch := omega) only [zst_ne, zst_s, zup_eq, zup_ne, Int.toNat_natCast, not_true_eq_false, not_false_eq_true, true_or, or_true, true_and, and_true]; first | done | omega) | with_reducible exact True.intro))) | (with_reducible refine zO_ifp ?hc ?_; case hc => (first | omega | (simp (disch := omega) only [zst_ne, zst_s, zup_eq, zup_ne, Int.toNat_natCast, not_true_eq_false, not_false_eq_true, true_or, or_true, true_and, and_true]; first | done | omega) | with_reducible exact True.intro)) | (with_reducible refine zO_ifn ?hc ?_; case hc => (first | omega | (simp (disch := omega) only [zst_ne, zst_s, zup_eq, zup_ne, Int.toNat_natCast, not_true_eq_false, not_false_eq_true, true_or, or_true, true_and, and_true]; first | done | omega) | with_reducible exact True.intro)) | (with_reducible refine zO_somek ?_) | (with_reducible refine zO_inlk ?_) | (with_reducible refine zO_inrk ?_) | (with_reducible refine zO_sp0 ?_) | (with_reducible refine zO_sp1 ?_) | (with_reducible refine zO_sp2 ?_) | (with_reducible refine zO_sp3 ?_) | (with_reducible refine zO_sp4 ?_) | (with_reducible refine zO_b2 ?_) | (with_reducible refine zO_b3 ?_) | (with_reducible refine zO_b4 ?_) | (with_reducible refine zO_bd ?_) | (with_reducible refine zO_b0 ?_) | (with_reducible refine zO_b1 ?_) | fail)
    exact zO_inl ⟨by omega, zFr_refl, fun _ _ => rfl, zFlJ_no h (Or.inl hb)⟩
  · have hmb := hm (zbs c (zbw j)).toNat (by omega)
    rcases hr with hr | ⟨r0, r1⟩
    · repeat' (first | (with_reducible refine zO_b1e hbs ?_) | (with_reducible refine zO_lt ?_) | (with_reducible refine zO_gd ?hc ?_; case hc => (first | omega | (simp (disch := omega) only [zst_ne, zst_s, zup_eq, zup_ne, Int.toNat_natCast, not_true_eq_false, not_false_eq_true, true_or, or_true, true_and, and_true]; first | done | omega) | with_reducible exact True.intro)) | (with_reducible refine zO_brp ?ha ?hb ?hc ?_; (case ha => (first | omega | (simp (disch := omega) only [zst_ne, zst_s, zup_eq, zup_ne, Int.toNat_natCast, not_true_eq_false, not_false_eq_true, true_or, or_true, true_and, and_true]; first | done | omega) | with_reducible exact True.intro)); (case hb => (first | omega | (simp (disch := omega) only [zst_ne, zst_s, zup_eq, zup_ne, Int.toNat_natCast, not_true_eq_false, not_false_eq_true, true_or, or_true, true_and, and_true]; first | done | omega) | with_reducible exact True.intro)); (case hc => (first | omega | (simp (disch := omega) only [zst_ne, zst_s, zup_eq, zup_ne, Int.toNat_natCast, not_true_eq_false, not_false_eq_true, true_or, or_true, true_and, and_true]; first | done | omega) | with_reducible exact True.intro))) | (with_reducible refine zO_brn ?ha ?hb ?hc ?_; (case ha => (first | omega | (simp (disch := omega) only [zst_ne, zst_s, zup_eq, zup_ne, Int.toNat_natCast, not_true_eq_false, not_false_eq_true, true_or, or_true, true_and, and_true]; first | done | omega) | with_reducible exact True.intro)); (case hb => (first | omega | (simp (disch := omega) only [zst_ne, zst_s, zup_eq, zup_ne, Int.toNat_natCast, not_true_eq_false, not_false_eq_true, true_or, or_true, true_and, and_true]; first | done | omega) | with_reducible exact True.intro)); (case hc => (first | omega | (simp (disch := omega) only [zst_ne, zst_s, zup_eq, zup_ne, Int.toNat_natCast, not_true_eq_false, not_false_eq_true, true_or, or_true, true_and, and_true]; first | done | omega) | with_reducible exact True.intro))) | simp (disch := omega) only [zst_ne, zst_s, zup_eq, zup_ne, Int.toNat_natCast, not_true_eq_false, not_false_eq_true, true_or, or_true, true_and, and_true] | (with_reducible refine zO_br ?ha ?hb (fun _ => ?_) (fun _ => ?_); (case ha => (first | omega | (simp (disch := omega) only [zst_ne, zst_s, zup_eq, zup_ne, Int.toNat_natCast, not_true_eq_false, not_false_eq_true, true_or, or_true, true_and, and_true]; first | done | omega) | with_reducible exact True.intro)); (case hb => (first | omega | (simp (disch := omega) only [zst_ne, zst_s, zup_eq, zup_ne, Int.toNat_natCast, not_true_eq_false, not_false_eq_true, true_or, or_true, true_and, and_true]; first | done | omega) | with_reducible exact True.intro))) | (with_reducible refine zO_ifp ?hc ?_; case hc => (first | omega | (simp (disch := omega) only [zst_ne, zst_s, zup_eq, zup_ne, Int.toNat_natCast, not_true_eq_false, not_false_eq_true, true_or, or_true, true_and, and_true]; first | done | omega) | with_reducible exact True.intro)) | (with_reducible refine zO_ifn ?hc ?_; case hc => (first | omega | (simp (disch := omega) only [zst_ne, zst_s, zup_eq, zup_ne, Int.toNat_natCast, not_true_eq_false, not_false_eq_true, true_or, or_true, true_and, and_true]; first | done | omega) | with_reducible exact True.intro)) | (with_reducible refine zO_somek ?_) | (with_reducible refine zO_inlk ?_) | (with_reducible refine zO_inrk ?_) | (with_reducible refine zO_sp0 ?_) | (with_reducible refine zO_sp1 ?_) | (with_reducible refine zO_sp2 ?_) | (with_reducible refine zO_sp3 ?_) | (with_reducible refine zO_sp4 ?_) | (with_reducible refine zO_b2 ?_) | (with_reducible refine zO_b3 ?_) | (with_reducible refine zO_b4 ?_) | (with_reducible refine zO_bd ?_) | (with_reducible refine zO_b0 ?_) | (with_reducible refine zO_b1 ?_) | fail)
      · refine zO_inl ⟨by omega, zFr_refl.st (by decide), fun x hx => zst_ns hx, ?_⟩
        dsimp only
        rw [zst_eq]
        exact zFlJ_yes hj h (by omega) (by omega) (Or.inl hr)
      · exact zO_inl ⟨by omega, zFr_refl, fun _ _ => rfl, zFlJ_no h (Or.inr (Or.inl (by omega)))⟩
    · have hmr := hm (M 115 c).toNat (by omega)
      repeat' (first | (with_reducible refine zO_b1e hbs ?_) | (with_reducible refine zO_lt ?_) | (with_reducible refine zO_gd ?hc ?_; case hc => (first | omega | (simp (disch := omega) only [zst_ne, zst_s, zup_eq, zup_ne, Int.toNat_natCast, not_true_eq_false, not_false_eq_true, true_or, or_true, true_and, and_true]; first | done | omega) | with_reducible exact True.intro)) | (with_reducible refine zO_brp ?ha ?hb ?hc ?_; (case ha => (first | omega | (simp (disch := omega) only [zst_ne, zst_s, zup_eq, zup_ne, Int.toNat_natCast, not_true_eq_false, not_false_eq_true, true_or, or_true, true_and, and_true]; first | done | omega) | with_reducible exact True.intro)); (case hb => (first | omega | (simp (disch := omega) only [zst_ne, zst_s, zup_eq, zup_ne, Int.toNat_natCast, not_true_eq_false, not_false_eq_true, true_or, or_true, true_and, and_true]; first | done | omega) | with_reducible exact True.intro)); (case hc => (first | omega | (simp (disch := omega) only [zst_ne, zst_s, zup_eq, zup_ne, Int.toNat_natCast, not_true_eq_false, not_false_eq_true, true_or, or_true, true_and, and_true]; first | done | omega) | with_reducible exact True.intro))) | (with_reducible refine zO_brn ?ha ?hb ?hc ?_; (case ha => (first | omega | (simp (disch := omega) only [zst_ne, zst_s, zup_eq, zup_ne, Int.toNat_natCast, not_true_eq_false, not_false_eq_true, true_or, or_true, true_and, and_true]; first | done | omega) | with_reducible exact True.intro)); (case hb => (first | omega | (simp (disch := omega) only [zst_ne, zst_s, zup_eq, zup_ne, Int.toNat_natCast, not_true_eq_false, not_false_eq_true, true_or, or_true, true_and, and_true]; first | done | omega) | with_reducible exact True.intro)); (case hc => (first | omega | (simp (disch := omega) only [zst_ne, zst_s, zup_eq, zup_ne, Int.toNat_natCast, not_true_eq_false, not_false_eq_true, true_or, or_true, true_and, and_true]; first | done | omega) | with_reducible exact True.intro))) | simp (disch := omega) only [zst_ne, zst_s, zup_eq, zup_ne, Int.toNat_natCast, not_true_eq_false, not_false_eq_true, true_or, or_true, true_and, and_true] | (with_reducible refine zO_br ?ha ?hb (fun _ => ?_) (fun _ => ?_); (case ha => (first | omega | (simp (disch := omega) only [zst_ne, zst_s, zup_eq, zup_ne, Int.toNat_natCast, not_true_eq_false, not_false_eq_true, true_or, or_true, true_and, and_true]; first | done | omega) | with_reducible exact True.intro)); (case hb => (first | omega | (simp (disch := omega) only [zst_ne, zst_s, zup_eq, zup_ne, Int.toNat_natCast, not_true_eq_false, not_false_eq_true, true_or, or_true, true_and, and_true]; first | done | omega) | with_reducible exact True.intro))) | (with_reducible refine zO_ifp ?hc ?_; case hc => (first | omega | (simp (disch := omega) only [zst_ne, zst_s, zup_eq, zup_ne, Int.toNat_natCast, not_true_eq_false, not_false_eq_true, true_or, or_true, true_and, and_true]; first | done | omega) | with_reducible exact True.intro)) | (with_reducible refine zO_ifn ?hc ?_; case hc => (first | omega | (simp (disch := omega) only [zst_ne, zst_s, zup_eq, zup_ne, Int.toNat_natCast, not_true_eq_false, not_false_eq_true, true_or, or_true, true_and, and_true]; first | done | omega) | with_reducible exact True.intro)) | (with_reducible refine zO_somek ?_) | (with_reducible refine zO_inlk ?_) | (with_reducible refine zO_inrk ?_) | (with_reducible refine zO_sp0 ?_) | (with_reducible refine zO_sp1 ?_) | (with_reducible refine zO_sp2 ?_) | (with_reducible refine zO_sp3 ?_) | (with_reducible refine zO_sp4 ?_) | (with_reducible refine zO_b2 ?_) | (with_reducible refine zO_b3 ?_) | (with_reducible refine zO_b4 ?_) | (with_reducible refine zO_bd ?_) | (with_reducible refine zO_b0 ?_) | (with_reducible refine zO_b1 ?_) | fail)
      · refine zO_inl ⟨by omega, zFr_refl.st (by decide), fun x hx => zst_ns hx, ?_⟩
        dsimp only
        rw [zst_eq]
        exact zFlJ_yes hj h (by omega) (by omega) (Or.inr (Or.inl (by omega)))
      · exact zO_inl ⟨by omega, zFr_refl, fun _ _ => rfl, zFlJ_no (r := M 115 c) h (Or.inr (Or.inr ⟨by omega, Or.inl (by omega)⟩))⟩
      · exact zO_inl ⟨by omega, zFr_refl, fun _ _ => rfl, zFlJ_no (r := M 115 c) h (Or.inr (Or.inr ⟨by omega, Or.inr ⟨by omega, by omega⟩⟩))⟩
      · refine zO_inl ⟨by omega, zFr_refl.st (by decide), fun x hx => zst_ns hx, ?_⟩
        dsimp only
        rw [zst_eq]
        exact zFlJ_yes hj h (by omega) (by omega) (Or.inr (Or.inr ⟨by omega, by omega⟩))
      · exact zO_inl ⟨by omega, zFr_refl, fun _ _ => rfl, zFlJ_no h (Or.inr (Or.inl (by omega)))⟩
theorem g11_flow {k : zK} {c : Nat} {M : zM} (hc : c < 256) (hm : zMid (M 114)) (h : M 115 c = -1) : zO (zw2 (gb_X11_findGround_117 k c) zfu 0 M) (fun M' => zFr [115] M M' ∧ (∀ x, x ≠ c → M' 115 x = M 115 x) ∧ M' 115 c = sFl (M 114) c) := by
  unfold zw2
  refine zO_for (fun s => s.1) 4 (fun j s => zFr [115] M s.2 ∧ (∀ x, x ≠ c → s.2 115 x = M 115 x) ∧ zFlJ (M 114) c j (s.2 115 c)) ?_ ?_ (by omega) 0 (by omega) rfl ⟨zFr_refl, fun _ _ => rfl, Or.inl ⟨h, fun e he => by omega⟩⟩
  · rintro j ⟨y, M'⟩ hj hc' ⟨hfr, hx, hI⟩
    simp only at hc' hfr hx hI
    subst hc'
    have e114 : M' 114 = M 114 := hfr 114 (by decide)
    refine zO_elm (g11_flow_b hc hj (by dsimp only; rw [e114]; exact hm) (by dsimp only; rw [e114]; exact hI)) ?_ (fun _ h => h.elim)
    rintro ⟨y, M''⟩ ⟨h1, h2, h3, h4⟩
    dsimp only at *
    rw [e114] at h4
    exact ⟨h1, hfr.tr h2, fun x hxc => (h3 x hxc).trans (hx x hxc), h4⟩
  · rintro ⟨y, M'⟩ hc' ⟨hfr, hx, hI⟩
    simp only at hc'
    subst hc'
    unfold gb_X11_findGround_117
    dsimp only
    repeat' (first | (with_reducible refine zO_lt ?_) | (with_reducible refine zO_gd ?hc ?_; case hc => (first | omega | (simp (disch := omega) only [zst_ne, zst_s, zup_eq, zup_ne, Int.toNat_natCast, not_true_eq_false, not_false_eq_true, true_or, or_true, true_and, and_true]; first | done | omega) | with_reducible exact True.intro)) | (with_reducible refine zO_brp ?ha ?hb ?hc ?_; (case ha => (first | omega | (simp (disch := omega) only [zst_ne, zst_s, zup_eq, zup_ne, Int.toNat_natCast, not_true_eq_false, not_false_eq_true, true_or, or_true, true_and, and_true]; first | done | omega) | with_reducible exact True.intro)); (case hb => (first | omega | (simp (disch := omega) only [zst_ne, zst_s, zup_eq, zup_ne, Int.toNat_natCast, not_true_eq_false, not_false_eq_true, true_or, or_true, true_and, and_true]; first | done | omega) | with_reducible exact True.intro)); (case hc => (first | omega | (simp (disch := omega) only [zst_ne, zst_s, zup_eq, zup_ne, Int.toNat_natCast, not_true_eq_false, not_false_eq_true, true_or, or_true, true_and, and_true]; first | done | omega) | with_reducible exact True.intro))) | (with_reducible refine zO_brn ?ha ?hb ?hc ?_; (case ha => (first | omega | (simp (disch := omega) only [zst_ne, zst_s, zup_eq, zup_ne, Int.toNat_natCast, not_true_eq_false, not_false_eq_true, true_or, or_true, true_and, and_true]; first | done | omega) | with_reducible exact True.intro)); (case hb => (first | omega | (simp (disch := omega) only [zst_ne, zst_s, zup_eq, zup_ne, Int.toNat_natCast, not_true_eq_false, not_false_eq_true, true_or, or_true, true_and, and_true]; first | done | omega) | with_reducible exact True.intro)); (case hc => (first | omega | (simp (disch := omega) only [zst_ne, zst_s, zup_eq, zup_ne, Int.toNat_natCast, not_true_eq_false, not_false_eq_true, true_or, or_true, true_and, and_true]; first | done | omega) | with_reducible exact True.intro))) | simp (disch := omega) only [zst_ne, zst_s, zup_eq, zup_ne, Int.toNat_natCast, not_true_eq_false, not_false_eq_true, true_or, or_true, true_and, and_true] | (with_reducible refine zO_br ?ha ?hb (fun _ => ?_) (fun _ => ?_); (case ha => (first | omega | (simp (disch := omega) only [zst_ne, zst_s, zup_eq, zup_ne, Int.toNat_natCast, not_true_eq_false, not_false_eq_true, true_or, or_true, true_and, and_true]; first | done | omega) | with_reducible exact True.intro)); (case hb => (first | omega | (simp (disch := omega) only [zst_ne, zst_s, zup_eq, zup_ne, Int.toNat_natCast, not_true_eq_false, not_false_eq_true, true_or, or_true, true_and, and_true]; first | done | omega) | with_reducible exact True.intro))) | (with_reducible refine zO_ifp ?hc ?_; case hc => (first | omega | (simp (disch := omega) only [zst_ne, zst_s, zup_eq, zup_ne, Int.toNat_natCast, not_true_eq_false, not_false_eq_true, true_or, or_true, true_and, and_true]; first | done | omega) | with_reducible exact True.intro)) | (with_reducible refine zO_ifn ?hc ?_; case hc => (first | omega | (simp (disch := omega) only [zst_ne, zst_s, zup_eq, zup_ne, Int.toNat_natCast, not_true_eq_false, not_false_eq_true, true_or, or_true, true_and, and_true]; first | done | omega) | with_reducible exact True.intro)) | fail)
    exact zO_inr ⟨hfr, hx, sFl_u (zFlJ_4 hI)⟩
theorem g11_wind_b {k : zK} {c j : Nat} {M : zM} (hc : c < 256) (hj : j < 9) (hm : zMid (M 114)) (hw : M 117 c = zsum j (sWd (M 114) c)) : zO (gb_X11_findGround_224 k c j M) (zEl (fun s => s.1 = ((j + 1 : Nat) : Int) ∧ zFr [117] M s.2 ∧ (∀ x, x ≠ c → s.2 117 x = M 117 x) ∧ s.2 117 c = zsum (j + 1) (sWd (M 114) c)) (fun _ => False)) := by
  have hmc := hm c hc
  have w1 := f11_within (k := k) (a := (c : Int) % 16 + (j : Int) % 3 - 1) (b := 0) (c := 15) (M := M) ⟨by omega, by omega⟩ ⟨by omega, by omega⟩ ⟨by omega, by omega⟩
  have w2 := f11_within (k := k) (a := (c : Int) / 16 + (j : Int) / 3 - 1) (b := 0) (c := 15) (M := M) ⟨by omega, by omega⟩ ⟨by omega, by omega⟩ ⟨by omega, by omega⟩
  unfold gb_X11_findGround_224
  by_cases h1 : (0 : Int) ≤ (c : Int) % 16 + (j : Int) % 3 - 1 ∧ (c : Int) % 16 + (j : Int) % 3 - 1 ≤ 15
  · rw [if_pos h1] at w1
    by_cases h2 : (0 : Int) ≤ (c : Int) / 16 + (j : Int) / 3 - 1 ∧ (c : Int) / 16 + (j : Int) / 3 - 1 ≤ 15
    · rw [if_pos h2] at w2
      have ex : (16 * ((c : Int) / 16 + (j : Int) / 3 - 1) + ((c : Int) % 16 + (j : Int) % 3 - 1)).toNat = 16 * (c / 16 + j / 3 - 1) + (c % 16 + j % 3 - 1) := by omega
      have hmx := hm (16 * (c / 16 + j / 3 - 1) + (c % 16 + j % 3 - 1)) (by omega)
      rw [← ex] at hmx
      repeat' (first | (with_reducible refine zO_b1e w1 ?_) | (with_reducible refine zO_b1e w2 ?_) | (with_reducible refine zO_lt ?_) | (with_reducible refine zO_gd ?hc ?_; case hc => (first | omega | (simp (disch := omega) only [zst_ne, zst_s, zup_eq, zup_ne, Int.toNat_natCast, not_true_eq_false, not_false_eq_true, true_or, or_true, true_and, and_true]; first | done | omega) | with_reducible exact True.intro)) | (with_reducible refine zO_brp ?ha ?hb ?hc ?_; (case ha => (first | omega | (simp (disch := omega) only [zst_ne, zst_s, zup_eq, zup_ne, Int.toNat_natCast, not_true_eq_false, not_false_eq_true, true_or, or_true, true_and, and_true]; first | done | omega) | with_reducible exact True.intro)); (case hb => (first | omega | (simp (disch := omega) only [zst_ne, zst_s, zup_eq, zup_ne, Int.toNat_natCast, not_true_eq_false, not_false_eq_true, true_or, or_true, true_and, and_true]; first | done | omega) | with_reducible exact True.intro)); (case hc => (first | omega | (simp (disch := omega) only [zst_ne, zst_s, zup_eq, zup_ne, Int.toNat_natCast, not_true_eq_false, not_false_eq_true, true_or, or_true, true_and, and_true]; first | done | omega) | with_reducible exact True.intro))) | (with_reducible refine zO_brn ?ha ?hb ?hc ?_; (case ha => (first | omega | (simp (disch := omega) only [zst_ne, zst_s, zup_eq, zup_ne, Int.toNat_natCast, not_true_eq_false, not_false_eq_true, true_or, or_true, true_and, and_true]; first | done | omega) | with_reducible exact True.intro)); (case hb => (first | omega | (simp (disch := omega) only [zst_ne, zst_s, zup_eq, zup_ne, Int.toNat_natCast, not_true_eq_false, not_false_eq_true, true_or, or_true, true_and, and_true]; first | done | omega) | with_reducible exact True.intro)); (case hc => (first | omega | (simp (disch := omega) only [zst_ne, zst_s, zup_eq, zup_ne, Int.toNat_natCast, not_true_eq_false, not_false_eq_true, true_or, or_true, true_and, and_true]; first | done | omega) | with_reducible exact True.intro))) | simp (disch := omega) only [zst_ne, zst_s, zup_eq, zup_ne, Int.toNat_natCast, not_true_eq_false, not_false_eq_true, true_or, or_true, true_and, and_true] | (with_reducible refine zO_br ?ha ?hb (fun _ => ?_) (fun _ => ?_); (case ha => (first | omega | (simp (disch := omega) only [zst_ne, zst_s, zup_eq, zup_ne, Int.toNat_natCast, not_true_eq_false, not_false_eq_true, true_or, or_true, true_and, and_true]; first | done | omega) | with_reducible exact True.intro)); (case hb => (first | omega | (simp (disch := omega) only [zst_ne, zst_s, zup_eq, zup_ne, Int.toNat_natCast, not_true_eq_false, not_false_eq_true, true_or, or_true, true_and, and_true]; first | done | omega) | with_reducible exact True.intro))) | (with_reducible refine zO_ifp ?hc ?_; case hc => (first | omega | (simp (disch := omega) only [zst_ne, zst_s, zup_eq, zup_ne, Int.toNat_natCast, not_true_eq_false, not_false_eq_true, true_or, or_true, true_and, and_true]; first | done | omega) | with_reducible exact True.intro)) | (with_reducible refine zO_ifn ?hc ?_; case hc => (first | omega | (simp (disch := omega) only [zst_ne, zst_s, zup_eq, zup_ne, Int.toNat_natCast, not_true_eq_false, not_false_eq_true, true_or, or_true, true_and, and_true]; first | done | omega) | with_reducible exact True.intro)) | (with_reducible refine zO_somek ?_) | (with_reducible refine zO_inlk ?_) | (with_reducible refine zO_inrk ?_) | (with_reducible refine zO_sp0 ?_) | (with_reducible refine zO_sp1 ?_) | (with_reducible refine zO_sp2 ?_) | (with_reducible refine zO_sp3 ?_) | (with_reducible refine zO_sp4 ?_) | (with_reducible refine zO_b2 ?_) | (with_reducible refine zO_b3 ?_) | (with_reducible refine zO_b4 ?_) | (with_reducible refine zO_bd ?_) | (with_reducible refine zO_b0 ?_) | (with_reducible refine zO_b1 ?_) | fail)
      · refine zO_inl ⟨by omega, zFr_refl, fun _ _ => rfl, ?_⟩
        dsimp only
        rw [zsum_s, ← hw]
        unfold sWd
        rw [if_neg (fun h => by rw [← ex] at h; omega)]
        omega
      · refine zO_inl ⟨by omega, zFr_refl.st (by decide), fun x hx => zst_ns (by omega), ?_⟩
        dsimp only
        simp (disch := omega) only [zst_ne, zst_s, zup_eq, zup_ne, Int.toNat_natCast, not_true_eq_false, not_false_eq_true, true_or, or_true, true_and, and_true]
        rw [zsum_s, ← hw]
        unfold sWd
        rw [if_pos ⟨by omega, by omega, by omega, by omega, by rw [← ex]; omega⟩]
    · rw [if_neg h2] at w2
      repeat' (first | (with_reducible refine zO_b1e w1 ?_) | (with_reducible refine zO_b1e w2 ?_) | (with_reducible refine zO_lt ?_) | (with_reducible refine zO_gd ?hc ?_; case hc => (first | omega | (simp (disch := omega) only [zst_ne, zst_s, zup_eq, zup_ne, Int.toNat_natCast, not_true_eq_false, not_false_eq_true, true_or, or_true, true_and, and_true]; first | done | omega) | with_reducible exact True.intro)) | (with_reducible refine zO_brp ?ha ?hb ?hc ?_; (case ha => (first | omega | (simp (disch := omega) only [zst_ne, zst_s, zup_eq, zup_ne, Int.toNat_natCast, not_true_eq_false, not_false_eq_true, true_or, or_true, true_and, and_true]; first | done | omega) | with_reducible exact True.intro)); (case hb => (first | omega | (simp (disch := omega) only [zst_ne, zst_s, zup_eq, zup_ne, Int.toNat_natCast, not_true_eq_false, not_false_eq_true, true_or, or_true, true_and, and_true]; first | done | omega) | with_reducible exact True.intro)); (case hc => (first | omega | (simp (disch := omega) only [zst_ne, zst_s, zup_eq, zup_ne, Int.toNat_natCast, not_true_eq_false, not_false_eq_true, true_or, or_true, true_and, and_true]; first | done | omega) | with_reducible exact True.intro))) | (with_reducible refine zO_brn ?ha ?hb ?hc ?_; (case ha => (first | omega | (simp (disch := omega) only [zst_ne, zst_s, zup_eq, zup_ne, Int.toNat_natCast, not_true_eq_false, not_false_eq_true, true_or, or_true, true_and, and_true]; first | done | omega) | with_reducible exact True.intro)); (case hb => (first | omega | (simp (disch := omega) only [zst_ne, zst_s, zup_eq, zup_ne, Int.toNat_natCast, not_true_eq_false, not_false_eq_true, true_or, or_true, true_and, and_true]; first | done | omega) | with_reducible exact True.intro)); (case hc => (first | omega | (simp (disch := omega) only [zst_ne, zst_s, zup_eq, zup_ne, Int.toNat_natCast, not_true_eq_false, not_false_eq_true, true_or, or_true, true_and, and_true]; first | done | omega) | with_reducible exact True.intro))) | simp (disch := omega) only [zst_ne, zst_s, zup_eq, zup_ne, Int.toNat_natCast, not_true_eq_false, not_false_eq_true, true_or, or_true, true_and, and_true] | (with_reducible refine zO_br ?ha ?hb (fun _ => ?_) (fun _ => ?_); (case ha => (first | omega | (simp (disch := omega) only [zst_ne, zst_s, zup_eq, zup_ne, Int.toNat_natCast, not_true_eq_false, not_false_eq_true, true_or, or_true, true_and, and_true]; first | done | omega) | with_reducible exact True.intro)); (case hb => (first | omega | (simp (disch := omega) only [zst_ne, zst_s, zup_eq, zup_ne, Int.toNat_natCast, not_true_eq_false, not_false_eq_true, true_or, or_true, true_and, and_true]; first | done | omega) | with_reducible exact True.intro))) | (with_reducible refine zO_ifp ?hc ?_; case hc => (first | omega | (simp (disch := omega) only [zst_ne, zst_s, zup_eq, zup_ne, Int.toNat_natCast, not_true_eq_false, not_false_eq_true, true_or, or_true, true_and, and_true]; first | done | omega) | with_reducible exact True.intro)) | (with_reducible refine zO_ifn ?hc ?_; case hc => (first | omega | (simp (disch := omega) only [zst_ne, zst_s, zup_eq, zup_ne, Int.toNat_natCast, not_true_eq_false, not_false_eq_true, true_or, or_true, true_and, and_true]; first | done | omega) | with_reducible exact True.intro)) | (with_reducible refine zO_somek ?_) | (with_reducible refine zO_inlk ?_) | (with_reducible refine zO_inrk ?_) | (with_reducible refine zO_sp0 ?_) | (with_reducible refine zO_sp1 ?_) | (with_reducible refine zO_sp2 ?_) | (with_reducible refine zO_sp3 ?_) | (with_reducible refine zO_sp4 ?_) | (with_reducible refine zO_b2 ?_) | (with_reducible refine zO_b3 ?_) | (with_reducible refine zO_b4 ?_) | (with_reducible refine zO_bd ?_) | (with_reducible refine zO_b0 ?_) | (with_reducible refine zO_b1 ?_) | fail)
      refine zO_inl ⟨by omega, zFr_refl, fun _ _ => rfl, ?_⟩
      dsimp only
      rw [zsum_s, ← hw]
      unfold sWd
      rw [if_neg (fun h => by omega)]
      omega
  · rw [if_neg h1] at w1
    repeat' (first | (with_reducible refine zO_b1e w1 ?_) | (with_reducible refine zO_b1e w2 ?_) | (with_reducible refine zO_lt ?_) | (with_reducible refine zO_gd ?hc ?_; case hc => (first | omega | (simp (disch := omega) only [zst_ne, zst_s, zup_eq, zup_ne, Int.toNat_natCast, not_true_eq_false, not_false_eq_true, true_or, or_true, true_and, and_true]; first | done | omega) | with_reducible exact True.intro)) | (with_reducible refine zO_brp ?ha ?hb ?hc ?_; (case ha => (first | omega | (simp (disch := omega) only [zst_ne, zst_s, zup_eq, zup_ne, Int.toNat_natCast, not_true_eq_false, not_false_eq_true, true_or, or_true, true_and, and_true]; first | done | omega) | with_reducible exact True.intro)); (case hb => (first | omega | (simp (disch := omega) only [zst_ne, zst_s, zup_eq, zup_ne, Int.toNat_natCast, not_true_eq_false, not_false_eq_true, true_or, or_true, true_and, and_true]; first | done | omega) | with_reducible exact True.intro)); (case hc => (first | omega | (simp (disch := omega) only [zst_ne, zst_s, zup_eq, zup_ne, Int.toNat_natCast, not_true_eq_false, not_false_eq_true, true_or, or_true, true_and, and_true]; first | done | omega) | with_reducible exact True.intro))) | (with_reducible refine zO_brn ?ha ?hb ?hc ?_; (case ha => (first | omega | (simp (disch := omega) only [zst_ne, zst_s, zup_eq, zup_ne, Int.toNat_natCast, not_true_eq_false, not_false_eq_true, true_or, or_true, true_and, and_true]; first | done | omega) | with_reducible exact True.intro)); (case hb => (first | omega | (simp (disch := omega) only [zst_ne, zst_s, zup_eq, zup_ne, Int.toNat_natCast, not_true_eq_false, not_false_eq_true, true_or, or_true, true_and, and_true]; first | done | omega) | with_reducible exact True.intro)); (case hc => (first | omega | (simp (disch := omega) only [zst_ne, zst_s, zup_eq, zup_ne, Int.toNat_natCast, not_true_eq_false, not_false_eq_true, true_or, or_true, true_and, and_true]; first | done | omega) | with_reducible exact True.intro))) | simp (disch := omega) only [zst_ne, zst_s, zup_eq, zup_ne, Int.toNat_natCast, not_true_eq_false, not_false_eq_true, true_or, or_true, true_and, and_true] | (with_reducible refine zO_br ?ha ?hb (fun _ => ?_) (fun _ => ?_); (case ha => (first | omega | (simp (disch := omega) only [zst_ne, zst_s, zup_eq, zup_ne, Int.toNat_natCast, not_true_eq_false, not_false_eq_true, true_or, or_true, true_and, and_true]; first | done | omega) | with_reducible exact True.intro)); (case hb => (first | omega | (simp (disch := omega) only [zst_ne, zst_s, zup_eq, zup_ne, Int.toNat_natCast, not_true_eq_false, not_false_eq_true, true_or, or_true, true_and, and_true]; first | done | omega) | with_reducible exact True.intro))) | (with_reducible refine zO_ifp ?hc ?_; case hc => (first | omega | (simp (disch := omega) only [zst_ne, zst_s, zup_eq, zup_ne, Int.toNat_natCast, not_true_eq_false, not_false_eq_true, true_or, or_true, true_and, and_true]; first | done | omega) | with_reducible exact True.intro)) | (with_reducible refine zO_ifn ?hc ?_; case hc => (first | omega | (simp (disch := omega) only [zst_ne, zst_s, zup_eq, zup_ne, Int.toNat_natCast, not_true_eq_false, not_false_eq_true, true_or, or_true, true_and, and_true]; first | done | omega) | with_reducible exact True.intro)) | (with_reducible refine zO_somek ?_) | (with_reducible refine zO_inlk ?_) | (with_reducible refine zO_inrk ?_) | (with_reducible refine zO_sp0 ?_) | (with_reducible refine zO_sp1 ?_) | (with_reducible refine zO_sp2 ?_) | (with_reducible refine zO_sp3 ?_) | (with_reducible refine zO_sp4 ?_) | (with_reducible refine zO_b2 ?_) | (with_reducible refine zO_b3 ?_) | (with_reducible refine zO_b4 ?_) | (with_reducible refine zO_bd ?_) | (with_reducible refine zO_b0 ?_) | (with_reducible refine zO_b1 ?_) | fail)
    refine zO_inl ⟨by omega, zFr_refl, fun _ _ => rfl, ?_⟩
    dsimp only
    rw [zsum_s, ← hw]
    unfold sWd
    rw [if_neg (fun h => by omega)]
    omega
theorem g11_wind {k : zK} {c : Nat} {M : zM} (hc : c < 256) (hm : zMid (M 114)) (h : M 117 c = 0) : zO (zw2 (gb_X11_findGround_224 k c) zfu 0 M) (fun M' => zFr [117] M M' ∧ (∀ x, x ≠ c → M' 117 x = M 117 x) ∧ M' 117 c = sWind (M 114) c) := by
  unfold zw2
  refine zO_for (fun s => s.1) 9 (fun j s => zFr [117] M s.2 ∧ (∀ x, x ≠ c → s.2 117 x = M 117 x) ∧ s.2 117 c = zsum j (sWd (M 114) c)) ?_ ?_ (by omega) 0 (by omega) rfl ⟨zFr_refl, fun _ _ => rfl, h⟩
  · rintro j ⟨y, M'⟩ hj hc' ⟨hfr, hx, hI⟩
    simp only at hc' hfr hx hI
    subst hc'
    have e114 : M' 114 = M 114 := hfr 114 (by decide)
    refine zO_elm (g11_wind_b hc hj (by dsimp only; rw [e114]; exact hm) (by dsimp only; rw [e114]; exact hI)) ?_ (fun _ h => h.elim)
    rintro ⟨y, M''⟩ ⟨h1, h2, h3, h4⟩
    dsimp only at *
    rw [e114] at h4
    exact ⟨h1, hfr.tr h2, fun x hxc => (h3 x hxc).trans (hx x hxc), h4⟩
  · rintro ⟨y, M'⟩ hc' ⟨hfr, hx, hI⟩
    simp only at hc'
    subst hc'
    unfold gb_X11_findGround_224
    dsimp only
    repeat' (first | (with_reducible refine zO_lt ?_) | (with_reducible refine zO_gd ?hc ?_; case hc => (first | omega | (simp (disch := omega) only [zst_ne, zst_s, zup_eq, zup_ne, Int.toNat_natCast, not_true_eq_false, not_false_eq_true, true_or, or_true, true_and, and_true]; first | done | omega) | with_reducible exact True.intro)) | (with_reducible refine zO_brp ?ha ?hb ?hc ?_; (case ha => (first | omega | (simp (disch := omega) only [zst_ne, zst_s, zup_eq, zup_ne, Int.toNat_natCast, not_true_eq_false, not_false_eq_true, true_or, or_true, true_and, and_true]; first | done | omega) | with_reducible exact True.intro)); (case hb => (first | omega | (simp (disch := omega) only [zst_ne, zst_s, zup_eq, zup_ne, Int.toNat_natCast, not_true_eq_false, not_false_eq_true, true_or, or_true, true_and, and_true]; first | done | omega) | with_reducible exact True.intro)); (case hc => (first | omega | (simp (disch := omega) only [zst_ne, zst_s, zup_eq, zup_ne, Int.toNat_natCast, not_true_eq_false, not_false_eq_true, true_or, or_true, true_and, and_true]; first | done | omega) | with_reducible exact True.intro))) | (with_reducible refine zO_brn ?ha ?hb ?hc ?_; (case ha => (first | omega | (simp (disch := omega) only [zst_ne, zst_s, zup_eq, zup_ne, Int.toNat_natCast, not_true_eq_false, not_false_eq_true, true_or, or_true, true_and, and_true]; first | done | omega) | with_reducible exact True.intro)); (case hb => (first | omega | (simp (disch := omega) only [zst_ne, zst_s, zup_eq, zup_ne, Int.toNat_natCast, not_true_eq_false, not_false_eq_true, true_or, or_true, true_and, and_true]; first | done | omega) | with_reducible exact True.intro)); (case hc => (first | omega | (simp (disch := omega) only [zst_ne, zst_s, zup_eq, zup_ne, Int.toNat_natCast, not_true_eq_false, not_false_eq_true, true_or, or_true, true_and, and_true]; first | done | omega) | with_reducible exact True.intro))) | simp (disch := omega) only [zst_ne, zst_s, zup_eq, zup_ne, Int.toNat_natCast, not_true_eq_false, not_false_eq_true, true_or, or_true, true_and, and_true] | (with_reducible refine zO_br ?ha ?hb (fun _ => ?_) (fun _ => ?_); (case ha => (first | omega | (simp (disch := omega) only [zst_ne, zst_s, zup_eq, zup_ne, Int.toNat_natCast, not_true_eq_false, not_false_eq_true, true_or, or_true, true_and, and_true]; first | done | omega) | with_reducible exact True.intro)); (case hb => (first | omega | (simp (disch := omega) only [zst_ne, zst_s, zup_eq, zup_ne, Int.toNat_natCast, not_true_eq_false, not_false_eq_true, true_or, or_true, true_and, and_true]; first | done | omega) | with_reducible exact True.intro))) | (with_reducible refine zO_ifp ?hc ?_; case hc => (first | omega | (simp (disch := omega) only [zst_ne, zst_s, zup_eq, zup_ne, Int.toNat_natCast, not_true_eq_false, not_false_eq_true, true_or, or_true, true_and, and_true]; first | done | omega) | with_reducible exact True.intro)) | (with_reducible refine zO_ifn ?hc ?_; case hc => (first | omega | (simp (disch := omega) only [zst_ne, zst_s, zup_eq, zup_ne, Int.toNat_natCast, not_true_eq_false, not_false_eq_true, true_or, or_true, true_and, and_true]; first | done | omega) | with_reducible exact True.intro)) | fail)
    exact zO_inr ⟨hfr, hx, hI⟩
/-- one walk down -/
theorem g11_walk {k : zK} {y : Int} {m : Nat → Int} (hm : zMid m) : ∀ (n a : Nat) (M : zM), a < 256 → m a + 2 ≤ n → (∀ x, x < 256 → M 115 x = sFl m x) → (∀ x, x < 256 → 0 ≤ M 116 x ∧ M 116 x ≤ 99) → zO (zwh (fun t => gb_X11_findGround_328 k y t.1 t.2) n ((a : Int), M)) (fun M' => zFr [116] M M' ∧ ∀ x, x < 256 → M' 116 x = zmin (M 116 x + sOnn m a x) 99) := by
  intro n
  induction n with
  | zero => intro a M ha hn; have := hm a ha; omega
  | succ n ih =>
    intro a M ha hn h115 h116
    have hr := h116 a ha
    have h1 := h115 a ha
    have hf := sFl_r (m := m) ha
    have hma := hm a ha
    refine zO_whs ?_
    -- what is written at a
    have key : ∀ M' : zM, zFr [116] M M' → (∀ x, x < 256 → M' 116 x = zmin (M 116 x + (if a = x then 1 else 0)) 99) → zO (zwh (fun t => gb_X11_findGround_328 k y t.1 t.2) n (sFl m a, M')) (fun M' => zFr [116] M M' ∧ ∀ x, x < 256 → M' 116 x = zmin (M 116 x + sOnn m a x) 99) := by
      intro M' hfr hx
      rcases hf with hf | ⟨f0, f1, f2, _⟩
      · obtain ⟨q, rfl⟩ : ∃ q, n = q + 1 := ⟨n - 1, by omega⟩
        refine zO_whs ?_
        unfold gb_X11_findGround_328
        dsimp only
        repeat' (first | (with_reducible refine zO_lt ?_) | (with_reducible refine zO_gd ?hc ?_; case hc => (first | omega | (simp (disch := omega) only [zst_ne, zst_s, zup_eq, zup_ne, Int.toNat_natCast, not_true_eq_false, not_false_eq_true, true_or, or_true, true_and, and_true]; first | done | omega) | with_reducible exact True.intro)) | (with_reducible refine zO_brp ?ha ?hb ?hc ?_; (case ha => (first | omega | (simp (disch := omega) only [zst_ne, zst_s, zup_eq, zup_ne, Int.toNat_natCast, not_true_eq_false, not_false_eq_true, true_or, or_true, true_and, and_true]; first | done | omega) | with_reducible exact True.intro)); (case hb => (first | omega | (simp (disch := omega) only [zst_ne, zst_s, zup_eq, zup_ne, Int.toNat_natCast, not_true_eq_false, not_false_eq_true, true_or, or_true, true_and, and_true]; first | done | omega) | with_reducible exact True.intro)); (case hc => (first | omega | (simp (disch := omega) only [zst_ne, zst_s, zup_eq, zup_ne, Int.toNat_natCast, not_true_eq_false, not_false_eq_true, true_or, or_true, true_and, and_true]; first | done | omega) | with_reducible exact True.intro))) | (with_reducible refine zO_brn ?ha ?hb ?hc ?_; (case ha => (first | omega | (simp (disch := omega) only [zst_ne, zst_s, zup_eq, zup_ne, Int.toNat_natCast, not_true_eq_false, not_false_eq_true, true_or, or_true, true_and, and_true]; first | done | omega) | with_reducible exact True.intro)); (case hb => (first | omega | (simp (disch := omega) only [zst_ne, zst_s, zup_eq, zup_ne, Int.toNat_natCast, not_true_eq_false, not_false_eq_true, true_or, or_true, true_and, and_true]; first | done | omega) | with_reducible exact True.intro)); (case hc => (first | omega | (simp (disch := omega) only [zst_ne, zst_s, zup_eq, zup_ne, Int.toNat_natCast, not_true_eq_false, not_false_eq_true, true_or, or_true, true_and, and_true]; first | done | omega) | with_reducible exact True.intro))) | simp (disch := omega) only [zst_ne, zst_s, zup_eq, zup_ne, Int.toNat_natCast, not_true_eq_false, not_false_eq_true, true_or, or_true, true_and, and_true] | (with_reducible refine zO_br ?ha ?hb (fun _ => ?_) (fun _ => ?_); (case ha => (first | omega | (simp (disch := omega) only [zst_ne, zst_s, zup_eq, zup_ne, Int.toNat_natCast, not_true_eq_false, not_false_eq_true, true_or, or_true, true_and, and_true]; first | done | omega) | with_reducible exact True.intro)); (case hb => (first | omega | (simp (disch := omega) only [zst_ne, zst_s, zup_eq, zup_ne, Int.toNat_natCast, not_true_eq_false, not_false_eq_true, true_or, or_true, true_and, and_true]; first | done | omega) | with_reducible exact True.intro))) | (with_reducible refine zO_ifp ?hc ?_; case hc => (first | omega | (simp (disch := omega) only [zst_ne, zst_s, zup_eq, zup_ne, Int.toNat_natCast, not_true_eq_false, not_false_eq_true, true_or, or_true, true_and, and_true]; first | done | omega) | with_reducible exact True.intro)) | (with_reducible refine zO_ifn ?hc ?_; case hc => (first | omega | (simp (disch := omega) only [zst_ne, zst_s, zup_eq, zup_ne, Int.toNat_natCast, not_true_eq_false, not_false_eq_true, true_or, or_true, true_and, and_true]; first | done | omega) | with_reducible exact True.intro)) | fail)
        refine zO_inr ⟨hfr, fun x hx' => ?_⟩
        rw [hx x hx', sOnn_s hm ha, if_pos hf]
      · have e : ((sFl m a).toNat : Int) = sFl m a := by omega
        have := ih (sFl m a).toNat M' (by omega) (by omega) (fun x hx' => by rw [hfr 115 (by decide)]; exact h115 x hx') (fun x hx' => by
          have := h116 x hx'
          rw [hx x hx']
          unfold zmin
          split <;> split <;> omega)
        rw [e] at this
        refine zO_mono this (fun M'' hM => ⟨hfr.tr hM.1, fun x hx' => ?_⟩)
        rw [hM.2 x hx', hx x hx', sOnn_s hm ha, if_neg (show ¬ sFl m a = -1 by omega)]
        have h01 := sOnn_01 hm (x := x) (sFl m a).toNat (by omega)
        have := h116 x hx'
        by_cases ex : a = x
        · subst ex
          rw [if_pos rfl, if_pos rfl, sOnn_z hm _ (by omega) f2]
          unfold zmin
          split <;> omega
        · rw [if_neg ex, if_neg ex]
          unfold zmin
          split <;> omega
    dsimp only
    rw [gb_X11_findGround_328]
    simp only [Int.toNat_natCast]
    by_cases h99 : 99 ≤ M 116 a
    · repeat' (first | (with_reducible refine zO_lt ?_) | (with_reducible refine zO_gd ?hc ?_; case hc => (first | omega | (simp (disch := omega) only [zst_ne, zst_s, zup_eq, zup_ne, Int.toNat_natCast, not_true_eq_false, not_false_eq_true, true_or, or_true, true_and, and_true]; first | done | omega) | with_reducible exact True.intro)) | (with_reducible refine zO_brp ?ha ?hb ?hc ?_; (case ha => (first | omega | (simp (disch := omega) only [zst_ne, zst_s, zup_eq, zup_ne, Int.toNat_natCast, not_true_eq_false, not_false_eq_true, true_or, or_true, true_and, and_true]; first | done | omega) | with_reducible exact True.intro)); (case hb => (first | omega | (simp (disch := omega) only [zst_ne, zst_s, zup_eq, zup_ne, Int.toNat_natCast, not_true_eq_false, not_false_eq_true, true_or, or_true, true_and, and_true]; first | done | omega) | with_reducible exact True.intro)); (case hc => (first | omega | (simp (disch := omega) only [zst_ne, zst_s, zup_eq, zup_ne, Int.toNat_natCast, not_true_eq_false, not_false_eq_true, true_or, or_true, true_and, and_true]; first | done | omega) | with_reducible exact True.intro))) | (with_reducible refine zO_brn ?ha ?hb ?hc ?_; (case ha => (first | omega | (simp (disch := omega) only [zst_ne, zst_s, zup_eq, zup_ne, Int.toNat_natCast, not_true_eq_false, not_false_eq_true, true_or, or_true, true_and, and_true]; first | done | omega) | with_reducible exact True.intro)); (case hb => (first | omega | (simp (disch := omega) only [zst_ne, zst_s, zup_eq, zup_ne, Int.toNat_natCast, not_true_eq_false, not_false_eq_true, true_or, or_true, true_and, and_true]; first | done | omega) | with_reducible exact True.intro)); (case hc => (first | omega | (simp (disch := omega) only [zst_ne, zst_s, zup_eq, zup_ne, Int.toNat_natCast, not_true_eq_false, not_false_eq_true, true_or, or_true, true_and, and_true]; first | done | omega) | with_reducible exact True.intro))) | simp (disch := omega) only [zst_ne, zst_s, zup_eq, zup_ne, Int.toNat_natCast, not_true_eq_false, not_false_eq_true, true_or, or_true, true_and, and_true] | (with_reducible refine zO_br ?ha ?hb (fun _ => ?_) (fun _ => ?_); (case ha => (first | omega | (simp (disch := omega) only [zst_ne, zst_s, zup_eq, zup_ne, Int.toNat_natCast, not_true_eq_false, not_false_eq_true, true_or, or_true, true_and, and_true]; first | done | omega) | with_reducible exact True.intro)); (case hb => (first | omega | (simp (disch := omega) only [zst_ne, zst_s, zup_eq, zup_ne, Int.toNat_natCast, not_true_eq_false, not_false_eq_true, true_or, or_true, true_and, and_true]; first | done | omega) | with_reducible exact True.intro))) | (with_reducible refine zO_ifp ?hc ?_; case hc => (first | omega | (simp (disch := omega) only [zst_ne, zst_s, zup_eq, zup_ne, Int.toNat_natCast, not_true_eq_false, not_false_eq_true, true_or, or_true, true_and, and_true]; first | done | omega) | with_reducible exact True.intro)) | (with_reducible refine zO_ifn ?hc ?_; case hc => (first | omega | (simp (disch := omega) only [zst_ne, zst_s, zup_eq, zup_ne, Int.toNat_natCast, not_true_eq_false, not_false_eq_true, true_or, or_true, true_and, and_true]; first | done | omega) | with_reducible exact True.intro)) | (with_reducible refine zO_somek ?_) | (with_reducible refine zO_inlk ?_) | (with_reducible refine zO_inrk ?_) | (with_reducible refine zO_sp0 ?_) | (with_reducible refine zO_sp1 ?_) | (with_reducible refine zO_sp2 ?_) | (with_reducible refine zO_sp3 ?_) | (with_reducible refine zO_sp4 ?_) | (with_reducible refine zO_b2 ?_) | (with_reducible refine zO_b3 ?_) | (with_reducible refine zO_b4 ?_) | (with_reducible refine zO_bd ?_) | (with_reducible refine zO_b0 ?_) | (with_reducible refine zO_b1 ?_) | fail)
      simp (disch := omega) only [zst_ne, zst_s, zup_eq, zup_ne, Int.toNat_natCast, not_true_eq_false, not_false_eq_true, true_or, or_true, true_and, and_true, h1]
      refine key M zFr_refl (fun x hx => ?_)
      have := h116 x hx
      by_cases ex : a = x
      · subst ex; rw [if_pos rfl]; unfold zmin; omega
      · rw [if_neg ex]; unfold zmin; omega
    · repeat' (first | (with_reducible refine zO_lt ?_) | (with_reducible refine zO_gd ?hc ?_; case hc => (first | omega | (simp (disch := omega) only [zst_ne, zst_s, zup_eq, zup_ne, Int.toNat_natCast, not_true_eq_false, not_false_eq_true, true_or, or_true, true_and, and_true]; first | done | omega) | with_reducible exact True.intro)) | (with_reducible refine zO_brp ?ha ?hb ?hc ?_; (case ha => (first | omega | (simp (disch := omega) only [zst_ne, zst_s, zup_eq, zup_ne, Int.toNat_natCast, not_true_eq_false, not_false_eq_true, true_or, or_true, true_and, and_true]; first | done | omega) | with_reducible exact True.intro)); (case hb => (first | omega | (simp (disch := omega) only [zst_ne, zst_s, zup_eq, zup_ne, Int.toNat_natCast, not_true_eq_false, not_false_eq_true, true_or, or_true, true_and, and_true]; first | done | omega) | with_reducible exact True.intro)); (case hc => (first | omega | (simp (disch := omega) only [zst_ne, zst_s, zup_eq, zup_ne, Int.toNat_natCast, not_true_eq_false, not_false_eq_true, true_or, or_true, true_and, and_true]; first | done | omega) | with_reducible exact True.intro))) | (with_reducible refine zO_brn ?ha ?hb ?hc ?_; (case ha => (first | omega | (simp (disch := omega) only [zst_ne, zst_s, zup_eq, zup_ne, Int.toNat_natCast, not_true_eq_false, not_false_eq_true, true_or, or_true, true_and, and_true]; first | done | omega) | with_reducible exact True.intro)); (case hb => (first | omega | (simp (disch := omega) only [zst_ne, zst_s, zup_eq, zup_ne, Int.toNat_natCast, not_true_eq_false, not_false_eq_true, true_or, or_true, true_and, and_true]; first | done | omega) | with_reducible exact True.intro)); (case hc => (first | omega | (simp (disch := omega) only [zst_ne, zst_s, zup_eq, zup_ne, Int.toNat_natCast, not_true_eq_false, not_false_eq_true, true_or, or_true, true_and, and_true]; first | done | omega) | with_reducible exact True.intro))) | simp (disch := omega) only [zst_ne, zst_s, zup_eq, zup_ne, Int.toNat_natCast, not_true_eq_false, not_false_eq_true, true_or, or_true, true_and, and_true] | (with_reducible refine zO_br ?ha ?hb (fun _ => ?_) (fun _ => ?_); (case ha => (first | omega | (simp (disch := omega) only [zst_ne, zst_s, zup_eq, zup_ne, Int.toNat_natCast, not_true_eq_false, not_false_eq_true, true_or, or_true, true_and, and_true]; first | done | omega) | with_reducible exact True.intro)); (case hb => (first | omega | (simp (disch := omega) only [zst_ne, zst_s, zup_eq, zup_ne, Int.toNat_natCast, not_true_eq_false, not_false_eq_true, true_or, or_true, true_and, and_true]; first | done | omega) | with_reducible exact True.intro))) | (with_reducible refine zO_ifp ?hc ?_; case hc => (first | omega | (simp (disch := omega) only [zst_ne, zst_s, zup_eq, zup_ne, Int.toNat_natCast, not_true_eq_false, not_false_eq_true, true_or, or_true, true_and, and_true]; first | done | omega) | with_reducible exact True.intro)) | (with_reducible refine zO_ifn ?hc ?_; case hc => (first | omega | (simp (disch := omega) only [zst_ne, zst_s, zup_eq, zup_ne, Int.toNat_natCast, not_true_eq_false, not_false_eq_true, true_or, or_true, true_and, and_true]; first | done | omega) | with_reducible exact True.intro)) | (with_reducible refine zO_somek ?_) | (with_reducible refine zO_inlk ?_) | (with_reducible refine zO_inrk ?_) | (with_reducible refine zO_sp0 ?_) | (with_reducible refine zO_sp1 ?_) | (with_reducible refine zO_sp2 ?_) | (with_reducible refine zO_sp3 ?_) | (with_reducible refine zO_sp4 ?_) | (with_reducible refine zO_b2 ?_) | (with_reducible refine zO_b3 ?_) | (with_reducible refine zO_b4 ?_) | (with_reducible refine zO_bd ?_) | (with_reducible refine zO_b0 ?_) | (with_reducible refine zO_b1 ?_) | fail)
      simp (disch := omega) only [zst_ne, zst_s, zup_eq, zup_ne, Int.toNat_natCast, not_true_eq_false, not_false_eq_true, true_or, or_true, true_and, and_true, h1]
      refine key _ (zFr_refl.st (by decide)) (fun x hx => ?_)
      have := h116 x hx
      rw [zst_r]
      by_cases ex : a = x
      · subst ex; rw [if_pos ⟨rfl, rfl⟩, if_pos rfl]; unfold zmin; omega
      · rw [if_neg (by omega), if_neg ex]; unfold zmin; omega
/-- the reference's ground stands -/
def zGM (M : zM) (F : Int → (Nat → Int) → Int → Int) : Prop := ∀ c : Nat, c < 256 → M 113 c = sSunk F c ∧ M 114 c = sMid F (M 82) (M 83) c ∧ M 115 c = sFl (M 114) c ∧ M 116 c = sRiv (M 114) c ∧ M 117 c = sWind (M 114) c
abbrev zHi : List Nat := [111, 112, 113, 114, 115, 116, 117]
theorem zHi_n {q : Nat} (h : q < 111 ∨ 117 < q) : q ∉ zHi := by
  intro hm
  simp only [zHi, List.mem_cons, List.not_mem_nil, or_false] at hm
  omega
theorem g11_ground {i : Nat} {M : zM} {F : Int → (Nat → Int) → Int → Int} (hl : zLm i M F) (hF : zFok F) (h82 : zLH (M 82)) (h83 : zLH (M 83)) : zO (g_X11_findGround (zKn i) M) (fun M' => zFr zHi M M' ∧ zGM M' F) := by
  unfold g_X11_findGround
  have hm := sMid_m hF h82 h83
  -- heights
  refine zO_b1q (Q := fun M' => zFr zHi M M' ∧ ∀ c : Nat, c < 256 → M' 113 c = sSunk F c ∧ M' 114 c = sMid F (M 82) (M 83) c) ?_ ?_
  · unfold zw2
    refine zO_for (fun s => s.1) 256 (fun j s => zFr zHi M s.2 ∧ ∀ c : Nat, c < j → s.2 113 c = sSunk F c ∧ s.2 114 c = sMid F (M 82) (M 83) c) ?_ ?_ (by omega) 0 (by omega) rfl ⟨zFr_refl, fun c hc => by omega⟩
    · rintro j ⟨y, M'⟩ hj hc ⟨hfr, hI⟩
      simp only at hc hfr hI
      subst hc
      have e82 : M' 82 = M 82 := hfr 82 (zHi_n (by omega))
      have e83 : M' 83 = M 83 := hfr 83 (zHi_n (by omega))
      have hs := sSunk_r hF (c := j)
      have h1 := h82 j hj
      have h2 := h83 j hj
      generalize hA : (fun a b => if a = 111 ∧ b < 7 then (0 : Int) else M' a b) = A
      have fA : zFr zHi M' A := by
        intro q hq
        rw [← hA]
        funext b
        have : q ≠ 111 := fun e => hq (by rw [e]; decide)
        simp [this]
      have a111 : ∀ t, t < 7 → A 111 t = 0 := by
        intro t ht
        rw [← hA]
        simp [ht]
      have aI : ∀ q, q ≠ 111 → A q = M' q := by
        intro q hq
        rw [← hA]
        funext b
        simp [hq]
      have w0 : ∀ t : Nat, t < 7 → zup (zup (A 111) 0 ((j : Int) % 16)) 1 ((j : Int) / 16) t = zW0 j t := by
        intro t ht
        unfold zup zW0
        rcases (show t = 0 ∨ t = 1 ∨ 2 ≤ t by omega) with h | h | h
        · subst h; simp
        · subst h; simp
        · rw [if_neg (by omega), if_neg (by omega), if_neg (by omega), if_neg (by omega)]
          exact a111 t ht
      have hfirst : zO (g_X11_first (zKn i) 1 0 (zst (zst A 111 0 ((j : Int) % 16)) 111 1 ((j : Int) / 16))) (fun r => r.2 = sSunk F j ∧ zFr [112] (zst (zst A 111 0 ((j : Int) % 16)) 111 1 ((j : Int) / 16)) r.1) := by
        refine zO_mono (hl 1 0 _ (Or.inl rfl) ?_ ?_) (fun r hr => ⟨?_, hr.2⟩)
        · refine zla (fun q hq1 hq2 => ?_)
          rw [zst_ne (by omega), zst_ne (by omega), aI q (by omega)]
          exact hfr q (zHi_n (by omega))
        · intro t ht
          simp only [zst_s]
          rw [w0 t ht]
          unfold zW0
          split
          · omega
          · split <;> omega
        · rw [hr.1]
          simp only [zst_s]
          exact hF.1 1 _ (zW0 j) 0 w0
      unfold gb_X11_findGround_2
      dsimp only
      simp only [Int.toNat_zero, Int.toNat_one]
      rw [g11_asks0, hA]
      repeat' (first | (with_reducible refine zO_b1e rfl ?_) | (with_reducible refine zO_lt ?_) | (with_reducible refine zO_gd ?hc ?_; case hc => (first | omega | (simp (disch := omega) only [zst_ne, zst_s, zup_eq, zup_ne, Int.toNat_natCast, not_true_eq_false, not_false_eq_true, true_or, or_true, true_and, and_true]; first | done | omega) | with_reducible exact True.intro)) | (with_reducible refine zO_brp ?ha ?hb ?hc ?_; (case ha => (first | omega | (simp (disch := omega) only [zst_ne, zst_s, zup_eq, zup_ne, Int.toNat_natCast, not_true_eq_false, not_false_eq_true, true_or, or_true, true_and, and_true]; first | done | omega) | with_reducible exact True.intro)); (case hb => (first | omega | (simp (disch := omega) only [zst_ne, zst_s, zup_eq, zup_ne, Int.toNat_natCast, not_true_eq_false, not_false_eq_true, true_or, or_true, true_and, and_true]; first | done | omega) | with_reducible exact True.intro)); (case hc => (first | omega | (simp (disch := omega) only [zst_ne, zst_s, zup_eq, zup_ne, Int.toNat_natCast, not_true_eq_false, not_false_eq_true, true_or, or_true, true_and, and_true]; first | done | omega) | with_reducible exact True.intro))) | (with_reducible refine zO_brn ?ha ?hb ?hc ?_; (case ha => (first | omega | (simp (disch := omega) only [zst_ne, zst_s, zup_eq, zup_ne, Int.toNat_natCast, not_true_eq_false, not_false_eq_true, true_or, or_true, true_and, and_true]; first | done | omega) | with_reducible exact True.intro)); (case hb => (first | omega | (simp (disch := omega) only [zst_ne, zst_s, zup_eq, zup_ne, Int.toNat_natCast, not_true_eq_false, not_false_eq_true, true_or, or_true, true_and, and_true]; first | done | omega) | with_reducible exact True.intro)); (case hc => (first | omega | (simp (disch := omega) only [zst_ne, zst_s, zup_eq, zup_ne, Int.toNat_natCast, not_true_eq_false, not_false_eq_true, true_or, or_true, true_and, and_true]; first | done | omega) | with_reducible exact True.intro))) | simp (disch := omega) only [zst_ne, zst_s, zup_eq, zup_ne, Int.toNat_natCast, not_true_eq_false, not_false_eq_true, true_or, or_true, true_and, and_true] | (with_reducible refine zO_br ?ha ?hb (fun _ => ?_) (fun _ => ?_); (case ha => (first | omega | (simp (disch := omega) only [zst_ne, zst_s, zup_eq, zup_ne, Int.toNat_natCast, not_true_eq_false, not_false_eq_true, true_or, or_true, true_and, and_true]; first | done | omega) | with_reducible exact True.intro)); (case hb => (first | omega | (simp (disch := omega) only [zst_ne, zst_s, zup_eq, zup_ne, Int.toNat_natCast, not_true_eq_false, not_false_eq_true, true_or, or_true, true_and, and_true]; first | done | omega) | with_reducible exact True.intro))) | (with_reducible refine zO_ifp ?hc ?_; case hc => (first | omega | (simp (disch := omega) only [zst_ne, zst_s, zup_eq, zup_ne, Int.toNat_natCast, not_true_eq_false, not_false_eq_true, true_or, or_true, true_and, and_true]; first | done | omega) | with_reducible exact True.intro)) | (with_reducible refine zO_ifn ?hc ?_; case hc => (first | omega | (simp (disch := omega) only [zst_ne, zst_s, zup_eq, zup_ne, Int.toNat_natCast, not_true_eq_false, not_false_eq_true, true_or, or_true, true_and, and_true]; first | done | omega) | with_reducible exact True.intro)) | fail)
      refine zO_bdq hfirst ?_
      rintro B v ⟨hv, fB⟩
      dsimp only at hv fB
      subst hv
      have b82 : B 82 = M 82 := by rw [fB 82 (by decide), zst_ne (by decide), zst_ne (by decide), aI 82 (by decide), e82]
      have b83 : B 83 = M 83 := by rw [fB 83 (by decide), zst_ne (by decide), zst_ne (by decide), aI 83 (by decide), e83]
      have hlow := g11_low (k := zKn i) (c := (j : Int)) (M := zst B 113 j (sSunk F j)) ⟨by omega, by omega⟩ (by
        simp (disch := omega) only [zst_ne, zst_s, zup_eq, zup_ne, Int.toNat_natCast, not_true_eq_false, not_false_eq_true, true_or, or_true, true_and, and_true]; rw [b82]; exact ⟨by omega, by omega⟩)
      have hhigh := g11_high (k := zKn i) (c := (j : Int)) (M := zst B 113 j (sSunk F j)) ⟨by omega, by omega⟩ (by
        simp (disch := omega) only [zst_ne, zst_s, zup_eq, zup_ne, Int.toNat_natCast, not_true_eq_false, not_false_eq_true, true_or, or_true, true_and, and_true]; rw [b83]; exact ⟨by omega, by omega⟩)
      simp (disch := omega) only [zst_ne, zst_s, zup_eq, zup_ne, Int.toNat_natCast, not_true_eq_false, not_false_eq_true, true_or, or_true, true_and, and_true] at hlow hhigh
      rw [b82] at hlow
      rw [b83] at hhigh
      repeat' (first | (with_reducible refine zO_b1e hlow ?_) | (with_reducible refine zO_b1e hhigh ?_) | (with_reducible refine zO_lt ?_) | (with_reducible refine zO_gd ?hc ?_; case hc => (first | omega | (simp (disch := omega) only [zst_ne, zst_s, zup_eq, zup_ne, Int.toNat_natCast, not_true_eq_false, not_false_eq_true, true_or, or_true, true_and, and_true]; first | done | omega) | with_reducible exact True.intro)) | (with_reducible refine zO_brp ?ha ?hb ?hc ?_; (case ha => (first | omega | (simp (disch := omega) only [zst_ne, zst_s, zup_eq, zup_ne, Int.toNat_natCast, not_true_eq_false, not_false_eq_true, true_or, or_true, true_and, and_true]; first | done | omega) | with_reducible exact True.intro)); (case hb => (first | omega | (simp (disch := omega) only [zst_ne, zst_s, zup_eq, zup_ne, Int.toNat_natCast, not_true_eq_false, not_false_eq_true, true_or, or_true, true_and, and_true]; first | done | omega) | with_reducible exact True.intro)); (case hc => (first | omega | (simp (disch := omega) only [zst_ne, zst_s, zup_eq, zup_ne, Int.toNat_natCast, not_true_eq_false, not_false_eq_true, true_or, or_true, true_and, and_true]; first | done | omega) | with_reducible exact True.intro))) | (with_reducible refine zO_brn ?ha ?hb ?hc ?_; (case ha => (first | omega | (simp (disch := omega) only [zst_ne, zst_s, zup_eq, zup_ne, Int.toNat_natCast, not_true_eq_false, not_false_eq_true, true_or, or_true, true_and, and_true]; first | done | omega) | with_reducible exact True.intro)); (case hb => (first | omega | (simp (disch := omega) only [zst_ne, zst_s, zup_eq, zup_ne, Int.toNat_natCast, not_true_eq_false, not_false_eq_true, true_or, or_true, true_and, and_true]; first | done | omega) | with_reducible exact True.intro)); (case hc => (first | omega | (simp (disch := omega) only [zst_ne, zst_s, zup_eq, zup_ne, Int.toNat_natCast, not_true_eq_false, not_false_eq_true, true_or, or_true, true_and, and_true]; first | done | omega) | with_reducible exact True.intro))) | simp (disch := omega) only [zst_ne, zst_s, zup_eq, zup_ne, Int.toNat_natCast, not_true_eq_false, not_false_eq_true, true_or, or_true, true_and, and_true] | (with_reducible refine zO_br ?ha ?hb (fun _ => ?_) (fun _ => ?_); (case ha => (first | omega | (simp (disch := omega) only [zst_ne, zst_s, zup_eq, zup_ne, Int.toNat_natCast, not_true_eq_false, not_false_eq_true, true_or, or_true, true_and, and_true]; first | done | omega) | with_reducible exact True.intro)); (case hb => (first | omega | (simp (disch := omega) only [zst_ne, zst_s, zup_eq, zup_ne, Int.toNat_natCast, not_true_eq_false, not_false_eq_true, true_or, or_true, true_and, and_true]; first | done | omega) | with_reducible exact True.intro))) | (with_reducible refine zO_ifp ?hc ?_; case hc => (first | omega | (simp (disch := omega) only [zst_ne, zst_s, zup_eq, zup_ne, Int.toNat_natCast, not_true_eq_false, not_false_eq_true, true_or, or_true, true_and, and_true]; first | done | omega) | with_reducible exact True.intro)) | (with_reducible refine zO_ifn ?hc ?_; case hc => (first | omega | (simp (disch := omega) only [zst_ne, zst_s, zup_eq, zup_ne, Int.toNat_natCast, not_true_eq_false, not_false_eq_true, true_or, or_true, true_and, and_true]; first | done | omega) | with_reducible exact True.intro)) | fail)
      refine zO_inl ⟨by omega, ?_, ?_⟩
      · refine ((((hfr.tr fA).tr ?_).tr (fB.mono (by decide))).st (by decide)).st (by decide)
        exact (zFr_refl.st (by decide)).st (by decide)
      · intro c hc
        dsimp only
        simp (disch := omega) only [zst_ne, zst_s, Int.toNat_natCast]
        rcases Nat.lt_or_ge c j with h | h
        · simp (disch := omega) only [zup_ne]
          rw [fB 113 (by decide), fB 114 (by decide)]
          simp (disch := omega) only [zst_ne]
          rw [aI 113 (by decide), aI 114 (by decide)]
          exact hI c h
        · have : c = j := by omega
          subst this
          simp only [zup_eq, true_and]
          rfl
    · rintro ⟨y, M'⟩ hc ⟨hfr, hI⟩
      simp only at hc
      subst hc
      unfold gb_X11_findGround_2
      dsimp only
      repeat' (first | (with_reducible refine zO_lt ?_) | (with_reducible refine zO_gd ?hc ?_; case hc => (first | omega | (simp (disch := omega) only [zst_ne, zst_s, zup_eq, zup_ne, Int.toNat_natCast, not_true_eq_false, not_false_eq_true, true_or, or_true, true_and, and_true]; first | done | omega) | with_reducible exact True.intro)) | (with_reducible refine zO_brp ?ha ?hb ?hc ?_; (case ha => (first | omega | (simp (disch := omega) only [zst_ne, zst_s, zup_eq, zup_ne, Int.toNat_natCast, not_true_eq_false, not_false_eq_true, true_or, or_true, true_and, and_true]; first | done | omega) | with_reducible exact True.intro)); (case hb => (first | omega | (simp (disch := omega) only [zst_ne, zst_s, zup_eq, zup_ne, Int.toNat_natCast, not_true_eq_false, not_false_eq_true, true_or, or_true, true_and, and_true]; first | done | omega) | with_reducible exact True.intro)); (case hc => (first | omega | (simp (disch := omega) only [zst_ne, zst_s, zup_eq, zup_ne, Int.toNat_natCast, not_true_eq_false, not_false_eq_true, true_or, or_true, true_and, and_true]; first | done | omega) | with_reducible exact True.intro))) | (with_reducible refine zO_brn ?ha ?hb ?hc ?_; (case ha => (first | omega | (simp (disch := omega) only [zst_ne, zst_s, zup_eq, zup_ne, Int.toNat_natCast, not_true_eq_false, not_false_eq_true, true_or, or_true, true_and, and_true]; first | done | omega) | with_reducible exact True.intro)); (case hb => (first | omega | (simp (disch := omega) only [zst_ne, zst_s, zup_eq, zup_ne, Int.toNat_natCast, not_true_eq_false, not_false_eq_true, true_or, or_true, true_and, and_true]; first | done | omega) | with_reducible exact True.intro)); (case hc => (first | omega | (simp (disch := omega) only [zst_ne, zst_s, zup_eq, zup_ne, Int.toNat_natCast, not_true_eq_false, not_false_eq_true, true_or, or_true, true_and, and_true]; first | done | omega) | with_reducible exact True.intro))) | simp (disch := omega) only [zst_ne, zst_s, zup_eq, zup_ne, Int.toNat_natCast, not_true_eq_false, not_false_eq_true, true_or, or_true, true_and, and_true] | (with_reducible refine zO_br ?ha ?hb (fun _ => ?_) (fun _ => ?_); (case ha => (first | omega | (simp (disch := omega) only [zst_ne, zst_s, zup_eq, zup_ne, Int.toNat_natCast, not_true_eq_false, not_false_eq_true, true_or, or_true, true_and, and_true]; first | done | omega) | with_reducible exact True.intro)); (case hb => (first | omega | (simp (disch := omega) only [zst_ne, zst_s, zup_eq, zup_ne, Int.toNat_natCast, not_true_eq_false, not_false_eq_true, true_or, or_true, true_and, and_true]; first | done | omega) | with_reducible exact True.intro))) | (with_reducible refine zO_ifp ?hc ?_; case hc => (first | omega | (simp (disch := omega) only [zst_ne, zst_s, zup_eq, zup_ne, Int.toNat_natCast, not_true_eq_false, not_false_eq_true, true_or, or_true, true_and, and_true]; first | done | omega) | with_reducible exact True.intro)) | (with_reducible refine zO_ifn ?hc ?_; case hc => (first | omega | (simp (disch := omega) only [zst_ne, zst_s, zup_eq, zup_ne, Int.toNat_natCast, not_true_eq_false, not_false_eq_true, true_or, or_true, true_and, and_true]; first | done | omega) | with_reducible exact True.intro)) | fail)
      exact zO_inr ⟨hfr, hI⟩
  rintro A ⟨fA, hA⟩
  have mA : zMid (A 114) := fun c hc => by rw [(hA c hc).2]; exact hm c hc
  -- where they flow, what wind
  refine zO_b1q (Q := fun M' => zFr [115, 116, 117] A M' ∧ ∀ c : Nat, c < 256 → M' 115 c = sFl (A 114) c ∧ M' 116 c = 0 ∧ M' 117 c = sWind (A 114) c) ?_ ?_
  · unfold zw2
    refine zO_for (fun s => s.1) 256 (fun j s => zFr [115, 116, 117] A s.2 ∧ ∀ c : Nat, c < j → s.2 115 c = sFl (A 114) c ∧ s.2 116 c = 0 ∧ s.2 117 c = sWind (A 114) c) ?_ ?_ (by omega) 0 (by omega) rfl ⟨zFr_refl, fun c hc => by omega⟩
    · rintro j ⟨y, M'⟩ hj hc ⟨hfr, hI⟩
      simp only at hc hfr hI
      subst hc
      have e114 : M' 114 = A 114 := hfr 114 (by decide)
      unfold gb_X11_findGround_87
      dsimp only
      simp only [Int.toNat_natCast]
      repeat' (first | (with_reducible refine zO_lt ?_) | (with_reducible refine zO_gd ?hc ?_; case hc => (first | omega | (simp (disch := omega) only [zst_ne, zst_s, zup_eq, zup_ne, Int.toNat_natCast, not_true_eq_false, not_false_eq_true, true_or, or_true, true_and, and_true]; first | done | omega) | with_reducible exact True.intro)) | (with_reducible refine zO_brp ?ha ?hb ?hc ?_; (case ha => (first | omega | (simp (disch := omega) only [zst_ne, zst_s, zup_eq, zup_ne, Int.toNat_natCast, not_true_eq_false, not_false_eq_true, true_or, or_true, true_and, and_true]; first | done | omega) | with_reducible exact True.intro)); (case hb => (first | omega | (simp (disch := omega) only [zst_ne, zst_s, zup_eq, zup_ne, Int.toNat_natCast, not_true_eq_false, not_false_eq_true, true_or, or_true, true_and, and_true]; first | done | omega) | with_reducible exact True.intro)); (case hc => (first | omega | (simp (disch := omega) only [zst_ne, zst_s, zup_eq, zup_ne, Int.toNat_natCast, not_true_eq_false, not_false_eq_true, true_or, or_true, true_and, and_true]; first | done | omega) | with_reducible exact True.intro))) | (with_reducible refine zO_brn ?ha ?hb ?hc ?_; (case ha => (first | omega | (simp (disch := omega) only [zst_ne, zst_s, zup_eq, zup_ne, Int.toNat_natCast, not_true_eq_false, not_false_eq_true, true_or, or_true, true_and, and_true]; first | done | omega) | with_reducible exact True.intro)); (case hb => (first | omega | (simp (disch := omega) only [zst_ne, zst_s, zup_eq, zup_ne, Int.toNat_natCast, not_true_eq_false, not_false_eq_true, true_or, or_true, true_and, and_true]; first | done | omega) | with_reducible exact True.intro)); (case hc => (first | omega | (simp (disch := omega) only [zst_ne, zst_s, zup_eq, zup_ne, Int.toNat_natCast, not_true_eq_false, not_false_eq_true, true_or, or_true, true_and, and_true]; first | done | omega) | with_reducible exact True.intro))) | simp (disch := omega) only [zst_ne, zst_s, zup_eq, zup_ne, Int.toNat_natCast, not_true_eq_false, not_false_eq_true, true_or, or_true, true_and, and_true] | (with_reducible refine zO_br ?ha ?hb (fun _ => ?_) (fun _ => ?_); (case ha => (first | omega | (simp (disch := omega) only [zst_ne, zst_s, zup_eq, zup_ne, Int.toNat_natCast, not_true_eq_false, not_false_eq_true, true_or, or_true, true_and, and_true]; first | done | omega) | with_reducible exact True.intro)); (case hb => (first | omega | (simp (disch := omega) only [zst_ne, zst_s, zup_eq, zup_ne, Int.toNat_natCast, not_true_eq_false, not_false_eq_true, true_or, or_true, true_and, and_true]; first | done | omega) | with_reducible exact True.intro))) | (with_reducible refine zO_ifp ?hc ?_; case hc => (first | omega | (simp (disch := omega) only [zst_ne, zst_s, zup_eq, zup_ne, Int.toNat_natCast, not_true_eq_false, not_false_eq_true, true_or, or_true, true_and, and_true]; first | done | omega) | with_reducible exact True.intro)) | (with_reducible refine zO_ifn ?hc ?_; case hc => (first | omega | (simp (disch := omega) only [zst_ne, zst_s, zup_eq, zup_ne, Int.toNat_natCast, not_true_eq_false, not_false_eq_true, true_or, or_true, true_and, and_true]; first | done | omega) | with_reducible exact True.intro)) | fail)
      have hB : zst (zst (zst M' 115 j (-1)) 116 j 0) 117 j 0 114 = A 114 := by simp (disch := omega) only [zst_ne]; exact e114
      refine zO_b1q (g11_flow hj (by rw [hB]; exact mA) (by simp (disch := omega) only [zst_ne, zst_s, zup_eq, zup_ne, Int.toNat_natCast, not_true_eq_false, not_false_eq_true, true_or, or_true, true_and, and_true])) ?_
      rintro C ⟨fC, xC, hC⟩
      rw [hB] at hC
      have c114 : C 114 = A 114 := (fC 114 (by decide)).trans hB
      refine zO_b1q (g11_wind hj (by rw [c114]; exact mA) (by rw [fC 117 (by decide)]; simp (disch := omega) only [zst_ne, zst_s, zup_eq, zup_ne, Int.toNat_natCast, not_true_eq_false, not_false_eq_true, true_or, or_true, true_and, and_true])) ?_
      rintro D ⟨fD, xD, hD⟩
      rw [c114] at hD
      refine zO_lt (zO_some ?_)
      refine show _ ∧ _ ∧ _ from ⟨by omega, ?_, ?_⟩
      · exact ((((hfr.st (by decide)).st (by decide)).st (by decide)).tr (fC.mono (by decide))).tr (fD.mono (by decide))
      · intro c hc
        dsimp only
        rw [fD 115 (by decide), fD 116 (by decide), fC 116 (by decide)]
        rcases Nat.lt_or_ge c j with h | h
        · rw [xD c (by omega), xC c (by omega), fC 117 (by decide)]
          simp (disch := omega) only [zst_ne, zst_s, zup_eq, zup_ne, Int.toNat_natCast, not_true_eq_false, not_false_eq_true, true_or, or_true, true_and, and_true]
          exact hI c h
        · have : c = j := by omega
          subst this
          rw [hC, hD]
          simp (disch := omega) only [zst_ne, zst_s, zup_eq, zup_ne, Int.toNat_natCast, not_true_eq_false, not_false_eq_true, true_or, or_true, true_and, and_true, and_self]
    · rintro ⟨y, M'⟩ hc ⟨hfr, hI⟩
      simp only at hc
      subst hc
      unfold gb_X11_findGround_87
      dsimp only
      repeat' (first | (with_reducible refine zO_lt ?_) | (with_reducible refine zO_gd ?hc ?_; case hc => (first | omega | (simp (disch := omega) only [zst_ne, zst_s, zup_eq, zup_ne, Int.toNat_natCast, not_true_eq_false, not_false_eq_true, true_or, or_true, true_and, and_true]; first | done | omega) | with_reducible exact True.intro)) | (with_reducible refine zO_brp ?ha ?hb ?hc ?_; (case ha => (first | omega | (simp (disch := omega) only [zst_ne, zst_s, zup_eq, zup_ne, Int.toNat_natCast, not_true_eq_false, not_false_eq_true, true_or, or_true, true_and, and_true]; first | done | omega) | with_reducible exact True.intro)); (case hb => (first | omega | (simp (disch := omega) only [zst_ne, zst_s, zup_eq, zup_ne, Int.toNat_natCast, not_true_eq_false, not_false_eq_true, true_or, or_true, true_and, and_true]; first | done | omega) | with_reducible exact True.intro)); (case hc => (first | omega | (simp (disch := omega) only [zst_ne, zst_s, zup_eq, zup_ne, Int.toNat_natCast, not_true_eq_false, not_false_eq_true, true_or, or_true, true_and, and_true]; first | done | omega) | with_reducible exact True.intro))) | (with_reducible refine zO_brn ?ha ?hb ?hc ?_; (case ha => (first | omega | (simp (disch := omega) only [zst_ne, zst_s, zup_eq, zup_ne, Int.toNat_natCast, not_true_eq_false, not_false_eq_true, true_or, or_true, true_and, and_true]; first | done | omega) | with_reducible exact True.intro)); (case hb => (first | omega | (simp (disch := omega) only [zst_ne, zst_s, zup_eq, zup_ne, Int.toNat_natCast, not_true_eq_false, not_false_eq_true, true_or, or_true, true_and, and_true]; first | done | omega) | with_reducible exact True.intro)); (case hc => (first | omega | (simp (disch := omega) only [zst_ne, zst_s, zup_eq, zup_ne, Int.toNat_natCast, not_true_eq_false, not_false_eq_true, true_or, or_true, true_and, and_true]; first | done | omega) | with_reducible exact True.intro))) | simp (disch := omega) only [zst_ne, zst_s, zup_eq, zup_ne, Int.toNat_natCast, not_true_eq_false, not_false_eq_true, true_or, or_true, true_and, and_true] | (with_reducible refine zO_br ?ha ?hb (fun _ => ?_) (fun _ => ?_); (case ha => (first | omega | (simp (disch := omega) only [zst_ne, zst_s, zup_eq, zup_ne, Int.toNat_natCast, not_true_eq_false, not_false_eq_true, true_or, or_true, true_and, and_true]; first | done | omega) | with_reducible exact True.intro)); (case hb => (first | omega | (simp (disch := omega) only [zst_ne, zst_s, zup_eq, zup_ne, Int.toNat_natCast, not_true_eq_false, not_false_eq_true, true_or, or_true, true_and, and_true]; first | done | omega) | with_reducible exact True.intro))) | (with_reducible refine zO_ifp ?hc ?_; case hc => (first | omega | (simp (disch := omega) only [zst_ne, zst_s, zup_eq, zup_ne, Int.toNat_natCast, not_true_eq_false, not_false_eq_true, true_or, or_true, true_and, and_true]; first | done | omega) | with_reducible exact True.intro)) | (with_reducible refine zO_ifn ?hc ?_; case hc => (first | omega | (simp (disch := omega) only [zst_ne, zst_s, zup_eq, zup_ne, Int.toNat_natCast, not_true_eq_false, not_false_eq_true, true_or, or_true, true_and, and_true]; first | done | omega) | with_reducible exact True.intro)) | fail)
      exact zO_inr ⟨hfr, hI⟩
  rintro B ⟨fB, hB⟩
  have b114 : B 114 = A 114 := fB 114 (by decide)
  -- how many come through
  refine zO_b1 ?_
  unfold zw2
  refine zO_for (fun s => s.1) 256 (fun j s => zFr [116] B s.2 ∧ ∀ x : Nat, x < 256 → s.2 116 x = zmin (zsum j (fun a => sOnn (A 114) a x)) 99) ?_ ?_ (by omega) 0 (by omega) rfl ⟨zFr_refl, fun c hc => by show B 116 c = _; rw [(hB c hc).2.1]; rfl⟩
  · rintro j ⟨y, M'⟩ hj hc ⟨hfr, hI⟩
    simp only at hc hfr hI
    subst hc
    have hnn : ∀ x, 0 ≤ zsum j (fun a => sOnn (A 114) a x) := fun x => zsum_nn (fun a ha => by rcases sOnn_01 mA (x := x) a (by omega) with h | h <;> omega)
    have hj' := mA j hj
    unfold gb_X11_findGround_319
    dsimp only
    repeat' (first | (with_reducible refine zO_lt ?_) | (with_reducible refine zO_gd ?hc ?_; case hc => (first | omega | (simp (disch := omega) only [zst_ne, zst_s, zup_eq, zup_ne, Int.toNat_natCast, not_true_eq_false, not_false_eq_true, true_or, or_true, true_and, and_true]; first | done | omega) | with_reducible exact True.intro)) | (with_reducible refine zO_brp ?ha ?hb ?hc ?_; (case ha => (first | omega | (simp (disch := omega) only [zst_ne, zst_s, zup_eq, zup_ne, Int.toNat_natCast, not_true_eq_false, not_false_eq_true, true_or, or_true, true_and, and_true]; first | done | omega) | with_reducible exact True.intro)); (case hb => (first | omega | (simp (disch := omega) only [zst_ne, zst_s, zup_eq, zup_ne, Int.toNat_natCast, not_true_eq_false, not_false_eq_true, true_or, or_true, true_and, and_true]; first | done | omega) | with_reducible exact True.intro)); (case hc => (first | omega | (simp (disch := omega) only [zst_ne, zst_s, zup_eq, zup_ne, Int.toNat_natCast, not_true_eq_false, not_false_eq_true, true_or, or_true, true_and, and_true]; first | done | omega) | with_reducible exact True.intro))) | (with_reducible refine zO_brn ?ha ?hb ?hc ?_; (case ha => (first | omega | (simp (disch := omega) only [zst_ne, zst_s, zup_eq, zup_ne, Int.toNat_natCast, not_true_eq_false, not_false_eq_true, true_or, or_true, true_and, and_true]; first | done | omega) | with_reducible exact True.intro)); (case hb => (first | omega | (simp (disch := omega) only [zst_ne, zst_s, zup_eq, zup_ne, Int.toNat_natCast, not_true_eq_false, not_false_eq_true, true_or, or_true, true_and, and_true]; first | done | omega) | with_reducible exact True.intro)); (case hc => (first | omega | (simp (disch := omega) only [zst_ne, zst_s, zup_eq, zup_ne, Int.toNat_natCast, not_true_eq_false, not_false_eq_true, true_or, or_true, true_and, and_true]; first | done | omega) | with_reducible exact True.intro))) | simp (disch := omega) only [zst_ne, zst_s, zup_eq, zup_ne, Int.toNat_natCast, not_true_eq_false, not_false_eq_true, true_or, or_true, true_and, and_true] | (with_reducible refine zO_br ?ha ?hb (fun _ => ?_) (fun _ => ?_); (case ha => (first | omega | (simp (disch := omega) only [zst_ne, zst_s, zup_eq, zup_ne, Int.toNat_natCast, not_true_eq_false, not_false_eq_true, true_or, or_true, true_and, and_true]; first | done | omega) | with_reducible exact True.intro)); (case hb => (first | omega | (simp (disch := omega) only [zst_ne, zst_s, zup_eq, zup_ne, Int.toNat_natCast, not_true_eq_false, not_false_eq_true, true_or, or_true, true_and, and_true]; first | done | omega) | with_reducible exact True.intro))) | (with_reducible refine zO_ifp ?hc ?_; case hc => (first | omega | (simp (disch := omega) only [zst_ne, zst_s, zup_eq, zup_ne, Int.toNat_natCast, not_true_eq_false, not_false_eq_true, true_or, or_true, true_and, and_true]; first | done | omega) | with_reducible exact True.intro)) | (with_reducible refine zO_ifn ?hc ?_; case hc => (first | omega | (simp (disch := omega) only [zst_ne, zst_s, zup_eq, zup_ne, Int.toNat_natCast, not_true_eq_false, not_false_eq_true, true_or, or_true, true_and, and_true]; first | done | omega) | with_reducible exact True.intro)) | fail)
    refine zO_b1q (g11_walk (y := (j : Int)) mA zfu j M' hj (by unfold zfu; omega) (fun x hx => by rw [hfr 115 (by decide)]; exact (hB x hx).1) (fun x hx => by have := hnn x; rw [hI x hx]; unfold zmin; split <;> omega)) ?_
    rintro C ⟨fC, hC⟩
    refine zO_lt (zO_some ?_)
    refine show _ ∧ _ ∧ _ from ⟨by omega, hfr.tr fC, fun x hx => ?_⟩
    dsimp only
    rw [hC x hx, hI x hx, zsum_s]
    have := hnn x
    rcases sOnn_01 mA (x := x) j hj with h | h <;> rw [h] <;> unfold zmin <;> split <;> split <;> omega
  · rintro ⟨y, M'⟩ hc ⟨hfr, hI⟩
    simp only at hc hfr hI
    subst hc
    unfold gb_X11_findGround_319
    dsimp only
    repeat' (first | (with_reducible refine zO_lt ?_) | (with_reducible refine zO_gd ?hc ?_; case hc => (first | omega | (simp (disch := omega) only [zst_ne, zst_s, zup_eq, zup_ne, Int.toNat_natCast, not_true_eq_false, not_false_eq_true, true_or, or_true, true_and, and_true]; first | done | omega) | with_reducible exact True.intro)) | (with_reducible refine zO_brp ?ha ?hb ?hc ?_; (case ha => (first | omega | (simp (disch := omega) only [zst_ne, zst_s, zup_eq, zup_ne, Int.toNat_natCast, not_true_eq_false, not_false_eq_true, true_or, or_true, true_and, and_true]; first | done | omega) | with_reducible exact True.intro)); (case hb => (first | omega | (simp (disch := omega) only [zst_ne, zst_s, zup_eq, zup_ne, Int.toNat_natCast, not_true_eq_false, not_false_eq_true, true_or, or_true, true_and, and_true]; first | done | omega) | with_reducible exact True.intro)); (case hc => (first | omega | (simp (disch := omega) only [zst_ne, zst_s, zup_eq, zup_ne, Int.toNat_natCast, not_true_eq_false, not_false_eq_true, true_or, or_true, true_and, and_true]; first | done | omega) | with_reducible exact True.intro))) | (with_reducible refine zO_brn ?ha ?hb ?hc ?_; (case ha => (first | omega | (simp (disch := omega) only [zst_ne, zst_s, zup_eq, zup_ne, Int.toNat_natCast, not_true_eq_false, not_false_eq_true, true_or, or_true, true_and, and_true]; first | done | omega) | with_reducible exact True.intro)); (case hb => (first | omega | (simp (disch := omega) only [zst_ne, zst_s, zup_eq, zup_ne, Int.toNat_natCast, not_true_eq_false, not_false_eq_true, true_or, or_true, true_and, and_true]; first | done | omega) | with_reducible exact True.intro)); (case hc => (first | omega | (simp (disch := omega) only [zst_ne, zst_s, zup_eq, zup_ne, Int.toNat_natCast, not_true_eq_false, not_false_eq_true, true_or, or_true, true_and, and_true]; first | done | omega) | with_reducible exact True.intro))) | simp (disch := omega) only [zst_ne, zst_s, zup_eq, zup_ne, Int.toNat_natCast, not_true_eq_false, not_false_eq_true, true_or, or_true, true_and, and_true] | (with_reducible refine zO_br ?ha ?hb (fun _ => ?_) (fun _ => ?_); (case ha => (first | omega | (simp (disch := omega) only [zst_ne, zst_s, zup_eq, zup_ne, Int.toNat_natCast, not_true_eq_false, not_false_eq_true, true_or, or_true, true_and, and_true]; first | done | omega) | with_reducible exact True.intro)); (case hb => (first | omega | (simp (disch := omega) only [zst_ne, zst_s, zup_eq, zup_ne, Int.toNat_natCast, not_true_eq_false, not_false_eq_true, true_or, or_true, true_and, and_true]; first | done | omega) | with_reducible exact True.intro))) | (with_reducible refine zO_ifp ?hc ?_; case hc => (first | omega | (simp (disch := omega) only [zst_ne, zst_s, zup_eq, zup_ne, Int.toNat_natCast, not_true_eq_false, not_false_eq_true, true_or, or_true, true_and, and_true]; first | done | omega) | with_reducible exact True.intro)) | (with_reducible refine zO_ifn ?hc ?_; case hc => (first | omega | (simp (disch := omega) only [zst_ne, zst_s, zup_eq, zup_ne, Int.toNat_natCast, not_true_eq_false, not_false_eq_true, true_or, or_true, true_and, and_true]; first | done | omega) | with_reducible exact True.intro)) | fail)
    refine zO_inr (zO_some ?_)
    have g : zFr zHi M M' := (fA.tr (fB.mono (by decide))).tr (hfr.mono (by decide))
    refine ⟨g, fun c hc => ?_⟩
    rw [show M' 114 = A 114 from (hfr 114 (by decide)).trans b114, show M' 82 = M 82 from g 82 (zHi_n (by omega)), show M' 83 = M 83 from g 83 (zHi_n (by omega)), hI c hc]
    rw [hfr 113 (by decide), hfr 115 (by decide), hfr 117 (by decide), fB 113 (by decide)]
    exact ⟨(hA c hc).1, (hA c hc).2, (hB c hc).1, rfl, (hB c hc).2.2⟩

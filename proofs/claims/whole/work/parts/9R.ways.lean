/-! ship: the best of some ways -/
theorem zVal_c {lf : Nat → Int} {ct : Int} {w w' : Nat → Int} : ∀ n, (∀ p, p < n → w p = w' p) → zVal lf ct w n = zVal lf ct w' n := by
  intro n
  induction n with
  | zero => intro _; rfl
  | succ n ih =>
    intro h
    show zVal lf ct w n * zNo (lf n) ct (w n) / 1000000 = zVal lf ct w' n * zNo (lf n) ct (w' n) / 1000000
    rw [ih (fun p hp => h p (by omega)), h n (by omega)]
theorem zWay_c {P : Nat} {n : Int} {w w' : Nat → Int} (h : zWay P n w) (e : ∀ p, p < P → w p = w' p) : zWay P n w' := ⟨fun p hp => by rw [← e p hp]; exact h.1 p hp, by rw [← h.2]; exact (zsum_congr e).symm⟩
theorem zWay_le {P : Nat} {n : Int} {w : Nat → Int} (h : zWay P n w) {p : Nat} (hp : p < P) : w p ≤ n := by
  have := zsum_at hp h.1
  rw [h.2] at this
  exact this
theorem zVal_i {lf : Nat → Int} {ct : Int} {w : Nat → Int} (hc : 0 ≤ ct ∧ ct ≤ 10) (n : Nat) (h : ∀ p, p < n → (0 ≤ lf p ∧ lf p ≤ 1000000) ∧ 0 ≤ w p ∧ w p ≤ 6) : 0 ≤ zVal lf ct w n ∧ zVal lf ct w n ≤ 1000000 := by
  have h1 := zVal_r (lf := lf) (w := fun p => (w p).toNat) hc n (fun p hp => ⟨(h p hp).1, by have := h p hp; omega⟩)
  rw [zVal_c (w' := w) n (fun p hp => by have := h p hp; omega)] at h1
  exact h1
def zBs (A : (Nat → Int) → Prop) (P : Nat) (lf : Nat → Int) (ct : Int) (v : Int) (b : Nat → Int) (v' : Int) (b' : Nat → Int) : Prop := (v' = v ∧ b' = b ∧ ∀ w, A w → v ≤ zVal lf ct w P) ∨ (A b' ∧ v' = zVal lf ct b' P ∧ v' < v ∧ ∀ w, A w → v' < zVal lf ct w P ∨ (v' = zVal lf ct w P ∧ ((∀ p, p < P → b' p = w p) ∨ zLex P b' w)))
theorem zBs_seq {A B : (Nat → Int) → Prop} {P : Nat} {lf : Nat → Int} {ct v v1 v2 : Int} {b b1 b2 : Nat → Int} (h1 : zBs A P lf ct v b v1 b1) (h2 : zBs B P lf ct v1 b1 v2 b2) (hl : ∀ w w', A w → B w' → zLex P w w') : zBs (fun w => A w ∨ B w) P lf ct v b v2 b2 := by
  rcases h1 with ⟨e1, e2, e3⟩ | ⟨e1, e2, e3, e4⟩
  · subst e1 e2
    rcases h2 with ⟨f1, f2, f3⟩ | ⟨f1, f2, f3, f4⟩
    · exact Or.inl ⟨f1, f2, fun w hw => hw.elim (e3 w) (f3 w)⟩
    · refine Or.inr ⟨Or.inr f1, f2, f3, fun w hw => ?_⟩
      rcases hw with hw | hw
      · exact Or.inl (by have := e3 w hw; omega)
      · exact f4 w hw
  · rcases h2 with ⟨f1, f2, f3⟩ | ⟨f1, f2, f3, f4⟩
    · subst f1 f2
      refine Or.inr ⟨Or.inl e1, e2, e3, fun w hw => ?_⟩
      rcases hw with hw | hw
      · exact e4 w hw
      · have := f3 w hw
        rcases Int.lt_or_le v2 (zVal lf ct w P) with h | h
        · exact Or.inl h
        · exact Or.inr ⟨by omega, Or.inr (hl _ _ e1 hw)⟩
    · refine Or.inr ⟨Or.inr f1, f2, by omega, fun w hw => ?_⟩
      rcases hw with hw | hw
      · refine Or.inl ?_
        rcases e4 w hw with h | h <;> omega
      · exact f4 w hw
theorem zBs_iff {A B : (Nat → Int) → Prop} {P : Nat} {lf : Nat → Int} {ct v v1 : Int} {b b1 : Nat → Int} (h1 : zBs A P lf ct v b v1 b1) (h : ∀ w, A w ↔ B w) : zBs B P lf ct v b v1 b1 := by
  have e : A = B := funext fun w => propext (h w)
  rw [← e]
  exact h1
theorem zBs_no {A : (Nat → Int) → Prop} {P : Nat} {lf : Nat → Int} {ct v : Int} {b : Nat → Int} (h : ∀ w, ¬ A w) : zBs A P lf ct v b v b := Or.inl ⟨rfl, rfl, fun w hw => absurd hw (h w)⟩
/-- the ways that go on from the first p -/
def zAf (P : Nat) (n : Int) (p : Nat) (W w : Nat → Int) : Prop := zWay P n w ∧ ∀ q, q < p → w q = W q
theorem zO_wh1 {σ τ : Type} {P : τ → Prop} {F : σ → Option (σ ⊕ τ)} {n : Nat} {s : σ} (h : zO (F s) (zEl (fun s' => zO (zwh F n s') P) P)) : zO (zwh F (n + 1) s) P := by
  obtain ⟨u, e, hu⟩ := h
  rw [zwh_s, e]
  cases u with
  | inl s' => exact hu
  | inr t => exact ⟨t, rfl, hu⟩
theorem zsum_sp {n m : Nat} {f : Nat → Int} (h : n ≤ m) : zsum m f = zsum n f + zsum (m - n) (fun j => f (n + j)) := by
  have := zsum_app (n := n) (m := m - n) (f := f)
  rw [show n + (m - n) = m by omega] at this
  exact this
theorem zAf_le {P p : Nat} {n : Int} {W w : Nat → Int} (h : zAf P n p W w) (hp : p < P) : zsum p W + w p ≤ n := by
  have h1 := zsum_sp (f := w) (Nat.le_of_lt hp)
  rw [h.1.2, zsum_congr (f := w) (g := W) h.2] at h1
  have h2 := zsum_at (n := P - p) (c := 0) (f := fun j => w (p + j)) (by omega) (fun j hj => h.1.1 (p + j) (by omega))
  simp only [Nat.add_zero] at h2
  omega
theorem zAf_eq {P p : Nat} {n : Int} {W w : Nat → Int} (h : zAf P n p W w) (hp : p + 1 = P) : zsum p W + w p = n := by
  subst hp
  have h1 := h.1.2
  rw [zsum_s, zsum_congr (f := w) (g := W) h.2] at h1
  exact h1
abbrev zLyP (P : Nat) (n : Int) (lf : Nat → Int) (ct : Int) (p : Nat) (M M' : zM) : Prop := zFr [46, 47, 48] M M' ∧ (∀ x, x ≠ 1 → M' 46 x = M 46 x) ∧ (∀ q, q < p → M' 48 q = M 48 q) ∧ (0 ≤ M' 46 1 ∧ M' 46 1 ≤ 1000001)
theorem g9_lay {i P : Nat} {n : Int} {lf : Nat → Int} {ct : Int} (hP : P ≤ 10) (hn : n ≤ 6) (hc : 0 ≤ ct ∧ ct ≤ 10) (hl : ∀ p, p < P → 0 ≤ lf p ∧ lf p ≤ 1000000) : ∀ m f p (t : Nat) (leave : Int) (M : zM), p + m = P → 1 ≤ m → m ≤ f → M 46 4 = (P : Int) → (∀ p, p < P → ∀ j : Nat, j < 7 → M 49 (7 * p + j) = zNo (lf p) ct (j : Int)) → (∀ q, q < p → 0 ≤ M 48 q) → zsum p (M 48) + (t : Int) = n → leave = zVal lf ct (M 48) p → (0 ≤ M 46 1 ∧ M 46 1 ≤ 1000001) → zO (fG_lay (zKn i) f 46 (p : Int) (t : Int) leave M) (fun M' => zLyP P n lf ct p M M' ∧ zBs (zAf P n p (M 48)) P lf ct (M 46 1) (M 47) (M' 46 1) (M' 47)) := by
  intro m
  induction m with
  | zero => intro f p t leave M _ h; omega
  | succ m ih =>
    intro f p t leave M hp _ hf h4 h49 h48 hs hv hr
    obtain ⟨f, rfl⟩ : ∃ g, f = g + 1 := ⟨f - 1, by omega⟩
    have s0 := zsum_nn h48
    have t6 : (t : Int) ≤ 6 := by omega
    have w6 : ∀ q, q < p → 0 ≤ M 48 q ∧ M 48 q ≤ 6 := fun q hq => ⟨h48 q hq, by have := zsum_at hq h48; omega⟩
    have v6 := zVal_i (lf := lf) (w := M 48) hc p (fun q hq => ⟨hl q (by omega), w6 q hq⟩)
    show zO (fo_X9_lay (zKn i) (fG_lay (zKn i) f) 46 (p : Int) (t : Int) leave M) _
    unfold fo_X9_lay
    rw [h4]
    refine zO_brp ⟨by omega, by omega⟩ ⟨by omega, by omega⟩ (by omega) ?_
    rw [eb_X9_lay_27]
    -- one step of the loop: lay j here
    have step : ∀ (j : Nat) (A : zM), j ≤ t → zFr [46, 47, 48] M A → (∀ q, q < p → A 48 q = M 48 q) → zVal lf ct (zst A 48 p (j : Int) 48) (p + 1) = leave * zNo (lf p) ct (j : Int) / 1000000 ∧ (0 ≤ leave * zNo (lf p) ct (j : Int) ∧ leave * zNo (lf p) ct (j : Int) ≤ 1000000 * 1000000) ∧ zsum (p + 1) (zst A 48 p (j : Int) 48) = zsum p (M 48) + (j : Int) ∧ (∀ q, q < p + 1 → 0 ≤ zst A 48 p (j : Int) 48 q) ∧ (∀ q, q < p → zst A 48 p (j : Int) 48 q = M 48 q) ∧ zst A 48 p (j : Int) 48 p = (j : Int) ∧ A 49 (7 * p + j) = zNo (lf p) ct (j : Int) := by
      intro j A hj hF hq
      have e1 : ∀ q, q < p → zst A 48 p (j : Int) 48 q = M 48 q := fun q hq' => by rw [zst_ns (by omega)]; exact hq q hq'
      have e2 : zst A 48 p (j : Int) 48 p = (j : Int) := zst_eq
      have n6 := zNo_r (lf := lf p) (ct := ct) (k := j) (hl p (by omega)) hc (by omega)
      refine ⟨?_, ⟨Int.mul_nonneg (by omega) n6.1, Int.mul_le_mul (by omega) n6.2 n6.1 (by omega)⟩, ?_, ?_, e1, e2, ?_⟩
      · show zVal lf ct (zst A 48 p (j : Int) 48) p * zNo (lf p) ct (zst A 48 p (j : Int) 48 p) / 1000000 = _
        rw [zVal_c (w' := M 48) p e1, e2, hv]
      · rw [zsum_s, zsum_congr e1, e2]
      · intro q hq'
        by_cases e : q = p
        · subst e; rw [e2]; omega
        · rw [e1 q (by omega)]; exact h48 q (by omega)
      · rw [hF 49 (by decide)]
        exact h49 p (by omega) j (by omega)
    by_cases hm : m = 0
    · -- the last place
      subst hm
      refine zO_b1e (zbr_n ⟨by omega, by omega⟩ ⟨by omega, by omega⟩ (by omega)) (zO_b1 ?_)
      show zO (zwh (fun s : Int × zM => gb_X9_lay_27 (zKn i) (fG_lay (zKn i) f) (p : Int) (t : Int) leave 1 s.1 s.2) (999999 + 1) ((t : Int), M)) _
      refine zO_wh1 ?_
      obtain ⟨k1, k2, k3, k4, k5, k6, k7⟩ := step t M (Nat.le_refl t) zFr_refl (fun _ _ => rfl)
      have hw : ∀ w, zAf P n p (M 48) w → ∀ q, q < P → w q = zst M 48 p (t : Int) 48 q := by
        intro w hw q hq
        have := zAf_eq hw (by omega)
        by_cases e : q = p
        · subst e; rw [k6]; omega
        · rw [k5 q (by omega)]; exact hw.2 q (by omega)
      have hA : zWay P n (zst M 48 p (t : Int) 48) := by
        rw [show P = p + 1 by omega]
        exact ⟨k4, by rw [k3]; exact hs⟩
      have hvl : zVal lf ct (zst M 48 p (t : Int) 48) P = leave * zNo (lf p) ct (t : Int) / 1000000 := by
        rw [show P = p + 1 by omega]
        exact k1
      have d0 : 0 ≤ leave * zNo (lf p) ct (t : Int) / 1000000 := Int.ediv_nonneg k2.1 (by omega)
      have d1 : leave * zNo (lf p) ct (t : Int) / 1000000 ≤ 1000000 := by omega
      -- after it the loop ends
      have fin : ∀ A : zM, zO (gb_X9_lay_27 (zKn i) (fG_lay (zKn i) f) (p : Int) (t : Int) leave 1 ((t : Int) + -1) A) (fun u => u = .inr A) := by
        intro A
        rw [gb_X9_lay_27]
        exact zO_b1e (zbr_n ⟨by omega, by omega⟩ ⟨by omega, by omega⟩ (by omega)) (zO_brp ⟨by omega, by omega⟩ ⟨by omega, by omega⟩ (by omega) (zO_some rfl))
      have fin' : ∀ A : zM, (zLyP P n lf ct p M A ∧ zBs (zAf P n p (M 48)) P lf ct (M 46 1) (M 47) (A 46 1) (A 47)) → zO (zwh (fun s : Int × zM => gb_X9_lay_27 (zKn i) (fG_lay (zKn i) f) (p : Int) (t : Int) leave 1 s.1 s.2) 999999 ((t : Int) + -1, A)) (fun a => zO (some a) (fun M' => zLyP P n lf ct p M M' ∧ zBs (zAf P n p (M 48)) P lf ct (M 46 1) (M 47) (M' 46 1) (M' 47))) := by
        intro A hA'
        refine zO_wh1 (n := 999998) (zO_mono (fin A) ?_)
        rintro u rfl
        exact zO_some hA'
      show zO (gb_X9_lay_27 (zKn i) (fG_lay (zKn i) f) (p : Int) (t : Int) leave 1 (t : Int) M) _
      rw [gb_X9_lay_27]
      refine zO_b1e (zbr_n ⟨by omega, by omega⟩ ⟨by omega, by omega⟩ (by omega)) (zO_brn ⟨by omega, by omega⟩ ⟨by omega, by omega⟩ (by omega) (zO_gd (by omega) (zO_lte (fun D hD' => zO_gd (by omega) ?_))))
      have hD : zst M 48 p (t : Int) = D := by rw [hD', Int.toNat_natCast]
      clear hD'
      simp only [hD] at k1 k3 k4 k5 k6 hw hA hvl
      have D46 : D 46 = M 46 := by rw [← hD]; exact zst_ne (by decide)
      have D47 : D 47 = M 47 := by rw [← hD]; exact zst_ne (by decide)
      have D49 : D 49 ((p : Int) * 7 + (t : Int)).toNat = zNo (lf p) ct (t : Int) := by
        rw [show ((p : Int) * 7 + (t : Int)).toNat = 7 * p + t by omega, ← k7, ← hD, zst_ne (by decide)]
      have DF : zFr [46, 47, 48] M D := by rw [← hD]; exact zFr.st1 (by decide)
      rw [D49, D46]
      refine zO_gd ⟨k2.1, by omega⟩ (zO_lt (zO_brp (by omega) (by omega) (by omega) ?_))
      refine zO_bl ⟨by omega, by omega⟩ ⟨by omega, by omega⟩ (fun hle => zO_lt (zO_some (fin' D ?_))) (fun hgt => ?_)
      · refine ⟨⟨DF, fun x _ => by rw [D46], k5, by rw [D46]; exact hr⟩, Or.inl ⟨by rw [D46], D47, fun w hw' => ?_⟩⟩
        rw [zVal_c P (hw w hw'), hvl]
        exact hle
      · refine zO_lt (zO_gd ⟨by omega, by omega, by omega⟩ (zO_lt (zO_lt (zO_some (fin' _ ?_)))))
        simp only [show Int.toNat 10 = 10 from rfl]
        have e47 : ∀ q, q < 10 → zcp (zst D 46 1 (leave * zNo (lf p) ct (t : Int) / 1000000)) 48 47 10 47 q = D 48 q := fun q hq => by rw [zcp_in hq, zst_ne (by decide)]
        have e46 : zcp (zst D 46 1 (leave * zNo (lf p) ct (t : Int) / 1000000)) 48 47 10 46 1 = leave * zNo (lf p) ct (t : Int) / 1000000 := by rw [zcp_ne (by decide), zst_eq]
        refine ⟨⟨?_, ?_, ?_, by rw [e46]; omega⟩, Or.inr ⟨⟨zWay_c hA (fun q hq => (e47 q (by omega)).symm), fun q hq => by rw [e47 q (by omega)]; exact k5 q hq⟩, ?_, by rw [e46]; omega, fun w hw' => Or.inr ⟨?_, Or.inl (fun q hq => ?_)⟩⟩⟩
        · intro q hq
          rw [zcp_ne (fun e => hq (by rw [e]; decide)), zst_ne (fun e => hq (by rw [e]; decide)), DF q hq]
        · intro x hx
          rw [zcp_ne (by decide), zst_ns (by omega), D46]
        · intro q hq
          rw [zcp_ne (by decide), zst_ne (by decide)]
          exact k5 q hq
        · rw [e46, ← hvl]
          exact zVal_c P (fun q hq => (e47 q (by omega)).symm)
        · rw [e46, zVal_c P (hw w hw'), hvl]
        · rw [e47 q (by omega), hw w hw' q hq]
    · -- places follow
      refine zO_b1e (zbr_p ⟨by omega, by omega⟩ ⟨by omega, by omega⟩ (by omega)) (zO_b1 ?_)
      unfold zw2
      refine zO_down (fun s => s.1) (t + 1) (fun j s => zLyP P n lf ct p M s.2 ∧ zBs (fun w => zAf P n p (M 48) w ∧ (j : Int) ≤ w p) P lf ct (M 46 1) (M 47) (s.2 46 1) (s.2 47)) ?_ ?_ (by omega) (by dsimp only; omega) ⟨⟨zFr_refl, fun _ _ => rfl, fun _ _ => rfl, hr⟩, zBs_no (fun w hw => by have := zAf_le hw.1 (by omega); have := hw.2; omega)⟩
      · rintro j ⟨y, A⟩ hj hcnt ⟨⟨a1, a2, a3, a4⟩, a5⟩
        dsimp only at *
        subst hcnt
        obtain ⟨k1, k2, k3, k4, k5, k6, k7⟩ := step j A (by omega) a1 a3
        rw [gb_X9_lay_27]
        refine zO_b1e (zbr_p (by omega) (by omega) (by omega)) (zO_brn ⟨by omega, by omega⟩ ⟨by omega, by omega⟩ (by omega) (zO_gd (by omega) (zO_lte (fun D hD' => zO_gd (by omega) ?_))))
        have hD : zst A 48 p (j : Int) = D := by rw [hD', Int.toNat_natCast]
        clear hD'
        simp only [hD] at k1 k3 k4 k5 k6
        have D46 : D 46 = A 46 := by rw [← hD]; exact zst_ne (by decide)
        have D47 : D 47 = A 47 := by rw [← hD]; exact zst_ne (by decide)
        have DF : zFr [46, 47, 48] M D := by rw [← hD]; exact a1.st (by decide)
        have D49 : D 49 ((p : Int) * 7 + (j : Int)).toNat = zNo (lf p) ct (j : Int) := by
          rw [show ((p : Int) * 7 + (j : Int)).toNat = 7 * p + j by omega, ← k7, ← hD, zst_ne (by decide)]
        rw [D49]
        refine zO_gd ⟨k2.1, by omega⟩ (zO_lt (zO_brn (by omega) (by omega) (by omega) ?_))
        have hrec := ih f (p + 1) (t - j) (leave * zNo (lf p) ct (j : Int) / 1000000) D (by omega) (by omega) (by omega) (by rw [D46, a2 4 (by decide)]; exact h4) (by rw [DF 49 (by decide)]; exact h49) k4 (by rw [k3]; omega) k1.symm (by rw [D46]; exact a4)
        rw [show ((p + 1 : Nat) : Int) = (p : Int) + 1 by omega, show ((t - j : Nat) : Int) = (t : Int) - (j : Int) by omega] at hrec
        refine zO_b1q hrec ?_
        rintro B ⟨⟨b1, b2, b3, b4⟩, b5⟩
        refine zO_lt (zO_some ⟨by dsimp only; omega, ⟨DF.tr b1, fun x hx => by dsimp only; rw [b2 x hx, D46, a2 x hx], fun q hq => by dsimp only; rw [b3 q (by omega)]; exact k5 q hq, b4⟩, ?_⟩)
        dsimp only
        rw [D46, D47] at b5
        refine zBs_iff (zBs_seq a5 b5 ?_) ?_
        · rintro w w' ⟨⟨_, w1⟩, w2⟩ ⟨_, w3⟩
          refine ⟨p, by omega, fun q hq => ?_, ?_⟩
          · rw [w1 q hq, w3 q (by omega), k5 q hq]
          · rw [w3 p (by omega), k6]; omega
        · intro w
          constructor
          · rintro (⟨h1, h2⟩ | ⟨h1, h2⟩)
            · exact ⟨h1, by omega⟩
            · exact ⟨⟨h1, fun q hq => by rw [h2 q (by omega), k5 q hq]⟩, by rw [h2 p (by omega), k6]; omega⟩
          · rintro ⟨⟨h1, h2⟩, h3⟩
            by_cases e : w p = (j : Int)
            · refine Or.inr ⟨h1, fun q hq => ?_⟩
              by_cases e' : q = p
              · subst e'; rw [e, k6]
              · rw [h2 q (by omega), k5 q (by omega)]
            · exact Or.inl ⟨⟨h1, h2⟩, by omega⟩
      · rintro ⟨y, A⟩ hcnt ⟨a1, a5⟩
        dsimp only at *
        subst hcnt
        rw [gb_X9_lay_27]
        refine zO_b1e (zbr_p (by omega) (by omega) (by omega)) (zO_brp ⟨by omega, by omega⟩ ⟨by omega, by omega⟩ (by omega) (zO_inr (show zO _ _ from zO_some ⟨a1, zBs_iff a5 (fun w => ⟨fun h => h.1, fun h => ⟨h, ?_⟩⟩)⟩)))
        exact h.1.1 p (by omega)
